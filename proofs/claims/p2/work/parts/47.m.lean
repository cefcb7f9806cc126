abbrev P_X12_seed_1 (ad : Nat → Nat) (cy : Nat → ClassId) (B : Int) (qr : Nat) (s1 : Int) (a1 : Int32) (w0 : va_W) : Int32 → va_W → Prop := fun r u => TW ksM ad cy B qr 12 u ∧ FE ksM [(71, 9, 9)] w0 u ∧ ((0 ≤ r.toInt ∧ 0 ≤ a1.toInt) ∨ (r = (-1) ∧ a1.toInt ≤ (-1)))
set_option maxHeartbeats 4000000 in
set_option maxRecDepth 100000 in
theorem k_X12_seed_1 (l : Launch) (adK adV : Nat → Nat) (dC : Nat → ClassId) (dI : Nat → Nat → Nat) (cy : Nat → ClassId) (ad : Nat → Nat) (B : Int) (hB0 : 100000 ≤ B) (hB1 : B ≤ 1073741824) (qr : Nat) (s1 : Int)  (a1 : Int32) (w0 : va_W) (sz : Nat) (hT : TW ksM ad cy B qr 12 w0)  : Met l yX12_seed wsX12_seed ({ frames := 1, cells := 0, slots := 0, locals := 12 }) (va_Pc [.ref (ad 0), .int a1] (wpreS adK adV dC dI cy sz w0)) (va_Qi (P_X12_seed_1 ad cy B qr s1 a1 w0) (fun u : va_W => wpost dC dI cy (va_A w0 sz) u) (va_A w0 sz)) 0 0 (va_A w0 sz) := by
  refine Met.ofW (cc := cX12_seed) (maxL := 3) (ret := (some .int)) (by decide) rfl ?_
  intro p e s m args below meth c s₁ Bk hml hv
  obtain ⟨rfl, ⟨hsz, hP, hK, hD0⟩, hE, hSR⟩ := hv
  have hx := Bk.exec
  have hb := Bk.bytes
  have hr := Bk.returns
  have hlocks := Bk.notSynchronized
  have hC : CallFix p m c cX12_seed 3 s _ wsX12_seed RX12 := ⟨hx, hb, hml, findClass_of_methodNamed Bk.named, atoms_spec (ws := wsX12_seed) Bk.pre⟩
  subst hsz
  have hD := hD0.self (sz := s.heap.size)
  generalize hAe : va_A w0 s.heap.size = A at hD hE ⊢
  have hA : ∀ q : Nat, s.heap.size ≤ q → A q := fun q h => by rw [← hAe]; exact Or.inr h
  have hw : Wd dC dI A s.heap s.heap [] w0 := ⟨hP, hD, va_S.rf⟩
  have hF : FE ksM [(71, 9, 9)] w0 w0 := FE.rf
  have hl := lv_entry ([.ref (ad 0), .int a1]) (n := 3) (Nat.le_of_ble_eq_true rfl)
  rw [lg_entry_eq]
  generalize (lg_sl ([.ref (ad 0), .int a1]) ++ List.replicate (3 - (lg_sl ([.ref (ad 0), .int a1])).length) Slot.unset).toArray = ls at hl ⊢
  have hl : lv_has ls 3 [(0, .ref (ad 0)), (1, .int a1)] := hl
  generalize hloc : ([] : List Loc) = locs at hw ⊢
  have hinX12 : ∀ w ∈ u_ws RX12 TX12 42, w ∈ wsX12_seed := fun _ h => List.mem_cons_of_mem _ (List.mem_append_right _ (h))
  refine lv_iload_n hx hb dX12_seed_0 rfl (lv_at hl 1 rfl) ?_
  refine lv_if_ge (tgt := 6) hx hb dX12_seed_1 (by decide) (fun c1 => ?_) (fun c1 => ?_)
  · have c1 : (0 : Int) ≤ a1.toInt := wk_le.mp c1
    refine lv_aload_n hx hb dX12_seed_6 rfl (lv_at hl 0 rfl) ?_
    refine tk_getA hC hK hw hT hinX12 kM_at0 (by decide) rfl 26 (by decide) (List.mem_of_getElem? (i := 1) rfl) rfl rfl dX12_seed_7 ?_
    refine lv_bipush (v := 9) hx hb dX12_seed_10 (by decide) ?_
    refine tk_ialdR hC hK hw hT kM_at12 rfl (by decide) (by decide) dX12_seed_12 (fun x2 c3 Ex2 => ?_)
    have bx2 := tk_rgI rfl 9 1 1 0 2147483647 (by decide +kernel) ⟨0, by decide, by decide⟩ Ex2
    have c3 : gi w0 12 9 = x2 := c3
    refine lv_istore_n (lv' := [(2, .int x2), (0, .ref (ad 0)), (1, .int a1)]) hx hb dX12_seed_13 rfl hl (by decide) rfl (fun ls hl => ?_)
    refine lv_aload_n hx hb dX12_seed_14 rfl (lv_at hl 1 rfl) ?_
    refine tk_getA hC hK hw hT hinX12 kM_at0 (by decide) rfl 26 (by decide) (List.mem_of_getElem? (i := 1) rfl) rfl rfl dX12_seed_15 ?_
    refine lv_bipush (v := 9) hx hb dX12_seed_18 (by decide) ?_
    refine lv_iload_n hx hb dX12_seed_20 rfl (lv_at hl 2 rfl) ?_
    refine tk_iastR hC hK hw hT kM_at12 (by decide) rfl (by decide) (by decide) (tk_rgS rfl 9 1 1 0 2147483647 (by decide +kernel) ⟨0, by decide, by decide⟩ (show 0 ≤ a1.toInt by omega) (wk_i32 a1).2) dX12_seed_21 (fun H locs w4 hw hT k6 c5 => ?_)
    have hF := hF.put kM_at12 (inE_of (a := 9) (b := 9) (by decide) (by decide) (by decide)) k6
    have c5 : gi w4 12 9 = a1 := c5
    refine lv_iload_n hx hb dX12_seed_22 rfl (lv_at hl 0 rfl) ?_
    exact tk_iret hC hr hlocks hK ⟨hT, hF, (Or.inl ⟨(show 0 ≤ x2.toInt by omega), (show 0 ≤ a1.toInt by omega)⟩)⟩ hw dX12_seed_23
  · have c1 : a1.toInt < (0 : Int) := wk_leF c1
    refine lv_iconst (v := (-1)) hx hb dX12_seed_4 (by decide) ?_
    exact tk_iret hC hr hlocks hK ⟨hT, hF, (Or.inr ⟨rfl, (show a1.toInt ≤ (-1) by omega)⟩)⟩ hw dX12_seed_5
abbrev P_X12_draw_1 (ad : Nat → Nat) (cy : Nat → ClassId) (B : Int) (qr : Nat) (s1 : Int) (a1 : Int32) (w0 : va_W) : Int32 → va_W → Prop := fun r u => TW ksM ad cy B qr 12 u ∧ FE ksM [(12, 39, 39)] w0 u ∧ ((0 ≤ r.toInt ∧ r.toInt ≤ 9))
set_option maxHeartbeats 4000000 in
set_option maxRecDepth 100000 in
theorem k_X12_draw_1 (l : Launch) (adK adV : Nat → Nat) (dC : Nat → ClassId) (dI : Nat → Nat → Nat) (cy : Nat → ClassId) (ad : Nat → Nat) (B : Int) (hB0 : 100000 ≤ B) (hB1 : B ≤ 1073741824) (qr : Nat) (s1 : Int)  (a1 : Int32) (ra1 : 1 ≤ a1.toInt) (ta1 : a1.toInt ≤ 10) (w0 : va_W) (sz : Nat) (hT : TW ksM ad cy B qr 12 w0)  : Met l yX12_draw wsX12_draw ({ frames := 1, cells := 0, slots := 0, locals := 12 }) (va_Pc [.ref (ad 0), .int a1] (wpreS adK adV dC dI cy sz w0)) (va_Qi (P_X12_draw_1 ad cy B qr s1 a1 w0) (fun u : va_W => wpost dC dI cy (va_A w0 sz) u) (va_A w0 sz)) 0 0 (va_A w0 sz) := by
  refine Met.ofW (cc := cX12_draw) (maxL := 2) (ret := (some .int)) (by decide) rfl ?_
  intro p e s m args below meth c s₁ Bk hml hv
  obtain ⟨rfl, ⟨hsz, hP, hK, hD0⟩, hE, hSR⟩ := hv
  have hx := Bk.exec
  have hb := Bk.bytes
  have hr := Bk.returns
  have hlocks := Bk.notSynchronized
  have hC : CallFix p m c cX12_draw 2 s _ wsX12_draw RX12 := ⟨hx, hb, hml, findClass_of_methodNamed Bk.named, atoms_spec (ws := wsX12_draw) Bk.pre⟩
  subst hsz
  have hD := hD0.self (sz := s.heap.size)
  generalize hAe : va_A w0 s.heap.size = A at hD hE ⊢
  have hA : ∀ q : Nat, s.heap.size ≤ q → A q := fun q h => by rw [← hAe]; exact Or.inr h
  have hw : Wd dC dI A s.heap s.heap [] w0 := ⟨hP, hD, va_S.rf⟩
  have hF : FE ksM [(12, 39, 39)] w0 w0 := FE.rf
  have hl := lv_entry ([.ref (ad 0), .int a1]) (n := 2) (Nat.le_of_ble_eq_true rfl)
  rw [lg_entry_eq]
  generalize (lg_sl ([.ref (ad 0), .int a1]) ++ List.replicate (2 - (lg_sl ([.ref (ad 0), .int a1])).length) Slot.unset).toArray = ls at hl ⊢
  have hl : lv_has ls 2 [(0, .ref (ad 0)), (1, .int a1)] := hl
  generalize hloc : ([] : List Loc) = locs at hw ⊢
  have hinX12 : ∀ w ∈ u_ws RX12 TX12 42, w ∈ wsX12_draw := fun _ h => List.mem_cons_of_mem _ (List.mem_append_right _ (h))
  refine lv_aload_n hx hb dX12_draw_0 rfl (lv_at hl 0 rfl) ?_
  refine lv_aload_n hx hb dX12_draw_1 rfl (lv_at hl 0 rfl) ?_
  refine tk_getl hC hK hw hT hinX12 kM_at0 (by decide) rfl 39 (by decide) (List.mem_of_getElem? (i := 1) rfl) rfl rfl dX12_draw_2 (fun x1 c2 rx1 tx1 => ?_)
  refine lv_ldc2 (v := 1103515245) hx hb hC.2.2.2.1 (hC.2.2.2.2 _ (List.mem_of_getElem? (i := 2) rfl)) dX12_draw_5 ?_
  refine lv_lmul hx hb dX12_draw_8 ?_
  refine lv_topl (fun x3 ex3 => ?_)
  have ex3 : x3.toInt = x1.toInt * (1103515245 : Int) := by rw [ex3]; exact wk_mull (show (-9223372036854775808) ≤ x1.toInt * (1103515245 : Int) by omega) (show x1.toInt * (1103515245 : Int) ≤ 9223372036854775807 by omega)
  refine lv_ldc2 (v := 12345) hx hb hC.2.2.2.1 (hC.2.2.2.2 _ (List.mem_of_getElem? (i := 3) rfl)) dX12_draw_9 ?_
  refine lv_ladd hx hb dX12_draw_12 ?_
  refine lv_topl (fun x4 ex4 => ?_)
  have ex4 : x4.toInt = x3.toInt + (12345 : Int) := by rw [ex4]; exact wk_addl (show (-9223372036854775808) ≤ x3.toInt + (12345 : Int) by omega) (show x3.toInt + (12345 : Int) ≤ 9223372036854775807 by omega)
  refine lv_ldc2 (v := 2147483648) hx hb hC.2.2.2.1 (hC.2.2.2.2 _ (List.mem_of_getElem? (i := 4) rfl)) dX12_draw_13 ?_
  refine lv_lrem hx hb dX12_draw_16 (by decide) ?_
  refine lv_topl (fun x5 ex5 => ?_)
  have ex5 : x5.toInt = x4.toInt % (2147483648 : Int) := by rw [ex5]; exact wk_reml (show 0 ≤ x4.toInt by omega) (show 0 < (2147483648 : Int) by decide)
  refine tk_putl hC hK hw hT hinX12 tyX12_ok nmX12 kM_at0 (by decide) rfl rfl 39 (by decide) (List.mem_of_getElem? (i := 1) rfl) rfl rfl rfl rfl (show 0 ≤ x5.toInt by omega) (show x5.toInt ≤ 2147483648 by omega) dX12_draw_17 (fun H locs w6 hw hT k8 c7 => ?_)
  have hF := hF.put kM_at0 (k := 39) (by decide) k8
  refine lv_aload_n hx hb dX12_draw_20 rfl (lv_at hl 0 rfl) ?_
  refine tk_getl hC hK hw hT hinX12 kM_at0 (by decide) rfl 39 (by decide) (List.mem_of_getElem? (i := 1) rfl) rfl rfl dX12_draw_21 (fun x9 c10 rx9 tx9 => ?_)
  refine wk_topl x5 (c10.symm.trans c7) ?_
  refine lv_ldc2 (v := 65536) hx hb hC.2.2.2.1 (hC.2.2.2.2 _ (List.mem_of_getElem? (i := 5) rfl)) dX12_draw_24 ?_
  refine lv_ldiv hx hb dX12_draw_27 (by decide) ?_
  refine lv_topl (fun x11 ex11 => ?_)
  have ex11 : x11.toInt = x5.toInt / (65536 : Int) := by rw [ex11]; exact wk_divl (show 0 ≤ x5.toInt by omega) (show 0 < (65536 : Int) by decide)
  refine lv_iload_n hx hb dX12_draw_28 rfl (lv_at hl 1 rfl) ?_
  refine lv_i2l hx hb dX12_draw_29 rfl ?_
  refine lv_topl (fun x12 ex12 => ?_)
  have ex12 : x12.toInt = a1.toInt := by rw [ex12]; exact wk_i2l _
  have bx12 := wk_i32 a1
  refine lv_lrem hx hb dX12_draw_30 (fun h => absurd (show x12.toInt = 0 from wk_eql.mp h) (by omega)) ?_
  refine lv_topl (fun x13 ex13 => ?_)
  have bx13 : 0 ≤ x13.toInt ∧ x13.toInt < x12.toInt := by rw [ex13]; exact wk_remRl (by omega) (by omega)
  refine lv_l2i hx hb dX12_draw_31 rfl ?_
  refine lv_topi (fun x14 ex14 => ?_)
  have ex14 : x14.toInt = x13.toInt := by rw [ex14]; exact wk_l2i (by omega) (by omega)
  exact tk_iret hC hr hlocks hK ⟨hT, hF, ⟨(show 0 ≤ x14.toInt by omega), (show x14.toInt ≤ 9 by omega)⟩⟩ hw dX12_draw_32
abbrev P_X12_draw_2 (ad : Nat → Nat) (cy : Nat → ClassId) (B : Int) (qr : Nat) (s1 : Int) (a1 : Int32) (w0 : va_W) : Int32 → va_W → Prop := fun r u => TW ksM ad cy B qr 12 u ∧ FE ksM [(12, 39, 39)] w0 u ∧ ((0 ≤ r.toInt ∧ r.toInt ≤ 3))
set_option maxHeartbeats 4000000 in
set_option maxRecDepth 100000 in
theorem k_X12_draw_2 (l : Launch) (adK adV : Nat → Nat) (dC : Nat → ClassId) (dI : Nat → Nat → Nat) (cy : Nat → ClassId) (ad : Nat → Nat) (B : Int) (hB0 : 100000 ≤ B) (hB1 : B ≤ 1073741824) (qr : Nat) (s1 : Int)  (a1 : Int32) (ra1 : 1 ≤ a1.toInt) (ta1 : a1.toInt ≤ 4) (w0 : va_W) (sz : Nat) (hT : TW ksM ad cy B qr 12 w0)  : Met l yX12_draw wsX12_draw ({ frames := 1, cells := 0, slots := 0, locals := 12 }) (va_Pc [.ref (ad 0), .int a1] (wpreS adK adV dC dI cy sz w0)) (va_Qi (P_X12_draw_2 ad cy B qr s1 a1 w0) (fun u : va_W => wpost dC dI cy (va_A w0 sz) u) (va_A w0 sz)) 0 0 (va_A w0 sz) := by
  refine Met.ofW (cc := cX12_draw) (maxL := 2) (ret := (some .int)) (by decide) rfl ?_
  intro p e s m args below meth c s₁ Bk hml hv
  obtain ⟨rfl, ⟨hsz, hP, hK, hD0⟩, hE, hSR⟩ := hv
  have hx := Bk.exec
  have hb := Bk.bytes
  have hr := Bk.returns
  have hlocks := Bk.notSynchronized
  have hC : CallFix p m c cX12_draw 2 s _ wsX12_draw RX12 := ⟨hx, hb, hml, findClass_of_methodNamed Bk.named, atoms_spec (ws := wsX12_draw) Bk.pre⟩
  subst hsz
  have hD := hD0.self (sz := s.heap.size)
  generalize hAe : va_A w0 s.heap.size = A at hD hE ⊢
  have hA : ∀ q : Nat, s.heap.size ≤ q → A q := fun q h => by rw [← hAe]; exact Or.inr h
  have hw : Wd dC dI A s.heap s.heap [] w0 := ⟨hP, hD, va_S.rf⟩
  have hF : FE ksM [(12, 39, 39)] w0 w0 := FE.rf
  have hl := lv_entry ([.ref (ad 0), .int a1]) (n := 2) (Nat.le_of_ble_eq_true rfl)
  rw [lg_entry_eq]
  generalize (lg_sl ([.ref (ad 0), .int a1]) ++ List.replicate (2 - (lg_sl ([.ref (ad 0), .int a1])).length) Slot.unset).toArray = ls at hl ⊢
  have hl : lv_has ls 2 [(0, .ref (ad 0)), (1, .int a1)] := hl
  generalize hloc : ([] : List Loc) = locs at hw ⊢
  have hinX12 : ∀ w ∈ u_ws RX12 TX12 42, w ∈ wsX12_draw := fun _ h => List.mem_cons_of_mem _ (List.mem_append_right _ (h))
  refine lv_aload_n hx hb dX12_draw_0 rfl (lv_at hl 0 rfl) ?_
  refine lv_aload_n hx hb dX12_draw_1 rfl (lv_at hl 0 rfl) ?_
  refine tk_getl hC hK hw hT hinX12 kM_at0 (by decide) rfl 39 (by decide) (List.mem_of_getElem? (i := 1) rfl) rfl rfl dX12_draw_2 (fun x1 c2 rx1 tx1 => ?_)
  refine lv_ldc2 (v := 1103515245) hx hb hC.2.2.2.1 (hC.2.2.2.2 _ (List.mem_of_getElem? (i := 2) rfl)) dX12_draw_5 ?_
  refine lv_lmul hx hb dX12_draw_8 ?_
  refine lv_topl (fun x3 ex3 => ?_)
  have ex3 : x3.toInt = x1.toInt * (1103515245 : Int) := by rw [ex3]; exact wk_mull (show (-9223372036854775808) ≤ x1.toInt * (1103515245 : Int) by omega) (show x1.toInt * (1103515245 : Int) ≤ 9223372036854775807 by omega)
  refine lv_ldc2 (v := 12345) hx hb hC.2.2.2.1 (hC.2.2.2.2 _ (List.mem_of_getElem? (i := 3) rfl)) dX12_draw_9 ?_
  refine lv_ladd hx hb dX12_draw_12 ?_
  refine lv_topl (fun x4 ex4 => ?_)
  have ex4 : x4.toInt = x3.toInt + (12345 : Int) := by rw [ex4]; exact wk_addl (show (-9223372036854775808) ≤ x3.toInt + (12345 : Int) by omega) (show x3.toInt + (12345 : Int) ≤ 9223372036854775807 by omega)
  refine lv_ldc2 (v := 2147483648) hx hb hC.2.2.2.1 (hC.2.2.2.2 _ (List.mem_of_getElem? (i := 4) rfl)) dX12_draw_13 ?_
  refine lv_lrem hx hb dX12_draw_16 (by decide) ?_
  refine lv_topl (fun x5 ex5 => ?_)
  have ex5 : x5.toInt = x4.toInt % (2147483648 : Int) := by rw [ex5]; exact wk_reml (show 0 ≤ x4.toInt by omega) (show 0 < (2147483648 : Int) by decide)
  refine tk_putl hC hK hw hT hinX12 tyX12_ok nmX12 kM_at0 (by decide) rfl rfl 39 (by decide) (List.mem_of_getElem? (i := 1) rfl) rfl rfl rfl rfl (show 0 ≤ x5.toInt by omega) (show x5.toInt ≤ 2147483648 by omega) dX12_draw_17 (fun H locs w6 hw hT k8 c7 => ?_)
  have hF := hF.put kM_at0 (k := 39) (by decide) k8
  refine lv_aload_n hx hb dX12_draw_20 rfl (lv_at hl 0 rfl) ?_
  refine tk_getl hC hK hw hT hinX12 kM_at0 (by decide) rfl 39 (by decide) (List.mem_of_getElem? (i := 1) rfl) rfl rfl dX12_draw_21 (fun x9 c10 rx9 tx9 => ?_)
  refine wk_topl x5 (c10.symm.trans c7) ?_
  refine lv_ldc2 (v := 65536) hx hb hC.2.2.2.1 (hC.2.2.2.2 _ (List.mem_of_getElem? (i := 5) rfl)) dX12_draw_24 ?_
  refine lv_ldiv hx hb dX12_draw_27 (by decide) ?_
  refine lv_topl (fun x11 ex11 => ?_)
  have ex11 : x11.toInt = x5.toInt / (65536 : Int) := by rw [ex11]; exact wk_divl (show 0 ≤ x5.toInt by omega) (show 0 < (65536 : Int) by decide)
  refine lv_iload_n hx hb dX12_draw_28 rfl (lv_at hl 1 rfl) ?_
  refine lv_i2l hx hb dX12_draw_29 rfl ?_
  refine lv_topl (fun x12 ex12 => ?_)
  have ex12 : x12.toInt = a1.toInt := by rw [ex12]; exact wk_i2l _
  have bx12 := wk_i32 a1
  refine lv_lrem hx hb dX12_draw_30 (fun h => absurd (show x12.toInt = 0 from wk_eql.mp h) (by omega)) ?_
  refine lv_topl (fun x13 ex13 => ?_)
  have bx13 : 0 ≤ x13.toInt ∧ x13.toInt < x12.toInt := by rw [ex13]; exact wk_remRl (by omega) (by omega)
  refine lv_l2i hx hb dX12_draw_31 rfl ?_
  refine lv_topi (fun x14 ex14 => ?_)
  have ex14 : x14.toInt = x13.toInt := by rw [ex14]; exact wk_l2i (by omega) (by omega)
  exact tk_iret hC hr hlocks hK ⟨hT, hF, ⟨(show 0 ≤ x14.toInt by omega), (show x14.toInt ≤ 3 by omega)⟩⟩ hw dX12_draw_32
abbrev P_X12_draw_3 (ad : Nat → Nat) (cy : Nat → ClassId) (B : Int) (qr : Nat) (s1 : Int)  (w0 : va_W) : Int32 → va_W → Prop := fun r u => TW ksM ad cy B qr 12 u ∧ FE ksM [(12, 39, 39)] w0 u ∧ ((0 ≤ r.toInt ∧ r.toInt ≤ 167))
set_option maxHeartbeats 4000000 in
set_option maxRecDepth 100000 in
theorem k_X12_draw_3 (l : Launch) (adK adV : Nat → Nat) (dC : Nat → ClassId) (dI : Nat → Nat → Nat) (cy : Nat → ClassId) (ad : Nat → Nat) (B : Int) (hB0 : 100000 ≤ B) (hB1 : B ≤ 1073741824) (qr : Nat) (s1 : Int)   (w0 : va_W) (sz : Nat) (hT : TW ksM ad cy B qr 12 w0)  : Met l yX12_draw wsX12_draw ({ frames := 1, cells := 0, slots := 0, locals := 12 }) (va_Pc [.ref (ad 0), .int 168] (wpreS adK adV dC dI cy sz w0)) (va_Qi (P_X12_draw_3 ad cy B qr s1  w0) (fun u : va_W => wpost dC dI cy (va_A w0 sz) u) (va_A w0 sz)) 0 0 (va_A w0 sz) := by
  refine Met.ofW (cc := cX12_draw) (maxL := 2) (ret := (some .int)) (by decide) rfl ?_
  intro p e s m args below meth c s₁ Bk hml hv
  obtain ⟨rfl, ⟨hsz, hP, hK, hD0⟩, hE, hSR⟩ := hv
  have hx := Bk.exec
  have hb := Bk.bytes
  have hr := Bk.returns
  have hlocks := Bk.notSynchronized
  have hC : CallFix p m c cX12_draw 2 s _ wsX12_draw RX12 := ⟨hx, hb, hml, findClass_of_methodNamed Bk.named, atoms_spec (ws := wsX12_draw) Bk.pre⟩
  subst hsz
  have hD := hD0.self (sz := s.heap.size)
  generalize hAe : va_A w0 s.heap.size = A at hD hE ⊢
  have hA : ∀ q : Nat, s.heap.size ≤ q → A q := fun q h => by rw [← hAe]; exact Or.inr h
  have hw : Wd dC dI A s.heap s.heap [] w0 := ⟨hP, hD, va_S.rf⟩
  have hF : FE ksM [(12, 39, 39)] w0 w0 := FE.rf
  have hl := lv_entry ([.ref (ad 0), .int 168]) (n := 2) (Nat.le_of_ble_eq_true rfl)
  rw [lg_entry_eq]
  generalize (lg_sl ([.ref (ad 0), .int 168]) ++ List.replicate (2 - (lg_sl ([.ref (ad 0), .int 168])).length) Slot.unset).toArray = ls at hl ⊢
  have hl : lv_has ls 2 [(0, .ref (ad 0)), (1, .int 168)] := hl
  generalize hloc : ([] : List Loc) = locs at hw ⊢
  have hinX12 : ∀ w ∈ u_ws RX12 TX12 42, w ∈ wsX12_draw := fun _ h => List.mem_cons_of_mem _ (List.mem_append_right _ (h))
  refine lv_aload_n hx hb dX12_draw_0 rfl (lv_at hl 0 rfl) ?_
  refine lv_aload_n hx hb dX12_draw_1 rfl (lv_at hl 0 rfl) ?_
  refine tk_getl hC hK hw hT hinX12 kM_at0 (by decide) rfl 39 (by decide) (List.mem_of_getElem? (i := 1) rfl) rfl rfl dX12_draw_2 (fun x1 c2 rx1 tx1 => ?_)
  refine lv_ldc2 (v := 1103515245) hx hb hC.2.2.2.1 (hC.2.2.2.2 _ (List.mem_of_getElem? (i := 2) rfl)) dX12_draw_5 ?_
  refine lv_lmul hx hb dX12_draw_8 ?_
  refine lv_topl (fun x3 ex3 => ?_)
  have ex3 : x3.toInt = x1.toInt * (1103515245 : Int) := by rw [ex3]; exact wk_mull (show (-9223372036854775808) ≤ x1.toInt * (1103515245 : Int) by omega) (show x1.toInt * (1103515245 : Int) ≤ 9223372036854775807 by omega)
  refine lv_ldc2 (v := 12345) hx hb hC.2.2.2.1 (hC.2.2.2.2 _ (List.mem_of_getElem? (i := 3) rfl)) dX12_draw_9 ?_
  refine lv_ladd hx hb dX12_draw_12 ?_
  refine lv_topl (fun x4 ex4 => ?_)
  have ex4 : x4.toInt = x3.toInt + (12345 : Int) := by rw [ex4]; exact wk_addl (show (-9223372036854775808) ≤ x3.toInt + (12345 : Int) by omega) (show x3.toInt + (12345 : Int) ≤ 9223372036854775807 by omega)
  refine lv_ldc2 (v := 2147483648) hx hb hC.2.2.2.1 (hC.2.2.2.2 _ (List.mem_of_getElem? (i := 4) rfl)) dX12_draw_13 ?_
  refine lv_lrem hx hb dX12_draw_16 (by decide) ?_
  refine lv_topl (fun x5 ex5 => ?_)
  have ex5 : x5.toInt = x4.toInt % (2147483648 : Int) := by rw [ex5]; exact wk_reml (show 0 ≤ x4.toInt by omega) (show 0 < (2147483648 : Int) by decide)
  refine tk_putl hC hK hw hT hinX12 tyX12_ok nmX12 kM_at0 (by decide) rfl rfl 39 (by decide) (List.mem_of_getElem? (i := 1) rfl) rfl rfl rfl rfl (show 0 ≤ x5.toInt by omega) (show x5.toInt ≤ 2147483648 by omega) dX12_draw_17 (fun H locs w6 hw hT k8 c7 => ?_)
  have hF := hF.put kM_at0 (k := 39) (by decide) k8
  refine lv_aload_n hx hb dX12_draw_20 rfl (lv_at hl 0 rfl) ?_
  refine tk_getl hC hK hw hT hinX12 kM_at0 (by decide) rfl 39 (by decide) (List.mem_of_getElem? (i := 1) rfl) rfl rfl dX12_draw_21 (fun x9 c10 rx9 tx9 => ?_)
  refine wk_topl x5 (c10.symm.trans c7) ?_
  refine lv_ldc2 (v := 65536) hx hb hC.2.2.2.1 (hC.2.2.2.2 _ (List.mem_of_getElem? (i := 5) rfl)) dX12_draw_24 ?_
  refine lv_ldiv hx hb dX12_draw_27 (by decide) ?_
  refine lv_topl (fun x11 ex11 => ?_)
  have ex11 : x11.toInt = x5.toInt / (65536 : Int) := by rw [ex11]; exact wk_divl (show 0 ≤ x5.toInt by omega) (show 0 < (65536 : Int) by decide)
  refine lv_iload_n hx hb dX12_draw_28 rfl (lv_at hl 1 rfl) ?_
  refine lv_i2l hx hb dX12_draw_29 rfl ?_
  refine wk_topl 168 (by decide) ?_
  refine lv_lrem hx hb dX12_draw_30 (by decide) ?_
  refine lv_topl (fun x12 ex12 => ?_)
  have ex12 : x12.toInt = x11.toInt % (168 : Int) := by rw [ex12]; exact wk_reml (show 0 ≤ x11.toInt by omega) (show 0 < (168 : Int) by decide)
  refine lv_l2i hx hb dX12_draw_31 rfl ?_
  refine lv_topi (fun x13 ex13 => ?_)
  have ex13 : x13.toInt = x12.toInt := by rw [ex13]; exact wk_l2i (by omega) (by omega)
  exact tk_iret hC hr hlocks hK ⟨hT, hF, ⟨(show 0 ≤ x13.toInt by omega), (show x13.toInt ≤ 167 by omega)⟩⟩ hw dX12_draw_32
abbrev P_X12_in_18 (ad : Nat → Nat) (cy : Nat → ClassId) (B : Int) (qr : Nat) (s1 : Int) (a0 : Int64) (w0 : va_W) : Int32 → va_W → Prop := fun r u => w0 = u ∧ ((r = 0) ∨ (r = 1 ∧ 1 ≤ a0.toInt ∧ a0.toInt ≤ 30))
set_option maxHeartbeats 4000000 in
set_option maxRecDepth 100000 in
theorem k_X12_in_18 (l : Launch) (adK adV : Nat → Nat) (dC : Nat → ClassId) (dI : Nat → Nat → Nat) (cy : Nat → ClassId) (ad : Nat → Nat) (B : Int) (hB0 : 100000 ≤ B) (hB1 : B ≤ 1073741824) (qr : Nat) (s1 : Int)  (a0 : Int64) (ra0 : (-2147483648) ≤ a0.toInt) (ta0 : a0.toInt ≤ 2147483647) (w0 : va_W) (sz : Nat) (hT : TW ksM ad cy B qr 12 w0)  : Met l yX12_in wsX12_in ({ frames := 1, cells := 0, slots := 0, locals := 12 }) (va_Pc [.long a0, .long 1, .long 30] (wpreS adK adV dC dI cy sz w0)) (va_Qi (P_X12_in_18 ad cy B qr s1 a0 w0) (fun u : va_W => wpost dC dI cy (va_A w0 sz) u) (va_A w0 sz)) 0 0 (va_A w0 sz) := by
  refine Met.ofW (cc := cX12_in) (maxL := 6) (ret := (some .boolean)) (by decide) rfl ?_
  intro p e s m args below meth c s₁ Bk hml hv
  obtain ⟨rfl, ⟨hsz, hP, hK, hD0⟩, hE, hSR⟩ := hv
  have hx := Bk.exec
  have hb := Bk.bytes
  have hr := Bk.returns
  have hlocks := Bk.notSynchronized
  have hC : CallFix p m c cX12_in 6 s _ wsX12_in RX12 := ⟨hx, hb, hml, findClass_of_methodNamed Bk.named, atoms_spec (ws := wsX12_in) Bk.pre⟩
  subst hsz
  have hD := hD0.self (sz := s.heap.size)
  generalize hAe : va_A w0 s.heap.size = A at hD hE ⊢
  have hA : ∀ q : Nat, s.heap.size ≤ q → A q := fun q h => by rw [← hAe]; exact Or.inr h
  have hw : Wd dC dI A s.heap s.heap [] w0 := ⟨hP, hD, va_S.rf⟩
  have hF : FE ksM ([] : List (Nat × Nat × Nat)) w0 w0 := FE.rf
  have hl := lv_entry ([.long a0, .long 1, .long 30]) (n := 6) (Nat.le_of_ble_eq_true rfl)
  rw [lg_entry_eq]
  generalize (lg_sl ([.long a0, .long 1, .long 30]) ++ List.replicate (6 - (lg_sl ([.long a0, .long 1, .long 30])).length) Slot.unset).toArray = ls at hl ⊢
  have hl : lv_has ls 6 [(0, .long a0), (2, .long 1), (4, .long 30)] := hl
  generalize hloc : ([] : List Loc) = locs at hw ⊢
  have J17 : ∀ (H : Heap) (locs : List Loc) (ls : Array Slot), (-2147483648) ≤ a0.toInt → a0.toInt ≤ 2147483647 → Wd dC dI A s.heap H locs w0 → lv_has ls 6 [(0, .long a0), (2, .long 1), (4, .long 30)] → W p l e ({ frames := 1, cells := 0, slots := 0, locals := 12 }) s m (List.toArray [.long a0, .long 1, .long 30]) below meth c H locs 0 0 (MQ below (va_Qi (P_X12_in_18 ad cy B qr s1 a0 w0) (fun u : va_W => wpost dC dI cy A u) A) (List.toArray [.long a0, .long 1, .long 30]) s 0 0 A) (F0 m 17 ls []) := by
    intro H locs ls r1 t2 hw hl
    refine lv_iconst (v := 0) hx hb dX12_in_17 (by decide) ?_
    exact tk_zret hC hr rfl hlocks hK ⟨rfl, (Or.inl rfl)⟩ hw dX12_in_18
  refine lv_lload_n hx hb dX12_in_0 rfl (lv_at hl 0 rfl) ?_
  refine lv_lload_n hx hb dX12_in_1 rfl (lv_at hl 1 rfl) ?_
  refine W.lcmp hx hb dX12_in_2 ?_
  refine lv_if_lt (tgt := 17) hx hb dX12_in_3 (by decide) (fun c3 => ?_) (fun c3 => ?_)
  · have c3 : a0.toInt < (1 : Int) := wk_cltT c3
    exact J17  s.heap locs ls  (show (-2147483648) ≤ a0.toInt by omega) (show a0.toInt ≤ 2147483647 by omega)  hw   (lv_sub hl [0, 1, 2] rfl)
  · have c3 : (1 : Int) ≤ a0.toInt := wk_cltF c3
    refine lv_lload_n hx hb dX12_in_6 rfl (lv_at hl 0 rfl) ?_
    refine lv_lload hx hb dX12_in_7 (lv_at hl 2 rfl) ?_
    refine W.lcmp hx hb dX12_in_9 ?_
    refine lv_if_gt (tgt := 17) hx hb dX12_in_10 (by decide) (fun c4 => ?_) (fun c4 => ?_)
    · have c4 : (30 : Int) < a0.toInt := wk_cgtT c4
      exact J17  s.heap locs ls  (show (-2147483648) ≤ a0.toInt by omega) (show a0.toInt ≤ 2147483647 by omega)  hw   (lv_sub hl [0, 1, 2] rfl)
    · have c4 : a0.toInt ≤ (30 : Int) := wk_cgtF c4
      refine lv_iconst (v := 1) hx hb dX12_in_13 (by decide) ?_
      refine lv_goto (tgt := 18) hx hb dX12_in_14 (by decide) ?_
      exact tk_zret hC hr rfl hlocks hK ⟨rfl, (Or.inr ⟨rfl, (show 1 ≤ a0.toInt by omega), (show a0.toInt ≤ 30 by omega)⟩)⟩ hw dX12_in_18
abbrev P_X12_walkerOf_11 (ad : Nat → Nat) (cy : Nat → ClassId) (B : Int) (qr : Nat) (s1 : Int)  (w0 : va_W) : Int32 → va_W → Prop := fun r u => w0 = u ∧ ((0 ≤ r.toInt ∧ r.toInt ≤ 9 ∧ gi u 12 216 = r))
set_option maxHeartbeats 4000000 in
set_option maxRecDepth 100000 in
theorem k_X12_walkerOf_11 (l : Launch) (adK adV : Nat → Nat) (dC : Nat → ClassId) (dI : Nat → Nat → Nat) (cy : Nat → ClassId) (ad : Nat → Nat) (B : Int) (hB0 : 100000 ≤ B) (hB1 : B ≤ 1073741824) (qr : Nat) (s1 : Int)   (w0 : va_W) (sz : Nat) (hT : TW ksM ad cy B qr 12 w0)  : Met l yX12_walkerOf wsX12_walkerOf ({ frames := 1, cells := 0, slots := 0, locals := 12 }) (va_Pc [.ref (ad 0), .int 0, .int 0] (wpreS adK adV dC dI cy sz w0)) (va_Qi (P_X12_walkerOf_11 ad cy B qr s1  w0) (fun u : va_W => wpost dC dI cy (va_A w0 sz) u) (va_A w0 sz)) 0 0 (va_A w0 sz) := by
  refine Met.ofW (cc := cX12_walkerOf) (maxL := 3) (ret := (some .int)) (by decide) rfl ?_
  intro p e s m args below meth c s₁ Bk hml hv
  obtain ⟨rfl, ⟨hsz, hP, hK, hD0⟩, hE, hSR⟩ := hv
  have hx := Bk.exec
  have hb := Bk.bytes
  have hr := Bk.returns
  have hlocks := Bk.notSynchronized
  have hC : CallFix p m c cX12_walkerOf 3 s _ wsX12_walkerOf RX12 := ⟨hx, hb, hml, findClass_of_methodNamed Bk.named, atoms_spec (ws := wsX12_walkerOf) Bk.pre⟩
  subst hsz
  have hD := hD0.self (sz := s.heap.size)
  generalize hAe : va_A w0 s.heap.size = A at hD hE ⊢
  have hA : ∀ q : Nat, s.heap.size ≤ q → A q := fun q h => by rw [← hAe]; exact Or.inr h
  have hw : Wd dC dI A s.heap s.heap [] w0 := ⟨hP, hD, va_S.rf⟩
  have hF : FE ksM ([] : List (Nat × Nat × Nat)) w0 w0 := FE.rf
  have hl := lv_entry ([.ref (ad 0), .int 0, .int 0]) (n := 3) (Nat.le_of_ble_eq_true rfl)
  rw [lg_entry_eq]
  generalize (lg_sl ([.ref (ad 0), .int 0, .int 0]) ++ List.replicate (3 - (lg_sl ([.ref (ad 0), .int 0, .int 0])).length) Slot.unset).toArray = ls at hl ⊢
  have hl : lv_has ls 3 [(0, .ref (ad 0)), (1, .int 0), (2, .int 0)] := hl
  generalize hloc : ([] : List Loc) = locs at hw ⊢
  have hinX12 : ∀ w ∈ u_ws RX12 TX12 42, w ∈ wsX12_walkerOf := fun _ h => List.mem_cons_of_mem _ (List.mem_append_right _ (h))
  refine lv_aload_n hx hb dX12_walkerOf_0 rfl (lv_at hl 0 rfl) ?_
  refine tk_getA hC hK hw hT hinX12 kM_at0 (by decide) rfl 26 (by decide) (List.mem_of_getElem? (i := 1) rfl) rfl rfl dX12_walkerOf_1 ?_
  refine lv_sipush (v := 216) hx hb dX12_walkerOf_4 (by decide) ?_
  refine lv_bipush (v := 9) hx hb dX12_walkerOf_7 (by decide) ?_
  refine lv_iload_n hx hb dX12_walkerOf_9 rfl (lv_at hl 1 rfl) ?_
  refine lv_imul hx hb dX12_walkerOf_10 ?_
  refine wk_top 0 (by decide) ?_
  refine lv_iadd hx hb dX12_walkerOf_11 ?_
  refine wk_top 216 (by decide) ?_
  refine lv_iload_n hx hb dX12_walkerOf_12 rfl (lv_at hl 2 rfl) ?_
  refine lv_iadd hx hb dX12_walkerOf_13 ?_
  refine wk_top 216 (by decide) ?_
  refine tk_ialdR hC hK hw hT kM_at12 rfl (by decide) (by decide) dX12_walkerOf_14 (fun x1 c2 Ex1 => ?_)
  have bx1 := tk_rgI rfl 216 1 1 0 9 (by decide +kernel) ⟨0, by decide, by decide⟩ Ex1
  have c2 : gi w0 12 216 = x1 := c2
  exact tk_iret hC hr hlocks hK ⟨rfl, ⟨(show 0 ≤ x1.toInt by omega), (show x1.toInt ≤ 9 by omega), c2⟩⟩ hw dX12_walkerOf_15
abbrev P_X12_walkerOf_12 (ad : Nat → Nat) (cy : Nat → ClassId) (B : Int) (qr : Nat) (s1 : Int)  (w0 : va_W) : Int32 → va_W → Prop := fun r u => w0 = u ∧ ((0 ≤ r.toInt ∧ r.toInt ≤ 9 ∧ gi u 12 217 = r))
set_option maxHeartbeats 4000000 in
set_option maxRecDepth 100000 in
theorem k_X12_walkerOf_12 (l : Launch) (adK adV : Nat → Nat) (dC : Nat → ClassId) (dI : Nat → Nat → Nat) (cy : Nat → ClassId) (ad : Nat → Nat) (B : Int) (hB0 : 100000 ≤ B) (hB1 : B ≤ 1073741824) (qr : Nat) (s1 : Int)   (w0 : va_W) (sz : Nat) (hT : TW ksM ad cy B qr 12 w0)  : Met l yX12_walkerOf wsX12_walkerOf ({ frames := 1, cells := 0, slots := 0, locals := 12 }) (va_Pc [.ref (ad 0), .int 0, .int 1] (wpreS adK adV dC dI cy sz w0)) (va_Qi (P_X12_walkerOf_12 ad cy B qr s1  w0) (fun u : va_W => wpost dC dI cy (va_A w0 sz) u) (va_A w0 sz)) 0 0 (va_A w0 sz) := by
  refine Met.ofW (cc := cX12_walkerOf) (maxL := 3) (ret := (some .int)) (by decide) rfl ?_
  intro p e s m args below meth c s₁ Bk hml hv
  obtain ⟨rfl, ⟨hsz, hP, hK, hD0⟩, hE, hSR⟩ := hv
  have hx := Bk.exec
  have hb := Bk.bytes
  have hr := Bk.returns
  have hlocks := Bk.notSynchronized
  have hC : CallFix p m c cX12_walkerOf 3 s _ wsX12_walkerOf RX12 := ⟨hx, hb, hml, findClass_of_methodNamed Bk.named, atoms_spec (ws := wsX12_walkerOf) Bk.pre⟩
  subst hsz
  have hD := hD0.self (sz := s.heap.size)
  generalize hAe : va_A w0 s.heap.size = A at hD hE ⊢
  have hA : ∀ q : Nat, s.heap.size ≤ q → A q := fun q h => by rw [← hAe]; exact Or.inr h
  have hw : Wd dC dI A s.heap s.heap [] w0 := ⟨hP, hD, va_S.rf⟩
  have hF : FE ksM ([] : List (Nat × Nat × Nat)) w0 w0 := FE.rf
  have hl := lv_entry ([.ref (ad 0), .int 0, .int 1]) (n := 3) (Nat.le_of_ble_eq_true rfl)
  rw [lg_entry_eq]
  generalize (lg_sl ([.ref (ad 0), .int 0, .int 1]) ++ List.replicate (3 - (lg_sl ([.ref (ad 0), .int 0, .int 1])).length) Slot.unset).toArray = ls at hl ⊢
  have hl : lv_has ls 3 [(0, .ref (ad 0)), (1, .int 0), (2, .int 1)] := hl
  generalize hloc : ([] : List Loc) = locs at hw ⊢
  have hinX12 : ∀ w ∈ u_ws RX12 TX12 42, w ∈ wsX12_walkerOf := fun _ h => List.mem_cons_of_mem _ (List.mem_append_right _ (h))
  refine lv_aload_n hx hb dX12_walkerOf_0 rfl (lv_at hl 0 rfl) ?_
  refine tk_getA hC hK hw hT hinX12 kM_at0 (by decide) rfl 26 (by decide) (List.mem_of_getElem? (i := 1) rfl) rfl rfl dX12_walkerOf_1 ?_
  refine lv_sipush (v := 216) hx hb dX12_walkerOf_4 (by decide) ?_
  refine lv_bipush (v := 9) hx hb dX12_walkerOf_7 (by decide) ?_
  refine lv_iload_n hx hb dX12_walkerOf_9 rfl (lv_at hl 1 rfl) ?_
  refine lv_imul hx hb dX12_walkerOf_10 ?_
  refine wk_top 0 (by decide) ?_
  refine lv_iadd hx hb dX12_walkerOf_11 ?_
  refine wk_top 216 (by decide) ?_
  refine lv_iload_n hx hb dX12_walkerOf_12 rfl (lv_at hl 2 rfl) ?_
  refine lv_iadd hx hb dX12_walkerOf_13 ?_
  refine wk_top 217 (by decide) ?_
  refine tk_ialdR hC hK hw hT kM_at12 rfl (by decide) (by decide) dX12_walkerOf_14 (fun x1 c2 Ex1 => ?_)
  have bx1 := tk_rgI rfl 217 1 1 0 9 (by decide +kernel) ⟨0, by decide, by decide⟩ Ex1
  have c2 : gi w0 12 217 = x1 := c2
  exact tk_iret hC hr hlocks hK ⟨rfl, ⟨(show 0 ≤ x1.toInt by omega), (show x1.toInt ≤ 9 by omega), c2⟩⟩ hw dX12_walkerOf_15
abbrev P_X12_isThere_2 (ad : Nat → Nat) (cy : Nat → ClassId) (B : Int) (qr : Nat) (s1 : Int)  (w0 : va_W) : Int32 → va_W → Prop := fun r u => w0 = u ∧ ((r = 0) ∨ (r = 1))
set_option maxHeartbeats 4000000 in
set_option maxRecDepth 100000 in
theorem k_X12_isThere_2 (l : Launch) (adK adV : Nat → Nat) (dC : Nat → ClassId) (dI : Nat → Nat → Nat) (cy : Nat → ClassId) (ad : Nat → Nat) (B : Int) (hB0 : 100000 ≤ B) (hB1 : B ≤ 1073741824) (qr : Nat) (s1 : Int)   (w0 : va_W) (sz : Nat) (hT : TW ksM ad cy B qr 12 w0)  : Met l yX12_isThere wsX12_isThere ({ frames := 2, cells := 0, slots := 0, locals := 34 }) (va_Pc [.ref (ad 0), .int 0] (wpreS adK adV dC dI cy sz w0)) (va_Qi (P_X12_isThere_2 ad cy B qr s1  w0) (fun u : va_W => wpost dC dI cy (va_A w0 sz) u) (va_A w0 sz)) 0 0 (va_A w0 sz) := by
  refine Met.ofW (cc := cX12_isThere) (maxL := 2) (ret := (some .boolean)) (by decide) rfl ?_
  intro p e s m args below meth c s₁ Bk hml hv
  obtain ⟨rfl, ⟨hsz, hP, hK, hD0⟩, hE, hSR⟩ := hv
  have hx := Bk.exec
  have hb := Bk.bytes
  have hr := Bk.returns
  have hlocks := Bk.notSynchronized
  have hC : CallFix p m c cX12_isThere 2 s _ wsX12_isThere RX12 := ⟨hx, hb, hml, findClass_of_methodNamed Bk.named, atoms_spec (ws := wsX12_isThere) Bk.pre⟩
  subst hsz
  have hD := hD0.self (sz := s.heap.size)
  generalize hAe : va_A w0 s.heap.size = A at hD hE ⊢
  have hA : ∀ q : Nat, s.heap.size ≤ q → A q := fun q h => by rw [← hAe]; exact Or.inr h
  have hw : Wd dC dI A s.heap s.heap [] w0 := ⟨hP, hD, va_S.rf⟩
  have hF : FE ksM ([] : List (Nat × Nat × Nat)) w0 w0 := FE.rf
  have hl := lv_entry ([.ref (ad 0), .int 0]) (n := 2) (Nat.le_of_ble_eq_true rfl)
  rw [lg_entry_eq]
  generalize (lg_sl ([.ref (ad 0), .int 0]) ++ List.replicate (2 - (lg_sl ([.ref (ad 0), .int 0])).length) Slot.unset).toArray = ls at hl ⊢
  have hl : lv_has ls 2 [(0, .ref (ad 0)), (1, .int 0)] := hl
  generalize hloc : ([] : List Loc) = locs at hw ⊢
  refine lv_aload_n hx hb dX12_isThere_0 rfl (lv_at hl 0 rfl) ?_
  refine lv_iload_n hx hb dX12_isThere_1 rfl (lv_at hl 1 rfl) ?_
  refine lv_iconst (v := 0) hx hb dX12_isThere_2 (by decide) ?_
  refine tk_Vi hC hK hw hT hA hE hSR kM_at0 (by decide) rfl (k_X12_walkerOf_11 l adK adV dC dI cy ad B (by omega) (by omega) qr s1    w0 s.heap.size hT ) (cwV 2 hC.2.2.2.2 gX12_isThere_X12_walkerOf rfl rfl rfl (by decide +kernel) ⟨Nat.le_of_ble_eq_true rfl, Nat.le_of_ble_eq_true rfl⟩) rfl hl.1 rfl (Nat.le_of_ble_eq_true rfl) dX12_isThere_3 (fun r1 w3 H locs hp2 hw => ?_)
  obtain ⟨rfl, hg8⟩ := hp2
  obtain ⟨g5, g6, c7⟩ := hg8
  refine lv_aload_n hx hb dX12_isThere_6 rfl (lv_at hl 0 rfl) ?_
  refine lv_iload_n hx hb dX12_isThere_7 rfl (lv_at hl 1 rfl) ?_
  refine lv_iconst (v := 1) hx hb dX12_isThere_8 (by decide) ?_
  refine tk_Vi hC hK hw hT hA hE hSR kM_at0 (by decide) rfl (k_X12_walkerOf_12 l adK adV dC dI cy ad B (by omega) (by omega) qr s1    w0 H.size hT ) (cwV 2 hC.2.2.2.2 gX12_isThere_X12_walkerOf rfl rfl rfl (by decide +kernel) ⟨Nat.le_of_ble_eq_true rfl, Nat.le_of_ble_eq_true rfl⟩) rfl hl.1 rfl (Nat.le_of_ble_eq_true rfl) dX12_isThere_9 (fun r9 w11 H locs hp10 hw => ?_)
  obtain ⟨rfl, hg16⟩ := hp10
  obtain ⟨g13, g14, c15⟩ := hg16
  refine lv_icmp_ne (tgt := 19) hx hb dX12_isThere_12 (by decide) (fun c17 => ?_) (fun c17 => ?_)
  · have c17 : ¬ r1.toInt = r9.toInt := wk_eqF c17
    refine lv_iconst (v := 0) hx hb dX12_isThere_19 (by decide) ?_
    exact tk_zret hC hr rfl hlocks hK ⟨rfl, (Or.inl rfl)⟩ hw dX12_isThere_20
  · have c17 : r1.toInt = r9.toInt := wk_eq.mp c17
    refine lv_iconst (v := 1) hx hb dX12_isThere_15 (by decide) ?_
    refine lv_goto (tgt := 20) hx hb dX12_isThere_16 (by decide) ?_
    exact tk_zret hC hr rfl hlocks hK ⟨rfl, (Or.inr rfl)⟩ hw dX12_isThere_20
abbrev P_X12_setsOut_2 (ad : Nat → Nat) (cy : Nat → ClassId) (B : Int) (qr : Nat) (s1 : Int) (a2 : Int32) (a3 : Int32) (a4 : Int32) (a5 : Int32) (a6 : Int32) (w0 : va_W) : va_W → Prop := fun u => TW ksM ad cy B qr 12 u ∧ FE ksM [(71, 216, 216), (71, 217, 217), (71, 218, 218), (71, 219, 219), (71, 220, 220), (71, 221, 221), (71, 222, 222), (71, 223, 223), (71, 224, 224)] w0 u ∧ (((∃ y : Int32, gi u 12 220 = y ∧ 0 ≤ y.toInt ∧ y.toInt ≤ 167) ∧ (∃ y : Int32, gi u 12 221 = y ∧ 0 ≤ y.toInt ∧ y.toInt ≤ 0) ∧ (∃ y : Int32, gi u 12 222 = y ∧ 0 ≤ y.toInt ∧ y.toInt ≤ 0) ∧ (∃ y : Int32, gi u 12 223 = y ∧ (-1) ≤ y.toInt ∧ y.toInt ≤ (-1)) ∧ (∃ y : Int32, gi u 12 224 = y ∧ (-1) ≤ y.toInt ∧ y.toInt ≤ (-1))))
set_option maxHeartbeats 4000000 in
set_option maxRecDepth 100000 in
theorem k_X12_setsOut_2 (l : Launch) (adK adV : Nat → Nat) (dC : Nat → ClassId) (dI : Nat → Nat → Nat) (cy : Nat → ClassId) (ad : Nat → Nat) (B : Int) (hB0 : 100000 ≤ B) (hB1 : B ≤ 1073741824) (qr : Nat) (s1 : Int)  (a2 : Int32) (ra2 : 0 ≤ a2.toInt) (ta2 : a2.toInt ≤ 9) (a3 : Int32) (ra3 : 0 ≤ a3.toInt) (ta3 : a3.toInt ≤ 9) (a4 : Int32) (ra4 : 0 ≤ a4.toInt) (ta4 : a4.toInt ≤ 3) (a5 : Int32) (ra5 : (-1) ≤ a5.toInt) (ta5 : a5.toInt ≤ 5) (a6 : Int32) (ra6 : 0 ≤ a6.toInt) (ta6 : a6.toInt ≤ 167) (w0 : va_W) (sz : Nat) (hT : TW ksM ad cy B qr 12 w0)  : Met l yX12_setsOut wsX12_setsOut ({ frames := 1, cells := 0, slots := 0, locals := 12 }) (va_Pc [.ref (ad 0), .int 0, .int a2, .int a3, .int a4, .int a5, .int a6] (wpreS adK adV dC dI cy sz w0)) (va_Qv (P_X12_setsOut_2 ad cy B qr s1 a2 a3 a4 a5 a6 w0) (fun u : va_W => wpost dC dI cy (va_A w0 sz) u) (va_A w0 sz)) 0 0 (va_A w0 sz) := by
  refine Met.ofW (cc := cX12_setsOut) (maxL := 8) (ret := none) (by decide) rfl ?_
  intro p e s m args below meth c s₁ Bk hml hv
  obtain ⟨rfl, ⟨hsz, hP, hK, hD0⟩, hE, hSR⟩ := hv
  have hx := Bk.exec
  have hb := Bk.bytes
  have hr := Bk.returns
  have hlocks := Bk.notSynchronized
  have hC : CallFix p m c cX12_setsOut 8 s _ wsX12_setsOut RX12 := ⟨hx, hb, hml, findClass_of_methodNamed Bk.named, atoms_spec (ws := wsX12_setsOut) Bk.pre⟩
  subst hsz
  have hD := hD0.self (sz := s.heap.size)
  generalize hAe : va_A w0 s.heap.size = A at hD hE ⊢
  have hA : ∀ q : Nat, s.heap.size ≤ q → A q := fun q h => by rw [← hAe]; exact Or.inr h
  have hw : Wd dC dI A s.heap s.heap [] w0 := ⟨hP, hD, va_S.rf⟩
  have hF : FE ksM [(71, 216, 216), (71, 217, 217), (71, 218, 218), (71, 219, 219), (71, 220, 220), (71, 221, 221), (71, 222, 222), (71, 223, 223), (71, 224, 224)] w0 w0 := FE.rf
  have hl := lv_entry ([.ref (ad 0), .int 0, .int a2, .int a3, .int a4, .int a5, .int a6]) (n := 8) (Nat.le_of_ble_eq_true rfl)
  rw [lg_entry_eq]
  generalize (lg_sl ([.ref (ad 0), .int 0, .int a2, .int a3, .int a4, .int a5, .int a6]) ++ List.replicate (8 - (lg_sl ([.ref (ad 0), .int 0, .int a2, .int a3, .int a4, .int a5, .int a6])).length) Slot.unset).toArray = ls at hl ⊢
  have hl : lv_has ls 8 [(0, .ref (ad 0)), (1, .int 0), (2, .int a2), (3, .int a3), (4, .int a4), (5, .int a5), (6, .int a6)] := hl
  generalize hloc : ([] : List Loc) = locs at hw ⊢
  have hinX12 : ∀ w ∈ u_ws RX12 TX12 42, w ∈ wsX12_setsOut := fun _ h => List.mem_cons_of_mem _ (List.mem_append_right _ (h))
  refine lv_sipush (v := 216) hx hb dX12_setsOut_0 (by decide) ?_
  refine lv_bipush (v := 9) hx hb dX12_setsOut_3 (by decide) ?_
  refine lv_iload_n hx hb dX12_setsOut_5 rfl (lv_at hl 1 rfl) ?_
  refine lv_imul hx hb dX12_setsOut_6 ?_
  refine wk_top 0 (by decide) ?_
  refine lv_iadd hx hb dX12_setsOut_7 ?_
  refine wk_top 216 (by decide) ?_
  refine lv_istore (lv' := [(7, .int 216), (0, .ref (ad 0)), (1, .int 0), (2, .int a2), (3, .int a3), (4, .int a4), (5, .int a5), (6, .int a6)]) hx hb dX12_setsOut_8 hl (by decide) rfl (fun ls hl => ?_)
  refine lv_aload_n hx hb dX12_setsOut_10 rfl (lv_at hl 1 rfl) ?_
  refine tk_getA hC hK hw hT hinX12 kM_at0 (by decide) rfl 26 (by decide) (List.mem_of_getElem? (i := 1) rfl) rfl rfl dX12_setsOut_11 ?_
  refine lv_iload hx hb dX12_setsOut_14 (lv_at hl 0 rfl) ?_
  refine lv_iload_n hx hb dX12_setsOut_16 rfl (lv_at hl 3 rfl) ?_
  refine tk_iastR hC hK hw hT kM_at12 (by decide) rfl (by decide) (by decide) (tk_rgS rfl 216 1 1 0 9 (by decide +kernel) ⟨0, by decide, by decide⟩ (show 0 ≤ a2.toInt by omega) (show a2.toInt ≤ 9 by omega)) dX12_setsOut_17 (fun H locs w1 hw hT k3 c2 => ?_)
  have hF := hF.put kM_at12 (inE_of (a := 216) (b := 216) (by decide) (by decide) (by decide)) k3
  have c2 : gi w1 12 216 = a2 := c2
  refine lv_aload_n hx hb dX12_setsOut_18 rfl (lv_at hl 1 rfl) ?_
  refine tk_getA hC hK hw hT hinX12 kM_at0 (by decide) rfl 26 (by decide) (List.mem_of_getElem? (i := 1) rfl) rfl rfl dX12_setsOut_19 ?_
  refine lv_iload hx hb dX12_setsOut_22 (lv_at hl 0 rfl) ?_
  refine lv_iconst (v := 1) hx hb dX12_setsOut_24 (by decide) ?_
  refine lv_iadd hx hb dX12_setsOut_25 ?_
  refine wk_top 217 (by decide) ?_
  refine lv_iload_n hx hb dX12_setsOut_26 rfl (lv_at hl 4 rfl) ?_
  refine tk_iastR hC hK hw hT kM_at12 (by decide) rfl (by decide) (by decide) (tk_rgS rfl 217 1 1 0 9 (by decide +kernel) ⟨0, by decide, by decide⟩ (show 0 ≤ a3.toInt by omega) (show a3.toInt ≤ 9 by omega)) dX12_setsOut_27 (fun H locs w4 hw hT k6 c5 => ?_)
  have hF := hF.put kM_at12 (inE_of (a := 217) (b := 217) (by decide) (by decide) (by decide)) k6
  have c7 := k6.gi (Or.inr (by decide)) c2
  have c5 : gi w4 12 217 = a3 := c5
  refine lv_aload_n hx hb dX12_setsOut_28 rfl (lv_at hl 1 rfl) ?_
  refine tk_getA hC hK hw hT hinX12 kM_at0 (by decide) rfl 26 (by decide) (List.mem_of_getElem? (i := 1) rfl) rfl rfl dX12_setsOut_29 ?_
  refine lv_iload hx hb dX12_setsOut_32 (lv_at hl 0 rfl) ?_
  refine lv_iconst (v := 2) hx hb dX12_setsOut_34 (by decide) ?_
  refine lv_iadd hx hb dX12_setsOut_35 ?_
  refine wk_top 218 (by decide) ?_
  refine lv_iload hx hb dX12_setsOut_36 (lv_at hl 5 rfl) ?_
  refine tk_iastR hC hK hw hT kM_at12 (by decide) rfl (by decide) (by decide) (tk_rgS rfl 218 1 1 0 3 (by decide +kernel) ⟨0, by decide, by decide⟩ (show 0 ≤ a4.toInt by omega) (show a4.toInt ≤ 3 by omega)) dX12_setsOut_38 (fun H locs w8 hw hT k10 c9 => ?_)
  have hF := hF.put kM_at12 (inE_of (a := 218) (b := 218) (by decide) (by decide) (by decide)) k10
  have c11 := k10.gi (Or.inr (by decide)) c7
  have c12 := k10.gi (Or.inr (by decide)) c5
  have c9 : gi w8 12 218 = a4 := c9
  refine lv_aload_n hx hb dX12_setsOut_39 rfl (lv_at hl 1 rfl) ?_
  refine tk_getA hC hK hw hT hinX12 kM_at0 (by decide) rfl 26 (by decide) (List.mem_of_getElem? (i := 1) rfl) rfl rfl dX12_setsOut_40 ?_
  refine lv_iload hx hb dX12_setsOut_43 (lv_at hl 0 rfl) ?_
  refine lv_iconst (v := 3) hx hb dX12_setsOut_45 (by decide) ?_
  refine lv_iadd hx hb dX12_setsOut_46 ?_
  refine wk_top 219 (by decide) ?_
  refine lv_iload hx hb dX12_setsOut_47 (lv_at hl 6 rfl) ?_
  refine tk_iastR hC hK hw hT kM_at12 (by decide) rfl (by decide) (by decide) (tk_rgS rfl 219 1 1 (-1) 5 (by decide +kernel) ⟨0, by decide, by decide⟩ (show (-1) ≤ a5.toInt by omega) (show a5.toInt ≤ 5 by omega)) dX12_setsOut_49 (fun H locs w13 hw hT k15 c14 => ?_)
  have hF := hF.put kM_at12 (inE_of (a := 219) (b := 219) (by decide) (by decide) (by decide)) k15
  have c16 := k15.gi (Or.inr (by decide)) c11
  have c17 := k15.gi (Or.inr (by decide)) c12
  have c18 := k15.gi (Or.inr (by decide)) c9
  have c14 : gi w13 12 219 = a5 := c14
  refine lv_aload_n hx hb dX12_setsOut_50 rfl (lv_at hl 1 rfl) ?_
  refine tk_getA hC hK hw hT hinX12 kM_at0 (by decide) rfl 26 (by decide) (List.mem_of_getElem? (i := 1) rfl) rfl rfl dX12_setsOut_51 ?_
  refine lv_iload hx hb dX12_setsOut_54 (lv_at hl 0 rfl) ?_
  refine lv_iconst (v := 4) hx hb dX12_setsOut_56 (by decide) ?_
  refine lv_iadd hx hb dX12_setsOut_57 ?_
  refine wk_top 220 (by decide) ?_
  refine lv_iload hx hb dX12_setsOut_58 (lv_at hl 7 rfl) ?_
  refine tk_iastR hC hK hw hT kM_at12 (by decide) rfl (by decide) (by decide) ((tk_rgB rfl 220 1 1 (by decide +kernel) ⟨0, by decide, by decide⟩).mpr ⟨(show 0 ≤ a6.toInt by omega), (show a6.toInt ≤ B by omega)⟩) dX12_setsOut_60 (fun H locs w19 hw hT k21 c20 => ?_)
  have hF := hF.put kM_at12 (inE_of (a := 220) (b := 220) (by decide) (by decide) (by decide)) k21
  have c22 := k21.gi (Or.inr (by decide)) c16
  have c23 := k21.gi (Or.inr (by decide)) c17
  have c24 := k21.gi (Or.inr (by decide)) c18
  have c25 := k21.gi (Or.inr (by decide)) c14
  have c20 : gi w19 12 220 = a6 := c20
  refine lv_aload_n hx hb dX12_setsOut_61 rfl (lv_at hl 1 rfl) ?_
  refine tk_getA hC hK hw hT hinX12 kM_at0 (by decide) rfl 26 (by decide) (List.mem_of_getElem? (i := 1) rfl) rfl rfl dX12_setsOut_62 ?_
  refine lv_iload hx hb dX12_setsOut_65 (lv_at hl 0 rfl) ?_
  refine lv_iconst (v := 5) hx hb dX12_setsOut_67 (by decide) ?_
  refine lv_iadd hx hb dX12_setsOut_68 ?_
  refine wk_top 221 (by decide) ?_
  refine lv_iconst (v := 0) hx hb dX12_setsOut_69 (by decide) ?_
  refine tk_iastR hC hK hw hT kM_at12 (by decide) rfl (by decide) (by decide) (tk_rg0 rfl (show 0 ≤ B by omega) (by decide)) dX12_setsOut_70 (fun H locs w26 hw hT k28 c27 => ?_)
  have hF := hF.put kM_at12 (inE_of (a := 221) (b := 221) (by decide) (by decide) (by decide)) k28
  have c29 := k28.gi (Or.inr (by decide)) c22
  have c30 := k28.gi (Or.inr (by decide)) c23
  have c31 := k28.gi (Or.inr (by decide)) c24
  have c32 := k28.gi (Or.inr (by decide)) c25
  have c33 := k28.gi (Or.inr (by decide)) c20
  have c27 : gi w26 12 221 = 0 := c27
  refine lv_aload_n hx hb dX12_setsOut_71 rfl (lv_at hl 1 rfl) ?_
  refine tk_getA hC hK hw hT hinX12 kM_at0 (by decide) rfl 26 (by decide) (List.mem_of_getElem? (i := 1) rfl) rfl rfl dX12_setsOut_72 ?_
  refine lv_iload hx hb dX12_setsOut_75 (lv_at hl 0 rfl) ?_
  refine lv_bipush (v := 6) hx hb dX12_setsOut_77 (by decide) ?_
  refine lv_iadd hx hb dX12_setsOut_79 ?_
  refine wk_top 222 (by decide) ?_
  refine lv_iconst (v := 0) hx hb dX12_setsOut_80 (by decide) ?_
  refine tk_iastR hC hK hw hT kM_at12 (by decide) rfl (by decide) (by decide) (tk_rg0 rfl (show 0 ≤ B by omega) (by decide)) dX12_setsOut_81 (fun H locs w34 hw hT k36 c35 => ?_)
  have hF := hF.put kM_at12 (inE_of (a := 222) (b := 222) (by decide) (by decide) (by decide)) k36
  have c37 := k36.gi (Or.inr (by decide)) c29
  have c38 := k36.gi (Or.inr (by decide)) c30
  have c39 := k36.gi (Or.inr (by decide)) c31
  have c40 := k36.gi (Or.inr (by decide)) c32
  have c41 := k36.gi (Or.inr (by decide)) c33
  have c42 := k36.gi (Or.inr (by decide)) c27
  have c35 : gi w34 12 222 = 0 := c35
  refine lv_aload_n hx hb dX12_setsOut_82 rfl (lv_at hl 1 rfl) ?_
  refine tk_getA hC hK hw hT hinX12 kM_at0 (by decide) rfl 26 (by decide) (List.mem_of_getElem? (i := 1) rfl) rfl rfl dX12_setsOut_83 ?_
  refine lv_iload hx hb dX12_setsOut_86 (lv_at hl 0 rfl) ?_
  refine lv_bipush (v := 7) hx hb dX12_setsOut_88 (by decide) ?_
  refine lv_iadd hx hb dX12_setsOut_90 ?_
  refine wk_top 223 (by decide) ?_
  refine lv_iconst (v := (-1)) hx hb dX12_setsOut_91 (by decide) ?_
  refine tk_iastR hC hK hw hT kM_at12 (by decide) rfl (by decide) (by decide) (tk_rgS rfl 223 1 1 (-1) (-1) (by decide +kernel) ⟨0, by decide, by decide⟩ (by decide) (by decide)) dX12_setsOut_92 (fun H locs w43 hw hT k45 c44 => ?_)
  have hF := hF.put kM_at12 (inE_of (a := 223) (b := 223) (by decide) (by decide) (by decide)) k45
  have c46 := k45.gi (Or.inr (by decide)) c37
  have c47 := k45.gi (Or.inr (by decide)) c38
  have c48 := k45.gi (Or.inr (by decide)) c39
  have c49 := k45.gi (Or.inr (by decide)) c40
  have c50 := k45.gi (Or.inr (by decide)) c41
  have c51 := k45.gi (Or.inr (by decide)) c42
  have c52 := k45.gi (Or.inr (by decide)) c35
  have c44 : gi w43 12 223 = (-1) := c44
  refine lv_aload_n hx hb dX12_setsOut_93 rfl (lv_at hl 1 rfl) ?_
  refine tk_getA hC hK hw hT hinX12 kM_at0 (by decide) rfl 26 (by decide) (List.mem_of_getElem? (i := 1) rfl) rfl rfl dX12_setsOut_94 ?_
  refine lv_iload hx hb dX12_setsOut_97 (lv_at hl 0 rfl) ?_
  refine lv_bipush (v := 8) hx hb dX12_setsOut_99 (by decide) ?_
  refine lv_iadd hx hb dX12_setsOut_101 ?_
  refine wk_top 224 (by decide) ?_
  refine lv_iconst (v := (-1)) hx hb dX12_setsOut_102 (by decide) ?_
  refine tk_iastR hC hK hw hT kM_at12 (by decide) rfl (by decide) (by decide) (tk_rgS rfl 224 1 1 (-1) (-1) (by decide +kernel) ⟨0, by decide, by decide⟩ (by decide) (by decide)) dX12_setsOut_103 (fun H locs w53 hw hT k55 c54 => ?_)
  have hF := hF.put kM_at12 (inE_of (a := 224) (b := 224) (by decide) (by decide) (by decide)) k55
  have c56 := k55.gi (Or.inr (by decide)) c46
  have c57 := k55.gi (Or.inr (by decide)) c47
  have c58 := k55.gi (Or.inr (by decide)) c48
  have c59 := k55.gi (Or.inr (by decide)) c49
  have c60 := k55.gi (Or.inr (by decide)) c50
  have c61 := k55.gi (Or.inr (by decide)) c51
  have c62 := k55.gi (Or.inr (by decide)) c52
  have c63 := k55.gi (Or.inr (by decide)) c44
  have c54 : gi w53 12 224 = (-1) := c54
  exact tk_vret hC hr hlocks hK ⟨hT, hF, ⟨⟨a6, c60, (show 0 ≤ a6.toInt by omega), (show a6.toInt ≤ 167 by omega)⟩, ⟨0, c61, (by decide), (by decide)⟩, ⟨0, c62, (by decide), (by decide)⟩, ⟨(-1), c63, (by decide), (by decide)⟩, ⟨(-1), c54, (by decide), (by decide)⟩⟩⟩ hw dX12_setsOut_104
abbrev P_X12_walkerOf_13 (ad : Nat → Nat) (cy : Nat → ClassId) (B : Int) (qr : Nat) (s1 : Int)  (w0 : va_W) : Int32 → va_W → Prop := fun r u => w0 = u ∧ ((0 ≤ r.toInt ∧ r.toInt ≤ 1073741824 ∧ gi u 12 220 = r))
set_option maxHeartbeats 4000000 in
set_option maxRecDepth 100000 in
theorem k_X12_walkerOf_13 (l : Launch) (adK adV : Nat → Nat) (dC : Nat → ClassId) (dI : Nat → Nat → Nat) (cy : Nat → ClassId) (ad : Nat → Nat) (B : Int) (hB0 : 100000 ≤ B) (hB1 : B ≤ 1073741824) (qr : Nat) (s1 : Int)   (w0 : va_W) (sz : Nat) (hT : TW ksM ad cy B qr 12 w0)  : Met l yX12_walkerOf wsX12_walkerOf ({ frames := 1, cells := 0, slots := 0, locals := 12 }) (va_Pc [.ref (ad 0), .int 0, .int 4] (wpreS adK adV dC dI cy sz w0)) (va_Qi (P_X12_walkerOf_13 ad cy B qr s1  w0) (fun u : va_W => wpost dC dI cy (va_A w0 sz) u) (va_A w0 sz)) 0 0 (va_A w0 sz) := by
  refine Met.ofW (cc := cX12_walkerOf) (maxL := 3) (ret := (some .int)) (by decide) rfl ?_
  intro p e s m args below meth c s₁ Bk hml hv
  obtain ⟨rfl, ⟨hsz, hP, hK, hD0⟩, hE, hSR⟩ := hv
  have hx := Bk.exec
  have hb := Bk.bytes
  have hr := Bk.returns
  have hlocks := Bk.notSynchronized
  have hC : CallFix p m c cX12_walkerOf 3 s _ wsX12_walkerOf RX12 := ⟨hx, hb, hml, findClass_of_methodNamed Bk.named, atoms_spec (ws := wsX12_walkerOf) Bk.pre⟩
  subst hsz
  have hD := hD0.self (sz := s.heap.size)
  generalize hAe : va_A w0 s.heap.size = A at hD hE ⊢
  have hA : ∀ q : Nat, s.heap.size ≤ q → A q := fun q h => by rw [← hAe]; exact Or.inr h
  have hw : Wd dC dI A s.heap s.heap [] w0 := ⟨hP, hD, va_S.rf⟩
  have hF : FE ksM ([] : List (Nat × Nat × Nat)) w0 w0 := FE.rf
  have hl := lv_entry ([.ref (ad 0), .int 0, .int 4]) (n := 3) (Nat.le_of_ble_eq_true rfl)
  rw [lg_entry_eq]
  generalize (lg_sl ([.ref (ad 0), .int 0, .int 4]) ++ List.replicate (3 - (lg_sl ([.ref (ad 0), .int 0, .int 4])).length) Slot.unset).toArray = ls at hl ⊢
  have hl : lv_has ls 3 [(0, .ref (ad 0)), (1, .int 0), (2, .int 4)] := hl
  generalize hloc : ([] : List Loc) = locs at hw ⊢
  have hinX12 : ∀ w ∈ u_ws RX12 TX12 42, w ∈ wsX12_walkerOf := fun _ h => List.mem_cons_of_mem _ (List.mem_append_right _ (h))
  refine lv_aload_n hx hb dX12_walkerOf_0 rfl (lv_at hl 0 rfl) ?_
  refine tk_getA hC hK hw hT hinX12 kM_at0 (by decide) rfl 26 (by decide) (List.mem_of_getElem? (i := 1) rfl) rfl rfl dX12_walkerOf_1 ?_
  refine lv_sipush (v := 216) hx hb dX12_walkerOf_4 (by decide) ?_
  refine lv_bipush (v := 9) hx hb dX12_walkerOf_7 (by decide) ?_
  refine lv_iload_n hx hb dX12_walkerOf_9 rfl (lv_at hl 1 rfl) ?_
  refine lv_imul hx hb dX12_walkerOf_10 ?_
  refine wk_top 0 (by decide) ?_
  refine lv_iadd hx hb dX12_walkerOf_11 ?_
  refine wk_top 216 (by decide) ?_
  refine lv_iload_n hx hb dX12_walkerOf_12 rfl (lv_at hl 2 rfl) ?_
  refine lv_iadd hx hb dX12_walkerOf_13 ?_
  refine wk_top 220 (by decide) ?_
  refine tk_ialdR hC hK hw hT kM_at12 rfl (by decide) (by decide) dX12_walkerOf_14 (fun x1 c2 Ex1 => ?_)
  have bx1 := (tk_rgB rfl 220 1 1 (by decide +kernel) ⟨0, by decide, by decide⟩).mp Ex1
  have c2 : gi w0 12 220 = x1 := c2
  exact tk_iret hC hr hlocks hK ⟨rfl, ⟨(show 0 ≤ x1.toInt by omega), (show x1.toInt ≤ 1073741824 by omega), c2⟩⟩ hw dX12_walkerOf_15
abbrev P_X12_asideOf_2 (ad : Nat → Nat) (cy : Nat → ClassId) (B : Int) (qr : Nat) (s1 : Int)  (w0 : va_W) : Int32 → va_W → Prop := fun r u => w0 = u ∧ ((0 ≤ r.toInt ∧ r.toInt ≤ 11 ∧ (∃ y : Int32, gi u 12 1 = y ∧ 1 ≤ y.toInt ∧ y.toInt ≤ 12) ∧ (r.toInt < (gi w0 12 1).toInt ∧ mOw w0 r.toInt (0 : Int32).toInt)) ∨ (r = (-1) ∧ (∀ k : Int, 0 ≤ k → k < (gi w0 12 1).toInt → ¬ mOw w0 k (0 : Int32).toInt)))
set_option maxHeartbeats 4000000 in
set_option maxRecDepth 100000 in
theorem k_X12_asideOf_2 (l : Launch) (adK adV : Nat → Nat) (dC : Nat → ClassId) (dI : Nat → Nat → Nat) (cy : Nat → ClassId) (ad : Nat → Nat) (B : Int) (hB0 : 100000 ≤ B) (hB1 : B ≤ 1073741824) (qr : Nat) (s1 : Int)   (w0 : va_W) (sz : Nat) (hT : TW ksM ad cy B qr 12 w0)  : Met l yX12_asideOf wsX12_asideOf ({ frames := 5, cells := 0, slots := 0, locals := 103 }) (va_Pc [.ref (ad 0), .int 0] (wpreS adK adV dC dI cy sz w0)) (va_Qi (P_X12_asideOf_2 ad cy B qr s1  w0) (fun u : va_W => wpost dC dI cy (va_A w0 sz) u) (va_A w0 sz)) 0 0 (va_A w0 sz) := by
  refine Met.ofW (cc := cX12_asideOf) (maxL := 3) (ret := (some .int)) (by decide) rfl ?_
  intro p e s m args below meth c s₁ Bk hml hv
  obtain ⟨rfl, ⟨hsz, hP, hK, hD0⟩, hE, hSR⟩ := hv
  have hx := Bk.exec
  have hb := Bk.bytes
  have hr := Bk.returns
  have hlocks := Bk.notSynchronized
  have hC : CallFix p m c cX12_asideOf 3 s _ wsX12_asideOf RX12 := ⟨hx, hb, hml, findClass_of_methodNamed Bk.named, atoms_spec (ws := wsX12_asideOf) Bk.pre⟩
  subst hsz
  have hD := hD0.self (sz := s.heap.size)
  generalize hAe : va_A w0 s.heap.size = A at hD hE ⊢
  have hA : ∀ q : Nat, s.heap.size ≤ q → A q := fun q h => by rw [← hAe]; exact Or.inr h
  have hw : Wd dC dI A s.heap s.heap [] w0 := ⟨hP, hD, va_S.rf⟩
  have hF : FE ksM ([] : List (Nat × Nat × Nat)) w0 w0 := FE.rf
  have hl := lv_entry ([.ref (ad 0), .int 0]) (n := 3) (Nat.le_of_ble_eq_true rfl)
  rw [lg_entry_eq]
  generalize (lg_sl ([.ref (ad 0), .int 0]) ++ List.replicate (3 - (lg_sl ([.ref (ad 0), .int 0])).length) Slot.unset).toArray = ls at hl ⊢
  have hl : lv_has ls 3 [(0, .ref (ad 0)), (1, .int 0)] := hl
  generalize hloc : ([] : List Loc) = locs at hw ⊢
  have hinX12 : ∀ w ∈ u_ws RX12 TX12 42, w ∈ wsX12_asideOf := fun _ h => List.mem_cons_of_mem _ (List.mem_append_right _ (h))
  have L2 : ∀ (n2 : Nat) (v2_2 : Int32) (H : Heap) (locs : List Loc) (ls : Array Slot), 0 ≤ v2_2.toInt → v2_2.toInt ≤ 12 → (∀ k : Int, 0 ≤ k → k < v2_2.toInt → ¬ mOw w0 k (0 : Int32).toInt) → (12 - v2_2.toInt).toNat < n2 → Wd dC dI A s.heap H locs w0 → lv_has ls 3 [(0, .ref (ad 0)), (1, .int 0), (2, .int v2_2)] → W p l e ({ frames := 5, cells := 0, slots := 0, locals := 103 }) s m (List.toArray [.ref (ad 0), .int 0]) below meth c H locs 0 0 (MQ below (va_Qi (P_X12_asideOf_2 ad cy B qr s1  w0) (fun u : va_W => wpost dC dI cy A u) A) (List.toArray [.ref (ad 0), .int 0]) s 0 0 A) (F0 m 2 ls []) := by
    intro n2
    induction n2 with
    | zero => intro v2_2 H locs ls r1 t2 hcr2_0 hm2 hw hl; omega
    | succ n2 ih2 =>
      intro v2_2 H locs ls r1 t2 hcr2_0 hm2 hw hl
      refine lv_iload_n hx hb dX12_asideOf_2 rfl (lv_at hl 2 rfl) ?_
      refine lv_aload_n hx hb dX12_asideOf_3 rfl (lv_at hl 0 rfl) ?_
      refine tk_getA hC hK hw hT hinX12 kM_at0 (by decide) rfl 26 (by decide) (List.mem_of_getElem? (i := 1) rfl) rfl rfl dX12_asideOf_4 ?_
      refine lv_iconst (v := 1) hx hb dX12_asideOf_7 (by decide) ?_
      refine tk_ialdR hC hK hw hT kM_at12 rfl (by decide) (by decide) dX12_asideOf_8 (fun x3 c4 Ex3 => ?_)
      have bx3 : 0 ≤ x3.toInt ∧ x3.toInt ≤ 12 := (tk_rg1 rfl).mp Ex3
      have c4 : gi w0 12 1 = x3 := c4
      refine lv_icmp_ge (tgt := 40) hx hb dX12_asideOf_9 (by decide) (fun c5 => ?_) (fun c5 => ?_)
      · have c5 : x3.toInt ≤ v2_2.toInt := wk_le.mp c5
        refine lv_iconst (v := (-1)) hx hb dX12_asideOf_40 (by decide) ?_
        exact tk_iret hC hr hlocks hK ⟨rfl, (Or.inr ⟨rfl, (by intro k h0 h1; rw [show gi w0 12 1 = x3 from c4] at h1; exact hcr2_0 k h0 (by omega))⟩)⟩ hw dX12_asideOf_41
      · have c5 : v2_2.toInt < x3.toInt := wk_leF c5
        refine lv_aload_n hx hb dX12_asideOf_12 rfl (lv_at hl 0 rfl) ?_
        refine lv_iload_n hx hb dX12_asideOf_13 rfl (lv_at hl 2 rfl) ?_
        refine lv_aload_n hx hb dX12_asideOf_14 rfl (lv_at hl 0 rfl) ?_
        refine lv_iload_n hx hb dX12_asideOf_15 rfl (lv_at hl 1 rfl) ?_
        refine lv_iconst (v := 0) hx hb dX12_asideOf_16 (by decide) ?_
        refine tk_Vi hC hK hw hT hA hE hSR kM_at0 (by decide) rfl (k_X12_walkerOf_11 l adK adV dC dI cy ad B (by omega) (by omega) qr s1    w0 H.size hT ) (cwV 2 hC.2.2.2.2 gX12_asideOf_X12_walkerOf rfl rfl rfl (by decide +kernel) ⟨Nat.le_of_ble_eq_true rfl, Nat.le_of_ble_eq_true rfl⟩) rfl hl.1 rfl (Nat.le_of_ble_eq_true rfl) dX12_asideOf_17 (fun r6 w8 H locs hp7 hw => ?_)
        obtain ⟨rfl, hg13⟩ := hp7
        obtain ⟨g10, g11, c12⟩ := hg13
        refine lv_aload_n hx hb dX12_asideOf_20 rfl (lv_at hl 0 rfl) ?_
        refine lv_iload_n hx hb dX12_asideOf_21 rfl (lv_at hl 1 rfl) ?_
        refine lv_iconst (v := 4) hx hb dX12_asideOf_22 (by decide) ?_
        refine tk_Vi hC hK hw hT hA hE hSR kM_at0 (by decide) rfl (k_X12_walkerOf_13 l adK adV dC dI cy ad B (by omega) (by omega) qr s1    w0 H.size hT ) (cwV 2 hC.2.2.2.2 gX12_asideOf_X12_walkerOf rfl rfl rfl (by decide +kernel) ⟨Nat.le_of_ble_eq_true rfl, Nat.le_of_ble_eq_true rfl⟩) rfl hl.1 rfl (Nat.le_of_ble_eq_true rfl) dX12_asideOf_23 (fun r14 w16 H locs hp15 hw => ?_)
        obtain ⟨rfl, hg21⟩ := hp15
        obtain ⟨g18, g19, c20⟩ := hg21
        refine tk_Vi hC hK hw hT hA hE hSR kM_at0 (by decide) rfl (k_X12_isOpen_2 l adK adV dC dI cy ad B (by omega) (by omega) qr s1   v2_2 (show 0 ≤ v2_2.toInt by omega) (show v2_2.toInt ≤ 11 by omega) r6 (show 0 ≤ r6.toInt by omega) (show r6.toInt ≤ 9 by omega) r14 (show 0 ≤ r14.toInt by omega) (show r14.toInt ≤ 1073741824 by omega) w0 H.size hT ) (cwV 3 hC.2.2.2.2 gX12_asideOf_X12_isOpen rfl rfl rfl (by decide +kernel) ⟨Nat.le_of_ble_eq_true rfl, Nat.le_of_ble_eq_true rfl⟩) rfl hl.1 rfl (Nat.le_of_ble_eq_true rfl) dX12_asideOf_26 (fun r22 w24 H locs hp23 hw => ?_)
        obtain ⟨rfl, hg41⟩ := hp23
        rcases hg41 with ⟨rfl, hq26⟩ | ⟨rfl, c27, c28, hq29⟩ | ⟨rfl, c30, hq31⟩ | ⟨rfl, c32, hq33⟩ | ⟨rfl, c34, c35, hq36⟩ | ⟨rfl, c37, hq38⟩ | ⟨rfl, c39, hq40⟩
        · refine lv_if_eq (tgt := 34) hx hb dX12_asideOf_29 (by decide) (fun _ => ?_) (fun c => absurd (by decide) c)
          obtain ⟨x42, ex42⟩ : ∃ y : Int32, y = v2_2 + Int32.ofInt 1 := ⟨_, rfl⟩
          refine lv_iinc (v := x42) (lv' := [(2, .int x42), (0, .ref (ad 0)), (1, .int 0)]) hx hb dX12_asideOf_34 hl (k := 2) rfl ex42.symm (by decide) rfl (fun ls hl => ?_)
          have ex42 : x42.toInt = v2_2.toInt + 1 := by rw [ex42]; exact wk_add (y := 1) (show -2147483648 ≤ v2_2.toInt + 1 by omega) (show v2_2.toInt + 1 ≤ 2147483647 by omega)
          refine lv_goto (tgt := 2) hx hb dX12_asideOf_37 (by decide) ?_
          exact ih2 x42 H locs ls  (show 0 ≤ x42.toInt by omega) (show x42.toInt ≤ 12 by omega) (show ∀ k : Int, 0 ≤ k → k < x42.toInt → ¬ mOw w0 k (0 : Int32).toInt from all_step hcr2_0 (show ¬ mOw w0 v2_2.toInt (0 : Int32).toInt by unfold mOw; simp only [(show (0 : Int32).toInt = 0 by decide), (show (9 * (0 : Int) + 216).toNat = 216 by decide), (show (9 * (0 : Int) + 220).toNat = 220 by decide), c4, c12, c20]; assumption) (by omega)) (show (12 - x42.toInt).toNat < n2 by omega) hw   (lv_sub hl [1, 2, 0] rfl)
        · refine lv_if_eq (tgt := 34) hx hb dX12_asideOf_29 (by decide) (fun _ => ?_) (fun c => absurd (by decide) c)
          obtain ⟨x43, ex43⟩ : ∃ y : Int32, y = v2_2 + Int32.ofInt 1 := ⟨_, rfl⟩
          refine lv_iinc (v := x43) (lv' := [(2, .int x43), (0, .ref (ad 0)), (1, .int 0)]) hx hb dX12_asideOf_34 hl (k := 2) rfl ex43.symm (by decide) rfl (fun ls hl => ?_)
          have ex43 : x43.toInt = v2_2.toInt + 1 := by rw [ex43]; exact wk_add (y := 1) (show -2147483648 ≤ v2_2.toInt + 1 by omega) (show v2_2.toInt + 1 ≤ 2147483647 by omega)
          refine lv_goto (tgt := 2) hx hb dX12_asideOf_37 (by decide) ?_
          exact ih2 x43 H locs ls  (show 0 ≤ x43.toInt by omega) (show x43.toInt ≤ 12 by omega) (show ∀ k : Int, 0 ≤ k → k < x43.toInt → ¬ mOw w0 k (0 : Int32).toInt from all_step hcr2_0 (show ¬ mOw w0 v2_2.toInt (0 : Int32).toInt by unfold mOw; simp only [(show (0 : Int32).toInt = 0 by decide), (show (9 * (0 : Int) + 216).toNat = 216 by decide), (show (9 * (0 : Int) + 220).toNat = 220 by decide), c4, c12, c27, c28, c20]; assumption) (by omega)) (show (12 - x43.toInt).toNat < n2 by omega) hw   (lv_sub hl [1, 2, 0] rfl)
        · refine lv_if_eq (tgt := 34) hx hb dX12_asideOf_29 (by decide) (fun _ => ?_) (fun c => absurd (by decide) c)
          obtain ⟨x44, ex44⟩ : ∃ y : Int32, y = v2_2 + Int32.ofInt 1 := ⟨_, rfl⟩
          refine lv_iinc (v := x44) (lv' := [(2, .int x44), (0, .ref (ad 0)), (1, .int 0)]) hx hb dX12_asideOf_34 hl (k := 2) rfl ex44.symm (by decide) rfl (fun ls hl => ?_)
          have ex44 : x44.toInt = v2_2.toInt + 1 := by rw [ex44]; exact wk_add (y := 1) (show -2147483648 ≤ v2_2.toInt + 1 by omega) (show v2_2.toInt + 1 ≤ 2147483647 by omega)
          refine lv_goto (tgt := 2) hx hb dX12_asideOf_37 (by decide) ?_
          exact ih2 x44 H locs ls  (show 0 ≤ x44.toInt by omega) (show x44.toInt ≤ 12 by omega) (show ∀ k : Int, 0 ≤ k → k < x44.toInt → ¬ mOw w0 k (0 : Int32).toInt from all_step hcr2_0 (show ¬ mOw w0 v2_2.toInt (0 : Int32).toInt by unfold mOw; simp only [(show (0 : Int32).toInt = 0 by decide), (show (9 * (0 : Int) + 216).toNat = 216 by decide), (show (9 * (0 : Int) + 220).toNat = 220 by decide), c4, c12, c30, c20]; assumption) (by omega)) (show (12 - x44.toInt).toNat < n2 by omega) hw   (lv_sub hl [1, 2, 0] rfl)
        · refine lv_if_eq (tgt := 34) hx hb dX12_asideOf_29 (by decide) (fun _ => ?_) (fun c => absurd (by decide) c)
          obtain ⟨x45, ex45⟩ : ∃ y : Int32, y = v2_2 + Int32.ofInt 1 := ⟨_, rfl⟩
          refine lv_iinc (v := x45) (lv' := [(2, .int x45), (0, .ref (ad 0)), (1, .int 0)]) hx hb dX12_asideOf_34 hl (k := 2) rfl ex45.symm (by decide) rfl (fun ls hl => ?_)
          have ex45 : x45.toInt = v2_2.toInt + 1 := by rw [ex45]; exact wk_add (y := 1) (show -2147483648 ≤ v2_2.toInt + 1 by omega) (show v2_2.toInt + 1 ≤ 2147483647 by omega)
          refine lv_goto (tgt := 2) hx hb dX12_asideOf_37 (by decide) ?_
          exact ih2 x45 H locs ls  (show 0 ≤ x45.toInt by omega) (show x45.toInt ≤ 12 by omega) (show ∀ k : Int, 0 ≤ k → k < x45.toInt → ¬ mOw w0 k (0 : Int32).toInt from all_step hcr2_0 (show ¬ mOw w0 v2_2.toInt (0 : Int32).toInt by unfold mOw; simp only [(show (0 : Int32).toInt = 0 by decide), (show (9 * (0 : Int) + 216).toNat = 216 by decide), (show (9 * (0 : Int) + 220).toNat = 220 by decide), c4, c12, c32, c20]; assumption) (by omega)) (show (12 - x45.toInt).toNat < n2 by omega) hw   (lv_sub hl [1, 2, 0] rfl)
        · refine lv_if_eq (tgt := 34) hx hb dX12_asideOf_29 (by decide) (fun c => absurd c (by decide)) (fun _ => ?_)
          refine lv_iload_n hx hb dX12_asideOf_32 rfl (lv_at hl 2 rfl) ?_
          exact tk_iret hC hr hlocks hK ⟨rfl, (Or.inl ⟨(show 0 ≤ v2_2.toInt by omega), (show v2_2.toInt ≤ 11 by omega), ⟨x3, c4, (show 1 ≤ x3.toInt by omega), (show x3.toInt ≤ 12 by omega)⟩, (by exact ⟨by simp only [c4, c12, c34, c35, c20]; omega, by unfold mOw; simp only [(show (0 : Int32).toInt = 0 by decide), (show (9 * (0 : Int) + 216).toNat = 216 by decide), (show (9 * (0 : Int) + 220).toNat = 220 by decide), c4, c12, c34, c35, c20]; assumption⟩)⟩)⟩ hw dX12_asideOf_33
        · refine lv_if_eq (tgt := 34) hx hb dX12_asideOf_29 (by decide) (fun c => absurd c (by decide)) (fun _ => ?_)
          refine lv_iload_n hx hb dX12_asideOf_32 rfl (lv_at hl 2 rfl) ?_
          exact tk_iret hC hr hlocks hK ⟨rfl, (Or.inl ⟨(show 0 ≤ v2_2.toInt by omega), (show v2_2.toInt ≤ 11 by omega), ⟨x3, c4, (show 1 ≤ x3.toInt by omega), (show x3.toInt ≤ 12 by omega)⟩, (by exact ⟨by simp only [c4, c12, c37, c20]; omega, by unfold mOw; simp only [(show (0 : Int32).toInt = 0 by decide), (show (9 * (0 : Int) + 216).toNat = 216 by decide), (show (9 * (0 : Int) + 220).toNat = 220 by decide), c4, c12, c37, c20]; assumption⟩)⟩)⟩ hw dX12_asideOf_33
        · refine lv_if_eq (tgt := 34) hx hb dX12_asideOf_29 (by decide) (fun c => absurd c (by decide)) (fun _ => ?_)
          refine lv_iload_n hx hb dX12_asideOf_32 rfl (lv_at hl 2 rfl) ?_
          exact tk_iret hC hr hlocks hK ⟨rfl, (Or.inl ⟨(show 0 ≤ v2_2.toInt by omega), (show v2_2.toInt ≤ 11 by omega), ⟨x3, c4, (show 1 ≤ x3.toInt by omega), (show x3.toInt ≤ 12 by omega)⟩, (by exact ⟨by simp only [c4, c12, c39, c20]; omega, by unfold mOw; simp only [(show (0 : Int32).toInt = 0 by decide), (show (9 * (0 : Int) + 216).toNat = 216 by decide), (show (9 * (0 : Int) + 220).toNat = 220 by decide), c4, c12, c39, c20]; assumption⟩)⟩)⟩ hw dX12_asideOf_33
  refine lv_iconst (v := 0) hx hb dX12_asideOf_0 (by decide) ?_
  refine lv_istore_n (lv' := [(2, .int 0), (0, .ref (ad 0)), (1, .int 0)]) hx hb dX12_asideOf_1 rfl hl (by decide) rfl (fun ls hl => ?_)
  exact L2 ((12 - (0 : Int)).toNat + 1) 0 s.heap locs ls  (by decide) (by decide) (show ∀ k : Int, 0 ≤ k → k < (0 : Int) → ¬ mOw w0 k (0 : Int32).toInt from all_none) (Nat.lt_succ_self _) hw   (lv_sub hl [1, 2, 0] rfl)
abbrev P_X12_canGo_2 (ad : Nat → Nat) (cy : Nat → ClassId) (B : Int) (qr : Nat) (s1 : Int)  (w0 : va_W) : Int32 → va_W → Prop := fun r u => w0 = u ∧ ((r = 0) ∨ (r = 1 ∧ (∃ y : Int32, gi u 0 31 = y ∧ 0 ≤ y.toInt ∧ y.toInt ≤ 11)))
set_option maxHeartbeats 4000000 in
set_option maxRecDepth 100000 in
theorem k_X12_canGo_2 (l : Launch) (adK adV : Nat → Nat) (dC : Nat → ClassId) (dI : Nat → Nat → Nat) (cy : Nat → ClassId) (ad : Nat → Nat) (B : Int) (hB0 : 100000 ≤ B) (hB1 : B ≤ 1073741824) (qr : Nat) (s1 : Int)   (w0 : va_W) (sz : Nat) (hT : TW ksM ad cy B qr 12 w0)  : Met l yX12_canGo wsX12_canGo ({ frames := 5, cells := 0, slots := 0, locals := 103 }) (va_Pc [.ref (ad 0), .int 0] (wpreS adK adV dC dI cy sz w0)) (va_Qi (P_X12_canGo_2 ad cy B qr s1  w0) (fun u : va_W => wpost dC dI cy (va_A w0 sz) u) (va_A w0 sz)) 0 0 (va_A w0 sz) := by
  refine Met.ofW (cc := cX12_canGo) (maxL := 2) (ret := (some .boolean)) (by decide) rfl ?_
  intro p e s m args below meth c s₁ Bk hml hv
  obtain ⟨rfl, ⟨hsz, hP, hK, hD0⟩, hE, hSR⟩ := hv
  have hx := Bk.exec
  have hb := Bk.bytes
  have hr := Bk.returns
  have hlocks := Bk.notSynchronized
  have hC : CallFix p m c cX12_canGo 2 s _ wsX12_canGo RX12 := ⟨hx, hb, hml, findClass_of_methodNamed Bk.named, atoms_spec (ws := wsX12_canGo) Bk.pre⟩
  subst hsz
  have hD := hD0.self (sz := s.heap.size)
  generalize hAe : va_A w0 s.heap.size = A at hD hE ⊢
  have hA : ∀ q : Nat, s.heap.size ≤ q → A q := fun q h => by rw [← hAe]; exact Or.inr h
  have hw : Wd dC dI A s.heap s.heap [] w0 := ⟨hP, hD, va_S.rf⟩
  have hF : FE ksM ([] : List (Nat × Nat × Nat)) w0 w0 := FE.rf
  have hl := lv_entry ([.ref (ad 0), .int 0]) (n := 2) (Nat.le_of_ble_eq_true rfl)
  rw [lg_entry_eq]
  generalize (lg_sl ([.ref (ad 0), .int 0]) ++ List.replicate (2 - (lg_sl ([.ref (ad 0), .int 0])).length) Slot.unset).toArray = ls at hl ⊢
  have hl : lv_has ls 2 [(0, .ref (ad 0)), (1, .int 0)] := hl
  generalize hloc : ([] : List Loc) = locs at hw ⊢
  have hinX12 : ∀ w ∈ u_ws RX12 TX12 42, w ∈ wsX12_canGo := fun _ h => List.mem_cons_of_mem _ (List.mem_append_right _ (h))
  have J34 : ∀ (f34_0_31 : Int32) (H : Heap) (locs : List Loc) (ls : Array Slot), (-1) ≤ f34_0_31.toInt → f34_0_31.toInt ≤ 11 → Wd dC dI A s.heap H locs w0 → gi w0 0 31 = f34_0_31 → lv_has ls 2 [(0, .ref (ad 0)), (1, .int 0)] → W p l e ({ frames := 5, cells := 0, slots := 0, locals := 103 }) s m (List.toArray [.ref (ad 0), .int 0]) below meth c H locs 0 0 (MQ below (va_Qi (P_X12_canGo_2 ad cy B qr s1  w0) (fun u : va_W => wpost dC dI cy A u) A) (List.toArray [.ref (ad 0), .int 0]) s 0 0 A) (F0 m 34 ls []) := by
    intro f34_0_31 H locs ls r1 t2 hw c3 hl
    refine lv_iconst (v := 0) hx hb dX12_canGo_34 (by decide) ?_
    exact tk_zret hC hr rfl hlocks hK ⟨rfl, (Or.inl rfl)⟩ hw dX12_canGo_35
  refine lv_aload_n hx hb dX12_canGo_0 rfl (lv_at hl 0 rfl) ?_
  refine tk_geti hC hK hw hT hinX12 kM_at0 (by decide) rfl 31 (by decide) (List.mem_of_getElem? (i := 1) rfl) rfl rfl dX12_canGo_1 (fun x4 c5 rx4 tx4 => ?_)
  refine lv_if_lt (tgt := 34) hx hb dX12_canGo_4 (by decide) (fun c6 => ?_) (fun c6 => ?_)
  · have c6 : x4.toInt < (0 : Int) := wk_lt.mp c6
    exact J34 x4 s.heap locs ls  (show (-1) ≤ x4.toInt by omega) (show x4.toInt ≤ 11 by omega)  hw  c5 (lv_sub hl [0, 1] rfl)
  · have c6 : (0 : Int) ≤ x4.toInt := wk_ltF c6
    refine lv_aload_n hx hb dX12_canGo_7 rfl (lv_at hl 0 rfl) ?_
    refine lv_aload_n hx hb dX12_canGo_8 rfl (lv_at hl 0 rfl) ?_
    refine tk_geti hC hK hw hT hinX12 kM_at0 (by decide) rfl 31 (by decide) (List.mem_of_getElem? (i := 1) rfl) rfl rfl dX12_canGo_9 (fun x7 c8 rx7 tx7 => ?_)
    refine wk_top x4 (c8.symm.trans c5) ?_
    refine lv_aload_n hx hb dX12_canGo_12 rfl (lv_at hl 0 rfl) ?_
    refine lv_iload_n hx hb dX12_canGo_13 rfl (lv_at hl 1 rfl) ?_
    refine lv_iconst (v := 0) hx hb dX12_canGo_14 (by decide) ?_
    refine tk_Vi hC hK hw hT hA hE hSR kM_at0 (by decide) rfl (k_X12_walkerOf_11 l adK adV dC dI cy ad B (by omega) (by omega) qr s1    w0 s.heap.size hT ) (cwV 2 hC.2.2.2.2 gX12_canGo_X12_walkerOf rfl rfl rfl (by decide +kernel) ⟨Nat.le_of_ble_eq_true rfl, Nat.le_of_ble_eq_true rfl⟩) rfl hl.1 rfl (Nat.le_of_ble_eq_true rfl) dX12_canGo_15 (fun r9 w11 H locs hp10 hw => ?_)
    obtain ⟨rfl, hg16⟩ := hp10
    obtain ⟨g13, g14, c15⟩ := hg16
    refine lv_aload_n hx hb dX12_canGo_18 rfl (lv_at hl 0 rfl) ?_
    refine lv_iload_n hx hb dX12_canGo_19 rfl (lv_at hl 1 rfl) ?_
    refine lv_iconst (v := 4) hx hb dX12_canGo_20 (by decide) ?_
    refine tk_Vi hC hK hw hT hA hE hSR kM_at0 (by decide) rfl (k_X12_walkerOf_13 l adK adV dC dI cy ad B (by omega) (by omega) qr s1    w0 H.size hT ) (cwV 2 hC.2.2.2.2 gX12_canGo_X12_walkerOf rfl rfl rfl (by decide +kernel) ⟨Nat.le_of_ble_eq_true rfl, Nat.le_of_ble_eq_true rfl⟩) rfl hl.1 rfl (Nat.le_of_ble_eq_true rfl) dX12_canGo_21 (fun r17 w19 H locs hp18 hw => ?_)
    obtain ⟨rfl, hg24⟩ := hp18
    obtain ⟨g21, g22, c23⟩ := hg24
    refine tk_Vi hC hK hw hT hA hE hSR kM_at0 (by decide) rfl (k_X12_isOpen_2 l adK adV dC dI cy ad B (by omega) (by omega) qr s1   x4 (show 0 ≤ x4.toInt by omega) (show x4.toInt ≤ 11 by omega) r9 (show 0 ≤ r9.toInt by omega) (show r9.toInt ≤ 9 by omega) r17 (show 0 ≤ r17.toInt by omega) (show r17.toInt ≤ 1073741824 by omega) w0 H.size hT ) (cwV 3 hC.2.2.2.2 gX12_canGo_X12_isOpen rfl rfl rfl (by decide +kernel) ⟨Nat.le_of_ble_eq_true rfl, Nat.le_of_ble_eq_true rfl⟩) rfl hl.1 rfl (Nat.le_of_ble_eq_true rfl) dX12_canGo_24 (fun r25 w27 H locs hp26 hw => ?_)
    obtain ⟨rfl, hg44⟩ := hp26
    rcases hg44 with ⟨rfl, hq29⟩ | ⟨rfl, c30, c31, hq32⟩ | ⟨rfl, c33, hq34⟩ | ⟨rfl, c35, hq36⟩ | ⟨rfl, c37, c38, hq39⟩ | ⟨rfl, c40, hq41⟩ | ⟨rfl, c42, hq43⟩
    · refine lv_if_eq (tgt := 34) hx hb dX12_canGo_27 (by decide) (fun _ => ?_) (fun c => absurd (by decide) c)
      exact J34 x4 H locs ls  (show (-1) ≤ x4.toInt by omega) (show x4.toInt ≤ 11 by omega)  hw  c5 (lv_sub hl [0, 1] rfl)
    · refine lv_if_eq (tgt := 34) hx hb dX12_canGo_27 (by decide) (fun _ => ?_) (fun c => absurd (by decide) c)
      exact J34 x4 H locs ls  (show (-1) ≤ x4.toInt by omega) (show x4.toInt ≤ 11 by omega)  hw  c5 (lv_sub hl [0, 1] rfl)
    · refine lv_if_eq (tgt := 34) hx hb dX12_canGo_27 (by decide) (fun _ => ?_) (fun c => absurd (by decide) c)
      exact J34 x4 H locs ls  (show (-1) ≤ x4.toInt by omega) (show x4.toInt ≤ 11 by omega)  hw  c5 (lv_sub hl [0, 1] rfl)
    · refine lv_if_eq (tgt := 34) hx hb dX12_canGo_27 (by decide) (fun _ => ?_) (fun c => absurd (by decide) c)
      exact J34 x4 H locs ls  (show (-1) ≤ x4.toInt by omega) (show x4.toInt ≤ 11 by omega)  hw  c5 (lv_sub hl [0, 1] rfl)
    · refine lv_if_eq (tgt := 34) hx hb dX12_canGo_27 (by decide) (fun c => absurd c (by decide)) (fun _ => ?_)
      refine lv_iconst (v := 1) hx hb dX12_canGo_30 (by decide) ?_
      refine lv_goto (tgt := 35) hx hb dX12_canGo_31 (by decide) ?_
      exact tk_zret hC hr rfl hlocks hK ⟨rfl, (Or.inr ⟨rfl, ⟨x4, c5, (show 0 ≤ x4.toInt by omega), (show x4.toInt ≤ 11 by omega)⟩⟩)⟩ hw dX12_canGo_35
    · refine lv_if_eq (tgt := 34) hx hb dX12_canGo_27 (by decide) (fun c => absurd c (by decide)) (fun _ => ?_)
      refine lv_iconst (v := 1) hx hb dX12_canGo_30 (by decide) ?_
      refine lv_goto (tgt := 35) hx hb dX12_canGo_31 (by decide) ?_
      exact tk_zret hC hr rfl hlocks hK ⟨rfl, (Or.inr ⟨rfl, ⟨x4, c5, (show 0 ≤ x4.toInt by omega), (show x4.toInt ≤ 11 by omega)⟩⟩)⟩ hw dX12_canGo_35
    · refine lv_if_eq (tgt := 34) hx hb dX12_canGo_27 (by decide) (fun c => absurd c (by decide)) (fun _ => ?_)
      refine lv_iconst (v := 1) hx hb dX12_canGo_30 (by decide) ?_
      refine lv_goto (tgt := 35) hx hb dX12_canGo_31 (by decide) ?_
      exact tk_zret hC hr rfl hlocks hK ⟨rfl, (Or.inr ⟨rfl, ⟨x4, c5, (show 0 ≤ x4.toInt by omega), (show x4.toInt ≤ 11 by omega)⟩⟩)⟩ hw dX12_canGo_35
abbrev P_X12_walkerOf_14 (ad : Nat → Nat) (cy : Nat → ClassId) (B : Int) (qr : Nat) (s1 : Int)  (w0 : va_W) : Int32 → va_W → Prop := fun r u => w0 = u ∧ ((gi u 12 224 = r))
set_option maxHeartbeats 4000000 in
set_option maxRecDepth 100000 in
theorem k_X12_walkerOf_14 (l : Launch) (adK adV : Nat → Nat) (dC : Nat → ClassId) (dI : Nat → Nat → Nat) (cy : Nat → ClassId) (ad : Nat → Nat) (B : Int) (hB0 : 100000 ≤ B) (hB1 : B ≤ 1073741824) (qr : Nat) (s1 : Int)   (w0 : va_W) (sz : Nat) (hT : TW ksM ad cy B qr 12 w0)  : Met l yX12_walkerOf wsX12_walkerOf ({ frames := 1, cells := 0, slots := 0, locals := 12 }) (va_Pc [.ref (ad 0), .int 0, .int 8] (wpreS adK adV dC dI cy sz w0)) (va_Qi (P_X12_walkerOf_14 ad cy B qr s1  w0) (fun u : va_W => wpost dC dI cy (va_A w0 sz) u) (va_A w0 sz)) 0 0 (va_A w0 sz) := by
  refine Met.ofW (cc := cX12_walkerOf) (maxL := 3) (ret := (some .int)) (by decide) rfl ?_
  intro p e s m args below meth c s₁ Bk hml hv
  obtain ⟨rfl, ⟨hsz, hP, hK, hD0⟩, hE, hSR⟩ := hv
  have hx := Bk.exec
  have hb := Bk.bytes
  have hr := Bk.returns
  have hlocks := Bk.notSynchronized
  have hC : CallFix p m c cX12_walkerOf 3 s _ wsX12_walkerOf RX12 := ⟨hx, hb, hml, findClass_of_methodNamed Bk.named, atoms_spec (ws := wsX12_walkerOf) Bk.pre⟩
  subst hsz
  have hD := hD0.self (sz := s.heap.size)
  generalize hAe : va_A w0 s.heap.size = A at hD hE ⊢
  have hA : ∀ q : Nat, s.heap.size ≤ q → A q := fun q h => by rw [← hAe]; exact Or.inr h
  have hw : Wd dC dI A s.heap s.heap [] w0 := ⟨hP, hD, va_S.rf⟩
  have hF : FE ksM ([] : List (Nat × Nat × Nat)) w0 w0 := FE.rf
  have hl := lv_entry ([.ref (ad 0), .int 0, .int 8]) (n := 3) (Nat.le_of_ble_eq_true rfl)
  rw [lg_entry_eq]
  generalize (lg_sl ([.ref (ad 0), .int 0, .int 8]) ++ List.replicate (3 - (lg_sl ([.ref (ad 0), .int 0, .int 8])).length) Slot.unset).toArray = ls at hl ⊢
  have hl : lv_has ls 3 [(0, .ref (ad 0)), (1, .int 0), (2, .int 8)] := hl
  generalize hloc : ([] : List Loc) = locs at hw ⊢
  have hinX12 : ∀ w ∈ u_ws RX12 TX12 42, w ∈ wsX12_walkerOf := fun _ h => List.mem_cons_of_mem _ (List.mem_append_right _ (h))
  refine lv_aload_n hx hb dX12_walkerOf_0 rfl (lv_at hl 0 rfl) ?_
  refine tk_getA hC hK hw hT hinX12 kM_at0 (by decide) rfl 26 (by decide) (List.mem_of_getElem? (i := 1) rfl) rfl rfl dX12_walkerOf_1 ?_
  refine lv_sipush (v := 216) hx hb dX12_walkerOf_4 (by decide) ?_
  refine lv_bipush (v := 9) hx hb dX12_walkerOf_7 (by decide) ?_
  refine lv_iload_n hx hb dX12_walkerOf_9 rfl (lv_at hl 1 rfl) ?_
  refine lv_imul hx hb dX12_walkerOf_10 ?_
  refine wk_top 0 (by decide) ?_
  refine lv_iadd hx hb dX12_walkerOf_11 ?_
  refine wk_top 216 (by decide) ?_
  refine lv_iload_n hx hb dX12_walkerOf_12 rfl (lv_at hl 2 rfl) ?_
  refine lv_iadd hx hb dX12_walkerOf_13 ?_
  refine wk_top 224 (by decide) ?_
  refine tk_ialdR hC hK hw hT kM_at12 rfl (by decide) (by decide) dX12_walkerOf_14 (fun x1 c2 Ex1 => ?_)
  have c2 : gi w0 12 224 = x1 := c2
  exact tk_iret hC hr hlocks hK ⟨rfl, c2⟩ hw dX12_walkerOf_15
abbrev P_X12_askedToday_2 (ad : Nat → Nat) (cy : Nat → ClassId) (B : Int) (qr : Nat) (s1 : Int)  (w0 : va_W) : Int32 → va_W → Prop := fun r u => w0 = u ∧ ((r = 0) ∨ (r = 1 ∧ (∃ y : Int32, gi u 12 224 = y ∧ 0 ≤ y.toInt ∧ y.toInt ≤ 44739242)))
set_option maxHeartbeats 4000000 in
set_option maxRecDepth 100000 in
theorem k_X12_askedToday_2 (l : Launch) (adK adV : Nat → Nat) (dC : Nat → ClassId) (dI : Nat → Nat → Nat) (cy : Nat → ClassId) (ad : Nat → Nat) (B : Int) (hB0 : 100000 ≤ B) (hB1 : B ≤ 1073741824) (qr : Nat) (s1 : Int)   (w0 : va_W) (sz : Nat) (hT : TW ksM ad cy B qr 12 w0)  : Met l yX12_askedToday wsX12_askedToday ({ frames := 2, cells := 0, slots := 0, locals := 34 }) (va_Pc [.ref (ad 0), .int 0] (wpreS adK adV dC dI cy sz w0)) (va_Qi (P_X12_askedToday_2 ad cy B qr s1  w0) (fun u : va_W => wpost dC dI cy (va_A w0 sz) u) (va_A w0 sz)) 0 0 (va_A w0 sz) := by
  refine Met.ofW (cc := cX12_askedToday) (maxL := 2) (ret := (some .boolean)) (by decide) rfl ?_
  intro p e s m args below meth c s₁ Bk hml hv
  obtain ⟨rfl, ⟨hsz, hP, hK, hD0⟩, hE, hSR⟩ := hv
  have hx := Bk.exec
  have hb := Bk.bytes
  have hr := Bk.returns
  have hlocks := Bk.notSynchronized
  have hC : CallFix p m c cX12_askedToday 2 s _ wsX12_askedToday RX12 := ⟨hx, hb, hml, findClass_of_methodNamed Bk.named, atoms_spec (ws := wsX12_askedToday) Bk.pre⟩
  subst hsz
  have hD := hD0.self (sz := s.heap.size)
  generalize hAe : va_A w0 s.heap.size = A at hD hE ⊢
  have hA : ∀ q : Nat, s.heap.size ≤ q → A q := fun q h => by rw [← hAe]; exact Or.inr h
  have hw : Wd dC dI A s.heap s.heap [] w0 := ⟨hP, hD, va_S.rf⟩
  have hF : FE ksM ([] : List (Nat × Nat × Nat)) w0 w0 := FE.rf
  have hl := lv_entry ([.ref (ad 0), .int 0]) (n := 2) (Nat.le_of_ble_eq_true rfl)
  rw [lg_entry_eq]
  generalize (lg_sl ([.ref (ad 0), .int 0]) ++ List.replicate (2 - (lg_sl ([.ref (ad 0), .int 0])).length) Slot.unset).toArray = ls at hl ⊢
  have hl : lv_has ls 2 [(0, .ref (ad 0)), (1, .int 0)] := hl
  generalize hloc : ([] : List Loc) = locs at hw ⊢
  refine lv_aload_n hx hb dX12_askedToday_0 rfl (lv_at hl 0 rfl) ?_
  refine lv_iload_n hx hb dX12_askedToday_1 rfl (lv_at hl 1 rfl) ?_
  refine lv_bipush (v := 8) hx hb dX12_askedToday_2 (by decide) ?_
  refine tk_Vi hC hK hw hT hA hE hSR kM_at0 (by decide) rfl (k_X12_walkerOf_14 l adK adV dC dI cy ad B (by omega) (by omega) qr s1    w0 s.heap.size hT ) (cwV 2 hC.2.2.2.2 gX12_askedToday_X12_walkerOf rfl rfl rfl (by decide +kernel) ⟨Nat.le_of_ble_eq_true rfl, Nat.le_of_ble_eq_true rfl⟩) rfl hl.1 rfl (Nat.le_of_ble_eq_true rfl) dX12_askedToday_4 (fun r1 w3 H locs hp2 hw => ?_)
  obtain ⟨rfl, hg6⟩ := hp2
  have c5 := hg6
  refine lv_aload_n hx hb dX12_askedToday_7 rfl (lv_at hl 0 rfl) ?_
  refine lv_iload_n hx hb dX12_askedToday_8 rfl (lv_at hl 1 rfl) ?_
  refine lv_iconst (v := 4) hx hb dX12_askedToday_9 (by decide) ?_
  refine tk_Vi hC hK hw hT hA hE hSR kM_at0 (by decide) rfl (k_X12_walkerOf_13 l adK adV dC dI cy ad B (by omega) (by omega) qr s1    w0 H.size hT ) (cwV 2 hC.2.2.2.2 gX12_askedToday_X12_walkerOf rfl rfl rfl (by decide +kernel) ⟨Nat.le_of_ble_eq_true rfl, Nat.le_of_ble_eq_true rfl⟩) rfl hl.1 rfl (Nat.le_of_ble_eq_true rfl) dX12_askedToday_10 (fun r7 w9 H locs hp8 hw => ?_)
  obtain ⟨rfl, hg14⟩ := hp8
  obtain ⟨g11, g12, c13⟩ := hg14
  refine lv_bipush (v := 24) hx hb dX12_askedToday_13 (by decide) ?_
  refine lv_idiv hx hb dX12_askedToday_15 (by decide) ?_
  refine lv_topi (fun x15 ex15 => ?_)
  have ex15 : x15.toInt = r7.toInt / (24 : Int) := by rw [ex15]; exact wk_div (show 0 ≤ r7.toInt by omega) (show 0 < (24 : Int) by decide)
  refine lv_icmp_ne (tgt := 23) hx hb dX12_askedToday_16 (by decide) (fun c16 => ?_) (fun c16 => ?_)
  · have c16 : ¬ r1.toInt = x15.toInt := wk_eqF c16
    refine lv_iconst (v := 0) hx hb dX12_askedToday_23 (by decide) ?_
    exact tk_zret hC hr rfl hlocks hK ⟨rfl, (Or.inl rfl)⟩ hw dX12_askedToday_24
  · have c16 : r1.toInt = x15.toInt := wk_eq.mp c16
    refine lv_iconst (v := 1) hx hb dX12_askedToday_19 (by decide) ?_
    refine lv_goto (tgt := 24) hx hb dX12_askedToday_20 (by decide) ?_
    exact tk_zret hC hr rfl hlocks hK ⟨rfl, (Or.inr ⟨rfl, ⟨r1, c5, (show 0 ≤ r1.toInt by omega), (show r1.toInt ≤ 44739242 by omega)⟩⟩)⟩ hw dX12_askedToday_24
abbrev P_X12_mayDo_2 (ad : Nat → Nat) (cy : Nat → ClassId) (B : Int) (qr : Nat) (s1 : Int) (a2 : Int32) (w0 : va_W) : Int32 → va_W → Prop := fun r u => w0 = u ∧ ((r = 0) ∨ (r = 0 ∧ 0 ≤ a2.toInt ∧ a2.toInt ≤ 0) ∨ (r = 0 ∧ 1 ≤ a2.toInt ∧ a2.toInt ≤ 1) ∨ (r = 1 ∧ a2.toInt ≤ (-1)) ∨ (r = 1 ∧ 0 ≤ a2.toInt ∧ a2.toInt ≤ 0 ∧ (∃ y : Int32, gi u 0 31 = y ∧ 0 ≤ y.toInt ∧ y.toInt ≤ 11)) ∨ (r = 1 ∧ 1 ≤ a2.toInt ∧ a2.toInt ≤ 1 ∧ (∃ y : Int32, gi u 12 1 = y ∧ 1 ≤ y.toInt ∧ y.toInt ≤ 12) ∧ (mAS u (0 : Int32).toInt)) ∨ (r = 1 ∧ 2 ≤ a2.toInt ∧ a2.toInt ≤ 2 ∧ (∃ y : Int32, gi u 0 30 = y ∧ 0 ≤ y.toInt ∧ y.toInt ≤ 0)) ∨ (r = 1 ∧ 3 ≤ a2.toInt))
set_option maxHeartbeats 4000000 in
set_option maxRecDepth 100000 in
theorem k_X12_mayDo_2 (l : Launch) (adK adV : Nat → Nat) (dC : Nat → ClassId) (dI : Nat → Nat → Nat) (cy : Nat → ClassId) (ad : Nat → Nat) (B : Int) (hB0 : 100000 ≤ B) (hB1 : B ≤ 1073741824) (qr : Nat) (s1 : Int)  (a2 : Int32) (w0 : va_W) (sz : Nat) (hT : TW ksM ad cy B qr 12 w0)  : Met l yX12_mayDo wsX12_mayDo ({ frames := 6, cells := 0, slots := 0, locals := 125 }) (va_Pc [.ref (ad 0), .int 0, .int a2] (wpreS adK adV dC dI cy sz w0)) (va_Qi (P_X12_mayDo_2 ad cy B qr s1 a2 w0) (fun u : va_W => wpost dC dI cy (va_A w0 sz) u) (va_A w0 sz)) 0 0 (va_A w0 sz) := by
  refine Met.ofW (cc := cX12_mayDo) (maxL := 3) (ret := (some .boolean)) (by decide) rfl ?_
  intro p e s m args below meth c s₁ Bk hml hv
  obtain ⟨rfl, ⟨hsz, hP, hK, hD0⟩, hE, hSR⟩ := hv
  have hx := Bk.exec
  have hb := Bk.bytes
  have hr := Bk.returns
  have hlocks := Bk.notSynchronized
  have hC : CallFix p m c cX12_mayDo 3 s _ wsX12_mayDo RX12 := ⟨hx, hb, hml, findClass_of_methodNamed Bk.named, atoms_spec (ws := wsX12_mayDo) Bk.pre⟩
  subst hsz
  have hD := hD0.self (sz := s.heap.size)
  generalize hAe : va_A w0 s.heap.size = A at hD hE ⊢
  have hA : ∀ q : Nat, s.heap.size ≤ q → A q := fun q h => by rw [← hAe]; exact Or.inr h
  have hw : Wd dC dI A s.heap s.heap [] w0 := ⟨hP, hD, va_S.rf⟩
  have hF : FE ksM ([] : List (Nat × Nat × Nat)) w0 w0 := FE.rf
  have hl := lv_entry ([.ref (ad 0), .int 0, .int a2]) (n := 3) (Nat.le_of_ble_eq_true rfl)
  rw [lg_entry_eq]
  generalize (lg_sl ([.ref (ad 0), .int 0, .int a2]) ++ List.replicate (3 - (lg_sl ([.ref (ad 0), .int 0, .int a2])).length) Slot.unset).toArray = ls at hl ⊢
  have hl : lv_has ls 3 [(0, .ref (ad 0)), (1, .int 0), (2, .int a2)] := hl
  generalize hloc : ([] : List Loc) = locs at hw ⊢
  have hinX12 : ∀ w ∈ u_ws RX12 TX12 42, w ∈ wsX12_mayDo := fun _ h => List.mem_cons_of_mem _ (List.mem_append_right _ (h))
  have J67 : ∀ (f67_0_30 : Int32) (H : Heap) (locs : List Loc) (ls : Array Slot), 0 ≤ f67_0_30.toInt → f67_0_30.toInt ≤ 1 → Wd dC dI A s.heap H locs w0 → gi w0 0 30 = f67_0_30 → lv_has ls 3 [(0, .ref (ad 0)), (1, .int 0), (2, .int 2)] → W p l e ({ frames := 6, cells := 0, slots := 0, locals := 125 }) s m (List.toArray [.ref (ad 0), .int 0, .int a2]) below meth c H locs 0 0 (MQ below (va_Qi (P_X12_mayDo_2 ad cy B qr s1 a2 w0) (fun u : va_W => wpost dC dI cy A u) A) (List.toArray [.ref (ad 0), .int 0, .int a2]) s 0 0 A) (F0 m 67 ls []) := by
    intro f67_0_30 H locs ls r1 t2 hw c3 hl
    refine lv_iconst (v := 0) hx hb dX12_mayDo_67 (by decide) ?_
    exact tk_zret hC hr rfl hlocks hK ⟨rfl, (Or.inl rfl)⟩ hw dX12_mayDo_68
  refine lv_iload_n hx hb dX12_mayDo_0 rfl (lv_at hl 2 rfl) ?_
  rcases (show a2.toInt = 0 ∨ a2.toInt = 1 ∨ a2.toInt = 2 ∨ a2.toInt < 0 ∨ 2 < a2.toInt by omega) with c4 | c4 | c4 | c4 | c4
  · refine lv_tableIn (off := 27) (tgt := 28) hx hb dX12_mayDo_1 (by omega) (by omega) (by rw [c4]; rfl) (by decide) ?_
    refine lv_aload_n hx hb dX12_mayDo_28 rfl (lv_at hl 0 rfl) ?_
    refine lv_iload_n hx hb dX12_mayDo_29 rfl (lv_at hl 1 rfl) ?_
    refine tk_Vi hC hK hw hT hA hE hSR kM_at0 (by decide) rfl (k_X12_canGo_2 l adK adV dC dI cy ad B (by omega) (by omega) qr s1    w0 s.heap.size hT ) (cwV 1 hC.2.2.2.2 gX12_mayDo_X12_canGo rfl rfl rfl (by decide +kernel) ⟨Nat.le_of_ble_eq_true rfl, Nat.le_of_ble_eq_true rfl⟩) rfl hl.1 rfl (Nat.le_of_ble_eq_true rfl) dX12_mayDo_30 (fun r5 w7 H locs hp6 hw => ?_)
    obtain ⟨rfl, hg11⟩ := hp6
    rcases hg11 with rfl | ⟨rfl, ⟨x9, c10, rx9, tx9⟩⟩
    · exact tk_zret hC hr rfl hlocks hK ⟨rfl, (Or.inr (Or.inl ⟨rfl, (show 0 ≤ a2.toInt by omega), (show a2.toInt ≤ 0 by omega)⟩))⟩ hw dX12_mayDo_33
    · exact tk_zret hC hr rfl hlocks hK ⟨rfl, (Or.inr (Or.inr (Or.inr (Or.inr (Or.inl ⟨rfl, (show 0 ≤ a2.toInt by omega), (show a2.toInt ≤ 0 by omega), ⟨x9, c10, (show 0 ≤ x9.toInt by omega), (show x9.toInt ≤ 11 by omega)⟩⟩)))))⟩ hw dX12_mayDo_33
  · refine lv_tableIn (off := 33) (tgt := 34) hx hb dX12_mayDo_1 (by omega) (by omega) (by rw [c4]; rfl) (by decide) ?_
    refine lv_aload_n hx hb dX12_mayDo_34 rfl (lv_at hl 0 rfl) ?_
    refine lv_iload_n hx hb dX12_mayDo_35 rfl (lv_at hl 1 rfl) ?_
    refine tk_Vi hC hK hw hT hA hE hSR kM_at0 (by decide) rfl (k_X12_asideOf_2 l adK adV dC dI cy ad B (by omega) (by omega) qr s1    w0 s.heap.size hT ) (cwV 1 hC.2.2.2.2 gX12_mayDo_X12_asideOf rfl rfl rfl (by decide +kernel) ⟨Nat.le_of_ble_eq_true rfl, Nat.le_of_ble_eq_true rfl⟩) rfl hl.1 rfl (Nat.le_of_ble_eq_true rfl) dX12_mayDo_36 (fun r12 w14 H locs hp13 hw => ?_)
    obtain ⟨rfl, hg22⟩ := hp13
    rcases hg22 with ⟨g16, g17, ⟨x18, c19, rx18, tx18⟩, hq20⟩ | ⟨rfl, hq21⟩
    · refine lv_if_lt (tgt := 46) hx hb dX12_mayDo_39 (by decide) (fun c => absurd c (fun h => absurd (show r12.toInt < (0 : Int) from wk_lt.mp h) (by omega))) (fun _ => ?_)
      refine lv_iconst (v := 1) hx hb dX12_mayDo_42 (by decide) ?_
      refine lv_goto (tgt := 47) hx hb dX12_mayDo_43 (by decide) ?_
      exact tk_zret hC hr rfl hlocks hK ⟨rfl, (Or.inr (Or.inr (Or.inr (Or.inr (Or.inr (Or.inl ⟨rfl, (show 1 ≤ a2.toInt by omega), (show a2.toInt ≤ 1 by omega), ⟨x18, c19, (show 1 ≤ x18.toInt by omega), (show x18.toInt ≤ 12 by omega)⟩, (by exact ⟨_, by omega, hq20.1, hq20.2⟩)⟩))))))⟩ hw dX12_mayDo_47
    · refine lv_if_lt (tgt := 46) hx hb dX12_mayDo_39 (by decide) (fun _ => ?_) (fun c => absurd (by decide) c)
      refine lv_iconst (v := 0) hx hb dX12_mayDo_46 (by decide) ?_
      exact tk_zret hC hr rfl hlocks hK ⟨rfl, (Or.inr (Or.inr (Or.inl ⟨rfl, (show 1 ≤ a2.toInt by omega), (show a2.toInt ≤ 1 by omega)⟩)))⟩ hw dX12_mayDo_47
  · refine lv_tableIn (off := 47) (tgt := 48) hx hb dX12_mayDo_1 (by omega) (by omega) (by rw [c4]; rfl) (by decide) ?_
    refine lv_aload_n hx hb dX12_mayDo_48 rfl (lv_at hl 0 rfl) ?_
    refine tk_geti hC hK hw hT hinX12 kM_at0 (by decide) rfl 30 (by decide) (List.mem_of_getElem? (i := 1) rfl) rfl rfl dX12_mayDo_49 (fun x23 c24 rx23 tx23 => ?_)
    refine lv_if_ne (tgt := 67) hx hb dX12_mayDo_52 (by decide) (fun c25 => ?_) (fun c25 => ?_)
    · have c25 : ¬ x23.toInt = (0 : Int) := wk_eqF c25
      obtain rfl : a2 = 2 := wk_eq.mpr (show a2.toInt = 2 by omega)
      exact J67 x23 s.heap locs ls  (show 0 ≤ x23.toInt by omega) (show x23.toInt ≤ 1 by omega)  hw  c24 (lv_sub hl [0, 1, 2] rfl)
    · have c25 : x23.toInt = (0 : Int) := wk_eq.mp c25
      refine lv_aload_n hx hb dX12_mayDo_55 rfl (lv_at hl 0 rfl) ?_
      refine lv_iload_n hx hb dX12_mayDo_56 rfl (lv_at hl 1 rfl) ?_
      refine tk_Vi hC hK hw hT hA hE hSR kM_at0 (by decide) rfl (k_X12_askedToday_2 l adK adV dC dI cy ad B (by omega) (by omega) qr s1    w0 s.heap.size hT ) (cwV 1 hC.2.2.2.2 gX12_mayDo_X12_askedToday rfl rfl rfl (by decide +kernel) ⟨Nat.le_of_ble_eq_true rfl, Nat.le_of_ble_eq_true rfl⟩) rfl hl.1 rfl (Nat.le_of_ble_eq_true rfl) dX12_mayDo_57 (fun r26 w28 H locs hp27 hw => ?_)
      obtain ⟨rfl, hg32⟩ := hp27
      rcases hg32 with rfl | ⟨rfl, ⟨x30, c31, rx30, tx30⟩⟩
      · refine lv_if_ne (tgt := 67) hx hb dX12_mayDo_60 (by decide) (fun c => absurd (by decide) c) (fun _ => ?_)
        refine lv_iconst (v := 1) hx hb dX12_mayDo_63 (by decide) ?_
        refine lv_goto (tgt := 68) hx hb dX12_mayDo_64 (by decide) ?_
        exact tk_zret hC hr rfl hlocks hK ⟨rfl, (Or.inr (Or.inr (Or.inr (Or.inr (Or.inr (Or.inr (Or.inl ⟨rfl, (show 2 ≤ a2.toInt by omega), (show a2.toInt ≤ 2 by omega), ⟨x23, c24, (show 0 ≤ x23.toInt by omega), (show x23.toInt ≤ 0 by omega)⟩⟩)))))))⟩ hw dX12_mayDo_68
      · refine lv_if_ne (tgt := 67) hx hb dX12_mayDo_60 (by decide) (fun _ => ?_) (fun c => absurd c (by decide))
        obtain rfl : a2 = 2 := wk_eq.mpr (show a2.toInt = 2 by omega)
        exact J67 x23 H locs ls  (show 0 ≤ x23.toInt by omega) (show x23.toInt ≤ 1 by omega)  hw  c24 (lv_sub hl [0, 1, 2] rfl)
  · refine lv_tableOut (tgt := 69) hx hb dX12_mayDo_1 (Or.inl c4) (by decide) ?_
    refine lv_iconst (v := 1) hx hb dX12_mayDo_69 (by decide) ?_
    exact tk_zret hC hr rfl hlocks hK ⟨rfl, (Or.inr (Or.inr (Or.inr (Or.inl ⟨rfl, (show a2.toInt ≤ (-1) by omega)⟩))))⟩ hw dX12_mayDo_70
  · refine lv_tableOut (tgt := 69) hx hb dX12_mayDo_1 (Or.inr c4) (by decide) ?_
    refine lv_iconst (v := 1) hx hb dX12_mayDo_69 (by decide) ?_
    exact tk_zret hC hr rfl hlocks hK ⟨rfl, (Or.inr (Or.inr (Or.inr (Or.inr (Or.inr (Or.inr (Or.inr ⟨rfl, (show 3 ≤ a2.toInt by omega)⟩)))))))⟩ hw dX12_mayDo_70
abbrev P_X12_walkerOf_15 (ad : Nat → Nat) (cy : Nat → ClassId) (B : Int) (qr : Nat) (s1 : Int)  (w0 : va_W) : Int32 → va_W → Prop := fun r u => w0 = u ∧ (((-1) ≤ r.toInt ∧ r.toInt ≤ 5 ∧ gi u 12 219 = r))
set_option maxHeartbeats 4000000 in
set_option maxRecDepth 100000 in
theorem k_X12_walkerOf_15 (l : Launch) (adK adV : Nat → Nat) (dC : Nat → ClassId) (dI : Nat → Nat → Nat) (cy : Nat → ClassId) (ad : Nat → Nat) (B : Int) (hB0 : 100000 ≤ B) (hB1 : B ≤ 1073741824) (qr : Nat) (s1 : Int)   (w0 : va_W) (sz : Nat) (hT : TW ksM ad cy B qr 12 w0)  : Met l yX12_walkerOf wsX12_walkerOf ({ frames := 1, cells := 0, slots := 0, locals := 12 }) (va_Pc [.ref (ad 0), .int 0, .int 3] (wpreS adK adV dC dI cy sz w0)) (va_Qi (P_X12_walkerOf_15 ad cy B qr s1  w0) (fun u : va_W => wpost dC dI cy (va_A w0 sz) u) (va_A w0 sz)) 0 0 (va_A w0 sz) := by
  refine Met.ofW (cc := cX12_walkerOf) (maxL := 3) (ret := (some .int)) (by decide) rfl ?_
  intro p e s m args below meth c s₁ Bk hml hv
  obtain ⟨rfl, ⟨hsz, hP, hK, hD0⟩, hE, hSR⟩ := hv
  have hx := Bk.exec
  have hb := Bk.bytes
  have hr := Bk.returns
  have hlocks := Bk.notSynchronized
  have hC : CallFix p m c cX12_walkerOf 3 s _ wsX12_walkerOf RX12 := ⟨hx, hb, hml, findClass_of_methodNamed Bk.named, atoms_spec (ws := wsX12_walkerOf) Bk.pre⟩
  subst hsz
  have hD := hD0.self (sz := s.heap.size)
  generalize hAe : va_A w0 s.heap.size = A at hD hE ⊢
  have hA : ∀ q : Nat, s.heap.size ≤ q → A q := fun q h => by rw [← hAe]; exact Or.inr h
  have hw : Wd dC dI A s.heap s.heap [] w0 := ⟨hP, hD, va_S.rf⟩
  have hF : FE ksM ([] : List (Nat × Nat × Nat)) w0 w0 := FE.rf
  have hl := lv_entry ([.ref (ad 0), .int 0, .int 3]) (n := 3) (Nat.le_of_ble_eq_true rfl)
  rw [lg_entry_eq]
  generalize (lg_sl ([.ref (ad 0), .int 0, .int 3]) ++ List.replicate (3 - (lg_sl ([.ref (ad 0), .int 0, .int 3])).length) Slot.unset).toArray = ls at hl ⊢
  have hl : lv_has ls 3 [(0, .ref (ad 0)), (1, .int 0), (2, .int 3)] := hl
  generalize hloc : ([] : List Loc) = locs at hw ⊢
  have hinX12 : ∀ w ∈ u_ws RX12 TX12 42, w ∈ wsX12_walkerOf := fun _ h => List.mem_cons_of_mem _ (List.mem_append_right _ (h))
  refine lv_aload_n hx hb dX12_walkerOf_0 rfl (lv_at hl 0 rfl) ?_
  refine tk_getA hC hK hw hT hinX12 kM_at0 (by decide) rfl 26 (by decide) (List.mem_of_getElem? (i := 1) rfl) rfl rfl dX12_walkerOf_1 ?_
  refine lv_sipush (v := 216) hx hb dX12_walkerOf_4 (by decide) ?_
  refine lv_bipush (v := 9) hx hb dX12_walkerOf_7 (by decide) ?_
  refine lv_iload_n hx hb dX12_walkerOf_9 rfl (lv_at hl 1 rfl) ?_
  refine lv_imul hx hb dX12_walkerOf_10 ?_
  refine wk_top 0 (by decide) ?_
  refine lv_iadd hx hb dX12_walkerOf_11 ?_
  refine wk_top 216 (by decide) ?_
  refine lv_iload_n hx hb dX12_walkerOf_12 rfl (lv_at hl 2 rfl) ?_
  refine lv_iadd hx hb dX12_walkerOf_13 ?_
  refine wk_top 219 (by decide) ?_
  refine tk_ialdR hC hK hw hT kM_at12 rfl (by decide) (by decide) dX12_walkerOf_14 (fun x1 c2 Ex1 => ?_)
  have bx1 := tk_rgI rfl 219 1 1 (-1) 5 (by decide +kernel) ⟨0, by decide, by decide⟩ Ex1
  have c2 : gi w0 12 219 = x1 := c2
  exact tk_iret hC hr hlocks hK ⟨rfl, ⟨(show (-1) ≤ x1.toInt by omega), (show x1.toInt ≤ 5 by omega), c2⟩⟩ hw dX12_walkerOf_15
abbrev P_X12_walkerOf_16 (ad : Nat → Nat) (cy : Nat → ClassId) (B : Int) (qr : Nat) (s1 : Int)  (w0 : va_W) : Int32 → va_W → Prop := fun r u => w0 = u ∧ ((gi u 12 221 = r))
set_option maxHeartbeats 4000000 in
set_option maxRecDepth 100000 in
theorem k_X12_walkerOf_16 (l : Launch) (adK adV : Nat → Nat) (dC : Nat → ClassId) (dI : Nat → Nat → Nat) (cy : Nat → ClassId) (ad : Nat → Nat) (B : Int) (hB0 : 100000 ≤ B) (hB1 : B ≤ 1073741824) (qr : Nat) (s1 : Int)   (w0 : va_W) (sz : Nat) (hT : TW ksM ad cy B qr 12 w0)  : Met l yX12_walkerOf wsX12_walkerOf ({ frames := 1, cells := 0, slots := 0, locals := 12 }) (va_Pc [.ref (ad 0), .int 0, .int 5] (wpreS adK adV dC dI cy sz w0)) (va_Qi (P_X12_walkerOf_16 ad cy B qr s1  w0) (fun u : va_W => wpost dC dI cy (va_A w0 sz) u) (va_A w0 sz)) 0 0 (va_A w0 sz) := by
  refine Met.ofW (cc := cX12_walkerOf) (maxL := 3) (ret := (some .int)) (by decide) rfl ?_
  intro p e s m args below meth c s₁ Bk hml hv
  obtain ⟨rfl, ⟨hsz, hP, hK, hD0⟩, hE, hSR⟩ := hv
  have hx := Bk.exec
  have hb := Bk.bytes
  have hr := Bk.returns
  have hlocks := Bk.notSynchronized
  have hC : CallFix p m c cX12_walkerOf 3 s _ wsX12_walkerOf RX12 := ⟨hx, hb, hml, findClass_of_methodNamed Bk.named, atoms_spec (ws := wsX12_walkerOf) Bk.pre⟩
  subst hsz
  have hD := hD0.self (sz := s.heap.size)
  generalize hAe : va_A w0 s.heap.size = A at hD hE ⊢
  have hA : ∀ q : Nat, s.heap.size ≤ q → A q := fun q h => by rw [← hAe]; exact Or.inr h
  have hw : Wd dC dI A s.heap s.heap [] w0 := ⟨hP, hD, va_S.rf⟩
  have hF : FE ksM ([] : List (Nat × Nat × Nat)) w0 w0 := FE.rf
  have hl := lv_entry ([.ref (ad 0), .int 0, .int 5]) (n := 3) (Nat.le_of_ble_eq_true rfl)
  rw [lg_entry_eq]
  generalize (lg_sl ([.ref (ad 0), .int 0, .int 5]) ++ List.replicate (3 - (lg_sl ([.ref (ad 0), .int 0, .int 5])).length) Slot.unset).toArray = ls at hl ⊢
  have hl : lv_has ls 3 [(0, .ref (ad 0)), (1, .int 0), (2, .int 5)] := hl
  generalize hloc : ([] : List Loc) = locs at hw ⊢
  have hinX12 : ∀ w ∈ u_ws RX12 TX12 42, w ∈ wsX12_walkerOf := fun _ h => List.mem_cons_of_mem _ (List.mem_append_right _ (h))
  refine lv_aload_n hx hb dX12_walkerOf_0 rfl (lv_at hl 0 rfl) ?_
  refine tk_getA hC hK hw hT hinX12 kM_at0 (by decide) rfl 26 (by decide) (List.mem_of_getElem? (i := 1) rfl) rfl rfl dX12_walkerOf_1 ?_
  refine lv_sipush (v := 216) hx hb dX12_walkerOf_4 (by decide) ?_
  refine lv_bipush (v := 9) hx hb dX12_walkerOf_7 (by decide) ?_
  refine lv_iload_n hx hb dX12_walkerOf_9 rfl (lv_at hl 1 rfl) ?_
  refine lv_imul hx hb dX12_walkerOf_10 ?_
  refine wk_top 0 (by decide) ?_
  refine lv_iadd hx hb dX12_walkerOf_11 ?_
  refine wk_top 216 (by decide) ?_
  refine lv_iload_n hx hb dX12_walkerOf_12 rfl (lv_at hl 2 rfl) ?_
  refine lv_iadd hx hb dX12_walkerOf_13 ?_
  refine wk_top 221 (by decide) ?_
  refine tk_ialdR hC hK hw hT kM_at12 rfl (by decide) (by decide) dX12_walkerOf_14 (fun x1 c2 Ex1 => ?_)
  have c2 : gi w0 12 221 = x1 := c2
  exact tk_iret hC hr hlocks hK ⟨rfl, c2⟩ hw dX12_walkerOf_15
abbrev P_X12_walkerOf_17 (ad : Nat → Nat) (cy : Nat → ClassId) (B : Int) (qr : Nat) (s1 : Int)  (w0 : va_W) : Int32 → va_W → Prop := fun r u => w0 = u ∧ ((gi u 12 222 = r))
set_option maxHeartbeats 4000000 in
set_option maxRecDepth 100000 in
theorem k_X12_walkerOf_17 (l : Launch) (adK adV : Nat → Nat) (dC : Nat → ClassId) (dI : Nat → Nat → Nat) (cy : Nat → ClassId) (ad : Nat → Nat) (B : Int) (hB0 : 100000 ≤ B) (hB1 : B ≤ 1073741824) (qr : Nat) (s1 : Int)   (w0 : va_W) (sz : Nat) (hT : TW ksM ad cy B qr 12 w0)  : Met l yX12_walkerOf wsX12_walkerOf ({ frames := 1, cells := 0, slots := 0, locals := 12 }) (va_Pc [.ref (ad 0), .int 0, .int 6] (wpreS adK adV dC dI cy sz w0)) (va_Qi (P_X12_walkerOf_17 ad cy B qr s1  w0) (fun u : va_W => wpost dC dI cy (va_A w0 sz) u) (va_A w0 sz)) 0 0 (va_A w0 sz) := by
  refine Met.ofW (cc := cX12_walkerOf) (maxL := 3) (ret := (some .int)) (by decide) rfl ?_
  intro p e s m args below meth c s₁ Bk hml hv
  obtain ⟨rfl, ⟨hsz, hP, hK, hD0⟩, hE, hSR⟩ := hv
  have hx := Bk.exec
  have hb := Bk.bytes
  have hr := Bk.returns
  have hlocks := Bk.notSynchronized
  have hC : CallFix p m c cX12_walkerOf 3 s _ wsX12_walkerOf RX12 := ⟨hx, hb, hml, findClass_of_methodNamed Bk.named, atoms_spec (ws := wsX12_walkerOf) Bk.pre⟩
  subst hsz
  have hD := hD0.self (sz := s.heap.size)
  generalize hAe : va_A w0 s.heap.size = A at hD hE ⊢
  have hA : ∀ q : Nat, s.heap.size ≤ q → A q := fun q h => by rw [← hAe]; exact Or.inr h
  have hw : Wd dC dI A s.heap s.heap [] w0 := ⟨hP, hD, va_S.rf⟩
  have hF : FE ksM ([] : List (Nat × Nat × Nat)) w0 w0 := FE.rf
  have hl := lv_entry ([.ref (ad 0), .int 0, .int 6]) (n := 3) (Nat.le_of_ble_eq_true rfl)
  rw [lg_entry_eq]
  generalize (lg_sl ([.ref (ad 0), .int 0, .int 6]) ++ List.replicate (3 - (lg_sl ([.ref (ad 0), .int 0, .int 6])).length) Slot.unset).toArray = ls at hl ⊢
  have hl : lv_has ls 3 [(0, .ref (ad 0)), (1, .int 0), (2, .int 6)] := hl
  generalize hloc : ([] : List Loc) = locs at hw ⊢
  have hinX12 : ∀ w ∈ u_ws RX12 TX12 42, w ∈ wsX12_walkerOf := fun _ h => List.mem_cons_of_mem _ (List.mem_append_right _ (h))
  refine lv_aload_n hx hb dX12_walkerOf_0 rfl (lv_at hl 0 rfl) ?_
  refine tk_getA hC hK hw hT hinX12 kM_at0 (by decide) rfl 26 (by decide) (List.mem_of_getElem? (i := 1) rfl) rfl rfl dX12_walkerOf_1 ?_
  refine lv_sipush (v := 216) hx hb dX12_walkerOf_4 (by decide) ?_
  refine lv_bipush (v := 9) hx hb dX12_walkerOf_7 (by decide) ?_
  refine lv_iload_n hx hb dX12_walkerOf_9 rfl (lv_at hl 1 rfl) ?_
  refine lv_imul hx hb dX12_walkerOf_10 ?_
  refine wk_top 0 (by decide) ?_
  refine lv_iadd hx hb dX12_walkerOf_11 ?_
  refine wk_top 216 (by decide) ?_
  refine lv_iload_n hx hb dX12_walkerOf_12 rfl (lv_at hl 2 rfl) ?_
  refine lv_iadd hx hb dX12_walkerOf_13 ?_
  refine wk_top 222 (by decide) ?_
  refine tk_ialdR hC hK hw hT kM_at12 rfl (by decide) (by decide) dX12_walkerOf_14 (fun x1 c2 Ex1 => ?_)
  have c2 : gi w0 12 222 = x1 := c2
  exact tk_iret hC hr hlocks hK ⟨rfl, c2⟩ hw dX12_walkerOf_15
abbrev P_X12_walkerOf_18 (ad : Nat → Nat) (cy : Nat → ClassId) (B : Int) (qr : Nat) (s1 : Int)  (w0 : va_W) : Int32 → va_W → Prop := fun r u => w0 = u ∧ (((-1) ≤ r.toInt ∧ r.toInt ≤ 9 ∧ gi u 12 223 = r))
set_option maxHeartbeats 4000000 in
set_option maxRecDepth 100000 in
theorem k_X12_walkerOf_18 (l : Launch) (adK adV : Nat → Nat) (dC : Nat → ClassId) (dI : Nat → Nat → Nat) (cy : Nat → ClassId) (ad : Nat → Nat) (B : Int) (hB0 : 100000 ≤ B) (hB1 : B ≤ 1073741824) (qr : Nat) (s1 : Int)   (w0 : va_W) (sz : Nat) (hT : TW ksM ad cy B qr 12 w0)  : Met l yX12_walkerOf wsX12_walkerOf ({ frames := 1, cells := 0, slots := 0, locals := 12 }) (va_Pc [.ref (ad 0), .int 0, .int 7] (wpreS adK adV dC dI cy sz w0)) (va_Qi (P_X12_walkerOf_18 ad cy B qr s1  w0) (fun u : va_W => wpost dC dI cy (va_A w0 sz) u) (va_A w0 sz)) 0 0 (va_A w0 sz) := by
  refine Met.ofW (cc := cX12_walkerOf) (maxL := 3) (ret := (some .int)) (by decide) rfl ?_
  intro p e s m args below meth c s₁ Bk hml hv
  obtain ⟨rfl, ⟨hsz, hP, hK, hD0⟩, hE, hSR⟩ := hv
  have hx := Bk.exec
  have hb := Bk.bytes
  have hr := Bk.returns
  have hlocks := Bk.notSynchronized
  have hC : CallFix p m c cX12_walkerOf 3 s _ wsX12_walkerOf RX12 := ⟨hx, hb, hml, findClass_of_methodNamed Bk.named, atoms_spec (ws := wsX12_walkerOf) Bk.pre⟩
  subst hsz
  have hD := hD0.self (sz := s.heap.size)
  generalize hAe : va_A w0 s.heap.size = A at hD hE ⊢
  have hA : ∀ q : Nat, s.heap.size ≤ q → A q := fun q h => by rw [← hAe]; exact Or.inr h
  have hw : Wd dC dI A s.heap s.heap [] w0 := ⟨hP, hD, va_S.rf⟩
  have hF : FE ksM ([] : List (Nat × Nat × Nat)) w0 w0 := FE.rf
  have hl := lv_entry ([.ref (ad 0), .int 0, .int 7]) (n := 3) (Nat.le_of_ble_eq_true rfl)
  rw [lg_entry_eq]
  generalize (lg_sl ([.ref (ad 0), .int 0, .int 7]) ++ List.replicate (3 - (lg_sl ([.ref (ad 0), .int 0, .int 7])).length) Slot.unset).toArray = ls at hl ⊢
  have hl : lv_has ls 3 [(0, .ref (ad 0)), (1, .int 0), (2, .int 7)] := hl
  generalize hloc : ([] : List Loc) = locs at hw ⊢
  have hinX12 : ∀ w ∈ u_ws RX12 TX12 42, w ∈ wsX12_walkerOf := fun _ h => List.mem_cons_of_mem _ (List.mem_append_right _ (h))
  refine lv_aload_n hx hb dX12_walkerOf_0 rfl (lv_at hl 0 rfl) ?_
  refine tk_getA hC hK hw hT hinX12 kM_at0 (by decide) rfl 26 (by decide) (List.mem_of_getElem? (i := 1) rfl) rfl rfl dX12_walkerOf_1 ?_
  refine lv_sipush (v := 216) hx hb dX12_walkerOf_4 (by decide) ?_
  refine lv_bipush (v := 9) hx hb dX12_walkerOf_7 (by decide) ?_
  refine lv_iload_n hx hb dX12_walkerOf_9 rfl (lv_at hl 1 rfl) ?_
  refine lv_imul hx hb dX12_walkerOf_10 ?_
  refine wk_top 0 (by decide) ?_
  refine lv_iadd hx hb dX12_walkerOf_11 ?_
  refine wk_top 216 (by decide) ?_
  refine lv_iload_n hx hb dX12_walkerOf_12 rfl (lv_at hl 2 rfl) ?_
  refine lv_iadd hx hb dX12_walkerOf_13 ?_
  refine wk_top 223 (by decide) ?_
  refine tk_ialdR hC hK hw hT kM_at12 rfl (by decide) (by decide) dX12_walkerOf_14 (fun x1 c2 Ex1 => ?_)
  have bx1 := tk_rgI rfl 223 1 1 (-1) 9 (by decide +kernel) ⟨0, by decide, by decide⟩ Ex1
  have c2 : gi w0 12 223 = x1 := c2
  exact tk_iret hC hr hlocks hK ⟨rfl, ⟨(show (-1) ≤ x1.toInt by omega), (show x1.toInt ≤ 9 by omega), c2⟩⟩ hw dX12_walkerOf_15
abbrev P_X12_words_2 (ad : Nat → Nat) (cy : Nat → ClassId) (B : Int) (qr : Nat) (s1 : Int)  (w0 : va_W) : va_W → Prop := fun u => TW ksM ad cy B qr 12 u ∧ FE ksM [(70, 0, 10)] w0 u ∧ (((∃ y : Int32, gi u 0 30 = y ∧ 0 ≤ y.toInt ∧ y.toInt ≤ 1) ∧ (∃ y : Int32, gi u 12 223 = y ∧ (-1) ≤ y.toInt ∧ y.toInt ≤ 9)))
set_option maxHeartbeats 4000000 in
set_option maxRecDepth 100000 in
theorem k_X12_words_2 (l : Launch) (adK adV : Nat → Nat) (dC : Nat → ClassId) (dI : Nat → Nat → Nat) (cy : Nat → ClassId) (ad : Nat → Nat) (B : Int) (hB0 : 100000 ≤ B) (hB1 : B ≤ 1073741824) (qr : Nat) (s1 : Int)   (w0 : va_W) (sz : Nat) (hT : TW ksM ad cy B qr 12 w0)  : Met l yX12_words wsX12_words ({ frames := 6, cells := 0, slots := 0, locals := 124 }) (va_Pc [.ref (ad 0), .int 0] (wpreS adK adV dC dI cy sz w0)) (va_Qv (P_X12_words_2 ad cy B qr s1  w0) (fun u : va_W => wpost dC dI cy (va_A w0 sz) u) (va_A w0 sz)) 0 0 (va_A w0 sz) := by
  refine Met.ofW (cc := cX12_words) (maxL := 4) (ret := none) (by decide) rfl ?_
  intro p e s m args below meth c s₁ Bk hml hv
  obtain ⟨rfl, ⟨hsz, hP, hK, hD0⟩, hE, hSR⟩ := hv
  have hx := Bk.exec
  have hb := Bk.bytes
  have hr := Bk.returns
  have hlocks := Bk.notSynchronized
  have hC : CallFix p m c cX12_words 4 s _ wsX12_words RX12 := ⟨hx, hb, hml, findClass_of_methodNamed Bk.named, atoms_spec (ws := wsX12_words) Bk.pre⟩
  subst hsz
  have hD := hD0.self (sz := s.heap.size)
  generalize hAe : va_A w0 s.heap.size = A at hD hE ⊢
  have hA : ∀ q : Nat, s.heap.size ≤ q → A q := fun q h => by rw [← hAe]; exact Or.inr h
  have hw : Wd dC dI A s.heap s.heap [] w0 := ⟨hP, hD, va_S.rf⟩
  have hF : FE ksM [(70, 0, 10)] w0 w0 := FE.rf
  have hl := lv_entry ([.ref (ad 0), .int 0]) (n := 4) (Nat.le_of_ble_eq_true rfl)
  rw [lg_entry_eq]
  generalize (lg_sl ([.ref (ad 0), .int 0]) ++ List.replicate (4 - (lg_sl ([.ref (ad 0), .int 0])).length) Slot.unset).toArray = ls at hl ⊢
  have hl : lv_has ls 4 [(0, .ref (ad 0)), (1, .int 0)] := hl
  generalize hloc : ([] : List Loc) = locs at hw ⊢
  have hinX12 : ∀ w ∈ u_ws RX12 TX12 42, w ∈ wsX12_words := fun _ h => List.mem_cons_of_mem _ (List.mem_append_right _ (h))
  refine lv_aload_n hx hb dX12_words_0 rfl (lv_at hl 0 rfl) ?_
  refine lv_iload_n hx hb dX12_words_1 rfl (lv_at hl 1 rfl) ?_
  refine lv_iconst (v := 4) hx hb dX12_words_2 (by decide) ?_
  refine tk_Vi hC hK hw hT hA hE hSR kM_at0 (by decide) rfl (k_X12_walkerOf_13 l adK adV dC dI cy ad B (by omega) (by omega) qr s1    w0 s.heap.size hT ) (cwV 2 hC.2.2.2.2 gX12_words_X12_walkerOf rfl rfl rfl (by decide +kernel) ⟨Nat.le_of_ble_eq_true rfl, Nat.le_of_ble_eq_true rfl⟩) rfl hl.1 rfl (Nat.le_of_ble_eq_true rfl) dX12_words_3 (fun r1 w3 H locs hp2 hw => ?_)
  obtain ⟨rfl, hg8⟩ := hp2
  obtain ⟨g5, g6, c7⟩ := hg8
  refine lv_istore_n (lv' := [(2, .int r1), (0, .ref (ad 0)), (1, .int 0)]) hx hb dX12_words_6 rfl hl (by decide) rfl (fun ls hl => ?_)
  refine lv_aload_n hx hb dX12_words_7 rfl (lv_at hl 1 rfl) ?_
  refine lv_iload_n hx hb dX12_words_8 rfl (lv_at hl 2 rfl) ?_
  refine lv_iconst (v := 0) hx hb dX12_words_9 (by decide) ?_
  refine tk_Vi hC hK hw hT hA hE hSR kM_at0 (by decide) rfl (k_X12_walkerOf_11 l adK adV dC dI cy ad B (by omega) (by omega) qr s1    w0 H.size hT ) (cwV 2 hC.2.2.2.2 gX12_words_X12_walkerOf rfl rfl rfl (by decide +kernel) ⟨Nat.le_of_ble_eq_true rfl, Nat.le_of_ble_eq_true rfl⟩) rfl hl.1 rfl (Nat.le_of_ble_eq_true rfl) dX12_words_10 (fun r9 w11 H locs hp10 hw => ?_)
  obtain ⟨rfl, hg16⟩ := hp10
  obtain ⟨g13, g14, c15⟩ := hg16
  refine lv_istore_n (lv' := [(3, .int r9), (2, .int r1), (0, .ref (ad 0)), (1, .int 0)]) hx hb dX12_words_13 rfl hl (by decide) rfl (fun ls hl => ?_)
  refine lv_aload_n hx hb dX12_words_14 rfl (lv_at hl 2 rfl) ?_
  refine tk_getA hC hK hw hT hinX12 kM_at0 (by decide) rfl 25 (by decide) (List.mem_of_getElem? (i := 1) rfl) rfl rfl dX12_words_15 ?_
  refine lv_iconst (v := 0) hx hb dX12_words_18 (by decide) ?_
  refine lv_iload_n hx hb dX12_words_19 rfl (lv_at hl 1 rfl) ?_
  refine lv_bipush (v := 24) hx hb dX12_words_20 (by decide) ?_
  refine lv_irem hx hb dX12_words_22 (by decide) ?_
  refine lv_topi (fun x17 ex17 => ?_)
  have ex17 : x17.toInt = r1.toInt % (24 : Int) := by rw [ex17]; exact wk_rem (show 0 ≤ r1.toInt by omega) (show 0 < (24 : Int) by decide)
  refine lv_i2l hx hb dX12_words_23 rfl ?_
  refine lv_topl (fun x18 ex18 => ?_)
  have ex18 : x18.toInt = x17.toInt := by rw [ex18]; exact wk_i2l _
  have bx18 := wk_i32 x17
  refine tk_last hC hK hw hT kM_at11 (by decide) rfl (by decide) (by decide) dX12_words_24 (fun H locs w19 hw hT k21 => ?_)
  have hF := hF.put kM_at11 (inE_of (a := 0) (b := 10) (by decide) (by decide) (by decide)) k21
  have c22 := k21.gi (Or.inl (tk_ne kM_at12 kM_at11 (by decide))) c15
  refine lv_aload_n hx hb dX12_words_25 rfl (lv_at hl 2 rfl) ?_
  refine tk_getA hC hK hw hT hinX12 kM_at0 (by decide) rfl 25 (by decide) (List.mem_of_getElem? (i := 1) rfl) rfl rfl dX12_words_26 ?_
  refine lv_iconst (v := 1) hx hb dX12_words_29 (by decide) ?_
  refine lv_iload_n hx hb dX12_words_30 rfl (lv_at hl 1 rfl) ?_
  refine lv_bipush (v := 24) hx hb dX12_words_31 (by decide) ?_
  refine lv_idiv hx hb dX12_words_33 (by decide) ?_
  refine lv_topi (fun x23 ex23 => ?_)
  have ex23 : x23.toInt = r1.toInt / (24 : Int) := by rw [ex23]; exact wk_div (show 0 ≤ r1.toInt by omega) (show 0 < (24 : Int) by decide)
  refine lv_bipush (v := 7) hx hb dX12_words_34 (by decide) ?_
  refine lv_irem hx hb dX12_words_36 (by decide) ?_
  refine lv_topi (fun x24 ex24 => ?_)
  have ex24 : x24.toInt = x23.toInt % (7 : Int) := by rw [ex24]; exact wk_rem (show 0 ≤ x23.toInt by omega) (show 0 < (7 : Int) by decide)
  refine lv_i2l hx hb dX12_words_37 rfl ?_
  refine lv_topl (fun x25 ex25 => ?_)
  have ex25 : x25.toInt = x24.toInt := by rw [ex25]; exact wk_i2l _
  have bx25 := wk_i32 x24
  refine tk_last hC hK hw hT kM_at11 (by decide) rfl (by decide) (by decide) dX12_words_38 (fun H locs w26 hw hT k28 => ?_)
  have hF := hF.put kM_at11 (inE_of (a := 0) (b := 10) (by decide) (by decide) (by decide)) k28
  have c29 := k28.gi (Or.inl (tk_ne kM_at12 kM_at11 (by decide))) c22
  refine lv_aload_n hx hb dX12_words_39 rfl (lv_at hl 2 rfl) ?_
  refine tk_getA hC hK hw hT hinX12 kM_at0 (by decide) rfl 25 (by decide) (List.mem_of_getElem? (i := 1) rfl) rfl rfl dX12_words_40 ?_
  refine lv_iconst (v := 2) hx hb dX12_words_43 (by decide) ?_
  refine lv_aload_n hx hb dX12_words_44 rfl (lv_at hl 2 rfl) ?_
  refine tk_geti hC hK hw hT hinX12 kM_at0 (by decide) rfl 30 (by decide) (List.mem_of_getElem? (i := 2) rfl) rfl rfl dX12_words_45 (fun x30 c31 rx30 tx30 => ?_)
  refine lv_if_eq (tgt := 55) hx hb dX12_words_48 (by decide) (fun c32 => ?_) (fun c32 => ?_)
  · have c32 : x30.toInt = (0 : Int) := wk_eq.mp c32
    refine lv_iload_n hx hb dX12_words_55 rfl (lv_at hl 1 rfl) ?_
    refine lv_bipush (v := 24) hx hb dX12_words_56 (by decide) ?_
    refine lv_idiv hx hb dX12_words_58 (by decide) ?_
    refine lv_topi (fun x33 ex33 => ?_)
    have ex33 : x33.toInt = r1.toInt / (24 : Int) := by rw [ex33]; exact wk_div (show 0 ≤ r1.toInt by omega) (show 0 < (24 : Int) by decide)
    refine lv_sipush (v := 360) hx hb dX12_words_59 (by decide) ?_
    refine lv_irem hx hb dX12_words_62 (by decide) ?_
    refine lv_topi (fun x34 ex34 => ?_)
    have ex34 : x34.toInt = x33.toInt % (360 : Int) := by rw [ex34]; exact wk_rem (show 0 ≤ x33.toInt by omega) (show 0 < (360 : Int) by decide)
    refine lv_i2l hx hb dX12_words_63 rfl ?_
    refine lv_topl (fun x35 ex35 => ?_)
    have ex35 : x35.toInt = x34.toInt := by rw [ex35]; exact wk_i2l _
    have bx35 := wk_i32 x34
    refine tk_last hC hK hw hT kM_at11 (by decide) rfl (by decide) (by decide) dX12_words_64 (fun H locs w36 hw hT k38 => ?_)
    have hF := hF.put kM_at11 (inE_of (a := 0) (b := 10) (by decide) (by decide) (by decide)) k38
    have c39 := k38.gi (Or.inl (tk_ne kM_at12 kM_at11 (by decide))) c29
    have c40 := k38.gi (Or.inl (tk_ne kM_at0 kM_at11 (by decide))) c31
    refine lv_aload_n hx hb dX12_words_65 rfl (lv_at hl 2 rfl) ?_
    refine tk_getA hC hK hw hT hinX12 kM_at0 (by decide) rfl 25 (by decide) (List.mem_of_getElem? (i := 1) rfl) rfl rfl dX12_words_66 ?_
    refine lv_iconst (v := 3) hx hb dX12_words_69 (by decide) ?_
    refine lv_iload_n hx hb dX12_words_70 rfl (lv_at hl 0 rfl) ?_
    refine lv_i2l hx hb dX12_words_71 rfl ?_
    refine lv_topl (fun x41 ex41 => ?_)
    have ex41 : x41.toInt = r9.toInt := by rw [ex41]; exact wk_i2l _
    have bx41 := wk_i32 r9
    refine tk_last hC hK hw hT kM_at11 (by decide) rfl (by decide) (by decide) dX12_words_72 (fun H locs w42 hw hT k44 => ?_)
    have hF := hF.put kM_at11 (inE_of (a := 0) (b := 10) (by decide) (by decide) (by decide)) k44
    have c45 := k44.gi (Or.inl (tk_ne kM_at12 kM_at11 (by decide))) c39
    have c46 := k44.gi (Or.inl (tk_ne kM_at0 kM_at11 (by decide))) c40
    refine lv_aload_n hx hb dX12_words_73 rfl (lv_at hl 2 rfl) ?_
    refine tk_getA hC hK hw hT hinX12 kM_at0 (by decide) rfl 25 (by decide) (List.mem_of_getElem? (i := 1) rfl) rfl rfl dX12_words_74 ?_
    refine lv_iconst (v := 4) hx hb dX12_words_77 (by decide) ?_
    refine lv_aload_n hx hb dX12_words_78 rfl (lv_at hl 2 rfl) ?_
    refine lv_iload_n hx hb dX12_words_79 rfl (lv_at hl 3 rfl) ?_
    refine lv_iconst (v := 1) hx hb dX12_words_80 (by decide) ?_
    refine tk_Vi hC hK hw hT hA hE hSR kM_at0 (by decide) rfl (k_X12_walkerOf_12 l adK adV dC dI cy ad B (by omega) (by omega) qr s1    w42 H.size hT ) (cwV 2 hC.2.2.2.2 gX12_words_X12_walkerOf rfl rfl rfl (by decide +kernel) ⟨Nat.le_of_ble_eq_true rfl, Nat.le_of_ble_eq_true rfl⟩) rfl hl.1 rfl (Nat.le_of_ble_eq_true rfl) dX12_words_81 (fun r47 w49 H locs hp48 hw => ?_)
    obtain ⟨rfl, hg54⟩ := hp48
    obtain ⟨g51, g52, c53⟩ := hg54
    refine lv_i2l hx hb dX12_words_84 rfl ?_
    refine lv_topl (fun x55 ex55 => ?_)
    have ex55 : x55.toInt = r47.toInt := by rw [ex55]; exact wk_i2l _
    have bx55 := wk_i32 r47
    refine tk_last hC hK hw hT kM_at11 (by decide) rfl (by decide) (by decide) dX12_words_85 (fun H locs w56 hw hT k58 => ?_)
    have hF := hF.put kM_at11 (inE_of (a := 0) (b := 10) (by decide) (by decide) (by decide)) k58
    have c59 := k58.gi (Or.inl (tk_ne kM_at12 kM_at11 (by decide))) c45
    have c60 := k58.gi (Or.inl (tk_ne kM_at0 kM_at11 (by decide))) c46
    have c61 := k58.gi (Or.inl (tk_ne kM_at12 kM_at11 (by decide))) c53
    refine lv_aload_n hx hb dX12_words_86 rfl (lv_at hl 2 rfl) ?_
    refine tk_getA hC hK hw hT hinX12 kM_at0 (by decide) rfl 25 (by decide) (List.mem_of_getElem? (i := 1) rfl) rfl rfl dX12_words_87 ?_
    refine lv_iconst (v := 5) hx hb dX12_words_90 (by decide) ?_
    refine lv_aload_n hx hb dX12_words_91 rfl (lv_at hl 2 rfl) ?_
    refine lv_iload_n hx hb dX12_words_92 rfl (lv_at hl 3 rfl) ?_
    refine tk_Vi hC hK hw hT hA hE hSR kM_at0 (by decide) rfl (k_X12_canGo_2 l adK adV dC dI cy ad B (by omega) (by omega) qr s1    w56 H.size hT ) (cwV 1 hC.2.2.2.2 gX12_words_X12_canGo rfl rfl rfl (by decide +kernel) ⟨Nat.le_of_ble_eq_true rfl, Nat.le_of_ble_eq_true rfl⟩) rfl hl.1 rfl (Nat.le_of_ble_eq_true rfl) dX12_words_93 (fun r62 w64 H locs hp63 hw => ?_)
    obtain ⟨rfl, hg68⟩ := hp63
    rcases hg68 with rfl | ⟨rfl, ⟨x66, c67, rx66, tx66⟩⟩
    · refine lv_if_eq (tgt := 103) hx hb dX12_words_96 (by decide) (fun _ => ?_) (fun c => absurd (by decide) c)
      refine lv_lconst (v := 1) hx hb dX12_words_103 (by decide) ?_
      refine tk_last hC hK hw hT kM_at11 (by decide) rfl (by decide) (by decide) dX12_words_104 (fun H locs w69 hw hT k71 => ?_)
      have hF := hF.put kM_at11 (inE_of (a := 0) (b := 10) (by decide) (by decide) (by decide)) k71
      have c72 := k71.gi (Or.inl (tk_ne kM_at12 kM_at11 (by decide))) c59
      have c73 := k71.gi (Or.inl (tk_ne kM_at0 kM_at11 (by decide))) c60
      have c74 := k71.gi (Or.inl (tk_ne kM_at12 kM_at11 (by decide))) c61
      refine lv_aload_n hx hb dX12_words_105 rfl (lv_at hl 2 rfl) ?_
      refine tk_getA hC hK hw hT hinX12 kM_at0 (by decide) rfl 25 (by decide) (List.mem_of_getElem? (i := 1) rfl) rfl rfl dX12_words_106 ?_
      refine lv_bipush (v := 6) hx hb dX12_words_109 (by decide) ?_
      refine lv_aload_n hx hb dX12_words_111 rfl (lv_at hl 2 rfl) ?_
      refine tk_getA hC hK hw hT hinX12 kM_at0 (by decide) rfl 29 (by decide) (List.mem_of_getElem? (i := 3) rfl) rfl rfl dX12_words_112 ?_
      refine lv_iload_n hx hb dX12_words_115 rfl (lv_at hl 0 rfl) ?_
      refine tk_iald hC hK hw hT kM_at14 rfl rfl (show 0 ≤ r9.toInt by omega) (show r9.toInt < 10 by omega) dX12_words_116 (fun x75 c76 rx75 tx75 => ?_)
      have c76 : gi w69 14 (r9.toInt).toNat = x75 := (congrArg (gi w69 14) (congrArg Int.toNat (show r9.toInt = r9.toInt by omega))).trans c76
      refine lv_ldcw (v := 100000000) hx hb hC.2.2.2.1 (hC.2.2.2.2 _ (List.mem_of_getElem? (i := 4) rfl)) dX12_words_117 ?_
      refine lv_icmp_ne (tgt := 127) hx hb dX12_words_120 (by decide) (fun c77 => ?_) (fun c77 => ?_)
      · have c77 : ¬ x75.toInt = (100000000 : Int) := wk_eqF c77
        refine lv_aload_n hx hb dX12_words_127 rfl (lv_at hl 2 rfl) ?_
        refine tk_getA hC hK hw hT hinX12 kM_at0 (by decide) rfl 29 (by decide) (List.mem_of_getElem? (i := 3) rfl) rfl rfl dX12_words_128 ?_
        refine lv_iload_n hx hb dX12_words_131 rfl (lv_at hl 0 rfl) ?_
        refine tk_iald hC hK hw hT kM_at14 rfl rfl (show 0 ≤ r9.toInt by omega) (show r9.toInt < 10 by omega) dX12_words_132 (fun x78 c79 rx78 tx78 => ?_)
        have c79 : gi w69 14 (r9.toInt).toNat = x78 := (congrArg (gi w69 14) (congrArg Int.toNat (show r9.toInt = r9.toInt by omega))).trans c79
        refine wk_top x75 (c79.symm.trans c76) ?_
        refine lv_i2l hx hb dX12_words_133 rfl ?_
        refine lv_topl (fun x80 ex80 => ?_)
        have ex80 : x80.toInt = x75.toInt := by rw [ex80]; exact wk_i2l _
        have bx80 := wk_i32 x75
        refine tk_last hC hK hw hT kM_at11 (by decide) rfl (by decide) (by decide) dX12_words_134 (fun H locs w81 hw hT k83 => ?_)
        have hF := hF.put kM_at11 (inE_of (a := 0) (b := 10) (by decide) (by decide) (by decide)) k83
        have c84 := k83.gi (Or.inl (tk_ne kM_at12 kM_at11 (by decide))) c72
        have c85 := k83.gi (Or.inl (tk_ne kM_at0 kM_at11 (by decide))) c73
        have c86 := k83.gi (Or.inl (tk_ne kM_at12 kM_at11 (by decide))) c74
        have c87 := k83.gi (Or.inl (tk_ne kM_at14 kM_at11 (by decide))) c76
        refine lv_aload_n hx hb dX12_words_135 rfl (lv_at hl 2 rfl) ?_
        refine tk_getA hC hK hw hT hinX12 kM_at0 (by decide) rfl 25 (by decide) (List.mem_of_getElem? (i := 1) rfl) rfl rfl dX12_words_136 ?_
        refine lv_bipush (v := 7) hx hb dX12_words_139 (by decide) ?_
        refine lv_aload_n hx hb dX12_words_141 rfl (lv_at hl 2 rfl) ?_
        refine tk_geti hC hK hw hT hinX12 kM_at0 (by decide) rfl 30 (by decide) (List.mem_of_getElem? (i := 2) rfl) rfl rfl dX12_words_142 (fun x88 c89 rx88 tx88 => ?_)
        refine wk_top x30 (c89.symm.trans c85) ?_
        refine lv_if_eq (tgt := 152) hx hb dX12_words_145 (by decide) (fun _ => ?_) (fun c => (c (wk_eq.mpr (show x30.toInt = (0 : Int) by omega))).elim)
        refine lv_aload_n hx hb dX12_words_152 rfl (lv_at hl 2 rfl) ?_
        refine lv_iload_n hx hb dX12_words_153 rfl (lv_at hl 3 rfl) ?_
        refine lv_iconst (v := 5) hx hb dX12_words_154 (by decide) ?_
        refine tk_Vi hC hK hw hT hA hE hSR kM_at0 (by decide) rfl (k_X12_walkerOf_16 l adK adV dC dI cy ad B (by omega) (by omega) qr s1    w81 H.size hT ) (cwV 2 hC.2.2.2.2 gX12_words_X12_walkerOf rfl rfl rfl (by decide +kernel) ⟨Nat.le_of_ble_eq_true rfl, Nat.le_of_ble_eq_true rfl⟩) rfl hl.1 rfl (Nat.le_of_ble_eq_true rfl) dX12_words_155 (fun r90 w92 H locs hp91 hw => ?_)
        obtain ⟨rfl, hg95⟩ := hp91
        have c94 := hg95
        refine lv_i2l hx hb dX12_words_158 rfl ?_
        refine lv_topl (fun x96 ex96 => ?_)
        have ex96 : x96.toInt = r90.toInt := by rw [ex96]; exact wk_i2l _
        have bx96 := wk_i32 r90
        refine tk_last hC hK hw hT kM_at11 (by decide) rfl (by decide) (by decide) dX12_words_159 (fun H locs w97 hw hT k99 => ?_)
        have hF := hF.put kM_at11 (inE_of (a := 0) (b := 10) (by decide) (by decide) (by decide)) k99
        have c100 := k99.gi (Or.inl (tk_ne kM_at12 kM_at11 (by decide))) c84
        have c101 := k99.gi (Or.inl (tk_ne kM_at0 kM_at11 (by decide))) c85
        have c102 := k99.gi (Or.inl (tk_ne kM_at12 kM_at11 (by decide))) c86
        have c103 := k99.gi (Or.inl (tk_ne kM_at14 kM_at11 (by decide))) c87
        have c104 := k99.gi (Or.inl (tk_ne kM_at12 kM_at11 (by decide))) c94
        refine lv_aload_n hx hb dX12_words_160 rfl (lv_at hl 2 rfl) ?_
        refine tk_getA hC hK hw hT hinX12 kM_at0 (by decide) rfl 25 (by decide) (List.mem_of_getElem? (i := 1) rfl) rfl rfl dX12_words_161 ?_
        refine lv_bipush (v := 8) hx hb dX12_words_164 (by decide) ?_
        refine lv_aload_n hx hb dX12_words_166 rfl (lv_at hl 2 rfl) ?_
        refine lv_iload_n hx hb dX12_words_167 rfl (lv_at hl 3 rfl) ?_
        refine lv_bipush (v := 6) hx hb dX12_words_168 (by decide) ?_
        refine tk_Vi hC hK hw hT hA hE hSR kM_at0 (by decide) rfl (k_X12_walkerOf_17 l adK adV dC dI cy ad B (by omega) (by omega) qr s1    w97 H.size hT ) (cwV 2 hC.2.2.2.2 gX12_words_X12_walkerOf rfl rfl rfl (by decide +kernel) ⟨Nat.le_of_ble_eq_true rfl, Nat.le_of_ble_eq_true rfl⟩) rfl hl.1 rfl (Nat.le_of_ble_eq_true rfl) dX12_words_170 (fun r105 w107 H locs hp106 hw => ?_)
        obtain ⟨rfl, hg110⟩ := hp106
        have c109 := hg110
        refine lv_i2l hx hb dX12_words_173 rfl ?_
        refine lv_topl (fun x111 ex111 => ?_)
        have ex111 : x111.toInt = r105.toInt := by rw [ex111]; exact wk_i2l _
        have bx111 := wk_i32 r105
        refine tk_last hC hK hw hT kM_at11 (by decide) rfl (by decide) (by decide) dX12_words_174 (fun H locs w112 hw hT k114 => ?_)
        have hF := hF.put kM_at11 (inE_of (a := 0) (b := 10) (by decide) (by decide) (by decide)) k114
        have c115 := k114.gi (Or.inl (tk_ne kM_at12 kM_at11 (by decide))) c100
        have c116 := k114.gi (Or.inl (tk_ne kM_at0 kM_at11 (by decide))) c101
        have c117 := k114.gi (Or.inl (tk_ne kM_at12 kM_at11 (by decide))) c102
        have c118 := k114.gi (Or.inl (tk_ne kM_at14 kM_at11 (by decide))) c103
        have c119 := k114.gi (Or.inl (tk_ne kM_at12 kM_at11 (by decide))) c104
        have c120 := k114.gi (Or.inl (tk_ne kM_at12 kM_at11 (by decide))) c109
        refine lv_aload_n hx hb dX12_words_175 rfl (lv_at hl 2 rfl) ?_
        refine tk_getA hC hK hw hT hinX12 kM_at0 (by decide) rfl 25 (by decide) (List.mem_of_getElem? (i := 1) rfl) rfl rfl dX12_words_176 ?_
        refine lv_bipush (v := 9) hx hb dX12_words_179 (by decide) ?_
        refine lv_aload_n hx hb dX12_words_181 rfl (lv_at hl 2 rfl) ?_
        refine lv_iload_n hx hb dX12_words_182 rfl (lv_at hl 3 rfl) ?_
        refine lv_bipush (v := 7) hx hb dX12_words_183 (by decide) ?_
        refine tk_Vi hC hK hw hT hA hE hSR kM_at0 (by decide) rfl (k_X12_walkerOf_18 l adK adV dC dI cy ad B (by omega) (by omega) qr s1    w112 H.size hT ) (cwV 2 hC.2.2.2.2 gX12_words_X12_walkerOf rfl rfl rfl (by decide +kernel) ⟨Nat.le_of_ble_eq_true rfl, Nat.le_of_ble_eq_true rfl⟩) rfl hl.1 rfl (Nat.le_of_ble_eq_true rfl) dX12_words_185 (fun r121 w123 H locs hp122 hw => ?_)
        obtain ⟨rfl, hg128⟩ := hp122
        obtain ⟨g125, g126, c127⟩ := hg128
        refine lv_if_ge (tgt := 197) hx hb dX12_words_188 (by decide) (fun c129 => ?_) (fun c129 => ?_)
        · have c129 : (0 : Int) ≤ r121.toInt := wk_le.mp c129
          refine lv_aload_n hx hb dX12_words_197 rfl (lv_at hl 2 rfl) ?_
          refine lv_iload_n hx hb dX12_words_198 rfl (lv_at hl 3 rfl) ?_
          refine lv_bipush (v := 7) hx hb dX12_words_199 (by decide) ?_
          refine tk_Vi hC hK hw hT hA hE hSR kM_at0 (by decide) rfl (k_X12_walkerOf_18 l adK adV dC dI cy ad B (by omega) (by omega) qr s1    w112 H.size hT ) (cwV 2 hC.2.2.2.2 gX12_words_X12_walkerOf rfl rfl rfl (by decide +kernel) ⟨Nat.le_of_ble_eq_true rfl, Nat.le_of_ble_eq_true rfl⟩) rfl hl.1 rfl (Nat.le_of_ble_eq_true rfl) dX12_words_201 (fun r130 w132 H locs hp131 hw => ?_)
          obtain ⟨rfl, hg137⟩ := hp131
          obtain ⟨g134, g135, c136⟩ := hg137
          obtain rfl : r121 = r130 := c127.symm.trans c136
          refine lv_i2l hx hb dX12_words_204 rfl ?_
          refine lv_topl (fun x138 ex138 => ?_)
          have ex138 : x138.toInt = r121.toInt := by rw [ex138]; exact wk_i2l _
          have bx138 := wk_i32 r121
          refine tk_last hC hK hw hT kM_at11 (by decide) rfl (by decide) (by decide) dX12_words_205 (fun H locs w139 hw hT k141 => ?_)
          have hF := hF.put kM_at11 (inE_of (a := 0) (b := 10) (by decide) (by decide) (by decide)) k141
          have c142 := k141.gi (Or.inl (tk_ne kM_at12 kM_at11 (by decide))) c115
          have c143 := k141.gi (Or.inl (tk_ne kM_at0 kM_at11 (by decide))) c116
          have c144 := k141.gi (Or.inl (tk_ne kM_at12 kM_at11 (by decide))) c117
          have c145 := k141.gi (Or.inl (tk_ne kM_at14 kM_at11 (by decide))) c118
          have c146 := k141.gi (Or.inl (tk_ne kM_at12 kM_at11 (by decide))) c119
          have c147 := k141.gi (Or.inl (tk_ne kM_at12 kM_at11 (by decide))) c120
          have c148 := k141.gi (Or.inl (tk_ne kM_at12 kM_at11 (by decide))) c127
          exact tk_vret hC hr hlocks hK ⟨hT, hF, ⟨⟨x30, c143, (show 0 ≤ x30.toInt by omega), (show x30.toInt ≤ 1 by omega)⟩, ⟨r121, c148, (show (-1) ≤ r121.toInt by omega), (show r121.toInt ≤ 9 by omega)⟩⟩⟩ hw dX12_words_206
        · have c129 : r121.toInt < (0 : Int) := wk_leF c129
          refine lv_ldc2 (v := 99) hx hb hC.2.2.2.1 (hC.2.2.2.2 _ (List.mem_of_getElem? (i := 5) rfl)) dX12_words_191 ?_
          refine lv_goto (tgt := 205) hx hb dX12_words_194 (by decide) ?_
          refine tk_last hC hK hw hT kM_at11 (by decide) rfl (by decide) (by decide) dX12_words_205 (fun H locs w149 hw hT k151 => ?_)
          have hF := hF.put kM_at11 (inE_of (a := 0) (b := 10) (by decide) (by decide) (by decide)) k151
          have c152 := k151.gi (Or.inl (tk_ne kM_at12 kM_at11 (by decide))) c115
          have c153 := k151.gi (Or.inl (tk_ne kM_at0 kM_at11 (by decide))) c116
          have c154 := k151.gi (Or.inl (tk_ne kM_at12 kM_at11 (by decide))) c117
          have c155 := k151.gi (Or.inl (tk_ne kM_at14 kM_at11 (by decide))) c118
          have c156 := k151.gi (Or.inl (tk_ne kM_at12 kM_at11 (by decide))) c119
          have c157 := k151.gi (Or.inl (tk_ne kM_at12 kM_at11 (by decide))) c120
          have c158 := k151.gi (Or.inl (tk_ne kM_at12 kM_at11 (by decide))) c127
          exact tk_vret hC hr hlocks hK ⟨hT, hF, ⟨⟨x30, c153, (show 0 ≤ x30.toInt by omega), (show x30.toInt ≤ 1 by omega)⟩, ⟨r121, c158, (show (-1) ≤ r121.toInt by omega), (show r121.toInt ≤ 9 by omega)⟩⟩⟩ hw dX12_words_206
      · have c77 : x75.toInt = (100000000 : Int) := wk_eq.mp c77
        refine lv_lconst (v := 0) hx hb dX12_words_123 (by decide) ?_
        refine lv_goto (tgt := 134) hx hb dX12_words_124 (by decide) ?_
        refine tk_last hC hK hw hT kM_at11 (by decide) rfl (by decide) (by decide) dX12_words_134 (fun H locs w159 hw hT k161 => ?_)
        have hF := hF.put kM_at11 (inE_of (a := 0) (b := 10) (by decide) (by decide) (by decide)) k161
        have c162 := k161.gi (Or.inl (tk_ne kM_at12 kM_at11 (by decide))) c72
        have c163 := k161.gi (Or.inl (tk_ne kM_at0 kM_at11 (by decide))) c73
        have c164 := k161.gi (Or.inl (tk_ne kM_at12 kM_at11 (by decide))) c74
        have c165 := k161.gi (Or.inl (tk_ne kM_at14 kM_at11 (by decide))) c76
        refine lv_aload_n hx hb dX12_words_135 rfl (lv_at hl 2 rfl) ?_
        refine tk_getA hC hK hw hT hinX12 kM_at0 (by decide) rfl 25 (by decide) (List.mem_of_getElem? (i := 1) rfl) rfl rfl dX12_words_136 ?_
        refine lv_bipush (v := 7) hx hb dX12_words_139 (by decide) ?_
        refine lv_aload_n hx hb dX12_words_141 rfl (lv_at hl 2 rfl) ?_
        refine tk_geti hC hK hw hT hinX12 kM_at0 (by decide) rfl 30 (by decide) (List.mem_of_getElem? (i := 2) rfl) rfl rfl dX12_words_142 (fun x166 c167 rx166 tx166 => ?_)
        refine wk_top x30 (c167.symm.trans c163) ?_
        refine lv_if_eq (tgt := 152) hx hb dX12_words_145 (by decide) (fun _ => ?_) (fun c => (c (wk_eq.mpr (show x30.toInt = (0 : Int) by omega))).elim)
        refine lv_aload_n hx hb dX12_words_152 rfl (lv_at hl 2 rfl) ?_
        refine lv_iload_n hx hb dX12_words_153 rfl (lv_at hl 3 rfl) ?_
        refine lv_iconst (v := 5) hx hb dX12_words_154 (by decide) ?_
        refine tk_Vi hC hK hw hT hA hE hSR kM_at0 (by decide) rfl (k_X12_walkerOf_16 l adK adV dC dI cy ad B (by omega) (by omega) qr s1    w159 H.size hT ) (cwV 2 hC.2.2.2.2 gX12_words_X12_walkerOf rfl rfl rfl (by decide +kernel) ⟨Nat.le_of_ble_eq_true rfl, Nat.le_of_ble_eq_true rfl⟩) rfl hl.1 rfl (Nat.le_of_ble_eq_true rfl) dX12_words_155 (fun r168 w170 H locs hp169 hw => ?_)
        obtain ⟨rfl, hg173⟩ := hp169
        have c172 := hg173
        refine lv_i2l hx hb dX12_words_158 rfl ?_
        refine lv_topl (fun x174 ex174 => ?_)
        have ex174 : x174.toInt = r168.toInt := by rw [ex174]; exact wk_i2l _
        have bx174 := wk_i32 r168
        refine tk_last hC hK hw hT kM_at11 (by decide) rfl (by decide) (by decide) dX12_words_159 (fun H locs w175 hw hT k177 => ?_)
        have hF := hF.put kM_at11 (inE_of (a := 0) (b := 10) (by decide) (by decide) (by decide)) k177
        have c178 := k177.gi (Or.inl (tk_ne kM_at12 kM_at11 (by decide))) c162
        have c179 := k177.gi (Or.inl (tk_ne kM_at0 kM_at11 (by decide))) c163
        have c180 := k177.gi (Or.inl (tk_ne kM_at12 kM_at11 (by decide))) c164
        have c181 := k177.gi (Or.inl (tk_ne kM_at14 kM_at11 (by decide))) c165
        have c182 := k177.gi (Or.inl (tk_ne kM_at12 kM_at11 (by decide))) c172
        refine lv_aload_n hx hb dX12_words_160 rfl (lv_at hl 2 rfl) ?_
        refine tk_getA hC hK hw hT hinX12 kM_at0 (by decide) rfl 25 (by decide) (List.mem_of_getElem? (i := 1) rfl) rfl rfl dX12_words_161 ?_
        refine lv_bipush (v := 8) hx hb dX12_words_164 (by decide) ?_
        refine lv_aload_n hx hb dX12_words_166 rfl (lv_at hl 2 rfl) ?_
        refine lv_iload_n hx hb dX12_words_167 rfl (lv_at hl 3 rfl) ?_
        refine lv_bipush (v := 6) hx hb dX12_words_168 (by decide) ?_
        refine tk_Vi hC hK hw hT hA hE hSR kM_at0 (by decide) rfl (k_X12_walkerOf_17 l adK adV dC dI cy ad B (by omega) (by omega) qr s1    w175 H.size hT ) (cwV 2 hC.2.2.2.2 gX12_words_X12_walkerOf rfl rfl rfl (by decide +kernel) ⟨Nat.le_of_ble_eq_true rfl, Nat.le_of_ble_eq_true rfl⟩) rfl hl.1 rfl (Nat.le_of_ble_eq_true rfl) dX12_words_170 (fun r183 w185 H locs hp184 hw => ?_)
        obtain ⟨rfl, hg188⟩ := hp184
        have c187 := hg188
        refine lv_i2l hx hb dX12_words_173 rfl ?_
        refine lv_topl (fun x189 ex189 => ?_)
        have ex189 : x189.toInt = r183.toInt := by rw [ex189]; exact wk_i2l _
        have bx189 := wk_i32 r183
        refine tk_last hC hK hw hT kM_at11 (by decide) rfl (by decide) (by decide) dX12_words_174 (fun H locs w190 hw hT k192 => ?_)
        have hF := hF.put kM_at11 (inE_of (a := 0) (b := 10) (by decide) (by decide) (by decide)) k192
        have c193 := k192.gi (Or.inl (tk_ne kM_at12 kM_at11 (by decide))) c178
        have c194 := k192.gi (Or.inl (tk_ne kM_at0 kM_at11 (by decide))) c179
        have c195 := k192.gi (Or.inl (tk_ne kM_at12 kM_at11 (by decide))) c180
        have c196 := k192.gi (Or.inl (tk_ne kM_at14 kM_at11 (by decide))) c181
        have c197 := k192.gi (Or.inl (tk_ne kM_at12 kM_at11 (by decide))) c182
        have c198 := k192.gi (Or.inl (tk_ne kM_at12 kM_at11 (by decide))) c187
        refine lv_aload_n hx hb dX12_words_175 rfl (lv_at hl 2 rfl) ?_
        refine tk_getA hC hK hw hT hinX12 kM_at0 (by decide) rfl 25 (by decide) (List.mem_of_getElem? (i := 1) rfl) rfl rfl dX12_words_176 ?_
        refine lv_bipush (v := 9) hx hb dX12_words_179 (by decide) ?_
        refine lv_aload_n hx hb dX12_words_181 rfl (lv_at hl 2 rfl) ?_
        refine lv_iload_n hx hb dX12_words_182 rfl (lv_at hl 3 rfl) ?_
        refine lv_bipush (v := 7) hx hb dX12_words_183 (by decide) ?_
        refine tk_Vi hC hK hw hT hA hE hSR kM_at0 (by decide) rfl (k_X12_walkerOf_18 l adK adV dC dI cy ad B (by omega) (by omega) qr s1    w190 H.size hT ) (cwV 2 hC.2.2.2.2 gX12_words_X12_walkerOf rfl rfl rfl (by decide +kernel) ⟨Nat.le_of_ble_eq_true rfl, Nat.le_of_ble_eq_true rfl⟩) rfl hl.1 rfl (Nat.le_of_ble_eq_true rfl) dX12_words_185 (fun r199 w201 H locs hp200 hw => ?_)
        obtain ⟨rfl, hg206⟩ := hp200
        obtain ⟨g203, g204, c205⟩ := hg206
        refine lv_if_ge (tgt := 197) hx hb dX12_words_188 (by decide) (fun c207 => ?_) (fun c207 => ?_)
        · have c207 : (0 : Int) ≤ r199.toInt := wk_le.mp c207
          refine lv_aload_n hx hb dX12_words_197 rfl (lv_at hl 2 rfl) ?_
          refine lv_iload_n hx hb dX12_words_198 rfl (lv_at hl 3 rfl) ?_
          refine lv_bipush (v := 7) hx hb dX12_words_199 (by decide) ?_
          refine tk_Vi hC hK hw hT hA hE hSR kM_at0 (by decide) rfl (k_X12_walkerOf_18 l adK adV dC dI cy ad B (by omega) (by omega) qr s1    w190 H.size hT ) (cwV 2 hC.2.2.2.2 gX12_words_X12_walkerOf rfl rfl rfl (by decide +kernel) ⟨Nat.le_of_ble_eq_true rfl, Nat.le_of_ble_eq_true rfl⟩) rfl hl.1 rfl (Nat.le_of_ble_eq_true rfl) dX12_words_201 (fun r208 w210 H locs hp209 hw => ?_)
          obtain ⟨rfl, hg215⟩ := hp209
          obtain ⟨g212, g213, c214⟩ := hg215
          obtain rfl : r199 = r208 := c205.symm.trans c214
          refine lv_i2l hx hb dX12_words_204 rfl ?_
          refine lv_topl (fun x216 ex216 => ?_)
          have ex216 : x216.toInt = r199.toInt := by rw [ex216]; exact wk_i2l _
          have bx216 := wk_i32 r199
          refine tk_last hC hK hw hT kM_at11 (by decide) rfl (by decide) (by decide) dX12_words_205 (fun H locs w217 hw hT k219 => ?_)
          have hF := hF.put kM_at11 (inE_of (a := 0) (b := 10) (by decide) (by decide) (by decide)) k219
          have c220 := k219.gi (Or.inl (tk_ne kM_at12 kM_at11 (by decide))) c193
          have c221 := k219.gi (Or.inl (tk_ne kM_at0 kM_at11 (by decide))) c194
          have c222 := k219.gi (Or.inl (tk_ne kM_at12 kM_at11 (by decide))) c195
          have c223 := k219.gi (Or.inl (tk_ne kM_at14 kM_at11 (by decide))) c196
          have c224 := k219.gi (Or.inl (tk_ne kM_at12 kM_at11 (by decide))) c197
          have c225 := k219.gi (Or.inl (tk_ne kM_at12 kM_at11 (by decide))) c198
          have c226 := k219.gi (Or.inl (tk_ne kM_at12 kM_at11 (by decide))) c205
          exact tk_vret hC hr hlocks hK ⟨hT, hF, ⟨⟨x30, c221, (show 0 ≤ x30.toInt by omega), (show x30.toInt ≤ 1 by omega)⟩, ⟨r199, c226, (show (-1) ≤ r199.toInt by omega), (show r199.toInt ≤ 9 by omega)⟩⟩⟩ hw dX12_words_206
        · have c207 : r199.toInt < (0 : Int) := wk_leF c207
          refine lv_ldc2 (v := 99) hx hb hC.2.2.2.1 (hC.2.2.2.2 _ (List.mem_of_getElem? (i := 5) rfl)) dX12_words_191 ?_
          refine lv_goto (tgt := 205) hx hb dX12_words_194 (by decide) ?_
          refine tk_last hC hK hw hT kM_at11 (by decide) rfl (by decide) (by decide) dX12_words_205 (fun H locs w227 hw hT k229 => ?_)
          have hF := hF.put kM_at11 (inE_of (a := 0) (b := 10) (by decide) (by decide) (by decide)) k229
          have c230 := k229.gi (Or.inl (tk_ne kM_at12 kM_at11 (by decide))) c193
          have c231 := k229.gi (Or.inl (tk_ne kM_at0 kM_at11 (by decide))) c194
          have c232 := k229.gi (Or.inl (tk_ne kM_at12 kM_at11 (by decide))) c195
          have c233 := k229.gi (Or.inl (tk_ne kM_at14 kM_at11 (by decide))) c196
          have c234 := k229.gi (Or.inl (tk_ne kM_at12 kM_at11 (by decide))) c197
          have c235 := k229.gi (Or.inl (tk_ne kM_at12 kM_at11 (by decide))) c198
          have c236 := k229.gi (Or.inl (tk_ne kM_at12 kM_at11 (by decide))) c205
          exact tk_vret hC hr hlocks hK ⟨hT, hF, ⟨⟨x30, c231, (show 0 ≤ x30.toInt by omega), (show x30.toInt ≤ 1 by omega)⟩, ⟨r199, c236, (show (-1) ≤ r199.toInt by omega), (show r199.toInt ≤ 9 by omega)⟩⟩⟩ hw dX12_words_206
    · refine lv_if_eq (tgt := 103) hx hb dX12_words_96 (by decide) (fun c => absurd c (by decide)) (fun _ => ?_)
      refine lv_lconst (v := 0) hx hb dX12_words_99 (by decide) ?_
      refine lv_goto (tgt := 104) hx hb dX12_words_100 (by decide) ?_
      refine tk_last hC hK hw hT kM_at11 (by decide) rfl (by decide) (by decide) dX12_words_104 (fun H locs w237 hw hT k239 => ?_)
      have hF := hF.put kM_at11 (inE_of (a := 0) (b := 10) (by decide) (by decide) (by decide)) k239
      have c240 := k239.gi (Or.inl (tk_ne kM_at12 kM_at11 (by decide))) c59
      have c241 := k239.gi (Or.inl (tk_ne kM_at0 kM_at11 (by decide))) c60
      have c242 := k239.gi (Or.inl (tk_ne kM_at12 kM_at11 (by decide))) c61
      have c243 := k239.gi (Or.inl (tk_ne kM_at0 kM_at11 (by decide))) c67
      refine lv_aload_n hx hb dX12_words_105 rfl (lv_at hl 2 rfl) ?_
      refine tk_getA hC hK hw hT hinX12 kM_at0 (by decide) rfl 25 (by decide) (List.mem_of_getElem? (i := 1) rfl) rfl rfl dX12_words_106 ?_
      refine lv_bipush (v := 6) hx hb dX12_words_109 (by decide) ?_
      refine lv_aload_n hx hb dX12_words_111 rfl (lv_at hl 2 rfl) ?_
      refine tk_getA hC hK hw hT hinX12 kM_at0 (by decide) rfl 29 (by decide) (List.mem_of_getElem? (i := 3) rfl) rfl rfl dX12_words_112 ?_
      refine lv_iload_n hx hb dX12_words_115 rfl (lv_at hl 0 rfl) ?_
      refine tk_iald hC hK hw hT kM_at14 rfl rfl (show 0 ≤ r9.toInt by omega) (show r9.toInt < 10 by omega) dX12_words_116 (fun x244 c245 rx244 tx244 => ?_)
      have c245 : gi w237 14 (r9.toInt).toNat = x244 := (congrArg (gi w237 14) (congrArg Int.toNat (show r9.toInt = r9.toInt by omega))).trans c245
      refine lv_ldcw (v := 100000000) hx hb hC.2.2.2.1 (hC.2.2.2.2 _ (List.mem_of_getElem? (i := 4) rfl)) dX12_words_117 ?_
      refine lv_icmp_ne (tgt := 127) hx hb dX12_words_120 (by decide) (fun c246 => ?_) (fun c246 => ?_)
      · have c246 : ¬ x244.toInt = (100000000 : Int) := wk_eqF c246
        refine lv_aload_n hx hb dX12_words_127 rfl (lv_at hl 2 rfl) ?_
        refine tk_getA hC hK hw hT hinX12 kM_at0 (by decide) rfl 29 (by decide) (List.mem_of_getElem? (i := 3) rfl) rfl rfl dX12_words_128 ?_
        refine lv_iload_n hx hb dX12_words_131 rfl (lv_at hl 0 rfl) ?_
        refine tk_iald hC hK hw hT kM_at14 rfl rfl (show 0 ≤ r9.toInt by omega) (show r9.toInt < 10 by omega) dX12_words_132 (fun x247 c248 rx247 tx247 => ?_)
        have c248 : gi w237 14 (r9.toInt).toNat = x247 := (congrArg (gi w237 14) (congrArg Int.toNat (show r9.toInt = r9.toInt by omega))).trans c248
        refine wk_top x244 (c248.symm.trans c245) ?_
        refine lv_i2l hx hb dX12_words_133 rfl ?_
        refine lv_topl (fun x249 ex249 => ?_)
        have ex249 : x249.toInt = x244.toInt := by rw [ex249]; exact wk_i2l _
        have bx249 := wk_i32 x244
        refine tk_last hC hK hw hT kM_at11 (by decide) rfl (by decide) (by decide) dX12_words_134 (fun H locs w250 hw hT k252 => ?_)
        have hF := hF.put kM_at11 (inE_of (a := 0) (b := 10) (by decide) (by decide) (by decide)) k252
        have c253 := k252.gi (Or.inl (tk_ne kM_at12 kM_at11 (by decide))) c240
        have c254 := k252.gi (Or.inl (tk_ne kM_at0 kM_at11 (by decide))) c241
        have c255 := k252.gi (Or.inl (tk_ne kM_at12 kM_at11 (by decide))) c242
        have c256 := k252.gi (Or.inl (tk_ne kM_at0 kM_at11 (by decide))) c243
        have c257 := k252.gi (Or.inl (tk_ne kM_at14 kM_at11 (by decide))) c245
        refine lv_aload_n hx hb dX12_words_135 rfl (lv_at hl 2 rfl) ?_
        refine tk_getA hC hK hw hT hinX12 kM_at0 (by decide) rfl 25 (by decide) (List.mem_of_getElem? (i := 1) rfl) rfl rfl dX12_words_136 ?_
        refine lv_bipush (v := 7) hx hb dX12_words_139 (by decide) ?_
        refine lv_aload_n hx hb dX12_words_141 rfl (lv_at hl 2 rfl) ?_
        refine tk_geti hC hK hw hT hinX12 kM_at0 (by decide) rfl 30 (by decide) (List.mem_of_getElem? (i := 2) rfl) rfl rfl dX12_words_142 (fun x258 c259 rx258 tx258 => ?_)
        refine wk_top x30 (c259.symm.trans c254) ?_
        refine lv_if_eq (tgt := 152) hx hb dX12_words_145 (by decide) (fun _ => ?_) (fun c => (c (wk_eq.mpr (show x30.toInt = (0 : Int) by omega))).elim)
        refine lv_aload_n hx hb dX12_words_152 rfl (lv_at hl 2 rfl) ?_
        refine lv_iload_n hx hb dX12_words_153 rfl (lv_at hl 3 rfl) ?_
        refine lv_iconst (v := 5) hx hb dX12_words_154 (by decide) ?_
        refine tk_Vi hC hK hw hT hA hE hSR kM_at0 (by decide) rfl (k_X12_walkerOf_16 l adK adV dC dI cy ad B (by omega) (by omega) qr s1    w250 H.size hT ) (cwV 2 hC.2.2.2.2 gX12_words_X12_walkerOf rfl rfl rfl (by decide +kernel) ⟨Nat.le_of_ble_eq_true rfl, Nat.le_of_ble_eq_true rfl⟩) rfl hl.1 rfl (Nat.le_of_ble_eq_true rfl) dX12_words_155 (fun r260 w262 H locs hp261 hw => ?_)
        obtain ⟨rfl, hg265⟩ := hp261
        have c264 := hg265
        refine lv_i2l hx hb dX12_words_158 rfl ?_
        refine lv_topl (fun x266 ex266 => ?_)
        have ex266 : x266.toInt = r260.toInt := by rw [ex266]; exact wk_i2l _
        have bx266 := wk_i32 r260
        refine tk_last hC hK hw hT kM_at11 (by decide) rfl (by decide) (by decide) dX12_words_159 (fun H locs w267 hw hT k269 => ?_)
        have hF := hF.put kM_at11 (inE_of (a := 0) (b := 10) (by decide) (by decide) (by decide)) k269
        have c270 := k269.gi (Or.inl (tk_ne kM_at12 kM_at11 (by decide))) c253
        have c271 := k269.gi (Or.inl (tk_ne kM_at0 kM_at11 (by decide))) c254
        have c272 := k269.gi (Or.inl (tk_ne kM_at12 kM_at11 (by decide))) c255
        have c273 := k269.gi (Or.inl (tk_ne kM_at0 kM_at11 (by decide))) c256
        have c274 := k269.gi (Or.inl (tk_ne kM_at14 kM_at11 (by decide))) c257
        have c275 := k269.gi (Or.inl (tk_ne kM_at12 kM_at11 (by decide))) c264
        refine lv_aload_n hx hb dX12_words_160 rfl (lv_at hl 2 rfl) ?_
        refine tk_getA hC hK hw hT hinX12 kM_at0 (by decide) rfl 25 (by decide) (List.mem_of_getElem? (i := 1) rfl) rfl rfl dX12_words_161 ?_
        refine lv_bipush (v := 8) hx hb dX12_words_164 (by decide) ?_
        refine lv_aload_n hx hb dX12_words_166 rfl (lv_at hl 2 rfl) ?_
        refine lv_iload_n hx hb dX12_words_167 rfl (lv_at hl 3 rfl) ?_
        refine lv_bipush (v := 6) hx hb dX12_words_168 (by decide) ?_
        refine tk_Vi hC hK hw hT hA hE hSR kM_at0 (by decide) rfl (k_X12_walkerOf_17 l adK adV dC dI cy ad B (by omega) (by omega) qr s1    w267 H.size hT ) (cwV 2 hC.2.2.2.2 gX12_words_X12_walkerOf rfl rfl rfl (by decide +kernel) ⟨Nat.le_of_ble_eq_true rfl, Nat.le_of_ble_eq_true rfl⟩) rfl hl.1 rfl (Nat.le_of_ble_eq_true rfl) dX12_words_170 (fun r276 w278 H locs hp277 hw => ?_)
        obtain ⟨rfl, hg281⟩ := hp277
        have c280 := hg281
        refine lv_i2l hx hb dX12_words_173 rfl ?_
        refine lv_topl (fun x282 ex282 => ?_)
        have ex282 : x282.toInt = r276.toInt := by rw [ex282]; exact wk_i2l _
        have bx282 := wk_i32 r276
        refine tk_last hC hK hw hT kM_at11 (by decide) rfl (by decide) (by decide) dX12_words_174 (fun H locs w283 hw hT k285 => ?_)
        have hF := hF.put kM_at11 (inE_of (a := 0) (b := 10) (by decide) (by decide) (by decide)) k285
        have c286 := k285.gi (Or.inl (tk_ne kM_at12 kM_at11 (by decide))) c270
        have c287 := k285.gi (Or.inl (tk_ne kM_at0 kM_at11 (by decide))) c271
        have c288 := k285.gi (Or.inl (tk_ne kM_at12 kM_at11 (by decide))) c272
        have c289 := k285.gi (Or.inl (tk_ne kM_at0 kM_at11 (by decide))) c273
        have c290 := k285.gi (Or.inl (tk_ne kM_at14 kM_at11 (by decide))) c274
        have c291 := k285.gi (Or.inl (tk_ne kM_at12 kM_at11 (by decide))) c275
        have c292 := k285.gi (Or.inl (tk_ne kM_at12 kM_at11 (by decide))) c280
        refine lv_aload_n hx hb dX12_words_175 rfl (lv_at hl 2 rfl) ?_
        refine tk_getA hC hK hw hT hinX12 kM_at0 (by decide) rfl 25 (by decide) (List.mem_of_getElem? (i := 1) rfl) rfl rfl dX12_words_176 ?_
        refine lv_bipush (v := 9) hx hb dX12_words_179 (by decide) ?_
        refine lv_aload_n hx hb dX12_words_181 rfl (lv_at hl 2 rfl) ?_
        refine lv_iload_n hx hb dX12_words_182 rfl (lv_at hl 3 rfl) ?_
        refine lv_bipush (v := 7) hx hb dX12_words_183 (by decide) ?_
        refine tk_Vi hC hK hw hT hA hE hSR kM_at0 (by decide) rfl (k_X12_walkerOf_18 l adK adV dC dI cy ad B (by omega) (by omega) qr s1    w283 H.size hT ) (cwV 2 hC.2.2.2.2 gX12_words_X12_walkerOf rfl rfl rfl (by decide +kernel) ⟨Nat.le_of_ble_eq_true rfl, Nat.le_of_ble_eq_true rfl⟩) rfl hl.1 rfl (Nat.le_of_ble_eq_true rfl) dX12_words_185 (fun r293 w295 H locs hp294 hw => ?_)
        obtain ⟨rfl, hg300⟩ := hp294
        obtain ⟨g297, g298, c299⟩ := hg300
        refine lv_if_ge (tgt := 197) hx hb dX12_words_188 (by decide) (fun c301 => ?_) (fun c301 => ?_)
        · have c301 : (0 : Int) ≤ r293.toInt := wk_le.mp c301
          refine lv_aload_n hx hb dX12_words_197 rfl (lv_at hl 2 rfl) ?_
          refine lv_iload_n hx hb dX12_words_198 rfl (lv_at hl 3 rfl) ?_
          refine lv_bipush (v := 7) hx hb dX12_words_199 (by decide) ?_
          refine tk_Vi hC hK hw hT hA hE hSR kM_at0 (by decide) rfl (k_X12_walkerOf_18 l adK adV dC dI cy ad B (by omega) (by omega) qr s1    w283 H.size hT ) (cwV 2 hC.2.2.2.2 gX12_words_X12_walkerOf rfl rfl rfl (by decide +kernel) ⟨Nat.le_of_ble_eq_true rfl, Nat.le_of_ble_eq_true rfl⟩) rfl hl.1 rfl (Nat.le_of_ble_eq_true rfl) dX12_words_201 (fun r302 w304 H locs hp303 hw => ?_)
          obtain ⟨rfl, hg309⟩ := hp303
          obtain ⟨g306, g307, c308⟩ := hg309
          obtain rfl : r293 = r302 := c299.symm.trans c308
          refine lv_i2l hx hb dX12_words_204 rfl ?_
          refine lv_topl (fun x310 ex310 => ?_)
          have ex310 : x310.toInt = r293.toInt := by rw [ex310]; exact wk_i2l _
          have bx310 := wk_i32 r293
          refine tk_last hC hK hw hT kM_at11 (by decide) rfl (by decide) (by decide) dX12_words_205 (fun H locs w311 hw hT k313 => ?_)
          have hF := hF.put kM_at11 (inE_of (a := 0) (b := 10) (by decide) (by decide) (by decide)) k313
          have c314 := k313.gi (Or.inl (tk_ne kM_at12 kM_at11 (by decide))) c286
          have c315 := k313.gi (Or.inl (tk_ne kM_at0 kM_at11 (by decide))) c287
          have c316 := k313.gi (Or.inl (tk_ne kM_at12 kM_at11 (by decide))) c288
          have c317 := k313.gi (Or.inl (tk_ne kM_at0 kM_at11 (by decide))) c289
          have c318 := k313.gi (Or.inl (tk_ne kM_at14 kM_at11 (by decide))) c290
          have c319 := k313.gi (Or.inl (tk_ne kM_at12 kM_at11 (by decide))) c291
          have c320 := k313.gi (Or.inl (tk_ne kM_at12 kM_at11 (by decide))) c292
          have c321 := k313.gi (Or.inl (tk_ne kM_at12 kM_at11 (by decide))) c299
          exact tk_vret hC hr hlocks hK ⟨hT, hF, ⟨⟨x30, c315, (show 0 ≤ x30.toInt by omega), (show x30.toInt ≤ 1 by omega)⟩, ⟨r293, c321, (show (-1) ≤ r293.toInt by omega), (show r293.toInt ≤ 9 by omega)⟩⟩⟩ hw dX12_words_206
        · have c301 : r293.toInt < (0 : Int) := wk_leF c301
          refine lv_ldc2 (v := 99) hx hb hC.2.2.2.1 (hC.2.2.2.2 _ (List.mem_of_getElem? (i := 5) rfl)) dX12_words_191 ?_
          refine lv_goto (tgt := 205) hx hb dX12_words_194 (by decide) ?_
          refine tk_last hC hK hw hT kM_at11 (by decide) rfl (by decide) (by decide) dX12_words_205 (fun H locs w322 hw hT k324 => ?_)
          have hF := hF.put kM_at11 (inE_of (a := 0) (b := 10) (by decide) (by decide) (by decide)) k324
          have c325 := k324.gi (Or.inl (tk_ne kM_at12 kM_at11 (by decide))) c286
          have c326 := k324.gi (Or.inl (tk_ne kM_at0 kM_at11 (by decide))) c287
          have c327 := k324.gi (Or.inl (tk_ne kM_at12 kM_at11 (by decide))) c288
          have c328 := k324.gi (Or.inl (tk_ne kM_at0 kM_at11 (by decide))) c289
          have c329 := k324.gi (Or.inl (tk_ne kM_at14 kM_at11 (by decide))) c290
          have c330 := k324.gi (Or.inl (tk_ne kM_at12 kM_at11 (by decide))) c291
          have c331 := k324.gi (Or.inl (tk_ne kM_at12 kM_at11 (by decide))) c292
          have c332 := k324.gi (Or.inl (tk_ne kM_at12 kM_at11 (by decide))) c299
          exact tk_vret hC hr hlocks hK ⟨hT, hF, ⟨⟨x30, c326, (show 0 ≤ x30.toInt by omega), (show x30.toInt ≤ 1 by omega)⟩, ⟨r293, c332, (show (-1) ≤ r293.toInt by omega), (show r293.toInt ≤ 9 by omega)⟩⟩⟩ hw dX12_words_206
      · have c246 : x244.toInt = (100000000 : Int) := wk_eq.mp c246
        refine lv_lconst (v := 0) hx hb dX12_words_123 (by decide) ?_
        refine lv_goto (tgt := 134) hx hb dX12_words_124 (by decide) ?_
        refine tk_last hC hK hw hT kM_at11 (by decide) rfl (by decide) (by decide) dX12_words_134 (fun H locs w333 hw hT k335 => ?_)
        have hF := hF.put kM_at11 (inE_of (a := 0) (b := 10) (by decide) (by decide) (by decide)) k335
        have c336 := k335.gi (Or.inl (tk_ne kM_at12 kM_at11 (by decide))) c240
        have c337 := k335.gi (Or.inl (tk_ne kM_at0 kM_at11 (by decide))) c241
        have c338 := k335.gi (Or.inl (tk_ne kM_at12 kM_at11 (by decide))) c242
        have c339 := k335.gi (Or.inl (tk_ne kM_at0 kM_at11 (by decide))) c243
        have c340 := k335.gi (Or.inl (tk_ne kM_at14 kM_at11 (by decide))) c245
        refine lv_aload_n hx hb dX12_words_135 rfl (lv_at hl 2 rfl) ?_
        refine tk_getA hC hK hw hT hinX12 kM_at0 (by decide) rfl 25 (by decide) (List.mem_of_getElem? (i := 1) rfl) rfl rfl dX12_words_136 ?_
        refine lv_bipush (v := 7) hx hb dX12_words_139 (by decide) ?_
        refine lv_aload_n hx hb dX12_words_141 rfl (lv_at hl 2 rfl) ?_
        refine tk_geti hC hK hw hT hinX12 kM_at0 (by decide) rfl 30 (by decide) (List.mem_of_getElem? (i := 2) rfl) rfl rfl dX12_words_142 (fun x341 c342 rx341 tx341 => ?_)
        refine wk_top x30 (c342.symm.trans c337) ?_
        refine lv_if_eq (tgt := 152) hx hb dX12_words_145 (by decide) (fun _ => ?_) (fun c => (c (wk_eq.mpr (show x30.toInt = (0 : Int) by omega))).elim)
        refine lv_aload_n hx hb dX12_words_152 rfl (lv_at hl 2 rfl) ?_
        refine lv_iload_n hx hb dX12_words_153 rfl (lv_at hl 3 rfl) ?_
        refine lv_iconst (v := 5) hx hb dX12_words_154 (by decide) ?_
        refine tk_Vi hC hK hw hT hA hE hSR kM_at0 (by decide) rfl (k_X12_walkerOf_16 l adK adV dC dI cy ad B (by omega) (by omega) qr s1    w333 H.size hT ) (cwV 2 hC.2.2.2.2 gX12_words_X12_walkerOf rfl rfl rfl (by decide +kernel) ⟨Nat.le_of_ble_eq_true rfl, Nat.le_of_ble_eq_true rfl⟩) rfl hl.1 rfl (Nat.le_of_ble_eq_true rfl) dX12_words_155 (fun r343 w345 H locs hp344 hw => ?_)
        obtain ⟨rfl, hg348⟩ := hp344
        have c347 := hg348
        refine lv_i2l hx hb dX12_words_158 rfl ?_
        refine lv_topl (fun x349 ex349 => ?_)
        have ex349 : x349.toInt = r343.toInt := by rw [ex349]; exact wk_i2l _
        have bx349 := wk_i32 r343
        refine tk_last hC hK hw hT kM_at11 (by decide) rfl (by decide) (by decide) dX12_words_159 (fun H locs w350 hw hT k352 => ?_)
        have hF := hF.put kM_at11 (inE_of (a := 0) (b := 10) (by decide) (by decide) (by decide)) k352
        have c353 := k352.gi (Or.inl (tk_ne kM_at12 kM_at11 (by decide))) c336
        have c354 := k352.gi (Or.inl (tk_ne kM_at0 kM_at11 (by decide))) c337
        have c355 := k352.gi (Or.inl (tk_ne kM_at12 kM_at11 (by decide))) c338
        have c356 := k352.gi (Or.inl (tk_ne kM_at0 kM_at11 (by decide))) c339
        have c357 := k352.gi (Or.inl (tk_ne kM_at14 kM_at11 (by decide))) c340
        have c358 := k352.gi (Or.inl (tk_ne kM_at12 kM_at11 (by decide))) c347
        refine lv_aload_n hx hb dX12_words_160 rfl (lv_at hl 2 rfl) ?_
        refine tk_getA hC hK hw hT hinX12 kM_at0 (by decide) rfl 25 (by decide) (List.mem_of_getElem? (i := 1) rfl) rfl rfl dX12_words_161 ?_
        refine lv_bipush (v := 8) hx hb dX12_words_164 (by decide) ?_
        refine lv_aload_n hx hb dX12_words_166 rfl (lv_at hl 2 rfl) ?_
        refine lv_iload_n hx hb dX12_words_167 rfl (lv_at hl 3 rfl) ?_
        refine lv_bipush (v := 6) hx hb dX12_words_168 (by decide) ?_
        refine tk_Vi hC hK hw hT hA hE hSR kM_at0 (by decide) rfl (k_X12_walkerOf_17 l adK adV dC dI cy ad B (by omega) (by omega) qr s1    w350 H.size hT ) (cwV 2 hC.2.2.2.2 gX12_words_X12_walkerOf rfl rfl rfl (by decide +kernel) ⟨Nat.le_of_ble_eq_true rfl, Nat.le_of_ble_eq_true rfl⟩) rfl hl.1 rfl (Nat.le_of_ble_eq_true rfl) dX12_words_170 (fun r359 w361 H locs hp360 hw => ?_)
        obtain ⟨rfl, hg364⟩ := hp360
        have c363 := hg364
        refine lv_i2l hx hb dX12_words_173 rfl ?_
        refine lv_topl (fun x365 ex365 => ?_)
        have ex365 : x365.toInt = r359.toInt := by rw [ex365]; exact wk_i2l _
        have bx365 := wk_i32 r359
        refine tk_last hC hK hw hT kM_at11 (by decide) rfl (by decide) (by decide) dX12_words_174 (fun H locs w366 hw hT k368 => ?_)
        have hF := hF.put kM_at11 (inE_of (a := 0) (b := 10) (by decide) (by decide) (by decide)) k368
        have c369 := k368.gi (Or.inl (tk_ne kM_at12 kM_at11 (by decide))) c353
        have c370 := k368.gi (Or.inl (tk_ne kM_at0 kM_at11 (by decide))) c354
        have c371 := k368.gi (Or.inl (tk_ne kM_at12 kM_at11 (by decide))) c355
        have c372 := k368.gi (Or.inl (tk_ne kM_at0 kM_at11 (by decide))) c356
        have c373 := k368.gi (Or.inl (tk_ne kM_at14 kM_at11 (by decide))) c357
        have c374 := k368.gi (Or.inl (tk_ne kM_at12 kM_at11 (by decide))) c358
        have c375 := k368.gi (Or.inl (tk_ne kM_at12 kM_at11 (by decide))) c363
        refine lv_aload_n hx hb dX12_words_175 rfl (lv_at hl 2 rfl) ?_
        refine tk_getA hC hK hw hT hinX12 kM_at0 (by decide) rfl 25 (by decide) (List.mem_of_getElem? (i := 1) rfl) rfl rfl dX12_words_176 ?_
        refine lv_bipush (v := 9) hx hb dX12_words_179 (by decide) ?_
        refine lv_aload_n hx hb dX12_words_181 rfl (lv_at hl 2 rfl) ?_
        refine lv_iload_n hx hb dX12_words_182 rfl (lv_at hl 3 rfl) ?_
        refine lv_bipush (v := 7) hx hb dX12_words_183 (by decide) ?_
        refine tk_Vi hC hK hw hT hA hE hSR kM_at0 (by decide) rfl (k_X12_walkerOf_18 l adK adV dC dI cy ad B (by omega) (by omega) qr s1    w366 H.size hT ) (cwV 2 hC.2.2.2.2 gX12_words_X12_walkerOf rfl rfl rfl (by decide +kernel) ⟨Nat.le_of_ble_eq_true rfl, Nat.le_of_ble_eq_true rfl⟩) rfl hl.1 rfl (Nat.le_of_ble_eq_true rfl) dX12_words_185 (fun r376 w378 H locs hp377 hw => ?_)
        obtain ⟨rfl, hg383⟩ := hp377
        obtain ⟨g380, g381, c382⟩ := hg383
        refine lv_if_ge (tgt := 197) hx hb dX12_words_188 (by decide) (fun c384 => ?_) (fun c384 => ?_)
        · have c384 : (0 : Int) ≤ r376.toInt := wk_le.mp c384
          refine lv_aload_n hx hb dX12_words_197 rfl (lv_at hl 2 rfl) ?_
          refine lv_iload_n hx hb dX12_words_198 rfl (lv_at hl 3 rfl) ?_
          refine lv_bipush (v := 7) hx hb dX12_words_199 (by decide) ?_
          refine tk_Vi hC hK hw hT hA hE hSR kM_at0 (by decide) rfl (k_X12_walkerOf_18 l adK adV dC dI cy ad B (by omega) (by omega) qr s1    w366 H.size hT ) (cwV 2 hC.2.2.2.2 gX12_words_X12_walkerOf rfl rfl rfl (by decide +kernel) ⟨Nat.le_of_ble_eq_true rfl, Nat.le_of_ble_eq_true rfl⟩) rfl hl.1 rfl (Nat.le_of_ble_eq_true rfl) dX12_words_201 (fun r385 w387 H locs hp386 hw => ?_)
          obtain ⟨rfl, hg392⟩ := hp386
          obtain ⟨g389, g390, c391⟩ := hg392
          obtain rfl : r376 = r385 := c382.symm.trans c391
          refine lv_i2l hx hb dX12_words_204 rfl ?_
          refine lv_topl (fun x393 ex393 => ?_)
          have ex393 : x393.toInt = r376.toInt := by rw [ex393]; exact wk_i2l _
          have bx393 := wk_i32 r376
          refine tk_last hC hK hw hT kM_at11 (by decide) rfl (by decide) (by decide) dX12_words_205 (fun H locs w394 hw hT k396 => ?_)
          have hF := hF.put kM_at11 (inE_of (a := 0) (b := 10) (by decide) (by decide) (by decide)) k396
          have c397 := k396.gi (Or.inl (tk_ne kM_at12 kM_at11 (by decide))) c369
          have c398 := k396.gi (Or.inl (tk_ne kM_at0 kM_at11 (by decide))) c370
          have c399 := k396.gi (Or.inl (tk_ne kM_at12 kM_at11 (by decide))) c371
          have c400 := k396.gi (Or.inl (tk_ne kM_at0 kM_at11 (by decide))) c372
          have c401 := k396.gi (Or.inl (tk_ne kM_at14 kM_at11 (by decide))) c373
          have c402 := k396.gi (Or.inl (tk_ne kM_at12 kM_at11 (by decide))) c374
          have c403 := k396.gi (Or.inl (tk_ne kM_at12 kM_at11 (by decide))) c375
          have c404 := k396.gi (Or.inl (tk_ne kM_at12 kM_at11 (by decide))) c382
          exact tk_vret hC hr hlocks hK ⟨hT, hF, ⟨⟨x30, c398, (show 0 ≤ x30.toInt by omega), (show x30.toInt ≤ 1 by omega)⟩, ⟨r376, c404, (show (-1) ≤ r376.toInt by omega), (show r376.toInt ≤ 9 by omega)⟩⟩⟩ hw dX12_words_206
        · have c384 : r376.toInt < (0 : Int) := wk_leF c384
          refine lv_ldc2 (v := 99) hx hb hC.2.2.2.1 (hC.2.2.2.2 _ (List.mem_of_getElem? (i := 5) rfl)) dX12_words_191 ?_
          refine lv_goto (tgt := 205) hx hb dX12_words_194 (by decide) ?_
          refine tk_last hC hK hw hT kM_at11 (by decide) rfl (by decide) (by decide) dX12_words_205 (fun H locs w405 hw hT k407 => ?_)
          have hF := hF.put kM_at11 (inE_of (a := 0) (b := 10) (by decide) (by decide) (by decide)) k407
          have c408 := k407.gi (Or.inl (tk_ne kM_at12 kM_at11 (by decide))) c369
          have c409 := k407.gi (Or.inl (tk_ne kM_at0 kM_at11 (by decide))) c370
          have c410 := k407.gi (Or.inl (tk_ne kM_at12 kM_at11 (by decide))) c371
          have c411 := k407.gi (Or.inl (tk_ne kM_at0 kM_at11 (by decide))) c372
          have c412 := k407.gi (Or.inl (tk_ne kM_at14 kM_at11 (by decide))) c373
          have c413 := k407.gi (Or.inl (tk_ne kM_at12 kM_at11 (by decide))) c374
          have c414 := k407.gi (Or.inl (tk_ne kM_at12 kM_at11 (by decide))) c375
          have c415 := k407.gi (Or.inl (tk_ne kM_at12 kM_at11 (by decide))) c382
          exact tk_vret hC hr hlocks hK ⟨hT, hF, ⟨⟨x30, c409, (show 0 ≤ x30.toInt by omega), (show x30.toInt ≤ 1 by omega)⟩, ⟨r376, c415, (show (-1) ≤ r376.toInt by omega), (show r376.toInt ≤ 9 by omega)⟩⟩⟩ hw dX12_words_206
  · have c32 : ¬ x30.toInt = (0 : Int) := wk_eqF c32
    refine lv_lconst (v := 0) hx hb dX12_words_51 (by decide) ?_
    refine lv_goto (tgt := 64) hx hb dX12_words_52 (by decide) ?_
    refine tk_last hC hK hw hT kM_at11 (by decide) rfl (by decide) (by decide) dX12_words_64 (fun H locs w416 hw hT k418 => ?_)
    have hF := hF.put kM_at11 (inE_of (a := 0) (b := 10) (by decide) (by decide) (by decide)) k418
    have c419 := k418.gi (Or.inl (tk_ne kM_at12 kM_at11 (by decide))) c29
    have c420 := k418.gi (Or.inl (tk_ne kM_at0 kM_at11 (by decide))) c31
    refine lv_aload_n hx hb dX12_words_65 rfl (lv_at hl 2 rfl) ?_
    refine tk_getA hC hK hw hT hinX12 kM_at0 (by decide) rfl 25 (by decide) (List.mem_of_getElem? (i := 1) rfl) rfl rfl dX12_words_66 ?_
    refine lv_iconst (v := 3) hx hb dX12_words_69 (by decide) ?_
    refine lv_iload_n hx hb dX12_words_70 rfl (lv_at hl 0 rfl) ?_
    refine lv_i2l hx hb dX12_words_71 rfl ?_
    refine lv_topl (fun x421 ex421 => ?_)
    have ex421 : x421.toInt = r9.toInt := by rw [ex421]; exact wk_i2l _
    have bx421 := wk_i32 r9
    refine tk_last hC hK hw hT kM_at11 (by decide) rfl (by decide) (by decide) dX12_words_72 (fun H locs w422 hw hT k424 => ?_)
    have hF := hF.put kM_at11 (inE_of (a := 0) (b := 10) (by decide) (by decide) (by decide)) k424
    have c425 := k424.gi (Or.inl (tk_ne kM_at12 kM_at11 (by decide))) c419
    have c426 := k424.gi (Or.inl (tk_ne kM_at0 kM_at11 (by decide))) c420
    refine lv_aload_n hx hb dX12_words_73 rfl (lv_at hl 2 rfl) ?_
    refine tk_getA hC hK hw hT hinX12 kM_at0 (by decide) rfl 25 (by decide) (List.mem_of_getElem? (i := 1) rfl) rfl rfl dX12_words_74 ?_
    refine lv_iconst (v := 4) hx hb dX12_words_77 (by decide) ?_
    refine lv_aload_n hx hb dX12_words_78 rfl (lv_at hl 2 rfl) ?_
    refine lv_iload_n hx hb dX12_words_79 rfl (lv_at hl 3 rfl) ?_
    refine lv_iconst (v := 1) hx hb dX12_words_80 (by decide) ?_
    refine tk_Vi hC hK hw hT hA hE hSR kM_at0 (by decide) rfl (k_X12_walkerOf_12 l adK adV dC dI cy ad B (by omega) (by omega) qr s1    w422 H.size hT ) (cwV 2 hC.2.2.2.2 gX12_words_X12_walkerOf rfl rfl rfl (by decide +kernel) ⟨Nat.le_of_ble_eq_true rfl, Nat.le_of_ble_eq_true rfl⟩) rfl hl.1 rfl (Nat.le_of_ble_eq_true rfl) dX12_words_81 (fun r427 w429 H locs hp428 hw => ?_)
    obtain ⟨rfl, hg434⟩ := hp428
    obtain ⟨g431, g432, c433⟩ := hg434
    refine lv_i2l hx hb dX12_words_84 rfl ?_
    refine lv_topl (fun x435 ex435 => ?_)
    have ex435 : x435.toInt = r427.toInt := by rw [ex435]; exact wk_i2l _
    have bx435 := wk_i32 r427
    refine tk_last hC hK hw hT kM_at11 (by decide) rfl (by decide) (by decide) dX12_words_85 (fun H locs w436 hw hT k438 => ?_)
    have hF := hF.put kM_at11 (inE_of (a := 0) (b := 10) (by decide) (by decide) (by decide)) k438
    have c439 := k438.gi (Or.inl (tk_ne kM_at12 kM_at11 (by decide))) c425
    have c440 := k438.gi (Or.inl (tk_ne kM_at0 kM_at11 (by decide))) c426
    have c441 := k438.gi (Or.inl (tk_ne kM_at12 kM_at11 (by decide))) c433
    refine lv_aload_n hx hb dX12_words_86 rfl (lv_at hl 2 rfl) ?_
    refine tk_getA hC hK hw hT hinX12 kM_at0 (by decide) rfl 25 (by decide) (List.mem_of_getElem? (i := 1) rfl) rfl rfl dX12_words_87 ?_
    refine lv_iconst (v := 5) hx hb dX12_words_90 (by decide) ?_
    refine lv_aload_n hx hb dX12_words_91 rfl (lv_at hl 2 rfl) ?_
    refine lv_iload_n hx hb dX12_words_92 rfl (lv_at hl 3 rfl) ?_
    refine tk_Vi hC hK hw hT hA hE hSR kM_at0 (by decide) rfl (k_X12_canGo_2 l adK adV dC dI cy ad B (by omega) (by omega) qr s1    w436 H.size hT ) (cwV 1 hC.2.2.2.2 gX12_words_X12_canGo rfl rfl rfl (by decide +kernel) ⟨Nat.le_of_ble_eq_true rfl, Nat.le_of_ble_eq_true rfl⟩) rfl hl.1 rfl (Nat.le_of_ble_eq_true rfl) dX12_words_93 (fun r442 w444 H locs hp443 hw => ?_)
    obtain ⟨rfl, hg448⟩ := hp443
    rcases hg448 with rfl | ⟨rfl, ⟨x446, c447, rx446, tx446⟩⟩
    · refine lv_if_eq (tgt := 103) hx hb dX12_words_96 (by decide) (fun _ => ?_) (fun c => absurd (by decide) c)
      refine lv_lconst (v := 1) hx hb dX12_words_103 (by decide) ?_
      refine tk_last hC hK hw hT kM_at11 (by decide) rfl (by decide) (by decide) dX12_words_104 (fun H locs w449 hw hT k451 => ?_)
      have hF := hF.put kM_at11 (inE_of (a := 0) (b := 10) (by decide) (by decide) (by decide)) k451
      have c452 := k451.gi (Or.inl (tk_ne kM_at12 kM_at11 (by decide))) c439
      have c453 := k451.gi (Or.inl (tk_ne kM_at0 kM_at11 (by decide))) c440
      have c454 := k451.gi (Or.inl (tk_ne kM_at12 kM_at11 (by decide))) c441
      refine lv_aload_n hx hb dX12_words_105 rfl (lv_at hl 2 rfl) ?_
      refine tk_getA hC hK hw hT hinX12 kM_at0 (by decide) rfl 25 (by decide) (List.mem_of_getElem? (i := 1) rfl) rfl rfl dX12_words_106 ?_
      refine lv_bipush (v := 6) hx hb dX12_words_109 (by decide) ?_
      refine lv_aload_n hx hb dX12_words_111 rfl (lv_at hl 2 rfl) ?_
      refine tk_getA hC hK hw hT hinX12 kM_at0 (by decide) rfl 29 (by decide) (List.mem_of_getElem? (i := 3) rfl) rfl rfl dX12_words_112 ?_
      refine lv_iload_n hx hb dX12_words_115 rfl (lv_at hl 0 rfl) ?_
      refine tk_iald hC hK hw hT kM_at14 rfl rfl (show 0 ≤ r9.toInt by omega) (show r9.toInt < 10 by omega) dX12_words_116 (fun x455 c456 rx455 tx455 => ?_)
      have c456 : gi w449 14 (r9.toInt).toNat = x455 := (congrArg (gi w449 14) (congrArg Int.toNat (show r9.toInt = r9.toInt by omega))).trans c456
      refine lv_ldcw (v := 100000000) hx hb hC.2.2.2.1 (hC.2.2.2.2 _ (List.mem_of_getElem? (i := 4) rfl)) dX12_words_117 ?_
      refine lv_icmp_ne (tgt := 127) hx hb dX12_words_120 (by decide) (fun c457 => ?_) (fun c457 => ?_)
      · have c457 : ¬ x455.toInt = (100000000 : Int) := wk_eqF c457
        refine lv_aload_n hx hb dX12_words_127 rfl (lv_at hl 2 rfl) ?_
        refine tk_getA hC hK hw hT hinX12 kM_at0 (by decide) rfl 29 (by decide) (List.mem_of_getElem? (i := 3) rfl) rfl rfl dX12_words_128 ?_
        refine lv_iload_n hx hb dX12_words_131 rfl (lv_at hl 0 rfl) ?_
        refine tk_iald hC hK hw hT kM_at14 rfl rfl (show 0 ≤ r9.toInt by omega) (show r9.toInt < 10 by omega) dX12_words_132 (fun x458 c459 rx458 tx458 => ?_)
        have c459 : gi w449 14 (r9.toInt).toNat = x458 := (congrArg (gi w449 14) (congrArg Int.toNat (show r9.toInt = r9.toInt by omega))).trans c459
        refine wk_top x455 (c459.symm.trans c456) ?_
        refine lv_i2l hx hb dX12_words_133 rfl ?_
        refine lv_topl (fun x460 ex460 => ?_)
        have ex460 : x460.toInt = x455.toInt := by rw [ex460]; exact wk_i2l _
        have bx460 := wk_i32 x455
        refine tk_last hC hK hw hT kM_at11 (by decide) rfl (by decide) (by decide) dX12_words_134 (fun H locs w461 hw hT k463 => ?_)
        have hF := hF.put kM_at11 (inE_of (a := 0) (b := 10) (by decide) (by decide) (by decide)) k463
        have c464 := k463.gi (Or.inl (tk_ne kM_at12 kM_at11 (by decide))) c452
        have c465 := k463.gi (Or.inl (tk_ne kM_at0 kM_at11 (by decide))) c453
        have c466 := k463.gi (Or.inl (tk_ne kM_at12 kM_at11 (by decide))) c454
        have c467 := k463.gi (Or.inl (tk_ne kM_at14 kM_at11 (by decide))) c456
        refine lv_aload_n hx hb dX12_words_135 rfl (lv_at hl 2 rfl) ?_
        refine tk_getA hC hK hw hT hinX12 kM_at0 (by decide) rfl 25 (by decide) (List.mem_of_getElem? (i := 1) rfl) rfl rfl dX12_words_136 ?_
        refine lv_bipush (v := 7) hx hb dX12_words_139 (by decide) ?_
        refine lv_aload_n hx hb dX12_words_141 rfl (lv_at hl 2 rfl) ?_
        refine tk_geti hC hK hw hT hinX12 kM_at0 (by decide) rfl 30 (by decide) (List.mem_of_getElem? (i := 2) rfl) rfl rfl dX12_words_142 (fun x468 c469 rx468 tx468 => ?_)
        refine wk_top x30 (c469.symm.trans c465) ?_
        refine lv_if_eq (tgt := 152) hx hb dX12_words_145 (by decide) (fun c => absurd c (fun h => absurd (show x30.toInt = (0 : Int) from wk_eq.mp h) (by omega))) (fun _ => ?_)
        refine lv_lconst (v := 0) hx hb dX12_words_148 (by decide) ?_
        refine lv_goto (tgt := 159) hx hb dX12_words_149 (by decide) ?_
        refine tk_last hC hK hw hT kM_at11 (by decide) rfl (by decide) (by decide) dX12_words_159 (fun H locs w470 hw hT k472 => ?_)
        have hF := hF.put kM_at11 (inE_of (a := 0) (b := 10) (by decide) (by decide) (by decide)) k472
        have c473 := k472.gi (Or.inl (tk_ne kM_at12 kM_at11 (by decide))) c464
        have c474 := k472.gi (Or.inl (tk_ne kM_at0 kM_at11 (by decide))) c465
        have c475 := k472.gi (Or.inl (tk_ne kM_at12 kM_at11 (by decide))) c466
        have c476 := k472.gi (Or.inl (tk_ne kM_at14 kM_at11 (by decide))) c467
        refine lv_aload_n hx hb dX12_words_160 rfl (lv_at hl 2 rfl) ?_
        refine tk_getA hC hK hw hT hinX12 kM_at0 (by decide) rfl 25 (by decide) (List.mem_of_getElem? (i := 1) rfl) rfl rfl dX12_words_161 ?_
        refine lv_bipush (v := 8) hx hb dX12_words_164 (by decide) ?_
        refine lv_aload_n hx hb dX12_words_166 rfl (lv_at hl 2 rfl) ?_
        refine lv_iload_n hx hb dX12_words_167 rfl (lv_at hl 3 rfl) ?_
        refine lv_bipush (v := 6) hx hb dX12_words_168 (by decide) ?_
        refine tk_Vi hC hK hw hT hA hE hSR kM_at0 (by decide) rfl (k_X12_walkerOf_17 l adK adV dC dI cy ad B (by omega) (by omega) qr s1    w470 H.size hT ) (cwV 2 hC.2.2.2.2 gX12_words_X12_walkerOf rfl rfl rfl (by decide +kernel) ⟨Nat.le_of_ble_eq_true rfl, Nat.le_of_ble_eq_true rfl⟩) rfl hl.1 rfl (Nat.le_of_ble_eq_true rfl) dX12_words_170 (fun r477 w479 H locs hp478 hw => ?_)
        obtain ⟨rfl, hg482⟩ := hp478
        have c481 := hg482
        refine lv_i2l hx hb dX12_words_173 rfl ?_
        refine lv_topl (fun x483 ex483 => ?_)
        have ex483 : x483.toInt = r477.toInt := by rw [ex483]; exact wk_i2l _
        have bx483 := wk_i32 r477
        refine tk_last hC hK hw hT kM_at11 (by decide) rfl (by decide) (by decide) dX12_words_174 (fun H locs w484 hw hT k486 => ?_)
        have hF := hF.put kM_at11 (inE_of (a := 0) (b := 10) (by decide) (by decide) (by decide)) k486
        have c487 := k486.gi (Or.inl (tk_ne kM_at12 kM_at11 (by decide))) c473
        have c488 := k486.gi (Or.inl (tk_ne kM_at0 kM_at11 (by decide))) c474
        have c489 := k486.gi (Or.inl (tk_ne kM_at12 kM_at11 (by decide))) c475
        have c490 := k486.gi (Or.inl (tk_ne kM_at14 kM_at11 (by decide))) c476
        have c491 := k486.gi (Or.inl (tk_ne kM_at12 kM_at11 (by decide))) c481
        refine lv_aload_n hx hb dX12_words_175 rfl (lv_at hl 2 rfl) ?_
        refine tk_getA hC hK hw hT hinX12 kM_at0 (by decide) rfl 25 (by decide) (List.mem_of_getElem? (i := 1) rfl) rfl rfl dX12_words_176 ?_
        refine lv_bipush (v := 9) hx hb dX12_words_179 (by decide) ?_
        refine lv_aload_n hx hb dX12_words_181 rfl (lv_at hl 2 rfl) ?_
        refine lv_iload_n hx hb dX12_words_182 rfl (lv_at hl 3 rfl) ?_
        refine lv_bipush (v := 7) hx hb dX12_words_183 (by decide) ?_
        refine tk_Vi hC hK hw hT hA hE hSR kM_at0 (by decide) rfl (k_X12_walkerOf_18 l adK adV dC dI cy ad B (by omega) (by omega) qr s1    w484 H.size hT ) (cwV 2 hC.2.2.2.2 gX12_words_X12_walkerOf rfl rfl rfl (by decide +kernel) ⟨Nat.le_of_ble_eq_true rfl, Nat.le_of_ble_eq_true rfl⟩) rfl hl.1 rfl (Nat.le_of_ble_eq_true rfl) dX12_words_185 (fun r492 w494 H locs hp493 hw => ?_)
        obtain ⟨rfl, hg499⟩ := hp493
        obtain ⟨g496, g497, c498⟩ := hg499
        refine lv_if_ge (tgt := 197) hx hb dX12_words_188 (by decide) (fun c500 => ?_) (fun c500 => ?_)
        · have c500 : (0 : Int) ≤ r492.toInt := wk_le.mp c500
          refine lv_aload_n hx hb dX12_words_197 rfl (lv_at hl 2 rfl) ?_
          refine lv_iload_n hx hb dX12_words_198 rfl (lv_at hl 3 rfl) ?_
          refine lv_bipush (v := 7) hx hb dX12_words_199 (by decide) ?_
          refine tk_Vi hC hK hw hT hA hE hSR kM_at0 (by decide) rfl (k_X12_walkerOf_18 l adK adV dC dI cy ad B (by omega) (by omega) qr s1    w484 H.size hT ) (cwV 2 hC.2.2.2.2 gX12_words_X12_walkerOf rfl rfl rfl (by decide +kernel) ⟨Nat.le_of_ble_eq_true rfl, Nat.le_of_ble_eq_true rfl⟩) rfl hl.1 rfl (Nat.le_of_ble_eq_true rfl) dX12_words_201 (fun r501 w503 H locs hp502 hw => ?_)
          obtain ⟨rfl, hg508⟩ := hp502
          obtain ⟨g505, g506, c507⟩ := hg508
          obtain rfl : r492 = r501 := c498.symm.trans c507
          refine lv_i2l hx hb dX12_words_204 rfl ?_
          refine lv_topl (fun x509 ex509 => ?_)
          have ex509 : x509.toInt = r492.toInt := by rw [ex509]; exact wk_i2l _
          have bx509 := wk_i32 r492
          refine tk_last hC hK hw hT kM_at11 (by decide) rfl (by decide) (by decide) dX12_words_205 (fun H locs w510 hw hT k512 => ?_)
          have hF := hF.put kM_at11 (inE_of (a := 0) (b := 10) (by decide) (by decide) (by decide)) k512
          have c513 := k512.gi (Or.inl (tk_ne kM_at12 kM_at11 (by decide))) c487
          have c514 := k512.gi (Or.inl (tk_ne kM_at0 kM_at11 (by decide))) c488
          have c515 := k512.gi (Or.inl (tk_ne kM_at12 kM_at11 (by decide))) c489
          have c516 := k512.gi (Or.inl (tk_ne kM_at14 kM_at11 (by decide))) c490
          have c517 := k512.gi (Or.inl (tk_ne kM_at12 kM_at11 (by decide))) c491
          have c518 := k512.gi (Or.inl (tk_ne kM_at12 kM_at11 (by decide))) c498
          exact tk_vret hC hr hlocks hK ⟨hT, hF, ⟨⟨x30, c514, (show 0 ≤ x30.toInt by omega), (show x30.toInt ≤ 1 by omega)⟩, ⟨r492, c518, (show (-1) ≤ r492.toInt by omega), (show r492.toInt ≤ 9 by omega)⟩⟩⟩ hw dX12_words_206
        · have c500 : r492.toInt < (0 : Int) := wk_leF c500
          refine lv_ldc2 (v := 99) hx hb hC.2.2.2.1 (hC.2.2.2.2 _ (List.mem_of_getElem? (i := 5) rfl)) dX12_words_191 ?_
          refine lv_goto (tgt := 205) hx hb dX12_words_194 (by decide) ?_
          refine tk_last hC hK hw hT kM_at11 (by decide) rfl (by decide) (by decide) dX12_words_205 (fun H locs w519 hw hT k521 => ?_)
          have hF := hF.put kM_at11 (inE_of (a := 0) (b := 10) (by decide) (by decide) (by decide)) k521
          have c522 := k521.gi (Or.inl (tk_ne kM_at12 kM_at11 (by decide))) c487
          have c523 := k521.gi (Or.inl (tk_ne kM_at0 kM_at11 (by decide))) c488
          have c524 := k521.gi (Or.inl (tk_ne kM_at12 kM_at11 (by decide))) c489
          have c525 := k521.gi (Or.inl (tk_ne kM_at14 kM_at11 (by decide))) c490
          have c526 := k521.gi (Or.inl (tk_ne kM_at12 kM_at11 (by decide))) c491
          have c527 := k521.gi (Or.inl (tk_ne kM_at12 kM_at11 (by decide))) c498
          exact tk_vret hC hr hlocks hK ⟨hT, hF, ⟨⟨x30, c523, (show 0 ≤ x30.toInt by omega), (show x30.toInt ≤ 1 by omega)⟩, ⟨r492, c527, (show (-1) ≤ r492.toInt by omega), (show r492.toInt ≤ 9 by omega)⟩⟩⟩ hw dX12_words_206
      · have c457 : x455.toInt = (100000000 : Int) := wk_eq.mp c457
        refine lv_lconst (v := 0) hx hb dX12_words_123 (by decide) ?_
        refine lv_goto (tgt := 134) hx hb dX12_words_124 (by decide) ?_
        refine tk_last hC hK hw hT kM_at11 (by decide) rfl (by decide) (by decide) dX12_words_134 (fun H locs w528 hw hT k530 => ?_)
        have hF := hF.put kM_at11 (inE_of (a := 0) (b := 10) (by decide) (by decide) (by decide)) k530
        have c531 := k530.gi (Or.inl (tk_ne kM_at12 kM_at11 (by decide))) c452
        have c532 := k530.gi (Or.inl (tk_ne kM_at0 kM_at11 (by decide))) c453
        have c533 := k530.gi (Or.inl (tk_ne kM_at12 kM_at11 (by decide))) c454
        have c534 := k530.gi (Or.inl (tk_ne kM_at14 kM_at11 (by decide))) c456
        refine lv_aload_n hx hb dX12_words_135 rfl (lv_at hl 2 rfl) ?_
        refine tk_getA hC hK hw hT hinX12 kM_at0 (by decide) rfl 25 (by decide) (List.mem_of_getElem? (i := 1) rfl) rfl rfl dX12_words_136 ?_
        refine lv_bipush (v := 7) hx hb dX12_words_139 (by decide) ?_
        refine lv_aload_n hx hb dX12_words_141 rfl (lv_at hl 2 rfl) ?_
        refine tk_geti hC hK hw hT hinX12 kM_at0 (by decide) rfl 30 (by decide) (List.mem_of_getElem? (i := 2) rfl) rfl rfl dX12_words_142 (fun x535 c536 rx535 tx535 => ?_)
        refine wk_top x30 (c536.symm.trans c532) ?_
        refine lv_if_eq (tgt := 152) hx hb dX12_words_145 (by decide) (fun c => absurd c (fun h => absurd (show x30.toInt = (0 : Int) from wk_eq.mp h) (by omega))) (fun _ => ?_)
        refine lv_lconst (v := 0) hx hb dX12_words_148 (by decide) ?_
        refine lv_goto (tgt := 159) hx hb dX12_words_149 (by decide) ?_
        refine tk_last hC hK hw hT kM_at11 (by decide) rfl (by decide) (by decide) dX12_words_159 (fun H locs w537 hw hT k539 => ?_)
        have hF := hF.put kM_at11 (inE_of (a := 0) (b := 10) (by decide) (by decide) (by decide)) k539
        have c540 := k539.gi (Or.inl (tk_ne kM_at12 kM_at11 (by decide))) c531
        have c541 := k539.gi (Or.inl (tk_ne kM_at0 kM_at11 (by decide))) c532
        have c542 := k539.gi (Or.inl (tk_ne kM_at12 kM_at11 (by decide))) c533
        have c543 := k539.gi (Or.inl (tk_ne kM_at14 kM_at11 (by decide))) c534
        refine lv_aload_n hx hb dX12_words_160 rfl (lv_at hl 2 rfl) ?_
        refine tk_getA hC hK hw hT hinX12 kM_at0 (by decide) rfl 25 (by decide) (List.mem_of_getElem? (i := 1) rfl) rfl rfl dX12_words_161 ?_
        refine lv_bipush (v := 8) hx hb dX12_words_164 (by decide) ?_
        refine lv_aload_n hx hb dX12_words_166 rfl (lv_at hl 2 rfl) ?_
        refine lv_iload_n hx hb dX12_words_167 rfl (lv_at hl 3 rfl) ?_
        refine lv_bipush (v := 6) hx hb dX12_words_168 (by decide) ?_
        refine tk_Vi hC hK hw hT hA hE hSR kM_at0 (by decide) rfl (k_X12_walkerOf_17 l adK adV dC dI cy ad B (by omega) (by omega) qr s1    w537 H.size hT ) (cwV 2 hC.2.2.2.2 gX12_words_X12_walkerOf rfl rfl rfl (by decide +kernel) ⟨Nat.le_of_ble_eq_true rfl, Nat.le_of_ble_eq_true rfl⟩) rfl hl.1 rfl (Nat.le_of_ble_eq_true rfl) dX12_words_170 (fun r544 w546 H locs hp545 hw => ?_)
        obtain ⟨rfl, hg549⟩ := hp545
        have c548 := hg549
        refine lv_i2l hx hb dX12_words_173 rfl ?_
        refine lv_topl (fun x550 ex550 => ?_)
        have ex550 : x550.toInt = r544.toInt := by rw [ex550]; exact wk_i2l _
        have bx550 := wk_i32 r544
        refine tk_last hC hK hw hT kM_at11 (by decide) rfl (by decide) (by decide) dX12_words_174 (fun H locs w551 hw hT k553 => ?_)
        have hF := hF.put kM_at11 (inE_of (a := 0) (b := 10) (by decide) (by decide) (by decide)) k553
        have c554 := k553.gi (Or.inl (tk_ne kM_at12 kM_at11 (by decide))) c540
        have c555 := k553.gi (Or.inl (tk_ne kM_at0 kM_at11 (by decide))) c541
        have c556 := k553.gi (Or.inl (tk_ne kM_at12 kM_at11 (by decide))) c542
        have c557 := k553.gi (Or.inl (tk_ne kM_at14 kM_at11 (by decide))) c543
        have c558 := k553.gi (Or.inl (tk_ne kM_at12 kM_at11 (by decide))) c548
        refine lv_aload_n hx hb dX12_words_175 rfl (lv_at hl 2 rfl) ?_
        refine tk_getA hC hK hw hT hinX12 kM_at0 (by decide) rfl 25 (by decide) (List.mem_of_getElem? (i := 1) rfl) rfl rfl dX12_words_176 ?_
        refine lv_bipush (v := 9) hx hb dX12_words_179 (by decide) ?_
        refine lv_aload_n hx hb dX12_words_181 rfl (lv_at hl 2 rfl) ?_
        refine lv_iload_n hx hb dX12_words_182 rfl (lv_at hl 3 rfl) ?_
        refine lv_bipush (v := 7) hx hb dX12_words_183 (by decide) ?_
        refine tk_Vi hC hK hw hT hA hE hSR kM_at0 (by decide) rfl (k_X12_walkerOf_18 l adK adV dC dI cy ad B (by omega) (by omega) qr s1    w551 H.size hT ) (cwV 2 hC.2.2.2.2 gX12_words_X12_walkerOf rfl rfl rfl (by decide +kernel) ⟨Nat.le_of_ble_eq_true rfl, Nat.le_of_ble_eq_true rfl⟩) rfl hl.1 rfl (Nat.le_of_ble_eq_true rfl) dX12_words_185 (fun r559 w561 H locs hp560 hw => ?_)
        obtain ⟨rfl, hg566⟩ := hp560
        obtain ⟨g563, g564, c565⟩ := hg566
        refine lv_if_ge (tgt := 197) hx hb dX12_words_188 (by decide) (fun c567 => ?_) (fun c567 => ?_)
        · have c567 : (0 : Int) ≤ r559.toInt := wk_le.mp c567
          refine lv_aload_n hx hb dX12_words_197 rfl (lv_at hl 2 rfl) ?_
          refine lv_iload_n hx hb dX12_words_198 rfl (lv_at hl 3 rfl) ?_
          refine lv_bipush (v := 7) hx hb dX12_words_199 (by decide) ?_
          refine tk_Vi hC hK hw hT hA hE hSR kM_at0 (by decide) rfl (k_X12_walkerOf_18 l adK adV dC dI cy ad B (by omega) (by omega) qr s1    w551 H.size hT ) (cwV 2 hC.2.2.2.2 gX12_words_X12_walkerOf rfl rfl rfl (by decide +kernel) ⟨Nat.le_of_ble_eq_true rfl, Nat.le_of_ble_eq_true rfl⟩) rfl hl.1 rfl (Nat.le_of_ble_eq_true rfl) dX12_words_201 (fun r568 w570 H locs hp569 hw => ?_)
          obtain ⟨rfl, hg575⟩ := hp569
          obtain ⟨g572, g573, c574⟩ := hg575
          obtain rfl : r559 = r568 := c565.symm.trans c574
          refine lv_i2l hx hb dX12_words_204 rfl ?_
          refine lv_topl (fun x576 ex576 => ?_)
          have ex576 : x576.toInt = r559.toInt := by rw [ex576]; exact wk_i2l _
          have bx576 := wk_i32 r559
          refine tk_last hC hK hw hT kM_at11 (by decide) rfl (by decide) (by decide) dX12_words_205 (fun H locs w577 hw hT k579 => ?_)
          have hF := hF.put kM_at11 (inE_of (a := 0) (b := 10) (by decide) (by decide) (by decide)) k579
          have c580 := k579.gi (Or.inl (tk_ne kM_at12 kM_at11 (by decide))) c554
          have c581 := k579.gi (Or.inl (tk_ne kM_at0 kM_at11 (by decide))) c555
          have c582 := k579.gi (Or.inl (tk_ne kM_at12 kM_at11 (by decide))) c556
          have c583 := k579.gi (Or.inl (tk_ne kM_at14 kM_at11 (by decide))) c557
          have c584 := k579.gi (Or.inl (tk_ne kM_at12 kM_at11 (by decide))) c558
          have c585 := k579.gi (Or.inl (tk_ne kM_at12 kM_at11 (by decide))) c565
          exact tk_vret hC hr hlocks hK ⟨hT, hF, ⟨⟨x30, c581, (show 0 ≤ x30.toInt by omega), (show x30.toInt ≤ 1 by omega)⟩, ⟨r559, c585, (show (-1) ≤ r559.toInt by omega), (show r559.toInt ≤ 9 by omega)⟩⟩⟩ hw dX12_words_206
        · have c567 : r559.toInt < (0 : Int) := wk_leF c567
          refine lv_ldc2 (v := 99) hx hb hC.2.2.2.1 (hC.2.2.2.2 _ (List.mem_of_getElem? (i := 5) rfl)) dX12_words_191 ?_
          refine lv_goto (tgt := 205) hx hb dX12_words_194 (by decide) ?_
          refine tk_last hC hK hw hT kM_at11 (by decide) rfl (by decide) (by decide) dX12_words_205 (fun H locs w586 hw hT k588 => ?_)
          have hF := hF.put kM_at11 (inE_of (a := 0) (b := 10) (by decide) (by decide) (by decide)) k588
          have c589 := k588.gi (Or.inl (tk_ne kM_at12 kM_at11 (by decide))) c554
          have c590 := k588.gi (Or.inl (tk_ne kM_at0 kM_at11 (by decide))) c555
          have c591 := k588.gi (Or.inl (tk_ne kM_at12 kM_at11 (by decide))) c556
          have c592 := k588.gi (Or.inl (tk_ne kM_at14 kM_at11 (by decide))) c557
          have c593 := k588.gi (Or.inl (tk_ne kM_at12 kM_at11 (by decide))) c558
          have c594 := k588.gi (Or.inl (tk_ne kM_at12 kM_at11 (by decide))) c565
          exact tk_vret hC hr hlocks hK ⟨hT, hF, ⟨⟨x30, c590, (show 0 ≤ x30.toInt by omega), (show x30.toInt ≤ 1 by omega)⟩, ⟨r559, c594, (show (-1) ≤ r559.toInt by omega), (show r559.toInt ≤ 9 by omega)⟩⟩⟩ hw dX12_words_206
    · refine lv_if_eq (tgt := 103) hx hb dX12_words_96 (by decide) (fun c => absurd c (by decide)) (fun _ => ?_)
      refine lv_lconst (v := 0) hx hb dX12_words_99 (by decide) ?_
      refine lv_goto (tgt := 104) hx hb dX12_words_100 (by decide) ?_
      refine tk_last hC hK hw hT kM_at11 (by decide) rfl (by decide) (by decide) dX12_words_104 (fun H locs w595 hw hT k597 => ?_)
      have hF := hF.put kM_at11 (inE_of (a := 0) (b := 10) (by decide) (by decide) (by decide)) k597
      have c598 := k597.gi (Or.inl (tk_ne kM_at12 kM_at11 (by decide))) c439
      have c599 := k597.gi (Or.inl (tk_ne kM_at0 kM_at11 (by decide))) c440
      have c600 := k597.gi (Or.inl (tk_ne kM_at12 kM_at11 (by decide))) c441
      have c601 := k597.gi (Or.inl (tk_ne kM_at0 kM_at11 (by decide))) c447
      refine lv_aload_n hx hb dX12_words_105 rfl (lv_at hl 2 rfl) ?_
      refine tk_getA hC hK hw hT hinX12 kM_at0 (by decide) rfl 25 (by decide) (List.mem_of_getElem? (i := 1) rfl) rfl rfl dX12_words_106 ?_
      refine lv_bipush (v := 6) hx hb dX12_words_109 (by decide) ?_
      refine lv_aload_n hx hb dX12_words_111 rfl (lv_at hl 2 rfl) ?_
      refine tk_getA hC hK hw hT hinX12 kM_at0 (by decide) rfl 29 (by decide) (List.mem_of_getElem? (i := 3) rfl) rfl rfl dX12_words_112 ?_
      refine lv_iload_n hx hb dX12_words_115 rfl (lv_at hl 0 rfl) ?_
      refine tk_iald hC hK hw hT kM_at14 rfl rfl (show 0 ≤ r9.toInt by omega) (show r9.toInt < 10 by omega) dX12_words_116 (fun x602 c603 rx602 tx602 => ?_)
      have c603 : gi w595 14 (r9.toInt).toNat = x602 := (congrArg (gi w595 14) (congrArg Int.toNat (show r9.toInt = r9.toInt by omega))).trans c603
      refine lv_ldcw (v := 100000000) hx hb hC.2.2.2.1 (hC.2.2.2.2 _ (List.mem_of_getElem? (i := 4) rfl)) dX12_words_117 ?_
      refine lv_icmp_ne (tgt := 127) hx hb dX12_words_120 (by decide) (fun c604 => ?_) (fun c604 => ?_)
      · have c604 : ¬ x602.toInt = (100000000 : Int) := wk_eqF c604
        refine lv_aload_n hx hb dX12_words_127 rfl (lv_at hl 2 rfl) ?_
        refine tk_getA hC hK hw hT hinX12 kM_at0 (by decide) rfl 29 (by decide) (List.mem_of_getElem? (i := 3) rfl) rfl rfl dX12_words_128 ?_
        refine lv_iload_n hx hb dX12_words_131 rfl (lv_at hl 0 rfl) ?_
        refine tk_iald hC hK hw hT kM_at14 rfl rfl (show 0 ≤ r9.toInt by omega) (show r9.toInt < 10 by omega) dX12_words_132 (fun x605 c606 rx605 tx605 => ?_)
        have c606 : gi w595 14 (r9.toInt).toNat = x605 := (congrArg (gi w595 14) (congrArg Int.toNat (show r9.toInt = r9.toInt by omega))).trans c606
        refine wk_top x602 (c606.symm.trans c603) ?_
        refine lv_i2l hx hb dX12_words_133 rfl ?_
        refine lv_topl (fun x607 ex607 => ?_)
        have ex607 : x607.toInt = x602.toInt := by rw [ex607]; exact wk_i2l _
        have bx607 := wk_i32 x602
        refine tk_last hC hK hw hT kM_at11 (by decide) rfl (by decide) (by decide) dX12_words_134 (fun H locs w608 hw hT k610 => ?_)
        have hF := hF.put kM_at11 (inE_of (a := 0) (b := 10) (by decide) (by decide) (by decide)) k610
        have c611 := k610.gi (Or.inl (tk_ne kM_at12 kM_at11 (by decide))) c598
        have c612 := k610.gi (Or.inl (tk_ne kM_at0 kM_at11 (by decide))) c599
        have c613 := k610.gi (Or.inl (tk_ne kM_at12 kM_at11 (by decide))) c600
        have c614 := k610.gi (Or.inl (tk_ne kM_at0 kM_at11 (by decide))) c601
        have c615 := k610.gi (Or.inl (tk_ne kM_at14 kM_at11 (by decide))) c603
        refine lv_aload_n hx hb dX12_words_135 rfl (lv_at hl 2 rfl) ?_
        refine tk_getA hC hK hw hT hinX12 kM_at0 (by decide) rfl 25 (by decide) (List.mem_of_getElem? (i := 1) rfl) rfl rfl dX12_words_136 ?_
        refine lv_bipush (v := 7) hx hb dX12_words_139 (by decide) ?_
        refine lv_aload_n hx hb dX12_words_141 rfl (lv_at hl 2 rfl) ?_
        refine tk_geti hC hK hw hT hinX12 kM_at0 (by decide) rfl 30 (by decide) (List.mem_of_getElem? (i := 2) rfl) rfl rfl dX12_words_142 (fun x616 c617 rx616 tx616 => ?_)
        refine wk_top x30 (c617.symm.trans c612) ?_
        refine lv_if_eq (tgt := 152) hx hb dX12_words_145 (by decide) (fun c => absurd c (fun h => absurd (show x30.toInt = (0 : Int) from wk_eq.mp h) (by omega))) (fun _ => ?_)
        refine lv_lconst (v := 0) hx hb dX12_words_148 (by decide) ?_
        refine lv_goto (tgt := 159) hx hb dX12_words_149 (by decide) ?_
        refine tk_last hC hK hw hT kM_at11 (by decide) rfl (by decide) (by decide) dX12_words_159 (fun H locs w618 hw hT k620 => ?_)
        have hF := hF.put kM_at11 (inE_of (a := 0) (b := 10) (by decide) (by decide) (by decide)) k620
        have c621 := k620.gi (Or.inl (tk_ne kM_at12 kM_at11 (by decide))) c611
        have c622 := k620.gi (Or.inl (tk_ne kM_at0 kM_at11 (by decide))) c612
        have c623 := k620.gi (Or.inl (tk_ne kM_at12 kM_at11 (by decide))) c613
        have c624 := k620.gi (Or.inl (tk_ne kM_at0 kM_at11 (by decide))) c614
        have c625 := k620.gi (Or.inl (tk_ne kM_at14 kM_at11 (by decide))) c615
        refine lv_aload_n hx hb dX12_words_160 rfl (lv_at hl 2 rfl) ?_
        refine tk_getA hC hK hw hT hinX12 kM_at0 (by decide) rfl 25 (by decide) (List.mem_of_getElem? (i := 1) rfl) rfl rfl dX12_words_161 ?_
        refine lv_bipush (v := 8) hx hb dX12_words_164 (by decide) ?_
        refine lv_aload_n hx hb dX12_words_166 rfl (lv_at hl 2 rfl) ?_
        refine lv_iload_n hx hb dX12_words_167 rfl (lv_at hl 3 rfl) ?_
        refine lv_bipush (v := 6) hx hb dX12_words_168 (by decide) ?_
        refine tk_Vi hC hK hw hT hA hE hSR kM_at0 (by decide) rfl (k_X12_walkerOf_17 l adK adV dC dI cy ad B (by omega) (by omega) qr s1    w618 H.size hT ) (cwV 2 hC.2.2.2.2 gX12_words_X12_walkerOf rfl rfl rfl (by decide +kernel) ⟨Nat.le_of_ble_eq_true rfl, Nat.le_of_ble_eq_true rfl⟩) rfl hl.1 rfl (Nat.le_of_ble_eq_true rfl) dX12_words_170 (fun r626 w628 H locs hp627 hw => ?_)
        obtain ⟨rfl, hg631⟩ := hp627
        have c630 := hg631
        refine lv_i2l hx hb dX12_words_173 rfl ?_
        refine lv_topl (fun x632 ex632 => ?_)
        have ex632 : x632.toInt = r626.toInt := by rw [ex632]; exact wk_i2l _
        have bx632 := wk_i32 r626
        refine tk_last hC hK hw hT kM_at11 (by decide) rfl (by decide) (by decide) dX12_words_174 (fun H locs w633 hw hT k635 => ?_)
        have hF := hF.put kM_at11 (inE_of (a := 0) (b := 10) (by decide) (by decide) (by decide)) k635
        have c636 := k635.gi (Or.inl (tk_ne kM_at12 kM_at11 (by decide))) c621
        have c637 := k635.gi (Or.inl (tk_ne kM_at0 kM_at11 (by decide))) c622
        have c638 := k635.gi (Or.inl (tk_ne kM_at12 kM_at11 (by decide))) c623
        have c639 := k635.gi (Or.inl (tk_ne kM_at0 kM_at11 (by decide))) c624
        have c640 := k635.gi (Or.inl (tk_ne kM_at14 kM_at11 (by decide))) c625
        have c641 := k635.gi (Or.inl (tk_ne kM_at12 kM_at11 (by decide))) c630
        refine lv_aload_n hx hb dX12_words_175 rfl (lv_at hl 2 rfl) ?_
        refine tk_getA hC hK hw hT hinX12 kM_at0 (by decide) rfl 25 (by decide) (List.mem_of_getElem? (i := 1) rfl) rfl rfl dX12_words_176 ?_
        refine lv_bipush (v := 9) hx hb dX12_words_179 (by decide) ?_
        refine lv_aload_n hx hb dX12_words_181 rfl (lv_at hl 2 rfl) ?_
        refine lv_iload_n hx hb dX12_words_182 rfl (lv_at hl 3 rfl) ?_
        refine lv_bipush (v := 7) hx hb dX12_words_183 (by decide) ?_
        refine tk_Vi hC hK hw hT hA hE hSR kM_at0 (by decide) rfl (k_X12_walkerOf_18 l adK adV dC dI cy ad B (by omega) (by omega) qr s1    w633 H.size hT ) (cwV 2 hC.2.2.2.2 gX12_words_X12_walkerOf rfl rfl rfl (by decide +kernel) ⟨Nat.le_of_ble_eq_true rfl, Nat.le_of_ble_eq_true rfl⟩) rfl hl.1 rfl (Nat.le_of_ble_eq_true rfl) dX12_words_185 (fun r642 w644 H locs hp643 hw => ?_)
        obtain ⟨rfl, hg649⟩ := hp643
        obtain ⟨g646, g647, c648⟩ := hg649
        refine lv_if_ge (tgt := 197) hx hb dX12_words_188 (by decide) (fun c650 => ?_) (fun c650 => ?_)
        · have c650 : (0 : Int) ≤ r642.toInt := wk_le.mp c650
          refine lv_aload_n hx hb dX12_words_197 rfl (lv_at hl 2 rfl) ?_
          refine lv_iload_n hx hb dX12_words_198 rfl (lv_at hl 3 rfl) ?_
          refine lv_bipush (v := 7) hx hb dX12_words_199 (by decide) ?_
          refine tk_Vi hC hK hw hT hA hE hSR kM_at0 (by decide) rfl (k_X12_walkerOf_18 l adK adV dC dI cy ad B (by omega) (by omega) qr s1    w633 H.size hT ) (cwV 2 hC.2.2.2.2 gX12_words_X12_walkerOf rfl rfl rfl (by decide +kernel) ⟨Nat.le_of_ble_eq_true rfl, Nat.le_of_ble_eq_true rfl⟩) rfl hl.1 rfl (Nat.le_of_ble_eq_true rfl) dX12_words_201 (fun r651 w653 H locs hp652 hw => ?_)
          obtain ⟨rfl, hg658⟩ := hp652
          obtain ⟨g655, g656, c657⟩ := hg658
          obtain rfl : r642 = r651 := c648.symm.trans c657
          refine lv_i2l hx hb dX12_words_204 rfl ?_
          refine lv_topl (fun x659 ex659 => ?_)
          have ex659 : x659.toInt = r642.toInt := by rw [ex659]; exact wk_i2l _
          have bx659 := wk_i32 r642
          refine tk_last hC hK hw hT kM_at11 (by decide) rfl (by decide) (by decide) dX12_words_205 (fun H locs w660 hw hT k662 => ?_)
          have hF := hF.put kM_at11 (inE_of (a := 0) (b := 10) (by decide) (by decide) (by decide)) k662
          have c663 := k662.gi (Or.inl (tk_ne kM_at12 kM_at11 (by decide))) c636
          have c664 := k662.gi (Or.inl (tk_ne kM_at0 kM_at11 (by decide))) c637
          have c665 := k662.gi (Or.inl (tk_ne kM_at12 kM_at11 (by decide))) c638
          have c666 := k662.gi (Or.inl (tk_ne kM_at0 kM_at11 (by decide))) c639
          have c667 := k662.gi (Or.inl (tk_ne kM_at14 kM_at11 (by decide))) c640
          have c668 := k662.gi (Or.inl (tk_ne kM_at12 kM_at11 (by decide))) c641
          have c669 := k662.gi (Or.inl (tk_ne kM_at12 kM_at11 (by decide))) c648
          exact tk_vret hC hr hlocks hK ⟨hT, hF, ⟨⟨x30, c664, (show 0 ≤ x30.toInt by omega), (show x30.toInt ≤ 1 by omega)⟩, ⟨r642, c669, (show (-1) ≤ r642.toInt by omega), (show r642.toInt ≤ 9 by omega)⟩⟩⟩ hw dX12_words_206
        · have c650 : r642.toInt < (0 : Int) := wk_leF c650
          refine lv_ldc2 (v := 99) hx hb hC.2.2.2.1 (hC.2.2.2.2 _ (List.mem_of_getElem? (i := 5) rfl)) dX12_words_191 ?_
          refine lv_goto (tgt := 205) hx hb dX12_words_194 (by decide) ?_
          refine tk_last hC hK hw hT kM_at11 (by decide) rfl (by decide) (by decide) dX12_words_205 (fun H locs w670 hw hT k672 => ?_)
          have hF := hF.put kM_at11 (inE_of (a := 0) (b := 10) (by decide) (by decide) (by decide)) k672
          have c673 := k672.gi (Or.inl (tk_ne kM_at12 kM_at11 (by decide))) c636
          have c674 := k672.gi (Or.inl (tk_ne kM_at0 kM_at11 (by decide))) c637
          have c675 := k672.gi (Or.inl (tk_ne kM_at12 kM_at11 (by decide))) c638
          have c676 := k672.gi (Or.inl (tk_ne kM_at0 kM_at11 (by decide))) c639
          have c677 := k672.gi (Or.inl (tk_ne kM_at14 kM_at11 (by decide))) c640
          have c678 := k672.gi (Or.inl (tk_ne kM_at12 kM_at11 (by decide))) c641
          have c679 := k672.gi (Or.inl (tk_ne kM_at12 kM_at11 (by decide))) c648
          exact tk_vret hC hr hlocks hK ⟨hT, hF, ⟨⟨x30, c674, (show 0 ≤ x30.toInt by omega), (show x30.toInt ≤ 1 by omega)⟩, ⟨r642, c679, (show (-1) ≤ r642.toInt by omega), (show r642.toInt ≤ 9 by omega)⟩⟩⟩ hw dX12_words_206
      · have c604 : x602.toInt = (100000000 : Int) := wk_eq.mp c604
        refine lv_lconst (v := 0) hx hb dX12_words_123 (by decide) ?_
        refine lv_goto (tgt := 134) hx hb dX12_words_124 (by decide) ?_
        refine tk_last hC hK hw hT kM_at11 (by decide) rfl (by decide) (by decide) dX12_words_134 (fun H locs w680 hw hT k682 => ?_)
        have hF := hF.put kM_at11 (inE_of (a := 0) (b := 10) (by decide) (by decide) (by decide)) k682
        have c683 := k682.gi (Or.inl (tk_ne kM_at12 kM_at11 (by decide))) c598
        have c684 := k682.gi (Or.inl (tk_ne kM_at0 kM_at11 (by decide))) c599
        have c685 := k682.gi (Or.inl (tk_ne kM_at12 kM_at11 (by decide))) c600
        have c686 := k682.gi (Or.inl (tk_ne kM_at0 kM_at11 (by decide))) c601
        have c687 := k682.gi (Or.inl (tk_ne kM_at14 kM_at11 (by decide))) c603
        refine lv_aload_n hx hb dX12_words_135 rfl (lv_at hl 2 rfl) ?_
        refine tk_getA hC hK hw hT hinX12 kM_at0 (by decide) rfl 25 (by decide) (List.mem_of_getElem? (i := 1) rfl) rfl rfl dX12_words_136 ?_
        refine lv_bipush (v := 7) hx hb dX12_words_139 (by decide) ?_
        refine lv_aload_n hx hb dX12_words_141 rfl (lv_at hl 2 rfl) ?_
        refine tk_geti hC hK hw hT hinX12 kM_at0 (by decide) rfl 30 (by decide) (List.mem_of_getElem? (i := 2) rfl) rfl rfl dX12_words_142 (fun x688 c689 rx688 tx688 => ?_)
        refine wk_top x30 (c689.symm.trans c684) ?_
        refine lv_if_eq (tgt := 152) hx hb dX12_words_145 (by decide) (fun c => absurd c (fun h => absurd (show x30.toInt = (0 : Int) from wk_eq.mp h) (by omega))) (fun _ => ?_)
        refine lv_lconst (v := 0) hx hb dX12_words_148 (by decide) ?_
        refine lv_goto (tgt := 159) hx hb dX12_words_149 (by decide) ?_
        refine tk_last hC hK hw hT kM_at11 (by decide) rfl (by decide) (by decide) dX12_words_159 (fun H locs w690 hw hT k692 => ?_)
        have hF := hF.put kM_at11 (inE_of (a := 0) (b := 10) (by decide) (by decide) (by decide)) k692
        have c693 := k692.gi (Or.inl (tk_ne kM_at12 kM_at11 (by decide))) c683
        have c694 := k692.gi (Or.inl (tk_ne kM_at0 kM_at11 (by decide))) c684
        have c695 := k692.gi (Or.inl (tk_ne kM_at12 kM_at11 (by decide))) c685
        have c696 := k692.gi (Or.inl (tk_ne kM_at0 kM_at11 (by decide))) c686
        have c697 := k692.gi (Or.inl (tk_ne kM_at14 kM_at11 (by decide))) c687
        refine lv_aload_n hx hb dX12_words_160 rfl (lv_at hl 2 rfl) ?_
        refine tk_getA hC hK hw hT hinX12 kM_at0 (by decide) rfl 25 (by decide) (List.mem_of_getElem? (i := 1) rfl) rfl rfl dX12_words_161 ?_
        refine lv_bipush (v := 8) hx hb dX12_words_164 (by decide) ?_
        refine lv_aload_n hx hb dX12_words_166 rfl (lv_at hl 2 rfl) ?_
        refine lv_iload_n hx hb dX12_words_167 rfl (lv_at hl 3 rfl) ?_
        refine lv_bipush (v := 6) hx hb dX12_words_168 (by decide) ?_
        refine tk_Vi hC hK hw hT hA hE hSR kM_at0 (by decide) rfl (k_X12_walkerOf_17 l adK adV dC dI cy ad B (by omega) (by omega) qr s1    w690 H.size hT ) (cwV 2 hC.2.2.2.2 gX12_words_X12_walkerOf rfl rfl rfl (by decide +kernel) ⟨Nat.le_of_ble_eq_true rfl, Nat.le_of_ble_eq_true rfl⟩) rfl hl.1 rfl (Nat.le_of_ble_eq_true rfl) dX12_words_170 (fun r698 w700 H locs hp699 hw => ?_)
        obtain ⟨rfl, hg703⟩ := hp699
        have c702 := hg703
        refine lv_i2l hx hb dX12_words_173 rfl ?_
        refine lv_topl (fun x704 ex704 => ?_)
        have ex704 : x704.toInt = r698.toInt := by rw [ex704]; exact wk_i2l _
        have bx704 := wk_i32 r698
        refine tk_last hC hK hw hT kM_at11 (by decide) rfl (by decide) (by decide) dX12_words_174 (fun H locs w705 hw hT k707 => ?_)
        have hF := hF.put kM_at11 (inE_of (a := 0) (b := 10) (by decide) (by decide) (by decide)) k707
        have c708 := k707.gi (Or.inl (tk_ne kM_at12 kM_at11 (by decide))) c693
        have c709 := k707.gi (Or.inl (tk_ne kM_at0 kM_at11 (by decide))) c694
        have c710 := k707.gi (Or.inl (tk_ne kM_at12 kM_at11 (by decide))) c695
        have c711 := k707.gi (Or.inl (tk_ne kM_at0 kM_at11 (by decide))) c696
        have c712 := k707.gi (Or.inl (tk_ne kM_at14 kM_at11 (by decide))) c697
        have c713 := k707.gi (Or.inl (tk_ne kM_at12 kM_at11 (by decide))) c702
        refine lv_aload_n hx hb dX12_words_175 rfl (lv_at hl 2 rfl) ?_
        refine tk_getA hC hK hw hT hinX12 kM_at0 (by decide) rfl 25 (by decide) (List.mem_of_getElem? (i := 1) rfl) rfl rfl dX12_words_176 ?_
        refine lv_bipush (v := 9) hx hb dX12_words_179 (by decide) ?_
        refine lv_aload_n hx hb dX12_words_181 rfl (lv_at hl 2 rfl) ?_
        refine lv_iload_n hx hb dX12_words_182 rfl (lv_at hl 3 rfl) ?_
        refine lv_bipush (v := 7) hx hb dX12_words_183 (by decide) ?_
        refine tk_Vi hC hK hw hT hA hE hSR kM_at0 (by decide) rfl (k_X12_walkerOf_18 l adK adV dC dI cy ad B (by omega) (by omega) qr s1    w705 H.size hT ) (cwV 2 hC.2.2.2.2 gX12_words_X12_walkerOf rfl rfl rfl (by decide +kernel) ⟨Nat.le_of_ble_eq_true rfl, Nat.le_of_ble_eq_true rfl⟩) rfl hl.1 rfl (Nat.le_of_ble_eq_true rfl) dX12_words_185 (fun r714 w716 H locs hp715 hw => ?_)
        obtain ⟨rfl, hg721⟩ := hp715
        obtain ⟨g718, g719, c720⟩ := hg721
        refine lv_if_ge (tgt := 197) hx hb dX12_words_188 (by decide) (fun c722 => ?_) (fun c722 => ?_)
        · have c722 : (0 : Int) ≤ r714.toInt := wk_le.mp c722
          refine lv_aload_n hx hb dX12_words_197 rfl (lv_at hl 2 rfl) ?_
          refine lv_iload_n hx hb dX12_words_198 rfl (lv_at hl 3 rfl) ?_
          refine lv_bipush (v := 7) hx hb dX12_words_199 (by decide) ?_
          refine tk_Vi hC hK hw hT hA hE hSR kM_at0 (by decide) rfl (k_X12_walkerOf_18 l adK adV dC dI cy ad B (by omega) (by omega) qr s1    w705 H.size hT ) (cwV 2 hC.2.2.2.2 gX12_words_X12_walkerOf rfl rfl rfl (by decide +kernel) ⟨Nat.le_of_ble_eq_true rfl, Nat.le_of_ble_eq_true rfl⟩) rfl hl.1 rfl (Nat.le_of_ble_eq_true rfl) dX12_words_201 (fun r723 w725 H locs hp724 hw => ?_)
          obtain ⟨rfl, hg730⟩ := hp724
          obtain ⟨g727, g728, c729⟩ := hg730
          obtain rfl : r714 = r723 := c720.symm.trans c729
          refine lv_i2l hx hb dX12_words_204 rfl ?_
          refine lv_topl (fun x731 ex731 => ?_)
          have ex731 : x731.toInt = r714.toInt := by rw [ex731]; exact wk_i2l _
          have bx731 := wk_i32 r714
          refine tk_last hC hK hw hT kM_at11 (by decide) rfl (by decide) (by decide) dX12_words_205 (fun H locs w732 hw hT k734 => ?_)
          have hF := hF.put kM_at11 (inE_of (a := 0) (b := 10) (by decide) (by decide) (by decide)) k734
          have c735 := k734.gi (Or.inl (tk_ne kM_at12 kM_at11 (by decide))) c708
          have c736 := k734.gi (Or.inl (tk_ne kM_at0 kM_at11 (by decide))) c709
          have c737 := k734.gi (Or.inl (tk_ne kM_at12 kM_at11 (by decide))) c710
          have c738 := k734.gi (Or.inl (tk_ne kM_at0 kM_at11 (by decide))) c711
          have c739 := k734.gi (Or.inl (tk_ne kM_at14 kM_at11 (by decide))) c712
          have c740 := k734.gi (Or.inl (tk_ne kM_at12 kM_at11 (by decide))) c713
          have c741 := k734.gi (Or.inl (tk_ne kM_at12 kM_at11 (by decide))) c720
          exact tk_vret hC hr hlocks hK ⟨hT, hF, ⟨⟨x30, c736, (show 0 ≤ x30.toInt by omega), (show x30.toInt ≤ 1 by omega)⟩, ⟨r714, c741, (show (-1) ≤ r714.toInt by omega), (show r714.toInt ≤ 9 by omega)⟩⟩⟩ hw dX12_words_206
        · have c722 : r714.toInt < (0 : Int) := wk_leF c722
          refine lv_ldc2 (v := 99) hx hb hC.2.2.2.1 (hC.2.2.2.2 _ (List.mem_of_getElem? (i := 5) rfl)) dX12_words_191 ?_
          refine lv_goto (tgt := 205) hx hb dX12_words_194 (by decide) ?_
          refine tk_last hC hK hw hT kM_at11 (by decide) rfl (by decide) (by decide) dX12_words_205 (fun H locs w742 hw hT k744 => ?_)
          have hF := hF.put kM_at11 (inE_of (a := 0) (b := 10) (by decide) (by decide) (by decide)) k744
          have c745 := k744.gi (Or.inl (tk_ne kM_at12 kM_at11 (by decide))) c708
          have c746 := k744.gi (Or.inl (tk_ne kM_at0 kM_at11 (by decide))) c709
          have c747 := k744.gi (Or.inl (tk_ne kM_at12 kM_at11 (by decide))) c710
          have c748 := k744.gi (Or.inl (tk_ne kM_at0 kM_at11 (by decide))) c711
          have c749 := k744.gi (Or.inl (tk_ne kM_at14 kM_at11 (by decide))) c712
          have c750 := k744.gi (Or.inl (tk_ne kM_at12 kM_at11 (by decide))) c713
          have c751 := k744.gi (Or.inl (tk_ne kM_at12 kM_at11 (by decide))) c720
          exact tk_vret hC hr hlocks hK ⟨hT, hF, ⟨⟨x30, c746, (show 0 ≤ x30.toInt by omega), (show x30.toInt ≤ 1 by omega)⟩, ⟨r714, c751, (show (-1) ≤ r714.toInt by omega), (show r714.toInt ≤ 9 by omega)⟩⟩⟩ hw dX12_words_206
abbrev P_X12_doing_2 (ad : Nat → Nat) (cy : Nat → ClassId) (B : Int) (qr : Nat) (s1 : Int)  (w0 : va_W) : Int32 → va_W → Prop := fun r u => TW ksM ad cy B qr 12 u ∧ FE ksM [(12, 24, 24), (69, 0, 64), (70, 0, 10)] w0 u ∧ ((r.toInt ≤ (-1) ∧ (∃ y : Int32, gi u 12 219 = y ∧ 0 ≤ y.toInt ∧ y.toInt ≤ 5)) ∨ (3 ≤ r.toInt ∧ (∃ y : Int32, gi u 12 219 = y ∧ 0 ≤ y.toInt ∧ y.toInt ≤ 5)) ∨ (r = 0 ∧ (∃ y : Int32, gi u 0 31 = y ∧ 0 ≤ y.toInt ∧ y.toInt ≤ 11) ∧ (∃ y : Int32, gi u 12 219 = y ∧ (-1) ≤ y.toInt ∧ y.toInt ≤ 5)) ∨ (r = 1 ∧ (∃ y : Int32, gi u 12 1 = y ∧ 1 ≤ y.toInt ∧ y.toInt ≤ 12) ∧ (∃ y : Int32, gi u 12 219 = y ∧ 0 ≤ y.toInt ∧ y.toInt ≤ 5) ∧ (mAS u (0 : Int32).toInt)) ∨ (r = 2 ∧ (∃ y : Int32, gi u 0 30 = y ∧ 0 ≤ y.toInt ∧ y.toInt ≤ 0) ∧ (∃ y : Int32, gi u 12 219 = y ∧ 0 ≤ y.toInt ∧ y.toInt ≤ 5)) ∨ (r = 3 ∧ (∃ y : Int32, gi u 12 219 = y ∧ (-1) ≤ y.toInt ∧ y.toInt ≤ 5)))
set_option maxHeartbeats 4000000 in
set_option maxRecDepth 100000 in
theorem k_X12_doing_2 (l : Launch) (adK adV : Nat → Nat) (dC : Nat → ClassId) (dI : Nat → Nat → Nat) (cy : Nat → ClassId) (ad : Nat → Nat) (B : Int) (hB0 : 100000 ≤ B) (hB1 : B ≤ 1073741824) (qr : Nat) (s1 : Int)   (w0 : va_W) (sz : Nat) (hT : TW ksM ad cy B qr 12 w0) (hRW : RW w0) : Met l yX12_doing wsX12_doing ({ frames := 7, cells := 0, slots := 0, locals := 147 }) (va_Pc [.ref (ad 0), .int 0] (wpreS adK adV dC dI cy sz w0)) (va_Qi (P_X12_doing_2 ad cy B qr s1  w0) (fun u : va_W => wpost dC dI cy (va_A w0 sz) u) (va_A w0 sz)) 0 0 (va_A w0 sz) := by
  refine Met.ofW (cc := cX12_doing) (maxL := 5) (ret := (some .int)) (by decide) rfl ?_
  intro p e s m args below meth c s₁ Bk hml hv
  obtain ⟨rfl, ⟨hsz, hP, hK, hD0⟩, hE, hSR⟩ := hv
  have hx := Bk.exec
  have hb := Bk.bytes
  have hr := Bk.returns
  have hlocks := Bk.notSynchronized
  have hC : CallFix p m c cX12_doing 5 s _ wsX12_doing RX12 := ⟨hx, hb, hml, findClass_of_methodNamed Bk.named, atoms_spec (ws := wsX12_doing) Bk.pre⟩
  subst hsz
  have hD := hD0.self (sz := s.heap.size)
  generalize hAe : va_A w0 s.heap.size = A at hD hE ⊢
  have hA : ∀ q : Nat, s.heap.size ≤ q → A q := fun q h => by rw [← hAe]; exact Or.inr h
  have hw : Wd dC dI A s.heap s.heap [] w0 := ⟨hP, hD, va_S.rf⟩
  have hF : FE ksM [(12, 24, 24), (69, 0, 64), (70, 0, 10)] w0 w0 := FE.rf
  have hl := lv_entry ([.ref (ad 0), .int 0]) (n := 5) (Nat.le_of_ble_eq_true rfl)
  rw [lg_entry_eq]
  generalize (lg_sl ([.ref (ad 0), .int 0]) ++ List.replicate (5 - (lg_sl ([.ref (ad 0), .int 0])).length) Slot.unset).toArray = ls at hl ⊢
  have hl : lv_has ls 5 [(0, .ref (ad 0)), (1, .int 0)] := hl
  generalize hloc : ([] : List Loc) = locs at hw ⊢
  have hinX12 : ∀ w ∈ u_ws RX12 TX12 42, w ∈ wsX12_doing := fun _ h => List.mem_cons_of_mem _ (List.mem_append_right _ (h))
  have L32 : ∀ (n32 : Nat) (v32_2 : Int32) (v32_3 : Int32) (f32_0_30 : Int32) (f32_12_219 : Int32) (f32_12_223 : Int32) (H : Heap) (locs : List Loc) (ls : Array Slot) (w1 : va_W), 0 ≤ v32_2.toInt → v32_2.toInt ≤ 5 → 0 ≤ v32_3.toInt → v32_3.toInt ≤ 12 → 0 ≤ f32_0_30.toInt → f32_0_30.toInt ≤ 1 → 0 ≤ f32_12_219.toInt → f32_12_219.toInt ≤ 5 → (-1) ≤ f32_12_223.toInt → f32_12_223.toInt ≤ 9 → (12 - v32_3.toInt).toNat < n32 → Wd dC dI A s.heap H locs w1 → TW ksM ad cy B qr 12 w1 → FE ksM [(12, 24, 24), (69, 0, 64), (70, 0, 10)] w0 w1 → RW w1 → gi w1 0 30 = f32_0_30 → gi w1 12 219 = f32_12_219 → gi w1 12 223 = f32_12_223 → lv_has ls 5 [(0, .ref (ad 0)), (1, .int 0), (2, .int v32_2), (3, .int v32_3)] → W p l e ({ frames := 7, cells := 0, slots := 0, locals := 147 }) s m (List.toArray [.ref (ad 0), .int 0]) below meth c H locs 0 0 (MQ below (va_Qi (P_X12_doing_2 ad cy B qr s1  w0) (fun u : va_W => wpost dC dI cy A u) A) (List.toArray [.ref (ad 0), .int 0]) s 0 0 A) (F0 m 32 ls []) := by
    intro n32
    induction n32 with
    | zero => intro v32_2 v32_3 f32_0_30 f32_12_219 f32_12_223 H locs ls w1 r2 t3 r4 t5 r6 t7 r9 t10 r12 t13 hm32 hw hT hF hRW c8 c11 c14 hl; omega
    | succ n32 ih32 =>
      intro v32_2 v32_3 f32_0_30 f32_12_219 f32_12_223 H locs ls w1 r2 t3 r4 t5 r6 t7 r9 t10 r12 t13 hm32 hw hT hF hRW c8 c11 c14 hl
      have J115 : ∀ (v115_4 : Int32) (f115_4__36_v32_2_toInt_3_v32_3_toInt_0_toNat : Int32) (f115_5__v32_2_toInt_toNat : Int32) (H : Heap) (locs : List Loc) (ls : Array Slot) (w15 : va_W), 0 ≤ v32_2.toInt → v32_2.toInt ≤ 5 → 0 ≤ v32_3.toInt → v32_3.toInt ≤ 11 → 0 ≤ v115_4.toInt → v115_4.toInt ≤ 213 → 0 ≤ f32_0_30.toInt → f32_0_30.toInt ≤ 1 → 0 ≤ f32_12_219.toInt → f32_12_219.toInt ≤ 5 → (-1) ≤ f32_12_223.toInt → f32_12_223.toInt ≤ 9 → 1 ≤ f115_5__v32_2_toInt_toNat.toInt → f115_5__v32_2_toInt_toNat.toInt ≤ 12 → Wd dC dI A s.heap H locs w15 → TW ksM ad cy B qr 12 w15 → FE ksM [(12, 24, 24), (69, 0, 64), (70, 0, 10)] w0 w15 → RW w15 → gi w15 0 30 = f32_0_30 → gi w15 12 219 = f32_12_219 → gi w15 12 223 = f32_12_223 → gi w15 4 (36 * v32_2.toInt + 3 * v32_3.toInt + 0).toNat = f115_4__36_v32_2_toInt_3_v32_3_toInt_0_toNat → gi w15 5 (v32_2.toInt).toNat = f115_5__v32_2_toInt_toNat → lv_has ls 5 [(0, .ref (ad 0)), (1, .int 0), (2, .int v32_2), (3, .int v32_3), (4, .int v115_4)] → W p l e ({ frames := 7, cells := 0, slots := 0, locals := 147 }) s m (List.toArray [.ref (ad 0), .int 0]) below meth c H locs 0 0 (MQ below (va_Qi (P_X12_doing_2 ad cy B qr s1  w0) (fun u : va_W => wpost dC dI cy A u) A) (List.toArray [.ref (ad 0), .int 0]) s 0 0 A) (F0 m 115 ls []) := by
        intro v115_4 f115_4__36_v32_2_toInt_3_v32_3_toInt_0_toNat f115_5__v32_2_toInt_toNat H locs ls w15 r16 t17 r18 t19 r20 t21 r22 t23 r25 t26 r28 t29 r32 t33 hw hT hF hRW c24 c27 c30 c31 c34 hl
        obtain ⟨x35, ex35⟩ : ∃ y : Int32, y = v32_3 + Int32.ofInt 1 := ⟨_, rfl⟩
        refine lv_iinc (v := x35) (lv' := [(3, .int x35), (0, .ref (ad 0)), (1, .int 0), (2, .int v32_2), (4, .int v115_4)]) hx hb dX12_doing_115 hl (k := 3) rfl ex35.symm (by decide) rfl (fun ls hl => ?_)
        have ex35 : x35.toInt = v32_3.toInt + 1 := by rw [ex35]; exact wk_add (y := 1) (show -2147483648 ≤ v32_3.toInt + 1 by omega) (show v32_3.toInt + 1 ≤ 2147483647 by omega)
        refine lv_goto (tgt := 32) hx hb dX12_doing_118 (by decide) ?_
        exact ih32 v32_2 x35 f32_0_30 f32_12_219 f32_12_223 H locs ls w15 (show 0 ≤ v32_2.toInt by omega) (show v32_2.toInt ≤ 5 by omega) (show 0 ≤ x35.toInt by omega) (show x35.toInt ≤ 12 by omega) (show 0 ≤ f32_0_30.toInt by omega) (show f32_0_30.toInt ≤ 1 by omega) (show 0 ≤ f32_12_219.toInt by omega) (show f32_12_219.toInt ≤ 5 by omega) (show (-1) ≤ f32_12_223.toInt by omega) (show f32_12_223.toInt ≤ 9 by omega) (show (12 - x35.toInt).toNat < n32 by omega) hw hT hF hRW c24 c27 c30 (lv_sub hl [1, 2, 3, 0] rfl)
      refine lv_iload_n hx hb dX12_doing_32 rfl (lv_at hl 3 rfl) ?_
      refine lv_aload_n hx hb dX12_doing_33 rfl (lv_at hl 0 rfl) ?_
      refine tk_getA hC hK hw hT hinX12 kM_at0 (by decide) rfl 6 (by decide) (List.mem_of_getElem? (i := 1) rfl) rfl rfl dX12_doing_34 ?_
      refine lv_iload_n hx hb dX12_doing_37 rfl (lv_at hl 2 rfl) ?_
      refine tk_iald hC hK hw hT kM_at5 rfl rfl (show 0 ≤ v32_2.toInt by omega) (show v32_2.toInt < 6 by omega) dX12_doing_38 (fun x36 c37 rx36 tx36 => ?_)
      have c37 : gi w1 5 (v32_2.toInt).toNat = x36 := (congrArg (gi w1 5) (congrArg Int.toNat (show v32_2.toInt = v32_2.toInt by omega))).trans c37
      refine lv_icmp_ge (tgt := 121) hx hb dX12_doing_39 (by decide) (fun c38 => ?_) (fun c38 => ?_)
      · have c38 : x36.toInt ≤ v32_3.toInt := wk_le.mp c38
        refine lv_iconst (v := 3) hx hb dX12_doing_121 (by decide) ?_
        exact tk_iret hC hr hlocks hK ⟨hT, hF, (Or.inr (Or.inr (Or.inr (Or.inr (Or.inr ⟨rfl, ⟨f32_12_219, c11, (show (-1) ≤ f32_12_219.toInt by omega), (show f32_12_219.toInt ≤ 5 by omega)⟩⟩)))))⟩ hw dX12_doing_122
      · have c38 : v32_3.toInt < x36.toInt := wk_leF c38
        refine lv_bipush (v := 36) hx hb dX12_doing_42 (by decide) ?_
        refine lv_iload_n hx hb dX12_doing_44 rfl (lv_at hl 2 rfl) ?_
        refine lv_imul hx hb dX12_doing_45 ?_
        refine lv_topi (fun x39 ex39 => ?_)
        have ex39 : x39.toInt = (36 : Int) * v32_2.toInt := by rw [ex39]; exact wk_mul (show (-2147483648) ≤ (36 : Int) * v32_2.toInt by omega) (show (36 : Int) * v32_2.toInt ≤ 2147483647 by omega)
        refine lv_iconst (v := 3) hx hb dX12_doing_46 (by decide) ?_
        refine lv_iload_n hx hb dX12_doing_47 rfl (lv_at hl 3 rfl) ?_
        refine lv_imul hx hb dX12_doing_48 ?_
        refine lv_topi (fun x40 ex40 => ?_)
        have ex40 : x40.toInt = (3 : Int) * v32_3.toInt := by rw [ex40]; exact wk_mul (show (-2147483648) ≤ (3 : Int) * v32_3.toInt by omega) (show (3 : Int) * v32_3.toInt ≤ 2147483647 by omega)
        refine lv_iadd hx hb dX12_doing_49 ?_
        refine lv_topi (fun x41 ex41 => ?_)
        have ex41 : x41.toInt = x39.toInt + x40.toInt := by rw [ex41]; exact wk_add (show (-2147483648) ≤ x39.toInt + x40.toInt by omega) (show x39.toInt + x40.toInt ≤ 2147483647 by omega)
        refine lv_istore (lv' := [(4, .int x41), (0, .ref (ad 0)), (1, .int 0), (2, .int v32_2), (3, .int v32_3)]) hx hb dX12_doing_50 hl (by decide) rfl (fun ls hl => ?_)
        refine lv_aload_n hx hb dX12_doing_52 rfl (lv_at hl 1 rfl) ?_
        refine lv_iload_n hx hb dX12_doing_53 rfl (lv_at hl 2 rfl) ?_
        refine lv_aload_n hx hb dX12_doing_54 rfl (lv_at hl 1 rfl) ?_
        refine tk_getA hC hK hw hT hinX12 kM_at0 (by decide) rfl 5 (by decide) (List.mem_of_getElem? (i := 2) rfl) rfl rfl dX12_doing_55 ?_
        refine lv_iload hx hb dX12_doing_58 (lv_at hl 0 rfl) ?_
        refine tk_iald hC hK hw hT kM_at4 rfl rfl (show 0 ≤ x41.toInt by omega) (show x41.toInt < 216 by omega) dX12_doing_60 (fun x42 c43 rx42 tx42 => ?_)
        have c43 : gi w1 4 (36 * v32_2.toInt + 3 * v32_3.toInt + 0).toNat = x42 := (congrArg (gi w1 4) (congrArg Int.toNat (show 36 * v32_2.toInt + 3 * v32_3.toInt + 0 = x41.toInt by omega))).trans c43
        refine tk_Vi hC hK hw hT hA hE hSR kM_at0 (by decide) rfl (k_X12_mayDo_2 l adK adV dC dI cy ad B (by omega) (by omega) qr s1   x42 w1 H.size hT ) (cwV 2 hC.2.2.2.2 gX12_doing_X12_mayDo rfl rfl rfl (by decide +kernel) ⟨Nat.le_of_ble_eq_true rfl, Nat.le_of_ble_eq_true rfl⟩) rfl hl.1 rfl (Nat.le_of_ble_eq_true rfl) dX12_doing_61 (fun r44 w46 H locs hp45 hw => ?_)
        obtain ⟨rfl, hg67⟩ := hp45
        rcases hg67 with rfl | ⟨rfl, g48, g49⟩ | ⟨rfl, g50, g51⟩ | ⟨rfl, g52⟩ | ⟨rfl, g53, g54, ⟨x55, c56, rx55, tx55⟩⟩ | ⟨rfl, g57, g58, ⟨x59, c60, rx59, tx59⟩, hq61⟩ | ⟨rfl, g62, g63, ⟨x64, c65, rx64, tx64⟩⟩ | ⟨rfl, g66⟩
        · refine lv_if_eq (tgt := 115) hx hb dX12_doing_64 (by decide) (fun _ => ?_) (fun c => absurd (by decide) c)
          exact J115 x41 x42 x36 H locs ls w1 (show 0 ≤ v32_2.toInt by omega) (show v32_2.toInt ≤ 5 by omega) (show 0 ≤ v32_3.toInt by omega) (show v32_3.toInt ≤ 11 by omega) (show 0 ≤ x41.toInt by omega) (show x41.toInt ≤ 213 by omega) (show 0 ≤ f32_0_30.toInt by omega) (show f32_0_30.toInt ≤ 1 by omega) (show 0 ≤ f32_12_219.toInt by omega) (show f32_12_219.toInt ≤ 5 by omega) (show (-1) ≤ f32_12_223.toInt by omega) (show f32_12_223.toInt ≤ 9 by omega) (show 1 ≤ x36.toInt by omega) (show x36.toInt ≤ 12 by omega)  hw hT hF hRW c8 c11 c14 c43 c37 (lv_sub hl [1, 2, 3, 4, 0] rfl)
        · refine lv_if_eq (tgt := 115) hx hb dX12_doing_64 (by decide) (fun _ => ?_) (fun c => absurd (by decide) c)
          exact J115 x41 x42 x36 H locs ls w1 (show 0 ≤ v32_2.toInt by omega) (show v32_2.toInt ≤ 5 by omega) (show 0 ≤ v32_3.toInt by omega) (show v32_3.toInt ≤ 11 by omega) (show 0 ≤ x41.toInt by omega) (show x41.toInt ≤ 213 by omega) (show 0 ≤ f32_0_30.toInt by omega) (show f32_0_30.toInt ≤ 1 by omega) (show 0 ≤ f32_12_219.toInt by omega) (show f32_12_219.toInt ≤ 5 by omega) (show (-1) ≤ f32_12_223.toInt by omega) (show f32_12_223.toInt ≤ 9 by omega) (show 1 ≤ x36.toInt by omega) (show x36.toInt ≤ 12 by omega)  hw hT hF hRW c8 c11 c14 c43 c37 (lv_sub hl [1, 2, 3, 4, 0] rfl)
        · refine lv_if_eq (tgt := 115) hx hb dX12_doing_64 (by decide) (fun _ => ?_) (fun c => absurd (by decide) c)
          exact J115 x41 x42 x36 H locs ls w1 (show 0 ≤ v32_2.toInt by omega) (show v32_2.toInt ≤ 5 by omega) (show 0 ≤ v32_3.toInt by omega) (show v32_3.toInt ≤ 11 by omega) (show 0 ≤ x41.toInt by omega) (show x41.toInt ≤ 213 by omega) (show 0 ≤ f32_0_30.toInt by omega) (show f32_0_30.toInt ≤ 1 by omega) (show 0 ≤ f32_12_219.toInt by omega) (show f32_12_219.toInt ≤ 5 by omega) (show (-1) ≤ f32_12_223.toInt by omega) (show f32_12_223.toInt ≤ 9 by omega) (show 1 ≤ x36.toInt by omega) (show x36.toInt ≤ 12 by omega)  hw hT hF hRW c8 c11 c14 c43 c37 (lv_sub hl [1, 2, 3, 4, 0] rfl)
        · refine lv_if_eq (tgt := 115) hx hb dX12_doing_64 (by decide) (fun c => absurd c (by decide)) (fun _ => ?_)
          refine lv_aload_n hx hb dX12_doing_67 rfl (lv_at hl 1 rfl) ?_
          refine tk_getA hC hK hw hT hinX12 kM_at0 (by decide) rfl 5 (by decide) (List.mem_of_getElem? (i := 2) rfl) rfl rfl dX12_doing_68 ?_
          refine lv_iload hx hb dX12_doing_71 (lv_at hl 0 rfl) ?_
          refine lv_iconst (v := 1) hx hb dX12_doing_73 (by decide) ?_
          refine lv_iadd hx hb dX12_doing_74 ?_
          refine lv_topi (fun x68 ex68 => ?_)
          have ex68 : x68.toInt = x41.toInt + (1 : Int) := by rw [ex68]; exact wk_add (show (-2147483648) ≤ x41.toInt + (1 : Int) by omega) (show x41.toInt + (1 : Int) ≤ 2147483647 by omega)
          refine tk_iald hC hK hw hT kM_at4 rfl rfl (show 0 ≤ x68.toInt by omega) (show x68.toInt < 216 by omega) dX12_doing_75 (fun x69 c70 rx69 tx69 => ?_)
          have c70 : gi w1 4 (36 * v32_2.toInt + 3 * v32_3.toInt + 1).toNat = x69 := (congrArg (gi w1 4) (congrArg Int.toNat (show 36 * v32_2.toInt + 3 * v32_3.toInt + 1 = x68.toInt by omega))).trans c70
          refine lv_if_lt (tgt := 107) hx hb dX12_doing_76 (by decide) (fun c71 => ?_) (fun c71 => ?_)
          · have c71 : x69.toInt < (0 : Int) := wk_lt.mp c71
            refine lv_aload_n hx hb dX12_doing_107 rfl (lv_at hl 1 rfl) ?_
            refine tk_getA hC hK hw hT hinX12 kM_at0 (by decide) rfl 5 (by decide) (List.mem_of_getElem? (i := 2) rfl) rfl rfl dX12_doing_108 ?_
            refine lv_iload hx hb dX12_doing_111 (lv_at hl 0 rfl) ?_
            refine tk_iald hC hK hw hT kM_at4 rfl rfl (show 0 ≤ x41.toInt by omega) (show x41.toInt < 216 by omega) dX12_doing_113 (fun x72 c73 rx72 tx72 => ?_)
            have c73 : gi w1 4 (36 * v32_2.toInt + 3 * v32_3.toInt + 0).toNat = x72 := (congrArg (gi w1 4) (congrArg Int.toNat (show 36 * v32_2.toInt + 3 * v32_3.toInt + 0 = x41.toInt by omega))).trans c73
            refine wk_top x42 (c73.symm.trans c43) ?_
            exact tk_iret hC hr hlocks hK ⟨hT, hF, (Or.inl ⟨(show x42.toInt ≤ (-1) by omega), ⟨f32_12_219, c11, (show 0 ≤ f32_12_219.toInt by omega), (show f32_12_219.toInt ≤ 5 by omega)⟩⟩)⟩ hw dX12_doing_114
          · have c71 : (0 : Int) ≤ x69.toInt := wk_ltF c71
            refine lv_aload_n hx hb dX12_doing_79 rfl (lv_at hl 1 rfl) ?_
            refine lv_iload_n hx hb dX12_doing_80 rfl (lv_at hl 3 rfl) ?_
            refine lv_aload_n hx hb dX12_doing_81 rfl (lv_at hl 1 rfl) ?_
            refine tk_getA hC hK hw hT hinX12 kM_at0 (by decide) rfl 5 (by decide) (List.mem_of_getElem? (i := 2) rfl) rfl rfl dX12_doing_82 ?_
            refine lv_iload hx hb dX12_doing_85 (lv_at hl 0 rfl) ?_
            refine lv_iconst (v := 1) hx hb dX12_doing_87 (by decide) ?_
            refine lv_iadd hx hb dX12_doing_88 ?_
            refine lv_topi (fun x74 ex74 => ?_)
            have ex74 : x74.toInt = x41.toInt + (1 : Int) := by rw [ex74]; exact wk_add (show (-2147483648) ≤ x41.toInt + (1 : Int) by omega) (show x41.toInt + (1 : Int) ≤ 2147483647 by omega)
            refine tk_iald hC hK hw hT kM_at4 rfl rfl (show 0 ≤ x74.toInt by omega) (show x74.toInt < 216 by omega) dX12_doing_89 (fun x75 c76 rx75 tx75 => ?_)
            have c76 : gi w1 4 (36 * v32_2.toInt + 3 * v32_3.toInt + 1).toNat = x75 := (congrArg (gi w1 4) (congrArg Int.toNat (show 36 * v32_2.toInt + 3 * v32_3.toInt + 1 = x74.toInt by omega))).trans c76
            refine wk_top x69 (c76.symm.trans c70) ?_
            refine lv_aload_n hx hb dX12_doing_90 rfl (lv_at hl 1 rfl) ?_
            refine tk_getA hC hK hw hT hinX12 kM_at0 (by decide) rfl 5 (by decide) (List.mem_of_getElem? (i := 2) rfl) rfl rfl dX12_doing_91 ?_
            refine lv_iload hx hb dX12_doing_94 (lv_at hl 0 rfl) ?_
            refine lv_iconst (v := 2) hx hb dX12_doing_96 (by decide) ?_
            refine lv_iadd hx hb dX12_doing_97 ?_
            refine lv_topi (fun x77 ex77 => ?_)
            have ex77 : x77.toInt = x41.toInt + (2 : Int) := by rw [ex77]; exact wk_add (show (-2147483648) ≤ x41.toInt + (2 : Int) by omega) (show x41.toInt + (2 : Int) ≤ 2147483647 by omega)
            refine tk_iald hC hK hw hT kM_at4 rfl rfl (show 0 ≤ x77.toInt by omega) (show x77.toInt < 216 by omega) dX12_doing_98 (fun x78 c79 rx78 tx78 => ?_)
            have c79 : gi w1 4 (36 * v32_2.toInt + 3 * v32_3.toInt + 2).toNat = x78 := (congrArg (gi w1 4) (congrArg Int.toNat (show 36 * v32_2.toInt + 3 * v32_3.toInt + 2 = x77.toInt by omega))).trans c79
            have hz := (hRW v32_2.toInt v32_3.toInt (by omega) (by omega) (by omega) (by rw [c37]; omega)).resolve_left (by rw [c70]; omega)
            rw [c70, c79] at hz
            obtain ⟨hz1, hz2, hz3⟩ := hz
            obtain ⟨x80, c81, rx80, tx80⟩ := hT.rdi (lo := 0) (hi := 64) (k := 24) kM_at0 (by decide) rfl
            refine tk_Vl hC hK hw hT hA hE hSR kM_at0 (by decide) rfl (k_X12_reckons_1 l adK adV dC dI cy ad B (by omega) (by omega) qr s1   v32_2 (show 0 ≤ v32_2.toInt by omega) (show v32_2.toInt ≤ 5 by omega) x69 (show 0 ≤ x69.toInt by omega) (show x69.toInt ≤ 400 by omega) x78 (show 0 ≤ x78.toInt by omega) (show x78.toInt ≤ 400 by omega) w1 H.size hT x80 c81 (show 0 ≤ x80.toInt by omega) (show x80.toInt ≤ 64 by omega) ⟨hz1, hz3⟩) (cwV 3 hC.2.2.2.2 gX12_doing_X12_reckons rfl rfl rfl (by decide +kernel) ⟨Nat.le_of_ble_eq_true rfl, Nat.le_of_ble_eq_true rfl⟩) rfl hl.1 rfl (Nat.le_of_ble_eq_true rfl) dX12_doing_99 (fun r82 w84 H locs hp83 hw => ?_)
            obtain ⟨hT, k85, hg88⟩ := hp83
            have hRW := RW_FE k85 (fun _ => rfl) (fun _ => rfl) (fun _ => rfl) hRW
            have hF := hF.tr k85 (by decide)
            have c89 := k85.gi kM_at0 (by decide) c8
            have c90 := k85.gi kM_at12 (by decide) c11
            have c91 := k85.gi kM_at12 (by decide) c14
            have c92 := k85.gi kM_at5 rfl c37
            have c93 := k85.gi kM_at4 rfl c43
            have c94 := k85.gi kM_at4 rfl c70
            have c95 := k85.gi kM_at4 rfl c79
            obtain ⟨x86, c87, rx86, tx86⟩ := hg88
            refine lv_lconst (v := 1) hx hb dX12_doing_102 (by decide) ?_
            refine W.lcmp hx hb dX12_doing_103 ?_
            refine lv_if_ne (tgt := 115) hx hb dX12_doing_104 (by decide) (fun c96 => ?_) (fun c96 => ?_)
            · have c96 : ¬ r82.toInt = (1 : Int) := wk_ceF c96
              exact J115 x41 x42 x36 H locs ls w84 (show 0 ≤ v32_2.toInt by omega) (show v32_2.toInt ≤ 5 by omega) (show 0 ≤ v32_3.toInt by omega) (show v32_3.toInt ≤ 11 by omega) (show 0 ≤ x41.toInt by omega) (show x41.toInt ≤ 213 by omega) (show 0 ≤ f32_0_30.toInt by omega) (show f32_0_30.toInt ≤ 1 by omega) (show 0 ≤ f32_12_219.toInt by omega) (show f32_12_219.toInt ≤ 5 by omega) (show (-1) ≤ f32_12_223.toInt by omega) (show f32_12_223.toInt ≤ 9 by omega) (show 1 ≤ x36.toInt by omega) (show x36.toInt ≤ 12 by omega)  hw hT hF hRW c89 c90 c91 c93 c92 (lv_sub hl [1, 2, 3, 4, 0] rfl)
            · have c96 : r82.toInt = (1 : Int) := wk_ceT c96
              refine lv_aload_n hx hb dX12_doing_107 rfl (lv_at hl 1 rfl) ?_
              refine tk_getA hC hK hw hT hinX12 kM_at0 (by decide) rfl 5 (by decide) (List.mem_of_getElem? (i := 2) rfl) rfl rfl dX12_doing_108 ?_
              refine lv_iload hx hb dX12_doing_111 (lv_at hl 0 rfl) ?_
              refine tk_iald hC hK hw hT kM_at4 rfl rfl (show 0 ≤ x41.toInt by omega) (show x41.toInt < 216 by omega) dX12_doing_113 (fun x97 c98 rx97 tx97 => ?_)
              have c98 : gi w84 4 (36 * v32_2.toInt + 3 * v32_3.toInt + 0).toNat = x97 := (congrArg (gi w84 4) (congrArg Int.toNat (show 36 * v32_2.toInt + 3 * v32_3.toInt + 0 = x41.toInt by omega))).trans c98
              refine wk_top x42 (c98.symm.trans c93) ?_
              exact tk_iret hC hr hlocks hK ⟨hT, hF, (Or.inl ⟨(show x42.toInt ≤ (-1) by omega), ⟨f32_12_219, c90, (show 0 ≤ f32_12_219.toInt by omega), (show f32_12_219.toInt ≤ 5 by omega)⟩⟩)⟩ hw dX12_doing_114
        · refine lv_if_eq (tgt := 115) hx hb dX12_doing_64 (by decide) (fun c => absurd c (by decide)) (fun _ => ?_)
          refine lv_aload_n hx hb dX12_doing_67 rfl (lv_at hl 1 rfl) ?_
          refine tk_getA hC hK hw hT hinX12 kM_at0 (by decide) rfl 5 (by decide) (List.mem_of_getElem? (i := 2) rfl) rfl rfl dX12_doing_68 ?_
          refine lv_iload hx hb dX12_doing_71 (lv_at hl 0 rfl) ?_
          refine lv_iconst (v := 1) hx hb dX12_doing_73 (by decide) ?_
          refine lv_iadd hx hb dX12_doing_74 ?_
          refine lv_topi (fun x99 ex99 => ?_)
          have ex99 : x99.toInt = x41.toInt + (1 : Int) := by rw [ex99]; exact wk_add (show (-2147483648) ≤ x41.toInt + (1 : Int) by omega) (show x41.toInt + (1 : Int) ≤ 2147483647 by omega)
          refine tk_iald hC hK hw hT kM_at4 rfl rfl (show 0 ≤ x99.toInt by omega) (show x99.toInt < 216 by omega) dX12_doing_75 (fun x100 c101 rx100 tx100 => ?_)
          have c101 : gi w1 4 (36 * v32_2.toInt + 3 * v32_3.toInt + 1).toNat = x100 := (congrArg (gi w1 4) (congrArg Int.toNat (show 36 * v32_2.toInt + 3 * v32_3.toInt + 1 = x99.toInt by omega))).trans c101
          refine lv_if_lt (tgt := 107) hx hb dX12_doing_76 (by decide) (fun c102 => ?_) (fun c102 => ?_)
          · have c102 : x100.toInt < (0 : Int) := wk_lt.mp c102
            refine lv_aload_n hx hb dX12_doing_107 rfl (lv_at hl 1 rfl) ?_
            refine tk_getA hC hK hw hT hinX12 kM_at0 (by decide) rfl 5 (by decide) (List.mem_of_getElem? (i := 2) rfl) rfl rfl dX12_doing_108 ?_
            refine lv_iload hx hb dX12_doing_111 (lv_at hl 0 rfl) ?_
            refine tk_iald hC hK hw hT kM_at4 rfl rfl (show 0 ≤ x41.toInt by omega) (show x41.toInt < 216 by omega) dX12_doing_113 (fun x103 c104 rx103 tx103 => ?_)
            have c104 : gi w1 4 (36 * v32_2.toInt + 3 * v32_3.toInt + 0).toNat = x103 := (congrArg (gi w1 4) (congrArg Int.toNat (show 36 * v32_2.toInt + 3 * v32_3.toInt + 0 = x41.toInt by omega))).trans c104
            refine wk_top x42 (c104.symm.trans c43) ?_
            exact tk_iret hC hr hlocks hK ⟨hT, hF, (Or.inr (Or.inr (Or.inl ⟨(wk_eq.mpr (show x42.toInt = 0 by omega)), ⟨x55, c56, (show 0 ≤ x55.toInt by omega), (show x55.toInt ≤ 11 by omega)⟩, ⟨f32_12_219, c11, (show (-1) ≤ f32_12_219.toInt by omega), (show f32_12_219.toInt ≤ 5 by omega)⟩⟩)))⟩ hw dX12_doing_114
          · have c102 : (0 : Int) ≤ x100.toInt := wk_ltF c102
            refine lv_aload_n hx hb dX12_doing_79 rfl (lv_at hl 1 rfl) ?_
            refine lv_iload_n hx hb dX12_doing_80 rfl (lv_at hl 3 rfl) ?_
            refine lv_aload_n hx hb dX12_doing_81 rfl (lv_at hl 1 rfl) ?_
            refine tk_getA hC hK hw hT hinX12 kM_at0 (by decide) rfl 5 (by decide) (List.mem_of_getElem? (i := 2) rfl) rfl rfl dX12_doing_82 ?_
            refine lv_iload hx hb dX12_doing_85 (lv_at hl 0 rfl) ?_
            refine lv_iconst (v := 1) hx hb dX12_doing_87 (by decide) ?_
            refine lv_iadd hx hb dX12_doing_88 ?_
            refine lv_topi (fun x105 ex105 => ?_)
            have ex105 : x105.toInt = x41.toInt + (1 : Int) := by rw [ex105]; exact wk_add (show (-2147483648) ≤ x41.toInt + (1 : Int) by omega) (show x41.toInt + (1 : Int) ≤ 2147483647 by omega)
            refine tk_iald hC hK hw hT kM_at4 rfl rfl (show 0 ≤ x105.toInt by omega) (show x105.toInt < 216 by omega) dX12_doing_89 (fun x106 c107 rx106 tx106 => ?_)
            have c107 : gi w1 4 (36 * v32_2.toInt + 3 * v32_3.toInt + 1).toNat = x106 := (congrArg (gi w1 4) (congrArg Int.toNat (show 36 * v32_2.toInt + 3 * v32_3.toInt + 1 = x105.toInt by omega))).trans c107
            refine wk_top x100 (c107.symm.trans c101) ?_
            refine lv_aload_n hx hb dX12_doing_90 rfl (lv_at hl 1 rfl) ?_
            refine tk_getA hC hK hw hT hinX12 kM_at0 (by decide) rfl 5 (by decide) (List.mem_of_getElem? (i := 2) rfl) rfl rfl dX12_doing_91 ?_
            refine lv_iload hx hb dX12_doing_94 (lv_at hl 0 rfl) ?_
            refine lv_iconst (v := 2) hx hb dX12_doing_96 (by decide) ?_
            refine lv_iadd hx hb dX12_doing_97 ?_
            refine lv_topi (fun x108 ex108 => ?_)
            have ex108 : x108.toInt = x41.toInt + (2 : Int) := by rw [ex108]; exact wk_add (show (-2147483648) ≤ x41.toInt + (2 : Int) by omega) (show x41.toInt + (2 : Int) ≤ 2147483647 by omega)
            refine tk_iald hC hK hw hT kM_at4 rfl rfl (show 0 ≤ x108.toInt by omega) (show x108.toInt < 216 by omega) dX12_doing_98 (fun x109 c110 rx109 tx109 => ?_)
            have c110 : gi w1 4 (36 * v32_2.toInt + 3 * v32_3.toInt + 2).toNat = x109 := (congrArg (gi w1 4) (congrArg Int.toNat (show 36 * v32_2.toInt + 3 * v32_3.toInt + 2 = x108.toInt by omega))).trans c110
            have hz := (hRW v32_2.toInt v32_3.toInt (by omega) (by omega) (by omega) (by rw [c37]; omega)).resolve_left (by rw [c101]; omega)
            rw [c101, c110] at hz
            obtain ⟨hz1, hz2, hz3⟩ := hz
            obtain ⟨x111, c112, rx111, tx111⟩ := hT.rdi (lo := 0) (hi := 64) (k := 24) kM_at0 (by decide) rfl
            refine tk_Vl hC hK hw hT hA hE hSR kM_at0 (by decide) rfl (k_X12_reckons_1 l adK adV dC dI cy ad B (by omega) (by omega) qr s1   v32_2 (show 0 ≤ v32_2.toInt by omega) (show v32_2.toInt ≤ 5 by omega) x100 (show 0 ≤ x100.toInt by omega) (show x100.toInt ≤ 400 by omega) x109 (show 0 ≤ x109.toInt by omega) (show x109.toInt ≤ 400 by omega) w1 H.size hT x111 c112 (show 0 ≤ x111.toInt by omega) (show x111.toInt ≤ 64 by omega) ⟨hz1, hz3⟩) (cwV 3 hC.2.2.2.2 gX12_doing_X12_reckons rfl rfl rfl (by decide +kernel) ⟨Nat.le_of_ble_eq_true rfl, Nat.le_of_ble_eq_true rfl⟩) rfl hl.1 rfl (Nat.le_of_ble_eq_true rfl) dX12_doing_99 (fun r113 w115 H locs hp114 hw => ?_)
            obtain ⟨hT, k116, hg119⟩ := hp114
            have hRW := RW_FE k116 (fun _ => rfl) (fun _ => rfl) (fun _ => rfl) hRW
            have hF := hF.tr k116 (by decide)
            have c120 := k116.gi kM_at0 (by decide) c8
            have c121 := k116.gi kM_at12 (by decide) c11
            have c122 := k116.gi kM_at12 (by decide) c14
            have c123 := k116.gi kM_at5 rfl c37
            have c124 := k116.gi kM_at4 rfl c43
            have c125 := k116.gi kM_at0 (by decide) c56
            have c126 := k116.gi kM_at4 rfl c101
            have c127 := k116.gi kM_at4 rfl c110
            obtain ⟨x117, c118, rx117, tx117⟩ := hg119
            refine lv_lconst (v := 1) hx hb dX12_doing_102 (by decide) ?_
            refine W.lcmp hx hb dX12_doing_103 ?_
            refine lv_if_ne (tgt := 115) hx hb dX12_doing_104 (by decide) (fun c128 => ?_) (fun c128 => ?_)
            · have c128 : ¬ r113.toInt = (1 : Int) := wk_ceF c128
              exact J115 x41 x42 x36 H locs ls w115 (show 0 ≤ v32_2.toInt by omega) (show v32_2.toInt ≤ 5 by omega) (show 0 ≤ v32_3.toInt by omega) (show v32_3.toInt ≤ 11 by omega) (show 0 ≤ x41.toInt by omega) (show x41.toInt ≤ 213 by omega) (show 0 ≤ f32_0_30.toInt by omega) (show f32_0_30.toInt ≤ 1 by omega) (show 0 ≤ f32_12_219.toInt by omega) (show f32_12_219.toInt ≤ 5 by omega) (show (-1) ≤ f32_12_223.toInt by omega) (show f32_12_223.toInt ≤ 9 by omega) (show 1 ≤ x36.toInt by omega) (show x36.toInt ≤ 12 by omega)  hw hT hF hRW c120 c121 c122 c124 c123 (lv_sub hl [1, 2, 3, 4, 0] rfl)
            · have c128 : r113.toInt = (1 : Int) := wk_ceT c128
              refine lv_aload_n hx hb dX12_doing_107 rfl (lv_at hl 1 rfl) ?_
              refine tk_getA hC hK hw hT hinX12 kM_at0 (by decide) rfl 5 (by decide) (List.mem_of_getElem? (i := 2) rfl) rfl rfl dX12_doing_108 ?_
              refine lv_iload hx hb dX12_doing_111 (lv_at hl 0 rfl) ?_
              refine tk_iald hC hK hw hT kM_at4 rfl rfl (show 0 ≤ x41.toInt by omega) (show x41.toInt < 216 by omega) dX12_doing_113 (fun x129 c130 rx129 tx129 => ?_)
              have c130 : gi w115 4 (36 * v32_2.toInt + 3 * v32_3.toInt + 0).toNat = x129 := (congrArg (gi w115 4) (congrArg Int.toNat (show 36 * v32_2.toInt + 3 * v32_3.toInt + 0 = x41.toInt by omega))).trans c130
              refine wk_top x42 (c130.symm.trans c124) ?_
              exact tk_iret hC hr hlocks hK ⟨hT, hF, (Or.inr (Or.inr (Or.inl ⟨(wk_eq.mpr (show x42.toInt = 0 by omega)), ⟨x55, c125, (show 0 ≤ x55.toInt by omega), (show x55.toInt ≤ 11 by omega)⟩, ⟨f32_12_219, c121, (show (-1) ≤ f32_12_219.toInt by omega), (show f32_12_219.toInt ≤ 5 by omega)⟩⟩)))⟩ hw dX12_doing_114
        · refine lv_if_eq (tgt := 115) hx hb dX12_doing_64 (by decide) (fun c => absurd c (by decide)) (fun _ => ?_)
          refine lv_aload_n hx hb dX12_doing_67 rfl (lv_at hl 1 rfl) ?_
          refine tk_getA hC hK hw hT hinX12 kM_at0 (by decide) rfl 5 (by decide) (List.mem_of_getElem? (i := 2) rfl) rfl rfl dX12_doing_68 ?_
          refine lv_iload hx hb dX12_doing_71 (lv_at hl 0 rfl) ?_
          refine lv_iconst (v := 1) hx hb dX12_doing_73 (by decide) ?_
          refine lv_iadd hx hb dX12_doing_74 ?_
          refine lv_topi (fun x131 ex131 => ?_)
          have ex131 : x131.toInt = x41.toInt + (1 : Int) := by rw [ex131]; exact wk_add (show (-2147483648) ≤ x41.toInt + (1 : Int) by omega) (show x41.toInt + (1 : Int) ≤ 2147483647 by omega)
          refine tk_iald hC hK hw hT kM_at4 rfl rfl (show 0 ≤ x131.toInt by omega) (show x131.toInt < 216 by omega) dX12_doing_75 (fun x132 c133 rx132 tx132 => ?_)
          have c133 : gi w1 4 (36 * v32_2.toInt + 3 * v32_3.toInt + 1).toNat = x132 := (congrArg (gi w1 4) (congrArg Int.toNat (show 36 * v32_2.toInt + 3 * v32_3.toInt + 1 = x131.toInt by omega))).trans c133
          refine lv_if_lt (tgt := 107) hx hb dX12_doing_76 (by decide) (fun c134 => ?_) (fun c134 => ?_)
          · have c134 : x132.toInt < (0 : Int) := wk_lt.mp c134
            refine lv_aload_n hx hb dX12_doing_107 rfl (lv_at hl 1 rfl) ?_
            refine tk_getA hC hK hw hT hinX12 kM_at0 (by decide) rfl 5 (by decide) (List.mem_of_getElem? (i := 2) rfl) rfl rfl dX12_doing_108 ?_
            refine lv_iload hx hb dX12_doing_111 (lv_at hl 0 rfl) ?_
            refine tk_iald hC hK hw hT kM_at4 rfl rfl (show 0 ≤ x41.toInt by omega) (show x41.toInt < 216 by omega) dX12_doing_113 (fun x135 c136 rx135 tx135 => ?_)
            have c136 : gi w1 4 (36 * v32_2.toInt + 3 * v32_3.toInt + 0).toNat = x135 := (congrArg (gi w1 4) (congrArg Int.toNat (show 36 * v32_2.toInt + 3 * v32_3.toInt + 0 = x41.toInt by omega))).trans c136
            refine wk_top x42 (c136.symm.trans c43) ?_
            exact tk_iret hC hr hlocks hK ⟨hT, hF, (Or.inr (Or.inr (Or.inr (Or.inl ⟨(wk_eq.mpr (show x42.toInt = 1 by omega)), ⟨x59, c60, (show 1 ≤ x59.toInt by omega), (show x59.toInt ≤ 12 by omega)⟩, ⟨f32_12_219, c11, (show 0 ≤ f32_12_219.toInt by omega), (show f32_12_219.toInt ≤ 5 by omega)⟩, (by exact hq61)⟩))))⟩ hw dX12_doing_114
          · have c134 : (0 : Int) ≤ x132.toInt := wk_ltF c134
            refine lv_aload_n hx hb dX12_doing_79 rfl (lv_at hl 1 rfl) ?_
            refine lv_iload_n hx hb dX12_doing_80 rfl (lv_at hl 3 rfl) ?_
            refine lv_aload_n hx hb dX12_doing_81 rfl (lv_at hl 1 rfl) ?_
            refine tk_getA hC hK hw hT hinX12 kM_at0 (by decide) rfl 5 (by decide) (List.mem_of_getElem? (i := 2) rfl) rfl rfl dX12_doing_82 ?_
            refine lv_iload hx hb dX12_doing_85 (lv_at hl 0 rfl) ?_
            refine lv_iconst (v := 1) hx hb dX12_doing_87 (by decide) ?_
            refine lv_iadd hx hb dX12_doing_88 ?_
            refine lv_topi (fun x137 ex137 => ?_)
            have ex137 : x137.toInt = x41.toInt + (1 : Int) := by rw [ex137]; exact wk_add (show (-2147483648) ≤ x41.toInt + (1 : Int) by omega) (show x41.toInt + (1 : Int) ≤ 2147483647 by omega)
            refine tk_iald hC hK hw hT kM_at4 rfl rfl (show 0 ≤ x137.toInt by omega) (show x137.toInt < 216 by omega) dX12_doing_89 (fun x138 c139 rx138 tx138 => ?_)
            have c139 : gi w1 4 (36 * v32_2.toInt + 3 * v32_3.toInt + 1).toNat = x138 := (congrArg (gi w1 4) (congrArg Int.toNat (show 36 * v32_2.toInt + 3 * v32_3.toInt + 1 = x137.toInt by omega))).trans c139
            refine wk_top x132 (c139.symm.trans c133) ?_
            refine lv_aload_n hx hb dX12_doing_90 rfl (lv_at hl 1 rfl) ?_
            refine tk_getA hC hK hw hT hinX12 kM_at0 (by decide) rfl 5 (by decide) (List.mem_of_getElem? (i := 2) rfl) rfl rfl dX12_doing_91 ?_
            refine lv_iload hx hb dX12_doing_94 (lv_at hl 0 rfl) ?_
            refine lv_iconst (v := 2) hx hb dX12_doing_96 (by decide) ?_
            refine lv_iadd hx hb dX12_doing_97 ?_
            refine lv_topi (fun x140 ex140 => ?_)
            have ex140 : x140.toInt = x41.toInt + (2 : Int) := by rw [ex140]; exact wk_add (show (-2147483648) ≤ x41.toInt + (2 : Int) by omega) (show x41.toInt + (2 : Int) ≤ 2147483647 by omega)
            refine tk_iald hC hK hw hT kM_at4 rfl rfl (show 0 ≤ x140.toInt by omega) (show x140.toInt < 216 by omega) dX12_doing_98 (fun x141 c142 rx141 tx141 => ?_)
            have c142 : gi w1 4 (36 * v32_2.toInt + 3 * v32_3.toInt + 2).toNat = x141 := (congrArg (gi w1 4) (congrArg Int.toNat (show 36 * v32_2.toInt + 3 * v32_3.toInt + 2 = x140.toInt by omega))).trans c142
            have hz := (hRW v32_2.toInt v32_3.toInt (by omega) (by omega) (by omega) (by rw [c37]; omega)).resolve_left (by rw [c133]; omega)
            rw [c133, c142] at hz
            obtain ⟨hz1, hz2, hz3⟩ := hz
            obtain ⟨x143, c144, rx143, tx143⟩ := hT.rdi (lo := 0) (hi := 64) (k := 24) kM_at0 (by decide) rfl
            refine tk_Vl hC hK hw hT hA hE hSR kM_at0 (by decide) rfl (k_X12_reckons_1 l adK adV dC dI cy ad B (by omega) (by omega) qr s1   v32_2 (show 0 ≤ v32_2.toInt by omega) (show v32_2.toInt ≤ 5 by omega) x132 (show 0 ≤ x132.toInt by omega) (show x132.toInt ≤ 400 by omega) x141 (show 0 ≤ x141.toInt by omega) (show x141.toInt ≤ 400 by omega) w1 H.size hT x143 c144 (show 0 ≤ x143.toInt by omega) (show x143.toInt ≤ 64 by omega) ⟨hz1, hz3⟩) (cwV 3 hC.2.2.2.2 gX12_doing_X12_reckons rfl rfl rfl (by decide +kernel) ⟨Nat.le_of_ble_eq_true rfl, Nat.le_of_ble_eq_true rfl⟩) rfl hl.1 rfl (Nat.le_of_ble_eq_true rfl) dX12_doing_99 (fun r145 w147 H locs hp146 hw => ?_)
            obtain ⟨hT, k148, hg151⟩ := hp146
            have hRW := RW_FE k148 (fun _ => rfl) (fun _ => rfl) (fun _ => rfl) hRW
            have hq152 := mAS_FE k148 (fun _ => rfl) (by decide) hq61
            have hF := hF.tr k148 (by decide)
            have c153 := k148.gi kM_at0 (by decide) c8
            have c154 := k148.gi kM_at12 (by decide) c11
            have c155 := k148.gi kM_at12 (by decide) c14
            have c156 := k148.gi kM_at5 rfl c37
            have c157 := k148.gi kM_at4 rfl c43
            have c158 := k148.gi kM_at12 (by decide) c60
            have c159 := k148.gi kM_at4 rfl c133
            have c160 := k148.gi kM_at4 rfl c142
            obtain ⟨x149, c150, rx149, tx149⟩ := hg151
            refine lv_lconst (v := 1) hx hb dX12_doing_102 (by decide) ?_
            refine W.lcmp hx hb dX12_doing_103 ?_
            refine lv_if_ne (tgt := 115) hx hb dX12_doing_104 (by decide) (fun c161 => ?_) (fun c161 => ?_)
            · have c161 : ¬ r145.toInt = (1 : Int) := wk_ceF c161
              exact J115 x41 x42 x36 H locs ls w147 (show 0 ≤ v32_2.toInt by omega) (show v32_2.toInt ≤ 5 by omega) (show 0 ≤ v32_3.toInt by omega) (show v32_3.toInt ≤ 11 by omega) (show 0 ≤ x41.toInt by omega) (show x41.toInt ≤ 213 by omega) (show 0 ≤ f32_0_30.toInt by omega) (show f32_0_30.toInt ≤ 1 by omega) (show 0 ≤ f32_12_219.toInt by omega) (show f32_12_219.toInt ≤ 5 by omega) (show (-1) ≤ f32_12_223.toInt by omega) (show f32_12_223.toInt ≤ 9 by omega) (show 1 ≤ x36.toInt by omega) (show x36.toInt ≤ 12 by omega)  hw hT hF hRW c153 c154 c155 c157 c156 (lv_sub hl [1, 2, 3, 4, 0] rfl)
            · have c161 : r145.toInt = (1 : Int) := wk_ceT c161
              refine lv_aload_n hx hb dX12_doing_107 rfl (lv_at hl 1 rfl) ?_
              refine tk_getA hC hK hw hT hinX12 kM_at0 (by decide) rfl 5 (by decide) (List.mem_of_getElem? (i := 2) rfl) rfl rfl dX12_doing_108 ?_
              refine lv_iload hx hb dX12_doing_111 (lv_at hl 0 rfl) ?_
              refine tk_iald hC hK hw hT kM_at4 rfl rfl (show 0 ≤ x41.toInt by omega) (show x41.toInt < 216 by omega) dX12_doing_113 (fun x162 c163 rx162 tx162 => ?_)
              have c163 : gi w147 4 (36 * v32_2.toInt + 3 * v32_3.toInt + 0).toNat = x162 := (congrArg (gi w147 4) (congrArg Int.toNat (show 36 * v32_2.toInt + 3 * v32_3.toInt + 0 = x41.toInt by omega))).trans c163
              refine wk_top x42 (c163.symm.trans c157) ?_
              exact tk_iret hC hr hlocks hK ⟨hT, hF, (Or.inr (Or.inr (Or.inr (Or.inl ⟨(wk_eq.mpr (show x42.toInt = 1 by omega)), ⟨x59, c158, (show 1 ≤ x59.toInt by omega), (show x59.toInt ≤ 12 by omega)⟩, ⟨f32_12_219, c154, (show 0 ≤ f32_12_219.toInt by omega), (show f32_12_219.toInt ≤ 5 by omega)⟩, (by exact hq152)⟩))))⟩ hw dX12_doing_114
        · have ex64 : x64.toInt = f32_0_30.toInt := by rw [← c8.symm.trans c65]
          refine lv_if_eq (tgt := 115) hx hb dX12_doing_64 (by decide) (fun c => absurd c (by decide)) (fun _ => ?_)
          refine lv_aload_n hx hb dX12_doing_67 rfl (lv_at hl 1 rfl) ?_
          refine tk_getA hC hK hw hT hinX12 kM_at0 (by decide) rfl 5 (by decide) (List.mem_of_getElem? (i := 2) rfl) rfl rfl dX12_doing_68 ?_
          refine lv_iload hx hb dX12_doing_71 (lv_at hl 0 rfl) ?_
          refine lv_iconst (v := 1) hx hb dX12_doing_73 (by decide) ?_
          refine lv_iadd hx hb dX12_doing_74 ?_
          refine lv_topi (fun x164 ex164 => ?_)
          have ex164 : x164.toInt = x41.toInt + (1 : Int) := by rw [ex164]; exact wk_add (show (-2147483648) ≤ x41.toInt + (1 : Int) by omega) (show x41.toInt + (1 : Int) ≤ 2147483647 by omega)
          refine tk_iald hC hK hw hT kM_at4 rfl rfl (show 0 ≤ x164.toInt by omega) (show x164.toInt < 216 by omega) dX12_doing_75 (fun x165 c166 rx165 tx165 => ?_)
          have c166 : gi w1 4 (36 * v32_2.toInt + 3 * v32_3.toInt + 1).toNat = x165 := (congrArg (gi w1 4) (congrArg Int.toNat (show 36 * v32_2.toInt + 3 * v32_3.toInt + 1 = x164.toInt by omega))).trans c166
          refine lv_if_lt (tgt := 107) hx hb dX12_doing_76 (by decide) (fun c167 => ?_) (fun c167 => ?_)
          · have c167 : x165.toInt < (0 : Int) := wk_lt.mp c167
            refine lv_aload_n hx hb dX12_doing_107 rfl (lv_at hl 1 rfl) ?_
            refine tk_getA hC hK hw hT hinX12 kM_at0 (by decide) rfl 5 (by decide) (List.mem_of_getElem? (i := 2) rfl) rfl rfl dX12_doing_108 ?_
            refine lv_iload hx hb dX12_doing_111 (lv_at hl 0 rfl) ?_
            refine tk_iald hC hK hw hT kM_at4 rfl rfl (show 0 ≤ x41.toInt by omega) (show x41.toInt < 216 by omega) dX12_doing_113 (fun x168 c169 rx168 tx168 => ?_)
            have c169 : gi w1 4 (36 * v32_2.toInt + 3 * v32_3.toInt + 0).toNat = x168 := (congrArg (gi w1 4) (congrArg Int.toNat (show 36 * v32_2.toInt + 3 * v32_3.toInt + 0 = x41.toInt by omega))).trans c169
            refine wk_top x42 (c169.symm.trans c43) ?_
            exact tk_iret hC hr hlocks hK ⟨hT, hF, (Or.inr (Or.inr (Or.inr (Or.inr (Or.inl ⟨(wk_eq.mpr (show x42.toInt = 2 by omega)), ⟨f32_0_30, c8, (show 0 ≤ f32_0_30.toInt by omega), (show f32_0_30.toInt ≤ 0 by omega)⟩, ⟨f32_12_219, c11, (show 0 ≤ f32_12_219.toInt by omega), (show f32_12_219.toInt ≤ 5 by omega)⟩⟩)))))⟩ hw dX12_doing_114
          · have c167 : (0 : Int) ≤ x165.toInt := wk_ltF c167
            refine lv_aload_n hx hb dX12_doing_79 rfl (lv_at hl 1 rfl) ?_
            refine lv_iload_n hx hb dX12_doing_80 rfl (lv_at hl 3 rfl) ?_
            refine lv_aload_n hx hb dX12_doing_81 rfl (lv_at hl 1 rfl) ?_
            refine tk_getA hC hK hw hT hinX12 kM_at0 (by decide) rfl 5 (by decide) (List.mem_of_getElem? (i := 2) rfl) rfl rfl dX12_doing_82 ?_
            refine lv_iload hx hb dX12_doing_85 (lv_at hl 0 rfl) ?_
            refine lv_iconst (v := 1) hx hb dX12_doing_87 (by decide) ?_
            refine lv_iadd hx hb dX12_doing_88 ?_
            refine lv_topi (fun x170 ex170 => ?_)
            have ex170 : x170.toInt = x41.toInt + (1 : Int) := by rw [ex170]; exact wk_add (show (-2147483648) ≤ x41.toInt + (1 : Int) by omega) (show x41.toInt + (1 : Int) ≤ 2147483647 by omega)
            refine tk_iald hC hK hw hT kM_at4 rfl rfl (show 0 ≤ x170.toInt by omega) (show x170.toInt < 216 by omega) dX12_doing_89 (fun x171 c172 rx171 tx171 => ?_)
            have c172 : gi w1 4 (36 * v32_2.toInt + 3 * v32_3.toInt + 1).toNat = x171 := (congrArg (gi w1 4) (congrArg Int.toNat (show 36 * v32_2.toInt + 3 * v32_3.toInt + 1 = x170.toInt by omega))).trans c172
            refine wk_top x165 (c172.symm.trans c166) ?_
            refine lv_aload_n hx hb dX12_doing_90 rfl (lv_at hl 1 rfl) ?_
            refine tk_getA hC hK hw hT hinX12 kM_at0 (by decide) rfl 5 (by decide) (List.mem_of_getElem? (i := 2) rfl) rfl rfl dX12_doing_91 ?_
            refine lv_iload hx hb dX12_doing_94 (lv_at hl 0 rfl) ?_
            refine lv_iconst (v := 2) hx hb dX12_doing_96 (by decide) ?_
            refine lv_iadd hx hb dX12_doing_97 ?_
            refine lv_topi (fun x173 ex173 => ?_)
            have ex173 : x173.toInt = x41.toInt + (2 : Int) := by rw [ex173]; exact wk_add (show (-2147483648) ≤ x41.toInt + (2 : Int) by omega) (show x41.toInt + (2 : Int) ≤ 2147483647 by omega)
            refine tk_iald hC hK hw hT kM_at4 rfl rfl (show 0 ≤ x173.toInt by omega) (show x173.toInt < 216 by omega) dX12_doing_98 (fun x174 c175 rx174 tx174 => ?_)
            have c175 : gi w1 4 (36 * v32_2.toInt + 3 * v32_3.toInt + 2).toNat = x174 := (congrArg (gi w1 4) (congrArg Int.toNat (show 36 * v32_2.toInt + 3 * v32_3.toInt + 2 = x173.toInt by omega))).trans c175
            have hz := (hRW v32_2.toInt v32_3.toInt (by omega) (by omega) (by omega) (by rw [c37]; omega)).resolve_left (by rw [c166]; omega)
            rw [c166, c175] at hz
            obtain ⟨hz1, hz2, hz3⟩ := hz
            obtain ⟨x176, c177, rx176, tx176⟩ := hT.rdi (lo := 0) (hi := 64) (k := 24) kM_at0 (by decide) rfl
            refine tk_Vl hC hK hw hT hA hE hSR kM_at0 (by decide) rfl (k_X12_reckons_1 l adK adV dC dI cy ad B (by omega) (by omega) qr s1   v32_2 (show 0 ≤ v32_2.toInt by omega) (show v32_2.toInt ≤ 5 by omega) x165 (show 0 ≤ x165.toInt by omega) (show x165.toInt ≤ 400 by omega) x174 (show 0 ≤ x174.toInt by omega) (show x174.toInt ≤ 400 by omega) w1 H.size hT x176 c177 (show 0 ≤ x176.toInt by omega) (show x176.toInt ≤ 64 by omega) ⟨hz1, hz3⟩) (cwV 3 hC.2.2.2.2 gX12_doing_X12_reckons rfl rfl rfl (by decide +kernel) ⟨Nat.le_of_ble_eq_true rfl, Nat.le_of_ble_eq_true rfl⟩) rfl hl.1 rfl (Nat.le_of_ble_eq_true rfl) dX12_doing_99 (fun r178 w180 H locs hp179 hw => ?_)
            obtain ⟨hT, k181, hg184⟩ := hp179
            have hRW := RW_FE k181 (fun _ => rfl) (fun _ => rfl) (fun _ => rfl) hRW
            have hF := hF.tr k181 (by decide)
            have c185 := k181.gi kM_at0 (by decide) c8
            have c186 := k181.gi kM_at12 (by decide) c11
            have c187 := k181.gi kM_at12 (by decide) c14
            have c188 := k181.gi kM_at5 rfl c37
            have c189 := k181.gi kM_at4 rfl c43
            have c190 := k181.gi kM_at4 rfl c166
            have c191 := k181.gi kM_at4 rfl c175
            obtain ⟨x182, c183, rx182, tx182⟩ := hg184
            refine lv_lconst (v := 1) hx hb dX12_doing_102 (by decide) ?_
            refine W.lcmp hx hb dX12_doing_103 ?_
            refine lv_if_ne (tgt := 115) hx hb dX12_doing_104 (by decide) (fun c192 => ?_) (fun c192 => ?_)
            · have c192 : ¬ r178.toInt = (1 : Int) := wk_ceF c192
              exact J115 x41 x42 x36 H locs ls w180 (show 0 ≤ v32_2.toInt by omega) (show v32_2.toInt ≤ 5 by omega) (show 0 ≤ v32_3.toInt by omega) (show v32_3.toInt ≤ 11 by omega) (show 0 ≤ x41.toInt by omega) (show x41.toInt ≤ 213 by omega) (show 0 ≤ f32_0_30.toInt by omega) (show f32_0_30.toInt ≤ 1 by omega) (show 0 ≤ f32_12_219.toInt by omega) (show f32_12_219.toInt ≤ 5 by omega) (show (-1) ≤ f32_12_223.toInt by omega) (show f32_12_223.toInt ≤ 9 by omega) (show 1 ≤ x36.toInt by omega) (show x36.toInt ≤ 12 by omega)  hw hT hF hRW c185 c186 c187 c189 c188 (lv_sub hl [1, 2, 3, 4, 0] rfl)
            · have c192 : r178.toInt = (1 : Int) := wk_ceT c192
              refine lv_aload_n hx hb dX12_doing_107 rfl (lv_at hl 1 rfl) ?_
              refine tk_getA hC hK hw hT hinX12 kM_at0 (by decide) rfl 5 (by decide) (List.mem_of_getElem? (i := 2) rfl) rfl rfl dX12_doing_108 ?_
              refine lv_iload hx hb dX12_doing_111 (lv_at hl 0 rfl) ?_
              refine tk_iald hC hK hw hT kM_at4 rfl rfl (show 0 ≤ x41.toInt by omega) (show x41.toInt < 216 by omega) dX12_doing_113 (fun x193 c194 rx193 tx193 => ?_)
              have c194 : gi w180 4 (36 * v32_2.toInt + 3 * v32_3.toInt + 0).toNat = x193 := (congrArg (gi w180 4) (congrArg Int.toNat (show 36 * v32_2.toInt + 3 * v32_3.toInt + 0 = x41.toInt by omega))).trans c194
              refine wk_top x42 (c194.symm.trans c189) ?_
              exact tk_iret hC hr hlocks hK ⟨hT, hF, (Or.inr (Or.inr (Or.inr (Or.inr (Or.inl ⟨(wk_eq.mpr (show x42.toInt = 2 by omega)), ⟨f32_0_30, c185, (show 0 ≤ f32_0_30.toInt by omega), (show f32_0_30.toInt ≤ 0 by omega)⟩, ⟨f32_12_219, c186, (show 0 ≤ f32_12_219.toInt by omega), (show f32_12_219.toInt ≤ 5 by omega)⟩⟩)))))⟩ hw dX12_doing_114
        · refine lv_if_eq (tgt := 115) hx hb dX12_doing_64 (by decide) (fun c => absurd c (by decide)) (fun _ => ?_)
          refine lv_aload_n hx hb dX12_doing_67 rfl (lv_at hl 1 rfl) ?_
          refine tk_getA hC hK hw hT hinX12 kM_at0 (by decide) rfl 5 (by decide) (List.mem_of_getElem? (i := 2) rfl) rfl rfl dX12_doing_68 ?_
          refine lv_iload hx hb dX12_doing_71 (lv_at hl 0 rfl) ?_
          refine lv_iconst (v := 1) hx hb dX12_doing_73 (by decide) ?_
          refine lv_iadd hx hb dX12_doing_74 ?_
          refine lv_topi (fun x195 ex195 => ?_)
          have ex195 : x195.toInt = x41.toInt + (1 : Int) := by rw [ex195]; exact wk_add (show (-2147483648) ≤ x41.toInt + (1 : Int) by omega) (show x41.toInt + (1 : Int) ≤ 2147483647 by omega)
          refine tk_iald hC hK hw hT kM_at4 rfl rfl (show 0 ≤ x195.toInt by omega) (show x195.toInt < 216 by omega) dX12_doing_75 (fun x196 c197 rx196 tx196 => ?_)
          have c197 : gi w1 4 (36 * v32_2.toInt + 3 * v32_3.toInt + 1).toNat = x196 := (congrArg (gi w1 4) (congrArg Int.toNat (show 36 * v32_2.toInt + 3 * v32_3.toInt + 1 = x195.toInt by omega))).trans c197
          refine lv_if_lt (tgt := 107) hx hb dX12_doing_76 (by decide) (fun c198 => ?_) (fun c198 => ?_)
          · have c198 : x196.toInt < (0 : Int) := wk_lt.mp c198
            refine lv_aload_n hx hb dX12_doing_107 rfl (lv_at hl 1 rfl) ?_
            refine tk_getA hC hK hw hT hinX12 kM_at0 (by decide) rfl 5 (by decide) (List.mem_of_getElem? (i := 2) rfl) rfl rfl dX12_doing_108 ?_
            refine lv_iload hx hb dX12_doing_111 (lv_at hl 0 rfl) ?_
            refine tk_iald hC hK hw hT kM_at4 rfl rfl (show 0 ≤ x41.toInt by omega) (show x41.toInt < 216 by omega) dX12_doing_113 (fun x199 c200 rx199 tx199 => ?_)
            have c200 : gi w1 4 (36 * v32_2.toInt + 3 * v32_3.toInt + 0).toNat = x199 := (congrArg (gi w1 4) (congrArg Int.toNat (show 36 * v32_2.toInt + 3 * v32_3.toInt + 0 = x41.toInt by omega))).trans c200
            refine wk_top x42 (c200.symm.trans c43) ?_
            exact tk_iret hC hr hlocks hK ⟨hT, hF, (Or.inr (Or.inl ⟨(show 3 ≤ x42.toInt by omega), ⟨f32_12_219, c11, (show 0 ≤ f32_12_219.toInt by omega), (show f32_12_219.toInt ≤ 5 by omega)⟩⟩))⟩ hw dX12_doing_114
          · have c198 : (0 : Int) ≤ x196.toInt := wk_ltF c198
            refine lv_aload_n hx hb dX12_doing_79 rfl (lv_at hl 1 rfl) ?_
            refine lv_iload_n hx hb dX12_doing_80 rfl (lv_at hl 3 rfl) ?_
            refine lv_aload_n hx hb dX12_doing_81 rfl (lv_at hl 1 rfl) ?_
            refine tk_getA hC hK hw hT hinX12 kM_at0 (by decide) rfl 5 (by decide) (List.mem_of_getElem? (i := 2) rfl) rfl rfl dX12_doing_82 ?_
            refine lv_iload hx hb dX12_doing_85 (lv_at hl 0 rfl) ?_
            refine lv_iconst (v := 1) hx hb dX12_doing_87 (by decide) ?_
            refine lv_iadd hx hb dX12_doing_88 ?_
            refine lv_topi (fun x201 ex201 => ?_)
            have ex201 : x201.toInt = x41.toInt + (1 : Int) := by rw [ex201]; exact wk_add (show (-2147483648) ≤ x41.toInt + (1 : Int) by omega) (show x41.toInt + (1 : Int) ≤ 2147483647 by omega)
            refine tk_iald hC hK hw hT kM_at4 rfl rfl (show 0 ≤ x201.toInt by omega) (show x201.toInt < 216 by omega) dX12_doing_89 (fun x202 c203 rx202 tx202 => ?_)
            have c203 : gi w1 4 (36 * v32_2.toInt + 3 * v32_3.toInt + 1).toNat = x202 := (congrArg (gi w1 4) (congrArg Int.toNat (show 36 * v32_2.toInt + 3 * v32_3.toInt + 1 = x201.toInt by omega))).trans c203
            refine wk_top x196 (c203.symm.trans c197) ?_
            refine lv_aload_n hx hb dX12_doing_90 rfl (lv_at hl 1 rfl) ?_
            refine tk_getA hC hK hw hT hinX12 kM_at0 (by decide) rfl 5 (by decide) (List.mem_of_getElem? (i := 2) rfl) rfl rfl dX12_doing_91 ?_
            refine lv_iload hx hb dX12_doing_94 (lv_at hl 0 rfl) ?_
            refine lv_iconst (v := 2) hx hb dX12_doing_96 (by decide) ?_
            refine lv_iadd hx hb dX12_doing_97 ?_
            refine lv_topi (fun x204 ex204 => ?_)
            have ex204 : x204.toInt = x41.toInt + (2 : Int) := by rw [ex204]; exact wk_add (show (-2147483648) ≤ x41.toInt + (2 : Int) by omega) (show x41.toInt + (2 : Int) ≤ 2147483647 by omega)
            refine tk_iald hC hK hw hT kM_at4 rfl rfl (show 0 ≤ x204.toInt by omega) (show x204.toInt < 216 by omega) dX12_doing_98 (fun x205 c206 rx205 tx205 => ?_)
            have c206 : gi w1 4 (36 * v32_2.toInt + 3 * v32_3.toInt + 2).toNat = x205 := (congrArg (gi w1 4) (congrArg Int.toNat (show 36 * v32_2.toInt + 3 * v32_3.toInt + 2 = x204.toInt by omega))).trans c206
            have hz := (hRW v32_2.toInt v32_3.toInt (by omega) (by omega) (by omega) (by rw [c37]; omega)).resolve_left (by rw [c197]; omega)
            rw [c197, c206] at hz
            obtain ⟨hz1, hz2, hz3⟩ := hz
            obtain ⟨x207, c208, rx207, tx207⟩ := hT.rdi (lo := 0) (hi := 64) (k := 24) kM_at0 (by decide) rfl
            refine tk_Vl hC hK hw hT hA hE hSR kM_at0 (by decide) rfl (k_X12_reckons_1 l adK adV dC dI cy ad B (by omega) (by omega) qr s1   v32_2 (show 0 ≤ v32_2.toInt by omega) (show v32_2.toInt ≤ 5 by omega) x196 (show 0 ≤ x196.toInt by omega) (show x196.toInt ≤ 400 by omega) x205 (show 0 ≤ x205.toInt by omega) (show x205.toInt ≤ 400 by omega) w1 H.size hT x207 c208 (show 0 ≤ x207.toInt by omega) (show x207.toInt ≤ 64 by omega) ⟨hz1, hz3⟩) (cwV 3 hC.2.2.2.2 gX12_doing_X12_reckons rfl rfl rfl (by decide +kernel) ⟨Nat.le_of_ble_eq_true rfl, Nat.le_of_ble_eq_true rfl⟩) rfl hl.1 rfl (Nat.le_of_ble_eq_true rfl) dX12_doing_99 (fun r209 w211 H locs hp210 hw => ?_)
            obtain ⟨hT, k212, hg215⟩ := hp210
            have hRW := RW_FE k212 (fun _ => rfl) (fun _ => rfl) (fun _ => rfl) hRW
            have hF := hF.tr k212 (by decide)
            have c216 := k212.gi kM_at0 (by decide) c8
            have c217 := k212.gi kM_at12 (by decide) c11
            have c218 := k212.gi kM_at12 (by decide) c14
            have c219 := k212.gi kM_at5 rfl c37
            have c220 := k212.gi kM_at4 rfl c43
            have c221 := k212.gi kM_at4 rfl c197
            have c222 := k212.gi kM_at4 rfl c206
            obtain ⟨x213, c214, rx213, tx213⟩ := hg215
            refine lv_lconst (v := 1) hx hb dX12_doing_102 (by decide) ?_
            refine W.lcmp hx hb dX12_doing_103 ?_
            refine lv_if_ne (tgt := 115) hx hb dX12_doing_104 (by decide) (fun c223 => ?_) (fun c223 => ?_)
            · have c223 : ¬ r209.toInt = (1 : Int) := wk_ceF c223
              exact J115 x41 x42 x36 H locs ls w211 (show 0 ≤ v32_2.toInt by omega) (show v32_2.toInt ≤ 5 by omega) (show 0 ≤ v32_3.toInt by omega) (show v32_3.toInt ≤ 11 by omega) (show 0 ≤ x41.toInt by omega) (show x41.toInt ≤ 213 by omega) (show 0 ≤ f32_0_30.toInt by omega) (show f32_0_30.toInt ≤ 1 by omega) (show 0 ≤ f32_12_219.toInt by omega) (show f32_12_219.toInt ≤ 5 by omega) (show (-1) ≤ f32_12_223.toInt by omega) (show f32_12_223.toInt ≤ 9 by omega) (show 1 ≤ x36.toInt by omega) (show x36.toInt ≤ 12 by omega)  hw hT hF hRW c216 c217 c218 c220 c219 (lv_sub hl [1, 2, 3, 4, 0] rfl)
            · have c223 : r209.toInt = (1 : Int) := wk_ceT c223
              refine lv_aload_n hx hb dX12_doing_107 rfl (lv_at hl 1 rfl) ?_
              refine tk_getA hC hK hw hT hinX12 kM_at0 (by decide) rfl 5 (by decide) (List.mem_of_getElem? (i := 2) rfl) rfl rfl dX12_doing_108 ?_
              refine lv_iload hx hb dX12_doing_111 (lv_at hl 0 rfl) ?_
              refine tk_iald hC hK hw hT kM_at4 rfl rfl (show 0 ≤ x41.toInt by omega) (show x41.toInt < 216 by omega) dX12_doing_113 (fun x224 c225 rx224 tx224 => ?_)
              have c225 : gi w211 4 (36 * v32_2.toInt + 3 * v32_3.toInt + 0).toNat = x224 := (congrArg (gi w211 4) (congrArg Int.toNat (show 36 * v32_2.toInt + 3 * v32_3.toInt + 0 = x41.toInt by omega))).trans c225
              refine wk_top x42 (c225.symm.trans c220) ?_
              exact tk_iret hC hr hlocks hK ⟨hT, hF, (Or.inr (Or.inl ⟨(show 3 ≤ x42.toInt by omega), ⟨f32_12_219, c217, (show 0 ≤ f32_12_219.toInt by omega), (show f32_12_219.toInt ≤ 5 by omega)⟩⟩))⟩ hw dX12_doing_114
  refine lv_aload_n hx hb dX12_doing_0 rfl (lv_at hl 0 rfl) ?_
  refine lv_iload_n hx hb dX12_doing_1 rfl (lv_at hl 1 rfl) ?_
  refine lv_iconst (v := 3) hx hb dX12_doing_2 (by decide) ?_
  refine tk_Vi hC hK hw hT hA hE hSR kM_at0 (by decide) rfl (k_X12_walkerOf_15 l adK adV dC dI cy ad B (by omega) (by omega) qr s1    w0 s.heap.size hT ) (cwV 2 hC.2.2.2.2 gX12_doing_X12_walkerOf rfl rfl rfl (by decide +kernel) ⟨Nat.le_of_ble_eq_true rfl, Nat.le_of_ble_eq_true rfl⟩) rfl hl.1 rfl (Nat.le_of_ble_eq_true rfl) dX12_doing_3 (fun r226 w228 H locs hp227 hw => ?_)
  obtain ⟨rfl, hg233⟩ := hp227
  obtain ⟨g230, g231, c232⟩ := hg233
  refine lv_istore_n (lv' := [(2, .int r226), (0, .ref (ad 0)), (1, .int 0)]) hx hb dX12_doing_6 rfl hl (by decide) rfl (fun ls hl => ?_)
  refine lv_iload_n hx hb dX12_doing_7 rfl (lv_at hl 0 rfl) ?_
  refine lv_if_ge (tgt := 25) hx hb dX12_doing_8 (by decide) (fun c234 => ?_) (fun c234 => ?_)
  · have c234 : (0 : Int) ≤ r226.toInt := wk_le.mp c234
    refine lv_aload_n hx hb dX12_doing_25 rfl (lv_at hl 1 rfl) ?_
    refine lv_iload_n hx hb dX12_doing_26 rfl (lv_at hl 2 rfl) ?_
    refine tk_Vv hC hK hw hT hA hE hSR kM_at0 (by decide) rfl (k_X12_words_2 l adK adV dC dI cy ad B (by omega) (by omega) qr s1    w0 H.size hT ) (cwV 1 hC.2.2.2.2 gX12_doing_X12_words rfl rfl rfl (by decide +kernel) ⟨Nat.le_of_ble_eq_true rfl, Nat.le_of_ble_eq_true rfl⟩) rfl hl.1 rfl (Nat.le_of_ble_eq_true rfl) dX12_doing_27 (fun w237 H locs hp236 hw => ?_)
    obtain ⟨hT, k238, hg243⟩ := hp236
    have hRW := RW_FE k238 (fun _ => rfl) (fun _ => rfl) (fun _ => rfl) hRW
    have hF := hF.tr k238 (by decide)
    have c244 := k238.gi kM_at12 (by decide) c232
    obtain ⟨⟨x239, c240, rx239, tx239⟩, ⟨x241, c242, rx241, tx241⟩⟩ := hg243
    refine lv_iconst (v := 0) hx hb dX12_doing_30 (by decide) ?_
    refine lv_istore_n (lv' := [(3, .int 0), (2, .int r226), (0, .ref (ad 0)), (1, .int 0)]) hx hb dX12_doing_31 rfl hl (by decide) rfl (fun ls hl => ?_)
    exact L32 ((12 - (0 : Int)).toNat + 1) r226 0 x239 r226 x241 H locs ls w237 (show 0 ≤ r226.toInt by omega) (show r226.toInt ≤ 5 by omega) (by decide) (by decide) (show 0 ≤ x239.toInt by omega) (show x239.toInt ≤ 1 by omega) (show 0 ≤ r226.toInt by omega) (show r226.toInt ≤ 5 by omega) (show (-1) ≤ x241.toInt by omega) (show x241.toInt ≤ 9 by omega) (Nat.lt_succ_self _) hw hT hF hRW c240 c244 c242 (lv_sub hl [2, 3, 1, 0] rfl)
  · have c234 : r226.toInt < (0 : Int) := wk_leF c234
    refine lv_aload_n hx hb dX12_doing_11 rfl (lv_at hl 1 rfl) ?_
    refine lv_iload_n hx hb dX12_doing_12 rfl (lv_at hl 2 rfl) ?_
    refine tk_Vi hC hK hw hT hA hE hSR kM_at0 (by decide) rfl (k_X12_canGo_2 l adK adV dC dI cy ad B (by omega) (by omega) qr s1    w0 H.size hT ) (cwV 1 hC.2.2.2.2 gX12_doing_X12_canGo rfl rfl rfl (by decide +kernel) ⟨Nat.le_of_ble_eq_true rfl, Nat.le_of_ble_eq_true rfl⟩) rfl hl.1 rfl (Nat.le_of_ble_eq_true rfl) dX12_doing_13 (fun r245 w247 H locs hp246 hw => ?_)
    obtain ⟨rfl, hg251⟩ := hp246
    rcases hg251 with rfl | ⟨rfl, ⟨x249, c250, rx249, tx249⟩⟩
    · refine lv_if_eq (tgt := 23) hx hb dX12_doing_16 (by decide) (fun _ => ?_) (fun c => absurd (by decide) c)
      refine lv_iconst (v := 3) hx hb dX12_doing_23 (by decide) ?_
      exact tk_iret hC hr hlocks hK ⟨hT, hF, (Or.inr (Or.inr (Or.inr (Or.inr (Or.inr ⟨rfl, ⟨r226, c232, (show (-1) ≤ r226.toInt by omega), (show r226.toInt ≤ 5 by omega)⟩⟩)))))⟩ hw dX12_doing_24
    · refine lv_if_eq (tgt := 23) hx hb dX12_doing_16 (by decide) (fun c => absurd c (by decide)) (fun _ => ?_)
      refine lv_iconst (v := 0) hx hb dX12_doing_19 (by decide) ?_
      refine lv_goto (tgt := 24) hx hb dX12_doing_20 (by decide) ?_
      exact tk_iret hC hr hlocks hK ⟨hT, hF, (Or.inr (Or.inr (Or.inl ⟨rfl, ⟨x249, c250, (show 0 ≤ x249.toInt by omega), (show x249.toInt ≤ 11 by omega)⟩, ⟨r226, c232, (show (-1) ≤ r226.toInt by omega), (show r226.toInt ≤ 5 by omega)⟩⟩)))⟩ hw dX12_doing_24
abbrev P_X12_walkerOf_19 (ad : Nat → Nat) (cy : Nat → ClassId) (B : Int) (qr : Nat) (s1 : Int)  (w0 : va_W) : Int32 → va_W → Prop := fun r u => w0 = u ∧ ((0 ≤ r.toInt ∧ r.toInt ≤ 3 ∧ gi u 12 218 = r))
set_option maxHeartbeats 4000000 in
set_option maxRecDepth 100000 in
theorem k_X12_walkerOf_19 (l : Launch) (adK adV : Nat → Nat) (dC : Nat → ClassId) (dI : Nat → Nat → Nat) (cy : Nat → ClassId) (ad : Nat → Nat) (B : Int) (hB0 : 100000 ≤ B) (hB1 : B ≤ 1073741824) (qr : Nat) (s1 : Int)   (w0 : va_W) (sz : Nat) (hT : TW ksM ad cy B qr 12 w0)  : Met l yX12_walkerOf wsX12_walkerOf ({ frames := 1, cells := 0, slots := 0, locals := 12 }) (va_Pc [.ref (ad 0), .int 0, .int 2] (wpreS adK adV dC dI cy sz w0)) (va_Qi (P_X12_walkerOf_19 ad cy B qr s1  w0) (fun u : va_W => wpost dC dI cy (va_A w0 sz) u) (va_A w0 sz)) 0 0 (va_A w0 sz) := by
  refine Met.ofW (cc := cX12_walkerOf) (maxL := 3) (ret := (some .int)) (by decide) rfl ?_
  intro p e s m args below meth c s₁ Bk hml hv
  obtain ⟨rfl, ⟨hsz, hP, hK, hD0⟩, hE, hSR⟩ := hv
  have hx := Bk.exec
  have hb := Bk.bytes
  have hr := Bk.returns
  have hlocks := Bk.notSynchronized
  have hC : CallFix p m c cX12_walkerOf 3 s _ wsX12_walkerOf RX12 := ⟨hx, hb, hml, findClass_of_methodNamed Bk.named, atoms_spec (ws := wsX12_walkerOf) Bk.pre⟩
  subst hsz
  have hD := hD0.self (sz := s.heap.size)
  generalize hAe : va_A w0 s.heap.size = A at hD hE ⊢
  have hA : ∀ q : Nat, s.heap.size ≤ q → A q := fun q h => by rw [← hAe]; exact Or.inr h
  have hw : Wd dC dI A s.heap s.heap [] w0 := ⟨hP, hD, va_S.rf⟩
  have hF : FE ksM ([] : List (Nat × Nat × Nat)) w0 w0 := FE.rf
  have hl := lv_entry ([.ref (ad 0), .int 0, .int 2]) (n := 3) (Nat.le_of_ble_eq_true rfl)
  rw [lg_entry_eq]
  generalize (lg_sl ([.ref (ad 0), .int 0, .int 2]) ++ List.replicate (3 - (lg_sl ([.ref (ad 0), .int 0, .int 2])).length) Slot.unset).toArray = ls at hl ⊢
  have hl : lv_has ls 3 [(0, .ref (ad 0)), (1, .int 0), (2, .int 2)] := hl
  generalize hloc : ([] : List Loc) = locs at hw ⊢
  have hinX12 : ∀ w ∈ u_ws RX12 TX12 42, w ∈ wsX12_walkerOf := fun _ h => List.mem_cons_of_mem _ (List.mem_append_right _ (h))
  refine lv_aload_n hx hb dX12_walkerOf_0 rfl (lv_at hl 0 rfl) ?_
  refine tk_getA hC hK hw hT hinX12 kM_at0 (by decide) rfl 26 (by decide) (List.mem_of_getElem? (i := 1) rfl) rfl rfl dX12_walkerOf_1 ?_
  refine lv_sipush (v := 216) hx hb dX12_walkerOf_4 (by decide) ?_
  refine lv_bipush (v := 9) hx hb dX12_walkerOf_7 (by decide) ?_
  refine lv_iload_n hx hb dX12_walkerOf_9 rfl (lv_at hl 1 rfl) ?_
  refine lv_imul hx hb dX12_walkerOf_10 ?_
  refine wk_top 0 (by decide) ?_
  refine lv_iadd hx hb dX12_walkerOf_11 ?_
  refine wk_top 216 (by decide) ?_
  refine lv_iload_n hx hb dX12_walkerOf_12 rfl (lv_at hl 2 rfl) ?_
  refine lv_iadd hx hb dX12_walkerOf_13 ?_
  refine wk_top 218 (by decide) ?_
  refine tk_ialdR hC hK hw hT kM_at12 rfl (by decide) (by decide) dX12_walkerOf_14 (fun x1 c2 Ex1 => ?_)
  have bx1 := tk_rgI rfl 218 1 1 0 3 (by decide +kernel) ⟨0, by decide, by decide⟩ Ex1
  have c2 : gi w0 12 218 = x1 := c2
  exact tk_iret hC hr hlocks hK ⟨rfl, ⟨(show 0 ≤ x1.toInt by omega), (show x1.toInt ≤ 3 by omega), c2⟩⟩ hw dX12_walkerOf_15
abbrev P_X12_looks_2 (ad : Nat → Nat) (cy : Nat → ClassId) (B : Int) (qr : Nat) (s1 : Int)  (w0 : va_W) : va_W → Prop := fun u => TW ksM ad cy B qr 12 u ∧ FE ksM [(12, 31, 31), (72, 0, 12), (73, 0, 10)] w0 u ∧ (((∃ y : Int32, gi u 0 31 = y ∧ (-1) ≤ y.toInt ∧ y.toInt ≤ 11)))
set_option maxHeartbeats 4000000 in
set_option maxRecDepth 100000 in
theorem k_X12_looks_2 (l : Launch) (adK adV : Nat → Nat) (dC : Nat → ClassId) (dI : Nat → Nat → Nat) (cy : Nat → ClassId) (ad : Nat → Nat) (B : Int) (hB0 : 100000 ≤ B) (hB1 : B ≤ 1073741824) (qr : Nat) (s1 : Int)   (w0 : va_W) (sz : Nat) (hT : TW ksM ad cy B qr 12 w0)  : Met l yX12_looks wsX12_looks ({ frames := 4, cells := 0, slots := 0, locals := 79 }) (va_Pc [.ref (ad 0), .int 0] (wpreS adK adV dC dI cy sz w0)) (va_Qv (P_X12_looks_2 ad cy B qr s1  w0) (fun u : va_W => wpost dC dI cy (va_A w0 sz) u) (va_A w0 sz)) 0 0 (va_A w0 sz) := by
  refine Met.ofW (cc := cX12_looks) (maxL := 2) (ret := none) (by decide) rfl ?_
  intro p e s m args below meth c s₁ Bk hml hv
  obtain ⟨rfl, ⟨hsz, hP, hK, hD0⟩, hE, hSR⟩ := hv
  have hx := Bk.exec
  have hb := Bk.bytes
  have hr := Bk.returns
  have hlocks := Bk.notSynchronized
  have hC : CallFix p m c cX12_looks 2 s _ wsX12_looks RX12 := ⟨hx, hb, hml, findClass_of_methodNamed Bk.named, atoms_spec (ws := wsX12_looks) Bk.pre⟩
  subst hsz
  have hD := hD0.self (sz := s.heap.size)
  generalize hAe : va_A w0 s.heap.size = A at hD hE ⊢
  have hA : ∀ q : Nat, s.heap.size ≤ q → A q := fun q h => by rw [← hAe]; exact Or.inr h
  have hw : Wd dC dI A s.heap s.heap [] w0 := ⟨hP, hD, va_S.rf⟩
  have hF : FE ksM [(12, 31, 31), (72, 0, 12), (73, 0, 10)] w0 w0 := FE.rf
  have hl := lv_entry ([.ref (ad 0), .int 0]) (n := 2) (Nat.le_of_ble_eq_true rfl)
  rw [lg_entry_eq]
  generalize (lg_sl ([.ref (ad 0), .int 0]) ++ List.replicate (2 - (lg_sl ([.ref (ad 0), .int 0])).length) Slot.unset).toArray = ls at hl ⊢
  have hl : lv_has ls 2 [(0, .ref (ad 0)), (1, .int 0)] := hl
  generalize hloc : ([] : List Loc) = locs at hw ⊢
  have hinX12 : ∀ w ∈ u_ws RX12 TX12 42, w ∈ wsX12_looks := fun _ h => List.mem_cons_of_mem _ (List.mem_append_right _ (h))
  have J44 : ∀ (H : Heap) (locs : List Loc) (ls : Array Slot) (w1 : va_W), Wd dC dI A s.heap H locs w1 → TW ksM ad cy B qr 12 w1 → FE ksM [(12, 31, 31), (72, 0, 12), (73, 0, 10)] w0 w1 → lv_has ls 2 [(0, .ref (ad 0)), (1, .int 0)] → W p l e ({ frames := 4, cells := 0, slots := 0, locals := 79 }) s m (List.toArray [.ref (ad 0), .int 0]) below meth c H locs 0 0 (MQ below (va_Qv (P_X12_looks_2 ad cy B qr s1  w0) (fun u : va_W => wpost dC dI cy A u) A) (List.toArray [.ref (ad 0), .int 0]) s 0 0 A) (F0 m 44 ls []) := by
    intro H locs ls w1 hw hT hF hl
    refine lv_aload_n hx hb dX12_looks_44 rfl (lv_at hl 0 rfl) ?_
    refine lv_aload_n hx hb dX12_looks_45 rfl (lv_at hl 0 rfl) ?_
    refine lv_iload_n hx hb dX12_looks_46 rfl (lv_at hl 1 rfl) ?_
    refine lv_iconst (v := 1) hx hb dX12_looks_47 (by decide) ?_
    refine tk_Vi hC hK hw hT hA hE hSR kM_at0 (by decide) rfl (k_X12_walkerOf_12 l adK adV dC dI cy ad B (by omega) (by omega) qr s1    w1 H.size hT ) (cwV 2 hC.2.2.2.2 gX12_looks_X12_walkerOf rfl rfl rfl (by decide +kernel) ⟨Nat.le_of_ble_eq_true rfl, Nat.le_of_ble_eq_true rfl⟩) rfl hl.1 rfl (Nat.le_of_ble_eq_true rfl) dX12_looks_48 (fun r2 w4 H locs hp3 hw => ?_)
    obtain ⟨rfl, hg9⟩ := hp3
    obtain ⟨g6, g7, c8⟩ := hg9
    refine tk_Vv hC hK hw hT hA hE hSR kM_at0 (by decide) rfl (k_X12_spreads_1 l adK adV dC dI cy ad B (by omega) (by omega) qr s1   r2 (show 0 ≤ r2.toInt by omega) (show r2.toInt ≤ 9 by omega) w1 H.size hT ) (cwV 1 hC.2.2.2.2 gX12_looks_X12_spreads rfl rfl rfl (by decide +kernel) ⟨Nat.le_of_ble_eq_true rfl, Nat.le_of_ble_eq_true rfl⟩) rfl hl.1 rfl (Nat.le_of_ble_eq_true rfl) dX12_looks_51 (fun w12 H locs hp11 hw => ?_)
    obtain ⟨hT, k13, hg14⟩ := hp11
    have hF := hF.tr k13 (by decide)
    have c15 := k13.gi kM_at12 (by decide) c8
    clear hg14
    refine lv_aload_n hx hb dX12_looks_54 rfl (lv_at hl 0 rfl) ?_
    refine lv_aload_n hx hb dX12_looks_55 rfl (lv_at hl 0 rfl) ?_
    refine lv_aload_n hx hb dX12_looks_56 rfl (lv_at hl 0 rfl) ?_
    refine lv_iload_n hx hb dX12_looks_57 rfl (lv_at hl 1 rfl) ?_
    refine lv_iconst (v := 0) hx hb dX12_looks_58 (by decide) ?_
    refine tk_Vi hC hK hw hT hA hE hSR kM_at0 (by decide) rfl (k_X12_walkerOf_11 l adK adV dC dI cy ad B (by omega) (by omega) qr s1    w12 H.size hT ) (cwV 2 hC.2.2.2.2 gX12_looks_X12_walkerOf rfl rfl rfl (by decide +kernel) ⟨Nat.le_of_ble_eq_true rfl, Nat.le_of_ble_eq_true rfl⟩) rfl hl.1 rfl (Nat.le_of_ble_eq_true rfl) dX12_looks_59 (fun r16 w18 H locs hp17 hw => ?_)
    obtain ⟨rfl, hg23⟩ := hp17
    obtain ⟨g20, g21, c22⟩ := hg23
    refine tk_Vi hC hK hw hT hA hE hSR kM_at0 (by decide) rfl (k_X12_streetFrom_1 l adK adV dC dI cy ad B (by omega) (by omega) qr s1   r16 (show 0 ≤ r16.toInt by omega) (show r16.toInt ≤ 9 by omega) w12 H.size hT ) (cwV 1 hC.2.2.2.2 gX12_looks_X12_streetFrom rfl rfl rfl (by decide +kernel) ⟨Nat.le_of_ble_eq_true rfl, Nat.le_of_ble_eq_true rfl⟩) rfl hl.1 rfl (Nat.le_of_ble_eq_true rfl) dX12_looks_62 (fun r24 w26 H locs hp25 hw => ?_)
    obtain ⟨rfl, hg44⟩ := hp25
    rcases hg44 with ⟨g28, g29, ⟨x30, c31, rx30, tx30⟩, c32, c33⟩ | ⟨g34, g35, ⟨x36, c37, rx36, tx36⟩, c38⟩ | ⟨g39, g40, ⟨x41, c42, rx41, tx41⟩, c43⟩ | rfl
    · refine tk_puti hC hK hw hT hinX12 tyX12_ok nmX12 kM_at0 (by decide) rfl rfl 31 (by decide) (List.mem_of_getElem? (i := 2) rfl) rfl rfl rfl rfl (show (-1) ≤ r24.toInt by omega) (show r24.toInt ≤ 11 by omega) dX12_looks_65 (fun H locs w45 hw hT k47 c46 => ?_)
      have hF := hF.put kM_at0 (k := 31) (by decide) k47
      have c48 := k47.gi (Or.inr (by decide)) c15
      have c49 := k47.gi (Or.inr (by decide)) c22
      have c50 := k47.gi (Or.inr (by decide)) c31
      have c51 := k47.gi (Or.inl (tk_ne kM_at12 kM_at0 (by decide))) c32
      have c52 := k47.gi (Or.inl (tk_ne kM_at12 kM_at0 (by decide))) c33
      exact tk_vret hC hr hlocks hK ⟨hT, hF, ⟨r24, c46, (show (-1) ≤ r24.toInt by omega), (show r24.toInt ≤ 11 by omega)⟩⟩ hw dX12_looks_68
    · refine tk_puti hC hK hw hT hinX12 tyX12_ok nmX12 kM_at0 (by decide) rfl rfl 31 (by decide) (List.mem_of_getElem? (i := 2) rfl) rfl rfl rfl rfl (show (-1) ≤ r24.toInt by omega) (show r24.toInt ≤ 11 by omega) dX12_looks_65 (fun H locs w53 hw hT k55 c54 => ?_)
      have hF := hF.put kM_at0 (k := 31) (by decide) k55
      have c56 := k55.gi (Or.inr (by decide)) c15
      have c57 := k55.gi (Or.inr (by decide)) c22
      have c58 := k55.gi (Or.inr (by decide)) c37
      have c59 := k55.gi (Or.inl (tk_ne kM_at12 kM_at0 (by decide))) c38
      exact tk_vret hC hr hlocks hK ⟨hT, hF, ⟨r24, c54, (show (-1) ≤ r24.toInt by omega), (show r24.toInt ≤ 11 by omega)⟩⟩ hw dX12_looks_68
    · refine tk_puti hC hK hw hT hinX12 tyX12_ok nmX12 kM_at0 (by decide) rfl rfl 31 (by decide) (List.mem_of_getElem? (i := 2) rfl) rfl rfl rfl rfl (show (-1) ≤ r24.toInt by omega) (show r24.toInt ≤ 11 by omega) dX12_looks_65 (fun H locs w60 hw hT k62 c61 => ?_)
      have hF := hF.put kM_at0 (k := 31) (by decide) k62
      have c63 := k62.gi (Or.inr (by decide)) c15
      have c64 := k62.gi (Or.inr (by decide)) c22
      have c65 := k62.gi (Or.inr (by decide)) c42
      have c66 := k62.gi (Or.inl (tk_ne kM_at12 kM_at0 (by decide))) c43
      exact tk_vret hC hr hlocks hK ⟨hT, hF, ⟨r24, c61, (show (-1) ≤ r24.toInt by omega), (show r24.toInt ≤ 11 by omega)⟩⟩ hw dX12_looks_68
    · refine tk_puti hC hK hw hT hinX12 tyX12_ok nmX12 kM_at0 (by decide) rfl rfl 31 (by decide) (List.mem_of_getElem? (i := 2) rfl) rfl rfl rfl rfl (by decide) (by decide) dX12_looks_65 (fun H locs w67 hw hT k69 c68 => ?_)
      have hF := hF.put kM_at0 (k := 31) (by decide) k69
      have c70 := k69.gi (Or.inr (by decide)) c15
      have c71 := k69.gi (Or.inr (by decide)) c22
      exact tk_vret hC hr hlocks hK ⟨hT, hF, ⟨(-1), c68, (by decide), (by decide)⟩⟩ hw dX12_looks_68
  have J34 : ∀ (H : Heap) (locs : List Loc) (ls : Array Slot) (w72 : va_W), Wd dC dI A s.heap H locs w72 → TW ksM ad cy B qr 12 w72 → FE ksM [(12, 31, 31), (72, 0, 12), (73, 0, 10)] w0 w72 → lv_has ls 2 [(0, .ref (ad 0)), (1, .int 0)] → W p l e ({ frames := 4, cells := 0, slots := 0, locals := 79 }) s m (List.toArray [.ref (ad 0), .int 0]) below meth c H locs 0 0 (MQ below (va_Qv (P_X12_looks_2 ad cy B qr s1  w0) (fun u : va_W => wpost dC dI cy A u) A) (List.toArray [.ref (ad 0), .int 0]) s 0 0 A) (F0 m 34 ls []) := by
    intro H locs ls w72 hw hT hF hl
    refine lv_aload_n hx hb dX12_looks_34 rfl (lv_at hl 0 rfl) ?_
    refine lv_aload_n hx hb dX12_looks_35 rfl (lv_at hl 0 rfl) ?_
    refine lv_iload_n hx hb dX12_looks_36 rfl (lv_at hl 1 rfl) ?_
    refine lv_iconst (v := 2) hx hb dX12_looks_37 (by decide) ?_
    refine tk_Vi hC hK hw hT hA hE hSR kM_at0 (by decide) rfl (k_X12_walkerOf_19 l adK adV dC dI cy ad B (by omega) (by omega) qr s1    w72 H.size hT ) (cwV 2 hC.2.2.2.2 gX12_looks_X12_walkerOf rfl rfl rfl (by decide +kernel) ⟨Nat.le_of_ble_eq_true rfl, Nat.le_of_ble_eq_true rfl⟩) rfl hl.1 rfl (Nat.le_of_ble_eq_true rfl) dX12_looks_38 (fun r73 w75 H locs hp74 hw => ?_)
    obtain ⟨rfl, hg80⟩ := hp74
    obtain ⟨g77, g78, c79⟩ := hg80
    refine tk_Vv hC hK hw hT hA hE hSR kM_at0 (by decide) rfl (k_X12_takesMap_1 l adK adV dC dI cy ad B (by omega) (by omega) qr s1   r73 (show 0 ≤ r73.toInt by omega) (show r73.toInt ≤ 3 by omega) w72 H.size hT ) (cwV 1 hC.2.2.2.2 gX12_looks_X12_takesMap rfl rfl rfl (by decide +kernel) ⟨Nat.le_of_ble_eq_true rfl, Nat.le_of_ble_eq_true rfl⟩) rfl hl.1 rfl (Nat.le_of_ble_eq_true rfl) dX12_looks_41 (fun w83 H locs hp82 hw => ?_)
    obtain ⟨hT, k84, hg85⟩ := hp82
    have hF := hF.tr k84 (by decide)
    have c86 := k84.gi kM_at12 (by decide) c79
    clear hg85
    exact J44  H locs ls w83   hw hT hF  (lv_sub hl [0, 1] rfl)
  refine lv_aload_n hx hb dX12_looks_0 rfl (lv_at hl 0 rfl) ?_
  refine lv_iload_n hx hb dX12_looks_1 rfl (lv_at hl 1 rfl) ?_
  refine tk_Vi hC hK hw hT hA hE hSR kM_at0 (by decide) rfl (k_X12_askedToday_2 l adK adV dC dI cy ad B (by omega) (by omega) qr s1    w0 s.heap.size hT ) (cwV 1 hC.2.2.2.2 gX12_looks_X12_askedToday rfl rfl rfl (by decide +kernel) ⟨Nat.le_of_ble_eq_true rfl, Nat.le_of_ble_eq_true rfl⟩) rfl hl.1 rfl (Nat.le_of_ble_eq_true rfl) dX12_looks_2 (fun r87 w89 H locs hp88 hw => ?_)
  obtain ⟨rfl, hg93⟩ := hp88
  rcases hg93 with rfl | ⟨rfl, ⟨x91, c92, rx91, tx91⟩⟩
  · refine lv_if_eq (tgt := 34) hx hb dX12_looks_5 (by decide) (fun _ => ?_) (fun c => absurd (by decide) c)
    exact J34  H locs ls w0   hw hT hF  (lv_sub hl [0, 1] rfl)
  · refine lv_if_eq (tgt := 34) hx hb dX12_looks_5 (by decide) (fun c => absurd c (by decide)) (fun _ => ?_)
    refine lv_aload_n hx hb dX12_looks_8 rfl (lv_at hl 0 rfl) ?_
    refine tk_geti hC hK hw hT hinX12 kM_at0 (by decide) rfl 30 (by decide) (List.mem_of_getElem? (i := 1) rfl) rfl rfl dX12_looks_9 (fun x94 c95 rx94 tx94 => ?_)
    refine lv_if_ne (tgt := 34) hx hb dX12_looks_12 (by decide) (fun c96 => ?_) (fun c96 => ?_)
    · have c96 : ¬ x94.toInt = (0 : Int) := wk_eqF c96
      exact J34  H locs ls w0   hw hT hF  (lv_sub hl [0, 1] rfl)
    · have c96 : x94.toInt = (0 : Int) := wk_eq.mp c96
      refine lv_aload_n hx hb dX12_looks_15 rfl (lv_at hl 0 rfl) ?_
      refine lv_aload_n hx hb dX12_looks_16 rfl (lv_at hl 0 rfl) ?_
      refine lv_iload_n hx hb dX12_looks_17 rfl (lv_at hl 1 rfl) ?_
      refine lv_iconst (v := 4) hx hb dX12_looks_18 (by decide) ?_
      refine tk_Vi hC hK hw hT hA hE hSR kM_at0 (by decide) rfl (k_X12_walkerOf_13 l adK adV dC dI cy ad B (by omega) (by omega) qr s1    w0 H.size hT ) (cwV 2 hC.2.2.2.2 gX12_looks_X12_walkerOf rfl rfl rfl (by decide +kernel) ⟨Nat.le_of_ble_eq_true rfl, Nat.le_of_ble_eq_true rfl⟩) rfl hl.1 rfl (Nat.le_of_ble_eq_true rfl) dX12_looks_19 (fun r97 w99 H locs hp98 hw => ?_)
      obtain ⟨rfl, hg104⟩ := hp98
      obtain ⟨g101, g102, c103⟩ := hg104
      refine lv_bipush (v := 24) hx hb dX12_looks_22 (by decide) ?_
      refine lv_idiv hx hb dX12_looks_24 (by decide) ?_
      refine lv_topi (fun x105 ex105 => ?_)
      have ex105 : x105.toInt = r97.toInt / (24 : Int) := by rw [ex105]; exact wk_div (show 0 ≤ r97.toInt by omega) (show 0 < (24 : Int) by decide)
      refine lv_bipush (v := 7) hx hb dX12_looks_25 (by decide) ?_
      refine lv_irem hx hb dX12_looks_27 (by decide) ?_
      refine lv_topi (fun x106 ex106 => ?_)
      have ex106 : x106.toInt = x105.toInt % (7 : Int) := by rw [ex106]; exact wk_rem (show 0 ≤ x105.toInt by omega) (show 0 < (7 : Int) by decide)
      refine tk_Vv hC hK hw hT hA hE hSR kM_at0 (by decide) rfl (k_X12_takesDay_1 l adK adV dC dI cy ad B (by omega) (by omega) qr s1   x106 (show 0 ≤ x106.toInt by omega) (show x106.toInt ≤ 6 by omega) w0 H.size hT ) (cwV 1 hC.2.2.2.2 gX12_looks_X12_takesDay rfl rfl rfl (by decide +kernel) ⟨Nat.le_of_ble_eq_true rfl, Nat.le_of_ble_eq_true rfl⟩) rfl hl.1 rfl (Nat.le_of_ble_eq_true rfl) dX12_looks_28 (fun w109 H locs hp108 hw => ?_)
      obtain ⟨hT, k110, hg111⟩ := hp108
      have hF := hF.tr k110 (by decide)
      have c112 := k110.gi kM_at12 (by decide) c92
      have c113 := k110.gi kM_at0 (by decide) c95
      clear hg111
      refine lv_goto (tgt := 44) hx hb dX12_looks_31 (by decide) ?_
      exact J44  H locs ls w109   hw hT hF  (lv_sub hl [0, 1] rfl)
abbrev P_X12_takesStreet_2 (ad : Nat → Nat) (cy : Nat → ClassId) (B : Int) (qr : Nat) (s1 : Int) (a2 : Int32) (w0 : va_W) : va_W → Prop := fun u => TW ksM ad cy (B + 9) qr 12 u ∧ FE ksM [(71, 216, 216), (71, 220, 220), (71, 223, 223)] w0 u ∧ (((∃ y : Int32, gi u 12 223 = y ∧ 0 ≤ y.toInt ∧ y.toInt ≤ 9)))
set_option maxHeartbeats 4000000 in
set_option maxRecDepth 100000 in
theorem k_X12_takesStreet_2 (l : Launch) (adK adV : Nat → Nat) (dC : Nat → ClassId) (dI : Nat → Nat → Nat) (cy : Nat → ClassId) (ad : Nat → Nat) (B : Int) (hB0 : 100000 ≤ B) (hB1 : B ≤ 1073741824) (qr : Nat) (s1 : Int)  (a2 : Int32) (ra2 : 0 ≤ a2.toInt) (ta2 : a2.toInt ≤ 11) (w0 : va_W) (sz : Nat) (hT : TW ksM ad cy B qr 12 w0)  : Met l yX12_takesStreet wsX12_takesStreet ({ frames := 3, cells := 0, slots := 0, locals := 56 }) (va_Pc [.ref (ad 0), .int 0, .int a2] (wpreS adK adV dC dI cy sz w0)) (va_Qv (P_X12_takesStreet_2 ad cy B qr s1 a2 w0) (fun u : va_W => wpost dC dI cy (va_A w0 sz) u) (va_A w0 sz)) 0 0 (va_A w0 sz) := by
  refine Met.ofW (cc := cX12_takesStreet) (maxL := 5) (ret := none) (by decide) rfl ?_
  intro p e s m args below meth c s₁ Bk hml hv
  obtain ⟨rfl, ⟨hsz, hP, hK, hD0⟩, hE, hSR⟩ := hv
  have hx := Bk.exec
  have hb := Bk.bytes
  have hr := Bk.returns
  have hlocks := Bk.notSynchronized
  have hC : CallFix p m c cX12_takesStreet 5 s _ wsX12_takesStreet RX12 := ⟨hx, hb, hml, findClass_of_methodNamed Bk.named, atoms_spec (ws := wsX12_takesStreet) Bk.pre⟩
  subst hsz
  have hD := hD0.self (sz := s.heap.size)
  generalize hAe : va_A w0 s.heap.size = A at hD hE ⊢
  have hA : ∀ q : Nat, s.heap.size ≤ q → A q := fun q h => by rw [← hAe]; exact Or.inr h
  have hw : Wd dC dI A s.heap s.heap [] w0 := ⟨hP, hD, va_S.rf⟩
  have hF : FE ksM [(71, 216, 216), (71, 220, 220), (71, 223, 223)] w0 w0 := FE.rf
  have hl := lv_entry ([.ref (ad 0), .int 0, .int a2]) (n := 5) (Nat.le_of_ble_eq_true rfl)
  rw [lg_entry_eq]
  generalize (lg_sl ([.ref (ad 0), .int 0, .int a2]) ++ List.replicate (5 - (lg_sl ([.ref (ad 0), .int 0, .int a2])).length) Slot.unset).toArray = ls at hl ⊢
  have hl : lv_has ls 5 [(0, .ref (ad 0)), (1, .int 0), (2, .int a2)] := hl
  generalize hloc : ([] : List Loc) = locs at hw ⊢
  have hinX12 : ∀ w ∈ u_ws RX12 TX12 42, w ∈ wsX12_takesStreet := fun _ h => List.mem_cons_of_mem _ (List.mem_append_right _ (h))
  refine lv_sipush (v := 216) hx hb dX12_takesStreet_0 (by decide) ?_
  refine lv_bipush (v := 9) hx hb dX12_takesStreet_3 (by decide) ?_
  refine lv_iload_n hx hb dX12_takesStreet_5 rfl (lv_at hl 1 rfl) ?_
  refine lv_imul hx hb dX12_takesStreet_6 ?_
  refine wk_top 0 (by decide) ?_
  refine lv_iadd hx hb dX12_takesStreet_7 ?_
  refine wk_top 216 (by decide) ?_
  refine lv_istore_n (lv' := [(3, .int 216), (0, .ref (ad 0)), (1, .int 0), (2, .int a2)]) hx hb dX12_takesStreet_8 rfl hl (by decide) rfl (fun ls hl => ?_)
  refine lv_aload_n hx hb dX12_takesStreet_9 rfl (lv_at hl 1 rfl) ?_
  refine tk_getA hC hK hw hT hinX12 kM_at0 (by decide) rfl 26 (by decide) (List.mem_of_getElem? (i := 1) rfl) rfl rfl dX12_takesStreet_10 ?_
  refine lv_iload_n hx hb dX12_takesStreet_13 rfl (lv_at hl 0 rfl) ?_
  refine tk_ialdR hC hK hw hT kM_at12 rfl (by decide) (by decide) dX12_takesStreet_14 (fun x1 c2 Ex1 => ?_)
  have bx1 := tk_rgI rfl 216 1 1 0 9 (by decide +kernel) ⟨0, by decide, by decide⟩ Ex1
  have c2 : gi w0 12 216 = x1 := c2
  refine lv_istore (lv' := [(4, .int x1), (3, .int 216), (0, .ref (ad 0)), (1, .int 0), (2, .int a2)]) hx hb dX12_takesStreet_15 hl (by decide) rfl (fun ls hl => ?_)
  refine lv_aload_n hx hb dX12_takesStreet_17 rfl (lv_at hl 2 rfl) ?_
  refine tk_getA hC hK hw hT hinX12 kM_at0 (by decide) rfl 26 (by decide) (List.mem_of_getElem? (i := 1) rfl) rfl rfl dX12_takesStreet_18 ?_
  refine lv_iload_n hx hb dX12_takesStreet_21 rfl (lv_at hl 1 rfl) ?_
  refine lv_aload_n hx hb dX12_takesStreet_22 rfl (lv_at hl 2 rfl) ?_
  refine lv_iload_n hx hb dX12_takesStreet_23 rfl (lv_at hl 4 rfl) ?_
  refine lv_iload hx hb dX12_takesStreet_24 (lv_at hl 0 rfl) ?_
  refine tk_Vi hC hK hw hT hA hE hSR kM_at0 (by decide) rfl (k_X12_otherOf_1 l adK adV dC dI cy ad B (by omega) (by omega) qr s1   a2 (show 0 ≤ a2.toInt by omega) (show a2.toInt ≤ 11 by omega) x1 (show 0 ≤ x1.toInt by omega) (show x1.toInt ≤ 9 by omega) w0 s.heap.size hT ) (cwV 2 hC.2.2.2.2 gX12_takesStreet_X12_otherOf rfl rfl rfl (by decide +kernel) ⟨Nat.le_of_ble_eq_true rfl, Nat.le_of_ble_eq_true rfl⟩) rfl hl.1 rfl (Nat.le_of_ble_eq_true rfl) dX12_takesStreet_26 (fun r3 w5 H locs hp4 hw => ?_)
  obtain ⟨rfl, hg12⟩ := hp4
  rcases hg12 with ⟨g7, g8⟩ | ⟨g9, g10, c11⟩
  · refine tk_iastR hC hK hw hT kM_at12 (by decide) rfl (by decide) (by decide) (tk_rgS rfl 216 1 1 0 9 (by decide +kernel) ⟨0, by decide, by decide⟩ (show 0 ≤ r3.toInt by omega) (show r3.toInt ≤ 9 by omega)) dX12_takesStreet_29 (fun H locs w13 hw hT k15 c14 => ?_)
    have hF := hF.put kM_at12 (inE_of (a := 216) (b := 216) (by decide) (by decide) (by decide)) k15
    have c14 : gi w13 12 216 = r3 := c14
    refine lv_aload_n hx hb dX12_takesStreet_30 rfl (lv_at hl 2 rfl) ?_
    refine tk_getA hC hK hw hT hinX12 kM_at0 (by decide) rfl 26 (by decide) (List.mem_of_getElem? (i := 1) rfl) rfl rfl dX12_takesStreet_31 ?_
    refine lv_iload_n hx hb dX12_takesStreet_34 rfl (lv_at hl 1 rfl) ?_
    refine lv_bipush (v := 7) hx hb dX12_takesStreet_35 (by decide) ?_
    refine lv_iadd hx hb dX12_takesStreet_37 ?_
    refine wk_top 223 (by decide) ?_
    refine lv_iload hx hb dX12_takesStreet_38 (lv_at hl 0 rfl) ?_
    refine tk_iastR hC hK hw hT kM_at12 (by decide) rfl (by decide) (by decide) (tk_rgS rfl 223 1 1 0 9 (by decide +kernel) ⟨0, by decide, by decide⟩ (show 0 ≤ x1.toInt by omega) (show x1.toInt ≤ 9 by omega)) dX12_takesStreet_40 (fun H locs w16 hw hT k18 c17 => ?_)
    have hF := hF.put kM_at12 (inE_of (a := 223) (b := 223) (by decide) (by decide) (by decide)) k18
    have c19 := k18.gi (Or.inr (by decide)) c14
    have c17 : gi w16 12 223 = x1 := c17
    refine lv_aload_n hx hb dX12_takesStreet_41 rfl (lv_at hl 2 rfl) ?_
    refine tk_getA hC hK hw hT hinX12 kM_at0 (by decide) rfl 26 (by decide) (List.mem_of_getElem? (i := 1) rfl) rfl rfl dX12_takesStreet_42 ?_
    refine lv_iload_n hx hb dX12_takesStreet_45 rfl (lv_at hl 1 rfl) ?_
    refine lv_iconst (v := 4) hx hb dX12_takesStreet_46 (by decide) ?_
    refine lv_iadd hx hb dX12_takesStreet_47 ?_
    refine wk_top 220 (by decide) ?_
    refine lv_dup2_11 hx hb dX12_takesStreet_48 rfl rfl ?_
    refine tk_ialdR hC hK hw hT kM_at12 rfl (by decide) (by decide) dX12_takesStreet_49 (fun x20 c21 Ex20 => ?_)
    have bx20 := (tk_rgB rfl 220 1 1 (by decide +kernel) ⟨0, by decide, by decide⟩).mp Ex20
    have c21 : gi w16 12 220 = x20 := c21
    refine lv_aload_n hx hb dX12_takesStreet_50 rfl (lv_at hl 2 rfl) ?_
    refine lv_iload_n hx hb dX12_takesStreet_51 rfl (lv_at hl 4 rfl) ?_
    refine lv_iconst (v := 2) hx hb dX12_takesStreet_52 (by decide) ?_
    refine tk_Vi hC hK hw hT hA hE hSR kM_at0 (by decide) rfl (k_X12_streetOf_6 l adK adV dC dI cy ad B (by omega) (by omega) qr s1   a2 (show 0 ≤ a2.toInt by omega) (show a2.toInt ≤ 11 by omega) w16 H.size hT ) (cwV 2 hC.2.2.2.2 gX12_takesStreet_X12_streetOf rfl rfl rfl (by decide +kernel) ⟨Nat.le_of_ble_eq_true rfl, Nat.le_of_ble_eq_true rfl⟩) rfl hl.1 rfl (Nat.le_of_ble_eq_true rfl) dX12_takesStreet_53 (fun r22 w24 H locs hp23 hw => ?_)
    obtain ⟨rfl, hg29⟩ := hp23
    obtain ⟨g26, g27, c28⟩ := hg29
    refine lv_iadd hx hb dX12_takesStreet_56 ?_
    refine lv_topi (fun x30 ex30 => ?_)
    have ex30 : x30.toInt = x20.toInt + r22.toInt := by rw [ex30]; exact wk_add (show (-2147483648) ≤ x20.toInt + r22.toInt by omega) (show x20.toInt + r22.toInt ≤ 2147483647 by omega)
    have hT := hT.up (show B ≤ (B + 9) by omega)
    refine tk_iastR hC hK hw hT kM_at12 (by decide) rfl (by decide) (by decide) ((tk_rgB rfl 220 1 1 (by decide +kernel) ⟨0, by decide, by decide⟩).mpr ⟨(show 0 ≤ x30.toInt by omega), (show x30.toInt ≤ (B + 9) by omega)⟩) dX12_takesStreet_57 (fun H locs w31 hw hT k33 c32 => ?_)
    have hF := hF.put kM_at12 (inE_of (a := 220) (b := 220) (by decide) (by decide) (by decide)) k33
    have c34 := k33.gi (Or.inr (by decide)) c19
    have c35 := k33.gi (Or.inr (by decide)) c17
    have c32 : gi w31 12 220 = x30 := c32
    exact tk_vret hC hr hlocks hK ⟨hT, hF, ⟨x1, c35, (show 0 ≤ x1.toInt by omega), (show x1.toInt ≤ 9 by omega)⟩⟩ hw dX12_takesStreet_58
  · refine tk_iastR hC hK hw hT kM_at12 (by decide) rfl (by decide) (by decide) (tk_rgS rfl 216 1 1 0 9 (by decide +kernel) ⟨0, by decide, by decide⟩ (show 0 ≤ r3.toInt by omega) (show r3.toInt ≤ 9 by omega)) dX12_takesStreet_29 (fun H locs w36 hw hT k38 c37 => ?_)
    have hF := hF.put kM_at12 (inE_of (a := 216) (b := 216) (by decide) (by decide) (by decide)) k38
    have c37 : gi w36 12 216 = r3 := c37
    refine lv_aload_n hx hb dX12_takesStreet_30 rfl (lv_at hl 2 rfl) ?_
    refine tk_getA hC hK hw hT hinX12 kM_at0 (by decide) rfl 26 (by decide) (List.mem_of_getElem? (i := 1) rfl) rfl rfl dX12_takesStreet_31 ?_
    refine lv_iload_n hx hb dX12_takesStreet_34 rfl (lv_at hl 1 rfl) ?_
    refine lv_bipush (v := 7) hx hb dX12_takesStreet_35 (by decide) ?_
    refine lv_iadd hx hb dX12_takesStreet_37 ?_
    refine wk_top 223 (by decide) ?_
    refine lv_iload hx hb dX12_takesStreet_38 (lv_at hl 0 rfl) ?_
    refine tk_iastR hC hK hw hT kM_at12 (by decide) rfl (by decide) (by decide) (tk_rgS rfl 223 1 1 0 9 (by decide +kernel) ⟨0, by decide, by decide⟩ (show 0 ≤ x1.toInt by omega) (show x1.toInt ≤ 9 by omega)) dX12_takesStreet_40 (fun H locs w39 hw hT k41 c40 => ?_)
    have hF := hF.put kM_at12 (inE_of (a := 223) (b := 223) (by decide) (by decide) (by decide)) k41
    have c42 := k41.gi (Or.inr (by decide)) c37
    have c40 : gi w39 12 223 = x1 := c40
    refine lv_aload_n hx hb dX12_takesStreet_41 rfl (lv_at hl 2 rfl) ?_
    refine tk_getA hC hK hw hT hinX12 kM_at0 (by decide) rfl 26 (by decide) (List.mem_of_getElem? (i := 1) rfl) rfl rfl dX12_takesStreet_42 ?_
    refine lv_iload_n hx hb dX12_takesStreet_45 rfl (lv_at hl 1 rfl) ?_
    refine lv_iconst (v := 4) hx hb dX12_takesStreet_46 (by decide) ?_
    refine lv_iadd hx hb dX12_takesStreet_47 ?_
    refine wk_top 220 (by decide) ?_
    refine lv_dup2_11 hx hb dX12_takesStreet_48 rfl rfl ?_
    refine tk_ialdR hC hK hw hT kM_at12 rfl (by decide) (by decide) dX12_takesStreet_49 (fun x43 c44 Ex43 => ?_)
    have bx43 := (tk_rgB rfl 220 1 1 (by decide +kernel) ⟨0, by decide, by decide⟩).mp Ex43
    have c44 : gi w39 12 220 = x43 := c44
    refine lv_aload_n hx hb dX12_takesStreet_50 rfl (lv_at hl 2 rfl) ?_
    refine lv_iload_n hx hb dX12_takesStreet_51 rfl (lv_at hl 4 rfl) ?_
    refine lv_iconst (v := 2) hx hb dX12_takesStreet_52 (by decide) ?_
    refine tk_Vi hC hK hw hT hA hE hSR kM_at0 (by decide) rfl (k_X12_streetOf_6 l adK adV dC dI cy ad B (by omega) (by omega) qr s1   a2 (show 0 ≤ a2.toInt by omega) (show a2.toInt ≤ 11 by omega) w39 H.size hT ) (cwV 2 hC.2.2.2.2 gX12_takesStreet_X12_streetOf rfl rfl rfl (by decide +kernel) ⟨Nat.le_of_ble_eq_true rfl, Nat.le_of_ble_eq_true rfl⟩) rfl hl.1 rfl (Nat.le_of_ble_eq_true rfl) dX12_takesStreet_53 (fun r45 w47 H locs hp46 hw => ?_)
    obtain ⟨rfl, hg52⟩ := hp46
    obtain ⟨g49, g50, c51⟩ := hg52
    refine lv_iadd hx hb dX12_takesStreet_56 ?_
    refine lv_topi (fun x53 ex53 => ?_)
    have ex53 : x53.toInt = x43.toInt + r45.toInt := by rw [ex53]; exact wk_add (show (-2147483648) ≤ x43.toInt + r45.toInt by omega) (show x43.toInt + r45.toInt ≤ 2147483647 by omega)
    have hT := hT.up (show B ≤ (B + 9) by omega)
    refine tk_iastR hC hK hw hT kM_at12 (by decide) rfl (by decide) (by decide) ((tk_rgB rfl 220 1 1 (by decide +kernel) ⟨0, by decide, by decide⟩).mpr ⟨(show 0 ≤ x53.toInt by omega), (show x53.toInt ≤ (B + 9) by omega)⟩) dX12_takesStreet_57 (fun H locs w54 hw hT k56 c55 => ?_)
    have hF := hF.put kM_at12 (inE_of (a := 220) (b := 220) (by decide) (by decide) (by decide)) k56
    have c57 := k56.gi (Or.inr (by decide)) c42
    have c58 := k56.gi (Or.inr (by decide)) c40
    have c55 : gi w54 12 220 = x53 := c55
    exact tk_vret hC hr hlocks hK ⟨hT, hF, ⟨x1, c58, (show 0 ≤ x1.toInt by omega), (show x1.toInt ≤ 9 by omega)⟩⟩ hw dX12_takesStreet_58
abbrev P_X12_steps_2 (ad : Nat → Nat) (cy : Nat → ClassId) (B : Int) (qr : Nat) (s1 : Int)  (w0 : va_W) : Int32 → va_W → Prop := fun r u => TW ksM ad cy (B + 9) qr 12 u ∧ FE ksM [(12, 24, 24), (12, 31, 31), (69, 0, 64), (70, 0, 10), (71, 216, 216), (71, 220, 220), (71, 221, 221), (71, 222, 222), (71, 223, 223), (71, 224, 224), (72, 0, 12), (73, 0, 10)] w0 u ∧ ((r = 0) ∨ (r = 1))
set_option maxHeartbeats 4000000 in
set_option maxRecDepth 100000 in
theorem k_X12_steps_2 (l : Launch) (adK adV : Nat → Nat) (dC : Nat → ClassId) (dI : Nat → Nat → Nat) (cy : Nat → ClassId) (ad : Nat → Nat) (B : Int) (hB0 : 100000 ≤ B) (hB1 : B ≤ 1073741824) (qr : Nat) (s1 : Int)   (w0 : va_W) (sz : Nat) (hT : TW ksM ad cy B qr 12 w0) (hRW : RW w0) : Met l yX12_steps wsX12_steps ({ frames := 8, cells := 0, slots := 0, locals := 171 }) (va_Pc [.ref (ad 0), .int 0] (wpreS adK adV dC dI cy sz w0)) (va_Qi (P_X12_steps_2 ad cy B qr s1  w0) (fun u : va_W => wpost dC dI cy (va_A w0 sz) u) (va_A w0 sz)) 0 0 (va_A w0 sz) := by
  refine Met.ofW (cc := cX12_steps) (maxL := 4) (ret := (some .boolean)) (by decide) rfl ?_
  intro p e s m args below meth c s₁ Bk hml hv
  obtain ⟨rfl, ⟨hsz, hP, hK, hD0⟩, hE, hSR⟩ := hv
  have hx := Bk.exec
  have hb := Bk.bytes
  have hr := Bk.returns
  have hlocks := Bk.notSynchronized
  have hC : CallFix p m c cX12_steps 4 s _ wsX12_steps RX12 := ⟨hx, hb, hml, findClass_of_methodNamed Bk.named, atoms_spec (ws := wsX12_steps) Bk.pre⟩
  subst hsz
  have hD := hD0.self (sz := s.heap.size)
  generalize hAe : va_A w0 s.heap.size = A at hD hE ⊢
  have hA : ∀ q : Nat, s.heap.size ≤ q → A q := fun q h => by rw [← hAe]; exact Or.inr h
  have hw : Wd dC dI A s.heap s.heap [] w0 := ⟨hP, hD, va_S.rf⟩
  have hF : FE ksM [(12, 24, 24), (12, 31, 31), (69, 0, 64), (70, 0, 10), (71, 216, 216), (71, 220, 220), (71, 221, 221), (71, 222, 222), (71, 223, 223), (71, 224, 224), (72, 0, 12), (73, 0, 10)] w0 w0 := FE.rf
  have hl := lv_entry ([.ref (ad 0), .int 0]) (n := 4) (Nat.le_of_ble_eq_true rfl)
  rw [lg_entry_eq]
  generalize (lg_sl ([.ref (ad 0), .int 0]) ++ List.replicate (4 - (lg_sl ([.ref (ad 0), .int 0])).length) Slot.unset).toArray = ls at hl ⊢
  have hl : lv_has ls 4 [(0, .ref (ad 0)), (1, .int 0)] := hl
  generalize hloc : ([] : List Loc) = locs at hw ⊢
  have hinX12 : ∀ w ∈ u_ws RX12 TX12 42, w ∈ wsX12_steps := fun _ h => List.mem_cons_of_mem _ (List.mem_append_right _ (h))
  have J125 : ∀ (v125_2 : Int32) (f125_0_31 : Int32) (f125_12_219 : Int32) (f125_12_221 : Int32) (H : Heap) (locs : List Loc) (ls : Array Slot) (w1 : va_W), 0 ≤ v125_2.toInt → v125_2.toInt ≤ 1 → (-1) ≤ f125_0_31.toInt → f125_0_31.toInt ≤ 11 → (-1) ≤ f125_12_219.toInt → f125_12_219.toInt ≤ 5 → Wd dC dI A s.heap H locs w1 → TW ksM ad cy (B + 9) qr 12 w1 → FE ksM [(12, 24, 24), (12, 31, 31), (69, 0, 64), (70, 0, 10), (71, 216, 216), (71, 220, 220), (71, 221, 221), (71, 222, 222), (71, 223, 223), (71, 224, 224), (72, 0, 12), (73, 0, 10)] w0 w1 → RW w1 → gi w1 0 31 = f125_0_31 → gi w1 12 219 = f125_12_219 → gi w1 12 221 = f125_12_221 → lv_has ls 4 [(0, .ref (ad 0)), (1, .int 0), (2, .int v125_2), (3, .int 216)] → W p l e ({ frames := 8, cells := 0, slots := 0, locals := 171 }) s m (List.toArray [.ref (ad 0), .int 0]) below meth c H locs 0 0 (MQ below (va_Qi (P_X12_steps_2 ad cy B qr s1  w0) (fun u : va_W => wpost dC dI cy A u) A) (List.toArray [.ref (ad 0), .int 0]) s 0 0 A) (F0 m 125 ls []) := by
    intro v125_2 f125_0_31 f125_12_219 f125_12_221 H locs ls w1 r2 t3 r4 t5 r7 t8 hw hT hF hRW c6 c9 c10 hl
    refine lv_iconst (v := 1) hx hb dX12_steps_125 (by decide) ?_
    refine lv_goto (tgt := 130) hx hb dX12_steps_126 (by decide) ?_
    exact tk_zret hC hr rfl hlocks hK ⟨hT, hF, (Or.inr rfl)⟩ hw dX12_steps_130
  have J104 : ∀ (v104_2 : Int32) (f104_0_31 : Int32) (f104_12_219 : Int32) (H : Heap) (locs : List Loc) (ls : Array Slot) (w11 : va_W), (-1) ≤ f104_0_31.toInt → f104_0_31.toInt ≤ 11 → (-1) ≤ f104_12_219.toInt → f104_12_219.toInt ≤ 5 → Wd dC dI A s.heap H locs w11 → TW ksM ad cy (B + 9) qr 12 w11 → FE ksM [(12, 24, 24), (12, 31, 31), (69, 0, 64), (70, 0, 10), (71, 216, 216), (71, 220, 220), (71, 221, 221), (71, 222, 222), (71, 223, 223), (71, 224, 224), (72, 0, 12), (73, 0, 10)] w0 w11 → RW w11 → gi w11 0 31 = f104_0_31 → gi w11 12 219 = f104_12_219 → lv_has ls 4 [(0, .ref (ad 0)), (1, .int 0), (2, .int v104_2), (3, .int 216)] → W p l e ({ frames := 8, cells := 0, slots := 0, locals := 171 }) s m (List.toArray [.ref (ad 0), .int 0]) below meth c H locs 0 0 (MQ below (va_Qi (P_X12_steps_2 ad cy B qr s1  w0) (fun u : va_W => wpost dC dI cy A u) A) (List.toArray [.ref (ad 0), .int 0]) s 0 0 A) (F0 m 104 ls []) := by
    intro v104_2 f104_0_31 f104_12_219 H locs ls w11 r12 t13 r15 t16 hw hT hF hRW c14 c17 hl
    refine lv_aload_n hx hb dX12_steps_104 rfl (lv_at hl 0 rfl) ?_
    refine tk_getA hC hK hw hT hinX12 kM_at0 (by decide) rfl 26 (by decide) (List.mem_of_getElem? (i := 2) rfl) rfl rfl dX12_steps_105 ?_
    refine lv_iload_n hx hb dX12_steps_108 rfl (lv_at hl 3 rfl) ?_
    refine lv_iconst (v := 5) hx hb dX12_steps_109 (by decide) ?_
    refine lv_iadd hx hb dX12_steps_110 ?_
    refine wk_top 221 (by decide) ?_
    refine lv_dup2_11 hx hb dX12_steps_111 rfl rfl ?_
    refine tk_ialdR hC hK hw hT kM_at12 rfl (by decide) (by decide) dX12_steps_112 (fun x18 c19 Ex18 => ?_)
    have c19 : gi w11 12 221 = x18 := c19
    refine lv_iconst (v := 1) hx hb dX12_steps_113 (by decide) ?_
    refine lv_iadd hx hb dX12_steps_114 ?_
    have nx20 := wk_i32 x18
    refine lv_topi (fun x21 ex21 => ?_)
    refine tk_iastR hC hK hw hT kM_at12 (by decide) rfl (by decide) (by decide) (tk_rgS rfl 221 1 1 (-2147483648) 2147483647 (by decide +kernel) ⟨0, by decide, by decide⟩ (wk_i32 x21).1 (wk_i32 x21).2) dX12_steps_115 (fun H locs w22 hw hT k24 c23 => ?_)
    have hRW := RW_F1 k24 (by decide) (by decide) (by decide) hRW
    have hF := hF.put kM_at12 (inE_of (a := 221) (b := 221) (by decide) (by decide) (by decide)) k24
    have c25 := k24.gi (Or.inl (tk_ne kM_at0 kM_at12 (by decide))) c14
    have c26 := k24.gi (Or.inr (by decide)) c17
    have c23 : gi w22 12 221 = x21 := c23
    refine lv_iload_n hx hb dX12_steps_116 rfl (lv_at hl 2 rfl) ?_
    refine lv_if_eq (tgt := 125) hx hb dX12_steps_117 (by decide) (fun c27 => ?_) (fun c27 => ?_)
    · have c27 : v104_2.toInt = (0 : Int) := wk_eq.mp c27
      exact J125 v104_2 f104_0_31 f104_12_219 x21 H locs ls w22 (show 0 ≤ v104_2.toInt by omega) (show v104_2.toInt ≤ 1 by omega) (show (-1) ≤ f104_0_31.toInt by omega) (show f104_0_31.toInt ≤ 11 by omega) (show (-1) ≤ f104_12_219.toInt by omega) (show f104_12_219.toInt ≤ 5 by omega)  hw hT hF hRW c25 c26 c23 (lv_sub hl [0, 1, 2, 3] rfl)
    · have c27 : ¬ v104_2.toInt = (0 : Int) := wk_eqF c27
      refine lv_iload_n hx hb dX12_steps_120 rfl (lv_at hl 2 rfl) ?_
      refine lv_iconst (v := 1) hx hb dX12_steps_121 (by decide) ?_
      refine lv_icmp_ne (tgt := 129) hx hb dX12_steps_122 (by decide) (fun c28 => ?_) (fun c28 => ?_)
      · have c28 : ¬ v104_2.toInt = (1 : Int) := wk_eqF c28
        refine lv_iconst (v := 0) hx hb dX12_steps_129 (by decide) ?_
        exact tk_zret hC hr rfl hlocks hK ⟨hT, hF, (Or.inl rfl)⟩ hw dX12_steps_130
      · have c28 : v104_2.toInt = (1 : Int) := wk_eq.mp c28
        exact J125 v104_2 f104_0_31 f104_12_219 x21 H locs ls w22 (show 0 ≤ v104_2.toInt by omega) (show v104_2.toInt ≤ 1 by omega) (show (-1) ≤ f104_0_31.toInt by omega) (show f104_0_31.toInt ≤ 11 by omega) (show (-1) ≤ f104_12_219.toInt by omega) (show f104_12_219.toInt ≤ 5 by omega)  hw hT hF hRW c25 c26 c23 (lv_sub hl [0, 1, 2, 3] rfl)
  have J92 : ∀ (v92_2 : Int32) (f92_0_31 : Int32) (f92_12_219 : Int32) (H : Heap) (locs : List Loc) (ls : Array Slot) (w29 : va_W), (-1) ≤ f92_0_31.toInt → f92_0_31.toInt ≤ 11 → (-1) ≤ f92_12_219.toInt → f92_12_219.toInt ≤ 5 → Wd dC dI A s.heap H locs w29 → TW ksM ad cy B qr 12 w29 → FE ksM [(12, 24, 24), (12, 31, 31), (69, 0, 64), (70, 0, 10), (71, 216, 216), (71, 220, 220), (71, 221, 221), (71, 222, 222), (71, 223, 223), (71, 224, 224), (72, 0, 12), (73, 0, 10)] w0 w29 → RW w29 → gi w29 0 31 = f92_0_31 → gi w29 12 219 = f92_12_219 → lv_has ls 4 [(0, .ref (ad 0)), (1, .int 0), (2, .int v92_2), (3, .int 216)] → W p l e ({ frames := 8, cells := 0, slots := 0, locals := 171 }) s m (List.toArray [.ref (ad 0), .int 0]) below meth c H locs 0 0 (MQ below (va_Qi (P_X12_steps_2 ad cy B qr s1  w0) (fun u : va_W => wpost dC dI cy A u) A) (List.toArray [.ref (ad 0), .int 0]) s 0 0 A) (F0 m 92 ls []) := by
    intro v92_2 f92_0_31 f92_12_219 H locs ls w29 r30 t31 r33 t34 hw hT hF hRW c32 c35 hl
    refine lv_aload_n hx hb dX12_steps_92 rfl (lv_at hl 0 rfl) ?_
    refine tk_getA hC hK hw hT hinX12 kM_at0 (by decide) rfl 26 (by decide) (List.mem_of_getElem? (i := 2) rfl) rfl rfl dX12_steps_93 ?_
    refine lv_iload_n hx hb dX12_steps_96 rfl (lv_at hl 3 rfl) ?_
    refine lv_iconst (v := 4) hx hb dX12_steps_97 (by decide) ?_
    refine lv_iadd hx hb dX12_steps_98 ?_
    refine wk_top 220 (by decide) ?_
    refine lv_dup2_11 hx hb dX12_steps_99 rfl rfl ?_
    refine tk_ialdR hC hK hw hT kM_at12 rfl (by decide) (by decide) dX12_steps_100 (fun x36 c37 Ex36 => ?_)
    have bx36 := (tk_rgB rfl 220 1 1 (by decide +kernel) ⟨0, by decide, by decide⟩).mp Ex36
    have c37 : gi w29 12 220 = x36 := c37
    refine lv_iconst (v := 1) hx hb dX12_steps_101 (by decide) ?_
    refine lv_iadd hx hb dX12_steps_102 ?_
    refine lv_topi (fun x38 ex38 => ?_)
    have ex38 : x38.toInt = x36.toInt + (1 : Int) := by rw [ex38]; exact wk_add (show (-2147483648) ≤ x36.toInt + (1 : Int) by omega) (show x36.toInt + (1 : Int) ≤ 2147483647 by omega)
    have hT := hT.up (show B ≤ (B + 1) by omega)
    refine tk_iastR hC hK hw hT kM_at12 (by decide) rfl (by decide) (by decide) ((tk_rgB rfl 220 1 1 (by decide +kernel) ⟨0, by decide, by decide⟩).mpr ⟨(show 0 ≤ x38.toInt by omega), (show x38.toInt ≤ (B + 1) by omega)⟩) dX12_steps_103 (fun H locs w39 hw hT k41 c40 => ?_)
    have hRW := RW_F1 k41 (by decide) (by decide) (by decide) hRW
    have hF := hF.put kM_at12 (inE_of (a := 220) (b := 220) (by decide) (by decide) (by decide)) k41
    have c42 := k41.gi (Or.inl (tk_ne kM_at0 kM_at12 (by decide))) c32
    have c43 := k41.gi (Or.inr (by decide)) c35
    have c40 : gi w39 12 220 = x38 := c40
    exact J104 v92_2 f92_0_31 f92_12_219 H locs ls w39 (show (-1) ≤ f92_0_31.toInt by omega) (show f92_0_31.toInt ≤ 11 by omega) (show (-1) ≤ f92_12_219.toInt by omega) (show f92_12_219.toInt ≤ 5 by omega)  hw (hT.up (show (B + 1) ≤ (B + 9) by omega)) hF hRW c42 c43 (lv_sub hl [0, 1, 2, 3] rfl)
  refine lv_aload_n hx hb dX12_steps_0 rfl (lv_at hl 0 rfl) ?_
  refine lv_iload_n hx hb dX12_steps_1 rfl (lv_at hl 1 rfl) ?_
  refine tk_Vv hC hK hw hT hA hE hSR kM_at0 (by decide) rfl (k_X12_looks_2 l adK adV dC dI cy ad B (by omega) (by omega) qr s1    w0 s.heap.size hT ) (cwV 1 hC.2.2.2.2 gX12_steps_X12_looks rfl rfl rfl (by decide +kernel) ⟨Nat.le_of_ble_eq_true rfl, Nat.le_of_ble_eq_true rfl⟩) rfl hl.1 rfl (Nat.le_of_ble_eq_true rfl) dX12_steps_2 (fun w46 H locs hp45 hw => ?_)
  obtain ⟨hT, k47, hg50⟩ := hp45
  have hRW := RW_FE k47 (fun _ => rfl) (fun _ => rfl) (fun _ => rfl) hRW
  have hF := hF.tr k47 (by decide)
  obtain ⟨x48, c49, rx48, tx48⟩ := hg50
  refine lv_aload_n hx hb dX12_steps_5 rfl (lv_at hl 0 rfl) ?_
  refine lv_iload_n hx hb dX12_steps_6 rfl (lv_at hl 1 rfl) ?_
  refine tk_Vi hC hK hw hT hA hE hSR kM_at0 (by decide) rfl (k_X12_doing_2 l adK adV dC dI cy ad B (by omega) (by omega) qr s1    w46 H.size hT hRW) (cwV 1 hC.2.2.2.2 gX12_steps_X12_doing rfl rfl rfl (by decide +kernel) ⟨Nat.le_of_ble_eq_true rfl, Nat.le_of_ble_eq_true rfl⟩) rfl hl.1 rfl (Nat.le_of_ble_eq_true rfl) dX12_steps_7 (fun r51 w53 H locs hp52 hw => ?_)
  obtain ⟨hT, k54, hg76⟩ := hp52
  have hRW := RW_FE k54 (fun _ => rfl) (fun _ => rfl) (fun _ => rfl) hRW
  have hF := hF.tr k54 (by decide)
  have c77 := k54.gi kM_at0 (by decide) c49
  rcases hg76 with ⟨g55, ⟨x56, c57, rx56, tx56⟩⟩ | ⟨g58, ⟨x59, c60, rx59, tx59⟩⟩ | ⟨rfl, ⟨x61, c62, rx61, tx61⟩, ⟨x63, c64, rx63, tx63⟩⟩ | ⟨rfl, ⟨x65, c66, rx65, tx65⟩, ⟨x67, c68, rx67, tx67⟩, hq69⟩ | ⟨rfl, ⟨x70, c71, rx70, tx70⟩, ⟨x72, c73, rx72, tx72⟩⟩ | ⟨rfl, ⟨x74, c75, rx74, tx74⟩⟩
  · refine lv_istore_n (lv' := [(2, .int r51), (0, .ref (ad 0)), (1, .int 0)]) hx hb dX12_steps_10 rfl hl (by decide) rfl (fun ls hl => ?_)
    refine lv_sipush (v := 216) hx hb dX12_steps_11 (by decide) ?_
    refine lv_bipush (v := 9) hx hb dX12_steps_14 (by decide) ?_
    refine lv_iload_n hx hb dX12_steps_16 rfl (lv_at hl 2 rfl) ?_
    refine lv_imul hx hb dX12_steps_17 ?_
    refine wk_top 0 (by decide) ?_
    refine lv_iadd hx hb dX12_steps_18 ?_
    refine wk_top 216 (by decide) ?_
    refine lv_istore_n (lv' := [(3, .int 216), (2, .int r51), (0, .ref (ad 0)), (1, .int 0)]) hx hb dX12_steps_19 rfl hl (by decide) rfl (fun ls hl => ?_)
    refine lv_iload_n hx hb dX12_steps_20 rfl (lv_at hl 1 rfl) ?_
    refine lv_if_ne (tgt := 36) hx hb dX12_steps_21 (by decide) (fun _ => ?_) (fun c => absurd (show r51.toInt = (0 : Int) from wk_eq.mp c) (by omega))
    refine lv_iload_n hx hb dX12_steps_36 rfl (lv_at hl 1 rfl) ?_
    refine lv_iconst (v := 1) hx hb dX12_steps_37 (by decide) ?_
    refine lv_icmp_ne (tgt := 54) hx hb dX12_steps_38 (by decide) (fun _ => ?_) (fun c => absurd (show r51.toInt = (1 : Int) from wk_eq.mp c) (by omega))
    refine lv_iload_n hx hb dX12_steps_54 rfl (lv_at hl 1 rfl) ?_
    refine lv_iconst (v := 2) hx hb dX12_steps_55 (by decide) ?_
    refine lv_icmp_ne (tgt := 92) hx hb dX12_steps_56 (by decide) (fun _ => ?_) (fun c => absurd (show r51.toInt = (2 : Int) from wk_eq.mp c) (by omega))
    exact J92 r51 x48 x56 H locs ls w53 (show (-1) ≤ x48.toInt by omega) (show x48.toInt ≤ 11 by omega) (show (-1) ≤ x56.toInt by omega) (show x56.toInt ≤ 5 by omega)  hw hT hF hRW c77 c57 (lv_sub hl [2, 3, 1, 0] rfl)
  · refine lv_istore_n (lv' := [(2, .int r51), (0, .ref (ad 0)), (1, .int 0)]) hx hb dX12_steps_10 rfl hl (by decide) rfl (fun ls hl => ?_)
    refine lv_sipush (v := 216) hx hb dX12_steps_11 (by decide) ?_
    refine lv_bipush (v := 9) hx hb dX12_steps_14 (by decide) ?_
    refine lv_iload_n hx hb dX12_steps_16 rfl (lv_at hl 2 rfl) ?_
    refine lv_imul hx hb dX12_steps_17 ?_
    refine wk_top 0 (by decide) ?_
    refine lv_iadd hx hb dX12_steps_18 ?_
    refine wk_top 216 (by decide) ?_
    refine lv_istore_n (lv' := [(3, .int 216), (2, .int r51), (0, .ref (ad 0)), (1, .int 0)]) hx hb dX12_steps_19 rfl hl (by decide) rfl (fun ls hl => ?_)
    refine lv_iload_n hx hb dX12_steps_20 rfl (lv_at hl 1 rfl) ?_
    refine lv_if_ne (tgt := 36) hx hb dX12_steps_21 (by decide) (fun _ => ?_) (fun c => absurd (show r51.toInt = (0 : Int) from wk_eq.mp c) (by omega))
    refine lv_iload_n hx hb dX12_steps_36 rfl (lv_at hl 1 rfl) ?_
    refine lv_iconst (v := 1) hx hb dX12_steps_37 (by decide) ?_
    refine lv_icmp_ne (tgt := 54) hx hb dX12_steps_38 (by decide) (fun _ => ?_) (fun c => absurd (show r51.toInt = (1 : Int) from wk_eq.mp c) (by omega))
    refine lv_iload_n hx hb dX12_steps_54 rfl (lv_at hl 1 rfl) ?_
    refine lv_iconst (v := 2) hx hb dX12_steps_55 (by decide) ?_
    refine lv_icmp_ne (tgt := 92) hx hb dX12_steps_56 (by decide) (fun _ => ?_) (fun c => absurd (show r51.toInt = (2 : Int) from wk_eq.mp c) (by omega))
    exact J92 r51 x48 x59 H locs ls w53 (show (-1) ≤ x48.toInt by omega) (show x48.toInt ≤ 11 by omega) (show (-1) ≤ x59.toInt by omega) (show x59.toInt ≤ 5 by omega)  hw hT hF hRW c77 c60 (lv_sub hl [2, 3, 1, 0] rfl)
  · have ex61 : x61.toInt = x48.toInt := by rw [← c77.symm.trans c62]
    refine lv_istore_n (lv' := [(2, .int 0), (0, .ref (ad 0)), (1, .int 0)]) hx hb dX12_steps_10 rfl hl (by decide) rfl (fun ls hl => ?_)
    refine lv_sipush (v := 216) hx hb dX12_steps_11 (by decide) ?_
    refine lv_bipush (v := 9) hx hb dX12_steps_14 (by decide) ?_
    refine lv_iload_n hx hb dX12_steps_16 rfl (lv_at hl 2 rfl) ?_
    refine lv_imul hx hb dX12_steps_17 ?_
    refine wk_top 0 (by decide) ?_
    refine lv_iadd hx hb dX12_steps_18 ?_
    refine wk_top 216 (by decide) ?_
    refine lv_istore_n (lv' := [(3, .int 216), (2, .int 0), (0, .ref (ad 0)), (1, .int 0)]) hx hb dX12_steps_19 rfl hl (by decide) rfl (fun ls hl => ?_)
    refine lv_iload_n hx hb dX12_steps_20 rfl (lv_at hl 1 rfl) ?_
    refine lv_if_ne (tgt := 36) hx hb dX12_steps_21 (by decide) (fun c => absurd (by decide) c) (fun _ => ?_)
    refine lv_aload_n hx hb dX12_steps_24 rfl (lv_at hl 2 rfl) ?_
    refine lv_iload_n hx hb dX12_steps_25 rfl (lv_at hl 3 rfl) ?_
    refine lv_aload_n hx hb dX12_steps_26 rfl (lv_at hl 2 rfl) ?_
    refine tk_geti hC hK hw hT hinX12 kM_at0 (by decide) rfl 31 (by decide) (List.mem_of_getElem? (i := 1) rfl) rfl rfl dX12_steps_27 (fun x78 c79 rx78 tx78 => ?_)
    refine wk_top x48 (c79.symm.trans c77) ?_
    refine tk_Vv hC hK hw hT hA hE hSR kM_at0 (by decide) rfl (k_X12_takesStreet_2 l adK adV dC dI cy ad B (by omega) (by omega) qr s1   x48 (show 0 ≤ x48.toInt by omega) (show x48.toInt ≤ 11 by omega) w53 H.size hT ) (cwV 2 hC.2.2.2.2 gX12_steps_X12_takesStreet rfl rfl rfl (by decide +kernel) ⟨Nat.le_of_ble_eq_true rfl, Nat.le_of_ble_eq_true rfl⟩) rfl hl.1 rfl (Nat.le_of_ble_eq_true rfl) dX12_steps_30 (fun w82 H locs hp81 hw => ?_)
    obtain ⟨hT, k83, hg86⟩ := hp81
    have hRW := RW_FE k83 (fun _ => rfl) (fun _ => rfl) (fun _ => rfl) hRW
    have hF := hF.tr k83 (by decide)
    have c87 := k83.gi kM_at0 (by decide) c77
    have c88 := k83.gi kM_at12 (by decide) c64
    obtain ⟨x84, c85, rx84, tx84⟩ := hg86
    refine lv_goto (tgt := 104) hx hb dX12_steps_33 (by decide) ?_
    exact J104 0 x48 x63 H locs ls w82 (show (-1) ≤ x48.toInt by omega) (show x48.toInt ≤ 11 by omega) (show (-1) ≤ x63.toInt by omega) (show x63.toInt ≤ 5 by omega)  hw hT hF hRW c87 c88 (lv_sub hl [2, 3, 1, 0] rfl)
  · refine lv_istore_n (lv' := [(2, .int 1), (0, .ref (ad 0)), (1, .int 0)]) hx hb dX12_steps_10 rfl hl (by decide) rfl (fun ls hl => ?_)
    refine lv_sipush (v := 216) hx hb dX12_steps_11 (by decide) ?_
    refine lv_bipush (v := 9) hx hb dX12_steps_14 (by decide) ?_
    refine lv_iload_n hx hb dX12_steps_16 rfl (lv_at hl 2 rfl) ?_
    refine lv_imul hx hb dX12_steps_17 ?_
    refine wk_top 0 (by decide) ?_
    refine lv_iadd hx hb dX12_steps_18 ?_
    refine wk_top 216 (by decide) ?_
    refine lv_istore_n (lv' := [(3, .int 216), (2, .int 1), (0, .ref (ad 0)), (1, .int 0)]) hx hb dX12_steps_19 rfl hl (by decide) rfl (fun ls hl => ?_)
    refine lv_iload_n hx hb dX12_steps_20 rfl (lv_at hl 1 rfl) ?_
    refine lv_if_ne (tgt := 36) hx hb dX12_steps_21 (by decide) (fun _ => ?_) (fun c => absurd c (by decide))
    refine lv_iload_n hx hb dX12_steps_36 rfl (lv_at hl 1 rfl) ?_
    refine lv_iconst (v := 1) hx hb dX12_steps_37 (by decide) ?_
    refine lv_icmp_ne (tgt := 54) hx hb dX12_steps_38 (by decide) (fun c => absurd (by decide) c) (fun _ => ?_)
    refine lv_aload_n hx hb dX12_steps_41 rfl (lv_at hl 2 rfl) ?_
    refine lv_iload_n hx hb dX12_steps_42 rfl (lv_at hl 3 rfl) ?_
    refine lv_aload_n hx hb dX12_steps_43 rfl (lv_at hl 2 rfl) ?_
    refine lv_iload_n hx hb dX12_steps_44 rfl (lv_at hl 3 rfl) ?_
    refine tk_Vi hC hK hw hT hA hE hSR kM_at0 (by decide) rfl (k_X12_asideOf_2 l adK adV dC dI cy ad B (by omega) (by omega) qr s1    w53 H.size hT ) (cwV 1 hC.2.2.2.2 gX12_steps_X12_asideOf rfl rfl rfl (by decide +kernel) ⟨Nat.le_of_ble_eq_true rfl, Nat.le_of_ble_eq_true rfl⟩) rfl hl.1 rfl (Nat.le_of_ble_eq_true rfl) dX12_steps_45 (fun r89 w91 H locs hp90 hw => ?_)
    obtain ⟨rfl, hg99⟩ := hp90
    rcases hg99 with ⟨g93, g94, ⟨x95, c96, rx95, tx95⟩, hq97⟩ | ⟨rfl, hq98⟩
    · have ex95 : x95.toInt = x65.toInt := by rw [← c66.symm.trans c96]
      refine tk_Vv hC hK hw hT hA hE hSR kM_at0 (by decide) rfl (k_X12_takesStreet_2 l adK adV dC dI cy ad B (by omega) (by omega) qr s1   r89 (show 0 ≤ r89.toInt by omega) (show r89.toInt ≤ 11 by omega) w53 H.size hT ) (cwV 2 hC.2.2.2.2 gX12_steps_X12_takesStreet rfl rfl rfl (by decide +kernel) ⟨Nat.le_of_ble_eq_true rfl, Nat.le_of_ble_eq_true rfl⟩) rfl hl.1 rfl (Nat.le_of_ble_eq_true rfl) dX12_steps_48 (fun w102 H locs hp101 hw => ?_)
      obtain ⟨hT, k103, hg106⟩ := hp101
      have hRW := RW_FE k103 (fun _ => rfl) (fun _ => rfl) (fun _ => rfl) hRW
      have hF := hF.tr k103 (by decide)
      have c107 := k103.gi kM_at0 (by decide) c77
      have c108 := k103.gi kM_at12 (by decide) c66
      have c109 := k103.gi kM_at12 (by decide) c68
      obtain ⟨x104, c105, rx104, tx104⟩ := hg106
      refine lv_goto (tgt := 104) hx hb dX12_steps_51 (by decide) ?_
      exact J104 1 x48 x67 H locs ls w102 (show (-1) ≤ x48.toInt by omega) (show x48.toInt ≤ 11 by omega) (show (-1) ≤ x67.toInt by omega) (show x67.toInt ≤ 5 by omega)  hw hT hF hRW c107 c109 (lv_sub hl [2, 3, 1, 0] rfl)
    · exact (mAS_no hq69 hq98).elim
  · refine lv_istore_n (lv' := [(2, .int 2), (0, .ref (ad 0)), (1, .int 0)]) hx hb dX12_steps_10 rfl hl (by decide) rfl (fun ls hl => ?_)
    refine lv_sipush (v := 216) hx hb dX12_steps_11 (by decide) ?_
    refine lv_bipush (v := 9) hx hb dX12_steps_14 (by decide) ?_
    refine lv_iload_n hx hb dX12_steps_16 rfl (lv_at hl 2 rfl) ?_
    refine lv_imul hx hb dX12_steps_17 ?_
    refine wk_top 0 (by decide) ?_
    refine lv_iadd hx hb dX12_steps_18 ?_
    refine wk_top 216 (by decide) ?_
    refine lv_istore_n (lv' := [(3, .int 216), (2, .int 2), (0, .ref (ad 0)), (1, .int 0)]) hx hb dX12_steps_19 rfl hl (by decide) rfl (fun ls hl => ?_)
    refine lv_iload_n hx hb dX12_steps_20 rfl (lv_at hl 1 rfl) ?_
    refine lv_if_ne (tgt := 36) hx hb dX12_steps_21 (by decide) (fun _ => ?_) (fun c => absurd c (by decide))
    refine lv_iload_n hx hb dX12_steps_36 rfl (lv_at hl 1 rfl) ?_
    refine lv_iconst (v := 1) hx hb dX12_steps_37 (by decide) ?_
    refine lv_icmp_ne (tgt := 54) hx hb dX12_steps_38 (by decide) (fun _ => ?_) (fun c => absurd c (by decide))
    refine lv_iload_n hx hb dX12_steps_54 rfl (lv_at hl 1 rfl) ?_
    refine lv_iconst (v := 2) hx hb dX12_steps_55 (by decide) ?_
    refine lv_icmp_ne (tgt := 92) hx hb dX12_steps_56 (by decide) (fun c => absurd (by decide) c) (fun _ => ?_)
    refine lv_aload_n hx hb dX12_steps_59 rfl (lv_at hl 2 rfl) ?_
    refine tk_getA hC hK hw hT hinX12 kM_at0 (by decide) rfl 26 (by decide) (List.mem_of_getElem? (i := 2) rfl) rfl rfl dX12_steps_60 ?_
    refine lv_iload_n hx hb dX12_steps_63 rfl (lv_at hl 0 rfl) ?_
    refine lv_bipush (v := 8) hx hb dX12_steps_64 (by decide) ?_
    refine lv_iadd hx hb dX12_steps_66 ?_
    refine wk_top 224 (by decide) ?_
    refine lv_aload_n hx hb dX12_steps_67 rfl (lv_at hl 2 rfl) ?_
    refine tk_getA hC hK hw hT hinX12 kM_at0 (by decide) rfl 26 (by decide) (List.mem_of_getElem? (i := 2) rfl) rfl rfl dX12_steps_68 ?_
    refine lv_iload_n hx hb dX12_steps_71 rfl (lv_at hl 0 rfl) ?_
    refine lv_iconst (v := 4) hx hb dX12_steps_72 (by decide) ?_
    refine lv_iadd hx hb dX12_steps_73 ?_
    refine wk_top 220 (by decide) ?_
    refine tk_ialdR hC hK hw hT kM_at12 rfl (by decide) (by decide) dX12_steps_74 (fun x110 c111 Ex110 => ?_)
    have bx110 := (tk_rgB rfl 220 1 1 (by decide +kernel) ⟨0, by decide, by decide⟩).mp Ex110
    have c111 : gi w53 12 220 = x110 := c111
    refine lv_bipush (v := 24) hx hb dX12_steps_75 (by decide) ?_
    refine lv_idiv hx hb dX12_steps_77 (by decide) ?_
    refine lv_topi (fun x112 ex112 => ?_)
    have ex112 : x112.toInt = x110.toInt / (24 : Int) := by rw [ex112]; exact wk_div (show 0 ≤ x110.toInt by omega) (show 0 < (24 : Int) by decide)
    refine tk_iastR hC hK hw hT kM_at12 (by decide) rfl (by decide) (by decide) (tk_rgS rfl 224 1 1 0 44739242 (by decide +kernel) ⟨0, by decide, by decide⟩ (show 0 ≤ x112.toInt by omega) (show x112.toInt ≤ 44739242 by omega)) dX12_steps_78 (fun H locs w113 hw hT k115 c114 => ?_)
    have hRW := RW_F1 k115 (by decide) (by decide) (by decide) hRW
    have hF := hF.put kM_at12 (inE_of (a := 224) (b := 224) (by decide) (by decide) (by decide)) k115
    have c116 := k115.gi (Or.inl (tk_ne kM_at0 kM_at12 (by decide))) c77
    have c117 := k115.gi (Or.inl (tk_ne kM_at0 kM_at12 (by decide))) c71
    have c118 := k115.gi (Or.inr (by decide)) c73
    have c119 := k115.gi (Or.inr (by decide)) c111
    have c114 : gi w113 12 224 = x112 := c114
    refine lv_aload_n hx hb dX12_steps_79 rfl (lv_at hl 2 rfl) ?_
    refine tk_getA hC hK hw hT hinX12 kM_at0 (by decide) rfl 26 (by decide) (List.mem_of_getElem? (i := 2) rfl) rfl rfl dX12_steps_80 ?_
    refine lv_iload_n hx hb dX12_steps_83 rfl (lv_at hl 0 rfl) ?_
    refine lv_bipush (v := 6) hx hb dX12_steps_84 (by decide) ?_
    refine lv_iadd hx hb dX12_steps_86 ?_
    refine wk_top 222 (by decide) ?_
    refine lv_dup2_11 hx hb dX12_steps_87 rfl rfl ?_
    refine tk_ialdR hC hK hw hT kM_at12 rfl (by decide) (by decide) dX12_steps_88 (fun x120 c121 Ex120 => ?_)
    have c121 : gi w113 12 222 = x120 := c121
    refine lv_iconst (v := 1) hx hb dX12_steps_89 (by decide) ?_
    refine lv_iadd hx hb dX12_steps_90 ?_
    have nx122 := wk_i32 x120
    refine lv_topi (fun x123 ex123 => ?_)
    refine tk_iastR hC hK hw hT kM_at12 (by decide) rfl (by decide) (by decide) (tk_rgS rfl 222 1 1 (-2147483648) 2147483647 (by decide +kernel) ⟨0, by decide, by decide⟩ (wk_i32 x123).1 (wk_i32 x123).2) dX12_steps_91 (fun H locs w124 hw hT k126 c125 => ?_)
    have hRW := RW_F1 k126 (by decide) (by decide) (by decide) hRW
    have hF := hF.put kM_at12 (inE_of (a := 222) (b := 222) (by decide) (by decide) (by decide)) k126
    have c127 := k126.gi (Or.inl (tk_ne kM_at0 kM_at12 (by decide))) c116
    have c128 := k126.gi (Or.inl (tk_ne kM_at0 kM_at12 (by decide))) c117
    have c129 := k126.gi (Or.inr (by decide)) c118
    have c130 := k126.gi (Or.inr (by decide)) c119
    have c131 := k126.gi (Or.inr (by decide)) c114
    have c125 : gi w124 12 222 = x123 := c125
    exact J92 2 x48 x72 H locs ls w124 (show (-1) ≤ x48.toInt by omega) (show x48.toInt ≤ 11 by omega) (show (-1) ≤ x72.toInt by omega) (show x72.toInt ≤ 5 by omega)  hw hT hF hRW c127 c129 (lv_sub hl [2, 3, 1, 0] rfl)
  · refine lv_istore_n (lv' := [(2, .int 3), (0, .ref (ad 0)), (1, .int 0)]) hx hb dX12_steps_10 rfl hl (by decide) rfl (fun ls hl => ?_)
    refine lv_sipush (v := 216) hx hb dX12_steps_11 (by decide) ?_
    refine lv_bipush (v := 9) hx hb dX12_steps_14 (by decide) ?_
    refine lv_iload_n hx hb dX12_steps_16 rfl (lv_at hl 2 rfl) ?_
    refine lv_imul hx hb dX12_steps_17 ?_
    refine wk_top 0 (by decide) ?_
    refine lv_iadd hx hb dX12_steps_18 ?_
    refine wk_top 216 (by decide) ?_
    refine lv_istore_n (lv' := [(3, .int 216), (2, .int 3), (0, .ref (ad 0)), (1, .int 0)]) hx hb dX12_steps_19 rfl hl (by decide) rfl (fun ls hl => ?_)
    refine lv_iload_n hx hb dX12_steps_20 rfl (lv_at hl 1 rfl) ?_
    refine lv_if_ne (tgt := 36) hx hb dX12_steps_21 (by decide) (fun _ => ?_) (fun c => absurd c (by decide))
    refine lv_iload_n hx hb dX12_steps_36 rfl (lv_at hl 1 rfl) ?_
    refine lv_iconst (v := 1) hx hb dX12_steps_37 (by decide) ?_
    refine lv_icmp_ne (tgt := 54) hx hb dX12_steps_38 (by decide) (fun _ => ?_) (fun c => absurd c (by decide))
    refine lv_iload_n hx hb dX12_steps_54 rfl (lv_at hl 1 rfl) ?_
    refine lv_iconst (v := 2) hx hb dX12_steps_55 (by decide) ?_
    refine lv_icmp_ne (tgt := 92) hx hb dX12_steps_56 (by decide) (fun _ => ?_) (fun c => absurd c (by decide))
    exact J92 3 x48 x74 H locs ls w53 (show (-1) ≤ x48.toInt by omega) (show x48.toInt ≤ 11 by omega) (show (-1) ≤ x74.toInt by omega) (show x74.toInt ≤ 5 by omega)  hw hT hF hRW c77 c75 (lv_sub hl [2, 3, 1, 0] rfl)
abbrev P_X12_strangers_1 (ad : Nat → Nat) (cy : Nat → ClassId) (B : Int) (qr : Nat) (s1 : Int) (a1 : Int32) (a2 : Int32) (a3 : Int32) (a4 : Int32) (w0 : va_W) : Int32 → va_W → Prop := fun r u => TW ksM ad cy (B + 54000) qr 12 u ∧ FE ksM [(12, 24, 24), (12, 31, 31), (12, 39, 39), (69, 0, 64), (70, 0, 10), (71, 0, 295), (71, 216, 216), (71, 217, 217), (71, 218, 218), (71, 219, 219), (71, 220, 220), (71, 221, 221), (71, 222, 222), (71, 223, 223), (71, 224, 224), (72, 0, 12), (73, 0, 10), (74, 0, 296)] w0 u ∧ (((-1) ≤ a1.toInt ∧ a1.toInt ≤ 5 ∧ 1 ≤ a2.toInt ∧ a2.toInt ≤ 30 ∧ 1 ≤ a3.toInt ∧ a3.toInt ≤ 200 ∧ 0 ≤ a4.toInt ∧ a4.toInt ≤ 1 ∧ (∃ y : Int32, gi u 12 0 = y ∧ 1 ≤ y.toInt ∧ y.toInt ≤ 10) ∧ (∃ y : Int32, gi u 12 4 = y ∧ 1 ≤ y.toInt ∧ y.toInt ≤ 4)) ∨ (r = (-1)))
set_option maxHeartbeats 4000000 in
set_option maxRecDepth 100000 in
theorem k_X12_strangers_1 (l : Launch) (adK adV : Nat → Nat) (dC : Nat → ClassId) (dI : Nat → Nat → Nat) (cy : Nat → ClassId) (ad : Nat → Nat) (B : Int) (hB0 : 100000 ≤ B) (hB1 : B ≤ 1073687824) (qr : Nat) (s1 : Int)  (a1 : Int32) (a2 : Int32) (a3 : Int32) (a4 : Int32) (w0 : va_W) (sz : Nat) (hT : TW ksM ad cy B qr 12 w0) (hRW : RW w0) : Met l yX12_strangers wsX12_strangers ({ frames := 9, cells := 0, slots := 0, locals := 194 }) (va_Pc [.ref (ad 0), .int a1, .int a2, .int a3, .int a4] (wpreS adK adV dC dI cy sz w0)) (va_Qi (P_X12_strangers_1 ad cy B qr s1 a1 a2 a3 a4 w0) (fun u : va_W => wpost dC dI cy (va_A w0 sz) u) (va_A w0 sz)) 0 0 (va_A w0 sz) := by
  refine Met.ofW (cc := cX12_strangers) (maxL := 12) (ret := (some .int)) (by decide) rfl ?_
  intro p e s m args below meth c s₁ Bk hml hv
  obtain ⟨rfl, ⟨hsz, hP, hK, hD0⟩, hE, hSR⟩ := hv
  have hx := Bk.exec
  have hb := Bk.bytes
  have hr := Bk.returns
  have hlocks := Bk.notSynchronized
  have hC : CallFix p m c cX12_strangers 12 s _ wsX12_strangers RX12 := ⟨hx, hb, hml, findClass_of_methodNamed Bk.named, atoms_spec (ws := wsX12_strangers) Bk.pre⟩
  subst hsz
  have hD := hD0.self (sz := s.heap.size)
  generalize hAe : va_A w0 s.heap.size = A at hD hE ⊢
  have hA : ∀ q : Nat, s.heap.size ≤ q → A q := fun q h => by rw [← hAe]; exact Or.inr h
  have hw : Wd dC dI A s.heap s.heap [] w0 := ⟨hP, hD, va_S.rf⟩
  have hF : FE ksM [(12, 24, 24), (12, 31, 31), (12, 39, 39), (69, 0, 64), (70, 0, 10), (71, 0, 295), (71, 216, 216), (71, 217, 217), (71, 218, 218), (71, 219, 219), (71, 220, 220), (71, 221, 221), (71, 222, 222), (71, 223, 223), (71, 224, 224), (72, 0, 12), (73, 0, 10), (74, 0, 296)] w0 w0 := FE.rf
  have hl := lv_entry ([.ref (ad 0), .int a1, .int a2, .int a3, .int a4]) (n := 12) (Nat.le_of_ble_eq_true rfl)
  rw [lg_entry_eq]
  generalize (lg_sl ([.ref (ad 0), .int a1, .int a2, .int a3, .int a4]) ++ List.replicate (12 - (lg_sl ([.ref (ad 0), .int a1, .int a2, .int a3, .int a4])).length) Slot.unset).toArray = ls at hl ⊢
  have hl : lv_has ls 12 [(0, .ref (ad 0)), (1, .int a1), (2, .int a2), (3, .int a3), (4, .int a4)] := hl
  generalize hloc : ([] : List Loc) = locs at hw ⊢
  have hinX12 : ∀ w ∈ u_ws RX12 TX12 42, w ∈ wsX12_strangers := fun _ h => List.mem_cons_of_mem _ (List.mem_append_right _ (h))
  have J64 : ∀ (f64_12_0 : Int32) (H : Heap) (locs : List Loc) (ls : Array Slot) (w1 : va_W), 0 ≤ f64_12_0.toInt → f64_12_0.toInt ≤ 10 → Wd dC dI A s.heap H locs w1 → TW ksM ad cy B qr 12 w1 → FE ksM [(12, 24, 24), (12, 31, 31), (12, 39, 39), (69, 0, 64), (70, 0, 10), (71, 0, 295), (71, 216, 216), (71, 217, 217), (71, 218, 218), (71, 219, 219), (71, 220, 220), (71, 221, 221), (71, 222, 222), (71, 223, 223), (71, 224, 224), (72, 0, 12), (73, 0, 10), (74, 0, 296)] w0 w1 → RW w1 → gi w1 12 0 = f64_12_0 → lv_has ls 12 [(0, .ref (ad 0)), (1, .int a1), (2, .int a2), (3, .int a3), (4, .int a4)] → W p l e ({ frames := 9, cells := 0, slots := 0, locals := 194 }) s m (List.toArray [.ref (ad 0), .int a1, .int a2, .int a3, .int a4]) below meth c H locs 0 0 (MQ below (va_Qi (P_X12_strangers_1 ad cy B qr s1 a1 a2 a3 a4 w0) (fun u : va_W => wpost dC dI cy A u) A) (List.toArray [.ref (ad 0), .int a1, .int a2, .int a3, .int a4]) s 0 0 A) (F0 m 64 ls []) := by
    intro f64_12_0 H locs ls w1 r2 t3 hw hT hF hRW c4 hl
    refine lv_iconst (v := (-1)) hx hb dX12_strangers_64 (by decide) ?_
    exact tk_iret hC hr hlocks hK ⟨(hT.up (show B ≤ (B + 54000) by omega)), hF, (Or.inr rfl)⟩ hw dX12_strangers_65
  have L88 : ∀ (n88 : Nat) (v88_5 : Int32) (v88_6 : Int32) (f88_12_0 : Int32) (f88_12_4 : Int32) (f88_12_9 : Int32) (f88_15_0 : Int32) (f88_15_4 : Int32) (f88_15_9 : Int32) (H : Heap) (locs : List Loc) (ls : Array Slot) (w5 : va_W), (-1) ≤ a1.toInt → a1.toInt ≤ 5 → 1 ≤ a2.toInt → a2.toInt ≤ 30 → 1 ≤ a3.toInt → a3.toInt ≤ 200 → 0 ≤ a4.toInt → a4.toInt ≤ 1 → 0 ≤ v88_6.toInt → v88_6.toInt ≤ 30 → 1 ≤ f88_12_0.toInt → f88_12_0.toInt ≤ 10 → 1 ≤ f88_12_4.toInt → f88_12_4.toInt ≤ 4 → 0 ≤ f88_12_9.toInt → 1 ≤ f88_15_0.toInt → f88_15_0.toInt ≤ 10 → 1 ≤ f88_15_4.toInt → f88_15_4.toInt ≤ 4 → 0 ≤ f88_15_9.toInt → (30 - v88_6.toInt).toNat < n88 → Wd dC dI A s.heap H locs w5 → TW ksM ad cy (B + 0 + 1800 * v88_6.toInt) qr 12 w5 → FE ksM [(12, 24, 24), (12, 31, 31), (12, 39, 39), (69, 0, 64), (70, 0, 10), (71, 0, 295), (71, 216, 216), (71, 217, 217), (71, 218, 218), (71, 219, 219), (71, 220, 220), (71, 221, 221), (71, 222, 222), (71, 223, 223), (71, 224, 224), (72, 0, 12), (73, 0, 10), (74, 0, 296)] w0 w5 → RW w5 → gi w5 12 0 = f88_12_0 → gi w5 12 4 = f88_12_4 → gi w5 12 9 = f88_12_9 → gi w5 15 0 = f88_15_0 → gi w5 15 4 = f88_15_4 → gi w5 15 9 = f88_15_9 → lv_has ls 12 [(0, .ref (ad 0)), (1, .int a1), (2, .int a2), (3, .int a3), (4, .int a4), (5, .int v88_5), (6, .int v88_6)] → W p l e ({ frames := 9, cells := 0, slots := 0, locals := 194 }) s m (List.toArray [.ref (ad 0), .int a1, .int a2, .int a3, .int a4]) below meth c H locs 0 0 (MQ below (va_Qi (P_X12_strangers_1 ad cy B qr s1 a1 a2 a3 a4 w0) (fun u : va_W => wpost dC dI cy A u) A) (List.toArray [.ref (ad 0), .int a1, .int a2, .int a3, .int a4]) s 0 0 A) (F0 m 88 ls []) := by
    intro n88
    induction n88 with
    | zero => intro v88_5 v88_6 f88_12_0 f88_12_4 f88_12_9 f88_15_0 f88_15_4 f88_15_9 H locs ls w5 r6 t7 r8 t9 r10 t11 r12 t13 r14 t15 r16 t17 r19 t20 r22 r24 t25 r27 t28 r30 hm88 hw hT hF hRW c18 c21 c23 c26 c29 c31 hl; omega
    | succ n88 ih88 =>
      intro v88_5 v88_6 f88_12_0 f88_12_4 f88_12_9 f88_15_0 f88_15_4 f88_15_9 H locs ls w5 r6 t7 r8 t9 r10 t11 r12 t13 r14 t15 r16 t17 r19 t20 r22 r24 t25 r27 t28 r30 hm88 hw hT hF hRW c18 c21 c23 c26 c29 c31 hl
      have J213 : ∀ (v213_5 : Int32) (v213_7 : Int32) (v213_8 : Int32) (v213_9 : Int32) (v213_10 : Int32) (v213_11 : Int32) (H : Heap) (locs : List Loc) (ls : Array Slot) (w32 : va_W), (-1) ≤ a1.toInt → a1.toInt ≤ 5 → 1 ≤ a2.toInt → a2.toInt ≤ 30 → 1 ≤ a3.toInt → a3.toInt ≤ 200 → 0 ≤ a4.toInt → a4.toInt ≤ 1 → 0 ≤ v88_6.toInt → v88_6.toInt ≤ 29 → 0 ≤ v213_7.toInt → v213_7.toInt ≤ 9 → 0 ≤ v213_8.toInt → v213_8.toInt ≤ 9 → 0 ≤ v213_9.toInt → v213_9.toInt ≤ 3 → 0 ≤ v213_10.toInt → v213_10.toInt ≤ 167 → 0 ≤ v213_11.toInt → v213_11.toInt ≤ 200 → 1 ≤ f88_12_0.toInt → f88_12_0.toInt ≤ 10 → 1 ≤ f88_12_4.toInt → f88_12_4.toInt ≤ 4 → 0 ≤ f88_12_9.toInt → 1 ≤ f88_15_0.toInt → f88_15_0.toInt ≤ 10 → 1 ≤ f88_15_4.toInt → f88_15_4.toInt ≤ 4 → 0 ≤ f88_15_9.toInt → Wd dC dI A s.heap H locs w32 → TW ksM ad cy (B + 1800 + 1800 * v88_6.toInt) qr 12 w32 → FE ksM [(12, 24, 24), (12, 31, 31), (12, 39, 39), (69, 0, 64), (70, 0, 10), (71, 0, 295), (71, 216, 216), (71, 217, 217), (71, 218, 218), (71, 219, 219), (71, 220, 220), (71, 221, 221), (71, 222, 222), (71, 223, 223), (71, 224, 224), (72, 0, 12), (73, 0, 10), (74, 0, 296)] w0 w32 → RW w32 → gi w32 12 0 = f88_12_0 → gi w32 12 4 = f88_12_4 → gi w32 12 9 = f88_12_9 → gi w32 15 0 = f88_15_0 → gi w32 15 4 = f88_15_4 → gi w32 15 9 = f88_15_9 → lv_has ls 12 [(0, .ref (ad 0)), (1, .int a1), (2, .int a2), (3, .int a3), (4, .int a4), (5, .int v213_5), (6, .int v88_6), (7, .int v213_7), (8, .int v213_8), (9, .int v213_9), (10, .int v213_10), (11, .int v213_11)] → W p l e ({ frames := 9, cells := 0, slots := 0, locals := 194 }) s m (List.toArray [.ref (ad 0), .int a1, .int a2, .int a3, .int a4]) below meth c H locs 0 0 (MQ below (va_Qi (P_X12_strangers_1 ad cy B qr s1 a1 a2 a3 a4 w0) (fun u : va_W => wpost dC dI cy A u) A) (List.toArray [.ref (ad 0), .int a1, .int a2, .int a3, .int a4]) s 0 0 A) (F0 m 213 ls []) := by
        intro v213_5 v213_7 v213_8 v213_9 v213_10 v213_11 H locs ls w32 r33 t34 r35 t36 r37 t38 r39 t40 r41 t42 r43 t44 r45 t46 r47 t48 r49 t50 r51 t52 r53 t54 r56 t57 r59 r61 t62 r64 t65 r67 hw hT hF hRW c55 c58 c60 c63 c66 c68 hl
        refine lv_aload_n hx hb dX12_strangers_213 rfl (lv_at hl 0 rfl) ?_
        refine tk_Vv hC hK hw hT hA hE hSR kM_at0 (by decide) rfl (k_X12_putsBack_1 l adK adV dC dI cy ad (B + 1800 + 1800 * v88_6.toInt) (by omega) (by omega) qr s1    w32 H.size hT ) (cwV 0 hC.2.2.2.2 gX12_strangers_X12_putsBack rfl rfl rfl (by decide +kernel) ⟨Nat.le_of_ble_eq_true rfl, Nat.le_of_ble_eq_true rfl⟩) rfl hl.1 rfl (Nat.le_of_ble_eq_true rfl) dX12_strangers_214 (fun w71 H locs hp70 hw => ?_)
        obtain ⟨hT, k72, hg76⟩ := hp70
        have hRW := RW_FE k72 (fun _ => rfl) (fun _ => rfl) (fun _ => rfl) hRW
        have hF := hF.tr k72 (by decide)
        have c77 := k72.gi kM_at15 (by decide) c63
        have c78 := k72.gi kM_at15 (by decide) c66
        have c79 := k72.gi kM_at15 (by decide) c68
        obtain ⟨c73, c74, c75⟩ := hg76
        obtain ⟨x80, ex80⟩ : ∃ y : Int32, y = v88_6 + Int32.ofInt 1 := ⟨_, rfl⟩
        refine lv_iinc (v := x80) (lv' := [(6, .int x80), (0, .ref (ad 0)), (1, .int a1), (2, .int a2), (3, .int a3), (4, .int a4), (5, .int v213_5), (7, .int v213_7), (8, .int v213_8), (9, .int v213_9), (10, .int v213_10), (11, .int v213_11)]) hx hb dX12_strangers_217 hl (k := 6) rfl ex80.symm (by decide) rfl (fun ls hl => ?_)
        have ex80 : x80.toInt = v88_6.toInt + 1 := by rw [ex80]; exact wk_add (y := 1) (show -2147483648 ≤ v88_6.toInt + 1 by omega) (show v88_6.toInt + 1 ≤ 2147483647 by omega)
        refine lv_goto (tgt := 88) hx hb dX12_strangers_220 (by decide) ?_
        exact ih88 v213_5 x80 f88_15_0 f88_15_4 f88_15_9 f88_15_0 f88_15_4 f88_15_9 H locs ls w71 (show (-1) ≤ a1.toInt by omega) (show a1.toInt ≤ 5 by omega) (show 1 ≤ a2.toInt by omega) (show a2.toInt ≤ 30 by omega) (show 1 ≤ a3.toInt by omega) (show a3.toInt ≤ 200 by omega) (show 0 ≤ a4.toInt by omega) (show a4.toInt ≤ 1 by omega) (show 0 ≤ x80.toInt by omega) (show x80.toInt ≤ 30 by omega) (show 1 ≤ f88_15_0.toInt by omega) (show f88_15_0.toInt ≤ 10 by omega) (show 1 ≤ f88_15_4.toInt by omega) (show f88_15_4.toInt ≤ 4 by omega) (show 0 ≤ f88_15_9.toInt by omega) (show 1 ≤ f88_15_0.toInt by omega) (show f88_15_0.toInt ≤ 10 by omega) (show 1 ≤ f88_15_4.toInt by omega) (show f88_15_4.toInt ≤ 4 by omega) (show 0 ≤ f88_15_9.toInt by omega) (show (30 - x80.toInt).toNat < n88 by omega) hw (hT.up (show (B + 1800 + 1800 * v88_6.toInt) ≤ (B + 0 + 1800 * x80.toInt) by omega)) hF hRW (c73.trans c63) (c74.trans c66) (c75.trans c68) c77 c78 c79 (lv_sub hl [1, 2, 3, 4, 5, 6, 0] rfl)
      have J182 : ∀ (v182_7 : Int32) (v182_8 : Int32) (v182_9 : Int32) (v182_10 : Int32) (v182_11 : Int32) (H : Heap) (locs : List Loc) (ls : Array Slot) (w81 : va_W), (-1) ≤ a1.toInt → a1.toInt ≤ 5 → 1 ≤ a2.toInt → a2.toInt ≤ 30 → 1 ≤ a3.toInt → a3.toInt ≤ 200 → 0 ≤ a4.toInt → a4.toInt ≤ 1 → 0 ≤ v88_6.toInt → v88_6.toInt ≤ 29 → 0 ≤ v182_7.toInt → v182_7.toInt ≤ 9 → 0 ≤ v182_8.toInt → v182_8.toInt ≤ 9 → 0 ≤ v182_9.toInt → v182_9.toInt ≤ 3 → 0 ≤ v182_10.toInt → v182_10.toInt ≤ 167 → 0 ≤ v182_11.toInt → v182_11.toInt ≤ 200 → 1 ≤ f88_12_0.toInt → f88_12_0.toInt ≤ 10 → 1 ≤ f88_12_4.toInt → f88_12_4.toInt ≤ 4 → 0 ≤ f88_12_9.toInt → 1 ≤ f88_15_0.toInt → f88_15_0.toInt ≤ 10 → 1 ≤ f88_15_4.toInt → f88_15_4.toInt ≤ 4 → 0 ≤ f88_15_9.toInt → Wd dC dI A s.heap H locs w81 → TW ksM ad cy (B + 1800 + 1800 * v88_6.toInt) qr 12 w81 → FE ksM [(12, 24, 24), (12, 31, 31), (12, 39, 39), (69, 0, 64), (70, 0, 10), (71, 0, 295), (71, 216, 216), (71, 217, 217), (71, 218, 218), (71, 219, 219), (71, 220, 220), (71, 221, 221), (71, 222, 222), (71, 223, 223), (71, 224, 224), (72, 0, 12), (73, 0, 10), (74, 0, 296)] w0 w81 → RW w81 → gi w81 12 0 = f88_12_0 → gi w81 12 4 = f88_12_4 → gi w81 12 9 = f88_12_9 → gi w81 15 0 = f88_15_0 → gi w81 15 4 = f88_15_4 → gi w81 15 9 = f88_15_9 → lv_has ls 12 [(0, .ref (ad 0)), (1, .int a1), (2, .int a2), (3, .int a3), (4, .int a4), (5, .int v88_5), (6, .int v88_6), (7, .int v182_7), (8, .int v182_8), (9, .int v182_9), (10, .int v182_10), (11, .int v182_11)] → W p l e ({ frames := 9, cells := 0, slots := 0, locals := 194 }) s m (List.toArray [.ref (ad 0), .int a1, .int a2, .int a3, .int a4]) below meth c H locs 0 0 (MQ below (va_Qi (P_X12_strangers_1 ad cy B qr s1 a1 a2 a3 a4 w0) (fun u : va_W => wpost dC dI cy A u) A) (List.toArray [.ref (ad 0), .int a1, .int a2, .int a3, .int a4]) s 0 0 A) (F0 m 182 ls []) := by
        intro v182_7 v182_8 v182_9 v182_10 v182_11 H locs ls w81 r82 t83 r84 t85 r86 t87 r88 t89 r90 t91 r92 t93 r94 t95 r96 t97 r98 t99 r100 t101 r102 t103 r105 t106 r108 r110 t111 r113 t114 r116 hw hT hF hRW c104 c107 c109 c112 c115 c117 hl
        refine lv_aload_n hx hb dX12_strangers_182 rfl (lv_at hl 0 rfl) ?_
        refine lv_iconst (v := 0) hx hb dX12_strangers_183 (by decide) ?_
        refine tk_Vi hC hK hw hT hA hE hSR kM_at0 (by decide) rfl (k_X12_isThere_2 l adK adV dC dI cy ad (B + 1800 + 1800 * v88_6.toInt) (by omega) (by omega) qr s1    w81 H.size hT ) (cwV 1 hC.2.2.2.2 gX12_strangers_X12_isThere rfl rfl rfl (by decide +kernel) ⟨Nat.le_of_ble_eq_true rfl, Nat.le_of_ble_eq_true rfl⟩) rfl hl.1 rfl (Nat.le_of_ble_eq_true rfl) dX12_strangers_184 (fun r118 w120 H locs hp119 hw => ?_)
        obtain ⟨rfl, hg122⟩ := hp119
        rcases hg122 with rfl | rfl
        · refine lv_if_eq (tgt := 213) hx hb dX12_strangers_187 (by decide) (fun _ => ?_) (fun c => absurd (by decide) c)
          exact J213 v88_5 v182_7 v182_8 v182_9 v182_10 v182_11 H locs ls w81 (show (-1) ≤ a1.toInt by omega) (show a1.toInt ≤ 5 by omega) (show 1 ≤ a2.toInt by omega) (show a2.toInt ≤ 30 by omega) (show 1 ≤ a3.toInt by omega) (show a3.toInt ≤ 200 by omega) (show 0 ≤ a4.toInt by omega) (show a4.toInt ≤ 1 by omega) (show 0 ≤ v88_6.toInt by omega) (show v88_6.toInt ≤ 29 by omega) (show 0 ≤ v182_7.toInt by omega) (show v182_7.toInt ≤ 9 by omega) (show 0 ≤ v182_8.toInt by omega) (show v182_8.toInt ≤ 9 by omega) (show 0 ≤ v182_9.toInt by omega) (show v182_9.toInt ≤ 3 by omega) (show 0 ≤ v182_10.toInt by omega) (show v182_10.toInt ≤ 167 by omega) (show 0 ≤ v182_11.toInt by omega) (show v182_11.toInt ≤ 200 by omega) (show 1 ≤ f88_12_0.toInt by omega) (show f88_12_0.toInt ≤ 10 by omega) (show 1 ≤ f88_12_4.toInt by omega) (show f88_12_4.toInt ≤ 4 by omega) (show 0 ≤ f88_12_9.toInt by omega) (show 1 ≤ f88_15_0.toInt by omega) (show f88_15_0.toInt ≤ 10 by omega) (show 1 ≤ f88_15_4.toInt by omega) (show f88_15_4.toInt ≤ 4 by omega) (show 0 ≤ f88_15_9.toInt by omega)  hw hT hF hRW c104 c107 c109 c112 c115 c117 (lv_sub hl [0, 1, 2, 3, 4, 5, 6, 7, 8, 9, 10, 11] rfl)
        · refine lv_if_eq (tgt := 213) hx hb dX12_strangers_187 (by decide) (fun c => absurd c (by decide)) (fun _ => ?_)
          refine lv_iload hx hb dX12_strangers_190 (lv_at hl 5 rfl) ?_
          refine lv_iload hx hb dX12_strangers_192 (lv_at hl 4 rfl) ?_
          refine lv_if_ne (tgt := 201) hx hb dX12_strangers_194 (by decide) (fun c123 => ?_) (fun c123 => ?_)
          · have c123 : ¬ a4.toInt = (0 : Int) := wk_eqF c123
            refine lv_aload_n hx hb dX12_strangers_201 rfl (lv_at hl 0 rfl) ?_
            refine lv_iconst (v := 0) hx hb dX12_strangers_202 (by decide) ?_
            refine lv_iconst (v := 4) hx hb dX12_strangers_203 (by decide) ?_
            refine tk_Vi hC hK hw hT hA hE hSR kM_at0 (by decide) rfl (k_X12_walkerOf_13 l adK adV dC dI cy ad (B + 1800 + 1800 * v88_6.toInt) (by omega) (by omega) qr s1    w81 H.size hT ) (cwV 2 hC.2.2.2.2 gX12_strangers_X12_walkerOf rfl rfl rfl (by decide +kernel) ⟨Nat.le_of_ble_eq_true rfl, Nat.le_of_ble_eq_true rfl⟩) rfl hl.1 rfl (Nat.le_of_ble_eq_true rfl) dX12_strangers_204 (fun r124 w126 H locs hp125 hw => ?_)
            obtain ⟨rfl, hg131⟩ := hp125
            obtain ⟨g128, g129, c130⟩ := hg131
            refine lv_iload hx hb dX12_strangers_207 (lv_at hl 10 rfl) ?_
            refine lv_isub hx hb dX12_strangers_209 ?_
            refine lv_topi (fun x132 ex132 => ?_)
            have ex132 : x132.toInt = r124.toInt - v182_10.toInt := by rw [ex132]; exact wk_sub (show (-2147483648) ≤ r124.toInt - v182_10.toInt by omega) (show r124.toInt - v182_10.toInt ≤ 2147483647 by omega)
            refine lv_iadd hx hb dX12_strangers_210 ?_
            have nx133 := wk_i32 v88_5
            refine lv_topi (fun x134 ex134 => ?_)
            refine lv_istore (lv' := [(5, .int x134), (0, .ref (ad 0)), (1, .int a1), (2, .int a2), (3, .int a3), (4, .int a4), (6, .int v88_6), (7, .int v182_7), (8, .int v182_8), (9, .int v182_9), (10, .int v182_10), (11, .int v182_11)]) hx hb dX12_strangers_211 hl (by decide) rfl (fun ls hl => ?_)
            exact J213 x134 v182_7 v182_8 v182_9 v182_10 v182_11 H locs ls w81 (show (-1) ≤ a1.toInt by omega) (show a1.toInt ≤ 5 by omega) (show 1 ≤ a2.toInt by omega) (show a2.toInt ≤ 30 by omega) (show 1 ≤ a3.toInt by omega) (show a3.toInt ≤ 200 by omega) (show 0 ≤ a4.toInt by omega) (show a4.toInt ≤ 1 by omega) (show 0 ≤ v88_6.toInt by omega) (show v88_6.toInt ≤ 29 by omega) (show 0 ≤ v182_7.toInt by omega) (show v182_7.toInt ≤ 9 by omega) (show 0 ≤ v182_8.toInt by omega) (show v182_8.toInt ≤ 9 by omega) (show 0 ≤ v182_9.toInt by omega) (show v182_9.toInt ≤ 3 by omega) (show 0 ≤ v182_10.toInt by omega) (show v182_10.toInt ≤ 167 by omega) (show 0 ≤ v182_11.toInt by omega) (show v182_11.toInt ≤ 200 by omega) (show 1 ≤ f88_12_0.toInt by omega) (show f88_12_0.toInt ≤ 10 by omega) (show 1 ≤ f88_12_4.toInt by omega) (show f88_12_4.toInt ≤ 4 by omega) (show 0 ≤ f88_12_9.toInt by omega) (show 1 ≤ f88_15_0.toInt by omega) (show f88_15_0.toInt ≤ 10 by omega) (show 1 ≤ f88_15_4.toInt by omega) (show f88_15_4.toInt ≤ 4 by omega) (show 0 ≤ f88_15_9.toInt by omega)  hw hT hF hRW c104 c107 c109 c112 c115 c117 (lv_sub hl [1, 2, 3, 4, 5, 0, 6, 7, 8, 9, 10, 11] rfl)
          · have c123 : a4.toInt = (0 : Int) := wk_eq.mp c123
            refine lv_iconst (v := 1) hx hb dX12_strangers_197 (by decide) ?_
            refine lv_goto (tgt := 210) hx hb dX12_strangers_198 (by decide) ?_
            refine lv_iadd hx hb dX12_strangers_210 ?_
            have nx135 := wk_i32 v88_5
            refine lv_topi (fun x136 ex136 => ?_)
            refine lv_istore (lv' := [(5, .int x136), (0, .ref (ad 0)), (1, .int a1), (2, .int a2), (3, .int a3), (4, .int a4), (6, .int v88_6), (7, .int v182_7), (8, .int v182_8), (9, .int v182_9), (10, .int v182_10), (11, .int v182_11)]) hx hb dX12_strangers_211 hl (by decide) rfl (fun ls hl => ?_)
            exact J213 x136 v182_7 v182_8 v182_9 v182_10 v182_11 H locs ls w81 (show (-1) ≤ a1.toInt by omega) (show a1.toInt ≤ 5 by omega) (show 1 ≤ a2.toInt by omega) (show a2.toInt ≤ 30 by omega) (show 1 ≤ a3.toInt by omega) (show a3.toInt ≤ 200 by omega) (show 0 ≤ a4.toInt by omega) (show a4.toInt ≤ 1 by omega) (show 0 ≤ v88_6.toInt by omega) (show v88_6.toInt ≤ 29 by omega) (show 0 ≤ v182_7.toInt by omega) (show v182_7.toInt ≤ 9 by omega) (show 0 ≤ v182_8.toInt by omega) (show v182_8.toInt ≤ 9 by omega) (show 0 ≤ v182_9.toInt by omega) (show v182_9.toInt ≤ 3 by omega) (show 0 ≤ v182_10.toInt by omega) (show v182_10.toInt ≤ 167 by omega) (show 0 ≤ v182_11.toInt by omega) (show v182_11.toInt ≤ 200 by omega) (show 1 ≤ f88_12_0.toInt by omega) (show f88_12_0.toInt ≤ 10 by omega) (show 1 ≤ f88_12_4.toInt by omega) (show f88_12_4.toInt ≤ 4 by omega) (show 0 ≤ f88_12_9.toInt by omega) (show 1 ≤ f88_15_0.toInt by omega) (show f88_15_0.toInt ≤ 10 by omega) (show 1 ≤ f88_15_4.toInt by omega) (show f88_15_4.toInt ≤ 4 by omega) (show 0 ≤ f88_15_9.toInt by omega)  hw hT hF hRW c104 c107 c109 c112 c115 c117 (lv_sub hl [1, 2, 3, 4, 5, 0, 6, 7, 8, 9, 10, 11] rfl)
      have L156 : ∀ (n156 : Nat) (v156_7 : Int32) (v156_8 : Int32) (v156_9 : Int32) (v156_10 : Int32) (v156_11 : Int32) (H : Heap) (locs : List Loc) (ls : Array Slot) (w137 : va_W), (-1) ≤ a1.toInt → a1.toInt ≤ 5 → 1 ≤ a2.toInt → a2.toInt ≤ 30 → 1 ≤ a3.toInt → a3.toInt ≤ 200 → 0 ≤ a4.toInt → a4.toInt ≤ 1 → 0 ≤ v88_6.toInt → v88_6.toInt ≤ 29 → 0 ≤ v156_7.toInt → v156_7.toInt ≤ 9 → 0 ≤ v156_8.toInt → v156_8.toInt ≤ 9 → 0 ≤ v156_9.toInt → v156_9.toInt ≤ 3 → 0 ≤ v156_10.toInt → v156_10.toInt ≤ 167 → 0 ≤ v156_11.toInt → v156_11.toInt ≤ 200 → 1 ≤ f88_12_0.toInt → f88_12_0.toInt ≤ 10 → 1 ≤ f88_12_4.toInt → f88_12_4.toInt ≤ 4 → 0 ≤ f88_12_9.toInt → 1 ≤ f88_15_0.toInt → f88_15_0.toInt ≤ 10 → 1 ≤ f88_15_4.toInt → f88_15_4.toInt ≤ 4 → 0 ≤ f88_15_9.toInt → (200 - v156_11.toInt).toNat < n156 → Wd dC dI A s.heap H locs w137 → TW ksM ad cy (B + 0 + 1800 * v88_6.toInt + 9 * v156_11.toInt) qr 12 w137 → FE ksM [(12, 24, 24), (12, 31, 31), (12, 39, 39), (69, 0, 64), (70, 0, 10), (71, 0, 295), (71, 216, 216), (71, 217, 217), (71, 218, 218), (71, 219, 219), (71, 220, 220), (71, 221, 221), (71, 222, 222), (71, 223, 223), (71, 224, 224), (72, 0, 12), (73, 0, 10), (74, 0, 296)] w0 w137 → RW w137 → gi w137 12 0 = f88_12_0 → gi w137 12 4 = f88_12_4 → gi w137 12 9 = f88_12_9 → gi w137 15 0 = f88_15_0 → gi w137 15 4 = f88_15_4 → gi w137 15 9 = f88_15_9 → lv_has ls 12 [(0, .ref (ad 0)), (1, .int a1), (2, .int a2), (3, .int a3), (4, .int a4), (5, .int v88_5), (6, .int v88_6), (7, .int v156_7), (8, .int v156_8), (9, .int v156_9), (10, .int v156_10), (11, .int v156_11)] → W p l e ({ frames := 9, cells := 0, slots := 0, locals := 194 }) s m (List.toArray [.ref (ad 0), .int a1, .int a2, .int a3, .int a4]) below meth c H locs 0 0 (MQ below (va_Qi (P_X12_strangers_1 ad cy B qr s1 a1 a2 a3 a4 w0) (fun u : va_W => wpost dC dI cy A u) A) (List.toArray [.ref (ad 0), .int a1, .int a2, .int a3, .int a4]) s 0 0 A) (F0 m 156 ls []) := by
        intro n156
        induction n156 with
        | zero => intro v156_7 v156_8 v156_9 v156_10 v156_11 H locs ls w137 r138 t139 r140 t141 r142 t143 r144 t145 r146 t147 r148 t149 r150 t151 r152 t153 r154 t155 r156 t157 r158 t159 r161 t162 r164 r166 t167 r169 t170 r172 hm156 hw hT hF hRW c160 c163 c165 c168 c171 c173 hl; omega
        | succ n156 ih156 =>
          intro v156_7 v156_8 v156_9 v156_10 v156_11 H locs ls w137 r138 t139 r140 t141 r142 t143 r144 t145 r146 t147 r148 t149 r150 t151 r152 t153 r154 t155 r156 t157 r158 t159 r161 t162 r164 r166 t167 r169 t170 r172 hm156 hw hT hF hRW c160 c163 c165 c168 c171 c173 hl
          refine lv_iload hx hb dX12_strangers_156 (lv_at hl 11 rfl) ?_
          refine lv_iload_n hx hb dX12_strangers_158 rfl (lv_at hl 3 rfl) ?_
          refine lv_icmp_ge (tgt := 182) hx hb dX12_strangers_159 (by decide) (fun c174 => ?_) (fun c174 => ?_)
          · have c174 : a3.toInt ≤ v156_11.toInt := wk_le.mp c174
            exact J182 v156_7 v156_8 v156_9 v156_10 v156_11 H locs ls w137 (show (-1) ≤ a1.toInt by omega) (show a1.toInt ≤ 5 by omega) (show 1 ≤ a2.toInt by omega) (show a2.toInt ≤ 30 by omega) (show 1 ≤ a3.toInt by omega) (show a3.toInt ≤ 200 by omega) (show 0 ≤ a4.toInt by omega) (show a4.toInt ≤ 1 by omega) (show 0 ≤ v88_6.toInt by omega) (show v88_6.toInt ≤ 29 by omega) (show 0 ≤ v156_7.toInt by omega) (show v156_7.toInt ≤ 9 by omega) (show 0 ≤ v156_8.toInt by omega) (show v156_8.toInt ≤ 9 by omega) (show 0 ≤ v156_9.toInt by omega) (show v156_9.toInt ≤ 3 by omega) (show 0 ≤ v156_10.toInt by omega) (show v156_10.toInt ≤ 167 by omega) (show 0 ≤ v156_11.toInt by omega) (show v156_11.toInt ≤ 200 by omega) (show 1 ≤ f88_12_0.toInt by omega) (show f88_12_0.toInt ≤ 10 by omega) (show 1 ≤ f88_12_4.toInt by omega) (show f88_12_4.toInt ≤ 4 by omega) (show 0 ≤ f88_12_9.toInt by omega) (show 1 ≤ f88_15_0.toInt by omega) (show f88_15_0.toInt ≤ 10 by omega) (show 1 ≤ f88_15_4.toInt by omega) (show f88_15_4.toInt ≤ 4 by omega) (show 0 ≤ f88_15_9.toInt by omega)  hw (hT.up (show (B + 0 + 1800 * v88_6.toInt + 9 * v156_11.toInt) ≤ (B + 1800 + 1800 * v88_6.toInt) by omega)) hF hRW c160 c163 c165 c168 c171 c173 (lv_sub hl [0, 1, 2, 3, 4, 5, 6, 7, 8, 9, 10, 11] rfl)
          · have c174 : v156_11.toInt < a3.toInt := wk_leF c174
            refine lv_aload_n hx hb dX12_strangers_162 rfl (lv_at hl 0 rfl) ?_
            refine lv_iconst (v := 0) hx hb dX12_strangers_163 (by decide) ?_
            refine tk_Vi hC hK hw hT hA hE hSR kM_at0 (by decide) rfl (k_X12_isThere_2 l adK adV dC dI cy ad (B + 0 + 1800 * v88_6.toInt + 9 * v156_11.toInt) (by omega) (by omega) qr s1    w137 H.size hT ) (cwV 1 hC.2.2.2.2 gX12_strangers_X12_isThere rfl rfl rfl (by decide +kernel) ⟨Nat.le_of_ble_eq_true rfl, Nat.le_of_ble_eq_true rfl⟩) rfl hl.1 rfl (Nat.le_of_ble_eq_true rfl) dX12_strangers_164 (fun r175 w177 H locs hp176 hw => ?_)
            obtain ⟨rfl, hg179⟩ := hp176
            rcases hg179 with rfl | rfl
            · refine lv_if_ne (tgt := 182) hx hb dX12_strangers_167 (by decide) (fun c => absurd (by decide) c) (fun _ => ?_)
              refine lv_aload_n hx hb dX12_strangers_170 rfl (lv_at hl 0 rfl) ?_
              refine lv_iconst (v := 0) hx hb dX12_strangers_171 (by decide) ?_
              refine tk_Vi hC hK hw hT hA hE hSR kM_at0 (by decide) rfl (k_X12_steps_2 l adK adV dC dI cy ad (B + 0 + 1800 * v88_6.toInt + 9 * v156_11.toInt) (by omega) (by omega) qr s1    w137 H.size hT hRW) (cwV 1 hC.2.2.2.2 gX12_strangers_X12_steps rfl rfl rfl (by decide +kernel) ⟨Nat.le_of_ble_eq_true rfl, Nat.le_of_ble_eq_true rfl⟩) rfl hl.1 rfl (Nat.le_of_ble_eq_true rfl) dX12_strangers_172 (fun r180 w182 H locs hp181 hw => ?_)
              obtain ⟨hT, k183, hg184⟩ := hp181
              have hT := hT.up (B' := (B + 9 + 1800 * v88_6.toInt + 9 * v156_11.toInt)) (by omega)
              have hRW := RW_FE k183 (fun _ => rfl) (fun _ => rfl) (fun _ => rfl) hRW
              have hF := hF.tr k183 (by decide)
              have c185 := k183.gi kM_at12 (by decide) c160
              have c186 := k183.gi kM_at12 (by decide) c163
              have c187 := k183.gi kM_at12 (by decide) c165
              have c188 := k183.gi kM_at15 (by decide) c168
              have c189 := k183.gi kM_at15 (by decide) c171
              have c190 := k183.gi kM_at15 (by decide) c173
              rcases hg184 with rfl | rfl
              · refine lv_pop hx hb dX12_strangers_175 rfl ?_
                obtain ⟨x191, ex191⟩ : ∃ y : Int32, y = v156_11 + Int32.ofInt 1 := ⟨_, rfl⟩
                refine lv_iinc (v := x191) (lv' := [(11, .int x191), (0, .ref (ad 0)), (1, .int a1), (2, .int a2), (3, .int a3), (4, .int a4), (5, .int v88_5), (6, .int v88_6), (7, .int v156_7), (8, .int v156_8), (9, .int v156_9), (10, .int v156_10)]) hx hb dX12_strangers_176 hl (k := 11) rfl ex191.symm (by decide) rfl (fun ls hl => ?_)
                have ex191 : x191.toInt = v156_11.toInt + 1 := by rw [ex191]; exact wk_add (y := 1) (show -2147483648 ≤ v156_11.toInt + 1 by omega) (show v156_11.toInt + 1 ≤ 2147483647 by omega)
                refine lv_goto (tgt := 156) hx hb dX12_strangers_179 (by decide) ?_
                exact ih156 v156_7 v156_8 v156_9 v156_10 x191 H locs ls w182 (show (-1) ≤ a1.toInt by omega) (show a1.toInt ≤ 5 by omega) (show 1 ≤ a2.toInt by omega) (show a2.toInt ≤ 30 by omega) (show 1 ≤ a3.toInt by omega) (show a3.toInt ≤ 200 by omega) (show 0 ≤ a4.toInt by omega) (show a4.toInt ≤ 1 by omega) (show 0 ≤ v88_6.toInt by omega) (show v88_6.toInt ≤ 29 by omega) (show 0 ≤ v156_7.toInt by omega) (show v156_7.toInt ≤ 9 by omega) (show 0 ≤ v156_8.toInt by omega) (show v156_8.toInt ≤ 9 by omega) (show 0 ≤ v156_9.toInt by omega) (show v156_9.toInt ≤ 3 by omega) (show 0 ≤ v156_10.toInt by omega) (show v156_10.toInt ≤ 167 by omega) (show 0 ≤ x191.toInt by omega) (show x191.toInt ≤ 200 by omega) (show 1 ≤ f88_12_0.toInt by omega) (show f88_12_0.toInt ≤ 10 by omega) (show 1 ≤ f88_12_4.toInt by omega) (show f88_12_4.toInt ≤ 4 by omega) (show 0 ≤ f88_12_9.toInt by omega) (show 1 ≤ f88_15_0.toInt by omega) (show f88_15_0.toInt ≤ 10 by omega) (show 1 ≤ f88_15_4.toInt by omega) (show f88_15_4.toInt ≤ 4 by omega) (show 0 ≤ f88_15_9.toInt by omega) (show (200 - x191.toInt).toNat < n156 by omega) hw (hT.up (show (B + 9 + 1800 * v88_6.toInt + 9 * v156_11.toInt) ≤ (B + 0 + 1800 * v88_6.toInt + 9 * x191.toInt) by omega)) hF hRW c185 c186 c187 c188 c189 c190 (lv_sub hl [1, 2, 3, 4, 5, 6, 7, 8, 9, 10, 11, 0] rfl)
              · refine lv_pop hx hb dX12_strangers_175 rfl ?_
                obtain ⟨x192, ex192⟩ : ∃ y : Int32, y = v156_11 + Int32.ofInt 1 := ⟨_, rfl⟩
                refine lv_iinc (v := x192) (lv' := [(11, .int x192), (0, .ref (ad 0)), (1, .int a1), (2, .int a2), (3, .int a3), (4, .int a4), (5, .int v88_5), (6, .int v88_6), (7, .int v156_7), (8, .int v156_8), (9, .int v156_9), (10, .int v156_10)]) hx hb dX12_strangers_176 hl (k := 11) rfl ex192.symm (by decide) rfl (fun ls hl => ?_)
                have ex192 : x192.toInt = v156_11.toInt + 1 := by rw [ex192]; exact wk_add (y := 1) (show -2147483648 ≤ v156_11.toInt + 1 by omega) (show v156_11.toInt + 1 ≤ 2147483647 by omega)
                refine lv_goto (tgt := 156) hx hb dX12_strangers_179 (by decide) ?_
                exact ih156 v156_7 v156_8 v156_9 v156_10 x192 H locs ls w182 (show (-1) ≤ a1.toInt by omega) (show a1.toInt ≤ 5 by omega) (show 1 ≤ a2.toInt by omega) (show a2.toInt ≤ 30 by omega) (show 1 ≤ a3.toInt by omega) (show a3.toInt ≤ 200 by omega) (show 0 ≤ a4.toInt by omega) (show a4.toInt ≤ 1 by omega) (show 0 ≤ v88_6.toInt by omega) (show v88_6.toInt ≤ 29 by omega) (show 0 ≤ v156_7.toInt by omega) (show v156_7.toInt ≤ 9 by omega) (show 0 ≤ v156_8.toInt by omega) (show v156_8.toInt ≤ 9 by omega) (show 0 ≤ v156_9.toInt by omega) (show v156_9.toInt ≤ 3 by omega) (show 0 ≤ v156_10.toInt by omega) (show v156_10.toInt ≤ 167 by omega) (show 0 ≤ x192.toInt by omega) (show x192.toInt ≤ 200 by omega) (show 1 ≤ f88_12_0.toInt by omega) (show f88_12_0.toInt ≤ 10 by omega) (show 1 ≤ f88_12_4.toInt by omega) (show f88_12_4.toInt ≤ 4 by omega) (show 0 ≤ f88_12_9.toInt by omega) (show 1 ≤ f88_15_0.toInt by omega) (show f88_15_0.toInt ≤ 10 by omega) (show 1 ≤ f88_15_4.toInt by omega) (show f88_15_4.toInt ≤ 4 by omega) (show 0 ≤ f88_15_9.toInt by omega) (show (200 - x192.toInt).toNat < n156 by omega) hw (hT.up (show (B + 9 + 1800 * v88_6.toInt + 9 * v156_11.toInt) ≤ (B + 0 + 1800 * v88_6.toInt + 9 * x192.toInt) by omega)) hF hRW c185 c186 c187 c188 c189 c190 (lv_sub hl [1, 2, 3, 4, 5, 6, 7, 8, 9, 10, 11, 0] rfl)
            · refine lv_if_ne (tgt := 182) hx hb dX12_strangers_167 (by decide) (fun _ => ?_) (fun c => absurd c (by decide))
              exact J182 v156_7 v156_8 v156_9 v156_10 v156_11 H locs ls w137 (show (-1) ≤ a1.toInt by omega) (show a1.toInt ≤ 5 by omega) (show 1 ≤ a2.toInt by omega) (show a2.toInt ≤ 30 by omega) (show 1 ≤ a3.toInt by omega) (show a3.toInt ≤ 200 by omega) (show 0 ≤ a4.toInt by omega) (show a4.toInt ≤ 1 by omega) (show 0 ≤ v88_6.toInt by omega) (show v88_6.toInt ≤ 29 by omega) (show 0 ≤ v156_7.toInt by omega) (show v156_7.toInt ≤ 9 by omega) (show 0 ≤ v156_8.toInt by omega) (show v156_8.toInt ≤ 9 by omega) (show 0 ≤ v156_9.toInt by omega) (show v156_9.toInt ≤ 3 by omega) (show 0 ≤ v156_10.toInt by omega) (show v156_10.toInt ≤ 167 by omega) (show 0 ≤ v156_11.toInt by omega) (show v156_11.toInt ≤ 200 by omega) (show 1 ≤ f88_12_0.toInt by omega) (show f88_12_0.toInt ≤ 10 by omega) (show 1 ≤ f88_12_4.toInt by omega) (show f88_12_4.toInt ≤ 4 by omega) (show 0 ≤ f88_12_9.toInt by omega) (show 1 ≤ f88_15_0.toInt by omega) (show f88_15_0.toInt ≤ 10 by omega) (show 1 ≤ f88_15_4.toInt by omega) (show f88_15_4.toInt ≤ 4 by omega) (show 0 ≤ f88_15_9.toInt by omega)  hw (hT.up (show (B + 0 + 1800 * v88_6.toInt + 9 * v156_11.toInt) ≤ (B + 1800 + 1800 * v88_6.toInt) by omega)) hF hRW c160 c163 c165 c168 c171 c173 (lv_sub hl [0, 1, 2, 3, 4, 5, 6, 7, 8, 9, 10, 11] rfl)
      refine lv_iload hx hb dX12_strangers_88 (lv_at hl 6 rfl) ?_
      refine lv_iload_n hx hb dX12_strangers_90 rfl (lv_at hl 2 rfl) ?_
      refine lv_icmp_ge (tgt := 223) hx hb dX12_strangers_91 (by decide) (fun c193 => ?_) (fun c193 => ?_)
      · have c193 : a2.toInt ≤ v88_6.toInt := wk_le.mp c193
        refine lv_iload hx hb dX12_strangers_223 (lv_at hl 5 rfl) ?_
        exact tk_iret hC hr hlocks hK ⟨(hT.up (show (B + 0 + 1800 * v88_6.toInt) ≤ (B + 54000) by omega)), hF, (Or.inl ⟨(show (-1) ≤ a1.toInt by omega), (show a1.toInt ≤ 5 by omega), (show 1 ≤ a2.toInt by omega), (show a2.toInt ≤ 30 by omega), (show 1 ≤ a3.toInt by omega), (show a3.toInt ≤ 200 by omega), (show 0 ≤ a4.toInt by omega), (show a4.toInt ≤ 1 by omega), ⟨f88_12_0, c18, (show 1 ≤ f88_12_0.toInt by omega), (show f88_12_0.toInt ≤ 10 by omega)⟩, ⟨f88_12_4, c21, (show 1 ≤ f88_12_4.toInt by omega), (show f88_12_4.toInt ≤ 4 by omega)⟩⟩)⟩ hw dX12_strangers_225
      · have c193 : v88_6.toInt < a2.toInt := wk_leF c193
        refine lv_aload_n hx hb dX12_strangers_94 rfl (lv_at hl 0 rfl) ?_
        refine lv_aload_n hx hb dX12_strangers_95 rfl (lv_at hl 0 rfl) ?_
        refine tk_getA hC hK hw hT hinX12 kM_at0 (by decide) rfl 26 (by decide) (List.mem_of_getElem? (i := 1) rfl) rfl rfl dX12_strangers_96 ?_
        refine lv_iconst (v := 0) hx hb dX12_strangers_99 (by decide) ?_
        refine tk_ialdR hC hK hw hT kM_at12 rfl (by decide) (by decide) dX12_strangers_100 (fun x194 c195 Ex194 => ?_)
        refine wk_top f88_12_0 (c195.symm.trans c18) ?_
        refine tk_Vi hC hK hw hT hA hE hSR kM_at0 (by decide) rfl (k_X12_draw_1 l adK adV dC dI cy ad (B + 0 + 1800 * v88_6.toInt) (by omega) (by omega) qr s1   f88_12_0 (show 1 ≤ f88_12_0.toInt by omega) (show f88_12_0.toInt ≤ 10 by omega) w5 H.size hT ) (cwV 1 hC.2.2.2.2 gX12_strangers_X12_draw rfl rfl rfl (by decide +kernel) ⟨Nat.le_of_ble_eq_true rfl, Nat.le_of_ble_eq_true rfl⟩) rfl hl.1 rfl (Nat.le_of_ble_eq_true rfl) dX12_strangers_101 (fun r196 w198 H locs hp197 hw => ?_)
        obtain ⟨hT, k199, hg202⟩ := hp197
        have hRW := RW_FE k199 (fun _ => rfl) (fun _ => rfl) (fun _ => rfl) hRW
        have hF := hF.tr k199 (by decide)
        have c203 := k199.gi kM_at12 (by decide) c18
        have c204 := k199.gi kM_at12 (by decide) c21
        have c205 := k199.gi kM_at12 (by decide) c23
        have c206 := k199.gi kM_at15 (by decide) c26
        have c207 := k199.gi kM_at15 (by decide) c29
        have c208 := k199.gi kM_at15 (by decide) c31
        obtain ⟨g200, g201⟩ := hg202
        refine lv_istore (lv' := [(7, .int r196), (0, .ref (ad 0)), (1, .int a1), (2, .int a2), (3, .int a3), (4, .int a4), (5, .int v88_5), (6, .int v88_6)]) hx hb dX12_strangers_104 hl (by decide) rfl (fun ls hl => ?_)
        refine lv_aload_n hx hb dX12_strangers_106 rfl (lv_at hl 1 rfl) ?_
        refine lv_aload_n hx hb dX12_strangers_107 rfl (lv_at hl 1 rfl) ?_
        refine tk_getA hC hK hw hT hinX12 kM_at0 (by decide) rfl 26 (by decide) (List.mem_of_getElem? (i := 1) rfl) rfl rfl dX12_strangers_108 ?_
        refine lv_iconst (v := 0) hx hb dX12_strangers_111 (by decide) ?_
        refine tk_ialdR hC hK hw hT kM_at12 rfl (by decide) (by decide) dX12_strangers_112 (fun x209 c210 Ex209 => ?_)
        refine wk_top f88_12_0 (c210.symm.trans c203) ?_
        refine tk_Vi hC hK hw hT hA hE hSR kM_at0 (by decide) rfl (k_X12_draw_1 l adK adV dC dI cy ad (B + 0 + 1800 * v88_6.toInt) (by omega) (by omega) qr s1   f88_12_0 (show 1 ≤ f88_12_0.toInt by omega) (show f88_12_0.toInt ≤ 10 by omega) w198 H.size hT ) (cwV 1 hC.2.2.2.2 gX12_strangers_X12_draw rfl rfl rfl (by decide +kernel) ⟨Nat.le_of_ble_eq_true rfl, Nat.le_of_ble_eq_true rfl⟩) rfl hl.1 rfl (Nat.le_of_ble_eq_true rfl) dX12_strangers_113 (fun r211 w213 H locs hp212 hw => ?_)
        obtain ⟨hT, k214, hg217⟩ := hp212
        have hRW := RW_FE k214 (fun _ => rfl) (fun _ => rfl) (fun _ => rfl) hRW
        have hF := hF.tr k214 (by decide)
        have c218 := k214.gi kM_at12 (by decide) c203
        have c219 := k214.gi kM_at12 (by decide) c204
        have c220 := k214.gi kM_at12 (by decide) c205
        have c221 := k214.gi kM_at15 (by decide) c206
        have c222 := k214.gi kM_at15 (by decide) c207
        have c223 := k214.gi kM_at15 (by decide) c208
        obtain ⟨g215, g216⟩ := hg217
        refine lv_istore (lv' := [(8, .int r211), (7, .int r196), (0, .ref (ad 0)), (1, .int a1), (2, .int a2), (3, .int a3), (4, .int a4), (5, .int v88_5), (6, .int v88_6)]) hx hb dX12_strangers_116 hl (by decide) rfl (fun ls hl => ?_)
        refine lv_aload_n hx hb dX12_strangers_118 rfl (lv_at hl 2 rfl) ?_
        refine lv_aload_n hx hb dX12_strangers_119 rfl (lv_at hl 2 rfl) ?_
        refine tk_getA hC hK hw hT hinX12 kM_at0 (by decide) rfl 26 (by decide) (List.mem_of_getElem? (i := 1) rfl) rfl rfl dX12_strangers_120 ?_
        refine lv_iconst (v := 4) hx hb dX12_strangers_123 (by decide) ?_
        refine tk_ialdR hC hK hw hT kM_at12 rfl (by decide) (by decide) dX12_strangers_124 (fun x224 c225 Ex224 => ?_)
        refine wk_top f88_12_4 (c225.symm.trans c219) ?_
        refine tk_Vi hC hK hw hT hA hE hSR kM_at0 (by decide) rfl (k_X12_draw_2 l adK adV dC dI cy ad (B + 0 + 1800 * v88_6.toInt) (by omega) (by omega) qr s1   f88_12_4 (show 1 ≤ f88_12_4.toInt by omega) (show f88_12_4.toInt ≤ 4 by omega) w213 H.size hT ) (cwV 1 hC.2.2.2.2 gX12_strangers_X12_draw rfl rfl rfl (by decide +kernel) ⟨Nat.le_of_ble_eq_true rfl, Nat.le_of_ble_eq_true rfl⟩) rfl hl.1 rfl (Nat.le_of_ble_eq_true rfl) dX12_strangers_125 (fun r226 w228 H locs hp227 hw => ?_)
        obtain ⟨hT, k229, hg232⟩ := hp227
        have hRW := RW_FE k229 (fun _ => rfl) (fun _ => rfl) (fun _ => rfl) hRW
        have hF := hF.tr k229 (by decide)
        have c233 := k229.gi kM_at12 (by decide) c218
        have c234 := k229.gi kM_at12 (by decide) c219
        have c235 := k229.gi kM_at12 (by decide) c220
        have c236 := k229.gi kM_at15 (by decide) c221
        have c237 := k229.gi kM_at15 (by decide) c222
        have c238 := k229.gi kM_at15 (by decide) c223
        obtain ⟨g230, g231⟩ := hg232
        refine lv_istore (lv' := [(9, .int r226), (8, .int r211), (7, .int r196), (0, .ref (ad 0)), (1, .int a1), (2, .int a2), (3, .int a3), (4, .int a4), (5, .int v88_5), (6, .int v88_6)]) hx hb dX12_strangers_128 hl (by decide) rfl (fun ls hl => ?_)
        refine lv_aload_n hx hb dX12_strangers_130 rfl (lv_at hl 3 rfl) ?_
        refine lv_sipush (v := 168) hx hb dX12_strangers_131 (by decide) ?_
        refine tk_Vi hC hK hw hT hA hE hSR kM_at0 (by decide) rfl (k_X12_draw_3 l adK adV dC dI cy ad (B + 0 + 1800 * v88_6.toInt) (by omega) (by omega) qr s1    w228 H.size hT ) (cwV 1 hC.2.2.2.2 gX12_strangers_X12_draw rfl rfl rfl (by decide +kernel) ⟨Nat.le_of_ble_eq_true rfl, Nat.le_of_ble_eq_true rfl⟩) rfl hl.1 rfl (Nat.le_of_ble_eq_true rfl) dX12_strangers_134 (fun r239 w241 H locs hp240 hw => ?_)
        obtain ⟨hT, k242, hg245⟩ := hp240
        have hRW := RW_FE k242 (fun _ => rfl) (fun _ => rfl) (fun _ => rfl) hRW
        have hF := hF.tr k242 (by decide)
        have c246 := k242.gi kM_at12 (by decide) c233
        have c247 := k242.gi kM_at12 (by decide) c234
        have c248 := k242.gi kM_at12 (by decide) c235
        have c249 := k242.gi kM_at15 (by decide) c236
        have c250 := k242.gi kM_at15 (by decide) c237
        have c251 := k242.gi kM_at15 (by decide) c238
        obtain ⟨g243, g244⟩ := hg245
        refine lv_istore (lv' := [(10, .int r239), (9, .int r226), (8, .int r211), (7, .int r196), (0, .ref (ad 0)), (1, .int a1), (2, .int a2), (3, .int a3), (4, .int a4), (5, .int v88_5), (6, .int v88_6)]) hx hb dX12_strangers_137 hl (by decide) rfl (fun ls hl => ?_)
        refine lv_aload_n hx hb dX12_strangers_139 rfl (lv_at hl 4 rfl) ?_
        refine lv_iconst (v := 0) hx hb dX12_strangers_140 (by decide) ?_
        refine lv_iload hx hb dX12_strangers_141 (lv_at hl 3 rfl) ?_
        refine lv_iload hx hb dX12_strangers_143 (lv_at hl 2 rfl) ?_
        refine lv_iload hx hb dX12_strangers_145 (lv_at hl 1 rfl) ?_
        refine lv_iload_n hx hb dX12_strangers_147 rfl (lv_at hl 5 rfl) ?_
        refine lv_iload hx hb dX12_strangers_148 (lv_at hl 0 rfl) ?_
        refine tk_Vv hC hK hw hT hA hE hSR kM_at0 (by decide) rfl (k_X12_setsOut_2 l adK adV dC dI cy ad (B + 0 + 1800 * v88_6.toInt) (by omega) (by omega) qr s1   r196 (show 0 ≤ r196.toInt by omega) (show r196.toInt ≤ 9 by omega) r211 (show 0 ≤ r211.toInt by omega) (show r211.toInt ≤ 9 by omega) r226 (show 0 ≤ r226.toInt by omega) (show r226.toInt ≤ 3 by omega) a1 (show (-1) ≤ a1.toInt by omega) (show a1.toInt ≤ 5 by omega) r239 (show 0 ≤ r239.toInt by omega) (show r239.toInt ≤ 167 by omega) w241 H.size hT ) (cwV 6 hC.2.2.2.2 gX12_strangers_X12_setsOut rfl rfl rfl (by decide +kernel) ⟨Nat.le_of_ble_eq_true rfl, Nat.le_of_ble_eq_true rfl⟩) rfl hl.1 rfl (Nat.le_of_ble_eq_true rfl) dX12_strangers_150 (fun w254 H locs hp253 hw => ?_)
        obtain ⟨hT, k255, hg266⟩ := hp253
        have hRW := RW_FE k255 (fun _ => rfl) (fun _ => rfl) (fun _ => rfl) hRW
        have hF := hF.tr k255 (by decide)
        have c267 := k255.gi kM_at12 (by decide) c246
        have c268 := k255.gi kM_at12 (by decide) c247
        have c269 := k255.gi kM_at12 (by decide) c248
        have c270 := k255.gi kM_at15 (by decide) c249
        have c271 := k255.gi kM_at15 (by decide) c250
        have c272 := k255.gi kM_at15 (by decide) c251
        obtain ⟨⟨x256, c257, rx256, tx256⟩, ⟨x258, c259, rx258, tx258⟩, ⟨x260, c261, rx260, tx260⟩, ⟨x262, c263, rx262, tx262⟩, ⟨x264, c265, rx264, tx264⟩⟩ := hg266
        refine lv_iconst (v := 0) hx hb dX12_strangers_153 (by decide) ?_
        refine lv_istore (lv' := [(11, .int 0), (10, .int r239), (9, .int r226), (8, .int r211), (7, .int r196), (0, .ref (ad 0)), (1, .int a1), (2, .int a2), (3, .int a3), (4, .int a4), (5, .int v88_5), (6, .int v88_6)]) hx hb dX12_strangers_154 hl (by decide) rfl (fun ls hl => ?_)
        exact L156 ((200 - (0 : Int)).toNat + 1) r196 r211 r226 r239 0 H locs ls w254 (show (-1) ≤ a1.toInt by omega) (show a1.toInt ≤ 5 by omega) (show 1 ≤ a2.toInt by omega) (show a2.toInt ≤ 30 by omega) (show 1 ≤ a3.toInt by omega) (show a3.toInt ≤ 200 by omega) (show 0 ≤ a4.toInt by omega) (show a4.toInt ≤ 1 by omega) (show 0 ≤ v88_6.toInt by omega) (show v88_6.toInt ≤ 29 by omega) (show 0 ≤ r196.toInt by omega) (show r196.toInt ≤ 9 by omega) (show 0 ≤ r211.toInt by omega) (show r211.toInt ≤ 9 by omega) (show 0 ≤ r226.toInt by omega) (show r226.toInt ≤ 3 by omega) (show 0 ≤ r239.toInt by omega) (show r239.toInt ≤ 167 by omega) (by decide) (by decide) (show 1 ≤ f88_12_0.toInt by omega) (show f88_12_0.toInt ≤ 10 by omega) (show 1 ≤ f88_12_4.toInt by omega) (show f88_12_4.toInt ≤ 4 by omega) (show 0 ≤ f88_12_9.toInt by omega) (show 1 ≤ f88_15_0.toInt by omega) (show f88_15_0.toInt ≤ 10 by omega) (show 1 ≤ f88_15_4.toInt by omega) (show f88_15_4.toInt ≤ 4 by omega) (show 0 ≤ f88_15_9.toInt by omega) (Nat.lt_succ_self _) hw (hT.up (show (B + 0 + 1800 * v88_6.toInt) ≤ (B + 0 + 1800 * v88_6.toInt + 9 * (0 : Int32).toInt) by rw [show (0 : Int32).toInt = 0 by decide]; omega)) hF hRW c267 c268 c269 c270 c271 c272 (lv_sub hl [5, 6, 7, 8, 9, 10, 11, 4, 3, 2, 1, 0] rfl)
  have J29 : ∀ (f29_12_0 : Int32) (f29_12_4 : Int32) (H : Heap) (locs : List Loc) (ls : Array Slot) (w273 : va_W), (-1) ≤ a1.toInt → a1.toInt ≤ 5 → 1 ≤ f29_12_0.toInt → f29_12_0.toInt ≤ 10 → 1 ≤ f29_12_4.toInt → f29_12_4.toInt ≤ 4 → Wd dC dI A s.heap H locs w273 → TW ksM ad cy B qr 12 w273 → FE ksM [(12, 24, 24), (12, 31, 31), (12, 39, 39), (69, 0, 64), (70, 0, 10), (71, 0, 295), (71, 216, 216), (71, 217, 217), (71, 218, 218), (71, 219, 219), (71, 220, 220), (71, 221, 221), (71, 222, 222), (71, 223, 223), (71, 224, 224), (72, 0, 12), (73, 0, 10), (74, 0, 296)] w0 w273 → RW w273 → gi w273 12 0 = f29_12_0 → gi w273 12 4 = f29_12_4 → lv_has ls 12 [(0, .ref (ad 0)), (1, .int a1), (2, .int a2), (3, .int a3), (4, .int a4)] → W p l e ({ frames := 9, cells := 0, slots := 0, locals := 194 }) s m (List.toArray [.ref (ad 0), .int a1, .int a2, .int a3, .int a4]) below meth c H locs 0 0 (MQ below (va_Qi (P_X12_strangers_1 ad cy B qr s1 a1 a2 a3 a4 w0) (fun u : va_W => wpost dC dI cy A u) A) (List.toArray [.ref (ad 0), .int a1, .int a2, .int a3, .int a4]) s 0 0 A) (F0 m 29 ls []) := by
    intro f29_12_0 f29_12_4 H locs ls w273 r274 t275 r276 t277 r279 t280 hw hT hF hRW c278 c281 hl
    refine lv_iload_n hx hb dX12_strangers_29 rfl (lv_at hl 2 rfl) ?_
    refine lv_i2l hx hb dX12_strangers_30 rfl ?_
    refine lv_topl (fun x282 ex282 => ?_)
    have ex282 : x282.toInt = a2.toInt := by rw [ex282]; exact wk_i2l _
    have bx282 := wk_i32 a2
    refine lv_lconst (v := 1) hx hb dX12_strangers_31 (by decide) ?_
    refine lv_ldc2 (v := 30) hx hb hC.2.2.2.1 (hC.2.2.2.2 _ (List.mem_of_getElem? (i := 2) rfl)) dX12_strangers_32 ?_
    refine tk_Si hC hK hw hT hA hE hSR (k_X12_in_18 l adK adV dC dI cy ad B (by omega) (by omega) qr s1   x282 (show (-2147483648) ≤ x282.toInt by omega) (show x282.toInt ≤ 2147483647 by omega) w273 H.size hT ) (va_cwS 3 hC.2.2.2.2 gX12_strangers_X12_in rfl rfl rfl (by decide +kernel) ⟨Nat.le_of_ble_eq_true rfl, Nat.le_of_ble_eq_true rfl⟩) rfl hl.1 rfl (Nat.le_of_ble_eq_true rfl) dX12_strangers_35 (fun r283 w285 H locs hp284 hw => ?_)
    obtain ⟨rfl, hg289⟩ := hp284
    rcases hg289 with rfl | ⟨rfl, g287, g288⟩
    · refine lv_if_eq (tgt := 64) hx hb dX12_strangers_38 (by decide) (fun _ => ?_) (fun c => absurd (by decide) c)
      exact J64 f29_12_0 H locs ls w273 (show 0 ≤ f29_12_0.toInt by omega) (show f29_12_0.toInt ≤ 10 by omega)  hw hT hF hRW c278 (lv_sub hl [0, 1, 2, 3, 4] rfl)
    · refine lv_if_eq (tgt := 64) hx hb dX12_strangers_38 (by decide) (fun c => absurd c (by decide)) (fun _ => ?_)
      refine lv_iload_n hx hb dX12_strangers_41 rfl (lv_at hl 3 rfl) ?_
      refine lv_i2l hx hb dX12_strangers_42 rfl ?_
      refine lv_topl (fun x290 ex290 => ?_)
      have ex290 : x290.toInt = a3.toInt := by rw [ex290]; exact wk_i2l _
      have bx290 := wk_i32 a3
      refine lv_lconst (v := 1) hx hb dX12_strangers_43 (by decide) ?_
      refine lv_ldc2 (v := 200) hx hb hC.2.2.2.1 (hC.2.2.2.2 _ (List.mem_of_getElem? (i := 3) rfl)) dX12_strangers_44 ?_
      refine tk_Si hC hK hw hT hA hE hSR (k_X12_in_14 l adK adV dC dI cy ad B (by omega) (by omega) qr s1   x290 (show (-2147483648) ≤ x290.toInt by omega) (show x290.toInt ≤ 2147483647 by omega) w273 H.size hT ) (va_cwS 3 hC.2.2.2.2 gX12_strangers_X12_in rfl rfl rfl (by decide +kernel) ⟨Nat.le_of_ble_eq_true rfl, Nat.le_of_ble_eq_true rfl⟩) rfl hl.1 rfl (Nat.le_of_ble_eq_true rfl) dX12_strangers_47 (fun r291 w293 H locs hp292 hw => ?_)
      obtain ⟨rfl, hg297⟩ := hp292
      rcases hg297 with rfl | ⟨rfl, g295, g296⟩
      · refine lv_if_eq (tgt := 64) hx hb dX12_strangers_50 (by decide) (fun _ => ?_) (fun c => absurd (by decide) c)
        exact J64 f29_12_0 H locs ls w273 (show 0 ≤ f29_12_0.toInt by omega) (show f29_12_0.toInt ≤ 10 by omega)  hw hT hF hRW c278 (lv_sub hl [0, 1, 2, 3, 4] rfl)
      · refine lv_if_eq (tgt := 64) hx hb dX12_strangers_50 (by decide) (fun c => absurd c (by decide)) (fun _ => ?_)
        refine lv_iload hx hb dX12_strangers_53 (lv_at hl 4 rfl) ?_
        refine lv_i2l hx hb dX12_strangers_55 rfl ?_
        refine lv_topl (fun x298 ex298 => ?_)
        have ex298 : x298.toInt = a4.toInt := by rw [ex298]; exact wk_i2l _
        have bx298 := wk_i32 a4
        refine lv_lconst (v := 0) hx hb dX12_strangers_56 (by decide) ?_
        refine lv_lconst (v := 1) hx hb dX12_strangers_57 (by decide) ?_
        refine tk_Si hC hK hw hT hA hE hSR (k_X12_in_12 l adK adV dC dI cy ad B (by omega) (by omega) qr s1   x298 (show (-2147483648) ≤ x298.toInt by omega) (show x298.toInt ≤ 2147483647 by omega) w273 H.size hT ) (va_cwS 3 hC.2.2.2.2 gX12_strangers_X12_in rfl rfl rfl (by decide +kernel) ⟨Nat.le_of_ble_eq_true rfl, Nat.le_of_ble_eq_true rfl⟩) rfl hl.1 rfl (Nat.le_of_ble_eq_true rfl) dX12_strangers_58 (fun r299 w301 H locs hp300 hw => ?_)
        obtain ⟨rfl, hg305⟩ := hp300
        rcases hg305 with rfl | ⟨rfl, g303, g304⟩
        · refine lv_if_ne (tgt := 66) hx hb dX12_strangers_61 (by decide) (fun c => absurd (by decide) c) (fun _ => ?_)
          exact J64 f29_12_0 H locs ls w273 (show 0 ≤ f29_12_0.toInt by omega) (show f29_12_0.toInt ≤ 10 by omega)  hw hT hF hRW c278 (lv_sub hl [0, 1, 2, 3, 4] rfl)
        · refine lv_if_ne (tgt := 66) hx hb dX12_strangers_61 (by decide) (fun _ => ?_) (fun c => absurd c (by decide))
          refine lv_aload_n hx hb dX12_strangers_66 rfl (lv_at hl 0 rfl) ?_
          refine lv_aload_n hx hb dX12_strangers_67 rfl (lv_at hl 0 rfl) ?_
          refine tk_getA hC hK hw hT hinX12 kM_at0 (by decide) rfl 26 (by decide) (List.mem_of_getElem? (i := 1) rfl) rfl rfl dX12_strangers_68 ?_
          refine lv_bipush (v := 9) hx hb dX12_strangers_71 (by decide) ?_
          refine tk_ialdR hC hK hw hT kM_at12 rfl (by decide) (by decide) dX12_strangers_73 (fun x306 c307 Ex306 => ?_)
          have bx306 := tk_rgI rfl 9 1 1 0 2147483647 (by decide +kernel) ⟨0, by decide, by decide⟩ Ex306
          have c307 : gi w273 12 9 = x306 := c307
          refine lv_i2l hx hb dX12_strangers_74 rfl ?_
          refine lv_topl (fun x308 ex308 => ?_)
          have ex308 : x308.toInt = x306.toInt := by rw [ex308]; exact wk_i2l _
          have bx308 := wk_i32 x306
          refine tk_putl hC hK hw hT hinX12 tyX12_ok nmX12 kM_at0 (by decide) rfl rfl 39 (by decide) (List.mem_of_getElem? (i := 4) rfl) rfl rfl rfl rfl (show 0 ≤ x308.toInt by omega) (show x308.toInt ≤ 2147483648 by omega) dX12_strangers_75 (fun H locs w309 hw hT k311 c310 => ?_)
          have hRW := RW_F1 k311 (by decide) (by decide) (by decide) hRW
          have hF := hF.put kM_at0 (k := 39) (by decide) k311
          have c312 := k311.gi (Or.inr (by decide)) c278
          have c313 := k311.gi (Or.inr (by decide)) c281
          have c314 := k311.gi (Or.inr (by decide)) c307
          refine lv_iconst (v := 0) hx hb dX12_strangers_78 (by decide) ?_
          refine lv_istore (lv' := [(5, .int 0), (0, .ref (ad 0)), (1, .int a1), (2, .int a2), (3, .int a3), (4, .int a4)]) hx hb dX12_strangers_79 hl (by decide) rfl (fun ls hl => ?_)
          refine lv_aload_n hx hb dX12_strangers_81 rfl (lv_at hl 1 rfl) ?_
          refine tk_Vv hC hK hw hT hA hE hSR kM_at0 (by decide) rfl (k_X12_keeps_1 l adK adV dC dI cy ad B (by omega) (by omega) qr s1    w309 H.size hT ) (cwV 0 hC.2.2.2.2 gX12_strangers_X12_keeps rfl rfl rfl (by decide +kernel) ⟨Nat.le_of_ble_eq_true rfl, Nat.le_of_ble_eq_true rfl⟩) rfl hl.1 rfl (Nat.le_of_ble_eq_true rfl) dX12_strangers_82 (fun w317 H locs hp316 hw => ?_)
          obtain ⟨hT, k318, hg322⟩ := hp316
          have hRW := RW_FE k318 (fun _ => rfl) (fun _ => rfl) (fun _ => rfl) hRW
          have hF := hF.tr k318 (by decide)
          have c323 := k318.gi kM_at12 (by decide) c312
          have c324 := k318.gi kM_at12 (by decide) c313
          have c325 := k318.gi kM_at12 (by decide) c314
          have c326 := k318.gl kM_at0 (by decide) c310
          obtain ⟨c319, c320, c321⟩ := hg322
          refine lv_iconst (v := 0) hx hb dX12_strangers_85 (by decide) ?_
          refine lv_istore (lv' := [(6, .int 0), (5, .int 0), (0, .ref (ad 0)), (1, .int a1), (2, .int a2), (3, .int a3), (4, .int a4)]) hx hb dX12_strangers_86 hl (by decide) rfl (fun ls hl => ?_)
          exact L88 ((30 - (0 : Int)).toNat + 1) 0 0 f29_12_0 f29_12_4 x306 f29_12_0 f29_12_4 x306 H locs ls w317 (show (-1) ≤ a1.toInt by omega) (show a1.toInt ≤ 5 by omega) (show 1 ≤ a2.toInt by omega) (show a2.toInt ≤ 30 by omega) (show 1 ≤ a3.toInt by omega) (show a3.toInt ≤ 200 by omega) (show 0 ≤ a4.toInt by omega) (show a4.toInt ≤ 1 by omega) (by decide) (by decide) (show 1 ≤ f29_12_0.toInt by omega) (show f29_12_0.toInt ≤ 10 by omega) (show 1 ≤ f29_12_4.toInt by omega) (show f29_12_4.toInt ≤ 4 by omega) (show 0 ≤ x306.toInt by omega) (show 1 ≤ f29_12_0.toInt by omega) (show f29_12_0.toInt ≤ 10 by omega) (show 1 ≤ f29_12_4.toInt by omega) (show f29_12_4.toInt ≤ 4 by omega) (show 0 ≤ x306.toInt by omega) (Nat.lt_succ_self _) hw (hT.up (show B ≤ (B + 0 + 1800 * (0 : Int32).toInt) by rw [show (0 : Int32).toInt = 0 by decide]; omega)) hF hRW c323 c324 c325 (c319.trans c312) (c320.trans c313) (c321.trans c314) (lv_sub hl [2, 3, 4, 5, 6, 1, 0] rfl)
  refine lv_aload_n hx hb dX12_strangers_0 rfl (lv_at hl 0 rfl) ?_
  refine tk_Vi hC hK hw hT hA hE hSR kM_at0 (by decide) rfl (k_X12_isTown_1 l adK adV dC dI cy ad B (by omega) (by omega) qr s1    w0 s.heap.size hT ) (cwV 0 hC.2.2.2.2 gX12_strangers_X12_isTown rfl rfl rfl (by decide +kernel) ⟨Nat.le_of_ble_eq_true rfl, Nat.le_of_ble_eq_true rfl⟩) rfl hl.1 rfl (Nat.le_of_ble_eq_true rfl) dX12_strangers_1 (fun r327 w329 H locs hp328 hw => ?_)
  obtain ⟨rfl, hg335⟩ := hp328
  rcases hg335 with ⟨rfl, ⟨x331, c332, rx331, tx331⟩⟩ | ⟨rfl, ⟨x333, c334, rx333, tx333⟩⟩
  · refine lv_if_eq (tgt := 64) hx hb dX12_strangers_4 (by decide) (fun _ => ?_) (fun c => absurd (by decide) c)
    exact J64 x331 H locs ls w0 (show 0 ≤ x331.toInt by omega) (show x331.toInt ≤ 10 by omega)  hw hT hF hRW c332 (lv_sub hl [0, 1, 2, 3, 4] rfl)
  · refine lv_if_eq (tgt := 64) hx hb dX12_strangers_4 (by decide) (fun c => absurd c (by decide)) (fun _ => ?_)
    refine lv_aload_n hx hb dX12_strangers_7 rfl (lv_at hl 0 rfl) ?_
    refine tk_getA hC hK hw hT hinX12 kM_at0 (by decide) rfl 26 (by decide) (List.mem_of_getElem? (i := 1) rfl) rfl rfl dX12_strangers_8 ?_
    refine lv_iconst (v := 4) hx hb dX12_strangers_11 (by decide) ?_
    refine tk_ialdR hC hK hw hT kM_at12 rfl (by decide) (by decide) dX12_strangers_12 (fun x336 c337 Ex336 => ?_)
    have bx336 := tk_rgI rfl 4 1 1 0 4 (by decide +kernel) ⟨0, by decide, by decide⟩ Ex336
    have c337 : gi w0 12 4 = x336 := c337
    refine lv_if_eq (tgt := 64) hx hb dX12_strangers_13 (by decide) (fun c338 => ?_) (fun c338 => ?_)
    · have c338 : x336.toInt = (0 : Int) := wk_eq.mp c338
      exact J64 x333 H locs ls w0 (show 0 ≤ x333.toInt by omega) (show x333.toInt ≤ 10 by omega)  hw hT hF hRW c334 (lv_sub hl [0, 1, 2, 3, 4] rfl)
    · have c338 : ¬ x336.toInt = (0 : Int) := wk_eqF c338
      refine lv_iload_n hx hb dX12_strangers_16 rfl (lv_at hl 1 rfl) ?_
      refine lv_iconst (v := (-1)) hx hb dX12_strangers_17 (by decide) ?_
      refine lv_icmp_eq (tgt := 29) hx hb dX12_strangers_18 (by decide) (fun c339 => ?_) (fun c339 => ?_)
      · have c339 : a1.toInt = (-1 : Int) := wk_eq.mp c339
        exact J29 x333 x336 H locs ls w0 (show (-1) ≤ a1.toInt by omega) (show a1.toInt ≤ 5 by omega) (show 1 ≤ x333.toInt by omega) (show x333.toInt ≤ 10 by omega) (show 1 ≤ x336.toInt by omega) (show x336.toInt ≤ 4 by omega)  hw hT hF hRW c334 c337 (lv_sub hl [0, 1, 2, 3, 4] rfl)
      · have c339 : ¬ a1.toInt = (-1 : Int) := wk_eqF c339
        refine lv_aload_n hx hb dX12_strangers_21 rfl (lv_at hl 0 rfl) ?_
        refine lv_iload_n hx hb dX12_strangers_22 rfl (lv_at hl 1 rfl) ?_
        refine tk_Vi hC hK hw hT hA hE hSR kM_at0 (by decide) rfl (k_X12_isRule_1 l adK adV dC dI cy ad B (by omega) (by omega) qr s1   a1 w0 H.size hT ) (cwV 1 hC.2.2.2.2 gX12_strangers_X12_isRule rfl rfl rfl (by decide +kernel) ⟨Nat.le_of_ble_eq_true rfl, Nat.le_of_ble_eq_true rfl⟩) rfl hl.1 rfl (Nat.le_of_ble_eq_true rfl) dX12_strangers_23 (fun r340 w342 H locs hp341 hw => ?_)
        obtain ⟨rfl, hg348⟩ := hp341
        rcases hg348 with rfl | ⟨rfl, g344, g345, ⟨x346, c347, rx346, tx346⟩⟩
        · refine lv_if_eq (tgt := 64) hx hb dX12_strangers_26 (by decide) (fun _ => ?_) (fun c => absurd (by decide) c)
          exact J64 x333 H locs ls w0 (show 0 ≤ x333.toInt by omega) (show x333.toInt ≤ 10 by omega)  hw hT hF hRW c334 (lv_sub hl [0, 1, 2, 3, 4] rfl)
        · refine lv_if_eq (tgt := 64) hx hb dX12_strangers_26 (by decide) (fun c => absurd c (by decide)) (fun _ => ?_)
          exact J29 x333 x336 H locs ls w0 (show (-1) ≤ a1.toInt by omega) (show a1.toInt ≤ 5 by omega) (show 1 ≤ x333.toInt by omega) (show x333.toInt ≤ 10 by omega) (show 1 ≤ x336.toInt by omega) (show x336.toInt ≤ 4 by omega)  hw hT hF hRW c334 c337 (lv_sub hl [0, 1, 2, 3, 4] rfl)
abbrev P_X12_count_1 (ad : Nat → Nat) (cy : Nat → ClassId) (B : Int) (qr : Nat) (s1 : Int) (a1 : Int32) (w0 : va_W) : Int32 → va_W → Prop := fun r u => w0 = u ∧ ((0 ≤ r.toInt ∧ 0 ≤ a1.toInt ∧ a1.toInt ≤ 10) ∨ (0 ≤ r.toInt ∧ r.toInt ≤ 400 ∧ 11 ≤ a1.toInt ∧ a1.toInt ≤ 11 ∧ (∃ y : Int32, gi u 0 1 = y ∧ 0 ≤ y.toInt ∧ y.toInt ≤ 400)) ∨ (r = (-1)))
set_option maxHeartbeats 4000000 in
set_option maxRecDepth 100000 in
theorem k_X12_count_1 (l : Launch) (adK adV : Nat → Nat) (dC : Nat → ClassId) (dI : Nat → Nat → Nat) (cy : Nat → ClassId) (ad : Nat → Nat) (B : Int) (hB0 : 100000 ≤ B) (hB1 : B ≤ 1073741824) (qr : Nat) (s1 : Int)  (a1 : Int32) (w0 : va_W) (sz : Nat) (hT : TW ksM ad cy B qr 12 w0)  : Met l yX12_count wsX12_count ({ frames := 1, cells := 0, slots := 0, locals := 12 }) (va_Pc [.ref (ad 0), .int a1] (wpreS adK adV dC dI cy sz w0)) (va_Qi (P_X12_count_1 ad cy B qr s1 a1 w0) (fun u : va_W => wpost dC dI cy (va_A w0 sz) u) (va_A w0 sz)) 0 0 (va_A w0 sz) := by
  refine Met.ofW (cc := cX12_count) (maxL := 2) (ret := (some .int)) (by decide) rfl ?_
  intro p e s m args below meth c s₁ Bk hml hv
  obtain ⟨rfl, ⟨hsz, hP, hK, hD0⟩, hE, hSR⟩ := hv
  have hx := Bk.exec
  have hb := Bk.bytes
  have hr := Bk.returns
  have hlocks := Bk.notSynchronized
  have hC : CallFix p m c cX12_count 2 s _ wsX12_count RX12 := ⟨hx, hb, hml, findClass_of_methodNamed Bk.named, atoms_spec (ws := wsX12_count) Bk.pre⟩
  subst hsz
  have hD := hD0.self (sz := s.heap.size)
  generalize hAe : va_A w0 s.heap.size = A at hD hE ⊢
  have hA : ∀ q : Nat, s.heap.size ≤ q → A q := fun q h => by rw [← hAe]; exact Or.inr h
  have hw : Wd dC dI A s.heap s.heap [] w0 := ⟨hP, hD, va_S.rf⟩
  have hF : FE ksM ([] : List (Nat × Nat × Nat)) w0 w0 := FE.rf
  have hl := lv_entry ([.ref (ad 0), .int a1]) (n := 2) (Nat.le_of_ble_eq_true rfl)
  rw [lg_entry_eq]
  generalize (lg_sl ([.ref (ad 0), .int a1]) ++ List.replicate (2 - (lg_sl ([.ref (ad 0), .int a1])).length) Slot.unset).toArray = ls at hl ⊢
  have hl : lv_has ls 2 [(0, .ref (ad 0)), (1, .int a1)] := hl
  generalize hloc : ([] : List Loc) = locs at hw ⊢
  have hinX12 : ∀ w ∈ u_ws RX12 TX12 42, w ∈ wsX12_count := fun _ h => List.mem_cons_of_mem _ (List.mem_append_right _ (h))
  refine lv_iload_n hx hb dX12_count_0 rfl (lv_at hl 1 rfl) ?_
  rcases (show a1.toInt = 0 ∨ a1.toInt = 1 ∨ a1.toInt = 2 ∨ a1.toInt = 3 ∨ a1.toInt = 4 ∨ a1.toInt = 5 ∨ a1.toInt = 6 ∨ a1.toInt = 7 ∨ a1.toInt = 8 ∨ a1.toInt = 9 ∨ a1.toInt = 10 ∨ a1.toInt = 11 ∨ a1.toInt < 0 ∨ 11 < a1.toInt by omega) with c1 | c1 | c1 | c1 | c1 | c1 | c1 | c1 | c1 | c1 | c1 | c1 | c1 | c1
  · refine lv_tableIn (off := 63) (tgt := 64) hx hb dX12_count_1 (by omega) (by omega) (by rw [c1]; rfl) (by decide) ?_
    refine lv_aload_n hx hb dX12_count_64 rfl (lv_at hl 0 rfl) ?_
    refine tk_getA hC hK hw hT hinX12 kM_at0 (by decide) rfl 26 (by decide) (List.mem_of_getElem? (i := 1) rfl) rfl rfl dX12_count_65 ?_
    refine lv_iload_n hx hb dX12_count_68 rfl (lv_at hl 1 rfl) ?_
    refine tk_ialdR hC hK hw hT kM_at12 rfl (show 0 ≤ a1.toInt by omega) (show a1.toInt < 296 by omega) dX12_count_69 (fun x2 c3 Ex2 => ?_)
    have c3 : gi w0 12 (a1.toInt).toNat = x2 := (congrArg (gi w0 12) (congrArg Int.toNat (show a1.toInt = a1.toInt by omega))).trans c3
    have bx2 := tk_rgI rfl 0 1 1 0 10 (by decide +kernel) ⟨(a1.toInt - 0).toNat, by omega, show a1.toInt.toNat = 0 + 1 * (a1.toInt - 0).toNat by omega⟩ Ex2
    exact tk_iret hC hr hlocks hK ⟨rfl, (Or.inl ⟨(show 0 ≤ x2.toInt by omega), (show 0 ≤ a1.toInt by omega), (show a1.toInt ≤ 10 by omega)⟩)⟩ hw dX12_count_70
  · refine lv_tableIn (off := 63) (tgt := 64) hx hb dX12_count_1 (by omega) (by omega) (by rw [c1]; rfl) (by decide) ?_
    refine lv_aload_n hx hb dX12_count_64 rfl (lv_at hl 0 rfl) ?_
    refine tk_getA hC hK hw hT hinX12 kM_at0 (by decide) rfl 26 (by decide) (List.mem_of_getElem? (i := 1) rfl) rfl rfl dX12_count_65 ?_
    refine lv_iload_n hx hb dX12_count_68 rfl (lv_at hl 1 rfl) ?_
    refine tk_ialdR hC hK hw hT kM_at12 rfl (show 0 ≤ a1.toInt by omega) (show a1.toInt < 296 by omega) dX12_count_69 (fun x4 c5 Ex4 => ?_)
    have c5 : gi w0 12 (a1.toInt).toNat = x4 := (congrArg (gi w0 12) (congrArg Int.toNat (show a1.toInt = a1.toInt by omega))).trans c5
    have bx4 : 0 ≤ x4.toInt ∧ x4.toInt ≤ 12 := by have q := Ex4; rw [show a1.toNatClampNeg = 1 from (show a1.toInt.toNat = 1 by omega)] at q; exact (tk_rg1 rfl).mp q
    exact tk_iret hC hr hlocks hK ⟨rfl, (Or.inl ⟨(show 0 ≤ x4.toInt by omega), (show 0 ≤ a1.toInt by omega), (show a1.toInt ≤ 10 by omega)⟩)⟩ hw dX12_count_70
  · refine lv_tableIn (off := 63) (tgt := 64) hx hb dX12_count_1 (by omega) (by omega) (by rw [c1]; rfl) (by decide) ?_
    refine lv_aload_n hx hb dX12_count_64 rfl (lv_at hl 0 rfl) ?_
    refine tk_getA hC hK hw hT hinX12 kM_at0 (by decide) rfl 26 (by decide) (List.mem_of_getElem? (i := 1) rfl) rfl rfl dX12_count_65 ?_
    refine lv_iload_n hx hb dX12_count_68 rfl (lv_at hl 1 rfl) ?_
    refine tk_ialdR hC hK hw hT kM_at12 rfl (show 0 ≤ a1.toInt by omega) (show a1.toInt < 296 by omega) dX12_count_69 (fun x6 c7 Ex6 => ?_)
    have c7 : gi w0 12 (a1.toInt).toNat = x6 := (congrArg (gi w0 12) (congrArg Int.toNat (show a1.toInt = a1.toInt by omega))).trans c7
    have bx6 := tk_rgI rfl 2 1 1 0 8 (by decide +kernel) ⟨(a1.toInt - 2).toNat, by omega, show a1.toInt.toNat = 2 + 1 * (a1.toInt - 2).toNat by omega⟩ Ex6
    exact tk_iret hC hr hlocks hK ⟨rfl, (Or.inl ⟨(show 0 ≤ x6.toInt by omega), (show 0 ≤ a1.toInt by omega), (show a1.toInt ≤ 10 by omega)⟩)⟩ hw dX12_count_70
  · refine lv_tableIn (off := 63) (tgt := 64) hx hb dX12_count_1 (by omega) (by omega) (by rw [c1]; rfl) (by decide) ?_
    refine lv_aload_n hx hb dX12_count_64 rfl (lv_at hl 0 rfl) ?_
    refine tk_getA hC hK hw hT hinX12 kM_at0 (by decide) rfl 26 (by decide) (List.mem_of_getElem? (i := 1) rfl) rfl rfl dX12_count_65 ?_
    refine lv_iload_n hx hb dX12_count_68 rfl (lv_at hl 1 rfl) ?_
    refine tk_ialdR hC hK hw hT kM_at12 rfl (show 0 ≤ a1.toInt by omega) (show a1.toInt < 296 by omega) dX12_count_69 (fun x8 c9 Ex8 => ?_)
    have c9 : gi w0 12 (a1.toInt).toNat = x8 := (congrArg (gi w0 12) (congrArg Int.toNat (show a1.toInt = a1.toInt by omega))).trans c9
    have bx8 := tk_rgI rfl 3 1 1 0 4 (by decide +kernel) ⟨(a1.toInt - 3).toNat, by omega, show a1.toInt.toNat = 3 + 1 * (a1.toInt - 3).toNat by omega⟩ Ex8
    exact tk_iret hC hr hlocks hK ⟨rfl, (Or.inl ⟨(show 0 ≤ x8.toInt by omega), (show 0 ≤ a1.toInt by omega), (show a1.toInt ≤ 10 by omega)⟩)⟩ hw dX12_count_70
  · refine lv_tableIn (off := 70) (tgt := 71) hx hb dX12_count_1 (by omega) (by omega) (by rw [c1]; rfl) (by decide) ?_
    refine lv_aload_n hx hb dX12_count_71 rfl (lv_at hl 0 rfl) ?_
    refine tk_geti hC hK hw hT hinX12 kM_at0 (by decide) rfl 2 (by decide) (List.mem_of_getElem? (i := 2) rfl) rfl rfl dX12_count_72 (fun x10 c11 rx10 tx10 => ?_)
    exact tk_iret hC hr hlocks hK ⟨rfl, (Or.inl ⟨(show 0 ≤ x10.toInt by omega), (show 0 ≤ a1.toInt by omega), (show a1.toInt ≤ 10 by omega)⟩)⟩ hw dX12_count_75
  · refine lv_tableIn (off := 75) (tgt := 76) hx hb dX12_count_1 (by omega) (by omega) (by rw [c1]; rfl) (by decide) ?_
    refine lv_aload_n hx hb dX12_count_76 rfl (lv_at hl 0 rfl) ?_
    refine tk_getA hC hK hw hT hinX12 kM_at0 (by decide) rfl 26 (by decide) (List.mem_of_getElem? (i := 1) rfl) rfl rfl dX12_count_77 ?_
    refine lv_iload_n hx hb dX12_count_80 rfl (lv_at hl 1 rfl) ?_
    refine lv_iconst (v := 1) hx hb dX12_count_81 (by decide) ?_
    refine lv_isub hx hb dX12_count_82 ?_
    refine lv_topi (fun x12 ex12 => ?_)
    have ex12 : x12.toInt = a1.toInt - (1 : Int) := by rw [ex12]; exact wk_sub (show (-2147483648) ≤ a1.toInt - (1 : Int) by omega) (show a1.toInt - (1 : Int) ≤ 2147483647 by omega)
    refine tk_ialdR hC hK hw hT kM_at12 rfl (show 0 ≤ x12.toInt by omega) (show x12.toInt < 296 by omega) dX12_count_83 (fun x13 c14 Ex13 => ?_)
    have bx13 := tk_rgI rfl 4 1 1 0 4 (by decide +kernel) ⟨(a1.toInt - 5).toNat, by omega, show x12.toInt.toNat = 4 + 1 * (a1.toInt - 5).toNat by omega⟩ Ex13
    exact tk_iret hC hr hlocks hK ⟨rfl, (Or.inl ⟨(show 0 ≤ x13.toInt by omega), (show 0 ≤ a1.toInt by omega), (show a1.toInt ≤ 10 by omega)⟩)⟩ hw dX12_count_84
  · refine lv_tableIn (off := 75) (tgt := 76) hx hb dX12_count_1 (by omega) (by omega) (by rw [c1]; rfl) (by decide) ?_
    refine lv_aload_n hx hb dX12_count_76 rfl (lv_at hl 0 rfl) ?_
    refine tk_getA hC hK hw hT hinX12 kM_at0 (by decide) rfl 26 (by decide) (List.mem_of_getElem? (i := 1) rfl) rfl rfl dX12_count_77 ?_
    refine lv_iload_n hx hb dX12_count_80 rfl (lv_at hl 1 rfl) ?_
    refine lv_iconst (v := 1) hx hb dX12_count_81 (by decide) ?_
    refine lv_isub hx hb dX12_count_82 ?_
    refine lv_topi (fun x15 ex15 => ?_)
    have ex15 : x15.toInt = a1.toInt - (1 : Int) := by rw [ex15]; exact wk_sub (show (-2147483648) ≤ a1.toInt - (1 : Int) by omega) (show a1.toInt - (1 : Int) ≤ 2147483647 by omega)
    refine tk_ialdR hC hK hw hT kM_at12 rfl (show 0 ≤ x15.toInt by omega) (show x15.toInt < 296 by omega) dX12_count_83 (fun x16 c17 Ex16 => ?_)
    have bx16 := tk_rgI rfl 5 1 1 0 4 (by decide +kernel) ⟨(a1.toInt - 6).toNat, by omega, show x15.toInt.toNat = 5 + 1 * (a1.toInt - 6).toNat by omega⟩ Ex16
    exact tk_iret hC hr hlocks hK ⟨rfl, (Or.inl ⟨(show 0 ≤ x16.toInt by omega), (show 0 ≤ a1.toInt by omega), (show a1.toInt ≤ 10 by omega)⟩)⟩ hw dX12_count_84
  · refine lv_tableIn (off := 75) (tgt := 76) hx hb dX12_count_1 (by omega) (by omega) (by rw [c1]; rfl) (by decide) ?_
    refine lv_aload_n hx hb dX12_count_76 rfl (lv_at hl 0 rfl) ?_
    refine tk_getA hC hK hw hT hinX12 kM_at0 (by decide) rfl 26 (by decide) (List.mem_of_getElem? (i := 1) rfl) rfl rfl dX12_count_77 ?_
    refine lv_iload_n hx hb dX12_count_80 rfl (lv_at hl 1 rfl) ?_
    refine lv_iconst (v := 1) hx hb dX12_count_81 (by decide) ?_
    refine lv_isub hx hb dX12_count_82 ?_
    refine lv_topi (fun x18 ex18 => ?_)
    have ex18 : x18.toInt = a1.toInt - (1 : Int) := by rw [ex18]; exact wk_sub (show (-2147483648) ≤ a1.toInt - (1 : Int) by omega) (show a1.toInt - (1 : Int) ≤ 2147483647 by omega)
    refine tk_ialdR hC hK hw hT kM_at12 rfl (show 0 ≤ x18.toInt by omega) (show x18.toInt < 296 by omega) dX12_count_83 (fun x19 c20 Ex19 => ?_)
    have bx19 := tk_rgI rfl 6 1 1 0 6 (by decide +kernel) ⟨(a1.toInt - 7).toNat, by omega, show x18.toInt.toNat = 6 + 1 * (a1.toInt - 7).toNat by omega⟩ Ex19
    exact tk_iret hC hr hlocks hK ⟨rfl, (Or.inl ⟨(show 0 ≤ x19.toInt by omega), (show 0 ≤ a1.toInt by omega), (show a1.toInt ≤ 10 by omega)⟩)⟩ hw dX12_count_84
  · refine lv_tableIn (off := 75) (tgt := 76) hx hb dX12_count_1 (by omega) (by omega) (by rw [c1]; rfl) (by decide) ?_
    refine lv_aload_n hx hb dX12_count_76 rfl (lv_at hl 0 rfl) ?_
    refine tk_getA hC hK hw hT hinX12 kM_at0 (by decide) rfl 26 (by decide) (List.mem_of_getElem? (i := 1) rfl) rfl rfl dX12_count_77 ?_
    refine lv_iload_n hx hb dX12_count_80 rfl (lv_at hl 1 rfl) ?_
    refine lv_iconst (v := 1) hx hb dX12_count_81 (by decide) ?_
    refine lv_isub hx hb dX12_count_82 ?_
    refine lv_topi (fun x21 ex21 => ?_)
    have ex21 : x21.toInt = a1.toInt - (1 : Int) := by rw [ex21]; exact wk_sub (show (-2147483648) ≤ a1.toInt - (1 : Int) by omega) (show a1.toInt - (1 : Int) ≤ 2147483647 by omega)
    refine tk_ialdR hC hK hw hT kM_at12 rfl (show 0 ≤ x21.toInt by omega) (show x21.toInt < 296 by omega) dX12_count_83 (fun x22 c23 Ex22 => ?_)
    have bx22 := tk_rgI rfl 7 1 1 0 12 (by decide +kernel) ⟨(a1.toInt - 8).toNat, by omega, show x21.toInt.toNat = 7 + 1 * (a1.toInt - 8).toNat by omega⟩ Ex22
    exact tk_iret hC hr hlocks hK ⟨rfl, (Or.inl ⟨(show 0 ≤ x22.toInt by omega), (show 0 ≤ a1.toInt by omega), (show a1.toInt ≤ 10 by omega)⟩)⟩ hw dX12_count_84
  · refine lv_tableIn (off := 75) (tgt := 76) hx hb dX12_count_1 (by omega) (by omega) (by rw [c1]; rfl) (by decide) ?_
    refine lv_aload_n hx hb dX12_count_76 rfl (lv_at hl 0 rfl) ?_
    refine tk_getA hC hK hw hT hinX12 kM_at0 (by decide) rfl 26 (by decide) (List.mem_of_getElem? (i := 1) rfl) rfl rfl dX12_count_77 ?_
    refine lv_iload_n hx hb dX12_count_80 rfl (lv_at hl 1 rfl) ?_
    refine lv_iconst (v := 1) hx hb dX12_count_81 (by decide) ?_
    refine lv_isub hx hb dX12_count_82 ?_
    refine lv_topi (fun x24 ex24 => ?_)
    have ex24 : x24.toInt = a1.toInt - (1 : Int) := by rw [ex24]; exact wk_sub (show (-2147483648) ≤ a1.toInt - (1 : Int) by omega) (show a1.toInt - (1 : Int) ≤ 2147483647 by omega)
    refine tk_ialdR hC hK hw hT kM_at12 rfl (show 0 ≤ x24.toInt by omega) (show x24.toInt < 296 by omega) dX12_count_83 (fun x25 c26 Ex25 => ?_)
    have bx25 := tk_rgI rfl 8 1 1 0 8 (by decide +kernel) ⟨(a1.toInt - 9).toNat, by omega, show x24.toInt.toNat = 8 + 1 * (a1.toInt - 9).toNat by omega⟩ Ex25
    exact tk_iret hC hr hlocks hK ⟨rfl, (Or.inl ⟨(show 0 ≤ x25.toInt by omega), (show 0 ≤ a1.toInt by omega), (show a1.toInt ≤ 10 by omega)⟩)⟩ hw dX12_count_84
  · refine lv_tableIn (off := 75) (tgt := 76) hx hb dX12_count_1 (by omega) (by omega) (by rw [c1]; rfl) (by decide) ?_
    refine lv_aload_n hx hb dX12_count_76 rfl (lv_at hl 0 rfl) ?_
    refine tk_getA hC hK hw hT hinX12 kM_at0 (by decide) rfl 26 (by decide) (List.mem_of_getElem? (i := 1) rfl) rfl rfl dX12_count_77 ?_
    refine lv_iload_n hx hb dX12_count_80 rfl (lv_at hl 1 rfl) ?_
    refine lv_iconst (v := 1) hx hb dX12_count_81 (by decide) ?_
    refine lv_isub hx hb dX12_count_82 ?_
    refine lv_topi (fun x27 ex27 => ?_)
    have ex27 : x27.toInt = a1.toInt - (1 : Int) := by rw [ex27]; exact wk_sub (show (-2147483648) ≤ a1.toInt - (1 : Int) by omega) (show a1.toInt - (1 : Int) ≤ 2147483647 by omega)
    refine tk_ialdR hC hK hw hT kM_at12 rfl (show 0 ≤ x27.toInt by omega) (show x27.toInt < 296 by omega) dX12_count_83 (fun x28 c29 Ex28 => ?_)
    have bx28 := tk_rgI rfl 9 1 1 0 2147483647 (by decide +kernel) ⟨(a1.toInt - 10).toNat, by omega, show x27.toInt.toNat = 9 + 1 * (a1.toInt - 10).toNat by omega⟩ Ex28
    exact tk_iret hC hr hlocks hK ⟨rfl, (Or.inl ⟨(show 0 ≤ x28.toInt by omega), (show 0 ≤ a1.toInt by omega), (show a1.toInt ≤ 10 by omega)⟩)⟩ hw dX12_count_84
  · refine lv_tableIn (off := 84) (tgt := 85) hx hb dX12_count_1 (by omega) (by omega) (by rw [c1]; rfl) (by decide) ?_
    refine lv_aload_n hx hb dX12_count_85 rfl (lv_at hl 0 rfl) ?_
    refine tk_geti hC hK hw hT hinX12 kM_at0 (by decide) rfl 1 (by decide) (List.mem_of_getElem? (i := 3) rfl) rfl rfl dX12_count_86 (fun x30 c31 rx30 tx30 => ?_)
    exact tk_iret hC hr hlocks hK ⟨rfl, (Or.inr (Or.inl ⟨(show 0 ≤ x30.toInt by omega), (show x30.toInt ≤ 400 by omega), (show 11 ≤ a1.toInt by omega), (show a1.toInt ≤ 11 by omega), ⟨x30, c31, (show 0 ≤ x30.toInt by omega), (show x30.toInt ≤ 400 by omega)⟩⟩))⟩ hw dX12_count_89
  · refine lv_tableOut (tgt := 90) hx hb dX12_count_1 (Or.inl c1) (by decide) ?_
    refine lv_iconst (v := (-1)) hx hb dX12_count_90 (by decide) ?_
    exact tk_iret hC hr hlocks hK ⟨rfl, (Or.inr (Or.inr rfl))⟩ hw dX12_count_91
  · refine lv_tableOut (tgt := 90) hx hb dX12_count_1 (Or.inr c1) (by decide) ?_
    refine lv_iconst (v := (-1)) hx hb dX12_count_90 (by decide) ?_
    exact tk_iret hC hr hlocks hK ⟨rfl, (Or.inr (Or.inr rfl))⟩ hw dX12_count_91
abbrev P_X12_image_1 (ad : Nat → Nat) (cy : Nat → ClassId) (B : Int) (qr : Nat) (s1 : Int) (a1 : Int32) (w0 : va_W) : Int32 → va_W → Prop := fun r u => TW ksM ad cy B qr 12 u ∧ FE ksM [(80, 0, 1184), (81, 0, 4)] w0 u ∧ ((0 ≤ r.toInt ∧ r.toInt ≤ 4 ∧ 0 ≤ a1.toInt ∧ a1.toInt ≤ 3) ∨ (r = (-1)))
set_option maxHeartbeats 4000000 in
set_option maxRecDepth 100000 in
theorem k_X12_image_1 (l : Launch) (adK adV : Nat → Nat) (dC : Nat → ClassId) (dI : Nat → Nat → Nat) (cy : Nat → ClassId) (ad : Nat → Nat) (B : Int) (hB0 : 100000 ≤ B) (hB1 : B ≤ 1073741824) (qr : Nat) (s1 : Int)  (a1 : Int32) (w0 : va_W) (sz : Nat) (hT : TW ksM ad cy B qr 12 w0)  : Met l yX12_image wsX12_image ({ frames := 2, cells := 0, slots := 0, locals := 37 }) (va_Pc [.ref (ad 0), .int a1] (wpreS adK adV dC dI cy sz w0)) (va_Qi (P_X12_image_1 ad cy B qr s1 a1 w0) (fun u : va_W => wpost dC dI cy (va_A w0 sz) u) (va_A w0 sz)) 0 0 (va_A w0 sz) := by
  refine Met.ofW (cc := cX12_image) (maxL := 3) (ret := (some .int)) (by decide) rfl ?_
  intro p e s m args below meth c s₁ Bk hml hv
  obtain ⟨rfl, ⟨hsz, hP, hK, hD0⟩, hE, hSR⟩ := hv
  have hx := Bk.exec
  have hb := Bk.bytes
  have hr := Bk.returns
  have hlocks := Bk.notSynchronized
  have hC : CallFix p m c cX12_image 3 s _ wsX12_image RX12 := ⟨hx, hb, hml, findClass_of_methodNamed Bk.named, atoms_spec (ws := wsX12_image) Bk.pre⟩
  subst hsz
  have hD := hD0.self (sz := s.heap.size)
  generalize hAe : va_A w0 s.heap.size = A at hD hE ⊢
  have hA : ∀ q : Nat, s.heap.size ≤ q → A q := fun q h => by rw [← hAe]; exact Or.inr h
  have hw : Wd dC dI A s.heap s.heap [] w0 := ⟨hP, hD, va_S.rf⟩
  have hF : FE ksM [(80, 0, 1184), (81, 0, 4)] w0 w0 := FE.rf
  have hl := lv_entry ([.ref (ad 0), .int a1]) (n := 3) (Nat.le_of_ble_eq_true rfl)
  rw [lg_entry_eq]
  generalize (lg_sl ([.ref (ad 0), .int a1]) ++ List.replicate (3 - (lg_sl ([.ref (ad 0), .int a1])).length) Slot.unset).toArray = ls at hl ⊢
  have hl : lv_has ls 3 [(0, .ref (ad 0)), (1, .int a1)] := hl
  generalize hloc : ([] : List Loc) = locs at hw ⊢
  have hinX12 : ∀ w ∈ u_ws RX12 TX12 42, w ∈ wsX12_image := fun _ h => List.mem_cons_of_mem _ (List.mem_append_right _ (h))
  have L23 : ∀ (n23 : Nat) (v23_2 : Int32) (H : Heap) (locs : List Loc) (ls : Array Slot) (w1 : va_W), 0 ≤ a1.toInt → a1.toInt ≤ 3 → 0 ≤ v23_2.toInt → v23_2.toInt ≤ 296 → (296 - v23_2.toInt).toNat < n23 → Wd dC dI A s.heap H locs w1 → TW ksM ad cy B qr 12 w1 → FE ksM [(80, 0, 1184), (81, 0, 4)] w0 w1 → lv_has ls 3 [(0, .ref (ad 0)), (1, .int a1), (2, .int v23_2)] → W p l e ({ frames := 2, cells := 0, slots := 0, locals := 37 }) s m (List.toArray [.ref (ad 0), .int a1]) below meth c H locs 0 0 (MQ below (va_Qi (P_X12_image_1 ad cy B qr s1 a1 w0) (fun u : va_W => wpost dC dI cy A u) A) (List.toArray [.ref (ad 0), .int a1]) s 0 0 A) (F0 m 23 ls []) := by
    intro n23
    induction n23 with
    | zero => intro v23_2 H locs ls w1 r2 t3 r4 t5 hm23 hw hT hF hl; omega
    | succ n23 ih23 =>
      intro v23_2 H locs ls w1 r2 t3 r4 t5 hm23 hw hT hF hl
      refine lv_iload_n hx hb dX12_image_23 rfl (lv_at hl 2 rfl) ?_
      refine lv_sipush (v := 296) hx hb dX12_image_24 (by decide) ?_
      refine lv_icmp_ge (tgt := 54) hx hb dX12_image_27 (by decide) (fun c6 => ?_) (fun c6 => ?_)
      · have c6 : (296 : Int) ≤ v23_2.toInt := wk_le.mp c6
        refine lv_aload_n hx hb dX12_image_54 rfl (lv_at hl 0 rfl) ?_
        refine tk_getA hC hK hw hT hinX12 kM_at0 (by decide) rfl 26 (by decide) (List.mem_of_getElem? (i := 4) rfl) rfl rfl dX12_image_55 ?_
        refine lv_iconst (v := 5) hx hb dX12_image_58 (by decide) ?_
        refine tk_ialdR hC hK hw hT kM_at12 rfl (by decide) (by decide) dX12_image_59 (fun x7 c8 Ex7 => ?_)
        have bx7 := tk_rgI rfl 5 1 1 0 4 (by decide +kernel) ⟨0, by decide, by decide⟩ Ex7
        have c8 : gi w1 12 5 = x7 := c8
        exact tk_iret hC hr hlocks hK ⟨hT, hF, (Or.inl ⟨(show 0 ≤ x7.toInt by omega), (show x7.toInt ≤ 4 by omega), (show 0 ≤ a1.toInt by omega), (show a1.toInt ≤ 3 by omega)⟩)⟩ hw dX12_image_60
      · have c6 : v23_2.toInt < (296 : Int) := wk_leF c6
        refine lv_aload_n hx hb dX12_image_30 rfl (lv_at hl 0 rfl) ?_
        refine tk_getA hC hK hw hT hinX12 kM_at0 (by decide) rfl 40 (by decide) (List.mem_of_getElem? (i := 3) rfl) rfl rfl dX12_image_31 ?_
        refine lv_sipush (v := 296) hx hb dX12_image_34 (by decide) ?_
        refine lv_iload_n hx hb dX12_image_37 rfl (lv_at hl 1 rfl) ?_
        refine lv_imul hx hb dX12_image_38 ?_
        refine lv_topi (fun x9 ex9 => ?_)
        have ex9 : x9.toInt = (296 : Int) * a1.toInt := by rw [ex9]; exact wk_mul (show (-2147483648) ≤ (296 : Int) * a1.toInt by omega) (show (296 : Int) * a1.toInt ≤ 2147483647 by omega)
        refine lv_iload_n hx hb dX12_image_39 rfl (lv_at hl 2 rfl) ?_
        refine lv_iadd hx hb dX12_image_40 ?_
        refine lv_topi (fun x10 ex10 => ?_)
        have ex10 : x10.toInt = x9.toInt + v23_2.toInt := by rw [ex10]; exact wk_add (show (-2147483648) ≤ x9.toInt + v23_2.toInt by omega) (show x9.toInt + v23_2.toInt ≤ 2147483647 by omega)
        refine lv_aload_n hx hb dX12_image_41 rfl (lv_at hl 0 rfl) ?_
        refine tk_getA hC hK hw hT hinX12 kM_at0 (by decide) rfl 26 (by decide) (List.mem_of_getElem? (i := 4) rfl) rfl rfl dX12_image_42 ?_
        refine lv_iload_n hx hb dX12_image_45 rfl (lv_at hl 2 rfl) ?_
        refine tk_ialdR hC hK hw hT kM_at12 rfl (show 0 ≤ v23_2.toInt by omega) (show v23_2.toInt < 296 by omega) dX12_image_46 (fun x11 c12 Ex11 => ?_)
        have c12 : gi w1 12 (v23_2.toInt).toNat = x11 := (congrArg (gi w1 12) (congrArg Int.toNat (show v23_2.toInt = v23_2.toInt by omega))).trans c12
        refine tk_iastR hC hK hw hT kM_at21 (by decide) rfl (show 0 ≤ x10.toInt by omega) (show x10.toInt < 1184 by omega) (tk_rgC rfl rfl (show v23_2.toInt.toNat % 296 = x10.toInt.toNat % 296 by omega) Ex11) dX12_image_47 (fun H locs w13 hw hT k15 c14 => ?_)
        have hF := hF.put kM_at21 (inE_of (a := 0) (b := 1184) (by decide) (show 0 ≤ x10.toInt.toNat by omega) (show x10.toInt.toNat ≤ 1184 by omega)) k15
        have c16 := k15.gi (Or.inl (tk_ne kM_at12 kM_at21 (by decide))) c12
        obtain ⟨x17, ex17⟩ : ∃ y : Int32, y = v23_2 + Int32.ofInt 1 := ⟨_, rfl⟩
        refine lv_iinc (v := x17) (lv' := [(2, .int x17), (0, .ref (ad 0)), (1, .int a1)]) hx hb dX12_image_48 hl (k := 2) rfl ex17.symm (by decide) rfl (fun ls hl => ?_)
        have ex17 : x17.toInt = v23_2.toInt + 1 := by rw [ex17]; exact wk_add (y := 1) (show -2147483648 ≤ v23_2.toInt + 1 by omega) (show v23_2.toInt + 1 ≤ 2147483647 by omega)
        refine lv_goto (tgt := 23) hx hb dX12_image_51 (by decide) ?_
        exact ih23 x17 H locs ls w13 (show 0 ≤ a1.toInt by omega) (show a1.toInt ≤ 3 by omega) (show 0 ≤ x17.toInt by omega) (show x17.toInt ≤ 296 by omega) (show (296 - x17.toInt).toNat < n23 by omega) hw hT hF  (lv_sub hl [1, 2, 0] rfl)
  refine lv_iload_n hx hb dX12_image_0 rfl (lv_at hl 1 rfl) ?_
  refine lv_i2l hx hb dX12_image_1 rfl ?_
  refine lv_topl (fun x18 ex18 => ?_)
  have ex18 : x18.toInt = a1.toInt := by rw [ex18]; exact wk_i2l _
  have bx18 := wk_i32 a1
  refine lv_lconst (v := 0) hx hb dX12_image_2 (by decide) ?_
  refine lv_ldc2 (v := 3) hx hb hC.2.2.2.1 (hC.2.2.2.2 _ (List.mem_of_getElem? (i := 1) rfl)) dX12_image_3 ?_
  refine tk_Si hC hK hw hT hA hE hSR (k_X12_in_11 l adK adV dC dI cy ad B (by omega) (by omega) qr s1   x18 (show (-2147483648) ≤ x18.toInt by omega) (show x18.toInt ≤ 2147483647 by omega) w0 s.heap.size hT ) (va_cwS 3 hC.2.2.2.2 gX12_image_X12_in rfl rfl rfl (by decide +kernel) ⟨Nat.le_of_ble_eq_true rfl, Nat.le_of_ble_eq_true rfl⟩) rfl hl.1 rfl (Nat.le_of_ble_eq_true rfl) dX12_image_6 (fun r19 w21 H locs hp20 hw => ?_)
  obtain ⟨rfl, hg25⟩ := hp20
  rcases hg25 with rfl | ⟨rfl, g23, g24⟩
  · refine lv_if_ne (tgt := 14) hx hb dX12_image_9 (by decide) (fun c => absurd (by decide) c) (fun _ => ?_)
    refine lv_iconst (v := (-1)) hx hb dX12_image_12 (by decide) ?_
    exact tk_iret hC hr hlocks hK ⟨hT, hF, (Or.inr rfl)⟩ hw dX12_image_13
  · refine lv_if_ne (tgt := 14) hx hb dX12_image_9 (by decide) (fun _ => ?_) (fun c => absurd c (by decide))
    refine lv_aload_n hx hb dX12_image_14 rfl (lv_at hl 0 rfl) ?_
    refine tk_getA hC hK hw hT hinX12 kM_at0 (by decide) rfl 41 (by decide) (List.mem_of_getElem? (i := 2) rfl) rfl rfl dX12_image_15 ?_
    refine lv_iload_n hx hb dX12_image_18 rfl (lv_at hl 1 rfl) ?_
    refine lv_iconst (v := 1) hx hb dX12_image_19 (by decide) ?_
    refine tk_zast hC hK hw hT kM_at22 (by decide) rfl rfl (show 0 ≤ a1.toInt by omega) (show a1.toInt < 4 by omega) (by decide) (by decide) dX12_image_20 (fun H locs w26 hw hT k28 c27 => ?_)
    have hF := hF.put kM_at22 (inE_of (a := 0) (b := 4) (by decide) (show 0 ≤ a1.toInt.toNat by omega) (show a1.toInt.toNat ≤ 4 by omega)) k28
    refine lv_iconst (v := 0) hx hb dX12_image_21 (by decide) ?_
    refine lv_istore_n (lv' := [(2, .int 0), (0, .ref (ad 0)), (1, .int a1)]) hx hb dX12_image_22 rfl hl (by decide) rfl (fun ls hl => ?_)
    exact L23 ((296 - (0 : Int)).toNat + 1) 0 H locs ls w26 (show 0 ≤ a1.toInt by omega) (show a1.toInt ≤ 3 by omega) (by decide) (by decide) (Nat.lt_succ_self _) hw hT hF  (lv_sub hl [1, 2, 0] rfl)
abbrev P_X12_back_1 (ad : Nat → Nat) (cy : Nat → ClassId) (B : Int) (qr : Nat) (s1 : Int) (a1 : Int32) (w0 : va_W) : Int32 → va_W → Prop := fun r u => TW ksM ad cy B qr 12 u ∧ FE ksM [(71, 0, 295)] w0 u ∧ ((0 ≤ r.toInt ∧ r.toInt ≤ 4 ∧ 0 ≤ a1.toInt ∧ a1.toInt ≤ 3) ∨ (r = (-1)))
set_option maxHeartbeats 4000000 in
set_option maxRecDepth 100000 in
theorem k_X12_back_1 (l : Launch) (adK adV : Nat → Nat) (dC : Nat → ClassId) (dI : Nat → Nat → Nat) (cy : Nat → ClassId) (ad : Nat → Nat) (B : Int) (hB0 : 100000 ≤ B) (hB1 : B ≤ 1073741824) (qr : Nat) (s1 : Int)  (a1 : Int32) (w0 : va_W) (sz : Nat) (hT : TW ksM ad cy B qr 12 w0)  : Met l yX12_back wsX12_back ({ frames := 2, cells := 0, slots := 0, locals := 37 }) (va_Pc [.ref (ad 0), .int a1] (wpreS adK adV dC dI cy sz w0)) (va_Qi (P_X12_back_1 ad cy B qr s1 a1 w0) (fun u : va_W => wpost dC dI cy (va_A w0 sz) u) (va_A w0 sz)) 0 0 (va_A w0 sz) := by
  refine Met.ofW (cc := cX12_back) (maxL := 3) (ret := (some .int)) (by decide) rfl ?_
  intro p e s m args below meth c s₁ Bk hml hv
  obtain ⟨rfl, ⟨hsz, hP, hK, hD0⟩, hE, hSR⟩ := hv
  have hx := Bk.exec
  have hb := Bk.bytes
  have hr := Bk.returns
  have hlocks := Bk.notSynchronized
  have hC : CallFix p m c cX12_back 3 s _ wsX12_back RX12 := ⟨hx, hb, hml, findClass_of_methodNamed Bk.named, atoms_spec (ws := wsX12_back) Bk.pre⟩
  subst hsz
  have hD := hD0.self (sz := s.heap.size)
  generalize hAe : va_A w0 s.heap.size = A at hD hE ⊢
  have hA : ∀ q : Nat, s.heap.size ≤ q → A q := fun q h => by rw [← hAe]; exact Or.inr h
  have hw : Wd dC dI A s.heap s.heap [] w0 := ⟨hP, hD, va_S.rf⟩
  have hF : FE ksM [(71, 0, 295)] w0 w0 := FE.rf
  have hl := lv_entry ([.ref (ad 0), .int a1]) (n := 3) (Nat.le_of_ble_eq_true rfl)
  rw [lg_entry_eq]
  generalize (lg_sl ([.ref (ad 0), .int a1]) ++ List.replicate (3 - (lg_sl ([.ref (ad 0), .int a1])).length) Slot.unset).toArray = ls at hl ⊢
  have hl : lv_has ls 3 [(0, .ref (ad 0)), (1, .int a1)] := hl
  generalize hloc : ([] : List Loc) = locs at hw ⊢
  have hinX12 : ∀ w ∈ u_ws RX12 TX12 42, w ∈ wsX12_back := fun _ h => List.mem_cons_of_mem _ (List.mem_append_right _ (h))
  have J21 : ∀ (H : Heap) (locs : List Loc) (ls : Array Slot) (w1 : va_W), Wd dC dI A s.heap H locs w1 → TW ksM ad cy B qr 12 w1 → FE ksM [(71, 0, 295)] w0 w1 → lv_has ls 3 [(0, .ref (ad 0)), (1, .int a1)] → W p l e ({ frames := 2, cells := 0, slots := 0, locals := 37 }) s m (List.toArray [.ref (ad 0), .int a1]) below meth c H locs 0 0 (MQ below (va_Qi (P_X12_back_1 ad cy B qr s1 a1 w0) (fun u : va_W => wpost dC dI cy A u) A) (List.toArray [.ref (ad 0), .int a1]) s 0 0 A) (F0 m 21 ls []) := by
    intro H locs ls w1 hw hT hF hl
    refine lv_iconst (v := (-1)) hx hb dX12_back_21 (by decide) ?_
    exact tk_iret hC hr hlocks hK ⟨hT, hF, (Or.inr rfl)⟩ hw dX12_back_22
  have L25 : ∀ (n25 : Nat) (v25_2 : Int32) (H : Heap) (locs : List Loc) (ls : Array Slot) (w2 : va_W), 0 ≤ a1.toInt → a1.toInt ≤ 3 → 0 ≤ v25_2.toInt → v25_2.toInt ≤ 296 → (296 - v25_2.toInt).toNat < n25 → Wd dC dI A s.heap H locs w2 → TW ksM ad cy B qr 12 w2 → FE ksM [(71, 0, 295)] w0 w2 → lv_has ls 3 [(0, .ref (ad 0)), (1, .int a1), (2, .int v25_2)] → W p l e ({ frames := 2, cells := 0, slots := 0, locals := 37 }) s m (List.toArray [.ref (ad 0), .int a1]) below meth c H locs 0 0 (MQ below (va_Qi (P_X12_back_1 ad cy B qr s1 a1 w0) (fun u : va_W => wpost dC dI cy A u) A) (List.toArray [.ref (ad 0), .int a1]) s 0 0 A) (F0 m 25 ls []) := by
    intro n25
    induction n25 with
    | zero => intro v25_2 H locs ls w2 r3 t4 r5 t6 hm25 hw hT hF hl; omega
    | succ n25 ih25 =>
      intro v25_2 H locs ls w2 r3 t4 r5 t6 hm25 hw hT hF hl
      refine lv_iload_n hx hb dX12_back_25 rfl (lv_at hl 2 rfl) ?_
      refine lv_sipush (v := 296) hx hb dX12_back_26 (by decide) ?_
      refine lv_icmp_ge (tgt := 56) hx hb dX12_back_29 (by decide) (fun c7 => ?_) (fun c7 => ?_)
      · have c7 : (296 : Int) ≤ v25_2.toInt := wk_le.mp c7
        refine lv_aload_n hx hb dX12_back_56 rfl (lv_at hl 0 rfl) ?_
        refine tk_getA hC hK hw hT hinX12 kM_at0 (by decide) rfl 26 (by decide) (List.mem_of_getElem? (i := 3) rfl) rfl rfl dX12_back_57 ?_
        refine lv_iconst (v := 5) hx hb dX12_back_60 (by decide) ?_
        refine tk_ialdR hC hK hw hT kM_at12 rfl (by decide) (by decide) dX12_back_61 (fun x8 c9 Ex8 => ?_)
        have bx8 := tk_rgI rfl 5 1 1 0 4 (by decide +kernel) ⟨0, by decide, by decide⟩ Ex8
        have c9 : gi w2 12 5 = x8 := c9
        exact tk_iret hC hr hlocks hK ⟨hT, hF, (Or.inl ⟨(show 0 ≤ x8.toInt by omega), (show x8.toInt ≤ 4 by omega), (show 0 ≤ a1.toInt by omega), (show a1.toInt ≤ 3 by omega)⟩)⟩ hw dX12_back_62
      · have c7 : v25_2.toInt < (296 : Int) := wk_leF c7
        refine lv_aload_n hx hb dX12_back_32 rfl (lv_at hl 0 rfl) ?_
        refine tk_getA hC hK hw hT hinX12 kM_at0 (by decide) rfl 26 (by decide) (List.mem_of_getElem? (i := 3) rfl) rfl rfl dX12_back_33 ?_
        refine lv_iload_n hx hb dX12_back_36 rfl (lv_at hl 2 rfl) ?_
        refine lv_aload_n hx hb dX12_back_37 rfl (lv_at hl 0 rfl) ?_
        refine tk_getA hC hK hw hT hinX12 kM_at0 (by decide) rfl 40 (by decide) (List.mem_of_getElem? (i := 4) rfl) rfl rfl dX12_back_38 ?_
        refine lv_sipush (v := 296) hx hb dX12_back_41 (by decide) ?_
        refine lv_iload_n hx hb dX12_back_44 rfl (lv_at hl 1 rfl) ?_
        refine lv_imul hx hb dX12_back_45 ?_
        refine lv_topi (fun x10 ex10 => ?_)
        have ex10 : x10.toInt = (296 : Int) * a1.toInt := by rw [ex10]; exact wk_mul (show (-2147483648) ≤ (296 : Int) * a1.toInt by omega) (show (296 : Int) * a1.toInt ≤ 2147483647 by omega)
        refine lv_iload_n hx hb dX12_back_46 rfl (lv_at hl 2 rfl) ?_
        refine lv_iadd hx hb dX12_back_47 ?_
        refine lv_topi (fun x11 ex11 => ?_)
        have ex11 : x11.toInt = x10.toInt + v25_2.toInt := by rw [ex11]; exact wk_add (show (-2147483648) ≤ x10.toInt + v25_2.toInt by omega) (show x10.toInt + v25_2.toInt ≤ 2147483647 by omega)
        refine tk_ialdR hC hK hw hT kM_at21 rfl (show 0 ≤ x11.toInt by omega) (show x11.toInt < 1184 by omega) dX12_back_48 (fun x12 c13 Ex12 => ?_)
        refine tk_iastR hC hK hw hT kM_at12 (by decide) rfl (show 0 ≤ v25_2.toInt by omega) (show v25_2.toInt < 296 by omega) (tk_rgC rfl rfl (show x11.toInt.toNat % 296 = v25_2.toInt.toNat % 296 by omega) Ex12) dX12_back_49 (fun H locs w14 hw hT k16 c15 => ?_)
        have hF := hF.put kM_at12 (inE_of (a := 0) (b := 295) (by decide) (show 0 ≤ v25_2.toInt.toNat by omega) (show v25_2.toInt.toNat ≤ 295 by omega)) k16
        obtain ⟨x17, ex17⟩ : ∃ y : Int32, y = v25_2 + Int32.ofInt 1 := ⟨_, rfl⟩
        refine lv_iinc (v := x17) (lv' := [(2, .int x17), (0, .ref (ad 0)), (1, .int a1)]) hx hb dX12_back_50 hl (k := 2) rfl ex17.symm (by decide) rfl (fun ls hl => ?_)
        have ex17 : x17.toInt = v25_2.toInt + 1 := by rw [ex17]; exact wk_add (y := 1) (show -2147483648 ≤ v25_2.toInt + 1 by omega) (show v25_2.toInt + 1 ≤ 2147483647 by omega)
        refine lv_goto (tgt := 25) hx hb dX12_back_53 (by decide) ?_
        exact ih25 x17 H locs ls w14 (show 0 ≤ a1.toInt by omega) (show a1.toInt ≤ 3 by omega) (show 0 ≤ x17.toInt by omega) (show x17.toInt ≤ 296 by omega) (show (296 - x17.toInt).toNat < n25 by omega) hw hT hF  (lv_sub hl [1, 2, 0] rfl)
  refine lv_iload_n hx hb dX12_back_0 rfl (lv_at hl 1 rfl) ?_
  refine lv_i2l hx hb dX12_back_1 rfl ?_
  refine lv_topl (fun x18 ex18 => ?_)
  have ex18 : x18.toInt = a1.toInt := by rw [ex18]; exact wk_i2l _
  have bx18 := wk_i32 a1
  refine lv_lconst (v := 0) hx hb dX12_back_2 (by decide) ?_
  refine lv_ldc2 (v := 3) hx hb hC.2.2.2.1 (hC.2.2.2.2 _ (List.mem_of_getElem? (i := 1) rfl)) dX12_back_3 ?_
  refine tk_Si hC hK hw hT hA hE hSR (k_X12_in_11 l adK adV dC dI cy ad B (by omega) (by omega) qr s1   x18 (show (-2147483648) ≤ x18.toInt by omega) (show x18.toInt ≤ 2147483647 by omega) w0 s.heap.size hT ) (va_cwS 3 hC.2.2.2.2 gX12_back_X12_in rfl rfl rfl (by decide +kernel) ⟨Nat.le_of_ble_eq_true rfl, Nat.le_of_ble_eq_true rfl⟩) rfl hl.1 rfl (Nat.le_of_ble_eq_true rfl) dX12_back_6 (fun r19 w21 H locs hp20 hw => ?_)
  obtain ⟨rfl, hg25⟩ := hp20
  rcases hg25 with rfl | ⟨rfl, g23, g24⟩
  · refine lv_if_eq (tgt := 21) hx hb dX12_back_9 (by decide) (fun _ => ?_) (fun c => absurd (by decide) c)
    exact J21  H locs ls w0   hw hT hF  (lv_sub hl [0, 1] rfl)
  · refine lv_if_eq (tgt := 21) hx hb dX12_back_9 (by decide) (fun c => absurd c (by decide)) (fun _ => ?_)
    refine lv_aload_n hx hb dX12_back_12 rfl (lv_at hl 0 rfl) ?_
    refine tk_getA hC hK hw hT hinX12 kM_at0 (by decide) rfl 41 (by decide) (List.mem_of_getElem? (i := 2) rfl) rfl rfl dX12_back_13 ?_
    refine lv_iload_n hx hb dX12_back_16 rfl (lv_at hl 1 rfl) ?_
    refine tk_zald hC hK hw hT kM_at22 rfl rfl (show 0 ≤ a1.toInt by omega) (show a1.toInt < 4 by omega) dX12_back_17 (fun x26 c27 rx26 tx26 => ?_)
    refine lv_if_ne (tgt := 23) hx hb dX12_back_18 (by decide) (fun c28 => ?_) (fun c28 => ?_)
    · have c28 : ¬ x26.toInt = (0 : Int) := wk_eqF c28
      refine lv_iconst (v := 0) hx hb dX12_back_23 (by decide) ?_
      refine lv_istore_n (lv' := [(2, .int 0), (0, .ref (ad 0)), (1, .int a1)]) hx hb dX12_back_24 rfl hl (by decide) rfl (fun ls hl => ?_)
      exact L25 ((296 - (0 : Int)).toNat + 1) 0 H locs ls w0 (show 0 ≤ a1.toInt by omega) (show a1.toInt ≤ 3 by omega) (by decide) (by decide) (Nat.lt_succ_self _) hw hT hF  (lv_sub hl [1, 2, 0] rfl)
    · have c28 : x26.toInt = (0 : Int) := wk_eq.mp c28
      exact J21  H locs ls w0   hw hT hF  (lv_sub hl [0, 1] rfl)
