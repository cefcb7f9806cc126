abbrev P_X6_hasRoom_1 (ad : Nat → Nat) (cy : Nat → ClassId) (B : Int) (qr : Nat) (s1 : Int)  (w0 : va_W) : Int32 → va_W → Prop := fun r u => TW ksC ad cy B qr s1 u ∧ FE ksC ([] : List (Nat × Nat × Nat)) w0 u ∧ ((r = 0) ∨ (r = 1))
set_option maxHeartbeats 4000000 in
set_option maxRecDepth 100000 in
theorem k_X6_hasRoom_1 (l : Launch) (adK adV : Nat → Nat) (dC : Nat → ClassId) (dI : Nat → Nat → Nat) (cy : Nat → ClassId) (ad : Nat → Nat) (B : Int) (hB0 : 2147483648 ≤ B) (hB1 : B ≤ 1152921504606846976) (qr : Nat) (s1 : Int)   (w0 : va_W) (sz : Nat) (hT : TW ksC ad cy B qr s1 w0)  : Met l yX6_hasRoom wsX6_hasRoom ({ frames := 1, cells := 0, slots := 0, locals := 12 }) (va_Pc [.ref (ad 1)] (wpreS adK adV dC dI cy sz w0)) (va_Qi (P_X6_hasRoom_1 ad cy B qr s1  w0) (fun u : va_W => wpost dC dI cy (va_A w0 sz) u) (va_A w0 sz)) 0 0 (va_A w0 sz) := by
  refine Met.ofW (cc := cX6_hasRoom) (maxL := 1) (ret := (some .boolean)) (by decide) rfl ?_
  intro p e s m args below meth c s₁ Bk hml hv
  obtain ⟨rfl, ⟨hsz, hP, hK, hD0⟩, hE, hSR⟩ := hv
  have hx := Bk.exec
  have hb := Bk.bytes
  have hr := Bk.returns
  have hlocks := Bk.notSynchronized
  have hC : CallFix p m c cX6_hasRoom 1 s _ wsX6_hasRoom RX6 := ⟨hx, hb, hml, findClass_of_methodNamed Bk.named, atoms_spec (ws := wsX6_hasRoom) Bk.pre⟩
  subst hsz
  have hD := hD0.self (sz := s.heap.size)
  generalize hAe : va_A w0 s.heap.size = A at hD hE ⊢
  have hA : ∀ q : Nat, s.heap.size ≤ q → A q := fun q h => by rw [← hAe]; exact Or.inr h
  have hw : Wd dC dI A s.heap s.heap [] w0 := ⟨hP, hD, va_S.rf⟩
  have hF : FE ksC ([] : List (Nat × Nat × Nat)) w0 w0 := FE.rf
  have hl := lv_entry ([.ref (ad 1)]) (n := 1) (Nat.le_of_ble_eq_true rfl)
  rw [lg_entry_eq]
  generalize (lg_sl ([.ref (ad 1)]) ++ List.replicate (1 - (lg_sl ([.ref (ad 1)])).length) Slot.unset).toArray = ls at hl ⊢
  have hl : lv_has ls 1 [(0, .ref (ad 1))] := hl
  generalize hloc : ([] : List Loc) = locs at hw ⊢
  have hinX6 : ∀ w ∈ u_ws RX6 TX6 5, w ∈ wsX6_hasRoom := fun _ h => List.mem_cons_of_mem _ (List.mem_append_right _ (h))
  refine lv_aload_n hx hb dX6_hasRoom_0 rfl (lv_at hl 0 rfl) ?_
  refine tk_geti hC hK hw hT hinX6 kC_at1 (by decide) rfl 2 (by decide) (List.mem_of_getElem? (i := 1) rfl) rfl rfl dX6_hasRoom_1 (fun x1 c2 rx1 tx1 => ?_)
  refine lv_bipush (v := 20) hx hb dX6_hasRoom_4 (by decide) ?_
  refine lv_iadd hx hb dX6_hasRoom_6 ?_
  refine lv_topi (fun x3 ex3 => ?_)
  have ex3 : x3.toInt = x1.toInt + (20 : Int) := by rw [ex3]; exact wk_add (show (-2147483648) ≤ x1.toInt + (20 : Int) by omega) (show x1.toInt + (20 : Int) ≤ 2147483647 by omega)
  refine lv_sipush (v := 400) hx hb dX6_hasRoom_7 (by decide) ?_
  refine lv_icmp_gt (tgt := 17) hx hb dX6_hasRoom_10 (by decide) (fun c4 => ?_) (fun c4 => ?_)
  · have c4 : (400 : Int) < x3.toInt := wk_lt.mp c4
    refine lv_iconst (v := 0) hx hb dX6_hasRoom_17 (by decide) ?_
    exact tk_zret hC hr rfl hlocks hK ⟨hT, hF, (Or.inl rfl)⟩ hw dX6_hasRoom_18
  · have c4 : x3.toInt ≤ (400 : Int) := wk_ltF c4
    refine lv_iconst (v := 1) hx hb dX6_hasRoom_13 (by decide) ?_
    refine lv_goto (tgt := 18) hx hb dX6_hasRoom_14 (by decide) ?_
    exact tk_zret hC hr rfl hlocks hK ⟨hT, hF, (Or.inr rfl)⟩ hw dX6_hasRoom_18
abbrev P_X6_look_1 (ad : Nat → Nat) (cy : Nat → ClassId) (B : Int) (qr : Nat) (s1 : Int)  (w0 : va_W) : Int32 → va_W → Prop := fun r u => TW ksC ad cy B qr s1 u ∧ FE ksC ([] : List (Nat × Nat × Nat)) w0 u ∧ ((0 ≤ r.toInt ∧ r.toInt ≤ 255) ∨ (r = (-1)))
set_option maxHeartbeats 4000000 in
set_option maxRecDepth 100000 in
theorem k_X6_look_1 (l : Launch) (adK adV : Nat → Nat) (dC : Nat → ClassId) (dI : Nat → Nat → Nat) (cy : Nat → ClassId) (ad : Nat → Nat) (B : Int) (hB0 : 2147483648 ≤ B) (hB1 : B ≤ 1152921504606846976) (qr : Nat) (s1 : Int)   (w0 : va_W) (sz : Nat) (hT : TW ksC ad cy B qr s1 w0)  : Met l yX6_look wsX6_look ({ frames := 1, cells := 0, slots := 0, locals := 12 }) (va_Pc [.ref (ad 1)] (wpreS adK adV dC dI cy sz w0)) (va_Qi (P_X6_look_1 ad cy B qr s1  w0) (fun u : va_W => wpost dC dI cy (va_A w0 sz) u) (va_A w0 sz)) 0 0 (va_A w0 sz) := by
  refine Met.ofW (cc := cX6_look) (maxL := 1) (ret := (some .int)) (by decide) rfl ?_
  intro p e s m args below meth c s₁ Bk hml hv
  obtain ⟨rfl, ⟨hsz, hP, hK, hD0⟩, hE, hSR⟩ := hv
  have hx := Bk.exec
  have hb := Bk.bytes
  have hr := Bk.returns
  have hlocks := Bk.notSynchronized
  have hC : CallFix p m c cX6_look 1 s _ wsX6_look RX6 := ⟨hx, hb, hml, findClass_of_methodNamed Bk.named, atoms_spec (ws := wsX6_look) Bk.pre⟩
  subst hsz
  have hD := hD0.self (sz := s.heap.size)
  generalize hAe : va_A w0 s.heap.size = A at hD hE ⊢
  have hA : ∀ q : Nat, s.heap.size ≤ q → A q := fun q h => by rw [← hAe]; exact Or.inr h
  have hw : Wd dC dI A s.heap s.heap [] w0 := ⟨hP, hD, va_S.rf⟩
  have hF : FE ksC ([] : List (Nat × Nat × Nat)) w0 w0 := FE.rf
  have hl := lv_entry ([.ref (ad 1)]) (n := 1) (Nat.le_of_ble_eq_true rfl)
  rw [lg_entry_eq]
  generalize (lg_sl ([.ref (ad 1)]) ++ List.replicate (1 - (lg_sl ([.ref (ad 1)])).length) Slot.unset).toArray = ls at hl ⊢
  have hl : lv_has ls 1 [(0, .ref (ad 1))] := hl
  generalize hloc : ([] : List Loc) = locs at hw ⊢
  have hinX6 : ∀ w ∈ u_ws RX6 TX6 5, w ∈ wsX6_look := fun _ h => List.mem_cons_of_mem _ (List.mem_append_right _ (h))
  refine lv_aload_n hx hb dX6_look_0 rfl (lv_at hl 0 rfl) ?_
  refine tk_geti hC hK hw hT hinX6 kC_at1 (by decide) rfl 1 (by decide) (List.mem_of_getElem? (i := 1) rfl) rfl rfl dX6_look_1 (fun x1 c2 rx1 tx1 => ?_)
  refine lv_aload_n hx hb dX6_look_4 rfl (lv_at hl 0 rfl) ?_
  refine tk_geti hC hK hw hT hinX6 kC_at1 (by decide) rfl 2 (by decide) (List.mem_of_getElem? (i := 2) rfl) rfl rfl dX6_look_5 (fun x3 c4 rx3 tx3 => ?_)
  refine lv_icmp_ge (tgt := 23) hx hb dX6_look_8 (by decide) (fun c5 => ?_) (fun c5 => ?_)
  · have c5 : x3.toInt ≤ x1.toInt := wk_le.mp c5
    refine lv_iconst (v := (-1)) hx hb dX6_look_23 (by decide) ?_
    exact tk_iret hC hr hlocks hK ⟨hT, hF, (Or.inr rfl)⟩ hw dX6_look_24
  · have c5 : x1.toInt < x3.toInt := wk_leF c5
    refine lv_aload_n hx hb dX6_look_11 rfl (lv_at hl 0 rfl) ?_
    refine tk_getA hC hK hw hT hinX6 kC_at1 (by decide) rfl 0 (by decide) (List.mem_of_getElem? (i := 3) rfl) rfl rfl dX6_look_12 ?_
    refine lv_aload_n hx hb dX6_look_15 rfl (lv_at hl 0 rfl) ?_
    refine tk_geti hC hK hw hT hinX6 kC_at1 (by decide) rfl 1 (by decide) (List.mem_of_getElem? (i := 1) rfl) rfl rfl dX6_look_16 (fun x6 c7 rx6 tx6 => ?_)
    refine wk_top x1 (c7.symm.trans c2) ?_
    refine tk_iald hC hK hw hT kC_at2 rfl rfl (show 0 ≤ x1.toInt by omega) (show x1.toInt < 400 by omega) dX6_look_19 (fun x8 c9 rx8 tx8 => ?_)
    refine lv_goto (tgt := 24) hx hb dX6_look_20 (by decide) ?_
    exact tk_iret hC hr hlocks hK ⟨hT, hF, (Or.inl ⟨(show 0 ≤ x8.toInt by omega), (show x8.toInt ≤ 255 by omega)⟩)⟩ hw dX6_look_24
abbrev P_X6_blame_1 (ad : Nat → Nat) (cy : Nat → ClassId) (B : Int) (qr : Nat) (s1 : Int) (a1 : Int32) (a2 : Int32) (w0 : va_W) : va_W → Prop := fun u => TW ksC ad cy B qr s1 u ∧ FE ksC [(6, 4, 4)] w0 u ∧ (((∃ y : Int32, gi u 1 4 = y ∧ 1 ≤ y.toInt ∧ y.toInt ≤ 3205)))
set_option maxHeartbeats 4000000 in
set_option maxRecDepth 100000 in
theorem k_X6_blame_1 (l : Launch) (adK adV : Nat → Nat) (dC : Nat → ClassId) (dI : Nat → Nat → Nat) (cy : Nat → ClassId) (ad : Nat → Nat) (B : Int) (hB0 : 2147483648 ≤ B) (hB1 : B ≤ 1152921504606846976) (qr : Nat) (s1 : Int)  (a1 : Int32) (ra1 : 0 ≤ a1.toInt) (ta1 : a1.toInt ≤ 400) (a2 : Int32) (ra2 : 0 ≤ a2.toInt) (ta2 : a2.toInt ≤ 4) (w0 : va_W) (sz : Nat) (hT : TW ksC ad cy B qr s1 w0)  : Met l yX6_blame wsX6_blame ({ frames := 1, cells := 0, slots := 0, locals := 12 }) (va_Pc [.ref (ad 1), .int a1, .int a2] (wpreS adK adV dC dI cy sz w0)) (va_Qv (P_X6_blame_1 ad cy B qr s1 a1 a2 w0) (fun u : va_W => wpost dC dI cy (va_A w0 sz) u) (va_A w0 sz)) 0 0 (va_A w0 sz) := by
  refine Met.ofW (cc := cX6_blame) (maxL := 3) (ret := none) (by decide) rfl ?_
  intro p e s m args below meth c s₁ Bk hml hv
  obtain ⟨rfl, ⟨hsz, hP, hK, hD0⟩, hE, hSR⟩ := hv
  have hx := Bk.exec
  have hb := Bk.bytes
  have hr := Bk.returns
  have hlocks := Bk.notSynchronized
  have hC : CallFix p m c cX6_blame 3 s _ wsX6_blame RX6 := ⟨hx, hb, hml, findClass_of_methodNamed Bk.named, atoms_spec (ws := wsX6_blame) Bk.pre⟩
  subst hsz
  have hD := hD0.self (sz := s.heap.size)
  generalize hAe : va_A w0 s.heap.size = A at hD hE ⊢
  have hA : ∀ q : Nat, s.heap.size ≤ q → A q := fun q h => by rw [← hAe]; exact Or.inr h
  have hw : Wd dC dI A s.heap s.heap [] w0 := ⟨hP, hD, va_S.rf⟩
  have hF : FE ksC [(6, 4, 4)] w0 w0 := FE.rf
  have hl := lv_entry ([.ref (ad 1), .int a1, .int a2]) (n := 3) (Nat.le_of_ble_eq_true rfl)
  rw [lg_entry_eq]
  generalize (lg_sl ([.ref (ad 1), .int a1, .int a2]) ++ List.replicate (3 - (lg_sl ([.ref (ad 1), .int a1, .int a2])).length) Slot.unset).toArray = ls at hl ⊢
  have hl : lv_has ls 3 [(0, .ref (ad 1)), (1, .int a1), (2, .int a2)] := hl
  generalize hloc : ([] : List Loc) = locs at hw ⊢
  have hinX6 : ∀ w ∈ u_ws RX6 TX6 5, w ∈ wsX6_blame := fun _ h => List.mem_cons_of_mem _ (List.mem_append_right _ (h))
  have J19 : ∀ (f19_1_4 : Int32) (H : Heap) (locs : List Loc) (ls : Array Slot) (w1 : va_W), 0 ≤ a1.toInt → a1.toInt ≤ 400 → 0 ≤ a2.toInt → a2.toInt ≤ 4 → 1 ≤ f19_1_4.toInt → f19_1_4.toInt ≤ 3205 → Wd dC dI A s.heap H locs w1 → TW ksC ad cy B qr s1 w1 → FE ksC [(6, 4, 4)] w0 w1 → gi w1 1 4 = f19_1_4 → lv_has ls 3 [(0, .ref (ad 1)), (1, .int a1), (2, .int a2)] → W p l e ({ frames := 1, cells := 0, slots := 0, locals := 12 }) s m (List.toArray [.ref (ad 1), .int a1, .int a2]) below meth c H locs 0 0 (MQ below (va_Qv (P_X6_blame_1 ad cy B qr s1 a1 a2 w0) (fun u : va_W => wpost dC dI cy A u) A) (List.toArray [.ref (ad 1), .int a1, .int a2]) s 0 0 A) (F0 m 19 ls []) := by
    intro f19_1_4 H locs ls w1 r2 t3 r4 t5 r6 t7 hw hT hF c8 hl
    exact tk_vret hC hr hlocks hK ⟨hT, hF, ⟨f19_1_4, c8, (show 1 ≤ f19_1_4.toInt by omega), (show f19_1_4.toInt ≤ 3205 by omega)⟩⟩ hw dX6_blame_19
  refine lv_aload_n hx hb dX6_blame_0 rfl (lv_at hl 0 rfl) ?_
  refine tk_geti hC hK hw hT hinX6 kC_at1 (by decide) rfl 4 (by decide) (List.mem_of_getElem? (i := 1) rfl) rfl rfl dX6_blame_1 (fun x9 c10 rx9 tx9 => ?_)
  refine lv_if_ne (tgt := 19) hx hb dX6_blame_4 (by decide) (fun c11 => ?_) (fun c11 => ?_)
  · have c11 : ¬ x9.toInt = (0 : Int) := wk_eqF c11
    exact J19 x9 s.heap locs ls w0 (show 0 ≤ a1.toInt by omega) (show a1.toInt ≤ 400 by omega) (show 0 ≤ a2.toInt by omega) (show a2.toInt ≤ 4 by omega) (show 1 ≤ x9.toInt by omega) (show x9.toInt ≤ 3205 by omega)  hw hT hF c10 (lv_sub hl [0, 1, 2] rfl)
  · have c11 : x9.toInt = (0 : Int) := wk_eq.mp c11
    refine lv_aload_n hx hb dX6_blame_7 rfl (lv_at hl 0 rfl) ?_
    refine lv_iconst (v := 1) hx hb dX6_blame_8 (by decide) ?_
    refine lv_bipush (v := 8) hx hb dX6_blame_9 (by decide) ?_
    refine lv_iload_n hx hb dX6_blame_11 rfl (lv_at hl 1 rfl) ?_
    refine lv_imul hx hb dX6_blame_12 ?_
    refine lv_topi (fun x12 ex12 => ?_)
    have ex12 : x12.toInt = (8 : Int) * a1.toInt := by rw [ex12]; exact wk_mul (show (-2147483648) ≤ (8 : Int) * a1.toInt by omega) (show (8 : Int) * a1.toInt ≤ 2147483647 by omega)
    refine lv_iadd hx hb dX6_blame_13 ?_
    refine lv_topi (fun x13 ex13 => ?_)
    have ex13 : x13.toInt = (1 : Int) + x12.toInt := by rw [ex13]; exact wk_add (show (-2147483648) ≤ (1 : Int) + x12.toInt by omega) (show (1 : Int) + x12.toInt ≤ 2147483647 by omega)
    refine lv_iload_n hx hb dX6_blame_14 rfl (lv_at hl 2 rfl) ?_
    refine lv_iadd hx hb dX6_blame_15 ?_
    refine lv_topi (fun x14 ex14 => ?_)
    have ex14 : x14.toInt = x13.toInt + a2.toInt := by rw [ex14]; exact wk_add (show (-2147483648) ≤ x13.toInt + a2.toInt by omega) (show x13.toInt + a2.toInt ≤ 2147483647 by omega)
    refine tk_puti hC hK hw hT hinX6 tyX6_ok nmX6 kC_at1 (by decide) rfl rfl 4 (by decide) (List.mem_of_getElem? (i := 1) rfl) rfl rfl rfl rfl (show 0 ≤ x14.toInt by omega) (show x14.toInt ≤ 3205 by omega) dX6_blame_16 (fun H locs w15 hw hT k17 c16 => ?_)
    have hF := hF.put kC_at1 (k := 4) (by decide) k17
    exact J19 x14 H locs ls w15 (show 0 ≤ a1.toInt by omega) (show a1.toInt ≤ 400 by omega) (show 0 ≤ a2.toInt by omega) (show a2.toInt ≤ 4 by omega) (show 1 ≤ x14.toInt by omega) (show x14.toInt ≤ 3205 by omega)  hw hT hF c16 (lv_sub hl [0, 1, 2] rfl)
abbrev P_X6_isDigit_1 (ad : Nat → Nat) (cy : Nat → ClassId) (B : Int) (qr : Nat) (s1 : Int) (a0 : Int32) (w0 : va_W) : Int32 → va_W → Prop := fun r u => TW ksC ad cy B qr s1 u ∧ FE ksC ([] : List (Nat × Nat × Nat)) w0 u ∧ ((r = 0) ∨ (r = 1 ∧ 48 ≤ a0.toInt ∧ a0.toInt ≤ 57))
set_option maxHeartbeats 4000000 in
set_option maxRecDepth 100000 in
theorem k_X6_isDigit_1 (l : Launch) (adK adV : Nat → Nat) (dC : Nat → ClassId) (dI : Nat → Nat → Nat) (cy : Nat → ClassId) (ad : Nat → Nat) (B : Int) (hB0 : 2147483648 ≤ B) (hB1 : B ≤ 1152921504606846976) (qr : Nat) (s1 : Int)  (a0 : Int32) (w0 : va_W) (sz : Nat) (hT : TW ksC ad cy B qr s1 w0)  : Met l yX6_isDigit wsX6_isDigit ({ frames := 1, cells := 0, slots := 0, locals := 12 }) (va_Pc [.int a0] (wpreS adK adV dC dI cy sz w0)) (va_Qi (P_X6_isDigit_1 ad cy B qr s1 a0 w0) (fun u : va_W => wpost dC dI cy (va_A w0 sz) u) (va_A w0 sz)) 0 0 (va_A w0 sz) := by
  refine Met.ofW (cc := cX6_isDigit) (maxL := 1) (ret := (some .boolean)) (by decide) rfl ?_
  intro p e s m args below meth c s₁ Bk hml hv
  obtain ⟨rfl, ⟨hsz, hP, hK, hD0⟩, hE, hSR⟩ := hv
  have hx := Bk.exec
  have hb := Bk.bytes
  have hr := Bk.returns
  have hlocks := Bk.notSynchronized
  have hC : CallFix p m c cX6_isDigit 1 s _ wsX6_isDigit RX6 := ⟨hx, hb, hml, findClass_of_methodNamed Bk.named, atoms_spec (ws := wsX6_isDigit) Bk.pre⟩
  subst hsz
  have hD := hD0.self (sz := s.heap.size)
  generalize hAe : va_A w0 s.heap.size = A at hD hE ⊢
  have hA : ∀ q : Nat, s.heap.size ≤ q → A q := fun q h => by rw [← hAe]; exact Or.inr h
  have hw : Wd dC dI A s.heap s.heap [] w0 := ⟨hP, hD, va_S.rf⟩
  have hF : FE ksC ([] : List (Nat × Nat × Nat)) w0 w0 := FE.rf
  have hl := lv_entry ([.int a0]) (n := 1) (Nat.le_of_ble_eq_true rfl)
  rw [lg_entry_eq]
  generalize (lg_sl ([.int a0]) ++ List.replicate (1 - (lg_sl ([.int a0])).length) Slot.unset).toArray = ls at hl ⊢
  have hl : lv_has ls 1 [(0, .int a0)] := hl
  generalize hloc : ([] : List Loc) = locs at hw ⊢
  have J16 : ∀ (H : Heap) (locs : List Loc) (ls : Array Slot) (w1 : va_W), Wd dC dI A s.heap H locs w1 → TW ksC ad cy B qr s1 w1 → FE ksC ([] : List (Nat × Nat × Nat)) w0 w1 → lv_has ls 1 [(0, .int a0)] → W p l e ({ frames := 1, cells := 0, slots := 0, locals := 12 }) s m (List.toArray [.int a0]) below meth c H locs 0 0 (MQ below (va_Qi (P_X6_isDigit_1 ad cy B qr s1 a0 w0) (fun u : va_W => wpost dC dI cy A u) A) (List.toArray [.int a0]) s 0 0 A) (F0 m 16 ls []) := by
    intro H locs ls w1 hw hT hF hl
    refine lv_iconst (v := 0) hx hb dX6_isDigit_16 (by decide) ?_
    exact tk_zret hC hr rfl hlocks hK ⟨hT, hF, (Or.inl rfl)⟩ hw dX6_isDigit_17
  refine lv_iload_n hx hb dX6_isDigit_0 rfl (lv_at hl 0 rfl) ?_
  refine lv_bipush (v := 48) hx hb dX6_isDigit_1 (by decide) ?_
  refine lv_icmp_lt (tgt := 16) hx hb dX6_isDigit_3 (by decide) (fun c2 => ?_) (fun c2 => ?_)
  · have c2 : a0.toInt < (48 : Int) := wk_lt.mp c2
    exact J16  s.heap locs ls w0   hw hT hF  (lv_sub hl [0] rfl)
  · have c2 : (48 : Int) ≤ a0.toInt := wk_ltF c2
    refine lv_iload_n hx hb dX6_isDigit_6 rfl (lv_at hl 0 rfl) ?_
    refine lv_bipush (v := 57) hx hb dX6_isDigit_7 (by decide) ?_
    refine lv_icmp_gt (tgt := 16) hx hb dX6_isDigit_9 (by decide) (fun c3 => ?_) (fun c3 => ?_)
    · have c3 : (57 : Int) < a0.toInt := wk_lt.mp c3
      exact J16  s.heap locs ls w0   hw hT hF  (lv_sub hl [0] rfl)
    · have c3 : a0.toInt ≤ (57 : Int) := wk_ltF c3
      refine lv_iconst (v := 1) hx hb dX6_isDigit_12 (by decide) ?_
      refine lv_goto (tgt := 17) hx hb dX6_isDigit_13 (by decide) ?_
      exact tk_zret hC hr rfl hlocks hK ⟨hT, hF, (Or.inr ⟨rfl, (show 48 ≤ a0.toInt by omega), (show a0.toInt ≤ 57 by omega)⟩)⟩ hw dX6_isDigit_17
abbrev P_X7_signOn_1 (ad : Nat → Nat) (cy : Nat → ClassId) (B : Int) (qr : Nat) (s1 : Int) (a1 : Int32) (a2 : Int32) (w0 : va_W) : Int32 → va_W → Prop := fun r u => TW ksC ad cy B qr s1 u ∧ FE ksC ([] : List (Nat × Nat × Nat)) w0 u ∧ ((0 ≤ r.toInt ∧ r.toInt ≤ 3))
set_option maxHeartbeats 4000000 in
set_option maxRecDepth 100000 in
theorem k_X7_signOn_1 (l : Launch) (adK adV : Nat → Nat) (dC : Nat → ClassId) (dI : Nat → Nat → Nat) (cy : Nat → ClassId) (ad : Nat → Nat) (B : Int) (hB0 : 2147483648 ≤ B) (hB1 : B ≤ 1152921504606846976) (qr : Nat) (s1 : Int)  (q0_ : Nat) (hkq0_ : ksC[q0_]? = some 7) (a1 : Int32) (ra1 : 0 ≤ a1.toInt) (ta1 : a1.toInt ≤ 12) (a2 : Int32) (ra2 : 0 ≤ a2.toInt) (ta2 : a2.toInt ≤ 6) (w0 : va_W) (sz : Nat) (hT : TW ksC ad cy B qr s1 w0)  : Met l yX7_signOn wsX7_signOn ({ frames := 1, cells := 0, slots := 0, locals := 12 }) (va_Pc [.ref (ad q0_), .int a1, .int a2] (wpreS adK adV dC dI cy sz w0)) (va_Qi (P_X7_signOn_1 ad cy B qr s1 a1 a2 w0) (fun u : va_W => wpost dC dI cy (va_A w0 sz) u) (va_A w0 sz)) 0 0 (va_A w0 sz) := by
  refine Met.ofW (cc := cX7_signOn) (maxL := 3) (ret := (some .int)) (by decide) rfl ?_
  intro p e s m args below meth c s₁ Bk hml hv
  obtain ⟨rfl, ⟨hsz, hP, hK, hD0⟩, hE, hSR⟩ := hv
  have hx := Bk.exec
  have hb := Bk.bytes
  have hr := Bk.returns
  have hlocks := Bk.notSynchronized
  have hC : CallFix p m c cX7_signOn 3 s _ wsX7_signOn RX7 := ⟨hx, hb, hml, findClass_of_methodNamed Bk.named, atoms_spec (ws := wsX7_signOn) Bk.pre⟩
  subst hsz
  have hD := hD0.self (sz := s.heap.size)
  generalize hAe : va_A w0 s.heap.size = A at hD hE ⊢
  have hA : ∀ q : Nat, s.heap.size ≤ q → A q := fun q h => by rw [← hAe]; exact Or.inr h
  have hw : Wd dC dI A s.heap s.heap [] w0 := ⟨hP, hD, va_S.rf⟩
  have hF : FE ksC ([] : List (Nat × Nat × Nat)) w0 w0 := FE.rf
  have hl := lv_entry ([.ref (ad q0_), .int a1, .int a2]) (n := 3) (Nat.le_of_ble_eq_true rfl)
  rw [lg_entry_eq]
  generalize (lg_sl ([.ref (ad q0_), .int a1, .int a2]) ++ List.replicate (3 - (lg_sl ([.ref (ad q0_), .int a1, .int a2])).length) Slot.unset).toArray = ls at hl ⊢
  have hl : lv_has ls 3 [(0, .ref (ad q0_)), (1, .int a1), (2, .int a2)] := hl
  generalize hloc : ([] : List Loc) = locs at hw ⊢
  have hinX7 : ∀ w ∈ u_ws RX7 TX7 12, w ∈ wsX7_signOn := fun _ h => List.mem_cons_of_mem _ (List.mem_append_right _ (h))
  refine lv_aload_n hx hb dX7_signOn_0 rfl (lv_at hl 0 rfl) ?_
  refine tk_getO hC hK hw hT hinX7 hkq0_ (by decide) rfl 2 (by decide) (List.mem_of_getElem? (i := 1) rfl) rfl rfl dX7_signOn_1 ?_
  refine lv_bipush (v := 7) hx hb dX7_signOn_4 (by decide) ?_
  refine lv_iload_n hx hb dX7_signOn_6 rfl (lv_at hl 1 rfl) ?_
  refine lv_imul hx hb dX7_signOn_7 ?_
  refine lv_topi (fun x1 ex1 => ?_)
  have ex1 : x1.toInt = (7 : Int) * a1.toInt := by rw [ex1]; exact wk_mul (show (-2147483648) ≤ (7 : Int) * a1.toInt by omega) (show (7 : Int) * a1.toInt ≤ 2147483647 by omega)
  refine lv_iload_n hx hb dX7_signOn_8 rfl (lv_at hl 2 rfl) ?_
  refine lv_iadd hx hb dX7_signOn_9 ?_
  refine lv_topi (fun x2 ex2 => ?_)
  have ex2 : x2.toInt = x1.toInt + a2.toInt := by rw [ex2]; exact wk_add (show (-2147483648) ≤ x1.toInt + a2.toInt by omega) (show x1.toInt + a2.toInt ≤ 2147483647 by omega)
  refine tk_iald hC hK hw hT (kC_7_3 hkq0_) rfl rfl (show 0 ≤ x2.toInt by omega) (show x2.toInt < 91 by omega) dX7_signOn_10 (fun x3 c4 rx3 tx3 => ?_)
  exact tk_iret hC hr hlocks hK ⟨hT, hF, ⟨(show 0 ≤ x3.toInt by omega), (show x3.toInt ≤ 3 by omega)⟩⟩ hw dX7_signOn_11
abbrev P_X7_sideOf_1 (ad : Nat → Nat) (cy : Nat → ClassId) (B : Int) (qr : Nat) (s1 : Int) (a1 : Int32) (a2 : Int32) (w0 : va_W) : Int32 → va_W → Prop := fun r u => TW ksC ad cy B qr s1 u ∧ FE ksC ([] : List (Nat × Nat × Nat)) w0 u ∧ ((0 ≤ r.toInt ∧ r.toInt ≤ 1 ∧ 0 ≤ a2.toInt ∧ a2.toInt ≤ 9) ∨ (r = (-1)))
set_option maxHeartbeats 4000000 in
set_option maxRecDepth 100000 in
theorem k_X7_sideOf_1 (l : Launch) (adK adV : Nat → Nat) (dC : Nat → ClassId) (dI : Nat → Nat → Nat) (cy : Nat → ClassId) (ad : Nat → Nat) (B : Int) (hB0 : 2147483648 ≤ B) (hB1 : B ≤ 1152921504606846976) (qr : Nat) (s1 : Int)  (q0_ : Nat) (hkq0_ : ksC[q0_]? = some 7) (a1 : Int32) (ra1 : 0 ≤ a1.toInt) (ta1 : a1.toInt ≤ 12) (a2 : Int32) (w0 : va_W) (sz : Nat) (hT : TW ksC ad cy B qr s1 w0)  : Met l yX7_sideOf wsX7_sideOf ({ frames := 1, cells := 0, slots := 0, locals := 12 }) (va_Pc [.ref (ad q0_), .int a1, .int a2] (wpreS adK adV dC dI cy sz w0)) (va_Qi (P_X7_sideOf_1 ad cy B qr s1 a1 a2 w0) (fun u : va_W => wpost dC dI cy (va_A w0 sz) u) (va_A w0 sz)) 0 0 (va_A w0 sz) := by
  refine Met.ofW (cc := cX7_sideOf) (maxL := 3) (ret := (some .int)) (by decide) rfl ?_
  intro p e s m args below meth c s₁ Bk hml hv
  obtain ⟨rfl, ⟨hsz, hP, hK, hD0⟩, hE, hSR⟩ := hv
  have hx := Bk.exec
  have hb := Bk.bytes
  have hr := Bk.returns
  have hlocks := Bk.notSynchronized
  have hC : CallFix p m c cX7_sideOf 3 s _ wsX7_sideOf RX7 := ⟨hx, hb, hml, findClass_of_methodNamed Bk.named, atoms_spec (ws := wsX7_sideOf) Bk.pre⟩
  subst hsz
  have hD := hD0.self (sz := s.heap.size)
  generalize hAe : va_A w0 s.heap.size = A at hD hE ⊢
  have hA : ∀ q : Nat, s.heap.size ≤ q → A q := fun q h => by rw [← hAe]; exact Or.inr h
  have hw : Wd dC dI A s.heap s.heap [] w0 := ⟨hP, hD, va_S.rf⟩
  have hF : FE ksC ([] : List (Nat × Nat × Nat)) w0 w0 := FE.rf
  have hl := lv_entry ([.ref (ad q0_), .int a1, .int a2]) (n := 3) (Nat.le_of_ble_eq_true rfl)
  rw [lg_entry_eq]
  generalize (lg_sl ([.ref (ad q0_), .int a1, .int a2]) ++ List.replicate (3 - (lg_sl ([.ref (ad q0_), .int a1, .int a2])).length) Slot.unset).toArray = ls at hl ⊢
  have hl : lv_has ls 3 [(0, .ref (ad q0_)), (1, .int a1), (2, .int a2)] := hl
  generalize hloc : ([] : List Loc) = locs at hw ⊢
  have hinX7 : ∀ w ∈ u_ws RX7 TX7 12, w ∈ wsX7_sideOf := fun _ h => List.mem_cons_of_mem _ (List.mem_append_right _ (h))
  refine lv_aload_n hx hb dX7_sideOf_0 rfl (lv_at hl 0 rfl) ?_
  refine tk_getO hC hK hw hT hinX7 hkq0_ (by decide) rfl 0 (by decide) (List.mem_of_getElem? (i := 1) rfl) rfl rfl dX7_sideOf_1 ?_
  refine lv_iconst (v := 2) hx hb dX7_sideOf_4 (by decide) ?_
  refine lv_iload_n hx hb dX7_sideOf_5 rfl (lv_at hl 1 rfl) ?_
  refine lv_imul hx hb dX7_sideOf_6 ?_
  refine lv_topi (fun x1 ex1 => ?_)
  have ex1 : x1.toInt = (2 : Int) * a1.toInt := by rw [ex1]; exact wk_mul (show (-2147483648) ≤ (2 : Int) * a1.toInt by omega) (show (2 : Int) * a1.toInt ≤ 2147483647 by omega)
  refine tk_iald hC hK hw hT (kC_7_1 hkq0_) rfl rfl (show 0 ≤ x1.toInt by omega) (show x1.toInt < 26 by omega) dX7_sideOf_7 (fun x2 c3 rx2 tx2 => ?_)
  refine lv_iload_n hx hb dX7_sideOf_8 rfl (lv_at hl 2 rfl) ?_
  refine lv_icmp_ne (tgt := 14) hx hb dX7_sideOf_9 (by decide) (fun c4 => ?_) (fun c4 => ?_)
  · have c4 : ¬ x2.toInt = a2.toInt := wk_eqF c4
    refine lv_aload_n hx hb dX7_sideOf_14 rfl (lv_at hl 0 rfl) ?_
    refine tk_getO hC hK hw hT hinX7 hkq0_ (by decide) rfl 0 (by decide) (List.mem_of_getElem? (i := 1) rfl) rfl rfl dX7_sideOf_15 ?_
    refine lv_iconst (v := 2) hx hb dX7_sideOf_18 (by decide) ?_
    refine lv_iload_n hx hb dX7_sideOf_19 rfl (lv_at hl 1 rfl) ?_
    refine lv_imul hx hb dX7_sideOf_20 ?_
    refine lv_topi (fun x5 ex5 => ?_)
    have ex5 : x5.toInt = (2 : Int) * a1.toInt := by rw [ex5]; exact wk_mul (show (-2147483648) ≤ (2 : Int) * a1.toInt by omega) (show (2 : Int) * a1.toInt ≤ 2147483647 by omega)
    refine lv_iconst (v := 1) hx hb dX7_sideOf_21 (by decide) ?_
    refine lv_iadd hx hb dX7_sideOf_22 ?_
    refine lv_topi (fun x6 ex6 => ?_)
    have ex6 : x6.toInt = x5.toInt + (1 : Int) := by rw [ex6]; exact wk_add (show (-2147483648) ≤ x5.toInt + (1 : Int) by omega) (show x5.toInt + (1 : Int) ≤ 2147483647 by omega)
    refine tk_iald hC hK hw hT (kC_7_1 hkq0_) rfl rfl (show 0 ≤ x6.toInt by omega) (show x6.toInt < 26 by omega) dX7_sideOf_23 (fun x7 c8 rx7 tx7 => ?_)
    refine lv_iload_n hx hb dX7_sideOf_24 rfl (lv_at hl 2 rfl) ?_
    refine lv_icmp_ne (tgt := 32) hx hb dX7_sideOf_25 (by decide) (fun c9 => ?_) (fun c9 => ?_)
    · have c9 : ¬ x7.toInt = a2.toInt := wk_eqF c9
      refine lv_iconst (v := (-1)) hx hb dX7_sideOf_32 (by decide) ?_
      exact tk_iret hC hr hlocks hK ⟨hT, hF, (Or.inr rfl)⟩ hw dX7_sideOf_33
    · have c9 : x7.toInt = a2.toInt := wk_eq.mp c9
      refine lv_iconst (v := 1) hx hb dX7_sideOf_28 (by decide) ?_
      refine lv_goto (tgt := 33) hx hb dX7_sideOf_29 (by decide) ?_
      exact tk_iret hC hr hlocks hK ⟨hT, hF, (Or.inl ⟨(by decide), (by decide), (show 0 ≤ a2.toInt by omega), (show a2.toInt ≤ 9 by omega)⟩)⟩ hw dX7_sideOf_33
  · have c4 : x2.toInt = a2.toInt := wk_eq.mp c4
    refine lv_iconst (v := 0) hx hb dX7_sideOf_12 (by decide) ?_
    exact tk_iret hC hr hlocks hK ⟨hT, hF, (Or.inl ⟨(by decide), (by decide), (show 0 ≤ a2.toInt by omega), (show a2.toInt ≤ 9 by omega)⟩)⟩ hw dX7_sideOf_13
abbrev P_X7_daysWith_1 (ad : Nat → Nat) (cy : Nat → ClassId) (B : Int) (qr : Nat) (s1 : Int) (a1 : Int32) (a2 : Int32) (w0 : va_W) : Int32 → va_W → Prop := fun r u => TW ksC ad cy B qr s1 u ∧ FE ksC ([] : List (Nat × Nat × Nat)) w0 u ∧ ((True))
set_option maxHeartbeats 4000000 in
set_option maxRecDepth 100000 in
theorem k_X7_daysWith_1 (l : Launch) (adK adV : Nat → Nat) (dC : Nat → ClassId) (dI : Nat → Nat → Nat) (cy : Nat → ClassId) (ad : Nat → Nat) (B : Int) (hB0 : 2147483648 ≤ B) (hB1 : B ≤ 1152921504606846976) (qr : Nat) (s1 : Int)  (q0_ : Nat) (hkq0_ : ksC[q0_]? = some 7) (a1 : Int32) (ra1 : 0 ≤ a1.toInt) (ta1 : a1.toInt ≤ 12) (a2 : Int32) (ra2 : 0 ≤ a2.toInt) (ta2 : a2.toInt ≤ 3) (w0 : va_W) (sz : Nat) (hT : TW ksC ad cy B qr s1 w0)  : Met l yX7_daysWith wsX7_daysWith ({ frames := 2, cells := 0, slots := 0, locals := 34 }) (va_Pc [.ref (ad q0_), .int a1, .int a2] (wpreS adK adV dC dI cy sz w0)) (va_Qi (P_X7_daysWith_1 ad cy B qr s1 a1 a2 w0) (fun u : va_W => wpost dC dI cy (va_A w0 sz) u) (va_A w0 sz)) 0 0 (va_A w0 sz) := by
  refine Met.ofW (cc := cX7_daysWith) (maxL := 5) (ret := (some .int)) (by decide) rfl ?_
  intro p e s m args below meth c s₁ Bk hml hv
  obtain ⟨rfl, ⟨hsz, hP, hK, hD0⟩, hE, hSR⟩ := hv
  have hx := Bk.exec
  have hb := Bk.bytes
  have hr := Bk.returns
  have hlocks := Bk.notSynchronized
  have hC : CallFix p m c cX7_daysWith 5 s _ wsX7_daysWith RX7 := ⟨hx, hb, hml, findClass_of_methodNamed Bk.named, atoms_spec (ws := wsX7_daysWith) Bk.pre⟩
  subst hsz
  have hD := hD0.self (sz := s.heap.size)
  generalize hAe : va_A w0 s.heap.size = A at hD hE ⊢
  have hA : ∀ q : Nat, s.heap.size ≤ q → A q := fun q h => by rw [← hAe]; exact Or.inr h
  have hw : Wd dC dI A s.heap s.heap [] w0 := ⟨hP, hD, va_S.rf⟩
  have hF : FE ksC ([] : List (Nat × Nat × Nat)) w0 w0 := FE.rf
  have hl := lv_entry ([.ref (ad q0_), .int a1, .int a2]) (n := 5) (Nat.le_of_ble_eq_true rfl)
  rw [lg_entry_eq]
  generalize (lg_sl ([.ref (ad q0_), .int a1, .int a2]) ++ List.replicate (5 - (lg_sl ([.ref (ad q0_), .int a1, .int a2])).length) Slot.unset).toArray = ls at hl ⊢
  have hl : lv_has ls 5 [(0, .ref (ad q0_)), (1, .int a1), (2, .int a2)] := hl
  generalize hloc : ([] : List Loc) = locs at hw ⊢
  have L5 : ∀ (n5 : Nat) (v5_3 : Int32) (v5_4 : Int32) (H : Heap) (locs : List Loc) (ls : Array Slot) (w1 : va_W), 0 ≤ a1.toInt → a1.toInt ≤ 12 → 0 ≤ a2.toInt → a2.toInt ≤ 3 → 0 ≤ v5_4.toInt → v5_4.toInt ≤ 7 → (7 - v5_4.toInt).toNat < n5 → Wd dC dI A s.heap H locs w1 → TW ksC ad cy B qr s1 w1 → FE ksC ([] : List (Nat × Nat × Nat)) w0 w1 → lv_has ls 5 [(0, .ref (ad q0_)), (1, .int a1), (2, .int a2), (3, .int v5_3), (4, .int v5_4)] → W p l e ({ frames := 2, cells := 0, slots := 0, locals := 34 }) s m (List.toArray [.ref (ad q0_), .int a1, .int a2]) below meth c H locs 0 0 (MQ below (va_Qi (P_X7_daysWith_1 ad cy B qr s1 a1 a2 w0) (fun u : va_W => wpost dC dI cy A u) A) (List.toArray [.ref (ad q0_), .int a1, .int a2]) s 0 0 A) (F0 m 5 ls []) := by
    intro n5
    induction n5 with
    | zero => intro v5_3 v5_4 H locs ls w1 r2 t3 r4 t5 r6 t7 hm5 hw hT hF hl; omega
    | succ n5 ih5 =>
      intro v5_3 v5_4 H locs ls w1 r2 t3 r4 t5 r6 t7 hm5 hw hT hF hl
      have J26 : ∀ (v26_3 : Int32) (H : Heap) (locs : List Loc) (ls : Array Slot) (w8 : va_W), 0 ≤ a1.toInt → a1.toInt ≤ 12 → 0 ≤ a2.toInt → a2.toInt ≤ 3 → 0 ≤ v5_4.toInt → v5_4.toInt ≤ 6 → Wd dC dI A s.heap H locs w8 → TW ksC ad cy B qr s1 w8 → FE ksC ([] : List (Nat × Nat × Nat)) w0 w8 → lv_has ls 5 [(0, .ref (ad q0_)), (1, .int a1), (2, .int a2), (3, .int v26_3), (4, .int v5_4)] → W p l e ({ frames := 2, cells := 0, slots := 0, locals := 34 }) s m (List.toArray [.ref (ad q0_), .int a1, .int a2]) below meth c H locs 0 0 (MQ below (va_Qi (P_X7_daysWith_1 ad cy B qr s1 a1 a2 w0) (fun u : va_W => wpost dC dI cy A u) A) (List.toArray [.ref (ad q0_), .int a1, .int a2]) s 0 0 A) (F0 m 26 ls []) := by
        intro v26_3 H locs ls w8 r9 t10 r11 t12 r13 t14 hw hT hF hl
        obtain ⟨x15, ex15⟩ : ∃ y : Int32, y = v5_4 + Int32.ofInt 1 := ⟨_, rfl⟩
        refine lv_iinc (v := x15) (lv' := [(4, .int x15), (0, .ref (ad q0_)), (1, .int a1), (2, .int a2), (3, .int v26_3)]) hx hb dX7_daysWith_26 hl (k := 4) rfl ex15.symm (by decide) rfl (fun ls hl => ?_)
        have ex15 : x15.toInt = v5_4.toInt + 1 := by rw [ex15]; exact wk_add (y := 1) (show -2147483648 ≤ v5_4.toInt + 1 by omega) (show v5_4.toInt + 1 ≤ 2147483647 by omega)
        refine lv_goto (tgt := 5) hx hb dX7_daysWith_29 (by decide) ?_
        exact ih5 v26_3 x15 H locs ls w8 (show 0 ≤ a1.toInt by omega) (show a1.toInt ≤ 12 by omega) (show 0 ≤ a2.toInt by omega) (show a2.toInt ≤ 3 by omega) (show 0 ≤ x15.toInt by omega) (show x15.toInt ≤ 7 by omega) (show (7 - x15.toInt).toNat < n5 by omega) hw hT hF  (lv_sub hl [1, 2, 3, 4, 0] rfl)
      refine lv_iload hx hb dX7_daysWith_5 (lv_at hl 4 rfl) ?_
      refine lv_bipush (v := 7) hx hb dX7_daysWith_7 (by decide) ?_
      refine lv_icmp_ge (tgt := 32) hx hb dX7_daysWith_9 (by decide) (fun c16 => ?_) (fun c16 => ?_)
      · have c16 : (7 : Int) ≤ v5_4.toInt := wk_le.mp c16
        refine lv_iload_n hx hb dX7_daysWith_32 rfl (lv_at hl 3 rfl) ?_
        exact tk_iret hC hr hlocks hK ⟨hT, hF, trivial⟩ hw dX7_daysWith_33
      · have c16 : v5_4.toInt < (7 : Int) := wk_leF c16
        refine lv_aload_n hx hb dX7_daysWith_12 rfl (lv_at hl 0 rfl) ?_
        refine lv_iload_n hx hb dX7_daysWith_13 rfl (lv_at hl 1 rfl) ?_
        refine lv_iload hx hb dX7_daysWith_14 (lv_at hl 4 rfl) ?_
        refine tk_Vi hC hK hw hT hA hE hSR hkq0_ (by decide) rfl (k_X7_signOn_1 l adK adV dC dI cy ad B (by omega) (by omega) qr s1  q0_ hkq0_ a1 (show 0 ≤ a1.toInt by omega) (show a1.toInt ≤ 12 by omega) v5_4 (show 0 ≤ v5_4.toInt by omega) (show v5_4.toInt ≤ 6 by omega) w1 H.size hT ) (cwV 2 hC.2.2.2.2 gX7_daysWith_X7_signOn rfl rfl rfl (by decide +kernel) ⟨Nat.le_of_ble_eq_true rfl, Nat.le_of_ble_eq_true rfl⟩) rfl hl.1 rfl (Nat.le_of_ble_eq_true rfl) dX7_daysWith_16 (fun r17 w19 H locs hp18 hw => ?_)
        obtain ⟨hT, k20, hg23⟩ := hp18
        have hF := hF.tr k20 (by decide)
        obtain ⟨g21, g22⟩ := hg23
        refine lv_iload_n hx hb dX7_daysWith_19 rfl (lv_at hl 2 rfl) ?_
        refine lv_icmp_ne (tgt := 26) hx hb dX7_daysWith_20 (by decide) (fun c24 => ?_) (fun c24 => ?_)
        · have c24 : ¬ r17.toInt = a2.toInt := wk_eqF c24
          exact J26 v5_3 H locs ls w19 (show 0 ≤ a1.toInt by omega) (show a1.toInt ≤ 12 by omega) (show 0 ≤ a2.toInt by omega) (show a2.toInt ≤ 3 by omega) (show 0 ≤ v5_4.toInt by omega) (show v5_4.toInt ≤ 6 by omega)  hw hT hF  (lv_sub hl [0, 1, 2, 3, 4] rfl)
        · have c24 : r17.toInt = a2.toInt := wk_eq.mp c24
          obtain ⟨x25, ex25⟩ : ∃ y : Int32, y = v5_3 + Int32.ofInt 1 := ⟨_, rfl⟩
          refine lv_iinc (v := x25) (lv' := [(3, .int x25), (0, .ref (ad q0_)), (1, .int a1), (2, .int a2), (4, .int v5_4)]) hx hb dX7_daysWith_23 hl (k := 3) rfl ex25.symm (by decide) rfl (fun ls hl => ?_)
          exact J26 x25 H locs ls w19 (show 0 ≤ a1.toInt by omega) (show a1.toInt ≤ 12 by omega) (show 0 ≤ a2.toInt by omega) (show a2.toInt ≤ 3 by omega) (show 0 ≤ v5_4.toInt by omega) (show v5_4.toInt ≤ 6 by omega)  hw hT hF  (lv_sub hl [1, 2, 3, 0, 4] rfl)
  refine lv_iconst (v := 0) hx hb dX7_daysWith_0 (by decide) ?_
  refine lv_istore_n (lv' := [(3, .int 0), (0, .ref (ad q0_)), (1, .int a1), (2, .int a2)]) hx hb dX7_daysWith_1 rfl hl (by decide) rfl (fun ls hl => ?_)
  refine lv_iconst (v := 0) hx hb dX7_daysWith_2 (by decide) ?_
  refine lv_istore (lv' := [(4, .int 0), (3, .int 0), (0, .ref (ad q0_)), (1, .int a1), (2, .int a2)]) hx hb dX7_daysWith_3 hl (by decide) rfl (fun ls hl => ?_)
  exact L5 ((7 - (0 : Int)).toNat + 1) 0 0 s.heap locs ls w0 (show 0 ≤ a1.toInt by omega) (show a1.toInt ≤ 12 by omega) (show 0 ≤ a2.toInt by omega) (show a2.toInt ≤ 3 by omega) (by decide) (by decide) (Nat.lt_succ_self _) hw hT hF  (lv_sub hl [2, 3, 4, 1, 0] rfl)
abbrev P_X7_daysWith_2 (ad : Nat → Nat) (cy : Nat → ClassId) (B : Int) (qr : Nat) (s1 : Int) (a1 : Int32) (a2 : Int32) (w0 : va_W) : Int32 → va_W → Prop := fun r u => TW ksC ad cy B qr s1 u ∧ FE ksC ([] : List (Nat × Nat × Nat)) w0 u ∧ ((True))
set_option maxHeartbeats 4000000 in
set_option maxRecDepth 100000 in
theorem k_X7_daysWith_2 (l : Launch) (adK adV : Nat → Nat) (dC : Nat → ClassId) (dI : Nat → Nat → Nat) (cy : Nat → ClassId) (ad : Nat → Nat) (B : Int) (hB0 : 2147483648 ≤ B) (hB1 : B ≤ 1152921504606846976) (qr : Nat) (s1 : Int)  (q0_ : Nat) (hkq0_ : ksC[q0_]? = some 7) (a1 : Int32) (ra1 : 0 ≤ a1.toInt) (ta1 : a1.toInt ≤ 12) (a2 : Int32) (ra2 : 1 ≤ a2.toInt) (ta2 : a2.toInt ≤ 3) (w0 : va_W) (sz : Nat) (hT : TW ksC ad cy B qr s1 w0)  : Met l yX7_daysWith wsX7_daysWith ({ frames := 2, cells := 0, slots := 0, locals := 34 }) (va_Pc [.ref (ad q0_), .int a1, .int a2] (wpreS adK adV dC dI cy sz w0)) (va_Qi (P_X7_daysWith_2 ad cy B qr s1 a1 a2 w0) (fun u : va_W => wpost dC dI cy (va_A w0 sz) u) (va_A w0 sz)) 0 0 (va_A w0 sz) := by
  refine Met.ofW (cc := cX7_daysWith) (maxL := 5) (ret := (some .int)) (by decide) rfl ?_
  intro p e s m args below meth c s₁ Bk hml hv
  obtain ⟨rfl, ⟨hsz, hP, hK, hD0⟩, hE, hSR⟩ := hv
  have hx := Bk.exec
  have hb := Bk.bytes
  have hr := Bk.returns
  have hlocks := Bk.notSynchronized
  have hC : CallFix p m c cX7_daysWith 5 s _ wsX7_daysWith RX7 := ⟨hx, hb, hml, findClass_of_methodNamed Bk.named, atoms_spec (ws := wsX7_daysWith) Bk.pre⟩
  subst hsz
  have hD := hD0.self (sz := s.heap.size)
  generalize hAe : va_A w0 s.heap.size = A at hD hE ⊢
  have hA : ∀ q : Nat, s.heap.size ≤ q → A q := fun q h => by rw [← hAe]; exact Or.inr h
  have hw : Wd dC dI A s.heap s.heap [] w0 := ⟨hP, hD, va_S.rf⟩
  have hF : FE ksC ([] : List (Nat × Nat × Nat)) w0 w0 := FE.rf
  have hl := lv_entry ([.ref (ad q0_), .int a1, .int a2]) (n := 5) (Nat.le_of_ble_eq_true rfl)
  rw [lg_entry_eq]
  generalize (lg_sl ([.ref (ad q0_), .int a1, .int a2]) ++ List.replicate (5 - (lg_sl ([.ref (ad q0_), .int a1, .int a2])).length) Slot.unset).toArray = ls at hl ⊢
  have hl : lv_has ls 5 [(0, .ref (ad q0_)), (1, .int a1), (2, .int a2)] := hl
  generalize hloc : ([] : List Loc) = locs at hw ⊢
  have L5 : ∀ (n5 : Nat) (v5_3 : Int32) (v5_4 : Int32) (H : Heap) (locs : List Loc) (ls : Array Slot) (w1 : va_W), 0 ≤ a1.toInt → a1.toInt ≤ 12 → 1 ≤ a2.toInt → a2.toInt ≤ 3 → 0 ≤ v5_4.toInt → v5_4.toInt ≤ 7 → (7 - v5_4.toInt).toNat < n5 → Wd dC dI A s.heap H locs w1 → TW ksC ad cy B qr s1 w1 → FE ksC ([] : List (Nat × Nat × Nat)) w0 w1 → lv_has ls 5 [(0, .ref (ad q0_)), (1, .int a1), (2, .int a2), (3, .int v5_3), (4, .int v5_4)] → W p l e ({ frames := 2, cells := 0, slots := 0, locals := 34 }) s m (List.toArray [.ref (ad q0_), .int a1, .int a2]) below meth c H locs 0 0 (MQ below (va_Qi (P_X7_daysWith_2 ad cy B qr s1 a1 a2 w0) (fun u : va_W => wpost dC dI cy A u) A) (List.toArray [.ref (ad q0_), .int a1, .int a2]) s 0 0 A) (F0 m 5 ls []) := by
    intro n5
    induction n5 with
    | zero => intro v5_3 v5_4 H locs ls w1 r2 t3 r4 t5 r6 t7 hm5 hw hT hF hl; omega
    | succ n5 ih5 =>
      intro v5_3 v5_4 H locs ls w1 r2 t3 r4 t5 r6 t7 hm5 hw hT hF hl
      have J26 : ∀ (v26_3 : Int32) (H : Heap) (locs : List Loc) (ls : Array Slot) (w8 : va_W), 0 ≤ a1.toInt → a1.toInt ≤ 12 → 1 ≤ a2.toInt → a2.toInt ≤ 3 → 0 ≤ v5_4.toInt → v5_4.toInt ≤ 6 → Wd dC dI A s.heap H locs w8 → TW ksC ad cy B qr s1 w8 → FE ksC ([] : List (Nat × Nat × Nat)) w0 w8 → lv_has ls 5 [(0, .ref (ad q0_)), (1, .int a1), (2, .int a2), (3, .int v26_3), (4, .int v5_4)] → W p l e ({ frames := 2, cells := 0, slots := 0, locals := 34 }) s m (List.toArray [.ref (ad q0_), .int a1, .int a2]) below meth c H locs 0 0 (MQ below (va_Qi (P_X7_daysWith_2 ad cy B qr s1 a1 a2 w0) (fun u : va_W => wpost dC dI cy A u) A) (List.toArray [.ref (ad q0_), .int a1, .int a2]) s 0 0 A) (F0 m 26 ls []) := by
        intro v26_3 H locs ls w8 r9 t10 r11 t12 r13 t14 hw hT hF hl
        obtain ⟨x15, ex15⟩ : ∃ y : Int32, y = v5_4 + Int32.ofInt 1 := ⟨_, rfl⟩
        refine lv_iinc (v := x15) (lv' := [(4, .int x15), (0, .ref (ad q0_)), (1, .int a1), (2, .int a2), (3, .int v26_3)]) hx hb dX7_daysWith_26 hl (k := 4) rfl ex15.symm (by decide) rfl (fun ls hl => ?_)
        have ex15 : x15.toInt = v5_4.toInt + 1 := by rw [ex15]; exact wk_add (y := 1) (show -2147483648 ≤ v5_4.toInt + 1 by omega) (show v5_4.toInt + 1 ≤ 2147483647 by omega)
        refine lv_goto (tgt := 5) hx hb dX7_daysWith_29 (by decide) ?_
        exact ih5 v26_3 x15 H locs ls w8 (show 0 ≤ a1.toInt by omega) (show a1.toInt ≤ 12 by omega) (show 1 ≤ a2.toInt by omega) (show a2.toInt ≤ 3 by omega) (show 0 ≤ x15.toInt by omega) (show x15.toInt ≤ 7 by omega) (show (7 - x15.toInt).toNat < n5 by omega) hw hT hF  (lv_sub hl [1, 2, 3, 4, 0] rfl)
      refine lv_iload hx hb dX7_daysWith_5 (lv_at hl 4 rfl) ?_
      refine lv_bipush (v := 7) hx hb dX7_daysWith_7 (by decide) ?_
      refine lv_icmp_ge (tgt := 32) hx hb dX7_daysWith_9 (by decide) (fun c16 => ?_) (fun c16 => ?_)
      · have c16 : (7 : Int) ≤ v5_4.toInt := wk_le.mp c16
        refine lv_iload_n hx hb dX7_daysWith_32 rfl (lv_at hl 3 rfl) ?_
        exact tk_iret hC hr hlocks hK ⟨hT, hF, trivial⟩ hw dX7_daysWith_33
      · have c16 : v5_4.toInt < (7 : Int) := wk_leF c16
        refine lv_aload_n hx hb dX7_daysWith_12 rfl (lv_at hl 0 rfl) ?_
        refine lv_iload_n hx hb dX7_daysWith_13 rfl (lv_at hl 1 rfl) ?_
        refine lv_iload hx hb dX7_daysWith_14 (lv_at hl 4 rfl) ?_
        refine tk_Vi hC hK hw hT hA hE hSR hkq0_ (by decide) rfl (k_X7_signOn_1 l adK adV dC dI cy ad B (by omega) (by omega) qr s1  q0_ hkq0_ a1 (show 0 ≤ a1.toInt by omega) (show a1.toInt ≤ 12 by omega) v5_4 (show 0 ≤ v5_4.toInt by omega) (show v5_4.toInt ≤ 6 by omega) w1 H.size hT ) (cwV 2 hC.2.2.2.2 gX7_daysWith_X7_signOn rfl rfl rfl (by decide +kernel) ⟨Nat.le_of_ble_eq_true rfl, Nat.le_of_ble_eq_true rfl⟩) rfl hl.1 rfl (Nat.le_of_ble_eq_true rfl) dX7_daysWith_16 (fun r17 w19 H locs hp18 hw => ?_)
        obtain ⟨hT, k20, hg23⟩ := hp18
        have hF := hF.tr k20 (by decide)
        obtain ⟨g21, g22⟩ := hg23
        refine lv_iload_n hx hb dX7_daysWith_19 rfl (lv_at hl 2 rfl) ?_
        refine lv_icmp_ne (tgt := 26) hx hb dX7_daysWith_20 (by decide) (fun c24 => ?_) (fun c24 => ?_)
        · have c24 : ¬ r17.toInt = a2.toInt := wk_eqF c24
          exact J26 v5_3 H locs ls w19 (show 0 ≤ a1.toInt by omega) (show a1.toInt ≤ 12 by omega) (show 1 ≤ a2.toInt by omega) (show a2.toInt ≤ 3 by omega) (show 0 ≤ v5_4.toInt by omega) (show v5_4.toInt ≤ 6 by omega)  hw hT hF  (lv_sub hl [0, 1, 2, 3, 4] rfl)
        · have c24 : r17.toInt = a2.toInt := wk_eq.mp c24
          obtain ⟨x25, ex25⟩ : ∃ y : Int32, y = v5_3 + Int32.ofInt 1 := ⟨_, rfl⟩
          refine lv_iinc (v := x25) (lv' := [(3, .int x25), (0, .ref (ad q0_)), (1, .int a1), (2, .int a2), (4, .int v5_4)]) hx hb dX7_daysWith_23 hl (k := 3) rfl ex25.symm (by decide) rfl (fun ls hl => ?_)
          exact J26 x25 H locs ls w19 (show 0 ≤ a1.toInt by omega) (show a1.toInt ≤ 12 by omega) (show 1 ≤ a2.toInt by omega) (show a2.toInt ≤ 3 by omega) (show 0 ≤ v5_4.toInt by omega) (show v5_4.toInt ≤ 6 by omega)  hw hT hF  (lv_sub hl [1, 2, 3, 0, 4] rfl)
  refine lv_iconst (v := 0) hx hb dX7_daysWith_0 (by decide) ?_
  refine lv_istore_n (lv' := [(3, .int 0), (0, .ref (ad q0_)), (1, .int a1), (2, .int a2)]) hx hb dX7_daysWith_1 rfl hl (by decide) rfl (fun ls hl => ?_)
  refine lv_iconst (v := 0) hx hb dX7_daysWith_2 (by decide) ?_
  refine lv_istore (lv' := [(4, .int 0), (3, .int 0), (0, .ref (ad q0_)), (1, .int a1), (2, .int a2)]) hx hb dX7_daysWith_3 hl (by decide) rfl (fun ls hl => ?_)
  exact L5 ((7 - (0 : Int)).toNat + 1) 0 0 s.heap locs ls w0 (show 0 ≤ a1.toInt by omega) (show a1.toInt ≤ 12 by omega) (show 1 ≤ a2.toInt by omega) (show a2.toInt ≤ 3 by omega) (by decide) (by decide) (Nat.lt_succ_self _) hw hT hF  (lv_sub hl [2, 3, 4, 1, 0] rfl)
abbrev P_X7_commonSign_1 (ad : Nat → Nat) (cy : Nat → ClassId) (B : Int) (qr : Nat) (s1 : Int) (a1 : Int32) (w0 : va_W) : Int32 → va_W → Prop := fun r u => TW ksC ad cy B qr s1 u ∧ FE ksC ([] : List (Nat × Nat × Nat)) w0 u ∧ ((0 ≤ r.toInt ∧ r.toInt ≤ 3))
set_option maxHeartbeats 4000000 in
set_option maxRecDepth 100000 in
theorem k_X7_commonSign_1 (l : Launch) (adK adV : Nat → Nat) (dC : Nat → ClassId) (dI : Nat → Nat → Nat) (cy : Nat → ClassId) (ad : Nat → Nat) (B : Int) (hB0 : 2147483648 ≤ B) (hB1 : B ≤ 1152921504606846976) (qr : Nat) (s1 : Int)  (q0_ : Nat) (hkq0_ : ksC[q0_]? = some 7) (a1 : Int32) (ra1 : 0 ≤ a1.toInt) (ta1 : a1.toInt ≤ 12) (w0 : va_W) (sz : Nat) (hT : TW ksC ad cy B qr s1 w0)  : Met l yX7_commonSign wsX7_commonSign ({ frames := 3, cells := 0, slots := 0, locals := 58 }) (va_Pc [.ref (ad q0_), .int a1] (wpreS adK adV dC dI cy sz w0)) (va_Qi (P_X7_commonSign_1 ad cy B qr s1 a1 w0) (fun u : va_W => wpost dC dI cy (va_A w0 sz) u) (va_A w0 sz)) 0 0 (va_A w0 sz) := by
  refine Met.ofW (cc := cX7_commonSign) (maxL := 4) (ret := (some .int)) (by decide) rfl ?_
  intro p e s m args below meth c s₁ Bk hml hv
  obtain ⟨rfl, ⟨hsz, hP, hK, hD0⟩, hE, hSR⟩ := hv
  have hx := Bk.exec
  have hb := Bk.bytes
  have hr := Bk.returns
  have hlocks := Bk.notSynchronized
  have hC : CallFix p m c cX7_commonSign 4 s _ wsX7_commonSign RX7 := ⟨hx, hb, hml, findClass_of_methodNamed Bk.named, atoms_spec (ws := wsX7_commonSign) Bk.pre⟩
  subst hsz
  have hD := hD0.self (sz := s.heap.size)
  generalize hAe : va_A w0 s.heap.size = A at hD hE ⊢
  have hA : ∀ q : Nat, s.heap.size ≤ q → A q := fun q h => by rw [← hAe]; exact Or.inr h
  have hw : Wd dC dI A s.heap s.heap [] w0 := ⟨hP, hD, va_S.rf⟩
  have hF : FE ksC ([] : List (Nat × Nat × Nat)) w0 w0 := FE.rf
  have hl := lv_entry ([.ref (ad q0_), .int a1]) (n := 4) (Nat.le_of_ble_eq_true rfl)
  rw [lg_entry_eq]
  generalize (lg_sl ([.ref (ad q0_), .int a1]) ++ List.replicate (4 - (lg_sl ([.ref (ad q0_), .int a1])).length) Slot.unset).toArray = ls at hl ⊢
  have hl : lv_has ls 4 [(0, .ref (ad q0_)), (1, .int a1)] := hl
  generalize hloc : ([] : List Loc) = locs at hw ⊢
  have L4 : ∀ (n4 : Nat) (v4_2 : Int32) (v4_3 : Int32) (H : Heap) (locs : List Loc) (ls : Array Slot) (w1 : va_W), 0 ≤ a1.toInt → a1.toInt ≤ 12 → 0 ≤ v4_2.toInt → v4_2.toInt ≤ 3 → 1 ≤ v4_3.toInt → v4_3.toInt ≤ 4 → (4 - v4_3.toInt).toNat < n4 → Wd dC dI A s.heap H locs w1 → TW ksC ad cy B qr s1 w1 → FE ksC ([] : List (Nat × Nat × Nat)) w0 w1 → lv_has ls 4 [(0, .ref (ad q0_)), (1, .int a1), (2, .int v4_2), (3, .int v4_3)] → W p l e ({ frames := 3, cells := 0, slots := 0, locals := 58 }) s m (List.toArray [.ref (ad q0_), .int a1]) below meth c H locs 0 0 (MQ below (va_Qi (P_X7_commonSign_1 ad cy B qr s1 a1 w0) (fun u : va_W => wpost dC dI cy A u) A) (List.toArray [.ref (ad q0_), .int a1]) s 0 0 A) (F0 m 4 ls []) := by
    intro n4
    induction n4 with
    | zero => intro v4_2 v4_3 H locs ls w1 r2 t3 r4 t5 r6 t7 hm4 hw hT hF hl; omega
    | succ n4 ih4 =>
      intro v4_2 v4_3 H locs ls w1 r2 t3 r4 t5 r6 t7 hm4 hw hT hF hl
      have J26 : ∀ (v26_2 : Int32) (H : Heap) (locs : List Loc) (ls : Array Slot) (w8 : va_W), 0 ≤ a1.toInt → a1.toInt ≤ 12 → 0 ≤ v26_2.toInt → v26_2.toInt ≤ 3 → 1 ≤ v4_3.toInt → v4_3.toInt ≤ 3 → Wd dC dI A s.heap H locs w8 → TW ksC ad cy B qr s1 w8 → FE ksC ([] : List (Nat × Nat × Nat)) w0 w8 → lv_has ls 4 [(0, .ref (ad q0_)), (1, .int a1), (2, .int v26_2), (3, .int v4_3)] → W p l e ({ frames := 3, cells := 0, slots := 0, locals := 58 }) s m (List.toArray [.ref (ad q0_), .int a1]) below meth c H locs 0 0 (MQ below (va_Qi (P_X7_commonSign_1 ad cy B qr s1 a1 w0) (fun u : va_W => wpost dC dI cy A u) A) (List.toArray [.ref (ad q0_), .int a1]) s 0 0 A) (F0 m 26 ls []) := by
        intro v26_2 H locs ls w8 r9 t10 r11 t12 r13 t14 hw hT hF hl
        obtain ⟨x15, ex15⟩ : ∃ y : Int32, y = v4_3 + Int32.ofInt 1 := ⟨_, rfl⟩
        refine lv_iinc (v := x15) (lv' := [(3, .int x15), (0, .ref (ad q0_)), (1, .int a1), (2, .int v26_2)]) hx hb dX7_commonSign_26 hl (k := 3) rfl ex15.symm (by decide) rfl (fun ls hl => ?_)
        have ex15 : x15.toInt = v4_3.toInt + 1 := by rw [ex15]; exact wk_add (y := 1) (show -2147483648 ≤ v4_3.toInt + 1 by omega) (show v4_3.toInt + 1 ≤ 2147483647 by omega)
        refine lv_goto (tgt := 4) hx hb dX7_commonSign_29 (by decide) ?_
        exact ih4 v26_2 x15 H locs ls w8 (show 0 ≤ a1.toInt by omega) (show a1.toInt ≤ 12 by omega) (show 0 ≤ v26_2.toInt by omega) (show v26_2.toInt ≤ 3 by omega) (show 1 ≤ x15.toInt by omega) (show x15.toInt ≤ 4 by omega) (show (4 - x15.toInt).toNat < n4 by omega) hw hT hF  (lv_sub hl [1, 2, 3, 0] rfl)
      refine lv_iload_n hx hb dX7_commonSign_4 rfl (lv_at hl 3 rfl) ?_
      refine lv_iconst (v := 3) hx hb dX7_commonSign_5 (by decide) ?_
      refine lv_icmp_gt (tgt := 32) hx hb dX7_commonSign_6 (by decide) (fun c16 => ?_) (fun c16 => ?_)
      · have c16 : (3 : Int) < v4_3.toInt := wk_lt.mp c16
        refine lv_iload_n hx hb dX7_commonSign_32 rfl (lv_at hl 2 rfl) ?_
        exact tk_iret hC hr hlocks hK ⟨hT, hF, ⟨(show 0 ≤ v4_2.toInt by omega), (show v4_2.toInt ≤ 3 by omega)⟩⟩ hw dX7_commonSign_33
      · have c16 : v4_3.toInt ≤ (3 : Int) := wk_ltF c16
        refine lv_aload_n hx hb dX7_commonSign_9 rfl (lv_at hl 0 rfl) ?_
        refine lv_iload_n hx hb dX7_commonSign_10 rfl (lv_at hl 1 rfl) ?_
        refine lv_iload_n hx hb dX7_commonSign_11 rfl (lv_at hl 3 rfl) ?_
        refine tk_Vi hC hK hw hT hA hE hSR hkq0_ (by decide) rfl (k_X7_daysWith_2 l adK adV dC dI cy ad B (by omega) (by omega) qr s1  q0_ hkq0_ a1 (show 0 ≤ a1.toInt by omega) (show a1.toInt ≤ 12 by omega) v4_3 (show 1 ≤ v4_3.toInt by omega) (show v4_3.toInt ≤ 3 by omega) w1 H.size hT ) (cwV 2 hC.2.2.2.2 gX7_commonSign_X7_daysWith rfl rfl rfl (by decide +kernel) ⟨Nat.le_of_ble_eq_true rfl, Nat.le_of_ble_eq_true rfl⟩) rfl hl.1 rfl (Nat.le_of_ble_eq_true rfl) dX7_commonSign_12 (fun r17 w19 H locs hp18 hw => ?_)
        obtain ⟨hT, k20, hg21⟩ := hp18
        have hF := hF.tr k20 (by decide)
        clear hg21
        refine lv_aload_n hx hb dX7_commonSign_15 rfl (lv_at hl 0 rfl) ?_
        refine lv_iload_n hx hb dX7_commonSign_16 rfl (lv_at hl 1 rfl) ?_
        refine lv_iload_n hx hb dX7_commonSign_17 rfl (lv_at hl 2 rfl) ?_
        refine tk_Vi hC hK hw hT hA hE hSR hkq0_ (by decide) rfl (k_X7_daysWith_1 l adK adV dC dI cy ad B (by omega) (by omega) qr s1  q0_ hkq0_ a1 (show 0 ≤ a1.toInt by omega) (show a1.toInt ≤ 12 by omega) v4_2 (show 0 ≤ v4_2.toInt by omega) (show v4_2.toInt ≤ 3 by omega) w19 H.size hT ) (cwV 2 hC.2.2.2.2 gX7_commonSign_X7_daysWith rfl rfl rfl (by decide +kernel) ⟨Nat.le_of_ble_eq_true rfl, Nat.le_of_ble_eq_true rfl⟩) rfl hl.1 rfl (Nat.le_of_ble_eq_true rfl) dX7_commonSign_18 (fun r22 w24 H locs hp23 hw => ?_)
        obtain ⟨hT, k25, hg26⟩ := hp23
        have hF := hF.tr k25 (by decide)
        clear hg26
        refine lv_icmp_le (tgt := 26) hx hb dX7_commonSign_21 (by decide) (fun c27 => ?_) (fun c27 => ?_)
        · have c27 : r17.toInt ≤ r22.toInt := wk_le.mp c27
          exact J26 v4_2 H locs ls w24 (show 0 ≤ a1.toInt by omega) (show a1.toInt ≤ 12 by omega) (show 0 ≤ v4_2.toInt by omega) (show v4_2.toInt ≤ 3 by omega) (show 1 ≤ v4_3.toInt by omega) (show v4_3.toInt ≤ 3 by omega)  hw hT hF  (lv_sub hl [0, 1, 2, 3] rfl)
        · have c27 : r22.toInt < r17.toInt := wk_leF c27
          refine lv_iload_n hx hb dX7_commonSign_24 rfl (lv_at hl 3 rfl) ?_
          refine lv_istore_n (lv' := [(2, .int v4_3), (0, .ref (ad q0_)), (1, .int a1), (3, .int v4_3)]) hx hb dX7_commonSign_25 rfl hl (by decide) rfl (fun ls hl => ?_)
          exact J26 v4_3 H locs ls w24 (show 0 ≤ a1.toInt by omega) (show a1.toInt ≤ 12 by omega) (show 0 ≤ v4_3.toInt by omega) (show v4_3.toInt ≤ 3 by omega) (show 1 ≤ v4_3.toInt by omega) (show v4_3.toInt ≤ 3 by omega)  hw hT hF  (lv_sub hl [1, 2, 0, 3] rfl)
  refine lv_iconst (v := 0) hx hb dX7_commonSign_0 (by decide) ?_
  refine lv_istore_n (lv' := [(2, .int 0), (0, .ref (ad q0_)), (1, .int a1)]) hx hb dX7_commonSign_1 rfl hl (by decide) rfl (fun ls hl => ?_)
  refine lv_iconst (v := 1) hx hb dX7_commonSign_2 (by decide) ?_
  refine lv_istore_n (lv' := [(3, .int 1), (2, .int 0), (0, .ref (ad q0_)), (1, .int a1)]) hx hb dX7_commonSign_3 rfl hl (by decide) rfl (fun ls hl => ?_)
  exact L4 ((4 - (1 : Int)).toNat + 1) 0 1 s.heap locs ls w0 (show 0 ≤ a1.toInt by omega) (show a1.toInt ≤ 12 by omega) (by decide) (by decide) (by decide) (by decide) (Nat.lt_succ_self _) hw hT hF  (lv_sub hl [2, 3, 1, 0] rfl)
