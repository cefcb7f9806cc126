abbrev P_X7_readClause_4 (ad : Nat → Nat) (cy : Nat → ClassId) (B : Int) (qr : Nat) (s1 : Int) (a2 : Int32) (w0 : va_W) : va_W → Prop := fun u => TW ksC ad cy B qr s1 u ∧ FE ksC [(6, 1, 1), (6, 3, 3), (6, 4, 4), (7, 11, 11), (27, 0, 13)] w0 u ∧ (((∃ y : Int32, gi u 1 4 = y ∧ 1 ≤ y.toInt ∧ y.toInt ≤ 3205) ∧ (∃ y : Int32, gi u 29 11 = y ∧ 0 ≤ y.toInt ∧ y.toInt ≤ 3)) ∨ ((∃ y : Int32, gi u 1 4 = y ∧ 0 ≤ y.toInt ∧ y.toInt ≤ 3205) ∧ (∃ y : Int32, gi u 29 9 = y ∧ 0 ≤ y.toInt ∧ y.toInt ≤ 12) ∧ (∃ y : Int32, gi u 29 11 = y ∧ 0 ≤ y.toInt ∧ y.toInt ≤ 4)))
set_option maxHeartbeats 4000000 in
set_option maxRecDepth 100000 in
theorem k_X7_readClause_4 (l : Launch) (adK adV : Nat → Nat) (dC : Nat → ClassId) (dI : Nat → Nat → Nat) (cy : Nat → ClassId) (ad : Nat → Nat) (B : Int) (hB0 : 2147483648 ≤ B) (hB1 : B ≤ 1152921504606846976) (qr : Nat) (s1 : Int)  (a2 : Int32) (ra2 : 3 ≤ a2.toInt) (ta2 : a2.toInt ≤ 26) (w0 : va_W) (sz : Nat) (hT : TW ksC ad cy B qr s1 w0) (f0_ : Int32) (cf0_ : gi w0 29 11 = f0_) (rf0_ : 0 ≤ f0_.toInt) (tf0_ : f0_.toInt ≤ 3) : Met l yX7_readClause wsX7_readClause ({ frames := 4, cells := 0, slots := 0, locals := 81 }) (va_Pc [.ref (ad 29), .ref (ad 1), .int a2] (wpreS adK adV dC dI cy sz w0)) (va_Qv (P_X7_readClause_4 ad cy B qr s1 a2 w0) (fun u : va_W => wpost dC dI cy (va_A w0 sz) u) (va_A w0 sz)) 0 0 (va_A w0 sz) := by
  refine Met.ofW (cc := cX7_readClause) (maxL := 3) (ret := none) (by decide) rfl ?_
  intro p e s m args below meth c s₁ Bk hml hv
  obtain ⟨rfl, ⟨hsz, hP, hK, hD0⟩, hE, hSR⟩ := hv
  have hx := Bk.exec
  have hb := Bk.bytes
  have hr := Bk.returns
  have hlocks := Bk.notSynchronized
  have hC : CallFix p m c cX7_readClause 3 s _ wsX7_readClause RX7 := ⟨hx, hb, hml, findClass_of_methodNamed Bk.named, atoms_spec (ws := wsX7_readClause) Bk.pre⟩
  subst hsz
  have hD := hD0.self (sz := s.heap.size)
  generalize hAe : va_A w0 s.heap.size = A at hD hE ⊢
  have hA : ∀ q : Nat, s.heap.size ≤ q → A q := fun q h => by rw [← hAe]; exact Or.inr h
  have hw : Wd dC dI A s.heap s.heap [] w0 := ⟨hP, hD, va_S.rf⟩
  have hF : FE ksC [(6, 1, 1), (6, 3, 3), (6, 4, 4), (7, 11, 11), (27, 0, 13)] w0 w0 := FE.rf
  have hl := lv_entry ([.ref (ad 29), .ref (ad 1), .int a2]) (n := 3) (Nat.le_of_ble_eq_true rfl)
  rw [lg_entry_eq]
  generalize (lg_sl ([.ref (ad 29), .ref (ad 1), .int a2]) ++ List.replicate (3 - (lg_sl ([.ref (ad 29), .ref (ad 1), .int a2])).length) Slot.unset).toArray = ls at hl ⊢
  have hl : lv_has ls 3 [(0, .ref (ad 29)), (1, .ref (ad 1)), (2, .int a2)] := hl
  generalize hloc : ([] : List Loc) = locs at hw ⊢
  have J57 : ∀ (f57_1_4 : Int32) (f57_29_11 : Int32) (f57_29_9 : Int32) (H : Heap) (locs : List Loc) (ls : Array Slot) (w1 : va_W), 3 ≤ a2.toInt → a2.toInt ≤ 26 → 0 ≤ f57_1_4.toInt → f57_1_4.toInt ≤ 3205 → 0 ≤ f57_29_11.toInt → f57_29_11.toInt ≤ 4 → 0 ≤ f57_29_9.toInt → f57_29_9.toInt ≤ 12 → Wd dC dI A s.heap H locs w1 → TW ksC ad cy B qr s1 w1 → FE ksC [(6, 1, 1), (6, 3, 3), (6, 4, 4), (7, 11, 11), (27, 0, 13)] w0 w1 → gi w1 1 4 = f57_1_4 → gi w1 29 11 = f57_29_11 → gi w1 29 9 = f57_29_9 → lv_has ls 3 [(0, .ref (ad 29)), (1, .ref (ad 1)), (2, .int a2)] → W p l e ({ frames := 4, cells := 0, slots := 0, locals := 81 }) s m (List.toArray [.ref (ad 29), .ref (ad 1), .int a2]) below meth c H locs 0 0 (MQ below (va_Qv (P_X7_readClause_4 ad cy B qr s1 a2 w0) (fun u : va_W => wpost dC dI cy A u) A) (List.toArray [.ref (ad 29), .ref (ad 1), .int a2]) s 0 0 A) (F0 m 57 ls []) := by
    intro f57_1_4 f57_29_11 f57_29_9 H locs ls w1 r2 t3 r4 t5 r7 t8 r10 t11 hw hT hF c6 c9 c12 hl
    exact tk_vret hC hr hlocks hK ⟨hT, hF, (Or.inr ⟨⟨f57_1_4, c6, (show 0 ≤ f57_1_4.toInt by omega), (show f57_1_4.toInt ≤ 3205 by omega)⟩, ⟨f57_29_9, c12, (show 0 ≤ f57_29_9.toInt by omega), (show f57_29_9.toInt ≤ 12 by omega)⟩, ⟨f57_29_11, c9, (show 0 ≤ f57_29_11.toInt by omega), (show f57_29_11.toInt ≤ 4 by omega)⟩⟩)⟩ hw dX7_readClause_57
  refine lv_aload_n hx hb dX7_readClause_0 rfl (lv_at hl 1 rfl) ?_
  refine tk_Vi hC hK hw hT hA hE hSR kC_at1 (by decide) rfl (k_X6_isFaulty_1 l adK adV dC dI cy ad B (by omega) (by omega) qr s1    w0 s.heap.size hT ) (cwV 0 hC.2.2.2.2 gX7_readClause_X6_isFaulty rfl rfl rfl (by decide +kernel) ⟨Nat.le_of_ble_eq_true rfl, Nat.le_of_ble_eq_true rfl⟩) rfl hl.1 rfl (Nat.le_of_ble_eq_true rfl) dX7_readClause_1 (fun r13 w15 H locs hp14 hw => ?_)
  obtain ⟨hT, k16, hg21⟩ := hp14
  have hF := hF.tr k16 (by decide)
  have c22 := k16.gi kC_at29 (by decide) cf0_
  rcases hg21 with ⟨rfl, ⟨x17, c18, rx17, tx17⟩⟩ | ⟨rfl, ⟨x19, c20, rx19, tx19⟩⟩
  · refine lv_if_eq (tgt := 8) hx hb dX7_readClause_4 (by decide) (fun _ => ?_) (fun c => absurd (by decide) c)
    refine lv_iload_n hx hb dX7_readClause_8 rfl (lv_at hl 2 rfl) ?_
    refine lv_if_ne (tgt := 26) hx hb dX7_readClause_9 (by decide) (fun _ => ?_) (fun c => absurd (show a2.toInt = (0 : Int) from wk_eq.mp c) (by omega))
    refine lv_iload_n hx hb dX7_readClause_26 rfl (lv_at hl 2 rfl) ?_
    refine lv_iconst (v := 1) hx hb dX7_readClause_27 (by decide) ?_
    refine lv_icmp_ne (tgt := 39) hx hb dX7_readClause_28 (by decide) (fun _ => ?_) (fun c => absurd (show a2.toInt = (1 : Int) from wk_eq.mp c) (by omega))
    refine lv_iload_n hx hb dX7_readClause_39 rfl (lv_at hl 2 rfl) ?_
    refine lv_iconst (v := 2) hx hb dX7_readClause_40 (by decide) ?_
    refine lv_icmp_ne (tgt := 52) hx hb dX7_readClause_41 (by decide) (fun _ => ?_) (fun c => absurd (show a2.toInt = (2 : Int) from wk_eq.mp c) (by omega))
    refine lv_aload_n hx hb dX7_readClause_52 rfl (lv_at hl 0 rfl) ?_
    refine lv_aload_n hx hb dX7_readClause_53 rfl (lv_at hl 1 rfl) ?_
    refine tk_Vv hC hK hw hT hA hE hSR kC_at29 (by decide) rfl (k_X7_readLift_1 l adK adV dC dI cy ad B (by omega) (by omega) qr s1    w15 H.size hT (c18.trans (wk_eq.mpr (show x17.toInt = 0 by omega))) f0_ c22 (show 0 ≤ f0_.toInt by omega) (show f0_.toInt ≤ 3 by omega)) (cwV 1 hC.2.2.2.2 gX7_readClause_X7_readLift rfl rfl rfl (by decide +kernel) ⟨Nat.le_of_ble_eq_true rfl, Nat.le_of_ble_eq_true rfl⟩) rfl hl.1 rfl (Nat.le_of_ble_eq_true rfl) dX7_readClause_54 (fun w25 H locs hp24 hw => ?_)
    obtain ⟨hT, k26, hg43⟩ := hp24
    have hF := hF.tr k26 (by decide)
    rcases hg43 with ⟨⟨x27, c28, rx27, tx27⟩, ⟨x29, c30, rx29, tx29⟩, ⟨x31, c32, rx31, tx31⟩⟩ | ⟨⟨x33, c34, rx33, tx33⟩, ⟨x35, c36, rx35, tx35⟩, ⟨x37, c38, rx37, tx37⟩, ⟨x39, c40, rx39, tx39⟩, ⟨x41, c42, rx41, tx41⟩⟩
    · exact J57 x27 x31 x29 H locs ls w25 (show 3 ≤ a2.toInt by omega) (show a2.toInt ≤ 26 by omega) (show 0 ≤ x27.toInt by omega) (show x27.toInt ≤ 3205 by omega) (show 0 ≤ x31.toInt by omega) (show x31.toInt ≤ 4 by omega) (show 0 ≤ x29.toInt by omega) (show x29.toInt ≤ 12 by omega)  hw hT hF c28 c32 c30 (lv_sub hl [0, 1, 2] rfl)
    · exact J57 x37 x41 x39 H locs ls w25 (show 3 ≤ a2.toInt by omega) (show a2.toInt ≤ 26 by omega) (show 0 ≤ x37.toInt by omega) (show x37.toInt ≤ 3205 by omega) (show 0 ≤ x41.toInt by omega) (show x41.toInt ≤ 4 by omega) (show 0 ≤ x39.toInt by omega) (show x39.toInt ≤ 12 by omega)  hw hT hF c38 c42 c40 (lv_sub hl [0, 1, 2] rfl)
  · refine lv_if_eq (tgt := 8) hx hb dX7_readClause_4 (by decide) (fun c => absurd c (by decide)) (fun _ => ?_)
    exact tk_vret hC hr hlocks hK ⟨hT, hF, (Or.inl ⟨⟨x19, c20, (show 1 ≤ x19.toInt by omega), (show x19.toInt ≤ 3205 by omega)⟩, ⟨f0_, c22, (show 0 ≤ f0_.toInt by omega), (show f0_.toInt ≤ 3 by omega)⟩⟩)⟩ hw dX7_readClause_7
abbrev P_X7_readClause_5 (ad : Nat → Nat) (cy : Nat → ClassId) (B : Int) (qr : Nat) (s1 : Int) (a2 : Int32) (w0 : va_W) : va_W → Prop := fun u => TW ksC ad cy B qr s1 u ∧ FE ksC ([] : List (Nat × Nat × Nat)) w0 u ∧ (((∃ y : Int32, gi u 1 4 = y ∧ 1 ≤ y.toInt ∧ y.toInt ≤ 3205)))
set_option maxHeartbeats 4000000 in
set_option maxRecDepth 100000 in
theorem k_X7_readClause_5 (l : Launch) (adK adV : Nat → Nat) (dC : Nat → ClassId) (dI : Nat → Nat → Nat) (cy : Nat → ClassId) (ad : Nat → Nat) (B : Int) (hB0 : 2147483648 ≤ B) (hB1 : B ≤ 1152921504606846976) (qr : Nat) (s1 : Int)  (a2 : Int32) (ra2 : 0 ≤ a2.toInt) (ta2 : a2.toInt ≤ 26) (w0 : va_W) (sz : Nat) (hT : TW ksC ad cy B qr s1 w0) (f0_ : Int32) (cf0_ : gi w0 1 4 = f0_) (rf0_ : 1 ≤ f0_.toInt) (tf0_ : f0_.toInt ≤ 3205) : Met l yX7_readClause wsX7_readClause ({ frames := 2, cells := 0, slots := 0, locals := 32 }) (va_Pc [.ref (ad 29), .ref (ad 1), .int a2] (wpreS adK adV dC dI cy sz w0)) (va_Qv (P_X7_readClause_5 ad cy B qr s1 a2 w0) (fun u : va_W => wpost dC dI cy (va_A w0 sz) u) (va_A w0 sz)) 0 0 (va_A w0 sz) := by
  refine Met.ofW (cc := cX7_readClause) (maxL := 3) (ret := none) (by decide) rfl ?_
  intro p e s m args below meth c s₁ Bk hml hv
  obtain ⟨rfl, ⟨hsz, hP, hK, hD0⟩, hE, hSR⟩ := hv
  have hx := Bk.exec
  have hb := Bk.bytes
  have hr := Bk.returns
  have hlocks := Bk.notSynchronized
  have hC : CallFix p m c cX7_readClause 3 s _ wsX7_readClause RX7 := ⟨hx, hb, hml, findClass_of_methodNamed Bk.named, atoms_spec (ws := wsX7_readClause) Bk.pre⟩
  subst hsz
  have hD := hD0.self (sz := s.heap.size)
  generalize hAe : va_A w0 s.heap.size = A at hD hE ⊢
  have hA : ∀ q : Nat, s.heap.size ≤ q → A q := fun q h => by rw [← hAe]; exact Or.inr h
  have hw : Wd dC dI A s.heap s.heap [] w0 := ⟨hP, hD, va_S.rf⟩
  have hF : FE ksC ([] : List (Nat × Nat × Nat)) w0 w0 := FE.rf
  have hl := lv_entry ([.ref (ad 29), .ref (ad 1), .int a2]) (n := 3) (Nat.le_of_ble_eq_true rfl)
  rw [lg_entry_eq]
  generalize (lg_sl ([.ref (ad 29), .ref (ad 1), .int a2]) ++ List.replicate (3 - (lg_sl ([.ref (ad 29), .ref (ad 1), .int a2])).length) Slot.unset).toArray = ls at hl ⊢
  have hl : lv_has ls 3 [(0, .ref (ad 29)), (1, .ref (ad 1)), (2, .int a2)] := hl
  generalize hloc : ([] : List Loc) = locs at hw ⊢
  refine lv_aload_n hx hb dX7_readClause_0 rfl (lv_at hl 1 rfl) ?_
  refine tk_Vi hC hK hw hT hA hE hSR kC_at1 (by decide) rfl (k_X6_isFaulty_3 l adK adV dC dI cy ad B (by omega) (by omega) qr s1    w0 s.heap.size hT f0_ cf0_ (show 1 ≤ f0_.toInt by omega) (show f0_.toInt ≤ 3205 by omega)) (cwV 0 hC.2.2.2.2 gX7_readClause_X6_isFaulty rfl rfl rfl (by decide +kernel) ⟨Nat.le_of_ble_eq_true rfl, Nat.le_of_ble_eq_true rfl⟩) rfl hl.1 rfl (Nat.le_of_ble_eq_true rfl) dX7_readClause_1 (fun r1 w3 H locs hp2 hw => ?_)
  obtain ⟨hT, k4, hg7⟩ := hp2
  have hF := hF.tr k4 (by decide)
  have c8 := k4.gi kC_at1 (by decide) cf0_
  obtain ⟨rfl, ⟨x5, c6, rx5, tx5⟩⟩ := hg7
  have ex5 : x5.toInt = f0_.toInt := by rw [← c8.symm.trans c6]
  refine lv_if_eq (tgt := 8) hx hb dX7_readClause_4 (by decide) (fun c => absurd c (by decide)) (fun _ => ?_)
  exact tk_vret hC hr hlocks hK ⟨hT, hF, ⟨f0_, c8, (show 1 ≤ f0_.toInt by omega), (show f0_.toInt ≤ 3205 by omega)⟩⟩ hw dX7_readClause_7
abbrev P_X7_readClause_6 (ad : Nat → Nat) (cy : Nat → ClassId) (B : Int) (qr : Nat) (s1 : Int)  (w0 : va_W) : va_W → Prop := fun u => TW ksC ad cy B qr s1 u ∧ FE ksC ([] : List (Nat × Nat × Nat)) w0 u ∧ (((∃ y : Int32, gi u 1 4 = y ∧ 1 ≤ y.toInt ∧ y.toInt ≤ 3205) ∧ (∃ y : Int32, gi u 29 9 = y ∧ 12 ≤ y.toInt ∧ y.toInt ≤ 12)))
set_option maxHeartbeats 4000000 in
set_option maxRecDepth 100000 in
theorem k_X7_readClause_6 (l : Launch) (adK adV : Nat → Nat) (dC : Nat → ClassId) (dI : Nat → Nat → Nat) (cy : Nat → ClassId) (ad : Nat → Nat) (B : Int) (hB0 : 2147483648 ≤ B) (hB1 : B ≤ 1152921504606846976) (qr : Nat) (s1 : Int)   (w0 : va_W) (sz : Nat) (hT : TW ksC ad cy B qr s1 w0) (f0_ : Int32) (cf0_ : gi w0 1 4 = f0_) (rf0_ : 1 ≤ f0_.toInt) (tf0_ : f0_.toInt ≤ 3205) (cf1_ : gi w0 29 9 = 12) : Met l yX7_readClause wsX7_readClause ({ frames := 2, cells := 0, slots := 0, locals := 32 }) (va_Pc [.ref (ad 29), .ref (ad 1), .int 1] (wpreS adK adV dC dI cy sz w0)) (va_Qv (P_X7_readClause_6 ad cy B qr s1  w0) (fun u : va_W => wpost dC dI cy (va_A w0 sz) u) (va_A w0 sz)) 0 0 (va_A w0 sz) := by
  refine Met.ofW (cc := cX7_readClause) (maxL := 3) (ret := none) (by decide) rfl ?_
  intro p e s m args below meth c s₁ Bk hml hv
  obtain ⟨rfl, ⟨hsz, hP, hK, hD0⟩, hE, hSR⟩ := hv
  have hx := Bk.exec
  have hb := Bk.bytes
  have hr := Bk.returns
  have hlocks := Bk.notSynchronized
  have hC : CallFix p m c cX7_readClause 3 s _ wsX7_readClause RX7 := ⟨hx, hb, hml, findClass_of_methodNamed Bk.named, atoms_spec (ws := wsX7_readClause) Bk.pre⟩
  subst hsz
  have hD := hD0.self (sz := s.heap.size)
  generalize hAe : va_A w0 s.heap.size = A at hD hE ⊢
  have hA : ∀ q : Nat, s.heap.size ≤ q → A q := fun q h => by rw [← hAe]; exact Or.inr h
  have hw : Wd dC dI A s.heap s.heap [] w0 := ⟨hP, hD, va_S.rf⟩
  have hF : FE ksC ([] : List (Nat × Nat × Nat)) w0 w0 := FE.rf
  have hl := lv_entry ([.ref (ad 29), .ref (ad 1), .int 1]) (n := 3) (Nat.le_of_ble_eq_true rfl)
  rw [lg_entry_eq]
  generalize (lg_sl ([.ref (ad 29), .ref (ad 1), .int 1]) ++ List.replicate (3 - (lg_sl ([.ref (ad 29), .ref (ad 1), .int 1])).length) Slot.unset).toArray = ls at hl ⊢
  have hl : lv_has ls 3 [(0, .ref (ad 29)), (1, .ref (ad 1)), (2, .int 1)] := hl
  generalize hloc : ([] : List Loc) = locs at hw ⊢
  refine lv_aload_n hx hb dX7_readClause_0 rfl (lv_at hl 1 rfl) ?_
  refine tk_Vi hC hK hw hT hA hE hSR kC_at1 (by decide) rfl (k_X6_isFaulty_3 l adK adV dC dI cy ad B (by omega) (by omega) qr s1    w0 s.heap.size hT f0_ cf0_ (show 1 ≤ f0_.toInt by omega) (show f0_.toInt ≤ 3205 by omega)) (cwV 0 hC.2.2.2.2 gX7_readClause_X6_isFaulty rfl rfl rfl (by decide +kernel) ⟨Nat.le_of_ble_eq_true rfl, Nat.le_of_ble_eq_true rfl⟩) rfl hl.1 rfl (Nat.le_of_ble_eq_true rfl) dX7_readClause_1 (fun r1 w3 H locs hp2 hw => ?_)
  obtain ⟨hT, k4, hg7⟩ := hp2
  have hF := hF.tr k4 (by decide)
  have c8 := k4.gi kC_at1 (by decide) cf0_
  have c9 := k4.gi kC_at29 (by decide) cf1_
  obtain ⟨rfl, ⟨x5, c6, rx5, tx5⟩⟩ := hg7
  have ex5 : x5.toInt = f0_.toInt := by rw [← c8.symm.trans c6]
  refine lv_if_eq (tgt := 8) hx hb dX7_readClause_4 (by decide) (fun c => absurd c (by decide)) (fun _ => ?_)
  exact tk_vret hC hr hlocks hK ⟨hT, hF, ⟨⟨f0_, c8, (show 1 ≤ f0_.toInt by omega), (show f0_.toInt ≤ 3205 by omega)⟩, ⟨12, c9, (by decide), (by decide)⟩⟩⟩ hw dX7_readClause_7
abbrev P_X7_readClause_7 (ad : Nat → Nat) (cy : Nat → ClassId) (B : Int) (qr : Nat) (s1 : Int)  (w0 : va_W) : va_W → Prop := fun u => TW ksC ad cy B qr s1 u ∧ FE ksC ([] : List (Nat × Nat × Nat)) w0 u ∧ (((∃ y : Int32, gi u 1 4 = y ∧ 1 ≤ y.toInt ∧ y.toInt ≤ 3205) ∧ (∃ y : Int32, gi u 29 10 = y ∧ 8 ≤ y.toInt ∧ y.toInt ≤ 8)))
set_option maxHeartbeats 4000000 in
set_option maxRecDepth 100000 in
theorem k_X7_readClause_7 (l : Launch) (adK adV : Nat → Nat) (dC : Nat → ClassId) (dI : Nat → Nat → Nat) (cy : Nat → ClassId) (ad : Nat → Nat) (B : Int) (hB0 : 2147483648 ≤ B) (hB1 : B ≤ 1152921504606846976) (qr : Nat) (s1 : Int)   (w0 : va_W) (sz : Nat) (hT : TW ksC ad cy B qr s1 w0) (f0_ : Int32) (cf0_ : gi w0 1 4 = f0_) (rf0_ : 1 ≤ f0_.toInt) (tf0_ : f0_.toInt ≤ 3205) (cf1_ : gi w0 29 10 = 8) : Met l yX7_readClause wsX7_readClause ({ frames := 2, cells := 0, slots := 0, locals := 32 }) (va_Pc [.ref (ad 29), .ref (ad 1), .int 2] (wpreS adK adV dC dI cy sz w0)) (va_Qv (P_X7_readClause_7 ad cy B qr s1  w0) (fun u : va_W => wpost dC dI cy (va_A w0 sz) u) (va_A w0 sz)) 0 0 (va_A w0 sz) := by
  refine Met.ofW (cc := cX7_readClause) (maxL := 3) (ret := none) (by decide) rfl ?_
  intro p e s m args below meth c s₁ Bk hml hv
  obtain ⟨rfl, ⟨hsz, hP, hK, hD0⟩, hE, hSR⟩ := hv
  have hx := Bk.exec
  have hb := Bk.bytes
  have hr := Bk.returns
  have hlocks := Bk.notSynchronized
  have hC : CallFix p m c cX7_readClause 3 s _ wsX7_readClause RX7 := ⟨hx, hb, hml, findClass_of_methodNamed Bk.named, atoms_spec (ws := wsX7_readClause) Bk.pre⟩
  subst hsz
  have hD := hD0.self (sz := s.heap.size)
  generalize hAe : va_A w0 s.heap.size = A at hD hE ⊢
  have hA : ∀ q : Nat, s.heap.size ≤ q → A q := fun q h => by rw [← hAe]; exact Or.inr h
  have hw : Wd dC dI A s.heap s.heap [] w0 := ⟨hP, hD, va_S.rf⟩
  have hF : FE ksC ([] : List (Nat × Nat × Nat)) w0 w0 := FE.rf
  have hl := lv_entry ([.ref (ad 29), .ref (ad 1), .int 2]) (n := 3) (Nat.le_of_ble_eq_true rfl)
  rw [lg_entry_eq]
  generalize (lg_sl ([.ref (ad 29), .ref (ad 1), .int 2]) ++ List.replicate (3 - (lg_sl ([.ref (ad 29), .ref (ad 1), .int 2])).length) Slot.unset).toArray = ls at hl ⊢
  have hl : lv_has ls 3 [(0, .ref (ad 29)), (1, .ref (ad 1)), (2, .int 2)] := hl
  generalize hloc : ([] : List Loc) = locs at hw ⊢
  refine lv_aload_n hx hb dX7_readClause_0 rfl (lv_at hl 1 rfl) ?_
  refine tk_Vi hC hK hw hT hA hE hSR kC_at1 (by decide) rfl (k_X6_isFaulty_3 l adK adV dC dI cy ad B (by omega) (by omega) qr s1    w0 s.heap.size hT f0_ cf0_ (show 1 ≤ f0_.toInt by omega) (show f0_.toInt ≤ 3205 by omega)) (cwV 0 hC.2.2.2.2 gX7_readClause_X6_isFaulty rfl rfl rfl (by decide +kernel) ⟨Nat.le_of_ble_eq_true rfl, Nat.le_of_ble_eq_true rfl⟩) rfl hl.1 rfl (Nat.le_of_ble_eq_true rfl) dX7_readClause_1 (fun r1 w3 H locs hp2 hw => ?_)
  obtain ⟨hT, k4, hg7⟩ := hp2
  have hF := hF.tr k4 (by decide)
  have c8 := k4.gi kC_at1 (by decide) cf0_
  have c9 := k4.gi kC_at29 (by decide) cf1_
  obtain ⟨rfl, ⟨x5, c6, rx5, tx5⟩⟩ := hg7
  have ex5 : x5.toInt = f0_.toInt := by rw [← c8.symm.trans c6]
  refine lv_if_eq (tgt := 8) hx hb dX7_readClause_4 (by decide) (fun c => absurd c (by decide)) (fun _ => ?_)
  exact tk_vret hC hr hlocks hK ⟨hT, hF, ⟨⟨f0_, c8, (show 1 ≤ f0_.toInt by omega), (show f0_.toInt ≤ 3205 by omega)⟩, ⟨8, c9, (by decide), (by decide)⟩⟩⟩ hw dX7_readClause_7
abbrev P_X7_readClause_8 (ad : Nat → Nat) (cy : Nat → ClassId) (B : Int) (qr : Nat) (s1 : Int) (a2 : Int32) (w0 : va_W) : va_W → Prop := fun u => TW ksC ad cy B qr s1 u ∧ FE ksC ([] : List (Nat × Nat × Nat)) w0 u ∧ (((∃ y : Int32, gi u 1 4 = y ∧ 1 ≤ y.toInt ∧ y.toInt ≤ 3205) ∧ (∃ y : Int32, gi u 29 11 = y ∧ 4 ≤ y.toInt ∧ y.toInt ≤ 4)))
set_option maxHeartbeats 4000000 in
set_option maxRecDepth 100000 in
theorem k_X7_readClause_8 (l : Launch) (adK adV : Nat → Nat) (dC : Nat → ClassId) (dI : Nat → Nat → Nat) (cy : Nat → ClassId) (ad : Nat → Nat) (B : Int) (hB0 : 2147483648 ≤ B) (hB1 : B ≤ 1152921504606846976) (qr : Nat) (s1 : Int)  (a2 : Int32) (ra2 : 3 ≤ a2.toInt) (ta2 : a2.toInt ≤ 26) (w0 : va_W) (sz : Nat) (hT : TW ksC ad cy B qr s1 w0) (f0_ : Int32) (cf0_ : gi w0 1 4 = f0_) (rf0_ : 1 ≤ f0_.toInt) (tf0_ : f0_.toInt ≤ 3205) (cf1_ : gi w0 29 11 = 4) : Met l yX7_readClause wsX7_readClause ({ frames := 2, cells := 0, slots := 0, locals := 32 }) (va_Pc [.ref (ad 29), .ref (ad 1), .int a2] (wpreS adK adV dC dI cy sz w0)) (va_Qv (P_X7_readClause_8 ad cy B qr s1 a2 w0) (fun u : va_W => wpost dC dI cy (va_A w0 sz) u) (va_A w0 sz)) 0 0 (va_A w0 sz) := by
  refine Met.ofW (cc := cX7_readClause) (maxL := 3) (ret := none) (by decide) rfl ?_
  intro p e s m args below meth c s₁ Bk hml hv
  obtain ⟨rfl, ⟨hsz, hP, hK, hD0⟩, hE, hSR⟩ := hv
  have hx := Bk.exec
  have hb := Bk.bytes
  have hr := Bk.returns
  have hlocks := Bk.notSynchronized
  have hC : CallFix p m c cX7_readClause 3 s _ wsX7_readClause RX7 := ⟨hx, hb, hml, findClass_of_methodNamed Bk.named, atoms_spec (ws := wsX7_readClause) Bk.pre⟩
  subst hsz
  have hD := hD0.self (sz := s.heap.size)
  generalize hAe : va_A w0 s.heap.size = A at hD hE ⊢
  have hA : ∀ q : Nat, s.heap.size ≤ q → A q := fun q h => by rw [← hAe]; exact Or.inr h
  have hw : Wd dC dI A s.heap s.heap [] w0 := ⟨hP, hD, va_S.rf⟩
  have hF : FE ksC ([] : List (Nat × Nat × Nat)) w0 w0 := FE.rf
  have hl := lv_entry ([.ref (ad 29), .ref (ad 1), .int a2]) (n := 3) (Nat.le_of_ble_eq_true rfl)
  rw [lg_entry_eq]
  generalize (lg_sl ([.ref (ad 29), .ref (ad 1), .int a2]) ++ List.replicate (3 - (lg_sl ([.ref (ad 29), .ref (ad 1), .int a2])).length) Slot.unset).toArray = ls at hl ⊢
  have hl : lv_has ls 3 [(0, .ref (ad 29)), (1, .ref (ad 1)), (2, .int a2)] := hl
  generalize hloc : ([] : List Loc) = locs at hw ⊢
  refine lv_aload_n hx hb dX7_readClause_0 rfl (lv_at hl 1 rfl) ?_
  refine tk_Vi hC hK hw hT hA hE hSR kC_at1 (by decide) rfl (k_X6_isFaulty_3 l adK adV dC dI cy ad B (by omega) (by omega) qr s1    w0 s.heap.size hT f0_ cf0_ (show 1 ≤ f0_.toInt by omega) (show f0_.toInt ≤ 3205 by omega)) (cwV 0 hC.2.2.2.2 gX7_readClause_X6_isFaulty rfl rfl rfl (by decide +kernel) ⟨Nat.le_of_ble_eq_true rfl, Nat.le_of_ble_eq_true rfl⟩) rfl hl.1 rfl (Nat.le_of_ble_eq_true rfl) dX7_readClause_1 (fun r1 w3 H locs hp2 hw => ?_)
  obtain ⟨hT, k4, hg7⟩ := hp2
  have hF := hF.tr k4 (by decide)
  have c8 := k4.gi kC_at1 (by decide) cf0_
  have c9 := k4.gi kC_at29 (by decide) cf1_
  obtain ⟨rfl, ⟨x5, c6, rx5, tx5⟩⟩ := hg7
  have ex5 : x5.toInt = f0_.toInt := by rw [← c8.symm.trans c6]
  refine lv_if_eq (tgt := 8) hx hb dX7_readClause_4 (by decide) (fun c => absurd c (by decide)) (fun _ => ?_)
  exact tk_vret hC hr hlocks hK ⟨hT, hF, ⟨⟨f0_, c8, (show 1 ≤ f0_.toInt by omega), (show f0_.toInt ≤ 3205 by omega)⟩, ⟨4, c9, (by decide), (by decide)⟩⟩⟩ hw dX7_readClause_7
abbrev P_X7_readClause_9 (ad : Nat → Nat) (cy : Nat → ClassId) (B : Int) (qr : Nat) (s1 : Int)  (w0 : va_W) : va_W → Prop := fun u => TW ksC ad cy B qr s1 u ∧ FE ksC ([] : List (Nat × Nat × Nat)) w0 u ∧ (((∃ y : Int32, gi u 1 4 = y ∧ 1 ≤ y.toInt ∧ y.toInt ≤ 3205)))
set_option maxHeartbeats 4000000 in
set_option maxRecDepth 100000 in
theorem k_X7_readClause_9 (l : Launch) (adK adV : Nat → Nat) (dC : Nat → ClassId) (dI : Nat → Nat → Nat) (cy : Nat → ClassId) (ad : Nat → Nat) (B : Int) (hB0 : 2147483648 ≤ B) (hB1 : B ≤ 1152921504606846976) (qr : Nat) (s1 : Int)   (w0 : va_W) (sz : Nat) (hT : TW ksC ad cy B qr s1 w0) (f0_ : Int32) (cf0_ : gi w0 1 4 = f0_) (rf0_ : 1 ≤ f0_.toInt) (tf0_ : f0_.toInt ≤ 3205) : Met l yX7_readClause wsX7_readClause ({ frames := 2, cells := 0, slots := 0, locals := 32 }) (va_Pc [.ref (ad 29), .ref (ad 1), .int (-1)] (wpreS adK adV dC dI cy sz w0)) (va_Qv (P_X7_readClause_9 ad cy B qr s1  w0) (fun u : va_W => wpost dC dI cy (va_A w0 sz) u) (va_A w0 sz)) 0 0 (va_A w0 sz) := by
  refine Met.ofW (cc := cX7_readClause) (maxL := 3) (ret := none) (by decide) rfl ?_
  intro p e s m args below meth c s₁ Bk hml hv
  obtain ⟨rfl, ⟨hsz, hP, hK, hD0⟩, hE, hSR⟩ := hv
  have hx := Bk.exec
  have hb := Bk.bytes
  have hr := Bk.returns
  have hlocks := Bk.notSynchronized
  have hC : CallFix p m c cX7_readClause 3 s _ wsX7_readClause RX7 := ⟨hx, hb, hml, findClass_of_methodNamed Bk.named, atoms_spec (ws := wsX7_readClause) Bk.pre⟩
  subst hsz
  have hD := hD0.self (sz := s.heap.size)
  generalize hAe : va_A w0 s.heap.size = A at hD hE ⊢
  have hA : ∀ q : Nat, s.heap.size ≤ q → A q := fun q h => by rw [← hAe]; exact Or.inr h
  have hw : Wd dC dI A s.heap s.heap [] w0 := ⟨hP, hD, va_S.rf⟩
  have hF : FE ksC ([] : List (Nat × Nat × Nat)) w0 w0 := FE.rf
  have hl := lv_entry ([.ref (ad 29), .ref (ad 1), .int (-1)]) (n := 3) (Nat.le_of_ble_eq_true rfl)
  rw [lg_entry_eq]
  generalize (lg_sl ([.ref (ad 29), .ref (ad 1), .int (-1)]) ++ List.replicate (3 - (lg_sl ([.ref (ad 29), .ref (ad 1), .int (-1)])).length) Slot.unset).toArray = ls at hl ⊢
  have hl : lv_has ls 3 [(0, .ref (ad 29)), (1, .ref (ad 1)), (2, .int (-1))] := hl
  generalize hloc : ([] : List Loc) = locs at hw ⊢
  refine lv_aload_n hx hb dX7_readClause_0 rfl (lv_at hl 1 rfl) ?_
  refine tk_Vi hC hK hw hT hA hE hSR kC_at1 (by decide) rfl (k_X6_isFaulty_3 l adK adV dC dI cy ad B (by omega) (by omega) qr s1    w0 s.heap.size hT f0_ cf0_ (show 1 ≤ f0_.toInt by omega) (show f0_.toInt ≤ 3205 by omega)) (cwV 0 hC.2.2.2.2 gX7_readClause_X6_isFaulty rfl rfl rfl (by decide +kernel) ⟨Nat.le_of_ble_eq_true rfl, Nat.le_of_ble_eq_true rfl⟩) rfl hl.1 rfl (Nat.le_of_ble_eq_true rfl) dX7_readClause_1 (fun r1 w3 H locs hp2 hw => ?_)
  obtain ⟨hT, k4, hg7⟩ := hp2
  have hF := hF.tr k4 (by decide)
  have c8 := k4.gi kC_at1 (by decide) cf0_
  obtain ⟨rfl, ⟨x5, c6, rx5, tx5⟩⟩ := hg7
  have ex5 : x5.toInt = f0_.toInt := by rw [← c8.symm.trans c6]
  refine lv_if_eq (tgt := 8) hx hb dX7_readClause_4 (by decide) (fun c => absurd c (by decide)) (fun _ => ?_)
  exact tk_vret hC hr hlocks hK ⟨hT, hF, ⟨f0_, c8, (show 1 ≤ f0_.toInt by omega), (show f0_.toInt ≤ 3205 by omega)⟩⟩ hw dX7_readClause_7
abbrev P_X7_readFrom_1 (ad : Nat → Nat) (cy : Nat → ClassId) (B : Int) (qr : Nat) (s1 : Int)  (w0 : va_W) : va_W → Prop := fun u => TW ksC ad cy B qr s1 u ∧ FE ksC [(6, 1, 1), (6, 3, 3), (6, 4, 4), (7, 8, 8), (7, 9, 9), (7, 10, 10), (7, 11, 11), (24, 0, 26), (25, 0, 13), (26, 0, 91), (27, 0, 13), (28, 0, 26), (29, 0, 8), (30, 0, 8), (31, 0, 13)] w0 u ∧ (((∃ y : Int32, gi u 1 4 = y ∧ 0 ≤ y.toInt ∧ y.toInt ≤ 3205) ∧ (∃ y : Int32, gi u 29 9 = y ∧ 0 ≤ y.toInt ∧ y.toInt ≤ 12) ∧ (∃ y : Int32, gi u 29 10 = y ∧ 0 ≤ y.toInt ∧ y.toInt ≤ 8) ∧ (∃ y : Int32, gi u 29 11 = y ∧ 0 ≤ y.toInt ∧ y.toInt ≤ 4)))
set_option maxHeartbeats 4000000 in
set_option maxRecDepth 100000 in
theorem k_X7_readFrom_1 (l : Launch) (adK adV : Nat → Nat) (dC : Nat → ClassId) (dI : Nat → Nat → Nat) (cy : Nat → ClassId) (ad : Nat → Nat) (B : Int) (hB0 : 2147483648 ≤ B) (hB1 : B ≤ 1152921504606846976) (qr : Nat) (s1 : Int)   (w0 : va_W) (sz : Nat) (hT : TW ksC ad cy B qr s1 w0)  : Met l yX7_readFrom wsX7_readFrom ({ frames := 8, cells := 0, slots := 0, locals := 231 }) (va_Pc [.ref (ad 29), .ref (ad 1)] (wpreS adK adV dC dI cy sz w0)) (va_Qv (P_X7_readFrom_1 ad cy B qr s1  w0) (fun u : va_W => wpost dC dI cy (va_A w0 sz) u) (va_A w0 sz)) 0 0 (va_A w0 sz) := by
  refine Met.ofW (cc := cX7_readFrom) (maxL := 5) (ret := none) (by decide) rfl ?_
  intro p e s m args below meth c s₁ Bk hml hv
  obtain ⟨rfl, ⟨hsz, hP, hK, hD0⟩, hE, hSR⟩ := hv
  have hx := Bk.exec
  have hb := Bk.bytes
  have hr := Bk.returns
  have hlocks := Bk.notSynchronized
  have hC : CallFix p m c cX7_readFrom 5 s _ wsX7_readFrom RX7 := ⟨hx, hb, hml, findClass_of_methodNamed Bk.named, atoms_spec (ws := wsX7_readFrom) Bk.pre⟩
  subst hsz
  have hD := hD0.self (sz := s.heap.size)
  generalize hAe : va_A w0 s.heap.size = A at hD hE ⊢
  have hA : ∀ q : Nat, s.heap.size ≤ q → A q := fun q h => by rw [← hAe]; exact Or.inr h
  have hw : Wd dC dI A s.heap s.heap [] w0 := ⟨hP, hD, va_S.rf⟩
  have hF : FE ksC [(6, 1, 1), (6, 3, 3), (6, 4, 4), (7, 8, 8), (7, 9, 9), (7, 10, 10), (7, 11, 11), (24, 0, 26), (25, 0, 13), (26, 0, 91), (27, 0, 13), (28, 0, 26), (29, 0, 8), (30, 0, 8), (31, 0, 13)] w0 w0 := FE.rf
  have hl := lv_entry ([.ref (ad 29), .ref (ad 1)]) (n := 5) (Nat.le_of_ble_eq_true rfl)
  rw [lg_entry_eq]
  generalize (lg_sl ([.ref (ad 29), .ref (ad 1)]) ++ List.replicate (5 - (lg_sl ([.ref (ad 29), .ref (ad 1)])).length) Slot.unset).toArray = ls at hl ⊢
  have hl : lv_has ls 5 [(0, .ref (ad 29)), (1, .ref (ad 1))] := hl
  generalize hloc : ([] : List Loc) = locs at hw ⊢
  have hinX7 : ∀ w ∈ u_ws RX7 TX7 12, w ∈ wsX7_readFrom := fun _ h => List.mem_cons_of_mem _ (List.mem_append_left _ (List.mem_append_right _ (h)))
  have hinX6 : ∀ w ∈ u_ws RX6 TX6 5, w ∈ wsX7_readFrom := fun _ h => List.mem_cons_of_mem _ (List.mem_append_right _ (h))
  have L91 : ∀ (n91 : Nat) (v91_2 : Int32) (v91_3 : Int32) (f91_1_4 : Int32) (f91_29_10 : Int32) (f91_29_11 : Int32) (f91_29_9 : Int32) (H : Heap) (locs : List Loc) (ls : Array Slot) (w1 : va_W), 0 ≤ v91_2.toInt → v91_2.toInt ≤ 1 → 0 ≤ v91_3.toInt → v91_3.toInt ≤ 12 → 0 ≤ f91_1_4.toInt → f91_1_4.toInt ≤ 3205 → 0 ≤ f91_29_10.toInt → f91_29_10.toInt ≤ 8 → 0 ≤ f91_29_11.toInt → f91_29_11.toInt ≤ 4 → 0 ≤ f91_29_9.toInt → f91_29_9.toInt ≤ 12 → (12 - v91_3.toInt).toNat < n91 → Wd dC dI A s.heap H locs w1 → TW ksC ad cy B qr s1 w1 → FE ksC [(6, 1, 1), (6, 3, 3), (6, 4, 4), (7, 8, 8), (7, 9, 9), (7, 10, 10), (7, 11, 11), (24, 0, 26), (25, 0, 13), (26, 0, 91), (27, 0, 13), (28, 0, 26), (29, 0, 8), (30, 0, 8), (31, 0, 13)] w0 w1 → gi w1 1 4 = f91_1_4 → gi w1 29 10 = f91_29_10 → gi w1 29 11 = f91_29_11 → gi w1 29 9 = f91_29_9 → lv_has ls 5 [(0, .ref (ad 29)), (1, .ref (ad 1)), (2, .int v91_2), (3, .int v91_3)] → W p l e ({ frames := 8, cells := 0, slots := 0, locals := 231 }) s m (List.toArray [.ref (ad 29), .ref (ad 1)]) below meth c H locs 0 0 (MQ below (va_Qv (P_X7_readFrom_1 ad cy B qr s1  w0) (fun u : va_W => wpost dC dI cy A u) A) (List.toArray [.ref (ad 29), .ref (ad 1)]) s 0 0 A) (F0 m 91 ls []) := by
    intro n91
    induction n91 with
    | zero => intro v91_2 v91_3 f91_1_4 f91_29_10 f91_29_11 f91_29_9 H locs ls w1 r2 t3 r4 t5 r6 t7 r9 t10 r12 t13 r15 t16 hm91 hw hT hF c8 c11 c14 c17 hl; omega
    | succ n91 ih91 =>
      intro v91_2 v91_3 f91_1_4 f91_29_10 f91_29_11 f91_29_9 H locs ls w1 r2 t3 r4 t5 r6 t7 r9 t10 r12 t13 r15 t16 hm91 hw hT hF c8 c11 c14 c17 hl
      refine lv_iload_n hx hb dX7_readFrom_91 rfl (lv_at hl 3 rfl) ?_
      refine lv_aload_n hx hb dX7_readFrom_92 rfl (lv_at hl 0 rfl) ?_
      refine tk_geti hC hK hw hT hinX7 kC_at29 (by decide) rfl 9 (by decide) (List.mem_of_getElem? (i := 2) rfl) rfl rfl dX7_readFrom_93 (fun x18 c19 rx18 tx18 => ?_)
      refine wk_top f91_29_9 (c19.symm.trans c17) ?_
      refine lv_icmp_ge (tgt := 110) hx hb dX7_readFrom_96 (by decide) (fun c20 => ?_) (fun c20 => ?_)
      · have c20 : f91_29_9.toInt ≤ v91_3.toInt := wk_le.mp c20
        exact tk_vret hC hr hlocks hK ⟨hT, hF, ⟨⟨f91_1_4, c8, (show 0 ≤ f91_1_4.toInt by omega), (show f91_1_4.toInt ≤ 3205 by omega)⟩, ⟨f91_29_9, c17, (show 0 ≤ f91_29_9.toInt by omega), (show f91_29_9.toInt ≤ 12 by omega)⟩, ⟨f91_29_10, c11, (show 0 ≤ f91_29_10.toInt by omega), (show f91_29_10.toInt ≤ 8 by omega)⟩, ⟨f91_29_11, c14, (show 0 ≤ f91_29_11.toInt by omega), (show f91_29_11.toInt ≤ 4 by omega)⟩⟩⟩ hw dX7_readFrom_110
      · have c20 : v91_3.toInt < f91_29_9.toInt := wk_leF c20
        refine lv_aload_n hx hb dX7_readFrom_99 rfl (lv_at hl 0 rfl) ?_
        refine lv_iload_n hx hb dX7_readFrom_100 rfl (lv_at hl 3 rfl) ?_
        refine tk_Vv hC hK hw hT hA hE hSR kC_at29 (by decide) rfl (k_X7_findSaints_2 l adK adV dC dI cy ad B (by omega) (by omega) qr s1   v91_3 (show 0 ≤ v91_3.toInt by omega) (show v91_3.toInt ≤ 11 by omega) w1 H.size hT ) (cwV 1 hC.2.2.2.2 gX7_readFrom_X7_findSaints rfl rfl rfl (by decide +kernel) ⟨Nat.le_of_ble_eq_true rfl, Nat.le_of_ble_eq_true rfl⟩) rfl hl.1 rfl (Nat.le_of_ble_eq_true rfl) dX7_readFrom_101 (fun w23 H locs hp22 hw => ?_)
        obtain ⟨hT, k24, hg27⟩ := hp22
        have hF := hF.tr k24 (by decide)
        have c28 := k24.gi kC_at1 (by decide) c8
        have c29 := k24.gi kC_at29 (by decide) c11
        have c30 := k24.gi kC_at29 (by decide) c14
        have c31 := k24.gi kC_at29 (by decide) c17
        obtain ⟨x25, c26, rx25, tx25⟩ := hg27
        have ex25 : x25.toInt = f91_29_10.toInt := by rw [← c29.symm.trans c26]
        obtain ⟨x32, ex32⟩ : ∃ y : Int32, y = v91_3 + Int32.ofInt 1 := ⟨_, rfl⟩
        refine lv_iinc (v := x32) (lv' := [(3, .int x32), (0, .ref (ad 29)), (1, .ref (ad 1)), (2, .int v91_2)]) hx hb dX7_readFrom_104 hl (k := 3) rfl ex32.symm (by decide) rfl (fun ls hl => ?_)
        have ex32 : x32.toInt = v91_3.toInt + 1 := by rw [ex32]; exact wk_add (y := 1) (show -2147483648 ≤ v91_3.toInt + 1 by omega) (show v91_3.toInt + 1 ≤ 2147483647 by omega)
        refine lv_goto (tgt := 91) hx hb dX7_readFrom_107 (by decide) ?_
        exact ih91 v91_2 x32 f91_1_4 f91_29_10 f91_29_11 f91_29_9 H locs ls w23 (show 0 ≤ v91_2.toInt by omega) (show v91_2.toInt ≤ 1 by omega) (show 0 ≤ x32.toInt by omega) (show x32.toInt ≤ 12 by omega) (show 0 ≤ f91_1_4.toInt by omega) (show f91_1_4.toInt ≤ 3205 by omega) (show 0 ≤ f91_29_10.toInt by omega) (show f91_29_10.toInt ≤ 8 by omega) (show 0 ≤ f91_29_11.toInt by omega) (show f91_29_11.toInt ≤ 4 by omega) (show 0 ≤ f91_29_9.toInt by omega) (show f91_29_9.toInt ≤ 12 by omega) (show (12 - x32.toInt).toNat < n91 by omega) hw hT hF c28 c29 c30 c31 (lv_sub hl [1, 2, 3, 0] rfl)
  have L28 : ∀ (n28 : Nat) (v28_2 : Int32) (v28_3 : Int32) (f28_1_4 : Int32) (f28_29_10 : Int32) (f28_29_11 : Int32) (f28_29_9 : Int32) (H : Heap) (locs : List Loc) (ls : Array Slot) (w33 : va_W), 0 ≤ v28_2.toInt → v28_2.toInt ≤ 1 → 0 ≤ v28_3.toInt → v28_3.toInt ≤ 33 → 0 ≤ f28_1_4.toInt → f28_1_4.toInt ≤ 3205 → 0 ≤ f28_29_10.toInt → f28_29_10.toInt ≤ 8 → 0 ≤ f28_29_11.toInt → f28_29_11.toInt ≤ 4 → 0 ≤ f28_29_9.toInt → f28_29_9.toInt ≤ 12 → (33 - v28_3.toInt).toNat < n28 → Wd dC dI A s.heap H locs w33 → TW ksC ad cy B qr s1 w33 → FE ksC [(6, 1, 1), (6, 3, 3), (6, 4, 4), (7, 8, 8), (7, 9, 9), (7, 10, 10), (7, 11, 11), (24, 0, 26), (25, 0, 13), (26, 0, 91), (27, 0, 13), (28, 0, 26), (29, 0, 8), (30, 0, 8), (31, 0, 13)] w0 w33 → gi w33 1 4 = f28_1_4 → gi w33 29 10 = f28_29_10 → gi w33 29 11 = f28_29_11 → gi w33 29 9 = f28_29_9 → lv_has ls 5 [(0, .ref (ad 29)), (1, .ref (ad 1)), (2, .int v28_2), (3, .int v28_3)] → W p l e ({ frames := 8, cells := 0, slots := 0, locals := 231 }) s m (List.toArray [.ref (ad 29), .ref (ad 1)]) below meth c H locs 0 0 (MQ below (va_Qv (P_X7_readFrom_1 ad cy B qr s1  w0) (fun u : va_W => wpost dC dI cy A u) A) (List.toArray [.ref (ad 29), .ref (ad 1)]) s 0 0 A) (F0 m 28 ls []) := by
    intro n28
    induction n28 with
    | zero => intro v28_2 v28_3 f28_1_4 f28_29_10 f28_29_11 f28_29_9 H locs ls w33 r34 t35 r36 t37 r38 t39 r41 t42 r44 t45 r47 t48 hm28 hw hT hF c40 c43 c46 c49 hl; omega
    | succ n28 ih28 =>
      intro v28_2 v28_3 f28_1_4 f28_29_10 f28_29_11 f28_29_9 H locs ls w33 r34 t35 r36 t37 r38 t39 r41 t42 r44 t45 r47 t48 hm28 hw hT hF c40 c43 c46 c49 hl
      refine lv_iload_n hx hb dX7_readFrom_28 rfl (lv_at hl 2 rfl) ?_
      refine lv_if_eq (tgt := 89) hx hb dX7_readFrom_29 (by decide) (fun c50 => ?_) (fun c50 => ?_)
      · have c50 : v28_2.toInt = (0 : Int) := wk_eq.mp c50
        refine lv_iconst (v := 0) hx hb dX7_readFrom_89 (by decide) ?_
        refine lv_istore_n (lv' := [(3, .int 0), (0, .ref (ad 29)), (1, .ref (ad 1)), (2, .int v28_2)]) hx hb dX7_readFrom_90 rfl hl (by decide) rfl (fun ls hl => ?_)
        exact L91 ((12 - (0 : Int)).toNat + 1) v28_2 0 f28_1_4 f28_29_10 f28_29_11 f28_29_9 H locs ls w33 (show 0 ≤ v28_2.toInt by omega) (show v28_2.toInt ≤ 1 by omega) (by decide) (by decide) (show 0 ≤ f28_1_4.toInt by omega) (show f28_1_4.toInt ≤ 3205 by omega) (show 0 ≤ f28_29_10.toInt by omega) (show f28_29_10.toInt ≤ 8 by omega) (show 0 ≤ f28_29_11.toInt by omega) (show f28_29_11.toInt ≤ 4 by omega) (show 0 ≤ f28_29_9.toInt by omega) (show f28_29_9.toInt ≤ 12 by omega) (Nat.lt_succ_self _) hw hT hF c40 c43 c46 c49 (lv_sub hl [1, 2, 3, 0] rfl)
      · have c50 : ¬ v28_2.toInt = (0 : Int) := wk_eqF c50
        refine lv_iload_n hx hb dX7_readFrom_32 rfl (lv_at hl 3 rfl) ?_
        refine lv_bipush (v := 32) hx hb dX7_readFrom_33 (by decide) ?_
        refine lv_icmp_gt (tgt := 89) hx hb dX7_readFrom_35 (by decide) (fun c51 => ?_) (fun c51 => ?_)
        · have c51 : (32 : Int) < v28_3.toInt := wk_lt.mp c51
          refine lv_iconst (v := 0) hx hb dX7_readFrom_89 (by decide) ?_
          refine lv_istore_n (lv' := [(3, .int 0), (0, .ref (ad 29)), (1, .ref (ad 1)), (2, .int v28_2)]) hx hb dX7_readFrom_90 rfl hl (by decide) rfl (fun ls hl => ?_)
          exact L91 ((12 - (0 : Int)).toNat + 1) v28_2 0 f28_1_4 f28_29_10 f28_29_11 f28_29_9 H locs ls w33 (show 0 ≤ v28_2.toInt by omega) (show v28_2.toInt ≤ 1 by omega) (by decide) (by decide) (show 0 ≤ f28_1_4.toInt by omega) (show f28_1_4.toInt ≤ 3205 by omega) (show 0 ≤ f28_29_10.toInt by omega) (show f28_29_10.toInt ≤ 8 by omega) (show 0 ≤ f28_29_11.toInt by omega) (show f28_29_11.toInt ≤ 4 by omega) (show 0 ≤ f28_29_9.toInt by omega) (show f28_29_9.toInt ≤ 12 by omega) (Nat.lt_succ_self _) hw hT hF c40 c43 c46 c49 (lv_sub hl [1, 2, 3, 0] rfl)
        · have c51 : v28_3.toInt ≤ (32 : Int) := wk_ltF c51
          refine lv_aload_n hx hb dX7_readFrom_38 rfl (lv_at hl 1 rfl) ?_
          refine va_ldcS hx hb hC.2.2.2.1 hSR.1 dX7_readFrom_39 ?_
          refine tk_Vi hC hK hw hT hA hE hSR kC_at1 (by decide) rfl (k_X6_readWord_3 l adK adV dC dI cy ad B (by omega) (by omega) qr s1    w33 H.size hT ) (cwV 1 hC.2.2.2.2 gX7_readFrom_X6_readWord rfl rfl rfl (by decide +kernel) ⟨Nat.le_of_ble_eq_true rfl, Nat.le_of_ble_eq_true rfl⟩) rfl hl.1 rfl (Nat.le_of_ble_eq_true rfl) dX7_readFrom_41 (fun r52 w54 H locs hp53 hw => ?_)
          obtain ⟨hT, k55, hg60⟩ := hp53
          have hF := hF.tr k55 (by decide)
          have c61 := k55.gi kC_at29 (by decide) c43
          have c62 := k55.gi kC_at29 (by decide) c46
          have c63 := k55.gi kC_at29 (by decide) c49
          rcases hg60 with ⟨g56, g57⟩ | ⟨rfl, ⟨x58, c59, rx58, tx58⟩⟩
          · refine lv_istore (lv' := [(4, .int r52), (0, .ref (ad 29)), (1, .ref (ad 1)), (2, .int v28_2), (3, .int v28_3)]) hx hb dX7_readFrom_44 hl (by decide) rfl (fun ls hl => ?_)
            refine lv_iload hx hb dX7_readFrom_46 (lv_at hl 0 rfl) ?_
            refine lv_iconst (v := (-1)) hx hb dX7_readFrom_48 (by decide) ?_
            refine lv_icmp_eq (tgt := 71) hx hb dX7_readFrom_49 (by decide) (fun c => absurd c (fun h => absurd (show r52.toInt = (-1 : Int) from wk_eq.mp h) (by omega))) (fun _ => ?_)
            refine lv_aload_n hx hb dX7_readFrom_52 rfl (lv_at hl 1 rfl) ?_
            refine lv_iload hx hb dX7_readFrom_53 (lv_at hl 0 rfl) ?_
            refine lv_iload_n hx hb dX7_readFrom_55 rfl (lv_at hl 4 rfl) ?_
            refine tk_Vi hC hK hw hT hA hE hSR kC_at29 (by decide) rfl (k_X7_isTooMany_1 l adK adV dC dI cy ad B (by omega) (by omega) qr s1   r52 (show 0 ≤ r52.toInt by omega) (show r52.toInt ≤ 26 by omega) v28_3 (show 0 ≤ v28_3.toInt by omega) (show v28_3.toInt ≤ 32 by omega) w54 H.size hT ) (cwV 2 hC.2.2.2.2 gX7_readFrom_X7_isTooMany rfl rfl rfl (by decide +kernel) ⟨Nat.le_of_ble_eq_true rfl, Nat.le_of_ble_eq_true rfl⟩) rfl hl.1 rfl (Nat.le_of_ble_eq_true rfl) dX7_readFrom_56 (fun r64 w66 H locs hp65 hw => ?_)
            obtain ⟨hT, k67, hg104⟩ := hp65
            have hF := hF.tr k67 (by decide)
            have c105 := k67.gi kC_at29 (by decide) c61
            have c106 := k67.gi kC_at29 (by decide) c62
            have c107 := k67.gi kC_at29 (by decide) c63
            rcases hg104 with ⟨rfl, g68, g69⟩ | ⟨rfl, g70, g71, g72, g73, ⟨x74, c75, rx74, tx74⟩⟩ | ⟨rfl, g76, g77, g78, g79, ⟨x80, c81, rx80, tx80⟩⟩ | ⟨rfl, g82, g83, g84, ⟨x85, c86, rx85, tx85⟩⟩ | rfl | ⟨rfl, g87, g88, g89, g90, ⟨x91, c92, rx91, tx91⟩⟩ | ⟨rfl, g93, g94, g95, g96, ⟨x97, c98, rx97, tx97⟩⟩ | ⟨rfl, g99, g100, g101, ⟨x102, c103, rx102, tx102⟩⟩
            · refine lv_if_eq (tgt := 71) hx hb dX7_readFrom_59 (by decide) (fun _ => ?_) (fun c => absurd (by decide) c)
              refine lv_aload_n hx hb dX7_readFrom_71 rfl (lv_at hl 1 rfl) ?_
              refine lv_aload_n hx hb dX7_readFrom_72 rfl (lv_at hl 2 rfl) ?_
              refine lv_iload hx hb dX7_readFrom_73 (lv_at hl 0 rfl) ?_
              obtain rfl : r52 = 0 := wk_eq.mpr (show r52.toInt = 0 by omega)
              refine tk_Vv hC hK hw hT hA hE hSR kC_at29 (by decide) rfl (k_X7_readClause_1 l adK adV dC dI cy ad B (by omega) (by omega) qr s1    w66 H.size hT ) (cwV 2 hC.2.2.2.2 gX7_readFrom_X7_readClause rfl rfl rfl (by decide +kernel) ⟨Nat.le_of_ble_eq_true rfl, Nat.le_of_ble_eq_true rfl⟩) rfl hl.1 rfl (Nat.le_of_ble_eq_true rfl) dX7_readFrom_75 (fun w110 H locs hp109 hw => ?_)
              obtain ⟨hT, k111, hg116⟩ := hp109
              have hF := hF.tr k111 (by decide)
              have c117 := k111.gi kC_at29 (by decide) c105
              have c118 := k111.gi kC_at29 (by decide) c106
              have c119 := k111.gi kC_at29 (by decide) c107
              rcases hg116 with ⟨x112, c113, rx112, tx112⟩ | ⟨x114, c115, rx114, tx114⟩
              · refine lv_aload_n hx hb dX7_readFrom_78 rfl (lv_at hl 2 rfl) ?_
                refine tk_Vi hC hK hw hT hA hE hSR kC_at1 (by decide) rfl (k_X6_takeSemicolon_2 l adK adV dC dI cy ad B (by omega) (by omega) qr s1    w110 H.size hT x112 c113 (show 1 ≤ x112.toInt by omega) (show x112.toInt ≤ 3205 by omega)) (cwV 0 hC.2.2.2.2 gX7_readFrom_X6_takeSemicolon rfl rfl rfl (by decide +kernel) ⟨Nat.le_of_ble_eq_true rfl, Nat.le_of_ble_eq_true rfl⟩) rfl hl.1 rfl (Nat.le_of_ble_eq_true rfl) dX7_readFrom_79 (fun r120 w122 H locs hp121 hw => ?_)
                obtain ⟨hT, k123, hg126⟩ := hp121
                have hF := hF.tr k123 (by decide)
                have c127 := k123.gi kC_at29 (by decide) c117
                have c128 := k123.gi kC_at29 (by decide) c118
                have c129 := k123.gi kC_at29 (by decide) c119
                have c130 := k123.gi kC_at1 (by decide) c113
                obtain ⟨rfl, ⟨x124, c125, rx124, tx124⟩⟩ := hg126
                have ex124 : x124.toInt = x112.toInt := by rw [← c130.symm.trans c125]
                refine lv_istore_n (lv' := [(2, .int 0), (4, .int 0), (0, .ref (ad 29)), (1, .ref (ad 1)), (3, .int v28_3)]) hx hb dX7_readFrom_82 rfl hl (by decide) rfl (fun ls hl => ?_)
                obtain ⟨x131, ex131⟩ : ∃ y : Int32, y = v28_3 + Int32.ofInt 1 := ⟨_, rfl⟩
                refine lv_iinc (v := x131) (lv' := [(3, .int x131), (2, .int 0), (4, .int 0), (0, .ref (ad 29)), (1, .ref (ad 1))]) hx hb dX7_readFrom_83 hl (k := 4) rfl ex131.symm (by decide) rfl (fun ls hl => ?_)
                have ex131 : x131.toInt = v28_3.toInt + 1 := by rw [ex131]; exact wk_add (y := 1) (show -2147483648 ≤ v28_3.toInt + 1 by omega) (show v28_3.toInt + 1 ≤ 2147483647 by omega)
                refine lv_goto (tgt := 28) hx hb dX7_readFrom_86 (by decide) ?_
                exact ih28 0 x131 x112 f28_29_10 f28_29_11 f28_29_9 H locs ls w122 (by decide) (by decide) (show 0 ≤ x131.toInt by omega) (show x131.toInt ≤ 33 by omega) (show 0 ≤ x112.toInt by omega) (show x112.toInt ≤ 3205 by omega) (show 0 ≤ f28_29_10.toInt by omega) (show f28_29_10.toInt ≤ 8 by omega) (show 0 ≤ f28_29_11.toInt by omega) (show f28_29_11.toInt ≤ 4 by omega) (show 0 ≤ f28_29_9.toInt by omega) (show f28_29_9.toInt ≤ 12 by omega) (show (33 - x131.toInt).toNat < n28 by omega) hw hT hF c130 c127 c128 c129 (lv_sub hl [3, 4, 1, 0] rfl)
              · refine lv_aload_n hx hb dX7_readFrom_78 rfl (lv_at hl 2 rfl) ?_
                refine tk_Vi hC hK hw hT hA hE hSR kC_at1 (by decide) rfl (k_X6_takeSemicolon_1 l adK adV dC dI cy ad B (by omega) (by omega) qr s1    w110 H.size hT ) (cwV 0 hC.2.2.2.2 gX7_readFrom_X6_takeSemicolon rfl rfl rfl (by decide +kernel) ⟨Nat.le_of_ble_eq_true rfl, Nat.le_of_ble_eq_true rfl⟩) rfl hl.1 rfl (Nat.le_of_ble_eq_true rfl) dX7_readFrom_79 (fun r132 w134 H locs hp133 hw => ?_)
                obtain ⟨hT, k135, hg146⟩ := hp133
                have hF := hF.tr k135 (by decide)
                have c147 := k135.gi kC_at29 (by decide) c117
                have c148 := k135.gi kC_at29 (by decide) c118
                have c149 := k135.gi kC_at29 (by decide) c119
                rcases hg146 with ⟨rfl, ⟨x136, c137, rx136, tx136⟩⟩ | ⟨rfl, ⟨x138, c139, rx138, tx138⟩⟩ | ⟨rfl, ⟨x140, c141, rx140, tx140⟩, ⟨x142, c143, rx142, tx142⟩, ⟨x144, c145, rx144, tx144⟩⟩
                · refine lv_istore_n (lv' := [(2, .int 0), (4, .int 0), (0, .ref (ad 29)), (1, .ref (ad 1)), (3, .int v28_3)]) hx hb dX7_readFrom_82 rfl hl (by decide) rfl (fun ls hl => ?_)
                  obtain ⟨x150, ex150⟩ : ∃ y : Int32, y = v28_3 + Int32.ofInt 1 := ⟨_, rfl⟩
                  refine lv_iinc (v := x150) (lv' := [(3, .int x150), (2, .int 0), (4, .int 0), (0, .ref (ad 29)), (1, .ref (ad 1))]) hx hb dX7_readFrom_83 hl (k := 4) rfl ex150.symm (by decide) rfl (fun ls hl => ?_)
                  have ex150 : x150.toInt = v28_3.toInt + 1 := by rw [ex150]; exact wk_add (y := 1) (show -2147483648 ≤ v28_3.toInt + 1 by omega) (show v28_3.toInt + 1 ≤ 2147483647 by omega)
                  refine lv_goto (tgt := 28) hx hb dX7_readFrom_86 (by decide) ?_
                  exact ih28 0 x150 x136 f28_29_10 f28_29_11 f28_29_9 H locs ls w134 (by decide) (by decide) (show 0 ≤ x150.toInt by omega) (show x150.toInt ≤ 33 by omega) (show 0 ≤ x136.toInt by omega) (show x136.toInt ≤ 3205 by omega) (show 0 ≤ f28_29_10.toInt by omega) (show f28_29_10.toInt ≤ 8 by omega) (show 0 ≤ f28_29_11.toInt by omega) (show f28_29_11.toInt ≤ 4 by omega) (show 0 ≤ f28_29_9.toInt by omega) (show f28_29_9.toInt ≤ 12 by omega) (show (33 - x150.toInt).toNat < n28 by omega) hw hT hF c137 c147 c148 c149 (lv_sub hl [3, 4, 1, 0] rfl)
                · refine lv_istore_n (lv' := [(2, .int 0), (4, .int 0), (0, .ref (ad 29)), (1, .ref (ad 1)), (3, .int v28_3)]) hx hb dX7_readFrom_82 rfl hl (by decide) rfl (fun ls hl => ?_)
                  obtain ⟨x151, ex151⟩ : ∃ y : Int32, y = v28_3 + Int32.ofInt 1 := ⟨_, rfl⟩
                  refine lv_iinc (v := x151) (lv' := [(3, .int x151), (2, .int 0), (4, .int 0), (0, .ref (ad 29)), (1, .ref (ad 1))]) hx hb dX7_readFrom_83 hl (k := 4) rfl ex151.symm (by decide) rfl (fun ls hl => ?_)
                  have ex151 : x151.toInt = v28_3.toInt + 1 := by rw [ex151]; exact wk_add (y := 1) (show -2147483648 ≤ v28_3.toInt + 1 by omega) (show v28_3.toInt + 1 ≤ 2147483647 by omega)
                  refine lv_goto (tgt := 28) hx hb dX7_readFrom_86 (by decide) ?_
                  exact ih28 0 x151 x138 f28_29_10 f28_29_11 f28_29_9 H locs ls w134 (by decide) (by decide) (show 0 ≤ x151.toInt by omega) (show x151.toInt ≤ 33 by omega) (show 0 ≤ x138.toInt by omega) (show x138.toInt ≤ 3205 by omega) (show 0 ≤ f28_29_10.toInt by omega) (show f28_29_10.toInt ≤ 8 by omega) (show 0 ≤ f28_29_11.toInt by omega) (show f28_29_11.toInt ≤ 4 by omega) (show 0 ≤ f28_29_9.toInt by omega) (show f28_29_9.toInt ≤ 12 by omega) (show (33 - x151.toInt).toNat < n28 by omega) hw hT hF c139 c147 c148 c149 (lv_sub hl [3, 4, 1, 0] rfl)
                · refine lv_istore_n (lv' := [(2, .int 1), (4, .int 0), (0, .ref (ad 29)), (1, .ref (ad 1)), (3, .int v28_3)]) hx hb dX7_readFrom_82 rfl hl (by decide) rfl (fun ls hl => ?_)
                  obtain ⟨x152, ex152⟩ : ∃ y : Int32, y = v28_3 + Int32.ofInt 1 := ⟨_, rfl⟩
                  refine lv_iinc (v := x152) (lv' := [(3, .int x152), (2, .int 1), (4, .int 0), (0, .ref (ad 29)), (1, .ref (ad 1))]) hx hb dX7_readFrom_83 hl (k := 4) rfl ex152.symm (by decide) rfl (fun ls hl => ?_)
                  have ex152 : x152.toInt = v28_3.toInt + 1 := by rw [ex152]; exact wk_add (y := 1) (show -2147483648 ≤ v28_3.toInt + 1 by omega) (show v28_3.toInt + 1 ≤ 2147483647 by omega)
                  refine lv_goto (tgt := 28) hx hb dX7_readFrom_86 (by decide) ?_
                  exact ih28 1 x152 x144 f28_29_10 f28_29_11 f28_29_9 H locs ls w134 (by decide) (by decide) (show 0 ≤ x152.toInt by omega) (show x152.toInt ≤ 33 by omega) (show 0 ≤ x144.toInt by omega) (show x144.toInt ≤ 3205 by omega) (show 0 ≤ f28_29_10.toInt by omega) (show f28_29_10.toInt ≤ 8 by omega) (show 0 ≤ f28_29_11.toInt by omega) (show f28_29_11.toInt ≤ 4 by omega) (show 0 ≤ f28_29_9.toInt by omega) (show f28_29_9.toInt ≤ 12 by omega) (show (33 - x152.toInt).toNat < n28 by omega) hw hT hF c145 c147 c148 c149 (lv_sub hl [3, 4, 1, 0] rfl)
            · have ex74 : x74.toInt = f28_29_9.toInt := by rw [← c107.symm.trans c75]
              refine lv_if_eq (tgt := 71) hx hb dX7_readFrom_59 (by decide) (fun _ => ?_) (fun c => absurd (by decide) c)
              refine lv_aload_n hx hb dX7_readFrom_71 rfl (lv_at hl 1 rfl) ?_
              refine lv_aload_n hx hb dX7_readFrom_72 rfl (lv_at hl 2 rfl) ?_
              refine lv_iload hx hb dX7_readFrom_73 (lv_at hl 0 rfl) ?_
              obtain rfl : r52 = 1 := wk_eq.mpr (show r52.toInt = 1 by omega)
              refine tk_Vv hC hK hw hT hA hE hSR kC_at29 (by decide) rfl (k_X7_readClause_2 l adK adV dC dI cy ad B (by omega) (by omega) qr s1    w66 H.size hT f28_29_9 c107 (show 0 ≤ f28_29_9.toInt by omega) (show f28_29_9.toInt ≤ 11 by omega)) (cwV 2 hC.2.2.2.2 gX7_readFrom_X7_readClause rfl rfl rfl (by decide +kernel) ⟨Nat.le_of_ble_eq_true rfl, Nat.le_of_ble_eq_true rfl⟩) rfl hl.1 rfl (Nat.le_of_ble_eq_true rfl) dX7_readFrom_75 (fun w155 H locs hp154 hw => ?_)
              obtain ⟨hT, k156, hg165⟩ := hp154
              have hF := hF.tr k156 (by decide)
              have c166 := k156.gi kC_at29 (by decide) c105
              have c167 := k156.gi kC_at29 (by decide) c106
              rcases hg165 with ⟨⟨x157, c158, rx157, tx157⟩, ⟨x159, c160, rx159, tx159⟩⟩ | ⟨⟨x161, c162, rx161, tx161⟩, ⟨x163, c164, rx163, tx163⟩⟩
              · refine lv_aload_n hx hb dX7_readFrom_78 rfl (lv_at hl 2 rfl) ?_
                refine tk_Vi hC hK hw hT hA hE hSR kC_at1 (by decide) rfl (k_X6_takeSemicolon_2 l adK adV dC dI cy ad B (by omega) (by omega) qr s1    w155 H.size hT x157 c158 (show 1 ≤ x157.toInt by omega) (show x157.toInt ≤ 3205 by omega)) (cwV 0 hC.2.2.2.2 gX7_readFrom_X6_takeSemicolon rfl rfl rfl (by decide +kernel) ⟨Nat.le_of_ble_eq_true rfl, Nat.le_of_ble_eq_true rfl⟩) rfl hl.1 rfl (Nat.le_of_ble_eq_true rfl) dX7_readFrom_79 (fun r168 w170 H locs hp169 hw => ?_)
                obtain ⟨hT, k171, hg174⟩ := hp169
                have hF := hF.tr k171 (by decide)
                have c175 := k171.gi kC_at29 (by decide) c166
                have c176 := k171.gi kC_at29 (by decide) c167
                have c177 := k171.gi kC_at1 (by decide) c158
                have c178 := k171.gi kC_at29 (by decide) c160
                obtain ⟨rfl, ⟨x172, c173, rx172, tx172⟩⟩ := hg174
                have ex172 : x172.toInt = x157.toInt := by rw [← c177.symm.trans c173]
                refine lv_istore_n (lv' := [(2, .int 0), (4, .int 1), (0, .ref (ad 29)), (1, .ref (ad 1)), (3, .int v28_3)]) hx hb dX7_readFrom_82 rfl hl (by decide) rfl (fun ls hl => ?_)
                obtain ⟨x179, ex179⟩ : ∃ y : Int32, y = v28_3 + Int32.ofInt 1 := ⟨_, rfl⟩
                refine lv_iinc (v := x179) (lv' := [(3, .int x179), (2, .int 0), (4, .int 1), (0, .ref (ad 29)), (1, .ref (ad 1))]) hx hb dX7_readFrom_83 hl (k := 4) rfl ex179.symm (by decide) rfl (fun ls hl => ?_)
                have ex179 : x179.toInt = v28_3.toInt + 1 := by rw [ex179]; exact wk_add (y := 1) (show -2147483648 ≤ v28_3.toInt + 1 by omega) (show v28_3.toInt + 1 ≤ 2147483647 by omega)
                refine lv_goto (tgt := 28) hx hb dX7_readFrom_86 (by decide) ?_
                exact ih28 0 x179 x157 f28_29_10 f28_29_11 x159 H locs ls w170 (by decide) (by decide) (show 0 ≤ x179.toInt by omega) (show x179.toInt ≤ 33 by omega) (show 0 ≤ x157.toInt by omega) (show x157.toInt ≤ 3205 by omega) (show 0 ≤ f28_29_10.toInt by omega) (show f28_29_10.toInt ≤ 8 by omega) (show 0 ≤ f28_29_11.toInt by omega) (show f28_29_11.toInt ≤ 4 by omega) (show 0 ≤ x159.toInt by omega) (show x159.toInt ≤ 12 by omega) (show (33 - x179.toInt).toNat < n28 by omega) hw hT hF c177 c175 c176 c178 (lv_sub hl [3, 4, 1, 0] rfl)
              · refine lv_aload_n hx hb dX7_readFrom_78 rfl (lv_at hl 2 rfl) ?_
                refine tk_Vi hC hK hw hT hA hE hSR kC_at1 (by decide) rfl (k_X6_takeSemicolon_1 l adK adV dC dI cy ad B (by omega) (by omega) qr s1    w155 H.size hT ) (cwV 0 hC.2.2.2.2 gX7_readFrom_X6_takeSemicolon rfl rfl rfl (by decide +kernel) ⟨Nat.le_of_ble_eq_true rfl, Nat.le_of_ble_eq_true rfl⟩) rfl hl.1 rfl (Nat.le_of_ble_eq_true rfl) dX7_readFrom_79 (fun r180 w182 H locs hp181 hw => ?_)
                obtain ⟨hT, k183, hg194⟩ := hp181
                have hF := hF.tr k183 (by decide)
                have c195 := k183.gi kC_at29 (by decide) c166
                have c196 := k183.gi kC_at29 (by decide) c167
                have c197 := k183.gi kC_at29 (by decide) c164
                rcases hg194 with ⟨rfl, ⟨x184, c185, rx184, tx184⟩⟩ | ⟨rfl, ⟨x186, c187, rx186, tx186⟩⟩ | ⟨rfl, ⟨x188, c189, rx188, tx188⟩, ⟨x190, c191, rx190, tx190⟩, ⟨x192, c193, rx192, tx192⟩⟩
                · refine lv_istore_n (lv' := [(2, .int 0), (4, .int 1), (0, .ref (ad 29)), (1, .ref (ad 1)), (3, .int v28_3)]) hx hb dX7_readFrom_82 rfl hl (by decide) rfl (fun ls hl => ?_)
                  obtain ⟨x198, ex198⟩ : ∃ y : Int32, y = v28_3 + Int32.ofInt 1 := ⟨_, rfl⟩
                  refine lv_iinc (v := x198) (lv' := [(3, .int x198), (2, .int 0), (4, .int 1), (0, .ref (ad 29)), (1, .ref (ad 1))]) hx hb dX7_readFrom_83 hl (k := 4) rfl ex198.symm (by decide) rfl (fun ls hl => ?_)
                  have ex198 : x198.toInt = v28_3.toInt + 1 := by rw [ex198]; exact wk_add (y := 1) (show -2147483648 ≤ v28_3.toInt + 1 by omega) (show v28_3.toInt + 1 ≤ 2147483647 by omega)
                  refine lv_goto (tgt := 28) hx hb dX7_readFrom_86 (by decide) ?_
                  exact ih28 0 x198 x184 f28_29_10 f28_29_11 x163 H locs ls w182 (by decide) (by decide) (show 0 ≤ x198.toInt by omega) (show x198.toInt ≤ 33 by omega) (show 0 ≤ x184.toInt by omega) (show x184.toInt ≤ 3205 by omega) (show 0 ≤ f28_29_10.toInt by omega) (show f28_29_10.toInt ≤ 8 by omega) (show 0 ≤ f28_29_11.toInt by omega) (show f28_29_11.toInt ≤ 4 by omega) (show 0 ≤ x163.toInt by omega) (show x163.toInt ≤ 12 by omega) (show (33 - x198.toInt).toNat < n28 by omega) hw hT hF c185 c195 c196 c197 (lv_sub hl [3, 4, 1, 0] rfl)
                · refine lv_istore_n (lv' := [(2, .int 0), (4, .int 1), (0, .ref (ad 29)), (1, .ref (ad 1)), (3, .int v28_3)]) hx hb dX7_readFrom_82 rfl hl (by decide) rfl (fun ls hl => ?_)
                  obtain ⟨x199, ex199⟩ : ∃ y : Int32, y = v28_3 + Int32.ofInt 1 := ⟨_, rfl⟩
                  refine lv_iinc (v := x199) (lv' := [(3, .int x199), (2, .int 0), (4, .int 1), (0, .ref (ad 29)), (1, .ref (ad 1))]) hx hb dX7_readFrom_83 hl (k := 4) rfl ex199.symm (by decide) rfl (fun ls hl => ?_)
                  have ex199 : x199.toInt = v28_3.toInt + 1 := by rw [ex199]; exact wk_add (y := 1) (show -2147483648 ≤ v28_3.toInt + 1 by omega) (show v28_3.toInt + 1 ≤ 2147483647 by omega)
                  refine lv_goto (tgt := 28) hx hb dX7_readFrom_86 (by decide) ?_
                  exact ih28 0 x199 x186 f28_29_10 f28_29_11 x163 H locs ls w182 (by decide) (by decide) (show 0 ≤ x199.toInt by omega) (show x199.toInt ≤ 33 by omega) (show 0 ≤ x186.toInt by omega) (show x186.toInt ≤ 3205 by omega) (show 0 ≤ f28_29_10.toInt by omega) (show f28_29_10.toInt ≤ 8 by omega) (show 0 ≤ f28_29_11.toInt by omega) (show f28_29_11.toInt ≤ 4 by omega) (show 0 ≤ x163.toInt by omega) (show x163.toInt ≤ 12 by omega) (show (33 - x199.toInt).toNat < n28 by omega) hw hT hF c187 c195 c196 c197 (lv_sub hl [3, 4, 1, 0] rfl)
                · refine lv_istore_n (lv' := [(2, .int 1), (4, .int 1), (0, .ref (ad 29)), (1, .ref (ad 1)), (3, .int v28_3)]) hx hb dX7_readFrom_82 rfl hl (by decide) rfl (fun ls hl => ?_)
                  obtain ⟨x200, ex200⟩ : ∃ y : Int32, y = v28_3 + Int32.ofInt 1 := ⟨_, rfl⟩
                  refine lv_iinc (v := x200) (lv' := [(3, .int x200), (2, .int 1), (4, .int 1), (0, .ref (ad 29)), (1, .ref (ad 1))]) hx hb dX7_readFrom_83 hl (k := 4) rfl ex200.symm (by decide) rfl (fun ls hl => ?_)
                  have ex200 : x200.toInt = v28_3.toInt + 1 := by rw [ex200]; exact wk_add (y := 1) (show -2147483648 ≤ v28_3.toInt + 1 by omega) (show v28_3.toInt + 1 ≤ 2147483647 by omega)
                  refine lv_goto (tgt := 28) hx hb dX7_readFrom_86 (by decide) ?_
                  exact ih28 1 x200 x192 f28_29_10 f28_29_11 x163 H locs ls w182 (by decide) (by decide) (show 0 ≤ x200.toInt by omega) (show x200.toInt ≤ 33 by omega) (show 0 ≤ x192.toInt by omega) (show x192.toInt ≤ 3205 by omega) (show 0 ≤ f28_29_10.toInt by omega) (show f28_29_10.toInt ≤ 8 by omega) (show 0 ≤ f28_29_11.toInt by omega) (show f28_29_11.toInt ≤ 4 by omega) (show 0 ≤ x163.toInt by omega) (show x163.toInt ≤ 12 by omega) (show (33 - x200.toInt).toNat < n28 by omega) hw hT hF c193 c195 c196 c197 (lv_sub hl [3, 4, 1, 0] rfl)
            · have ex80 : x80.toInt = f28_29_10.toInt := by rw [← c105.symm.trans c81]
              refine lv_if_eq (tgt := 71) hx hb dX7_readFrom_59 (by decide) (fun _ => ?_) (fun c => absurd (by decide) c)
              refine lv_aload_n hx hb dX7_readFrom_71 rfl (lv_at hl 1 rfl) ?_
              refine lv_aload_n hx hb dX7_readFrom_72 rfl (lv_at hl 2 rfl) ?_
              refine lv_iload hx hb dX7_readFrom_73 (lv_at hl 0 rfl) ?_
              obtain rfl : r52 = 2 := wk_eq.mpr (show r52.toInt = 2 by omega)
              refine tk_Vv hC hK hw hT hA hE hSR kC_at29 (by decide) rfl (k_X7_readClause_3 l adK adV dC dI cy ad B (by omega) (by omega) qr s1    w66 H.size hT f28_29_10 c105 (show 0 ≤ f28_29_10.toInt by omega) (show f28_29_10.toInt ≤ 7 by omega)) (cwV 2 hC.2.2.2.2 gX7_readFrom_X7_readClause rfl rfl rfl (by decide +kernel) ⟨Nat.le_of_ble_eq_true rfl, Nat.le_of_ble_eq_true rfl⟩) rfl hl.1 rfl (Nat.le_of_ble_eq_true rfl) dX7_readFrom_75 (fun w203 H locs hp202 hw => ?_)
              obtain ⟨hT, k204, hg213⟩ := hp202
              have hF := hF.tr k204 (by decide)
              have c214 := k204.gi kC_at29 (by decide) c106
              have c215 := k204.gi kC_at29 (by decide) c107
              rcases hg213 with ⟨⟨x205, c206, rx205, tx205⟩, ⟨x207, c208, rx207, tx207⟩⟩ | ⟨⟨x209, c210, rx209, tx209⟩, ⟨x211, c212, rx211, tx211⟩⟩
              · refine lv_aload_n hx hb dX7_readFrom_78 rfl (lv_at hl 2 rfl) ?_
                refine tk_Vi hC hK hw hT hA hE hSR kC_at1 (by decide) rfl (k_X6_takeSemicolon_2 l adK adV dC dI cy ad B (by omega) (by omega) qr s1    w203 H.size hT x205 c206 (show 1 ≤ x205.toInt by omega) (show x205.toInt ≤ 3205 by omega)) (cwV 0 hC.2.2.2.2 gX7_readFrom_X6_takeSemicolon rfl rfl rfl (by decide +kernel) ⟨Nat.le_of_ble_eq_true rfl, Nat.le_of_ble_eq_true rfl⟩) rfl hl.1 rfl (Nat.le_of_ble_eq_true rfl) dX7_readFrom_79 (fun r216 w218 H locs hp217 hw => ?_)
                obtain ⟨hT, k219, hg222⟩ := hp217
                have hF := hF.tr k219 (by decide)
                have c223 := k219.gi kC_at29 (by decide) c214
                have c224 := k219.gi kC_at29 (by decide) c215
                have c225 := k219.gi kC_at1 (by decide) c206
                have c226 := k219.gi kC_at29 (by decide) c208
                obtain ⟨rfl, ⟨x220, c221, rx220, tx220⟩⟩ := hg222
                have ex220 : x220.toInt = x205.toInt := by rw [← c225.symm.trans c221]
                refine lv_istore_n (lv' := [(2, .int 0), (4, .int 2), (0, .ref (ad 29)), (1, .ref (ad 1)), (3, .int v28_3)]) hx hb dX7_readFrom_82 rfl hl (by decide) rfl (fun ls hl => ?_)
                obtain ⟨x227, ex227⟩ : ∃ y : Int32, y = v28_3 + Int32.ofInt 1 := ⟨_, rfl⟩
                refine lv_iinc (v := x227) (lv' := [(3, .int x227), (2, .int 0), (4, .int 2), (0, .ref (ad 29)), (1, .ref (ad 1))]) hx hb dX7_readFrom_83 hl (k := 4) rfl ex227.symm (by decide) rfl (fun ls hl => ?_)
                have ex227 : x227.toInt = v28_3.toInt + 1 := by rw [ex227]; exact wk_add (y := 1) (show -2147483648 ≤ v28_3.toInt + 1 by omega) (show v28_3.toInt + 1 ≤ 2147483647 by omega)
                refine lv_goto (tgt := 28) hx hb dX7_readFrom_86 (by decide) ?_
                exact ih28 0 x227 x205 x207 f28_29_11 f28_29_9 H locs ls w218 (by decide) (by decide) (show 0 ≤ x227.toInt by omega) (show x227.toInt ≤ 33 by omega) (show 0 ≤ x205.toInt by omega) (show x205.toInt ≤ 3205 by omega) (show 0 ≤ x207.toInt by omega) (show x207.toInt ≤ 8 by omega) (show 0 ≤ f28_29_11.toInt by omega) (show f28_29_11.toInt ≤ 4 by omega) (show 0 ≤ f28_29_9.toInt by omega) (show f28_29_9.toInt ≤ 12 by omega) (show (33 - x227.toInt).toNat < n28 by omega) hw hT hF c225 c226 c223 c224 (lv_sub hl [3, 4, 1, 0] rfl)
              · refine lv_aload_n hx hb dX7_readFrom_78 rfl (lv_at hl 2 rfl) ?_
                refine tk_Vi hC hK hw hT hA hE hSR kC_at1 (by decide) rfl (k_X6_takeSemicolon_1 l adK adV dC dI cy ad B (by omega) (by omega) qr s1    w203 H.size hT ) (cwV 0 hC.2.2.2.2 gX7_readFrom_X6_takeSemicolon rfl rfl rfl (by decide +kernel) ⟨Nat.le_of_ble_eq_true rfl, Nat.le_of_ble_eq_true rfl⟩) rfl hl.1 rfl (Nat.le_of_ble_eq_true rfl) dX7_readFrom_79 (fun r228 w230 H locs hp229 hw => ?_)
                obtain ⟨hT, k231, hg242⟩ := hp229
                have hF := hF.tr k231 (by decide)
                have c243 := k231.gi kC_at29 (by decide) c214
                have c244 := k231.gi kC_at29 (by decide) c215
                have c245 := k231.gi kC_at29 (by decide) c212
                rcases hg242 with ⟨rfl, ⟨x232, c233, rx232, tx232⟩⟩ | ⟨rfl, ⟨x234, c235, rx234, tx234⟩⟩ | ⟨rfl, ⟨x236, c237, rx236, tx236⟩, ⟨x238, c239, rx238, tx238⟩, ⟨x240, c241, rx240, tx240⟩⟩
                · refine lv_istore_n (lv' := [(2, .int 0), (4, .int 2), (0, .ref (ad 29)), (1, .ref (ad 1)), (3, .int v28_3)]) hx hb dX7_readFrom_82 rfl hl (by decide) rfl (fun ls hl => ?_)
                  obtain ⟨x246, ex246⟩ : ∃ y : Int32, y = v28_3 + Int32.ofInt 1 := ⟨_, rfl⟩
                  refine lv_iinc (v := x246) (lv' := [(3, .int x246), (2, .int 0), (4, .int 2), (0, .ref (ad 29)), (1, .ref (ad 1))]) hx hb dX7_readFrom_83 hl (k := 4) rfl ex246.symm (by decide) rfl (fun ls hl => ?_)
                  have ex246 : x246.toInt = v28_3.toInt + 1 := by rw [ex246]; exact wk_add (y := 1) (show -2147483648 ≤ v28_3.toInt + 1 by omega) (show v28_3.toInt + 1 ≤ 2147483647 by omega)
                  refine lv_goto (tgt := 28) hx hb dX7_readFrom_86 (by decide) ?_
                  exact ih28 0 x246 x232 x211 f28_29_11 f28_29_9 H locs ls w230 (by decide) (by decide) (show 0 ≤ x246.toInt by omega) (show x246.toInt ≤ 33 by omega) (show 0 ≤ x232.toInt by omega) (show x232.toInt ≤ 3205 by omega) (show 0 ≤ x211.toInt by omega) (show x211.toInt ≤ 8 by omega) (show 0 ≤ f28_29_11.toInt by omega) (show f28_29_11.toInt ≤ 4 by omega) (show 0 ≤ f28_29_9.toInt by omega) (show f28_29_9.toInt ≤ 12 by omega) (show (33 - x246.toInt).toNat < n28 by omega) hw hT hF c233 c245 c243 c244 (lv_sub hl [3, 4, 1, 0] rfl)
                · refine lv_istore_n (lv' := [(2, .int 0), (4, .int 2), (0, .ref (ad 29)), (1, .ref (ad 1)), (3, .int v28_3)]) hx hb dX7_readFrom_82 rfl hl (by decide) rfl (fun ls hl => ?_)
                  obtain ⟨x247, ex247⟩ : ∃ y : Int32, y = v28_3 + Int32.ofInt 1 := ⟨_, rfl⟩
                  refine lv_iinc (v := x247) (lv' := [(3, .int x247), (2, .int 0), (4, .int 2), (0, .ref (ad 29)), (1, .ref (ad 1))]) hx hb dX7_readFrom_83 hl (k := 4) rfl ex247.symm (by decide) rfl (fun ls hl => ?_)
                  have ex247 : x247.toInt = v28_3.toInt + 1 := by rw [ex247]; exact wk_add (y := 1) (show -2147483648 ≤ v28_3.toInt + 1 by omega) (show v28_3.toInt + 1 ≤ 2147483647 by omega)
                  refine lv_goto (tgt := 28) hx hb dX7_readFrom_86 (by decide) ?_
                  exact ih28 0 x247 x234 x211 f28_29_11 f28_29_9 H locs ls w230 (by decide) (by decide) (show 0 ≤ x247.toInt by omega) (show x247.toInt ≤ 33 by omega) (show 0 ≤ x234.toInt by omega) (show x234.toInt ≤ 3205 by omega) (show 0 ≤ x211.toInt by omega) (show x211.toInt ≤ 8 by omega) (show 0 ≤ f28_29_11.toInt by omega) (show f28_29_11.toInt ≤ 4 by omega) (show 0 ≤ f28_29_9.toInt by omega) (show f28_29_9.toInt ≤ 12 by omega) (show (33 - x247.toInt).toNat < n28 by omega) hw hT hF c235 c245 c243 c244 (lv_sub hl [3, 4, 1, 0] rfl)
                · refine lv_istore_n (lv' := [(2, .int 1), (4, .int 2), (0, .ref (ad 29)), (1, .ref (ad 1)), (3, .int v28_3)]) hx hb dX7_readFrom_82 rfl hl (by decide) rfl (fun ls hl => ?_)
                  obtain ⟨x248, ex248⟩ : ∃ y : Int32, y = v28_3 + Int32.ofInt 1 := ⟨_, rfl⟩
                  refine lv_iinc (v := x248) (lv' := [(3, .int x248), (2, .int 1), (4, .int 2), (0, .ref (ad 29)), (1, .ref (ad 1))]) hx hb dX7_readFrom_83 hl (k := 4) rfl ex248.symm (by decide) rfl (fun ls hl => ?_)
                  have ex248 : x248.toInt = v28_3.toInt + 1 := by rw [ex248]; exact wk_add (y := 1) (show -2147483648 ≤ v28_3.toInt + 1 by omega) (show v28_3.toInt + 1 ≤ 2147483647 by omega)
                  refine lv_goto (tgt := 28) hx hb dX7_readFrom_86 (by decide) ?_
                  exact ih28 1 x248 x240 x211 f28_29_11 f28_29_9 H locs ls w230 (by decide) (by decide) (show 0 ≤ x248.toInt by omega) (show x248.toInt ≤ 33 by omega) (show 0 ≤ x240.toInt by omega) (show x240.toInt ≤ 3205 by omega) (show 0 ≤ x211.toInt by omega) (show x211.toInt ≤ 8 by omega) (show 0 ≤ f28_29_11.toInt by omega) (show f28_29_11.toInt ≤ 4 by omega) (show 0 ≤ f28_29_9.toInt by omega) (show f28_29_9.toInt ≤ 12 by omega) (show (33 - x248.toInt).toNat < n28 by omega) hw hT hF c241 c245 c243 c244 (lv_sub hl [3, 4, 1, 0] rfl)
            · have ex85 : x85.toInt = f28_29_11.toInt := by rw [← c106.symm.trans c86]
              refine lv_if_eq (tgt := 71) hx hb dX7_readFrom_59 (by decide) (fun _ => ?_) (fun c => absurd (by decide) c)
              refine lv_aload_n hx hb dX7_readFrom_71 rfl (lv_at hl 1 rfl) ?_
              refine lv_aload_n hx hb dX7_readFrom_72 rfl (lv_at hl 2 rfl) ?_
              refine lv_iload hx hb dX7_readFrom_73 (lv_at hl 0 rfl) ?_
              refine tk_Vv hC hK hw hT hA hE hSR kC_at29 (by decide) rfl (k_X7_readClause_4 l adK adV dC dI cy ad B (by omega) (by omega) qr s1   r52 (show 3 ≤ r52.toInt by omega) (show r52.toInt ≤ 26 by omega) w66 H.size hT f28_29_11 c106 (show 0 ≤ f28_29_11.toInt by omega) (show f28_29_11.toInt ≤ 3 by omega)) (cwV 2 hC.2.2.2.2 gX7_readFrom_X7_readClause rfl rfl rfl (by decide +kernel) ⟨Nat.le_of_ble_eq_true rfl, Nat.le_of_ble_eq_true rfl⟩) rfl hl.1 rfl (Nat.le_of_ble_eq_true rfl) dX7_readFrom_75 (fun w251 H locs hp250 hw => ?_)
              obtain ⟨hT, k252, hg263⟩ := hp250
              have hF := hF.tr k252 (by decide)
              have c264 := k252.gi kC_at29 (by decide) c105
              have c265 := k252.gi kC_at29 (by decide) c107
              rcases hg263 with ⟨⟨x253, c254, rx253, tx253⟩, ⟨x255, c256, rx255, tx255⟩⟩ | ⟨⟨x257, c258, rx257, tx257⟩, ⟨x259, c260, rx259, tx259⟩, ⟨x261, c262, rx261, tx261⟩⟩
              · refine lv_aload_n hx hb dX7_readFrom_78 rfl (lv_at hl 2 rfl) ?_
                refine tk_Vi hC hK hw hT hA hE hSR kC_at1 (by decide) rfl (k_X6_takeSemicolon_2 l adK adV dC dI cy ad B (by omega) (by omega) qr s1    w251 H.size hT x253 c254 (show 1 ≤ x253.toInt by omega) (show x253.toInt ≤ 3205 by omega)) (cwV 0 hC.2.2.2.2 gX7_readFrom_X6_takeSemicolon rfl rfl rfl (by decide +kernel) ⟨Nat.le_of_ble_eq_true rfl, Nat.le_of_ble_eq_true rfl⟩) rfl hl.1 rfl (Nat.le_of_ble_eq_true rfl) dX7_readFrom_79 (fun r266 w268 H locs hp267 hw => ?_)
                obtain ⟨hT, k269, hg272⟩ := hp267
                have hF := hF.tr k269 (by decide)
                have c273 := k269.gi kC_at29 (by decide) c264
                have c274 := k269.gi kC_at29 (by decide) c265
                have c275 := k269.gi kC_at1 (by decide) c254
                have c276 := k269.gi kC_at29 (by decide) c256
                obtain ⟨rfl, ⟨x270, c271, rx270, tx270⟩⟩ := hg272
                have ex270 : x270.toInt = x253.toInt := by rw [← c275.symm.trans c271]
                refine lv_istore_n (lv' := [(2, .int 0), (4, .int r52), (0, .ref (ad 29)), (1, .ref (ad 1)), (3, .int v28_3)]) hx hb dX7_readFrom_82 rfl hl (by decide) rfl (fun ls hl => ?_)
                obtain ⟨x277, ex277⟩ : ∃ y : Int32, y = v28_3 + Int32.ofInt 1 := ⟨_, rfl⟩
                refine lv_iinc (v := x277) (lv' := [(3, .int x277), (2, .int 0), (4, .int r52), (0, .ref (ad 29)), (1, .ref (ad 1))]) hx hb dX7_readFrom_83 hl (k := 4) rfl ex277.symm (by decide) rfl (fun ls hl => ?_)
                have ex277 : x277.toInt = v28_3.toInt + 1 := by rw [ex277]; exact wk_add (y := 1) (show -2147483648 ≤ v28_3.toInt + 1 by omega) (show v28_3.toInt + 1 ≤ 2147483647 by omega)
                refine lv_goto (tgt := 28) hx hb dX7_readFrom_86 (by decide) ?_
                exact ih28 0 x277 x253 f28_29_10 x255 f28_29_9 H locs ls w268 (by decide) (by decide) (show 0 ≤ x277.toInt by omega) (show x277.toInt ≤ 33 by omega) (show 0 ≤ x253.toInt by omega) (show x253.toInt ≤ 3205 by omega) (show 0 ≤ f28_29_10.toInt by omega) (show f28_29_10.toInt ≤ 8 by omega) (show 0 ≤ x255.toInt by omega) (show x255.toInt ≤ 4 by omega) (show 0 ≤ f28_29_9.toInt by omega) (show f28_29_9.toInt ≤ 12 by omega) (show (33 - x277.toInt).toNat < n28 by omega) hw hT hF c275 c273 c276 c274 (lv_sub hl [3, 4, 1, 0] rfl)
              · have ex259 : x259.toInt = f28_29_9.toInt := by rw [← c265.symm.trans c260]
                refine lv_aload_n hx hb dX7_readFrom_78 rfl (lv_at hl 2 rfl) ?_
                refine tk_Vi hC hK hw hT hA hE hSR kC_at1 (by decide) rfl (k_X6_takeSemicolon_1 l adK adV dC dI cy ad B (by omega) (by omega) qr s1    w251 H.size hT ) (cwV 0 hC.2.2.2.2 gX7_readFrom_X6_takeSemicolon rfl rfl rfl (by decide +kernel) ⟨Nat.le_of_ble_eq_true rfl, Nat.le_of_ble_eq_true rfl⟩) rfl hl.1 rfl (Nat.le_of_ble_eq_true rfl) dX7_readFrom_79 (fun r278 w280 H locs hp279 hw => ?_)
                obtain ⟨hT, k281, hg292⟩ := hp279
                have hF := hF.tr k281 (by decide)
                have c293 := k281.gi kC_at29 (by decide) c264
                have c294 := k281.gi kC_at29 (by decide) c265
                have c295 := k281.gi kC_at29 (by decide) c262
                rcases hg292 with ⟨rfl, ⟨x282, c283, rx282, tx282⟩⟩ | ⟨rfl, ⟨x284, c285, rx284, tx284⟩⟩ | ⟨rfl, ⟨x286, c287, rx286, tx286⟩, ⟨x288, c289, rx288, tx288⟩, ⟨x290, c291, rx290, tx290⟩⟩
                · refine lv_istore_n (lv' := [(2, .int 0), (4, .int r52), (0, .ref (ad 29)), (1, .ref (ad 1)), (3, .int v28_3)]) hx hb dX7_readFrom_82 rfl hl (by decide) rfl (fun ls hl => ?_)
                  obtain ⟨x296, ex296⟩ : ∃ y : Int32, y = v28_3 + Int32.ofInt 1 := ⟨_, rfl⟩
                  refine lv_iinc (v := x296) (lv' := [(3, .int x296), (2, .int 0), (4, .int r52), (0, .ref (ad 29)), (1, .ref (ad 1))]) hx hb dX7_readFrom_83 hl (k := 4) rfl ex296.symm (by decide) rfl (fun ls hl => ?_)
                  have ex296 : x296.toInt = v28_3.toInt + 1 := by rw [ex296]; exact wk_add (y := 1) (show -2147483648 ≤ v28_3.toInt + 1 by omega) (show v28_3.toInt + 1 ≤ 2147483647 by omega)
                  refine lv_goto (tgt := 28) hx hb dX7_readFrom_86 (by decide) ?_
                  exact ih28 0 x296 x282 f28_29_10 x261 f28_29_9 H locs ls w280 (by decide) (by decide) (show 0 ≤ x296.toInt by omega) (show x296.toInt ≤ 33 by omega) (show 0 ≤ x282.toInt by omega) (show x282.toInt ≤ 3205 by omega) (show 0 ≤ f28_29_10.toInt by omega) (show f28_29_10.toInt ≤ 8 by omega) (show 0 ≤ x261.toInt by omega) (show x261.toInt ≤ 4 by omega) (show 0 ≤ f28_29_9.toInt by omega) (show f28_29_9.toInt ≤ 12 by omega) (show (33 - x296.toInt).toNat < n28 by omega) hw hT hF c283 c293 c295 c294 (lv_sub hl [3, 4, 1, 0] rfl)
                · refine lv_istore_n (lv' := [(2, .int 0), (4, .int r52), (0, .ref (ad 29)), (1, .ref (ad 1)), (3, .int v28_3)]) hx hb dX7_readFrom_82 rfl hl (by decide) rfl (fun ls hl => ?_)
                  obtain ⟨x297, ex297⟩ : ∃ y : Int32, y = v28_3 + Int32.ofInt 1 := ⟨_, rfl⟩
                  refine lv_iinc (v := x297) (lv' := [(3, .int x297), (2, .int 0), (4, .int r52), (0, .ref (ad 29)), (1, .ref (ad 1))]) hx hb dX7_readFrom_83 hl (k := 4) rfl ex297.symm (by decide) rfl (fun ls hl => ?_)
                  have ex297 : x297.toInt = v28_3.toInt + 1 := by rw [ex297]; exact wk_add (y := 1) (show -2147483648 ≤ v28_3.toInt + 1 by omega) (show v28_3.toInt + 1 ≤ 2147483647 by omega)
                  refine lv_goto (tgt := 28) hx hb dX7_readFrom_86 (by decide) ?_
                  exact ih28 0 x297 x284 f28_29_10 x261 f28_29_9 H locs ls w280 (by decide) (by decide) (show 0 ≤ x297.toInt by omega) (show x297.toInt ≤ 33 by omega) (show 0 ≤ x284.toInt by omega) (show x284.toInt ≤ 3205 by omega) (show 0 ≤ f28_29_10.toInt by omega) (show f28_29_10.toInt ≤ 8 by omega) (show 0 ≤ x261.toInt by omega) (show x261.toInt ≤ 4 by omega) (show 0 ≤ f28_29_9.toInt by omega) (show f28_29_9.toInt ≤ 12 by omega) (show (33 - x297.toInt).toNat < n28 by omega) hw hT hF c285 c293 c295 c294 (lv_sub hl [3, 4, 1, 0] rfl)
                · refine lv_istore_n (lv' := [(2, .int 1), (4, .int r52), (0, .ref (ad 29)), (1, .ref (ad 1)), (3, .int v28_3)]) hx hb dX7_readFrom_82 rfl hl (by decide) rfl (fun ls hl => ?_)
                  obtain ⟨x298, ex298⟩ : ∃ y : Int32, y = v28_3 + Int32.ofInt 1 := ⟨_, rfl⟩
                  refine lv_iinc (v := x298) (lv' := [(3, .int x298), (2, .int 1), (4, .int r52), (0, .ref (ad 29)), (1, .ref (ad 1))]) hx hb dX7_readFrom_83 hl (k := 4) rfl ex298.symm (by decide) rfl (fun ls hl => ?_)
                  have ex298 : x298.toInt = v28_3.toInt + 1 := by rw [ex298]; exact wk_add (y := 1) (show -2147483648 ≤ v28_3.toInt + 1 by omega) (show v28_3.toInt + 1 ≤ 2147483647 by omega)
                  refine lv_goto (tgt := 28) hx hb dX7_readFrom_86 (by decide) ?_
                  exact ih28 1 x298 x290 f28_29_10 x261 f28_29_9 H locs ls w280 (by decide) (by decide) (show 0 ≤ x298.toInt by omega) (show x298.toInt ≤ 33 by omega) (show 0 ≤ x290.toInt by omega) (show x290.toInt ≤ 3205 by omega) (show 0 ≤ f28_29_10.toInt by omega) (show f28_29_10.toInt ≤ 8 by omega) (show 0 ≤ x261.toInt by omega) (show x261.toInt ≤ 4 by omega) (show 0 ≤ f28_29_9.toInt by omega) (show f28_29_9.toInt ≤ 12 by omega) (show (33 - x298.toInt).toNat < n28 by omega) hw hT hF c291 c293 c295 c294 (lv_sub hl [3, 4, 1, 0] rfl)
            · refine lv_if_eq (tgt := 71) hx hb dX7_readFrom_59 (by decide) (fun c => absurd c (by decide)) (fun _ => ?_)
              refine lv_aload_n hx hb dX7_readFrom_62 rfl (lv_at hl 2 rfl) ?_
              refine lv_aload_n hx hb dX7_readFrom_63 rfl (lv_at hl 2 rfl) ?_
              refine tk_geti hC hK hw hT hinX6 kC_at1 (by decide) rfl 3 (by decide) (List.mem_of_getElem? (i := 5) rfl) rfl rfl dX7_readFrom_64 (fun x299 c300 rx299 tx299 => ?_)
              refine lv_iconst (v := 4) hx hb dX7_readFrom_67 (by decide) ?_
              refine tk_Vv hC hK hw hT hA hE hSR kC_at1 (by decide) rfl (k_X6_blame_2 l adK adV dC dI cy ad B (by omega) (by omega) qr s1   x299 (show 0 ≤ x299.toInt by omega) (show x299.toInt ≤ 400 by omega) 4 (by decide) (by decide) w66 H.size hT ) (cwV 2 hC.2.2.2.2 gX7_readFrom_X6_blame rfl rfl rfl (by decide +kernel) ⟨Nat.le_of_ble_eq_true rfl, Nat.le_of_ble_eq_true rfl⟩) rfl hl.1 rfl (Nat.le_of_ble_eq_true rfl) dX7_readFrom_68 (fun w303 H locs hp302 hw => ?_)
              obtain ⟨hT, k304, hg307⟩ := hp302
              have hF := hF.tr k304 (by decide)
              have c308 := k304.gi kC_at29 (by decide) c105
              have c309 := k304.gi kC_at29 (by decide) c106
              have c310 := k304.gi kC_at29 (by decide) c107
              have c311 := k304.gi kC_at1 (by decide) c300
              obtain ⟨x305, c306, rx305, tx305⟩ := hg307
              refine lv_aload_n hx hb dX7_readFrom_71 rfl (lv_at hl 1 rfl) ?_
              refine lv_aload_n hx hb dX7_readFrom_72 rfl (lv_at hl 2 rfl) ?_
              refine lv_iload hx hb dX7_readFrom_73 (lv_at hl 0 rfl) ?_
              refine tk_Vv hC hK hw hT hA hE hSR kC_at29 (by decide) rfl (k_X7_readClause_5 l adK adV dC dI cy ad B (by omega) (by omega) qr s1   r52 (show 0 ≤ r52.toInt by omega) (show r52.toInt ≤ 26 by omega) w303 H.size hT x305 c306 (show 1 ≤ x305.toInt by omega) (show x305.toInt ≤ 3205 by omega)) (cwV 2 hC.2.2.2.2 gX7_readFrom_X7_readClause rfl rfl rfl (by decide +kernel) ⟨Nat.le_of_ble_eq_true rfl, Nat.le_of_ble_eq_true rfl⟩) rfl hl.1 rfl (Nat.le_of_ble_eq_true rfl) dX7_readFrom_75 (fun w314 H locs hp313 hw => ?_)
              obtain ⟨hT, k315, hg318⟩ := hp313
              have hF := hF.tr k315 (by decide)
              have c319 := k315.gi kC_at29 (by decide) c308
              have c320 := k315.gi kC_at29 (by decide) c309
              have c321 := k315.gi kC_at29 (by decide) c310
              have c322 := k315.gi kC_at1 (by decide) c311
              have c323 := k315.gi kC_at1 (by decide) c306
              obtain ⟨x316, c317, rx316, tx316⟩ := hg318
              have ex316 : x316.toInt = x305.toInt := by rw [← c323.symm.trans c317]
              refine lv_aload_n hx hb dX7_readFrom_78 rfl (lv_at hl 2 rfl) ?_
              refine tk_Vi hC hK hw hT hA hE hSR kC_at1 (by decide) rfl (k_X6_takeSemicolon_2 l adK adV dC dI cy ad B (by omega) (by omega) qr s1    w314 H.size hT x305 c323 (show 1 ≤ x305.toInt by omega) (show x305.toInt ≤ 3205 by omega)) (cwV 0 hC.2.2.2.2 gX7_readFrom_X6_takeSemicolon rfl rfl rfl (by decide +kernel) ⟨Nat.le_of_ble_eq_true rfl, Nat.le_of_ble_eq_true rfl⟩) rfl hl.1 rfl (Nat.le_of_ble_eq_true rfl) dX7_readFrom_79 (fun r324 w326 H locs hp325 hw => ?_)
              obtain ⟨hT, k327, hg330⟩ := hp325
              have hF := hF.tr k327 (by decide)
              have c331 := k327.gi kC_at29 (by decide) c319
              have c332 := k327.gi kC_at29 (by decide) c320
              have c333 := k327.gi kC_at29 (by decide) c321
              have c334 := k327.gi kC_at1 (by decide) c322
              have c335 := k327.gi kC_at1 (by decide) c323
              obtain ⟨rfl, ⟨x328, c329, rx328, tx328⟩⟩ := hg330
              have ex328 : x328.toInt = x305.toInt := by rw [← c335.symm.trans c329]
              refine lv_istore_n (lv' := [(2, .int 0), (4, .int r52), (0, .ref (ad 29)), (1, .ref (ad 1)), (3, .int v28_3)]) hx hb dX7_readFrom_82 rfl hl (by decide) rfl (fun ls hl => ?_)
              obtain ⟨x336, ex336⟩ : ∃ y : Int32, y = v28_3 + Int32.ofInt 1 := ⟨_, rfl⟩
              refine lv_iinc (v := x336) (lv' := [(3, .int x336), (2, .int 0), (4, .int r52), (0, .ref (ad 29)), (1, .ref (ad 1))]) hx hb dX7_readFrom_83 hl (k := 4) rfl ex336.symm (by decide) rfl (fun ls hl => ?_)
              have ex336 : x336.toInt = v28_3.toInt + 1 := by rw [ex336]; exact wk_add (y := 1) (show -2147483648 ≤ v28_3.toInt + 1 by omega) (show v28_3.toInt + 1 ≤ 2147483647 by omega)
              refine lv_goto (tgt := 28) hx hb dX7_readFrom_86 (by decide) ?_
              exact ih28 0 x336 x305 f28_29_10 f28_29_11 f28_29_9 H locs ls w326 (by decide) (by decide) (show 0 ≤ x336.toInt by omega) (show x336.toInt ≤ 33 by omega) (show 0 ≤ x305.toInt by omega) (show x305.toInt ≤ 3205 by omega) (show 0 ≤ f28_29_10.toInt by omega) (show f28_29_10.toInt ≤ 8 by omega) (show 0 ≤ f28_29_11.toInt by omega) (show f28_29_11.toInt ≤ 4 by omega) (show 0 ≤ f28_29_9.toInt by omega) (show f28_29_9.toInt ≤ 12 by omega) (show (33 - x336.toInt).toNat < n28 by omega) hw hT hF c335 c331 c332 c333 (lv_sub hl [3, 4, 1, 0] rfl)
            · have ex91 : x91.toInt = f28_29_9.toInt := by rw [← c107.symm.trans c92]
              refine lv_if_eq (tgt := 71) hx hb dX7_readFrom_59 (by decide) (fun c => absurd c (by decide)) (fun _ => ?_)
              refine lv_aload_n hx hb dX7_readFrom_62 rfl (lv_at hl 2 rfl) ?_
              refine lv_aload_n hx hb dX7_readFrom_63 rfl (lv_at hl 2 rfl) ?_
              refine tk_geti hC hK hw hT hinX6 kC_at1 (by decide) rfl 3 (by decide) (List.mem_of_getElem? (i := 5) rfl) rfl rfl dX7_readFrom_64 (fun x337 c338 rx337 tx337 => ?_)
              refine lv_iconst (v := 4) hx hb dX7_readFrom_67 (by decide) ?_
              refine tk_Vv hC hK hw hT hA hE hSR kC_at1 (by decide) rfl (k_X6_blame_2 l adK adV dC dI cy ad B (by omega) (by omega) qr s1   x337 (show 0 ≤ x337.toInt by omega) (show x337.toInt ≤ 400 by omega) 4 (by decide) (by decide) w66 H.size hT ) (cwV 2 hC.2.2.2.2 gX7_readFrom_X6_blame rfl rfl rfl (by decide +kernel) ⟨Nat.le_of_ble_eq_true rfl, Nat.le_of_ble_eq_true rfl⟩) rfl hl.1 rfl (Nat.le_of_ble_eq_true rfl) dX7_readFrom_68 (fun w341 H locs hp340 hw => ?_)
              obtain ⟨hT, k342, hg345⟩ := hp340
              have hF := hF.tr k342 (by decide)
              have c346 := k342.gi kC_at29 (by decide) c105
              have c347 := k342.gi kC_at29 (by decide) c106
              have c348 := k342.gi kC_at29 (by decide) c107
              have c349 := k342.gi kC_at1 (by decide) c338
              obtain ⟨x343, c344, rx343, tx343⟩ := hg345
              refine lv_aload_n hx hb dX7_readFrom_71 rfl (lv_at hl 1 rfl) ?_
              refine lv_aload_n hx hb dX7_readFrom_72 rfl (lv_at hl 2 rfl) ?_
              refine lv_iload hx hb dX7_readFrom_73 (lv_at hl 0 rfl) ?_
              obtain rfl : r52 = 1 := wk_eq.mpr (show r52.toInt = 1 by omega)
              refine tk_Vv hC hK hw hT hA hE hSR kC_at29 (by decide) rfl (k_X7_readClause_6 l adK adV dC dI cy ad B (by omega) (by omega) qr s1    w341 H.size hT x343 c344 (show 1 ≤ x343.toInt by omega) (show x343.toInt ≤ 3205 by omega) (c348.trans (wk_eq.mpr (show f28_29_9.toInt = 12 by omega)))) (cwV 2 hC.2.2.2.2 gX7_readFrom_X7_readClause rfl rfl rfl (by decide +kernel) ⟨Nat.le_of_ble_eq_true rfl, Nat.le_of_ble_eq_true rfl⟩) rfl hl.1 rfl (Nat.le_of_ble_eq_true rfl) dX7_readFrom_75 (fun w352 H locs hp351 hw => ?_)
              obtain ⟨hT, k353, hg358⟩ := hp351
              have hF := hF.tr k353 (by decide)
              have c359 := k353.gi kC_at29 (by decide) c346
              have c360 := k353.gi kC_at29 (by decide) c347
              have c361 := k353.gi kC_at29 (by decide) c348
              have c362 := k353.gi kC_at1 (by decide) c349
              have c363 := k353.gi kC_at1 (by decide) c344
              obtain ⟨⟨x354, c355, rx354, tx354⟩, ⟨x356, c357, rx356, tx356⟩⟩ := hg358
              have ex354 : x354.toInt = x343.toInt := by rw [← c363.symm.trans c355]
              have ex356 : x356.toInt = f28_29_9.toInt := by rw [← c361.symm.trans c357]
              refine lv_aload_n hx hb dX7_readFrom_78 rfl (lv_at hl 2 rfl) ?_
              refine tk_Vi hC hK hw hT hA hE hSR kC_at1 (by decide) rfl (k_X6_takeSemicolon_2 l adK adV dC dI cy ad B (by omega) (by omega) qr s1    w352 H.size hT x343 c363 (show 1 ≤ x343.toInt by omega) (show x343.toInt ≤ 3205 by omega)) (cwV 0 hC.2.2.2.2 gX7_readFrom_X6_takeSemicolon rfl rfl rfl (by decide +kernel) ⟨Nat.le_of_ble_eq_true rfl, Nat.le_of_ble_eq_true rfl⟩) rfl hl.1 rfl (Nat.le_of_ble_eq_true rfl) dX7_readFrom_79 (fun r364 w366 H locs hp365 hw => ?_)
              obtain ⟨hT, k367, hg370⟩ := hp365
              have hF := hF.tr k367 (by decide)
              have c371 := k367.gi kC_at29 (by decide) c359
              have c372 := k367.gi kC_at29 (by decide) c360
              have c373 := k367.gi kC_at29 (by decide) c361
              have c374 := k367.gi kC_at1 (by decide) c362
              have c375 := k367.gi kC_at1 (by decide) c363
              obtain ⟨rfl, ⟨x368, c369, rx368, tx368⟩⟩ := hg370
              have ex368 : x368.toInt = x343.toInt := by rw [← c375.symm.trans c369]
              refine lv_istore_n (lv' := [(2, .int 0), (4, .int 1), (0, .ref (ad 29)), (1, .ref (ad 1)), (3, .int v28_3)]) hx hb dX7_readFrom_82 rfl hl (by decide) rfl (fun ls hl => ?_)
              obtain ⟨x376, ex376⟩ : ∃ y : Int32, y = v28_3 + Int32.ofInt 1 := ⟨_, rfl⟩
              refine lv_iinc (v := x376) (lv' := [(3, .int x376), (2, .int 0), (4, .int 1), (0, .ref (ad 29)), (1, .ref (ad 1))]) hx hb dX7_readFrom_83 hl (k := 4) rfl ex376.symm (by decide) rfl (fun ls hl => ?_)
              have ex376 : x376.toInt = v28_3.toInt + 1 := by rw [ex376]; exact wk_add (y := 1) (show -2147483648 ≤ v28_3.toInt + 1 by omega) (show v28_3.toInt + 1 ≤ 2147483647 by omega)
              refine lv_goto (tgt := 28) hx hb dX7_readFrom_86 (by decide) ?_
              exact ih28 0 x376 x343 f28_29_10 f28_29_11 f28_29_9 H locs ls w366 (by decide) (by decide) (show 0 ≤ x376.toInt by omega) (show x376.toInt ≤ 33 by omega) (show 0 ≤ x343.toInt by omega) (show x343.toInt ≤ 3205 by omega) (show 0 ≤ f28_29_10.toInt by omega) (show f28_29_10.toInt ≤ 8 by omega) (show 0 ≤ f28_29_11.toInt by omega) (show f28_29_11.toInt ≤ 4 by omega) (show 0 ≤ f28_29_9.toInt by omega) (show f28_29_9.toInt ≤ 12 by omega) (show (33 - x376.toInt).toNat < n28 by omega) hw hT hF c375 c371 c372 c373 (lv_sub hl [3, 4, 1, 0] rfl)
            · have ex97 : x97.toInt = f28_29_10.toInt := by rw [← c105.symm.trans c98]
              refine lv_if_eq (tgt := 71) hx hb dX7_readFrom_59 (by decide) (fun c => absurd c (by decide)) (fun _ => ?_)
              refine lv_aload_n hx hb dX7_readFrom_62 rfl (lv_at hl 2 rfl) ?_
              refine lv_aload_n hx hb dX7_readFrom_63 rfl (lv_at hl 2 rfl) ?_
              refine tk_geti hC hK hw hT hinX6 kC_at1 (by decide) rfl 3 (by decide) (List.mem_of_getElem? (i := 5) rfl) rfl rfl dX7_readFrom_64 (fun x377 c378 rx377 tx377 => ?_)
              refine lv_iconst (v := 4) hx hb dX7_readFrom_67 (by decide) ?_
              refine tk_Vv hC hK hw hT hA hE hSR kC_at1 (by decide) rfl (k_X6_blame_2 l adK adV dC dI cy ad B (by omega) (by omega) qr s1   x377 (show 0 ≤ x377.toInt by omega) (show x377.toInt ≤ 400 by omega) 4 (by decide) (by decide) w66 H.size hT ) (cwV 2 hC.2.2.2.2 gX7_readFrom_X6_blame rfl rfl rfl (by decide +kernel) ⟨Nat.le_of_ble_eq_true rfl, Nat.le_of_ble_eq_true rfl⟩) rfl hl.1 rfl (Nat.le_of_ble_eq_true rfl) dX7_readFrom_68 (fun w381 H locs hp380 hw => ?_)
              obtain ⟨hT, k382, hg385⟩ := hp380
              have hF := hF.tr k382 (by decide)
              have c386 := k382.gi kC_at29 (by decide) c105
              have c387 := k382.gi kC_at29 (by decide) c106
              have c388 := k382.gi kC_at29 (by decide) c107
              have c389 := k382.gi kC_at1 (by decide) c378
              obtain ⟨x383, c384, rx383, tx383⟩ := hg385
              refine lv_aload_n hx hb dX7_readFrom_71 rfl (lv_at hl 1 rfl) ?_
              refine lv_aload_n hx hb dX7_readFrom_72 rfl (lv_at hl 2 rfl) ?_
              refine lv_iload hx hb dX7_readFrom_73 (lv_at hl 0 rfl) ?_
              obtain rfl : r52 = 2 := wk_eq.mpr (show r52.toInt = 2 by omega)
              refine tk_Vv hC hK hw hT hA hE hSR kC_at29 (by decide) rfl (k_X7_readClause_7 l adK adV dC dI cy ad B (by omega) (by omega) qr s1    w381 H.size hT x383 c384 (show 1 ≤ x383.toInt by omega) (show x383.toInt ≤ 3205 by omega) (c386.trans (wk_eq.mpr (show f28_29_10.toInt = 8 by omega)))) (cwV 2 hC.2.2.2.2 gX7_readFrom_X7_readClause rfl rfl rfl (by decide +kernel) ⟨Nat.le_of_ble_eq_true rfl, Nat.le_of_ble_eq_true rfl⟩) rfl hl.1 rfl (Nat.le_of_ble_eq_true rfl) dX7_readFrom_75 (fun w392 H locs hp391 hw => ?_)
              obtain ⟨hT, k393, hg398⟩ := hp391
              have hF := hF.tr k393 (by decide)
              have c399 := k393.gi kC_at29 (by decide) c386
              have c400 := k393.gi kC_at29 (by decide) c387
              have c401 := k393.gi kC_at29 (by decide) c388
              have c402 := k393.gi kC_at1 (by decide) c389
              have c403 := k393.gi kC_at1 (by decide) c384
              obtain ⟨⟨x394, c395, rx394, tx394⟩, ⟨x396, c397, rx396, tx396⟩⟩ := hg398
              have ex394 : x394.toInt = x383.toInt := by rw [← c403.symm.trans c395]
              have ex396 : x396.toInt = f28_29_10.toInt := by rw [← c399.symm.trans c397]
              refine lv_aload_n hx hb dX7_readFrom_78 rfl (lv_at hl 2 rfl) ?_
              refine tk_Vi hC hK hw hT hA hE hSR kC_at1 (by decide) rfl (k_X6_takeSemicolon_2 l adK adV dC dI cy ad B (by omega) (by omega) qr s1    w392 H.size hT x383 c403 (show 1 ≤ x383.toInt by omega) (show x383.toInt ≤ 3205 by omega)) (cwV 0 hC.2.2.2.2 gX7_readFrom_X6_takeSemicolon rfl rfl rfl (by decide +kernel) ⟨Nat.le_of_ble_eq_true rfl, Nat.le_of_ble_eq_true rfl⟩) rfl hl.1 rfl (Nat.le_of_ble_eq_true rfl) dX7_readFrom_79 (fun r404 w406 H locs hp405 hw => ?_)
              obtain ⟨hT, k407, hg410⟩ := hp405
              have hF := hF.tr k407 (by decide)
              have c411 := k407.gi kC_at29 (by decide) c399
              have c412 := k407.gi kC_at29 (by decide) c400
              have c413 := k407.gi kC_at29 (by decide) c401
              have c414 := k407.gi kC_at1 (by decide) c402
              have c415 := k407.gi kC_at1 (by decide) c403
              obtain ⟨rfl, ⟨x408, c409, rx408, tx408⟩⟩ := hg410
              have ex408 : x408.toInt = x383.toInt := by rw [← c415.symm.trans c409]
              refine lv_istore_n (lv' := [(2, .int 0), (4, .int 2), (0, .ref (ad 29)), (1, .ref (ad 1)), (3, .int v28_3)]) hx hb dX7_readFrom_82 rfl hl (by decide) rfl (fun ls hl => ?_)
              obtain ⟨x416, ex416⟩ : ∃ y : Int32, y = v28_3 + Int32.ofInt 1 := ⟨_, rfl⟩
              refine lv_iinc (v := x416) (lv' := [(3, .int x416), (2, .int 0), (4, .int 2), (0, .ref (ad 29)), (1, .ref (ad 1))]) hx hb dX7_readFrom_83 hl (k := 4) rfl ex416.symm (by decide) rfl (fun ls hl => ?_)
              have ex416 : x416.toInt = v28_3.toInt + 1 := by rw [ex416]; exact wk_add (y := 1) (show -2147483648 ≤ v28_3.toInt + 1 by omega) (show v28_3.toInt + 1 ≤ 2147483647 by omega)
              refine lv_goto (tgt := 28) hx hb dX7_readFrom_86 (by decide) ?_
              exact ih28 0 x416 x383 f28_29_10 f28_29_11 f28_29_9 H locs ls w406 (by decide) (by decide) (show 0 ≤ x416.toInt by omega) (show x416.toInt ≤ 33 by omega) (show 0 ≤ x383.toInt by omega) (show x383.toInt ≤ 3205 by omega) (show 0 ≤ f28_29_10.toInt by omega) (show f28_29_10.toInt ≤ 8 by omega) (show 0 ≤ f28_29_11.toInt by omega) (show f28_29_11.toInt ≤ 4 by omega) (show 0 ≤ f28_29_9.toInt by omega) (show f28_29_9.toInt ≤ 12 by omega) (show (33 - x416.toInt).toNat < n28 by omega) hw hT hF c415 c411 c412 c413 (lv_sub hl [3, 4, 1, 0] rfl)
            · have ex102 : x102.toInt = f28_29_11.toInt := by rw [← c106.symm.trans c103]
              refine lv_if_eq (tgt := 71) hx hb dX7_readFrom_59 (by decide) (fun c => absurd c (by decide)) (fun _ => ?_)
              refine lv_aload_n hx hb dX7_readFrom_62 rfl (lv_at hl 2 rfl) ?_
              refine lv_aload_n hx hb dX7_readFrom_63 rfl (lv_at hl 2 rfl) ?_
              refine tk_geti hC hK hw hT hinX6 kC_at1 (by decide) rfl 3 (by decide) (List.mem_of_getElem? (i := 5) rfl) rfl rfl dX7_readFrom_64 (fun x417 c418 rx417 tx417 => ?_)
              refine lv_iconst (v := 4) hx hb dX7_readFrom_67 (by decide) ?_
              refine tk_Vv hC hK hw hT hA hE hSR kC_at1 (by decide) rfl (k_X6_blame_2 l adK adV dC dI cy ad B (by omega) (by omega) qr s1   x417 (show 0 ≤ x417.toInt by omega) (show x417.toInt ≤ 400 by omega) 4 (by decide) (by decide) w66 H.size hT ) (cwV 2 hC.2.2.2.2 gX7_readFrom_X6_blame rfl rfl rfl (by decide +kernel) ⟨Nat.le_of_ble_eq_true rfl, Nat.le_of_ble_eq_true rfl⟩) rfl hl.1 rfl (Nat.le_of_ble_eq_true rfl) dX7_readFrom_68 (fun w421 H locs hp420 hw => ?_)
              obtain ⟨hT, k422, hg425⟩ := hp420
              have hF := hF.tr k422 (by decide)
              have c426 := k422.gi kC_at29 (by decide) c105
              have c427 := k422.gi kC_at29 (by decide) c106
              have c428 := k422.gi kC_at29 (by decide) c107
              have c429 := k422.gi kC_at1 (by decide) c418
              obtain ⟨x423, c424, rx423, tx423⟩ := hg425
              refine lv_aload_n hx hb dX7_readFrom_71 rfl (lv_at hl 1 rfl) ?_
              refine lv_aload_n hx hb dX7_readFrom_72 rfl (lv_at hl 2 rfl) ?_
              refine lv_iload hx hb dX7_readFrom_73 (lv_at hl 0 rfl) ?_
              refine tk_Vv hC hK hw hT hA hE hSR kC_at29 (by decide) rfl (k_X7_readClause_8 l adK adV dC dI cy ad B (by omega) (by omega) qr s1   r52 (show 3 ≤ r52.toInt by omega) (show r52.toInt ≤ 26 by omega) w421 H.size hT x423 c424 (show 1 ≤ x423.toInt by omega) (show x423.toInt ≤ 3205 by omega) (c427.trans (wk_eq.mpr (show f28_29_11.toInt = 4 by omega)))) (cwV 2 hC.2.2.2.2 gX7_readFrom_X7_readClause rfl rfl rfl (by decide +kernel) ⟨Nat.le_of_ble_eq_true rfl, Nat.le_of_ble_eq_true rfl⟩) rfl hl.1 rfl (Nat.le_of_ble_eq_true rfl) dX7_readFrom_75 (fun w432 H locs hp431 hw => ?_)
              obtain ⟨hT, k433, hg438⟩ := hp431
              have hF := hF.tr k433 (by decide)
              have c439 := k433.gi kC_at29 (by decide) c426
              have c440 := k433.gi kC_at29 (by decide) c427
              have c441 := k433.gi kC_at29 (by decide) c428
              have c442 := k433.gi kC_at1 (by decide) c429
              have c443 := k433.gi kC_at1 (by decide) c424
              obtain ⟨⟨x434, c435, rx434, tx434⟩, ⟨x436, c437, rx436, tx436⟩⟩ := hg438
              have ex434 : x434.toInt = x423.toInt := by rw [← c443.symm.trans c435]
              have ex436 : x436.toInt = f28_29_11.toInt := by rw [← c440.symm.trans c437]
              refine lv_aload_n hx hb dX7_readFrom_78 rfl (lv_at hl 2 rfl) ?_
              refine tk_Vi hC hK hw hT hA hE hSR kC_at1 (by decide) rfl (k_X6_takeSemicolon_2 l adK adV dC dI cy ad B (by omega) (by omega) qr s1    w432 H.size hT x423 c443 (show 1 ≤ x423.toInt by omega) (show x423.toInt ≤ 3205 by omega)) (cwV 0 hC.2.2.2.2 gX7_readFrom_X6_takeSemicolon rfl rfl rfl (by decide +kernel) ⟨Nat.le_of_ble_eq_true rfl, Nat.le_of_ble_eq_true rfl⟩) rfl hl.1 rfl (Nat.le_of_ble_eq_true rfl) dX7_readFrom_79 (fun r444 w446 H locs hp445 hw => ?_)
              obtain ⟨hT, k447, hg450⟩ := hp445
              have hF := hF.tr k447 (by decide)
              have c451 := k447.gi kC_at29 (by decide) c439
              have c452 := k447.gi kC_at29 (by decide) c440
              have c453 := k447.gi kC_at29 (by decide) c441
              have c454 := k447.gi kC_at1 (by decide) c442
              have c455 := k447.gi kC_at1 (by decide) c443
              obtain ⟨rfl, ⟨x448, c449, rx448, tx448⟩⟩ := hg450
              have ex448 : x448.toInt = x423.toInt := by rw [← c455.symm.trans c449]
              refine lv_istore_n (lv' := [(2, .int 0), (4, .int r52), (0, .ref (ad 29)), (1, .ref (ad 1)), (3, .int v28_3)]) hx hb dX7_readFrom_82 rfl hl (by decide) rfl (fun ls hl => ?_)
              obtain ⟨x456, ex456⟩ : ∃ y : Int32, y = v28_3 + Int32.ofInt 1 := ⟨_, rfl⟩
              refine lv_iinc (v := x456) (lv' := [(3, .int x456), (2, .int 0), (4, .int r52), (0, .ref (ad 29)), (1, .ref (ad 1))]) hx hb dX7_readFrom_83 hl (k := 4) rfl ex456.symm (by decide) rfl (fun ls hl => ?_)
              have ex456 : x456.toInt = v28_3.toInt + 1 := by rw [ex456]; exact wk_add (y := 1) (show -2147483648 ≤ v28_3.toInt + 1 by omega) (show v28_3.toInt + 1 ≤ 2147483647 by omega)
              refine lv_goto (tgt := 28) hx hb dX7_readFrom_86 (by decide) ?_
              exact ih28 0 x456 x423 f28_29_10 f28_29_11 f28_29_9 H locs ls w446 (by decide) (by decide) (show 0 ≤ x456.toInt by omega) (show x456.toInt ≤ 33 by omega) (show 0 ≤ x423.toInt by omega) (show x423.toInt ≤ 3205 by omega) (show 0 ≤ f28_29_10.toInt by omega) (show f28_29_10.toInt ≤ 8 by omega) (show 0 ≤ f28_29_11.toInt by omega) (show f28_29_11.toInt ≤ 4 by omega) (show 0 ≤ f28_29_9.toInt by omega) (show f28_29_9.toInt ≤ 12 by omega) (show (33 - x456.toInt).toNat < n28 by omega) hw hT hF c455 c451 c452 c453 (lv_sub hl [3, 4, 1, 0] rfl)
          · refine lv_istore (lv' := [(4, .int (-1)), (0, .ref (ad 29)), (1, .ref (ad 1)), (2, .int v28_2), (3, .int v28_3)]) hx hb dX7_readFrom_44 hl (by decide) rfl (fun ls hl => ?_)
            refine lv_iload hx hb dX7_readFrom_46 (lv_at hl 0 rfl) ?_
            refine lv_iconst (v := (-1)) hx hb dX7_readFrom_48 (by decide) ?_
            refine lv_icmp_eq (tgt := 71) hx hb dX7_readFrom_49 (by decide) (fun _ => ?_) (fun c => absurd (by decide) c)
            refine lv_aload_n hx hb dX7_readFrom_71 rfl (lv_at hl 1 rfl) ?_
            refine lv_aload_n hx hb dX7_readFrom_72 rfl (lv_at hl 2 rfl) ?_
            refine lv_iload hx hb dX7_readFrom_73 (lv_at hl 0 rfl) ?_
            refine tk_Vv hC hK hw hT hA hE hSR kC_at29 (by decide) rfl (k_X7_readClause_9 l adK adV dC dI cy ad B (by omega) (by omega) qr s1    w54 H.size hT x58 c59 (show 1 ≤ x58.toInt by omega) (show x58.toInt ≤ 3205 by omega)) (cwV 2 hC.2.2.2.2 gX7_readFrom_X7_readClause rfl rfl rfl (by decide +kernel) ⟨Nat.le_of_ble_eq_true rfl, Nat.le_of_ble_eq_true rfl⟩) rfl hl.1 rfl (Nat.le_of_ble_eq_true rfl) dX7_readFrom_75 (fun w459 H locs hp458 hw => ?_)
            obtain ⟨hT, k460, hg463⟩ := hp458
            have hF := hF.tr k460 (by decide)
            have c464 := k460.gi kC_at29 (by decide) c61
            have c465 := k460.gi kC_at29 (by decide) c62
            have c466 := k460.gi kC_at29 (by decide) c63
            have c467 := k460.gi kC_at1 (by decide) c59
            obtain ⟨x461, c462, rx461, tx461⟩ := hg463
            have ex461 : x461.toInt = x58.toInt := by rw [← c467.symm.trans c462]
            refine lv_aload_n hx hb dX7_readFrom_78 rfl (lv_at hl 2 rfl) ?_
            refine tk_Vi hC hK hw hT hA hE hSR kC_at1 (by decide) rfl (k_X6_takeSemicolon_2 l adK adV dC dI cy ad B (by omega) (by omega) qr s1    w459 H.size hT x58 c467 (show 1 ≤ x58.toInt by omega) (show x58.toInt ≤ 3205 by omega)) (cwV 0 hC.2.2.2.2 gX7_readFrom_X6_takeSemicolon rfl rfl rfl (by decide +kernel) ⟨Nat.le_of_ble_eq_true rfl, Nat.le_of_ble_eq_true rfl⟩) rfl hl.1 rfl (Nat.le_of_ble_eq_true rfl) dX7_readFrom_79 (fun r468 w470 H locs hp469 hw => ?_)
            obtain ⟨hT, k471, hg474⟩ := hp469
            have hF := hF.tr k471 (by decide)
            have c475 := k471.gi kC_at29 (by decide) c464
            have c476 := k471.gi kC_at29 (by decide) c465
            have c477 := k471.gi kC_at29 (by decide) c466
            have c478 := k471.gi kC_at1 (by decide) c467
            obtain ⟨rfl, ⟨x472, c473, rx472, tx472⟩⟩ := hg474
            have ex472 : x472.toInt = x58.toInt := by rw [← c478.symm.trans c473]
            refine lv_istore_n (lv' := [(2, .int 0), (4, .int (-1)), (0, .ref (ad 29)), (1, .ref (ad 1)), (3, .int v28_3)]) hx hb dX7_readFrom_82 rfl hl (by decide) rfl (fun ls hl => ?_)
            obtain ⟨x479, ex479⟩ : ∃ y : Int32, y = v28_3 + Int32.ofInt 1 := ⟨_, rfl⟩
            refine lv_iinc (v := x479) (lv' := [(3, .int x479), (2, .int 0), (4, .int (-1)), (0, .ref (ad 29)), (1, .ref (ad 1))]) hx hb dX7_readFrom_83 hl (k := 4) rfl ex479.symm (by decide) rfl (fun ls hl => ?_)
            have ex479 : x479.toInt = v28_3.toInt + 1 := by rw [ex479]; exact wk_add (y := 1) (show -2147483648 ≤ v28_3.toInt + 1 by omega) (show v28_3.toInt + 1 ≤ 2147483647 by omega)
            refine lv_goto (tgt := 28) hx hb dX7_readFrom_86 (by decide) ?_
            exact ih28 0 x479 x58 f28_29_10 f28_29_11 f28_29_9 H locs ls w470 (by decide) (by decide) (show 0 ≤ x479.toInt by omega) (show x479.toInt ≤ 33 by omega) (show 0 ≤ x58.toInt by omega) (show x58.toInt ≤ 3205 by omega) (show 0 ≤ f28_29_10.toInt by omega) (show f28_29_10.toInt ≤ 8 by omega) (show 0 ≤ f28_29_11.toInt by omega) (show f28_29_11.toInt ≤ 4 by omega) (show 0 ≤ f28_29_9.toInt by omega) (show f28_29_9.toInt ≤ 12 by omega) (show (33 - x479.toInt).toNat < n28 by omega) hw hT hF c478 c475 c476 c477 (lv_sub hl [3, 4, 1, 0] rfl)
  refine lv_aload_n hx hb dX7_readFrom_0 rfl (lv_at hl 0 rfl) ?_
  refine lv_iconst (v := 0) hx hb dX7_readFrom_1 (by decide) ?_
  refine tk_puti hC hK hw hT hinX7 tyX7_ok nmX7 kC_at29 (by decide) rfl rfl 8 (by decide) (List.mem_of_getElem? (i := 1) rfl) rfl rfl rfl rfl (by decide) (by decide) dX7_readFrom_2 (fun H locs w480 hw hT k482 c481 => ?_)
  have hF := hF.put kC_at29 (k := 8) (by decide) k482
  refine lv_aload_n hx hb dX7_readFrom_5 rfl (lv_at hl 0 rfl) ?_
  refine lv_iconst (v := 0) hx hb dX7_readFrom_6 (by decide) ?_
  refine tk_puti hC hK hw hT hinX7 tyX7_ok nmX7 kC_at29 (by decide) rfl rfl 9 (by decide) (List.mem_of_getElem? (i := 2) rfl) rfl rfl rfl rfl (by decide) (by decide) dX7_readFrom_7 (fun H locs w483 hw hT k485 c484 => ?_)
  have hF := hF.put kC_at29 (k := 9) (by decide) k485
  have c486 := k485.gi (Or.inr (by decide)) c481
  refine lv_aload_n hx hb dX7_readFrom_10 rfl (lv_at hl 0 rfl) ?_
  refine lv_iconst (v := 0) hx hb dX7_readFrom_11 (by decide) ?_
  refine tk_puti hC hK hw hT hinX7 tyX7_ok nmX7 kC_at29 (by decide) rfl rfl 10 (by decide) (List.mem_of_getElem? (i := 3) rfl) rfl rfl rfl rfl (by decide) (by decide) dX7_readFrom_12 (fun H locs w487 hw hT k489 c488 => ?_)
  have hF := hF.put kC_at29 (k := 10) (by decide) k489
  have c490 := k489.gi (Or.inr (by decide)) c486
  have c491 := k489.gi (Or.inr (by decide)) c484
  refine lv_aload_n hx hb dX7_readFrom_15 rfl (lv_at hl 0 rfl) ?_
  refine lv_iconst (v := 0) hx hb dX7_readFrom_16 (by decide) ?_
  refine tk_puti hC hK hw hT hinX7 tyX7_ok nmX7 kC_at29 (by decide) rfl rfl 11 (by decide) (List.mem_of_getElem? (i := 4) rfl) rfl rfl rfl rfl (by decide) (by decide) dX7_readFrom_17 (fun H locs w492 hw hT k494 c493 => ?_)
  have hF := hF.put kC_at29 (k := 11) (by decide) k494
  have c495 := k494.gi (Or.inr (by decide)) c490
  have c496 := k494.gi (Or.inr (by decide)) c491
  have c497 := k494.gi (Or.inr (by decide)) c488
  refine lv_aload_n hx hb dX7_readFrom_20 rfl (lv_at hl 1 rfl) ?_
  refine tk_Vv hC hK hw hT hA hE hSR kC_at1 (by decide) rfl (k_X6_startReading_1 l adK adV dC dI cy ad B (by omega) (by omega) qr s1    w492 H.size hT ) (cwV 0 hC.2.2.2.2 gX7_readFrom_X6_startReading rfl rfl rfl (by decide +kernel) ⟨Nat.le_of_ble_eq_true rfl, Nat.le_of_ble_eq_true rfl⟩) rfl hl.1 rfl (Nat.le_of_ble_eq_true rfl) dX7_readFrom_21 (fun w500 H locs hp499 hw => ?_)
  obtain ⟨hT, k501, hg508⟩ := hp499
  have hF := hF.tr k501 (by decide)
  have c509 := k501.gi kC_at29 (by decide) c495
  have c510 := k501.gi kC_at29 (by decide) c496
  have c511 := k501.gi kC_at29 (by decide) c497
  have c512 := k501.gi kC_at29 (by decide) c493
  obtain ⟨⟨x502, c503, rx502, tx502⟩, ⟨x504, c505, rx504, tx504⟩, ⟨x506, c507, rx506, tx506⟩⟩ := hg508
  refine lv_iconst (v := 1) hx hb dX7_readFrom_24 (by decide) ?_
  refine lv_istore_n (lv' := [(2, .int 1), (0, .ref (ad 29)), (1, .ref (ad 1))]) hx hb dX7_readFrom_25 rfl hl (by decide) rfl (fun ls hl => ?_)
  refine lv_iconst (v := 0) hx hb dX7_readFrom_26 (by decide) ?_
  refine lv_istore_n (lv' := [(3, .int 0), (2, .int 1), (0, .ref (ad 29)), (1, .ref (ad 1))]) hx hb dX7_readFrom_27 rfl hl (by decide) rfl (fun ls hl => ?_)
  exact L28 ((33 - (0 : Int)).toNat + 1) 1 0 x506 0 0 0 H locs ls w500 (by decide) (by decide) (by decide) (by decide) (show 0 ≤ x506.toInt by omega) (show x506.toInt ≤ 3205 by omega) (by decide) (by decide) (by decide) (by decide) (by decide) (by decide) (Nat.lt_succ_self _) hw hT hF c507 c511 c512 c510 (lv_sub hl [2, 3, 1, 0] rfl)
abbrev P_X7_copyFrom_3 (ad : Nat → Nat) (cy : Nat → ClassId) (B : Int) (qr : Nat) (s1 : Int)  (w0 : va_W) : va_W → Prop := fun u => TW ksC ad cy B qr s1 u ∧ FE ksC [(7, 8, 8), (7, 9, 9), (7, 10, 10), (7, 11, 11), (24, 0, 100000), (25, 0, 100000), (26, 0, 100000), (27, 0, 100000), (28, 0, 100000), (29, 0, 100000), (30, 0, 100000), (31, 0, 100000)] w0 u ∧ (((∃ y : Int32, gi u 29 9 = y ∧ 0 ≤ y.toInt ∧ y.toInt ≤ 12) ∧ (∃ y : Int32, gi u 29 10 = y ∧ 0 ≤ y.toInt ∧ y.toInt ≤ 8) ∧ (∃ y : Int32, gi u 29 11 = y ∧ 0 ≤ y.toInt ∧ y.toInt ≤ 4)))
set_option maxHeartbeats 4000000 in
set_option maxRecDepth 100000 in
theorem k_X7_copyFrom_3 (l : Launch) (adK adV : Nat → Nat) (dC : Nat → ClassId) (dI : Nat → Nat → Nat) (cy : Nat → ClassId) (ad : Nat → Nat) (B : Int) (hB0 : 2147483648 ≤ B) (hB1 : B ≤ 1152921504606846976) (qr : Nat) (s1 : Int)   (w0 : va_W) (sz : Nat) (hT : TW ksC ad cy B qr s1 w0)  : Met l yX7_copyFrom wsX7_copyFrom ({ frames := 1, cells := 0, slots := 0, locals := 60 }) (va_Pc [.ref (ad 39), .ref (ad 29)] (wpreS adK adV dC dI cy sz w0)) (va_Qv (P_X7_copyFrom_3 ad cy B qr s1  w0) (fun u : va_W => wpost dC dI cy (va_A w0 sz) u) (va_A w0 sz)) 0 0 (va_A w0 sz) := by
  refine Met.ofW (cc := cX7_copyFrom) (maxL := 2) (ret := none) (by decide) rfl ?_
  intro p e s m args below meth c s₁ Bk hml hv
  obtain ⟨rfl, ⟨hsz, hP, hK, hD0⟩, hE, hSR⟩ := hv
  have hx := Bk.exec
  have hb := Bk.bytes
  have hr := Bk.returns
  have hlocks := Bk.notSynchronized
  have hC : CallFix p m c cX7_copyFrom 2 s _ wsX7_copyFrom RX7 := ⟨hx, hb, hml, findClass_of_methodNamed Bk.named, atoms_spec (ws := wsX7_copyFrom) Bk.pre⟩
  subst hsz
  have hD := hD0.self (sz := s.heap.size)
  generalize hAe : va_A w0 s.heap.size = A at hD hE ⊢
  have hA : ∀ q : Nat, s.heap.size ≤ q → A q := fun q h => by rw [← hAe]; exact Or.inr h
  have hw : Wd dC dI A s.heap s.heap [] w0 := ⟨hP, hD, va_S.rf⟩
  have hF : FE ksC [(7, 8, 8), (7, 9, 9), (7, 10, 10), (7, 11, 11), (24, 0, 100000), (25, 0, 100000), (26, 0, 100000), (27, 0, 100000), (28, 0, 100000), (29, 0, 100000), (30, 0, 100000), (31, 0, 100000)] w0 w0 := FE.rf
  have hl := lv_entry ([.ref (ad 39), .ref (ad 29)]) (n := 2) (Nat.le_of_ble_eq_true rfl)
  rw [lg_entry_eq]
  generalize (lg_sl ([.ref (ad 39), .ref (ad 29)]) ++ List.replicate (2 - (lg_sl ([.ref (ad 39), .ref (ad 29)])).length) Slot.unset).toArray = ls at hl ⊢
  have hl : lv_has ls 2 [(0, .ref (ad 39)), (1, .ref (ad 29))] := hl
  generalize hloc : ([] : List Loc) = locs at hw ⊢
  have hinX7 : ∀ w ∈ u_ws RX7 TX7 12, w ∈ wsX7_copyFrom := fun _ h => List.mem_cons_of_mem _ (List.mem_append_right _ (h))
  refine lv_aload_n hx hb dX7_copyFrom_0 rfl (lv_at hl 1 rfl) ?_
  refine tk_getO hC hK hw hT hinX7 kC_at29 (by decide) rfl 0 (by decide) (List.mem_of_getElem? (i := 1) rfl) rfl rfl dX7_copyFrom_1 ?_
  refine lv_iconst (v := 0) hx hb dX7_copyFrom_4 (by decide) ?_
  refine lv_aload_n hx hb dX7_copyFrom_5 rfl (lv_at hl 0 rfl) ?_
  refine tk_getO hC hK hw hT hinX7 kC_at39 (by decide) rfl 0 (by decide) (List.mem_of_getElem? (i := 1) rfl) rfl rfl dX7_copyFrom_6 ?_
  refine lv_iconst (v := 0) hx hb dX7_copyFrom_9 (by decide) ?_
  refine lv_aload_n hx hb dX7_copyFrom_10 rfl (lv_at hl 0 rfl) ?_
  refine tk_getO hC hK hw hT hinX7 kC_at39 (by decide) rfl 0 (by decide) (List.mem_of_getElem? (i := 1) rfl) rfl rfl dX7_copyFrom_11 ?_
  refine tk_alen (v := 26) hC hK hw hT kC_at40 rfl (by decide) rfl (by decide) dX7_copyFrom_14 ?_
  refine tk_copy hC hK hw hT hl.1 (List.mem_of_getElem? (i := 2) rfl) (List.mem_of_getElem? (i := 3) rfl) (List.mem_of_getElem? (i := 4) rfl) (List.mem_of_getElem? (i := 5) rfl) kC_at30 kC_at40 (by decide) rfl rfl rfl rfl (by decide) (by decide) (by decide) (by decide) (by decide) (by decide) (by decide) (by decide) (Nat.le_of_ble_eq_true rfl) (by decide +kernel) dX7_copyFrom_15 (fun H locs w1 hw hT k2 => ?_)
  have hF := hF.tr k2 (by decide)
  refine lv_aload_n hx hb dX7_copyFrom_18 rfl (lv_at hl 1 rfl) ?_
  refine tk_getO hC hK hw hT hinX7 kC_at29 (by decide) rfl 1 (by decide) (List.mem_of_getElem? (i := 6) rfl) rfl rfl dX7_copyFrom_19 ?_
  refine lv_iconst (v := 0) hx hb dX7_copyFrom_22 (by decide) ?_
  refine lv_aload_n hx hb dX7_copyFrom_23 rfl (lv_at hl 0 rfl) ?_
  refine tk_getO hC hK hw hT hinX7 kC_at39 (by decide) rfl 1 (by decide) (List.mem_of_getElem? (i := 6) rfl) rfl rfl dX7_copyFrom_24 ?_
  refine lv_iconst (v := 0) hx hb dX7_copyFrom_27 (by decide) ?_
  refine lv_aload_n hx hb dX7_copyFrom_28 rfl (lv_at hl 0 rfl) ?_
  refine tk_getO hC hK hw hT hinX7 kC_at39 (by decide) rfl 1 (by decide) (List.mem_of_getElem? (i := 6) rfl) rfl rfl dX7_copyFrom_29 ?_
  refine tk_alen (v := 13) hC hK hw hT kC_at41 rfl (by decide) rfl (by decide) dX7_copyFrom_32 ?_
  refine tk_copy hC hK hw hT hl.1 (List.mem_of_getElem? (i := 2) rfl) (List.mem_of_getElem? (i := 3) rfl) (List.mem_of_getElem? (i := 4) rfl) (List.mem_of_getElem? (i := 5) rfl) kC_at31 kC_at41 (by decide) rfl rfl rfl rfl (by decide) (by decide) (by decide) (by decide) (by decide) (by decide) (by decide) (by decide) (Nat.le_of_ble_eq_true rfl) (by decide +kernel) dX7_copyFrom_33 (fun H locs w3 hw hT k4 => ?_)
  have hF := hF.tr k4 (by decide)
  refine lv_aload_n hx hb dX7_copyFrom_36 rfl (lv_at hl 1 rfl) ?_
  refine tk_getO hC hK hw hT hinX7 kC_at29 (by decide) rfl 2 (by decide) (List.mem_of_getElem? (i := 7) rfl) rfl rfl dX7_copyFrom_37 ?_
  refine lv_iconst (v := 0) hx hb dX7_copyFrom_40 (by decide) ?_
  refine lv_aload_n hx hb dX7_copyFrom_41 rfl (lv_at hl 0 rfl) ?_
  refine tk_getO hC hK hw hT hinX7 kC_at39 (by decide) rfl 2 (by decide) (List.mem_of_getElem? (i := 7) rfl) rfl rfl dX7_copyFrom_42 ?_
  refine lv_iconst (v := 0) hx hb dX7_copyFrom_45 (by decide) ?_
  refine lv_aload_n hx hb dX7_copyFrom_46 rfl (lv_at hl 0 rfl) ?_
  refine tk_getO hC hK hw hT hinX7 kC_at39 (by decide) rfl 2 (by decide) (List.mem_of_getElem? (i := 7) rfl) rfl rfl dX7_copyFrom_47 ?_
  refine tk_alen (v := 91) hC hK hw hT kC_at42 rfl (by decide) rfl (by decide) dX7_copyFrom_50 ?_
  refine tk_copy hC hK hw hT hl.1 (List.mem_of_getElem? (i := 2) rfl) (List.mem_of_getElem? (i := 3) rfl) (List.mem_of_getElem? (i := 4) rfl) (List.mem_of_getElem? (i := 5) rfl) kC_at32 kC_at42 (by decide) rfl rfl rfl rfl (by decide) (by decide) (by decide) (by decide) (by decide) (by decide) (by decide) (by decide) (Nat.le_of_ble_eq_true rfl) (by decide +kernel) dX7_copyFrom_51 (fun H locs w5 hw hT k6 => ?_)
  have hF := hF.tr k6 (by decide)
  refine lv_aload_n hx hb dX7_copyFrom_54 rfl (lv_at hl 1 rfl) ?_
  refine tk_getO hC hK hw hT hinX7 kC_at29 (by decide) rfl 3 (by decide) (List.mem_of_getElem? (i := 8) rfl) rfl rfl dX7_copyFrom_55 ?_
  refine lv_iconst (v := 0) hx hb dX7_copyFrom_58 (by decide) ?_
  refine lv_aload_n hx hb dX7_copyFrom_59 rfl (lv_at hl 0 rfl) ?_
  refine tk_getO hC hK hw hT hinX7 kC_at39 (by decide) rfl 3 (by decide) (List.mem_of_getElem? (i := 8) rfl) rfl rfl dX7_copyFrom_60 ?_
  refine lv_iconst (v := 0) hx hb dX7_copyFrom_63 (by decide) ?_
  refine lv_aload_n hx hb dX7_copyFrom_64 rfl (lv_at hl 0 rfl) ?_
  refine tk_getO hC hK hw hT hinX7 kC_at39 (by decide) rfl 3 (by decide) (List.mem_of_getElem? (i := 8) rfl) rfl rfl dX7_copyFrom_65 ?_
  refine tk_alen (v := 13) hC hK hw hT kC_at43 rfl (by decide) rfl (by decide) dX7_copyFrom_68 ?_
  refine tk_copy hC hK hw hT hl.1 (List.mem_of_getElem? (i := 2) rfl) (List.mem_of_getElem? (i := 3) rfl) (List.mem_of_getElem? (i := 4) rfl) (List.mem_of_getElem? (i := 5) rfl) kC_at33 kC_at43 (by decide) rfl rfl rfl rfl (by decide) (by decide) (by decide) (by decide) (by decide) (by decide) (by decide) (by decide) (Nat.le_of_ble_eq_true rfl) (by decide +kernel) dX7_copyFrom_69 (fun H locs w7 hw hT k8 => ?_)
  have hF := hF.tr k8 (by decide)
  refine lv_aload_n hx hb dX7_copyFrom_72 rfl (lv_at hl 1 rfl) ?_
  refine tk_getO hC hK hw hT hinX7 kC_at29 (by decide) rfl 4 (by decide) (List.mem_of_getElem? (i := 9) rfl) rfl rfl dX7_copyFrom_73 ?_
  refine lv_iconst (v := 0) hx hb dX7_copyFrom_76 (by decide) ?_
  refine lv_aload_n hx hb dX7_copyFrom_77 rfl (lv_at hl 0 rfl) ?_
  refine tk_getO hC hK hw hT hinX7 kC_at39 (by decide) rfl 4 (by decide) (List.mem_of_getElem? (i := 9) rfl) rfl rfl dX7_copyFrom_78 ?_
  refine lv_iconst (v := 0) hx hb dX7_copyFrom_81 (by decide) ?_
  refine lv_aload_n hx hb dX7_copyFrom_82 rfl (lv_at hl 0 rfl) ?_
  refine tk_getO hC hK hw hT hinX7 kC_at39 (by decide) rfl 4 (by decide) (List.mem_of_getElem? (i := 9) rfl) rfl rfl dX7_copyFrom_83 ?_
  refine tk_alen (v := 26) hC hK hw hT kC_at44 rfl (by decide) rfl (by decide) dX7_copyFrom_86 ?_
  refine tk_copy hC hK hw hT hl.1 (List.mem_of_getElem? (i := 2) rfl) (List.mem_of_getElem? (i := 3) rfl) (List.mem_of_getElem? (i := 4) rfl) (List.mem_of_getElem? (i := 5) rfl) kC_at34 kC_at44 (by decide) rfl rfl rfl rfl (by decide) (by decide) (by decide) (by decide) (by decide) (by decide) (by decide) (by decide) (Nat.le_of_ble_eq_true rfl) (by decide +kernel) dX7_copyFrom_87 (fun H locs w9 hw hT k10 => ?_)
  have hF := hF.tr k10 (by decide)
  refine lv_aload_n hx hb dX7_copyFrom_90 rfl (lv_at hl 1 rfl) ?_
  refine tk_getO hC hK hw hT hinX7 kC_at29 (by decide) rfl 5 (by decide) (List.mem_of_getElem? (i := 10) rfl) rfl rfl dX7_copyFrom_91 ?_
  refine lv_iconst (v := 0) hx hb dX7_copyFrom_94 (by decide) ?_
  refine lv_aload_n hx hb dX7_copyFrom_95 rfl (lv_at hl 0 rfl) ?_
  refine tk_getO hC hK hw hT hinX7 kC_at39 (by decide) rfl 5 (by decide) (List.mem_of_getElem? (i := 10) rfl) rfl rfl dX7_copyFrom_96 ?_
  refine lv_iconst (v := 0) hx hb dX7_copyFrom_99 (by decide) ?_
  refine lv_aload_n hx hb dX7_copyFrom_100 rfl (lv_at hl 0 rfl) ?_
  refine tk_getO hC hK hw hT hinX7 kC_at39 (by decide) rfl 5 (by decide) (List.mem_of_getElem? (i := 10) rfl) rfl rfl dX7_copyFrom_101 ?_
  refine tk_alen (v := 8) hC hK hw hT kC_at45 rfl (by decide) rfl (by decide) dX7_copyFrom_104 ?_
  refine tk_copy hC hK hw hT hl.1 (List.mem_of_getElem? (i := 2) rfl) (List.mem_of_getElem? (i := 3) rfl) (List.mem_of_getElem? (i := 4) rfl) (List.mem_of_getElem? (i := 5) rfl) kC_at35 kC_at45 (by decide) rfl rfl rfl rfl (by decide) (by decide) (by decide) (by decide) (by decide) (by decide) (by decide) (by decide) (Nat.le_of_ble_eq_true rfl) (by decide +kernel) dX7_copyFrom_105 (fun H locs w11 hw hT k12 => ?_)
  have hF := hF.tr k12 (by decide)
  refine lv_aload_n hx hb dX7_copyFrom_108 rfl (lv_at hl 1 rfl) ?_
  refine tk_getO hC hK hw hT hinX7 kC_at29 (by decide) rfl 6 (by decide) (List.mem_of_getElem? (i := 11) rfl) rfl rfl dX7_copyFrom_109 ?_
  refine lv_iconst (v := 0) hx hb dX7_copyFrom_112 (by decide) ?_
  refine lv_aload_n hx hb dX7_copyFrom_113 rfl (lv_at hl 0 rfl) ?_
  refine tk_getO hC hK hw hT hinX7 kC_at39 (by decide) rfl 6 (by decide) (List.mem_of_getElem? (i := 11) rfl) rfl rfl dX7_copyFrom_114 ?_
  refine lv_iconst (v := 0) hx hb dX7_copyFrom_117 (by decide) ?_
  refine lv_aload_n hx hb dX7_copyFrom_118 rfl (lv_at hl 0 rfl) ?_
  refine tk_getO hC hK hw hT hinX7 kC_at39 (by decide) rfl 6 (by decide) (List.mem_of_getElem? (i := 11) rfl) rfl rfl dX7_copyFrom_119 ?_
  refine tk_alen (v := 8) hC hK hw hT kC_at46 rfl (by decide) rfl (by decide) dX7_copyFrom_122 ?_
  refine tk_copy hC hK hw hT hl.1 (List.mem_of_getElem? (i := 2) rfl) (List.mem_of_getElem? (i := 3) rfl) (List.mem_of_getElem? (i := 4) rfl) (List.mem_of_getElem? (i := 5) rfl) kC_at36 kC_at46 (by decide) rfl rfl rfl rfl (by decide) (by decide) (by decide) (by decide) (by decide) (by decide) (by decide) (by decide) (Nat.le_of_ble_eq_true rfl) (by decide +kernel) dX7_copyFrom_123 (fun H locs w13 hw hT k14 => ?_)
  have hF := hF.tr k14 (by decide)
  refine lv_aload_n hx hb dX7_copyFrom_126 rfl (lv_at hl 1 rfl) ?_
  refine tk_getO hC hK hw hT hinX7 kC_at29 (by decide) rfl 7 (by decide) (List.mem_of_getElem? (i := 12) rfl) rfl rfl dX7_copyFrom_127 ?_
  refine lv_iconst (v := 0) hx hb dX7_copyFrom_130 (by decide) ?_
  refine lv_aload_n hx hb dX7_copyFrom_131 rfl (lv_at hl 0 rfl) ?_
  refine tk_getO hC hK hw hT hinX7 kC_at39 (by decide) rfl 7 (by decide) (List.mem_of_getElem? (i := 12) rfl) rfl rfl dX7_copyFrom_132 ?_
  refine lv_iconst (v := 0) hx hb dX7_copyFrom_135 (by decide) ?_
  refine lv_aload_n hx hb dX7_copyFrom_136 rfl (lv_at hl 0 rfl) ?_
  refine tk_getO hC hK hw hT hinX7 kC_at39 (by decide) rfl 7 (by decide) (List.mem_of_getElem? (i := 12) rfl) rfl rfl dX7_copyFrom_137 ?_
  refine tk_alen (v := 13) hC hK hw hT kC_at47 rfl (by decide) rfl (by decide) dX7_copyFrom_140 ?_
  refine tk_copy hC hK hw hT hl.1 (List.mem_of_getElem? (i := 2) rfl) (List.mem_of_getElem? (i := 3) rfl) (List.mem_of_getElem? (i := 4) rfl) (List.mem_of_getElem? (i := 5) rfl) kC_at37 kC_at47 (by decide) rfl rfl rfl rfl (by decide) (by decide) (by decide) (by decide) (by decide) (by decide) (by decide) (by decide) (Nat.le_of_ble_eq_true rfl) (by decide +kernel) dX7_copyFrom_141 (fun H locs w15 hw hT k16 => ?_)
  have hF := hF.tr k16 (by decide)
  refine lv_aload_n hx hb dX7_copyFrom_144 rfl (lv_at hl 0 rfl) ?_
  refine lv_aload_n hx hb dX7_copyFrom_145 rfl (lv_at hl 1 rfl) ?_
  refine tk_geti hC hK hw hT hinX7 kC_at29 (by decide) rfl 8 (by decide) (List.mem_of_getElem? (i := 13) rfl) rfl rfl dX7_copyFrom_146 (fun x17 c18 rx17 tx17 => ?_)
  refine tk_puti hC hK hw hT hinX7 tyX7_ok nmX7 kC_at39 (by decide) rfl rfl 8 (by decide) (List.mem_of_getElem? (i := 13) rfl) rfl rfl rfl rfl (show (-1) ≤ x17.toInt by omega) (show x17.toInt ≤ 10 by omega) dX7_copyFrom_149 (fun H locs w19 hw hT k21 c20 => ?_)
  have hF := hF.put kC_at39 (k := 8) (by decide) k21
  have c22 := k21.gi (Or.inl (by decide)) c18
  refine lv_aload_n hx hb dX7_copyFrom_152 rfl (lv_at hl 0 rfl) ?_
  refine lv_aload_n hx hb dX7_copyFrom_153 rfl (lv_at hl 1 rfl) ?_
  refine tk_geti hC hK hw hT hinX7 kC_at29 (by decide) rfl 9 (by decide) (List.mem_of_getElem? (i := 14) rfl) rfl rfl dX7_copyFrom_154 (fun x23 c24 rx23 tx23 => ?_)
  refine tk_puti hC hK hw hT hinX7 tyX7_ok nmX7 kC_at39 (by decide) rfl rfl 9 (by decide) (List.mem_of_getElem? (i := 14) rfl) rfl rfl rfl rfl (show 0 ≤ x23.toInt by omega) (show x23.toInt ≤ 12 by omega) dX7_copyFrom_157 (fun H locs w25 hw hT k27 c26 => ?_)
  have hF := hF.put kC_at39 (k := 9) (by decide) k27
  have c28 := k27.gi (Or.inr (by decide)) c22
  have c29 := k27.gi (Or.inr (by decide)) c20
  have c30 := k27.gi (Or.inl (by decide)) c24
  refine lv_aload_n hx hb dX7_copyFrom_160 rfl (lv_at hl 0 rfl) ?_
  refine lv_aload_n hx hb dX7_copyFrom_161 rfl (lv_at hl 1 rfl) ?_
  refine tk_geti hC hK hw hT hinX7 kC_at29 (by decide) rfl 10 (by decide) (List.mem_of_getElem? (i := 15) rfl) rfl rfl dX7_copyFrom_162 (fun x31 c32 rx31 tx31 => ?_)
  refine tk_puti hC hK hw hT hinX7 tyX7_ok nmX7 kC_at39 (by decide) rfl rfl 10 (by decide) (List.mem_of_getElem? (i := 15) rfl) rfl rfl rfl rfl (show 0 ≤ x31.toInt by omega) (show x31.toInt ≤ 8 by omega) dX7_copyFrom_165 (fun H locs w33 hw hT k35 c34 => ?_)
  have hF := hF.put kC_at39 (k := 10) (by decide) k35
  have c36 := k35.gi (Or.inr (by decide)) c28
  have c37 := k35.gi (Or.inr (by decide)) c29
  have c38 := k35.gi (Or.inr (by decide)) c30
  have c39 := k35.gi (Or.inr (by decide)) c26
  have c40 := k35.gi (Or.inl (by decide)) c32
  refine lv_aload_n hx hb dX7_copyFrom_168 rfl (lv_at hl 0 rfl) ?_
  refine lv_aload_n hx hb dX7_copyFrom_169 rfl (lv_at hl 1 rfl) ?_
  refine tk_geti hC hK hw hT hinX7 kC_at29 (by decide) rfl 11 (by decide) (List.mem_of_getElem? (i := 16) rfl) rfl rfl dX7_copyFrom_170 (fun x41 c42 rx41 tx41 => ?_)
  refine tk_puti hC hK hw hT hinX7 tyX7_ok nmX7 kC_at39 (by decide) rfl rfl 11 (by decide) (List.mem_of_getElem? (i := 16) rfl) rfl rfl rfl rfl (show 0 ≤ x41.toInt by omega) (show x41.toInt ≤ 4 by omega) dX7_copyFrom_173 (fun H locs w43 hw hT k45 c44 => ?_)
  have hF := hF.put kC_at39 (k := 11) (by decide) k45
  have c46 := k45.gi (Or.inr (by decide)) c36
  have c47 := k45.gi (Or.inr (by decide)) c37
  have c48 := k45.gi (Or.inr (by decide)) c38
  have c49 := k45.gi (Or.inr (by decide)) c39
  have c50 := k45.gi (Or.inr (by decide)) c40
  have c51 := k45.gi (Or.inr (by decide)) c34
  have c52 := k45.gi (Or.inl (by decide)) c42
  exact tk_vret hC hr hlocks hK ⟨hT, hF, ⟨⟨x23, c48, (show 0 ≤ x23.toInt by omega), (show x23.toInt ≤ 12 by omega)⟩, ⟨x31, c50, (show 0 ≤ x31.toInt by omega), (show x31.toInt ≤ 8 by omega)⟩, ⟨x41, c52, (show 0 ≤ x41.toInt by omega), (show x41.toInt ≤ 4 by omega)⟩⟩⟩ hw dX7_copyFrom_176
abbrev P_X5_moveTo_3 (ad : Nat → Nat) (cy : Nat → ClassId) (B : Int) (qr : Nat) (s1 : Int)  (w0 : va_W) : va_W → Prop := fun u => TW ksC ad cy B qr s1 u ∧ FE ksC [(5, 8, 8), (5, 9, 9), (5, 10, 10), (5, 11, 11), (5, 12, 12), (7, 8, 8), (7, 9, 9), (7, 10, 10), (7, 11, 11), (24, 0, 100000), (25, 0, 100000), (26, 0, 100000), (27, 0, 100000), (28, 0, 100000), (29, 0, 100000), (30, 0, 100000), (31, 0, 100000)] w0 u ∧ (((∃ y : Int32, gi u 29 9 = y ∧ 0 ≤ y.toInt ∧ y.toInt ≤ 12) ∧ (∃ y : Int32, gi u 29 10 = y ∧ 0 ≤ y.toInt ∧ y.toInt ≤ 8) ∧ (∃ y : Int32, gi u 29 11 = y ∧ 0 ≤ y.toInt ∧ y.toInt ≤ 4) ∧ (∃ y : Int32, gi u 38 8 = y ∧ 0 ≤ y.toInt ∧ y.toInt ≤ 0) ∧ (∃ y : Int32, gi u 38 9 = y ∧ 0 ≤ y.toInt ∧ y.toInt ≤ 0) ∧ (∃ y : Int32, gi u 38 10 = y ∧ 0 ≤ y.toInt ∧ y.toInt ≤ 0) ∧ (∃ y : Int32, gi u 38 11 = y ∧ 0 ≤ y.toInt ∧ y.toInt ≤ 0) ∧ (∃ y : Int32, gi u 38 12 = y ∧ 0 ≤ y.toInt ∧ y.toInt ≤ 0)))
set_option maxHeartbeats 4000000 in
set_option maxRecDepth 100000 in
theorem k_X5_moveTo_3 (l : Launch) (adK adV : Nat → Nat) (dC : Nat → ClassId) (dI : Nat → Nat → Nat) (cy : Nat → ClassId) (ad : Nat → Nat) (B : Int) (hB0 : 2147483648 ≤ B) (hB1 : B ≤ 1152921504606846976) (qr : Nat) (s1 : Int)   (w0 : va_W) (sz : Nat) (hT : TW ksC ad cy B qr s1 w0)  : Met l yX5_moveTo wsX5_moveTo ({ frames := 2, cells := 0, slots := 0, locals := 81 }) (va_Pc [.ref (ad 38), .ref (ad 29)] (wpreS adK adV dC dI cy sz w0)) (va_Qv (P_X5_moveTo_3 ad cy B qr s1  w0) (fun u : va_W => wpost dC dI cy (va_A w0 sz) u) (va_A w0 sz)) 0 0 (va_A w0 sz) := by
  refine Met.ofW (cc := cX5_moveTo) (maxL := 2) (ret := none) (by decide) rfl ?_
  intro p e s m args below meth c s₁ Bk hml hv
  obtain ⟨rfl, ⟨hsz, hP, hK, hD0⟩, hE, hSR⟩ := hv
  have hx := Bk.exec
  have hb := Bk.bytes
  have hr := Bk.returns
  have hlocks := Bk.notSynchronized
  have hC : CallFix p m c cX5_moveTo 2 s _ wsX5_moveTo RX5 := ⟨hx, hb, hml, findClass_of_methodNamed Bk.named, atoms_spec (ws := wsX5_moveTo) Bk.pre⟩
  subst hsz
  have hD := hD0.self (sz := s.heap.size)
  generalize hAe : va_A w0 s.heap.size = A at hD hE ⊢
  have hA : ∀ q : Nat, s.heap.size ≤ q → A q := fun q h => by rw [← hAe]; exact Or.inr h
  have hw : Wd dC dI A s.heap s.heap [] w0 := ⟨hP, hD, va_S.rf⟩
  have hF : FE ksC [(5, 8, 8), (5, 9, 9), (5, 10, 10), (5, 11, 11), (5, 12, 12), (7, 8, 8), (7, 9, 9), (7, 10, 10), (7, 11, 11), (24, 0, 100000), (25, 0, 100000), (26, 0, 100000), (27, 0, 100000), (28, 0, 100000), (29, 0, 100000), (30, 0, 100000), (31, 0, 100000)] w0 w0 := FE.rf
  have hl := lv_entry ([.ref (ad 38), .ref (ad 29)]) (n := 2) (Nat.le_of_ble_eq_true rfl)
  rw [lg_entry_eq]
  generalize (lg_sl ([.ref (ad 38), .ref (ad 29)]) ++ List.replicate (2 - (lg_sl ([.ref (ad 38), .ref (ad 29)])).length) Slot.unset).toArray = ls at hl ⊢
  have hl : lv_has ls 2 [(0, .ref (ad 38)), (1, .ref (ad 29))] := hl
  generalize hloc : ([] : List Loc) = locs at hw ⊢
  have hinX5 : ∀ w ∈ u_ws RX5 TX5 14, w ∈ wsX5_moveTo := fun _ h => List.mem_cons_of_mem _ (List.mem_append_left _ (List.mem_append_right _ (h)))
  refine lv_aload_n hx hb dX5_moveTo_0 rfl (lv_at hl 0 rfl) ?_
  refine tk_getO hC hK hw hT hinX5 kC_at38 (by decide) rfl 0 (by decide) (List.mem_of_getElem? (i := 1) rfl) rfl rfl dX5_moveTo_1 ?_
  refine lv_aload_n hx hb dX5_moveTo_4 rfl (lv_at hl 1 rfl) ?_
  refine tk_Vv hC hK hw hT hA hE hSR kC_at39 (by decide) rfl (k_X7_copyFrom_3 l adK adV dC dI cy ad B (by omega) (by omega) qr s1    w0 s.heap.size hT ) (cwV 1 hC.2.2.2.2 gX5_moveTo_X7_copyFrom rfl rfl rfl (by decide +kernel) ⟨Nat.le_of_ble_eq_true rfl, Nat.le_of_ble_eq_true rfl⟩) rfl hl.1 rfl (Nat.le_of_ble_eq_true rfl) dX5_moveTo_5 (fun w3 H locs hp2 hw => ?_)
  obtain ⟨hT, k4, hg11⟩ := hp2
  have hF := hF.tr k4 (by decide)
  obtain ⟨⟨x5, c6, rx5, tx5⟩, ⟨x7, c8, rx7, tx7⟩, ⟨x9, c10, rx9, tx9⟩⟩ := hg11
  refine lv_aload_n hx hb dX5_moveTo_8 rfl (lv_at hl 0 rfl) ?_
  refine lv_iconst (v := 0) hx hb dX5_moveTo_9 (by decide) ?_
  refine tk_puti hC hK hw hT hinX5 tyX5_ok nmX5 kC_at38 (by decide) rfl rfl 8 (by decide) (List.mem_of_getElem? (i := 2) rfl) rfl rfl rfl rfl (by decide) (by decide) dX5_moveTo_10 (fun H locs w12 hw hT k14 c13 => ?_)
  have hF := hF.put kC_at38 (k := 8) (by decide) k14
  have c15 := k14.gi (Or.inr (by decide)) c6
  have c16 := k14.gi (Or.inr (by decide)) c8
  have c17 := k14.gi (Or.inr (by decide)) c10
  refine lv_aload_n hx hb dX5_moveTo_13 rfl (lv_at hl 0 rfl) ?_
  refine lv_iconst (v := 0) hx hb dX5_moveTo_14 (by decide) ?_
  refine tk_puti hC hK hw hT hinX5 tyX5_ok nmX5 kC_at38 (by decide) rfl rfl 9 (by decide) (List.mem_of_getElem? (i := 3) rfl) rfl rfl rfl rfl (by decide) (by decide) dX5_moveTo_15 (fun H locs w18 hw hT k20 c19 => ?_)
  have hF := hF.put kC_at38 (k := 9) (by decide) k20
  have c21 := k20.gi (Or.inl (tk_ne kC_at29 kC_at38 (by decide))) c15
  have c22 := k20.gi (Or.inr (by decide)) c16
  have c23 := k20.gi (Or.inr (by decide)) c17
  have c24 := k20.gi (Or.inr (by decide)) c13
  refine lv_aload_n hx hb dX5_moveTo_18 rfl (lv_at hl 0 rfl) ?_
  refine lv_iconst (v := 0) hx hb dX5_moveTo_19 (by decide) ?_
  refine tk_puti hC hK hw hT hinX5 tyX5_ok nmX5 kC_at38 (by decide) rfl rfl 10 (by decide) (List.mem_of_getElem? (i := 4) rfl) rfl rfl rfl rfl (by decide) (by decide) dX5_moveTo_20 (fun H locs w25 hw hT k27 c26 => ?_)
  have hF := hF.put kC_at38 (k := 10) (by decide) k27
  have c28 := k27.gi (Or.inr (by decide)) c21
  have c29 := k27.gi (Or.inl (tk_ne kC_at29 kC_at38 (by decide))) c22
  have c30 := k27.gi (Or.inr (by decide)) c23
  have c31 := k27.gi (Or.inr (by decide)) c24
  have c32 := k27.gi (Or.inr (by decide)) c19
  refine lv_aload_n hx hb dX5_moveTo_23 rfl (lv_at hl 0 rfl) ?_
  refine lv_iconst (v := 0) hx hb dX5_moveTo_24 (by decide) ?_
  refine tk_puti hC hK hw hT hinX5 tyX5_ok nmX5 kC_at38 (by decide) rfl rfl 11 (by decide) (List.mem_of_getElem? (i := 5) rfl) rfl rfl rfl rfl (by decide) (by decide) dX5_moveTo_25 (fun H locs w33 hw hT k35 c34 => ?_)
  have hF := hF.put kC_at38 (k := 11) (by decide) k35
  have c36 := k35.gi (Or.inr (by decide)) c28
  have c37 := k35.gi (Or.inr (by decide)) c29
  have c38 := k35.gi (Or.inl (tk_ne kC_at29 kC_at38 (by decide))) c30
  have c39 := k35.gi (Or.inr (by decide)) c31
  have c40 := k35.gi (Or.inr (by decide)) c32
  have c41 := k35.gi (Or.inr (by decide)) c26
  refine lv_aload_n hx hb dX5_moveTo_28 rfl (lv_at hl 0 rfl) ?_
  refine lv_iconst (v := 0) hx hb dX5_moveTo_29 (by decide) ?_
  refine tk_puti hC hK hw hT hinX5 tyX5_ok nmX5 kC_at38 (by decide) rfl rfl 12 (by decide) (List.mem_of_getElem? (i := 6) rfl) rfl rfl rfl rfl (by decide) (by decide) dX5_moveTo_30 (fun H locs w42 hw hT k44 c43 => ?_)
  have hF := hF.put kC_at38 (k := 12) (by decide) k44
  have c45 := k44.gi (Or.inr (by decide)) c36
  have c46 := k44.gi (Or.inr (by decide)) c37
  have c47 := k44.gi (Or.inr (by decide)) c38
  have c48 := k44.gi (Or.inr (by decide)) c39
  have c49 := k44.gi (Or.inr (by decide)) c40
  have c50 := k44.gi (Or.inr (by decide)) c41
  have c51 := k44.gi (Or.inr (by decide)) c34
  exact tk_vret hC hr hlocks hK ⟨hT, hF, ⟨⟨x5, c45, (show 0 ≤ x5.toInt by omega), (show x5.toInt ≤ 12 by omega)⟩, ⟨x7, c46, (show 0 ≤ x7.toInt by omega), (show x7.toInt ≤ 8 by omega)⟩, ⟨x9, c47, (show 0 ≤ x9.toInt by omega), (show x9.toInt ≤ 4 by omega)⟩, ⟨0, c48, (by decide), (by decide)⟩, ⟨0, c49, (by decide), (by decide)⟩, ⟨0, c50, (by decide), (by decide)⟩, ⟨0, c51, (by decide), (by decide)⟩, ⟨0, c43, (by decide), (by decide)⟩⟩⟩ hw dX5_moveTo_33
abbrev P_X11_town_1 (ad : Nat → Nat) (cy : Nat → ClassId) (B : Int) (qr : Nat) (s1 : Int)  (w0 : va_W) : Int32 → va_W → Prop := fun r u => TW ksC ad cy B qr s1 u ∧ FE ksC [(5, 8, 8), (5, 9, 9), (5, 10, 10), (5, 11, 11), (5, 12, 12), (6, 1, 1), (6, 2, 2), (6, 3, 3), (6, 4, 4), (7, 8, 8), (7, 9, 9), (7, 10, 10), (7, 11, 11), (24, 0, 26), (24, 0, 100000), (25, 0, 13), (25, 0, 100000), (26, 0, 91), (26, 0, 100000), (27, 0, 13), (27, 0, 100000), (28, 0, 26), (28, 0, 100000), (29, 0, 8), (29, 0, 100000), (30, 0, 8), (30, 0, 100000), (31, 0, 13), (31, 0, 100000), (44, 0, 11)] w0 u ∧ (((-3207) ≤ r.toInt ∧ r.toInt ≤ (-3) ∧ (∃ y : Int32, gi u 1 2 = y ∧ 0 ≤ y.toInt ∧ y.toInt ≤ 0) ∧ (∃ y : Int32, gi u 1 4 = y ∧ 1 ≤ y.toInt ∧ y.toInt ≤ 3205) ∧ (∃ y : Int32, gi u 29 9 = y ∧ 0 ≤ y.toInt ∧ y.toInt ≤ 12) ∧ (∃ y : Int32, gi u 29 10 = y ∧ 0 ≤ y.toInt ∧ y.toInt ≤ 8) ∧ (∃ y : Int32, gi u 29 11 = y ∧ 0 ≤ y.toInt ∧ y.toInt ≤ 4)) ∨ (0 ≤ r.toInt ∧ r.toInt ≤ 12 ∧ (∃ y : Int32, gi u 1 2 = y ∧ 0 ≤ y.toInt ∧ y.toInt ≤ 0) ∧ (∃ y : Int32, gi u 1 4 = y ∧ 0 ≤ y.toInt ∧ y.toInt ≤ 0) ∧ (∃ y : Int32, gi u 29 9 = y ∧ 0 ≤ y.toInt ∧ y.toInt ≤ 12) ∧ (∃ y : Int32, gi u 29 10 = y ∧ 0 ≤ y.toInt ∧ y.toInt ≤ 8) ∧ (∃ y : Int32, gi u 29 11 = y ∧ 0 ≤ y.toInt ∧ y.toInt ≤ 4) ∧ (∃ y : Int32, gi u 38 8 = y ∧ 0 ≤ y.toInt ∧ y.toInt ≤ 0) ∧ (∃ y : Int32, gi u 38 9 = y ∧ 0 ≤ y.toInt ∧ y.toInt ≤ 0) ∧ (∃ y : Int32, gi u 38 10 = y ∧ 0 ≤ y.toInt ∧ y.toInt ≤ 0) ∧ (∃ y : Int32, gi u 38 11 = y ∧ 0 ≤ y.toInt ∧ y.toInt ≤ 0) ∧ (∃ y : Int32, gi u 38 12 = y ∧ 0 ≤ y.toInt ∧ y.toInt ≤ 0)))
set_option maxHeartbeats 4000000 in
set_option maxRecDepth 100000 in
theorem k_X11_town_1 (l : Launch) (adK adV : Nat → Nat) (dC : Nat → ClassId) (dI : Nat → Nat → Nat) (cy : Nat → ClassId) (ad : Nat → Nat) (B : Int) (hB0 : 2147483648 ≤ B) (hB1 : B ≤ 1152921504606846976) (qr : Nat) (s1 : Int)   (w0 : va_W) (sz : Nat) (hT : TW ksC ad cy B qr s1 w0)  : Met l yX11_town wsX11_town ({ frames := 9, cells := 0, slots := 0, locals := 255 }) (va_Pc [.ref (ad 0)] (wpreS adK adV dC dI cy sz w0)) (va_Qi (P_X11_town_1 ad cy B qr s1  w0) (fun u : va_W => wpost dC dI cy (va_A w0 sz) u) (va_A w0 sz)) 0 0 (va_A w0 sz) := by
  refine Met.ofW (cc := cX11_town) (maxL := 2) (ret := (some .int)) (by decide) rfl ?_
  intro p e s m args below meth c s₁ Bk hml hv
  obtain ⟨rfl, ⟨hsz, hP, hK, hD0⟩, hE, hSR⟩ := hv
  have hx := Bk.exec
  have hb := Bk.bytes
  have hr := Bk.returns
  have hlocks := Bk.notSynchronized
  have hC : CallFix p m c cX11_town 2 s _ wsX11_town RX11 := ⟨hx, hb, hml, findClass_of_methodNamed Bk.named, atoms_spec (ws := wsX11_town) Bk.pre⟩
  subst hsz
  have hD := hD0.self (sz := s.heap.size)
  generalize hAe : va_A w0 s.heap.size = A at hD hE ⊢
  have hA : ∀ q : Nat, s.heap.size ≤ q → A q := fun q h => by rw [← hAe]; exact Or.inr h
  have hw : Wd dC dI A s.heap s.heap [] w0 := ⟨hP, hD, va_S.rf⟩
  have hF : FE ksC [(5, 8, 8), (5, 9, 9), (5, 10, 10), (5, 11, 11), (5, 12, 12), (6, 1, 1), (6, 2, 2), (6, 3, 3), (6, 4, 4), (7, 8, 8), (7, 9, 9), (7, 10, 10), (7, 11, 11), (24, 0, 26), (24, 0, 100000), (25, 0, 13), (25, 0, 100000), (26, 0, 91), (26, 0, 100000), (27, 0, 13), (27, 0, 100000), (28, 0, 26), (28, 0, 100000), (29, 0, 8), (29, 0, 100000), (30, 0, 8), (30, 0, 100000), (31, 0, 13), (31, 0, 100000), (44, 0, 11)] w0 w0 := FE.rf
  have hl := lv_entry ([.ref (ad 0)]) (n := 2) (Nat.le_of_ble_eq_true rfl)
  rw [lg_entry_eq]
  generalize (lg_sl ([.ref (ad 0)]) ++ List.replicate (2 - (lg_sl ([.ref (ad 0)])).length) Slot.unset).toArray = ls at hl ⊢
  have hl : lv_has ls 2 [(0, .ref (ad 0))] := hl
  generalize hloc : ([] : List Loc) = locs at hw ⊢
  have hinX11 : ∀ w ∈ u_ws RX11 TX11 13, w ∈ wsX11_town := fun _ h => List.mem_cons_of_mem _ (List.mem_append_left _ (List.mem_append_left _ (List.mem_append_left _ (List.mem_append_left _ (List.mem_append_right _ (h))))))
  have hinX6 : ∀ w ∈ u_ws RX6 TX6 5, w ∈ wsX11_town := fun _ h => List.mem_cons_of_mem _ (List.mem_append_left _ (List.mem_append_left _ (List.mem_append_left _ (List.mem_append_right _ (h)))))
  have hinX5 : ∀ w ∈ u_ws RX5 TX5 14, w ∈ wsX11_town := fun _ h => List.mem_cons_of_mem _ (List.mem_append_left _ (List.mem_append_left _ (List.mem_append_right _ (h))))
  have hinX7 : ∀ w ∈ u_ws RX7 TX7 12, w ∈ wsX11_town := fun _ h => List.mem_cons_of_mem _ (List.mem_append_left _ (List.mem_append_right _ (h)))
  refine lv_aload_n hx hb dX11_town_0 rfl (lv_at hl 0 rfl) ?_
  refine tk_getA hC hK hw hT hinX11 kC_at0 (by decide) rfl 1 (by decide) (List.mem_of_getElem? (i := 1) rfl) rfl rfl dX11_town_1 ?_
  refine lv_aload_n hx hb dX11_town_4 rfl (lv_at hl 0 rfl) ?_
  refine tk_getA hC hK hw hT hinX11 kC_at0 (by decide) rfl 0 (by decide) (List.mem_of_getElem? (i := 2) rfl) rfl rfl dX11_town_5 ?_
  refine tk_Vv hC hK hw hT hA hE hSR kC_at29 (by decide) rfl (k_X7_readFrom_1 l adK adV dC dI cy ad B (by omega) (by omega) qr s1    w0 s.heap.size hT ) (cwV 1 hC.2.2.2.2 gX11_town_X7_readFrom rfl rfl rfl (by decide +kernel) ⟨Nat.le_of_ble_eq_true rfl, Nat.le_of_ble_eq_true rfl⟩) rfl hl.1 rfl (Nat.le_of_ble_eq_true rfl) dX11_town_8 (fun w3 H locs hp2 hw => ?_)
  obtain ⟨hT, k4, hg13⟩ := hp2
  have hF := hF.tr k4 (by decide)
  obtain ⟨⟨x5, c6, rx5, tx5⟩, ⟨x7, c8, rx7, tx7⟩, ⟨x9, c10, rx9, tx9⟩, ⟨x11, c12, rx11, tx11⟩⟩ := hg13
  refine lv_aload_n hx hb dX11_town_11 rfl (lv_at hl 0 rfl) ?_
  refine tk_getA hC hK hw hT hinX11 kC_at0 (by decide) rfl 0 (by decide) (List.mem_of_getElem? (i := 2) rfl) rfl rfl dX11_town_12 ?_
  refine tk_geti hC hK hw hT hinX6 kC_at1 (by decide) rfl 4 (by decide) (List.mem_of_getElem? (i := 3) rfl) rfl rfl dX11_town_15 (fun x14 c15 rx14 tx14 => ?_)
  refine wk_top x5 (c15.symm.trans c6) ?_
  refine lv_istore_n (lv' := [(1, .int x5), (0, .ref (ad 0))]) hx hb dX11_town_18 rfl hl (by decide) rfl (fun ls hl => ?_)
  refine lv_aload_n hx hb dX11_town_19 rfl (lv_at hl 1 rfl) ?_
  refine tk_getA hC hK hw hT hinX11 kC_at0 (by decide) rfl 0 (by decide) (List.mem_of_getElem? (i := 2) rfl) rfl rfl dX11_town_20 ?_
  refine lv_iconst (v := 0) hx hb dX11_town_23 (by decide) ?_
  refine tk_puti hC hK hw hT hinX6 tyX6_ok nmX6 kC_at1 (by decide) rfl rfl 2 (by decide) (List.mem_of_getElem? (i := 4) rfl) rfl rfl rfl rfl (by decide) (by decide) dX11_town_24 (fun H locs w16 hw hT k18 c17 => ?_)
  have hF := hF.put kC_at1 (k := 2) (by decide) k18
  have c19 := k18.gi (Or.inr (by decide)) c6
  have c20 := k18.gi (Or.inr (by decide)) c8
  have c21 := k18.gi (Or.inr (by decide)) c10
  have c22 := k18.gi (Or.inr (by decide)) c12
  refine lv_iload_n hx hb dX11_town_27 rfl (lv_at hl 0 rfl) ?_
  refine lv_if_eq (tgt := 36) hx hb dX11_town_28 (by decide) (fun c23 => ?_) (fun c23 => ?_)
  · have c23 : x5.toInt = (0 : Int) := wk_eq.mp c23
    refine lv_aload_n hx hb dX11_town_36 rfl (lv_at hl 1 rfl) ?_
    refine tk_getA hC hK hw hT hinX11 kC_at0 (by decide) rfl 4 (by decide) (List.mem_of_getElem? (i := 5) rfl) rfl rfl dX11_town_37 ?_
    refine lv_aload_n hx hb dX11_town_40 rfl (lv_at hl 1 rfl) ?_
    refine tk_getA hC hK hw hT hinX11 kC_at0 (by decide) rfl 1 (by decide) (List.mem_of_getElem? (i := 1) rfl) rfl rfl dX11_town_41 ?_
    refine tk_Vv hC hK hw hT hA hE hSR kC_at38 (by decide) rfl (k_X5_moveTo_3 l adK adV dC dI cy ad B (by omega) (by omega) qr s1    w16 H.size hT ) (cwV 1 hC.2.2.2.2 gX11_town_X5_moveTo rfl rfl rfl (by decide +kernel) ⟨Nat.le_of_ble_eq_true rfl, Nat.le_of_ble_eq_true rfl⟩) rfl hl.1 rfl (Nat.le_of_ble_eq_true rfl) dX11_town_44 (fun w26 H locs hp25 hw => ?_)
    obtain ⟨hT, k27, hg44⟩ := hp25
    have hF := hF.tr k27 (by decide)
    have c45 := k27.gi kC_at1 (by decide) c19
    have c46 := k27.gi kC_at1 (by decide) c17
    obtain ⟨⟨x28, c29, rx28, tx28⟩, ⟨x30, c31, rx30, tx30⟩, ⟨x32, c33, rx32, tx32⟩, ⟨x34, c35, rx34, tx34⟩, ⟨x36, c37, rx36, tx36⟩, ⟨x38, c39, rx38, tx38⟩, ⟨x40, c41, rx40, tx40⟩, ⟨x42, c43, rx42, tx42⟩⟩ := hg44
    refine lv_aload_n hx hb dX11_town_47 rfl (lv_at hl 1 rfl) ?_
    refine tk_getA hC hK hw hT hinX11 kC_at0 (by decide) rfl 7 (by decide) (List.mem_of_getElem? (i := 6) rfl) rfl rfl dX11_town_48 ?_
    refine tk_Vv hC hK hw hT hA hE hSR kC_at145 (by decide) rfl (k_X0_forgetAll_1 l adK adV dC dI cy ad B (by omega) (by omega) qr s1    w26 H.size hT ) (cwV 0 hC.2.2.2.2 gX11_town_X0_forgetAll rfl rfl rfl (by decide +kernel) ⟨Nat.le_of_ble_eq_true rfl, Nat.le_of_ble_eq_true rfl⟩) rfl hl.1 rfl (Nat.le_of_ble_eq_true rfl) dX11_town_51 (fun w49 H locs hp48 hw => ?_)
    obtain ⟨hT, k50, hg51⟩ := hp48
    have hF := hF.tr k50 (by decide)
    have c52 := k50.gi kC_at1 (by decide) c45
    have c53 := k50.gi kC_at1 (by decide) c46
    have c54 := k50.gi kC_at29 (by decide) c29
    have c55 := k50.gi kC_at29 (by decide) c31
    have c56 := k50.gi kC_at29 (by decide) c33
    have c57 := k50.gi kC_at38 (by decide) c35
    have c58 := k50.gi kC_at38 (by decide) c37
    have c59 := k50.gi kC_at38 (by decide) c39
    have c60 := k50.gi kC_at38 (by decide) c41
    have c61 := k50.gi kC_at38 (by decide) c43
    clear hg51
    refine lv_aload_n hx hb dX11_town_54 rfl (lv_at hl 1 rfl) ?_
    refine tk_getA hC hK hw hT hinX11 kC_at0 (by decide) rfl 4 (by decide) (List.mem_of_getElem? (i := 5) rfl) rfl rfl dX11_town_55 ?_
    refine tk_getO hC hK hw hT hinX5 kC_at38 (by decide) rfl 0 (by decide) (List.mem_of_getElem? (i := 7) rfl) rfl rfl dX11_town_58 ?_
    refine tk_geti hC hK hw hT hinX7 kC_at39 (by decide) rfl 9 (by decide) (List.mem_of_getElem? (i := 8) rfl) rfl rfl dX11_town_61 (fun x62 c63 rx62 tx62 => ?_)
    exact tk_iret hC hr hlocks hK ⟨hT, hF, (Or.inr ⟨(show 0 ≤ x62.toInt by omega), (show x62.toInt ≤ 12 by omega), ⟨0, c53, (by decide), (by decide)⟩, ⟨x5, c52, (show 0 ≤ x5.toInt by omega), (show x5.toInt ≤ 0 by omega)⟩, ⟨x28, c54, (show 0 ≤ x28.toInt by omega), (show x28.toInt ≤ 12 by omega)⟩, ⟨x30, c55, (show 0 ≤ x30.toInt by omega), (show x30.toInt ≤ 8 by omega)⟩, ⟨x32, c56, (show 0 ≤ x32.toInt by omega), (show x32.toInt ≤ 4 by omega)⟩, ⟨x34, c57, (show 0 ≤ x34.toInt by omega), (show x34.toInt ≤ 0 by omega)⟩, ⟨x36, c58, (show 0 ≤ x36.toInt by omega), (show x36.toInt ≤ 0 by omega)⟩, ⟨x38, c59, (show 0 ≤ x38.toInt by omega), (show x38.toInt ≤ 0 by omega)⟩, ⟨x40, c60, (show 0 ≤ x40.toInt by omega), (show x40.toInt ≤ 0 by omega)⟩, ⟨x42, c61, (show 0 ≤ x42.toInt by omega), (show x42.toInt ≤ 0 by omega)⟩⟩)⟩ hw dX11_town_64
  · have c23 : ¬ x5.toInt = (0 : Int) := wk_eqF c23
    refine lv_bipush (v := (-2)) hx hb dX11_town_31 (by decide) ?_
    refine lv_iload_n hx hb dX11_town_33 rfl (lv_at hl 0 rfl) ?_
    refine lv_isub hx hb dX11_town_34 ?_
    refine lv_topi (fun x64 ex64 => ?_)
    have ex64 : x64.toInt = (-2 : Int) - x5.toInt := by rw [ex64]; exact wk_sub (show (-2147483648) ≤ (-2 : Int) - x5.toInt by omega) (show (-2 : Int) - x5.toInt ≤ 2147483647 by omega)
    exact tk_iret hC hr hlocks hK ⟨hT, hF, (Or.inl ⟨(show (-3207) ≤ x64.toInt by omega), (show x64.toInt ≤ (-3) by omega), ⟨0, c17, (by decide), (by decide)⟩, ⟨x5, c19, (show 1 ≤ x5.toInt by omega), (show x5.toInt ≤ 3205 by omega)⟩, ⟨x7, c20, (show 0 ≤ x7.toInt by omega), (show x7.toInt ≤ 12 by omega)⟩, ⟨x9, c21, (show 0 ≤ x9.toInt by omega), (show x9.toInt ≤ 8 by omega)⟩, ⟨x11, c22, (show 0 ≤ x11.toInt by omega), (show x11.toInt ≤ 4 by omega)⟩⟩)⟩ hw dX11_town_35
abbrev P_X7_openHours_11 (ad : Nat → Nat) (cy : Nat → ClassId) (B : Int) (qr : Nat) (s1 : Int) (a1 : Int32) (a3 : Int64) (w0 : va_W) : Int32 → va_W → Prop := fun r u => TW ksC ad cy B qr s1 u ∧ FE ksC ([] : List (Nat × Nat × Nat)) w0 u ∧ ((0 ≤ r.toInt ∧ r.toInt ≤ 16777215))
set_option maxHeartbeats 4000000 in
set_option maxRecDepth 100000 in
theorem k_X7_openHours_11 (l : Launch) (adK adV : Nat → Nat) (dC : Nat → ClassId) (dI : Nat → Nat → Nat) (cy : Nat → ClassId) (ad : Nat → Nat) (B : Int) (hB0 : 2147483648 ≤ B) (hB1 : B ≤ 1152921504606846976) (qr : Nat) (s1 : Int)  (a1 : Int32) (ra1 : 0 ≤ a1.toInt) (ta1 : a1.toInt ≤ 11) (a3 : Int64) (ra3 : 0 ≤ a3.toInt) (ta3 : a3.toInt ≤ 4254) (w0 : va_W) (sz : Nat) (hT : TW ksC ad cy B qr s1 w0)  : Met l yX7_openHours wsX7_openHours ({ frames := 1, cells := 0, slots := 0, locals := 12 }) (va_Pc [.ref (ad 39), .int a1, .int 0, .long a3, .int 1] (wpreS adK adV dC dI cy sz w0)) (va_Qi (P_X7_openHours_11 ad cy B qr s1 a1 a3 w0) (fun u : va_W => wpost dC dI cy (va_A w0 sz) u) (va_A w0 sz)) 0 0 (va_A w0 sz) := by
  refine Met.ofW (cc := cX7_openHours) (maxL := 8) (ret := (some .int)) (by decide) rfl ?_
  intro p e s m args below meth c s₁ Bk hml hv
  obtain ⟨rfl, ⟨hsz, hP, hK, hD0⟩, hE, hSR⟩ := hv
  have hx := Bk.exec
  have hb := Bk.bytes
  have hr := Bk.returns
  have hlocks := Bk.notSynchronized
  have hC : CallFix p m c cX7_openHours 8 s _ wsX7_openHours RX7 := ⟨hx, hb, hml, findClass_of_methodNamed Bk.named, atoms_spec (ws := wsX7_openHours) Bk.pre⟩
  subst hsz
  have hD := hD0.self (sz := s.heap.size)
  generalize hAe : va_A w0 s.heap.size = A at hD hE ⊢
  have hA : ∀ q : Nat, s.heap.size ≤ q → A q := fun q h => by rw [← hAe]; exact Or.inr h
  have hw : Wd dC dI A s.heap s.heap [] w0 := ⟨hP, hD, va_S.rf⟩
  have hF : FE ksC ([] : List (Nat × Nat × Nat)) w0 w0 := FE.rf
  have hl := lv_entry ([.ref (ad 39), .int a1, .int 0, .long a3, .int 1]) (n := 8) (Nat.le_of_ble_eq_true rfl)
  rw [lg_entry_eq]
  generalize (lg_sl ([.ref (ad 39), .int a1, .int 0, .long a3, .int 1]) ++ List.replicate (8 - (lg_sl ([.ref (ad 39), .int a1, .int 0, .long a3, .int 1])).length) Slot.unset).toArray = ls at hl ⊢
  have hl : lv_has ls 8 [(0, .ref (ad 39)), (1, .int a1), (2, .int 0), (3, .long a3), (5, .int 1)] := hl
  generalize hloc : ([] : List Loc) = locs at hw ⊢
  have hinX7 : ∀ w ∈ u_ws RX7 TX7 12, w ∈ wsX7_openHours := fun _ h => List.mem_cons_of_mem _ (List.mem_append_right _ (h))
  have J93 : ∀ (v93_6 : Int32) (v93_7 : Int32) (H : Heap) (locs : List Loc) (ls : Array Slot) (w1 : va_W), 0 ≤ a1.toInt → a1.toInt ≤ 11 → 0 ≤ a3.toInt → a3.toInt ≤ 4254 → 0 ≤ v93_7.toInt → v93_7.toInt ≤ 8 → Wd dC dI A s.heap H locs w1 → TW ksC ad cy B qr s1 w1 → FE ksC ([] : List (Nat × Nat × Nat)) w0 w1 → lv_has ls 8 [(0, .ref (ad 39)), (1, .int a1), (2, .int 0), (3, .long a3), (5, .int 1), (6, .int v93_6), (7, .int v93_7)] → W p l e ({ frames := 1, cells := 0, slots := 0, locals := 12 }) s m (List.toArray [.ref (ad 39), .int a1, .int 0, .long a3, .int 1]) below meth c H locs 0 0 (MQ below (va_Qi (P_X7_openHours_11 ad cy B qr s1 a1 a3 w0) (fun u : va_W => wpost dC dI cy A u) A) (List.toArray [.ref (ad 39), .int a1, .int 0, .long a3, .int 1]) s 0 0 A) (F0 m 93 ls []) := by
    intro v93_6 v93_7 H locs ls w1 r2 t3 r4 t5 r6 t7 hw hT hF hl
    refine lv_ldc (v := 16777215) hx hb hC.2.2.2.1 (hC.2.2.2.2 _ (List.mem_of_getElem? (i := 6) rfl)) dX7_openHours_93 ?_
    refine lv_aload_n hx hb dX7_openHours_95 rfl (lv_at hl 0 rfl) ?_
    refine tk_getO hC hK hw hT hinX7 kC_at39 (by decide) rfl 3 (by decide) (List.mem_of_getElem? (i := 7) rfl) rfl rfl dX7_openHours_96 ?_
    refine lv_iload_n hx hb dX7_openHours_99 rfl (lv_at hl 1 rfl) ?_
    refine tk_iald hC hK hw hT kC_at43 rfl rfl (show 0 ≤ a1.toInt by omega) (show a1.toInt < 13 by omega) dX7_openHours_100 (fun x8 c9 rx8 tx8 => ?_)
    refine lv_iconst (v := (-1)) hx hb dX7_openHours_101 (by decide) ?_
    refine lv_ixor hx hb dX7_openHours_102 ?_
    refine lv_topi (fun x10 ex10 => ?_)
    refine lv_iand hx hb dX7_openHours_103 ?_
    refine lv_topi (fun x11 ex11 => ?_)
    have bx11 : 0 ≤ x11.toInt ∧ x11.toInt ≤ (16777215 : Int) := by rw [ex11]; exact wk_andC (by decide)
    exact tk_iret hC hr hlocks hK ⟨hT, hF, ⟨(show 0 ≤ x11.toInt by omega), (show x11.toInt ≤ 16777215 by omega)⟩⟩ hw dX7_openHours_104
  have L44 : ∀ (n44 : Nat) (v44_6 : Int32) (v44_7 : Int32) (H : Heap) (locs : List Loc) (ls : Array Slot) (w12 : va_W), 0 ≤ a1.toInt → a1.toInt ≤ 11 → 0 ≤ a3.toInt → a3.toInt ≤ 4254 → 0 ≤ v44_7.toInt → v44_7.toInt ≤ 8 → (8 - v44_7.toInt).toNat < n44 → Wd dC dI A s.heap H locs w12 → TW ksC ad cy B qr s1 w12 → FE ksC ([] : List (Nat × Nat × Nat)) w0 w12 → lv_has ls 8 [(0, .ref (ad 39)), (1, .int a1), (2, .int 0), (3, .long a3), (5, .int 1), (6, .int v44_6), (7, .int v44_7)] → W p l e ({ frames := 1, cells := 0, slots := 0, locals := 12 }) s m (List.toArray [.ref (ad 39), .int a1, .int 0, .long a3, .int 1]) below meth c H locs 0 0 (MQ below (va_Qi (P_X7_openHours_11 ad cy B qr s1 a1 a3 w0) (fun u : va_W => wpost dC dI cy A u) A) (List.toArray [.ref (ad 39), .int a1, .int 0, .long a3, .int 1]) s 0 0 A) (F0 m 44 ls []) := by
    intro n44
    induction n44 with
    | zero => intro v44_6 v44_7 H locs ls w12 r13 t14 r15 t16 r17 t18 hm44 hw hT hF hl; omega
    | succ n44 ih44 =>
      intro v44_6 v44_7 H locs ls w12 r13 t14 r15 t16 r17 t18 hm44 hw hT hF hl
      have J81 : ∀ (H : Heap) (locs : List Loc) (ls : Array Slot) (w19 : va_W), 0 ≤ a1.toInt → a1.toInt ≤ 11 → 0 ≤ a3.toInt → a3.toInt ≤ 4254 → 0 ≤ v44_7.toInt → v44_7.toInt ≤ 7 → Wd dC dI A s.heap H locs w19 → TW ksC ad cy B qr s1 w19 → FE ksC ([] : List (Nat × Nat × Nat)) w0 w19 → lv_has ls 8 [(0, .ref (ad 39)), (1, .int a1), (2, .int 0), (3, .long a3), (5, .int 1), (6, .int v44_6), (7, .int v44_7)] → W p l e ({ frames := 1, cells := 0, slots := 0, locals := 12 }) s m (List.toArray [.ref (ad 39), .int a1, .int 0, .long a3, .int 1]) below meth c H locs 0 0 (MQ below (va_Qi (P_X7_openHours_11 ad cy B qr s1 a1 a3 w0) (fun u : va_W => wpost dC dI cy A u) A) (List.toArray [.ref (ad 39), .int a1, .int 0, .long a3, .int 1]) s 0 0 A) (F0 m 81 ls []) := by
        intro H locs ls w19 r20 t21 r22 t23 r24 t25 hw hT hF hl
        refine lv_iload hx hb dX7_openHours_81 (lv_at hl 5 rfl) ?_
        refine lv_iconst (v := 1) hx hb dX7_openHours_83 (by decide) ?_
        refine lv_ishr hx hb dX7_openHours_84 ?_
        refine lv_topi (fun x26 ex26 => ?_)
        refine lv_istore (lv' := [(6, .int x26), (0, .ref (ad 39)), (1, .int a1), (2, .int 0), (3, .long a3), (5, .int 1), (7, .int v44_7)]) hx hb dX7_openHours_85 hl (by decide) rfl (fun ls hl => ?_)
        obtain ⟨x27, ex27⟩ : ∃ y : Int32, y = v44_7 + Int32.ofInt 1 := ⟨_, rfl⟩
        refine lv_iinc (v := x27) (lv' := [(7, .int x27), (6, .int x26), (0, .ref (ad 39)), (1, .int a1), (2, .int 0), (3, .long a3), (5, .int 1)]) hx hb dX7_openHours_87 hl (k := 6) rfl ex27.symm (by decide) rfl (fun ls hl => ?_)
        have ex27 : x27.toInt = v44_7.toInt + 1 := by rw [ex27]; exact wk_add (y := 1) (show -2147483648 ≤ v44_7.toInt + 1 by omega) (show v44_7.toInt + 1 ≤ 2147483647 by omega)
        refine lv_goto (tgt := 44) hx hb dX7_openHours_90 (by decide) ?_
        exact ih44 x26 x27 H locs ls w19 (show 0 ≤ a1.toInt by omega) (show a1.toInt ≤ 11 by omega) (show 0 ≤ a3.toInt by omega) (show a3.toInt ≤ 4254 by omega) (show 0 ≤ x27.toInt by omega) (show x27.toInt ≤ 8 by omega) (show (8 - x27.toInt).toNat < n44 by omega) hw hT hF  (lv_sub hl [2, 3, 4, 5, 6, 1, 0] rfl)
      refine lv_iload hx hb dX7_openHours_44 (lv_at hl 5 rfl) ?_
      refine lv_if_eq (tgt := 93) hx hb dX7_openHours_46 (by decide) (fun c28 => ?_) (fun c28 => ?_)
      · have c28 : v44_6.toInt = (0 : Int) := wk_eq.mp c28
        exact J93 v44_6 v44_7 H locs ls w12 (show 0 ≤ a1.toInt by omega) (show a1.toInt ≤ 11 by omega) (show 0 ≤ a3.toInt by omega) (show a3.toInt ≤ 4254 by omega) (show 0 ≤ v44_7.toInt by omega) (show v44_7.toInt ≤ 8 by omega)  hw hT hF  (lv_sub hl [0, 1, 2, 3, 4, 5, 6] rfl)
      · have c28 : ¬ v44_6.toInt = (0 : Int) := wk_eqF c28
        refine lv_iload hx hb dX7_openHours_49 (lv_at hl 6 rfl) ?_
        refine lv_bipush (v := 8) hx hb dX7_openHours_51 (by decide) ?_
        refine lv_icmp_ge (tgt := 93) hx hb dX7_openHours_53 (by decide) (fun c29 => ?_) (fun c29 => ?_)
        · have c29 : (8 : Int) ≤ v44_7.toInt := wk_le.mp c29
          exact J93 v44_6 v44_7 H locs ls w12 (show 0 ≤ a1.toInt by omega) (show a1.toInt ≤ 11 by omega) (show 0 ≤ a3.toInt by omega) (show a3.toInt ≤ 4254 by omega) (show 0 ≤ v44_7.toInt by omega) (show v44_7.toInt ≤ 8 by omega)  hw hT hF  (lv_sub hl [0, 1, 2, 3, 4, 5, 6] rfl)
        · have c29 : v44_7.toInt < (8 : Int) := wk_leF c29
          refine lv_iload hx hb dX7_openHours_56 (lv_at hl 5 rfl) ?_
          refine lv_iconst (v := 1) hx hb dX7_openHours_58 (by decide) ?_
          refine lv_iand hx hb dX7_openHours_59 ?_
          refine lv_topi (fun x30 ex30 => ?_)
          have bx30 : 0 ≤ x30.toInt ∧ x30.toInt ≤ (1 : Int) := by rw [ex30]; exact wk_and (by decide)
          refine lv_if_eq (tgt := 81) hx hb dX7_openHours_60 (by decide) (fun c31 => ?_) (fun c31 => ?_)
          · have c31 : x30.toInt = (0 : Int) := wk_eq.mp c31
            exact J81  H locs ls w12 (show 0 ≤ a1.toInt by omega) (show a1.toInt ≤ 11 by omega) (show 0 ≤ a3.toInt by omega) (show a3.toInt ≤ 4254 by omega) (show 0 ≤ v44_7.toInt by omega) (show v44_7.toInt ≤ 7 by omega)  hw hT hF  (lv_sub hl [0, 1, 2, 3, 4, 5, 6] rfl)
          · have c31 : ¬ x30.toInt = (0 : Int) := wk_eqF c31
            refine lv_aload_n hx hb dX7_openHours_63 rfl (lv_at hl 0 rfl) ?_
            refine tk_getO hC hK hw hT hinX7 kC_at39 (by decide) rfl 6 (by decide) (List.mem_of_getElem? (i := 4) rfl) rfl rfl dX7_openHours_64 ?_
            refine lv_iload hx hb dX7_openHours_67 (lv_at hl 6 rfl) ?_
            refine tk_iald hC hK hw hT kC_at46 rfl rfl (show 0 ≤ v44_7.toInt by omega) (show v44_7.toInt < 8 by omega) dX7_openHours_69 (fun x32 c33 rx32 tx32 => ?_)
            refine lv_lload_n hx hb dX7_openHours_70 rfl (lv_at hl 3 rfl) ?_
            refine lv_ldc2 (v := 360) hx hb hC.2.2.2.1 (hC.2.2.2.2 _ (List.mem_of_getElem? (i := 5) rfl)) dX7_openHours_71 ?_
            refine lv_lrem hx hb dX7_openHours_74 (by decide) ?_
            refine lv_topl (fun x34 ex34 => ?_)
            have ex34 : x34.toInt = a3.toInt % (360 : Int) := by rw [ex34]; exact wk_reml (show 0 ≤ a3.toInt by omega) (show 0 < (360 : Int) by decide)
            refine lv_l2i hx hb dX7_openHours_75 rfl ?_
            refine lv_topi (fun x35 ex35 => ?_)
            have ex35 : x35.toInt = x34.toInt := by rw [ex35]; exact wk_l2i (by omega) (by omega)
            refine lv_icmp_ne (tgt := 81) hx hb dX7_openHours_76 (by decide) (fun c36 => ?_) (fun c36 => ?_)
            · have c36 : ¬ x32.toInt = x35.toInt := wk_eqF c36
              exact J81  H locs ls w12 (show 0 ≤ a1.toInt by omega) (show a1.toInt ≤ 11 by omega) (show 0 ≤ a3.toInt by omega) (show a3.toInt ≤ 4254 by omega) (show 0 ≤ v44_7.toInt by omega) (show v44_7.toInt ≤ 7 by omega)  hw hT hF  (lv_sub hl [0, 1, 2, 3, 4, 5, 6] rfl)
            · have c36 : x32.toInt = x35.toInt := wk_eq.mp c36
              refine lv_iconst (v := 0) hx hb dX7_openHours_79 (by decide) ?_
              exact tk_iret hC hr hlocks hK ⟨hT, hF, ⟨(by decide), (by decide)⟩⟩ hw dX7_openHours_80
  refine lv_aload_n hx hb dX7_openHours_0 rfl (lv_at hl 0 rfl) ?_
  refine tk_getO hC hK hw hT hinX7 kC_at39 (by decide) rfl 4 (by decide) (List.mem_of_getElem? (i := 1) rfl) rfl rfl dX7_openHours_1 ?_
  refine lv_iconst (v := 2) hx hb dX7_openHours_4 (by decide) ?_
  refine lv_iload_n hx hb dX7_openHours_5 rfl (lv_at hl 1 rfl) ?_
  refine lv_imul hx hb dX7_openHours_6 ?_
  refine lv_topi (fun x37 ex37 => ?_)
  have ex37 : x37.toInt = (2 : Int) * a1.toInt := by rw [ex37]; exact wk_mul (show (-2147483648) ≤ (2 : Int) * a1.toInt by omega) (show (2 : Int) * a1.toInt ≤ 2147483647 by omega)
  refine lv_iload_n hx hb dX7_openHours_7 rfl (lv_at hl 2 rfl) ?_
  refine lv_iadd hx hb dX7_openHours_8 ?_
  refine lv_topi (fun x38 ex38 => ?_)
  have ex38 : x38.toInt = x37.toInt + (0 : Int) := by rw [ex38]; exact wk_add (show (-2147483648) ≤ x37.toInt + (0 : Int) by omega) (show x37.toInt + (0 : Int) ≤ 2147483647 by omega)
  refine tk_iald hC hK hw hT kC_at44 rfl rfl (show 0 ≤ x38.toInt by omega) (show x38.toInt < 26 by omega) dX7_openHours_9 (fun x39 c40 rx39 tx39 => ?_)
  refine lv_lload_n hx hb dX7_openHours_10 rfl (lv_at hl 3 rfl) ?_
  refine lv_ldc2 (v := 7) hx hb hC.2.2.2.1 (hC.2.2.2.2 _ (List.mem_of_getElem? (i := 2) rfl)) dX7_openHours_11 ?_
  refine lv_lrem hx hb dX7_openHours_14 (by decide) ?_
  refine lv_topl (fun x41 ex41 => ?_)
  have ex41 : x41.toInt = a3.toInt % (7 : Int) := by rw [ex41]; exact wk_reml (show 0 ≤ a3.toInt by omega) (show 0 < (7 : Int) by decide)
  refine lv_l2i hx hb dX7_openHours_15 rfl ?_
  refine lv_topi (fun x42 ex42 => ?_)
  have ex42 : x42.toInt = x41.toInt := by rw [ex42]; exact wk_l2i (by omega) (by omega)
  refine lv_ishr hx hb dX7_openHours_16 ?_
  refine lv_topi (fun x43 ex43 => ?_)
  refine lv_iconst (v := 1) hx hb dX7_openHours_17 (by decide) ?_
  refine lv_iand hx hb dX7_openHours_18 ?_
  refine lv_topi (fun x44 ex44 => ?_)
  have bx44 : 0 ≤ x44.toInt ∧ x44.toInt ≤ (1 : Int) := by rw [ex44]; exact wk_and (by decide)
  refine lv_if_ne (tgt := 24) hx hb dX7_openHours_19 (by decide) (fun c45 => ?_) (fun c45 => ?_)
  · have c45 : ¬ x44.toInt = (0 : Int) := wk_eqF c45
    refine lv_iload hx hb dX7_openHours_24 (lv_at hl 4 rfl) ?_
    refine lv_if_eq (tgt := 38) hx hb dX7_openHours_26 (by decide) (fun c => absurd c (by decide)) (fun _ => ?_)
    refine lv_aload_n hx hb dX7_openHours_29 rfl (lv_at hl 0 rfl) ?_
    refine tk_getO hC hK hw hT hinX7 kC_at39 (by decide) rfl 7 (by decide) (List.mem_of_getElem? (i := 3) rfl) rfl rfl dX7_openHours_30 ?_
    refine lv_iload_n hx hb dX7_openHours_33 rfl (lv_at hl 1 rfl) ?_
    refine tk_iald hC hK hw hT kC_at47 rfl rfl (show 0 ≤ a1.toInt by omega) (show a1.toInt < 13 by omega) dX7_openHours_34 (fun x46 c47 rx46 tx46 => ?_)
    refine lv_goto (tgt := 39) hx hb dX7_openHours_35 (by decide) ?_
    refine lv_istore (lv' := [(6, .int x46), (0, .ref (ad 39)), (1, .int a1), (2, .int 0), (3, .long a3), (5, .int 1)]) hx hb dX7_openHours_39 hl (by decide) rfl (fun ls hl => ?_)
    refine lv_iconst (v := 0) hx hb dX7_openHours_41 (by decide) ?_
    refine lv_istore (lv' := [(7, .int 0), (6, .int x46), (0, .ref (ad 39)), (1, .int a1), (2, .int 0), (3, .long a3), (5, .int 1)]) hx hb dX7_openHours_42 hl (by decide) rfl (fun ls hl => ?_)
    exact L44 ((8 - (0 : Int)).toNat + 1) x46 0 s.heap locs ls w0 (show 0 ≤ a1.toInt by omega) (show a1.toInt ≤ 11 by omega) (show 0 ≤ a3.toInt by omega) (show a3.toInt ≤ 4254 by omega) (by decide) (by decide) (Nat.lt_succ_self _) hw hT hF  (lv_sub hl [2, 3, 4, 5, 6, 1, 0] rfl)
  · have c45 : x44.toInt = (0 : Int) := wk_eq.mp c45
    refine lv_iconst (v := 0) hx hb dX7_openHours_22 (by decide) ?_
    exact tk_iret hC hr hlocks hK ⟨hT, hF, ⟨(by decide), (by decide)⟩⟩ hw dX7_openHours_23
abbrev P_X7_firstOpen_5 (ad : Nat → Nat) (cy : Nat → ClassId) (B : Int) (qr : Nat) (s1 : Int) (a1 : Int32) (a3 : Int32) (a4 : Int32) (w0 : va_W) : Int32 → va_W → Prop := fun r u => TW ksC ad cy B qr s1 u ∧ FE ksC ([] : List (Nat × Nat × Nat)) w0 u ∧ ((0 ≤ r.toInt ∧ r.toInt ≤ 102119 ∧ 0 ≤ a4.toInt) ∨ (r = (-1)))
set_option maxHeartbeats 4000000 in
set_option maxRecDepth 100000 in
theorem k_X7_firstOpen_5 (l : Launch) (adK adV : Nat → Nat) (dC : Nat → ClassId) (dI : Nat → Nat → Nat) (cy : Nat → ClassId) (ad : Nat → Nat) (B : Int) (hB0 : 2147483648 ≤ B) (hB1 : B ≤ 1152921504606846976) (qr : Nat) (s1 : Int)  (a1 : Int32) (ra1 : 0 ≤ a1.toInt) (ta1 : a1.toInt ≤ 11) (a3 : Int32) (ra3 : (-1) ≤ a3.toInt) (ta3 : a3.toInt ≤ 102119) (a4 : Int32) (ra4 : (-1) ≤ a4.toInt) (ta4 : a4.toInt ≤ 102119) (w0 : va_W) (sz : Nat) (hT : TW ksC ad cy B qr s1 w0)  : Met l yX7_firstOpen wsX7_firstOpen ({ frames := 2, cells := 0, slots := 0, locals := 39 }) (va_Pc [.ref (ad 39), .int a1, .int 0, .int a3, .int a4] (wpreS adK adV dC dI cy sz w0)) (va_Qi (P_X7_firstOpen_5 ad cy B qr s1 a1 a3 a4 w0) (fun u : va_W => wpost dC dI cy (va_A w0 sz) u) (va_A w0 sz)) 0 0 (va_A w0 sz) := by
  refine Met.ofW (cc := cX7_firstOpen) (maxL := 10) (ret := (some .int)) (by decide) rfl ?_
  intro p e s m args below meth c s₁ Bk hml hv
  obtain ⟨rfl, ⟨hsz, hP, hK, hD0⟩, hE, hSR⟩ := hv
  have hx := Bk.exec
  have hb := Bk.bytes
  have hr := Bk.returns
  have hlocks := Bk.notSynchronized
  have hC : CallFix p m c cX7_firstOpen 10 s _ wsX7_firstOpen RX7 := ⟨hx, hb, hml, findClass_of_methodNamed Bk.named, atoms_spec (ws := wsX7_firstOpen) Bk.pre⟩
  subst hsz
  have hD := hD0.self (sz := s.heap.size)
  generalize hAe : va_A w0 s.heap.size = A at hD hE ⊢
  have hA : ∀ q : Nat, s.heap.size ≤ q → A q := fun q h => by rw [← hAe]; exact Or.inr h
  have hw : Wd dC dI A s.heap s.heap [] w0 := ⟨hP, hD, va_S.rf⟩
  have hF : FE ksC ([] : List (Nat × Nat × Nat)) w0 w0 := FE.rf
  have hl := lv_entry ([.ref (ad 39), .int a1, .int 0, .int a3, .int a4]) (n := 10) (Nat.le_of_ble_eq_true rfl)
  rw [lg_entry_eq]
  generalize (lg_sl ([.ref (ad 39), .int a1, .int 0, .int a3, .int a4]) ++ List.replicate (10 - (lg_sl ([.ref (ad 39), .int a1, .int 0, .int a3, .int a4])).length) Slot.unset).toArray = ls at hl ⊢
  have hl : lv_has ls 10 [(0, .ref (ad 39)), (1, .int a1), (2, .int 0), (3, .int a3), (4, .int a4)] := hl
  generalize hloc : ([] : List Loc) = locs at hw ⊢
  have L25 : ∀ (n25 : Nat) (v25_5 : Int32) (v25_6 : Int32) (H : Heap) (locs : List Loc) (ls : Array Slot) (w1 : va_W), 0 ≤ a1.toInt → a1.toInt ≤ 11 → (-1) ≤ a3.toInt → a3.toInt ≤ 102119 → (-1) ≤ a4.toInt → a4.toInt ≤ 102119 → 0 ≤ v25_6.toInt → v25_6.toInt ≤ 4255 → (4255 - v25_6.toInt).toNat < n25 → Wd dC dI A s.heap H locs w1 → TW ksC ad cy B qr s1 w1 → FE ksC ([] : List (Nat × Nat × Nat)) w0 w1 → lv_has ls 10 [(0, .ref (ad 39)), (1, .int a1), (2, .int 0), (3, .int a3), (4, .int a4), (5, .int v25_5), (6, .int v25_6)] → W p l e ({ frames := 2, cells := 0, slots := 0, locals := 39 }) s m (List.toArray [.ref (ad 39), .int a1, .int 0, .int a3, .int a4]) below meth c H locs 0 0 (MQ below (va_Qi (P_X7_firstOpen_5 ad cy B qr s1 a1 a3 a4 w0) (fun u : va_W => wpost dC dI cy A u) A) (List.toArray [.ref (ad 39), .int a1, .int 0, .int a3, .int a4]) s 0 0 A) (F0 m 25 ls []) := by
    intro n25
    induction n25 with
    | zero => intro v25_5 v25_6 H locs ls w1 r2 t3 r4 t5 r6 t7 r8 t9 hm25 hw hT hF hl; omega
    | succ n25 ih25 =>
      intro v25_5 v25_6 H locs ls w1 r2 t3 r4 t5 r6 t7 r8 t9 hm25 hw hT hF hl
      have J108 : ∀ (v108_7 : Int32) (v108_8 : Int32) (H : Heap) (locs : List Loc) (ls : Array Slot) (w10 : va_W), 0 ≤ a1.toInt → a1.toInt ≤ 11 → (-1) ≤ a3.toInt → a3.toInt ≤ 102119 → 0 ≤ a4.toInt → a4.toInt ≤ 102119 → 0 ≤ v25_6.toInt → v25_6.toInt ≤ 4254 → 0 ≤ v108_7.toInt → v108_7.toInt ≤ 16777215 → 0 ≤ v108_8.toInt → v108_8.toInt ≤ 24 → Wd dC dI A s.heap H locs w10 → TW ksC ad cy B qr s1 w10 → FE ksC ([] : List (Nat × Nat × Nat)) w0 w10 → lv_has ls 10 [(0, .ref (ad 39)), (1, .int a1), (2, .int 0), (3, .int a3), (4, .int a4), (5, .int (-1)), (6, .int v25_6), (7, .int v108_7), (8, .int v108_8)] → W p l e ({ frames := 2, cells := 0, slots := 0, locals := 39 }) s m (List.toArray [.ref (ad 39), .int a1, .int 0, .int a3, .int a4]) below meth c H locs 0 0 (MQ below (va_Qi (P_X7_firstOpen_5 ad cy B qr s1 a1 a3 a4 w0) (fun u : va_W => wpost dC dI cy A u) A) (List.toArray [.ref (ad 39), .int a1, .int 0, .int a3, .int a4]) s 0 0 A) (F0 m 108 ls []) := by
        intro v108_7 v108_8 H locs ls w10 r11 t12 r13 t14 r15 t16 r17 t18 r19 t20 r21 t22 hw hT hF hl
        obtain ⟨x23, ex23⟩ : ∃ y : Int32, y = v25_6 + Int32.ofInt 1 := ⟨_, rfl⟩
        refine lv_iinc (v := x23) (lv' := [(6, .int x23), (0, .ref (ad 39)), (1, .int a1), (2, .int 0), (3, .int a3), (4, .int a4), (5, .int (-1)), (7, .int v108_7), (8, .int v108_8)]) hx hb dX7_firstOpen_108 hl (k := 6) rfl ex23.symm (by decide) rfl (fun ls hl => ?_)
        have ex23 : x23.toInt = v25_6.toInt + 1 := by rw [ex23]; exact wk_add (y := 1) (show -2147483648 ≤ v25_6.toInt + 1 by omega) (show v25_6.toInt + 1 ≤ 2147483647 by omega)
        refine lv_goto (tgt := 25) hx hb dX7_firstOpen_111 (by decide) ?_
        exact ih25 (-1) x23 H locs ls w10 (show 0 ≤ a1.toInt by omega) (show a1.toInt ≤ 11 by omega) (show (-1) ≤ a3.toInt by omega) (show a3.toInt ≤ 102119 by omega) (show (-1) ≤ a4.toInt by omega) (show a4.toInt ≤ 102119 by omega) (show 0 ≤ x23.toInt by omega) (show x23.toInt ≤ 4255 by omega) (show (4255 - x23.toInt).toNat < n25 by omega) hw hT hF  (lv_sub hl [1, 2, 3, 4, 5, 6, 0] rfl)
      have L56 : ∀ (n56 : Nat) (v56_7 : Int32) (v56_8 : Int32) (H : Heap) (locs : List Loc) (ls : Array Slot) (w24 : va_W), 0 ≤ a1.toInt → a1.toInt ≤ 11 → (-1) ≤ a3.toInt → a3.toInt ≤ 102119 → 0 ≤ a4.toInt → a4.toInt ≤ 102119 → 0 ≤ v25_6.toInt → v25_6.toInt ≤ 4254 → 0 ≤ v56_7.toInt → v56_7.toInt ≤ 16777215 → 0 ≤ v56_8.toInt → v56_8.toInt ≤ 24 → (24 - v56_8.toInt).toNat < n56 → Wd dC dI A s.heap H locs w24 → TW ksC ad cy B qr s1 w24 → FE ksC ([] : List (Nat × Nat × Nat)) w0 w24 → lv_has ls 10 [(0, .ref (ad 39)), (1, .int a1), (2, .int 0), (3, .int a3), (4, .int a4), (5, .int (-1)), (6, .int v25_6), (7, .int v56_7), (8, .int v56_8)] → W p l e ({ frames := 2, cells := 0, slots := 0, locals := 39 }) s m (List.toArray [.ref (ad 39), .int a1, .int 0, .int a3, .int a4]) below meth c H locs 0 0 (MQ below (va_Qi (P_X7_firstOpen_5 ad cy B qr s1 a1 a3 a4 w0) (fun u : va_W => wpost dC dI cy A u) A) (List.toArray [.ref (ad 39), .int a1, .int 0, .int a3, .int a4]) s 0 0 A) (F0 m 56 ls []) := by
        intro n56
        induction n56 with
        | zero => intro v56_7 v56_8 H locs ls w24 r25 t26 r27 t28 r29 t30 r31 t32 r33 t34 r35 t36 hm56 hw hT hF hl; omega
        | succ n56 ih56 =>
          intro v56_7 v56_8 H locs ls w24 r25 t26 r27 t28 r29 t30 r31 t32 r33 t34 r35 t36 hm56 hw hT hF hl
          refine lv_iload hx hb dX7_firstOpen_56 (lv_at hl 7 rfl) ?_
          refine lv_if_eq (tgt := 108) hx hb dX7_firstOpen_58 (by decide) (fun c37 => ?_) (fun c37 => ?_)
          · have c37 : v56_7.toInt = (0 : Int) := wk_eq.mp c37
            exact J108 v56_7 v56_8 H locs ls w24 (show 0 ≤ a1.toInt by omega) (show a1.toInt ≤ 11 by omega) (show (-1) ≤ a3.toInt by omega) (show a3.toInt ≤ 102119 by omega) (show 0 ≤ a4.toInt by omega) (show a4.toInt ≤ 102119 by omega) (show 0 ≤ v25_6.toInt by omega) (show v25_6.toInt ≤ 4254 by omega) (show 0 ≤ v56_7.toInt by omega) (show v56_7.toInt ≤ 16777215 by omega) (show 0 ≤ v56_8.toInt by omega) (show v56_8.toInt ≤ 24 by omega)  hw hT hF  (lv_sub hl [0, 1, 2, 3, 4, 5, 6, 7, 8] rfl)
          · have c37 : ¬ v56_7.toInt = (0 : Int) := wk_eqF c37
            refine lv_iload hx hb dX7_firstOpen_61 (lv_at hl 8 rfl) ?_
            refine lv_bipush (v := 24) hx hb dX7_firstOpen_63 (by decide) ?_
            refine lv_icmp_ge (tgt := 108) hx hb dX7_firstOpen_65 (by decide) (fun c38 => ?_) (fun c38 => ?_)
            · have c38 : (24 : Int) ≤ v56_8.toInt := wk_le.mp c38
              exact J108 v56_7 v56_8 H locs ls w24 (show 0 ≤ a1.toInt by omega) (show a1.toInt ≤ 11 by omega) (show (-1) ≤ a3.toInt by omega) (show a3.toInt ≤ 102119 by omega) (show 0 ≤ a4.toInt by omega) (show a4.toInt ≤ 102119 by omega) (show 0 ≤ v25_6.toInt by omega) (show v25_6.toInt ≤ 4254 by omega) (show 0 ≤ v56_7.toInt by omega) (show v56_7.toInt ≤ 16777215 by omega) (show 0 ≤ v56_8.toInt by omega) (show v56_8.toInt ≤ 24 by omega)  hw hT hF  (lv_sub hl [0, 1, 2, 3, 4, 5, 6, 7, 8] rfl)
            · have c38 : v56_8.toInt < (24 : Int) := wk_leF c38
              refine lv_iload hx hb dX7_firstOpen_68 (lv_at hl 7 rfl) ?_
              refine lv_iload hx hb dX7_firstOpen_70 (lv_at hl 8 rfl) ?_
              refine lv_ishr hx hb dX7_firstOpen_72 ?_
              refine lv_topi (fun x39 ex39 => ?_)
              have bx39 : 0 ≤ x39.toInt ∧ x39.toInt ≤ v56_7.toInt := by rw [ex39]; exact wk_shr (by omega)
              refine lv_iconst (v := 1) hx hb dX7_firstOpen_73 (by decide) ?_
              refine lv_iand hx hb dX7_firstOpen_74 ?_
              refine lv_topi (fun x40 ex40 => ?_)
              have bx40 : 0 ≤ x40.toInt ∧ x40.toInt ≤ (1 : Int) := by rw [ex40]; exact wk_and (by decide)
              refine lv_if_eq (tgt := 102) hx hb dX7_firstOpen_75 (by decide) (fun c41 => ?_) (fun c41 => ?_)
              · have c41 : x40.toInt = (0 : Int) := wk_eq.mp c41
                obtain ⟨x42, ex42⟩ : ∃ y : Int32, y = v56_8 + Int32.ofInt 1 := ⟨_, rfl⟩
                refine lv_iinc (v := x42) (lv' := [(8, .int x42), (0, .ref (ad 39)), (1, .int a1), (2, .int 0), (3, .int a3), (4, .int a4), (5, .int (-1)), (6, .int v25_6), (7, .int v56_7)]) hx hb dX7_firstOpen_102 hl (k := 8) rfl ex42.symm (by decide) rfl (fun ls hl => ?_)
                have ex42 : x42.toInt = v56_8.toInt + 1 := by rw [ex42]; exact wk_add (y := 1) (show -2147483648 ≤ v56_8.toInt + 1 by omega) (show v56_8.toInt + 1 ≤ 2147483647 by omega)
                refine lv_goto (tgt := 56) hx hb dX7_firstOpen_105 (by decide) ?_
                exact ih56 v56_7 x42 H locs ls w24 (show 0 ≤ a1.toInt by omega) (show a1.toInt ≤ 11 by omega) (show (-1) ≤ a3.toInt by omega) (show a3.toInt ≤ 102119 by omega) (show 0 ≤ a4.toInt by omega) (show a4.toInt ≤ 102119 by omega) (show 0 ≤ v25_6.toInt by omega) (show v25_6.toInt ≤ 4254 by omega) (show 0 ≤ v56_7.toInt by omega) (show v56_7.toInt ≤ 16777215 by omega) (show 0 ≤ x42.toInt by omega) (show x42.toInt ≤ 24 by omega) (show (24 - x42.toInt).toNat < n56 by omega) hw hT hF  (lv_sub hl [1, 2, 3, 4, 5, 6, 7, 8, 0] rfl)
              · have c41 : ¬ x40.toInt = (0 : Int) := wk_eqF c41
                refine lv_iload hx hb dX7_firstOpen_78 (lv_at hl 6 rfl) ?_
                refine lv_bipush (v := 24) hx hb dX7_firstOpen_80 (by decide) ?_
                refine lv_imul hx hb dX7_firstOpen_82 ?_
                refine lv_topi (fun x43 ex43 => ?_)
                have ex43 : x43.toInt = v25_6.toInt * (24 : Int) := by rw [ex43]; exact wk_mul (show (-2147483648) ≤ v25_6.toInt * (24 : Int) by omega) (show v25_6.toInt * (24 : Int) ≤ 2147483647 by omega)
                refine lv_iload hx hb dX7_firstOpen_83 (lv_at hl 8 rfl) ?_
                refine lv_iadd hx hb dX7_firstOpen_85 ?_
                refine lv_topi (fun x44 ex44 => ?_)
                have ex44 : x44.toInt = x43.toInt + v56_8.toInt := by rw [ex44]; exact wk_add (show (-2147483648) ≤ x43.toInt + v56_8.toInt by omega) (show x43.toInt + v56_8.toInt ≤ 2147483647 by omega)
                refine lv_istore (lv' := [(9, .int x44), (0, .ref (ad 39)), (1, .int a1), (2, .int 0), (3, .int a3), (4, .int a4), (5, .int (-1)), (6, .int v25_6), (7, .int v56_7), (8, .int v56_8)]) hx hb dX7_firstOpen_86 hl (by decide) rfl (fun ls hl => ?_)
                refine lv_iload hx hb dX7_firstOpen_88 (lv_at hl 0 rfl) ?_
                refine lv_iload hx hb dX7_firstOpen_90 (lv_at hl 5 rfl) ?_
                refine lv_icmp_gt (tgt := 100) hx hb dX7_firstOpen_92 (by decide) (fun c45 => ?_) (fun c45 => ?_)
                · have c45 : a4.toInt < x44.toInt := wk_lt.mp c45
                  refine lv_iconst (v := (-1)) hx hb dX7_firstOpen_100 (by decide) ?_
                  exact tk_iret hC hr hlocks hK ⟨hT, hF, (Or.inr rfl)⟩ hw dX7_firstOpen_101
                · have c45 : x44.toInt ≤ a4.toInt := wk_ltF c45
                  refine lv_iload hx hb dX7_firstOpen_95 (lv_at hl 0 rfl) ?_
                  refine lv_goto (tgt := 101) hx hb dX7_firstOpen_97 (by decide) ?_
                  exact tk_iret hC hr hlocks hK ⟨hT, hF, (Or.inl ⟨(show 0 ≤ x44.toInt by omega), (show x44.toInt ≤ 102119 by omega), (show 0 ≤ a4.toInt by omega)⟩)⟩ hw dX7_firstOpen_101
      refine lv_iload hx hb dX7_firstOpen_25 (lv_at hl 6 rfl) ?_
      refine lv_bipush (v := 24) hx hb dX7_firstOpen_27 (by decide) ?_
      refine lv_imul hx hb dX7_firstOpen_29 ?_
      refine lv_topi (fun x46 ex46 => ?_)
      have ex46 : x46.toInt = v25_6.toInt * (24 : Int) := by rw [ex46]; exact wk_mul (show (-2147483648) ≤ v25_6.toInt * (24 : Int) by omega) (show v25_6.toInt * (24 : Int) ≤ 2147483647 by omega)
      refine lv_iload hx hb dX7_firstOpen_30 (lv_at hl 4 rfl) ?_
      refine lv_icmp_gt (tgt := 114) hx hb dX7_firstOpen_32 (by decide) (fun c47 => ?_) (fun c47 => ?_)
      · have c47 : a4.toInt < x46.toInt := wk_lt.mp c47
        refine lv_iconst (v := (-1)) hx hb dX7_firstOpen_114 (by decide) ?_
        exact tk_iret hC hr hlocks hK ⟨hT, hF, (Or.inr rfl)⟩ hw dX7_firstOpen_115
      · have c47 : x46.toInt ≤ a4.toInt := wk_ltF c47
        refine lv_aload_n hx hb dX7_firstOpen_35 rfl (lv_at hl 0 rfl) ?_
        refine lv_iload_n hx hb dX7_firstOpen_36 rfl (lv_at hl 1 rfl) ?_
        refine lv_iload_n hx hb dX7_firstOpen_37 rfl (lv_at hl 2 rfl) ?_
        refine lv_iload hx hb dX7_firstOpen_38 (lv_at hl 6 rfl) ?_
        refine lv_i2l hx hb dX7_firstOpen_40 rfl ?_
        refine lv_topl (fun x48 ex48 => ?_)
        have ex48 : x48.toInt = v25_6.toInt := by rw [ex48]; exact wk_i2l _
        have bx48 := wk_i32 v25_6
        refine lv_iconst (v := 1) hx hb dX7_firstOpen_41 (by decide) ?_
        refine tk_Vi hC hK hw hT hA hE hSR kC_at39 (by decide) rfl (k_X7_openHours_11 l adK adV dC dI cy ad B (by omega) (by omega) qr s1   a1 (show 0 ≤ a1.toInt by omega) (show a1.toInt ≤ 11 by omega) x48 (show 0 ≤ x48.toInt by omega) (show x48.toInt ≤ 4254 by omega) w1 H.size hT ) (cwV 4 hC.2.2.2.2 gX7_firstOpen_X7_openHours rfl rfl rfl (by decide +kernel) ⟨Nat.le_of_ble_eq_true rfl, Nat.le_of_ble_eq_true rfl⟩) rfl hl.1 rfl (Nat.le_of_ble_eq_true rfl) dX7_firstOpen_42 (fun r49 w51 H locs hp50 hw => ?_)
        obtain ⟨hT, k52, hg55⟩ := hp50
        have hF := hF.tr k52 (by decide)
        obtain ⟨g53, g54⟩ := hg55
        refine lv_iload hx hb dX7_firstOpen_45 (lv_at hl 5 rfl) ?_
        refine lv_iand hx hb dX7_firstOpen_47 ?_
        refine lv_topi (fun x56 ex56 => ?_)
        have bx56 : 0 ≤ x56.toInt ∧ x56.toInt ≤ r49.toInt := by rw [ex56]; exact wk_andC (by omega)
        refine lv_istore (lv' := [(7, .int x56), (0, .ref (ad 39)), (1, .int a1), (2, .int 0), (3, .int a3), (4, .int a4), (5, .int v25_5), (6, .int v25_6)]) hx hb dX7_firstOpen_48 hl (by decide) rfl (fun ls hl => ?_)
        refine lv_iconst (v := (-1)) hx hb dX7_firstOpen_50 (by decide) ?_
        refine lv_istore (lv' := [(5, .int (-1)), (7, .int x56), (0, .ref (ad 39)), (1, .int a1), (2, .int 0), (3, .int a3), (4, .int a4), (6, .int v25_6)]) hx hb dX7_firstOpen_51 hl (by decide) rfl (fun ls hl => ?_)
        refine lv_iconst (v := 0) hx hb dX7_firstOpen_53 (by decide) ?_
        refine lv_istore (lv' := [(8, .int 0), (5, .int (-1)), (7, .int x56), (0, .ref (ad 39)), (1, .int a1), (2, .int 0), (3, .int a3), (4, .int a4), (6, .int v25_6)]) hx hb dX7_firstOpen_54 hl (by decide) rfl (fun ls hl => ?_)
        exact L56 ((24 - (0 : Int)).toNat + 1) x56 0 H locs ls w51 (show 0 ≤ a1.toInt by omega) (show a1.toInt ≤ 11 by omega) (show (-1) ≤ a3.toInt by omega) (show a3.toInt ≤ 102119 by omega) (show 0 ≤ a4.toInt by omega) (show a4.toInt ≤ 102119 by omega) (show 0 ≤ v25_6.toInt by omega) (show v25_6.toInt ≤ 4254 by omega) (show 0 ≤ x56.toInt by omega) (show x56.toInt ≤ 16777215 by omega) (by decide) (by decide) (Nat.lt_succ_self _) hw hT hF  (lv_sub hl [3, 4, 5, 6, 7, 1, 8, 2, 0] rfl)
  refine lv_aload_n hx hb dX7_firstOpen_0 rfl (lv_at hl 0 rfl) ?_
  refine lv_iload_n hx hb dX7_firstOpen_1 rfl (lv_at hl 1 rfl) ?_
  refine lv_iload_n hx hb dX7_firstOpen_2 rfl (lv_at hl 2 rfl) ?_
  refine tk_Vi hC hK hw hT hA hE hSR kC_at39 (by decide) rfl (k_X7_isNeverOpen_1 l adK adV dC dI cy ad B (by omega) (by omega) qr s1   a1 (show 0 ≤ a1.toInt by omega) (show a1.toInt ≤ 11 by omega) w0 s.heap.size hT ) (cwV 2 hC.2.2.2.2 gX7_firstOpen_X7_isNeverOpen rfl rfl rfl (by decide +kernel) ⟨Nat.le_of_ble_eq_true rfl, Nat.le_of_ble_eq_true rfl⟩) rfl hl.1 rfl (Nat.le_of_ble_eq_true rfl) dX7_firstOpen_3 (fun r57 w59 H locs hp58 hw => ?_)
  obtain ⟨hT, k60, hg61⟩ := hp58
  have hF := hF.tr k60 (by decide)
  rcases hg61 with rfl | rfl
  · refine lv_if_eq (tgt := 11) hx hb dX7_firstOpen_6 (by decide) (fun _ => ?_) (fun c => absurd (by decide) c)
    refine lv_iconst (v := (-1)) hx hb dX7_firstOpen_11 (by decide) ?_
    refine lv_iload_n hx hb dX7_firstOpen_12 rfl (lv_at hl 3 rfl) ?_
    refine lv_bipush (v := 24) hx hb dX7_firstOpen_13 (by decide) ?_
    refine lv_irem hx hb dX7_firstOpen_15 (by decide) ?_
    refine lv_topi (fun x62 ex62 => ?_)
    refine lv_ishl hx hb dX7_firstOpen_16 ?_
    refine lv_topi (fun x63 ex63 => ?_)
    refine lv_istore (lv' := [(5, .int x63), (0, .ref (ad 39)), (1, .int a1), (2, .int 0), (3, .int a3), (4, .int a4)]) hx hb dX7_firstOpen_17 hl (by decide) rfl (fun ls hl => ?_)
    refine lv_iload_n hx hb dX7_firstOpen_19 rfl (lv_at hl 4 rfl) ?_
    refine lv_bipush (v := 24) hx hb dX7_firstOpen_20 (by decide) ?_
    refine lv_idiv hx hb dX7_firstOpen_22 (by decide) ?_
    refine lv_topi (fun x64 ex64 => ?_)
    have bx64 : -(1 / (24 : Int)) ≤ x64.toInt ∧ x64.toInt ≤ 102119 / (24 : Int) := by rw [ex64]; exact wk_divB (m := 1) (n := 102119) (show 0 < (24 : Int) by decide) (by decide) (by decide) (by omega) (by omega)
    refine lv_istore (lv' := [(6, .int x64), (5, .int x63), (0, .ref (ad 39)), (1, .int a1), (2, .int 0), (3, .int a3), (4, .int a4)]) hx hb dX7_firstOpen_23 hl (by decide) rfl (fun ls hl => ?_)
    exact L25 ((4255 - x64.toInt).toNat + 1) x63 x64 H locs ls w59 (show 0 ≤ a1.toInt by omega) (show a1.toInt ≤ 11 by omega) (show (-1) ≤ a3.toInt by omega) (show a3.toInt ≤ 102119 by omega) (show (-1) ≤ a4.toInt by omega) (show a4.toInt ≤ 102119 by omega) (show 0 ≤ x64.toInt by omega) (show x64.toInt ≤ 4255 by omega) (Nat.lt_succ_self _) hw hT hF  (lv_sub hl [2, 3, 4, 5, 6, 1, 0] rfl)
  · refine lv_if_eq (tgt := 11) hx hb dX7_firstOpen_6 (by decide) (fun c => absurd c (by decide)) (fun _ => ?_)
    refine lv_iconst (v := (-1)) hx hb dX7_firstOpen_9 (by decide) ?_
    exact tk_iret hC hr hlocks hK ⟨hT, hF, (Or.inr rfl)⟩ hw dX7_firstOpen_10
abbrev P_X7_openHours_12 (ad : Nat → Nat) (cy : Nat → ClassId) (B : Int) (qr : Nat) (s1 : Int) (a1 : Int32) (a3 : Int64) (w0 : va_W) : Int32 → va_W → Prop := fun r u => TW ksC ad cy B qr s1 u ∧ FE ksC ([] : List (Nat × Nat × Nat)) w0 u ∧ ((0 ≤ r.toInt ∧ r.toInt ≤ 16777215))
set_option maxHeartbeats 4000000 in
set_option maxRecDepth 100000 in
theorem k_X7_openHours_12 (l : Launch) (adK adV : Nat → Nat) (dC : Nat → ClassId) (dI : Nat → Nat → Nat) (cy : Nat → ClassId) (ad : Nat → Nat) (B : Int) (hB0 : 2147483648 ≤ B) (hB1 : B ≤ 1152921504606846976) (qr : Nat) (s1 : Int)  (a1 : Int32) (ra1 : 0 ≤ a1.toInt) (ta1 : a1.toInt ≤ 11) (a3 : Int64) (ra3 : 0 ≤ a3.toInt) (ta3 : a3.toInt ≤ 4254) (w0 : va_W) (sz : Nat) (hT : TW ksC ad cy B qr s1 w0)  : Met l yX7_openHours wsX7_openHours ({ frames := 1, cells := 0, slots := 0, locals := 12 }) (va_Pc [.ref (ad 39), .int a1, .int 1, .long a3, .int 1] (wpreS adK adV dC dI cy sz w0)) (va_Qi (P_X7_openHours_12 ad cy B qr s1 a1 a3 w0) (fun u : va_W => wpost dC dI cy (va_A w0 sz) u) (va_A w0 sz)) 0 0 (va_A w0 sz) := by
  refine Met.ofW (cc := cX7_openHours) (maxL := 8) (ret := (some .int)) (by decide) rfl ?_
  intro p e s m args below meth c s₁ Bk hml hv
  obtain ⟨rfl, ⟨hsz, hP, hK, hD0⟩, hE, hSR⟩ := hv
  have hx := Bk.exec
  have hb := Bk.bytes
  have hr := Bk.returns
  have hlocks := Bk.notSynchronized
  have hC : CallFix p m c cX7_openHours 8 s _ wsX7_openHours RX7 := ⟨hx, hb, hml, findClass_of_methodNamed Bk.named, atoms_spec (ws := wsX7_openHours) Bk.pre⟩
  subst hsz
  have hD := hD0.self (sz := s.heap.size)
  generalize hAe : va_A w0 s.heap.size = A at hD hE ⊢
  have hA : ∀ q : Nat, s.heap.size ≤ q → A q := fun q h => by rw [← hAe]; exact Or.inr h
  have hw : Wd dC dI A s.heap s.heap [] w0 := ⟨hP, hD, va_S.rf⟩
  have hF : FE ksC ([] : List (Nat × Nat × Nat)) w0 w0 := FE.rf
  have hl := lv_entry ([.ref (ad 39), .int a1, .int 1, .long a3, .int 1]) (n := 8) (Nat.le_of_ble_eq_true rfl)
  rw [lg_entry_eq]
  generalize (lg_sl ([.ref (ad 39), .int a1, .int 1, .long a3, .int 1]) ++ List.replicate (8 - (lg_sl ([.ref (ad 39), .int a1, .int 1, .long a3, .int 1])).length) Slot.unset).toArray = ls at hl ⊢
  have hl : lv_has ls 8 [(0, .ref (ad 39)), (1, .int a1), (2, .int 1), (3, .long a3), (5, .int 1)] := hl
  generalize hloc : ([] : List Loc) = locs at hw ⊢
  have hinX7 : ∀ w ∈ u_ws RX7 TX7 12, w ∈ wsX7_openHours := fun _ h => List.mem_cons_of_mem _ (List.mem_append_right _ (h))
  have J93 : ∀ (v93_6 : Int32) (v93_7 : Int32) (H : Heap) (locs : List Loc) (ls : Array Slot) (w1 : va_W), 0 ≤ a1.toInt → a1.toInt ≤ 11 → 0 ≤ a3.toInt → a3.toInt ≤ 4254 → 0 ≤ v93_7.toInt → v93_7.toInt ≤ 8 → Wd dC dI A s.heap H locs w1 → TW ksC ad cy B qr s1 w1 → FE ksC ([] : List (Nat × Nat × Nat)) w0 w1 → lv_has ls 8 [(0, .ref (ad 39)), (1, .int a1), (2, .int 1), (3, .long a3), (5, .int 1), (6, .int v93_6), (7, .int v93_7)] → W p l e ({ frames := 1, cells := 0, slots := 0, locals := 12 }) s m (List.toArray [.ref (ad 39), .int a1, .int 1, .long a3, .int 1]) below meth c H locs 0 0 (MQ below (va_Qi (P_X7_openHours_12 ad cy B qr s1 a1 a3 w0) (fun u : va_W => wpost dC dI cy A u) A) (List.toArray [.ref (ad 39), .int a1, .int 1, .long a3, .int 1]) s 0 0 A) (F0 m 93 ls []) := by
    intro v93_6 v93_7 H locs ls w1 r2 t3 r4 t5 r6 t7 hw hT hF hl
    refine lv_ldc (v := 16777215) hx hb hC.2.2.2.1 (hC.2.2.2.2 _ (List.mem_of_getElem? (i := 6) rfl)) dX7_openHours_93 ?_
    refine lv_aload_n hx hb dX7_openHours_95 rfl (lv_at hl 0 rfl) ?_
    refine tk_getO hC hK hw hT hinX7 kC_at39 (by decide) rfl 3 (by decide) (List.mem_of_getElem? (i := 7) rfl) rfl rfl dX7_openHours_96 ?_
    refine lv_iload_n hx hb dX7_openHours_99 rfl (lv_at hl 1 rfl) ?_
    refine tk_iald hC hK hw hT kC_at43 rfl rfl (show 0 ≤ a1.toInt by omega) (show a1.toInt < 13 by omega) dX7_openHours_100 (fun x8 c9 rx8 tx8 => ?_)
    refine lv_iconst (v := (-1)) hx hb dX7_openHours_101 (by decide) ?_
    refine lv_ixor hx hb dX7_openHours_102 ?_
    refine lv_topi (fun x10 ex10 => ?_)
    refine lv_iand hx hb dX7_openHours_103 ?_
    refine lv_topi (fun x11 ex11 => ?_)
    have bx11 : 0 ≤ x11.toInt ∧ x11.toInt ≤ (16777215 : Int) := by rw [ex11]; exact wk_andC (by decide)
    exact tk_iret hC hr hlocks hK ⟨hT, hF, ⟨(show 0 ≤ x11.toInt by omega), (show x11.toInt ≤ 16777215 by omega)⟩⟩ hw dX7_openHours_104
  have L44 : ∀ (n44 : Nat) (v44_6 : Int32) (v44_7 : Int32) (H : Heap) (locs : List Loc) (ls : Array Slot) (w12 : va_W), 0 ≤ a1.toInt → a1.toInt ≤ 11 → 0 ≤ a3.toInt → a3.toInt ≤ 4254 → 0 ≤ v44_7.toInt → v44_7.toInt ≤ 8 → (8 - v44_7.toInt).toNat < n44 → Wd dC dI A s.heap H locs w12 → TW ksC ad cy B qr s1 w12 → FE ksC ([] : List (Nat × Nat × Nat)) w0 w12 → lv_has ls 8 [(0, .ref (ad 39)), (1, .int a1), (2, .int 1), (3, .long a3), (5, .int 1), (6, .int v44_6), (7, .int v44_7)] → W p l e ({ frames := 1, cells := 0, slots := 0, locals := 12 }) s m (List.toArray [.ref (ad 39), .int a1, .int 1, .long a3, .int 1]) below meth c H locs 0 0 (MQ below (va_Qi (P_X7_openHours_12 ad cy B qr s1 a1 a3 w0) (fun u : va_W => wpost dC dI cy A u) A) (List.toArray [.ref (ad 39), .int a1, .int 1, .long a3, .int 1]) s 0 0 A) (F0 m 44 ls []) := by
    intro n44
    induction n44 with
    | zero => intro v44_6 v44_7 H locs ls w12 r13 t14 r15 t16 r17 t18 hm44 hw hT hF hl; omega
    | succ n44 ih44 =>
      intro v44_6 v44_7 H locs ls w12 r13 t14 r15 t16 r17 t18 hm44 hw hT hF hl
      have J81 : ∀ (H : Heap) (locs : List Loc) (ls : Array Slot) (w19 : va_W), 0 ≤ a1.toInt → a1.toInt ≤ 11 → 0 ≤ a3.toInt → a3.toInt ≤ 4254 → 0 ≤ v44_7.toInt → v44_7.toInt ≤ 7 → Wd dC dI A s.heap H locs w19 → TW ksC ad cy B qr s1 w19 → FE ksC ([] : List (Nat × Nat × Nat)) w0 w19 → lv_has ls 8 [(0, .ref (ad 39)), (1, .int a1), (2, .int 1), (3, .long a3), (5, .int 1), (6, .int v44_6), (7, .int v44_7)] → W p l e ({ frames := 1, cells := 0, slots := 0, locals := 12 }) s m (List.toArray [.ref (ad 39), .int a1, .int 1, .long a3, .int 1]) below meth c H locs 0 0 (MQ below (va_Qi (P_X7_openHours_12 ad cy B qr s1 a1 a3 w0) (fun u : va_W => wpost dC dI cy A u) A) (List.toArray [.ref (ad 39), .int a1, .int 1, .long a3, .int 1]) s 0 0 A) (F0 m 81 ls []) := by
        intro H locs ls w19 r20 t21 r22 t23 r24 t25 hw hT hF hl
        refine lv_iload hx hb dX7_openHours_81 (lv_at hl 5 rfl) ?_
        refine lv_iconst (v := 1) hx hb dX7_openHours_83 (by decide) ?_
        refine lv_ishr hx hb dX7_openHours_84 ?_
        refine lv_topi (fun x26 ex26 => ?_)
        refine lv_istore (lv' := [(6, .int x26), (0, .ref (ad 39)), (1, .int a1), (2, .int 1), (3, .long a3), (5, .int 1), (7, .int v44_7)]) hx hb dX7_openHours_85 hl (by decide) rfl (fun ls hl => ?_)
        obtain ⟨x27, ex27⟩ : ∃ y : Int32, y = v44_7 + Int32.ofInt 1 := ⟨_, rfl⟩
        refine lv_iinc (v := x27) (lv' := [(7, .int x27), (6, .int x26), (0, .ref (ad 39)), (1, .int a1), (2, .int 1), (3, .long a3), (5, .int 1)]) hx hb dX7_openHours_87 hl (k := 6) rfl ex27.symm (by decide) rfl (fun ls hl => ?_)
        have ex27 : x27.toInt = v44_7.toInt + 1 := by rw [ex27]; exact wk_add (y := 1) (show -2147483648 ≤ v44_7.toInt + 1 by omega) (show v44_7.toInt + 1 ≤ 2147483647 by omega)
        refine lv_goto (tgt := 44) hx hb dX7_openHours_90 (by decide) ?_
        exact ih44 x26 x27 H locs ls w19 (show 0 ≤ a1.toInt by omega) (show a1.toInt ≤ 11 by omega) (show 0 ≤ a3.toInt by omega) (show a3.toInt ≤ 4254 by omega) (show 0 ≤ x27.toInt by omega) (show x27.toInt ≤ 8 by omega) (show (8 - x27.toInt).toNat < n44 by omega) hw hT hF  (lv_sub hl [2, 3, 4, 5, 6, 1, 0] rfl)
      refine lv_iload hx hb dX7_openHours_44 (lv_at hl 5 rfl) ?_
      refine lv_if_eq (tgt := 93) hx hb dX7_openHours_46 (by decide) (fun c28 => ?_) (fun c28 => ?_)
      · have c28 : v44_6.toInt = (0 : Int) := wk_eq.mp c28
        exact J93 v44_6 v44_7 H locs ls w12 (show 0 ≤ a1.toInt by omega) (show a1.toInt ≤ 11 by omega) (show 0 ≤ a3.toInt by omega) (show a3.toInt ≤ 4254 by omega) (show 0 ≤ v44_7.toInt by omega) (show v44_7.toInt ≤ 8 by omega)  hw hT hF  (lv_sub hl [0, 1, 2, 3, 4, 5, 6] rfl)
      · have c28 : ¬ v44_6.toInt = (0 : Int) := wk_eqF c28
        refine lv_iload hx hb dX7_openHours_49 (lv_at hl 6 rfl) ?_
        refine lv_bipush (v := 8) hx hb dX7_openHours_51 (by decide) ?_
        refine lv_icmp_ge (tgt := 93) hx hb dX7_openHours_53 (by decide) (fun c29 => ?_) (fun c29 => ?_)
        · have c29 : (8 : Int) ≤ v44_7.toInt := wk_le.mp c29
          exact J93 v44_6 v44_7 H locs ls w12 (show 0 ≤ a1.toInt by omega) (show a1.toInt ≤ 11 by omega) (show 0 ≤ a3.toInt by omega) (show a3.toInt ≤ 4254 by omega) (show 0 ≤ v44_7.toInt by omega) (show v44_7.toInt ≤ 8 by omega)  hw hT hF  (lv_sub hl [0, 1, 2, 3, 4, 5, 6] rfl)
        · have c29 : v44_7.toInt < (8 : Int) := wk_leF c29
          refine lv_iload hx hb dX7_openHours_56 (lv_at hl 5 rfl) ?_
          refine lv_iconst (v := 1) hx hb dX7_openHours_58 (by decide) ?_
          refine lv_iand hx hb dX7_openHours_59 ?_
          refine lv_topi (fun x30 ex30 => ?_)
          have bx30 : 0 ≤ x30.toInt ∧ x30.toInt ≤ (1 : Int) := by rw [ex30]; exact wk_and (by decide)
          refine lv_if_eq (tgt := 81) hx hb dX7_openHours_60 (by decide) (fun c31 => ?_) (fun c31 => ?_)
          · have c31 : x30.toInt = (0 : Int) := wk_eq.mp c31
            exact J81  H locs ls w12 (show 0 ≤ a1.toInt by omega) (show a1.toInt ≤ 11 by omega) (show 0 ≤ a3.toInt by omega) (show a3.toInt ≤ 4254 by omega) (show 0 ≤ v44_7.toInt by omega) (show v44_7.toInt ≤ 7 by omega)  hw hT hF  (lv_sub hl [0, 1, 2, 3, 4, 5, 6] rfl)
          · have c31 : ¬ x30.toInt = (0 : Int) := wk_eqF c31
            refine lv_aload_n hx hb dX7_openHours_63 rfl (lv_at hl 0 rfl) ?_
            refine tk_getO hC hK hw hT hinX7 kC_at39 (by decide) rfl 6 (by decide) (List.mem_of_getElem? (i := 4) rfl) rfl rfl dX7_openHours_64 ?_
            refine lv_iload hx hb dX7_openHours_67 (lv_at hl 6 rfl) ?_
            refine tk_iald hC hK hw hT kC_at46 rfl rfl (show 0 ≤ v44_7.toInt by omega) (show v44_7.toInt < 8 by omega) dX7_openHours_69 (fun x32 c33 rx32 tx32 => ?_)
            refine lv_lload_n hx hb dX7_openHours_70 rfl (lv_at hl 3 rfl) ?_
            refine lv_ldc2 (v := 360) hx hb hC.2.2.2.1 (hC.2.2.2.2 _ (List.mem_of_getElem? (i := 5) rfl)) dX7_openHours_71 ?_
            refine lv_lrem hx hb dX7_openHours_74 (by decide) ?_
            refine lv_topl (fun x34 ex34 => ?_)
            have ex34 : x34.toInt = a3.toInt % (360 : Int) := by rw [ex34]; exact wk_reml (show 0 ≤ a3.toInt by omega) (show 0 < (360 : Int) by decide)
            refine lv_l2i hx hb dX7_openHours_75 rfl ?_
            refine lv_topi (fun x35 ex35 => ?_)
            have ex35 : x35.toInt = x34.toInt := by rw [ex35]; exact wk_l2i (by omega) (by omega)
            refine lv_icmp_ne (tgt := 81) hx hb dX7_openHours_76 (by decide) (fun c36 => ?_) (fun c36 => ?_)
            · have c36 : ¬ x32.toInt = x35.toInt := wk_eqF c36
              exact J81  H locs ls w12 (show 0 ≤ a1.toInt by omega) (show a1.toInt ≤ 11 by omega) (show 0 ≤ a3.toInt by omega) (show a3.toInt ≤ 4254 by omega) (show 0 ≤ v44_7.toInt by omega) (show v44_7.toInt ≤ 7 by omega)  hw hT hF  (lv_sub hl [0, 1, 2, 3, 4, 5, 6] rfl)
            · have c36 : x32.toInt = x35.toInt := wk_eq.mp c36
              refine lv_iconst (v := 0) hx hb dX7_openHours_79 (by decide) ?_
              exact tk_iret hC hr hlocks hK ⟨hT, hF, ⟨(by decide), (by decide)⟩⟩ hw dX7_openHours_80
  refine lv_aload_n hx hb dX7_openHours_0 rfl (lv_at hl 0 rfl) ?_
  refine tk_getO hC hK hw hT hinX7 kC_at39 (by decide) rfl 4 (by decide) (List.mem_of_getElem? (i := 1) rfl) rfl rfl dX7_openHours_1 ?_
  refine lv_iconst (v := 2) hx hb dX7_openHours_4 (by decide) ?_
  refine lv_iload_n hx hb dX7_openHours_5 rfl (lv_at hl 1 rfl) ?_
  refine lv_imul hx hb dX7_openHours_6 ?_
  refine lv_topi (fun x37 ex37 => ?_)
  have ex37 : x37.toInt = (2 : Int) * a1.toInt := by rw [ex37]; exact wk_mul (show (-2147483648) ≤ (2 : Int) * a1.toInt by omega) (show (2 : Int) * a1.toInt ≤ 2147483647 by omega)
  refine lv_iload_n hx hb dX7_openHours_7 rfl (lv_at hl 2 rfl) ?_
  refine lv_iadd hx hb dX7_openHours_8 ?_
  refine lv_topi (fun x38 ex38 => ?_)
  have ex38 : x38.toInt = x37.toInt + (1 : Int) := by rw [ex38]; exact wk_add (show (-2147483648) ≤ x37.toInt + (1 : Int) by omega) (show x37.toInt + (1 : Int) ≤ 2147483647 by omega)
  refine tk_iald hC hK hw hT kC_at44 rfl rfl (show 0 ≤ x38.toInt by omega) (show x38.toInt < 26 by omega) dX7_openHours_9 (fun x39 c40 rx39 tx39 => ?_)
  refine lv_lload_n hx hb dX7_openHours_10 rfl (lv_at hl 3 rfl) ?_
  refine lv_ldc2 (v := 7) hx hb hC.2.2.2.1 (hC.2.2.2.2 _ (List.mem_of_getElem? (i := 2) rfl)) dX7_openHours_11 ?_
  refine lv_lrem hx hb dX7_openHours_14 (by decide) ?_
  refine lv_topl (fun x41 ex41 => ?_)
  have ex41 : x41.toInt = a3.toInt % (7 : Int) := by rw [ex41]; exact wk_reml (show 0 ≤ a3.toInt by omega) (show 0 < (7 : Int) by decide)
  refine lv_l2i hx hb dX7_openHours_15 rfl ?_
  refine lv_topi (fun x42 ex42 => ?_)
  have ex42 : x42.toInt = x41.toInt := by rw [ex42]; exact wk_l2i (by omega) (by omega)
  refine lv_ishr hx hb dX7_openHours_16 ?_
  refine lv_topi (fun x43 ex43 => ?_)
  refine lv_iconst (v := 1) hx hb dX7_openHours_17 (by decide) ?_
  refine lv_iand hx hb dX7_openHours_18 ?_
  refine lv_topi (fun x44 ex44 => ?_)
  have bx44 : 0 ≤ x44.toInt ∧ x44.toInt ≤ (1 : Int) := by rw [ex44]; exact wk_and (by decide)
  refine lv_if_ne (tgt := 24) hx hb dX7_openHours_19 (by decide) (fun c45 => ?_) (fun c45 => ?_)
  · have c45 : ¬ x44.toInt = (0 : Int) := wk_eqF c45
    refine lv_iload hx hb dX7_openHours_24 (lv_at hl 4 rfl) ?_
    refine lv_if_eq (tgt := 38) hx hb dX7_openHours_26 (by decide) (fun c => absurd c (by decide)) (fun _ => ?_)
    refine lv_aload_n hx hb dX7_openHours_29 rfl (lv_at hl 0 rfl) ?_
    refine tk_getO hC hK hw hT hinX7 kC_at39 (by decide) rfl 7 (by decide) (List.mem_of_getElem? (i := 3) rfl) rfl rfl dX7_openHours_30 ?_
    refine lv_iload_n hx hb dX7_openHours_33 rfl (lv_at hl 1 rfl) ?_
    refine tk_iald hC hK hw hT kC_at47 rfl rfl (show 0 ≤ a1.toInt by omega) (show a1.toInt < 13 by omega) dX7_openHours_34 (fun x46 c47 rx46 tx46 => ?_)
    refine lv_goto (tgt := 39) hx hb dX7_openHours_35 (by decide) ?_
    refine lv_istore (lv' := [(6, .int x46), (0, .ref (ad 39)), (1, .int a1), (2, .int 1), (3, .long a3), (5, .int 1)]) hx hb dX7_openHours_39 hl (by decide) rfl (fun ls hl => ?_)
    refine lv_iconst (v := 0) hx hb dX7_openHours_41 (by decide) ?_
    refine lv_istore (lv' := [(7, .int 0), (6, .int x46), (0, .ref (ad 39)), (1, .int a1), (2, .int 1), (3, .long a3), (5, .int 1)]) hx hb dX7_openHours_42 hl (by decide) rfl (fun ls hl => ?_)
    exact L44 ((8 - (0 : Int)).toNat + 1) x46 0 s.heap locs ls w0 (show 0 ≤ a1.toInt by omega) (show a1.toInt ≤ 11 by omega) (show 0 ≤ a3.toInt by omega) (show a3.toInt ≤ 4254 by omega) (by decide) (by decide) (Nat.lt_succ_self _) hw hT hF  (lv_sub hl [2, 3, 4, 5, 6, 1, 0] rfl)
  · have c45 : x44.toInt = (0 : Int) := wk_eq.mp c45
    refine lv_iconst (v := 0) hx hb dX7_openHours_22 (by decide) ?_
    exact tk_iret hC hr hlocks hK ⟨hT, hF, ⟨(by decide), (by decide)⟩⟩ hw dX7_openHours_23
abbrev P_X7_firstOpen_6 (ad : Nat → Nat) (cy : Nat → ClassId) (B : Int) (qr : Nat) (s1 : Int) (a1 : Int32) (a3 : Int32) (a4 : Int32) (w0 : va_W) : Int32 → va_W → Prop := fun r u => TW ksC ad cy B qr s1 u ∧ FE ksC ([] : List (Nat × Nat × Nat)) w0 u ∧ ((0 ≤ r.toInt ∧ r.toInt ≤ 102119 ∧ 0 ≤ a4.toInt) ∨ (r = (-1)))
set_option maxHeartbeats 4000000 in
set_option maxRecDepth 100000 in
theorem k_X7_firstOpen_6 (l : Launch) (adK adV : Nat → Nat) (dC : Nat → ClassId) (dI : Nat → Nat → Nat) (cy : Nat → ClassId) (ad : Nat → Nat) (B : Int) (hB0 : 2147483648 ≤ B) (hB1 : B ≤ 1152921504606846976) (qr : Nat) (s1 : Int)  (a1 : Int32) (ra1 : 0 ≤ a1.toInt) (ta1 : a1.toInt ≤ 11) (a3 : Int32) (ra3 : (-1) ≤ a3.toInt) (ta3 : a3.toInt ≤ 102119) (a4 : Int32) (ra4 : (-1) ≤ a4.toInt) (ta4 : a4.toInt ≤ 102119) (w0 : va_W) (sz : Nat) (hT : TW ksC ad cy B qr s1 w0)  : Met l yX7_firstOpen wsX7_firstOpen ({ frames := 2, cells := 0, slots := 0, locals := 39 }) (va_Pc [.ref (ad 39), .int a1, .int 1, .int a3, .int a4] (wpreS adK adV dC dI cy sz w0)) (va_Qi (P_X7_firstOpen_6 ad cy B qr s1 a1 a3 a4 w0) (fun u : va_W => wpost dC dI cy (va_A w0 sz) u) (va_A w0 sz)) 0 0 (va_A w0 sz) := by
  refine Met.ofW (cc := cX7_firstOpen) (maxL := 10) (ret := (some .int)) (by decide) rfl ?_
  intro p e s m args below meth c s₁ Bk hml hv
  obtain ⟨rfl, ⟨hsz, hP, hK, hD0⟩, hE, hSR⟩ := hv
  have hx := Bk.exec
  have hb := Bk.bytes
  have hr := Bk.returns
  have hlocks := Bk.notSynchronized
  have hC : CallFix p m c cX7_firstOpen 10 s _ wsX7_firstOpen RX7 := ⟨hx, hb, hml, findClass_of_methodNamed Bk.named, atoms_spec (ws := wsX7_firstOpen) Bk.pre⟩
  subst hsz
  have hD := hD0.self (sz := s.heap.size)
  generalize hAe : va_A w0 s.heap.size = A at hD hE ⊢
  have hA : ∀ q : Nat, s.heap.size ≤ q → A q := fun q h => by rw [← hAe]; exact Or.inr h
  have hw : Wd dC dI A s.heap s.heap [] w0 := ⟨hP, hD, va_S.rf⟩
  have hF : FE ksC ([] : List (Nat × Nat × Nat)) w0 w0 := FE.rf
  have hl := lv_entry ([.ref (ad 39), .int a1, .int 1, .int a3, .int a4]) (n := 10) (Nat.le_of_ble_eq_true rfl)
  rw [lg_entry_eq]
  generalize (lg_sl ([.ref (ad 39), .int a1, .int 1, .int a3, .int a4]) ++ List.replicate (10 - (lg_sl ([.ref (ad 39), .int a1, .int 1, .int a3, .int a4])).length) Slot.unset).toArray = ls at hl ⊢
  have hl : lv_has ls 10 [(0, .ref (ad 39)), (1, .int a1), (2, .int 1), (3, .int a3), (4, .int a4)] := hl
  generalize hloc : ([] : List Loc) = locs at hw ⊢
  have L25 : ∀ (n25 : Nat) (v25_5 : Int32) (v25_6 : Int32) (H : Heap) (locs : List Loc) (ls : Array Slot) (w1 : va_W), 0 ≤ a1.toInt → a1.toInt ≤ 11 → (-1) ≤ a3.toInt → a3.toInt ≤ 102119 → (-1) ≤ a4.toInt → a4.toInt ≤ 102119 → 0 ≤ v25_6.toInt → v25_6.toInt ≤ 4255 → (4255 - v25_6.toInt).toNat < n25 → Wd dC dI A s.heap H locs w1 → TW ksC ad cy B qr s1 w1 → FE ksC ([] : List (Nat × Nat × Nat)) w0 w1 → lv_has ls 10 [(0, .ref (ad 39)), (1, .int a1), (2, .int 1), (3, .int a3), (4, .int a4), (5, .int v25_5), (6, .int v25_6)] → W p l e ({ frames := 2, cells := 0, slots := 0, locals := 39 }) s m (List.toArray [.ref (ad 39), .int a1, .int 1, .int a3, .int a4]) below meth c H locs 0 0 (MQ below (va_Qi (P_X7_firstOpen_6 ad cy B qr s1 a1 a3 a4 w0) (fun u : va_W => wpost dC dI cy A u) A) (List.toArray [.ref (ad 39), .int a1, .int 1, .int a3, .int a4]) s 0 0 A) (F0 m 25 ls []) := by
    intro n25
    induction n25 with
    | zero => intro v25_5 v25_6 H locs ls w1 r2 t3 r4 t5 r6 t7 r8 t9 hm25 hw hT hF hl; omega
    | succ n25 ih25 =>
      intro v25_5 v25_6 H locs ls w1 r2 t3 r4 t5 r6 t7 r8 t9 hm25 hw hT hF hl
      have J108 : ∀ (v108_7 : Int32) (v108_8 : Int32) (H : Heap) (locs : List Loc) (ls : Array Slot) (w10 : va_W), 0 ≤ a1.toInt → a1.toInt ≤ 11 → (-1) ≤ a3.toInt → a3.toInt ≤ 102119 → 0 ≤ a4.toInt → a4.toInt ≤ 102119 → 0 ≤ v25_6.toInt → v25_6.toInt ≤ 4254 → 0 ≤ v108_7.toInt → v108_7.toInt ≤ 16777215 → 0 ≤ v108_8.toInt → v108_8.toInt ≤ 24 → Wd dC dI A s.heap H locs w10 → TW ksC ad cy B qr s1 w10 → FE ksC ([] : List (Nat × Nat × Nat)) w0 w10 → lv_has ls 10 [(0, .ref (ad 39)), (1, .int a1), (2, .int 1), (3, .int a3), (4, .int a4), (5, .int (-1)), (6, .int v25_6), (7, .int v108_7), (8, .int v108_8)] → W p l e ({ frames := 2, cells := 0, slots := 0, locals := 39 }) s m (List.toArray [.ref (ad 39), .int a1, .int 1, .int a3, .int a4]) below meth c H locs 0 0 (MQ below (va_Qi (P_X7_firstOpen_6 ad cy B qr s1 a1 a3 a4 w0) (fun u : va_W => wpost dC dI cy A u) A) (List.toArray [.ref (ad 39), .int a1, .int 1, .int a3, .int a4]) s 0 0 A) (F0 m 108 ls []) := by
        intro v108_7 v108_8 H locs ls w10 r11 t12 r13 t14 r15 t16 r17 t18 r19 t20 r21 t22 hw hT hF hl
        obtain ⟨x23, ex23⟩ : ∃ y : Int32, y = v25_6 + Int32.ofInt 1 := ⟨_, rfl⟩
        refine lv_iinc (v := x23) (lv' := [(6, .int x23), (0, .ref (ad 39)), (1, .int a1), (2, .int 1), (3, .int a3), (4, .int a4), (5, .int (-1)), (7, .int v108_7), (8, .int v108_8)]) hx hb dX7_firstOpen_108 hl (k := 6) rfl ex23.symm (by decide) rfl (fun ls hl => ?_)
        have ex23 : x23.toInt = v25_6.toInt + 1 := by rw [ex23]; exact wk_add (y := 1) (show -2147483648 ≤ v25_6.toInt + 1 by omega) (show v25_6.toInt + 1 ≤ 2147483647 by omega)
        refine lv_goto (tgt := 25) hx hb dX7_firstOpen_111 (by decide) ?_
        exact ih25 (-1) x23 H locs ls w10 (show 0 ≤ a1.toInt by omega) (show a1.toInt ≤ 11 by omega) (show (-1) ≤ a3.toInt by omega) (show a3.toInt ≤ 102119 by omega) (show (-1) ≤ a4.toInt by omega) (show a4.toInt ≤ 102119 by omega) (show 0 ≤ x23.toInt by omega) (show x23.toInt ≤ 4255 by omega) (show (4255 - x23.toInt).toNat < n25 by omega) hw hT hF  (lv_sub hl [1, 2, 3, 4, 5, 6, 0] rfl)
      have L56 : ∀ (n56 : Nat) (v56_7 : Int32) (v56_8 : Int32) (H : Heap) (locs : List Loc) (ls : Array Slot) (w24 : va_W), 0 ≤ a1.toInt → a1.toInt ≤ 11 → (-1) ≤ a3.toInt → a3.toInt ≤ 102119 → 0 ≤ a4.toInt → a4.toInt ≤ 102119 → 0 ≤ v25_6.toInt → v25_6.toInt ≤ 4254 → 0 ≤ v56_7.toInt → v56_7.toInt ≤ 16777215 → 0 ≤ v56_8.toInt → v56_8.toInt ≤ 24 → (24 - v56_8.toInt).toNat < n56 → Wd dC dI A s.heap H locs w24 → TW ksC ad cy B qr s1 w24 → FE ksC ([] : List (Nat × Nat × Nat)) w0 w24 → lv_has ls 10 [(0, .ref (ad 39)), (1, .int a1), (2, .int 1), (3, .int a3), (4, .int a4), (5, .int (-1)), (6, .int v25_6), (7, .int v56_7), (8, .int v56_8)] → W p l e ({ frames := 2, cells := 0, slots := 0, locals := 39 }) s m (List.toArray [.ref (ad 39), .int a1, .int 1, .int a3, .int a4]) below meth c H locs 0 0 (MQ below (va_Qi (P_X7_firstOpen_6 ad cy B qr s1 a1 a3 a4 w0) (fun u : va_W => wpost dC dI cy A u) A) (List.toArray [.ref (ad 39), .int a1, .int 1, .int a3, .int a4]) s 0 0 A) (F0 m 56 ls []) := by
        intro n56
        induction n56 with
        | zero => intro v56_7 v56_8 H locs ls w24 r25 t26 r27 t28 r29 t30 r31 t32 r33 t34 r35 t36 hm56 hw hT hF hl; omega
        | succ n56 ih56 =>
          intro v56_7 v56_8 H locs ls w24 r25 t26 r27 t28 r29 t30 r31 t32 r33 t34 r35 t36 hm56 hw hT hF hl
          refine lv_iload hx hb dX7_firstOpen_56 (lv_at hl 7 rfl) ?_
          refine lv_if_eq (tgt := 108) hx hb dX7_firstOpen_58 (by decide) (fun c37 => ?_) (fun c37 => ?_)
          · have c37 : v56_7.toInt = (0 : Int) := wk_eq.mp c37
            exact J108 v56_7 v56_8 H locs ls w24 (show 0 ≤ a1.toInt by omega) (show a1.toInt ≤ 11 by omega) (show (-1) ≤ a3.toInt by omega) (show a3.toInt ≤ 102119 by omega) (show 0 ≤ a4.toInt by omega) (show a4.toInt ≤ 102119 by omega) (show 0 ≤ v25_6.toInt by omega) (show v25_6.toInt ≤ 4254 by omega) (show 0 ≤ v56_7.toInt by omega) (show v56_7.toInt ≤ 16777215 by omega) (show 0 ≤ v56_8.toInt by omega) (show v56_8.toInt ≤ 24 by omega)  hw hT hF  (lv_sub hl [0, 1, 2, 3, 4, 5, 6, 7, 8] rfl)
          · have c37 : ¬ v56_7.toInt = (0 : Int) := wk_eqF c37
            refine lv_iload hx hb dX7_firstOpen_61 (lv_at hl 8 rfl) ?_
            refine lv_bipush (v := 24) hx hb dX7_firstOpen_63 (by decide) ?_
            refine lv_icmp_ge (tgt := 108) hx hb dX7_firstOpen_65 (by decide) (fun c38 => ?_) (fun c38 => ?_)
            · have c38 : (24 : Int) ≤ v56_8.toInt := wk_le.mp c38
              exact J108 v56_7 v56_8 H locs ls w24 (show 0 ≤ a1.toInt by omega) (show a1.toInt ≤ 11 by omega) (show (-1) ≤ a3.toInt by omega) (show a3.toInt ≤ 102119 by omega) (show 0 ≤ a4.toInt by omega) (show a4.toInt ≤ 102119 by omega) (show 0 ≤ v25_6.toInt by omega) (show v25_6.toInt ≤ 4254 by omega) (show 0 ≤ v56_7.toInt by omega) (show v56_7.toInt ≤ 16777215 by omega) (show 0 ≤ v56_8.toInt by omega) (show v56_8.toInt ≤ 24 by omega)  hw hT hF  (lv_sub hl [0, 1, 2, 3, 4, 5, 6, 7, 8] rfl)
            · have c38 : v56_8.toInt < (24 : Int) := wk_leF c38
              refine lv_iload hx hb dX7_firstOpen_68 (lv_at hl 7 rfl) ?_
              refine lv_iload hx hb dX7_firstOpen_70 (lv_at hl 8 rfl) ?_
              refine lv_ishr hx hb dX7_firstOpen_72 ?_
              refine lv_topi (fun x39 ex39 => ?_)
              have bx39 : 0 ≤ x39.toInt ∧ x39.toInt ≤ v56_7.toInt := by rw [ex39]; exact wk_shr (by omega)
              refine lv_iconst (v := 1) hx hb dX7_firstOpen_73 (by decide) ?_
              refine lv_iand hx hb dX7_firstOpen_74 ?_
              refine lv_topi (fun x40 ex40 => ?_)
              have bx40 : 0 ≤ x40.toInt ∧ x40.toInt ≤ (1 : Int) := by rw [ex40]; exact wk_and (by decide)
              refine lv_if_eq (tgt := 102) hx hb dX7_firstOpen_75 (by decide) (fun c41 => ?_) (fun c41 => ?_)
              · have c41 : x40.toInt = (0 : Int) := wk_eq.mp c41
                obtain ⟨x42, ex42⟩ : ∃ y : Int32, y = v56_8 + Int32.ofInt 1 := ⟨_, rfl⟩
                refine lv_iinc (v := x42) (lv' := [(8, .int x42), (0, .ref (ad 39)), (1, .int a1), (2, .int 1), (3, .int a3), (4, .int a4), (5, .int (-1)), (6, .int v25_6), (7, .int v56_7)]) hx hb dX7_firstOpen_102 hl (k := 8) rfl ex42.symm (by decide) rfl (fun ls hl => ?_)
                have ex42 : x42.toInt = v56_8.toInt + 1 := by rw [ex42]; exact wk_add (y := 1) (show -2147483648 ≤ v56_8.toInt + 1 by omega) (show v56_8.toInt + 1 ≤ 2147483647 by omega)
                refine lv_goto (tgt := 56) hx hb dX7_firstOpen_105 (by decide) ?_
                exact ih56 v56_7 x42 H locs ls w24 (show 0 ≤ a1.toInt by omega) (show a1.toInt ≤ 11 by omega) (show (-1) ≤ a3.toInt by omega) (show a3.toInt ≤ 102119 by omega) (show 0 ≤ a4.toInt by omega) (show a4.toInt ≤ 102119 by omega) (show 0 ≤ v25_6.toInt by omega) (show v25_6.toInt ≤ 4254 by omega) (show 0 ≤ v56_7.toInt by omega) (show v56_7.toInt ≤ 16777215 by omega) (show 0 ≤ x42.toInt by omega) (show x42.toInt ≤ 24 by omega) (show (24 - x42.toInt).toNat < n56 by omega) hw hT hF  (lv_sub hl [1, 2, 3, 4, 5, 6, 7, 8, 0] rfl)
              · have c41 : ¬ x40.toInt = (0 : Int) := wk_eqF c41
                refine lv_iload hx hb dX7_firstOpen_78 (lv_at hl 6 rfl) ?_
                refine lv_bipush (v := 24) hx hb dX7_firstOpen_80 (by decide) ?_
                refine lv_imul hx hb dX7_firstOpen_82 ?_
                refine lv_topi (fun x43 ex43 => ?_)
                have ex43 : x43.toInt = v25_6.toInt * (24 : Int) := by rw [ex43]; exact wk_mul (show (-2147483648) ≤ v25_6.toInt * (24 : Int) by omega) (show v25_6.toInt * (24 : Int) ≤ 2147483647 by omega)
                refine lv_iload hx hb dX7_firstOpen_83 (lv_at hl 8 rfl) ?_
                refine lv_iadd hx hb dX7_firstOpen_85 ?_
                refine lv_topi (fun x44 ex44 => ?_)
                have ex44 : x44.toInt = x43.toInt + v56_8.toInt := by rw [ex44]; exact wk_add (show (-2147483648) ≤ x43.toInt + v56_8.toInt by omega) (show x43.toInt + v56_8.toInt ≤ 2147483647 by omega)
                refine lv_istore (lv' := [(9, .int x44), (0, .ref (ad 39)), (1, .int a1), (2, .int 1), (3, .int a3), (4, .int a4), (5, .int (-1)), (6, .int v25_6), (7, .int v56_7), (8, .int v56_8)]) hx hb dX7_firstOpen_86 hl (by decide) rfl (fun ls hl => ?_)
                refine lv_iload hx hb dX7_firstOpen_88 (lv_at hl 0 rfl) ?_
                refine lv_iload hx hb dX7_firstOpen_90 (lv_at hl 5 rfl) ?_
                refine lv_icmp_gt (tgt := 100) hx hb dX7_firstOpen_92 (by decide) (fun c45 => ?_) (fun c45 => ?_)
                · have c45 : a4.toInt < x44.toInt := wk_lt.mp c45
                  refine lv_iconst (v := (-1)) hx hb dX7_firstOpen_100 (by decide) ?_
                  exact tk_iret hC hr hlocks hK ⟨hT, hF, (Or.inr rfl)⟩ hw dX7_firstOpen_101
                · have c45 : x44.toInt ≤ a4.toInt := wk_ltF c45
                  refine lv_iload hx hb dX7_firstOpen_95 (lv_at hl 0 rfl) ?_
                  refine lv_goto (tgt := 101) hx hb dX7_firstOpen_97 (by decide) ?_
                  exact tk_iret hC hr hlocks hK ⟨hT, hF, (Or.inl ⟨(show 0 ≤ x44.toInt by omega), (show x44.toInt ≤ 102119 by omega), (show 0 ≤ a4.toInt by omega)⟩)⟩ hw dX7_firstOpen_101
      refine lv_iload hx hb dX7_firstOpen_25 (lv_at hl 6 rfl) ?_
      refine lv_bipush (v := 24) hx hb dX7_firstOpen_27 (by decide) ?_
      refine lv_imul hx hb dX7_firstOpen_29 ?_
      refine lv_topi (fun x46 ex46 => ?_)
      have ex46 : x46.toInt = v25_6.toInt * (24 : Int) := by rw [ex46]; exact wk_mul (show (-2147483648) ≤ v25_6.toInt * (24 : Int) by omega) (show v25_6.toInt * (24 : Int) ≤ 2147483647 by omega)
      refine lv_iload hx hb dX7_firstOpen_30 (lv_at hl 4 rfl) ?_
      refine lv_icmp_gt (tgt := 114) hx hb dX7_firstOpen_32 (by decide) (fun c47 => ?_) (fun c47 => ?_)
      · have c47 : a4.toInt < x46.toInt := wk_lt.mp c47
        refine lv_iconst (v := (-1)) hx hb dX7_firstOpen_114 (by decide) ?_
        exact tk_iret hC hr hlocks hK ⟨hT, hF, (Or.inr rfl)⟩ hw dX7_firstOpen_115
      · have c47 : x46.toInt ≤ a4.toInt := wk_ltF c47
        refine lv_aload_n hx hb dX7_firstOpen_35 rfl (lv_at hl 0 rfl) ?_
        refine lv_iload_n hx hb dX7_firstOpen_36 rfl (lv_at hl 1 rfl) ?_
        refine lv_iload_n hx hb dX7_firstOpen_37 rfl (lv_at hl 2 rfl) ?_
        refine lv_iload hx hb dX7_firstOpen_38 (lv_at hl 6 rfl) ?_
        refine lv_i2l hx hb dX7_firstOpen_40 rfl ?_
        refine lv_topl (fun x48 ex48 => ?_)
        have ex48 : x48.toInt = v25_6.toInt := by rw [ex48]; exact wk_i2l _
        have bx48 := wk_i32 v25_6
        refine lv_iconst (v := 1) hx hb dX7_firstOpen_41 (by decide) ?_
        refine tk_Vi hC hK hw hT hA hE hSR kC_at39 (by decide) rfl (k_X7_openHours_12 l adK adV dC dI cy ad B (by omega) (by omega) qr s1   a1 (show 0 ≤ a1.toInt by omega) (show a1.toInt ≤ 11 by omega) x48 (show 0 ≤ x48.toInt by omega) (show x48.toInt ≤ 4254 by omega) w1 H.size hT ) (cwV 4 hC.2.2.2.2 gX7_firstOpen_X7_openHours rfl rfl rfl (by decide +kernel) ⟨Nat.le_of_ble_eq_true rfl, Nat.le_of_ble_eq_true rfl⟩) rfl hl.1 rfl (Nat.le_of_ble_eq_true rfl) dX7_firstOpen_42 (fun r49 w51 H locs hp50 hw => ?_)
        obtain ⟨hT, k52, hg55⟩ := hp50
        have hF := hF.tr k52 (by decide)
        obtain ⟨g53, g54⟩ := hg55
        refine lv_iload hx hb dX7_firstOpen_45 (lv_at hl 5 rfl) ?_
        refine lv_iand hx hb dX7_firstOpen_47 ?_
        refine lv_topi (fun x56 ex56 => ?_)
        have bx56 : 0 ≤ x56.toInt ∧ x56.toInt ≤ r49.toInt := by rw [ex56]; exact wk_andC (by omega)
        refine lv_istore (lv' := [(7, .int x56), (0, .ref (ad 39)), (1, .int a1), (2, .int 1), (3, .int a3), (4, .int a4), (5, .int v25_5), (6, .int v25_6)]) hx hb dX7_firstOpen_48 hl (by decide) rfl (fun ls hl => ?_)
        refine lv_iconst (v := (-1)) hx hb dX7_firstOpen_50 (by decide) ?_
        refine lv_istore (lv' := [(5, .int (-1)), (7, .int x56), (0, .ref (ad 39)), (1, .int a1), (2, .int 1), (3, .int a3), (4, .int a4), (6, .int v25_6)]) hx hb dX7_firstOpen_51 hl (by decide) rfl (fun ls hl => ?_)
        refine lv_iconst (v := 0) hx hb dX7_firstOpen_53 (by decide) ?_
        refine lv_istore (lv' := [(8, .int 0), (5, .int (-1)), (7, .int x56), (0, .ref (ad 39)), (1, .int a1), (2, .int 1), (3, .int a3), (4, .int a4), (6, .int v25_6)]) hx hb dX7_firstOpen_54 hl (by decide) rfl (fun ls hl => ?_)
        exact L56 ((24 - (0 : Int)).toNat + 1) x56 0 H locs ls w51 (show 0 ≤ a1.toInt by omega) (show a1.toInt ≤ 11 by omega) (show (-1) ≤ a3.toInt by omega) (show a3.toInt ≤ 102119 by omega) (show 0 ≤ a4.toInt by omega) (show a4.toInt ≤ 102119 by omega) (show 0 ≤ v25_6.toInt by omega) (show v25_6.toInt ≤ 4254 by omega) (show 0 ≤ x56.toInt by omega) (show x56.toInt ≤ 16777215 by omega) (by decide) (by decide) (Nat.lt_succ_self _) hw hT hF  (lv_sub hl [3, 4, 5, 6, 7, 1, 8, 2, 0] rfl)
  refine lv_aload_n hx hb dX7_firstOpen_0 rfl (lv_at hl 0 rfl) ?_
  refine lv_iload_n hx hb dX7_firstOpen_1 rfl (lv_at hl 1 rfl) ?_
  refine lv_iload_n hx hb dX7_firstOpen_2 rfl (lv_at hl 2 rfl) ?_
  refine tk_Vi hC hK hw hT hA hE hSR kC_at39 (by decide) rfl (k_X7_isNeverOpen_2 l adK adV dC dI cy ad B (by omega) (by omega) qr s1   a1 (show 0 ≤ a1.toInt by omega) (show a1.toInt ≤ 11 by omega) w0 s.heap.size hT ) (cwV 2 hC.2.2.2.2 gX7_firstOpen_X7_isNeverOpen rfl rfl rfl (by decide +kernel) ⟨Nat.le_of_ble_eq_true rfl, Nat.le_of_ble_eq_true rfl⟩) rfl hl.1 rfl (Nat.le_of_ble_eq_true rfl) dX7_firstOpen_3 (fun r57 w59 H locs hp58 hw => ?_)
  obtain ⟨hT, k60, hg61⟩ := hp58
  have hF := hF.tr k60 (by decide)
  rcases hg61 with rfl | rfl
  · refine lv_if_eq (tgt := 11) hx hb dX7_firstOpen_6 (by decide) (fun _ => ?_) (fun c => absurd (by decide) c)
    refine lv_iconst (v := (-1)) hx hb dX7_firstOpen_11 (by decide) ?_
    refine lv_iload_n hx hb dX7_firstOpen_12 rfl (lv_at hl 3 rfl) ?_
    refine lv_bipush (v := 24) hx hb dX7_firstOpen_13 (by decide) ?_
    refine lv_irem hx hb dX7_firstOpen_15 (by decide) ?_
    refine lv_topi (fun x62 ex62 => ?_)
    refine lv_ishl hx hb dX7_firstOpen_16 ?_
    refine lv_topi (fun x63 ex63 => ?_)
    refine lv_istore (lv' := [(5, .int x63), (0, .ref (ad 39)), (1, .int a1), (2, .int 1), (3, .int a3), (4, .int a4)]) hx hb dX7_firstOpen_17 hl (by decide) rfl (fun ls hl => ?_)
    refine lv_iload_n hx hb dX7_firstOpen_19 rfl (lv_at hl 4 rfl) ?_
    refine lv_bipush (v := 24) hx hb dX7_firstOpen_20 (by decide) ?_
    refine lv_idiv hx hb dX7_firstOpen_22 (by decide) ?_
    refine lv_topi (fun x64 ex64 => ?_)
    have bx64 : -(1 / (24 : Int)) ≤ x64.toInt ∧ x64.toInt ≤ 102119 / (24 : Int) := by rw [ex64]; exact wk_divB (m := 1) (n := 102119) (show 0 < (24 : Int) by decide) (by decide) (by decide) (by omega) (by omega)
    refine lv_istore (lv' := [(6, .int x64), (5, .int x63), (0, .ref (ad 39)), (1, .int a1), (2, .int 1), (3, .int a3), (4, .int a4)]) hx hb dX7_firstOpen_23 hl (by decide) rfl (fun ls hl => ?_)
    exact L25 ((4255 - x64.toInt).toNat + 1) x63 x64 H locs ls w59 (show 0 ≤ a1.toInt by omega) (show a1.toInt ≤ 11 by omega) (show (-1) ≤ a3.toInt by omega) (show a3.toInt ≤ 102119 by omega) (show (-1) ≤ a4.toInt by omega) (show a4.toInt ≤ 102119 by omega) (show 0 ≤ x64.toInt by omega) (show x64.toInt ≤ 4255 by omega) (Nat.lt_succ_self _) hw hT hF  (lv_sub hl [2, 3, 4, 5, 6, 1, 0] rfl)
  · refine lv_if_eq (tgt := 11) hx hb dX7_firstOpen_6 (by decide) (fun c => absurd c (by decide)) (fun _ => ?_)
    refine lv_iconst (v := (-1)) hx hb dX7_firstOpen_9 (by decide) ?_
    exact tk_iret hC hr hlocks hK ⟨hT, hF, (Or.inr rfl)⟩ hw dX7_firstOpen_10
abbrev P_X4_leastStreet_1 (ad : Nat → Nat) (cy : Nat → ClassId) (B : Int) (qr : Nat) (s1 : Int) (a1 : Int32) (a2 : Int32) (w0 : va_W) : Int32 → va_W → Prop := fun r u => TW ksC ad cy B qr s1 u ∧ FE ksC ([] : List (Nat × Nat × Nat)) w0 u ∧ ((0 ≤ r.toInt ∧ r.toInt ≤ 11 ∧ a2.toInt ≤ 102119 ∧ (∃ y : Int32, gi u 39 9 = y ∧ 1 ≤ y.toInt ∧ y.toInt ≤ 12) ∧ gi u 40 (2 * r.toInt + 0).toNat = a1) ∨ (0 ≤ r.toInt ∧ r.toInt ≤ 11 ∧ a2.toInt ≤ 102119 ∧ (∃ y : Int32, gi u 39 9 = y ∧ 1 ≤ y.toInt ∧ y.toInt ≤ 12) ∧ gi u 40 (2 * r.toInt + 1).toNat = a1) ∨ (r = (-1)))
set_option maxHeartbeats 4000000 in
set_option maxRecDepth 100000 in
theorem k_X4_leastStreet_1 (l : Launch) (adK adV : Nat → Nat) (dC : Nat → ClassId) (dI : Nat → Nat → Nat) (cy : Nat → ClassId) (ad : Nat → Nat) (B : Int) (hB0 : 2147483648 ≤ B) (hB1 : B ≤ 1152921504606846976) (qr : Nat) (s1 : Int)  (a1 : Int32) (ra1 : 0 ≤ a1.toInt) (ta1 : a1.toInt ≤ 9) (a2 : Int32) (ra2 : (-1) ≤ a2.toInt) (ta2 : a2.toInt ≤ 102128) (w0 : va_W) (sz : Nat) (hT : TW ksC ad cy B qr s1 w0)  : Met l yX4_leastStreet wsX4_leastStreet ({ frames := 3, cells := 0, slots := 0, locals := 68 }) (va_Pc [.ref (ad 155), .int a1, .int a2] (wpreS adK adV dC dI cy sz w0)) (va_Qi (P_X4_leastStreet_1 ad cy B qr s1 a1 a2 w0) (fun u : va_W => wpost dC dI cy (va_A w0 sz) u) (va_A w0 sz)) 0 0 (va_A w0 sz) := by
  refine Met.ofW (cc := cX4_leastStreet) (maxL := 6) (ret := (some .int)) (by decide) rfl ?_
  intro p e s m args below meth c s₁ Bk hml hv
  obtain ⟨rfl, ⟨hsz, hP, hK, hD0⟩, hE, hSR⟩ := hv
  have hx := Bk.exec
  have hb := Bk.bytes
  have hr := Bk.returns
  have hlocks := Bk.notSynchronized
  have hC : CallFix p m c cX4_leastStreet 6 s _ wsX4_leastStreet RX4 := ⟨hx, hb, hml, findClass_of_methodNamed Bk.named, atoms_spec (ws := wsX4_leastStreet) Bk.pre⟩
  subst hsz
  have hD := hD0.self (sz := s.heap.size)
  generalize hAe : va_A w0 s.heap.size = A at hD hE ⊢
  have hA : ∀ q : Nat, s.heap.size ≤ q → A q := fun q h => by rw [← hAe]; exact Or.inr h
  have hw : Wd dC dI A s.heap s.heap [] w0 := ⟨hP, hD, va_S.rf⟩
  have hF : FE ksC ([] : List (Nat × Nat × Nat)) w0 w0 := FE.rf
  have hl := lv_entry ([.ref (ad 155), .int a1, .int a2]) (n := 6) (Nat.le_of_ble_eq_true rfl)
  rw [lg_entry_eq]
  generalize (lg_sl ([.ref (ad 155), .int a1, .int a2]) ++ List.replicate (6 - (lg_sl ([.ref (ad 155), .int a1, .int a2])).length) Slot.unset).toArray = ls at hl ⊢
  have hl : lv_has ls 6 [(0, .ref (ad 155)), (1, .int a1), (2, .int a2)] := hl
  generalize hloc : ([] : List Loc) = locs at hw ⊢
  have hinX4 : ∀ w ∈ u_ws RX4 TX4 4, w ∈ wsX4_leastStreet := fun _ h => List.mem_cons_of_mem _ (List.mem_append_left _ (List.mem_append_right _ (h)))
  have hinX7 : ∀ w ∈ u_ws RX7 TX7 12, w ∈ wsX4_leastStreet := fun _ h => List.mem_cons_of_mem _ (List.mem_append_right _ (h))
  have L2 : ∀ (n2 : Nat) (v2_3 : Int32) (H : Heap) (locs : List Loc) (ls : Array Slot) (w1 : va_W), 0 ≤ a1.toInt → a1.toInt ≤ 9 → (-1) ≤ a2.toInt → a2.toInt ≤ 102128 → 0 ≤ v2_3.toInt → v2_3.toInt ≤ 12 → (12 - v2_3.toInt).toNat < n2 → Wd dC dI A s.heap H locs w1 → TW ksC ad cy B qr s1 w1 → FE ksC ([] : List (Nat × Nat × Nat)) w0 w1 → lv_has ls 6 [(0, .ref (ad 155)), (1, .int a1), (2, .int a2), (3, .int v2_3)] → W p l e ({ frames := 3, cells := 0, slots := 0, locals := 68 }) s m (List.toArray [.ref (ad 155), .int a1, .int a2]) below meth c H locs 0 0 (MQ below (va_Qi (P_X4_leastStreet_1 ad cy B qr s1 a1 a2 w0) (fun u : va_W => wpost dC dI cy A u) A) (List.toArray [.ref (ad 155), .int a1, .int a2]) s 0 0 A) (F0 m 2 ls []) := by
    intro n2
    induction n2 with
    | zero => intro v2_3 H locs ls w1 r2 t3 r4 t5 r6 t7 hm2 hw hT hF hl; omega
    | succ n2 ih2 =>
      intro v2_3 H locs ls w1 r2 t3 r4 t5 r6 t7 hm2 hw hT hF hl
      refine lv_iload_n hx hb dX4_leastStreet_2 rfl (lv_at hl 3 rfl) ?_
      refine lv_aload_n hx hb dX4_leastStreet_3 rfl (lv_at hl 0 rfl) ?_
      refine tk_getA hC hK hw hT hinX4 kC_at155 (by decide) rfl 1 (by decide) (List.mem_of_getElem? (i := 1) rfl) rfl rfl dX4_leastStreet_4 ?_
      refine tk_geti hC hK hw hT hinX7 kC_at39 (by decide) rfl 9 (by decide) (List.mem_of_getElem? (i := 2) rfl) rfl rfl dX4_leastStreet_7 (fun x8 c9 rx8 tx8 => ?_)
      refine lv_icmp_ge (tgt := 88) hx hb dX4_leastStreet_10 (by decide) (fun c10 => ?_) (fun c10 => ?_)
      · have c10 : x8.toInt ≤ v2_3.toInt := wk_le.mp c10
        refine lv_iconst (v := (-1)) hx hb dX4_leastStreet_88 (by decide) ?_
        exact tk_iret hC hr hlocks hK ⟨hT, hF, (Or.inr (Or.inr rfl))⟩ hw dX4_leastStreet_89
      · have c10 : v2_3.toInt < x8.toInt := wk_leF c10
        refine lv_aload_n hx hb dX4_leastStreet_13 rfl (lv_at hl 0 rfl) ?_
        refine tk_getA hC hK hw hT hinX4 kC_at155 (by decide) rfl 1 (by decide) (List.mem_of_getElem? (i := 1) rfl) rfl rfl dX4_leastStreet_14 ?_
        refine lv_iload_n hx hb dX4_leastStreet_17 rfl (lv_at hl 3 rfl) ?_
        refine lv_iload_n hx hb dX4_leastStreet_18 rfl (lv_at hl 1 rfl) ?_
        refine tk_Vi hC hK hw hT hA hE hSR kC_at39 (by decide) rfl (k_X7_sideOf_2 l adK adV dC dI cy ad B (by omega) (by omega) qr s1   v2_3 (show 0 ≤ v2_3.toInt by omega) (show v2_3.toInt ≤ 11 by omega) a1 (show 0 ≤ a1.toInt by omega) (show a1.toInt ≤ 9 by omega) w1 H.size hT ) (cwV 2 hC.2.2.2.2 gX4_leastStreet_X7_sideOf rfl rfl rfl (by decide +kernel) ⟨Nat.le_of_ble_eq_true rfl, Nat.le_of_ble_eq_true rfl⟩) rfl hl.1 rfl (Nat.le_of_ble_eq_true rfl) dX4_leastStreet_19 (fun r11 w13 H locs hp12 hw => ?_)
        obtain ⟨hT, k14, hg17⟩ := hp12
        have hF := hF.tr k14 (by decide)
        have c18 := k14.gi kC_at39 (by decide) c9
        rcases hg17 with rfl | ⟨rfl, c15⟩ | ⟨rfl, c16⟩
        · refine lv_istore (lv' := [(4, .int (-1)), (0, .ref (ad 155)), (1, .int a1), (2, .int a2), (3, .int v2_3)]) hx hb dX4_leastStreet_22 hl (by decide) rfl (fun ls hl => ?_)
          refine lv_iload hx hb dX4_leastStreet_24 (lv_at hl 0 rfl) ?_
          refine lv_iconst (v := (-1)) hx hb dX4_leastStreet_26 (by decide) ?_
          refine lv_icmp_eq (tgt := 82) hx hb dX4_leastStreet_27 (by decide) (fun _ => ?_) (fun c => absurd (by decide) c)
          obtain ⟨x19, ex19⟩ : ∃ y : Int32, y = v2_3 + Int32.ofInt 1 := ⟨_, rfl⟩
          refine lv_iinc (v := x19) (lv' := [(3, .int x19), (4, .int (-1)), (0, .ref (ad 155)), (1, .int a1), (2, .int a2)]) hx hb dX4_leastStreet_82 hl (k := 4) rfl ex19.symm (by decide) rfl (fun ls hl => ?_)
          have ex19 : x19.toInt = v2_3.toInt + 1 := by rw [ex19]; exact wk_add (y := 1) (show -2147483648 ≤ v2_3.toInt + 1 by omega) (show v2_3.toInt + 1 ≤ 2147483647 by omega)
          refine lv_goto (tgt := 2) hx hb dX4_leastStreet_85 (by decide) ?_
          exact ih2 x19 H locs ls w13 (show 0 ≤ a1.toInt by omega) (show a1.toInt ≤ 9 by omega) (show (-1) ≤ a2.toInt by omega) (show a2.toInt ≤ 102128 by omega) (show 0 ≤ x19.toInt by omega) (show x19.toInt ≤ 12 by omega) (show (12 - x19.toInt).toNat < n2 by omega) hw hT hF  (lv_sub hl [2, 3, 4, 0] rfl)
        · refine lv_istore (lv' := [(4, .int 0), (0, .ref (ad 155)), (1, .int a1), (2, .int a2), (3, .int v2_3)]) hx hb dX4_leastStreet_22 hl (by decide) rfl (fun ls hl => ?_)
          refine lv_iload hx hb dX4_leastStreet_24 (lv_at hl 0 rfl) ?_
          refine lv_iconst (v := (-1)) hx hb dX4_leastStreet_26 (by decide) ?_
          refine lv_icmp_eq (tgt := 82) hx hb dX4_leastStreet_27 (by decide) (fun c => absurd c (by decide)) (fun _ => ?_)
          refine lv_aload_n hx hb dX4_leastStreet_30 rfl (lv_at hl 1 rfl) ?_
          refine tk_getA hC hK hw hT hinX4 kC_at155 (by decide) rfl 2 (by decide) (List.mem_of_getElem? (i := 3) rfl) rfl rfl dX4_leastStreet_31 ?_
          refine lv_aload_n hx hb dX4_leastStreet_34 rfl (lv_at hl 1 rfl) ?_
          refine tk_getA hC hK hw hT hinX4 kC_at155 (by decide) rfl 1 (by decide) (List.mem_of_getElem? (i := 1) rfl) rfl rfl dX4_leastStreet_35 ?_
          refine lv_iload_n hx hb dX4_leastStreet_38 rfl (lv_at hl 4 rfl) ?_
          refine lv_iload hx hb dX4_leastStreet_39 (lv_at hl 0 rfl) ?_
          refine tk_Vi hC hK hw hT hA hE hSR kC_at39 (by decide) rfl (k_X7_cornerAcross_2 l adK adV dC dI cy ad B (by omega) (by omega) qr s1   v2_3 (show 0 ≤ v2_3.toInt by omega) (show v2_3.toInt ≤ 11 by omega) w13 H.size hT ) (cwV 2 hC.2.2.2.2 gX4_leastStreet_X7_cornerAcross rfl rfl rfl (by decide +kernel) ⟨Nat.le_of_ble_eq_true rfl, Nat.le_of_ble_eq_true rfl⟩) rfl hl.1 rfl (Nat.le_of_ble_eq_true rfl) dX4_leastStreet_41 (fun r20 w22 H locs hp21 hw => ?_)
          obtain ⟨hT, k23, hg26⟩ := hp21
          have hF := hF.tr k23 (by decide)
          have c27 := k23.gi kC_at39 (by decide) c18
          have c28 := k23.gi kC_at40 rfl c15
          obtain ⟨g24, g25⟩ := hg26
          refine tk_iald hC hK hw hT kC_at156 rfl rfl (show 0 ≤ r20.toInt by omega) (show r20.toInt < 10 by omega) dX4_leastStreet_44 (fun x29 c30 rx29 tx29 => ?_)
          refine lv_aload_n hx hb dX4_leastStreet_45 rfl (lv_at hl 1 rfl) ?_
          refine tk_getA hC hK hw hT hinX4 kC_at155 (by decide) rfl 1 (by decide) (List.mem_of_getElem? (i := 1) rfl) rfl rfl dX4_leastStreet_46 ?_
          refine tk_getO hC hK hw hT hinX7 kC_at39 (by decide) rfl 1 (by decide) (List.mem_of_getElem? (i := 4) rfl) rfl rfl dX4_leastStreet_49 ?_
          refine lv_iload_n hx hb dX4_leastStreet_52 rfl (lv_at hl 4 rfl) ?_
          refine tk_iald hC hK hw hT kC_at41 rfl rfl (show 0 ≤ v2_3.toInt by omega) (show v2_3.toInt < 13 by omega) dX4_leastStreet_53 (fun x31 c32 rx31 tx31 => ?_)
          refine lv_isub hx hb dX4_leastStreet_54 ?_
          refine lv_topi (fun x33 ex33 => ?_)
          have ex33 : x33.toInt = x29.toInt - x31.toInt := by rw [ex33]; exact wk_sub (show (-2147483648) ≤ x29.toInt - x31.toInt by omega) (show x29.toInt - x31.toInt ≤ 2147483647 by omega)
          refine lv_istore (lv' := [(5, .int x33), (4, .int 0), (0, .ref (ad 155)), (1, .int a1), (2, .int a2), (3, .int v2_3)]) hx hb dX4_leastStreet_55 hl (by decide) rfl (fun ls hl => ?_)
          refine lv_iload hx hb dX4_leastStreet_57 (lv_at hl 0 rfl) ?_
          refine lv_iload_n hx hb dX4_leastStreet_59 rfl (lv_at hl 4 rfl) ?_
          refine lv_icmp_lt (tgt := 82) hx hb dX4_leastStreet_60 (by decide) (fun c34 => ?_) (fun c34 => ?_)
          · have c34 : x33.toInt < a2.toInt := wk_lt.mp c34
            obtain ⟨x35, ex35⟩ : ∃ y : Int32, y = v2_3 + Int32.ofInt 1 := ⟨_, rfl⟩
            refine lv_iinc (v := x35) (lv' := [(3, .int x35), (5, .int x33), (4, .int 0), (0, .ref (ad 155)), (1, .int a1), (2, .int a2)]) hx hb dX4_leastStreet_82 hl (k := 5) rfl ex35.symm (by decide) rfl (fun ls hl => ?_)
            have ex35 : x35.toInt = v2_3.toInt + 1 := by rw [ex35]; exact wk_add (y := 1) (show -2147483648 ≤ v2_3.toInt + 1 by omega) (show v2_3.toInt + 1 ≤ 2147483647 by omega)
            refine lv_goto (tgt := 2) hx hb dX4_leastStreet_85 (by decide) ?_
            exact ih2 x35 H locs ls w22 (show 0 ≤ a1.toInt by omega) (show a1.toInt ≤ 9 by omega) (show (-1) ≤ a2.toInt by omega) (show a2.toInt ≤ 102128 by omega) (show 0 ≤ x35.toInt by omega) (show x35.toInt ≤ 12 by omega) (show (12 - x35.toInt).toNat < n2 by omega) hw hT hF  (lv_sub hl [3, 4, 5, 0] rfl)
          · have c34 : a2.toInt ≤ x33.toInt := wk_ltF c34
            refine lv_aload_n hx hb dX4_leastStreet_63 rfl (lv_at hl 2 rfl) ?_
            refine tk_getA hC hK hw hT hinX4 kC_at155 (by decide) rfl 1 (by decide) (List.mem_of_getElem? (i := 1) rfl) rfl rfl dX4_leastStreet_64 ?_
            refine lv_iload_n hx hb dX4_leastStreet_67 rfl (lv_at hl 5 rfl) ?_
            refine lv_iload hx hb dX4_leastStreet_68 (lv_at hl 1 rfl) ?_
            refine lv_iload_n hx hb dX4_leastStreet_70 rfl (lv_at hl 4 rfl) ?_
            refine lv_iload hx hb dX4_leastStreet_71 (lv_at hl 0 rfl) ?_
            refine tk_Vi hC hK hw hT hA hE hSR kC_at39 (by decide) rfl (k_X7_firstOpen_5 l adK adV dC dI cy ad B (by omega) (by omega) qr s1   v2_3 (show 0 ≤ v2_3.toInt by omega) (show v2_3.toInt ≤ 11 by omega) a2 (show (-1) ≤ a2.toInt by omega) (show a2.toInt ≤ 102119 by omega) x33 (show (-1) ≤ x33.toInt by omega) (show x33.toInt ≤ 102119 by omega) w22 H.size hT ) (cwV 4 hC.2.2.2.2 gX4_leastStreet_X7_firstOpen rfl rfl rfl (by decide +kernel) ⟨Nat.le_of_ble_eq_true rfl, Nat.le_of_ble_eq_true rfl⟩) rfl hl.1 rfl (Nat.le_of_ble_eq_true rfl) dX4_leastStreet_73 (fun r36 w38 H locs hp37 hw => ?_)
            obtain ⟨hT, k39, hg43⟩ := hp37
            have hF := hF.tr k39 (by decide)
            have c44 := k39.gi kC_at39 (by decide) c27
            have c45 := k39.gi kC_at40 rfl c28
            rcases hg43 with ⟨g40, g41, g42⟩ | rfl
            · refine lv_iconst (v := (-1)) hx hb dX4_leastStreet_76 (by decide) ?_
              refine lv_icmp_eq (tgt := 82) hx hb dX4_leastStreet_77 (by decide) (fun c => absurd c (fun h => absurd (show r36.toInt = (-1 : Int) from wk_eq.mp h) (by omega))) (fun _ => ?_)
              refine lv_iload_n hx hb dX4_leastStreet_80 rfl (lv_at hl 5 rfl) ?_
              exact tk_iret hC hr hlocks hK ⟨hT, hF, (Or.inl ⟨(show 0 ≤ v2_3.toInt by omega), (show v2_3.toInt ≤ 11 by omega), (show a2.toInt ≤ 102119 by omega), ⟨x8, c44, (show 1 ≤ x8.toInt by omega), (show x8.toInt ≤ 12 by omega)⟩, c45⟩)⟩ hw dX4_leastStreet_81
            · refine lv_iconst (v := (-1)) hx hb dX4_leastStreet_76 (by decide) ?_
              refine lv_icmp_eq (tgt := 82) hx hb dX4_leastStreet_77 (by decide) (fun _ => ?_) (fun c => absurd (by decide) c)
              obtain ⟨x46, ex46⟩ : ∃ y : Int32, y = v2_3 + Int32.ofInt 1 := ⟨_, rfl⟩
              refine lv_iinc (v := x46) (lv' := [(3, .int x46), (5, .int x33), (4, .int 0), (0, .ref (ad 155)), (1, .int a1), (2, .int a2)]) hx hb dX4_leastStreet_82 hl (k := 5) rfl ex46.symm (by decide) rfl (fun ls hl => ?_)
              have ex46 : x46.toInt = v2_3.toInt + 1 := by rw [ex46]; exact wk_add (y := 1) (show -2147483648 ≤ v2_3.toInt + 1 by omega) (show v2_3.toInt + 1 ≤ 2147483647 by omega)
              refine lv_goto (tgt := 2) hx hb dX4_leastStreet_85 (by decide) ?_
              exact ih2 x46 H locs ls w38 (show 0 ≤ a1.toInt by omega) (show a1.toInt ≤ 9 by omega) (show (-1) ≤ a2.toInt by omega) (show a2.toInt ≤ 102128 by omega) (show 0 ≤ x46.toInt by omega) (show x46.toInt ≤ 12 by omega) (show (12 - x46.toInt).toNat < n2 by omega) hw hT hF  (lv_sub hl [3, 4, 5, 0] rfl)
        · refine lv_istore (lv' := [(4, .int 1), (0, .ref (ad 155)), (1, .int a1), (2, .int a2), (3, .int v2_3)]) hx hb dX4_leastStreet_22 hl (by decide) rfl (fun ls hl => ?_)
          refine lv_iload hx hb dX4_leastStreet_24 (lv_at hl 0 rfl) ?_
          refine lv_iconst (v := (-1)) hx hb dX4_leastStreet_26 (by decide) ?_
          refine lv_icmp_eq (tgt := 82) hx hb dX4_leastStreet_27 (by decide) (fun c => absurd c (by decide)) (fun _ => ?_)
          refine lv_aload_n hx hb dX4_leastStreet_30 rfl (lv_at hl 1 rfl) ?_
          refine tk_getA hC hK hw hT hinX4 kC_at155 (by decide) rfl 2 (by decide) (List.mem_of_getElem? (i := 3) rfl) rfl rfl dX4_leastStreet_31 ?_
          refine lv_aload_n hx hb dX4_leastStreet_34 rfl (lv_at hl 1 rfl) ?_
          refine tk_getA hC hK hw hT hinX4 kC_at155 (by decide) rfl 1 (by decide) (List.mem_of_getElem? (i := 1) rfl) rfl rfl dX4_leastStreet_35 ?_
          refine lv_iload_n hx hb dX4_leastStreet_38 rfl (lv_at hl 4 rfl) ?_
          refine lv_iload hx hb dX4_leastStreet_39 (lv_at hl 0 rfl) ?_
          refine tk_Vi hC hK hw hT hA hE hSR kC_at39 (by decide) rfl (k_X7_cornerAcross_3 l adK adV dC dI cy ad B (by omega) (by omega) qr s1   v2_3 (show 0 ≤ v2_3.toInt by omega) (show v2_3.toInt ≤ 11 by omega) w13 H.size hT ) (cwV 2 hC.2.2.2.2 gX4_leastStreet_X7_cornerAcross rfl rfl rfl (by decide +kernel) ⟨Nat.le_of_ble_eq_true rfl, Nat.le_of_ble_eq_true rfl⟩) rfl hl.1 rfl (Nat.le_of_ble_eq_true rfl) dX4_leastStreet_41 (fun r47 w49 H locs hp48 hw => ?_)
          obtain ⟨hT, k50, hg53⟩ := hp48
          have hF := hF.tr k50 (by decide)
          have c54 := k50.gi kC_at39 (by decide) c18
          have c55 := k50.gi kC_at40 rfl c16
          obtain ⟨g51, g52⟩ := hg53
          refine tk_iald hC hK hw hT kC_at156 rfl rfl (show 0 ≤ r47.toInt by omega) (show r47.toInt < 10 by omega) dX4_leastStreet_44 (fun x56 c57 rx56 tx56 => ?_)
          refine lv_aload_n hx hb dX4_leastStreet_45 rfl (lv_at hl 1 rfl) ?_
          refine tk_getA hC hK hw hT hinX4 kC_at155 (by decide) rfl 1 (by decide) (List.mem_of_getElem? (i := 1) rfl) rfl rfl dX4_leastStreet_46 ?_
          refine tk_getO hC hK hw hT hinX7 kC_at39 (by decide) rfl 1 (by decide) (List.mem_of_getElem? (i := 4) rfl) rfl rfl dX4_leastStreet_49 ?_
          refine lv_iload_n hx hb dX4_leastStreet_52 rfl (lv_at hl 4 rfl) ?_
          refine tk_iald hC hK hw hT kC_at41 rfl rfl (show 0 ≤ v2_3.toInt by omega) (show v2_3.toInt < 13 by omega) dX4_leastStreet_53 (fun x58 c59 rx58 tx58 => ?_)
          refine lv_isub hx hb dX4_leastStreet_54 ?_
          refine lv_topi (fun x60 ex60 => ?_)
          have ex60 : x60.toInt = x56.toInt - x58.toInt := by rw [ex60]; exact wk_sub (show (-2147483648) ≤ x56.toInt - x58.toInt by omega) (show x56.toInt - x58.toInt ≤ 2147483647 by omega)
          refine lv_istore (lv' := [(5, .int x60), (4, .int 1), (0, .ref (ad 155)), (1, .int a1), (2, .int a2), (3, .int v2_3)]) hx hb dX4_leastStreet_55 hl (by decide) rfl (fun ls hl => ?_)
          refine lv_iload hx hb dX4_leastStreet_57 (lv_at hl 0 rfl) ?_
          refine lv_iload_n hx hb dX4_leastStreet_59 rfl (lv_at hl 4 rfl) ?_
          refine lv_icmp_lt (tgt := 82) hx hb dX4_leastStreet_60 (by decide) (fun c61 => ?_) (fun c61 => ?_)
          · have c61 : x60.toInt < a2.toInt := wk_lt.mp c61
            obtain ⟨x62, ex62⟩ : ∃ y : Int32, y = v2_3 + Int32.ofInt 1 := ⟨_, rfl⟩
            refine lv_iinc (v := x62) (lv' := [(3, .int x62), (5, .int x60), (4, .int 1), (0, .ref (ad 155)), (1, .int a1), (2, .int a2)]) hx hb dX4_leastStreet_82 hl (k := 5) rfl ex62.symm (by decide) rfl (fun ls hl => ?_)
            have ex62 : x62.toInt = v2_3.toInt + 1 := by rw [ex62]; exact wk_add (y := 1) (show -2147483648 ≤ v2_3.toInt + 1 by omega) (show v2_3.toInt + 1 ≤ 2147483647 by omega)
            refine lv_goto (tgt := 2) hx hb dX4_leastStreet_85 (by decide) ?_
            exact ih2 x62 H locs ls w49 (show 0 ≤ a1.toInt by omega) (show a1.toInt ≤ 9 by omega) (show (-1) ≤ a2.toInt by omega) (show a2.toInt ≤ 102128 by omega) (show 0 ≤ x62.toInt by omega) (show x62.toInt ≤ 12 by omega) (show (12 - x62.toInt).toNat < n2 by omega) hw hT hF  (lv_sub hl [3, 4, 5, 0] rfl)
          · have c61 : a2.toInt ≤ x60.toInt := wk_ltF c61
            refine lv_aload_n hx hb dX4_leastStreet_63 rfl (lv_at hl 2 rfl) ?_
            refine tk_getA hC hK hw hT hinX4 kC_at155 (by decide) rfl 1 (by decide) (List.mem_of_getElem? (i := 1) rfl) rfl rfl dX4_leastStreet_64 ?_
            refine lv_iload_n hx hb dX4_leastStreet_67 rfl (lv_at hl 5 rfl) ?_
            refine lv_iload hx hb dX4_leastStreet_68 (lv_at hl 1 rfl) ?_
            refine lv_iload_n hx hb dX4_leastStreet_70 rfl (lv_at hl 4 rfl) ?_
            refine lv_iload hx hb dX4_leastStreet_71 (lv_at hl 0 rfl) ?_
            refine tk_Vi hC hK hw hT hA hE hSR kC_at39 (by decide) rfl (k_X7_firstOpen_6 l adK adV dC dI cy ad B (by omega) (by omega) qr s1   v2_3 (show 0 ≤ v2_3.toInt by omega) (show v2_3.toInt ≤ 11 by omega) a2 (show (-1) ≤ a2.toInt by omega) (show a2.toInt ≤ 102119 by omega) x60 (show (-1) ≤ x60.toInt by omega) (show x60.toInt ≤ 102119 by omega) w49 H.size hT ) (cwV 4 hC.2.2.2.2 gX4_leastStreet_X7_firstOpen rfl rfl rfl (by decide +kernel) ⟨Nat.le_of_ble_eq_true rfl, Nat.le_of_ble_eq_true rfl⟩) rfl hl.1 rfl (Nat.le_of_ble_eq_true rfl) dX4_leastStreet_73 (fun r63 w65 H locs hp64 hw => ?_)
            obtain ⟨hT, k66, hg70⟩ := hp64
            have hF := hF.tr k66 (by decide)
            have c71 := k66.gi kC_at39 (by decide) c54
            have c72 := k66.gi kC_at40 rfl c55
            rcases hg70 with ⟨g67, g68, g69⟩ | rfl
            · refine lv_iconst (v := (-1)) hx hb dX4_leastStreet_76 (by decide) ?_
              refine lv_icmp_eq (tgt := 82) hx hb dX4_leastStreet_77 (by decide) (fun c => absurd c (fun h => absurd (show r63.toInt = (-1 : Int) from wk_eq.mp h) (by omega))) (fun _ => ?_)
              refine lv_iload_n hx hb dX4_leastStreet_80 rfl (lv_at hl 5 rfl) ?_
              exact tk_iret hC hr hlocks hK ⟨hT, hF, (Or.inr (Or.inl ⟨(show 0 ≤ v2_3.toInt by omega), (show v2_3.toInt ≤ 11 by omega), (show a2.toInt ≤ 102119 by omega), ⟨x8, c71, (show 1 ≤ x8.toInt by omega), (show x8.toInt ≤ 12 by omega)⟩, c72⟩))⟩ hw dX4_leastStreet_81
            · refine lv_iconst (v := (-1)) hx hb dX4_leastStreet_76 (by decide) ?_
              refine lv_icmp_eq (tgt := 82) hx hb dX4_leastStreet_77 (by decide) (fun _ => ?_) (fun c => absurd (by decide) c)
              obtain ⟨x73, ex73⟩ : ∃ y : Int32, y = v2_3 + Int32.ofInt 1 := ⟨_, rfl⟩
              refine lv_iinc (v := x73) (lv' := [(3, .int x73), (5, .int x60), (4, .int 1), (0, .ref (ad 155)), (1, .int a1), (2, .int a2)]) hx hb dX4_leastStreet_82 hl (k := 5) rfl ex73.symm (by decide) rfl (fun ls hl => ?_)
              have ex73 : x73.toInt = v2_3.toInt + 1 := by rw [ex73]; exact wk_add (y := 1) (show -2147483648 ≤ v2_3.toInt + 1 by omega) (show v2_3.toInt + 1 ≤ 2147483647 by omega)
              refine lv_goto (tgt := 2) hx hb dX4_leastStreet_85 (by decide) ?_
              exact ih2 x73 H locs ls w65 (show 0 ≤ a1.toInt by omega) (show a1.toInt ≤ 9 by omega) (show (-1) ≤ a2.toInt by omega) (show a2.toInt ≤ 102128 by omega) (show 0 ≤ x73.toInt by omega) (show x73.toInt ≤ 12 by omega) (show (12 - x73.toInt).toNat < n2 by omega) hw hT hF  (lv_sub hl [3, 4, 5, 0] rfl)
  refine lv_iconst (v := 0) hx hb dX4_leastStreet_0 (by decide) ?_
  refine lv_istore_n (lv' := [(3, .int 0), (0, .ref (ad 155)), (1, .int a1), (2, .int a2)]) hx hb dX4_leastStreet_1 rfl hl (by decide) rfl (fun ls hl => ?_)
  exact L2 ((12 - (0 : Int)).toNat + 1) 0 s.heap locs ls w0 (show 0 ≤ a1.toInt by omega) (show a1.toInt ≤ 9 by omega) (show (-1) ≤ a2.toInt by omega) (show a2.toInt ≤ 102128 by omega) (by decide) (by decide) (Nat.lt_succ_self _) hw hT hF  (lv_sub hl [1, 2, 3, 0] rfl)
abbrev P_X7_sideOf_6 (ad : Nat → Nat) (cy : Nat → ClassId) (B : Int) (qr : Nat) (s1 : Int) (a1 : Int32) (a2 : Int32) (w0 : va_W) : Int32 → va_W → Prop := fun r u => TW ksC ad cy B qr s1 u ∧ FE ksC ([] : List (Nat × Nat × Nat)) w0 u ∧ ((r = 0 ∧ gi u 40 (2 * a1.toInt + 0).toNat = a2))
set_option maxHeartbeats 4000000 in
set_option maxRecDepth 100000 in
theorem k_X7_sideOf_6 (l : Launch) (adK adV : Nat → Nat) (dC : Nat → ClassId) (dI : Nat → Nat → Nat) (cy : Nat → ClassId) (ad : Nat → Nat) (B : Int) (hB0 : 2147483648 ≤ B) (hB1 : B ≤ 1152921504606846976) (qr : Nat) (s1 : Int)  (a1 : Int32) (ra1 : 0 ≤ a1.toInt) (ta1 : a1.toInt ≤ 11) (a2 : Int32) (ra2 : 0 ≤ a2.toInt) (ta2 : a2.toInt ≤ 9) (w0 : va_W) (sz : Nat) (hT : TW ksC ad cy B qr s1 w0) (cf0_ : gi w0 40 (2 * a1.toInt + 0).toNat = a2) : Met l yX7_sideOf wsX7_sideOf ({ frames := 1, cells := 0, slots := 0, locals := 12 }) (va_Pc [.ref (ad 39), .int a1, .int a2] (wpreS adK adV dC dI cy sz w0)) (va_Qi (P_X7_sideOf_6 ad cy B qr s1 a1 a2 w0) (fun u : va_W => wpost dC dI cy (va_A w0 sz) u) (va_A w0 sz)) 0 0 (va_A w0 sz) := by
  refine Met.ofW (cc := cX7_sideOf) (maxL := 3) (ret := (some .int)) (by decide) rfl ?_
  intro p e s m args below meth c s₁ Bk hml hv
  obtain ⟨rfl, ⟨hsz, hP, hK, hD0⟩, hE, hSR⟩ := hv
  have hx := Bk.exec
  have hb := Bk.bytes
  have hr := Bk.returns
  have hlocks := Bk.notSynchronized
  have hC : CallFix p m c cX7_sideOf 3 s _ wsX7_sideOf RX7 := ⟨hx, hb, hml, findClass_of_methodNamed Bk.named, atoms_spec (ws := wsX7_sideOf) Bk.pre⟩
  subst hsz
  have hD := hD0.self (sz := s.heap.size)
  generalize hAe : va_A w0 s.heap.size = A at hD hE ⊢
  have hA : ∀ q : Nat, s.heap.size ≤ q → A q := fun q h => by rw [← hAe]; exact Or.inr h
  have hw : Wd dC dI A s.heap s.heap [] w0 := ⟨hP, hD, va_S.rf⟩
  have hF : FE ksC ([] : List (Nat × Nat × Nat)) w0 w0 := FE.rf
  have hl := lv_entry ([.ref (ad 39), .int a1, .int a2]) (n := 3) (Nat.le_of_ble_eq_true rfl)
  rw [lg_entry_eq]
  generalize (lg_sl ([.ref (ad 39), .int a1, .int a2]) ++ List.replicate (3 - (lg_sl ([.ref (ad 39), .int a1, .int a2])).length) Slot.unset).toArray = ls at hl ⊢
  have hl : lv_has ls 3 [(0, .ref (ad 39)), (1, .int a1), (2, .int a2)] := hl
  generalize hloc : ([] : List Loc) = locs at hw ⊢
  have hinX7 : ∀ w ∈ u_ws RX7 TX7 12, w ∈ wsX7_sideOf := fun _ h => List.mem_cons_of_mem _ (List.mem_append_right _ (h))
  refine lv_aload_n hx hb dX7_sideOf_0 rfl (lv_at hl 0 rfl) ?_
  refine tk_getO hC hK hw hT hinX7 kC_at39 (by decide) rfl 0 (by decide) (List.mem_of_getElem? (i := 1) rfl) rfl rfl dX7_sideOf_1 ?_
  refine lv_iconst (v := 2) hx hb dX7_sideOf_4 (by decide) ?_
  refine lv_iload_n hx hb dX7_sideOf_5 rfl (lv_at hl 1 rfl) ?_
  refine lv_imul hx hb dX7_sideOf_6 ?_
  refine lv_topi (fun x1 ex1 => ?_)
  have ex1 : x1.toInt = (2 : Int) * a1.toInt := by rw [ex1]; exact wk_mul (show (-2147483648) ≤ (2 : Int) * a1.toInt by omega) (show (2 : Int) * a1.toInt ≤ 2147483647 by omega)
  refine tk_iald hC hK hw hT kC_at40 rfl rfl (show 0 ≤ x1.toInt by omega) (show x1.toInt < 26 by omega) dX7_sideOf_7 (fun x2 c3 rx2 tx2 => ?_)
  have c3 : gi w0 40 (2 * a1.toInt + 0).toNat = x2 := (congrArg (gi w0 40) (congrArg Int.toNat (show 2 * a1.toInt + 0 = x1.toInt by omega))).trans c3
  refine wk_top a2 (c3.symm.trans cf0_) ?_
  refine lv_iload_n hx hb dX7_sideOf_8 rfl (lv_at hl 2 rfl) ?_
  refine lv_icmp_ne (tgt := 14) hx hb dX7_sideOf_9 (by decide) (fun c => (c (wk_eq.mpr (show a2.toInt = a2.toInt by omega))).elim) (fun _ => ?_)
  refine lv_iconst (v := 0) hx hb dX7_sideOf_12 (by decide) ?_
  exact tk_iret hC hr hlocks hK ⟨hT, hF, ⟨rfl, cf0_⟩⟩ hw dX7_sideOf_13
abbrev P_X7_firstOpen_7 (ad : Nat → Nat) (cy : Nat → ClassId) (B : Int) (qr : Nat) (s1 : Int) (a1 : Int32) (a3 : Int32) (a4 : Int32) (w0 : va_W) : Int32 → va_W → Prop := fun r u => TW ksC ad cy B qr s1 u ∧ FE ksC ([] : List (Nat × Nat × Nat)) w0 u ∧ ((0 ≤ r.toInt ∧ r.toInt ≤ 102119) ∨ (r = (-1)))
set_option maxHeartbeats 4000000 in
set_option maxRecDepth 100000 in
theorem k_X7_firstOpen_7 (l : Launch) (adK adV : Nat → Nat) (dC : Nat → ClassId) (dI : Nat → Nat → Nat) (cy : Nat → ClassId) (ad : Nat → Nat) (B : Int) (hB0 : 2147483648 ≤ B) (hB1 : B ≤ 1152921504606846976) (qr : Nat) (s1 : Int)  (a1 : Int32) (ra1 : 0 ≤ a1.toInt) (ta1 : a1.toInt ≤ 11) (a3 : Int32) (ra3 : (-1) ≤ a3.toInt) (ta3 : a3.toInt ≤ 102119) (a4 : Int32) (ra4 : 0 ≤ a4.toInt) (ta4 : a4.toInt ≤ 102119) (w0 : va_W) (sz : Nat) (hT : TW ksC ad cy B qr s1 w0)  : Met l yX7_firstOpen wsX7_firstOpen ({ frames := 2, cells := 0, slots := 0, locals := 39 }) (va_Pc [.ref (ad 39), .int a1, .int 0, .int a3, .int a4] (wpreS adK adV dC dI cy sz w0)) (va_Qi (P_X7_firstOpen_7 ad cy B qr s1 a1 a3 a4 w0) (fun u : va_W => wpost dC dI cy (va_A w0 sz) u) (va_A w0 sz)) 0 0 (va_A w0 sz) := by
  refine Met.ofW (cc := cX7_firstOpen) (maxL := 10) (ret := (some .int)) (by decide) rfl ?_
  intro p e s m args below meth c s₁ Bk hml hv
  obtain ⟨rfl, ⟨hsz, hP, hK, hD0⟩, hE, hSR⟩ := hv
  have hx := Bk.exec
  have hb := Bk.bytes
  have hr := Bk.returns
  have hlocks := Bk.notSynchronized
  have hC : CallFix p m c cX7_firstOpen 10 s _ wsX7_firstOpen RX7 := ⟨hx, hb, hml, findClass_of_methodNamed Bk.named, atoms_spec (ws := wsX7_firstOpen) Bk.pre⟩
  subst hsz
  have hD := hD0.self (sz := s.heap.size)
  generalize hAe : va_A w0 s.heap.size = A at hD hE ⊢
  have hA : ∀ q : Nat, s.heap.size ≤ q → A q := fun q h => by rw [← hAe]; exact Or.inr h
  have hw : Wd dC dI A s.heap s.heap [] w0 := ⟨hP, hD, va_S.rf⟩
  have hF : FE ksC ([] : List (Nat × Nat × Nat)) w0 w0 := FE.rf
  have hl := lv_entry ([.ref (ad 39), .int a1, .int 0, .int a3, .int a4]) (n := 10) (Nat.le_of_ble_eq_true rfl)
  rw [lg_entry_eq]
  generalize (lg_sl ([.ref (ad 39), .int a1, .int 0, .int a3, .int a4]) ++ List.replicate (10 - (lg_sl ([.ref (ad 39), .int a1, .int 0, .int a3, .int a4])).length) Slot.unset).toArray = ls at hl ⊢
  have hl : lv_has ls 10 [(0, .ref (ad 39)), (1, .int a1), (2, .int 0), (3, .int a3), (4, .int a4)] := hl
  generalize hloc : ([] : List Loc) = locs at hw ⊢
  have L25 : ∀ (n25 : Nat) (v25_5 : Int32) (v25_6 : Int32) (H : Heap) (locs : List Loc) (ls : Array Slot) (w1 : va_W), 0 ≤ a1.toInt → a1.toInt ≤ 11 → (-1) ≤ a3.toInt → a3.toInt ≤ 102119 → 0 ≤ a4.toInt → a4.toInt ≤ 102119 → 0 ≤ v25_6.toInt → v25_6.toInt ≤ 4255 → (4255 - v25_6.toInt).toNat < n25 → Wd dC dI A s.heap H locs w1 → TW ksC ad cy B qr s1 w1 → FE ksC ([] : List (Nat × Nat × Nat)) w0 w1 → lv_has ls 10 [(0, .ref (ad 39)), (1, .int a1), (2, .int 0), (3, .int a3), (4, .int a4), (5, .int v25_5), (6, .int v25_6)] → W p l e ({ frames := 2, cells := 0, slots := 0, locals := 39 }) s m (List.toArray [.ref (ad 39), .int a1, .int 0, .int a3, .int a4]) below meth c H locs 0 0 (MQ below (va_Qi (P_X7_firstOpen_7 ad cy B qr s1 a1 a3 a4 w0) (fun u : va_W => wpost dC dI cy A u) A) (List.toArray [.ref (ad 39), .int a1, .int 0, .int a3, .int a4]) s 0 0 A) (F0 m 25 ls []) := by
    intro n25
    induction n25 with
    | zero => intro v25_5 v25_6 H locs ls w1 r2 t3 r4 t5 r6 t7 r8 t9 hm25 hw hT hF hl; omega
    | succ n25 ih25 =>
      intro v25_5 v25_6 H locs ls w1 r2 t3 r4 t5 r6 t7 r8 t9 hm25 hw hT hF hl
      have J108 : ∀ (v108_7 : Int32) (v108_8 : Int32) (H : Heap) (locs : List Loc) (ls : Array Slot) (w10 : va_W), 0 ≤ a1.toInt → a1.toInt ≤ 11 → (-1) ≤ a3.toInt → a3.toInt ≤ 102119 → 0 ≤ a4.toInt → a4.toInt ≤ 102119 → 0 ≤ v25_6.toInt → v25_6.toInt ≤ 4254 → 0 ≤ v108_7.toInt → v108_7.toInt ≤ 16777215 → 0 ≤ v108_8.toInt → v108_8.toInt ≤ 24 → Wd dC dI A s.heap H locs w10 → TW ksC ad cy B qr s1 w10 → FE ksC ([] : List (Nat × Nat × Nat)) w0 w10 → lv_has ls 10 [(0, .ref (ad 39)), (1, .int a1), (2, .int 0), (3, .int a3), (4, .int a4), (5, .int (-1)), (6, .int v25_6), (7, .int v108_7), (8, .int v108_8)] → W p l e ({ frames := 2, cells := 0, slots := 0, locals := 39 }) s m (List.toArray [.ref (ad 39), .int a1, .int 0, .int a3, .int a4]) below meth c H locs 0 0 (MQ below (va_Qi (P_X7_firstOpen_7 ad cy B qr s1 a1 a3 a4 w0) (fun u : va_W => wpost dC dI cy A u) A) (List.toArray [.ref (ad 39), .int a1, .int 0, .int a3, .int a4]) s 0 0 A) (F0 m 108 ls []) := by
        intro v108_7 v108_8 H locs ls w10 r11 t12 r13 t14 r15 t16 r17 t18 r19 t20 r21 t22 hw hT hF hl
        obtain ⟨x23, ex23⟩ : ∃ y : Int32, y = v25_6 + Int32.ofInt 1 := ⟨_, rfl⟩
        refine lv_iinc (v := x23) (lv' := [(6, .int x23), (0, .ref (ad 39)), (1, .int a1), (2, .int 0), (3, .int a3), (4, .int a4), (5, .int (-1)), (7, .int v108_7), (8, .int v108_8)]) hx hb dX7_firstOpen_108 hl (k := 6) rfl ex23.symm (by decide) rfl (fun ls hl => ?_)
        have ex23 : x23.toInt = v25_6.toInt + 1 := by rw [ex23]; exact wk_add (y := 1) (show -2147483648 ≤ v25_6.toInt + 1 by omega) (show v25_6.toInt + 1 ≤ 2147483647 by omega)
        refine lv_goto (tgt := 25) hx hb dX7_firstOpen_111 (by decide) ?_
        exact ih25 (-1) x23 H locs ls w10 (show 0 ≤ a1.toInt by omega) (show a1.toInt ≤ 11 by omega) (show (-1) ≤ a3.toInt by omega) (show a3.toInt ≤ 102119 by omega) (show 0 ≤ a4.toInt by omega) (show a4.toInt ≤ 102119 by omega) (show 0 ≤ x23.toInt by omega) (show x23.toInt ≤ 4255 by omega) (show (4255 - x23.toInt).toNat < n25 by omega) hw hT hF  (lv_sub hl [1, 2, 3, 4, 5, 6, 0] rfl)
      have L56 : ∀ (n56 : Nat) (v56_7 : Int32) (v56_8 : Int32) (H : Heap) (locs : List Loc) (ls : Array Slot) (w24 : va_W), 0 ≤ a1.toInt → a1.toInt ≤ 11 → (-1) ≤ a3.toInt → a3.toInt ≤ 102119 → 0 ≤ a4.toInt → a4.toInt ≤ 102119 → 0 ≤ v25_6.toInt → v25_6.toInt ≤ 4254 → 0 ≤ v56_7.toInt → v56_7.toInt ≤ 16777215 → 0 ≤ v56_8.toInt → v56_8.toInt ≤ 24 → (24 - v56_8.toInt).toNat < n56 → Wd dC dI A s.heap H locs w24 → TW ksC ad cy B qr s1 w24 → FE ksC ([] : List (Nat × Nat × Nat)) w0 w24 → lv_has ls 10 [(0, .ref (ad 39)), (1, .int a1), (2, .int 0), (3, .int a3), (4, .int a4), (5, .int (-1)), (6, .int v25_6), (7, .int v56_7), (8, .int v56_8)] → W p l e ({ frames := 2, cells := 0, slots := 0, locals := 39 }) s m (List.toArray [.ref (ad 39), .int a1, .int 0, .int a3, .int a4]) below meth c H locs 0 0 (MQ below (va_Qi (P_X7_firstOpen_7 ad cy B qr s1 a1 a3 a4 w0) (fun u : va_W => wpost dC dI cy A u) A) (List.toArray [.ref (ad 39), .int a1, .int 0, .int a3, .int a4]) s 0 0 A) (F0 m 56 ls []) := by
        intro n56
        induction n56 with
        | zero => intro v56_7 v56_8 H locs ls w24 r25 t26 r27 t28 r29 t30 r31 t32 r33 t34 r35 t36 hm56 hw hT hF hl; omega
        | succ n56 ih56 =>
          intro v56_7 v56_8 H locs ls w24 r25 t26 r27 t28 r29 t30 r31 t32 r33 t34 r35 t36 hm56 hw hT hF hl
          refine lv_iload hx hb dX7_firstOpen_56 (lv_at hl 7 rfl) ?_
          refine lv_if_eq (tgt := 108) hx hb dX7_firstOpen_58 (by decide) (fun c37 => ?_) (fun c37 => ?_)
          · have c37 : v56_7.toInt = (0 : Int) := wk_eq.mp c37
            exact J108 v56_7 v56_8 H locs ls w24 (show 0 ≤ a1.toInt by omega) (show a1.toInt ≤ 11 by omega) (show (-1) ≤ a3.toInt by omega) (show a3.toInt ≤ 102119 by omega) (show 0 ≤ a4.toInt by omega) (show a4.toInt ≤ 102119 by omega) (show 0 ≤ v25_6.toInt by omega) (show v25_6.toInt ≤ 4254 by omega) (show 0 ≤ v56_7.toInt by omega) (show v56_7.toInt ≤ 16777215 by omega) (show 0 ≤ v56_8.toInt by omega) (show v56_8.toInt ≤ 24 by omega)  hw hT hF  (lv_sub hl [0, 1, 2, 3, 4, 5, 6, 7, 8] rfl)
          · have c37 : ¬ v56_7.toInt = (0 : Int) := wk_eqF c37
            refine lv_iload hx hb dX7_firstOpen_61 (lv_at hl 8 rfl) ?_
            refine lv_bipush (v := 24) hx hb dX7_firstOpen_63 (by decide) ?_
            refine lv_icmp_ge (tgt := 108) hx hb dX7_firstOpen_65 (by decide) (fun c38 => ?_) (fun c38 => ?_)
            · have c38 : (24 : Int) ≤ v56_8.toInt := wk_le.mp c38
              exact J108 v56_7 v56_8 H locs ls w24 (show 0 ≤ a1.toInt by omega) (show a1.toInt ≤ 11 by omega) (show (-1) ≤ a3.toInt by omega) (show a3.toInt ≤ 102119 by omega) (show 0 ≤ a4.toInt by omega) (show a4.toInt ≤ 102119 by omega) (show 0 ≤ v25_6.toInt by omega) (show v25_6.toInt ≤ 4254 by omega) (show 0 ≤ v56_7.toInt by omega) (show v56_7.toInt ≤ 16777215 by omega) (show 0 ≤ v56_8.toInt by omega) (show v56_8.toInt ≤ 24 by omega)  hw hT hF  (lv_sub hl [0, 1, 2, 3, 4, 5, 6, 7, 8] rfl)
            · have c38 : v56_8.toInt < (24 : Int) := wk_leF c38
              refine lv_iload hx hb dX7_firstOpen_68 (lv_at hl 7 rfl) ?_
              refine lv_iload hx hb dX7_firstOpen_70 (lv_at hl 8 rfl) ?_
              refine lv_ishr hx hb dX7_firstOpen_72 ?_
              refine lv_topi (fun x39 ex39 => ?_)
              have bx39 : 0 ≤ x39.toInt ∧ x39.toInt ≤ v56_7.toInt := by rw [ex39]; exact wk_shr (by omega)
              refine lv_iconst (v := 1) hx hb dX7_firstOpen_73 (by decide) ?_
              refine lv_iand hx hb dX7_firstOpen_74 ?_
              refine lv_topi (fun x40 ex40 => ?_)
              have bx40 : 0 ≤ x40.toInt ∧ x40.toInt ≤ (1 : Int) := by rw [ex40]; exact wk_and (by decide)
              refine lv_if_eq (tgt := 102) hx hb dX7_firstOpen_75 (by decide) (fun c41 => ?_) (fun c41 => ?_)
              · have c41 : x40.toInt = (0 : Int) := wk_eq.mp c41
                obtain ⟨x42, ex42⟩ : ∃ y : Int32, y = v56_8 + Int32.ofInt 1 := ⟨_, rfl⟩
                refine lv_iinc (v := x42) (lv' := [(8, .int x42), (0, .ref (ad 39)), (1, .int a1), (2, .int 0), (3, .int a3), (4, .int a4), (5, .int (-1)), (6, .int v25_6), (7, .int v56_7)]) hx hb dX7_firstOpen_102 hl (k := 8) rfl ex42.symm (by decide) rfl (fun ls hl => ?_)
                have ex42 : x42.toInt = v56_8.toInt + 1 := by rw [ex42]; exact wk_add (y := 1) (show -2147483648 ≤ v56_8.toInt + 1 by omega) (show v56_8.toInt + 1 ≤ 2147483647 by omega)
                refine lv_goto (tgt := 56) hx hb dX7_firstOpen_105 (by decide) ?_
                exact ih56 v56_7 x42 H locs ls w24 (show 0 ≤ a1.toInt by omega) (show a1.toInt ≤ 11 by omega) (show (-1) ≤ a3.toInt by omega) (show a3.toInt ≤ 102119 by omega) (show 0 ≤ a4.toInt by omega) (show a4.toInt ≤ 102119 by omega) (show 0 ≤ v25_6.toInt by omega) (show v25_6.toInt ≤ 4254 by omega) (show 0 ≤ v56_7.toInt by omega) (show v56_7.toInt ≤ 16777215 by omega) (show 0 ≤ x42.toInt by omega) (show x42.toInt ≤ 24 by omega) (show (24 - x42.toInt).toNat < n56 by omega) hw hT hF  (lv_sub hl [1, 2, 3, 4, 5, 6, 7, 8, 0] rfl)
              · have c41 : ¬ x40.toInt = (0 : Int) := wk_eqF c41
                refine lv_iload hx hb dX7_firstOpen_78 (lv_at hl 6 rfl) ?_
                refine lv_bipush (v := 24) hx hb dX7_firstOpen_80 (by decide) ?_
                refine lv_imul hx hb dX7_firstOpen_82 ?_
                refine lv_topi (fun x43 ex43 => ?_)
                have ex43 : x43.toInt = v25_6.toInt * (24 : Int) := by rw [ex43]; exact wk_mul (show (-2147483648) ≤ v25_6.toInt * (24 : Int) by omega) (show v25_6.toInt * (24 : Int) ≤ 2147483647 by omega)
                refine lv_iload hx hb dX7_firstOpen_83 (lv_at hl 8 rfl) ?_
                refine lv_iadd hx hb dX7_firstOpen_85 ?_
                refine lv_topi (fun x44 ex44 => ?_)
                have ex44 : x44.toInt = x43.toInt + v56_8.toInt := by rw [ex44]; exact wk_add (show (-2147483648) ≤ x43.toInt + v56_8.toInt by omega) (show x43.toInt + v56_8.toInt ≤ 2147483647 by omega)
                refine lv_istore (lv' := [(9, .int x44), (0, .ref (ad 39)), (1, .int a1), (2, .int 0), (3, .int a3), (4, .int a4), (5, .int (-1)), (6, .int v25_6), (7, .int v56_7), (8, .int v56_8)]) hx hb dX7_firstOpen_86 hl (by decide) rfl (fun ls hl => ?_)
                refine lv_iload hx hb dX7_firstOpen_88 (lv_at hl 0 rfl) ?_
                refine lv_iload hx hb dX7_firstOpen_90 (lv_at hl 5 rfl) ?_
                refine lv_icmp_gt (tgt := 100) hx hb dX7_firstOpen_92 (by decide) (fun c45 => ?_) (fun c45 => ?_)
                · have c45 : a4.toInt < x44.toInt := wk_lt.mp c45
                  refine lv_iconst (v := (-1)) hx hb dX7_firstOpen_100 (by decide) ?_
                  exact tk_iret hC hr hlocks hK ⟨hT, hF, (Or.inr rfl)⟩ hw dX7_firstOpen_101
                · have c45 : x44.toInt ≤ a4.toInt := wk_ltF c45
                  refine lv_iload hx hb dX7_firstOpen_95 (lv_at hl 0 rfl) ?_
                  refine lv_goto (tgt := 101) hx hb dX7_firstOpen_97 (by decide) ?_
                  exact tk_iret hC hr hlocks hK ⟨hT, hF, (Or.inl ⟨(show 0 ≤ x44.toInt by omega), (show x44.toInt ≤ 102119 by omega)⟩)⟩ hw dX7_firstOpen_101
      refine lv_iload hx hb dX7_firstOpen_25 (lv_at hl 6 rfl) ?_
      refine lv_bipush (v := 24) hx hb dX7_firstOpen_27 (by decide) ?_
      refine lv_imul hx hb dX7_firstOpen_29 ?_
      refine lv_topi (fun x46 ex46 => ?_)
      have ex46 : x46.toInt = v25_6.toInt * (24 : Int) := by rw [ex46]; exact wk_mul (show (-2147483648) ≤ v25_6.toInt * (24 : Int) by omega) (show v25_6.toInt * (24 : Int) ≤ 2147483647 by omega)
      refine lv_iload hx hb dX7_firstOpen_30 (lv_at hl 4 rfl) ?_
      refine lv_icmp_gt (tgt := 114) hx hb dX7_firstOpen_32 (by decide) (fun c47 => ?_) (fun c47 => ?_)
      · have c47 : a4.toInt < x46.toInt := wk_lt.mp c47
        refine lv_iconst (v := (-1)) hx hb dX7_firstOpen_114 (by decide) ?_
        exact tk_iret hC hr hlocks hK ⟨hT, hF, (Or.inr rfl)⟩ hw dX7_firstOpen_115
      · have c47 : x46.toInt ≤ a4.toInt := wk_ltF c47
        refine lv_aload_n hx hb dX7_firstOpen_35 rfl (lv_at hl 0 rfl) ?_
        refine lv_iload_n hx hb dX7_firstOpen_36 rfl (lv_at hl 1 rfl) ?_
        refine lv_iload_n hx hb dX7_firstOpen_37 rfl (lv_at hl 2 rfl) ?_
        refine lv_iload hx hb dX7_firstOpen_38 (lv_at hl 6 rfl) ?_
        refine lv_i2l hx hb dX7_firstOpen_40 rfl ?_
        refine lv_topl (fun x48 ex48 => ?_)
        have ex48 : x48.toInt = v25_6.toInt := by rw [ex48]; exact wk_i2l _
        have bx48 := wk_i32 v25_6
        refine lv_iconst (v := 1) hx hb dX7_firstOpen_41 (by decide) ?_
        refine tk_Vi hC hK hw hT hA hE hSR kC_at39 (by decide) rfl (k_X7_openHours_11 l adK adV dC dI cy ad B (by omega) (by omega) qr s1   a1 (show 0 ≤ a1.toInt by omega) (show a1.toInt ≤ 11 by omega) x48 (show 0 ≤ x48.toInt by omega) (show x48.toInt ≤ 4254 by omega) w1 H.size hT ) (cwV 4 hC.2.2.2.2 gX7_firstOpen_X7_openHours rfl rfl rfl (by decide +kernel) ⟨Nat.le_of_ble_eq_true rfl, Nat.le_of_ble_eq_true rfl⟩) rfl hl.1 rfl (Nat.le_of_ble_eq_true rfl) dX7_firstOpen_42 (fun r49 w51 H locs hp50 hw => ?_)
        obtain ⟨hT, k52, hg55⟩ := hp50
        have hF := hF.tr k52 (by decide)
        obtain ⟨g53, g54⟩ := hg55
        refine lv_iload hx hb dX7_firstOpen_45 (lv_at hl 5 rfl) ?_
        refine lv_iand hx hb dX7_firstOpen_47 ?_
        refine lv_topi (fun x56 ex56 => ?_)
        have bx56 : 0 ≤ x56.toInt ∧ x56.toInt ≤ r49.toInt := by rw [ex56]; exact wk_andC (by omega)
        refine lv_istore (lv' := [(7, .int x56), (0, .ref (ad 39)), (1, .int a1), (2, .int 0), (3, .int a3), (4, .int a4), (5, .int v25_5), (6, .int v25_6)]) hx hb dX7_firstOpen_48 hl (by decide) rfl (fun ls hl => ?_)
        refine lv_iconst (v := (-1)) hx hb dX7_firstOpen_50 (by decide) ?_
        refine lv_istore (lv' := [(5, .int (-1)), (7, .int x56), (0, .ref (ad 39)), (1, .int a1), (2, .int 0), (3, .int a3), (4, .int a4), (6, .int v25_6)]) hx hb dX7_firstOpen_51 hl (by decide) rfl (fun ls hl => ?_)
        refine lv_iconst (v := 0) hx hb dX7_firstOpen_53 (by decide) ?_
        refine lv_istore (lv' := [(8, .int 0), (5, .int (-1)), (7, .int x56), (0, .ref (ad 39)), (1, .int a1), (2, .int 0), (3, .int a3), (4, .int a4), (6, .int v25_6)]) hx hb dX7_firstOpen_54 hl (by decide) rfl (fun ls hl => ?_)
        exact L56 ((24 - (0 : Int)).toNat + 1) x56 0 H locs ls w51 (show 0 ≤ a1.toInt by omega) (show a1.toInt ≤ 11 by omega) (show (-1) ≤ a3.toInt by omega) (show a3.toInt ≤ 102119 by omega) (show 0 ≤ a4.toInt by omega) (show a4.toInt ≤ 102119 by omega) (show 0 ≤ v25_6.toInt by omega) (show v25_6.toInt ≤ 4254 by omega) (show 0 ≤ x56.toInt by omega) (show x56.toInt ≤ 16777215 by omega) (by decide) (by decide) (Nat.lt_succ_self _) hw hT hF  (lv_sub hl [3, 4, 5, 6, 7, 1, 8, 2, 0] rfl)
  refine lv_aload_n hx hb dX7_firstOpen_0 rfl (lv_at hl 0 rfl) ?_
  refine lv_iload_n hx hb dX7_firstOpen_1 rfl (lv_at hl 1 rfl) ?_
  refine lv_iload_n hx hb dX7_firstOpen_2 rfl (lv_at hl 2 rfl) ?_
  refine tk_Vi hC hK hw hT hA hE hSR kC_at39 (by decide) rfl (k_X7_isNeverOpen_1 l adK adV dC dI cy ad B (by omega) (by omega) qr s1   a1 (show 0 ≤ a1.toInt by omega) (show a1.toInt ≤ 11 by omega) w0 s.heap.size hT ) (cwV 2 hC.2.2.2.2 gX7_firstOpen_X7_isNeverOpen rfl rfl rfl (by decide +kernel) ⟨Nat.le_of_ble_eq_true rfl, Nat.le_of_ble_eq_true rfl⟩) rfl hl.1 rfl (Nat.le_of_ble_eq_true rfl) dX7_firstOpen_3 (fun r57 w59 H locs hp58 hw => ?_)
  obtain ⟨hT, k60, hg61⟩ := hp58
  have hF := hF.tr k60 (by decide)
  rcases hg61 with rfl | rfl
  · refine lv_if_eq (tgt := 11) hx hb dX7_firstOpen_6 (by decide) (fun _ => ?_) (fun c => absurd (by decide) c)
    refine lv_iconst (v := (-1)) hx hb dX7_firstOpen_11 (by decide) ?_
    refine lv_iload_n hx hb dX7_firstOpen_12 rfl (lv_at hl 3 rfl) ?_
    refine lv_bipush (v := 24) hx hb dX7_firstOpen_13 (by decide) ?_
    refine lv_irem hx hb dX7_firstOpen_15 (by decide) ?_
    refine lv_topi (fun x62 ex62 => ?_)
    refine lv_ishl hx hb dX7_firstOpen_16 ?_
    refine lv_topi (fun x63 ex63 => ?_)
    refine lv_istore (lv' := [(5, .int x63), (0, .ref (ad 39)), (1, .int a1), (2, .int 0), (3, .int a3), (4, .int a4)]) hx hb dX7_firstOpen_17 hl (by decide) rfl (fun ls hl => ?_)
    refine lv_iload_n hx hb dX7_firstOpen_19 rfl (lv_at hl 4 rfl) ?_
    refine lv_bipush (v := 24) hx hb dX7_firstOpen_20 (by decide) ?_
    refine lv_idiv hx hb dX7_firstOpen_22 (by decide) ?_
    refine lv_topi (fun x64 ex64 => ?_)
    have bx64 : -(1 / (24 : Int)) ≤ x64.toInt ∧ x64.toInt ≤ 102119 / (24 : Int) := by rw [ex64]; exact wk_divB (m := 1) (n := 102119) (show 0 < (24 : Int) by decide) (by decide) (by decide) (by omega) (by omega)
    refine lv_istore (lv' := [(6, .int x64), (5, .int x63), (0, .ref (ad 39)), (1, .int a1), (2, .int 0), (3, .int a3), (4, .int a4)]) hx hb dX7_firstOpen_23 hl (by decide) rfl (fun ls hl => ?_)
    exact L25 ((4255 - x64.toInt).toNat + 1) x63 x64 H locs ls w59 (show 0 ≤ a1.toInt by omega) (show a1.toInt ≤ 11 by omega) (show (-1) ≤ a3.toInt by omega) (show a3.toInt ≤ 102119 by omega) (show 0 ≤ a4.toInt by omega) (show a4.toInt ≤ 102119 by omega) (show 0 ≤ x64.toInt by omega) (show x64.toInt ≤ 4255 by omega) (Nat.lt_succ_self _) hw hT hF  (lv_sub hl [2, 3, 4, 5, 6, 1, 0] rfl)
  · refine lv_if_eq (tgt := 11) hx hb dX7_firstOpen_6 (by decide) (fun c => absurd c (by decide)) (fun _ => ?_)
    refine lv_iconst (v := (-1)) hx hb dX7_firstOpen_9 (by decide) ?_
    exact tk_iret hC hr hlocks hK ⟨hT, hF, (Or.inr rfl)⟩ hw dX7_firstOpen_10
abbrev P_X7_sideOf_7 (ad : Nat → Nat) (cy : Nat → ClassId) (B : Int) (qr : Nat) (s1 : Int) (a1 : Int32) (a2 : Int32) (w0 : va_W) : Int32 → va_W → Prop := fun r u => TW ksC ad cy B qr s1 u ∧ FE ksC ([] : List (Nat × Nat × Nat)) w0 u ∧ ((r = 0 ∧ gi u 40 (2 * a1.toInt + 0).toNat = a2 ∧ gi u 40 (2 * a1.toInt + 1).toNat = a2) ∨ (r = 1 ∧ gi u 40 (2 * a1.toInt + 1).toNat = a2))
set_option maxHeartbeats 4000000 in
set_option maxRecDepth 100000 in
theorem k_X7_sideOf_7 (l : Launch) (adK adV : Nat → Nat) (dC : Nat → ClassId) (dI : Nat → Nat → Nat) (cy : Nat → ClassId) (ad : Nat → Nat) (B : Int) (hB0 : 2147483648 ≤ B) (hB1 : B ≤ 1152921504606846976) (qr : Nat) (s1 : Int)  (a1 : Int32) (ra1 : 0 ≤ a1.toInt) (ta1 : a1.toInt ≤ 11) (a2 : Int32) (ra2 : 0 ≤ a2.toInt) (ta2 : a2.toInt ≤ 9) (w0 : va_W) (sz : Nat) (hT : TW ksC ad cy B qr s1 w0) (cf0_ : gi w0 40 (2 * a1.toInt + 1).toNat = a2) : Met l yX7_sideOf wsX7_sideOf ({ frames := 1, cells := 0, slots := 0, locals := 12 }) (va_Pc [.ref (ad 39), .int a1, .int a2] (wpreS adK adV dC dI cy sz w0)) (va_Qi (P_X7_sideOf_7 ad cy B qr s1 a1 a2 w0) (fun u : va_W => wpost dC dI cy (va_A w0 sz) u) (va_A w0 sz)) 0 0 (va_A w0 sz) := by
  refine Met.ofW (cc := cX7_sideOf) (maxL := 3) (ret := (some .int)) (by decide) rfl ?_
  intro p e s m args below meth c s₁ Bk hml hv
  obtain ⟨rfl, ⟨hsz, hP, hK, hD0⟩, hE, hSR⟩ := hv
  have hx := Bk.exec
  have hb := Bk.bytes
  have hr := Bk.returns
  have hlocks := Bk.notSynchronized
  have hC : CallFix p m c cX7_sideOf 3 s _ wsX7_sideOf RX7 := ⟨hx, hb, hml, findClass_of_methodNamed Bk.named, atoms_spec (ws := wsX7_sideOf) Bk.pre⟩
  subst hsz
  have hD := hD0.self (sz := s.heap.size)
  generalize hAe : va_A w0 s.heap.size = A at hD hE ⊢
  have hA : ∀ q : Nat, s.heap.size ≤ q → A q := fun q h => by rw [← hAe]; exact Or.inr h
  have hw : Wd dC dI A s.heap s.heap [] w0 := ⟨hP, hD, va_S.rf⟩
  have hF : FE ksC ([] : List (Nat × Nat × Nat)) w0 w0 := FE.rf
  have hl := lv_entry ([.ref (ad 39), .int a1, .int a2]) (n := 3) (Nat.le_of_ble_eq_true rfl)
  rw [lg_entry_eq]
  generalize (lg_sl ([.ref (ad 39), .int a1, .int a2]) ++ List.replicate (3 - (lg_sl ([.ref (ad 39), .int a1, .int a2])).length) Slot.unset).toArray = ls at hl ⊢
  have hl : lv_has ls 3 [(0, .ref (ad 39)), (1, .int a1), (2, .int a2)] := hl
  generalize hloc : ([] : List Loc) = locs at hw ⊢
  have hinX7 : ∀ w ∈ u_ws RX7 TX7 12, w ∈ wsX7_sideOf := fun _ h => List.mem_cons_of_mem _ (List.mem_append_right _ (h))
  refine lv_aload_n hx hb dX7_sideOf_0 rfl (lv_at hl 0 rfl) ?_
  refine tk_getO hC hK hw hT hinX7 kC_at39 (by decide) rfl 0 (by decide) (List.mem_of_getElem? (i := 1) rfl) rfl rfl dX7_sideOf_1 ?_
  refine lv_iconst (v := 2) hx hb dX7_sideOf_4 (by decide) ?_
  refine lv_iload_n hx hb dX7_sideOf_5 rfl (lv_at hl 1 rfl) ?_
  refine lv_imul hx hb dX7_sideOf_6 ?_
  refine lv_topi (fun x1 ex1 => ?_)
  have ex1 : x1.toInt = (2 : Int) * a1.toInt := by rw [ex1]; exact wk_mul (show (-2147483648) ≤ (2 : Int) * a1.toInt by omega) (show (2 : Int) * a1.toInt ≤ 2147483647 by omega)
  refine tk_iald hC hK hw hT kC_at40 rfl rfl (show 0 ≤ x1.toInt by omega) (show x1.toInt < 26 by omega) dX7_sideOf_7 (fun x2 c3 rx2 tx2 => ?_)
  have c3 : gi w0 40 (2 * a1.toInt + 0).toNat = x2 := (congrArg (gi w0 40) (congrArg Int.toNat (show 2 * a1.toInt + 0 = x1.toInt by omega))).trans c3
  refine lv_iload_n hx hb dX7_sideOf_8 rfl (lv_at hl 2 rfl) ?_
  refine lv_icmp_ne (tgt := 14) hx hb dX7_sideOf_9 (by decide) (fun c4 => ?_) (fun c4 => ?_)
  · have c4 : ¬ x2.toInt = a2.toInt := wk_eqF c4
    refine lv_aload_n hx hb dX7_sideOf_14 rfl (lv_at hl 0 rfl) ?_
    refine tk_getO hC hK hw hT hinX7 kC_at39 (by decide) rfl 0 (by decide) (List.mem_of_getElem? (i := 1) rfl) rfl rfl dX7_sideOf_15 ?_
    refine lv_iconst (v := 2) hx hb dX7_sideOf_18 (by decide) ?_
    refine lv_iload_n hx hb dX7_sideOf_19 rfl (lv_at hl 1 rfl) ?_
    refine lv_imul hx hb dX7_sideOf_20 ?_
    refine lv_topi (fun x5 ex5 => ?_)
    have ex5 : x5.toInt = (2 : Int) * a1.toInt := by rw [ex5]; exact wk_mul (show (-2147483648) ≤ (2 : Int) * a1.toInt by omega) (show (2 : Int) * a1.toInt ≤ 2147483647 by omega)
    refine lv_iconst (v := 1) hx hb dX7_sideOf_21 (by decide) ?_
    refine lv_iadd hx hb dX7_sideOf_22 ?_
    refine lv_topi (fun x6 ex6 => ?_)
    have ex6 : x6.toInt = x5.toInt + (1 : Int) := by rw [ex6]; exact wk_add (show (-2147483648) ≤ x5.toInt + (1 : Int) by omega) (show x5.toInt + (1 : Int) ≤ 2147483647 by omega)
    refine tk_iald hC hK hw hT kC_at40 rfl rfl (show 0 ≤ x6.toInt by omega) (show x6.toInt < 26 by omega) dX7_sideOf_23 (fun x7 c8 rx7 tx7 => ?_)
    have c8 : gi w0 40 (2 * a1.toInt + 1).toNat = x7 := (congrArg (gi w0 40) (congrArg Int.toNat (show 2 * a1.toInt + 1 = x6.toInt by omega))).trans c8
    refine wk_top a2 (c8.symm.trans cf0_) ?_
    refine lv_iload_n hx hb dX7_sideOf_24 rfl (lv_at hl 2 rfl) ?_
    refine lv_icmp_ne (tgt := 32) hx hb dX7_sideOf_25 (by decide) (fun c => (c (wk_eq.mpr (show a2.toInt = a2.toInt by omega))).elim) (fun _ => ?_)
    refine lv_iconst (v := 1) hx hb dX7_sideOf_28 (by decide) ?_
    refine lv_goto (tgt := 33) hx hb dX7_sideOf_29 (by decide) ?_
    exact tk_iret hC hr hlocks hK ⟨hT, hF, (Or.inr ⟨rfl, cf0_⟩)⟩ hw dX7_sideOf_33
  · have c4 : x2.toInt = a2.toInt := wk_eq.mp c4
    refine lv_iconst (v := 0) hx hb dX7_sideOf_12 (by decide) ?_
    exact tk_iret hC hr hlocks hK ⟨hT, hF, (Or.inl ⟨rfl, (c3.trans (wk_eq.mpr (show x2.toInt = a2.toInt by omega))), cf0_⟩)⟩ hw dX7_sideOf_13
abbrev P_X7_firstOpen_8 (ad : Nat → Nat) (cy : Nat → ClassId) (B : Int) (qr : Nat) (s1 : Int) (a1 : Int32) (a3 : Int32) (a4 : Int32) (w0 : va_W) : Int32 → va_W → Prop := fun r u => TW ksC ad cy B qr s1 u ∧ FE ksC ([] : List (Nat × Nat × Nat)) w0 u ∧ ((0 ≤ r.toInt ∧ r.toInt ≤ 102119) ∨ (r = (-1)))
set_option maxHeartbeats 4000000 in
set_option maxRecDepth 100000 in
theorem k_X7_firstOpen_8 (l : Launch) (adK adV : Nat → Nat) (dC : Nat → ClassId) (dI : Nat → Nat → Nat) (cy : Nat → ClassId) (ad : Nat → Nat) (B : Int) (hB0 : 2147483648 ≤ B) (hB1 : B ≤ 1152921504606846976) (qr : Nat) (s1 : Int)  (a1 : Int32) (ra1 : 0 ≤ a1.toInt) (ta1 : a1.toInt ≤ 11) (a3 : Int32) (ra3 : (-1) ≤ a3.toInt) (ta3 : a3.toInt ≤ 102119) (a4 : Int32) (ra4 : 0 ≤ a4.toInt) (ta4 : a4.toInt ≤ 102119) (w0 : va_W) (sz : Nat) (hT : TW ksC ad cy B qr s1 w0)  : Met l yX7_firstOpen wsX7_firstOpen ({ frames := 2, cells := 0, slots := 0, locals := 39 }) (va_Pc [.ref (ad 39), .int a1, .int 1, .int a3, .int a4] (wpreS adK adV dC dI cy sz w0)) (va_Qi (P_X7_firstOpen_8 ad cy B qr s1 a1 a3 a4 w0) (fun u : va_W => wpost dC dI cy (va_A w0 sz) u) (va_A w0 sz)) 0 0 (va_A w0 sz) := by
  refine Met.ofW (cc := cX7_firstOpen) (maxL := 10) (ret := (some .int)) (by decide) rfl ?_
  intro p e s m args below meth c s₁ Bk hml hv
  obtain ⟨rfl, ⟨hsz, hP, hK, hD0⟩, hE, hSR⟩ := hv
  have hx := Bk.exec
  have hb := Bk.bytes
  have hr := Bk.returns
  have hlocks := Bk.notSynchronized
  have hC : CallFix p m c cX7_firstOpen 10 s _ wsX7_firstOpen RX7 := ⟨hx, hb, hml, findClass_of_methodNamed Bk.named, atoms_spec (ws := wsX7_firstOpen) Bk.pre⟩
  subst hsz
  have hD := hD0.self (sz := s.heap.size)
  generalize hAe : va_A w0 s.heap.size = A at hD hE ⊢
  have hA : ∀ q : Nat, s.heap.size ≤ q → A q := fun q h => by rw [← hAe]; exact Or.inr h
  have hw : Wd dC dI A s.heap s.heap [] w0 := ⟨hP, hD, va_S.rf⟩
  have hF : FE ksC ([] : List (Nat × Nat × Nat)) w0 w0 := FE.rf
  have hl := lv_entry ([.ref (ad 39), .int a1, .int 1, .int a3, .int a4]) (n := 10) (Nat.le_of_ble_eq_true rfl)
  rw [lg_entry_eq]
  generalize (lg_sl ([.ref (ad 39), .int a1, .int 1, .int a3, .int a4]) ++ List.replicate (10 - (lg_sl ([.ref (ad 39), .int a1, .int 1, .int a3, .int a4])).length) Slot.unset).toArray = ls at hl ⊢
  have hl : lv_has ls 10 [(0, .ref (ad 39)), (1, .int a1), (2, .int 1), (3, .int a3), (4, .int a4)] := hl
  generalize hloc : ([] : List Loc) = locs at hw ⊢
  have L25 : ∀ (n25 : Nat) (v25_5 : Int32) (v25_6 : Int32) (H : Heap) (locs : List Loc) (ls : Array Slot) (w1 : va_W), 0 ≤ a1.toInt → a1.toInt ≤ 11 → (-1) ≤ a3.toInt → a3.toInt ≤ 102119 → 0 ≤ a4.toInt → a4.toInt ≤ 102119 → 0 ≤ v25_6.toInt → v25_6.toInt ≤ 4255 → (4255 - v25_6.toInt).toNat < n25 → Wd dC dI A s.heap H locs w1 → TW ksC ad cy B qr s1 w1 → FE ksC ([] : List (Nat × Nat × Nat)) w0 w1 → lv_has ls 10 [(0, .ref (ad 39)), (1, .int a1), (2, .int 1), (3, .int a3), (4, .int a4), (5, .int v25_5), (6, .int v25_6)] → W p l e ({ frames := 2, cells := 0, slots := 0, locals := 39 }) s m (List.toArray [.ref (ad 39), .int a1, .int 1, .int a3, .int a4]) below meth c H locs 0 0 (MQ below (va_Qi (P_X7_firstOpen_8 ad cy B qr s1 a1 a3 a4 w0) (fun u : va_W => wpost dC dI cy A u) A) (List.toArray [.ref (ad 39), .int a1, .int 1, .int a3, .int a4]) s 0 0 A) (F0 m 25 ls []) := by
    intro n25
    induction n25 with
    | zero => intro v25_5 v25_6 H locs ls w1 r2 t3 r4 t5 r6 t7 r8 t9 hm25 hw hT hF hl; omega
    | succ n25 ih25 =>
      intro v25_5 v25_6 H locs ls w1 r2 t3 r4 t5 r6 t7 r8 t9 hm25 hw hT hF hl
      have J108 : ∀ (v108_7 : Int32) (v108_8 : Int32) (H : Heap) (locs : List Loc) (ls : Array Slot) (w10 : va_W), 0 ≤ a1.toInt → a1.toInt ≤ 11 → (-1) ≤ a3.toInt → a3.toInt ≤ 102119 → 0 ≤ a4.toInt → a4.toInt ≤ 102119 → 0 ≤ v25_6.toInt → v25_6.toInt ≤ 4254 → 0 ≤ v108_7.toInt → v108_7.toInt ≤ 16777215 → 0 ≤ v108_8.toInt → v108_8.toInt ≤ 24 → Wd dC dI A s.heap H locs w10 → TW ksC ad cy B qr s1 w10 → FE ksC ([] : List (Nat × Nat × Nat)) w0 w10 → lv_has ls 10 [(0, .ref (ad 39)), (1, .int a1), (2, .int 1), (3, .int a3), (4, .int a4), (5, .int (-1)), (6, .int v25_6), (7, .int v108_7), (8, .int v108_8)] → W p l e ({ frames := 2, cells := 0, slots := 0, locals := 39 }) s m (List.toArray [.ref (ad 39), .int a1, .int 1, .int a3, .int a4]) below meth c H locs 0 0 (MQ below (va_Qi (P_X7_firstOpen_8 ad cy B qr s1 a1 a3 a4 w0) (fun u : va_W => wpost dC dI cy A u) A) (List.toArray [.ref (ad 39), .int a1, .int 1, .int a3, .int a4]) s 0 0 A) (F0 m 108 ls []) := by
        intro v108_7 v108_8 H locs ls w10 r11 t12 r13 t14 r15 t16 r17 t18 r19 t20 r21 t22 hw hT hF hl
        obtain ⟨x23, ex23⟩ : ∃ y : Int32, y = v25_6 + Int32.ofInt 1 := ⟨_, rfl⟩
        refine lv_iinc (v := x23) (lv' := [(6, .int x23), (0, .ref (ad 39)), (1, .int a1), (2, .int 1), (3, .int a3), (4, .int a4), (5, .int (-1)), (7, .int v108_7), (8, .int v108_8)]) hx hb dX7_firstOpen_108 hl (k := 6) rfl ex23.symm (by decide) rfl (fun ls hl => ?_)
        have ex23 : x23.toInt = v25_6.toInt + 1 := by rw [ex23]; exact wk_add (y := 1) (show -2147483648 ≤ v25_6.toInt + 1 by omega) (show v25_6.toInt + 1 ≤ 2147483647 by omega)
        refine lv_goto (tgt := 25) hx hb dX7_firstOpen_111 (by decide) ?_
        exact ih25 (-1) x23 H locs ls w10 (show 0 ≤ a1.toInt by omega) (show a1.toInt ≤ 11 by omega) (show (-1) ≤ a3.toInt by omega) (show a3.toInt ≤ 102119 by omega) (show 0 ≤ a4.toInt by omega) (show a4.toInt ≤ 102119 by omega) (show 0 ≤ x23.toInt by omega) (show x23.toInt ≤ 4255 by omega) (show (4255 - x23.toInt).toNat < n25 by omega) hw hT hF  (lv_sub hl [1, 2, 3, 4, 5, 6, 0] rfl)
      have L56 : ∀ (n56 : Nat) (v56_7 : Int32) (v56_8 : Int32) (H : Heap) (locs : List Loc) (ls : Array Slot) (w24 : va_W), 0 ≤ a1.toInt → a1.toInt ≤ 11 → (-1) ≤ a3.toInt → a3.toInt ≤ 102119 → 0 ≤ a4.toInt → a4.toInt ≤ 102119 → 0 ≤ v25_6.toInt → v25_6.toInt ≤ 4254 → 0 ≤ v56_7.toInt → v56_7.toInt ≤ 16777215 → 0 ≤ v56_8.toInt → v56_8.toInt ≤ 24 → (24 - v56_8.toInt).toNat < n56 → Wd dC dI A s.heap H locs w24 → TW ksC ad cy B qr s1 w24 → FE ksC ([] : List (Nat × Nat × Nat)) w0 w24 → lv_has ls 10 [(0, .ref (ad 39)), (1, .int a1), (2, .int 1), (3, .int a3), (4, .int a4), (5, .int (-1)), (6, .int v25_6), (7, .int v56_7), (8, .int v56_8)] → W p l e ({ frames := 2, cells := 0, slots := 0, locals := 39 }) s m (List.toArray [.ref (ad 39), .int a1, .int 1, .int a3, .int a4]) below meth c H locs 0 0 (MQ below (va_Qi (P_X7_firstOpen_8 ad cy B qr s1 a1 a3 a4 w0) (fun u : va_W => wpost dC dI cy A u) A) (List.toArray [.ref (ad 39), .int a1, .int 1, .int a3, .int a4]) s 0 0 A) (F0 m 56 ls []) := by
        intro n56
        induction n56 with
        | zero => intro v56_7 v56_8 H locs ls w24 r25 t26 r27 t28 r29 t30 r31 t32 r33 t34 r35 t36 hm56 hw hT hF hl; omega
        | succ n56 ih56 =>
          intro v56_7 v56_8 H locs ls w24 r25 t26 r27 t28 r29 t30 r31 t32 r33 t34 r35 t36 hm56 hw hT hF hl
          refine lv_iload hx hb dX7_firstOpen_56 (lv_at hl 7 rfl) ?_
          refine lv_if_eq (tgt := 108) hx hb dX7_firstOpen_58 (by decide) (fun c37 => ?_) (fun c37 => ?_)
          · have c37 : v56_7.toInt = (0 : Int) := wk_eq.mp c37
            exact J108 v56_7 v56_8 H locs ls w24 (show 0 ≤ a1.toInt by omega) (show a1.toInt ≤ 11 by omega) (show (-1) ≤ a3.toInt by omega) (show a3.toInt ≤ 102119 by omega) (show 0 ≤ a4.toInt by omega) (show a4.toInt ≤ 102119 by omega) (show 0 ≤ v25_6.toInt by omega) (show v25_6.toInt ≤ 4254 by omega) (show 0 ≤ v56_7.toInt by omega) (show v56_7.toInt ≤ 16777215 by omega) (show 0 ≤ v56_8.toInt by omega) (show v56_8.toInt ≤ 24 by omega)  hw hT hF  (lv_sub hl [0, 1, 2, 3, 4, 5, 6, 7, 8] rfl)
          · have c37 : ¬ v56_7.toInt = (0 : Int) := wk_eqF c37
            refine lv_iload hx hb dX7_firstOpen_61 (lv_at hl 8 rfl) ?_
            refine lv_bipush (v := 24) hx hb dX7_firstOpen_63 (by decide) ?_
            refine lv_icmp_ge (tgt := 108) hx hb dX7_firstOpen_65 (by decide) (fun c38 => ?_) (fun c38 => ?_)
            · have c38 : (24 : Int) ≤ v56_8.toInt := wk_le.mp c38
              exact J108 v56_7 v56_8 H locs ls w24 (show 0 ≤ a1.toInt by omega) (show a1.toInt ≤ 11 by omega) (show (-1) ≤ a3.toInt by omega) (show a3.toInt ≤ 102119 by omega) (show 0 ≤ a4.toInt by omega) (show a4.toInt ≤ 102119 by omega) (show 0 ≤ v25_6.toInt by omega) (show v25_6.toInt ≤ 4254 by omega) (show 0 ≤ v56_7.toInt by omega) (show v56_7.toInt ≤ 16777215 by omega) (show 0 ≤ v56_8.toInt by omega) (show v56_8.toInt ≤ 24 by omega)  hw hT hF  (lv_sub hl [0, 1, 2, 3, 4, 5, 6, 7, 8] rfl)
            · have c38 : v56_8.toInt < (24 : Int) := wk_leF c38
              refine lv_iload hx hb dX7_firstOpen_68 (lv_at hl 7 rfl) ?_
              refine lv_iload hx hb dX7_firstOpen_70 (lv_at hl 8 rfl) ?_
              refine lv_ishr hx hb dX7_firstOpen_72 ?_
              refine lv_topi (fun x39 ex39 => ?_)
              have bx39 : 0 ≤ x39.toInt ∧ x39.toInt ≤ v56_7.toInt := by rw [ex39]; exact wk_shr (by omega)
              refine lv_iconst (v := 1) hx hb dX7_firstOpen_73 (by decide) ?_
              refine lv_iand hx hb dX7_firstOpen_74 ?_
              refine lv_topi (fun x40 ex40 => ?_)
              have bx40 : 0 ≤ x40.toInt ∧ x40.toInt ≤ (1 : Int) := by rw [ex40]; exact wk_and (by decide)
              refine lv_if_eq (tgt := 102) hx hb dX7_firstOpen_75 (by decide) (fun c41 => ?_) (fun c41 => ?_)
              · have c41 : x40.toInt = (0 : Int) := wk_eq.mp c41
                obtain ⟨x42, ex42⟩ : ∃ y : Int32, y = v56_8 + Int32.ofInt 1 := ⟨_, rfl⟩
                refine lv_iinc (v := x42) (lv' := [(8, .int x42), (0, .ref (ad 39)), (1, .int a1), (2, .int 1), (3, .int a3), (4, .int a4), (5, .int (-1)), (6, .int v25_6), (7, .int v56_7)]) hx hb dX7_firstOpen_102 hl (k := 8) rfl ex42.symm (by decide) rfl (fun ls hl => ?_)
                have ex42 : x42.toInt = v56_8.toInt + 1 := by rw [ex42]; exact wk_add (y := 1) (show -2147483648 ≤ v56_8.toInt + 1 by omega) (show v56_8.toInt + 1 ≤ 2147483647 by omega)
                refine lv_goto (tgt := 56) hx hb dX7_firstOpen_105 (by decide) ?_
                exact ih56 v56_7 x42 H locs ls w24 (show 0 ≤ a1.toInt by omega) (show a1.toInt ≤ 11 by omega) (show (-1) ≤ a3.toInt by omega) (show a3.toInt ≤ 102119 by omega) (show 0 ≤ a4.toInt by omega) (show a4.toInt ≤ 102119 by omega) (show 0 ≤ v25_6.toInt by omega) (show v25_6.toInt ≤ 4254 by omega) (show 0 ≤ v56_7.toInt by omega) (show v56_7.toInt ≤ 16777215 by omega) (show 0 ≤ x42.toInt by omega) (show x42.toInt ≤ 24 by omega) (show (24 - x42.toInt).toNat < n56 by omega) hw hT hF  (lv_sub hl [1, 2, 3, 4, 5, 6, 7, 8, 0] rfl)
              · have c41 : ¬ x40.toInt = (0 : Int) := wk_eqF c41
                refine lv_iload hx hb dX7_firstOpen_78 (lv_at hl 6 rfl) ?_
                refine lv_bipush (v := 24) hx hb dX7_firstOpen_80 (by decide) ?_
                refine lv_imul hx hb dX7_firstOpen_82 ?_
                refine lv_topi (fun x43 ex43 => ?_)
                have ex43 : x43.toInt = v25_6.toInt * (24 : Int) := by rw [ex43]; exact wk_mul (show (-2147483648) ≤ v25_6.toInt * (24 : Int) by omega) (show v25_6.toInt * (24 : Int) ≤ 2147483647 by omega)
                refine lv_iload hx hb dX7_firstOpen_83 (lv_at hl 8 rfl) ?_
                refine lv_iadd hx hb dX7_firstOpen_85 ?_
                refine lv_topi (fun x44 ex44 => ?_)
                have ex44 : x44.toInt = x43.toInt + v56_8.toInt := by rw [ex44]; exact wk_add (show (-2147483648) ≤ x43.toInt + v56_8.toInt by omega) (show x43.toInt + v56_8.toInt ≤ 2147483647 by omega)
                refine lv_istore (lv' := [(9, .int x44), (0, .ref (ad 39)), (1, .int a1), (2, .int 1), (3, .int a3), (4, .int a4), (5, .int (-1)), (6, .int v25_6), (7, .int v56_7), (8, .int v56_8)]) hx hb dX7_firstOpen_86 hl (by decide) rfl (fun ls hl => ?_)
                refine lv_iload hx hb dX7_firstOpen_88 (lv_at hl 0 rfl) ?_
                refine lv_iload hx hb dX7_firstOpen_90 (lv_at hl 5 rfl) ?_
                refine lv_icmp_gt (tgt := 100) hx hb dX7_firstOpen_92 (by decide) (fun c45 => ?_) (fun c45 => ?_)
                · have c45 : a4.toInt < x44.toInt := wk_lt.mp c45
                  refine lv_iconst (v := (-1)) hx hb dX7_firstOpen_100 (by decide) ?_
                  exact tk_iret hC hr hlocks hK ⟨hT, hF, (Or.inr rfl)⟩ hw dX7_firstOpen_101
                · have c45 : x44.toInt ≤ a4.toInt := wk_ltF c45
                  refine lv_iload hx hb dX7_firstOpen_95 (lv_at hl 0 rfl) ?_
                  refine lv_goto (tgt := 101) hx hb dX7_firstOpen_97 (by decide) ?_
                  exact tk_iret hC hr hlocks hK ⟨hT, hF, (Or.inl ⟨(show 0 ≤ x44.toInt by omega), (show x44.toInt ≤ 102119 by omega)⟩)⟩ hw dX7_firstOpen_101
      refine lv_iload hx hb dX7_firstOpen_25 (lv_at hl 6 rfl) ?_
      refine lv_bipush (v := 24) hx hb dX7_firstOpen_27 (by decide) ?_
      refine lv_imul hx hb dX7_firstOpen_29 ?_
      refine lv_topi (fun x46 ex46 => ?_)
      have ex46 : x46.toInt = v25_6.toInt * (24 : Int) := by rw [ex46]; exact wk_mul (show (-2147483648) ≤ v25_6.toInt * (24 : Int) by omega) (show v25_6.toInt * (24 : Int) ≤ 2147483647 by omega)
      refine lv_iload hx hb dX7_firstOpen_30 (lv_at hl 4 rfl) ?_
      refine lv_icmp_gt (tgt := 114) hx hb dX7_firstOpen_32 (by decide) (fun c47 => ?_) (fun c47 => ?_)
      · have c47 : a4.toInt < x46.toInt := wk_lt.mp c47
        refine lv_iconst (v := (-1)) hx hb dX7_firstOpen_114 (by decide) ?_
        exact tk_iret hC hr hlocks hK ⟨hT, hF, (Or.inr rfl)⟩ hw dX7_firstOpen_115
      · have c47 : x46.toInt ≤ a4.toInt := wk_ltF c47
        refine lv_aload_n hx hb dX7_firstOpen_35 rfl (lv_at hl 0 rfl) ?_
        refine lv_iload_n hx hb dX7_firstOpen_36 rfl (lv_at hl 1 rfl) ?_
        refine lv_iload_n hx hb dX7_firstOpen_37 rfl (lv_at hl 2 rfl) ?_
        refine lv_iload hx hb dX7_firstOpen_38 (lv_at hl 6 rfl) ?_
        refine lv_i2l hx hb dX7_firstOpen_40 rfl ?_
        refine lv_topl (fun x48 ex48 => ?_)
        have ex48 : x48.toInt = v25_6.toInt := by rw [ex48]; exact wk_i2l _
        have bx48 := wk_i32 v25_6
        refine lv_iconst (v := 1) hx hb dX7_firstOpen_41 (by decide) ?_
        refine tk_Vi hC hK hw hT hA hE hSR kC_at39 (by decide) rfl (k_X7_openHours_12 l adK adV dC dI cy ad B (by omega) (by omega) qr s1   a1 (show 0 ≤ a1.toInt by omega) (show a1.toInt ≤ 11 by omega) x48 (show 0 ≤ x48.toInt by omega) (show x48.toInt ≤ 4254 by omega) w1 H.size hT ) (cwV 4 hC.2.2.2.2 gX7_firstOpen_X7_openHours rfl rfl rfl (by decide +kernel) ⟨Nat.le_of_ble_eq_true rfl, Nat.le_of_ble_eq_true rfl⟩) rfl hl.1 rfl (Nat.le_of_ble_eq_true rfl) dX7_firstOpen_42 (fun r49 w51 H locs hp50 hw => ?_)
        obtain ⟨hT, k52, hg55⟩ := hp50
        have hF := hF.tr k52 (by decide)
        obtain ⟨g53, g54⟩ := hg55
        refine lv_iload hx hb dX7_firstOpen_45 (lv_at hl 5 rfl) ?_
        refine lv_iand hx hb dX7_firstOpen_47 ?_
        refine lv_topi (fun x56 ex56 => ?_)
        have bx56 : 0 ≤ x56.toInt ∧ x56.toInt ≤ r49.toInt := by rw [ex56]; exact wk_andC (by omega)
        refine lv_istore (lv' := [(7, .int x56), (0, .ref (ad 39)), (1, .int a1), (2, .int 1), (3, .int a3), (4, .int a4), (5, .int v25_5), (6, .int v25_6)]) hx hb dX7_firstOpen_48 hl (by decide) rfl (fun ls hl => ?_)
        refine lv_iconst (v := (-1)) hx hb dX7_firstOpen_50 (by decide) ?_
        refine lv_istore (lv' := [(5, .int (-1)), (7, .int x56), (0, .ref (ad 39)), (1, .int a1), (2, .int 1), (3, .int a3), (4, .int a4), (6, .int v25_6)]) hx hb dX7_firstOpen_51 hl (by decide) rfl (fun ls hl => ?_)
        refine lv_iconst (v := 0) hx hb dX7_firstOpen_53 (by decide) ?_
        refine lv_istore (lv' := [(8, .int 0), (5, .int (-1)), (7, .int x56), (0, .ref (ad 39)), (1, .int a1), (2, .int 1), (3, .int a3), (4, .int a4), (6, .int v25_6)]) hx hb dX7_firstOpen_54 hl (by decide) rfl (fun ls hl => ?_)
        exact L56 ((24 - (0 : Int)).toNat + 1) x56 0 H locs ls w51 (show 0 ≤ a1.toInt by omega) (show a1.toInt ≤ 11 by omega) (show (-1) ≤ a3.toInt by omega) (show a3.toInt ≤ 102119 by omega) (show 0 ≤ a4.toInt by omega) (show a4.toInt ≤ 102119 by omega) (show 0 ≤ v25_6.toInt by omega) (show v25_6.toInt ≤ 4254 by omega) (show 0 ≤ x56.toInt by omega) (show x56.toInt ≤ 16777215 by omega) (by decide) (by decide) (Nat.lt_succ_self _) hw hT hF  (lv_sub hl [3, 4, 5, 6, 7, 1, 8, 2, 0] rfl)
  refine lv_aload_n hx hb dX7_firstOpen_0 rfl (lv_at hl 0 rfl) ?_
  refine lv_iload_n hx hb dX7_firstOpen_1 rfl (lv_at hl 1 rfl) ?_
  refine lv_iload_n hx hb dX7_firstOpen_2 rfl (lv_at hl 2 rfl) ?_
  refine tk_Vi hC hK hw hT hA hE hSR kC_at39 (by decide) rfl (k_X7_isNeverOpen_2 l adK adV dC dI cy ad B (by omega) (by omega) qr s1   a1 (show 0 ≤ a1.toInt by omega) (show a1.toInt ≤ 11 by omega) w0 s.heap.size hT ) (cwV 2 hC.2.2.2.2 gX7_firstOpen_X7_isNeverOpen rfl rfl rfl (by decide +kernel) ⟨Nat.le_of_ble_eq_true rfl, Nat.le_of_ble_eq_true rfl⟩) rfl hl.1 rfl (Nat.le_of_ble_eq_true rfl) dX7_firstOpen_3 (fun r57 w59 H locs hp58 hw => ?_)
  obtain ⟨hT, k60, hg61⟩ := hp58
  have hF := hF.tr k60 (by decide)
  rcases hg61 with rfl | rfl
  · refine lv_if_eq (tgt := 11) hx hb dX7_firstOpen_6 (by decide) (fun _ => ?_) (fun c => absurd (by decide) c)
    refine lv_iconst (v := (-1)) hx hb dX7_firstOpen_11 (by decide) ?_
    refine lv_iload_n hx hb dX7_firstOpen_12 rfl (lv_at hl 3 rfl) ?_
    refine lv_bipush (v := 24) hx hb dX7_firstOpen_13 (by decide) ?_
    refine lv_irem hx hb dX7_firstOpen_15 (by decide) ?_
    refine lv_topi (fun x62 ex62 => ?_)
    refine lv_ishl hx hb dX7_firstOpen_16 ?_
    refine lv_topi (fun x63 ex63 => ?_)
    refine lv_istore (lv' := [(5, .int x63), (0, .ref (ad 39)), (1, .int a1), (2, .int 1), (3, .int a3), (4, .int a4)]) hx hb dX7_firstOpen_17 hl (by decide) rfl (fun ls hl => ?_)
    refine lv_iload_n hx hb dX7_firstOpen_19 rfl (lv_at hl 4 rfl) ?_
    refine lv_bipush (v := 24) hx hb dX7_firstOpen_20 (by decide) ?_
    refine lv_idiv hx hb dX7_firstOpen_22 (by decide) ?_
    refine lv_topi (fun x64 ex64 => ?_)
    have bx64 : -(1 / (24 : Int)) ≤ x64.toInt ∧ x64.toInt ≤ 102119 / (24 : Int) := by rw [ex64]; exact wk_divB (m := 1) (n := 102119) (show 0 < (24 : Int) by decide) (by decide) (by decide) (by omega) (by omega)
    refine lv_istore (lv' := [(6, .int x64), (5, .int x63), (0, .ref (ad 39)), (1, .int a1), (2, .int 1), (3, .int a3), (4, .int a4)]) hx hb dX7_firstOpen_23 hl (by decide) rfl (fun ls hl => ?_)
    exact L25 ((4255 - x64.toInt).toNat + 1) x63 x64 H locs ls w59 (show 0 ≤ a1.toInt by omega) (show a1.toInt ≤ 11 by omega) (show (-1) ≤ a3.toInt by omega) (show a3.toInt ≤ 102119 by omega) (show 0 ≤ a4.toInt by omega) (show a4.toInt ≤ 102119 by omega) (show 0 ≤ x64.toInt by omega) (show x64.toInt ≤ 4255 by omega) (Nat.lt_succ_self _) hw hT hF  (lv_sub hl [2, 3, 4, 5, 6, 1, 0] rfl)
  · refine lv_if_eq (tgt := 11) hx hb dX7_firstOpen_6 (by decide) (fun c => absurd c (by decide)) (fun _ => ?_)
    refine lv_iconst (v := (-1)) hx hb dX7_firstOpen_9 (by decide) ?_
    exact tk_iret hC hr hlocks hK ⟨hT, hF, (Or.inr rfl)⟩ hw dX7_firstOpen_10
abbrev P_X7_lastOpen_1 (ad : Nat → Nat) (cy : Nat → ClassId) (B : Int) (qr : Nat) (s1 : Int) (a1 : Int32) (a3 : Int32) (a4 : Int32) (w0 : va_W) : Int32 → va_W → Prop := fun r u => TW ksC ad cy B qr s1 u ∧ FE ksC ([] : List (Nat × Nat × Nat)) w0 u ∧ ((0 ≤ r.toInt ∧ r.toInt ≤ 102119 ∧ 0 ≤ a4.toInt) ∨ (r = (-1)))
set_option maxHeartbeats 4000000 in
set_option maxRecDepth 100000 in
theorem k_X7_lastOpen_1 (l : Launch) (adK adV : Nat → Nat) (dC : Nat → ClassId) (dI : Nat → Nat → Nat) (cy : Nat → ClassId) (ad : Nat → Nat) (B : Int) (hB0 : 2147483648 ≤ B) (hB1 : B ≤ 1152921504606846976) (qr : Nat) (s1 : Int)  (a1 : Int32) (ra1 : 0 ≤ a1.toInt) (ta1 : a1.toInt ≤ 11) (a3 : Int32) (ra3 : 0 ≤ a3.toInt) (ta3 : a3.toInt ≤ 99999) (a4 : Int32) (ra4 : (-10) ≤ a4.toInt) (ta4 : a4.toInt ≤ 102119) (w0 : va_W) (sz : Nat) (hT : TW ksC ad cy B qr s1 w0)  : Met l yX7_lastOpen wsX7_lastOpen ({ frames := 2, cells := 0, slots := 0, locals := 39 }) (va_Pc [.ref (ad 39), .int a1, .int 1, .int a3, .int a4] (wpreS adK adV dC dI cy sz w0)) (va_Qi (P_X7_lastOpen_1 ad cy B qr s1 a1 a3 a4 w0) (fun u : va_W => wpost dC dI cy (va_A w0 sz) u) (va_A w0 sz)) 0 0 (va_A w0 sz) := by
  refine Met.ofW (cc := cX7_lastOpen) (maxL := 10) (ret := (some .int)) (by decide) rfl ?_
  intro p e s m args below meth c s₁ Bk hml hv
  obtain ⟨rfl, ⟨hsz, hP, hK, hD0⟩, hE, hSR⟩ := hv
  have hx := Bk.exec
  have hb := Bk.bytes
  have hr := Bk.returns
  have hlocks := Bk.notSynchronized
  have hC : CallFix p m c cX7_lastOpen 10 s _ wsX7_lastOpen RX7 := ⟨hx, hb, hml, findClass_of_methodNamed Bk.named, atoms_spec (ws := wsX7_lastOpen) Bk.pre⟩
  subst hsz
  have hD := hD0.self (sz := s.heap.size)
  generalize hAe : va_A w0 s.heap.size = A at hD hE ⊢
  have hA : ∀ q : Nat, s.heap.size ≤ q → A q := fun q h => by rw [← hAe]; exact Or.inr h
  have hw : Wd dC dI A s.heap s.heap [] w0 := ⟨hP, hD, va_S.rf⟩
  have hF : FE ksC ([] : List (Nat × Nat × Nat)) w0 w0 := FE.rf
  have hl := lv_entry ([.ref (ad 39), .int a1, .int 1, .int a3, .int a4]) (n := 10) (Nat.le_of_ble_eq_true rfl)
  rw [lg_entry_eq]
  generalize (lg_sl ([.ref (ad 39), .int a1, .int 1, .int a3, .int a4]) ++ List.replicate (10 - (lg_sl ([.ref (ad 39), .int a1, .int 1, .int a3, .int a4])).length) Slot.unset).toArray = ls at hl ⊢
  have hl : lv_has ls 10 [(0, .ref (ad 39)), (1, .int a1), (2, .int 1), (3, .int a3), (4, .int a4)] := hl
  generalize hloc : ([] : List Loc) = locs at hw ⊢
  have J15 : ∀ (H : Heap) (locs : List Loc) (ls : Array Slot) (w1 : va_W), 0 ≤ a1.toInt → a1.toInt ≤ 11 → 0 ≤ a3.toInt → a3.toInt ≤ 99999 → (-10) ≤ a4.toInt → a4.toInt ≤ 102119 → Wd dC dI A s.heap H locs w1 → TW ksC ad cy B qr s1 w1 → FE ksC ([] : List (Nat × Nat × Nat)) w0 w1 → lv_has ls 10 [(0, .ref (ad 39)), (1, .int a1), (2, .int 1), (3, .int a3), (4, .int a4)] → W p l e ({ frames := 2, cells := 0, slots := 0, locals := 39 }) s m (List.toArray [.ref (ad 39), .int a1, .int 1, .int a3, .int a4]) below meth c H locs 0 0 (MQ below (va_Qi (P_X7_lastOpen_1 ad cy B qr s1 a1 a3 a4 w0) (fun u : va_W => wpost dC dI cy A u) A) (List.toArray [.ref (ad 39), .int a1, .int 1, .int a3, .int a4]) s 0 0 A) (F0 m 15 ls []) := by
    intro H locs ls w1 r2 t3 r4 t5 r6 t7 hw hT hF hl
    refine lv_iconst (v := (-1)) hx hb dX7_lastOpen_15 (by decide) ?_
    exact tk_iret hC hr hlocks hK ⟨hT, hF, (Or.inr rfl)⟩ hw dX7_lastOpen_16
  have L35 : ∀ (n35 : Nat) (v35_5 : Int32) (v35_6 : Int32) (H : Heap) (locs : List Loc) (ls : Array Slot) (w8 : va_W), 0 ≤ a1.toInt → a1.toInt ≤ 11 → 0 ≤ a3.toInt → a3.toInt ≤ 99999 → 0 ≤ a4.toInt → a4.toInt ≤ 102119 → (-1) ≤ v35_6.toInt → v35_6.toInt ≤ 4254 → (v35_6.toInt - (-1)).toNat < n35 → Wd dC dI A s.heap H locs w8 → TW ksC ad cy B qr s1 w8 → FE ksC ([] : List (Nat × Nat × Nat)) w0 w8 → lv_has ls 10 [(0, .ref (ad 39)), (1, .int a1), (2, .int 1), (3, .int a3), (4, .int a4), (5, .int v35_5), (6, .int v35_6)] → W p l e ({ frames := 2, cells := 0, slots := 0, locals := 39 }) s m (List.toArray [.ref (ad 39), .int a1, .int 1, .int a3, .int a4]) below meth c H locs 0 0 (MQ below (va_Qi (P_X7_lastOpen_1 ad cy B qr s1 a1 a3 a4 w0) (fun u : va_W => wpost dC dI cy A u) A) (List.toArray [.ref (ad 39), .int a1, .int 1, .int a3, .int a4]) s 0 0 A) (F0 m 35 ls []) := by
    intro n35
    induction n35 with
    | zero => intro v35_5 v35_6 H locs ls w8 r9 t10 r11 t12 r13 t14 r15 t16 hm35 hw hT hF hl; omega
    | succ n35 ih35 =>
      intro v35_5 v35_6 H locs ls w8 r9 t10 r11 t12 r13 t14 r15 t16 hm35 hw hT hF hl
      have J115 : ∀ (v115_7 : Int32) (v115_8 : Int32) (H : Heap) (locs : List Loc) (ls : Array Slot) (w17 : va_W), 0 ≤ a1.toInt → a1.toInt ≤ 11 → 0 ≤ a3.toInt → a3.toInt ≤ 99999 → 0 ≤ a4.toInt → a4.toInt ≤ 102119 → 0 ≤ v35_6.toInt → v35_6.toInt ≤ 4254 → 0 ≤ v115_7.toInt → v115_7.toInt ≤ 16777215 → (-1) ≤ v115_8.toInt → v115_8.toInt ≤ 23 → Wd dC dI A s.heap H locs w17 → TW ksC ad cy B qr s1 w17 → FE ksC ([] : List (Nat × Nat × Nat)) w0 w17 → lv_has ls 10 [(0, .ref (ad 39)), (1, .int a1), (2, .int 1), (3, .int a3), (4, .int a4), (5, .int (-1)), (6, .int v35_6), (7, .int v115_7), (8, .int v115_8)] → W p l e ({ frames := 2, cells := 0, slots := 0, locals := 39 }) s m (List.toArray [.ref (ad 39), .int a1, .int 1, .int a3, .int a4]) below meth c H locs 0 0 (MQ below (va_Qi (P_X7_lastOpen_1 ad cy B qr s1 a1 a3 a4 w0) (fun u : va_W => wpost dC dI cy A u) A) (List.toArray [.ref (ad 39), .int a1, .int 1, .int a3, .int a4]) s 0 0 A) (F0 m 115 ls []) := by
        intro v115_7 v115_8 H locs ls w17 r18 t19 r20 t21 r22 t23 r24 t25 r26 t27 r28 t29 hw hT hF hl
        obtain ⟨x30, ex30⟩ : ∃ y : Int32, y = v35_6 + Int32.ofInt (-1) := ⟨_, rfl⟩
        refine lv_iinc (v := x30) (lv' := [(6, .int x30), (0, .ref (ad 39)), (1, .int a1), (2, .int 1), (3, .int a3), (4, .int a4), (5, .int (-1)), (7, .int v115_7), (8, .int v115_8)]) hx hb dX7_lastOpen_115 hl (k := 6) rfl ex30.symm (by decide) rfl (fun ls hl => ?_)
        have ex30 : x30.toInt = v35_6.toInt + (-1) := by rw [ex30]; exact wk_add (y := (-1)) (show -2147483648 ≤ v35_6.toInt + (-1) by omega) (show v35_6.toInt + (-1) ≤ 2147483647 by omega)
        refine lv_goto (tgt := 35) hx hb dX7_lastOpen_118 (by decide) ?_
        exact ih35 (-1) x30 H locs ls w17 (show 0 ≤ a1.toInt by omega) (show a1.toInt ≤ 11 by omega) (show 0 ≤ a3.toInt by omega) (show a3.toInt ≤ 99999 by omega) (show 0 ≤ a4.toInt by omega) (show a4.toInt ≤ 102119 by omega) (show (-1) ≤ x30.toInt by omega) (show x30.toInt ≤ 4254 by omega) (show (x30.toInt - (-1)).toNat < n35 by omega) hw hT hF  (lv_sub hl [1, 2, 3, 4, 5, 6, 0] rfl)
      have L66 : ∀ (n66 : Nat) (v66_7 : Int32) (v66_8 : Int32) (H : Heap) (locs : List Loc) (ls : Array Slot) (w31 : va_W), 0 ≤ a1.toInt → a1.toInt ≤ 11 → 0 ≤ a3.toInt → a3.toInt ≤ 99999 → 0 ≤ a4.toInt → a4.toInt ≤ 102119 → 0 ≤ v35_6.toInt → v35_6.toInt ≤ 4254 → 0 ≤ v66_7.toInt → v66_7.toInt ≤ 16777215 → (-1) ≤ v66_8.toInt → v66_8.toInt ≤ 23 → (v66_8.toInt - (-1)).toNat < n66 → Wd dC dI A s.heap H locs w31 → TW ksC ad cy B qr s1 w31 → FE ksC ([] : List (Nat × Nat × Nat)) w0 w31 → lv_has ls 10 [(0, .ref (ad 39)), (1, .int a1), (2, .int 1), (3, .int a3), (4, .int a4), (5, .int (-1)), (6, .int v35_6), (7, .int v66_7), (8, .int v66_8)] → W p l e ({ frames := 2, cells := 0, slots := 0, locals := 39 }) s m (List.toArray [.ref (ad 39), .int a1, .int 1, .int a3, .int a4]) below meth c H locs 0 0 (MQ below (va_Qi (P_X7_lastOpen_1 ad cy B qr s1 a1 a3 a4 w0) (fun u : va_W => wpost dC dI cy A u) A) (List.toArray [.ref (ad 39), .int a1, .int 1, .int a3, .int a4]) s 0 0 A) (F0 m 66 ls []) := by
        intro n66
        induction n66 with
        | zero => intro v66_7 v66_8 H locs ls w31 r32 t33 r34 t35 r36 t37 r38 t39 r40 t41 r42 t43 hm66 hw hT hF hl; omega
        | succ n66 ih66 =>
          intro v66_7 v66_8 H locs ls w31 r32 t33 r34 t35 r36 t37 r38 t39 r40 t41 r42 t43 hm66 hw hT hF hl
          refine lv_iload hx hb dX7_lastOpen_66 (lv_at hl 7 rfl) ?_
          refine lv_if_eq (tgt := 115) hx hb dX7_lastOpen_68 (by decide) (fun c44 => ?_) (fun c44 => ?_)
          · have c44 : v66_7.toInt = (0 : Int) := wk_eq.mp c44
            exact J115 v66_7 v66_8 H locs ls w31 (show 0 ≤ a1.toInt by omega) (show a1.toInt ≤ 11 by omega) (show 0 ≤ a3.toInt by omega) (show a3.toInt ≤ 99999 by omega) (show 0 ≤ a4.toInt by omega) (show a4.toInt ≤ 102119 by omega) (show 0 ≤ v35_6.toInt by omega) (show v35_6.toInt ≤ 4254 by omega) (show 0 ≤ v66_7.toInt by omega) (show v66_7.toInt ≤ 16777215 by omega) (show (-1) ≤ v66_8.toInt by omega) (show v66_8.toInt ≤ 23 by omega)  hw hT hF  (lv_sub hl [0, 1, 2, 3, 4, 5, 6, 7, 8] rfl)
          · have c44 : ¬ v66_7.toInt = (0 : Int) := wk_eqF c44
            refine lv_iload hx hb dX7_lastOpen_71 (lv_at hl 8 rfl) ?_
            refine lv_if_lt (tgt := 115) hx hb dX7_lastOpen_73 (by decide) (fun c45 => ?_) (fun c45 => ?_)
            · have c45 : v66_8.toInt < (0 : Int) := wk_lt.mp c45
              exact J115 v66_7 v66_8 H locs ls w31 (show 0 ≤ a1.toInt by omega) (show a1.toInt ≤ 11 by omega) (show 0 ≤ a3.toInt by omega) (show a3.toInt ≤ 99999 by omega) (show 0 ≤ a4.toInt by omega) (show a4.toInt ≤ 102119 by omega) (show 0 ≤ v35_6.toInt by omega) (show v35_6.toInt ≤ 4254 by omega) (show 0 ≤ v66_7.toInt by omega) (show v66_7.toInt ≤ 16777215 by omega) (show (-1) ≤ v66_8.toInt by omega) (show v66_8.toInt ≤ 23 by omega)  hw hT hF  (lv_sub hl [0, 1, 2, 3, 4, 5, 6, 7, 8] rfl)
            · have c45 : (0 : Int) ≤ v66_8.toInt := wk_ltF c45
              refine lv_iload hx hb dX7_lastOpen_76 (lv_at hl 7 rfl) ?_
              refine lv_iload hx hb dX7_lastOpen_78 (lv_at hl 8 rfl) ?_
              refine lv_ishr hx hb dX7_lastOpen_80 ?_
              refine lv_topi (fun x46 ex46 => ?_)
              have bx46 : 0 ≤ x46.toInt ∧ x46.toInt ≤ v66_7.toInt := by rw [ex46]; exact wk_shr (by omega)
              refine lv_iconst (v := 1) hx hb dX7_lastOpen_81 (by decide) ?_
              refine lv_iand hx hb dX7_lastOpen_82 ?_
              refine lv_topi (fun x47 ex47 => ?_)
              have bx47 : 0 ≤ x47.toInt ∧ x47.toInt ≤ (1 : Int) := by rw [ex47]; exact wk_and (by decide)
              refine lv_if_eq (tgt := 109) hx hb dX7_lastOpen_83 (by decide) (fun c48 => ?_) (fun c48 => ?_)
              · have c48 : x47.toInt = (0 : Int) := wk_eq.mp c48
                obtain ⟨x49, ex49⟩ : ∃ y : Int32, y = v66_8 + Int32.ofInt (-1) := ⟨_, rfl⟩
                refine lv_iinc (v := x49) (lv' := [(8, .int x49), (0, .ref (ad 39)), (1, .int a1), (2, .int 1), (3, .int a3), (4, .int a4), (5, .int (-1)), (6, .int v35_6), (7, .int v66_7)]) hx hb dX7_lastOpen_109 hl (k := 8) rfl ex49.symm (by decide) rfl (fun ls hl => ?_)
                have ex49 : x49.toInt = v66_8.toInt + (-1) := by rw [ex49]; exact wk_add (y := (-1)) (show -2147483648 ≤ v66_8.toInt + (-1) by omega) (show v66_8.toInt + (-1) ≤ 2147483647 by omega)
                refine lv_goto (tgt := 66) hx hb dX7_lastOpen_112 (by decide) ?_
                exact ih66 v66_7 x49 H locs ls w31 (show 0 ≤ a1.toInt by omega) (show a1.toInt ≤ 11 by omega) (show 0 ≤ a3.toInt by omega) (show a3.toInt ≤ 99999 by omega) (show 0 ≤ a4.toInt by omega) (show a4.toInt ≤ 102119 by omega) (show 0 ≤ v35_6.toInt by omega) (show v35_6.toInt ≤ 4254 by omega) (show 0 ≤ v66_7.toInt by omega) (show v66_7.toInt ≤ 16777215 by omega) (show (-1) ≤ x49.toInt by omega) (show x49.toInt ≤ 23 by omega) (show (x49.toInt - (-1)).toNat < n66 by omega) hw hT hF  (lv_sub hl [1, 2, 3, 4, 5, 6, 7, 8, 0] rfl)
              · have c48 : ¬ x47.toInt = (0 : Int) := wk_eqF c48
                refine lv_iload hx hb dX7_lastOpen_86 (lv_at hl 6 rfl) ?_
                refine lv_bipush (v := 24) hx hb dX7_lastOpen_88 (by decide) ?_
                refine lv_imul hx hb dX7_lastOpen_90 ?_
                refine lv_topi (fun x50 ex50 => ?_)
                have ex50 : x50.toInt = v35_6.toInt * (24 : Int) := by rw [ex50]; exact wk_mul (show (-2147483648) ≤ v35_6.toInt * (24 : Int) by omega) (show v35_6.toInt * (24 : Int) ≤ 2147483647 by omega)
                refine lv_iload hx hb dX7_lastOpen_91 (lv_at hl 8 rfl) ?_
                refine lv_iadd hx hb dX7_lastOpen_93 ?_
                refine lv_topi (fun x51 ex51 => ?_)
                have ex51 : x51.toInt = x50.toInt + v66_8.toInt := by rw [ex51]; exact wk_add (show (-2147483648) ≤ x50.toInt + v66_8.toInt by omega) (show x50.toInt + v66_8.toInt ≤ 2147483647 by omega)
                refine lv_istore (lv' := [(9, .int x51), (0, .ref (ad 39)), (1, .int a1), (2, .int 1), (3, .int a3), (4, .int a4), (5, .int (-1)), (6, .int v35_6), (7, .int v66_7), (8, .int v66_8)]) hx hb dX7_lastOpen_94 hl (by decide) rfl (fun ls hl => ?_)
                refine lv_iload hx hb dX7_lastOpen_96 (lv_at hl 0 rfl) ?_
                refine lv_iload_n hx hb dX7_lastOpen_98 rfl (lv_at hl 4 rfl) ?_
                refine lv_icmp_lt (tgt := 107) hx hb dX7_lastOpen_99 (by decide) (fun c52 => ?_) (fun c52 => ?_)
                · have c52 : x51.toInt < a3.toInt := wk_lt.mp c52
                  refine lv_iconst (v := (-1)) hx hb dX7_lastOpen_107 (by decide) ?_
                  exact tk_iret hC hr hlocks hK ⟨hT, hF, (Or.inr rfl)⟩ hw dX7_lastOpen_108
                · have c52 : a3.toInt ≤ x51.toInt := wk_ltF c52
                  refine lv_iload hx hb dX7_lastOpen_102 (lv_at hl 0 rfl) ?_
                  refine lv_goto (tgt := 108) hx hb dX7_lastOpen_104 (by decide) ?_
                  exact tk_iret hC hr hlocks hK ⟨hT, hF, (Or.inl ⟨(show 0 ≤ x51.toInt by omega), (show x51.toInt ≤ 102119 by omega), (show 0 ≤ a4.toInt by omega)⟩)⟩ hw dX7_lastOpen_108
      refine lv_iload hx hb dX7_lastOpen_35 (lv_at hl 6 rfl) ?_
      refine lv_iload_n hx hb dX7_lastOpen_37 rfl (lv_at hl 3 rfl) ?_
      refine lv_bipush (v := 24) hx hb dX7_lastOpen_38 (by decide) ?_
      refine lv_idiv hx hb dX7_lastOpen_40 (by decide) ?_
      refine lv_topi (fun x53 ex53 => ?_)
      have ex53 : x53.toInt = a3.toInt / (24 : Int) := by rw [ex53]; exact wk_div (show 0 ≤ a3.toInt by omega) (show 0 < (24 : Int) by decide)
      refine lv_icmp_lt (tgt := 121) hx hb dX7_lastOpen_41 (by decide) (fun c54 => ?_) (fun c54 => ?_)
      · have c54 : v35_6.toInt < x53.toInt := wk_lt.mp c54
        refine lv_iconst (v := (-1)) hx hb dX7_lastOpen_121 (by decide) ?_
        exact tk_iret hC hr hlocks hK ⟨hT, hF, (Or.inr rfl)⟩ hw dX7_lastOpen_122
      · have c54 : x53.toInt ≤ v35_6.toInt := wk_ltF c54
        refine lv_aload_n hx hb dX7_lastOpen_44 rfl (lv_at hl 0 rfl) ?_
        refine lv_iload_n hx hb dX7_lastOpen_45 rfl (lv_at hl 1 rfl) ?_
        refine lv_iload_n hx hb dX7_lastOpen_46 rfl (lv_at hl 2 rfl) ?_
        refine lv_iload hx hb dX7_lastOpen_47 (lv_at hl 6 rfl) ?_
        refine lv_i2l hx hb dX7_lastOpen_49 rfl ?_
        refine lv_topl (fun x55 ex55 => ?_)
        have ex55 : x55.toInt = v35_6.toInt := by rw [ex55]; exact wk_i2l _
        have bx55 := wk_i32 v35_6
        refine lv_iconst (v := 1) hx hb dX7_lastOpen_50 (by decide) ?_
        refine tk_Vi hC hK hw hT hA hE hSR kC_at39 (by decide) rfl (k_X7_openHours_12 l adK adV dC dI cy ad B (by omega) (by omega) qr s1   a1 (show 0 ≤ a1.toInt by omega) (show a1.toInt ≤ 11 by omega) x55 (show 0 ≤ x55.toInt by omega) (show x55.toInt ≤ 4254 by omega) w8 H.size hT ) (cwV 4 hC.2.2.2.2 gX7_lastOpen_X7_openHours rfl rfl rfl (by decide +kernel) ⟨Nat.le_of_ble_eq_true rfl, Nat.le_of_ble_eq_true rfl⟩) rfl hl.1 rfl (Nat.le_of_ble_eq_true rfl) dX7_lastOpen_51 (fun r56 w58 H locs hp57 hw => ?_)
        obtain ⟨hT, k59, hg62⟩ := hp57
        have hF := hF.tr k59 (by decide)
        obtain ⟨g60, g61⟩ := hg62
        refine lv_iload hx hb dX7_lastOpen_54 (lv_at hl 5 rfl) ?_
        refine lv_iand hx hb dX7_lastOpen_56 ?_
        refine lv_topi (fun x63 ex63 => ?_)
        have bx63 : 0 ≤ x63.toInt ∧ x63.toInt ≤ r56.toInt := by rw [ex63]; exact wk_andC (by omega)
        refine lv_istore (lv' := [(7, .int x63), (0, .ref (ad 39)), (1, .int a1), (2, .int 1), (3, .int a3), (4, .int a4), (5, .int v35_5), (6, .int v35_6)]) hx hb dX7_lastOpen_57 hl (by decide) rfl (fun ls hl => ?_)
        refine lv_iconst (v := (-1)) hx hb dX7_lastOpen_59 (by decide) ?_
        refine lv_istore (lv' := [(5, .int (-1)), (7, .int x63), (0, .ref (ad 39)), (1, .int a1), (2, .int 1), (3, .int a3), (4, .int a4), (6, .int v35_6)]) hx hb dX7_lastOpen_60 hl (by decide) rfl (fun ls hl => ?_)
        refine lv_bipush (v := 23) hx hb dX7_lastOpen_62 (by decide) ?_
        refine lv_istore (lv' := [(8, .int 23), (5, .int (-1)), (7, .int x63), (0, .ref (ad 39)), (1, .int a1), (2, .int 1), (3, .int a3), (4, .int a4), (6, .int v35_6)]) hx hb dX7_lastOpen_64 hl (by decide) rfl (fun ls hl => ?_)
        exact L66 (((23 : Int) - (-1)).toNat + 1) x63 23 H locs ls w58 (show 0 ≤ a1.toInt by omega) (show a1.toInt ≤ 11 by omega) (show 0 ≤ a3.toInt by omega) (show a3.toInt ≤ 99999 by omega) (show 0 ≤ a4.toInt by omega) (show a4.toInt ≤ 102119 by omega) (show 0 ≤ v35_6.toInt by omega) (show v35_6.toInt ≤ 4254 by omega) (show 0 ≤ x63.toInt by omega) (show x63.toInt ≤ 16777215 by omega) (by decide) (by decide) (Nat.lt_succ_self _) hw hT hF  (lv_sub hl [3, 4, 5, 6, 7, 1, 8, 2, 0] rfl)
  refine lv_iload hx hb dX7_lastOpen_0 (lv_at hl 4 rfl) ?_
  refine lv_iload_n hx hb dX7_lastOpen_2 rfl (lv_at hl 3 rfl) ?_
  refine lv_icmp_lt (tgt := 15) hx hb dX7_lastOpen_3 (by decide) (fun c64 => ?_) (fun c64 => ?_)
  · have c64 : a4.toInt < a3.toInt := wk_lt.mp c64
    exact J15  s.heap locs ls w0 (show 0 ≤ a1.toInt by omega) (show a1.toInt ≤ 11 by omega) (show 0 ≤ a3.toInt by omega) (show a3.toInt ≤ 99999 by omega) (show (-10) ≤ a4.toInt by omega) (show a4.toInt ≤ 102119 by omega)  hw hT hF  (lv_sub hl [0, 1, 2, 3, 4] rfl)
  · have c64 : a3.toInt ≤ a4.toInt := wk_ltF c64
    refine lv_aload_n hx hb dX7_lastOpen_6 rfl (lv_at hl 0 rfl) ?_
    refine lv_iload_n hx hb dX7_lastOpen_7 rfl (lv_at hl 1 rfl) ?_
    refine lv_iload_n hx hb dX7_lastOpen_8 rfl (lv_at hl 2 rfl) ?_
    refine tk_Vi hC hK hw hT hA hE hSR kC_at39 (by decide) rfl (k_X7_isNeverOpen_2 l adK adV dC dI cy ad B (by omega) (by omega) qr s1   a1 (show 0 ≤ a1.toInt by omega) (show a1.toInt ≤ 11 by omega) w0 s.heap.size hT ) (cwV 2 hC.2.2.2.2 gX7_lastOpen_X7_isNeverOpen rfl rfl rfl (by decide +kernel) ⟨Nat.le_of_ble_eq_true rfl, Nat.le_of_ble_eq_true rfl⟩) rfl hl.1 rfl (Nat.le_of_ble_eq_true rfl) dX7_lastOpen_9 (fun r65 w67 H locs hp66 hw => ?_)
    obtain ⟨hT, k68, hg69⟩ := hp66
    have hF := hF.tr k68 (by decide)
    rcases hg69 with rfl | rfl
    · refine lv_if_eq (tgt := 17) hx hb dX7_lastOpen_12 (by decide) (fun _ => ?_) (fun c => absurd (by decide) c)
      refine lv_iconst (v := 2) hx hb dX7_lastOpen_17 (by decide) ?_
      refine lv_iload hx hb dX7_lastOpen_18 (lv_at hl 4 rfl) ?_
      refine lv_bipush (v := 24) hx hb dX7_lastOpen_20 (by decide) ?_
      refine lv_irem hx hb dX7_lastOpen_22 (by decide) ?_
      refine lv_topi (fun x70 ex70 => ?_)
      have ex70 : x70.toInt = a4.toInt % (24 : Int) := by rw [ex70]; exact wk_rem (show 0 ≤ a4.toInt by omega) (show 0 < (24 : Int) by decide)
      refine lv_ishl hx hb dX7_lastOpen_23 ?_
      refine lv_topi (fun x71 ex71 => ?_)
      refine lv_iconst (v := 1) hx hb dX7_lastOpen_24 (by decide) ?_
      refine lv_isub hx hb dX7_lastOpen_25 ?_
      have nx72 := wk_i32 x71
      refine lv_topi (fun x73 ex73 => ?_)
      refine lv_istore (lv' := [(5, .int x73), (0, .ref (ad 39)), (1, .int a1), (2, .int 1), (3, .int a3), (4, .int a4)]) hx hb dX7_lastOpen_26 hl (by decide) rfl (fun ls hl => ?_)
      refine lv_iload hx hb dX7_lastOpen_28 (lv_at hl 5 rfl) ?_
      refine lv_bipush (v := 24) hx hb dX7_lastOpen_30 (by decide) ?_
      refine lv_idiv hx hb dX7_lastOpen_32 (by decide) ?_
      refine lv_topi (fun x74 ex74 => ?_)
      have ex74 : x74.toInt = a4.toInt / (24 : Int) := by rw [ex74]; exact wk_div (show 0 ≤ a4.toInt by omega) (show 0 < (24 : Int) by decide)
      refine lv_istore (lv' := [(6, .int x74), (5, .int x73), (0, .ref (ad 39)), (1, .int a1), (2, .int 1), (3, .int a3), (4, .int a4)]) hx hb dX7_lastOpen_33 hl (by decide) rfl (fun ls hl => ?_)
      exact L35 ((x74.toInt - (-1)).toNat + 1) x73 x74 H locs ls w67 (show 0 ≤ a1.toInt by omega) (show a1.toInt ≤ 11 by omega) (show 0 ≤ a3.toInt by omega) (show a3.toInt ≤ 99999 by omega) (show 0 ≤ a4.toInt by omega) (show a4.toInt ≤ 102119 by omega) (show (-1) ≤ x74.toInt by omega) (show x74.toInt ≤ 4254 by omega) (Nat.lt_succ_self _) hw hT hF  (lv_sub hl [2, 3, 4, 5, 6, 1, 0] rfl)
    · refine lv_if_eq (tgt := 17) hx hb dX7_lastOpen_12 (by decide) (fun c => absurd c (by decide)) (fun _ => ?_)
      exact J15  H locs ls w67 (show 0 ≤ a1.toInt by omega) (show a1.toInt ≤ 11 by omega) (show 0 ≤ a3.toInt by omega) (show a3.toInt ≤ 99999 by omega) (show (-10) ≤ a4.toInt by omega) (show a4.toInt ≤ 102119 by omega)  hw hT hF  (lv_sub hl [0, 1, 2, 3, 4] rfl)
abbrev P_X7_lastOpen_2 (ad : Nat → Nat) (cy : Nat → ClassId) (B : Int) (qr : Nat) (s1 : Int) (a1 : Int32) (a3 : Int32) (a4 : Int32) (w0 : va_W) : Int32 → va_W → Prop := fun r u => TW ksC ad cy B qr s1 u ∧ FE ksC ([] : List (Nat × Nat × Nat)) w0 u ∧ ((0 ≤ r.toInt ∧ r.toInt ≤ 102119 ∧ 0 ≤ a4.toInt) ∨ (r = (-1)))
set_option maxHeartbeats 4000000 in
set_option maxRecDepth 100000 in
theorem k_X7_lastOpen_2 (l : Launch) (adK adV : Nat → Nat) (dC : Nat → ClassId) (dI : Nat → Nat → Nat) (cy : Nat → ClassId) (ad : Nat → Nat) (B : Int) (hB0 : 2147483648 ≤ B) (hB1 : B ≤ 1152921504606846976) (qr : Nat) (s1 : Int)  (a1 : Int32) (ra1 : 0 ≤ a1.toInt) (ta1 : a1.toInt ≤ 11) (a3 : Int32) (ra3 : 0 ≤ a3.toInt) (ta3 : a3.toInt ≤ 99999) (a4 : Int32) (ra4 : (-10) ≤ a4.toInt) (ta4 : a4.toInt ≤ 102119) (w0 : va_W) (sz : Nat) (hT : TW ksC ad cy B qr s1 w0)  : Met l yX7_lastOpen wsX7_lastOpen ({ frames := 2, cells := 0, slots := 0, locals := 39 }) (va_Pc [.ref (ad 39), .int a1, .int 0, .int a3, .int a4] (wpreS adK adV dC dI cy sz w0)) (va_Qi (P_X7_lastOpen_2 ad cy B qr s1 a1 a3 a4 w0) (fun u : va_W => wpost dC dI cy (va_A w0 sz) u) (va_A w0 sz)) 0 0 (va_A w0 sz) := by
  refine Met.ofW (cc := cX7_lastOpen) (maxL := 10) (ret := (some .int)) (by decide) rfl ?_
  intro p e s m args below meth c s₁ Bk hml hv
  obtain ⟨rfl, ⟨hsz, hP, hK, hD0⟩, hE, hSR⟩ := hv
  have hx := Bk.exec
  have hb := Bk.bytes
  have hr := Bk.returns
  have hlocks := Bk.notSynchronized
  have hC : CallFix p m c cX7_lastOpen 10 s _ wsX7_lastOpen RX7 := ⟨hx, hb, hml, findClass_of_methodNamed Bk.named, atoms_spec (ws := wsX7_lastOpen) Bk.pre⟩
  subst hsz
  have hD := hD0.self (sz := s.heap.size)
  generalize hAe : va_A w0 s.heap.size = A at hD hE ⊢
  have hA : ∀ q : Nat, s.heap.size ≤ q → A q := fun q h => by rw [← hAe]; exact Or.inr h
  have hw : Wd dC dI A s.heap s.heap [] w0 := ⟨hP, hD, va_S.rf⟩
  have hF : FE ksC ([] : List (Nat × Nat × Nat)) w0 w0 := FE.rf
  have hl := lv_entry ([.ref (ad 39), .int a1, .int 0, .int a3, .int a4]) (n := 10) (Nat.le_of_ble_eq_true rfl)
  rw [lg_entry_eq]
  generalize (lg_sl ([.ref (ad 39), .int a1, .int 0, .int a3, .int a4]) ++ List.replicate (10 - (lg_sl ([.ref (ad 39), .int a1, .int 0, .int a3, .int a4])).length) Slot.unset).toArray = ls at hl ⊢
  have hl : lv_has ls 10 [(0, .ref (ad 39)), (1, .int a1), (2, .int 0), (3, .int a3), (4, .int a4)] := hl
  generalize hloc : ([] : List Loc) = locs at hw ⊢
  have J15 : ∀ (H : Heap) (locs : List Loc) (ls : Array Slot) (w1 : va_W), 0 ≤ a1.toInt → a1.toInt ≤ 11 → 0 ≤ a3.toInt → a3.toInt ≤ 99999 → (-10) ≤ a4.toInt → a4.toInt ≤ 102119 → Wd dC dI A s.heap H locs w1 → TW ksC ad cy B qr s1 w1 → FE ksC ([] : List (Nat × Nat × Nat)) w0 w1 → lv_has ls 10 [(0, .ref (ad 39)), (1, .int a1), (2, .int 0), (3, .int a3), (4, .int a4)] → W p l e ({ frames := 2, cells := 0, slots := 0, locals := 39 }) s m (List.toArray [.ref (ad 39), .int a1, .int 0, .int a3, .int a4]) below meth c H locs 0 0 (MQ below (va_Qi (P_X7_lastOpen_2 ad cy B qr s1 a1 a3 a4 w0) (fun u : va_W => wpost dC dI cy A u) A) (List.toArray [.ref (ad 39), .int a1, .int 0, .int a3, .int a4]) s 0 0 A) (F0 m 15 ls []) := by
    intro H locs ls w1 r2 t3 r4 t5 r6 t7 hw hT hF hl
    refine lv_iconst (v := (-1)) hx hb dX7_lastOpen_15 (by decide) ?_
    exact tk_iret hC hr hlocks hK ⟨hT, hF, (Or.inr rfl)⟩ hw dX7_lastOpen_16
  have L35 : ∀ (n35 : Nat) (v35_5 : Int32) (v35_6 : Int32) (H : Heap) (locs : List Loc) (ls : Array Slot) (w8 : va_W), 0 ≤ a1.toInt → a1.toInt ≤ 11 → 0 ≤ a3.toInt → a3.toInt ≤ 99999 → 0 ≤ a4.toInt → a4.toInt ≤ 102119 → (-1) ≤ v35_6.toInt → v35_6.toInt ≤ 4254 → (v35_6.toInt - (-1)).toNat < n35 → Wd dC dI A s.heap H locs w8 → TW ksC ad cy B qr s1 w8 → FE ksC ([] : List (Nat × Nat × Nat)) w0 w8 → lv_has ls 10 [(0, .ref (ad 39)), (1, .int a1), (2, .int 0), (3, .int a3), (4, .int a4), (5, .int v35_5), (6, .int v35_6)] → W p l e ({ frames := 2, cells := 0, slots := 0, locals := 39 }) s m (List.toArray [.ref (ad 39), .int a1, .int 0, .int a3, .int a4]) below meth c H locs 0 0 (MQ below (va_Qi (P_X7_lastOpen_2 ad cy B qr s1 a1 a3 a4 w0) (fun u : va_W => wpost dC dI cy A u) A) (List.toArray [.ref (ad 39), .int a1, .int 0, .int a3, .int a4]) s 0 0 A) (F0 m 35 ls []) := by
    intro n35
    induction n35 with
    | zero => intro v35_5 v35_6 H locs ls w8 r9 t10 r11 t12 r13 t14 r15 t16 hm35 hw hT hF hl; omega
    | succ n35 ih35 =>
      intro v35_5 v35_6 H locs ls w8 r9 t10 r11 t12 r13 t14 r15 t16 hm35 hw hT hF hl
      have J115 : ∀ (v115_7 : Int32) (v115_8 : Int32) (H : Heap) (locs : List Loc) (ls : Array Slot) (w17 : va_W), 0 ≤ a1.toInt → a1.toInt ≤ 11 → 0 ≤ a3.toInt → a3.toInt ≤ 99999 → 0 ≤ a4.toInt → a4.toInt ≤ 102119 → 0 ≤ v35_6.toInt → v35_6.toInt ≤ 4254 → 0 ≤ v115_7.toInt → v115_7.toInt ≤ 16777215 → (-1) ≤ v115_8.toInt → v115_8.toInt ≤ 23 → Wd dC dI A s.heap H locs w17 → TW ksC ad cy B qr s1 w17 → FE ksC ([] : List (Nat × Nat × Nat)) w0 w17 → lv_has ls 10 [(0, .ref (ad 39)), (1, .int a1), (2, .int 0), (3, .int a3), (4, .int a4), (5, .int (-1)), (6, .int v35_6), (7, .int v115_7), (8, .int v115_8)] → W p l e ({ frames := 2, cells := 0, slots := 0, locals := 39 }) s m (List.toArray [.ref (ad 39), .int a1, .int 0, .int a3, .int a4]) below meth c H locs 0 0 (MQ below (va_Qi (P_X7_lastOpen_2 ad cy B qr s1 a1 a3 a4 w0) (fun u : va_W => wpost dC dI cy A u) A) (List.toArray [.ref (ad 39), .int a1, .int 0, .int a3, .int a4]) s 0 0 A) (F0 m 115 ls []) := by
        intro v115_7 v115_8 H locs ls w17 r18 t19 r20 t21 r22 t23 r24 t25 r26 t27 r28 t29 hw hT hF hl
        obtain ⟨x30, ex30⟩ : ∃ y : Int32, y = v35_6 + Int32.ofInt (-1) := ⟨_, rfl⟩
        refine lv_iinc (v := x30) (lv' := [(6, .int x30), (0, .ref (ad 39)), (1, .int a1), (2, .int 0), (3, .int a3), (4, .int a4), (5, .int (-1)), (7, .int v115_7), (8, .int v115_8)]) hx hb dX7_lastOpen_115 hl (k := 6) rfl ex30.symm (by decide) rfl (fun ls hl => ?_)
        have ex30 : x30.toInt = v35_6.toInt + (-1) := by rw [ex30]; exact wk_add (y := (-1)) (show -2147483648 ≤ v35_6.toInt + (-1) by omega) (show v35_6.toInt + (-1) ≤ 2147483647 by omega)
        refine lv_goto (tgt := 35) hx hb dX7_lastOpen_118 (by decide) ?_
        exact ih35 (-1) x30 H locs ls w17 (show 0 ≤ a1.toInt by omega) (show a1.toInt ≤ 11 by omega) (show 0 ≤ a3.toInt by omega) (show a3.toInt ≤ 99999 by omega) (show 0 ≤ a4.toInt by omega) (show a4.toInt ≤ 102119 by omega) (show (-1) ≤ x30.toInt by omega) (show x30.toInt ≤ 4254 by omega) (show (x30.toInt - (-1)).toNat < n35 by omega) hw hT hF  (lv_sub hl [1, 2, 3, 4, 5, 6, 0] rfl)
      have L66 : ∀ (n66 : Nat) (v66_7 : Int32) (v66_8 : Int32) (H : Heap) (locs : List Loc) (ls : Array Slot) (w31 : va_W), 0 ≤ a1.toInt → a1.toInt ≤ 11 → 0 ≤ a3.toInt → a3.toInt ≤ 99999 → 0 ≤ a4.toInt → a4.toInt ≤ 102119 → 0 ≤ v35_6.toInt → v35_6.toInt ≤ 4254 → 0 ≤ v66_7.toInt → v66_7.toInt ≤ 16777215 → (-1) ≤ v66_8.toInt → v66_8.toInt ≤ 23 → (v66_8.toInt - (-1)).toNat < n66 → Wd dC dI A s.heap H locs w31 → TW ksC ad cy B qr s1 w31 → FE ksC ([] : List (Nat × Nat × Nat)) w0 w31 → lv_has ls 10 [(0, .ref (ad 39)), (1, .int a1), (2, .int 0), (3, .int a3), (4, .int a4), (5, .int (-1)), (6, .int v35_6), (7, .int v66_7), (8, .int v66_8)] → W p l e ({ frames := 2, cells := 0, slots := 0, locals := 39 }) s m (List.toArray [.ref (ad 39), .int a1, .int 0, .int a3, .int a4]) below meth c H locs 0 0 (MQ below (va_Qi (P_X7_lastOpen_2 ad cy B qr s1 a1 a3 a4 w0) (fun u : va_W => wpost dC dI cy A u) A) (List.toArray [.ref (ad 39), .int a1, .int 0, .int a3, .int a4]) s 0 0 A) (F0 m 66 ls []) := by
        intro n66
        induction n66 with
        | zero => intro v66_7 v66_8 H locs ls w31 r32 t33 r34 t35 r36 t37 r38 t39 r40 t41 r42 t43 hm66 hw hT hF hl; omega
        | succ n66 ih66 =>
          intro v66_7 v66_8 H locs ls w31 r32 t33 r34 t35 r36 t37 r38 t39 r40 t41 r42 t43 hm66 hw hT hF hl
          refine lv_iload hx hb dX7_lastOpen_66 (lv_at hl 7 rfl) ?_
          refine lv_if_eq (tgt := 115) hx hb dX7_lastOpen_68 (by decide) (fun c44 => ?_) (fun c44 => ?_)
          · have c44 : v66_7.toInt = (0 : Int) := wk_eq.mp c44
            exact J115 v66_7 v66_8 H locs ls w31 (show 0 ≤ a1.toInt by omega) (show a1.toInt ≤ 11 by omega) (show 0 ≤ a3.toInt by omega) (show a3.toInt ≤ 99999 by omega) (show 0 ≤ a4.toInt by omega) (show a4.toInt ≤ 102119 by omega) (show 0 ≤ v35_6.toInt by omega) (show v35_6.toInt ≤ 4254 by omega) (show 0 ≤ v66_7.toInt by omega) (show v66_7.toInt ≤ 16777215 by omega) (show (-1) ≤ v66_8.toInt by omega) (show v66_8.toInt ≤ 23 by omega)  hw hT hF  (lv_sub hl [0, 1, 2, 3, 4, 5, 6, 7, 8] rfl)
          · have c44 : ¬ v66_7.toInt = (0 : Int) := wk_eqF c44
            refine lv_iload hx hb dX7_lastOpen_71 (lv_at hl 8 rfl) ?_
            refine lv_if_lt (tgt := 115) hx hb dX7_lastOpen_73 (by decide) (fun c45 => ?_) (fun c45 => ?_)
            · have c45 : v66_8.toInt < (0 : Int) := wk_lt.mp c45
              exact J115 v66_7 v66_8 H locs ls w31 (show 0 ≤ a1.toInt by omega) (show a1.toInt ≤ 11 by omega) (show 0 ≤ a3.toInt by omega) (show a3.toInt ≤ 99999 by omega) (show 0 ≤ a4.toInt by omega) (show a4.toInt ≤ 102119 by omega) (show 0 ≤ v35_6.toInt by omega) (show v35_6.toInt ≤ 4254 by omega) (show 0 ≤ v66_7.toInt by omega) (show v66_7.toInt ≤ 16777215 by omega) (show (-1) ≤ v66_8.toInt by omega) (show v66_8.toInt ≤ 23 by omega)  hw hT hF  (lv_sub hl [0, 1, 2, 3, 4, 5, 6, 7, 8] rfl)
            · have c45 : (0 : Int) ≤ v66_8.toInt := wk_ltF c45
              refine lv_iload hx hb dX7_lastOpen_76 (lv_at hl 7 rfl) ?_
              refine lv_iload hx hb dX7_lastOpen_78 (lv_at hl 8 rfl) ?_
              refine lv_ishr hx hb dX7_lastOpen_80 ?_
              refine lv_topi (fun x46 ex46 => ?_)
              have bx46 : 0 ≤ x46.toInt ∧ x46.toInt ≤ v66_7.toInt := by rw [ex46]; exact wk_shr (by omega)
              refine lv_iconst (v := 1) hx hb dX7_lastOpen_81 (by decide) ?_
              refine lv_iand hx hb dX7_lastOpen_82 ?_
              refine lv_topi (fun x47 ex47 => ?_)
              have bx47 : 0 ≤ x47.toInt ∧ x47.toInt ≤ (1 : Int) := by rw [ex47]; exact wk_and (by decide)
              refine lv_if_eq (tgt := 109) hx hb dX7_lastOpen_83 (by decide) (fun c48 => ?_) (fun c48 => ?_)
              · have c48 : x47.toInt = (0 : Int) := wk_eq.mp c48
                obtain ⟨x49, ex49⟩ : ∃ y : Int32, y = v66_8 + Int32.ofInt (-1) := ⟨_, rfl⟩
                refine lv_iinc (v := x49) (lv' := [(8, .int x49), (0, .ref (ad 39)), (1, .int a1), (2, .int 0), (3, .int a3), (4, .int a4), (5, .int (-1)), (6, .int v35_6), (7, .int v66_7)]) hx hb dX7_lastOpen_109 hl (k := 8) rfl ex49.symm (by decide) rfl (fun ls hl => ?_)
                have ex49 : x49.toInt = v66_8.toInt + (-1) := by rw [ex49]; exact wk_add (y := (-1)) (show -2147483648 ≤ v66_8.toInt + (-1) by omega) (show v66_8.toInt + (-1) ≤ 2147483647 by omega)
                refine lv_goto (tgt := 66) hx hb dX7_lastOpen_112 (by decide) ?_
                exact ih66 v66_7 x49 H locs ls w31 (show 0 ≤ a1.toInt by omega) (show a1.toInt ≤ 11 by omega) (show 0 ≤ a3.toInt by omega) (show a3.toInt ≤ 99999 by omega) (show 0 ≤ a4.toInt by omega) (show a4.toInt ≤ 102119 by omega) (show 0 ≤ v35_6.toInt by omega) (show v35_6.toInt ≤ 4254 by omega) (show 0 ≤ v66_7.toInt by omega) (show v66_7.toInt ≤ 16777215 by omega) (show (-1) ≤ x49.toInt by omega) (show x49.toInt ≤ 23 by omega) (show (x49.toInt - (-1)).toNat < n66 by omega) hw hT hF  (lv_sub hl [1, 2, 3, 4, 5, 6, 7, 8, 0] rfl)
              · have c48 : ¬ x47.toInt = (0 : Int) := wk_eqF c48
                refine lv_iload hx hb dX7_lastOpen_86 (lv_at hl 6 rfl) ?_
                refine lv_bipush (v := 24) hx hb dX7_lastOpen_88 (by decide) ?_
                refine lv_imul hx hb dX7_lastOpen_90 ?_
                refine lv_topi (fun x50 ex50 => ?_)
                have ex50 : x50.toInt = v35_6.toInt * (24 : Int) := by rw [ex50]; exact wk_mul (show (-2147483648) ≤ v35_6.toInt * (24 : Int) by omega) (show v35_6.toInt * (24 : Int) ≤ 2147483647 by omega)
                refine lv_iload hx hb dX7_lastOpen_91 (lv_at hl 8 rfl) ?_
                refine lv_iadd hx hb dX7_lastOpen_93 ?_
                refine lv_topi (fun x51 ex51 => ?_)
                have ex51 : x51.toInt = x50.toInt + v66_8.toInt := by rw [ex51]; exact wk_add (show (-2147483648) ≤ x50.toInt + v66_8.toInt by omega) (show x50.toInt + v66_8.toInt ≤ 2147483647 by omega)
                refine lv_istore (lv' := [(9, .int x51), (0, .ref (ad 39)), (1, .int a1), (2, .int 0), (3, .int a3), (4, .int a4), (5, .int (-1)), (6, .int v35_6), (7, .int v66_7), (8, .int v66_8)]) hx hb dX7_lastOpen_94 hl (by decide) rfl (fun ls hl => ?_)
                refine lv_iload hx hb dX7_lastOpen_96 (lv_at hl 0 rfl) ?_
                refine lv_iload_n hx hb dX7_lastOpen_98 rfl (lv_at hl 4 rfl) ?_
                refine lv_icmp_lt (tgt := 107) hx hb dX7_lastOpen_99 (by decide) (fun c52 => ?_) (fun c52 => ?_)
                · have c52 : x51.toInt < a3.toInt := wk_lt.mp c52
                  refine lv_iconst (v := (-1)) hx hb dX7_lastOpen_107 (by decide) ?_
                  exact tk_iret hC hr hlocks hK ⟨hT, hF, (Or.inr rfl)⟩ hw dX7_lastOpen_108
                · have c52 : a3.toInt ≤ x51.toInt := wk_ltF c52
                  refine lv_iload hx hb dX7_lastOpen_102 (lv_at hl 0 rfl) ?_
                  refine lv_goto (tgt := 108) hx hb dX7_lastOpen_104 (by decide) ?_
                  exact tk_iret hC hr hlocks hK ⟨hT, hF, (Or.inl ⟨(show 0 ≤ x51.toInt by omega), (show x51.toInt ≤ 102119 by omega), (show 0 ≤ a4.toInt by omega)⟩)⟩ hw dX7_lastOpen_108
      refine lv_iload hx hb dX7_lastOpen_35 (lv_at hl 6 rfl) ?_
      refine lv_iload_n hx hb dX7_lastOpen_37 rfl (lv_at hl 3 rfl) ?_
      refine lv_bipush (v := 24) hx hb dX7_lastOpen_38 (by decide) ?_
      refine lv_idiv hx hb dX7_lastOpen_40 (by decide) ?_
      refine lv_topi (fun x53 ex53 => ?_)
      have ex53 : x53.toInt = a3.toInt / (24 : Int) := by rw [ex53]; exact wk_div (show 0 ≤ a3.toInt by omega) (show 0 < (24 : Int) by decide)
      refine lv_icmp_lt (tgt := 121) hx hb dX7_lastOpen_41 (by decide) (fun c54 => ?_) (fun c54 => ?_)
      · have c54 : v35_6.toInt < x53.toInt := wk_lt.mp c54
        refine lv_iconst (v := (-1)) hx hb dX7_lastOpen_121 (by decide) ?_
        exact tk_iret hC hr hlocks hK ⟨hT, hF, (Or.inr rfl)⟩ hw dX7_lastOpen_122
      · have c54 : x53.toInt ≤ v35_6.toInt := wk_ltF c54
        refine lv_aload_n hx hb dX7_lastOpen_44 rfl (lv_at hl 0 rfl) ?_
        refine lv_iload_n hx hb dX7_lastOpen_45 rfl (lv_at hl 1 rfl) ?_
        refine lv_iload_n hx hb dX7_lastOpen_46 rfl (lv_at hl 2 rfl) ?_
        refine lv_iload hx hb dX7_lastOpen_47 (lv_at hl 6 rfl) ?_
        refine lv_i2l hx hb dX7_lastOpen_49 rfl ?_
        refine lv_topl (fun x55 ex55 => ?_)
        have ex55 : x55.toInt = v35_6.toInt := by rw [ex55]; exact wk_i2l _
        have bx55 := wk_i32 v35_6
        refine lv_iconst (v := 1) hx hb dX7_lastOpen_50 (by decide) ?_
        refine tk_Vi hC hK hw hT hA hE hSR kC_at39 (by decide) rfl (k_X7_openHours_11 l adK adV dC dI cy ad B (by omega) (by omega) qr s1   a1 (show 0 ≤ a1.toInt by omega) (show a1.toInt ≤ 11 by omega) x55 (show 0 ≤ x55.toInt by omega) (show x55.toInt ≤ 4254 by omega) w8 H.size hT ) (cwV 4 hC.2.2.2.2 gX7_lastOpen_X7_openHours rfl rfl rfl (by decide +kernel) ⟨Nat.le_of_ble_eq_true rfl, Nat.le_of_ble_eq_true rfl⟩) rfl hl.1 rfl (Nat.le_of_ble_eq_true rfl) dX7_lastOpen_51 (fun r56 w58 H locs hp57 hw => ?_)
        obtain ⟨hT, k59, hg62⟩ := hp57
        have hF := hF.tr k59 (by decide)
        obtain ⟨g60, g61⟩ := hg62
        refine lv_iload hx hb dX7_lastOpen_54 (lv_at hl 5 rfl) ?_
        refine lv_iand hx hb dX7_lastOpen_56 ?_
        refine lv_topi (fun x63 ex63 => ?_)
        have bx63 : 0 ≤ x63.toInt ∧ x63.toInt ≤ r56.toInt := by rw [ex63]; exact wk_andC (by omega)
        refine lv_istore (lv' := [(7, .int x63), (0, .ref (ad 39)), (1, .int a1), (2, .int 0), (3, .int a3), (4, .int a4), (5, .int v35_5), (6, .int v35_6)]) hx hb dX7_lastOpen_57 hl (by decide) rfl (fun ls hl => ?_)
        refine lv_iconst (v := (-1)) hx hb dX7_lastOpen_59 (by decide) ?_
        refine lv_istore (lv' := [(5, .int (-1)), (7, .int x63), (0, .ref (ad 39)), (1, .int a1), (2, .int 0), (3, .int a3), (4, .int a4), (6, .int v35_6)]) hx hb dX7_lastOpen_60 hl (by decide) rfl (fun ls hl => ?_)
        refine lv_bipush (v := 23) hx hb dX7_lastOpen_62 (by decide) ?_
        refine lv_istore (lv' := [(8, .int 23), (5, .int (-1)), (7, .int x63), (0, .ref (ad 39)), (1, .int a1), (2, .int 0), (3, .int a3), (4, .int a4), (6, .int v35_6)]) hx hb dX7_lastOpen_64 hl (by decide) rfl (fun ls hl => ?_)
        exact L66 (((23 : Int) - (-1)).toNat + 1) x63 23 H locs ls w58 (show 0 ≤ a1.toInt by omega) (show a1.toInt ≤ 11 by omega) (show 0 ≤ a3.toInt by omega) (show a3.toInt ≤ 99999 by omega) (show 0 ≤ a4.toInt by omega) (show a4.toInt ≤ 102119 by omega) (show 0 ≤ v35_6.toInt by omega) (show v35_6.toInt ≤ 4254 by omega) (show 0 ≤ x63.toInt by omega) (show x63.toInt ≤ 16777215 by omega) (by decide) (by decide) (Nat.lt_succ_self _) hw hT hF  (lv_sub hl [3, 4, 5, 6, 7, 1, 8, 2, 0] rfl)
  refine lv_iload hx hb dX7_lastOpen_0 (lv_at hl 4 rfl) ?_
  refine lv_iload_n hx hb dX7_lastOpen_2 rfl (lv_at hl 3 rfl) ?_
  refine lv_icmp_lt (tgt := 15) hx hb dX7_lastOpen_3 (by decide) (fun c64 => ?_) (fun c64 => ?_)
  · have c64 : a4.toInt < a3.toInt := wk_lt.mp c64
    exact J15  s.heap locs ls w0 (show 0 ≤ a1.toInt by omega) (show a1.toInt ≤ 11 by omega) (show 0 ≤ a3.toInt by omega) (show a3.toInt ≤ 99999 by omega) (show (-10) ≤ a4.toInt by omega) (show a4.toInt ≤ 102119 by omega)  hw hT hF  (lv_sub hl [0, 1, 2, 3, 4] rfl)
  · have c64 : a3.toInt ≤ a4.toInt := wk_ltF c64
    refine lv_aload_n hx hb dX7_lastOpen_6 rfl (lv_at hl 0 rfl) ?_
    refine lv_iload_n hx hb dX7_lastOpen_7 rfl (lv_at hl 1 rfl) ?_
    refine lv_iload_n hx hb dX7_lastOpen_8 rfl (lv_at hl 2 rfl) ?_
    refine tk_Vi hC hK hw hT hA hE hSR kC_at39 (by decide) rfl (k_X7_isNeverOpen_1 l adK adV dC dI cy ad B (by omega) (by omega) qr s1   a1 (show 0 ≤ a1.toInt by omega) (show a1.toInt ≤ 11 by omega) w0 s.heap.size hT ) (cwV 2 hC.2.2.2.2 gX7_lastOpen_X7_isNeverOpen rfl rfl rfl (by decide +kernel) ⟨Nat.le_of_ble_eq_true rfl, Nat.le_of_ble_eq_true rfl⟩) rfl hl.1 rfl (Nat.le_of_ble_eq_true rfl) dX7_lastOpen_9 (fun r65 w67 H locs hp66 hw => ?_)
    obtain ⟨hT, k68, hg69⟩ := hp66
    have hF := hF.tr k68 (by decide)
    rcases hg69 with rfl | rfl
    · refine lv_if_eq (tgt := 17) hx hb dX7_lastOpen_12 (by decide) (fun _ => ?_) (fun c => absurd (by decide) c)
      refine lv_iconst (v := 2) hx hb dX7_lastOpen_17 (by decide) ?_
      refine lv_iload hx hb dX7_lastOpen_18 (lv_at hl 4 rfl) ?_
      refine lv_bipush (v := 24) hx hb dX7_lastOpen_20 (by decide) ?_
      refine lv_irem hx hb dX7_lastOpen_22 (by decide) ?_
      refine lv_topi (fun x70 ex70 => ?_)
      have ex70 : x70.toInt = a4.toInt % (24 : Int) := by rw [ex70]; exact wk_rem (show 0 ≤ a4.toInt by omega) (show 0 < (24 : Int) by decide)
      refine lv_ishl hx hb dX7_lastOpen_23 ?_
      refine lv_topi (fun x71 ex71 => ?_)
      refine lv_iconst (v := 1) hx hb dX7_lastOpen_24 (by decide) ?_
      refine lv_isub hx hb dX7_lastOpen_25 ?_
      have nx72 := wk_i32 x71
      refine lv_topi (fun x73 ex73 => ?_)
      refine lv_istore (lv' := [(5, .int x73), (0, .ref (ad 39)), (1, .int a1), (2, .int 0), (3, .int a3), (4, .int a4)]) hx hb dX7_lastOpen_26 hl (by decide) rfl (fun ls hl => ?_)
      refine lv_iload hx hb dX7_lastOpen_28 (lv_at hl 5 rfl) ?_
      refine lv_bipush (v := 24) hx hb dX7_lastOpen_30 (by decide) ?_
      refine lv_idiv hx hb dX7_lastOpen_32 (by decide) ?_
      refine lv_topi (fun x74 ex74 => ?_)
      have ex74 : x74.toInt = a4.toInt / (24 : Int) := by rw [ex74]; exact wk_div (show 0 ≤ a4.toInt by omega) (show 0 < (24 : Int) by decide)
      refine lv_istore (lv' := [(6, .int x74), (5, .int x73), (0, .ref (ad 39)), (1, .int a1), (2, .int 0), (3, .int a3), (4, .int a4)]) hx hb dX7_lastOpen_33 hl (by decide) rfl (fun ls hl => ?_)
      exact L35 ((x74.toInt - (-1)).toNat + 1) x73 x74 H locs ls w67 (show 0 ≤ a1.toInt by omega) (show a1.toInt ≤ 11 by omega) (show 0 ≤ a3.toInt by omega) (show a3.toInt ≤ 99999 by omega) (show 0 ≤ a4.toInt by omega) (show a4.toInt ≤ 102119 by omega) (show (-1) ≤ x74.toInt by omega) (show x74.toInt ≤ 4254 by omega) (Nat.lt_succ_self _) hw hT hF  (lv_sub hl [2, 3, 4, 5, 6, 1, 0] rfl)
    · refine lv_if_eq (tgt := 17) hx hb dX7_lastOpen_12 (by decide) (fun c => absurd c (by decide)) (fun _ => ?_)
      exact J15  H locs ls w67 (show 0 ≤ a1.toInt by omega) (show a1.toInt ≤ 11 by omega) (show 0 ≤ a3.toInt by omega) (show a3.toInt ≤ 99999 by omega) (show (-10) ≤ a4.toInt by omega) (show a4.toInt ≤ 102119 by omega)  hw hT hF  (lv_sub hl [0, 1, 2, 3, 4] rfl)
abbrev P_X4_leaveBy_1 (ad : Nat → Nat) (cy : Nat → ClassId) (B : Int) (qr : Nat) (s1 : Int) (a1 : Int32) (a2 : Int32) (a3 : Int32) (w0 : va_W) : va_W → Prop := fun u => TW ksC ad cy B qr s1 u ∧ FE ksC [(48, 0, 10)] w0 u ∧ ((gi u 40 (2 * a1.toInt + 0).toNat = a2) ∨ (gi u 40 (2 * a1.toInt + 1).toNat = a2) ∨ (True))
set_option maxHeartbeats 4000000 in
set_option maxRecDepth 100000 in
theorem k_X4_leaveBy_1 (l : Launch) (adK adV : Nat → Nat) (dC : Nat → ClassId) (dI : Nat → Nat → Nat) (cy : Nat → ClassId) (ad : Nat → Nat) (B : Int) (hB0 : 2147483648 ≤ B) (hB1 : B ≤ 1152921504606846976) (qr : Nat) (s1 : Int)  (a1 : Int32) (ra1 : 0 ≤ a1.toInt) (ta1 : a1.toInt ≤ 11) (a2 : Int32) (ra2 : 0 ≤ a2.toInt) (ta2 : a2.toInt ≤ 9) (a3 : Int32) (ra3 : 0 ≤ a3.toInt) (ta3 : a3.toInt ≤ 99999) (w0 : va_W) (sz : Nat) (hT : TW ksC ad cy B qr s1 w0)  : Met l yX4_leaveBy wsX4_leaveBy ({ frames := 3, cells := 0, slots := 0, locals := 68 }) (va_Pc [.ref (ad 155), .int a1, .int a2, .int a3] (wpreS adK adV dC dI cy sz w0)) (va_Qv (P_X4_leaveBy_1 ad cy B qr s1 a1 a2 a3 w0) (fun u : va_W => wpost dC dI cy (va_A w0 sz) u) (va_A w0 sz)) 0 0 (va_A w0 sz) := by
  refine Met.ofW (cc := cX4_leaveBy) (maxL := 7) (ret := none) (by decide) rfl ?_
  intro p e s m args below meth c s₁ Bk hml hv
  obtain ⟨rfl, ⟨hsz, hP, hK, hD0⟩, hE, hSR⟩ := hv
  have hx := Bk.exec
  have hb := Bk.bytes
  have hr := Bk.returns
  have hlocks := Bk.notSynchronized
  have hC : CallFix p m c cX4_leaveBy 7 s _ wsX4_leaveBy RX4 := ⟨hx, hb, hml, findClass_of_methodNamed Bk.named, atoms_spec (ws := wsX4_leaveBy) Bk.pre⟩
  subst hsz
  have hD := hD0.self (sz := s.heap.size)
  generalize hAe : va_A w0 s.heap.size = A at hD hE ⊢
  have hA : ∀ q : Nat, s.heap.size ≤ q → A q := fun q h => by rw [← hAe]; exact Or.inr h
  have hw : Wd dC dI A s.heap s.heap [] w0 := ⟨hP, hD, va_S.rf⟩
  have hF : FE ksC [(48, 0, 10)] w0 w0 := FE.rf
  have hl := lv_entry ([.ref (ad 155), .int a1, .int a2, .int a3]) (n := 7) (Nat.le_of_ble_eq_true rfl)
  rw [lg_entry_eq]
  generalize (lg_sl ([.ref (ad 155), .int a1, .int a2, .int a3]) ++ List.replicate (7 - (lg_sl ([.ref (ad 155), .int a1, .int a2, .int a3])).length) Slot.unset).toArray = ls at hl ⊢
  have hl : lv_has ls 7 [(0, .ref (ad 155)), (1, .int a1), (2, .int a2), (3, .int a3)] := hl
  generalize hloc : ([] : List Loc) = locs at hw ⊢
  have hinX4 : ∀ w ∈ u_ws RX4 TX4 4, w ∈ wsX4_leaveBy := fun _ h => List.mem_cons_of_mem _ (List.mem_append_left _ (List.mem_append_right _ (h)))
  have hinX7 : ∀ w ∈ u_ws RX7 TX7 12, w ∈ wsX4_leaveBy := fun _ h => List.mem_cons_of_mem _ (List.mem_append_right _ (h))
  refine lv_aload_n hx hb dX4_leaveBy_0 rfl (lv_at hl 0 rfl) ?_
  refine tk_getA hC hK hw hT hinX4 kC_at155 (by decide) rfl 1 (by decide) (List.mem_of_getElem? (i := 1) rfl) rfl rfl dX4_leaveBy_1 ?_
  refine lv_iload_n hx hb dX4_leaveBy_4 rfl (lv_at hl 1 rfl) ?_
  refine lv_iload_n hx hb dX4_leaveBy_5 rfl (lv_at hl 2 rfl) ?_
  refine tk_Vi hC hK hw hT hA hE hSR kC_at39 (by decide) rfl (k_X7_sideOf_2 l adK adV dC dI cy ad B (by omega) (by omega) qr s1   a1 (show 0 ≤ a1.toInt by omega) (show a1.toInt ≤ 11 by omega) a2 (show 0 ≤ a2.toInt by omega) (show a2.toInt ≤ 9 by omega) w0 s.heap.size hT ) (cwV 2 hC.2.2.2.2 gX4_leaveBy_X7_sideOf rfl rfl rfl (by decide +kernel) ⟨Nat.le_of_ble_eq_true rfl, Nat.le_of_ble_eq_true rfl⟩) rfl hl.1 rfl (Nat.le_of_ble_eq_true rfl) dX4_leaveBy_6 (fun r1 w3 H locs hp2 hw => ?_)
  obtain ⟨hT, k4, hg7⟩ := hp2
  have hF := hF.tr k4 (by decide)
  rcases hg7 with rfl | ⟨rfl, c5⟩ | ⟨rfl, c6⟩
  · refine lv_istore (lv' := [(4, .int (-1)), (0, .ref (ad 155)), (1, .int a1), (2, .int a2), (3, .int a3)]) hx hb dX4_leaveBy_9 hl (by decide) rfl (fun ls hl => ?_)
    refine lv_iload hx hb dX4_leaveBy_11 (lv_at hl 0 rfl) ?_
    refine lv_iconst (v := (-1)) hx hb dX4_leaveBy_13 (by decide) ?_
    refine lv_icmp_ne (tgt := 18) hx hb dX4_leaveBy_14 (by decide) (fun c => absurd (by decide) c) (fun _ => ?_)
    exact tk_vret hC hr hlocks hK ⟨hT, hF, (Or.inr (Or.inr trivial))⟩ hw dX4_leaveBy_17
  · refine lv_istore (lv' := [(4, .int 0), (0, .ref (ad 155)), (1, .int a1), (2, .int a2), (3, .int a3)]) hx hb dX4_leaveBy_9 hl (by decide) rfl (fun ls hl => ?_)
    refine lv_iload hx hb dX4_leaveBy_11 (lv_at hl 0 rfl) ?_
    refine lv_iconst (v := (-1)) hx hb dX4_leaveBy_13 (by decide) ?_
    refine lv_icmp_ne (tgt := 18) hx hb dX4_leaveBy_14 (by decide) (fun _ => ?_) (fun c => absurd c (by decide))
    refine lv_aload_n hx hb dX4_leaveBy_18 rfl (lv_at hl 1 rfl) ?_
    refine tk_getA hC hK hw hT hinX4 kC_at155 (by decide) rfl 1 (by decide) (List.mem_of_getElem? (i := 1) rfl) rfl rfl dX4_leaveBy_19 ?_
    refine lv_iload_n hx hb dX4_leaveBy_22 rfl (lv_at hl 2 rfl) ?_
    refine lv_iload hx hb dX4_leaveBy_23 (lv_at hl 0 rfl) ?_
    refine tk_Vi hC hK hw hT hA hE hSR kC_at39 (by decide) rfl (k_X7_cornerAcross_2 l adK adV dC dI cy ad B (by omega) (by omega) qr s1   a1 (show 0 ≤ a1.toInt by omega) (show a1.toInt ≤ 11 by omega) w3 H.size hT ) (cwV 2 hC.2.2.2.2 gX4_leaveBy_X7_cornerAcross rfl rfl rfl (by decide +kernel) ⟨Nat.le_of_ble_eq_true rfl, Nat.le_of_ble_eq_true rfl⟩) rfl hl.1 rfl (Nat.le_of_ble_eq_true rfl) dX4_leaveBy_25 (fun r8 w10 H locs hp9 hw => ?_)
    obtain ⟨hT, k11, hg14⟩ := hp9
    have hF := hF.tr k11 (by decide)
    have c15 := k11.gi kC_at40 rfl c5
    obtain ⟨g12, g13⟩ := hg14
    refine lv_istore (lv' := [(5, .int r8), (4, .int 0), (0, .ref (ad 155)), (1, .int a1), (2, .int a2), (3, .int a3)]) hx hb dX4_leaveBy_28 hl (by decide) rfl (fun ls hl => ?_)
    refine lv_aload_n hx hb dX4_leaveBy_30 rfl (lv_at hl 2 rfl) ?_
    refine tk_getA hC hK hw hT hinX4 kC_at155 (by decide) rfl 2 (by decide) (List.mem_of_getElem? (i := 2) rfl) rfl rfl dX4_leaveBy_31 ?_
    refine lv_iload_n hx hb dX4_leaveBy_34 rfl (lv_at hl 4 rfl) ?_
    refine tk_iald hC hK hw hT kC_at156 rfl rfl (show 0 ≤ a2.toInt by omega) (show a2.toInt < 10 by omega) dX4_leaveBy_35 (fun x16 c17 rx16 tx16 => ?_)
    refine lv_aload_n hx hb dX4_leaveBy_36 rfl (lv_at hl 2 rfl) ?_
    refine tk_getA hC hK hw hT hinX4 kC_at155 (by decide) rfl 1 (by decide) (List.mem_of_getElem? (i := 1) rfl) rfl rfl dX4_leaveBy_37 ?_
    refine tk_getO hC hK hw hT hinX7 kC_at39 (by decide) rfl 1 (by decide) (List.mem_of_getElem? (i := 3) rfl) rfl rfl dX4_leaveBy_40 ?_
    refine lv_iload_n hx hb dX4_leaveBy_43 rfl (lv_at hl 3 rfl) ?_
    refine tk_iald hC hK hw hT kC_at41 rfl rfl (show 0 ≤ a1.toInt by omega) (show a1.toInt < 13 by omega) dX4_leaveBy_44 (fun x18 c19 rx18 tx18 => ?_)
    refine lv_isub hx hb dX4_leaveBy_45 ?_
    refine lv_topi (fun x20 ex20 => ?_)
    have ex20 : x20.toInt = x16.toInt - x18.toInt := by rw [ex20]; exact wk_sub (show (-2147483648) ≤ x16.toInt - x18.toInt by omega) (show x16.toInt - x18.toInt ≤ 2147483647 by omega)
    refine lv_istore (lv' := [(6, .int x20), (5, .int r8), (4, .int 0), (0, .ref (ad 155)), (1, .int a1), (2, .int a2), (3, .int a3)]) hx hb dX4_leaveBy_46 hl (by decide) rfl (fun ls hl => ?_)
    refine lv_aload_n hx hb dX4_leaveBy_48 rfl (lv_at hl 3 rfl) ?_
    refine tk_getA hC hK hw hT hinX4 kC_at155 (by decide) rfl 2 (by decide) (List.mem_of_getElem? (i := 2) rfl) rfl rfl dX4_leaveBy_49 ?_
    refine lv_iload hx hb dX4_leaveBy_52 (lv_at hl 1 rfl) ?_
    refine lv_aload_n hx hb dX4_leaveBy_54 rfl (lv_at hl 3 rfl) ?_
    refine tk_getA hC hK hw hT hinX4 kC_at155 (by decide) rfl 2 (by decide) (List.mem_of_getElem? (i := 2) rfl) rfl rfl dX4_leaveBy_55 ?_
    refine lv_iload hx hb dX4_leaveBy_58 (lv_at hl 1 rfl) ?_
    refine tk_iald hC hK hw hT kC_at156 rfl rfl (show 0 ≤ r8.toInt by omega) (show r8.toInt < 10 by omega) dX4_leaveBy_60 (fun x21 c22 rx21 tx21 => ?_)
    refine lv_aload_n hx hb dX4_leaveBy_61 rfl (lv_at hl 3 rfl) ?_
    refine tk_getA hC hK hw hT hinX4 kC_at155 (by decide) rfl 1 (by decide) (List.mem_of_getElem? (i := 1) rfl) rfl rfl dX4_leaveBy_62 ?_
    refine lv_iload_n hx hb dX4_leaveBy_65 rfl (lv_at hl 4 rfl) ?_
    refine lv_iconst (v := 1) hx hb dX4_leaveBy_66 (by decide) ?_
    refine lv_iload hx hb dX4_leaveBy_67 (lv_at hl 2 rfl) ?_
    refine lv_isub hx hb dX4_leaveBy_69 ?_
    refine wk_top 1 (by decide) ?_
    refine lv_iload_n hx hb dX4_leaveBy_70 rfl (lv_at hl 6 rfl) ?_
    refine lv_iload hx hb dX4_leaveBy_71 (lv_at hl 0 rfl) ?_
    refine tk_Vi hC hK hw hT hA hE hSR kC_at39 (by decide) rfl (k_X7_lastOpen_1 l adK adV dC dI cy ad B (by omega) (by omega) qr s1   a1 (show 0 ≤ a1.toInt by omega) (show a1.toInt ≤ 11 by omega) a3 (show 0 ≤ a3.toInt by omega) (show a3.toInt ≤ 99999 by omega) x20 (show (-10) ≤ x20.toInt by omega) (show x20.toInt ≤ 102119 by omega) w10 H.size hT ) (cwV 4 hC.2.2.2.2 gX4_leaveBy_X7_lastOpen rfl rfl rfl (by decide +kernel) ⟨Nat.le_of_ble_eq_true rfl, Nat.le_of_ble_eq_true rfl⟩) rfl hl.1 rfl (Nat.le_of_ble_eq_true rfl) dX4_leaveBy_73 (fun r23 w25 H locs hp24 hw => ?_)
    obtain ⟨hT, k26, hg30⟩ := hp24
    have hF := hF.tr k26 (by decide)
    have c31 := k26.gi kC_at40 rfl c15
    rcases hg30 with ⟨g27, g28, g29⟩ | rfl
    · refine va_mmax hx hb (hC.2.2.1.trans hl.1.symm) hC.2.2.2.1 (hC.2.2.2.2 _ (List.mem_of_getElem? (i := 4) rfl)) (hC.2.2.2.2 _ (List.mem_of_getElem? (i := 5) rfl)) (hC.2.2.2.2 _ (List.mem_of_getElem? (i := 6) rfl)) (hC.2.2.2.2 _ (List.mem_of_getElem? (i := 7) rfl)) (Nat.le_of_ble_eq_true rfl) (Nat.le_of_ble_eq_true rfl) (Nat.zero_le _) (Nat.zero_le _) dX4_leaveBy_76 ?_
      refine lv_topi (fun x32 ex32 => ?_)
      have bx32 : (x32.toInt = x21.toInt ∧ r23.toInt ≤ x21.toInt) ∨ (x32.toInt = r23.toInt ∧ x21.toInt < r23.toInt) := by rw [ex32]; exact wk_max
      refine tk_iast hC hK hw hT kC_at156 (by decide) rfl rfl (show 0 ≤ r8.toInt by omega) (show r8.toInt < 10 by omega) (show (-1) ≤ x32.toInt by omega) (show x32.toInt ≤ 102119 by omega) dX4_leaveBy_79 (fun H locs w33 hw hT k35 c34 => ?_)
      have hF := hF.put kC_at156 (inE_of (a := 0) (b := 10) (by decide) (show 0 ≤ r8.toInt.toNat by omega) (show r8.toInt.toNat ≤ 10 by omega)) k35
      have c36 := k35.gi (Or.inl (tk_ne kC_at40 kC_at156 (by decide))) c31
      exact tk_vret hC hr hlocks hK ⟨hT, hF, (Or.inl c36)⟩ hw dX4_leaveBy_80
    · refine va_mmax hx hb (hC.2.2.1.trans hl.1.symm) hC.2.2.2.1 (hC.2.2.2.2 _ (List.mem_of_getElem? (i := 4) rfl)) (hC.2.2.2.2 _ (List.mem_of_getElem? (i := 5) rfl)) (hC.2.2.2.2 _ (List.mem_of_getElem? (i := 6) rfl)) (hC.2.2.2.2 _ (List.mem_of_getElem? (i := 7) rfl)) (Nat.le_of_ble_eq_true rfl) (Nat.le_of_ble_eq_true rfl) (Nat.zero_le _) (Nat.zero_le _) dX4_leaveBy_76 ?_
      refine lv_topi (fun x37 ex37 => ?_)
      have bx37 : (x37.toInt = x21.toInt ∧ (-1 : Int) ≤ x21.toInt) ∨ (x37.toInt = (-1 : Int) ∧ x21.toInt < (-1 : Int)) := by rw [ex37]; exact wk_max
      refine tk_iast hC hK hw hT kC_at156 (by decide) rfl rfl (show 0 ≤ r8.toInt by omega) (show r8.toInt < 10 by omega) (show (-1) ≤ x37.toInt by omega) (show x37.toInt ≤ 102119 by omega) dX4_leaveBy_79 (fun H locs w38 hw hT k40 c39 => ?_)
      have hF := hF.put kC_at156 (inE_of (a := 0) (b := 10) (by decide) (show 0 ≤ r8.toInt.toNat by omega) (show r8.toInt.toNat ≤ 10 by omega)) k40
      have c41 := k40.gi (Or.inl (tk_ne kC_at40 kC_at156 (by decide))) c31
      exact tk_vret hC hr hlocks hK ⟨hT, hF, (Or.inl c41)⟩ hw dX4_leaveBy_80
  · refine lv_istore (lv' := [(4, .int 1), (0, .ref (ad 155)), (1, .int a1), (2, .int a2), (3, .int a3)]) hx hb dX4_leaveBy_9 hl (by decide) rfl (fun ls hl => ?_)
    refine lv_iload hx hb dX4_leaveBy_11 (lv_at hl 0 rfl) ?_
    refine lv_iconst (v := (-1)) hx hb dX4_leaveBy_13 (by decide) ?_
    refine lv_icmp_ne (tgt := 18) hx hb dX4_leaveBy_14 (by decide) (fun _ => ?_) (fun c => absurd c (by decide))
    refine lv_aload_n hx hb dX4_leaveBy_18 rfl (lv_at hl 1 rfl) ?_
    refine tk_getA hC hK hw hT hinX4 kC_at155 (by decide) rfl 1 (by decide) (List.mem_of_getElem? (i := 1) rfl) rfl rfl dX4_leaveBy_19 ?_
    refine lv_iload_n hx hb dX4_leaveBy_22 rfl (lv_at hl 2 rfl) ?_
    refine lv_iload hx hb dX4_leaveBy_23 (lv_at hl 0 rfl) ?_
    refine tk_Vi hC hK hw hT hA hE hSR kC_at39 (by decide) rfl (k_X7_cornerAcross_3 l adK adV dC dI cy ad B (by omega) (by omega) qr s1   a1 (show 0 ≤ a1.toInt by omega) (show a1.toInt ≤ 11 by omega) w3 H.size hT ) (cwV 2 hC.2.2.2.2 gX4_leaveBy_X7_cornerAcross rfl rfl rfl (by decide +kernel) ⟨Nat.le_of_ble_eq_true rfl, Nat.le_of_ble_eq_true rfl⟩) rfl hl.1 rfl (Nat.le_of_ble_eq_true rfl) dX4_leaveBy_25 (fun r42 w44 H locs hp43 hw => ?_)
    obtain ⟨hT, k45, hg48⟩ := hp43
    have hF := hF.tr k45 (by decide)
    have c49 := k45.gi kC_at40 rfl c6
    obtain ⟨g46, g47⟩ := hg48
    refine lv_istore (lv' := [(5, .int r42), (4, .int 1), (0, .ref (ad 155)), (1, .int a1), (2, .int a2), (3, .int a3)]) hx hb dX4_leaveBy_28 hl (by decide) rfl (fun ls hl => ?_)
    refine lv_aload_n hx hb dX4_leaveBy_30 rfl (lv_at hl 2 rfl) ?_
    refine tk_getA hC hK hw hT hinX4 kC_at155 (by decide) rfl 2 (by decide) (List.mem_of_getElem? (i := 2) rfl) rfl rfl dX4_leaveBy_31 ?_
    refine lv_iload_n hx hb dX4_leaveBy_34 rfl (lv_at hl 4 rfl) ?_
    refine tk_iald hC hK hw hT kC_at156 rfl rfl (show 0 ≤ a2.toInt by omega) (show a2.toInt < 10 by omega) dX4_leaveBy_35 (fun x50 c51 rx50 tx50 => ?_)
    refine lv_aload_n hx hb dX4_leaveBy_36 rfl (lv_at hl 2 rfl) ?_
    refine tk_getA hC hK hw hT hinX4 kC_at155 (by decide) rfl 1 (by decide) (List.mem_of_getElem? (i := 1) rfl) rfl rfl dX4_leaveBy_37 ?_
    refine tk_getO hC hK hw hT hinX7 kC_at39 (by decide) rfl 1 (by decide) (List.mem_of_getElem? (i := 3) rfl) rfl rfl dX4_leaveBy_40 ?_
    refine lv_iload_n hx hb dX4_leaveBy_43 rfl (lv_at hl 3 rfl) ?_
    refine tk_iald hC hK hw hT kC_at41 rfl rfl (show 0 ≤ a1.toInt by omega) (show a1.toInt < 13 by omega) dX4_leaveBy_44 (fun x52 c53 rx52 tx52 => ?_)
    refine lv_isub hx hb dX4_leaveBy_45 ?_
    refine lv_topi (fun x54 ex54 => ?_)
    have ex54 : x54.toInt = x50.toInt - x52.toInt := by rw [ex54]; exact wk_sub (show (-2147483648) ≤ x50.toInt - x52.toInt by omega) (show x50.toInt - x52.toInt ≤ 2147483647 by omega)
    refine lv_istore (lv' := [(6, .int x54), (5, .int r42), (4, .int 1), (0, .ref (ad 155)), (1, .int a1), (2, .int a2), (3, .int a3)]) hx hb dX4_leaveBy_46 hl (by decide) rfl (fun ls hl => ?_)
    refine lv_aload_n hx hb dX4_leaveBy_48 rfl (lv_at hl 3 rfl) ?_
    refine tk_getA hC hK hw hT hinX4 kC_at155 (by decide) rfl 2 (by decide) (List.mem_of_getElem? (i := 2) rfl) rfl rfl dX4_leaveBy_49 ?_
    refine lv_iload hx hb dX4_leaveBy_52 (lv_at hl 1 rfl) ?_
    refine lv_aload_n hx hb dX4_leaveBy_54 rfl (lv_at hl 3 rfl) ?_
    refine tk_getA hC hK hw hT hinX4 kC_at155 (by decide) rfl 2 (by decide) (List.mem_of_getElem? (i := 2) rfl) rfl rfl dX4_leaveBy_55 ?_
    refine lv_iload hx hb dX4_leaveBy_58 (lv_at hl 1 rfl) ?_
    refine tk_iald hC hK hw hT kC_at156 rfl rfl (show 0 ≤ r42.toInt by omega) (show r42.toInt < 10 by omega) dX4_leaveBy_60 (fun x55 c56 rx55 tx55 => ?_)
    refine lv_aload_n hx hb dX4_leaveBy_61 rfl (lv_at hl 3 rfl) ?_
    refine tk_getA hC hK hw hT hinX4 kC_at155 (by decide) rfl 1 (by decide) (List.mem_of_getElem? (i := 1) rfl) rfl rfl dX4_leaveBy_62 ?_
    refine lv_iload_n hx hb dX4_leaveBy_65 rfl (lv_at hl 4 rfl) ?_
    refine lv_iconst (v := 1) hx hb dX4_leaveBy_66 (by decide) ?_
    refine lv_iload hx hb dX4_leaveBy_67 (lv_at hl 2 rfl) ?_
    refine lv_isub hx hb dX4_leaveBy_69 ?_
    refine wk_top 0 (by decide) ?_
    refine lv_iload_n hx hb dX4_leaveBy_70 rfl (lv_at hl 6 rfl) ?_
    refine lv_iload hx hb dX4_leaveBy_71 (lv_at hl 0 rfl) ?_
    refine tk_Vi hC hK hw hT hA hE hSR kC_at39 (by decide) rfl (k_X7_lastOpen_2 l adK adV dC dI cy ad B (by omega) (by omega) qr s1   a1 (show 0 ≤ a1.toInt by omega) (show a1.toInt ≤ 11 by omega) a3 (show 0 ≤ a3.toInt by omega) (show a3.toInt ≤ 99999 by omega) x54 (show (-10) ≤ x54.toInt by omega) (show x54.toInt ≤ 102119 by omega) w44 H.size hT ) (cwV 4 hC.2.2.2.2 gX4_leaveBy_X7_lastOpen rfl rfl rfl (by decide +kernel) ⟨Nat.le_of_ble_eq_true rfl, Nat.le_of_ble_eq_true rfl⟩) rfl hl.1 rfl (Nat.le_of_ble_eq_true rfl) dX4_leaveBy_73 (fun r57 w59 H locs hp58 hw => ?_)
    obtain ⟨hT, k60, hg64⟩ := hp58
    have hF := hF.tr k60 (by decide)
    have c65 := k60.gi kC_at40 rfl c49
    rcases hg64 with ⟨g61, g62, g63⟩ | rfl
    · refine va_mmax hx hb (hC.2.2.1.trans hl.1.symm) hC.2.2.2.1 (hC.2.2.2.2 _ (List.mem_of_getElem? (i := 4) rfl)) (hC.2.2.2.2 _ (List.mem_of_getElem? (i := 5) rfl)) (hC.2.2.2.2 _ (List.mem_of_getElem? (i := 6) rfl)) (hC.2.2.2.2 _ (List.mem_of_getElem? (i := 7) rfl)) (Nat.le_of_ble_eq_true rfl) (Nat.le_of_ble_eq_true rfl) (Nat.zero_le _) (Nat.zero_le _) dX4_leaveBy_76 ?_
      refine lv_topi (fun x66 ex66 => ?_)
      have bx66 : (x66.toInt = x55.toInt ∧ r57.toInt ≤ x55.toInt) ∨ (x66.toInt = r57.toInt ∧ x55.toInt < r57.toInt) := by rw [ex66]; exact wk_max
      refine tk_iast hC hK hw hT kC_at156 (by decide) rfl rfl (show 0 ≤ r42.toInt by omega) (show r42.toInt < 10 by omega) (show (-1) ≤ x66.toInt by omega) (show x66.toInt ≤ 102119 by omega) dX4_leaveBy_79 (fun H locs w67 hw hT k69 c68 => ?_)
      have hF := hF.put kC_at156 (inE_of (a := 0) (b := 10) (by decide) (show 0 ≤ r42.toInt.toNat by omega) (show r42.toInt.toNat ≤ 10 by omega)) k69
      have c70 := k69.gi (Or.inl (tk_ne kC_at40 kC_at156 (by decide))) c65
      exact tk_vret hC hr hlocks hK ⟨hT, hF, (Or.inr (Or.inl c70))⟩ hw dX4_leaveBy_80
    · refine va_mmax hx hb (hC.2.2.1.trans hl.1.symm) hC.2.2.2.1 (hC.2.2.2.2 _ (List.mem_of_getElem? (i := 4) rfl)) (hC.2.2.2.2 _ (List.mem_of_getElem? (i := 5) rfl)) (hC.2.2.2.2 _ (List.mem_of_getElem? (i := 6) rfl)) (hC.2.2.2.2 _ (List.mem_of_getElem? (i := 7) rfl)) (Nat.le_of_ble_eq_true rfl) (Nat.le_of_ble_eq_true rfl) (Nat.zero_le _) (Nat.zero_le _) dX4_leaveBy_76 ?_
      refine lv_topi (fun x71 ex71 => ?_)
      have bx71 : (x71.toInt = x55.toInt ∧ (-1 : Int) ≤ x55.toInt) ∨ (x71.toInt = (-1 : Int) ∧ x55.toInt < (-1 : Int)) := by rw [ex71]; exact wk_max
      refine tk_iast hC hK hw hT kC_at156 (by decide) rfl rfl (show 0 ≤ r42.toInt by omega) (show r42.toInt < 10 by omega) (show (-1) ≤ x71.toInt by omega) (show x71.toInt ≤ 102119 by omega) dX4_leaveBy_79 (fun H locs w72 hw hT k74 c73 => ?_)
      have hF := hF.put kC_at156 (inE_of (a := 0) (b := 10) (by decide) (show 0 ≤ r42.toInt.toNat by omega) (show r42.toInt.toNat ≤ 10 by omega)) k74
      have c75 := k74.gi (Or.inl (tk_ne kC_at40 kC_at156 (by decide))) c65
      exact tk_vret hC hr hlocks hK ⟨hT, hF, (Or.inr (Or.inl c75))⟩ hw dX4_leaveBy_80
abbrev P_X4_latestUnsettled_1 (ad : Nat → Nat) (cy : Nat → ClassId) (B : Int) (qr : Nat) (s1 : Int)  (w0 : va_W) : Int32 → va_W → Prop := fun r u => TW ksC ad cy B qr s1 u ∧ FE ksC ([] : List (Nat × Nat × Nat)) w0 u ∧ (((-1) ≤ r.toInt ∧ r.toInt ≤ 9))
set_option maxHeartbeats 4000000 in
set_option maxRecDepth 100000 in
theorem k_X4_latestUnsettled_1 (l : Launch) (adK adV : Nat → Nat) (dC : Nat → ClassId) (dI : Nat → Nat → Nat) (cy : Nat → ClassId) (ad : Nat → Nat) (B : Int) (hB0 : 2147483648 ≤ B) (hB1 : B ≤ 1152921504606846976) (qr : Nat) (s1 : Int)   (w0 : va_W) (sz : Nat) (hT : TW ksC ad cy B qr s1 w0)  : Met l yX4_latestUnsettled wsX4_latestUnsettled ({ frames := 1, cells := 0, slots := 0, locals := 12 }) (va_Pc [.ref (ad 155)] (wpreS adK adV dC dI cy sz w0)) (va_Qi (P_X4_latestUnsettled_1 ad cy B qr s1  w0) (fun u : va_W => wpost dC dI cy (va_A w0 sz) u) (va_A w0 sz)) 0 0 (va_A w0 sz) := by
  refine Met.ofW (cc := cX4_latestUnsettled) (maxL := 3) (ret := (some .int)) (by decide) rfl ?_
  intro p e s m args below meth c s₁ Bk hml hv
  obtain ⟨rfl, ⟨hsz, hP, hK, hD0⟩, hE, hSR⟩ := hv
  have hx := Bk.exec
  have hb := Bk.bytes
  have hr := Bk.returns
  have hlocks := Bk.notSynchronized
  have hC : CallFix p m c cX4_latestUnsettled 3 s _ wsX4_latestUnsettled RX4 := ⟨hx, hb, hml, findClass_of_methodNamed Bk.named, atoms_spec (ws := wsX4_latestUnsettled) Bk.pre⟩
  subst hsz
  have hD := hD0.self (sz := s.heap.size)
  generalize hAe : va_A w0 s.heap.size = A at hD hE ⊢
  have hA : ∀ q : Nat, s.heap.size ≤ q → A q := fun q h => by rw [← hAe]; exact Or.inr h
  have hw : Wd dC dI A s.heap s.heap [] w0 := ⟨hP, hD, va_S.rf⟩
  have hF : FE ksC ([] : List (Nat × Nat × Nat)) w0 w0 := FE.rf
  have hl := lv_entry ([.ref (ad 155)]) (n := 3) (Nat.le_of_ble_eq_true rfl)
  rw [lg_entry_eq]
  generalize (lg_sl ([.ref (ad 155)]) ++ List.replicate (3 - (lg_sl ([.ref (ad 155)])).length) Slot.unset).toArray = ls at hl ⊢
  have hl : lv_has ls 3 [(0, .ref (ad 155))] := hl
  generalize hloc : ([] : List Loc) = locs at hw ⊢
  have hinX4 : ∀ w ∈ u_ws RX4 TX4 4, w ∈ wsX4_latestUnsettled := fun _ h => List.mem_cons_of_mem _ (List.mem_append_left _ (List.mem_append_right _ (h)))
  have hinX7 : ∀ w ∈ u_ws RX7 TX7 12, w ∈ wsX4_latestUnsettled := fun _ h => List.mem_cons_of_mem _ (List.mem_append_right _ (h))
  have L4 : ∀ (n4 : Nat) (v4_1 : Int32) (v4_2 : Int32) (H : Heap) (locs : List Loc) (ls : Array Slot) (w1 : va_W), (-1) ≤ v4_1.toInt → v4_1.toInt ≤ 9 → 0 ≤ v4_2.toInt → v4_2.toInt ≤ 10 → (10 - v4_2.toInt).toNat < n4 → Wd dC dI A s.heap H locs w1 → TW ksC ad cy B qr s1 w1 → FE ksC ([] : List (Nat × Nat × Nat)) w0 w1 → lv_has ls 3 [(0, .ref (ad 155)), (1, .int v4_1), (2, .int v4_2)] → W p l e ({ frames := 1, cells := 0, slots := 0, locals := 12 }) s m (List.toArray [.ref (ad 155)]) below meth c H locs 0 0 (MQ below (va_Qi (P_X4_latestUnsettled_1 ad cy B qr s1  w0) (fun u : va_W => wpost dC dI cy A u) A) (List.toArray [.ref (ad 155)]) s 0 0 A) (F0 m 4 ls []) := by
    intro n4
    induction n4 with
    | zero => intro v4_1 v4_2 H locs ls w1 r2 t3 r4 t5 hm4 hw hT hF hl; omega
    | succ n4 ih4 =>
      intro v4_1 v4_2 H locs ls w1 r2 t3 r4 t5 hm4 hw hT hF hl
      have J56 : ∀ (v56_1 : Int32) (f56_39_8 : Int32) (H : Heap) (locs : List Loc) (ls : Array Slot) (w6 : va_W), (-1) ≤ v56_1.toInt → v56_1.toInt ≤ 9 → 0 ≤ v4_2.toInt → v4_2.toInt ≤ 9 → 1 ≤ f56_39_8.toInt → f56_39_8.toInt ≤ 10 → Wd dC dI A s.heap H locs w6 → TW ksC ad cy B qr s1 w6 → FE ksC ([] : List (Nat × Nat × Nat)) w0 w6 → gi w6 39 8 = f56_39_8 → lv_has ls 3 [(0, .ref (ad 155)), (1, .int v56_1), (2, .int v4_2)] → W p l e ({ frames := 1, cells := 0, slots := 0, locals := 12 }) s m (List.toArray [.ref (ad 155)]) below meth c H locs 0 0 (MQ below (va_Qi (P_X4_latestUnsettled_1 ad cy B qr s1  w0) (fun u : va_W => wpost dC dI cy A u) A) (List.toArray [.ref (ad 155)]) s 0 0 A) (F0 m 56 ls []) := by
        intro v56_1 f56_39_8 H locs ls w6 r7 t8 r9 t10 r11 t12 hw hT hF c13 hl
        obtain ⟨x14, ex14⟩ : ∃ y : Int32, y = v4_2 + Int32.ofInt 1 := ⟨_, rfl⟩
        refine lv_iinc (v := x14) (lv' := [(2, .int x14), (0, .ref (ad 155)), (1, .int v56_1)]) hx hb dX4_latestUnsettled_56 hl (k := 2) rfl ex14.symm (by decide) rfl (fun ls hl => ?_)
        have ex14 : x14.toInt = v4_2.toInt + 1 := by rw [ex14]; exact wk_add (y := 1) (show -2147483648 ≤ v4_2.toInt + 1 by omega) (show v4_2.toInt + 1 ≤ 2147483647 by omega)
        refine lv_goto (tgt := 4) hx hb dX4_latestUnsettled_59 (by decide) ?_
        exact ih4 v56_1 x14 H locs ls w6 (show (-1) ≤ v56_1.toInt by omega) (show v56_1.toInt ≤ 9 by omega) (show 0 ≤ x14.toInt by omega) (show x14.toInt ≤ 10 by omega) (show (10 - x14.toInt).toNat < n4 by omega) hw hT hF  (lv_sub hl [1, 2, 0] rfl)
      have J54 : ∀ (f54_39_8 : Int32) (H : Heap) (locs : List Loc) (ls : Array Slot) (w15 : va_W), (-1) ≤ v4_1.toInt → v4_1.toInt ≤ 9 → 0 ≤ v4_2.toInt → v4_2.toInt ≤ 9 → 1 ≤ f54_39_8.toInt → f54_39_8.toInt ≤ 10 → Wd dC dI A s.heap H locs w15 → TW ksC ad cy B qr s1 w15 → FE ksC ([] : List (Nat × Nat × Nat)) w0 w15 → gi w15 39 8 = f54_39_8 → lv_has ls 3 [(0, .ref (ad 155)), (1, .int v4_1), (2, .int v4_2)] → W p l e ({ frames := 1, cells := 0, slots := 0, locals := 12 }) s m (List.toArray [.ref (ad 155)]) below meth c H locs 0 0 (MQ below (va_Qi (P_X4_latestUnsettled_1 ad cy B qr s1  w0) (fun u : va_W => wpost dC dI cy A u) A) (List.toArray [.ref (ad 155)]) s 0 0 A) (F0 m 54 ls []) := by
        intro f54_39_8 H locs ls w15 r16 t17 r18 t19 r20 t21 hw hT hF c22 hl
        refine lv_iload_n hx hb dX4_latestUnsettled_54 rfl (lv_at hl 2 rfl) ?_
        refine lv_istore_n (lv' := [(1, .int v4_2), (0, .ref (ad 155)), (2, .int v4_2)]) hx hb dX4_latestUnsettled_55 rfl hl (by decide) rfl (fun ls hl => ?_)
        exact J56 v4_2 f54_39_8 H locs ls w15 (show (-1) ≤ v4_2.toInt by omega) (show v4_2.toInt ≤ 9 by omega) (show 0 ≤ v4_2.toInt by omega) (show v4_2.toInt ≤ 9 by omega) (show 1 ≤ f54_39_8.toInt by omega) (show f54_39_8.toInt ≤ 10 by omega)  hw hT hF c22 (lv_sub hl [1, 0, 2] rfl)
      refine lv_iload_n hx hb dX4_latestUnsettled_4 rfl (lv_at hl 2 rfl) ?_
      refine lv_aload_n hx hb dX4_latestUnsettled_5 rfl (lv_at hl 0 rfl) ?_
      refine tk_getA hC hK hw hT hinX4 kC_at155 (by decide) rfl 1 (by decide) (List.mem_of_getElem? (i := 1) rfl) rfl rfl dX4_latestUnsettled_6 ?_
      refine tk_geti hC hK hw hT hinX7 kC_at39 (by decide) rfl 8 (by decide) (List.mem_of_getElem? (i := 2) rfl) rfl rfl dX4_latestUnsettled_9 (fun x23 c24 rx23 tx23 => ?_)
      refine lv_icmp_ge (tgt := 62) hx hb dX4_latestUnsettled_12 (by decide) (fun c25 => ?_) (fun c25 => ?_)
      · have c25 : x23.toInt ≤ v4_2.toInt := wk_le.mp c25
        refine lv_iload_n hx hb dX4_latestUnsettled_62 rfl (lv_at hl 1 rfl) ?_
        exact tk_iret hC hr hlocks hK ⟨hT, hF, ⟨(show (-1) ≤ v4_1.toInt by omega), (show v4_1.toInt ≤ 9 by omega)⟩⟩ hw dX4_latestUnsettled_63
      · have c25 : v4_2.toInt < x23.toInt := wk_leF c25
        refine lv_aload_n hx hb dX4_latestUnsettled_15 rfl (lv_at hl 0 rfl) ?_
        refine tk_getA hC hK hw hT hinX4 kC_at155 (by decide) rfl 3 (by decide) (List.mem_of_getElem? (i := 3) rfl) rfl rfl dX4_latestUnsettled_16 ?_
        refine lv_iload_n hx hb dX4_latestUnsettled_19 rfl (lv_at hl 2 rfl) ?_
        refine tk_zald hC hK hw hT kC_at157 rfl rfl (show 0 ≤ v4_2.toInt by omega) (show v4_2.toInt < 10 by omega) dX4_latestUnsettled_20 (fun x26 c27 rx26 tx26 => ?_)
        refine lv_if_ne (tgt := 56) hx hb dX4_latestUnsettled_21 (by decide) (fun c28 => ?_) (fun c28 => ?_)
        · have c28 : ¬ x26.toInt = (0 : Int) := wk_eqF c28
          exact J56 v4_1 x23 H locs ls w1 (show (-1) ≤ v4_1.toInt by omega) (show v4_1.toInt ≤ 9 by omega) (show 0 ≤ v4_2.toInt by omega) (show v4_2.toInt ≤ 9 by omega) (show 1 ≤ x23.toInt by omega) (show x23.toInt ≤ 10 by omega)  hw hT hF c24 (lv_sub hl [0, 1, 2] rfl)
        · have c28 : x26.toInt = (0 : Int) := wk_eq.mp c28
          refine lv_aload_n hx hb dX4_latestUnsettled_24 rfl (lv_at hl 0 rfl) ?_
          refine tk_getA hC hK hw hT hinX4 kC_at155 (by decide) rfl 2 (by decide) (List.mem_of_getElem? (i := 4) rfl) rfl rfl dX4_latestUnsettled_25 ?_
          refine lv_iload_n hx hb dX4_latestUnsettled_28 rfl (lv_at hl 2 rfl) ?_
          refine tk_iald hC hK hw hT kC_at156 rfl rfl (show 0 ≤ v4_2.toInt by omega) (show v4_2.toInt < 10 by omega) dX4_latestUnsettled_29 (fun x29 c30 rx29 tx29 => ?_)
          refine lv_iconst (v := (-1)) hx hb dX4_latestUnsettled_30 (by decide) ?_
          refine lv_icmp_eq (tgt := 56) hx hb dX4_latestUnsettled_31 (by decide) (fun c31 => ?_) (fun c31 => ?_)
          · have c31 : x29.toInt = (-1 : Int) := wk_eq.mp c31
            exact J56 v4_1 x23 H locs ls w1 (show (-1) ≤ v4_1.toInt by omega) (show v4_1.toInt ≤ 9 by omega) (show 0 ≤ v4_2.toInt by omega) (show v4_2.toInt ≤ 9 by omega) (show 1 ≤ x23.toInt by omega) (show x23.toInt ≤ 10 by omega)  hw hT hF c24 (lv_sub hl [0, 1, 2] rfl)
          · have c31 : ¬ x29.toInt = (-1 : Int) := wk_eqF c31
            refine lv_iload_n hx hb dX4_latestUnsettled_34 rfl (lv_at hl 1 rfl) ?_
            refine lv_iconst (v := (-1)) hx hb dX4_latestUnsettled_35 (by decide) ?_
            refine lv_icmp_eq (tgt := 54) hx hb dX4_latestUnsettled_36 (by decide) (fun c32 => ?_) (fun c32 => ?_)
            · have c32 : v4_1.toInt = (-1 : Int) := wk_eq.mp c32
              exact J54 x23 H locs ls w1 (show (-1) ≤ v4_1.toInt by omega) (show v4_1.toInt ≤ 9 by omega) (show 0 ≤ v4_2.toInt by omega) (show v4_2.toInt ≤ 9 by omega) (show 1 ≤ x23.toInt by omega) (show x23.toInt ≤ 10 by omega)  hw hT hF c24 (lv_sub hl [0, 1, 2] rfl)
            · have c32 : ¬ v4_1.toInt = (-1 : Int) := wk_eqF c32
              refine lv_aload_n hx hb dX4_latestUnsettled_39 rfl (lv_at hl 0 rfl) ?_
              refine tk_getA hC hK hw hT hinX4 kC_at155 (by decide) rfl 2 (by decide) (List.mem_of_getElem? (i := 4) rfl) rfl rfl dX4_latestUnsettled_40 ?_
              refine lv_iload_n hx hb dX4_latestUnsettled_43 rfl (lv_at hl 2 rfl) ?_
              refine tk_iald hC hK hw hT kC_at156 rfl rfl (show 0 ≤ v4_2.toInt by omega) (show v4_2.toInt < 10 by omega) dX4_latestUnsettled_44 (fun x33 c34 rx33 tx33 => ?_)
              refine lv_aload_n hx hb dX4_latestUnsettled_45 rfl (lv_at hl 0 rfl) ?_
              refine tk_getA hC hK hw hT hinX4 kC_at155 (by decide) rfl 2 (by decide) (List.mem_of_getElem? (i := 4) rfl) rfl rfl dX4_latestUnsettled_46 ?_
              refine lv_iload_n hx hb dX4_latestUnsettled_49 rfl (lv_at hl 1 rfl) ?_
              refine tk_iald hC hK hw hT kC_at156 rfl rfl (show 0 ≤ v4_1.toInt by omega) (show v4_1.toInt < 10 by omega) dX4_latestUnsettled_50 (fun x35 c36 rx35 tx35 => ?_)
              refine lv_icmp_le (tgt := 56) hx hb dX4_latestUnsettled_51 (by decide) (fun c37 => ?_) (fun c37 => ?_)
              · have c37 : x33.toInt ≤ x35.toInt := wk_le.mp c37
                exact J56 v4_1 x23 H locs ls w1 (show (-1) ≤ v4_1.toInt by omega) (show v4_1.toInt ≤ 9 by omega) (show 0 ≤ v4_2.toInt by omega) (show v4_2.toInt ≤ 9 by omega) (show 1 ≤ x23.toInt by omega) (show x23.toInt ≤ 10 by omega)  hw hT hF c24 (lv_sub hl [0, 1, 2] rfl)
              · have c37 : x35.toInt < x33.toInt := wk_leF c37
                exact J54 x23 H locs ls w1 (show (-1) ≤ v4_1.toInt by omega) (show v4_1.toInt ≤ 9 by omega) (show 0 ≤ v4_2.toInt by omega) (show v4_2.toInt ≤ 9 by omega) (show 1 ≤ x23.toInt by omega) (show x23.toInt ≤ 10 by omega)  hw hT hF c24 (lv_sub hl [0, 1, 2] rfl)
  refine lv_iconst (v := (-1)) hx hb dX4_latestUnsettled_0 (by decide) ?_
  refine lv_istore_n (lv' := [(1, .int (-1)), (0, .ref (ad 155))]) hx hb dX4_latestUnsettled_1 rfl hl (by decide) rfl (fun ls hl => ?_)
  refine lv_iconst (v := 0) hx hb dX4_latestUnsettled_2 (by decide) ?_
  refine lv_istore_n (lv' := [(2, .int 0), (1, .int (-1)), (0, .ref (ad 155))]) hx hb dX4_latestUnsettled_3 rfl hl (by decide) rfl (fun ls hl => ?_)
  exact L4 ((10 - (0 : Int)).toNat + 1) (-1) 0 s.heap locs ls w0 (by decide) (by decide) (by decide) (by decide) (Nat.lt_succ_self _) hw hT hF  (lv_sub hl [2, 1, 0] rfl)
abbrev P_X4_findLatest_1 (ad : Nat → Nat) (cy : Nat → ClassId) (B : Int) (qr : Nat) (s1 : Int) (a1 : Int32) (a2 : Int32) (a3 : Int32) (w0 : va_W) : va_W → Prop := fun u => TW ksC ad cy B qr s1 u ∧ FE ksC [(48, 0, 10), (49, 0, 10)] w0 u ∧ ((True))
set_option maxHeartbeats 4000000 in
set_option maxRecDepth 100000 in
theorem k_X4_findLatest_1 (l : Launch) (adK adV : Nat → Nat) (dC : Nat → ClassId) (dI : Nat → Nat → Nat) (cy : Nat → ClassId) (ad : Nat → Nat) (B : Int) (hB0 : 2147483648 ≤ B) (hB1 : B ≤ 1152921504606846976) (qr : Nat) (s1 : Int)  (a1 : Int32) (ra1 : 0 ≤ a1.toInt) (ta1 : a1.toInt ≤ 9) (a2 : Int32) (ra2 : 0 ≤ a2.toInt) (ta2 : a2.toInt ≤ 99999) (a3 : Int32) (ra3 : 0 ≤ a3.toInt) (ta3 : a3.toInt ≤ 102119) (w0 : va_W) (sz : Nat) (hT : TW ksC ad cy B qr s1 w0)  : Met l yX4_findLatest wsX4_findLatest ({ frames := 4, cells := 0, slots := 0, locals := 94 }) (va_Pc [.ref (ad 155), .int a1, .int a2, .int a3] (wpreS adK adV dC dI cy sz w0)) (va_Qv (P_X4_findLatest_1 ad cy B qr s1 a1 a2 a3 w0) (fun u : va_W => wpost dC dI cy (va_A w0 sz) u) (va_A w0 sz)) 0 0 (va_A w0 sz) := by
  refine Met.ofW (cc := cX4_findLatest) (maxL := 7) (ret := none) (by decide) rfl ?_
  intro p e s m args below meth c s₁ Bk hml hv
  obtain ⟨rfl, ⟨hsz, hP, hK, hD0⟩, hE, hSR⟩ := hv
  have hx := Bk.exec
  have hb := Bk.bytes
  have hr := Bk.returns
  have hlocks := Bk.notSynchronized
  have hC : CallFix p m c cX4_findLatest 7 s _ wsX4_findLatest RX4 := ⟨hx, hb, hml, findClass_of_methodNamed Bk.named, atoms_spec (ws := wsX4_findLatest) Bk.pre⟩
  subst hsz
  have hD := hD0.self (sz := s.heap.size)
  generalize hAe : va_A w0 s.heap.size = A at hD hE ⊢
  have hA : ∀ q : Nat, s.heap.size ≤ q → A q := fun q h => by rw [← hAe]; exact Or.inr h
  have hw : Wd dC dI A s.heap s.heap [] w0 := ⟨hP, hD, va_S.rf⟩
  have hF : FE ksC [(48, 0, 10), (49, 0, 10)] w0 w0 := FE.rf
  have hl := lv_entry ([.ref (ad 155), .int a1, .int a2, .int a3]) (n := 7) (Nat.le_of_ble_eq_true rfl)
  rw [lg_entry_eq]
  generalize (lg_sl ([.ref (ad 155), .int a1, .int a2, .int a3]) ++ List.replicate (7 - (lg_sl ([.ref (ad 155), .int a1, .int a2, .int a3])).length) Slot.unset).toArray = ls at hl ⊢
  have hl : lv_has ls 7 [(0, .ref (ad 155)), (1, .int a1), (2, .int a2), (3, .int a3)] := hl
  generalize hloc : ([] : List Loc) = locs at hw ⊢
  have hinX4 : ∀ w ∈ u_ws RX4 TX4 4, w ∈ wsX4_findLatest := fun _ h => List.mem_cons_of_mem _ (List.mem_append_left _ (List.mem_append_right _ (h)))
  have hinX7 : ∀ w ∈ u_ws RX7 TX7 12, w ∈ wsX4_findLatest := fun _ h => List.mem_cons_of_mem _ (List.mem_append_right _ (h))
  have L14 : ∀ (n14 : Nat) (v14_4 : Int32) (H : Heap) (locs : List Loc) (ls : Array Slot) (w1 : va_W), 0 ≤ a1.toInt → a1.toInt ≤ 9 → 0 ≤ a2.toInt → a2.toInt ≤ 99999 → 0 ≤ a3.toInt → a3.toInt ≤ 102119 → 0 ≤ v14_4.toInt → v14_4.toInt ≤ 10 → (10 - v14_4.toInt).toNat < n14 → Wd dC dI A s.heap H locs w1 → TW ksC ad cy B qr s1 w1 → FE ksC [(48, 0, 10), (49, 0, 10)] w0 w1 → lv_has ls 7 [(0, .ref (ad 155)), (1, .int a1), (2, .int a2), (3, .int a3), (4, .int v14_4)] → W p l e ({ frames := 4, cells := 0, slots := 0, locals := 94 }) s m (List.toArray [.ref (ad 155), .int a1, .int a2, .int a3]) below meth c H locs 0 0 (MQ below (va_Qv (P_X4_findLatest_1 ad cy B qr s1 a1 a2 a3 w0) (fun u : va_W => wpost dC dI cy A u) A) (List.toArray [.ref (ad 155), .int a1, .int a2, .int a3]) s 0 0 A) (F0 m 14 ls []) := by
    intro n14
    induction n14 with
    | zero => intro v14_4 H locs ls w1 r2 t3 r4 t5 r6 t7 r8 t9 hm14 hw hT hF hl; omega
    | succ n14 ih14 =>
      intro v14_4 H locs ls w1 r2 t3 r4 t5 r6 t7 r8 t9 hm14 hw hT hF hl
      have L50 : ∀ (n50 : Nat) (v50_5 : Int32) (v50_6 : Int32) (f50_39_8 : Int32) (H : Heap) (locs : List Loc) (ls : Array Slot) (w10 : va_W), 0 ≤ a1.toInt → a1.toInt ≤ 9 → 0 ≤ a2.toInt → a2.toInt ≤ 99999 → 0 ≤ a3.toInt → a3.toInt ≤ 102119 → 0 ≤ v14_4.toInt → v14_4.toInt ≤ 9 → 0 ≤ v50_5.toInt → v50_5.toInt ≤ 9 → 0 ≤ v50_6.toInt → v50_6.toInt ≤ 12 → 1 ≤ f50_39_8.toInt → f50_39_8.toInt ≤ 10 → (12 - v50_6.toInt).toNat < n50 → Wd dC dI A s.heap H locs w10 → TW ksC ad cy B qr s1 w10 → FE ksC [(48, 0, 10), (49, 0, 10)] w0 w10 → gi w10 39 8 = f50_39_8 → lv_has ls 7 [(0, .ref (ad 155)), (1, .int a1), (2, .int a2), (3, .int a3), (4, .int v14_4), (5, .int v50_5), (6, .int v50_6)] → W p l e ({ frames := 4, cells := 0, slots := 0, locals := 94 }) s m (List.toArray [.ref (ad 155), .int a1, .int a2, .int a3]) below meth c H locs 0 0 (MQ below (va_Qv (P_X4_findLatest_1 ad cy B qr s1 a1 a2 a3 w0) (fun u : va_W => wpost dC dI cy A u) A) (List.toArray [.ref (ad 155), .int a1, .int a2, .int a3]) s 0 0 A) (F0 m 50 ls []) := by
        intro n50
        induction n50 with
        | zero => intro v50_5 v50_6 f50_39_8 H locs ls w10 r11 t12 r13 t14 r15 t16 r17 t18 r19 t20 r21 t22 r23 t24 hm50 hw hT hF c25 hl; omega
        | succ n50 ih50 =>
          intro v50_5 v50_6 f50_39_8 H locs ls w10 r11 t12 r13 t14 r15 t16 r17 t18 r19 t20 r21 t22 r23 t24 hm50 hw hT hF c25 hl
          refine lv_iload hx hb dX4_findLatest_50 (lv_at hl 6 rfl) ?_
          refine lv_aload_n hx hb dX4_findLatest_52 rfl (lv_at hl 0 rfl) ?_
          refine tk_getA hC hK hw hT hinX4 kC_at155 (by decide) rfl 1 (by decide) (List.mem_of_getElem? (i := 2) rfl) rfl rfl dX4_findLatest_53 ?_
          refine tk_geti hC hK hw hT hinX7 kC_at39 (by decide) rfl 9 (by decide) (List.mem_of_getElem? (i := 5) rfl) rfl rfl dX4_findLatest_56 (fun x26 c27 rx26 tx26 => ?_)
          refine lv_icmp_ge (tgt := 77) hx hb dX4_findLatest_59 (by decide) (fun c28 => ?_) (fun c28 => ?_)
          · have c28 : x26.toInt ≤ v50_6.toInt := wk_le.mp c28
            obtain ⟨x29, ex29⟩ : ∃ y : Int32, y = v14_4 + Int32.ofInt 1 := ⟨_, rfl⟩
            refine lv_iinc (v := x29) (lv' := [(4, .int x29), (0, .ref (ad 155)), (1, .int a1), (2, .int a2), (3, .int a3), (5, .int v50_5), (6, .int v50_6)]) hx hb dX4_findLatest_77 hl (k := 4) rfl ex29.symm (by decide) rfl (fun ls hl => ?_)
            have ex29 : x29.toInt = v14_4.toInt + 1 := by rw [ex29]; exact wk_add (y := 1) (show -2147483648 ≤ v14_4.toInt + 1 by omega) (show v14_4.toInt + 1 ≤ 2147483647 by omega)
            refine lv_goto (tgt := 14) hx hb dX4_findLatest_80 (by decide) ?_
            exact ih14 x29 H locs ls w10 (show 0 ≤ a1.toInt by omega) (show a1.toInt ≤ 9 by omega) (show 0 ≤ a2.toInt by omega) (show a2.toInt ≤ 99999 by omega) (show 0 ≤ a3.toInt by omega) (show a3.toInt ≤ 102119 by omega) (show 0 ≤ x29.toInt by omega) (show x29.toInt ≤ 10 by omega) (show (10 - x29.toInt).toNat < n14 by omega) hw hT hF  (lv_sub hl [1, 2, 3, 4, 0] rfl)
          · have c28 : v50_6.toInt < x26.toInt := wk_leF c28
            refine lv_aload_n hx hb dX4_findLatest_62 rfl (lv_at hl 0 rfl) ?_
            refine lv_iload hx hb dX4_findLatest_63 (lv_at hl 6 rfl) ?_
            refine lv_iload hx hb dX4_findLatest_65 (lv_at hl 5 rfl) ?_
            refine lv_iload_n hx hb dX4_findLatest_67 rfl (lv_at hl 2 rfl) ?_
            refine tk_Vv hC hK hw hT hA hE hSR kC_at155 (by decide) rfl (k_X4_leaveBy_1 l adK adV dC dI cy ad B (by omega) (by omega) qr s1   v50_6 (show 0 ≤ v50_6.toInt by omega) (show v50_6.toInt ≤ 11 by omega) v50_5 (show 0 ≤ v50_5.toInt by omega) (show v50_5.toInt ≤ 9 by omega) a2 (show 0 ≤ a2.toInt by omega) (show a2.toInt ≤ 99999 by omega) w10 H.size hT ) (cwV 3 hC.2.2.2.2 gX4_findLatest_X4_leaveBy rfl rfl rfl (by decide +kernel) ⟨Nat.le_of_ble_eq_true rfl, Nat.le_of_ble_eq_true rfl⟩) rfl hl.1 rfl (Nat.le_of_ble_eq_true rfl) dX4_findLatest_68 (fun w32 H locs hp31 hw => ?_)
            obtain ⟨hT, k33, hg36⟩ := hp31
            have hF := hF.tr k33 (by decide)
            have c37 := k33.gi kC_at39 (by decide) c25
            have c38 := k33.gi kC_at39 (by decide) c27
            rcases hg36 with c34 | c35 | -
            · obtain ⟨x39, ex39⟩ : ∃ y : Int32, y = v50_6 + Int32.ofInt 1 := ⟨_, rfl⟩
              refine lv_iinc (v := x39) (lv' := [(6, .int x39), (0, .ref (ad 155)), (1, .int a1), (2, .int a2), (3, .int a3), (4, .int v14_4), (5, .int v50_5)]) hx hb dX4_findLatest_71 hl (k := 6) rfl ex39.symm (by decide) rfl (fun ls hl => ?_)
              have ex39 : x39.toInt = v50_6.toInt + 1 := by rw [ex39]; exact wk_add (y := 1) (show -2147483648 ≤ v50_6.toInt + 1 by omega) (show v50_6.toInt + 1 ≤ 2147483647 by omega)
              refine lv_goto (tgt := 50) hx hb dX4_findLatest_74 (by decide) ?_
              exact ih50 v50_5 x39 f50_39_8 H locs ls w32 (show 0 ≤ a1.toInt by omega) (show a1.toInt ≤ 9 by omega) (show 0 ≤ a2.toInt by omega) (show a2.toInt ≤ 99999 by omega) (show 0 ≤ a3.toInt by omega) (show a3.toInt ≤ 102119 by omega) (show 0 ≤ v14_4.toInt by omega) (show v14_4.toInt ≤ 9 by omega) (show 0 ≤ v50_5.toInt by omega) (show v50_5.toInt ≤ 9 by omega) (show 0 ≤ x39.toInt by omega) (show x39.toInt ≤ 12 by omega) (show 1 ≤ f50_39_8.toInt by omega) (show f50_39_8.toInt ≤ 10 by omega) (show (12 - x39.toInt).toNat < n50 by omega) hw hT hF c37 (lv_sub hl [1, 2, 3, 4, 5, 6, 0] rfl)
            · obtain ⟨x40, ex40⟩ : ∃ y : Int32, y = v50_6 + Int32.ofInt 1 := ⟨_, rfl⟩
              refine lv_iinc (v := x40) (lv' := [(6, .int x40), (0, .ref (ad 155)), (1, .int a1), (2, .int a2), (3, .int a3), (4, .int v14_4), (5, .int v50_5)]) hx hb dX4_findLatest_71 hl (k := 6) rfl ex40.symm (by decide) rfl (fun ls hl => ?_)
              have ex40 : x40.toInt = v50_6.toInt + 1 := by rw [ex40]; exact wk_add (y := 1) (show -2147483648 ≤ v50_6.toInt + 1 by omega) (show v50_6.toInt + 1 ≤ 2147483647 by omega)
              refine lv_goto (tgt := 50) hx hb dX4_findLatest_74 (by decide) ?_
              exact ih50 v50_5 x40 f50_39_8 H locs ls w32 (show 0 ≤ a1.toInt by omega) (show a1.toInt ≤ 9 by omega) (show 0 ≤ a2.toInt by omega) (show a2.toInt ≤ 99999 by omega) (show 0 ≤ a3.toInt by omega) (show a3.toInt ≤ 102119 by omega) (show 0 ≤ v14_4.toInt by omega) (show v14_4.toInt ≤ 9 by omega) (show 0 ≤ v50_5.toInt by omega) (show v50_5.toInt ≤ 9 by omega) (show 0 ≤ x40.toInt by omega) (show x40.toInt ≤ 12 by omega) (show 1 ≤ f50_39_8.toInt by omega) (show f50_39_8.toInt ≤ 10 by omega) (show (12 - x40.toInt).toNat < n50 by omega) hw hT hF c37 (lv_sub hl [1, 2, 3, 4, 5, 6, 0] rfl)
            · obtain ⟨x41, ex41⟩ : ∃ y : Int32, y = v50_6 + Int32.ofInt 1 := ⟨_, rfl⟩
              refine lv_iinc (v := x41) (lv' := [(6, .int x41), (0, .ref (ad 155)), (1, .int a1), (2, .int a2), (3, .int a3), (4, .int v14_4), (5, .int v50_5)]) hx hb dX4_findLatest_71 hl (k := 6) rfl ex41.symm (by decide) rfl (fun ls hl => ?_)
              have ex41 : x41.toInt = v50_6.toInt + 1 := by rw [ex41]; exact wk_add (y := 1) (show -2147483648 ≤ v50_6.toInt + 1 by omega) (show v50_6.toInt + 1 ≤ 2147483647 by omega)
              refine lv_goto (tgt := 50) hx hb dX4_findLatest_74 (by decide) ?_
              exact ih50 v50_5 x41 f50_39_8 H locs ls w32 (show 0 ≤ a1.toInt by omega) (show a1.toInt ≤ 9 by omega) (show 0 ≤ a2.toInt by omega) (show a2.toInt ≤ 99999 by omega) (show 0 ≤ a3.toInt by omega) (show a3.toInt ≤ 102119 by omega) (show 0 ≤ v14_4.toInt by omega) (show v14_4.toInt ≤ 9 by omega) (show 0 ≤ v50_5.toInt by omega) (show v50_5.toInt ≤ 9 by omega) (show 0 ≤ x41.toInt by omega) (show x41.toInt ≤ 12 by omega) (show 1 ≤ f50_39_8.toInt by omega) (show f50_39_8.toInt ≤ 10 by omega) (show (12 - x41.toInt).toNat < n50 by omega) hw hT hF c37 (lv_sub hl [1, 2, 3, 4, 5, 6, 0] rfl)
      refine lv_iload hx hb dX4_findLatest_14 (lv_at hl 4 rfl) ?_
      refine lv_aload_n hx hb dX4_findLatest_16 rfl (lv_at hl 0 rfl) ?_
      refine tk_getA hC hK hw hT hinX4 kC_at155 (by decide) rfl 1 (by decide) (List.mem_of_getElem? (i := 2) rfl) rfl rfl dX4_findLatest_17 ?_
      refine tk_geti hC hK hw hT hinX7 kC_at39 (by decide) rfl 8 (by decide) (List.mem_of_getElem? (i := 3) rfl) rfl rfl dX4_findLatest_20 (fun x42 c43 rx42 tx42 => ?_)
      refine lv_icmp_ge (tgt := 83) hx hb dX4_findLatest_23 (by decide) (fun c44 => ?_) (fun c44 => ?_)
      · have c44 : x42.toInt ≤ v14_4.toInt := wk_le.mp c44
        exact tk_vret hC hr hlocks hK ⟨hT, hF, trivial⟩ hw dX4_findLatest_83
      · have c44 : v14_4.toInt < x42.toInt := wk_leF c44
        refine lv_aload_n hx hb dX4_findLatest_26 rfl (lv_at hl 0 rfl) ?_
        refine tk_Vi hC hK hw hT hA hE hSR kC_at155 (by decide) rfl (k_X4_latestUnsettled_1 l adK adV dC dI cy ad B (by omega) (by omega) qr s1    w1 H.size hT ) (cwV 0 hC.2.2.2.2 gX4_findLatest_X4_latestUnsettled rfl rfl rfl (by decide +kernel) ⟨Nat.le_of_ble_eq_true rfl, Nat.le_of_ble_eq_true rfl⟩) rfl hl.1 rfl (Nat.le_of_ble_eq_true rfl) dX4_findLatest_27 (fun r45 w47 H locs hp46 hw => ?_)
        obtain ⟨hT, k48, hg51⟩ := hp46
        have hF := hF.tr k48 (by decide)
        have c52 := k48.gi kC_at39 (by decide) c43
        obtain ⟨g49, g50⟩ := hg51
        refine lv_istore (lv' := [(5, .int r45), (0, .ref (ad 155)), (1, .int a1), (2, .int a2), (3, .int a3), (4, .int v14_4)]) hx hb dX4_findLatest_30 hl (by decide) rfl (fun ls hl => ?_)
        refine lv_iload hx hb dX4_findLatest_32 (lv_at hl 0 rfl) ?_
        refine lv_iconst (v := (-1)) hx hb dX4_findLatest_34 (by decide) ?_
        refine lv_icmp_ne (tgt := 39) hx hb dX4_findLatest_35 (by decide) (fun c53 => ?_) (fun c53 => ?_)
        · have c53 : ¬ r45.toInt = (-1 : Int) := wk_eqF c53
          refine lv_aload_n hx hb dX4_findLatest_39 rfl (lv_at hl 1 rfl) ?_
          refine tk_getA hC hK hw hT hinX4 kC_at155 (by decide) rfl 3 (by decide) (List.mem_of_getElem? (i := 4) rfl) rfl rfl dX4_findLatest_40 ?_
          refine lv_iload hx hb dX4_findLatest_43 (lv_at hl 0 rfl) ?_
          refine lv_iconst (v := 1) hx hb dX4_findLatest_45 (by decide) ?_
          refine tk_zast hC hK hw hT kC_at157 (by decide) rfl rfl (show 0 ≤ r45.toInt by omega) (show r45.toInt < 10 by omega) (by decide) (by decide) dX4_findLatest_46 (fun H locs w54 hw hT k56 c55 => ?_)
          have hF := hF.put kC_at157 (inE_of (a := 0) (b := 10) (by decide) (show 0 ≤ r45.toInt.toNat by omega) (show r45.toInt.toNat ≤ 10 by omega)) k56
          have c57 := k56.gi (Or.inl (tk_ne kC_at39 kC_at157 (by decide))) c52
          refine lv_iconst (v := 0) hx hb dX4_findLatest_47 (by decide) ?_
          refine lv_istore (lv' := [(6, .int 0), (5, .int r45), (0, .ref (ad 155)), (1, .int a1), (2, .int a2), (3, .int a3), (4, .int v14_4)]) hx hb dX4_findLatest_48 hl (by decide) rfl (fun ls hl => ?_)
          exact L50 ((12 - (0 : Int)).toNat + 1) r45 0 x42 H locs ls w54 (show 0 ≤ a1.toInt by omega) (show a1.toInt ≤ 9 by omega) (show 0 ≤ a2.toInt by omega) (show a2.toInt ≤ 99999 by omega) (show 0 ≤ a3.toInt by omega) (show a3.toInt ≤ 102119 by omega) (show 0 ≤ v14_4.toInt by omega) (show v14_4.toInt ≤ 9 by omega) (show 0 ≤ r45.toInt by omega) (show r45.toInt ≤ 9 by omega) (by decide) (by decide) (show 1 ≤ x42.toInt by omega) (show x42.toInt ≤ 10 by omega) (Nat.lt_succ_self _) hw hT hF c57 (lv_sub hl [2, 3, 4, 5, 6, 1, 0] rfl)
        · have c53 : r45.toInt = (-1 : Int) := wk_eq.mp c53
          exact tk_vret hC hr hlocks hK ⟨hT, hF, trivial⟩ hw dX4_findLatest_38
  refine lv_aload_n hx hb dX4_findLatest_0 rfl (lv_at hl 0 rfl) ?_
  refine tk_Vv hC hK hw hT hA hE hSR kC_at155 (by decide) rfl (k_X4_clear_1 l adK adV dC dI cy ad B (by omega) (by omega) qr s1    w0 s.heap.size hT ) (cwV 0 hC.2.2.2.2 gX4_findLatest_X4_clear rfl rfl rfl (by decide +kernel) ⟨Nat.le_of_ble_eq_true rfl, Nat.le_of_ble_eq_true rfl⟩) rfl hl.1 rfl (Nat.le_of_ble_eq_true rfl) dX4_findLatest_1 (fun w60 H locs hp59 hw => ?_)
  obtain ⟨hT, k61, hg62⟩ := hp59
  have hF := hF.tr k61 (by decide)
  clear hg62
  refine lv_aload_n hx hb dX4_findLatest_4 rfl (lv_at hl 0 rfl) ?_
  refine tk_getA hC hK hw hT hinX4 kC_at155 (by decide) rfl 2 (by decide) (List.mem_of_getElem? (i := 1) rfl) rfl rfl dX4_findLatest_5 ?_
  refine lv_iload_n hx hb dX4_findLatest_8 rfl (lv_at hl 1 rfl) ?_
  refine lv_iload_n hx hb dX4_findLatest_9 rfl (lv_at hl 3 rfl) ?_
  refine tk_iast hC hK hw hT kC_at156 (by decide) rfl rfl (show 0 ≤ a1.toInt by omega) (show a1.toInt < 10 by omega) (show (-1) ≤ a3.toInt by omega) (show a3.toInt ≤ 102119 by omega) dX4_findLatest_10 (fun H locs w63 hw hT k65 c64 => ?_)
  have hF := hF.put kC_at156 (inE_of (a := 0) (b := 10) (by decide) (show 0 ≤ a1.toInt.toNat by omega) (show a1.toInt.toNat ≤ 10 by omega)) k65
  refine lv_iconst (v := 0) hx hb dX4_findLatest_11 (by decide) ?_
  refine lv_istore (lv' := [(4, .int 0), (0, .ref (ad 155)), (1, .int a1), (2, .int a2), (3, .int a3)]) hx hb dX4_findLatest_12 hl (by decide) rfl (fun ls hl => ?_)
  exact L14 ((10 - (0 : Int)).toNat + 1) 0 H locs ls w63 (show 0 ≤ a1.toInt by omega) (show a1.toInt ≤ 9 by omega) (show 0 ≤ a2.toInt by omega) (show a2.toInt ≤ 99999 by omega) (show 0 ≤ a3.toInt by omega) (show a3.toInt ≤ 102119 by omega) (by decide) (by decide) (Nat.lt_succ_self _) hw hT hF  (lv_sub hl [1, 2, 3, 4, 0] rfl)
abbrev P_X4_streetOnWay_1 (ad : Nat → Nat) (cy : Nat → ClassId) (B : Int) (qr : Nat) (s1 : Int) (a1 : Int32) (a2 : Int32) (a3 : Int32) (a4 : Int32) (w0 : va_W) : Int32 → va_W → Prop := fun r u => TW ksC ad cy B qr s1 u ∧ FE ksC [(48, 0, 10), (49, 0, 10)] w0 u ∧ ((0 ≤ r.toInt ∧ r.toInt ≤ 11 ∧ a4.toInt ≤ 2000 ∧ (∃ y : Int32, gi u 39 8 = y ∧ 1 ≤ y.toInt ∧ y.toInt ≤ 10) ∧ (∃ y : Int32, gi u 39 9 = y ∧ 1 ≤ y.toInt ∧ y.toInt ≤ 12)) ∨ (r = (-1)))
set_option maxHeartbeats 4000000 in
set_option maxRecDepth 100000 in
theorem k_X4_streetOnWay_1 (l : Launch) (adK adV : Nat → Nat) (dC : Nat → ClassId) (dI : Nat → Nat → Nat) (cy : Nat → ClassId) (ad : Nat → Nat) (B : Int) (hB0 : 2147483648 ≤ B) (hB1 : B ≤ 1152921504606846976) (qr : Nat) (s1 : Int)  (a1 : Int32) (ra1 : 0 ≤ a1.toInt) (ta1 : a1.toInt ≤ 9) (a2 : Int32) (ra2 : 0 ≤ a2.toInt) (ta2 : a2.toInt ≤ 9) (a3 : Int32) (ra3 : 0 ≤ a3.toInt) (ta3 : a3.toInt ≤ 99999) (a4 : Int32) (ra4 : 0 ≤ a4.toInt) (w0 : va_W) (sz : Nat) (hT : TW ksC ad cy B qr s1 w0)  : Met l yX4_streetOnWay wsX4_streetOnWay ({ frames := 5, cells := 0, slots := 0, locals := 122 }) (va_Pc [.ref (ad 155), .int a1, .int a2, .int a3, .int a4] (wpreS adK adV dC dI cy sz w0)) (va_Qi (P_X4_streetOnWay_1 ad cy B qr s1 a1 a2 a3 a4 w0) (fun u : va_W => wpost dC dI cy (va_A w0 sz) u) (va_A w0 sz)) 0 0 (va_A w0 sz) := by
  refine Met.ofW (cc := cX4_streetOnWay) (maxL := 11) (ret := (some .int)) (by decide) rfl ?_
  intro p e s m args below meth c s₁ Bk hml hv
  obtain ⟨rfl, ⟨hsz, hP, hK, hD0⟩, hE, hSR⟩ := hv
  have hx := Bk.exec
  have hb := Bk.bytes
  have hr := Bk.returns
  have hlocks := Bk.notSynchronized
  have hC : CallFix p m c cX4_streetOnWay 11 s _ wsX4_streetOnWay RX4 := ⟨hx, hb, hml, findClass_of_methodNamed Bk.named, atoms_spec (ws := wsX4_streetOnWay) Bk.pre⟩
  subst hsz
  have hD := hD0.self (sz := s.heap.size)
  generalize hAe : va_A w0 s.heap.size = A at hD hE ⊢
  have hA : ∀ q : Nat, s.heap.size ≤ q → A q := fun q h => by rw [← hAe]; exact Or.inr h
  have hw : Wd dC dI A s.heap s.heap [] w0 := ⟨hP, hD, va_S.rf⟩
  have hF : FE ksC [(48, 0, 10), (49, 0, 10)] w0 w0 := FE.rf
  have hl := lv_entry ([.ref (ad 155), .int a1, .int a2, .int a3, .int a4]) (n := 11) (Nat.le_of_ble_eq_true rfl)
  rw [lg_entry_eq]
  generalize (lg_sl ([.ref (ad 155), .int a1, .int a2, .int a3, .int a4]) ++ List.replicate (11 - (lg_sl ([.ref (ad 155), .int a1, .int a2, .int a3, .int a4])).length) Slot.unset).toArray = ls at hl ⊢
  have hl : lv_has ls 11 [(0, .ref (ad 155)), (1, .int a1), (2, .int a2), (3, .int a3), (4, .int a4)] := hl
  generalize hloc : ([] : List Loc) = locs at hw ⊢
  have hinX4 : ∀ w ∈ u_ws RX4 TX4 4, w ∈ wsX4_streetOnWay := fun _ h => List.mem_cons_of_mem _ (List.mem_append_left _ (List.mem_append_right _ (h)))
  have hinX7 : ∀ w ∈ u_ws RX7 TX7 12, w ∈ wsX4_streetOnWay := fun _ h => List.mem_cons_of_mem _ (List.mem_append_right _ (h))
  have L41 : ∀ (n41 : Nat) (v41_5 : Int32) (v41_6 : Int32) (v41_7 : Int32) (v41_8 : Int32) (f41_39_8 : Int32) (f41_39_9 : Int32) (H : Heap) (locs : List Loc) (ls : Array Slot) (w1 : va_W), 0 ≤ a1.toInt → a1.toInt ≤ 9 → 0 ≤ a2.toInt → a2.toInt ≤ 9 → 0 ≤ a3.toInt → a3.toInt ≤ 99999 → 0 ≤ a4.toInt → 0 ≤ v41_5.toInt → v41_5.toInt ≤ 102119 → 0 ≤ v41_6.toInt → v41_6.toInt ≤ 9 → (-1) ≤ v41_7.toInt → v41_7.toInt ≤ 102128 → 0 ≤ v41_8.toInt → v41_8.toInt ≤ 2001 → 1 ≤ f41_39_8.toInt → f41_39_8.toInt ≤ 10 → 0 ≤ f41_39_9.toInt → f41_39_9.toInt ≤ 12 → (2001 - v41_8.toInt).toNat < n41 → Wd dC dI A s.heap H locs w1 → TW ksC ad cy B qr s1 w1 → FE ksC [(48, 0, 10), (49, 0, 10)] w0 w1 → gi w1 39 8 = f41_39_8 → gi w1 39 9 = f41_39_9 → lv_has ls 11 [(0, .ref (ad 155)), (1, .int a1), (2, .int a2), (3, .int a3), (4, .int a4), (5, .int v41_5), (6, .int v41_6), (7, .int v41_7), (8, .int v41_8)] → W p l e ({ frames := 5, cells := 0, slots := 0, locals := 122 }) s m (List.toArray [.ref (ad 155), .int a1, .int a2, .int a3, .int a4]) below meth c H locs 0 0 (MQ below (va_Qi (P_X4_streetOnWay_1 ad cy B qr s1 a1 a2 a3 a4 w0) (fun u : va_W => wpost dC dI cy A u) A) (List.toArray [.ref (ad 155), .int a1, .int a2, .int a3, .int a4]) s 0 0 A) (F0 m 41 ls []) := by
    intro n41
    induction n41 with
    | zero => intro v41_5 v41_6 v41_7 v41_8 f41_39_8 f41_39_9 H locs ls w1 r2 t3 r4 t5 r6 t7 r8 r9 t10 r11 t12 r13 t14 r15 t16 r17 t18 r20 t21 hm41 hw hT hF c19 c22 hl; omega
    | succ n41 ih41 =>
      intro v41_5 v41_6 v41_7 v41_8 f41_39_8 f41_39_9 H locs ls w1 r2 t3 r4 t5 r6 t7 r8 r9 t10 r11 t12 r13 t14 r15 t16 r17 t18 r20 t21 hm41 hw hT hF c19 c22 hl
      refine lv_iload hx hb dX4_streetOnWay_41 (lv_at hl 8 rfl) ?_
      refine lv_iload hx hb dX4_streetOnWay_43 (lv_at hl 4 rfl) ?_
      refine lv_icmp_gt (tgt := 148) hx hb dX4_streetOnWay_45 (by decide) (fun c23 => ?_) (fun c23 => ?_)
      · have c23 : a4.toInt < v41_8.toInt := wk_lt.mp c23
        refine lv_iconst (v := (-1)) hx hb dX4_streetOnWay_148 (by decide) ?_
        exact tk_iret hC hr hlocks hK ⟨hT, hF, (Or.inr rfl)⟩ hw dX4_streetOnWay_149
      · have c23 : v41_8.toInt ≤ a4.toInt := wk_ltF c23
        refine lv_iload hx hb dX4_streetOnWay_48 (lv_at hl 8 rfl) ?_
        refine lv_sipush (v := 2000) hx hb dX4_streetOnWay_50 (by decide) ?_
        refine lv_icmp_gt (tgt := 148) hx hb dX4_streetOnWay_53 (by decide) (fun c24 => ?_) (fun c24 => ?_)
        · have c24 : (2000 : Int) < v41_8.toInt := wk_lt.mp c24
          refine lv_iconst (v := (-1)) hx hb dX4_streetOnWay_148 (by decide) ?_
          exact tk_iret hC hr hlocks hK ⟨hT, hF, (Or.inr rfl)⟩ hw dX4_streetOnWay_149
        · have c24 : v41_8.toInt ≤ (2000 : Int) := wk_ltF c24
          refine lv_iload hx hb dX4_streetOnWay_56 (lv_at hl 6 rfl) ?_
          refine lv_iload_n hx hb dX4_streetOnWay_58 rfl (lv_at hl 2 rfl) ?_
          refine lv_icmp_eq (tgt := 148) hx hb dX4_streetOnWay_59 (by decide) (fun c25 => ?_) (fun c25 => ?_)
          · have c25 : v41_6.toInt = a2.toInt := wk_eq.mp c25
            refine lv_iconst (v := (-1)) hx hb dX4_streetOnWay_148 (by decide) ?_
            exact tk_iret hC hr hlocks hK ⟨hT, hF, (Or.inr rfl)⟩ hw dX4_streetOnWay_149
          · have c25 : ¬ v41_6.toInt = a2.toInt := wk_eqF c25
            refine lv_aload_n hx hb dX4_streetOnWay_62 rfl (lv_at hl 0 rfl) ?_
            refine lv_iload hx hb dX4_streetOnWay_63 (lv_at hl 6 rfl) ?_
            refine lv_iload hx hb dX4_streetOnWay_65 (lv_at hl 7 rfl) ?_
            refine tk_Vi hC hK hw hT hA hE hSR kC_at155 (by decide) rfl (k_X4_leastStreet_1 l adK adV dC dI cy ad B (by omega) (by omega) qr s1   v41_6 (show 0 ≤ v41_6.toInt by omega) (show v41_6.toInt ≤ 9 by omega) v41_7 (show (-1) ≤ v41_7.toInt by omega) (show v41_7.toInt ≤ 102128 by omega) w1 H.size hT ) (cwV 2 hC.2.2.2.2 gX4_streetOnWay_X4_leastStreet rfl rfl rfl (by decide +kernel) ⟨Nat.le_of_ble_eq_true rfl, Nat.le_of_ble_eq_true rfl⟩) rfl hl.1 rfl (Nat.le_of_ble_eq_true rfl) dX4_streetOnWay_67 (fun r26 w28 H locs hp27 hw => ?_)
            obtain ⟨hT, k29, hg42⟩ := hp27
            have hF := hF.tr k29 (by decide)
            have c43 := k29.gi kC_at39 (by decide) c19
            have c44 := k29.gi kC_at39 (by decide) c22
            rcases hg42 with ⟨g30, g31, g32, ⟨x33, c34, rx33, tx33⟩, c35⟩ | ⟨g36, g37, g38, ⟨x39, c40, rx39, tx39⟩, c41⟩ | rfl
            · have ex33 : x33.toInt = f41_39_9.toInt := by rw [← c44.symm.trans c34]
              refine lv_istore (lv' := [(9, .int r26), (0, .ref (ad 155)), (1, .int a1), (2, .int a2), (3, .int a3), (4, .int a4), (5, .int v41_5), (6, .int v41_6), (7, .int v41_7), (8, .int v41_8)]) hx hb dX4_streetOnWay_70 hl (by decide) rfl (fun ls hl => ?_)
              refine lv_iload hx hb dX4_streetOnWay_72 (lv_at hl 0 rfl) ?_
              refine lv_iconst (v := (-1)) hx hb dX4_streetOnWay_74 (by decide) ?_
              refine lv_icmp_eq (tgt := 85) hx hb dX4_streetOnWay_75 (by decide) (fun c => absurd c (fun h => absurd (show r26.toInt = (-1 : Int) from wk_eq.mp h) (by omega))) (fun _ => ?_)
              refine lv_iload hx hb dX4_streetOnWay_78 (lv_at hl 9 rfl) ?_
              refine lv_iload hx hb dX4_streetOnWay_80 (lv_at hl 5 rfl) ?_
              refine lv_icmp_ne (tgt := 88) hx hb dX4_streetOnWay_82 (by decide) (fun c45 => ?_) (fun c45 => ?_)
              · have c45 : ¬ v41_8.toInt = a4.toInt := wk_eqF c45
                refine lv_aload_n hx hb dX4_streetOnWay_88 rfl (lv_at hl 1 rfl) ?_
                refine tk_getA hC hK hw hT hinX4 kC_at155 (by decide) rfl 1 (by decide) (List.mem_of_getElem? (i := 1) rfl) rfl rfl dX4_streetOnWay_89 ?_
                refine lv_iload hx hb dX4_streetOnWay_92 (lv_at hl 0 rfl) ?_
                refine lv_iload hx hb dX4_streetOnWay_94 (lv_at hl 7 rfl) ?_
                refine tk_Vi hC hK hw hT hA hE hSR kC_at39 (by decide) rfl (k_X7_sideOf_6 l adK adV dC dI cy ad B (by omega) (by omega) qr s1   r26 (show 0 ≤ r26.toInt by omega) (show r26.toInt ≤ 11 by omega) v41_6 (show 0 ≤ v41_6.toInt by omega) (show v41_6.toInt ≤ 9 by omega) w28 H.size hT c35) (cwV 2 hC.2.2.2.2 gX4_streetOnWay_X7_sideOf rfl rfl rfl (by decide +kernel) ⟨Nat.le_of_ble_eq_true rfl, Nat.le_of_ble_eq_true rfl⟩) rfl hl.1 rfl (Nat.le_of_ble_eq_true rfl) dX4_streetOnWay_96 (fun r46 w48 H locs hp47 hw => ?_)
                obtain ⟨hT, k49, hg51⟩ := hp47
                have hF := hF.tr k49 (by decide)
                have c52 := k49.gi kC_at39 (by decide) c43
                have c53 := k49.gi kC_at39 (by decide) c44
                have c54 := k49.gi kC_at40 rfl c35
                obtain ⟨rfl, c50⟩ := hg51
                refine lv_istore (lv' := [(10, .int 0), (9, .int r26), (0, .ref (ad 155)), (1, .int a1), (2, .int a2), (3, .int a3), (4, .int a4), (5, .int v41_5), (6, .int v41_6), (7, .int v41_7), (8, .int v41_8)]) hx hb dX4_streetOnWay_99 hl (by decide) rfl (fun ls hl => ?_)
                refine lv_aload_n hx hb dX4_streetOnWay_101 rfl (lv_at hl 2 rfl) ?_
                refine tk_getA hC hK hw hT hinX4 kC_at155 (by decide) rfl 1 (by decide) (List.mem_of_getElem? (i := 1) rfl) rfl rfl dX4_streetOnWay_102 ?_
                refine lv_iload hx hb dX4_streetOnWay_105 (lv_at hl 1 rfl) ?_
                refine lv_iload hx hb dX4_streetOnWay_107 (lv_at hl 0 rfl) ?_
                refine lv_iload hx hb dX4_streetOnWay_109 (lv_at hl 9 rfl) ?_
                refine lv_iload hx hb dX4_streetOnWay_111 (lv_at hl 7 rfl) ?_
                refine tk_Vi hC hK hw hT hA hE hSR kC_at39 (by decide) rfl (k_X7_firstOpen_7 l adK adV dC dI cy ad B (by omega) (by omega) qr s1   r26 (show 0 ≤ r26.toInt by omega) (show r26.toInt ≤ 11 by omega) v41_7 (show (-1) ≤ v41_7.toInt by omega) (show v41_7.toInt ≤ 102119 by omega) v41_5 (show 0 ≤ v41_5.toInt by omega) (show v41_5.toInt ≤ 102119 by omega) w48 H.size hT ) (cwV 4 hC.2.2.2.2 gX4_streetOnWay_X7_firstOpen rfl rfl rfl (by decide +kernel) ⟨Nat.le_of_ble_eq_true rfl, Nat.le_of_ble_eq_true rfl⟩) rfl hl.1 rfl (Nat.le_of_ble_eq_true rfl) dX4_streetOnWay_113 (fun r55 w57 H locs hp56 hw => ?_)
                obtain ⟨hT, k58, hg61⟩ := hp56
                have hF := hF.tr k58 (by decide)
                have c62 := k58.gi kC_at39 (by decide) c52
                have c63 := k58.gi kC_at39 (by decide) c53
                have c64 := k58.gi kC_at40 rfl c54
                rcases hg61 with ⟨g59, g60⟩ | rfl
                · refine lv_aload_n hx hb dX4_streetOnWay_116 rfl (lv_at hl 2 rfl) ?_
                  refine tk_getA hC hK hw hT hinX4 kC_at155 (by decide) rfl 1 (by decide) (List.mem_of_getElem? (i := 1) rfl) rfl rfl dX4_streetOnWay_117 ?_
                  refine tk_getO hC hK hw hT hinX7 kC_at39 (by decide) rfl 1 (by decide) (List.mem_of_getElem? (i := 3) rfl) rfl rfl dX4_streetOnWay_120 ?_
                  refine lv_iload hx hb dX4_streetOnWay_123 (lv_at hl 1 rfl) ?_
                  refine tk_iald hC hK hw hT kC_at41 rfl rfl (show 0 ≤ r26.toInt by omega) (show r26.toInt < 13 by omega) dX4_streetOnWay_125 (fun x65 c66 rx65 tx65 => ?_)
                  refine lv_iadd hx hb dX4_streetOnWay_126 ?_
                  refine lv_topi (fun x67 ex67 => ?_)
                  have ex67 : x67.toInt = r55.toInt + x65.toInt := by rw [ex67]; exact wk_add (show (-2147483648) ≤ r55.toInt + x65.toInt by omega) (show r55.toInt + x65.toInt ≤ 2147483647 by omega)
                  refine lv_istore (lv' := [(7, .int x67), (10, .int 0), (9, .int r26), (0, .ref (ad 155)), (1, .int a1), (2, .int a2), (3, .int a3), (4, .int a4), (5, .int v41_5), (6, .int v41_6), (8, .int v41_8)]) hx hb dX4_streetOnWay_127 hl (by decide) rfl (fun ls hl => ?_)
                  refine lv_aload_n hx hb dX4_streetOnWay_129 rfl (lv_at hl 3 rfl) ?_
                  refine tk_getA hC hK hw hT hinX4 kC_at155 (by decide) rfl 1 (by decide) (List.mem_of_getElem? (i := 1) rfl) rfl rfl dX4_streetOnWay_130 ?_
                  refine lv_iload hx hb dX4_streetOnWay_133 (lv_at hl 2 rfl) ?_
                  refine lv_iload hx hb dX4_streetOnWay_135 (lv_at hl 1 rfl) ?_
                  refine tk_Vi hC hK hw hT hA hE hSR kC_at39 (by decide) rfl (k_X7_cornerAcross_2 l adK adV dC dI cy ad B (by omega) (by omega) qr s1   r26 (show 0 ≤ r26.toInt by omega) (show r26.toInt ≤ 11 by omega) w57 H.size hT ) (cwV 2 hC.2.2.2.2 gX4_streetOnWay_X7_cornerAcross rfl rfl rfl (by decide +kernel) ⟨Nat.le_of_ble_eq_true rfl, Nat.le_of_ble_eq_true rfl⟩) rfl hl.1 rfl (Nat.le_of_ble_eq_true rfl) dX4_streetOnWay_137 (fun r68 w70 H locs hp69 hw => ?_)
                  obtain ⟨hT, k71, hg74⟩ := hp69
                  have hF := hF.tr k71 (by decide)
                  have c75 := k71.gi kC_at39 (by decide) c62
                  have c76 := k71.gi kC_at39 (by decide) c63
                  have c77 := k71.gi kC_at40 rfl c64
                  obtain ⟨g72, g73⟩ := hg74
                  refine lv_istore (lv' := [(6, .int r68), (7, .int x67), (10, .int 0), (9, .int r26), (0, .ref (ad 155)), (1, .int a1), (2, .int a2), (3, .int a3), (4, .int a4), (5, .int v41_5), (8, .int v41_8)]) hx hb dX4_streetOnWay_140 hl (by decide) rfl (fun ls hl => ?_)
                  obtain ⟨x78, ex78⟩ : ∃ y : Int32, y = v41_8 + Int32.ofInt 1 := ⟨_, rfl⟩
                  refine lv_iinc (v := x78) (lv' := [(8, .int x78), (6, .int r68), (7, .int x67), (10, .int 0), (9, .int r26), (0, .ref (ad 155)), (1, .int a1), (2, .int a2), (3, .int a3), (4, .int a4), (5, .int v41_5)]) hx hb dX4_streetOnWay_142 hl (k := 10) rfl ex78.symm (by decide) rfl (fun ls hl => ?_)
                  have ex78 : x78.toInt = v41_8.toInt + 1 := by rw [ex78]; exact wk_add (y := 1) (show -2147483648 ≤ v41_8.toInt + 1 by omega) (show v41_8.toInt + 1 ≤ 2147483647 by omega)
                  refine lv_goto (tgt := 41) hx hb dX4_streetOnWay_145 (by decide) ?_
                  exact ih41 v41_5 r68 x67 x78 f41_39_8 f41_39_9 H locs ls w70 (show 0 ≤ a1.toInt by omega) (show a1.toInt ≤ 9 by omega) (show 0 ≤ a2.toInt by omega) (show a2.toInt ≤ 9 by omega) (show 0 ≤ a3.toInt by omega) (show a3.toInt ≤ 99999 by omega) (show 0 ≤ a4.toInt by omega) (show 0 ≤ v41_5.toInt by omega) (show v41_5.toInt ≤ 102119 by omega) (show 0 ≤ r68.toInt by omega) (show r68.toInt ≤ 9 by omega) (show (-1) ≤ x67.toInt by omega) (show x67.toInt ≤ 102128 by omega) (show 0 ≤ x78.toInt by omega) (show x78.toInt ≤ 2001 by omega) (show 1 ≤ f41_39_8.toInt by omega) (show f41_39_8.toInt ≤ 10 by omega) (show 0 ≤ f41_39_9.toInt by omega) (show f41_39_9.toInt ≤ 12 by omega) (show (2001 - x78.toInt).toNat < n41 by omega) hw hT hF c75 c76 (lv_sub hl [5, 6, 7, 8, 9, 10, 1, 2, 0] rfl)
                · refine lv_aload_n hx hb dX4_streetOnWay_116 rfl (lv_at hl 2 rfl) ?_
                  refine tk_getA hC hK hw hT hinX4 kC_at155 (by decide) rfl 1 (by decide) (List.mem_of_getElem? (i := 1) rfl) rfl rfl dX4_streetOnWay_117 ?_
                  refine tk_getO hC hK hw hT hinX7 kC_at39 (by decide) rfl 1 (by decide) (List.mem_of_getElem? (i := 3) rfl) rfl rfl dX4_streetOnWay_120 ?_
                  refine lv_iload hx hb dX4_streetOnWay_123 (lv_at hl 1 rfl) ?_
                  refine tk_iald hC hK hw hT kC_at41 rfl rfl (show 0 ≤ r26.toInt by omega) (show r26.toInt < 13 by omega) dX4_streetOnWay_125 (fun x79 c80 rx79 tx79 => ?_)
                  refine lv_iadd hx hb dX4_streetOnWay_126 ?_
                  refine lv_topi (fun x81 ex81 => ?_)
                  have ex81 : x81.toInt = (-1 : Int) + x79.toInt := by rw [ex81]; exact wk_add (show (-2147483648) ≤ (-1 : Int) + x79.toInt by omega) (show (-1 : Int) + x79.toInt ≤ 2147483647 by omega)
                  refine lv_istore (lv' := [(7, .int x81), (10, .int 0), (9, .int r26), (0, .ref (ad 155)), (1, .int a1), (2, .int a2), (3, .int a3), (4, .int a4), (5, .int v41_5), (6, .int v41_6), (8, .int v41_8)]) hx hb dX4_streetOnWay_127 hl (by decide) rfl (fun ls hl => ?_)
                  refine lv_aload_n hx hb dX4_streetOnWay_129 rfl (lv_at hl 3 rfl) ?_
                  refine tk_getA hC hK hw hT hinX4 kC_at155 (by decide) rfl 1 (by decide) (List.mem_of_getElem? (i := 1) rfl) rfl rfl dX4_streetOnWay_130 ?_
                  refine lv_iload hx hb dX4_streetOnWay_133 (lv_at hl 2 rfl) ?_
                  refine lv_iload hx hb dX4_streetOnWay_135 (lv_at hl 1 rfl) ?_
                  refine tk_Vi hC hK hw hT hA hE hSR kC_at39 (by decide) rfl (k_X7_cornerAcross_2 l adK adV dC dI cy ad B (by omega) (by omega) qr s1   r26 (show 0 ≤ r26.toInt by omega) (show r26.toInt ≤ 11 by omega) w57 H.size hT ) (cwV 2 hC.2.2.2.2 gX4_streetOnWay_X7_cornerAcross rfl rfl rfl (by decide +kernel) ⟨Nat.le_of_ble_eq_true rfl, Nat.le_of_ble_eq_true rfl⟩) rfl hl.1 rfl (Nat.le_of_ble_eq_true rfl) dX4_streetOnWay_137 (fun r82 w84 H locs hp83 hw => ?_)
                  obtain ⟨hT, k85, hg88⟩ := hp83
                  have hF := hF.tr k85 (by decide)
                  have c89 := k85.gi kC_at39 (by decide) c62
                  have c90 := k85.gi kC_at39 (by decide) c63
                  have c91 := k85.gi kC_at40 rfl c64
                  obtain ⟨g86, g87⟩ := hg88
                  refine lv_istore (lv' := [(6, .int r82), (7, .int x81), (10, .int 0), (9, .int r26), (0, .ref (ad 155)), (1, .int a1), (2, .int a2), (3, .int a3), (4, .int a4), (5, .int v41_5), (8, .int v41_8)]) hx hb dX4_streetOnWay_140 hl (by decide) rfl (fun ls hl => ?_)
                  obtain ⟨x92, ex92⟩ : ∃ y : Int32, y = v41_8 + Int32.ofInt 1 := ⟨_, rfl⟩
                  refine lv_iinc (v := x92) (lv' := [(8, .int x92), (6, .int r82), (7, .int x81), (10, .int 0), (9, .int r26), (0, .ref (ad 155)), (1, .int a1), (2, .int a2), (3, .int a3), (4, .int a4), (5, .int v41_5)]) hx hb dX4_streetOnWay_142 hl (k := 10) rfl ex92.symm (by decide) rfl (fun ls hl => ?_)
                  have ex92 : x92.toInt = v41_8.toInt + 1 := by rw [ex92]; exact wk_add (y := 1) (show -2147483648 ≤ v41_8.toInt + 1 by omega) (show v41_8.toInt + 1 ≤ 2147483647 by omega)
                  refine lv_goto (tgt := 41) hx hb dX4_streetOnWay_145 (by decide) ?_
                  exact ih41 v41_5 r82 x81 x92 f41_39_8 f41_39_9 H locs ls w84 (show 0 ≤ a1.toInt by omega) (show a1.toInt ≤ 9 by omega) (show 0 ≤ a2.toInt by omega) (show a2.toInt ≤ 9 by omega) (show 0 ≤ a3.toInt by omega) (show a3.toInt ≤ 99999 by omega) (show 0 ≤ a4.toInt by omega) (show 0 ≤ v41_5.toInt by omega) (show v41_5.toInt ≤ 102119 by omega) (show 0 ≤ r82.toInt by omega) (show r82.toInt ≤ 9 by omega) (show (-1) ≤ x81.toInt by omega) (show x81.toInt ≤ 102128 by omega) (show 0 ≤ x92.toInt by omega) (show x92.toInt ≤ 2001 by omega) (show 1 ≤ f41_39_8.toInt by omega) (show f41_39_8.toInt ≤ 10 by omega) (show 0 ≤ f41_39_9.toInt by omega) (show f41_39_9.toInt ≤ 12 by omega) (show (2001 - x92.toInt).toNat < n41 by omega) hw hT hF c89 c90 (lv_sub hl [5, 6, 7, 8, 9, 10, 1, 2, 0] rfl)
              · have c45 : v41_8.toInt = a4.toInt := wk_eq.mp c45
                refine lv_iload hx hb dX4_streetOnWay_85 (lv_at hl 0 rfl) ?_
                exact tk_iret hC hr hlocks hK ⟨hT, hF, (Or.inl ⟨(show 0 ≤ r26.toInt by omega), (show r26.toInt ≤ 11 by omega), (show a4.toInt ≤ 2000 by omega), ⟨f41_39_8, c43, (show 1 ≤ f41_39_8.toInt by omega), (show f41_39_8.toInt ≤ 10 by omega)⟩, ⟨f41_39_9, c44, (show 1 ≤ f41_39_9.toInt by omega), (show f41_39_9.toInt ≤ 12 by omega)⟩⟩)⟩ hw dX4_streetOnWay_87
            · have ex39 : x39.toInt = f41_39_9.toInt := by rw [← c44.symm.trans c40]
              refine lv_istore (lv' := [(9, .int r26), (0, .ref (ad 155)), (1, .int a1), (2, .int a2), (3, .int a3), (4, .int a4), (5, .int v41_5), (6, .int v41_6), (7, .int v41_7), (8, .int v41_8)]) hx hb dX4_streetOnWay_70 hl (by decide) rfl (fun ls hl => ?_)
              refine lv_iload hx hb dX4_streetOnWay_72 (lv_at hl 0 rfl) ?_
              refine lv_iconst (v := (-1)) hx hb dX4_streetOnWay_74 (by decide) ?_
              refine lv_icmp_eq (tgt := 85) hx hb dX4_streetOnWay_75 (by decide) (fun c => absurd c (fun h => absurd (show r26.toInt = (-1 : Int) from wk_eq.mp h) (by omega))) (fun _ => ?_)
              refine lv_iload hx hb dX4_streetOnWay_78 (lv_at hl 9 rfl) ?_
              refine lv_iload hx hb dX4_streetOnWay_80 (lv_at hl 5 rfl) ?_
              refine lv_icmp_ne (tgt := 88) hx hb dX4_streetOnWay_82 (by decide) (fun c93 => ?_) (fun c93 => ?_)
              · have c93 : ¬ v41_8.toInt = a4.toInt := wk_eqF c93
                refine lv_aload_n hx hb dX4_streetOnWay_88 rfl (lv_at hl 1 rfl) ?_
                refine tk_getA hC hK hw hT hinX4 kC_at155 (by decide) rfl 1 (by decide) (List.mem_of_getElem? (i := 1) rfl) rfl rfl dX4_streetOnWay_89 ?_
                refine lv_iload hx hb dX4_streetOnWay_92 (lv_at hl 0 rfl) ?_
                refine lv_iload hx hb dX4_streetOnWay_94 (lv_at hl 7 rfl) ?_
                refine tk_Vi hC hK hw hT hA hE hSR kC_at39 (by decide) rfl (k_X7_sideOf_7 l adK adV dC dI cy ad B (by omega) (by omega) qr s1   r26 (show 0 ≤ r26.toInt by omega) (show r26.toInt ≤ 11 by omega) v41_6 (show 0 ≤ v41_6.toInt by omega) (show v41_6.toInt ≤ 9 by omega) w28 H.size hT c41) (cwV 2 hC.2.2.2.2 gX4_streetOnWay_X7_sideOf rfl rfl rfl (by decide +kernel) ⟨Nat.le_of_ble_eq_true rfl, Nat.le_of_ble_eq_true rfl⟩) rfl hl.1 rfl (Nat.le_of_ble_eq_true rfl) dX4_streetOnWay_96 (fun r94 w96 H locs hp95 hw => ?_)
                obtain ⟨hT, k97, hg101⟩ := hp95
                have hF := hF.tr k97 (by decide)
                have c102 := k97.gi kC_at39 (by decide) c43
                have c103 := k97.gi kC_at39 (by decide) c44
                have c104 := k97.gi kC_at40 rfl c41
                rcases hg101 with ⟨rfl, c98, c99⟩ | ⟨rfl, c100⟩
                · refine lv_istore (lv' := [(10, .int 0), (9, .int r26), (0, .ref (ad 155)), (1, .int a1), (2, .int a2), (3, .int a3), (4, .int a4), (5, .int v41_5), (6, .int v41_6), (7, .int v41_7), (8, .int v41_8)]) hx hb dX4_streetOnWay_99 hl (by decide) rfl (fun ls hl => ?_)
                  refine lv_aload_n hx hb dX4_streetOnWay_101 rfl (lv_at hl 2 rfl) ?_
                  refine tk_getA hC hK hw hT hinX4 kC_at155 (by decide) rfl 1 (by decide) (List.mem_of_getElem? (i := 1) rfl) rfl rfl dX4_streetOnWay_102 ?_
                  refine lv_iload hx hb dX4_streetOnWay_105 (lv_at hl 1 rfl) ?_
                  refine lv_iload hx hb dX4_streetOnWay_107 (lv_at hl 0 rfl) ?_
                  refine lv_iload hx hb dX4_streetOnWay_109 (lv_at hl 9 rfl) ?_
                  refine lv_iload hx hb dX4_streetOnWay_111 (lv_at hl 7 rfl) ?_
                  refine tk_Vi hC hK hw hT hA hE hSR kC_at39 (by decide) rfl (k_X7_firstOpen_7 l adK adV dC dI cy ad B (by omega) (by omega) qr s1   r26 (show 0 ≤ r26.toInt by omega) (show r26.toInt ≤ 11 by omega) v41_7 (show (-1) ≤ v41_7.toInt by omega) (show v41_7.toInt ≤ 102119 by omega) v41_5 (show 0 ≤ v41_5.toInt by omega) (show v41_5.toInt ≤ 102119 by omega) w96 H.size hT ) (cwV 4 hC.2.2.2.2 gX4_streetOnWay_X7_firstOpen rfl rfl rfl (by decide +kernel) ⟨Nat.le_of_ble_eq_true rfl, Nat.le_of_ble_eq_true rfl⟩) rfl hl.1 rfl (Nat.le_of_ble_eq_true rfl) dX4_streetOnWay_113 (fun r105 w107 H locs hp106 hw => ?_)
                  obtain ⟨hT, k108, hg111⟩ := hp106
                  have hF := hF.tr k108 (by decide)
                  have c112 := k108.gi kC_at39 (by decide) c102
                  have c113 := k108.gi kC_at39 (by decide) c103
                  have c114 := k108.gi kC_at40 rfl c104
                  have c115 := k108.gi kC_at40 rfl c98
                  rcases hg111 with ⟨g109, g110⟩ | rfl
                  · refine lv_aload_n hx hb dX4_streetOnWay_116 rfl (lv_at hl 2 rfl) ?_
                    refine tk_getA hC hK hw hT hinX4 kC_at155 (by decide) rfl 1 (by decide) (List.mem_of_getElem? (i := 1) rfl) rfl rfl dX4_streetOnWay_117 ?_
                    refine tk_getO hC hK hw hT hinX7 kC_at39 (by decide) rfl 1 (by decide) (List.mem_of_getElem? (i := 3) rfl) rfl rfl dX4_streetOnWay_120 ?_
                    refine lv_iload hx hb dX4_streetOnWay_123 (lv_at hl 1 rfl) ?_
                    refine tk_iald hC hK hw hT kC_at41 rfl rfl (show 0 ≤ r26.toInt by omega) (show r26.toInt < 13 by omega) dX4_streetOnWay_125 (fun x116 c117 rx116 tx116 => ?_)
                    refine lv_iadd hx hb dX4_streetOnWay_126 ?_
                    refine lv_topi (fun x118 ex118 => ?_)
                    have ex118 : x118.toInt = r105.toInt + x116.toInt := by rw [ex118]; exact wk_add (show (-2147483648) ≤ r105.toInt + x116.toInt by omega) (show r105.toInt + x116.toInt ≤ 2147483647 by omega)
                    refine lv_istore (lv' := [(7, .int x118), (10, .int 0), (9, .int r26), (0, .ref (ad 155)), (1, .int a1), (2, .int a2), (3, .int a3), (4, .int a4), (5, .int v41_5), (6, .int v41_6), (8, .int v41_8)]) hx hb dX4_streetOnWay_127 hl (by decide) rfl (fun ls hl => ?_)
                    refine lv_aload_n hx hb dX4_streetOnWay_129 rfl (lv_at hl 3 rfl) ?_
                    refine tk_getA hC hK hw hT hinX4 kC_at155 (by decide) rfl 1 (by decide) (List.mem_of_getElem? (i := 1) rfl) rfl rfl dX4_streetOnWay_130 ?_
                    refine lv_iload hx hb dX4_streetOnWay_133 (lv_at hl 2 rfl) ?_
                    refine lv_iload hx hb dX4_streetOnWay_135 (lv_at hl 1 rfl) ?_
                    refine tk_Vi hC hK hw hT hA hE hSR kC_at39 (by decide) rfl (k_X7_cornerAcross_2 l adK adV dC dI cy ad B (by omega) (by omega) qr s1   r26 (show 0 ≤ r26.toInt by omega) (show r26.toInt ≤ 11 by omega) w107 H.size hT ) (cwV 2 hC.2.2.2.2 gX4_streetOnWay_X7_cornerAcross rfl rfl rfl (by decide +kernel) ⟨Nat.le_of_ble_eq_true rfl, Nat.le_of_ble_eq_true rfl⟩) rfl hl.1 rfl (Nat.le_of_ble_eq_true rfl) dX4_streetOnWay_137 (fun r119 w121 H locs hp120 hw => ?_)
                    obtain ⟨hT, k122, hg125⟩ := hp120
                    have hF := hF.tr k122 (by decide)
                    have c126 := k122.gi kC_at39 (by decide) c112
                    have c127 := k122.gi kC_at39 (by decide) c113
                    have c128 := k122.gi kC_at40 rfl c114
                    have c129 := k122.gi kC_at40 rfl c115
                    obtain ⟨g123, g124⟩ := hg125
                    refine lv_istore (lv' := [(6, .int r119), (7, .int x118), (10, .int 0), (9, .int r26), (0, .ref (ad 155)), (1, .int a1), (2, .int a2), (3, .int a3), (4, .int a4), (5, .int v41_5), (8, .int v41_8)]) hx hb dX4_streetOnWay_140 hl (by decide) rfl (fun ls hl => ?_)
                    obtain ⟨x130, ex130⟩ : ∃ y : Int32, y = v41_8 + Int32.ofInt 1 := ⟨_, rfl⟩
                    refine lv_iinc (v := x130) (lv' := [(8, .int x130), (6, .int r119), (7, .int x118), (10, .int 0), (9, .int r26), (0, .ref (ad 155)), (1, .int a1), (2, .int a2), (3, .int a3), (4, .int a4), (5, .int v41_5)]) hx hb dX4_streetOnWay_142 hl (k := 10) rfl ex130.symm (by decide) rfl (fun ls hl => ?_)
                    have ex130 : x130.toInt = v41_8.toInt + 1 := by rw [ex130]; exact wk_add (y := 1) (show -2147483648 ≤ v41_8.toInt + 1 by omega) (show v41_8.toInt + 1 ≤ 2147483647 by omega)
                    refine lv_goto (tgt := 41) hx hb dX4_streetOnWay_145 (by decide) ?_
                    exact ih41 v41_5 r119 x118 x130 f41_39_8 f41_39_9 H locs ls w121 (show 0 ≤ a1.toInt by omega) (show a1.toInt ≤ 9 by omega) (show 0 ≤ a2.toInt by omega) (show a2.toInt ≤ 9 by omega) (show 0 ≤ a3.toInt by omega) (show a3.toInt ≤ 99999 by omega) (show 0 ≤ a4.toInt by omega) (show 0 ≤ v41_5.toInt by omega) (show v41_5.toInt ≤ 102119 by omega) (show 0 ≤ r119.toInt by omega) (show r119.toInt ≤ 9 by omega) (show (-1) ≤ x118.toInt by omega) (show x118.toInt ≤ 102128 by omega) (show 0 ≤ x130.toInt by omega) (show x130.toInt ≤ 2001 by omega) (show 1 ≤ f41_39_8.toInt by omega) (show f41_39_8.toInt ≤ 10 by omega) (show 0 ≤ f41_39_9.toInt by omega) (show f41_39_9.toInt ≤ 12 by omega) (show (2001 - x130.toInt).toNat < n41 by omega) hw hT hF c126 c127 (lv_sub hl [5, 6, 7, 8, 9, 10, 1, 2, 0] rfl)
                  · refine lv_aload_n hx hb dX4_streetOnWay_116 rfl (lv_at hl 2 rfl) ?_
                    refine tk_getA hC hK hw hT hinX4 kC_at155 (by decide) rfl 1 (by decide) (List.mem_of_getElem? (i := 1) rfl) rfl rfl dX4_streetOnWay_117 ?_
                    refine tk_getO hC hK hw hT hinX7 kC_at39 (by decide) rfl 1 (by decide) (List.mem_of_getElem? (i := 3) rfl) rfl rfl dX4_streetOnWay_120 ?_
                    refine lv_iload hx hb dX4_streetOnWay_123 (lv_at hl 1 rfl) ?_
                    refine tk_iald hC hK hw hT kC_at41 rfl rfl (show 0 ≤ r26.toInt by omega) (show r26.toInt < 13 by omega) dX4_streetOnWay_125 (fun x131 c132 rx131 tx131 => ?_)
                    refine lv_iadd hx hb dX4_streetOnWay_126 ?_
                    refine lv_topi (fun x133 ex133 => ?_)
                    have ex133 : x133.toInt = (-1 : Int) + x131.toInt := by rw [ex133]; exact wk_add (show (-2147483648) ≤ (-1 : Int) + x131.toInt by omega) (show (-1 : Int) + x131.toInt ≤ 2147483647 by omega)
                    refine lv_istore (lv' := [(7, .int x133), (10, .int 0), (9, .int r26), (0, .ref (ad 155)), (1, .int a1), (2, .int a2), (3, .int a3), (4, .int a4), (5, .int v41_5), (6, .int v41_6), (8, .int v41_8)]) hx hb dX4_streetOnWay_127 hl (by decide) rfl (fun ls hl => ?_)
                    refine lv_aload_n hx hb dX4_streetOnWay_129 rfl (lv_at hl 3 rfl) ?_
                    refine tk_getA hC hK hw hT hinX4 kC_at155 (by decide) rfl 1 (by decide) (List.mem_of_getElem? (i := 1) rfl) rfl rfl dX4_streetOnWay_130 ?_
                    refine lv_iload hx hb dX4_streetOnWay_133 (lv_at hl 2 rfl) ?_
                    refine lv_iload hx hb dX4_streetOnWay_135 (lv_at hl 1 rfl) ?_
                    refine tk_Vi hC hK hw hT hA hE hSR kC_at39 (by decide) rfl (k_X7_cornerAcross_2 l adK adV dC dI cy ad B (by omega) (by omega) qr s1   r26 (show 0 ≤ r26.toInt by omega) (show r26.toInt ≤ 11 by omega) w107 H.size hT ) (cwV 2 hC.2.2.2.2 gX4_streetOnWay_X7_cornerAcross rfl rfl rfl (by decide +kernel) ⟨Nat.le_of_ble_eq_true rfl, Nat.le_of_ble_eq_true rfl⟩) rfl hl.1 rfl (Nat.le_of_ble_eq_true rfl) dX4_streetOnWay_137 (fun r134 w136 H locs hp135 hw => ?_)
                    obtain ⟨hT, k137, hg140⟩ := hp135
                    have hF := hF.tr k137 (by decide)
                    have c141 := k137.gi kC_at39 (by decide) c112
                    have c142 := k137.gi kC_at39 (by decide) c113
                    have c143 := k137.gi kC_at40 rfl c114
                    have c144 := k137.gi kC_at40 rfl c115
                    obtain ⟨g138, g139⟩ := hg140
                    refine lv_istore (lv' := [(6, .int r134), (7, .int x133), (10, .int 0), (9, .int r26), (0, .ref (ad 155)), (1, .int a1), (2, .int a2), (3, .int a3), (4, .int a4), (5, .int v41_5), (8, .int v41_8)]) hx hb dX4_streetOnWay_140 hl (by decide) rfl (fun ls hl => ?_)
                    obtain ⟨x145, ex145⟩ : ∃ y : Int32, y = v41_8 + Int32.ofInt 1 := ⟨_, rfl⟩
                    refine lv_iinc (v := x145) (lv' := [(8, .int x145), (6, .int r134), (7, .int x133), (10, .int 0), (9, .int r26), (0, .ref (ad 155)), (1, .int a1), (2, .int a2), (3, .int a3), (4, .int a4), (5, .int v41_5)]) hx hb dX4_streetOnWay_142 hl (k := 10) rfl ex145.symm (by decide) rfl (fun ls hl => ?_)
                    have ex145 : x145.toInt = v41_8.toInt + 1 := by rw [ex145]; exact wk_add (y := 1) (show -2147483648 ≤ v41_8.toInt + 1 by omega) (show v41_8.toInt + 1 ≤ 2147483647 by omega)
                    refine lv_goto (tgt := 41) hx hb dX4_streetOnWay_145 (by decide) ?_
                    exact ih41 v41_5 r134 x133 x145 f41_39_8 f41_39_9 H locs ls w136 (show 0 ≤ a1.toInt by omega) (show a1.toInt ≤ 9 by omega) (show 0 ≤ a2.toInt by omega) (show a2.toInt ≤ 9 by omega) (show 0 ≤ a3.toInt by omega) (show a3.toInt ≤ 99999 by omega) (show 0 ≤ a4.toInt by omega) (show 0 ≤ v41_5.toInt by omega) (show v41_5.toInt ≤ 102119 by omega) (show 0 ≤ r134.toInt by omega) (show r134.toInt ≤ 9 by omega) (show (-1) ≤ x133.toInt by omega) (show x133.toInt ≤ 102128 by omega) (show 0 ≤ x145.toInt by omega) (show x145.toInt ≤ 2001 by omega) (show 1 ≤ f41_39_8.toInt by omega) (show f41_39_8.toInt ≤ 10 by omega) (show 0 ≤ f41_39_9.toInt by omega) (show f41_39_9.toInt ≤ 12 by omega) (show (2001 - x145.toInt).toNat < n41 by omega) hw hT hF c141 c142 (lv_sub hl [5, 6, 7, 8, 9, 10, 1, 2, 0] rfl)
                · refine lv_istore (lv' := [(10, .int 1), (9, .int r26), (0, .ref (ad 155)), (1, .int a1), (2, .int a2), (3, .int a3), (4, .int a4), (5, .int v41_5), (6, .int v41_6), (7, .int v41_7), (8, .int v41_8)]) hx hb dX4_streetOnWay_99 hl (by decide) rfl (fun ls hl => ?_)
                  refine lv_aload_n hx hb dX4_streetOnWay_101 rfl (lv_at hl 2 rfl) ?_
                  refine tk_getA hC hK hw hT hinX4 kC_at155 (by decide) rfl 1 (by decide) (List.mem_of_getElem? (i := 1) rfl) rfl rfl dX4_streetOnWay_102 ?_
                  refine lv_iload hx hb dX4_streetOnWay_105 (lv_at hl 1 rfl) ?_
                  refine lv_iload hx hb dX4_streetOnWay_107 (lv_at hl 0 rfl) ?_
                  refine lv_iload hx hb dX4_streetOnWay_109 (lv_at hl 9 rfl) ?_
                  refine lv_iload hx hb dX4_streetOnWay_111 (lv_at hl 7 rfl) ?_
                  refine tk_Vi hC hK hw hT hA hE hSR kC_at39 (by decide) rfl (k_X7_firstOpen_8 l adK adV dC dI cy ad B (by omega) (by omega) qr s1   r26 (show 0 ≤ r26.toInt by omega) (show r26.toInt ≤ 11 by omega) v41_7 (show (-1) ≤ v41_7.toInt by omega) (show v41_7.toInt ≤ 102119 by omega) v41_5 (show 0 ≤ v41_5.toInt by omega) (show v41_5.toInt ≤ 102119 by omega) w96 H.size hT ) (cwV 4 hC.2.2.2.2 gX4_streetOnWay_X7_firstOpen rfl rfl rfl (by decide +kernel) ⟨Nat.le_of_ble_eq_true rfl, Nat.le_of_ble_eq_true rfl⟩) rfl hl.1 rfl (Nat.le_of_ble_eq_true rfl) dX4_streetOnWay_113 (fun r146 w148 H locs hp147 hw => ?_)
                  obtain ⟨hT, k149, hg152⟩ := hp147
                  have hF := hF.tr k149 (by decide)
                  have c153 := k149.gi kC_at39 (by decide) c102
                  have c154 := k149.gi kC_at39 (by decide) c103
                  have c155 := k149.gi kC_at40 rfl c104
                  rcases hg152 with ⟨g150, g151⟩ | rfl
                  · refine lv_aload_n hx hb dX4_streetOnWay_116 rfl (lv_at hl 2 rfl) ?_
                    refine tk_getA hC hK hw hT hinX4 kC_at155 (by decide) rfl 1 (by decide) (List.mem_of_getElem? (i := 1) rfl) rfl rfl dX4_streetOnWay_117 ?_
                    refine tk_getO hC hK hw hT hinX7 kC_at39 (by decide) rfl 1 (by decide) (List.mem_of_getElem? (i := 3) rfl) rfl rfl dX4_streetOnWay_120 ?_
                    refine lv_iload hx hb dX4_streetOnWay_123 (lv_at hl 1 rfl) ?_
                    refine tk_iald hC hK hw hT kC_at41 rfl rfl (show 0 ≤ r26.toInt by omega) (show r26.toInt < 13 by omega) dX4_streetOnWay_125 (fun x156 c157 rx156 tx156 => ?_)
                    refine lv_iadd hx hb dX4_streetOnWay_126 ?_
                    refine lv_topi (fun x158 ex158 => ?_)
                    have ex158 : x158.toInt = r146.toInt + x156.toInt := by rw [ex158]; exact wk_add (show (-2147483648) ≤ r146.toInt + x156.toInt by omega) (show r146.toInt + x156.toInt ≤ 2147483647 by omega)
                    refine lv_istore (lv' := [(7, .int x158), (10, .int 1), (9, .int r26), (0, .ref (ad 155)), (1, .int a1), (2, .int a2), (3, .int a3), (4, .int a4), (5, .int v41_5), (6, .int v41_6), (8, .int v41_8)]) hx hb dX4_streetOnWay_127 hl (by decide) rfl (fun ls hl => ?_)
                    refine lv_aload_n hx hb dX4_streetOnWay_129 rfl (lv_at hl 3 rfl) ?_
                    refine tk_getA hC hK hw hT hinX4 kC_at155 (by decide) rfl 1 (by decide) (List.mem_of_getElem? (i := 1) rfl) rfl rfl dX4_streetOnWay_130 ?_
                    refine lv_iload hx hb dX4_streetOnWay_133 (lv_at hl 2 rfl) ?_
                    refine lv_iload hx hb dX4_streetOnWay_135 (lv_at hl 1 rfl) ?_
                    refine tk_Vi hC hK hw hT hA hE hSR kC_at39 (by decide) rfl (k_X7_cornerAcross_3 l adK adV dC dI cy ad B (by omega) (by omega) qr s1   r26 (show 0 ≤ r26.toInt by omega) (show r26.toInt ≤ 11 by omega) w148 H.size hT ) (cwV 2 hC.2.2.2.2 gX4_streetOnWay_X7_cornerAcross rfl rfl rfl (by decide +kernel) ⟨Nat.le_of_ble_eq_true rfl, Nat.le_of_ble_eq_true rfl⟩) rfl hl.1 rfl (Nat.le_of_ble_eq_true rfl) dX4_streetOnWay_137 (fun r159 w161 H locs hp160 hw => ?_)
                    obtain ⟨hT, k162, hg165⟩ := hp160
                    have hF := hF.tr k162 (by decide)
                    have c166 := k162.gi kC_at39 (by decide) c153
                    have c167 := k162.gi kC_at39 (by decide) c154
                    have c168 := k162.gi kC_at40 rfl c155
                    obtain ⟨g163, g164⟩ := hg165
                    refine lv_istore (lv' := [(6, .int r159), (7, .int x158), (10, .int 1), (9, .int r26), (0, .ref (ad 155)), (1, .int a1), (2, .int a2), (3, .int a3), (4, .int a4), (5, .int v41_5), (8, .int v41_8)]) hx hb dX4_streetOnWay_140 hl (by decide) rfl (fun ls hl => ?_)
                    obtain ⟨x169, ex169⟩ : ∃ y : Int32, y = v41_8 + Int32.ofInt 1 := ⟨_, rfl⟩
                    refine lv_iinc (v := x169) (lv' := [(8, .int x169), (6, .int r159), (7, .int x158), (10, .int 1), (9, .int r26), (0, .ref (ad 155)), (1, .int a1), (2, .int a2), (3, .int a3), (4, .int a4), (5, .int v41_5)]) hx hb dX4_streetOnWay_142 hl (k := 10) rfl ex169.symm (by decide) rfl (fun ls hl => ?_)
                    have ex169 : x169.toInt = v41_8.toInt + 1 := by rw [ex169]; exact wk_add (y := 1) (show -2147483648 ≤ v41_8.toInt + 1 by omega) (show v41_8.toInt + 1 ≤ 2147483647 by omega)
                    refine lv_goto (tgt := 41) hx hb dX4_streetOnWay_145 (by decide) ?_
                    exact ih41 v41_5 r159 x158 x169 f41_39_8 f41_39_9 H locs ls w161 (show 0 ≤ a1.toInt by omega) (show a1.toInt ≤ 9 by omega) (show 0 ≤ a2.toInt by omega) (show a2.toInt ≤ 9 by omega) (show 0 ≤ a3.toInt by omega) (show a3.toInt ≤ 99999 by omega) (show 0 ≤ a4.toInt by omega) (show 0 ≤ v41_5.toInt by omega) (show v41_5.toInt ≤ 102119 by omega) (show 0 ≤ r159.toInt by omega) (show r159.toInt ≤ 9 by omega) (show (-1) ≤ x158.toInt by omega) (show x158.toInt ≤ 102128 by omega) (show 0 ≤ x169.toInt by omega) (show x169.toInt ≤ 2001 by omega) (show 1 ≤ f41_39_8.toInt by omega) (show f41_39_8.toInt ≤ 10 by omega) (show 0 ≤ f41_39_9.toInt by omega) (show f41_39_9.toInt ≤ 12 by omega) (show (2001 - x169.toInt).toNat < n41 by omega) hw hT hF c166 c167 (lv_sub hl [5, 6, 7, 8, 9, 10, 1, 2, 0] rfl)
                  · refine lv_aload_n hx hb dX4_streetOnWay_116 rfl (lv_at hl 2 rfl) ?_
                    refine tk_getA hC hK hw hT hinX4 kC_at155 (by decide) rfl 1 (by decide) (List.mem_of_getElem? (i := 1) rfl) rfl rfl dX4_streetOnWay_117 ?_
                    refine tk_getO hC hK hw hT hinX7 kC_at39 (by decide) rfl 1 (by decide) (List.mem_of_getElem? (i := 3) rfl) rfl rfl dX4_streetOnWay_120 ?_
                    refine lv_iload hx hb dX4_streetOnWay_123 (lv_at hl 1 rfl) ?_
                    refine tk_iald hC hK hw hT kC_at41 rfl rfl (show 0 ≤ r26.toInt by omega) (show r26.toInt < 13 by omega) dX4_streetOnWay_125 (fun x170 c171 rx170 tx170 => ?_)
                    refine lv_iadd hx hb dX4_streetOnWay_126 ?_
                    refine lv_topi (fun x172 ex172 => ?_)
                    have ex172 : x172.toInt = (-1 : Int) + x170.toInt := by rw [ex172]; exact wk_add (show (-2147483648) ≤ (-1 : Int) + x170.toInt by omega) (show (-1 : Int) + x170.toInt ≤ 2147483647 by omega)
                    refine lv_istore (lv' := [(7, .int x172), (10, .int 1), (9, .int r26), (0, .ref (ad 155)), (1, .int a1), (2, .int a2), (3, .int a3), (4, .int a4), (5, .int v41_5), (6, .int v41_6), (8, .int v41_8)]) hx hb dX4_streetOnWay_127 hl (by decide) rfl (fun ls hl => ?_)
                    refine lv_aload_n hx hb dX4_streetOnWay_129 rfl (lv_at hl 3 rfl) ?_
                    refine tk_getA hC hK hw hT hinX4 kC_at155 (by decide) rfl 1 (by decide) (List.mem_of_getElem? (i := 1) rfl) rfl rfl dX4_streetOnWay_130 ?_
                    refine lv_iload hx hb dX4_streetOnWay_133 (lv_at hl 2 rfl) ?_
                    refine lv_iload hx hb dX4_streetOnWay_135 (lv_at hl 1 rfl) ?_
                    refine tk_Vi hC hK hw hT hA hE hSR kC_at39 (by decide) rfl (k_X7_cornerAcross_3 l adK adV dC dI cy ad B (by omega) (by omega) qr s1   r26 (show 0 ≤ r26.toInt by omega) (show r26.toInt ≤ 11 by omega) w148 H.size hT ) (cwV 2 hC.2.2.2.2 gX4_streetOnWay_X7_cornerAcross rfl rfl rfl (by decide +kernel) ⟨Nat.le_of_ble_eq_true rfl, Nat.le_of_ble_eq_true rfl⟩) rfl hl.1 rfl (Nat.le_of_ble_eq_true rfl) dX4_streetOnWay_137 (fun r173 w175 H locs hp174 hw => ?_)
                    obtain ⟨hT, k176, hg179⟩ := hp174
                    have hF := hF.tr k176 (by decide)
                    have c180 := k176.gi kC_at39 (by decide) c153
                    have c181 := k176.gi kC_at39 (by decide) c154
                    have c182 := k176.gi kC_at40 rfl c155
                    obtain ⟨g177, g178⟩ := hg179
                    refine lv_istore (lv' := [(6, .int r173), (7, .int x172), (10, .int 1), (9, .int r26), (0, .ref (ad 155)), (1, .int a1), (2, .int a2), (3, .int a3), (4, .int a4), (5, .int v41_5), (8, .int v41_8)]) hx hb dX4_streetOnWay_140 hl (by decide) rfl (fun ls hl => ?_)
                    obtain ⟨x183, ex183⟩ : ∃ y : Int32, y = v41_8 + Int32.ofInt 1 := ⟨_, rfl⟩
                    refine lv_iinc (v := x183) (lv' := [(8, .int x183), (6, .int r173), (7, .int x172), (10, .int 1), (9, .int r26), (0, .ref (ad 155)), (1, .int a1), (2, .int a2), (3, .int a3), (4, .int a4), (5, .int v41_5)]) hx hb dX4_streetOnWay_142 hl (k := 10) rfl ex183.symm (by decide) rfl (fun ls hl => ?_)
                    have ex183 : x183.toInt = v41_8.toInt + 1 := by rw [ex183]; exact wk_add (y := 1) (show -2147483648 ≤ v41_8.toInt + 1 by omega) (show v41_8.toInt + 1 ≤ 2147483647 by omega)
                    refine lv_goto (tgt := 41) hx hb dX4_streetOnWay_145 (by decide) ?_
                    exact ih41 v41_5 r173 x172 x183 f41_39_8 f41_39_9 H locs ls w175 (show 0 ≤ a1.toInt by omega) (show a1.toInt ≤ 9 by omega) (show 0 ≤ a2.toInt by omega) (show a2.toInt ≤ 9 by omega) (show 0 ≤ a3.toInt by omega) (show a3.toInt ≤ 99999 by omega) (show 0 ≤ a4.toInt by omega) (show 0 ≤ v41_5.toInt by omega) (show v41_5.toInt ≤ 102119 by omega) (show 0 ≤ r173.toInt by omega) (show r173.toInt ≤ 9 by omega) (show (-1) ≤ x172.toInt by omega) (show x172.toInt ≤ 102128 by omega) (show 0 ≤ x183.toInt by omega) (show x183.toInt ≤ 2001 by omega) (show 1 ≤ f41_39_8.toInt by omega) (show f41_39_8.toInt ≤ 10 by omega) (show 0 ≤ f41_39_9.toInt by omega) (show f41_39_9.toInt ≤ 12 by omega) (show (2001 - x183.toInt).toNat < n41 by omega) hw hT hF c180 c181 (lv_sub hl [5, 6, 7, 8, 9, 10, 1, 2, 0] rfl)
              · have c93 : v41_8.toInt = a4.toInt := wk_eq.mp c93
                refine lv_iload hx hb dX4_streetOnWay_85 (lv_at hl 0 rfl) ?_
                exact tk_iret hC hr hlocks hK ⟨hT, hF, (Or.inl ⟨(show 0 ≤ r26.toInt by omega), (show r26.toInt ≤ 11 by omega), (show a4.toInt ≤ 2000 by omega), ⟨f41_39_8, c43, (show 1 ≤ f41_39_8.toInt by omega), (show f41_39_8.toInt ≤ 10 by omega)⟩, ⟨f41_39_9, c44, (show 1 ≤ f41_39_9.toInt by omega), (show f41_39_9.toInt ≤ 12 by omega)⟩⟩)⟩ hw dX4_streetOnWay_87
            · refine lv_istore (lv' := [(9, .int (-1)), (0, .ref (ad 155)), (1, .int a1), (2, .int a2), (3, .int a3), (4, .int a4), (5, .int v41_5), (6, .int v41_6), (7, .int v41_7), (8, .int v41_8)]) hx hb dX4_streetOnWay_70 hl (by decide) rfl (fun ls hl => ?_)
              refine lv_iload hx hb dX4_streetOnWay_72 (lv_at hl 0 rfl) ?_
              refine lv_iconst (v := (-1)) hx hb dX4_streetOnWay_74 (by decide) ?_
              refine lv_icmp_eq (tgt := 85) hx hb dX4_streetOnWay_75 (by decide) (fun _ => ?_) (fun c => absurd (by decide) c)
              refine lv_iload hx hb dX4_streetOnWay_85 (lv_at hl 0 rfl) ?_
              exact tk_iret hC hr hlocks hK ⟨hT, hF, (Or.inr rfl)⟩ hw dX4_streetOnWay_87
  refine lv_aload_n hx hb dX4_streetOnWay_0 rfl (lv_at hl 0 rfl) ?_
  refine lv_aload_n hx hb dX4_streetOnWay_1 rfl (lv_at hl 0 rfl) ?_
  refine tk_getA hC hK hw hT hinX4 kC_at155 (by decide) rfl 1 (by decide) (List.mem_of_getElem? (i := 1) rfl) rfl rfl dX4_streetOnWay_2 ?_
  refine tk_geti hC hK hw hT hinX7 kC_at39 (by decide) rfl 9 (by decide) (List.mem_of_getElem? (i := 2) rfl) rfl rfl dX4_streetOnWay_5 (fun x184 c185 rx184 tx184 => ?_)
  refine lv_iload_n hx hb dX4_streetOnWay_8 rfl (lv_at hl 1 rfl) ?_
  refine lv_iload_n hx hb dX4_streetOnWay_9 rfl (lv_at hl 2 rfl) ?_
  refine lv_iload_n hx hb dX4_streetOnWay_10 rfl (lv_at hl 3 rfl) ?_
  refine tk_Vi hC hK hw hT hA hE hSR kC_at155 (by decide) rfl (k_X4_firstArrival_1 l adK adV dC dI cy ad B (by omega) (by omega) qr s1   x184 (show 0 ≤ x184.toInt by omega) (show x184.toInt ≤ 12 by omega) a1 (show 0 ≤ a1.toInt by omega) (show a1.toInt ≤ 9 by omega) a2 (show 0 ≤ a2.toInt by omega) (show a2.toInt ≤ 9 by omega) a3 (show 0 ≤ a3.toInt by omega) (show a3.toInt ≤ 99999 by omega) w0 s.heap.size hT ) (cwV 4 hC.2.2.2.2 gX4_streetOnWay_X4_firstArrival rfl rfl rfl (by decide +kernel) ⟨Nat.le_of_ble_eq_true rfl, Nat.le_of_ble_eq_true rfl⟩) rfl hl.1 rfl (Nat.le_of_ble_eq_true rfl) dX4_streetOnWay_11 (fun r186 w188 H locs hp187 hw => ?_)
  obtain ⟨hT, k189, hg194⟩ := hp187
  have hF := hF.tr k189 (by decide)
  have c195 := k189.gi kC_at39 (by decide) c185
  rcases hg194 with ⟨g190, g191, ⟨x192, c193, rx192, tx192⟩⟩ | rfl
  · refine lv_istore (lv' := [(5, .int r186), (0, .ref (ad 155)), (1, .int a1), (2, .int a2), (3, .int a3), (4, .int a4)]) hx hb dX4_streetOnWay_14 hl (by decide) rfl (fun ls hl => ?_)
    refine lv_iload hx hb dX4_streetOnWay_16 (lv_at hl 0 rfl) ?_
    refine lv_iconst (v := (-1)) hx hb dX4_streetOnWay_18 (by decide) ?_
    refine lv_icmp_ne (tgt := 24) hx hb dX4_streetOnWay_19 (by decide) (fun c196 => ?_) (fun c196 => ?_)
    · have c196 : ¬ r186.toInt = (-1 : Int) := wk_eqF c196
      refine lv_aload_n hx hb dX4_streetOnWay_24 rfl (lv_at hl 1 rfl) ?_
      refine lv_iload_n hx hb dX4_streetOnWay_25 rfl (lv_at hl 3 rfl) ?_
      refine lv_iload_n hx hb dX4_streetOnWay_26 rfl (lv_at hl 4 rfl) ?_
      refine lv_iload hx hb dX4_streetOnWay_27 (lv_at hl 0 rfl) ?_
      refine tk_Vv hC hK hw hT hA hE hSR kC_at155 (by decide) rfl (k_X4_findLatest_1 l adK adV dC dI cy ad B (by omega) (by omega) qr s1   a2 (show 0 ≤ a2.toInt by omega) (show a2.toInt ≤ 9 by omega) a3 (show 0 ≤ a3.toInt by omega) (show a3.toInt ≤ 99999 by omega) r186 (show 0 ≤ r186.toInt by omega) (show r186.toInt ≤ 102119 by omega) w188 H.size hT ) (cwV 3 hC.2.2.2.2 gX4_streetOnWay_X4_findLatest rfl rfl rfl (by decide +kernel) ⟨Nat.le_of_ble_eq_true rfl, Nat.le_of_ble_eq_true rfl⟩) rfl hl.1 rfl (Nat.le_of_ble_eq_true rfl) dX4_streetOnWay_29 (fun w199 H locs hp198 hw => ?_)
      obtain ⟨hT, k200, hg201⟩ := hp198
      have hF := hF.tr k200 (by decide)
      have c202 := k200.gi kC_at39 (by decide) c195
      have c203 := k200.gi kC_at39 (by decide) c193
      clear hg201
      refine lv_iload_n hx hb dX4_streetOnWay_32 rfl (lv_at hl 2 rfl) ?_
      refine lv_istore (lv' := [(6, .int a1), (5, .int r186), (0, .ref (ad 155)), (1, .int a1), (2, .int a2), (3, .int a3), (4, .int a4)]) hx hb dX4_streetOnWay_33 hl (by decide) rfl (fun ls hl => ?_)
      refine lv_iload_n hx hb dX4_streetOnWay_35 rfl (lv_at hl 5 rfl) ?_
      refine lv_istore (lv' := [(7, .int a3), (6, .int a1), (5, .int r186), (0, .ref (ad 155)), (1, .int a1), (2, .int a2), (3, .int a3), (4, .int a4)]) hx hb dX4_streetOnWay_36 hl (by decide) rfl (fun ls hl => ?_)
      refine lv_iconst (v := 0) hx hb dX4_streetOnWay_38 (by decide) ?_
      refine lv_istore (lv' := [(8, .int 0), (7, .int a3), (6, .int a1), (5, .int r186), (0, .ref (ad 155)), (1, .int a1), (2, .int a2), (3, .int a3), (4, .int a4)]) hx hb dX4_streetOnWay_39 hl (by decide) rfl (fun ls hl => ?_)
      exact L41 ((2001 - (0 : Int)).toNat + 1) r186 a1 a3 0 x192 x184 H locs ls w199 (show 0 ≤ a1.toInt by omega) (show a1.toInt ≤ 9 by omega) (show 0 ≤ a2.toInt by omega) (show a2.toInt ≤ 9 by omega) (show 0 ≤ a3.toInt by omega) (show a3.toInt ≤ 99999 by omega) (show 0 ≤ a4.toInt by omega) (show 0 ≤ r186.toInt by omega) (show r186.toInt ≤ 102119 by omega) (show 0 ≤ a1.toInt by omega) (show a1.toInt ≤ 9 by omega) (show (-1) ≤ a3.toInt by omega) (show a3.toInt ≤ 102128 by omega) (by decide) (by decide) (show 1 ≤ x192.toInt by omega) (show x192.toInt ≤ 10 by omega) (show 0 ≤ x184.toInt by omega) (show x184.toInt ≤ 12 by omega) (Nat.lt_succ_self _) hw hT hF c203 c202 (lv_sub hl [4, 5, 6, 7, 8, 3, 2, 1, 0] rfl)
    · have c196 : r186.toInt = (-1 : Int) := wk_eq.mp c196
      refine lv_iconst (v := (-1)) hx hb dX4_streetOnWay_22 (by decide) ?_
      exact tk_iret hC hr hlocks hK ⟨hT, hF, (Or.inr rfl)⟩ hw dX4_streetOnWay_23
  · refine lv_istore (lv' := [(5, .int (-1)), (0, .ref (ad 155)), (1, .int a1), (2, .int a2), (3, .int a3), (4, .int a4)]) hx hb dX4_streetOnWay_14 hl (by decide) rfl (fun ls hl => ?_)
    refine lv_iload hx hb dX4_streetOnWay_16 (lv_at hl 0 rfl) ?_
    refine lv_iconst (v := (-1)) hx hb dX4_streetOnWay_18 (by decide) ?_
    refine lv_icmp_ne (tgt := 24) hx hb dX4_streetOnWay_19 (by decide) (fun c => absurd (by decide) c) (fun _ => ?_)
    refine lv_iconst (v := (-1)) hx hb dX4_streetOnWay_22 (by decide) ?_
    exact tk_iret hC hr hlocks hK ⟨hT, hF, (Or.inr rfl)⟩ hw dX4_streetOnWay_23
