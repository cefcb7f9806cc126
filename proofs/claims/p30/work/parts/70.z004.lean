abbrev Pz_X7_readClause_4 (ad : Nat → Nat) (cy : Nat → ClassId) (B : Int) (qr : Nat) (s1 : Int) (a2 : Int32) (w0 : va_W) : va_W → Prop := fun u => TW ksC ad cy B qr s1 u ∧ FE ksC [(6, 1, 1), (6, 3, 3), (6, 4, 4), (7, 11, 11), (27, 0, 13)] w0 u ∧ Ev (fun n => m_X7_readClause n 29 1 a2.toInt (sI w0)) (0, sI u) ∧ (((∃ y : Int32, gi u 1 4 = y ∧ 1 ≤ y.toInt ∧ y.toInt ≤ 3205) ∧ (∃ y : Int32, gi u 29 11 = y ∧ 0 ≤ y.toInt ∧ y.toInt ≤ 3)) ∨ ((∃ y : Int32, gi u 1 4 = y ∧ 0 ≤ y.toInt ∧ y.toInt ≤ 3205) ∧ (∃ y : Int32, gi u 29 9 = y ∧ 0 ≤ y.toInt ∧ y.toInt ≤ 12) ∧ (∃ y : Int32, gi u 29 11 = y ∧ 0 ≤ y.toInt ∧ y.toInt ≤ 4)))
set_option maxHeartbeats 4000000 in
set_option maxRecDepth 100000 in
theorem kz_X7_readClause_4 (l : Launch) (adK adV : Nat → Nat) (dC : Nat → ClassId) (dI : Nat → Nat → Nat) (cy : Nat → ClassId) (ad : Nat → Nat) (B : Int) (hB0 : 2147483648 ≤ B) (hB1 : B ≤ 1152921504606846976) (qr : Nat) (s1 : Int)  (a2 : Int32) (ra2 : 3 ≤ a2.toInt) (ta2 : a2.toInt ≤ 26) (w0 : va_W) (sz : Nat) (hT : TW ksC ad cy B qr s1 w0) (f0_ : Int32) (cf0_ : gi w0 29 11 = f0_) (rf0_ : 0 ≤ f0_.toInt) (tf0_ : f0_.toInt ≤ 3) : Met l yX7_readClause (wu yX7_readClause cX7_readClause 3 none) ({ frames := 4, cells := 0, slots := 0, locals := 81 }) (va_Pc [.ref (ad 29), .ref (ad 1), .int a2] (wpreS adK adV dC dI cy sz w0)) (va_Qv (Pz_X7_readClause_4 ad cy B qr s1 a2 w0) (fun u : va_W => wpost dC dI cy (va_A w0 sz) u) (va_A w0 sz)) 0 0 (va_A w0 sz) := by
  refine Met.ofW (cc := cX7_readClause) (maxL := 3) (ret := none) (by decide) rfl ?_
  intro p e s m args below meth c s₁ Bk hml hv
  obtain ⟨rfl, ⟨hsz, hP, hK, hD0⟩, hE, hSR⟩ := hv
  have hx := Bk.exec
  have hb := Bk.bytes
  have hr := Bk.returns
  have hlocks := Bk.notSynchronized
  have hC : CallFix p m c cX7_readClause 3 s _ (wu yX7_readClause cX7_readClause 3 none) RX7 := ⟨hx, hb, hml, findClass_of_methodNamed Bk.named, atoms_spec (ws := (wu yX7_readClause cX7_readClause 3 none)) Bk.pre⟩
  subst hsz
  have hD := hD0.self (sz := s.heap.size)
  generalize hAe : va_A w0 s.heap.size = A at hD hE ⊢
  have hA : ∀ q : Nat, s.heap.size ≤ q → A q := fun q h => by rw [← hAe]; exact Or.inr h
  have hw : Wd dC dI A s.heap s.heap [] w0 := ⟨hP, hD, va_S.rf⟩
  have hF : FE ksC [(6, 1, 1), (6, 3, 3), (6, 4, 4), (7, 11, 11), (27, 0, 13)] w0 w0 := FE.rf
  have hl := lv_entry ([.ref (ad 29), .ref (ad 1), .int a2]) (n := 3) (Nat.le_of_ble_eq_true rfl)
  rw [lg_entry_eq]
  generalize (lg_sl ([.ref (ad 29), .ref (ad 1), .int a2]) ++ List.replicate (3 - (lg_sl ([.ref (ad 29), .ref (ad 1), .int a2])).length) Slot.unset).toArray = ls at hl ⊢
  have hl : lv_has ls 3 [(0, .ref (ad 29)), (1, .ref (ad 1)), (2, .int a2)] := hl
  generalize hloc : ([] : List Loc) = locs at hw ⊢
  have J57 : ∀ (f57_1_4 : Int32) (f57_29_11 : Int32) (f57_29_9 : Int32) (H : Heap) (locs : List Loc) (ls : Array Slot) (w1 : va_W), 3 ≤ a2.toInt → a2.toInt ≤ 26 → 0 ≤ f57_1_4.toInt → f57_1_4.toInt ≤ 3205 → 0 ≤ f57_29_11.toInt → f57_29_11.toInt ≤ 4 → 0 ≤ f57_29_9.toInt → f57_29_9.toInt ≤ 12 → Wd dC dI A s.heap H locs w1 → TW ksC ad cy B qr s1 w1 → FE ksC [(6, 1, 1), (6, 3, 3), (6, 4, 4), (7, 11, 11), (27, 0, 13)] w0 w1 → gi w1 1 4 = f57_1_4 → gi w1 29 11 = f57_29_11 → gi w1 29 9 = f57_29_9 → TT (fun n => m_X7_readClause n 29 1 a2.toInt (sI w0)) (fun n => b_X7_readClause_57 n 29 1 (sI w1)) → lv_has ls 3 [(0, .ref (ad 29)), (1, .ref (ad 1)), (2, .int a2)] → W p l e ({ frames := 4, cells := 0, slots := 0, locals := 81 }) s m (List.toArray [.ref (ad 29), .ref (ad 1), .int a2]) below meth c H locs 0 0 (MQ below (va_Qv (Pz_X7_readClause_4 ad cy B qr s1 a2 w0) (fun u : va_W => wpost dC dI cy A u) A) (List.toArray [.ref (ad 29), .ref (ad 1), .int a2]) s 0 0 A) (F0 m 57 ls []) := by
    intro f57_1_4 f57_29_11 f57_29_9 H locs ls w1 r2 t3 r4 t5 r7 t8 r10 t11 hw hT hF c6 c9 c12 hM hl
    exact tk_vret hC hr hlocks hK ⟨hT, hF, hM.ret rfl, (Or.inr ⟨⟨f57_1_4, c6, (show 0 ≤ f57_1_4.toInt from r4), (show f57_1_4.toInt ≤ 3205 from t5)⟩, ⟨f57_29_9, c12, (show 0 ≤ f57_29_9.toInt from r10), (show f57_29_9.toInt ≤ 12 from t11)⟩, ⟨f57_29_11, c9, (show 0 ≤ f57_29_11.toInt from r7), (show f57_29_11.toInt ≤ 4 from t8)⟩⟩)⟩ hw dX7_readClause_57
  have hM : TT (fun n => m_X7_readClause n 29 1 a2.toInt (sI w0)) (fun n => m_X7_readClause n 29 1 a2.toInt (sI w0)) := TT.rf
  refine lv_aload_n hx hb dX7_readClause_0 rfl (lv_at hl 1 rfl) ?_
  refine tk_Vi hC hK hw hT hA hE hSR kC_at1 (by decide) rfl (kz_X6_isFaulty_1 l adK adV dC dI cy ad B hB0 (Int.le_trans hB1 (by decide)) qr s1    w0 s.heap.size hT ) (cwV 0 hC.2.2.2.2 uV_RX7_89 rfl rfl rfl (by decide +kernel) ⟨Nat.le_of_ble_eq_true rfl, Nat.le_of_ble_eq_true rfl⟩) rfl hl.1 rfl (Nat.le_of_ble_eq_true rfl) dX7_readClause_1 (fun r13 w15 H locs hp14 hw => ?_)
  obtain ⟨hT, k16, hv22, hg21⟩ := hp14
  have hF := hF.tr k16 (by decide)
  have c23 := k16.gi kC_at29 (by decide) cf0_
  rcases hg21 with ⟨rfl, ⟨x17, c18, rx17, tx17⟩⟩ | ⟨rfl, ⟨x19, c20, rx19, tx19⟩⟩
  · replace hM := hM.call (r' := 0) hv22 (by decide)
    refine lv_if_eq (tgt := 8) hx hb dX7_readClause_4 (by decide) (fun _ => ?_) (fun c => absurd (by decide) c)
    replace hM := hM.pos (by decide)
    refine lv_iload_n hx hb dX7_readClause_8 rfl (lv_at hl 2 rfl) ?_
    refine lv_if_ne (tgt := 26) hx hb dX7_readClause_9 (by decide) (fun _ => ?_) (fun c => absurd (show a2.toInt = (0 : Int) from wk_eq.mp c) (by omega))
    replace hM := hM.pos (by omega)
    refine lv_iload_n hx hb dX7_readClause_26 rfl (lv_at hl 2 rfl) ?_
    refine lv_iconst (v := 1) hx hb dX7_readClause_27 (by decide) ?_
    refine lv_icmp_ne (tgt := 39) hx hb dX7_readClause_28 (by decide) (fun _ => ?_) (fun c => absurd (show a2.toInt = (1 : Int) from wk_eq.mp c) (by omega))
    replace hM := hM.pos (by omega)
    refine lv_iload_n hx hb dX7_readClause_39 rfl (lv_at hl 2 rfl) ?_
    refine lv_iconst (v := 2) hx hb dX7_readClause_40 (by decide) ?_
    refine lv_icmp_ne (tgt := 52) hx hb dX7_readClause_41 (by decide) (fun _ => ?_) (fun c => absurd (show a2.toInt = (2 : Int) from wk_eq.mp c) (by omega))
    replace hM := hM.pos (by omega)
    refine lv_aload_n hx hb dX7_readClause_52 rfl (lv_at hl 0 rfl) ?_
    refine lv_aload_n hx hb dX7_readClause_53 rfl (lv_at hl 1 rfl) ?_
    refine tk_Vv hC hK hw hT hA hE hSR kC_at29 (by decide) rfl (kz_X7_readLift_1 l adK adV dC dI cy ad B hB0 (Int.le_trans hB1 (by decide)) qr s1    w15 H.size hT (c18.trans (wk_eq.mpr (show x17.toInt = 0 by first | exact Int.le_antisymm (by omega) (by omega) | omega))) f0_ c23 (show 0 ≤ f0_.toInt from rf0_) (show f0_.toInt ≤ 3 from tf0_)) (cwV 1 hC.2.2.2.2 uV_RX7_103 rfl rfl rfl (by decide +kernel) ⟨Nat.le_of_ble_eq_true rfl, Nat.le_of_ble_eq_true rfl⟩) rfl hl.1 rfl (Nat.le_of_ble_eq_true rfl) dX7_readClause_54 (fun w26 H locs hp25 hw => ?_)
    obtain ⟨hT, k27, hv45, hg44⟩ := hp25
    have hF := hF.tr k27 (by decide)
    rcases hg44 with ⟨⟨x28, c29, rx28, tx28⟩, ⟨x30, c31, rx30, tx30⟩, ⟨x32, c33, rx32, tx32⟩⟩ | ⟨⟨x34, c35, rx34, tx34⟩, ⟨x36, c37, rx36, tx36⟩, ⟨x38, c39, rx38, tx38⟩, ⟨x40, c41, rx40, tx40⟩, ⟨x42, c43, rx42, tx42⟩⟩
    · replace hM := hM.call hv45 rfl
      exact J57 x28 x32 x30 H locs ls w26 (show 3 ≤ a2.toInt from ra2) (show a2.toInt ≤ 26 from ta2) (show 0 ≤ x28.toInt by first | with_reducible assumption | omega) (show x28.toInt ≤ 3205 by first | with_reducible assumption | omega) (show 0 ≤ x32.toInt by first | with_reducible assumption | omega) (show x32.toInt ≤ 4 by first | with_reducible assumption | omega) (show 0 ≤ x30.toInt by first | with_reducible assumption | omega) (show x30.toInt ≤ 12 by first | with_reducible assumption | omega)  hw hT hF c29 c33 c31 hM (lv_sub hl [0, 1, 2] rfl)
    · replace hM := hM.call hv45 rfl
      exact J57 x38 x42 x40 H locs ls w26 (show 3 ≤ a2.toInt from ra2) (show a2.toInt ≤ 26 from ta2) (show 0 ≤ x38.toInt by first | with_reducible assumption | omega) (show x38.toInt ≤ 3205 by first | with_reducible assumption | omega) (show 0 ≤ x42.toInt by first | with_reducible assumption | omega) (show x42.toInt ≤ 4 by first | with_reducible assumption | omega) (show 0 ≤ x40.toInt by first | with_reducible assumption | omega) (show x40.toInt ≤ 12 by first | with_reducible assumption | omega)  hw hT hF c39 c43 c41 hM (lv_sub hl [0, 1, 2] rfl)
  · replace hM := hM.call (r' := 1) hv22 (by decide)
    refine lv_if_eq (tgt := 8) hx hb dX7_readClause_4 (by decide) (fun c => absurd c (by decide)) (fun _ => ?_)
    replace hM := hM.neg (by decide)
    exact tk_vret hC hr hlocks hK ⟨hT, hF, hM.ret rfl, (Or.inl ⟨⟨x19, c20, (show 1 ≤ x19.toInt by first | with_reducible assumption | omega), (show x19.toInt ≤ 3205 by first | with_reducible assumption | omega)⟩, ⟨f0_, c23, (show 0 ≤ f0_.toInt from rf0_), (show f0_.toInt ≤ 3 from tf0_)⟩⟩)⟩ hw dX7_readClause_7
abbrev Pz_X7_readClause_5 (ad : Nat → Nat) (cy : Nat → ClassId) (B : Int) (qr : Nat) (s1 : Int) (a2 : Int32) (w0 : va_W) : va_W → Prop := fun u => TW ksC ad cy B qr s1 u ∧ FE ksC ([] : List (Nat × Nat × Nat)) w0 u ∧ Ev (fun n => m_X7_readClause n 29 1 a2.toInt (sI w0)) (0, sI u) ∧ (((∃ y : Int32, gi u 1 4 = y ∧ 1 ≤ y.toInt ∧ y.toInt ≤ 3205)))
set_option maxHeartbeats 4000000 in
set_option maxRecDepth 100000 in
theorem kz_X7_readClause_5 (l : Launch) (adK adV : Nat → Nat) (dC : Nat → ClassId) (dI : Nat → Nat → Nat) (cy : Nat → ClassId) (ad : Nat → Nat) (B : Int) (hB0 : 2147483648 ≤ B) (hB1 : B ≤ 1152921504606846976) (qr : Nat) (s1 : Int)  (a2 : Int32) (ra2 : 0 ≤ a2.toInt) (ta2 : a2.toInt ≤ 26) (w0 : va_W) (sz : Nat) (hT : TW ksC ad cy B qr s1 w0) (f0_ : Int32) (cf0_ : gi w0 1 4 = f0_) (rf0_ : 1 ≤ f0_.toInt) (tf0_ : f0_.toInt ≤ 3205) : Met l yX7_readClause (wu yX7_readClause cX7_readClause 3 none) ({ frames := 2, cells := 0, slots := 0, locals := 32 }) (va_Pc [.ref (ad 29), .ref (ad 1), .int a2] (wpreS adK adV dC dI cy sz w0)) (va_Qv (Pz_X7_readClause_5 ad cy B qr s1 a2 w0) (fun u : va_W => wpost dC dI cy (va_A w0 sz) u) (va_A w0 sz)) 0 0 (va_A w0 sz) := by
  refine Met.ofW (cc := cX7_readClause) (maxL := 3) (ret := none) (by decide) rfl ?_
  intro p e s m args below meth c s₁ Bk hml hv
  obtain ⟨rfl, ⟨hsz, hP, hK, hD0⟩, hE, hSR⟩ := hv
  have hx := Bk.exec
  have hb := Bk.bytes
  have hr := Bk.returns
  have hlocks := Bk.notSynchronized
  have hC : CallFix p m c cX7_readClause 3 s _ (wu yX7_readClause cX7_readClause 3 none) RX7 := ⟨hx, hb, hml, findClass_of_methodNamed Bk.named, atoms_spec (ws := (wu yX7_readClause cX7_readClause 3 none)) Bk.pre⟩
  subst hsz
  have hD := hD0.self (sz := s.heap.size)
  generalize hAe : va_A w0 s.heap.size = A at hD hE ⊢
  have hA : ∀ q : Nat, s.heap.size ≤ q → A q := fun q h => by rw [← hAe]; exact Or.inr h
  have hw : Wd dC dI A s.heap s.heap [] w0 := ⟨hP, hD, va_S.rf⟩
  have hF : FE ksC ([] : List (Nat × Nat × Nat)) w0 w0 := FE.rf
  have hl := lv_entry ([.ref (ad 29), .ref (ad 1), .int a2]) (n := 3) (Nat.le_of_ble_eq_true rfl)
  rw [lg_entry_eq]
  generalize (lg_sl ([.ref (ad 29), .ref (ad 1), .int a2]) ++ List.replicate (3 - (lg_sl ([.ref (ad 29), .ref (ad 1), .int a2])).length) Slot.unset).toArray = ls at hl ⊢
  have hl : lv_has ls 3 [(0, .ref (ad 29)), (1, .ref (ad 1)), (2, .int a2)] := hl
  generalize hloc : ([] : List Loc) = locs at hw ⊢
  have hM : TT (fun n => m_X7_readClause n 29 1 a2.toInt (sI w0)) (fun n => m_X7_readClause n 29 1 a2.toInt (sI w0)) := TT.rf
  refine lv_aload_n hx hb dX7_readClause_0 rfl (lv_at hl 1 rfl) ?_
  refine tk_Vi hC hK hw hT hA hE hSR kC_at1 (by decide) rfl (kz_X6_isFaulty_3 l adK adV dC dI cy ad B hB0 (Int.le_trans hB1 (by decide)) qr s1    w0 s.heap.size hT f0_ cf0_ (show 1 ≤ f0_.toInt from rf0_) (show f0_.toInt ≤ 3205 from tf0_)) (cwV 0 hC.2.2.2.2 uV_RX7_89 rfl rfl rfl (by decide +kernel) ⟨Nat.le_of_ble_eq_true rfl, Nat.le_of_ble_eq_true rfl⟩) rfl hl.1 rfl (Nat.le_of_ble_eq_true rfl) dX7_readClause_1 (fun r1 w3 H locs hp2 hw => ?_)
  obtain ⟨hT, k4, hv8, hg7⟩ := hp2
  have hF := hF.tr k4 (by decide)
  have c9 := k4.gi kC_at1 (by decide) cf0_
  obtain ⟨rfl, ⟨x5, c6, rx5, tx5⟩⟩ := hg7
  replace hM := hM.call (r' := 1) hv8 (by decide)
  have ex5 : x5.toInt = f0_.toInt := by rw [← c9.symm.trans c6]
  refine lv_if_eq (tgt := 8) hx hb dX7_readClause_4 (by decide) (fun c => absurd c (by decide)) (fun _ => ?_)
  replace hM := hM.neg (by decide)
  exact tk_vret hC hr hlocks hK ⟨hT, hF, hM.ret rfl, ⟨f0_, c9, (show 1 ≤ f0_.toInt from rf0_), (show f0_.toInt ≤ 3205 from tf0_)⟩⟩ hw dX7_readClause_7
abbrev Pz_X7_readClause_6 (ad : Nat → Nat) (cy : Nat → ClassId) (B : Int) (qr : Nat) (s1 : Int)  (w0 : va_W) : va_W → Prop := fun u => TW ksC ad cy B qr s1 u ∧ FE ksC ([] : List (Nat × Nat × Nat)) w0 u ∧ Ev (fun n => m_X7_readClause n 29 1 1 (sI w0)) (0, sI u) ∧ (((∃ y : Int32, gi u 1 4 = y ∧ 1 ≤ y.toInt ∧ y.toInt ≤ 3205) ∧ (∃ y : Int32, gi u 29 9 = y ∧ 12 ≤ y.toInt ∧ y.toInt ≤ 12)))
set_option maxHeartbeats 4000000 in
set_option maxRecDepth 100000 in
theorem kz_X7_readClause_6 (l : Launch) (adK adV : Nat → Nat) (dC : Nat → ClassId) (dI : Nat → Nat → Nat) (cy : Nat → ClassId) (ad : Nat → Nat) (B : Int) (hB0 : 2147483648 ≤ B) (hB1 : B ≤ 1152921504606846976) (qr : Nat) (s1 : Int)   (w0 : va_W) (sz : Nat) (hT : TW ksC ad cy B qr s1 w0) (f0_ : Int32) (cf0_ : gi w0 1 4 = f0_) (rf0_ : 1 ≤ f0_.toInt) (tf0_ : f0_.toInt ≤ 3205) (cf1_ : gi w0 29 9 = 12) : Met l yX7_readClause (wu yX7_readClause cX7_readClause 3 none) ({ frames := 2, cells := 0, slots := 0, locals := 32 }) (va_Pc [.ref (ad 29), .ref (ad 1), .int 1] (wpreS adK adV dC dI cy sz w0)) (va_Qv (Pz_X7_readClause_6 ad cy B qr s1  w0) (fun u : va_W => wpost dC dI cy (va_A w0 sz) u) (va_A w0 sz)) 0 0 (va_A w0 sz) := by
  refine Met.ofW (cc := cX7_readClause) (maxL := 3) (ret := none) (by decide) rfl ?_
  intro p e s m args below meth c s₁ Bk hml hv
  obtain ⟨rfl, ⟨hsz, hP, hK, hD0⟩, hE, hSR⟩ := hv
  have hx := Bk.exec
  have hb := Bk.bytes
  have hr := Bk.returns
  have hlocks := Bk.notSynchronized
  have hC : CallFix p m c cX7_readClause 3 s _ (wu yX7_readClause cX7_readClause 3 none) RX7 := ⟨hx, hb, hml, findClass_of_methodNamed Bk.named, atoms_spec (ws := (wu yX7_readClause cX7_readClause 3 none)) Bk.pre⟩
  subst hsz
  have hD := hD0.self (sz := s.heap.size)
  generalize hAe : va_A w0 s.heap.size = A at hD hE ⊢
  have hA : ∀ q : Nat, s.heap.size ≤ q → A q := fun q h => by rw [← hAe]; exact Or.inr h
  have hw : Wd dC dI A s.heap s.heap [] w0 := ⟨hP, hD, va_S.rf⟩
  have hF : FE ksC ([] : List (Nat × Nat × Nat)) w0 w0 := FE.rf
  have hl := lv_entry ([.ref (ad 29), .ref (ad 1), .int 1]) (n := 3) (Nat.le_of_ble_eq_true rfl)
  rw [lg_entry_eq]
  generalize (lg_sl ([.ref (ad 29), .ref (ad 1), .int 1]) ++ List.replicate (3 - (lg_sl ([.ref (ad 29), .ref (ad 1), .int 1])).length) Slot.unset).toArray = ls at hl ⊢
  have hl : lv_has ls 3 [(0, .ref (ad 29)), (1, .ref (ad 1)), (2, .int 1)] := hl
  generalize hloc : ([] : List Loc) = locs at hw ⊢
  have hM : TT (fun n => m_X7_readClause n 29 1 1 (sI w0)) (fun n => m_X7_readClause n 29 1 1 (sI w0)) := TT.rf
  refine lv_aload_n hx hb dX7_readClause_0 rfl (lv_at hl 1 rfl) ?_
  refine tk_Vi hC hK hw hT hA hE hSR kC_at1 (by decide) rfl (kz_X6_isFaulty_3 l adK adV dC dI cy ad B hB0 (Int.le_trans hB1 (by decide)) qr s1    w0 s.heap.size hT f0_ cf0_ (show 1 ≤ f0_.toInt from rf0_) (show f0_.toInt ≤ 3205 from tf0_)) (cwV 0 hC.2.2.2.2 uV_RX7_89 rfl rfl rfl (by decide +kernel) ⟨Nat.le_of_ble_eq_true rfl, Nat.le_of_ble_eq_true rfl⟩) rfl hl.1 rfl (Nat.le_of_ble_eq_true rfl) dX7_readClause_1 (fun r1 w3 H locs hp2 hw => ?_)
  obtain ⟨hT, k4, hv8, hg7⟩ := hp2
  have hF := hF.tr k4 (by decide)
  have c9 := k4.gi kC_at1 (by decide) cf0_
  have c10 := k4.gi kC_at29 (by decide) cf1_
  obtain ⟨rfl, ⟨x5, c6, rx5, tx5⟩⟩ := hg7
  replace hM := hM.call (r' := 1) hv8 (by decide)
  have ex5 : x5.toInt = f0_.toInt := by rw [← c9.symm.trans c6]
  refine lv_if_eq (tgt := 8) hx hb dX7_readClause_4 (by decide) (fun c => absurd c (by decide)) (fun _ => ?_)
  replace hM := hM.neg (by decide)
  exact tk_vret hC hr hlocks hK ⟨hT, hF, hM.ret rfl, ⟨⟨f0_, c9, (show 1 ≤ f0_.toInt from rf0_), (show f0_.toInt ≤ 3205 from tf0_)⟩, ⟨12, c10, (by decide), (by decide)⟩⟩⟩ hw dX7_readClause_7
abbrev Pz_X7_readClause_7 (ad : Nat → Nat) (cy : Nat → ClassId) (B : Int) (qr : Nat) (s1 : Int)  (w0 : va_W) : va_W → Prop := fun u => TW ksC ad cy B qr s1 u ∧ FE ksC ([] : List (Nat × Nat × Nat)) w0 u ∧ Ev (fun n => m_X7_readClause n 29 1 2 (sI w0)) (0, sI u) ∧ (((∃ y : Int32, gi u 1 4 = y ∧ 1 ≤ y.toInt ∧ y.toInt ≤ 3205) ∧ (∃ y : Int32, gi u 29 10 = y ∧ 8 ≤ y.toInt ∧ y.toInt ≤ 8)))
set_option maxHeartbeats 4000000 in
set_option maxRecDepth 100000 in
theorem kz_X7_readClause_7 (l : Launch) (adK adV : Nat → Nat) (dC : Nat → ClassId) (dI : Nat → Nat → Nat) (cy : Nat → ClassId) (ad : Nat → Nat) (B : Int) (hB0 : 2147483648 ≤ B) (hB1 : B ≤ 1152921504606846976) (qr : Nat) (s1 : Int)   (w0 : va_W) (sz : Nat) (hT : TW ksC ad cy B qr s1 w0) (f0_ : Int32) (cf0_ : gi w0 1 4 = f0_) (rf0_ : 1 ≤ f0_.toInt) (tf0_ : f0_.toInt ≤ 3205) (cf1_ : gi w0 29 10 = 8) : Met l yX7_readClause (wu yX7_readClause cX7_readClause 3 none) ({ frames := 2, cells := 0, slots := 0, locals := 32 }) (va_Pc [.ref (ad 29), .ref (ad 1), .int 2] (wpreS adK adV dC dI cy sz w0)) (va_Qv (Pz_X7_readClause_7 ad cy B qr s1  w0) (fun u : va_W => wpost dC dI cy (va_A w0 sz) u) (va_A w0 sz)) 0 0 (va_A w0 sz) := by
  refine Met.ofW (cc := cX7_readClause) (maxL := 3) (ret := none) (by decide) rfl ?_
  intro p e s m args below meth c s₁ Bk hml hv
  obtain ⟨rfl, ⟨hsz, hP, hK, hD0⟩, hE, hSR⟩ := hv
  have hx := Bk.exec
  have hb := Bk.bytes
  have hr := Bk.returns
  have hlocks := Bk.notSynchronized
  have hC : CallFix p m c cX7_readClause 3 s _ (wu yX7_readClause cX7_readClause 3 none) RX7 := ⟨hx, hb, hml, findClass_of_methodNamed Bk.named, atoms_spec (ws := (wu yX7_readClause cX7_readClause 3 none)) Bk.pre⟩
  subst hsz
  have hD := hD0.self (sz := s.heap.size)
  generalize hAe : va_A w0 s.heap.size = A at hD hE ⊢
  have hA : ∀ q : Nat, s.heap.size ≤ q → A q := fun q h => by rw [← hAe]; exact Or.inr h
  have hw : Wd dC dI A s.heap s.heap [] w0 := ⟨hP, hD, va_S.rf⟩
  have hF : FE ksC ([] : List (Nat × Nat × Nat)) w0 w0 := FE.rf
  have hl := lv_entry ([.ref (ad 29), .ref (ad 1), .int 2]) (n := 3) (Nat.le_of_ble_eq_true rfl)
  rw [lg_entry_eq]
  generalize (lg_sl ([.ref (ad 29), .ref (ad 1), .int 2]) ++ List.replicate (3 - (lg_sl ([.ref (ad 29), .ref (ad 1), .int 2])).length) Slot.unset).toArray = ls at hl ⊢
  have hl : lv_has ls 3 [(0, .ref (ad 29)), (1, .ref (ad 1)), (2, .int 2)] := hl
  generalize hloc : ([] : List Loc) = locs at hw ⊢
  have hM : TT (fun n => m_X7_readClause n 29 1 2 (sI w0)) (fun n => m_X7_readClause n 29 1 2 (sI w0)) := TT.rf
  refine lv_aload_n hx hb dX7_readClause_0 rfl (lv_at hl 1 rfl) ?_
  refine tk_Vi hC hK hw hT hA hE hSR kC_at1 (by decide) rfl (kz_X6_isFaulty_3 l adK adV dC dI cy ad B hB0 (Int.le_trans hB1 (by decide)) qr s1    w0 s.heap.size hT f0_ cf0_ (show 1 ≤ f0_.toInt from rf0_) (show f0_.toInt ≤ 3205 from tf0_)) (cwV 0 hC.2.2.2.2 uV_RX7_89 rfl rfl rfl (by decide +kernel) ⟨Nat.le_of_ble_eq_true rfl, Nat.le_of_ble_eq_true rfl⟩) rfl hl.1 rfl (Nat.le_of_ble_eq_true rfl) dX7_readClause_1 (fun r1 w3 H locs hp2 hw => ?_)
  obtain ⟨hT, k4, hv8, hg7⟩ := hp2
  have hF := hF.tr k4 (by decide)
  have c9 := k4.gi kC_at1 (by decide) cf0_
  have c10 := k4.gi kC_at29 (by decide) cf1_
  obtain ⟨rfl, ⟨x5, c6, rx5, tx5⟩⟩ := hg7
  replace hM := hM.call (r' := 1) hv8 (by decide)
  have ex5 : x5.toInt = f0_.toInt := by rw [← c9.symm.trans c6]
  refine lv_if_eq (tgt := 8) hx hb dX7_readClause_4 (by decide) (fun c => absurd c (by decide)) (fun _ => ?_)
  replace hM := hM.neg (by decide)
  exact tk_vret hC hr hlocks hK ⟨hT, hF, hM.ret rfl, ⟨⟨f0_, c9, (show 1 ≤ f0_.toInt from rf0_), (show f0_.toInt ≤ 3205 from tf0_)⟩, ⟨8, c10, (by decide), (by decide)⟩⟩⟩ hw dX7_readClause_7
abbrev Pz_X7_readClause_8 (ad : Nat → Nat) (cy : Nat → ClassId) (B : Int) (qr : Nat) (s1 : Int) (a2 : Int32) (w0 : va_W) : va_W → Prop := fun u => TW ksC ad cy B qr s1 u ∧ FE ksC ([] : List (Nat × Nat × Nat)) w0 u ∧ Ev (fun n => m_X7_readClause n 29 1 a2.toInt (sI w0)) (0, sI u) ∧ (((∃ y : Int32, gi u 1 4 = y ∧ 1 ≤ y.toInt ∧ y.toInt ≤ 3205) ∧ (∃ y : Int32, gi u 29 11 = y ∧ 4 ≤ y.toInt ∧ y.toInt ≤ 4)))
set_option maxHeartbeats 4000000 in
set_option maxRecDepth 100000 in
theorem kz_X7_readClause_8 (l : Launch) (adK adV : Nat → Nat) (dC : Nat → ClassId) (dI : Nat → Nat → Nat) (cy : Nat → ClassId) (ad : Nat → Nat) (B : Int) (hB0 : 2147483648 ≤ B) (hB1 : B ≤ 1152921504606846976) (qr : Nat) (s1 : Int)  (a2 : Int32) (ra2 : 3 ≤ a2.toInt) (ta2 : a2.toInt ≤ 26) (w0 : va_W) (sz : Nat) (hT : TW ksC ad cy B qr s1 w0) (f0_ : Int32) (cf0_ : gi w0 1 4 = f0_) (rf0_ : 1 ≤ f0_.toInt) (tf0_ : f0_.toInt ≤ 3205) (cf1_ : gi w0 29 11 = 4) : Met l yX7_readClause (wu yX7_readClause cX7_readClause 3 none) ({ frames := 2, cells := 0, slots := 0, locals := 32 }) (va_Pc [.ref (ad 29), .ref (ad 1), .int a2] (wpreS adK adV dC dI cy sz w0)) (va_Qv (Pz_X7_readClause_8 ad cy B qr s1 a2 w0) (fun u : va_W => wpost dC dI cy (va_A w0 sz) u) (va_A w0 sz)) 0 0 (va_A w0 sz) := by
  refine Met.ofW (cc := cX7_readClause) (maxL := 3) (ret := none) (by decide) rfl ?_
  intro p e s m args below meth c s₁ Bk hml hv
  obtain ⟨rfl, ⟨hsz, hP, hK, hD0⟩, hE, hSR⟩ := hv
  have hx := Bk.exec
  have hb := Bk.bytes
  have hr := Bk.returns
  have hlocks := Bk.notSynchronized
  have hC : CallFix p m c cX7_readClause 3 s _ (wu yX7_readClause cX7_readClause 3 none) RX7 := ⟨hx, hb, hml, findClass_of_methodNamed Bk.named, atoms_spec (ws := (wu yX7_readClause cX7_readClause 3 none)) Bk.pre⟩
  subst hsz
  have hD := hD0.self (sz := s.heap.size)
  generalize hAe : va_A w0 s.heap.size = A at hD hE ⊢
  have hA : ∀ q : Nat, s.heap.size ≤ q → A q := fun q h => by rw [← hAe]; exact Or.inr h
  have hw : Wd dC dI A s.heap s.heap [] w0 := ⟨hP, hD, va_S.rf⟩
  have hF : FE ksC ([] : List (Nat × Nat × Nat)) w0 w0 := FE.rf
  have hl := lv_entry ([.ref (ad 29), .ref (ad 1), .int a2]) (n := 3) (Nat.le_of_ble_eq_true rfl)
  rw [lg_entry_eq]
  generalize (lg_sl ([.ref (ad 29), .ref (ad 1), .int a2]) ++ List.replicate (3 - (lg_sl ([.ref (ad 29), .ref (ad 1), .int a2])).length) Slot.unset).toArray = ls at hl ⊢
  have hl : lv_has ls 3 [(0, .ref (ad 29)), (1, .ref (ad 1)), (2, .int a2)] := hl
  generalize hloc : ([] : List Loc) = locs at hw ⊢
  have hM : TT (fun n => m_X7_readClause n 29 1 a2.toInt (sI w0)) (fun n => m_X7_readClause n 29 1 a2.toInt (sI w0)) := TT.rf
  refine lv_aload_n hx hb dX7_readClause_0 rfl (lv_at hl 1 rfl) ?_
  refine tk_Vi hC hK hw hT hA hE hSR kC_at1 (by decide) rfl (kz_X6_isFaulty_3 l adK adV dC dI cy ad B hB0 (Int.le_trans hB1 (by decide)) qr s1    w0 s.heap.size hT f0_ cf0_ (show 1 ≤ f0_.toInt from rf0_) (show f0_.toInt ≤ 3205 from tf0_)) (cwV 0 hC.2.2.2.2 uV_RX7_89 rfl rfl rfl (by decide +kernel) ⟨Nat.le_of_ble_eq_true rfl, Nat.le_of_ble_eq_true rfl⟩) rfl hl.1 rfl (Nat.le_of_ble_eq_true rfl) dX7_readClause_1 (fun r1 w3 H locs hp2 hw => ?_)
  obtain ⟨hT, k4, hv8, hg7⟩ := hp2
  have hF := hF.tr k4 (by decide)
  have c9 := k4.gi kC_at1 (by decide) cf0_
  have c10 := k4.gi kC_at29 (by decide) cf1_
  obtain ⟨rfl, ⟨x5, c6, rx5, tx5⟩⟩ := hg7
  replace hM := hM.call (r' := 1) hv8 (by decide)
  have ex5 : x5.toInt = f0_.toInt := by rw [← c9.symm.trans c6]
  refine lv_if_eq (tgt := 8) hx hb dX7_readClause_4 (by decide) (fun c => absurd c (by decide)) (fun _ => ?_)
  replace hM := hM.neg (by decide)
  exact tk_vret hC hr hlocks hK ⟨hT, hF, hM.ret rfl, ⟨⟨f0_, c9, (show 1 ≤ f0_.toInt from rf0_), (show f0_.toInt ≤ 3205 from tf0_)⟩, ⟨4, c10, (by decide), (by decide)⟩⟩⟩ hw dX7_readClause_7
abbrev Pz_X7_readClause_9 (ad : Nat → Nat) (cy : Nat → ClassId) (B : Int) (qr : Nat) (s1 : Int)  (w0 : va_W) : va_W → Prop := fun u => TW ksC ad cy B qr s1 u ∧ FE ksC ([] : List (Nat × Nat × Nat)) w0 u ∧ Ev (fun n => m_X7_readClause n 29 1 (-1) (sI w0)) (0, sI u) ∧ (((∃ y : Int32, gi u 1 4 = y ∧ 1 ≤ y.toInt ∧ y.toInt ≤ 3205)))
set_option maxHeartbeats 4000000 in
set_option maxRecDepth 100000 in
theorem kz_X7_readClause_9 (l : Launch) (adK adV : Nat → Nat) (dC : Nat → ClassId) (dI : Nat → Nat → Nat) (cy : Nat → ClassId) (ad : Nat → Nat) (B : Int) (hB0 : 2147483648 ≤ B) (hB1 : B ≤ 1152921504606846976) (qr : Nat) (s1 : Int)   (w0 : va_W) (sz : Nat) (hT : TW ksC ad cy B qr s1 w0) (f0_ : Int32) (cf0_ : gi w0 1 4 = f0_) (rf0_ : 1 ≤ f0_.toInt) (tf0_ : f0_.toInt ≤ 3205) : Met l yX7_readClause (wu yX7_readClause cX7_readClause 3 none) ({ frames := 2, cells := 0, slots := 0, locals := 32 }) (va_Pc [.ref (ad 29), .ref (ad 1), .int (-1)] (wpreS adK adV dC dI cy sz w0)) (va_Qv (Pz_X7_readClause_9 ad cy B qr s1  w0) (fun u : va_W => wpost dC dI cy (va_A w0 sz) u) (va_A w0 sz)) 0 0 (va_A w0 sz) := by
  refine Met.ofW (cc := cX7_readClause) (maxL := 3) (ret := none) (by decide) rfl ?_
  intro p e s m args below meth c s₁ Bk hml hv
  obtain ⟨rfl, ⟨hsz, hP, hK, hD0⟩, hE, hSR⟩ := hv
  have hx := Bk.exec
  have hb := Bk.bytes
  have hr := Bk.returns
  have hlocks := Bk.notSynchronized
  have hC : CallFix p m c cX7_readClause 3 s _ (wu yX7_readClause cX7_readClause 3 none) RX7 := ⟨hx, hb, hml, findClass_of_methodNamed Bk.named, atoms_spec (ws := (wu yX7_readClause cX7_readClause 3 none)) Bk.pre⟩
  subst hsz
  have hD := hD0.self (sz := s.heap.size)
  generalize hAe : va_A w0 s.heap.size = A at hD hE ⊢
  have hA : ∀ q : Nat, s.heap.size ≤ q → A q := fun q h => by rw [← hAe]; exact Or.inr h
  have hw : Wd dC dI A s.heap s.heap [] w0 := ⟨hP, hD, va_S.rf⟩
  have hF : FE ksC ([] : List (Nat × Nat × Nat)) w0 w0 := FE.rf
  have hl := lv_entry ([.ref (ad 29), .ref (ad 1), .int (-1)]) (n := 3) (Nat.le_of_ble_eq_true rfl)
  rw [lg_entry_eq]
  generalize (lg_sl ([.ref (ad 29), .ref (ad 1), .int (-1)]) ++ List.replicate (3 - (lg_sl ([.ref (ad 29), .ref (ad 1), .int (-1)])).length) Slot.unset).toArray = ls at hl ⊢
  have hl : lv_has ls 3 [(0, .ref (ad 29)), (1, .ref (ad 1)), (2, .int (-1))] := hl
  generalize hloc : ([] : List Loc) = locs at hw ⊢
  have hM : TT (fun n => m_X7_readClause n 29 1 (-1) (sI w0)) (fun n => m_X7_readClause n 29 1 (-1) (sI w0)) := TT.rf
  refine lv_aload_n hx hb dX7_readClause_0 rfl (lv_at hl 1 rfl) ?_
  refine tk_Vi hC hK hw hT hA hE hSR kC_at1 (by decide) rfl (kz_X6_isFaulty_3 l adK adV dC dI cy ad B hB0 (Int.le_trans hB1 (by decide)) qr s1    w0 s.heap.size hT f0_ cf0_ (show 1 ≤ f0_.toInt from rf0_) (show f0_.toInt ≤ 3205 from tf0_)) (cwV 0 hC.2.2.2.2 uV_RX7_89 rfl rfl rfl (by decide +kernel) ⟨Nat.le_of_ble_eq_true rfl, Nat.le_of_ble_eq_true rfl⟩) rfl hl.1 rfl (Nat.le_of_ble_eq_true rfl) dX7_readClause_1 (fun r1 w3 H locs hp2 hw => ?_)
  obtain ⟨hT, k4, hv8, hg7⟩ := hp2
  have hF := hF.tr k4 (by decide)
  have c9 := k4.gi kC_at1 (by decide) cf0_
  obtain ⟨rfl, ⟨x5, c6, rx5, tx5⟩⟩ := hg7
  replace hM := hM.call (r' := 1) hv8 (by decide)
  have ex5 : x5.toInt = f0_.toInt := by rw [← c9.symm.trans c6]
  refine lv_if_eq (tgt := 8) hx hb dX7_readClause_4 (by decide) (fun c => absurd c (by decide)) (fun _ => ?_)
  replace hM := hM.neg (by decide)
  exact tk_vret hC hr hlocks hK ⟨hT, hF, hM.ret rfl, ⟨f0_, c9, (show 1 ≤ f0_.toInt from rf0_), (show f0_.toInt ≤ 3205 from tf0_)⟩⟩ hw dX7_readClause_7
abbrev Pz_X6_startReading_1 (ad : Nat → Nat) (cy : Nat → ClassId) (B : Int) (qr : Nat) (s1 : Int)  (w0 : va_W) : va_W → Prop := fun u => TW ksC ad cy B qr s1 u ∧ FE ksC [(6, 1, 1), (6, 3, 3), (6, 4, 4)] w0 u ∧ Ev (fun n => m_X6_startReading n 1 (sI w0)) (0, sI u) ∧ (((∃ y : Int32, gi u 1 1 = y ∧ 0 ≤ y.toInt ∧ y.toInt ≤ 0) ∧ (∃ y : Int32, gi u 1 3 = y ∧ 0 ≤ y.toInt ∧ y.toInt ≤ 0) ∧ (∃ y : Int32, gi u 1 4 = y ∧ 0 ≤ y.toInt ∧ y.toInt ≤ 0)))
set_option maxHeartbeats 4000000 in
set_option maxRecDepth 100000 in
theorem kz_X6_startReading_1 (l : Launch) (adK adV : Nat → Nat) (dC : Nat → ClassId) (dI : Nat → Nat → Nat) (cy : Nat → ClassId) (ad : Nat → Nat) (B : Int) (hB0 : 2147483648 ≤ B) (hB1 : B ≤ 1152921504606846976) (qr : Nat) (s1 : Int)   (w0 : va_W) (sz : Nat) (hT : TW ksC ad cy B qr s1 w0)  : Met l yX6_startReading (wu yX6_startReading cX6_startReading 1 none) ({ frames := 1, cells := 0, slots := 0, locals := 12 }) (va_Pc [.ref (ad 1)] (wpreS adK adV dC dI cy sz w0)) (va_Qv (Pz_X6_startReading_1 ad cy B qr s1  w0) (fun u : va_W => wpost dC dI cy (va_A w0 sz) u) (va_A w0 sz)) 0 0 (va_A w0 sz) := by
  refine Met.ofW (cc := cX6_startReading) (maxL := 1) (ret := none) (by decide) rfl ?_
  intro p e s m args below meth c s₁ Bk hml hv
  obtain ⟨rfl, ⟨hsz, hP, hK, hD0⟩, hE, hSR⟩ := hv
  have hx := Bk.exec
  have hb := Bk.bytes
  have hr := Bk.returns
  have hlocks := Bk.notSynchronized
  have hC : CallFix p m c cX6_startReading 1 s _ (wu yX6_startReading cX6_startReading 1 none) RX6 := ⟨hx, hb, hml, findClass_of_methodNamed Bk.named, atoms_spec (ws := (wu yX6_startReading cX6_startReading 1 none)) Bk.pre⟩
  subst hsz
  have hD := hD0.self (sz := s.heap.size)
  generalize hAe : va_A w0 s.heap.size = A at hD hE ⊢
  have hA : ∀ q : Nat, s.heap.size ≤ q → A q := fun q h => by rw [← hAe]; exact Or.inr h
  have hw : Wd dC dI A s.heap s.heap [] w0 := ⟨hP, hD, va_S.rf⟩
  have hF : FE ksC [(6, 1, 1), (6, 3, 3), (6, 4, 4)] w0 w0 := FE.rf
  have hl := lv_entry ([.ref (ad 1)]) (n := 1) (Nat.le_of_ble_eq_true rfl)
  rw [lg_entry_eq]
  generalize (lg_sl ([.ref (ad 1)]) ++ List.replicate (1 - (lg_sl ([.ref (ad 1)])).length) Slot.unset).toArray = ls at hl ⊢
  have hl : lv_has ls 1 [(0, .ref (ad 1))] := hl
  generalize hloc : ([] : List Loc) = locs at hw ⊢
  have hinX6 : ∀ w ∈ u_ws RX6 TX6 5, w ∈ (wu yX6_startReading cX6_startReading 1 none) := fun _ h => List.mem_cons_of_mem _ (up_72 h)
  have hM : TT (fun n => m_X6_startReading n 1 (sI w0)) (fun n => m_X6_startReading n 1 (sI w0)) := TT.rf
  refine lv_aload_n hx hb dX6_startReading_0 rfl (lv_at hl 0 rfl) ?_
  refine lv_iconst (v := 0) hx hb dX6_startReading_1 (by decide) ?_
  refine tk_puti hC hK hw hT hinX6 tyX6_ok nmX6 kC_at1 (by decide) rfl rfl 1 (by decide) (List.mem_cons_of_mem _ uw_9_16) rfl rfl rfl rfl (by decide) (by decide) dX6_startReading_2 (fun H locs w1 hw hT k3 c2 => ?_)
  replace hM := hM.wr (sI_upc k3 c2 (by decide))
  have hF := hF.put kC_at1 (k := 1) (by decide) k3
  refine lv_aload_n hx hb dX6_startReading_5 rfl (lv_at hl 0 rfl) ?_
  refine lv_iconst (v := 0) hx hb dX6_startReading_6 (by decide) ?_
  refine tk_puti hC hK hw hT hinX6 tyX6_ok nmX6 kC_at1 (by decide) rfl rfl 3 (by decide) (List.mem_cons_of_mem _ uw_9_17) rfl rfl rfl rfl (by decide) (by decide) dX6_startReading_7 (fun H locs w4 hw hT k6 c5 => ?_)
  replace hM := hM.wr (sI_upc k6 c5 (by decide))
  have hF := hF.put kC_at1 (k := 3) (by decide) k6
  have c7 := k6.gi (Or.inr (by decide)) c2
  refine lv_aload_n hx hb dX6_startReading_10 rfl (lv_at hl 0 rfl) ?_
  refine lv_iconst (v := 0) hx hb dX6_startReading_11 (by decide) ?_
  refine tk_puti hC hK hw hT hinX6 tyX6_ok nmX6 kC_at1 (by decide) rfl rfl 4 (by decide) (List.mem_cons_of_mem _ uw_9_18) rfl rfl rfl rfl (by decide) (by decide) dX6_startReading_12 (fun H locs w8 hw hT k10 c9 => ?_)
  replace hM := hM.wr (sI_upc k10 c9 (by decide))
  have hF := hF.put kC_at1 (k := 4) (by decide) k10
  have c11 := k10.gi (Or.inr (by decide)) c7
  have c12 := k10.gi (Or.inr (by decide)) c5
  exact tk_vret hC hr hlocks hK ⟨hT, hF, hM.ret rfl, ⟨⟨0, c11, (by decide), (by decide)⟩, ⟨0, c12, (by decide), (by decide)⟩, ⟨0, c9, (by decide), (by decide)⟩⟩⟩ hw dX6_startReading_15
abbrev Pz_X7_readFrom_1 (ad : Nat → Nat) (cy : Nat → ClassId) (B : Int) (qr : Nat) (s1 : Int)  (w0 : va_W) : va_W → Prop := fun u => TW ksC ad cy B qr s1 u ∧ FE ksC [(6, 1, 1), (6, 3, 3), (6, 4, 4), (7, 8, 8), (7, 9, 9), (7, 10, 10), (7, 11, 11), (24, 0, 26), (25, 0, 13), (26, 0, 91), (27, 0, 13), (28, 0, 26), (29, 0, 8), (30, 0, 8), (31, 0, 13)] w0 u ∧ Ev (fun n => m_X7_readFrom n 29 1 (sI w0)) (0, sI u) ∧ (((∃ y : Int32, gi u 1 4 = y ∧ 0 ≤ y.toInt ∧ y.toInt ≤ 3205) ∧ (∃ y : Int32, gi u 29 9 = y ∧ 0 ≤ y.toInt ∧ y.toInt ≤ 12) ∧ (∃ y : Int32, gi u 29 10 = y ∧ 0 ≤ y.toInt ∧ y.toInt ≤ 8) ∧ (∃ y : Int32, gi u 29 11 = y ∧ 0 ≤ y.toInt ∧ y.toInt ≤ 4)))
set_option maxHeartbeats 4000000 in
set_option maxRecDepth 100000 in
theorem kz_X7_readFrom_1 (l : Launch) (adK adV : Nat → Nat) (dC : Nat → ClassId) (dI : Nat → Nat → Nat) (cy : Nat → ClassId) (ad : Nat → Nat) (B : Int) (hB0 : 2147483648 ≤ B) (hB1 : B ≤ 1152921504606846976) (qr : Nat) (s1 : Int)   (w0 : va_W) (sz : Nat) (hT : TW ksC ad cy B qr s1 w0)  : Met l yX7_readFrom (wu yX7_readFrom cX7_readFrom 5 none) ({ frames := 8, cells := 0, slots := 0, locals := 231 }) (va_Pc [.ref (ad 29), .ref (ad 1)] (wpreS adK adV dC dI cy sz w0)) (va_Qv (Pz_X7_readFrom_1 ad cy B qr s1  w0) (fun u : va_W => wpost dC dI cy (va_A w0 sz) u) (va_A w0 sz)) 0 0 (va_A w0 sz) := by
  refine Met.ofW (cc := cX7_readFrom) (maxL := 5) (ret := none) (by decide) rfl ?_
  intro p e s m args below meth c s₁ Bk hml hv
  obtain ⟨rfl, ⟨hsz, hP, hK, hD0⟩, hE, hSR⟩ := hv
  have hx := Bk.exec
  have hb := Bk.bytes
  have hr := Bk.returns
  have hlocks := Bk.notSynchronized
  have hC : CallFix p m c cX7_readFrom 5 s _ (wu yX7_readFrom cX7_readFrom 5 none) RX7 := ⟨hx, hb, hml, findClass_of_methodNamed Bk.named, atoms_spec (ws := (wu yX7_readFrom cX7_readFrom 5 none)) Bk.pre⟩
  subst hsz
  have hD := hD0.self (sz := s.heap.size)
  generalize hAe : va_A w0 s.heap.size = A at hD hE ⊢
  have hA : ∀ q : Nat, s.heap.size ≤ q → A q := fun q h => by rw [← hAe]; exact Or.inr h
  have hw : Wd dC dI A s.heap s.heap [] w0 := ⟨hP, hD, va_S.rf⟩
  have hF : FE ksC [(6, 1, 1), (6, 3, 3), (6, 4, 4), (7, 8, 8), (7, 9, 9), (7, 10, 10), (7, 11, 11), (24, 0, 26), (25, 0, 13), (26, 0, 91), (27, 0, 13), (28, 0, 26), (29, 0, 8), (30, 0, 8), (31, 0, 13)] w0 w0 := FE.rf
  have hl := lv_entry ([.ref (ad 29), .ref (ad 1)]) (n := 5) (Nat.le_of_ble_eq_true rfl)
  rw [lg_entry_eq]
  generalize (lg_sl ([.ref (ad 29), .ref (ad 1)]) ++ List.replicate (5 - (lg_sl ([.ref (ad 29), .ref (ad 1)])).length) Slot.unset).toArray = ls at hl ⊢
  have hl : lv_has ls 5 [(0, .ref (ad 29)), (1, .ref (ad 1))] := hl
  generalize hloc : ([] : List Loc) = locs at hw ⊢
  have hinX7 : ∀ w ∈ u_ws RX7 TX7 12, w ∈ (wu yX7_readFrom cX7_readFrom 5 none) := fun _ h => List.mem_cons_of_mem _ (up_73 h)
  have hinX6 : ∀ w ∈ u_ws RX6 TX6 5, w ∈ (wu yX7_readFrom cX7_readFrom 5 none) := fun _ h => List.mem_cons_of_mem _ (up_72 h)
  have L91 : ∀ (n91 : Nat) (v91_2 : Int32) (v91_3 : Int32) (f91_1_4 : Int32) (f91_29_10 : Int32) (f91_29_11 : Int32) (f91_29_9 : Int32) (H : Heap) (locs : List Loc) (ls : Array Slot) (w1 : va_W), 0 ≤ v91_2.toInt → v91_2.toInt ≤ 1 → 0 ≤ v91_3.toInt → v91_3.toInt ≤ 12 → 0 ≤ f91_1_4.toInt → f91_1_4.toInt ≤ 3205 → 0 ≤ f91_29_10.toInt → f91_29_10.toInt ≤ 8 → 0 ≤ f91_29_11.toInt → f91_29_11.toInt ≤ 4 → 0 ≤ f91_29_9.toInt → f91_29_9.toInt ≤ 12 → (12 - v91_3.toInt).toNat < n91 → Wd dC dI A s.heap H locs w1 → TW ksC ad cy B qr s1 w1 → FE ksC [(6, 1, 1), (6, 3, 3), (6, 4, 4), (7, 8, 8), (7, 9, 9), (7, 10, 10), (7, 11, 11), (24, 0, 26), (25, 0, 13), (26, 0, 91), (27, 0, 13), (28, 0, 26), (29, 0, 8), (30, 0, 8), (31, 0, 13)] w0 w1 → gi w1 1 4 = f91_1_4 → gi w1 29 10 = f91_29_10 → gi w1 29 11 = f91_29_11 → gi w1 29 9 = f91_29_9 → TT (fun n => m_X7_readFrom n 29 1 (sI w0)) (fun n => j_X7_readFrom 29 1 n 91 [v91_3.toInt] (sI w1)) → lv_has ls 5 [(0, .ref (ad 29)), (1, .ref (ad 1)), (2, .int v91_2), (3, .int v91_3)] → W p l e ({ frames := 8, cells := 0, slots := 0, locals := 231 }) s m (List.toArray [.ref (ad 29), .ref (ad 1)]) below meth c H locs 0 0 (MQ below (va_Qv (Pz_X7_readFrom_1 ad cy B qr s1  w0) (fun u : va_W => wpost dC dI cy A u) A) (List.toArray [.ref (ad 29), .ref (ad 1)]) s 0 0 A) (F0 m 91 ls []) := by
    intro n91
    induction n91 with
    | zero => intro v91_2 v91_3 f91_1_4 f91_29_10 f91_29_11 f91_29_9 H locs ls w1 r2 t3 r4 t5 r6 t7 r9 t10 r12 t13 r15 t16 hm91 hw hT hF c8 c11 c14 c17 hM hl; omega
    | succ n91 ih91 =>
      intro v91_2 v91_3 f91_1_4 f91_29_10 f91_29_11 f91_29_9 H locs ls w1 r2 t3 r4 t5 r6 t7 r9 t10 r12 t13 r15 t16 hm91 hw hT hF c8 c11 c14 c17 hM hl
      replace hM := hM.suc (fun _ => e_X7_readFrom_91)
      refine lv_iload_n hx hb dX7_readFrom_91 rfl (lv_at hl 3 rfl) ?_
      refine lv_aload_n hx hb dX7_readFrom_92 rfl (lv_at hl 0 rfl) ?_
      refine tk_geti hC hK hw hT hinX7 kC_at29 (by decide) rfl 9 (by decide) (List.mem_cons_of_mem _ uw_9_8) rfl rfl dX7_readFrom_93 (fun x18 c19 rx18 tx18 => ?_)
      refine wk_top f91_29_9 (c19.symm.trans c17) ?_
      replace hM := hM.rd (sI_at c17)
      refine lv_icmp_ge (tgt := 110) hx hb dX7_readFrom_96 (by decide) (fun c20 => ?_) (fun c20 => ?_)
      · have c20 : f91_29_9.toInt ≤ v91_3.toInt := wk_le.mp c20
        replace hM := hM.pos c20
        exact tk_vret hC hr hlocks hK ⟨hT, hF, hM.ret rfl, ⟨⟨f91_1_4, c8, (show 0 ≤ f91_1_4.toInt from r6), (show f91_1_4.toInt ≤ 3205 from t7)⟩, ⟨f91_29_9, c17, (show 0 ≤ f91_29_9.toInt from r15), (show f91_29_9.toInt ≤ 12 from t16)⟩, ⟨f91_29_10, c11, (show 0 ≤ f91_29_10.toInt from r9), (show f91_29_10.toInt ≤ 8 from t10)⟩, ⟨f91_29_11, c14, (show 0 ≤ f91_29_11.toInt from r12), (show f91_29_11.toInt ≤ 4 from t13)⟩⟩⟩ hw dX7_readFrom_110
      · have c20 : v91_3.toInt < f91_29_9.toInt := wk_leF c20
        replace hM := hM.neg (Int.not_le.mpr c20)
        refine lv_aload_n hx hb dX7_readFrom_99 rfl (lv_at hl 0 rfl) ?_
        refine lv_iload_n hx hb dX7_readFrom_100 rfl (lv_at hl 3 rfl) ?_
        refine tk_Vv hC hK hw hT hA hE hSR kC_at29 (by decide) rfl (kz_X7_findSaints_1 l adK adV dC dI cy ad B hB0 (Int.le_trans hB1 (by decide)) qr s1   v91_3 (show 0 ≤ v91_3.toInt from r4) (show v91_3.toInt ≤ 11 by first | with_reducible assumption | omega) w1 H.size hT ) (cwV 1 hC.2.2.2.2 uV_RX7_85 rfl rfl rfl (by decide +kernel) ⟨Nat.le_of_ble_eq_true rfl, Nat.le_of_ble_eq_true rfl⟩) rfl hl.1 rfl (Nat.le_of_ble_eq_true rfl) dX7_readFrom_101 (fun w23 H locs hp22 hw => ?_)
        obtain ⟨hT, k24, hv28, hg27⟩ := hp22
        have hF := hF.tr k24 (by decide)
        have c29 := k24.gi kC_at1 (by decide) c8
        have c30 := k24.gi kC_at29 (by decide) c11
        have c31 := k24.gi kC_at29 (by decide) c14
        have c32 := k24.gi kC_at29 (by decide) c17
        obtain ⟨x25, c26, rx25, tx25⟩ := hg27
        replace hM := hM.call hv28 rfl
        have ex25 : x25.toInt = f91_29_10.toInt := by rw [← c30.symm.trans c26]
        obtain ⟨x33, ex33⟩ : ∃ y : Int32, y = v91_3 + Int32.ofInt 1 := ⟨_, rfl⟩
        have erx33 := ex33
        refine lv_iinc (v := x33) (lv' := [(3, .int x33), (0, .ref (ad 29)), (1, .ref (ad 1)), (2, .int v91_2)]) hx hb dX7_readFrom_104 hl (k := 3) rfl ex33.symm (by decide) rfl (fun ls hl => ?_)
        have ex33 : x33.toInt = v91_3.toInt + 1 := by rw [ex33]; exact wk_add (y := 1) (show -2147483648 ≤ v91_3.toInt + 1 by omega) (show v91_3.toInt + 1 ≤ 2147483647 by omega)
        replace hM := hM.lt ex33.symm
        refine lv_goto (tgt := 91) hx hb dX7_readFrom_107 (by decide) ?_
        exact ih91 v91_2 x33 f91_1_4 f91_29_10 f91_29_11 f91_29_9 H locs ls w23 (show 0 ≤ v91_2.toInt from r2) (show v91_2.toInt ≤ 1 from t3) (show 0 ≤ x33.toInt by first | with_reducible assumption | omega) (show x33.toInt ≤ 12 by first | with_reducible assumption | omega) (show 0 ≤ f91_1_4.toInt from r6) (show f91_1_4.toInt ≤ 3205 from t7) (show 0 ≤ f91_29_10.toInt from r9) (show f91_29_10.toInt ≤ 8 from t10) (show 0 ≤ f91_29_11.toInt from r12) (show f91_29_11.toInt ≤ 4 from t13) (show 0 ≤ f91_29_9.toInt from r15) (show f91_29_9.toInt ≤ 12 from t16) (show (12 - x33.toInt).toNat < n91 by first | exact tn_lt hm91 (by omega) (by omega) | omega) hw hT hF c29 c30 c31 c32 hM (lv_sub hl [1, 2, 3, 0] rfl)
  have L28 : ∀ (n28 : Nat) (v28_2 : Int32) (v28_3 : Int32) (f28_1_4 : Int32) (f28_29_10 : Int32) (f28_29_11 : Int32) (f28_29_9 : Int32) (H : Heap) (locs : List Loc) (ls : Array Slot) (w34 : va_W), 0 ≤ v28_2.toInt → v28_2.toInt ≤ 1 → 0 ≤ v28_3.toInt → v28_3.toInt ≤ 33 → 0 ≤ f28_1_4.toInt → f28_1_4.toInt ≤ 3205 → 0 ≤ f28_29_10.toInt → f28_29_10.toInt ≤ 8 → 0 ≤ f28_29_11.toInt → f28_29_11.toInt ≤ 4 → 0 ≤ f28_29_9.toInt → f28_29_9.toInt ≤ 12 → (33 - v28_3.toInt).toNat < n28 → Wd dC dI A s.heap H locs w34 → TW ksC ad cy B qr s1 w34 → FE ksC [(6, 1, 1), (6, 3, 3), (6, 4, 4), (7, 8, 8), (7, 9, 9), (7, 10, 10), (7, 11, 11), (24, 0, 26), (25, 0, 13), (26, 0, 91), (27, 0, 13), (28, 0, 26), (29, 0, 8), (30, 0, 8), (31, 0, 13)] w0 w34 → gi w34 1 4 = f28_1_4 → gi w34 29 10 = f28_29_10 → gi w34 29 11 = f28_29_11 → gi w34 29 9 = f28_29_9 → TT (fun n => m_X7_readFrom n 29 1 (sI w0)) (fun n => j_X7_readFrom 29 1 n 28 [v28_2.toInt, v28_3.toInt] (sI w34)) → lv_has ls 5 [(0, .ref (ad 29)), (1, .ref (ad 1)), (2, .int v28_2), (3, .int v28_3)] → W p l e ({ frames := 8, cells := 0, slots := 0, locals := 231 }) s m (List.toArray [.ref (ad 29), .ref (ad 1)]) below meth c H locs 0 0 (MQ below (va_Qv (Pz_X7_readFrom_1 ad cy B qr s1  w0) (fun u : va_W => wpost dC dI cy A u) A) (List.toArray [.ref (ad 29), .ref (ad 1)]) s 0 0 A) (F0 m 28 ls []) := by
    intro n28
    induction n28 with
    | zero => intro v28_2 v28_3 f28_1_4 f28_29_10 f28_29_11 f28_29_9 H locs ls w34 r35 t36 r37 t38 r39 t40 r42 t43 r45 t46 r48 t49 hm28 hw hT hF c41 c44 c47 c50 hM hl; omega
    | succ n28 ih28 =>
      intro v28_2 v28_3 f28_1_4 f28_29_10 f28_29_11 f28_29_9 H locs ls w34 r35 t36 r37 t38 r39 t40 r42 t43 r45 t46 r48 t49 hm28 hw hT hF c41 c44 c47 c50 hM hl
      replace hM := hM.suc (fun _ => e_X7_readFrom_28)
      refine lv_iload_n hx hb dX7_readFrom_28 rfl (lv_at hl 2 rfl) ?_
      refine lv_if_eq (tgt := 89) hx hb dX7_readFrom_29 (by decide) (fun c51 => ?_) (fun c51 => ?_)
      · have c51 : v28_2.toInt = (0 : Int) := wk_eq.mp c51
        replace hM := hM.pos c51
        refine lv_iconst (v := 0) hx hb dX7_readFrom_89 (by decide) ?_
        refine lv_istore_n (lv' := [(3, .int 0), (0, .ref (ad 29)), (1, .ref (ad 1)), (2, .int v28_2)]) hx hb dX7_readFrom_90 rfl hl (by decide) rfl (fun ls hl => ?_)
        exact L91 ((12 - (0 : Int)).toNat + 1) v28_2 0 f28_1_4 f28_29_10 f28_29_11 f28_29_9 H locs ls w34 (show 0 ≤ v28_2.toInt from r35) (show v28_2.toInt ≤ 1 from t36) (by decide) (by decide) (show 0 ≤ f28_1_4.toInt from r39) (show f28_1_4.toInt ≤ 3205 from t40) (show 0 ≤ f28_29_10.toInt from r42) (show f28_29_10.toInt ≤ 8 from t43) (show 0 ≤ f28_29_11.toInt from r45) (show f28_29_11.toInt ≤ 4 from t46) (show 0 ≤ f28_29_9.toInt from r48) (show f28_29_9.toInt ≤ 12 from t49) (Nat.lt_succ_self _) hw hT hF c41 c44 c47 c50 hM (lv_sub hl [1, 2, 3, 0] rfl)
      · have c51 : ¬ v28_2.toInt = (0 : Int) := wk_eqF c51
        replace hM := hM.neg c51
        refine lv_iload_n hx hb dX7_readFrom_32 rfl (lv_at hl 3 rfl) ?_
        refine lv_bipush (v := 32) hx hb dX7_readFrom_33 (by decide) ?_
        refine lv_icmp_gt (tgt := 89) hx hb dX7_readFrom_35 (by decide) (fun c52 => ?_) (fun c52 => ?_)
        · have c52 : (32 : Int) < v28_3.toInt := wk_lt.mp c52
          replace hM := hM.pos c52
          refine lv_iconst (v := 0) hx hb dX7_readFrom_89 (by decide) ?_
          refine lv_istore_n (lv' := [(3, .int 0), (0, .ref (ad 29)), (1, .ref (ad 1)), (2, .int v28_2)]) hx hb dX7_readFrom_90 rfl hl (by decide) rfl (fun ls hl => ?_)
          exact L91 ((12 - (0 : Int)).toNat + 1) v28_2 0 f28_1_4 f28_29_10 f28_29_11 f28_29_9 H locs ls w34 (show 0 ≤ v28_2.toInt from r35) (show v28_2.toInt ≤ 1 from t36) (by decide) (by decide) (show 0 ≤ f28_1_4.toInt from r39) (show f28_1_4.toInt ≤ 3205 from t40) (show 0 ≤ f28_29_10.toInt from r42) (show f28_29_10.toInt ≤ 8 from t43) (show 0 ≤ f28_29_11.toInt from r45) (show f28_29_11.toInt ≤ 4 from t46) (show 0 ≤ f28_29_9.toInt from r48) (show f28_29_9.toInt ≤ 12 from t49) (Nat.lt_succ_self _) hw hT hF c41 c44 c47 c50 hM (lv_sub hl [1, 2, 3, 0] rfl)
        · have c52 : v28_3.toInt ≤ (32 : Int) := wk_ltF c52
          replace hM := hM.neg (Int.not_lt.mpr c52)
          refine lv_aload_n hx hb dX7_readFrom_38 rfl (lv_at hl 1 rfl) ?_
          refine va_ldcS hx hb hC.2.2.2.1 hSR.1 dX7_readFrom_39 ?_
          refine tk_Vi hC hK hw hT hA hE hSR kC_at1 (by decide) rfl (kz_X6_readWord_1 l adK adV dC dI cy ad B hB0 (Int.le_trans hB1 (by decide)) qr s1    w34 H.size hT ) (cwV 1 hC.2.2.2.2 uV_RX7_62 rfl rfl rfl (by decide +kernel) ⟨Nat.le_of_ble_eq_true rfl, Nat.le_of_ble_eq_true rfl⟩) rfl hl.1 rfl (Nat.le_of_ble_eq_true rfl) dX7_readFrom_41 (fun r53 w55 H locs hp54 hw => ?_)
          obtain ⟨hT, k56, hv62, hg61⟩ := hp54
          have hF := hF.tr k56 (by decide)
          have c63 := k56.gi kC_at29 (by decide) c44
          have c64 := k56.gi kC_at29 (by decide) c47
          have c65 := k56.gi kC_at29 (by decide) c50
          rcases hg61 with ⟨g57, g58⟩ | ⟨rfl, ⟨x59, c60, rx59, tx59⟩⟩
          · replace hM := hM.call hv62 rfl
            refine lv_istore (lv' := [(4, .int r53), (0, .ref (ad 29)), (1, .ref (ad 1)), (2, .int v28_2), (3, .int v28_3)]) hx hb dX7_readFrom_44 hl (by decide) rfl (fun ls hl => ?_)
            refine lv_iload hx hb dX7_readFrom_46 (lv_at hl 0 rfl) ?_
            refine lv_iconst (v := (-1)) hx hb dX7_readFrom_48 (by decide) ?_
            refine lv_icmp_eq (tgt := 71) hx hb dX7_readFrom_49 (by decide) (fun c => absurd c (fun h => absurd (show r53.toInt = (-1 : Int) from wk_eq.mp h) (by omega))) (fun _ => ?_)
            replace hM := hM.neg (by omega)
            refine lv_aload_n hx hb dX7_readFrom_52 rfl (lv_at hl 1 rfl) ?_
            refine lv_iload hx hb dX7_readFrom_53 (lv_at hl 0 rfl) ?_
            refine lv_iload_n hx hb dX7_readFrom_55 rfl (lv_at hl 4 rfl) ?_
            refine tk_Vi hC hK hw hT hA hE hSR kC_at29 (by decide) rfl (kz_X7_isTooMany_1 l adK adV dC dI cy ad B hB0 (Int.le_trans hB1 (by decide)) qr s1   r53 (show 0 ≤ r53.toInt by first | with_reducible assumption | omega) (show r53.toInt ≤ 26 by first | with_reducible assumption | omega) v28_3 (show 0 ≤ v28_3.toInt from r37) (show v28_3.toInt ≤ 32 by first | with_reducible assumption | omega) w55 H.size hT ) (cwV 2 hC.2.2.2.2 uV_RX7_66 rfl rfl rfl (by decide +kernel) ⟨Nat.le_of_ble_eq_true rfl, Nat.le_of_ble_eq_true rfl⟩) rfl hl.1 rfl (Nat.le_of_ble_eq_true rfl) dX7_readFrom_56 (fun r66 w68 H locs hp67 hw => ?_)
            obtain ⟨hT, k69, hv107, hg106⟩ := hp67
            have hF := hF.tr k69 (by decide)
            have c108 := k69.gi kC_at29 (by decide) c63
            have c109 := k69.gi kC_at29 (by decide) c64
            have c110 := k69.gi kC_at29 (by decide) c65
            rcases hg106 with ⟨rfl, g70, g71⟩ | ⟨rfl, g72, g73, g74, g75, ⟨x76, c77, rx76, tx76⟩⟩ | ⟨rfl, g78, g79, g80, g81, ⟨x82, c83, rx82, tx82⟩⟩ | ⟨rfl, g84, g85, g86, ⟨x87, c88, rx87, tx87⟩⟩ | rfl | ⟨rfl, g89, g90, g91, g92, ⟨x93, c94, rx93, tx93⟩⟩ | ⟨rfl, g95, g96, g97, g98, ⟨x99, c100, rx99, tx99⟩⟩ | ⟨rfl, g101, g102, g103, ⟨x104, c105, rx104, tx104⟩⟩
            · replace hM := hM.call (r' := 0) hv107 (by decide)
              refine lv_if_eq (tgt := 71) hx hb dX7_readFrom_59 (by decide) (fun _ => ?_) (fun c => absurd (by decide) c)
              replace hM := hM.pos (by decide)
              refine lv_aload_n hx hb dX7_readFrom_71 rfl (lv_at hl 1 rfl) ?_
              refine lv_aload_n hx hb dX7_readFrom_72 rfl (lv_at hl 2 rfl) ?_
              refine lv_iload hx hb dX7_readFrom_73 (lv_at hl 0 rfl) ?_
              obtain rfl : r53 = 0 := wk_eq.mpr (show r53.toInt = 0 by first | exact Int.le_antisymm (by omega) (by omega) | omega)
              try simp only [show (0 : Int32).toInt = 0 by decide] at hM
              refine tk_Vv hC hK hw hT hA hE hSR kC_at29 (by decide) rfl (kz_X7_readClause_1 l adK adV dC dI cy ad B hB0 (Int.le_trans hB1 (by decide)) qr s1    w68 H.size hT ) (cwV 2 hC.2.2.2.2 uV_RX7_77 rfl rfl rfl (by decide +kernel) ⟨Nat.le_of_ble_eq_true rfl, Nat.le_of_ble_eq_true rfl⟩) rfl hl.1 rfl (Nat.le_of_ble_eq_true rfl) dX7_readFrom_75 (fun w113 H locs hp112 hw => ?_)
              obtain ⟨hT, k114, hv120, hg119⟩ := hp112
              have hF := hF.tr k114 (by decide)
              have c121 := k114.gi kC_at29 (by decide) c108
              have c122 := k114.gi kC_at29 (by decide) c109
              have c123 := k114.gi kC_at29 (by decide) c110
              rcases hg119 with ⟨x115, c116, rx115, tx115⟩ | ⟨x117, c118, rx117, tx117⟩
              · replace hM := hM.call hv120 rfl
                refine lv_aload_n hx hb dX7_readFrom_78 rfl (lv_at hl 2 rfl) ?_
                refine tk_Vi hC hK hw hT hA hE hSR kC_at1 (by decide) rfl (kz_X6_takeSemicolon_1 l adK adV dC dI cy ad B hB0 (Int.le_trans hB1 (by decide)) qr s1    w113 H.size hT x115 c116 (show 1 ≤ x115.toInt by first | with_reducible assumption | omega) (show x115.toInt ≤ 3205 by first | with_reducible assumption | omega)) (cwV 0 hC.2.2.2.2 uV_RX7_81 rfl rfl rfl (by decide +kernel) ⟨Nat.le_of_ble_eq_true rfl, Nat.le_of_ble_eq_true rfl⟩) rfl hl.1 rfl (Nat.le_of_ble_eq_true rfl) dX7_readFrom_79 (fun r124 w126 H locs hp125 hw => ?_)
                obtain ⟨hT, k127, hv131, hg130⟩ := hp125
                have hF := hF.tr k127 (by decide)
                have c132 := k127.gi kC_at29 (by decide) c121
                have c133 := k127.gi kC_at29 (by decide) c122
                have c134 := k127.gi kC_at29 (by decide) c123
                have c135 := k127.gi kC_at1 (by decide) c116
                obtain ⟨rfl, ⟨x128, c129, rx128, tx128⟩⟩ := hg130
                replace hM := hM.call (r' := 0) hv131 (by decide)
                have ex128 : x128.toInt = x115.toInt := by rw [← c135.symm.trans c129]
                refine lv_istore_n (lv' := [(2, .int 0), (4, .int 0), (0, .ref (ad 29)), (1, .ref (ad 1)), (3, .int v28_3)]) hx hb dX7_readFrom_82 rfl hl (by decide) rfl (fun ls hl => ?_)
                obtain ⟨x136, ex136⟩ : ∃ y : Int32, y = v28_3 + Int32.ofInt 1 := ⟨_, rfl⟩
                have erx136 := ex136
                refine lv_iinc (v := x136) (lv' := [(3, .int x136), (2, .int 0), (4, .int 0), (0, .ref (ad 29)), (1, .ref (ad 1))]) hx hb dX7_readFrom_83 hl (k := 4) rfl ex136.symm (by decide) rfl (fun ls hl => ?_)
                have ex136 : x136.toInt = v28_3.toInt + 1 := by rw [ex136]; exact wk_add (y := 1) (show -2147483648 ≤ v28_3.toInt + 1 by omega) (show v28_3.toInt + 1 ≤ 2147483647 by omega)
                replace hM := hM.lt ex136.symm
                refine lv_goto (tgt := 28) hx hb dX7_readFrom_86 (by decide) ?_
                exact ih28 0 x136 x115 f28_29_10 f28_29_11 f28_29_9 H locs ls w126 (by decide) (by decide) (show 0 ≤ x136.toInt by first | with_reducible assumption | omega) (show x136.toInt ≤ 33 by first | with_reducible assumption | omega) (show 0 ≤ x115.toInt by first | with_reducible assumption | omega) (show x115.toInt ≤ 3205 by first | with_reducible assumption | omega) (show 0 ≤ f28_29_10.toInt from r42) (show f28_29_10.toInt ≤ 8 from t43) (show 0 ≤ f28_29_11.toInt from r45) (show f28_29_11.toInt ≤ 4 from t46) (show 0 ≤ f28_29_9.toInt from r48) (show f28_29_9.toInt ≤ 12 from t49) (show (33 - x136.toInt).toNat < n28 by first | exact tn_lt hm28 (by omega) (by omega) | omega) hw hT hF c135 c132 c133 c134 hM (lv_sub hl [3, 4, 1, 0] rfl)
              · replace hM := hM.call hv120 rfl
                refine lv_aload_n hx hb dX7_readFrom_78 rfl (lv_at hl 2 rfl) ?_
                refine tk_Vi hC hK hw hT hA hE hSR kC_at1 (by decide) rfl (kz_X6_takeSemicolon_2 l adK adV dC dI cy ad B hB0 (Int.le_trans hB1 (by decide)) qr s1    w113 H.size hT ) (cwV 0 hC.2.2.2.2 uV_RX7_81 rfl rfl rfl (by decide +kernel) ⟨Nat.le_of_ble_eq_true rfl, Nat.le_of_ble_eq_true rfl⟩) rfl hl.1 rfl (Nat.le_of_ble_eq_true rfl) dX7_readFrom_79 (fun r137 w139 H locs hp138 hw => ?_)
                obtain ⟨hT, k140, hv152, hg151⟩ := hp138
                have hF := hF.tr k140 (by decide)
                have c153 := k140.gi kC_at29 (by decide) c121
                have c154 := k140.gi kC_at29 (by decide) c122
                have c155 := k140.gi kC_at29 (by decide) c123
                rcases hg151 with ⟨rfl, ⟨x141, c142, rx141, tx141⟩⟩ | ⟨rfl, ⟨x143, c144, rx143, tx143⟩⟩ | ⟨rfl, ⟨x145, c146, rx145, tx145⟩, ⟨x147, c148, rx147, tx147⟩, ⟨x149, c150, rx149, tx149⟩⟩
                · replace hM := hM.call (r' := 0) hv152 (by decide)
                  refine lv_istore_n (lv' := [(2, .int 0), (4, .int 0), (0, .ref (ad 29)), (1, .ref (ad 1)), (3, .int v28_3)]) hx hb dX7_readFrom_82 rfl hl (by decide) rfl (fun ls hl => ?_)
                  obtain ⟨x156, ex156⟩ : ∃ y : Int32, y = v28_3 + Int32.ofInt 1 := ⟨_, rfl⟩
                  have erx156 := ex156
                  refine lv_iinc (v := x156) (lv' := [(3, .int x156), (2, .int 0), (4, .int 0), (0, .ref (ad 29)), (1, .ref (ad 1))]) hx hb dX7_readFrom_83 hl (k := 4) rfl ex156.symm (by decide) rfl (fun ls hl => ?_)
                  have ex156 : x156.toInt = v28_3.toInt + 1 := by rw [ex156]; exact wk_add (y := 1) (show -2147483648 ≤ v28_3.toInt + 1 by omega) (show v28_3.toInt + 1 ≤ 2147483647 by omega)
                  replace hM := hM.lt ex156.symm
                  refine lv_goto (tgt := 28) hx hb dX7_readFrom_86 (by decide) ?_
                  exact ih28 0 x156 x141 f28_29_10 f28_29_11 f28_29_9 H locs ls w139 (by decide) (by decide) (show 0 ≤ x156.toInt by first | with_reducible assumption | omega) (show x156.toInt ≤ 33 by first | with_reducible assumption | omega) (show 0 ≤ x141.toInt by first | with_reducible assumption | omega) (show x141.toInt ≤ 3205 by first | with_reducible assumption | omega) (show 0 ≤ f28_29_10.toInt from r42) (show f28_29_10.toInt ≤ 8 from t43) (show 0 ≤ f28_29_11.toInt from r45) (show f28_29_11.toInt ≤ 4 from t46) (show 0 ≤ f28_29_9.toInt from r48) (show f28_29_9.toInt ≤ 12 from t49) (show (33 - x156.toInt).toNat < n28 by first | exact tn_lt hm28 (by omega) (by omega) | omega) hw hT hF c142 c153 c154 c155 hM (lv_sub hl [3, 4, 1, 0] rfl)
                · replace hM := hM.call (r' := 0) hv152 (by decide)
                  refine lv_istore_n (lv' := [(2, .int 0), (4, .int 0), (0, .ref (ad 29)), (1, .ref (ad 1)), (3, .int v28_3)]) hx hb dX7_readFrom_82 rfl hl (by decide) rfl (fun ls hl => ?_)
                  obtain ⟨x157, ex157⟩ : ∃ y : Int32, y = v28_3 + Int32.ofInt 1 := ⟨_, rfl⟩
                  have erx157 := ex157
                  refine lv_iinc (v := x157) (lv' := [(3, .int x157), (2, .int 0), (4, .int 0), (0, .ref (ad 29)), (1, .ref (ad 1))]) hx hb dX7_readFrom_83 hl (k := 4) rfl ex157.symm (by decide) rfl (fun ls hl => ?_)
                  have ex157 : x157.toInt = v28_3.toInt + 1 := by rw [ex157]; exact wk_add (y := 1) (show -2147483648 ≤ v28_3.toInt + 1 by omega) (show v28_3.toInt + 1 ≤ 2147483647 by omega)
                  replace hM := hM.lt ex157.symm
                  refine lv_goto (tgt := 28) hx hb dX7_readFrom_86 (by decide) ?_
                  exact ih28 0 x157 x143 f28_29_10 f28_29_11 f28_29_9 H locs ls w139 (by decide) (by decide) (show 0 ≤ x157.toInt by first | with_reducible assumption | omega) (show x157.toInt ≤ 33 by first | with_reducible assumption | omega) (show 0 ≤ x143.toInt by first | with_reducible assumption | omega) (show x143.toInt ≤ 3205 by first | with_reducible assumption | omega) (show 0 ≤ f28_29_10.toInt from r42) (show f28_29_10.toInt ≤ 8 from t43) (show 0 ≤ f28_29_11.toInt from r45) (show f28_29_11.toInt ≤ 4 from t46) (show 0 ≤ f28_29_9.toInt from r48) (show f28_29_9.toInt ≤ 12 from t49) (show (33 - x157.toInt).toNat < n28 by first | exact tn_lt hm28 (by omega) (by omega) | omega) hw hT hF c144 c153 c154 c155 hM (lv_sub hl [3, 4, 1, 0] rfl)
                · replace hM := hM.call (r' := 1) hv152 (by decide)
                  refine lv_istore_n (lv' := [(2, .int 1), (4, .int 0), (0, .ref (ad 29)), (1, .ref (ad 1)), (3, .int v28_3)]) hx hb dX7_readFrom_82 rfl hl (by decide) rfl (fun ls hl => ?_)
                  obtain ⟨x158, ex158⟩ : ∃ y : Int32, y = v28_3 + Int32.ofInt 1 := ⟨_, rfl⟩
                  have erx158 := ex158
                  refine lv_iinc (v := x158) (lv' := [(3, .int x158), (2, .int 1), (4, .int 0), (0, .ref (ad 29)), (1, .ref (ad 1))]) hx hb dX7_readFrom_83 hl (k := 4) rfl ex158.symm (by decide) rfl (fun ls hl => ?_)
                  have ex158 : x158.toInt = v28_3.toInt + 1 := by rw [ex158]; exact wk_add (y := 1) (show -2147483648 ≤ v28_3.toInt + 1 by omega) (show v28_3.toInt + 1 ≤ 2147483647 by omega)
                  replace hM := hM.lt ex158.symm
                  refine lv_goto (tgt := 28) hx hb dX7_readFrom_86 (by decide) ?_
                  exact ih28 1 x158 x149 f28_29_10 f28_29_11 f28_29_9 H locs ls w139 (by decide) (by decide) (show 0 ≤ x158.toInt by first | with_reducible assumption | omega) (show x158.toInt ≤ 33 by first | with_reducible assumption | omega) (show 0 ≤ x149.toInt by first | with_reducible assumption | omega) (show x149.toInt ≤ 3205 by first | with_reducible assumption | omega) (show 0 ≤ f28_29_10.toInt from r42) (show f28_29_10.toInt ≤ 8 from t43) (show 0 ≤ f28_29_11.toInt from r45) (show f28_29_11.toInt ≤ 4 from t46) (show 0 ≤ f28_29_9.toInt from r48) (show f28_29_9.toInt ≤ 12 from t49) (show (33 - x158.toInt).toNat < n28 by first | exact tn_lt hm28 (by omega) (by omega) | omega) hw hT hF c150 c153 c154 c155 hM (lv_sub hl [3, 4, 1, 0] rfl)
            · replace hM := hM.call (r' := 0) hv107 (by decide)
              have ex76 : x76.toInt = f28_29_9.toInt := by rw [← c110.symm.trans c77]
              refine lv_if_eq (tgt := 71) hx hb dX7_readFrom_59 (by decide) (fun _ => ?_) (fun c => absurd (by decide) c)
              replace hM := hM.pos (by decide)
              refine lv_aload_n hx hb dX7_readFrom_71 rfl (lv_at hl 1 rfl) ?_
              refine lv_aload_n hx hb dX7_readFrom_72 rfl (lv_at hl 2 rfl) ?_
              refine lv_iload hx hb dX7_readFrom_73 (lv_at hl 0 rfl) ?_
              obtain rfl : r53 = 1 := wk_eq.mpr (show r53.toInt = 1 by first | exact Int.le_antisymm (by omega) (by omega) | omega)
              try simp only [show (1 : Int32).toInt = 1 by decide] at hM
              refine tk_Vv hC hK hw hT hA hE hSR kC_at29 (by decide) rfl (kz_X7_readClause_2 l adK adV dC dI cy ad B hB0 (Int.le_trans hB1 (by decide)) qr s1    w68 H.size hT f28_29_9 c110 (show 0 ≤ f28_29_9.toInt from r48) (show f28_29_9.toInt ≤ 11 by first | with_reducible assumption | omega)) (cwV 2 hC.2.2.2.2 uV_RX7_77 rfl rfl rfl (by decide +kernel) ⟨Nat.le_of_ble_eq_true rfl, Nat.le_of_ble_eq_true rfl⟩) rfl hl.1 rfl (Nat.le_of_ble_eq_true rfl) dX7_readFrom_75 (fun w161 H locs hp160 hw => ?_)
              obtain ⟨hT, k162, hv172, hg171⟩ := hp160
              have hF := hF.tr k162 (by decide)
              have c173 := k162.gi kC_at29 (by decide) c108
              have c174 := k162.gi kC_at29 (by decide) c109
              rcases hg171 with ⟨⟨x163, c164, rx163, tx163⟩, ⟨x165, c166, rx165, tx165⟩⟩ | ⟨⟨x167, c168, rx167, tx167⟩, ⟨x169, c170, rx169, tx169⟩⟩
              · replace hM := hM.call hv172 rfl
                refine lv_aload_n hx hb dX7_readFrom_78 rfl (lv_at hl 2 rfl) ?_
                refine tk_Vi hC hK hw hT hA hE hSR kC_at1 (by decide) rfl (kz_X6_takeSemicolon_1 l adK adV dC dI cy ad B hB0 (Int.le_trans hB1 (by decide)) qr s1    w161 H.size hT x163 c164 (show 1 ≤ x163.toInt by first | with_reducible assumption | omega) (show x163.toInt ≤ 3205 by first | with_reducible assumption | omega)) (cwV 0 hC.2.2.2.2 uV_RX7_81 rfl rfl rfl (by decide +kernel) ⟨Nat.le_of_ble_eq_true rfl, Nat.le_of_ble_eq_true rfl⟩) rfl hl.1 rfl (Nat.le_of_ble_eq_true rfl) dX7_readFrom_79 (fun r175 w177 H locs hp176 hw => ?_)
                obtain ⟨hT, k178, hv182, hg181⟩ := hp176
                have hF := hF.tr k178 (by decide)
                have c183 := k178.gi kC_at29 (by decide) c173
                have c184 := k178.gi kC_at29 (by decide) c174
                have c185 := k178.gi kC_at1 (by decide) c164
                have c186 := k178.gi kC_at29 (by decide) c166
                obtain ⟨rfl, ⟨x179, c180, rx179, tx179⟩⟩ := hg181
                replace hM := hM.call (r' := 0) hv182 (by decide)
                have ex179 : x179.toInt = x163.toInt := by rw [← c185.symm.trans c180]
                refine lv_istore_n (lv' := [(2, .int 0), (4, .int 1), (0, .ref (ad 29)), (1, .ref (ad 1)), (3, .int v28_3)]) hx hb dX7_readFrom_82 rfl hl (by decide) rfl (fun ls hl => ?_)
                obtain ⟨x187, ex187⟩ : ∃ y : Int32, y = v28_3 + Int32.ofInt 1 := ⟨_, rfl⟩
                have erx187 := ex187
                refine lv_iinc (v := x187) (lv' := [(3, .int x187), (2, .int 0), (4, .int 1), (0, .ref (ad 29)), (1, .ref (ad 1))]) hx hb dX7_readFrom_83 hl (k := 4) rfl ex187.symm (by decide) rfl (fun ls hl => ?_)
                have ex187 : x187.toInt = v28_3.toInt + 1 := by rw [ex187]; exact wk_add (y := 1) (show -2147483648 ≤ v28_3.toInt + 1 by omega) (show v28_3.toInt + 1 ≤ 2147483647 by omega)
                replace hM := hM.lt ex187.symm
                refine lv_goto (tgt := 28) hx hb dX7_readFrom_86 (by decide) ?_
                exact ih28 0 x187 x163 f28_29_10 f28_29_11 x165 H locs ls w177 (by decide) (by decide) (show 0 ≤ x187.toInt by first | with_reducible assumption | omega) (show x187.toInt ≤ 33 by first | with_reducible assumption | omega) (show 0 ≤ x163.toInt by first | with_reducible assumption | omega) (show x163.toInt ≤ 3205 by first | with_reducible assumption | omega) (show 0 ≤ f28_29_10.toInt from r42) (show f28_29_10.toInt ≤ 8 from t43) (show 0 ≤ f28_29_11.toInt from r45) (show f28_29_11.toInt ≤ 4 from t46) (show 0 ≤ x165.toInt by first | with_reducible assumption | omega) (show x165.toInt ≤ 12 by first | with_reducible assumption | omega) (show (33 - x187.toInt).toNat < n28 by first | exact tn_lt hm28 (by omega) (by omega) | omega) hw hT hF c185 c183 c184 c186 hM (lv_sub hl [3, 4, 1, 0] rfl)
              · replace hM := hM.call hv172 rfl
                refine lv_aload_n hx hb dX7_readFrom_78 rfl (lv_at hl 2 rfl) ?_
                refine tk_Vi hC hK hw hT hA hE hSR kC_at1 (by decide) rfl (kz_X6_takeSemicolon_2 l adK adV dC dI cy ad B hB0 (Int.le_trans hB1 (by decide)) qr s1    w161 H.size hT ) (cwV 0 hC.2.2.2.2 uV_RX7_81 rfl rfl rfl (by decide +kernel) ⟨Nat.le_of_ble_eq_true rfl, Nat.le_of_ble_eq_true rfl⟩) rfl hl.1 rfl (Nat.le_of_ble_eq_true rfl) dX7_readFrom_79 (fun r188 w190 H locs hp189 hw => ?_)
                obtain ⟨hT, k191, hv203, hg202⟩ := hp189
                have hF := hF.tr k191 (by decide)
                have c204 := k191.gi kC_at29 (by decide) c173
                have c205 := k191.gi kC_at29 (by decide) c174
                have c206 := k191.gi kC_at29 (by decide) c170
                rcases hg202 with ⟨rfl, ⟨x192, c193, rx192, tx192⟩⟩ | ⟨rfl, ⟨x194, c195, rx194, tx194⟩⟩ | ⟨rfl, ⟨x196, c197, rx196, tx196⟩, ⟨x198, c199, rx198, tx198⟩, ⟨x200, c201, rx200, tx200⟩⟩
                · replace hM := hM.call (r' := 0) hv203 (by decide)
                  refine lv_istore_n (lv' := [(2, .int 0), (4, .int 1), (0, .ref (ad 29)), (1, .ref (ad 1)), (3, .int v28_3)]) hx hb dX7_readFrom_82 rfl hl (by decide) rfl (fun ls hl => ?_)
                  obtain ⟨x207, ex207⟩ : ∃ y : Int32, y = v28_3 + Int32.ofInt 1 := ⟨_, rfl⟩
                  have erx207 := ex207
                  refine lv_iinc (v := x207) (lv' := [(3, .int x207), (2, .int 0), (4, .int 1), (0, .ref (ad 29)), (1, .ref (ad 1))]) hx hb dX7_readFrom_83 hl (k := 4) rfl ex207.symm (by decide) rfl (fun ls hl => ?_)
                  have ex207 : x207.toInt = v28_3.toInt + 1 := by rw [ex207]; exact wk_add (y := 1) (show -2147483648 ≤ v28_3.toInt + 1 by omega) (show v28_3.toInt + 1 ≤ 2147483647 by omega)
                  replace hM := hM.lt ex207.symm
                  refine lv_goto (tgt := 28) hx hb dX7_readFrom_86 (by decide) ?_
                  exact ih28 0 x207 x192 f28_29_10 f28_29_11 x169 H locs ls w190 (by decide) (by decide) (show 0 ≤ x207.toInt by first | with_reducible assumption | omega) (show x207.toInt ≤ 33 by first | with_reducible assumption | omega) (show 0 ≤ x192.toInt by first | with_reducible assumption | omega) (show x192.toInt ≤ 3205 by first | with_reducible assumption | omega) (show 0 ≤ f28_29_10.toInt from r42) (show f28_29_10.toInt ≤ 8 from t43) (show 0 ≤ f28_29_11.toInt from r45) (show f28_29_11.toInt ≤ 4 from t46) (show 0 ≤ x169.toInt by first | with_reducible assumption | omega) (show x169.toInt ≤ 12 by first | with_reducible assumption | omega) (show (33 - x207.toInt).toNat < n28 by first | exact tn_lt hm28 (by omega) (by omega) | omega) hw hT hF c193 c204 c205 c206 hM (lv_sub hl [3, 4, 1, 0] rfl)
                · replace hM := hM.call (r' := 0) hv203 (by decide)
                  refine lv_istore_n (lv' := [(2, .int 0), (4, .int 1), (0, .ref (ad 29)), (1, .ref (ad 1)), (3, .int v28_3)]) hx hb dX7_readFrom_82 rfl hl (by decide) rfl (fun ls hl => ?_)
                  obtain ⟨x208, ex208⟩ : ∃ y : Int32, y = v28_3 + Int32.ofInt 1 := ⟨_, rfl⟩
                  have erx208 := ex208
                  refine lv_iinc (v := x208) (lv' := [(3, .int x208), (2, .int 0), (4, .int 1), (0, .ref (ad 29)), (1, .ref (ad 1))]) hx hb dX7_readFrom_83 hl (k := 4) rfl ex208.symm (by decide) rfl (fun ls hl => ?_)
                  have ex208 : x208.toInt = v28_3.toInt + 1 := by rw [ex208]; exact wk_add (y := 1) (show -2147483648 ≤ v28_3.toInt + 1 by omega) (show v28_3.toInt + 1 ≤ 2147483647 by omega)
                  replace hM := hM.lt ex208.symm
                  refine lv_goto (tgt := 28) hx hb dX7_readFrom_86 (by decide) ?_
                  exact ih28 0 x208 x194 f28_29_10 f28_29_11 x169 H locs ls w190 (by decide) (by decide) (show 0 ≤ x208.toInt by first | with_reducible assumption | omega) (show x208.toInt ≤ 33 by first | with_reducible assumption | omega) (show 0 ≤ x194.toInt by first | with_reducible assumption | omega) (show x194.toInt ≤ 3205 by first | with_reducible assumption | omega) (show 0 ≤ f28_29_10.toInt from r42) (show f28_29_10.toInt ≤ 8 from t43) (show 0 ≤ f28_29_11.toInt from r45) (show f28_29_11.toInt ≤ 4 from t46) (show 0 ≤ x169.toInt by first | with_reducible assumption | omega) (show x169.toInt ≤ 12 by first | with_reducible assumption | omega) (show (33 - x208.toInt).toNat < n28 by first | exact tn_lt hm28 (by omega) (by omega) | omega) hw hT hF c195 c204 c205 c206 hM (lv_sub hl [3, 4, 1, 0] rfl)
                · replace hM := hM.call (r' := 1) hv203 (by decide)
                  refine lv_istore_n (lv' := [(2, .int 1), (4, .int 1), (0, .ref (ad 29)), (1, .ref (ad 1)), (3, .int v28_3)]) hx hb dX7_readFrom_82 rfl hl (by decide) rfl (fun ls hl => ?_)
                  obtain ⟨x209, ex209⟩ : ∃ y : Int32, y = v28_3 + Int32.ofInt 1 := ⟨_, rfl⟩
                  have erx209 := ex209
                  refine lv_iinc (v := x209) (lv' := [(3, .int x209), (2, .int 1), (4, .int 1), (0, .ref (ad 29)), (1, .ref (ad 1))]) hx hb dX7_readFrom_83 hl (k := 4) rfl ex209.symm (by decide) rfl (fun ls hl => ?_)
                  have ex209 : x209.toInt = v28_3.toInt + 1 := by rw [ex209]; exact wk_add (y := 1) (show -2147483648 ≤ v28_3.toInt + 1 by omega) (show v28_3.toInt + 1 ≤ 2147483647 by omega)
                  replace hM := hM.lt ex209.symm
                  refine lv_goto (tgt := 28) hx hb dX7_readFrom_86 (by decide) ?_
                  exact ih28 1 x209 x200 f28_29_10 f28_29_11 x169 H locs ls w190 (by decide) (by decide) (show 0 ≤ x209.toInt by first | with_reducible assumption | omega) (show x209.toInt ≤ 33 by first | with_reducible assumption | omega) (show 0 ≤ x200.toInt by first | with_reducible assumption | omega) (show x200.toInt ≤ 3205 by first | with_reducible assumption | omega) (show 0 ≤ f28_29_10.toInt from r42) (show f28_29_10.toInt ≤ 8 from t43) (show 0 ≤ f28_29_11.toInt from r45) (show f28_29_11.toInt ≤ 4 from t46) (show 0 ≤ x169.toInt by first | with_reducible assumption | omega) (show x169.toInt ≤ 12 by first | with_reducible assumption | omega) (show (33 - x209.toInt).toNat < n28 by first | exact tn_lt hm28 (by omega) (by omega) | omega) hw hT hF c201 c204 c205 c206 hM (lv_sub hl [3, 4, 1, 0] rfl)
            · replace hM := hM.call (r' := 0) hv107 (by decide)
              have ex82 : x82.toInt = f28_29_10.toInt := by rw [← c108.symm.trans c83]
              refine lv_if_eq (tgt := 71) hx hb dX7_readFrom_59 (by decide) (fun _ => ?_) (fun c => absurd (by decide) c)
              replace hM := hM.pos (by decide)
              refine lv_aload_n hx hb dX7_readFrom_71 rfl (lv_at hl 1 rfl) ?_
              refine lv_aload_n hx hb dX7_readFrom_72 rfl (lv_at hl 2 rfl) ?_
              refine lv_iload hx hb dX7_readFrom_73 (lv_at hl 0 rfl) ?_
              obtain rfl : r53 = 2 := wk_eq.mpr (show r53.toInt = 2 by first | exact Int.le_antisymm (by omega) (by omega) | omega)
              try simp only [show (2 : Int32).toInt = 2 by decide] at hM
              refine tk_Vv hC hK hw hT hA hE hSR kC_at29 (by decide) rfl (kz_X7_readClause_3 l adK adV dC dI cy ad B hB0 (Int.le_trans hB1 (by decide)) qr s1    w68 H.size hT f28_29_10 c108 (show 0 ≤ f28_29_10.toInt from r42) (show f28_29_10.toInt ≤ 7 by first | with_reducible assumption | omega)) (cwV 2 hC.2.2.2.2 uV_RX7_77 rfl rfl rfl (by decide +kernel) ⟨Nat.le_of_ble_eq_true rfl, Nat.le_of_ble_eq_true rfl⟩) rfl hl.1 rfl (Nat.le_of_ble_eq_true rfl) dX7_readFrom_75 (fun w212 H locs hp211 hw => ?_)
              obtain ⟨hT, k213, hv223, hg222⟩ := hp211
              have hF := hF.tr k213 (by decide)
              have c224 := k213.gi kC_at29 (by decide) c109
              have c225 := k213.gi kC_at29 (by decide) c110
              rcases hg222 with ⟨⟨x214, c215, rx214, tx214⟩, ⟨x216, c217, rx216, tx216⟩⟩ | ⟨⟨x218, c219, rx218, tx218⟩, ⟨x220, c221, rx220, tx220⟩⟩
              · replace hM := hM.call hv223 rfl
                refine lv_aload_n hx hb dX7_readFrom_78 rfl (lv_at hl 2 rfl) ?_
                refine tk_Vi hC hK hw hT hA hE hSR kC_at1 (by decide) rfl (kz_X6_takeSemicolon_1 l adK adV dC dI cy ad B hB0 (Int.le_trans hB1 (by decide)) qr s1    w212 H.size hT x214 c215 (show 1 ≤ x214.toInt by first | with_reducible assumption | omega) (show x214.toInt ≤ 3205 by first | with_reducible assumption | omega)) (cwV 0 hC.2.2.2.2 uV_RX7_81 rfl rfl rfl (by decide +kernel) ⟨Nat.le_of_ble_eq_true rfl, Nat.le_of_ble_eq_true rfl⟩) rfl hl.1 rfl (Nat.le_of_ble_eq_true rfl) dX7_readFrom_79 (fun r226 w228 H locs hp227 hw => ?_)
                obtain ⟨hT, k229, hv233, hg232⟩ := hp227
                have hF := hF.tr k229 (by decide)
                have c234 := k229.gi kC_at29 (by decide) c224
                have c235 := k229.gi kC_at29 (by decide) c225
                have c236 := k229.gi kC_at1 (by decide) c215
                have c237 := k229.gi kC_at29 (by decide) c217
                obtain ⟨rfl, ⟨x230, c231, rx230, tx230⟩⟩ := hg232
                replace hM := hM.call (r' := 0) hv233 (by decide)
                have ex230 : x230.toInt = x214.toInt := by rw [← c236.symm.trans c231]
                refine lv_istore_n (lv' := [(2, .int 0), (4, .int 2), (0, .ref (ad 29)), (1, .ref (ad 1)), (3, .int v28_3)]) hx hb dX7_readFrom_82 rfl hl (by decide) rfl (fun ls hl => ?_)
                obtain ⟨x238, ex238⟩ : ∃ y : Int32, y = v28_3 + Int32.ofInt 1 := ⟨_, rfl⟩
                have erx238 := ex238
                refine lv_iinc (v := x238) (lv' := [(3, .int x238), (2, .int 0), (4, .int 2), (0, .ref (ad 29)), (1, .ref (ad 1))]) hx hb dX7_readFrom_83 hl (k := 4) rfl ex238.symm (by decide) rfl (fun ls hl => ?_)
                have ex238 : x238.toInt = v28_3.toInt + 1 := by rw [ex238]; exact wk_add (y := 1) (show -2147483648 ≤ v28_3.toInt + 1 by omega) (show v28_3.toInt + 1 ≤ 2147483647 by omega)
                replace hM := hM.lt ex238.symm
                refine lv_goto (tgt := 28) hx hb dX7_readFrom_86 (by decide) ?_
                exact ih28 0 x238 x214 x216 f28_29_11 f28_29_9 H locs ls w228 (by decide) (by decide) (show 0 ≤ x238.toInt by first | with_reducible assumption | omega) (show x238.toInt ≤ 33 by first | with_reducible assumption | omega) (show 0 ≤ x214.toInt by first | with_reducible assumption | omega) (show x214.toInt ≤ 3205 by first | with_reducible assumption | omega) (show 0 ≤ x216.toInt by first | with_reducible assumption | omega) (show x216.toInt ≤ 8 by first | with_reducible assumption | omega) (show 0 ≤ f28_29_11.toInt from r45) (show f28_29_11.toInt ≤ 4 from t46) (show 0 ≤ f28_29_9.toInt from r48) (show f28_29_9.toInt ≤ 12 from t49) (show (33 - x238.toInt).toNat < n28 by first | exact tn_lt hm28 (by omega) (by omega) | omega) hw hT hF c236 c237 c234 c235 hM (lv_sub hl [3, 4, 1, 0] rfl)
              · replace hM := hM.call hv223 rfl
                refine lv_aload_n hx hb dX7_readFrom_78 rfl (lv_at hl 2 rfl) ?_
                refine tk_Vi hC hK hw hT hA hE hSR kC_at1 (by decide) rfl (kz_X6_takeSemicolon_2 l adK adV dC dI cy ad B hB0 (Int.le_trans hB1 (by decide)) qr s1    w212 H.size hT ) (cwV 0 hC.2.2.2.2 uV_RX7_81 rfl rfl rfl (by decide +kernel) ⟨Nat.le_of_ble_eq_true rfl, Nat.le_of_ble_eq_true rfl⟩) rfl hl.1 rfl (Nat.le_of_ble_eq_true rfl) dX7_readFrom_79 (fun r239 w241 H locs hp240 hw => ?_)
                obtain ⟨hT, k242, hv254, hg253⟩ := hp240
                have hF := hF.tr k242 (by decide)
                have c255 := k242.gi kC_at29 (by decide) c224
                have c256 := k242.gi kC_at29 (by decide) c225
                have c257 := k242.gi kC_at29 (by decide) c221
                rcases hg253 with ⟨rfl, ⟨x243, c244, rx243, tx243⟩⟩ | ⟨rfl, ⟨x245, c246, rx245, tx245⟩⟩ | ⟨rfl, ⟨x247, c248, rx247, tx247⟩, ⟨x249, c250, rx249, tx249⟩, ⟨x251, c252, rx251, tx251⟩⟩
                · replace hM := hM.call (r' := 0) hv254 (by decide)
                  refine lv_istore_n (lv' := [(2, .int 0), (4, .int 2), (0, .ref (ad 29)), (1, .ref (ad 1)), (3, .int v28_3)]) hx hb dX7_readFrom_82 rfl hl (by decide) rfl (fun ls hl => ?_)
                  obtain ⟨x258, ex258⟩ : ∃ y : Int32, y = v28_3 + Int32.ofInt 1 := ⟨_, rfl⟩
                  have erx258 := ex258
                  refine lv_iinc (v := x258) (lv' := [(3, .int x258), (2, .int 0), (4, .int 2), (0, .ref (ad 29)), (1, .ref (ad 1))]) hx hb dX7_readFrom_83 hl (k := 4) rfl ex258.symm (by decide) rfl (fun ls hl => ?_)
                  have ex258 : x258.toInt = v28_3.toInt + 1 := by rw [ex258]; exact wk_add (y := 1) (show -2147483648 ≤ v28_3.toInt + 1 by omega) (show v28_3.toInt + 1 ≤ 2147483647 by omega)
                  replace hM := hM.lt ex258.symm
                  refine lv_goto (tgt := 28) hx hb dX7_readFrom_86 (by decide) ?_
                  exact ih28 0 x258 x243 x220 f28_29_11 f28_29_9 H locs ls w241 (by decide) (by decide) (show 0 ≤ x258.toInt by first | with_reducible assumption | omega) (show x258.toInt ≤ 33 by first | with_reducible assumption | omega) (show 0 ≤ x243.toInt by first | with_reducible assumption | omega) (show x243.toInt ≤ 3205 by first | with_reducible assumption | omega) (show 0 ≤ x220.toInt by first | with_reducible assumption | omega) (show x220.toInt ≤ 8 by first | with_reducible assumption | omega) (show 0 ≤ f28_29_11.toInt from r45) (show f28_29_11.toInt ≤ 4 from t46) (show 0 ≤ f28_29_9.toInt from r48) (show f28_29_9.toInt ≤ 12 from t49) (show (33 - x258.toInt).toNat < n28 by first | exact tn_lt hm28 (by omega) (by omega) | omega) hw hT hF c244 c257 c255 c256 hM (lv_sub hl [3, 4, 1, 0] rfl)
                · replace hM := hM.call (r' := 0) hv254 (by decide)
                  refine lv_istore_n (lv' := [(2, .int 0), (4, .int 2), (0, .ref (ad 29)), (1, .ref (ad 1)), (3, .int v28_3)]) hx hb dX7_readFrom_82 rfl hl (by decide) rfl (fun ls hl => ?_)
                  obtain ⟨x259, ex259⟩ : ∃ y : Int32, y = v28_3 + Int32.ofInt 1 := ⟨_, rfl⟩
                  have erx259 := ex259
                  refine lv_iinc (v := x259) (lv' := [(3, .int x259), (2, .int 0), (4, .int 2), (0, .ref (ad 29)), (1, .ref (ad 1))]) hx hb dX7_readFrom_83 hl (k := 4) rfl ex259.symm (by decide) rfl (fun ls hl => ?_)
                  have ex259 : x259.toInt = v28_3.toInt + 1 := by rw [ex259]; exact wk_add (y := 1) (show -2147483648 ≤ v28_3.toInt + 1 by omega) (show v28_3.toInt + 1 ≤ 2147483647 by omega)
                  replace hM := hM.lt ex259.symm
                  refine lv_goto (tgt := 28) hx hb dX7_readFrom_86 (by decide) ?_
                  exact ih28 0 x259 x245 x220 f28_29_11 f28_29_9 H locs ls w241 (by decide) (by decide) (show 0 ≤ x259.toInt by first | with_reducible assumption | omega) (show x259.toInt ≤ 33 by first | with_reducible assumption | omega) (show 0 ≤ x245.toInt by first | with_reducible assumption | omega) (show x245.toInt ≤ 3205 by first | with_reducible assumption | omega) (show 0 ≤ x220.toInt by first | with_reducible assumption | omega) (show x220.toInt ≤ 8 by first | with_reducible assumption | omega) (show 0 ≤ f28_29_11.toInt from r45) (show f28_29_11.toInt ≤ 4 from t46) (show 0 ≤ f28_29_9.toInt from r48) (show f28_29_9.toInt ≤ 12 from t49) (show (33 - x259.toInt).toNat < n28 by first | exact tn_lt hm28 (by omega) (by omega) | omega) hw hT hF c246 c257 c255 c256 hM (lv_sub hl [3, 4, 1, 0] rfl)
                · replace hM := hM.call (r' := 1) hv254 (by decide)
                  refine lv_istore_n (lv' := [(2, .int 1), (4, .int 2), (0, .ref (ad 29)), (1, .ref (ad 1)), (3, .int v28_3)]) hx hb dX7_readFrom_82 rfl hl (by decide) rfl (fun ls hl => ?_)
                  obtain ⟨x260, ex260⟩ : ∃ y : Int32, y = v28_3 + Int32.ofInt 1 := ⟨_, rfl⟩
                  have erx260 := ex260
                  refine lv_iinc (v := x260) (lv' := [(3, .int x260), (2, .int 1), (4, .int 2), (0, .ref (ad 29)), (1, .ref (ad 1))]) hx hb dX7_readFrom_83 hl (k := 4) rfl ex260.symm (by decide) rfl (fun ls hl => ?_)
                  have ex260 : x260.toInt = v28_3.toInt + 1 := by rw [ex260]; exact wk_add (y := 1) (show -2147483648 ≤ v28_3.toInt + 1 by omega) (show v28_3.toInt + 1 ≤ 2147483647 by omega)
                  replace hM := hM.lt ex260.symm
                  refine lv_goto (tgt := 28) hx hb dX7_readFrom_86 (by decide) ?_
                  exact ih28 1 x260 x251 x220 f28_29_11 f28_29_9 H locs ls w241 (by decide) (by decide) (show 0 ≤ x260.toInt by first | with_reducible assumption | omega) (show x260.toInt ≤ 33 by first | with_reducible assumption | omega) (show 0 ≤ x251.toInt by first | with_reducible assumption | omega) (show x251.toInt ≤ 3205 by first | with_reducible assumption | omega) (show 0 ≤ x220.toInt by first | with_reducible assumption | omega) (show x220.toInt ≤ 8 by first | with_reducible assumption | omega) (show 0 ≤ f28_29_11.toInt from r45) (show f28_29_11.toInt ≤ 4 from t46) (show 0 ≤ f28_29_9.toInt from r48) (show f28_29_9.toInt ≤ 12 from t49) (show (33 - x260.toInt).toNat < n28 by first | exact tn_lt hm28 (by omega) (by omega) | omega) hw hT hF c252 c257 c255 c256 hM (lv_sub hl [3, 4, 1, 0] rfl)
            · replace hM := hM.call (r' := 0) hv107 (by decide)
              have ex87 : x87.toInt = f28_29_11.toInt := by rw [← c109.symm.trans c88]
              refine lv_if_eq (tgt := 71) hx hb dX7_readFrom_59 (by decide) (fun _ => ?_) (fun c => absurd (by decide) c)
              replace hM := hM.pos (by decide)
              refine lv_aload_n hx hb dX7_readFrom_71 rfl (lv_at hl 1 rfl) ?_
              refine lv_aload_n hx hb dX7_readFrom_72 rfl (lv_at hl 2 rfl) ?_
              refine lv_iload hx hb dX7_readFrom_73 (lv_at hl 0 rfl) ?_
              refine tk_Vv hC hK hw hT hA hE hSR kC_at29 (by decide) rfl (kz_X7_readClause_4 l adK adV dC dI cy ad B hB0 (Int.le_trans hB1 (by decide)) qr s1   r53 (show 3 ≤ r53.toInt by first | with_reducible assumption | omega) (show r53.toInt ≤ 26 by first | with_reducible assumption | omega) w68 H.size hT f28_29_11 c109 (show 0 ≤ f28_29_11.toInt from r45) (show f28_29_11.toInt ≤ 3 by first | with_reducible assumption | omega)) (cwV 2 hC.2.2.2.2 uV_RX7_77 rfl rfl rfl (by decide +kernel) ⟨Nat.le_of_ble_eq_true rfl, Nat.le_of_ble_eq_true rfl⟩) rfl hl.1 rfl (Nat.le_of_ble_eq_true rfl) dX7_readFrom_75 (fun w263 H locs hp262 hw => ?_)
              obtain ⟨hT, k264, hv276, hg275⟩ := hp262
              have hF := hF.tr k264 (by decide)
              have c277 := k264.gi kC_at29 (by decide) c108
              have c278 := k264.gi kC_at29 (by decide) c110
              rcases hg275 with ⟨⟨x265, c266, rx265, tx265⟩, ⟨x267, c268, rx267, tx267⟩⟩ | ⟨⟨x269, c270, rx269, tx269⟩, ⟨x271, c272, rx271, tx271⟩, ⟨x273, c274, rx273, tx273⟩⟩
              · replace hM := hM.call hv276 rfl
                refine lv_aload_n hx hb dX7_readFrom_78 rfl (lv_at hl 2 rfl) ?_
                refine tk_Vi hC hK hw hT hA hE hSR kC_at1 (by decide) rfl (kz_X6_takeSemicolon_1 l adK adV dC dI cy ad B hB0 (Int.le_trans hB1 (by decide)) qr s1    w263 H.size hT x265 c266 (show 1 ≤ x265.toInt by first | with_reducible assumption | omega) (show x265.toInt ≤ 3205 by first | with_reducible assumption | omega)) (cwV 0 hC.2.2.2.2 uV_RX7_81 rfl rfl rfl (by decide +kernel) ⟨Nat.le_of_ble_eq_true rfl, Nat.le_of_ble_eq_true rfl⟩) rfl hl.1 rfl (Nat.le_of_ble_eq_true rfl) dX7_readFrom_79 (fun r279 w281 H locs hp280 hw => ?_)
                obtain ⟨hT, k282, hv286, hg285⟩ := hp280
                have hF := hF.tr k282 (by decide)
                have c287 := k282.gi kC_at29 (by decide) c277
                have c288 := k282.gi kC_at29 (by decide) c278
                have c289 := k282.gi kC_at1 (by decide) c266
                have c290 := k282.gi kC_at29 (by decide) c268
                obtain ⟨rfl, ⟨x283, c284, rx283, tx283⟩⟩ := hg285
                replace hM := hM.call (r' := 0) hv286 (by decide)
                have ex283 : x283.toInt = x265.toInt := by rw [← c289.symm.trans c284]
                refine lv_istore_n (lv' := [(2, .int 0), (4, .int r53), (0, .ref (ad 29)), (1, .ref (ad 1)), (3, .int v28_3)]) hx hb dX7_readFrom_82 rfl hl (by decide) rfl (fun ls hl => ?_)
                obtain ⟨x291, ex291⟩ : ∃ y : Int32, y = v28_3 + Int32.ofInt 1 := ⟨_, rfl⟩
                have erx291 := ex291
                refine lv_iinc (v := x291) (lv' := [(3, .int x291), (2, .int 0), (4, .int r53), (0, .ref (ad 29)), (1, .ref (ad 1))]) hx hb dX7_readFrom_83 hl (k := 4) rfl ex291.symm (by decide) rfl (fun ls hl => ?_)
                have ex291 : x291.toInt = v28_3.toInt + 1 := by rw [ex291]; exact wk_add (y := 1) (show -2147483648 ≤ v28_3.toInt + 1 by omega) (show v28_3.toInt + 1 ≤ 2147483647 by omega)
                replace hM := hM.lt ex291.symm
                refine lv_goto (tgt := 28) hx hb dX7_readFrom_86 (by decide) ?_
                exact ih28 0 x291 x265 f28_29_10 x267 f28_29_9 H locs ls w281 (by decide) (by decide) (show 0 ≤ x291.toInt by first | with_reducible assumption | omega) (show x291.toInt ≤ 33 by first | with_reducible assumption | omega) (show 0 ≤ x265.toInt by first | with_reducible assumption | omega) (show x265.toInt ≤ 3205 by first | with_reducible assumption | omega) (show 0 ≤ f28_29_10.toInt from r42) (show f28_29_10.toInt ≤ 8 from t43) (show 0 ≤ x267.toInt by first | with_reducible assumption | omega) (show x267.toInt ≤ 4 by first | with_reducible assumption | omega) (show 0 ≤ f28_29_9.toInt from r48) (show f28_29_9.toInt ≤ 12 from t49) (show (33 - x291.toInt).toNat < n28 by first | exact tn_lt hm28 (by omega) (by omega) | omega) hw hT hF c289 c287 c290 c288 hM (lv_sub hl [3, 4, 1, 0] rfl)
              · replace hM := hM.call hv276 rfl
                have ex271 : x271.toInt = f28_29_9.toInt := by rw [← c278.symm.trans c272]
                refine lv_aload_n hx hb dX7_readFrom_78 rfl (lv_at hl 2 rfl) ?_
                refine tk_Vi hC hK hw hT hA hE hSR kC_at1 (by decide) rfl (kz_X6_takeSemicolon_2 l adK adV dC dI cy ad B hB0 (Int.le_trans hB1 (by decide)) qr s1    w263 H.size hT ) (cwV 0 hC.2.2.2.2 uV_RX7_81 rfl rfl rfl (by decide +kernel) ⟨Nat.le_of_ble_eq_true rfl, Nat.le_of_ble_eq_true rfl⟩) rfl hl.1 rfl (Nat.le_of_ble_eq_true rfl) dX7_readFrom_79 (fun r292 w294 H locs hp293 hw => ?_)
                obtain ⟨hT, k295, hv307, hg306⟩ := hp293
                have hF := hF.tr k295 (by decide)
                have c308 := k295.gi kC_at29 (by decide) c277
                have c309 := k295.gi kC_at29 (by decide) c278
                have c310 := k295.gi kC_at29 (by decide) c274
                rcases hg306 with ⟨rfl, ⟨x296, c297, rx296, tx296⟩⟩ | ⟨rfl, ⟨x298, c299, rx298, tx298⟩⟩ | ⟨rfl, ⟨x300, c301, rx300, tx300⟩, ⟨x302, c303, rx302, tx302⟩, ⟨x304, c305, rx304, tx304⟩⟩
                · replace hM := hM.call (r' := 0) hv307 (by decide)
                  refine lv_istore_n (lv' := [(2, .int 0), (4, .int r53), (0, .ref (ad 29)), (1, .ref (ad 1)), (3, .int v28_3)]) hx hb dX7_readFrom_82 rfl hl (by decide) rfl (fun ls hl => ?_)
                  obtain ⟨x311, ex311⟩ : ∃ y : Int32, y = v28_3 + Int32.ofInt 1 := ⟨_, rfl⟩
                  have erx311 := ex311
                  refine lv_iinc (v := x311) (lv' := [(3, .int x311), (2, .int 0), (4, .int r53), (0, .ref (ad 29)), (1, .ref (ad 1))]) hx hb dX7_readFrom_83 hl (k := 4) rfl ex311.symm (by decide) rfl (fun ls hl => ?_)
                  have ex311 : x311.toInt = v28_3.toInt + 1 := by rw [ex311]; exact wk_add (y := 1) (show -2147483648 ≤ v28_3.toInt + 1 by omega) (show v28_3.toInt + 1 ≤ 2147483647 by omega)
                  replace hM := hM.lt ex311.symm
                  refine lv_goto (tgt := 28) hx hb dX7_readFrom_86 (by decide) ?_
                  exact ih28 0 x311 x296 f28_29_10 x273 f28_29_9 H locs ls w294 (by decide) (by decide) (show 0 ≤ x311.toInt by first | with_reducible assumption | omega) (show x311.toInt ≤ 33 by first | with_reducible assumption | omega) (show 0 ≤ x296.toInt by first | with_reducible assumption | omega) (show x296.toInt ≤ 3205 by first | with_reducible assumption | omega) (show 0 ≤ f28_29_10.toInt from r42) (show f28_29_10.toInt ≤ 8 from t43) (show 0 ≤ x273.toInt by first | with_reducible assumption | omega) (show x273.toInt ≤ 4 by first | with_reducible assumption | omega) (show 0 ≤ f28_29_9.toInt from r48) (show f28_29_9.toInt ≤ 12 from t49) (show (33 - x311.toInt).toNat < n28 by first | exact tn_lt hm28 (by omega) (by omega) | omega) hw hT hF c297 c308 c310 c309 hM (lv_sub hl [3, 4, 1, 0] rfl)
                · replace hM := hM.call (r' := 0) hv307 (by decide)
                  refine lv_istore_n (lv' := [(2, .int 0), (4, .int r53), (0, .ref (ad 29)), (1, .ref (ad 1)), (3, .int v28_3)]) hx hb dX7_readFrom_82 rfl hl (by decide) rfl (fun ls hl => ?_)
                  obtain ⟨x312, ex312⟩ : ∃ y : Int32, y = v28_3 + Int32.ofInt 1 := ⟨_, rfl⟩
                  have erx312 := ex312
                  refine lv_iinc (v := x312) (lv' := [(3, .int x312), (2, .int 0), (4, .int r53), (0, .ref (ad 29)), (1, .ref (ad 1))]) hx hb dX7_readFrom_83 hl (k := 4) rfl ex312.symm (by decide) rfl (fun ls hl => ?_)
                  have ex312 : x312.toInt = v28_3.toInt + 1 := by rw [ex312]; exact wk_add (y := 1) (show -2147483648 ≤ v28_3.toInt + 1 by omega) (show v28_3.toInt + 1 ≤ 2147483647 by omega)
                  replace hM := hM.lt ex312.symm
                  refine lv_goto (tgt := 28) hx hb dX7_readFrom_86 (by decide) ?_
                  exact ih28 0 x312 x298 f28_29_10 x273 f28_29_9 H locs ls w294 (by decide) (by decide) (show 0 ≤ x312.toInt by first | with_reducible assumption | omega) (show x312.toInt ≤ 33 by first | with_reducible assumption | omega) (show 0 ≤ x298.toInt by first | with_reducible assumption | omega) (show x298.toInt ≤ 3205 by first | with_reducible assumption | omega) (show 0 ≤ f28_29_10.toInt from r42) (show f28_29_10.toInt ≤ 8 from t43) (show 0 ≤ x273.toInt by first | with_reducible assumption | omega) (show x273.toInt ≤ 4 by first | with_reducible assumption | omega) (show 0 ≤ f28_29_9.toInt from r48) (show f28_29_9.toInt ≤ 12 from t49) (show (33 - x312.toInt).toNat < n28 by first | exact tn_lt hm28 (by omega) (by omega) | omega) hw hT hF c299 c308 c310 c309 hM (lv_sub hl [3, 4, 1, 0] rfl)
                · replace hM := hM.call (r' := 1) hv307 (by decide)
                  refine lv_istore_n (lv' := [(2, .int 1), (4, .int r53), (0, .ref (ad 29)), (1, .ref (ad 1)), (3, .int v28_3)]) hx hb dX7_readFrom_82 rfl hl (by decide) rfl (fun ls hl => ?_)
                  obtain ⟨x313, ex313⟩ : ∃ y : Int32, y = v28_3 + Int32.ofInt 1 := ⟨_, rfl⟩
                  have erx313 := ex313
                  refine lv_iinc (v := x313) (lv' := [(3, .int x313), (2, .int 1), (4, .int r53), (0, .ref (ad 29)), (1, .ref (ad 1))]) hx hb dX7_readFrom_83 hl (k := 4) rfl ex313.symm (by decide) rfl (fun ls hl => ?_)
                  have ex313 : x313.toInt = v28_3.toInt + 1 := by rw [ex313]; exact wk_add (y := 1) (show -2147483648 ≤ v28_3.toInt + 1 by omega) (show v28_3.toInt + 1 ≤ 2147483647 by omega)
                  replace hM := hM.lt ex313.symm
                  refine lv_goto (tgt := 28) hx hb dX7_readFrom_86 (by decide) ?_
                  exact ih28 1 x313 x304 f28_29_10 x273 f28_29_9 H locs ls w294 (by decide) (by decide) (show 0 ≤ x313.toInt by first | with_reducible assumption | omega) (show x313.toInt ≤ 33 by first | with_reducible assumption | omega) (show 0 ≤ x304.toInt by first | with_reducible assumption | omega) (show x304.toInt ≤ 3205 by first | with_reducible assumption | omega) (show 0 ≤ f28_29_10.toInt from r42) (show f28_29_10.toInt ≤ 8 from t43) (show 0 ≤ x273.toInt by first | with_reducible assumption | omega) (show x273.toInt ≤ 4 by first | with_reducible assumption | omega) (show 0 ≤ f28_29_9.toInt from r48) (show f28_29_9.toInt ≤ 12 from t49) (show (33 - x313.toInt).toNat < n28 by first | exact tn_lt hm28 (by omega) (by omega) | omega) hw hT hF c305 c308 c310 c309 hM (lv_sub hl [3, 4, 1, 0] rfl)
            · replace hM := hM.call (r' := 1) hv107 (by decide)
              refine lv_if_eq (tgt := 71) hx hb dX7_readFrom_59 (by decide) (fun c => absurd c (by decide)) (fun _ => ?_)
              replace hM := hM.neg (by decide)
              refine lv_aload_n hx hb dX7_readFrom_62 rfl (lv_at hl 2 rfl) ?_
              refine lv_aload_n hx hb dX7_readFrom_63 rfl (lv_at hl 2 rfl) ?_
              refine tk_geti hC hK hw hT hinX6 kC_at1 (by decide) rfl 3 (by decide) (List.mem_cons_of_mem _ uw_9_11) rfl rfl dX7_readFrom_64 (fun x314 c315 rx314 tx314 => ?_)
              replace hM := hM.rd (sI_at c315)
              refine lv_iconst (v := 4) hx hb dX7_readFrom_67 (by decide) ?_
              refine tk_Vv hC hK hw hT hA hE hSR kC_at1 (by decide) rfl (kz_X6_blame_1 l adK adV dC dI cy ad B hB0 (Int.le_trans hB1 (by decide)) qr s1   x314 (show 0 ≤ x314.toInt from rx314) (show x314.toInt ≤ 400 from tx314) 4 (by decide) (by decide) w68 H.size hT ) (cwV 2 hC.2.2.2.2 uV_RX7_73 rfl rfl rfl (by decide +kernel) ⟨Nat.le_of_ble_eq_true rfl, Nat.le_of_ble_eq_true rfl⟩) rfl hl.1 rfl (Nat.le_of_ble_eq_true rfl) dX7_readFrom_68 (fun w318 H locs hp317 hw => ?_)
              obtain ⟨hT, k319, hv323, hg322⟩ := hp317
              try simp only [show (4 : Int32).toInt = 4 by decide] at hv323
              have hF := hF.tr k319 (by decide)
              have c324 := k319.gi kC_at29 (by decide) c108
              have c325 := k319.gi kC_at29 (by decide) c109
              have c326 := k319.gi kC_at29 (by decide) c110
              have c327 := k319.gi kC_at1 (by decide) c315
              obtain ⟨x320, c321, rx320, tx320⟩ := hg322
              replace hM := hM.call hv323 rfl
              refine lv_aload_n hx hb dX7_readFrom_71 rfl (lv_at hl 1 rfl) ?_
              refine lv_aload_n hx hb dX7_readFrom_72 rfl (lv_at hl 2 rfl) ?_
              refine lv_iload hx hb dX7_readFrom_73 (lv_at hl 0 rfl) ?_
              refine tk_Vv hC hK hw hT hA hE hSR kC_at29 (by decide) rfl (kz_X7_readClause_5 l adK adV dC dI cy ad B hB0 (Int.le_trans hB1 (by decide)) qr s1   r53 (show 0 ≤ r53.toInt by first | with_reducible assumption | omega) (show r53.toInt ≤ 26 by first | with_reducible assumption | omega) w318 H.size hT x320 c321 (show 1 ≤ x320.toInt by first | with_reducible assumption | omega) (show x320.toInt ≤ 3205 by first | with_reducible assumption | omega)) (cwV 2 hC.2.2.2.2 uV_RX7_77 rfl rfl rfl (by decide +kernel) ⟨Nat.le_of_ble_eq_true rfl, Nat.le_of_ble_eq_true rfl⟩) rfl hl.1 rfl (Nat.le_of_ble_eq_true rfl) dX7_readFrom_75 (fun w330 H locs hp329 hw => ?_)
              obtain ⟨hT, k331, hv335, hg334⟩ := hp329
              have hF := hF.tr k331 (by decide)
              have c336 := k331.gi kC_at29 (by decide) c324
              have c337 := k331.gi kC_at29 (by decide) c325
              have c338 := k331.gi kC_at29 (by decide) c326
              have c339 := k331.gi kC_at1 (by decide) c327
              have c340 := k331.gi kC_at1 (by decide) c321
              obtain ⟨x332, c333, rx332, tx332⟩ := hg334
              replace hM := hM.call hv335 rfl
              have ex332 : x332.toInt = x320.toInt := by rw [← c340.symm.trans c333]
              refine lv_aload_n hx hb dX7_readFrom_78 rfl (lv_at hl 2 rfl) ?_
              refine tk_Vi hC hK hw hT hA hE hSR kC_at1 (by decide) rfl (kz_X6_takeSemicolon_1 l adK adV dC dI cy ad B hB0 (Int.le_trans hB1 (by decide)) qr s1    w330 H.size hT x320 c340 (show 1 ≤ x320.toInt by first | with_reducible assumption | omega) (show x320.toInt ≤ 3205 by first | with_reducible assumption | omega)) (cwV 0 hC.2.2.2.2 uV_RX7_81 rfl rfl rfl (by decide +kernel) ⟨Nat.le_of_ble_eq_true rfl, Nat.le_of_ble_eq_true rfl⟩) rfl hl.1 rfl (Nat.le_of_ble_eq_true rfl) dX7_readFrom_79 (fun r341 w343 H locs hp342 hw => ?_)
              obtain ⟨hT, k344, hv348, hg347⟩ := hp342
              have hF := hF.tr k344 (by decide)
              have c349 := k344.gi kC_at29 (by decide) c336
              have c350 := k344.gi kC_at29 (by decide) c337
              have c351 := k344.gi kC_at29 (by decide) c338
              have c352 := k344.gi kC_at1 (by decide) c339
              have c353 := k344.gi kC_at1 (by decide) c340
              obtain ⟨rfl, ⟨x345, c346, rx345, tx345⟩⟩ := hg347
              replace hM := hM.call (r' := 0) hv348 (by decide)
              have ex345 : x345.toInt = x320.toInt := by rw [← c353.symm.trans c346]
              refine lv_istore_n (lv' := [(2, .int 0), (4, .int r53), (0, .ref (ad 29)), (1, .ref (ad 1)), (3, .int v28_3)]) hx hb dX7_readFrom_82 rfl hl (by decide) rfl (fun ls hl => ?_)
              obtain ⟨x354, ex354⟩ : ∃ y : Int32, y = v28_3 + Int32.ofInt 1 := ⟨_, rfl⟩
              have erx354 := ex354
              refine lv_iinc (v := x354) (lv' := [(3, .int x354), (2, .int 0), (4, .int r53), (0, .ref (ad 29)), (1, .ref (ad 1))]) hx hb dX7_readFrom_83 hl (k := 4) rfl ex354.symm (by decide) rfl (fun ls hl => ?_)
              have ex354 : x354.toInt = v28_3.toInt + 1 := by rw [ex354]; exact wk_add (y := 1) (show -2147483648 ≤ v28_3.toInt + 1 by omega) (show v28_3.toInt + 1 ≤ 2147483647 by omega)
              replace hM := hM.lt ex354.symm
              refine lv_goto (tgt := 28) hx hb dX7_readFrom_86 (by decide) ?_
              exact ih28 0 x354 x320 f28_29_10 f28_29_11 f28_29_9 H locs ls w343 (by decide) (by decide) (show 0 ≤ x354.toInt by first | with_reducible assumption | omega) (show x354.toInt ≤ 33 by first | with_reducible assumption | omega) (show 0 ≤ x320.toInt by first | with_reducible assumption | omega) (show x320.toInt ≤ 3205 by first | with_reducible assumption | omega) (show 0 ≤ f28_29_10.toInt from r42) (show f28_29_10.toInt ≤ 8 from t43) (show 0 ≤ f28_29_11.toInt from r45) (show f28_29_11.toInt ≤ 4 from t46) (show 0 ≤ f28_29_9.toInt from r48) (show f28_29_9.toInt ≤ 12 from t49) (show (33 - x354.toInt).toNat < n28 by first | exact tn_lt hm28 (by omega) (by omega) | omega) hw hT hF c353 c349 c350 c351 hM (lv_sub hl [3, 4, 1, 0] rfl)
            · replace hM := hM.call (r' := 1) hv107 (by decide)
              have ex93 : x93.toInt = f28_29_9.toInt := by rw [← c110.symm.trans c94]
              refine lv_if_eq (tgt := 71) hx hb dX7_readFrom_59 (by decide) (fun c => absurd c (by decide)) (fun _ => ?_)
              replace hM := hM.neg (by decide)
              refine lv_aload_n hx hb dX7_readFrom_62 rfl (lv_at hl 2 rfl) ?_
              refine lv_aload_n hx hb dX7_readFrom_63 rfl (lv_at hl 2 rfl) ?_
              refine tk_geti hC hK hw hT hinX6 kC_at1 (by decide) rfl 3 (by decide) (List.mem_cons_of_mem _ uw_9_11) rfl rfl dX7_readFrom_64 (fun x355 c356 rx355 tx355 => ?_)
              replace hM := hM.rd (sI_at c356)
              refine lv_iconst (v := 4) hx hb dX7_readFrom_67 (by decide) ?_
              refine tk_Vv hC hK hw hT hA hE hSR kC_at1 (by decide) rfl (kz_X6_blame_1 l adK adV dC dI cy ad B hB0 (Int.le_trans hB1 (by decide)) qr s1   x355 (show 0 ≤ x355.toInt from rx355) (show x355.toInt ≤ 400 from tx355) 4 (by decide) (by decide) w68 H.size hT ) (cwV 2 hC.2.2.2.2 uV_RX7_73 rfl rfl rfl (by decide +kernel) ⟨Nat.le_of_ble_eq_true rfl, Nat.le_of_ble_eq_true rfl⟩) rfl hl.1 rfl (Nat.le_of_ble_eq_true rfl) dX7_readFrom_68 (fun w359 H locs hp358 hw => ?_)
              obtain ⟨hT, k360, hv364, hg363⟩ := hp358
              try simp only [show (4 : Int32).toInt = 4 by decide] at hv364
              have hF := hF.tr k360 (by decide)
              have c365 := k360.gi kC_at29 (by decide) c108
              have c366 := k360.gi kC_at29 (by decide) c109
              have c367 := k360.gi kC_at29 (by decide) c110
              have c368 := k360.gi kC_at1 (by decide) c356
              obtain ⟨x361, c362, rx361, tx361⟩ := hg363
              replace hM := hM.call hv364 rfl
              refine lv_aload_n hx hb dX7_readFrom_71 rfl (lv_at hl 1 rfl) ?_
              refine lv_aload_n hx hb dX7_readFrom_72 rfl (lv_at hl 2 rfl) ?_
              refine lv_iload hx hb dX7_readFrom_73 (lv_at hl 0 rfl) ?_
              obtain rfl : r53 = 1 := wk_eq.mpr (show r53.toInt = 1 by first | exact Int.le_antisymm (by omega) (by omega) | omega)
              try simp only [show (1 : Int32).toInt = 1 by decide] at hM
              refine tk_Vv hC hK hw hT hA hE hSR kC_at29 (by decide) rfl (kz_X7_readClause_6 l adK adV dC dI cy ad B hB0 (Int.le_trans hB1 (by decide)) qr s1    w359 H.size hT x361 c362 (show 1 ≤ x361.toInt by first | with_reducible assumption | omega) (show x361.toInt ≤ 3205 by first | with_reducible assumption | omega) (c367.trans (wk_eq.mpr (show f28_29_9.toInt = 12 by first | exact Int.le_antisymm (by omega) (by omega) | omega)))) (cwV 2 hC.2.2.2.2 uV_RX7_77 rfl rfl rfl (by decide +kernel) ⟨Nat.le_of_ble_eq_true rfl, Nat.le_of_ble_eq_true rfl⟩) rfl hl.1 rfl (Nat.le_of_ble_eq_true rfl) dX7_readFrom_75 (fun w371 H locs hp370 hw => ?_)
              obtain ⟨hT, k372, hv378, hg377⟩ := hp370
              have hF := hF.tr k372 (by decide)
              have c379 := k372.gi kC_at29 (by decide) c365
              have c380 := k372.gi kC_at29 (by decide) c366
              have c381 := k372.gi kC_at29 (by decide) c367
              have c382 := k372.gi kC_at1 (by decide) c368
              have c383 := k372.gi kC_at1 (by decide) c362
              obtain ⟨⟨x373, c374, rx373, tx373⟩, ⟨x375, c376, rx375, tx375⟩⟩ := hg377
              replace hM := hM.call hv378 rfl
              have ex373 : x373.toInt = x361.toInt := by rw [← c383.symm.trans c374]
              have ex375 : x375.toInt = f28_29_9.toInt := by rw [← c381.symm.trans c376]
              refine lv_aload_n hx hb dX7_readFrom_78 rfl (lv_at hl 2 rfl) ?_
              refine tk_Vi hC hK hw hT hA hE hSR kC_at1 (by decide) rfl (kz_X6_takeSemicolon_1 l adK adV dC dI cy ad B hB0 (Int.le_trans hB1 (by decide)) qr s1    w371 H.size hT x361 c383 (show 1 ≤ x361.toInt by first | with_reducible assumption | omega) (show x361.toInt ≤ 3205 by first | with_reducible assumption | omega)) (cwV 0 hC.2.2.2.2 uV_RX7_81 rfl rfl rfl (by decide +kernel) ⟨Nat.le_of_ble_eq_true rfl, Nat.le_of_ble_eq_true rfl⟩) rfl hl.1 rfl (Nat.le_of_ble_eq_true rfl) dX7_readFrom_79 (fun r384 w386 H locs hp385 hw => ?_)
              obtain ⟨hT, k387, hv391, hg390⟩ := hp385
              have hF := hF.tr k387 (by decide)
              have c392 := k387.gi kC_at29 (by decide) c379
              have c393 := k387.gi kC_at29 (by decide) c380
              have c394 := k387.gi kC_at29 (by decide) c381
              have c395 := k387.gi kC_at1 (by decide) c382
              have c396 := k387.gi kC_at1 (by decide) c383
              obtain ⟨rfl, ⟨x388, c389, rx388, tx388⟩⟩ := hg390
              replace hM := hM.call (r' := 0) hv391 (by decide)
              have ex388 : x388.toInt = x361.toInt := by rw [← c396.symm.trans c389]
              refine lv_istore_n (lv' := [(2, .int 0), (4, .int 1), (0, .ref (ad 29)), (1, .ref (ad 1)), (3, .int v28_3)]) hx hb dX7_readFrom_82 rfl hl (by decide) rfl (fun ls hl => ?_)
              obtain ⟨x397, ex397⟩ : ∃ y : Int32, y = v28_3 + Int32.ofInt 1 := ⟨_, rfl⟩
              have erx397 := ex397
              refine lv_iinc (v := x397) (lv' := [(3, .int x397), (2, .int 0), (4, .int 1), (0, .ref (ad 29)), (1, .ref (ad 1))]) hx hb dX7_readFrom_83 hl (k := 4) rfl ex397.symm (by decide) rfl (fun ls hl => ?_)
              have ex397 : x397.toInt = v28_3.toInt + 1 := by rw [ex397]; exact wk_add (y := 1) (show -2147483648 ≤ v28_3.toInt + 1 by omega) (show v28_3.toInt + 1 ≤ 2147483647 by omega)
              replace hM := hM.lt ex397.symm
              refine lv_goto (tgt := 28) hx hb dX7_readFrom_86 (by decide) ?_
              exact ih28 0 x397 x361 f28_29_10 f28_29_11 f28_29_9 H locs ls w386 (by decide) (by decide) (show 0 ≤ x397.toInt by first | with_reducible assumption | omega) (show x397.toInt ≤ 33 by first | with_reducible assumption | omega) (show 0 ≤ x361.toInt by first | with_reducible assumption | omega) (show x361.toInt ≤ 3205 by first | with_reducible assumption | omega) (show 0 ≤ f28_29_10.toInt from r42) (show f28_29_10.toInt ≤ 8 from t43) (show 0 ≤ f28_29_11.toInt from r45) (show f28_29_11.toInt ≤ 4 from t46) (show 0 ≤ f28_29_9.toInt from r48) (show f28_29_9.toInt ≤ 12 from t49) (show (33 - x397.toInt).toNat < n28 by first | exact tn_lt hm28 (by omega) (by omega) | omega) hw hT hF c396 c392 c393 c394 hM (lv_sub hl [3, 4, 1, 0] rfl)
            · replace hM := hM.call (r' := 1) hv107 (by decide)
              have ex99 : x99.toInt = f28_29_10.toInt := by rw [← c108.symm.trans c100]
              refine lv_if_eq (tgt := 71) hx hb dX7_readFrom_59 (by decide) (fun c => absurd c (by decide)) (fun _ => ?_)
              replace hM := hM.neg (by decide)
              refine lv_aload_n hx hb dX7_readFrom_62 rfl (lv_at hl 2 rfl) ?_
              refine lv_aload_n hx hb dX7_readFrom_63 rfl (lv_at hl 2 rfl) ?_
              refine tk_geti hC hK hw hT hinX6 kC_at1 (by decide) rfl 3 (by decide) (List.mem_cons_of_mem _ uw_9_11) rfl rfl dX7_readFrom_64 (fun x398 c399 rx398 tx398 => ?_)
              replace hM := hM.rd (sI_at c399)
              refine lv_iconst (v := 4) hx hb dX7_readFrom_67 (by decide) ?_
              refine tk_Vv hC hK hw hT hA hE hSR kC_at1 (by decide) rfl (kz_X6_blame_1 l adK adV dC dI cy ad B hB0 (Int.le_trans hB1 (by decide)) qr s1   x398 (show 0 ≤ x398.toInt from rx398) (show x398.toInt ≤ 400 from tx398) 4 (by decide) (by decide) w68 H.size hT ) (cwV 2 hC.2.2.2.2 uV_RX7_73 rfl rfl rfl (by decide +kernel) ⟨Nat.le_of_ble_eq_true rfl, Nat.le_of_ble_eq_true rfl⟩) rfl hl.1 rfl (Nat.le_of_ble_eq_true rfl) dX7_readFrom_68 (fun w402 H locs hp401 hw => ?_)
              obtain ⟨hT, k403, hv407, hg406⟩ := hp401
              try simp only [show (4 : Int32).toInt = 4 by decide] at hv407
              have hF := hF.tr k403 (by decide)
              have c408 := k403.gi kC_at29 (by decide) c108
              have c409 := k403.gi kC_at29 (by decide) c109
              have c410 := k403.gi kC_at29 (by decide) c110
              have c411 := k403.gi kC_at1 (by decide) c399
              obtain ⟨x404, c405, rx404, tx404⟩ := hg406
              replace hM := hM.call hv407 rfl
              refine lv_aload_n hx hb dX7_readFrom_71 rfl (lv_at hl 1 rfl) ?_
              refine lv_aload_n hx hb dX7_readFrom_72 rfl (lv_at hl 2 rfl) ?_
              refine lv_iload hx hb dX7_readFrom_73 (lv_at hl 0 rfl) ?_
              obtain rfl : r53 = 2 := wk_eq.mpr (show r53.toInt = 2 by first | exact Int.le_antisymm (by omega) (by omega) | omega)
              try simp only [show (2 : Int32).toInt = 2 by decide] at hM
              refine tk_Vv hC hK hw hT hA hE hSR kC_at29 (by decide) rfl (kz_X7_readClause_7 l adK adV dC dI cy ad B hB0 (Int.le_trans hB1 (by decide)) qr s1    w402 H.size hT x404 c405 (show 1 ≤ x404.toInt by first | with_reducible assumption | omega) (show x404.toInt ≤ 3205 by first | with_reducible assumption | omega) (c408.trans (wk_eq.mpr (show f28_29_10.toInt = 8 by first | exact Int.le_antisymm (by omega) (by omega) | omega)))) (cwV 2 hC.2.2.2.2 uV_RX7_77 rfl rfl rfl (by decide +kernel) ⟨Nat.le_of_ble_eq_true rfl, Nat.le_of_ble_eq_true rfl⟩) rfl hl.1 rfl (Nat.le_of_ble_eq_true rfl) dX7_readFrom_75 (fun w414 H locs hp413 hw => ?_)
              obtain ⟨hT, k415, hv421, hg420⟩ := hp413
              have hF := hF.tr k415 (by decide)
              have c422 := k415.gi kC_at29 (by decide) c408
              have c423 := k415.gi kC_at29 (by decide) c409
              have c424 := k415.gi kC_at29 (by decide) c410
              have c425 := k415.gi kC_at1 (by decide) c411
              have c426 := k415.gi kC_at1 (by decide) c405
              obtain ⟨⟨x416, c417, rx416, tx416⟩, ⟨x418, c419, rx418, tx418⟩⟩ := hg420
              replace hM := hM.call hv421 rfl
              have ex416 : x416.toInt = x404.toInt := by rw [← c426.symm.trans c417]
              have ex418 : x418.toInt = f28_29_10.toInt := by rw [← c422.symm.trans c419]
              refine lv_aload_n hx hb dX7_readFrom_78 rfl (lv_at hl 2 rfl) ?_
              refine tk_Vi hC hK hw hT hA hE hSR kC_at1 (by decide) rfl (kz_X6_takeSemicolon_1 l adK adV dC dI cy ad B hB0 (Int.le_trans hB1 (by decide)) qr s1    w414 H.size hT x404 c426 (show 1 ≤ x404.toInt by first | with_reducible assumption | omega) (show x404.toInt ≤ 3205 by first | with_reducible assumption | omega)) (cwV 0 hC.2.2.2.2 uV_RX7_81 rfl rfl rfl (by decide +kernel) ⟨Nat.le_of_ble_eq_true rfl, Nat.le_of_ble_eq_true rfl⟩) rfl hl.1 rfl (Nat.le_of_ble_eq_true rfl) dX7_readFrom_79 (fun r427 w429 H locs hp428 hw => ?_)
              obtain ⟨hT, k430, hv434, hg433⟩ := hp428
              have hF := hF.tr k430 (by decide)
              have c435 := k430.gi kC_at29 (by decide) c422
              have c436 := k430.gi kC_at29 (by decide) c423
              have c437 := k430.gi kC_at29 (by decide) c424
              have c438 := k430.gi kC_at1 (by decide) c425
              have c439 := k430.gi kC_at1 (by decide) c426
              obtain ⟨rfl, ⟨x431, c432, rx431, tx431⟩⟩ := hg433
              replace hM := hM.call (r' := 0) hv434 (by decide)
              have ex431 : x431.toInt = x404.toInt := by rw [← c439.symm.trans c432]
              refine lv_istore_n (lv' := [(2, .int 0), (4, .int 2), (0, .ref (ad 29)), (1, .ref (ad 1)), (3, .int v28_3)]) hx hb dX7_readFrom_82 rfl hl (by decide) rfl (fun ls hl => ?_)
              obtain ⟨x440, ex440⟩ : ∃ y : Int32, y = v28_3 + Int32.ofInt 1 := ⟨_, rfl⟩
              have erx440 := ex440
              refine lv_iinc (v := x440) (lv' := [(3, .int x440), (2, .int 0), (4, .int 2), (0, .ref (ad 29)), (1, .ref (ad 1))]) hx hb dX7_readFrom_83 hl (k := 4) rfl ex440.symm (by decide) rfl (fun ls hl => ?_)
              have ex440 : x440.toInt = v28_3.toInt + 1 := by rw [ex440]; exact wk_add (y := 1) (show -2147483648 ≤ v28_3.toInt + 1 by omega) (show v28_3.toInt + 1 ≤ 2147483647 by omega)
              replace hM := hM.lt ex440.symm
              refine lv_goto (tgt := 28) hx hb dX7_readFrom_86 (by decide) ?_
              exact ih28 0 x440 x404 f28_29_10 f28_29_11 f28_29_9 H locs ls w429 (by decide) (by decide) (show 0 ≤ x440.toInt by first | with_reducible assumption | omega) (show x440.toInt ≤ 33 by first | with_reducible assumption | omega) (show 0 ≤ x404.toInt by first | with_reducible assumption | omega) (show x404.toInt ≤ 3205 by first | with_reducible assumption | omega) (show 0 ≤ f28_29_10.toInt from r42) (show f28_29_10.toInt ≤ 8 from t43) (show 0 ≤ f28_29_11.toInt from r45) (show f28_29_11.toInt ≤ 4 from t46) (show 0 ≤ f28_29_9.toInt from r48) (show f28_29_9.toInt ≤ 12 from t49) (show (33 - x440.toInt).toNat < n28 by first | exact tn_lt hm28 (by omega) (by omega) | omega) hw hT hF c439 c435 c436 c437 hM (lv_sub hl [3, 4, 1, 0] rfl)
            · replace hM := hM.call (r' := 1) hv107 (by decide)
              have ex104 : x104.toInt = f28_29_11.toInt := by rw [← c109.symm.trans c105]
              refine lv_if_eq (tgt := 71) hx hb dX7_readFrom_59 (by decide) (fun c => absurd c (by decide)) (fun _ => ?_)
              replace hM := hM.neg (by decide)
              refine lv_aload_n hx hb dX7_readFrom_62 rfl (lv_at hl 2 rfl) ?_
              refine lv_aload_n hx hb dX7_readFrom_63 rfl (lv_at hl 2 rfl) ?_
              refine tk_geti hC hK hw hT hinX6 kC_at1 (by decide) rfl 3 (by decide) (List.mem_cons_of_mem _ uw_9_11) rfl rfl dX7_readFrom_64 (fun x441 c442 rx441 tx441 => ?_)
              replace hM := hM.rd (sI_at c442)
              refine lv_iconst (v := 4) hx hb dX7_readFrom_67 (by decide) ?_
              refine tk_Vv hC hK hw hT hA hE hSR kC_at1 (by decide) rfl (kz_X6_blame_1 l adK adV dC dI cy ad B hB0 (Int.le_trans hB1 (by decide)) qr s1   x441 (show 0 ≤ x441.toInt from rx441) (show x441.toInt ≤ 400 from tx441) 4 (by decide) (by decide) w68 H.size hT ) (cwV 2 hC.2.2.2.2 uV_RX7_73 rfl rfl rfl (by decide +kernel) ⟨Nat.le_of_ble_eq_true rfl, Nat.le_of_ble_eq_true rfl⟩) rfl hl.1 rfl (Nat.le_of_ble_eq_true rfl) dX7_readFrom_68 (fun w445 H locs hp444 hw => ?_)
              obtain ⟨hT, k446, hv450, hg449⟩ := hp444
              try simp only [show (4 : Int32).toInt = 4 by decide] at hv450
              have hF := hF.tr k446 (by decide)
              have c451 := k446.gi kC_at29 (by decide) c108
              have c452 := k446.gi kC_at29 (by decide) c109
              have c453 := k446.gi kC_at29 (by decide) c110
              have c454 := k446.gi kC_at1 (by decide) c442
              obtain ⟨x447, c448, rx447, tx447⟩ := hg449
              replace hM := hM.call hv450 rfl
              refine lv_aload_n hx hb dX7_readFrom_71 rfl (lv_at hl 1 rfl) ?_
              refine lv_aload_n hx hb dX7_readFrom_72 rfl (lv_at hl 2 rfl) ?_
              refine lv_iload hx hb dX7_readFrom_73 (lv_at hl 0 rfl) ?_
              refine tk_Vv hC hK hw hT hA hE hSR kC_at29 (by decide) rfl (kz_X7_readClause_8 l adK adV dC dI cy ad B hB0 (Int.le_trans hB1 (by decide)) qr s1   r53 (show 3 ≤ r53.toInt by first | with_reducible assumption | omega) (show r53.toInt ≤ 26 by first | with_reducible assumption | omega) w445 H.size hT x447 c448 (show 1 ≤ x447.toInt by first | with_reducible assumption | omega) (show x447.toInt ≤ 3205 by first | with_reducible assumption | omega) (c452.trans (wk_eq.mpr (show f28_29_11.toInt = 4 by first | exact Int.le_antisymm (by omega) (by omega) | omega)))) (cwV 2 hC.2.2.2.2 uV_RX7_77 rfl rfl rfl (by decide +kernel) ⟨Nat.le_of_ble_eq_true rfl, Nat.le_of_ble_eq_true rfl⟩) rfl hl.1 rfl (Nat.le_of_ble_eq_true rfl) dX7_readFrom_75 (fun w457 H locs hp456 hw => ?_)
              obtain ⟨hT, k458, hv464, hg463⟩ := hp456
              have hF := hF.tr k458 (by decide)
              have c465 := k458.gi kC_at29 (by decide) c451
              have c466 := k458.gi kC_at29 (by decide) c452
              have c467 := k458.gi kC_at29 (by decide) c453
              have c468 := k458.gi kC_at1 (by decide) c454
              have c469 := k458.gi kC_at1 (by decide) c448
              obtain ⟨⟨x459, c460, rx459, tx459⟩, ⟨x461, c462, rx461, tx461⟩⟩ := hg463
              replace hM := hM.call hv464 rfl
              have ex459 : x459.toInt = x447.toInt := by rw [← c469.symm.trans c460]
              have ex461 : x461.toInt = f28_29_11.toInt := by rw [← c466.symm.trans c462]
              refine lv_aload_n hx hb dX7_readFrom_78 rfl (lv_at hl 2 rfl) ?_
              refine tk_Vi hC hK hw hT hA hE hSR kC_at1 (by decide) rfl (kz_X6_takeSemicolon_1 l adK adV dC dI cy ad B hB0 (Int.le_trans hB1 (by decide)) qr s1    w457 H.size hT x447 c469 (show 1 ≤ x447.toInt by first | with_reducible assumption | omega) (show x447.toInt ≤ 3205 by first | with_reducible assumption | omega)) (cwV 0 hC.2.2.2.2 uV_RX7_81 rfl rfl rfl (by decide +kernel) ⟨Nat.le_of_ble_eq_true rfl, Nat.le_of_ble_eq_true rfl⟩) rfl hl.1 rfl (Nat.le_of_ble_eq_true rfl) dX7_readFrom_79 (fun r470 w472 H locs hp471 hw => ?_)
              obtain ⟨hT, k473, hv477, hg476⟩ := hp471
              have hF := hF.tr k473 (by decide)
              have c478 := k473.gi kC_at29 (by decide) c465
              have c479 := k473.gi kC_at29 (by decide) c466
              have c480 := k473.gi kC_at29 (by decide) c467
              have c481 := k473.gi kC_at1 (by decide) c468
              have c482 := k473.gi kC_at1 (by decide) c469
              obtain ⟨rfl, ⟨x474, c475, rx474, tx474⟩⟩ := hg476
              replace hM := hM.call (r' := 0) hv477 (by decide)
              have ex474 : x474.toInt = x447.toInt := by rw [← c482.symm.trans c475]
              refine lv_istore_n (lv' := [(2, .int 0), (4, .int r53), (0, .ref (ad 29)), (1, .ref (ad 1)), (3, .int v28_3)]) hx hb dX7_readFrom_82 rfl hl (by decide) rfl (fun ls hl => ?_)
              obtain ⟨x483, ex483⟩ : ∃ y : Int32, y = v28_3 + Int32.ofInt 1 := ⟨_, rfl⟩
              have erx483 := ex483
              refine lv_iinc (v := x483) (lv' := [(3, .int x483), (2, .int 0), (4, .int r53), (0, .ref (ad 29)), (1, .ref (ad 1))]) hx hb dX7_readFrom_83 hl (k := 4) rfl ex483.symm (by decide) rfl (fun ls hl => ?_)
              have ex483 : x483.toInt = v28_3.toInt + 1 := by rw [ex483]; exact wk_add (y := 1) (show -2147483648 ≤ v28_3.toInt + 1 by omega) (show v28_3.toInt + 1 ≤ 2147483647 by omega)
              replace hM := hM.lt ex483.symm
              refine lv_goto (tgt := 28) hx hb dX7_readFrom_86 (by decide) ?_
              exact ih28 0 x483 x447 f28_29_10 f28_29_11 f28_29_9 H locs ls w472 (by decide) (by decide) (show 0 ≤ x483.toInt by first | with_reducible assumption | omega) (show x483.toInt ≤ 33 by first | with_reducible assumption | omega) (show 0 ≤ x447.toInt by first | with_reducible assumption | omega) (show x447.toInt ≤ 3205 by first | with_reducible assumption | omega) (show 0 ≤ f28_29_10.toInt from r42) (show f28_29_10.toInt ≤ 8 from t43) (show 0 ≤ f28_29_11.toInt from r45) (show f28_29_11.toInt ≤ 4 from t46) (show 0 ≤ f28_29_9.toInt from r48) (show f28_29_9.toInt ≤ 12 from t49) (show (33 - x483.toInt).toNat < n28 by first | exact tn_lt hm28 (by omega) (by omega) | omega) hw hT hF c482 c478 c479 c480 hM (lv_sub hl [3, 4, 1, 0] rfl)
          · replace hM := hM.call (r' := (-1)) hv62 (by decide)
            refine lv_istore (lv' := [(4, .int (-1)), (0, .ref (ad 29)), (1, .ref (ad 1)), (2, .int v28_2), (3, .int v28_3)]) hx hb dX7_readFrom_44 hl (by decide) rfl (fun ls hl => ?_)
            refine lv_iload hx hb dX7_readFrom_46 (lv_at hl 0 rfl) ?_
            refine lv_iconst (v := (-1)) hx hb dX7_readFrom_48 (by decide) ?_
            refine lv_icmp_eq (tgt := 71) hx hb dX7_readFrom_49 (by decide) (fun _ => ?_) (fun c => absurd (by decide) c)
            replace hM := hM.pos (by decide)
            refine lv_aload_n hx hb dX7_readFrom_71 rfl (lv_at hl 1 rfl) ?_
            refine lv_aload_n hx hb dX7_readFrom_72 rfl (lv_at hl 2 rfl) ?_
            refine lv_iload hx hb dX7_readFrom_73 (lv_at hl 0 rfl) ?_
            refine tk_Vv hC hK hw hT hA hE hSR kC_at29 (by decide) rfl (kz_X7_readClause_9 l adK adV dC dI cy ad B hB0 (Int.le_trans hB1 (by decide)) qr s1    w55 H.size hT x59 c60 (show 1 ≤ x59.toInt by first | with_reducible assumption | omega) (show x59.toInt ≤ 3205 by first | with_reducible assumption | omega)) (cwV 2 hC.2.2.2.2 uV_RX7_77 rfl rfl rfl (by decide +kernel) ⟨Nat.le_of_ble_eq_true rfl, Nat.le_of_ble_eq_true rfl⟩) rfl hl.1 rfl (Nat.le_of_ble_eq_true rfl) dX7_readFrom_75 (fun w486 H locs hp485 hw => ?_)
            obtain ⟨hT, k487, hv491, hg490⟩ := hp485
            have hF := hF.tr k487 (by decide)
            have c492 := k487.gi kC_at29 (by decide) c63
            have c493 := k487.gi kC_at29 (by decide) c64
            have c494 := k487.gi kC_at29 (by decide) c65
            have c495 := k487.gi kC_at1 (by decide) c60
            obtain ⟨x488, c489, rx488, tx488⟩ := hg490
            replace hM := hM.call hv491 rfl
            have ex488 : x488.toInt = x59.toInt := by rw [← c495.symm.trans c489]
            refine lv_aload_n hx hb dX7_readFrom_78 rfl (lv_at hl 2 rfl) ?_
            refine tk_Vi hC hK hw hT hA hE hSR kC_at1 (by decide) rfl (kz_X6_takeSemicolon_1 l adK adV dC dI cy ad B hB0 (Int.le_trans hB1 (by decide)) qr s1    w486 H.size hT x59 c495 (show 1 ≤ x59.toInt by first | with_reducible assumption | omega) (show x59.toInt ≤ 3205 by first | with_reducible assumption | omega)) (cwV 0 hC.2.2.2.2 uV_RX7_81 rfl rfl rfl (by decide +kernel) ⟨Nat.le_of_ble_eq_true rfl, Nat.le_of_ble_eq_true rfl⟩) rfl hl.1 rfl (Nat.le_of_ble_eq_true rfl) dX7_readFrom_79 (fun r496 w498 H locs hp497 hw => ?_)
            obtain ⟨hT, k499, hv503, hg502⟩ := hp497
            have hF := hF.tr k499 (by decide)
            have c504 := k499.gi kC_at29 (by decide) c492
            have c505 := k499.gi kC_at29 (by decide) c493
            have c506 := k499.gi kC_at29 (by decide) c494
            have c507 := k499.gi kC_at1 (by decide) c495
            obtain ⟨rfl, ⟨x500, c501, rx500, tx500⟩⟩ := hg502
            replace hM := hM.call (r' := 0) hv503 (by decide)
            have ex500 : x500.toInt = x59.toInt := by rw [← c507.symm.trans c501]
            refine lv_istore_n (lv' := [(2, .int 0), (4, .int (-1)), (0, .ref (ad 29)), (1, .ref (ad 1)), (3, .int v28_3)]) hx hb dX7_readFrom_82 rfl hl (by decide) rfl (fun ls hl => ?_)
            obtain ⟨x508, ex508⟩ : ∃ y : Int32, y = v28_3 + Int32.ofInt 1 := ⟨_, rfl⟩
            have erx508 := ex508
            refine lv_iinc (v := x508) (lv' := [(3, .int x508), (2, .int 0), (4, .int (-1)), (0, .ref (ad 29)), (1, .ref (ad 1))]) hx hb dX7_readFrom_83 hl (k := 4) rfl ex508.symm (by decide) rfl (fun ls hl => ?_)
            have ex508 : x508.toInt = v28_3.toInt + 1 := by rw [ex508]; exact wk_add (y := 1) (show -2147483648 ≤ v28_3.toInt + 1 by omega) (show v28_3.toInt + 1 ≤ 2147483647 by omega)
            replace hM := hM.lt ex508.symm
            refine lv_goto (tgt := 28) hx hb dX7_readFrom_86 (by decide) ?_
            exact ih28 0 x508 x59 f28_29_10 f28_29_11 f28_29_9 H locs ls w498 (by decide) (by decide) (show 0 ≤ x508.toInt by first | with_reducible assumption | omega) (show x508.toInt ≤ 33 by first | with_reducible assumption | omega) (show 0 ≤ x59.toInt by first | with_reducible assumption | omega) (show x59.toInt ≤ 3205 by first | with_reducible assumption | omega) (show 0 ≤ f28_29_10.toInt from r42) (show f28_29_10.toInt ≤ 8 from t43) (show 0 ≤ f28_29_11.toInt from r45) (show f28_29_11.toInt ≤ 4 from t46) (show 0 ≤ f28_29_9.toInt from r48) (show f28_29_9.toInt ≤ 12 from t49) (show (33 - x508.toInt).toNat < n28 by first | exact tn_lt hm28 (by omega) (by omega) | omega) hw hT hF c507 c504 c505 c506 hM (lv_sub hl [3, 4, 1, 0] rfl)
  have hM : TT (fun n => m_X7_readFrom n 29 1 (sI w0)) (fun n => m_X7_readFrom n 29 1 (sI w0)) := TT.rf
  refine lv_aload_n hx hb dX7_readFrom_0 rfl (lv_at hl 0 rfl) ?_
  refine lv_iconst (v := 0) hx hb dX7_readFrom_1 (by decide) ?_
  refine tk_puti hC hK hw hT hinX7 tyX7_ok nmX7 kC_at29 (by decide) rfl rfl 8 (by decide) (List.mem_cons_of_mem _ uw_9_7) rfl rfl rfl rfl (by decide) (by decide) dX7_readFrom_2 (fun H locs w509 hw hT k511 c510 => ?_)
  replace hM := hM.wr (sI_upc k511 c510 (by decide))
  have hF := hF.put kC_at29 (k := 8) (by decide) k511
  refine lv_aload_n hx hb dX7_readFrom_5 rfl (lv_at hl 0 rfl) ?_
  refine lv_iconst (v := 0) hx hb dX7_readFrom_6 (by decide) ?_
  refine tk_puti hC hK hw hT hinX7 tyX7_ok nmX7 kC_at29 (by decide) rfl rfl 9 (by decide) (List.mem_cons_of_mem _ uw_9_8) rfl rfl rfl rfl (by decide) (by decide) dX7_readFrom_7 (fun H locs w512 hw hT k514 c513 => ?_)
  replace hM := hM.wr (sI_upc k514 c513 (by decide))
  have hF := hF.put kC_at29 (k := 9) (by decide) k514
  have c515 := k514.gi (Or.inr (by decide)) c510
  refine lv_aload_n hx hb dX7_readFrom_10 rfl (lv_at hl 0 rfl) ?_
  refine lv_iconst (v := 0) hx hb dX7_readFrom_11 (by decide) ?_
  refine tk_puti hC hK hw hT hinX7 tyX7_ok nmX7 kC_at29 (by decide) rfl rfl 10 (by decide) (List.mem_cons_of_mem _ uw_9_9) rfl rfl rfl rfl (by decide) (by decide) dX7_readFrom_12 (fun H locs w516 hw hT k518 c517 => ?_)
  replace hM := hM.wr (sI_upc k518 c517 (by decide))
  have hF := hF.put kC_at29 (k := 10) (by decide) k518
  have c519 := k518.gi (Or.inr (by decide)) c515
  have c520 := k518.gi (Or.inr (by decide)) c513
  refine lv_aload_n hx hb dX7_readFrom_15 rfl (lv_at hl 0 rfl) ?_
  refine lv_iconst (v := 0) hx hb dX7_readFrom_16 (by decide) ?_
  refine tk_puti hC hK hw hT hinX7 tyX7_ok nmX7 kC_at29 (by decide) rfl rfl 11 (by decide) (List.mem_cons_of_mem _ uw_9_10) rfl rfl rfl rfl (by decide) (by decide) dX7_readFrom_17 (fun H locs w521 hw hT k523 c522 => ?_)
  replace hM := hM.wr (sI_upc k523 c522 (by decide))
  have hF := hF.put kC_at29 (k := 11) (by decide) k523
  have c524 := k523.gi (Or.inr (by decide)) c519
  have c525 := k523.gi (Or.inr (by decide)) c520
  have c526 := k523.gi (Or.inr (by decide)) c517
  refine lv_aload_n hx hb dX7_readFrom_20 rfl (lv_at hl 1 rfl) ?_
  refine tk_Vv hC hK hw hT hA hE hSR kC_at1 (by decide) rfl (kz_X6_startReading_1 l adK adV dC dI cy ad B hB0 (Int.le_trans hB1 (by decide)) qr s1    w521 H.size hT ) (cwV 0 hC.2.2.2.2 uV_RX7_55 rfl rfl rfl (by decide +kernel) ⟨Nat.le_of_ble_eq_true rfl, Nat.le_of_ble_eq_true rfl⟩) rfl hl.1 rfl (Nat.le_of_ble_eq_true rfl) dX7_readFrom_21 (fun w529 H locs hp528 hw => ?_)
  obtain ⟨hT, k530, hv538, hg537⟩ := hp528
  have hF := hF.tr k530 (by decide)
  have c539 := k530.gi kC_at29 (by decide) c524
  have c540 := k530.gi kC_at29 (by decide) c525
  have c541 := k530.gi kC_at29 (by decide) c526
  have c542 := k530.gi kC_at29 (by decide) c522
  obtain ⟨⟨x531, c532, rx531, tx531⟩, ⟨x533, c534, rx533, tx533⟩, ⟨x535, c536, rx535, tx535⟩⟩ := hg537
  replace hM := hM.call hv538 rfl
  refine lv_iconst (v := 1) hx hb dX7_readFrom_24 (by decide) ?_
  refine lv_istore_n (lv' := [(2, .int 1), (0, .ref (ad 29)), (1, .ref (ad 1))]) hx hb dX7_readFrom_25 rfl hl (by decide) rfl (fun ls hl => ?_)
  refine lv_iconst (v := 0) hx hb dX7_readFrom_26 (by decide) ?_
  refine lv_istore_n (lv' := [(3, .int 0), (2, .int 1), (0, .ref (ad 29)), (1, .ref (ad 1))]) hx hb dX7_readFrom_27 rfl hl (by decide) rfl (fun ls hl => ?_)
  exact L28 ((33 - (0 : Int)).toNat + 1) 1 0 x535 0 0 0 H locs ls w529 (by decide) (by decide) (by decide) (by decide) (show 0 ≤ x535.toInt by first | with_reducible assumption | omega) (show x535.toInt ≤ 3205 by first | with_reducible assumption | omega) (by decide) (by decide) (by decide) (by decide) (by decide) (by decide) (Nat.lt_succ_self _) hw hT hF c536 c541 c542 c540 hM (lv_sub hl [2, 3, 1, 0] rfl)
abbrev Pz_X7_copyFrom_1 (ad : Nat → Nat) (cy : Nat → ClassId) (B : Int) (qr : Nat) (s1 : Int)  (w0 : va_W) : va_W → Prop := fun u => TW ksC ad cy B qr s1 u ∧ FE ksC [(7, 8, 8), (7, 9, 9), (7, 10, 10), (7, 11, 11), (24, 0, 100000), (25, 0, 100000), (26, 0, 100000), (27, 0, 100000), (28, 0, 100000), (29, 0, 100000), (30, 0, 100000), (31, 0, 100000)] w0 u ∧ Ev (fun n => m_X7_copyFrom n 39 29 (sI w0)) (0, sI u) ∧ (((∃ y : Int32, gi u 29 9 = y ∧ 0 ≤ y.toInt ∧ y.toInt ≤ 12) ∧ (∃ y : Int32, gi u 29 10 = y ∧ 0 ≤ y.toInt ∧ y.toInt ≤ 8) ∧ (∃ y : Int32, gi u 29 11 = y ∧ 0 ≤ y.toInt ∧ y.toInt ≤ 4)))
set_option maxHeartbeats 4000000 in
set_option maxRecDepth 100000 in
theorem kz_X7_copyFrom_1 (l : Launch) (adK adV : Nat → Nat) (dC : Nat → ClassId) (dI : Nat → Nat → Nat) (cy : Nat → ClassId) (ad : Nat → Nat) (B : Int) (hB0 : 2147483648 ≤ B) (hB1 : B ≤ 1152921504606846976) (qr : Nat) (s1 : Int)   (w0 : va_W) (sz : Nat) (hT : TW ksC ad cy B qr s1 w0)  : Met l yX7_copyFrom (wu yX7_copyFrom cX7_copyFrom 2 none) ({ frames := 1, cells := 0, slots := 0, locals := 60 }) (va_Pc [.ref (ad 39), .ref (ad 29)] (wpreS adK adV dC dI cy sz w0)) (va_Qv (Pz_X7_copyFrom_1 ad cy B qr s1  w0) (fun u : va_W => wpost dC dI cy (va_A w0 sz) u) (va_A w0 sz)) 0 0 (va_A w0 sz) := by
  refine Met.ofW (cc := cX7_copyFrom) (maxL := 2) (ret := none) (by decide) rfl ?_
  intro p e s m args below meth c s₁ Bk hml hv
  obtain ⟨rfl, ⟨hsz, hP, hK, hD0⟩, hE, hSR⟩ := hv
  have hx := Bk.exec
  have hb := Bk.bytes
  have hr := Bk.returns
  have hlocks := Bk.notSynchronized
  have hC : CallFix p m c cX7_copyFrom 2 s _ (wu yX7_copyFrom cX7_copyFrom 2 none) RX7 := ⟨hx, hb, hml, findClass_of_methodNamed Bk.named, atoms_spec (ws := (wu yX7_copyFrom cX7_copyFrom 2 none)) Bk.pre⟩
  subst hsz
  have hD := hD0.self (sz := s.heap.size)
  generalize hAe : va_A w0 s.heap.size = A at hD hE ⊢
  have hA : ∀ q : Nat, s.heap.size ≤ q → A q := fun q h => by rw [← hAe]; exact Or.inr h
  have hw : Wd dC dI A s.heap s.heap [] w0 := ⟨hP, hD, va_S.rf⟩
  have hF : FE ksC [(7, 8, 8), (7, 9, 9), (7, 10, 10), (7, 11, 11), (24, 0, 100000), (25, 0, 100000), (26, 0, 100000), (27, 0, 100000), (28, 0, 100000), (29, 0, 100000), (30, 0, 100000), (31, 0, 100000)] w0 w0 := FE.rf
  have hl := lv_entry ([.ref (ad 39), .ref (ad 29)]) (n := 2) (Nat.le_of_ble_eq_true rfl)
  rw [lg_entry_eq]
  generalize (lg_sl ([.ref (ad 39), .ref (ad 29)]) ++ List.replicate (2 - (lg_sl ([.ref (ad 39), .ref (ad 29)])).length) Slot.unset).toArray = ls at hl ⊢
  have hl : lv_has ls 2 [(0, .ref (ad 39)), (1, .ref (ad 29))] := hl
  generalize hloc : ([] : List Loc) = locs at hw ⊢
  have hinX7 : ∀ w ∈ u_ws RX7 TX7 12, w ∈ (wu yX7_copyFrom cX7_copyFrom 2 none) := fun _ h => List.mem_cons_of_mem _ (up_73 h)
  have hM : TT (fun n => m_X7_copyFrom n 39 29 (sI w0)) (fun n => m_X7_copyFrom n 39 29 (sI w0)) := TT.rf
  refine lv_aload_n hx hb dX7_copyFrom_0 rfl (lv_at hl 1 rfl) ?_
  refine tk_getO hC hK hw hT hinX7 kC_at29 (by decide) rfl 0 (by decide) (List.mem_cons_of_mem _ uw_2_17) rfl rfl dX7_copyFrom_1 ?_
  refine lv_iconst (v := 0) hx hb dX7_copyFrom_4 (by decide) ?_
  refine lv_aload_n hx hb dX7_copyFrom_5 rfl (lv_at hl 0 rfl) ?_
  refine tk_getO hC hK hw hT hinX7 kC_at39 (by decide) rfl 0 (by decide) (List.mem_cons_of_mem _ uw_2_17) rfl rfl dX7_copyFrom_6 ?_
  refine lv_iconst (v := 0) hx hb dX7_copyFrom_9 (by decide) ?_
  refine lv_aload_n hx hb dX7_copyFrom_10 rfl (lv_at hl 0 rfl) ?_
  refine tk_getO hC hK hw hT hinX7 kC_at39 (by decide) rfl 0 (by decide) (List.mem_cons_of_mem _ uw_2_17) rfl rfl dX7_copyFrom_11 ?_
  refine tk_alen (v := 26) hC hK hw hT kC_at40 rfl (by decide) rfl (by decide) dX7_copyFrom_14 ?_
  refine tk_copyx hC hK hw hT hl.1 (List.mem_cons_of_mem _ uw_18_19) (List.mem_cons_of_mem _ uw_18_20) (List.mem_cons_of_mem _ uw_18_21) (List.mem_cons_of_mem _ uw_18_22) kC_at30 kC_at40 (by decide) rfl rfl rfl rfl (by decide) (by decide) rfl rfl (by decide) (by decide) (by decide) (by decide) (by decide) (by decide) (Nat.le_of_ble_eq_true rfl) (by decide +kernel) dX7_copyFrom_15 (fun H locs w1 hw hT k2 hcp => ?_)
  replace hM := hM.cp hcp
  have hF := hF.tr k2 (by decide)
  refine lv_aload_n hx hb dX7_copyFrom_18 rfl (lv_at hl 1 rfl) ?_
  refine tk_getO hC hK hw hT hinX7 kC_at29 (by decide) rfl 1 (by decide) (List.mem_cons_of_mem _ uw_2_18) rfl rfl dX7_copyFrom_19 ?_
  refine lv_iconst (v := 0) hx hb dX7_copyFrom_22 (by decide) ?_
  refine lv_aload_n hx hb dX7_copyFrom_23 rfl (lv_at hl 0 rfl) ?_
  refine tk_getO hC hK hw hT hinX7 kC_at39 (by decide) rfl 1 (by decide) (List.mem_cons_of_mem _ uw_2_18) rfl rfl dX7_copyFrom_24 ?_
  refine lv_iconst (v := 0) hx hb dX7_copyFrom_27 (by decide) ?_
  refine lv_aload_n hx hb dX7_copyFrom_28 rfl (lv_at hl 0 rfl) ?_
  refine tk_getO hC hK hw hT hinX7 kC_at39 (by decide) rfl 1 (by decide) (List.mem_cons_of_mem _ uw_2_18) rfl rfl dX7_copyFrom_29 ?_
  refine tk_alen (v := 13) hC hK hw hT kC_at41 rfl (by decide) rfl (by decide) dX7_copyFrom_32 ?_
  refine tk_copyx hC hK hw hT hl.1 (List.mem_cons_of_mem _ uw_18_19) (List.mem_cons_of_mem _ uw_18_20) (List.mem_cons_of_mem _ uw_18_21) (List.mem_cons_of_mem _ uw_18_22) kC_at31 kC_at41 (by decide) rfl rfl rfl rfl (by decide) (by decide) rfl rfl (by decide) (by decide) (by decide) (by decide) (by decide) (by decide) (Nat.le_of_ble_eq_true rfl) (by decide +kernel) dX7_copyFrom_33 (fun H locs w3 hw hT k4 hcp => ?_)
  replace hM := hM.cp hcp
  have hF := hF.tr k4 (by decide)
  refine lv_aload_n hx hb dX7_copyFrom_36 rfl (lv_at hl 1 rfl) ?_
  refine tk_getO hC hK hw hT hinX7 kC_at29 (by decide) rfl 2 (by decide) (List.mem_cons_of_mem _ uw_2_19) rfl rfl dX7_copyFrom_37 ?_
  refine lv_iconst (v := 0) hx hb dX7_copyFrom_40 (by decide) ?_
  refine lv_aload_n hx hb dX7_copyFrom_41 rfl (lv_at hl 0 rfl) ?_
  refine tk_getO hC hK hw hT hinX7 kC_at39 (by decide) rfl 2 (by decide) (List.mem_cons_of_mem _ uw_2_19) rfl rfl dX7_copyFrom_42 ?_
  refine lv_iconst (v := 0) hx hb dX7_copyFrom_45 (by decide) ?_
  refine lv_aload_n hx hb dX7_copyFrom_46 rfl (lv_at hl 0 rfl) ?_
  refine tk_getO hC hK hw hT hinX7 kC_at39 (by decide) rfl 2 (by decide) (List.mem_cons_of_mem _ uw_2_19) rfl rfl dX7_copyFrom_47 ?_
  refine tk_alen (v := 91) hC hK hw hT kC_at42 rfl (by decide) rfl (by decide) dX7_copyFrom_50 ?_
  refine tk_copyx hC hK hw hT hl.1 (List.mem_cons_of_mem _ uw_18_19) (List.mem_cons_of_mem _ uw_18_20) (List.mem_cons_of_mem _ uw_18_21) (List.mem_cons_of_mem _ uw_18_22) kC_at32 kC_at42 (by decide) rfl rfl rfl rfl (by decide) (by decide) rfl rfl (by decide) (by decide) (by decide) (by decide) (by decide) (by decide) (Nat.le_of_ble_eq_true rfl) (by decide +kernel) dX7_copyFrom_51 (fun H locs w5 hw hT k6 hcp => ?_)
  replace hM := hM.cp hcp
  have hF := hF.tr k6 (by decide)
  refine lv_aload_n hx hb dX7_copyFrom_54 rfl (lv_at hl 1 rfl) ?_
  refine tk_getO hC hK hw hT hinX7 kC_at29 (by decide) rfl 3 (by decide) (List.mem_cons_of_mem _ uw_2_20) rfl rfl dX7_copyFrom_55 ?_
  refine lv_iconst (v := 0) hx hb dX7_copyFrom_58 (by decide) ?_
  refine lv_aload_n hx hb dX7_copyFrom_59 rfl (lv_at hl 0 rfl) ?_
  refine tk_getO hC hK hw hT hinX7 kC_at39 (by decide) rfl 3 (by decide) (List.mem_cons_of_mem _ uw_2_20) rfl rfl dX7_copyFrom_60 ?_
  refine lv_iconst (v := 0) hx hb dX7_copyFrom_63 (by decide) ?_
  refine lv_aload_n hx hb dX7_copyFrom_64 rfl (lv_at hl 0 rfl) ?_
  refine tk_getO hC hK hw hT hinX7 kC_at39 (by decide) rfl 3 (by decide) (List.mem_cons_of_mem _ uw_2_20) rfl rfl dX7_copyFrom_65 ?_
  refine tk_alen (v := 13) hC hK hw hT kC_at43 rfl (by decide) rfl (by decide) dX7_copyFrom_68 ?_
  refine tk_copyx hC hK hw hT hl.1 (List.mem_cons_of_mem _ uw_18_19) (List.mem_cons_of_mem _ uw_18_20) (List.mem_cons_of_mem _ uw_18_21) (List.mem_cons_of_mem _ uw_18_22) kC_at33 kC_at43 (by decide) rfl rfl rfl rfl (by decide) (by decide) rfl rfl (by decide) (by decide) (by decide) (by decide) (by decide) (by decide) (Nat.le_of_ble_eq_true rfl) (by decide +kernel) dX7_copyFrom_69 (fun H locs w7 hw hT k8 hcp => ?_)
  replace hM := hM.cp hcp
  have hF := hF.tr k8 (by decide)
  refine lv_aload_n hx hb dX7_copyFrom_72 rfl (lv_at hl 1 rfl) ?_
  refine tk_getO hC hK hw hT hinX7 kC_at29 (by decide) rfl 4 (by decide) (List.mem_cons_of_mem _ uw_2_21) rfl rfl dX7_copyFrom_73 ?_
  refine lv_iconst (v := 0) hx hb dX7_copyFrom_76 (by decide) ?_
  refine lv_aload_n hx hb dX7_copyFrom_77 rfl (lv_at hl 0 rfl) ?_
  refine tk_getO hC hK hw hT hinX7 kC_at39 (by decide) rfl 4 (by decide) (List.mem_cons_of_mem _ uw_2_21) rfl rfl dX7_copyFrom_78 ?_
  refine lv_iconst (v := 0) hx hb dX7_copyFrom_81 (by decide) ?_
  refine lv_aload_n hx hb dX7_copyFrom_82 rfl (lv_at hl 0 rfl) ?_
  refine tk_getO hC hK hw hT hinX7 kC_at39 (by decide) rfl 4 (by decide) (List.mem_cons_of_mem _ uw_2_21) rfl rfl dX7_copyFrom_83 ?_
  refine tk_alen (v := 26) hC hK hw hT kC_at44 rfl (by decide) rfl (by decide) dX7_copyFrom_86 ?_
  refine tk_copyx hC hK hw hT hl.1 (List.mem_cons_of_mem _ uw_18_19) (List.mem_cons_of_mem _ uw_18_20) (List.mem_cons_of_mem _ uw_18_21) (List.mem_cons_of_mem _ uw_18_22) kC_at34 kC_at44 (by decide) rfl rfl rfl rfl (by decide) (by decide) rfl rfl (by decide) (by decide) (by decide) (by decide) (by decide) (by decide) (Nat.le_of_ble_eq_true rfl) (by decide +kernel) dX7_copyFrom_87 (fun H locs w9 hw hT k10 hcp => ?_)
  replace hM := hM.cp hcp
  have hF := hF.tr k10 (by decide)
  refine lv_aload_n hx hb dX7_copyFrom_90 rfl (lv_at hl 1 rfl) ?_
  refine tk_getO hC hK hw hT hinX7 kC_at29 (by decide) rfl 5 (by decide) (List.mem_cons_of_mem _ uw_2_22) rfl rfl dX7_copyFrom_91 ?_
  refine lv_iconst (v := 0) hx hb dX7_copyFrom_94 (by decide) ?_
  refine lv_aload_n hx hb dX7_copyFrom_95 rfl (lv_at hl 0 rfl) ?_
  refine tk_getO hC hK hw hT hinX7 kC_at39 (by decide) rfl 5 (by decide) (List.mem_cons_of_mem _ uw_2_22) rfl rfl dX7_copyFrom_96 ?_
  refine lv_iconst (v := 0) hx hb dX7_copyFrom_99 (by decide) ?_
  refine lv_aload_n hx hb dX7_copyFrom_100 rfl (lv_at hl 0 rfl) ?_
  refine tk_getO hC hK hw hT hinX7 kC_at39 (by decide) rfl 5 (by decide) (List.mem_cons_of_mem _ uw_2_22) rfl rfl dX7_copyFrom_101 ?_
  refine tk_alen (v := 8) hC hK hw hT kC_at45 rfl (by decide) rfl (by decide) dX7_copyFrom_104 ?_
  refine tk_copyx hC hK hw hT hl.1 (List.mem_cons_of_mem _ uw_18_19) (List.mem_cons_of_mem _ uw_18_20) (List.mem_cons_of_mem _ uw_18_21) (List.mem_cons_of_mem _ uw_18_22) kC_at35 kC_at45 (by decide) rfl rfl rfl rfl (by decide) (by decide) rfl rfl (by decide) (by decide) (by decide) (by decide) (by decide) (by decide) (Nat.le_of_ble_eq_true rfl) (by decide +kernel) dX7_copyFrom_105 (fun H locs w11 hw hT k12 hcp => ?_)
  replace hM := hM.cp hcp
  have hF := hF.tr k12 (by decide)
  refine lv_aload_n hx hb dX7_copyFrom_108 rfl (lv_at hl 1 rfl) ?_
  refine tk_getO hC hK hw hT hinX7 kC_at29 (by decide) rfl 6 (by decide) (List.mem_cons_of_mem _ uw_2_23) rfl rfl dX7_copyFrom_109 ?_
  refine lv_iconst (v := 0) hx hb dX7_copyFrom_112 (by decide) ?_
  refine lv_aload_n hx hb dX7_copyFrom_113 rfl (lv_at hl 0 rfl) ?_
  refine tk_getO hC hK hw hT hinX7 kC_at39 (by decide) rfl 6 (by decide) (List.mem_cons_of_mem _ uw_2_23) rfl rfl dX7_copyFrom_114 ?_
  refine lv_iconst (v := 0) hx hb dX7_copyFrom_117 (by decide) ?_
  refine lv_aload_n hx hb dX7_copyFrom_118 rfl (lv_at hl 0 rfl) ?_
  refine tk_getO hC hK hw hT hinX7 kC_at39 (by decide) rfl 6 (by decide) (List.mem_cons_of_mem _ uw_2_23) rfl rfl dX7_copyFrom_119 ?_
  refine tk_alen (v := 8) hC hK hw hT kC_at46 rfl (by decide) rfl (by decide) dX7_copyFrom_122 ?_
  refine tk_copyx hC hK hw hT hl.1 (List.mem_cons_of_mem _ uw_18_19) (List.mem_cons_of_mem _ uw_18_20) (List.mem_cons_of_mem _ uw_18_21) (List.mem_cons_of_mem _ uw_18_22) kC_at36 kC_at46 (by decide) rfl rfl rfl rfl (by decide) (by decide) rfl rfl (by decide) (by decide) (by decide) (by decide) (by decide) (by decide) (Nat.le_of_ble_eq_true rfl) (by decide +kernel) dX7_copyFrom_123 (fun H locs w13 hw hT k14 hcp => ?_)
  replace hM := hM.cp hcp
  have hF := hF.tr k14 (by decide)
  refine lv_aload_n hx hb dX7_copyFrom_126 rfl (lv_at hl 1 rfl) ?_
  refine tk_getO hC hK hw hT hinX7 kC_at29 (by decide) rfl 7 (by decide) (List.mem_cons_of_mem _ uw_3_0) rfl rfl dX7_copyFrom_127 ?_
  refine lv_iconst (v := 0) hx hb dX7_copyFrom_130 (by decide) ?_
  refine lv_aload_n hx hb dX7_copyFrom_131 rfl (lv_at hl 0 rfl) ?_
  refine tk_getO hC hK hw hT hinX7 kC_at39 (by decide) rfl 7 (by decide) (List.mem_cons_of_mem _ uw_3_0) rfl rfl dX7_copyFrom_132 ?_
  refine lv_iconst (v := 0) hx hb dX7_copyFrom_135 (by decide) ?_
  refine lv_aload_n hx hb dX7_copyFrom_136 rfl (lv_at hl 0 rfl) ?_
  refine tk_getO hC hK hw hT hinX7 kC_at39 (by decide) rfl 7 (by decide) (List.mem_cons_of_mem _ uw_3_0) rfl rfl dX7_copyFrom_137 ?_
  refine tk_alen (v := 13) hC hK hw hT kC_at47 rfl (by decide) rfl (by decide) dX7_copyFrom_140 ?_
  refine tk_copyx hC hK hw hT hl.1 (List.mem_cons_of_mem _ uw_18_19) (List.mem_cons_of_mem _ uw_18_20) (List.mem_cons_of_mem _ uw_18_21) (List.mem_cons_of_mem _ uw_18_22) kC_at37 kC_at47 (by decide) rfl rfl rfl rfl (by decide) (by decide) rfl rfl (by decide) (by decide) (by decide) (by decide) (by decide) (by decide) (Nat.le_of_ble_eq_true rfl) (by decide +kernel) dX7_copyFrom_141 (fun H locs w15 hw hT k16 hcp => ?_)
  replace hM := hM.cp hcp
  have hF := hF.tr k16 (by decide)
  refine lv_aload_n hx hb dX7_copyFrom_144 rfl (lv_at hl 0 rfl) ?_
  refine lv_aload_n hx hb dX7_copyFrom_145 rfl (lv_at hl 1 rfl) ?_
  refine tk_geti hC hK hw hT hinX7 kC_at29 (by decide) rfl 8 (by decide) (List.mem_cons_of_mem _ uw_9_7) rfl rfl dX7_copyFrom_146 (fun x17 c18 rx17 tx17 => ?_)
  replace hM := hM.rd (sI_at c18)
  refine tk_puti hC hK hw hT hinX7 tyX7_ok nmX7 kC_at39 (by decide) rfl rfl 8 (by decide) (List.mem_cons_of_mem _ uw_9_7) rfl rfl rfl rfl (show (-1) ≤ x17.toInt from rx17) (show x17.toInt ≤ 10 from tx17) dX7_copyFrom_149 (fun H locs w19 hw hT k21 c20 => ?_)
  replace hM := hM.wr (sI_up k21 c20)
  have hF := hF.put kC_at39 (k := 8) (by decide) k21
  have c22 := k21.gi (Or.inl (by decide)) c18
  refine lv_aload_n hx hb dX7_copyFrom_152 rfl (lv_at hl 0 rfl) ?_
  refine lv_aload_n hx hb dX7_copyFrom_153 rfl (lv_at hl 1 rfl) ?_
  refine tk_geti hC hK hw hT hinX7 kC_at29 (by decide) rfl 9 (by decide) (List.mem_cons_of_mem _ uw_9_8) rfl rfl dX7_copyFrom_154 (fun x23 c24 rx23 tx23 => ?_)
  replace hM := hM.rd (sI_at c24)
  refine tk_puti hC hK hw hT hinX7 tyX7_ok nmX7 kC_at39 (by decide) rfl rfl 9 (by decide) (List.mem_cons_of_mem _ uw_9_8) rfl rfl rfl rfl (show 0 ≤ x23.toInt from rx23) (show x23.toInt ≤ 12 from tx23) dX7_copyFrom_157 (fun H locs w25 hw hT k27 c26 => ?_)
  replace hM := hM.wr (sI_up k27 c26)
  have hF := hF.put kC_at39 (k := 9) (by decide) k27
  have c28 := k27.gi (Or.inr (by decide)) c22
  have c29 := k27.gi (Or.inr (by decide)) c20
  have c30 := k27.gi (Or.inl (by decide)) c24
  refine lv_aload_n hx hb dX7_copyFrom_160 rfl (lv_at hl 0 rfl) ?_
  refine lv_aload_n hx hb dX7_copyFrom_161 rfl (lv_at hl 1 rfl) ?_
  refine tk_geti hC hK hw hT hinX7 kC_at29 (by decide) rfl 10 (by decide) (List.mem_cons_of_mem _ uw_9_9) rfl rfl dX7_copyFrom_162 (fun x31 c32 rx31 tx31 => ?_)
  replace hM := hM.rd (sI_at c32)
  refine tk_puti hC hK hw hT hinX7 tyX7_ok nmX7 kC_at39 (by decide) rfl rfl 10 (by decide) (List.mem_cons_of_mem _ uw_9_9) rfl rfl rfl rfl (show 0 ≤ x31.toInt from rx31) (show x31.toInt ≤ 8 from tx31) dX7_copyFrom_165 (fun H locs w33 hw hT k35 c34 => ?_)
  replace hM := hM.wr (sI_up k35 c34)
  have hF := hF.put kC_at39 (k := 10) (by decide) k35
  have c36 := k35.gi (Or.inr (by decide)) c28
  have c37 := k35.gi (Or.inr (by decide)) c29
  have c38 := k35.gi (Or.inr (by decide)) c30
  have c39 := k35.gi (Or.inr (by decide)) c26
  have c40 := k35.gi (Or.inl (by decide)) c32
  refine lv_aload_n hx hb dX7_copyFrom_168 rfl (lv_at hl 0 rfl) ?_
  refine lv_aload_n hx hb dX7_copyFrom_169 rfl (lv_at hl 1 rfl) ?_
  refine tk_geti hC hK hw hT hinX7 kC_at29 (by decide) rfl 11 (by decide) (List.mem_cons_of_mem _ uw_9_10) rfl rfl dX7_copyFrom_170 (fun x41 c42 rx41 tx41 => ?_)
  replace hM := hM.rd (sI_at c42)
  refine tk_puti hC hK hw hT hinX7 tyX7_ok nmX7 kC_at39 (by decide) rfl rfl 11 (by decide) (List.mem_cons_of_mem _ uw_9_10) rfl rfl rfl rfl (show 0 ≤ x41.toInt from rx41) (show x41.toInt ≤ 4 from tx41) dX7_copyFrom_173 (fun H locs w43 hw hT k45 c44 => ?_)
  replace hM := hM.wr (sI_up k45 c44)
  have hF := hF.put kC_at39 (k := 11) (by decide) k45
  have c46 := k45.gi (Or.inr (by decide)) c36
  have c47 := k45.gi (Or.inr (by decide)) c37
  have c48 := k45.gi (Or.inr (by decide)) c38
  have c49 := k45.gi (Or.inr (by decide)) c39
  have c50 := k45.gi (Or.inr (by decide)) c40
  have c51 := k45.gi (Or.inr (by decide)) c34
  have c52 := k45.gi (Or.inl (by decide)) c42
  exact tk_vret hC hr hlocks hK ⟨hT, hF, hM.ret rfl, ⟨⟨x23, c48, (show 0 ≤ x23.toInt from rx23), (show x23.toInt ≤ 12 from tx23)⟩, ⟨x31, c50, (show 0 ≤ x31.toInt from rx31), (show x31.toInt ≤ 8 from tx31)⟩, ⟨x41, c52, (show 0 ≤ x41.toInt from rx41), (show x41.toInt ≤ 4 from tx41)⟩⟩⟩ hw dX7_copyFrom_176
