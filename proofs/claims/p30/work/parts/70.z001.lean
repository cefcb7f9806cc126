abbrev Pz_X6_isDigit_1 (ad : Nat → Nat) (cy : Nat → ClassId) (B : Int) (qr : Nat) (s1 : Int) (a0 : Int32) (w0 : va_W) : Int32 → va_W → Prop := fun r u => TW ksC ad cy B qr s1 u ∧ FE ksC ([] : List (Nat × Nat × Nat)) w0 u ∧ Ev (fun n => m_X6_isDigit n a0.toInt (sI w0)) (r.toInt, sI u) ∧ ((r = 0) ∨ (r = 1 ∧ 48 ≤ a0.toInt ∧ a0.toInt ≤ 57))
set_option maxHeartbeats 4000000 in
set_option maxRecDepth 100000 in
theorem kz_X6_isDigit_1 (l : Launch) (adK adV : Nat → Nat) (dC : Nat → ClassId) (dI : Nat → Nat → Nat) (cy : Nat → ClassId) (ad : Nat → Nat) (B : Int) (hB0 : 2147483648 ≤ B) (hB1 : B ≤ 1152921504606846976) (qr : Nat) (s1 : Int)  (a0 : Int32) (ra0 : 0 ≤ a0.toInt) (ta0 : a0.toInt ≤ 255) (w0 : va_W) (sz : Nat) (hT : TW ksC ad cy B qr s1 w0)  : Met l yX6_isDigit (wu yX6_isDigit cX6_isDigit 1 (some .boolean)) ({ frames := 1, cells := 0, slots := 0, locals := 12 }) (va_Pc [.int a0] (wpreS adK adV dC dI cy sz w0)) (va_Qi (Pz_X6_isDigit_1 ad cy B qr s1 a0 w0) (fun u : va_W => wpost dC dI cy (va_A w0 sz) u) (va_A w0 sz)) 0 0 (va_A w0 sz) := by
  refine Met.ofW (cc := cX6_isDigit) (maxL := 1) (ret := (some .boolean)) (by decide) rfl ?_
  intro p e s m args below meth c s₁ Bk hml hv
  obtain ⟨rfl, ⟨hsz, hP, hK, hD0⟩, hE, hSR⟩ := hv
  have hx := Bk.exec
  have hb := Bk.bytes
  have hr := Bk.returns
  have hlocks := Bk.notSynchronized
  have hC : CallFix p m c cX6_isDigit 1 s _ (wu yX6_isDigit cX6_isDigit 1 (some .boolean)) RX6 := ⟨hx, hb, hml, findClass_of_methodNamed Bk.named, atoms_spec (ws := (wu yX6_isDigit cX6_isDigit 1 (some .boolean))) Bk.pre⟩
  subst hsz
  have hD := hD0.self (sz := s.heap.size)
  generalize hAe : va_A w0 s.heap.size = A at hD hE ⊢
  have hA : ∀ q : Nat, s.heap.size ≤ q → A q := fun q h => by rw [← hAe]; exact Or.inr h
  have hw : Wd dC dI A s.heap s.heap [] w0 := ⟨hP, hD, va_S.rf⟩
  have hF : FE ksC ([] : List (Nat × Nat × Nat)) w0 w0 := FE.rf
  have hl := lv_entry ([.int a0]) (n := 1) (Nat.le_of_ble_eq_true rfl)
  rw [lg_entry_eq]
  generalize (lg_sl ([.int a0]) ++ List.replicate (1 - (lg_sl ([.int a0])).length) Slot.unset).toArray = ls at hl ⊢
  have hl : lv_has ls 1 [(0, .int a0)] := hl
  generalize hloc : ([] : List Loc) = locs at hw ⊢
  have J16 : ∀ (H : Heap) (locs : List Loc) (ls : Array Slot) (w1 : va_W), 0 ≤ a0.toInt → a0.toInt ≤ 255 → Wd dC dI A s.heap H locs w1 → TW ksC ad cy B qr s1 w1 → FE ksC ([] : List (Nat × Nat × Nat)) w0 w1 → TT (fun n => m_X6_isDigit n a0.toInt (sI w0)) (fun n => b_X6_isDigit_16 n (sI w1)) → lv_has ls 1 [(0, .int a0)] → W p l e ({ frames := 1, cells := 0, slots := 0, locals := 12 }) s m (List.toArray [.int a0]) below meth c H locs 0 0 (MQ below (va_Qi (Pz_X6_isDigit_1 ad cy B qr s1 a0 w0) (fun u : va_W => wpost dC dI cy A u) A) (List.toArray [.int a0]) s 0 0 A) (F0 m 16 ls []) := by
    intro H locs ls w1 r2 t3 hw hT hF hM hl
    refine lv_iconst (v := 0) hx hb dX6_isDigit_16 (by decide) ?_
    exact tk_zret hC hr rfl hlocks hK ⟨hT, hF, hM.ret (by decide), (Or.inl rfl)⟩ hw dX6_isDigit_17
  have hM : TT (fun n => m_X6_isDigit n a0.toInt (sI w0)) (fun n => m_X6_isDigit n a0.toInt (sI w0)) := TT.rf
  refine lv_iload_n hx hb dX6_isDigit_0 rfl (lv_at hl 0 rfl) ?_
  refine lv_bipush (v := 48) hx hb dX6_isDigit_1 (by decide) ?_
  refine lv_icmp_lt (tgt := 16) hx hb dX6_isDigit_3 (by decide) (fun c4 => ?_) (fun c4 => ?_)
  · have c4 : a0.toInt < (48 : Int) := wk_lt.mp c4
    replace hM := hM.pos c4
    exact J16  s.heap locs ls w0 (show 0 ≤ a0.toInt from ra0) (show a0.toInt ≤ 255 from ta0)  hw hT hF hM (lv_sub hl [0] rfl)
  · have c4 : (48 : Int) ≤ a0.toInt := wk_ltF c4
    replace hM := hM.neg (Int.not_lt.mpr c4)
    refine lv_iload_n hx hb dX6_isDigit_6 rfl (lv_at hl 0 rfl) ?_
    refine lv_bipush (v := 57) hx hb dX6_isDigit_7 (by decide) ?_
    refine lv_icmp_gt (tgt := 16) hx hb dX6_isDigit_9 (by decide) (fun c5 => ?_) (fun c5 => ?_)
    · have c5 : (57 : Int) < a0.toInt := wk_lt.mp c5
      replace hM := hM.pos c5
      exact J16  s.heap locs ls w0 (show 0 ≤ a0.toInt from ra0) (show a0.toInt ≤ 255 from ta0)  hw hT hF hM (lv_sub hl [0] rfl)
    · have c5 : a0.toInt ≤ (57 : Int) := wk_ltF c5
      replace hM := hM.neg (Int.not_lt.mpr c5)
      refine lv_iconst (v := 1) hx hb dX6_isDigit_12 (by decide) ?_
      refine lv_goto (tgt := 17) hx hb dX6_isDigit_13 (by decide) ?_
      exact tk_zret hC hr rfl hlocks hK ⟨hT, hF, hM.ret (by decide), (Or.inr ⟨rfl, (show 48 ≤ a0.toInt by first | with_reducible assumption | omega), (show a0.toInt ≤ 57 by first | with_reducible assumption | omega)⟩)⟩ hw dX6_isDigit_17
abbrev Pz_X6_isFaulty_2 (ad : Nat → Nat) (cy : Nat → ClassId) (B : Int) (qr : Nat) (s1 : Int)  (w0 : va_W) : Int32 → va_W → Prop := fun r u => TW ksC ad cy B qr s1 u ∧ FE ksC ([] : List (Nat × Nat × Nat)) w0 u ∧ Ev (fun n => m_X6_isFaulty n 1 (sI w0)) (r.toInt, sI u) ∧ ((r = 0 ∧ (∃ y : Int32, gi u 1 4 = y ∧ 0 ≤ y.toInt ∧ y.toInt ≤ 0)))
set_option maxHeartbeats 4000000 in
set_option maxRecDepth 100000 in
theorem kz_X6_isFaulty_2 (l : Launch) (adK adV : Nat → Nat) (dC : Nat → ClassId) (dI : Nat → Nat → Nat) (cy : Nat → ClassId) (ad : Nat → Nat) (B : Int) (hB0 : 2147483648 ≤ B) (hB1 : B ≤ 1152921504606846976) (qr : Nat) (s1 : Int)   (w0 : va_W) (sz : Nat) (hT : TW ksC ad cy B qr s1 w0) (cf0_ : gi w0 1 4 = 0) : Met l yX6_isFaulty (wu yX6_isFaulty cX6_isFaulty 1 (some .boolean)) ({ frames := 1, cells := 0, slots := 0, locals := 12 }) (va_Pc [.ref (ad 1)] (wpreS adK adV dC dI cy sz w0)) (va_Qi (Pz_X6_isFaulty_2 ad cy B qr s1  w0) (fun u : va_W => wpost dC dI cy (va_A w0 sz) u) (va_A w0 sz)) 0 0 (va_A w0 sz) := by
  refine Met.ofW (cc := cX6_isFaulty) (maxL := 1) (ret := (some .boolean)) (by decide) rfl ?_
  intro p e s m args below meth c s₁ Bk hml hv
  obtain ⟨rfl, ⟨hsz, hP, hK, hD0⟩, hE, hSR⟩ := hv
  have hx := Bk.exec
  have hb := Bk.bytes
  have hr := Bk.returns
  have hlocks := Bk.notSynchronized
  have hC : CallFix p m c cX6_isFaulty 1 s _ (wu yX6_isFaulty cX6_isFaulty 1 (some .boolean)) RX6 := ⟨hx, hb, hml, findClass_of_methodNamed Bk.named, atoms_spec (ws := (wu yX6_isFaulty cX6_isFaulty 1 (some .boolean))) Bk.pre⟩
  subst hsz
  have hD := hD0.self (sz := s.heap.size)
  generalize hAe : va_A w0 s.heap.size = A at hD hE ⊢
  have hA : ∀ q : Nat, s.heap.size ≤ q → A q := fun q h => by rw [← hAe]; exact Or.inr h
  have hw : Wd dC dI A s.heap s.heap [] w0 := ⟨hP, hD, va_S.rf⟩
  have hF : FE ksC ([] : List (Nat × Nat × Nat)) w0 w0 := FE.rf
  have hl := lv_entry ([.ref (ad 1)]) (n := 1) (Nat.le_of_ble_eq_true rfl)
  rw [lg_entry_eq]
  generalize (lg_sl ([.ref (ad 1)]) ++ List.replicate (1 - (lg_sl ([.ref (ad 1)])).length) Slot.unset).toArray = ls at hl ⊢
  have hl : lv_has ls 1 [(0, .ref (ad 1))] := hl
  generalize hloc : ([] : List Loc) = locs at hw ⊢
  have hinX6 : ∀ w ∈ u_ws RX6 TX6 5, w ∈ (wu yX6_isFaulty cX6_isFaulty 1 (some .boolean)) := fun _ h => List.mem_cons_of_mem _ (up_72 h)
  have hM : TT (fun n => m_X6_isFaulty n 1 (sI w0)) (fun n => m_X6_isFaulty n 1 (sI w0)) := TT.rf
  refine lv_aload_n hx hb dX6_isFaulty_0 rfl (lv_at hl 0 rfl) ?_
  refine tk_geti hC hK hw hT hinX6 kC_at1 (by decide) rfl 4 (by decide) (List.mem_cons_of_mem _ uw_9_18) rfl rfl dX6_isFaulty_1 (fun x1 c2 rx1 tx1 => ?_)
  refine wk_top 0 (c2.symm.trans cf0_) ?_
  replace hM := hM.rd (v := 0) ((sI_at cf0_).trans (by decide))
  refine lv_if_eq (tgt := 11) hx hb dX6_isFaulty_4 (by decide) (fun _ => ?_) (fun c => absurd (by decide) c)
  replace hM := hM.pos (by decide)
  refine lv_iconst (v := 0) hx hb dX6_isFaulty_11 (by decide) ?_
  exact tk_zret hC hr rfl hlocks hK ⟨hT, hF, hM.ret (by decide), ⟨rfl, ⟨0, cf0_, (by decide), (by decide)⟩⟩⟩ hw dX6_isFaulty_12
abbrev Pz_X6_isDigit_2 (ad : Nat → Nat) (cy : Nat → ClassId) (B : Int) (qr : Nat) (s1 : Int)  (w0 : va_W) : Int32 → va_W → Prop := fun r u => TW ksC ad cy B qr s1 u ∧ FE ksC ([] : List (Nat × Nat × Nat)) w0 u ∧ Ev (fun n => m_X6_isDigit n (-1) (sI w0)) (r.toInt, sI u) ∧ ((r = 0))
set_option maxHeartbeats 4000000 in
set_option maxRecDepth 100000 in
theorem kz_X6_isDigit_2 (l : Launch) (adK adV : Nat → Nat) (dC : Nat → ClassId) (dI : Nat → Nat → Nat) (cy : Nat → ClassId) (ad : Nat → Nat) (B : Int) (hB0 : 2147483648 ≤ B) (hB1 : B ≤ 1152921504606846976) (qr : Nat) (s1 : Int)   (w0 : va_W) (sz : Nat) (hT : TW ksC ad cy B qr s1 w0)  : Met l yX6_isDigit (wu yX6_isDigit cX6_isDigit 1 (some .boolean)) ({ frames := 1, cells := 0, slots := 0, locals := 12 }) (va_Pc [.int (-1)] (wpreS adK adV dC dI cy sz w0)) (va_Qi (Pz_X6_isDigit_2 ad cy B qr s1  w0) (fun u : va_W => wpost dC dI cy (va_A w0 sz) u) (va_A w0 sz)) 0 0 (va_A w0 sz) := by
  refine Met.ofW (cc := cX6_isDigit) (maxL := 1) (ret := (some .boolean)) (by decide) rfl ?_
  intro p e s m args below meth c s₁ Bk hml hv
  obtain ⟨rfl, ⟨hsz, hP, hK, hD0⟩, hE, hSR⟩ := hv
  have hx := Bk.exec
  have hb := Bk.bytes
  have hr := Bk.returns
  have hlocks := Bk.notSynchronized
  have hC : CallFix p m c cX6_isDigit 1 s _ (wu yX6_isDigit cX6_isDigit 1 (some .boolean)) RX6 := ⟨hx, hb, hml, findClass_of_methodNamed Bk.named, atoms_spec (ws := (wu yX6_isDigit cX6_isDigit 1 (some .boolean))) Bk.pre⟩
  subst hsz
  have hD := hD0.self (sz := s.heap.size)
  generalize hAe : va_A w0 s.heap.size = A at hD hE ⊢
  have hA : ∀ q : Nat, s.heap.size ≤ q → A q := fun q h => by rw [← hAe]; exact Or.inr h
  have hw : Wd dC dI A s.heap s.heap [] w0 := ⟨hP, hD, va_S.rf⟩
  have hF : FE ksC ([] : List (Nat × Nat × Nat)) w0 w0 := FE.rf
  have hl := lv_entry ([.int (-1)]) (n := 1) (Nat.le_of_ble_eq_true rfl)
  rw [lg_entry_eq]
  generalize (lg_sl ([.int (-1)]) ++ List.replicate (1 - (lg_sl ([.int (-1)])).length) Slot.unset).toArray = ls at hl ⊢
  have hl : lv_has ls 1 [(0, .int (-1))] := hl
  generalize hloc : ([] : List Loc) = locs at hw ⊢
  have J16 : ∀ (H : Heap) (locs : List Loc) (ls : Array Slot) (w1 : va_W), Wd dC dI A s.heap H locs w1 → TW ksC ad cy B qr s1 w1 → FE ksC ([] : List (Nat × Nat × Nat)) w0 w1 → TT (fun n => m_X6_isDigit n (-1) (sI w0)) (fun n => b_X6_isDigit_16 n (sI w1)) → lv_has ls 1 [(0, .int (-1))] → W p l e ({ frames := 1, cells := 0, slots := 0, locals := 12 }) s m (List.toArray [.int (-1)]) below meth c H locs 0 0 (MQ below (va_Qi (Pz_X6_isDigit_2 ad cy B qr s1  w0) (fun u : va_W => wpost dC dI cy A u) A) (List.toArray [.int (-1)]) s 0 0 A) (F0 m 16 ls []) := by
    intro H locs ls w1 hw hT hF hM hl
    refine lv_iconst (v := 0) hx hb dX6_isDigit_16 (by decide) ?_
    exact tk_zret hC hr rfl hlocks hK ⟨hT, hF, hM.ret (by decide), rfl⟩ hw dX6_isDigit_17
  have hM : TT (fun n => m_X6_isDigit n (-1) (sI w0)) (fun n => m_X6_isDigit n (-1) (sI w0)) := TT.rf
  refine lv_iload_n hx hb dX6_isDigit_0 rfl (lv_at hl 0 rfl) ?_
  refine lv_bipush (v := 48) hx hb dX6_isDigit_1 (by decide) ?_
  refine lv_icmp_lt (tgt := 16) hx hb dX6_isDigit_3 (by decide) (fun _ => ?_) (fun c => absurd (by decide) c)
  replace hM := hM.pos (by decide)
  exact J16  s.heap locs ls w0   hw hT hF hM (lv_sub hl [0] rfl)
abbrev Pz_X6_readNumber_1 (ad : Nat → Nat) (cy : Nat → ClassId) (B : Int) (qr : Nat) (s1 : Int)  (w0 : va_W) : Int32 → va_W → Prop := fun r u => TW ksC ad cy B qr s1 u ∧ FE ksC [(6, 1, 1), (6, 3, 3), (6, 4, 4)] w0 u ∧ Ev (fun n => m_X6_readNumber n 1 2 10 (sI w0)) (r.toInt, sI u) ∧ ((2 ≤ r.toInt ∧ r.toInt ≤ 10 ∧ (∃ y : Int32, gi u 1 2 = y ∧ 1 ≤ y.toInt ∧ y.toInt ≤ 400) ∧ (∃ y : Int32, gi u 1 3 = y ∧ 0 ≤ y.toInt ∧ y.toInt ≤ 399) ∧ (∃ y : Int32, gi u 1 4 = y ∧ 0 ≤ y.toInt ∧ y.toInt ≤ 0)) ∨ (r = (-1) ∧ (∃ y : Int32, gi u 1 4 = y ∧ 1 ≤ y.toInt ∧ y.toInt ≤ 3205)))
set_option maxHeartbeats 4000000 in
set_option maxRecDepth 100000 in
theorem kz_X6_readNumber_1 (l : Launch) (adK adV : Nat → Nat) (dC : Nat → ClassId) (dI : Nat → Nat → Nat) (cy : Nat → ClassId) (ad : Nat → Nat) (B : Int) (hB0 : 2147483648 ≤ B) (hB1 : B ≤ 1152921504606846976) (qr : Nat) (s1 : Int)   (w0 : va_W) (sz : Nat) (hT : TW ksC ad cy B qr s1 w0) (cf0_ : gi w0 1 4 = 0) : Met l yX6_readNumber (wu yX6_readNumber cX6_readNumber 4 (some .int)) ({ frames := 2, cells := 0, slots := 0, locals := 34 }) (va_Pc [.ref (ad 1), .int 2, .int 10] (wpreS adK adV dC dI cy sz w0)) (va_Qi (Pz_X6_readNumber_1 ad cy B qr s1  w0) (fun u : va_W => wpost dC dI cy (va_A w0 sz) u) (va_A w0 sz)) 0 0 (va_A w0 sz) := by
  refine Met.ofW (cc := cX6_readNumber) (maxL := 4) (ret := (some .int)) (by decide) rfl ?_
  intro p e s m args below meth c s₁ Bk hml hv
  obtain ⟨rfl, ⟨hsz, hP, hK, hD0⟩, hE, hSR⟩ := hv
  have hx := Bk.exec
  have hb := Bk.bytes
  have hr := Bk.returns
  have hlocks := Bk.notSynchronized
  have hC : CallFix p m c cX6_readNumber 4 s _ (wu yX6_readNumber cX6_readNumber 4 (some .int)) RX6 := ⟨hx, hb, hml, findClass_of_methodNamed Bk.named, atoms_spec (ws := (wu yX6_readNumber cX6_readNumber 4 (some .int))) Bk.pre⟩
  subst hsz
  have hD := hD0.self (sz := s.heap.size)
  generalize hAe : va_A w0 s.heap.size = A at hD hE ⊢
  have hA : ∀ q : Nat, s.heap.size ≤ q → A q := fun q h => by rw [← hAe]; exact Or.inr h
  have hw : Wd dC dI A s.heap s.heap [] w0 := ⟨hP, hD, va_S.rf⟩
  have hF : FE ksC [(6, 1, 1), (6, 3, 3), (6, 4, 4)] w0 w0 := FE.rf
  have hl := lv_entry ([.ref (ad 1), .int 2, .int 10]) (n := 4) (Nat.le_of_ble_eq_true rfl)
  rw [lg_entry_eq]
  generalize (lg_sl ([.ref (ad 1), .int 2, .int 10]) ++ List.replicate (4 - (lg_sl ([.ref (ad 1), .int 2, .int 10])).length) Slot.unset).toArray = ls at hl ⊢
  have hl : lv_has ls 4 [(0, .ref (ad 1)), (1, .int 2), (2, .int 10)] := hl
  generalize hloc : ([] : List Loc) = locs at hw ⊢
  have hinX6 : ∀ w ∈ u_ws RX6 TX6 5, w ∈ (wu yX6_readNumber cX6_readNumber 4 (some .int)) := fun _ h => List.mem_cons_of_mem _ (up_72 h)
  have J125 : ∀ (v125_3 : Int32) (f125_1_1 : Int32) (f125_1_2 : Int32) (f125_1_3 : Int32) (H : Heap) (locs : List Loc) (ls : Array Slot) (w1 : va_W), 0 ≤ f125_1_1.toInt → f125_1_1.toInt ≤ 400 → 1 ≤ f125_1_2.toInt → f125_1_2.toInt ≤ 400 → 0 ≤ f125_1_3.toInt → f125_1_3.toInt ≤ 399 → Wd dC dI A s.heap H locs w1 → TW ksC ad cy B qr s1 w1 → FE ksC [(6, 1, 1), (6, 3, 3), (6, 4, 4)] w0 w1 → gi w1 1 1 = f125_1_1 → gi w1 1 2 = f125_1_2 → gi w1 1 3 = f125_1_3 → gi w1 1 4 = 0 → TT (fun n => m_X6_readNumber n 1 2 10 (sI w0)) (fun n => b_X6_readNumber_125 (j_X6_readNumber 1 n) n 1 (sI w1)) → lv_has ls 4 [(0, .ref (ad 1)), (1, .int 2), (2, .int 10), (3, .int v125_3)] → W p l e ({ frames := 2, cells := 0, slots := 0, locals := 34 }) s m (List.toArray [.ref (ad 1), .int 2, .int 10]) below meth c H locs 0 0 (MQ below (va_Qi (Pz_X6_readNumber_1 ad cy B qr s1  w0) (fun u : va_W => wpost dC dI cy A u) A) (List.toArray [.ref (ad 1), .int 2, .int 10]) s 0 0 A) (F0 m 125 ls []) := by
    intro v125_3 f125_1_1 f125_1_2 f125_1_3 H locs ls w1 r2 t3 r5 t6 r8 t9 hw hT hF c4 c7 c10 c11 hM hl
    refine lv_aload_n hx hb dX6_readNumber_125 rfl (lv_at hl 0 rfl) ?_
    refine lv_aload_n hx hb dX6_readNumber_126 rfl (lv_at hl 0 rfl) ?_
    refine tk_geti hC hK hw hT hinX6 kC_at1 (by decide) rfl 3 (by decide) (List.mem_cons_of_mem _ uw_9_17) rfl rfl dX6_readNumber_127 (fun x12 c13 rx12 tx12 => ?_)
    refine wk_top f125_1_3 (c13.symm.trans c10) ?_
    replace hM := hM.rd (sI_at c10)
    refine lv_iconst (v := 1) hx hb dX6_readNumber_130 (by decide) ?_
    refine tk_Vv hC hK hw hT hA hE hSR kC_at1 (by decide) rfl (kz_X6_blame_2 l adK adV dC dI cy ad B hB0 (Int.le_trans hB1 (by decide)) qr s1   f125_1_3 (show 0 ≤ f125_1_3.toInt from r8) (show f125_1_3.toInt ≤ 400 from Int.le_trans t9 (by decide)) 1 (by decide) (by decide) w1 H.size hT c11) (cwV 2 hC.2.2.2.2 uV_RX6_35 rfl rfl rfl (by decide +kernel) ⟨Nat.le_of_ble_eq_true rfl, Nat.le_of_ble_eq_true rfl⟩) rfl hl.1 rfl (Nat.le_of_ble_eq_true rfl) dX6_readNumber_131 (fun w16 H locs hp15 hw => ?_)
    obtain ⟨hT, k17, hv21, hg20⟩ := hp15
    try simp only [show (1 : Int32).toInt = 1 by decide] at hv21
    have hF := hF.tr k17 (by decide)
    have c22 := k17.gi kC_at1 (by decide) c4
    have c23 := k17.gi kC_at1 (by decide) c7
    have c24 := k17.gi kC_at1 (by decide) c10
    obtain ⟨x18, c19, rx18, tx18⟩ := hg20
    replace hM := hM.call hv21 rfl
    refine lv_iconst (v := (-1)) hx hb dX6_readNumber_134 (by decide) ?_
    exact tk_iret hC hr hlocks hK ⟨hT, hF, hM.ret (by decide), (Or.inr ⟨rfl, ⟨x18, c19, (show 1 ≤ x18.toInt by first | with_reducible assumption | omega), (show x18.toInt ≤ 3205 by first | with_reducible assumption | omega)⟩⟩)⟩ hw dX6_readNumber_135
  have J102 : ∀ (v102_3 : Int32) (f102_1_1 : Int32) (f102_1_2 : Int32) (f102_1_3 : Int32) (H : Heap) (locs : List Loc) (ls : Array Slot) (w25 : va_W), 0 ≤ f102_1_1.toInt → f102_1_1.toInt ≤ 400 → 1 ≤ f102_1_2.toInt → f102_1_2.toInt ≤ 400 → 0 ≤ f102_1_3.toInt → f102_1_3.toInt ≤ 399 → Wd dC dI A s.heap H locs w25 → TW ksC ad cy B qr s1 w25 → FE ksC [(6, 1, 1), (6, 3, 3), (6, 4, 4)] w0 w25 → gi w25 1 1 = f102_1_1 → gi w25 1 2 = f102_1_2 → gi w25 1 3 = f102_1_3 → gi w25 1 4 = 0 → TT (fun n => m_X6_readNumber n 1 2 10 (sI w0)) (fun n => b_X6_readNumber_102 (j_X6_readNumber 1 n) n 1 (2 : Int) (10 : Int) (v102_3.toInt) (sI w25)) → lv_has ls 4 [(0, .ref (ad 1)), (1, .int 2), (2, .int 10), (3, .int v102_3)] → W p l e ({ frames := 2, cells := 0, slots := 0, locals := 34 }) s m (List.toArray [.ref (ad 1), .int 2, .int 10]) below meth c H locs 0 0 (MQ below (va_Qi (Pz_X6_readNumber_1 ad cy B qr s1  w0) (fun u : va_W => wpost dC dI cy A u) A) (List.toArray [.ref (ad 1), .int 2, .int 10]) s 0 0 A) (F0 m 102 ls []) := by
    intro v102_3 f102_1_1 f102_1_2 f102_1_3 H locs ls w25 r26 t27 r29 t30 r32 t33 hw hT hF c28 c31 c34 c35 hM hl
    refine lv_aload_n hx hb dX6_readNumber_102 rfl (lv_at hl 0 rfl) ?_
    refine tk_geti hC hK hw hT hinX6 kC_at1 (by decide) rfl 1 (by decide) (List.mem_cons_of_mem _ uw_9_16) rfl rfl dX6_readNumber_103 (fun x36 c37 rx36 tx36 => ?_)
    refine wk_top f102_1_1 (c37.symm.trans c28) ?_
    replace hM := hM.rd (sI_at c28)
    refine lv_aload_n hx hb dX6_readNumber_106 rfl (lv_at hl 0 rfl) ?_
    refine tk_geti hC hK hw hT hinX6 kC_at1 (by decide) rfl 3 (by decide) (List.mem_cons_of_mem _ uw_9_17) rfl rfl dX6_readNumber_107 (fun x38 c39 rx38 tx38 => ?_)
    refine wk_top f102_1_3 (c39.symm.trans c34) ?_
    replace hM := hM.rd (sI_at c34)
    refine lv_isub hx hb dX6_readNumber_110 ?_
    refine lv_topi (fun x40 ex40 => ?_)
    have ezx40 := ex40
    have ex40 : x40.toInt = f102_1_1.toInt - f102_1_3.toInt := by rw [ex40]; exact wk_sub (show (-2147483648) ≤ f102_1_1.toInt - f102_1_3.toInt by omega) (show f102_1_1.toInt - f102_1_3.toInt ≤ 2147483647 by omega)
    replace hM := hM.lt ex40.symm
    refine lv_iconst (v := 5) hx hb dX6_readNumber_111 (by decide) ?_
    refine lv_icmp_gt (tgt := 125) hx hb dX6_readNumber_112 (by decide) (fun c41 => ?_) (fun c41 => ?_)
    · have c41 : (5 : Int) < x40.toInt := wk_lt.mp c41
      replace hM := hM.pos c41
      exact J125 v102_3 f102_1_1 f102_1_2 f102_1_3 H locs ls w25 (show 0 ≤ f102_1_1.toInt from r26) (show f102_1_1.toInt ≤ 400 from t27) (show 1 ≤ f102_1_2.toInt from r29) (show f102_1_2.toInt ≤ 400 from t30) (show 0 ≤ f102_1_3.toInt from r32) (show f102_1_3.toInt ≤ 399 from t33)  hw hT hF c28 c31 c34 c35 hM (lv_sub hl [0, 1, 2, 3] rfl)
    · have c41 : x40.toInt ≤ (5 : Int) := wk_ltF c41
      replace hM := hM.neg (Int.not_lt.mpr c41)
      refine lv_iload_n hx hb dX6_readNumber_115 rfl (lv_at hl 3 rfl) ?_
      refine lv_iload_n hx hb dX6_readNumber_116 rfl (lv_at hl 1 rfl) ?_
      refine lv_icmp_lt (tgt := 125) hx hb dX6_readNumber_117 (by decide) (fun c42 => ?_) (fun c42 => ?_)
      · have c42 : v102_3.toInt < (2 : Int) := wk_lt.mp c42
        replace hM := hM.pos c42
        exact J125 v102_3 f102_1_1 f102_1_2 f102_1_3 H locs ls w25 (show 0 ≤ f102_1_1.toInt from r26) (show f102_1_1.toInt ≤ 400 from t27) (show 1 ≤ f102_1_2.toInt from r29) (show f102_1_2.toInt ≤ 400 from t30) (show 0 ≤ f102_1_3.toInt from r32) (show f102_1_3.toInt ≤ 399 from t33)  hw hT hF c28 c31 c34 c35 hM (lv_sub hl [0, 1, 2, 3] rfl)
      · have c42 : (2 : Int) ≤ v102_3.toInt := wk_ltF c42
        replace hM := hM.neg (Int.not_lt.mpr c42)
        refine lv_iload_n hx hb dX6_readNumber_120 rfl (lv_at hl 3 rfl) ?_
        refine lv_iload_n hx hb dX6_readNumber_121 rfl (lv_at hl 2 rfl) ?_
        refine lv_icmp_le (tgt := 136) hx hb dX6_readNumber_122 (by decide) (fun c43 => ?_) (fun c43 => ?_)
        · have c43 : v102_3.toInt ≤ (10 : Int) := wk_le.mp c43
          replace hM := hM.pos c43
          refine lv_iload_n hx hb dX6_readNumber_136 rfl (lv_at hl 3 rfl) ?_
          exact tk_iret hC hr hlocks hK ⟨hT, hF, hM.ret rfl, (Or.inl ⟨(show 2 ≤ v102_3.toInt by first | with_reducible assumption | omega), (show v102_3.toInt ≤ 10 by first | with_reducible assumption | omega), ⟨f102_1_2, c31, (show 1 ≤ f102_1_2.toInt from r29), (show f102_1_2.toInt ≤ 400 from t30)⟩, ⟨f102_1_3, c34, (show 0 ≤ f102_1_3.toInt from r32), (show f102_1_3.toInt ≤ 399 from t33)⟩, ⟨0, c35, (by decide), (by decide)⟩⟩)⟩ hw dX6_readNumber_137
        · have c43 : (10 : Int) < v102_3.toInt := wk_leF c43
          replace hM := hM.neg (Int.not_le.mpr c43)
          exact J125 v102_3 f102_1_1 f102_1_2 f102_1_3 H locs ls w25 (show 0 ≤ f102_1_1.toInt from r26) (show f102_1_1.toInt ≤ 400 from t27) (show 1 ≤ f102_1_2.toInt from r29) (show f102_1_2.toInt ≤ 400 from t30) (show 0 ≤ f102_1_3.toInt from r32) (show f102_1_3.toInt ≤ 399 from t33)  hw hT hF c28 c31 c34 c35 hM (lv_sub hl [0, 1, 2, 3] rfl)
  have L32 : ∀ (n32 : Nat) (v32_3 : Int32) (f32_1_1 : Int32) (f32_1_2 : Int32) (f32_1_3 : Int32) (H : Heap) (locs : List Loc) (ls : Array Slot) (w44 : va_W), 0 ≤ f32_1_1.toInt → f32_1_1.toInt ≤ 400 → 1 ≤ f32_1_2.toInt → f32_1_2.toInt ≤ 400 → 0 ≤ f32_1_3.toInt → f32_1_3.toInt ≤ 399 → (400 - f32_1_1.toInt).toNat < n32 → Wd dC dI A s.heap H locs w44 → TW ksC ad cy B qr s1 w44 → FE ksC [(6, 1, 1), (6, 3, 3), (6, 4, 4)] w0 w44 → gi w44 1 1 = f32_1_1 → gi w44 1 2 = f32_1_2 → gi w44 1 3 = f32_1_3 → gi w44 1 4 = 0 → TT (fun n => m_X6_readNumber n 1 2 10 (sI w0)) (fun n => j_X6_readNumber 1 n 32 [(2 : Int), (10 : Int), v32_3.toInt] (sI w44)) → lv_has ls 4 [(0, .ref (ad 1)), (1, .int 2), (2, .int 10), (3, .int v32_3)] → W p l e ({ frames := 2, cells := 0, slots := 0, locals := 34 }) s m (List.toArray [.ref (ad 1), .int 2, .int 10]) below meth c H locs 0 0 (MQ below (va_Qi (Pz_X6_readNumber_1 ad cy B qr s1  w0) (fun u : va_W => wpost dC dI cy A u) A) (List.toArray [.ref (ad 1), .int 2, .int 10]) s 0 0 A) (F0 m 32 ls []) := by
    intro n32
    induction n32 with
    | zero => intro v32_3 f32_1_1 f32_1_2 f32_1_3 H locs ls w44 r45 t46 r48 t49 r51 t52 hm32 hw hT hF c47 c50 c53 c54 hM hl; omega
    | succ n32 ih32 =>
      intro v32_3 f32_1_1 f32_1_2 f32_1_3 H locs ls w44 r45 t46 r48 t49 r51 t52 hm32 hw hT hF c47 c50 c53 c54 hM hl
      have J89 : ∀ (v89_3 : Int32) (H : Heap) (locs : List Loc) (ls : Array Slot) (w55 : va_W), 0 ≤ f32_1_1.toInt → f32_1_1.toInt ≤ 399 → 1 ≤ f32_1_2.toInt → f32_1_2.toInt ≤ 400 → 0 ≤ f32_1_3.toInt → f32_1_3.toInt ≤ 399 → Wd dC dI A s.heap H locs w55 → TW ksC ad cy B qr s1 w55 → FE ksC [(6, 1, 1), (6, 3, 3), (6, 4, 4)] w0 w55 → gi w55 1 1 = f32_1_1 → gi w55 1 2 = f32_1_2 → gi w55 1 3 = f32_1_3 → gi w55 1 4 = 0 → TT (fun n => m_X6_readNumber n 1 2 10 (sI w0)) (fun n => b_X6_readNumber_89 (j_X6_readNumber 1 n) n 1 (2 : Int) (10 : Int) (v89_3.toInt) (sI w55)) → lv_has ls 4 [(0, .ref (ad 1)), (1, .int 2), (2, .int 10), (3, .int v89_3)] → W p l e ({ frames := 2, cells := 0, slots := 0, locals := 34 }) s m (List.toArray [.ref (ad 1), .int 2, .int 10]) below meth c H locs 0 0 (MQ below (va_Qi (Pz_X6_readNumber_1 ad cy B qr s1  w0) (fun u : va_W => wpost dC dI cy A u) A) (List.toArray [.ref (ad 1), .int 2, .int 10]) s 0 0 A) (F0 m 89 ls []) := by
        intro v89_3 H locs ls w55 r56 t57 r59 t60 r62 t63 hw hT hF c58 c61 c64 c65 hM hl
        refine lv_aload_n hx hb dX6_readNumber_89 rfl (lv_at hl 0 rfl) ?_
        refine lv_dup hx hb dX6_readNumber_90 rfl ?_
        refine tk_geti hC hK hw hT hinX6 kC_at1 (by decide) rfl 1 (by decide) (List.mem_cons_of_mem _ uw_9_16) rfl rfl dX6_readNumber_91 (fun x66 c67 rx66 tx66 => ?_)
        refine wk_top f32_1_1 (c67.symm.trans c58) ?_
        replace hM := hM.rd (sI_at c58)
        refine lv_iconst (v := 1) hx hb dX6_readNumber_94 (by decide) ?_
        refine lv_iadd hx hb dX6_readNumber_95 ?_
        refine lv_topi (fun x68 ex68 => ?_)
        have ezx68 := ex68
        have ex68 : x68.toInt = f32_1_1.toInt + (1 : Int) := by rw [ex68]; exact wk_add (show (-2147483648) ≤ f32_1_1.toInt + (1 : Int) by omega) (show f32_1_1.toInt + (1 : Int) ≤ 2147483647 by omega)
        replace hM := hM.lt ex68.symm
        refine tk_puti hC hK hw hT hinX6 tyX6_ok nmX6 kC_at1 (by decide) rfl rfl 1 (by decide) (List.mem_cons_of_mem _ uw_9_16) rfl rfl rfl rfl (show 0 ≤ x68.toInt by first | with_reducible assumption | omega) (show x68.toInt ≤ 400 by first | with_reducible assumption | omega) dX6_readNumber_96 (fun H locs w69 hw hT k71 c70 => ?_)
        replace hM := hM.wr (sI_up k71 c70)
        have hF := hF.put kC_at1 (k := 1) (by decide) k71
        have c72 := k71.gi (Or.inr (by decide)) c61
        have c73 := k71.gi (Or.inr (by decide)) c64
        have c74 := k71.gi (Or.inr (by decide)) c65
        refine lv_goto (tgt := 32) hx hb dX6_readNumber_99 (by decide) ?_
        exact ih32 v89_3 x68 f32_1_2 f32_1_3 H locs ls w69 (show 0 ≤ x68.toInt by first | with_reducible assumption | omega) (show x68.toInt ≤ 400 by first | with_reducible assumption | omega) (show 1 ≤ f32_1_2.toInt from r59) (show f32_1_2.toInt ≤ 400 from t60) (show 0 ≤ f32_1_3.toInt from r62) (show f32_1_3.toInt ≤ 399 from t63) (show (400 - x68.toInt).toNat < n32 by first | exact tn_lt hm32 (by omega) (by omega) | omega) hw hT hF c70 c72 c73 c74 hM (lv_sub hl [0, 1, 2, 3] rfl)
      replace hM := hM.suc (fun _ => e_X6_readNumber_32)
      refine lv_aload_n hx hb dX6_readNumber_32 rfl (lv_at hl 0 rfl) ?_
      refine tk_geti hC hK hw hT hinX6 kC_at1 (by decide) rfl 1 (by decide) (List.mem_cons_of_mem _ uw_9_16) rfl rfl dX6_readNumber_33 (fun x75 c76 rx75 tx75 => ?_)
      refine wk_top f32_1_1 (c76.symm.trans c47) ?_
      replace hM := hM.rd (sI_at c47)
      refine lv_aload_n hx hb dX6_readNumber_36 rfl (lv_at hl 0 rfl) ?_
      refine tk_geti hC hK hw hT hinX6 kC_at1 (by decide) rfl 2 (by decide) (List.mem_cons_of_mem _ uw_7_22) rfl rfl dX6_readNumber_37 (fun x77 c78 rx77 tx77 => ?_)
      refine wk_top f32_1_2 (c78.symm.trans c50) ?_
      replace hM := hM.rd (sI_at c50)
      refine lv_icmp_ge (tgt := 102) hx hb dX6_readNumber_40 (by decide) (fun c79 => ?_) (fun c79 => ?_)
      · have c79 : f32_1_2.toInt ≤ f32_1_1.toInt := wk_le.mp c79
        replace hM := hM.pos c79
        exact J102 v32_3 f32_1_1 f32_1_2 f32_1_3 H locs ls w44 (show 0 ≤ f32_1_1.toInt from r45) (show f32_1_1.toInt ≤ 400 from t46) (show 1 ≤ f32_1_2.toInt from r48) (show f32_1_2.toInt ≤ 400 from t49) (show 0 ≤ f32_1_3.toInt from r51) (show f32_1_3.toInt ≤ 399 from t52)  hw hT hF c47 c50 c53 c54 hM (lv_sub hl [0, 1, 2, 3] rfl)
      · have c79 : f32_1_1.toInt < f32_1_2.toInt := wk_leF c79
        replace hM := hM.neg (Int.not_le.mpr c79)
        refine lv_aload_n hx hb dX6_readNumber_43 rfl (lv_at hl 0 rfl) ?_
        refine tk_getA hC hK hw hT hinX6 kC_at1 (by decide) rfl 0 (by decide) (List.mem_cons_of_mem _ uw_2_12) rfl rfl dX6_readNumber_44 ?_
        refine lv_aload_n hx hb dX6_readNumber_47 rfl (lv_at hl 0 rfl) ?_
        refine tk_geti hC hK hw hT hinX6 kC_at1 (by decide) rfl 1 (by decide) (List.mem_cons_of_mem _ uw_9_16) rfl rfl dX6_readNumber_48 (fun x80 c81 rx80 tx80 => ?_)
        refine wk_top f32_1_1 (c81.symm.trans c47) ?_
        replace hM := hM.rd (sI_at c47)
        refine tk_iald hC hK hw hT kC_at2 rfl rfl (show 0 ≤ f32_1_1.toInt from r45) (show f32_1_1.toInt < 400 by first | with_reducible assumption | omega) dX6_readNumber_51 (fun x82 c83 rx82 tx82 => ?_)
        have hox82 := c83
        replace hM := hM.rd (sI_at hox82)
        refine tk_Si hC hK hw hT hA hE hSR (kz_X6_isDigit_1 l adK adV dC dI cy ad B hB0 (Int.le_trans hB1 (by decide)) qr s1   x82 (show 0 ≤ x82.toInt from rx82) (show x82.toInt ≤ 255 from tx82) w44 H.size hT ) (va_cwS 1 hC.2.2.2.2 uS_RX6_64 rfl rfl rfl (by decide +kernel) ⟨Nat.le_of_ble_eq_true rfl, Nat.le_of_ble_eq_true rfl⟩) rfl hl.1 rfl (Nat.le_of_ble_eq_true rfl) dX6_readNumber_52 (fun r84 w86 H locs hp85 hw => ?_)
        obtain ⟨hT, k87, hv91, hg90⟩ := hp85
        have hF := hF.tr k87 (by decide)
        have c92 := k87.gi kC_at1 (by decide) c47
        have c93 := k87.gi kC_at1 (by decide) c50
        have c94 := k87.gi kC_at1 (by decide) c53
        have c95 := k87.gi kC_at1 (by decide) c54
        rcases hg90 with rfl | ⟨rfl, g88, g89⟩
        · replace hM := hM.call (r' := 0) hv91 (by decide)
          refine lv_if_eq (tgt := 102) hx hb dX6_readNumber_55 (by decide) (fun _ => ?_) (fun c => absurd (by decide) c)
          replace hM := hM.pos (by decide)
          exact J102 v32_3 f32_1_1 f32_1_2 f32_1_3 H locs ls w86 (show 0 ≤ f32_1_1.toInt from r45) (show f32_1_1.toInt ≤ 400 from t46) (show 1 ≤ f32_1_2.toInt from r48) (show f32_1_2.toInt ≤ 400 from t49) (show 0 ≤ f32_1_3.toInt from r51) (show f32_1_3.toInt ≤ 399 from t52)  hw hT hF c92 c93 c94 c95 hM (lv_sub hl [0, 1, 2, 3] rfl)
        · replace hM := hM.call (r' := 1) hv91 (by decide)
          refine lv_if_eq (tgt := 102) hx hb dX6_readNumber_55 (by decide) (fun c => absurd c (by decide)) (fun _ => ?_)
          replace hM := hM.neg (by decide)
          refine lv_aload_n hx hb dX6_readNumber_58 rfl (lv_at hl 0 rfl) ?_
          refine tk_geti hC hK hw hT hinX6 kC_at1 (by decide) rfl 1 (by decide) (List.mem_cons_of_mem _ uw_9_16) rfl rfl dX6_readNumber_59 (fun x96 c97 rx96 tx96 => ?_)
          refine wk_top f32_1_1 (c97.symm.trans c92) ?_
          replace hM := hM.rd (sI_at c92)
          refine lv_aload_n hx hb dX6_readNumber_62 rfl (lv_at hl 0 rfl) ?_
          refine tk_geti hC hK hw hT hinX6 kC_at1 (by decide) rfl 3 (by decide) (List.mem_cons_of_mem _ uw_9_17) rfl rfl dX6_readNumber_63 (fun x98 c99 rx98 tx98 => ?_)
          refine wk_top f32_1_3 (c99.symm.trans c94) ?_
          replace hM := hM.rd (sI_at c94)
          refine lv_isub hx hb dX6_readNumber_66 ?_
          refine lv_topi (fun x100 ex100 => ?_)
          have ezx100 := ex100
          have ex100 : x100.toInt = f32_1_1.toInt - f32_1_3.toInt := by rw [ex100]; exact wk_sub (show (-2147483648) ≤ f32_1_1.toInt - f32_1_3.toInt by omega) (show f32_1_1.toInt - f32_1_3.toInt ≤ 2147483647 by omega)
          replace hM := hM.lt ex100.symm
          refine lv_iconst (v := 5) hx hb dX6_readNumber_67 (by decide) ?_
          refine lv_icmp_ge (tgt := 89) hx hb dX6_readNumber_68 (by decide) (fun c101 => ?_) (fun c101 => ?_)
          · have c101 : (5 : Int) ≤ x100.toInt := wk_le.mp c101
            replace hM := hM.pos c101
            exact J89 v32_3 H locs ls w86 (show 0 ≤ f32_1_1.toInt from r45) (show f32_1_1.toInt ≤ 399 by first | with_reducible assumption | omega) (show 1 ≤ f32_1_2.toInt from r48) (show f32_1_2.toInt ≤ 400 from t49) (show 0 ≤ f32_1_3.toInt from r51) (show f32_1_3.toInt ≤ 399 from t52)  hw hT hF c92 c93 c94 c95 hM (lv_sub hl [0, 1, 2, 3] rfl)
          · have c101 : x100.toInt < (5 : Int) := wk_leF c101
            replace hM := hM.neg (Int.not_le.mpr c101)
            refine lv_iload_n hx hb dX6_readNumber_71 rfl (lv_at hl 3 rfl) ?_
            refine lv_bipush (v := 10) hx hb dX6_readNumber_72 (by decide) ?_
            refine lv_imul hx hb dX6_readNumber_74 ?_
            have nx102 := wk_i32 v32_3
            refine lv_topi (fun x103 ex103 => ?_)
            have ezx103 := ex103
            replace hM := hM.lt (o32_e (f := fun x y => x * y) ezx103 rfl (by decide))
            refine lv_aload_n hx hb dX6_readNumber_75 rfl (lv_at hl 0 rfl) ?_
            refine tk_getA hC hK hw hT hinX6 kC_at1 (by decide) rfl 0 (by decide) (List.mem_cons_of_mem _ uw_2_12) rfl rfl dX6_readNumber_76 ?_
            refine lv_aload_n hx hb dX6_readNumber_79 rfl (lv_at hl 0 rfl) ?_
            refine tk_geti hC hK hw hT hinX6 kC_at1 (by decide) rfl 1 (by decide) (List.mem_cons_of_mem _ uw_9_16) rfl rfl dX6_readNumber_80 (fun x104 c105 rx104 tx104 => ?_)
            refine wk_top f32_1_1 (c105.symm.trans c92) ?_
            replace hM := hM.rd (sI_at c92)
            refine tk_iald hC hK hw hT kC_at2 rfl rfl (show 0 ≤ f32_1_1.toInt from r45) (show f32_1_1.toInt < 400 by first | with_reducible assumption | omega) dX6_readNumber_83 (fun x106 c107 rx106 tx106 => ?_)
            have hox106 := c107
            replace hM := hM.rd (sI_at hox106)
            refine lv_iadd hx hb dX6_readNumber_84 ?_
            have nx108 := wk_i32 x103
            refine lv_topi (fun x109 ex109 => ?_)
            have ezx109 := ex109
            replace hM := hM.lt (o32_e (f := fun x y => x + y) ezx109 rfl rfl)
            refine lv_bipush (v := 48) hx hb dX6_readNumber_85 (by decide) ?_
            refine lv_isub hx hb dX6_readNumber_87 ?_
            have nx110 := wk_i32 x109
            refine lv_topi (fun x111 ex111 => ?_)
            have ezx111 := ex111
            replace hM := hM.lt (o32_e (f := fun x y => x - y) ezx111 rfl (by decide))
            refine lv_istore_n (lv' := [(3, .int x111), (0, .ref (ad 1)), (1, .int 2), (2, .int 10)]) hx hb dX6_readNumber_88 rfl hl (by decide) rfl (fun ls hl => ?_)
            exact J89 x111 H locs ls w86 (show 0 ≤ f32_1_1.toInt from r45) (show f32_1_1.toInt ≤ 399 by first | with_reducible assumption | omega) (show 1 ≤ f32_1_2.toInt from r48) (show f32_1_2.toInt ≤ 400 from t49) (show 0 ≤ f32_1_3.toInt from r51) (show f32_1_3.toInt ≤ 399 from t52)  hw hT hF c92 c93 c94 c95 hM (lv_sub hl [1, 2, 3, 0] rfl)
  have hM : TT (fun n => m_X6_readNumber n 1 2 10 (sI w0)) (fun n => m_X6_readNumber n 1 2 10 (sI w0)) := TT.rf
  refine lv_aload_n hx hb dX6_readNumber_0 rfl (lv_at hl 0 rfl) ?_
  refine tk_Vi hC hK hw hT hA hE hSR kC_at1 (by decide) rfl (kz_X6_isFaulty_2 l adK adV dC dI cy ad B hB0 (Int.le_trans hB1 (by decide)) qr s1    w0 s.heap.size hT cf0_) (cwV 0 hC.2.2.2.2 uV_RX6_39 rfl rfl rfl (by decide +kernel) ⟨Nat.le_of_ble_eq_true rfl, Nat.le_of_ble_eq_true rfl⟩) rfl hl.1 rfl (Nat.le_of_ble_eq_true rfl) dX6_readNumber_1 (fun r112 w114 H locs hp113 hw => ?_)
  obtain ⟨hT, k115, hv119, hg118⟩ := hp113
  have hF := hF.tr k115 (by decide)
  have c120 := k115.gi kC_at1 (by decide) cf0_
  obtain ⟨rfl, ⟨x116, c117, rx116, tx116⟩⟩ := hg118
  replace hM := hM.call (r' := 0) hv119 (by decide)
  have ex116 : x116.toInt = (0 : Int) := by rw [show x116 = 0 from c117.symm.trans c120]; decide
  refine lv_if_eq (tgt := 9) hx hb dX6_readNumber_4 (by decide) (fun _ => ?_) (fun c => absurd (by decide) c)
  replace hM := hM.pos (by decide)
  refine lv_aload_n hx hb dX6_readNumber_9 rfl (lv_at hl 0 rfl) ?_
  refine tk_Vi hC hK hw hT hA hE hSR kC_at1 (by decide) rfl (kz_X6_lookBehindBlanks_1 l adK adV dC dI cy ad B hB0 (Int.le_trans hB1 (by decide)) qr s1    w114 H.size hT ) (cwV 0 hC.2.2.2.2 uV_RX6_28 rfl rfl rfl (by decide +kernel) ⟨Nat.le_of_ble_eq_true rfl, Nat.le_of_ble_eq_true rfl⟩) rfl hl.1 rfl (Nat.le_of_ble_eq_true rfl) dX6_readNumber_10 (fun r121 w123 H locs hp122 hw => ?_)
  obtain ⟨hT, k124, hv134, hg133⟩ := hp122
  have hF := hF.tr k124 (by decide)
  have c135 := k124.gi kC_at1 (by decide) c120
  rcases hg133 with ⟨g125, g126, ⟨x127, c128, rx127, tx127⟩, ⟨x129, c130, rx129, tx129⟩, ⟨x131, c132, rx131, tx131⟩⟩ | rfl
  · replace hM := hM.call hv134 rfl
    refine tk_Si hC hK hw hT hA hE hSR (kz_X6_isDigit_1 l adK adV dC dI cy ad B hB0 (Int.le_trans hB1 (by decide)) qr s1   r121 (show 0 ≤ r121.toInt by first | with_reducible assumption | omega) (show r121.toInt ≤ 255 by first | with_reducible assumption | omega) w123 H.size hT ) (va_cwS 1 hC.2.2.2.2 uS_RX6_64 rfl rfl rfl (by decide +kernel) ⟨Nat.le_of_ble_eq_true rfl, Nat.le_of_ble_eq_true rfl⟩) rfl hl.1 rfl (Nat.le_of_ble_eq_true rfl) dX6_readNumber_13 (fun r136 w138 H locs hp137 hw => ?_)
    obtain ⟨hT, k139, hv143, hg142⟩ := hp137
    have hF := hF.tr k139 (by decide)
    have c144 := k139.gi kC_at1 (by decide) c135
    have c145 := k139.gi kC_at1 (by decide) c128
    have c146 := k139.gi kC_at1 (by decide) c130
    have c147 := k139.gi kC_at1 (by decide) c132
    rcases hg142 with rfl | ⟨rfl, g140, g141⟩
    · replace hM := hM.call (r' := 0) hv143 (by decide)
      refine lv_if_ne (tgt := 30) hx hb dX6_readNumber_16 (by decide) (fun c => absurd (by decide) c) (fun _ => ?_)
      replace hM := hM.neg (by decide)
      refine lv_aload_n hx hb dX6_readNumber_19 rfl (lv_at hl 0 rfl) ?_
      refine lv_aload_n hx hb dX6_readNumber_20 rfl (lv_at hl 0 rfl) ?_
      refine tk_geti hC hK hw hT hinX6 kC_at1 (by decide) rfl 3 (by decide) (List.mem_cons_of_mem _ uw_9_17) rfl rfl dX6_readNumber_21 (fun x148 c149 rx148 tx148 => ?_)
      refine wk_top x131 (c149.symm.trans c147) ?_
      replace hM := hM.rd (sI_at c147)
      refine lv_iconst (v := 0) hx hb dX6_readNumber_24 (by decide) ?_
      refine tk_Vv hC hK hw hT hA hE hSR kC_at1 (by decide) rfl (kz_X6_blame_2 l adK adV dC dI cy ad B hB0 (Int.le_trans hB1 (by decide)) qr s1   x131 (show 0 ≤ x131.toInt by first | with_reducible assumption | omega) (show x131.toInt ≤ 400 by first | with_reducible assumption | omega) 0 (by decide) (by decide) w138 H.size hT c144) (cwV 2 hC.2.2.2.2 uV_RX6_35 rfl rfl rfl (by decide +kernel) ⟨Nat.le_of_ble_eq_true rfl, Nat.le_of_ble_eq_true rfl⟩) rfl hl.1 rfl (Nat.le_of_ble_eq_true rfl) dX6_readNumber_25 (fun w152 H locs hp151 hw => ?_)
      obtain ⟨hT, k153, hv157, hg156⟩ := hp151
      try simp only [show (0 : Int32).toInt = 0 by decide] at hv157
      have hF := hF.tr k153 (by decide)
      have c158 := k153.gi kC_at1 (by decide) c145
      have c159 := k153.gi kC_at1 (by decide) c146
      have c160 := k153.gi kC_at1 (by decide) c147
      obtain ⟨x154, c155, rx154, tx154⟩ := hg156
      replace hM := hM.call hv157 rfl
      refine lv_iconst (v := (-1)) hx hb dX6_readNumber_28 (by decide) ?_
      exact tk_iret hC hr hlocks hK ⟨hT, hF, hM.ret (by decide), (Or.inr ⟨rfl, ⟨x154, c155, (show 1 ≤ x154.toInt by first | with_reducible assumption | omega), (show x154.toInt ≤ 3205 by first | with_reducible assumption | omega)⟩⟩)⟩ hw dX6_readNumber_29
    · replace hM := hM.call (r' := 1) hv143 (by decide)
      refine lv_if_ne (tgt := 30) hx hb dX6_readNumber_16 (by decide) (fun _ => ?_) (fun c => absurd c (by decide))
      replace hM := hM.pos (by decide)
      refine lv_iconst (v := 0) hx hb dX6_readNumber_30 (by decide) ?_
      refine lv_istore_n (lv' := [(3, .int 0), (0, .ref (ad 1)), (1, .int 2), (2, .int 10)]) hx hb dX6_readNumber_31 rfl hl (by decide) rfl (fun ls hl => ?_)
      exact L32 ((400 - x127.toInt).toNat + 1) 0 x127 x129 x131 H locs ls w138 (show 0 ≤ x127.toInt by first | with_reducible assumption | omega) (show x127.toInt ≤ 400 by first | with_reducible assumption | omega) (show 1 ≤ x129.toInt by first | with_reducible assumption | omega) (show x129.toInt ≤ 400 by first | with_reducible assumption | omega) (show 0 ≤ x131.toInt by first | with_reducible assumption | omega) (show x131.toInt ≤ 399 by first | with_reducible assumption | omega) (Nat.lt_succ_self _) hw hT hF c145 c146 c147 c144 hM (lv_sub hl [1, 2, 3, 0] rfl)
  · replace hM := hM.call (r' := (-1)) hv134 (by decide)
    refine tk_Si hC hK hw hT hA hE hSR (kz_X6_isDigit_2 l adK adV dC dI cy ad B hB0 (Int.le_trans hB1 (by decide)) qr s1    w123 H.size hT ) (va_cwS 1 hC.2.2.2.2 uS_RX6_64 rfl rfl rfl (by decide +kernel) ⟨Nat.le_of_ble_eq_true rfl, Nat.le_of_ble_eq_true rfl⟩) rfl hl.1 rfl (Nat.le_of_ble_eq_true rfl) dX6_readNumber_13 (fun r161 w163 H locs hp162 hw => ?_)
    obtain ⟨hT, k164, hv166, hg165⟩ := hp162
    have hF := hF.tr k164 (by decide)
    have c167 := k164.gi kC_at1 (by decide) c135
    obtain rfl := hg165
    replace hM := hM.call (r' := 0) hv166 (by decide)
    refine lv_if_ne (tgt := 30) hx hb dX6_readNumber_16 (by decide) (fun c => absurd (by decide) c) (fun _ => ?_)
    replace hM := hM.neg (by decide)
    refine lv_aload_n hx hb dX6_readNumber_19 rfl (lv_at hl 0 rfl) ?_
    refine lv_aload_n hx hb dX6_readNumber_20 rfl (lv_at hl 0 rfl) ?_
    refine tk_geti hC hK hw hT hinX6 kC_at1 (by decide) rfl 3 (by decide) (List.mem_cons_of_mem _ uw_9_17) rfl rfl dX6_readNumber_21 (fun x168 c169 rx168 tx168 => ?_)
    replace hM := hM.rd (sI_at c169)
    refine lv_iconst (v := 0) hx hb dX6_readNumber_24 (by decide) ?_
    refine tk_Vv hC hK hw hT hA hE hSR kC_at1 (by decide) rfl (kz_X6_blame_2 l adK adV dC dI cy ad B hB0 (Int.le_trans hB1 (by decide)) qr s1   x168 (show 0 ≤ x168.toInt from rx168) (show x168.toInt ≤ 400 from tx168) 0 (by decide) (by decide) w163 H.size hT c167) (cwV 2 hC.2.2.2.2 uV_RX6_35 rfl rfl rfl (by decide +kernel) ⟨Nat.le_of_ble_eq_true rfl, Nat.le_of_ble_eq_true rfl⟩) rfl hl.1 rfl (Nat.le_of_ble_eq_true rfl) dX6_readNumber_25 (fun w172 H locs hp171 hw => ?_)
    obtain ⟨hT, k173, hv177, hg176⟩ := hp171
    try simp only [show (0 : Int32).toInt = 0 by decide] at hv177
    have hF := hF.tr k173 (by decide)
    have c178 := k173.gi kC_at1 (by decide) c169
    obtain ⟨x174, c175, rx174, tx174⟩ := hg176
    replace hM := hM.call hv177 rfl
    refine lv_iconst (v := (-1)) hx hb dX6_readNumber_28 (by decide) ?_
    exact tk_iret hC hr hlocks hK ⟨hT, hF, hM.ret (by decide), (Or.inr ⟨rfl, ⟨x174, c175, (show 1 ≤ x174.toInt by first | with_reducible assumption | omega), (show x174.toInt ≤ 3205 by first | with_reducible assumption | omega)⟩⟩)⟩ hw dX6_readNumber_29
abbrev Pz_X7_readClause_1 (ad : Nat → Nat) (cy : Nat → ClassId) (B : Int) (qr : Nat) (s1 : Int)  (w0 : va_W) : va_W → Prop := fun u => TW ksC ad cy B qr s1 u ∧ FE ksC [(6, 1, 1), (6, 3, 3), (6, 4, 4), (7, 8, 8)] w0 u ∧ Ev (fun n => m_X7_readClause n 29 1 0 (sI w0)) (0, sI u) ∧ (((∃ y : Int32, gi u 1 4 = y ∧ 1 ≤ y.toInt ∧ y.toInt ≤ 3205)) ∨ ((∃ y : Int32, gi u 1 4 = y ∧ 0 ≤ y.toInt ∧ y.toInt ≤ 3205)))
set_option maxHeartbeats 4000000 in
set_option maxRecDepth 100000 in
theorem kz_X7_readClause_1 (l : Launch) (adK adV : Nat → Nat) (dC : Nat → ClassId) (dI : Nat → Nat → Nat) (cy : Nat → ClassId) (ad : Nat → Nat) (B : Int) (hB0 : 2147483648 ≤ B) (hB1 : B ≤ 1152921504606846976) (qr : Nat) (s1 : Int)   (w0 : va_W) (sz : Nat) (hT : TW ksC ad cy B qr s1 w0)  : Met l yX7_readClause (wu yX7_readClause cX7_readClause 3 none) ({ frames := 3, cells := 0, slots := 0, locals := 57 }) (va_Pc [.ref (ad 29), .ref (ad 1), .int 0] (wpreS adK adV dC dI cy sz w0)) (va_Qv (Pz_X7_readClause_1 ad cy B qr s1  w0) (fun u : va_W => wpost dC dI cy (va_A w0 sz) u) (va_A w0 sz)) 0 0 (va_A w0 sz) := by
  refine Met.ofW (cc := cX7_readClause) (maxL := 3) (ret := none) (by decide) rfl ?_
  intro p e s m args below meth c s₁ Bk hml hv
  obtain ⟨rfl, ⟨hsz, hP, hK, hD0⟩, hE, hSR⟩ := hv
  have hx := Bk.exec
  have hb := Bk.bytes
  have hr := Bk.returns
  have hlocks := Bk.notSynchronized
  have hC : CallFix p m c cX7_readClause 3 s _ (wu yX7_readClause cX7_readClause 3 none) RX7 := ⟨hx, hb, hml, findClass_of_methodNamed Bk.named, atoms_spec (ws := (wu yX7_readClause cX7_readClause 3 none)) Bk.pre⟩
  subst hsz
  have hD := hD0.self (sz := s.heap.size)
  generalize hAe : va_A w0 s.heap.size = A at hD hE ⊢
  have hA : ∀ q : Nat, s.heap.size ≤ q → A q := fun q h => by rw [← hAe]; exact Or.inr h
  have hw : Wd dC dI A s.heap s.heap [] w0 := ⟨hP, hD, va_S.rf⟩
  have hF : FE ksC [(6, 1, 1), (6, 3, 3), (6, 4, 4), (7, 8, 8)] w0 w0 := FE.rf
  have hl := lv_entry ([.ref (ad 29), .ref (ad 1), .int 0]) (n := 3) (Nat.le_of_ble_eq_true rfl)
  rw [lg_entry_eq]
  generalize (lg_sl ([.ref (ad 29), .ref (ad 1), .int 0]) ++ List.replicate (3 - (lg_sl ([.ref (ad 29), .ref (ad 1), .int 0])).length) Slot.unset).toArray = ls at hl ⊢
  have hl : lv_has ls 3 [(0, .ref (ad 29)), (1, .ref (ad 1)), (2, .int 0)] := hl
  generalize hloc : ([] : List Loc) = locs at hw ⊢
  have hinX7 : ∀ w ∈ u_ws RX7 TX7 12, w ∈ (wu yX7_readClause cX7_readClause 3 none) := fun _ h => List.mem_cons_of_mem _ (up_73 h)
  have J57 : ∀ (f57_1_4 : Int32) (f57_29_8 : Int32) (H : Heap) (locs : List Loc) (ls : Array Slot) (w1 : va_W), 0 ≤ f57_1_4.toInt → f57_1_4.toInt ≤ 3205 → (-1) ≤ f57_29_8.toInt → f57_29_8.toInt ≤ 10 → Wd dC dI A s.heap H locs w1 → TW ksC ad cy B qr s1 w1 → FE ksC [(6, 1, 1), (6, 3, 3), (6, 4, 4), (7, 8, 8)] w0 w1 → gi w1 1 4 = f57_1_4 → gi w1 29 8 = f57_29_8 → TT (fun n => m_X7_readClause n 29 1 0 (sI w0)) (fun n => b_X7_readClause_57 n 29 1 (sI w1)) → lv_has ls 3 [(0, .ref (ad 29)), (1, .ref (ad 1)), (2, .int 0)] → W p l e ({ frames := 3, cells := 0, slots := 0, locals := 57 }) s m (List.toArray [.ref (ad 29), .ref (ad 1), .int 0]) below meth c H locs 0 0 (MQ below (va_Qv (Pz_X7_readClause_1 ad cy B qr s1  w0) (fun u : va_W => wpost dC dI cy A u) A) (List.toArray [.ref (ad 29), .ref (ad 1), .int 0]) s 0 0 A) (F0 m 57 ls []) := by
    intro f57_1_4 f57_29_8 H locs ls w1 r2 t3 r5 t6 hw hT hF c4 c7 hM hl
    exact tk_vret hC hr hlocks hK ⟨hT, hF, hM.ret rfl, (Or.inr ⟨f57_1_4, c4, (show 0 ≤ f57_1_4.toInt from r2), (show f57_1_4.toInt ≤ 3205 from t3)⟩)⟩ hw dX7_readClause_57
  have hM : TT (fun n => m_X7_readClause n 29 1 0 (sI w0)) (fun n => m_X7_readClause n 29 1 0 (sI w0)) := TT.rf
  refine lv_aload_n hx hb dX7_readClause_0 rfl (lv_at hl 1 rfl) ?_
  refine tk_Vi hC hK hw hT hA hE hSR kC_at1 (by decide) rfl (kz_X6_isFaulty_1 l adK adV dC dI cy ad B hB0 (Int.le_trans hB1 (by decide)) qr s1    w0 s.heap.size hT ) (cwV 0 hC.2.2.2.2 uV_RX7_89 rfl rfl rfl (by decide +kernel) ⟨Nat.le_of_ble_eq_true rfl, Nat.le_of_ble_eq_true rfl⟩) rfl hl.1 rfl (Nat.le_of_ble_eq_true rfl) dX7_readClause_1 (fun r8 w10 H locs hp9 hw => ?_)
  obtain ⟨hT, k11, hv17, hg16⟩ := hp9
  have hF := hF.tr k11 (by decide)
  rcases hg16 with ⟨rfl, ⟨x12, c13, rx12, tx12⟩⟩ | ⟨rfl, ⟨x14, c15, rx14, tx14⟩⟩
  · replace hM := hM.call (r' := 0) hv17 (by decide)
    refine lv_if_eq (tgt := 8) hx hb dX7_readClause_4 (by decide) (fun _ => ?_) (fun c => absurd (by decide) c)
    replace hM := hM.pos (by decide)
    refine lv_iload_n hx hb dX7_readClause_8 rfl (lv_at hl 2 rfl) ?_
    refine lv_if_ne (tgt := 26) hx hb dX7_readClause_9 (by decide) (fun c => absurd (by decide) c) (fun _ => ?_)
    replace hM := hM.neg (by decide)
    refine lv_aload_n hx hb dX7_readClause_12 rfl (lv_at hl 0 rfl) ?_
    refine lv_aload_n hx hb dX7_readClause_13 rfl (lv_at hl 1 rfl) ?_
    refine lv_iconst (v := 2) hx hb dX7_readClause_14 (by decide) ?_
    refine lv_bipush (v := 10) hx hb dX7_readClause_15 (by decide) ?_
    refine tk_Vi hC hK hw hT hA hE hSR kC_at1 (by decide) rfl (kz_X6_readNumber_1 l adK adV dC dI cy ad B hB0 (Int.le_trans hB1 (by decide)) qr s1    w10 H.size hT (c13.trans (wk_eq.mpr (show x12.toInt = 0 by first | exact Int.le_antisymm (by omega) (by omega) | omega)))) (cwV 2 hC.2.2.2.2 uV_RX7_92 rfl rfl rfl (by decide +kernel) ⟨Nat.le_of_ble_eq_true rfl, Nat.le_of_ble_eq_true rfl⟩) rfl hl.1 rfl (Nat.le_of_ble_eq_true rfl) dX7_readClause_17 (fun r18 w20 H locs hp19 hw => ?_)
    obtain ⟨hT, k21, hv33, hg32⟩ := hp19
    have hF := hF.tr k21 (by decide)
    rcases hg32 with ⟨g22, g23, ⟨x24, c25, rx24, tx24⟩, ⟨x26, c27, rx26, tx26⟩, ⟨x28, c29, rx28, tx28⟩⟩ | ⟨rfl, ⟨x30, c31, rx30, tx30⟩⟩
    · replace hM := hM.call hv33 rfl
      refine tk_puti hC hK hw hT hinX7 tyX7_ok nmX7 kC_at29 (by decide) rfl rfl 8 (by decide) (List.mem_cons_of_mem _ uw_9_7) rfl rfl rfl rfl (show (-1) ≤ r18.toInt by first | with_reducible assumption | omega) (show r18.toInt ≤ 10 by first | with_reducible assumption | omega) dX7_readClause_20 (fun H locs w34 hw hT k36 c35 => ?_)
      replace hM := hM.wr (sI_up k36 c35)
      have hF := hF.put kC_at29 (k := 8) (by decide) k36
      have c37 := k36.gi (Or.inr (by decide)) c25
      have c38 := k36.gi (Or.inr (by decide)) c27
      have c39 := k36.gi (Or.inr (by decide)) c29
      refine lv_goto (tgt := 57) hx hb dX7_readClause_23 (by decide) ?_
      exact J57 x28 r18 H locs ls w34 (show 0 ≤ x28.toInt by first | with_reducible assumption | omega) (show x28.toInt ≤ 3205 by first | with_reducible assumption | omega) (show (-1) ≤ r18.toInt by first | with_reducible assumption | omega) (show r18.toInt ≤ 10 by first | with_reducible assumption | omega)  hw hT hF c39 c35 hM (lv_sub hl [0, 1, 2] rfl)
    · replace hM := hM.call (r' := (-1)) hv33 (by decide)
      refine tk_puti hC hK hw hT hinX7 tyX7_ok nmX7 kC_at29 (by decide) rfl rfl 8 (by decide) (List.mem_cons_of_mem _ uw_9_7) rfl rfl rfl rfl (by decide) (by decide) dX7_readClause_20 (fun H locs w40 hw hT k42 c41 => ?_)
      replace hM := hM.wr (sI_upc k42 c41 (by decide))
      have hF := hF.put kC_at29 (k := 8) (by decide) k42
      have c43 := k42.gi (Or.inr (by decide)) c31
      refine lv_goto (tgt := 57) hx hb dX7_readClause_23 (by decide) ?_
      exact J57 x30 (-1) H locs ls w40 (show 0 ≤ x30.toInt by first | with_reducible assumption | omega) (show x30.toInt ≤ 3205 by first | with_reducible assumption | omega) (by decide) (by decide)  hw hT hF c43 c41 hM (lv_sub hl [0, 1, 2] rfl)
  · replace hM := hM.call (r' := 1) hv17 (by decide)
    refine lv_if_eq (tgt := 8) hx hb dX7_readClause_4 (by decide) (fun c => absurd c (by decide)) (fun _ => ?_)
    replace hM := hM.neg (by decide)
    exact tk_vret hC hr hlocks hK ⟨hT, hF, hM.ret rfl, (Or.inl ⟨x14, c15, (show 1 ≤ x14.toInt by first | with_reducible assumption | omega), (show x14.toInt ≤ 3205 by first | with_reducible assumption | omega)⟩)⟩ hw dX7_readClause_7
abbrev Pz_X6_isFaulty_3 (ad : Nat → Nat) (cy : Nat → ClassId) (B : Int) (qr : Nat) (s1 : Int)  (w0 : va_W) : Int32 → va_W → Prop := fun r u => TW ksC ad cy B qr s1 u ∧ FE ksC ([] : List (Nat × Nat × Nat)) w0 u ∧ Ev (fun n => m_X6_isFaulty n 1 (sI w0)) (r.toInt, sI u) ∧ ((r = 1 ∧ (∃ y : Int32, gi u 1 4 = y ∧ 1 ≤ y.toInt ∧ y.toInt ≤ 3205)))
set_option maxHeartbeats 4000000 in
set_option maxRecDepth 100000 in
theorem kz_X6_isFaulty_3 (l : Launch) (adK adV : Nat → Nat) (dC : Nat → ClassId) (dI : Nat → Nat → Nat) (cy : Nat → ClassId) (ad : Nat → Nat) (B : Int) (hB0 : 2147483648 ≤ B) (hB1 : B ≤ 1152921504606846976) (qr : Nat) (s1 : Int)   (w0 : va_W) (sz : Nat) (hT : TW ksC ad cy B qr s1 w0) (f0_ : Int32) (cf0_ : gi w0 1 4 = f0_) (rf0_ : 1 ≤ f0_.toInt) (tf0_ : f0_.toInt ≤ 3205) : Met l yX6_isFaulty (wu yX6_isFaulty cX6_isFaulty 1 (some .boolean)) ({ frames := 1, cells := 0, slots := 0, locals := 12 }) (va_Pc [.ref (ad 1)] (wpreS adK adV dC dI cy sz w0)) (va_Qi (Pz_X6_isFaulty_3 ad cy B qr s1  w0) (fun u : va_W => wpost dC dI cy (va_A w0 sz) u) (va_A w0 sz)) 0 0 (va_A w0 sz) := by
  refine Met.ofW (cc := cX6_isFaulty) (maxL := 1) (ret := (some .boolean)) (by decide) rfl ?_
  intro p e s m args below meth c s₁ Bk hml hv
  obtain ⟨rfl, ⟨hsz, hP, hK, hD0⟩, hE, hSR⟩ := hv
  have hx := Bk.exec
  have hb := Bk.bytes
  have hr := Bk.returns
  have hlocks := Bk.notSynchronized
  have hC : CallFix p m c cX6_isFaulty 1 s _ (wu yX6_isFaulty cX6_isFaulty 1 (some .boolean)) RX6 := ⟨hx, hb, hml, findClass_of_methodNamed Bk.named, atoms_spec (ws := (wu yX6_isFaulty cX6_isFaulty 1 (some .boolean))) Bk.pre⟩
  subst hsz
  have hD := hD0.self (sz := s.heap.size)
  generalize hAe : va_A w0 s.heap.size = A at hD hE ⊢
  have hA : ∀ q : Nat, s.heap.size ≤ q → A q := fun q h => by rw [← hAe]; exact Or.inr h
  have hw : Wd dC dI A s.heap s.heap [] w0 := ⟨hP, hD, va_S.rf⟩
  have hF : FE ksC ([] : List (Nat × Nat × Nat)) w0 w0 := FE.rf
  have hl := lv_entry ([.ref (ad 1)]) (n := 1) (Nat.le_of_ble_eq_true rfl)
  rw [lg_entry_eq]
  generalize (lg_sl ([.ref (ad 1)]) ++ List.replicate (1 - (lg_sl ([.ref (ad 1)])).length) Slot.unset).toArray = ls at hl ⊢
  have hl : lv_has ls 1 [(0, .ref (ad 1))] := hl
  generalize hloc : ([] : List Loc) = locs at hw ⊢
  have hinX6 : ∀ w ∈ u_ws RX6 TX6 5, w ∈ (wu yX6_isFaulty cX6_isFaulty 1 (some .boolean)) := fun _ h => List.mem_cons_of_mem _ (up_72 h)
  have hM : TT (fun n => m_X6_isFaulty n 1 (sI w0)) (fun n => m_X6_isFaulty n 1 (sI w0)) := TT.rf
  refine lv_aload_n hx hb dX6_isFaulty_0 rfl (lv_at hl 0 rfl) ?_
  refine tk_geti hC hK hw hT hinX6 kC_at1 (by decide) rfl 4 (by decide) (List.mem_cons_of_mem _ uw_9_18) rfl rfl dX6_isFaulty_1 (fun x1 c2 rx1 tx1 => ?_)
  refine wk_top f0_ (c2.symm.trans cf0_) ?_
  replace hM := hM.rd (sI_at cf0_)
  refine lv_if_eq (tgt := 11) hx hb dX6_isFaulty_4 (by decide) (fun c => absurd c (fun h => absurd (show f0_.toInt = (0 : Int) from wk_eq.mp h) (by omega))) (fun _ => ?_)
  replace hM := hM.neg (by omega)
  refine lv_iconst (v := 1) hx hb dX6_isFaulty_7 (by decide) ?_
  refine lv_goto (tgt := 12) hx hb dX6_isFaulty_8 (by decide) ?_
  exact tk_zret hC hr rfl hlocks hK ⟨hT, hF, hM.ret (by decide), ⟨rfl, ⟨f0_, cf0_, (show 1 ≤ f0_.toInt from rf0_), (show f0_.toInt ≤ 3205 from tf0_)⟩⟩⟩ hw dX6_isFaulty_12
abbrev Pz_X6_takeSemicolon_1 (ad : Nat → Nat) (cy : Nat → ClassId) (B : Int) (qr : Nat) (s1 : Int)  (w0 : va_W) : Int32 → va_W → Prop := fun r u => TW ksC ad cy B qr s1 u ∧ FE ksC ([] : List (Nat × Nat × Nat)) w0 u ∧ Ev (fun n => m_X6_takeSemicolon n 1 (sI w0)) (r.toInt, sI u) ∧ ((r = 0 ∧ (∃ y : Int32, gi u 1 4 = y ∧ 1 ≤ y.toInt ∧ y.toInt ≤ 3205)))
set_option maxHeartbeats 4000000 in
set_option maxRecDepth 100000 in
theorem kz_X6_takeSemicolon_1 (l : Launch) (adK adV : Nat → Nat) (dC : Nat → ClassId) (dI : Nat → Nat → Nat) (cy : Nat → ClassId) (ad : Nat → Nat) (B : Int) (hB0 : 2147483648 ≤ B) (hB1 : B ≤ 1152921504606846976) (qr : Nat) (s1 : Int)   (w0 : va_W) (sz : Nat) (hT : TW ksC ad cy B qr s1 w0) (f0_ : Int32) (cf0_ : gi w0 1 4 = f0_) (rf0_ : 1 ≤ f0_.toInt) (tf0_ : f0_.toInt ≤ 3205) : Met l yX6_takeSemicolon (wu yX6_takeSemicolon cX6_takeSemicolon 1 (some .boolean)) ({ frames := 2, cells := 0, slots := 0, locals := 32 }) (va_Pc [.ref (ad 1)] (wpreS adK adV dC dI cy sz w0)) (va_Qi (Pz_X6_takeSemicolon_1 ad cy B qr s1  w0) (fun u : va_W => wpost dC dI cy (va_A w0 sz) u) (va_A w0 sz)) 0 0 (va_A w0 sz) := by
  refine Met.ofW (cc := cX6_takeSemicolon) (maxL := 1) (ret := (some .boolean)) (by decide) rfl ?_
  intro p e s m args below meth c s₁ Bk hml hv
  obtain ⟨rfl, ⟨hsz, hP, hK, hD0⟩, hE, hSR⟩ := hv
  have hx := Bk.exec
  have hb := Bk.bytes
  have hr := Bk.returns
  have hlocks := Bk.notSynchronized
  have hC : CallFix p m c cX6_takeSemicolon 1 s _ (wu yX6_takeSemicolon cX6_takeSemicolon 1 (some .boolean)) RX6 := ⟨hx, hb, hml, findClass_of_methodNamed Bk.named, atoms_spec (ws := (wu yX6_takeSemicolon cX6_takeSemicolon 1 (some .boolean))) Bk.pre⟩
  subst hsz
  have hD := hD0.self (sz := s.heap.size)
  generalize hAe : va_A w0 s.heap.size = A at hD hE ⊢
  have hA : ∀ q : Nat, s.heap.size ≤ q → A q := fun q h => by rw [← hAe]; exact Or.inr h
  have hw : Wd dC dI A s.heap s.heap [] w0 := ⟨hP, hD, va_S.rf⟩
  have hF : FE ksC ([] : List (Nat × Nat × Nat)) w0 w0 := FE.rf
  have hl := lv_entry ([.ref (ad 1)]) (n := 1) (Nat.le_of_ble_eq_true rfl)
  rw [lg_entry_eq]
  generalize (lg_sl ([.ref (ad 1)]) ++ List.replicate (1 - (lg_sl ([.ref (ad 1)])).length) Slot.unset).toArray = ls at hl ⊢
  have hl : lv_has ls 1 [(0, .ref (ad 1))] := hl
  generalize hloc : ([] : List Loc) = locs at hw ⊢
  have hM : TT (fun n => m_X6_takeSemicolon n 1 (sI w0)) (fun n => m_X6_takeSemicolon n 1 (sI w0)) := TT.rf
  refine lv_aload_n hx hb dX6_takeSemicolon_0 rfl (lv_at hl 0 rfl) ?_
  refine tk_Vi hC hK hw hT hA hE hSR kC_at1 (by decide) rfl (kz_X6_isFaulty_3 l adK adV dC dI cy ad B hB0 (Int.le_trans hB1 (by decide)) qr s1    w0 s.heap.size hT f0_ cf0_ (show 1 ≤ f0_.toInt from rf0_) (show f0_.toInt ≤ 3205 from tf0_)) (cwV 0 hC.2.2.2.2 uV_RX6_39 rfl rfl rfl (by decide +kernel) ⟨Nat.le_of_ble_eq_true rfl, Nat.le_of_ble_eq_true rfl⟩) rfl hl.1 rfl (Nat.le_of_ble_eq_true rfl) dX6_takeSemicolon_1 (fun r1 w3 H locs hp2 hw => ?_)
  obtain ⟨hT, k4, hv8, hg7⟩ := hp2
  have hF := hF.tr k4 (by decide)
  have c9 := k4.gi kC_at1 (by decide) cf0_
  obtain ⟨rfl, ⟨x5, c6, rx5, tx5⟩⟩ := hg7
  replace hM := hM.call (r' := 1) hv8 (by decide)
  have ex5 : x5.toInt = f0_.toInt := by rw [← c9.symm.trans c6]
  refine lv_if_eq (tgt := 9) hx hb dX6_takeSemicolon_4 (by decide) (fun c => absurd c (by decide)) (fun _ => ?_)
  replace hM := hM.neg (by decide)
  refine lv_iconst (v := 0) hx hb dX6_takeSemicolon_7 (by decide) ?_
  exact tk_zret hC hr rfl hlocks hK ⟨hT, hF, hM.ret (by decide), ⟨rfl, ⟨f0_, c9, (show 1 ≤ f0_.toInt from rf0_), (show f0_.toInt ≤ 3205 from tf0_)⟩⟩⟩ hw dX6_takeSemicolon_8
abbrev Pz_X6_pass_1 (ad : Nat → Nat) (cy : Nat → ClassId) (B : Int) (qr : Nat) (s1 : Int)  (w0 : va_W) : va_W → Prop := fun u => TW ksC ad cy B qr s1 u ∧ FE ksC [(6, 1, 1)] w0 u ∧ Ev (fun n => m_X6_pass n 1 (sI w0)) (0, sI u) ∧ ((True))
set_option maxHeartbeats 4000000 in
set_option maxRecDepth 100000 in
theorem kz_X6_pass_1 (l : Launch) (adK adV : Nat → Nat) (dC : Nat → ClassId) (dI : Nat → Nat → Nat) (cy : Nat → ClassId) (ad : Nat → Nat) (B : Int) (hB0 : 2147483648 ≤ B) (hB1 : B ≤ 1152921504606846976) (qr : Nat) (s1 : Int)   (w0 : va_W) (sz : Nat) (hT : TW ksC ad cy B qr s1 w0)  : Met l yX6_pass (wu yX6_pass cX6_pass 1 none) ({ frames := 1, cells := 0, slots := 0, locals := 12 }) (va_Pc [.ref (ad 1)] (wpreS adK adV dC dI cy sz w0)) (va_Qv (Pz_X6_pass_1 ad cy B qr s1  w0) (fun u : va_W => wpost dC dI cy (va_A w0 sz) u) (va_A w0 sz)) 0 0 (va_A w0 sz) := by
  refine Met.ofW (cc := cX6_pass) (maxL := 1) (ret := none) (by decide) rfl ?_
  intro p e s m args below meth c s₁ Bk hml hv
  obtain ⟨rfl, ⟨hsz, hP, hK, hD0⟩, hE, hSR⟩ := hv
  have hx := Bk.exec
  have hb := Bk.bytes
  have hr := Bk.returns
  have hlocks := Bk.notSynchronized
  have hC : CallFix p m c cX6_pass 1 s _ (wu yX6_pass cX6_pass 1 none) RX6 := ⟨hx, hb, hml, findClass_of_methodNamed Bk.named, atoms_spec (ws := (wu yX6_pass cX6_pass 1 none)) Bk.pre⟩
  subst hsz
  have hD := hD0.self (sz := s.heap.size)
  generalize hAe : va_A w0 s.heap.size = A at hD hE ⊢
  have hA : ∀ q : Nat, s.heap.size ≤ q → A q := fun q h => by rw [← hAe]; exact Or.inr h
  have hw : Wd dC dI A s.heap s.heap [] w0 := ⟨hP, hD, va_S.rf⟩
  have hF : FE ksC [(6, 1, 1)] w0 w0 := FE.rf
  have hl := lv_entry ([.ref (ad 1)]) (n := 1) (Nat.le_of_ble_eq_true rfl)
  rw [lg_entry_eq]
  generalize (lg_sl ([.ref (ad 1)]) ++ List.replicate (1 - (lg_sl ([.ref (ad 1)])).length) Slot.unset).toArray = ls at hl ⊢
  have hl : lv_has ls 1 [(0, .ref (ad 1))] := hl
  generalize hloc : ([] : List Loc) = locs at hw ⊢
  have hinX6 : ∀ w ∈ u_ws RX6 TX6 5, w ∈ (wu yX6_pass cX6_pass 1 none) := fun _ h => List.mem_cons_of_mem _ (up_72 h)
  have J21 : ∀ (f21_1_1 : Int32) (f21_1_2 : Int32) (H : Heap) (locs : List Loc) (ls : Array Slot) (w1 : va_W), 0 ≤ f21_1_1.toInt → f21_1_1.toInt ≤ 400 → 0 ≤ f21_1_2.toInt → f21_1_2.toInt ≤ 400 → Wd dC dI A s.heap H locs w1 → TW ksC ad cy B qr s1 w1 → FE ksC [(6, 1, 1)] w0 w1 → gi w1 1 1 = f21_1_1 → gi w1 1 2 = f21_1_2 → TT (fun n => m_X6_pass n 1 (sI w0)) (fun n => b_X6_pass_21 n 1 (sI w1)) → lv_has ls 1 [(0, .ref (ad 1))] → W p l e ({ frames := 1, cells := 0, slots := 0, locals := 12 }) s m (List.toArray [.ref (ad 1)]) below meth c H locs 0 0 (MQ below (va_Qv (Pz_X6_pass_1 ad cy B qr s1  w0) (fun u : va_W => wpost dC dI cy A u) A) (List.toArray [.ref (ad 1)]) s 0 0 A) (F0 m 21 ls []) := by
    intro f21_1_1 f21_1_2 H locs ls w1 r2 t3 r5 t6 hw hT hF c4 c7 hM hl
    exact tk_vret hC hr hlocks hK ⟨hT, hF, hM.ret rfl, trivial⟩ hw dX6_pass_21
  have hM : TT (fun n => m_X6_pass n 1 (sI w0)) (fun n => m_X6_pass n 1 (sI w0)) := TT.rf
  refine lv_aload_n hx hb dX6_pass_0 rfl (lv_at hl 0 rfl) ?_
  refine tk_geti hC hK hw hT hinX6 kC_at1 (by decide) rfl 1 (by decide) (List.mem_cons_of_mem _ uw_9_16) rfl rfl dX6_pass_1 (fun x8 c9 rx8 tx8 => ?_)
  replace hM := hM.rd (sI_at c9)
  refine lv_aload_n hx hb dX6_pass_4 rfl (lv_at hl 0 rfl) ?_
  refine tk_geti hC hK hw hT hinX6 kC_at1 (by decide) rfl 2 (by decide) (List.mem_cons_of_mem _ uw_7_22) rfl rfl dX6_pass_5 (fun x10 c11 rx10 tx10 => ?_)
  replace hM := hM.rd (sI_at c11)
  refine lv_icmp_ge (tgt := 21) hx hb dX6_pass_8 (by decide) (fun c12 => ?_) (fun c12 => ?_)
  · have c12 : x10.toInt ≤ x8.toInt := wk_le.mp c12
    replace hM := hM.pos c12
    exact J21 x8 x10 s.heap locs ls w0 (show 0 ≤ x8.toInt from rx8) (show x8.toInt ≤ 400 from tx8) (show 0 ≤ x10.toInt from rx10) (show x10.toInt ≤ 400 from tx10)  hw hT hF c9 c11 hM (lv_sub hl [0] rfl)
  · have c12 : x8.toInt < x10.toInt := wk_leF c12
    replace hM := hM.neg (Int.not_le.mpr c12)
    refine lv_aload_n hx hb dX6_pass_11 rfl (lv_at hl 0 rfl) ?_
    refine lv_dup hx hb dX6_pass_12 rfl ?_
    refine tk_geti hC hK hw hT hinX6 kC_at1 (by decide) rfl 1 (by decide) (List.mem_cons_of_mem _ uw_9_16) rfl rfl dX6_pass_13 (fun x13 c14 rx13 tx13 => ?_)
    refine wk_top x8 (c14.symm.trans c9) ?_
    replace hM := hM.rd (sI_at c9)
    refine lv_iconst (v := 1) hx hb dX6_pass_16 (by decide) ?_
    refine lv_iadd hx hb dX6_pass_17 ?_
    refine lv_topi (fun x15 ex15 => ?_)
    have ezx15 := ex15
    have ex15 : x15.toInt = x8.toInt + (1 : Int) := by rw [ex15]; exact wk_add (show (-2147483648) ≤ x8.toInt + (1 : Int) by omega) (show x8.toInt + (1 : Int) ≤ 2147483647 by omega)
    replace hM := hM.lt ex15.symm
    refine tk_puti hC hK hw hT hinX6 tyX6_ok nmX6 kC_at1 (by decide) rfl rfl 1 (by decide) (List.mem_cons_of_mem _ uw_9_16) rfl rfl rfl rfl (show 0 ≤ x15.toInt by first | with_reducible assumption | omega) (show x15.toInt ≤ 400 by first | with_reducible assumption | omega) dX6_pass_18 (fun H locs w16 hw hT k18 c17 => ?_)
    replace hM := hM.wr (sI_up k18 c17)
    have hF := hF.put kC_at1 (k := 1) (by decide) k18
    have c19 := k18.gi (Or.inr (by decide)) c11
    exact J21 x15 x10 H locs ls w16 (show 0 ≤ x15.toInt by first | with_reducible assumption | omega) (show x15.toInt ≤ 400 by first | with_reducible assumption | omega) (show 0 ≤ x10.toInt from rx10) (show x10.toInt ≤ 400 from tx10)  hw hT hF c17 c19 hM (lv_sub hl [0] rfl)
abbrev Pz_X6_takeByte_1 (ad : Nat → Nat) (cy : Nat → ClassId) (B : Int) (qr : Nat) (s1 : Int)  (w0 : va_W) : Int32 → va_W → Prop := fun r u => TW ksC ad cy B qr s1 u ∧ FE ksC [(6, 1, 1), (6, 3, 3)] w0 u ∧ Ev (fun n => m_X6_takeByte n 1 59 (sI w0)) (r.toInt, sI u) ∧ ((r = 0) ∨ (r = 1 ∧ (∃ y : Int32, gi u 1 2 = y ∧ 1 ≤ y.toInt ∧ y.toInt ≤ 400) ∧ (∃ y : Int32, gi u 1 3 = y ∧ 0 ≤ y.toInt ∧ y.toInt ≤ 399)))
set_option maxHeartbeats 4000000 in
set_option maxRecDepth 100000 in
theorem kz_X6_takeByte_1 (l : Launch) (adK adV : Nat → Nat) (dC : Nat → ClassId) (dI : Nat → Nat → Nat) (cy : Nat → ClassId) (ad : Nat → Nat) (B : Int) (hB0 : 2147483648 ≤ B) (hB1 : B ≤ 1152921504606846976) (qr : Nat) (s1 : Int)   (w0 : va_W) (sz : Nat) (hT : TW ksC ad cy B qr s1 w0)  : Met l yX6_takeByte (wu yX6_takeByte cX6_takeByte 2 (some .boolean)) ({ frames := 2, cells := 0, slots := 0, locals := 32 }) (va_Pc [.ref (ad 1), .int 59] (wpreS adK adV dC dI cy sz w0)) (va_Qi (Pz_X6_takeByte_1 ad cy B qr s1  w0) (fun u : va_W => wpost dC dI cy (va_A w0 sz) u) (va_A w0 sz)) 0 0 (va_A w0 sz) := by
  refine Met.ofW (cc := cX6_takeByte) (maxL := 2) (ret := (some .boolean)) (by decide) rfl ?_
  intro p e s m args below meth c s₁ Bk hml hv
  obtain ⟨rfl, ⟨hsz, hP, hK, hD0⟩, hE, hSR⟩ := hv
  have hx := Bk.exec
  have hb := Bk.bytes
  have hr := Bk.returns
  have hlocks := Bk.notSynchronized
  have hC : CallFix p m c cX6_takeByte 2 s _ (wu yX6_takeByte cX6_takeByte 2 (some .boolean)) RX6 := ⟨hx, hb, hml, findClass_of_methodNamed Bk.named, atoms_spec (ws := (wu yX6_takeByte cX6_takeByte 2 (some .boolean))) Bk.pre⟩
  subst hsz
  have hD := hD0.self (sz := s.heap.size)
  generalize hAe : va_A w0 s.heap.size = A at hD hE ⊢
  have hA : ∀ q : Nat, s.heap.size ≤ q → A q := fun q h => by rw [← hAe]; exact Or.inr h
  have hw : Wd dC dI A s.heap s.heap [] w0 := ⟨hP, hD, va_S.rf⟩
  have hF : FE ksC [(6, 1, 1), (6, 3, 3)] w0 w0 := FE.rf
  have hl := lv_entry ([.ref (ad 1), .int 59]) (n := 2) (Nat.le_of_ble_eq_true rfl)
  rw [lg_entry_eq]
  generalize (lg_sl ([.ref (ad 1), .int 59]) ++ List.replicate (2 - (lg_sl ([.ref (ad 1), .int 59])).length) Slot.unset).toArray = ls at hl ⊢
  have hl : lv_has ls 2 [(0, .ref (ad 1)), (1, .int 59)] := hl
  generalize hloc : ([] : List Loc) = locs at hw ⊢
  have hM : TT (fun n => m_X6_takeByte n 1 59 (sI w0)) (fun n => m_X6_takeByte n 1 59 (sI w0)) := TT.rf
  refine lv_aload_n hx hb dX6_takeByte_0 rfl (lv_at hl 0 rfl) ?_
  refine tk_Vi hC hK hw hT hA hE hSR kC_at1 (by decide) rfl (kz_X6_lookBehindBlanks_1 l adK adV dC dI cy ad B hB0 (Int.le_trans hB1 (by decide)) qr s1    w0 s.heap.size hT ) (cwV 0 hC.2.2.2.2 uV_RX6_28 rfl rfl rfl (by decide +kernel) ⟨Nat.le_of_ble_eq_true rfl, Nat.le_of_ble_eq_true rfl⟩) rfl hl.1 rfl (Nat.le_of_ble_eq_true rfl) dX6_takeByte_1 (fun r1 w3 H locs hp2 hw => ?_)
  obtain ⟨hT, k4, hv14, hg13⟩ := hp2
  have hF := hF.tr k4 (by decide)
  rcases hg13 with ⟨g5, g6, ⟨x7, c8, rx7, tx7⟩, ⟨x9, c10, rx9, tx9⟩, ⟨x11, c12, rx11, tx11⟩⟩ | rfl
  · replace hM := hM.call hv14 rfl
    refine lv_iload_n hx hb dX6_takeByte_4 rfl (lv_at hl 1 rfl) ?_
    refine lv_icmp_eq (tgt := 10) hx hb dX6_takeByte_5 (by decide) (fun c15 => ?_) (fun c15 => ?_)
    · have c15 : r1.toInt = (59 : Int) := wk_eq.mp c15
      replace hM := hM.pos c15
      refine lv_aload_n hx hb dX6_takeByte_10 rfl (lv_at hl 0 rfl) ?_
      refine tk_Vv hC hK hw hT hA hE hSR kC_at1 (by decide) rfl (kz_X6_pass_1 l adK adV dC dI cy ad B hB0 (Int.le_trans hB1 (by decide)) qr s1    w3 H.size hT ) (cwV 0 hC.2.2.2.2 uV_RX6_32 rfl rfl rfl (by decide +kernel) ⟨Nat.le_of_ble_eq_true rfl, Nat.le_of_ble_eq_true rfl⟩) rfl hl.1 rfl (Nat.le_of_ble_eq_true rfl) dX6_takeByte_11 (fun w18 H locs hp17 hw => ?_)
      obtain ⟨hT, k19, hv21, hg20⟩ := hp17
      have hF := hF.tr k19 (by decide)
      have c22 := k19.gi kC_at1 (by decide) c10
      have c23 := k19.gi kC_at1 (by decide) c12
      clear hg20
      replace hM := hM.call hv21 rfl
      refine lv_iconst (v := 1) hx hb dX6_takeByte_14 (by decide) ?_
      exact tk_zret hC hr rfl hlocks hK ⟨hT, hF, hM.ret (by decide), (Or.inr ⟨rfl, ⟨x9, c22, (show 1 ≤ x9.toInt by first | with_reducible assumption | omega), (show x9.toInt ≤ 400 by first | with_reducible assumption | omega)⟩, ⟨x11, c23, (show 0 ≤ x11.toInt by first | with_reducible assumption | omega), (show x11.toInt ≤ 399 by first | with_reducible assumption | omega)⟩⟩)⟩ hw dX6_takeByte_15
    · have c15 : ¬ r1.toInt = (59 : Int) := wk_eqF c15
      replace hM := hM.neg c15
      refine lv_iconst (v := 0) hx hb dX6_takeByte_8 (by decide) ?_
      exact tk_zret hC hr rfl hlocks hK ⟨hT, hF, hM.ret (by decide), (Or.inl rfl)⟩ hw dX6_takeByte_9
  · replace hM := hM.call (r' := (-1)) hv14 (by decide)
    refine lv_iload_n hx hb dX6_takeByte_4 rfl (lv_at hl 1 rfl) ?_
    refine lv_icmp_eq (tgt := 10) hx hb dX6_takeByte_5 (by decide) (fun c => absurd c (by decide)) (fun _ => ?_)
    replace hM := hM.neg (by decide)
    refine lv_iconst (v := 0) hx hb dX6_takeByte_8 (by decide) ?_
    exact tk_zret hC hr rfl hlocks hK ⟨hT, hF, hM.ret (by decide), (Or.inl rfl)⟩ hw dX6_takeByte_9
abbrev Pz_X6_look_1 (ad : Nat → Nat) (cy : Nat → ClassId) (B : Int) (qr : Nat) (s1 : Int)  (w0 : va_W) : Int32 → va_W → Prop := fun r u => TW ksC ad cy B qr s1 u ∧ FE ksC ([] : List (Nat × Nat × Nat)) w0 u ∧ Ev (fun n => m_X6_look n 1 (sI w0)) (r.toInt, sI u) ∧ ((0 ≤ r.toInt ∧ r.toInt ≤ 255 ∧ (∃ y : Int32, gi u 1 1 = y ∧ 0 ≤ y.toInt ∧ y.toInt ≤ 399) ∧ (∃ y : Int32, gi u 1 2 = y ∧ 1 ≤ y.toInt ∧ y.toInt ≤ 400)) ∨ (r = (-1)))
set_option maxHeartbeats 4000000 in
set_option maxRecDepth 100000 in
theorem kz_X6_look_1 (l : Launch) (adK adV : Nat → Nat) (dC : Nat → ClassId) (dI : Nat → Nat → Nat) (cy : Nat → ClassId) (ad : Nat → Nat) (B : Int) (hB0 : 2147483648 ≤ B) (hB1 : B ≤ 1152921504606846976) (qr : Nat) (s1 : Int)   (w0 : va_W) (sz : Nat) (hT : TW ksC ad cy B qr s1 w0)  : Met l yX6_look (wu yX6_look cX6_look 1 (some .int)) ({ frames := 1, cells := 0, slots := 0, locals := 12 }) (va_Pc [.ref (ad 1)] (wpreS adK adV dC dI cy sz w0)) (va_Qi (Pz_X6_look_1 ad cy B qr s1  w0) (fun u : va_W => wpost dC dI cy (va_A w0 sz) u) (va_A w0 sz)) 0 0 (va_A w0 sz) := by
  refine Met.ofW (cc := cX6_look) (maxL := 1) (ret := (some .int)) (by decide) rfl ?_
  intro p e s m args below meth c s₁ Bk hml hv
  obtain ⟨rfl, ⟨hsz, hP, hK, hD0⟩, hE, hSR⟩ := hv
  have hx := Bk.exec
  have hb := Bk.bytes
  have hr := Bk.returns
  have hlocks := Bk.notSynchronized
  have hC : CallFix p m c cX6_look 1 s _ (wu yX6_look cX6_look 1 (some .int)) RX6 := ⟨hx, hb, hml, findClass_of_methodNamed Bk.named, atoms_spec (ws := (wu yX6_look cX6_look 1 (some .int))) Bk.pre⟩
  subst hsz
  have hD := hD0.self (sz := s.heap.size)
  generalize hAe : va_A w0 s.heap.size = A at hD hE ⊢
  have hA : ∀ q : Nat, s.heap.size ≤ q → A q := fun q h => by rw [← hAe]; exact Or.inr h
  have hw : Wd dC dI A s.heap s.heap [] w0 := ⟨hP, hD, va_S.rf⟩
  have hF : FE ksC ([] : List (Nat × Nat × Nat)) w0 w0 := FE.rf
  have hl := lv_entry ([.ref (ad 1)]) (n := 1) (Nat.le_of_ble_eq_true rfl)
  rw [lg_entry_eq]
  generalize (lg_sl ([.ref (ad 1)]) ++ List.replicate (1 - (lg_sl ([.ref (ad 1)])).length) Slot.unset).toArray = ls at hl ⊢
  have hl : lv_has ls 1 [(0, .ref (ad 1))] := hl
  generalize hloc : ([] : List Loc) = locs at hw ⊢
  have hinX6 : ∀ w ∈ u_ws RX6 TX6 5, w ∈ (wu yX6_look cX6_look 1 (some .int)) := fun _ h => List.mem_cons_of_mem _ (up_72 h)
  have hM : TT (fun n => m_X6_look n 1 (sI w0)) (fun n => m_X6_look n 1 (sI w0)) := TT.rf
  refine lv_aload_n hx hb dX6_look_0 rfl (lv_at hl 0 rfl) ?_
  refine tk_geti hC hK hw hT hinX6 kC_at1 (by decide) rfl 1 (by decide) (List.mem_cons_of_mem _ uw_9_16) rfl rfl dX6_look_1 (fun x1 c2 rx1 tx1 => ?_)
  replace hM := hM.rd (sI_at c2)
  refine lv_aload_n hx hb dX6_look_4 rfl (lv_at hl 0 rfl) ?_
  refine tk_geti hC hK hw hT hinX6 kC_at1 (by decide) rfl 2 (by decide) (List.mem_cons_of_mem _ uw_7_22) rfl rfl dX6_look_5 (fun x3 c4 rx3 tx3 => ?_)
  replace hM := hM.rd (sI_at c4)
  refine lv_icmp_ge (tgt := 23) hx hb dX6_look_8 (by decide) (fun c5 => ?_) (fun c5 => ?_)
  · have c5 : x3.toInt ≤ x1.toInt := wk_le.mp c5
    replace hM := hM.pos c5
    refine lv_iconst (v := (-1)) hx hb dX6_look_23 (by decide) ?_
    exact tk_iret hC hr hlocks hK ⟨hT, hF, hM.ret (by decide), (Or.inr rfl)⟩ hw dX6_look_24
  · have c5 : x1.toInt < x3.toInt := wk_leF c5
    replace hM := hM.neg (Int.not_le.mpr c5)
    refine lv_aload_n hx hb dX6_look_11 rfl (lv_at hl 0 rfl) ?_
    refine tk_getA hC hK hw hT hinX6 kC_at1 (by decide) rfl 0 (by decide) (List.mem_cons_of_mem _ uw_2_12) rfl rfl dX6_look_12 ?_
    refine lv_aload_n hx hb dX6_look_15 rfl (lv_at hl 0 rfl) ?_
    refine tk_geti hC hK hw hT hinX6 kC_at1 (by decide) rfl 1 (by decide) (List.mem_cons_of_mem _ uw_9_16) rfl rfl dX6_look_16 (fun x6 c7 rx6 tx6 => ?_)
    refine wk_top x1 (c7.symm.trans c2) ?_
    replace hM := hM.rd (sI_at c2)
    refine tk_iald hC hK hw hT kC_at2 rfl rfl (show 0 ≤ x1.toInt from rx1) (show x1.toInt < 400 by first | with_reducible assumption | omega) dX6_look_19 (fun x8 c9 rx8 tx8 => ?_)
    have hox8 := c9
    replace hM := hM.rd (sI_at hox8)
    refine lv_goto (tgt := 24) hx hb dX6_look_20 (by decide) ?_
    exact tk_iret hC hr hlocks hK ⟨hT, hF, hM.ret rfl, (Or.inl ⟨(show 0 ≤ x8.toInt from rx8), (show x8.toInt ≤ 255 from tx8), ⟨x1, c2, (show 0 ≤ x1.toInt from rx1), (show x1.toInt ≤ 399 by first | with_reducible assumption | omega)⟩, ⟨x3, c4, (show 1 ≤ x3.toInt by first | with_reducible assumption | omega), (show x3.toInt ≤ 400 from tx3)⟩⟩)⟩ hw dX6_look_24
abbrev Pz_X6_blameHere_1 (ad : Nat → Nat) (cy : Nat → ClassId) (B : Int) (qr : Nat) (s1 : Int)  (w0 : va_W) : va_W → Prop := fun u => TW ksC ad cy B qr s1 u ∧ FE ksC [(6, 4, 4)] w0 u ∧ Ev (fun n => m_X6_blameHere n 1 (sI w0)) (0, sI u) ∧ (((∃ y : Int32, gi u 1 4 = y ∧ 1 ≤ y.toInt ∧ y.toInt ≤ 3205)))
set_option maxHeartbeats 4000000 in
set_option maxRecDepth 100000 in
theorem kz_X6_blameHere_1 (l : Launch) (adK adV : Nat → Nat) (dC : Nat → ClassId) (dI : Nat → Nat → Nat) (cy : Nat → ClassId) (ad : Nat → Nat) (B : Int) (hB0 : 2147483648 ≤ B) (hB1 : B ≤ 1152921504606846976) (qr : Nat) (s1 : Int)   (w0 : va_W) (sz : Nat) (hT : TW ksC ad cy B qr s1 w0) (cf0_ : gi w0 1 4 = 0) : Met l yX6_blameHere (wu yX6_blameHere cX6_blameHere 1 none) ({ frames := 2, cells := 0, slots := 0, locals := 34 }) (va_Pc [.ref (ad 1)] (wpreS adK adV dC dI cy sz w0)) (va_Qv (Pz_X6_blameHere_1 ad cy B qr s1  w0) (fun u : va_W => wpost dC dI cy (va_A w0 sz) u) (va_A w0 sz)) 0 0 (va_A w0 sz) := by
  refine Met.ofW (cc := cX6_blameHere) (maxL := 1) (ret := none) (by decide) rfl ?_
  intro p e s m args below meth c s₁ Bk hml hv
  obtain ⟨rfl, ⟨hsz, hP, hK, hD0⟩, hE, hSR⟩ := hv
  have hx := Bk.exec
  have hb := Bk.bytes
  have hr := Bk.returns
  have hlocks := Bk.notSynchronized
  have hC : CallFix p m c cX6_blameHere 1 s _ (wu yX6_blameHere cX6_blameHere 1 none) RX6 := ⟨hx, hb, hml, findClass_of_methodNamed Bk.named, atoms_spec (ws := (wu yX6_blameHere cX6_blameHere 1 none)) Bk.pre⟩
  subst hsz
  have hD := hD0.self (sz := s.heap.size)
  generalize hAe : va_A w0 s.heap.size = A at hD hE ⊢
  have hA : ∀ q : Nat, s.heap.size ≤ q → A q := fun q h => by rw [← hAe]; exact Or.inr h
  have hw : Wd dC dI A s.heap s.heap [] w0 := ⟨hP, hD, va_S.rf⟩
  have hF : FE ksC [(6, 4, 4)] w0 w0 := FE.rf
  have hl := lv_entry ([.ref (ad 1)]) (n := 1) (Nat.le_of_ble_eq_true rfl)
  rw [lg_entry_eq]
  generalize (lg_sl ([.ref (ad 1)]) ++ List.replicate (1 - (lg_sl ([.ref (ad 1)])).length) Slot.unset).toArray = ls at hl ⊢
  have hl : lv_has ls 1 [(0, .ref (ad 1))] := hl
  generalize hloc : ([] : List Loc) = locs at hw ⊢
  have hinX6 : ∀ w ∈ u_ws RX6 TX6 5, w ∈ (wu yX6_blameHere cX6_blameHere 1 none) := fun _ h => List.mem_cons_of_mem _ (up_72 h)
  have hM : TT (fun n => m_X6_blameHere n 1 (sI w0)) (fun n => m_X6_blameHere n 1 (sI w0)) := TT.rf
  refine lv_aload_n hx hb dX6_blameHere_0 rfl (lv_at hl 0 rfl) ?_
  refine lv_aload_n hx hb dX6_blameHere_1 rfl (lv_at hl 0 rfl) ?_
  refine tk_geti hC hK hw hT hinX6 kC_at1 (by decide) rfl 1 (by decide) (List.mem_cons_of_mem _ uw_9_16) rfl rfl dX6_blameHere_2 (fun x1 c2 rx1 tx1 => ?_)
  replace hM := hM.rd (sI_at c2)
  refine lv_iconst (v := 0) hx hb dX6_blameHere_5 (by decide) ?_
  refine tk_Vv hC hK hw hT hA hE hSR kC_at1 (by decide) rfl (kz_X6_blame_2 l adK adV dC dI cy ad B hB0 (Int.le_trans hB1 (by decide)) qr s1   x1 (show 0 ≤ x1.toInt from rx1) (show x1.toInt ≤ 400 from tx1) 0 (by decide) (by decide) w0 s.heap.size hT cf0_) (cwV 2 hC.2.2.2.2 uV_RX6_35 rfl rfl rfl (by decide +kernel) ⟨Nat.le_of_ble_eq_true rfl, Nat.le_of_ble_eq_true rfl⟩) rfl hl.1 rfl (Nat.le_of_ble_eq_true rfl) dX6_blameHere_6 (fun w5 H locs hp4 hw => ?_)
  obtain ⟨hT, k6, hv10, hg9⟩ := hp4
  try simp only [show (0 : Int32).toInt = 0 by decide] at hv10
  have hF := hF.tr k6 (by decide)
  have c11 := k6.gi kC_at1 (by decide) c2
  obtain ⟨x7, c8, rx7, tx7⟩ := hg9
  replace hM := hM.call hv10 rfl
  exact tk_vret hC hr hlocks hK ⟨hT, hF, hM.ret rfl, ⟨x7, c8, (show 1 ≤ x7.toInt by first | with_reducible assumption | omega), (show x7.toInt ≤ 3205 by first | with_reducible assumption | omega)⟩⟩ hw dX6_blameHere_9
abbrev Pz_X6_takeSemicolon_2 (ad : Nat → Nat) (cy : Nat → ClassId) (B : Int) (qr : Nat) (s1 : Int)  (w0 : va_W) : Int32 → va_W → Prop := fun r u => TW ksC ad cy B qr s1 u ∧ FE ksC [(6, 1, 1), (6, 3, 3), (6, 4, 4)] w0 u ∧ Ev (fun n => m_X6_takeSemicolon n 1 (sI w0)) (r.toInt, sI u) ∧ ((r = 0 ∧ (∃ y : Int32, gi u 1 4 = y ∧ 1 ≤ y.toInt ∧ y.toInt ≤ 3205)) ∨ (r = 0 ∧ (∃ y : Int32, gi u 1 4 = y ∧ 0 ≤ y.toInt ∧ y.toInt ≤ 3205)) ∨ (r = 1 ∧ (∃ y : Int32, gi u 1 2 = y ∧ 1 ≤ y.toInt ∧ y.toInt ≤ 400) ∧ (∃ y : Int32, gi u 1 3 = y ∧ 0 ≤ y.toInt ∧ y.toInt ≤ 399) ∧ (∃ y : Int32, gi u 1 4 = y ∧ 0 ≤ y.toInt ∧ y.toInt ≤ 0)))
set_option maxHeartbeats 4000000 in
set_option maxRecDepth 100000 in
theorem kz_X6_takeSemicolon_2 (l : Launch) (adK adV : Nat → Nat) (dC : Nat → ClassId) (dI : Nat → Nat → Nat) (cy : Nat → ClassId) (ad : Nat → Nat) (B : Int) (hB0 : 2147483648 ≤ B) (hB1 : B ≤ 1152921504606846976) (qr : Nat) (s1 : Int)   (w0 : va_W) (sz : Nat) (hT : TW ksC ad cy B qr s1 w0)  : Met l yX6_takeSemicolon (wu yX6_takeSemicolon cX6_takeSemicolon 1 (some .boolean)) ({ frames := 3, cells := 0, slots := 0, locals := 54 }) (va_Pc [.ref (ad 1)] (wpreS adK adV dC dI cy sz w0)) (va_Qi (Pz_X6_takeSemicolon_2 ad cy B qr s1  w0) (fun u : va_W => wpost dC dI cy (va_A w0 sz) u) (va_A w0 sz)) 0 0 (va_A w0 sz) := by
  refine Met.ofW (cc := cX6_takeSemicolon) (maxL := 1) (ret := (some .boolean)) (by decide) rfl ?_
  intro p e s m args below meth c s₁ Bk hml hv
  obtain ⟨rfl, ⟨hsz, hP, hK, hD0⟩, hE, hSR⟩ := hv
  have hx := Bk.exec
  have hb := Bk.bytes
  have hr := Bk.returns
  have hlocks := Bk.notSynchronized
  have hC : CallFix p m c cX6_takeSemicolon 1 s _ (wu yX6_takeSemicolon cX6_takeSemicolon 1 (some .boolean)) RX6 := ⟨hx, hb, hml, findClass_of_methodNamed Bk.named, atoms_spec (ws := (wu yX6_takeSemicolon cX6_takeSemicolon 1 (some .boolean))) Bk.pre⟩
  subst hsz
  have hD := hD0.self (sz := s.heap.size)
  generalize hAe : va_A w0 s.heap.size = A at hD hE ⊢
  have hA : ∀ q : Nat, s.heap.size ≤ q → A q := fun q h => by rw [← hAe]; exact Or.inr h
  have hw : Wd dC dI A s.heap s.heap [] w0 := ⟨hP, hD, va_S.rf⟩
  have hF : FE ksC [(6, 1, 1), (6, 3, 3), (6, 4, 4)] w0 w0 := FE.rf
  have hl := lv_entry ([.ref (ad 1)]) (n := 1) (Nat.le_of_ble_eq_true rfl)
  rw [lg_entry_eq]
  generalize (lg_sl ([.ref (ad 1)]) ++ List.replicate (1 - (lg_sl ([.ref (ad 1)])).length) Slot.unset).toArray = ls at hl ⊢
  have hl : lv_has ls 1 [(0, .ref (ad 1))] := hl
  generalize hloc : ([] : List Loc) = locs at hw ⊢
  have J32 : ∀ (f32_1_4 : Int32) (H : Heap) (locs : List Loc) (ls : Array Slot) (w1 : va_W), 0 ≤ f32_1_4.toInt → f32_1_4.toInt ≤ 3205 → Wd dC dI A s.heap H locs w1 → TW ksC ad cy B qr s1 w1 → FE ksC [(6, 1, 1), (6, 3, 3), (6, 4, 4)] w0 w1 → gi w1 1 4 = f32_1_4 → TT (fun n => m_X6_takeSemicolon n 1 (sI w0)) (fun n => b_X6_takeSemicolon_32 n 1 (sI w1)) → lv_has ls 1 [(0, .ref (ad 1))] → W p l e ({ frames := 3, cells := 0, slots := 0, locals := 54 }) s m (List.toArray [.ref (ad 1)]) below meth c H locs 0 0 (MQ below (va_Qi (Pz_X6_takeSemicolon_2 ad cy B qr s1  w0) (fun u : va_W => wpost dC dI cy A u) A) (List.toArray [.ref (ad 1)]) s 0 0 A) (F0 m 32 ls []) := by
    intro f32_1_4 H locs ls w1 r2 t3 hw hT hF c4 hM hl
    refine lv_iconst (v := 0) hx hb dX6_takeSemicolon_32 (by decide) ?_
    exact tk_zret hC hr rfl hlocks hK ⟨hT, hF, hM.ret (by decide), (Or.inr (Or.inl ⟨rfl, ⟨f32_1_4, c4, (show 0 ≤ f32_1_4.toInt from r2), (show f32_1_4.toInt ≤ 3205 from t3)⟩⟩))⟩ hw dX6_takeSemicolon_33
  have hM : TT (fun n => m_X6_takeSemicolon n 1 (sI w0)) (fun n => m_X6_takeSemicolon n 1 (sI w0)) := TT.rf
  refine lv_aload_n hx hb dX6_takeSemicolon_0 rfl (lv_at hl 0 rfl) ?_
  refine tk_Vi hC hK hw hT hA hE hSR kC_at1 (by decide) rfl (kz_X6_isFaulty_1 l adK adV dC dI cy ad B hB0 (Int.le_trans hB1 (by decide)) qr s1    w0 s.heap.size hT ) (cwV 0 hC.2.2.2.2 uV_RX6_39 rfl rfl rfl (by decide +kernel) ⟨Nat.le_of_ble_eq_true rfl, Nat.le_of_ble_eq_true rfl⟩) rfl hl.1 rfl (Nat.le_of_ble_eq_true rfl) dX6_takeSemicolon_1 (fun r5 w7 H locs hp6 hw => ?_)
  obtain ⟨hT, k8, hv14, hg13⟩ := hp6
  have hF := hF.tr k8 (by decide)
  rcases hg13 with ⟨rfl, ⟨x9, c10, rx9, tx9⟩⟩ | ⟨rfl, ⟨x11, c12, rx11, tx11⟩⟩
  · replace hM := hM.call (r' := 0) hv14 (by decide)
    refine lv_if_eq (tgt := 9) hx hb dX6_takeSemicolon_4 (by decide) (fun _ => ?_) (fun c => absurd (by decide) c)
    replace hM := hM.pos (by decide)
    refine lv_aload_n hx hb dX6_takeSemicolon_9 rfl (lv_at hl 0 rfl) ?_
    refine lv_bipush (v := 59) hx hb dX6_takeSemicolon_10 (by decide) ?_
    refine tk_Vi hC hK hw hT hA hE hSR kC_at1 (by decide) rfl (kz_X6_takeByte_1 l adK adV dC dI cy ad B hB0 (Int.le_trans hB1 (by decide)) qr s1    w7 H.size hT ) (cwV 1 hC.2.2.2.2 uV_RX6_43 rfl rfl rfl (by decide +kernel) ⟨Nat.le_of_ble_eq_true rfl, Nat.le_of_ble_eq_true rfl⟩) rfl hl.1 rfl (Nat.le_of_ble_eq_true rfl) dX6_takeSemicolon_12 (fun r15 w17 H locs hp16 hw => ?_)
    obtain ⟨hT, k18, hv24, hg23⟩ := hp16
    have hF := hF.tr k18 (by decide)
    have c25 := k18.gi kC_at1 (by decide) c10
    rcases hg23 with rfl | ⟨rfl, ⟨x19, c20, rx19, tx19⟩, ⟨x21, c22, rx21, tx21⟩⟩
    · replace hM := hM.call (r' := 0) hv24 (by decide)
      refine lv_if_eq (tgt := 20) hx hb dX6_takeSemicolon_15 (by decide) (fun _ => ?_) (fun c => absurd (by decide) c)
      replace hM := hM.pos (by decide)
      refine lv_aload_n hx hb dX6_takeSemicolon_20 rfl (lv_at hl 0 rfl) ?_
      refine tk_Vi hC hK hw hT hA hE hSR kC_at1 (by decide) rfl (kz_X6_look_1 l adK adV dC dI cy ad B hB0 (Int.le_trans hB1 (by decide)) qr s1    w17 H.size hT ) (cwV 0 hC.2.2.2.2 uV_RX6_47 rfl rfl rfl (by decide +kernel) ⟨Nat.le_of_ble_eq_true rfl, Nat.le_of_ble_eq_true rfl⟩) rfl hl.1 rfl (Nat.le_of_ble_eq_true rfl) dX6_takeSemicolon_21 (fun r26 w28 H locs hp27 hw => ?_)
      obtain ⟨hT, k29, hv37, hg36⟩ := hp27
      have hF := hF.tr k29 (by decide)
      have c38 := k29.gi kC_at1 (by decide) c25
      rcases hg36 with ⟨g30, g31, ⟨x32, c33, rx32, tx32⟩, ⟨x34, c35, rx34, tx34⟩⟩ | rfl
      · replace hM := hM.call hv37 rfl
        refine lv_iconst (v := (-1)) hx hb dX6_takeSemicolon_24 (by decide) ?_
        refine lv_icmp_eq (tgt := 32) hx hb dX6_takeSemicolon_25 (by decide) (fun c => absurd c (fun h => absurd (show r26.toInt = (-1 : Int) from wk_eq.mp h) (by omega))) (fun _ => ?_)
        replace hM := hM.neg (by omega)
        refine lv_aload_n hx hb dX6_takeSemicolon_28 rfl (lv_at hl 0 rfl) ?_
        refine tk_Vv hC hK hw hT hA hE hSR kC_at1 (by decide) rfl (kz_X6_blameHere_1 l adK adV dC dI cy ad B hB0 (Int.le_trans hB1 (by decide)) qr s1    w28 H.size hT (c38.trans (wk_eq.mpr (show x9.toInt = 0 by first | exact Int.le_antisymm (by omega) (by omega) | omega)))) (cwV 0 hC.2.2.2.2 uV_RX6_50 rfl rfl rfl (by decide +kernel) ⟨Nat.le_of_ble_eq_true rfl, Nat.le_of_ble_eq_true rfl⟩) rfl hl.1 rfl (Nat.le_of_ble_eq_true rfl) dX6_takeSemicolon_29 (fun w41 H locs hp40 hw => ?_)
        obtain ⟨hT, k42, hv46, hg45⟩ := hp40
        have hF := hF.tr k42 (by decide)
        have c47 := k42.gi kC_at1 (by decide) c33
        have c48 := k42.gi kC_at1 (by decide) c35
        obtain ⟨x43, c44, rx43, tx43⟩ := hg45
        replace hM := hM.call hv46 rfl
        exact J32 x43 H locs ls w41 (show 0 ≤ x43.toInt by first | with_reducible assumption | omega) (show x43.toInt ≤ 3205 by first | with_reducible assumption | omega)  hw hT hF c44 hM (lv_sub hl [0] rfl)
      · replace hM := hM.call (r' := (-1)) hv37 (by decide)
        refine lv_iconst (v := (-1)) hx hb dX6_takeSemicolon_24 (by decide) ?_
        refine lv_icmp_eq (tgt := 32) hx hb dX6_takeSemicolon_25 (by decide) (fun _ => ?_) (fun c => absurd (by decide) c)
        replace hM := hM.pos (by decide)
        exact J32 x9 H locs ls w28 (show 0 ≤ x9.toInt by first | with_reducible assumption | omega) (show x9.toInt ≤ 3205 by first | with_reducible assumption | omega)  hw hT hF c38 hM (lv_sub hl [0] rfl)
    · replace hM := hM.call (r' := 1) hv24 (by decide)
      refine lv_if_eq (tgt := 20) hx hb dX6_takeSemicolon_15 (by decide) (fun c => absurd c (by decide)) (fun _ => ?_)
      replace hM := hM.neg (by decide)
      refine lv_iconst (v := 1) hx hb dX6_takeSemicolon_18 (by decide) ?_
      exact tk_zret hC hr rfl hlocks hK ⟨hT, hF, hM.ret (by decide), (Or.inr (Or.inr ⟨rfl, ⟨x19, c20, (show 1 ≤ x19.toInt by first | with_reducible assumption | omega), (show x19.toInt ≤ 400 by first | with_reducible assumption | omega)⟩, ⟨x21, c22, (show 0 ≤ x21.toInt by first | with_reducible assumption | omega), (show x21.toInt ≤ 399 by first | with_reducible assumption | omega)⟩, ⟨x9, c25, (show 0 ≤ x9.toInt by first | with_reducible assumption | omega), (show x9.toInt ≤ 0 by first | with_reducible assumption | omega)⟩⟩))⟩ hw dX6_takeSemicolon_19
  · replace hM := hM.call (r' := 1) hv14 (by decide)
    refine lv_if_eq (tgt := 9) hx hb dX6_takeSemicolon_4 (by decide) (fun c => absurd c (by decide)) (fun _ => ?_)
    replace hM := hM.neg (by decide)
    refine lv_iconst (v := 0) hx hb dX6_takeSemicolon_7 (by decide) ?_
    exact tk_zret hC hr rfl hlocks hK ⟨hT, hF, hM.ret (by decide), (Or.inl ⟨rfl, ⟨x11, c12, (show 1 ≤ x11.toInt by first | with_reducible assumption | omega), (show x11.toInt ≤ 3205 by first | with_reducible assumption | omega)⟩⟩)⟩ hw dX6_takeSemicolon_8
abbrev Pz_X6_readNumber_2 (ad : Nat → Nat) (cy : Nat → ClassId) (B : Int) (qr : Nat) (s1 : Int) (a2 : Int32) (w0 : va_W) : Int32 → va_W → Prop := fun r u => TW ksC ad cy B qr s1 u ∧ FE ksC [(6, 1, 1), (6, 3, 3), (6, 4, 4)] w0 u ∧ Ev (fun n => m_X6_readNumber n 1 0 a2.toInt (sI w0)) (r.toInt, sI u) ∧ ((0 ≤ r.toInt ∧ r.toInt ≤ 9 ∧ 0 ≤ a2.toInt ∧ (∃ y : Int32, gi u 1 2 = y ∧ 1 ≤ y.toInt ∧ y.toInt ≤ 400) ∧ (∃ y : Int32, gi u 1 3 = y ∧ 0 ≤ y.toInt ∧ y.toInt ≤ 399) ∧ (∃ y : Int32, gi u 1 4 = y ∧ 0 ≤ y.toInt ∧ y.toInt ≤ 0)) ∨ (r = (-1) ∧ (∃ y : Int32, gi u 1 4 = y ∧ 1 ≤ y.toInt ∧ y.toInt ≤ 3205)))
set_option maxHeartbeats 4000000 in
set_option maxRecDepth 100000 in
theorem kz_X6_readNumber_2 (l : Launch) (adK adV : Nat → Nat) (dC : Nat → ClassId) (dI : Nat → Nat → Nat) (cy : Nat → ClassId) (ad : Nat → Nat) (B : Int) (hB0 : 2147483648 ≤ B) (hB1 : B ≤ 1152921504606846976) (qr : Nat) (s1 : Int)  (a2 : Int32) (ra2 : (-2) ≤ a2.toInt) (ta2 : a2.toInt ≤ 9) (w0 : va_W) (sz : Nat) (hT : TW ksC ad cy B qr s1 w0) (cf0_ : gi w0 1 4 = 0) : Met l yX6_readNumber (wu yX6_readNumber cX6_readNumber 4 (some .int)) ({ frames := 2, cells := 0, slots := 0, locals := 34 }) (va_Pc [.ref (ad 1), .int 0, .int a2] (wpreS adK adV dC dI cy sz w0)) (va_Qi (Pz_X6_readNumber_2 ad cy B qr s1 a2 w0) (fun u : va_W => wpost dC dI cy (va_A w0 sz) u) (va_A w0 sz)) 0 0 (va_A w0 sz) := by
  refine Met.ofW (cc := cX6_readNumber) (maxL := 4) (ret := (some .int)) (by decide) rfl ?_
  intro p e s m args below meth c s₁ Bk hml hv
  obtain ⟨rfl, ⟨hsz, hP, hK, hD0⟩, hE, hSR⟩ := hv
  have hx := Bk.exec
  have hb := Bk.bytes
  have hr := Bk.returns
  have hlocks := Bk.notSynchronized
  have hC : CallFix p m c cX6_readNumber 4 s _ (wu yX6_readNumber cX6_readNumber 4 (some .int)) RX6 := ⟨hx, hb, hml, findClass_of_methodNamed Bk.named, atoms_spec (ws := (wu yX6_readNumber cX6_readNumber 4 (some .int))) Bk.pre⟩
  subst hsz
  have hD := hD0.self (sz := s.heap.size)
  generalize hAe : va_A w0 s.heap.size = A at hD hE ⊢
  have hA : ∀ q : Nat, s.heap.size ≤ q → A q := fun q h => by rw [← hAe]; exact Or.inr h
  have hw : Wd dC dI A s.heap s.heap [] w0 := ⟨hP, hD, va_S.rf⟩
  have hF : FE ksC [(6, 1, 1), (6, 3, 3), (6, 4, 4)] w0 w0 := FE.rf
  have hl := lv_entry ([.ref (ad 1), .int 0, .int a2]) (n := 4) (Nat.le_of_ble_eq_true rfl)
  rw [lg_entry_eq]
  generalize (lg_sl ([.ref (ad 1), .int 0, .int a2]) ++ List.replicate (4 - (lg_sl ([.ref (ad 1), .int 0, .int a2])).length) Slot.unset).toArray = ls at hl ⊢
  have hl : lv_has ls 4 [(0, .ref (ad 1)), (1, .int 0), (2, .int a2)] := hl
  generalize hloc : ([] : List Loc) = locs at hw ⊢
  have hinX6 : ∀ w ∈ u_ws RX6 TX6 5, w ∈ (wu yX6_readNumber cX6_readNumber 4 (some .int)) := fun _ h => List.mem_cons_of_mem _ (up_72 h)
  have J125 : ∀ (v125_3 : Int32) (f125_1_1 : Int32) (f125_1_2 : Int32) (f125_1_3 : Int32) (H : Heap) (locs : List Loc) (ls : Array Slot) (w1 : va_W), (-2) ≤ a2.toInt → a2.toInt ≤ 9 → 0 ≤ f125_1_1.toInt → f125_1_1.toInt ≤ 400 → 1 ≤ f125_1_2.toInt → f125_1_2.toInt ≤ 400 → 0 ≤ f125_1_3.toInt → f125_1_3.toInt ≤ 399 → Wd dC dI A s.heap H locs w1 → TW ksC ad cy B qr s1 w1 → FE ksC [(6, 1, 1), (6, 3, 3), (6, 4, 4)] w0 w1 → gi w1 1 1 = f125_1_1 → gi w1 1 2 = f125_1_2 → gi w1 1 3 = f125_1_3 → gi w1 1 4 = 0 → TT (fun n => m_X6_readNumber n 1 0 a2.toInt (sI w0)) (fun n => b_X6_readNumber_125 (j_X6_readNumber 1 n) n 1 (sI w1)) → lv_has ls 4 [(0, .ref (ad 1)), (1, .int 0), (2, .int a2), (3, .int v125_3)] → W p l e ({ frames := 2, cells := 0, slots := 0, locals := 34 }) s m (List.toArray [.ref (ad 1), .int 0, .int a2]) below meth c H locs 0 0 (MQ below (va_Qi (Pz_X6_readNumber_2 ad cy B qr s1 a2 w0) (fun u : va_W => wpost dC dI cy A u) A) (List.toArray [.ref (ad 1), .int 0, .int a2]) s 0 0 A) (F0 m 125 ls []) := by
    intro v125_3 f125_1_1 f125_1_2 f125_1_3 H locs ls w1 r2 t3 r4 t5 r7 t8 r10 t11 hw hT hF c6 c9 c12 c13 hM hl
    refine lv_aload_n hx hb dX6_readNumber_125 rfl (lv_at hl 0 rfl) ?_
    refine lv_aload_n hx hb dX6_readNumber_126 rfl (lv_at hl 0 rfl) ?_
    refine tk_geti hC hK hw hT hinX6 kC_at1 (by decide) rfl 3 (by decide) (List.mem_cons_of_mem _ uw_9_17) rfl rfl dX6_readNumber_127 (fun x14 c15 rx14 tx14 => ?_)
    refine wk_top f125_1_3 (c15.symm.trans c12) ?_
    replace hM := hM.rd (sI_at c12)
    refine lv_iconst (v := 1) hx hb dX6_readNumber_130 (by decide) ?_
    refine tk_Vv hC hK hw hT hA hE hSR kC_at1 (by decide) rfl (kz_X6_blame_2 l adK adV dC dI cy ad B hB0 (Int.le_trans hB1 (by decide)) qr s1   f125_1_3 (show 0 ≤ f125_1_3.toInt from r10) (show f125_1_3.toInt ≤ 400 from Int.le_trans t11 (by decide)) 1 (by decide) (by decide) w1 H.size hT c13) (cwV 2 hC.2.2.2.2 uV_RX6_35 rfl rfl rfl (by decide +kernel) ⟨Nat.le_of_ble_eq_true rfl, Nat.le_of_ble_eq_true rfl⟩) rfl hl.1 rfl (Nat.le_of_ble_eq_true rfl) dX6_readNumber_131 (fun w18 H locs hp17 hw => ?_)
    obtain ⟨hT, k19, hv23, hg22⟩ := hp17
    try simp only [show (1 : Int32).toInt = 1 by decide] at hv23
    have hF := hF.tr k19 (by decide)
    have c24 := k19.gi kC_at1 (by decide) c6
    have c25 := k19.gi kC_at1 (by decide) c9
    have c26 := k19.gi kC_at1 (by decide) c12
    obtain ⟨x20, c21, rx20, tx20⟩ := hg22
    replace hM := hM.call hv23 rfl
    refine lv_iconst (v := (-1)) hx hb dX6_readNumber_134 (by decide) ?_
    exact tk_iret hC hr hlocks hK ⟨hT, hF, hM.ret (by decide), (Or.inr ⟨rfl, ⟨x20, c21, (show 1 ≤ x20.toInt by first | with_reducible assumption | omega), (show x20.toInt ≤ 3205 by first | with_reducible assumption | omega)⟩⟩)⟩ hw dX6_readNumber_135
  have J102 : ∀ (v102_3 : Int32) (f102_1_1 : Int32) (f102_1_2 : Int32) (f102_1_3 : Int32) (H : Heap) (locs : List Loc) (ls : Array Slot) (w27 : va_W), (-2) ≤ a2.toInt → a2.toInt ≤ 9 → 0 ≤ f102_1_1.toInt → f102_1_1.toInt ≤ 400 → 1 ≤ f102_1_2.toInt → f102_1_2.toInt ≤ 400 → 0 ≤ f102_1_3.toInt → f102_1_3.toInt ≤ 399 → Wd dC dI A s.heap H locs w27 → TW ksC ad cy B qr s1 w27 → FE ksC [(6, 1, 1), (6, 3, 3), (6, 4, 4)] w0 w27 → gi w27 1 1 = f102_1_1 → gi w27 1 2 = f102_1_2 → gi w27 1 3 = f102_1_3 → gi w27 1 4 = 0 → TT (fun n => m_X6_readNumber n 1 0 a2.toInt (sI w0)) (fun n => b_X6_readNumber_102 (j_X6_readNumber 1 n) n 1 (0 : Int) (a2.toInt) (v102_3.toInt) (sI w27)) → lv_has ls 4 [(0, .ref (ad 1)), (1, .int 0), (2, .int a2), (3, .int v102_3)] → W p l e ({ frames := 2, cells := 0, slots := 0, locals := 34 }) s m (List.toArray [.ref (ad 1), .int 0, .int a2]) below meth c H locs 0 0 (MQ below (va_Qi (Pz_X6_readNumber_2 ad cy B qr s1 a2 w0) (fun u : va_W => wpost dC dI cy A u) A) (List.toArray [.ref (ad 1), .int 0, .int a2]) s 0 0 A) (F0 m 102 ls []) := by
    intro v102_3 f102_1_1 f102_1_2 f102_1_3 H locs ls w27 r28 t29 r30 t31 r33 t34 r36 t37 hw hT hF c32 c35 c38 c39 hM hl
    refine lv_aload_n hx hb dX6_readNumber_102 rfl (lv_at hl 0 rfl) ?_
    refine tk_geti hC hK hw hT hinX6 kC_at1 (by decide) rfl 1 (by decide) (List.mem_cons_of_mem _ uw_9_16) rfl rfl dX6_readNumber_103 (fun x40 c41 rx40 tx40 => ?_)
    refine wk_top f102_1_1 (c41.symm.trans c32) ?_
    replace hM := hM.rd (sI_at c32)
    refine lv_aload_n hx hb dX6_readNumber_106 rfl (lv_at hl 0 rfl) ?_
    refine tk_geti hC hK hw hT hinX6 kC_at1 (by decide) rfl 3 (by decide) (List.mem_cons_of_mem _ uw_9_17) rfl rfl dX6_readNumber_107 (fun x42 c43 rx42 tx42 => ?_)
    refine wk_top f102_1_3 (c43.symm.trans c38) ?_
    replace hM := hM.rd (sI_at c38)
    refine lv_isub hx hb dX6_readNumber_110 ?_
    refine lv_topi (fun x44 ex44 => ?_)
    have ezx44 := ex44
    have ex44 : x44.toInt = f102_1_1.toInt - f102_1_3.toInt := by rw [ex44]; exact wk_sub (show (-2147483648) ≤ f102_1_1.toInt - f102_1_3.toInt by omega) (show f102_1_1.toInt - f102_1_3.toInt ≤ 2147483647 by omega)
    replace hM := hM.lt ex44.symm
    refine lv_iconst (v := 5) hx hb dX6_readNumber_111 (by decide) ?_
    refine lv_icmp_gt (tgt := 125) hx hb dX6_readNumber_112 (by decide) (fun c45 => ?_) (fun c45 => ?_)
    · have c45 : (5 : Int) < x44.toInt := wk_lt.mp c45
      replace hM := hM.pos c45
      exact J125 v102_3 f102_1_1 f102_1_2 f102_1_3 H locs ls w27 (show (-2) ≤ a2.toInt from r28) (show a2.toInt ≤ 9 from t29) (show 0 ≤ f102_1_1.toInt from r30) (show f102_1_1.toInt ≤ 400 from t31) (show 1 ≤ f102_1_2.toInt from r33) (show f102_1_2.toInt ≤ 400 from t34) (show 0 ≤ f102_1_3.toInt from r36) (show f102_1_3.toInt ≤ 399 from t37)  hw hT hF c32 c35 c38 c39 hM (lv_sub hl [0, 1, 2, 3] rfl)
    · have c45 : x44.toInt ≤ (5 : Int) := wk_ltF c45
      replace hM := hM.neg (Int.not_lt.mpr c45)
      refine lv_iload_n hx hb dX6_readNumber_115 rfl (lv_at hl 3 rfl) ?_
      refine lv_iload_n hx hb dX6_readNumber_116 rfl (lv_at hl 1 rfl) ?_
      refine lv_icmp_lt (tgt := 125) hx hb dX6_readNumber_117 (by decide) (fun c46 => ?_) (fun c46 => ?_)
      · have c46 : v102_3.toInt < (0 : Int) := wk_lt.mp c46
        replace hM := hM.pos c46
        exact J125 v102_3 f102_1_1 f102_1_2 f102_1_3 H locs ls w27 (show (-2) ≤ a2.toInt from r28) (show a2.toInt ≤ 9 from t29) (show 0 ≤ f102_1_1.toInt from r30) (show f102_1_1.toInt ≤ 400 from t31) (show 1 ≤ f102_1_2.toInt from r33) (show f102_1_2.toInt ≤ 400 from t34) (show 0 ≤ f102_1_3.toInt from r36) (show f102_1_3.toInt ≤ 399 from t37)  hw hT hF c32 c35 c38 c39 hM (lv_sub hl [0, 1, 2, 3] rfl)
      · have c46 : (0 : Int) ≤ v102_3.toInt := wk_ltF c46
        replace hM := hM.neg (Int.not_lt.mpr c46)
        refine lv_iload_n hx hb dX6_readNumber_120 rfl (lv_at hl 3 rfl) ?_
        refine lv_iload_n hx hb dX6_readNumber_121 rfl (lv_at hl 2 rfl) ?_
        refine lv_icmp_le (tgt := 136) hx hb dX6_readNumber_122 (by decide) (fun c47 => ?_) (fun c47 => ?_)
        · have c47 : v102_3.toInt ≤ a2.toInt := wk_le.mp c47
          replace hM := hM.pos c47
          refine lv_iload_n hx hb dX6_readNumber_136 rfl (lv_at hl 3 rfl) ?_
          exact tk_iret hC hr hlocks hK ⟨hT, hF, hM.ret rfl, (Or.inl ⟨(show 0 ≤ v102_3.toInt by first | with_reducible assumption | omega), (show v102_3.toInt ≤ 9 by first | with_reducible assumption | omega), (show 0 ≤ a2.toInt by first | with_reducible assumption | omega), ⟨f102_1_2, c35, (show 1 ≤ f102_1_2.toInt from r33), (show f102_1_2.toInt ≤ 400 from t34)⟩, ⟨f102_1_3, c38, (show 0 ≤ f102_1_3.toInt from r36), (show f102_1_3.toInt ≤ 399 from t37)⟩, ⟨0, c39, (by decide), (by decide)⟩⟩)⟩ hw dX6_readNumber_137
        · have c47 : a2.toInt < v102_3.toInt := wk_leF c47
          replace hM := hM.neg (Int.not_le.mpr c47)
          exact J125 v102_3 f102_1_1 f102_1_2 f102_1_3 H locs ls w27 (show (-2) ≤ a2.toInt from r28) (show a2.toInt ≤ 9 from t29) (show 0 ≤ f102_1_1.toInt from r30) (show f102_1_1.toInt ≤ 400 from t31) (show 1 ≤ f102_1_2.toInt from r33) (show f102_1_2.toInt ≤ 400 from t34) (show 0 ≤ f102_1_3.toInt from r36) (show f102_1_3.toInt ≤ 399 from t37)  hw hT hF c32 c35 c38 c39 hM (lv_sub hl [0, 1, 2, 3] rfl)
  have L32 : ∀ (n32 : Nat) (v32_3 : Int32) (f32_1_1 : Int32) (f32_1_2 : Int32) (f32_1_3 : Int32) (H : Heap) (locs : List Loc) (ls : Array Slot) (w48 : va_W), (-2) ≤ a2.toInt → a2.toInt ≤ 9 → 0 ≤ f32_1_1.toInt → f32_1_1.toInt ≤ 400 → 1 ≤ f32_1_2.toInt → f32_1_2.toInt ≤ 400 → 0 ≤ f32_1_3.toInt → f32_1_3.toInt ≤ 399 → (400 - f32_1_1.toInt).toNat < n32 → Wd dC dI A s.heap H locs w48 → TW ksC ad cy B qr s1 w48 → FE ksC [(6, 1, 1), (6, 3, 3), (6, 4, 4)] w0 w48 → gi w48 1 1 = f32_1_1 → gi w48 1 2 = f32_1_2 → gi w48 1 3 = f32_1_3 → gi w48 1 4 = 0 → TT (fun n => m_X6_readNumber n 1 0 a2.toInt (sI w0)) (fun n => j_X6_readNumber 1 n 32 [(0 : Int), a2.toInt, v32_3.toInt] (sI w48)) → lv_has ls 4 [(0, .ref (ad 1)), (1, .int 0), (2, .int a2), (3, .int v32_3)] → W p l e ({ frames := 2, cells := 0, slots := 0, locals := 34 }) s m (List.toArray [.ref (ad 1), .int 0, .int a2]) below meth c H locs 0 0 (MQ below (va_Qi (Pz_X6_readNumber_2 ad cy B qr s1 a2 w0) (fun u : va_W => wpost dC dI cy A u) A) (List.toArray [.ref (ad 1), .int 0, .int a2]) s 0 0 A) (F0 m 32 ls []) := by
    intro n32
    induction n32 with
    | zero => intro v32_3 f32_1_1 f32_1_2 f32_1_3 H locs ls w48 r49 t50 r51 t52 r54 t55 r57 t58 hm32 hw hT hF c53 c56 c59 c60 hM hl; omega
    | succ n32 ih32 =>
      intro v32_3 f32_1_1 f32_1_2 f32_1_3 H locs ls w48 r49 t50 r51 t52 r54 t55 r57 t58 hm32 hw hT hF c53 c56 c59 c60 hM hl
      have J89 : ∀ (v89_3 : Int32) (H : Heap) (locs : List Loc) (ls : Array Slot) (w61 : va_W), (-2) ≤ a2.toInt → a2.toInt ≤ 9 → 0 ≤ f32_1_1.toInt → f32_1_1.toInt ≤ 399 → 1 ≤ f32_1_2.toInt → f32_1_2.toInt ≤ 400 → 0 ≤ f32_1_3.toInt → f32_1_3.toInt ≤ 399 → Wd dC dI A s.heap H locs w61 → TW ksC ad cy B qr s1 w61 → FE ksC [(6, 1, 1), (6, 3, 3), (6, 4, 4)] w0 w61 → gi w61 1 1 = f32_1_1 → gi w61 1 2 = f32_1_2 → gi w61 1 3 = f32_1_3 → gi w61 1 4 = 0 → TT (fun n => m_X6_readNumber n 1 0 a2.toInt (sI w0)) (fun n => b_X6_readNumber_89 (j_X6_readNumber 1 n) n 1 (0 : Int) (a2.toInt) (v89_3.toInt) (sI w61)) → lv_has ls 4 [(0, .ref (ad 1)), (1, .int 0), (2, .int a2), (3, .int v89_3)] → W p l e ({ frames := 2, cells := 0, slots := 0, locals := 34 }) s m (List.toArray [.ref (ad 1), .int 0, .int a2]) below meth c H locs 0 0 (MQ below (va_Qi (Pz_X6_readNumber_2 ad cy B qr s1 a2 w0) (fun u : va_W => wpost dC dI cy A u) A) (List.toArray [.ref (ad 1), .int 0, .int a2]) s 0 0 A) (F0 m 89 ls []) := by
        intro v89_3 H locs ls w61 r62 t63 r64 t65 r67 t68 r70 t71 hw hT hF c66 c69 c72 c73 hM hl
        refine lv_aload_n hx hb dX6_readNumber_89 rfl (lv_at hl 0 rfl) ?_
        refine lv_dup hx hb dX6_readNumber_90 rfl ?_
        refine tk_geti hC hK hw hT hinX6 kC_at1 (by decide) rfl 1 (by decide) (List.mem_cons_of_mem _ uw_9_16) rfl rfl dX6_readNumber_91 (fun x74 c75 rx74 tx74 => ?_)
        refine wk_top f32_1_1 (c75.symm.trans c66) ?_
        replace hM := hM.rd (sI_at c66)
        refine lv_iconst (v := 1) hx hb dX6_readNumber_94 (by decide) ?_
        refine lv_iadd hx hb dX6_readNumber_95 ?_
        refine lv_topi (fun x76 ex76 => ?_)
        have ezx76 := ex76
        have ex76 : x76.toInt = f32_1_1.toInt + (1 : Int) := by rw [ex76]; exact wk_add (show (-2147483648) ≤ f32_1_1.toInt + (1 : Int) by omega) (show f32_1_1.toInt + (1 : Int) ≤ 2147483647 by omega)
        replace hM := hM.lt ex76.symm
        refine tk_puti hC hK hw hT hinX6 tyX6_ok nmX6 kC_at1 (by decide) rfl rfl 1 (by decide) (List.mem_cons_of_mem _ uw_9_16) rfl rfl rfl rfl (show 0 ≤ x76.toInt by first | with_reducible assumption | omega) (show x76.toInt ≤ 400 by first | with_reducible assumption | omega) dX6_readNumber_96 (fun H locs w77 hw hT k79 c78 => ?_)
        replace hM := hM.wr (sI_up k79 c78)
        have hF := hF.put kC_at1 (k := 1) (by decide) k79
        have c80 := k79.gi (Or.inr (by decide)) c69
        have c81 := k79.gi (Or.inr (by decide)) c72
        have c82 := k79.gi (Or.inr (by decide)) c73
        refine lv_goto (tgt := 32) hx hb dX6_readNumber_99 (by decide) ?_
        exact ih32 v89_3 x76 f32_1_2 f32_1_3 H locs ls w77 (show (-2) ≤ a2.toInt from r62) (show a2.toInt ≤ 9 from t63) (show 0 ≤ x76.toInt by first | with_reducible assumption | omega) (show x76.toInt ≤ 400 by first | with_reducible assumption | omega) (show 1 ≤ f32_1_2.toInt from r67) (show f32_1_2.toInt ≤ 400 from t68) (show 0 ≤ f32_1_3.toInt from r70) (show f32_1_3.toInt ≤ 399 from t71) (show (400 - x76.toInt).toNat < n32 by first | exact tn_lt hm32 (by omega) (by omega) | omega) hw hT hF c78 c80 c81 c82 hM (lv_sub hl [0, 1, 2, 3] rfl)
      replace hM := hM.suc (fun _ => e_X6_readNumber_32)
      refine lv_aload_n hx hb dX6_readNumber_32 rfl (lv_at hl 0 rfl) ?_
      refine tk_geti hC hK hw hT hinX6 kC_at1 (by decide) rfl 1 (by decide) (List.mem_cons_of_mem _ uw_9_16) rfl rfl dX6_readNumber_33 (fun x83 c84 rx83 tx83 => ?_)
      refine wk_top f32_1_1 (c84.symm.trans c53) ?_
      replace hM := hM.rd (sI_at c53)
      refine lv_aload_n hx hb dX6_readNumber_36 rfl (lv_at hl 0 rfl) ?_
      refine tk_geti hC hK hw hT hinX6 kC_at1 (by decide) rfl 2 (by decide) (List.mem_cons_of_mem _ uw_7_22) rfl rfl dX6_readNumber_37 (fun x85 c86 rx85 tx85 => ?_)
      refine wk_top f32_1_2 (c86.symm.trans c56) ?_
      replace hM := hM.rd (sI_at c56)
      refine lv_icmp_ge (tgt := 102) hx hb dX6_readNumber_40 (by decide) (fun c87 => ?_) (fun c87 => ?_)
      · have c87 : f32_1_2.toInt ≤ f32_1_1.toInt := wk_le.mp c87
        replace hM := hM.pos c87
        exact J102 v32_3 f32_1_1 f32_1_2 f32_1_3 H locs ls w48 (show (-2) ≤ a2.toInt from r49) (show a2.toInt ≤ 9 from t50) (show 0 ≤ f32_1_1.toInt from r51) (show f32_1_1.toInt ≤ 400 from t52) (show 1 ≤ f32_1_2.toInt from r54) (show f32_1_2.toInt ≤ 400 from t55) (show 0 ≤ f32_1_3.toInt from r57) (show f32_1_3.toInt ≤ 399 from t58)  hw hT hF c53 c56 c59 c60 hM (lv_sub hl [0, 1, 2, 3] rfl)
      · have c87 : f32_1_1.toInt < f32_1_2.toInt := wk_leF c87
        replace hM := hM.neg (Int.not_le.mpr c87)
        refine lv_aload_n hx hb dX6_readNumber_43 rfl (lv_at hl 0 rfl) ?_
        refine tk_getA hC hK hw hT hinX6 kC_at1 (by decide) rfl 0 (by decide) (List.mem_cons_of_mem _ uw_2_12) rfl rfl dX6_readNumber_44 ?_
        refine lv_aload_n hx hb dX6_readNumber_47 rfl (lv_at hl 0 rfl) ?_
        refine tk_geti hC hK hw hT hinX6 kC_at1 (by decide) rfl 1 (by decide) (List.mem_cons_of_mem _ uw_9_16) rfl rfl dX6_readNumber_48 (fun x88 c89 rx88 tx88 => ?_)
        refine wk_top f32_1_1 (c89.symm.trans c53) ?_
        replace hM := hM.rd (sI_at c53)
        refine tk_iald hC hK hw hT kC_at2 rfl rfl (show 0 ≤ f32_1_1.toInt from r51) (show f32_1_1.toInt < 400 by first | with_reducible assumption | omega) dX6_readNumber_51 (fun x90 c91 rx90 tx90 => ?_)
        have hox90 := c91
        replace hM := hM.rd (sI_at hox90)
        refine tk_Si hC hK hw hT hA hE hSR (kz_X6_isDigit_1 l adK adV dC dI cy ad B hB0 (Int.le_trans hB1 (by decide)) qr s1   x90 (show 0 ≤ x90.toInt from rx90) (show x90.toInt ≤ 255 from tx90) w48 H.size hT ) (va_cwS 1 hC.2.2.2.2 uS_RX6_64 rfl rfl rfl (by decide +kernel) ⟨Nat.le_of_ble_eq_true rfl, Nat.le_of_ble_eq_true rfl⟩) rfl hl.1 rfl (Nat.le_of_ble_eq_true rfl) dX6_readNumber_52 (fun r92 w94 H locs hp93 hw => ?_)
        obtain ⟨hT, k95, hv99, hg98⟩ := hp93
        have hF := hF.tr k95 (by decide)
        have c100 := k95.gi kC_at1 (by decide) c53
        have c101 := k95.gi kC_at1 (by decide) c56
        have c102 := k95.gi kC_at1 (by decide) c59
        have c103 := k95.gi kC_at1 (by decide) c60
        rcases hg98 with rfl | ⟨rfl, g96, g97⟩
        · replace hM := hM.call (r' := 0) hv99 (by decide)
          refine lv_if_eq (tgt := 102) hx hb dX6_readNumber_55 (by decide) (fun _ => ?_) (fun c => absurd (by decide) c)
          replace hM := hM.pos (by decide)
          exact J102 v32_3 f32_1_1 f32_1_2 f32_1_3 H locs ls w94 (show (-2) ≤ a2.toInt from r49) (show a2.toInt ≤ 9 from t50) (show 0 ≤ f32_1_1.toInt from r51) (show f32_1_1.toInt ≤ 400 from t52) (show 1 ≤ f32_1_2.toInt from r54) (show f32_1_2.toInt ≤ 400 from t55) (show 0 ≤ f32_1_3.toInt from r57) (show f32_1_3.toInt ≤ 399 from t58)  hw hT hF c100 c101 c102 c103 hM (lv_sub hl [0, 1, 2, 3] rfl)
        · replace hM := hM.call (r' := 1) hv99 (by decide)
          refine lv_if_eq (tgt := 102) hx hb dX6_readNumber_55 (by decide) (fun c => absurd c (by decide)) (fun _ => ?_)
          replace hM := hM.neg (by decide)
          refine lv_aload_n hx hb dX6_readNumber_58 rfl (lv_at hl 0 rfl) ?_
          refine tk_geti hC hK hw hT hinX6 kC_at1 (by decide) rfl 1 (by decide) (List.mem_cons_of_mem _ uw_9_16) rfl rfl dX6_readNumber_59 (fun x104 c105 rx104 tx104 => ?_)
          refine wk_top f32_1_1 (c105.symm.trans c100) ?_
          replace hM := hM.rd (sI_at c100)
          refine lv_aload_n hx hb dX6_readNumber_62 rfl (lv_at hl 0 rfl) ?_
          refine tk_geti hC hK hw hT hinX6 kC_at1 (by decide) rfl 3 (by decide) (List.mem_cons_of_mem _ uw_9_17) rfl rfl dX6_readNumber_63 (fun x106 c107 rx106 tx106 => ?_)
          refine wk_top f32_1_3 (c107.symm.trans c102) ?_
          replace hM := hM.rd (sI_at c102)
          refine lv_isub hx hb dX6_readNumber_66 ?_
          refine lv_topi (fun x108 ex108 => ?_)
          have ezx108 := ex108
          have ex108 : x108.toInt = f32_1_1.toInt - f32_1_3.toInt := by rw [ex108]; exact wk_sub (show (-2147483648) ≤ f32_1_1.toInt - f32_1_3.toInt by omega) (show f32_1_1.toInt - f32_1_3.toInt ≤ 2147483647 by omega)
          replace hM := hM.lt ex108.symm
          refine lv_iconst (v := 5) hx hb dX6_readNumber_67 (by decide) ?_
          refine lv_icmp_ge (tgt := 89) hx hb dX6_readNumber_68 (by decide) (fun c109 => ?_) (fun c109 => ?_)
          · have c109 : (5 : Int) ≤ x108.toInt := wk_le.mp c109
            replace hM := hM.pos c109
            exact J89 v32_3 H locs ls w94 (show (-2) ≤ a2.toInt from r49) (show a2.toInt ≤ 9 from t50) (show 0 ≤ f32_1_1.toInt from r51) (show f32_1_1.toInt ≤ 399 by first | with_reducible assumption | omega) (show 1 ≤ f32_1_2.toInt from r54) (show f32_1_2.toInt ≤ 400 from t55) (show 0 ≤ f32_1_3.toInt from r57) (show f32_1_3.toInt ≤ 399 from t58)  hw hT hF c100 c101 c102 c103 hM (lv_sub hl [0, 1, 2, 3] rfl)
          · have c109 : x108.toInt < (5 : Int) := wk_leF c109
            replace hM := hM.neg (Int.not_le.mpr c109)
            refine lv_iload_n hx hb dX6_readNumber_71 rfl (lv_at hl 3 rfl) ?_
            refine lv_bipush (v := 10) hx hb dX6_readNumber_72 (by decide) ?_
            refine lv_imul hx hb dX6_readNumber_74 ?_
            have nx110 := wk_i32 v32_3
            refine lv_topi (fun x111 ex111 => ?_)
            have ezx111 := ex111
            replace hM := hM.lt (o32_e (f := fun x y => x * y) ezx111 rfl (by decide))
            refine lv_aload_n hx hb dX6_readNumber_75 rfl (lv_at hl 0 rfl) ?_
            refine tk_getA hC hK hw hT hinX6 kC_at1 (by decide) rfl 0 (by decide) (List.mem_cons_of_mem _ uw_2_12) rfl rfl dX6_readNumber_76 ?_
            refine lv_aload_n hx hb dX6_readNumber_79 rfl (lv_at hl 0 rfl) ?_
            refine tk_geti hC hK hw hT hinX6 kC_at1 (by decide) rfl 1 (by decide) (List.mem_cons_of_mem _ uw_9_16) rfl rfl dX6_readNumber_80 (fun x112 c113 rx112 tx112 => ?_)
            refine wk_top f32_1_1 (c113.symm.trans c100) ?_
            replace hM := hM.rd (sI_at c100)
            refine tk_iald hC hK hw hT kC_at2 rfl rfl (show 0 ≤ f32_1_1.toInt from r51) (show f32_1_1.toInt < 400 by first | with_reducible assumption | omega) dX6_readNumber_83 (fun x114 c115 rx114 tx114 => ?_)
            have hox114 := c115
            replace hM := hM.rd (sI_at hox114)
            refine lv_iadd hx hb dX6_readNumber_84 ?_
            have nx116 := wk_i32 x111
            refine lv_topi (fun x117 ex117 => ?_)
            have ezx117 := ex117
            replace hM := hM.lt (o32_e (f := fun x y => x + y) ezx117 rfl rfl)
            refine lv_bipush (v := 48) hx hb dX6_readNumber_85 (by decide) ?_
            refine lv_isub hx hb dX6_readNumber_87 ?_
            have nx118 := wk_i32 x117
            refine lv_topi (fun x119 ex119 => ?_)
            have ezx119 := ex119
            replace hM := hM.lt (o32_e (f := fun x y => x - y) ezx119 rfl (by decide))
            refine lv_istore_n (lv' := [(3, .int x119), (0, .ref (ad 1)), (1, .int 0), (2, .int a2)]) hx hb dX6_readNumber_88 rfl hl (by decide) rfl (fun ls hl => ?_)
            exact J89 x119 H locs ls w94 (show (-2) ≤ a2.toInt from r49) (show a2.toInt ≤ 9 from t50) (show 0 ≤ f32_1_1.toInt from r51) (show f32_1_1.toInt ≤ 399 by first | with_reducible assumption | omega) (show 1 ≤ f32_1_2.toInt from r54) (show f32_1_2.toInt ≤ 400 from t55) (show 0 ≤ f32_1_3.toInt from r57) (show f32_1_3.toInt ≤ 399 from t58)  hw hT hF c100 c101 c102 c103 hM (lv_sub hl [1, 2, 3, 0] rfl)
  have hM : TT (fun n => m_X6_readNumber n 1 0 a2.toInt (sI w0)) (fun n => m_X6_readNumber n 1 0 a2.toInt (sI w0)) := TT.rf
  refine lv_aload_n hx hb dX6_readNumber_0 rfl (lv_at hl 0 rfl) ?_
  refine tk_Vi hC hK hw hT hA hE hSR kC_at1 (by decide) rfl (kz_X6_isFaulty_2 l adK adV dC dI cy ad B hB0 (Int.le_trans hB1 (by decide)) qr s1    w0 s.heap.size hT cf0_) (cwV 0 hC.2.2.2.2 uV_RX6_39 rfl rfl rfl (by decide +kernel) ⟨Nat.le_of_ble_eq_true rfl, Nat.le_of_ble_eq_true rfl⟩) rfl hl.1 rfl (Nat.le_of_ble_eq_true rfl) dX6_readNumber_1 (fun r120 w122 H locs hp121 hw => ?_)
  obtain ⟨hT, k123, hv127, hg126⟩ := hp121
  have hF := hF.tr k123 (by decide)
  have c128 := k123.gi kC_at1 (by decide) cf0_
  obtain ⟨rfl, ⟨x124, c125, rx124, tx124⟩⟩ := hg126
  replace hM := hM.call (r' := 0) hv127 (by decide)
  have ex124 : x124.toInt = (0 : Int) := by rw [show x124 = 0 from c125.symm.trans c128]; decide
  refine lv_if_eq (tgt := 9) hx hb dX6_readNumber_4 (by decide) (fun _ => ?_) (fun c => absurd (by decide) c)
  replace hM := hM.pos (by decide)
  refine lv_aload_n hx hb dX6_readNumber_9 rfl (lv_at hl 0 rfl) ?_
  refine tk_Vi hC hK hw hT hA hE hSR kC_at1 (by decide) rfl (kz_X6_lookBehindBlanks_1 l adK adV dC dI cy ad B hB0 (Int.le_trans hB1 (by decide)) qr s1    w122 H.size hT ) (cwV 0 hC.2.2.2.2 uV_RX6_28 rfl rfl rfl (by decide +kernel) ⟨Nat.le_of_ble_eq_true rfl, Nat.le_of_ble_eq_true rfl⟩) rfl hl.1 rfl (Nat.le_of_ble_eq_true rfl) dX6_readNumber_10 (fun r129 w131 H locs hp130 hw => ?_)
  obtain ⟨hT, k132, hv142, hg141⟩ := hp130
  have hF := hF.tr k132 (by decide)
  have c143 := k132.gi kC_at1 (by decide) c128
  rcases hg141 with ⟨g133, g134, ⟨x135, c136, rx135, tx135⟩, ⟨x137, c138, rx137, tx137⟩, ⟨x139, c140, rx139, tx139⟩⟩ | rfl
  · replace hM := hM.call hv142 rfl
    refine tk_Si hC hK hw hT hA hE hSR (kz_X6_isDigit_1 l adK adV dC dI cy ad B hB0 (Int.le_trans hB1 (by decide)) qr s1   r129 (show 0 ≤ r129.toInt by first | with_reducible assumption | omega) (show r129.toInt ≤ 255 by first | with_reducible assumption | omega) w131 H.size hT ) (va_cwS 1 hC.2.2.2.2 uS_RX6_64 rfl rfl rfl (by decide +kernel) ⟨Nat.le_of_ble_eq_true rfl, Nat.le_of_ble_eq_true rfl⟩) rfl hl.1 rfl (Nat.le_of_ble_eq_true rfl) dX6_readNumber_13 (fun r144 w146 H locs hp145 hw => ?_)
    obtain ⟨hT, k147, hv151, hg150⟩ := hp145
    have hF := hF.tr k147 (by decide)
    have c152 := k147.gi kC_at1 (by decide) c143
    have c153 := k147.gi kC_at1 (by decide) c136
    have c154 := k147.gi kC_at1 (by decide) c138
    have c155 := k147.gi kC_at1 (by decide) c140
    rcases hg150 with rfl | ⟨rfl, g148, g149⟩
    · replace hM := hM.call (r' := 0) hv151 (by decide)
      refine lv_if_ne (tgt := 30) hx hb dX6_readNumber_16 (by decide) (fun c => absurd (by decide) c) (fun _ => ?_)
      replace hM := hM.neg (by decide)
      refine lv_aload_n hx hb dX6_readNumber_19 rfl (lv_at hl 0 rfl) ?_
      refine lv_aload_n hx hb dX6_readNumber_20 rfl (lv_at hl 0 rfl) ?_
      refine tk_geti hC hK hw hT hinX6 kC_at1 (by decide) rfl 3 (by decide) (List.mem_cons_of_mem _ uw_9_17) rfl rfl dX6_readNumber_21 (fun x156 c157 rx156 tx156 => ?_)
      refine wk_top x139 (c157.symm.trans c155) ?_
      replace hM := hM.rd (sI_at c155)
      refine lv_iconst (v := 0) hx hb dX6_readNumber_24 (by decide) ?_
      refine tk_Vv hC hK hw hT hA hE hSR kC_at1 (by decide) rfl (kz_X6_blame_2 l adK adV dC dI cy ad B hB0 (Int.le_trans hB1 (by decide)) qr s1   x139 (show 0 ≤ x139.toInt by first | with_reducible assumption | omega) (show x139.toInt ≤ 400 by first | with_reducible assumption | omega) 0 (by decide) (by decide) w146 H.size hT c152) (cwV 2 hC.2.2.2.2 uV_RX6_35 rfl rfl rfl (by decide +kernel) ⟨Nat.le_of_ble_eq_true rfl, Nat.le_of_ble_eq_true rfl⟩) rfl hl.1 rfl (Nat.le_of_ble_eq_true rfl) dX6_readNumber_25 (fun w160 H locs hp159 hw => ?_)
      obtain ⟨hT, k161, hv165, hg164⟩ := hp159
      try simp only [show (0 : Int32).toInt = 0 by decide] at hv165
      have hF := hF.tr k161 (by decide)
      have c166 := k161.gi kC_at1 (by decide) c153
      have c167 := k161.gi kC_at1 (by decide) c154
      have c168 := k161.gi kC_at1 (by decide) c155
      obtain ⟨x162, c163, rx162, tx162⟩ := hg164
      replace hM := hM.call hv165 rfl
      refine lv_iconst (v := (-1)) hx hb dX6_readNumber_28 (by decide) ?_
      exact tk_iret hC hr hlocks hK ⟨hT, hF, hM.ret (by decide), (Or.inr ⟨rfl, ⟨x162, c163, (show 1 ≤ x162.toInt by first | with_reducible assumption | omega), (show x162.toInt ≤ 3205 by first | with_reducible assumption | omega)⟩⟩)⟩ hw dX6_readNumber_29
    · replace hM := hM.call (r' := 1) hv151 (by decide)
      refine lv_if_ne (tgt := 30) hx hb dX6_readNumber_16 (by decide) (fun _ => ?_) (fun c => absurd c (by decide))
      replace hM := hM.pos (by decide)
      refine lv_iconst (v := 0) hx hb dX6_readNumber_30 (by decide) ?_
      refine lv_istore_n (lv' := [(3, .int 0), (0, .ref (ad 1)), (1, .int 0), (2, .int a2)]) hx hb dX6_readNumber_31 rfl hl (by decide) rfl (fun ls hl => ?_)
      exact L32 ((400 - x135.toInt).toNat + 1) 0 x135 x137 x139 H locs ls w146 (show (-2) ≤ a2.toInt from ra2) (show a2.toInt ≤ 9 from ta2) (show 0 ≤ x135.toInt by first | with_reducible assumption | omega) (show x135.toInt ≤ 400 by first | with_reducible assumption | omega) (show 1 ≤ x137.toInt by first | with_reducible assumption | omega) (show x137.toInt ≤ 400 by first | with_reducible assumption | omega) (show 0 ≤ x139.toInt by first | with_reducible assumption | omega) (show x139.toInt ≤ 399 by first | with_reducible assumption | omega) (Nat.lt_succ_self _) hw hT hF c153 c154 c155 c152 hM (lv_sub hl [1, 2, 3, 0] rfl)
  · replace hM := hM.call (r' := (-1)) hv142 (by decide)
    refine tk_Si hC hK hw hT hA hE hSR (kz_X6_isDigit_2 l adK adV dC dI cy ad B hB0 (Int.le_trans hB1 (by decide)) qr s1    w131 H.size hT ) (va_cwS 1 hC.2.2.2.2 uS_RX6_64 rfl rfl rfl (by decide +kernel) ⟨Nat.le_of_ble_eq_true rfl, Nat.le_of_ble_eq_true rfl⟩) rfl hl.1 rfl (Nat.le_of_ble_eq_true rfl) dX6_readNumber_13 (fun r169 w171 H locs hp170 hw => ?_)
    obtain ⟨hT, k172, hv174, hg173⟩ := hp170
    have hF := hF.tr k172 (by decide)
    have c175 := k172.gi kC_at1 (by decide) c143
    obtain rfl := hg173
    replace hM := hM.call (r' := 0) hv174 (by decide)
    refine lv_if_ne (tgt := 30) hx hb dX6_readNumber_16 (by decide) (fun c => absurd (by decide) c) (fun _ => ?_)
    replace hM := hM.neg (by decide)
    refine lv_aload_n hx hb dX6_readNumber_19 rfl (lv_at hl 0 rfl) ?_
    refine lv_aload_n hx hb dX6_readNumber_20 rfl (lv_at hl 0 rfl) ?_
    refine tk_geti hC hK hw hT hinX6 kC_at1 (by decide) rfl 3 (by decide) (List.mem_cons_of_mem _ uw_9_17) rfl rfl dX6_readNumber_21 (fun x176 c177 rx176 tx176 => ?_)
    replace hM := hM.rd (sI_at c177)
    refine lv_iconst (v := 0) hx hb dX6_readNumber_24 (by decide) ?_
    refine tk_Vv hC hK hw hT hA hE hSR kC_at1 (by decide) rfl (kz_X6_blame_2 l adK adV dC dI cy ad B hB0 (Int.le_trans hB1 (by decide)) qr s1   x176 (show 0 ≤ x176.toInt from rx176) (show x176.toInt ≤ 400 from tx176) 0 (by decide) (by decide) w171 H.size hT c175) (cwV 2 hC.2.2.2.2 uV_RX6_35 rfl rfl rfl (by decide +kernel) ⟨Nat.le_of_ble_eq_true rfl, Nat.le_of_ble_eq_true rfl⟩) rfl hl.1 rfl (Nat.le_of_ble_eq_true rfl) dX6_readNumber_25 (fun w180 H locs hp179 hw => ?_)
    obtain ⟨hT, k181, hv185, hg184⟩ := hp179
    try simp only [show (0 : Int32).toInt = 0 by decide] at hv185
    have hF := hF.tr k181 (by decide)
    have c186 := k181.gi kC_at1 (by decide) c177
    obtain ⟨x182, c183, rx182, tx182⟩ := hg184
    replace hM := hM.call hv185 rfl
    refine lv_iconst (v := (-1)) hx hb dX6_readNumber_28 (by decide) ?_
    exact tk_iret hC hr hlocks hK ⟨hT, hF, hM.ret (by decide), (Or.inr ⟨rfl, ⟨x182, c183, (show 1 ≤ x182.toInt by first | with_reducible assumption | omega), (show x182.toInt ≤ 3205 by first | with_reducible assumption | omega)⟩⟩)⟩ hw dX6_readNumber_29
abbrev Pz_X6_readNumber_3 (ad : Nat → Nat) (cy : Nat → ClassId) (B : Int) (qr : Nat) (s1 : Int) (a2 : Int32) (w0 : va_W) : Int32 → va_W → Prop := fun r u => TW ksC ad cy B qr s1 u ∧ FE ksC [(6, 1, 1), (6, 3, 3), (6, 4, 4)] w0 u ∧ Ev (fun n => m_X6_readNumber n 1 0 a2.toInt (sI w0)) (r.toInt, sI u) ∧ ((0 ≤ r.toInt ∧ r.toInt ≤ 9 ∧ (∃ y : Int32, gi u 1 2 = y ∧ 1 ≤ y.toInt ∧ y.toInt ≤ 400) ∧ (∃ y : Int32, gi u 1 3 = y ∧ 0 ≤ y.toInt ∧ y.toInt ≤ 399) ∧ (∃ y : Int32, gi u 1 4 = y ∧ 0 ≤ y.toInt ∧ y.toInt ≤ 0)) ∨ (r = (-1) ∧ (∃ y : Int32, gi u 1 4 = y ∧ 1 ≤ y.toInt ∧ y.toInt ≤ 3205)))
set_option maxHeartbeats 4000000 in
set_option maxRecDepth 100000 in
theorem kz_X6_readNumber_3 (l : Launch) (adK adV : Nat → Nat) (dC : Nat → ClassId) (dI : Nat → Nat → Nat) (cy : Nat → ClassId) (ad : Nat → Nat) (B : Int) (hB0 : 2147483648 ≤ B) (hB1 : B ≤ 1152921504606846976) (qr : Nat) (s1 : Int)  (a2 : Int32) (ra2 : 0 ≤ a2.toInt) (ta2 : a2.toInt ≤ 9) (w0 : va_W) (sz : Nat) (hT : TW ksC ad cy B qr s1 w0) (cf0_ : gi w0 1 4 = 0) : Met l yX6_readNumber (wu yX6_readNumber cX6_readNumber 4 (some .int)) ({ frames := 2, cells := 0, slots := 0, locals := 34 }) (va_Pc [.ref (ad 1), .int 0, .int a2] (wpreS adK adV dC dI cy sz w0)) (va_Qi (Pz_X6_readNumber_3 ad cy B qr s1 a2 w0) (fun u : va_W => wpost dC dI cy (va_A w0 sz) u) (va_A w0 sz)) 0 0 (va_A w0 sz) := by
  refine Met.ofW (cc := cX6_readNumber) (maxL := 4) (ret := (some .int)) (by decide) rfl ?_
  intro p e s m args below meth c s₁ Bk hml hv
  obtain ⟨rfl, ⟨hsz, hP, hK, hD0⟩, hE, hSR⟩ := hv
  have hx := Bk.exec
  have hb := Bk.bytes
  have hr := Bk.returns
  have hlocks := Bk.notSynchronized
  have hC : CallFix p m c cX6_readNumber 4 s _ (wu yX6_readNumber cX6_readNumber 4 (some .int)) RX6 := ⟨hx, hb, hml, findClass_of_methodNamed Bk.named, atoms_spec (ws := (wu yX6_readNumber cX6_readNumber 4 (some .int))) Bk.pre⟩
  subst hsz
  have hD := hD0.self (sz := s.heap.size)
  generalize hAe : va_A w0 s.heap.size = A at hD hE ⊢
  have hA : ∀ q : Nat, s.heap.size ≤ q → A q := fun q h => by rw [← hAe]; exact Or.inr h
  have hw : Wd dC dI A s.heap s.heap [] w0 := ⟨hP, hD, va_S.rf⟩
  have hF : FE ksC [(6, 1, 1), (6, 3, 3), (6, 4, 4)] w0 w0 := FE.rf
  have hl := lv_entry ([.ref (ad 1), .int 0, .int a2]) (n := 4) (Nat.le_of_ble_eq_true rfl)
  rw [lg_entry_eq]
  generalize (lg_sl ([.ref (ad 1), .int 0, .int a2]) ++ List.replicate (4 - (lg_sl ([.ref (ad 1), .int 0, .int a2])).length) Slot.unset).toArray = ls at hl ⊢
  have hl : lv_has ls 4 [(0, .ref (ad 1)), (1, .int 0), (2, .int a2)] := hl
  generalize hloc : ([] : List Loc) = locs at hw ⊢
  have hinX6 : ∀ w ∈ u_ws RX6 TX6 5, w ∈ (wu yX6_readNumber cX6_readNumber 4 (some .int)) := fun _ h => List.mem_cons_of_mem _ (up_72 h)
  have J125 : ∀ (v125_3 : Int32) (f125_1_1 : Int32) (f125_1_2 : Int32) (f125_1_3 : Int32) (H : Heap) (locs : List Loc) (ls : Array Slot) (w1 : va_W), 0 ≤ a2.toInt → a2.toInt ≤ 9 → 0 ≤ f125_1_1.toInt → f125_1_1.toInt ≤ 400 → 1 ≤ f125_1_2.toInt → f125_1_2.toInt ≤ 400 → 0 ≤ f125_1_3.toInt → f125_1_3.toInt ≤ 399 → Wd dC dI A s.heap H locs w1 → TW ksC ad cy B qr s1 w1 → FE ksC [(6, 1, 1), (6, 3, 3), (6, 4, 4)] w0 w1 → gi w1 1 1 = f125_1_1 → gi w1 1 2 = f125_1_2 → gi w1 1 3 = f125_1_3 → gi w1 1 4 = 0 → TT (fun n => m_X6_readNumber n 1 0 a2.toInt (sI w0)) (fun n => b_X6_readNumber_125 (j_X6_readNumber 1 n) n 1 (sI w1)) → lv_has ls 4 [(0, .ref (ad 1)), (1, .int 0), (2, .int a2), (3, .int v125_3)] → W p l e ({ frames := 2, cells := 0, slots := 0, locals := 34 }) s m (List.toArray [.ref (ad 1), .int 0, .int a2]) below meth c H locs 0 0 (MQ below (va_Qi (Pz_X6_readNumber_3 ad cy B qr s1 a2 w0) (fun u : va_W => wpost dC dI cy A u) A) (List.toArray [.ref (ad 1), .int 0, .int a2]) s 0 0 A) (F0 m 125 ls []) := by
    intro v125_3 f125_1_1 f125_1_2 f125_1_3 H locs ls w1 r2 t3 r4 t5 r7 t8 r10 t11 hw hT hF c6 c9 c12 c13 hM hl
    refine lv_aload_n hx hb dX6_readNumber_125 rfl (lv_at hl 0 rfl) ?_
    refine lv_aload_n hx hb dX6_readNumber_126 rfl (lv_at hl 0 rfl) ?_
    refine tk_geti hC hK hw hT hinX6 kC_at1 (by decide) rfl 3 (by decide) (List.mem_cons_of_mem _ uw_9_17) rfl rfl dX6_readNumber_127 (fun x14 c15 rx14 tx14 => ?_)
    refine wk_top f125_1_3 (c15.symm.trans c12) ?_
    replace hM := hM.rd (sI_at c12)
    refine lv_iconst (v := 1) hx hb dX6_readNumber_130 (by decide) ?_
    refine tk_Vv hC hK hw hT hA hE hSR kC_at1 (by decide) rfl (kz_X6_blame_2 l adK adV dC dI cy ad B hB0 (Int.le_trans hB1 (by decide)) qr s1   f125_1_3 (show 0 ≤ f125_1_3.toInt from r10) (show f125_1_3.toInt ≤ 400 from Int.le_trans t11 (by decide)) 1 (by decide) (by decide) w1 H.size hT c13) (cwV 2 hC.2.2.2.2 uV_RX6_35 rfl rfl rfl (by decide +kernel) ⟨Nat.le_of_ble_eq_true rfl, Nat.le_of_ble_eq_true rfl⟩) rfl hl.1 rfl (Nat.le_of_ble_eq_true rfl) dX6_readNumber_131 (fun w18 H locs hp17 hw => ?_)
    obtain ⟨hT, k19, hv23, hg22⟩ := hp17
    try simp only [show (1 : Int32).toInt = 1 by decide] at hv23
    have hF := hF.tr k19 (by decide)
    have c24 := k19.gi kC_at1 (by decide) c6
    have c25 := k19.gi kC_at1 (by decide) c9
    have c26 := k19.gi kC_at1 (by decide) c12
    obtain ⟨x20, c21, rx20, tx20⟩ := hg22
    replace hM := hM.call hv23 rfl
    refine lv_iconst (v := (-1)) hx hb dX6_readNumber_134 (by decide) ?_
    exact tk_iret hC hr hlocks hK ⟨hT, hF, hM.ret (by decide), (Or.inr ⟨rfl, ⟨x20, c21, (show 1 ≤ x20.toInt by first | with_reducible assumption | omega), (show x20.toInt ≤ 3205 by first | with_reducible assumption | omega)⟩⟩)⟩ hw dX6_readNumber_135
  have J102 : ∀ (v102_3 : Int32) (f102_1_1 : Int32) (f102_1_2 : Int32) (f102_1_3 : Int32) (H : Heap) (locs : List Loc) (ls : Array Slot) (w27 : va_W), 0 ≤ a2.toInt → a2.toInt ≤ 9 → 0 ≤ f102_1_1.toInt → f102_1_1.toInt ≤ 400 → 1 ≤ f102_1_2.toInt → f102_1_2.toInt ≤ 400 → 0 ≤ f102_1_3.toInt → f102_1_3.toInt ≤ 399 → Wd dC dI A s.heap H locs w27 → TW ksC ad cy B qr s1 w27 → FE ksC [(6, 1, 1), (6, 3, 3), (6, 4, 4)] w0 w27 → gi w27 1 1 = f102_1_1 → gi w27 1 2 = f102_1_2 → gi w27 1 3 = f102_1_3 → gi w27 1 4 = 0 → TT (fun n => m_X6_readNumber n 1 0 a2.toInt (sI w0)) (fun n => b_X6_readNumber_102 (j_X6_readNumber 1 n) n 1 (0 : Int) (a2.toInt) (v102_3.toInt) (sI w27)) → lv_has ls 4 [(0, .ref (ad 1)), (1, .int 0), (2, .int a2), (3, .int v102_3)] → W p l e ({ frames := 2, cells := 0, slots := 0, locals := 34 }) s m (List.toArray [.ref (ad 1), .int 0, .int a2]) below meth c H locs 0 0 (MQ below (va_Qi (Pz_X6_readNumber_3 ad cy B qr s1 a2 w0) (fun u : va_W => wpost dC dI cy A u) A) (List.toArray [.ref (ad 1), .int 0, .int a2]) s 0 0 A) (F0 m 102 ls []) := by
    intro v102_3 f102_1_1 f102_1_2 f102_1_3 H locs ls w27 r28 t29 r30 t31 r33 t34 r36 t37 hw hT hF c32 c35 c38 c39 hM hl
    refine lv_aload_n hx hb dX6_readNumber_102 rfl (lv_at hl 0 rfl) ?_
    refine tk_geti hC hK hw hT hinX6 kC_at1 (by decide) rfl 1 (by decide) (List.mem_cons_of_mem _ uw_9_16) rfl rfl dX6_readNumber_103 (fun x40 c41 rx40 tx40 => ?_)
    refine wk_top f102_1_1 (c41.symm.trans c32) ?_
    replace hM := hM.rd (sI_at c32)
    refine lv_aload_n hx hb dX6_readNumber_106 rfl (lv_at hl 0 rfl) ?_
    refine tk_geti hC hK hw hT hinX6 kC_at1 (by decide) rfl 3 (by decide) (List.mem_cons_of_mem _ uw_9_17) rfl rfl dX6_readNumber_107 (fun x42 c43 rx42 tx42 => ?_)
    refine wk_top f102_1_3 (c43.symm.trans c38) ?_
    replace hM := hM.rd (sI_at c38)
    refine lv_isub hx hb dX6_readNumber_110 ?_
    refine lv_topi (fun x44 ex44 => ?_)
    have ezx44 := ex44
    have ex44 : x44.toInt = f102_1_1.toInt - f102_1_3.toInt := by rw [ex44]; exact wk_sub (show (-2147483648) ≤ f102_1_1.toInt - f102_1_3.toInt by omega) (show f102_1_1.toInt - f102_1_3.toInt ≤ 2147483647 by omega)
    replace hM := hM.lt ex44.symm
    refine lv_iconst (v := 5) hx hb dX6_readNumber_111 (by decide) ?_
    refine lv_icmp_gt (tgt := 125) hx hb dX6_readNumber_112 (by decide) (fun c45 => ?_) (fun c45 => ?_)
    · have c45 : (5 : Int) < x44.toInt := wk_lt.mp c45
      replace hM := hM.pos c45
      exact J125 v102_3 f102_1_1 f102_1_2 f102_1_3 H locs ls w27 (show 0 ≤ a2.toInt from r28) (show a2.toInt ≤ 9 from t29) (show 0 ≤ f102_1_1.toInt from r30) (show f102_1_1.toInt ≤ 400 from t31) (show 1 ≤ f102_1_2.toInt from r33) (show f102_1_2.toInt ≤ 400 from t34) (show 0 ≤ f102_1_3.toInt from r36) (show f102_1_3.toInt ≤ 399 from t37)  hw hT hF c32 c35 c38 c39 hM (lv_sub hl [0, 1, 2, 3] rfl)
    · have c45 : x44.toInt ≤ (5 : Int) := wk_ltF c45
      replace hM := hM.neg (Int.not_lt.mpr c45)
      refine lv_iload_n hx hb dX6_readNumber_115 rfl (lv_at hl 3 rfl) ?_
      refine lv_iload_n hx hb dX6_readNumber_116 rfl (lv_at hl 1 rfl) ?_
      refine lv_icmp_lt (tgt := 125) hx hb dX6_readNumber_117 (by decide) (fun c46 => ?_) (fun c46 => ?_)
      · have c46 : v102_3.toInt < (0 : Int) := wk_lt.mp c46
        replace hM := hM.pos c46
        exact J125 v102_3 f102_1_1 f102_1_2 f102_1_3 H locs ls w27 (show 0 ≤ a2.toInt from r28) (show a2.toInt ≤ 9 from t29) (show 0 ≤ f102_1_1.toInt from r30) (show f102_1_1.toInt ≤ 400 from t31) (show 1 ≤ f102_1_2.toInt from r33) (show f102_1_2.toInt ≤ 400 from t34) (show 0 ≤ f102_1_3.toInt from r36) (show f102_1_3.toInt ≤ 399 from t37)  hw hT hF c32 c35 c38 c39 hM (lv_sub hl [0, 1, 2, 3] rfl)
      · have c46 : (0 : Int) ≤ v102_3.toInt := wk_ltF c46
        replace hM := hM.neg (Int.not_lt.mpr c46)
        refine lv_iload_n hx hb dX6_readNumber_120 rfl (lv_at hl 3 rfl) ?_
        refine lv_iload_n hx hb dX6_readNumber_121 rfl (lv_at hl 2 rfl) ?_
        refine lv_icmp_le (tgt := 136) hx hb dX6_readNumber_122 (by decide) (fun c47 => ?_) (fun c47 => ?_)
        · have c47 : v102_3.toInt ≤ a2.toInt := wk_le.mp c47
          replace hM := hM.pos c47
          refine lv_iload_n hx hb dX6_readNumber_136 rfl (lv_at hl 3 rfl) ?_
          exact tk_iret hC hr hlocks hK ⟨hT, hF, hM.ret rfl, (Or.inl ⟨(show 0 ≤ v102_3.toInt by first | with_reducible assumption | omega), (show v102_3.toInt ≤ 9 by first | with_reducible assumption | omega), ⟨f102_1_2, c35, (show 1 ≤ f102_1_2.toInt from r33), (show f102_1_2.toInt ≤ 400 from t34)⟩, ⟨f102_1_3, c38, (show 0 ≤ f102_1_3.toInt from r36), (show f102_1_3.toInt ≤ 399 from t37)⟩, ⟨0, c39, (by decide), (by decide)⟩⟩)⟩ hw dX6_readNumber_137
        · have c47 : a2.toInt < v102_3.toInt := wk_leF c47
          replace hM := hM.neg (Int.not_le.mpr c47)
          exact J125 v102_3 f102_1_1 f102_1_2 f102_1_3 H locs ls w27 (show 0 ≤ a2.toInt from r28) (show a2.toInt ≤ 9 from t29) (show 0 ≤ f102_1_1.toInt from r30) (show f102_1_1.toInt ≤ 400 from t31) (show 1 ≤ f102_1_2.toInt from r33) (show f102_1_2.toInt ≤ 400 from t34) (show 0 ≤ f102_1_3.toInt from r36) (show f102_1_3.toInt ≤ 399 from t37)  hw hT hF c32 c35 c38 c39 hM (lv_sub hl [0, 1, 2, 3] rfl)
  have L32 : ∀ (n32 : Nat) (v32_3 : Int32) (f32_1_1 : Int32) (f32_1_2 : Int32) (f32_1_3 : Int32) (H : Heap) (locs : List Loc) (ls : Array Slot) (w48 : va_W), 0 ≤ a2.toInt → a2.toInt ≤ 9 → 0 ≤ f32_1_1.toInt → f32_1_1.toInt ≤ 400 → 1 ≤ f32_1_2.toInt → f32_1_2.toInt ≤ 400 → 0 ≤ f32_1_3.toInt → f32_1_3.toInt ≤ 399 → (400 - f32_1_1.toInt).toNat < n32 → Wd dC dI A s.heap H locs w48 → TW ksC ad cy B qr s1 w48 → FE ksC [(6, 1, 1), (6, 3, 3), (6, 4, 4)] w0 w48 → gi w48 1 1 = f32_1_1 → gi w48 1 2 = f32_1_2 → gi w48 1 3 = f32_1_3 → gi w48 1 4 = 0 → TT (fun n => m_X6_readNumber n 1 0 a2.toInt (sI w0)) (fun n => j_X6_readNumber 1 n 32 [(0 : Int), a2.toInt, v32_3.toInt] (sI w48)) → lv_has ls 4 [(0, .ref (ad 1)), (1, .int 0), (2, .int a2), (3, .int v32_3)] → W p l e ({ frames := 2, cells := 0, slots := 0, locals := 34 }) s m (List.toArray [.ref (ad 1), .int 0, .int a2]) below meth c H locs 0 0 (MQ below (va_Qi (Pz_X6_readNumber_3 ad cy B qr s1 a2 w0) (fun u : va_W => wpost dC dI cy A u) A) (List.toArray [.ref (ad 1), .int 0, .int a2]) s 0 0 A) (F0 m 32 ls []) := by
    intro n32
    induction n32 with
    | zero => intro v32_3 f32_1_1 f32_1_2 f32_1_3 H locs ls w48 r49 t50 r51 t52 r54 t55 r57 t58 hm32 hw hT hF c53 c56 c59 c60 hM hl; omega
    | succ n32 ih32 =>
      intro v32_3 f32_1_1 f32_1_2 f32_1_3 H locs ls w48 r49 t50 r51 t52 r54 t55 r57 t58 hm32 hw hT hF c53 c56 c59 c60 hM hl
      have J89 : ∀ (v89_3 : Int32) (H : Heap) (locs : List Loc) (ls : Array Slot) (w61 : va_W), 0 ≤ a2.toInt → a2.toInt ≤ 9 → 0 ≤ f32_1_1.toInt → f32_1_1.toInt ≤ 399 → 1 ≤ f32_1_2.toInt → f32_1_2.toInt ≤ 400 → 0 ≤ f32_1_3.toInt → f32_1_3.toInt ≤ 399 → Wd dC dI A s.heap H locs w61 → TW ksC ad cy B qr s1 w61 → FE ksC [(6, 1, 1), (6, 3, 3), (6, 4, 4)] w0 w61 → gi w61 1 1 = f32_1_1 → gi w61 1 2 = f32_1_2 → gi w61 1 3 = f32_1_3 → gi w61 1 4 = 0 → TT (fun n => m_X6_readNumber n 1 0 a2.toInt (sI w0)) (fun n => b_X6_readNumber_89 (j_X6_readNumber 1 n) n 1 (0 : Int) (a2.toInt) (v89_3.toInt) (sI w61)) → lv_has ls 4 [(0, .ref (ad 1)), (1, .int 0), (2, .int a2), (3, .int v89_3)] → W p l e ({ frames := 2, cells := 0, slots := 0, locals := 34 }) s m (List.toArray [.ref (ad 1), .int 0, .int a2]) below meth c H locs 0 0 (MQ below (va_Qi (Pz_X6_readNumber_3 ad cy B qr s1 a2 w0) (fun u : va_W => wpost dC dI cy A u) A) (List.toArray [.ref (ad 1), .int 0, .int a2]) s 0 0 A) (F0 m 89 ls []) := by
        intro v89_3 H locs ls w61 r62 t63 r64 t65 r67 t68 r70 t71 hw hT hF c66 c69 c72 c73 hM hl
        refine lv_aload_n hx hb dX6_readNumber_89 rfl (lv_at hl 0 rfl) ?_
        refine lv_dup hx hb dX6_readNumber_90 rfl ?_
        refine tk_geti hC hK hw hT hinX6 kC_at1 (by decide) rfl 1 (by decide) (List.mem_cons_of_mem _ uw_9_16) rfl rfl dX6_readNumber_91 (fun x74 c75 rx74 tx74 => ?_)
        refine wk_top f32_1_1 (c75.symm.trans c66) ?_
        replace hM := hM.rd (sI_at c66)
        refine lv_iconst (v := 1) hx hb dX6_readNumber_94 (by decide) ?_
        refine lv_iadd hx hb dX6_readNumber_95 ?_
        refine lv_topi (fun x76 ex76 => ?_)
        have ezx76 := ex76
        have ex76 : x76.toInt = f32_1_1.toInt + (1 : Int) := by rw [ex76]; exact wk_add (show (-2147483648) ≤ f32_1_1.toInt + (1 : Int) by omega) (show f32_1_1.toInt + (1 : Int) ≤ 2147483647 by omega)
        replace hM := hM.lt ex76.symm
        refine tk_puti hC hK hw hT hinX6 tyX6_ok nmX6 kC_at1 (by decide) rfl rfl 1 (by decide) (List.mem_cons_of_mem _ uw_9_16) rfl rfl rfl rfl (show 0 ≤ x76.toInt by first | with_reducible assumption | omega) (show x76.toInt ≤ 400 by first | with_reducible assumption | omega) dX6_readNumber_96 (fun H locs w77 hw hT k79 c78 => ?_)
        replace hM := hM.wr (sI_up k79 c78)
        have hF := hF.put kC_at1 (k := 1) (by decide) k79
        have c80 := k79.gi (Or.inr (by decide)) c69
        have c81 := k79.gi (Or.inr (by decide)) c72
        have c82 := k79.gi (Or.inr (by decide)) c73
        refine lv_goto (tgt := 32) hx hb dX6_readNumber_99 (by decide) ?_
        exact ih32 v89_3 x76 f32_1_2 f32_1_3 H locs ls w77 (show 0 ≤ a2.toInt from r62) (show a2.toInt ≤ 9 from t63) (show 0 ≤ x76.toInt by first | with_reducible assumption | omega) (show x76.toInt ≤ 400 by first | with_reducible assumption | omega) (show 1 ≤ f32_1_2.toInt from r67) (show f32_1_2.toInt ≤ 400 from t68) (show 0 ≤ f32_1_3.toInt from r70) (show f32_1_3.toInt ≤ 399 from t71) (show (400 - x76.toInt).toNat < n32 by first | exact tn_lt hm32 (by omega) (by omega) | omega) hw hT hF c78 c80 c81 c82 hM (lv_sub hl [0, 1, 2, 3] rfl)
      replace hM := hM.suc (fun _ => e_X6_readNumber_32)
      refine lv_aload_n hx hb dX6_readNumber_32 rfl (lv_at hl 0 rfl) ?_
      refine tk_geti hC hK hw hT hinX6 kC_at1 (by decide) rfl 1 (by decide) (List.mem_cons_of_mem _ uw_9_16) rfl rfl dX6_readNumber_33 (fun x83 c84 rx83 tx83 => ?_)
      refine wk_top f32_1_1 (c84.symm.trans c53) ?_
      replace hM := hM.rd (sI_at c53)
      refine lv_aload_n hx hb dX6_readNumber_36 rfl (lv_at hl 0 rfl) ?_
      refine tk_geti hC hK hw hT hinX6 kC_at1 (by decide) rfl 2 (by decide) (List.mem_cons_of_mem _ uw_7_22) rfl rfl dX6_readNumber_37 (fun x85 c86 rx85 tx85 => ?_)
      refine wk_top f32_1_2 (c86.symm.trans c56) ?_
      replace hM := hM.rd (sI_at c56)
      refine lv_icmp_ge (tgt := 102) hx hb dX6_readNumber_40 (by decide) (fun c87 => ?_) (fun c87 => ?_)
      · have c87 : f32_1_2.toInt ≤ f32_1_1.toInt := wk_le.mp c87
        replace hM := hM.pos c87
        exact J102 v32_3 f32_1_1 f32_1_2 f32_1_3 H locs ls w48 (show 0 ≤ a2.toInt from r49) (show a2.toInt ≤ 9 from t50) (show 0 ≤ f32_1_1.toInt from r51) (show f32_1_1.toInt ≤ 400 from t52) (show 1 ≤ f32_1_2.toInt from r54) (show f32_1_2.toInt ≤ 400 from t55) (show 0 ≤ f32_1_3.toInt from r57) (show f32_1_3.toInt ≤ 399 from t58)  hw hT hF c53 c56 c59 c60 hM (lv_sub hl [0, 1, 2, 3] rfl)
      · have c87 : f32_1_1.toInt < f32_1_2.toInt := wk_leF c87
        replace hM := hM.neg (Int.not_le.mpr c87)
        refine lv_aload_n hx hb dX6_readNumber_43 rfl (lv_at hl 0 rfl) ?_
        refine tk_getA hC hK hw hT hinX6 kC_at1 (by decide) rfl 0 (by decide) (List.mem_cons_of_mem _ uw_2_12) rfl rfl dX6_readNumber_44 ?_
        refine lv_aload_n hx hb dX6_readNumber_47 rfl (lv_at hl 0 rfl) ?_
        refine tk_geti hC hK hw hT hinX6 kC_at1 (by decide) rfl 1 (by decide) (List.mem_cons_of_mem _ uw_9_16) rfl rfl dX6_readNumber_48 (fun x88 c89 rx88 tx88 => ?_)
        refine wk_top f32_1_1 (c89.symm.trans c53) ?_
        replace hM := hM.rd (sI_at c53)
        refine tk_iald hC hK hw hT kC_at2 rfl rfl (show 0 ≤ f32_1_1.toInt from r51) (show f32_1_1.toInt < 400 by first | with_reducible assumption | omega) dX6_readNumber_51 (fun x90 c91 rx90 tx90 => ?_)
        have hox90 := c91
        replace hM := hM.rd (sI_at hox90)
        refine tk_Si hC hK hw hT hA hE hSR (kz_X6_isDigit_1 l adK adV dC dI cy ad B hB0 (Int.le_trans hB1 (by decide)) qr s1   x90 (show 0 ≤ x90.toInt from rx90) (show x90.toInt ≤ 255 from tx90) w48 H.size hT ) (va_cwS 1 hC.2.2.2.2 uS_RX6_64 rfl rfl rfl (by decide +kernel) ⟨Nat.le_of_ble_eq_true rfl, Nat.le_of_ble_eq_true rfl⟩) rfl hl.1 rfl (Nat.le_of_ble_eq_true rfl) dX6_readNumber_52 (fun r92 w94 H locs hp93 hw => ?_)
        obtain ⟨hT, k95, hv99, hg98⟩ := hp93
        have hF := hF.tr k95 (by decide)
        have c100 := k95.gi kC_at1 (by decide) c53
        have c101 := k95.gi kC_at1 (by decide) c56
        have c102 := k95.gi kC_at1 (by decide) c59
        have c103 := k95.gi kC_at1 (by decide) c60
        rcases hg98 with rfl | ⟨rfl, g96, g97⟩
        · replace hM := hM.call (r' := 0) hv99 (by decide)
          refine lv_if_eq (tgt := 102) hx hb dX6_readNumber_55 (by decide) (fun _ => ?_) (fun c => absurd (by decide) c)
          replace hM := hM.pos (by decide)
          exact J102 v32_3 f32_1_1 f32_1_2 f32_1_3 H locs ls w94 (show 0 ≤ a2.toInt from r49) (show a2.toInt ≤ 9 from t50) (show 0 ≤ f32_1_1.toInt from r51) (show f32_1_1.toInt ≤ 400 from t52) (show 1 ≤ f32_1_2.toInt from r54) (show f32_1_2.toInt ≤ 400 from t55) (show 0 ≤ f32_1_3.toInt from r57) (show f32_1_3.toInt ≤ 399 from t58)  hw hT hF c100 c101 c102 c103 hM (lv_sub hl [0, 1, 2, 3] rfl)
        · replace hM := hM.call (r' := 1) hv99 (by decide)
          refine lv_if_eq (tgt := 102) hx hb dX6_readNumber_55 (by decide) (fun c => absurd c (by decide)) (fun _ => ?_)
          replace hM := hM.neg (by decide)
          refine lv_aload_n hx hb dX6_readNumber_58 rfl (lv_at hl 0 rfl) ?_
          refine tk_geti hC hK hw hT hinX6 kC_at1 (by decide) rfl 1 (by decide) (List.mem_cons_of_mem _ uw_9_16) rfl rfl dX6_readNumber_59 (fun x104 c105 rx104 tx104 => ?_)
          refine wk_top f32_1_1 (c105.symm.trans c100) ?_
          replace hM := hM.rd (sI_at c100)
          refine lv_aload_n hx hb dX6_readNumber_62 rfl (lv_at hl 0 rfl) ?_
          refine tk_geti hC hK hw hT hinX6 kC_at1 (by decide) rfl 3 (by decide) (List.mem_cons_of_mem _ uw_9_17) rfl rfl dX6_readNumber_63 (fun x106 c107 rx106 tx106 => ?_)
          refine wk_top f32_1_3 (c107.symm.trans c102) ?_
          replace hM := hM.rd (sI_at c102)
          refine lv_isub hx hb dX6_readNumber_66 ?_
          refine lv_topi (fun x108 ex108 => ?_)
          have ezx108 := ex108
          have ex108 : x108.toInt = f32_1_1.toInt - f32_1_3.toInt := by rw [ex108]; exact wk_sub (show (-2147483648) ≤ f32_1_1.toInt - f32_1_3.toInt by omega) (show f32_1_1.toInt - f32_1_3.toInt ≤ 2147483647 by omega)
          replace hM := hM.lt ex108.symm
          refine lv_iconst (v := 5) hx hb dX6_readNumber_67 (by decide) ?_
          refine lv_icmp_ge (tgt := 89) hx hb dX6_readNumber_68 (by decide) (fun c109 => ?_) (fun c109 => ?_)
          · have c109 : (5 : Int) ≤ x108.toInt := wk_le.mp c109
            replace hM := hM.pos c109
            exact J89 v32_3 H locs ls w94 (show 0 ≤ a2.toInt from r49) (show a2.toInt ≤ 9 from t50) (show 0 ≤ f32_1_1.toInt from r51) (show f32_1_1.toInt ≤ 399 by first | with_reducible assumption | omega) (show 1 ≤ f32_1_2.toInt from r54) (show f32_1_2.toInt ≤ 400 from t55) (show 0 ≤ f32_1_3.toInt from r57) (show f32_1_3.toInt ≤ 399 from t58)  hw hT hF c100 c101 c102 c103 hM (lv_sub hl [0, 1, 2, 3] rfl)
          · have c109 : x108.toInt < (5 : Int) := wk_leF c109
            replace hM := hM.neg (Int.not_le.mpr c109)
            refine lv_iload_n hx hb dX6_readNumber_71 rfl (lv_at hl 3 rfl) ?_
            refine lv_bipush (v := 10) hx hb dX6_readNumber_72 (by decide) ?_
            refine lv_imul hx hb dX6_readNumber_74 ?_
            have nx110 := wk_i32 v32_3
            refine lv_topi (fun x111 ex111 => ?_)
            have ezx111 := ex111
            replace hM := hM.lt (o32_e (f := fun x y => x * y) ezx111 rfl (by decide))
            refine lv_aload_n hx hb dX6_readNumber_75 rfl (lv_at hl 0 rfl) ?_
            refine tk_getA hC hK hw hT hinX6 kC_at1 (by decide) rfl 0 (by decide) (List.mem_cons_of_mem _ uw_2_12) rfl rfl dX6_readNumber_76 ?_
            refine lv_aload_n hx hb dX6_readNumber_79 rfl (lv_at hl 0 rfl) ?_
            refine tk_geti hC hK hw hT hinX6 kC_at1 (by decide) rfl 1 (by decide) (List.mem_cons_of_mem _ uw_9_16) rfl rfl dX6_readNumber_80 (fun x112 c113 rx112 tx112 => ?_)
            refine wk_top f32_1_1 (c113.symm.trans c100) ?_
            replace hM := hM.rd (sI_at c100)
            refine tk_iald hC hK hw hT kC_at2 rfl rfl (show 0 ≤ f32_1_1.toInt from r51) (show f32_1_1.toInt < 400 by first | with_reducible assumption | omega) dX6_readNumber_83 (fun x114 c115 rx114 tx114 => ?_)
            have hox114 := c115
            replace hM := hM.rd (sI_at hox114)
            refine lv_iadd hx hb dX6_readNumber_84 ?_
            have nx116 := wk_i32 x111
            refine lv_topi (fun x117 ex117 => ?_)
            have ezx117 := ex117
            replace hM := hM.lt (o32_e (f := fun x y => x + y) ezx117 rfl rfl)
            refine lv_bipush (v := 48) hx hb dX6_readNumber_85 (by decide) ?_
            refine lv_isub hx hb dX6_readNumber_87 ?_
            have nx118 := wk_i32 x117
            refine lv_topi (fun x119 ex119 => ?_)
            have ezx119 := ex119
            replace hM := hM.lt (o32_e (f := fun x y => x - y) ezx119 rfl (by decide))
            refine lv_istore_n (lv' := [(3, .int x119), (0, .ref (ad 1)), (1, .int 0), (2, .int a2)]) hx hb dX6_readNumber_88 rfl hl (by decide) rfl (fun ls hl => ?_)
            exact J89 x119 H locs ls w94 (show 0 ≤ a2.toInt from r49) (show a2.toInt ≤ 9 from t50) (show 0 ≤ f32_1_1.toInt from r51) (show f32_1_1.toInt ≤ 399 by first | with_reducible assumption | omega) (show 1 ≤ f32_1_2.toInt from r54) (show f32_1_2.toInt ≤ 400 from t55) (show 0 ≤ f32_1_3.toInt from r57) (show f32_1_3.toInt ≤ 399 from t58)  hw hT hF c100 c101 c102 c103 hM (lv_sub hl [1, 2, 3, 0] rfl)
  have hM : TT (fun n => m_X6_readNumber n 1 0 a2.toInt (sI w0)) (fun n => m_X6_readNumber n 1 0 a2.toInt (sI w0)) := TT.rf
  refine lv_aload_n hx hb dX6_readNumber_0 rfl (lv_at hl 0 rfl) ?_
  refine tk_Vi hC hK hw hT hA hE hSR kC_at1 (by decide) rfl (kz_X6_isFaulty_2 l adK adV dC dI cy ad B hB0 (Int.le_trans hB1 (by decide)) qr s1    w0 s.heap.size hT cf0_) (cwV 0 hC.2.2.2.2 uV_RX6_39 rfl rfl rfl (by decide +kernel) ⟨Nat.le_of_ble_eq_true rfl, Nat.le_of_ble_eq_true rfl⟩) rfl hl.1 rfl (Nat.le_of_ble_eq_true rfl) dX6_readNumber_1 (fun r120 w122 H locs hp121 hw => ?_)
  obtain ⟨hT, k123, hv127, hg126⟩ := hp121
  have hF := hF.tr k123 (by decide)
  have c128 := k123.gi kC_at1 (by decide) cf0_
  obtain ⟨rfl, ⟨x124, c125, rx124, tx124⟩⟩ := hg126
  replace hM := hM.call (r' := 0) hv127 (by decide)
  have ex124 : x124.toInt = (0 : Int) := by rw [show x124 = 0 from c125.symm.trans c128]; decide
  refine lv_if_eq (tgt := 9) hx hb dX6_readNumber_4 (by decide) (fun _ => ?_) (fun c => absurd (by decide) c)
  replace hM := hM.pos (by decide)
  refine lv_aload_n hx hb dX6_readNumber_9 rfl (lv_at hl 0 rfl) ?_
  refine tk_Vi hC hK hw hT hA hE hSR kC_at1 (by decide) rfl (kz_X6_lookBehindBlanks_1 l adK adV dC dI cy ad B hB0 (Int.le_trans hB1 (by decide)) qr s1    w122 H.size hT ) (cwV 0 hC.2.2.2.2 uV_RX6_28 rfl rfl rfl (by decide +kernel) ⟨Nat.le_of_ble_eq_true rfl, Nat.le_of_ble_eq_true rfl⟩) rfl hl.1 rfl (Nat.le_of_ble_eq_true rfl) dX6_readNumber_10 (fun r129 w131 H locs hp130 hw => ?_)
  obtain ⟨hT, k132, hv142, hg141⟩ := hp130
  have hF := hF.tr k132 (by decide)
  have c143 := k132.gi kC_at1 (by decide) c128
  rcases hg141 with ⟨g133, g134, ⟨x135, c136, rx135, tx135⟩, ⟨x137, c138, rx137, tx137⟩, ⟨x139, c140, rx139, tx139⟩⟩ | rfl
  · replace hM := hM.call hv142 rfl
    refine tk_Si hC hK hw hT hA hE hSR (kz_X6_isDigit_1 l adK adV dC dI cy ad B hB0 (Int.le_trans hB1 (by decide)) qr s1   r129 (show 0 ≤ r129.toInt by first | with_reducible assumption | omega) (show r129.toInt ≤ 255 by first | with_reducible assumption | omega) w131 H.size hT ) (va_cwS 1 hC.2.2.2.2 uS_RX6_64 rfl rfl rfl (by decide +kernel) ⟨Nat.le_of_ble_eq_true rfl, Nat.le_of_ble_eq_true rfl⟩) rfl hl.1 rfl (Nat.le_of_ble_eq_true rfl) dX6_readNumber_13 (fun r144 w146 H locs hp145 hw => ?_)
    obtain ⟨hT, k147, hv151, hg150⟩ := hp145
    have hF := hF.tr k147 (by decide)
    have c152 := k147.gi kC_at1 (by decide) c143
    have c153 := k147.gi kC_at1 (by decide) c136
    have c154 := k147.gi kC_at1 (by decide) c138
    have c155 := k147.gi kC_at1 (by decide) c140
    rcases hg150 with rfl | ⟨rfl, g148, g149⟩
    · replace hM := hM.call (r' := 0) hv151 (by decide)
      refine lv_if_ne (tgt := 30) hx hb dX6_readNumber_16 (by decide) (fun c => absurd (by decide) c) (fun _ => ?_)
      replace hM := hM.neg (by decide)
      refine lv_aload_n hx hb dX6_readNumber_19 rfl (lv_at hl 0 rfl) ?_
      refine lv_aload_n hx hb dX6_readNumber_20 rfl (lv_at hl 0 rfl) ?_
      refine tk_geti hC hK hw hT hinX6 kC_at1 (by decide) rfl 3 (by decide) (List.mem_cons_of_mem _ uw_9_17) rfl rfl dX6_readNumber_21 (fun x156 c157 rx156 tx156 => ?_)
      refine wk_top x139 (c157.symm.trans c155) ?_
      replace hM := hM.rd (sI_at c155)
      refine lv_iconst (v := 0) hx hb dX6_readNumber_24 (by decide) ?_
      refine tk_Vv hC hK hw hT hA hE hSR kC_at1 (by decide) rfl (kz_X6_blame_2 l adK adV dC dI cy ad B hB0 (Int.le_trans hB1 (by decide)) qr s1   x139 (show 0 ≤ x139.toInt by first | with_reducible assumption | omega) (show x139.toInt ≤ 400 by first | with_reducible assumption | omega) 0 (by decide) (by decide) w146 H.size hT c152) (cwV 2 hC.2.2.2.2 uV_RX6_35 rfl rfl rfl (by decide +kernel) ⟨Nat.le_of_ble_eq_true rfl, Nat.le_of_ble_eq_true rfl⟩) rfl hl.1 rfl (Nat.le_of_ble_eq_true rfl) dX6_readNumber_25 (fun w160 H locs hp159 hw => ?_)
      obtain ⟨hT, k161, hv165, hg164⟩ := hp159
      try simp only [show (0 : Int32).toInt = 0 by decide] at hv165
      have hF := hF.tr k161 (by decide)
      have c166 := k161.gi kC_at1 (by decide) c153
      have c167 := k161.gi kC_at1 (by decide) c154
      have c168 := k161.gi kC_at1 (by decide) c155
      obtain ⟨x162, c163, rx162, tx162⟩ := hg164
      replace hM := hM.call hv165 rfl
      refine lv_iconst (v := (-1)) hx hb dX6_readNumber_28 (by decide) ?_
      exact tk_iret hC hr hlocks hK ⟨hT, hF, hM.ret (by decide), (Or.inr ⟨rfl, ⟨x162, c163, (show 1 ≤ x162.toInt by first | with_reducible assumption | omega), (show x162.toInt ≤ 3205 by first | with_reducible assumption | omega)⟩⟩)⟩ hw dX6_readNumber_29
    · replace hM := hM.call (r' := 1) hv151 (by decide)
      refine lv_if_ne (tgt := 30) hx hb dX6_readNumber_16 (by decide) (fun _ => ?_) (fun c => absurd c (by decide))
      replace hM := hM.pos (by decide)
      refine lv_iconst (v := 0) hx hb dX6_readNumber_30 (by decide) ?_
      refine lv_istore_n (lv' := [(3, .int 0), (0, .ref (ad 1)), (1, .int 0), (2, .int a2)]) hx hb dX6_readNumber_31 rfl hl (by decide) rfl (fun ls hl => ?_)
      exact L32 ((400 - x135.toInt).toNat + 1) 0 x135 x137 x139 H locs ls w146 (show 0 ≤ a2.toInt from ra2) (show a2.toInt ≤ 9 from ta2) (show 0 ≤ x135.toInt by first | with_reducible assumption | omega) (show x135.toInt ≤ 400 by first | with_reducible assumption | omega) (show 1 ≤ x137.toInt by first | with_reducible assumption | omega) (show x137.toInt ≤ 400 by first | with_reducible assumption | omega) (show 0 ≤ x139.toInt by first | with_reducible assumption | omega) (show x139.toInt ≤ 399 by first | with_reducible assumption | omega) (Nat.lt_succ_self _) hw hT hF c153 c154 c155 c152 hM (lv_sub hl [1, 2, 3, 0] rfl)
  · replace hM := hM.call (r' := (-1)) hv142 (by decide)
    refine tk_Si hC hK hw hT hA hE hSR (kz_X6_isDigit_2 l adK adV dC dI cy ad B hB0 (Int.le_trans hB1 (by decide)) qr s1    w131 H.size hT ) (va_cwS 1 hC.2.2.2.2 uS_RX6_64 rfl rfl rfl (by decide +kernel) ⟨Nat.le_of_ble_eq_true rfl, Nat.le_of_ble_eq_true rfl⟩) rfl hl.1 rfl (Nat.le_of_ble_eq_true rfl) dX6_readNumber_13 (fun r169 w171 H locs hp170 hw => ?_)
    obtain ⟨hT, k172, hv174, hg173⟩ := hp170
    have hF := hF.tr k172 (by decide)
    have c175 := k172.gi kC_at1 (by decide) c143
    obtain rfl := hg173
    replace hM := hM.call (r' := 0) hv174 (by decide)
    refine lv_if_ne (tgt := 30) hx hb dX6_readNumber_16 (by decide) (fun c => absurd (by decide) c) (fun _ => ?_)
    replace hM := hM.neg (by decide)
    refine lv_aload_n hx hb dX6_readNumber_19 rfl (lv_at hl 0 rfl) ?_
    refine lv_aload_n hx hb dX6_readNumber_20 rfl (lv_at hl 0 rfl) ?_
    refine tk_geti hC hK hw hT hinX6 kC_at1 (by decide) rfl 3 (by decide) (List.mem_cons_of_mem _ uw_9_17) rfl rfl dX6_readNumber_21 (fun x176 c177 rx176 tx176 => ?_)
    replace hM := hM.rd (sI_at c177)
    refine lv_iconst (v := 0) hx hb dX6_readNumber_24 (by decide) ?_
    refine tk_Vv hC hK hw hT hA hE hSR kC_at1 (by decide) rfl (kz_X6_blame_2 l adK adV dC dI cy ad B hB0 (Int.le_trans hB1 (by decide)) qr s1   x176 (show 0 ≤ x176.toInt from rx176) (show x176.toInt ≤ 400 from tx176) 0 (by decide) (by decide) w171 H.size hT c175) (cwV 2 hC.2.2.2.2 uV_RX6_35 rfl rfl rfl (by decide +kernel) ⟨Nat.le_of_ble_eq_true rfl, Nat.le_of_ble_eq_true rfl⟩) rfl hl.1 rfl (Nat.le_of_ble_eq_true rfl) dX6_readNumber_25 (fun w180 H locs hp179 hw => ?_)
    obtain ⟨hT, k181, hv185, hg184⟩ := hp179
    try simp only [show (0 : Int32).toInt = 0 by decide] at hv185
    have hF := hF.tr k181 (by decide)
    have c186 := k181.gi kC_at1 (by decide) c177
    obtain ⟨x182, c183, rx182, tx182⟩ := hg184
    replace hM := hM.call hv185 rfl
    refine lv_iconst (v := (-1)) hx hb dX6_readNumber_28 (by decide) ?_
    exact tk_iret hC hr hlocks hK ⟨hT, hF, hM.ret (by decide), (Or.inr ⟨rfl, ⟨x182, c183, (show 1 ≤ x182.toInt by first | with_reducible assumption | omega), (show x182.toInt ≤ 3205 by first | with_reducible assumption | omega)⟩⟩)⟩ hw dX6_readNumber_29
