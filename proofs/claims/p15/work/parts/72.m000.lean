abbrev P_X7_hasStreet_1 (ad : Nat → Nat) (cy : Nat → ClassId) (B : Int) (qr : Nat) (s1 : Int) (a1 : Int32) (w0 : va_W) : Int32 → va_W → Prop := fun r u => TW ksC ad cy B qr s1 u ∧ FE ksC ([] : List (Nat × Nat × Nat)) w0 u ∧ ((r = 0) ∨ (r = 1 ∧ 0 ≤ a1.toInt ∧ a1.toInt ≤ 11 ∧ (∃ y : Int32, gi u 39 9 = y ∧ 1 ≤ y.toInt ∧ y.toInt ≤ 12)))
set_option maxHeartbeats 4000000 in
set_option maxRecDepth 100000 in
theorem k_X7_hasStreet_1 (l : Launch) (adK adV : Nat → Nat) (dC : Nat → ClassId) (dI : Nat → Nat → Nat) (cy : Nat → ClassId) (ad : Nat → Nat) (B : Int) (hB0 : 2147483648 ≤ B) (hB1 : B ≤ 1152921504606846976) (qr : Nat) (s1 : Int)  (a1 : Int32) (w0 : va_W) (sz : Nat) (hT : TW ksC ad cy B qr s1 w0)  : Met l yX7_hasStreet (wu yX7_hasStreet cX7_hasStreet 2 (some .boolean)) ({ frames := 1, cells := 0, slots := 0, locals := 12 }) (va_Pc [.ref (ad 39), .int a1] (wpreS adK adV dC dI cy sz w0)) (va_Qi (P_X7_hasStreet_1 ad cy B qr s1 a1 w0) (fun u : va_W => wpost dC dI cy (va_A w0 sz) u) (va_A w0 sz)) 0 0 (va_A w0 sz) := by
  refine Met.ofW (cc := cX7_hasStreet) (maxL := 2) (ret := (some .boolean)) (by decide) rfl ?_
  intro p e s m args below meth c s₁ Bk hml hv
  obtain ⟨rfl, ⟨hsz, hP, hK, hD0⟩, hE, hSR⟩ := hv
  have hx := Bk.exec
  have hb := Bk.bytes
  have hr := Bk.returns
  have hlocks := Bk.notSynchronized
  have hC : CallFix p m c cX7_hasStreet 2 s _ (wu yX7_hasStreet cX7_hasStreet 2 (some .boolean)) RX7 := ⟨hx, hb, hml, findClass_of_methodNamed Bk.named, atoms_spec (ws := (wu yX7_hasStreet cX7_hasStreet 2 (some .boolean))) Bk.pre⟩
  subst hsz
  have hD := hD0.self (sz := s.heap.size)
  generalize hAe : va_A w0 s.heap.size = A at hD hE ⊢
  have hA : ∀ q : Nat, s.heap.size ≤ q → A q := fun q h => by rw [← hAe]; exact Or.inr h
  have hw : Wd dC dI A s.heap s.heap [] w0 := ⟨hP, hD, va_S.rf⟩
  have hF : FE ksC ([] : List (Nat × Nat × Nat)) w0 w0 := FE.rf
  have hl := lv_entry ([.ref (ad 39), .int a1]) (n := 2) (Nat.le_of_ble_eq_true rfl)
  rw [lg_entry_eq]
  generalize (lg_sl ([.ref (ad 39), .int a1]) ++ List.replicate (2 - (lg_sl ([.ref (ad 39), .int a1])).length) Slot.unset).toArray = ls at hl ⊢
  have hl : lv_has ls 2 [(0, .ref (ad 39)), (1, .int a1)] := hl
  generalize hloc : ([] : List Loc) = locs at hw ⊢
  have hinX7 : ∀ w ∈ u_ws RX7 TX7 12, w ∈ (wu yX7_hasStreet cX7_hasStreet 2 (some .boolean)) := fun _ h => List.mem_cons_of_mem _ (up_73 h)
  have J16 : ∀ (H : Heap) (locs : List Loc) (ls : Array Slot) (w1 : va_W), Wd dC dI A s.heap H locs w1 → TW ksC ad cy B qr s1 w1 → FE ksC ([] : List (Nat × Nat × Nat)) w0 w1 → lv_has ls 2 [(0, .ref (ad 39)), (1, .int a1)] → W p l e ({ frames := 1, cells := 0, slots := 0, locals := 12 }) s m (List.toArray [.ref (ad 39), .int a1]) below meth c H locs 0 0 (MQ below (va_Qi (P_X7_hasStreet_1 ad cy B qr s1 a1 w0) (fun u : va_W => wpost dC dI cy A u) A) (List.toArray [.ref (ad 39), .int a1]) s 0 0 A) (F0 m 16 ls []) := by
    intro H locs ls w1 hw hT hF hl
    refine lv_iconst (v := 0) hx hb dX7_hasStreet_16 (by decide) ?_
    exact tk_zret hC hr rfl hlocks hK ⟨hT, hF, (Or.inl rfl)⟩ hw dX7_hasStreet_17
  refine lv_iload_n hx hb dX7_hasStreet_0 rfl (lv_at hl 1 rfl) ?_
  refine lv_if_lt (tgt := 16) hx hb dX7_hasStreet_1 (by decide) (fun c2 => ?_) (fun c2 => ?_)
  · have c2 : a1.toInt < (0 : Int) := wk_lt.mp c2
    exact J16  s.heap locs ls w0   hw hT hF  (lv_sub hl [0, 1] rfl)
  · have c2 : (0 : Int) ≤ a1.toInt := wk_ltF c2
    refine lv_iload_n hx hb dX7_hasStreet_4 rfl (lv_at hl 1 rfl) ?_
    refine lv_aload_n hx hb dX7_hasStreet_5 rfl (lv_at hl 0 rfl) ?_
    refine tk_geti hC hK hw hT hinX7 kC_at39 (by decide) rfl 9 (by decide) (List.mem_cons_of_mem _ uw_9_8) rfl rfl dX7_hasStreet_6 (fun x3 c4 rx3 tx3 => ?_)
    refine lv_icmp_ge (tgt := 16) hx hb dX7_hasStreet_9 (by decide) (fun c5 => ?_) (fun c5 => ?_)
    · have c5 : x3.toInt ≤ a1.toInt := wk_le.mp c5
      exact J16  s.heap locs ls w0   hw hT hF  (lv_sub hl [0, 1] rfl)
    · have c5 : a1.toInt < x3.toInt := wk_leF c5
      refine lv_iconst (v := 1) hx hb dX7_hasStreet_12 (by decide) ?_
      refine lv_goto (tgt := 17) hx hb dX7_hasStreet_13 (by decide) ?_
      exact tk_zret hC hr rfl hlocks hK ⟨hT, hF, (Or.inr ⟨rfl, (show 0 ≤ a1.toInt from c2), (show a1.toInt ≤ 11 by first | with_reducible assumption | omega), ⟨x3, c4, (show 1 ≤ x3.toInt by first | with_reducible assumption | omega), (show x3.toInt ≤ 12 from tx3)⟩⟩)⟩ hw dX7_hasStreet_17
abbrev P_X7_signOn_1 (ad : Nat → Nat) (cy : Nat → ClassId) (B : Int) (qr : Nat) (s1 : Int) (a1 : Int32) (a2 : Int32) (w0 : va_W) : Int32 → va_W → Prop := fun r u => TW ksC ad cy B qr s1 u ∧ FE ksC ([] : List (Nat × Nat × Nat)) w0 u ∧ ((0 ≤ r.toInt ∧ r.toInt ≤ 3))
set_option maxHeartbeats 4000000 in
set_option maxRecDepth 100000 in
theorem k_X7_signOn_1 (l : Launch) (adK adV : Nat → Nat) (dC : Nat → ClassId) (dI : Nat → Nat → Nat) (cy : Nat → ClassId) (ad : Nat → Nat) (B : Int) (hB0 : 2147483648 ≤ B) (hB1 : B ≤ 1152921504606846976) (qr : Nat) (s1 : Int)  (a1 : Int32) (ra1 : 0 ≤ a1.toInt) (ta1 : a1.toInt ≤ 11) (a2 : Int32) (ra2 : 0 ≤ a2.toInt) (ta2 : a2.toInt ≤ 6) (w0 : va_W) (sz : Nat) (hT : TW ksC ad cy B qr s1 w0)  : Met l yX7_signOn (wu yX7_signOn cX7_signOn 3 (some .int)) ({ frames := 1, cells := 0, slots := 0, locals := 12 }) (va_Pc [.ref (ad 39), .int a1, .int a2] (wpreS adK adV dC dI cy sz w0)) (va_Qi (P_X7_signOn_1 ad cy B qr s1 a1 a2 w0) (fun u : va_W => wpost dC dI cy (va_A w0 sz) u) (va_A w0 sz)) 0 0 (va_A w0 sz) := by
  refine Met.ofW (cc := cX7_signOn) (maxL := 3) (ret := (some .int)) (by decide) rfl ?_
  intro p e s m args below meth c s₁ Bk hml hv
  obtain ⟨rfl, ⟨hsz, hP, hK, hD0⟩, hE, hSR⟩ := hv
  have hx := Bk.exec
  have hb := Bk.bytes
  have hr := Bk.returns
  have hlocks := Bk.notSynchronized
  have hC : CallFix p m c cX7_signOn 3 s _ (wu yX7_signOn cX7_signOn 3 (some .int)) RX7 := ⟨hx, hb, hml, findClass_of_methodNamed Bk.named, atoms_spec (ws := (wu yX7_signOn cX7_signOn 3 (some .int))) Bk.pre⟩
  subst hsz
  have hD := hD0.self (sz := s.heap.size)
  generalize hAe : va_A w0 s.heap.size = A at hD hE ⊢
  have hA : ∀ q : Nat, s.heap.size ≤ q → A q := fun q h => by rw [← hAe]; exact Or.inr h
  have hw : Wd dC dI A s.heap s.heap [] w0 := ⟨hP, hD, va_S.rf⟩
  have hF : FE ksC ([] : List (Nat × Nat × Nat)) w0 w0 := FE.rf
  have hl := lv_entry ([.ref (ad 39), .int a1, .int a2]) (n := 3) (Nat.le_of_ble_eq_true rfl)
  rw [lg_entry_eq]
  generalize (lg_sl ([.ref (ad 39), .int a1, .int a2]) ++ List.replicate (3 - (lg_sl ([.ref (ad 39), .int a1, .int a2])).length) Slot.unset).toArray = ls at hl ⊢
  have hl : lv_has ls 3 [(0, .ref (ad 39)), (1, .int a1), (2, .int a2)] := hl
  generalize hloc : ([] : List Loc) = locs at hw ⊢
  have hinX7 : ∀ w ∈ u_ws RX7 TX7 12, w ∈ (wu yX7_signOn cX7_signOn 3 (some .int)) := fun _ h => List.mem_cons_of_mem _ (up_73 h)
  refine lv_aload_n hx hb dX7_signOn_0 rfl (lv_at hl 0 rfl) ?_
  refine tk_getO hC hK hw hT hinX7 kC_at39 (by decide) rfl 2 (by decide) (List.mem_cons_of_mem _ uw_2_19) rfl rfl dX7_signOn_1 ?_
  refine lv_bipush (v := 7) hx hb dX7_signOn_4 (by decide) ?_
  refine lv_iload_n hx hb dX7_signOn_6 rfl (lv_at hl 1 rfl) ?_
  refine lv_imul hx hb dX7_signOn_7 ?_
  refine lv_topi (fun x1 ex1 => ?_)
  have ex1 : x1.toInt = (7 : Int) * a1.toInt := by rw [ex1]; exact wk_mul (show (-2147483648) ≤ (7 : Int) * a1.toInt by omega) (show (7 : Int) * a1.toInt ≤ 2147483647 by omega)
  refine lv_iload_n hx hb dX7_signOn_8 rfl (lv_at hl 2 rfl) ?_
  refine lv_iadd hx hb dX7_signOn_9 ?_
  refine lv_topi (fun x2 ex2 => ?_)
  have ex2 : x2.toInt = x1.toInt + a2.toInt := by rw [ex2]; exact wk_add (show (-2147483648) ≤ x1.toInt + a2.toInt by omega) (show x1.toInt + a2.toInt ≤ 2147483647 by omega)
  refine tk_iald hC hK hw hT kC_at42 rfl rfl (show 0 ≤ x2.toInt by first | with_reducible assumption | omega) (show x2.toInt < 91 by first | with_reducible assumption | omega) dX7_signOn_10 (fun x3 c4 rx3 tx3 => ?_)
  exact tk_iret hC hr hlocks hK ⟨hT, hF, ⟨(show 0 ≤ x3.toInt from rx3), (show x3.toInt ≤ 3 from tx3)⟩⟩ hw dX7_signOn_11
abbrev P_X7_sideOf_1 (ad : Nat → Nat) (cy : Nat → ClassId) (B : Int) (qr : Nat) (s1 : Int) (a1 : Int32) (a2 : Int32) (w0 : va_W) : Int32 → va_W → Prop := fun r u => TW ksC ad cy B qr s1 u ∧ FE ksC ([] : List (Nat × Nat × Nat)) w0 u ∧ ((r = (-1)) ∨ (r = 0 ∧ 0 ≤ a2.toInt ∧ a2.toInt ≤ 9 ∧ gi u 40 (2 * a1.toInt + 0).toNat = a2) ∨ (r = 1 ∧ 0 ≤ a2.toInt ∧ a2.toInt ≤ 9 ∧ gi u 40 (2 * a1.toInt + 1).toNat = a2))
set_option maxHeartbeats 4000000 in
set_option maxRecDepth 100000 in
theorem k_X7_sideOf_1 (l : Launch) (adK adV : Nat → Nat) (dC : Nat → ClassId) (dI : Nat → Nat → Nat) (cy : Nat → ClassId) (ad : Nat → Nat) (B : Int) (hB0 : 2147483648 ≤ B) (hB1 : B ≤ 1152921504606846976) (qr : Nat) (s1 : Int)  (a1 : Int32) (ra1 : 0 ≤ a1.toInt) (ta1 : a1.toInt ≤ 11) (a2 : Int32) (w0 : va_W) (sz : Nat) (hT : TW ksC ad cy B qr s1 w0)  : Met l yX7_sideOf (wu yX7_sideOf cX7_sideOf 3 (some .int)) ({ frames := 1, cells := 0, slots := 0, locals := 12 }) (va_Pc [.ref (ad 39), .int a1, .int a2] (wpreS adK adV dC dI cy sz w0)) (va_Qi (P_X7_sideOf_1 ad cy B qr s1 a1 a2 w0) (fun u : va_W => wpost dC dI cy (va_A w0 sz) u) (va_A w0 sz)) 0 0 (va_A w0 sz) := by
  refine Met.ofW (cc := cX7_sideOf) (maxL := 3) (ret := (some .int)) (by decide) rfl ?_
  intro p e s m args below meth c s₁ Bk hml hv
  obtain ⟨rfl, ⟨hsz, hP, hK, hD0⟩, hE, hSR⟩ := hv
  have hx := Bk.exec
  have hb := Bk.bytes
  have hr := Bk.returns
  have hlocks := Bk.notSynchronized
  have hC : CallFix p m c cX7_sideOf 3 s _ (wu yX7_sideOf cX7_sideOf 3 (some .int)) RX7 := ⟨hx, hb, hml, findClass_of_methodNamed Bk.named, atoms_spec (ws := (wu yX7_sideOf cX7_sideOf 3 (some .int))) Bk.pre⟩
  subst hsz
  have hD := hD0.self (sz := s.heap.size)
  generalize hAe : va_A w0 s.heap.size = A at hD hE ⊢
  have hA : ∀ q : Nat, s.heap.size ≤ q → A q := fun q h => by rw [← hAe]; exact Or.inr h
  have hw : Wd dC dI A s.heap s.heap [] w0 := ⟨hP, hD, va_S.rf⟩
  have hF : FE ksC ([] : List (Nat × Nat × Nat)) w0 w0 := FE.rf
  have hl := lv_entry ([.ref (ad 39), .int a1, .int a2]) (n := 3) (Nat.le_of_ble_eq_true rfl)
  rw [lg_entry_eq]
  generalize (lg_sl ([.ref (ad 39), .int a1, .int a2]) ++ List.replicate (3 - (lg_sl ([.ref (ad 39), .int a1, .int a2])).length) Slot.unset).toArray = ls at hl ⊢
  have hl : lv_has ls 3 [(0, .ref (ad 39)), (1, .int a1), (2, .int a2)] := hl
  generalize hloc : ([] : List Loc) = locs at hw ⊢
  have hinX7 : ∀ w ∈ u_ws RX7 TX7 12, w ∈ (wu yX7_sideOf cX7_sideOf 3 (some .int)) := fun _ h => List.mem_cons_of_mem _ (up_73 h)
  refine lv_aload_n hx hb dX7_sideOf_0 rfl (lv_at hl 0 rfl) ?_
  refine tk_getO hC hK hw hT hinX7 kC_at39 (by decide) rfl 0 (by decide) (List.mem_cons_of_mem _ uw_2_17) rfl rfl dX7_sideOf_1 ?_
  refine lv_iconst (v := 2) hx hb dX7_sideOf_4 (by decide) ?_
  refine lv_iload_n hx hb dX7_sideOf_5 rfl (lv_at hl 1 rfl) ?_
  refine lv_imul hx hb dX7_sideOf_6 ?_
  refine lv_topi (fun x1 ex1 => ?_)
  have ex1 : x1.toInt = (2 : Int) * a1.toInt := by rw [ex1]; exact wk_mul (show (-2147483648) ≤ (2 : Int) * a1.toInt by omega) (show (2 : Int) * a1.toInt ≤ 2147483647 by omega)
  refine tk_iald hC hK hw hT kC_at40 rfl rfl (show 0 ≤ x1.toInt by first | with_reducible assumption | omega) (show x1.toInt < 26 by first | with_reducible assumption | omega) dX7_sideOf_7 (fun x2 c3 rx2 tx2 => ?_)
  have c3 : gi w0 40 (2 * a1.toInt + 0).toNat = x2 := (congrArg (gi w0 40) (congrArg Int.toNat (show 2 * a1.toInt + 0 = x1.toInt by first | exact Int.le_antisymm (by omega) (by omega) | omega))).trans c3
  refine lv_iload_n hx hb dX7_sideOf_8 rfl (lv_at hl 2 rfl) ?_
  refine lv_icmp_ne (tgt := 14) hx hb dX7_sideOf_9 (by decide) (fun c4 => ?_) (fun c4 => ?_)
  · have c4 : ¬ x2.toInt = a2.toInt := wk_eqF c4
    refine lv_aload_n hx hb dX7_sideOf_14 rfl (lv_at hl 0 rfl) ?_
    refine tk_getO hC hK hw hT hinX7 kC_at39 (by decide) rfl 0 (by decide) (List.mem_cons_of_mem _ uw_2_17) rfl rfl dX7_sideOf_15 ?_
    refine lv_iconst (v := 2) hx hb dX7_sideOf_18 (by decide) ?_
    refine lv_iload_n hx hb dX7_sideOf_19 rfl (lv_at hl 1 rfl) ?_
    refine lv_imul hx hb dX7_sideOf_20 ?_
    refine lv_topi (fun x5 ex5 => ?_)
    have ex5 : x5.toInt = (2 : Int) * a1.toInt := by rw [ex5]; exact wk_mul (show (-2147483648) ≤ (2 : Int) * a1.toInt by omega) (show (2 : Int) * a1.toInt ≤ 2147483647 by omega)
    refine lv_iconst (v := 1) hx hb dX7_sideOf_21 (by decide) ?_
    refine lv_iadd hx hb dX7_sideOf_22 ?_
    refine lv_topi (fun x6 ex6 => ?_)
    have ex6 : x6.toInt = x5.toInt + (1 : Int) := by rw [ex6]; exact wk_add (show (-2147483648) ≤ x5.toInt + (1 : Int) by omega) (show x5.toInt + (1 : Int) ≤ 2147483647 by omega)
    refine tk_iald hC hK hw hT kC_at40 rfl rfl (show 0 ≤ x6.toInt by first | with_reducible assumption | omega) (show x6.toInt < 26 by first | with_reducible assumption | omega) dX7_sideOf_23 (fun x7 c8 rx7 tx7 => ?_)
    have c8 : gi w0 40 (2 * a1.toInt + 1).toNat = x7 := (congrArg (gi w0 40) (congrArg Int.toNat (show 2 * a1.toInt + 1 = x6.toInt by first | exact Int.le_antisymm (by omega) (by omega) | omega))).trans c8
    refine lv_iload_n hx hb dX7_sideOf_24 rfl (lv_at hl 2 rfl) ?_
    refine lv_icmp_ne (tgt := 32) hx hb dX7_sideOf_25 (by decide) (fun c9 => ?_) (fun c9 => ?_)
    · have c9 : ¬ x7.toInt = a2.toInt := wk_eqF c9
      refine lv_iconst (v := (-1)) hx hb dX7_sideOf_32 (by decide) ?_
      exact tk_iret hC hr hlocks hK ⟨hT, hF, (Or.inl rfl)⟩ hw dX7_sideOf_33
    · have c9 : x7.toInt = a2.toInt := wk_eq.mp c9
      refine lv_iconst (v := 1) hx hb dX7_sideOf_28 (by decide) ?_
      refine lv_goto (tgt := 33) hx hb dX7_sideOf_29 (by decide) ?_
      exact tk_iret hC hr hlocks hK ⟨hT, hF, (Or.inr (Or.inr ⟨rfl, (show 0 ≤ a2.toInt by first | with_reducible assumption | omega), (show a2.toInt ≤ 9 by first | with_reducible assumption | omega), (c8.trans (wk_eq.mpr (show x7.toInt = a2.toInt by first | exact Int.le_antisymm (by omega) (by omega) | omega)))⟩))⟩ hw dX7_sideOf_33
  · have c4 : x2.toInt = a2.toInt := wk_eq.mp c4
    refine lv_iconst (v := 0) hx hb dX7_sideOf_12 (by decide) ?_
    exact tk_iret hC hr hlocks hK ⟨hT, hF, (Or.inr (Or.inl ⟨rfl, (show 0 ≤ a2.toInt by first | with_reducible assumption | omega), (show a2.toInt ≤ 9 by first | with_reducible assumption | omega), (c3.trans (wk_eq.mpr (show x2.toInt = a2.toInt by first | exact Int.le_antisymm (by omega) (by omega) | omega)))⟩))⟩ hw dX7_sideOf_13
abbrev P_X7_openHours_1 (ad : Nat → Nat) (cy : Nat → ClassId) (B : Int) (qr : Nat) (s1 : Int) (a1 : Int32) (a3 : Int64) (w0 : va_W) : Int32 → va_W → Prop := fun r u => TW ksC ad cy B qr s1 u ∧ FE ksC ([] : List (Nat × Nat × Nat)) w0 u ∧ ((0 ≤ r.toInt ∧ r.toInt ≤ 16777215))
set_option maxHeartbeats 4000000 in
set_option maxRecDepth 100000 in
theorem k_X7_openHours_1 (l : Launch) (adK adV : Nat → Nat) (dC : Nat → ClassId) (dI : Nat → Nat → Nat) (cy : Nat → ClassId) (ad : Nat → Nat) (B : Int) (hB0 : 2147483648 ≤ B) (hB1 : B ≤ 1152921504606846976) (qr : Nat) (s1 : Int)  (a1 : Int32) (ra1 : 0 ≤ a1.toInt) (ta1 : a1.toInt ≤ 11) (a3 : Int64) (ra3 : 0 ≤ a3.toInt) (ta3 : a3.toInt ≤ 89478485) (w0 : va_W) (sz : Nat) (hT : TW ksC ad cy B qr s1 w0)  : Met l yX7_openHours (wu yX7_openHours cX7_openHours 8 (some .int)) ({ frames := 1, cells := 0, slots := 0, locals := 12 }) (va_Pc [.ref (ad 39), .int a1, .int 0, .long a3, .int 1] (wpreS adK adV dC dI cy sz w0)) (va_Qi (P_X7_openHours_1 ad cy B qr s1 a1 a3 w0) (fun u : va_W => wpost dC dI cy (va_A w0 sz) u) (va_A w0 sz)) 0 0 (va_A w0 sz) := by
  refine Met.ofW (cc := cX7_openHours) (maxL := 8) (ret := (some .int)) (by decide) rfl ?_
  intro p e s m args below meth c s₁ Bk hml hv
  obtain ⟨rfl, ⟨hsz, hP, hK, hD0⟩, hE, hSR⟩ := hv
  have hx := Bk.exec
  have hb := Bk.bytes
  have hr := Bk.returns
  have hlocks := Bk.notSynchronized
  have hC : CallFix p m c cX7_openHours 8 s _ (wu yX7_openHours cX7_openHours 8 (some .int)) RX7 := ⟨hx, hb, hml, findClass_of_methodNamed Bk.named, atoms_spec (ws := (wu yX7_openHours cX7_openHours 8 (some .int))) Bk.pre⟩
  subst hsz
  have hD := hD0.self (sz := s.heap.size)
  generalize hAe : va_A w0 s.heap.size = A at hD hE ⊢
  have hA : ∀ q : Nat, s.heap.size ≤ q → A q := fun q h => by rw [← hAe]; exact Or.inr h
  have hw : Wd dC dI A s.heap s.heap [] w0 := ⟨hP, hD, va_S.rf⟩
  have hF : FE ksC ([] : List (Nat × Nat × Nat)) w0 w0 := FE.rf
  have hl := lv_entry ([.ref (ad 39), .int a1, .int 0, .long a3, .int 1]) (n := 8) (Nat.le_of_ble_eq_true rfl)
  rw [lg_entry_eq]
  generalize (lg_sl ([.ref (ad 39), .int a1, .int 0, .long a3, .int 1]) ++ List.replicate (8 - (lg_sl ([.ref (ad 39), .int a1, .int 0, .long a3, .int 1])).length) Slot.unset).toArray = ls at hl ⊢
  have hl : lv_has ls 8 [(0, .ref (ad 39)), (1, .int a1), (2, .int 0), (3, .long a3), (5, .int 1)] := hl
  generalize hloc : ([] : List Loc) = locs at hw ⊢
  have hinX7 : ∀ w ∈ u_ws RX7 TX7 12, w ∈ (wu yX7_openHours cX7_openHours 8 (some .int)) := fun _ h => List.mem_cons_of_mem _ (up_73 h)
  have J93 : ∀ (v93_6 : Int32) (v93_7 : Int32) (H : Heap) (locs : List Loc) (ls : Array Slot) (w1 : va_W), 0 ≤ a1.toInt → a1.toInt ≤ 11 → 0 ≤ a3.toInt → a3.toInt ≤ 89478485 → 0 ≤ v93_7.toInt → v93_7.toInt ≤ 8 → Wd dC dI A s.heap H locs w1 → TW ksC ad cy B qr s1 w1 → FE ksC ([] : List (Nat × Nat × Nat)) w0 w1 → lv_has ls 8 [(0, .ref (ad 39)), (1, .int a1), (2, .int 0), (3, .long a3), (5, .int 1), (6, .int v93_6), (7, .int v93_7)] → W p l e ({ frames := 1, cells := 0, slots := 0, locals := 12 }) s m (List.toArray [.ref (ad 39), .int a1, .int 0, .long a3, .int 1]) below meth c H locs 0 0 (MQ below (va_Qi (P_X7_openHours_1 ad cy B qr s1 a1 a3 w0) (fun u : va_W => wpost dC dI cy A u) A) (List.toArray [.ref (ad 39), .int a1, .int 0, .long a3, .int 1]) s 0 0 A) (F0 m 93 ls []) := by
    intro v93_6 v93_7 H locs ls w1 r2 t3 r4 t5 r6 t7 hw hT hF hl
    refine lv_ldc (v := 16777215) hx hb hC.2.2.2.1 (hC.2.2.2.2 _ (List.mem_cons_of_mem _ uw_31_17)) dX7_openHours_93 ?_
    refine lv_aload_n hx hb dX7_openHours_95 rfl (lv_at hl 0 rfl) ?_
    refine tk_getO hC hK hw hT hinX7 kC_at39 (by decide) rfl 3 (by decide) (List.mem_cons_of_mem _ uw_2_20) rfl rfl dX7_openHours_96 ?_
    refine lv_iload_n hx hb dX7_openHours_99 rfl (lv_at hl 1 rfl) ?_
    refine tk_iald hC hK hw hT kC_at43 rfl rfl (show 0 ≤ a1.toInt from r2) (show a1.toInt < 13 from Int.lt_of_le_of_lt t3 (by decide)) dX7_openHours_100 (fun x8 c9 rx8 tx8 => ?_)
    refine lv_iconst (v := (-1)) hx hb dX7_openHours_101 (by decide) ?_
    refine lv_ixor hx hb dX7_openHours_102 ?_
    refine lv_topi (fun x10 ex10 => ?_)
    refine lv_iand hx hb dX7_openHours_103 ?_
    refine lv_topi (fun x11 ex11 => ?_)
    have bx11 : 0 ≤ x11.toInt ∧ x11.toInt ≤ (16777215 : Int) := by rw [ex11]; exact wk_andC (by decide)
    exact tk_iret hC hr hlocks hK ⟨hT, hF, ⟨(show 0 ≤ x11.toInt by first | with_reducible assumption | omega), (show x11.toInt ≤ 16777215 by first | with_reducible assumption | omega)⟩⟩ hw dX7_openHours_104
  have L44 : ∀ (n44 : Nat) (v44_6 : Int32) (v44_7 : Int32) (H : Heap) (locs : List Loc) (ls : Array Slot) (w12 : va_W), 0 ≤ a1.toInt → a1.toInt ≤ 11 → 0 ≤ a3.toInt → a3.toInt ≤ 89478485 → 0 ≤ v44_7.toInt → v44_7.toInt ≤ 8 → (8 - v44_7.toInt).toNat < n44 → Wd dC dI A s.heap H locs w12 → TW ksC ad cy B qr s1 w12 → FE ksC ([] : List (Nat × Nat × Nat)) w0 w12 → lv_has ls 8 [(0, .ref (ad 39)), (1, .int a1), (2, .int 0), (3, .long a3), (5, .int 1), (6, .int v44_6), (7, .int v44_7)] → W p l e ({ frames := 1, cells := 0, slots := 0, locals := 12 }) s m (List.toArray [.ref (ad 39), .int a1, .int 0, .long a3, .int 1]) below meth c H locs 0 0 (MQ below (va_Qi (P_X7_openHours_1 ad cy B qr s1 a1 a3 w0) (fun u : va_W => wpost dC dI cy A u) A) (List.toArray [.ref (ad 39), .int a1, .int 0, .long a3, .int 1]) s 0 0 A) (F0 m 44 ls []) := by
    intro n44
    induction n44 with
    | zero => intro v44_6 v44_7 H locs ls w12 r13 t14 r15 t16 r17 t18 hm44 hw hT hF hl; omega
    | succ n44 ih44 =>
      intro v44_6 v44_7 H locs ls w12 r13 t14 r15 t16 r17 t18 hm44 hw hT hF hl
      have J81 : ∀ (H : Heap) (locs : List Loc) (ls : Array Slot) (w19 : va_W), 0 ≤ a1.toInt → a1.toInt ≤ 11 → 0 ≤ a3.toInt → a3.toInt ≤ 89478485 → 0 ≤ v44_7.toInt → v44_7.toInt ≤ 7 → Wd dC dI A s.heap H locs w19 → TW ksC ad cy B qr s1 w19 → FE ksC ([] : List (Nat × Nat × Nat)) w0 w19 → lv_has ls 8 [(0, .ref (ad 39)), (1, .int a1), (2, .int 0), (3, .long a3), (5, .int 1), (6, .int v44_6), (7, .int v44_7)] → W p l e ({ frames := 1, cells := 0, slots := 0, locals := 12 }) s m (List.toArray [.ref (ad 39), .int a1, .int 0, .long a3, .int 1]) below meth c H locs 0 0 (MQ below (va_Qi (P_X7_openHours_1 ad cy B qr s1 a1 a3 w0) (fun u : va_W => wpost dC dI cy A u) A) (List.toArray [.ref (ad 39), .int a1, .int 0, .long a3, .int 1]) s 0 0 A) (F0 m 81 ls []) := by
        intro H locs ls w19 r20 t21 r22 t23 r24 t25 hw hT hF hl
        refine lv_iload hx hb dX7_openHours_81 (lv_at hl 5 rfl) ?_
        refine lv_iconst (v := 1) hx hb dX7_openHours_83 (by decide) ?_
        refine lv_ishr hx hb dX7_openHours_84 ?_
        refine lv_topi (fun x26 ex26 => ?_)
        refine lv_istore (lv' := [(6, .int x26), (0, .ref (ad 39)), (1, .int a1), (2, .int 0), (3, .long a3), (5, .int 1), (7, .int v44_7)]) hx hb dX7_openHours_85 hl (by decide) rfl (fun ls hl => ?_)
        obtain ⟨x27, ex27⟩ : ∃ y : Int32, y = v44_7 + Int32.ofInt 1 := ⟨_, rfl⟩
        refine lv_iinc (v := x27) (lv' := [(7, .int x27), (6, .int x26), (0, .ref (ad 39)), (1, .int a1), (2, .int 0), (3, .long a3), (5, .int 1)]) hx hb dX7_openHours_87 hl (k := 6) rfl ex27.symm (by decide) rfl (fun ls hl => ?_)
        have ex27 : x27.toInt = v44_7.toInt + 1 := by rw [ex27]; exact wk_add (y := 1) (show -2147483648 ≤ v44_7.toInt + 1 by omega) (show v44_7.toInt + 1 ≤ 2147483647 by omega)
        refine lv_goto (tgt := 44) hx hb dX7_openHours_90 (by decide) ?_
        exact ih44 x26 x27 H locs ls w19 (show 0 ≤ a1.toInt from r20) (show a1.toInt ≤ 11 from t21) (show 0 ≤ a3.toInt from r22) (show a3.toInt ≤ 89478485 from t23) (show 0 ≤ x27.toInt by first | with_reducible assumption | omega) (show x27.toInt ≤ 8 by first | with_reducible assumption | omega) (show (8 - x27.toInt).toNat < n44 by first | exact tn_lt hm44 (by omega) (by omega) | omega) hw hT hF  (lv_sub hl [2, 3, 4, 5, 6, 1, 0] rfl)
      refine lv_iload hx hb dX7_openHours_44 (lv_at hl 5 rfl) ?_
      refine lv_if_eq (tgt := 93) hx hb dX7_openHours_46 (by decide) (fun c28 => ?_) (fun c28 => ?_)
      · have c28 : v44_6.toInt = (0 : Int) := wk_eq.mp c28
        exact J93 v44_6 v44_7 H locs ls w12 (show 0 ≤ a1.toInt from r13) (show a1.toInt ≤ 11 from t14) (show 0 ≤ a3.toInt from r15) (show a3.toInt ≤ 89478485 from t16) (show 0 ≤ v44_7.toInt from r17) (show v44_7.toInt ≤ 8 from t18)  hw hT hF  (lv_sub hl [0, 1, 2, 3, 4, 5, 6] rfl)
      · have c28 : ¬ v44_6.toInt = (0 : Int) := wk_eqF c28
        refine lv_iload hx hb dX7_openHours_49 (lv_at hl 6 rfl) ?_
        refine lv_bipush (v := 8) hx hb dX7_openHours_51 (by decide) ?_
        refine lv_icmp_ge (tgt := 93) hx hb dX7_openHours_53 (by decide) (fun c29 => ?_) (fun c29 => ?_)
        · have c29 : (8 : Int) ≤ v44_7.toInt := wk_le.mp c29
          exact J93 v44_6 v44_7 H locs ls w12 (show 0 ≤ a1.toInt from r13) (show a1.toInt ≤ 11 from t14) (show 0 ≤ a3.toInt from r15) (show a3.toInt ≤ 89478485 from t16) (show 0 ≤ v44_7.toInt from r17) (show v44_7.toInt ≤ 8 from t18)  hw hT hF  (lv_sub hl [0, 1, 2, 3, 4, 5, 6] rfl)
        · have c29 : v44_7.toInt < (8 : Int) := wk_leF c29
          refine lv_iload hx hb dX7_openHours_56 (lv_at hl 5 rfl) ?_
          refine lv_iconst (v := 1) hx hb dX7_openHours_58 (by decide) ?_
          refine lv_iand hx hb dX7_openHours_59 ?_
          refine lv_topi (fun x30 ex30 => ?_)
          have bx30 : 0 ≤ x30.toInt ∧ x30.toInt ≤ (1 : Int) := by rw [ex30]; exact wk_and (by decide)
          refine lv_if_eq (tgt := 81) hx hb dX7_openHours_60 (by decide) (fun c31 => ?_) (fun c31 => ?_)
          · have c31 : x30.toInt = (0 : Int) := wk_eq.mp c31
            exact J81  H locs ls w12 (show 0 ≤ a1.toInt from r13) (show a1.toInt ≤ 11 from t14) (show 0 ≤ a3.toInt from r15) (show a3.toInt ≤ 89478485 from t16) (show 0 ≤ v44_7.toInt from r17) (show v44_7.toInt ≤ 7 by first | with_reducible assumption | omega)  hw hT hF  (lv_sub hl [0, 1, 2, 3, 4, 5, 6] rfl)
          · have c31 : ¬ x30.toInt = (0 : Int) := wk_eqF c31
            refine lv_aload_n hx hb dX7_openHours_63 rfl (lv_at hl 0 rfl) ?_
            refine tk_getO hC hK hw hT hinX7 kC_at39 (by decide) rfl 6 (by decide) (List.mem_cons_of_mem _ uw_2_23) rfl rfl dX7_openHours_64 ?_
            refine lv_iload hx hb dX7_openHours_67 (lv_at hl 6 rfl) ?_
            refine tk_iald hC hK hw hT kC_at46 rfl rfl (show 0 ≤ v44_7.toInt from r17) (show v44_7.toInt < 8 from c29) dX7_openHours_69 (fun x32 c33 rx32 tx32 => ?_)
            refine lv_lload_n hx hb dX7_openHours_70 rfl (lv_at hl 3 rfl) ?_
            refine lv_ldc2 (v := 360) hx hb hC.2.2.2.1 (hC.2.2.2.2 _ (List.mem_cons_of_mem _ uw_31_16)) dX7_openHours_71 ?_
            refine lv_lrem hx hb dX7_openHours_74 (by decide) ?_
            refine lv_topl (fun x34 ex34 => ?_)
            have ex34 : x34.toInt = a3.toInt % (360 : Int) := by rw [ex34]; exact wk_reml (show 0 ≤ a3.toInt from r15) (show 0 < (360 : Int) by decide)
            refine lv_l2i hx hb dX7_openHours_75 rfl ?_
            refine lv_topi (fun x35 ex35 => ?_)
            have ex35 : x35.toInt = x34.toInt := by rw [ex35]; exact wk_l2i (by omega) (by omega)
            refine lv_icmp_ne (tgt := 81) hx hb dX7_openHours_76 (by decide) (fun c36 => ?_) (fun c36 => ?_)
            · have c36 : ¬ x32.toInt = x35.toInt := wk_eqF c36
              exact J81  H locs ls w12 (show 0 ≤ a1.toInt from r13) (show a1.toInt ≤ 11 from t14) (show 0 ≤ a3.toInt from r15) (show a3.toInt ≤ 89478485 from t16) (show 0 ≤ v44_7.toInt from r17) (show v44_7.toInt ≤ 7 by first | with_reducible assumption | omega)  hw hT hF  (lv_sub hl [0, 1, 2, 3, 4, 5, 6] rfl)
            · have c36 : x32.toInt = x35.toInt := wk_eq.mp c36
              refine lv_iconst (v := 0) hx hb dX7_openHours_79 (by decide) ?_
              exact tk_iret hC hr hlocks hK ⟨hT, hF, ⟨(by decide), (by decide)⟩⟩ hw dX7_openHours_80
  refine lv_aload_n hx hb dX7_openHours_0 rfl (lv_at hl 0 rfl) ?_
  refine tk_getO hC hK hw hT hinX7 kC_at39 (by decide) rfl 4 (by decide) (List.mem_cons_of_mem _ uw_2_21) rfl rfl dX7_openHours_1 ?_
  refine lv_iconst (v := 2) hx hb dX7_openHours_4 (by decide) ?_
  refine lv_iload_n hx hb dX7_openHours_5 rfl (lv_at hl 1 rfl) ?_
  refine lv_imul hx hb dX7_openHours_6 ?_
  refine lv_topi (fun x37 ex37 => ?_)
  have ex37 : x37.toInt = (2 : Int) * a1.toInt := by rw [ex37]; exact wk_mul (show (-2147483648) ≤ (2 : Int) * a1.toInt by omega) (show (2 : Int) * a1.toInt ≤ 2147483647 by omega)
  refine lv_iload_n hx hb dX7_openHours_7 rfl (lv_at hl 2 rfl) ?_
  refine lv_iadd hx hb dX7_openHours_8 ?_
  refine lv_topi (fun x38 ex38 => ?_)
  have ex38 : x38.toInt = x37.toInt + (0 : Int) := by rw [ex38]; exact wk_add (show (-2147483648) ≤ x37.toInt + (0 : Int) by omega) (show x37.toInt + (0 : Int) ≤ 2147483647 by omega)
  refine tk_iald hC hK hw hT kC_at44 rfl rfl (show 0 ≤ x38.toInt by first | with_reducible assumption | omega) (show x38.toInt < 26 by first | with_reducible assumption | omega) dX7_openHours_9 (fun x39 c40 rx39 tx39 => ?_)
  refine lv_lload_n hx hb dX7_openHours_10 rfl (lv_at hl 3 rfl) ?_
  refine lv_ldc2 (v := 7) hx hb hC.2.2.2.1 (hC.2.2.2.2 _ (List.mem_cons_of_mem _ uw_31_15)) dX7_openHours_11 ?_
  refine lv_lrem hx hb dX7_openHours_14 (by decide) ?_
  refine lv_topl (fun x41 ex41 => ?_)
  have ex41 : x41.toInt = a3.toInt % (7 : Int) := by rw [ex41]; exact wk_reml (show 0 ≤ a3.toInt from ra3) (show 0 < (7 : Int) by decide)
  refine lv_l2i hx hb dX7_openHours_15 rfl ?_
  refine lv_topi (fun x42 ex42 => ?_)
  have ex42 : x42.toInt = x41.toInt := by rw [ex42]; exact wk_l2i (by omega) (by omega)
  refine lv_ishr hx hb dX7_openHours_16 ?_
  refine lv_topi (fun x43 ex43 => ?_)
  refine lv_iconst (v := 1) hx hb dX7_openHours_17 (by decide) ?_
  refine lv_iand hx hb dX7_openHours_18 ?_
  refine lv_topi (fun x44 ex44 => ?_)
  have bx44 : 0 ≤ x44.toInt ∧ x44.toInt ≤ (1 : Int) := by rw [ex44]; exact wk_and (by decide)
  refine lv_if_ne (tgt := 24) hx hb dX7_openHours_19 (by decide) (fun c45 => ?_) (fun c45 => ?_)
  · have c45 : ¬ x44.toInt = (0 : Int) := wk_eqF c45
    refine lv_iload hx hb dX7_openHours_24 (lv_at hl 4 rfl) ?_
    refine lv_if_eq (tgt := 38) hx hb dX7_openHours_26 (by decide) (fun c => absurd c (by decide)) (fun _ => ?_)
    refine lv_aload_n hx hb dX7_openHours_29 rfl (lv_at hl 0 rfl) ?_
    refine tk_getO hC hK hw hT hinX7 kC_at39 (by decide) rfl 7 (by decide) (List.mem_cons_of_mem _ uw_3_0) rfl rfl dX7_openHours_30 ?_
    refine lv_iload_n hx hb dX7_openHours_33 rfl (lv_at hl 1 rfl) ?_
    refine tk_iald hC hK hw hT kC_at47 rfl rfl (show 0 ≤ a1.toInt from ra1) (show a1.toInt < 13 from Int.lt_of_le_of_lt ta1 (by decide)) dX7_openHours_34 (fun x46 c47 rx46 tx46 => ?_)
    refine lv_goto (tgt := 39) hx hb dX7_openHours_35 (by decide) ?_
    refine lv_istore (lv' := [(6, .int x46), (0, .ref (ad 39)), (1, .int a1), (2, .int 0), (3, .long a3), (5, .int 1)]) hx hb dX7_openHours_39 hl (by decide) rfl (fun ls hl => ?_)
    refine lv_iconst (v := 0) hx hb dX7_openHours_41 (by decide) ?_
    refine lv_istore (lv' := [(7, .int 0), (6, .int x46), (0, .ref (ad 39)), (1, .int a1), (2, .int 0), (3, .long a3), (5, .int 1)]) hx hb dX7_openHours_42 hl (by decide) rfl (fun ls hl => ?_)
    exact L44 ((8 - (0 : Int)).toNat + 1) x46 0 s.heap locs ls w0 (show 0 ≤ a1.toInt from ra1) (show a1.toInt ≤ 11 from ta1) (show 0 ≤ a3.toInt from ra3) (show a3.toInt ≤ 89478485 from ta3) (by decide) (by decide) (Nat.lt_succ_self _) hw hT hF  (lv_sub hl [2, 3, 4, 5, 6, 1, 0] rfl)
  · have c45 : x44.toInt = (0 : Int) := wk_eq.mp c45
    refine lv_iconst (v := 0) hx hb dX7_openHours_22 (by decide) ?_
    exact tk_iret hC hr hlocks hK ⟨hT, hF, ⟨(by decide), (by decide)⟩⟩ hw dX7_openHours_23
abbrev P_X7_isOpen_1 (ad : Nat → Nat) (cy : Nat → ClassId) (B : Int) (qr : Nat) (s1 : Int) (a1 : Int32) (a3 : Int64) (w0 : va_W) : Int32 → va_W → Prop := fun r u => TW ksC ad cy B qr s1 u ∧ FE ksC ([] : List (Nat × Nat × Nat)) w0 u ∧ ((r = 0) ∨ (r = 1))
set_option maxHeartbeats 4000000 in
set_option maxRecDepth 100000 in
theorem k_X7_isOpen_1 (l : Launch) (adK adV : Nat → Nat) (dC : Nat → ClassId) (dI : Nat → Nat → Nat) (cy : Nat → ClassId) (ad : Nat → Nat) (B : Int) (hB0 : 2147483648 ≤ B) (hB1 : B ≤ 1152921504606846976) (qr : Nat) (s1 : Int)  (a1 : Int32) (ra1 : 0 ≤ a1.toInt) (ta1 : a1.toInt ≤ 11) (a3 : Int64) (ra3 : 0 ≤ a3.toInt) (ta3 : a3.toInt ≤ 2147483647) (w0 : va_W) (sz : Nat) (hT : TW ksC ad cy B qr s1 w0)  : Met l yX7_isOpen (wu yX7_isOpen cX7_isOpen 7 (some .boolean)) ({ frames := 2, cells := 0, slots := 0, locals := 39 }) (va_Pc [.ref (ad 39), .int a1, .int 0, .long a3, .int 1] (wpreS adK adV dC dI cy sz w0)) (va_Qi (P_X7_isOpen_1 ad cy B qr s1 a1 a3 w0) (fun u : va_W => wpost dC dI cy (va_A w0 sz) u) (va_A w0 sz)) 0 0 (va_A w0 sz) := by
  refine Met.ofW (cc := cX7_isOpen) (maxL := 7) (ret := (some .boolean)) (by decide) rfl ?_
  intro p e s m args below meth c s₁ Bk hml hv
  obtain ⟨rfl, ⟨hsz, hP, hK, hD0⟩, hE, hSR⟩ := hv
  have hx := Bk.exec
  have hb := Bk.bytes
  have hr := Bk.returns
  have hlocks := Bk.notSynchronized
  have hC : CallFix p m c cX7_isOpen 7 s _ (wu yX7_isOpen cX7_isOpen 7 (some .boolean)) RX7 := ⟨hx, hb, hml, findClass_of_methodNamed Bk.named, atoms_spec (ws := (wu yX7_isOpen cX7_isOpen 7 (some .boolean))) Bk.pre⟩
  subst hsz
  have hD := hD0.self (sz := s.heap.size)
  generalize hAe : va_A w0 s.heap.size = A at hD hE ⊢
  have hA : ∀ q : Nat, s.heap.size ≤ q → A q := fun q h => by rw [← hAe]; exact Or.inr h
  have hw : Wd dC dI A s.heap s.heap [] w0 := ⟨hP, hD, va_S.rf⟩
  have hF : FE ksC ([] : List (Nat × Nat × Nat)) w0 w0 := FE.rf
  have hl := lv_entry ([.ref (ad 39), .int a1, .int 0, .long a3, .int 1]) (n := 7) (Nat.le_of_ble_eq_true rfl)
  rw [lg_entry_eq]
  generalize (lg_sl ([.ref (ad 39), .int a1, .int 0, .long a3, .int 1]) ++ List.replicate (7 - (lg_sl ([.ref (ad 39), .int a1, .int 0, .long a3, .int 1])).length) Slot.unset).toArray = ls at hl ⊢
  have hl : lv_has ls 7 [(0, .ref (ad 39)), (1, .int a1), (2, .int 0), (3, .long a3), (5, .int 1)] := hl
  generalize hloc : ([] : List Loc) = locs at hw ⊢
  refine lv_aload_n hx hb dX7_isOpen_0 rfl (lv_at hl 0 rfl) ?_
  refine lv_iload_n hx hb dX7_isOpen_1 rfl (lv_at hl 1 rfl) ?_
  refine lv_iload_n hx hb dX7_isOpen_2 rfl (lv_at hl 2 rfl) ?_
  refine lv_lload_n hx hb dX7_isOpen_3 rfl (lv_at hl 3 rfl) ?_
  refine lv_ldc2 (v := 24) hx hb hC.2.2.2.1 (hC.2.2.2.2 _ (List.mem_cons_of_mem _ uw_31_10)) dX7_isOpen_4 ?_
  refine lv_ldiv hx hb dX7_isOpen_7 (by decide) ?_
  refine lv_topl (fun x1 ex1 => ?_)
  have ex1 : x1.toInt = a3.toInt / (24 : Int) := by rw [ex1]; exact wk_divl (show 0 ≤ a3.toInt from ra3) (show 0 < (24 : Int) by decide)
  refine lv_iload hx hb dX7_isOpen_8 (lv_at hl 4 rfl) ?_
  refine tk_Vi hC hK hw hT hA hE hSR kC_at39 (by decide) rfl (k_X7_openHours_1 l adK adV dC dI cy ad B hB0 (Int.le_trans hB1 (by decide)) qr s1   a1 (show 0 ≤ a1.toInt from ra1) (show a1.toInt ≤ 11 from ta1) x1 (show 0 ≤ x1.toInt by first | with_reducible assumption | omega) (show x1.toInt ≤ 89478485 by first | with_reducible assumption | omega) w0 s.heap.size hT ) (cwV 4 hC.2.2.2.2 uV_RX7_148 rfl rfl rfl (by decide +kernel) ⟨Nat.le_of_ble_eq_true rfl, Nat.le_of_ble_eq_true rfl⟩) rfl hl.1 rfl (Nat.le_of_ble_eq_true rfl) dX7_isOpen_10 (fun r2 w4 H locs hp3 hw => ?_)
  obtain ⟨hT, k5, hg8⟩ := hp3
  have hF := hF.tr k5 (by decide)
  obtain ⟨g6, g7⟩ := hg8
  refine lv_istore (lv' := [(6, .int r2), (0, .ref (ad 39)), (1, .int a1), (2, .int 0), (3, .long a3), (5, .int 1)]) hx hb dX7_isOpen_13 hl (by decide) rfl (fun ls hl => ?_)
  refine lv_iload hx hb dX7_isOpen_15 (lv_at hl 0 rfl) ?_
  refine lv_lload_n hx hb dX7_isOpen_17 rfl (lv_at hl 4 rfl) ?_
  refine lv_ldc2 (v := 24) hx hb hC.2.2.2.1 (hC.2.2.2.2 _ (List.mem_cons_of_mem _ uw_31_10)) dX7_isOpen_18 ?_
  refine lv_lrem hx hb dX7_isOpen_21 (by decide) ?_
  refine lv_topl (fun x9 ex9 => ?_)
  have ex9 : x9.toInt = a3.toInt % (24 : Int) := by rw [ex9]; exact wk_reml (show 0 ≤ a3.toInt from ra3) (show 0 < (24 : Int) by decide)
  refine lv_l2i hx hb dX7_isOpen_22 rfl ?_
  refine lv_topi (fun x10 ex10 => ?_)
  have ex10 : x10.toInt = x9.toInt := by rw [ex10]; exact wk_l2i (by omega) (by omega)
  refine lv_ishr hx hb dX7_isOpen_23 ?_
  refine lv_topi (fun x11 ex11 => ?_)
  have bx11 : 0 ≤ x11.toInt ∧ x11.toInt ≤ r2.toInt := by rw [ex11]; exact wk_shr (by omega)
  refine lv_iconst (v := 1) hx hb dX7_isOpen_24 (by decide) ?_
  refine lv_iand hx hb dX7_isOpen_25 ?_
  refine lv_topi (fun x12 ex12 => ?_)
  have bx12 : 0 ≤ x12.toInt ∧ x12.toInt ≤ (1 : Int) := by rw [ex12]; exact wk_and (by decide)
  refine lv_if_eq (tgt := 33) hx hb dX7_isOpen_26 (by decide) (fun c13 => ?_) (fun c13 => ?_)
  · have c13 : x12.toInt = (0 : Int) := wk_eq.mp c13
    refine lv_iconst (v := 0) hx hb dX7_isOpen_33 (by decide) ?_
    exact tk_zret hC hr rfl hlocks hK ⟨hT, hF, (Or.inl rfl)⟩ hw dX7_isOpen_34
  · have c13 : ¬ x12.toInt = (0 : Int) := wk_eqF c13
    refine lv_iconst (v := 1) hx hb dX7_isOpen_29 (by decide) ?_
    refine lv_goto (tgt := 34) hx hb dX7_isOpen_30 (by decide) ?_
    exact tk_zret hC hr rfl hlocks hK ⟨hT, hF, (Or.inr rfl)⟩ hw dX7_isOpen_34
abbrev P_X7_openHours_2 (ad : Nat → Nat) (cy : Nat → ClassId) (B : Int) (qr : Nat) (s1 : Int) (a1 : Int32) (a3 : Int64) (w0 : va_W) : Int32 → va_W → Prop := fun r u => TW ksC ad cy B qr s1 u ∧ FE ksC ([] : List (Nat × Nat × Nat)) w0 u ∧ ((0 ≤ r.toInt ∧ r.toInt ≤ 16777215))
set_option maxHeartbeats 4000000 in
set_option maxRecDepth 100000 in
theorem k_X7_openHours_2 (l : Launch) (adK adV : Nat → Nat) (dC : Nat → ClassId) (dI : Nat → Nat → Nat) (cy : Nat → ClassId) (ad : Nat → Nat) (B : Int) (hB0 : 2147483648 ≤ B) (hB1 : B ≤ 1152921504606846976) (qr : Nat) (s1 : Int)  (a1 : Int32) (ra1 : 0 ≤ a1.toInt) (ta1 : a1.toInt ≤ 11) (a3 : Int64) (ra3 : 0 ≤ a3.toInt) (ta3 : a3.toInt ≤ 89478485) (w0 : va_W) (sz : Nat) (hT : TW ksC ad cy B qr s1 w0)  : Met l yX7_openHours (wu yX7_openHours cX7_openHours 8 (some .int)) ({ frames := 1, cells := 0, slots := 0, locals := 12 }) (va_Pc [.ref (ad 39), .int a1, .int 1, .long a3, .int 1] (wpreS adK adV dC dI cy sz w0)) (va_Qi (P_X7_openHours_2 ad cy B qr s1 a1 a3 w0) (fun u : va_W => wpost dC dI cy (va_A w0 sz) u) (va_A w0 sz)) 0 0 (va_A w0 sz) := by
  refine Met.ofW (cc := cX7_openHours) (maxL := 8) (ret := (some .int)) (by decide) rfl ?_
  intro p e s m args below meth c s₁ Bk hml hv
  obtain ⟨rfl, ⟨hsz, hP, hK, hD0⟩, hE, hSR⟩ := hv
  have hx := Bk.exec
  have hb := Bk.bytes
  have hr := Bk.returns
  have hlocks := Bk.notSynchronized
  have hC : CallFix p m c cX7_openHours 8 s _ (wu yX7_openHours cX7_openHours 8 (some .int)) RX7 := ⟨hx, hb, hml, findClass_of_methodNamed Bk.named, atoms_spec (ws := (wu yX7_openHours cX7_openHours 8 (some .int))) Bk.pre⟩
  subst hsz
  have hD := hD0.self (sz := s.heap.size)
  generalize hAe : va_A w0 s.heap.size = A at hD hE ⊢
  have hA : ∀ q : Nat, s.heap.size ≤ q → A q := fun q h => by rw [← hAe]; exact Or.inr h
  have hw : Wd dC dI A s.heap s.heap [] w0 := ⟨hP, hD, va_S.rf⟩
  have hF : FE ksC ([] : List (Nat × Nat × Nat)) w0 w0 := FE.rf
  have hl := lv_entry ([.ref (ad 39), .int a1, .int 1, .long a3, .int 1]) (n := 8) (Nat.le_of_ble_eq_true rfl)
  rw [lg_entry_eq]
  generalize (lg_sl ([.ref (ad 39), .int a1, .int 1, .long a3, .int 1]) ++ List.replicate (8 - (lg_sl ([.ref (ad 39), .int a1, .int 1, .long a3, .int 1])).length) Slot.unset).toArray = ls at hl ⊢
  have hl : lv_has ls 8 [(0, .ref (ad 39)), (1, .int a1), (2, .int 1), (3, .long a3), (5, .int 1)] := hl
  generalize hloc : ([] : List Loc) = locs at hw ⊢
  have hinX7 : ∀ w ∈ u_ws RX7 TX7 12, w ∈ (wu yX7_openHours cX7_openHours 8 (some .int)) := fun _ h => List.mem_cons_of_mem _ (up_73 h)
  have J93 : ∀ (v93_6 : Int32) (v93_7 : Int32) (H : Heap) (locs : List Loc) (ls : Array Slot) (w1 : va_W), 0 ≤ a1.toInt → a1.toInt ≤ 11 → 0 ≤ a3.toInt → a3.toInt ≤ 89478485 → 0 ≤ v93_7.toInt → v93_7.toInt ≤ 8 → Wd dC dI A s.heap H locs w1 → TW ksC ad cy B qr s1 w1 → FE ksC ([] : List (Nat × Nat × Nat)) w0 w1 → lv_has ls 8 [(0, .ref (ad 39)), (1, .int a1), (2, .int 1), (3, .long a3), (5, .int 1), (6, .int v93_6), (7, .int v93_7)] → W p l e ({ frames := 1, cells := 0, slots := 0, locals := 12 }) s m (List.toArray [.ref (ad 39), .int a1, .int 1, .long a3, .int 1]) below meth c H locs 0 0 (MQ below (va_Qi (P_X7_openHours_2 ad cy B qr s1 a1 a3 w0) (fun u : va_W => wpost dC dI cy A u) A) (List.toArray [.ref (ad 39), .int a1, .int 1, .long a3, .int 1]) s 0 0 A) (F0 m 93 ls []) := by
    intro v93_6 v93_7 H locs ls w1 r2 t3 r4 t5 r6 t7 hw hT hF hl
    refine lv_ldc (v := 16777215) hx hb hC.2.2.2.1 (hC.2.2.2.2 _ (List.mem_cons_of_mem _ uw_31_17)) dX7_openHours_93 ?_
    refine lv_aload_n hx hb dX7_openHours_95 rfl (lv_at hl 0 rfl) ?_
    refine tk_getO hC hK hw hT hinX7 kC_at39 (by decide) rfl 3 (by decide) (List.mem_cons_of_mem _ uw_2_20) rfl rfl dX7_openHours_96 ?_
    refine lv_iload_n hx hb dX7_openHours_99 rfl (lv_at hl 1 rfl) ?_
    refine tk_iald hC hK hw hT kC_at43 rfl rfl (show 0 ≤ a1.toInt from r2) (show a1.toInt < 13 from Int.lt_of_le_of_lt t3 (by decide)) dX7_openHours_100 (fun x8 c9 rx8 tx8 => ?_)
    refine lv_iconst (v := (-1)) hx hb dX7_openHours_101 (by decide) ?_
    refine lv_ixor hx hb dX7_openHours_102 ?_
    refine lv_topi (fun x10 ex10 => ?_)
    refine lv_iand hx hb dX7_openHours_103 ?_
    refine lv_topi (fun x11 ex11 => ?_)
    have bx11 : 0 ≤ x11.toInt ∧ x11.toInt ≤ (16777215 : Int) := by rw [ex11]; exact wk_andC (by decide)
    exact tk_iret hC hr hlocks hK ⟨hT, hF, ⟨(show 0 ≤ x11.toInt by first | with_reducible assumption | omega), (show x11.toInt ≤ 16777215 by first | with_reducible assumption | omega)⟩⟩ hw dX7_openHours_104
  have L44 : ∀ (n44 : Nat) (v44_6 : Int32) (v44_7 : Int32) (H : Heap) (locs : List Loc) (ls : Array Slot) (w12 : va_W), 0 ≤ a1.toInt → a1.toInt ≤ 11 → 0 ≤ a3.toInt → a3.toInt ≤ 89478485 → 0 ≤ v44_7.toInt → v44_7.toInt ≤ 8 → (8 - v44_7.toInt).toNat < n44 → Wd dC dI A s.heap H locs w12 → TW ksC ad cy B qr s1 w12 → FE ksC ([] : List (Nat × Nat × Nat)) w0 w12 → lv_has ls 8 [(0, .ref (ad 39)), (1, .int a1), (2, .int 1), (3, .long a3), (5, .int 1), (6, .int v44_6), (7, .int v44_7)] → W p l e ({ frames := 1, cells := 0, slots := 0, locals := 12 }) s m (List.toArray [.ref (ad 39), .int a1, .int 1, .long a3, .int 1]) below meth c H locs 0 0 (MQ below (va_Qi (P_X7_openHours_2 ad cy B qr s1 a1 a3 w0) (fun u : va_W => wpost dC dI cy A u) A) (List.toArray [.ref (ad 39), .int a1, .int 1, .long a3, .int 1]) s 0 0 A) (F0 m 44 ls []) := by
    intro n44
    induction n44 with
    | zero => intro v44_6 v44_7 H locs ls w12 r13 t14 r15 t16 r17 t18 hm44 hw hT hF hl; omega
    | succ n44 ih44 =>
      intro v44_6 v44_7 H locs ls w12 r13 t14 r15 t16 r17 t18 hm44 hw hT hF hl
      have J81 : ∀ (H : Heap) (locs : List Loc) (ls : Array Slot) (w19 : va_W), 0 ≤ a1.toInt → a1.toInt ≤ 11 → 0 ≤ a3.toInt → a3.toInt ≤ 89478485 → 0 ≤ v44_7.toInt → v44_7.toInt ≤ 7 → Wd dC dI A s.heap H locs w19 → TW ksC ad cy B qr s1 w19 → FE ksC ([] : List (Nat × Nat × Nat)) w0 w19 → lv_has ls 8 [(0, .ref (ad 39)), (1, .int a1), (2, .int 1), (3, .long a3), (5, .int 1), (6, .int v44_6), (7, .int v44_7)] → W p l e ({ frames := 1, cells := 0, slots := 0, locals := 12 }) s m (List.toArray [.ref (ad 39), .int a1, .int 1, .long a3, .int 1]) below meth c H locs 0 0 (MQ below (va_Qi (P_X7_openHours_2 ad cy B qr s1 a1 a3 w0) (fun u : va_W => wpost dC dI cy A u) A) (List.toArray [.ref (ad 39), .int a1, .int 1, .long a3, .int 1]) s 0 0 A) (F0 m 81 ls []) := by
        intro H locs ls w19 r20 t21 r22 t23 r24 t25 hw hT hF hl
        refine lv_iload hx hb dX7_openHours_81 (lv_at hl 5 rfl) ?_
        refine lv_iconst (v := 1) hx hb dX7_openHours_83 (by decide) ?_
        refine lv_ishr hx hb dX7_openHours_84 ?_
        refine lv_topi (fun x26 ex26 => ?_)
        refine lv_istore (lv' := [(6, .int x26), (0, .ref (ad 39)), (1, .int a1), (2, .int 1), (3, .long a3), (5, .int 1), (7, .int v44_7)]) hx hb dX7_openHours_85 hl (by decide) rfl (fun ls hl => ?_)
        obtain ⟨x27, ex27⟩ : ∃ y : Int32, y = v44_7 + Int32.ofInt 1 := ⟨_, rfl⟩
        refine lv_iinc (v := x27) (lv' := [(7, .int x27), (6, .int x26), (0, .ref (ad 39)), (1, .int a1), (2, .int 1), (3, .long a3), (5, .int 1)]) hx hb dX7_openHours_87 hl (k := 6) rfl ex27.symm (by decide) rfl (fun ls hl => ?_)
        have ex27 : x27.toInt = v44_7.toInt + 1 := by rw [ex27]; exact wk_add (y := 1) (show -2147483648 ≤ v44_7.toInt + 1 by omega) (show v44_7.toInt + 1 ≤ 2147483647 by omega)
        refine lv_goto (tgt := 44) hx hb dX7_openHours_90 (by decide) ?_
        exact ih44 x26 x27 H locs ls w19 (show 0 ≤ a1.toInt from r20) (show a1.toInt ≤ 11 from t21) (show 0 ≤ a3.toInt from r22) (show a3.toInt ≤ 89478485 from t23) (show 0 ≤ x27.toInt by first | with_reducible assumption | omega) (show x27.toInt ≤ 8 by first | with_reducible assumption | omega) (show (8 - x27.toInt).toNat < n44 by first | exact tn_lt hm44 (by omega) (by omega) | omega) hw hT hF  (lv_sub hl [2, 3, 4, 5, 6, 1, 0] rfl)
      refine lv_iload hx hb dX7_openHours_44 (lv_at hl 5 rfl) ?_
      refine lv_if_eq (tgt := 93) hx hb dX7_openHours_46 (by decide) (fun c28 => ?_) (fun c28 => ?_)
      · have c28 : v44_6.toInt = (0 : Int) := wk_eq.mp c28
        exact J93 v44_6 v44_7 H locs ls w12 (show 0 ≤ a1.toInt from r13) (show a1.toInt ≤ 11 from t14) (show 0 ≤ a3.toInt from r15) (show a3.toInt ≤ 89478485 from t16) (show 0 ≤ v44_7.toInt from r17) (show v44_7.toInt ≤ 8 from t18)  hw hT hF  (lv_sub hl [0, 1, 2, 3, 4, 5, 6] rfl)
      · have c28 : ¬ v44_6.toInt = (0 : Int) := wk_eqF c28
        refine lv_iload hx hb dX7_openHours_49 (lv_at hl 6 rfl) ?_
        refine lv_bipush (v := 8) hx hb dX7_openHours_51 (by decide) ?_
        refine lv_icmp_ge (tgt := 93) hx hb dX7_openHours_53 (by decide) (fun c29 => ?_) (fun c29 => ?_)
        · have c29 : (8 : Int) ≤ v44_7.toInt := wk_le.mp c29
          exact J93 v44_6 v44_7 H locs ls w12 (show 0 ≤ a1.toInt from r13) (show a1.toInt ≤ 11 from t14) (show 0 ≤ a3.toInt from r15) (show a3.toInt ≤ 89478485 from t16) (show 0 ≤ v44_7.toInt from r17) (show v44_7.toInt ≤ 8 from t18)  hw hT hF  (lv_sub hl [0, 1, 2, 3, 4, 5, 6] rfl)
        · have c29 : v44_7.toInt < (8 : Int) := wk_leF c29
          refine lv_iload hx hb dX7_openHours_56 (lv_at hl 5 rfl) ?_
          refine lv_iconst (v := 1) hx hb dX7_openHours_58 (by decide) ?_
          refine lv_iand hx hb dX7_openHours_59 ?_
          refine lv_topi (fun x30 ex30 => ?_)
          have bx30 : 0 ≤ x30.toInt ∧ x30.toInt ≤ (1 : Int) := by rw [ex30]; exact wk_and (by decide)
          refine lv_if_eq (tgt := 81) hx hb dX7_openHours_60 (by decide) (fun c31 => ?_) (fun c31 => ?_)
          · have c31 : x30.toInt = (0 : Int) := wk_eq.mp c31
            exact J81  H locs ls w12 (show 0 ≤ a1.toInt from r13) (show a1.toInt ≤ 11 from t14) (show 0 ≤ a3.toInt from r15) (show a3.toInt ≤ 89478485 from t16) (show 0 ≤ v44_7.toInt from r17) (show v44_7.toInt ≤ 7 by first | with_reducible assumption | omega)  hw hT hF  (lv_sub hl [0, 1, 2, 3, 4, 5, 6] rfl)
          · have c31 : ¬ x30.toInt = (0 : Int) := wk_eqF c31
            refine lv_aload_n hx hb dX7_openHours_63 rfl (lv_at hl 0 rfl) ?_
            refine tk_getO hC hK hw hT hinX7 kC_at39 (by decide) rfl 6 (by decide) (List.mem_cons_of_mem _ uw_2_23) rfl rfl dX7_openHours_64 ?_
            refine lv_iload hx hb dX7_openHours_67 (lv_at hl 6 rfl) ?_
            refine tk_iald hC hK hw hT kC_at46 rfl rfl (show 0 ≤ v44_7.toInt from r17) (show v44_7.toInt < 8 from c29) dX7_openHours_69 (fun x32 c33 rx32 tx32 => ?_)
            refine lv_lload_n hx hb dX7_openHours_70 rfl (lv_at hl 3 rfl) ?_
            refine lv_ldc2 (v := 360) hx hb hC.2.2.2.1 (hC.2.2.2.2 _ (List.mem_cons_of_mem _ uw_31_16)) dX7_openHours_71 ?_
            refine lv_lrem hx hb dX7_openHours_74 (by decide) ?_
            refine lv_topl (fun x34 ex34 => ?_)
            have ex34 : x34.toInt = a3.toInt % (360 : Int) := by rw [ex34]; exact wk_reml (show 0 ≤ a3.toInt from r15) (show 0 < (360 : Int) by decide)
            refine lv_l2i hx hb dX7_openHours_75 rfl ?_
            refine lv_topi (fun x35 ex35 => ?_)
            have ex35 : x35.toInt = x34.toInt := by rw [ex35]; exact wk_l2i (by omega) (by omega)
            refine lv_icmp_ne (tgt := 81) hx hb dX7_openHours_76 (by decide) (fun c36 => ?_) (fun c36 => ?_)
            · have c36 : ¬ x32.toInt = x35.toInt := wk_eqF c36
              exact J81  H locs ls w12 (show 0 ≤ a1.toInt from r13) (show a1.toInt ≤ 11 from t14) (show 0 ≤ a3.toInt from r15) (show a3.toInt ≤ 89478485 from t16) (show 0 ≤ v44_7.toInt from r17) (show v44_7.toInt ≤ 7 by first | with_reducible assumption | omega)  hw hT hF  (lv_sub hl [0, 1, 2, 3, 4, 5, 6] rfl)
            · have c36 : x32.toInt = x35.toInt := wk_eq.mp c36
              refine lv_iconst (v := 0) hx hb dX7_openHours_79 (by decide) ?_
              exact tk_iret hC hr hlocks hK ⟨hT, hF, ⟨(by decide), (by decide)⟩⟩ hw dX7_openHours_80
  refine lv_aload_n hx hb dX7_openHours_0 rfl (lv_at hl 0 rfl) ?_
  refine tk_getO hC hK hw hT hinX7 kC_at39 (by decide) rfl 4 (by decide) (List.mem_cons_of_mem _ uw_2_21) rfl rfl dX7_openHours_1 ?_
  refine lv_iconst (v := 2) hx hb dX7_openHours_4 (by decide) ?_
  refine lv_iload_n hx hb dX7_openHours_5 rfl (lv_at hl 1 rfl) ?_
  refine lv_imul hx hb dX7_openHours_6 ?_
  refine lv_topi (fun x37 ex37 => ?_)
  have ex37 : x37.toInt = (2 : Int) * a1.toInt := by rw [ex37]; exact wk_mul (show (-2147483648) ≤ (2 : Int) * a1.toInt by omega) (show (2 : Int) * a1.toInt ≤ 2147483647 by omega)
  refine lv_iload_n hx hb dX7_openHours_7 rfl (lv_at hl 2 rfl) ?_
  refine lv_iadd hx hb dX7_openHours_8 ?_
  refine lv_topi (fun x38 ex38 => ?_)
  have ex38 : x38.toInt = x37.toInt + (1 : Int) := by rw [ex38]; exact wk_add (show (-2147483648) ≤ x37.toInt + (1 : Int) by omega) (show x37.toInt + (1 : Int) ≤ 2147483647 by omega)
  refine tk_iald hC hK hw hT kC_at44 rfl rfl (show 0 ≤ x38.toInt by first | with_reducible assumption | omega) (show x38.toInt < 26 by first | with_reducible assumption | omega) dX7_openHours_9 (fun x39 c40 rx39 tx39 => ?_)
  refine lv_lload_n hx hb dX7_openHours_10 rfl (lv_at hl 3 rfl) ?_
  refine lv_ldc2 (v := 7) hx hb hC.2.2.2.1 (hC.2.2.2.2 _ (List.mem_cons_of_mem _ uw_31_15)) dX7_openHours_11 ?_
  refine lv_lrem hx hb dX7_openHours_14 (by decide) ?_
  refine lv_topl (fun x41 ex41 => ?_)
  have ex41 : x41.toInt = a3.toInt % (7 : Int) := by rw [ex41]; exact wk_reml (show 0 ≤ a3.toInt from ra3) (show 0 < (7 : Int) by decide)
  refine lv_l2i hx hb dX7_openHours_15 rfl ?_
  refine lv_topi (fun x42 ex42 => ?_)
  have ex42 : x42.toInt = x41.toInt := by rw [ex42]; exact wk_l2i (by omega) (by omega)
  refine lv_ishr hx hb dX7_openHours_16 ?_
  refine lv_topi (fun x43 ex43 => ?_)
  refine lv_iconst (v := 1) hx hb dX7_openHours_17 (by decide) ?_
  refine lv_iand hx hb dX7_openHours_18 ?_
  refine lv_topi (fun x44 ex44 => ?_)
  have bx44 : 0 ≤ x44.toInt ∧ x44.toInt ≤ (1 : Int) := by rw [ex44]; exact wk_and (by decide)
  refine lv_if_ne (tgt := 24) hx hb dX7_openHours_19 (by decide) (fun c45 => ?_) (fun c45 => ?_)
  · have c45 : ¬ x44.toInt = (0 : Int) := wk_eqF c45
    refine lv_iload hx hb dX7_openHours_24 (lv_at hl 4 rfl) ?_
    refine lv_if_eq (tgt := 38) hx hb dX7_openHours_26 (by decide) (fun c => absurd c (by decide)) (fun _ => ?_)
    refine lv_aload_n hx hb dX7_openHours_29 rfl (lv_at hl 0 rfl) ?_
    refine tk_getO hC hK hw hT hinX7 kC_at39 (by decide) rfl 7 (by decide) (List.mem_cons_of_mem _ uw_3_0) rfl rfl dX7_openHours_30 ?_
    refine lv_iload_n hx hb dX7_openHours_33 rfl (lv_at hl 1 rfl) ?_
    refine tk_iald hC hK hw hT kC_at47 rfl rfl (show 0 ≤ a1.toInt from ra1) (show a1.toInt < 13 from Int.lt_of_le_of_lt ta1 (by decide)) dX7_openHours_34 (fun x46 c47 rx46 tx46 => ?_)
    refine lv_goto (tgt := 39) hx hb dX7_openHours_35 (by decide) ?_
    refine lv_istore (lv' := [(6, .int x46), (0, .ref (ad 39)), (1, .int a1), (2, .int 1), (3, .long a3), (5, .int 1)]) hx hb dX7_openHours_39 hl (by decide) rfl (fun ls hl => ?_)
    refine lv_iconst (v := 0) hx hb dX7_openHours_41 (by decide) ?_
    refine lv_istore (lv' := [(7, .int 0), (6, .int x46), (0, .ref (ad 39)), (1, .int a1), (2, .int 1), (3, .long a3), (5, .int 1)]) hx hb dX7_openHours_42 hl (by decide) rfl (fun ls hl => ?_)
    exact L44 ((8 - (0 : Int)).toNat + 1) x46 0 s.heap locs ls w0 (show 0 ≤ a1.toInt from ra1) (show a1.toInt ≤ 11 from ta1) (show 0 ≤ a3.toInt from ra3) (show a3.toInt ≤ 89478485 from ta3) (by decide) (by decide) (Nat.lt_succ_self _) hw hT hF  (lv_sub hl [2, 3, 4, 5, 6, 1, 0] rfl)
  · have c45 : x44.toInt = (0 : Int) := wk_eq.mp c45
    refine lv_iconst (v := 0) hx hb dX7_openHours_22 (by decide) ?_
    exact tk_iret hC hr hlocks hK ⟨hT, hF, ⟨(by decide), (by decide)⟩⟩ hw dX7_openHours_23
abbrev P_X7_isOpen_2 (ad : Nat → Nat) (cy : Nat → ClassId) (B : Int) (qr : Nat) (s1 : Int) (a1 : Int32) (a3 : Int64) (w0 : va_W) : Int32 → va_W → Prop := fun r u => TW ksC ad cy B qr s1 u ∧ FE ksC ([] : List (Nat × Nat × Nat)) w0 u ∧ ((r = 0) ∨ (r = 1))
set_option maxHeartbeats 4000000 in
set_option maxRecDepth 100000 in
theorem k_X7_isOpen_2 (l : Launch) (adK adV : Nat → Nat) (dC : Nat → ClassId) (dI : Nat → Nat → Nat) (cy : Nat → ClassId) (ad : Nat → Nat) (B : Int) (hB0 : 2147483648 ≤ B) (hB1 : B ≤ 1152921504606846976) (qr : Nat) (s1 : Int)  (a1 : Int32) (ra1 : 0 ≤ a1.toInt) (ta1 : a1.toInt ≤ 11) (a3 : Int64) (ra3 : 0 ≤ a3.toInt) (ta3 : a3.toInt ≤ 2147483647) (w0 : va_W) (sz : Nat) (hT : TW ksC ad cy B qr s1 w0)  : Met l yX7_isOpen (wu yX7_isOpen cX7_isOpen 7 (some .boolean)) ({ frames := 2, cells := 0, slots := 0, locals := 39 }) (va_Pc [.ref (ad 39), .int a1, .int 1, .long a3, .int 1] (wpreS adK adV dC dI cy sz w0)) (va_Qi (P_X7_isOpen_2 ad cy B qr s1 a1 a3 w0) (fun u : va_W => wpost dC dI cy (va_A w0 sz) u) (va_A w0 sz)) 0 0 (va_A w0 sz) := by
  refine Met.ofW (cc := cX7_isOpen) (maxL := 7) (ret := (some .boolean)) (by decide) rfl ?_
  intro p e s m args below meth c s₁ Bk hml hv
  obtain ⟨rfl, ⟨hsz, hP, hK, hD0⟩, hE, hSR⟩ := hv
  have hx := Bk.exec
  have hb := Bk.bytes
  have hr := Bk.returns
  have hlocks := Bk.notSynchronized
  have hC : CallFix p m c cX7_isOpen 7 s _ (wu yX7_isOpen cX7_isOpen 7 (some .boolean)) RX7 := ⟨hx, hb, hml, findClass_of_methodNamed Bk.named, atoms_spec (ws := (wu yX7_isOpen cX7_isOpen 7 (some .boolean))) Bk.pre⟩
  subst hsz
  have hD := hD0.self (sz := s.heap.size)
  generalize hAe : va_A w0 s.heap.size = A at hD hE ⊢
  have hA : ∀ q : Nat, s.heap.size ≤ q → A q := fun q h => by rw [← hAe]; exact Or.inr h
  have hw : Wd dC dI A s.heap s.heap [] w0 := ⟨hP, hD, va_S.rf⟩
  have hF : FE ksC ([] : List (Nat × Nat × Nat)) w0 w0 := FE.rf
  have hl := lv_entry ([.ref (ad 39), .int a1, .int 1, .long a3, .int 1]) (n := 7) (Nat.le_of_ble_eq_true rfl)
  rw [lg_entry_eq]
  generalize (lg_sl ([.ref (ad 39), .int a1, .int 1, .long a3, .int 1]) ++ List.replicate (7 - (lg_sl ([.ref (ad 39), .int a1, .int 1, .long a3, .int 1])).length) Slot.unset).toArray = ls at hl ⊢
  have hl : lv_has ls 7 [(0, .ref (ad 39)), (1, .int a1), (2, .int 1), (3, .long a3), (5, .int 1)] := hl
  generalize hloc : ([] : List Loc) = locs at hw ⊢
  refine lv_aload_n hx hb dX7_isOpen_0 rfl (lv_at hl 0 rfl) ?_
  refine lv_iload_n hx hb dX7_isOpen_1 rfl (lv_at hl 1 rfl) ?_
  refine lv_iload_n hx hb dX7_isOpen_2 rfl (lv_at hl 2 rfl) ?_
  refine lv_lload_n hx hb dX7_isOpen_3 rfl (lv_at hl 3 rfl) ?_
  refine lv_ldc2 (v := 24) hx hb hC.2.2.2.1 (hC.2.2.2.2 _ (List.mem_cons_of_mem _ uw_31_10)) dX7_isOpen_4 ?_
  refine lv_ldiv hx hb dX7_isOpen_7 (by decide) ?_
  refine lv_topl (fun x1 ex1 => ?_)
  have ex1 : x1.toInt = a3.toInt / (24 : Int) := by rw [ex1]; exact wk_divl (show 0 ≤ a3.toInt from ra3) (show 0 < (24 : Int) by decide)
  refine lv_iload hx hb dX7_isOpen_8 (lv_at hl 4 rfl) ?_
  refine tk_Vi hC hK hw hT hA hE hSR kC_at39 (by decide) rfl (k_X7_openHours_2 l adK adV dC dI cy ad B hB0 (Int.le_trans hB1 (by decide)) qr s1   a1 (show 0 ≤ a1.toInt from ra1) (show a1.toInt ≤ 11 from ta1) x1 (show 0 ≤ x1.toInt by first | with_reducible assumption | omega) (show x1.toInt ≤ 89478485 by first | with_reducible assumption | omega) w0 s.heap.size hT ) (cwV 4 hC.2.2.2.2 uV_RX7_148 rfl rfl rfl (by decide +kernel) ⟨Nat.le_of_ble_eq_true rfl, Nat.le_of_ble_eq_true rfl⟩) rfl hl.1 rfl (Nat.le_of_ble_eq_true rfl) dX7_isOpen_10 (fun r2 w4 H locs hp3 hw => ?_)
  obtain ⟨hT, k5, hg8⟩ := hp3
  have hF := hF.tr k5 (by decide)
  obtain ⟨g6, g7⟩ := hg8
  refine lv_istore (lv' := [(6, .int r2), (0, .ref (ad 39)), (1, .int a1), (2, .int 1), (3, .long a3), (5, .int 1)]) hx hb dX7_isOpen_13 hl (by decide) rfl (fun ls hl => ?_)
  refine lv_iload hx hb dX7_isOpen_15 (lv_at hl 0 rfl) ?_
  refine lv_lload_n hx hb dX7_isOpen_17 rfl (lv_at hl 4 rfl) ?_
  refine lv_ldc2 (v := 24) hx hb hC.2.2.2.1 (hC.2.2.2.2 _ (List.mem_cons_of_mem _ uw_31_10)) dX7_isOpen_18 ?_
  refine lv_lrem hx hb dX7_isOpen_21 (by decide) ?_
  refine lv_topl (fun x9 ex9 => ?_)
  have ex9 : x9.toInt = a3.toInt % (24 : Int) := by rw [ex9]; exact wk_reml (show 0 ≤ a3.toInt from ra3) (show 0 < (24 : Int) by decide)
  refine lv_l2i hx hb dX7_isOpen_22 rfl ?_
  refine lv_topi (fun x10 ex10 => ?_)
  have ex10 : x10.toInt = x9.toInt := by rw [ex10]; exact wk_l2i (by omega) (by omega)
  refine lv_ishr hx hb dX7_isOpen_23 ?_
  refine lv_topi (fun x11 ex11 => ?_)
  have bx11 : 0 ≤ x11.toInt ∧ x11.toInt ≤ r2.toInt := by rw [ex11]; exact wk_shr (by omega)
  refine lv_iconst (v := 1) hx hb dX7_isOpen_24 (by decide) ?_
  refine lv_iand hx hb dX7_isOpen_25 ?_
  refine lv_topi (fun x12 ex12 => ?_)
  have bx12 : 0 ≤ x12.toInt ∧ x12.toInt ≤ (1 : Int) := by rw [ex12]; exact wk_and (by decide)
  refine lv_if_eq (tgt := 33) hx hb dX7_isOpen_26 (by decide) (fun c13 => ?_) (fun c13 => ?_)
  · have c13 : x12.toInt = (0 : Int) := wk_eq.mp c13
    refine lv_iconst (v := 0) hx hb dX7_isOpen_33 (by decide) ?_
    exact tk_zret hC hr rfl hlocks hK ⟨hT, hF, (Or.inl rfl)⟩ hw dX7_isOpen_34
  · have c13 : ¬ x12.toInt = (0 : Int) := wk_eqF c13
    refine lv_iconst (v := 1) hx hb dX7_isOpen_29 (by decide) ?_
    refine lv_goto (tgt := 34) hx hb dX7_isOpen_30 (by decide) ?_
    exact tk_zret hC hr rfl hlocks hK ⟨hT, hF, (Or.inr rfl)⟩ hw dX7_isOpen_34
abbrev P_X11_open_1 (ad : Nat → Nat) (cy : Nat → ClassId) (B : Int) (qr : Nat) (s1 : Int) (a1 : Int32) (a2 : Int32) (a3 : Int32) (w0 : va_W) : Int32 → va_W → Prop := fun r u => TW ksC ad cy B qr s1 u ∧ FE ksC ([] : List (Nat × Nat × Nat)) w0 u ∧ ((0 ≤ r.toInt ∧ r.toInt ≤ 1 ∧ 0 ≤ a1.toInt ∧ a1.toInt ≤ 11 ∧ 0 ≤ a2.toInt ∧ a2.toInt ≤ 9 ∧ 0 ≤ a3.toInt ∧ (∃ y : Int32, gi u 39 9 = y ∧ 1 ≤ y.toInt ∧ y.toInt ≤ 12) ∧ gi u 40 (2 * a1.toInt + 0).toNat = a2) ∨ (0 ≤ r.toInt ∧ r.toInt ≤ 1 ∧ 0 ≤ a1.toInt ∧ a1.toInt ≤ 11 ∧ 0 ≤ a2.toInt ∧ a2.toInt ≤ 9 ∧ 0 ≤ a3.toInt ∧ (∃ y : Int32, gi u 39 9 = y ∧ 1 ≤ y.toInt ∧ y.toInt ≤ 12) ∧ gi u 40 (2 * a1.toInt + 1).toNat = a2) ∨ (r = (-1)))
set_option maxHeartbeats 4000000 in
set_option maxRecDepth 100000 in
theorem k_X11_open_1 (l : Launch) (adK adV : Nat → Nat) (dC : Nat → ClassId) (dI : Nat → Nat → Nat) (cy : Nat → ClassId) (ad : Nat → Nat) (B : Int) (hB0 : 2147483648 ≤ B) (hB1 : B ≤ 1152921504606846976) (qr : Nat) (s1 : Int)  (a1 : Int32) (a2 : Int32) (a3 : Int32) (w0 : va_W) (sz : Nat) (hT : TW ksC ad cy B qr s1 w0)  : Met l yX11_open (wu yX11_open cX11_open 6 (some .int)) ({ frames := 3, cells := 0, slots := 0, locals := 65 }) (va_Pc [.ref (ad 0), .int a1, .int a2, .int a3] (wpreS adK adV dC dI cy sz w0)) (va_Qi (P_X11_open_1 ad cy B qr s1 a1 a2 a3 w0) (fun u : va_W => wpost dC dI cy (va_A w0 sz) u) (va_A w0 sz)) 0 0 (va_A w0 sz) := by
  refine Met.ofW (cc := cX11_open) (maxL := 6) (ret := (some .int)) (by decide) rfl ?_
  intro p e s m args below meth c s₁ Bk hml hv
  obtain ⟨rfl, ⟨hsz, hP, hK, hD0⟩, hE, hSR⟩ := hv
  have hx := Bk.exec
  have hb := Bk.bytes
  have hr := Bk.returns
  have hlocks := Bk.notSynchronized
  have hC : CallFix p m c cX11_open 6 s _ (wu yX11_open cX11_open 6 (some .int)) RX11 := ⟨hx, hb, hml, findClass_of_methodNamed Bk.named, atoms_spec (ws := (wu yX11_open cX11_open 6 (some .int))) Bk.pre⟩
  subst hsz
  have hD := hD0.self (sz := s.heap.size)
  generalize hAe : va_A w0 s.heap.size = A at hD hE ⊢
  have hA : ∀ q : Nat, s.heap.size ≤ q → A q := fun q h => by rw [← hAe]; exact Or.inr h
  have hw : Wd dC dI A s.heap s.heap [] w0 := ⟨hP, hD, va_S.rf⟩
  have hF : FE ksC ([] : List (Nat × Nat × Nat)) w0 w0 := FE.rf
  have hl := lv_entry ([.ref (ad 0), .int a1, .int a2, .int a3]) (n := 6) (Nat.le_of_ble_eq_true rfl)
  rw [lg_entry_eq]
  generalize (lg_sl ([.ref (ad 0), .int a1, .int a2, .int a3]) ++ List.replicate (6 - (lg_sl ([.ref (ad 0), .int a1, .int a2, .int a3])).length) Slot.unset).toArray = ls at hl ⊢
  have hl : lv_has ls 6 [(0, .ref (ad 0)), (1, .int a1), (2, .int a2), (3, .int a3)] := hl
  generalize hloc : ([] : List Loc) = locs at hw ⊢
  have hinX11 : ∀ w ∈ u_ws RX11 TX11 13, w ∈ (wu yX11_open cX11_open 6 (some .int)) := fun _ h => List.mem_cons_of_mem _ (up_70 h)
  have hinX5 : ∀ w ∈ u_ws RX5 TX5 14, w ∈ (wu yX11_open cX11_open 6 (some .int)) := fun _ h => List.mem_cons_of_mem _ (up_76 h)
  have J22 : ∀ (H : Heap) (locs : List Loc) (ls : Array Slot) (w1 : va_W), Wd dC dI A s.heap H locs w1 → TW ksC ad cy B qr s1 w1 → FE ksC ([] : List (Nat × Nat × Nat)) w0 w1 → lv_has ls 6 [(0, .ref (ad 0)), (1, .int a1), (2, .int a2), (3, .int a3), (4, .ref (ad 39))] → W p l e ({ frames := 3, cells := 0, slots := 0, locals := 65 }) s m (List.toArray [.ref (ad 0), .int a1, .int a2, .int a3]) below meth c H locs 0 0 (MQ below (va_Qi (P_X11_open_1 ad cy B qr s1 a1 a2 a3 w0) (fun u : va_W => wpost dC dI cy A u) A) (List.toArray [.ref (ad 0), .int a1, .int a2, .int a3]) s 0 0 A) (F0 m 22 ls []) := by
    intro H locs ls w1 hw hT hF hl
    refine lv_iconst (v := (-1)) hx hb dX11_open_22 (by decide) ?_
    exact tk_iret hC hr hlocks hK ⟨hT, hF, (Or.inr (Or.inr rfl))⟩ hw dX11_open_23
  refine lv_aload_n hx hb dX11_open_0 rfl (lv_at hl 0 rfl) ?_
  refine tk_getA hC hK hw hT hinX11 kC_at0 (by decide) rfl 4 (by decide) (List.mem_cons_of_mem _ uw_1_7) rfl rfl dX11_open_1 ?_
  refine tk_getO hC hK hw hT hinX5 kC_at38 (by decide) rfl 0 (by decide) (List.mem_cons_of_mem _ uw_9_1) rfl rfl dX11_open_4 ?_
  refine lv_astore (lv' := [(4, .ref (ad 39)), (0, .ref (ad 0)), (1, .int a1), (2, .int a2), (3, .int a3)]) hx hb dX11_open_7 hl (by decide) rfl (fun ls hl => ?_)
  refine lv_aload hx hb dX11_open_9 (lv_at hl 0 rfl) ?_
  refine lv_iload_n hx hb dX11_open_11 rfl (lv_at hl 2 rfl) ?_
  refine tk_Vi hC hK hw hT hA hE hSR kC_at39 (by decide) rfl (k_X7_hasStreet_1 l adK adV dC dI cy ad B hB0 (Int.le_trans hB1 (by decide)) qr s1   a1 w0 s.heap.size hT ) (cwV 1 hC.2.2.2.2 uV_RX11_133 rfl rfl rfl (by decide +kernel) ⟨Nat.le_of_ble_eq_true rfl, Nat.le_of_ble_eq_true rfl⟩) rfl hl.1 rfl (Nat.le_of_ble_eq_true rfl) dX11_open_12 (fun r2 w4 H locs hp3 hw => ?_)
  obtain ⟨hT, k5, hg10⟩ := hp3
  have hF := hF.tr k5 (by decide)
  rcases hg10 with rfl | ⟨rfl, g6, g7, ⟨x8, c9, rx8, tx8⟩⟩
  · refine lv_if_eq (tgt := 22) hx hb dX11_open_15 (by decide) (fun _ => ?_) (fun c => absurd (by decide) c)
    exact J22  H locs ls w4   hw hT hF  (lv_sub hl [1, 2, 3, 4, 0] rfl)
  · refine lv_if_eq (tgt := 22) hx hb dX11_open_15 (by decide) (fun c => absurd c (by decide)) (fun _ => ?_)
    refine lv_iload_n hx hb dX11_open_18 rfl (lv_at hl 4 rfl) ?_
    refine lv_if_ge (tgt := 24) hx hb dX11_open_19 (by decide) (fun c11 => ?_) (fun c11 => ?_)
    · have c11 : (0 : Int) ≤ a3.toInt := wk_le.mp c11
      refine lv_aload hx hb dX11_open_24 (lv_at hl 0 rfl) ?_
      refine lv_iload_n hx hb dX11_open_26 rfl (lv_at hl 2 rfl) ?_
      refine lv_iload_n hx hb dX11_open_27 rfl (lv_at hl 3 rfl) ?_
      refine tk_Vi hC hK hw hT hA hE hSR kC_at39 (by decide) rfl (k_X7_sideOf_1 l adK adV dC dI cy ad B hB0 (Int.le_trans hB1 (by decide)) qr s1   a1 (show 0 ≤ a1.toInt by first | with_reducible assumption | omega) (show a1.toInt ≤ 11 by first | with_reducible assumption | omega) a2 w4 H.size hT ) (cwV 2 hC.2.2.2.2 uV_RX11_148 rfl rfl rfl (by decide +kernel) ⟨Nat.le_of_ble_eq_true rfl, Nat.le_of_ble_eq_true rfl⟩) rfl hl.1 rfl (Nat.le_of_ble_eq_true rfl) dX11_open_28 (fun r12 w14 H locs hp13 hw => ?_)
      obtain ⟨hT, k15, hg22⟩ := hp13
      have hF := hF.tr k15 (by decide)
      have c23 := k15.gi kC_at39 (by decide) c9
      rcases hg22 with rfl | ⟨rfl, g16, g17, c18⟩ | ⟨rfl, g19, g20, c21⟩
      · refine lv_istore (lv' := [(5, .int (-1)), (4, .ref (ad 39)), (0, .ref (ad 0)), (1, .int a1), (2, .int a2), (3, .int a3)]) hx hb dX11_open_31 hl (by decide) rfl (fun ls hl => ?_)
        refine lv_iload hx hb dX11_open_33 (lv_at hl 0 rfl) ?_
        refine lv_iconst (v := (-1)) hx hb dX11_open_35 (by decide) ?_
        refine lv_icmp_ne (tgt := 41) hx hb dX11_open_36 (by decide) (fun c => absurd (by decide) c) (fun _ => ?_)
        refine lv_iconst (v := (-1)) hx hb dX11_open_39 (by decide) ?_
        exact tk_iret hC hr hlocks hK ⟨hT, hF, (Or.inr (Or.inr rfl))⟩ hw dX11_open_40
      · refine lv_istore (lv' := [(5, .int 0), (4, .ref (ad 39)), (0, .ref (ad 0)), (1, .int a1), (2, .int a2), (3, .int a3)]) hx hb dX11_open_31 hl (by decide) rfl (fun ls hl => ?_)
        refine lv_iload hx hb dX11_open_33 (lv_at hl 0 rfl) ?_
        refine lv_iconst (v := (-1)) hx hb dX11_open_35 (by decide) ?_
        refine lv_icmp_ne (tgt := 41) hx hb dX11_open_36 (by decide) (fun _ => ?_) (fun c => absurd c (by decide))
        refine lv_aload hx hb dX11_open_41 (lv_at hl 1 rfl) ?_
        refine lv_iload_n hx hb dX11_open_43 rfl (lv_at hl 3 rfl) ?_
        refine lv_iload hx hb dX11_open_44 (lv_at hl 0 rfl) ?_
        refine lv_iload_n hx hb dX11_open_46 rfl (lv_at hl 5 rfl) ?_
        refine lv_i2l hx hb dX11_open_47 rfl ?_
        refine lv_topl (fun x24 ex24 => ?_)
        have ex24 : x24.toInt = a3.toInt := by rw [ex24]; exact wk_i2l _
        have bx24 := wk_i32 a3
        refine lv_iconst (v := 1) hx hb dX11_open_48 (by decide) ?_
        refine tk_Vi hC hK hw hT hA hE hSR kC_at39 (by decide) rfl (k_X7_isOpen_1 l adK adV dC dI cy ad B hB0 (Int.le_trans hB1 (by decide)) qr s1   a1 (show 0 ≤ a1.toInt by first | with_reducible assumption | omega) (show a1.toInt ≤ 11 by first | with_reducible assumption | omega) x24 (show 0 ≤ x24.toInt by first | with_reducible assumption | omega) (show x24.toInt ≤ 2147483647 by first | with_reducible assumption | omega) w14 H.size hT ) (cwV 4 hC.2.2.2.2 uV_RX11_151 rfl rfl rfl (by decide +kernel) ⟨Nat.le_of_ble_eq_true rfl, Nat.le_of_ble_eq_true rfl⟩) rfl hl.1 rfl (Nat.le_of_ble_eq_true rfl) dX11_open_49 (fun r25 w27 H locs hp26 hw => ?_)
        obtain ⟨hT, k28, hg29⟩ := hp26
        have hF := hF.tr k28 (by decide)
        have c30 := k28.gi kC_at39 (by decide) c23
        have c31 := k28.gi kC_at40 rfl c18
        rcases hg29 with rfl | rfl
        · refine lv_if_eq (tgt := 59) hx hb dX11_open_52 (by decide) (fun _ => ?_) (fun c => absurd (by decide) c)
          refine lv_iconst (v := 0) hx hb dX11_open_59 (by decide) ?_
          exact tk_iret hC hr hlocks hK ⟨hT, hF, (Or.inl ⟨(by decide), (by decide), (show 0 ≤ a1.toInt by first | with_reducible assumption | omega), (show a1.toInt ≤ 11 by first | with_reducible assumption | omega), (show 0 ≤ a2.toInt by first | with_reducible assumption | omega), (show a2.toInt ≤ 9 by first | with_reducible assumption | omega), (show 0 ≤ a3.toInt from c11), ⟨x8, c30, (show 1 ≤ x8.toInt by first | with_reducible assumption | omega), (show x8.toInt ≤ 12 by first | with_reducible assumption | omega)⟩, c31⟩)⟩ hw dX11_open_60
        · refine lv_if_eq (tgt := 59) hx hb dX11_open_52 (by decide) (fun c => absurd c (by decide)) (fun _ => ?_)
          refine lv_iconst (v := 1) hx hb dX11_open_55 (by decide) ?_
          refine lv_goto (tgt := 60) hx hb dX11_open_56 (by decide) ?_
          exact tk_iret hC hr hlocks hK ⟨hT, hF, (Or.inl ⟨(by decide), (by decide), (show 0 ≤ a1.toInt by first | with_reducible assumption | omega), (show a1.toInt ≤ 11 by first | with_reducible assumption | omega), (show 0 ≤ a2.toInt by first | with_reducible assumption | omega), (show a2.toInt ≤ 9 by first | with_reducible assumption | omega), (show 0 ≤ a3.toInt from c11), ⟨x8, c30, (show 1 ≤ x8.toInt by first | with_reducible assumption | omega), (show x8.toInt ≤ 12 by first | with_reducible assumption | omega)⟩, c31⟩)⟩ hw dX11_open_60
      · refine lv_istore (lv' := [(5, .int 1), (4, .ref (ad 39)), (0, .ref (ad 0)), (1, .int a1), (2, .int a2), (3, .int a3)]) hx hb dX11_open_31 hl (by decide) rfl (fun ls hl => ?_)
        refine lv_iload hx hb dX11_open_33 (lv_at hl 0 rfl) ?_
        refine lv_iconst (v := (-1)) hx hb dX11_open_35 (by decide) ?_
        refine lv_icmp_ne (tgt := 41) hx hb dX11_open_36 (by decide) (fun _ => ?_) (fun c => absurd c (by decide))
        refine lv_aload hx hb dX11_open_41 (lv_at hl 1 rfl) ?_
        refine lv_iload_n hx hb dX11_open_43 rfl (lv_at hl 3 rfl) ?_
        refine lv_iload hx hb dX11_open_44 (lv_at hl 0 rfl) ?_
        refine lv_iload_n hx hb dX11_open_46 rfl (lv_at hl 5 rfl) ?_
        refine lv_i2l hx hb dX11_open_47 rfl ?_
        refine lv_topl (fun x32 ex32 => ?_)
        have ex32 : x32.toInt = a3.toInt := by rw [ex32]; exact wk_i2l _
        have bx32 := wk_i32 a3
        refine lv_iconst (v := 1) hx hb dX11_open_48 (by decide) ?_
        refine tk_Vi hC hK hw hT hA hE hSR kC_at39 (by decide) rfl (k_X7_isOpen_2 l adK adV dC dI cy ad B hB0 (Int.le_trans hB1 (by decide)) qr s1   a1 (show 0 ≤ a1.toInt by first | with_reducible assumption | omega) (show a1.toInt ≤ 11 by first | with_reducible assumption | omega) x32 (show 0 ≤ x32.toInt by first | with_reducible assumption | omega) (show x32.toInt ≤ 2147483647 by first | with_reducible assumption | omega) w14 H.size hT ) (cwV 4 hC.2.2.2.2 uV_RX11_151 rfl rfl rfl (by decide +kernel) ⟨Nat.le_of_ble_eq_true rfl, Nat.le_of_ble_eq_true rfl⟩) rfl hl.1 rfl (Nat.le_of_ble_eq_true rfl) dX11_open_49 (fun r33 w35 H locs hp34 hw => ?_)
        obtain ⟨hT, k36, hg37⟩ := hp34
        have hF := hF.tr k36 (by decide)
        have c38 := k36.gi kC_at39 (by decide) c23
        have c39 := k36.gi kC_at40 rfl c21
        rcases hg37 with rfl | rfl
        · refine lv_if_eq (tgt := 59) hx hb dX11_open_52 (by decide) (fun _ => ?_) (fun c => absurd (by decide) c)
          refine lv_iconst (v := 0) hx hb dX11_open_59 (by decide) ?_
          exact tk_iret hC hr hlocks hK ⟨hT, hF, (Or.inr (Or.inl ⟨(by decide), (by decide), (show 0 ≤ a1.toInt by first | with_reducible assumption | omega), (show a1.toInt ≤ 11 by first | with_reducible assumption | omega), (show 0 ≤ a2.toInt by first | with_reducible assumption | omega), (show a2.toInt ≤ 9 by first | with_reducible assumption | omega), (show 0 ≤ a3.toInt from c11), ⟨x8, c38, (show 1 ≤ x8.toInt by first | with_reducible assumption | omega), (show x8.toInt ≤ 12 by first | with_reducible assumption | omega)⟩, c39⟩))⟩ hw dX11_open_60
        · refine lv_if_eq (tgt := 59) hx hb dX11_open_52 (by decide) (fun c => absurd c (by decide)) (fun _ => ?_)
          refine lv_iconst (v := 1) hx hb dX11_open_55 (by decide) ?_
          refine lv_goto (tgt := 60) hx hb dX11_open_56 (by decide) ?_
          exact tk_iret hC hr hlocks hK ⟨hT, hF, (Or.inr (Or.inl ⟨(by decide), (by decide), (show 0 ≤ a1.toInt by first | with_reducible assumption | omega), (show a1.toInt ≤ 11 by first | with_reducible assumption | omega), (show 0 ≤ a2.toInt by first | with_reducible assumption | omega), (show a2.toInt ≤ 9 by first | with_reducible assumption | omega), (show 0 ≤ a3.toInt from c11), ⟨x8, c38, (show 1 ≤ x8.toInt by first | with_reducible assumption | omega), (show x8.toInt ≤ 12 by first | with_reducible assumption | omega)⟩, c39⟩))⟩ hw dX11_open_60
    · have c11 : a3.toInt < (0 : Int) := wk_leF c11
      exact J22  H locs ls w4   hw hT hF  (lv_sub hl [1, 2, 3, 4, 0] rfl)
abbrev P_X11_isWeekday_1 (ad : Nat → Nat) (cy : Nat → ClassId) (B : Int) (qr : Nat) (s1 : Int) (a0 : Int32) (w0 : va_W) : Int32 → va_W → Prop := fun r u => TW ksC ad cy B qr s1 u ∧ FE ksC ([] : List (Nat × Nat × Nat)) w0 u ∧ ((r = 0) ∨ (r = 1 ∧ 0 ≤ a0.toInt ∧ a0.toInt ≤ 6))
set_option maxHeartbeats 4000000 in
set_option maxRecDepth 100000 in
theorem k_X11_isWeekday_1 (l : Launch) (adK adV : Nat → Nat) (dC : Nat → ClassId) (dI : Nat → Nat → Nat) (cy : Nat → ClassId) (ad : Nat → Nat) (B : Int) (hB0 : 2147483648 ≤ B) (hB1 : B ≤ 1152921504606846976) (qr : Nat) (s1 : Int)  (a0 : Int32) (w0 : va_W) (sz : Nat) (hT : TW ksC ad cy B qr s1 w0)  : Met l yX11_isWeekday (wu yX11_isWeekday cX11_isWeekday 1 (some .boolean)) ({ frames := 1, cells := 0, slots := 0, locals := 12 }) (va_Pc [.int a0] (wpreS adK adV dC dI cy sz w0)) (va_Qi (P_X11_isWeekday_1 ad cy B qr s1 a0 w0) (fun u : va_W => wpost dC dI cy (va_A w0 sz) u) (va_A w0 sz)) 0 0 (va_A w0 sz) := by
  refine Met.ofW (cc := cX11_isWeekday) (maxL := 1) (ret := (some .boolean)) (by decide) rfl ?_
  intro p e s m args below meth c s₁ Bk hml hv
  obtain ⟨rfl, ⟨hsz, hP, hK, hD0⟩, hE, hSR⟩ := hv
  have hx := Bk.exec
  have hb := Bk.bytes
  have hr := Bk.returns
  have hlocks := Bk.notSynchronized
  have hC : CallFix p m c cX11_isWeekday 1 s _ (wu yX11_isWeekday cX11_isWeekday 1 (some .boolean)) RX11 := ⟨hx, hb, hml, findClass_of_methodNamed Bk.named, atoms_spec (ws := (wu yX11_isWeekday cX11_isWeekday 1 (some .boolean))) Bk.pre⟩
  subst hsz
  have hD := hD0.self (sz := s.heap.size)
  generalize hAe : va_A w0 s.heap.size = A at hD hE ⊢
  have hA : ∀ q : Nat, s.heap.size ≤ q → A q := fun q h => by rw [← hAe]; exact Or.inr h
  have hw : Wd dC dI A s.heap s.heap [] w0 := ⟨hP, hD, va_S.rf⟩
  have hF : FE ksC ([] : List (Nat × Nat × Nat)) w0 w0 := FE.rf
  have hl := lv_entry ([.int a0]) (n := 1) (Nat.le_of_ble_eq_true rfl)
  rw [lg_entry_eq]
  generalize (lg_sl ([.int a0]) ++ List.replicate (1 - (lg_sl ([.int a0])).length) Slot.unset).toArray = ls at hl ⊢
  have hl : lv_has ls 1 [(0, .int a0)] := hl
  generalize hloc : ([] : List Loc) = locs at hw ⊢
  have J14 : ∀ (H : Heap) (locs : List Loc) (ls : Array Slot) (w1 : va_W), Wd dC dI A s.heap H locs w1 → TW ksC ad cy B qr s1 w1 → FE ksC ([] : List (Nat × Nat × Nat)) w0 w1 → lv_has ls 1 [(0, .int a0)] → W p l e ({ frames := 1, cells := 0, slots := 0, locals := 12 }) s m (List.toArray [.int a0]) below meth c H locs 0 0 (MQ below (va_Qi (P_X11_isWeekday_1 ad cy B qr s1 a0 w0) (fun u : va_W => wpost dC dI cy A u) A) (List.toArray [.int a0]) s 0 0 A) (F0 m 14 ls []) := by
    intro H locs ls w1 hw hT hF hl
    refine lv_iconst (v := 0) hx hb dX11_isWeekday_14 (by decide) ?_
    exact tk_zret hC hr rfl hlocks hK ⟨hT, hF, (Or.inl rfl)⟩ hw dX11_isWeekday_15
  refine lv_iload_n hx hb dX11_isWeekday_0 rfl (lv_at hl 0 rfl) ?_
  refine lv_if_lt (tgt := 14) hx hb dX11_isWeekday_1 (by decide) (fun c2 => ?_) (fun c2 => ?_)
  · have c2 : a0.toInt < (0 : Int) := wk_lt.mp c2
    exact J14  s.heap locs ls w0   hw hT hF  (lv_sub hl [0] rfl)
  · have c2 : (0 : Int) ≤ a0.toInt := wk_ltF c2
    refine lv_iload_n hx hb dX11_isWeekday_4 rfl (lv_at hl 0 rfl) ?_
    refine lv_bipush (v := 7) hx hb dX11_isWeekday_5 (by decide) ?_
    refine lv_icmp_ge (tgt := 14) hx hb dX11_isWeekday_7 (by decide) (fun c3 => ?_) (fun c3 => ?_)
    · have c3 : (7 : Int) ≤ a0.toInt := wk_le.mp c3
      exact J14  s.heap locs ls w0   hw hT hF  (lv_sub hl [0] rfl)
    · have c3 : a0.toInt < (7 : Int) := wk_leF c3
      refine lv_iconst (v := 1) hx hb dX11_isWeekday_10 (by decide) ?_
      refine lv_goto (tgt := 15) hx hb dX11_isWeekday_11 (by decide) ?_
      exact tk_zret hC hr rfl hlocks hK ⟨hT, hF, (Or.inr ⟨rfl, (show 0 ≤ a0.toInt from c2), (show a0.toInt ≤ 6 by first | with_reducible assumption | omega)⟩)⟩ hw dX11_isWeekday_15
abbrev P_X5_hasTown_1 (ad : Nat → Nat) (cy : Nat → ClassId) (B : Int) (qr : Nat) (s1 : Int)  (w0 : va_W) : Int32 → va_W → Prop := fun r u => TW ksC ad cy B qr s1 u ∧ FE ksC ([] : List (Nat × Nat × Nat)) w0 u ∧ ((r = 0 ∧ (∃ y : Int32, gi u 39 8 = y ∧ (-1) ≤ y.toInt ∧ y.toInt ≤ 0)) ∨ (r = 1 ∧ (∃ y : Int32, gi u 39 8 = y ∧ 1 ≤ y.toInt ∧ y.toInt ≤ 10)))
set_option maxHeartbeats 4000000 in
set_option maxRecDepth 100000 in
theorem k_X5_hasTown_1 (l : Launch) (adK adV : Nat → Nat) (dC : Nat → ClassId) (dI : Nat → Nat → Nat) (cy : Nat → ClassId) (ad : Nat → Nat) (B : Int) (hB0 : 2147483648 ≤ B) (hB1 : B ≤ 1152921504606846976) (qr : Nat) (s1 : Int)   (w0 : va_W) (sz : Nat) (hT : TW ksC ad cy B qr s1 w0)  : Met l yX5_hasTown (wu yX5_hasTown cX5_hasTown 1 (some .boolean)) ({ frames := 1, cells := 0, slots := 0, locals := 12 }) (va_Pc [.ref (ad 38)] (wpreS adK adV dC dI cy sz w0)) (va_Qi (P_X5_hasTown_1 ad cy B qr s1  w0) (fun u : va_W => wpost dC dI cy (va_A w0 sz) u) (va_A w0 sz)) 0 0 (va_A w0 sz) := by
  refine Met.ofW (cc := cX5_hasTown) (maxL := 1) (ret := (some .boolean)) (by decide) rfl ?_
  intro p e s m args below meth c s₁ Bk hml hv
  obtain ⟨rfl, ⟨hsz, hP, hK, hD0⟩, hE, hSR⟩ := hv
  have hx := Bk.exec
  have hb := Bk.bytes
  have hr := Bk.returns
  have hlocks := Bk.notSynchronized
  have hC : CallFix p m c cX5_hasTown 1 s _ (wu yX5_hasTown cX5_hasTown 1 (some .boolean)) RX5 := ⟨hx, hb, hml, findClass_of_methodNamed Bk.named, atoms_spec (ws := (wu yX5_hasTown cX5_hasTown 1 (some .boolean))) Bk.pre⟩
  subst hsz
  have hD := hD0.self (sz := s.heap.size)
  generalize hAe : va_A w0 s.heap.size = A at hD hE ⊢
  have hA : ∀ q : Nat, s.heap.size ≤ q → A q := fun q h => by rw [← hAe]; exact Or.inr h
  have hw : Wd dC dI A s.heap s.heap [] w0 := ⟨hP, hD, va_S.rf⟩
  have hF : FE ksC ([] : List (Nat × Nat × Nat)) w0 w0 := FE.rf
  have hl := lv_entry ([.ref (ad 38)]) (n := 1) (Nat.le_of_ble_eq_true rfl)
  rw [lg_entry_eq]
  generalize (lg_sl ([.ref (ad 38)]) ++ List.replicate (1 - (lg_sl ([.ref (ad 38)])).length) Slot.unset).toArray = ls at hl ⊢
  have hl : lv_has ls 1 [(0, .ref (ad 38))] := hl
  generalize hloc : ([] : List Loc) = locs at hw ⊢
  have hinX5 : ∀ w ∈ u_ws RX5 TX5 14, w ∈ (wu yX5_hasTown cX5_hasTown 1 (some .boolean)) := fun _ h => List.mem_cons_of_mem _ (up_76 h)
  have hinX7 : ∀ w ∈ u_ws RX7 TX7 12, w ∈ (wu yX5_hasTown cX5_hasTown 1 (some .boolean)) := fun _ h => List.mem_cons_of_mem _ (up_73 h)
  refine lv_aload_n hx hb dX5_hasTown_0 rfl (lv_at hl 0 rfl) ?_
  refine tk_getO hC hK hw hT hinX5 kC_at38 (by decide) rfl 0 (by decide) (List.mem_cons_of_mem _ uw_3_18) rfl rfl dX5_hasTown_1 ?_
  refine tk_geti hC hK hw hT hinX7 kC_at39 (by decide) rfl 8 (by decide) (List.mem_cons_of_mem _ uw_33_21) rfl rfl dX5_hasTown_4 (fun x1 c2 rx1 tx1 => ?_)
  refine lv_if_le (tgt := 14) hx hb dX5_hasTown_7 (by decide) (fun c3 => ?_) (fun c3 => ?_)
  · have c3 : x1.toInt ≤ (0 : Int) := wk_le.mp c3
    refine lv_iconst (v := 0) hx hb dX5_hasTown_14 (by decide) ?_
    exact tk_zret hC hr rfl hlocks hK ⟨hT, hF, (Or.inl ⟨rfl, ⟨x1, c2, (show (-1) ≤ x1.toInt from rx1), (show x1.toInt ≤ 0 from c3)⟩⟩)⟩ hw dX5_hasTown_15
  · have c3 : (0 : Int) < x1.toInt := wk_leF c3
    refine lv_iconst (v := 1) hx hb dX5_hasTown_10 (by decide) ?_
    refine lv_goto (tgt := 15) hx hb dX5_hasTown_11 (by decide) ?_
    exact tk_zret hC hr rfl hlocks hK ⟨hT, hF, (Or.inr ⟨rfl, ⟨x1, c2, (show 1 ≤ x1.toInt by first | with_reducible assumption | omega), (show x1.toInt ≤ 10 from tx1)⟩⟩)⟩ hw dX5_hasTown_15
abbrev P_X11_hasMap_1 (ad : Nat → Nat) (cy : Nat → ClassId) (B : Int) (qr : Nat) (s1 : Int) (a1 : Int32) (w0 : va_W) : Int32 → va_W → Prop := fun r u => TW ksC ad cy B qr s1 u ∧ FE ksC ([] : List (Nat × Nat × Nat)) w0 u ∧ ((r = 0) ∨ (r = 1 ∧ 0 ≤ a1.toInt ∧ a1.toInt ≤ 3 ∧ (∃ y : Int32, gi u 38 8 = y ∧ 1 ≤ y.toInt ∧ y.toInt ≤ 4)))
set_option maxHeartbeats 4000000 in
set_option maxRecDepth 100000 in
theorem k_X11_hasMap_1 (l : Launch) (adK adV : Nat → Nat) (dC : Nat → ClassId) (dI : Nat → Nat → Nat) (cy : Nat → ClassId) (ad : Nat → Nat) (B : Int) (hB0 : 2147483648 ≤ B) (hB1 : B ≤ 1152921504606846976) (qr : Nat) (s1 : Int)  (a1 : Int32) (w0 : va_W) (sz : Nat) (hT : TW ksC ad cy B qr s1 w0)  : Met l yX11_hasMap (wu yX11_hasMap cX11_hasMap 2 (some .boolean)) ({ frames := 1, cells := 0, slots := 0, locals := 12 }) (va_Pc [.ref (ad 0), .int a1] (wpreS adK adV dC dI cy sz w0)) (va_Qi (P_X11_hasMap_1 ad cy B qr s1 a1 w0) (fun u : va_W => wpost dC dI cy (va_A w0 sz) u) (va_A w0 sz)) 0 0 (va_A w0 sz) := by
  refine Met.ofW (cc := cX11_hasMap) (maxL := 2) (ret := (some .boolean)) (by decide) rfl ?_
  intro p e s m args below meth c s₁ Bk hml hv
  obtain ⟨rfl, ⟨hsz, hP, hK, hD0⟩, hE, hSR⟩ := hv
  have hx := Bk.exec
  have hb := Bk.bytes
  have hr := Bk.returns
  have hlocks := Bk.notSynchronized
  have hC : CallFix p m c cX11_hasMap 2 s _ (wu yX11_hasMap cX11_hasMap 2 (some .boolean)) RX11 := ⟨hx, hb, hml, findClass_of_methodNamed Bk.named, atoms_spec (ws := (wu yX11_hasMap cX11_hasMap 2 (some .boolean))) Bk.pre⟩
  subst hsz
  have hD := hD0.self (sz := s.heap.size)
  generalize hAe : va_A w0 s.heap.size = A at hD hE ⊢
  have hA : ∀ q : Nat, s.heap.size ≤ q → A q := fun q h => by rw [← hAe]; exact Or.inr h
  have hw : Wd dC dI A s.heap s.heap [] w0 := ⟨hP, hD, va_S.rf⟩
  have hF : FE ksC ([] : List (Nat × Nat × Nat)) w0 w0 := FE.rf
  have hl := lv_entry ([.ref (ad 0), .int a1]) (n := 2) (Nat.le_of_ble_eq_true rfl)
  rw [lg_entry_eq]
  generalize (lg_sl ([.ref (ad 0), .int a1]) ++ List.replicate (2 - (lg_sl ([.ref (ad 0), .int a1])).length) Slot.unset).toArray = ls at hl ⊢
  have hl : lv_has ls 2 [(0, .ref (ad 0)), (1, .int a1)] := hl
  generalize hloc : ([] : List Loc) = locs at hw ⊢
  have hinX11 : ∀ w ∈ u_ws RX11 TX11 13, w ∈ (wu yX11_hasMap cX11_hasMap 2 (some .boolean)) := fun _ h => List.mem_cons_of_mem _ (up_70 h)
  have hinX5 : ∀ w ∈ u_ws RX5 TX5 14, w ∈ (wu yX11_hasMap cX11_hasMap 2 (some .boolean)) := fun _ h => List.mem_cons_of_mem _ (up_76 h)
  have J19 : ∀ (H : Heap) (locs : List Loc) (ls : Array Slot) (w1 : va_W), Wd dC dI A s.heap H locs w1 → TW ksC ad cy B qr s1 w1 → FE ksC ([] : List (Nat × Nat × Nat)) w0 w1 → lv_has ls 2 [(0, .ref (ad 0)), (1, .int a1)] → W p l e ({ frames := 1, cells := 0, slots := 0, locals := 12 }) s m (List.toArray [.ref (ad 0), .int a1]) below meth c H locs 0 0 (MQ below (va_Qi (P_X11_hasMap_1 ad cy B qr s1 a1 w0) (fun u : va_W => wpost dC dI cy A u) A) (List.toArray [.ref (ad 0), .int a1]) s 0 0 A) (F0 m 19 ls []) := by
    intro H locs ls w1 hw hT hF hl
    refine lv_iconst (v := 0) hx hb dX11_hasMap_19 (by decide) ?_
    exact tk_zret hC hr rfl hlocks hK ⟨hT, hF, (Or.inl rfl)⟩ hw dX11_hasMap_20
  refine lv_iload_n hx hb dX11_hasMap_0 rfl (lv_at hl 1 rfl) ?_
  refine lv_if_lt (tgt := 19) hx hb dX11_hasMap_1 (by decide) (fun c2 => ?_) (fun c2 => ?_)
  · have c2 : a1.toInt < (0 : Int) := wk_lt.mp c2
    exact J19  s.heap locs ls w0   hw hT hF  (lv_sub hl [0, 1] rfl)
  · have c2 : (0 : Int) ≤ a1.toInt := wk_ltF c2
    refine lv_iload_n hx hb dX11_hasMap_4 rfl (lv_at hl 1 rfl) ?_
    refine lv_aload_n hx hb dX11_hasMap_5 rfl (lv_at hl 0 rfl) ?_
    refine tk_getA hC hK hw hT hinX11 kC_at0 (by decide) rfl 4 (by decide) (List.mem_cons_of_mem _ uw_1_7) rfl rfl dX11_hasMap_6 ?_
    refine tk_geti hC hK hw hT hinX5 kC_at38 (by decide) rfl 8 (by decide) (List.mem_cons_of_mem _ uw_33_12) rfl rfl dX11_hasMap_9 (fun x3 c4 rx3 tx3 => ?_)
    refine lv_icmp_ge (tgt := 19) hx hb dX11_hasMap_12 (by decide) (fun c5 => ?_) (fun c5 => ?_)
    · have c5 : x3.toInt ≤ a1.toInt := wk_le.mp c5
      exact J19  s.heap locs ls w0   hw hT hF  (lv_sub hl [0, 1] rfl)
    · have c5 : a1.toInt < x3.toInt := wk_leF c5
      refine lv_iconst (v := 1) hx hb dX11_hasMap_15 (by decide) ?_
      refine lv_goto (tgt := 20) hx hb dX11_hasMap_16 (by decide) ?_
      exact tk_zret hC hr rfl hlocks hK ⟨hT, hF, (Or.inr ⟨rfl, (show 0 ≤ a1.toInt from c2), (show a1.toInt ≤ 3 by first | with_reducible assumption | omega), ⟨x3, c4, (show 1 ≤ x3.toInt by first | with_reducible assumption | omega), (show x3.toInt ≤ 4 from tx3)⟩⟩)⟩ hw dX11_hasMap_20
abbrev P_X11_hasCorner_1 (ad : Nat → Nat) (cy : Nat → ClassId) (B : Int) (qr : Nat) (s1 : Int) (a1 : Int32) (w0 : va_W) : Int32 → va_W → Prop := fun r u => TW ksC ad cy B qr s1 u ∧ FE ksC ([] : List (Nat × Nat × Nat)) w0 u ∧ ((r = 0) ∨ (r = 1 ∧ 0 ≤ a1.toInt ∧ a1.toInt ≤ 9 ∧ (∃ y : Int32, gi u 39 8 = y ∧ 1 ≤ y.toInt ∧ y.toInt ≤ 10)))
set_option maxHeartbeats 4000000 in
set_option maxRecDepth 100000 in
theorem k_X11_hasCorner_1 (l : Launch) (adK adV : Nat → Nat) (dC : Nat → ClassId) (dI : Nat → Nat → Nat) (cy : Nat → ClassId) (ad : Nat → Nat) (B : Int) (hB0 : 2147483648 ≤ B) (hB1 : B ≤ 1152921504606846976) (qr : Nat) (s1 : Int)  (a1 : Int32) (w0 : va_W) (sz : Nat) (hT : TW ksC ad cy B qr s1 w0)  : Met l yX11_hasCorner (wu yX11_hasCorner cX11_hasCorner 2 (some .boolean)) ({ frames := 1, cells := 0, slots := 0, locals := 12 }) (va_Pc [.ref (ad 0), .int a1] (wpreS adK adV dC dI cy sz w0)) (va_Qi (P_X11_hasCorner_1 ad cy B qr s1 a1 w0) (fun u : va_W => wpost dC dI cy (va_A w0 sz) u) (va_A w0 sz)) 0 0 (va_A w0 sz) := by
  refine Met.ofW (cc := cX11_hasCorner) (maxL := 2) (ret := (some .boolean)) (by decide) rfl ?_
  intro p e s m args below meth c s₁ Bk hml hv
  obtain ⟨rfl, ⟨hsz, hP, hK, hD0⟩, hE, hSR⟩ := hv
  have hx := Bk.exec
  have hb := Bk.bytes
  have hr := Bk.returns
  have hlocks := Bk.notSynchronized
  have hC : CallFix p m c cX11_hasCorner 2 s _ (wu yX11_hasCorner cX11_hasCorner 2 (some .boolean)) RX11 := ⟨hx, hb, hml, findClass_of_methodNamed Bk.named, atoms_spec (ws := (wu yX11_hasCorner cX11_hasCorner 2 (some .boolean))) Bk.pre⟩
  subst hsz
  have hD := hD0.self (sz := s.heap.size)
  generalize hAe : va_A w0 s.heap.size = A at hD hE ⊢
  have hA : ∀ q : Nat, s.heap.size ≤ q → A q := fun q h => by rw [← hAe]; exact Or.inr h
  have hw : Wd dC dI A s.heap s.heap [] w0 := ⟨hP, hD, va_S.rf⟩
  have hF : FE ksC ([] : List (Nat × Nat × Nat)) w0 w0 := FE.rf
  have hl := lv_entry ([.ref (ad 0), .int a1]) (n := 2) (Nat.le_of_ble_eq_true rfl)
  rw [lg_entry_eq]
  generalize (lg_sl ([.ref (ad 0), .int a1]) ++ List.replicate (2 - (lg_sl ([.ref (ad 0), .int a1])).length) Slot.unset).toArray = ls at hl ⊢
  have hl : lv_has ls 2 [(0, .ref (ad 0)), (1, .int a1)] := hl
  generalize hloc : ([] : List Loc) = locs at hw ⊢
  have hinX11 : ∀ w ∈ u_ws RX11 TX11 13, w ∈ (wu yX11_hasCorner cX11_hasCorner 2 (some .boolean)) := fun _ h => List.mem_cons_of_mem _ (up_70 h)
  have hinX5 : ∀ w ∈ u_ws RX5 TX5 14, w ∈ (wu yX11_hasCorner cX11_hasCorner 2 (some .boolean)) := fun _ h => List.mem_cons_of_mem _ (up_76 h)
  have hinX7 : ∀ w ∈ u_ws RX7 TX7 12, w ∈ (wu yX11_hasCorner cX11_hasCorner 2 (some .boolean)) := fun _ h => List.mem_cons_of_mem _ (up_73 h)
  have J22 : ∀ (H : Heap) (locs : List Loc) (ls : Array Slot) (w1 : va_W), Wd dC dI A s.heap H locs w1 → TW ksC ad cy B qr s1 w1 → FE ksC ([] : List (Nat × Nat × Nat)) w0 w1 → lv_has ls 2 [(0, .ref (ad 0)), (1, .int a1)] → W p l e ({ frames := 1, cells := 0, slots := 0, locals := 12 }) s m (List.toArray [.ref (ad 0), .int a1]) below meth c H locs 0 0 (MQ below (va_Qi (P_X11_hasCorner_1 ad cy B qr s1 a1 w0) (fun u : va_W => wpost dC dI cy A u) A) (List.toArray [.ref (ad 0), .int a1]) s 0 0 A) (F0 m 22 ls []) := by
    intro H locs ls w1 hw hT hF hl
    refine lv_iconst (v := 0) hx hb dX11_hasCorner_22 (by decide) ?_
    exact tk_zret hC hr rfl hlocks hK ⟨hT, hF, (Or.inl rfl)⟩ hw dX11_hasCorner_23
  refine lv_iload_n hx hb dX11_hasCorner_0 rfl (lv_at hl 1 rfl) ?_
  refine lv_if_lt (tgt := 22) hx hb dX11_hasCorner_1 (by decide) (fun c2 => ?_) (fun c2 => ?_)
  · have c2 : a1.toInt < (0 : Int) := wk_lt.mp c2
    exact J22  s.heap locs ls w0   hw hT hF  (lv_sub hl [0, 1] rfl)
  · have c2 : (0 : Int) ≤ a1.toInt := wk_ltF c2
    refine lv_iload_n hx hb dX11_hasCorner_4 rfl (lv_at hl 1 rfl) ?_
    refine lv_aload_n hx hb dX11_hasCorner_5 rfl (lv_at hl 0 rfl) ?_
    refine tk_getA hC hK hw hT hinX11 kC_at0 (by decide) rfl 4 (by decide) (List.mem_cons_of_mem _ uw_1_7) rfl rfl dX11_hasCorner_6 ?_
    refine tk_getO hC hK hw hT hinX5 kC_at38 (by decide) rfl 0 (by decide) (List.mem_cons_of_mem _ uw_9_1) rfl rfl dX11_hasCorner_9 ?_
    refine tk_geti hC hK hw hT hinX7 kC_at39 (by decide) rfl 8 (by decide) (List.mem_cons_of_mem _ uw_35_23) rfl rfl dX11_hasCorner_12 (fun x3 c4 rx3 tx3 => ?_)
    refine lv_icmp_ge (tgt := 22) hx hb dX11_hasCorner_15 (by decide) (fun c5 => ?_) (fun c5 => ?_)
    · have c5 : x3.toInt ≤ a1.toInt := wk_le.mp c5
      exact J22  s.heap locs ls w0   hw hT hF  (lv_sub hl [0, 1] rfl)
    · have c5 : a1.toInt < x3.toInt := wk_leF c5
      refine lv_iconst (v := 1) hx hb dX11_hasCorner_18 (by decide) ?_
      refine lv_goto (tgt := 23) hx hb dX11_hasCorner_19 (by decide) ?_
      exact tk_zret hC hr rfl hlocks hK ⟨hT, hF, (Or.inr ⟨rfl, (show 0 ≤ a1.toInt from c2), (show a1.toInt ≤ 9 by first | with_reducible assumption | omega), ⟨x3, c4, (show 1 ≤ x3.toInt by first | with_reducible assumption | omega), (show x3.toInt ≤ 10 from tx3)⟩⟩)⟩ hw dX11_hasCorner_23
abbrev P_X7_cornerAcross_1 (ad : Nat → Nat) (cy : Nat → ClassId) (B : Int) (qr : Nat) (s1 : Int) (a1 : Int32) (a2 : Int32) (w0 : va_W) : Int32 → va_W → Prop := fun r u => TW ksC ad cy B qr s1 u ∧ FE ksC ([] : List (Nat × Nat × Nat)) w0 u ∧ ((0 ≤ r.toInt ∧ r.toInt ≤ 9))
set_option maxHeartbeats 4000000 in
set_option maxRecDepth 100000 in
theorem k_X7_cornerAcross_1 (l : Launch) (adK adV : Nat → Nat) (dC : Nat → ClassId) (dI : Nat → Nat → Nat) (cy : Nat → ClassId) (ad : Nat → Nat) (B : Int) (hB0 : 2147483648 ≤ B) (hB1 : B ≤ 1152921504606846976) (qr : Nat) (s1 : Int)  (a1 : Int32) (ra1 : 0 ≤ a1.toInt) (ta1 : a1.toInt ≤ 11) (a2 : Int32) (ra2 : 0 ≤ a2.toInt) (ta2 : a2.toInt ≤ 1) (w0 : va_W) (sz : Nat) (hT : TW ksC ad cy B qr s1 w0)  : Met l yX7_cornerAcross (wu yX7_cornerAcross cX7_cornerAcross 3 (some .int)) ({ frames := 1, cells := 0, slots := 0, locals := 12 }) (va_Pc [.ref (ad 39), .int a1, .int a2] (wpreS adK adV dC dI cy sz w0)) (va_Qi (P_X7_cornerAcross_1 ad cy B qr s1 a1 a2 w0) (fun u : va_W => wpost dC dI cy (va_A w0 sz) u) (va_A w0 sz)) 0 0 (va_A w0 sz) := by
  refine Met.ofW (cc := cX7_cornerAcross) (maxL := 3) (ret := (some .int)) (by decide) rfl ?_
  intro p e s m args below meth c s₁ Bk hml hv
  obtain ⟨rfl, ⟨hsz, hP, hK, hD0⟩, hE, hSR⟩ := hv
  have hx := Bk.exec
  have hb := Bk.bytes
  have hr := Bk.returns
  have hlocks := Bk.notSynchronized
  have hC : CallFix p m c cX7_cornerAcross 3 s _ (wu yX7_cornerAcross cX7_cornerAcross 3 (some .int)) RX7 := ⟨hx, hb, hml, findClass_of_methodNamed Bk.named, atoms_spec (ws := (wu yX7_cornerAcross cX7_cornerAcross 3 (some .int))) Bk.pre⟩
  subst hsz
  have hD := hD0.self (sz := s.heap.size)
  generalize hAe : va_A w0 s.heap.size = A at hD hE ⊢
  have hA : ∀ q : Nat, s.heap.size ≤ q → A q := fun q h => by rw [← hAe]; exact Or.inr h
  have hw : Wd dC dI A s.heap s.heap [] w0 := ⟨hP, hD, va_S.rf⟩
  have hF : FE ksC ([] : List (Nat × Nat × Nat)) w0 w0 := FE.rf
  have hl := lv_entry ([.ref (ad 39), .int a1, .int a2]) (n := 3) (Nat.le_of_ble_eq_true rfl)
  rw [lg_entry_eq]
  generalize (lg_sl ([.ref (ad 39), .int a1, .int a2]) ++ List.replicate (3 - (lg_sl ([.ref (ad 39), .int a1, .int a2])).length) Slot.unset).toArray = ls at hl ⊢
  have hl : lv_has ls 3 [(0, .ref (ad 39)), (1, .int a1), (2, .int a2)] := hl
  generalize hloc : ([] : List Loc) = locs at hw ⊢
  have hinX7 : ∀ w ∈ u_ws RX7 TX7 12, w ∈ (wu yX7_cornerAcross cX7_cornerAcross 3 (some .int)) := fun _ h => List.mem_cons_of_mem _ (up_73 h)
  refine lv_aload_n hx hb dX7_cornerAcross_0 rfl (lv_at hl 0 rfl) ?_
  refine tk_getO hC hK hw hT hinX7 kC_at39 (by decide) rfl 0 (by decide) (List.mem_cons_of_mem _ uw_2_17) rfl rfl dX7_cornerAcross_1 ?_
  refine lv_iconst (v := 2) hx hb dX7_cornerAcross_4 (by decide) ?_
  refine lv_iload_n hx hb dX7_cornerAcross_5 rfl (lv_at hl 1 rfl) ?_
  refine lv_imul hx hb dX7_cornerAcross_6 ?_
  refine lv_topi (fun x1 ex1 => ?_)
  have ex1 : x1.toInt = (2 : Int) * a1.toInt := by rw [ex1]; exact wk_mul (show (-2147483648) ≤ (2 : Int) * a1.toInt by omega) (show (2 : Int) * a1.toInt ≤ 2147483647 by omega)
  refine lv_iconst (v := 1) hx hb dX7_cornerAcross_7 (by decide) ?_
  refine lv_iadd hx hb dX7_cornerAcross_8 ?_
  refine lv_topi (fun x2 ex2 => ?_)
  have ex2 : x2.toInt = x1.toInt + (1 : Int) := by rw [ex2]; exact wk_add (show (-2147483648) ≤ x1.toInt + (1 : Int) by omega) (show x1.toInt + (1 : Int) ≤ 2147483647 by omega)
  refine lv_iload_n hx hb dX7_cornerAcross_9 rfl (lv_at hl 2 rfl) ?_
  refine lv_isub hx hb dX7_cornerAcross_10 ?_
  refine lv_topi (fun x3 ex3 => ?_)
  have ex3 : x3.toInt = x2.toInt - a2.toInt := by rw [ex3]; exact wk_sub (show (-2147483648) ≤ x2.toInt - a2.toInt by omega) (show x2.toInt - a2.toInt ≤ 2147483647 by omega)
  refine tk_iald hC hK hw hT kC_at40 rfl rfl (show 0 ≤ x3.toInt by first | with_reducible assumption | omega) (show x3.toInt < 26 by first | with_reducible assumption | omega) dX7_cornerAcross_11 (fun x4 c5 rx4 tx4 => ?_)
  have c5 : gi w0 40 (1 * x3.toInt + 0).toNat = x4 := (congrArg (gi w0 40) (congrArg Int.toNat (show 1 * x3.toInt + 0 = x3.toInt by first | exact Int.le_antisymm (by omega) (by omega) | omega))).trans c5
  exact tk_iret hC hr hlocks hK ⟨hT, hF, ⟨(show 0 ≤ x4.toInt from rx4), (show x4.toInt ≤ 9 from tx4)⟩⟩ hw dX7_cornerAcross_12
abbrev P_X0_spot_1 (ad : Nat → Nat) (cy : Nat → ClassId) (B : Int) (qr : Nat) (s1 : Int) (a0 : Int32) (a1 : Int32) (a2 : Int32) (w0 : va_W) : Int32 → va_W → Prop := fun r u => TW ksC ad cy B qr s1 u ∧ FE ksC ([] : List (Nat × Nat × Nat)) w0 u ∧ ((0 ≤ r.toInt ∧ r.toInt ≤ 399))
set_option maxHeartbeats 4000000 in
set_option maxRecDepth 100000 in
theorem k_X0_spot_1 (l : Launch) (adK adV : Nat → Nat) (dC : Nat → ClassId) (dI : Nat → Nat → Nat) (cy : Nat → ClassId) (ad : Nat → Nat) (B : Int) (hB0 : 2147483648 ≤ B) (hB1 : B ≤ 1152921504606846976) (qr : Nat) (s1 : Int)  (a0 : Int32) (ra0 : 0 ≤ a0.toInt) (ta0 : a0.toInt ≤ 3) (a1 : Int32) (ra1 : 0 ≤ a1.toInt) (ta1 : a1.toInt ≤ 9) (a2 : Int32) (ra2 : 0 ≤ a2.toInt) (ta2 : a2.toInt ≤ 9) (w0 : va_W) (sz : Nat) (hT : TW ksC ad cy B qr s1 w0)  : Met l yX0_spot (wu yX0_spot cX0_spot 3 (some .int)) ({ frames := 1, cells := 0, slots := 0, locals := 12 }) (va_Pc [.int a0, .int a1, .int a2] (wpreS adK adV dC dI cy sz w0)) (va_Qi (P_X0_spot_1 ad cy B qr s1 a0 a1 a2 w0) (fun u : va_W => wpost dC dI cy (va_A w0 sz) u) (va_A w0 sz)) 0 0 (va_A w0 sz) := by
  refine Met.ofW (cc := cX0_spot) (maxL := 3) (ret := (some .int)) (by decide) rfl ?_
  intro p e s m args below meth c s₁ Bk hml hv
  obtain ⟨rfl, ⟨hsz, hP, hK, hD0⟩, hE, hSR⟩ := hv
  have hx := Bk.exec
  have hb := Bk.bytes
  have hr := Bk.returns
  have hlocks := Bk.notSynchronized
  have hC : CallFix p m c cX0_spot 3 s _ (wu yX0_spot cX0_spot 3 (some .int)) RX0 := ⟨hx, hb, hml, findClass_of_methodNamed Bk.named, atoms_spec (ws := (wu yX0_spot cX0_spot 3 (some .int))) Bk.pre⟩
  subst hsz
  have hD := hD0.self (sz := s.heap.size)
  generalize hAe : va_A w0 s.heap.size = A at hD hE ⊢
  have hA : ∀ q : Nat, s.heap.size ≤ q → A q := fun q h => by rw [← hAe]; exact Or.inr h
  have hw : Wd dC dI A s.heap s.heap [] w0 := ⟨hP, hD, va_S.rf⟩
  have hF : FE ksC ([] : List (Nat × Nat × Nat)) w0 w0 := FE.rf
  have hl := lv_entry ([.int a0, .int a1, .int a2]) (n := 3) (Nat.le_of_ble_eq_true rfl)
  rw [lg_entry_eq]
  generalize (lg_sl ([.int a0, .int a1, .int a2]) ++ List.replicate (3 - (lg_sl ([.int a0, .int a1, .int a2])).length) Slot.unset).toArray = ls at hl ⊢
  have hl : lv_has ls 3 [(0, .int a0), (1, .int a1), (2, .int a2)] := hl
  generalize hloc : ([] : List Loc) = locs at hw ⊢
  refine lv_iload_n hx hb dX0_spot_0 rfl (lv_at hl 0 rfl) ?_
  refine lv_bipush (v := 100) hx hb dX0_spot_1 (by decide) ?_
  refine lv_imul hx hb dX0_spot_3 ?_
  refine lv_topi (fun x1 ex1 => ?_)
  have ex1 : x1.toInt = a0.toInt * (100 : Int) := by rw [ex1]; exact wk_mul (show (-2147483648) ≤ a0.toInt * (100 : Int) by omega) (show a0.toInt * (100 : Int) ≤ 2147483647 by omega)
  refine lv_iload_n hx hb dX0_spot_4 rfl (lv_at hl 1 rfl) ?_
  refine lv_bipush (v := 10) hx hb dX0_spot_5 (by decide) ?_
  refine lv_imul hx hb dX0_spot_7 ?_
  refine lv_topi (fun x2 ex2 => ?_)
  have ex2 : x2.toInt = a1.toInt * (10 : Int) := by rw [ex2]; exact wk_mul (show (-2147483648) ≤ a1.toInt * (10 : Int) by omega) (show a1.toInt * (10 : Int) ≤ 2147483647 by omega)
  refine lv_iadd hx hb dX0_spot_8 ?_
  refine lv_topi (fun x3 ex3 => ?_)
  have ex3 : x3.toInt = x1.toInt + x2.toInt := by rw [ex3]; exact wk_add (show (-2147483648) ≤ x1.toInt + x2.toInt by omega) (show x1.toInt + x2.toInt ≤ 2147483647 by omega)
  refine lv_iload_n hx hb dX0_spot_9 rfl (lv_at hl 2 rfl) ?_
  refine lv_iadd hx hb dX0_spot_10 ?_
  refine lv_topi (fun x4 ex4 => ?_)
  have ex4 : x4.toInt = x3.toInt + a2.toInt := by rw [ex4]; exact wk_add (show (-2147483648) ≤ x3.toInt + a2.toInt by omega) (show x3.toInt + a2.toInt ≤ 2147483647 by omega)
  exact tk_iret hC hr hlocks hK ⟨hT, hF, ⟨(show 0 ≤ x4.toInt by first | with_reducible assumption | omega), (show x4.toInt ≤ 399 by first | with_reducible assumption | omega)⟩⟩ hw dX0_spot_11
abbrev P_X0_signOf_1 (ad : Nat → Nat) (cy : Nat → ClassId) (B : Int) (qr : Nat) (s1 : Int) (a1 : Int32) (a2 : Int32) (w0 : va_W) : Int32 → va_W → Prop := fun r u => TW ksC ad cy B qr s1 u ∧ FE ksC ([] : List (Nat × Nat × Nat)) w0 u ∧ ((True))
set_option maxHeartbeats 4000000 in
set_option maxRecDepth 100000 in
theorem k_X0_signOf_1 (l : Launch) (adK adV : Nat → Nat) (dC : Nat → ClassId) (dI : Nat → Nat → Nat) (cy : Nat → ClassId) (ad : Nat → Nat) (B : Int) (hB0 : 2147483648 ≤ B) (hB1 : B ≤ 1152921504606846976) (qr : Nat) (s1 : Int)  (a1 : Int32) (ra1 : 0 ≤ a1.toInt) (ta1 : a1.toInt ≤ 3) (a2 : Int32) (ra2 : 0 ≤ a2.toInt) (ta2 : a2.toInt ≤ 11) (w0 : va_W) (sz : Nat) (hT : TW ksC ad cy B qr s1 w0)  : Met l yX0_signOf (wu yX0_signOf cX0_signOf 3 (some .int)) ({ frames := 1, cells := 0, slots := 0, locals := 12 }) (va_Pc [.ref (ad 145), .int a1, .int a2] (wpreS adK adV dC dI cy sz w0)) (va_Qi (P_X0_signOf_1 ad cy B qr s1 a1 a2 w0) (fun u : va_W => wpost dC dI cy (va_A w0 sz) u) (va_A w0 sz)) 0 0 (va_A w0 sz) := by
  refine Met.ofW (cc := cX0_signOf) (maxL := 3) (ret := (some .int)) (by decide) rfl ?_
  intro p e s m args below meth c s₁ Bk hml hv
  obtain ⟨rfl, ⟨hsz, hP, hK, hD0⟩, hE, hSR⟩ := hv
  have hx := Bk.exec
  have hb := Bk.bytes
  have hr := Bk.returns
  have hlocks := Bk.notSynchronized
  have hC : CallFix p m c cX0_signOf 3 s _ (wu yX0_signOf cX0_signOf 3 (some .int)) RX0 := ⟨hx, hb, hml, findClass_of_methodNamed Bk.named, atoms_spec (ws := (wu yX0_signOf cX0_signOf 3 (some .int))) Bk.pre⟩
  subst hsz
  have hD := hD0.self (sz := s.heap.size)
  generalize hAe : va_A w0 s.heap.size = A at hD hE ⊢
  have hA : ∀ q : Nat, s.heap.size ≤ q → A q := fun q h => by rw [← hAe]; exact Or.inr h
  have hw : Wd dC dI A s.heap s.heap [] w0 := ⟨hP, hD, va_S.rf⟩
  have hF : FE ksC ([] : List (Nat × Nat × Nat)) w0 w0 := FE.rf
  have hl := lv_entry ([.ref (ad 145), .int a1, .int a2]) (n := 3) (Nat.le_of_ble_eq_true rfl)
  rw [lg_entry_eq]
  generalize (lg_sl ([.ref (ad 145), .int a1, .int a2]) ++ List.replicate (3 - (lg_sl ([.ref (ad 145), .int a1, .int a2])).length) Slot.unset).toArray = ls at hl ⊢
  have hl : lv_has ls 3 [(0, .ref (ad 145)), (1, .int a1), (2, .int a2)] := hl
  generalize hloc : ([] : List Loc) = locs at hw ⊢
  have hinX0 : ∀ w ∈ u_ws RX0 TX0 4, w ∈ (wu yX0_signOf cX0_signOf 3 (some .int)) := fun _ h => List.mem_cons_of_mem _ (up_77 h)
  have hinX5 : ∀ w ∈ u_ws RX5 TX5 14, w ∈ (wu yX0_signOf cX0_signOf 3 (some .int)) := fun _ h => List.mem_cons_of_mem _ (up_76 h)
  refine lv_iload_n hx hb dX0_signOf_0 rfl (lv_at hl 1 rfl) ?_
  refine lv_iconst (v := 4) hx hb dX0_signOf_1 (by decide) ?_
  refine lv_icmp_ge (tgt := 20) hx hb dX0_signOf_2 (by decide) (fun c => absurd c (fun h => absurd (show (4 : Int) ≤ a1.toInt from wk_le.mp h) (by omega))) (fun _ => ?_)
  refine lv_aload_n hx hb dX0_signOf_5 rfl (lv_at hl 0 rfl) ?_
  refine tk_getA hC hK hw hT hinX0 kC_at145 (by decide) rfl 0 (by decide) (List.mem_cons_of_mem _ uw_4_17) rfl rfl dX0_signOf_6 ?_
  refine tk_getO hC hK hw hT hinX5 kC_at38 (by decide) rfl 1 (by decide) (List.mem_cons_of_mem _ uw_36_19) rfl rfl dX0_signOf_9 ?_
  refine lv_iload_n hx hb dX0_signOf_12 rfl (lv_at hl 1 rfl) ?_
  refine lv_bipush (v := 12) hx hb dX0_signOf_13 (by decide) ?_
  refine lv_imul hx hb dX0_signOf_15 ?_
  refine lv_topi (fun x1 ex1 => ?_)
  have ex1 : x1.toInt = a1.toInt * (12 : Int) := by rw [ex1]; exact wk_mul (show (-2147483648) ≤ a1.toInt * (12 : Int) by omega) (show a1.toInt * (12 : Int) ≤ 2147483647 by omega)
  refine lv_iload_n hx hb dX0_signOf_16 rfl (lv_at hl 2 rfl) ?_
  refine lv_iadd hx hb dX0_signOf_17 ?_
  refine lv_topi (fun x2 ex2 => ?_)
  have ex2 : x2.toInt = x1.toInt + a2.toInt := by rw [ex2]; exact wk_add (show (-2147483648) ≤ x1.toInt + a2.toInt by omega) (show x1.toInt + a2.toInt ≤ 2147483647 by omega)
  refine tk_iald hC hK hw hT kC_at48 rfl rfl (show 0 ≤ x2.toInt by first | with_reducible assumption | omega) (show x2.toInt < 48 by first | with_reducible assumption | omega) dX0_signOf_18 (fun x3 c4 rx3 tx3 => ?_)
  exact tk_iret hC hr hlocks hK ⟨hT, hF, trivial⟩ hw dX0_signOf_19
abbrev P_X0_drawStreets_1 (ad : Nat → Nat) (cy : Nat → ClassId) (B : Int) (qr : Nat) (s1 : Int) (a1 : Int32) (w0 : va_W) : va_W → Prop := fun u => TW ksC ad cy B qr s1 u ∧ FE ksC [(42, 0, 1100), (43, 0, 1100)] w0 u ∧ ((True))
set_option maxHeartbeats 4000000 in
set_option maxRecDepth 100000 in
theorem k_X0_drawStreets_1 (l : Launch) (adK adV : Nat → Nat) (dC : Nat → ClassId) (dI : Nat → Nat → Nat) (cy : Nat → ClassId) (ad : Nat → Nat) (B : Int) (hB0 : 2147483648 ≤ B) (hB1 : B ≤ 1152921504606846976) (qr : Nat) (s1 : Int)  (a1 : Int32) (ra1 : 0 ≤ a1.toInt) (ta1 : a1.toInt ≤ 3) (w0 : va_W) (sz : Nat) (hT : TW ksC ad cy B qr s1 w0)  : Met l yX0_drawStreets (wu yX0_drawStreets cX0_drawStreets 7 none) ({ frames := 2, cells := 0, slots := 0, locals := 34 }) (va_Pc [.ref (ad 145), .int a1] (wpreS adK adV dC dI cy sz w0)) (va_Qv (P_X0_drawStreets_1 ad cy B qr s1 a1 w0) (fun u : va_W => wpost dC dI cy (va_A w0 sz) u) (va_A w0 sz)) 0 0 (va_A w0 sz) := by
  refine Met.ofW (cc := cX0_drawStreets) (maxL := 7) (ret := none) (by decide) rfl ?_
  intro p e s m args below meth c s₁ Bk hml hv
  obtain ⟨rfl, ⟨hsz, hP, hK, hD0⟩, hE, hSR⟩ := hv
  have hx := Bk.exec
  have hb := Bk.bytes
  have hr := Bk.returns
  have hlocks := Bk.notSynchronized
  have hC : CallFix p m c cX0_drawStreets 7 s _ (wu yX0_drawStreets cX0_drawStreets 7 none) RX0 := ⟨hx, hb, hml, findClass_of_methodNamed Bk.named, atoms_spec (ws := (wu yX0_drawStreets cX0_drawStreets 7 none)) Bk.pre⟩
  subst hsz
  have hD := hD0.self (sz := s.heap.size)
  generalize hAe : va_A w0 s.heap.size = A at hD hE ⊢
  have hA : ∀ q : Nat, s.heap.size ≤ q → A q := fun q h => by rw [← hAe]; exact Or.inr h
  have hw : Wd dC dI A s.heap s.heap [] w0 := ⟨hP, hD, va_S.rf⟩
  have hF : FE ksC [(42, 0, 1100), (43, 0, 1100)] w0 w0 := FE.rf
  have hl := lv_entry ([.ref (ad 145), .int a1]) (n := 7) (Nat.le_of_ble_eq_true rfl)
  rw [lg_entry_eq]
  generalize (lg_sl ([.ref (ad 145), .int a1]) ++ List.replicate (7 - (lg_sl ([.ref (ad 145), .int a1])).length) Slot.unset).toArray = ls at hl ⊢
  have hl : lv_has ls 7 [(0, .ref (ad 145)), (1, .int a1)] := hl
  generalize hloc : ([] : List Loc) = locs at hw ⊢
  have hinX7 : ∀ w ∈ u_ws RX7 TX7 12, w ∈ (wu yX0_drawStreets cX0_drawStreets 7 none) := fun _ h => List.mem_cons_of_mem _ (up_73 h)
  have hinX0 : ∀ w ∈ u_ws RX0 TX0 4, w ∈ (wu yX0_drawStreets cX0_drawStreets 7 none) := fun _ h => List.mem_cons_of_mem _ (up_77 h)
  have hinX5 : ∀ w ∈ u_ws RX5 TX5 14, w ∈ (wu yX0_drawStreets cX0_drawStreets 7 none) := fun _ h => List.mem_cons_of_mem _ (up_76 h)
  have L72 : ∀ (n72 : Nat) (v72_3 : Int32) (H : Heap) (locs : List Loc) (ls : Array Slot) (w1 : va_W), 0 ≤ a1.toInt → a1.toInt ≤ 3 → 0 ≤ v72_3.toInt → v72_3.toInt ≤ 12 → (12 - v72_3.toInt).toNat < n72 → Wd dC dI A s.heap H locs w1 → TW ksC ad cy B qr s1 w1 → FE ksC [(42, 0, 1100), (43, 0, 1100)] w0 w1 → lv_has ls 7 [(0, .ref (ad 145)), (1, .int a1), (2, .ref (ad 39)), (3, .int v72_3)] → W p l e ({ frames := 2, cells := 0, slots := 0, locals := 34 }) s m (List.toArray [.ref (ad 145), .int a1]) below meth c H locs 0 0 (MQ below (va_Qv (P_X0_drawStreets_1 ad cy B qr s1 a1 w0) (fun u : va_W => wpost dC dI cy A u) A) (List.toArray [.ref (ad 145), .int a1]) s 0 0 A) (F0 m 72 ls []) := by
    intro n72
    induction n72 with
    | zero => intro v72_3 H locs ls w1 r2 t3 r4 t5 hm72 hw hT hF hl; omega
    | succ n72 ih72 =>
      intro v72_3 H locs ls w1 r2 t3 r4 t5 hm72 hw hT hF hl
      have L91 : ∀ (n91 : Nat) (v91_4 : Int32) (v91_5 : Int32) (f91_39_9 : Int32) (H : Heap) (locs : List Loc) (ls : Array Slot) (w6 : va_W), 0 ≤ a1.toInt → a1.toInt ≤ 3 → 0 ≤ v72_3.toInt → v72_3.toInt ≤ 11 → 0 ≤ v91_5.toInt → v91_5.toInt ≤ 2 → 1 ≤ f91_39_9.toInt → f91_39_9.toInt ≤ 12 → (2 - v91_5.toInt).toNat < n91 → Wd dC dI A s.heap H locs w6 → TW ksC ad cy B qr s1 w6 → FE ksC [(42, 0, 1100), (43, 0, 1100)] w0 w6 → gi w6 39 9 = f91_39_9 → lv_has ls 7 [(0, .ref (ad 145)), (1, .int a1), (2, .ref (ad 39)), (3, .int v72_3), (4, .int v91_4), (5, .int v91_5)] → W p l e ({ frames := 2, cells := 0, slots := 0, locals := 34 }) s m (List.toArray [.ref (ad 145), .int a1]) below meth c H locs 0 0 (MQ below (va_Qv (P_X0_drawStreets_1 ad cy B qr s1 a1 w0) (fun u : va_W => wpost dC dI cy A u) A) (List.toArray [.ref (ad 145), .int a1]) s 0 0 A) (F0 m 91 ls []) := by
        intro n91
        induction n91 with
        | zero => intro v91_4 v91_5 f91_39_9 H locs ls w6 r7 t8 r9 t10 r11 t12 r13 t14 hm91 hw hT hF c15 hl; omega
        | succ n91 ih91 =>
          intro v91_4 v91_5 f91_39_9 H locs ls w6 r7 t8 r9 t10 r11 t12 r13 t14 hm91 hw hT hF c15 hl
          have J158 : ∀ (v158_6 : Int32) (H : Heap) (locs : List Loc) (ls : Array Slot) (w16 : va_W), 0 ≤ a1.toInt → a1.toInt ≤ 3 → 0 ≤ v72_3.toInt → v72_3.toInt ≤ 11 → 0 ≤ v91_5.toInt → v91_5.toInt ≤ 1 → 0 ≤ v158_6.toInt → v158_6.toInt ≤ 399 → 1 ≤ f91_39_9.toInt → f91_39_9.toInt ≤ 12 → Wd dC dI A s.heap H locs w16 → TW ksC ad cy B qr s1 w16 → FE ksC [(42, 0, 1100), (43, 0, 1100)] w0 w16 → gi w16 39 9 = f91_39_9 → lv_has ls 7 [(0, .ref (ad 145)), (1, .int a1), (2, .ref (ad 39)), (3, .int v72_3), (4, .int v91_4), (5, .int v91_5), (6, .int v158_6)] → W p l e ({ frames := 2, cells := 0, slots := 0, locals := 34 }) s m (List.toArray [.ref (ad 145), .int a1]) below meth c H locs 0 0 (MQ below (va_Qv (P_X0_drawStreets_1 ad cy B qr s1 a1 w0) (fun u : va_W => wpost dC dI cy A u) A) (List.toArray [.ref (ad 145), .int a1]) s 0 0 A) (F0 m 158 ls []) := by
            intro v158_6 H locs ls w16 r17 t18 r19 t20 r21 t22 r23 t24 r25 t26 hw hT hF c27 hl
            obtain ⟨x28, ex28⟩ : ∃ y : Int32, y = v91_5 + Int32.ofInt 1 := ⟨_, rfl⟩
            refine lv_iinc (v := x28) (lv' := [(5, .int x28), (0, .ref (ad 145)), (1, .int a1), (2, .ref (ad 39)), (3, .int v72_3), (4, .int v91_4), (6, .int v158_6)]) hx hb dX0_drawStreets_158 hl (k := 5) rfl ex28.symm (by decide) rfl (fun ls hl => ?_)
            have ex28 : x28.toInt = v91_5.toInt + 1 := by rw [ex28]; exact wk_add (y := 1) (show -2147483648 ≤ v91_5.toInt + 1 by omega) (show v91_5.toInt + 1 ≤ 2147483647 by omega)
            refine lv_goto (tgt := 91) hx hb dX0_drawStreets_161 (by decide) ?_
            exact ih91 v91_4 x28 f91_39_9 H locs ls w16 (show 0 ≤ a1.toInt from r17) (show a1.toInt ≤ 3 from t18) (show 0 ≤ v72_3.toInt from r19) (show v72_3.toInt ≤ 11 from t20) (show 0 ≤ x28.toInt by first | with_reducible assumption | omega) (show x28.toInt ≤ 2 by first | with_reducible assumption | omega) (show 1 ≤ f91_39_9.toInt from r25) (show f91_39_9.toInt ≤ 12 from t26) (show (2 - x28.toInt).toNat < n91 by first | exact tn_lt hm91 (by omega) (by omega) | omega) hw hT hF c27 (lv_sub hl [1, 2, 3, 4, 5, 0] rfl)
          refine lv_iload hx hb dX0_drawStreets_91 (lv_at hl 5 rfl) ?_
          refine lv_iconst (v := 2) hx hb dX0_drawStreets_93 (by decide) ?_
          refine lv_icmp_ge (tgt := 164) hx hb dX0_drawStreets_94 (by decide) (fun c29 => ?_) (fun c29 => ?_)
          · have c29 : (2 : Int) ≤ v91_5.toInt := wk_le.mp c29
            obtain ⟨x30, ex30⟩ : ∃ y : Int32, y = v72_3 + Int32.ofInt 1 := ⟨_, rfl⟩
            refine lv_iinc (v := x30) (lv' := [(3, .int x30), (0, .ref (ad 145)), (1, .int a1), (2, .ref (ad 39)), (4, .int v91_4), (5, .int v91_5)]) hx hb dX0_drawStreets_164 hl (k := 3) rfl ex30.symm (by decide) rfl (fun ls hl => ?_)
            have ex30 : x30.toInt = v72_3.toInt + 1 := by rw [ex30]; exact wk_add (y := 1) (show -2147483648 ≤ v72_3.toInt + 1 by omega) (show v72_3.toInt + 1 ≤ 2147483647 by omega)
            refine lv_goto (tgt := 72) hx hb dX0_drawStreets_167 (by decide) ?_
            exact ih72 x30 H locs ls w6 (show 0 ≤ a1.toInt from r7) (show a1.toInt ≤ 3 from t8) (show 0 ≤ x30.toInt by first | with_reducible assumption | omega) (show x30.toInt ≤ 12 by first | with_reducible assumption | omega) (show (12 - x30.toInt).toNat < n72 by first | exact tn_lt hm72 (by omega) (by omega) | omega) hw hT hF  (lv_sub hl [1, 2, 3, 0] rfl)
          · have c29 : v91_5.toInt < (2 : Int) := wk_leF c29
            refine lv_iload_n hx hb dX0_drawStreets_97 rfl (lv_at hl 1 rfl) ?_
            refine lv_aload_n hx hb dX0_drawStreets_98 rfl (lv_at hl 2 rfl) ?_
            refine lv_iload_n hx hb dX0_drawStreets_99 rfl (lv_at hl 3 rfl) ?_
            refine lv_iconst (v := 1) hx hb dX0_drawStreets_100 (by decide) ?_
            refine lv_iload hx hb dX0_drawStreets_101 (lv_at hl 5 rfl) ?_
            refine lv_isub hx hb dX0_drawStreets_103 ?_
            refine lv_topi (fun x31 ex31 => ?_)
            have ex31 : x31.toInt = (1 : Int) - v91_5.toInt := by rw [ex31]; exact wk_sub (show (-2147483648) ≤ (1 : Int) - v91_5.toInt by omega) (show (1 : Int) - v91_5.toInt ≤ 2147483647 by omega)
            refine tk_Vi hC hK hw hT hA hE hSR kC_at39 (by decide) rfl (k_X7_cornerAcross_1 l adK adV dC dI cy ad B hB0 (Int.le_trans hB1 (by decide)) qr s1   v72_3 (show 0 ≤ v72_3.toInt from r9) (show v72_3.toInt ≤ 11 from t10) x31 (show 0 ≤ x31.toInt by first | with_reducible assumption | omega) (show x31.toInt ≤ 1 by first | with_reducible assumption | omega) w6 H.size hT ) (cwV 2 hC.2.2.2.2 uV_RX0_71 rfl rfl rfl (by decide +kernel) ⟨Nat.le_of_ble_eq_true rfl, Nat.le_of_ble_eq_true rfl⟩) rfl hl.1 rfl (Nat.le_of_ble_eq_true rfl) dX0_drawStreets_104 (fun r32 w34 H locs hp33 hw => ?_)
            obtain ⟨hT, k35, hg38⟩ := hp33
            have hF := hF.tr k35 (by decide)
            have c39 := k35.gi kC_at39 (by decide) c15
            obtain ⟨g36, g37⟩ := hg38
            refine lv_aload_n hx hb dX0_drawStreets_107 rfl (lv_at hl 2 rfl) ?_
            refine lv_iload_n hx hb dX0_drawStreets_108 rfl (lv_at hl 3 rfl) ?_
            refine lv_iload hx hb dX0_drawStreets_109 (lv_at hl 5 rfl) ?_
            refine tk_Vi hC hK hw hT hA hE hSR kC_at39 (by decide) rfl (k_X7_cornerAcross_1 l adK adV dC dI cy ad B hB0 (Int.le_trans hB1 (by decide)) qr s1   v72_3 (show 0 ≤ v72_3.toInt from r9) (show v72_3.toInt ≤ 11 from t10) v91_5 (show 0 ≤ v91_5.toInt from r11) (show v91_5.toInt ≤ 1 by first | with_reducible assumption | omega) w34 H.size hT ) (cwV 2 hC.2.2.2.2 uV_RX0_71 rfl rfl rfl (by decide +kernel) ⟨Nat.le_of_ble_eq_true rfl, Nat.le_of_ble_eq_true rfl⟩) rfl hl.1 rfl (Nat.le_of_ble_eq_true rfl) dX0_drawStreets_111 (fun r40 w42 H locs hp41 hw => ?_)
            obtain ⟨hT, k43, hg46⟩ := hp41
            have hF := hF.tr k43 (by decide)
            have c47 := k43.gi kC_at39 (by decide) c39
            obtain ⟨g44, g45⟩ := hg46
            refine tk_Si hC hK hw hT hA hE hSR (k_X0_spot_1 l adK adV dC dI cy ad B hB0 (Int.le_trans hB1 (by decide)) qr s1   a1 (show 0 ≤ a1.toInt from r7) (show a1.toInt ≤ 3 from t8) r32 (show 0 ≤ r32.toInt by first | with_reducible assumption | omega) (show r32.toInt ≤ 9 by first | with_reducible assumption | omega) r40 (show 0 ≤ r40.toInt by first | with_reducible assumption | omega) (show r40.toInt ≤ 9 by first | with_reducible assumption | omega) w42 H.size hT ) (va_cwS 3 hC.2.2.2.2 uS_RX0_47 rfl rfl rfl (by decide +kernel) ⟨Nat.le_of_ble_eq_true rfl, Nat.le_of_ble_eq_true rfl⟩) rfl hl.1 rfl (Nat.le_of_ble_eq_true rfl) dX0_drawStreets_114 (fun r48 w50 H locs hp49 hw => ?_)
            obtain ⟨hT, k51, hg54⟩ := hp49
            have hF := hF.tr k51 (by decide)
            have c55 := k51.gi kC_at39 (by decide) c47
            obtain ⟨g52, g53⟩ := hg54
            refine lv_istore (lv' := [(6, .int r48), (0, .ref (ad 145)), (1, .int a1), (2, .ref (ad 39)), (3, .int v72_3), (4, .int v91_4), (5, .int v91_5)]) hx hb dX0_drawStreets_117 hl (by decide) rfl (fun ls hl => ?_)
            refine lv_iload hx hb dX0_drawStreets_119 (lv_at hl 5 rfl) ?_
            refine lv_iload hx hb dX0_drawStreets_121 (lv_at hl 6 rfl) ?_
            refine lv_ishr hx hb dX0_drawStreets_123 ?_
            refine lv_topi (fun x56 ex56 => ?_)
            refine lv_iconst (v := 1) hx hb dX0_drawStreets_124 (by decide) ?_
            refine lv_iand hx hb dX0_drawStreets_125 ?_
            refine lv_topi (fun x57 ex57 => ?_)
            have bx57 : 0 ≤ x57.toInt ∧ x57.toInt ≤ (1 : Int) := by rw [ex57]; exact wk_and (by decide)
            refine lv_if_eq (tgt := 158) hx hb dX0_drawStreets_126 (by decide) (fun c58 => ?_) (fun c58 => ?_)
            · have c58 : x57.toInt = (0 : Int) := wk_eq.mp c58
              exact J158 r48 H locs ls w50 (show 0 ≤ a1.toInt from r7) (show a1.toInt ≤ 3 from t8) (show 0 ≤ v72_3.toInt from r9) (show v72_3.toInt ≤ 11 from t10) (show 0 ≤ v91_5.toInt from r11) (show v91_5.toInt ≤ 1 by first | with_reducible assumption | omega) (show 0 ≤ r48.toInt by first | with_reducible assumption | omega) (show r48.toInt ≤ 399 by first | with_reducible assumption | omega) (show 1 ≤ f91_39_9.toInt from r13) (show f91_39_9.toInt ≤ 12 from t14)  hw hT hF c55 (lv_sub hl [1, 2, 3, 4, 5, 6, 0] rfl)
            · have c58 : ¬ x57.toInt = (0 : Int) := wk_eqF c58
              refine lv_aload_n hx hb dX0_drawStreets_129 rfl (lv_at hl 3 rfl) ?_
              refine tk_getO hC hK hw hT hinX7 kC_at39 (by decide) rfl 1 (by decide) (List.mem_cons_of_mem _ uw_36_11) rfl rfl dX0_drawStreets_130 ?_
              refine lv_iload_n hx hb dX0_drawStreets_133 rfl (lv_at hl 4 rfl) ?_
              refine tk_iald hC hK hw hT kC_at41 rfl rfl (show 0 ≤ v72_3.toInt from r9) (show v72_3.toInt < 13 from Int.lt_of_le_of_lt t10 (by decide)) dX0_drawStreets_134 (fun x59 c60 rx59 tx59 => ?_)
              refine lv_aload_n hx hb dX0_drawStreets_135 rfl (lv_at hl 1 rfl) ?_
              refine tk_getA hC hK hw hT hinX0 kC_at145 (by decide) rfl 1 (by decide) (List.mem_cons_of_mem _ uw_4_14) rfl rfl dX0_drawStreets_136 ?_
              refine lv_iload hx hb dX0_drawStreets_139 (lv_at hl 0 rfl) ?_
              refine tk_iald hC hK hw hT kC_at146 rfl rfl (show 0 ≤ r48.toInt by first | with_reducible assumption | omega) (show r48.toInt < 1100 by first | with_reducible assumption | omega) dX0_drawStreets_141 (fun x61 c62 rx61 tx61 => ?_)
              refine lv_icmp_ge (tgt := 158) hx hb dX0_drawStreets_142 (by decide) (fun c63 => ?_) (fun c63 => ?_)
              · have c63 : x61.toInt ≤ x59.toInt := wk_le.mp c63
                exact J158 r48 H locs ls w50 (show 0 ≤ a1.toInt from r7) (show a1.toInt ≤ 3 from t8) (show 0 ≤ v72_3.toInt from r9) (show v72_3.toInt ≤ 11 from t10) (show 0 ≤ v91_5.toInt from r11) (show v91_5.toInt ≤ 1 by first | with_reducible assumption | omega) (show 0 ≤ r48.toInt by first | with_reducible assumption | omega) (show r48.toInt ≤ 399 by first | with_reducible assumption | omega) (show 1 ≤ f91_39_9.toInt from r13) (show f91_39_9.toInt ≤ 12 from t14)  hw hT hF c55 (lv_sub hl [1, 2, 3, 4, 5, 6, 0] rfl)
              · have c63 : x59.toInt < x61.toInt := wk_leF c63
                refine lv_aload_n hx hb dX0_drawStreets_145 rfl (lv_at hl 1 rfl) ?_
                refine tk_getA hC hK hw hT hinX0 kC_at145 (by decide) rfl 1 (by decide) (List.mem_cons_of_mem _ uw_4_14) rfl rfl dX0_drawStreets_146 ?_
                refine lv_iload hx hb dX0_drawStreets_149 (lv_at hl 0 rfl) ?_
                refine lv_aload_n hx hb dX0_drawStreets_151 rfl (lv_at hl 3 rfl) ?_
                refine tk_getO hC hK hw hT hinX7 kC_at39 (by decide) rfl 1 (by decide) (List.mem_cons_of_mem _ uw_36_11) rfl rfl dX0_drawStreets_152 ?_
                refine lv_iload_n hx hb dX0_drawStreets_155 rfl (lv_at hl 4 rfl) ?_
                refine tk_iald hC hK hw hT kC_at41 rfl rfl (show 0 ≤ v72_3.toInt from r9) (show v72_3.toInt < 13 from Int.lt_of_le_of_lt t10 (by decide)) dX0_drawStreets_156 (fun x64 c65 rx64 tx64 => ?_)
                refine tk_iast hC hK hw hT kC_at146 (by decide) rfl rfl (show 0 ≤ r48.toInt by first | with_reducible assumption | omega) (show r48.toInt < 1100 by first | with_reducible assumption | omega) (show 0 ≤ x64.toInt from rx64) (show x64.toInt ≤ 1000000 from Int.le_trans tx64 (by decide)) dX0_drawStreets_157 (fun H locs w66 hw hT k68 c67 => ?_)
                have hF := hF.put kC_at146 (inE_of (a := 0) (b := 1100) (by decide) (show 0 ≤ r48.toInt.toNat by omega) (show r48.toInt.toNat ≤ 1100 by omega)) k68
                have c69 := k68.gi (Or.inl (tk_ne kC_at39 kC_at146 (by decide))) c55
                exact J158 r48 H locs ls w66 (show 0 ≤ a1.toInt from r7) (show a1.toInt ≤ 3 from t8) (show 0 ≤ v72_3.toInt from r9) (show v72_3.toInt ≤ 11 from t10) (show 0 ≤ v91_5.toInt from r11) (show v91_5.toInt ≤ 1 by first | with_reducible assumption | omega) (show 0 ≤ r48.toInt by first | with_reducible assumption | omega) (show r48.toInt ≤ 399 by first | with_reducible assumption | omega) (show 1 ≤ f91_39_9.toInt from r13) (show f91_39_9.toInt ≤ 12 from t14)  hw hT hF c69 (lv_sub hl [1, 2, 3, 4, 5, 6, 0] rfl)
      refine lv_iload_n hx hb dX0_drawStreets_72 rfl (lv_at hl 3 rfl) ?_
      refine lv_aload_n hx hb dX0_drawStreets_73 rfl (lv_at hl 2 rfl) ?_
      refine tk_geti hC hK hw hT hinX7 kC_at39 (by decide) rfl 9 (by decide) (List.mem_cons_of_mem _ uw_36_10) rfl rfl dX0_drawStreets_74 (fun x70 c71 rx70 tx70 => ?_)
      refine lv_icmp_ge (tgt := 170) hx hb dX0_drawStreets_77 (by decide) (fun c72 => ?_) (fun c72 => ?_)
      · have c72 : x70.toInt ≤ v72_3.toInt := wk_le.mp c72
        exact tk_vret hC hr hlocks hK ⟨hT, hF, trivial⟩ hw dX0_drawStreets_170
      · have c72 : v72_3.toInt < x70.toInt := wk_leF c72
        refine lv_aload_n hx hb dX0_drawStreets_80 rfl (lv_at hl 0 rfl) ?_
        refine lv_iload_n hx hb dX0_drawStreets_81 rfl (lv_at hl 1 rfl) ?_
        refine lv_iload_n hx hb dX0_drawStreets_82 rfl (lv_at hl 3 rfl) ?_
        refine tk_Vi hC hK hw hT hA hE hSR kC_at145 (by decide) rfl (k_X0_signOf_1 l adK adV dC dI cy ad B hB0 (Int.le_trans hB1 (by decide)) qr s1   a1 (show 0 ≤ a1.toInt from r2) (show a1.toInt ≤ 3 from t3) v72_3 (show 0 ≤ v72_3.toInt from r4) (show v72_3.toInt ≤ 11 by first | with_reducible assumption | omega) w1 H.size hT ) (cwV 2 hC.2.2.2.2 uV_RX0_68 rfl rfl rfl (by decide +kernel) ⟨Nat.le_of_ble_eq_true rfl, Nat.le_of_ble_eq_true rfl⟩) rfl hl.1 rfl (Nat.le_of_ble_eq_true rfl) dX0_drawStreets_83 (fun r73 w75 H locs hp74 hw => ?_)
        obtain ⟨hT, k76, hg77⟩ := hp74
        have hF := hF.tr k76 (by decide)
        have c78 := k76.gi kC_at39 (by decide) c71
        clear hg77
        refine lv_istore (lv' := [(4, .int r73), (0, .ref (ad 145)), (1, .int a1), (2, .ref (ad 39)), (3, .int v72_3)]) hx hb dX0_drawStreets_86 hl (by decide) rfl (fun ls hl => ?_)
        refine lv_iconst (v := 0) hx hb dX0_drawStreets_88 (by decide) ?_
        refine lv_istore (lv' := [(5, .int 0), (4, .int r73), (0, .ref (ad 145)), (1, .int a1), (2, .ref (ad 39)), (3, .int v72_3)]) hx hb dX0_drawStreets_89 hl (by decide) rfl (fun ls hl => ?_)
        exact L91 ((2 - (0 : Int)).toNat + 1) r73 0 x70 H locs ls w75 (show 0 ≤ a1.toInt from r2) (show a1.toInt ≤ 3 from t3) (show 0 ≤ v72_3.toInt from r4) (show v72_3.toInt ≤ 11 by first | with_reducible assumption | omega) (by decide) (by decide) (show 1 ≤ x70.toInt by first | with_reducible assumption | omega) (show x70.toInt ≤ 12 from tx70) (Nat.lt_succ_self _) hw hT hF c78 (lv_sub hl [2, 3, 4, 5, 1, 0] rfl)
  have L2 : ∀ (n2 : Nat) (v2_2 : Int32) (H : Heap) (locs : List Loc) (ls : Array Slot) (w79 : va_W), 0 ≤ a1.toInt → a1.toInt ≤ 3 → 0 ≤ v2_2.toInt → v2_2.toInt ≤ 10 → (10 - v2_2.toInt).toNat < n2 → Wd dC dI A s.heap H locs w79 → TW ksC ad cy B qr s1 w79 → FE ksC [(42, 0, 1100), (43, 0, 1100)] w0 w79 → lv_has ls 7 [(0, .ref (ad 145)), (1, .int a1), (2, .int v2_2)] → W p l e ({ frames := 2, cells := 0, slots := 0, locals := 34 }) s m (List.toArray [.ref (ad 145), .int a1]) below meth c H locs 0 0 (MQ below (va_Qv (P_X0_drawStreets_1 ad cy B qr s1 a1 w0) (fun u : va_W => wpost dC dI cy A u) A) (List.toArray [.ref (ad 145), .int a1]) s 0 0 A) (F0 m 2 ls []) := by
    intro n2
    induction n2 with
    | zero => intro v2_2 H locs ls w79 r80 t81 r82 t83 hm2 hw hT hF hl; omega
    | succ n2 ih2 =>
      intro v2_2 H locs ls w79 r80 t81 r82 t83 hm2 hw hT hF hl
      have L10 : ∀ (n10 : Nat) (v10_3 : Int32) (H : Heap) (locs : List Loc) (ls : Array Slot) (w84 : va_W), 0 ≤ a1.toInt → a1.toInt ≤ 3 → 0 ≤ v2_2.toInt → v2_2.toInt ≤ 9 → 0 ≤ v10_3.toInt → v10_3.toInt ≤ 10 → (10 - v10_3.toInt).toNat < n10 → Wd dC dI A s.heap H locs w84 → TW ksC ad cy B qr s1 w84 → FE ksC [(42, 0, 1100), (43, 0, 1100)] w0 w84 → lv_has ls 7 [(0, .ref (ad 145)), (1, .int a1), (2, .int v2_2), (3, .int v10_3)] → W p l e ({ frames := 2, cells := 0, slots := 0, locals := 34 }) s m (List.toArray [.ref (ad 145), .int a1]) below meth c H locs 0 0 (MQ below (va_Qv (P_X0_drawStreets_1 ad cy B qr s1 a1 w0) (fun u : va_W => wpost dC dI cy A u) A) (List.toArray [.ref (ad 145), .int a1]) s 0 0 A) (F0 m 10 ls []) := by
        intro n10
        induction n10 with
        | zero => intro v10_3 H locs ls w84 r85 t86 r87 t88 r89 t90 hm10 hw hT hF hl; omega
        | succ n10 ih10 =>
          intro v10_3 H locs ls w84 r85 t86 r87 t88 r89 t90 hm10 hw hT hF hl
          refine lv_iload_n hx hb dX0_drawStreets_10 rfl (lv_at hl 3 rfl) ?_
          refine lv_bipush (v := 10) hx hb dX0_drawStreets_11 (by decide) ?_
          refine lv_icmp_ge (tgt := 56) hx hb dX0_drawStreets_13 (by decide) (fun c91 => ?_) (fun c91 => ?_)
          · have c91 : (10 : Int) ≤ v10_3.toInt := wk_le.mp c91
            obtain ⟨x92, ex92⟩ : ∃ y : Int32, y = v2_2 + Int32.ofInt 1 := ⟨_, rfl⟩
            refine lv_iinc (v := x92) (lv' := [(2, .int x92), (0, .ref (ad 145)), (1, .int a1), (3, .int v10_3)]) hx hb dX0_drawStreets_56 hl (k := 2) rfl ex92.symm (by decide) rfl (fun ls hl => ?_)
            have ex92 : x92.toInt = v2_2.toInt + 1 := by rw [ex92]; exact wk_add (y := 1) (show -2147483648 ≤ v2_2.toInt + 1 by omega) (show v2_2.toInt + 1 ≤ 2147483647 by omega)
            refine lv_goto (tgt := 2) hx hb dX0_drawStreets_59 (by decide) ?_
            exact ih2 x92 H locs ls w84 (show 0 ≤ a1.toInt from r85) (show a1.toInt ≤ 3 from t86) (show 0 ≤ x92.toInt by first | with_reducible assumption | omega) (show x92.toInt ≤ 10 by first | with_reducible assumption | omega) (show (10 - x92.toInt).toNat < n2 by first | exact tn_lt hm2 (by omega) (by omega) | omega) hw hT hF  (lv_sub hl [1, 2, 0] rfl)
          · have c91 : v10_3.toInt < (10 : Int) := wk_leF c91
            refine lv_aload_n hx hb dX0_drawStreets_16 rfl (lv_at hl 0 rfl) ?_
            refine tk_getA hC hK hw hT hinX0 kC_at145 (by decide) rfl 1 (by decide) (List.mem_cons_of_mem _ uw_4_14) rfl rfl dX0_drawStreets_17 ?_
            refine lv_iload_n hx hb dX0_drawStreets_20 rfl (lv_at hl 1 rfl) ?_
            refine lv_iload_n hx hb dX0_drawStreets_21 rfl (lv_at hl 2 rfl) ?_
            refine lv_iload_n hx hb dX0_drawStreets_22 rfl (lv_at hl 3 rfl) ?_
            refine tk_Si hC hK hw hT hA hE hSR (k_X0_spot_1 l adK adV dC dI cy ad B hB0 (Int.le_trans hB1 (by decide)) qr s1   a1 (show 0 ≤ a1.toInt from r85) (show a1.toInt ≤ 3 from t86) v2_2 (show 0 ≤ v2_2.toInt from r87) (show v2_2.toInt ≤ 9 from t88) v10_3 (show 0 ≤ v10_3.toInt from r89) (show v10_3.toInt ≤ 9 by first | with_reducible assumption | omega) w84 H.size hT ) (va_cwS 3 hC.2.2.2.2 uS_RX0_47 rfl rfl rfl (by decide +kernel) ⟨Nat.le_of_ble_eq_true rfl, Nat.le_of_ble_eq_true rfl⟩) rfl hl.1 rfl (Nat.le_of_ble_eq_true rfl) dX0_drawStreets_23 (fun r93 w95 H locs hp94 hw => ?_)
            obtain ⟨hT, k96, hg99⟩ := hp94
            have hF := hF.tr k96 (by decide)
            obtain ⟨g97, g98⟩ := hg99
            refine lv_iload_n hx hb dX0_drawStreets_26 rfl (lv_at hl 2 rfl) ?_
            refine lv_iload_n hx hb dX0_drawStreets_27 rfl (lv_at hl 3 rfl) ?_
            refine lv_icmp_ne (tgt := 35) hx hb dX0_drawStreets_28 (by decide) (fun c100 => ?_) (fun c100 => ?_)
            · have c100 : ¬ v2_2.toInt = v10_3.toInt := wk_eqF c100
              refine lv_ldc (v := 1000000) hx hb hC.2.2.2.1 (hC.2.2.2.2 _ (List.mem_cons_of_mem _ uw_36_8)) dX0_drawStreets_35 ?_
              refine tk_iast hC hK hw hT kC_at146 (by decide) rfl rfl (show 0 ≤ r93.toInt by first | with_reducible assumption | omega) (show r93.toInt < 1100 by first | with_reducible assumption | omega) (by decide) (by decide) dX0_drawStreets_37 (fun H locs w101 hw hT k103 c102 => ?_)
              have hF := hF.put kC_at146 (inE_of (a := 0) (b := 1100) (by decide) (show 0 ≤ r93.toInt.toNat by omega) (show r93.toInt.toNat ≤ 1100 by omega)) k103
              refine lv_aload_n hx hb dX0_drawStreets_38 rfl (lv_at hl 0 rfl) ?_
              refine tk_getA hC hK hw hT hinX0 kC_at145 (by decide) rfl 2 (by decide) (List.mem_cons_of_mem _ uw_4_15) rfl rfl dX0_drawStreets_39 ?_
              refine lv_iload_n hx hb dX0_drawStreets_42 rfl (lv_at hl 1 rfl) ?_
              refine lv_iload_n hx hb dX0_drawStreets_43 rfl (lv_at hl 2 rfl) ?_
              refine lv_iload_n hx hb dX0_drawStreets_44 rfl (lv_at hl 3 rfl) ?_
              refine tk_Si hC hK hw hT hA hE hSR (k_X0_spot_1 l adK adV dC dI cy ad B hB0 (Int.le_trans hB1 (by decide)) qr s1   a1 (show 0 ≤ a1.toInt from r85) (show a1.toInt ≤ 3 from t86) v2_2 (show 0 ≤ v2_2.toInt from r87) (show v2_2.toInt ≤ 9 from t88) v10_3 (show 0 ≤ v10_3.toInt from r89) (show v10_3.toInt ≤ 9 by first | with_reducible assumption | omega) w101 H.size hT ) (va_cwS 3 hC.2.2.2.2 uS_RX0_47 rfl rfl rfl (by decide +kernel) ⟨Nat.le_of_ble_eq_true rfl, Nat.le_of_ble_eq_true rfl⟩) rfl hl.1 rfl (Nat.le_of_ble_eq_true rfl) dX0_drawStreets_45 (fun r104 w106 H locs hp105 hw => ?_)
              obtain ⟨hT, k107, hg110⟩ := hp105
              have hF := hF.tr k107 (by decide)
              obtain ⟨g108, g109⟩ := hg110
              refine lv_iconst (v := (-1)) hx hb dX0_drawStreets_48 (by decide) ?_
              refine tk_iast hC hK hw hT kC_at147 (by decide) rfl rfl (show 0 ≤ r104.toInt by first | with_reducible assumption | omega) (show r104.toInt < 1100 by first | with_reducible assumption | omega) (by decide) (by decide) dX0_drawStreets_49 (fun H locs w111 hw hT k113 c112 => ?_)
              have hF := hF.put kC_at147 (inE_of (a := 0) (b := 1100) (by decide) (show 0 ≤ r104.toInt.toNat by omega) (show r104.toInt.toNat ≤ 1100 by omega)) k113
              obtain ⟨x114, ex114⟩ : ∃ y : Int32, y = v10_3 + Int32.ofInt 1 := ⟨_, rfl⟩
              refine lv_iinc (v := x114) (lv' := [(3, .int x114), (0, .ref (ad 145)), (1, .int a1), (2, .int v2_2)]) hx hb dX0_drawStreets_50 hl (k := 3) rfl ex114.symm (by decide) rfl (fun ls hl => ?_)
              have ex114 : x114.toInt = v10_3.toInt + 1 := by rw [ex114]; exact wk_add (y := 1) (show -2147483648 ≤ v10_3.toInt + 1 by omega) (show v10_3.toInt + 1 ≤ 2147483647 by omega)
              refine lv_goto (tgt := 10) hx hb dX0_drawStreets_53 (by decide) ?_
              exact ih10 x114 H locs ls w111 (show 0 ≤ a1.toInt from r85) (show a1.toInt ≤ 3 from t86) (show 0 ≤ v2_2.toInt from r87) (show v2_2.toInt ≤ 9 from t88) (show 0 ≤ x114.toInt by first | with_reducible assumption | omega) (show x114.toInt ≤ 10 by first | with_reducible assumption | omega) (show (10 - x114.toInt).toNat < n10 by first | exact tn_lt hm10 (by omega) (by omega) | omega) hw hT hF  (lv_sub hl [1, 2, 3, 0] rfl)
            · have c100 : v2_2.toInt = v10_3.toInt := wk_eq.mp c100
              refine lv_iconst (v := 0) hx hb dX0_drawStreets_31 (by decide) ?_
              refine lv_goto (tgt := 37) hx hb dX0_drawStreets_32 (by decide) ?_
              refine tk_iast hC hK hw hT kC_at146 (by decide) rfl rfl (show 0 ≤ r93.toInt by first | with_reducible assumption | omega) (show r93.toInt < 1100 by first | with_reducible assumption | omega) (by decide) (by decide) dX0_drawStreets_37 (fun H locs w115 hw hT k117 c116 => ?_)
              have hF := hF.put kC_at146 (inE_of (a := 0) (b := 1100) (by decide) (show 0 ≤ r93.toInt.toNat by omega) (show r93.toInt.toNat ≤ 1100 by omega)) k117
              refine lv_aload_n hx hb dX0_drawStreets_38 rfl (lv_at hl 0 rfl) ?_
              refine tk_getA hC hK hw hT hinX0 kC_at145 (by decide) rfl 2 (by decide) (List.mem_cons_of_mem _ uw_4_15) rfl rfl dX0_drawStreets_39 ?_
              refine lv_iload_n hx hb dX0_drawStreets_42 rfl (lv_at hl 1 rfl) ?_
              refine lv_iload_n hx hb dX0_drawStreets_43 rfl (lv_at hl 2 rfl) ?_
              refine lv_iload_n hx hb dX0_drawStreets_44 rfl (lv_at hl 3 rfl) ?_
              refine tk_Si hC hK hw hT hA hE hSR (k_X0_spot_1 l adK adV dC dI cy ad B hB0 (Int.le_trans hB1 (by decide)) qr s1   a1 (show 0 ≤ a1.toInt from r85) (show a1.toInt ≤ 3 from t86) v2_2 (show 0 ≤ v2_2.toInt from r87) (show v2_2.toInt ≤ 9 from t88) v10_3 (show 0 ≤ v10_3.toInt from r89) (show v10_3.toInt ≤ 9 by first | with_reducible assumption | omega) w115 H.size hT ) (va_cwS 3 hC.2.2.2.2 uS_RX0_47 rfl rfl rfl (by decide +kernel) ⟨Nat.le_of_ble_eq_true rfl, Nat.le_of_ble_eq_true rfl⟩) rfl hl.1 rfl (Nat.le_of_ble_eq_true rfl) dX0_drawStreets_45 (fun r118 w120 H locs hp119 hw => ?_)
              obtain ⟨hT, k121, hg124⟩ := hp119
              have hF := hF.tr k121 (by decide)
              obtain ⟨g122, g123⟩ := hg124
              refine lv_iconst (v := (-1)) hx hb dX0_drawStreets_48 (by decide) ?_
              refine tk_iast hC hK hw hT kC_at147 (by decide) rfl rfl (show 0 ≤ r118.toInt by first | with_reducible assumption | omega) (show r118.toInt < 1100 by first | with_reducible assumption | omega) (by decide) (by decide) dX0_drawStreets_49 (fun H locs w125 hw hT k127 c126 => ?_)
              have hF := hF.put kC_at147 (inE_of (a := 0) (b := 1100) (by decide) (show 0 ≤ r118.toInt.toNat by omega) (show r118.toInt.toNat ≤ 1100 by omega)) k127
              obtain ⟨x128, ex128⟩ : ∃ y : Int32, y = v10_3 + Int32.ofInt 1 := ⟨_, rfl⟩
              refine lv_iinc (v := x128) (lv' := [(3, .int x128), (0, .ref (ad 145)), (1, .int a1), (2, .int v2_2)]) hx hb dX0_drawStreets_50 hl (k := 3) rfl ex128.symm (by decide) rfl (fun ls hl => ?_)
              have ex128 : x128.toInt = v10_3.toInt + 1 := by rw [ex128]; exact wk_add (y := 1) (show -2147483648 ≤ v10_3.toInt + 1 by omega) (show v10_3.toInt + 1 ≤ 2147483647 by omega)
              refine lv_goto (tgt := 10) hx hb dX0_drawStreets_53 (by decide) ?_
              exact ih10 x128 H locs ls w125 (show 0 ≤ a1.toInt from r85) (show a1.toInt ≤ 3 from t86) (show 0 ≤ v2_2.toInt from r87) (show v2_2.toInt ≤ 9 from t88) (show 0 ≤ x128.toInt by first | with_reducible assumption | omega) (show x128.toInt ≤ 10 by first | with_reducible assumption | omega) (show (10 - x128.toInt).toNat < n10 by first | exact tn_lt hm10 (by omega) (by omega) | omega) hw hT hF  (lv_sub hl [1, 2, 3, 0] rfl)
      refine lv_iload_n hx hb dX0_drawStreets_2 rfl (lv_at hl 2 rfl) ?_
      refine lv_bipush (v := 10) hx hb dX0_drawStreets_3 (by decide) ?_
      refine lv_icmp_ge (tgt := 62) hx hb dX0_drawStreets_5 (by decide) (fun c129 => ?_) (fun c129 => ?_)
      · have c129 : (10 : Int) ≤ v2_2.toInt := wk_le.mp c129
        refine lv_aload_n hx hb dX0_drawStreets_62 rfl (lv_at hl 0 rfl) ?_
        refine tk_getA hC hK hw hT hinX0 kC_at145 (by decide) rfl 0 (by decide) (List.mem_cons_of_mem _ uw_4_17) rfl rfl dX0_drawStreets_63 ?_
        refine tk_getO hC hK hw hT hinX5 kC_at38 (by decide) rfl 0 (by decide) (List.mem_cons_of_mem _ uw_36_9) rfl rfl dX0_drawStreets_66 ?_
        refine lv_astore_n (lv' := [(2, .ref (ad 39)), (0, .ref (ad 145)), (1, .int a1)]) hx hb dX0_drawStreets_69 rfl hl (by decide) rfl (fun ls hl => ?_)
        refine lv_iconst (v := 0) hx hb dX0_drawStreets_70 (by decide) ?_
        refine lv_istore_n (lv' := [(3, .int 0), (2, .ref (ad 39)), (0, .ref (ad 145)), (1, .int a1)]) hx hb dX0_drawStreets_71 rfl hl (by decide) rfl (fun ls hl => ?_)
        exact L72 ((12 - (0 : Int)).toNat + 1) 0 H locs ls w79 (show 0 ≤ a1.toInt from r80) (show a1.toInt ≤ 3 from t81) (by decide) (by decide) (Nat.lt_succ_self _) hw hT hF  (lv_sub hl [2, 3, 1, 0] rfl)
      · have c129 : v2_2.toInt < (10 : Int) := wk_leF c129
        refine lv_iconst (v := 0) hx hb dX0_drawStreets_8 (by decide) ?_
        refine lv_istore_n (lv' := [(3, .int 0), (0, .ref (ad 145)), (1, .int a1), (2, .int v2_2)]) hx hb dX0_drawStreets_9 rfl hl (by decide) rfl (fun ls hl => ?_)
        exact L10 ((10 - (0 : Int)).toNat + 1) 0 H locs ls w79 (show 0 ≤ a1.toInt from r80) (show a1.toInt ≤ 3 from t81) (show 0 ≤ v2_2.toInt from r82) (show v2_2.toInt ≤ 9 by first | with_reducible assumption | omega) (by decide) (by decide) (Nat.lt_succ_self _) hw hT hF  (lv_sub hl [1, 2, 3, 0] rfl)
  refine lv_iconst (v := 0) hx hb dX0_drawStreets_0 (by decide) ?_
  refine lv_istore_n (lv' := [(2, .int 0), (0, .ref (ad 145)), (1, .int a1)]) hx hb dX0_drawStreets_1 rfl hl (by decide) rfl (fun ls hl => ?_)
  exact L2 ((10 - (0 : Int)).toNat + 1) 0 s.heap locs ls w0 (show 0 ≤ a1.toInt from ra1) (show a1.toInt ≤ 3 from ta1) (by decide) (by decide) (Nat.lt_succ_self _) hw hT hF  (lv_sub hl [1, 2, 0] rfl)
abbrev P_X0_drawHours_1 (ad : Nat → Nat) (cy : Nat → ClassId) (B : Int) (qr : Nat) (s1 : Int) (a1 : Int32) (w0 : va_W) : va_W → Prop := fun u => TW ksC ad cy B qr s1 u ∧ FE ksC [(42, 0, 1100)] w0 u ∧ ((True))
set_option maxHeartbeats 4000000 in
set_option maxRecDepth 100000 in
theorem k_X0_drawHours_1 (l : Launch) (adK adV : Nat → Nat) (dC : Nat → ClassId) (dI : Nat → Nat → Nat) (cy : Nat → ClassId) (ad : Nat → Nat) (B : Int) (hB0 : 2147483648 ≤ B) (hB1 : B ≤ 1152921504606846976) (qr : Nat) (s1 : Int)  (a1 : Int32) (ra1 : 0 ≤ a1.toInt) (ta1 : a1.toInt ≤ 3) (w0 : va_W) (sz : Nat) (hT : TW ksC ad cy B qr s1 w0)  : Met l yX0_drawHours (wu yX0_drawHours cX0_drawHours 9 none) ({ frames := 2, cells := 0, slots := 0, locals := 34 }) (va_Pc [.ref (ad 145), .int a1] (wpreS adK adV dC dI cy sz w0)) (va_Qv (P_X0_drawHours_1 ad cy B qr s1 a1 w0) (fun u : va_W => wpost dC dI cy (va_A w0 sz) u) (va_A w0 sz)) 0 0 (va_A w0 sz) := by
  refine Met.ofW (cc := cX0_drawHours) (maxL := 9) (ret := none) (by decide) rfl ?_
  intro p e s m args below meth c s₁ Bk hml hv
  obtain ⟨rfl, ⟨hsz, hP, hK, hD0⟩, hE, hSR⟩ := hv
  have hx := Bk.exec
  have hb := Bk.bytes
  have hr := Bk.returns
  have hlocks := Bk.notSynchronized
  have hC : CallFix p m c cX0_drawHours 9 s _ (wu yX0_drawHours cX0_drawHours 9 none) RX0 := ⟨hx, hb, hml, findClass_of_methodNamed Bk.named, atoms_spec (ws := (wu yX0_drawHours cX0_drawHours 9 none)) Bk.pre⟩
  subst hsz
  have hD := hD0.self (sz := s.heap.size)
  generalize hAe : va_A w0 s.heap.size = A at hD hE ⊢
  have hA : ∀ q : Nat, s.heap.size ≤ q → A q := fun q h => by rw [← hAe]; exact Or.inr h
  have hw : Wd dC dI A s.heap s.heap [] w0 := ⟨hP, hD, va_S.rf⟩
  have hF : FE ksC [(42, 0, 1100)] w0 w0 := FE.rf
  have hl := lv_entry ([.ref (ad 145), .int a1]) (n := 9) (Nat.le_of_ble_eq_true rfl)
  rw [lg_entry_eq]
  generalize (lg_sl ([.ref (ad 145), .int a1]) ++ List.replicate (9 - (lg_sl ([.ref (ad 145), .int a1])).length) Slot.unset).toArray = ls at hl ⊢
  have hl : lv_has ls 9 [(0, .ref (ad 145)), (1, .int a1)] := hl
  generalize hloc : ([] : List Loc) = locs at hw ⊢
  have hinX0 : ∀ w ∈ u_ws RX0 TX0 4, w ∈ (wu yX0_drawHours cX0_drawHours 9 none) := fun _ h => List.mem_cons_of_mem _ (up_77 h)
  have hinX5 : ∀ w ∈ u_ws RX5 TX5 14, w ∈ (wu yX0_drawHours cX0_drawHours 9 none) := fun _ h => List.mem_cons_of_mem _ (up_76 h)
  have hinX7 : ∀ w ∈ u_ws RX7 TX7 12, w ∈ (wu yX0_drawHours cX0_drawHours 9 none) := fun _ h => List.mem_cons_of_mem _ (up_73 h)
  have L13 : ∀ (n13 : Nat) (v13_2 : Int32) (v13_3 : Int32) (f13_39_8 : Int32) (H : Heap) (locs : List Loc) (ls : Array Slot) (w1 : va_W), 0 ≤ a1.toInt → a1.toInt ≤ 3 → (-1) ≤ v13_2.toInt → v13_2.toInt ≤ 10 → 0 ≤ v13_3.toInt → v13_3.toInt ≤ 10 → (-1) ≤ f13_39_8.toInt → f13_39_8.toInt ≤ 10 → (10 - v13_3.toInt).toNat < n13 → Wd dC dI A s.heap H locs w1 → TW ksC ad cy B qr s1 w1 → FE ksC [(42, 0, 1100)] w0 w1 → gi w1 39 8 = f13_39_8 → lv_has ls 9 [(0, .ref (ad 145)), (1, .int a1), (2, .int v13_2), (3, .int v13_3)] → W p l e ({ frames := 2, cells := 0, slots := 0, locals := 34 }) s m (List.toArray [.ref (ad 145), .int a1]) below meth c H locs 0 0 (MQ below (va_Qv (P_X0_drawHours_1 ad cy B qr s1 a1 w0) (fun u : va_W => wpost dC dI cy A u) A) (List.toArray [.ref (ad 145), .int a1]) s 0 0 A) (F0 m 13 ls []) := by
    intro n13
    induction n13 with
    | zero => intro v13_2 v13_3 f13_39_8 H locs ls w1 r2 t3 r4 t5 r6 t7 r8 t9 hm13 hw hT hF c10 hl; omega
    | succ n13 ih13 =>
      intro v13_2 v13_3 f13_39_8 H locs ls w1 r2 t3 r4 t5 r6 t7 r8 t9 hm13 hw hT hF c10 hl
      have L21 : ∀ (n21 : Nat) (v21_4 : Int32) (H : Heap) (locs : List Loc) (ls : Array Slot) (w11 : va_W), 0 ≤ a1.toInt → a1.toInt ≤ 3 → 1 ≤ v13_2.toInt → v13_2.toInt ≤ 10 → 0 ≤ v13_3.toInt → v13_3.toInt ≤ 9 → 0 ≤ v21_4.toInt → v21_4.toInt ≤ 10 → (-1) ≤ f13_39_8.toInt → f13_39_8.toInt ≤ 10 → (10 - v21_4.toInt).toNat < n21 → Wd dC dI A s.heap H locs w11 → TW ksC ad cy B qr s1 w11 → FE ksC [(42, 0, 1100)] w0 w11 → gi w11 39 8 = f13_39_8 → lv_has ls 9 [(0, .ref (ad 145)), (1, .int a1), (2, .int v13_2), (3, .int v13_3), (4, .int v21_4)] → W p l e ({ frames := 2, cells := 0, slots := 0, locals := 34 }) s m (List.toArray [.ref (ad 145), .int a1]) below meth c H locs 0 0 (MQ below (va_Qv (P_X0_drawHours_1 ad cy B qr s1 a1 w0) (fun u : va_W => wpost dC dI cy A u) A) (List.toArray [.ref (ad 145), .int a1]) s 0 0 A) (F0 m 21 ls []) := by
        intro n21
        induction n21 with
        | zero => intro v21_4 H locs ls w11 r12 t13 r14 t15 r16 t17 r18 t19 r20 t21 hm21 hw hT hF c22 hl; omega
        | succ n21 ih21 =>
          intro v21_4 H locs ls w11 r12 t13 r14 t15 r16 t17 r18 t19 r20 t21 hm21 hw hT hF c22 hl
          have J111 : ∀ (v111_5 : Int32) (v111_6 : Int32) (H : Heap) (locs : List Loc) (ls : Array Slot) (w23 : va_W), 0 ≤ a1.toInt → a1.toInt ≤ 3 → 1 ≤ v13_2.toInt → v13_2.toInt ≤ 10 → 0 ≤ v13_3.toInt → v13_3.toInt ≤ 9 → 0 ≤ v21_4.toInt → v21_4.toInt ≤ 9 → 0 ≤ v111_5.toInt → v111_5.toInt ≤ 1000000 → 0 ≤ v111_6.toInt → v111_6.toInt ≤ 10 → (-1) ≤ f13_39_8.toInt → f13_39_8.toInt ≤ 10 → Wd dC dI A s.heap H locs w23 → TW ksC ad cy B qr s1 w23 → FE ksC [(42, 0, 1100)] w0 w23 → gi w23 39 8 = f13_39_8 → lv_has ls 9 [(0, .ref (ad 145)), (1, .int a1), (2, .int v13_2), (3, .int v13_3), (4, .int v21_4), (5, .int v111_5), (6, .int v111_6)] → W p l e ({ frames := 2, cells := 0, slots := 0, locals := 34 }) s m (List.toArray [.ref (ad 145), .int a1]) below meth c H locs 0 0 (MQ below (va_Qv (P_X0_drawHours_1 ad cy B qr s1 a1 w0) (fun u : va_W => wpost dC dI cy A u) A) (List.toArray [.ref (ad 145), .int a1]) s 0 0 A) (F0 m 111 ls []) := by
            intro v111_5 v111_6 H locs ls w23 r24 t25 r26 t27 r28 t29 r30 t31 r32 t33 r34 t35 r36 t37 hw hT hF c38 hl
            obtain ⟨x39, ex39⟩ : ∃ y : Int32, y = v21_4 + Int32.ofInt 1 := ⟨_, rfl⟩
            refine lv_iinc (v := x39) (lv' := [(4, .int x39), (0, .ref (ad 145)), (1, .int a1), (2, .int v13_2), (3, .int v13_3), (5, .int v111_5), (6, .int v111_6)]) hx hb dX0_drawHours_111 hl (k := 4) rfl ex39.symm (by decide) rfl (fun ls hl => ?_)
            have ex39 : x39.toInt = v21_4.toInt + 1 := by rw [ex39]; exact wk_add (y := 1) (show -2147483648 ≤ v21_4.toInt + 1 by omega) (show v21_4.toInt + 1 ≤ 2147483647 by omega)
            refine lv_goto (tgt := 21) hx hb dX0_drawHours_114 (by decide) ?_
            exact ih21 x39 H locs ls w23 (show 0 ≤ a1.toInt from r24) (show a1.toInt ≤ 3 from t25) (show 1 ≤ v13_2.toInt from r26) (show v13_2.toInt ≤ 10 from t27) (show 0 ≤ v13_3.toInt from r28) (show v13_3.toInt ≤ 9 from t29) (show 0 ≤ x39.toInt by first | with_reducible assumption | omega) (show x39.toInt ≤ 10 by first | with_reducible assumption | omega) (show (-1) ≤ f13_39_8.toInt from r36) (show f13_39_8.toInt ≤ 10 from t37) (show (10 - x39.toInt).toNat < n21 by first | exact tn_lt hm21 (by omega) (by omega) | omega) hw hT hF c38 (lv_sub hl [1, 2, 3, 4, 0] rfl)
          have L44 : ∀ (n44 : Nat) (v44_5 : Int32) (v44_6 : Int32) (H : Heap) (locs : List Loc) (ls : Array Slot) (w40 : va_W), 0 ≤ a1.toInt → a1.toInt ≤ 3 → 1 ≤ v13_2.toInt → v13_2.toInt ≤ 10 → 0 ≤ v13_3.toInt → v13_3.toInt ≤ 9 → 0 ≤ v21_4.toInt → v21_4.toInt ≤ 9 → 0 ≤ v44_5.toInt → v44_5.toInt ≤ 1000000 → 0 ≤ v44_6.toInt → v44_6.toInt ≤ 10 → (-1) ≤ f13_39_8.toInt → f13_39_8.toInt ≤ 10 → (10 - v44_6.toInt).toNat < n44 → Wd dC dI A s.heap H locs w40 → TW ksC ad cy B qr s1 w40 → FE ksC [(42, 0, 1100)] w0 w40 → gi w40 39 8 = f13_39_8 → lv_has ls 9 [(0, .ref (ad 145)), (1, .int a1), (2, .int v13_2), (3, .int v13_3), (4, .int v21_4), (5, .int v44_5), (6, .int v44_6)] → W p l e ({ frames := 2, cells := 0, slots := 0, locals := 34 }) s m (List.toArray [.ref (ad 145), .int a1]) below meth c H locs 0 0 (MQ below (va_Qv (P_X0_drawHours_1 ad cy B qr s1 a1 w0) (fun u : va_W => wpost dC dI cy A u) A) (List.toArray [.ref (ad 145), .int a1]) s 0 0 A) (F0 m 44 ls []) := by
            intro n44
            induction n44 with
            | zero => intro v44_5 v44_6 H locs ls w40 r41 t42 r43 t44 r45 t46 r47 t48 r49 t50 r51 t52 r53 t54 hm44 hw hT hF c55 hl; omega
            | succ n44 ih44 =>
              intro v44_5 v44_6 H locs ls w40 r41 t42 r43 t44 r45 t46 r47 t48 r49 t50 r51 t52 r53 t54 hm44 hw hT hF c55 hl
              have J105 : ∀ (v105_7 : Int32) (v105_8 : Int32) (H : Heap) (locs : List Loc) (ls : Array Slot) (w56 : va_W), 0 ≤ a1.toInt → a1.toInt ≤ 3 → 1 ≤ v13_2.toInt → v13_2.toInt ≤ 10 → 0 ≤ v13_3.toInt → v13_3.toInt ≤ 9 → 0 ≤ v21_4.toInt → v21_4.toInt ≤ 9 → 0 ≤ v44_5.toInt → v44_5.toInt ≤ 999999 → 0 ≤ v44_6.toInt → v44_6.toInt ≤ 9 → 0 ≤ v105_7.toInt → v105_7.toInt ≤ 1999999 → 0 ≤ v105_8.toInt → v105_8.toInt ≤ 399 → (-1) ≤ f13_39_8.toInt → f13_39_8.toInt ≤ 10 → Wd dC dI A s.heap H locs w56 → TW ksC ad cy B qr s1 w56 → FE ksC [(42, 0, 1100)] w0 w56 → gi w56 39 8 = f13_39_8 → lv_has ls 9 [(0, .ref (ad 145)), (1, .int a1), (2, .int v13_2), (3, .int v13_3), (4, .int v21_4), (5, .int v44_5), (6, .int v44_6), (7, .int v105_7), (8, .int v105_8)] → W p l e ({ frames := 2, cells := 0, slots := 0, locals := 34 }) s m (List.toArray [.ref (ad 145), .int a1]) below meth c H locs 0 0 (MQ below (va_Qv (P_X0_drawHours_1 ad cy B qr s1 a1 w0) (fun u : va_W => wpost dC dI cy A u) A) (List.toArray [.ref (ad 145), .int a1]) s 0 0 A) (F0 m 105 ls []) := by
                intro v105_7 v105_8 H locs ls w56 r57 t58 r59 t60 r61 t62 r63 t64 r65 t66 r67 t68 r69 t70 r71 t72 r73 t74 hw hT hF c75 hl
                obtain ⟨x76, ex76⟩ : ∃ y : Int32, y = v44_6 + Int32.ofInt 1 := ⟨_, rfl⟩
                refine lv_iinc (v := x76) (lv' := [(6, .int x76), (0, .ref (ad 145)), (1, .int a1), (2, .int v13_2), (3, .int v13_3), (4, .int v21_4), (5, .int v44_5), (7, .int v105_7), (8, .int v105_8)]) hx hb dX0_drawHours_105 hl (k := 6) rfl ex76.symm (by decide) rfl (fun ls hl => ?_)
                have ex76 : x76.toInt = v44_6.toInt + 1 := by rw [ex76]; exact wk_add (y := 1) (show -2147483648 ≤ v44_6.toInt + 1 by omega) (show v44_6.toInt + 1 ≤ 2147483647 by omega)
                refine lv_goto (tgt := 44) hx hb dX0_drawHours_108 (by decide) ?_
                exact ih44 v44_5 x76 H locs ls w56 (show 0 ≤ a1.toInt from r57) (show a1.toInt ≤ 3 from t58) (show 1 ≤ v13_2.toInt from r59) (show v13_2.toInt ≤ 10 from t60) (show 0 ≤ v13_3.toInt from r61) (show v13_3.toInt ≤ 9 from t62) (show 0 ≤ v21_4.toInt from r63) (show v21_4.toInt ≤ 9 from t64) (show 0 ≤ v44_5.toInt from r65) (show v44_5.toInt ≤ 1000000 from t50) (show 0 ≤ x76.toInt by first | with_reducible assumption | omega) (show x76.toInt ≤ 10 by first | with_reducible assumption | omega) (show (-1) ≤ f13_39_8.toInt from r73) (show f13_39_8.toInt ≤ 10 from t74) (show (10 - x76.toInt).toNat < n44 by first | exact tn_lt hm44 (by omega) (by omega) | omega) hw hT hF c75 (lv_sub hl [1, 2, 3, 4, 5, 6, 0] rfl)
              refine lv_iload hx hb dX0_drawHours_44 (lv_at hl 5 rfl) ?_
              refine lv_ldc (v := 1000000) hx hb hC.2.2.2.1 (hC.2.2.2.2 _ (List.mem_cons_of_mem _ uw_36_8)) dX0_drawHours_46 ?_
              refine lv_icmp_ge (tgt := 111) hx hb dX0_drawHours_48 (by decide) (fun c77 => ?_) (fun c77 => ?_)
              · have c77 : (1000000 : Int) ≤ v44_5.toInt := wk_le.mp c77
                exact J111 v44_5 v44_6 H locs ls w40 (show 0 ≤ a1.toInt from r41) (show a1.toInt ≤ 3 from t42) (show 1 ≤ v13_2.toInt from r43) (show v13_2.toInt ≤ 10 from t44) (show 0 ≤ v13_3.toInt from r45) (show v13_3.toInt ≤ 9 from t46) (show 0 ≤ v21_4.toInt from r47) (show v21_4.toInt ≤ 9 from t48) (show 0 ≤ v44_5.toInt from r49) (show v44_5.toInt ≤ 1000000 from t50) (show 0 ≤ v44_6.toInt from r51) (show v44_6.toInt ≤ 10 from t52) (show (-1) ≤ f13_39_8.toInt from r53) (show f13_39_8.toInt ≤ 10 from t54)  hw hT hF c55 (lv_sub hl [0, 1, 2, 3, 4, 5, 6] rfl)
              · have c77 : v44_5.toInt < (1000000 : Int) := wk_leF c77
                refine lv_iload hx hb dX0_drawHours_51 (lv_at hl 6 rfl) ?_
                refine lv_iload_n hx hb dX0_drawHours_53 rfl (lv_at hl 2 rfl) ?_
                refine lv_icmp_ge (tgt := 111) hx hb dX0_drawHours_54 (by decide) (fun c78 => ?_) (fun c78 => ?_)
                · have c78 : v13_2.toInt ≤ v44_6.toInt := wk_le.mp c78
                  exact J111 v44_5 v44_6 H locs ls w40 (show 0 ≤ a1.toInt from r41) (show a1.toInt ≤ 3 from t42) (show 1 ≤ v13_2.toInt from r43) (show v13_2.toInt ≤ 10 from t44) (show 0 ≤ v13_3.toInt from r45) (show v13_3.toInt ≤ 9 from t46) (show 0 ≤ v21_4.toInt from r47) (show v21_4.toInt ≤ 9 from t48) (show 0 ≤ v44_5.toInt from r49) (show v44_5.toInt ≤ 1000000 from t50) (show 0 ≤ v44_6.toInt from r51) (show v44_6.toInt ≤ 10 from t52) (show (-1) ≤ f13_39_8.toInt from r53) (show f13_39_8.toInt ≤ 10 from t54)  hw hT hF c55 (lv_sub hl [0, 1, 2, 3, 4, 5, 6] rfl)
                · have c78 : v44_6.toInt < v13_2.toInt := wk_leF c78
                  refine lv_iload hx hb dX0_drawHours_57 (lv_at hl 5 rfl) ?_
                  refine lv_aload_n hx hb dX0_drawHours_59 rfl (lv_at hl 0 rfl) ?_
                  refine tk_getA hC hK hw hT hinX0 kC_at145 (by decide) rfl 1 (by decide) (List.mem_cons_of_mem _ uw_4_14) rfl rfl dX0_drawHours_60 ?_
                  refine lv_iload_n hx hb dX0_drawHours_63 rfl (lv_at hl 1 rfl) ?_
                  refine lv_iload_n hx hb dX0_drawHours_64 rfl (lv_at hl 3 rfl) ?_
                  refine lv_iload hx hb dX0_drawHours_65 (lv_at hl 6 rfl) ?_
                  refine tk_Si hC hK hw hT hA hE hSR (k_X0_spot_1 l adK adV dC dI cy ad B hB0 (Int.le_trans hB1 (by decide)) qr s1   a1 (show 0 ≤ a1.toInt from r41) (show a1.toInt ≤ 3 from t42) v13_3 (show 0 ≤ v13_3.toInt from r45) (show v13_3.toInt ≤ 9 from t46) v44_6 (show 0 ≤ v44_6.toInt from r51) (show v44_6.toInt ≤ 9 by first | with_reducible assumption | omega) w40 H.size hT ) (va_cwS 3 hC.2.2.2.2 uS_RX0_47 rfl rfl rfl (by decide +kernel) ⟨Nat.le_of_ble_eq_true rfl, Nat.le_of_ble_eq_true rfl⟩) rfl hl.1 rfl (Nat.le_of_ble_eq_true rfl) dX0_drawHours_67 (fun r79 w81 H locs hp80 hw => ?_)
                  obtain ⟨hT, k82, hg85⟩ := hp80
                  have hF := hF.tr k82 (by decide)
                  have c86 := k82.gi kC_at39 (by decide) c55
                  obtain ⟨g83, g84⟩ := hg85
                  refine tk_iald hC hK hw hT kC_at146 rfl rfl (show 0 ≤ r79.toInt by first | with_reducible assumption | omega) (show r79.toInt < 1100 by first | with_reducible assumption | omega) dX0_drawHours_70 (fun x87 c88 rx87 tx87 => ?_)
                  refine lv_iadd hx hb dX0_drawHours_71 ?_
                  refine lv_topi (fun x89 ex89 => ?_)
                  have ex89 : x89.toInt = v44_5.toInt + x87.toInt := by rw [ex89]; exact wk_add (show (-2147483648) ≤ v44_5.toInt + x87.toInt by omega) (show v44_5.toInt + x87.toInt ≤ 2147483647 by omega)
                  refine lv_istore (lv' := [(7, .int x89), (0, .ref (ad 145)), (1, .int a1), (2, .int v13_2), (3, .int v13_3), (4, .int v21_4), (5, .int v44_5), (6, .int v44_6)]) hx hb dX0_drawHours_72 hl (by decide) rfl (fun ls hl => ?_)
                  refine lv_iload_n hx hb dX0_drawHours_74 rfl (lv_at hl 2 rfl) ?_
                  refine lv_iload hx hb dX0_drawHours_75 (lv_at hl 5 rfl) ?_
                  refine lv_iload hx hb dX0_drawHours_77 (lv_at hl 7 rfl) ?_
                  refine tk_Si hC hK hw hT hA hE hSR (k_X0_spot_1 l adK adV dC dI cy ad B hB0 (Int.le_trans hB1 (by decide)) qr s1   a1 (show 0 ≤ a1.toInt from r41) (show a1.toInt ≤ 3 from t42) v21_4 (show 0 ≤ v21_4.toInt from r47) (show v21_4.toInt ≤ 9 from t48) v44_6 (show 0 ≤ v44_6.toInt from r51) (show v44_6.toInt ≤ 9 by first | with_reducible assumption | omega) w81 H.size hT ) (va_cwS 3 hC.2.2.2.2 uS_RX0_47 rfl rfl rfl (by decide +kernel) ⟨Nat.le_of_ble_eq_true rfl, Nat.le_of_ble_eq_true rfl⟩) rfl hl.1 rfl (Nat.le_of_ble_eq_true rfl) dX0_drawHours_79 (fun r90 w92 H locs hp91 hw => ?_)
                  obtain ⟨hT, k93, hg96⟩ := hp91
                  have hF := hF.tr k93 (by decide)
                  have c97 := k93.gi kC_at39 (by decide) c86
                  obtain ⟨g94, g95⟩ := hg96
                  refine lv_istore (lv' := [(8, .int r90), (7, .int x89), (0, .ref (ad 145)), (1, .int a1), (2, .int v13_2), (3, .int v13_3), (4, .int v21_4), (5, .int v44_5), (6, .int v44_6)]) hx hb dX0_drawHours_82 hl (by decide) rfl (fun ls hl => ?_)
                  refine lv_iload hx hb dX0_drawHours_84 (lv_at hl 1 rfl) ?_
                  refine lv_aload_n hx hb dX0_drawHours_86 rfl (lv_at hl 2 rfl) ?_
                  refine tk_getA hC hK hw hT hinX0 kC_at145 (by decide) rfl 1 (by decide) (List.mem_cons_of_mem _ uw_4_14) rfl rfl dX0_drawHours_87 ?_
                  refine lv_iload hx hb dX0_drawHours_90 (lv_at hl 0 rfl) ?_
                  refine tk_iald hC hK hw hT kC_at146 rfl rfl (show 0 ≤ r90.toInt by first | with_reducible assumption | omega) (show r90.toInt < 1100 by first | with_reducible assumption | omega) dX0_drawHours_92 (fun x98 c99 rx98 tx98 => ?_)
                  refine lv_icmp_ge (tgt := 105) hx hb dX0_drawHours_93 (by decide) (fun c100 => ?_) (fun c100 => ?_)
                  · have c100 : x98.toInt ≤ x89.toInt := wk_le.mp c100
                    exact J105 x89 r90 H locs ls w92 (show 0 ≤ a1.toInt from r41) (show a1.toInt ≤ 3 from t42) (show 1 ≤ v13_2.toInt from r43) (show v13_2.toInt ≤ 10 from t44) (show 0 ≤ v13_3.toInt from r45) (show v13_3.toInt ≤ 9 from t46) (show 0 ≤ v21_4.toInt from r47) (show v21_4.toInt ≤ 9 from t48) (show 0 ≤ v44_5.toInt from r49) (show v44_5.toInt ≤ 999999 by first | with_reducible assumption | omega) (show 0 ≤ v44_6.toInt from r51) (show v44_6.toInt ≤ 9 by first | with_reducible assumption | omega) (show 0 ≤ x89.toInt by first | with_reducible assumption | omega) (show x89.toInt ≤ 1999999 by first | with_reducible assumption | omega) (show 0 ≤ r90.toInt by first | with_reducible assumption | omega) (show r90.toInt ≤ 399 by first | with_reducible assumption | omega) (show (-1) ≤ f13_39_8.toInt from r53) (show f13_39_8.toInt ≤ 10 from t54)  hw hT hF c97 (lv_sub hl [2, 3, 4, 5, 6, 7, 8, 1, 0] rfl)
                  · have c100 : x89.toInt < x98.toInt := wk_leF c100
                    refine lv_aload_n hx hb dX0_drawHours_96 rfl (lv_at hl 2 rfl) ?_
                    refine tk_getA hC hK hw hT hinX0 kC_at145 (by decide) rfl 1 (by decide) (List.mem_cons_of_mem _ uw_4_14) rfl rfl dX0_drawHours_97 ?_
                    refine lv_iload hx hb dX0_drawHours_100 (lv_at hl 0 rfl) ?_
                    refine lv_iload hx hb dX0_drawHours_102 (lv_at hl 1 rfl) ?_
                    refine tk_iast hC hK hw hT kC_at146 (by decide) rfl rfl (show 0 ≤ r90.toInt by first | with_reducible assumption | omega) (show r90.toInt < 1100 by first | with_reducible assumption | omega) (show 0 ≤ x89.toInt by first | with_reducible assumption | omega) (show x89.toInt ≤ 1000000 by first | with_reducible assumption | omega) dX0_drawHours_104 (fun H locs w101 hw hT k103 c102 => ?_)
                    have hF := hF.put kC_at146 (inE_of (a := 0) (b := 1100) (by decide) (show 0 ≤ r90.toInt.toNat by omega) (show r90.toInt.toNat ≤ 1100 by omega)) k103
                    have c104 := k103.gi (Or.inl (tk_ne kC_at39 kC_at146 (by decide))) c97
                    exact J105 x89 r90 H locs ls w101 (show 0 ≤ a1.toInt from r41) (show a1.toInt ≤ 3 from t42) (show 1 ≤ v13_2.toInt from r43) (show v13_2.toInt ≤ 10 from t44) (show 0 ≤ v13_3.toInt from r45) (show v13_3.toInt ≤ 9 from t46) (show 0 ≤ v21_4.toInt from r47) (show v21_4.toInt ≤ 9 from t48) (show 0 ≤ v44_5.toInt from r49) (show v44_5.toInt ≤ 999999 by first | with_reducible assumption | omega) (show 0 ≤ v44_6.toInt from r51) (show v44_6.toInt ≤ 9 by first | with_reducible assumption | omega) (show 0 ≤ x89.toInt by first | with_reducible assumption | omega) (show x89.toInt ≤ 1999999 by first | with_reducible assumption | omega) (show 0 ≤ r90.toInt by first | with_reducible assumption | omega) (show r90.toInt ≤ 399 by first | with_reducible assumption | omega) (show (-1) ≤ f13_39_8.toInt from r53) (show f13_39_8.toInt ≤ 10 from t54)  hw hT hF c104 (lv_sub hl [2, 3, 4, 5, 6, 7, 8, 1, 0] rfl)
          refine lv_iload hx hb dX0_drawHours_21 (lv_at hl 4 rfl) ?_
          refine lv_iload_n hx hb dX0_drawHours_23 rfl (lv_at hl 2 rfl) ?_
          refine lv_icmp_ge (tgt := 117) hx hb dX0_drawHours_24 (by decide) (fun c105 => ?_) (fun c105 => ?_)
          · have c105 : v13_2.toInt ≤ v21_4.toInt := wk_le.mp c105
            obtain ⟨x106, ex106⟩ : ∃ y : Int32, y = v13_3 + Int32.ofInt 1 := ⟨_, rfl⟩
            refine lv_iinc (v := x106) (lv' := [(3, .int x106), (0, .ref (ad 145)), (1, .int a1), (2, .int v13_2), (4, .int v21_4)]) hx hb dX0_drawHours_117 hl (k := 3) rfl ex106.symm (by decide) rfl (fun ls hl => ?_)
            have ex106 : x106.toInt = v13_3.toInt + 1 := by rw [ex106]; exact wk_add (y := 1) (show -2147483648 ≤ v13_3.toInt + 1 by omega) (show v13_3.toInt + 1 ≤ 2147483647 by omega)
            refine lv_goto (tgt := 13) hx hb dX0_drawHours_120 (by decide) ?_
            exact ih13 v13_2 x106 f13_39_8 H locs ls w11 (show 0 ≤ a1.toInt from r12) (show a1.toInt ≤ 3 from t13) (show (-1) ≤ v13_2.toInt from r4) (show v13_2.toInt ≤ 10 from t15) (show 0 ≤ x106.toInt by first | with_reducible assumption | omega) (show x106.toInt ≤ 10 by first | with_reducible assumption | omega) (show (-1) ≤ f13_39_8.toInt from r20) (show f13_39_8.toInt ≤ 10 from t21) (show (10 - x106.toInt).toNat < n13 by first | exact tn_lt hm13 (by omega) (by omega) | omega) hw hT hF c22 (lv_sub hl [1, 2, 3, 0] rfl)
          · have c105 : v21_4.toInt < v13_2.toInt := wk_leF c105
            refine lv_aload_n hx hb dX0_drawHours_27 rfl (lv_at hl 0 rfl) ?_
            refine tk_getA hC hK hw hT hinX0 kC_at145 (by decide) rfl 1 (by decide) (List.mem_cons_of_mem _ uw_4_14) rfl rfl dX0_drawHours_28 ?_
            refine lv_iload_n hx hb dX0_drawHours_31 rfl (lv_at hl 1 rfl) ?_
            refine lv_iload hx hb dX0_drawHours_32 (lv_at hl 4 rfl) ?_
            refine lv_iload_n hx hb dX0_drawHours_34 rfl (lv_at hl 3 rfl) ?_
            refine tk_Si hC hK hw hT hA hE hSR (k_X0_spot_1 l adK adV dC dI cy ad B hB0 (Int.le_trans hB1 (by decide)) qr s1   a1 (show 0 ≤ a1.toInt from r12) (show a1.toInt ≤ 3 from t13) v21_4 (show 0 ≤ v21_4.toInt from r18) (show v21_4.toInt ≤ 9 by first | with_reducible assumption | omega) v13_3 (show 0 ≤ v13_3.toInt from r16) (show v13_3.toInt ≤ 9 from t17) w11 H.size hT ) (va_cwS 3 hC.2.2.2.2 uS_RX0_47 rfl rfl rfl (by decide +kernel) ⟨Nat.le_of_ble_eq_true rfl, Nat.le_of_ble_eq_true rfl⟩) rfl hl.1 rfl (Nat.le_of_ble_eq_true rfl) dX0_drawHours_35 (fun r107 w109 H locs hp108 hw => ?_)
            obtain ⟨hT, k110, hg113⟩ := hp108
            have hF := hF.tr k110 (by decide)
            have c114 := k110.gi kC_at39 (by decide) c22
            obtain ⟨g111, g112⟩ := hg113
            refine tk_iald hC hK hw hT kC_at146 rfl rfl (show 0 ≤ r107.toInt by first | with_reducible assumption | omega) (show r107.toInt < 1100 by first | with_reducible assumption | omega) dX0_drawHours_38 (fun x115 c116 rx115 tx115 => ?_)
            refine lv_istore (lv' := [(5, .int x115), (0, .ref (ad 145)), (1, .int a1), (2, .int v13_2), (3, .int v13_3), (4, .int v21_4)]) hx hb dX0_drawHours_39 hl (by decide) rfl (fun ls hl => ?_)
            refine lv_iconst (v := 0) hx hb dX0_drawHours_41 (by decide) ?_
            refine lv_istore (lv' := [(6, .int 0), (5, .int x115), (0, .ref (ad 145)), (1, .int a1), (2, .int v13_2), (3, .int v13_3), (4, .int v21_4)]) hx hb dX0_drawHours_42 hl (by decide) rfl (fun ls hl => ?_)
            exact L44 ((10 - (0 : Int)).toNat + 1) x115 0 H locs ls w109 (show 0 ≤ a1.toInt from r12) (show a1.toInt ≤ 3 from t13) (show 1 ≤ v13_2.toInt from r14) (show v13_2.toInt ≤ 10 from t15) (show 0 ≤ v13_3.toInt from r16) (show v13_3.toInt ≤ 9 from t17) (show 0 ≤ v21_4.toInt from r18) (show v21_4.toInt ≤ 9 by first | with_reducible assumption | omega) (show 0 ≤ x115.toInt from rx115) (show x115.toInt ≤ 1000000 from tx115) (by decide) (by decide) (show (-1) ≤ f13_39_8.toInt from r20) (show f13_39_8.toInt ≤ 10 from t21) (Nat.lt_succ_self _) hw hT hF c114 (lv_sub hl [2, 3, 4, 5, 6, 1, 0] rfl)
      refine lv_iload_n hx hb dX0_drawHours_13 rfl (lv_at hl 3 rfl) ?_
      refine lv_iload_n hx hb dX0_drawHours_14 rfl (lv_at hl 2 rfl) ?_
      refine lv_icmp_ge (tgt := 123) hx hb dX0_drawHours_15 (by decide) (fun c117 => ?_) (fun c117 => ?_)
      · have c117 : v13_2.toInt ≤ v13_3.toInt := wk_le.mp c117
        exact tk_vret hC hr hlocks hK ⟨hT, hF, trivial⟩ hw dX0_drawHours_123
      · have c117 : v13_3.toInt < v13_2.toInt := wk_leF c117
        refine lv_iconst (v := 0) hx hb dX0_drawHours_18 (by decide) ?_
        refine lv_istore (lv' := [(4, .int 0), (0, .ref (ad 145)), (1, .int a1), (2, .int v13_2), (3, .int v13_3)]) hx hb dX0_drawHours_19 hl (by decide) rfl (fun ls hl => ?_)
        exact L21 ((10 - (0 : Int)).toNat + 1) 0 H locs ls w1 (show 0 ≤ a1.toInt from r2) (show a1.toInt ≤ 3 from t3) (show 1 ≤ v13_2.toInt by first | with_reducible assumption | omega) (show v13_2.toInt ≤ 10 from t5) (show 0 ≤ v13_3.toInt from r6) (show v13_3.toInt ≤ 9 by first | with_reducible assumption | omega) (by decide) (by decide) (show (-1) ≤ f13_39_8.toInt from r8) (show f13_39_8.toInt ≤ 10 from t9) (Nat.lt_succ_self _) hw hT hF c10 (lv_sub hl [1, 2, 3, 4, 0] rfl)
  refine lv_aload_n hx hb dX0_drawHours_0 rfl (lv_at hl 0 rfl) ?_
  refine tk_getA hC hK hw hT hinX0 kC_at145 (by decide) rfl 0 (by decide) (List.mem_cons_of_mem _ uw_4_17) rfl rfl dX0_drawHours_1 ?_
  refine tk_getO hC hK hw hT hinX5 kC_at38 (by decide) rfl 0 (by decide) (List.mem_cons_of_mem _ uw_36_9) rfl rfl dX0_drawHours_4 ?_
  refine tk_geti hC hK hw hT hinX7 kC_at39 (by decide) rfl 8 (by decide) (List.mem_cons_of_mem _ uw_37_5) rfl rfl dX0_drawHours_7 (fun x118 c119 rx118 tx118 => ?_)
  refine lv_istore_n (lv' := [(2, .int x118), (0, .ref (ad 145)), (1, .int a1)]) hx hb dX0_drawHours_10 rfl hl (by decide) rfl (fun ls hl => ?_)
  refine lv_iconst (v := 0) hx hb dX0_drawHours_11 (by decide) ?_
  refine lv_istore_n (lv' := [(3, .int 0), (2, .int x118), (0, .ref (ad 145)), (1, .int a1)]) hx hb dX0_drawHours_12 rfl hl (by decide) rfl (fun ls hl => ?_)
  exact L13 ((10 - (0 : Int)).toNat + 1) x118 0 x118 s.heap locs ls w0 (show 0 ≤ a1.toInt from ra1) (show a1.toInt ≤ 3 from ta1) (show (-1) ≤ x118.toInt from rx118) (show x118.toInt ≤ 10 from tx118) (by decide) (by decide) (show (-1) ≤ x118.toInt from rx118) (show x118.toInt ≤ 10 from tx118) (Nat.lt_succ_self _) hw hT hF c119 (lv_sub hl [2, 3, 1, 0] rfl)
