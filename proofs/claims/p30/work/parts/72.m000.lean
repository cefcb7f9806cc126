abbrev P_X7_hasStreet_1 (ad : Nat → Nat) (cy : Nat → ClassId) (B : Int) (qr : Nat) (s1 : Int) (a1 : Int32) (w0 : va_W) : Int32 → va_W → Prop := fun r u => TW ksC ad cy B qr s1 u ∧ FE ksC ([] : List (Nat × Nat × Nat)) w0 u ∧ ((r = 0) ∨ (r = 1 ∧ 0 ≤ a1.toInt ∧ a1.toInt ≤ 11 ∧ (∃ y : Int32, gi u 39 9 = y ∧ 1 ≤ y.toInt ∧ y.toInt ≤ 12)))
set_option maxHeartbeats 4000000 in
set_option maxRecDepth 100000 in
theorem k_X7_hasStreet_1 (l : Launch) (adK adV : Nat → Nat) (dC : Nat → ClassId) (dI : Nat → Nat → Nat) (cy : Nat → ClassId) (ad : Nat → Nat) (B : Int) (hB0 : 2147483648 ≤ B) (hB1 : B ≤ 1152921504606846976) (qr : Nat) (s1 : Int)  (a1 : Int32) (w0 : va_W) (sz : Nat) (hT : TW ksC ad cy B qr s1 w0)  : Met l yX7_hasStreet (wu yX7_hasStreet cX7_hasStreet 2 (some .boolean)) ({ frames := 1, cells := 0, slots := 0, locals := 12 }) (va_Pc [.ref (ad 39), .int a1] (wpreS adK adV dC dI cy sz w0)) (va_Qi (P_X7_hasStreet_1 ad cy B qr s1 a1 w0) (fun u : va_W => wpost dC dI cy (va_A w0 sz) u) (va_A w0 sz)) 0 0 (va_A w0 sz) := by
  refine Met.ofW (cc := cX7_hasStreet) (maxL := 2) (ret := (some .boolean)) (by decide) rfl ?_
  intro p e s m args below meth c s₁ Bk hml hv
  obtain ⟨rfl, ⟨hsz, hP, hK, hD0⟩, hE, hSR⟩ := hv
  have hx := Bk.exec
  have hb := Bk.bytes
  have hr := Bk.returns
  have hlocks := Bk.notSynchronized
  have hC : CallFix p m c cX7_hasStreet 2 s _ (wu yX7_hasStreet cX7_hasStreet 2 (some .boolean)) RX7 := ⟨hx, hb, hml, findClass_of_methodNamed Bk.named, atoms_spec (ws := (wu yX7_hasStreet cX7_hasStreet 2 (some .boolean))) Bk.pre⟩
  subst hsz
  have hD := hD0.self (sz := s.heap.size)
  generalize hAe : va_A w0 s.heap.size = A at hD hE ⊢
  have hA : ∀ q : Nat, s.heap.size ≤ q → A q := fun q h => by rw [← hAe]; exact Or.inr h
  have hw : Wd dC dI A s.heap s.heap [] w0 := ⟨hP, hD, va_S.rf⟩
  have hF : FE ksC ([] : List (Nat × Nat × Nat)) w0 w0 := FE.rf
  have hl := lv_entry ([.ref (ad 39), .int a1]) (n := 2) (Nat.le_of_ble_eq_true rfl)
  rw [lg_entry_eq]
  generalize (lg_sl ([.ref (ad 39), .int a1]) ++ List.replicate (2 - (lg_sl ([.ref (ad 39), .int a1])).length) Slot.unset).toArray = ls at hl ⊢
  have hl : lv_has ls 2 [(0, .ref (ad 39)), (1, .int a1)] := hl
  generalize hloc : ([] : List Loc) = locs at hw ⊢
  have hinX7 : ∀ w ∈ u_ws RX7 TX7 12, w ∈ (wu yX7_hasStreet cX7_hasStreet 2 (some .boolean)) := fun _ h => List.mem_cons_of_mem _ (up_73 h)
  have J16 : ∀ (H : Heap) (locs : List Loc) (ls : Array Slot) (w1 : va_W), Wd dC dI A s.heap H locs w1 → TW ksC ad cy B qr s1 w1 → FE ksC ([] : List (Nat × Nat × Nat)) w0 w1 → lv_has ls 2 [(0, .ref (ad 39)), (1, .int a1)] → W p l e ({ frames := 1, cells := 0, slots := 0, locals := 12 }) s m (List.toArray [.ref (ad 39), .int a1]) below meth c H locs 0 0 (MQ below (va_Qi (P_X7_hasStreet_1 ad cy B qr s1 a1 w0) (fun u : va_W => wpost dC dI cy A u) A) (List.toArray [.ref (ad 39), .int a1]) s 0 0 A) (F0 m 16 ls []) := by
    intro H locs ls w1 hw hT hF hl
    refine lv_iconst (v := 0) hx hb dX7_hasStreet_16 (by decide) ?_
    exact tk_zret hC hr rfl hlocks hK ⟨hT, hF, (Or.inl rfl)⟩ hw dX7_hasStreet_17
  refine lv_iload_n hx hb dX7_hasStreet_0 rfl (lv_at hl 1 rfl) ?_
  refine lv_if_lt (tgt := 16) hx hb dX7_hasStreet_1 (by decide) (fun c2 => ?_) (fun c2 => ?_)
  · have c2 : a1.toInt < (0 : Int) := wk_lt.mp c2
    exact J16  s.heap locs ls w0   hw hT hF  (lv_sub hl [0, 1] rfl)
  · have c2 : (0 : Int) ≤ a1.toInt := wk_ltF c2
    refine lv_iload_n hx hb dX7_hasStreet_4 rfl (lv_at hl 1 rfl) ?_
    refine lv_aload_n hx hb dX7_hasStreet_5 rfl (lv_at hl 0 rfl) ?_
    refine tk_geti hC hK hw hT hinX7 kC_at39 (by decide) rfl 9 (by decide) (List.mem_cons_of_mem _ uw_9_8) rfl rfl dX7_hasStreet_6 (fun x3 c4 rx3 tx3 => ?_)
    refine lv_icmp_ge (tgt := 16) hx hb dX7_hasStreet_9 (by decide) (fun c5 => ?_) (fun c5 => ?_)
    · have c5 : x3.toInt ≤ a1.toInt := wk_le.mp c5
      exact J16  s.heap locs ls w0   hw hT hF  (lv_sub hl [0, 1] rfl)
    · have c5 : a1.toInt < x3.toInt := wk_leF c5
      refine lv_iconst (v := 1) hx hb dX7_hasStreet_12 (by decide) ?_
      refine lv_goto (tgt := 17) hx hb dX7_hasStreet_13 (by decide) ?_
      exact tk_zret hC hr rfl hlocks hK ⟨hT, hF, (Or.inr ⟨rfl, (show 0 ≤ a1.toInt from c2), (show a1.toInt ≤ 11 by first | with_reducible assumption | omega), ⟨x3, c4, (show 1 ≤ x3.toInt by first | with_reducible assumption | omega), (show x3.toInt ≤ 12 from tx3)⟩⟩)⟩ hw dX7_hasStreet_17
abbrev P_X7_signOn_1 (ad : Nat → Nat) (cy : Nat → ClassId) (B : Int) (qr : Nat) (s1 : Int) (a1 : Int32) (a2 : Int32) (w0 : va_W) : Int32 → va_W → Prop := fun r u => TW ksC ad cy B qr s1 u ∧ FE ksC ([] : List (Nat × Nat × Nat)) w0 u ∧ ((0 ≤ r.toInt ∧ r.toInt ≤ 3))
set_option maxHeartbeats 4000000 in
set_option maxRecDepth 100000 in
theorem k_X7_signOn_1 (l : Launch) (adK adV : Nat → Nat) (dC : Nat → ClassId) (dI : Nat → Nat → Nat) (cy : Nat → ClassId) (ad : Nat → Nat) (B : Int) (hB0 : 2147483648 ≤ B) (hB1 : B ≤ 1152921504606846976) (qr : Nat) (s1 : Int)  (a1 : Int32) (ra1 : 0 ≤ a1.toInt) (ta1 : a1.toInt ≤ 11) (a2 : Int32) (ra2 : 0 ≤ a2.toInt) (ta2 : a2.toInt ≤ 6) (w0 : va_W) (sz : Nat) (hT : TW ksC ad cy B qr s1 w0)  : Met l yX7_signOn (wu yX7_signOn cX7_signOn 3 (some .int)) ({ frames := 1, cells := 0, slots := 0, locals := 12 }) (va_Pc [.ref (ad 39), .int a1, .int a2] (wpreS adK adV dC dI cy sz w0)) (va_Qi (P_X7_signOn_1 ad cy B qr s1 a1 a2 w0) (fun u : va_W => wpost dC dI cy (va_A w0 sz) u) (va_A w0 sz)) 0 0 (va_A w0 sz) := by
  refine Met.ofW (cc := cX7_signOn) (maxL := 3) (ret := (some .int)) (by decide) rfl ?_
  intro p e s m args below meth c s₁ Bk hml hv
  obtain ⟨rfl, ⟨hsz, hP, hK, hD0⟩, hE, hSR⟩ := hv
  have hx := Bk.exec
  have hb := Bk.bytes
  have hr := Bk.returns
  have hlocks := Bk.notSynchronized
  have hC : CallFix p m c cX7_signOn 3 s _ (wu yX7_signOn cX7_signOn 3 (some .int)) RX7 := ⟨hx, hb, hml, findClass_of_methodNamed Bk.named, atoms_spec (ws := (wu yX7_signOn cX7_signOn 3 (some .int))) Bk.pre⟩
  subst hsz
  have hD := hD0.self (sz := s.heap.size)
  generalize hAe : va_A w0 s.heap.size = A at hD hE ⊢
  have hA : ∀ q : Nat, s.heap.size ≤ q → A q := fun q h => by rw [← hAe]; exact Or.inr h
  have hw : Wd dC dI A s.heap s.heap [] w0 := ⟨hP, hD, va_S.rf⟩
  have hF : FE ksC ([] : List (Nat × Nat × Nat)) w0 w0 := FE.rf
  have hl := lv_entry ([.ref (ad 39), .int a1, .int a2]) (n := 3) (Nat.le_of_ble_eq_true rfl)
  rw [lg_entry_eq]
  generalize (lg_sl ([.ref (ad 39), .int a1, .int a2]) ++ List.replicate (3 - (lg_sl ([.ref (ad 39), .int a1, .int a2])).length) Slot.unset).toArray = ls at hl ⊢
  have hl : lv_has ls 3 [(0, .ref (ad 39)), (1, .int a1), (2, .int a2)] := hl
  generalize hloc : ([] : List Loc) = locs at hw ⊢
  have hinX7 : ∀ w ∈ u_ws RX7 TX7 12, w ∈ (wu yX7_signOn cX7_signOn 3 (some .int)) := fun _ h => List.mem_cons_of_mem _ (up_73 h)
  refine lv_aload_n hx hb dX7_signOn_0 rfl (lv_at hl 0 rfl) ?_
  refine tk_getO hC hK hw hT hinX7 kC_at39 (by decide) rfl 2 (by decide) (List.mem_cons_of_mem _ uw_2_19) rfl rfl dX7_signOn_1 ?_
  refine lv_bipush (v := 7) hx hb dX7_signOn_4 (by decide) ?_
  refine lv_iload_n hx hb dX7_signOn_6 rfl (lv_at hl 1 rfl) ?_
  refine lv_imul hx hb dX7_signOn_7 ?_
  refine lv_topi (fun x1 ex1 => ?_)
  have ex1 : x1.toInt = (7 : Int) * a1.toInt := by rw [ex1]; exact wk_mul (show (-2147483648) ≤ (7 : Int) * a1.toInt by omega) (show (7 : Int) * a1.toInt ≤ 2147483647 by omega)
  refine lv_iload_n hx hb dX7_signOn_8 rfl (lv_at hl 2 rfl) ?_
  refine lv_iadd hx hb dX7_signOn_9 ?_
  refine lv_topi (fun x2 ex2 => ?_)
  have ex2 : x2.toInt = x1.toInt + a2.toInt := by rw [ex2]; exact wk_add (show (-2147483648) ≤ x1.toInt + a2.toInt by omega) (show x1.toInt + a2.toInt ≤ 2147483647 by omega)
  refine tk_iald hC hK hw hT kC_at42 rfl rfl (show 0 ≤ x2.toInt by first | with_reducible assumption | omega) (show x2.toInt < 91 by first | with_reducible assumption | omega) dX7_signOn_10 (fun x3 c4 rx3 tx3 => ?_)
  exact tk_iret hC hr hlocks hK ⟨hT, hF, ⟨(show 0 ≤ x3.toInt from rx3), (show x3.toInt ≤ 3 from tx3)⟩⟩ hw dX7_signOn_11
abbrev P_X7_sideOf_1 (ad : Nat → Nat) (cy : Nat → ClassId) (B : Int) (qr : Nat) (s1 : Int) (a1 : Int32) (a2 : Int32) (w0 : va_W) : Int32 → va_W → Prop := fun r u => TW ksC ad cy B qr s1 u ∧ FE ksC ([] : List (Nat × Nat × Nat)) w0 u ∧ ((r = (-1)) ∨ (r = 0 ∧ 0 ≤ a2.toInt ∧ a2.toInt ≤ 9 ∧ gi u 40 (2 * a1.toInt + 0).toNat = a2) ∨ (r = 1 ∧ 0 ≤ a2.toInt ∧ a2.toInt ≤ 9 ∧ gi u 40 (2 * a1.toInt + 1).toNat = a2))
set_option maxHeartbeats 4000000 in
set_option maxRecDepth 100000 in
theorem k_X7_sideOf_1 (l : Launch) (adK adV : Nat → Nat) (dC : Nat → ClassId) (dI : Nat → Nat → Nat) (cy : Nat → ClassId) (ad : Nat → Nat) (B : Int) (hB0 : 2147483648 ≤ B) (hB1 : B ≤ 1152921504606846976) (qr : Nat) (s1 : Int)  (a1 : Int32) (ra1 : 0 ≤ a1.toInt) (ta1 : a1.toInt ≤ 11) (a2 : Int32) (w0 : va_W) (sz : Nat) (hT : TW ksC ad cy B qr s1 w0)  : Met l yX7_sideOf (wu yX7_sideOf cX7_sideOf 3 (some .int)) ({ frames := 1, cells := 0, slots := 0, locals := 12 }) (va_Pc [.ref (ad 39), .int a1, .int a2] (wpreS adK adV dC dI cy sz w0)) (va_Qi (P_X7_sideOf_1 ad cy B qr s1 a1 a2 w0) (fun u : va_W => wpost dC dI cy (va_A w0 sz) u) (va_A w0 sz)) 0 0 (va_A w0 sz) := by
  refine Met.ofW (cc := cX7_sideOf) (maxL := 3) (ret := (some .int)) (by decide) rfl ?_
  intro p e s m args below meth c s₁ Bk hml hv
  obtain ⟨rfl, ⟨hsz, hP, hK, hD0⟩, hE, hSR⟩ := hv
  have hx := Bk.exec
  have hb := Bk.bytes
  have hr := Bk.returns
  have hlocks := Bk.notSynchronized
  have hC : CallFix p m c cX7_sideOf 3 s _ (wu yX7_sideOf cX7_sideOf 3 (some .int)) RX7 := ⟨hx, hb, hml, findClass_of_methodNamed Bk.named, atoms_spec (ws := (wu yX7_sideOf cX7_sideOf 3 (some .int))) Bk.pre⟩
  subst hsz
  have hD := hD0.self (sz := s.heap.size)
  generalize hAe : va_A w0 s.heap.size = A at hD hE ⊢
  have hA : ∀ q : Nat, s.heap.size ≤ q → A q := fun q h => by rw [← hAe]; exact Or.inr h
  have hw : Wd dC dI A s.heap s.heap [] w0 := ⟨hP, hD, va_S.rf⟩
  have hF : FE ksC ([] : List (Nat × Nat × Nat)) w0 w0 := FE.rf
  have hl := lv_entry ([.ref (ad 39), .int a1, .int a2]) (n := 3) (Nat.le_of_ble_eq_true rfl)
  rw [lg_entry_eq]
  generalize (lg_sl ([.ref (ad 39), .int a1, .int a2]) ++ List.replicate (3 - (lg_sl ([.ref (ad 39), .int a1, .int a2])).length) Slot.unset).toArray = ls at hl ⊢
  have hl : lv_has ls 3 [(0, .ref (ad 39)), (1, .int a1), (2, .int a2)] := hl
  generalize hloc : ([] : List Loc) = locs at hw ⊢
  have hinX7 : ∀ w ∈ u_ws RX7 TX7 12, w ∈ (wu yX7_sideOf cX7_sideOf 3 (some .int)) := fun _ h => List.mem_cons_of_mem _ (up_73 h)
  refine lv_aload_n hx hb dX7_sideOf_0 rfl (lv_at hl 0 rfl) ?_
  refine tk_getO hC hK hw hT hinX7 kC_at39 (by decide) rfl 0 (by decide) (List.mem_cons_of_mem _ uw_2_17) rfl rfl dX7_sideOf_1 ?_
  refine lv_iconst (v := 2) hx hb dX7_sideOf_4 (by decide) ?_
  refine lv_iload_n hx hb dX7_sideOf_5 rfl (lv_at hl 1 rfl) ?_
  refine lv_imul hx hb dX7_sideOf_6 ?_
  refine lv_topi (fun x1 ex1 => ?_)
  have ex1 : x1.toInt = (2 : Int) * a1.toInt := by rw [ex1]; exact wk_mul (show (-2147483648) ≤ (2 : Int) * a1.toInt by omega) (show (2 : Int) * a1.toInt ≤ 2147483647 by omega)
  refine tk_iald hC hK hw hT kC_at40 rfl rfl (show 0 ≤ x1.toInt by first | with_reducible assumption | omega) (show x1.toInt < 26 by first | with_reducible assumption | omega) dX7_sideOf_7 (fun x2 c3 rx2 tx2 => ?_)
  have c3 : gi w0 40 (2 * a1.toInt + 0).toNat = x2 := (congrArg (gi w0 40) (congrArg Int.toNat (show 2 * a1.toInt + 0 = x1.toInt by first | exact Int.le_antisymm (by omega) (by omega) | omega))).trans c3
  refine lv_iload_n hx hb dX7_sideOf_8 rfl (lv_at hl 2 rfl) ?_
  refine lv_icmp_ne (tgt := 14) hx hb dX7_sideOf_9 (by decide) (fun c4 => ?_) (fun c4 => ?_)
  · have c4 : ¬ x2.toInt = a2.toInt := wk_eqF c4
    refine lv_aload_n hx hb dX7_sideOf_14 rfl (lv_at hl 0 rfl) ?_
    refine tk_getO hC hK hw hT hinX7 kC_at39 (by decide) rfl 0 (by decide) (List.mem_cons_of_mem _ uw_2_17) rfl rfl dX7_sideOf_15 ?_
    refine lv_iconst (v := 2) hx hb dX7_sideOf_18 (by decide) ?_
    refine lv_iload_n hx hb dX7_sideOf_19 rfl (lv_at hl 1 rfl) ?_
    refine lv_imul hx hb dX7_sideOf_20 ?_
    refine lv_topi (fun x5 ex5 => ?_)
    have ex5 : x5.toInt = (2 : Int) * a1.toInt := by rw [ex5]; exact wk_mul (show (-2147483648) ≤ (2 : Int) * a1.toInt by omega) (show (2 : Int) * a1.toInt ≤ 2147483647 by omega)
    refine lv_iconst (v := 1) hx hb dX7_sideOf_21 (by decide) ?_
    refine lv_iadd hx hb dX7_sideOf_22 ?_
    refine lv_topi (fun x6 ex6 => ?_)
    have ex6 : x6.toInt = x5.toInt + (1 : Int) := by rw [ex6]; exact wk_add (show (-2147483648) ≤ x5.toInt + (1 : Int) by omega) (show x5.toInt + (1 : Int) ≤ 2147483647 by omega)
    refine tk_iald hC hK hw hT kC_at40 rfl rfl (show 0 ≤ x6.toInt by first | with_reducible assumption | omega) (show x6.toInt < 26 by first | with_reducible assumption | omega) dX7_sideOf_23 (fun x7 c8 rx7 tx7 => ?_)
    have c8 : gi w0 40 (2 * a1.toInt + 1).toNat = x7 := (congrArg (gi w0 40) (congrArg Int.toNat (show 2 * a1.toInt + 1 = x6.toInt by first | exact Int.le_antisymm (by omega) (by omega) | omega))).trans c8
    refine lv_iload_n hx hb dX7_sideOf_24 rfl (lv_at hl 2 rfl) ?_
    refine lv_icmp_ne (tgt := 32) hx hb dX7_sideOf_25 (by decide) (fun c9 => ?_) (fun c9 => ?_)
    · have c9 : ¬ x7.toInt = a2.toInt := wk_eqF c9
      refine lv_iconst (v := (-1)) hx hb dX7_sideOf_32 (by decide) ?_
      exact tk_iret hC hr hlocks hK ⟨hT, hF, (Or.inl rfl)⟩ hw dX7_sideOf_33
    · have c9 : x7.toInt = a2.toInt := wk_eq.mp c9
      refine lv_iconst (v := 1) hx hb dX7_sideOf_28 (by decide) ?_
      refine lv_goto (tgt := 33) hx hb dX7_sideOf_29 (by decide) ?_
      exact tk_iret hC hr hlocks hK ⟨hT, hF, (Or.inr (Or.inr ⟨rfl, (show 0 ≤ a2.toInt by first | with_reducible assumption | omega), (show a2.toInt ≤ 9 by first | with_reducible assumption | omega), (c8.trans (wk_eq.mpr (show x7.toInt = a2.toInt by first | exact Int.le_antisymm (by omega) (by omega) | omega)))⟩))⟩ hw dX7_sideOf_33
  · have c4 : x2.toInt = a2.toInt := wk_eq.mp c4
    refine lv_iconst (v := 0) hx hb dX7_sideOf_12 (by decide) ?_
    exact tk_iret hC hr hlocks hK ⟨hT, hF, (Or.inr (Or.inl ⟨rfl, (show 0 ≤ a2.toInt by first | with_reducible assumption | omega), (show a2.toInt ≤ 9 by first | with_reducible assumption | omega), (c3.trans (wk_eq.mpr (show x2.toInt = a2.toInt by first | exact Int.le_antisymm (by omega) (by omega) | omega)))⟩))⟩ hw dX7_sideOf_13
abbrev P_X7_openHours_1 (ad : Nat → Nat) (cy : Nat → ClassId) (B : Int) (qr : Nat) (s1 : Int) (a1 : Int32) (a3 : Int64) (w0 : va_W) : Int32 → va_W → Prop := fun r u => TW ksC ad cy B qr s1 u ∧ FE ksC ([] : List (Nat × Nat × Nat)) w0 u ∧ ((0 ≤ r.toInt ∧ r.toInt ≤ 16777215))
set_option maxHeartbeats 4000000 in
set_option maxRecDepth 100000 in
theorem k_X7_openHours_1 (l : Launch) (adK adV : Nat → Nat) (dC : Nat → ClassId) (dI : Nat → Nat → Nat) (cy : Nat → ClassId) (ad : Nat → Nat) (B : Int) (hB0 : 2147483648 ≤ B) (hB1 : B ≤ 1152921504606846976) (qr : Nat) (s1 : Int)  (a1 : Int32) (ra1 : 0 ≤ a1.toInt) (ta1 : a1.toInt ≤ 11) (a3 : Int64) (ra3 : 0 ≤ a3.toInt) (ta3 : a3.toInt ≤ 89478485) (w0 : va_W) (sz : Nat) (hT : TW ksC ad cy B qr s1 w0)  : Met l yX7_openHours (wu yX7_openHours cX7_openHours 8 (some .int)) ({ frames := 1, cells := 0, slots := 0, locals := 12 }) (va_Pc [.ref (ad 39), .int a1, .int 0, .long a3, .int 1] (wpreS adK adV dC dI cy sz w0)) (va_Qi (P_X7_openHours_1 ad cy B qr s1 a1 a3 w0) (fun u : va_W => wpost dC dI cy (va_A w0 sz) u) (va_A w0 sz)) 0 0 (va_A w0 sz) := by
  refine Met.ofW (cc := cX7_openHours) (maxL := 8) (ret := (some .int)) (by decide) rfl ?_
  intro p e s m args below meth c s₁ Bk hml hv
  obtain ⟨rfl, ⟨hsz, hP, hK, hD0⟩, hE, hSR⟩ := hv
  have hx := Bk.exec
  have hb := Bk.bytes
  have hr := Bk.returns
  have hlocks := Bk.notSynchronized
  have hC : CallFix p m c cX7_openHours 8 s _ (wu yX7_openHours cX7_openHours 8 (some .int)) RX7 := ⟨hx, hb, hml, findClass_of_methodNamed Bk.named, atoms_spec (ws := (wu yX7_openHours cX7_openHours 8 (some .int))) Bk.pre⟩
  subst hsz
  have hD := hD0.self (sz := s.heap.size)
  generalize hAe : va_A w0 s.heap.size = A at hD hE ⊢
  have hA : ∀ q : Nat, s.heap.size ≤ q → A q := fun q h => by rw [← hAe]; exact Or.inr h
  have hw : Wd dC dI A s.heap s.heap [] w0 := ⟨hP, hD, va_S.rf⟩
  have hF : FE ksC ([] : List (Nat × Nat × Nat)) w0 w0 := FE.rf
  have hl := lv_entry ([.ref (ad 39), .int a1, .int 0, .long a3, .int 1]) (n := 8) (Nat.le_of_ble_eq_true rfl)
  rw [lg_entry_eq]
  generalize (lg_sl ([.ref (ad 39), .int a1, .int 0, .long a3, .int 1]) ++ List.replicate (8 - (lg_sl ([.ref (ad 39), .int a1, .int 0, .long a3, .int 1])).length) Slot.unset).toArray = ls at hl ⊢
  have hl : lv_has ls 8 [(0, .ref (ad 39)), (1, .int a1), (2, .int 0), (3, .long a3), (5, .int 1)] := hl
  generalize hloc : ([] : List Loc) = locs at hw ⊢
  have hinX7 : ∀ w ∈ u_ws RX7 TX7 12, w ∈ (wu yX7_openHours cX7_openHours 8 (some .int)) := fun _ h => List.mem_cons_of_mem _ (up_73 h)
  have J93 : ∀ (v93_6 : Int32) (v93_7 : Int32) (H : Heap) (locs : List Loc) (ls : Array Slot) (w1 : va_W), 0 ≤ a1.toInt → a1.toInt ≤ 11 → 0 ≤ a3.toInt → a3.toInt ≤ 89478485 → 0 ≤ v93_7.toInt → v93_7.toInt ≤ 8 → Wd dC dI A s.heap H locs w1 → TW ksC ad cy B qr s1 w1 → FE ksC ([] : List (Nat × Nat × Nat)) w0 w1 → lv_has ls 8 [(0, .ref (ad 39)), (1, .int a1), (2, .int 0), (3, .long a3), (5, .int 1), (6, .int v93_6), (7, .int v93_7)] → W p l e ({ frames := 1, cells := 0, slots := 0, locals := 12 }) s m (List.toArray [.ref (ad 39), .int a1, .int 0, .long a3, .int 1]) below meth c H locs 0 0 (MQ below (va_Qi (P_X7_openHours_1 ad cy B qr s1 a1 a3 w0) (fun u : va_W => wpost dC dI cy A u) A) (List.toArray [.ref (ad 39), .int a1, .int 0, .long a3, .int 1]) s 0 0 A) (F0 m 93 ls []) := by
    intro v93_6 v93_7 H locs ls w1 r2 t3 r4 t5 r6 t7 hw hT hF hl
    refine lv_ldc (v := 16777215) hx hb hC.2.2.2.1 (hC.2.2.2.2 _ (List.mem_cons_of_mem _ uw_31_17)) dX7_openHours_93 ?_
    refine lv_aload_n hx hb dX7_openHours_95 rfl (lv_at hl 0 rfl) ?_
    refine tk_getO hC hK hw hT hinX7 kC_at39 (by decide) rfl 3 (by decide) (List.mem_cons_of_mem _ uw_2_20) rfl rfl dX7_openHours_96 ?_
    refine lv_iload_n hx hb dX7_openHours_99 rfl (lv_at hl 1 rfl) ?_
    refine tk_iald hC hK hw hT kC_at43 rfl rfl (show 0 ≤ a1.toInt from r2) (show a1.toInt < 13 from Int.lt_of_le_of_lt t3 (by decide)) dX7_openHours_100 (fun x8 c9 rx8 tx8 => ?_)
    refine lv_iconst (v := (-1)) hx hb dX7_openHours_101 (by decide) ?_
    refine lv_ixor hx hb dX7_openHours_102 ?_
    refine lv_topi (fun x10 ex10 => ?_)
    refine lv_iand hx hb dX7_openHours_103 ?_
    refine lv_topi (fun x11 ex11 => ?_)
    have bx11 : 0 ≤ x11.toInt ∧ x11.toInt ≤ (16777215 : Int) := by rw [ex11]; exact wk_andC (by decide)
    exact tk_iret hC hr hlocks hK ⟨hT, hF, ⟨(show 0 ≤ x11.toInt by first | with_reducible assumption | omega), (show x11.toInt ≤ 16777215 by first | with_reducible assumption | omega)⟩⟩ hw dX7_openHours_104
  have L44 : ∀ (n44 : Nat) (v44_6 : Int32) (v44_7 : Int32) (H : Heap) (locs : List Loc) (ls : Array Slot) (w12 : va_W), 0 ≤ a1.toInt → a1.toInt ≤ 11 → 0 ≤ a3.toInt → a3.toInt ≤ 89478485 → 0 ≤ v44_7.toInt → v44_7.toInt ≤ 8 → (8 - v44_7.toInt).toNat < n44 → Wd dC dI A s.heap H locs w12 → TW ksC ad cy B qr s1 w12 → FE ksC ([] : List (Nat × Nat × Nat)) w0 w12 → lv_has ls 8 [(0, .ref (ad 39)), (1, .int a1), (2, .int 0), (3, .long a3), (5, .int 1), (6, .int v44_6), (7, .int v44_7)] → W p l e ({ frames := 1, cells := 0, slots := 0, locals := 12 }) s m (List.toArray [.ref (ad 39), .int a1, .int 0, .long a3, .int 1]) below meth c H locs 0 0 (MQ below (va_Qi (P_X7_openHours_1 ad cy B qr s1 a1 a3 w0) (fun u : va_W => wpost dC dI cy A u) A) (List.toArray [.ref (ad 39), .int a1, .int 0, .long a3, .int 1]) s 0 0 A) (F0 m 44 ls []) := by
    intro n44
    induction n44 with
    | zero => intro v44_6 v44_7 H locs ls w12 r13 t14 r15 t16 r17 t18 hm44 hw hT hF hl; omega
    | succ n44 ih44 =>
      intro v44_6 v44_7 H locs ls w12 r13 t14 r15 t16 r17 t18 hm44 hw hT hF hl
      have J81 : ∀ (H : Heap) (locs : List Loc) (ls : Array Slot) (w19 : va_W), 0 ≤ a1.toInt → a1.toInt ≤ 11 → 0 ≤ a3.toInt → a3.toInt ≤ 89478485 → 0 ≤ v44_7.toInt → v44_7.toInt ≤ 7 → Wd dC dI A s.heap H locs w19 → TW ksC ad cy B qr s1 w19 → FE ksC ([] : List (Nat × Nat × Nat)) w0 w19 → lv_has ls 8 [(0, .ref (ad 39)), (1, .int a1), (2, .int 0), (3, .long a3), (5, .int 1), (6, .int v44_6), (7, .int v44_7)] → W p l e ({ frames := 1, cells := 0, slots := 0, locals := 12 }) s m (List.toArray [.ref (ad 39), .int a1, .int 0, .long a3, .int 1]) below meth c H locs 0 0 (MQ below (va_Qi (P_X7_openHours_1 ad cy B qr s1 a1 a3 w0) (fun u : va_W => wpost dC dI cy A u) A) (List.toArray [.ref (ad 39), .int a1, .int 0, .long a3, .int 1]) s 0 0 A) (F0 m 81 ls []) := by
        intro H locs ls w19 r20 t21 r22 t23 r24 t25 hw hT hF hl
        refine lv_iload hx hb dX7_openHours_81 (lv_at hl 5 rfl) ?_
        refine lv_iconst (v := 1) hx hb dX7_openHours_83 (by decide) ?_
        refine lv_ishr hx hb dX7_openHours_84 ?_
        refine lv_topi (fun x26 ex26 => ?_)
        refine lv_istore (lv' := [(6, .int x26), (0, .ref (ad 39)), (1, .int a1), (2, .int 0), (3, .long a3), (5, .int 1), (7, .int v44_7)]) hx hb dX7_openHours_85 hl (by decide) rfl (fun ls hl => ?_)
        obtain ⟨x27, ex27⟩ : ∃ y : Int32, y = v44_7 + Int32.ofInt 1 := ⟨_, rfl⟩
        refine lv_iinc (v := x27) (lv' := [(7, .int x27), (6, .int x26), (0, .ref (ad 39)), (1, .int a1), (2, .int 0), (3, .long a3), (5, .int 1)]) hx hb dX7_openHours_87 hl (k := 6) rfl ex27.symm (by decide) rfl (fun ls hl => ?_)
        have ex27 : x27.toInt = v44_7.toInt + 1 := by rw [ex27]; exact wk_add (y := 1) (show -2147483648 ≤ v44_7.toInt + 1 by omega) (show v44_7.toInt + 1 ≤ 2147483647 by omega)
        refine lv_goto (tgt := 44) hx hb dX7_openHours_90 (by decide) ?_
        exact ih44 x26 x27 H locs ls w19 (show 0 ≤ a1.toInt from r20) (show a1.toInt ≤ 11 from t21) (show 0 ≤ a3.toInt from r22) (show a3.toInt ≤ 89478485 from t23) (show 0 ≤ x27.toInt by first | with_reducible assumption | omega) (show x27.toInt ≤ 8 by first | with_reducible assumption | omega) (show (8 - x27.toInt).toNat < n44 by first | exact tn_lt hm44 (by omega) (by omega) | omega) hw hT hF  (lv_sub hl [2, 3, 4, 5, 6, 1, 0] rfl)
      refine lv_iload hx hb dX7_openHours_44 (lv_at hl 5 rfl) ?_
      refine lv_if_eq (tgt := 93) hx hb dX7_openHours_46 (by decide) (fun c28 => ?_) (fun c28 => ?_)
      · have c28 : v44_6.toInt = (0 : Int) := wk_eq.mp c28
        exact J93 v44_6 v44_7 H locs ls w12 (show 0 ≤ a1.toInt from r13) (show a1.toInt ≤ 11 from t14) (show 0 ≤ a3.toInt from r15) (show a3.toInt ≤ 89478485 from t16) (show 0 ≤ v44_7.toInt from r17) (show v44_7.toInt ≤ 8 from t18)  hw hT hF  (lv_sub hl [0, 1, 2, 3, 4, 5, 6] rfl)
      · have c28 : ¬ v44_6.toInt = (0 : Int) := wk_eqF c28
        refine lv_iload hx hb dX7_openHours_49 (lv_at hl 6 rfl) ?_
        refine lv_bipush (v := 8) hx hb dX7_openHours_51 (by decide) ?_
        refine lv_icmp_ge (tgt := 93) hx hb dX7_openHours_53 (by decide) (fun c29 => ?_) (fun c29 => ?_)
        · have c29 : (8 : Int) ≤ v44_7.toInt := wk_le.mp c29
          exact J93 v44_6 v44_7 H locs ls w12 (show 0 ≤ a1.toInt from r13) (show a1.toInt ≤ 11 from t14) (show 0 ≤ a3.toInt from r15) (show a3.toInt ≤ 89478485 from t16) (show 0 ≤ v44_7.toInt from r17) (show v44_7.toInt ≤ 8 from t18)  hw hT hF  (lv_sub hl [0, 1, 2, 3, 4, 5, 6] rfl)
        · have c29 : v44_7.toInt < (8 : Int) := wk_leF c29
          refine lv_iload hx hb dX7_openHours_56 (lv_at hl 5 rfl) ?_
          refine lv_iconst (v := 1) hx hb dX7_openHours_58 (by decide) ?_
          refine lv_iand hx hb dX7_openHours_59 ?_
          refine lv_topi (fun x30 ex30 => ?_)
          have bx30 : 0 ≤ x30.toInt ∧ x30.toInt ≤ (1 : Int) := by rw [ex30]; exact wk_and (by decide)
          refine lv_if_eq (tgt := 81) hx hb dX7_openHours_60 (by decide) (fun c31 => ?_) (fun c31 => ?_)
          · have c31 : x30.toInt = (0 : Int) := wk_eq.mp c31
            exact J81  H locs ls w12 (show 0 ≤ a1.toInt from r13) (show a1.toInt ≤ 11 from t14) (show 0 ≤ a3.toInt from r15) (show a3.toInt ≤ 89478485 from t16) (show 0 ≤ v44_7.toInt from r17) (show v44_7.toInt ≤ 7 by first | with_reducible assumption | omega)  hw hT hF  (lv_sub hl [0, 1, 2, 3, 4, 5, 6] rfl)
          · have c31 : ¬ x30.toInt = (0 : Int) := wk_eqF c31
            refine lv_aload_n hx hb dX7_openHours_63 rfl (lv_at hl 0 rfl) ?_
            refine tk_getO hC hK hw hT hinX7 kC_at39 (by decide) rfl 6 (by decide) (List.mem_cons_of_mem _ uw_2_23) rfl rfl dX7_openHours_64 ?_
            refine lv_iload hx hb dX7_openHours_67 (lv_at hl 6 rfl) ?_
            refine tk_iald hC hK hw hT kC_at46 rfl rfl (show 0 ≤ v44_7.toInt from r17) (show v44_7.toInt < 8 from c29) dX7_openHours_69 (fun x32 c33 rx32 tx32 => ?_)
            refine lv_lload_n hx hb dX7_openHours_70 rfl (lv_at hl 3 rfl) ?_
            refine lv_ldc2 (v := 360) hx hb hC.2.2.2.1 (hC.2.2.2.2 _ (List.mem_cons_of_mem _ uw_31_16)) dX7_openHours_71 ?_
            refine lv_lrem hx hb dX7_openHours_74 (by decide) ?_
            refine lv_topl (fun x34 ex34 => ?_)
            have ex34 : x34.toInt = a3.toInt % (360 : Int) := by rw [ex34]; exact wk_reml (show 0 ≤ a3.toInt from r15) (show 0 < (360 : Int) by decide)
            refine lv_l2i hx hb dX7_openHours_75 rfl ?_
            refine lv_topi (fun x35 ex35 => ?_)
            have ex35 : x35.toInt = x34.toInt := by rw [ex35]; exact wk_l2i (by omega) (by omega)
            refine lv_icmp_ne (tgt := 81) hx hb dX7_openHours_76 (by decide) (fun c36 => ?_) (fun c36 => ?_)
            · have c36 : ¬ x32.toInt = x35.toInt := wk_eqF c36
              exact J81  H locs ls w12 (show 0 ≤ a1.toInt from r13) (show a1.toInt ≤ 11 from t14) (show 0 ≤ a3.toInt from r15) (show a3.toInt ≤ 89478485 from t16) (show 0 ≤ v44_7.toInt from r17) (show v44_7.toInt ≤ 7 by first | with_reducible assumption | omega)  hw hT hF  (lv_sub hl [0, 1, 2, 3, 4, 5, 6] rfl)
            · have c36 : x32.toInt = x35.toInt := wk_eq.mp c36
              refine lv_iconst (v := 0) hx hb dX7_openHours_79 (by decide) ?_
              exact tk_iret hC hr hlocks hK ⟨hT, hF, ⟨(by decide), (by decide)⟩⟩ hw dX7_openHours_80
  refine lv_aload_n hx hb dX7_openHours_0 rfl (lv_at hl 0 rfl) ?_
  refine tk_getO hC hK hw hT hinX7 kC_at39 (by decide) rfl 4 (by decide) (List.mem_cons_of_mem _ uw_2_21) rfl rfl dX7_openHours_1 ?_
  refine lv_iconst (v := 2) hx hb dX7_openHours_4 (by decide) ?_
  refine lv_iload_n hx hb dX7_openHours_5 rfl (lv_at hl 1 rfl) ?_
  refine lv_imul hx hb dX7_openHours_6 ?_
  refine lv_topi (fun x37 ex37 => ?_)
  have ex37 : x37.toInt = (2 : Int) * a1.toInt := by rw [ex37]; exact wk_mul (show (-2147483648) ≤ (2 : Int) * a1.toInt by omega) (show (2 : Int) * a1.toInt ≤ 2147483647 by omega)
  refine lv_iload_n hx hb dX7_openHours_7 rfl (lv_at hl 2 rfl) ?_
  refine lv_iadd hx hb dX7_openHours_8 ?_
  refine lv_topi (fun x38 ex38 => ?_)
  have ex38 : x38.toInt = x37.toInt + (0 : Int) := by rw [ex38]; exact wk_add (show (-2147483648) ≤ x37.toInt + (0 : Int) by omega) (show x37.toInt + (0 : Int) ≤ 2147483647 by omega)
  refine tk_iald hC hK hw hT kC_at44 rfl rfl (show 0 ≤ x38.toInt by first | with_reducible assumption | omega) (show x38.toInt < 26 by first | with_reducible assumption | omega) dX7_openHours_9 (fun x39 c40 rx39 tx39 => ?_)
  refine lv_lload_n hx hb dX7_openHours_10 rfl (lv_at hl 3 rfl) ?_
  refine lv_ldc2 (v := 7) hx hb hC.2.2.2.1 (hC.2.2.2.2 _ (List.mem_cons_of_mem _ uw_31_15)) dX7_openHours_11 ?_
  refine lv_lrem hx hb dX7_openHours_14 (by decide) ?_
  refine lv_topl (fun x41 ex41 => ?_)
  have ex41 : x41.toInt = a3.toInt % (7 : Int) := by rw [ex41]; exact wk_reml (show 0 ≤ a3.toInt from ra3) (show 0 < (7 : Int) by decide)
  refine lv_l2i hx hb dX7_openHours_15 rfl ?_
  refine lv_topi (fun x42 ex42 => ?_)
  have ex42 : x42.toInt = x41.toInt := by rw [ex42]; exact wk_l2i (by omega) (by omega)
  refine lv_ishr hx hb dX7_openHours_16 ?_
  refine lv_topi (fun x43 ex43 => ?_)
  refine lv_iconst (v := 1) hx hb dX7_openHours_17 (by decide) ?_
  refine lv_iand hx hb dX7_openHours_18 ?_
  refine lv_topi (fun x44 ex44 => ?_)
  have bx44 : 0 ≤ x44.toInt ∧ x44.toInt ≤ (1 : Int) := by rw [ex44]; exact wk_and (by decide)
  refine lv_if_ne (tgt := 24) hx hb dX7_openHours_19 (by decide) (fun c45 => ?_) (fun c45 => ?_)
  · have c45 : ¬ x44.toInt = (0 : Int) := wk_eqF c45
    refine lv_iload hx hb dX7_openHours_24 (lv_at hl 4 rfl) ?_
    refine lv_if_eq (tgt := 38) hx hb dX7_openHours_26 (by decide) (fun c => absurd c (by decide)) (fun _ => ?_)
    refine lv_aload_n hx hb dX7_openHours_29 rfl (lv_at hl 0 rfl) ?_
    refine tk_getO hC hK hw hT hinX7 kC_at39 (by decide) rfl 7 (by decide) (List.mem_cons_of_mem _ uw_3_0) rfl rfl dX7_openHours_30 ?_
    refine lv_iload_n hx hb dX7_openHours_33 rfl (lv_at hl 1 rfl) ?_
    refine tk_iald hC hK hw hT kC_at47 rfl rfl (show 0 ≤ a1.toInt from ra1) (show a1.toInt < 13 from Int.lt_of_le_of_lt ta1 (by decide)) dX7_openHours_34 (fun x46 c47 rx46 tx46 => ?_)
    refine lv_goto (tgt := 39) hx hb dX7_openHours_35 (by decide) ?_
    refine lv_istore (lv' := [(6, .int x46), (0, .ref (ad 39)), (1, .int a1), (2, .int 0), (3, .long a3), (5, .int 1)]) hx hb dX7_openHours_39 hl (by decide) rfl (fun ls hl => ?_)
    refine lv_iconst (v := 0) hx hb dX7_openHours_41 (by decide) ?_
    refine lv_istore (lv' := [(7, .int 0), (6, .int x46), (0, .ref (ad 39)), (1, .int a1), (2, .int 0), (3, .long a3), (5, .int 1)]) hx hb dX7_openHours_42 hl (by decide) rfl (fun ls hl => ?_)
    exact L44 ((8 - (0 : Int)).toNat + 1) x46 0 s.heap locs ls w0 (show 0 ≤ a1.toInt from ra1) (show a1.toInt ≤ 11 from ta1) (show 0 ≤ a3.toInt from ra3) (show a3.toInt ≤ 89478485 from ta3) (by decide) (by decide) (Nat.lt_succ_self _) hw hT hF  (lv_sub hl [2, 3, 4, 5, 6, 1, 0] rfl)
  · have c45 : x44.toInt = (0 : Int) := wk_eq.mp c45
    refine lv_iconst (v := 0) hx hb dX7_openHours_22 (by decide) ?_
    exact tk_iret hC hr hlocks hK ⟨hT, hF, ⟨(by decide), (by decide)⟩⟩ hw dX7_openHours_23
abbrev P_X7_isOpen_1 (ad : Nat → Nat) (cy : Nat → ClassId) (B : Int) (qr : Nat) (s1 : Int) (a1 : Int32) (a3 : Int64) (w0 : va_W) : Int32 → va_W → Prop := fun r u => TW ksC ad cy B qr s1 u ∧ FE ksC ([] : List (Nat × Nat × Nat)) w0 u ∧ ((r = 0) ∨ (r = 1))
set_option maxHeartbeats 4000000 in
set_option maxRecDepth 100000 in
theorem k_X7_isOpen_1 (l : Launch) (adK adV : Nat → Nat) (dC : Nat → ClassId) (dI : Nat → Nat → Nat) (cy : Nat → ClassId) (ad : Nat → Nat) (B : Int) (hB0 : 2147483648 ≤ B) (hB1 : B ≤ 1152921504606846976) (qr : Nat) (s1 : Int)  (a1 : Int32) (ra1 : 0 ≤ a1.toInt) (ta1 : a1.toInt ≤ 11) (a3 : Int64) (ra3 : 0 ≤ a3.toInt) (ta3 : a3.toInt ≤ 2147483647) (w0 : va_W) (sz : Nat) (hT : TW ksC ad cy B qr s1 w0)  : Met l yX7_isOpen (wu yX7_isOpen cX7_isOpen 7 (some .boolean)) ({ frames := 2, cells := 0, slots := 0, locals := 39 }) (va_Pc [.ref (ad 39), .int a1, .int 0, .long a3, .int 1] (wpreS adK adV dC dI cy sz w0)) (va_Qi (P_X7_isOpen_1 ad cy B qr s1 a1 a3 w0) (fun u : va_W => wpost dC dI cy (va_A w0 sz) u) (va_A w0 sz)) 0 0 (va_A w0 sz) := by
  refine Met.ofW (cc := cX7_isOpen) (maxL := 7) (ret := (some .boolean)) (by decide) rfl ?_
  intro p e s m args below meth c s₁ Bk hml hv
  obtain ⟨rfl, ⟨hsz, hP, hK, hD0⟩, hE, hSR⟩ := hv
  have hx := Bk.exec
  have hb := Bk.bytes
  have hr := Bk.returns
  have hlocks := Bk.notSynchronized
  have hC : CallFix p m c cX7_isOpen 7 s _ (wu yX7_isOpen cX7_isOpen 7 (some .boolean)) RX7 := ⟨hx, hb, hml, findClass_of_methodNamed Bk.named, atoms_spec (ws := (wu yX7_isOpen cX7_isOpen 7 (some .boolean))) Bk.pre⟩
  subst hsz
  have hD := hD0.self (sz := s.heap.size)
  generalize hAe : va_A w0 s.heap.size = A at hD hE ⊢
  have hA : ∀ q : Nat, s.heap.size ≤ q → A q := fun q h => by rw [← hAe]; exact Or.inr h
  have hw : Wd dC dI A s.heap s.heap [] w0 := ⟨hP, hD, va_S.rf⟩
  have hF : FE ksC ([] : List (Nat × Nat × Nat)) w0 w0 := FE.rf
  have hl := lv_entry ([.ref (ad 39), .int a1, .int 0, .long a3, .int 1]) (n := 7) (Nat.le_of_ble_eq_true rfl)
  rw [lg_entry_eq]
  generalize (lg_sl ([.ref (ad 39), .int a1, .int 0, .long a3, .int 1]) ++ List.replicate (7 - (lg_sl ([.ref (ad 39), .int a1, .int 0, .long a3, .int 1])).length) Slot.unset).toArray = ls at hl ⊢
  have hl : lv_has ls 7 [(0, .ref (ad 39)), (1, .int a1), (2, .int 0), (3, .long a3), (5, .int 1)] := hl
  generalize hloc : ([] : List Loc) = locs at hw ⊢
  refine lv_aload_n hx hb dX7_isOpen_0 rfl (lv_at hl 0 rfl) ?_
  refine lv_iload_n hx hb dX7_isOpen_1 rfl (lv_at hl 1 rfl) ?_
  refine lv_iload_n hx hb dX7_isOpen_2 rfl (lv_at hl 2 rfl) ?_
  refine lv_lload_n hx hb dX7_isOpen_3 rfl (lv_at hl 3 rfl) ?_
  refine lv_ldc2 (v := 24) hx hb hC.2.2.2.1 (hC.2.2.2.2 _ (List.mem_cons_of_mem _ uw_31_10)) dX7_isOpen_4 ?_
  refine lv_ldiv hx hb dX7_isOpen_7 (by decide) ?_
  refine lv_topl (fun x1 ex1 => ?_)
  have ex1 : x1.toInt = a3.toInt / (24 : Int) := by rw [ex1]; exact wk_divl (show 0 ≤ a3.toInt from ra3) (show 0 < (24 : Int) by decide)
  refine lv_iload hx hb dX7_isOpen_8 (lv_at hl 4 rfl) ?_
  refine tk_Vi hC hK hw hT hA hE hSR kC_at39 (by decide) rfl (k_X7_openHours_1 l adK adV dC dI cy ad B hB0 (Int.le_trans hB1 (by decide)) qr s1   a1 (show 0 ≤ a1.toInt from ra1) (show a1.toInt ≤ 11 from ta1) x1 (show 0 ≤ x1.toInt by first | with_reducible assumption | omega) (show x1.toInt ≤ 89478485 by first | with_reducible assumption | omega) w0 s.heap.size hT ) (cwV 4 hC.2.2.2.2 uV_RX7_148 rfl rfl rfl (by decide +kernel) ⟨Nat.le_of_ble_eq_true rfl, Nat.le_of_ble_eq_true rfl⟩) rfl hl.1 rfl (Nat.le_of_ble_eq_true rfl) dX7_isOpen_10 (fun r2 w4 H locs hp3 hw => ?_)
  obtain ⟨hT, k5, hg8⟩ := hp3
  have hF := hF.tr k5 (by decide)
  obtain ⟨g6, g7⟩ := hg8
  refine lv_istore (lv' := [(6, .int r2), (0, .ref (ad 39)), (1, .int a1), (2, .int 0), (3, .long a3), (5, .int 1)]) hx hb dX7_isOpen_13 hl (by decide) rfl (fun ls hl => ?_)
  refine lv_iload hx hb dX7_isOpen_15 (lv_at hl 0 rfl) ?_
  refine lv_lload_n hx hb dX7_isOpen_17 rfl (lv_at hl 4 rfl) ?_
  refine lv_ldc2 (v := 24) hx hb hC.2.2.2.1 (hC.2.2.2.2 _ (List.mem_cons_of_mem _ uw_31_10)) dX7_isOpen_18 ?_
  refine lv_lrem hx hb dX7_isOpen_21 (by decide) ?_
  refine lv_topl (fun x9 ex9 => ?_)
  have ex9 : x9.toInt = a3.toInt % (24 : Int) := by rw [ex9]; exact wk_reml (show 0 ≤ a3.toInt from ra3) (show 0 < (24 : Int) by decide)
  refine lv_l2i hx hb dX7_isOpen_22 rfl ?_
  refine lv_topi (fun x10 ex10 => ?_)
  have ex10 : x10.toInt = x9.toInt := by rw [ex10]; exact wk_l2i (by omega) (by omega)
  refine lv_ishr hx hb dX7_isOpen_23 ?_
  refine lv_topi (fun x11 ex11 => ?_)
  have bx11 : 0 ≤ x11.toInt ∧ x11.toInt ≤ r2.toInt := by rw [ex11]; exact wk_shr (by omega)
  refine lv_iconst (v := 1) hx hb dX7_isOpen_24 (by decide) ?_
  refine lv_iand hx hb dX7_isOpen_25 ?_
  refine lv_topi (fun x12 ex12 => ?_)
  have bx12 : 0 ≤ x12.toInt ∧ x12.toInt ≤ (1 : Int) := by rw [ex12]; exact wk_and (by decide)
  refine lv_if_eq (tgt := 33) hx hb dX7_isOpen_26 (by decide) (fun c13 => ?_) (fun c13 => ?_)
  · have c13 : x12.toInt = (0 : Int) := wk_eq.mp c13
    refine lv_iconst (v := 0) hx hb dX7_isOpen_33 (by decide) ?_
    exact tk_zret hC hr rfl hlocks hK ⟨hT, hF, (Or.inl rfl)⟩ hw dX7_isOpen_34
  · have c13 : ¬ x12.toInt = (0 : Int) := wk_eqF c13
    refine lv_iconst (v := 1) hx hb dX7_isOpen_29 (by decide) ?_
    refine lv_goto (tgt := 34) hx hb dX7_isOpen_30 (by decide) ?_
    exact tk_zret hC hr rfl hlocks hK ⟨hT, hF, (Or.inr rfl)⟩ hw dX7_isOpen_34
abbrev P_X7_openHours_2 (ad : Nat → Nat) (cy : Nat → ClassId) (B : Int) (qr : Nat) (s1 : Int) (a1 : Int32) (a3 : Int64) (w0 : va_W) : Int32 → va_W → Prop := fun r u => TW ksC ad cy B qr s1 u ∧ FE ksC ([] : List (Nat × Nat × Nat)) w0 u ∧ ((0 ≤ r.toInt ∧ r.toInt ≤ 16777215))
set_option maxHeartbeats 4000000 in
set_option maxRecDepth 100000 in
theorem k_X7_openHours_2 (l : Launch) (adK adV : Nat → Nat) (dC : Nat → ClassId) (dI : Nat → Nat → Nat) (cy : Nat → ClassId) (ad : Nat → Nat) (B : Int) (hB0 : 2147483648 ≤ B) (hB1 : B ≤ 1152921504606846976) (qr : Nat) (s1 : Int)  (a1 : Int32) (ra1 : 0 ≤ a1.toInt) (ta1 : a1.toInt ≤ 11) (a3 : Int64) (ra3 : 0 ≤ a3.toInt) (ta3 : a3.toInt ≤ 89478485) (w0 : va_W) (sz : Nat) (hT : TW ksC ad cy B qr s1 w0)  : Met l yX7_openHours (wu yX7_openHours cX7_openHours 8 (some .int)) ({ frames := 1, cells := 0, slots := 0, locals := 12 }) (va_Pc [.ref (ad 39), .int a1, .int 1, .long a3, .int 1] (wpreS adK adV dC dI cy sz w0)) (va_Qi (P_X7_openHours_2 ad cy B qr s1 a1 a3 w0) (fun u : va_W => wpost dC dI cy (va_A w0 sz) u) (va_A w0 sz)) 0 0 (va_A w0 sz) := by
  refine Met.ofW (cc := cX7_openHours) (maxL := 8) (ret := (some .int)) (by decide) rfl ?_
  intro p e s m args below meth c s₁ Bk hml hv
  obtain ⟨rfl, ⟨hsz, hP, hK, hD0⟩, hE, hSR⟩ := hv
  have hx := Bk.exec
  have hb := Bk.bytes
  have hr := Bk.returns
  have hlocks := Bk.notSynchronized
  have hC : CallFix p m c cX7_openHours 8 s _ (wu yX7_openHours cX7_openHours 8 (some .int)) RX7 := ⟨hx, hb, hml, findClass_of_methodNamed Bk.named, atoms_spec (ws := (wu yX7_openHours cX7_openHours 8 (some .int))) Bk.pre⟩
  subst hsz
  have hD := hD0.self (sz := s.heap.size)
  generalize hAe : va_A w0 s.heap.size = A at hD hE ⊢
  have hA : ∀ q : Nat, s.heap.size ≤ q → A q := fun q h => by rw [← hAe]; exact Or.inr h
  have hw : Wd dC dI A s.heap s.heap [] w0 := ⟨hP, hD, va_S.rf⟩
  have hF : FE ksC ([] : List (Nat × Nat × Nat)) w0 w0 := FE.rf
  have hl := lv_entry ([.ref (ad 39), .int a1, .int 1, .long a3, .int 1]) (n := 8) (Nat.le_of_ble_eq_true rfl)
  rw [lg_entry_eq]
  generalize (lg_sl ([.ref (ad 39), .int a1, .int 1, .long a3, .int 1]) ++ List.replicate (8 - (lg_sl ([.ref (ad 39), .int a1, .int 1, .long a3, .int 1])).length) Slot.unset).toArray = ls at hl ⊢
  have hl : lv_has ls 8 [(0, .ref (ad 39)), (1, .int a1), (2, .int 1), (3, .long a3), (5, .int 1)] := hl
  generalize hloc : ([] : List Loc) = locs at hw ⊢
  have hinX7 : ∀ w ∈ u_ws RX7 TX7 12, w ∈ (wu yX7_openHours cX7_openHours 8 (some .int)) := fun _ h => List.mem_cons_of_mem _ (up_73 h)
  have J93 : ∀ (v93_6 : Int32) (v93_7 : Int32) (H : Heap) (locs : List Loc) (ls : Array Slot) (w1 : va_W), 0 ≤ a1.toInt → a1.toInt ≤ 11 → 0 ≤ a3.toInt → a3.toInt ≤ 89478485 → 0 ≤ v93_7.toInt → v93_7.toInt ≤ 8 → Wd dC dI A s.heap H locs w1 → TW ksC ad cy B qr s1 w1 → FE ksC ([] : List (Nat × Nat × Nat)) w0 w1 → lv_has ls 8 [(0, .ref (ad 39)), (1, .int a1), (2, .int 1), (3, .long a3), (5, .int 1), (6, .int v93_6), (7, .int v93_7)] → W p l e ({ frames := 1, cells := 0, slots := 0, locals := 12 }) s m (List.toArray [.ref (ad 39), .int a1, .int 1, .long a3, .int 1]) below meth c H locs 0 0 (MQ below (va_Qi (P_X7_openHours_2 ad cy B qr s1 a1 a3 w0) (fun u : va_W => wpost dC dI cy A u) A) (List.toArray [.ref (ad 39), .int a1, .int 1, .long a3, .int 1]) s 0 0 A) (F0 m 93 ls []) := by
    intro v93_6 v93_7 H locs ls w1 r2 t3 r4 t5 r6 t7 hw hT hF hl
    refine lv_ldc (v := 16777215) hx hb hC.2.2.2.1 (hC.2.2.2.2 _ (List.mem_cons_of_mem _ uw_31_17)) dX7_openHours_93 ?_
    refine lv_aload_n hx hb dX7_openHours_95 rfl (lv_at hl 0 rfl) ?_
    refine tk_getO hC hK hw hT hinX7 kC_at39 (by decide) rfl 3 (by decide) (List.mem_cons_of_mem _ uw_2_20) rfl rfl dX7_openHours_96 ?_
    refine lv_iload_n hx hb dX7_openHours_99 rfl (lv_at hl 1 rfl) ?_
    refine tk_iald hC hK hw hT kC_at43 rfl rfl (show 0 ≤ a1.toInt from r2) (show a1.toInt < 13 from Int.lt_of_le_of_lt t3 (by decide)) dX7_openHours_100 (fun x8 c9 rx8 tx8 => ?_)
    refine lv_iconst (v := (-1)) hx hb dX7_openHours_101 (by decide) ?_
    refine lv_ixor hx hb dX7_openHours_102 ?_
    refine lv_topi (fun x10 ex10 => ?_)
    refine lv_iand hx hb dX7_openHours_103 ?_
    refine lv_topi (fun x11 ex11 => ?_)
    have bx11 : 0 ≤ x11.toInt ∧ x11.toInt ≤ (16777215 : Int) := by rw [ex11]; exact wk_andC (by decide)
    exact tk_iret hC hr hlocks hK ⟨hT, hF, ⟨(show 0 ≤ x11.toInt by first | with_reducible assumption | omega), (show x11.toInt ≤ 16777215 by first | with_reducible assumption | omega)⟩⟩ hw dX7_openHours_104
  have L44 : ∀ (n44 : Nat) (v44_6 : Int32) (v44_7 : Int32) (H : Heap) (locs : List Loc) (ls : Array Slot) (w12 : va_W), 0 ≤ a1.toInt → a1.toInt ≤ 11 → 0 ≤ a3.toInt → a3.toInt ≤ 89478485 → 0 ≤ v44_7.toInt → v44_7.toInt ≤ 8 → (8 - v44_7.toInt).toNat < n44 → Wd dC dI A s.heap H locs w12 → TW ksC ad cy B qr s1 w12 → FE ksC ([] : List (Nat × Nat × Nat)) w0 w12 → lv_has ls 8 [(0, .ref (ad 39)), (1, .int a1), (2, .int 1), (3, .long a3), (5, .int 1), (6, .int v44_6), (7, .int v44_7)] → W p l e ({ frames := 1, cells := 0, slots := 0, locals := 12 }) s m (List.toArray [.ref (ad 39), .int a1, .int 1, .long a3, .int 1]) below meth c H locs 0 0 (MQ below (va_Qi (P_X7_openHours_2 ad cy B qr s1 a1 a3 w0) (fun u : va_W => wpost dC dI cy A u) A) (List.toArray [.ref (ad 39), .int a1, .int 1, .long a3, .int 1]) s 0 0 A) (F0 m 44 ls []) := by
    intro n44
    induction n44 with
    | zero => intro v44_6 v44_7 H locs ls w12 r13 t14 r15 t16 r17 t18 hm44 hw hT hF hl; omega
    | succ n44 ih44 =>
      intro v44_6 v44_7 H locs ls w12 r13 t14 r15 t16 r17 t18 hm44 hw hT hF hl
      have J81 : ∀ (H : Heap) (locs : List Loc) (ls : Array Slot) (w19 : va_W), 0 ≤ a1.toInt → a1.toInt ≤ 11 → 0 ≤ a3.toInt → a3.toInt ≤ 89478485 → 0 ≤ v44_7.toInt → v44_7.toInt ≤ 7 → Wd dC dI A s.heap H locs w19 → TW ksC ad cy B qr s1 w19 → FE ksC ([] : List (Nat × Nat × Nat)) w0 w19 → lv_has ls 8 [(0, .ref (ad 39)), (1, .int a1), (2, .int 1), (3, .long a3), (5, .int 1), (6, .int v44_6), (7, .int v44_7)] → W p l e ({ frames := 1, cells := 0, slots := 0, locals := 12 }) s m (List.toArray [.ref (ad 39), .int a1, .int 1, .long a3, .int 1]) below meth c H locs 0 0 (MQ below (va_Qi (P_X7_openHours_2 ad cy B qr s1 a1 a3 w0) (fun u : va_W => wpost dC dI cy A u) A) (List.toArray [.ref (ad 39), .int a1, .int 1, .long a3, .int 1]) s 0 0 A) (F0 m 81 ls []) := by
        intro H locs ls w19 r20 t21 r22 t23 r24 t25 hw hT hF hl
        refine lv_iload hx hb dX7_openHours_81 (lv_at hl 5 rfl) ?_
        refine lv_iconst (v := 1) hx hb dX7_openHours_83 (by decide) ?_
        refine lv_ishr hx hb dX7_openHours_84 ?_
        refine lv_topi (fun x26 ex26 => ?_)
        refine lv_istore (lv' := [(6, .int x26), (0, .ref (ad 39)), (1, .int a1), (2, .int 1), (3, .long a3), (5, .int 1), (7, .int v44_7)]) hx hb dX7_openHours_85 hl (by decide) rfl (fun ls hl => ?_)
        obtain ⟨x27, ex27⟩ : ∃ y : Int32, y = v44_7 + Int32.ofInt 1 := ⟨_, rfl⟩
        refine lv_iinc (v := x27) (lv' := [(7, .int x27), (6, .int x26), (0, .ref (ad 39)), (1, .int a1), (2, .int 1), (3, .long a3), (5, .int 1)]) hx hb dX7_openHours_87 hl (k := 6) rfl ex27.symm (by decide) rfl (fun ls hl => ?_)
        have ex27 : x27.toInt = v44_7.toInt + 1 := by rw [ex27]; exact wk_add (y := 1) (show -2147483648 ≤ v44_7.toInt + 1 by omega) (show v44_7.toInt + 1 ≤ 2147483647 by omega)
        refine lv_goto (tgt := 44) hx hb dX7_openHours_90 (by decide) ?_
        exact ih44 x26 x27 H locs ls w19 (show 0 ≤ a1.toInt from r20) (show a1.toInt ≤ 11 from t21) (show 0 ≤ a3.toInt from r22) (show a3.toInt ≤ 89478485 from t23) (show 0 ≤ x27.toInt by first | with_reducible assumption | omega) (show x27.toInt ≤ 8 by first | with_reducible assumption | omega) (show (8 - x27.toInt).toNat < n44 by first | exact tn_lt hm44 (by omega) (by omega) | omega) hw hT hF  (lv_sub hl [2, 3, 4, 5, 6, 1, 0] rfl)
      refine lv_iload hx hb dX7_openHours_44 (lv_at hl 5 rfl) ?_
      refine lv_if_eq (tgt := 93) hx hb dX7_openHours_46 (by decide) (fun c28 => ?_) (fun c28 => ?_)
      · have c28 : v44_6.toInt = (0 : Int) := wk_eq.mp c28
        exact J93 v44_6 v44_7 H locs ls w12 (show 0 ≤ a1.toInt from r13) (show a1.toInt ≤ 11 from t14) (show 0 ≤ a3.toInt from r15) (show a3.toInt ≤ 89478485 from t16) (show 0 ≤ v44_7.toInt from r17) (show v44_7.toInt ≤ 8 from t18)  hw hT hF  (lv_sub hl [0, 1, 2, 3, 4, 5, 6] rfl)
      · have c28 : ¬ v44_6.toInt = (0 : Int) := wk_eqF c28
        refine lv_iload hx hb dX7_openHours_49 (lv_at hl 6 rfl) ?_
        refine lv_bipush (v := 8) hx hb dX7_openHours_51 (by decide) ?_
        refine lv_icmp_ge (tgt := 93) hx hb dX7_openHours_53 (by decide) (fun c29 => ?_) (fun c29 => ?_)
        · have c29 : (8 : Int) ≤ v44_7.toInt := wk_le.mp c29
          exact J93 v44_6 v44_7 H locs ls w12 (show 0 ≤ a1.toInt from r13) (show a1.toInt ≤ 11 from t14) (show 0 ≤ a3.toInt from r15) (show a3.toInt ≤ 89478485 from t16) (show 0 ≤ v44_7.toInt from r17) (show v44_7.toInt ≤ 8 from t18)  hw hT hF  (lv_sub hl [0, 1, 2, 3, 4, 5, 6] rfl)
        · have c29 : v44_7.toInt < (8 : Int) := wk_leF c29
          refine lv_iload hx hb dX7_openHours_56 (lv_at hl 5 rfl) ?_
          refine lv_iconst (v := 1) hx hb dX7_openHours_58 (by decide) ?_
          refine lv_iand hx hb dX7_openHours_59 ?_
          refine lv_topi (fun x30 ex30 => ?_)
          have bx30 : 0 ≤ x30.toInt ∧ x30.toInt ≤ (1 : Int) := by rw [ex30]; exact wk_and (by decide)
          refine lv_if_eq (tgt := 81) hx hb dX7_openHours_60 (by decide) (fun c31 => ?_) (fun c31 => ?_)
          · have c31 : x30.toInt = (0 : Int) := wk_eq.mp c31
            exact J81  H locs ls w12 (show 0 ≤ a1.toInt from r13) (show a1.toInt ≤ 11 from t14) (show 0 ≤ a3.toInt from r15) (show a3.toInt ≤ 89478485 from t16) (show 0 ≤ v44_7.toInt from r17) (show v44_7.toInt ≤ 7 by first | with_reducible assumption | omega)  hw hT hF  (lv_sub hl [0, 1, 2, 3, 4, 5, 6] rfl)
          · have c31 : ¬ x30.toInt = (0 : Int) := wk_eqF c31
            refine lv_aload_n hx hb dX7_openHours_63 rfl (lv_at hl 0 rfl) ?_
            refine tk_getO hC hK hw hT hinX7 kC_at39 (by decide) rfl 6 (by decide) (List.mem_cons_of_mem _ uw_2_23) rfl rfl dX7_openHours_64 ?_
            refine lv_iload hx hb dX7_openHours_67 (lv_at hl 6 rfl) ?_
            refine tk_iald hC hK hw hT kC_at46 rfl rfl (show 0 ≤ v44_7.toInt from r17) (show v44_7.toInt < 8 from c29) dX7_openHours_69 (fun x32 c33 rx32 tx32 => ?_)
            refine lv_lload_n hx hb dX7_openHours_70 rfl (lv_at hl 3 rfl) ?_
            refine lv_ldc2 (v := 360) hx hb hC.2.2.2.1 (hC.2.2.2.2 _ (List.mem_cons_of_mem _ uw_31_16)) dX7_openHours_71 ?_
            refine lv_lrem hx hb dX7_openHours_74 (by decide) ?_
            refine lv_topl (fun x34 ex34 => ?_)
            have ex34 : x34.toInt = a3.toInt % (360 : Int) := by rw [ex34]; exact wk_reml (show 0 ≤ a3.toInt from r15) (show 0 < (360 : Int) by decide)
            refine lv_l2i hx hb dX7_openHours_75 rfl ?_
            refine lv_topi (fun x35 ex35 => ?_)
            have ex35 : x35.toInt = x34.toInt := by rw [ex35]; exact wk_l2i (by omega) (by omega)
            refine lv_icmp_ne (tgt := 81) hx hb dX7_openHours_76 (by decide) (fun c36 => ?_) (fun c36 => ?_)
            · have c36 : ¬ x32.toInt = x35.toInt := wk_eqF c36
              exact J81  H locs ls w12 (show 0 ≤ a1.toInt from r13) (show a1.toInt ≤ 11 from t14) (show 0 ≤ a3.toInt from r15) (show a3.toInt ≤ 89478485 from t16) (show 0 ≤ v44_7.toInt from r17) (show v44_7.toInt ≤ 7 by first | with_reducible assumption | omega)  hw hT hF  (lv_sub hl [0, 1, 2, 3, 4, 5, 6] rfl)
            · have c36 : x32.toInt = x35.toInt := wk_eq.mp c36
              refine lv_iconst (v := 0) hx hb dX7_openHours_79 (by decide) ?_
              exact tk_iret hC hr hlocks hK ⟨hT, hF, ⟨(by decide), (by decide)⟩⟩ hw dX7_openHours_80
  refine lv_aload_n hx hb dX7_openHours_0 rfl (lv_at hl 0 rfl) ?_
  refine tk_getO hC hK hw hT hinX7 kC_at39 (by decide) rfl 4 (by decide) (List.mem_cons_of_mem _ uw_2_21) rfl rfl dX7_openHours_1 ?_
  refine lv_iconst (v := 2) hx hb dX7_openHours_4 (by decide) ?_
  refine lv_iload_n hx hb dX7_openHours_5 rfl (lv_at hl 1 rfl) ?_
  refine lv_imul hx hb dX7_openHours_6 ?_
  refine lv_topi (fun x37 ex37 => ?_)
  have ex37 : x37.toInt = (2 : Int) * a1.toInt := by rw [ex37]; exact wk_mul (show (-2147483648) ≤ (2 : Int) * a1.toInt by omega) (show (2 : Int) * a1.toInt ≤ 2147483647 by omega)
  refine lv_iload_n hx hb dX7_openHours_7 rfl (lv_at hl 2 rfl) ?_
  refine lv_iadd hx hb dX7_openHours_8 ?_
  refine lv_topi (fun x38 ex38 => ?_)
  have ex38 : x38.toInt = x37.toInt + (1 : Int) := by rw [ex38]; exact wk_add (show (-2147483648) ≤ x37.toInt + (1 : Int) by omega) (show x37.toInt + (1 : Int) ≤ 2147483647 by omega)
  refine tk_iald hC hK hw hT kC_at44 rfl rfl (show 0 ≤ x38.toInt by first | with_reducible assumption | omega) (show x38.toInt < 26 by first | with_reducible assumption | omega) dX7_openHours_9 (fun x39 c40 rx39 tx39 => ?_)
  refine lv_lload_n hx hb dX7_openHours_10 rfl (lv_at hl 3 rfl) ?_
  refine lv_ldc2 (v := 7) hx hb hC.2.2.2.1 (hC.2.2.2.2 _ (List.mem_cons_of_mem _ uw_31_15)) dX7_openHours_11 ?_
  refine lv_lrem hx hb dX7_openHours_14 (by decide) ?_
  refine lv_topl (fun x41 ex41 => ?_)
  have ex41 : x41.toInt = a3.toInt % (7 : Int) := by rw [ex41]; exact wk_reml (show 0 ≤ a3.toInt from ra3) (show 0 < (7 : Int) by decide)
  refine lv_l2i hx hb dX7_openHours_15 rfl ?_
  refine lv_topi (fun x42 ex42 => ?_)
  have ex42 : x42.toInt = x41.toInt := by rw [ex42]; exact wk_l2i (by omega) (by omega)
  refine lv_ishr hx hb dX7_openHours_16 ?_
  refine lv_topi (fun x43 ex43 => ?_)
  refine lv_iconst (v := 1) hx hb dX7_openHours_17 (by decide) ?_
  refine lv_iand hx hb dX7_openHours_18 ?_
  refine lv_topi (fun x44 ex44 => ?_)
  have bx44 : 0 ≤ x44.toInt ∧ x44.toInt ≤ (1 : Int) := by rw [ex44]; exact wk_and (by decide)
  refine lv_if_ne (tgt := 24) hx hb dX7_openHours_19 (by decide) (fun c45 => ?_) (fun c45 => ?_)
  · have c45 : ¬ x44.toInt = (0 : Int) := wk_eqF c45
    refine lv_iload hx hb dX7_openHours_24 (lv_at hl 4 rfl) ?_
    refine lv_if_eq (tgt := 38) hx hb dX7_openHours_26 (by decide) (fun c => absurd c (by decide)) (fun _ => ?_)
    refine lv_aload_n hx hb dX7_openHours_29 rfl (lv_at hl 0 rfl) ?_
    refine tk_getO hC hK hw hT hinX7 kC_at39 (by decide) rfl 7 (by decide) (List.mem_cons_of_mem _ uw_3_0) rfl rfl dX7_openHours_30 ?_
    refine lv_iload_n hx hb dX7_openHours_33 rfl (lv_at hl 1 rfl) ?_
    refine tk_iald hC hK hw hT kC_at47 rfl rfl (show 0 ≤ a1.toInt from ra1) (show a1.toInt < 13 from Int.lt_of_le_of_lt ta1 (by decide)) dX7_openHours_34 (fun x46 c47 rx46 tx46 => ?_)
    refine lv_goto (tgt := 39) hx hb dX7_openHours_35 (by decide) ?_
    refine lv_istore (lv' := [(6, .int x46), (0, .ref (ad 39)), (1, .int a1), (2, .int 1), (3, .long a3), (5, .int 1)]) hx hb dX7_openHours_39 hl (by decide) rfl (fun ls hl => ?_)
    refine lv_iconst (v := 0) hx hb dX7_openHours_41 (by decide) ?_
    refine lv_istore (lv' := [(7, .int 0), (6, .int x46), (0, .ref (ad 39)), (1, .int a1), (2, .int 1), (3, .long a3), (5, .int 1)]) hx hb dX7_openHours_42 hl (by decide) rfl (fun ls hl => ?_)
    exact L44 ((8 - (0 : Int)).toNat + 1) x46 0 s.heap locs ls w0 (show 0 ≤ a1.toInt from ra1) (show a1.toInt ≤ 11 from ta1) (show 0 ≤ a3.toInt from ra3) (show a3.toInt ≤ 89478485 from ta3) (by decide) (by decide) (Nat.lt_succ_self _) hw hT hF  (lv_sub hl [2, 3, 4, 5, 6, 1, 0] rfl)
  · have c45 : x44.toInt = (0 : Int) := wk_eq.mp c45
    refine lv_iconst (v := 0) hx hb dX7_openHours_22 (by decide) ?_
    exact tk_iret hC hr hlocks hK ⟨hT, hF, ⟨(by decide), (by decide)⟩⟩ hw dX7_openHours_23
abbrev P_X7_isOpen_2 (ad : Nat → Nat) (cy : Nat → ClassId) (B : Int) (qr : Nat) (s1 : Int) (a1 : Int32) (a3 : Int64) (w0 : va_W) : Int32 → va_W → Prop := fun r u => TW ksC ad cy B qr s1 u ∧ FE ksC ([] : List (Nat × Nat × Nat)) w0 u ∧ ((r = 0) ∨ (r = 1))
set_option maxHeartbeats 4000000 in
set_option maxRecDepth 100000 in
theorem k_X7_isOpen_2 (l : Launch) (adK adV : Nat → Nat) (dC : Nat → ClassId) (dI : Nat → Nat → Nat) (cy : Nat → ClassId) (ad : Nat → Nat) (B : Int) (hB0 : 2147483648 ≤ B) (hB1 : B ≤ 1152921504606846976) (qr : Nat) (s1 : Int)  (a1 : Int32) (ra1 : 0 ≤ a1.toInt) (ta1 : a1.toInt ≤ 11) (a3 : Int64) (ra3 : 0 ≤ a3.toInt) (ta3 : a3.toInt ≤ 2147483647) (w0 : va_W) (sz : Nat) (hT : TW ksC ad cy B qr s1 w0)  : Met l yX7_isOpen (wu yX7_isOpen cX7_isOpen 7 (some .boolean)) ({ frames := 2, cells := 0, slots := 0, locals := 39 }) (va_Pc [.ref (ad 39), .int a1, .int 1, .long a3, .int 1] (wpreS adK adV dC dI cy sz w0)) (va_Qi (P_X7_isOpen_2 ad cy B qr s1 a1 a3 w0) (fun u : va_W => wpost dC dI cy (va_A w0 sz) u) (va_A w0 sz)) 0 0 (va_A w0 sz) := by
  refine Met.ofW (cc := cX7_isOpen) (maxL := 7) (ret := (some .boolean)) (by decide) rfl ?_
  intro p e s m args below meth c s₁ Bk hml hv
  obtain ⟨rfl, ⟨hsz, hP, hK, hD0⟩, hE, hSR⟩ := hv
  have hx := Bk.exec
  have hb := Bk.bytes
  have hr := Bk.returns
  have hlocks := Bk.notSynchronized
  have hC : CallFix p m c cX7_isOpen 7 s _ (wu yX7_isOpen cX7_isOpen 7 (some .boolean)) RX7 := ⟨hx, hb, hml, findClass_of_methodNamed Bk.named, atoms_spec (ws := (wu yX7_isOpen cX7_isOpen 7 (some .boolean))) Bk.pre⟩
  subst hsz
  have hD := hD0.self (sz := s.heap.size)
  generalize hAe : va_A w0 s.heap.size = A at hD hE ⊢
  have hA : ∀ q : Nat, s.heap.size ≤ q → A q := fun q h => by rw [← hAe]; exact Or.inr h
  have hw : Wd dC dI A s.heap s.heap [] w0 := ⟨hP, hD, va_S.rf⟩
  have hF : FE ksC ([] : List (Nat × Nat × Nat)) w0 w0 := FE.rf
  have hl := lv_entry ([.ref (ad 39), .int a1, .int 1, .long a3, .int 1]) (n := 7) (Nat.le_of_ble_eq_true rfl)
  rw [lg_entry_eq]
  generalize (lg_sl ([.ref (ad 39), .int a1, .int 1, .long a3, .int 1]) ++ List.replicate (7 - (lg_sl ([.ref (ad 39), .int a1, .int 1, .long a3, .int 1])).length) Slot.unset).toArray = ls at hl ⊢
  have hl : lv_has ls 7 [(0, .ref (ad 39)), (1, .int a1), (2, .int 1), (3, .long a3), (5, .int 1)] := hl
  generalize hloc : ([] : List Loc) = locs at hw ⊢
  refine lv_aload_n hx hb dX7_isOpen_0 rfl (lv_at hl 0 rfl) ?_
  refine lv_iload_n hx hb dX7_isOpen_1 rfl (lv_at hl 1 rfl) ?_
  refine lv_iload_n hx hb dX7_isOpen_2 rfl (lv_at hl 2 rfl) ?_
  refine lv_lload_n hx hb dX7_isOpen_3 rfl (lv_at hl 3 rfl) ?_
  refine lv_ldc2 (v := 24) hx hb hC.2.2.2.1 (hC.2.2.2.2 _ (List.mem_cons_of_mem _ uw_31_10)) dX7_isOpen_4 ?_
  refine lv_ldiv hx hb dX7_isOpen_7 (by decide) ?_
  refine lv_topl (fun x1 ex1 => ?_)
  have ex1 : x1.toInt = a3.toInt / (24 : Int) := by rw [ex1]; exact wk_divl (show 0 ≤ a3.toInt from ra3) (show 0 < (24 : Int) by decide)
  refine lv_iload hx hb dX7_isOpen_8 (lv_at hl 4 rfl) ?_
  refine tk_Vi hC hK hw hT hA hE hSR kC_at39 (by decide) rfl (k_X7_openHours_2 l adK adV dC dI cy ad B hB0 (Int.le_trans hB1 (by decide)) qr s1   a1 (show 0 ≤ a1.toInt from ra1) (show a1.toInt ≤ 11 from ta1) x1 (show 0 ≤ x1.toInt by first | with_reducible assumption | omega) (show x1.toInt ≤ 89478485 by first | with_reducible assumption | omega) w0 s.heap.size hT ) (cwV 4 hC.2.2.2.2 uV_RX7_148 rfl rfl rfl (by decide +kernel) ⟨Nat.le_of_ble_eq_true rfl, Nat.le_of_ble_eq_true rfl⟩) rfl hl.1 rfl (Nat.le_of_ble_eq_true rfl) dX7_isOpen_10 (fun r2 w4 H locs hp3 hw => ?_)
  obtain ⟨hT, k5, hg8⟩ := hp3
  have hF := hF.tr k5 (by decide)
  obtain ⟨g6, g7⟩ := hg8
  refine lv_istore (lv' := [(6, .int r2), (0, .ref (ad 39)), (1, .int a1), (2, .int 1), (3, .long a3), (5, .int 1)]) hx hb dX7_isOpen_13 hl (by decide) rfl (fun ls hl => ?_)
  refine lv_iload hx hb dX7_isOpen_15 (lv_at hl 0 rfl) ?_
  refine lv_lload_n hx hb dX7_isOpen_17 rfl (lv_at hl 4 rfl) ?_
  refine lv_ldc2 (v := 24) hx hb hC.2.2.2.1 (hC.2.2.2.2 _ (List.mem_cons_of_mem _ uw_31_10)) dX7_isOpen_18 ?_
  refine lv_lrem hx hb dX7_isOpen_21 (by decide) ?_
  refine lv_topl (fun x9 ex9 => ?_)
  have ex9 : x9.toInt = a3.toInt % (24 : Int) := by rw [ex9]; exact wk_reml (show 0 ≤ a3.toInt from ra3) (show 0 < (24 : Int) by decide)
  refine lv_l2i hx hb dX7_isOpen_22 rfl ?_
  refine lv_topi (fun x10 ex10 => ?_)
  have ex10 : x10.toInt = x9.toInt := by rw [ex10]; exact wk_l2i (by omega) (by omega)
  refine lv_ishr hx hb dX7_isOpen_23 ?_
  refine lv_topi (fun x11 ex11 => ?_)
  have bx11 : 0 ≤ x11.toInt ∧ x11.toInt ≤ r2.toInt := by rw [ex11]; exact wk_shr (by omega)
  refine lv_iconst (v := 1) hx hb dX7_isOpen_24 (by decide) ?_
  refine lv_iand hx hb dX7_isOpen_25 ?_
  refine lv_topi (fun x12 ex12 => ?_)
  have bx12 : 0 ≤ x12.toInt ∧ x12.toInt ≤ (1 : Int) := by rw [ex12]; exact wk_and (by decide)
  refine lv_if_eq (tgt := 33) hx hb dX7_isOpen_26 (by decide) (fun c13 => ?_) (fun c13 => ?_)
  · have c13 : x12.toInt = (0 : Int) := wk_eq.mp c13
    refine lv_iconst (v := 0) hx hb dX7_isOpen_33 (by decide) ?_
    exact tk_zret hC hr rfl hlocks hK ⟨hT, hF, (Or.inl rfl)⟩ hw dX7_isOpen_34
  · have c13 : ¬ x12.toInt = (0 : Int) := wk_eqF c13
    refine lv_iconst (v := 1) hx hb dX7_isOpen_29 (by decide) ?_
    refine lv_goto (tgt := 34) hx hb dX7_isOpen_30 (by decide) ?_
    exact tk_zret hC hr rfl hlocks hK ⟨hT, hF, (Or.inr rfl)⟩ hw dX7_isOpen_34
abbrev P_X11_open_1 (ad : Nat → Nat) (cy : Nat → ClassId) (B : Int) (qr : Nat) (s1 : Int) (a1 : Int32) (a2 : Int32) (a3 : Int32) (w0 : va_W) : Int32 → va_W → Prop := fun r u => TW ksC ad cy B qr s1 u ∧ FE ksC ([] : List (Nat × Nat × Nat)) w0 u ∧ ((0 ≤ r.toInt ∧ r.toInt ≤ 1 ∧ 0 ≤ a1.toInt ∧ a1.toInt ≤ 11 ∧ 0 ≤ a2.toInt ∧ a2.toInt ≤ 9 ∧ 0 ≤ a3.toInt ∧ (∃ y : Int32, gi u 39 9 = y ∧ 1 ≤ y.toInt ∧ y.toInt ≤ 12) ∧ gi u 40 (2 * a1.toInt + 0).toNat = a2) ∨ (0 ≤ r.toInt ∧ r.toInt ≤ 1 ∧ 0 ≤ a1.toInt ∧ a1.toInt ≤ 11 ∧ 0 ≤ a2.toInt ∧ a2.toInt ≤ 9 ∧ 0 ≤ a3.toInt ∧ (∃ y : Int32, gi u 39 9 = y ∧ 1 ≤ y.toInt ∧ y.toInt ≤ 12) ∧ gi u 40 (2 * a1.toInt + 1).toNat = a2) ∨ (r = (-1)))
set_option maxHeartbeats 4000000 in
set_option maxRecDepth 100000 in
theorem k_X11_open_1 (l : Launch) (adK adV : Nat → Nat) (dC : Nat → ClassId) (dI : Nat → Nat → Nat) (cy : Nat → ClassId) (ad : Nat → Nat) (B : Int) (hB0 : 2147483648 ≤ B) (hB1 : B ≤ 1152921504606846976) (qr : Nat) (s1 : Int)  (a1 : Int32) (a2 : Int32) (a3 : Int32) (w0 : va_W) (sz : Nat) (hT : TW ksC ad cy B qr s1 w0)  : Met l yX11_open (wu yX11_open cX11_open 6 (some .int)) ({ frames := 3, cells := 0, slots := 0, locals := 65 }) (va_Pc [.ref (ad 0), .int a1, .int a2, .int a3] (wpreS adK adV dC dI cy sz w0)) (va_Qi (P_X11_open_1 ad cy B qr s1 a1 a2 a3 w0) (fun u : va_W => wpost dC dI cy (va_A w0 sz) u) (va_A w0 sz)) 0 0 (va_A w0 sz) := by
  refine Met.ofW (cc := cX11_open) (maxL := 6) (ret := (some .int)) (by decide) rfl ?_
  intro p e s m args below meth c s₁ Bk hml hv
  obtain ⟨rfl, ⟨hsz, hP, hK, hD0⟩, hE, hSR⟩ := hv
  have hx := Bk.exec
  have hb := Bk.bytes
  have hr := Bk.returns
  have hlocks := Bk.notSynchronized
  have hC : CallFix p m c cX11_open 6 s _ (wu yX11_open cX11_open 6 (some .int)) RX11 := ⟨hx, hb, hml, findClass_of_methodNamed Bk.named, atoms_spec (ws := (wu yX11_open cX11_open 6 (some .int))) Bk.pre⟩
  subst hsz
  have hD := hD0.self (sz := s.heap.size)
  generalize hAe : va_A w0 s.heap.size = A at hD hE ⊢
  have hA : ∀ q : Nat, s.heap.size ≤ q → A q := fun q h => by rw [← hAe]; exact Or.inr h
  have hw : Wd dC dI A s.heap s.heap [] w0 := ⟨hP, hD, va_S.rf⟩
  have hF : FE ksC ([] : List (Nat × Nat × Nat)) w0 w0 := FE.rf
  have hl := lv_entry ([.ref (ad 0), .int a1, .int a2, .int a3]) (n := 6) (Nat.le_of_ble_eq_true rfl)
  rw [lg_entry_eq]
  generalize (lg_sl ([.ref (ad 0), .int a1, .int a2, .int a3]) ++ List.replicate (6 - (lg_sl ([.ref (ad 0), .int a1, .int a2, .int a3])).length) Slot.unset).toArray = ls at hl ⊢
  have hl : lv_has ls 6 [(0, .ref (ad 0)), (1, .int a1), (2, .int a2), (3, .int a3)] := hl
  generalize hloc : ([] : List Loc) = locs at hw ⊢
  have hinX11 : ∀ w ∈ u_ws RX11 TX11 13, w ∈ (wu yX11_open cX11_open 6 (some .int)) := fun _ h => List.mem_cons_of_mem _ (up_70 h)
  have hinX5 : ∀ w ∈ u_ws RX5 TX5 14, w ∈ (wu yX11_open cX11_open 6 (some .int)) := fun _ h => List.mem_cons_of_mem _ (up_76 h)
  have J22 : ∀ (H : Heap) (locs : List Loc) (ls : Array Slot) (w1 : va_W), Wd dC dI A s.heap H locs w1 → TW ksC ad cy B qr s1 w1 → FE ksC ([] : List (Nat × Nat × Nat)) w0 w1 → lv_has ls 6 [(0, .ref (ad 0)), (1, .int a1), (2, .int a2), (3, .int a3), (4, .ref (ad 39))] → W p l e ({ frames := 3, cells := 0, slots := 0, locals := 65 }) s m (List.toArray [.ref (ad 0), .int a1, .int a2, .int a3]) below meth c H locs 0 0 (MQ below (va_Qi (P_X11_open_1 ad cy B qr s1 a1 a2 a3 w0) (fun u : va_W => wpost dC dI cy A u) A) (List.toArray [.ref (ad 0), .int a1, .int a2, .int a3]) s 0 0 A) (F0 m 22 ls []) := by
    intro H locs ls w1 hw hT hF hl
    refine lv_iconst (v := (-1)) hx hb dX11_open_22 (by decide) ?_
    exact tk_iret hC hr hlocks hK ⟨hT, hF, (Or.inr (Or.inr rfl))⟩ hw dX11_open_23
  refine lv_aload_n hx hb dX11_open_0 rfl (lv_at hl 0 rfl) ?_
  refine tk_getA hC hK hw hT hinX11 kC_at0 (by decide) rfl 4 (by decide) (List.mem_cons_of_mem _ uw_1_7) rfl rfl dX11_open_1 ?_
  refine tk_getO hC hK hw hT hinX5 kC_at38 (by decide) rfl 0 (by decide) (List.mem_cons_of_mem _ uw_9_1) rfl rfl dX11_open_4 ?_
  refine lv_astore (lv' := [(4, .ref (ad 39)), (0, .ref (ad 0)), (1, .int a1), (2, .int a2), (3, .int a3)]) hx hb dX11_open_7 hl (by decide) rfl (fun ls hl => ?_)
  refine lv_aload hx hb dX11_open_9 (lv_at hl 0 rfl) ?_
  refine lv_iload_n hx hb dX11_open_11 rfl (lv_at hl 2 rfl) ?_
  refine tk_Vi hC hK hw hT hA hE hSR kC_at39 (by decide) rfl (k_X7_hasStreet_1 l adK adV dC dI cy ad B hB0 (Int.le_trans hB1 (by decide)) qr s1   a1 w0 s.heap.size hT ) (cwV 1 hC.2.2.2.2 uV_RX11_133 rfl rfl rfl (by decide +kernel) ⟨Nat.le_of_ble_eq_true rfl, Nat.le_of_ble_eq_true rfl⟩) rfl hl.1 rfl (Nat.le_of_ble_eq_true rfl) dX11_open_12 (fun r2 w4 H locs hp3 hw => ?_)
  obtain ⟨hT, k5, hg10⟩ := hp3
  have hF := hF.tr k5 (by decide)
  rcases hg10 with rfl | ⟨rfl, g6, g7, ⟨x8, c9, rx8, tx8⟩⟩
  · refine lv_if_eq (tgt := 22) hx hb dX11_open_15 (by decide) (fun _ => ?_) (fun c => absurd (by decide) c)
    exact J22  H locs ls w4   hw hT hF  (lv_sub hl [1, 2, 3, 4, 0] rfl)
  · refine lv_if_eq (tgt := 22) hx hb dX11_open_15 (by decide) (fun c => absurd c (by decide)) (fun _ => ?_)
    refine lv_iload_n hx hb dX11_open_18 rfl (lv_at hl 4 rfl) ?_
    refine lv_if_ge (tgt := 24) hx hb dX11_open_19 (by decide) (fun c11 => ?_) (fun c11 => ?_)
    · have c11 : (0 : Int) ≤ a3.toInt := wk_le.mp c11
      refine lv_aload hx hb dX11_open_24 (lv_at hl 0 rfl) ?_
      refine lv_iload_n hx hb dX11_open_26 rfl (lv_at hl 2 rfl) ?_
      refine lv_iload_n hx hb dX11_open_27 rfl (lv_at hl 3 rfl) ?_
      refine tk_Vi hC hK hw hT hA hE hSR kC_at39 (by decide) rfl (k_X7_sideOf_1 l adK adV dC dI cy ad B hB0 (Int.le_trans hB1 (by decide)) qr s1   a1 (show 0 ≤ a1.toInt by first | with_reducible assumption | omega) (show a1.toInt ≤ 11 by first | with_reducible assumption | omega) a2 w4 H.size hT ) (cwV 2 hC.2.2.2.2 uV_RX11_148 rfl rfl rfl (by decide +kernel) ⟨Nat.le_of_ble_eq_true rfl, Nat.le_of_ble_eq_true rfl⟩) rfl hl.1 rfl (Nat.le_of_ble_eq_true rfl) dX11_open_28 (fun r12 w14 H locs hp13 hw => ?_)
      obtain ⟨hT, k15, hg22⟩ := hp13
      have hF := hF.tr k15 (by decide)
      have c23 := k15.gi kC_at39 (by decide) c9
      rcases hg22 with rfl | ⟨rfl, g16, g17, c18⟩ | ⟨rfl, g19, g20, c21⟩
      · refine lv_istore (lv' := [(5, .int (-1)), (4, .ref (ad 39)), (0, .ref (ad 0)), (1, .int a1), (2, .int a2), (3, .int a3)]) hx hb dX11_open_31 hl (by decide) rfl (fun ls hl => ?_)
        refine lv_iload hx hb dX11_open_33 (lv_at hl 0 rfl) ?_
        refine lv_iconst (v := (-1)) hx hb dX11_open_35 (by decide) ?_
        refine lv_icmp_ne (tgt := 41) hx hb dX11_open_36 (by decide) (fun c => absurd (by decide) c) (fun _ => ?_)
        refine lv_iconst (v := (-1)) hx hb dX11_open_39 (by decide) ?_
        exact tk_iret hC hr hlocks hK ⟨hT, hF, (Or.inr (Or.inr rfl))⟩ hw dX11_open_40
      · refine lv_istore (lv' := [(5, .int 0), (4, .ref (ad 39)), (0, .ref (ad 0)), (1, .int a1), (2, .int a2), (3, .int a3)]) hx hb dX11_open_31 hl (by decide) rfl (fun ls hl => ?_)
        refine lv_iload hx hb dX11_open_33 (lv_at hl 0 rfl) ?_
        refine lv_iconst (v := (-1)) hx hb dX11_open_35 (by decide) ?_
        refine lv_icmp_ne (tgt := 41) hx hb dX11_open_36 (by decide) (fun _ => ?_) (fun c => absurd c (by decide))
        refine lv_aload hx hb dX11_open_41 (lv_at hl 1 rfl) ?_
        refine lv_iload_n hx hb dX11_open_43 rfl (lv_at hl 3 rfl) ?_
        refine lv_iload hx hb dX11_open_44 (lv_at hl 0 rfl) ?_
        refine lv_iload_n hx hb dX11_open_46 rfl (lv_at hl 5 rfl) ?_
        refine lv_i2l hx hb dX11_open_47 rfl ?_
        refine lv_topl (fun x24 ex24 => ?_)
        have ex24 : x24.toInt = a3.toInt := by rw [ex24]; exact wk_i2l _
        have bx24 := wk_i32 a3
        refine lv_iconst (v := 1) hx hb dX11_open_48 (by decide) ?_
        refine tk_Vi hC hK hw hT hA hE hSR kC_at39 (by decide) rfl (k_X7_isOpen_1 l adK adV dC dI cy ad B hB0 (Int.le_trans hB1 (by decide)) qr s1   a1 (show 0 ≤ a1.toInt by first | with_reducible assumption | omega) (show a1.toInt ≤ 11 by first | with_reducible assumption | omega) x24 (show 0 ≤ x24.toInt by first | with_reducible assumption | omega) (show x24.toInt ≤ 2147483647 by first | with_reducible assumption | omega) w14 H.size hT ) (cwV 4 hC.2.2.2.2 uV_RX11_151 rfl rfl rfl (by decide +kernel) ⟨Nat.le_of_ble_eq_true rfl, Nat.le_of_ble_eq_true rfl⟩) rfl hl.1 rfl (Nat.le_of_ble_eq_true rfl) dX11_open_49 (fun r25 w27 H locs hp26 hw => ?_)
        obtain ⟨hT, k28, hg29⟩ := hp26
        have hF := hF.tr k28 (by decide)
        have c30 := k28.gi kC_at39 (by decide) c23
        have c31 := k28.gi kC_at40 rfl c18
        rcases hg29 with rfl | rfl
        · refine lv_if_eq (tgt := 59) hx hb dX11_open_52 (by decide) (fun _ => ?_) (fun c => absurd (by decide) c)
          refine lv_iconst (v := 0) hx hb dX11_open_59 (by decide) ?_
          exact tk_iret hC hr hlocks hK ⟨hT, hF, (Or.inl ⟨(by decide), (by decide), (show 0 ≤ a1.toInt by first | with_reducible assumption | omega), (show a1.toInt ≤ 11 by first | with_reducible assumption | omega), (show 0 ≤ a2.toInt by first | with_reducible assumption | omega), (show a2.toInt ≤ 9 by first | with_reducible assumption | omega), (show 0 ≤ a3.toInt from c11), ⟨x8, c30, (show 1 ≤ x8.toInt by first | with_reducible assumption | omega), (show x8.toInt ≤ 12 by first | with_reducible assumption | omega)⟩, c31⟩)⟩ hw dX11_open_60
        · refine lv_if_eq (tgt := 59) hx hb dX11_open_52 (by decide) (fun c => absurd c (by decide)) (fun _ => ?_)
          refine lv_iconst (v := 1) hx hb dX11_open_55 (by decide) ?_
          refine lv_goto (tgt := 60) hx hb dX11_open_56 (by decide) ?_
          exact tk_iret hC hr hlocks hK ⟨hT, hF, (Or.inl ⟨(by decide), (by decide), (show 0 ≤ a1.toInt by first | with_reducible assumption | omega), (show a1.toInt ≤ 11 by first | with_reducible assumption | omega), (show 0 ≤ a2.toInt by first | with_reducible assumption | omega), (show a2.toInt ≤ 9 by first | with_reducible assumption | omega), (show 0 ≤ a3.toInt from c11), ⟨x8, c30, (show 1 ≤ x8.toInt by first | with_reducible assumption | omega), (show x8.toInt ≤ 12 by first | with_reducible assumption | omega)⟩, c31⟩)⟩ hw dX11_open_60
      · refine lv_istore (lv' := [(5, .int 1), (4, .ref (ad 39)), (0, .ref (ad 0)), (1, .int a1), (2, .int a2), (3, .int a3)]) hx hb dX11_open_31 hl (by decide) rfl (fun ls hl => ?_)
        refine lv_iload hx hb dX11_open_33 (lv_at hl 0 rfl) ?_
        refine lv_iconst (v := (-1)) hx hb dX11_open_35 (by decide) ?_
        refine lv_icmp_ne (tgt := 41) hx hb dX11_open_36 (by decide) (fun _ => ?_) (fun c => absurd c (by decide))
        refine lv_aload hx hb dX11_open_41 (lv_at hl 1 rfl) ?_
        refine lv_iload_n hx hb dX11_open_43 rfl (lv_at hl 3 rfl) ?_
        refine lv_iload hx hb dX11_open_44 (lv_at hl 0 rfl) ?_
        refine lv_iload_n hx hb dX11_open_46 rfl (lv_at hl 5 rfl) ?_
        refine lv_i2l hx hb dX11_open_47 rfl ?_
        refine lv_topl (fun x32 ex32 => ?_)
        have ex32 : x32.toInt = a3.toInt := by rw [ex32]; exact wk_i2l _
        have bx32 := wk_i32 a3
        refine lv_iconst (v := 1) hx hb dX11_open_48 (by decide) ?_
        refine tk_Vi hC hK hw hT hA hE hSR kC_at39 (by decide) rfl (k_X7_isOpen_2 l adK adV dC dI cy ad B hB0 (Int.le_trans hB1 (by decide)) qr s1   a1 (show 0 ≤ a1.toInt by first | with_reducible assumption | omega) (show a1.toInt ≤ 11 by first | with_reducible assumption | omega) x32 (show 0 ≤ x32.toInt by first | with_reducible assumption | omega) (show x32.toInt ≤ 2147483647 by first | with_reducible assumption | omega) w14 H.size hT ) (cwV 4 hC.2.2.2.2 uV_RX11_151 rfl rfl rfl (by decide +kernel) ⟨Nat.le_of_ble_eq_true rfl, Nat.le_of_ble_eq_true rfl⟩) rfl hl.1 rfl (Nat.le_of_ble_eq_true rfl) dX11_open_49 (fun r33 w35 H locs hp34 hw => ?_)
        obtain ⟨hT, k36, hg37⟩ := hp34
        have hF := hF.tr k36 (by decide)
        have c38 := k36.gi kC_at39 (by decide) c23
        have c39 := k36.gi kC_at40 rfl c21
        rcases hg37 with rfl | rfl
        · refine lv_if_eq (tgt := 59) hx hb dX11_open_52 (by decide) (fun _ => ?_) (fun c => absurd (by decide) c)
          refine lv_iconst (v := 0) hx hb dX11_open_59 (by decide) ?_
          exact tk_iret hC hr hlocks hK ⟨hT, hF, (Or.inr (Or.inl ⟨(by decide), (by decide), (show 0 ≤ a1.toInt by first | with_reducible assumption | omega), (show a1.toInt ≤ 11 by first | with_reducible assumption | omega), (show 0 ≤ a2.toInt by first | with_reducible assumption | omega), (show a2.toInt ≤ 9 by first | with_reducible assumption | omega), (show 0 ≤ a3.toInt from c11), ⟨x8, c38, (show 1 ≤ x8.toInt by first | with_reducible assumption | omega), (show x8.toInt ≤ 12 by first | with_reducible assumption | omega)⟩, c39⟩))⟩ hw dX11_open_60
        · refine lv_if_eq (tgt := 59) hx hb dX11_open_52 (by decide) (fun c => absurd c (by decide)) (fun _ => ?_)
          refine lv_iconst (v := 1) hx hb dX11_open_55 (by decide) ?_
          refine lv_goto (tgt := 60) hx hb dX11_open_56 (by decide) ?_
          exact tk_iret hC hr hlocks hK ⟨hT, hF, (Or.inr (Or.inl ⟨(by decide), (by decide), (show 0 ≤ a1.toInt by first | with_reducible assumption | omega), (show a1.toInt ≤ 11 by first | with_reducible assumption | omega), (show 0 ≤ a2.toInt by first | with_reducible assumption | omega), (show a2.toInt ≤ 9 by first | with_reducible assumption | omega), (show 0 ≤ a3.toInt from c11), ⟨x8, c38, (show 1 ≤ x8.toInt by first | with_reducible assumption | omega), (show x8.toInt ≤ 12 by first | with_reducible assumption | omega)⟩, c39⟩))⟩ hw dX11_open_60
    · have c11 : a3.toInt < (0 : Int) := wk_leF c11
      exact J22  H locs ls w4   hw hT hF  (lv_sub hl [1, 2, 3, 4, 0] rfl)
abbrev P_X11_isWeekday_1 (ad : Nat → Nat) (cy : Nat → ClassId) (B : Int) (qr : Nat) (s1 : Int) (a0 : Int32) (w0 : va_W) : Int32 → va_W → Prop := fun r u => TW ksC ad cy B qr s1 u ∧ FE ksC ([] : List (Nat × Nat × Nat)) w0 u ∧ ((r = 0) ∨ (r = 1 ∧ 0 ≤ a0.toInt ∧ a0.toInt ≤ 6))
set_option maxHeartbeats 4000000 in
set_option maxRecDepth 100000 in
theorem k_X11_isWeekday_1 (l : Launch) (adK adV : Nat → Nat) (dC : Nat → ClassId) (dI : Nat → Nat → Nat) (cy : Nat → ClassId) (ad : Nat → Nat) (B : Int) (hB0 : 2147483648 ≤ B) (hB1 : B ≤ 1152921504606846976) (qr : Nat) (s1 : Int)  (a0 : Int32) (w0 : va_W) (sz : Nat) (hT : TW ksC ad cy B qr s1 w0)  : Met l yX11_isWeekday (wu yX11_isWeekday cX11_isWeekday 1 (some .boolean)) ({ frames := 1, cells := 0, slots := 0, locals := 12 }) (va_Pc [.int a0] (wpreS adK adV dC dI cy sz w0)) (va_Qi (P_X11_isWeekday_1 ad cy B qr s1 a0 w0) (fun u : va_W => wpost dC dI cy (va_A w0 sz) u) (va_A w0 sz)) 0 0 (va_A w0 sz) := by
  refine Met.ofW (cc := cX11_isWeekday) (maxL := 1) (ret := (some .boolean)) (by decide) rfl ?_
  intro p e s m args below meth c s₁ Bk hml hv
  obtain ⟨rfl, ⟨hsz, hP, hK, hD0⟩, hE, hSR⟩ := hv
  have hx := Bk.exec
  have hb := Bk.bytes
  have hr := Bk.returns
  have hlocks := Bk.notSynchronized
  have hC : CallFix p m c cX11_isWeekday 1 s _ (wu yX11_isWeekday cX11_isWeekday 1 (some .boolean)) RX11 := ⟨hx, hb, hml, findClass_of_methodNamed Bk.named, atoms_spec (ws := (wu yX11_isWeekday cX11_isWeekday 1 (some .boolean))) Bk.pre⟩
  subst hsz
  have hD := hD0.self (sz := s.heap.size)
  generalize hAe : va_A w0 s.heap.size = A at hD hE ⊢
  have hA : ∀ q : Nat, s.heap.size ≤ q → A q := fun q h => by rw [← hAe]; exact Or.inr h
  have hw : Wd dC dI A s.heap s.heap [] w0 := ⟨hP, hD, va_S.rf⟩
  have hF : FE ksC ([] : List (Nat × Nat × Nat)) w0 w0 := FE.rf
  have hl := lv_entry ([.int a0]) (n := 1) (Nat.le_of_ble_eq_true rfl)
  rw [lg_entry_eq]
  generalize (lg_sl ([.int a0]) ++ List.replicate (1 - (lg_sl ([.int a0])).length) Slot.unset).toArray = ls at hl ⊢
  have hl : lv_has ls 1 [(0, .int a0)] := hl
  generalize hloc : ([] : List Loc) = locs at hw ⊢
  have J14 : ∀ (H : Heap) (locs : List Loc) (ls : Array Slot) (w1 : va_W), Wd dC dI A s.heap H locs w1 → TW ksC ad cy B qr s1 w1 → FE ksC ([] : List (Nat × Nat × Nat)) w0 w1 → lv_has ls 1 [(0, .int a0)] → W p l e ({ frames := 1, cells := 0, slots := 0, locals := 12 }) s m (List.toArray [.int a0]) below meth c H locs 0 0 (MQ below (va_Qi (P_X11_isWeekday_1 ad cy B qr s1 a0 w0) (fun u : va_W => wpost dC dI cy A u) A) (List.toArray [.int a0]) s 0 0 A) (F0 m 14 ls []) := by
    intro H locs ls w1 hw hT hF hl
    refine lv_iconst (v := 0) hx hb dX11_isWeekday_14 (by decide) ?_
    exact tk_zret hC hr rfl hlocks hK ⟨hT, hF, (Or.inl rfl)⟩ hw dX11_isWeekday_15
  refine lv_iload_n hx hb dX11_isWeekday_0 rfl (lv_at hl 0 rfl) ?_
  refine lv_if_lt (tgt := 14) hx hb dX11_isWeekday_1 (by decide) (fun c2 => ?_) (fun c2 => ?_)
  · have c2 : a0.toInt < (0 : Int) := wk_lt.mp c2
    exact J14  s.heap locs ls w0   hw hT hF  (lv_sub hl [0] rfl)
  · have c2 : (0 : Int) ≤ a0.toInt := wk_ltF c2
    refine lv_iload_n hx hb dX11_isWeekday_4 rfl (lv_at hl 0 rfl) ?_
    refine lv_bipush (v := 7) hx hb dX11_isWeekday_5 (by decide) ?_
    refine lv_icmp_ge (tgt := 14) hx hb dX11_isWeekday_7 (by decide) (fun c3 => ?_) (fun c3 => ?_)
    · have c3 : (7 : Int) ≤ a0.toInt := wk_le.mp c3
      exact J14  s.heap locs ls w0   hw hT hF  (lv_sub hl [0] rfl)
    · have c3 : a0.toInt < (7 : Int) := wk_leF c3
      refine lv_iconst (v := 1) hx hb dX11_isWeekday_10 (by decide) ?_
      refine lv_goto (tgt := 15) hx hb dX11_isWeekday_11 (by decide) ?_
      exact tk_zret hC hr rfl hlocks hK ⟨hT, hF, (Or.inr ⟨rfl, (show 0 ≤ a0.toInt from c2), (show a0.toInt ≤ 6 by first | with_reducible assumption | omega)⟩)⟩ hw dX11_isWeekday_15
abbrev P_X5_hasTown_1 (ad : Nat → Nat) (cy : Nat → ClassId) (B : Int) (qr : Nat) (s1 : Int)  (w0 : va_W) : Int32 → va_W → Prop := fun r u => TW ksC ad cy B qr s1 u ∧ FE ksC ([] : List (Nat × Nat × Nat)) w0 u ∧ ((r = 0 ∧ (∃ y : Int32, gi u 39 8 = y ∧ (-1) ≤ y.toInt ∧ y.toInt ≤ 0)) ∨ (r = 1 ∧ (∃ y : Int32, gi u 39 8 = y ∧ 1 ≤ y.toInt ∧ y.toInt ≤ 10)))
set_option maxHeartbeats 4000000 in
set_option maxRecDepth 100000 in
theorem k_X5_hasTown_1 (l : Launch) (adK adV : Nat → Nat) (dC : Nat → ClassId) (dI : Nat → Nat → Nat) (cy : Nat → ClassId) (ad : Nat → Nat) (B : Int) (hB0 : 2147483648 ≤ B) (hB1 : B ≤ 1152921504606846976) (qr : Nat) (s1 : Int)   (w0 : va_W) (sz : Nat) (hT : TW ksC ad cy B qr s1 w0)  : Met l yX5_hasTown (wu yX5_hasTown cX5_hasTown 1 (some .boolean)) ({ frames := 1, cells := 0, slots := 0, locals := 12 }) (va_Pc [.ref (ad 38)] (wpreS adK adV dC dI cy sz w0)) (va_Qi (P_X5_hasTown_1 ad cy B qr s1  w0) (fun u : va_W => wpost dC dI cy (va_A w0 sz) u) (va_A w0 sz)) 0 0 (va_A w0 sz) := by
  refine Met.ofW (cc := cX5_hasTown) (maxL := 1) (ret := (some .boolean)) (by decide) rfl ?_
  intro p e s m args below meth c s₁ Bk hml hv
  obtain ⟨rfl, ⟨hsz, hP, hK, hD0⟩, hE, hSR⟩ := hv
  have hx := Bk.exec
  have hb := Bk.bytes
  have hr := Bk.returns
  have hlocks := Bk.notSynchronized
  have hC : CallFix p m c cX5_hasTown 1 s _ (wu yX5_hasTown cX5_hasTown 1 (some .boolean)) RX5 := ⟨hx, hb, hml, findClass_of_methodNamed Bk.named, atoms_spec (ws := (wu yX5_hasTown cX5_hasTown 1 (some .boolean))) Bk.pre⟩
  subst hsz
  have hD := hD0.self (sz := s.heap.size)
  generalize hAe : va_A w0 s.heap.size = A at hD hE ⊢
  have hA : ∀ q : Nat, s.heap.size ≤ q → A q := fun q h => by rw [← hAe]; exact Or.inr h
  have hw : Wd dC dI A s.heap s.heap [] w0 := ⟨hP, hD, va_S.rf⟩
  have hF : FE ksC ([] : List (Nat × Nat × Nat)) w0 w0 := FE.rf
  have hl := lv_entry ([.ref (ad 38)]) (n := 1) (Nat.le_of_ble_eq_true rfl)
  rw [lg_entry_eq]
  generalize (lg_sl ([.ref (ad 38)]) ++ List.replicate (1 - (lg_sl ([.ref (ad 38)])).length) Slot.unset).toArray = ls at hl ⊢
  have hl : lv_has ls 1 [(0, .ref (ad 38))] := hl
  generalize hloc : ([] : List Loc) = locs at hw ⊢
  have hinX5 : ∀ w ∈ u_ws RX5 TX5 14, w ∈ (wu yX5_hasTown cX5_hasTown 1 (some .boolean)) := fun _ h => List.mem_cons_of_mem _ (up_76 h)
  have hinX7 : ∀ w ∈ u_ws RX7 TX7 12, w ∈ (wu yX5_hasTown cX5_hasTown 1 (some .boolean)) := fun _ h => List.mem_cons_of_mem _ (up_73 h)
  refine lv_aload_n hx hb dX5_hasTown_0 rfl (lv_at hl 0 rfl) ?_
  refine tk_getO hC hK hw hT hinX5 kC_at38 (by decide) rfl 0 (by decide) (List.mem_cons_of_mem _ uw_3_18) rfl rfl dX5_hasTown_1 ?_
  refine tk_geti hC hK hw hT hinX7 kC_at39 (by decide) rfl 8 (by decide) (List.mem_cons_of_mem _ uw_33_21) rfl rfl dX5_hasTown_4 (fun x1 c2 rx1 tx1 => ?_)
  refine lv_if_le (tgt := 14) hx hb dX5_hasTown_7 (by decide) (fun c3 => ?_) (fun c3 => ?_)
  · have c3 : x1.toInt ≤ (0 : Int) := wk_le.mp c3
    refine lv_iconst (v := 0) hx hb dX5_hasTown_14 (by decide) ?_
    exact tk_zret hC hr rfl hlocks hK ⟨hT, hF, (Or.inl ⟨rfl, ⟨x1, c2, (show (-1) ≤ x1.toInt from rx1), (show x1.toInt ≤ 0 from c3)⟩⟩)⟩ hw dX5_hasTown_15
  · have c3 : (0 : Int) < x1.toInt := wk_leF c3
    refine lv_iconst (v := 1) hx hb dX5_hasTown_10 (by decide) ?_
    refine lv_goto (tgt := 15) hx hb dX5_hasTown_11 (by decide) ?_
    exact tk_zret hC hr rfl hlocks hK ⟨hT, hF, (Or.inr ⟨rfl, ⟨x1, c2, (show 1 ≤ x1.toInt by first | with_reducible assumption | omega), (show x1.toInt ≤ 10 from tx1)⟩⟩)⟩ hw dX5_hasTown_15
abbrev P_X11_hasMap_1 (ad : Nat → Nat) (cy : Nat → ClassId) (B : Int) (qr : Nat) (s1 : Int) (a1 : Int32) (w0 : va_W) : Int32 → va_W → Prop := fun r u => TW ksC ad cy B qr s1 u ∧ FE ksC ([] : List (Nat × Nat × Nat)) w0 u ∧ ((r = 0) ∨ (r = 1 ∧ 0 ≤ a1.toInt ∧ a1.toInt ≤ 3 ∧ (∃ y : Int32, gi u 38 8 = y ∧ 1 ≤ y.toInt ∧ y.toInt ≤ 4)))
set_option maxHeartbeats 4000000 in
set_option maxRecDepth 100000 in
theorem k_X11_hasMap_1 (l : Launch) (adK adV : Nat → Nat) (dC : Nat → ClassId) (dI : Nat → Nat → Nat) (cy : Nat → ClassId) (ad : Nat → Nat) (B : Int) (hB0 : 2147483648 ≤ B) (hB1 : B ≤ 1152921504606846976) (qr : Nat) (s1 : Int)  (a1 : Int32) (w0 : va_W) (sz : Nat) (hT : TW ksC ad cy B qr s1 w0)  : Met l yX11_hasMap (wu yX11_hasMap cX11_hasMap 2 (some .boolean)) ({ frames := 1, cells := 0, slots := 0, locals := 12 }) (va_Pc [.ref (ad 0), .int a1] (wpreS adK adV dC dI cy sz w0)) (va_Qi (P_X11_hasMap_1 ad cy B qr s1 a1 w0) (fun u : va_W => wpost dC dI cy (va_A w0 sz) u) (va_A w0 sz)) 0 0 (va_A w0 sz) := by
  refine Met.ofW (cc := cX11_hasMap) (maxL := 2) (ret := (some .boolean)) (by decide) rfl ?_
  intro p e s m args below meth c s₁ Bk hml hv
  obtain ⟨rfl, ⟨hsz, hP, hK, hD0⟩, hE, hSR⟩ := hv
  have hx := Bk.exec
  have hb := Bk.bytes
  have hr := Bk.returns
  have hlocks := Bk.notSynchronized
  have hC : CallFix p m c cX11_hasMap 2 s _ (wu yX11_hasMap cX11_hasMap 2 (some .boolean)) RX11 := ⟨hx, hb, hml, findClass_of_methodNamed Bk.named, atoms_spec (ws := (wu yX11_hasMap cX11_hasMap 2 (some .boolean))) Bk.pre⟩
  subst hsz
  have hD := hD0.self (sz := s.heap.size)
  generalize hAe : va_A w0 s.heap.size = A at hD hE ⊢
  have hA : ∀ q : Nat, s.heap.size ≤ q → A q := fun q h => by rw [← hAe]; exact Or.inr h
  have hw : Wd dC dI A s.heap s.heap [] w0 := ⟨hP, hD, va_S.rf⟩
  have hF : FE ksC ([] : List (Nat × Nat × Nat)) w0 w0 := FE.rf
  have hl := lv_entry ([.ref (ad 0), .int a1]) (n := 2) (Nat.le_of_ble_eq_true rfl)
  rw [lg_entry_eq]
  generalize (lg_sl ([.ref (ad 0), .int a1]) ++ List.replicate (2 - (lg_sl ([.ref (ad 0), .int a1])).length) Slot.unset).toArray = ls at hl ⊢
  have hl : lv_has ls 2 [(0, .ref (ad 0)), (1, .int a1)] := hl
  generalize hloc : ([] : List Loc) = locs at hw ⊢
  have hinX11 : ∀ w ∈ u_ws RX11 TX11 13, w ∈ (wu yX11_hasMap cX11_hasMap 2 (some .boolean)) := fun _ h => List.mem_cons_of_mem _ (up_70 h)
  have hinX5 : ∀ w ∈ u_ws RX5 TX5 14, w ∈ (wu yX11_hasMap cX11_hasMap 2 (some .boolean)) := fun _ h => List.mem_cons_of_mem _ (up_76 h)
  have J19 : ∀ (H : Heap) (locs : List Loc) (ls : Array Slot) (w1 : va_W), Wd dC dI A s.heap H locs w1 → TW ksC ad cy B qr s1 w1 → FE ksC ([] : List (Nat × Nat × Nat)) w0 w1 → lv_has ls 2 [(0, .ref (ad 0)), (1, .int a1)] → W p l e ({ frames := 1, cells := 0, slots := 0, locals := 12 }) s m (List.toArray [.ref (ad 0), .int a1]) below meth c H locs 0 0 (MQ below (va_Qi (P_X11_hasMap_1 ad cy B qr s1 a1 w0) (fun u : va_W => wpost dC dI cy A u) A) (List.toArray [.ref (ad 0), .int a1]) s 0 0 A) (F0 m 19 ls []) := by
    intro H locs ls w1 hw hT hF hl
    refine lv_iconst (v := 0) hx hb dX11_hasMap_19 (by decide) ?_
    exact tk_zret hC hr rfl hlocks hK ⟨hT, hF, (Or.inl rfl)⟩ hw dX11_hasMap_20
  refine lv_iload_n hx hb dX11_hasMap_0 rfl (lv_at hl 1 rfl) ?_
  refine lv_if_lt (tgt := 19) hx hb dX11_hasMap_1 (by decide) (fun c2 => ?_) (fun c2 => ?_)
  · have c2 : a1.toInt < (0 : Int) := wk_lt.mp c2
    exact J19  s.heap locs ls w0   hw hT hF  (lv_sub hl [0, 1] rfl)
  · have c2 : (0 : Int) ≤ a1.toInt := wk_ltF c2
    refine lv_iload_n hx hb dX11_hasMap_4 rfl (lv_at hl 1 rfl) ?_
    refine lv_aload_n hx hb dX11_hasMap_5 rfl (lv_at hl 0 rfl) ?_
    refine tk_getA hC hK hw hT hinX11 kC_at0 (by decide) rfl 4 (by decide) (List.mem_cons_of_mem _ uw_1_7) rfl rfl dX11_hasMap_6 ?_
    refine tk_geti hC hK hw hT hinX5 kC_at38 (by decide) rfl 8 (by decide) (List.mem_cons_of_mem _ uw_33_12) rfl rfl dX11_hasMap_9 (fun x3 c4 rx3 tx3 => ?_)
    refine lv_icmp_ge (tgt := 19) hx hb dX11_hasMap_12 (by decide) (fun c5 => ?_) (fun c5 => ?_)
    · have c5 : x3.toInt ≤ a1.toInt := wk_le.mp c5
      exact J19  s.heap locs ls w0   hw hT hF  (lv_sub hl [0, 1] rfl)
    · have c5 : a1.toInt < x3.toInt := wk_leF c5
      refine lv_iconst (v := 1) hx hb dX11_hasMap_15 (by decide) ?_
      refine lv_goto (tgt := 20) hx hb dX11_hasMap_16 (by decide) ?_
      exact tk_zret hC hr rfl hlocks hK ⟨hT, hF, (Or.inr ⟨rfl, (show 0 ≤ a1.toInt from c2), (show a1.toInt ≤ 3 by first | with_reducible assumption | omega), ⟨x3, c4, (show 1 ≤ x3.toInt by first | with_reducible assumption | omega), (show x3.toInt ≤ 4 from tx3)⟩⟩)⟩ hw dX11_hasMap_20
abbrev P_X11_hasCorner_1 (ad : Nat → Nat) (cy : Nat → ClassId) (B : Int) (qr : Nat) (s1 : Int) (a1 : Int32) (w0 : va_W) : Int32 → va_W → Prop := fun r u => TW ksC ad cy B qr s1 u ∧ FE ksC ([] : List (Nat × Nat × Nat)) w0 u ∧ ((r = 0) ∨ (r = 1 ∧ 0 ≤ a1.toInt ∧ a1.toInt ≤ 9 ∧ (∃ y : Int32, gi u 39 8 = y ∧ 1 ≤ y.toInt ∧ y.toInt ≤ 10)))
set_option maxHeartbeats 4000000 in
set_option maxRecDepth 100000 in
theorem k_X11_hasCorner_1 (l : Launch) (adK adV : Nat → Nat) (dC : Nat → ClassId) (dI : Nat → Nat → Nat) (cy : Nat → ClassId) (ad : Nat → Nat) (B : Int) (hB0 : 2147483648 ≤ B) (hB1 : B ≤ 1152921504606846976) (qr : Nat) (s1 : Int)  (a1 : Int32) (w0 : va_W) (sz : Nat) (hT : TW ksC ad cy B qr s1 w0)  : Met l yX11_hasCorner (wu yX11_hasCorner cX11_hasCorner 2 (some .boolean)) ({ frames := 1, cells := 0, slots := 0, locals := 12 }) (va_Pc [.ref (ad 0), .int a1] (wpreS adK adV dC dI cy sz w0)) (va_Qi (P_X11_hasCorner_1 ad cy B qr s1 a1 w0) (fun u : va_W => wpost dC dI cy (va_A w0 sz) u) (va_A w0 sz)) 0 0 (va_A w0 sz) := by
  refine Met.ofW (cc := cX11_hasCorner) (maxL := 2) (ret := (some .boolean)) (by decide) rfl ?_
  intro p e s m args below meth c s₁ Bk hml hv
  obtain ⟨rfl, ⟨hsz, hP, hK, hD0⟩, hE, hSR⟩ := hv
  have hx := Bk.exec
  have hb := Bk.bytes
  have hr := Bk.returns
  have hlocks := Bk.notSynchronized
  have hC : CallFix p m c cX11_hasCorner 2 s _ (wu yX11_hasCorner cX11_hasCorner 2 (some .boolean)) RX11 := ⟨hx, hb, hml, findClass_of_methodNamed Bk.named, atoms_spec (ws := (wu yX11_hasCorner cX11_hasCorner 2 (some .boolean))) Bk.pre⟩
  subst hsz
  have hD := hD0.self (sz := s.heap.size)
  generalize hAe : va_A w0 s.heap.size = A at hD hE ⊢
  have hA : ∀ q : Nat, s.heap.size ≤ q → A q := fun q h => by rw [← hAe]; exact Or.inr h
  have hw : Wd dC dI A s.heap s.heap [] w0 := ⟨hP, hD, va_S.rf⟩
  have hF : FE ksC ([] : List (Nat × Nat × Nat)) w0 w0 := FE.rf
  have hl := lv_entry ([.ref (ad 0), .int a1]) (n := 2) (Nat.le_of_ble_eq_true rfl)
  rw [lg_entry_eq]
  generalize (lg_sl ([.ref (ad 0), .int a1]) ++ List.replicate (2 - (lg_sl ([.ref (ad 0), .int a1])).length) Slot.unset).toArray = ls at hl ⊢
  have hl : lv_has ls 2 [(0, .ref (ad 0)), (1, .int a1)] := hl
  generalize hloc : ([] : List Loc) = locs at hw ⊢
  have hinX11 : ∀ w ∈ u_ws RX11 TX11 13, w ∈ (wu yX11_hasCorner cX11_hasCorner 2 (some .boolean)) := fun _ h => List.mem_cons_of_mem _ (up_70 h)
  have hinX5 : ∀ w ∈ u_ws RX5 TX5 14, w ∈ (wu yX11_hasCorner cX11_hasCorner 2 (some .boolean)) := fun _ h => List.mem_cons_of_mem _ (up_76 h)
  have hinX7 : ∀ w ∈ u_ws RX7 TX7 12, w ∈ (wu yX11_hasCorner cX11_hasCorner 2 (some .boolean)) := fun _ h => List.mem_cons_of_mem _ (up_73 h)
  have J22 : ∀ (H : Heap) (locs : List Loc) (ls : Array Slot) (w1 : va_W), Wd dC dI A s.heap H locs w1 → TW ksC ad cy B qr s1 w1 → FE ksC ([] : List (Nat × Nat × Nat)) w0 w1 → lv_has ls 2 [(0, .ref (ad 0)), (1, .int a1)] → W p l e ({ frames := 1, cells := 0, slots := 0, locals := 12 }) s m (List.toArray [.ref (ad 0), .int a1]) below meth c H locs 0 0 (MQ below (va_Qi (P_X11_hasCorner_1 ad cy B qr s1 a1 w0) (fun u : va_W => wpost dC dI cy A u) A) (List.toArray [.ref (ad 0), .int a1]) s 0 0 A) (F0 m 22 ls []) := by
    intro H locs ls w1 hw hT hF hl
    refine lv_iconst (v := 0) hx hb dX11_hasCorner_22 (by decide) ?_
    exact tk_zret hC hr rfl hlocks hK ⟨hT, hF, (Or.inl rfl)⟩ hw dX11_hasCorner_23
  refine lv_iload_n hx hb dX11_hasCorner_0 rfl (lv_at hl 1 rfl) ?_
  refine lv_if_lt (tgt := 22) hx hb dX11_hasCorner_1 (by decide) (fun c2 => ?_) (fun c2 => ?_)
  · have c2 : a1.toInt < (0 : Int) := wk_lt.mp c2
    exact J22  s.heap locs ls w0   hw hT hF  (lv_sub hl [0, 1] rfl)
  · have c2 : (0 : Int) ≤ a1.toInt := wk_ltF c2
    refine lv_iload_n hx hb dX11_hasCorner_4 rfl (lv_at hl 1 rfl) ?_
    refine lv_aload_n hx hb dX11_hasCorner_5 rfl (lv_at hl 0 rfl) ?_
    refine tk_getA hC hK hw hT hinX11 kC_at0 (by decide) rfl 4 (by decide) (List.mem_cons_of_mem _ uw_1_7) rfl rfl dX11_hasCorner_6 ?_
    refine tk_getO hC hK hw hT hinX5 kC_at38 (by decide) rfl 0 (by decide) (List.mem_cons_of_mem _ uw_9_1) rfl rfl dX11_hasCorner_9 ?_
    refine tk_geti hC hK hw hT hinX7 kC_at39 (by decide) rfl 8 (by decide) (List.mem_cons_of_mem _ uw_35_23) rfl rfl dX11_hasCorner_12 (fun x3 c4 rx3 tx3 => ?_)
    refine lv_icmp_ge (tgt := 22) hx hb dX11_hasCorner_15 (by decide) (fun c5 => ?_) (fun c5 => ?_)
    · have c5 : x3.toInt ≤ a1.toInt := wk_le.mp c5
      exact J22  s.heap locs ls w0   hw hT hF  (lv_sub hl [0, 1] rfl)
    · have c5 : a1.toInt < x3.toInt := wk_leF c5
      refine lv_iconst (v := 1) hx hb dX11_hasCorner_18 (by decide) ?_
      refine lv_goto (tgt := 23) hx hb dX11_hasCorner_19 (by decide) ?_
      exact tk_zret hC hr rfl hlocks hK ⟨hT, hF, (Or.inr ⟨rfl, (show 0 ≤ a1.toInt from c2), (show a1.toInt ≤ 9 by first | with_reducible assumption | omega), ⟨x3, c4, (show 1 ≤ x3.toInt by first | with_reducible assumption | omega), (show x3.toInt ≤ 10 from tx3)⟩⟩)⟩ hw dX11_hasCorner_23
abbrev P_X0_spot_1 (ad : Nat → Nat) (cy : Nat → ClassId) (B : Int) (qr : Nat) (s1 : Int) (a0 : Int32) (a1 : Int32) (a2 : Int32) (w0 : va_W) : Int32 → va_W → Prop := fun r u => TW ksC ad cy B qr s1 u ∧ FE ksC ([] : List (Nat × Nat × Nat)) w0 u ∧ ((0 ≤ r.toInt ∧ r.toInt ≤ 399))
set_option maxHeartbeats 4000000 in
set_option maxRecDepth 100000 in
theorem k_X0_spot_1 (l : Launch) (adK adV : Nat → Nat) (dC : Nat → ClassId) (dI : Nat → Nat → Nat) (cy : Nat → ClassId) (ad : Nat → Nat) (B : Int) (hB0 : 2147483648 ≤ B) (hB1 : B ≤ 1152921504606846976) (qr : Nat) (s1 : Int)  (a0 : Int32) (ra0 : 0 ≤ a0.toInt) (ta0 : a0.toInt ≤ 3) (a1 : Int32) (ra1 : 0 ≤ a1.toInt) (ta1 : a1.toInt ≤ 9) (a2 : Int32) (ra2 : 0 ≤ a2.toInt) (ta2 : a2.toInt ≤ 9) (w0 : va_W) (sz : Nat) (hT : TW ksC ad cy B qr s1 w0)  : Met l yX0_spot (wu yX0_spot cX0_spot 3 (some .int)) ({ frames := 1, cells := 0, slots := 0, locals := 12 }) (va_Pc [.int a0, .int a1, .int a2] (wpreS adK adV dC dI cy sz w0)) (va_Qi (P_X0_spot_1 ad cy B qr s1 a0 a1 a2 w0) (fun u : va_W => wpost dC dI cy (va_A w0 sz) u) (va_A w0 sz)) 0 0 (va_A w0 sz) := by
  refine Met.ofW (cc := cX0_spot) (maxL := 3) (ret := (some .int)) (by decide) rfl ?_
  intro p e s m args below meth c s₁ Bk hml hv
  obtain ⟨rfl, ⟨hsz, hP, hK, hD0⟩, hE, hSR⟩ := hv
  have hx := Bk.exec
  have hb := Bk.bytes
  have hr := Bk.returns
  have hlocks := Bk.notSynchronized
  have hC : CallFix p m c cX0_spot 3 s _ (wu yX0_spot cX0_spot 3 (some .int)) RX0 := ⟨hx, hb, hml, findClass_of_methodNamed Bk.named, atoms_spec (ws := (wu yX0_spot cX0_spot 3 (some .int))) Bk.pre⟩
  subst hsz
  have hD := hD0.self (sz := s.heap.size)
  generalize hAe : va_A w0 s.heap.size = A at hD hE ⊢
  have hA : ∀ q : Nat, s.heap.size ≤ q → A q := fun q h => by rw [← hAe]; exact Or.inr h
  have hw : Wd dC dI A s.heap s.heap [] w0 := ⟨hP, hD, va_S.rf⟩
  have hF : FE ksC ([] : List (Nat × Nat × Nat)) w0 w0 := FE.rf
  have hl := lv_entry ([.int a0, .int a1, .int a2]) (n := 3) (Nat.le_of_ble_eq_true rfl)
  rw [lg_entry_eq]
  generalize (lg_sl ([.int a0, .int a1, .int a2]) ++ List.replicate (3 - (lg_sl ([.int a0, .int a1, .int a2])).length) Slot.unset).toArray = ls at hl ⊢
  have hl : lv_has ls 3 [(0, .int a0), (1, .int a1), (2, .int a2)] := hl
  generalize hloc : ([] : List Loc) = locs at hw ⊢
  refine lv_iload_n hx hb dX0_spot_0 rfl (lv_at hl 0 rfl) ?_
  refine lv_bipush (v := 100) hx hb dX0_spot_1 (by decide) ?_
  refine lv_imul hx hb dX0_spot_3 ?_
  refine lv_topi (fun x1 ex1 => ?_)
  have ex1 : x1.toInt = a0.toInt * (100 : Int) := by rw [ex1]; exact wk_mul (show (-2147483648) ≤ a0.toInt * (100 : Int) by omega) (show a0.toInt * (100 : Int) ≤ 2147483647 by omega)
  refine lv_iload_n hx hb dX0_spot_4 rfl (lv_at hl 1 rfl) ?_
  refine lv_bipush (v := 10) hx hb dX0_spot_5 (by decide) ?_
  refine lv_imul hx hb dX0_spot_7 ?_
  refine lv_topi (fun x2 ex2 => ?_)
  have ex2 : x2.toInt = a1.toInt * (10 : Int) := by rw [ex2]; exact wk_mul (show (-2147483648) ≤ a1.toInt * (10 : Int) by omega) (show a1.toInt * (10 : Int) ≤ 2147483647 by omega)
  refine lv_iadd hx hb dX0_spot_8 ?_
  refine lv_topi (fun x3 ex3 => ?_)
  have ex3 : x3.toInt = x1.toInt + x2.toInt := by rw [ex3]; exact wk_add (show (-2147483648) ≤ x1.toInt + x2.toInt by omega) (show x1.toInt + x2.toInt ≤ 2147483647 by omega)
  refine lv_iload_n hx hb dX0_spot_9 rfl (lv_at hl 2 rfl) ?_
  refine lv_iadd hx hb dX0_spot_10 ?_
  refine lv_topi (fun x4 ex4 => ?_)
  have ex4 : x4.toInt = x3.toInt + a2.toInt := by rw [ex4]; exact wk_add (show (-2147483648) ≤ x3.toInt + a2.toInt by omega) (show x3.toInt + a2.toInt ≤ 2147483647 by omega)
  exact tk_iret hC hr hlocks hK ⟨hT, hF, ⟨(show 0 ≤ x4.toInt by first | with_reducible assumption | omega), (show x4.toInt ≤ 399 by first | with_reducible assumption | omega)⟩⟩ hw dX0_spot_11
abbrev P_X0_streetBy_1 (ad : Nat → Nat) (cy : Nat → ClassId) (B : Int) (qr : Nat) (s1 : Int) (a1 : Int32) (a2 : Int32) (a3 : Int32) (w0 : va_W) : Int32 → va_W → Prop := fun r u => TW ksC ad cy B qr s1 u ∧ FE ksC ([] : List (Nat × Nat × Nat)) w0 u ∧ (((-1) ≤ r.toInt ∧ r.toInt ≤ 11))
set_option maxHeartbeats 4000000 in
set_option maxRecDepth 100000 in
theorem k_X0_streetBy_1 (l : Launch) (adK adV : Nat → Nat) (dC : Nat → ClassId) (dI : Nat → Nat → Nat) (cy : Nat → ClassId) (ad : Nat → Nat) (B : Int) (hB0 : 2147483648 ≤ B) (hB1 : B ≤ 1152921504606846976) (qr : Nat) (s1 : Int)  (a1 : Int32) (ra1 : 0 ≤ a1.toInt) (ta1 : a1.toInt ≤ 3) (a2 : Int32) (ra2 : 0 ≤ a2.toInt) (ta2 : a2.toInt ≤ 9) (a3 : Int32) (ra3 : 0 ≤ a3.toInt) (ta3 : a3.toInt ≤ 9) (w0 : va_W) (sz : Nat) (hT : TW ksC ad cy B qr s1 w0)  : Met l yX0_streetBy (wu yX0_streetBy cX0_streetBy 4 (some .int)) ({ frames := 2, cells := 0, slots := 0, locals := 34 }) (va_Pc [.ref (ad 145), .int a1, .int a2, .int a3] (wpreS adK adV dC dI cy sz w0)) (va_Qi (P_X0_streetBy_1 ad cy B qr s1 a1 a2 a3 w0) (fun u : va_W => wpost dC dI cy (va_A w0 sz) u) (va_A w0 sz)) 0 0 (va_A w0 sz) := by
  refine Met.ofW (cc := cX0_streetBy) (maxL := 4) (ret := (some .int)) (by decide) rfl ?_
  intro p e s m args below meth c s₁ Bk hml hv
  obtain ⟨rfl, ⟨hsz, hP, hK, hD0⟩, hE, hSR⟩ := hv
  have hx := Bk.exec
  have hb := Bk.bytes
  have hr := Bk.returns
  have hlocks := Bk.notSynchronized
  have hC : CallFix p m c cX0_streetBy 4 s _ (wu yX0_streetBy cX0_streetBy 4 (some .int)) RX0 := ⟨hx, hb, hml, findClass_of_methodNamed Bk.named, atoms_spec (ws := (wu yX0_streetBy cX0_streetBy 4 (some .int))) Bk.pre⟩
  subst hsz
  have hD := hD0.self (sz := s.heap.size)
  generalize hAe : va_A w0 s.heap.size = A at hD hE ⊢
  have hA : ∀ q : Nat, s.heap.size ≤ q → A q := fun q h => by rw [← hAe]; exact Or.inr h
  have hw : Wd dC dI A s.heap s.heap [] w0 := ⟨hP, hD, va_S.rf⟩
  have hF : FE ksC ([] : List (Nat × Nat × Nat)) w0 w0 := FE.rf
  have hl := lv_entry ([.ref (ad 145), .int a1, .int a2, .int a3]) (n := 4) (Nat.le_of_ble_eq_true rfl)
  rw [lg_entry_eq]
  generalize (lg_sl ([.ref (ad 145), .int a1, .int a2, .int a3]) ++ List.replicate (4 - (lg_sl ([.ref (ad 145), .int a1, .int a2, .int a3])).length) Slot.unset).toArray = ls at hl ⊢
  have hl : lv_has ls 4 [(0, .ref (ad 145)), (1, .int a1), (2, .int a2), (3, .int a3)] := hl
  generalize hloc : ([] : List Loc) = locs at hw ⊢
  have hinX0 : ∀ w ∈ u_ws RX0 TX0 4, w ∈ (wu yX0_streetBy cX0_streetBy 4 (some .int)) := fun _ h => List.mem_cons_of_mem _ (up_77 h)
  refine lv_aload_n hx hb dX0_streetBy_0 rfl (lv_at hl 0 rfl) ?_
  refine tk_getA hC hK hw hT hinX0 kC_at145 (by decide) rfl 2 (by decide) (List.mem_cons_of_mem _ uw_4_15) rfl rfl dX0_streetBy_1 ?_
  refine lv_iload_n hx hb dX0_streetBy_4 rfl (lv_at hl 1 rfl) ?_
  refine lv_iload_n hx hb dX0_streetBy_5 rfl (lv_at hl 2 rfl) ?_
  refine lv_iload_n hx hb dX0_streetBy_6 rfl (lv_at hl 3 rfl) ?_
  refine tk_Si hC hK hw hT hA hE hSR (k_X0_spot_1 l adK adV dC dI cy ad B hB0 (Int.le_trans hB1 (by decide)) qr s1   a1 (show 0 ≤ a1.toInt from ra1) (show a1.toInt ≤ 3 from ta1) a2 (show 0 ≤ a2.toInt from ra2) (show a2.toInt ≤ 9 from ta2) a3 (show 0 ≤ a3.toInt from ra3) (show a3.toInt ≤ 9 from ta3) w0 s.heap.size hT ) (va_cwS 3 hC.2.2.2.2 uS_RX0_47 rfl rfl rfl (by decide +kernel) ⟨Nat.le_of_ble_eq_true rfl, Nat.le_of_ble_eq_true rfl⟩) rfl hl.1 rfl (Nat.le_of_ble_eq_true rfl) dX0_streetBy_7 (fun r1 w3 H locs hp2 hw => ?_)
  obtain ⟨hT, k4, hg7⟩ := hp2
  have hF := hF.tr k4 (by decide)
  obtain ⟨g5, g6⟩ := hg7
  refine tk_iald hC hK hw hT kC_at147 rfl rfl (show 0 ≤ r1.toInt by first | with_reducible assumption | omega) (show r1.toInt < 1100 by first | with_reducible assumption | omega) dX0_streetBy_10 (fun x8 c9 rx8 tx8 => ?_)
  exact tk_iret hC hr hlocks hK ⟨hT, hF, ⟨(show (-1) ≤ x8.toInt from rx8), (show x8.toInt ≤ 11 from tx8)⟩⟩ hw dX0_streetBy_11
abbrev P_X0_hoursBy_1 (ad : Nat → Nat) (cy : Nat → ClassId) (B : Int) (qr : Nat) (s1 : Int) (a1 : Int32) (a2 : Int32) (a3 : Int32) (w0 : va_W) : Int32 → va_W → Prop := fun r u => TW ksC ad cy B qr s1 u ∧ FE ksC ([] : List (Nat × Nat × Nat)) w0 u ∧ ((0 ≤ r.toInt ∧ r.toInt ≤ 999999) ∨ (r = (-1)))
set_option maxHeartbeats 4000000 in
set_option maxRecDepth 100000 in
theorem k_X0_hoursBy_1 (l : Launch) (adK adV : Nat → Nat) (dC : Nat → ClassId) (dI : Nat → Nat → Nat) (cy : Nat → ClassId) (ad : Nat → Nat) (B : Int) (hB0 : 2147483648 ≤ B) (hB1 : B ≤ 1152921504606846976) (qr : Nat) (s1 : Int)  (a1 : Int32) (ra1 : 0 ≤ a1.toInt) (ta1 : a1.toInt ≤ 3) (a2 : Int32) (ra2 : 0 ≤ a2.toInt) (ta2 : a2.toInt ≤ 9) (a3 : Int32) (ra3 : 0 ≤ a3.toInt) (ta3 : a3.toInt ≤ 9) (w0 : va_W) (sz : Nat) (hT : TW ksC ad cy B qr s1 w0)  : Met l yX0_hoursBy (wu yX0_hoursBy cX0_hoursBy 5 (some .int)) ({ frames := 2, cells := 0, slots := 0, locals := 34 }) (va_Pc [.ref (ad 145), .int a1, .int a2, .int a3] (wpreS adK adV dC dI cy sz w0)) (va_Qi (P_X0_hoursBy_1 ad cy B qr s1 a1 a2 a3 w0) (fun u : va_W => wpost dC dI cy (va_A w0 sz) u) (va_A w0 sz)) 0 0 (va_A w0 sz) := by
  refine Met.ofW (cc := cX0_hoursBy) (maxL := 5) (ret := (some .int)) (by decide) rfl ?_
  intro p e s m args below meth c s₁ Bk hml hv
  obtain ⟨rfl, ⟨hsz, hP, hK, hD0⟩, hE, hSR⟩ := hv
  have hx := Bk.exec
  have hb := Bk.bytes
  have hr := Bk.returns
  have hlocks := Bk.notSynchronized
  have hC : CallFix p m c cX0_hoursBy 5 s _ (wu yX0_hoursBy cX0_hoursBy 5 (some .int)) RX0 := ⟨hx, hb, hml, findClass_of_methodNamed Bk.named, atoms_spec (ws := (wu yX0_hoursBy cX0_hoursBy 5 (some .int))) Bk.pre⟩
  subst hsz
  have hD := hD0.self (sz := s.heap.size)
  generalize hAe : va_A w0 s.heap.size = A at hD hE ⊢
  have hA : ∀ q : Nat, s.heap.size ≤ q → A q := fun q h => by rw [← hAe]; exact Or.inr h
  have hw : Wd dC dI A s.heap s.heap [] w0 := ⟨hP, hD, va_S.rf⟩
  have hF : FE ksC ([] : List (Nat × Nat × Nat)) w0 w0 := FE.rf
  have hl := lv_entry ([.ref (ad 145), .int a1, .int a2, .int a3]) (n := 5) (Nat.le_of_ble_eq_true rfl)
  rw [lg_entry_eq]
  generalize (lg_sl ([.ref (ad 145), .int a1, .int a2, .int a3]) ++ List.replicate (5 - (lg_sl ([.ref (ad 145), .int a1, .int a2, .int a3])).length) Slot.unset).toArray = ls at hl ⊢
  have hl : lv_has ls 5 [(0, .ref (ad 145)), (1, .int a1), (2, .int a2), (3, .int a3)] := hl
  generalize hloc : ([] : List Loc) = locs at hw ⊢
  have hinX0 : ∀ w ∈ u_ws RX0 TX0 4, w ∈ (wu yX0_hoursBy cX0_hoursBy 5 (some .int)) := fun _ h => List.mem_cons_of_mem _ (up_77 h)
  refine lv_aload_n hx hb dX0_hoursBy_0 rfl (lv_at hl 0 rfl) ?_
  refine tk_getA hC hK hw hT hinX0 kC_at145 (by decide) rfl 1 (by decide) (List.mem_cons_of_mem _ uw_4_14) rfl rfl dX0_hoursBy_1 ?_
  refine lv_iload_n hx hb dX0_hoursBy_4 rfl (lv_at hl 1 rfl) ?_
  refine lv_iload_n hx hb dX0_hoursBy_5 rfl (lv_at hl 2 rfl) ?_
  refine lv_iload_n hx hb dX0_hoursBy_6 rfl (lv_at hl 3 rfl) ?_
  refine tk_Si hC hK hw hT hA hE hSR (k_X0_spot_1 l adK adV dC dI cy ad B hB0 (Int.le_trans hB1 (by decide)) qr s1   a1 (show 0 ≤ a1.toInt from ra1) (show a1.toInt ≤ 3 from ta1) a2 (show 0 ≤ a2.toInt from ra2) (show a2.toInt ≤ 9 from ta2) a3 (show 0 ≤ a3.toInt from ra3) (show a3.toInt ≤ 9 from ta3) w0 s.heap.size hT ) (va_cwS 3 hC.2.2.2.2 uS_RX0_47 rfl rfl rfl (by decide +kernel) ⟨Nat.le_of_ble_eq_true rfl, Nat.le_of_ble_eq_true rfl⟩) rfl hl.1 rfl (Nat.le_of_ble_eq_true rfl) dX0_hoursBy_7 (fun r1 w3 H locs hp2 hw => ?_)
  obtain ⟨hT, k4, hg7⟩ := hp2
  have hF := hF.tr k4 (by decide)
  obtain ⟨g5, g6⟩ := hg7
  refine tk_iald hC hK hw hT kC_at146 rfl rfl (show 0 ≤ r1.toInt by first | with_reducible assumption | omega) (show r1.toInt < 1100 by first | with_reducible assumption | omega) dX0_hoursBy_10 (fun x8 c9 rx8 tx8 => ?_)
  refine lv_istore (lv' := [(4, .int x8), (0, .ref (ad 145)), (1, .int a1), (2, .int a2), (3, .int a3)]) hx hb dX0_hoursBy_11 hl (by decide) rfl (fun ls hl => ?_)
  refine lv_iload hx hb dX0_hoursBy_13 (lv_at hl 0 rfl) ?_
  refine lv_ldc (v := 1000000) hx hb hC.2.2.2.1 (hC.2.2.2.2 _ (List.mem_cons_of_mem _ uw_36_8)) dX0_hoursBy_15 ?_
  refine lv_icmp_lt (tgt := 24) hx hb dX0_hoursBy_17 (by decide) (fun c10 => ?_) (fun c10 => ?_)
  · have c10 : x8.toInt < (1000000 : Int) := wk_lt.mp c10
    refine lv_iload hx hb dX0_hoursBy_24 (lv_at hl 0 rfl) ?_
    exact tk_iret hC hr hlocks hK ⟨hT, hF, (Or.inl ⟨(show 0 ≤ x8.toInt from rx8), (show x8.toInt ≤ 999999 by first | with_reducible assumption | omega)⟩)⟩ hw dX0_hoursBy_26
  · have c10 : (1000000 : Int) ≤ x8.toInt := wk_ltF c10
    refine lv_iconst (v := (-1)) hx hb dX0_hoursBy_20 (by decide) ?_
    refine lv_goto (tgt := 26) hx hb dX0_hoursBy_21 (by decide) ?_
    exact tk_iret hC hr hlocks hK ⟨hT, hF, (Or.inr rfl)⟩ hw dX0_hoursBy_26
abbrev P_X11_hasRuleOrNone_1 (ad : Nat → Nat) (cy : Nat → ClassId) (B : Int) (qr : Nat) (s1 : Int) (a1 : Int32) (w0 : va_W) : Int32 → va_W → Prop := fun r u => TW ksC ad cy B qr s1 u ∧ FE ksC ([] : List (Nat × Nat × Nat)) w0 u ∧ ((r = 0) ∨ (r = 1 ∧ (-1) ≤ a1.toInt ∧ a1.toInt ≤ 5))
set_option maxHeartbeats 4000000 in
set_option maxRecDepth 100000 in
theorem k_X11_hasRuleOrNone_1 (l : Launch) (adK adV : Nat → Nat) (dC : Nat → ClassId) (dI : Nat → Nat → Nat) (cy : Nat → ClassId) (ad : Nat → Nat) (B : Int) (hB0 : 2147483648 ≤ B) (hB1 : B ≤ 1152921504606846976) (qr : Nat) (s1 : Int)  (a1 : Int32) (w0 : va_W) (sz : Nat) (hT : TW ksC ad cy B qr s1 w0)  : Met l yX11_hasRuleOrNone (wu yX11_hasRuleOrNone cX11_hasRuleOrNone 2 (some .boolean)) ({ frames := 1, cells := 0, slots := 0, locals := 12 }) (va_Pc [.ref (ad 0), .int a1] (wpreS adK adV dC dI cy sz w0)) (va_Qi (P_X11_hasRuleOrNone_1 ad cy B qr s1 a1 w0) (fun u : va_W => wpost dC dI cy (va_A w0 sz) u) (va_A w0 sz)) 0 0 (va_A w0 sz) := by
  refine Met.ofW (cc := cX11_hasRuleOrNone) (maxL := 2) (ret := (some .boolean)) (by decide) rfl ?_
  intro p e s m args below meth c s₁ Bk hml hv
  obtain ⟨rfl, ⟨hsz, hP, hK, hD0⟩, hE, hSR⟩ := hv
  have hx := Bk.exec
  have hb := Bk.bytes
  have hr := Bk.returns
  have hlocks := Bk.notSynchronized
  have hC : CallFix p m c cX11_hasRuleOrNone 2 s _ (wu yX11_hasRuleOrNone cX11_hasRuleOrNone 2 (some .boolean)) RX11 := ⟨hx, hb, hml, findClass_of_methodNamed Bk.named, atoms_spec (ws := (wu yX11_hasRuleOrNone cX11_hasRuleOrNone 2 (some .boolean))) Bk.pre⟩
  subst hsz
  have hD := hD0.self (sz := s.heap.size)
  generalize hAe : va_A w0 s.heap.size = A at hD hE ⊢
  have hA : ∀ q : Nat, s.heap.size ≤ q → A q := fun q h => by rw [← hAe]; exact Or.inr h
  have hw : Wd dC dI A s.heap s.heap [] w0 := ⟨hP, hD, va_S.rf⟩
  have hF : FE ksC ([] : List (Nat × Nat × Nat)) w0 w0 := FE.rf
  have hl := lv_entry ([.ref (ad 0), .int a1]) (n := 2) (Nat.le_of_ble_eq_true rfl)
  rw [lg_entry_eq]
  generalize (lg_sl ([.ref (ad 0), .int a1]) ++ List.replicate (2 - (lg_sl ([.ref (ad 0), .int a1])).length) Slot.unset).toArray = ls at hl ⊢
  have hl : lv_has ls 2 [(0, .ref (ad 0)), (1, .int a1)] := hl
  generalize hloc : ([] : List Loc) = locs at hw ⊢
  have hinX11 : ∀ w ∈ u_ws RX11 TX11 13, w ∈ (wu yX11_hasRuleOrNone cX11_hasRuleOrNone 2 (some .boolean)) := fun _ h => List.mem_cons_of_mem _ (up_70 h)
  have J17 : ∀ (H : Heap) (locs : List Loc) (ls : Array Slot) (w1 : va_W), Wd dC dI A s.heap H locs w1 → TW ksC ad cy B qr s1 w1 → FE ksC ([] : List (Nat × Nat × Nat)) w0 w1 → lv_has ls 2 [(0, .ref (ad 0)), (1, .int a1)] → W p l e ({ frames := 1, cells := 0, slots := 0, locals := 12 }) s m (List.toArray [.ref (ad 0), .int a1]) below meth c H locs 0 0 (MQ below (va_Qi (P_X11_hasRuleOrNone_1 ad cy B qr s1 a1 w0) (fun u : va_W => wpost dC dI cy A u) A) (List.toArray [.ref (ad 0), .int a1]) s 0 0 A) (F0 m 17 ls []) := by
    intro H locs ls w1 hw hT hF hl
    refine lv_iconst (v := 0) hx hb dX11_hasRuleOrNone_17 (by decide) ?_
    exact tk_zret hC hr rfl hlocks hK ⟨hT, hF, (Or.inl rfl)⟩ hw dX11_hasRuleOrNone_18
  refine lv_iload_n hx hb dX11_hasRuleOrNone_0 rfl (lv_at hl 1 rfl) ?_
  refine lv_iconst (v := (-1)) hx hb dX11_hasRuleOrNone_1 (by decide) ?_
  refine lv_icmp_lt (tgt := 17) hx hb dX11_hasRuleOrNone_2 (by decide) (fun c2 => ?_) (fun c2 => ?_)
  · have c2 : a1.toInt < (-1 : Int) := wk_lt.mp c2
    exact J17  s.heap locs ls w0   hw hT hF  (lv_sub hl [0, 1] rfl)
  · have c2 : (-1 : Int) ≤ a1.toInt := wk_ltF c2
    refine lv_iload_n hx hb dX11_hasRuleOrNone_5 rfl (lv_at hl 1 rfl) ?_
    refine lv_aload_n hx hb dX11_hasRuleOrNone_6 rfl (lv_at hl 0 rfl) ?_
    refine tk_geti hC hK hw hT hinX11 kC_at0 (by decide) rfl 12 (by decide) (List.mem_cons_of_mem _ uw_26_12) rfl rfl dX11_hasRuleOrNone_7 (fun x3 c4 rx3 tx3 => ?_)
    refine lv_icmp_ge (tgt := 17) hx hb dX11_hasRuleOrNone_10 (by decide) (fun c5 => ?_) (fun c5 => ?_)
    · have c5 : x3.toInt ≤ a1.toInt := wk_le.mp c5
      exact J17  s.heap locs ls w0   hw hT hF  (lv_sub hl [0, 1] rfl)
    · have c5 : a1.toInt < x3.toInt := wk_leF c5
      refine lv_iconst (v := 1) hx hb dX11_hasRuleOrNone_13 (by decide) ?_
      refine lv_goto (tgt := 18) hx hb dX11_hasRuleOrNone_14 (by decide) ?_
      exact tk_zret hC hr rfl hlocks hK ⟨hT, hF, (Or.inr ⟨rfl, (show (-1) ≤ a1.toInt from c2), (show a1.toInt ≤ 5 by first | with_reducible assumption | omega)⟩)⟩ hw dX11_hasRuleOrNone_18
abbrev P_X9_setOut_1 (ad : Nat → Nat) (cy : Nat → ClassId) (B : Int) (qr : Nat) (s1 : Int) (q0_ : Nat) (a1 : Int32) (a2 : Int32) (a3 : Int32) (a4 : Int32) (a5 : Int64) (w0 : va_W) : va_W → Prop := fun u => TW ksC ad cy B qr s1 u ∧ FE ksC [(9, 0, 0), (9, 1, 1), (9, 2, 2), (9, 3, 3), (9, 4, 4), (9, 5, 5), (9, 6, 6), (9, 7, 7), (9, 8, 8)] w0 u ∧ (((∃ y : Int32, gi u q0_ 3 = y ∧ (-1) ≤ y.toInt ∧ y.toInt ≤ 5) ∧ (∃ y : Int32, gi u q0_ 5 = y ∧ 0 ≤ y.toInt ∧ y.toInt ≤ 0) ∧ (∃ y : Int32, gi u q0_ 6 = y ∧ 0 ≤ y.toInt ∧ y.toInt ≤ 0) ∧ (∃ y : Int32, gi u q0_ 7 = y ∧ (-1) ≤ y.toInt ∧ y.toInt ≤ (-1))))
set_option maxHeartbeats 4000000 in
set_option maxRecDepth 100000 in
theorem k_X9_setOut_1 (l : Launch) (adK adV : Nat → Nat) (dC : Nat → ClassId) (dI : Nat → Nat → Nat) (cy : Nat → ClassId) (ad : Nat → Nat) (B : Int) (hB0 : 2147483648 ≤ B) (hB1 : B ≤ 1152921504606846976) (qr : Nat) (s1 : Int)  (q0_ : Nat) (hkq0_ : ksC[q0_]? = some 9) (a1 : Int32) (ra1 : 0 ≤ a1.toInt) (ta1 : a1.toInt ≤ 9) (a2 : Int32) (ra2 : 0 ≤ a2.toInt) (ta2 : a2.toInt ≤ 9) (a3 : Int32) (ra3 : 0 ≤ a3.toInt) (ta3 : a3.toInt ≤ 3) (a4 : Int32) (ra4 : (-1) ≤ a4.toInt) (ta4 : a4.toInt ≤ 5) (a5 : Int64) (ra5 : 0 ≤ a5.toInt) (ta5 : a5.toInt ≤ 2147483647) (w0 : va_W) (sz : Nat) (hT : TW ksC ad cy B qr s1 w0)  : Met l yX9_setOut (wu yX9_setOut cX9_setOut 7 none) ({ frames := 1, cells := 0, slots := 0, locals := 12 }) (va_Pc [.ref (ad q0_), .int a1, .int a2, .int a3, .int a4, .long a5] (wpreS adK adV dC dI cy sz w0)) (va_Qv (P_X9_setOut_1 ad cy B qr s1 q0_ a1 a2 a3 a4 a5 w0) (fun u : va_W => wpost dC dI cy (va_A w0 sz) u) (va_A w0 sz)) 0 0 (va_A w0 sz) := by
  refine Met.ofW (cc := cX9_setOut) (maxL := 7) (ret := none) (by decide) rfl ?_
  intro p e s m args below meth c s₁ Bk hml hv
  obtain ⟨rfl, ⟨hsz, hP, hK, hD0⟩, hE, hSR⟩ := hv
  have hx := Bk.exec
  have hb := Bk.bytes
  have hr := Bk.returns
  have hlocks := Bk.notSynchronized
  have hC : CallFix p m c cX9_setOut 7 s _ (wu yX9_setOut cX9_setOut 7 none) RX9 := ⟨hx, hb, hml, findClass_of_methodNamed Bk.named, atoms_spec (ws := (wu yX9_setOut cX9_setOut 7 none)) Bk.pre⟩
  subst hsz
  have hD := hD0.self (sz := s.heap.size)
  generalize hAe : va_A w0 s.heap.size = A at hD hE ⊢
  have hA : ∀ q : Nat, s.heap.size ≤ q → A q := fun q h => by rw [← hAe]; exact Or.inr h
  have hw : Wd dC dI A s.heap s.heap [] w0 := ⟨hP, hD, va_S.rf⟩
  have hF : FE ksC [(9, 0, 0), (9, 1, 1), (9, 2, 2), (9, 3, 3), (9, 4, 4), (9, 5, 5), (9, 6, 6), (9, 7, 7), (9, 8, 8)] w0 w0 := FE.rf
  have hl := lv_entry ([.ref (ad q0_), .int a1, .int a2, .int a3, .int a4, .long a5]) (n := 7) (Nat.le_of_ble_eq_true rfl)
  rw [lg_entry_eq]
  generalize (lg_sl ([.ref (ad q0_), .int a1, .int a2, .int a3, .int a4, .long a5]) ++ List.replicate (7 - (lg_sl ([.ref (ad q0_), .int a1, .int a2, .int a3, .int a4, .long a5])).length) Slot.unset).toArray = ls at hl ⊢
  have hl : lv_has ls 7 [(0, .ref (ad q0_)), (1, .int a1), (2, .int a2), (3, .int a3), (4, .int a4), (5, .long a5)] := hl
  generalize hloc : ([] : List Loc) = locs at hw ⊢
  have hinX9 : ∀ w ∈ u_ws RX9 TX9 9, w ∈ (wu yX9_setOut cX9_setOut 7 none) := fun _ h => List.mem_cons_of_mem _ (up_82 h)
  refine lv_aload_n hx hb dX9_setOut_0 rfl (lv_at hl 0 rfl) ?_
  refine lv_iload_n hx hb dX9_setOut_1 rfl (lv_at hl 1 rfl) ?_
  refine tk_puti hC hK hw hT hinX9 tyX9_ok nmX9 hkq0_ (by decide) rfl rfl 0 (by decide) (List.mem_cons_of_mem _ uw_39_9) rfl rfl rfl rfl (show 0 ≤ a1.toInt from ra1) (show a1.toInt ≤ 9 from ta1) dX9_setOut_2 (fun H locs w1 hw hT k3 c2 => ?_)
  have hF := hF.put hkq0_ (k := 0) (by decide) k3
  refine lv_aload_n hx hb dX9_setOut_5 rfl (lv_at hl 0 rfl) ?_
  refine lv_iload_n hx hb dX9_setOut_6 rfl (lv_at hl 2 rfl) ?_
  refine tk_puti hC hK hw hT hinX9 tyX9_ok nmX9 hkq0_ (by decide) rfl rfl 1 (by decide) (List.mem_cons_of_mem _ uw_39_10) rfl rfl rfl rfl (show 0 ≤ a2.toInt from ra2) (show a2.toInt ≤ 9 from ta2) dX9_setOut_7 (fun H locs w4 hw hT k6 c5 => ?_)
  have hF := hF.put hkq0_ (k := 1) (by decide) k6
  have c7 := k6.gi (Or.inr (by decide)) c2
  refine lv_aload_n hx hb dX9_setOut_10 rfl (lv_at hl 0 rfl) ?_
  refine lv_iload_n hx hb dX9_setOut_11 rfl (lv_at hl 3 rfl) ?_
  refine tk_puti hC hK hw hT hinX9 tyX9_ok nmX9 hkq0_ (by decide) rfl rfl 2 (by decide) (List.mem_cons_of_mem _ uw_39_11) rfl rfl rfl rfl (show 0 ≤ a3.toInt from ra3) (show a3.toInt ≤ 3 from ta3) dX9_setOut_12 (fun H locs w8 hw hT k10 c9 => ?_)
  have hF := hF.put hkq0_ (k := 2) (by decide) k10
  have c11 := k10.gi (Or.inr (by decide)) c7
  have c12 := k10.gi (Or.inr (by decide)) c5
  refine lv_aload_n hx hb dX9_setOut_15 rfl (lv_at hl 0 rfl) ?_
  refine lv_iload hx hb dX9_setOut_16 (lv_at hl 4 rfl) ?_
  refine tk_puti hC hK hw hT hinX9 tyX9_ok nmX9 hkq0_ (by decide) rfl rfl 3 (by decide) (List.mem_cons_of_mem _ uw_39_12) rfl rfl rfl rfl (wk_i32 a4).1 (wk_i32 a4).2 dX9_setOut_18 (fun H locs w13 hw hT k15 c14 => ?_)
  have hF := hF.put hkq0_ (k := 3) (by decide) k15
  have c16 := k15.gi (Or.inr (by decide)) c11
  have c17 := k15.gi (Or.inr (by decide)) c12
  have c18 := k15.gi (Or.inr (by decide)) c9
  refine lv_aload_n hx hb dX9_setOut_21 rfl (lv_at hl 0 rfl) ?_
  refine lv_lload hx hb dX9_setOut_22 (lv_at hl 5 rfl) ?_
  refine tk_putB hC hK hw hT hinX9 tyX9_ok nmX9 hkq0_ (by decide) rfl rfl 4 (by decide) (List.mem_cons_of_mem _ uw_39_13) rfl rfl rfl rfl (show 0 ≤ a5.toInt from ra5) (show a5.toInt ≤ B by omega) dX9_setOut_24 (fun H locs w19 hw hT k21 c20 => ?_)
  have hF := hF.put hkq0_ (k := 4) (by decide) k21
  have c22 := k21.gi (Or.inr (by decide)) c16
  have c23 := k21.gi (Or.inr (by decide)) c17
  have c24 := k21.gi (Or.inr (by decide)) c18
  have c25 := k21.gi (Or.inr (by decide)) c14
  refine lv_aload_n hx hb dX9_setOut_27 rfl (lv_at hl 0 rfl) ?_
  refine lv_iconst (v := 0) hx hb dX9_setOut_28 (by decide) ?_
  refine tk_puti hC hK hw hT hinX9 tyX9_ok nmX9 hkq0_ (by decide) rfl rfl 5 (by decide) (List.mem_cons_of_mem _ uw_39_14) rfl rfl rfl rfl (by decide) (by decide) dX9_setOut_29 (fun H locs w26 hw hT k28 c27 => ?_)
  have hF := hF.put hkq0_ (k := 5) (by decide) k28
  have c29 := k28.gi (Or.inr (by decide)) c22
  have c30 := k28.gi (Or.inr (by decide)) c23
  have c31 := k28.gi (Or.inr (by decide)) c24
  have c32 := k28.gi (Or.inr (by decide)) c25
  have c33 := k28.gl (Or.inr (by decide)) c20
  refine lv_aload_n hx hb dX9_setOut_32 rfl (lv_at hl 0 rfl) ?_
  refine lv_iconst (v := 0) hx hb dX9_setOut_33 (by decide) ?_
  refine tk_puti hC hK hw hT hinX9 tyX9_ok nmX9 hkq0_ (by decide) rfl rfl 6 (by decide) (List.mem_cons_of_mem _ uw_39_15) rfl rfl rfl rfl (by decide) (by decide) dX9_setOut_34 (fun H locs w34 hw hT k36 c35 => ?_)
  have hF := hF.put hkq0_ (k := 6) (by decide) k36
  have c37 := k36.gi (Or.inr (by decide)) c29
  have c38 := k36.gi (Or.inr (by decide)) c30
  have c39 := k36.gi (Or.inr (by decide)) c31
  have c40 := k36.gi (Or.inr (by decide)) c32
  have c41 := k36.gl (Or.inr (by decide)) c33
  have c42 := k36.gi (Or.inr (by decide)) c27
  refine lv_aload_n hx hb dX9_setOut_37 rfl (lv_at hl 0 rfl) ?_
  refine lv_iconst (v := (-1)) hx hb dX9_setOut_38 (by decide) ?_
  refine tk_puti hC hK hw hT hinX9 tyX9_ok nmX9 hkq0_ (by decide) rfl rfl 7 (by decide) (List.mem_cons_of_mem _ uw_39_16) rfl rfl rfl rfl (by decide) (by decide) dX9_setOut_39 (fun H locs w43 hw hT k45 c44 => ?_)
  have hF := hF.put hkq0_ (k := 7) (by decide) k45
  have c46 := k45.gi (Or.inr (by decide)) c37
  have c47 := k45.gi (Or.inr (by decide)) c38
  have c48 := k45.gi (Or.inr (by decide)) c39
  have c49 := k45.gi (Or.inr (by decide)) c40
  have c50 := k45.gl (Or.inr (by decide)) c41
  have c51 := k45.gi (Or.inr (by decide)) c42
  have c52 := k45.gi (Or.inr (by decide)) c35
  refine lv_aload_n hx hb dX9_setOut_42 rfl (lv_at hl 0 rfl) ?_
  refine lv_ldc2 (v := (-1)) hx hb hC.2.2.2.1 (hC.2.2.2.2 _ (List.mem_cons_of_mem _ uw_39_17)) dX9_setOut_43 ?_
  refine tk_putl hC hK hw hT hinX9 tyX9_ok nmX9 hkq0_ (by decide) rfl rfl 8 (by decide) (List.mem_cons_of_mem _ uw_39_18) rfl rfl rfl rfl (by decide) (by decide) dX9_setOut_46 (fun H locs w53 hw hT k55 c54 => ?_)
  have hF := hF.put hkq0_ (k := 8) (by decide) k55
  have c56 := k55.gi (Or.inr (by decide)) c46
  have c57 := k55.gi (Or.inr (by decide)) c47
  have c58 := k55.gi (Or.inr (by decide)) c48
  have c59 := k55.gi (Or.inr (by decide)) c49
  have c60 := k55.gl (Or.inr (by decide)) c50
  have c61 := k55.gi (Or.inr (by decide)) c51
  have c62 := k55.gi (Or.inr (by decide)) c52
  have c63 := k55.gi (Or.inr (by decide)) c44
  exact tk_vret hC hr hlocks hK ⟨hT, hF, ⟨⟨a4, c59, (show (-1) ≤ a4.toInt from ra4), (show a4.toInt ≤ 5 from ta4)⟩, ⟨0, c61, (by decide), (by decide)⟩, ⟨0, c62, (by decide), (by decide)⟩, ⟨(-1), c63, (by decide), (by decide)⟩⟩⟩ hw dX9_setOut_49
abbrev P_X11_walker_1 (ad : Nat → Nat) (cy : Nat → ClassId) (B : Int) (qr : Nat) (s1 : Int) (a1 : Int32) (a2 : Int32) (a3 : Int32) (a4 : Int32) (a5 : Int32) (w0 : va_W) : Int32 → va_W → Prop := fun r u => TW ksC ad cy B qr s1 u ∧ FE ksC [(5, 9, 9), (9, 0, 0), (9, 1, 1), (9, 2, 2), (9, 3, 3), (9, 4, 4), (9, 5, 5), (9, 6, 6), (9, 7, 7), (9, 8, 8)] w0 u ∧ ((r = (-2)) ∨ (0 ≤ r.toInt ∧ r.toInt ≤ 3 ∧ 0 ≤ a1.toInt ∧ a1.toInt ≤ 9 ∧ 0 ≤ a2.toInt ∧ a2.toInt ≤ 9 ∧ 0 ≤ a3.toInt ∧ a3.toInt ≤ 3 ∧ (-1) ≤ a4.toInt ∧ a4.toInt ≤ 5 ∧ 0 ≤ a5.toInt ∧ (∃ y : Int32, gi u 38 8 = y ∧ 1 ≤ y.toInt ∧ y.toInt ≤ 4) ∧ (∃ y : Int32, gi u 38 9 = y ∧ 1 ≤ y.toInt ∧ y.toInt ≤ 4) ∧ (∃ y : Int32, gi u 39 8 = y ∧ 1 ≤ y.toInt ∧ y.toInt ≤ 10)))
set_option maxHeartbeats 4000000 in
set_option maxRecDepth 100000 in
theorem k_X11_walker_1 (l : Launch) (adK adV : Nat → Nat) (dC : Nat → ClassId) (dI : Nat → Nat → Nat) (cy : Nat → ClassId) (ad : Nat → Nat) (B : Int) (hB0 : 2147483648 ≤ B) (hB1 : B ≤ 1152921504606846976) (qr : Nat) (s1 : Int)  (a1 : Int32) (a2 : Int32) (a3 : Int32) (a4 : Int32) (a5 : Int32) (w0 : va_W) (sz : Nat) (hT : TW ksC ad cy B qr s1 w0)  : Met l yX11_walker (wu yX11_walker cX11_walker 7 (some .int)) ({ frames := 2, cells := 0, slots := 0, locals := 38 }) (va_Pc [.ref (ad 0), .int a1, .int a2, .int a3, .int a4, .int a5] (wpreS adK adV dC dI cy sz w0)) (va_Qi (P_X11_walker_1 ad cy B qr s1 a1 a2 a3 a4 a5 w0) (fun u : va_W => wpost dC dI cy (va_A w0 sz) u) (va_A w0 sz)) 0 0 (va_A w0 sz) := by
  refine Met.ofW (cc := cX11_walker) (maxL := 7) (ret := (some .int)) (by decide) rfl ?_
  intro p e s m args below meth c s₁ Bk hml hv
  obtain ⟨rfl, ⟨hsz, hP, hK, hD0⟩, hE, hSR⟩ := hv
  have hx := Bk.exec
  have hb := Bk.bytes
  have hr := Bk.returns
  have hlocks := Bk.notSynchronized
  have hC : CallFix p m c cX11_walker 7 s _ (wu yX11_walker cX11_walker 7 (some .int)) RX11 := ⟨hx, hb, hml, findClass_of_methodNamed Bk.named, atoms_spec (ws := (wu yX11_walker cX11_walker 7 (some .int))) Bk.pre⟩
  subst hsz
  have hD := hD0.self (sz := s.heap.size)
  generalize hAe : va_A w0 s.heap.size = A at hD hE ⊢
  have hA : ∀ q : Nat, s.heap.size ≤ q → A q := fun q h => by rw [← hAe]; exact Or.inr h
  have hw : Wd dC dI A s.heap s.heap [] w0 := ⟨hP, hD, va_S.rf⟩
  have hF : FE ksC [(5, 9, 9), (9, 0, 0), (9, 1, 1), (9, 2, 2), (9, 3, 3), (9, 4, 4), (9, 5, 5), (9, 6, 6), (9, 7, 7), (9, 8, 8)] w0 w0 := FE.rf
  have hl := lv_entry ([.ref (ad 0), .int a1, .int a2, .int a3, .int a4, .int a5]) (n := 7) (Nat.le_of_ble_eq_true rfl)
  rw [lg_entry_eq]
  generalize (lg_sl ([.ref (ad 0), .int a1, .int a2, .int a3, .int a4, .int a5]) ++ List.replicate (7 - (lg_sl ([.ref (ad 0), .int a1, .int a2, .int a3, .int a4, .int a5])).length) Slot.unset).toArray = ls at hl ⊢
  have hl : lv_has ls 7 [(0, .ref (ad 0)), (1, .int a1), (2, .int a2), (3, .int a3), (4, .int a4), (5, .int a5)] := hl
  generalize hloc : ([] : List Loc) = locs at hw ⊢
  have hinX11 : ∀ w ∈ u_ws RX11 TX11 13, w ∈ (wu yX11_walker cX11_walker 7 (some .int)) := fun _ h => List.mem_cons_of_mem _ (up_70 h)
  have hinX5 : ∀ w ∈ u_ws RX5 TX5 14, w ∈ (wu yX11_walker cX11_walker 7 (some .int)) := fun _ h => List.mem_cons_of_mem _ (up_76 h)
  have J24 : ∀ (H : Heap) (locs : List Loc) (ls : Array Slot) (w1 : va_W), Wd dC dI A s.heap H locs w1 → TW ksC ad cy B qr s1 w1 → FE ksC [(5, 9, 9), (9, 0, 0), (9, 1, 1), (9, 2, 2), (9, 3, 3), (9, 4, 4), (9, 5, 5), (9, 6, 6), (9, 7, 7), (9, 8, 8)] w0 w1 → lv_has ls 7 [(0, .ref (ad 0)), (1, .int a1), (2, .int a2), (3, .int a3), (4, .int a4), (5, .int a5)] → W p l e ({ frames := 2, cells := 0, slots := 0, locals := 38 }) s m (List.toArray [.ref (ad 0), .int a1, .int a2, .int a3, .int a4, .int a5]) below meth c H locs 0 0 (MQ below (va_Qi (P_X11_walker_1 ad cy B qr s1 a1 a2 a3 a4 a5 w0) (fun u : va_W => wpost dC dI cy A u) A) (List.toArray [.ref (ad 0), .int a1, .int a2, .int a3, .int a4, .int a5]) s 0 0 A) (F0 m 24 ls []) := by
    intro H locs ls w1 hw hT hF hl
    refine lv_bipush (v := (-2)) hx hb dX11_walker_24 (by decide) ?_
    exact tk_iret hC hr hlocks hK ⟨hT, hF, (Or.inl rfl)⟩ hw dX11_walker_26
  have J52 : ∀ (f52_38_8 : Int32) (f52_39_8 : Int32) (H : Heap) (locs : List Loc) (ls : Array Slot) (w2 : va_W), 0 ≤ a1.toInt → a1.toInt ≤ 9 → 0 ≤ a2.toInt → a2.toInt ≤ 9 → 0 ≤ a3.toInt → a3.toInt ≤ 3 → 1 ≤ f52_38_8.toInt → f52_38_8.toInt ≤ 4 → 1 ≤ f52_39_8.toInt → f52_39_8.toInt ≤ 10 → Wd dC dI A s.heap H locs w2 → TW ksC ad cy B qr s1 w2 → FE ksC [(5, 9, 9), (9, 0, 0), (9, 1, 1), (9, 2, 2), (9, 3, 3), (9, 4, 4), (9, 5, 5), (9, 6, 6), (9, 7, 7), (9, 8, 8)] w0 w2 → gi w2 38 8 = f52_38_8 → gi w2 39 8 = f52_39_8 → lv_has ls 7 [(0, .ref (ad 0)), (1, .int a1), (2, .int a2), (3, .int a3), (4, .int a4), (5, .int a5)] → W p l e ({ frames := 2, cells := 0, slots := 0, locals := 38 }) s m (List.toArray [.ref (ad 0), .int a1, .int a2, .int a3, .int a4, .int a5]) below meth c H locs 0 0 (MQ below (va_Qi (P_X11_walker_1 ad cy B qr s1 a1 a2 a3 a4 a5 w0) (fun u : va_W => wpost dC dI cy A u) A) (List.toArray [.ref (ad 0), .int a1, .int a2, .int a3, .int a4, .int a5]) s 0 0 A) (F0 m 52 ls []) := by
    intro f52_38_8 f52_39_8 H locs ls w2 r3 t4 r5 t6 r7 t8 r9 t10 r12 t13 hw hT hF c11 c14 hl
    refine lv_bipush (v := (-2)) hx hb dX11_walker_52 (by decide) ?_
    exact tk_iret hC hr hlocks hK ⟨hT, hF, (Or.inl rfl)⟩ hw dX11_walker_54
  refine lv_aload_n hx hb dX11_walker_0 rfl (lv_at hl 0 rfl) ?_
  refine lv_iload_n hx hb dX11_walker_1 rfl (lv_at hl 1 rfl) ?_
  refine tk_Vi hC hK hw hT hA hE hSR kC_at0 (by decide) rfl (k_X11_hasCorner_1 l adK adV dC dI cy ad B hB0 (Int.le_trans hB1 (by decide)) qr s1   a1 w0 s.heap.size hT ) (cwV 1 hC.2.2.2.2 uV_RX11_176 rfl rfl rfl (by decide +kernel) ⟨Nat.le_of_ble_eq_true rfl, Nat.le_of_ble_eq_true rfl⟩) rfl hl.1 rfl (Nat.le_of_ble_eq_true rfl) dX11_walker_2 (fun r15 w17 H locs hp16 hw => ?_)
  obtain ⟨hT, k18, hg23⟩ := hp16
  have hF := hF.tr k18 (by decide)
  rcases hg23 with rfl | ⟨rfl, g19, g20, ⟨x21, c22, rx21, tx21⟩⟩
  · refine lv_if_eq (tgt := 24) hx hb dX11_walker_5 (by decide) (fun _ => ?_) (fun c => absurd (by decide) c)
    exact J24  H locs ls w17   hw hT hF  (lv_sub hl [0, 1, 2, 3, 4, 5] rfl)
  · refine lv_if_eq (tgt := 24) hx hb dX11_walker_5 (by decide) (fun c => absurd c (by decide)) (fun _ => ?_)
    refine lv_aload_n hx hb dX11_walker_8 rfl (lv_at hl 0 rfl) ?_
    refine lv_iload_n hx hb dX11_walker_9 rfl (lv_at hl 2 rfl) ?_
    refine tk_Vi hC hK hw hT hA hE hSR kC_at0 (by decide) rfl (k_X11_hasCorner_1 l adK adV dC dI cy ad B hB0 (Int.le_trans hB1 (by decide)) qr s1   a2 w17 H.size hT ) (cwV 1 hC.2.2.2.2 uV_RX11_176 rfl rfl rfl (by decide +kernel) ⟨Nat.le_of_ble_eq_true rfl, Nat.le_of_ble_eq_true rfl⟩) rfl hl.1 rfl (Nat.le_of_ble_eq_true rfl) dX11_walker_10 (fun r24 w26 H locs hp25 hw => ?_)
    obtain ⟨hT, k27, hg32⟩ := hp25
    have hF := hF.tr k27 (by decide)
    have c33 := k27.gi kC_at39 (by decide) c22
    rcases hg32 with rfl | ⟨rfl, g28, g29, ⟨x30, c31, rx30, tx30⟩⟩
    · refine lv_if_eq (tgt := 24) hx hb dX11_walker_13 (by decide) (fun _ => ?_) (fun c => absurd (by decide) c)
      exact J24  H locs ls w26   hw hT hF  (lv_sub hl [0, 1, 2, 3, 4, 5] rfl)
    · have ex30 : x30.toInt = x21.toInt := by rw [← c33.symm.trans c31]
      refine lv_if_eq (tgt := 24) hx hb dX11_walker_13 (by decide) (fun c => absurd c (by decide)) (fun _ => ?_)
      refine lv_aload_n hx hb dX11_walker_16 rfl (lv_at hl 0 rfl) ?_
      refine lv_iload_n hx hb dX11_walker_17 rfl (lv_at hl 3 rfl) ?_
      refine tk_Vi hC hK hw hT hA hE hSR kC_at0 (by decide) rfl (k_X11_hasMap_1 l adK adV dC dI cy ad B hB0 (Int.le_trans hB1 (by decide)) qr s1   a3 w26 H.size hT ) (cwV 1 hC.2.2.2.2 uV_RX11_170 rfl rfl rfl (by decide +kernel) ⟨Nat.le_of_ble_eq_true rfl, Nat.le_of_ble_eq_true rfl⟩) rfl hl.1 rfl (Nat.le_of_ble_eq_true rfl) dX11_walker_18 (fun r34 w36 H locs hp35 hw => ?_)
      obtain ⟨hT, k37, hg42⟩ := hp35
      have hF := hF.tr k37 (by decide)
      have c43 := k37.gi kC_at39 (by decide) c33
      rcases hg42 with rfl | ⟨rfl, g38, g39, ⟨x40, c41, rx40, tx40⟩⟩
      · refine lv_if_ne (tgt := 27) hx hb dX11_walker_21 (by decide) (fun c => absurd (by decide) c) (fun _ => ?_)
        exact J24  H locs ls w36   hw hT hF  (lv_sub hl [0, 1, 2, 3, 4, 5] rfl)
      · refine lv_if_ne (tgt := 27) hx hb dX11_walker_21 (by decide) (fun _ => ?_) (fun c => absurd c (by decide))
        refine lv_aload_n hx hb dX11_walker_27 rfl (lv_at hl 0 rfl) ?_
        refine lv_iload hx hb dX11_walker_28 (lv_at hl 4 rfl) ?_
        refine tk_Vi hC hK hw hT hA hE hSR kC_at0 (by decide) rfl (k_X11_hasRuleOrNone_1 l adK adV dC dI cy ad B hB0 (Int.le_trans hB1 (by decide)) qr s1   a4 w36 H.size hT ) (cwV 1 hC.2.2.2.2 uV_RX11_189 rfl rfl rfl (by decide +kernel) ⟨Nat.le_of_ble_eq_true rfl, Nat.le_of_ble_eq_true rfl⟩) rfl hl.1 rfl (Nat.le_of_ble_eq_true rfl) dX11_walker_30 (fun r44 w46 H locs hp45 hw => ?_)
        obtain ⟨hT, k47, hg50⟩ := hp45
        have hF := hF.tr k47 (by decide)
        have c51 := k47.gi kC_at39 (by decide) c43
        have c52 := k47.gi kC_at38 (by decide) c41
        rcases hg50 with rfl | ⟨rfl, g48, g49⟩
        · refine lv_if_eq (tgt := 52) hx hb dX11_walker_33 (by decide) (fun _ => ?_) (fun c => absurd (by decide) c)
          exact J52 x40 x21 H locs ls w46 (show 0 ≤ a1.toInt by first | with_reducible assumption | omega) (show a1.toInt ≤ 9 by first | with_reducible assumption | omega) (show 0 ≤ a2.toInt by first | with_reducible assumption | omega) (show a2.toInt ≤ 9 by first | with_reducible assumption | omega) (show 0 ≤ a3.toInt by first | with_reducible assumption | omega) (show a3.toInt ≤ 3 by first | with_reducible assumption | omega) (show 1 ≤ x40.toInt by first | with_reducible assumption | omega) (show x40.toInt ≤ 4 by first | with_reducible assumption | omega) (show 1 ≤ x21.toInt by first | with_reducible assumption | omega) (show x21.toInt ≤ 10 by first | with_reducible assumption | omega)  hw hT hF c52 c51 (lv_sub hl [0, 1, 2, 3, 4, 5] rfl)
        · refine lv_if_eq (tgt := 52) hx hb dX11_walker_33 (by decide) (fun c => absurd c (by decide)) (fun _ => ?_)
          refine lv_iload hx hb dX11_walker_36 (lv_at hl 5 rfl) ?_
          refine lv_if_lt (tgt := 52) hx hb dX11_walker_38 (by decide) (fun c53 => ?_) (fun c53 => ?_)
          · have c53 : a5.toInt < (0 : Int) := wk_lt.mp c53
            exact J52 x40 x21 H locs ls w46 (show 0 ≤ a1.toInt by first | with_reducible assumption | omega) (show a1.toInt ≤ 9 by first | with_reducible assumption | omega) (show 0 ≤ a2.toInt by first | with_reducible assumption | omega) (show a2.toInt ≤ 9 by first | with_reducible assumption | omega) (show 0 ≤ a3.toInt by first | with_reducible assumption | omega) (show a3.toInt ≤ 3 by first | with_reducible assumption | omega) (show 1 ≤ x40.toInt by first | with_reducible assumption | omega) (show x40.toInt ≤ 4 by first | with_reducible assumption | omega) (show 1 ≤ x21.toInt by first | with_reducible assumption | omega) (show x21.toInt ≤ 10 by first | with_reducible assumption | omega)  hw hT hF c52 c51 (lv_sub hl [0, 1, 2, 3, 4, 5] rfl)
          · have c53 : (0 : Int) ≤ a5.toInt := wk_ltF c53
            refine lv_aload_n hx hb dX11_walker_41 rfl (lv_at hl 0 rfl) ?_
            refine tk_getA hC hK hw hT hinX11 kC_at0 (by decide) rfl 4 (by decide) (List.mem_cons_of_mem _ uw_1_7) rfl rfl dX11_walker_42 ?_
            refine tk_geti hC hK hw hT hinX5 kC_at38 (by decide) rfl 9 (by decide) (List.mem_cons_of_mem _ uw_38_23) rfl rfl dX11_walker_45 (fun x54 c55 rx54 tx54 => ?_)
            refine lv_iconst (v := 4) hx hb dX11_walker_48 (by decide) ?_
            refine lv_icmp_lt (tgt := 55) hx hb dX11_walker_49 (by decide) (fun c56 => ?_) (fun c56 => ?_)
            · have c56 : x54.toInt < (4 : Int) := wk_lt.mp c56
              refine lv_aload_n hx hb dX11_walker_55 rfl (lv_at hl 0 rfl) ?_
              refine tk_getA hC hK hw hT hinX11 kC_at0 (by decide) rfl 4 (by decide) (List.mem_cons_of_mem _ uw_1_7) rfl rfl dX11_walker_56 ?_
              refine tk_getO hC hK hw hT hinX5 kC_at38 (by decide) rfl 2 (by decide) (List.mem_cons_of_mem _ uw_39_0) rfl rfl dX11_walker_59 ?_
              refine lv_aload_n hx hb dX11_walker_62 rfl (lv_at hl 0 rfl) ?_
              refine tk_getA hC hK hw hT hinX11 kC_at0 (by decide) rfl 4 (by decide) (List.mem_cons_of_mem _ uw_1_7) rfl rfl dX11_walker_63 ?_
              refine tk_geti hC hK hw hT hinX5 kC_at38 (by decide) rfl 9 (by decide) (List.mem_cons_of_mem _ uw_38_23) rfl rfl dX11_walker_66 (fun x57 c58 rx57 tx57 => ?_)
              refine wk_top x54 (c58.symm.trans c55) ?_
              refine tk_aald hC hK hw hT kC_at49 rfl (by decide) rfl (show 0 ≤ x54.toInt from rx54) (show x54.toInt < 4 from c56) dX11_walker_69 (fun j59 hj59 gj59 => ?_)
              refine lv_astore (lv' := [(6, .ref (ad (el 33 49 j59))), (0, .ref (ad 0)), (1, .int a1), (2, .int a2), (3, .int a3), (4, .int a4), (5, .int a5)]) hx hb dX11_walker_70 hl (by decide) rfl (fun ls hl => ?_)
              refine lv_aload hx hb dX11_walker_72 (lv_at hl 0 rfl) ?_
              refine lv_iload_n hx hb dX11_walker_74 rfl (lv_at hl 2 rfl) ?_
              refine lv_iload_n hx hb dX11_walker_75 rfl (lv_at hl 3 rfl) ?_
              refine lv_iload_n hx hb dX11_walker_76 rfl (lv_at hl 4 rfl) ?_
              refine lv_iload hx hb dX11_walker_77 (lv_at hl 5 rfl) ?_
              refine lv_iload hx hb dX11_walker_79 (lv_at hl 6 rfl) ?_
              refine lv_i2l hx hb dX11_walker_81 rfl ?_
              refine lv_topl (fun x60 ex60 => ?_)
              have ex60 : x60.toInt = a5.toInt := by rw [ex60]; exact wk_i2l _
              have bx60 := wk_i32 a5
              refine tk_Vv hC hK hw hT hA hE hSR (kC_el33 kC_at49 hj59) (by decide) rfl (k_X9_setOut_1 l adK adV dC dI cy ad B hB0 (Int.le_trans hB1 (by decide)) qr s1   (el 33 49 j59) (kC_el33 kC_at49 hj59) a1 (show 0 ≤ a1.toInt by first | with_reducible assumption | omega) (show a1.toInt ≤ 9 by first | with_reducible assumption | omega) a2 (show 0 ≤ a2.toInt by first | with_reducible assumption | omega) (show a2.toInt ≤ 9 by first | with_reducible assumption | omega) a3 (show 0 ≤ a3.toInt by first | with_reducible assumption | omega) (show a3.toInt ≤ 3 by first | with_reducible assumption | omega) a4 (show (-1) ≤ a4.toInt by first | with_reducible assumption | omega) (show a4.toInt ≤ 5 by first | with_reducible assumption | omega) x60 (show 0 ≤ x60.toInt by first | with_reducible assumption | omega) (show x60.toInt ≤ 2147483647 by first | with_reducible assumption | omega) w46 H.size hT ) (cwV 5 hC.2.2.2.2 uV_RX11_199 rfl rfl rfl (by decide +kernel) ⟨Nat.le_of_ble_eq_true rfl, Nat.le_of_ble_eq_true rfl⟩) rfl hl.1 rfl (Nat.le_of_ble_eq_true rfl) dX11_walker_82 (fun w63 H locs hp62 hw => ?_)
              obtain ⟨hT, k64, hg73⟩ := hp62
              have hF := hF.tr k64 (by decide)
              have c74 := k64.gi kC_at39 (by decide) c51
              have c75 := k64.gi kC_at38 (by decide) c52
              have c76 := k64.gi kC_at38 (by decide) c55
              obtain ⟨⟨x65, c66, rx65, tx65⟩, ⟨x67, c68, rx67, tx67⟩, ⟨x69, c70, rx69, tx69⟩, ⟨x71, c72, rx71, tx71⟩⟩ := hg73
              refine lv_aload_n hx hb dX11_walker_85 rfl (lv_at hl 1 rfl) ?_
              refine tk_getA hC hK hw hT hinX11 kC_at0 (by decide) rfl 4 (by decide) (List.mem_cons_of_mem _ uw_1_7) rfl rfl dX11_walker_86 ?_
              refine lv_dup hx hb dX11_walker_89 rfl ?_
              refine tk_geti hC hK hw hT hinX5 kC_at38 (by decide) rfl 9 (by decide) (List.mem_cons_of_mem _ uw_38_23) rfl rfl dX11_walker_90 (fun x77 c78 rx77 tx77 => ?_)
              refine wk_top x54 (c78.symm.trans c76) ?_
              refine lv_iconst (v := 1) hx hb dX11_walker_93 (by decide) ?_
              refine lv_iadd hx hb dX11_walker_94 ?_
              refine lv_topi (fun x79 ex79 => ?_)
              have ex79 : x79.toInt = x54.toInt + (1 : Int) := by rw [ex79]; exact wk_add (show (-2147483648) ≤ x54.toInt + (1 : Int) by omega) (show x54.toInt + (1 : Int) ≤ 2147483647 by omega)
              refine tk_puti hC hK hw hT hinX5 tyX5_ok nmX5 kC_at38 (by decide) rfl rfl 9 (by decide) (List.mem_cons_of_mem _ uw_38_23) rfl rfl rfl rfl (show 0 ≤ x79.toInt by first | with_reducible assumption | omega) (show x79.toInt ≤ 4 by first | with_reducible assumption | omega) dX11_walker_95 (fun H locs w80 hw hT k82 c81 => ?_)
              have hF := hF.put kC_at38 (k := 9) (by decide) k82
              have c83 := k82.gi (Or.inr (by decide)) c74
              have c84 := k82.gi (Or.inr (by decide)) c75
              have c85 := k82.gi (Or.inr (by decide)) c66
              have c86 := k82.gi (Or.inr (by decide)) c68
              have c87 := k82.gi (Or.inr (by decide)) c70
              have c88 := k82.gi (Or.inr (by decide)) c72
              refine lv_aload_n hx hb dX11_walker_98 rfl (lv_at hl 1 rfl) ?_
              refine tk_getA hC hK hw hT hinX11 kC_at0 (by decide) rfl 4 (by decide) (List.mem_cons_of_mem _ uw_1_7) rfl rfl dX11_walker_99 ?_
              refine tk_geti hC hK hw hT hinX5 kC_at38 (by decide) rfl 9 (by decide) (List.mem_cons_of_mem _ uw_38_23) rfl rfl dX11_walker_102 (fun x89 c90 rx89 tx89 => ?_)
              refine wk_top x79 (c90.symm.trans c81) ?_
              refine lv_iconst (v := 1) hx hb dX11_walker_105 (by decide) ?_
              refine lv_isub hx hb dX11_walker_106 ?_
              refine lv_topi (fun x91 ex91 => ?_)
              have ex91 : x91.toInt = x79.toInt - (1 : Int) := by rw [ex91]; exact wk_sub (show (-2147483648) ≤ x79.toInt - (1 : Int) by omega) (show x79.toInt - (1 : Int) ≤ 2147483647 by omega)
              exact tk_iret hC hr hlocks hK ⟨hT, hF, (Or.inr ⟨(show 0 ≤ x91.toInt by first | with_reducible assumption | omega), (show x91.toInt ≤ 3 by first | with_reducible assumption | omega), (show 0 ≤ a1.toInt by first | with_reducible assumption | omega), (show a1.toInt ≤ 9 by first | with_reducible assumption | omega), (show 0 ≤ a2.toInt by first | with_reducible assumption | omega), (show a2.toInt ≤ 9 by first | with_reducible assumption | omega), (show 0 ≤ a3.toInt by first | with_reducible assumption | omega), (show a3.toInt ≤ 3 by first | with_reducible assumption | omega), (show (-1) ≤ a4.toInt by first | with_reducible assumption | omega), (show a4.toInt ≤ 5 by first | with_reducible assumption | omega), (show 0 ≤ a5.toInt from c53), ⟨x40, c84, (show 1 ≤ x40.toInt by first | with_reducible assumption | omega), (show x40.toInt ≤ 4 by first | with_reducible assumption | omega)⟩, ⟨x79, c81, (show 1 ≤ x79.toInt by first | with_reducible assumption | omega), (show x79.toInt ≤ 4 by first | with_reducible assumption | omega)⟩, ⟨x21, c83, (show 1 ≤ x21.toInt by first | with_reducible assumption | omega), (show x21.toInt ≤ 10 by first | with_reducible assumption | omega)⟩⟩)⟩ hw dX11_walker_107
            · have c56 : (4 : Int) ≤ x54.toInt := wk_ltF c56
              exact J52 x40 x21 H locs ls w46 (show 0 ≤ a1.toInt by first | with_reducible assumption | omega) (show a1.toInt ≤ 9 by first | with_reducible assumption | omega) (show 0 ≤ a2.toInt by first | with_reducible assumption | omega) (show a2.toInt ≤ 9 by first | with_reducible assumption | omega) (show 0 ≤ a3.toInt by first | with_reducible assumption | omega) (show a3.toInt ≤ 3 by first | with_reducible assumption | omega) (show 1 ≤ x40.toInt by first | with_reducible assumption | omega) (show x40.toInt ≤ 4 by first | with_reducible assumption | omega) (show 1 ≤ x21.toInt by first | with_reducible assumption | omega) (show x21.toInt ≤ 10 by first | with_reducible assumption | omega)  hw hT hF c52 c51 (lv_sub hl [0, 1, 2, 3, 4, 5] rfl)
abbrev P_X11_hasWalker_1 (ad : Nat → Nat) (cy : Nat → ClassId) (B : Int) (qr : Nat) (s1 : Int) (a1 : Int32) (w0 : va_W) : Int32 → va_W → Prop := fun r u => TW ksC ad cy B qr s1 u ∧ FE ksC ([] : List (Nat × Nat × Nat)) w0 u ∧ ((r = 0) ∨ (r = 1 ∧ 0 ≤ a1.toInt ∧ a1.toInt ≤ 3 ∧ (∃ y : Int32, gi u 38 9 = y ∧ 1 ≤ y.toInt ∧ y.toInt ≤ 4)))
set_option maxHeartbeats 4000000 in
set_option maxRecDepth 100000 in
theorem k_X11_hasWalker_1 (l : Launch) (adK adV : Nat → Nat) (dC : Nat → ClassId) (dI : Nat → Nat → Nat) (cy : Nat → ClassId) (ad : Nat → Nat) (B : Int) (hB0 : 2147483648 ≤ B) (hB1 : B ≤ 1152921504606846976) (qr : Nat) (s1 : Int)  (a1 : Int32) (w0 : va_W) (sz : Nat) (hT : TW ksC ad cy B qr s1 w0)  : Met l yX11_hasWalker (wu yX11_hasWalker cX11_hasWalker 2 (some .boolean)) ({ frames := 1, cells := 0, slots := 0, locals := 12 }) (va_Pc [.ref (ad 0), .int a1] (wpreS adK adV dC dI cy sz w0)) (va_Qi (P_X11_hasWalker_1 ad cy B qr s1 a1 w0) (fun u : va_W => wpost dC dI cy (va_A w0 sz) u) (va_A w0 sz)) 0 0 (va_A w0 sz) := by
  refine Met.ofW (cc := cX11_hasWalker) (maxL := 2) (ret := (some .boolean)) (by decide) rfl ?_
  intro p e s m args below meth c s₁ Bk hml hv
  obtain ⟨rfl, ⟨hsz, hP, hK, hD0⟩, hE, hSR⟩ := hv
  have hx := Bk.exec
  have hb := Bk.bytes
  have hr := Bk.returns
  have hlocks := Bk.notSynchronized
  have hC : CallFix p m c cX11_hasWalker 2 s _ (wu yX11_hasWalker cX11_hasWalker 2 (some .boolean)) RX11 := ⟨hx, hb, hml, findClass_of_methodNamed Bk.named, atoms_spec (ws := (wu yX11_hasWalker cX11_hasWalker 2 (some .boolean))) Bk.pre⟩
  subst hsz
  have hD := hD0.self (sz := s.heap.size)
  generalize hAe : va_A w0 s.heap.size = A at hD hE ⊢
  have hA : ∀ q : Nat, s.heap.size ≤ q → A q := fun q h => by rw [← hAe]; exact Or.inr h
  have hw : Wd dC dI A s.heap s.heap [] w0 := ⟨hP, hD, va_S.rf⟩
  have hF : FE ksC ([] : List (Nat × Nat × Nat)) w0 w0 := FE.rf
  have hl := lv_entry ([.ref (ad 0), .int a1]) (n := 2) (Nat.le_of_ble_eq_true rfl)
  rw [lg_entry_eq]
  generalize (lg_sl ([.ref (ad 0), .int a1]) ++ List.replicate (2 - (lg_sl ([.ref (ad 0), .int a1])).length) Slot.unset).toArray = ls at hl ⊢
  have hl : lv_has ls 2 [(0, .ref (ad 0)), (1, .int a1)] := hl
  generalize hloc : ([] : List Loc) = locs at hw ⊢
  have hinX11 : ∀ w ∈ u_ws RX11 TX11 13, w ∈ (wu yX11_hasWalker cX11_hasWalker 2 (some .boolean)) := fun _ h => List.mem_cons_of_mem _ (up_70 h)
  have hinX5 : ∀ w ∈ u_ws RX5 TX5 14, w ∈ (wu yX11_hasWalker cX11_hasWalker 2 (some .boolean)) := fun _ h => List.mem_cons_of_mem _ (up_76 h)
  have J19 : ∀ (H : Heap) (locs : List Loc) (ls : Array Slot) (w1 : va_W), Wd dC dI A s.heap H locs w1 → TW ksC ad cy B qr s1 w1 → FE ksC ([] : List (Nat × Nat × Nat)) w0 w1 → lv_has ls 2 [(0, .ref (ad 0)), (1, .int a1)] → W p l e ({ frames := 1, cells := 0, slots := 0, locals := 12 }) s m (List.toArray [.ref (ad 0), .int a1]) below meth c H locs 0 0 (MQ below (va_Qi (P_X11_hasWalker_1 ad cy B qr s1 a1 w0) (fun u : va_W => wpost dC dI cy A u) A) (List.toArray [.ref (ad 0), .int a1]) s 0 0 A) (F0 m 19 ls []) := by
    intro H locs ls w1 hw hT hF hl
    refine lv_iconst (v := 0) hx hb dX11_hasWalker_19 (by decide) ?_
    exact tk_zret hC hr rfl hlocks hK ⟨hT, hF, (Or.inl rfl)⟩ hw dX11_hasWalker_20
  refine lv_iload_n hx hb dX11_hasWalker_0 rfl (lv_at hl 1 rfl) ?_
  refine lv_if_lt (tgt := 19) hx hb dX11_hasWalker_1 (by decide) (fun c2 => ?_) (fun c2 => ?_)
  · have c2 : a1.toInt < (0 : Int) := wk_lt.mp c2
    exact J19  s.heap locs ls w0   hw hT hF  (lv_sub hl [0, 1] rfl)
  · have c2 : (0 : Int) ≤ a1.toInt := wk_ltF c2
    refine lv_iload_n hx hb dX11_hasWalker_4 rfl (lv_at hl 1 rfl) ?_
    refine lv_aload_n hx hb dX11_hasWalker_5 rfl (lv_at hl 0 rfl) ?_
    refine tk_getA hC hK hw hT hinX11 kC_at0 (by decide) rfl 4 (by decide) (List.mem_cons_of_mem _ uw_1_7) rfl rfl dX11_hasWalker_6 ?_
    refine tk_geti hC hK hw hT hinX5 kC_at38 (by decide) rfl 9 (by decide) (List.mem_cons_of_mem _ uw_38_23) rfl rfl dX11_hasWalker_9 (fun x3 c4 rx3 tx3 => ?_)
    refine lv_icmp_ge (tgt := 19) hx hb dX11_hasWalker_12 (by decide) (fun c5 => ?_) (fun c5 => ?_)
    · have c5 : x3.toInt ≤ a1.toInt := wk_le.mp c5
      exact J19  s.heap locs ls w0   hw hT hF  (lv_sub hl [0, 1] rfl)
    · have c5 : a1.toInt < x3.toInt := wk_leF c5
      refine lv_iconst (v := 1) hx hb dX11_hasWalker_15 (by decide) ?_
      refine lv_goto (tgt := 20) hx hb dX11_hasWalker_16 (by decide) ?_
      exact tk_zret hC hr rfl hlocks hK ⟨hT, hF, (Or.inr ⟨rfl, (show 0 ≤ a1.toInt from c2), (show a1.toInt ≤ 3 by first | with_reducible assumption | omega), ⟨x3, c4, (show 1 ≤ x3.toInt by first | with_reducible assumption | omega), (show x3.toInt ≤ 4 from tx3)⟩⟩)⟩ hw dX11_hasWalker_20
