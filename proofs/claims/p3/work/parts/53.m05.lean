abbrev P_X11_had_1 (ad : Nat → Nat) (cy : Nat → ClassId) (B : Int) (qr : Nat) (s1 : Int) (a1 : Int32) (w0 : va_W) : Int32 → va_W → Prop := fun r u => TW ksC ad cy (B + 3600) qr s1 u ∧ FE ksC [(1, 4, 4), (1, 5, 5), (1, 6, 6), (1, 7, 7), (1, 8, 8), (9, 0, 0), (9, 1, 1), (9, 2, 2), (9, 3, 3), (9, 4, 4), (9, 5, 5), (9, 6, 6), (9, 7, 7), (9, 8, 8), (42, 0, 1100), (43, 0, 1100), (44, 0, 11), (45, 0, 64)] w0 u ∧ ((0 ≤ r.toInt ∧ r.toInt ≤ 15 ∧ 0 ≤ a1.toInt ∧ a1.toInt ≤ 3 ∧ (∃ y : Int32, gi u 38 9 = y ∧ 1 ≤ y.toInt ∧ y.toInt ≤ 4)) ∨ (r = (-1)))
set_option maxHeartbeats 4000000 in
set_option maxRecDepth 100000 in
theorem k_X11_had_1 (l : Launch) (adK adV : Nat → Nat) (dC : Nat → ClassId) (dI : Nat → Nat → Nat) (cy : Nat → ClassId) (ad : Nat → Nat) (B : Int) (hB0 : 2147483648 ≤ B) (hB1 : B ≤ 1152921504606843385) (qr : Nat) (s1 : Int)  (a1 : Int32) (w0 : va_W) (sz : Nat) (hT : TW ksC ad cy B qr s1 w0)  : Met l yX11_had wsX11_had ({ frames := 8, cells := 0, slots := 0, locals := 181 }) (va_Pc [.ref (ad 0), .int a1] (wpreS adK adV dC dI cy sz w0)) (va_Qi (P_X11_had_1 ad cy B qr s1 a1 w0) (fun u : va_W => wpost dC dI cy (va_A w0 sz) u) (va_A w0 sz)) 0 0 (va_A w0 sz) := by
  refine Met.ofW (cc := cX11_had) (maxL := 2) (ret := (some .int)) (by decide) rfl ?_
  intro p e s m args below meth c s₁ Bk hml hv
  obtain ⟨rfl, ⟨hsz, hP, hK, hD0⟩, hE, hSR⟩ := hv
  have hx := Bk.exec
  have hb := Bk.bytes
  have hr := Bk.returns
  have hlocks := Bk.notSynchronized
  have hC : CallFix p m c cX11_had 2 s _ wsX11_had RX11 := ⟨hx, hb, hml, findClass_of_methodNamed Bk.named, atoms_spec (ws := wsX11_had) Bk.pre⟩
  subst hsz
  have hD := hD0.self (sz := s.heap.size)
  generalize hAe : va_A w0 s.heap.size = A at hD hE ⊢
  have hA : ∀ q : Nat, s.heap.size ≤ q → A q := fun q h => by rw [← hAe]; exact Or.inr h
  have hw : Wd dC dI A s.heap s.heap [] w0 := ⟨hP, hD, va_S.rf⟩
  have hF : FE ksC [(1, 4, 4), (1, 5, 5), (1, 6, 6), (1, 7, 7), (1, 8, 8), (9, 0, 0), (9, 1, 1), (9, 2, 2), (9, 3, 3), (9, 4, 4), (9, 5, 5), (9, 6, 6), (9, 7, 7), (9, 8, 8), (42, 0, 1100), (43, 0, 1100), (44, 0, 11), (45, 0, 64)] w0 w0 := FE.rf
  have hl := lv_entry ([.ref (ad 0), .int a1]) (n := 2) (Nat.le_of_ble_eq_true rfl)
  rw [lg_entry_eq]
  generalize (lg_sl ([.ref (ad 0), .int a1]) ++ List.replicate (2 - (lg_sl ([.ref (ad 0), .int a1])).length) Slot.unset).toArray = ls at hl ⊢
  have hl : lv_has ls 2 [(0, .ref (ad 0)), (1, .int a1)] := hl
  generalize hloc : ([] : List Loc) = locs at hw ⊢
  have hinX11 : ∀ w ∈ u_ws RX11 TX11 13, w ∈ wsX11_had := fun _ h => List.mem_cons_of_mem _ (List.mem_append_left _ (List.mem_append_left _ (List.mem_append_left _ (List.mem_append_left _ (List.mem_append_left _ (List.mem_append_left _ (List.mem_append_left _ (List.mem_append_right _ (h)))))))))
  have hinX5 : ∀ w ∈ u_ws RX5 TX5 14, w ∈ wsX11_had := fun _ h => List.mem_cons_of_mem _ (List.mem_append_left _ (List.mem_append_left _ (List.mem_append_left _ (List.mem_append_left _ (List.mem_append_left _ (List.mem_append_left _ (List.mem_append_right _ (h))))))))
  refine lv_aload_n hx hb dX11_had_0 rfl (lv_at hl 0 rfl) ?_
  refine lv_iload_n hx hb dX11_had_1 rfl (lv_at hl 1 rfl) ?_
  refine tk_Vi hC hK hw hT hA hE hSR kC_at0 (by decide) rfl (k_X11_hasWalker_1 l adK adV dC dI cy ad B (by omega) (by omega) qr s1   a1 w0 s.heap.size hT ) (cwV 1 hC.2.2.2.2 gX11_had_X11_hasWalker rfl rfl rfl (by decide +kernel) ⟨Nat.le_of_ble_eq_true rfl, Nat.le_of_ble_eq_true rfl⟩) rfl hl.1 rfl (Nat.le_of_ble_eq_true rfl) dX11_had_2 (fun r1 w3 H locs hp2 hw => ?_)
  obtain ⟨hT, k4, hg9⟩ := hp2
  have hF := hF.tr k4 (by decide)
  rcases hg9 with rfl | ⟨rfl, g5, g6, ⟨x7, c8, rx7, tx7⟩⟩
  · refine lv_if_ne (tgt := 10) hx hb dX11_had_5 (by decide) (fun c => absurd (by decide) c) (fun _ => ?_)
    refine lv_iconst (v := (-1)) hx hb dX11_had_8 (by decide) ?_
    exact tk_iret hC hr hlocks hK ⟨(hT.up (show B ≤ (B + 3600) by omega)), hF, (Or.inr rfl)⟩ hw dX11_had_9
  · refine lv_if_ne (tgt := 10) hx hb dX11_had_5 (by decide) (fun _ => ?_) (fun c => absurd c (by decide))
    refine lv_aload_n hx hb dX11_had_10 rfl (lv_at hl 0 rfl) ?_
    refine tk_getA hC hK hw hT hinX11 kC_at0 (by decide) rfl 7 (by decide) (List.mem_of_getElem? (i := 1) rfl) rfl rfl dX11_had_11 ?_
    refine tk_Vv hC hK hw hT hA hE hSR kC_at145 (by decide) rfl (k_X0_refreshAll_1 l adK adV dC dI cy ad B (by omega) (by omega) qr s1    w3 H.size hT ) (cwV 0 hC.2.2.2.2 gX11_had_X0_refreshAll rfl rfl rfl (by decide +kernel) ⟨Nat.le_of_ble_eq_true rfl, Nat.le_of_ble_eq_true rfl⟩) rfl hl.1 rfl (Nat.le_of_ble_eq_true rfl) dX11_had_14 (fun w12 H locs hp11 hw => ?_)
    obtain ⟨hT, k13, hg14⟩ := hp11
    have hF := hF.tr k13 (by decide)
    have c15 := k13.gi kC_at38 (by decide) c8
    clear hg14
    refine lv_aload_n hx hb dX11_had_17 rfl (lv_at hl 0 rfl) ?_
    refine tk_getA hC hK hw hT hinX11 kC_at0 (by decide) rfl 9 (by decide) (List.mem_of_getElem? (i := 2) rfl) rfl rfl dX11_had_18 ?_
    refine lv_aload_n hx hb dX11_had_21 rfl (lv_at hl 0 rfl) ?_
    refine tk_getA hC hK hw hT hinX11 kC_at0 (by decide) rfl 4 (by decide) (List.mem_of_getElem? (i := 3) rfl) rfl rfl dX11_had_22 ?_
    refine tk_getO hC hK hw hT hinX5 kC_at38 (by decide) rfl 2 (by decide) (List.mem_of_getElem? (i := 4) rfl) rfl rfl dX11_had_25 ?_
    refine lv_iload_n hx hb dX11_had_28 rfl (lv_at hl 1 rfl) ?_
    refine tk_aald hC hK hw hT kC_at49 rfl (by decide) rfl (show 0 ≤ a1.toInt by omega) (show a1.toInt < 4 by omega) dX11_had_29 (fun j16 hj16 gj16 => ?_)
    refine tk_Vi hC hK hw hT hA hE hSR kC_at151 (by decide) rfl (k_X8_fittingMaps_1 l adK adV dC dI cy ad B (by omega) (by omega) qr s1   (el 33 49 j16) (kC_el33 kC_at49 hj16) w12 H.size hT ) (cwV 1 hC.2.2.2.2 gX11_had_X8_fittingMaps rfl rfl rfl (by decide +kernel) ⟨Nat.le_of_ble_eq_true rfl, Nat.le_of_ble_eq_true rfl⟩) rfl hl.1 rfl (Nat.le_of_ble_eq_true rfl) dX11_had_30 (fun r17 w19 H locs hp18 hw => ?_)
    obtain ⟨hT, k20, hg23⟩ := hp18
    have hF := hF.tr k20 (by decide)
    have c24 := k20.gi kC_at38 (by decide) c15
    obtain ⟨g21, g22⟩ := hg23
    exact tk_iret hC hr hlocks hK ⟨hT, hF, (Or.inl ⟨(show 0 ≤ r17.toInt by omega), (show r17.toInt ≤ 15 by omega), (show 0 ≤ a1.toInt by omega), (show a1.toInt ≤ 3 by omega), ⟨x7, c24, (show 1 ≤ x7.toInt by omega), (show x7.toInt ≤ 4 by omega)⟩⟩)⟩ hw dX11_had_33
abbrev P_X7_sideOf_3 (ad : Nat → Nat) (cy : Nat → ClassId) (B : Int) (qr : Nat) (s1 : Int) (a1 : Int32) (a2 : Int32) (w0 : va_W) : Int32 → va_W → Prop := fun r u => TW ksC ad cy B qr s1 u ∧ FE ksC ([] : List (Nat × Nat × Nat)) w0 u ∧ ((r = (-1)) ∨ (r = 0 ∧ 0 ≤ a2.toInt ∧ a2.toInt ≤ 9 ∧ gi u 40 (2 * a1.toInt + 0).toNat = a2) ∨ (r = 1 ∧ 0 ≤ a2.toInt ∧ a2.toInt ≤ 9 ∧ gi u 40 (2 * a1.toInt + 1).toNat = a2))
set_option maxHeartbeats 4000000 in
set_option maxRecDepth 100000 in
theorem k_X7_sideOf_3 (l : Launch) (adK adV : Nat → Nat) (dC : Nat → ClassId) (dI : Nat → Nat → Nat) (cy : Nat → ClassId) (ad : Nat → Nat) (B : Int) (hB0 : 2147483648 ≤ B) (hB1 : B ≤ 1152921504606846976) (qr : Nat) (s1 : Int)  (a1 : Int32) (ra1 : 0 ≤ a1.toInt) (ta1 : a1.toInt ≤ 12) (a2 : Int32) (w0 : va_W) (sz : Nat) (hT : TW ksC ad cy B qr s1 w0)  : Met l yX7_sideOf wsX7_sideOf ({ frames := 1, cells := 0, slots := 0, locals := 12 }) (va_Pc [.ref (ad 39), .int a1, .int a2] (wpreS adK adV dC dI cy sz w0)) (va_Qi (P_X7_sideOf_3 ad cy B qr s1 a1 a2 w0) (fun u : va_W => wpost dC dI cy (va_A w0 sz) u) (va_A w0 sz)) 0 0 (va_A w0 sz) := by
  refine Met.ofW (cc := cX7_sideOf) (maxL := 3) (ret := (some .int)) (by decide) rfl ?_
  intro p e s m args below meth c s₁ Bk hml hv
  obtain ⟨rfl, ⟨hsz, hP, hK, hD0⟩, hE, hSR⟩ := hv
  have hx := Bk.exec
  have hb := Bk.bytes
  have hr := Bk.returns
  have hlocks := Bk.notSynchronized
  have hC : CallFix p m c cX7_sideOf 3 s _ wsX7_sideOf RX7 := ⟨hx, hb, hml, findClass_of_methodNamed Bk.named, atoms_spec (ws := wsX7_sideOf) Bk.pre⟩
  subst hsz
  have hD := hD0.self (sz := s.heap.size)
  generalize hAe : va_A w0 s.heap.size = A at hD hE ⊢
  have hA : ∀ q : Nat, s.heap.size ≤ q → A q := fun q h => by rw [← hAe]; exact Or.inr h
  have hw : Wd dC dI A s.heap s.heap [] w0 := ⟨hP, hD, va_S.rf⟩
  have hF : FE ksC ([] : List (Nat × Nat × Nat)) w0 w0 := FE.rf
  have hl := lv_entry ([.ref (ad 39), .int a1, .int a2]) (n := 3) (Nat.le_of_ble_eq_true rfl)
  rw [lg_entry_eq]
  generalize (lg_sl ([.ref (ad 39), .int a1, .int a2]) ++ List.replicate (3 - (lg_sl ([.ref (ad 39), .int a1, .int a2])).length) Slot.unset).toArray = ls at hl ⊢
  have hl : lv_has ls 3 [(0, .ref (ad 39)), (1, .int a1), (2, .int a2)] := hl
  generalize hloc : ([] : List Loc) = locs at hw ⊢
  have hinX7 : ∀ w ∈ u_ws RX7 TX7 12, w ∈ wsX7_sideOf := fun _ h => List.mem_cons_of_mem _ (List.mem_append_right _ (h))
  refine lv_aload_n hx hb dX7_sideOf_0 rfl (lv_at hl 0 rfl) ?_
  refine tk_getO hC hK hw hT hinX7 kC_at39 (by decide) rfl 0 (by decide) (List.mem_of_getElem? (i := 1) rfl) rfl rfl dX7_sideOf_1 ?_
  refine lv_iconst (v := 2) hx hb dX7_sideOf_4 (by decide) ?_
  refine lv_iload_n hx hb dX7_sideOf_5 rfl (lv_at hl 1 rfl) ?_
  refine lv_imul hx hb dX7_sideOf_6 ?_
  refine lv_topi (fun x1 ex1 => ?_)
  have ex1 : x1.toInt = (2 : Int) * a1.toInt := by rw [ex1]; exact wk_mul (show (-2147483648) ≤ (2 : Int) * a1.toInt by omega) (show (2 : Int) * a1.toInt ≤ 2147483647 by omega)
  refine tk_iald hC hK hw hT kC_at40 rfl rfl (show 0 ≤ x1.toInt by omega) (show x1.toInt < 26 by omega) dX7_sideOf_7 (fun x2 c3 rx2 tx2 => ?_)
  have c3 : gi w0 40 (2 * a1.toInt + 0).toNat = x2 := (congrArg (gi w0 40) (congrArg Int.toNat (show 2 * a1.toInt + 0 = x1.toInt by omega))).trans c3
  refine lv_iload_n hx hb dX7_sideOf_8 rfl (lv_at hl 2 rfl) ?_
  refine lv_icmp_ne (tgt := 14) hx hb dX7_sideOf_9 (by decide) (fun c4 => ?_) (fun c4 => ?_)
  · have c4 : ¬ x2.toInt = a2.toInt := wk_eqF c4
    refine lv_aload_n hx hb dX7_sideOf_14 rfl (lv_at hl 0 rfl) ?_
    refine tk_getO hC hK hw hT hinX7 kC_at39 (by decide) rfl 0 (by decide) (List.mem_of_getElem? (i := 1) rfl) rfl rfl dX7_sideOf_15 ?_
    refine lv_iconst (v := 2) hx hb dX7_sideOf_18 (by decide) ?_
    refine lv_iload_n hx hb dX7_sideOf_19 rfl (lv_at hl 1 rfl) ?_
    refine lv_imul hx hb dX7_sideOf_20 ?_
    refine lv_topi (fun x5 ex5 => ?_)
    have ex5 : x5.toInt = (2 : Int) * a1.toInt := by rw [ex5]; exact wk_mul (show (-2147483648) ≤ (2 : Int) * a1.toInt by omega) (show (2 : Int) * a1.toInt ≤ 2147483647 by omega)
    refine lv_iconst (v := 1) hx hb dX7_sideOf_21 (by decide) ?_
    refine lv_iadd hx hb dX7_sideOf_22 ?_
    refine lv_topi (fun x6 ex6 => ?_)
    have ex6 : x6.toInt = x5.toInt + (1 : Int) := by rw [ex6]; exact wk_add (show (-2147483648) ≤ x5.toInt + (1 : Int) by omega) (show x5.toInt + (1 : Int) ≤ 2147483647 by omega)
    refine tk_iald hC hK hw hT kC_at40 rfl rfl (show 0 ≤ x6.toInt by omega) (show x6.toInt < 26 by omega) dX7_sideOf_23 (fun x7 c8 rx7 tx7 => ?_)
    have c8 : gi w0 40 (2 * a1.toInt + 1).toNat = x7 := (congrArg (gi w0 40) (congrArg Int.toNat (show 2 * a1.toInt + 1 = x6.toInt by omega))).trans c8
    refine lv_iload_n hx hb dX7_sideOf_24 rfl (lv_at hl 2 rfl) ?_
    refine lv_icmp_ne (tgt := 32) hx hb dX7_sideOf_25 (by decide) (fun c9 => ?_) (fun c9 => ?_)
    · have c9 : ¬ x7.toInt = a2.toInt := wk_eqF c9
      refine lv_iconst (v := (-1)) hx hb dX7_sideOf_32 (by decide) ?_
      exact tk_iret hC hr hlocks hK ⟨hT, hF, (Or.inl rfl)⟩ hw dX7_sideOf_33
    · have c9 : x7.toInt = a2.toInt := wk_eq.mp c9
      refine lv_iconst (v := 1) hx hb dX7_sideOf_28 (by decide) ?_
      refine lv_goto (tgt := 33) hx hb dX7_sideOf_29 (by decide) ?_
      exact tk_iret hC hr hlocks hK ⟨hT, hF, (Or.inr (Or.inr ⟨rfl, (show 0 ≤ a2.toInt by omega), (show a2.toInt ≤ 9 by omega), (c8.trans (wk_eq.mpr (show x7.toInt = a2.toInt by omega)))⟩))⟩ hw dX7_sideOf_33
  · have c4 : x2.toInt = a2.toInt := wk_eq.mp c4
    refine lv_iconst (v := 0) hx hb dX7_sideOf_12 (by decide) ?_
    exact tk_iret hC hr hlocks hK ⟨hT, hF, (Or.inr (Or.inl ⟨rfl, (show 0 ≤ a2.toInt by omega), (show a2.toInt ≤ 9 by omega), (c3.trans (wk_eq.mpr (show x2.toInt = a2.toInt by omega)))⟩))⟩ hw dX7_sideOf_13
abbrev P_X7_findSaints_1 (ad : Nat → Nat) (cy : Nat → ClassId) (B : Int) (qr : Nat) (s1 : Int) (a1 : Int32) (w0 : va_W) : va_W → Prop := fun u => TW ksC ad cy B qr s1 u ∧ FE ksC [(31, 0, 13)] w0 u ∧ ((True))
set_option maxHeartbeats 4000000 in
set_option maxRecDepth 100000 in
theorem k_X7_findSaints_1 (l : Launch) (adK adV : Nat → Nat) (dC : Nat → ClassId) (dI : Nat → Nat → Nat) (cy : Nat → ClassId) (ad : Nat → Nat) (B : Int) (hB0 : 2147483648 ≤ B) (hB1 : B ≤ 1152921504606846976) (qr : Nat) (s1 : Int)  (a1 : Int32) (ra1 : 0 ≤ a1.toInt) (ta1 : a1.toInt ≤ 12) (w0 : va_W) (sz : Nat) (hT : TW ksC ad cy B qr s1 w0)  : Met l yX7_findSaints wsX7_findSaints ({ frames := 2, cells := 0, slots := 0, locals := 34 }) (va_Pc [.ref (ad 39), .int a1] (wpreS adK adV dC dI cy sz w0)) (va_Qv (P_X7_findSaints_1 ad cy B qr s1 a1 w0) (fun u : va_W => wpost dC dI cy (va_A w0 sz) u) (va_A w0 sz)) 0 0 (va_A w0 sz) := by
  refine Met.ofW (cc := cX7_findSaints) (maxL := 3) (ret := none) (by decide) rfl ?_
  intro p e s m args below meth c s₁ Bk hml hv
  obtain ⟨rfl, ⟨hsz, hP, hK, hD0⟩, hE, hSR⟩ := hv
  have hx := Bk.exec
  have hb := Bk.bytes
  have hr := Bk.returns
  have hlocks := Bk.notSynchronized
  have hC : CallFix p m c cX7_findSaints 3 s _ wsX7_findSaints RX7 := ⟨hx, hb, hml, findClass_of_methodNamed Bk.named, atoms_spec (ws := wsX7_findSaints) Bk.pre⟩
  subst hsz
  have hD := hD0.self (sz := s.heap.size)
  generalize hAe : va_A w0 s.heap.size = A at hD hE ⊢
  have hA : ∀ q : Nat, s.heap.size ≤ q → A q := fun q h => by rw [← hAe]; exact Or.inr h
  have hw : Wd dC dI A s.heap s.heap [] w0 := ⟨hP, hD, va_S.rf⟩
  have hF : FE ksC [(31, 0, 13)] w0 w0 := FE.rf
  have hl := lv_entry ([.ref (ad 39), .int a1]) (n := 3) (Nat.le_of_ble_eq_true rfl)
  rw [lg_entry_eq]
  generalize (lg_sl ([.ref (ad 39), .int a1]) ++ List.replicate (3 - (lg_sl ([.ref (ad 39), .int a1])).length) Slot.unset).toArray = ls at hl ⊢
  have hl : lv_has ls 3 [(0, .ref (ad 39)), (1, .int a1)] := hl
  generalize hloc : ([] : List Loc) = locs at hw ⊢
  have hinX7 : ∀ w ∈ u_ws RX7 TX7 12, w ∈ wsX7_findSaints := fun _ h => List.mem_cons_of_mem _ (List.mem_append_right _ (h))
  have L9 : ∀ (n9 : Nat) (v9_2 : Int32) (H : Heap) (locs : List Loc) (ls : Array Slot) (w1 : va_W), 0 ≤ a1.toInt → a1.toInt ≤ 12 → 0 ≤ v9_2.toInt → v9_2.toInt ≤ 8 → (8 - v9_2.toInt).toNat < n9 → Wd dC dI A s.heap H locs w1 → TW ksC ad cy B qr s1 w1 → FE ksC [(31, 0, 13)] w0 w1 → lv_has ls 3 [(0, .ref (ad 39)), (1, .int a1), (2, .int v9_2)] → W p l e ({ frames := 2, cells := 0, slots := 0, locals := 34 }) s m (List.toArray [.ref (ad 39), .int a1]) below meth c H locs 0 0 (MQ below (va_Qv (P_X7_findSaints_1 ad cy B qr s1 a1 w0) (fun u : va_W => wpost dC dI cy A u) A) (List.toArray [.ref (ad 39), .int a1]) s 0 0 A) (F0 m 9 ls []) := by
    intro n9
    induction n9 with
    | zero => intro v9_2 H locs ls w1 r2 t3 r4 t5 hm9 hw hT hF hl; omega
    | succ n9 ih9 =>
      intro v9_2 H locs ls w1 r2 t3 r4 t5 hm9 hw hT hF hl
      have J44 : ∀ (f44_39_10 : Int32) (H : Heap) (locs : List Loc) (ls : Array Slot) (w6 : va_W), 0 ≤ a1.toInt → a1.toInt ≤ 12 → 0 ≤ v9_2.toInt → v9_2.toInt ≤ 7 → 1 ≤ f44_39_10.toInt → f44_39_10.toInt ≤ 8 → Wd dC dI A s.heap H locs w6 → TW ksC ad cy B qr s1 w6 → FE ksC [(31, 0, 13)] w0 w6 → gi w6 39 10 = f44_39_10 → lv_has ls 3 [(0, .ref (ad 39)), (1, .int a1), (2, .int v9_2)] → W p l e ({ frames := 2, cells := 0, slots := 0, locals := 34 }) s m (List.toArray [.ref (ad 39), .int a1]) below meth c H locs 0 0 (MQ below (va_Qv (P_X7_findSaints_1 ad cy B qr s1 a1 w0) (fun u : va_W => wpost dC dI cy A u) A) (List.toArray [.ref (ad 39), .int a1]) s 0 0 A) (F0 m 44 ls []) := by
        intro f44_39_10 H locs ls w6 r7 t8 r9 t10 r11 t12 hw hT hF c13 hl
        obtain ⟨x14, ex14⟩ : ∃ y : Int32, y = v9_2 + Int32.ofInt 1 := ⟨_, rfl⟩
        refine lv_iinc (v := x14) (lv' := [(2, .int x14), (0, .ref (ad 39)), (1, .int a1)]) hx hb dX7_findSaints_44 hl (k := 2) rfl ex14.symm (by decide) rfl (fun ls hl => ?_)
        have ex14 : x14.toInt = v9_2.toInt + 1 := by rw [ex14]; exact wk_add (y := 1) (show -2147483648 ≤ v9_2.toInt + 1 by omega) (show v9_2.toInt + 1 ≤ 2147483647 by omega)
        refine lv_goto (tgt := 9) hx hb dX7_findSaints_47 (by decide) ?_
        exact ih9 x14 H locs ls w6 (show 0 ≤ a1.toInt by omega) (show a1.toInt ≤ 12 by omega) (show 0 ≤ x14.toInt by omega) (show x14.toInt ≤ 8 by omega) (show (8 - x14.toInt).toNat < n9 by omega) hw hT hF  (lv_sub hl [1, 2, 0] rfl)
      refine lv_iload_n hx hb dX7_findSaints_9 rfl (lv_at hl 2 rfl) ?_
      refine lv_aload_n hx hb dX7_findSaints_10 rfl (lv_at hl 0 rfl) ?_
      refine tk_geti hC hK hw hT hinX7 kC_at39 (by decide) rfl 10 (by decide) (List.mem_of_getElem? (i := 2) rfl) rfl rfl dX7_findSaints_11 (fun x15 c16 rx15 tx15 => ?_)
      refine lv_icmp_ge (tgt := 50) hx hb dX7_findSaints_14 (by decide) (fun c17 => ?_) (fun c17 => ?_)
      · have c17 : x15.toInt ≤ v9_2.toInt := wk_le.mp c17
        exact tk_vret hC hr hlocks hK ⟨hT, hF, trivial⟩ hw dX7_findSaints_50
      · have c17 : v9_2.toInt < x15.toInt := wk_leF c17
        refine lv_aload_n hx hb dX7_findSaints_17 rfl (lv_at hl 0 rfl) ?_
        refine lv_iload_n hx hb dX7_findSaints_18 rfl (lv_at hl 1 rfl) ?_
        refine lv_aload_n hx hb dX7_findSaints_19 rfl (lv_at hl 0 rfl) ?_
        refine tk_getO hC hK hw hT hinX7 kC_at39 (by decide) rfl 5 (by decide) (List.mem_of_getElem? (i := 3) rfl) rfl rfl dX7_findSaints_20 ?_
        refine lv_iload_n hx hb dX7_findSaints_23 rfl (lv_at hl 2 rfl) ?_
        refine tk_iald hC hK hw hT kC_at45 rfl rfl (show 0 ≤ v9_2.toInt by omega) (show v9_2.toInt < 8 by omega) dX7_findSaints_24 (fun x18 c19 rx18 tx18 => ?_)
        refine tk_Vi hC hK hw hT hA hE hSR kC_at39 (by decide) rfl (k_X7_sideOf_3 l adK adV dC dI cy ad B (by omega) (by omega) qr s1   a1 (show 0 ≤ a1.toInt by omega) (show a1.toInt ≤ 12 by omega) x18 w1 H.size hT ) (cwV 2 hC.2.2.2.2 gX7_findSaints_X7_sideOf rfl rfl rfl (by decide +kernel) ⟨Nat.le_of_ble_eq_true rfl, Nat.le_of_ble_eq_true rfl⟩) rfl hl.1 rfl (Nat.le_of_ble_eq_true rfl) dX7_findSaints_25 (fun r20 w22 H locs hp21 hw => ?_)
        obtain ⟨hT, k23, hg30⟩ := hp21
        have hF := hF.tr k23 (by decide)
        have c31 := k23.gi kC_at39 (by decide) c16
        rcases hg30 with rfl | ⟨rfl, g24, g25, c26⟩ | ⟨rfl, g27, g28, c29⟩
        · refine lv_iconst (v := (-1)) hx hb dX7_findSaints_28 (by decide) ?_
          refine lv_icmp_eq (tgt := 44) hx hb dX7_findSaints_29 (by decide) (fun _ => ?_) (fun c => absurd (by decide) c)
          exact J44 x15 H locs ls w22 (show 0 ≤ a1.toInt by omega) (show a1.toInt ≤ 12 by omega) (show 0 ≤ v9_2.toInt by omega) (show v9_2.toInt ≤ 7 by omega) (show 1 ≤ x15.toInt by omega) (show x15.toInt ≤ 8 by omega)  hw hT hF c31 (lv_sub hl [0, 1, 2] rfl)
        · refine lv_iconst (v := (-1)) hx hb dX7_findSaints_28 (by decide) ?_
          refine lv_icmp_eq (tgt := 44) hx hb dX7_findSaints_29 (by decide) (fun c => absurd c (by decide)) (fun _ => ?_)
          refine lv_aload_n hx hb dX7_findSaints_32 rfl (lv_at hl 0 rfl) ?_
          refine tk_getO hC hK hw hT hinX7 kC_at39 (by decide) rfl 7 (by decide) (List.mem_of_getElem? (i := 1) rfl) rfl rfl dX7_findSaints_33 ?_
          refine lv_iload_n hx hb dX7_findSaints_36 rfl (lv_at hl 1 rfl) ?_
          refine lv_dup2_11 hx hb dX7_findSaints_37 rfl rfl ?_
          refine tk_iald hC hK hw hT kC_at47 rfl rfl (show 0 ≤ a1.toInt by omega) (show a1.toInt < 13 by omega) dX7_findSaints_38 (fun x32 c33 rx32 tx32 => ?_)
          refine lv_iconst (v := 1) hx hb dX7_findSaints_39 (by decide) ?_
          refine lv_iload_n hx hb dX7_findSaints_40 rfl (lv_at hl 2 rfl) ?_
          refine lv_ishl hx hb dX7_findSaints_41 ?_
          refine lv_topi (fun x34 ex34 => ?_)
          have bx34 : 1 ≤ x34.toInt ∧ x34.toInt ≤ 128 := by rw [ex34]; exact wk_shl1 7 (by decide) (by omega) (by omega)
          refine lv_ior hx hb dX7_findSaints_42 ?_
          refine lv_topi (fun x35 ex35 => ?_)
          refine tk_iast hC hK hw hT kC_at47 (by decide) rfl rfl (show 0 ≤ a1.toInt by omega) (show a1.toInt < 13 by omega) (wk_i32 x35).1 (wk_i32 x35).2 dX7_findSaints_43 (fun H locs w36 hw hT k38 c37 => ?_)
          have hF := hF.put kC_at47 (inE_of (a := 0) (b := 13) (by decide) (show 0 ≤ a1.toInt.toNat by omega) (show a1.toInt.toNat ≤ 13 by omega)) k38
          have c39 := k38.gi (Or.inl (tk_ne kC_at39 kC_at47 (by decide))) c31
          have c40 := k38.gi (Or.inl (tk_ne kC_at40 kC_at47 (by decide))) c26
          exact J44 x15 H locs ls w36 (show 0 ≤ a1.toInt by omega) (show a1.toInt ≤ 12 by omega) (show 0 ≤ v9_2.toInt by omega) (show v9_2.toInt ≤ 7 by omega) (show 1 ≤ x15.toInt by omega) (show x15.toInt ≤ 8 by omega)  hw hT hF c39 (lv_sub hl [0, 1, 2] rfl)
        · refine lv_iconst (v := (-1)) hx hb dX7_findSaints_28 (by decide) ?_
          refine lv_icmp_eq (tgt := 44) hx hb dX7_findSaints_29 (by decide) (fun c => absurd c (by decide)) (fun _ => ?_)
          refine lv_aload_n hx hb dX7_findSaints_32 rfl (lv_at hl 0 rfl) ?_
          refine tk_getO hC hK hw hT hinX7 kC_at39 (by decide) rfl 7 (by decide) (List.mem_of_getElem? (i := 1) rfl) rfl rfl dX7_findSaints_33 ?_
          refine lv_iload_n hx hb dX7_findSaints_36 rfl (lv_at hl 1 rfl) ?_
          refine lv_dup2_11 hx hb dX7_findSaints_37 rfl rfl ?_
          refine tk_iald hC hK hw hT kC_at47 rfl rfl (show 0 ≤ a1.toInt by omega) (show a1.toInt < 13 by omega) dX7_findSaints_38 (fun x41 c42 rx41 tx41 => ?_)
          refine lv_iconst (v := 1) hx hb dX7_findSaints_39 (by decide) ?_
          refine lv_iload_n hx hb dX7_findSaints_40 rfl (lv_at hl 2 rfl) ?_
          refine lv_ishl hx hb dX7_findSaints_41 ?_
          refine lv_topi (fun x43 ex43 => ?_)
          have bx43 : 1 ≤ x43.toInt ∧ x43.toInt ≤ 128 := by rw [ex43]; exact wk_shl1 7 (by decide) (by omega) (by omega)
          refine lv_ior hx hb dX7_findSaints_42 ?_
          refine lv_topi (fun x44 ex44 => ?_)
          refine tk_iast hC hK hw hT kC_at47 (by decide) rfl rfl (show 0 ≤ a1.toInt by omega) (show a1.toInt < 13 by omega) (wk_i32 x44).1 (wk_i32 x44).2 dX7_findSaints_43 (fun H locs w45 hw hT k47 c46 => ?_)
          have hF := hF.put kC_at47 (inE_of (a := 0) (b := 13) (by decide) (show 0 ≤ a1.toInt.toNat by omega) (show a1.toInt.toNat ≤ 13 by omega)) k47
          have c48 := k47.gi (Or.inl (tk_ne kC_at39 kC_at47 (by decide))) c31
          have c49 := k47.gi (Or.inl (tk_ne kC_at40 kC_at47 (by decide))) c29
          exact J44 x15 H locs ls w45 (show 0 ≤ a1.toInt by omega) (show a1.toInt ≤ 12 by omega) (show 0 ≤ v9_2.toInt by omega) (show v9_2.toInt ≤ 7 by omega) (show 1 ≤ x15.toInt by omega) (show x15.toInt ≤ 8 by omega)  hw hT hF c48 (lv_sub hl [0, 1, 2] rfl)
  refine lv_aload_n hx hb dX7_findSaints_0 rfl (lv_at hl 0 rfl) ?_
  refine tk_getO hC hK hw hT hinX7 kC_at39 (by decide) rfl 7 (by decide) (List.mem_of_getElem? (i := 1) rfl) rfl rfl dX7_findSaints_1 ?_
  refine lv_iload_n hx hb dX7_findSaints_4 rfl (lv_at hl 1 rfl) ?_
  refine lv_iconst (v := 0) hx hb dX7_findSaints_5 (by decide) ?_
  refine tk_iast hC hK hw hT kC_at47 (by decide) rfl rfl (show 0 ≤ a1.toInt by omega) (show a1.toInt < 13 by omega) (by decide) (by decide) dX7_findSaints_6 (fun H locs w50 hw hT k52 c51 => ?_)
  have hF := hF.put kC_at47 (inE_of (a := 0) (b := 13) (by decide) (show 0 ≤ a1.toInt.toNat by omega) (show a1.toInt.toNat ≤ 13 by omega)) k52
  refine lv_iconst (v := 0) hx hb dX7_findSaints_7 (by decide) ?_
  refine lv_istore_n (lv' := [(2, .int 0), (0, .ref (ad 39)), (1, .int a1)]) hx hb dX7_findSaints_8 rfl hl (by decide) rfl (fun ls hl => ?_)
  exact L9 ((8 - (0 : Int)).toNat + 1) 0 H locs ls w50 (show 0 ≤ a1.toInt by omega) (show a1.toInt ≤ 12 by omega) (by decide) (by decide) (Nat.lt_succ_self _) hw hT hF  (lv_sub hl [1, 2, 0] rfl)
abbrev P_X7_placeSign_1 (ad : Nat → Nat) (cy : Nat → ClassId) (B : Int) (qr : Nat) (s1 : Int) (a1 : Int32) (a2 : Int32) (w0 : va_W) : va_W → Prop := fun u => TW ksC ad cy B qr s1 u ∧ FE ksC [(26, 0, 91), (28, 0, 26)] w0 u ∧ ((True))
set_option maxHeartbeats 4000000 in
set_option maxRecDepth 100000 in
theorem k_X7_placeSign_1 (l : Launch) (adK adV : Nat → Nat) (dC : Nat → ClassId) (dI : Nat → Nat → Nat) (cy : Nat → ClassId) (ad : Nat → Nat) (B : Int) (hB0 : 2147483648 ≤ B) (hB1 : B ≤ 1152921504606846976) (qr : Nat) (s1 : Int)  (a1 : Int32) (ra1 : 0 ≤ a1.toInt) (ta1 : a1.toInt ≤ 12) (a2 : Int32) (ra2 : 0 ≤ a2.toInt) (ta2 : a2.toInt ≤ 6) (w0 : va_W) (sz : Nat) (hT : TW ksC ad cy B qr s1 w0)  : Met l yX7_placeSign wsX7_placeSign ({ frames := 1, cells := 0, slots := 0, locals := 12 }) (va_Pc [.ref (ad 39), .int a1, .int a2, .int 3] (wpreS adK adV dC dI cy sz w0)) (va_Qv (P_X7_placeSign_1 ad cy B qr s1 a1 a2 w0) (fun u : va_W => wpost dC dI cy (va_A w0 sz) u) (va_A w0 sz)) 0 0 (va_A w0 sz) := by
  refine Met.ofW (cc := cX7_placeSign) (maxL := 4) (ret := none) (by decide) rfl ?_
  intro p e s m args below meth c s₁ Bk hml hv
  obtain ⟨rfl, ⟨hsz, hP, hK, hD0⟩, hE, hSR⟩ := hv
  have hx := Bk.exec
  have hb := Bk.bytes
  have hr := Bk.returns
  have hlocks := Bk.notSynchronized
  have hC : CallFix p m c cX7_placeSign 4 s _ wsX7_placeSign RX7 := ⟨hx, hb, hml, findClass_of_methodNamed Bk.named, atoms_spec (ws := wsX7_placeSign) Bk.pre⟩
  subst hsz
  have hD := hD0.self (sz := s.heap.size)
  generalize hAe : va_A w0 s.heap.size = A at hD hE ⊢
  have hA : ∀ q : Nat, s.heap.size ≤ q → A q := fun q h => by rw [← hAe]; exact Or.inr h
  have hw : Wd dC dI A s.heap s.heap [] w0 := ⟨hP, hD, va_S.rf⟩
  have hF : FE ksC [(26, 0, 91), (28, 0, 26)] w0 w0 := FE.rf
  have hl := lv_entry ([.ref (ad 39), .int a1, .int a2, .int 3]) (n := 4) (Nat.le_of_ble_eq_true rfl)
  rw [lg_entry_eq]
  generalize (lg_sl ([.ref (ad 39), .int a1, .int a2, .int 3]) ++ List.replicate (4 - (lg_sl ([.ref (ad 39), .int a1, .int a2, .int 3])).length) Slot.unset).toArray = ls at hl ⊢
  have hl : lv_has ls 4 [(0, .ref (ad 39)), (1, .int a1), (2, .int a2), (3, .int 3)] := hl
  generalize hloc : ([] : List Loc) = locs at hw ⊢
  have hinX7 : ∀ w ∈ u_ws RX7 TX7 12, w ∈ wsX7_placeSign := fun _ h => List.mem_cons_of_mem _ (List.mem_append_right _ (h))
  refine lv_aload_n hx hb dX7_placeSign_0 rfl (lv_at hl 0 rfl) ?_
  refine tk_getO hC hK hw hT hinX7 kC_at39 (by decide) rfl 2 (by decide) (List.mem_of_getElem? (i := 1) rfl) rfl rfl dX7_placeSign_1 ?_
  refine lv_bipush (v := 7) hx hb dX7_placeSign_4 (by decide) ?_
  refine lv_iload_n hx hb dX7_placeSign_6 rfl (lv_at hl 1 rfl) ?_
  refine lv_imul hx hb dX7_placeSign_7 ?_
  refine lv_topi (fun x1 ex1 => ?_)
  have ex1 : x1.toInt = (7 : Int) * a1.toInt := by rw [ex1]; exact wk_mul (show (-2147483648) ≤ (7 : Int) * a1.toInt by omega) (show (7 : Int) * a1.toInt ≤ 2147483647 by omega)
  refine lv_iload_n hx hb dX7_placeSign_8 rfl (lv_at hl 2 rfl) ?_
  refine lv_iadd hx hb dX7_placeSign_9 ?_
  refine lv_topi (fun x2 ex2 => ?_)
  have ex2 : x2.toInt = x1.toInt + a2.toInt := by rw [ex2]; exact wk_add (show (-2147483648) ≤ x1.toInt + a2.toInt by omega) (show x1.toInt + a2.toInt ≤ 2147483647 by omega)
  refine lv_iload_n hx hb dX7_placeSign_10 rfl (lv_at hl 3 rfl) ?_
  refine tk_iast hC hK hw hT kC_at42 (by decide) rfl rfl (show 0 ≤ x2.toInt by omega) (show x2.toInt < 91 by omega) (by decide) (by decide) dX7_placeSign_11 (fun H locs w3 hw hT k5 c4 => ?_)
  have hF := hF.put kC_at42 (inE_of (a := 0) (b := 91) (by decide) (show 0 ≤ x2.toInt.toNat by omega) (show x2.toInt.toNat ≤ 91 by omega)) k5
  refine lv_aload_n hx hb dX7_placeSign_12 rfl (lv_at hl 0 rfl) ?_
  refine tk_getO hC hK hw hT hinX7 kC_at39 (by decide) rfl 4 (by decide) (List.mem_of_getElem? (i := 2) rfl) rfl rfl dX7_placeSign_13 ?_
  refine lv_iconst (v := 2) hx hb dX7_placeSign_16 (by decide) ?_
  refine lv_iload_n hx hb dX7_placeSign_17 rfl (lv_at hl 1 rfl) ?_
  refine lv_imul hx hb dX7_placeSign_18 ?_
  refine lv_topi (fun x6 ex6 => ?_)
  have ex6 : x6.toInt = (2 : Int) * a1.toInt := by rw [ex6]; exact wk_mul (show (-2147483648) ≤ (2 : Int) * a1.toInt by omega) (show (2 : Int) * a1.toInt ≤ 2147483647 by omega)
  refine lv_dup2_11 hx hb dX7_placeSign_19 rfl rfl ?_
  refine tk_iald hC hK hw hT kC_at44 rfl rfl (show 0 ≤ x6.toInt by omega) (show x6.toInt < 26 by omega) dX7_placeSign_20 (fun x7 c8 rx7 tx7 => ?_)
  refine lv_iload_n hx hb dX7_placeSign_21 rfl (lv_at hl 3 rfl) ?_
  refine lv_iconst (v := 1) hx hb dX7_placeSign_22 (by decide) ?_
  refine lv_iand hx hb dX7_placeSign_23 ?_
  refine wk_top 1 (by decide) ?_
  refine lv_iload_n hx hb dX7_placeSign_24 rfl (lv_at hl 2 rfl) ?_
  refine lv_ishl hx hb dX7_placeSign_25 ?_
  refine lv_topi (fun x9 ex9 => ?_)
  have bx9 : 1 ≤ x9.toInt ∧ x9.toInt ≤ 64 := by rw [ex9]; exact wk_shl1 6 (by decide) (by omega) (by omega)
  refine lv_ior hx hb dX7_placeSign_26 ?_
  refine lv_topi (fun x10 ex10 => ?_)
  refine tk_iast hC hK hw hT kC_at44 (by decide) rfl rfl (show 0 ≤ x6.toInt by omega) (show x6.toInt < 26 by omega) (wk_i32 x10).1 (wk_i32 x10).2 dX7_placeSign_27 (fun H locs w11 hw hT k13 c12 => ?_)
  have hF := hF.put kC_at44 (inE_of (a := 0) (b := 26) (by decide) (show 0 ≤ x6.toInt.toNat by omega) (show x6.toInt.toNat ≤ 26 by omega)) k13
  refine lv_aload_n hx hb dX7_placeSign_28 rfl (lv_at hl 0 rfl) ?_
  refine tk_getO hC hK hw hT hinX7 kC_at39 (by decide) rfl 4 (by decide) (List.mem_of_getElem? (i := 2) rfl) rfl rfl dX7_placeSign_29 ?_
  refine lv_iconst (v := 2) hx hb dX7_placeSign_32 (by decide) ?_
  refine lv_iload_n hx hb dX7_placeSign_33 rfl (lv_at hl 1 rfl) ?_
  refine lv_imul hx hb dX7_placeSign_34 ?_
  refine lv_topi (fun x14 ex14 => ?_)
  have ex14 : x14.toInt = (2 : Int) * a1.toInt := by rw [ex14]; exact wk_mul (show (-2147483648) ≤ (2 : Int) * a1.toInt by omega) (show (2 : Int) * a1.toInt ≤ 2147483647 by omega)
  refine lv_iconst (v := 1) hx hb dX7_placeSign_35 (by decide) ?_
  refine lv_iadd hx hb dX7_placeSign_36 ?_
  refine lv_topi (fun x15 ex15 => ?_)
  have ex15 : x15.toInt = x14.toInt + (1 : Int) := by rw [ex15]; exact wk_add (show (-2147483648) ≤ x14.toInt + (1 : Int) by omega) (show x14.toInt + (1 : Int) ≤ 2147483647 by omega)
  refine lv_dup2_11 hx hb dX7_placeSign_37 rfl rfl ?_
  refine tk_iald hC hK hw hT kC_at44 rfl rfl (show 0 ≤ x15.toInt by omega) (show x15.toInt < 26 by omega) dX7_placeSign_38 (fun x16 c17 rx16 tx16 => ?_)
  refine lv_iload_n hx hb dX7_placeSign_39 rfl (lv_at hl 3 rfl) ?_
  refine lv_iconst (v := 1) hx hb dX7_placeSign_40 (by decide) ?_
  refine lv_ishr hx hb dX7_placeSign_41 ?_
  refine wk_top 1 (by decide) ?_
  refine lv_iload_n hx hb dX7_placeSign_42 rfl (lv_at hl 2 rfl) ?_
  refine lv_ishl hx hb dX7_placeSign_43 ?_
  refine lv_topi (fun x18 ex18 => ?_)
  have bx18 : 1 ≤ x18.toInt ∧ x18.toInt ≤ 64 := by rw [ex18]; exact wk_shl1 6 (by decide) (by omega) (by omega)
  refine lv_ior hx hb dX7_placeSign_44 ?_
  refine lv_topi (fun x19 ex19 => ?_)
  refine tk_iast hC hK hw hT kC_at44 (by decide) rfl rfl (show 0 ≤ x15.toInt by omega) (show x15.toInt < 26 by omega) (wk_i32 x19).1 (wk_i32 x19).2 dX7_placeSign_45 (fun H locs w20 hw hT k22 c21 => ?_)
  have hF := hF.put kC_at44 (inE_of (a := 0) (b := 26) (by decide) (show 0 ≤ x15.toInt.toNat by omega) (show x15.toInt.toNat ≤ 26 by omega)) k22
  exact tk_vret hC hr hlocks hK ⟨hT, hF, trivial⟩ hw dX7_placeSign_46
abbrev P_X7_placeStreet_1 (ad : Nat → Nat) (cy : Nat → ClassId) (B : Int) (qr : Nat) (s1 : Int) (a1 : Int32) (a2 : Int32) (a3 : Int32) (a4 : Int32) (w0 : va_W) : va_W → Prop := fun u => TW ksC ad cy B qr s1 u ∧ FE ksC [(24, 0, 26), (25, 0, 13), (27, 0, 13), (28, 0, 26)] w0 u ∧ ((True))
set_option maxHeartbeats 4000000 in
set_option maxRecDepth 100000 in
theorem k_X7_placeStreet_1 (l : Launch) (adK adV : Nat → Nat) (dC : Nat → ClassId) (dI : Nat → Nat → Nat) (cy : Nat → ClassId) (ad : Nat → Nat) (B : Int) (hB0 : 2147483648 ≤ B) (hB1 : B ≤ 1152921504606846976) (qr : Nat) (s1 : Int)  (a1 : Int32) (ra1 : 0 ≤ a1.toInt) (ta1 : a1.toInt ≤ 12) (a2 : Int32) (ra2 : 0 ≤ a2.toInt) (ta2 : a2.toInt ≤ 9) (a3 : Int32) (ra3 : 1 ≤ a3.toInt) (ta3 : a3.toInt ≤ 9) (a4 : Int32) (ra4 : 1 ≤ a4.toInt) (ta4 : a4.toInt ≤ 9) (w0 : va_W) (sz : Nat) (hT : TW ksC ad cy B qr s1 w0)  : Met l yX7_placeStreet wsX7_placeStreet ({ frames := 1, cells := 0, slots := 0, locals := 12 }) (va_Pc [.ref (ad 39), .int a1, .int a2, .int a3, .int a4] (wpreS adK adV dC dI cy sz w0)) (va_Qv (P_X7_placeStreet_1 ad cy B qr s1 a1 a2 a3 a4 w0) (fun u : va_W => wpost dC dI cy (va_A w0 sz) u) (va_A w0 sz)) 0 0 (va_A w0 sz) := by
  refine Met.ofW (cc := cX7_placeStreet) (maxL := 5) (ret := none) (by decide) rfl ?_
  intro p e s m args below meth c s₁ Bk hml hv
  obtain ⟨rfl, ⟨hsz, hP, hK, hD0⟩, hE, hSR⟩ := hv
  have hx := Bk.exec
  have hb := Bk.bytes
  have hr := Bk.returns
  have hlocks := Bk.notSynchronized
  have hC : CallFix p m c cX7_placeStreet 5 s _ wsX7_placeStreet RX7 := ⟨hx, hb, hml, findClass_of_methodNamed Bk.named, atoms_spec (ws := wsX7_placeStreet) Bk.pre⟩
  subst hsz
  have hD := hD0.self (sz := s.heap.size)
  generalize hAe : va_A w0 s.heap.size = A at hD hE ⊢
  have hA : ∀ q : Nat, s.heap.size ≤ q → A q := fun q h => by rw [← hAe]; exact Or.inr h
  have hw : Wd dC dI A s.heap s.heap [] w0 := ⟨hP, hD, va_S.rf⟩
  have hF : FE ksC [(24, 0, 26), (25, 0, 13), (27, 0, 13), (28, 0, 26)] w0 w0 := FE.rf
  have hl := lv_entry ([.ref (ad 39), .int a1, .int a2, .int a3, .int a4]) (n := 5) (Nat.le_of_ble_eq_true rfl)
  rw [lg_entry_eq]
  generalize (lg_sl ([.ref (ad 39), .int a1, .int a2, .int a3, .int a4]) ++ List.replicate (5 - (lg_sl ([.ref (ad 39), .int a1, .int a2, .int a3, .int a4])).length) Slot.unset).toArray = ls at hl ⊢
  have hl : lv_has ls 5 [(0, .ref (ad 39)), (1, .int a1), (2, .int a2), (3, .int a3), (4, .int a4)] := hl
  generalize hloc : ([] : List Loc) = locs at hw ⊢
  have hinX7 : ∀ w ∈ u_ws RX7 TX7 12, w ∈ wsX7_placeStreet := fun _ h => List.mem_cons_of_mem _ (List.mem_append_right _ (h))
  refine lv_aload_n hx hb dX7_placeStreet_0 rfl (lv_at hl 0 rfl) ?_
  refine tk_getO hC hK hw hT hinX7 kC_at39 (by decide) rfl 0 (by decide) (List.mem_of_getElem? (i := 1) rfl) rfl rfl dX7_placeStreet_1 ?_
  refine lv_iconst (v := 2) hx hb dX7_placeStreet_4 (by decide) ?_
  refine lv_iload_n hx hb dX7_placeStreet_5 rfl (lv_at hl 1 rfl) ?_
  refine lv_imul hx hb dX7_placeStreet_6 ?_
  refine lv_topi (fun x1 ex1 => ?_)
  have ex1 : x1.toInt = (2 : Int) * a1.toInt := by rw [ex1]; exact wk_mul (show (-2147483648) ≤ (2 : Int) * a1.toInt by omega) (show (2 : Int) * a1.toInt ≤ 2147483647 by omega)
  refine lv_iload_n hx hb dX7_placeStreet_7 rfl (lv_at hl 2 rfl) ?_
  refine tk_iast hC hK hw hT kC_at40 (by decide) rfl rfl (show 0 ≤ x1.toInt by omega) (show x1.toInt < 26 by omega) (show 0 ≤ a2.toInt by omega) (show a2.toInt ≤ 9 by omega) dX7_placeStreet_8 (fun H locs w2 hw hT k4 c3 => ?_)
  have hF := hF.put kC_at40 (inE_of (a := 0) (b := 26) (by decide) (show 0 ≤ x1.toInt.toNat by omega) (show x1.toInt.toNat ≤ 26 by omega)) k4
  refine lv_aload_n hx hb dX7_placeStreet_9 rfl (lv_at hl 0 rfl) ?_
  refine tk_getO hC hK hw hT hinX7 kC_at39 (by decide) rfl 0 (by decide) (List.mem_of_getElem? (i := 1) rfl) rfl rfl dX7_placeStreet_10 ?_
  refine lv_iconst (v := 2) hx hb dX7_placeStreet_13 (by decide) ?_
  refine lv_iload_n hx hb dX7_placeStreet_14 rfl (lv_at hl 1 rfl) ?_
  refine lv_imul hx hb dX7_placeStreet_15 ?_
  refine lv_topi (fun x5 ex5 => ?_)
  have ex5 : x5.toInt = (2 : Int) * a1.toInt := by rw [ex5]; exact wk_mul (show (-2147483648) ≤ (2 : Int) * a1.toInt by omega) (show (2 : Int) * a1.toInt ≤ 2147483647 by omega)
  refine lv_iconst (v := 1) hx hb dX7_placeStreet_16 (by decide) ?_
  refine lv_iadd hx hb dX7_placeStreet_17 ?_
  refine lv_topi (fun x6 ex6 => ?_)
  have ex6 : x6.toInt = x5.toInt + (1 : Int) := by rw [ex6]; exact wk_add (show (-2147483648) ≤ x5.toInt + (1 : Int) by omega) (show x5.toInt + (1 : Int) ≤ 2147483647 by omega)
  refine lv_iload_n hx hb dX7_placeStreet_18 rfl (lv_at hl 3 rfl) ?_
  refine tk_iast hC hK hw hT kC_at40 (by decide) rfl rfl (show 0 ≤ x6.toInt by omega) (show x6.toInt < 26 by omega) (show 0 ≤ a3.toInt by omega) (show a3.toInt ≤ 9 by omega) dX7_placeStreet_19 (fun H locs w7 hw hT k9 c8 => ?_)
  have hF := hF.put kC_at40 (inE_of (a := 0) (b := 26) (by decide) (show 0 ≤ x6.toInt.toNat by omega) (show x6.toInt.toNat ≤ 26 by omega)) k9
  refine lv_aload_n hx hb dX7_placeStreet_20 rfl (lv_at hl 0 rfl) ?_
  refine tk_getO hC hK hw hT hinX7 kC_at39 (by decide) rfl 1 (by decide) (List.mem_of_getElem? (i := 2) rfl) rfl rfl dX7_placeStreet_21 ?_
  refine lv_iload_n hx hb dX7_placeStreet_24 rfl (lv_at hl 1 rfl) ?_
  refine lv_iload hx hb dX7_placeStreet_25 (lv_at hl 4 rfl) ?_
  refine tk_iast hC hK hw hT kC_at41 (by decide) rfl rfl (show 0 ≤ a1.toInt by omega) (show a1.toInt < 13 by omega) (show 0 ≤ a4.toInt by omega) (show a4.toInt ≤ 9 by omega) dX7_placeStreet_27 (fun H locs w10 hw hT k12 c11 => ?_)
  have hF := hF.put kC_at41 (inE_of (a := 0) (b := 13) (by decide) (show 0 ≤ a1.toInt.toNat by omega) (show a1.toInt.toNat ≤ 13 by omega)) k12
  refine lv_aload_n hx hb dX7_placeStreet_28 rfl (lv_at hl 0 rfl) ?_
  refine tk_getO hC hK hw hT hinX7 kC_at39 (by decide) rfl 3 (by decide) (List.mem_of_getElem? (i := 3) rfl) rfl rfl dX7_placeStreet_29 ?_
  refine lv_iload_n hx hb dX7_placeStreet_32 rfl (lv_at hl 1 rfl) ?_
  refine lv_iconst (v := 0) hx hb dX7_placeStreet_33 (by decide) ?_
  refine tk_iast hC hK hw hT kC_at43 (by decide) rfl rfl (show 0 ≤ a1.toInt by omega) (show a1.toInt < 13 by omega) (by decide) (by decide) dX7_placeStreet_34 (fun H locs w13 hw hT k15 c14 => ?_)
  have hF := hF.put kC_at43 (inE_of (a := 0) (b := 13) (by decide) (show 0 ≤ a1.toInt.toNat by omega) (show a1.toInt.toNat ≤ 13 by omega)) k15
  refine lv_aload_n hx hb dX7_placeStreet_35 rfl (lv_at hl 0 rfl) ?_
  refine tk_getO hC hK hw hT hinX7 kC_at39 (by decide) rfl 4 (by decide) (List.mem_of_getElem? (i := 4) rfl) rfl rfl dX7_placeStreet_36 ?_
  refine lv_iconst (v := 2) hx hb dX7_placeStreet_39 (by decide) ?_
  refine lv_iload_n hx hb dX7_placeStreet_40 rfl (lv_at hl 1 rfl) ?_
  refine lv_imul hx hb dX7_placeStreet_41 ?_
  refine lv_topi (fun x16 ex16 => ?_)
  have ex16 : x16.toInt = (2 : Int) * a1.toInt := by rw [ex16]; exact wk_mul (show (-2147483648) ≤ (2 : Int) * a1.toInt by omega) (show (2 : Int) * a1.toInt ≤ 2147483647 by omega)
  refine lv_iconst (v := 0) hx hb dX7_placeStreet_42 (by decide) ?_
  refine tk_iast hC hK hw hT kC_at44 (by decide) rfl rfl (show 0 ≤ x16.toInt by omega) (show x16.toInt < 26 by omega) (by decide) (by decide) dX7_placeStreet_43 (fun H locs w17 hw hT k19 c18 => ?_)
  have hF := hF.put kC_at44 (inE_of (a := 0) (b := 26) (by decide) (show 0 ≤ x16.toInt.toNat by omega) (show x16.toInt.toNat ≤ 26 by omega)) k19
  refine lv_aload_n hx hb dX7_placeStreet_44 rfl (lv_at hl 0 rfl) ?_
  refine tk_getO hC hK hw hT hinX7 kC_at39 (by decide) rfl 4 (by decide) (List.mem_of_getElem? (i := 4) rfl) rfl rfl dX7_placeStreet_45 ?_
  refine lv_iconst (v := 2) hx hb dX7_placeStreet_48 (by decide) ?_
  refine lv_iload_n hx hb dX7_placeStreet_49 rfl (lv_at hl 1 rfl) ?_
  refine lv_imul hx hb dX7_placeStreet_50 ?_
  refine lv_topi (fun x20 ex20 => ?_)
  have ex20 : x20.toInt = (2 : Int) * a1.toInt := by rw [ex20]; exact wk_mul (show (-2147483648) ≤ (2 : Int) * a1.toInt by omega) (show (2 : Int) * a1.toInt ≤ 2147483647 by omega)
  refine lv_iconst (v := 1) hx hb dX7_placeStreet_51 (by decide) ?_
  refine lv_iadd hx hb dX7_placeStreet_52 ?_
  refine lv_topi (fun x21 ex21 => ?_)
  have ex21 : x21.toInt = x20.toInt + (1 : Int) := by rw [ex21]; exact wk_add (show (-2147483648) ≤ x20.toInt + (1 : Int) by omega) (show x20.toInt + (1 : Int) ≤ 2147483647 by omega)
  refine lv_iconst (v := 0) hx hb dX7_placeStreet_53 (by decide) ?_
  refine tk_iast hC hK hw hT kC_at44 (by decide) rfl rfl (show 0 ≤ x21.toInt by omega) (show x21.toInt < 26 by omega) (by decide) (by decide) dX7_placeStreet_54 (fun H locs w22 hw hT k24 c23 => ?_)
  have hF := hF.put kC_at44 (inE_of (a := 0) (b := 26) (by decide) (show 0 ≤ x21.toInt.toNat by omega) (show x21.toInt.toNat ≤ 26 by omega)) k24
  exact tk_vret hC hr hlocks hK ⟨hT, hF, trivial⟩ hw dX7_placeStreet_55
abbrev P_X7_tryStreet_1 (ad : Nat → Nat) (cy : Nat → ClassId) (B : Int) (qr : Nat) (s1 : Int) (a1 : Int32) (a2 : Int32) (a3 : Int32) (w0 : va_W) : va_W → Prop := fun u => TW ksC ad cy B qr s1 u ∧ FE ksC [(24, 0, 26), (25, 0, 13), (26, 0, 91), (27, 0, 13), (28, 0, 26), (31, 0, 13)] w0 u ∧ ((True))
set_option maxHeartbeats 4000000 in
set_option maxRecDepth 100000 in
theorem k_X7_tryStreet_1 (l : Launch) (adK adV : Nat → Nat) (dC : Nat → ClassId) (dI : Nat → Nat → Nat) (cy : Nat → ClassId) (ad : Nat → Nat) (B : Int) (hB0 : 2147483648 ≤ B) (hB1 : B ≤ 1152921504606846976) (qr : Nat) (s1 : Int)  (a1 : Int32) (ra1 : 0 ≤ a1.toInt) (ta1 : a1.toInt ≤ 9) (a2 : Int32) (ra2 : 1 ≤ a2.toInt) (ta2 : a2.toInt ≤ 9) (a3 : Int32) (ra3 : 1 ≤ a3.toInt) (ta3 : a3.toInt ≤ 9) (w0 : va_W) (sz : Nat) (hT : TW ksC ad cy B qr s1 w0)  : Met l yX7_tryStreet wsX7_tryStreet ({ frames := 3, cells := 0, slots := 0, locals := 56 }) (va_Pc [.ref (ad 39), .int a1, .int a2, .int a3] (wpreS adK adV dC dI cy sz w0)) (va_Qv (P_X7_tryStreet_1 ad cy B qr s1 a1 a2 a3 w0) (fun u : va_W => wpost dC dI cy (va_A w0 sz) u) (va_A w0 sz)) 0 0 (va_A w0 sz) := by
  refine Met.ofW (cc := cX7_tryStreet) (maxL := 5) (ret := none) (by decide) rfl ?_
  intro p e s m args below meth c s₁ Bk hml hv
  obtain ⟨rfl, ⟨hsz, hP, hK, hD0⟩, hE, hSR⟩ := hv
  have hx := Bk.exec
  have hb := Bk.bytes
  have hr := Bk.returns
  have hlocks := Bk.notSynchronized
  have hC : CallFix p m c cX7_tryStreet 5 s _ wsX7_tryStreet RX7 := ⟨hx, hb, hml, findClass_of_methodNamed Bk.named, atoms_spec (ws := wsX7_tryStreet) Bk.pre⟩
  subst hsz
  have hD := hD0.self (sz := s.heap.size)
  generalize hAe : va_A w0 s.heap.size = A at hD hE ⊢
  have hA : ∀ q : Nat, s.heap.size ≤ q → A q := fun q h => by rw [← hAe]; exact Or.inr h
  have hw : Wd dC dI A s.heap s.heap [] w0 := ⟨hP, hD, va_S.rf⟩
  have hF : FE ksC [(24, 0, 26), (25, 0, 13), (26, 0, 91), (27, 0, 13), (28, 0, 26), (31, 0, 13)] w0 w0 := FE.rf
  have hl := lv_entry ([.ref (ad 39), .int a1, .int a2, .int a3]) (n := 5) (Nat.le_of_ble_eq_true rfl)
  rw [lg_entry_eq]
  generalize (lg_sl ([.ref (ad 39), .int a1, .int a2, .int a3]) ++ List.replicate (5 - (lg_sl ([.ref (ad 39), .int a1, .int a2, .int a3])).length) Slot.unset).toArray = ls at hl ⊢
  have hl : lv_has ls 5 [(0, .ref (ad 39)), (1, .int a1), (2, .int a2), (3, .int a3)] := hl
  generalize hloc : ([] : List Loc) = locs at hw ⊢
  have hinX7 : ∀ w ∈ u_ws RX7 TX7 12, w ∈ wsX7_tryStreet := fun _ h => List.mem_cons_of_mem _ (List.mem_append_right _ (h))
  have L14 : ∀ (n14 : Nat) (v14_4 : Int32) (f14_39_9 : Int32) (H : Heap) (locs : List Loc) (ls : Array Slot) (w1 : va_W), 0 ≤ a1.toInt → a1.toInt ≤ 9 → 1 ≤ a2.toInt → a2.toInt ≤ 9 → 1 ≤ a3.toInt → a3.toInt ≤ 9 → 0 ≤ v14_4.toInt → v14_4.toInt ≤ 7 → 0 ≤ f14_39_9.toInt → f14_39_9.toInt ≤ 12 → (7 - v14_4.toInt).toNat < n14 → Wd dC dI A s.heap H locs w1 → TW ksC ad cy B qr s1 w1 → FE ksC [(24, 0, 26), (25, 0, 13), (26, 0, 91), (27, 0, 13), (28, 0, 26), (31, 0, 13)] w0 w1 → gi w1 39 9 = f14_39_9 → lv_has ls 5 [(0, .ref (ad 39)), (1, .int a1), (2, .int a2), (3, .int a3), (4, .int v14_4)] → W p l e ({ frames := 3, cells := 0, slots := 0, locals := 56 }) s m (List.toArray [.ref (ad 39), .int a1, .int a2, .int a3]) below meth c H locs 0 0 (MQ below (va_Qv (P_X7_tryStreet_1 ad cy B qr s1 a1 a2 a3 w0) (fun u : va_W => wpost dC dI cy A u) A) (List.toArray [.ref (ad 39), .int a1, .int a2, .int a3]) s 0 0 A) (F0 m 14 ls []) := by
    intro n14
    induction n14 with
    | zero => intro v14_4 f14_39_9 H locs ls w1 r2 t3 r4 t5 r6 t7 r8 t9 r10 t11 hm14 hw hT hF c12 hl; omega
    | succ n14 ih14 =>
      intro v14_4 f14_39_9 H locs ls w1 r2 t3 r4 t5 r6 t7 r8 t9 r10 t11 hm14 hw hT hF c12 hl
      refine lv_iload hx hb dX7_tryStreet_14 (lv_at hl 4 rfl) ?_
      refine lv_bipush (v := 7) hx hb dX7_tryStreet_16 (by decide) ?_
      refine lv_icmp_ge (tgt := 38) hx hb dX7_tryStreet_18 (by decide) (fun c13 => ?_) (fun c13 => ?_)
      · have c13 : (7 : Int) ≤ v14_4.toInt := wk_le.mp c13
        refine lv_aload_n hx hb dX7_tryStreet_38 rfl (lv_at hl 0 rfl) ?_
        refine lv_aload_n hx hb dX7_tryStreet_39 rfl (lv_at hl 0 rfl) ?_
        refine tk_geti hC hK hw hT hinX7 kC_at39 (by decide) rfl 9 (by decide) (List.mem_of_getElem? (i := 1) rfl) rfl rfl dX7_tryStreet_40 (fun x14 c15 rx14 tx14 => ?_)
        refine wk_top f14_39_9 (c15.symm.trans c12) ?_
        refine tk_Vv hC hK hw hT hA hE hSR kC_at39 (by decide) rfl (k_X7_findSaints_1 l adK adV dC dI cy ad B (by omega) (by omega) qr s1   f14_39_9 (show 0 ≤ f14_39_9.toInt by omega) (show f14_39_9.toInt ≤ 12 by omega) w1 H.size hT ) (cwV 1 hC.2.2.2.2 gX7_tryStreet_X7_findSaints rfl rfl rfl (by decide +kernel) ⟨Nat.le_of_ble_eq_true rfl, Nat.le_of_ble_eq_true rfl⟩) rfl hl.1 rfl (Nat.le_of_ble_eq_true rfl) dX7_tryStreet_43 (fun w18 H locs hp17 hw => ?_)
        obtain ⟨hT, k19, hg20⟩ := hp17
        have hF := hF.tr k19 (by decide)
        have c21 := k19.gi kC_at39 (by decide) c12
        clear hg20
        exact tk_vret hC hr hlocks hK ⟨hT, hF, trivial⟩ hw dX7_tryStreet_46
      · have c13 : v14_4.toInt < (7 : Int) := wk_leF c13
        refine lv_aload_n hx hb dX7_tryStreet_21 rfl (lv_at hl 0 rfl) ?_
        refine lv_aload_n hx hb dX7_tryStreet_22 rfl (lv_at hl 0 rfl) ?_
        refine tk_geti hC hK hw hT hinX7 kC_at39 (by decide) rfl 9 (by decide) (List.mem_of_getElem? (i := 1) rfl) rfl rfl dX7_tryStreet_23 (fun x22 c23 rx22 tx22 => ?_)
        refine wk_top f14_39_9 (c23.symm.trans c12) ?_
        refine lv_iload hx hb dX7_tryStreet_26 (lv_at hl 4 rfl) ?_
        refine lv_iconst (v := 3) hx hb dX7_tryStreet_28 (by decide) ?_
        refine tk_Vv hC hK hw hT hA hE hSR kC_at39 (by decide) rfl (k_X7_placeSign_1 l adK adV dC dI cy ad B (by omega) (by omega) qr s1   f14_39_9 (show 0 ≤ f14_39_9.toInt by omega) (show f14_39_9.toInt ≤ 12 by omega) v14_4 (show 0 ≤ v14_4.toInt by omega) (show v14_4.toInt ≤ 6 by omega) w1 H.size hT ) (cwV 3 hC.2.2.2.2 gX7_tryStreet_X7_placeSign rfl rfl rfl (by decide +kernel) ⟨Nat.le_of_ble_eq_true rfl, Nat.le_of_ble_eq_true rfl⟩) rfl hl.1 rfl (Nat.le_of_ble_eq_true rfl) dX7_tryStreet_29 (fun w26 H locs hp25 hw => ?_)
        obtain ⟨hT, k27, hg28⟩ := hp25
        have hF := hF.tr k27 (by decide)
        have c29 := k27.gi kC_at39 (by decide) c12
        clear hg28
        obtain ⟨x30, ex30⟩ : ∃ y : Int32, y = v14_4 + Int32.ofInt 1 := ⟨_, rfl⟩
        refine lv_iinc (v := x30) (lv' := [(4, .int x30), (0, .ref (ad 39)), (1, .int a1), (2, .int a2), (3, .int a3)]) hx hb dX7_tryStreet_32 hl (k := 4) rfl ex30.symm (by decide) rfl (fun ls hl => ?_)
        have ex30 : x30.toInt = v14_4.toInt + 1 := by rw [ex30]; exact wk_add (y := 1) (show -2147483648 ≤ v14_4.toInt + 1 by omega) (show v14_4.toInt + 1 ≤ 2147483647 by omega)
        refine lv_goto (tgt := 14) hx hb dX7_tryStreet_35 (by decide) ?_
        exact ih14 x30 f14_39_9 H locs ls w26 (show 0 ≤ a1.toInt by omega) (show a1.toInt ≤ 9 by omega) (show 1 ≤ a2.toInt by omega) (show a2.toInt ≤ 9 by omega) (show 1 ≤ a3.toInt by omega) (show a3.toInt ≤ 9 by omega) (show 0 ≤ x30.toInt by omega) (show x30.toInt ≤ 7 by omega) (show 0 ≤ f14_39_9.toInt by omega) (show f14_39_9.toInt ≤ 12 by omega) (show (7 - x30.toInt).toNat < n14 by omega) hw hT hF c29 (lv_sub hl [1, 2, 3, 4, 0] rfl)
  refine lv_aload_n hx hb dX7_tryStreet_0 rfl (lv_at hl 0 rfl) ?_
  refine lv_aload_n hx hb dX7_tryStreet_1 rfl (lv_at hl 0 rfl) ?_
  refine tk_geti hC hK hw hT hinX7 kC_at39 (by decide) rfl 9 (by decide) (List.mem_of_getElem? (i := 1) rfl) rfl rfl dX7_tryStreet_2 (fun x31 c32 rx31 tx31 => ?_)
  refine lv_iload_n hx hb dX7_tryStreet_5 rfl (lv_at hl 1 rfl) ?_
  refine lv_iload_n hx hb dX7_tryStreet_6 rfl (lv_at hl 2 rfl) ?_
  refine lv_iload_n hx hb dX7_tryStreet_7 rfl (lv_at hl 3 rfl) ?_
  refine tk_Vv hC hK hw hT hA hE hSR kC_at39 (by decide) rfl (k_X7_placeStreet_1 l adK adV dC dI cy ad B (by omega) (by omega) qr s1   x31 (show 0 ≤ x31.toInt by omega) (show x31.toInt ≤ 12 by omega) a1 (show 0 ≤ a1.toInt by omega) (show a1.toInt ≤ 9 by omega) a2 (show 1 ≤ a2.toInt by omega) (show a2.toInt ≤ 9 by omega) a3 (show 1 ≤ a3.toInt by omega) (show a3.toInt ≤ 9 by omega) w0 s.heap.size hT ) (cwV 4 hC.2.2.2.2 gX7_tryStreet_X7_placeStreet rfl rfl rfl (by decide +kernel) ⟨Nat.le_of_ble_eq_true rfl, Nat.le_of_ble_eq_true rfl⟩) rfl hl.1 rfl (Nat.le_of_ble_eq_true rfl) dX7_tryStreet_8 (fun w35 H locs hp34 hw => ?_)
  obtain ⟨hT, k36, hg37⟩ := hp34
  have hF := hF.tr k36 (by decide)
  have c38 := k36.gi kC_at39 (by decide) c32
  clear hg37
  refine lv_iconst (v := 0) hx hb dX7_tryStreet_11 (by decide) ?_
  refine lv_istore (lv' := [(4, .int 0), (0, .ref (ad 39)), (1, .int a1), (2, .int a2), (3, .int a3)]) hx hb dX7_tryStreet_12 hl (by decide) rfl (fun ls hl => ?_)
  exact L14 ((7 - (0 : Int)).toNat + 1) 0 x31 H locs ls w35 (show 0 ≤ a1.toInt by omega) (show a1.toInt ≤ 9 by omega) (show 1 ≤ a2.toInt by omega) (show a2.toInt ≤ 9 by omega) (show 1 ≤ a3.toInt by omega) (show a3.toInt ≤ 9 by omega) (by decide) (by decide) (show 0 ≤ x31.toInt by omega) (show x31.toInt ≤ 12 by omega) (Nat.lt_succ_self _) hw hT hF c38 (lv_sub hl [1, 2, 3, 4, 0] rfl)
abbrev P_X7_sideOf_4 (ad : Nat → Nat) (cy : Nat → ClassId) (B : Int) (qr : Nat) (s1 : Int) (a1 : Int32) (a2 : Int32) (w0 : va_W) : Int32 → va_W → Prop := fun r u => TW ksC ad cy B qr s1 u ∧ FE ksC ([] : List (Nat × Nat × Nat)) w0 u ∧ ((r = (-1)) ∨ (r = 0 ∧ gi u 40 (2 * a1.toInt + 0).toNat = a2) ∨ (r = 1 ∧ gi u 40 (2 * a1.toInt + 1).toNat = a2))
set_option maxHeartbeats 4000000 in
set_option maxRecDepth 100000 in
theorem k_X7_sideOf_4 (l : Launch) (adK adV : Nat → Nat) (dC : Nat → ClassId) (dI : Nat → Nat → Nat) (cy : Nat → ClassId) (ad : Nat → Nat) (B : Int) (hB0 : 2147483648 ≤ B) (hB1 : B ≤ 1152921504606846976) (qr : Nat) (s1 : Int)  (a1 : Int32) (ra1 : 0 ≤ a1.toInt) (ta1 : a1.toInt ≤ 12) (a2 : Int32) (ra2 : 0 ≤ a2.toInt) (ta2 : a2.toInt ≤ 9) (w0 : va_W) (sz : Nat) (hT : TW ksC ad cy B qr s1 w0)  : Met l yX7_sideOf wsX7_sideOf ({ frames := 1, cells := 0, slots := 0, locals := 12 }) (va_Pc [.ref (ad 39), .int a1, .int a2] (wpreS adK adV dC dI cy sz w0)) (va_Qi (P_X7_sideOf_4 ad cy B qr s1 a1 a2 w0) (fun u : va_W => wpost dC dI cy (va_A w0 sz) u) (va_A w0 sz)) 0 0 (va_A w0 sz) := by
  refine Met.ofW (cc := cX7_sideOf) (maxL := 3) (ret := (some .int)) (by decide) rfl ?_
  intro p e s m args below meth c s₁ Bk hml hv
  obtain ⟨rfl, ⟨hsz, hP, hK, hD0⟩, hE, hSR⟩ := hv
  have hx := Bk.exec
  have hb := Bk.bytes
  have hr := Bk.returns
  have hlocks := Bk.notSynchronized
  have hC : CallFix p m c cX7_sideOf 3 s _ wsX7_sideOf RX7 := ⟨hx, hb, hml, findClass_of_methodNamed Bk.named, atoms_spec (ws := wsX7_sideOf) Bk.pre⟩
  subst hsz
  have hD := hD0.self (sz := s.heap.size)
  generalize hAe : va_A w0 s.heap.size = A at hD hE ⊢
  have hA : ∀ q : Nat, s.heap.size ≤ q → A q := fun q h => by rw [← hAe]; exact Or.inr h
  have hw : Wd dC dI A s.heap s.heap [] w0 := ⟨hP, hD, va_S.rf⟩
  have hF : FE ksC ([] : List (Nat × Nat × Nat)) w0 w0 := FE.rf
  have hl := lv_entry ([.ref (ad 39), .int a1, .int a2]) (n := 3) (Nat.le_of_ble_eq_true rfl)
  rw [lg_entry_eq]
  generalize (lg_sl ([.ref (ad 39), .int a1, .int a2]) ++ List.replicate (3 - (lg_sl ([.ref (ad 39), .int a1, .int a2])).length) Slot.unset).toArray = ls at hl ⊢
  have hl : lv_has ls 3 [(0, .ref (ad 39)), (1, .int a1), (2, .int a2)] := hl
  generalize hloc : ([] : List Loc) = locs at hw ⊢
  have hinX7 : ∀ w ∈ u_ws RX7 TX7 12, w ∈ wsX7_sideOf := fun _ h => List.mem_cons_of_mem _ (List.mem_append_right _ (h))
  refine lv_aload_n hx hb dX7_sideOf_0 rfl (lv_at hl 0 rfl) ?_
  refine tk_getO hC hK hw hT hinX7 kC_at39 (by decide) rfl 0 (by decide) (List.mem_of_getElem? (i := 1) rfl) rfl rfl dX7_sideOf_1 ?_
  refine lv_iconst (v := 2) hx hb dX7_sideOf_4 (by decide) ?_
  refine lv_iload_n hx hb dX7_sideOf_5 rfl (lv_at hl 1 rfl) ?_
  refine lv_imul hx hb dX7_sideOf_6 ?_
  refine lv_topi (fun x1 ex1 => ?_)
  have ex1 : x1.toInt = (2 : Int) * a1.toInt := by rw [ex1]; exact wk_mul (show (-2147483648) ≤ (2 : Int) * a1.toInt by omega) (show (2 : Int) * a1.toInt ≤ 2147483647 by omega)
  refine tk_iald hC hK hw hT kC_at40 rfl rfl (show 0 ≤ x1.toInt by omega) (show x1.toInt < 26 by omega) dX7_sideOf_7 (fun x2 c3 rx2 tx2 => ?_)
  have c3 : gi w0 40 (2 * a1.toInt + 0).toNat = x2 := (congrArg (gi w0 40) (congrArg Int.toNat (show 2 * a1.toInt + 0 = x1.toInt by omega))).trans c3
  refine lv_iload_n hx hb dX7_sideOf_8 rfl (lv_at hl 2 rfl) ?_
  refine lv_icmp_ne (tgt := 14) hx hb dX7_sideOf_9 (by decide) (fun c4 => ?_) (fun c4 => ?_)
  · have c4 : ¬ x2.toInt = a2.toInt := wk_eqF c4
    refine lv_aload_n hx hb dX7_sideOf_14 rfl (lv_at hl 0 rfl) ?_
    refine tk_getO hC hK hw hT hinX7 kC_at39 (by decide) rfl 0 (by decide) (List.mem_of_getElem? (i := 1) rfl) rfl rfl dX7_sideOf_15 ?_
    refine lv_iconst (v := 2) hx hb dX7_sideOf_18 (by decide) ?_
    refine lv_iload_n hx hb dX7_sideOf_19 rfl (lv_at hl 1 rfl) ?_
    refine lv_imul hx hb dX7_sideOf_20 ?_
    refine lv_topi (fun x5 ex5 => ?_)
    have ex5 : x5.toInt = (2 : Int) * a1.toInt := by rw [ex5]; exact wk_mul (show (-2147483648) ≤ (2 : Int) * a1.toInt by omega) (show (2 : Int) * a1.toInt ≤ 2147483647 by omega)
    refine lv_iconst (v := 1) hx hb dX7_sideOf_21 (by decide) ?_
    refine lv_iadd hx hb dX7_sideOf_22 ?_
    refine lv_topi (fun x6 ex6 => ?_)
    have ex6 : x6.toInt = x5.toInt + (1 : Int) := by rw [ex6]; exact wk_add (show (-2147483648) ≤ x5.toInt + (1 : Int) by omega) (show x5.toInt + (1 : Int) ≤ 2147483647 by omega)
    refine tk_iald hC hK hw hT kC_at40 rfl rfl (show 0 ≤ x6.toInt by omega) (show x6.toInt < 26 by omega) dX7_sideOf_23 (fun x7 c8 rx7 tx7 => ?_)
    have c8 : gi w0 40 (2 * a1.toInt + 1).toNat = x7 := (congrArg (gi w0 40) (congrArg Int.toNat (show 2 * a1.toInt + 1 = x6.toInt by omega))).trans c8
    refine lv_iload_n hx hb dX7_sideOf_24 rfl (lv_at hl 2 rfl) ?_
    refine lv_icmp_ne (tgt := 32) hx hb dX7_sideOf_25 (by decide) (fun c9 => ?_) (fun c9 => ?_)
    · have c9 : ¬ x7.toInt = a2.toInt := wk_eqF c9
      refine lv_iconst (v := (-1)) hx hb dX7_sideOf_32 (by decide) ?_
      exact tk_iret hC hr hlocks hK ⟨hT, hF, (Or.inl rfl)⟩ hw dX7_sideOf_33
    · have c9 : x7.toInt = a2.toInt := wk_eq.mp c9
      refine lv_iconst (v := 1) hx hb dX7_sideOf_28 (by decide) ?_
      refine lv_goto (tgt := 33) hx hb dX7_sideOf_29 (by decide) ?_
      exact tk_iret hC hr hlocks hK ⟨hT, hF, (Or.inr (Or.inr ⟨rfl, (c8.trans (wk_eq.mpr (show x7.toInt = a2.toInt by omega)))⟩))⟩ hw dX7_sideOf_33
  · have c4 : x2.toInt = a2.toInt := wk_eq.mp c4
    refine lv_iconst (v := 0) hx hb dX7_sideOf_12 (by decide) ?_
    exact tk_iret hC hr hlocks hK ⟨hT, hF, (Or.inr (Or.inl ⟨rfl, (c3.trans (wk_eq.mpr (show x2.toInt = a2.toInt by omega)))⟩))⟩ hw dX7_sideOf_13
abbrev P_X7_cornerAcross_4 (ad : Nat → Nat) (cy : Nat → ClassId) (B : Int) (qr : Nat) (s1 : Int) (a1 : Int32) (w0 : va_W) : Int32 → va_W → Prop := fun r u => TW ksC ad cy B qr s1 u ∧ FE ksC ([] : List (Nat × Nat × Nat)) w0 u ∧ ((0 ≤ r.toInt ∧ r.toInt ≤ 9))
set_option maxHeartbeats 4000000 in
set_option maxRecDepth 100000 in
theorem k_X7_cornerAcross_4 (l : Launch) (adK adV : Nat → Nat) (dC : Nat → ClassId) (dI : Nat → Nat → Nat) (cy : Nat → ClassId) (ad : Nat → Nat) (B : Int) (hB0 : 2147483648 ≤ B) (hB1 : B ≤ 1152921504606846976) (qr : Nat) (s1 : Int)  (a1 : Int32) (ra1 : 0 ≤ a1.toInt) (ta1 : a1.toInt ≤ 12) (w0 : va_W) (sz : Nat) (hT : TW ksC ad cy B qr s1 w0)  : Met l yX7_cornerAcross wsX7_cornerAcross ({ frames := 1, cells := 0, slots := 0, locals := 12 }) (va_Pc [.ref (ad 39), .int a1, .int 0] (wpreS adK adV dC dI cy sz w0)) (va_Qi (P_X7_cornerAcross_4 ad cy B qr s1 a1 w0) (fun u : va_W => wpost dC dI cy (va_A w0 sz) u) (va_A w0 sz)) 0 0 (va_A w0 sz) := by
  refine Met.ofW (cc := cX7_cornerAcross) (maxL := 3) (ret := (some .int)) (by decide) rfl ?_
  intro p e s m args below meth c s₁ Bk hml hv
  obtain ⟨rfl, ⟨hsz, hP, hK, hD0⟩, hE, hSR⟩ := hv
  have hx := Bk.exec
  have hb := Bk.bytes
  have hr := Bk.returns
  have hlocks := Bk.notSynchronized
  have hC : CallFix p m c cX7_cornerAcross 3 s _ wsX7_cornerAcross RX7 := ⟨hx, hb, hml, findClass_of_methodNamed Bk.named, atoms_spec (ws := wsX7_cornerAcross) Bk.pre⟩
  subst hsz
  have hD := hD0.self (sz := s.heap.size)
  generalize hAe : va_A w0 s.heap.size = A at hD hE ⊢
  have hA : ∀ q : Nat, s.heap.size ≤ q → A q := fun q h => by rw [← hAe]; exact Or.inr h
  have hw : Wd dC dI A s.heap s.heap [] w0 := ⟨hP, hD, va_S.rf⟩
  have hF : FE ksC ([] : List (Nat × Nat × Nat)) w0 w0 := FE.rf
  have hl := lv_entry ([.ref (ad 39), .int a1, .int 0]) (n := 3) (Nat.le_of_ble_eq_true rfl)
  rw [lg_entry_eq]
  generalize (lg_sl ([.ref (ad 39), .int a1, .int 0]) ++ List.replicate (3 - (lg_sl ([.ref (ad 39), .int a1, .int 0])).length) Slot.unset).toArray = ls at hl ⊢
  have hl : lv_has ls 3 [(0, .ref (ad 39)), (1, .int a1), (2, .int 0)] := hl
  generalize hloc : ([] : List Loc) = locs at hw ⊢
  have hinX7 : ∀ w ∈ u_ws RX7 TX7 12, w ∈ wsX7_cornerAcross := fun _ h => List.mem_cons_of_mem _ (List.mem_append_right _ (h))
  refine lv_aload_n hx hb dX7_cornerAcross_0 rfl (lv_at hl 0 rfl) ?_
  refine tk_getO hC hK hw hT hinX7 kC_at39 (by decide) rfl 0 (by decide) (List.mem_of_getElem? (i := 1) rfl) rfl rfl dX7_cornerAcross_1 ?_
  refine lv_iconst (v := 2) hx hb dX7_cornerAcross_4 (by decide) ?_
  refine lv_iload_n hx hb dX7_cornerAcross_5 rfl (lv_at hl 1 rfl) ?_
  refine lv_imul hx hb dX7_cornerAcross_6 ?_
  refine lv_topi (fun x1 ex1 => ?_)
  have ex1 : x1.toInt = (2 : Int) * a1.toInt := by rw [ex1]; exact wk_mul (show (-2147483648) ≤ (2 : Int) * a1.toInt by omega) (show (2 : Int) * a1.toInt ≤ 2147483647 by omega)
  refine lv_iconst (v := 1) hx hb dX7_cornerAcross_7 (by decide) ?_
  refine lv_iadd hx hb dX7_cornerAcross_8 ?_
  refine lv_topi (fun x2 ex2 => ?_)
  have ex2 : x2.toInt = x1.toInt + (1 : Int) := by rw [ex2]; exact wk_add (show (-2147483648) ≤ x1.toInt + (1 : Int) by omega) (show x1.toInt + (1 : Int) ≤ 2147483647 by omega)
  refine lv_iload_n hx hb dX7_cornerAcross_9 rfl (lv_at hl 2 rfl) ?_
  refine lv_isub hx hb dX7_cornerAcross_10 ?_
  refine lv_topi (fun x3 ex3 => ?_)
  have ex3 : x3.toInt = x2.toInt - (0 : Int) := by rw [ex3]; exact wk_sub (show (-2147483648) ≤ x2.toInt - (0 : Int) by omega) (show x2.toInt - (0 : Int) ≤ 2147483647 by omega)
  refine tk_iald hC hK hw hT kC_at40 rfl rfl (show 0 ≤ x3.toInt by omega) (show x3.toInt < 26 by omega) dX7_cornerAcross_11 (fun x4 c5 rx4 tx4 => ?_)
  have c5 : gi w0 40 (2 * a1.toInt + 1).toNat = x4 := (congrArg (gi w0 40) (congrArg Int.toNat (show 2 * a1.toInt + 1 = x3.toInt by omega))).trans c5
  exact tk_iret hC hr hlocks hK ⟨hT, hF, ⟨(show 0 ≤ x4.toInt by omega), (show x4.toInt ≤ 9 by omega)⟩⟩ hw dX7_cornerAcross_12
abbrev P_X7_openHours_9 (ad : Nat → Nat) (cy : Nat → ClassId) (B : Int) (qr : Nat) (s1 : Int) (a1 : Int32) (a3 : Int64) (w0 : va_W) : Int32 → va_W → Prop := fun r u => TW ksC ad cy B qr s1 u ∧ FE ksC ([] : List (Nat × Nat × Nat)) w0 u ∧ ((0 ≤ r.toInt ∧ r.toInt ≤ 16777215))
set_option maxHeartbeats 4000000 in
set_option maxRecDepth 100000 in
theorem k_X7_openHours_9 (l : Launch) (adK adV : Nat → Nat) (dC : Nat → ClassId) (dI : Nat → Nat → Nat) (cy : Nat → ClassId) (ad : Nat → Nat) (B : Int) (hB0 : 2147483648 ≤ B) (hB1 : B ≤ 1152921504606846976) (qr : Nat) (s1 : Int)  (a1 : Int32) (ra1 : 0 ≤ a1.toInt) (ta1 : a1.toInt ≤ 12) (a3 : Int64) (ra3 : 0 ≤ a3.toInt) (ta3 : a3.toInt ≤ 4249) (w0 : va_W) (sz : Nat) (hT : TW ksC ad cy B qr s1 w0)  : Met l yX7_openHours wsX7_openHours ({ frames := 1, cells := 0, slots := 0, locals := 12 }) (va_Pc [.ref (ad 39), .int a1, .int 0, .long a3, .int 1] (wpreS adK adV dC dI cy sz w0)) (va_Qi (P_X7_openHours_9 ad cy B qr s1 a1 a3 w0) (fun u : va_W => wpost dC dI cy (va_A w0 sz) u) (va_A w0 sz)) 0 0 (va_A w0 sz) := by
  refine Met.ofW (cc := cX7_openHours) (maxL := 8) (ret := (some .int)) (by decide) rfl ?_
  intro p e s m args below meth c s₁ Bk hml hv
  obtain ⟨rfl, ⟨hsz, hP, hK, hD0⟩, hE, hSR⟩ := hv
  have hx := Bk.exec
  have hb := Bk.bytes
  have hr := Bk.returns
  have hlocks := Bk.notSynchronized
  have hC : CallFix p m c cX7_openHours 8 s _ wsX7_openHours RX7 := ⟨hx, hb, hml, findClass_of_methodNamed Bk.named, atoms_spec (ws := wsX7_openHours) Bk.pre⟩
  subst hsz
  have hD := hD0.self (sz := s.heap.size)
  generalize hAe : va_A w0 s.heap.size = A at hD hE ⊢
  have hA : ∀ q : Nat, s.heap.size ≤ q → A q := fun q h => by rw [← hAe]; exact Or.inr h
  have hw : Wd dC dI A s.heap s.heap [] w0 := ⟨hP, hD, va_S.rf⟩
  have hF : FE ksC ([] : List (Nat × Nat × Nat)) w0 w0 := FE.rf
  have hl := lv_entry ([.ref (ad 39), .int a1, .int 0, .long a3, .int 1]) (n := 8) (Nat.le_of_ble_eq_true rfl)
  rw [lg_entry_eq]
  generalize (lg_sl ([.ref (ad 39), .int a1, .int 0, .long a3, .int 1]) ++ List.replicate (8 - (lg_sl ([.ref (ad 39), .int a1, .int 0, .long a3, .int 1])).length) Slot.unset).toArray = ls at hl ⊢
  have hl : lv_has ls 8 [(0, .ref (ad 39)), (1, .int a1), (2, .int 0), (3, .long a3), (5, .int 1)] := hl
  generalize hloc : ([] : List Loc) = locs at hw ⊢
  have hinX7 : ∀ w ∈ u_ws RX7 TX7 12, w ∈ wsX7_openHours := fun _ h => List.mem_cons_of_mem _ (List.mem_append_right _ (h))
  have J93 : ∀ (v93_6 : Int32) (v93_7 : Int32) (H : Heap) (locs : List Loc) (ls : Array Slot) (w1 : va_W), 0 ≤ a1.toInt → a1.toInt ≤ 12 → 0 ≤ a3.toInt → a3.toInt ≤ 4249 → 0 ≤ v93_7.toInt → v93_7.toInt ≤ 8 → Wd dC dI A s.heap H locs w1 → TW ksC ad cy B qr s1 w1 → FE ksC ([] : List (Nat × Nat × Nat)) w0 w1 → lv_has ls 8 [(0, .ref (ad 39)), (1, .int a1), (2, .int 0), (3, .long a3), (5, .int 1), (6, .int v93_6), (7, .int v93_7)] → W p l e ({ frames := 1, cells := 0, slots := 0, locals := 12 }) s m (List.toArray [.ref (ad 39), .int a1, .int 0, .long a3, .int 1]) below meth c H locs 0 0 (MQ below (va_Qi (P_X7_openHours_9 ad cy B qr s1 a1 a3 w0) (fun u : va_W => wpost dC dI cy A u) A) (List.toArray [.ref (ad 39), .int a1, .int 0, .long a3, .int 1]) s 0 0 A) (F0 m 93 ls []) := by
    intro v93_6 v93_7 H locs ls w1 r2 t3 r4 t5 r6 t7 hw hT hF hl
    refine lv_ldc (v := 16777215) hx hb hC.2.2.2.1 (hC.2.2.2.2 _ (List.mem_of_getElem? (i := 6) rfl)) dX7_openHours_93 ?_
    refine lv_aload_n hx hb dX7_openHours_95 rfl (lv_at hl 0 rfl) ?_
    refine tk_getO hC hK hw hT hinX7 kC_at39 (by decide) rfl 3 (by decide) (List.mem_of_getElem? (i := 7) rfl) rfl rfl dX7_openHours_96 ?_
    refine lv_iload_n hx hb dX7_openHours_99 rfl (lv_at hl 1 rfl) ?_
    refine tk_iald hC hK hw hT kC_at43 rfl rfl (show 0 ≤ a1.toInt by omega) (show a1.toInt < 13 by omega) dX7_openHours_100 (fun x8 c9 rx8 tx8 => ?_)
    refine lv_iconst (v := (-1)) hx hb dX7_openHours_101 (by decide) ?_
    refine lv_ixor hx hb dX7_openHours_102 ?_
    refine lv_topi (fun x10 ex10 => ?_)
    refine lv_iand hx hb dX7_openHours_103 ?_
    refine lv_topi (fun x11 ex11 => ?_)
    have bx11 : 0 ≤ x11.toInt ∧ x11.toInt ≤ (16777215 : Int) := by rw [ex11]; exact wk_andC (by decide)
    exact tk_iret hC hr hlocks hK ⟨hT, hF, ⟨(show 0 ≤ x11.toInt by omega), (show x11.toInt ≤ 16777215 by omega)⟩⟩ hw dX7_openHours_104
  have L44 : ∀ (n44 : Nat) (v44_6 : Int32) (v44_7 : Int32) (H : Heap) (locs : List Loc) (ls : Array Slot) (w12 : va_W), 0 ≤ a1.toInt → a1.toInt ≤ 12 → 0 ≤ a3.toInt → a3.toInt ≤ 4249 → 0 ≤ v44_7.toInt → v44_7.toInt ≤ 8 → (8 - v44_7.toInt).toNat < n44 → Wd dC dI A s.heap H locs w12 → TW ksC ad cy B qr s1 w12 → FE ksC ([] : List (Nat × Nat × Nat)) w0 w12 → lv_has ls 8 [(0, .ref (ad 39)), (1, .int a1), (2, .int 0), (3, .long a3), (5, .int 1), (6, .int v44_6), (7, .int v44_7)] → W p l e ({ frames := 1, cells := 0, slots := 0, locals := 12 }) s m (List.toArray [.ref (ad 39), .int a1, .int 0, .long a3, .int 1]) below meth c H locs 0 0 (MQ below (va_Qi (P_X7_openHours_9 ad cy B qr s1 a1 a3 w0) (fun u : va_W => wpost dC dI cy A u) A) (List.toArray [.ref (ad 39), .int a1, .int 0, .long a3, .int 1]) s 0 0 A) (F0 m 44 ls []) := by
    intro n44
    induction n44 with
    | zero => intro v44_6 v44_7 H locs ls w12 r13 t14 r15 t16 r17 t18 hm44 hw hT hF hl; omega
    | succ n44 ih44 =>
      intro v44_6 v44_7 H locs ls w12 r13 t14 r15 t16 r17 t18 hm44 hw hT hF hl
      have J81 : ∀ (H : Heap) (locs : List Loc) (ls : Array Slot) (w19 : va_W), 0 ≤ a1.toInt → a1.toInt ≤ 12 → 0 ≤ a3.toInt → a3.toInt ≤ 4249 → 0 ≤ v44_7.toInt → v44_7.toInt ≤ 7 → Wd dC dI A s.heap H locs w19 → TW ksC ad cy B qr s1 w19 → FE ksC ([] : List (Nat × Nat × Nat)) w0 w19 → lv_has ls 8 [(0, .ref (ad 39)), (1, .int a1), (2, .int 0), (3, .long a3), (5, .int 1), (6, .int v44_6), (7, .int v44_7)] → W p l e ({ frames := 1, cells := 0, slots := 0, locals := 12 }) s m (List.toArray [.ref (ad 39), .int a1, .int 0, .long a3, .int 1]) below meth c H locs 0 0 (MQ below (va_Qi (P_X7_openHours_9 ad cy B qr s1 a1 a3 w0) (fun u : va_W => wpost dC dI cy A u) A) (List.toArray [.ref (ad 39), .int a1, .int 0, .long a3, .int 1]) s 0 0 A) (F0 m 81 ls []) := by
        intro H locs ls w19 r20 t21 r22 t23 r24 t25 hw hT hF hl
        refine lv_iload hx hb dX7_openHours_81 (lv_at hl 5 rfl) ?_
        refine lv_iconst (v := 1) hx hb dX7_openHours_83 (by decide) ?_
        refine lv_ishr hx hb dX7_openHours_84 ?_
        refine lv_topi (fun x26 ex26 => ?_)
        refine lv_istore (lv' := [(6, .int x26), (0, .ref (ad 39)), (1, .int a1), (2, .int 0), (3, .long a3), (5, .int 1), (7, .int v44_7)]) hx hb dX7_openHours_85 hl (by decide) rfl (fun ls hl => ?_)
        obtain ⟨x27, ex27⟩ : ∃ y : Int32, y = v44_7 + Int32.ofInt 1 := ⟨_, rfl⟩
        refine lv_iinc (v := x27) (lv' := [(7, .int x27), (6, .int x26), (0, .ref (ad 39)), (1, .int a1), (2, .int 0), (3, .long a3), (5, .int 1)]) hx hb dX7_openHours_87 hl (k := 6) rfl ex27.symm (by decide) rfl (fun ls hl => ?_)
        have ex27 : x27.toInt = v44_7.toInt + 1 := by rw [ex27]; exact wk_add (y := 1) (show -2147483648 ≤ v44_7.toInt + 1 by omega) (show v44_7.toInt + 1 ≤ 2147483647 by omega)
        refine lv_goto (tgt := 44) hx hb dX7_openHours_90 (by decide) ?_
        exact ih44 x26 x27 H locs ls w19 (show 0 ≤ a1.toInt by omega) (show a1.toInt ≤ 12 by omega) (show 0 ≤ a3.toInt by omega) (show a3.toInt ≤ 4249 by omega) (show 0 ≤ x27.toInt by omega) (show x27.toInt ≤ 8 by omega) (show (8 - x27.toInt).toNat < n44 by omega) hw hT hF  (lv_sub hl [2, 3, 4, 5, 6, 1, 0] rfl)
      refine lv_iload hx hb dX7_openHours_44 (lv_at hl 5 rfl) ?_
      refine lv_if_eq (tgt := 93) hx hb dX7_openHours_46 (by decide) (fun c28 => ?_) (fun c28 => ?_)
      · have c28 : v44_6.toInt = (0 : Int) := wk_eq.mp c28
        exact J93 v44_6 v44_7 H locs ls w12 (show 0 ≤ a1.toInt by omega) (show a1.toInt ≤ 12 by omega) (show 0 ≤ a3.toInt by omega) (show a3.toInt ≤ 4249 by omega) (show 0 ≤ v44_7.toInt by omega) (show v44_7.toInt ≤ 8 by omega)  hw hT hF  (lv_sub hl [0, 1, 2, 3, 4, 5, 6] rfl)
      · have c28 : ¬ v44_6.toInt = (0 : Int) := wk_eqF c28
        refine lv_iload hx hb dX7_openHours_49 (lv_at hl 6 rfl) ?_
        refine lv_bipush (v := 8) hx hb dX7_openHours_51 (by decide) ?_
        refine lv_icmp_ge (tgt := 93) hx hb dX7_openHours_53 (by decide) (fun c29 => ?_) (fun c29 => ?_)
        · have c29 : (8 : Int) ≤ v44_7.toInt := wk_le.mp c29
          exact J93 v44_6 v44_7 H locs ls w12 (show 0 ≤ a1.toInt by omega) (show a1.toInt ≤ 12 by omega) (show 0 ≤ a3.toInt by omega) (show a3.toInt ≤ 4249 by omega) (show 0 ≤ v44_7.toInt by omega) (show v44_7.toInt ≤ 8 by omega)  hw hT hF  (lv_sub hl [0, 1, 2, 3, 4, 5, 6] rfl)
        · have c29 : v44_7.toInt < (8 : Int) := wk_leF c29
          refine lv_iload hx hb dX7_openHours_56 (lv_at hl 5 rfl) ?_
          refine lv_iconst (v := 1) hx hb dX7_openHours_58 (by decide) ?_
          refine lv_iand hx hb dX7_openHours_59 ?_
          refine lv_topi (fun x30 ex30 => ?_)
          have bx30 : 0 ≤ x30.toInt ∧ x30.toInt ≤ (1 : Int) := by rw [ex30]; exact wk_and (by decide)
          refine lv_if_eq (tgt := 81) hx hb dX7_openHours_60 (by decide) (fun c31 => ?_) (fun c31 => ?_)
          · have c31 : x30.toInt = (0 : Int) := wk_eq.mp c31
            exact J81  H locs ls w12 (show 0 ≤ a1.toInt by omega) (show a1.toInt ≤ 12 by omega) (show 0 ≤ a3.toInt by omega) (show a3.toInt ≤ 4249 by omega) (show 0 ≤ v44_7.toInt by omega) (show v44_7.toInt ≤ 7 by omega)  hw hT hF  (lv_sub hl [0, 1, 2, 3, 4, 5, 6] rfl)
          · have c31 : ¬ x30.toInt = (0 : Int) := wk_eqF c31
            refine lv_aload_n hx hb dX7_openHours_63 rfl (lv_at hl 0 rfl) ?_
            refine tk_getO hC hK hw hT hinX7 kC_at39 (by decide) rfl 6 (by decide) (List.mem_of_getElem? (i := 4) rfl) rfl rfl dX7_openHours_64 ?_
            refine lv_iload hx hb dX7_openHours_67 (lv_at hl 6 rfl) ?_
            refine tk_iald hC hK hw hT kC_at46 rfl rfl (show 0 ≤ v44_7.toInt by omega) (show v44_7.toInt < 8 by omega) dX7_openHours_69 (fun x32 c33 rx32 tx32 => ?_)
            refine lv_lload_n hx hb dX7_openHours_70 rfl (lv_at hl 3 rfl) ?_
            refine lv_ldc2 (v := 360) hx hb hC.2.2.2.1 (hC.2.2.2.2 _ (List.mem_of_getElem? (i := 5) rfl)) dX7_openHours_71 ?_
            refine lv_lrem hx hb dX7_openHours_74 (by decide) ?_
            refine lv_topl (fun x34 ex34 => ?_)
            have ex34 : x34.toInt = a3.toInt % (360 : Int) := by rw [ex34]; exact wk_reml (show 0 ≤ a3.toInt by omega) (show 0 < (360 : Int) by decide)
            refine lv_l2i hx hb dX7_openHours_75 rfl ?_
            refine lv_topi (fun x35 ex35 => ?_)
            have ex35 : x35.toInt = x34.toInt := by rw [ex35]; exact wk_l2i (by omega) (by omega)
            refine lv_icmp_ne (tgt := 81) hx hb dX7_openHours_76 (by decide) (fun c36 => ?_) (fun c36 => ?_)
            · have c36 : ¬ x32.toInt = x35.toInt := wk_eqF c36
              exact J81  H locs ls w12 (show 0 ≤ a1.toInt by omega) (show a1.toInt ≤ 12 by omega) (show 0 ≤ a3.toInt by omega) (show a3.toInt ≤ 4249 by omega) (show 0 ≤ v44_7.toInt by omega) (show v44_7.toInt ≤ 7 by omega)  hw hT hF  (lv_sub hl [0, 1, 2, 3, 4, 5, 6] rfl)
            · have c36 : x32.toInt = x35.toInt := wk_eq.mp c36
              refine lv_iconst (v := 0) hx hb dX7_openHours_79 (by decide) ?_
              exact tk_iret hC hr hlocks hK ⟨hT, hF, ⟨(by decide), (by decide)⟩⟩ hw dX7_openHours_80
  refine lv_aload_n hx hb dX7_openHours_0 rfl (lv_at hl 0 rfl) ?_
  refine tk_getO hC hK hw hT hinX7 kC_at39 (by decide) rfl 4 (by decide) (List.mem_of_getElem? (i := 1) rfl) rfl rfl dX7_openHours_1 ?_
  refine lv_iconst (v := 2) hx hb dX7_openHours_4 (by decide) ?_
  refine lv_iload_n hx hb dX7_openHours_5 rfl (lv_at hl 1 rfl) ?_
  refine lv_imul hx hb dX7_openHours_6 ?_
  refine lv_topi (fun x37 ex37 => ?_)
  have ex37 : x37.toInt = (2 : Int) * a1.toInt := by rw [ex37]; exact wk_mul (show (-2147483648) ≤ (2 : Int) * a1.toInt by omega) (show (2 : Int) * a1.toInt ≤ 2147483647 by omega)
  refine lv_iload_n hx hb dX7_openHours_7 rfl (lv_at hl 2 rfl) ?_
  refine lv_iadd hx hb dX7_openHours_8 ?_
  refine lv_topi (fun x38 ex38 => ?_)
  have ex38 : x38.toInt = x37.toInt + (0 : Int) := by rw [ex38]; exact wk_add (show (-2147483648) ≤ x37.toInt + (0 : Int) by omega) (show x37.toInt + (0 : Int) ≤ 2147483647 by omega)
  refine tk_iald hC hK hw hT kC_at44 rfl rfl (show 0 ≤ x38.toInt by omega) (show x38.toInt < 26 by omega) dX7_openHours_9 (fun x39 c40 rx39 tx39 => ?_)
  refine lv_lload_n hx hb dX7_openHours_10 rfl (lv_at hl 3 rfl) ?_
  refine lv_ldc2 (v := 7) hx hb hC.2.2.2.1 (hC.2.2.2.2 _ (List.mem_of_getElem? (i := 2) rfl)) dX7_openHours_11 ?_
  refine lv_lrem hx hb dX7_openHours_14 (by decide) ?_
  refine lv_topl (fun x41 ex41 => ?_)
  have ex41 : x41.toInt = a3.toInt % (7 : Int) := by rw [ex41]; exact wk_reml (show 0 ≤ a3.toInt by omega) (show 0 < (7 : Int) by decide)
  refine lv_l2i hx hb dX7_openHours_15 rfl ?_
  refine lv_topi (fun x42 ex42 => ?_)
  have ex42 : x42.toInt = x41.toInt := by rw [ex42]; exact wk_l2i (by omega) (by omega)
  refine lv_ishr hx hb dX7_openHours_16 ?_
  refine lv_topi (fun x43 ex43 => ?_)
  refine lv_iconst (v := 1) hx hb dX7_openHours_17 (by decide) ?_
  refine lv_iand hx hb dX7_openHours_18 ?_
  refine lv_topi (fun x44 ex44 => ?_)
  have bx44 : 0 ≤ x44.toInt ∧ x44.toInt ≤ (1 : Int) := by rw [ex44]; exact wk_and (by decide)
  refine lv_if_ne (tgt := 24) hx hb dX7_openHours_19 (by decide) (fun c45 => ?_) (fun c45 => ?_)
  · have c45 : ¬ x44.toInt = (0 : Int) := wk_eqF c45
    refine lv_iload hx hb dX7_openHours_24 (lv_at hl 4 rfl) ?_
    refine lv_if_eq (tgt := 38) hx hb dX7_openHours_26 (by decide) (fun c => absurd c (by decide)) (fun _ => ?_)
    refine lv_aload_n hx hb dX7_openHours_29 rfl (lv_at hl 0 rfl) ?_
    refine tk_getO hC hK hw hT hinX7 kC_at39 (by decide) rfl 7 (by decide) (List.mem_of_getElem? (i := 3) rfl) rfl rfl dX7_openHours_30 ?_
    refine lv_iload_n hx hb dX7_openHours_33 rfl (lv_at hl 1 rfl) ?_
    refine tk_iald hC hK hw hT kC_at47 rfl rfl (show 0 ≤ a1.toInt by omega) (show a1.toInt < 13 by omega) dX7_openHours_34 (fun x46 c47 rx46 tx46 => ?_)
    refine lv_goto (tgt := 39) hx hb dX7_openHours_35 (by decide) ?_
    refine lv_istore (lv' := [(6, .int x46), (0, .ref (ad 39)), (1, .int a1), (2, .int 0), (3, .long a3), (5, .int 1)]) hx hb dX7_openHours_39 hl (by decide) rfl (fun ls hl => ?_)
    refine lv_iconst (v := 0) hx hb dX7_openHours_41 (by decide) ?_
    refine lv_istore (lv' := [(7, .int 0), (6, .int x46), (0, .ref (ad 39)), (1, .int a1), (2, .int 0), (3, .long a3), (5, .int 1)]) hx hb dX7_openHours_42 hl (by decide) rfl (fun ls hl => ?_)
    exact L44 ((8 - (0 : Int)).toNat + 1) x46 0 s.heap locs ls w0 (show 0 ≤ a1.toInt by omega) (show a1.toInt ≤ 12 by omega) (show 0 ≤ a3.toInt by omega) (show a3.toInt ≤ 4249 by omega) (by decide) (by decide) (Nat.lt_succ_self _) hw hT hF  (lv_sub hl [2, 3, 4, 5, 6, 1, 0] rfl)
  · have c45 : x44.toInt = (0 : Int) := wk_eq.mp c45
    refine lv_iconst (v := 0) hx hb dX7_openHours_22 (by decide) ?_
    exact tk_iret hC hr hlocks hK ⟨hT, hF, ⟨(by decide), (by decide)⟩⟩ hw dX7_openHours_23
abbrev P_X7_isNeverOpen_3 (ad : Nat → Nat) (cy : Nat → ClassId) (B : Int) (qr : Nat) (s1 : Int) (a1 : Int32) (w0 : va_W) : Int32 → va_W → Prop := fun r u => TW ksC ad cy B qr s1 u ∧ FE ksC ([] : List (Nat × Nat × Nat)) w0 u ∧ ((r = 0) ∨ (r = 1))
set_option maxHeartbeats 4000000 in
set_option maxRecDepth 100000 in
theorem k_X7_isNeverOpen_3 (l : Launch) (adK adV : Nat → Nat) (dC : Nat → ClassId) (dI : Nat → Nat → Nat) (cy : Nat → ClassId) (ad : Nat → Nat) (B : Int) (hB0 : 2147483648 ≤ B) (hB1 : B ≤ 1152921504606846976) (qr : Nat) (s1 : Int)  (a1 : Int32) (ra1 : 0 ≤ a1.toInt) (ta1 : a1.toInt ≤ 12) (w0 : va_W) (sz : Nat) (hT : TW ksC ad cy B qr s1 w0)  : Met l yX7_isNeverOpen wsX7_isNeverOpen ({ frames := 1, cells := 0, slots := 0, locals := 12 }) (va_Pc [.ref (ad 39), .int a1, .int 0] (wpreS adK adV dC dI cy sz w0)) (va_Qi (P_X7_isNeverOpen_3 ad cy B qr s1 a1 w0) (fun u : va_W => wpost dC dI cy (va_A w0 sz) u) (va_A w0 sz)) 0 0 (va_A w0 sz) := by
  refine Met.ofW (cc := cX7_isNeverOpen) (maxL := 3) (ret := (some .boolean)) (by decide) rfl ?_
  intro p e s m args below meth c s₁ Bk hml hv
  obtain ⟨rfl, ⟨hsz, hP, hK, hD0⟩, hE, hSR⟩ := hv
  have hx := Bk.exec
  have hb := Bk.bytes
  have hr := Bk.returns
  have hlocks := Bk.notSynchronized
  have hC : CallFix p m c cX7_isNeverOpen 3 s _ wsX7_isNeverOpen RX7 := ⟨hx, hb, hml, findClass_of_methodNamed Bk.named, atoms_spec (ws := wsX7_isNeverOpen) Bk.pre⟩
  subst hsz
  have hD := hD0.self (sz := s.heap.size)
  generalize hAe : va_A w0 s.heap.size = A at hD hE ⊢
  have hA : ∀ q : Nat, s.heap.size ≤ q → A q := fun q h => by rw [← hAe]; exact Or.inr h
  have hw : Wd dC dI A s.heap s.heap [] w0 := ⟨hP, hD, va_S.rf⟩
  have hF : FE ksC ([] : List (Nat × Nat × Nat)) w0 w0 := FE.rf
  have hl := lv_entry ([.ref (ad 39), .int a1, .int 0]) (n := 3) (Nat.le_of_ble_eq_true rfl)
  rw [lg_entry_eq]
  generalize (lg_sl ([.ref (ad 39), .int a1, .int 0]) ++ List.replicate (3 - (lg_sl ([.ref (ad 39), .int a1, .int 0])).length) Slot.unset).toArray = ls at hl ⊢
  have hl : lv_has ls 3 [(0, .ref (ad 39)), (1, .int a1), (2, .int 0)] := hl
  generalize hloc : ([] : List Loc) = locs at hw ⊢
  have hinX7 : ∀ w ∈ u_ws RX7 TX7 12, w ∈ wsX7_isNeverOpen := fun _ h => List.mem_cons_of_mem _ (List.mem_append_right _ (h))
  have J24 : ∀ (H : Heap) (locs : List Loc) (ls : Array Slot) (w1 : va_W), 0 ≤ a1.toInt → a1.toInt ≤ 12 → Wd dC dI A s.heap H locs w1 → TW ksC ad cy B qr s1 w1 → FE ksC ([] : List (Nat × Nat × Nat)) w0 w1 → lv_has ls 3 [(0, .ref (ad 39)), (1, .int a1), (2, .int 0)] → W p l e ({ frames := 1, cells := 0, slots := 0, locals := 12 }) s m (List.toArray [.ref (ad 39), .int a1, .int 0]) below meth c H locs 0 0 (MQ below (va_Qi (P_X7_isNeverOpen_3 ad cy B qr s1 a1 w0) (fun u : va_W => wpost dC dI cy A u) A) (List.toArray [.ref (ad 39), .int a1, .int 0]) s 0 0 A) (F0 m 24 ls []) := by
    intro H locs ls w1 r2 t3 hw hT hF hl
    refine lv_iconst (v := 1) hx hb dX7_isNeverOpen_24 (by decide) ?_
    refine lv_goto (tgt := 29) hx hb dX7_isNeverOpen_25 (by decide) ?_
    exact tk_zret hC hr rfl hlocks hK ⟨hT, hF, (Or.inr rfl)⟩ hw dX7_isNeverOpen_29
  refine lv_aload_n hx hb dX7_isNeverOpen_0 rfl (lv_at hl 0 rfl) ?_
  refine tk_getO hC hK hw hT hinX7 kC_at39 (by decide) rfl 4 (by decide) (List.mem_of_getElem? (i := 1) rfl) rfl rfl dX7_isNeverOpen_1 ?_
  refine lv_iconst (v := 2) hx hb dX7_isNeverOpen_4 (by decide) ?_
  refine lv_iload_n hx hb dX7_isNeverOpen_5 rfl (lv_at hl 1 rfl) ?_
  refine lv_imul hx hb dX7_isNeverOpen_6 ?_
  refine lv_topi (fun x4 ex4 => ?_)
  have ex4 : x4.toInt = (2 : Int) * a1.toInt := by rw [ex4]; exact wk_mul (show (-2147483648) ≤ (2 : Int) * a1.toInt by omega) (show (2 : Int) * a1.toInt ≤ 2147483647 by omega)
  refine lv_iload_n hx hb dX7_isNeverOpen_7 rfl (lv_at hl 2 rfl) ?_
  refine lv_iadd hx hb dX7_isNeverOpen_8 ?_
  refine lv_topi (fun x5 ex5 => ?_)
  have ex5 : x5.toInt = x4.toInt + (0 : Int) := by rw [ex5]; exact wk_add (show (-2147483648) ≤ x4.toInt + (0 : Int) by omega) (show x4.toInt + (0 : Int) ≤ 2147483647 by omega)
  refine tk_iald hC hK hw hT kC_at44 rfl rfl (show 0 ≤ x5.toInt by omega) (show x5.toInt < 26 by omega) dX7_isNeverOpen_9 (fun x6 c7 rx6 tx6 => ?_)
  refine lv_if_eq (tgt := 24) hx hb dX7_isNeverOpen_10 (by decide) (fun c8 => ?_) (fun c8 => ?_)
  · have c8 : x6.toInt = (0 : Int) := wk_eq.mp c8
    exact J24  s.heap locs ls w0 (show 0 ≤ a1.toInt by omega) (show a1.toInt ≤ 12 by omega)  hw hT hF  (lv_sub hl [0, 1, 2] rfl)
  · have c8 : ¬ x6.toInt = (0 : Int) := wk_eqF c8
    refine lv_aload_n hx hb dX7_isNeverOpen_13 rfl (lv_at hl 0 rfl) ?_
    refine tk_getO hC hK hw hT hinX7 kC_at39 (by decide) rfl 3 (by decide) (List.mem_of_getElem? (i := 2) rfl) rfl rfl dX7_isNeverOpen_14 ?_
    refine lv_iload_n hx hb dX7_isNeverOpen_17 rfl (lv_at hl 1 rfl) ?_
    refine tk_iald hC hK hw hT kC_at43 rfl rfl (show 0 ≤ a1.toInt by omega) (show a1.toInt < 13 by omega) dX7_isNeverOpen_18 (fun x9 c10 rx9 tx9 => ?_)
    refine lv_ldc (v := 16777215) hx hb hC.2.2.2.1 (hC.2.2.2.2 _ (List.mem_of_getElem? (i := 3) rfl)) dX7_isNeverOpen_19 ?_
    refine lv_icmp_ne (tgt := 28) hx hb dX7_isNeverOpen_21 (by decide) (fun c11 => ?_) (fun c11 => ?_)
    · have c11 : ¬ x9.toInt = (16777215 : Int) := wk_eqF c11
      refine lv_iconst (v := 0) hx hb dX7_isNeverOpen_28 (by decide) ?_
      exact tk_zret hC hr rfl hlocks hK ⟨hT, hF, (Or.inl rfl)⟩ hw dX7_isNeverOpen_29
    · have c11 : x9.toInt = (16777215 : Int) := wk_eq.mp c11
      exact J24  s.heap locs ls w0 (show 0 ≤ a1.toInt by omega) (show a1.toInt ≤ 12 by omega)  hw hT hF  (lv_sub hl [0, 1, 2] rfl)
abbrev P_X7_firstOpen_3 (ad : Nat → Nat) (cy : Nat → ClassId) (B : Int) (qr : Nat) (s1 : Int) (a1 : Int32) (a3 : Int32) (a4 : Int32) (w0 : va_W) : Int32 → va_W → Prop := fun r u => TW ksC ad cy B qr s1 u ∧ FE ksC ([] : List (Nat × Nat × Nat)) w0 u ∧ ((0 ≤ r.toInt ∧ r.toInt ≤ 101999) ∨ (r = (-1)))
set_option maxHeartbeats 4000000 in
set_option maxRecDepth 100000 in
theorem k_X7_firstOpen_3 (l : Launch) (adK adV : Nat → Nat) (dC : Nat → ClassId) (dI : Nat → Nat → Nat) (cy : Nat → ClassId) (ad : Nat → Nat) (B : Int) (hB0 : 2147483648 ≤ B) (hB1 : B ≤ 1152921504606846976) (qr : Nat) (s1 : Int)  (a1 : Int32) (ra1 : 0 ≤ a1.toInt) (ta1 : a1.toInt ≤ 12) (a3 : Int32) (ra3 : (-1) ≤ a3.toInt) (ta3 : a3.toInt ≤ 102119) (a4 : Int32) (ra4 : 1991 ≤ a4.toInt) (ta4 : a4.toInt ≤ 101999) (w0 : va_W) (sz : Nat) (hT : TW ksC ad cy B qr s1 w0)  : Met l yX7_firstOpen wsX7_firstOpen ({ frames := 2, cells := 0, slots := 0, locals := 39 }) (va_Pc [.ref (ad 39), .int a1, .int 0, .int a3, .int a4] (wpreS adK adV dC dI cy sz w0)) (va_Qi (P_X7_firstOpen_3 ad cy B qr s1 a1 a3 a4 w0) (fun u : va_W => wpost dC dI cy (va_A w0 sz) u) (va_A w0 sz)) 0 0 (va_A w0 sz) := by
  refine Met.ofW (cc := cX7_firstOpen) (maxL := 10) (ret := (some .int)) (by decide) rfl ?_
  intro p e s m args below meth c s₁ Bk hml hv
  obtain ⟨rfl, ⟨hsz, hP, hK, hD0⟩, hE, hSR⟩ := hv
  have hx := Bk.exec
  have hb := Bk.bytes
  have hr := Bk.returns
  have hlocks := Bk.notSynchronized
  have hC : CallFix p m c cX7_firstOpen 10 s _ wsX7_firstOpen RX7 := ⟨hx, hb, hml, findClass_of_methodNamed Bk.named, atoms_spec (ws := wsX7_firstOpen) Bk.pre⟩
  subst hsz
  have hD := hD0.self (sz := s.heap.size)
  generalize hAe : va_A w0 s.heap.size = A at hD hE ⊢
  have hA : ∀ q : Nat, s.heap.size ≤ q → A q := fun q h => by rw [← hAe]; exact Or.inr h
  have hw : Wd dC dI A s.heap s.heap [] w0 := ⟨hP, hD, va_S.rf⟩
  have hF : FE ksC ([] : List (Nat × Nat × Nat)) w0 w0 := FE.rf
  have hl := lv_entry ([.ref (ad 39), .int a1, .int 0, .int a3, .int a4]) (n := 10) (Nat.le_of_ble_eq_true rfl)
  rw [lg_entry_eq]
  generalize (lg_sl ([.ref (ad 39), .int a1, .int 0, .int a3, .int a4]) ++ List.replicate (10 - (lg_sl ([.ref (ad 39), .int a1, .int 0, .int a3, .int a4])).length) Slot.unset).toArray = ls at hl ⊢
  have hl : lv_has ls 10 [(0, .ref (ad 39)), (1, .int a1), (2, .int 0), (3, .int a3), (4, .int a4)] := hl
  generalize hloc : ([] : List Loc) = locs at hw ⊢
  have L25 : ∀ (n25 : Nat) (v25_5 : Int32) (v25_6 : Int32) (H : Heap) (locs : List Loc) (ls : Array Slot) (w1 : va_W), 0 ≤ a1.toInt → a1.toInt ≤ 12 → (-1) ≤ a3.toInt → a3.toInt ≤ 102119 → 1991 ≤ a4.toInt → a4.toInt ≤ 101999 → 0 ≤ v25_6.toInt → v25_6.toInt ≤ 4254 → (4254 - v25_6.toInt).toNat < n25 → Wd dC dI A s.heap H locs w1 → TW ksC ad cy B qr s1 w1 → FE ksC ([] : List (Nat × Nat × Nat)) w0 w1 → lv_has ls 10 [(0, .ref (ad 39)), (1, .int a1), (2, .int 0), (3, .int a3), (4, .int a4), (5, .int v25_5), (6, .int v25_6)] → W p l e ({ frames := 2, cells := 0, slots := 0, locals := 39 }) s m (List.toArray [.ref (ad 39), .int a1, .int 0, .int a3, .int a4]) below meth c H locs 0 0 (MQ below (va_Qi (P_X7_firstOpen_3 ad cy B qr s1 a1 a3 a4 w0) (fun u : va_W => wpost dC dI cy A u) A) (List.toArray [.ref (ad 39), .int a1, .int 0, .int a3, .int a4]) s 0 0 A) (F0 m 25 ls []) := by
    intro n25
    induction n25 with
    | zero => intro v25_5 v25_6 H locs ls w1 r2 t3 r4 t5 r6 t7 r8 t9 hm25 hw hT hF hl; omega
    | succ n25 ih25 =>
      intro v25_5 v25_6 H locs ls w1 r2 t3 r4 t5 r6 t7 r8 t9 hm25 hw hT hF hl
      have J108 : ∀ (v108_7 : Int32) (v108_8 : Int32) (H : Heap) (locs : List Loc) (ls : Array Slot) (w10 : va_W), 0 ≤ a1.toInt → a1.toInt ≤ 12 → (-1) ≤ a3.toInt → a3.toInt ≤ 102119 → 1991 ≤ a4.toInt → a4.toInt ≤ 101999 → 0 ≤ v25_6.toInt → v25_6.toInt ≤ 4249 → 0 ≤ v108_7.toInt → v108_7.toInt ≤ 16777215 → 0 ≤ v108_8.toInt → v108_8.toInt ≤ 24 → Wd dC dI A s.heap H locs w10 → TW ksC ad cy B qr s1 w10 → FE ksC ([] : List (Nat × Nat × Nat)) w0 w10 → lv_has ls 10 [(0, .ref (ad 39)), (1, .int a1), (2, .int 0), (3, .int a3), (4, .int a4), (5, .int (-1)), (6, .int v25_6), (7, .int v108_7), (8, .int v108_8)] → W p l e ({ frames := 2, cells := 0, slots := 0, locals := 39 }) s m (List.toArray [.ref (ad 39), .int a1, .int 0, .int a3, .int a4]) below meth c H locs 0 0 (MQ below (va_Qi (P_X7_firstOpen_3 ad cy B qr s1 a1 a3 a4 w0) (fun u : va_W => wpost dC dI cy A u) A) (List.toArray [.ref (ad 39), .int a1, .int 0, .int a3, .int a4]) s 0 0 A) (F0 m 108 ls []) := by
        intro v108_7 v108_8 H locs ls w10 r11 t12 r13 t14 r15 t16 r17 t18 r19 t20 r21 t22 hw hT hF hl
        obtain ⟨x23, ex23⟩ : ∃ y : Int32, y = v25_6 + Int32.ofInt 1 := ⟨_, rfl⟩
        refine lv_iinc (v := x23) (lv' := [(6, .int x23), (0, .ref (ad 39)), (1, .int a1), (2, .int 0), (3, .int a3), (4, .int a4), (5, .int (-1)), (7, .int v108_7), (8, .int v108_8)]) hx hb dX7_firstOpen_108 hl (k := 6) rfl ex23.symm (by decide) rfl (fun ls hl => ?_)
        have ex23 : x23.toInt = v25_6.toInt + 1 := by rw [ex23]; exact wk_add (y := 1) (show -2147483648 ≤ v25_6.toInt + 1 by omega) (show v25_6.toInt + 1 ≤ 2147483647 by omega)
        refine lv_goto (tgt := 25) hx hb dX7_firstOpen_111 (by decide) ?_
        exact ih25 (-1) x23 H locs ls w10 (show 0 ≤ a1.toInt by omega) (show a1.toInt ≤ 12 by omega) (show (-1) ≤ a3.toInt by omega) (show a3.toInt ≤ 102119 by omega) (show 1991 ≤ a4.toInt by omega) (show a4.toInt ≤ 101999 by omega) (show 0 ≤ x23.toInt by omega) (show x23.toInt ≤ 4254 by omega) (show (4254 - x23.toInt).toNat < n25 by omega) hw hT hF  (lv_sub hl [1, 2, 3, 4, 5, 6, 0] rfl)
      have L56 : ∀ (n56 : Nat) (v56_7 : Int32) (v56_8 : Int32) (H : Heap) (locs : List Loc) (ls : Array Slot) (w24 : va_W), 0 ≤ a1.toInt → a1.toInt ≤ 12 → (-1) ≤ a3.toInt → a3.toInt ≤ 102119 → 1991 ≤ a4.toInt → a4.toInt ≤ 101999 → 0 ≤ v25_6.toInt → v25_6.toInt ≤ 4249 → 0 ≤ v56_7.toInt → v56_7.toInt ≤ 16777215 → 0 ≤ v56_8.toInt → v56_8.toInt ≤ 24 → (24 - v56_8.toInt).toNat < n56 → Wd dC dI A s.heap H locs w24 → TW ksC ad cy B qr s1 w24 → FE ksC ([] : List (Nat × Nat × Nat)) w0 w24 → lv_has ls 10 [(0, .ref (ad 39)), (1, .int a1), (2, .int 0), (3, .int a3), (4, .int a4), (5, .int (-1)), (6, .int v25_6), (7, .int v56_7), (8, .int v56_8)] → W p l e ({ frames := 2, cells := 0, slots := 0, locals := 39 }) s m (List.toArray [.ref (ad 39), .int a1, .int 0, .int a3, .int a4]) below meth c H locs 0 0 (MQ below (va_Qi (P_X7_firstOpen_3 ad cy B qr s1 a1 a3 a4 w0) (fun u : va_W => wpost dC dI cy A u) A) (List.toArray [.ref (ad 39), .int a1, .int 0, .int a3, .int a4]) s 0 0 A) (F0 m 56 ls []) := by
        intro n56
        induction n56 with
        | zero => intro v56_7 v56_8 H locs ls w24 r25 t26 r27 t28 r29 t30 r31 t32 r33 t34 r35 t36 hm56 hw hT hF hl; omega
        | succ n56 ih56 =>
          intro v56_7 v56_8 H locs ls w24 r25 t26 r27 t28 r29 t30 r31 t32 r33 t34 r35 t36 hm56 hw hT hF hl
          refine lv_iload hx hb dX7_firstOpen_56 (lv_at hl 7 rfl) ?_
          refine lv_if_eq (tgt := 108) hx hb dX7_firstOpen_58 (by decide) (fun c37 => ?_) (fun c37 => ?_)
          · have c37 : v56_7.toInt = (0 : Int) := wk_eq.mp c37
            exact J108 v56_7 v56_8 H locs ls w24 (show 0 ≤ a1.toInt by omega) (show a1.toInt ≤ 12 by omega) (show (-1) ≤ a3.toInt by omega) (show a3.toInt ≤ 102119 by omega) (show 1991 ≤ a4.toInt by omega) (show a4.toInt ≤ 101999 by omega) (show 0 ≤ v25_6.toInt by omega) (show v25_6.toInt ≤ 4249 by omega) (show 0 ≤ v56_7.toInt by omega) (show v56_7.toInt ≤ 16777215 by omega) (show 0 ≤ v56_8.toInt by omega) (show v56_8.toInt ≤ 24 by omega)  hw hT hF  (lv_sub hl [0, 1, 2, 3, 4, 5, 6, 7, 8] rfl)
          · have c37 : ¬ v56_7.toInt = (0 : Int) := wk_eqF c37
            refine lv_iload hx hb dX7_firstOpen_61 (lv_at hl 8 rfl) ?_
            refine lv_bipush (v := 24) hx hb dX7_firstOpen_63 (by decide) ?_
            refine lv_icmp_ge (tgt := 108) hx hb dX7_firstOpen_65 (by decide) (fun c38 => ?_) (fun c38 => ?_)
            · have c38 : (24 : Int) ≤ v56_8.toInt := wk_le.mp c38
              exact J108 v56_7 v56_8 H locs ls w24 (show 0 ≤ a1.toInt by omega) (show a1.toInt ≤ 12 by omega) (show (-1) ≤ a3.toInt by omega) (show a3.toInt ≤ 102119 by omega) (show 1991 ≤ a4.toInt by omega) (show a4.toInt ≤ 101999 by omega) (show 0 ≤ v25_6.toInt by omega) (show v25_6.toInt ≤ 4249 by omega) (show 0 ≤ v56_7.toInt by omega) (show v56_7.toInt ≤ 16777215 by omega) (show 0 ≤ v56_8.toInt by omega) (show v56_8.toInt ≤ 24 by omega)  hw hT hF  (lv_sub hl [0, 1, 2, 3, 4, 5, 6, 7, 8] rfl)
            · have c38 : v56_8.toInt < (24 : Int) := wk_leF c38
              refine lv_iload hx hb dX7_firstOpen_68 (lv_at hl 7 rfl) ?_
              refine lv_iload hx hb dX7_firstOpen_70 (lv_at hl 8 rfl) ?_
              refine lv_ishr hx hb dX7_firstOpen_72 ?_
              refine lv_topi (fun x39 ex39 => ?_)
              have bx39 : 0 ≤ x39.toInt ∧ x39.toInt ≤ v56_7.toInt := by rw [ex39]; exact wk_shr (by omega)
              refine lv_iconst (v := 1) hx hb dX7_firstOpen_73 (by decide) ?_
              refine lv_iand hx hb dX7_firstOpen_74 ?_
              refine lv_topi (fun x40 ex40 => ?_)
              have bx40 : 0 ≤ x40.toInt ∧ x40.toInt ≤ (1 : Int) := by rw [ex40]; exact wk_and (by decide)
              refine lv_if_eq (tgt := 102) hx hb dX7_firstOpen_75 (by decide) (fun c41 => ?_) (fun c41 => ?_)
              · have c41 : x40.toInt = (0 : Int) := wk_eq.mp c41
                obtain ⟨x42, ex42⟩ : ∃ y : Int32, y = v56_8 + Int32.ofInt 1 := ⟨_, rfl⟩
                refine lv_iinc (v := x42) (lv' := [(8, .int x42), (0, .ref (ad 39)), (1, .int a1), (2, .int 0), (3, .int a3), (4, .int a4), (5, .int (-1)), (6, .int v25_6), (7, .int v56_7)]) hx hb dX7_firstOpen_102 hl (k := 8) rfl ex42.symm (by decide) rfl (fun ls hl => ?_)
                have ex42 : x42.toInt = v56_8.toInt + 1 := by rw [ex42]; exact wk_add (y := 1) (show -2147483648 ≤ v56_8.toInt + 1 by omega) (show v56_8.toInt + 1 ≤ 2147483647 by omega)
                refine lv_goto (tgt := 56) hx hb dX7_firstOpen_105 (by decide) ?_
                exact ih56 v56_7 x42 H locs ls w24 (show 0 ≤ a1.toInt by omega) (show a1.toInt ≤ 12 by omega) (show (-1) ≤ a3.toInt by omega) (show a3.toInt ≤ 102119 by omega) (show 1991 ≤ a4.toInt by omega) (show a4.toInt ≤ 101999 by omega) (show 0 ≤ v25_6.toInt by omega) (show v25_6.toInt ≤ 4249 by omega) (show 0 ≤ v56_7.toInt by omega) (show v56_7.toInt ≤ 16777215 by omega) (show 0 ≤ x42.toInt by omega) (show x42.toInt ≤ 24 by omega) (show (24 - x42.toInt).toNat < n56 by omega) hw hT hF  (lv_sub hl [1, 2, 3, 4, 5, 6, 7, 8, 0] rfl)
              · have c41 : ¬ x40.toInt = (0 : Int) := wk_eqF c41
                refine lv_iload hx hb dX7_firstOpen_78 (lv_at hl 6 rfl) ?_
                refine lv_bipush (v := 24) hx hb dX7_firstOpen_80 (by decide) ?_
                refine lv_imul hx hb dX7_firstOpen_82 ?_
                refine lv_topi (fun x43 ex43 => ?_)
                have ex43 : x43.toInt = v25_6.toInt * (24 : Int) := by rw [ex43]; exact wk_mul (show (-2147483648) ≤ v25_6.toInt * (24 : Int) by omega) (show v25_6.toInt * (24 : Int) ≤ 2147483647 by omega)
                refine lv_iload hx hb dX7_firstOpen_83 (lv_at hl 8 rfl) ?_
                refine lv_iadd hx hb dX7_firstOpen_85 ?_
                refine lv_topi (fun x44 ex44 => ?_)
                have ex44 : x44.toInt = x43.toInt + v56_8.toInt := by rw [ex44]; exact wk_add (show (-2147483648) ≤ x43.toInt + v56_8.toInt by omega) (show x43.toInt + v56_8.toInt ≤ 2147483647 by omega)
                refine lv_istore (lv' := [(9, .int x44), (0, .ref (ad 39)), (1, .int a1), (2, .int 0), (3, .int a3), (4, .int a4), (5, .int (-1)), (6, .int v25_6), (7, .int v56_7), (8, .int v56_8)]) hx hb dX7_firstOpen_86 hl (by decide) rfl (fun ls hl => ?_)
                refine lv_iload hx hb dX7_firstOpen_88 (lv_at hl 0 rfl) ?_
                refine lv_iload hx hb dX7_firstOpen_90 (lv_at hl 5 rfl) ?_
                refine lv_icmp_gt (tgt := 100) hx hb dX7_firstOpen_92 (by decide) (fun c45 => ?_) (fun c45 => ?_)
                · have c45 : a4.toInt < x44.toInt := wk_lt.mp c45
                  refine lv_iconst (v := (-1)) hx hb dX7_firstOpen_100 (by decide) ?_
                  exact tk_iret hC hr hlocks hK ⟨hT, hF, (Or.inr rfl)⟩ hw dX7_firstOpen_101
                · have c45 : x44.toInt ≤ a4.toInt := wk_ltF c45
                  refine lv_iload hx hb dX7_firstOpen_95 (lv_at hl 0 rfl) ?_
                  refine lv_goto (tgt := 101) hx hb dX7_firstOpen_97 (by decide) ?_
                  exact tk_iret hC hr hlocks hK ⟨hT, hF, (Or.inl ⟨(show 0 ≤ x44.toInt by omega), (show x44.toInt ≤ 101999 by omega)⟩)⟩ hw dX7_firstOpen_101
      refine lv_iload hx hb dX7_firstOpen_25 (lv_at hl 6 rfl) ?_
      refine lv_bipush (v := 24) hx hb dX7_firstOpen_27 (by decide) ?_
      refine lv_imul hx hb dX7_firstOpen_29 ?_
      refine lv_topi (fun x46 ex46 => ?_)
      have ex46 : x46.toInt = v25_6.toInt * (24 : Int) := by rw [ex46]; exact wk_mul (show (-2147483648) ≤ v25_6.toInt * (24 : Int) by omega) (show v25_6.toInt * (24 : Int) ≤ 2147483647 by omega)
      refine lv_iload hx hb dX7_firstOpen_30 (lv_at hl 4 rfl) ?_
      refine lv_icmp_gt (tgt := 114) hx hb dX7_firstOpen_32 (by decide) (fun c47 => ?_) (fun c47 => ?_)
      · have c47 : a4.toInt < x46.toInt := wk_lt.mp c47
        refine lv_iconst (v := (-1)) hx hb dX7_firstOpen_114 (by decide) ?_
        exact tk_iret hC hr hlocks hK ⟨hT, hF, (Or.inr rfl)⟩ hw dX7_firstOpen_115
      · have c47 : x46.toInt ≤ a4.toInt := wk_ltF c47
        refine lv_aload_n hx hb dX7_firstOpen_35 rfl (lv_at hl 0 rfl) ?_
        refine lv_iload_n hx hb dX7_firstOpen_36 rfl (lv_at hl 1 rfl) ?_
        refine lv_iload_n hx hb dX7_firstOpen_37 rfl (lv_at hl 2 rfl) ?_
        refine lv_iload hx hb dX7_firstOpen_38 (lv_at hl 6 rfl) ?_
        refine lv_i2l hx hb dX7_firstOpen_40 rfl ?_
        refine lv_topl (fun x48 ex48 => ?_)
        have ex48 : x48.toInt = v25_6.toInt := by rw [ex48]; exact wk_i2l _
        have bx48 := wk_i32 v25_6
        refine lv_iconst (v := 1) hx hb dX7_firstOpen_41 (by decide) ?_
        refine tk_Vi hC hK hw hT hA hE hSR kC_at39 (by decide) rfl (k_X7_openHours_9 l adK adV dC dI cy ad B (by omega) (by omega) qr s1   a1 (show 0 ≤ a1.toInt by omega) (show a1.toInt ≤ 12 by omega) x48 (show 0 ≤ x48.toInt by omega) (show x48.toInt ≤ 4249 by omega) w1 H.size hT ) (cwV 4 hC.2.2.2.2 gX7_firstOpen_X7_openHours rfl rfl rfl (by decide +kernel) ⟨Nat.le_of_ble_eq_true rfl, Nat.le_of_ble_eq_true rfl⟩) rfl hl.1 rfl (Nat.le_of_ble_eq_true rfl) dX7_firstOpen_42 (fun r49 w51 H locs hp50 hw => ?_)
        obtain ⟨hT, k52, hg55⟩ := hp50
        have hF := hF.tr k52 (by decide)
        obtain ⟨g53, g54⟩ := hg55
        refine lv_iload hx hb dX7_firstOpen_45 (lv_at hl 5 rfl) ?_
        refine lv_iand hx hb dX7_firstOpen_47 ?_
        refine lv_topi (fun x56 ex56 => ?_)
        have bx56 : 0 ≤ x56.toInt ∧ x56.toInt ≤ r49.toInt := by rw [ex56]; exact wk_andC (by omega)
        refine lv_istore (lv' := [(7, .int x56), (0, .ref (ad 39)), (1, .int a1), (2, .int 0), (3, .int a3), (4, .int a4), (5, .int v25_5), (6, .int v25_6)]) hx hb dX7_firstOpen_48 hl (by decide) rfl (fun ls hl => ?_)
        refine lv_iconst (v := (-1)) hx hb dX7_firstOpen_50 (by decide) ?_
        refine lv_istore (lv' := [(5, .int (-1)), (7, .int x56), (0, .ref (ad 39)), (1, .int a1), (2, .int 0), (3, .int a3), (4, .int a4), (6, .int v25_6)]) hx hb dX7_firstOpen_51 hl (by decide) rfl (fun ls hl => ?_)
        refine lv_iconst (v := 0) hx hb dX7_firstOpen_53 (by decide) ?_
        refine lv_istore (lv' := [(8, .int 0), (5, .int (-1)), (7, .int x56), (0, .ref (ad 39)), (1, .int a1), (2, .int 0), (3, .int a3), (4, .int a4), (6, .int v25_6)]) hx hb dX7_firstOpen_54 hl (by decide) rfl (fun ls hl => ?_)
        exact L56 ((24 - (0 : Int)).toNat + 1) x56 0 H locs ls w51 (show 0 ≤ a1.toInt by omega) (show a1.toInt ≤ 12 by omega) (show (-1) ≤ a3.toInt by omega) (show a3.toInt ≤ 102119 by omega) (show 1991 ≤ a4.toInt by omega) (show a4.toInt ≤ 101999 by omega) (show 0 ≤ v25_6.toInt by omega) (show v25_6.toInt ≤ 4249 by omega) (show 0 ≤ x56.toInt by omega) (show x56.toInt ≤ 16777215 by omega) (by decide) (by decide) (Nat.lt_succ_self _) hw hT hF  (lv_sub hl [3, 4, 5, 6, 7, 1, 8, 2, 0] rfl)
  refine lv_aload_n hx hb dX7_firstOpen_0 rfl (lv_at hl 0 rfl) ?_
  refine lv_iload_n hx hb dX7_firstOpen_1 rfl (lv_at hl 1 rfl) ?_
  refine lv_iload_n hx hb dX7_firstOpen_2 rfl (lv_at hl 2 rfl) ?_
  refine tk_Vi hC hK hw hT hA hE hSR kC_at39 (by decide) rfl (k_X7_isNeverOpen_3 l adK adV dC dI cy ad B (by omega) (by omega) qr s1   a1 (show 0 ≤ a1.toInt by omega) (show a1.toInt ≤ 12 by omega) w0 s.heap.size hT ) (cwV 2 hC.2.2.2.2 gX7_firstOpen_X7_isNeverOpen rfl rfl rfl (by decide +kernel) ⟨Nat.le_of_ble_eq_true rfl, Nat.le_of_ble_eq_true rfl⟩) rfl hl.1 rfl (Nat.le_of_ble_eq_true rfl) dX7_firstOpen_3 (fun r57 w59 H locs hp58 hw => ?_)
  obtain ⟨hT, k60, hg61⟩ := hp58
  have hF := hF.tr k60 (by decide)
  rcases hg61 with rfl | rfl
  · refine lv_if_eq (tgt := 11) hx hb dX7_firstOpen_6 (by decide) (fun _ => ?_) (fun c => absurd (by decide) c)
    refine lv_iconst (v := (-1)) hx hb dX7_firstOpen_11 (by decide) ?_
    refine lv_iload_n hx hb dX7_firstOpen_12 rfl (lv_at hl 3 rfl) ?_
    refine lv_bipush (v := 24) hx hb dX7_firstOpen_13 (by decide) ?_
    refine lv_irem hx hb dX7_firstOpen_15 (by decide) ?_
    refine lv_topi (fun x62 ex62 => ?_)
    refine lv_ishl hx hb dX7_firstOpen_16 ?_
    refine lv_topi (fun x63 ex63 => ?_)
    refine lv_istore (lv' := [(5, .int x63), (0, .ref (ad 39)), (1, .int a1), (2, .int 0), (3, .int a3), (4, .int a4)]) hx hb dX7_firstOpen_17 hl (by decide) rfl (fun ls hl => ?_)
    refine lv_iload_n hx hb dX7_firstOpen_19 rfl (lv_at hl 4 rfl) ?_
    refine lv_bipush (v := 24) hx hb dX7_firstOpen_20 (by decide) ?_
    refine lv_idiv hx hb dX7_firstOpen_22 (by decide) ?_
    refine lv_topi (fun x64 ex64 => ?_)
    have bx64 : -(1 / (24 : Int)) ≤ x64.toInt ∧ x64.toInt ≤ 102119 / (24 : Int) := by rw [ex64]; exact wk_divB (m := 1) (n := 102119) (show 0 < (24 : Int) by decide) (by decide) (by decide) (by omega) (by omega)
    refine lv_istore (lv' := [(6, .int x64), (5, .int x63), (0, .ref (ad 39)), (1, .int a1), (2, .int 0), (3, .int a3), (4, .int a4)]) hx hb dX7_firstOpen_23 hl (by decide) rfl (fun ls hl => ?_)
    exact L25 ((4254 - x64.toInt).toNat + 1) x63 x64 H locs ls w59 (show 0 ≤ a1.toInt by omega) (show a1.toInt ≤ 12 by omega) (show (-1) ≤ a3.toInt by omega) (show a3.toInt ≤ 102119 by omega) (show 1991 ≤ a4.toInt by omega) (show a4.toInt ≤ 101999 by omega) (show 0 ≤ x64.toInt by omega) (show x64.toInt ≤ 4254 by omega) (Nat.lt_succ_self _) hw hT hF  (lv_sub hl [2, 3, 4, 5, 6, 1, 0] rfl)
  · refine lv_if_eq (tgt := 11) hx hb dX7_firstOpen_6 (by decide) (fun c => absurd c (by decide)) (fun _ => ?_)
    refine lv_iconst (v := (-1)) hx hb dX7_firstOpen_9 (by decide) ?_
    exact tk_iret hC hr hlocks hK ⟨hT, hF, (Or.inr rfl)⟩ hw dX7_firstOpen_10
abbrev P_X7_cornerAcross_5 (ad : Nat → Nat) (cy : Nat → ClassId) (B : Int) (qr : Nat) (s1 : Int) (a1 : Int32) (w0 : va_W) : Int32 → va_W → Prop := fun r u => TW ksC ad cy B qr s1 u ∧ FE ksC ([] : List (Nat × Nat × Nat)) w0 u ∧ ((0 ≤ r.toInt ∧ r.toInt ≤ 9))
set_option maxHeartbeats 4000000 in
set_option maxRecDepth 100000 in
theorem k_X7_cornerAcross_5 (l : Launch) (adK adV : Nat → Nat) (dC : Nat → ClassId) (dI : Nat → Nat → Nat) (cy : Nat → ClassId) (ad : Nat → Nat) (B : Int) (hB0 : 2147483648 ≤ B) (hB1 : B ≤ 1152921504606846976) (qr : Nat) (s1 : Int)  (a1 : Int32) (ra1 : 0 ≤ a1.toInt) (ta1 : a1.toInt ≤ 12) (w0 : va_W) (sz : Nat) (hT : TW ksC ad cy B qr s1 w0)  : Met l yX7_cornerAcross wsX7_cornerAcross ({ frames := 1, cells := 0, slots := 0, locals := 12 }) (va_Pc [.ref (ad 39), .int a1, .int 1] (wpreS adK adV dC dI cy sz w0)) (va_Qi (P_X7_cornerAcross_5 ad cy B qr s1 a1 w0) (fun u : va_W => wpost dC dI cy (va_A w0 sz) u) (va_A w0 sz)) 0 0 (va_A w0 sz) := by
  refine Met.ofW (cc := cX7_cornerAcross) (maxL := 3) (ret := (some .int)) (by decide) rfl ?_
  intro p e s m args below meth c s₁ Bk hml hv
  obtain ⟨rfl, ⟨hsz, hP, hK, hD0⟩, hE, hSR⟩ := hv
  have hx := Bk.exec
  have hb := Bk.bytes
  have hr := Bk.returns
  have hlocks := Bk.notSynchronized
  have hC : CallFix p m c cX7_cornerAcross 3 s _ wsX7_cornerAcross RX7 := ⟨hx, hb, hml, findClass_of_methodNamed Bk.named, atoms_spec (ws := wsX7_cornerAcross) Bk.pre⟩
  subst hsz
  have hD := hD0.self (sz := s.heap.size)
  generalize hAe : va_A w0 s.heap.size = A at hD hE ⊢
  have hA : ∀ q : Nat, s.heap.size ≤ q → A q := fun q h => by rw [← hAe]; exact Or.inr h
  have hw : Wd dC dI A s.heap s.heap [] w0 := ⟨hP, hD, va_S.rf⟩
  have hF : FE ksC ([] : List (Nat × Nat × Nat)) w0 w0 := FE.rf
  have hl := lv_entry ([.ref (ad 39), .int a1, .int 1]) (n := 3) (Nat.le_of_ble_eq_true rfl)
  rw [lg_entry_eq]
  generalize (lg_sl ([.ref (ad 39), .int a1, .int 1]) ++ List.replicate (3 - (lg_sl ([.ref (ad 39), .int a1, .int 1])).length) Slot.unset).toArray = ls at hl ⊢
  have hl : lv_has ls 3 [(0, .ref (ad 39)), (1, .int a1), (2, .int 1)] := hl
  generalize hloc : ([] : List Loc) = locs at hw ⊢
  have hinX7 : ∀ w ∈ u_ws RX7 TX7 12, w ∈ wsX7_cornerAcross := fun _ h => List.mem_cons_of_mem _ (List.mem_append_right _ (h))
  refine lv_aload_n hx hb dX7_cornerAcross_0 rfl (lv_at hl 0 rfl) ?_
  refine tk_getO hC hK hw hT hinX7 kC_at39 (by decide) rfl 0 (by decide) (List.mem_of_getElem? (i := 1) rfl) rfl rfl dX7_cornerAcross_1 ?_
  refine lv_iconst (v := 2) hx hb dX7_cornerAcross_4 (by decide) ?_
  refine lv_iload_n hx hb dX7_cornerAcross_5 rfl (lv_at hl 1 rfl) ?_
  refine lv_imul hx hb dX7_cornerAcross_6 ?_
  refine lv_topi (fun x1 ex1 => ?_)
  have ex1 : x1.toInt = (2 : Int) * a1.toInt := by rw [ex1]; exact wk_mul (show (-2147483648) ≤ (2 : Int) * a1.toInt by omega) (show (2 : Int) * a1.toInt ≤ 2147483647 by omega)
  refine lv_iconst (v := 1) hx hb dX7_cornerAcross_7 (by decide) ?_
  refine lv_iadd hx hb dX7_cornerAcross_8 ?_
  refine lv_topi (fun x2 ex2 => ?_)
  have ex2 : x2.toInt = x1.toInt + (1 : Int) := by rw [ex2]; exact wk_add (show (-2147483648) ≤ x1.toInt + (1 : Int) by omega) (show x1.toInt + (1 : Int) ≤ 2147483647 by omega)
  refine lv_iload_n hx hb dX7_cornerAcross_9 rfl (lv_at hl 2 rfl) ?_
  refine lv_isub hx hb dX7_cornerAcross_10 ?_
  refine lv_topi (fun x3 ex3 => ?_)
  have ex3 : x3.toInt = x2.toInt - (1 : Int) := by rw [ex3]; exact wk_sub (show (-2147483648) ≤ x2.toInt - (1 : Int) by omega) (show x2.toInt - (1 : Int) ≤ 2147483647 by omega)
  refine tk_iald hC hK hw hT kC_at40 rfl rfl (show 0 ≤ x3.toInt by omega) (show x3.toInt < 26 by omega) dX7_cornerAcross_11 (fun x4 c5 rx4 tx4 => ?_)
  have c5 : gi w0 40 (2 * a1.toInt + 0).toNat = x4 := (congrArg (gi w0 40) (congrArg Int.toNat (show 2 * a1.toInt + 0 = x3.toInt by omega))).trans c5
  exact tk_iret hC hr hlocks hK ⟨hT, hF, ⟨(show 0 ≤ x4.toInt by omega), (show x4.toInt ≤ 9 by omega)⟩⟩ hw dX7_cornerAcross_12
abbrev P_X7_openHours_10 (ad : Nat → Nat) (cy : Nat → ClassId) (B : Int) (qr : Nat) (s1 : Int) (a1 : Int32) (a3 : Int64) (w0 : va_W) : Int32 → va_W → Prop := fun r u => TW ksC ad cy B qr s1 u ∧ FE ksC ([] : List (Nat × Nat × Nat)) w0 u ∧ ((0 ≤ r.toInt ∧ r.toInt ≤ 16777215))
set_option maxHeartbeats 4000000 in
set_option maxRecDepth 100000 in
theorem k_X7_openHours_10 (l : Launch) (adK adV : Nat → Nat) (dC : Nat → ClassId) (dI : Nat → Nat → Nat) (cy : Nat → ClassId) (ad : Nat → Nat) (B : Int) (hB0 : 2147483648 ≤ B) (hB1 : B ≤ 1152921504606846976) (qr : Nat) (s1 : Int)  (a1 : Int32) (ra1 : 0 ≤ a1.toInt) (ta1 : a1.toInt ≤ 12) (a3 : Int64) (ra3 : 0 ≤ a3.toInt) (ta3 : a3.toInt ≤ 4249) (w0 : va_W) (sz : Nat) (hT : TW ksC ad cy B qr s1 w0)  : Met l yX7_openHours wsX7_openHours ({ frames := 1, cells := 0, slots := 0, locals := 12 }) (va_Pc [.ref (ad 39), .int a1, .int 1, .long a3, .int 1] (wpreS adK adV dC dI cy sz w0)) (va_Qi (P_X7_openHours_10 ad cy B qr s1 a1 a3 w0) (fun u : va_W => wpost dC dI cy (va_A w0 sz) u) (va_A w0 sz)) 0 0 (va_A w0 sz) := by
  refine Met.ofW (cc := cX7_openHours) (maxL := 8) (ret := (some .int)) (by decide) rfl ?_
  intro p e s m args below meth c s₁ Bk hml hv
  obtain ⟨rfl, ⟨hsz, hP, hK, hD0⟩, hE, hSR⟩ := hv
  have hx := Bk.exec
  have hb := Bk.bytes
  have hr := Bk.returns
  have hlocks := Bk.notSynchronized
  have hC : CallFix p m c cX7_openHours 8 s _ wsX7_openHours RX7 := ⟨hx, hb, hml, findClass_of_methodNamed Bk.named, atoms_spec (ws := wsX7_openHours) Bk.pre⟩
  subst hsz
  have hD := hD0.self (sz := s.heap.size)
  generalize hAe : va_A w0 s.heap.size = A at hD hE ⊢
  have hA : ∀ q : Nat, s.heap.size ≤ q → A q := fun q h => by rw [← hAe]; exact Or.inr h
  have hw : Wd dC dI A s.heap s.heap [] w0 := ⟨hP, hD, va_S.rf⟩
  have hF : FE ksC ([] : List (Nat × Nat × Nat)) w0 w0 := FE.rf
  have hl := lv_entry ([.ref (ad 39), .int a1, .int 1, .long a3, .int 1]) (n := 8) (Nat.le_of_ble_eq_true rfl)
  rw [lg_entry_eq]
  generalize (lg_sl ([.ref (ad 39), .int a1, .int 1, .long a3, .int 1]) ++ List.replicate (8 - (lg_sl ([.ref (ad 39), .int a1, .int 1, .long a3, .int 1])).length) Slot.unset).toArray = ls at hl ⊢
  have hl : lv_has ls 8 [(0, .ref (ad 39)), (1, .int a1), (2, .int 1), (3, .long a3), (5, .int 1)] := hl
  generalize hloc : ([] : List Loc) = locs at hw ⊢
  have hinX7 : ∀ w ∈ u_ws RX7 TX7 12, w ∈ wsX7_openHours := fun _ h => List.mem_cons_of_mem _ (List.mem_append_right _ (h))
  have J93 : ∀ (v93_6 : Int32) (v93_7 : Int32) (H : Heap) (locs : List Loc) (ls : Array Slot) (w1 : va_W), 0 ≤ a1.toInt → a1.toInt ≤ 12 → 0 ≤ a3.toInt → a3.toInt ≤ 4249 → 0 ≤ v93_7.toInt → v93_7.toInt ≤ 8 → Wd dC dI A s.heap H locs w1 → TW ksC ad cy B qr s1 w1 → FE ksC ([] : List (Nat × Nat × Nat)) w0 w1 → lv_has ls 8 [(0, .ref (ad 39)), (1, .int a1), (2, .int 1), (3, .long a3), (5, .int 1), (6, .int v93_6), (7, .int v93_7)] → W p l e ({ frames := 1, cells := 0, slots := 0, locals := 12 }) s m (List.toArray [.ref (ad 39), .int a1, .int 1, .long a3, .int 1]) below meth c H locs 0 0 (MQ below (va_Qi (P_X7_openHours_10 ad cy B qr s1 a1 a3 w0) (fun u : va_W => wpost dC dI cy A u) A) (List.toArray [.ref (ad 39), .int a1, .int 1, .long a3, .int 1]) s 0 0 A) (F0 m 93 ls []) := by
    intro v93_6 v93_7 H locs ls w1 r2 t3 r4 t5 r6 t7 hw hT hF hl
    refine lv_ldc (v := 16777215) hx hb hC.2.2.2.1 (hC.2.2.2.2 _ (List.mem_of_getElem? (i := 6) rfl)) dX7_openHours_93 ?_
    refine lv_aload_n hx hb dX7_openHours_95 rfl (lv_at hl 0 rfl) ?_
    refine tk_getO hC hK hw hT hinX7 kC_at39 (by decide) rfl 3 (by decide) (List.mem_of_getElem? (i := 7) rfl) rfl rfl dX7_openHours_96 ?_
    refine lv_iload_n hx hb dX7_openHours_99 rfl (lv_at hl 1 rfl) ?_
    refine tk_iald hC hK hw hT kC_at43 rfl rfl (show 0 ≤ a1.toInt by omega) (show a1.toInt < 13 by omega) dX7_openHours_100 (fun x8 c9 rx8 tx8 => ?_)
    refine lv_iconst (v := (-1)) hx hb dX7_openHours_101 (by decide) ?_
    refine lv_ixor hx hb dX7_openHours_102 ?_
    refine lv_topi (fun x10 ex10 => ?_)
    refine lv_iand hx hb dX7_openHours_103 ?_
    refine lv_topi (fun x11 ex11 => ?_)
    have bx11 : 0 ≤ x11.toInt ∧ x11.toInt ≤ (16777215 : Int) := by rw [ex11]; exact wk_andC (by decide)
    exact tk_iret hC hr hlocks hK ⟨hT, hF, ⟨(show 0 ≤ x11.toInt by omega), (show x11.toInt ≤ 16777215 by omega)⟩⟩ hw dX7_openHours_104
  have L44 : ∀ (n44 : Nat) (v44_6 : Int32) (v44_7 : Int32) (H : Heap) (locs : List Loc) (ls : Array Slot) (w12 : va_W), 0 ≤ a1.toInt → a1.toInt ≤ 12 → 0 ≤ a3.toInt → a3.toInt ≤ 4249 → 0 ≤ v44_7.toInt → v44_7.toInt ≤ 8 → (8 - v44_7.toInt).toNat < n44 → Wd dC dI A s.heap H locs w12 → TW ksC ad cy B qr s1 w12 → FE ksC ([] : List (Nat × Nat × Nat)) w0 w12 → lv_has ls 8 [(0, .ref (ad 39)), (1, .int a1), (2, .int 1), (3, .long a3), (5, .int 1), (6, .int v44_6), (7, .int v44_7)] → W p l e ({ frames := 1, cells := 0, slots := 0, locals := 12 }) s m (List.toArray [.ref (ad 39), .int a1, .int 1, .long a3, .int 1]) below meth c H locs 0 0 (MQ below (va_Qi (P_X7_openHours_10 ad cy B qr s1 a1 a3 w0) (fun u : va_W => wpost dC dI cy A u) A) (List.toArray [.ref (ad 39), .int a1, .int 1, .long a3, .int 1]) s 0 0 A) (F0 m 44 ls []) := by
    intro n44
    induction n44 with
    | zero => intro v44_6 v44_7 H locs ls w12 r13 t14 r15 t16 r17 t18 hm44 hw hT hF hl; omega
    | succ n44 ih44 =>
      intro v44_6 v44_7 H locs ls w12 r13 t14 r15 t16 r17 t18 hm44 hw hT hF hl
      have J81 : ∀ (H : Heap) (locs : List Loc) (ls : Array Slot) (w19 : va_W), 0 ≤ a1.toInt → a1.toInt ≤ 12 → 0 ≤ a3.toInt → a3.toInt ≤ 4249 → 0 ≤ v44_7.toInt → v44_7.toInt ≤ 7 → Wd dC dI A s.heap H locs w19 → TW ksC ad cy B qr s1 w19 → FE ksC ([] : List (Nat × Nat × Nat)) w0 w19 → lv_has ls 8 [(0, .ref (ad 39)), (1, .int a1), (2, .int 1), (3, .long a3), (5, .int 1), (6, .int v44_6), (7, .int v44_7)] → W p l e ({ frames := 1, cells := 0, slots := 0, locals := 12 }) s m (List.toArray [.ref (ad 39), .int a1, .int 1, .long a3, .int 1]) below meth c H locs 0 0 (MQ below (va_Qi (P_X7_openHours_10 ad cy B qr s1 a1 a3 w0) (fun u : va_W => wpost dC dI cy A u) A) (List.toArray [.ref (ad 39), .int a1, .int 1, .long a3, .int 1]) s 0 0 A) (F0 m 81 ls []) := by
        intro H locs ls w19 r20 t21 r22 t23 r24 t25 hw hT hF hl
        refine lv_iload hx hb dX7_openHours_81 (lv_at hl 5 rfl) ?_
        refine lv_iconst (v := 1) hx hb dX7_openHours_83 (by decide) ?_
        refine lv_ishr hx hb dX7_openHours_84 ?_
        refine lv_topi (fun x26 ex26 => ?_)
        refine lv_istore (lv' := [(6, .int x26), (0, .ref (ad 39)), (1, .int a1), (2, .int 1), (3, .long a3), (5, .int 1), (7, .int v44_7)]) hx hb dX7_openHours_85 hl (by decide) rfl (fun ls hl => ?_)
        obtain ⟨x27, ex27⟩ : ∃ y : Int32, y = v44_7 + Int32.ofInt 1 := ⟨_, rfl⟩
        refine lv_iinc (v := x27) (lv' := [(7, .int x27), (6, .int x26), (0, .ref (ad 39)), (1, .int a1), (2, .int 1), (3, .long a3), (5, .int 1)]) hx hb dX7_openHours_87 hl (k := 6) rfl ex27.symm (by decide) rfl (fun ls hl => ?_)
        have ex27 : x27.toInt = v44_7.toInt + 1 := by rw [ex27]; exact wk_add (y := 1) (show -2147483648 ≤ v44_7.toInt + 1 by omega) (show v44_7.toInt + 1 ≤ 2147483647 by omega)
        refine lv_goto (tgt := 44) hx hb dX7_openHours_90 (by decide) ?_
        exact ih44 x26 x27 H locs ls w19 (show 0 ≤ a1.toInt by omega) (show a1.toInt ≤ 12 by omega) (show 0 ≤ a3.toInt by omega) (show a3.toInt ≤ 4249 by omega) (show 0 ≤ x27.toInt by omega) (show x27.toInt ≤ 8 by omega) (show (8 - x27.toInt).toNat < n44 by omega) hw hT hF  (lv_sub hl [2, 3, 4, 5, 6, 1, 0] rfl)
      refine lv_iload hx hb dX7_openHours_44 (lv_at hl 5 rfl) ?_
      refine lv_if_eq (tgt := 93) hx hb dX7_openHours_46 (by decide) (fun c28 => ?_) (fun c28 => ?_)
      · have c28 : v44_6.toInt = (0 : Int) := wk_eq.mp c28
        exact J93 v44_6 v44_7 H locs ls w12 (show 0 ≤ a1.toInt by omega) (show a1.toInt ≤ 12 by omega) (show 0 ≤ a3.toInt by omega) (show a3.toInt ≤ 4249 by omega) (show 0 ≤ v44_7.toInt by omega) (show v44_7.toInt ≤ 8 by omega)  hw hT hF  (lv_sub hl [0, 1, 2, 3, 4, 5, 6] rfl)
      · have c28 : ¬ v44_6.toInt = (0 : Int) := wk_eqF c28
        refine lv_iload hx hb dX7_openHours_49 (lv_at hl 6 rfl) ?_
        refine lv_bipush (v := 8) hx hb dX7_openHours_51 (by decide) ?_
        refine lv_icmp_ge (tgt := 93) hx hb dX7_openHours_53 (by decide) (fun c29 => ?_) (fun c29 => ?_)
        · have c29 : (8 : Int) ≤ v44_7.toInt := wk_le.mp c29
          exact J93 v44_6 v44_7 H locs ls w12 (show 0 ≤ a1.toInt by omega) (show a1.toInt ≤ 12 by omega) (show 0 ≤ a3.toInt by omega) (show a3.toInt ≤ 4249 by omega) (show 0 ≤ v44_7.toInt by omega) (show v44_7.toInt ≤ 8 by omega)  hw hT hF  (lv_sub hl [0, 1, 2, 3, 4, 5, 6] rfl)
        · have c29 : v44_7.toInt < (8 : Int) := wk_leF c29
          refine lv_iload hx hb dX7_openHours_56 (lv_at hl 5 rfl) ?_
          refine lv_iconst (v := 1) hx hb dX7_openHours_58 (by decide) ?_
          refine lv_iand hx hb dX7_openHours_59 ?_
          refine lv_topi (fun x30 ex30 => ?_)
          have bx30 : 0 ≤ x30.toInt ∧ x30.toInt ≤ (1 : Int) := by rw [ex30]; exact wk_and (by decide)
          refine lv_if_eq (tgt := 81) hx hb dX7_openHours_60 (by decide) (fun c31 => ?_) (fun c31 => ?_)
          · have c31 : x30.toInt = (0 : Int) := wk_eq.mp c31
            exact J81  H locs ls w12 (show 0 ≤ a1.toInt by omega) (show a1.toInt ≤ 12 by omega) (show 0 ≤ a3.toInt by omega) (show a3.toInt ≤ 4249 by omega) (show 0 ≤ v44_7.toInt by omega) (show v44_7.toInt ≤ 7 by omega)  hw hT hF  (lv_sub hl [0, 1, 2, 3, 4, 5, 6] rfl)
          · have c31 : ¬ x30.toInt = (0 : Int) := wk_eqF c31
            refine lv_aload_n hx hb dX7_openHours_63 rfl (lv_at hl 0 rfl) ?_
            refine tk_getO hC hK hw hT hinX7 kC_at39 (by decide) rfl 6 (by decide) (List.mem_of_getElem? (i := 4) rfl) rfl rfl dX7_openHours_64 ?_
            refine lv_iload hx hb dX7_openHours_67 (lv_at hl 6 rfl) ?_
            refine tk_iald hC hK hw hT kC_at46 rfl rfl (show 0 ≤ v44_7.toInt by omega) (show v44_7.toInt < 8 by omega) dX7_openHours_69 (fun x32 c33 rx32 tx32 => ?_)
            refine lv_lload_n hx hb dX7_openHours_70 rfl (lv_at hl 3 rfl) ?_
            refine lv_ldc2 (v := 360) hx hb hC.2.2.2.1 (hC.2.2.2.2 _ (List.mem_of_getElem? (i := 5) rfl)) dX7_openHours_71 ?_
            refine lv_lrem hx hb dX7_openHours_74 (by decide) ?_
            refine lv_topl (fun x34 ex34 => ?_)
            have ex34 : x34.toInt = a3.toInt % (360 : Int) := by rw [ex34]; exact wk_reml (show 0 ≤ a3.toInt by omega) (show 0 < (360 : Int) by decide)
            refine lv_l2i hx hb dX7_openHours_75 rfl ?_
            refine lv_topi (fun x35 ex35 => ?_)
            have ex35 : x35.toInt = x34.toInt := by rw [ex35]; exact wk_l2i (by omega) (by omega)
            refine lv_icmp_ne (tgt := 81) hx hb dX7_openHours_76 (by decide) (fun c36 => ?_) (fun c36 => ?_)
            · have c36 : ¬ x32.toInt = x35.toInt := wk_eqF c36
              exact J81  H locs ls w12 (show 0 ≤ a1.toInt by omega) (show a1.toInt ≤ 12 by omega) (show 0 ≤ a3.toInt by omega) (show a3.toInt ≤ 4249 by omega) (show 0 ≤ v44_7.toInt by omega) (show v44_7.toInt ≤ 7 by omega)  hw hT hF  (lv_sub hl [0, 1, 2, 3, 4, 5, 6] rfl)
            · have c36 : x32.toInt = x35.toInt := wk_eq.mp c36
              refine lv_iconst (v := 0) hx hb dX7_openHours_79 (by decide) ?_
              exact tk_iret hC hr hlocks hK ⟨hT, hF, ⟨(by decide), (by decide)⟩⟩ hw dX7_openHours_80
  refine lv_aload_n hx hb dX7_openHours_0 rfl (lv_at hl 0 rfl) ?_
  refine tk_getO hC hK hw hT hinX7 kC_at39 (by decide) rfl 4 (by decide) (List.mem_of_getElem? (i := 1) rfl) rfl rfl dX7_openHours_1 ?_
  refine lv_iconst (v := 2) hx hb dX7_openHours_4 (by decide) ?_
  refine lv_iload_n hx hb dX7_openHours_5 rfl (lv_at hl 1 rfl) ?_
  refine lv_imul hx hb dX7_openHours_6 ?_
  refine lv_topi (fun x37 ex37 => ?_)
  have ex37 : x37.toInt = (2 : Int) * a1.toInt := by rw [ex37]; exact wk_mul (show (-2147483648) ≤ (2 : Int) * a1.toInt by omega) (show (2 : Int) * a1.toInt ≤ 2147483647 by omega)
  refine lv_iload_n hx hb dX7_openHours_7 rfl (lv_at hl 2 rfl) ?_
  refine lv_iadd hx hb dX7_openHours_8 ?_
  refine lv_topi (fun x38 ex38 => ?_)
  have ex38 : x38.toInt = x37.toInt + (1 : Int) := by rw [ex38]; exact wk_add (show (-2147483648) ≤ x37.toInt + (1 : Int) by omega) (show x37.toInt + (1 : Int) ≤ 2147483647 by omega)
  refine tk_iald hC hK hw hT kC_at44 rfl rfl (show 0 ≤ x38.toInt by omega) (show x38.toInt < 26 by omega) dX7_openHours_9 (fun x39 c40 rx39 tx39 => ?_)
  refine lv_lload_n hx hb dX7_openHours_10 rfl (lv_at hl 3 rfl) ?_
  refine lv_ldc2 (v := 7) hx hb hC.2.2.2.1 (hC.2.2.2.2 _ (List.mem_of_getElem? (i := 2) rfl)) dX7_openHours_11 ?_
  refine lv_lrem hx hb dX7_openHours_14 (by decide) ?_
  refine lv_topl (fun x41 ex41 => ?_)
  have ex41 : x41.toInt = a3.toInt % (7 : Int) := by rw [ex41]; exact wk_reml (show 0 ≤ a3.toInt by omega) (show 0 < (7 : Int) by decide)
  refine lv_l2i hx hb dX7_openHours_15 rfl ?_
  refine lv_topi (fun x42 ex42 => ?_)
  have ex42 : x42.toInt = x41.toInt := by rw [ex42]; exact wk_l2i (by omega) (by omega)
  refine lv_ishr hx hb dX7_openHours_16 ?_
  refine lv_topi (fun x43 ex43 => ?_)
  refine lv_iconst (v := 1) hx hb dX7_openHours_17 (by decide) ?_
  refine lv_iand hx hb dX7_openHours_18 ?_
  refine lv_topi (fun x44 ex44 => ?_)
  have bx44 : 0 ≤ x44.toInt ∧ x44.toInt ≤ (1 : Int) := by rw [ex44]; exact wk_and (by decide)
  refine lv_if_ne (tgt := 24) hx hb dX7_openHours_19 (by decide) (fun c45 => ?_) (fun c45 => ?_)
  · have c45 : ¬ x44.toInt = (0 : Int) := wk_eqF c45
    refine lv_iload hx hb dX7_openHours_24 (lv_at hl 4 rfl) ?_
    refine lv_if_eq (tgt := 38) hx hb dX7_openHours_26 (by decide) (fun c => absurd c (by decide)) (fun _ => ?_)
    refine lv_aload_n hx hb dX7_openHours_29 rfl (lv_at hl 0 rfl) ?_
    refine tk_getO hC hK hw hT hinX7 kC_at39 (by decide) rfl 7 (by decide) (List.mem_of_getElem? (i := 3) rfl) rfl rfl dX7_openHours_30 ?_
    refine lv_iload_n hx hb dX7_openHours_33 rfl (lv_at hl 1 rfl) ?_
    refine tk_iald hC hK hw hT kC_at47 rfl rfl (show 0 ≤ a1.toInt by omega) (show a1.toInt < 13 by omega) dX7_openHours_34 (fun x46 c47 rx46 tx46 => ?_)
    refine lv_goto (tgt := 39) hx hb dX7_openHours_35 (by decide) ?_
    refine lv_istore (lv' := [(6, .int x46), (0, .ref (ad 39)), (1, .int a1), (2, .int 1), (3, .long a3), (5, .int 1)]) hx hb dX7_openHours_39 hl (by decide) rfl (fun ls hl => ?_)
    refine lv_iconst (v := 0) hx hb dX7_openHours_41 (by decide) ?_
    refine lv_istore (lv' := [(7, .int 0), (6, .int x46), (0, .ref (ad 39)), (1, .int a1), (2, .int 1), (3, .long a3), (5, .int 1)]) hx hb dX7_openHours_42 hl (by decide) rfl (fun ls hl => ?_)
    exact L44 ((8 - (0 : Int)).toNat + 1) x46 0 s.heap locs ls w0 (show 0 ≤ a1.toInt by omega) (show a1.toInt ≤ 12 by omega) (show 0 ≤ a3.toInt by omega) (show a3.toInt ≤ 4249 by omega) (by decide) (by decide) (Nat.lt_succ_self _) hw hT hF  (lv_sub hl [2, 3, 4, 5, 6, 1, 0] rfl)
  · have c45 : x44.toInt = (0 : Int) := wk_eq.mp c45
    refine lv_iconst (v := 0) hx hb dX7_openHours_22 (by decide) ?_
    exact tk_iret hC hr hlocks hK ⟨hT, hF, ⟨(by decide), (by decide)⟩⟩ hw dX7_openHours_23
abbrev P_X7_isNeverOpen_4 (ad : Nat → Nat) (cy : Nat → ClassId) (B : Int) (qr : Nat) (s1 : Int) (a1 : Int32) (w0 : va_W) : Int32 → va_W → Prop := fun r u => TW ksC ad cy B qr s1 u ∧ FE ksC ([] : List (Nat × Nat × Nat)) w0 u ∧ ((r = 0) ∨ (r = 1))
set_option maxHeartbeats 4000000 in
set_option maxRecDepth 100000 in
theorem k_X7_isNeverOpen_4 (l : Launch) (adK adV : Nat → Nat) (dC : Nat → ClassId) (dI : Nat → Nat → Nat) (cy : Nat → ClassId) (ad : Nat → Nat) (B : Int) (hB0 : 2147483648 ≤ B) (hB1 : B ≤ 1152921504606846976) (qr : Nat) (s1 : Int)  (a1 : Int32) (ra1 : 0 ≤ a1.toInt) (ta1 : a1.toInt ≤ 12) (w0 : va_W) (sz : Nat) (hT : TW ksC ad cy B qr s1 w0)  : Met l yX7_isNeverOpen wsX7_isNeverOpen ({ frames := 1, cells := 0, slots := 0, locals := 12 }) (va_Pc [.ref (ad 39), .int a1, .int 1] (wpreS adK adV dC dI cy sz w0)) (va_Qi (P_X7_isNeverOpen_4 ad cy B qr s1 a1 w0) (fun u : va_W => wpost dC dI cy (va_A w0 sz) u) (va_A w0 sz)) 0 0 (va_A w0 sz) := by
  refine Met.ofW (cc := cX7_isNeverOpen) (maxL := 3) (ret := (some .boolean)) (by decide) rfl ?_
  intro p e s m args below meth c s₁ Bk hml hv
  obtain ⟨rfl, ⟨hsz, hP, hK, hD0⟩, hE, hSR⟩ := hv
  have hx := Bk.exec
  have hb := Bk.bytes
  have hr := Bk.returns
  have hlocks := Bk.notSynchronized
  have hC : CallFix p m c cX7_isNeverOpen 3 s _ wsX7_isNeverOpen RX7 := ⟨hx, hb, hml, findClass_of_methodNamed Bk.named, atoms_spec (ws := wsX7_isNeverOpen) Bk.pre⟩
  subst hsz
  have hD := hD0.self (sz := s.heap.size)
  generalize hAe : va_A w0 s.heap.size = A at hD hE ⊢
  have hA : ∀ q : Nat, s.heap.size ≤ q → A q := fun q h => by rw [← hAe]; exact Or.inr h
  have hw : Wd dC dI A s.heap s.heap [] w0 := ⟨hP, hD, va_S.rf⟩
  have hF : FE ksC ([] : List (Nat × Nat × Nat)) w0 w0 := FE.rf
  have hl := lv_entry ([.ref (ad 39), .int a1, .int 1]) (n := 3) (Nat.le_of_ble_eq_true rfl)
  rw [lg_entry_eq]
  generalize (lg_sl ([.ref (ad 39), .int a1, .int 1]) ++ List.replicate (3 - (lg_sl ([.ref (ad 39), .int a1, .int 1])).length) Slot.unset).toArray = ls at hl ⊢
  have hl : lv_has ls 3 [(0, .ref (ad 39)), (1, .int a1), (2, .int 1)] := hl
  generalize hloc : ([] : List Loc) = locs at hw ⊢
  have hinX7 : ∀ w ∈ u_ws RX7 TX7 12, w ∈ wsX7_isNeverOpen := fun _ h => List.mem_cons_of_mem _ (List.mem_append_right _ (h))
  have J24 : ∀ (H : Heap) (locs : List Loc) (ls : Array Slot) (w1 : va_W), 0 ≤ a1.toInt → a1.toInt ≤ 12 → Wd dC dI A s.heap H locs w1 → TW ksC ad cy B qr s1 w1 → FE ksC ([] : List (Nat × Nat × Nat)) w0 w1 → lv_has ls 3 [(0, .ref (ad 39)), (1, .int a1), (2, .int 1)] → W p l e ({ frames := 1, cells := 0, slots := 0, locals := 12 }) s m (List.toArray [.ref (ad 39), .int a1, .int 1]) below meth c H locs 0 0 (MQ below (va_Qi (P_X7_isNeverOpen_4 ad cy B qr s1 a1 w0) (fun u : va_W => wpost dC dI cy A u) A) (List.toArray [.ref (ad 39), .int a1, .int 1]) s 0 0 A) (F0 m 24 ls []) := by
    intro H locs ls w1 r2 t3 hw hT hF hl
    refine lv_iconst (v := 1) hx hb dX7_isNeverOpen_24 (by decide) ?_
    refine lv_goto (tgt := 29) hx hb dX7_isNeverOpen_25 (by decide) ?_
    exact tk_zret hC hr rfl hlocks hK ⟨hT, hF, (Or.inr rfl)⟩ hw dX7_isNeverOpen_29
  refine lv_aload_n hx hb dX7_isNeverOpen_0 rfl (lv_at hl 0 rfl) ?_
  refine tk_getO hC hK hw hT hinX7 kC_at39 (by decide) rfl 4 (by decide) (List.mem_of_getElem? (i := 1) rfl) rfl rfl dX7_isNeverOpen_1 ?_
  refine lv_iconst (v := 2) hx hb dX7_isNeverOpen_4 (by decide) ?_
  refine lv_iload_n hx hb dX7_isNeverOpen_5 rfl (lv_at hl 1 rfl) ?_
  refine lv_imul hx hb dX7_isNeverOpen_6 ?_
  refine lv_topi (fun x4 ex4 => ?_)
  have ex4 : x4.toInt = (2 : Int) * a1.toInt := by rw [ex4]; exact wk_mul (show (-2147483648) ≤ (2 : Int) * a1.toInt by omega) (show (2 : Int) * a1.toInt ≤ 2147483647 by omega)
  refine lv_iload_n hx hb dX7_isNeverOpen_7 rfl (lv_at hl 2 rfl) ?_
  refine lv_iadd hx hb dX7_isNeverOpen_8 ?_
  refine lv_topi (fun x5 ex5 => ?_)
  have ex5 : x5.toInt = x4.toInt + (1 : Int) := by rw [ex5]; exact wk_add (show (-2147483648) ≤ x4.toInt + (1 : Int) by omega) (show x4.toInt + (1 : Int) ≤ 2147483647 by omega)
  refine tk_iald hC hK hw hT kC_at44 rfl rfl (show 0 ≤ x5.toInt by omega) (show x5.toInt < 26 by omega) dX7_isNeverOpen_9 (fun x6 c7 rx6 tx6 => ?_)
  refine lv_if_eq (tgt := 24) hx hb dX7_isNeverOpen_10 (by decide) (fun c8 => ?_) (fun c8 => ?_)
  · have c8 : x6.toInt = (0 : Int) := wk_eq.mp c8
    exact J24  s.heap locs ls w0 (show 0 ≤ a1.toInt by omega) (show a1.toInt ≤ 12 by omega)  hw hT hF  (lv_sub hl [0, 1, 2] rfl)
  · have c8 : ¬ x6.toInt = (0 : Int) := wk_eqF c8
    refine lv_aload_n hx hb dX7_isNeverOpen_13 rfl (lv_at hl 0 rfl) ?_
    refine tk_getO hC hK hw hT hinX7 kC_at39 (by decide) rfl 3 (by decide) (List.mem_of_getElem? (i := 2) rfl) rfl rfl dX7_isNeverOpen_14 ?_
    refine lv_iload_n hx hb dX7_isNeverOpen_17 rfl (lv_at hl 1 rfl) ?_
    refine tk_iald hC hK hw hT kC_at43 rfl rfl (show 0 ≤ a1.toInt by omega) (show a1.toInt < 13 by omega) dX7_isNeverOpen_18 (fun x9 c10 rx9 tx9 => ?_)
    refine lv_ldc (v := 16777215) hx hb hC.2.2.2.1 (hC.2.2.2.2 _ (List.mem_of_getElem? (i := 3) rfl)) dX7_isNeverOpen_19 ?_
    refine lv_icmp_ne (tgt := 28) hx hb dX7_isNeverOpen_21 (by decide) (fun c11 => ?_) (fun c11 => ?_)
    · have c11 : ¬ x9.toInt = (16777215 : Int) := wk_eqF c11
      refine lv_iconst (v := 0) hx hb dX7_isNeverOpen_28 (by decide) ?_
      exact tk_zret hC hr rfl hlocks hK ⟨hT, hF, (Or.inl rfl)⟩ hw dX7_isNeverOpen_29
    · have c11 : x9.toInt = (16777215 : Int) := wk_eq.mp c11
      exact J24  s.heap locs ls w0 (show 0 ≤ a1.toInt by omega) (show a1.toInt ≤ 12 by omega)  hw hT hF  (lv_sub hl [0, 1, 2] rfl)
abbrev P_X7_firstOpen_4 (ad : Nat → Nat) (cy : Nat → ClassId) (B : Int) (qr : Nat) (s1 : Int) (a1 : Int32) (a3 : Int32) (a4 : Int32) (w0 : va_W) : Int32 → va_W → Prop := fun r u => TW ksC ad cy B qr s1 u ∧ FE ksC ([] : List (Nat × Nat × Nat)) w0 u ∧ ((0 ≤ r.toInt ∧ r.toInt ≤ 101999) ∨ (r = (-1)))
set_option maxHeartbeats 4000000 in
set_option maxRecDepth 100000 in
theorem k_X7_firstOpen_4 (l : Launch) (adK adV : Nat → Nat) (dC : Nat → ClassId) (dI : Nat → Nat → Nat) (cy : Nat → ClassId) (ad : Nat → Nat) (B : Int) (hB0 : 2147483648 ≤ B) (hB1 : B ≤ 1152921504606846976) (qr : Nat) (s1 : Int)  (a1 : Int32) (ra1 : 0 ≤ a1.toInt) (ta1 : a1.toInt ≤ 12) (a3 : Int32) (ra3 : (-1) ≤ a3.toInt) (ta3 : a3.toInt ≤ 102119) (a4 : Int32) (ra4 : 1991 ≤ a4.toInt) (ta4 : a4.toInt ≤ 101999) (w0 : va_W) (sz : Nat) (hT : TW ksC ad cy B qr s1 w0)  : Met l yX7_firstOpen wsX7_firstOpen ({ frames := 2, cells := 0, slots := 0, locals := 39 }) (va_Pc [.ref (ad 39), .int a1, .int 1, .int a3, .int a4] (wpreS adK adV dC dI cy sz w0)) (va_Qi (P_X7_firstOpen_4 ad cy B qr s1 a1 a3 a4 w0) (fun u : va_W => wpost dC dI cy (va_A w0 sz) u) (va_A w0 sz)) 0 0 (va_A w0 sz) := by
  refine Met.ofW (cc := cX7_firstOpen) (maxL := 10) (ret := (some .int)) (by decide) rfl ?_
  intro p e s m args below meth c s₁ Bk hml hv
  obtain ⟨rfl, ⟨hsz, hP, hK, hD0⟩, hE, hSR⟩ := hv
  have hx := Bk.exec
  have hb := Bk.bytes
  have hr := Bk.returns
  have hlocks := Bk.notSynchronized
  have hC : CallFix p m c cX7_firstOpen 10 s _ wsX7_firstOpen RX7 := ⟨hx, hb, hml, findClass_of_methodNamed Bk.named, atoms_spec (ws := wsX7_firstOpen) Bk.pre⟩
  subst hsz
  have hD := hD0.self (sz := s.heap.size)
  generalize hAe : va_A w0 s.heap.size = A at hD hE ⊢
  have hA : ∀ q : Nat, s.heap.size ≤ q → A q := fun q h => by rw [← hAe]; exact Or.inr h
  have hw : Wd dC dI A s.heap s.heap [] w0 := ⟨hP, hD, va_S.rf⟩
  have hF : FE ksC ([] : List (Nat × Nat × Nat)) w0 w0 := FE.rf
  have hl := lv_entry ([.ref (ad 39), .int a1, .int 1, .int a3, .int a4]) (n := 10) (Nat.le_of_ble_eq_true rfl)
  rw [lg_entry_eq]
  generalize (lg_sl ([.ref (ad 39), .int a1, .int 1, .int a3, .int a4]) ++ List.replicate (10 - (lg_sl ([.ref (ad 39), .int a1, .int 1, .int a3, .int a4])).length) Slot.unset).toArray = ls at hl ⊢
  have hl : lv_has ls 10 [(0, .ref (ad 39)), (1, .int a1), (2, .int 1), (3, .int a3), (4, .int a4)] := hl
  generalize hloc : ([] : List Loc) = locs at hw ⊢
  have L25 : ∀ (n25 : Nat) (v25_5 : Int32) (v25_6 : Int32) (H : Heap) (locs : List Loc) (ls : Array Slot) (w1 : va_W), 0 ≤ a1.toInt → a1.toInt ≤ 12 → (-1) ≤ a3.toInt → a3.toInt ≤ 102119 → 1991 ≤ a4.toInt → a4.toInt ≤ 101999 → 0 ≤ v25_6.toInt → v25_6.toInt ≤ 4254 → (4254 - v25_6.toInt).toNat < n25 → Wd dC dI A s.heap H locs w1 → TW ksC ad cy B qr s1 w1 → FE ksC ([] : List (Nat × Nat × Nat)) w0 w1 → lv_has ls 10 [(0, .ref (ad 39)), (1, .int a1), (2, .int 1), (3, .int a3), (4, .int a4), (5, .int v25_5), (6, .int v25_6)] → W p l e ({ frames := 2, cells := 0, slots := 0, locals := 39 }) s m (List.toArray [.ref (ad 39), .int a1, .int 1, .int a3, .int a4]) below meth c H locs 0 0 (MQ below (va_Qi (P_X7_firstOpen_4 ad cy B qr s1 a1 a3 a4 w0) (fun u : va_W => wpost dC dI cy A u) A) (List.toArray [.ref (ad 39), .int a1, .int 1, .int a3, .int a4]) s 0 0 A) (F0 m 25 ls []) := by
    intro n25
    induction n25 with
    | zero => intro v25_5 v25_6 H locs ls w1 r2 t3 r4 t5 r6 t7 r8 t9 hm25 hw hT hF hl; omega
    | succ n25 ih25 =>
      intro v25_5 v25_6 H locs ls w1 r2 t3 r4 t5 r6 t7 r8 t9 hm25 hw hT hF hl
      have J108 : ∀ (v108_7 : Int32) (v108_8 : Int32) (H : Heap) (locs : List Loc) (ls : Array Slot) (w10 : va_W), 0 ≤ a1.toInt → a1.toInt ≤ 12 → (-1) ≤ a3.toInt → a3.toInt ≤ 102119 → 1991 ≤ a4.toInt → a4.toInt ≤ 101999 → 0 ≤ v25_6.toInt → v25_6.toInt ≤ 4249 → 0 ≤ v108_7.toInt → v108_7.toInt ≤ 16777215 → 0 ≤ v108_8.toInt → v108_8.toInt ≤ 24 → Wd dC dI A s.heap H locs w10 → TW ksC ad cy B qr s1 w10 → FE ksC ([] : List (Nat × Nat × Nat)) w0 w10 → lv_has ls 10 [(0, .ref (ad 39)), (1, .int a1), (2, .int 1), (3, .int a3), (4, .int a4), (5, .int (-1)), (6, .int v25_6), (7, .int v108_7), (8, .int v108_8)] → W p l e ({ frames := 2, cells := 0, slots := 0, locals := 39 }) s m (List.toArray [.ref (ad 39), .int a1, .int 1, .int a3, .int a4]) below meth c H locs 0 0 (MQ below (va_Qi (P_X7_firstOpen_4 ad cy B qr s1 a1 a3 a4 w0) (fun u : va_W => wpost dC dI cy A u) A) (List.toArray [.ref (ad 39), .int a1, .int 1, .int a3, .int a4]) s 0 0 A) (F0 m 108 ls []) := by
        intro v108_7 v108_8 H locs ls w10 r11 t12 r13 t14 r15 t16 r17 t18 r19 t20 r21 t22 hw hT hF hl
        obtain ⟨x23, ex23⟩ : ∃ y : Int32, y = v25_6 + Int32.ofInt 1 := ⟨_, rfl⟩
        refine lv_iinc (v := x23) (lv' := [(6, .int x23), (0, .ref (ad 39)), (1, .int a1), (2, .int 1), (3, .int a3), (4, .int a4), (5, .int (-1)), (7, .int v108_7), (8, .int v108_8)]) hx hb dX7_firstOpen_108 hl (k := 6) rfl ex23.symm (by decide) rfl (fun ls hl => ?_)
        have ex23 : x23.toInt = v25_6.toInt + 1 := by rw [ex23]; exact wk_add (y := 1) (show -2147483648 ≤ v25_6.toInt + 1 by omega) (show v25_6.toInt + 1 ≤ 2147483647 by omega)
        refine lv_goto (tgt := 25) hx hb dX7_firstOpen_111 (by decide) ?_
        exact ih25 (-1) x23 H locs ls w10 (show 0 ≤ a1.toInt by omega) (show a1.toInt ≤ 12 by omega) (show (-1) ≤ a3.toInt by omega) (show a3.toInt ≤ 102119 by omega) (show 1991 ≤ a4.toInt by omega) (show a4.toInt ≤ 101999 by omega) (show 0 ≤ x23.toInt by omega) (show x23.toInt ≤ 4254 by omega) (show (4254 - x23.toInt).toNat < n25 by omega) hw hT hF  (lv_sub hl [1, 2, 3, 4, 5, 6, 0] rfl)
      have L56 : ∀ (n56 : Nat) (v56_7 : Int32) (v56_8 : Int32) (H : Heap) (locs : List Loc) (ls : Array Slot) (w24 : va_W), 0 ≤ a1.toInt → a1.toInt ≤ 12 → (-1) ≤ a3.toInt → a3.toInt ≤ 102119 → 1991 ≤ a4.toInt → a4.toInt ≤ 101999 → 0 ≤ v25_6.toInt → v25_6.toInt ≤ 4249 → 0 ≤ v56_7.toInt → v56_7.toInt ≤ 16777215 → 0 ≤ v56_8.toInt → v56_8.toInt ≤ 24 → (24 - v56_8.toInt).toNat < n56 → Wd dC dI A s.heap H locs w24 → TW ksC ad cy B qr s1 w24 → FE ksC ([] : List (Nat × Nat × Nat)) w0 w24 → lv_has ls 10 [(0, .ref (ad 39)), (1, .int a1), (2, .int 1), (3, .int a3), (4, .int a4), (5, .int (-1)), (6, .int v25_6), (7, .int v56_7), (8, .int v56_8)] → W p l e ({ frames := 2, cells := 0, slots := 0, locals := 39 }) s m (List.toArray [.ref (ad 39), .int a1, .int 1, .int a3, .int a4]) below meth c H locs 0 0 (MQ below (va_Qi (P_X7_firstOpen_4 ad cy B qr s1 a1 a3 a4 w0) (fun u : va_W => wpost dC dI cy A u) A) (List.toArray [.ref (ad 39), .int a1, .int 1, .int a3, .int a4]) s 0 0 A) (F0 m 56 ls []) := by
        intro n56
        induction n56 with
        | zero => intro v56_7 v56_8 H locs ls w24 r25 t26 r27 t28 r29 t30 r31 t32 r33 t34 r35 t36 hm56 hw hT hF hl; omega
        | succ n56 ih56 =>
          intro v56_7 v56_8 H locs ls w24 r25 t26 r27 t28 r29 t30 r31 t32 r33 t34 r35 t36 hm56 hw hT hF hl
          refine lv_iload hx hb dX7_firstOpen_56 (lv_at hl 7 rfl) ?_
          refine lv_if_eq (tgt := 108) hx hb dX7_firstOpen_58 (by decide) (fun c37 => ?_) (fun c37 => ?_)
          · have c37 : v56_7.toInt = (0 : Int) := wk_eq.mp c37
            exact J108 v56_7 v56_8 H locs ls w24 (show 0 ≤ a1.toInt by omega) (show a1.toInt ≤ 12 by omega) (show (-1) ≤ a3.toInt by omega) (show a3.toInt ≤ 102119 by omega) (show 1991 ≤ a4.toInt by omega) (show a4.toInt ≤ 101999 by omega) (show 0 ≤ v25_6.toInt by omega) (show v25_6.toInt ≤ 4249 by omega) (show 0 ≤ v56_7.toInt by omega) (show v56_7.toInt ≤ 16777215 by omega) (show 0 ≤ v56_8.toInt by omega) (show v56_8.toInt ≤ 24 by omega)  hw hT hF  (lv_sub hl [0, 1, 2, 3, 4, 5, 6, 7, 8] rfl)
          · have c37 : ¬ v56_7.toInt = (0 : Int) := wk_eqF c37
            refine lv_iload hx hb dX7_firstOpen_61 (lv_at hl 8 rfl) ?_
            refine lv_bipush (v := 24) hx hb dX7_firstOpen_63 (by decide) ?_
            refine lv_icmp_ge (tgt := 108) hx hb dX7_firstOpen_65 (by decide) (fun c38 => ?_) (fun c38 => ?_)
            · have c38 : (24 : Int) ≤ v56_8.toInt := wk_le.mp c38
              exact J108 v56_7 v56_8 H locs ls w24 (show 0 ≤ a1.toInt by omega) (show a1.toInt ≤ 12 by omega) (show (-1) ≤ a3.toInt by omega) (show a3.toInt ≤ 102119 by omega) (show 1991 ≤ a4.toInt by omega) (show a4.toInt ≤ 101999 by omega) (show 0 ≤ v25_6.toInt by omega) (show v25_6.toInt ≤ 4249 by omega) (show 0 ≤ v56_7.toInt by omega) (show v56_7.toInt ≤ 16777215 by omega) (show 0 ≤ v56_8.toInt by omega) (show v56_8.toInt ≤ 24 by omega)  hw hT hF  (lv_sub hl [0, 1, 2, 3, 4, 5, 6, 7, 8] rfl)
            · have c38 : v56_8.toInt < (24 : Int) := wk_leF c38
              refine lv_iload hx hb dX7_firstOpen_68 (lv_at hl 7 rfl) ?_
              refine lv_iload hx hb dX7_firstOpen_70 (lv_at hl 8 rfl) ?_
              refine lv_ishr hx hb dX7_firstOpen_72 ?_
              refine lv_topi (fun x39 ex39 => ?_)
              have bx39 : 0 ≤ x39.toInt ∧ x39.toInt ≤ v56_7.toInt := by rw [ex39]; exact wk_shr (by omega)
              refine lv_iconst (v := 1) hx hb dX7_firstOpen_73 (by decide) ?_
              refine lv_iand hx hb dX7_firstOpen_74 ?_
              refine lv_topi (fun x40 ex40 => ?_)
              have bx40 : 0 ≤ x40.toInt ∧ x40.toInt ≤ (1 : Int) := by rw [ex40]; exact wk_and (by decide)
              refine lv_if_eq (tgt := 102) hx hb dX7_firstOpen_75 (by decide) (fun c41 => ?_) (fun c41 => ?_)
              · have c41 : x40.toInt = (0 : Int) := wk_eq.mp c41
                obtain ⟨x42, ex42⟩ : ∃ y : Int32, y = v56_8 + Int32.ofInt 1 := ⟨_, rfl⟩
                refine lv_iinc (v := x42) (lv' := [(8, .int x42), (0, .ref (ad 39)), (1, .int a1), (2, .int 1), (3, .int a3), (4, .int a4), (5, .int (-1)), (6, .int v25_6), (7, .int v56_7)]) hx hb dX7_firstOpen_102 hl (k := 8) rfl ex42.symm (by decide) rfl (fun ls hl => ?_)
                have ex42 : x42.toInt = v56_8.toInt + 1 := by rw [ex42]; exact wk_add (y := 1) (show -2147483648 ≤ v56_8.toInt + 1 by omega) (show v56_8.toInt + 1 ≤ 2147483647 by omega)
                refine lv_goto (tgt := 56) hx hb dX7_firstOpen_105 (by decide) ?_
                exact ih56 v56_7 x42 H locs ls w24 (show 0 ≤ a1.toInt by omega) (show a1.toInt ≤ 12 by omega) (show (-1) ≤ a3.toInt by omega) (show a3.toInt ≤ 102119 by omega) (show 1991 ≤ a4.toInt by omega) (show a4.toInt ≤ 101999 by omega) (show 0 ≤ v25_6.toInt by omega) (show v25_6.toInt ≤ 4249 by omega) (show 0 ≤ v56_7.toInt by omega) (show v56_7.toInt ≤ 16777215 by omega) (show 0 ≤ x42.toInt by omega) (show x42.toInt ≤ 24 by omega) (show (24 - x42.toInt).toNat < n56 by omega) hw hT hF  (lv_sub hl [1, 2, 3, 4, 5, 6, 7, 8, 0] rfl)
              · have c41 : ¬ x40.toInt = (0 : Int) := wk_eqF c41
                refine lv_iload hx hb dX7_firstOpen_78 (lv_at hl 6 rfl) ?_
                refine lv_bipush (v := 24) hx hb dX7_firstOpen_80 (by decide) ?_
                refine lv_imul hx hb dX7_firstOpen_82 ?_
                refine lv_topi (fun x43 ex43 => ?_)
                have ex43 : x43.toInt = v25_6.toInt * (24 : Int) := by rw [ex43]; exact wk_mul (show (-2147483648) ≤ v25_6.toInt * (24 : Int) by omega) (show v25_6.toInt * (24 : Int) ≤ 2147483647 by omega)
                refine lv_iload hx hb dX7_firstOpen_83 (lv_at hl 8 rfl) ?_
                refine lv_iadd hx hb dX7_firstOpen_85 ?_
                refine lv_topi (fun x44 ex44 => ?_)
                have ex44 : x44.toInt = x43.toInt + v56_8.toInt := by rw [ex44]; exact wk_add (show (-2147483648) ≤ x43.toInt + v56_8.toInt by omega) (show x43.toInt + v56_8.toInt ≤ 2147483647 by omega)
                refine lv_istore (lv' := [(9, .int x44), (0, .ref (ad 39)), (1, .int a1), (2, .int 1), (3, .int a3), (4, .int a4), (5, .int (-1)), (6, .int v25_6), (7, .int v56_7), (8, .int v56_8)]) hx hb dX7_firstOpen_86 hl (by decide) rfl (fun ls hl => ?_)
                refine lv_iload hx hb dX7_firstOpen_88 (lv_at hl 0 rfl) ?_
                refine lv_iload hx hb dX7_firstOpen_90 (lv_at hl 5 rfl) ?_
                refine lv_icmp_gt (tgt := 100) hx hb dX7_firstOpen_92 (by decide) (fun c45 => ?_) (fun c45 => ?_)
                · have c45 : a4.toInt < x44.toInt := wk_lt.mp c45
                  refine lv_iconst (v := (-1)) hx hb dX7_firstOpen_100 (by decide) ?_
                  exact tk_iret hC hr hlocks hK ⟨hT, hF, (Or.inr rfl)⟩ hw dX7_firstOpen_101
                · have c45 : x44.toInt ≤ a4.toInt := wk_ltF c45
                  refine lv_iload hx hb dX7_firstOpen_95 (lv_at hl 0 rfl) ?_
                  refine lv_goto (tgt := 101) hx hb dX7_firstOpen_97 (by decide) ?_
                  exact tk_iret hC hr hlocks hK ⟨hT, hF, (Or.inl ⟨(show 0 ≤ x44.toInt by omega), (show x44.toInt ≤ 101999 by omega)⟩)⟩ hw dX7_firstOpen_101
      refine lv_iload hx hb dX7_firstOpen_25 (lv_at hl 6 rfl) ?_
      refine lv_bipush (v := 24) hx hb dX7_firstOpen_27 (by decide) ?_
      refine lv_imul hx hb dX7_firstOpen_29 ?_
      refine lv_topi (fun x46 ex46 => ?_)
      have ex46 : x46.toInt = v25_6.toInt * (24 : Int) := by rw [ex46]; exact wk_mul (show (-2147483648) ≤ v25_6.toInt * (24 : Int) by omega) (show v25_6.toInt * (24 : Int) ≤ 2147483647 by omega)
      refine lv_iload hx hb dX7_firstOpen_30 (lv_at hl 4 rfl) ?_
      refine lv_icmp_gt (tgt := 114) hx hb dX7_firstOpen_32 (by decide) (fun c47 => ?_) (fun c47 => ?_)
      · have c47 : a4.toInt < x46.toInt := wk_lt.mp c47
        refine lv_iconst (v := (-1)) hx hb dX7_firstOpen_114 (by decide) ?_
        exact tk_iret hC hr hlocks hK ⟨hT, hF, (Or.inr rfl)⟩ hw dX7_firstOpen_115
      · have c47 : x46.toInt ≤ a4.toInt := wk_ltF c47
        refine lv_aload_n hx hb dX7_firstOpen_35 rfl (lv_at hl 0 rfl) ?_
        refine lv_iload_n hx hb dX7_firstOpen_36 rfl (lv_at hl 1 rfl) ?_
        refine lv_iload_n hx hb dX7_firstOpen_37 rfl (lv_at hl 2 rfl) ?_
        refine lv_iload hx hb dX7_firstOpen_38 (lv_at hl 6 rfl) ?_
        refine lv_i2l hx hb dX7_firstOpen_40 rfl ?_
        refine lv_topl (fun x48 ex48 => ?_)
        have ex48 : x48.toInt = v25_6.toInt := by rw [ex48]; exact wk_i2l _
        have bx48 := wk_i32 v25_6
        refine lv_iconst (v := 1) hx hb dX7_firstOpen_41 (by decide) ?_
        refine tk_Vi hC hK hw hT hA hE hSR kC_at39 (by decide) rfl (k_X7_openHours_10 l adK adV dC dI cy ad B (by omega) (by omega) qr s1   a1 (show 0 ≤ a1.toInt by omega) (show a1.toInt ≤ 12 by omega) x48 (show 0 ≤ x48.toInt by omega) (show x48.toInt ≤ 4249 by omega) w1 H.size hT ) (cwV 4 hC.2.2.2.2 gX7_firstOpen_X7_openHours rfl rfl rfl (by decide +kernel) ⟨Nat.le_of_ble_eq_true rfl, Nat.le_of_ble_eq_true rfl⟩) rfl hl.1 rfl (Nat.le_of_ble_eq_true rfl) dX7_firstOpen_42 (fun r49 w51 H locs hp50 hw => ?_)
        obtain ⟨hT, k52, hg55⟩ := hp50
        have hF := hF.tr k52 (by decide)
        obtain ⟨g53, g54⟩ := hg55
        refine lv_iload hx hb dX7_firstOpen_45 (lv_at hl 5 rfl) ?_
        refine lv_iand hx hb dX7_firstOpen_47 ?_
        refine lv_topi (fun x56 ex56 => ?_)
        have bx56 : 0 ≤ x56.toInt ∧ x56.toInt ≤ r49.toInt := by rw [ex56]; exact wk_andC (by omega)
        refine lv_istore (lv' := [(7, .int x56), (0, .ref (ad 39)), (1, .int a1), (2, .int 1), (3, .int a3), (4, .int a4), (5, .int v25_5), (6, .int v25_6)]) hx hb dX7_firstOpen_48 hl (by decide) rfl (fun ls hl => ?_)
        refine lv_iconst (v := (-1)) hx hb dX7_firstOpen_50 (by decide) ?_
        refine lv_istore (lv' := [(5, .int (-1)), (7, .int x56), (0, .ref (ad 39)), (1, .int a1), (2, .int 1), (3, .int a3), (4, .int a4), (6, .int v25_6)]) hx hb dX7_firstOpen_51 hl (by decide) rfl (fun ls hl => ?_)
        refine lv_iconst (v := 0) hx hb dX7_firstOpen_53 (by decide) ?_
        refine lv_istore (lv' := [(8, .int 0), (5, .int (-1)), (7, .int x56), (0, .ref (ad 39)), (1, .int a1), (2, .int 1), (3, .int a3), (4, .int a4), (6, .int v25_6)]) hx hb dX7_firstOpen_54 hl (by decide) rfl (fun ls hl => ?_)
        exact L56 ((24 - (0 : Int)).toNat + 1) x56 0 H locs ls w51 (show 0 ≤ a1.toInt by omega) (show a1.toInt ≤ 12 by omega) (show (-1) ≤ a3.toInt by omega) (show a3.toInt ≤ 102119 by omega) (show 1991 ≤ a4.toInt by omega) (show a4.toInt ≤ 101999 by omega) (show 0 ≤ v25_6.toInt by omega) (show v25_6.toInt ≤ 4249 by omega) (show 0 ≤ x56.toInt by omega) (show x56.toInt ≤ 16777215 by omega) (by decide) (by decide) (Nat.lt_succ_self _) hw hT hF  (lv_sub hl [3, 4, 5, 6, 7, 1, 8, 2, 0] rfl)
  refine lv_aload_n hx hb dX7_firstOpen_0 rfl (lv_at hl 0 rfl) ?_
  refine lv_iload_n hx hb dX7_firstOpen_1 rfl (lv_at hl 1 rfl) ?_
  refine lv_iload_n hx hb dX7_firstOpen_2 rfl (lv_at hl 2 rfl) ?_
  refine tk_Vi hC hK hw hT hA hE hSR kC_at39 (by decide) rfl (k_X7_isNeverOpen_4 l adK adV dC dI cy ad B (by omega) (by omega) qr s1   a1 (show 0 ≤ a1.toInt by omega) (show a1.toInt ≤ 12 by omega) w0 s.heap.size hT ) (cwV 2 hC.2.2.2.2 gX7_firstOpen_X7_isNeverOpen rfl rfl rfl (by decide +kernel) ⟨Nat.le_of_ble_eq_true rfl, Nat.le_of_ble_eq_true rfl⟩) rfl hl.1 rfl (Nat.le_of_ble_eq_true rfl) dX7_firstOpen_3 (fun r57 w59 H locs hp58 hw => ?_)
  obtain ⟨hT, k60, hg61⟩ := hp58
  have hF := hF.tr k60 (by decide)
  rcases hg61 with rfl | rfl
  · refine lv_if_eq (tgt := 11) hx hb dX7_firstOpen_6 (by decide) (fun _ => ?_) (fun c => absurd (by decide) c)
    refine lv_iconst (v := (-1)) hx hb dX7_firstOpen_11 (by decide) ?_
    refine lv_iload_n hx hb dX7_firstOpen_12 rfl (lv_at hl 3 rfl) ?_
    refine lv_bipush (v := 24) hx hb dX7_firstOpen_13 (by decide) ?_
    refine lv_irem hx hb dX7_firstOpen_15 (by decide) ?_
    refine lv_topi (fun x62 ex62 => ?_)
    refine lv_ishl hx hb dX7_firstOpen_16 ?_
    refine lv_topi (fun x63 ex63 => ?_)
    refine lv_istore (lv' := [(5, .int x63), (0, .ref (ad 39)), (1, .int a1), (2, .int 1), (3, .int a3), (4, .int a4)]) hx hb dX7_firstOpen_17 hl (by decide) rfl (fun ls hl => ?_)
    refine lv_iload_n hx hb dX7_firstOpen_19 rfl (lv_at hl 4 rfl) ?_
    refine lv_bipush (v := 24) hx hb dX7_firstOpen_20 (by decide) ?_
    refine lv_idiv hx hb dX7_firstOpen_22 (by decide) ?_
    refine lv_topi (fun x64 ex64 => ?_)
    have bx64 : -(1 / (24 : Int)) ≤ x64.toInt ∧ x64.toInt ≤ 102119 / (24 : Int) := by rw [ex64]; exact wk_divB (m := 1) (n := 102119) (show 0 < (24 : Int) by decide) (by decide) (by decide) (by omega) (by omega)
    refine lv_istore (lv' := [(6, .int x64), (5, .int x63), (0, .ref (ad 39)), (1, .int a1), (2, .int 1), (3, .int a3), (4, .int a4)]) hx hb dX7_firstOpen_23 hl (by decide) rfl (fun ls hl => ?_)
    exact L25 ((4254 - x64.toInt).toNat + 1) x63 x64 H locs ls w59 (show 0 ≤ a1.toInt by omega) (show a1.toInt ≤ 12 by omega) (show (-1) ≤ a3.toInt by omega) (show a3.toInt ≤ 102119 by omega) (show 1991 ≤ a4.toInt by omega) (show a4.toInt ≤ 101999 by omega) (show 0 ≤ x64.toInt by omega) (show x64.toInt ≤ 4254 by omega) (Nat.lt_succ_self _) hw hT hF  (lv_sub hl [2, 3, 4, 5, 6, 1, 0] rfl)
  · refine lv_if_eq (tgt := 11) hx hb dX7_firstOpen_6 (by decide) (fun c => absurd c (by decide)) (fun _ => ?_)
    refine lv_iconst (v := (-1)) hx hb dX7_firstOpen_9 (by decide) ?_
    exact tk_iret hC hr hlocks hK ⟨hT, hF, (Or.inr rfl)⟩ hw dX7_firstOpen_10
abbrev P_X4_reachBy_2 (ad : Nat → Nat) (cy : Nat → ClassId) (B : Int) (qr : Nat) (s1 : Int) (a1 : Int32) (a2 : Int32) (a3 : Int32) (w0 : va_W) : va_W → Prop := fun u => TW ksC ad cy B qr s1 u ∧ FE ksC [(48, 0, 10)] w0 u ∧ ((True))
set_option maxHeartbeats 4000000 in
set_option maxRecDepth 100000 in
theorem k_X4_reachBy_2 (l : Launch) (adK adV : Nat → Nat) (dC : Nat → ClassId) (dI : Nat → Nat → Nat) (cy : Nat → ClassId) (ad : Nat → Nat) (B : Int) (hB0 : 2147483648 ≤ B) (hB1 : B ≤ 1152921504606846976) (qr : Nat) (s1 : Int)  (a1 : Int32) (ra1 : 0 ≤ a1.toInt) (ta1 : a1.toInt ≤ 12) (a2 : Int32) (ra2 : 0 ≤ a2.toInt) (ta2 : a2.toInt ≤ 9) (a3 : Int32) (ra3 : 2000 ≤ a3.toInt) (ta3 : a3.toInt ≤ 101999) (w0 : va_W) (sz : Nat) (hT : TW ksC ad cy B qr s1 w0)  : Met l yX4_reachBy wsX4_reachBy ({ frames := 3, cells := 0, slots := 0, locals := 68 }) (va_Pc [.ref (ad 155), .int a1, .int a2, .int a3] (wpreS adK adV dC dI cy sz w0)) (va_Qv (P_X4_reachBy_2 ad cy B qr s1 a1 a2 a3 w0) (fun u : va_W => wpost dC dI cy (va_A w0 sz) u) (va_A w0 sz)) 0 0 (va_A w0 sz) := by
  refine Met.ofW (cc := cX4_reachBy) (maxL := 8) (ret := none) (by decide) rfl ?_
  intro p e s m args below meth c s₁ Bk hml hv
  obtain ⟨rfl, ⟨hsz, hP, hK, hD0⟩, hE, hSR⟩ := hv
  have hx := Bk.exec
  have hb := Bk.bytes
  have hr := Bk.returns
  have hlocks := Bk.notSynchronized
  have hC : CallFix p m c cX4_reachBy 8 s _ wsX4_reachBy RX4 := ⟨hx, hb, hml, findClass_of_methodNamed Bk.named, atoms_spec (ws := wsX4_reachBy) Bk.pre⟩
  subst hsz
  have hD := hD0.self (sz := s.heap.size)
  generalize hAe : va_A w0 s.heap.size = A at hD hE ⊢
  have hA : ∀ q : Nat, s.heap.size ≤ q → A q := fun q h => by rw [← hAe]; exact Or.inr h
  have hw : Wd dC dI A s.heap s.heap [] w0 := ⟨hP, hD, va_S.rf⟩
  have hF : FE ksC [(48, 0, 10)] w0 w0 := FE.rf
  have hl := lv_entry ([.ref (ad 155), .int a1, .int a2, .int a3]) (n := 8) (Nat.le_of_ble_eq_true rfl)
  rw [lg_entry_eq]
  generalize (lg_sl ([.ref (ad 155), .int a1, .int a2, .int a3]) ++ List.replicate (8 - (lg_sl ([.ref (ad 155), .int a1, .int a2, .int a3])).length) Slot.unset).toArray = ls at hl ⊢
  have hl : lv_has ls 8 [(0, .ref (ad 155)), (1, .int a1), (2, .int a2), (3, .int a3)] := hl
  generalize hloc : ([] : List Loc) = locs at hw ⊢
  have hinX4 : ∀ w ∈ u_ws RX4 TX4 4, w ∈ wsX4_reachBy := fun _ h => List.mem_cons_of_mem _ (List.mem_append_left _ (List.mem_append_right _ (h)))
  have hinX7 : ∀ w ∈ u_ws RX7 TX7 12, w ∈ wsX4_reachBy := fun _ h => List.mem_cons_of_mem _ (List.mem_append_right _ (h))
  have J35 : ∀ (v35_4 : Int32) (H : Heap) (locs : List Loc) (ls : Array Slot) (w1 : va_W), 0 ≤ a1.toInt → a1.toInt ≤ 12 → 0 ≤ a2.toInt → a2.toInt ≤ 9 → 2000 ≤ a3.toInt → a3.toInt ≤ 101999 → (-1) ≤ v35_4.toInt → v35_4.toInt ≤ 1 → Wd dC dI A s.heap H locs w1 → TW ksC ad cy B qr s1 w1 → FE ksC [(48, 0, 10)] w0 w1 → lv_has ls 8 [(0, .ref (ad 155)), (1, .int a1), (2, .int a2), (3, .int a3), (4, .int v35_4)] → W p l e ({ frames := 3, cells := 0, slots := 0, locals := 68 }) s m (List.toArray [.ref (ad 155), .int a1, .int a2, .int a3]) below meth c H locs 0 0 (MQ below (va_Qv (P_X4_reachBy_2 ad cy B qr s1 a1 a2 a3 w0) (fun u : va_W => wpost dC dI cy A u) A) (List.toArray [.ref (ad 155), .int a1, .int a2, .int a3]) s 0 0 A) (F0 m 35 ls []) := by
    intro v35_4 H locs ls w1 r2 t3 r4 t5 r6 t7 r8 t9 hw hT hF hl
    exact tk_vret hC hr hlocks hK ⟨hT, hF, trivial⟩ hw dX4_reachBy_35
  have J125 : ∀ (v125_4 : Int32) (v125_5 : Int32) (v125_6 : Int32) (v125_7 : Int32) (H : Heap) (locs : List Loc) (ls : Array Slot) (w10 : va_W), 0 ≤ a1.toInt → a1.toInt ≤ 12 → 0 ≤ a2.toInt → a2.toInt ≤ 9 → 2000 ≤ a3.toInt → a3.toInt ≤ 101999 → 0 ≤ v125_4.toInt → v125_4.toInt ≤ 1 → 0 ≤ v125_5.toInt → v125_5.toInt ≤ 9 → 0 ≤ v125_6.toInt → v125_6.toInt ≤ 9 → (-1) ≤ v125_7.toInt → v125_7.toInt ≤ 101999 → Wd dC dI A s.heap H locs w10 → TW ksC ad cy B qr s1 w10 → FE ksC [(48, 0, 10)] w0 w10 → lv_has ls 8 [(0, .ref (ad 155)), (1, .int a1), (2, .int a2), (3, .int a3), (4, .int v125_4), (5, .int v125_5), (6, .int v125_6), (7, .int v125_7)] → W p l e ({ frames := 3, cells := 0, slots := 0, locals := 68 }) s m (List.toArray [.ref (ad 155), .int a1, .int a2, .int a3]) below meth c H locs 0 0 (MQ below (va_Qv (P_X4_reachBy_2 ad cy B qr s1 a1 a2 a3 w0) (fun u : va_W => wpost dC dI cy A u) A) (List.toArray [.ref (ad 155), .int a1, .int a2, .int a3]) s 0 0 A) (F0 m 125 ls []) := by
    intro v125_4 v125_5 v125_6 v125_7 H locs ls w10 r11 t12 r13 t14 r15 t16 r17 t18 r19 t20 r21 t22 r23 t24 hw hT hF hl
    exact tk_vret hC hr hlocks hK ⟨hT, hF, trivial⟩ hw dX4_reachBy_125
  have J113 : ∀ (v113_4 : Int32) (v113_5 : Int32) (v113_6 : Int32) (v113_7 : Int32) (H : Heap) (locs : List Loc) (ls : Array Slot) (w25 : va_W), 0 ≤ a1.toInt → a1.toInt ≤ 12 → 0 ≤ a2.toInt → a2.toInt ≤ 9 → 2000 ≤ a3.toInt → a3.toInt ≤ 101999 → 0 ≤ v113_4.toInt → v113_4.toInt ≤ 1 → 0 ≤ v113_5.toInt → v113_5.toInt ≤ 9 → 0 ≤ v113_6.toInt → v113_6.toInt ≤ 9 → 0 ≤ v113_7.toInt → v113_7.toInt ≤ 101999 → Wd dC dI A s.heap H locs w25 → TW ksC ad cy B qr s1 w25 → FE ksC [(48, 0, 10)] w0 w25 → lv_has ls 8 [(0, .ref (ad 155)), (1, .int a1), (2, .int a2), (3, .int a3), (4, .int v113_4), (5, .int v113_5), (6, .int v113_6), (7, .int v113_7)] → W p l e ({ frames := 3, cells := 0, slots := 0, locals := 68 }) s m (List.toArray [.ref (ad 155), .int a1, .int a2, .int a3]) below meth c H locs 0 0 (MQ below (va_Qv (P_X4_reachBy_2 ad cy B qr s1 a1 a2 a3 w0) (fun u : va_W => wpost dC dI cy A u) A) (List.toArray [.ref (ad 155), .int a1, .int a2, .int a3]) s 0 0 A) (F0 m 113 ls []) := by
    intro v113_4 v113_5 v113_6 v113_7 H locs ls w25 r26 t27 r28 t29 r30 t31 r32 t33 r34 t35 r36 t37 r38 t39 hw hT hF hl
    refine lv_aload_n hx hb dX4_reachBy_113 rfl (lv_at hl 0 rfl) ?_
    refine tk_getA hC hK hw hT hinX4 kC_at155 (by decide) rfl 2 (by decide) (List.mem_of_getElem? (i := 4) rfl) rfl rfl dX4_reachBy_114 ?_
    refine lv_iload hx hb dX4_reachBy_117 (lv_at hl 5 rfl) ?_
    refine lv_iload hx hb dX4_reachBy_119 (lv_at hl 7 rfl) ?_
    refine lv_iload hx hb dX4_reachBy_121 (lv_at hl 6 rfl) ?_
    refine lv_iadd hx hb dX4_reachBy_123 ?_
    refine lv_topi (fun x40 ex40 => ?_)
    have ex40 : x40.toInt = v113_7.toInt + v113_6.toInt := by rw [ex40]; exact wk_add (show (-2147483648) ≤ v113_7.toInt + v113_6.toInt by omega) (show v113_7.toInt + v113_6.toInt ≤ 2147483647 by omega)
    refine tk_iast hC hK hw hT kC_at156 (by decide) rfl rfl (show 0 ≤ v113_5.toInt by omega) (show v113_5.toInt < 10 by omega) (show (-1) ≤ x40.toInt by omega) (show x40.toInt ≤ 102119 by omega) dX4_reachBy_124 (fun H locs w41 hw hT k43 c42 => ?_)
    have hF := hF.put kC_at156 (inE_of (a := 0) (b := 10) (by decide) (show 0 ≤ v113_5.toInt.toNat by omega) (show v113_5.toInt.toNat ≤ 10 by omega)) k43
    exact J125 v113_4 v113_5 v113_6 v113_7 H locs ls w41 (show 0 ≤ a1.toInt by omega) (show a1.toInt ≤ 12 by omega) (show 0 ≤ a2.toInt by omega) (show a2.toInt ≤ 9 by omega) (show 2000 ≤ a3.toInt by omega) (show a3.toInt ≤ 101999 by omega) (show 0 ≤ v113_4.toInt by omega) (show v113_4.toInt ≤ 1 by omega) (show 0 ≤ v113_5.toInt by omega) (show v113_5.toInt ≤ 9 by omega) (show 0 ≤ v113_6.toInt by omega) (show v113_6.toInt ≤ 9 by omega) (show (-1) ≤ v113_7.toInt by omega) (show v113_7.toInt ≤ 101999 by omega)  hw hT hF  (lv_sub hl [0, 1, 2, 3, 4, 5, 6, 7] rfl)
  refine lv_aload_n hx hb dX4_reachBy_0 rfl (lv_at hl 0 rfl) ?_
  refine tk_getA hC hK hw hT hinX4 kC_at155 (by decide) rfl 1 (by decide) (List.mem_of_getElem? (i := 1) rfl) rfl rfl dX4_reachBy_1 ?_
  refine lv_iload_n hx hb dX4_reachBy_4 rfl (lv_at hl 1 rfl) ?_
  refine lv_iload_n hx hb dX4_reachBy_5 rfl (lv_at hl 2 rfl) ?_
  refine tk_Vi hC hK hw hT hA hE hSR kC_at39 (by decide) rfl (k_X7_sideOf_4 l adK adV dC dI cy ad B (by omega) (by omega) qr s1   a1 (show 0 ≤ a1.toInt by omega) (show a1.toInt ≤ 12 by omega) a2 (show 0 ≤ a2.toInt by omega) (show a2.toInt ≤ 9 by omega) w0 s.heap.size hT ) (cwV 2 hC.2.2.2.2 gX4_reachBy_X7_sideOf rfl rfl rfl (by decide +kernel) ⟨Nat.le_of_ble_eq_true rfl, Nat.le_of_ble_eq_true rfl⟩) rfl hl.1 rfl (Nat.le_of_ble_eq_true rfl) dX4_reachBy_6 (fun r44 w46 H locs hp45 hw => ?_)
  obtain ⟨hT, k47, hg50⟩ := hp45
  have hF := hF.tr k47 (by decide)
  rcases hg50 with rfl | ⟨rfl, c48⟩ | ⟨rfl, c49⟩
  · refine lv_istore (lv' := [(4, .int (-1)), (0, .ref (ad 155)), (1, .int a1), (2, .int a2), (3, .int a3)]) hx hb dX4_reachBy_9 hl (by decide) rfl (fun ls hl => ?_)
    refine lv_iload hx hb dX4_reachBy_11 (lv_at hl 0 rfl) ?_
    refine lv_iconst (v := (-1)) hx hb dX4_reachBy_13 (by decide) ?_
    refine lv_icmp_eq (tgt := 35) hx hb dX4_reachBy_14 (by decide) (fun _ => ?_) (fun c => absurd (by decide) c)
    exact J35 (-1) H locs ls w46 (show 0 ≤ a1.toInt by omega) (show a1.toInt ≤ 12 by omega) (show 0 ≤ a2.toInt by omega) (show a2.toInt ≤ 9 by omega) (show 2000 ≤ a3.toInt by omega) (show a3.toInt ≤ 101999 by omega) (by decide) (by decide)  hw hT hF  (lv_sub hl [1, 2, 3, 4, 0] rfl)
  · refine lv_istore (lv' := [(4, .int 0), (0, .ref (ad 155)), (1, .int a1), (2, .int a2), (3, .int a3)]) hx hb dX4_reachBy_9 hl (by decide) rfl (fun ls hl => ?_)
    refine lv_iload hx hb dX4_reachBy_11 (lv_at hl 0 rfl) ?_
    refine lv_iconst (v := (-1)) hx hb dX4_reachBy_13 (by decide) ?_
    refine lv_icmp_eq (tgt := 35) hx hb dX4_reachBy_14 (by decide) (fun c => absurd c (by decide)) (fun _ => ?_)
    refine lv_aload_n hx hb dX4_reachBy_17 rfl (lv_at hl 1 rfl) ?_
    refine tk_getA hC hK hw hT hinX4 kC_at155 (by decide) rfl 3 (by decide) (List.mem_of_getElem? (i := 2) rfl) rfl rfl dX4_reachBy_18 ?_
    refine lv_aload_n hx hb dX4_reachBy_21 rfl (lv_at hl 1 rfl) ?_
    refine tk_getA hC hK hw hT hinX4 kC_at155 (by decide) rfl 1 (by decide) (List.mem_of_getElem? (i := 1) rfl) rfl rfl dX4_reachBy_22 ?_
    refine lv_iload_n hx hb dX4_reachBy_25 rfl (lv_at hl 2 rfl) ?_
    refine lv_iload hx hb dX4_reachBy_26 (lv_at hl 0 rfl) ?_
    refine tk_Vi hC hK hw hT hA hE hSR kC_at39 (by decide) rfl (k_X7_cornerAcross_4 l adK adV dC dI cy ad B (by omega) (by omega) qr s1   a1 (show 0 ≤ a1.toInt by omega) (show a1.toInt ≤ 12 by omega) w46 H.size hT ) (cwV 2 hC.2.2.2.2 gX4_reachBy_X7_cornerAcross rfl rfl rfl (by decide +kernel) ⟨Nat.le_of_ble_eq_true rfl, Nat.le_of_ble_eq_true rfl⟩) rfl hl.1 rfl (Nat.le_of_ble_eq_true rfl) dX4_reachBy_28 (fun r51 w53 H locs hp52 hw => ?_)
    obtain ⟨hT, k54, hg57⟩ := hp52
    have hF := hF.tr k54 (by decide)
    have c58 := k54.gi kC_at40 rfl c48
    obtain ⟨g55, g56⟩ := hg57
    refine tk_zald hC hK hw hT kC_at157 rfl rfl (show 0 ≤ r51.toInt by omega) (show r51.toInt < 10 by omega) dX4_reachBy_31 (fun x59 c60 rx59 tx59 => ?_)
    refine lv_if_eq (tgt := 36) hx hb dX4_reachBy_32 (by decide) (fun c61 => ?_) (fun c61 => ?_)
    · have c61 : x59.toInt = (0 : Int) := wk_eq.mp c61
      refine lv_aload_n hx hb dX4_reachBy_36 rfl (lv_at hl 1 rfl) ?_
      refine tk_getA hC hK hw hT hinX4 kC_at155 (by decide) rfl 1 (by decide) (List.mem_of_getElem? (i := 1) rfl) rfl rfl dX4_reachBy_37 ?_
      refine lv_iload_n hx hb dX4_reachBy_40 rfl (lv_at hl 2 rfl) ?_
      refine lv_iload hx hb dX4_reachBy_41 (lv_at hl 0 rfl) ?_
      refine tk_Vi hC hK hw hT hA hE hSR kC_at39 (by decide) rfl (k_X7_cornerAcross_4 l adK adV dC dI cy ad B (by omega) (by omega) qr s1   a1 (show 0 ≤ a1.toInt by omega) (show a1.toInt ≤ 12 by omega) w53 H.size hT ) (cwV 2 hC.2.2.2.2 gX4_reachBy_X7_cornerAcross rfl rfl rfl (by decide +kernel) ⟨Nat.le_of_ble_eq_true rfl, Nat.le_of_ble_eq_true rfl⟩) rfl hl.1 rfl (Nat.le_of_ble_eq_true rfl) dX4_reachBy_43 (fun r62 w64 H locs hp63 hw => ?_)
      obtain ⟨hT, k65, hg68⟩ := hp63
      have hF := hF.tr k65 (by decide)
      have c69 := k65.gi kC_at40 rfl c58
      obtain ⟨g66, g67⟩ := hg68
      refine lv_istore (lv' := [(5, .int r62), (4, .int 0), (0, .ref (ad 155)), (1, .int a1), (2, .int a2), (3, .int a3)]) hx hb dX4_reachBy_46 hl (by decide) rfl (fun ls hl => ?_)
      refine lv_aload_n hx hb dX4_reachBy_48 rfl (lv_at hl 2 rfl) ?_
      refine tk_getA hC hK hw hT hinX4 kC_at155 (by decide) rfl 1 (by decide) (List.mem_of_getElem? (i := 1) rfl) rfl rfl dX4_reachBy_49 ?_
      refine tk_getO hC hK hw hT hinX7 kC_at39 (by decide) rfl 1 (by decide) (List.mem_of_getElem? (i := 3) rfl) rfl rfl dX4_reachBy_52 ?_
      refine lv_iload_n hx hb dX4_reachBy_55 rfl (lv_at hl 3 rfl) ?_
      refine tk_iald hC hK hw hT kC_at41 rfl rfl (show 0 ≤ a1.toInt by omega) (show a1.toInt < 13 by omega) dX4_reachBy_56 (fun x70 c71 rx70 tx70 => ?_)
      refine lv_istore (lv' := [(6, .int x70), (5, .int r62), (4, .int 0), (0, .ref (ad 155)), (1, .int a1), (2, .int a2), (3, .int a3)]) hx hb dX4_reachBy_57 hl (by decide) rfl (fun ls hl => ?_)
      refine lv_aload_n hx hb dX4_reachBy_59 rfl (lv_at hl 3 rfl) ?_
      refine tk_getA hC hK hw hT hinX4 kC_at155 (by decide) rfl 1 (by decide) (List.mem_of_getElem? (i := 1) rfl) rfl rfl dX4_reachBy_60 ?_
      refine lv_iload_n hx hb dX4_reachBy_63 rfl (lv_at hl 4 rfl) ?_
      refine lv_iload hx hb dX4_reachBy_64 (lv_at hl 2 rfl) ?_
      refine lv_aload_n hx hb dX4_reachBy_66 rfl (lv_at hl 3 rfl) ?_
      refine tk_getA hC hK hw hT hinX4 kC_at155 (by decide) rfl 2 (by decide) (List.mem_of_getElem? (i := 4) rfl) rfl rfl dX4_reachBy_67 ?_
      refine lv_iload_n hx hb dX4_reachBy_70 rfl (lv_at hl 5 rfl) ?_
      refine tk_iald hC hK hw hT kC_at156 rfl rfl (show 0 ≤ a2.toInt by omega) (show a2.toInt < 10 by omega) dX4_reachBy_71 (fun x72 c73 rx72 tx72 => ?_)
      refine lv_iload_n hx hb dX4_reachBy_72 rfl (lv_at hl 6 rfl) ?_
      refine lv_iload hx hb dX4_reachBy_73 (lv_at hl 0 rfl) ?_
      refine lv_isub hx hb dX4_reachBy_75 ?_
      refine lv_topi (fun x74 ex74 => ?_)
      have ex74 : x74.toInt = a3.toInt - x70.toInt := by rw [ex74]; exact wk_sub (show (-2147483648) ≤ a3.toInt - x70.toInt by omega) (show a3.toInt - x70.toInt ≤ 2147483647 by omega)
      refine tk_Vi hC hK hw hT hA hE hSR kC_at39 (by decide) rfl (k_X7_firstOpen_3 l adK adV dC dI cy ad B (by omega) (by omega) qr s1   a1 (show 0 ≤ a1.toInt by omega) (show a1.toInt ≤ 12 by omega) x72 (show (-1) ≤ x72.toInt by omega) (show x72.toInt ≤ 102119 by omega) x74 (show 1991 ≤ x74.toInt by omega) (show x74.toInt ≤ 101999 by omega) w64 H.size hT ) (cwV 4 hC.2.2.2.2 gX4_reachBy_X7_firstOpen rfl rfl rfl (by decide +kernel) ⟨Nat.le_of_ble_eq_true rfl, Nat.le_of_ble_eq_true rfl⟩) rfl hl.1 rfl (Nat.le_of_ble_eq_true rfl) dX4_reachBy_76 (fun r75 w77 H locs hp76 hw => ?_)
      obtain ⟨hT, k78, hg81⟩ := hp76
      have hF := hF.tr k78 (by decide)
      have c82 := k78.gi kC_at40 rfl c69
      rcases hg81 with ⟨g79, g80⟩ | rfl
      · refine lv_istore (lv' := [(7, .int r75), (6, .int x70), (5, .int r62), (4, .int 0), (0, .ref (ad 155)), (1, .int a1), (2, .int a2), (3, .int a3)]) hx hb dX4_reachBy_79 hl (by decide) rfl (fun ls hl => ?_)
        refine lv_iload hx hb dX4_reachBy_81 (lv_at hl 0 rfl) ?_
        refine lv_iconst (v := (-1)) hx hb dX4_reachBy_83 (by decide) ?_
        refine lv_icmp_eq (tgt := 125) hx hb dX4_reachBy_84 (by decide) (fun c => absurd c (fun h => absurd (show r75.toInt = (-1 : Int) from wk_eq.mp h) (by omega))) (fun _ => ?_)
        refine lv_aload_n hx hb dX4_reachBy_87 rfl (lv_at hl 4 rfl) ?_
        refine tk_getA hC hK hw hT hinX4 kC_at155 (by decide) rfl 2 (by decide) (List.mem_of_getElem? (i := 4) rfl) rfl rfl dX4_reachBy_88 ?_
        refine lv_iload hx hb dX4_reachBy_91 (lv_at hl 2 rfl) ?_
        refine tk_iald hC hK hw hT kC_at156 rfl rfl (show 0 ≤ r62.toInt by omega) (show r62.toInt < 10 by omega) dX4_reachBy_93 (fun x83 c84 rx83 tx83 => ?_)
        refine lv_iconst (v := (-1)) hx hb dX4_reachBy_94 (by decide) ?_
        refine lv_icmp_eq (tgt := 113) hx hb dX4_reachBy_95 (by decide) (fun c85 => ?_) (fun c85 => ?_)
        · have c85 : x83.toInt = (-1 : Int) := wk_eq.mp c85
          exact J113 0 r62 x70 r75 H locs ls w77 (show 0 ≤ a1.toInt by omega) (show a1.toInt ≤ 12 by omega) (show 0 ≤ a2.toInt by omega) (show a2.toInt ≤ 9 by omega) (show 2000 ≤ a3.toInt by omega) (show a3.toInt ≤ 101999 by omega) (by decide) (by decide) (show 0 ≤ r62.toInt by omega) (show r62.toInt ≤ 9 by omega) (show 0 ≤ x70.toInt by omega) (show x70.toInt ≤ 9 by omega) (show 0 ≤ r75.toInt by omega) (show r75.toInt ≤ 101999 by omega)  hw hT hF  (lv_sub hl [4, 5, 6, 7, 3, 2, 1, 0] rfl)
        · have c85 : ¬ x83.toInt = (-1 : Int) := wk_eqF c85
          refine lv_iload hx hb dX4_reachBy_98 (lv_at hl 0 rfl) ?_
          refine lv_iload hx hb dX4_reachBy_100 (lv_at hl 1 rfl) ?_
          refine lv_iadd hx hb dX4_reachBy_102 ?_
          refine lv_topi (fun x86 ex86 => ?_)
          have ex86 : x86.toInt = r75.toInt + x70.toInt := by rw [ex86]; exact wk_add (show (-2147483648) ≤ r75.toInt + x70.toInt by omega) (show r75.toInt + x70.toInt ≤ 2147483647 by omega)
          refine lv_aload_n hx hb dX4_reachBy_103 rfl (lv_at hl 4 rfl) ?_
          refine tk_getA hC hK hw hT hinX4 kC_at155 (by decide) rfl 2 (by decide) (List.mem_of_getElem? (i := 4) rfl) rfl rfl dX4_reachBy_104 ?_
          refine lv_iload hx hb dX4_reachBy_107 (lv_at hl 2 rfl) ?_
          refine tk_iald hC hK hw hT kC_at156 rfl rfl (show 0 ≤ r62.toInt by omega) (show r62.toInt < 10 by omega) dX4_reachBy_109 (fun x87 c88 rx87 tx87 => ?_)
          refine lv_icmp_ge (tgt := 125) hx hb dX4_reachBy_110 (by decide) (fun c89 => ?_) (fun c89 => ?_)
          · have c89 : x87.toInt ≤ x86.toInt := wk_le.mp c89
            exact J125 0 r62 x70 r75 H locs ls w77 (show 0 ≤ a1.toInt by omega) (show a1.toInt ≤ 12 by omega) (show 0 ≤ a2.toInt by omega) (show a2.toInt ≤ 9 by omega) (show 2000 ≤ a3.toInt by omega) (show a3.toInt ≤ 101999 by omega) (by decide) (by decide) (show 0 ≤ r62.toInt by omega) (show r62.toInt ≤ 9 by omega) (show 0 ≤ x70.toInt by omega) (show x70.toInt ≤ 9 by omega) (show (-1) ≤ r75.toInt by omega) (show r75.toInt ≤ 101999 by omega)  hw hT hF  (lv_sub hl [4, 5, 6, 7, 3, 2, 1, 0] rfl)
          · have c89 : x86.toInt < x87.toInt := wk_leF c89
            exact J113 0 r62 x70 r75 H locs ls w77 (show 0 ≤ a1.toInt by omega) (show a1.toInt ≤ 12 by omega) (show 0 ≤ a2.toInt by omega) (show a2.toInt ≤ 9 by omega) (show 2000 ≤ a3.toInt by omega) (show a3.toInt ≤ 101999 by omega) (by decide) (by decide) (show 0 ≤ r62.toInt by omega) (show r62.toInt ≤ 9 by omega) (show 0 ≤ x70.toInt by omega) (show x70.toInt ≤ 9 by omega) (show 0 ≤ r75.toInt by omega) (show r75.toInt ≤ 101999 by omega)  hw hT hF  (lv_sub hl [4, 5, 6, 7, 3, 2, 1, 0] rfl)
      · refine lv_istore (lv' := [(7, .int (-1)), (6, .int x70), (5, .int r62), (4, .int 0), (0, .ref (ad 155)), (1, .int a1), (2, .int a2), (3, .int a3)]) hx hb dX4_reachBy_79 hl (by decide) rfl (fun ls hl => ?_)
        refine lv_iload hx hb dX4_reachBy_81 (lv_at hl 0 rfl) ?_
        refine lv_iconst (v := (-1)) hx hb dX4_reachBy_83 (by decide) ?_
        refine lv_icmp_eq (tgt := 125) hx hb dX4_reachBy_84 (by decide) (fun _ => ?_) (fun c => absurd (by decide) c)
        exact J125 0 r62 x70 (-1) H locs ls w77 (show 0 ≤ a1.toInt by omega) (show a1.toInt ≤ 12 by omega) (show 0 ≤ a2.toInt by omega) (show a2.toInt ≤ 9 by omega) (show 2000 ≤ a3.toInt by omega) (show a3.toInt ≤ 101999 by omega) (by decide) (by decide) (show 0 ≤ r62.toInt by omega) (show r62.toInt ≤ 9 by omega) (show 0 ≤ x70.toInt by omega) (show x70.toInt ≤ 9 by omega) (by decide) (by decide)  hw hT hF  (lv_sub hl [4, 5, 6, 7, 3, 2, 1, 0] rfl)
    · have c61 : ¬ x59.toInt = (0 : Int) := wk_eqF c61
      exact J35 0 H locs ls w53 (show 0 ≤ a1.toInt by omega) (show a1.toInt ≤ 12 by omega) (show 0 ≤ a2.toInt by omega) (show a2.toInt ≤ 9 by omega) (show 2000 ≤ a3.toInt by omega) (show a3.toInt ≤ 101999 by omega) (by decide) (by decide)  hw hT hF  (lv_sub hl [1, 2, 3, 4, 0] rfl)
  · refine lv_istore (lv' := [(4, .int 1), (0, .ref (ad 155)), (1, .int a1), (2, .int a2), (3, .int a3)]) hx hb dX4_reachBy_9 hl (by decide) rfl (fun ls hl => ?_)
    refine lv_iload hx hb dX4_reachBy_11 (lv_at hl 0 rfl) ?_
    refine lv_iconst (v := (-1)) hx hb dX4_reachBy_13 (by decide) ?_
    refine lv_icmp_eq (tgt := 35) hx hb dX4_reachBy_14 (by decide) (fun c => absurd c (by decide)) (fun _ => ?_)
    refine lv_aload_n hx hb dX4_reachBy_17 rfl (lv_at hl 1 rfl) ?_
    refine tk_getA hC hK hw hT hinX4 kC_at155 (by decide) rfl 3 (by decide) (List.mem_of_getElem? (i := 2) rfl) rfl rfl dX4_reachBy_18 ?_
    refine lv_aload_n hx hb dX4_reachBy_21 rfl (lv_at hl 1 rfl) ?_
    refine tk_getA hC hK hw hT hinX4 kC_at155 (by decide) rfl 1 (by decide) (List.mem_of_getElem? (i := 1) rfl) rfl rfl dX4_reachBy_22 ?_
    refine lv_iload_n hx hb dX4_reachBy_25 rfl (lv_at hl 2 rfl) ?_
    refine lv_iload hx hb dX4_reachBy_26 (lv_at hl 0 rfl) ?_
    refine tk_Vi hC hK hw hT hA hE hSR kC_at39 (by decide) rfl (k_X7_cornerAcross_5 l adK adV dC dI cy ad B (by omega) (by omega) qr s1   a1 (show 0 ≤ a1.toInt by omega) (show a1.toInt ≤ 12 by omega) w46 H.size hT ) (cwV 2 hC.2.2.2.2 gX4_reachBy_X7_cornerAcross rfl rfl rfl (by decide +kernel) ⟨Nat.le_of_ble_eq_true rfl, Nat.le_of_ble_eq_true rfl⟩) rfl hl.1 rfl (Nat.le_of_ble_eq_true rfl) dX4_reachBy_28 (fun r90 w92 H locs hp91 hw => ?_)
    obtain ⟨hT, k93, hg96⟩ := hp91
    have hF := hF.tr k93 (by decide)
    have c97 := k93.gi kC_at40 rfl c49
    obtain ⟨g94, g95⟩ := hg96
    refine tk_zald hC hK hw hT kC_at157 rfl rfl (show 0 ≤ r90.toInt by omega) (show r90.toInt < 10 by omega) dX4_reachBy_31 (fun x98 c99 rx98 tx98 => ?_)
    refine lv_if_eq (tgt := 36) hx hb dX4_reachBy_32 (by decide) (fun c100 => ?_) (fun c100 => ?_)
    · have c100 : x98.toInt = (0 : Int) := wk_eq.mp c100
      refine lv_aload_n hx hb dX4_reachBy_36 rfl (lv_at hl 1 rfl) ?_
      refine tk_getA hC hK hw hT hinX4 kC_at155 (by decide) rfl 1 (by decide) (List.mem_of_getElem? (i := 1) rfl) rfl rfl dX4_reachBy_37 ?_
      refine lv_iload_n hx hb dX4_reachBy_40 rfl (lv_at hl 2 rfl) ?_
      refine lv_iload hx hb dX4_reachBy_41 (lv_at hl 0 rfl) ?_
      refine tk_Vi hC hK hw hT hA hE hSR kC_at39 (by decide) rfl (k_X7_cornerAcross_5 l adK adV dC dI cy ad B (by omega) (by omega) qr s1   a1 (show 0 ≤ a1.toInt by omega) (show a1.toInt ≤ 12 by omega) w92 H.size hT ) (cwV 2 hC.2.2.2.2 gX4_reachBy_X7_cornerAcross rfl rfl rfl (by decide +kernel) ⟨Nat.le_of_ble_eq_true rfl, Nat.le_of_ble_eq_true rfl⟩) rfl hl.1 rfl (Nat.le_of_ble_eq_true rfl) dX4_reachBy_43 (fun r101 w103 H locs hp102 hw => ?_)
      obtain ⟨hT, k104, hg107⟩ := hp102
      have hF := hF.tr k104 (by decide)
      have c108 := k104.gi kC_at40 rfl c97
      obtain ⟨g105, g106⟩ := hg107
      refine lv_istore (lv' := [(5, .int r101), (4, .int 1), (0, .ref (ad 155)), (1, .int a1), (2, .int a2), (3, .int a3)]) hx hb dX4_reachBy_46 hl (by decide) rfl (fun ls hl => ?_)
      refine lv_aload_n hx hb dX4_reachBy_48 rfl (lv_at hl 2 rfl) ?_
      refine tk_getA hC hK hw hT hinX4 kC_at155 (by decide) rfl 1 (by decide) (List.mem_of_getElem? (i := 1) rfl) rfl rfl dX4_reachBy_49 ?_
      refine tk_getO hC hK hw hT hinX7 kC_at39 (by decide) rfl 1 (by decide) (List.mem_of_getElem? (i := 3) rfl) rfl rfl dX4_reachBy_52 ?_
      refine lv_iload_n hx hb dX4_reachBy_55 rfl (lv_at hl 3 rfl) ?_
      refine tk_iald hC hK hw hT kC_at41 rfl rfl (show 0 ≤ a1.toInt by omega) (show a1.toInt < 13 by omega) dX4_reachBy_56 (fun x109 c110 rx109 tx109 => ?_)
      refine lv_istore (lv' := [(6, .int x109), (5, .int r101), (4, .int 1), (0, .ref (ad 155)), (1, .int a1), (2, .int a2), (3, .int a3)]) hx hb dX4_reachBy_57 hl (by decide) rfl (fun ls hl => ?_)
      refine lv_aload_n hx hb dX4_reachBy_59 rfl (lv_at hl 3 rfl) ?_
      refine tk_getA hC hK hw hT hinX4 kC_at155 (by decide) rfl 1 (by decide) (List.mem_of_getElem? (i := 1) rfl) rfl rfl dX4_reachBy_60 ?_
      refine lv_iload_n hx hb dX4_reachBy_63 rfl (lv_at hl 4 rfl) ?_
      refine lv_iload hx hb dX4_reachBy_64 (lv_at hl 2 rfl) ?_
      refine lv_aload_n hx hb dX4_reachBy_66 rfl (lv_at hl 3 rfl) ?_
      refine tk_getA hC hK hw hT hinX4 kC_at155 (by decide) rfl 2 (by decide) (List.mem_of_getElem? (i := 4) rfl) rfl rfl dX4_reachBy_67 ?_
      refine lv_iload_n hx hb dX4_reachBy_70 rfl (lv_at hl 5 rfl) ?_
      refine tk_iald hC hK hw hT kC_at156 rfl rfl (show 0 ≤ a2.toInt by omega) (show a2.toInt < 10 by omega) dX4_reachBy_71 (fun x111 c112 rx111 tx111 => ?_)
      refine lv_iload_n hx hb dX4_reachBy_72 rfl (lv_at hl 6 rfl) ?_
      refine lv_iload hx hb dX4_reachBy_73 (lv_at hl 0 rfl) ?_
      refine lv_isub hx hb dX4_reachBy_75 ?_
      refine lv_topi (fun x113 ex113 => ?_)
      have ex113 : x113.toInt = a3.toInt - x109.toInt := by rw [ex113]; exact wk_sub (show (-2147483648) ≤ a3.toInt - x109.toInt by omega) (show a3.toInt - x109.toInt ≤ 2147483647 by omega)
      refine tk_Vi hC hK hw hT hA hE hSR kC_at39 (by decide) rfl (k_X7_firstOpen_4 l adK adV dC dI cy ad B (by omega) (by omega) qr s1   a1 (show 0 ≤ a1.toInt by omega) (show a1.toInt ≤ 12 by omega) x111 (show (-1) ≤ x111.toInt by omega) (show x111.toInt ≤ 102119 by omega) x113 (show 1991 ≤ x113.toInt by omega) (show x113.toInt ≤ 101999 by omega) w103 H.size hT ) (cwV 4 hC.2.2.2.2 gX4_reachBy_X7_firstOpen rfl rfl rfl (by decide +kernel) ⟨Nat.le_of_ble_eq_true rfl, Nat.le_of_ble_eq_true rfl⟩) rfl hl.1 rfl (Nat.le_of_ble_eq_true rfl) dX4_reachBy_76 (fun r114 w116 H locs hp115 hw => ?_)
      obtain ⟨hT, k117, hg120⟩ := hp115
      have hF := hF.tr k117 (by decide)
      have c121 := k117.gi kC_at40 rfl c108
      rcases hg120 with ⟨g118, g119⟩ | rfl
      · refine lv_istore (lv' := [(7, .int r114), (6, .int x109), (5, .int r101), (4, .int 1), (0, .ref (ad 155)), (1, .int a1), (2, .int a2), (3, .int a3)]) hx hb dX4_reachBy_79 hl (by decide) rfl (fun ls hl => ?_)
        refine lv_iload hx hb dX4_reachBy_81 (lv_at hl 0 rfl) ?_
        refine lv_iconst (v := (-1)) hx hb dX4_reachBy_83 (by decide) ?_
        refine lv_icmp_eq (tgt := 125) hx hb dX4_reachBy_84 (by decide) (fun c => absurd c (fun h => absurd (show r114.toInt = (-1 : Int) from wk_eq.mp h) (by omega))) (fun _ => ?_)
        refine lv_aload_n hx hb dX4_reachBy_87 rfl (lv_at hl 4 rfl) ?_
        refine tk_getA hC hK hw hT hinX4 kC_at155 (by decide) rfl 2 (by decide) (List.mem_of_getElem? (i := 4) rfl) rfl rfl dX4_reachBy_88 ?_
        refine lv_iload hx hb dX4_reachBy_91 (lv_at hl 2 rfl) ?_
        refine tk_iald hC hK hw hT kC_at156 rfl rfl (show 0 ≤ r101.toInt by omega) (show r101.toInt < 10 by omega) dX4_reachBy_93 (fun x122 c123 rx122 tx122 => ?_)
        refine lv_iconst (v := (-1)) hx hb dX4_reachBy_94 (by decide) ?_
        refine lv_icmp_eq (tgt := 113) hx hb dX4_reachBy_95 (by decide) (fun c124 => ?_) (fun c124 => ?_)
        · have c124 : x122.toInt = (-1 : Int) := wk_eq.mp c124
          exact J113 1 r101 x109 r114 H locs ls w116 (show 0 ≤ a1.toInt by omega) (show a1.toInt ≤ 12 by omega) (show 0 ≤ a2.toInt by omega) (show a2.toInt ≤ 9 by omega) (show 2000 ≤ a3.toInt by omega) (show a3.toInt ≤ 101999 by omega) (by decide) (by decide) (show 0 ≤ r101.toInt by omega) (show r101.toInt ≤ 9 by omega) (show 0 ≤ x109.toInt by omega) (show x109.toInt ≤ 9 by omega) (show 0 ≤ r114.toInt by omega) (show r114.toInt ≤ 101999 by omega)  hw hT hF  (lv_sub hl [4, 5, 6, 7, 3, 2, 1, 0] rfl)
        · have c124 : ¬ x122.toInt = (-1 : Int) := wk_eqF c124
          refine lv_iload hx hb dX4_reachBy_98 (lv_at hl 0 rfl) ?_
          refine lv_iload hx hb dX4_reachBy_100 (lv_at hl 1 rfl) ?_
          refine lv_iadd hx hb dX4_reachBy_102 ?_
          refine lv_topi (fun x125 ex125 => ?_)
          have ex125 : x125.toInt = r114.toInt + x109.toInt := by rw [ex125]; exact wk_add (show (-2147483648) ≤ r114.toInt + x109.toInt by omega) (show r114.toInt + x109.toInt ≤ 2147483647 by omega)
          refine lv_aload_n hx hb dX4_reachBy_103 rfl (lv_at hl 4 rfl) ?_
          refine tk_getA hC hK hw hT hinX4 kC_at155 (by decide) rfl 2 (by decide) (List.mem_of_getElem? (i := 4) rfl) rfl rfl dX4_reachBy_104 ?_
          refine lv_iload hx hb dX4_reachBy_107 (lv_at hl 2 rfl) ?_
          refine tk_iald hC hK hw hT kC_at156 rfl rfl (show 0 ≤ r101.toInt by omega) (show r101.toInt < 10 by omega) dX4_reachBy_109 (fun x126 c127 rx126 tx126 => ?_)
          refine lv_icmp_ge (tgt := 125) hx hb dX4_reachBy_110 (by decide) (fun c128 => ?_) (fun c128 => ?_)
          · have c128 : x126.toInt ≤ x125.toInt := wk_le.mp c128
            exact J125 1 r101 x109 r114 H locs ls w116 (show 0 ≤ a1.toInt by omega) (show a1.toInt ≤ 12 by omega) (show 0 ≤ a2.toInt by omega) (show a2.toInt ≤ 9 by omega) (show 2000 ≤ a3.toInt by omega) (show a3.toInt ≤ 101999 by omega) (by decide) (by decide) (show 0 ≤ r101.toInt by omega) (show r101.toInt ≤ 9 by omega) (show 0 ≤ x109.toInt by omega) (show x109.toInt ≤ 9 by omega) (show (-1) ≤ r114.toInt by omega) (show r114.toInt ≤ 101999 by omega)  hw hT hF  (lv_sub hl [4, 5, 6, 7, 3, 2, 1, 0] rfl)
          · have c128 : x125.toInt < x126.toInt := wk_leF c128
            exact J113 1 r101 x109 r114 H locs ls w116 (show 0 ≤ a1.toInt by omega) (show a1.toInt ≤ 12 by omega) (show 0 ≤ a2.toInt by omega) (show a2.toInt ≤ 9 by omega) (show 2000 ≤ a3.toInt by omega) (show a3.toInt ≤ 101999 by omega) (by decide) (by decide) (show 0 ≤ r101.toInt by omega) (show r101.toInt ≤ 9 by omega) (show 0 ≤ x109.toInt by omega) (show x109.toInt ≤ 9 by omega) (show 0 ≤ r114.toInt by omega) (show r114.toInt ≤ 101999 by omega)  hw hT hF  (lv_sub hl [4, 5, 6, 7, 3, 2, 1, 0] rfl)
      · refine lv_istore (lv' := [(7, .int (-1)), (6, .int x109), (5, .int r101), (4, .int 1), (0, .ref (ad 155)), (1, .int a1), (2, .int a2), (3, .int a3)]) hx hb dX4_reachBy_79 hl (by decide) rfl (fun ls hl => ?_)
        refine lv_iload hx hb dX4_reachBy_81 (lv_at hl 0 rfl) ?_
        refine lv_iconst (v := (-1)) hx hb dX4_reachBy_83 (by decide) ?_
        refine lv_icmp_eq (tgt := 125) hx hb dX4_reachBy_84 (by decide) (fun _ => ?_) (fun c => absurd (by decide) c)
        exact J125 1 r101 x109 (-1) H locs ls w116 (show 0 ≤ a1.toInt by omega) (show a1.toInt ≤ 12 by omega) (show 0 ≤ a2.toInt by omega) (show a2.toInt ≤ 9 by omega) (show 2000 ≤ a3.toInt by omega) (show a3.toInt ≤ 101999 by omega) (by decide) (by decide) (show 0 ≤ r101.toInt by omega) (show r101.toInt ≤ 9 by omega) (show 0 ≤ x109.toInt by omega) (show x109.toInt ≤ 9 by omega) (by decide) (by decide)  hw hT hF  (lv_sub hl [4, 5, 6, 7, 3, 2, 1, 0] rfl)
    · have c100 : ¬ x98.toInt = (0 : Int) := wk_eqF c100
      exact J35 1 H locs ls w92 (show 0 ≤ a1.toInt by omega) (show a1.toInt ≤ 12 by omega) (show 0 ≤ a2.toInt by omega) (show a2.toInt ≤ 9 by omega) (show 2000 ≤ a3.toInt by omega) (show a3.toInt ≤ 101999 by omega) (by decide) (by decide)  hw hT hF  (lv_sub hl [1, 2, 3, 4, 0] rfl)
abbrev P_X4_firstArrival_2 (ad : Nat → Nat) (cy : Nat → ClassId) (B : Int) (qr : Nat) (s1 : Int) (a1 : Int32) (a2 : Int32) (a3 : Int32) (a4 : Int32) (w0 : va_W) : Int32 → va_W → Prop := fun r u => TW ksC ad cy B qr s1 u ∧ FE ksC [(48, 0, 10), (49, 0, 10)] w0 u ∧ (((-1) ≤ r.toInt ∧ r.toInt ≤ 102119 ∧ (∃ y : Int32, gi u 39 8 = y ∧ 1 ≤ y.toInt ∧ y.toInt ≤ 10)) ∨ (r = (-1)))
set_option maxHeartbeats 4000000 in
set_option maxRecDepth 100000 in
theorem k_X4_firstArrival_2 (l : Launch) (adK adV : Nat → Nat) (dC : Nat → ClassId) (dI : Nat → Nat → Nat) (cy : Nat → ClassId) (ad : Nat → Nat) (B : Int) (hB0 : 2147483648 ≤ B) (hB1 : B ≤ 1152921504606846976) (qr : Nat) (s1 : Int)  (a1 : Int32) (ra1 : 1 ≤ a1.toInt) (ta1 : a1.toInt ≤ 13) (a2 : Int32) (ra2 : 0 ≤ a2.toInt) (ta2 : a2.toInt ≤ 9) (a3 : Int32) (ra3 : 0 ≤ a3.toInt) (ta3 : a3.toInt ≤ 9) (a4 : Int32) (ra4 : 0 ≤ a4.toInt) (ta4 : a4.toInt ≤ 99999) (w0 : va_W) (sz : Nat) (hT : TW ksC ad cy B qr s1 w0)  : Met l yX4_firstArrival wsX4_firstArrival ({ frames := 4, cells := 0, slots := 0, locals := 95 }) (va_Pc [.ref (ad 155), .int a1, .int a2, .int a3, .int a4] (wpreS adK adV dC dI cy sz w0)) (va_Qi (P_X4_firstArrival_2 ad cy B qr s1 a1 a2 a3 a4 w0) (fun u : va_W => wpost dC dI cy (va_A w0 sz) u) (va_A w0 sz)) 0 0 (va_A w0 sz) := by
  refine Met.ofW (cc := cX4_firstArrival) (maxL := 8) (ret := (some .int)) (by decide) rfl ?_
  intro p e s m args below meth c s₁ Bk hml hv
  obtain ⟨rfl, ⟨hsz, hP, hK, hD0⟩, hE, hSR⟩ := hv
  have hx := Bk.exec
  have hb := Bk.bytes
  have hr := Bk.returns
  have hlocks := Bk.notSynchronized
  have hC : CallFix p m c cX4_firstArrival 8 s _ wsX4_firstArrival RX4 := ⟨hx, hb, hml, findClass_of_methodNamed Bk.named, atoms_spec (ws := wsX4_firstArrival) Bk.pre⟩
  subst hsz
  have hD := hD0.self (sz := s.heap.size)
  generalize hAe : va_A w0 s.heap.size = A at hD hE ⊢
  have hA : ∀ q : Nat, s.heap.size ≤ q → A q := fun q h => by rw [← hAe]; exact Or.inr h
  have hw : Wd dC dI A s.heap s.heap [] w0 := ⟨hP, hD, va_S.rf⟩
  have hF : FE ksC [(48, 0, 10), (49, 0, 10)] w0 w0 := FE.rf
  have hl := lv_entry ([.ref (ad 155), .int a1, .int a2, .int a3, .int a4]) (n := 8) (Nat.le_of_ble_eq_true rfl)
  rw [lg_entry_eq]
  generalize (lg_sl ([.ref (ad 155), .int a1, .int a2, .int a3, .int a4]) ++ List.replicate (8 - (lg_sl ([.ref (ad 155), .int a1, .int a2, .int a3, .int a4])).length) Slot.unset).toArray = ls at hl ⊢
  have hl : lv_has ls 8 [(0, .ref (ad 155)), (1, .int a1), (2, .int a2), (3, .int a3), (4, .int a4)] := hl
  generalize hloc : ([] : List Loc) = locs at hw ⊢
  have hinX4 : ∀ w ∈ u_ws RX4 TX4 4, w ∈ wsX4_firstArrival := fun _ h => List.mem_cons_of_mem _ (List.mem_append_left _ (List.mem_append_right _ (h)))
  have hinX7 : ∀ w ∈ u_ws RX7 TX7 12, w ∈ wsX4_firstArrival := fun _ h => List.mem_cons_of_mem _ (List.mem_append_right _ (h))
  have L15 : ∀ (n15 : Nat) (v15_5 : Int32) (H : Heap) (locs : List Loc) (ls : Array Slot) (w1 : va_W), 1 ≤ a1.toInt → a1.toInt ≤ 13 → 0 ≤ a2.toInt → a2.toInt ≤ 9 → 0 ≤ a3.toInt → a3.toInt ≤ 9 → 0 ≤ a4.toInt → a4.toInt ≤ 99999 → 0 ≤ v15_5.toInt → v15_5.toInt ≤ 10 → (10 - v15_5.toInt).toNat < n15 → Wd dC dI A s.heap H locs w1 → TW ksC ad cy B qr s1 w1 → FE ksC [(48, 0, 10), (49, 0, 10)] w0 w1 → lv_has ls 8 [(0, .ref (ad 155)), (1, .int a1), (2, .int a2), (3, .int a3), (4, .int a4), (5, .int v15_5)] → W p l e ({ frames := 4, cells := 0, slots := 0, locals := 95 }) s m (List.toArray [.ref (ad 155), .int a1, .int a2, .int a3, .int a4]) below meth c H locs 0 0 (MQ below (va_Qi (P_X4_firstArrival_2 ad cy B qr s1 a1 a2 a3 a4 w0) (fun u : va_W => wpost dC dI cy A u) A) (List.toArray [.ref (ad 155), .int a1, .int a2, .int a3, .int a4]) s 0 0 A) (F0 m 15 ls []) := by
    intro n15
    induction n15 with
    | zero => intro v15_5 H locs ls w1 r2 t3 r4 t5 r6 t7 r8 t9 r10 t11 hm15 hw hT hF hl; omega
    | succ n15 ih15 =>
      intro v15_5 H locs ls w1 r2 t3 r4 t5 r6 t7 r8 t9 r10 t11 hm15 hw hT hF hl
      have L65 : ∀ (n65 : Nat) (v65_6 : Int32) (v65_7 : Int32) (f65_39_8 : Int32) (H : Heap) (locs : List Loc) (ls : Array Slot) (w12 : va_W), 1 ≤ a1.toInt → a1.toInt ≤ 13 → 0 ≤ a2.toInt → a2.toInt ≤ 9 → 0 ≤ a3.toInt → a3.toInt ≤ 9 → 0 ≤ a4.toInt → a4.toInt ≤ 99999 → 0 ≤ v15_5.toInt → v15_5.toInt ≤ 9 → 0 ≤ v65_6.toInt → v65_6.toInt ≤ 9 → 0 ≤ v65_7.toInt → v65_7.toInt ≤ 13 → 1 ≤ f65_39_8.toInt → f65_39_8.toInt ≤ 10 → (13 - v65_7.toInt).toNat < n65 → Wd dC dI A s.heap H locs w12 → TW ksC ad cy B qr s1 w12 → FE ksC [(48, 0, 10), (49, 0, 10)] w0 w12 → gi w12 39 8 = f65_39_8 → lv_has ls 8 [(0, .ref (ad 155)), (1, .int a1), (2, .int a2), (3, .int a3), (4, .int a4), (5, .int v15_5), (6, .int v65_6), (7, .int v65_7)] → W p l e ({ frames := 4, cells := 0, slots := 0, locals := 95 }) s m (List.toArray [.ref (ad 155), .int a1, .int a2, .int a3, .int a4]) below meth c H locs 0 0 (MQ below (va_Qi (P_X4_firstArrival_2 ad cy B qr s1 a1 a2 a3 a4 w0) (fun u : va_W => wpost dC dI cy A u) A) (List.toArray [.ref (ad 155), .int a1, .int a2, .int a3, .int a4]) s 0 0 A) (F0 m 65 ls []) := by
        intro n65
        induction n65 with
        | zero => intro v65_6 v65_7 f65_39_8 H locs ls w12 r13 t14 r15 t16 r17 t18 r19 t20 r21 t22 r23 t24 r25 t26 r27 t28 hm65 hw hT hF c29 hl; omega
        | succ n65 ih65 =>
          intro v65_6 v65_7 f65_39_8 H locs ls w12 r13 t14 r15 t16 r17 t18 r19 t20 r21 t22 r23 t24 r25 t26 r27 t28 hm65 hw hT hF c29 hl
          refine lv_iload hx hb dX4_firstArrival_65 (lv_at hl 7 rfl) ?_
          refine lv_iload_n hx hb dX4_firstArrival_67 rfl (lv_at hl 1 rfl) ?_
          refine lv_icmp_ge (tgt := 91) hx hb dX4_firstArrival_68 (by decide) (fun c30 => ?_) (fun c30 => ?_)
          · have c30 : a1.toInt ≤ v65_7.toInt := wk_le.mp c30
            obtain ⟨x31, ex31⟩ : ∃ y : Int32, y = v15_5 + Int32.ofInt 1 := ⟨_, rfl⟩
            refine lv_iinc (v := x31) (lv' := [(5, .int x31), (0, .ref (ad 155)), (1, .int a1), (2, .int a2), (3, .int a3), (4, .int a4), (6, .int v65_6), (7, .int v65_7)]) hx hb dX4_firstArrival_91 hl (k := 5) rfl ex31.symm (by decide) rfl (fun ls hl => ?_)
            have ex31 : x31.toInt = v15_5.toInt + 1 := by rw [ex31]; exact wk_add (y := 1) (show -2147483648 ≤ v15_5.toInt + 1 by omega) (show v15_5.toInt + 1 ≤ 2147483647 by omega)
            refine lv_goto (tgt := 15) hx hb dX4_firstArrival_94 (by decide) ?_
            exact ih15 x31 H locs ls w12 (show 1 ≤ a1.toInt by omega) (show a1.toInt ≤ 13 by omega) (show 0 ≤ a2.toInt by omega) (show a2.toInt ≤ 9 by omega) (show 0 ≤ a3.toInt by omega) (show a3.toInt ≤ 9 by omega) (show 0 ≤ a4.toInt by omega) (show a4.toInt ≤ 99999 by omega) (show 0 ≤ x31.toInt by omega) (show x31.toInt ≤ 10 by omega) (show (10 - x31.toInt).toNat < n15 by omega) hw hT hF  (lv_sub hl [1, 2, 3, 4, 5, 0] rfl)
          · have c30 : v65_7.toInt < a1.toInt := wk_leF c30
            refine lv_aload_n hx hb dX4_firstArrival_71 rfl (lv_at hl 0 rfl) ?_
            refine lv_iload hx hb dX4_firstArrival_72 (lv_at hl 7 rfl) ?_
            refine lv_iload hx hb dX4_firstArrival_74 (lv_at hl 6 rfl) ?_
            refine lv_iload hx hb dX4_firstArrival_76 (lv_at hl 4 rfl) ?_
            refine lv_sipush (v := 2000) hx hb dX4_firstArrival_78 (by decide) ?_
            refine lv_iadd hx hb dX4_firstArrival_81 ?_
            refine lv_topi (fun x32 ex32 => ?_)
            have ex32 : x32.toInt = a4.toInt + (2000 : Int) := by rw [ex32]; exact wk_add (show (-2147483648) ≤ a4.toInt + (2000 : Int) by omega) (show a4.toInt + (2000 : Int) ≤ 2147483647 by omega)
            refine tk_Vv hC hK hw hT hA hE hSR kC_at155 (by decide) rfl (k_X4_reachBy_2 l adK adV dC dI cy ad B (by omega) (by omega) qr s1   v65_7 (show 0 ≤ v65_7.toInt by omega) (show v65_7.toInt ≤ 12 by omega) v65_6 (show 0 ≤ v65_6.toInt by omega) (show v65_6.toInt ≤ 9 by omega) x32 (show 2000 ≤ x32.toInt by omega) (show x32.toInt ≤ 101999 by omega) w12 H.size hT ) (cwV 3 hC.2.2.2.2 gX4_firstArrival_X4_reachBy rfl rfl rfl (by decide +kernel) ⟨Nat.le_of_ble_eq_true rfl, Nat.le_of_ble_eq_true rfl⟩) rfl hl.1 rfl (Nat.le_of_ble_eq_true rfl) dX4_firstArrival_82 (fun w35 H locs hp34 hw => ?_)
            obtain ⟨hT, k36, hg37⟩ := hp34
            have hF := hF.tr k36 (by decide)
            have c38 := k36.gi kC_at39 (by decide) c29
            clear hg37
            obtain ⟨x39, ex39⟩ : ∃ y : Int32, y = v65_7 + Int32.ofInt 1 := ⟨_, rfl⟩
            refine lv_iinc (v := x39) (lv' := [(7, .int x39), (0, .ref (ad 155)), (1, .int a1), (2, .int a2), (3, .int a3), (4, .int a4), (5, .int v15_5), (6, .int v65_6)]) hx hb dX4_firstArrival_85 hl (k := 7) rfl ex39.symm (by decide) rfl (fun ls hl => ?_)
            have ex39 : x39.toInt = v65_7.toInt + 1 := by rw [ex39]; exact wk_add (y := 1) (show -2147483648 ≤ v65_7.toInt + 1 by omega) (show v65_7.toInt + 1 ≤ 2147483647 by omega)
            refine lv_goto (tgt := 65) hx hb dX4_firstArrival_88 (by decide) ?_
            exact ih65 v65_6 x39 f65_39_8 H locs ls w35 (show 1 ≤ a1.toInt by omega) (show a1.toInt ≤ 13 by omega) (show 0 ≤ a2.toInt by omega) (show a2.toInt ≤ 9 by omega) (show 0 ≤ a3.toInt by omega) (show a3.toInt ≤ 9 by omega) (show 0 ≤ a4.toInt by omega) (show a4.toInt ≤ 99999 by omega) (show 0 ≤ v15_5.toInt by omega) (show v15_5.toInt ≤ 9 by omega) (show 0 ≤ v65_6.toInt by omega) (show v65_6.toInt ≤ 9 by omega) (show 0 ≤ x39.toInt by omega) (show x39.toInt ≤ 13 by omega) (show 1 ≤ f65_39_8.toInt by omega) (show f65_39_8.toInt ≤ 10 by omega) (show (13 - x39.toInt).toNat < n65 by omega) hw hT hF c38 (lv_sub hl [1, 2, 3, 4, 5, 6, 7, 0] rfl)
      refine lv_iload hx hb dX4_firstArrival_15 (lv_at hl 5 rfl) ?_
      refine lv_aload_n hx hb dX4_firstArrival_17 rfl (lv_at hl 0 rfl) ?_
      refine tk_getA hC hK hw hT hinX4 kC_at155 (by decide) rfl 1 (by decide) (List.mem_of_getElem? (i := 2) rfl) rfl rfl dX4_firstArrival_18 ?_
      refine tk_geti hC hK hw hT hinX7 kC_at39 (by decide) rfl 8 (by decide) (List.mem_of_getElem? (i := 3) rfl) rfl rfl dX4_firstArrival_21 (fun x40 c41 rx40 tx40 => ?_)
      refine lv_icmp_ge (tgt := 97) hx hb dX4_firstArrival_24 (by decide) (fun c42 => ?_) (fun c42 => ?_)
      · have c42 : x40.toInt ≤ v15_5.toInt := wk_le.mp c42
        refine lv_iconst (v := (-1)) hx hb dX4_firstArrival_97 (by decide) ?_
        exact tk_iret hC hr hlocks hK ⟨hT, hF, (Or.inr rfl)⟩ hw dX4_firstArrival_98
      · have c42 : v15_5.toInt < x40.toInt := wk_leF c42
        refine lv_aload_n hx hb dX4_firstArrival_27 rfl (lv_at hl 0 rfl) ?_
        refine tk_Vi hC hK hw hT hA hE hSR kC_at155 (by decide) rfl (k_X4_earliestUnsettled_1 l adK adV dC dI cy ad B (by omega) (by omega) qr s1    w1 H.size hT ) (cwV 0 hC.2.2.2.2 gX4_firstArrival_X4_earliestUnsettled rfl rfl rfl (by decide +kernel) ⟨Nat.le_of_ble_eq_true rfl, Nat.le_of_ble_eq_true rfl⟩) rfl hl.1 rfl (Nat.le_of_ble_eq_true rfl) dX4_firstArrival_28 (fun r43 w45 H locs hp44 hw => ?_)
        obtain ⟨hT, k46, hg49⟩ := hp44
        have hF := hF.tr k46 (by decide)
        have c50 := k46.gi kC_at39 (by decide) c41
        obtain ⟨g47, g48⟩ := hg49
        refine lv_istore (lv' := [(6, .int r43), (0, .ref (ad 155)), (1, .int a1), (2, .int a2), (3, .int a3), (4, .int a4), (5, .int v15_5)]) hx hb dX4_firstArrival_31 hl (by decide) rfl (fun ls hl => ?_)
        refine lv_iload hx hb dX4_firstArrival_33 (lv_at hl 0 rfl) ?_
        refine lv_iconst (v := (-1)) hx hb dX4_firstArrival_35 (by decide) ?_
        refine lv_icmp_ne (tgt := 41) hx hb dX4_firstArrival_36 (by decide) (fun c51 => ?_) (fun c51 => ?_)
        · have c51 : ¬ r43.toInt = (-1 : Int) := wk_eqF c51
          refine lv_iload hx hb dX4_firstArrival_41 (lv_at hl 0 rfl) ?_
          refine lv_iload_n hx hb dX4_firstArrival_43 rfl (lv_at hl 4 rfl) ?_
          refine lv_icmp_ne (tgt := 54) hx hb dX4_firstArrival_44 (by decide) (fun c52 => ?_) (fun c52 => ?_)
          · have c52 : ¬ r43.toInt = a3.toInt := wk_eqF c52
            refine lv_aload_n hx hb dX4_firstArrival_54 rfl (lv_at hl 1 rfl) ?_
            refine tk_getA hC hK hw hT hinX4 kC_at155 (by decide) rfl 3 (by decide) (List.mem_of_getElem? (i := 4) rfl) rfl rfl dX4_firstArrival_55 ?_
            refine lv_iload hx hb dX4_firstArrival_58 (lv_at hl 0 rfl) ?_
            refine lv_iconst (v := 1) hx hb dX4_firstArrival_60 (by decide) ?_
            refine tk_zast hC hK hw hT kC_at157 (by decide) rfl rfl (show 0 ≤ r43.toInt by omega) (show r43.toInt < 10 by omega) (by decide) (by decide) dX4_firstArrival_61 (fun H locs w53 hw hT k55 c54 => ?_)
            have hF := hF.put kC_at157 (inE_of (a := 0) (b := 10) (by decide) (show 0 ≤ r43.toInt.toNat by omega) (show r43.toInt.toNat ≤ 10 by omega)) k55
            have c56 := k55.gi (Or.inl (tk_ne kC_at39 kC_at157 (by decide))) c50
            refine lv_iconst (v := 0) hx hb dX4_firstArrival_62 (by decide) ?_
            refine lv_istore (lv' := [(7, .int 0), (6, .int r43), (0, .ref (ad 155)), (1, .int a1), (2, .int a2), (3, .int a3), (4, .int a4), (5, .int v15_5)]) hx hb dX4_firstArrival_63 hl (by decide) rfl (fun ls hl => ?_)
            exact L65 ((13 - (0 : Int)).toNat + 1) r43 0 x40 H locs ls w53 (show 1 ≤ a1.toInt by omega) (show a1.toInt ≤ 13 by omega) (show 0 ≤ a2.toInt by omega) (show a2.toInt ≤ 9 by omega) (show 0 ≤ a3.toInt by omega) (show a3.toInt ≤ 9 by omega) (show 0 ≤ a4.toInt by omega) (show a4.toInt ≤ 99999 by omega) (show 0 ≤ v15_5.toInt by omega) (show v15_5.toInt ≤ 9 by omega) (show 0 ≤ r43.toInt by omega) (show r43.toInt ≤ 9 by omega) (by decide) (by decide) (show 1 ≤ x40.toInt by omega) (show x40.toInt ≤ 10 by omega) (Nat.lt_succ_self _) hw hT hF c56 (lv_sub hl [2, 3, 4, 5, 6, 7, 1, 0] rfl)
          · have c52 : r43.toInt = a3.toInt := wk_eq.mp c52
            refine lv_aload_n hx hb dX4_firstArrival_47 rfl (lv_at hl 1 rfl) ?_
            refine tk_getA hC hK hw hT hinX4 kC_at155 (by decide) rfl 2 (by decide) (List.mem_of_getElem? (i := 1) rfl) rfl rfl dX4_firstArrival_48 ?_
            refine lv_iload_n hx hb dX4_firstArrival_51 rfl (lv_at hl 4 rfl) ?_
            refine tk_iald hC hK hw hT kC_at156 rfl rfl (show 0 ≤ a3.toInt by omega) (show a3.toInt < 10 by omega) dX4_firstArrival_52 (fun x57 c58 rx57 tx57 => ?_)
            exact tk_iret hC hr hlocks hK ⟨hT, hF, (Or.inl ⟨(show (-1) ≤ x57.toInt by omega), (show x57.toInt ≤ 102119 by omega), ⟨x40, c50, (show 1 ≤ x40.toInt by omega), (show x40.toInt ≤ 10 by omega)⟩⟩)⟩ hw dX4_firstArrival_53
        · have c51 : r43.toInt = (-1 : Int) := wk_eq.mp c51
          refine lv_iconst (v := (-1)) hx hb dX4_firstArrival_39 (by decide) ?_
          exact tk_iret hC hr hlocks hK ⟨hT, hF, (Or.inr rfl)⟩ hw dX4_firstArrival_40
  refine lv_aload_n hx hb dX4_firstArrival_0 rfl (lv_at hl 0 rfl) ?_
  refine tk_Vv hC hK hw hT hA hE hSR kC_at155 (by decide) rfl (k_X4_clear_1 l adK adV dC dI cy ad B (by omega) (by omega) qr s1    w0 s.heap.size hT ) (cwV 0 hC.2.2.2.2 gX4_firstArrival_X4_clear rfl rfl rfl (by decide +kernel) ⟨Nat.le_of_ble_eq_true rfl, Nat.le_of_ble_eq_true rfl⟩) rfl hl.1 rfl (Nat.le_of_ble_eq_true rfl) dX4_firstArrival_1 (fun w61 H locs hp60 hw => ?_)
  obtain ⟨hT, k62, hg63⟩ := hp60
  have hF := hF.tr k62 (by decide)
  clear hg63
  refine lv_aload_n hx hb dX4_firstArrival_4 rfl (lv_at hl 0 rfl) ?_
  refine tk_getA hC hK hw hT hinX4 kC_at155 (by decide) rfl 2 (by decide) (List.mem_of_getElem? (i := 1) rfl) rfl rfl dX4_firstArrival_5 ?_
  refine lv_iload_n hx hb dX4_firstArrival_8 rfl (lv_at hl 2 rfl) ?_
  refine lv_iload hx hb dX4_firstArrival_9 (lv_at hl 4 rfl) ?_
  refine tk_iast hC hK hw hT kC_at156 (by decide) rfl rfl (show 0 ≤ a2.toInt by omega) (show a2.toInt < 10 by omega) (show (-1) ≤ a4.toInt by omega) (show a4.toInt ≤ 102119 by omega) dX4_firstArrival_11 (fun H locs w64 hw hT k66 c65 => ?_)
  have hF := hF.put kC_at156 (inE_of (a := 0) (b := 10) (by decide) (show 0 ≤ a2.toInt.toNat by omega) (show a2.toInt.toNat ≤ 10 by omega)) k66
  refine lv_iconst (v := 0) hx hb dX4_firstArrival_12 (by decide) ?_
  refine lv_istore (lv' := [(5, .int 0), (0, .ref (ad 155)), (1, .int a1), (2, .int a2), (3, .int a3), (4, .int a4)]) hx hb dX4_firstArrival_13 hl (by decide) rfl (fun ls hl => ?_)
  exact L15 ((10 - (0 : Int)).toNat + 1) 0 H locs ls w64 (show 1 ≤ a1.toInt by omega) (show a1.toInt ≤ 13 by omega) (show 0 ≤ a2.toInt by omega) (show a2.toInt ≤ 9 by omega) (show 0 ≤ a3.toInt by omega) (show a3.toInt ≤ 9 by omega) (show 0 ≤ a4.toInt by omega) (show a4.toInt ≤ 99999 by omega) (by decide) (by decide) (Nat.lt_succ_self _) hw hT hF  (lv_sub hl [1, 2, 3, 4, 5, 0] rfl)
abbrev P_X4_sumOfErrands_1 (ad : Nat → Nat) (cy : Nat → ClassId) (B : Int) (qr : Nat) (s1 : Int) (a1 : Int32) (a2 : Int32) (w0 : va_W) : Int32 → va_W → Prop := fun r u => TW ksC ad cy B qr s1 u ∧ FE ksC [(48, 0, 10), (49, 0, 10)] w0 u ∧ ((True))
set_option maxHeartbeats 4000000 in
set_option maxRecDepth 100000 in
theorem k_X4_sumOfErrands_1 (l : Launch) (adK adV : Nat → Nat) (dC : Nat → ClassId) (dI : Nat → Nat → Nat) (cy : Nat → ClassId) (ad : Nat → Nat) (B : Int) (hB0 : 2147483648 ≤ B) (hB1 : B ≤ 1152921504606846976) (qr : Nat) (s1 : Int)  (a1 : Int32) (ra1 : 0 ≤ a1.toInt) (ta1 : a1.toInt ≤ 99999) (a2 : Int32) (ta2 : a2.toInt ≤ 14007) (w0 : va_W) (sz : Nat) (hT : TW ksC ad cy B qr s1 w0)  : Met l yX4_sumOfErrands wsX4_sumOfErrands ({ frames := 5, cells := 0, slots := 0, locals := 122 }) (va_Pc [.ref (ad 155), .int a1, .int a2] (wpreS adK adV dC dI cy sz w0)) (va_Qi (P_X4_sumOfErrands_1 ad cy B qr s1 a1 a2 w0) (fun u : va_W => wpost dC dI cy (va_A w0 sz) u) (va_A w0 sz)) 0 0 (va_A w0 sz) := by
  refine Met.ofW (cc := cX4_sumOfErrands) (maxL := 6) (ret := (some .int)) (by decide) rfl ?_
  intro p e s m args below meth c s₁ Bk hml hv
  obtain ⟨rfl, ⟨hsz, hP, hK, hD0⟩, hE, hSR⟩ := hv
  have hx := Bk.exec
  have hb := Bk.bytes
  have hr := Bk.returns
  have hlocks := Bk.notSynchronized
  have hC : CallFix p m c cX4_sumOfErrands 6 s _ wsX4_sumOfErrands RX4 := ⟨hx, hb, hml, findClass_of_methodNamed Bk.named, atoms_spec (ws := wsX4_sumOfErrands) Bk.pre⟩
  subst hsz
  have hD := hD0.self (sz := s.heap.size)
  generalize hAe : va_A w0 s.heap.size = A at hD hE ⊢
  have hA : ∀ q : Nat, s.heap.size ≤ q → A q := fun q h => by rw [← hAe]; exact Or.inr h
  have hw : Wd dC dI A s.heap s.heap [] w0 := ⟨hP, hD, va_S.rf⟩
  have hF : FE ksC [(48, 0, 10), (49, 0, 10)] w0 w0 := FE.rf
  have hl := lv_entry ([.ref (ad 155), .int a1, .int a2]) (n := 6) (Nat.le_of_ble_eq_true rfl)
  rw [lg_entry_eq]
  generalize (lg_sl ([.ref (ad 155), .int a1, .int a2]) ++ List.replicate (6 - (lg_sl ([.ref (ad 155), .int a1, .int a2])).length) Slot.unset).toArray = ls at hl ⊢
  have hl : lv_has ls 6 [(0, .ref (ad 155)), (1, .int a1), (2, .int a2)] := hl
  generalize hloc : ([] : List Loc) = locs at hw ⊢
  have hinX4 : ∀ w ∈ u_ws RX4 TX4 4, w ∈ wsX4_sumOfErrands := fun _ h => List.mem_cons_of_mem _ (List.mem_append_left _ (List.mem_append_left _ (List.mem_append_right _ (h))))
  have hinX5 : ∀ w ∈ u_ws RX5 TX5 14, w ∈ wsX4_sumOfErrands := fun _ h => List.mem_cons_of_mem _ (List.mem_append_left _ (List.mem_append_right _ (h)))
  have hinX7 : ∀ w ∈ u_ws RX7 TX7 12, w ∈ wsX4_sumOfErrands := fun _ h => List.mem_cons_of_mem _ (List.mem_append_right _ (h))
  have J83 : ∀ (v83_3 : Int32) (v83_4 : Int32) (f83_38_10 : Int32) (H : Heap) (locs : List Loc) (ls : Array Slot) (w1 : va_W), 0 ≤ a1.toInt → a1.toInt ≤ 99999 → a2.toInt ≤ 14007 → 0 ≤ v83_4.toInt → v83_4.toInt ≤ 6 → 0 ≤ f83_38_10.toInt → f83_38_10.toInt ≤ 6 → Wd dC dI A s.heap H locs w1 → TW ksC ad cy B qr s1 w1 → FE ksC [(48, 0, 10), (49, 0, 10)] w0 w1 → gi w1 38 10 = f83_38_10 → lv_has ls 6 [(0, .ref (ad 155)), (1, .int a1), (2, .int a2), (3, .int v83_3), (4, .int v83_4)] → W p l e ({ frames := 5, cells := 0, slots := 0, locals := 122 }) s m (List.toArray [.ref (ad 155), .int a1, .int a2]) below meth c H locs 0 0 (MQ below (va_Qi (P_X4_sumOfErrands_1 ad cy B qr s1 a1 a2 w0) (fun u : va_W => wpost dC dI cy A u) A) (List.toArray [.ref (ad 155), .int a1, .int a2]) s 0 0 A) (F0 m 83 ls []) := by
    intro v83_3 v83_4 f83_38_10 H locs ls w1 r2 t3 t4 r5 t6 r7 t8 hw hT hF c9 hl
    refine lv_iload_n hx hb dX4_sumOfErrands_83 rfl (lv_at hl 3 rfl) ?_
    exact tk_iret hC hr hlocks hK ⟨hT, hF, trivial⟩ hw dX4_sumOfErrands_84
  have L5 : ∀ (n5 : Nat) (v5_3 : Int32) (v5_4 : Int32) (H : Heap) (locs : List Loc) (ls : Array Slot) (w10 : va_W), 0 ≤ a1.toInt → a1.toInt ≤ 99999 → a2.toInt ≤ 14007 → 0 ≤ v5_4.toInt → v5_4.toInt ≤ 6 → (6 - v5_4.toInt).toNat < n5 → Wd dC dI A s.heap H locs w10 → TW ksC ad cy B qr s1 w10 → FE ksC [(48, 0, 10), (49, 0, 10)] w0 w10 → lv_has ls 6 [(0, .ref (ad 155)), (1, .int a1), (2, .int a2), (3, .int v5_3), (4, .int v5_4)] → W p l e ({ frames := 5, cells := 0, slots := 0, locals := 122 }) s m (List.toArray [.ref (ad 155), .int a1, .int a2]) below meth c H locs 0 0 (MQ below (va_Qi (P_X4_sumOfErrands_1 ad cy B qr s1 a1 a2 w0) (fun u : va_W => wpost dC dI cy A u) A) (List.toArray [.ref (ad 155), .int a1, .int a2]) s 0 0 A) (F0 m 5 ls []) := by
    intro n5
    induction n5 with
    | zero => intro v5_3 v5_4 H locs ls w10 r11 t12 t13 r14 t15 hm5 hw hT hF hl; omega
    | succ n5 ih5 =>
      intro v5_3 v5_4 H locs ls w10 r11 t12 t13 r14 t15 hm5 hw hT hF hl
      refine lv_iload hx hb dX4_sumOfErrands_5 (lv_at hl 4 rfl) ?_
      refine lv_aload_n hx hb dX4_sumOfErrands_7 rfl (lv_at hl 0 rfl) ?_
      refine tk_getA hC hK hw hT hinX4 kC_at155 (by decide) rfl 0 (by decide) (List.mem_of_getElem? (i := 1) rfl) rfl rfl dX4_sumOfErrands_8 ?_
      refine tk_geti hC hK hw hT hinX5 kC_at38 (by decide) rfl 10 (by decide) (List.mem_of_getElem? (i := 2) rfl) rfl rfl dX4_sumOfErrands_11 (fun x16 c17 rx16 tx16 => ?_)
      refine lv_icmp_ge (tgt := 83) hx hb dX4_sumOfErrands_14 (by decide) (fun c18 => ?_) (fun c18 => ?_)
      · have c18 : x16.toInt ≤ v5_4.toInt := wk_le.mp c18
        exact J83 v5_3 v5_4 x16 H locs ls w10 (show 0 ≤ a1.toInt by omega) (show a1.toInt ≤ 99999 by omega) (show a2.toInt ≤ 14007 by omega) (show 0 ≤ v5_4.toInt by omega) (show v5_4.toInt ≤ 6 by omega) (show 0 ≤ x16.toInt by omega) (show x16.toInt ≤ 6 by omega)  hw hT hF c17 (lv_sub hl [0, 1, 2, 3, 4] rfl)
      · have c18 : v5_4.toInt < x16.toInt := wk_leF c18
        refine lv_iload_n hx hb dX4_sumOfErrands_17 rfl (lv_at hl 3 rfl) ?_
        refine lv_iload_n hx hb dX4_sumOfErrands_18 rfl (lv_at hl 2 rfl) ?_
        refine lv_icmp_ge (tgt := 83) hx hb dX4_sumOfErrands_19 (by decide) (fun c19 => ?_) (fun c19 => ?_)
        · have c19 : a2.toInt ≤ v5_3.toInt := wk_le.mp c19
          exact J83 v5_3 v5_4 x16 H locs ls w10 (show 0 ≤ a1.toInt by omega) (show a1.toInt ≤ 99999 by omega) (show a2.toInt ≤ 14007 by omega) (show 0 ≤ v5_4.toInt by omega) (show v5_4.toInt ≤ 6 by omega) (show 0 ≤ x16.toInt by omega) (show x16.toInt ≤ 6 by omega)  hw hT hF c17 (lv_sub hl [0, 1, 2, 3, 4] rfl)
        · have c19 : v5_3.toInt < a2.toInt := wk_leF c19
          refine lv_aload_n hx hb dX4_sumOfErrands_22 rfl (lv_at hl 0 rfl) ?_
          refine lv_aload_n hx hb dX4_sumOfErrands_23 rfl (lv_at hl 0 rfl) ?_
          refine tk_getA hC hK hw hT hinX4 kC_at155 (by decide) rfl 1 (by decide) (List.mem_of_getElem? (i := 3) rfl) rfl rfl dX4_sumOfErrands_24 ?_
          refine tk_geti hC hK hw hT hinX7 kC_at39 (by decide) rfl 9 (by decide) (List.mem_of_getElem? (i := 4) rfl) rfl rfl dX4_sumOfErrands_27 (fun x20 c21 rx20 tx20 => ?_)
          refine lv_iconst (v := 1) hx hb dX4_sumOfErrands_30 (by decide) ?_
          refine lv_iadd hx hb dX4_sumOfErrands_31 ?_
          refine lv_topi (fun x22 ex22 => ?_)
          have ex22 : x22.toInt = x20.toInt + (1 : Int) := by rw [ex22]; exact wk_add (show (-2147483648) ≤ x20.toInt + (1 : Int) by omega) (show x20.toInt + (1 : Int) ≤ 2147483647 by omega)
          refine lv_aload_n hx hb dX4_sumOfErrands_32 rfl (lv_at hl 0 rfl) ?_
          refine tk_getA hC hK hw hT hinX4 kC_at155 (by decide) rfl 0 (by decide) (List.mem_of_getElem? (i := 1) rfl) rfl rfl dX4_sumOfErrands_33 ?_
          refine tk_getO hC hK hw hT hinX5 kC_at38 (by decide) rfl 3 (by decide) (List.mem_of_getElem? (i := 5) rfl) rfl rfl dX4_sumOfErrands_36 ?_
          refine lv_iload hx hb dX4_sumOfErrands_39 (lv_at hl 4 rfl) ?_
          refine tk_iald hC hK hw hT kC_at50 rfl rfl (show 0 ≤ v5_4.toInt by omega) (show v5_4.toInt < 6 by omega) dX4_sumOfErrands_41 (fun x23 c24 rx23 tx23 => ?_)
          refine lv_aload_n hx hb dX4_sumOfErrands_42 rfl (lv_at hl 0 rfl) ?_
          refine tk_getA hC hK hw hT hinX4 kC_at155 (by decide) rfl 0 (by decide) (List.mem_of_getElem? (i := 1) rfl) rfl rfl dX4_sumOfErrands_43 ?_
          refine tk_getO hC hK hw hT hinX5 kC_at38 (by decide) rfl 4 (by decide) (List.mem_of_getElem? (i := 6) rfl) rfl rfl dX4_sumOfErrands_46 ?_
          refine lv_iload hx hb dX4_sumOfErrands_49 (lv_at hl 4 rfl) ?_
          refine tk_iald hC hK hw hT kC_at51 rfl rfl (show 0 ≤ v5_4.toInt by omega) (show v5_4.toInt < 6 by omega) dX4_sumOfErrands_51 (fun x25 c26 rx25 tx25 => ?_)
          refine lv_iload_n hx hb dX4_sumOfErrands_52 rfl (lv_at hl 1 rfl) ?_
          refine tk_Vi hC hK hw hT hA hE hSR kC_at155 (by decide) rfl (k_X4_firstArrival_2 l adK adV dC dI cy ad B (by omega) (by omega) qr s1   x22 (show 1 ≤ x22.toInt by omega) (show x22.toInt ≤ 13 by omega) x23 (show 0 ≤ x23.toInt by omega) (show x23.toInt ≤ 9 by omega) x25 (show 0 ≤ x25.toInt by omega) (show x25.toInt ≤ 9 by omega) a1 (show 0 ≤ a1.toInt by omega) (show a1.toInt ≤ 99999 by omega) w10 H.size hT ) (cwV 4 hC.2.2.2.2 gX4_sumOfErrands_X4_firstArrival rfl rfl rfl (by decide +kernel) ⟨Nat.le_of_ble_eq_true rfl, Nat.le_of_ble_eq_true rfl⟩) rfl hl.1 rfl (Nat.le_of_ble_eq_true rfl) dX4_sumOfErrands_53 (fun r27 w29 H locs hp28 hw => ?_)
          obtain ⟨hT, k30, hg35⟩ := hp28
          have hF := hF.tr k30 (by decide)
          have c36 := k30.gi kC_at38 (by decide) c17
          have c37 := k30.gi kC_at39 (by decide) c21
          rcases hg35 with ⟨g31, g32, ⟨x33, c34, rx33, tx33⟩⟩ | rfl
          · refine lv_istore (lv' := [(5, .int r27), (0, .ref (ad 155)), (1, .int a1), (2, .int a2), (3, .int v5_3), (4, .int v5_4)]) hx hb dX4_sumOfErrands_56 hl (by decide) rfl (fun ls hl => ?_)
            refine lv_iload_n hx hb dX4_sumOfErrands_58 rfl (lv_at hl 4 rfl) ?_
            refine lv_iload hx hb dX4_sumOfErrands_59 (lv_at hl 0 rfl) ?_
            refine lv_iconst (v := (-1)) hx hb dX4_sumOfErrands_61 (by decide) ?_
            refine lv_icmp_ne (tgt := 71) hx hb dX4_sumOfErrands_62 (by decide) (fun c38 => ?_) (fun c38 => ?_)
            · have c38 : ¬ r27.toInt = (-1 : Int) := wk_eqF c38
              refine lv_iload hx hb dX4_sumOfErrands_71 (lv_at hl 0 rfl) ?_
              refine lv_iload_n hx hb dX4_sumOfErrands_73 rfl (lv_at hl 2 rfl) ?_
              refine lv_isub hx hb dX4_sumOfErrands_74 ?_
              refine lv_topi (fun x39 ex39 => ?_)
              have ex39 : x39.toInt = r27.toInt - a1.toInt := by rw [ex39]; exact wk_sub (show (-2147483648) ≤ r27.toInt - a1.toInt by omega) (show r27.toInt - a1.toInt ≤ 2147483647 by omega)
              refine lv_iadd hx hb dX4_sumOfErrands_75 ?_
              have nx40 := wk_i32 v5_3
              refine lv_topi (fun x41 ex41 => ?_)
              refine lv_istore_n (lv' := [(3, .int x41), (5, .int r27), (0, .ref (ad 155)), (1, .int a1), (2, .int a2), (4, .int v5_4)]) hx hb dX4_sumOfErrands_76 rfl hl (by decide) rfl (fun ls hl => ?_)
              obtain ⟨x42, ex42⟩ : ∃ y : Int32, y = v5_4 + Int32.ofInt 1 := ⟨_, rfl⟩
              refine lv_iinc (v := x42) (lv' := [(4, .int x42), (3, .int x41), (5, .int r27), (0, .ref (ad 155)), (1, .int a1), (2, .int a2)]) hx hb dX4_sumOfErrands_77 hl (k := 5) rfl ex42.symm (by decide) rfl (fun ls hl => ?_)
              have ex42 : x42.toInt = v5_4.toInt + 1 := by rw [ex42]; exact wk_add (y := 1) (show -2147483648 ≤ v5_4.toInt + 1 by omega) (show v5_4.toInt + 1 ≤ 2147483647 by omega)
              refine lv_goto (tgt := 5) hx hb dX4_sumOfErrands_80 (by decide) ?_
              exact ih5 x41 x42 H locs ls w29 (show 0 ≤ a1.toInt by omega) (show a1.toInt ≤ 99999 by omega) (show a2.toInt ≤ 14007 by omega) (show 0 ≤ x42.toInt by omega) (show x42.toInt ≤ 6 by omega) (show (6 - x42.toInt).toNat < n5 by omega) hw hT hF  (lv_sub hl [3, 4, 5, 1, 0] rfl)
            · have c38 : r27.toInt = (-1 : Int) := wk_eq.mp c38
              refine lv_sipush (v := 2001) hx hb dX4_sumOfErrands_65 (by decide) ?_
              refine lv_goto (tgt := 75) hx hb dX4_sumOfErrands_68 (by decide) ?_
              refine lv_iadd hx hb dX4_sumOfErrands_75 ?_
              have nx43 := wk_i32 v5_3
              refine lv_topi (fun x44 ex44 => ?_)
              have ex44 : x44.toInt = v5_3.toInt + (2001 : Int) := by rw [ex44]; exact wk_add (show (-2147483648) ≤ v5_3.toInt + (2001 : Int) by omega) (show v5_3.toInt + (2001 : Int) ≤ 2147483647 by omega)
              refine lv_istore_n (lv' := [(3, .int x44), (5, .int r27), (0, .ref (ad 155)), (1, .int a1), (2, .int a2), (4, .int v5_4)]) hx hb dX4_sumOfErrands_76 rfl hl (by decide) rfl (fun ls hl => ?_)
              obtain ⟨x45, ex45⟩ : ∃ y : Int32, y = v5_4 + Int32.ofInt 1 := ⟨_, rfl⟩
              refine lv_iinc (v := x45) (lv' := [(4, .int x45), (3, .int x44), (5, .int r27), (0, .ref (ad 155)), (1, .int a1), (2, .int a2)]) hx hb dX4_sumOfErrands_77 hl (k := 5) rfl ex45.symm (by decide) rfl (fun ls hl => ?_)
              have ex45 : x45.toInt = v5_4.toInt + 1 := by rw [ex45]; exact wk_add (y := 1) (show -2147483648 ≤ v5_4.toInt + 1 by omega) (show v5_4.toInt + 1 ≤ 2147483647 by omega)
              refine lv_goto (tgt := 5) hx hb dX4_sumOfErrands_80 (by decide) ?_
              exact ih5 x44 x45 H locs ls w29 (show 0 ≤ a1.toInt by omega) (show a1.toInt ≤ 99999 by omega) (show a2.toInt ≤ 14007 by omega) (show 0 ≤ x45.toInt by omega) (show x45.toInt ≤ 6 by omega) (show (6 - x45.toInt).toNat < n5 by omega) hw hT hF  (lv_sub hl [3, 4, 5, 1, 0] rfl)
          · refine lv_istore (lv' := [(5, .int (-1)), (0, .ref (ad 155)), (1, .int a1), (2, .int a2), (3, .int v5_3), (4, .int v5_4)]) hx hb dX4_sumOfErrands_56 hl (by decide) rfl (fun ls hl => ?_)
            refine lv_iload_n hx hb dX4_sumOfErrands_58 rfl (lv_at hl 4 rfl) ?_
            refine lv_iload hx hb dX4_sumOfErrands_59 (lv_at hl 0 rfl) ?_
            refine lv_iconst (v := (-1)) hx hb dX4_sumOfErrands_61 (by decide) ?_
            refine lv_icmp_ne (tgt := 71) hx hb dX4_sumOfErrands_62 (by decide) (fun c => absurd (by decide) c) (fun _ => ?_)
            refine lv_sipush (v := 2001) hx hb dX4_sumOfErrands_65 (by decide) ?_
            refine lv_goto (tgt := 75) hx hb dX4_sumOfErrands_68 (by decide) ?_
            refine lv_iadd hx hb dX4_sumOfErrands_75 ?_
            have nx46 := wk_i32 v5_3
            refine lv_topi (fun x47 ex47 => ?_)
            have ex47 : x47.toInt = v5_3.toInt + (2001 : Int) := by rw [ex47]; exact wk_add (show (-2147483648) ≤ v5_3.toInt + (2001 : Int) by omega) (show v5_3.toInt + (2001 : Int) ≤ 2147483647 by omega)
            refine lv_istore_n (lv' := [(3, .int x47), (5, .int (-1)), (0, .ref (ad 155)), (1, .int a1), (2, .int a2), (4, .int v5_4)]) hx hb dX4_sumOfErrands_76 rfl hl (by decide) rfl (fun ls hl => ?_)
            obtain ⟨x48, ex48⟩ : ∃ y : Int32, y = v5_4 + Int32.ofInt 1 := ⟨_, rfl⟩
            refine lv_iinc (v := x48) (lv' := [(4, .int x48), (3, .int x47), (5, .int (-1)), (0, .ref (ad 155)), (1, .int a1), (2, .int a2)]) hx hb dX4_sumOfErrands_77 hl (k := 5) rfl ex48.symm (by decide) rfl (fun ls hl => ?_)
            have ex48 : x48.toInt = v5_4.toInt + 1 := by rw [ex48]; exact wk_add (y := 1) (show -2147483648 ≤ v5_4.toInt + 1 by omega) (show v5_4.toInt + 1 ≤ 2147483647 by omega)
            refine lv_goto (tgt := 5) hx hb dX4_sumOfErrands_80 (by decide) ?_
            exact ih5 x47 x48 H locs ls w29 (show 0 ≤ a1.toInt by omega) (show a1.toInt ≤ 99999 by omega) (show a2.toInt ≤ 14007 by omega) (show 0 ≤ x48.toInt by omega) (show x48.toInt ≤ 6 by omega) (show (6 - x48.toInt).toNat < n5 by omega) hw hT hF  (lv_sub hl [3, 4, 5, 1, 0] rfl)
  refine lv_iconst (v := 0) hx hb dX4_sumOfErrands_0 (by decide) ?_
  refine lv_istore_n (lv' := [(3, .int 0), (0, .ref (ad 155)), (1, .int a1), (2, .int a2)]) hx hb dX4_sumOfErrands_1 rfl hl (by decide) rfl (fun ls hl => ?_)
  refine lv_iconst (v := 0) hx hb dX4_sumOfErrands_2 (by decide) ?_
  refine lv_istore (lv' := [(4, .int 0), (3, .int 0), (0, .ref (ad 155)), (1, .int a1), (2, .int a2)]) hx hb dX4_sumOfErrands_3 hl (by decide) rfl (fun ls hl => ?_)
  exact L5 ((6 - (0 : Int)).toNat + 1) 0 0 s.heap locs ls w0 (show 0 ≤ a1.toInt by omega) (show a1.toInt ≤ 99999 by omega) (show a2.toInt ≤ 14007 by omega) (by decide) (by decide) (Nat.lt_succ_self _) hw hT hF  (lv_sub hl [2, 3, 4, 1, 0] rfl)
abbrev P_X4_tellBest_1 (ad : Nat → Nat) (cy : Nat → ClassId) (B : Int) (qr : Nat) (s1 : Int) (a1 : Int32) (a2 : Int32) (a3 : Int32) (w0 : va_W) : Int32 → va_W → Prop := fun r u => TW ksC ad cy B qr s1 u ∧ FE ksC [(24, 0, 26), (25, 0, 13), (26, 0, 91), (27, 0, 13), (28, 0, 26), (31, 0, 13), (48, 0, 10), (49, 0, 10)] w0 u ∧ ((r.toInt ≤ 14007 ∧ 2 ≤ a3.toInt) ∨ (0 ≤ r.toInt ∧ r.toInt ≤ 9 ∧ a3.toInt ≤ 1))
set_option maxHeartbeats 4000000 in
set_option maxRecDepth 100000 in
theorem k_X4_tellBest_1 (l : Launch) (adK adV : Nat → Nat) (dC : Nat → ClassId) (dI : Nat → Nat → Nat) (cy : Nat → ClassId) (ad : Nat → Nat) (B : Int) (hB0 : 2147483648 ≤ B) (hB1 : B ≤ 1152921504606846976) (qr : Nat) (s1 : Int)  (a1 : Int32) (ra1 : 1 ≤ a1.toInt) (ta1 : a1.toInt ≤ 9) (a2 : Int32) (ra2 : 0 ≤ a2.toInt) (ta2 : a2.toInt ≤ 99999) (a3 : Int32) (ra3 : 0 ≤ a3.toInt) (ta3 : a3.toInt ≤ 2) (w0 : va_W) (sz : Nat) (hT : TW ksC ad cy B qr s1 w0)  : Met l yX4_tellBest wsX4_tellBest ({ frames := 6, cells := 0, slots := 0, locals := 147 }) (va_Pc [.ref (ad 155), .int a1, .int a2, .int a3] (wpreS adK adV dC dI cy sz w0)) (va_Qi (P_X4_tellBest_1 ad cy B qr s1 a1 a2 a3 w0) (fun u : va_W => wpost dC dI cy (va_A w0 sz) u) (va_A w0 sz)) 0 0 (va_A w0 sz) := by
  refine Met.ofW (cc := cX4_tellBest) (maxL := 10) (ret := (some .int)) (by decide) rfl ?_
  intro p e s m args below meth c s₁ Bk hml hv
  obtain ⟨rfl, ⟨hsz, hP, hK, hD0⟩, hE, hSR⟩ := hv
  have hx := Bk.exec
  have hb := Bk.bytes
  have hr := Bk.returns
  have hlocks := Bk.notSynchronized
  have hC : CallFix p m c cX4_tellBest 10 s _ wsX4_tellBest RX4 := ⟨hx, hb, hml, findClass_of_methodNamed Bk.named, atoms_spec (ws := wsX4_tellBest) Bk.pre⟩
  subst hsz
  have hD := hD0.self (sz := s.heap.size)
  generalize hAe : va_A w0 s.heap.size = A at hD hE ⊢
  have hA : ∀ q : Nat, s.heap.size ≤ q → A q := fun q h => by rw [← hAe]; exact Or.inr h
  have hw : Wd dC dI A s.heap s.heap [] w0 := ⟨hP, hD, va_S.rf⟩
  have hF : FE ksC [(24, 0, 26), (25, 0, 13), (26, 0, 91), (27, 0, 13), (28, 0, 26), (31, 0, 13), (48, 0, 10), (49, 0, 10)] w0 w0 := FE.rf
  have hl := lv_entry ([.ref (ad 155), .int a1, .int a2, .int a3]) (n := 10) (Nat.le_of_ble_eq_true rfl)
  rw [lg_entry_eq]
  generalize (lg_sl ([.ref (ad 155), .int a1, .int a2, .int a3]) ++ List.replicate (10 - (lg_sl ([.ref (ad 155), .int a1, .int a2, .int a3])).length) Slot.unset).toArray = ls at hl ⊢
  have hl : lv_has ls 10 [(0, .ref (ad 155)), (1, .int a1), (2, .int a2), (3, .int a3)] := hl
  generalize hloc : ([] : List Loc) = locs at hw ⊢
  have hinX4 : ∀ w ∈ u_ws RX4 TX4 4, w ∈ wsX4_tellBest := fun _ h => List.mem_cons_of_mem _ (List.mem_append_left _ (List.mem_append_left _ (List.mem_append_right _ (h))))
  have hinX7 : ∀ w ∈ u_ws RX7 TX7 12, w ∈ wsX4_tellBest := fun _ h => List.mem_cons_of_mem _ (List.mem_append_left _ (List.mem_append_right _ (h)))
  have L14 : ∀ (n14 : Nat) (v14_4 : Int32) (v14_5 : Int32) (v14_6 : Int32) (v14_7 : Int32) (H : Heap) (locs : List Loc) (ls : Array Slot) (w1 : va_W), 1 ≤ a1.toInt → a1.toInt ≤ 9 → 0 ≤ a2.toInt → a2.toInt ≤ 99999 → 0 ≤ a3.toInt → a3.toInt ≤ 2 → 0 ≤ v14_4.toInt → v14_4.toInt ≤ 9 → 1 ≤ v14_5.toInt → v14_5.toInt ≤ 9 → v14_6.toInt ≤ 14007 → 0 ≤ v14_7.toInt → v14_7.toInt ≤ 10 → (10 - v14_7.toInt).toNat < n14 → Wd dC dI A s.heap H locs w1 → TW ksC ad cy B qr s1 w1 → FE ksC [(24, 0, 26), (25, 0, 13), (26, 0, 91), (27, 0, 13), (28, 0, 26), (31, 0, 13), (48, 0, 10), (49, 0, 10)] w0 w1 → lv_has ls 10 [(0, .ref (ad 155)), (1, .int a1), (2, .int a2), (3, .int a3), (4, .int v14_4), (5, .int v14_5), (6, .int v14_6), (7, .int v14_7)] → W p l e ({ frames := 6, cells := 0, slots := 0, locals := 147 }) s m (List.toArray [.ref (ad 155), .int a1, .int a2, .int a3]) below meth c H locs 0 0 (MQ below (va_Qi (P_X4_tellBest_1 ad cy B qr s1 a1 a2 a3 w0) (fun u : va_W => wpost dC dI cy A u) A) (List.toArray [.ref (ad 155), .int a1, .int a2, .int a3]) s 0 0 A) (F0 m 14 ls []) := by
    intro n14
    induction n14 with
    | zero => intro v14_4 v14_5 v14_6 v14_7 H locs ls w1 r2 t3 r4 t5 r6 t7 r8 t9 r10 t11 t12 r13 t14 hm14 hw hT hF hl; omega
    | succ n14 ih14 =>
      intro v14_4 v14_5 v14_6 v14_7 H locs ls w1 r2 t3 r4 t5 r6 t7 r8 t9 r10 t11 t12 r13 t14 hm14 hw hT hF hl
      have L32 : ∀ (n32 : Nat) (v32_4 : Int32) (v32_5 : Int32) (v32_6 : Int32) (v32_8 : Int32) (f32_39_8 : Int32) (H : Heap) (locs : List Loc) (ls : Array Slot) (w15 : va_W), 1 ≤ a1.toInt → a1.toInt ≤ 9 → 0 ≤ a2.toInt → a2.toInt ≤ 99999 → 0 ≤ a3.toInt → a3.toInt ≤ 2 → 0 ≤ v32_4.toInt → v32_4.toInt ≤ 9 → 1 ≤ v32_5.toInt → v32_5.toInt ≤ 9 → v32_6.toInt ≤ 14007 → 0 ≤ v14_7.toInt → v14_7.toInt ≤ 9 → 1 ≤ v32_8.toInt → v32_8.toInt ≤ 10 → 1 ≤ f32_39_8.toInt → f32_39_8.toInt ≤ 10 → (10 - v32_8.toInt).toNat < n32 → Wd dC dI A s.heap H locs w15 → TW ksC ad cy B qr s1 w15 → FE ksC [(24, 0, 26), (25, 0, 13), (26, 0, 91), (27, 0, 13), (28, 0, 26), (31, 0, 13), (48, 0, 10), (49, 0, 10)] w0 w15 → gi w15 39 8 = f32_39_8 → lv_has ls 10 [(0, .ref (ad 155)), (1, .int a1), (2, .int a2), (3, .int a3), (4, .int v32_4), (5, .int v32_5), (6, .int v32_6), (7, .int v14_7), (8, .int v32_8)] → W p l e ({ frames := 6, cells := 0, slots := 0, locals := 147 }) s m (List.toArray [.ref (ad 155), .int a1, .int a2, .int a3]) below meth c H locs 0 0 (MQ below (va_Qi (P_X4_tellBest_1 ad cy B qr s1 a1 a2 a3 w0) (fun u : va_W => wpost dC dI cy A u) A) (List.toArray [.ref (ad 155), .int a1, .int a2, .int a3]) s 0 0 A) (F0 m 32 ls []) := by
        intro n32
        induction n32 with
        | zero => intro v32_4 v32_5 v32_6 v32_8 f32_39_8 H locs ls w15 r16 t17 r18 t19 r20 t21 r22 t23 r24 t25 t26 r27 t28 r29 t30 r31 t32 hm32 hw hT hF c33 hl; omega
        | succ n32 ih32 =>
          intro v32_4 v32_5 v32_6 v32_8 f32_39_8 H locs ls w15 r16 t17 r18 t19 r20 t21 r22 t23 r24 t25 t26 r27 t28 r29 t30 r31 t32 hm32 hw hT hF c33 hl
          have J84 : ∀ (v84_4 : Int32) (v84_5 : Int32) (v84_6 : Int32) (v84_9 : Int32) (H : Heap) (locs : List Loc) (ls : Array Slot) (w34 : va_W), 1 ≤ a1.toInt → a1.toInt ≤ 9 → 0 ≤ a2.toInt → a2.toInt ≤ 99999 → 0 ≤ a3.toInt → a3.toInt ≤ 2 → 0 ≤ v84_4.toInt → v84_4.toInt ≤ 9 → 1 ≤ v84_5.toInt → v84_5.toInt ≤ 9 → v84_6.toInt ≤ 14007 → 0 ≤ v14_7.toInt → v14_7.toInt ≤ 9 → 1 ≤ v32_8.toInt → v32_8.toInt ≤ 9 → 2 ≤ f32_39_8.toInt → f32_39_8.toInt ≤ 10 → Wd dC dI A s.heap H locs w34 → TW ksC ad cy B qr s1 w34 → FE ksC [(24, 0, 26), (25, 0, 13), (26, 0, 91), (27, 0, 13), (28, 0, 26), (31, 0, 13), (48, 0, 10), (49, 0, 10)] w0 w34 → gi w34 39 8 = f32_39_8 → lv_has ls 10 [(0, .ref (ad 155)), (1, .int a1), (2, .int a2), (3, .int a3), (4, .int v84_4), (5, .int v84_5), (6, .int v84_6), (7, .int v14_7), (8, .int v32_8), (9, .int v84_9)] → W p l e ({ frames := 6, cells := 0, slots := 0, locals := 147 }) s m (List.toArray [.ref (ad 155), .int a1, .int a2, .int a3]) below meth c H locs 0 0 (MQ below (va_Qi (P_X4_tellBest_1 ad cy B qr s1 a1 a2 a3 w0) (fun u : va_W => wpost dC dI cy A u) A) (List.toArray [.ref (ad 155), .int a1, .int a2, .int a3]) s 0 0 A) (F0 m 84 ls []) := by
            intro v84_4 v84_5 v84_6 v84_9 H locs ls w34 r35 t36 r37 t38 r39 t40 r41 t42 r43 t44 t45 r46 t47 r48 t49 r50 t51 hw hT hF c52 hl
            obtain ⟨x53, ex53⟩ : ∃ y : Int32, y = v32_8 + Int32.ofInt 1 := ⟨_, rfl⟩
            refine lv_iinc (v := x53) (lv' := [(8, .int x53), (0, .ref (ad 155)), (1, .int a1), (2, .int a2), (3, .int a3), (4, .int v84_4), (5, .int v84_5), (6, .int v84_6), (7, .int v14_7), (9, .int v84_9)]) hx hb dX4_tellBest_84 hl (k := 8) rfl ex53.symm (by decide) rfl (fun ls hl => ?_)
            have ex53 : x53.toInt = v32_8.toInt + 1 := by rw [ex53]; exact wk_add (y := 1) (show -2147483648 ≤ v32_8.toInt + 1 by omega) (show v32_8.toInt + 1 ≤ 2147483647 by omega)
            refine lv_goto (tgt := 32) hx hb dX4_tellBest_87 (by decide) ?_
            exact ih32 v84_4 v84_5 v84_6 x53 f32_39_8 H locs ls w34 (show 1 ≤ a1.toInt by omega) (show a1.toInt ≤ 9 by omega) (show 0 ≤ a2.toInt by omega) (show a2.toInt ≤ 99999 by omega) (show 0 ≤ a3.toInt by omega) (show a3.toInt ≤ 2 by omega) (show 0 ≤ v84_4.toInt by omega) (show v84_4.toInt ≤ 9 by omega) (show 1 ≤ v84_5.toInt by omega) (show v84_5.toInt ≤ 9 by omega) (show v84_6.toInt ≤ 14007 by omega) (show 0 ≤ v14_7.toInt by omega) (show v14_7.toInt ≤ 9 by omega) (show 1 ≤ x53.toInt by omega) (show x53.toInt ≤ 10 by omega) (show 1 ≤ f32_39_8.toInt by omega) (show f32_39_8.toInt ≤ 10 by omega) (show (10 - x53.toInt).toNat < n32 by omega) hw hT hF c52 (lv_sub hl [1, 2, 3, 4, 5, 6, 7, 8, 0] rfl)
          refine lv_iload hx hb dX4_tellBest_32 (lv_at hl 8 rfl) ?_
          refine lv_aload_n hx hb dX4_tellBest_34 rfl (lv_at hl 0 rfl) ?_
          refine tk_getA hC hK hw hT hinX4 kC_at155 (by decide) rfl 1 (by decide) (List.mem_of_getElem? (i := 1) rfl) rfl rfl dX4_tellBest_35 ?_
          refine tk_geti hC hK hw hT hinX7 kC_at39 (by decide) rfl 8 (by decide) (List.mem_of_getElem? (i := 2) rfl) rfl rfl dX4_tellBest_38 (fun x54 c55 rx54 tx54 => ?_)
          refine wk_top f32_39_8 (c55.symm.trans c33) ?_
          refine lv_icmp_ge (tgt := 90) hx hb dX4_tellBest_41 (by decide) (fun c56 => ?_) (fun c56 => ?_)
          · have c56 : f32_39_8.toInt ≤ v32_8.toInt := wk_le.mp c56
            obtain ⟨x57, ex57⟩ : ∃ y : Int32, y = v14_7 + Int32.ofInt 1 := ⟨_, rfl⟩
            refine lv_iinc (v := x57) (lv' := [(7, .int x57), (0, .ref (ad 155)), (1, .int a1), (2, .int a2), (3, .int a3), (4, .int v32_4), (5, .int v32_5), (6, .int v32_6), (8, .int v32_8)]) hx hb dX4_tellBest_90 hl (k := 7) rfl ex57.symm (by decide) rfl (fun ls hl => ?_)
            have ex57 : x57.toInt = v14_7.toInt + 1 := by rw [ex57]; exact wk_add (y := 1) (show -2147483648 ≤ v14_7.toInt + 1 by omega) (show v14_7.toInt + 1 ≤ 2147483647 by omega)
            refine lv_goto (tgt := 14) hx hb dX4_tellBest_93 (by decide) ?_
            exact ih14 v32_4 v32_5 v32_6 x57 H locs ls w15 (show 1 ≤ a1.toInt by omega) (show a1.toInt ≤ 9 by omega) (show 0 ≤ a2.toInt by omega) (show a2.toInt ≤ 99999 by omega) (show 0 ≤ a3.toInt by omega) (show a3.toInt ≤ 2 by omega) (show 0 ≤ v32_4.toInt by omega) (show v32_4.toInt ≤ 9 by omega) (show 1 ≤ v32_5.toInt by omega) (show v32_5.toInt ≤ 9 by omega) (show v32_6.toInt ≤ 14007 by omega) (show 0 ≤ x57.toInt by omega) (show x57.toInt ≤ 10 by omega) (show (10 - x57.toInt).toNat < n14 by omega) hw hT hF  (lv_sub hl [1, 2, 3, 4, 5, 6, 7, 0] rfl)
          · have c56 : v32_8.toInt < f32_39_8.toInt := wk_leF c56
            refine lv_aload_n hx hb dX4_tellBest_44 rfl (lv_at hl 0 rfl) ?_
            refine tk_getA hC hK hw hT hinX4 kC_at155 (by decide) rfl 1 (by decide) (List.mem_of_getElem? (i := 1) rfl) rfl rfl dX4_tellBest_45 ?_
            refine lv_iload hx hb dX4_tellBest_48 (lv_at hl 7 rfl) ?_
            refine lv_iload hx hb dX4_tellBest_50 (lv_at hl 8 rfl) ?_
            refine lv_iload_n hx hb dX4_tellBest_52 rfl (lv_at hl 1 rfl) ?_
            refine tk_Vv hC hK hw hT hA hE hSR kC_at39 (by decide) rfl (k_X7_tryStreet_1 l adK adV dC dI cy ad B (by omega) (by omega) qr s1   v14_7 (show 0 ≤ v14_7.toInt by omega) (show v14_7.toInt ≤ 9 by omega) v32_8 (show 1 ≤ v32_8.toInt by omega) (show v32_8.toInt ≤ 9 by omega) a1 (show 1 ≤ a1.toInt by omega) (show a1.toInt ≤ 9 by omega) w15 H.size hT ) (cwV 3 hC.2.2.2.2 gX4_tellBest_X7_tryStreet rfl rfl rfl (by decide +kernel) ⟨Nat.le_of_ble_eq_true rfl, Nat.le_of_ble_eq_true rfl⟩) rfl hl.1 rfl (Nat.le_of_ble_eq_true rfl) dX4_tellBest_53 (fun w60 H locs hp59 hw => ?_)
            obtain ⟨hT, k61, hg62⟩ := hp59
            have hF := hF.tr k61 (by decide)
            have c63 := k61.gi kC_at39 (by decide) c33
            clear hg62
            refine lv_aload_n hx hb dX4_tellBest_56 rfl (lv_at hl 0 rfl) ?_
            refine lv_iload_n hx hb dX4_tellBest_57 rfl (lv_at hl 2 rfl) ?_
            refine lv_iload hx hb dX4_tellBest_58 (lv_at hl 6 rfl) ?_
            refine tk_Vi hC hK hw hT hA hE hSR kC_at155 (by decide) rfl (k_X4_sumOfErrands_1 l adK adV dC dI cy ad B (by omega) (by omega) qr s1   a2 (show 0 ≤ a2.toInt by omega) (show a2.toInt ≤ 99999 by omega) v32_6 (show v32_6.toInt ≤ 14007 by omega) w60 H.size hT ) (cwV 2 hC.2.2.2.2 gX4_tellBest_X4_sumOfErrands rfl rfl rfl (by decide +kernel) ⟨Nat.le_of_ble_eq_true rfl, Nat.le_of_ble_eq_true rfl⟩) rfl hl.1 rfl (Nat.le_of_ble_eq_true rfl) dX4_tellBest_60 (fun r64 w66 H locs hp65 hw => ?_)
            obtain ⟨hT, k67, hg68⟩ := hp65
            have hF := hF.tr k67 (by decide)
            have c69 := k67.gi kC_at39 (by decide) c63
            clear hg68
            refine lv_istore (lv' := [(9, .int r64), (0, .ref (ad 155)), (1, .int a1), (2, .int a2), (3, .int a3), (4, .int v32_4), (5, .int v32_5), (6, .int v32_6), (7, .int v14_7), (8, .int v32_8)]) hx hb dX4_tellBest_63 hl (by decide) rfl (fun ls hl => ?_)
            refine lv_iload hx hb dX4_tellBest_65 (lv_at hl 0 rfl) ?_
            refine lv_iload hx hb dX4_tellBest_67 (lv_at hl 7 rfl) ?_
            refine lv_icmp_ge (tgt := 84) hx hb dX4_tellBest_69 (by decide) (fun c70 => ?_) (fun c70 => ?_)
            · have c70 : v32_6.toInt ≤ r64.toInt := wk_le.mp c70
              exact J84 v32_4 v32_5 v32_6 r64 H locs ls w66 (show 1 ≤ a1.toInt by omega) (show a1.toInt ≤ 9 by omega) (show 0 ≤ a2.toInt by omega) (show a2.toInt ≤ 99999 by omega) (show 0 ≤ a3.toInt by omega) (show a3.toInt ≤ 2 by omega) (show 0 ≤ v32_4.toInt by omega) (show v32_4.toInt ≤ 9 by omega) (show 1 ≤ v32_5.toInt by omega) (show v32_5.toInt ≤ 9 by omega) (show v32_6.toInt ≤ 14007 by omega) (show 0 ≤ v14_7.toInt by omega) (show v14_7.toInt ≤ 9 by omega) (show 1 ≤ v32_8.toInt by omega) (show v32_8.toInt ≤ 9 by omega) (show 2 ≤ f32_39_8.toInt by omega) (show f32_39_8.toInt ≤ 10 by omega)  hw hT hF c69 (lv_sub hl [1, 2, 3, 4, 5, 6, 7, 8, 9, 0] rfl)
            · have c70 : r64.toInt < v32_6.toInt := wk_leF c70
              refine lv_iload hx hb dX4_tellBest_72 (lv_at hl 0 rfl) ?_
              refine lv_istore (lv' := [(6, .int r64), (9, .int r64), (0, .ref (ad 155)), (1, .int a1), (2, .int a2), (3, .int a3), (4, .int v32_4), (5, .int v32_5), (7, .int v14_7), (8, .int v32_8)]) hx hb dX4_tellBest_74 hl (by decide) rfl (fun ls hl => ?_)
              refine lv_iload hx hb dX4_tellBest_76 (lv_at hl 8 rfl) ?_
              refine lv_istore (lv' := [(4, .int v14_7), (6, .int r64), (9, .int r64), (0, .ref (ad 155)), (1, .int a1), (2, .int a2), (3, .int a3), (5, .int v32_5), (7, .int v14_7), (8, .int v32_8)]) hx hb dX4_tellBest_78 hl (by decide) rfl (fun ls hl => ?_)
              refine lv_iload hx hb dX4_tellBest_80 (lv_at hl 9 rfl) ?_
              refine lv_istore (lv' := [(5, .int v32_8), (4, .int v14_7), (6, .int r64), (9, .int r64), (0, .ref (ad 155)), (1, .int a1), (2, .int a2), (3, .int a3), (7, .int v14_7), (8, .int v32_8)]) hx hb dX4_tellBest_82 hl (by decide) rfl (fun ls hl => ?_)
              exact J84 v14_7 v32_8 r64 r64 H locs ls w66 (show 1 ≤ a1.toInt by omega) (show a1.toInt ≤ 9 by omega) (show 0 ≤ a2.toInt by omega) (show a2.toInt ≤ 99999 by omega) (show 0 ≤ a3.toInt by omega) (show a3.toInt ≤ 2 by omega) (show 0 ≤ v14_7.toInt by omega) (show v14_7.toInt ≤ 9 by omega) (show 1 ≤ v32_8.toInt by omega) (show v32_8.toInt ≤ 9 by omega) (show r64.toInt ≤ 14007 by omega) (show 0 ≤ v14_7.toInt by omega) (show v14_7.toInt ≤ 9 by omega) (show 1 ≤ v32_8.toInt by omega) (show v32_8.toInt ≤ 9 by omega) (show 2 ≤ f32_39_8.toInt by omega) (show f32_39_8.toInt ≤ 10 by omega)  hw hT hF c69 (lv_sub hl [4, 5, 6, 7, 1, 0, 2, 8, 9, 3] rfl)
      refine lv_iload hx hb dX4_tellBest_14 (lv_at hl 7 rfl) ?_
      refine lv_aload_n hx hb dX4_tellBest_16 rfl (lv_at hl 0 rfl) ?_
      refine tk_getA hC hK hw hT hinX4 kC_at155 (by decide) rfl 1 (by decide) (List.mem_of_getElem? (i := 1) rfl) rfl rfl dX4_tellBest_17 ?_
      refine tk_geti hC hK hw hT hinX7 kC_at39 (by decide) rfl 8 (by decide) (List.mem_of_getElem? (i := 2) rfl) rfl rfl dX4_tellBest_20 (fun x71 c72 rx71 tx71 => ?_)
      refine lv_icmp_ge (tgt := 96) hx hb dX4_tellBest_23 (by decide) (fun c73 => ?_) (fun c73 => ?_)
      · have c73 : x71.toInt ≤ v14_7.toInt := wk_le.mp c73
        refine lv_iload_n hx hb dX4_tellBest_96 rfl (lv_at hl 3 rfl) ?_
        refine lv_iconst (v := 2) hx hb dX4_tellBest_97 (by decide) ?_
        refine lv_icmp_ne (tgt := 104) hx hb dX4_tellBest_98 (by decide) (fun c74 => ?_) (fun c74 => ?_)
        · have c74 : ¬ a3.toInt = (2 : Int) := wk_eqF c74
          refine lv_iload_n hx hb dX4_tellBest_104 rfl (lv_at hl 3 rfl) ?_
          refine lv_if_ne (tgt := 113) hx hb dX4_tellBest_105 (by decide) (fun c75 => ?_) (fun c75 => ?_)
          · have c75 : ¬ a3.toInt = (0 : Int) := wk_eqF c75
            refine lv_iload hx hb dX4_tellBest_113 (lv_at hl 5 rfl) ?_
            exact tk_iret hC hr hlocks hK ⟨hT, hF, (Or.inr ⟨(show 0 ≤ v14_5.toInt by omega), (show v14_5.toInt ≤ 9 by omega), (show a3.toInt ≤ 1 by omega)⟩)⟩ hw dX4_tellBest_115
          · have c75 : a3.toInt = (0 : Int) := wk_eq.mp c75
            refine lv_iload hx hb dX4_tellBest_108 (lv_at hl 4 rfl) ?_
            refine lv_goto (tgt := 115) hx hb dX4_tellBest_110 (by decide) ?_
            exact tk_iret hC hr hlocks hK ⟨hT, hF, (Or.inr ⟨(show 0 ≤ v14_4.toInt by omega), (show v14_4.toInt ≤ 9 by omega), (show a3.toInt ≤ 1 by omega)⟩)⟩ hw dX4_tellBest_115
        · have c74 : a3.toInt = (2 : Int) := wk_eq.mp c74
          refine lv_iload hx hb dX4_tellBest_101 (lv_at hl 6 rfl) ?_
          exact tk_iret hC hr hlocks hK ⟨hT, hF, (Or.inl ⟨(show v14_6.toInt ≤ 14007 by omega), (show 2 ≤ a3.toInt by omega)⟩)⟩ hw dX4_tellBest_103
      · have c73 : v14_7.toInt < x71.toInt := wk_leF c73
        refine lv_iload hx hb dX4_tellBest_26 (lv_at hl 7 rfl) ?_
        refine lv_iconst (v := 1) hx hb dX4_tellBest_28 (by decide) ?_
        refine lv_iadd hx hb dX4_tellBest_29 ?_
        refine lv_topi (fun x76 ex76 => ?_)
        have ex76 : x76.toInt = v14_7.toInt + (1 : Int) := by rw [ex76]; exact wk_add (show (-2147483648) ≤ v14_7.toInt + (1 : Int) by omega) (show v14_7.toInt + (1 : Int) ≤ 2147483647 by omega)
        refine lv_istore (lv' := [(8, .int x76), (0, .ref (ad 155)), (1, .int a1), (2, .int a2), (3, .int a3), (4, .int v14_4), (5, .int v14_5), (6, .int v14_6), (7, .int v14_7)]) hx hb dX4_tellBest_30 hl (by decide) rfl (fun ls hl => ?_)
        exact L32 ((10 - x76.toInt).toNat + 1) v14_4 v14_5 v14_6 x76 x71 H locs ls w1 (show 1 ≤ a1.toInt by omega) (show a1.toInt ≤ 9 by omega) (show 0 ≤ a2.toInt by omega) (show a2.toInt ≤ 99999 by omega) (show 0 ≤ a3.toInt by omega) (show a3.toInt ≤ 2 by omega) (show 0 ≤ v14_4.toInt by omega) (show v14_4.toInt ≤ 9 by omega) (show 1 ≤ v14_5.toInt by omega) (show v14_5.toInt ≤ 9 by omega) (show v14_6.toInt ≤ 14007 by omega) (show 0 ≤ v14_7.toInt by omega) (show v14_7.toInt ≤ 9 by omega) (show 1 ≤ x76.toInt by omega) (show x76.toInt ≤ 10 by omega) (show 1 ≤ x71.toInt by omega) (show x71.toInt ≤ 10 by omega) (Nat.lt_succ_self _) hw hT hF c72 (lv_sub hl [1, 2, 3, 4, 5, 6, 7, 8, 0] rfl)
  refine lv_iconst (v := 0) hx hb dX4_tellBest_0 (by decide) ?_
  refine lv_istore (lv' := [(4, .int 0), (0, .ref (ad 155)), (1, .int a1), (2, .int a2), (3, .int a3)]) hx hb dX4_tellBest_1 hl (by decide) rfl (fun ls hl => ?_)
  refine lv_iconst (v := 1) hx hb dX4_tellBest_3 (by decide) ?_
  refine lv_istore (lv' := [(5, .int 1), (4, .int 0), (0, .ref (ad 155)), (1, .int a1), (2, .int a2), (3, .int a3)]) hx hb dX4_tellBest_4 hl (by decide) rfl (fun ls hl => ?_)
  refine lv_sipush (v := 14007) hx hb dX4_tellBest_6 (by decide) ?_
  refine lv_istore (lv' := [(6, .int 14007), (5, .int 1), (4, .int 0), (0, .ref (ad 155)), (1, .int a1), (2, .int a2), (3, .int a3)]) hx hb dX4_tellBest_9 hl (by decide) rfl (fun ls hl => ?_)
  refine lv_iconst (v := 0) hx hb dX4_tellBest_11 (by decide) ?_
  refine lv_istore (lv' := [(7, .int 0), (6, .int 14007), (5, .int 1), (4, .int 0), (0, .ref (ad 155)), (1, .int a1), (2, .int a2), (3, .int a3)]) hx hb dX4_tellBest_12 hl (by decide) rfl (fun ls hl => ?_)
  exact L14 ((10 - (0 : Int)).toNat + 1) 0 1 14007 0 s.heap locs ls w0 (show 1 ≤ a1.toInt by omega) (show a1.toInt ≤ 9 by omega) (show 0 ≤ a2.toInt by omega) (show a2.toInt ≤ 99999 by omega) (show 0 ≤ a3.toInt by omega) (show a3.toInt ≤ 2 by omega) (by decide) (by decide) (by decide) (by decide) (by decide) (by decide) (by decide) (Nat.lt_succ_self _) hw hT hF  (lv_sub hl [4, 5, 6, 7, 3, 2, 1, 0] rfl)
abbrev P_X11_built_1 (ad : Nat → Nat) (cy : Nat → ClassId) (B : Int) (qr : Nat) (s1 : Int) (a1 : Int32) (a2 : Int32) (a3 : Int32) (w0 : va_W) : Int32 → va_W → Prop := fun r u => TW ksC ad cy B qr s1 u ∧ FE ksC [(24, 0, 26), (25, 0, 13), (26, 0, 91), (27, 0, 13), (28, 0, 26), (31, 0, 13), (48, 0, 10), (49, 0, 10)] w0 u ∧ ((r.toInt ≤ 14007 ∧ 1 ≤ a1.toInt ∧ a1.toInt ≤ 9 ∧ 0 ≤ a2.toInt ∧ a2.toInt ≤ 99999 ∧ 2 ≤ a3.toInt ∧ a3.toInt ≤ 2 ∧ (∃ y : Int32, gi u 39 8 = y ∧ 1 ≤ y.toInt ∧ y.toInt ≤ 10)) ∨ (0 ≤ r.toInt ∧ r.toInt ≤ 9 ∧ 1 ≤ a1.toInt ∧ a1.toInt ≤ 9 ∧ 0 ≤ a2.toInt ∧ a2.toInt ≤ 99999 ∧ 0 ≤ a3.toInt ∧ a3.toInt ≤ 1 ∧ (∃ y : Int32, gi u 39 8 = y ∧ 1 ≤ y.toInt ∧ y.toInt ≤ 10)) ∨ (r = (-1)))
set_option maxHeartbeats 4000000 in
set_option maxRecDepth 100000 in
theorem k_X11_built_1 (l : Launch) (adK adV : Nat → Nat) (dC : Nat → ClassId) (dI : Nat → Nat → Nat) (cy : Nat → ClassId) (ad : Nat → Nat) (B : Int) (hB0 : 2147483648 ≤ B) (hB1 : B ≤ 1152921504606846976) (qr : Nat) (s1 : Int)  (a1 : Int32) (a2 : Int32) (a3 : Int32) (w0 : va_W) (sz : Nat) (hT : TW ksC ad cy B qr s1 w0)  : Met l yX11_built wsX11_built ({ frames := 7, cells := 0, slots := 0, locals := 176 }) (va_Pc [.ref (ad 0), .int a1, .int a2, .int a3] (wpreS adK adV dC dI cy sz w0)) (va_Qi (P_X11_built_1 ad cy B qr s1 a1 a2 a3 w0) (fun u : va_W => wpost dC dI cy (va_A w0 sz) u) (va_A w0 sz)) 0 0 (va_A w0 sz) := by
  refine Met.ofW (cc := cX11_built) (maxL := 4) (ret := (some .int)) (by decide) rfl ?_
  intro p e s m args below meth c s₁ Bk hml hv
  obtain ⟨rfl, ⟨hsz, hP, hK, hD0⟩, hE, hSR⟩ := hv
  have hx := Bk.exec
  have hb := Bk.bytes
  have hr := Bk.returns
  have hlocks := Bk.notSynchronized
  have hC : CallFix p m c cX11_built 4 s _ wsX11_built RX11 := ⟨hx, hb, hml, findClass_of_methodNamed Bk.named, atoms_spec (ws := wsX11_built) Bk.pre⟩
  subst hsz
  have hD := hD0.self (sz := s.heap.size)
  generalize hAe : va_A w0 s.heap.size = A at hD hE ⊢
  have hA : ∀ q : Nat, s.heap.size ≤ q → A q := fun q h => by rw [← hAe]; exact Or.inr h
  have hw : Wd dC dI A s.heap s.heap [] w0 := ⟨hP, hD, va_S.rf⟩
  have hF : FE ksC [(24, 0, 26), (25, 0, 13), (26, 0, 91), (27, 0, 13), (28, 0, 26), (31, 0, 13), (48, 0, 10), (49, 0, 10)] w0 w0 := FE.rf
  have hl := lv_entry ([.ref (ad 0), .int a1, .int a2, .int a3]) (n := 4) (Nat.le_of_ble_eq_true rfl)
  rw [lg_entry_eq]
  generalize (lg_sl ([.ref (ad 0), .int a1, .int a2, .int a3]) ++ List.replicate (4 - (lg_sl ([.ref (ad 0), .int a1, .int a2, .int a3])).length) Slot.unset).toArray = ls at hl ⊢
  have hl : lv_has ls 4 [(0, .ref (ad 0)), (1, .int a1), (2, .int a2), (3, .int a3)] := hl
  generalize hloc : ([] : List Loc) = locs at hw ⊢
  have hinX11 : ∀ w ∈ u_ws RX11 TX11 13, w ∈ wsX11_built := fun _ h => List.mem_cons_of_mem _ (List.mem_append_left _ (List.mem_append_left _ (List.mem_append_left _ (List.mem_append_right _ (h)))))
  have J28 : ∀ (f28_39_8 : Int32) (H : Heap) (locs : List Loc) (ls : Array Slot) (w1 : va_W), (-1) ≤ f28_39_8.toInt → f28_39_8.toInt ≤ 10 → Wd dC dI A s.heap H locs w1 → TW ksC ad cy B qr s1 w1 → FE ksC [(24, 0, 26), (25, 0, 13), (26, 0, 91), (27, 0, 13), (28, 0, 26), (31, 0, 13), (48, 0, 10), (49, 0, 10)] w0 w1 → gi w1 39 8 = f28_39_8 → lv_has ls 4 [(0, .ref (ad 0)), (1, .int a1), (2, .int a2), (3, .int a3)] → W p l e ({ frames := 7, cells := 0, slots := 0, locals := 176 }) s m (List.toArray [.ref (ad 0), .int a1, .int a2, .int a3]) below meth c H locs 0 0 (MQ below (va_Qi (P_X11_built_1 ad cy B qr s1 a1 a2 a3 w0) (fun u : va_W => wpost dC dI cy A u) A) (List.toArray [.ref (ad 0), .int a1, .int a2, .int a3]) s 0 0 A) (F0 m 28 ls []) := by
    intro f28_39_8 H locs ls w1 r2 t3 hw hT hF c4 hl
    refine lv_iconst (v := (-1)) hx hb dX11_built_28 (by decide) ?_
    exact tk_iret hC hr hlocks hK ⟨hT, hF, (Or.inr (Or.inr rfl))⟩ hw dX11_built_29
  have J39 : ∀ (f39_39_8 : Int32) (H : Heap) (locs : List Loc) (ls : Array Slot) (w5 : va_W), 1 ≤ a1.toInt → a1.toInt ≤ 9 → 0 ≤ a2.toInt → a2.toInt ≤ 99999 → 1 ≤ f39_39_8.toInt → f39_39_8.toInt ≤ 10 → Wd dC dI A s.heap H locs w5 → TW ksC ad cy B qr s1 w5 → FE ksC [(24, 0, 26), (25, 0, 13), (26, 0, 91), (27, 0, 13), (28, 0, 26), (31, 0, 13), (48, 0, 10), (49, 0, 10)] w0 w5 → gi w5 39 8 = f39_39_8 → lv_has ls 4 [(0, .ref (ad 0)), (1, .int a1), (2, .int a2), (3, .int a3)] → W p l e ({ frames := 7, cells := 0, slots := 0, locals := 176 }) s m (List.toArray [.ref (ad 0), .int a1, .int a2, .int a3]) below meth c H locs 0 0 (MQ below (va_Qi (P_X11_built_1 ad cy B qr s1 a1 a2 a3 w0) (fun u : va_W => wpost dC dI cy A u) A) (List.toArray [.ref (ad 0), .int a1, .int a2, .int a3]) s 0 0 A) (F0 m 39 ls []) := by
    intro f39_39_8 H locs ls w5 r6 t7 r8 t9 r10 t11 hw hT hF c12 hl
    refine lv_iconst (v := (-1)) hx hb dX11_built_39 (by decide) ?_
    refine lv_goto (tgt := 53) hx hb dX11_built_40 (by decide) ?_
    exact tk_iret hC hr hlocks hK ⟨hT, hF, (Or.inr (Or.inr rfl))⟩ hw dX11_built_53
  refine lv_aload_n hx hb dX11_built_0 rfl (lv_at hl 0 rfl) ?_
  refine tk_getA hC hK hw hT hinX11 kC_at0 (by decide) rfl 4 (by decide) (List.mem_of_getElem? (i := 1) rfl) rfl rfl dX11_built_1 ?_
  refine tk_Vi hC hK hw hT hA hE hSR kC_at38 (by decide) rfl (k_X5_hasTown_1 l adK adV dC dI cy ad B (by omega) (by omega) qr s1    w0 s.heap.size hT ) (cwV 0 hC.2.2.2.2 gX11_built_X5_hasTown rfl rfl rfl (by decide +kernel) ⟨Nat.le_of_ble_eq_true rfl, Nat.le_of_ble_eq_true rfl⟩) rfl hl.1 rfl (Nat.le_of_ble_eq_true rfl) dX11_built_4 (fun r13 w15 H locs hp14 hw => ?_)
  obtain ⟨hT, k16, hg21⟩ := hp14
  have hF := hF.tr k16 (by decide)
  rcases hg21 with ⟨rfl, ⟨x17, c18, rx17, tx17⟩⟩ | ⟨rfl, ⟨x19, c20, rx19, tx19⟩⟩
  · refine lv_if_eq (tgt := 28) hx hb dX11_built_7 (by decide) (fun _ => ?_) (fun c => absurd (by decide) c)
    exact J28 x17 H locs ls w15 (show (-1) ≤ x17.toInt by omega) (show x17.toInt ≤ 10 by omega)  hw hT hF c18 (lv_sub hl [0, 1, 2, 3] rfl)
  · refine lv_if_eq (tgt := 28) hx hb dX11_built_7 (by decide) (fun c => absurd c (by decide)) (fun _ => ?_)
    refine lv_iload_n hx hb dX11_built_10 rfl (lv_at hl 1 rfl) ?_
    refine lv_iconst (v := 1) hx hb dX11_built_11 (by decide) ?_
    refine lv_icmp_lt (tgt := 28) hx hb dX11_built_12 (by decide) (fun c22 => ?_) (fun c22 => ?_)
    · have c22 : a1.toInt < (1 : Int) := wk_lt.mp c22
      exact J28 x19 H locs ls w15 (show (-1) ≤ x19.toInt by omega) (show x19.toInt ≤ 10 by omega)  hw hT hF c20 (lv_sub hl [0, 1, 2, 3] rfl)
    · have c22 : (1 : Int) ≤ a1.toInt := wk_ltF c22
      refine lv_iload_n hx hb dX11_built_15 rfl (lv_at hl 1 rfl) ?_
      refine lv_bipush (v := 9) hx hb dX11_built_16 (by decide) ?_
      refine lv_icmp_gt (tgt := 28) hx hb dX11_built_18 (by decide) (fun c23 => ?_) (fun c23 => ?_)
      · have c23 : (9 : Int) < a1.toInt := wk_lt.mp c23
        exact J28 x19 H locs ls w15 (show (-1) ≤ x19.toInt by omega) (show x19.toInt ≤ 10 by omega)  hw hT hF c20 (lv_sub hl [0, 1, 2, 3] rfl)
      · have c23 : a1.toInt ≤ (9 : Int) := wk_ltF c23
        refine lv_iload_n hx hb dX11_built_21 rfl (lv_at hl 2 rfl) ?_
        refine tk_Si hC hK hw hT hA hE hSR (k_X11_isAskedHour_1 l adK adV dC dI cy ad B (by omega) (by omega) qr s1   a2 w15 H.size hT ) (va_cwS 1 hC.2.2.2.2 gX11_built_X11_isAskedHour rfl rfl rfl (by decide +kernel) ⟨Nat.le_of_ble_eq_true rfl, Nat.le_of_ble_eq_true rfl⟩) rfl hl.1 rfl (Nat.le_of_ble_eq_true rfl) dX11_built_22 (fun r24 w26 H locs hp25 hw => ?_)
        obtain ⟨hT, k27, hg30⟩ := hp25
        have hF := hF.tr k27 (by decide)
        have c31 := k27.gi kC_at39 (by decide) c20
        rcases hg30 with rfl | ⟨rfl, g28, g29⟩
        · refine lv_if_ne (tgt := 30) hx hb dX11_built_25 (by decide) (fun c => absurd (by decide) c) (fun _ => ?_)
          exact J28 x19 H locs ls w26 (show (-1) ≤ x19.toInt by omega) (show x19.toInt ≤ 10 by omega)  hw hT hF c31 (lv_sub hl [0, 1, 2, 3] rfl)
        · refine lv_if_ne (tgt := 30) hx hb dX11_built_25 (by decide) (fun _ => ?_) (fun c => absurd c (by decide))
          refine lv_iload_n hx hb dX11_built_30 rfl (lv_at hl 3 rfl) ?_
          refine lv_if_lt (tgt := 39) hx hb dX11_built_31 (by decide) (fun c32 => ?_) (fun c32 => ?_)
          · have c32 : a3.toInt < (0 : Int) := wk_lt.mp c32
            exact J39 x19 H locs ls w26 (show 1 ≤ a1.toInt by omega) (show a1.toInt ≤ 9 by omega) (show 0 ≤ a2.toInt by omega) (show a2.toInt ≤ 99999 by omega) (show 1 ≤ x19.toInt by omega) (show x19.toInt ≤ 10 by omega)  hw hT hF c31 (lv_sub hl [0, 1, 2, 3] rfl)
          · have c32 : (0 : Int) ≤ a3.toInt := wk_ltF c32
            refine lv_iload_n hx hb dX11_built_34 rfl (lv_at hl 3 rfl) ?_
            refine lv_iconst (v := 2) hx hb dX11_built_35 (by decide) ?_
            refine lv_icmp_le (tgt := 43) hx hb dX11_built_36 (by decide) (fun c33 => ?_) (fun c33 => ?_)
            · have c33 : a3.toInt ≤ (2 : Int) := wk_le.mp c33
              refine lv_aload_n hx hb dX11_built_43 rfl (lv_at hl 0 rfl) ?_
              refine tk_getA hC hK hw hT hinX11 kC_at0 (by decide) rfl 10 (by decide) (List.mem_of_getElem? (i := 2) rfl) rfl rfl dX11_built_44 ?_
              refine lv_iload_n hx hb dX11_built_47 rfl (lv_at hl 1 rfl) ?_
              refine lv_iload_n hx hb dX11_built_48 rfl (lv_at hl 2 rfl) ?_
              refine lv_iload_n hx hb dX11_built_49 rfl (lv_at hl 3 rfl) ?_
              refine tk_Vi hC hK hw hT hA hE hSR kC_at155 (by decide) rfl (k_X4_tellBest_1 l adK adV dC dI cy ad B (by omega) (by omega) qr s1   a1 (show 1 ≤ a1.toInt by omega) (show a1.toInt ≤ 9 by omega) a2 (show 0 ≤ a2.toInt by omega) (show a2.toInt ≤ 99999 by omega) a3 (show 0 ≤ a3.toInt by omega) (show a3.toInt ≤ 2 by omega) w26 H.size hT ) (cwV 3 hC.2.2.2.2 gX11_built_X4_tellBest rfl rfl rfl (by decide +kernel) ⟨Nat.le_of_ble_eq_true rfl, Nat.le_of_ble_eq_true rfl⟩) rfl hl.1 rfl (Nat.le_of_ble_eq_true rfl) dX11_built_50 (fun r34 w36 H locs hp35 hw => ?_)
              obtain ⟨hT, k37, hg43⟩ := hp35
              have hF := hF.tr k37 (by decide)
              have c44 := k37.gi kC_at39 (by decide) c31
              rcases hg43 with ⟨g38, g39⟩ | ⟨g40, g41, g42⟩
              · exact tk_iret hC hr hlocks hK ⟨hT, hF, (Or.inl ⟨(show r34.toInt ≤ 14007 by omega), (show 1 ≤ a1.toInt by omega), (show a1.toInt ≤ 9 by omega), (show 0 ≤ a2.toInt by omega), (show a2.toInt ≤ 99999 by omega), (show 2 ≤ a3.toInt by omega), (show a3.toInt ≤ 2 by omega), ⟨x19, c44, (show 1 ≤ x19.toInt by omega), (show x19.toInt ≤ 10 by omega)⟩⟩)⟩ hw dX11_built_53
              · exact tk_iret hC hr hlocks hK ⟨hT, hF, (Or.inr (Or.inl ⟨(show 0 ≤ r34.toInt by omega), (show r34.toInt ≤ 9 by omega), (show 1 ≤ a1.toInt by omega), (show a1.toInt ≤ 9 by omega), (show 0 ≤ a2.toInt by omega), (show a2.toInt ≤ 99999 by omega), (show 0 ≤ a3.toInt by omega), (show a3.toInt ≤ 1 by omega), ⟨x19, c44, (show 1 ≤ x19.toInt by omega), (show x19.toInt ≤ 10 by omega)⟩⟩))⟩ hw dX11_built_53
            · have c33 : (2 : Int) < a3.toInt := wk_leF c33
              exact J39 x19 H locs ls w26 (show 1 ≤ a1.toInt by omega) (show a1.toInt ≤ 9 by omega) (show 0 ≤ a2.toInt by omega) (show a2.toInt ≤ 99999 by omega) (show 1 ≤ x19.toInt by omega) (show x19.toInt ≤ 10 by omega)  hw hT hF c31 (lv_sub hl [0, 1, 2, 3] rfl)
abbrev P_X11_seed_1 (ad : Nat → Nat) (cy : Nat → ClassId) (B : Int) (qr : Nat) (s1 : Int) (a1 : Int32) (w0 : va_W) : Int32 → va_W → Prop := fun r u => TW ksC ad cy B qr s1 u ∧ FE ksC [(5, 13, 13)] w0 u ∧ ((0 ≤ r.toInt ∧ 0 ≤ a1.toInt) ∨ (r = (-1) ∧ a1.toInt ≤ (-1)))
set_option maxHeartbeats 4000000 in
set_option maxRecDepth 100000 in
theorem k_X11_seed_1 (l : Launch) (adK adV : Nat → Nat) (dC : Nat → ClassId) (dI : Nat → Nat → Nat) (cy : Nat → ClassId) (ad : Nat → Nat) (B : Int) (hB0 : 2147483648 ≤ B) (hB1 : B ≤ 1152921504606846976) (qr : Nat) (s1 : Int)  (a1 : Int32) (w0 : va_W) (sz : Nat) (hT : TW ksC ad cy B qr s1 w0)  : Met l yX11_seed wsX11_seed ({ frames := 1, cells := 0, slots := 0, locals := 12 }) (va_Pc [.ref (ad 0), .int a1] (wpreS adK adV dC dI cy sz w0)) (va_Qi (P_X11_seed_1 ad cy B qr s1 a1 w0) (fun u : va_W => wpost dC dI cy (va_A w0 sz) u) (va_A w0 sz)) 0 0 (va_A w0 sz) := by
  refine Met.ofW (cc := cX11_seed) (maxL := 3) (ret := (some .int)) (by decide) rfl ?_
  intro p e s m args below meth c s₁ Bk hml hv
  obtain ⟨rfl, ⟨hsz, hP, hK, hD0⟩, hE, hSR⟩ := hv
  have hx := Bk.exec
  have hb := Bk.bytes
  have hr := Bk.returns
  have hlocks := Bk.notSynchronized
  have hC : CallFix p m c cX11_seed 3 s _ wsX11_seed RX11 := ⟨hx, hb, hml, findClass_of_methodNamed Bk.named, atoms_spec (ws := wsX11_seed) Bk.pre⟩
  subst hsz
  have hD := hD0.self (sz := s.heap.size)
  generalize hAe : va_A w0 s.heap.size = A at hD hE ⊢
  have hA : ∀ q : Nat, s.heap.size ≤ q → A q := fun q h => by rw [← hAe]; exact Or.inr h
  have hw : Wd dC dI A s.heap s.heap [] w0 := ⟨hP, hD, va_S.rf⟩
  have hF : FE ksC [(5, 13, 13)] w0 w0 := FE.rf
  have hl := lv_entry ([.ref (ad 0), .int a1]) (n := 3) (Nat.le_of_ble_eq_true rfl)
  rw [lg_entry_eq]
  generalize (lg_sl ([.ref (ad 0), .int a1]) ++ List.replicate (3 - (lg_sl ([.ref (ad 0), .int a1])).length) Slot.unset).toArray = ls at hl ⊢
  have hl : lv_has ls 3 [(0, .ref (ad 0)), (1, .int a1)] := hl
  generalize hloc : ([] : List Loc) = locs at hw ⊢
  have hinX11 : ∀ w ∈ u_ws RX11 TX11 13, w ∈ wsX11_seed := fun _ h => List.mem_cons_of_mem _ (List.mem_append_left _ (List.mem_append_right _ (h)))
  have hinX5 : ∀ w ∈ u_ws RX5 TX5 14, w ∈ wsX11_seed := fun _ h => List.mem_cons_of_mem _ (List.mem_append_right _ (h))
  refine lv_iload_n hx hb dX11_seed_0 rfl (lv_at hl 1 rfl) ?_
  refine lv_if_ge (tgt := 6) hx hb dX11_seed_1 (by decide) (fun c1 => ?_) (fun c1 => ?_)
  · have c1 : (0 : Int) ≤ a1.toInt := wk_le.mp c1
    refine lv_aload_n hx hb dX11_seed_6 rfl (lv_at hl 0 rfl) ?_
    refine tk_getA hC hK hw hT hinX11 kC_at0 (by decide) rfl 4 (by decide) (List.mem_of_getElem? (i := 1) rfl) rfl rfl dX11_seed_7 ?_
    refine tk_geti hC hK hw hT hinX5 kC_at38 (by decide) rfl 13 (by decide) (List.mem_of_getElem? (i := 2) rfl) rfl rfl dX11_seed_10 (fun x2 c3 rx2 tx2 => ?_)
    refine lv_istore_n (lv' := [(2, .int x2), (0, .ref (ad 0)), (1, .int a1)]) hx hb dX11_seed_13 rfl hl (by decide) rfl (fun ls hl => ?_)
    refine lv_aload_n hx hb dX11_seed_14 rfl (lv_at hl 1 rfl) ?_
    refine tk_getA hC hK hw hT hinX11 kC_at0 (by decide) rfl 4 (by decide) (List.mem_of_getElem? (i := 1) rfl) rfl rfl dX11_seed_15 ?_
    refine lv_iload_n hx hb dX11_seed_18 rfl (lv_at hl 2 rfl) ?_
    refine tk_puti hC hK hw hT hinX5 tyX5_ok nmX5 kC_at38 (by decide) rfl rfl 13 (by decide) (List.mem_of_getElem? (i := 2) rfl) rfl rfl rfl rfl (show 0 ≤ a1.toInt by omega) (wk_i32 a1).2 dX11_seed_19 (fun H locs w4 hw hT k6 c5 => ?_)
    have hF := hF.put kC_at38 (k := 13) (by decide) k6
    refine lv_iload_n hx hb dX11_seed_22 rfl (lv_at hl 0 rfl) ?_
    exact tk_iret hC hr hlocks hK ⟨hT, hF, (Or.inl ⟨(show 0 ≤ x2.toInt by omega), (show 0 ≤ a1.toInt by omega)⟩)⟩ hw dX11_seed_23
  · have c1 : a1.toInt < (0 : Int) := wk_leF c1
    refine lv_iconst (v := (-1)) hx hb dX11_seed_4 (by decide) ?_
    exact tk_iret hC hr hlocks hK ⟨hT, hF, (Or.inr ⟨rfl, (show a1.toInt ≤ (-1) by omega)⟩)⟩ hw dX11_seed_5
abbrev P_X8_drawBelow_1 (ad : Nat → Nat) (cy : Nat → ClassId) (B : Int) (qr : Nat) (s1 : Int) (a1 : Int32) (w0 : va_W) : Int32 → va_W → Prop := fun r u => TW ksC ad cy B qr s1 u ∧ FE ksC [(8, 7, 7)] w0 u ∧ ((0 ≤ r.toInt ∧ r.toInt ≤ 9))
set_option maxHeartbeats 4000000 in
set_option maxRecDepth 100000 in
theorem k_X8_drawBelow_1 (l : Launch) (adK adV : Nat → Nat) (dC : Nat → ClassId) (dI : Nat → Nat → Nat) (cy : Nat → ClassId) (ad : Nat → Nat) (B : Int) (hB0 : 2147483648 ≤ B) (hB1 : B ≤ 1152921504606846976) (qr : Nat) (s1 : Int)  (a1 : Int32) (ra1 : (-1) ≤ a1.toInt) (ta1 : a1.toInt ≤ 10) (w0 : va_W) (sz : Nat) (hT : TW ksC ad cy B qr s1 w0)  : Met l yX8_drawBelow wsX8_drawBelow ({ frames := 1, cells := 0, slots := 0, locals := 12 }) (va_Pc [.ref (ad 151), .int a1] (wpreS adK adV dC dI cy sz w0)) (va_Qi (P_X8_drawBelow_1 ad cy B qr s1 a1 w0) (fun u : va_W => wpost dC dI cy (va_A w0 sz) u) (va_A w0 sz)) 0 0 (va_A w0 sz) := by
  refine Met.ofW (cc := cX8_drawBelow) (maxL := 2) (ret := (some .int)) (by decide) rfl ?_
  intro p e s m args below meth c s₁ Bk hml hv
  obtain ⟨rfl, ⟨hsz, hP, hK, hD0⟩, hE, hSR⟩ := hv
  have hx := Bk.exec
  have hb := Bk.bytes
  have hr := Bk.returns
  have hlocks := Bk.notSynchronized
  have hC : CallFix p m c cX8_drawBelow 2 s _ wsX8_drawBelow RX8 := ⟨hx, hb, hml, findClass_of_methodNamed Bk.named, atoms_spec (ws := wsX8_drawBelow) Bk.pre⟩
  subst hsz
  have hD := hD0.self (sz := s.heap.size)
  generalize hAe : va_A w0 s.heap.size = A at hD hE ⊢
  have hA : ∀ q : Nat, s.heap.size ≤ q → A q := fun q h => by rw [← hAe]; exact Or.inr h
  have hw : Wd dC dI A s.heap s.heap [] w0 := ⟨hP, hD, va_S.rf⟩
  have hF : FE ksC [(8, 7, 7)] w0 w0 := FE.rf
  have hl := lv_entry ([.ref (ad 151), .int a1]) (n := 2) (Nat.le_of_ble_eq_true rfl)
  rw [lg_entry_eq]
  generalize (lg_sl ([.ref (ad 151), .int a1]) ++ List.replicate (2 - (lg_sl ([.ref (ad 151), .int a1])).length) Slot.unset).toArray = ls at hl ⊢
  have hl : lv_has ls 2 [(0, .ref (ad 151)), (1, .int a1)] := hl
  generalize hloc : ([] : List Loc) = locs at hw ⊢
  have hinX8 : ∀ w ∈ u_ws RX8 TX8 8, w ∈ wsX8_drawBelow := fun _ h => List.mem_cons_of_mem _ (List.mem_append_right _ (h))
  refine lv_aload_n hx hb dX8_drawBelow_0 rfl (lv_at hl 0 rfl) ?_
  refine lv_aload_n hx hb dX8_drawBelow_1 rfl (lv_at hl 0 rfl) ?_
  refine tk_geti hC hK hw hT hinX8 kC_at151 (by decide) rfl 7 (by decide) (List.mem_of_getElem? (i := 1) rfl) rfl rfl dX8_drawBelow_2 (fun x1 c2 rx1 tx1 => ?_)
  refine lv_i2l hx hb dX8_drawBelow_5 rfl ?_
  refine lv_topl (fun x3 ex3 => ?_)
  have ex3 : x3.toInt = x1.toInt := by rw [ex3]; exact wk_i2l _
  have bx3 := wk_i32 x1
  refine lv_ldc2 (v := 1103515245) hx hb hC.2.2.2.1 (hC.2.2.2.2 _ (List.mem_of_getElem? (i := 2) rfl)) dX8_drawBelow_6 ?_
  refine lv_lmul hx hb dX8_drawBelow_9 ?_
  refine lv_topl (fun x4 ex4 => ?_)
  have ex4 : x4.toInt = x3.toInt * (1103515245 : Int) := by rw [ex4]; exact wk_mull (show (-9223372036854775808) ≤ x3.toInt * (1103515245 : Int) by omega) (show x3.toInt * (1103515245 : Int) ≤ 9223372036854775807 by omega)
  refine lv_ldc2 (v := 12345) hx hb hC.2.2.2.1 (hC.2.2.2.2 _ (List.mem_of_getElem? (i := 3) rfl)) dX8_drawBelow_10 ?_
  refine lv_ladd hx hb dX8_drawBelow_13 ?_
  refine lv_topl (fun x5 ex5 => ?_)
  have ex5 : x5.toInt = x4.toInt + (12345 : Int) := by rw [ex5]; exact wk_addl (show (-9223372036854775808) ≤ x4.toInt + (12345 : Int) by omega) (show x4.toInt + (12345 : Int) ≤ 9223372036854775807 by omega)
  refine lv_ldc2 (v := 2147483647) hx hb hC.2.2.2.1 (hC.2.2.2.2 _ (List.mem_of_getElem? (i := 4) rfl)) dX8_drawBelow_14 ?_
  refine lv_land hx hb dX8_drawBelow_17 ?_
  refine lv_topl (fun x6 ex6 => ?_)
  have bx6 : 0 ≤ x6.toInt ∧ x6.toInt ≤ (2147483647 : Int) := by rw [ex6]; exact wk_andl (by decide)
  refine lv_l2i hx hb dX8_drawBelow_18 rfl ?_
  refine lv_topi (fun x7 ex7 => ?_)
  have ex7 : x7.toInt = x6.toInt := by rw [ex7]; exact wk_l2i (by omega) (by omega)
  refine tk_puti hC hK hw hT hinX8 tyX8_ok nmX8 kC_at151 (by decide) rfl rfl 7 (by decide) (List.mem_of_getElem? (i := 1) rfl) rfl rfl rfl rfl (show 0 ≤ x7.toInt by omega) (wk_i32 x7).2 dX8_drawBelow_19 (fun H locs w8 hw hT k10 c9 => ?_)
  have hF := hF.put kC_at151 (k := 7) (by decide) k10
  refine lv_iload_n hx hb dX8_drawBelow_22 rfl (lv_at hl 1 rfl) ?_
  refine lv_if_le (tgt := 38) hx hb dX8_drawBelow_23 (by decide) (fun c11 => ?_) (fun c11 => ?_)
  · have c11 : a1.toInt ≤ (0 : Int) := wk_le.mp c11
    refine lv_iconst (v := 0) hx hb dX8_drawBelow_38 (by decide) ?_
    exact tk_iret hC hr hlocks hK ⟨hT, hF, ⟨(by decide), (by decide)⟩⟩ hw dX8_drawBelow_39
  · have c11 : (0 : Int) < a1.toInt := wk_leF c11
    refine lv_aload_n hx hb dX8_drawBelow_26 rfl (lv_at hl 0 rfl) ?_
    refine tk_geti hC hK hw hT hinX8 kC_at151 (by decide) rfl 7 (by decide) (List.mem_of_getElem? (i := 1) rfl) rfl rfl dX8_drawBelow_27 (fun x12 c13 rx12 tx12 => ?_)
    refine wk_top x7 (c13.symm.trans c9) ?_
    refine lv_bipush (v := 16) hx hb dX8_drawBelow_30 (by decide) ?_
    refine lv_ishr hx hb dX8_drawBelow_32 ?_
    refine lv_topi (fun x14 ex14 => ?_)
    have bx14 : 0 ≤ x14.toInt ∧ x14.toInt ≤ x7.toInt := by rw [ex14]; exact wk_shr (by omega)
    refine lv_iload_n hx hb dX8_drawBelow_33 rfl (lv_at hl 1 rfl) ?_
    refine lv_irem hx hb dX8_drawBelow_34 (fun h => absurd (show a1.toInt = 0 from wk_eq.mp h) (by omega)) ?_
    refine lv_topi (fun x15 ex15 => ?_)
    have bx15 : 0 ≤ x15.toInt ∧ x15.toInt < a1.toInt := by rw [ex15]; exact wk_remR (by omega) (by omega)
    refine lv_goto (tgt := 39) hx hb dX8_drawBelow_35 (by decide) ?_
    exact tk_iret hC hr hlocks hK ⟨hT, hF, ⟨(show 0 ≤ x15.toInt by omega), (show x15.toInt ≤ 9 by omega)⟩⟩ hw dX8_drawBelow_39
abbrev P_X8_drawBelow_2 (ad : Nat → Nat) (cy : Nat → ClassId) (B : Int) (qr : Nat) (s1 : Int) (a1 : Int32) (w0 : va_W) : Int32 → va_W → Prop := fun r u => TW ksC ad cy B qr s1 u ∧ FE ksC [(8, 7, 7)] w0 u ∧ ((0 ≤ r.toInt ∧ r.toInt ≤ 3))
set_option maxHeartbeats 4000000 in
set_option maxRecDepth 100000 in
theorem k_X8_drawBelow_2 (l : Launch) (adK adV : Nat → Nat) (dC : Nat → ClassId) (dI : Nat → Nat → Nat) (cy : Nat → ClassId) (ad : Nat → Nat) (B : Int) (hB0 : 2147483648 ≤ B) (hB1 : B ≤ 1152921504606846976) (qr : Nat) (s1 : Int)  (a1 : Int32) (ra1 : 0 ≤ a1.toInt) (ta1 : a1.toInt ≤ 4) (w0 : va_W) (sz : Nat) (hT : TW ksC ad cy B qr s1 w0)  : Met l yX8_drawBelow wsX8_drawBelow ({ frames := 1, cells := 0, slots := 0, locals := 12 }) (va_Pc [.ref (ad 151), .int a1] (wpreS adK adV dC dI cy sz w0)) (va_Qi (P_X8_drawBelow_2 ad cy B qr s1 a1 w0) (fun u : va_W => wpost dC dI cy (va_A w0 sz) u) (va_A w0 sz)) 0 0 (va_A w0 sz) := by
  refine Met.ofW (cc := cX8_drawBelow) (maxL := 2) (ret := (some .int)) (by decide) rfl ?_
  intro p e s m args below meth c s₁ Bk hml hv
  obtain ⟨rfl, ⟨hsz, hP, hK, hD0⟩, hE, hSR⟩ := hv
  have hx := Bk.exec
  have hb := Bk.bytes
  have hr := Bk.returns
  have hlocks := Bk.notSynchronized
  have hC : CallFix p m c cX8_drawBelow 2 s _ wsX8_drawBelow RX8 := ⟨hx, hb, hml, findClass_of_methodNamed Bk.named, atoms_spec (ws := wsX8_drawBelow) Bk.pre⟩
  subst hsz
  have hD := hD0.self (sz := s.heap.size)
  generalize hAe : va_A w0 s.heap.size = A at hD hE ⊢
  have hA : ∀ q : Nat, s.heap.size ≤ q → A q := fun q h => by rw [← hAe]; exact Or.inr h
  have hw : Wd dC dI A s.heap s.heap [] w0 := ⟨hP, hD, va_S.rf⟩
  have hF : FE ksC [(8, 7, 7)] w0 w0 := FE.rf
  have hl := lv_entry ([.ref (ad 151), .int a1]) (n := 2) (Nat.le_of_ble_eq_true rfl)
  rw [lg_entry_eq]
  generalize (lg_sl ([.ref (ad 151), .int a1]) ++ List.replicate (2 - (lg_sl ([.ref (ad 151), .int a1])).length) Slot.unset).toArray = ls at hl ⊢
  have hl : lv_has ls 2 [(0, .ref (ad 151)), (1, .int a1)] := hl
  generalize hloc : ([] : List Loc) = locs at hw ⊢
  have hinX8 : ∀ w ∈ u_ws RX8 TX8 8, w ∈ wsX8_drawBelow := fun _ h => List.mem_cons_of_mem _ (List.mem_append_right _ (h))
  refine lv_aload_n hx hb dX8_drawBelow_0 rfl (lv_at hl 0 rfl) ?_
  refine lv_aload_n hx hb dX8_drawBelow_1 rfl (lv_at hl 0 rfl) ?_
  refine tk_geti hC hK hw hT hinX8 kC_at151 (by decide) rfl 7 (by decide) (List.mem_of_getElem? (i := 1) rfl) rfl rfl dX8_drawBelow_2 (fun x1 c2 rx1 tx1 => ?_)
  refine lv_i2l hx hb dX8_drawBelow_5 rfl ?_
  refine lv_topl (fun x3 ex3 => ?_)
  have ex3 : x3.toInt = x1.toInt := by rw [ex3]; exact wk_i2l _
  have bx3 := wk_i32 x1
  refine lv_ldc2 (v := 1103515245) hx hb hC.2.2.2.1 (hC.2.2.2.2 _ (List.mem_of_getElem? (i := 2) rfl)) dX8_drawBelow_6 ?_
  refine lv_lmul hx hb dX8_drawBelow_9 ?_
  refine lv_topl (fun x4 ex4 => ?_)
  have ex4 : x4.toInt = x3.toInt * (1103515245 : Int) := by rw [ex4]; exact wk_mull (show (-9223372036854775808) ≤ x3.toInt * (1103515245 : Int) by omega) (show x3.toInt * (1103515245 : Int) ≤ 9223372036854775807 by omega)
  refine lv_ldc2 (v := 12345) hx hb hC.2.2.2.1 (hC.2.2.2.2 _ (List.mem_of_getElem? (i := 3) rfl)) dX8_drawBelow_10 ?_
  refine lv_ladd hx hb dX8_drawBelow_13 ?_
  refine lv_topl (fun x5 ex5 => ?_)
  have ex5 : x5.toInt = x4.toInt + (12345 : Int) := by rw [ex5]; exact wk_addl (show (-9223372036854775808) ≤ x4.toInt + (12345 : Int) by omega) (show x4.toInt + (12345 : Int) ≤ 9223372036854775807 by omega)
  refine lv_ldc2 (v := 2147483647) hx hb hC.2.2.2.1 (hC.2.2.2.2 _ (List.mem_of_getElem? (i := 4) rfl)) dX8_drawBelow_14 ?_
  refine lv_land hx hb dX8_drawBelow_17 ?_
  refine lv_topl (fun x6 ex6 => ?_)
  have bx6 : 0 ≤ x6.toInt ∧ x6.toInt ≤ (2147483647 : Int) := by rw [ex6]; exact wk_andl (by decide)
  refine lv_l2i hx hb dX8_drawBelow_18 rfl ?_
  refine lv_topi (fun x7 ex7 => ?_)
  have ex7 : x7.toInt = x6.toInt := by rw [ex7]; exact wk_l2i (by omega) (by omega)
  refine tk_puti hC hK hw hT hinX8 tyX8_ok nmX8 kC_at151 (by decide) rfl rfl 7 (by decide) (List.mem_of_getElem? (i := 1) rfl) rfl rfl rfl rfl (show 0 ≤ x7.toInt by omega) (wk_i32 x7).2 dX8_drawBelow_19 (fun H locs w8 hw hT k10 c9 => ?_)
  have hF := hF.put kC_at151 (k := 7) (by decide) k10
  refine lv_iload_n hx hb dX8_drawBelow_22 rfl (lv_at hl 1 rfl) ?_
  refine lv_if_le (tgt := 38) hx hb dX8_drawBelow_23 (by decide) (fun c11 => ?_) (fun c11 => ?_)
  · have c11 : a1.toInt ≤ (0 : Int) := wk_le.mp c11
    refine lv_iconst (v := 0) hx hb dX8_drawBelow_38 (by decide) ?_
    exact tk_iret hC hr hlocks hK ⟨hT, hF, ⟨(by decide), (by decide)⟩⟩ hw dX8_drawBelow_39
  · have c11 : (0 : Int) < a1.toInt := wk_leF c11
    refine lv_aload_n hx hb dX8_drawBelow_26 rfl (lv_at hl 0 rfl) ?_
    refine tk_geti hC hK hw hT hinX8 kC_at151 (by decide) rfl 7 (by decide) (List.mem_of_getElem? (i := 1) rfl) rfl rfl dX8_drawBelow_27 (fun x12 c13 rx12 tx12 => ?_)
    refine wk_top x7 (c13.symm.trans c9) ?_
    refine lv_bipush (v := 16) hx hb dX8_drawBelow_30 (by decide) ?_
    refine lv_ishr hx hb dX8_drawBelow_32 ?_
    refine lv_topi (fun x14 ex14 => ?_)
    have bx14 : 0 ≤ x14.toInt ∧ x14.toInt ≤ x7.toInt := by rw [ex14]; exact wk_shr (by omega)
    refine lv_iload_n hx hb dX8_drawBelow_33 rfl (lv_at hl 1 rfl) ?_
    refine lv_irem hx hb dX8_drawBelow_34 (fun h => absurd (show a1.toInt = 0 from wk_eq.mp h) (by omega)) ?_
    refine lv_topi (fun x15 ex15 => ?_)
    have bx15 : 0 ≤ x15.toInt ∧ x15.toInt < a1.toInt := by rw [ex15]; exact wk_remR (by omega) (by omega)
    refine lv_goto (tgt := 39) hx hb dX8_drawBelow_35 (by decide) ?_
    exact tk_iret hC hr hlocks hK ⟨hT, hF, ⟨(show 0 ≤ x15.toInt by omega), (show x15.toInt ≤ 3 by omega)⟩⟩ hw dX8_drawBelow_39
abbrev P_X8_drawBelow_3 (ad : Nat → Nat) (cy : Nat → ClassId) (B : Int) (qr : Nat) (s1 : Int)  (w0 : va_W) : Int32 → va_W → Prop := fun r u => TW ksC ad cy B qr s1 u ∧ FE ksC [(8, 7, 7)] w0 u ∧ ((0 ≤ r.toInt ∧ r.toInt ≤ 167))
set_option maxHeartbeats 4000000 in
set_option maxRecDepth 100000 in
theorem k_X8_drawBelow_3 (l : Launch) (adK adV : Nat → Nat) (dC : Nat → ClassId) (dI : Nat → Nat → Nat) (cy : Nat → ClassId) (ad : Nat → Nat) (B : Int) (hB0 : 2147483648 ≤ B) (hB1 : B ≤ 1152921504606846976) (qr : Nat) (s1 : Int)   (w0 : va_W) (sz : Nat) (hT : TW ksC ad cy B qr s1 w0)  : Met l yX8_drawBelow wsX8_drawBelow ({ frames := 1, cells := 0, slots := 0, locals := 12 }) (va_Pc [.ref (ad 151), .int 168] (wpreS adK adV dC dI cy sz w0)) (va_Qi (P_X8_drawBelow_3 ad cy B qr s1  w0) (fun u : va_W => wpost dC dI cy (va_A w0 sz) u) (va_A w0 sz)) 0 0 (va_A w0 sz) := by
  refine Met.ofW (cc := cX8_drawBelow) (maxL := 2) (ret := (some .int)) (by decide) rfl ?_
  intro p e s m args below meth c s₁ Bk hml hv
  obtain ⟨rfl, ⟨hsz, hP, hK, hD0⟩, hE, hSR⟩ := hv
  have hx := Bk.exec
  have hb := Bk.bytes
  have hr := Bk.returns
  have hlocks := Bk.notSynchronized
  have hC : CallFix p m c cX8_drawBelow 2 s _ wsX8_drawBelow RX8 := ⟨hx, hb, hml, findClass_of_methodNamed Bk.named, atoms_spec (ws := wsX8_drawBelow) Bk.pre⟩
  subst hsz
  have hD := hD0.self (sz := s.heap.size)
  generalize hAe : va_A w0 s.heap.size = A at hD hE ⊢
  have hA : ∀ q : Nat, s.heap.size ≤ q → A q := fun q h => by rw [← hAe]; exact Or.inr h
  have hw : Wd dC dI A s.heap s.heap [] w0 := ⟨hP, hD, va_S.rf⟩
  have hF : FE ksC [(8, 7, 7)] w0 w0 := FE.rf
  have hl := lv_entry ([.ref (ad 151), .int 168]) (n := 2) (Nat.le_of_ble_eq_true rfl)
  rw [lg_entry_eq]
  generalize (lg_sl ([.ref (ad 151), .int 168]) ++ List.replicate (2 - (lg_sl ([.ref (ad 151), .int 168])).length) Slot.unset).toArray = ls at hl ⊢
  have hl : lv_has ls 2 [(0, .ref (ad 151)), (1, .int 168)] := hl
  generalize hloc : ([] : List Loc) = locs at hw ⊢
  have hinX8 : ∀ w ∈ u_ws RX8 TX8 8, w ∈ wsX8_drawBelow := fun _ h => List.mem_cons_of_mem _ (List.mem_append_right _ (h))
  refine lv_aload_n hx hb dX8_drawBelow_0 rfl (lv_at hl 0 rfl) ?_
  refine lv_aload_n hx hb dX8_drawBelow_1 rfl (lv_at hl 0 rfl) ?_
  refine tk_geti hC hK hw hT hinX8 kC_at151 (by decide) rfl 7 (by decide) (List.mem_of_getElem? (i := 1) rfl) rfl rfl dX8_drawBelow_2 (fun x1 c2 rx1 tx1 => ?_)
  refine lv_i2l hx hb dX8_drawBelow_5 rfl ?_
  refine lv_topl (fun x3 ex3 => ?_)
  have ex3 : x3.toInt = x1.toInt := by rw [ex3]; exact wk_i2l _
  have bx3 := wk_i32 x1
  refine lv_ldc2 (v := 1103515245) hx hb hC.2.2.2.1 (hC.2.2.2.2 _ (List.mem_of_getElem? (i := 2) rfl)) dX8_drawBelow_6 ?_
  refine lv_lmul hx hb dX8_drawBelow_9 ?_
  refine lv_topl (fun x4 ex4 => ?_)
  have ex4 : x4.toInt = x3.toInt * (1103515245 : Int) := by rw [ex4]; exact wk_mull (show (-9223372036854775808) ≤ x3.toInt * (1103515245 : Int) by omega) (show x3.toInt * (1103515245 : Int) ≤ 9223372036854775807 by omega)
  refine lv_ldc2 (v := 12345) hx hb hC.2.2.2.1 (hC.2.2.2.2 _ (List.mem_of_getElem? (i := 3) rfl)) dX8_drawBelow_10 ?_
  refine lv_ladd hx hb dX8_drawBelow_13 ?_
  refine lv_topl (fun x5 ex5 => ?_)
  have ex5 : x5.toInt = x4.toInt + (12345 : Int) := by rw [ex5]; exact wk_addl (show (-9223372036854775808) ≤ x4.toInt + (12345 : Int) by omega) (show x4.toInt + (12345 : Int) ≤ 9223372036854775807 by omega)
  refine lv_ldc2 (v := 2147483647) hx hb hC.2.2.2.1 (hC.2.2.2.2 _ (List.mem_of_getElem? (i := 4) rfl)) dX8_drawBelow_14 ?_
  refine lv_land hx hb dX8_drawBelow_17 ?_
  refine lv_topl (fun x6 ex6 => ?_)
  have bx6 : 0 ≤ x6.toInt ∧ x6.toInt ≤ (2147483647 : Int) := by rw [ex6]; exact wk_andl (by decide)
  refine lv_l2i hx hb dX8_drawBelow_18 rfl ?_
  refine lv_topi (fun x7 ex7 => ?_)
  have ex7 : x7.toInt = x6.toInt := by rw [ex7]; exact wk_l2i (by omega) (by omega)
  refine tk_puti hC hK hw hT hinX8 tyX8_ok nmX8 kC_at151 (by decide) rfl rfl 7 (by decide) (List.mem_of_getElem? (i := 1) rfl) rfl rfl rfl rfl (show 0 ≤ x7.toInt by omega) (wk_i32 x7).2 dX8_drawBelow_19 (fun H locs w8 hw hT k10 c9 => ?_)
  have hF := hF.put kC_at151 (k := 7) (by decide) k10
  refine lv_iload_n hx hb dX8_drawBelow_22 rfl (lv_at hl 1 rfl) ?_
  refine lv_if_le (tgt := 38) hx hb dX8_drawBelow_23 (by decide) (fun c => absurd c (by decide)) (fun _ => ?_)
  refine lv_aload_n hx hb dX8_drawBelow_26 rfl (lv_at hl 0 rfl) ?_
  refine tk_geti hC hK hw hT hinX8 kC_at151 (by decide) rfl 7 (by decide) (List.mem_of_getElem? (i := 1) rfl) rfl rfl dX8_drawBelow_27 (fun x11 c12 rx11 tx11 => ?_)
  refine wk_top x7 (c12.symm.trans c9) ?_
  refine lv_bipush (v := 16) hx hb dX8_drawBelow_30 (by decide) ?_
  refine lv_ishr hx hb dX8_drawBelow_32 ?_
  refine lv_topi (fun x13 ex13 => ?_)
  have bx13 : 0 ≤ x13.toInt ∧ x13.toInt ≤ x7.toInt := by rw [ex13]; exact wk_shr (by omega)
  refine lv_iload_n hx hb dX8_drawBelow_33 rfl (lv_at hl 1 rfl) ?_
  refine lv_irem hx hb dX8_drawBelow_34 (by decide) ?_
  refine lv_topi (fun x14 ex14 => ?_)
  have ex14 : x14.toInt = x13.toInt % (168 : Int) := by rw [ex14]; exact wk_rem (show 0 ≤ x13.toInt by omega) (show 0 < (168 : Int) by decide)
  refine lv_goto (tgt := 39) hx hb dX8_drawBelow_35 (by decide) ?_
  exact tk_iret hC hr hlocks hK ⟨hT, hF, ⟨(show 0 ≤ x14.toInt by omega), (show x14.toInt ≤ 167 by omega)⟩⟩ hw dX8_drawBelow_39
abbrev P_X9_setOut_3 (ad : Nat → Nat) (cy : Nat → ClassId) (B : Int) (qr : Nat) (s1 : Int) (a1 : Int32) (a2 : Int32) (a3 : Int32) (a4 : Int32) (a5 : Int64) (w0 : va_W) : va_W → Prop := fun u => TW ksC ad cy B qr s1 u ∧ FE ksC [(9, 0, 0), (9, 1, 1), (9, 2, 2), (9, 3, 3), (9, 4, 4), (9, 5, 5), (9, 6, 6), (9, 7, 7), (9, 8, 8)] w0 u ∧ (((∃ y : Int32, gi u 152 3 = y ∧ (-1) ≤ y.toInt ∧ y.toInt ≤ 5) ∧ (∃ y : Int32, gi u 152 5 = y ∧ 0 ≤ y.toInt ∧ y.toInt ≤ 0) ∧ (∃ y : Int32, gi u 152 6 = y ∧ 0 ≤ y.toInt ∧ y.toInt ≤ 0) ∧ (∃ y : Int32, gi u 152 7 = y ∧ (-1) ≤ y.toInt ∧ y.toInt ≤ (-1))))
set_option maxHeartbeats 4000000 in
set_option maxRecDepth 100000 in
theorem k_X9_setOut_3 (l : Launch) (adK adV : Nat → Nat) (dC : Nat → ClassId) (dI : Nat → Nat → Nat) (cy : Nat → ClassId) (ad : Nat → Nat) (B : Int) (hB0 : 2147483648 ≤ B) (hB1 : B ≤ 1152921504606846976) (qr : Nat) (s1 : Int)  (a1 : Int32) (ra1 : 0 ≤ a1.toInt) (ta1 : a1.toInt ≤ 9) (a2 : Int32) (ra2 : 0 ≤ a2.toInt) (ta2 : a2.toInt ≤ 9) (a3 : Int32) (ra3 : 0 ≤ a3.toInt) (ta3 : a3.toInt ≤ 3) (a4 : Int32) (ra4 : (-1) ≤ a4.toInt) (ta4 : a4.toInt ≤ 5) (a5 : Int64) (ra5 : 0 ≤ a5.toInt) (ta5 : a5.toInt ≤ 167) (w0 : va_W) (sz : Nat) (hT : TW ksC ad cy B qr s1 w0)  : Met l yX9_setOut wsX9_setOut ({ frames := 1, cells := 0, slots := 0, locals := 12 }) (va_Pc [.ref (ad 152), .int a1, .int a2, .int a3, .int a4, .long a5] (wpreS adK adV dC dI cy sz w0)) (va_Qv (P_X9_setOut_3 ad cy B qr s1 a1 a2 a3 a4 a5 w0) (fun u : va_W => wpost dC dI cy (va_A w0 sz) u) (va_A w0 sz)) 0 0 (va_A w0 sz) := by
  refine Met.ofW (cc := cX9_setOut) (maxL := 7) (ret := none) (by decide) rfl ?_
  intro p e s m args below meth c s₁ Bk hml hv
  obtain ⟨rfl, ⟨hsz, hP, hK, hD0⟩, hE, hSR⟩ := hv
  have hx := Bk.exec
  have hb := Bk.bytes
  have hr := Bk.returns
  have hlocks := Bk.notSynchronized
  have hC : CallFix p m c cX9_setOut 7 s _ wsX9_setOut RX9 := ⟨hx, hb, hml, findClass_of_methodNamed Bk.named, atoms_spec (ws := wsX9_setOut) Bk.pre⟩
  subst hsz
  have hD := hD0.self (sz := s.heap.size)
  generalize hAe : va_A w0 s.heap.size = A at hD hE ⊢
  have hA : ∀ q : Nat, s.heap.size ≤ q → A q := fun q h => by rw [← hAe]; exact Or.inr h
  have hw : Wd dC dI A s.heap s.heap [] w0 := ⟨hP, hD, va_S.rf⟩
  have hF : FE ksC [(9, 0, 0), (9, 1, 1), (9, 2, 2), (9, 3, 3), (9, 4, 4), (9, 5, 5), (9, 6, 6), (9, 7, 7), (9, 8, 8)] w0 w0 := FE.rf
  have hl := lv_entry ([.ref (ad 152), .int a1, .int a2, .int a3, .int a4, .long a5]) (n := 7) (Nat.le_of_ble_eq_true rfl)
  rw [lg_entry_eq]
  generalize (lg_sl ([.ref (ad 152), .int a1, .int a2, .int a3, .int a4, .long a5]) ++ List.replicate (7 - (lg_sl ([.ref (ad 152), .int a1, .int a2, .int a3, .int a4, .long a5])).length) Slot.unset).toArray = ls at hl ⊢
  have hl : lv_has ls 7 [(0, .ref (ad 152)), (1, .int a1), (2, .int a2), (3, .int a3), (4, .int a4), (5, .long a5)] := hl
  generalize hloc : ([] : List Loc) = locs at hw ⊢
  have hinX9 : ∀ w ∈ u_ws RX9 TX9 9, w ∈ wsX9_setOut := fun _ h => List.mem_cons_of_mem _ (List.mem_append_right _ (h))
  refine lv_aload_n hx hb dX9_setOut_0 rfl (lv_at hl 0 rfl) ?_
  refine lv_iload_n hx hb dX9_setOut_1 rfl (lv_at hl 1 rfl) ?_
  refine tk_puti hC hK hw hT hinX9 tyX9_ok nmX9 kC_at152 (by decide) rfl rfl 0 (by decide) (List.mem_of_getElem? (i := 1) rfl) rfl rfl rfl rfl (show 0 ≤ a1.toInt by omega) (show a1.toInt ≤ 9 by omega) dX9_setOut_2 (fun H locs w1 hw hT k3 c2 => ?_)
  have hF := hF.put kC_at152 (k := 0) (by decide) k3
  refine lv_aload_n hx hb dX9_setOut_5 rfl (lv_at hl 0 rfl) ?_
  refine lv_iload_n hx hb dX9_setOut_6 rfl (lv_at hl 2 rfl) ?_
  refine tk_puti hC hK hw hT hinX9 tyX9_ok nmX9 kC_at152 (by decide) rfl rfl 1 (by decide) (List.mem_of_getElem? (i := 2) rfl) rfl rfl rfl rfl (show 0 ≤ a2.toInt by omega) (show a2.toInt ≤ 9 by omega) dX9_setOut_7 (fun H locs w4 hw hT k6 c5 => ?_)
  have hF := hF.put kC_at152 (k := 1) (by decide) k6
  have c7 := k6.gi (Or.inr (by decide)) c2
  refine lv_aload_n hx hb dX9_setOut_10 rfl (lv_at hl 0 rfl) ?_
  refine lv_iload_n hx hb dX9_setOut_11 rfl (lv_at hl 3 rfl) ?_
  refine tk_puti hC hK hw hT hinX9 tyX9_ok nmX9 kC_at152 (by decide) rfl rfl 2 (by decide) (List.mem_of_getElem? (i := 3) rfl) rfl rfl rfl rfl (show 0 ≤ a3.toInt by omega) (show a3.toInt ≤ 3 by omega) dX9_setOut_12 (fun H locs w8 hw hT k10 c9 => ?_)
  have hF := hF.put kC_at152 (k := 2) (by decide) k10
  have c11 := k10.gi (Or.inr (by decide)) c7
  have c12 := k10.gi (Or.inr (by decide)) c5
  refine lv_aload_n hx hb dX9_setOut_15 rfl (lv_at hl 0 rfl) ?_
  refine lv_iload hx hb dX9_setOut_16 (lv_at hl 4 rfl) ?_
  refine tk_puti hC hK hw hT hinX9 tyX9_ok nmX9 kC_at152 (by decide) rfl rfl 3 (by decide) (List.mem_of_getElem? (i := 4) rfl) rfl rfl rfl rfl (wk_i32 a4).1 (wk_i32 a4).2 dX9_setOut_18 (fun H locs w13 hw hT k15 c14 => ?_)
  have hF := hF.put kC_at152 (k := 3) (by decide) k15
  have c16 := k15.gi (Or.inr (by decide)) c11
  have c17 := k15.gi (Or.inr (by decide)) c12
  have c18 := k15.gi (Or.inr (by decide)) c9
  refine lv_aload_n hx hb dX9_setOut_21 rfl (lv_at hl 0 rfl) ?_
  refine lv_lload hx hb dX9_setOut_22 (lv_at hl 5 rfl) ?_
  refine tk_putB hC hK hw hT hinX9 tyX9_ok nmX9 kC_at152 (by decide) rfl rfl 4 (by decide) (List.mem_of_getElem? (i := 5) rfl) rfl rfl rfl rfl (show 0 ≤ a5.toInt by omega) (show a5.toInt ≤ B by omega) dX9_setOut_24 (fun H locs w19 hw hT k21 c20 => ?_)
  have hF := hF.put kC_at152 (k := 4) (by decide) k21
  have c22 := k21.gi (Or.inr (by decide)) c16
  have c23 := k21.gi (Or.inr (by decide)) c17
  have c24 := k21.gi (Or.inr (by decide)) c18
  have c25 := k21.gi (Or.inr (by decide)) c14
  refine lv_aload_n hx hb dX9_setOut_27 rfl (lv_at hl 0 rfl) ?_
  refine lv_iconst (v := 0) hx hb dX9_setOut_28 (by decide) ?_
  refine tk_puti hC hK hw hT hinX9 tyX9_ok nmX9 kC_at152 (by decide) rfl rfl 5 (by decide) (List.mem_of_getElem? (i := 6) rfl) rfl rfl rfl rfl (by decide) (by decide) dX9_setOut_29 (fun H locs w26 hw hT k28 c27 => ?_)
  have hF := hF.put kC_at152 (k := 5) (by decide) k28
  have c29 := k28.gi (Or.inr (by decide)) c22
  have c30 := k28.gi (Or.inr (by decide)) c23
  have c31 := k28.gi (Or.inr (by decide)) c24
  have c32 := k28.gi (Or.inr (by decide)) c25
  have c33 := k28.gl (Or.inr (by decide)) c20
  refine lv_aload_n hx hb dX9_setOut_32 rfl (lv_at hl 0 rfl) ?_
  refine lv_iconst (v := 0) hx hb dX9_setOut_33 (by decide) ?_
  refine tk_puti hC hK hw hT hinX9 tyX9_ok nmX9 kC_at152 (by decide) rfl rfl 6 (by decide) (List.mem_of_getElem? (i := 7) rfl) rfl rfl rfl rfl (by decide) (by decide) dX9_setOut_34 (fun H locs w34 hw hT k36 c35 => ?_)
  have hF := hF.put kC_at152 (k := 6) (by decide) k36
  have c37 := k36.gi (Or.inr (by decide)) c29
  have c38 := k36.gi (Or.inr (by decide)) c30
  have c39 := k36.gi (Or.inr (by decide)) c31
  have c40 := k36.gi (Or.inr (by decide)) c32
  have c41 := k36.gl (Or.inr (by decide)) c33
  have c42 := k36.gi (Or.inr (by decide)) c27
  refine lv_aload_n hx hb dX9_setOut_37 rfl (lv_at hl 0 rfl) ?_
  refine lv_iconst (v := (-1)) hx hb dX9_setOut_38 (by decide) ?_
  refine tk_puti hC hK hw hT hinX9 tyX9_ok nmX9 kC_at152 (by decide) rfl rfl 7 (by decide) (List.mem_of_getElem? (i := 8) rfl) rfl rfl rfl rfl (by decide) (by decide) dX9_setOut_39 (fun H locs w43 hw hT k45 c44 => ?_)
  have hF := hF.put kC_at152 (k := 7) (by decide) k45
  have c46 := k45.gi (Or.inr (by decide)) c37
  have c47 := k45.gi (Or.inr (by decide)) c38
  have c48 := k45.gi (Or.inr (by decide)) c39
  have c49 := k45.gi (Or.inr (by decide)) c40
  have c50 := k45.gl (Or.inr (by decide)) c41
  have c51 := k45.gi (Or.inr (by decide)) c42
  have c52 := k45.gi (Or.inr (by decide)) c35
  refine lv_aload_n hx hb dX9_setOut_42 rfl (lv_at hl 0 rfl) ?_
  refine lv_ldc2 (v := (-1)) hx hb hC.2.2.2.1 (hC.2.2.2.2 _ (List.mem_of_getElem? (i := 9) rfl)) dX9_setOut_43 ?_
  refine tk_putl hC hK hw hT hinX9 tyX9_ok nmX9 kC_at152 (by decide) rfl rfl 8 (by decide) (List.mem_of_getElem? (i := 10) rfl) rfl rfl rfl rfl (by decide) (by decide) dX9_setOut_46 (fun H locs w53 hw hT k55 c54 => ?_)
  have hF := hF.put kC_at152 (k := 8) (by decide) k55
  have c56 := k55.gi (Or.inr (by decide)) c46
  have c57 := k55.gi (Or.inr (by decide)) c47
  have c58 := k55.gi (Or.inr (by decide)) c48
  have c59 := k55.gi (Or.inr (by decide)) c49
  have c60 := k55.gl (Or.inr (by decide)) c50
  have c61 := k55.gi (Or.inr (by decide)) c51
  have c62 := k55.gi (Or.inr (by decide)) c52
  have c63 := k55.gi (Or.inr (by decide)) c44
  exact tk_vret hC hr hlocks hK ⟨hT, hF, ⟨⟨a4, c59, (show (-1) ≤ a4.toInt by omega), (show a4.toInt ≤ 5 by omega)⟩, ⟨0, c61, (by decide), (by decide)⟩, ⟨0, c62, (by decide), (by decide)⟩, ⟨(-1), c63, (by decide), (by decide)⟩⟩⟩ hw dX9_setOut_49
abbrev P_X1_takeSteps_3 (ad : Nat → Nat) (cy : Nat → ClassId) (B : Int) (qr : Nat) (s1 : Int) (a2 : Int32) (w0 : va_W) : Int32 → va_W → Prop := fun r u => TW ksC ad cy (B + 1800) qr s1 u ∧ FE ksC [(1, 4, 4), (1, 5, 5), (1, 6, 6), (1, 7, 7), (1, 8, 8), (9, 0, 0), (9, 4, 4), (9, 5, 5), (9, 6, 6), (9, 7, 7), (9, 8, 8), (45, 0, 64)] w0 u ∧ ((0 ≤ r.toInt ∧ r.toInt ≤ 200))
set_option maxHeartbeats 4000000 in
set_option maxRecDepth 100000 in
theorem k_X1_takeSteps_3 (l : Launch) (adK adV : Nat → Nat) (dC : Nat → ClassId) (dI : Nat → Nat → Nat) (cy : Nat → ClassId) (ad : Nat → Nat) (B : Int) (hB0 : 2147483648 ≤ B) (hB1 : B ≤ 1152921504606845185) (qr : Nat) (s1 : Int)  (a2 : Int32) (ra2 : 1 ≤ a2.toInt) (ta2 : a2.toInt ≤ 200) (w0 : va_W) (sz : Nat) (hT : TW ksC ad cy B qr s1 w0)  : Met l yX1_takeSteps wsX1_takeSteps ({ frames := 6, cells := 0, slots := 0, locals := 135 }) (va_Pc [.ref (ad 149), .ref (ad 152), .int a2] (wpreS adK adV dC dI cy sz w0)) (va_Qi (P_X1_takeSteps_3 ad cy B qr s1 a2 w0) (fun u : va_W => wpost dC dI cy (va_A w0 sz) u) (va_A w0 sz)) 0 0 (va_A w0 sz) := by
  refine Met.ofW (cc := cX1_takeSteps) (maxL := 4) (ret := (some .int)) (by decide) rfl ?_
  intro p e s m args below meth c s₁ Bk hml hv
  obtain ⟨rfl, ⟨hsz, hP, hK, hD0⟩, hE, hSR⟩ := hv
  have hx := Bk.exec
  have hb := Bk.bytes
  have hr := Bk.returns
  have hlocks := Bk.notSynchronized
  have hC : CallFix p m c cX1_takeSteps 4 s _ wsX1_takeSteps RX1 := ⟨hx, hb, hml, findClass_of_methodNamed Bk.named, atoms_spec (ws := wsX1_takeSteps) Bk.pre⟩
  subst hsz
  have hD := hD0.self (sz := s.heap.size)
  generalize hAe : va_A w0 s.heap.size = A at hD hE ⊢
  have hA : ∀ q : Nat, s.heap.size ≤ q → A q := fun q h => by rw [← hAe]; exact Or.inr h
  have hw : Wd dC dI A s.heap s.heap [] w0 := ⟨hP, hD, va_S.rf⟩
  have hF : FE ksC [(1, 4, 4), (1, 5, 5), (1, 6, 6), (1, 7, 7), (1, 8, 8), (9, 0, 0), (9, 4, 4), (9, 5, 5), (9, 6, 6), (9, 7, 7), (9, 8, 8), (45, 0, 64)] w0 w0 := FE.rf
  have hl := lv_entry ([.ref (ad 149), .ref (ad 152), .int a2]) (n := 4) (Nat.le_of_ble_eq_true rfl)
  rw [lg_entry_eq]
  generalize (lg_sl ([.ref (ad 149), .ref (ad 152), .int a2]) ++ List.replicate (4 - (lg_sl ([.ref (ad 149), .ref (ad 152), .int a2])).length) Slot.unset).toArray = ls at hl ⊢
  have hl : lv_has ls 4 [(0, .ref (ad 149)), (1, .ref (ad 152)), (2, .int a2)] := hl
  generalize hloc : ([] : List Loc) = locs at hw ⊢
  have L2 : ∀ (n2 : Nat) (v2_3 : Int32) (H : Heap) (locs : List Loc) (ls : Array Slot) (w1 : va_W), 1 ≤ a2.toInt → a2.toInt ≤ 200 → 0 ≤ v2_3.toInt → v2_3.toInt ≤ 200 → (200 - v2_3.toInt).toNat < n2 → Wd dC dI A s.heap H locs w1 → TW ksC ad cy (B + 0 + 9 * v2_3.toInt) qr s1 w1 → FE ksC [(1, 4, 4), (1, 5, 5), (1, 6, 6), (1, 7, 7), (1, 8, 8), (9, 0, 0), (9, 4, 4), (9, 5, 5), (9, 6, 6), (9, 7, 7), (9, 8, 8), (45, 0, 64)] w0 w1 → lv_has ls 4 [(0, .ref (ad 149)), (1, .ref (ad 152)), (2, .int a2), (3, .int v2_3)] → W p l e ({ frames := 6, cells := 0, slots := 0, locals := 135 }) s m (List.toArray [.ref (ad 149), .ref (ad 152), .int a2]) below meth c H locs 0 0 (MQ below (va_Qi (P_X1_takeSteps_3 ad cy B qr s1 a2 w0) (fun u : va_W => wpost dC dI cy A u) A) (List.toArray [.ref (ad 149), .ref (ad 152), .int a2]) s 0 0 A) (F0 m 2 ls []) := by
    intro n2
    induction n2 with
    | zero => intro v2_3 H locs ls w1 r2 t3 r4 t5 hm2 hw hT hF hl; omega
    | succ n2 ih2 =>
      intro v2_3 H locs ls w1 r2 t3 r4 t5 hm2 hw hT hF hl
      refine lv_iload_n hx hb dX1_takeSteps_2 rfl (lv_at hl 3 rfl) ?_
      refine lv_iload_n hx hb dX1_takeSteps_3 rfl (lv_at hl 2 rfl) ?_
      refine lv_icmp_ge (tgt := 24) hx hb dX1_takeSteps_4 (by decide) (fun c6 => ?_) (fun c6 => ?_)
      · have c6 : a2.toInt ≤ v2_3.toInt := wk_le.mp c6
        refine lv_iload_n hx hb dX1_takeSteps_24 rfl (lv_at hl 2 rfl) ?_
        exact tk_iret hC hr hlocks hK ⟨(hT.up (show (B + 0 + 9 * v2_3.toInt) ≤ (B + 1800) by omega)), hF, ⟨(show 0 ≤ a2.toInt by omega), (show a2.toInt ≤ 200 by omega)⟩⟩ hw dX1_takeSteps_25
      · have c6 : v2_3.toInt < a2.toInt := wk_leF c6
        refine lv_aload_n hx hb dX1_takeSteps_7 rfl (lv_at hl 0 rfl) ?_
        refine lv_aload_n hx hb dX1_takeSteps_8 rfl (lv_at hl 1 rfl) ?_
        refine tk_Vi hC hK hw hT hA hE hSR kC_at149 (by decide) rfl (k_X1_takeStep_2 l adK adV dC dI cy ad (B + 0 + 9 * v2_3.toInt) (by omega) (by omega) qr s1    w1 H.size hT ) (cwV 1 hC.2.2.2.2 gX1_takeSteps_X1_takeStep rfl rfl rfl (by decide +kernel) ⟨Nat.le_of_ble_eq_true rfl, Nat.le_of_ble_eq_true rfl⟩) rfl hl.1 rfl (Nat.le_of_ble_eq_true rfl) dX1_takeSteps_9 (fun r7 w9 H locs hp8 hw => ?_)
        obtain ⟨hT, k10, hg13⟩ := hp8
        have hT := hT.up (B' := (B + 9 + 9 * v2_3.toInt)) (by omega)
        have hF := hF.tr k10 (by decide)
        rcases hg13 with ⟨x11, c12, rx11, tx11⟩ | rfl
        · refine lv_iconst (v := 4) hx hb dX1_takeSteps_12 (by decide) ?_
          refine lv_icmp_ne (tgt := 18) hx hb dX1_takeSteps_13 (by decide) (fun c14 => ?_) (fun c14 => ?_)
          · have c14 : ¬ r7.toInt = (4 : Int) := wk_eqF c14
            obtain ⟨x15, ex15⟩ : ∃ y : Int32, y = v2_3 + Int32.ofInt 1 := ⟨_, rfl⟩
            refine lv_iinc (v := x15) (lv' := [(3, .int x15), (0, .ref (ad 149)), (1, .ref (ad 152)), (2, .int a2)]) hx hb dX1_takeSteps_18 hl (k := 3) rfl ex15.symm (by decide) rfl (fun ls hl => ?_)
            have ex15 : x15.toInt = v2_3.toInt + 1 := by rw [ex15]; exact wk_add (y := 1) (show -2147483648 ≤ v2_3.toInt + 1 by omega) (show v2_3.toInt + 1 ≤ 2147483647 by omega)
            refine lv_goto (tgt := 2) hx hb dX1_takeSteps_21 (by decide) ?_
            exact ih2 x15 H locs ls w9 (show 1 ≤ a2.toInt by omega) (show a2.toInt ≤ 200 by omega) (show 0 ≤ x15.toInt by omega) (show x15.toInt ≤ 200 by omega) (show (200 - x15.toInt).toNat < n2 by omega) hw (hT.up (show (B + 9 + 9 * v2_3.toInt) ≤ (B + 0 + 9 * x15.toInt) by omega)) hF  (lv_sub hl [1, 2, 3, 0] rfl)
          · have c14 : r7.toInt = (4 : Int) := wk_eq.mp c14
            refine lv_iload_n hx hb dX1_takeSteps_16 rfl (lv_at hl 3 rfl) ?_
            exact tk_iret hC hr hlocks hK ⟨(hT.up (show (B + 9 + 9 * v2_3.toInt) ≤ (B + 1800) by omega)), hF, ⟨(show 0 ≤ v2_3.toInt by omega), (show v2_3.toInt ≤ 200 by omega)⟩⟩ hw dX1_takeSteps_17
        · refine lv_iconst (v := 4) hx hb dX1_takeSteps_12 (by decide) ?_
          refine lv_icmp_ne (tgt := 18) hx hb dX1_takeSteps_13 (by decide) (fun c => absurd (by decide) c) (fun _ => ?_)
          refine lv_iload_n hx hb dX1_takeSteps_16 rfl (lv_at hl 3 rfl) ?_
          exact tk_iret hC hr hlocks hK ⟨(hT.up (show (B + 9 + 9 * v2_3.toInt) ≤ (B + 1800) by omega)), hF, ⟨(show 0 ≤ v2_3.toInt by omega), (show v2_3.toInt ≤ 200 by omega)⟩⟩ hw dX1_takeSteps_17
  refine lv_iconst (v := 0) hx hb dX1_takeSteps_0 (by decide) ?_
  refine lv_istore_n (lv' := [(3, .int 0), (0, .ref (ad 149)), (1, .ref (ad 152)), (2, .int a2)]) hx hb dX1_takeSteps_1 rfl hl (by decide) rfl (fun ls hl => ?_)
  exact L2 ((200 - (0 : Int)).toNat + 1) 0 s.heap locs ls w0 (show 1 ≤ a2.toInt by omega) (show a2.toInt ≤ 200 by omega) (by decide) (by decide) (Nat.lt_succ_self _) hw (hT.up (show B ≤ (B + 0 + 9 * (0 : Int32).toInt) by rw [show (0 : Int32).toInt = 0 by decide]; omega)) hF  (lv_sub hl [1, 2, 3, 0] rfl)
abbrev P_X8_tellStrangers_1 (ad : Nat → Nat) (cy : Nat → ClassId) (B : Int) (qr : Nat) (s1 : Int) (a1 : Int32) (a2 : Int32) (a3 : Int32) (a4 : Int32) (w0 : va_W) : Int32 → va_W → Prop := fun r u => TW ksC ad cy (B + 54000) qr s1 u ∧ FE ksC [(1, 4, 4), (1, 5, 5), (1, 6, 6), (1, 7, 7), (1, 8, 8), (8, 7, 7), (9, 0, 0), (9, 1, 1), (9, 2, 2), (9, 3, 3), (9, 4, 4), (9, 5, 5), (9, 6, 6), (9, 7, 7), (9, 8, 8), (45, 0, 64)] w0 u ∧ ((True))
set_option maxHeartbeats 4000000 in
set_option maxRecDepth 100000 in
theorem k_X8_tellStrangers_1 (l : Launch) (adK adV : Nat → Nat) (dC : Nat → ClassId) (dI : Nat → Nat → Nat) (cy : Nat → ClassId) (ad : Nat → Nat) (B : Int) (hB0 : 2147483648 ≤ B) (hB1 : B ≤ 1152921504606792976) (qr : Nat) (s1 : Int)  (a1 : Int32) (ra1 : (-1) ≤ a1.toInt) (ta1 : a1.toInt ≤ 5) (a2 : Int32) (ra2 : 1 ≤ a2.toInt) (ta2 : a2.toInt ≤ 30) (a3 : Int32) (ra3 : 1 ≤ a3.toInt) (ta3 : a3.toInt ≤ 200) (a4 : Int32) (ra4 : 0 ≤ a4.toInt) (ta4 : a4.toInt ≤ 1) (w0 : va_W) (sz : Nat) (hT : TW ksC ad cy B qr s1 w0)  : Met l yX8_tellStrangers wsX8_tellStrangers ({ frames := 7, cells := 0, slots := 0, locals := 158 }) (va_Pc [.ref (ad 151), .int a1, .int a2, .int a3, .int a4] (wpreS adK adV dC dI cy sz w0)) (va_Qi (P_X8_tellStrangers_1 ad cy B qr s1 a1 a2 a3 a4 w0) (fun u : va_W => wpost dC dI cy (va_A w0 sz) u) (va_A w0 sz)) 0 0 (va_A w0 sz) := by
  refine Met.ofW (cc := cX8_tellStrangers) (maxL := 13) (ret := (some .int)) (by decide) rfl ?_
  intro p e s m args below meth c s₁ Bk hml hv
  obtain ⟨rfl, ⟨hsz, hP, hK, hD0⟩, hE, hSR⟩ := hv
  have hx := Bk.exec
  have hb := Bk.bytes
  have hr := Bk.returns
  have hlocks := Bk.notSynchronized
  have hC : CallFix p m c cX8_tellStrangers 13 s _ wsX8_tellStrangers RX8 := ⟨hx, hb, hml, findClass_of_methodNamed Bk.named, atoms_spec (ws := wsX8_tellStrangers) Bk.pre⟩
  subst hsz
  have hD := hD0.self (sz := s.heap.size)
  generalize hAe : va_A w0 s.heap.size = A at hD hE ⊢
  have hA : ∀ q : Nat, s.heap.size ≤ q → A q := fun q h => by rw [← hAe]; exact Or.inr h
  have hw : Wd dC dI A s.heap s.heap [] w0 := ⟨hP, hD, va_S.rf⟩
  have hF : FE ksC [(1, 4, 4), (1, 5, 5), (1, 6, 6), (1, 7, 7), (1, 8, 8), (8, 7, 7), (9, 0, 0), (9, 1, 1), (9, 2, 2), (9, 3, 3), (9, 4, 4), (9, 5, 5), (9, 6, 6), (9, 7, 7), (9, 8, 8), (45, 0, 64)] w0 w0 := FE.rf
  have hl := lv_entry ([.ref (ad 151), .int a1, .int a2, .int a3, .int a4]) (n := 13) (Nat.le_of_ble_eq_true rfl)
  rw [lg_entry_eq]
  generalize (lg_sl ([.ref (ad 151), .int a1, .int a2, .int a3, .int a4]) ++ List.replicate (13 - (lg_sl ([.ref (ad 151), .int a1, .int a2, .int a3, .int a4])).length) Slot.unset).toArray = ls at hl ⊢
  have hl : lv_has ls 13 [(0, .ref (ad 151)), (1, .int a1), (2, .int a2), (3, .int a3), (4, .int a4)] := hl
  generalize hloc : ([] : List Loc) = locs at hw ⊢
  have hinX8 : ∀ w ∈ u_ws RX8 TX8 8, w ∈ wsX8_tellStrangers := fun _ h => List.mem_cons_of_mem _ (List.mem_append_left _ (List.mem_append_left _ (List.mem_append_left _ (List.mem_append_left _ (List.mem_append_left _ (List.mem_append_left _ (List.mem_append_right _ (h))))))))
  have hinX5 : ∀ w ∈ u_ws RX5 TX5 14, w ∈ wsX8_tellStrangers := fun _ h => List.mem_cons_of_mem _ (List.mem_append_left _ (List.mem_append_left _ (List.mem_append_left _ (List.mem_append_left _ (List.mem_append_left _ (List.mem_append_right _ (h)))))))
  have hinX7 : ∀ w ∈ u_ws RX7 TX7 12, w ∈ wsX8_tellStrangers := fun _ h => List.mem_cons_of_mem _ (List.mem_append_left _ (List.mem_append_left _ (List.mem_append_left _ (List.mem_append_left _ (List.mem_append_right _ (h))))))
  have hinX9 : ∀ w ∈ u_ws RX9 TX9 9, w ∈ wsX8_tellStrangers := fun _ h => List.mem_cons_of_mem _ (List.mem_append_left _ (List.mem_append_left _ (List.mem_append_left _ (List.mem_append_right _ (h)))))
  have L20 : ∀ (n20 : Nat) (v20_5 : Int32) (v20_6 : Int64) (v20_8 : Int32) (f20_38_13 : Int32) (H : Heap) (locs : List Loc) (ls : Array Slot) (w1 : va_W), (-1) ≤ a1.toInt → a1.toInt ≤ 5 → 1 ≤ a2.toInt → a2.toInt ≤ 30 → 1 ≤ a3.toInt → a3.toInt ≤ 200 → 0 ≤ a4.toInt → a4.toInt ≤ 1 → 0 ≤ v20_8.toInt → v20_8.toInt ≤ 30 → 0 ≤ f20_38_13.toInt → (30 - v20_8.toInt).toNat < n20 → Wd dC dI A s.heap H locs w1 → TW ksC ad cy (B + 0 + 1800 * v20_8.toInt) qr s1 w1 → FE ksC [(1, 4, 4), (1, 5, 5), (1, 6, 6), (1, 7, 7), (1, 8, 8), (8, 7, 7), (9, 0, 0), (9, 1, 1), (9, 2, 2), (9, 3, 3), (9, 4, 4), (9, 5, 5), (9, 6, 6), (9, 7, 7), (9, 8, 8), (45, 0, 64)] w0 w1 → gi w1 38 13 = f20_38_13 → lv_has ls 13 [(0, .ref (ad 151)), (1, .int a1), (2, .int a2), (3, .int a3), (4, .int a4), (5, .int v20_5), (6, .long v20_6), (8, .int v20_8)] → W p l e ({ frames := 7, cells := 0, slots := 0, locals := 158 }) s m (List.toArray [.ref (ad 151), .int a1, .int a2, .int a3, .int a4]) below meth c H locs 0 0 (MQ below (va_Qi (P_X8_tellStrangers_1 ad cy B qr s1 a1 a2 a3 a4 w0) (fun u : va_W => wpost dC dI cy A u) A) (List.toArray [.ref (ad 151), .int a1, .int a2, .int a3, .int a4]) s 0 0 A) (F0 m 20 ls []) := by
    intro n20
    induction n20 with
    | zero => intro v20_5 v20_6 v20_8 f20_38_13 H locs ls w1 r2 t3 r4 t5 r6 t7 r8 t9 r10 t11 r12 hm20 hw hT hF c13 hl; omega
    | succ n20 ih20 =>
      intro v20_5 v20_6 v20_8 f20_38_13 H locs ls w1 r2 t3 r4 t5 r6 t7 r8 t9 r10 t11 r12 hm20 hw hT hF c13 hl
      have J139 : ∀ (v139_5 : Int32) (v139_6 : Int64) (v139_9 : Int32) (v139_10 : Int32) (v139_11 : Int32) (v139_12 : Int32) (f139_152_3 : Int32) (f139_38_8 : Int32) (f139_39_8 : Int32) (H : Heap) (locs : List Loc) (ls : Array Slot) (w14 : va_W), (-1) ≤ a1.toInt → a1.toInt ≤ 5 → 1 ≤ a2.toInt → a2.toInt ≤ 30 → 1 ≤ a3.toInt → a3.toInt ≤ 200 → 0 ≤ a4.toInt → a4.toInt ≤ 1 → 0 ≤ v20_8.toInt → v20_8.toInt ≤ 29 → 0 ≤ v139_9.toInt → v139_9.toInt ≤ 9 → 0 ≤ v139_10.toInt → v139_10.toInt ≤ 9 → 0 ≤ v139_11.toInt → v139_11.toInt ≤ 3 → 0 ≤ v139_12.toInt → v139_12.toInt ≤ 167 → (-1) ≤ f139_152_3.toInt → f139_152_3.toInt ≤ 5 → 0 ≤ f20_38_13.toInt → 0 ≤ f139_38_8.toInt → f139_38_8.toInt ≤ 4 → (-1) ≤ f139_39_8.toInt → f139_39_8.toInt ≤ 10 → Wd dC dI A s.heap H locs w14 → TW ksC ad cy (B + 1800 + 1800 * v20_8.toInt) qr s1 w14 → FE ksC [(1, 4, 4), (1, 5, 5), (1, 6, 6), (1, 7, 7), (1, 8, 8), (8, 7, 7), (9, 0, 0), (9, 1, 1), (9, 2, 2), (9, 3, 3), (9, 4, 4), (9, 5, 5), (9, 6, 6), (9, 7, 7), (9, 8, 8), (45, 0, 64)] w0 w14 → gi w14 152 3 = f139_152_3 → gi w14 38 13 = f20_38_13 → gi w14 38 8 = f139_38_8 → gi w14 39 8 = f139_39_8 → lv_has ls 13 [(0, .ref (ad 151)), (1, .int a1), (2, .int a2), (3, .int a3), (4, .int a4), (5, .int v139_5), (6, .long v139_6), (8, .int v20_8), (9, .int v139_9), (10, .int v139_10), (11, .int v139_11), (12, .int v139_12)] → W p l e ({ frames := 7, cells := 0, slots := 0, locals := 158 }) s m (List.toArray [.ref (ad 151), .int a1, .int a2, .int a3, .int a4]) below meth c H locs 0 0 (MQ below (va_Qi (P_X8_tellStrangers_1 ad cy B qr s1 a1 a2 a3 a4 w0) (fun u : va_W => wpost dC dI cy A u) A) (List.toArray [.ref (ad 151), .int a1, .int a2, .int a3, .int a4]) s 0 0 A) (F0 m 139 ls []) := by
        intro v139_5 v139_6 v139_9 v139_10 v139_11 v139_12 f139_152_3 f139_38_8 f139_39_8 H locs ls w14 r15 t16 r17 t18 r19 t20 r21 t22 r23 t24 r25 t26 r27 t28 r29 t30 r31 t32 r33 t34 r36 r38 t39 r41 t42 hw hT hF c35 c37 c40 c43 hl
        obtain ⟨x44, ex44⟩ : ∃ y : Int32, y = v20_8 + Int32.ofInt 1 := ⟨_, rfl⟩
        refine lv_iinc (v := x44) (lv' := [(8, .int x44), (0, .ref (ad 151)), (1, .int a1), (2, .int a2), (3, .int a3), (4, .int a4), (5, .int v139_5), (6, .long v139_6), (9, .int v139_9), (10, .int v139_10), (11, .int v139_11), (12, .int v139_12)]) hx hb dX8_tellStrangers_139 hl (k := 7) rfl ex44.symm (by decide) rfl (fun ls hl => ?_)
        have ex44 : x44.toInt = v20_8.toInt + 1 := by rw [ex44]; exact wk_add (y := 1) (show -2147483648 ≤ v20_8.toInt + 1 by omega) (show v20_8.toInt + 1 ≤ 2147483647 by omega)
        refine lv_goto (tgt := 20) hx hb dX8_tellStrangers_142 (by decide) ?_
        exact ih20 v139_5 v139_6 x44 f20_38_13 H locs ls w14 (show (-1) ≤ a1.toInt by omega) (show a1.toInt ≤ 5 by omega) (show 1 ≤ a2.toInt by omega) (show a2.toInt ≤ 30 by omega) (show 1 ≤ a3.toInt by omega) (show a3.toInt ≤ 200 by omega) (show 0 ≤ a4.toInt by omega) (show a4.toInt ≤ 1 by omega) (show 0 ≤ x44.toInt by omega) (show x44.toInt ≤ 30 by omega) (show 0 ≤ f20_38_13.toInt by omega) (show (30 - x44.toInt).toNat < n20 by omega) hw (hT.up (show (B + 1800 + 1800 * v20_8.toInt) ≤ (B + 0 + 1800 * x44.toInt) by omega)) hF c37 (lv_sub hl [1, 2, 3, 4, 5, 6, 7, 0] rfl)
      refine lv_iload hx hb dX8_tellStrangers_20 (lv_at hl 7 rfl) ?_
      refine lv_iload_n hx hb dX8_tellStrangers_22 rfl (lv_at hl 2 rfl) ?_
      refine lv_icmp_ge (tgt := 145) hx hb dX8_tellStrangers_23 (by decide) (fun c45 => ?_) (fun c45 => ?_)
      · have c45 : a2.toInt ≤ v20_8.toInt := wk_le.mp c45
        refine lv_iload hx hb dX8_tellStrangers_145 (lv_at hl 4 rfl) ?_
        refine lv_if_ne (tgt := 155) hx hb dX8_tellStrangers_147 (by decide) (fun c46 => ?_) (fun c46 => ?_)
        · have c46 : ¬ a4.toInt = (0 : Int) := wk_eqF c46
          refine lv_lload hx hb dX8_tellStrangers_155 (lv_at hl 6 rfl) ?_
          refine lv_l2i hx hb dX8_tellStrangers_157 rfl ?_
          refine lv_topi (fun x47 ex47 => ?_)
          exact tk_iret hC hr hlocks hK ⟨(hT.up (show (B + 0 + 1800 * v20_8.toInt) ≤ (B + 54000) by omega)), hF, trivial⟩ hw dX8_tellStrangers_158
        · have c46 : a4.toInt = (0 : Int) := wk_eq.mp c46
          refine lv_iload hx hb dX8_tellStrangers_150 (lv_at hl 5 rfl) ?_
          refine lv_goto (tgt := 158) hx hb dX8_tellStrangers_152 (by decide) ?_
          exact tk_iret hC hr hlocks hK ⟨(hT.up (show (B + 0 + 1800 * v20_8.toInt) ≤ (B + 54000) by omega)), hF, trivial⟩ hw dX8_tellStrangers_158
      · have c45 : v20_8.toInt < a2.toInt := wk_leF c45
        refine lv_aload_n hx hb dX8_tellStrangers_26 rfl (lv_at hl 0 rfl) ?_
        refine lv_aload_n hx hb dX8_tellStrangers_27 rfl (lv_at hl 0 rfl) ?_
        refine tk_getA hC hK hw hT hinX8 kC_at151 (by decide) rfl 0 (by decide) (List.mem_of_getElem? (i := 1) rfl) rfl rfl dX8_tellStrangers_28 ?_
        refine tk_getO hC hK hw hT hinX5 kC_at38 (by decide) rfl 0 (by decide) (List.mem_of_getElem? (i := 4) rfl) rfl rfl dX8_tellStrangers_31 ?_
        refine tk_geti hC hK hw hT hinX7 kC_at39 (by decide) rfl 8 (by decide) (List.mem_of_getElem? (i := 5) rfl) rfl rfl dX8_tellStrangers_34 (fun x48 c49 rx48 tx48 => ?_)
        refine tk_Vi hC hK hw hT hA hE hSR kC_at151 (by decide) rfl (k_X8_drawBelow_1 l adK adV dC dI cy ad (B + 0 + 1800 * v20_8.toInt) (by omega) (by omega) qr s1   x48 (show (-1) ≤ x48.toInt by omega) (show x48.toInt ≤ 10 by omega) w1 H.size hT ) (cwV 1 hC.2.2.2.2 gX8_tellStrangers_X8_drawBelow rfl rfl rfl (by decide +kernel) ⟨Nat.le_of_ble_eq_true rfl, Nat.le_of_ble_eq_true rfl⟩) rfl hl.1 rfl (Nat.le_of_ble_eq_true rfl) dX8_tellStrangers_37 (fun r50 w52 H locs hp51 hw => ?_)
        obtain ⟨hT, k53, hg56⟩ := hp51
        have hF := hF.tr k53 (by decide)
        have c57 := k53.gi kC_at38 (by decide) c13
        have c58 := k53.gi kC_at39 (by decide) c49
        obtain ⟨g54, g55⟩ := hg56
        refine lv_istore (lv' := [(9, .int r50), (0, .ref (ad 151)), (1, .int a1), (2, .int a2), (3, .int a3), (4, .int a4), (5, .int v20_5), (6, .long v20_6), (8, .int v20_8)]) hx hb dX8_tellStrangers_40 hl (by decide) rfl (fun ls hl => ?_)
        refine lv_aload_n hx hb dX8_tellStrangers_42 rfl (lv_at hl 1 rfl) ?_
        refine lv_aload_n hx hb dX8_tellStrangers_43 rfl (lv_at hl 1 rfl) ?_
        refine tk_getA hC hK hw hT hinX8 kC_at151 (by decide) rfl 0 (by decide) (List.mem_of_getElem? (i := 1) rfl) rfl rfl dX8_tellStrangers_44 ?_
        refine tk_getO hC hK hw hT hinX5 kC_at38 (by decide) rfl 0 (by decide) (List.mem_of_getElem? (i := 4) rfl) rfl rfl dX8_tellStrangers_47 ?_
        refine tk_geti hC hK hw hT hinX7 kC_at39 (by decide) rfl 8 (by decide) (List.mem_of_getElem? (i := 5) rfl) rfl rfl dX8_tellStrangers_50 (fun x59 c60 rx59 tx59 => ?_)
        refine wk_top x48 (c60.symm.trans c58) ?_
        refine tk_Vi hC hK hw hT hA hE hSR kC_at151 (by decide) rfl (k_X8_drawBelow_1 l adK adV dC dI cy ad (B + 0 + 1800 * v20_8.toInt) (by omega) (by omega) qr s1   x48 (show (-1) ≤ x48.toInt by omega) (show x48.toInt ≤ 10 by omega) w52 H.size hT ) (cwV 1 hC.2.2.2.2 gX8_tellStrangers_X8_drawBelow rfl rfl rfl (by decide +kernel) ⟨Nat.le_of_ble_eq_true rfl, Nat.le_of_ble_eq_true rfl⟩) rfl hl.1 rfl (Nat.le_of_ble_eq_true rfl) dX8_tellStrangers_53 (fun r61 w63 H locs hp62 hw => ?_)
        obtain ⟨hT, k64, hg67⟩ := hp62
        have hF := hF.tr k64 (by decide)
        have c68 := k64.gi kC_at38 (by decide) c57
        have c69 := k64.gi kC_at39 (by decide) c58
        obtain ⟨g65, g66⟩ := hg67
        refine lv_istore (lv' := [(10, .int r61), (9, .int r50), (0, .ref (ad 151)), (1, .int a1), (2, .int a2), (3, .int a3), (4, .int a4), (5, .int v20_5), (6, .long v20_6), (8, .int v20_8)]) hx hb dX8_tellStrangers_56 hl (by decide) rfl (fun ls hl => ?_)
        refine lv_aload_n hx hb dX8_tellStrangers_58 rfl (lv_at hl 2 rfl) ?_
        refine lv_aload_n hx hb dX8_tellStrangers_59 rfl (lv_at hl 2 rfl) ?_
        refine tk_getA hC hK hw hT hinX8 kC_at151 (by decide) rfl 0 (by decide) (List.mem_of_getElem? (i := 1) rfl) rfl rfl dX8_tellStrangers_60 ?_
        refine tk_geti hC hK hw hT hinX5 kC_at38 (by decide) rfl 8 (by decide) (List.mem_of_getElem? (i := 6) rfl) rfl rfl dX8_tellStrangers_63 (fun x70 c71 rx70 tx70 => ?_)
        refine tk_Vi hC hK hw hT hA hE hSR kC_at151 (by decide) rfl (k_X8_drawBelow_2 l adK adV dC dI cy ad (B + 0 + 1800 * v20_8.toInt) (by omega) (by omega) qr s1   x70 (show 0 ≤ x70.toInt by omega) (show x70.toInt ≤ 4 by omega) w63 H.size hT ) (cwV 1 hC.2.2.2.2 gX8_tellStrangers_X8_drawBelow rfl rfl rfl (by decide +kernel) ⟨Nat.le_of_ble_eq_true rfl, Nat.le_of_ble_eq_true rfl⟩) rfl hl.1 rfl (Nat.le_of_ble_eq_true rfl) dX8_tellStrangers_66 (fun r72 w74 H locs hp73 hw => ?_)
        obtain ⟨hT, k75, hg78⟩ := hp73
        have hF := hF.tr k75 (by decide)
        have c79 := k75.gi kC_at38 (by decide) c68
        have c80 := k75.gi kC_at39 (by decide) c69
        have c81 := k75.gi kC_at38 (by decide) c71
        obtain ⟨g76, g77⟩ := hg78
        refine lv_istore (lv' := [(11, .int r72), (10, .int r61), (9, .int r50), (0, .ref (ad 151)), (1, .int a1), (2, .int a2), (3, .int a3), (4, .int a4), (5, .int v20_5), (6, .long v20_6), (8, .int v20_8)]) hx hb dX8_tellStrangers_69 hl (by decide) rfl (fun ls hl => ?_)
        refine lv_aload_n hx hb dX8_tellStrangers_71 rfl (lv_at hl 3 rfl) ?_
        refine lv_sipush (v := 168) hx hb dX8_tellStrangers_72 (by decide) ?_
        refine tk_Vi hC hK hw hT hA hE hSR kC_at151 (by decide) rfl (k_X8_drawBelow_3 l adK adV dC dI cy ad (B + 0 + 1800 * v20_8.toInt) (by omega) (by omega) qr s1    w74 H.size hT ) (cwV 1 hC.2.2.2.2 gX8_tellStrangers_X8_drawBelow rfl rfl rfl (by decide +kernel) ⟨Nat.le_of_ble_eq_true rfl, Nat.le_of_ble_eq_true rfl⟩) rfl hl.1 rfl (Nat.le_of_ble_eq_true rfl) dX8_tellStrangers_75 (fun r82 w84 H locs hp83 hw => ?_)
        obtain ⟨hT, k85, hg88⟩ := hp83
        have hF := hF.tr k85 (by decide)
        have c89 := k85.gi kC_at38 (by decide) c79
        have c90 := k85.gi kC_at39 (by decide) c80
        have c91 := k85.gi kC_at38 (by decide) c81
        obtain ⟨g86, g87⟩ := hg88
        refine lv_istore (lv' := [(12, .int r82), (11, .int r72), (10, .int r61), (9, .int r50), (0, .ref (ad 151)), (1, .int a1), (2, .int a2), (3, .int a3), (4, .int a4), (5, .int v20_5), (6, .long v20_6), (8, .int v20_8)]) hx hb dX8_tellStrangers_78 hl (by decide) rfl (fun ls hl => ?_)
        refine lv_aload_n hx hb dX8_tellStrangers_80 rfl (lv_at hl 4 rfl) ?_
        refine tk_getA hC hK hw hT hinX8 kC_at151 (by decide) rfl 3 (by decide) (List.mem_of_getElem? (i := 7) rfl) rfl rfl dX8_tellStrangers_81 ?_
        refine lv_iload hx hb dX8_tellStrangers_84 (lv_at hl 3 rfl) ?_
        refine lv_iload hx hb dX8_tellStrangers_86 (lv_at hl 2 rfl) ?_
        refine lv_iload hx hb dX8_tellStrangers_88 (lv_at hl 1 rfl) ?_
        refine lv_iload_n hx hb dX8_tellStrangers_90 rfl (lv_at hl 5 rfl) ?_
        refine lv_iload hx hb dX8_tellStrangers_91 (lv_at hl 0 rfl) ?_
        refine lv_i2l hx hb dX8_tellStrangers_93 rfl ?_
        refine lv_topl (fun x92 ex92 => ?_)
        have ex92 : x92.toInt = r82.toInt := by rw [ex92]; exact wk_i2l _
        have bx92 := wk_i32 r82
        refine tk_Vv hC hK hw hT hA hE hSR kC_at152 (by decide) rfl (k_X9_setOut_3 l adK adV dC dI cy ad (B + 0 + 1800 * v20_8.toInt) (by omega) (by omega) qr s1   r50 (show 0 ≤ r50.toInt by omega) (show r50.toInt ≤ 9 by omega) r61 (show 0 ≤ r61.toInt by omega) (show r61.toInt ≤ 9 by omega) r72 (show 0 ≤ r72.toInt by omega) (show r72.toInt ≤ 3 by omega) a1 (show (-1) ≤ a1.toInt by omega) (show a1.toInt ≤ 5 by omega) x92 (show 0 ≤ x92.toInt by omega) (show x92.toInt ≤ 167 by omega) w84 H.size hT ) (cwV 5 hC.2.2.2.2 gX8_tellStrangers_X9_setOut rfl rfl rfl (by decide +kernel) ⟨Nat.le_of_ble_eq_true rfl, Nat.le_of_ble_eq_true rfl⟩) rfl hl.1 rfl (Nat.le_of_ble_eq_true rfl) dX8_tellStrangers_94 (fun w95 H locs hp94 hw => ?_)
        obtain ⟨hT, k96, hg105⟩ := hp94
        have hF := hF.tr k96 (by decide)
        have c106 := k96.gi kC_at38 (by decide) c89
        have c107 := k96.gi kC_at39 (by decide) c90
        have c108 := k96.gi kC_at38 (by decide) c91
        obtain ⟨⟨x97, c98, rx97, tx97⟩, ⟨x99, c100, rx99, tx99⟩, ⟨x101, c102, rx101, tx101⟩, ⟨x103, c104, rx103, tx103⟩⟩ := hg105
        refine lv_aload_n hx hb dX8_tellStrangers_97 rfl (lv_at hl 4 rfl) ?_
        refine tk_getA hC hK hw hT hinX8 kC_at151 (by decide) rfl 2 (by decide) (List.mem_of_getElem? (i := 8) rfl) rfl rfl dX8_tellStrangers_98 ?_
        refine lv_aload_n hx hb dX8_tellStrangers_101 rfl (lv_at hl 4 rfl) ?_
        refine tk_getA hC hK hw hT hinX8 kC_at151 (by decide) rfl 3 (by decide) (List.mem_of_getElem? (i := 7) rfl) rfl rfl dX8_tellStrangers_102 ?_
        refine lv_iload_n hx hb dX8_tellStrangers_105 rfl (lv_at hl 7 rfl) ?_
        refine tk_Vi hC hK hw hT hA hE hSR kC_at149 (by decide) rfl (k_X1_takeSteps_3 l adK adV dC dI cy ad (B + 0 + 1800 * v20_8.toInt) (by omega) (by omega) qr s1   a3 (show 1 ≤ a3.toInt by omega) (show a3.toInt ≤ 200 by omega) w95 H.size hT ) (cwV 2 hC.2.2.2.2 gX8_tellStrangers_X1_takeSteps rfl rfl rfl (by decide +kernel) ⟨Nat.le_of_ble_eq_true rfl, Nat.le_of_ble_eq_true rfl⟩) rfl hl.1 rfl (Nat.le_of_ble_eq_true rfl) dX8_tellStrangers_106 (fun r109 w111 H locs hp110 hw => ?_)
        obtain ⟨hT, k112, hg115⟩ := hp110
        have hT := hT.up (B' := (B + 1800 + 1800 * v20_8.toInt)) (by omega)
        have hF := hF.tr k112 (by decide)
        have c116 := k112.gi kC_at38 (by decide) c106
        have c117 := k112.gi kC_at39 (by decide) c107
        have c118 := k112.gi kC_at38 (by decide) c108
        have c119 := k112.gi kC_at152 (by decide) c98
        obtain ⟨g113, g114⟩ := hg115
        refine lv_pop hx hb dX8_tellStrangers_109 rfl ?_
        refine lv_aload_n hx hb dX8_tellStrangers_110 rfl (lv_at hl 4 rfl) ?_
        refine tk_getA hC hK hw hT hinX8 kC_at151 (by decide) rfl 3 (by decide) (List.mem_of_getElem? (i := 7) rfl) rfl rfl dX8_tellStrangers_111 ?_
        refine tk_Vi hC hK hw hT hA hE hSR kC_at152 (by decide) rfl (k_X9_isAtGoal_2 l adK adV dC dI cy ad (B + 1800 + 1800 * v20_8.toInt) (by omega) (by omega) qr s1    w111 H.size hT ) (cwV 0 hC.2.2.2.2 gX8_tellStrangers_X9_isAtGoal rfl rfl rfl (by decide +kernel) ⟨Nat.le_of_ble_eq_true rfl, Nat.le_of_ble_eq_true rfl⟩) rfl hl.1 rfl (Nat.le_of_ble_eq_true rfl) dX8_tellStrangers_114 (fun r120 w122 H locs hp121 hw => ?_)
        obtain ⟨hT, k123, hg124⟩ := hp121
        have hF := hF.tr k123 (by decide)
        have c125 := k123.gi kC_at38 (by decide) c116
        have c126 := k123.gi kC_at39 (by decide) c117
        have c127 := k123.gi kC_at38 (by decide) c118
        have c128 := k123.gi kC_at152 (by decide) c119
        rcases hg124 with rfl | rfl
        · refine lv_if_eq (tgt := 139) hx hb dX8_tellStrangers_117 (by decide) (fun _ => ?_) (fun c => absurd (by decide) c)
          exact J139 v20_5 v20_6 r50 r61 r72 r82 x97 x70 x48 H locs ls w122 (show (-1) ≤ a1.toInt by omega) (show a1.toInt ≤ 5 by omega) (show 1 ≤ a2.toInt by omega) (show a2.toInt ≤ 30 by omega) (show 1 ≤ a3.toInt by omega) (show a3.toInt ≤ 200 by omega) (show 0 ≤ a4.toInt by omega) (show a4.toInt ≤ 1 by omega) (show 0 ≤ v20_8.toInt by omega) (show v20_8.toInt ≤ 29 by omega) (show 0 ≤ r50.toInt by omega) (show r50.toInt ≤ 9 by omega) (show 0 ≤ r61.toInt by omega) (show r61.toInt ≤ 9 by omega) (show 0 ≤ r72.toInt by omega) (show r72.toInt ≤ 3 by omega) (show 0 ≤ r82.toInt by omega) (show r82.toInt ≤ 167 by omega) (show (-1) ≤ x97.toInt by omega) (show x97.toInt ≤ 5 by omega) (show 0 ≤ f20_38_13.toInt by omega) (show 0 ≤ x70.toInt by omega) (show x70.toInt ≤ 4 by omega) (show (-1) ≤ x48.toInt by omega) (show x48.toInt ≤ 10 by omega)  hw hT hF c128 c125 c127 c126 (lv_sub hl [4, 5, 6, 7, 8, 9, 10, 11, 3, 2, 1, 0] rfl)
        · refine lv_if_eq (tgt := 139) hx hb dX8_tellStrangers_117 (by decide) (fun c => absurd c (by decide)) (fun _ => ?_)
          have nx130 := wk_i32 v20_5
          obtain ⟨x129, ex129⟩ : ∃ y : Int32, y = v20_5 + Int32.ofInt 1 := ⟨_, rfl⟩
          refine lv_iinc (v := x129) (lv' := [(5, .int x129), (12, .int r82), (11, .int r72), (10, .int r61), (9, .int r50), (0, .ref (ad 151)), (1, .int a1), (2, .int a2), (3, .int a3), (4, .int a4), (6, .long v20_6), (8, .int v20_8)]) hx hb dX8_tellStrangers_120 hl (k := 9) rfl ex129.symm (by decide) rfl (fun ls hl => ?_)
          refine lv_lload hx hb dX8_tellStrangers_123 (lv_at hl 10 rfl) ?_
          refine lv_aload_n hx hb dX8_tellStrangers_125 rfl (lv_at hl 5 rfl) ?_
          refine tk_getA hC hK hw hT hinX8 kC_at151 (by decide) rfl 3 (by decide) (List.mem_of_getElem? (i := 7) rfl) rfl rfl dX8_tellStrangers_126 ?_
          refine tk_getB hC hK hw hT hinX9 kC_at152 (by decide) rfl 4 (by decide) (List.mem_of_getElem? (i := 9) rfl) rfl rfl dX8_tellStrangers_129 (fun x131 c132 rx131 tx131 => ?_)
          refine lv_iload hx hb dX8_tellStrangers_132 (lv_at hl 1 rfl) ?_
          refine lv_i2l hx hb dX8_tellStrangers_134 rfl ?_
          refine lv_topl (fun x133 ex133 => ?_)
          have ex133 : x133.toInt = r82.toInt := by rw [ex133]; exact wk_i2l _
          have bx133 := wk_i32 r82
          refine lv_lsub hx hb dX8_tellStrangers_135 ?_
          refine lv_topl (fun x134 ex134 => ?_)
          have ex134 : x134.toInt = x131.toInt - x133.toInt := by rw [ex134]; exact wk_subl (show (-9223372036854775808) ≤ x131.toInt - x133.toInt by omega) (show x131.toInt - x133.toInt ≤ 9223372036854775807 by omega)
          refine lv_ladd hx hb dX8_tellStrangers_136 ?_
          have nx135 := wk_i64 v20_6
          refine lv_topl (fun x136 ex136 => ?_)
          refine lv_lstore (lv' := [(6, .long x136), (5, .int x129), (12, .int r82), (11, .int r72), (10, .int r61), (9, .int r50), (0, .ref (ad 151)), (1, .int a1), (2, .int a2), (3, .int a3), (4, .int a4), (8, .int v20_8)]) hx hb dX8_tellStrangers_137 hl (by decide) rfl (fun ls hl => ?_)
          exact J139 x129 x136 r50 r61 r72 r82 x97 x70 x48 H locs ls w122 (show (-1) ≤ a1.toInt by omega) (show a1.toInt ≤ 5 by omega) (show 1 ≤ a2.toInt by omega) (show a2.toInt ≤ 30 by omega) (show 1 ≤ a3.toInt by omega) (show a3.toInt ≤ 200 by omega) (show 0 ≤ a4.toInt by omega) (show a4.toInt ≤ 1 by omega) (show 0 ≤ v20_8.toInt by omega) (show v20_8.toInt ≤ 29 by omega) (show 0 ≤ r50.toInt by omega) (show r50.toInt ≤ 9 by omega) (show 0 ≤ r61.toInt by omega) (show r61.toInt ≤ 9 by omega) (show 0 ≤ r72.toInt by omega) (show r72.toInt ≤ 3 by omega) (show 0 ≤ r82.toInt by omega) (show r82.toInt ≤ 167 by omega) (show (-1) ≤ x97.toInt by omega) (show x97.toInt ≤ 5 by omega) (show 0 ≤ f20_38_13.toInt by omega) (show 0 ≤ x70.toInt by omega) (show x70.toInt ≤ 4 by omega) (show (-1) ≤ x48.toInt by omega) (show x48.toInt ≤ 10 by omega)  hw hT hF c128 c125 c127 c126 (lv_sub hl [6, 7, 8, 9, 10, 1, 0, 11, 5, 4, 3, 2] rfl)
  refine lv_aload_n hx hb dX8_tellStrangers_0 rfl (lv_at hl 0 rfl) ?_
  refine lv_aload_n hx hb dX8_tellStrangers_1 rfl (lv_at hl 0 rfl) ?_
  refine tk_getA hC hK hw hT hinX8 kC_at151 (by decide) rfl 0 (by decide) (List.mem_of_getElem? (i := 1) rfl) rfl rfl dX8_tellStrangers_2 ?_
  refine tk_geti hC hK hw hT hinX5 kC_at38 (by decide) rfl 13 (by decide) (List.mem_of_getElem? (i := 2) rfl) rfl rfl dX8_tellStrangers_5 (fun x137 c138 rx137 tx137 => ?_)
  refine tk_puti hC hK hw hT hinX8 tyX8_ok nmX8 kC_at151 (by decide) rfl rfl 7 (by decide) (List.mem_of_getElem? (i := 3) rfl) rfl rfl rfl rfl (show 0 ≤ x137.toInt by omega) (wk_i32 x137).2 dX8_tellStrangers_8 (fun H locs w139 hw hT k141 c140 => ?_)
  have hF := hF.put kC_at151 (k := 7) (by decide) k141
  have c142 := k141.gi (Or.inr (by decide)) c138
  refine lv_iconst (v := 0) hx hb dX8_tellStrangers_11 (by decide) ?_
  refine lv_istore (lv' := [(5, .int 0), (0, .ref (ad 151)), (1, .int a1), (2, .int a2), (3, .int a3), (4, .int a4)]) hx hb dX8_tellStrangers_12 hl (by decide) rfl (fun ls hl => ?_)
  refine lv_lconst (v := 0) hx hb dX8_tellStrangers_14 (by decide) ?_
  refine lv_lstore (lv' := [(6, .long 0), (5, .int 0), (0, .ref (ad 151)), (1, .int a1), (2, .int a2), (3, .int a3), (4, .int a4)]) hx hb dX8_tellStrangers_15 hl (by decide) rfl (fun ls hl => ?_)
  refine lv_iconst (v := 0) hx hb dX8_tellStrangers_17 (by decide) ?_
  refine lv_istore (lv' := [(8, .int 0), (6, .long 0), (5, .int 0), (0, .ref (ad 151)), (1, .int a1), (2, .int a2), (3, .int a3), (4, .int a4)]) hx hb dX8_tellStrangers_18 hl (by decide) rfl (fun ls hl => ?_)
  exact L20 ((30 - (0 : Int)).toNat + 1) 0 0 0 x137 H locs ls w139 (show (-1) ≤ a1.toInt by omega) (show a1.toInt ≤ 5 by omega) (show 1 ≤ a2.toInt by omega) (show a2.toInt ≤ 30 by omega) (show 1 ≤ a3.toInt by omega) (show a3.toInt ≤ 200 by omega) (show 0 ≤ a4.toInt by omega) (show a4.toInt ≤ 1 by omega) (by decide) (by decide) (show 0 ≤ x137.toInt by omega) (Nat.lt_succ_self _) hw (hT.up (show B ≤ (B + 0 + 1800 * (0 : Int32).toInt) by rw [show (0 : Int32).toInt = 0 by decide]; omega)) hF c142 (lv_sub hl [3, 4, 5, 6, 7, 2, 1, 0] rfl)
abbrev P_X11_strangers_1 (ad : Nat → Nat) (cy : Nat → ClassId) (B : Int) (qr : Nat) (s1 : Int) (a1 : Int32) (a2 : Int32) (a3 : Int32) (a4 : Int32) (w0 : va_W) : Int32 → va_W → Prop := fun r u => TW ksC ad cy (B + 54000) qr s1 u ∧ FE ksC [(1, 4, 4), (1, 5, 5), (1, 6, 6), (1, 7, 7), (1, 8, 8), (8, 7, 7), (9, 0, 0), (9, 1, 1), (9, 2, 2), (9, 3, 3), (9, 4, 4), (9, 5, 5), (9, 6, 6), (9, 7, 7), (9, 8, 8), (42, 0, 1100), (43, 0, 1100), (44, 0, 11), (45, 0, 64)] w0 u ∧ (((-1) ≤ a1.toInt ∧ a1.toInt ≤ 5 ∧ 1 ≤ a2.toInt ∧ a2.toInt ≤ 30 ∧ 1 ≤ a3.toInt ∧ a3.toInt ≤ 200 ∧ 0 ≤ a4.toInt ∧ a4.toInt ≤ 1 ∧ (∃ y : Int32, gi u 38 8 = y ∧ 1 ≤ y.toInt ∧ y.toInt ≤ 4)) ∨ (r = (-1)))
set_option maxHeartbeats 4000000 in
set_option maxRecDepth 100000 in
theorem k_X11_strangers_1 (l : Launch) (adK adV : Nat → Nat) (dC : Nat → ClassId) (dI : Nat → Nat → Nat) (cy : Nat → ClassId) (ad : Nat → Nat) (B : Int) (hB0 : 2147483648 ≤ B) (hB1 : B ≤ 1152921504606792976) (qr : Nat) (s1 : Int)  (a1 : Int32) (a2 : Int32) (a3 : Int32) (a4 : Int32) (w0 : va_W) (sz : Nat) (hT : TW ksC ad cy B qr s1 w0)  : Met l yX11_strangers wsX11_strangers ({ frames := 8, cells := 0, slots := 0, locals := 190 }) (va_Pc [.ref (ad 0), .int a1, .int a2, .int a3, .int a4] (wpreS adK adV dC dI cy sz w0)) (va_Qi (P_X11_strangers_1 ad cy B qr s1 a1 a2 a3 a4 w0) (fun u : va_W => wpost dC dI cy (va_A w0 sz) u) (va_A w0 sz)) 0 0 (va_A w0 sz) := by
  refine Met.ofW (cc := cX11_strangers) (maxL := 5) (ret := (some .int)) (by decide) rfl ?_
  intro p e s m args below meth c s₁ Bk hml hv
  obtain ⟨rfl, ⟨hsz, hP, hK, hD0⟩, hE, hSR⟩ := hv
  have hx := Bk.exec
  have hb := Bk.bytes
  have hr := Bk.returns
  have hlocks := Bk.notSynchronized
  have hC : CallFix p m c cX11_strangers 5 s _ wsX11_strangers RX11 := ⟨hx, hb, hml, findClass_of_methodNamed Bk.named, atoms_spec (ws := wsX11_strangers) Bk.pre⟩
  subst hsz
  have hD := hD0.self (sz := s.heap.size)
  generalize hAe : va_A w0 s.heap.size = A at hD hE ⊢
  have hA : ∀ q : Nat, s.heap.size ≤ q → A q := fun q h => by rw [← hAe]; exact Or.inr h
  have hw : Wd dC dI A s.heap s.heap [] w0 := ⟨hP, hD, va_S.rf⟩
  have hF : FE ksC [(1, 4, 4), (1, 5, 5), (1, 6, 6), (1, 7, 7), (1, 8, 8), (8, 7, 7), (9, 0, 0), (9, 1, 1), (9, 2, 2), (9, 3, 3), (9, 4, 4), (9, 5, 5), (9, 6, 6), (9, 7, 7), (9, 8, 8), (42, 0, 1100), (43, 0, 1100), (44, 0, 11), (45, 0, 64)] w0 w0 := FE.rf
  have hl := lv_entry ([.ref (ad 0), .int a1, .int a2, .int a3, .int a4]) (n := 5) (Nat.le_of_ble_eq_true rfl)
  rw [lg_entry_eq]
  generalize (lg_sl ([.ref (ad 0), .int a1, .int a2, .int a3, .int a4]) ++ List.replicate (5 - (lg_sl ([.ref (ad 0), .int a1, .int a2, .int a3, .int a4])).length) Slot.unset).toArray = ls at hl ⊢
  have hl : lv_has ls 5 [(0, .ref (ad 0)), (1, .int a1), (2, .int a2), (3, .int a3), (4, .int a4)] := hl
  generalize hloc : ([] : List Loc) = locs at hw ⊢
  have hinX11 : ∀ w ∈ u_ws RX11 TX11 13, w ∈ wsX11_strangers := fun _ h => List.mem_cons_of_mem _ (List.mem_append_left _ (List.mem_append_left _ (List.mem_append_left _ (List.mem_append_left _ (List.mem_append_left _ (List.mem_append_left _ (List.mem_append_left _ (List.mem_append_right _ (h)))))))))
  have hinX5 : ∀ w ∈ u_ws RX5 TX5 14, w ∈ wsX11_strangers := fun _ h => List.mem_cons_of_mem _ (List.mem_append_left _ (List.mem_append_left _ (List.mem_append_left _ (List.mem_append_left _ (List.mem_append_left _ (List.mem_append_left _ (List.mem_append_right _ (h))))))))
  have J29 : ∀ (H : Heap) (locs : List Loc) (ls : Array Slot) (w1 : va_W), Wd dC dI A s.heap H locs w1 → TW ksC ad cy B qr s1 w1 → FE ksC [(1, 4, 4), (1, 5, 5), (1, 6, 6), (1, 7, 7), (1, 8, 8), (8, 7, 7), (9, 0, 0), (9, 1, 1), (9, 2, 2), (9, 3, 3), (9, 4, 4), (9, 5, 5), (9, 6, 6), (9, 7, 7), (9, 8, 8), (42, 0, 1100), (43, 0, 1100), (44, 0, 11), (45, 0, 64)] w0 w1 → lv_has ls 5 [(0, .ref (ad 0)), (1, .int a1), (2, .int a2), (3, .int a3), (4, .int a4)] → W p l e ({ frames := 8, cells := 0, slots := 0, locals := 190 }) s m (List.toArray [.ref (ad 0), .int a1, .int a2, .int a3, .int a4]) below meth c H locs 0 0 (MQ below (va_Qi (P_X11_strangers_1 ad cy B qr s1 a1 a2 a3 a4 w0) (fun u : va_W => wpost dC dI cy A u) A) (List.toArray [.ref (ad 0), .int a1, .int a2, .int a3, .int a4]) s 0 0 A) (F0 m 29 ls []) := by
    intro H locs ls w1 hw hT hF hl
    refine lv_iconst (v := (-1)) hx hb dX11_strangers_29 (by decide) ?_
    exact tk_iret hC hr hlocks hK ⟨(hT.up (show B ≤ (B + 54000) by omega)), hF, (Or.inr rfl)⟩ hw dX11_strangers_30
  have J54 : ∀ (f54_38_8 : Int32) (H : Heap) (locs : List Loc) (ls : Array Slot) (w2 : va_W), (-1) ≤ a1.toInt → a1.toInt ≤ 5 → 1 ≤ a2.toInt → a2.toInt ≤ 30 → 1 ≤ f54_38_8.toInt → f54_38_8.toInt ≤ 4 → Wd dC dI A s.heap H locs w2 → TW ksC ad cy B qr s1 w2 → FE ksC [(1, 4, 4), (1, 5, 5), (1, 6, 6), (1, 7, 7), (1, 8, 8), (8, 7, 7), (9, 0, 0), (9, 1, 1), (9, 2, 2), (9, 3, 3), (9, 4, 4), (9, 5, 5), (9, 6, 6), (9, 7, 7), (9, 8, 8), (42, 0, 1100), (43, 0, 1100), (44, 0, 11), (45, 0, 64)] w0 w2 → gi w2 38 8 = f54_38_8 → lv_has ls 5 [(0, .ref (ad 0)), (1, .int a1), (2, .int a2), (3, .int a3), (4, .int a4)] → W p l e ({ frames := 8, cells := 0, slots := 0, locals := 190 }) s m (List.toArray [.ref (ad 0), .int a1, .int a2, .int a3, .int a4]) below meth c H locs 0 0 (MQ below (va_Qi (P_X11_strangers_1 ad cy B qr s1 a1 a2 a3 a4 w0) (fun u : va_W => wpost dC dI cy A u) A) (List.toArray [.ref (ad 0), .int a1, .int a2, .int a3, .int a4]) s 0 0 A) (F0 m 54 ls []) := by
    intro f54_38_8 H locs ls w2 r3 t4 r5 t6 r7 t8 hw hT hF c9 hl
    refine lv_iconst (v := (-1)) hx hb dX11_strangers_54 (by decide) ?_
    exact tk_iret hC hr hlocks hK ⟨(hT.up (show B ≤ (B + 54000) by omega)), hF, (Or.inr rfl)⟩ hw dX11_strangers_55
  refine lv_aload_n hx hb dX11_strangers_0 rfl (lv_at hl 0 rfl) ?_
  refine lv_iload_n hx hb dX11_strangers_1 rfl (lv_at hl 1 rfl) ?_
  refine tk_Vi hC hK hw hT hA hE hSR kC_at0 (by decide) rfl (k_X11_hasRuleOrNone_1 l adK adV dC dI cy ad B (by omega) (by omega) qr s1   a1 w0 s.heap.size hT ) (cwV 1 hC.2.2.2.2 gX11_strangers_X11_hasRuleOrNone rfl rfl rfl (by decide +kernel) ⟨Nat.le_of_ble_eq_true rfl, Nat.le_of_ble_eq_true rfl⟩) rfl hl.1 rfl (Nat.le_of_ble_eq_true rfl) dX11_strangers_2 (fun r10 w12 H locs hp11 hw => ?_)
  obtain ⟨hT, k13, hg16⟩ := hp11
  have hF := hF.tr k13 (by decide)
  rcases hg16 with rfl | ⟨rfl, g14, g15⟩
  · refine lv_if_eq (tgt := 29) hx hb dX11_strangers_5 (by decide) (fun _ => ?_) (fun c => absurd (by decide) c)
    exact J29  H locs ls w12   hw hT hF  (lv_sub hl [0, 1, 2, 3, 4] rfl)
  · refine lv_if_eq (tgt := 29) hx hb dX11_strangers_5 (by decide) (fun c => absurd c (by decide)) (fun _ => ?_)
    refine lv_aload_n hx hb dX11_strangers_8 rfl (lv_at hl 0 rfl) ?_
    refine tk_getA hC hK hw hT hinX11 kC_at0 (by decide) rfl 4 (by decide) (List.mem_of_getElem? (i := 1) rfl) rfl rfl dX11_strangers_9 ?_
    refine tk_geti hC hK hw hT hinX5 kC_at38 (by decide) rfl 8 (by decide) (List.mem_of_getElem? (i := 2) rfl) rfl rfl dX11_strangers_12 (fun x17 c18 rx17 tx17 => ?_)
    refine lv_if_eq (tgt := 29) hx hb dX11_strangers_15 (by decide) (fun c19 => ?_) (fun c19 => ?_)
    · have c19 : x17.toInt = (0 : Int) := wk_eq.mp c19
      exact J29  H locs ls w12   hw hT hF  (lv_sub hl [0, 1, 2, 3, 4] rfl)
    · have c19 : ¬ x17.toInt = (0 : Int) := wk_eqF c19
      refine lv_iload_n hx hb dX11_strangers_18 rfl (lv_at hl 2 rfl) ?_
      refine lv_iconst (v := 1) hx hb dX11_strangers_19 (by decide) ?_
      refine lv_icmp_lt (tgt := 29) hx hb dX11_strangers_20 (by decide) (fun c20 => ?_) (fun c20 => ?_)
      · have c20 : a2.toInt < (1 : Int) := wk_lt.mp c20
        exact J29  H locs ls w12   hw hT hF  (lv_sub hl [0, 1, 2, 3, 4] rfl)
      · have c20 : (1 : Int) ≤ a2.toInt := wk_ltF c20
        refine lv_iload_n hx hb dX11_strangers_23 rfl (lv_at hl 2 rfl) ?_
        refine lv_bipush (v := 30) hx hb dX11_strangers_24 (by decide) ?_
        refine lv_icmp_le (tgt := 31) hx hb dX11_strangers_26 (by decide) (fun c21 => ?_) (fun c21 => ?_)
        · have c21 : a2.toInt ≤ (30 : Int) := wk_le.mp c21
          refine lv_iload_n hx hb dX11_strangers_31 rfl (lv_at hl 3 rfl) ?_
          refine lv_iconst (v := 1) hx hb dX11_strangers_32 (by decide) ?_
          refine lv_icmp_lt (tgt := 54) hx hb dX11_strangers_33 (by decide) (fun c22 => ?_) (fun c22 => ?_)
          · have c22 : a3.toInt < (1 : Int) := wk_lt.mp c22
            exact J54 x17 H locs ls w12 (show (-1) ≤ a1.toInt by omega) (show a1.toInt ≤ 5 by omega) (show 1 ≤ a2.toInt by omega) (show a2.toInt ≤ 30 by omega) (show 1 ≤ x17.toInt by omega) (show x17.toInt ≤ 4 by omega)  hw hT hF c18 (lv_sub hl [0, 1, 2, 3, 4] rfl)
          · have c22 : (1 : Int) ≤ a3.toInt := wk_ltF c22
            refine lv_iload_n hx hb dX11_strangers_36 rfl (lv_at hl 3 rfl) ?_
            refine lv_sipush (v := 200) hx hb dX11_strangers_37 (by decide) ?_
            refine lv_icmp_gt (tgt := 54) hx hb dX11_strangers_40 (by decide) (fun c23 => ?_) (fun c23 => ?_)
            · have c23 : (200 : Int) < a3.toInt := wk_lt.mp c23
              exact J54 x17 H locs ls w12 (show (-1) ≤ a1.toInt by omega) (show a1.toInt ≤ 5 by omega) (show 1 ≤ a2.toInt by omega) (show a2.toInt ≤ 30 by omega) (show 1 ≤ x17.toInt by omega) (show x17.toInt ≤ 4 by omega)  hw hT hF c18 (lv_sub hl [0, 1, 2, 3, 4] rfl)
            · have c23 : a3.toInt ≤ (200 : Int) := wk_ltF c23
              refine lv_iload hx hb dX11_strangers_43 (lv_at hl 4 rfl) ?_
              refine lv_if_lt (tgt := 54) hx hb dX11_strangers_45 (by decide) (fun c24 => ?_) (fun c24 => ?_)
              · have c24 : a4.toInt < (0 : Int) := wk_lt.mp c24
                exact J54 x17 H locs ls w12 (show (-1) ≤ a1.toInt by omega) (show a1.toInt ≤ 5 by omega) (show 1 ≤ a2.toInt by omega) (show a2.toInt ≤ 30 by omega) (show 1 ≤ x17.toInt by omega) (show x17.toInt ≤ 4 by omega)  hw hT hF c18 (lv_sub hl [0, 1, 2, 3, 4] rfl)
              · have c24 : (0 : Int) ≤ a4.toInt := wk_ltF c24
                refine lv_iload hx hb dX11_strangers_48 (lv_at hl 4 rfl) ?_
                refine lv_iconst (v := 1) hx hb dX11_strangers_50 (by decide) ?_
                refine lv_icmp_le (tgt := 56) hx hb dX11_strangers_51 (by decide) (fun c25 => ?_) (fun c25 => ?_)
                · have c25 : a4.toInt ≤ (1 : Int) := wk_le.mp c25
                  refine lv_aload_n hx hb dX11_strangers_56 rfl (lv_at hl 0 rfl) ?_
                  refine tk_getA hC hK hw hT hinX11 kC_at0 (by decide) rfl 7 (by decide) (List.mem_of_getElem? (i := 3) rfl) rfl rfl dX11_strangers_57 ?_
                  refine tk_Vv hC hK hw hT hA hE hSR kC_at145 (by decide) rfl (k_X0_refreshAll_1 l adK adV dC dI cy ad B (by omega) (by omega) qr s1    w12 H.size hT ) (cwV 0 hC.2.2.2.2 gX11_strangers_X0_refreshAll rfl rfl rfl (by decide +kernel) ⟨Nat.le_of_ble_eq_true rfl, Nat.le_of_ble_eq_true rfl⟩) rfl hl.1 rfl (Nat.le_of_ble_eq_true rfl) dX11_strangers_60 (fun w28 H locs hp27 hw => ?_)
                  obtain ⟨hT, k29, hg30⟩ := hp27
                  have hF := hF.tr k29 (by decide)
                  have c31 := k29.gi kC_at38 (by decide) c18
                  clear hg30
                  refine lv_aload_n hx hb dX11_strangers_63 rfl (lv_at hl 0 rfl) ?_
                  refine tk_getA hC hK hw hT hinX11 kC_at0 (by decide) rfl 9 (by decide) (List.mem_of_getElem? (i := 4) rfl) rfl rfl dX11_strangers_64 ?_
                  refine lv_iload_n hx hb dX11_strangers_67 rfl (lv_at hl 1 rfl) ?_
                  refine lv_iload_n hx hb dX11_strangers_68 rfl (lv_at hl 2 rfl) ?_
                  refine lv_iload_n hx hb dX11_strangers_69 rfl (lv_at hl 3 rfl) ?_
                  refine lv_iload hx hb dX11_strangers_70 (lv_at hl 4 rfl) ?_
                  refine tk_Vi hC hK hw hT hA hE hSR kC_at151 (by decide) rfl (k_X8_tellStrangers_1 l adK adV dC dI cy ad B (by omega) (by omega) qr s1   a1 (show (-1) ≤ a1.toInt by omega) (show a1.toInt ≤ 5 by omega) a2 (show 1 ≤ a2.toInt by omega) (show a2.toInt ≤ 30 by omega) a3 (show 1 ≤ a3.toInt by omega) (show a3.toInt ≤ 200 by omega) a4 (show 0 ≤ a4.toInt by omega) (show a4.toInt ≤ 1 by omega) w28 H.size hT ) (cwV 4 hC.2.2.2.2 gX11_strangers_X8_tellStrangers rfl rfl rfl (by decide +kernel) ⟨Nat.le_of_ble_eq_true rfl, Nat.le_of_ble_eq_true rfl⟩) rfl hl.1 rfl (Nat.le_of_ble_eq_true rfl) dX11_strangers_72 (fun r32 w34 H locs hp33 hw => ?_)
                  obtain ⟨hT, k35, hg36⟩ := hp33
                  have hF := hF.tr k35 (by decide)
                  have c37 := k35.gi kC_at38 (by decide) c31
                  clear hg36
                  exact tk_iret hC hr hlocks hK ⟨hT, hF, (Or.inl ⟨(show (-1) ≤ a1.toInt by omega), (show a1.toInt ≤ 5 by omega), (show 1 ≤ a2.toInt by omega), (show a2.toInt ≤ 30 by omega), (show 1 ≤ a3.toInt by omega), (show a3.toInt ≤ 200 by omega), (show 0 ≤ a4.toInt by omega), (show a4.toInt ≤ 1 by omega), ⟨x17, c37, (show 1 ≤ x17.toInt by omega), (show x17.toInt ≤ 4 by omega)⟩⟩)⟩ hw dX11_strangers_75
                · have c25 : (1 : Int) < a4.toInt := wk_leF c25
                  exact J54 x17 H locs ls w12 (show (-1) ≤ a1.toInt by omega) (show a1.toInt ≤ 5 by omega) (show 1 ≤ a2.toInt by omega) (show a2.toInt ≤ 30 by omega) (show 1 ≤ x17.toInt by omega) (show x17.toInt ≤ 4 by omega)  hw hT hF c18 (lv_sub hl [0, 1, 2, 3, 4] rfl)
        · have c21 : (30 : Int) < a2.toInt := wk_leF c21
          exact J29  H locs ls w12   hw hT hF  (lv_sub hl [0, 1, 2, 3, 4] rfl)
abbrev P_X11_count_1 (ad : Nat → Nat) (cy : Nat → ClassId) (B : Int) (qr : Nat) (s1 : Int) (a1 : Int32) (w0 : va_W) : Int32 → va_W → Prop := fun r u => TW ksC ad cy B qr s1 u ∧ FE ksC ([] : List (Nat × Nat × Nat)) w0 u ∧ (((-1) ≤ r.toInt ∧ r.toInt ≤ 10 ∧ 0 ≤ a1.toInt ∧ a1.toInt ≤ 0) ∨ (0 ≤ r.toInt ∧ 1 ≤ a1.toInt ∧ a1.toInt ≤ 11) ∨ (r = (-1)))
set_option maxHeartbeats 4000000 in
set_option maxRecDepth 100000 in
theorem k_X11_count_1 (l : Launch) (adK adV : Nat → Nat) (dC : Nat → ClassId) (dI : Nat → Nat → Nat) (cy : Nat → ClassId) (ad : Nat → Nat) (B : Int) (hB0 : 2147483648 ≤ B) (hB1 : B ≤ 1152921504606846976) (qr : Nat) (s1 : Int)  (a1 : Int32) (w0 : va_W) (sz : Nat) (hT : TW ksC ad cy B qr s1 w0)  : Met l yX11_count wsX11_count ({ frames := 1, cells := 0, slots := 0, locals := 12 }) (va_Pc [.ref (ad 0), .int a1] (wpreS adK adV dC dI cy sz w0)) (va_Qi (P_X11_count_1 ad cy B qr s1 a1 w0) (fun u : va_W => wpost dC dI cy (va_A w0 sz) u) (va_A w0 sz)) 0 0 (va_A w0 sz) := by
  refine Met.ofW (cc := cX11_count) (maxL := 2) (ret := (some .int)) (by decide) rfl ?_
  intro p e s m args below meth c s₁ Bk hml hv
  obtain ⟨rfl, ⟨hsz, hP, hK, hD0⟩, hE, hSR⟩ := hv
  have hx := Bk.exec
  have hb := Bk.bytes
  have hr := Bk.returns
  have hlocks := Bk.notSynchronized
  have hC : CallFix p m c cX11_count 2 s _ wsX11_count RX11 := ⟨hx, hb, hml, findClass_of_methodNamed Bk.named, atoms_spec (ws := wsX11_count) Bk.pre⟩
  subst hsz
  have hD := hD0.self (sz := s.heap.size)
  generalize hAe : va_A w0 s.heap.size = A at hD hE ⊢
  have hA : ∀ q : Nat, s.heap.size ≤ q → A q := fun q h => by rw [← hAe]; exact Or.inr h
  have hw : Wd dC dI A s.heap s.heap [] w0 := ⟨hP, hD, va_S.rf⟩
  have hF : FE ksC ([] : List (Nat × Nat × Nat)) w0 w0 := FE.rf
  have hl := lv_entry ([.ref (ad 0), .int a1]) (n := 2) (Nat.le_of_ble_eq_true rfl)
  rw [lg_entry_eq]
  generalize (lg_sl ([.ref (ad 0), .int a1]) ++ List.replicate (2 - (lg_sl ([.ref (ad 0), .int a1])).length) Slot.unset).toArray = ls at hl ⊢
  have hl : lv_has ls 2 [(0, .ref (ad 0)), (1, .int a1)] := hl
  generalize hloc : ([] : List Loc) = locs at hw ⊢
  have hinX11 : ∀ w ∈ u_ws RX11 TX11 13, w ∈ wsX11_count := fun _ h => List.mem_cons_of_mem _ (List.mem_append_left _ (List.mem_append_left _ (List.mem_append_left _ (List.mem_append_right _ (h)))))
  have hinX5 : ∀ w ∈ u_ws RX5 TX5 14, w ∈ wsX11_count := fun _ h => List.mem_cons_of_mem _ (List.mem_append_left _ (List.mem_append_left _ (List.mem_append_right _ (h))))
  have hinX7 : ∀ w ∈ u_ws RX7 TX7 12, w ∈ wsX11_count := fun _ h => List.mem_cons_of_mem _ (List.mem_append_left _ (List.mem_append_right _ (h)))
  have hinX6 : ∀ w ∈ u_ws RX6 TX6 5, w ∈ wsX11_count := fun _ h => List.mem_cons_of_mem _ (List.mem_append_right _ (h))
  refine lv_iload_n hx hb dX11_count_0 rfl (lv_at hl 1 rfl) ?_
  rcases (show a1.toInt = 0 ∨ a1.toInt = 1 ∨ a1.toInt = 2 ∨ a1.toInt = 3 ∨ a1.toInt = 4 ∨ a1.toInt = 5 ∨ a1.toInt = 6 ∨ a1.toInt = 7 ∨ a1.toInt = 8 ∨ a1.toInt = 9 ∨ a1.toInt = 10 ∨ a1.toInt = 11 ∨ (a1.toInt < 0 ∨ 11 < a1.toInt) by omega) with c1 | c1 | c1 | c1 | c1 | c1 | c1 | c1 | c1 | c1 | c1 | c1 | c1
  · refine lv_tableIn (off := 63) (tgt := 64) hx hb dX11_count_1 (by omega) (by omega) (by rw [c1]; rfl) (by decide) ?_
    refine lv_aload_n hx hb dX11_count_64 rfl (lv_at hl 0 rfl) ?_
    refine tk_getA hC hK hw hT hinX11 kC_at0 (by decide) rfl 4 (by decide) (List.mem_of_getElem? (i := 1) rfl) rfl rfl dX11_count_65 ?_
    refine tk_getO hC hK hw hT hinX5 kC_at38 (by decide) rfl 0 (by decide) (List.mem_of_getElem? (i := 2) rfl) rfl rfl dX11_count_68 ?_
    refine tk_geti hC hK hw hT hinX7 kC_at39 (by decide) rfl 8 (by decide) (List.mem_of_getElem? (i := 3) rfl) rfl rfl dX11_count_71 (fun x2 c3 rx2 tx2 => ?_)
    exact tk_iret hC hr hlocks hK ⟨hT, hF, (Or.inl ⟨(show (-1) ≤ x2.toInt by omega), (show x2.toInt ≤ 10 by omega), (show 0 ≤ a1.toInt by omega), (show a1.toInt ≤ 0 by omega)⟩)⟩ hw dX11_count_74
  · refine lv_tableIn (off := 74) (tgt := 75) hx hb dX11_count_1 (by omega) (by omega) (by rw [c1]; rfl) (by decide) ?_
    refine lv_aload_n hx hb dX11_count_75 rfl (lv_at hl 0 rfl) ?_
    refine tk_getA hC hK hw hT hinX11 kC_at0 (by decide) rfl 4 (by decide) (List.mem_of_getElem? (i := 1) rfl) rfl rfl dX11_count_76 ?_
    refine tk_getO hC hK hw hT hinX5 kC_at38 (by decide) rfl 0 (by decide) (List.mem_of_getElem? (i := 2) rfl) rfl rfl dX11_count_79 ?_
    refine tk_geti hC hK hw hT hinX7 kC_at39 (by decide) rfl 9 (by decide) (List.mem_of_getElem? (i := 4) rfl) rfl rfl dX11_count_82 (fun x4 c5 rx4 tx4 => ?_)
    exact tk_iret hC hr hlocks hK ⟨hT, hF, (Or.inr (Or.inl ⟨(show 0 ≤ x4.toInt by omega), (show 1 ≤ a1.toInt by omega), (show a1.toInt ≤ 11 by omega)⟩))⟩ hw dX11_count_85
  · refine lv_tableIn (off := 85) (tgt := 86) hx hb dX11_count_1 (by omega) (by omega) (by rw [c1]; rfl) (by decide) ?_
    refine lv_aload_n hx hb dX11_count_86 rfl (lv_at hl 0 rfl) ?_
    refine tk_getA hC hK hw hT hinX11 kC_at0 (by decide) rfl 4 (by decide) (List.mem_of_getElem? (i := 1) rfl) rfl rfl dX11_count_87 ?_
    refine tk_getO hC hK hw hT hinX5 kC_at38 (by decide) rfl 0 (by decide) (List.mem_of_getElem? (i := 2) rfl) rfl rfl dX11_count_90 ?_
    refine tk_geti hC hK hw hT hinX7 kC_at39 (by decide) rfl 10 (by decide) (List.mem_of_getElem? (i := 5) rfl) rfl rfl dX11_count_93 (fun x6 c7 rx6 tx6 => ?_)
    exact tk_iret hC hr hlocks hK ⟨hT, hF, (Or.inr (Or.inl ⟨(show 0 ≤ x6.toInt by omega), (show 1 ≤ a1.toInt by omega), (show a1.toInt ≤ 11 by omega)⟩))⟩ hw dX11_count_96
  · refine lv_tableIn (off := 96) (tgt := 97) hx hb dX11_count_1 (by omega) (by omega) (by rw [c1]; rfl) (by decide) ?_
    refine lv_aload_n hx hb dX11_count_97 rfl (lv_at hl 0 rfl) ?_
    refine tk_getA hC hK hw hT hinX11 kC_at0 (by decide) rfl 4 (by decide) (List.mem_of_getElem? (i := 1) rfl) rfl rfl dX11_count_98 ?_
    refine tk_getO hC hK hw hT hinX5 kC_at38 (by decide) rfl 0 (by decide) (List.mem_of_getElem? (i := 2) rfl) rfl rfl dX11_count_101 ?_
    refine tk_geti hC hK hw hT hinX7 kC_at39 (by decide) rfl 11 (by decide) (List.mem_of_getElem? (i := 6) rfl) rfl rfl dX11_count_104 (fun x8 c9 rx8 tx8 => ?_)
    exact tk_iret hC hr hlocks hK ⟨hT, hF, (Or.inr (Or.inl ⟨(show 0 ≤ x8.toInt by omega), (show 1 ≤ a1.toInt by omega), (show a1.toInt ≤ 11 by omega)⟩))⟩ hw dX11_count_107
  · refine lv_tableIn (off := 107) (tgt := 108) hx hb dX11_count_1 (by omega) (by omega) (by rw [c1]; rfl) (by decide) ?_
    refine lv_aload_n hx hb dX11_count_108 rfl (lv_at hl 0 rfl) ?_
    refine tk_geti hC hK hw hT hinX11 kC_at0 (by decide) rfl 12 (by decide) (List.mem_of_getElem? (i := 7) rfl) rfl rfl dX11_count_109 (fun x10 c11 rx10 tx10 => ?_)
    exact tk_iret hC hr hlocks hK ⟨hT, hF, (Or.inr (Or.inl ⟨(show 0 ≤ x10.toInt by omega), (show 1 ≤ a1.toInt by omega), (show a1.toInt ≤ 11 by omega)⟩))⟩ hw dX11_count_112
  · refine lv_tableIn (off := 112) (tgt := 113) hx hb dX11_count_1 (by omega) (by omega) (by rw [c1]; rfl) (by decide) ?_
    refine lv_aload_n hx hb dX11_count_113 rfl (lv_at hl 0 rfl) ?_
    refine tk_getA hC hK hw hT hinX11 kC_at0 (by decide) rfl 4 (by decide) (List.mem_of_getElem? (i := 1) rfl) rfl rfl dX11_count_114 ?_
    refine tk_geti hC hK hw hT hinX5 kC_at38 (by decide) rfl 8 (by decide) (List.mem_of_getElem? (i := 8) rfl) rfl rfl dX11_count_117 (fun x12 c13 rx12 tx12 => ?_)
    exact tk_iret hC hr hlocks hK ⟨hT, hF, (Or.inr (Or.inl ⟨(show 0 ≤ x12.toInt by omega), (show 1 ≤ a1.toInt by omega), (show a1.toInt ≤ 11 by omega)⟩))⟩ hw dX11_count_120
  · refine lv_tableIn (off := 120) (tgt := 121) hx hb dX11_count_1 (by omega) (by omega) (by rw [c1]; rfl) (by decide) ?_
    refine lv_aload_n hx hb dX11_count_121 rfl (lv_at hl 0 rfl) ?_
    refine tk_getA hC hK hw hT hinX11 kC_at0 (by decide) rfl 4 (by decide) (List.mem_of_getElem? (i := 1) rfl) rfl rfl dX11_count_122 ?_
    refine tk_geti hC hK hw hT hinX5 kC_at38 (by decide) rfl 9 (by decide) (List.mem_of_getElem? (i := 9) rfl) rfl rfl dX11_count_125 (fun x14 c15 rx14 tx14 => ?_)
    exact tk_iret hC hr hlocks hK ⟨hT, hF, (Or.inr (Or.inl ⟨(show 0 ≤ x14.toInt by omega), (show 1 ≤ a1.toInt by omega), (show a1.toInt ≤ 11 by omega)⟩))⟩ hw dX11_count_128
  · refine lv_tableIn (off := 128) (tgt := 129) hx hb dX11_count_1 (by omega) (by omega) (by rw [c1]; rfl) (by decide) ?_
    refine lv_aload_n hx hb dX11_count_129 rfl (lv_at hl 0 rfl) ?_
    refine tk_getA hC hK hw hT hinX11 kC_at0 (by decide) rfl 4 (by decide) (List.mem_of_getElem? (i := 1) rfl) rfl rfl dX11_count_130 ?_
    refine tk_geti hC hK hw hT hinX5 kC_at38 (by decide) rfl 10 (by decide) (List.mem_of_getElem? (i := 10) rfl) rfl rfl dX11_count_133 (fun x16 c17 rx16 tx16 => ?_)
    exact tk_iret hC hr hlocks hK ⟨hT, hF, (Or.inr (Or.inl ⟨(show 0 ≤ x16.toInt by omega), (show 1 ≤ a1.toInt by omega), (show a1.toInt ≤ 11 by omega)⟩))⟩ hw dX11_count_136
  · refine lv_tableIn (off := 136) (tgt := 137) hx hb dX11_count_1 (by omega) (by omega) (by rw [c1]; rfl) (by decide) ?_
    refine lv_aload_n hx hb dX11_count_137 rfl (lv_at hl 0 rfl) ?_
    refine tk_getA hC hK hw hT hinX11 kC_at0 (by decide) rfl 4 (by decide) (List.mem_of_getElem? (i := 1) rfl) rfl rfl dX11_count_138 ?_
    refine tk_geti hC hK hw hT hinX5 kC_at38 (by decide) rfl 11 (by decide) (List.mem_of_getElem? (i := 11) rfl) rfl rfl dX11_count_141 (fun x18 c19 rx18 tx18 => ?_)
    exact tk_iret hC hr hlocks hK ⟨hT, hF, (Or.inr (Or.inl ⟨(show 0 ≤ x18.toInt by omega), (show 1 ≤ a1.toInt by omega), (show a1.toInt ≤ 11 by omega)⟩))⟩ hw dX11_count_144
  · refine lv_tableIn (off := 144) (tgt := 145) hx hb dX11_count_1 (by omega) (by omega) (by rw [c1]; rfl) (by decide) ?_
    refine lv_aload_n hx hb dX11_count_145 rfl (lv_at hl 0 rfl) ?_
    refine tk_getA hC hK hw hT hinX11 kC_at0 (by decide) rfl 4 (by decide) (List.mem_of_getElem? (i := 1) rfl) rfl rfl dX11_count_146 ?_
    refine tk_geti hC hK hw hT hinX5 kC_at38 (by decide) rfl 12 (by decide) (List.mem_of_getElem? (i := 12) rfl) rfl rfl dX11_count_149 (fun x20 c21 rx20 tx20 => ?_)
    exact tk_iret hC hr hlocks hK ⟨hT, hF, (Or.inr (Or.inl ⟨(show 0 ≤ x20.toInt by omega), (show 1 ≤ a1.toInt by omega), (show a1.toInt ≤ 11 by omega)⟩))⟩ hw dX11_count_152
  · refine lv_tableIn (off := 152) (tgt := 153) hx hb dX11_count_1 (by omega) (by omega) (by rw [c1]; rfl) (by decide) ?_
    refine lv_aload_n hx hb dX11_count_153 rfl (lv_at hl 0 rfl) ?_
    refine tk_getA hC hK hw hT hinX11 kC_at0 (by decide) rfl 4 (by decide) (List.mem_of_getElem? (i := 1) rfl) rfl rfl dX11_count_154 ?_
    refine tk_geti hC hK hw hT hinX5 kC_at38 (by decide) rfl 13 (by decide) (List.mem_of_getElem? (i := 13) rfl) rfl rfl dX11_count_157 (fun x22 c23 rx22 tx22 => ?_)
    exact tk_iret hC hr hlocks hK ⟨hT, hF, (Or.inr (Or.inl ⟨(show 0 ≤ x22.toInt by omega), (show 1 ≤ a1.toInt by omega), (show a1.toInt ≤ 11 by omega)⟩))⟩ hw dX11_count_160
  · refine lv_tableIn (off := 160) (tgt := 161) hx hb dX11_count_1 (by omega) (by omega) (by rw [c1]; rfl) (by decide) ?_
    refine lv_aload_n hx hb dX11_count_161 rfl (lv_at hl 0 rfl) ?_
    refine tk_getA hC hK hw hT hinX11 kC_at0 (by decide) rfl 0 (by decide) (List.mem_of_getElem? (i := 14) rfl) rfl rfl dX11_count_162 ?_
    refine tk_geti hC hK hw hT hinX6 kC_at1 (by decide) rfl 2 (by decide) (List.mem_of_getElem? (i := 15) rfl) rfl rfl dX11_count_165 (fun x24 c25 rx24 tx24 => ?_)
    exact tk_iret hC hr hlocks hK ⟨hT, hF, (Or.inr (Or.inl ⟨(show 0 ≤ x24.toInt by omega), (show 1 ≤ a1.toInt by omega), (show a1.toInt ≤ 11 by omega)⟩))⟩ hw dX11_count_168
  · refine lv_tableOut (tgt := 169) hx hb dX11_count_1 c1 (by decide) ?_
    refine lv_iconst (v := (-1)) hx hb dX11_count_169 (by decide) ?_
    exact tk_iret hC hr hlocks hK ⟨hT, hF, (Or.inr (Or.inr rfl))⟩ hw dX11_count_170
abbrev P_X9_setOut_4 (ad : Nat → Nat) (cy : Nat → ClassId) (B : Int) (qr : Nat) (s1 : Int) (q0_ : Nat) (a1 : Int32) (a2 : Int32) (a3 : Int32) (a4 : Int32) (w0 : va_W) : va_W → Prop := fun u => TW ksC ad cy B qr s1 u ∧ FE ksC [(9, 0, 0), (9, 1, 1), (9, 2, 2), (9, 3, 3), (9, 4, 4), (9, 5, 5), (9, 6, 6), (9, 7, 7), (9, 8, 8)] w0 u ∧ (((∃ y : Int32, gi u q0_ 5 = y ∧ 0 ≤ y.toInt ∧ y.toInt ≤ 0) ∧ (∃ y : Int32, gi u q0_ 6 = y ∧ 0 ≤ y.toInt ∧ y.toInt ≤ 0) ∧ (∃ y : Int32, gi u q0_ 7 = y ∧ (-1) ≤ y.toInt ∧ y.toInt ≤ (-1))))
set_option maxHeartbeats 4000000 in
set_option maxRecDepth 100000 in
theorem k_X9_setOut_4 (l : Launch) (adK adV : Nat → Nat) (dC : Nat → ClassId) (dI : Nat → Nat → Nat) (cy : Nat → ClassId) (ad : Nat → Nat) (B : Int) (hB0 : 2147483648 ≤ B) (hB1 : B ≤ 1152921504606846976) (qr : Nat) (s1 : Int)  (q0_ : Nat) (hkq0_ : ksC[q0_]? = some 9) (a1 : Int32) (ra1 : 0 ≤ a1.toInt) (ta1 : a1.toInt ≤ 9) (a2 : Int32) (ra2 : 0 ≤ a2.toInt) (ta2 : a2.toInt ≤ 9) (a3 : Int32) (ra3 : 0 ≤ a3.toInt) (ta3 : a3.toInt ≤ 3) (a4 : Int32) (a5 : Int64) (ra5 : 0 ≤ a5.toInt) (ta5 : a5.toInt ≤ B) (w0 : va_W) (sz : Nat) (hT : TW ksC ad cy B qr s1 w0)  : Met l yX9_setOut wsX9_setOut ({ frames := 1, cells := 0, slots := 0, locals := 12 }) (va_Pc [.ref (ad q0_), .int a1, .int a2, .int a3, .int a4, .long a5] (wpreS adK adV dC dI cy sz w0)) (va_Qv (P_X9_setOut_4 ad cy B qr s1 q0_ a1 a2 a3 a4 w0) (fun u : va_W => wpost dC dI cy (va_A w0 sz) u) (va_A w0 sz)) 0 0 (va_A w0 sz) := by
  refine Met.ofW (cc := cX9_setOut) (maxL := 7) (ret := none) (by decide) rfl ?_
  intro p e s m args below meth c s₁ Bk hml hv
  obtain ⟨rfl, ⟨hsz, hP, hK, hD0⟩, hE, hSR⟩ := hv
  have hx := Bk.exec
  have hb := Bk.bytes
  have hr := Bk.returns
  have hlocks := Bk.notSynchronized
  have hC : CallFix p m c cX9_setOut 7 s _ wsX9_setOut RX9 := ⟨hx, hb, hml, findClass_of_methodNamed Bk.named, atoms_spec (ws := wsX9_setOut) Bk.pre⟩
  subst hsz
  have hD := hD0.self (sz := s.heap.size)
  generalize hAe : va_A w0 s.heap.size = A at hD hE ⊢
  have hA : ∀ q : Nat, s.heap.size ≤ q → A q := fun q h => by rw [← hAe]; exact Or.inr h
  have hw : Wd dC dI A s.heap s.heap [] w0 := ⟨hP, hD, va_S.rf⟩
  have hF : FE ksC [(9, 0, 0), (9, 1, 1), (9, 2, 2), (9, 3, 3), (9, 4, 4), (9, 5, 5), (9, 6, 6), (9, 7, 7), (9, 8, 8)] w0 w0 := FE.rf
  have hl := lv_entry ([.ref (ad q0_), .int a1, .int a2, .int a3, .int a4, .long a5]) (n := 7) (Nat.le_of_ble_eq_true rfl)
  rw [lg_entry_eq]
  generalize (lg_sl ([.ref (ad q0_), .int a1, .int a2, .int a3, .int a4, .long a5]) ++ List.replicate (7 - (lg_sl ([.ref (ad q0_), .int a1, .int a2, .int a3, .int a4, .long a5])).length) Slot.unset).toArray = ls at hl ⊢
  have hl : lv_has ls 7 [(0, .ref (ad q0_)), (1, .int a1), (2, .int a2), (3, .int a3), (4, .int a4), (5, .long a5)] := hl
  generalize hloc : ([] : List Loc) = locs at hw ⊢
  have hinX9 : ∀ w ∈ u_ws RX9 TX9 9, w ∈ wsX9_setOut := fun _ h => List.mem_cons_of_mem _ (List.mem_append_right _ (h))
  refine lv_aload_n hx hb dX9_setOut_0 rfl (lv_at hl 0 rfl) ?_
  refine lv_iload_n hx hb dX9_setOut_1 rfl (lv_at hl 1 rfl) ?_
  refine tk_puti hC hK hw hT hinX9 tyX9_ok nmX9 hkq0_ (by decide) rfl rfl 0 (by decide) (List.mem_of_getElem? (i := 1) rfl) rfl rfl rfl rfl (show 0 ≤ a1.toInt by omega) (show a1.toInt ≤ 9 by omega) dX9_setOut_2 (fun H locs w1 hw hT k3 c2 => ?_)
  have hF := hF.put hkq0_ (k := 0) (by decide) k3
  refine lv_aload_n hx hb dX9_setOut_5 rfl (lv_at hl 0 rfl) ?_
  refine lv_iload_n hx hb dX9_setOut_6 rfl (lv_at hl 2 rfl) ?_
  refine tk_puti hC hK hw hT hinX9 tyX9_ok nmX9 hkq0_ (by decide) rfl rfl 1 (by decide) (List.mem_of_getElem? (i := 2) rfl) rfl rfl rfl rfl (show 0 ≤ a2.toInt by omega) (show a2.toInt ≤ 9 by omega) dX9_setOut_7 (fun H locs w4 hw hT k6 c5 => ?_)
  have hF := hF.put hkq0_ (k := 1) (by decide) k6
  have c7 := k6.gi (Or.inr (by decide)) c2
  refine lv_aload_n hx hb dX9_setOut_10 rfl (lv_at hl 0 rfl) ?_
  refine lv_iload_n hx hb dX9_setOut_11 rfl (lv_at hl 3 rfl) ?_
  refine tk_puti hC hK hw hT hinX9 tyX9_ok nmX9 hkq0_ (by decide) rfl rfl 2 (by decide) (List.mem_of_getElem? (i := 3) rfl) rfl rfl rfl rfl (show 0 ≤ a3.toInt by omega) (show a3.toInt ≤ 3 by omega) dX9_setOut_12 (fun H locs w8 hw hT k10 c9 => ?_)
  have hF := hF.put hkq0_ (k := 2) (by decide) k10
  have c11 := k10.gi (Or.inr (by decide)) c7
  have c12 := k10.gi (Or.inr (by decide)) c5
  refine lv_aload_n hx hb dX9_setOut_15 rfl (lv_at hl 0 rfl) ?_
  refine lv_iload hx hb dX9_setOut_16 (lv_at hl 4 rfl) ?_
  refine tk_puti hC hK hw hT hinX9 tyX9_ok nmX9 hkq0_ (by decide) rfl rfl 3 (by decide) (List.mem_of_getElem? (i := 4) rfl) rfl rfl rfl rfl (wk_i32 a4).1 (wk_i32 a4).2 dX9_setOut_18 (fun H locs w13 hw hT k15 c14 => ?_)
  have hF := hF.put hkq0_ (k := 3) (by decide) k15
  have c16 := k15.gi (Or.inr (by decide)) c11
  have c17 := k15.gi (Or.inr (by decide)) c12
  have c18 := k15.gi (Or.inr (by decide)) c9
  refine lv_aload_n hx hb dX9_setOut_21 rfl (lv_at hl 0 rfl) ?_
  refine lv_lload hx hb dX9_setOut_22 (lv_at hl 5 rfl) ?_
  refine tk_putB hC hK hw hT hinX9 tyX9_ok nmX9 hkq0_ (by decide) rfl rfl 4 (by decide) (List.mem_of_getElem? (i := 5) rfl) rfl rfl rfl rfl (show 0 ≤ a5.toInt by omega) (show a5.toInt ≤ B by omega) dX9_setOut_24 (fun H locs w19 hw hT k21 c20 => ?_)
  have hF := hF.put hkq0_ (k := 4) (by decide) k21
  have c22 := k21.gi (Or.inr (by decide)) c16
  have c23 := k21.gi (Or.inr (by decide)) c17
  have c24 := k21.gi (Or.inr (by decide)) c18
  have c25 := k21.gi (Or.inr (by decide)) c14
  refine lv_aload_n hx hb dX9_setOut_27 rfl (lv_at hl 0 rfl) ?_
  refine lv_iconst (v := 0) hx hb dX9_setOut_28 (by decide) ?_
  refine tk_puti hC hK hw hT hinX9 tyX9_ok nmX9 hkq0_ (by decide) rfl rfl 5 (by decide) (List.mem_of_getElem? (i := 6) rfl) rfl rfl rfl rfl (by decide) (by decide) dX9_setOut_29 (fun H locs w26 hw hT k28 c27 => ?_)
  have hF := hF.put hkq0_ (k := 5) (by decide) k28
  have c29 := k28.gi (Or.inr (by decide)) c22
  have c30 := k28.gi (Or.inr (by decide)) c23
  have c31 := k28.gi (Or.inr (by decide)) c24
  have c32 := k28.gi (Or.inr (by decide)) c25
  have c33 := k28.gl (Or.inr (by decide)) c20
  refine lv_aload_n hx hb dX9_setOut_32 rfl (lv_at hl 0 rfl) ?_
  refine lv_iconst (v := 0) hx hb dX9_setOut_33 (by decide) ?_
  refine tk_puti hC hK hw hT hinX9 tyX9_ok nmX9 hkq0_ (by decide) rfl rfl 6 (by decide) (List.mem_of_getElem? (i := 7) rfl) rfl rfl rfl rfl (by decide) (by decide) dX9_setOut_34 (fun H locs w34 hw hT k36 c35 => ?_)
  have hF := hF.put hkq0_ (k := 6) (by decide) k36
  have c37 := k36.gi (Or.inr (by decide)) c29
  have c38 := k36.gi (Or.inr (by decide)) c30
  have c39 := k36.gi (Or.inr (by decide)) c31
  have c40 := k36.gi (Or.inr (by decide)) c32
  have c41 := k36.gl (Or.inr (by decide)) c33
  have c42 := k36.gi (Or.inr (by decide)) c27
  refine lv_aload_n hx hb dX9_setOut_37 rfl (lv_at hl 0 rfl) ?_
  refine lv_iconst (v := (-1)) hx hb dX9_setOut_38 (by decide) ?_
  refine tk_puti hC hK hw hT hinX9 tyX9_ok nmX9 hkq0_ (by decide) rfl rfl 7 (by decide) (List.mem_of_getElem? (i := 8) rfl) rfl rfl rfl rfl (by decide) (by decide) dX9_setOut_39 (fun H locs w43 hw hT k45 c44 => ?_)
  have hF := hF.put hkq0_ (k := 7) (by decide) k45
  have c46 := k45.gi (Or.inr (by decide)) c37
  have c47 := k45.gi (Or.inr (by decide)) c38
  have c48 := k45.gi (Or.inr (by decide)) c39
  have c49 := k45.gi (Or.inr (by decide)) c40
  have c50 := k45.gl (Or.inr (by decide)) c41
  have c51 := k45.gi (Or.inr (by decide)) c42
  have c52 := k45.gi (Or.inr (by decide)) c35
  refine lv_aload_n hx hb dX9_setOut_42 rfl (lv_at hl 0 rfl) ?_
  refine lv_ldc2 (v := (-1)) hx hb hC.2.2.2.1 (hC.2.2.2.2 _ (List.mem_of_getElem? (i := 9) rfl)) dX9_setOut_43 ?_
  refine tk_putl hC hK hw hT hinX9 tyX9_ok nmX9 hkq0_ (by decide) rfl rfl 8 (by decide) (List.mem_of_getElem? (i := 10) rfl) rfl rfl rfl rfl (by decide) (by decide) dX9_setOut_46 (fun H locs w53 hw hT k55 c54 => ?_)
  have hF := hF.put hkq0_ (k := 8) (by decide) k55
  have c56 := k55.gi (Or.inr (by decide)) c46
  have c57 := k55.gi (Or.inr (by decide)) c47
  have c58 := k55.gi (Or.inr (by decide)) c48
  have c59 := k55.gi (Or.inr (by decide)) c49
  have c60 := k55.gl (Or.inr (by decide)) c50
  have c61 := k55.gi (Or.inr (by decide)) c51
  have c62 := k55.gi (Or.inr (by decide)) c52
  have c63 := k55.gi (Or.inr (by decide)) c44
  exact tk_vret hC hr hlocks hK ⟨hT, hF, ⟨⟨0, c61, (by decide), (by decide)⟩, ⟨0, c62, (by decide), (by decide)⟩, ⟨(-1), c63, (by decide), (by decide)⟩⟩⟩ hw dX9_setOut_49
abbrev P_X9_copyFrom_2 (ad : Nat → Nat) (cy : Nat → ClassId) (B : Int) (qr : Nat) (s1 : Int) (q0_ : Nat) (q1_ : Nat) (w0 : va_W) : va_W → Prop := fun u => TW ksC ad cy B qr s1 u ∧ FE ksC [(9, 0, 0), (9, 1, 1), (9, 2, 2), (9, 3, 3), (9, 4, 4), (9, 5, 5), (9, 6, 6), (9, 7, 7), (9, 8, 8)] w0 u ∧ ((True))
set_option maxHeartbeats 4000000 in
set_option maxRecDepth 100000 in
theorem k_X9_copyFrom_2 (l : Launch) (adK adV : Nat → Nat) (dC : Nat → ClassId) (dI : Nat → Nat → Nat) (cy : Nat → ClassId) (ad : Nat → Nat) (B : Int) (hB0 : 2147483648 ≤ B) (hB1 : B ≤ 1152921504606846976) (qr : Nat) (s1 : Int)  (q0_ : Nat) (hkq0_ : ksC[q0_]? = some 9) (q1_ : Nat) (hkq1_ : ksC[q1_]? = some 9) (w0 : va_W) (sz : Nat) (hT : TW ksC ad cy B qr s1 w0)  : Met l yX9_copyFrom wsX9_copyFrom ({ frames := 2, cells := 0, slots := 0, locals := 38 }) (va_Pc [.ref (ad q0_), .ref (ad q1_)] (wpreS adK adV dC dI cy sz w0)) (va_Qv (P_X9_copyFrom_2 ad cy B qr s1 q0_ q1_ w0) (fun u : va_W => wpost dC dI cy (va_A w0 sz) u) (va_A w0 sz)) 0 0 (va_A w0 sz) := by
  refine Met.ofW (cc := cX9_copyFrom) (maxL := 2) (ret := none) (by decide) rfl ?_
  intro p e s m args below meth c s₁ Bk hml hv
  obtain ⟨rfl, ⟨hsz, hP, hK, hD0⟩, hE, hSR⟩ := hv
  have hx := Bk.exec
  have hb := Bk.bytes
  have hr := Bk.returns
  have hlocks := Bk.notSynchronized
  have hC : CallFix p m c cX9_copyFrom 2 s _ wsX9_copyFrom RX9 := ⟨hx, hb, hml, findClass_of_methodNamed Bk.named, atoms_spec (ws := wsX9_copyFrom) Bk.pre⟩
  subst hsz
  have hD := hD0.self (sz := s.heap.size)
  generalize hAe : va_A w0 s.heap.size = A at hD hE ⊢
  have hA : ∀ q : Nat, s.heap.size ≤ q → A q := fun q h => by rw [← hAe]; exact Or.inr h
  have hw : Wd dC dI A s.heap s.heap [] w0 := ⟨hP, hD, va_S.rf⟩
  have hF : FE ksC [(9, 0, 0), (9, 1, 1), (9, 2, 2), (9, 3, 3), (9, 4, 4), (9, 5, 5), (9, 6, 6), (9, 7, 7), (9, 8, 8)] w0 w0 := FE.rf
  have hl := lv_entry ([.ref (ad q0_), .ref (ad q1_)]) (n := 2) (Nat.le_of_ble_eq_true rfl)
  rw [lg_entry_eq]
  generalize (lg_sl ([.ref (ad q0_), .ref (ad q1_)]) ++ List.replicate (2 - (lg_sl ([.ref (ad q0_), .ref (ad q1_)])).length) Slot.unset).toArray = ls at hl ⊢
  have hl : lv_has ls 2 [(0, .ref (ad q0_)), (1, .ref (ad q1_))] := hl
  generalize hloc : ([] : List Loc) = locs at hw ⊢
  have hinX9 : ∀ w ∈ u_ws RX9 TX9 9, w ∈ wsX9_copyFrom := fun _ h => List.mem_cons_of_mem _ (List.mem_append_right _ (h))
  refine lv_aload_n hx hb dX9_copyFrom_0 rfl (lv_at hl 0 rfl) ?_
  refine lv_aload_n hx hb dX9_copyFrom_1 rfl (lv_at hl 1 rfl) ?_
  refine tk_geti hC hK hw hT hinX9 hkq1_ (by decide) rfl 0 (by decide) (List.mem_of_getElem? (i := 1) rfl) rfl rfl dX9_copyFrom_2 (fun x1 c2 rx1 tx1 => ?_)
  refine lv_aload_n hx hb dX9_copyFrom_5 rfl (lv_at hl 1 rfl) ?_
  refine tk_geti hC hK hw hT hinX9 hkq1_ (by decide) rfl 1 (by decide) (List.mem_of_getElem? (i := 2) rfl) rfl rfl dX9_copyFrom_6 (fun x3 c4 rx3 tx3 => ?_)
  refine lv_aload_n hx hb dX9_copyFrom_9 rfl (lv_at hl 1 rfl) ?_
  refine tk_geti hC hK hw hT hinX9 hkq1_ (by decide) rfl 2 (by decide) (List.mem_of_getElem? (i := 3) rfl) rfl rfl dX9_copyFrom_10 (fun x5 c6 rx5 tx5 => ?_)
  refine lv_aload_n hx hb dX9_copyFrom_13 rfl (lv_at hl 1 rfl) ?_
  refine tk_geti hC hK hw hT hinX9 hkq1_ (by decide) rfl 3 (by decide) (List.mem_of_getElem? (i := 4) rfl) rfl rfl dX9_copyFrom_14 (fun x7 c8 rx7 tx7 => ?_)
  refine lv_aload_n hx hb dX9_copyFrom_17 rfl (lv_at hl 1 rfl) ?_
  refine tk_getB hC hK hw hT hinX9 hkq1_ (by decide) rfl 4 (by decide) (List.mem_of_getElem? (i := 5) rfl) rfl rfl dX9_copyFrom_18 (fun x9 c10 rx9 tx9 => ?_)
  refine tk_Vv hC hK hw hT hA hE hSR hkq0_ (by decide) rfl (k_X9_setOut_4 l adK adV dC dI cy ad B (by omega) (by omega) qr s1   q0_ hkq0_ x1 (show 0 ≤ x1.toInt by omega) (show x1.toInt ≤ 9 by omega) x3 (show 0 ≤ x3.toInt by omega) (show x3.toInt ≤ 9 by omega) x5 (show 0 ≤ x5.toInt by omega) (show x5.toInt ≤ 3 by omega) x7 x9 (show 0 ≤ x9.toInt by omega) (show x9.toInt ≤ B by omega) w0 s.heap.size hT ) (cwV 5 hC.2.2.2.2 gX9_copyFrom_X9_setOut rfl rfl rfl (by decide +kernel) ⟨Nat.le_of_ble_eq_true rfl, Nat.le_of_ble_eq_true rfl⟩) rfl hl.1 rfl (Nat.le_of_ble_eq_true rfl) dX9_copyFrom_21 (fun w13 H locs hp12 hw => ?_)
  obtain ⟨hT, k14, hg21⟩ := hp12
  have hF := hF.tr k14 (by decide)
  obtain ⟨⟨x15, c16, rx15, tx15⟩, ⟨x17, c18, rx17, tx17⟩, ⟨x19, c20, rx19, tx19⟩⟩ := hg21
  refine lv_aload_n hx hb dX9_copyFrom_24 rfl (lv_at hl 0 rfl) ?_
  refine lv_aload_n hx hb dX9_copyFrom_25 rfl (lv_at hl 1 rfl) ?_
  refine tk_geti hC hK hw hT hinX9 hkq1_ (by decide) rfl 5 (by decide) (List.mem_of_getElem? (i := 6) rfl) rfl rfl dX9_copyFrom_26 (fun x22 c23 rx22 tx22 => ?_)
  refine tk_puti hC hK hw hT hinX9 tyX9_ok nmX9 hkq0_ (by decide) rfl rfl 5 (by decide) (List.mem_of_getElem? (i := 6) rfl) rfl rfl rfl rfl (wk_i32 x22).1 (wk_i32 x22).2 dX9_copyFrom_29 (fun H locs w24 hw hT k26 c25 => ?_)
  have hF := hF.put hkq0_ (k := 5) (by decide) k26
  have c27 := k26.gi (Or.inr (by decide)) c18
  have c28 := k26.gi (Or.inr (by decide)) c20
  refine lv_aload_n hx hb dX9_copyFrom_32 rfl (lv_at hl 0 rfl) ?_
  refine lv_aload_n hx hb dX9_copyFrom_33 rfl (lv_at hl 1 rfl) ?_
  refine tk_geti hC hK hw hT hinX9 hkq1_ (by decide) rfl 6 (by decide) (List.mem_of_getElem? (i := 7) rfl) rfl rfl dX9_copyFrom_34 (fun x29 c30 rx29 tx29 => ?_)
  refine tk_puti hC hK hw hT hinX9 tyX9_ok nmX9 hkq0_ (by decide) rfl rfl 6 (by decide) (List.mem_of_getElem? (i := 7) rfl) rfl rfl rfl rfl (wk_i32 x29).1 (wk_i32 x29).2 dX9_copyFrom_37 (fun H locs w31 hw hT k33 c32 => ?_)
  have hF := hF.put hkq0_ (k := 6) (by decide) k33
  have c34 := k33.gi (Or.inr (by decide)) c28
  have c35 := k33.gi (Or.inr (by decide)) c25
  refine lv_aload_n hx hb dX9_copyFrom_40 rfl (lv_at hl 0 rfl) ?_
  refine lv_aload_n hx hb dX9_copyFrom_41 rfl (lv_at hl 1 rfl) ?_
  refine tk_geti hC hK hw hT hinX9 hkq1_ (by decide) rfl 7 (by decide) (List.mem_of_getElem? (i := 8) rfl) rfl rfl dX9_copyFrom_42 (fun x36 c37 rx36 tx36 => ?_)
  refine tk_puti hC hK hw hT hinX9 tyX9_ok nmX9 hkq0_ (by decide) rfl rfl 7 (by decide) (List.mem_of_getElem? (i := 8) rfl) rfl rfl rfl rfl (show (-1) ≤ x36.toInt by omega) (show x36.toInt ≤ 9 by omega) dX9_copyFrom_45 (fun H locs w38 hw hT k40 c39 => ?_)
  have hF := hF.put hkq0_ (k := 7) (by decide) k40
  have c41 := k40.gi (Or.inr (by decide)) c35
  have c42 := k40.gi (Or.inr (by decide)) c32
  refine lv_aload_n hx hb dX9_copyFrom_48 rfl (lv_at hl 0 rfl) ?_
  refine lv_aload_n hx hb dX9_copyFrom_49 rfl (lv_at hl 1 rfl) ?_
  refine tk_getl hC hK hw hT hinX9 hkq1_ (by decide) rfl 8 (by decide) (List.mem_of_getElem? (i := 9) rfl) rfl rfl dX9_copyFrom_50 (fun x43 c44 rx43 tx43 => ?_)
  refine tk_putl hC hK hw hT hinX9 tyX9_ok nmX9 hkq0_ (by decide) rfl rfl 8 (by decide) (List.mem_of_getElem? (i := 9) rfl) rfl rfl rfl rfl (wk_i64 x43).1 (wk_i64 x43).2 dX9_copyFrom_53 (fun H locs w45 hw hT k47 c46 => ?_)
  have hF := hF.put hkq0_ (k := 8) (by decide) k47
  have c48 := k47.gi (Or.inr (by decide)) c41
  have c49 := k47.gi (Or.inr (by decide)) c42
  have c50 := k47.gi (Or.inr (by decide)) c39
  exact tk_vret hC hr hlocks hK ⟨hT, hF, trivial⟩ hw dX9_copyFrom_56
abbrev P_X7_copyFrom_1 (ad : Nat → Nat) (cy : Nat → ClassId) (B : Int) (qr : Nat) (s1 : Int) (q0_ : Nat) (w0 : va_W) : va_W → Prop := fun u => TW ksC ad cy B qr s1 u ∧ FE ksC [(7, 8, 8), (7, 9, 9), (7, 10, 10), (7, 11, 11), (24, 0, 100000), (25, 0, 100000), (26, 0, 100000), (27, 0, 100000), (28, 0, 100000), (29, 0, 100000), (30, 0, 100000), (31, 0, 100000)] w0 u ∧ ((True))
set_option maxHeartbeats 4000000 in
set_option maxRecDepth 100000 in
theorem k_X7_copyFrom_1 (l : Launch) (adK adV : Nat → Nat) (dC : Nat → ClassId) (dI : Nat → Nat → Nat) (cy : Nat → ClassId) (ad : Nat → Nat) (B : Int) (hB0 : 2147483648 ≤ B) (hB1 : B ≤ 1152921504606846976) (qr : Nat) (s1 : Int)  (q0_ : Nat) (hkq0_ : ksC[q0_]? = some 7) (w0 : va_W) (sz : Nat) (hT : TW ksC ad cy B qr s1 w0)  : Met l yX7_copyFrom wsX7_copyFrom ({ frames := 1, cells := 0, slots := 0, locals := 60 }) (va_Pc [.ref (ad q0_), .ref (ad 39)] (wpreS adK adV dC dI cy sz w0)) (va_Qv (P_X7_copyFrom_1 ad cy B qr s1 q0_ w0) (fun u : va_W => wpost dC dI cy (va_A w0 sz) u) (va_A w0 sz)) 0 0 (va_A w0 sz) := by
  refine Met.ofW (cc := cX7_copyFrom) (maxL := 2) (ret := none) (by decide) rfl ?_
  intro p e s m args below meth c s₁ Bk hml hv
  obtain ⟨rfl, ⟨hsz, hP, hK, hD0⟩, hE, hSR⟩ := hv
  have hx := Bk.exec
  have hb := Bk.bytes
  have hr := Bk.returns
  have hlocks := Bk.notSynchronized
  have hC : CallFix p m c cX7_copyFrom 2 s _ wsX7_copyFrom RX7 := ⟨hx, hb, hml, findClass_of_methodNamed Bk.named, atoms_spec (ws := wsX7_copyFrom) Bk.pre⟩
  subst hsz
  have hD := hD0.self (sz := s.heap.size)
  generalize hAe : va_A w0 s.heap.size = A at hD hE ⊢
  have hA : ∀ q : Nat, s.heap.size ≤ q → A q := fun q h => by rw [← hAe]; exact Or.inr h
  have hw : Wd dC dI A s.heap s.heap [] w0 := ⟨hP, hD, va_S.rf⟩
  have hF : FE ksC [(7, 8, 8), (7, 9, 9), (7, 10, 10), (7, 11, 11), (24, 0, 100000), (25, 0, 100000), (26, 0, 100000), (27, 0, 100000), (28, 0, 100000), (29, 0, 100000), (30, 0, 100000), (31, 0, 100000)] w0 w0 := FE.rf
  have hl := lv_entry ([.ref (ad q0_), .ref (ad 39)]) (n := 2) (Nat.le_of_ble_eq_true rfl)
  rw [lg_entry_eq]
  generalize (lg_sl ([.ref (ad q0_), .ref (ad 39)]) ++ List.replicate (2 - (lg_sl ([.ref (ad q0_), .ref (ad 39)])).length) Slot.unset).toArray = ls at hl ⊢
  have hl : lv_has ls 2 [(0, .ref (ad q0_)), (1, .ref (ad 39))] := hl
  generalize hloc : ([] : List Loc) = locs at hw ⊢
  have hinX7 : ∀ w ∈ u_ws RX7 TX7 12, w ∈ wsX7_copyFrom := fun _ h => List.mem_cons_of_mem _ (List.mem_append_right _ (h))
  refine lv_aload_n hx hb dX7_copyFrom_0 rfl (lv_at hl 1 rfl) ?_
  refine tk_getO hC hK hw hT hinX7 kC_at39 (by decide) rfl 0 (by decide) (List.mem_of_getElem? (i := 1) rfl) rfl rfl dX7_copyFrom_1 ?_
  refine lv_iconst (v := 0) hx hb dX7_copyFrom_4 (by decide) ?_
  refine lv_aload_n hx hb dX7_copyFrom_5 rfl (lv_at hl 0 rfl) ?_
  refine tk_getO hC hK hw hT hinX7 hkq0_ (by decide) rfl 0 (by decide) (List.mem_of_getElem? (i := 1) rfl) rfl rfl dX7_copyFrom_6 ?_
  refine lv_iconst (v := 0) hx hb dX7_copyFrom_9 (by decide) ?_
  refine lv_aload_n hx hb dX7_copyFrom_10 rfl (lv_at hl 0 rfl) ?_
  refine tk_getO hC hK hw hT hinX7 hkq0_ (by decide) rfl 0 (by decide) (List.mem_of_getElem? (i := 1) rfl) rfl rfl dX7_copyFrom_11 ?_
  refine tk_alen (v := 26) hC hK hw hT (kC_7_1 hkq0_) rfl (by decide) rfl (by decide) dX7_copyFrom_14 ?_
  refine tk_copy hC hK hw hT hl.1 (List.mem_of_getElem? (i := 2) rfl) (List.mem_of_getElem? (i := 3) rfl) (List.mem_of_getElem? (i := 4) rfl) (List.mem_of_getElem? (i := 5) rfl) kC_at40 (kC_7_1 hkq0_) (by decide) rfl rfl rfl rfl (by decide) (by decide) (by decide) (by decide) (by decide) (by decide) (by decide) (by decide) (Nat.le_of_ble_eq_true rfl) (by decide +kernel) dX7_copyFrom_15 (fun H locs w1 hw hT k2 => ?_)
  have hF := hF.tr k2 (by decide)
  refine lv_aload_n hx hb dX7_copyFrom_18 rfl (lv_at hl 1 rfl) ?_
  refine tk_getO hC hK hw hT hinX7 kC_at39 (by decide) rfl 1 (by decide) (List.mem_of_getElem? (i := 6) rfl) rfl rfl dX7_copyFrom_19 ?_
  refine lv_iconst (v := 0) hx hb dX7_copyFrom_22 (by decide) ?_
  refine lv_aload_n hx hb dX7_copyFrom_23 rfl (lv_at hl 0 rfl) ?_
  refine tk_getO hC hK hw hT hinX7 hkq0_ (by decide) rfl 1 (by decide) (List.mem_of_getElem? (i := 6) rfl) rfl rfl dX7_copyFrom_24 ?_
  refine lv_iconst (v := 0) hx hb dX7_copyFrom_27 (by decide) ?_
  refine lv_aload_n hx hb dX7_copyFrom_28 rfl (lv_at hl 0 rfl) ?_
  refine tk_getO hC hK hw hT hinX7 hkq0_ (by decide) rfl 1 (by decide) (List.mem_of_getElem? (i := 6) rfl) rfl rfl dX7_copyFrom_29 ?_
  refine tk_alen (v := 13) hC hK hw hT (kC_7_2 hkq0_) rfl (by decide) rfl (by decide) dX7_copyFrom_32 ?_
  refine tk_copy hC hK hw hT hl.1 (List.mem_of_getElem? (i := 2) rfl) (List.mem_of_getElem? (i := 3) rfl) (List.mem_of_getElem? (i := 4) rfl) (List.mem_of_getElem? (i := 5) rfl) kC_at41 (kC_7_2 hkq0_) (by decide) rfl rfl rfl rfl (by decide) (by decide) (by decide) (by decide) (by decide) (by decide) (by decide) (by decide) (Nat.le_of_ble_eq_true rfl) (by decide +kernel) dX7_copyFrom_33 (fun H locs w3 hw hT k4 => ?_)
  have hF := hF.tr k4 (by decide)
  refine lv_aload_n hx hb dX7_copyFrom_36 rfl (lv_at hl 1 rfl) ?_
  refine tk_getO hC hK hw hT hinX7 kC_at39 (by decide) rfl 2 (by decide) (List.mem_of_getElem? (i := 7) rfl) rfl rfl dX7_copyFrom_37 ?_
  refine lv_iconst (v := 0) hx hb dX7_copyFrom_40 (by decide) ?_
  refine lv_aload_n hx hb dX7_copyFrom_41 rfl (lv_at hl 0 rfl) ?_
  refine tk_getO hC hK hw hT hinX7 hkq0_ (by decide) rfl 2 (by decide) (List.mem_of_getElem? (i := 7) rfl) rfl rfl dX7_copyFrom_42 ?_
  refine lv_iconst (v := 0) hx hb dX7_copyFrom_45 (by decide) ?_
  refine lv_aload_n hx hb dX7_copyFrom_46 rfl (lv_at hl 0 rfl) ?_
  refine tk_getO hC hK hw hT hinX7 hkq0_ (by decide) rfl 2 (by decide) (List.mem_of_getElem? (i := 7) rfl) rfl rfl dX7_copyFrom_47 ?_
  refine tk_alen (v := 91) hC hK hw hT (kC_7_3 hkq0_) rfl (by decide) rfl (by decide) dX7_copyFrom_50 ?_
  refine tk_copy hC hK hw hT hl.1 (List.mem_of_getElem? (i := 2) rfl) (List.mem_of_getElem? (i := 3) rfl) (List.mem_of_getElem? (i := 4) rfl) (List.mem_of_getElem? (i := 5) rfl) kC_at42 (kC_7_3 hkq0_) (by decide) rfl rfl rfl rfl (by decide) (by decide) (by decide) (by decide) (by decide) (by decide) (by decide) (by decide) (Nat.le_of_ble_eq_true rfl) (by decide +kernel) dX7_copyFrom_51 (fun H locs w5 hw hT k6 => ?_)
  have hF := hF.tr k6 (by decide)
  refine lv_aload_n hx hb dX7_copyFrom_54 rfl (lv_at hl 1 rfl) ?_
  refine tk_getO hC hK hw hT hinX7 kC_at39 (by decide) rfl 3 (by decide) (List.mem_of_getElem? (i := 8) rfl) rfl rfl dX7_copyFrom_55 ?_
  refine lv_iconst (v := 0) hx hb dX7_copyFrom_58 (by decide) ?_
  refine lv_aload_n hx hb dX7_copyFrom_59 rfl (lv_at hl 0 rfl) ?_
  refine tk_getO hC hK hw hT hinX7 hkq0_ (by decide) rfl 3 (by decide) (List.mem_of_getElem? (i := 8) rfl) rfl rfl dX7_copyFrom_60 ?_
  refine lv_iconst (v := 0) hx hb dX7_copyFrom_63 (by decide) ?_
  refine lv_aload_n hx hb dX7_copyFrom_64 rfl (lv_at hl 0 rfl) ?_
  refine tk_getO hC hK hw hT hinX7 hkq0_ (by decide) rfl 3 (by decide) (List.mem_of_getElem? (i := 8) rfl) rfl rfl dX7_copyFrom_65 ?_
  refine tk_alen (v := 13) hC hK hw hT (kC_7_4 hkq0_) rfl (by decide) rfl (by decide) dX7_copyFrom_68 ?_
  refine tk_copy hC hK hw hT hl.1 (List.mem_of_getElem? (i := 2) rfl) (List.mem_of_getElem? (i := 3) rfl) (List.mem_of_getElem? (i := 4) rfl) (List.mem_of_getElem? (i := 5) rfl) kC_at43 (kC_7_4 hkq0_) (by decide) rfl rfl rfl rfl (by decide) (by decide) (by decide) (by decide) (by decide) (by decide) (by decide) (by decide) (Nat.le_of_ble_eq_true rfl) (by decide +kernel) dX7_copyFrom_69 (fun H locs w7 hw hT k8 => ?_)
  have hF := hF.tr k8 (by decide)
  refine lv_aload_n hx hb dX7_copyFrom_72 rfl (lv_at hl 1 rfl) ?_
  refine tk_getO hC hK hw hT hinX7 kC_at39 (by decide) rfl 4 (by decide) (List.mem_of_getElem? (i := 9) rfl) rfl rfl dX7_copyFrom_73 ?_
  refine lv_iconst (v := 0) hx hb dX7_copyFrom_76 (by decide) ?_
  refine lv_aload_n hx hb dX7_copyFrom_77 rfl (lv_at hl 0 rfl) ?_
  refine tk_getO hC hK hw hT hinX7 hkq0_ (by decide) rfl 4 (by decide) (List.mem_of_getElem? (i := 9) rfl) rfl rfl dX7_copyFrom_78 ?_
  refine lv_iconst (v := 0) hx hb dX7_copyFrom_81 (by decide) ?_
  refine lv_aload_n hx hb dX7_copyFrom_82 rfl (lv_at hl 0 rfl) ?_
  refine tk_getO hC hK hw hT hinX7 hkq0_ (by decide) rfl 4 (by decide) (List.mem_of_getElem? (i := 9) rfl) rfl rfl dX7_copyFrom_83 ?_
  refine tk_alen (v := 26) hC hK hw hT (kC_7_5 hkq0_) rfl (by decide) rfl (by decide) dX7_copyFrom_86 ?_
  refine tk_copy hC hK hw hT hl.1 (List.mem_of_getElem? (i := 2) rfl) (List.mem_of_getElem? (i := 3) rfl) (List.mem_of_getElem? (i := 4) rfl) (List.mem_of_getElem? (i := 5) rfl) kC_at44 (kC_7_5 hkq0_) (by decide) rfl rfl rfl rfl (by decide) (by decide) (by decide) (by decide) (by decide) (by decide) (by decide) (by decide) (Nat.le_of_ble_eq_true rfl) (by decide +kernel) dX7_copyFrom_87 (fun H locs w9 hw hT k10 => ?_)
  have hF := hF.tr k10 (by decide)
  refine lv_aload_n hx hb dX7_copyFrom_90 rfl (lv_at hl 1 rfl) ?_
  refine tk_getO hC hK hw hT hinX7 kC_at39 (by decide) rfl 5 (by decide) (List.mem_of_getElem? (i := 10) rfl) rfl rfl dX7_copyFrom_91 ?_
  refine lv_iconst (v := 0) hx hb dX7_copyFrom_94 (by decide) ?_
  refine lv_aload_n hx hb dX7_copyFrom_95 rfl (lv_at hl 0 rfl) ?_
  refine tk_getO hC hK hw hT hinX7 hkq0_ (by decide) rfl 5 (by decide) (List.mem_of_getElem? (i := 10) rfl) rfl rfl dX7_copyFrom_96 ?_
  refine lv_iconst (v := 0) hx hb dX7_copyFrom_99 (by decide) ?_
  refine lv_aload_n hx hb dX7_copyFrom_100 rfl (lv_at hl 0 rfl) ?_
  refine tk_getO hC hK hw hT hinX7 hkq0_ (by decide) rfl 5 (by decide) (List.mem_of_getElem? (i := 10) rfl) rfl rfl dX7_copyFrom_101 ?_
  refine tk_alen (v := 8) hC hK hw hT (kC_7_6 hkq0_) rfl (by decide) rfl (by decide) dX7_copyFrom_104 ?_
  refine tk_copy hC hK hw hT hl.1 (List.mem_of_getElem? (i := 2) rfl) (List.mem_of_getElem? (i := 3) rfl) (List.mem_of_getElem? (i := 4) rfl) (List.mem_of_getElem? (i := 5) rfl) kC_at45 (kC_7_6 hkq0_) (by decide) rfl rfl rfl rfl (by decide) (by decide) (by decide) (by decide) (by decide) (by decide) (by decide) (by decide) (Nat.le_of_ble_eq_true rfl) (by decide +kernel) dX7_copyFrom_105 (fun H locs w11 hw hT k12 => ?_)
  have hF := hF.tr k12 (by decide)
  refine lv_aload_n hx hb dX7_copyFrom_108 rfl (lv_at hl 1 rfl) ?_
  refine tk_getO hC hK hw hT hinX7 kC_at39 (by decide) rfl 6 (by decide) (List.mem_of_getElem? (i := 11) rfl) rfl rfl dX7_copyFrom_109 ?_
  refine lv_iconst (v := 0) hx hb dX7_copyFrom_112 (by decide) ?_
  refine lv_aload_n hx hb dX7_copyFrom_113 rfl (lv_at hl 0 rfl) ?_
  refine tk_getO hC hK hw hT hinX7 hkq0_ (by decide) rfl 6 (by decide) (List.mem_of_getElem? (i := 11) rfl) rfl rfl dX7_copyFrom_114 ?_
  refine lv_iconst (v := 0) hx hb dX7_copyFrom_117 (by decide) ?_
  refine lv_aload_n hx hb dX7_copyFrom_118 rfl (lv_at hl 0 rfl) ?_
  refine tk_getO hC hK hw hT hinX7 hkq0_ (by decide) rfl 6 (by decide) (List.mem_of_getElem? (i := 11) rfl) rfl rfl dX7_copyFrom_119 ?_
  refine tk_alen (v := 8) hC hK hw hT (kC_7_7 hkq0_) rfl (by decide) rfl (by decide) dX7_copyFrom_122 ?_
  refine tk_copy hC hK hw hT hl.1 (List.mem_of_getElem? (i := 2) rfl) (List.mem_of_getElem? (i := 3) rfl) (List.mem_of_getElem? (i := 4) rfl) (List.mem_of_getElem? (i := 5) rfl) kC_at46 (kC_7_7 hkq0_) (by decide) rfl rfl rfl rfl (by decide) (by decide) (by decide) (by decide) (by decide) (by decide) (by decide) (by decide) (Nat.le_of_ble_eq_true rfl) (by decide +kernel) dX7_copyFrom_123 (fun H locs w13 hw hT k14 => ?_)
  have hF := hF.tr k14 (by decide)
  refine lv_aload_n hx hb dX7_copyFrom_126 rfl (lv_at hl 1 rfl) ?_
  refine tk_getO hC hK hw hT hinX7 kC_at39 (by decide) rfl 7 (by decide) (List.mem_of_getElem? (i := 12) rfl) rfl rfl dX7_copyFrom_127 ?_
  refine lv_iconst (v := 0) hx hb dX7_copyFrom_130 (by decide) ?_
  refine lv_aload_n hx hb dX7_copyFrom_131 rfl (lv_at hl 0 rfl) ?_
  refine tk_getO hC hK hw hT hinX7 hkq0_ (by decide) rfl 7 (by decide) (List.mem_of_getElem? (i := 12) rfl) rfl rfl dX7_copyFrom_132 ?_
  refine lv_iconst (v := 0) hx hb dX7_copyFrom_135 (by decide) ?_
  refine lv_aload_n hx hb dX7_copyFrom_136 rfl (lv_at hl 0 rfl) ?_
  refine tk_getO hC hK hw hT hinX7 hkq0_ (by decide) rfl 7 (by decide) (List.mem_of_getElem? (i := 12) rfl) rfl rfl dX7_copyFrom_137 ?_
  refine tk_alen (v := 13) hC hK hw hT (kC_7_8 hkq0_) rfl (by decide) rfl (by decide) dX7_copyFrom_140 ?_
  refine tk_copy hC hK hw hT hl.1 (List.mem_of_getElem? (i := 2) rfl) (List.mem_of_getElem? (i := 3) rfl) (List.mem_of_getElem? (i := 4) rfl) (List.mem_of_getElem? (i := 5) rfl) kC_at47 (kC_7_8 hkq0_) (by decide) rfl rfl rfl rfl (by decide) (by decide) (by decide) (by decide) (by decide) (by decide) (by decide) (by decide) (Nat.le_of_ble_eq_true rfl) (by decide +kernel) dX7_copyFrom_141 (fun H locs w15 hw hT k16 => ?_)
  have hF := hF.tr k16 (by decide)
  refine lv_aload_n hx hb dX7_copyFrom_144 rfl (lv_at hl 0 rfl) ?_
  refine lv_aload_n hx hb dX7_copyFrom_145 rfl (lv_at hl 1 rfl) ?_
  refine tk_geti hC hK hw hT hinX7 kC_at39 (by decide) rfl 8 (by decide) (List.mem_of_getElem? (i := 13) rfl) rfl rfl dX7_copyFrom_146 (fun x17 c18 rx17 tx17 => ?_)
  refine tk_puti hC hK hw hT hinX7 tyX7_ok nmX7 hkq0_ (by decide) rfl rfl 8 (by decide) (List.mem_of_getElem? (i := 13) rfl) rfl rfl rfl rfl (show (-1) ≤ x17.toInt by omega) (show x17.toInt ≤ 10 by omega) dX7_copyFrom_149 (fun H locs w19 hw hT k21 c20 => ?_)
  have hF := hF.put hkq0_ (k := 8) (by decide) k21
  refine lv_aload_n hx hb dX7_copyFrom_152 rfl (lv_at hl 0 rfl) ?_
  refine lv_aload_n hx hb dX7_copyFrom_153 rfl (lv_at hl 1 rfl) ?_
  refine tk_geti hC hK hw hT hinX7 kC_at39 (by decide) rfl 9 (by decide) (List.mem_of_getElem? (i := 14) rfl) rfl rfl dX7_copyFrom_154 (fun x22 c23 rx22 tx22 => ?_)
  refine tk_puti hC hK hw hT hinX7 tyX7_ok nmX7 hkq0_ (by decide) rfl rfl 9 (by decide) (List.mem_of_getElem? (i := 14) rfl) rfl rfl rfl rfl (show 0 ≤ x22.toInt by omega) (show x22.toInt ≤ 12 by omega) dX7_copyFrom_157 (fun H locs w24 hw hT k26 c25 => ?_)
  have hF := hF.put hkq0_ (k := 9) (by decide) k26
  have c27 := k26.gi (Or.inr (by decide)) c20
  refine lv_aload_n hx hb dX7_copyFrom_160 rfl (lv_at hl 0 rfl) ?_
  refine lv_aload_n hx hb dX7_copyFrom_161 rfl (lv_at hl 1 rfl) ?_
  refine tk_geti hC hK hw hT hinX7 kC_at39 (by decide) rfl 10 (by decide) (List.mem_of_getElem? (i := 15) rfl) rfl rfl dX7_copyFrom_162 (fun x28 c29 rx28 tx28 => ?_)
  refine tk_puti hC hK hw hT hinX7 tyX7_ok nmX7 hkq0_ (by decide) rfl rfl 10 (by decide) (List.mem_of_getElem? (i := 15) rfl) rfl rfl rfl rfl (show 0 ≤ x28.toInt by omega) (show x28.toInt ≤ 8 by omega) dX7_copyFrom_165 (fun H locs w30 hw hT k32 c31 => ?_)
  have hF := hF.put hkq0_ (k := 10) (by decide) k32
  have c33 := k32.gi (Or.inr (by decide)) c27
  have c34 := k32.gi (Or.inr (by decide)) c25
  refine lv_aload_n hx hb dX7_copyFrom_168 rfl (lv_at hl 0 rfl) ?_
  refine lv_aload_n hx hb dX7_copyFrom_169 rfl (lv_at hl 1 rfl) ?_
  refine tk_geti hC hK hw hT hinX7 kC_at39 (by decide) rfl 11 (by decide) (List.mem_of_getElem? (i := 16) rfl) rfl rfl dX7_copyFrom_170 (fun x35 c36 rx35 tx35 => ?_)
  refine tk_puti hC hK hw hT hinX7 tyX7_ok nmX7 hkq0_ (by decide) rfl rfl 11 (by decide) (List.mem_of_getElem? (i := 16) rfl) rfl rfl rfl rfl (show 0 ≤ x35.toInt by omega) (show x35.toInt ≤ 4 by omega) dX7_copyFrom_173 (fun H locs w37 hw hT k39 c38 => ?_)
  have hF := hF.put hkq0_ (k := 11) (by decide) k39
  have c40 := k39.gi (Or.inr (by decide)) c33
  have c41 := k39.gi (Or.inr (by decide)) c34
  have c42 := k39.gi (Or.inr (by decide)) c31
  exact tk_vret hC hr hlocks hK ⟨hT, hF, trivial⟩ hw dX7_copyFrom_176
abbrev P_X5_moveTo_1 (ad : Nat → Nat) (cy : Nat → ClassId) (B : Int) (qr : Nat) (s1 : Int) (q0_ : Nat) (w0 : va_W) : va_W → Prop := fun u => TW ksC ad cy B qr s1 u ∧ FE ksC [(5, 8, 8), (5, 9, 9), (5, 10, 10), (5, 11, 11), (5, 12, 12), (7, 8, 8), (7, 9, 9), (7, 10, 10), (7, 11, 11), (24, 0, 100000), (25, 0, 100000), (26, 0, 100000), (27, 0, 100000), (28, 0, 100000), (29, 0, 100000), (30, 0, 100000), (31, 0, 100000)] w0 u ∧ (((∃ y : Int32, gi u q0_ 8 = y ∧ 0 ≤ y.toInt ∧ y.toInt ≤ 0) ∧ (∃ y : Int32, gi u q0_ 9 = y ∧ 0 ≤ y.toInt ∧ y.toInt ≤ 0) ∧ (∃ y : Int32, gi u q0_ 10 = y ∧ 0 ≤ y.toInt ∧ y.toInt ≤ 0) ∧ (∃ y : Int32, gi u q0_ 11 = y ∧ 0 ≤ y.toInt ∧ y.toInt ≤ 0) ∧ (∃ y : Int32, gi u q0_ 12 = y ∧ 0 ≤ y.toInt ∧ y.toInt ≤ 0)))
set_option maxHeartbeats 4000000 in
set_option maxRecDepth 100000 in
theorem k_X5_moveTo_1 (l : Launch) (adK adV : Nat → Nat) (dC : Nat → ClassId) (dI : Nat → Nat → Nat) (cy : Nat → ClassId) (ad : Nat → Nat) (B : Int) (hB0 : 2147483648 ≤ B) (hB1 : B ≤ 1152921504606846976) (qr : Nat) (s1 : Int)  (q0_ : Nat) (hkq0_ : ksC[q0_]? = some 5) (w0 : va_W) (sz : Nat) (hT : TW ksC ad cy B qr s1 w0)  : Met l yX5_moveTo wsX5_moveTo ({ frames := 2, cells := 0, slots := 0, locals := 81 }) (va_Pc [.ref (ad q0_), .ref (ad 39)] (wpreS adK adV dC dI cy sz w0)) (va_Qv (P_X5_moveTo_1 ad cy B qr s1 q0_ w0) (fun u : va_W => wpost dC dI cy (va_A w0 sz) u) (va_A w0 sz)) 0 0 (va_A w0 sz) := by
  refine Met.ofW (cc := cX5_moveTo) (maxL := 2) (ret := none) (by decide) rfl ?_
  intro p e s m args below meth c s₁ Bk hml hv
  obtain ⟨rfl, ⟨hsz, hP, hK, hD0⟩, hE, hSR⟩ := hv
  have hx := Bk.exec
  have hb := Bk.bytes
  have hr := Bk.returns
  have hlocks := Bk.notSynchronized
  have hC : CallFix p m c cX5_moveTo 2 s _ wsX5_moveTo RX5 := ⟨hx, hb, hml, findClass_of_methodNamed Bk.named, atoms_spec (ws := wsX5_moveTo) Bk.pre⟩
  subst hsz
  have hD := hD0.self (sz := s.heap.size)
  generalize hAe : va_A w0 s.heap.size = A at hD hE ⊢
  have hA : ∀ q : Nat, s.heap.size ≤ q → A q := fun q h => by rw [← hAe]; exact Or.inr h
  have hw : Wd dC dI A s.heap s.heap [] w0 := ⟨hP, hD, va_S.rf⟩
  have hF : FE ksC [(5, 8, 8), (5, 9, 9), (5, 10, 10), (5, 11, 11), (5, 12, 12), (7, 8, 8), (7, 9, 9), (7, 10, 10), (7, 11, 11), (24, 0, 100000), (25, 0, 100000), (26, 0, 100000), (27, 0, 100000), (28, 0, 100000), (29, 0, 100000), (30, 0, 100000), (31, 0, 100000)] w0 w0 := FE.rf
  have hl := lv_entry ([.ref (ad q0_), .ref (ad 39)]) (n := 2) (Nat.le_of_ble_eq_true rfl)
  rw [lg_entry_eq]
  generalize (lg_sl ([.ref (ad q0_), .ref (ad 39)]) ++ List.replicate (2 - (lg_sl ([.ref (ad q0_), .ref (ad 39)])).length) Slot.unset).toArray = ls at hl ⊢
  have hl : lv_has ls 2 [(0, .ref (ad q0_)), (1, .ref (ad 39))] := hl
  generalize hloc : ([] : List Loc) = locs at hw ⊢
  have hinX5 : ∀ w ∈ u_ws RX5 TX5 14, w ∈ wsX5_moveTo := fun _ h => List.mem_cons_of_mem _ (List.mem_append_left _ (List.mem_append_right _ (h)))
  refine lv_aload_n hx hb dX5_moveTo_0 rfl (lv_at hl 0 rfl) ?_
  refine tk_getO hC hK hw hT hinX5 hkq0_ (by decide) rfl 0 (by decide) (List.mem_of_getElem? (i := 1) rfl) rfl rfl dX5_moveTo_1 ?_
  refine lv_aload_n hx hb dX5_moveTo_4 rfl (lv_at hl 1 rfl) ?_
  refine tk_Vv hC hK hw hT hA hE hSR (kC_5_1 hkq0_) (by decide) rfl (k_X7_copyFrom_1 l adK adV dC dI cy ad B (by omega) (by omega) qr s1   (q0_ + 1) (kC_5_1 hkq0_) w0 s.heap.size hT ) (cwV 1 hC.2.2.2.2 gX5_moveTo_X7_copyFrom rfl rfl rfl (by decide +kernel) ⟨Nat.le_of_ble_eq_true rfl, Nat.le_of_ble_eq_true rfl⟩) rfl hl.1 rfl (Nat.le_of_ble_eq_true rfl) dX5_moveTo_5 (fun w3 H locs hp2 hw => ?_)
  obtain ⟨hT, k4, hg5⟩ := hp2
  have hF := hF.tr k4 (by decide)
  clear hg5
  refine lv_aload_n hx hb dX5_moveTo_8 rfl (lv_at hl 0 rfl) ?_
  refine lv_iconst (v := 0) hx hb dX5_moveTo_9 (by decide) ?_
  refine tk_puti hC hK hw hT hinX5 tyX5_ok nmX5 hkq0_ (by decide) rfl rfl 8 (by decide) (List.mem_of_getElem? (i := 2) rfl) rfl rfl rfl rfl (by decide) (by decide) dX5_moveTo_10 (fun H locs w6 hw hT k8 c7 => ?_)
  have hF := hF.put hkq0_ (k := 8) (by decide) k8
  refine lv_aload_n hx hb dX5_moveTo_13 rfl (lv_at hl 0 rfl) ?_
  refine lv_iconst (v := 0) hx hb dX5_moveTo_14 (by decide) ?_
  refine tk_puti hC hK hw hT hinX5 tyX5_ok nmX5 hkq0_ (by decide) rfl rfl 9 (by decide) (List.mem_of_getElem? (i := 3) rfl) rfl rfl rfl rfl (by decide) (by decide) dX5_moveTo_15 (fun H locs w9 hw hT k11 c10 => ?_)
  have hF := hF.put hkq0_ (k := 9) (by decide) k11
  have c12 := k11.gi (Or.inr (by decide)) c7
  refine lv_aload_n hx hb dX5_moveTo_18 rfl (lv_at hl 0 rfl) ?_
  refine lv_iconst (v := 0) hx hb dX5_moveTo_19 (by decide) ?_
  refine tk_puti hC hK hw hT hinX5 tyX5_ok nmX5 hkq0_ (by decide) rfl rfl 10 (by decide) (List.mem_of_getElem? (i := 4) rfl) rfl rfl rfl rfl (by decide) (by decide) dX5_moveTo_20 (fun H locs w13 hw hT k15 c14 => ?_)
  have hF := hF.put hkq0_ (k := 10) (by decide) k15
  have c16 := k15.gi (Or.inr (by decide)) c12
  have c17 := k15.gi (Or.inr (by decide)) c10
  refine lv_aload_n hx hb dX5_moveTo_23 rfl (lv_at hl 0 rfl) ?_
  refine lv_iconst (v := 0) hx hb dX5_moveTo_24 (by decide) ?_
  refine tk_puti hC hK hw hT hinX5 tyX5_ok nmX5 hkq0_ (by decide) rfl rfl 11 (by decide) (List.mem_of_getElem? (i := 5) rfl) rfl rfl rfl rfl (by decide) (by decide) dX5_moveTo_25 (fun H locs w18 hw hT k20 c19 => ?_)
  have hF := hF.put hkq0_ (k := 11) (by decide) k20
  have c21 := k20.gi (Or.inr (by decide)) c16
  have c22 := k20.gi (Or.inr (by decide)) c17
  have c23 := k20.gi (Or.inr (by decide)) c14
  refine lv_aload_n hx hb dX5_moveTo_28 rfl (lv_at hl 0 rfl) ?_
  refine lv_iconst (v := 0) hx hb dX5_moveTo_29 (by decide) ?_
  refine tk_puti hC hK hw hT hinX5 tyX5_ok nmX5 hkq0_ (by decide) rfl rfl 12 (by decide) (List.mem_of_getElem? (i := 6) rfl) rfl rfl rfl rfl (by decide) (by decide) dX5_moveTo_30 (fun H locs w24 hw hT k26 c25 => ?_)
  have hF := hF.put hkq0_ (k := 12) (by decide) k26
  have c27 := k26.gi (Or.inr (by decide)) c21
  have c28 := k26.gi (Or.inr (by decide)) c22
  have c29 := k26.gi (Or.inr (by decide)) c23
  have c30 := k26.gi (Or.inr (by decide)) c19
  exact tk_vret hC hr hlocks hK ⟨hT, hF, ⟨⟨0, c27, (by decide), (by decide)⟩, ⟨0, c28, (by decide), (by decide)⟩, ⟨0, c29, (by decide), (by decide)⟩, ⟨0, c30, (by decide), (by decide)⟩, ⟨0, c25, (by decide), (by decide)⟩⟩⟩ hw dX5_moveTo_33
abbrev P_X5_copyFrom_1 (ad : Nat → Nat) (cy : Nat → ClassId) (B : Int) (qr : Nat) (s1 : Int) (q0_ : Nat) (w0 : va_W) : va_W → Prop := fun u => TW ksC ad cy B qr s1 u ∧ FE ksC [(5, 8, 8), (5, 9, 9), (5, 10, 10), (5, 11, 11), (5, 12, 12), (5, 13, 13), (7, 8, 8), (7, 9, 9), (7, 10, 10), (7, 11, 11), (9, 0, 0), (9, 1, 1), (9, 2, 2), (9, 3, 3), (9, 4, 4), (9, 5, 5), (9, 6, 6), (9, 7, 7), (9, 8, 8), (24, 0, 100000), (25, 0, 100000), (26, 0, 100000), (27, 0, 100000), (28, 0, 100000), (29, 0, 100000), (30, 0, 100000), (31, 0, 100000), (32, 0, 100000), (34, 0, 100000), (35, 0, 100000), (36, 0, 100000), (37, 0, 100000), (38, 0, 100000)] w0 u ∧ ((True))
set_option maxHeartbeats 4000000 in
set_option maxRecDepth 100000 in
theorem k_X5_copyFrom_1 (l : Launch) (adK adV : Nat → Nat) (dC : Nat → ClassId) (dI : Nat → Nat → Nat) (cy : Nat → ClassId) (ad : Nat → Nat) (B : Int) (hB0 : 2147483648 ≤ B) (hB1 : B ≤ 1152921504606846976) (qr : Nat) (s1 : Int)  (q0_ : Nat) (hkq0_ : ksC[q0_]? = some 5) (w0 : va_W) (sz : Nat) (hT : TW ksC ad cy B qr s1 w0)  : Met l yX5_copyFrom wsX5_copyFrom ({ frames := 3, cells := 0, slots := 0, locals := 102 }) (va_Pc [.ref (ad q0_), .ref (ad 38)] (wpreS adK adV dC dI cy sz w0)) (va_Qv (P_X5_copyFrom_1 ad cy B qr s1 q0_ w0) (fun u : va_W => wpost dC dI cy (va_A w0 sz) u) (va_A w0 sz)) 0 0 (va_A w0 sz) := by
  refine Met.ofW (cc := cX5_copyFrom) (maxL := 3) (ret := none) (by decide) rfl ?_
  intro p e s m args below meth c s₁ Bk hml hv
  obtain ⟨rfl, ⟨hsz, hP, hK, hD0⟩, hE, hSR⟩ := hv
  have hx := Bk.exec
  have hb := Bk.bytes
  have hr := Bk.returns
  have hlocks := Bk.notSynchronized
  have hC : CallFix p m c cX5_copyFrom 3 s _ wsX5_copyFrom RX5 := ⟨hx, hb, hml, findClass_of_methodNamed Bk.named, atoms_spec (ws := wsX5_copyFrom) Bk.pre⟩
  subst hsz
  have hD := hD0.self (sz := s.heap.size)
  generalize hAe : va_A w0 s.heap.size = A at hD hE ⊢
  have hA : ∀ q : Nat, s.heap.size ≤ q → A q := fun q h => by rw [← hAe]; exact Or.inr h
  have hw : Wd dC dI A s.heap s.heap [] w0 := ⟨hP, hD, va_S.rf⟩
  have hF : FE ksC [(5, 8, 8), (5, 9, 9), (5, 10, 10), (5, 11, 11), (5, 12, 12), (5, 13, 13), (7, 8, 8), (7, 9, 9), (7, 10, 10), (7, 11, 11), (9, 0, 0), (9, 1, 1), (9, 2, 2), (9, 3, 3), (9, 4, 4), (9, 5, 5), (9, 6, 6), (9, 7, 7), (9, 8, 8), (24, 0, 100000), (25, 0, 100000), (26, 0, 100000), (27, 0, 100000), (28, 0, 100000), (29, 0, 100000), (30, 0, 100000), (31, 0, 100000), (32, 0, 100000), (34, 0, 100000), (35, 0, 100000), (36, 0, 100000), (37, 0, 100000), (38, 0, 100000)] w0 w0 := FE.rf
  have hl := lv_entry ([.ref (ad q0_), .ref (ad 38)]) (n := 3) (Nat.le_of_ble_eq_true rfl)
  rw [lg_entry_eq]
  generalize (lg_sl ([.ref (ad q0_), .ref (ad 38)]) ++ List.replicate (3 - (lg_sl ([.ref (ad q0_), .ref (ad 38)])).length) Slot.unset).toArray = ls at hl ⊢
  have hl : lv_has ls 3 [(0, .ref (ad q0_)), (1, .ref (ad 38))] := hl
  generalize hloc : ([] : List Loc) = locs at hw ⊢
  have hinX5 : ∀ w ∈ u_ws RX5 TX5 14, w ∈ wsX5_copyFrom := fun _ h => List.mem_cons_of_mem _ (List.mem_append_left _ (List.mem_append_left _ (List.mem_append_right _ (h))))
  have L28 : ∀ (n28 : Nat) (v28_2 : Int32) (H : Heap) (locs : List Loc) (ls : Array Slot) (w1 : va_W), 0 ≤ v28_2.toInt → v28_2.toInt ≤ 4 → (4 - v28_2.toInt).toNat < n28 → Wd dC dI A s.heap H locs w1 → TW ksC ad cy B qr s1 w1 → FE ksC [(5, 8, 8), (5, 9, 9), (5, 10, 10), (5, 11, 11), (5, 12, 12), (5, 13, 13), (7, 8, 8), (7, 9, 9), (7, 10, 10), (7, 11, 11), (9, 0, 0), (9, 1, 1), (9, 2, 2), (9, 3, 3), (9, 4, 4), (9, 5, 5), (9, 6, 6), (9, 7, 7), (9, 8, 8), (24, 0, 100000), (25, 0, 100000), (26, 0, 100000), (27, 0, 100000), (28, 0, 100000), (29, 0, 100000), (30, 0, 100000), (31, 0, 100000), (32, 0, 100000), (34, 0, 100000), (35, 0, 100000), (36, 0, 100000), (37, 0, 100000), (38, 0, 100000)] w0 w1 → gi w1 q0_ 10 = 0 → gi w1 q0_ 11 = 0 → gi w1 q0_ 12 = 0 → gi w1 q0_ 8 = 0 → gi w1 q0_ 9 = 0 → lv_has ls 3 [(0, .ref (ad q0_)), (1, .ref (ad 38)), (2, .int v28_2)] → W p l e ({ frames := 3, cells := 0, slots := 0, locals := 102 }) s m (List.toArray [.ref (ad q0_), .ref (ad 38)]) below meth c H locs 0 0 (MQ below (va_Qv (P_X5_copyFrom_1 ad cy B qr s1 q0_ w0) (fun u : va_W => wpost dC dI cy A u) A) (List.toArray [.ref (ad q0_), .ref (ad 38)]) s 0 0 A) (F0 m 28 ls []) := by
    intro n28
    induction n28 with
    | zero => intro v28_2 H locs ls w1 r2 t3 hm28 hw hT hF c4 c5 c6 c7 c8 hl; omega
    | succ n28 ih28 =>
      intro v28_2 H locs ls w1 r2 t3 hm28 hw hT hF c4 c5 c6 c7 c8 hl
      refine lv_iload_n hx hb dX5_copyFrom_28 rfl (lv_at hl 2 rfl) ?_
      refine lv_iconst (v := 4) hx hb dX5_copyFrom_29 (by decide) ?_
      refine lv_icmp_ge (tgt := 54) hx hb dX5_copyFrom_30 (by decide) (fun c9 => ?_) (fun c9 => ?_)
      · have c9 : (4 : Int) ≤ v28_2.toInt := wk_le.mp c9
        refine lv_aload_n hx hb dX5_copyFrom_54 rfl (lv_at hl 1 rfl) ?_
        refine tk_getO hC hK hw hT hinX5 kC_at38 (by decide) rfl 3 (by decide) (List.mem_of_getElem? (i := 8) rfl) rfl rfl dX5_copyFrom_55 ?_
        refine lv_iconst (v := 0) hx hb dX5_copyFrom_58 (by decide) ?_
        refine lv_aload_n hx hb dX5_copyFrom_59 rfl (lv_at hl 0 rfl) ?_
        refine tk_getO hC hK hw hT hinX5 hkq0_ (by decide) rfl 3 (by decide) (List.mem_of_getElem? (i := 8) rfl) rfl rfl dX5_copyFrom_60 ?_
        refine lv_iconst (v := 0) hx hb dX5_copyFrom_63 (by decide) ?_
        refine lv_bipush (v := 6) hx hb dX5_copyFrom_64 (by decide) ?_
        refine tk_copy hC hK hw hT hl.1 (List.mem_of_getElem? (i := 3) rfl) (List.mem_of_getElem? (i := 4) rfl) (List.mem_of_getElem? (i := 5) rfl) (List.mem_of_getElem? (i := 6) rfl) kC_at50 (kC_5_12 hkq0_) (by decide) rfl rfl rfl rfl (by decide) (by decide) (by decide) (by decide) (by decide) (by decide) (by decide) (by decide) (Nat.le_of_ble_eq_true rfl) (by decide +kernel) dX5_copyFrom_66 (fun H locs w10 hw hT k11 => ?_)
        have hF := hF.tr k11 (by decide)
        have c12 := k11.gi hkq0_ (by decide) c4
        have c13 := k11.gi hkq0_ (by decide) c5
        have c14 := k11.gi hkq0_ (by decide) c6
        have c15 := k11.gi hkq0_ (by decide) c7
        have c16 := k11.gi hkq0_ (by decide) c8
        refine lv_aload_n hx hb dX5_copyFrom_69 rfl (lv_at hl 1 rfl) ?_
        refine tk_getO hC hK hw hT hinX5 kC_at38 (by decide) rfl 4 (by decide) (List.mem_of_getElem? (i := 9) rfl) rfl rfl dX5_copyFrom_70 ?_
        refine lv_iconst (v := 0) hx hb dX5_copyFrom_73 (by decide) ?_
        refine lv_aload_n hx hb dX5_copyFrom_74 rfl (lv_at hl 0 rfl) ?_
        refine tk_getO hC hK hw hT hinX5 hkq0_ (by decide) rfl 4 (by decide) (List.mem_of_getElem? (i := 9) rfl) rfl rfl dX5_copyFrom_75 ?_
        refine lv_iconst (v := 0) hx hb dX5_copyFrom_78 (by decide) ?_
        refine lv_bipush (v := 6) hx hb dX5_copyFrom_79 (by decide) ?_
        refine tk_copy hC hK hw hT hl.1 (List.mem_of_getElem? (i := 3) rfl) (List.mem_of_getElem? (i := 4) rfl) (List.mem_of_getElem? (i := 5) rfl) (List.mem_of_getElem? (i := 6) rfl) kC_at51 (kC_5_13 hkq0_) (by decide) rfl rfl rfl rfl (by decide) (by decide) (by decide) (by decide) (by decide) (by decide) (by decide) (by decide) (Nat.le_of_ble_eq_true rfl) (by decide +kernel) dX5_copyFrom_81 (fun H locs w17 hw hT k18 => ?_)
        have hF := hF.tr k18 (by decide)
        have c19 := k18.gi hkq0_ (by decide) c12
        have c20 := k18.gi hkq0_ (by decide) c13
        have c21 := k18.gi hkq0_ (by decide) c14
        have c22 := k18.gi hkq0_ (by decide) c15
        have c23 := k18.gi hkq0_ (by decide) c16
        refine lv_aload_n hx hb dX5_copyFrom_84 rfl (lv_at hl 1 rfl) ?_
        refine tk_getO hC hK hw hT hinX5 kC_at38 (by decide) rfl 5 (by decide) (List.mem_of_getElem? (i := 10) rfl) rfl rfl dX5_copyFrom_85 ?_
        refine lv_iconst (v := 0) hx hb dX5_copyFrom_88 (by decide) ?_
        refine lv_aload_n hx hb dX5_copyFrom_89 rfl (lv_at hl 0 rfl) ?_
        refine tk_getO hC hK hw hT hinX5 hkq0_ (by decide) rfl 5 (by decide) (List.mem_of_getElem? (i := 10) rfl) rfl rfl dX5_copyFrom_90 ?_
        refine lv_iconst (v := 0) hx hb dX5_copyFrom_93 (by decide) ?_
        refine lv_bipush (v := 12) hx hb dX5_copyFrom_94 (by decide) ?_
        refine tk_copy hC hK hw hT hl.1 (List.mem_of_getElem? (i := 3) rfl) (List.mem_of_getElem? (i := 4) rfl) (List.mem_of_getElem? (i := 5) rfl) (List.mem_of_getElem? (i := 6) rfl) kC_at52 (kC_5_14 hkq0_) (by decide) rfl rfl rfl rfl (by decide) (by decide) (by decide) (by decide) (by decide) (by decide) (by decide) (by decide) (Nat.le_of_ble_eq_true rfl) (by decide +kernel) dX5_copyFrom_96 (fun H locs w24 hw hT k25 => ?_)
        have hF := hF.tr k25 (by decide)
        have c26 := k25.gi hkq0_ (by decide) c19
        have c27 := k25.gi hkq0_ (by decide) c20
        have c28 := k25.gi hkq0_ (by decide) c21
        have c29 := k25.gi hkq0_ (by decide) c22
        have c30 := k25.gi hkq0_ (by decide) c23
        refine lv_aload_n hx hb dX5_copyFrom_99 rfl (lv_at hl 1 rfl) ?_
        refine tk_getO hC hK hw hT hinX5 kC_at38 (by decide) rfl 6 (by decide) (List.mem_of_getElem? (i := 11) rfl) rfl rfl dX5_copyFrom_100 ?_
        refine lv_iconst (v := 0) hx hb dX5_copyFrom_103 (by decide) ?_
        refine lv_aload_n hx hb dX5_copyFrom_104 rfl (lv_at hl 0 rfl) ?_
        refine tk_getO hC hK hw hT hinX5 hkq0_ (by decide) rfl 6 (by decide) (List.mem_of_getElem? (i := 11) rfl) rfl rfl dX5_copyFrom_105 ?_
        refine lv_iconst (v := 0) hx hb dX5_copyFrom_108 (by decide) ?_
        refine lv_bipush (v := 12) hx hb dX5_copyFrom_109 (by decide) ?_
        refine tk_copy hC hK hw hT hl.1 (List.mem_of_getElem? (i := 3) rfl) (List.mem_of_getElem? (i := 4) rfl) (List.mem_of_getElem? (i := 5) rfl) (List.mem_of_getElem? (i := 6) rfl) kC_at53 (kC_5_15 hkq0_) (by decide) rfl rfl rfl rfl (by decide) (by decide) (by decide) (by decide) (by decide) (by decide) (by decide) (by decide) (Nat.le_of_ble_eq_true rfl) (by decide +kernel) dX5_copyFrom_111 (fun H locs w31 hw hT k32 => ?_)
        have hF := hF.tr k32 (by decide)
        have c33 := k32.gi hkq0_ (by decide) c26
        have c34 := k32.gi hkq0_ (by decide) c27
        have c35 := k32.gi hkq0_ (by decide) c28
        have c36 := k32.gi hkq0_ (by decide) c29
        have c37 := k32.gi hkq0_ (by decide) c30
        refine lv_aload_n hx hb dX5_copyFrom_114 rfl (lv_at hl 1 rfl) ?_
        refine tk_getO hC hK hw hT hinX5 kC_at38 (by decide) rfl 7 (by decide) (List.mem_of_getElem? (i := 12) rfl) rfl rfl dX5_copyFrom_115 ?_
        refine lv_iconst (v := 0) hx hb dX5_copyFrom_118 (by decide) ?_
        refine lv_aload_n hx hb dX5_copyFrom_119 rfl (lv_at hl 0 rfl) ?_
        refine tk_getO hC hK hw hT hinX5 hkq0_ (by decide) rfl 7 (by decide) (List.mem_of_getElem? (i := 12) rfl) rfl rfl dX5_copyFrom_120 ?_
        refine lv_iconst (v := 0) hx hb dX5_copyFrom_123 (by decide) ?_
        refine lv_bipush (v := 8) hx hb dX5_copyFrom_124 (by decide) ?_
        refine tk_copy hC hK hw hT hl.1 (List.mem_of_getElem? (i := 3) rfl) (List.mem_of_getElem? (i := 4) rfl) (List.mem_of_getElem? (i := 5) rfl) (List.mem_of_getElem? (i := 6) rfl) kC_at54 (kC_5_16 hkq0_) (by decide) rfl rfl rfl rfl (by decide) (by decide) (by decide) (by decide) (by decide) (by decide) (by decide) (by decide) (Nat.le_of_ble_eq_true rfl) (by decide +kernel) dX5_copyFrom_126 (fun H locs w38 hw hT k39 => ?_)
        have hF := hF.tr k39 (by decide)
        have c40 := k39.gi hkq0_ (by decide) c33
        have c41 := k39.gi hkq0_ (by decide) c34
        have c42 := k39.gi hkq0_ (by decide) c35
        have c43 := k39.gi hkq0_ (by decide) c36
        have c44 := k39.gi hkq0_ (by decide) c37
        refine lv_aload_n hx hb dX5_copyFrom_129 rfl (lv_at hl 0 rfl) ?_
        refine lv_aload_n hx hb dX5_copyFrom_130 rfl (lv_at hl 1 rfl) ?_
        refine tk_geti hC hK hw hT hinX5 kC_at38 (by decide) rfl 8 (by decide) (List.mem_of_getElem? (i := 13) rfl) rfl rfl dX5_copyFrom_131 (fun x45 c46 rx45 tx45 => ?_)
        refine tk_puti hC hK hw hT hinX5 tyX5_ok nmX5 hkq0_ (by decide) rfl rfl 8 (by decide) (List.mem_of_getElem? (i := 13) rfl) rfl rfl rfl rfl (show 0 ≤ x45.toInt by omega) (show x45.toInt ≤ 4 by omega) dX5_copyFrom_134 (fun H locs w47 hw hT k49 c48 => ?_)
        have hF := hF.put hkq0_ (k := 8) (by decide) k49
        have c50 := k49.gi (Or.inr (by decide)) c40
        have c51 := k49.gi (Or.inr (by decide)) c41
        have c52 := k49.gi (Or.inr (by decide)) c42
        have c53 := k49.gi (Or.inr (by decide)) c44
        refine lv_aload_n hx hb dX5_copyFrom_137 rfl (lv_at hl 0 rfl) ?_
        refine lv_aload_n hx hb dX5_copyFrom_138 rfl (lv_at hl 1 rfl) ?_
        refine tk_geti hC hK hw hT hinX5 kC_at38 (by decide) rfl 9 (by decide) (List.mem_of_getElem? (i := 14) rfl) rfl rfl dX5_copyFrom_139 (fun x54 c55 rx54 tx54 => ?_)
        refine tk_puti hC hK hw hT hinX5 tyX5_ok nmX5 hkq0_ (by decide) rfl rfl 9 (by decide) (List.mem_of_getElem? (i := 14) rfl) rfl rfl rfl rfl (show 0 ≤ x54.toInt by omega) (show x54.toInt ≤ 4 by omega) dX5_copyFrom_142 (fun H locs w56 hw hT k58 c57 => ?_)
        have hF := hF.put hkq0_ (k := 9) (by decide) k58
        have c59 := k58.gi (Or.inr (by decide)) c50
        have c60 := k58.gi (Or.inr (by decide)) c51
        have c61 := k58.gi (Or.inr (by decide)) c52
        have c62 := k58.gi (Or.inr (by decide)) c48
        refine lv_aload_n hx hb dX5_copyFrom_145 rfl (lv_at hl 0 rfl) ?_
        refine lv_aload_n hx hb dX5_copyFrom_146 rfl (lv_at hl 1 rfl) ?_
        refine tk_geti hC hK hw hT hinX5 kC_at38 (by decide) rfl 10 (by decide) (List.mem_of_getElem? (i := 15) rfl) rfl rfl dX5_copyFrom_147 (fun x63 c64 rx63 tx63 => ?_)
        refine tk_puti hC hK hw hT hinX5 tyX5_ok nmX5 hkq0_ (by decide) rfl rfl 10 (by decide) (List.mem_of_getElem? (i := 15) rfl) rfl rfl rfl rfl (show 0 ≤ x63.toInt by omega) (show x63.toInt ≤ 6 by omega) dX5_copyFrom_150 (fun H locs w65 hw hT k67 c66 => ?_)
        have hF := hF.put hkq0_ (k := 10) (by decide) k67
        have c68 := k67.gi (Or.inr (by decide)) c60
        have c69 := k67.gi (Or.inr (by decide)) c61
        have c70 := k67.gi (Or.inr (by decide)) c62
        have c71 := k67.gi (Or.inr (by decide)) c57
        refine lv_aload_n hx hb dX5_copyFrom_153 rfl (lv_at hl 0 rfl) ?_
        refine lv_aload_n hx hb dX5_copyFrom_154 rfl (lv_at hl 1 rfl) ?_
        refine tk_geti hC hK hw hT hinX5 kC_at38 (by decide) rfl 11 (by decide) (List.mem_of_getElem? (i := 16) rfl) rfl rfl dX5_copyFrom_155 (fun x72 c73 rx72 tx72 => ?_)
        refine tk_puti hC hK hw hT hinX5 tyX5_ok nmX5 hkq0_ (by decide) rfl rfl 11 (by decide) (List.mem_of_getElem? (i := 16) rfl) rfl rfl rfl rfl (show 0 ≤ x72.toInt by omega) (show x72.toInt ≤ 12 by omega) dX5_copyFrom_158 (fun H locs w74 hw hT k76 c75 => ?_)
        have hF := hF.put hkq0_ (k := 11) (by decide) k76
        have c77 := k76.gi (Or.inr (by decide)) c69
        have c78 := k76.gi (Or.inr (by decide)) c70
        have c79 := k76.gi (Or.inr (by decide)) c71
        have c80 := k76.gi (Or.inr (by decide)) c66
        refine lv_aload_n hx hb dX5_copyFrom_161 rfl (lv_at hl 0 rfl) ?_
        refine lv_aload_n hx hb dX5_copyFrom_162 rfl (lv_at hl 1 rfl) ?_
        refine tk_geti hC hK hw hT hinX5 kC_at38 (by decide) rfl 12 (by decide) (List.mem_of_getElem? (i := 17) rfl) rfl rfl dX5_copyFrom_163 (fun x81 c82 rx81 tx81 => ?_)
        refine tk_puti hC hK hw hT hinX5 tyX5_ok nmX5 hkq0_ (by decide) rfl rfl 12 (by decide) (List.mem_of_getElem? (i := 17) rfl) rfl rfl rfl rfl (show 0 ≤ x81.toInt by omega) (show x81.toInt ≤ 8 by omega) dX5_copyFrom_166 (fun H locs w83 hw hT k85 c84 => ?_)
        have hF := hF.put hkq0_ (k := 12) (by decide) k85
        have c86 := k85.gi (Or.inr (by decide)) c78
        have c87 := k85.gi (Or.inr (by decide)) c79
        have c88 := k85.gi (Or.inr (by decide)) c80
        have c89 := k85.gi (Or.inr (by decide)) c75
        refine lv_aload_n hx hb dX5_copyFrom_169 rfl (lv_at hl 0 rfl) ?_
        refine lv_aload_n hx hb dX5_copyFrom_170 rfl (lv_at hl 1 rfl) ?_
        refine tk_geti hC hK hw hT hinX5 kC_at38 (by decide) rfl 13 (by decide) (List.mem_of_getElem? (i := 18) rfl) rfl rfl dX5_copyFrom_171 (fun x90 c91 rx90 tx90 => ?_)
        refine tk_puti hC hK hw hT hinX5 tyX5_ok nmX5 hkq0_ (by decide) rfl rfl 13 (by decide) (List.mem_of_getElem? (i := 18) rfl) rfl rfl rfl rfl (show 0 ≤ x90.toInt by omega) (wk_i32 x90).2 dX5_copyFrom_174 (fun H locs w92 hw hT k94 c93 => ?_)
        have hF := hF.put hkq0_ (k := 13) (by decide) k94
        have c95 := k94.gi (Or.inr (by decide)) c86
        have c96 := k94.gi (Or.inr (by decide)) c87
        have c97 := k94.gi (Or.inr (by decide)) c88
        have c98 := k94.gi (Or.inr (by decide)) c89
        have c99 := k94.gi (Or.inr (by decide)) c84
        exact tk_vret hC hr hlocks hK ⟨hT, hF, trivial⟩ hw dX5_copyFrom_177
      · have c9 : v28_2.toInt < (4 : Int) := wk_leF c9
        refine lv_aload_n hx hb dX5_copyFrom_33 rfl (lv_at hl 0 rfl) ?_
        refine tk_getO hC hK hw hT hinX5 hkq0_ (by decide) rfl 2 (by decide) (List.mem_of_getElem? (i := 7) rfl) rfl rfl dX5_copyFrom_34 ?_
        refine lv_iload_n hx hb dX5_copyFrom_37 rfl (lv_at hl 2 rfl) ?_
        refine tk_aald hC hK hw hT (kC_5_11 hkq0_) rfl (by decide) rfl (show 0 ≤ v28_2.toInt by omega) (show v28_2.toInt < 4 by omega) dX5_copyFrom_38 (fun j100 hj100 gj100 => ?_)
        refine lv_aload_n hx hb dX5_copyFrom_39 rfl (lv_at hl 1 rfl) ?_
        refine tk_getO hC hK hw hT hinX5 kC_at38 (by decide) rfl 2 (by decide) (List.mem_of_getElem? (i := 7) rfl) rfl rfl dX5_copyFrom_40 ?_
        refine lv_iload_n hx hb dX5_copyFrom_43 rfl (lv_at hl 2 rfl) ?_
        refine tk_aald hC hK hw hT kC_at49 rfl (by decide) rfl (show 0 ≤ v28_2.toInt by omega) (show v28_2.toInt < 4 by omega) dX5_copyFrom_44 (fun j101 hj101 gj101 => ?_)
        refine tk_Vv hC hK hw hT hA hE hSR (kC_el33 (kC_5_11 hkq0_) hj100) (by decide) rfl (k_X9_copyFrom_2 l adK adV dC dI cy ad B (by omega) (by omega) qr s1   (el 33 (q0_ + 11) j100) (kC_el33 (kC_5_11 hkq0_) hj100) (el 33 49 j101) (kC_el33 kC_at49 hj101) w1 H.size hT ) (cwV 1 hC.2.2.2.2 gX5_copyFrom_X9_copyFrom rfl rfl rfl (by decide +kernel) ⟨Nat.le_of_ble_eq_true rfl, Nat.le_of_ble_eq_true rfl⟩) rfl hl.1 rfl (Nat.le_of_ble_eq_true rfl) dX5_copyFrom_45 (fun w104 H locs hp103 hw => ?_)
        obtain ⟨hT, k105, hg106⟩ := hp103
        have hF := hF.tr k105 (by decide)
        have c107 := k105.gi hkq0_ (by decide) c4
        have c108 := k105.gi hkq0_ (by decide) c5
        have c109 := k105.gi hkq0_ (by decide) c6
        have c110 := k105.gi hkq0_ (by decide) c7
        have c111 := k105.gi hkq0_ (by decide) c8
        clear hg106
        obtain ⟨x112, ex112⟩ : ∃ y : Int32, y = v28_2 + Int32.ofInt 1 := ⟨_, rfl⟩
        refine lv_iinc (v := x112) (lv' := [(2, .int x112), (0, .ref (ad q0_)), (1, .ref (ad 38))]) hx hb dX5_copyFrom_48 hl (k := 2) rfl ex112.symm (by decide) rfl (fun ls hl => ?_)
        have ex112 : x112.toInt = v28_2.toInt + 1 := by rw [ex112]; exact wk_add (y := 1) (show -2147483648 ≤ v28_2.toInt + 1 by omega) (show v28_2.toInt + 1 ≤ 2147483647 by omega)
        refine lv_goto (tgt := 28) hx hb dX5_copyFrom_51 (by decide) ?_
        exact ih28 x112 H locs ls w104 (show 0 ≤ x112.toInt by omega) (show x112.toInt ≤ 4 by omega) (show (4 - x112.toInt).toNat < n28 by omega) hw hT hF c107 c108 c109 c110 c111 (lv_sub hl [1, 2, 0] rfl)
  refine lv_aload_n hx hb dX5_copyFrom_0 rfl (lv_at hl 0 rfl) ?_
  refine lv_aload_n hx hb dX5_copyFrom_1 rfl (lv_at hl 1 rfl) ?_
  refine tk_getO hC hK hw hT hinX5 kC_at38 (by decide) rfl 0 (by decide) (List.mem_of_getElem? (i := 1) rfl) rfl rfl dX5_copyFrom_2 ?_
  refine tk_Vv hC hK hw hT hA hE hSR hkq0_ (by decide) rfl (k_X5_moveTo_1 l adK adV dC dI cy ad B (by omega) (by omega) qr s1   q0_ hkq0_ w0 s.heap.size hT ) (cwV 1 hC.2.2.2.2 gX5_copyFrom_X5_moveTo rfl rfl rfl (by decide +kernel) ⟨Nat.le_of_ble_eq_true rfl, Nat.le_of_ble_eq_true rfl⟩) rfl hl.1 rfl (Nat.le_of_ble_eq_true rfl) dX5_copyFrom_5 (fun w115 H locs hp114 hw => ?_)
  obtain ⟨hT, k116, hg127⟩ := hp114
  have hF := hF.tr k116 (by decide)
  obtain ⟨⟨x117, c118, rx117, tx117⟩, ⟨x119, c120, rx119, tx119⟩, ⟨x121, c122, rx121, tx121⟩, ⟨x123, c124, rx123, tx123⟩, ⟨x125, c126, rx125, tx125⟩⟩ := hg127
  refine lv_aload_n hx hb dX5_copyFrom_8 rfl (lv_at hl 1 rfl) ?_
  refine tk_getO hC hK hw hT hinX5 kC_at38 (by decide) rfl 1 (by decide) (List.mem_of_getElem? (i := 2) rfl) rfl rfl dX5_copyFrom_9 ?_
  refine lv_iconst (v := 0) hx hb dX5_copyFrom_12 (by decide) ?_
  refine lv_aload_n hx hb dX5_copyFrom_13 rfl (lv_at hl 0 rfl) ?_
  refine tk_getO hC hK hw hT hinX5 hkq0_ (by decide) rfl 1 (by decide) (List.mem_of_getElem? (i := 2) rfl) rfl rfl dX5_copyFrom_14 ?_
  refine lv_iconst (v := 0) hx hb dX5_copyFrom_17 (by decide) ?_
  refine lv_aload_n hx hb dX5_copyFrom_18 rfl (lv_at hl 0 rfl) ?_
  refine tk_getO hC hK hw hT hinX5 hkq0_ (by decide) rfl 1 (by decide) (List.mem_of_getElem? (i := 2) rfl) rfl rfl dX5_copyFrom_19 ?_
  refine tk_alen (v := 48) hC hK hw hT (kC_5_10 hkq0_) rfl (by decide) rfl (by decide) dX5_copyFrom_22 ?_
  refine tk_copy hC hK hw hT hl.1 (List.mem_of_getElem? (i := 3) rfl) (List.mem_of_getElem? (i := 4) rfl) (List.mem_of_getElem? (i := 5) rfl) (List.mem_of_getElem? (i := 6) rfl) kC_at48 (kC_5_10 hkq0_) (by decide) rfl rfl rfl rfl (by decide) (by decide) (by decide) (by decide) (by decide) (by decide) (by decide) (by decide) (Nat.le_of_ble_eq_true rfl) (by decide +kernel) dX5_copyFrom_23 (fun H locs w128 hw hT k129 => ?_)
  have hF := hF.tr k129 (by decide)
  have c130 := k129.gi hkq0_ (by decide) c118
  have c131 := k129.gi hkq0_ (by decide) c120
  have c132 := k129.gi hkq0_ (by decide) c122
  have c133 := k129.gi hkq0_ (by decide) c124
  have c134 := k129.gi hkq0_ (by decide) c126
  refine lv_iconst (v := 0) hx hb dX5_copyFrom_26 (by decide) ?_
  refine lv_istore_n (lv' := [(2, .int 0), (0, .ref (ad q0_)), (1, .ref (ad 38))]) hx hb dX5_copyFrom_27 rfl hl (by decide) rfl (fun ls hl => ?_)
  obtain rfl : x121 = 0 := wk_eq.mpr (show x121.toInt = 0 by omega)
  obtain rfl : x123 = 0 := wk_eq.mpr (show x123.toInt = 0 by omega)
  obtain rfl : x125 = 0 := wk_eq.mpr (show x125.toInt = 0 by omega)
  obtain rfl : x117 = 0 := wk_eq.mpr (show x117.toInt = 0 by omega)
  obtain rfl : x119 = 0 := wk_eq.mpr (show x119.toInt = 0 by omega)
  exact L28 ((4 - (0 : Int)).toNat + 1) 0 H locs ls w128 (by decide) (by decide) (Nat.lt_succ_self _) hw hT hF c132 c133 c134 c130 c131 (lv_sub hl [1, 2, 0] rfl)
abbrev P_X11_image_1 (ad : Nat → Nat) (cy : Nat → ClassId) (B : Int) (qr : Nat) (s1 : Int) (a1 : Int32) (w0 : va_W) : Int32 → va_W → Prop := fun r u => TW ksC ad cy B qr s1 u ∧ FE ksC [(5, 8, 8), (5, 9, 9), (5, 10, 10), (5, 11, 11), (5, 12, 12), (5, 13, 13), (7, 8, 8), (7, 9, 9), (7, 10, 10), (7, 11, 11), (9, 0, 0), (9, 1, 1), (9, 2, 2), (9, 3, 3), (9, 4, 4), (9, 5, 5), (9, 6, 6), (9, 7, 7), (9, 8, 8), (24, 0, 100000), (25, 0, 100000), (26, 0, 100000), (27, 0, 100000), (28, 0, 100000), (29, 0, 100000), (30, 0, 100000), (31, 0, 100000), (32, 0, 100000), (34, 0, 100000), (35, 0, 100000), (36, 0, 100000), (37, 0, 100000), (38, 0, 100000), (41, 0, 4)] w0 u ∧ ((0 ≤ r.toInt ∧ r.toInt ≤ 4 ∧ 0 ≤ a1.toInt ∧ a1.toInt ≤ 3) ∨ (r = (-1)))
set_option maxHeartbeats 4000000 in
set_option maxRecDepth 100000 in
theorem k_X11_image_1 (l : Launch) (adK adV : Nat → Nat) (dC : Nat → ClassId) (dI : Nat → Nat → Nat) (cy : Nat → ClassId) (ad : Nat → Nat) (B : Int) (hB0 : 2147483648 ≤ B) (hB1 : B ≤ 1152921504606846976) (qr : Nat) (s1 : Int)  (a1 : Int32) (w0 : va_W) (sz : Nat) (hT : TW ksC ad cy B qr s1 w0)  : Met l yX11_image wsX11_image ({ frames := 4, cells := 0, slots := 0, locals := 124 }) (va_Pc [.ref (ad 0), .int a1] (wpreS adK adV dC dI cy sz w0)) (va_Qi (P_X11_image_1 ad cy B qr s1 a1 w0) (fun u : va_W => wpost dC dI cy (va_A w0 sz) u) (va_A w0 sz)) 0 0 (va_A w0 sz) := by
  refine Met.ofW (cc := cX11_image) (maxL := 2) (ret := (some .int)) (by decide) rfl ?_
  intro p e s m args below meth c s₁ Bk hml hv
  obtain ⟨rfl, ⟨hsz, hP, hK, hD0⟩, hE, hSR⟩ := hv
  have hx := Bk.exec
  have hb := Bk.bytes
  have hr := Bk.returns
  have hlocks := Bk.notSynchronized
  have hC : CallFix p m c cX11_image 2 s _ wsX11_image RX11 := ⟨hx, hb, hml, findClass_of_methodNamed Bk.named, atoms_spec (ws := wsX11_image) Bk.pre⟩
  subst hsz
  have hD := hD0.self (sz := s.heap.size)
  generalize hAe : va_A w0 s.heap.size = A at hD hE ⊢
  have hA : ∀ q : Nat, s.heap.size ≤ q → A q := fun q h => by rw [← hAe]; exact Or.inr h
  have hw : Wd dC dI A s.heap s.heap [] w0 := ⟨hP, hD, va_S.rf⟩
  have hF : FE ksC [(5, 8, 8), (5, 9, 9), (5, 10, 10), (5, 11, 11), (5, 12, 12), (5, 13, 13), (7, 8, 8), (7, 9, 9), (7, 10, 10), (7, 11, 11), (9, 0, 0), (9, 1, 1), (9, 2, 2), (9, 3, 3), (9, 4, 4), (9, 5, 5), (9, 6, 6), (9, 7, 7), (9, 8, 8), (24, 0, 100000), (25, 0, 100000), (26, 0, 100000), (27, 0, 100000), (28, 0, 100000), (29, 0, 100000), (30, 0, 100000), (31, 0, 100000), (32, 0, 100000), (34, 0, 100000), (35, 0, 100000), (36, 0, 100000), (37, 0, 100000), (38, 0, 100000), (41, 0, 4)] w0 w0 := FE.rf
  have hl := lv_entry ([.ref (ad 0), .int a1]) (n := 2) (Nat.le_of_ble_eq_true rfl)
  rw [lg_entry_eq]
  generalize (lg_sl ([.ref (ad 0), .int a1]) ++ List.replicate (2 - (lg_sl ([.ref (ad 0), .int a1])).length) Slot.unset).toArray = ls at hl ⊢
  have hl : lv_has ls 2 [(0, .ref (ad 0)), (1, .int a1)] := hl
  generalize hloc : ([] : List Loc) = locs at hw ⊢
  have hinX11 : ∀ w ∈ u_ws RX11 TX11 13, w ∈ wsX11_image := fun _ h => List.mem_cons_of_mem _ (List.mem_append_left _ (List.mem_append_left _ (List.mem_append_left _ (List.mem_append_right _ (h)))))
  have hinX5 : ∀ w ∈ u_ws RX5 TX5 14, w ∈ wsX11_image := fun _ h => List.mem_cons_of_mem _ (List.mem_append_left _ (List.mem_append_left _ (List.mem_append_right _ (h))))
  have J9 : ∀ (H : Heap) (locs : List Loc) (ls : Array Slot) (w1 : va_W), Wd dC dI A s.heap H locs w1 → TW ksC ad cy B qr s1 w1 → FE ksC [(5, 8, 8), (5, 9, 9), (5, 10, 10), (5, 11, 11), (5, 12, 12), (5, 13, 13), (7, 8, 8), (7, 9, 9), (7, 10, 10), (7, 11, 11), (9, 0, 0), (9, 1, 1), (9, 2, 2), (9, 3, 3), (9, 4, 4), (9, 5, 5), (9, 6, 6), (9, 7, 7), (9, 8, 8), (24, 0, 100000), (25, 0, 100000), (26, 0, 100000), (27, 0, 100000), (28, 0, 100000), (29, 0, 100000), (30, 0, 100000), (31, 0, 100000), (32, 0, 100000), (34, 0, 100000), (35, 0, 100000), (36, 0, 100000), (37, 0, 100000), (38, 0, 100000), (41, 0, 4)] w0 w1 → lv_has ls 2 [(0, .ref (ad 0)), (1, .int a1)] → W p l e ({ frames := 4, cells := 0, slots := 0, locals := 124 }) s m (List.toArray [.ref (ad 0), .int a1]) below meth c H locs 0 0 (MQ below (va_Qi (P_X11_image_1 ad cy B qr s1 a1 w0) (fun u : va_W => wpost dC dI cy A u) A) (List.toArray [.ref (ad 0), .int a1]) s 0 0 A) (F0 m 9 ls []) := by
    intro H locs ls w1 hw hT hF hl
    refine lv_iconst (v := (-1)) hx hb dX11_image_9 (by decide) ?_
    exact tk_iret hC hr hlocks hK ⟨hT, hF, (Or.inr rfl)⟩ hw dX11_image_10
  refine lv_iload_n hx hb dX11_image_0 rfl (lv_at hl 1 rfl) ?_
  refine lv_if_lt (tgt := 9) hx hb dX11_image_1 (by decide) (fun c2 => ?_) (fun c2 => ?_)
  · have c2 : a1.toInt < (0 : Int) := wk_lt.mp c2
    exact J9  s.heap locs ls w0   hw hT hF  (lv_sub hl [0, 1] rfl)
  · have c2 : (0 : Int) ≤ a1.toInt := wk_ltF c2
    refine lv_iload_n hx hb dX11_image_4 rfl (lv_at hl 1 rfl) ?_
    refine lv_iconst (v := 4) hx hb dX11_image_5 (by decide) ?_
    refine lv_icmp_lt (tgt := 11) hx hb dX11_image_6 (by decide) (fun c3 => ?_) (fun c3 => ?_)
    · have c3 : a1.toInt < (4 : Int) := wk_lt.mp c3
      refine lv_aload_n hx hb dX11_image_11 rfl (lv_at hl 0 rfl) ?_
      refine tk_getA hC hK hw hT hinX11 kC_at0 (by decide) rfl 5 (by decide) (List.mem_of_getElem? (i := 1) rfl) rfl rfl dX11_image_12 ?_
      refine lv_iload_n hx hb dX11_image_15 rfl (lv_at hl 1 rfl) ?_
      refine tk_aald hC hK hw hT kC_at59 rfl (by decide) rfl (show 0 ≤ a1.toInt by omega) (show a1.toInt < 4 by omega) dX11_image_16 (fun j4 hj4 gj4 => ?_)
      refine lv_aload_n hx hb dX11_image_17 rfl (lv_at hl 0 rfl) ?_
      refine tk_getA hC hK hw hT hinX11 kC_at0 (by decide) rfl 4 (by decide) (List.mem_of_getElem? (i := 2) rfl) rfl rfl dX11_image_18 ?_
      refine tk_Vv hC hK hw hT hA hE hSR (kC_el40 kC_at59 hj4) (by decide) rfl (k_X5_copyFrom_1 l adK adV dC dI cy ad B (by omega) (by omega) qr s1   (el 40 59 j4) (kC_el40 kC_at59 hj4) w0 s.heap.size hT ) (cwV 1 hC.2.2.2.2 gX11_image_X5_copyFrom rfl rfl rfl (by decide +kernel) ⟨Nat.le_of_ble_eq_true rfl, Nat.le_of_ble_eq_true rfl⟩) rfl hl.1 rfl (Nat.le_of_ble_eq_true rfl) dX11_image_21 (fun w7 H locs hp6 hw => ?_)
      obtain ⟨hT, k8, hg9⟩ := hp6
      have hF := hF.tr k8 (by decide)
      clear hg9
      refine lv_aload_n hx hb dX11_image_24 rfl (lv_at hl 0 rfl) ?_
      refine tk_getA hC hK hw hT hinX11 kC_at0 (by decide) rfl 6 (by decide) (List.mem_of_getElem? (i := 3) rfl) rfl rfl dX11_image_25 ?_
      refine lv_iload_n hx hb dX11_image_28 rfl (lv_at hl 1 rfl) ?_
      refine lv_iconst (v := 1) hx hb dX11_image_29 (by decide) ?_
      refine tk_zast hC hK hw hT kC_at144 (by decide) rfl rfl (show 0 ≤ a1.toInt by omega) (show a1.toInt < 4 by omega) (by decide) (by decide) dX11_image_30 (fun H locs w10 hw hT k12 c11 => ?_)
      have hF := hF.put kC_at144 (inE_of (a := 0) (b := 4) (by decide) (show 0 ≤ a1.toInt.toNat by omega) (show a1.toInt.toNat ≤ 4 by omega)) k12
      refine lv_aload_n hx hb dX11_image_31 rfl (lv_at hl 0 rfl) ?_
      refine tk_getA hC hK hw hT hinX11 kC_at0 (by decide) rfl 4 (by decide) (List.mem_of_getElem? (i := 2) rfl) rfl rfl dX11_image_32 ?_
      refine tk_geti hC hK hw hT hinX5 kC_at38 (by decide) rfl 9 (by decide) (List.mem_of_getElem? (i := 4) rfl) rfl rfl dX11_image_35 (fun x13 c14 rx13 tx13 => ?_)
      exact tk_iret hC hr hlocks hK ⟨hT, hF, (Or.inl ⟨(show 0 ≤ x13.toInt by omega), (show x13.toInt ≤ 4 by omega), (show 0 ≤ a1.toInt by omega), (show a1.toInt ≤ 3 by omega)⟩)⟩ hw dX11_image_38
    · have c3 : (4 : Int) ≤ a1.toInt := wk_ltF c3
      exact J9  s.heap locs ls w0   hw hT hF  (lv_sub hl [0, 1] rfl)
abbrev P_X7_copyFrom_2 (ad : Nat → Nat) (cy : Nat → ClassId) (B : Int) (qr : Nat) (s1 : Int) (q1_ : Nat) (w0 : va_W) : va_W → Prop := fun u => TW ksC ad cy B qr s1 u ∧ FE ksC [(7, 8, 8), (7, 9, 9), (7, 10, 10), (7, 11, 11), (24, 0, 100000), (25, 0, 100000), (26, 0, 100000), (27, 0, 100000), (28, 0, 100000), (29, 0, 100000), (30, 0, 100000), (31, 0, 100000)] w0 u ∧ ((True))
set_option maxHeartbeats 4000000 in
set_option maxRecDepth 100000 in
theorem k_X7_copyFrom_2 (l : Launch) (adK adV : Nat → Nat) (dC : Nat → ClassId) (dI : Nat → Nat → Nat) (cy : Nat → ClassId) (ad : Nat → Nat) (B : Int) (hB0 : 2147483648 ≤ B) (hB1 : B ≤ 1152921504606846976) (qr : Nat) (s1 : Int)  (q1_ : Nat) (hkq1_ : ksC[q1_]? = some 7) (w0 : va_W) (sz : Nat) (hT : TW ksC ad cy B qr s1 w0)  : Met l yX7_copyFrom wsX7_copyFrom ({ frames := 1, cells := 0, slots := 0, locals := 60 }) (va_Pc [.ref (ad 39), .ref (ad q1_)] (wpreS adK adV dC dI cy sz w0)) (va_Qv (P_X7_copyFrom_2 ad cy B qr s1 q1_ w0) (fun u : va_W => wpost dC dI cy (va_A w0 sz) u) (va_A w0 sz)) 0 0 (va_A w0 sz) := by
  refine Met.ofW (cc := cX7_copyFrom) (maxL := 2) (ret := none) (by decide) rfl ?_
  intro p e s m args below meth c s₁ Bk hml hv
  obtain ⟨rfl, ⟨hsz, hP, hK, hD0⟩, hE, hSR⟩ := hv
  have hx := Bk.exec
  have hb := Bk.bytes
  have hr := Bk.returns
  have hlocks := Bk.notSynchronized
  have hC : CallFix p m c cX7_copyFrom 2 s _ wsX7_copyFrom RX7 := ⟨hx, hb, hml, findClass_of_methodNamed Bk.named, atoms_spec (ws := wsX7_copyFrom) Bk.pre⟩
  subst hsz
  have hD := hD0.self (sz := s.heap.size)
  generalize hAe : va_A w0 s.heap.size = A at hD hE ⊢
  have hA : ∀ q : Nat, s.heap.size ≤ q → A q := fun q h => by rw [← hAe]; exact Or.inr h
  have hw : Wd dC dI A s.heap s.heap [] w0 := ⟨hP, hD, va_S.rf⟩
  have hF : FE ksC [(7, 8, 8), (7, 9, 9), (7, 10, 10), (7, 11, 11), (24, 0, 100000), (25, 0, 100000), (26, 0, 100000), (27, 0, 100000), (28, 0, 100000), (29, 0, 100000), (30, 0, 100000), (31, 0, 100000)] w0 w0 := FE.rf
  have hl := lv_entry ([.ref (ad 39), .ref (ad q1_)]) (n := 2) (Nat.le_of_ble_eq_true rfl)
  rw [lg_entry_eq]
  generalize (lg_sl ([.ref (ad 39), .ref (ad q1_)]) ++ List.replicate (2 - (lg_sl ([.ref (ad 39), .ref (ad q1_)])).length) Slot.unset).toArray = ls at hl ⊢
  have hl : lv_has ls 2 [(0, .ref (ad 39)), (1, .ref (ad q1_))] := hl
  generalize hloc : ([] : List Loc) = locs at hw ⊢
  have hinX7 : ∀ w ∈ u_ws RX7 TX7 12, w ∈ wsX7_copyFrom := fun _ h => List.mem_cons_of_mem _ (List.mem_append_right _ (h))
  refine lv_aload_n hx hb dX7_copyFrom_0 rfl (lv_at hl 1 rfl) ?_
  refine tk_getO hC hK hw hT hinX7 hkq1_ (by decide) rfl 0 (by decide) (List.mem_of_getElem? (i := 1) rfl) rfl rfl dX7_copyFrom_1 ?_
  refine lv_iconst (v := 0) hx hb dX7_copyFrom_4 (by decide) ?_
  refine lv_aload_n hx hb dX7_copyFrom_5 rfl (lv_at hl 0 rfl) ?_
  refine tk_getO hC hK hw hT hinX7 kC_at39 (by decide) rfl 0 (by decide) (List.mem_of_getElem? (i := 1) rfl) rfl rfl dX7_copyFrom_6 ?_
  refine lv_iconst (v := 0) hx hb dX7_copyFrom_9 (by decide) ?_
  refine lv_aload_n hx hb dX7_copyFrom_10 rfl (lv_at hl 0 rfl) ?_
  refine tk_getO hC hK hw hT hinX7 kC_at39 (by decide) rfl 0 (by decide) (List.mem_of_getElem? (i := 1) rfl) rfl rfl dX7_copyFrom_11 ?_
  refine tk_alen (v := 26) hC hK hw hT kC_at40 rfl (by decide) rfl (by decide) dX7_copyFrom_14 ?_
  refine tk_copy hC hK hw hT hl.1 (List.mem_of_getElem? (i := 2) rfl) (List.mem_of_getElem? (i := 3) rfl) (List.mem_of_getElem? (i := 4) rfl) (List.mem_of_getElem? (i := 5) rfl) (kC_7_1 hkq1_) kC_at40 (by decide) rfl rfl rfl rfl (by decide) (by decide) (by decide) (by decide) (by decide) (by decide) (by decide) (by decide) (Nat.le_of_ble_eq_true rfl) (by decide +kernel) dX7_copyFrom_15 (fun H locs w1 hw hT k2 => ?_)
  have hF := hF.tr k2 (by decide)
  refine lv_aload_n hx hb dX7_copyFrom_18 rfl (lv_at hl 1 rfl) ?_
  refine tk_getO hC hK hw hT hinX7 hkq1_ (by decide) rfl 1 (by decide) (List.mem_of_getElem? (i := 6) rfl) rfl rfl dX7_copyFrom_19 ?_
  refine lv_iconst (v := 0) hx hb dX7_copyFrom_22 (by decide) ?_
  refine lv_aload_n hx hb dX7_copyFrom_23 rfl (lv_at hl 0 rfl) ?_
  refine tk_getO hC hK hw hT hinX7 kC_at39 (by decide) rfl 1 (by decide) (List.mem_of_getElem? (i := 6) rfl) rfl rfl dX7_copyFrom_24 ?_
  refine lv_iconst (v := 0) hx hb dX7_copyFrom_27 (by decide) ?_
  refine lv_aload_n hx hb dX7_copyFrom_28 rfl (lv_at hl 0 rfl) ?_
  refine tk_getO hC hK hw hT hinX7 kC_at39 (by decide) rfl 1 (by decide) (List.mem_of_getElem? (i := 6) rfl) rfl rfl dX7_copyFrom_29 ?_
  refine tk_alen (v := 13) hC hK hw hT kC_at41 rfl (by decide) rfl (by decide) dX7_copyFrom_32 ?_
  refine tk_copy hC hK hw hT hl.1 (List.mem_of_getElem? (i := 2) rfl) (List.mem_of_getElem? (i := 3) rfl) (List.mem_of_getElem? (i := 4) rfl) (List.mem_of_getElem? (i := 5) rfl) (kC_7_2 hkq1_) kC_at41 (by decide) rfl rfl rfl rfl (by decide) (by decide) (by decide) (by decide) (by decide) (by decide) (by decide) (by decide) (Nat.le_of_ble_eq_true rfl) (by decide +kernel) dX7_copyFrom_33 (fun H locs w3 hw hT k4 => ?_)
  have hF := hF.tr k4 (by decide)
  refine lv_aload_n hx hb dX7_copyFrom_36 rfl (lv_at hl 1 rfl) ?_
  refine tk_getO hC hK hw hT hinX7 hkq1_ (by decide) rfl 2 (by decide) (List.mem_of_getElem? (i := 7) rfl) rfl rfl dX7_copyFrom_37 ?_
  refine lv_iconst (v := 0) hx hb dX7_copyFrom_40 (by decide) ?_
  refine lv_aload_n hx hb dX7_copyFrom_41 rfl (lv_at hl 0 rfl) ?_
  refine tk_getO hC hK hw hT hinX7 kC_at39 (by decide) rfl 2 (by decide) (List.mem_of_getElem? (i := 7) rfl) rfl rfl dX7_copyFrom_42 ?_
  refine lv_iconst (v := 0) hx hb dX7_copyFrom_45 (by decide) ?_
  refine lv_aload_n hx hb dX7_copyFrom_46 rfl (lv_at hl 0 rfl) ?_
  refine tk_getO hC hK hw hT hinX7 kC_at39 (by decide) rfl 2 (by decide) (List.mem_of_getElem? (i := 7) rfl) rfl rfl dX7_copyFrom_47 ?_
  refine tk_alen (v := 91) hC hK hw hT kC_at42 rfl (by decide) rfl (by decide) dX7_copyFrom_50 ?_
  refine tk_copy hC hK hw hT hl.1 (List.mem_of_getElem? (i := 2) rfl) (List.mem_of_getElem? (i := 3) rfl) (List.mem_of_getElem? (i := 4) rfl) (List.mem_of_getElem? (i := 5) rfl) (kC_7_3 hkq1_) kC_at42 (by decide) rfl rfl rfl rfl (by decide) (by decide) (by decide) (by decide) (by decide) (by decide) (by decide) (by decide) (Nat.le_of_ble_eq_true rfl) (by decide +kernel) dX7_copyFrom_51 (fun H locs w5 hw hT k6 => ?_)
  have hF := hF.tr k6 (by decide)
  refine lv_aload_n hx hb dX7_copyFrom_54 rfl (lv_at hl 1 rfl) ?_
  refine tk_getO hC hK hw hT hinX7 hkq1_ (by decide) rfl 3 (by decide) (List.mem_of_getElem? (i := 8) rfl) rfl rfl dX7_copyFrom_55 ?_
  refine lv_iconst (v := 0) hx hb dX7_copyFrom_58 (by decide) ?_
  refine lv_aload_n hx hb dX7_copyFrom_59 rfl (lv_at hl 0 rfl) ?_
  refine tk_getO hC hK hw hT hinX7 kC_at39 (by decide) rfl 3 (by decide) (List.mem_of_getElem? (i := 8) rfl) rfl rfl dX7_copyFrom_60 ?_
  refine lv_iconst (v := 0) hx hb dX7_copyFrom_63 (by decide) ?_
  refine lv_aload_n hx hb dX7_copyFrom_64 rfl (lv_at hl 0 rfl) ?_
  refine tk_getO hC hK hw hT hinX7 kC_at39 (by decide) rfl 3 (by decide) (List.mem_of_getElem? (i := 8) rfl) rfl rfl dX7_copyFrom_65 ?_
  refine tk_alen (v := 13) hC hK hw hT kC_at43 rfl (by decide) rfl (by decide) dX7_copyFrom_68 ?_
  refine tk_copy hC hK hw hT hl.1 (List.mem_of_getElem? (i := 2) rfl) (List.mem_of_getElem? (i := 3) rfl) (List.mem_of_getElem? (i := 4) rfl) (List.mem_of_getElem? (i := 5) rfl) (kC_7_4 hkq1_) kC_at43 (by decide) rfl rfl rfl rfl (by decide) (by decide) (by decide) (by decide) (by decide) (by decide) (by decide) (by decide) (Nat.le_of_ble_eq_true rfl) (by decide +kernel) dX7_copyFrom_69 (fun H locs w7 hw hT k8 => ?_)
  have hF := hF.tr k8 (by decide)
  refine lv_aload_n hx hb dX7_copyFrom_72 rfl (lv_at hl 1 rfl) ?_
  refine tk_getO hC hK hw hT hinX7 hkq1_ (by decide) rfl 4 (by decide) (List.mem_of_getElem? (i := 9) rfl) rfl rfl dX7_copyFrom_73 ?_
  refine lv_iconst (v := 0) hx hb dX7_copyFrom_76 (by decide) ?_
  refine lv_aload_n hx hb dX7_copyFrom_77 rfl (lv_at hl 0 rfl) ?_
  refine tk_getO hC hK hw hT hinX7 kC_at39 (by decide) rfl 4 (by decide) (List.mem_of_getElem? (i := 9) rfl) rfl rfl dX7_copyFrom_78 ?_
  refine lv_iconst (v := 0) hx hb dX7_copyFrom_81 (by decide) ?_
  refine lv_aload_n hx hb dX7_copyFrom_82 rfl (lv_at hl 0 rfl) ?_
  refine tk_getO hC hK hw hT hinX7 kC_at39 (by decide) rfl 4 (by decide) (List.mem_of_getElem? (i := 9) rfl) rfl rfl dX7_copyFrom_83 ?_
  refine tk_alen (v := 26) hC hK hw hT kC_at44 rfl (by decide) rfl (by decide) dX7_copyFrom_86 ?_
  refine tk_copy hC hK hw hT hl.1 (List.mem_of_getElem? (i := 2) rfl) (List.mem_of_getElem? (i := 3) rfl) (List.mem_of_getElem? (i := 4) rfl) (List.mem_of_getElem? (i := 5) rfl) (kC_7_5 hkq1_) kC_at44 (by decide) rfl rfl rfl rfl (by decide) (by decide) (by decide) (by decide) (by decide) (by decide) (by decide) (by decide) (Nat.le_of_ble_eq_true rfl) (by decide +kernel) dX7_copyFrom_87 (fun H locs w9 hw hT k10 => ?_)
  have hF := hF.tr k10 (by decide)
  refine lv_aload_n hx hb dX7_copyFrom_90 rfl (lv_at hl 1 rfl) ?_
  refine tk_getO hC hK hw hT hinX7 hkq1_ (by decide) rfl 5 (by decide) (List.mem_of_getElem? (i := 10) rfl) rfl rfl dX7_copyFrom_91 ?_
  refine lv_iconst (v := 0) hx hb dX7_copyFrom_94 (by decide) ?_
  refine lv_aload_n hx hb dX7_copyFrom_95 rfl (lv_at hl 0 rfl) ?_
  refine tk_getO hC hK hw hT hinX7 kC_at39 (by decide) rfl 5 (by decide) (List.mem_of_getElem? (i := 10) rfl) rfl rfl dX7_copyFrom_96 ?_
  refine lv_iconst (v := 0) hx hb dX7_copyFrom_99 (by decide) ?_
  refine lv_aload_n hx hb dX7_copyFrom_100 rfl (lv_at hl 0 rfl) ?_
  refine tk_getO hC hK hw hT hinX7 kC_at39 (by decide) rfl 5 (by decide) (List.mem_of_getElem? (i := 10) rfl) rfl rfl dX7_copyFrom_101 ?_
  refine tk_alen (v := 8) hC hK hw hT kC_at45 rfl (by decide) rfl (by decide) dX7_copyFrom_104 ?_
  refine tk_copy hC hK hw hT hl.1 (List.mem_of_getElem? (i := 2) rfl) (List.mem_of_getElem? (i := 3) rfl) (List.mem_of_getElem? (i := 4) rfl) (List.mem_of_getElem? (i := 5) rfl) (kC_7_6 hkq1_) kC_at45 (by decide) rfl rfl rfl rfl (by decide) (by decide) (by decide) (by decide) (by decide) (by decide) (by decide) (by decide) (Nat.le_of_ble_eq_true rfl) (by decide +kernel) dX7_copyFrom_105 (fun H locs w11 hw hT k12 => ?_)
  have hF := hF.tr k12 (by decide)
  refine lv_aload_n hx hb dX7_copyFrom_108 rfl (lv_at hl 1 rfl) ?_
  refine tk_getO hC hK hw hT hinX7 hkq1_ (by decide) rfl 6 (by decide) (List.mem_of_getElem? (i := 11) rfl) rfl rfl dX7_copyFrom_109 ?_
  refine lv_iconst (v := 0) hx hb dX7_copyFrom_112 (by decide) ?_
  refine lv_aload_n hx hb dX7_copyFrom_113 rfl (lv_at hl 0 rfl) ?_
  refine tk_getO hC hK hw hT hinX7 kC_at39 (by decide) rfl 6 (by decide) (List.mem_of_getElem? (i := 11) rfl) rfl rfl dX7_copyFrom_114 ?_
  refine lv_iconst (v := 0) hx hb dX7_copyFrom_117 (by decide) ?_
  refine lv_aload_n hx hb dX7_copyFrom_118 rfl (lv_at hl 0 rfl) ?_
  refine tk_getO hC hK hw hT hinX7 kC_at39 (by decide) rfl 6 (by decide) (List.mem_of_getElem? (i := 11) rfl) rfl rfl dX7_copyFrom_119 ?_
  refine tk_alen (v := 8) hC hK hw hT kC_at46 rfl (by decide) rfl (by decide) dX7_copyFrom_122 ?_
  refine tk_copy hC hK hw hT hl.1 (List.mem_of_getElem? (i := 2) rfl) (List.mem_of_getElem? (i := 3) rfl) (List.mem_of_getElem? (i := 4) rfl) (List.mem_of_getElem? (i := 5) rfl) (kC_7_7 hkq1_) kC_at46 (by decide) rfl rfl rfl rfl (by decide) (by decide) (by decide) (by decide) (by decide) (by decide) (by decide) (by decide) (Nat.le_of_ble_eq_true rfl) (by decide +kernel) dX7_copyFrom_123 (fun H locs w13 hw hT k14 => ?_)
  have hF := hF.tr k14 (by decide)
  refine lv_aload_n hx hb dX7_copyFrom_126 rfl (lv_at hl 1 rfl) ?_
  refine tk_getO hC hK hw hT hinX7 hkq1_ (by decide) rfl 7 (by decide) (List.mem_of_getElem? (i := 12) rfl) rfl rfl dX7_copyFrom_127 ?_
  refine lv_iconst (v := 0) hx hb dX7_copyFrom_130 (by decide) ?_
  refine lv_aload_n hx hb dX7_copyFrom_131 rfl (lv_at hl 0 rfl) ?_
  refine tk_getO hC hK hw hT hinX7 kC_at39 (by decide) rfl 7 (by decide) (List.mem_of_getElem? (i := 12) rfl) rfl rfl dX7_copyFrom_132 ?_
  refine lv_iconst (v := 0) hx hb dX7_copyFrom_135 (by decide) ?_
  refine lv_aload_n hx hb dX7_copyFrom_136 rfl (lv_at hl 0 rfl) ?_
  refine tk_getO hC hK hw hT hinX7 kC_at39 (by decide) rfl 7 (by decide) (List.mem_of_getElem? (i := 12) rfl) rfl rfl dX7_copyFrom_137 ?_
  refine tk_alen (v := 13) hC hK hw hT kC_at47 rfl (by decide) rfl (by decide) dX7_copyFrom_140 ?_
  refine tk_copy hC hK hw hT hl.1 (List.mem_of_getElem? (i := 2) rfl) (List.mem_of_getElem? (i := 3) rfl) (List.mem_of_getElem? (i := 4) rfl) (List.mem_of_getElem? (i := 5) rfl) (kC_7_8 hkq1_) kC_at47 (by decide) rfl rfl rfl rfl (by decide) (by decide) (by decide) (by decide) (by decide) (by decide) (by decide) (by decide) (Nat.le_of_ble_eq_true rfl) (by decide +kernel) dX7_copyFrom_141 (fun H locs w15 hw hT k16 => ?_)
  have hF := hF.tr k16 (by decide)
  refine lv_aload_n hx hb dX7_copyFrom_144 rfl (lv_at hl 0 rfl) ?_
  refine lv_aload_n hx hb dX7_copyFrom_145 rfl (lv_at hl 1 rfl) ?_
  refine tk_geti hC hK hw hT hinX7 hkq1_ (by decide) rfl 8 (by decide) (List.mem_of_getElem? (i := 13) rfl) rfl rfl dX7_copyFrom_146 (fun x17 c18 rx17 tx17 => ?_)
  refine tk_puti hC hK hw hT hinX7 tyX7_ok nmX7 kC_at39 (by decide) rfl rfl 8 (by decide) (List.mem_of_getElem? (i := 13) rfl) rfl rfl rfl rfl (show (-1) ≤ x17.toInt by omega) (show x17.toInt ≤ 10 by omega) dX7_copyFrom_149 (fun H locs w19 hw hT k21 c20 => ?_)
  have hF := hF.put kC_at39 (k := 8) (by decide) k21
  refine lv_aload_n hx hb dX7_copyFrom_152 rfl (lv_at hl 0 rfl) ?_
  refine lv_aload_n hx hb dX7_copyFrom_153 rfl (lv_at hl 1 rfl) ?_
  refine tk_geti hC hK hw hT hinX7 hkq1_ (by decide) rfl 9 (by decide) (List.mem_of_getElem? (i := 14) rfl) rfl rfl dX7_copyFrom_154 (fun x22 c23 rx22 tx22 => ?_)
  refine tk_puti hC hK hw hT hinX7 tyX7_ok nmX7 kC_at39 (by decide) rfl rfl 9 (by decide) (List.mem_of_getElem? (i := 14) rfl) rfl rfl rfl rfl (show 0 ≤ x22.toInt by omega) (show x22.toInt ≤ 12 by omega) dX7_copyFrom_157 (fun H locs w24 hw hT k26 c25 => ?_)
  have hF := hF.put kC_at39 (k := 9) (by decide) k26
  have c27 := k26.gi (Or.inr (by decide)) c20
  refine lv_aload_n hx hb dX7_copyFrom_160 rfl (lv_at hl 0 rfl) ?_
  refine lv_aload_n hx hb dX7_copyFrom_161 rfl (lv_at hl 1 rfl) ?_
  refine tk_geti hC hK hw hT hinX7 hkq1_ (by decide) rfl 10 (by decide) (List.mem_of_getElem? (i := 15) rfl) rfl rfl dX7_copyFrom_162 (fun x28 c29 rx28 tx28 => ?_)
  refine tk_puti hC hK hw hT hinX7 tyX7_ok nmX7 kC_at39 (by decide) rfl rfl 10 (by decide) (List.mem_of_getElem? (i := 15) rfl) rfl rfl rfl rfl (show 0 ≤ x28.toInt by omega) (show x28.toInt ≤ 8 by omega) dX7_copyFrom_165 (fun H locs w30 hw hT k32 c31 => ?_)
  have hF := hF.put kC_at39 (k := 10) (by decide) k32
  have c33 := k32.gi (Or.inr (by decide)) c27
  have c34 := k32.gi (Or.inr (by decide)) c25
  refine lv_aload_n hx hb dX7_copyFrom_168 rfl (lv_at hl 0 rfl) ?_
  refine lv_aload_n hx hb dX7_copyFrom_169 rfl (lv_at hl 1 rfl) ?_
  refine tk_geti hC hK hw hT hinX7 hkq1_ (by decide) rfl 11 (by decide) (List.mem_of_getElem? (i := 16) rfl) rfl rfl dX7_copyFrom_170 (fun x35 c36 rx35 tx35 => ?_)
  refine tk_puti hC hK hw hT hinX7 tyX7_ok nmX7 kC_at39 (by decide) rfl rfl 11 (by decide) (List.mem_of_getElem? (i := 16) rfl) rfl rfl rfl rfl (show 0 ≤ x35.toInt by omega) (show x35.toInt ≤ 4 by omega) dX7_copyFrom_173 (fun H locs w37 hw hT k39 c38 => ?_)
  have hF := hF.put kC_at39 (k := 11) (by decide) k39
  have c40 := k39.gi (Or.inr (by decide)) c33
  have c41 := k39.gi (Or.inr (by decide)) c34
  have c42 := k39.gi (Or.inr (by decide)) c31
  exact tk_vret hC hr hlocks hK ⟨hT, hF, trivial⟩ hw dX7_copyFrom_176
