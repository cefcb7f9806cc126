abbrev P_X12_soonest_1 (ad : Nat → Nat) (cy : Nat → ClassId) (B : Int) (qr : Nat) (s1 : Int) (a1 : Int32) (a2 : Int32) (a3 : Int32) (w0 : va_W) : Int32 → va_W → Prop := fun r u => TW ksM ad cy B qr 12 u ∧ FE ksM [(77, 0, 10), (78, 0, 10)] w0 u ∧ ((r = (-2) ∧ 0 ≤ a1.toInt ∧ a1.toInt ≤ 9 ∧ 0 ≤ a2.toInt ∧ a2.toInt ≤ 9 ∧ 0 ≤ a3.toInt ∧ a3.toInt ≤ 99999 ∧ (∃ y : Int32, gi u 12 0 = y ∧ 1 ≤ y.toInt ∧ y.toInt ≤ 10)) ∨ (0 ≤ r.toInt ∧ r.toInt ≤ 100000100 ∧ 0 ≤ a1.toInt ∧ a1.toInt ≤ 9 ∧ 0 ≤ a2.toInt ∧ a2.toInt ≤ 9 ∧ 0 ≤ a3.toInt ∧ a3.toInt ≤ 99999 ∧ (∃ y : Int32, gi u 12 0 = y ∧ 1 ≤ y.toInt ∧ y.toInt ≤ 10)) ∨ (r = (-1)))
set_option maxHeartbeats 4000000 in
set_option maxRecDepth 100000 in
theorem k_X12_soonest_1 (l : Launch) (adK adV : Nat → Nat) (dC : Nat → ClassId) (dI : Nat → Nat → Nat) (cy : Nat → ClassId) (ad : Nat → Nat) (B : Int) (hB0 : 100000 ≤ B) (hB1 : B ≤ 1073741824) (qr : Nat) (s1 : Int)  (a1 : Int32) (a2 : Int32) (a3 : Int32) (w0 : va_W) (sz : Nat) (hT : TW ksM ad cy B qr 12 w0)  : Met l yX12_soonest wsX12_soonest ({ frames := 6, cells := 0, slots := 0, locals := 133 }) (va_Pc [.ref (ad 0), .int a1, .int a2, .int a3] (wpreS adK adV dC dI cy sz w0)) (va_Qi (P_X12_soonest_1 ad cy B qr s1 a1 a2 a3 w0) (fun u : va_W => wpost dC dI cy (va_A w0 sz) u) (va_A w0 sz)) 0 0 (va_A w0 sz) := by
  refine Met.ofW (cc := cX12_soonest) (maxL := 5) (ret := (some .int)) (by decide) rfl ?_
  intro p e s m args below meth c s₁ Bk hml hv
  obtain ⟨rfl, ⟨hsz, hP, hK, hD0⟩, hE, hSR⟩ := hv
  have hx := Bk.exec
  have hb := Bk.bytes
  have hr := Bk.returns
  have hlocks := Bk.notSynchronized
  have hC : CallFix p m c cX12_soonest 5 s _ wsX12_soonest RX12 := ⟨hx, hb, hml, findClass_of_methodNamed Bk.named, atoms_spec (ws := wsX12_soonest) Bk.pre⟩
  subst hsz
  have hD := hD0.self (sz := s.heap.size)
  generalize hAe : va_A w0 s.heap.size = A at hD hE ⊢
  have hA : ∀ q : Nat, s.heap.size ≤ q → A q := fun q h => by rw [← hAe]; exact Or.inr h
  have hw : Wd dC dI A s.heap s.heap [] w0 := ⟨hP, hD, va_S.rf⟩
  have hF : FE ksM [(77, 0, 10), (78, 0, 10)] w0 w0 := FE.rf
  have hl := lv_entry ([.ref (ad 0), .int a1, .int a2, .int a3]) (n := 5) (Nat.le_of_ble_eq_true rfl)
  rw [lg_entry_eq]
  generalize (lg_sl ([.ref (ad 0), .int a1, .int a2, .int a3]) ++ List.replicate (5 - (lg_sl ([.ref (ad 0), .int a1, .int a2, .int a3])).length) Slot.unset).toArray = ls at hl ⊢
  have hl : lv_has ls 5 [(0, .ref (ad 0)), (1, .int a1), (2, .int a2), (3, .int a3)] := hl
  generalize hloc : ([] : List Loc) = locs at hw ⊢
  refine lv_aload_n hx hb dX12_soonest_0 rfl (lv_at hl 0 rfl) ?_
  refine lv_iload_n hx hb dX12_soonest_1 rfl (lv_at hl 1 rfl) ?_
  refine lv_iload_n hx hb dX12_soonest_2 rfl (lv_at hl 2 rfl) ?_
  refine lv_iload_n hx hb dX12_soonest_3 rfl (lv_at hl 3 rfl) ?_
  refine tk_Vi hC hK hw hT hA hE hSR kM_at0 (by decide) rfl (k_X12_canLook_1 l adK adV dC dI cy ad B (by omega) (by omega) qr s1   a1 a2 a3 w0 s.heap.size hT ) (cwV 3 hC.2.2.2.2 gX12_soonest_X12_canLook rfl rfl rfl (by decide +kernel) ⟨Nat.le_of_ble_eq_true rfl, Nat.le_of_ble_eq_true rfl⟩) rfl hl.1 rfl (Nat.le_of_ble_eq_true rfl) dX12_soonest_4 (fun r1 w3 H locs hp2 hw => ?_)
  obtain ⟨hT, k4, hg13⟩ := hp2
  have hF := hF.tr k4 (by decide)
  rcases hg13 with rfl | ⟨rfl, g5, g6, g7, g8, g9, g10, ⟨x11, c12, rx11, tx11⟩⟩
  · refine lv_if_ne (tgt := 12) hx hb dX12_soonest_7 (by decide) (fun c => absurd (by decide) c) (fun _ => ?_)
    refine lv_iconst (v := (-1)) hx hb dX12_soonest_10 (by decide) ?_
    exact tk_iret hC hr hlocks hK ⟨hT, hF, (Or.inr (Or.inr rfl))⟩ hw dX12_soonest_11
  · refine lv_if_ne (tgt := 12) hx hb dX12_soonest_7 (by decide) (fun _ => ?_) (fun c => absurd c (by decide))
    refine lv_aload_n hx hb dX12_soonest_12 rfl (lv_at hl 0 rfl) ?_
    refine lv_iload_n hx hb dX12_soonest_13 rfl (lv_at hl 1 rfl) ?_
    refine lv_iload_n hx hb dX12_soonest_14 rfl (lv_at hl 2 rfl) ?_
    refine lv_iload_n hx hb dX12_soonest_15 rfl (lv_at hl 3 rfl) ?_
    refine lv_iload_n hx hb dX12_soonest_16 rfl (lv_at hl 3 rfl) ?_
    refine lv_sipush (v := 2000) hx hb dX12_soonest_17 (by decide) ?_
    refine lv_iadd hx hb dX12_soonest_20 ?_
    refine lv_topi (fun x14 ex14 => ?_)
    have ex14 : x14.toInt = a3.toInt + (2000 : Int) := by rw [ex14]; exact wk_add (show (-2147483648) ≤ a3.toInt + (2000 : Int) by omega) (show a3.toInt + (2000 : Int) ≤ 2147483647 by omega)
    refine tk_Vi hC hK hw hT hA hE hSR kM_at0 (by decide) rfl (k_X12_reaches_1 l adK adV dC dI cy ad B (by omega) (by omega) qr s1   a1 (show 0 ≤ a1.toInt by omega) (show a1.toInt ≤ 9 by omega) a2 (show 0 ≤ a2.toInt by omega) (show a2.toInt ≤ 9 by omega) a3 (show 0 ≤ a3.toInt by omega) (show a3.toInt ≤ 99999 by omega) x14 (show 2000 ≤ x14.toInt by omega) (show x14.toInt ≤ 101999 by omega) w3 H.size hT ) (cwV 4 hC.2.2.2.2 gX12_soonest_X12_reaches rfl rfl rfl (by decide +kernel) ⟨Nat.le_of_ble_eq_true rfl, Nat.le_of_ble_eq_true rfl⟩) rfl hl.1 rfl (Nat.le_of_ble_eq_true rfl) dX12_soonest_21 (fun r15 w17 H locs hp16 hw => ?_)
    obtain ⟨hT, k18, hg21⟩ := hp16
    have hF := hF.tr k18 (by decide)
    have c22 := k18.gi kM_at12 (by decide) c12
    obtain ⟨g19, g20⟩ := hg21
    refine lv_istore (lv' := [(4, .int r15), (0, .ref (ad 0)), (1, .int a1), (2, .int a2), (3, .int a3)]) hx hb dX12_soonest_24 hl (by decide) rfl (fun ls hl => ?_)
    refine lv_iload hx hb dX12_soonest_26 (lv_at hl 0 rfl) ?_
    refine lv_ldcw (v := 100000000) hx hb hC.2.2.2.1 (hC.2.2.2.2 _ (List.mem_of_getElem? (i := 1) rfl)) dX12_soonest_28 ?_
    refine lv_icmp_ne (tgt := 39) hx hb dX12_soonest_31 (by decide) (fun c23 => ?_) (fun c23 => ?_)
    · have c23 : ¬ r15.toInt = (100000000 : Int) := wk_eqF c23
      refine lv_iload hx hb dX12_soonest_39 (lv_at hl 0 rfl) ?_
      exact tk_iret hC hr hlocks hK ⟨hT, hF, (Or.inr (Or.inl ⟨(show 0 ≤ r15.toInt by omega), (show r15.toInt ≤ 100000100 by omega), (show 0 ≤ a1.toInt by omega), (show a1.toInt ≤ 9 by omega), (show 0 ≤ a2.toInt by omega), (show a2.toInt ≤ 9 by omega), (show 0 ≤ a3.toInt by omega), (show a3.toInt ≤ 99999 by omega), ⟨x11, c22, (show 1 ≤ x11.toInt by omega), (show x11.toInt ≤ 10 by omega)⟩⟩))⟩ hw dX12_soonest_41
    · have c23 : r15.toInt = (100000000 : Int) := wk_eq.mp c23
      refine lv_bipush (v := (-2)) hx hb dX12_soonest_34 (by decide) ?_
      refine lv_goto (tgt := 41) hx hb dX12_soonest_36 (by decide) ?_
      exact tk_iret hC hr hlocks hK ⟨hT, hF, (Or.inl ⟨rfl, (show 0 ≤ a1.toInt by omega), (show a1.toInt ≤ 9 by omega), (show 0 ≤ a2.toInt by omega), (show a2.toInt ≤ 9 by omega), (show 0 ≤ a3.toInt by omega), (show a3.toInt ≤ 99999 by omega), ⟨x11, c22, (show 1 ≤ x11.toInt by omega), (show x11.toInt ≤ 10 by omega)⟩⟩)⟩ hw dX12_soonest_41
abbrev P_X12_isAt_2 (ad : Nat → Nat) (cy : Nat → ClassId) (B : Int) (qr : Nat) (s1 : Int) (a1 : Int32) (a2 : Int32) (w0 : va_W) : Int32 → va_W → Prop := fun r u => TW ksM ad cy B qr 12 u ∧ FE ksM ([] : List (Nat × Nat × Nat)) w0 u ∧ ((r = 0) ∨ (r = 1 ∧ a2.toInt ≤ 9))
set_option maxHeartbeats 4000000 in
set_option maxRecDepth 100000 in
theorem k_X12_isAt_2 (l : Launch) (adK adV : Nat → Nat) (dC : Nat → ClassId) (dI : Nat → Nat → Nat) (cy : Nat → ClassId) (ad : Nat → Nat) (B : Int) (hB0 : 100000 ≤ B) (hB1 : B ≤ 1073741824) (qr : Nat) (s1 : Int)  (a1 : Int32) (ra1 : 0 ≤ a1.toInt) (ta1 : a1.toInt ≤ 11) (a2 : Int32) (ra2 : 0 ≤ a2.toInt) (ta2 : a2.toInt ≤ 12) (w0 : va_W) (sz : Nat) (hT : TW ksM ad cy B qr 12 w0)  : Met l yX12_isAt wsX12_isAt ({ frames := 2, cells := 0, slots := 0, locals := 34 }) (va_Pc [.ref (ad 0), .int a1, .int a2] (wpreS adK adV dC dI cy sz w0)) (va_Qi (P_X12_isAt_2 ad cy B qr s1 a1 a2 w0) (fun u : va_W => wpost dC dI cy (va_A w0 sz) u) (va_A w0 sz)) 0 0 (va_A w0 sz) := by
  refine Met.ofW (cc := cX12_isAt) (maxL := 3) (ret := (some .boolean)) (by decide) rfl ?_
  intro p e s m args below meth c s₁ Bk hml hv
  obtain ⟨rfl, ⟨hsz, hP, hK, hD0⟩, hE, hSR⟩ := hv
  have hx := Bk.exec
  have hb := Bk.bytes
  have hr := Bk.returns
  have hlocks := Bk.notSynchronized
  have hC : CallFix p m c cX12_isAt 3 s _ wsX12_isAt RX12 := ⟨hx, hb, hml, findClass_of_methodNamed Bk.named, atoms_spec (ws := wsX12_isAt) Bk.pre⟩
  subst hsz
  have hD := hD0.self (sz := s.heap.size)
  generalize hAe : va_A w0 s.heap.size = A at hD hE ⊢
  have hA : ∀ q : Nat, s.heap.size ≤ q → A q := fun q h => by rw [← hAe]; exact Or.inr h
  have hw : Wd dC dI A s.heap s.heap [] w0 := ⟨hP, hD, va_S.rf⟩
  have hF : FE ksM ([] : List (Nat × Nat × Nat)) w0 w0 := FE.rf
  have hl := lv_entry ([.ref (ad 0), .int a1, .int a2]) (n := 3) (Nat.le_of_ble_eq_true rfl)
  rw [lg_entry_eq]
  generalize (lg_sl ([.ref (ad 0), .int a1, .int a2]) ++ List.replicate (3 - (lg_sl ([.ref (ad 0), .int a1, .int a2])).length) Slot.unset).toArray = ls at hl ⊢
  have hl : lv_has ls 3 [(0, .ref (ad 0)), (1, .int a1), (2, .int a2)] := hl
  generalize hloc : ([] : List Loc) = locs at hw ⊢
  have J20 : ∀ (f20_12__10_a1_toInt_10_toNat : Int32) (H : Heap) (locs : List Loc) (ls : Array Slot) (w1 : va_W), 0 ≤ a1.toInt → a1.toInt ≤ 11 → 0 ≤ a2.toInt → a2.toInt ≤ 9 → 0 ≤ f20_12__10_a1_toInt_10_toNat.toInt → f20_12__10_a1_toInt_10_toNat.toInt ≤ 9 → Wd dC dI A s.heap H locs w1 → TW ksM ad cy B qr 12 w1 → FE ksM ([] : List (Nat × Nat × Nat)) w0 w1 → gi w1 12 (10 * a1.toInt + 10).toNat = f20_12__10_a1_toInt_10_toNat → lv_has ls 3 [(0, .ref (ad 0)), (1, .int a1), (2, .int a2)] → W p l e ({ frames := 2, cells := 0, slots := 0, locals := 34 }) s m (List.toArray [.ref (ad 0), .int a1, .int a2]) below meth c H locs 0 0 (MQ below (va_Qi (P_X12_isAt_2 ad cy B qr s1 a1 a2 w0) (fun u : va_W => wpost dC dI cy A u) A) (List.toArray [.ref (ad 0), .int a1, .int a2]) s 0 0 A) (F0 m 20 ls []) := by
    intro f20_12__10_a1_toInt_10_toNat H locs ls w1 r2 t3 r4 t5 r6 t7 hw hT hF c8 hl
    refine lv_iconst (v := 1) hx hb dX12_isAt_20 (by decide) ?_
    refine lv_goto (tgt := 25) hx hb dX12_isAt_21 (by decide) ?_
    exact tk_zret hC hr rfl hlocks hK ⟨hT, hF, (Or.inr ⟨rfl, (show a2.toInt ≤ 9 by omega)⟩)⟩ hw dX12_isAt_25
  refine lv_aload_n hx hb dX12_isAt_0 rfl (lv_at hl 0 rfl) ?_
  refine lv_iload_n hx hb dX12_isAt_1 rfl (lv_at hl 1 rfl) ?_
  refine lv_iconst (v := 0) hx hb dX12_isAt_2 (by decide) ?_
  refine tk_Vi hC hK hw hT hA hE hSR kM_at0 (by decide) rfl (k_X12_streetOf_2 l adK adV dC dI cy ad B (by omega) (by omega) qr s1   a1 (show 0 ≤ a1.toInt by omega) (show a1.toInt ≤ 11 by omega) w0 s.heap.size hT ) (cwV 2 hC.2.2.2.2 gX12_isAt_X12_streetOf rfl rfl rfl (by decide +kernel) ⟨Nat.le_of_ble_eq_true rfl, Nat.le_of_ble_eq_true rfl⟩) rfl hl.1 rfl (Nat.le_of_ble_eq_true rfl) dX12_isAt_3 (fun r9 w11 H locs hp10 hw => ?_)
  obtain ⟨hT, k12, hg16⟩ := hp10
  have hF := hF.tr k12 (by decide)
  obtain ⟨g13, g14, c15⟩ := hg16
  refine lv_iload_n hx hb dX12_isAt_6 rfl (lv_at hl 2 rfl) ?_
  refine lv_icmp_eq (tgt := 20) hx hb dX12_isAt_7 (by decide) (fun c17 => ?_) (fun c17 => ?_)
  · have c17 : r9.toInt = a2.toInt := wk_eq.mp c17
    exact J20 r9 H locs ls w11 (show 0 ≤ a1.toInt by omega) (show a1.toInt ≤ 11 by omega) (show 0 ≤ a2.toInt by omega) (show a2.toInt ≤ 9 by omega) (show 0 ≤ r9.toInt by omega) (show r9.toInt ≤ 9 by omega)  hw hT hF c15 (lv_sub hl [0, 1, 2] rfl)
  · have c17 : ¬ r9.toInt = a2.toInt := wk_eqF c17
    refine lv_aload_n hx hb dX12_isAt_10 rfl (lv_at hl 0 rfl) ?_
    refine lv_iload_n hx hb dX12_isAt_11 rfl (lv_at hl 1 rfl) ?_
    refine lv_iconst (v := 1) hx hb dX12_isAt_12 (by decide) ?_
    refine tk_Vi hC hK hw hT hA hE hSR kM_at0 (by decide) rfl (k_X12_streetOf_3 l adK adV dC dI cy ad B (by omega) (by omega) qr s1   a1 (show 0 ≤ a1.toInt by omega) (show a1.toInt ≤ 11 by omega) w11 H.size hT ) (cwV 2 hC.2.2.2.2 gX12_isAt_X12_streetOf rfl rfl rfl (by decide +kernel) ⟨Nat.le_of_ble_eq_true rfl, Nat.le_of_ble_eq_true rfl⟩) rfl hl.1 rfl (Nat.le_of_ble_eq_true rfl) dX12_isAt_13 (fun r18 w20 H locs hp19 hw => ?_)
    obtain ⟨hT, k21, hg25⟩ := hp19
    have hF := hF.tr k21 (by decide)
    have c26 := k21.gi kM_at12 rfl c15
    obtain ⟨g22, g23, c24⟩ := hg25
    refine lv_iload_n hx hb dX12_isAt_16 rfl (lv_at hl 2 rfl) ?_
    refine lv_icmp_ne (tgt := 24) hx hb dX12_isAt_17 (by decide) (fun c27 => ?_) (fun c27 => ?_)
    · have c27 : ¬ r18.toInt = a2.toInt := wk_eqF c27
      refine lv_iconst (v := 0) hx hb dX12_isAt_24 (by decide) ?_
      exact tk_zret hC hr rfl hlocks hK ⟨hT, hF, (Or.inl rfl)⟩ hw dX12_isAt_25
    · have c27 : r18.toInt = a2.toInt := wk_eq.mp c27
      exact J20 r9 H locs ls w20 (show 0 ≤ a1.toInt by omega) (show a1.toInt ≤ 11 by omega) (show 0 ≤ a2.toInt by omega) (show a2.toInt ≤ 9 by omega) (show 0 ≤ r9.toInt by omega) (show r9.toInt ≤ 9 by omega)  hw hT hF c26 (lv_sub hl [0, 1, 2] rfl)
abbrev P_X12_isDayFor_3 (ad : Nat → Nat) (cy : Nat → ClassId) (B : Int) (qr : Nat) (s1 : Int) (a1 : Int32) (a2 : Int32) (a3 : Int32) (w0 : va_W) : Int32 → va_W → Prop := fun r u => TW ksM ad cy B qr 12 u ∧ FE ksM ([] : List (Nat × Nat × Nat)) w0 u ∧ ((r = 0) ∨ (r = 0 ∧ gi u 12 (10 * a1.toInt + 10).toNat = a2) ∨ (r = 1) ∨ (r = 1 ∧ gi u 12 (10 * a1.toInt + 10).toNat = a2))
set_option maxHeartbeats 4000000 in
set_option maxRecDepth 100000 in
theorem k_X12_isDayFor_3 (l : Launch) (adK adV : Nat → Nat) (dC : Nat → ClassId) (dI : Nat → Nat → Nat) (cy : Nat → ClassId) (ad : Nat → Nat) (B : Int) (hB0 : 100000 ≤ B) (hB1 : B ≤ 1073741824) (qr : Nat) (s1 : Int)  (a1 : Int32) (ra1 : 0 ≤ a1.toInt) (ta1 : a1.toInt ≤ 11) (a2 : Int32) (ra2 : 0 ≤ a2.toInt) (ta2 : a2.toInt ≤ 9) (a3 : Int32) (ra3 : 0 ≤ a3.toInt) (ta3 : a3.toInt ≤ 4166670) (w0 : va_W) (sz : Nat) (hT : TW ksM ad cy B qr 12 w0)  : Met l yX12_isDayFor wsX12_isDayFor ({ frames := 3, cells := 0, slots := 0, locals := 57 }) (va_Pc [.ref (ad 0), .int a1, .int a2, .int a3] (wpreS adK adV dC dI cy sz w0)) (va_Qi (P_X12_isDayFor_3 ad cy B qr s1 a1 a2 a3 w0) (fun u : va_W => wpost dC dI cy (va_A w0 sz) u) (va_A w0 sz)) 0 0 (va_A w0 sz) := by
  refine Met.ofW (cc := cX12_isDayFor) (maxL := 4) (ret := (some .boolean)) (by decide) rfl ?_
  intro p e s m args below meth c s₁ Bk hml hv
  obtain ⟨rfl, ⟨hsz, hP, hK, hD0⟩, hE, hSR⟩ := hv
  have hx := Bk.exec
  have hb := Bk.bytes
  have hr := Bk.returns
  have hlocks := Bk.notSynchronized
  have hC : CallFix p m c cX12_isDayFor 4 s _ wsX12_isDayFor RX12 := ⟨hx, hb, hml, findClass_of_methodNamed Bk.named, atoms_spec (ws := wsX12_isDayFor) Bk.pre⟩
  subst hsz
  have hD := hD0.self (sz := s.heap.size)
  generalize hAe : va_A w0 s.heap.size = A at hD hE ⊢
  have hA : ∀ q : Nat, s.heap.size ≤ q → A q := fun q h => by rw [← hAe]; exact Or.inr h
  have hw : Wd dC dI A s.heap s.heap [] w0 := ⟨hP, hD, va_S.rf⟩
  have hF : FE ksM ([] : List (Nat × Nat × Nat)) w0 w0 := FE.rf
  have hl := lv_entry ([.ref (ad 0), .int a1, .int a2, .int a3]) (n := 4) (Nat.le_of_ble_eq_true rfl)
  rw [lg_entry_eq]
  generalize (lg_sl ([.ref (ad 0), .int a1, .int a2, .int a3]) ++ List.replicate (4 - (lg_sl ([.ref (ad 0), .int a1, .int a2, .int a3])).length) Slot.unset).toArray = ls at hl ⊢
  have hl : lv_has ls 4 [(0, .ref (ad 0)), (1, .int a1), (2, .int a2), (3, .int a3)] := hl
  generalize hloc : ([] : List Loc) = locs at hw ⊢
  have J62 : ∀ (f62_12__10_a1_toInt_10_toNat : Int32) (f62_12_2 : Int32) (H : Heap) (locs : List Loc) (ls : Array Slot) (w1 : va_W), 0 ≤ a1.toInt → a1.toInt ≤ 11 → 0 ≤ a2.toInt → a2.toInt ≤ 9 → 0 ≤ a3.toInt → a3.toInt ≤ 4166670 → 0 ≤ f62_12__10_a1_toInt_10_toNat.toInt → f62_12__10_a1_toInt_10_toNat.toInt ≤ 9 → 1 ≤ f62_12_2.toInt → f62_12_2.toInt ≤ 8 → Wd dC dI A s.heap H locs w1 → TW ksM ad cy B qr 12 w1 → FE ksM ([] : List (Nat × Nat × Nat)) w0 w1 → gi w1 0 27 = 1 → gi w1 12 (10 * a1.toInt + 10).toNat = f62_12__10_a1_toInt_10_toNat → gi w1 12 2 = f62_12_2 → lv_has ls 4 [(0, .ref (ad 0)), (1, .int a1), (2, .int a2), (3, .int a3)] → W p l e ({ frames := 3, cells := 0, slots := 0, locals := 57 }) s m (List.toArray [.ref (ad 0), .int a1, .int a2, .int a3]) below meth c H locs 0 0 (MQ below (va_Qi (P_X12_isDayFor_3 ad cy B qr s1 a1 a2 a3 w0) (fun u : va_W => wpost dC dI cy A u) A) (List.toArray [.ref (ad 0), .int a1, .int a2, .int a3]) s 0 0 A) (F0 m 62 ls []) := by
    intro f62_12__10_a1_toInt_10_toNat f62_12_2 H locs ls w1 r2 t3 r4 t5 r6 t7 r9 t10 r12 t13 hw hT hF c8 c11 c14 hl
    refine lv_iconst (v := 0) hx hb dX12_isDayFor_62 (by decide) ?_
    exact tk_zret hC hr rfl hlocks hK ⟨hT, hF, (Or.inl rfl)⟩ hw dX12_isDayFor_63
  refine lv_aload_n hx hb dX12_isDayFor_0 rfl (lv_at hl 0 rfl) ?_
  refine lv_aload_n hx hb dX12_isDayFor_1 rfl (lv_at hl 0 rfl) ?_
  refine lv_iload_n hx hb dX12_isDayFor_2 rfl (lv_at hl 1 rfl) ?_
  refine lv_iconst (v := 3) hx hb dX12_isDayFor_3 (by decide) ?_
  refine lv_iload_n hx hb dX12_isDayFor_4 rfl (lv_at hl 3 rfl) ?_
  refine lv_bipush (v := 7) hx hb dX12_isDayFor_5 (by decide) ?_
  refine lv_irem hx hb dX12_isDayFor_7 (by decide) ?_
  refine lv_topi (fun x15 ex15 => ?_)
  have ex15 : x15.toInt = a3.toInt % (7 : Int) := by rw [ex15]; exact wk_rem (show 0 ≤ a3.toInt by omega) (show 0 < (7 : Int) by decide)
  refine lv_iadd hx hb dX12_isDayFor_8 ?_
  refine lv_topi (fun x16 ex16 => ?_)
  have ex16 : x16.toInt = (3 : Int) + x15.toInt := by rw [ex16]; exact wk_add (show (-2147483648) ≤ (3 : Int) + x15.toInt by omega) (show (3 : Int) + x15.toInt ≤ 2147483647 by omega)
  refine tk_Vi hC hK hw hT hA hE hSR kM_at0 (by decide) rfl (k_X12_streetOf_4 l adK adV dC dI cy ad B (by omega) (by omega) qr s1   a1 (show 0 ≤ a1.toInt by omega) (show a1.toInt ≤ 11 by omega) x16 (show 3 ≤ x16.toInt by omega) (show x16.toInt ≤ 9 by omega) w0 s.heap.size hT ) (cwV 2 hC.2.2.2.2 gX12_isDayFor_X12_streetOf rfl rfl rfl (by decide +kernel) ⟨Nat.le_of_ble_eq_true rfl, Nat.le_of_ble_eq_true rfl⟩) rfl hl.1 rfl (Nat.le_of_ble_eq_true rfl) dX12_isDayFor_9 (fun r17 w19 H locs hp18 hw => ?_)
  obtain ⟨hT, k20, hg23⟩ := hp18
  have hF := hF.tr k20 (by decide)
  obtain ⟨g21, g22⟩ := hg23
  refine lv_iload_n hx hb dX12_isDayFor_12 rfl (lv_at hl 1 rfl) ?_
  refine lv_iload_n hx hb dX12_isDayFor_13 rfl (lv_at hl 2 rfl) ?_
  refine tk_Vi hC hK hw hT hA hE hSR kM_at0 (by decide) rfl (k_X12_hasSign_1 l adK adV dC dI cy ad B (by omega) (by omega) qr s1   r17 (show 0 ≤ r17.toInt by omega) (show r17.toInt ≤ 9 by omega) a1 (show 0 ≤ a1.toInt by omega) (show a1.toInt ≤ 11 by omega) a2 (show 0 ≤ a2.toInt by omega) (show a2.toInt ≤ 9 by omega) w19 H.size hT ) (cwV 3 hC.2.2.2.2 gX12_isDayFor_X12_hasSign rfl rfl rfl (by decide +kernel) ⟨Nat.le_of_ble_eq_true rfl, Nat.le_of_ble_eq_true rfl⟩) rfl hl.1 rfl (Nat.le_of_ble_eq_true rfl) dX12_isDayFor_14 (fun r24 w26 H locs hp25 hw => ?_)
  obtain ⟨hT, k27, hg30⟩ := hp25
  have hF := hF.tr k27 (by decide)
  rcases hg30 with rfl | ⟨rfl, c28⟩ | rfl | ⟨rfl, c29⟩
  · refine lv_if_ne (tgt := 22) hx hb dX12_isDayFor_17 (by decide) (fun c => absurd (by decide) c) (fun _ => ?_)
    refine lv_iconst (v := 0) hx hb dX12_isDayFor_20 (by decide) ?_
    exact tk_zret hC hr rfl hlocks hK ⟨hT, hF, (Or.inl rfl)⟩ hw dX12_isDayFor_21
  · refine lv_if_ne (tgt := 22) hx hb dX12_isDayFor_17 (by decide) (fun c => absurd (by decide) c) (fun _ => ?_)
    refine lv_iconst (v := 0) hx hb dX12_isDayFor_20 (by decide) ?_
    exact tk_zret hC hr rfl hlocks hK ⟨hT, hF, (Or.inr (Or.inl ⟨rfl, c28⟩))⟩ hw dX12_isDayFor_21
  · refine lv_if_ne (tgt := 22) hx hb dX12_isDayFor_17 (by decide) (fun _ => ?_) (fun c => absurd c (by decide))
    refine lv_aload_n hx hb dX12_isDayFor_22 rfl (lv_at hl 0 rfl) ?_
    refine lv_aload_n hx hb dX12_isDayFor_23 rfl (lv_at hl 0 rfl) ?_
    refine lv_iload_n hx hb dX12_isDayFor_24 rfl (lv_at hl 1 rfl) ?_
    refine lv_iconst (v := 0) hx hb dX12_isDayFor_25 (by decide) ?_
    refine tk_Vi hC hK hw hT hA hE hSR kM_at0 (by decide) rfl (k_X12_streetOf_2 l adK adV dC dI cy ad B (by omega) (by omega) qr s1   a1 (show 0 ≤ a1.toInt by omega) (show a1.toInt ≤ 11 by omega) w26 H.size hT ) (cwV 2 hC.2.2.2.2 gX12_isDayFor_X12_streetOf rfl rfl rfl (by decide +kernel) ⟨Nat.le_of_ble_eq_true rfl, Nat.le_of_ble_eq_true rfl⟩) rfl hl.1 rfl (Nat.le_of_ble_eq_true rfl) dX12_isDayFor_26 (fun r31 w33 H locs hp32 hw => ?_)
    obtain ⟨hT, k34, hg38⟩ := hp32
    have hF := hF.tr k34 (by decide)
    obtain ⟨g35, g36, c37⟩ := hg38
    refine lv_iload_n hx hb dX12_isDayFor_29 rfl (lv_at hl 3 rfl) ?_
    refine lv_sipush (v := 360) hx hb dX12_isDayFor_30 (by decide) ?_
    refine lv_irem hx hb dX12_isDayFor_33 (by decide) ?_
    refine lv_topi (fun x39 ex39 => ?_)
    have ex39 : x39.toInt = a3.toInt % (360 : Int) := by rw [ex39]; exact wk_rem (show 0 ≤ a3.toInt by omega) (show 0 < (360 : Int) by decide)
    refine tk_Vi hC hK hw hT hA hE hSR kM_at0 (by decide) rfl (k_X12_isClosed_1 l adK adV dC dI cy ad B (by omega) (by omega) qr s1   r31 (show 0 ≤ r31.toInt by omega) (show r31.toInt ≤ 9 by omega) x39 (show 0 ≤ x39.toInt by omega) (show x39.toInt ≤ 359 by omega) w33 H.size hT ) (cwV 2 hC.2.2.2.2 gX12_isDayFor_X12_isClosed rfl rfl rfl (by decide +kernel) ⟨Nat.le_of_ble_eq_true rfl, Nat.le_of_ble_eq_true rfl⟩) rfl hl.1 rfl (Nat.le_of_ble_eq_true rfl) dX12_isDayFor_34 (fun r40 w42 H locs hp41 hw => ?_)
    obtain ⟨hT, k43, hg48⟩ := hp41
    have hF := hF.tr k43 (by decide)
    have c49 := k43.gi kM_at12 rfl c37
    rcases hg48 with rfl | ⟨rfl, ⟨x44, c45, rx44, tx44⟩, ⟨x46, c47, rx46, tx46⟩⟩
    · refine lv_if_ne (tgt := 62) hx hb dX12_isDayFor_37 (by decide) (fun c => absurd (by decide) c) (fun _ => ?_)
      refine lv_aload_n hx hb dX12_isDayFor_40 rfl (lv_at hl 0 rfl) ?_
      refine lv_aload_n hx hb dX12_isDayFor_41 rfl (lv_at hl 0 rfl) ?_
      refine lv_iload_n hx hb dX12_isDayFor_42 rfl (lv_at hl 1 rfl) ?_
      refine lv_iconst (v := 1) hx hb dX12_isDayFor_43 (by decide) ?_
      refine tk_Vi hC hK hw hT hA hE hSR kM_at0 (by decide) rfl (k_X12_streetOf_3 l adK adV dC dI cy ad B (by omega) (by omega) qr s1   a1 (show 0 ≤ a1.toInt by omega) (show a1.toInt ≤ 11 by omega) w42 H.size hT ) (cwV 2 hC.2.2.2.2 gX12_isDayFor_X12_streetOf rfl rfl rfl (by decide +kernel) ⟨Nat.le_of_ble_eq_true rfl, Nat.le_of_ble_eq_true rfl⟩) rfl hl.1 rfl (Nat.le_of_ble_eq_true rfl) dX12_isDayFor_44 (fun r50 w52 H locs hp51 hw => ?_)
      obtain ⟨hT, k53, hg57⟩ := hp51
      have hF := hF.tr k53 (by decide)
      have c58 := k53.gi kM_at12 rfl c49
      obtain ⟨g54, g55, c56⟩ := hg57
      refine lv_iload_n hx hb dX12_isDayFor_47 rfl (lv_at hl 3 rfl) ?_
      refine lv_sipush (v := 360) hx hb dX12_isDayFor_48 (by decide) ?_
      refine lv_irem hx hb dX12_isDayFor_51 (by decide) ?_
      refine lv_topi (fun x59 ex59 => ?_)
      have ex59 : x59.toInt = a3.toInt % (360 : Int) := by rw [ex59]; exact wk_rem (show 0 ≤ a3.toInt by omega) (show 0 < (360 : Int) by decide)
      refine tk_Vi hC hK hw hT hA hE hSR kM_at0 (by decide) rfl (k_X12_isClosed_1 l adK adV dC dI cy ad B (by omega) (by omega) qr s1   r50 (show 0 ≤ r50.toInt by omega) (show r50.toInt ≤ 9 by omega) x59 (show 0 ≤ x59.toInt by omega) (show x59.toInt ≤ 359 by omega) w52 H.size hT ) (cwV 2 hC.2.2.2.2 gX12_isDayFor_X12_isClosed rfl rfl rfl (by decide +kernel) ⟨Nat.le_of_ble_eq_true rfl, Nat.le_of_ble_eq_true rfl⟩) rfl hl.1 rfl (Nat.le_of_ble_eq_true rfl) dX12_isDayFor_52 (fun r60 w62 H locs hp61 hw => ?_)
      obtain ⟨hT, k63, hg68⟩ := hp61
      have hF := hF.tr k63 (by decide)
      have c69 := k63.gi kM_at12 rfl c58
      have c70 := k63.gi kM_at12 rfl c56
      rcases hg68 with rfl | ⟨rfl, ⟨x64, c65, rx64, tx64⟩, ⟨x66, c67, rx66, tx66⟩⟩
      · refine lv_if_ne (tgt := 62) hx hb dX12_isDayFor_55 (by decide) (fun c => absurd (by decide) c) (fun _ => ?_)
        refine lv_iconst (v := 1) hx hb dX12_isDayFor_58 (by decide) ?_
        refine lv_goto (tgt := 63) hx hb dX12_isDayFor_59 (by decide) ?_
        exact tk_zret hC hr rfl hlocks hK ⟨hT, hF, (Or.inr (Or.inr (Or.inl rfl)))⟩ hw dX12_isDayFor_63
      · refine lv_if_ne (tgt := 62) hx hb dX12_isDayFor_55 (by decide) (fun _ => ?_) (fun c => absurd c (by decide))
        obtain rfl : x64 = 1 := wk_eq.mpr (show x64.toInt = 1 by omega)
        exact J62 r31 x66 H locs ls w62 (show 0 ≤ a1.toInt by omega) (show a1.toInt ≤ 11 by omega) (show 0 ≤ a2.toInt by omega) (show a2.toInt ≤ 9 by omega) (show 0 ≤ a3.toInt by omega) (show a3.toInt ≤ 4166670 by omega) (show 0 ≤ r31.toInt by omega) (show r31.toInt ≤ 9 by omega) (show 1 ≤ x66.toInt by omega) (show x66.toInt ≤ 8 by omega)  hw hT hF c65 c69 c67 (lv_sub hl [0, 1, 2, 3] rfl)
    · refine lv_if_ne (tgt := 62) hx hb dX12_isDayFor_37 (by decide) (fun _ => ?_) (fun c => absurd c (by decide))
      obtain rfl : x44 = 1 := wk_eq.mpr (show x44.toInt = 1 by omega)
      exact J62 r31 x46 H locs ls w42 (show 0 ≤ a1.toInt by omega) (show a1.toInt ≤ 11 by omega) (show 0 ≤ a2.toInt by omega) (show a2.toInt ≤ 9 by omega) (show 0 ≤ a3.toInt by omega) (show a3.toInt ≤ 4166670 by omega) (show 0 ≤ r31.toInt by omega) (show r31.toInt ≤ 9 by omega) (show 1 ≤ x46.toInt by omega) (show x46.toInt ≤ 8 by omega)  hw hT hF c45 c49 c47 (lv_sub hl [0, 1, 2, 3] rfl)
  · refine lv_if_ne (tgt := 22) hx hb dX12_isDayFor_17 (by decide) (fun _ => ?_) (fun c => absurd c (by decide))
    refine lv_aload_n hx hb dX12_isDayFor_22 rfl (lv_at hl 0 rfl) ?_
    refine lv_aload_n hx hb dX12_isDayFor_23 rfl (lv_at hl 0 rfl) ?_
    refine lv_iload_n hx hb dX12_isDayFor_24 rfl (lv_at hl 1 rfl) ?_
    refine lv_iconst (v := 0) hx hb dX12_isDayFor_25 (by decide) ?_
    refine tk_Vi hC hK hw hT hA hE hSR kM_at0 (by decide) rfl (k_X12_streetOf_2 l adK adV dC dI cy ad B (by omega) (by omega) qr s1   a1 (show 0 ≤ a1.toInt by omega) (show a1.toInt ≤ 11 by omega) w26 H.size hT ) (cwV 2 hC.2.2.2.2 gX12_isDayFor_X12_streetOf rfl rfl rfl (by decide +kernel) ⟨Nat.le_of_ble_eq_true rfl, Nat.le_of_ble_eq_true rfl⟩) rfl hl.1 rfl (Nat.le_of_ble_eq_true rfl) dX12_isDayFor_26 (fun r71 w73 H locs hp72 hw => ?_)
    obtain ⟨hT, k74, hg78⟩ := hp72
    have hF := hF.tr k74 (by decide)
    have c79 := k74.gi kM_at12 rfl c29
    obtain ⟨g75, g76, c77⟩ := hg78
    obtain rfl : r71 = a2 := c77.symm.trans c79
    refine lv_iload_n hx hb dX12_isDayFor_29 rfl (lv_at hl 3 rfl) ?_
    refine lv_sipush (v := 360) hx hb dX12_isDayFor_30 (by decide) ?_
    refine lv_irem hx hb dX12_isDayFor_33 (by decide) ?_
    refine lv_topi (fun x80 ex80 => ?_)
    have ex80 : x80.toInt = a3.toInt % (360 : Int) := by rw [ex80]; exact wk_rem (show 0 ≤ a3.toInt by omega) (show 0 < (360 : Int) by decide)
    refine tk_Vi hC hK hw hT hA hE hSR kM_at0 (by decide) rfl (k_X12_isClosed_1 l adK adV dC dI cy ad B (by omega) (by omega) qr s1   a2 (show 0 ≤ a2.toInt by omega) (show a2.toInt ≤ 9 by omega) x80 (show 0 ≤ x80.toInt by omega) (show x80.toInt ≤ 359 by omega) w73 H.size hT ) (cwV 2 hC.2.2.2.2 gX12_isDayFor_X12_isClosed rfl rfl rfl (by decide +kernel) ⟨Nat.le_of_ble_eq_true rfl, Nat.le_of_ble_eq_true rfl⟩) rfl hl.1 rfl (Nat.le_of_ble_eq_true rfl) dX12_isDayFor_34 (fun r81 w83 H locs hp82 hw => ?_)
    obtain ⟨hT, k84, hg89⟩ := hp82
    have hF := hF.tr k84 (by decide)
    have c90 := k84.gi kM_at12 rfl c79
    rcases hg89 with rfl | ⟨rfl, ⟨x85, c86, rx85, tx85⟩, ⟨x87, c88, rx87, tx87⟩⟩
    · refine lv_if_ne (tgt := 62) hx hb dX12_isDayFor_37 (by decide) (fun c => absurd (by decide) c) (fun _ => ?_)
      refine lv_aload_n hx hb dX12_isDayFor_40 rfl (lv_at hl 0 rfl) ?_
      refine lv_aload_n hx hb dX12_isDayFor_41 rfl (lv_at hl 0 rfl) ?_
      refine lv_iload_n hx hb dX12_isDayFor_42 rfl (lv_at hl 1 rfl) ?_
      refine lv_iconst (v := 1) hx hb dX12_isDayFor_43 (by decide) ?_
      refine tk_Vi hC hK hw hT hA hE hSR kM_at0 (by decide) rfl (k_X12_streetOf_3 l adK adV dC dI cy ad B (by omega) (by omega) qr s1   a1 (show 0 ≤ a1.toInt by omega) (show a1.toInt ≤ 11 by omega) w83 H.size hT ) (cwV 2 hC.2.2.2.2 gX12_isDayFor_X12_streetOf rfl rfl rfl (by decide +kernel) ⟨Nat.le_of_ble_eq_true rfl, Nat.le_of_ble_eq_true rfl⟩) rfl hl.1 rfl (Nat.le_of_ble_eq_true rfl) dX12_isDayFor_44 (fun r91 w93 H locs hp92 hw => ?_)
      obtain ⟨hT, k94, hg98⟩ := hp92
      have hF := hF.tr k94 (by decide)
      have c99 := k94.gi kM_at12 rfl c90
      obtain ⟨g95, g96, c97⟩ := hg98
      refine lv_iload_n hx hb dX12_isDayFor_47 rfl (lv_at hl 3 rfl) ?_
      refine lv_sipush (v := 360) hx hb dX12_isDayFor_48 (by decide) ?_
      refine lv_irem hx hb dX12_isDayFor_51 (by decide) ?_
      refine lv_topi (fun x100 ex100 => ?_)
      have ex100 : x100.toInt = a3.toInt % (360 : Int) := by rw [ex100]; exact wk_rem (show 0 ≤ a3.toInt by omega) (show 0 < (360 : Int) by decide)
      refine tk_Vi hC hK hw hT hA hE hSR kM_at0 (by decide) rfl (k_X12_isClosed_1 l adK adV dC dI cy ad B (by omega) (by omega) qr s1   r91 (show 0 ≤ r91.toInt by omega) (show r91.toInt ≤ 9 by omega) x100 (show 0 ≤ x100.toInt by omega) (show x100.toInt ≤ 359 by omega) w93 H.size hT ) (cwV 2 hC.2.2.2.2 gX12_isDayFor_X12_isClosed rfl rfl rfl (by decide +kernel) ⟨Nat.le_of_ble_eq_true rfl, Nat.le_of_ble_eq_true rfl⟩) rfl hl.1 rfl (Nat.le_of_ble_eq_true rfl) dX12_isDayFor_52 (fun r101 w103 H locs hp102 hw => ?_)
      obtain ⟨hT, k104, hg109⟩ := hp102
      have hF := hF.tr k104 (by decide)
      have c110 := k104.gi kM_at12 rfl c99
      have c111 := k104.gi kM_at12 rfl c97
      rcases hg109 with rfl | ⟨rfl, ⟨x105, c106, rx105, tx105⟩, ⟨x107, c108, rx107, tx107⟩⟩
      · refine lv_if_ne (tgt := 62) hx hb dX12_isDayFor_55 (by decide) (fun c => absurd (by decide) c) (fun _ => ?_)
        refine lv_iconst (v := 1) hx hb dX12_isDayFor_58 (by decide) ?_
        refine lv_goto (tgt := 63) hx hb dX12_isDayFor_59 (by decide) ?_
        exact tk_zret hC hr rfl hlocks hK ⟨hT, hF, (Or.inr (Or.inr (Or.inr ⟨rfl, c110⟩)))⟩ hw dX12_isDayFor_63
      · refine lv_if_ne (tgt := 62) hx hb dX12_isDayFor_55 (by decide) (fun _ => ?_) (fun c => absurd c (by decide))
        obtain rfl : x105 = 1 := wk_eq.mpr (show x105.toInt = 1 by omega)
        exact J62 a2 x107 H locs ls w103 (show 0 ≤ a1.toInt by omega) (show a1.toInt ≤ 11 by omega) (show 0 ≤ a2.toInt by omega) (show a2.toInt ≤ 9 by omega) (show 0 ≤ a3.toInt by omega) (show a3.toInt ≤ 4166670 by omega) (show 0 ≤ a2.toInt by omega) (show a2.toInt ≤ 9 by omega) (show 1 ≤ x107.toInt by omega) (show x107.toInt ≤ 8 by omega)  hw hT hF c106 c110 c108 (lv_sub hl [0, 1, 2, 3] rfl)
    · refine lv_if_ne (tgt := 62) hx hb dX12_isDayFor_37 (by decide) (fun _ => ?_) (fun c => absurd c (by decide))
      obtain rfl : x85 = 1 := wk_eq.mpr (show x85.toInt = 1 by omega)
      exact J62 a2 x87 H locs ls w83 (show 0 ≤ a1.toInt by omega) (show a1.toInt ≤ 11 by omega) (show 0 ≤ a2.toInt by omega) (show a2.toInt ≤ 9 by omega) (show 0 ≤ a3.toInt by omega) (show a3.toInt ≤ 4166670 by omega) (show 0 ≤ a2.toInt by omega) (show a2.toInt ≤ 9 by omega) (show 1 ≤ x87.toInt by omega) (show x87.toInt ≤ 8 by omega)  hw hT hF c86 c90 c88 (lv_sub hl [0, 1, 2, 3] rfl)
abbrev P_X12_isLifted_3 (ad : Nat → Nat) (cy : Nat → ClassId) (B : Int) (qr : Nat) (s1 : Int) (a1 : Int32) (a2 : Int32) (w0 : va_W) : Int32 → va_W → Prop := fun r u => TW ksM ad cy B qr 12 u ∧ FE ksM ([] : List (Nat × Nat × Nat)) w0 u ∧ ((r = 0) ∨ (r = 1 ∧ (∃ y : Int32, gi u 12 3 = y ∧ 1 ≤ y.toInt ∧ y.toInt ≤ 4)))
set_option maxHeartbeats 4000000 in
set_option maxRecDepth 100000 in
theorem k_X12_isLifted_3 (l : Launch) (adK adV : Nat → Nat) (dC : Nat → ClassId) (dI : Nat → Nat → Nat) (cy : Nat → ClassId) (ad : Nat → Nat) (B : Int) (hB0 : 100000 ≤ B) (hB1 : B ≤ 1073741824) (qr : Nat) (s1 : Int)  (a1 : Int32) (ra1 : 0 ≤ a1.toInt) (ta1 : a1.toInt ≤ 11) (a2 : Int32) (ra2 : 0 ≤ a2.toInt) (ta2 : a2.toInt ≤ 100000100) (w0 : va_W) (sz : Nat) (hT : TW ksM ad cy B qr 12 w0)  : Met l yX12_isLifted wsX12_isLifted ({ frames := 1, cells := 0, slots := 0, locals := 12 }) (va_Pc [.ref (ad 0), .int a1, .int a2] (wpreS adK adV dC dI cy sz w0)) (va_Qi (P_X12_isLifted_3 ad cy B qr s1 a1 a2 w0) (fun u : va_W => wpost dC dI cy (va_A w0 sz) u) (va_A w0 sz)) 0 0 (va_A w0 sz) := by
  refine Met.ofW (cc := cX12_isLifted) (maxL := 5) (ret := (some .boolean)) (by decide) rfl ?_
  intro p e s m args below meth c s₁ Bk hml hv
  obtain ⟨rfl, ⟨hsz, hP, hK, hD0⟩, hE, hSR⟩ := hv
  have hx := Bk.exec
  have hb := Bk.bytes
  have hr := Bk.returns
  have hlocks := Bk.notSynchronized
  have hC : CallFix p m c cX12_isLifted 5 s _ wsX12_isLifted RX12 := ⟨hx, hb, hml, findClass_of_methodNamed Bk.named, atoms_spec (ws := wsX12_isLifted) Bk.pre⟩
  subst hsz
  have hD := hD0.self (sz := s.heap.size)
  generalize hAe : va_A w0 s.heap.size = A at hD hE ⊢
  have hA : ∀ q : Nat, s.heap.size ≤ q → A q := fun q h => by rw [← hAe]; exact Or.inr h
  have hw : Wd dC dI A s.heap s.heap [] w0 := ⟨hP, hD, va_S.rf⟩
  have hF : FE ksM ([] : List (Nat × Nat × Nat)) w0 w0 := FE.rf
  have hl := lv_entry ([.ref (ad 0), .int a1, .int a2]) (n := 5) (Nat.le_of_ble_eq_true rfl)
  rw [lg_entry_eq]
  generalize (lg_sl ([.ref (ad 0), .int a1, .int a2]) ++ List.replicate (5 - (lg_sl ([.ref (ad 0), .int a1, .int a2])).length) Slot.unset).toArray = ls at hl ⊢
  have hl : lv_has ls 5 [(0, .ref (ad 0)), (1, .int a1), (2, .int a2)] := hl
  generalize hloc : ([] : List Loc) = locs at hw ⊢
  have hinX12 : ∀ w ∈ u_ws RX12 TX12 42, w ∈ wsX12_isLifted := fun _ h => List.mem_cons_of_mem _ (List.mem_append_right _ (h))
  have L2 : ∀ (n2 : Nat) (v2_3 : Int32) (H : Heap) (locs : List Loc) (ls : Array Slot) (w1 : va_W), 0 ≤ a1.toInt → a1.toInt ≤ 11 → 0 ≤ a2.toInt → a2.toInt ≤ 100000100 → 0 ≤ v2_3.toInt → v2_3.toInt ≤ 4 → (4 - v2_3.toInt).toNat < n2 → Wd dC dI A s.heap H locs w1 → TW ksM ad cy B qr 12 w1 → FE ksM ([] : List (Nat × Nat × Nat)) w0 w1 → lv_has ls 5 [(0, .ref (ad 0)), (1, .int a1), (2, .int a2), (3, .int v2_3)] → W p l e ({ frames := 1, cells := 0, slots := 0, locals := 12 }) s m (List.toArray [.ref (ad 0), .int a1, .int a2]) below meth c H locs 0 0 (MQ below (va_Qi (P_X12_isLifted_3 ad cy B qr s1 a1 a2 w0) (fun u : va_W => wpost dC dI cy A u) A) (List.toArray [.ref (ad 0), .int a1, .int a2]) s 0 0 A) (F0 m 2 ls []) := by
    intro n2
    induction n2 with
    | zero => intro v2_3 H locs ls w1 r2 t3 r4 t5 r6 t7 hm2 hw hT hF hl; omega
    | succ n2 ih2 =>
      intro v2_3 H locs ls w1 r2 t3 r4 t5 r6 t7 hm2 hw hT hF hl
      have J66 : ∀ (v66_4 : Int32) (f66_12__3_v2_3_toInt_156_toNat : Int32) (f66_12_3 : Int32) (H : Heap) (locs : List Loc) (ls : Array Slot) (w8 : va_W), 0 ≤ a1.toInt → a1.toInt ≤ 11 → 0 ≤ a2.toInt → a2.toInt ≤ 100000100 → 0 ≤ v2_3.toInt → v2_3.toInt ≤ 3 → 156 ≤ v66_4.toInt → v66_4.toInt ≤ 165 → v66_4.toInt = 3 * v2_3.toInt + 156 → 1 ≤ f66_12_3.toInt → f66_12_3.toInt ≤ 4 → Wd dC dI A s.heap H locs w8 → TW ksM ad cy B qr 12 w8 → FE ksM ([] : List (Nat × Nat × Nat)) w0 w8 → gi w8 12 (3 * v2_3.toInt + 156).toNat = f66_12__3_v2_3_toInt_156_toNat → gi w8 12 3 = f66_12_3 → lv_has ls 5 [(0, .ref (ad 0)), (1, .int a1), (2, .int a2), (3, .int v2_3), (4, .int v66_4)] → W p l e ({ frames := 1, cells := 0, slots := 0, locals := 12 }) s m (List.toArray [.ref (ad 0), .int a1, .int a2]) below meth c H locs 0 0 (MQ below (va_Qi (P_X12_isLifted_3 ad cy B qr s1 a1 a2 w0) (fun u : va_W => wpost dC dI cy A u) A) (List.toArray [.ref (ad 0), .int a1, .int a2]) s 0 0 A) (F0 m 66 ls []) := by
        intro v66_4 f66_12__3_v2_3_toInt_156_toNat f66_12_3 H locs ls w8 r9 t10 r11 t12 r13 t14 r15 t16 l17 r19 t20 hw hT hF c18 c21 hl
        obtain ⟨x22, ex22⟩ : ∃ y : Int32, y = v2_3 + Int32.ofInt 1 := ⟨_, rfl⟩
        refine lv_iinc (v := x22) (lv' := [(3, .int x22), (0, .ref (ad 0)), (1, .int a1), (2, .int a2), (4, .int v66_4)]) hx hb dX12_isLifted_66 hl (k := 3) rfl ex22.symm (by decide) rfl (fun ls hl => ?_)
        have ex22 : x22.toInt = v2_3.toInt + 1 := by rw [ex22]; exact wk_add (y := 1) (show -2147483648 ≤ v2_3.toInt + 1 by omega) (show v2_3.toInt + 1 ≤ 2147483647 by omega)
        refine lv_goto (tgt := 2) hx hb dX12_isLifted_69 (by decide) ?_
        exact ih2 x22 H locs ls w8 (show 0 ≤ a1.toInt by omega) (show a1.toInt ≤ 11 by omega) (show 0 ≤ a2.toInt by omega) (show a2.toInt ≤ 100000100 by omega) (show 0 ≤ x22.toInt by omega) (show x22.toInt ≤ 4 by omega) (show (4 - x22.toInt).toNat < n2 by omega) hw hT hF  (lv_sub hl [1, 2, 3, 0] rfl)
      refine lv_iload_n hx hb dX12_isLifted_2 rfl (lv_at hl 3 rfl) ?_
      refine lv_aload_n hx hb dX12_isLifted_3 rfl (lv_at hl 0 rfl) ?_
      refine tk_getA hC hK hw hT hinX12 kM_at0 (by decide) rfl 26 (by decide) (List.mem_of_getElem? (i := 1) rfl) rfl rfl dX12_isLifted_4 ?_
      refine lv_iconst (v := 3) hx hb dX12_isLifted_7 (by decide) ?_
      refine tk_ialdR hC hK hw hT kM_at12 rfl (by decide) (by decide) dX12_isLifted_8 (fun x23 c24 Ex23 => ?_)
      have bx23 := tk_rgI rfl 3 1 1 0 4 (by decide +kernel) ⟨0, by decide, by decide⟩ Ex23
      have c24 : gi w1 12 3 = x23 := c24
      refine lv_icmp_ge (tgt := 72) hx hb dX12_isLifted_9 (by decide) (fun c25 => ?_) (fun c25 => ?_)
      · have c25 : x23.toInt ≤ v2_3.toInt := wk_le.mp c25
        refine lv_iconst (v := 0) hx hb dX12_isLifted_72 (by decide) ?_
        exact tk_zret hC hr rfl hlocks hK ⟨hT, hF, (Or.inl rfl)⟩ hw dX12_isLifted_73
      · have c25 : v2_3.toInt < x23.toInt := wk_leF c25
        refine lv_sipush (v := 156) hx hb dX12_isLifted_12 (by decide) ?_
        refine lv_iconst (v := 3) hx hb dX12_isLifted_15 (by decide) ?_
        refine lv_iload_n hx hb dX12_isLifted_16 rfl (lv_at hl 3 rfl) ?_
        refine lv_imul hx hb dX12_isLifted_17 ?_
        refine lv_topi (fun x26 ex26 => ?_)
        have ex26 : x26.toInt = (3 : Int) * v2_3.toInt := by rw [ex26]; exact wk_mul (show (-2147483648) ≤ (3 : Int) * v2_3.toInt by omega) (show (3 : Int) * v2_3.toInt ≤ 2147483647 by omega)
        refine lv_iadd hx hb dX12_isLifted_18 ?_
        refine lv_topi (fun x27 ex27 => ?_)
        have ex27 : x27.toInt = (156 : Int) + x26.toInt := by rw [ex27]; exact wk_add (show (-2147483648) ≤ (156 : Int) + x26.toInt by omega) (show (156 : Int) + x26.toInt ≤ 2147483647 by omega)
        refine lv_istore (lv' := [(4, .int x27), (0, .ref (ad 0)), (1, .int a1), (2, .int a2), (3, .int v2_3)]) hx hb dX12_isLifted_19 hl (by decide) rfl (fun ls hl => ?_)
        refine lv_aload_n hx hb dX12_isLifted_21 rfl (lv_at hl 1 rfl) ?_
        refine tk_getA hC hK hw hT hinX12 kM_at0 (by decide) rfl 26 (by decide) (List.mem_of_getElem? (i := 1) rfl) rfl rfl dX12_isLifted_22 ?_
        refine lv_iload hx hb dX12_isLifted_25 (lv_at hl 0 rfl) ?_
        refine tk_ialdR hC hK hw hT kM_at12 rfl (show 0 ≤ x27.toInt by omega) (show x27.toInt < 296 by omega) dX12_isLifted_27 (fun x28 c29 Ex28 => ?_)
        have c29 : gi w1 12 (3 * v2_3.toInt + 156).toNat = x28 := (congrArg (gi w1 12) (congrArg Int.toNat (show 3 * v2_3.toInt + 156 = x27.toInt by omega))).trans c29
        refine lv_iload_n hx hb dX12_isLifted_28 rfl (lv_at hl 2 rfl) ?_
        refine lv_icmp_ne (tgt := 66) hx hb dX12_isLifted_29 (by decide) (fun c30 => ?_) (fun c30 => ?_)
        · have c30 : ¬ x28.toInt = a1.toInt := wk_eqF c30
          exact J66 x27 x28 x23 H locs ls w1 (show 0 ≤ a1.toInt by omega) (show a1.toInt ≤ 11 by omega) (show 0 ≤ a2.toInt by omega) (show a2.toInt ≤ 100000100 by omega) (show 0 ≤ v2_3.toInt by omega) (show v2_3.toInt ≤ 3 by omega) (show 156 ≤ x27.toInt by omega) (show x27.toInt ≤ 165 by omega) (show x27.toInt = 3 * v2_3.toInt + 156 by omega) (show 1 ≤ x23.toInt by omega) (show x23.toInt ≤ 4 by omega)  hw hT hF c29 c24 (lv_sub hl [1, 2, 3, 4, 0] rfl)
        · have c30 : x28.toInt = a1.toInt := wk_eq.mp c30
          refine lv_iload_n hx hb dX12_isLifted_32 rfl (lv_at hl 3 rfl) ?_
          refine lv_bipush (v := 24) hx hb dX12_isLifted_33 (by decide) ?_
          refine lv_irem hx hb dX12_isLifted_35 (by decide) ?_
          refine lv_topi (fun x31 ex31 => ?_)
          have ex31 : x31.toInt = a2.toInt % (24 : Int) := by rw [ex31]; exact wk_rem (show 0 ≤ a2.toInt by omega) (show 0 < (24 : Int) by decide)
          refine lv_aload_n hx hb dX12_isLifted_36 rfl (lv_at hl 1 rfl) ?_
          refine tk_getA hC hK hw hT hinX12 kM_at0 (by decide) rfl 26 (by decide) (List.mem_of_getElem? (i := 1) rfl) rfl rfl dX12_isLifted_37 ?_
          refine lv_iload hx hb dX12_isLifted_40 (lv_at hl 0 rfl) ?_
          refine lv_iconst (v := 1) hx hb dX12_isLifted_42 (by decide) ?_
          refine lv_iadd hx hb dX12_isLifted_43 ?_
          refine lv_topi (fun x32 ex32 => ?_)
          have ex32 : x32.toInt = x27.toInt + (1 : Int) := by rw [ex32]; exact wk_add (show (-2147483648) ≤ x27.toInt + (1 : Int) by omega) (show x27.toInt + (1 : Int) ≤ 2147483647 by omega)
          refine tk_ialdR hC hK hw hT kM_at12 rfl (show 0 ≤ x32.toInt by omega) (show x32.toInt < 296 by omega) dX12_isLifted_44 (fun x33 c34 Ex33 => ?_)
          have c34 : gi w1 12 (3 * v2_3.toInt + 157).toNat = x33 := (congrArg (gi w1 12) (congrArg Int.toNat (show 3 * v2_3.toInt + 157 = x32.toInt by omega))).trans c34
          refine lv_icmp_lt (tgt := 66) hx hb dX12_isLifted_45 (by decide) (fun c35 => ?_) (fun c35 => ?_)
          · have c35 : x31.toInt < x33.toInt := wk_lt.mp c35
            exact J66 x27 x28 x23 H locs ls w1 (show 0 ≤ a1.toInt by omega) (show a1.toInt ≤ 11 by omega) (show 0 ≤ a2.toInt by omega) (show a2.toInt ≤ 100000100 by omega) (show 0 ≤ v2_3.toInt by omega) (show v2_3.toInt ≤ 3 by omega) (show 156 ≤ x27.toInt by omega) (show x27.toInt ≤ 165 by omega) (show x27.toInt = 3 * v2_3.toInt + 156 by omega) (show 1 ≤ x23.toInt by omega) (show x23.toInt ≤ 4 by omega)  hw hT hF c29 c24 (lv_sub hl [1, 2, 3, 4, 0] rfl)
          · have c35 : x33.toInt ≤ x31.toInt := wk_ltF c35
            refine lv_iload_n hx hb dX12_isLifted_48 rfl (lv_at hl 3 rfl) ?_
            refine lv_bipush (v := 24) hx hb dX12_isLifted_49 (by decide) ?_
            refine lv_irem hx hb dX12_isLifted_51 (by decide) ?_
            refine lv_topi (fun x36 ex36 => ?_)
            have ex36 : x36.toInt = a2.toInt % (24 : Int) := by rw [ex36]; exact wk_rem (show 0 ≤ a2.toInt by omega) (show 0 < (24 : Int) by decide)
            refine lv_aload_n hx hb dX12_isLifted_52 rfl (lv_at hl 1 rfl) ?_
            refine tk_getA hC hK hw hT hinX12 kM_at0 (by decide) rfl 26 (by decide) (List.mem_of_getElem? (i := 1) rfl) rfl rfl dX12_isLifted_53 ?_
            refine lv_iload hx hb dX12_isLifted_56 (lv_at hl 0 rfl) ?_
            refine lv_iconst (v := 2) hx hb dX12_isLifted_58 (by decide) ?_
            refine lv_iadd hx hb dX12_isLifted_59 ?_
            refine lv_topi (fun x37 ex37 => ?_)
            have ex37 : x37.toInt = x27.toInt + (2 : Int) := by rw [ex37]; exact wk_add (show (-2147483648) ≤ x27.toInt + (2 : Int) by omega) (show x27.toInt + (2 : Int) ≤ 2147483647 by omega)
            refine tk_ialdR hC hK hw hT kM_at12 rfl (show 0 ≤ x37.toInt by omega) (show x37.toInt < 296 by omega) dX12_isLifted_60 (fun x38 c39 Ex38 => ?_)
            have c39 : gi w1 12 (3 * v2_3.toInt + 158).toNat = x38 := (congrArg (gi w1 12) (congrArg Int.toNat (show 3 * v2_3.toInt + 158 = x37.toInt by omega))).trans c39
            refine lv_icmp_ge (tgt := 66) hx hb dX12_isLifted_61 (by decide) (fun c40 => ?_) (fun c40 => ?_)
            · have c40 : x38.toInt ≤ x36.toInt := wk_le.mp c40
              exact J66 x27 x28 x23 H locs ls w1 (show 0 ≤ a1.toInt by omega) (show a1.toInt ≤ 11 by omega) (show 0 ≤ a2.toInt by omega) (show a2.toInt ≤ 100000100 by omega) (show 0 ≤ v2_3.toInt by omega) (show v2_3.toInt ≤ 3 by omega) (show 156 ≤ x27.toInt by omega) (show x27.toInt ≤ 165 by omega) (show x27.toInt = 3 * v2_3.toInt + 156 by omega) (show 1 ≤ x23.toInt by omega) (show x23.toInt ≤ 4 by omega)  hw hT hF c29 c24 (lv_sub hl [1, 2, 3, 4, 0] rfl)
            · have c40 : x36.toInt < x38.toInt := wk_leF c40
              refine lv_iconst (v := 1) hx hb dX12_isLifted_64 (by decide) ?_
              exact tk_zret hC hr rfl hlocks hK ⟨hT, hF, (Or.inr ⟨rfl, ⟨x23, c24, (show 1 ≤ x23.toInt by omega), (show x23.toInt ≤ 4 by omega)⟩⟩)⟩ hw dX12_isLifted_65
  refine lv_iconst (v := 0) hx hb dX12_isLifted_0 (by decide) ?_
  refine lv_istore_n (lv' := [(3, .int 0), (0, .ref (ad 0)), (1, .int a1), (2, .int a2)]) hx hb dX12_isLifted_1 rfl hl (by decide) rfl (fun ls hl => ?_)
  exact L2 ((4 - (0 : Int)).toNat + 1) 0 s.heap locs ls w0 (show 0 ≤ a1.toInt by omega) (show a1.toInt ≤ 11 by omega) (show 0 ≤ a2.toInt by omega) (show a2.toInt ≤ 100000100 by omega) (by decide) (by decide) (Nat.lt_succ_self _) hw hT hF  (lv_sub hl [1, 2, 3, 0] rfl)
abbrev P_X12_firstOpen_2 (ad : Nat → Nat) (cy : Nat → ClassId) (B : Int) (qr : Nat) (s1 : Int) (a1 : Int32) (a2 : Int32) (a3 : Int32) (a4 : Int32) (w0 : va_W) : Int32 → va_W → Prop := fun r u => TW ksM ad cy B qr 12 u ∧ FE ksM ([] : List (Nat × Nat × Nat)) w0 u ∧ ((0 ≤ r.toInt ∧ r.toInt ≤ 100000100) ∨ (0 ≤ r.toInt ∧ r.toInt ≤ 100000100 ∧ gi u 12 (10 * a1.toInt + 10).toNat = a2))
set_option maxHeartbeats 4000000 in
set_option maxRecDepth 100000 in
theorem k_X12_firstOpen_2 (l : Launch) (adK adV : Nat → Nat) (dC : Nat → ClassId) (dI : Nat → Nat → Nat) (cy : Nat → ClassId) (ad : Nat → Nat) (B : Int) (hB0 : 100000 ≤ B) (hB1 : B ≤ 1073741824) (qr : Nat) (s1 : Int)  (a1 : Int32) (ra1 : 0 ≤ a1.toInt) (ta1 : a1.toInt ≤ 11) (a2 : Int32) (ra2 : 0 ≤ a2.toInt) (ta2 : a2.toInt ≤ 9) (a3 : Int32) (ra3 : 0 ≤ a3.toInt) (ta3 : a3.toInt ≤ 100000208) (a4 : Int32) (ra4 : 0 ≤ a4.toInt) (ta4 : a4.toInt ≤ 100000100) (w0 : va_W) (sz : Nat) (hT : TW ksM ad cy B qr 12 w0)  : Met l yX12_firstOpen wsX12_firstOpen ({ frames := 4, cells := 0, slots := 0, locals := 80 }) (va_Pc [.ref (ad 0), .int a1, .int a2, .int a3, .int a4] (wpreS adK adV dC dI cy sz w0)) (va_Qi (P_X12_firstOpen_2 ad cy B qr s1 a1 a2 a3 a4 w0) (fun u : va_W => wpost dC dI cy (va_A w0 sz) u) (va_A w0 sz)) 0 0 (va_A w0 sz) := by
  refine Met.ofW (cc := cX12_firstOpen) (maxL := 6) (ret := (some .int)) (by decide) rfl ?_
  intro p e s m args below meth c s₁ Bk hml hv
  obtain ⟨rfl, ⟨hsz, hP, hK, hD0⟩, hE, hSR⟩ := hv
  have hx := Bk.exec
  have hb := Bk.bytes
  have hr := Bk.returns
  have hlocks := Bk.notSynchronized
  have hC : CallFix p m c cX12_firstOpen 6 s _ wsX12_firstOpen RX12 := ⟨hx, hb, hml, findClass_of_methodNamed Bk.named, atoms_spec (ws := wsX12_firstOpen) Bk.pre⟩
  subst hsz
  have hD := hD0.self (sz := s.heap.size)
  generalize hAe : va_A w0 s.heap.size = A at hD hE ⊢
  have hA : ∀ q : Nat, s.heap.size ≤ q → A q := fun q h => by rw [← hAe]; exact Or.inr h
  have hw : Wd dC dI A s.heap s.heap [] w0 := ⟨hP, hD, va_S.rf⟩
  have hF : FE ksM ([] : List (Nat × Nat × Nat)) w0 w0 := FE.rf
  have hl := lv_entry ([.ref (ad 0), .int a1, .int a2, .int a3, .int a4]) (n := 6) (Nat.le_of_ble_eq_true rfl)
  rw [lg_entry_eq]
  generalize (lg_sl ([.ref (ad 0), .int a1, .int a2, .int a3, .int a4]) ++ List.replicate (6 - (lg_sl ([.ref (ad 0), .int a1, .int a2, .int a3, .int a4])).length) Slot.unset).toArray = ls at hl ⊢
  have hl : lv_has ls 6 [(0, .ref (ad 0)), (1, .int a1), (2, .int a2), (3, .int a3), (4, .int a4)] := hl
  generalize hloc : ([] : List Loc) = locs at hw ⊢
  have L3 : ∀ (n3 : Nat) (v3_5 : Int32) (H : Heap) (locs : List Loc) (ls : Array Slot) (w1 : va_W), 0 ≤ a1.toInt → a1.toInt ≤ 11 → 0 ≤ a2.toInt → a2.toInt ≤ 9 → 0 ≤ a3.toInt → a3.toInt ≤ 100000208 → 0 ≤ a4.toInt → a4.toInt ≤ 100000100 → 0 ≤ v3_5.toInt → v3_5.toInt ≤ 100000208 → (100000208 - v3_5.toInt).toNat < n3 → Wd dC dI A s.heap H locs w1 → TW ksM ad cy B qr 12 w1 → FE ksM ([] : List (Nat × Nat × Nat)) w0 w1 → lv_has ls 6 [(0, .ref (ad 0)), (1, .int a1), (2, .int a2), (3, .int a3), (4, .int a4), (5, .int v3_5)] → W p l e ({ frames := 4, cells := 0, slots := 0, locals := 80 }) s m (List.toArray [.ref (ad 0), .int a1, .int a2, .int a3, .int a4]) below meth c H locs 0 0 (MQ below (va_Qi (P_X12_firstOpen_2 ad cy B qr s1 a1 a2 a3 a4 w0) (fun u : va_W => wpost dC dI cy A u) A) (List.toArray [.ref (ad 0), .int a1, .int a2, .int a3, .int a4]) s 0 0 A) (F0 m 3 ls []) := by
    intro n3
    induction n3 with
    | zero => intro v3_5 H locs ls w1 r2 t3 r4 t5 r6 t7 r8 t9 r10 t11 hm3 hw hT hF hl; omega
    | succ n3 ih3 =>
      intro v3_5 H locs ls w1 r2 t3 r4 t5 r6 t7 r8 t9 r10 t11 hm3 hw hT hF hl
      refine lv_iload hx hb dX12_firstOpen_3 (lv_at hl 5 rfl) ?_
      refine lv_iload hx hb dX12_firstOpen_5 (lv_at hl 4 rfl) ?_
      refine lv_icmp_gt (tgt := 58) hx hb dX12_firstOpen_7 (by decide) (fun c12 => ?_) (fun c12 => ?_)
      · have c12 : a4.toInt < v3_5.toInt := wk_lt.mp c12
        refine lv_ldcw (v := 100000000) hx hb hC.2.2.2.1 (hC.2.2.2.2 _ (List.mem_of_getElem? (i := 1) rfl)) dX12_firstOpen_58 ?_
        exact tk_iret hC hr hlocks hK ⟨hT, hF, (Or.inl ⟨(by decide), (by decide)⟩)⟩ hw dX12_firstOpen_61
      · have c12 : v3_5.toInt ≤ a4.toInt := wk_ltF c12
        refine lv_aload_n hx hb dX12_firstOpen_10 rfl (lv_at hl 0 rfl) ?_
        refine lv_iload_n hx hb dX12_firstOpen_11 rfl (lv_at hl 1 rfl) ?_
        refine lv_iload_n hx hb dX12_firstOpen_12 rfl (lv_at hl 2 rfl) ?_
        refine lv_iload hx hb dX12_firstOpen_13 (lv_at hl 5 rfl) ?_
        refine lv_bipush (v := 24) hx hb dX12_firstOpen_15 (by decide) ?_
        refine lv_idiv hx hb dX12_firstOpen_17 (by decide) ?_
        refine lv_topi (fun x13 ex13 => ?_)
        have ex13 : x13.toInt = v3_5.toInt / (24 : Int) := by rw [ex13]; exact wk_div (show 0 ≤ v3_5.toInt by omega) (show 0 < (24 : Int) by decide)
        refine tk_Vi hC hK hw hT hA hE hSR kM_at0 (by decide) rfl (k_X12_isDayFor_3 l adK adV dC dI cy ad B (by omega) (by omega) qr s1   a1 (show 0 ≤ a1.toInt by omega) (show a1.toInt ≤ 11 by omega) a2 (show 0 ≤ a2.toInt by omega) (show a2.toInt ≤ 9 by omega) x13 (show 0 ≤ x13.toInt by omega) (show x13.toInt ≤ 4166670 by omega) w1 H.size hT ) (cwV 3 hC.2.2.2.2 gX12_firstOpen_X12_isDayFor rfl rfl rfl (by decide +kernel) ⟨Nat.le_of_ble_eq_true rfl, Nat.le_of_ble_eq_true rfl⟩) rfl hl.1 rfl (Nat.le_of_ble_eq_true rfl) dX12_firstOpen_18 (fun r14 w16 H locs hp15 hw => ?_)
        obtain ⟨hT, k17, hg20⟩ := hp15
        have hF := hF.tr k17 (by decide)
        rcases hg20 with rfl | ⟨rfl, c18⟩ | rfl | ⟨rfl, c19⟩
        · refine lv_if_ne (tgt := 39) hx hb dX12_firstOpen_21 (by decide) (fun c => absurd (by decide) c) (fun _ => ?_)
          refine lv_iload hx hb dX12_firstOpen_24 (lv_at hl 5 rfl) ?_
          refine lv_bipush (v := 24) hx hb dX12_firstOpen_26 (by decide) ?_
          refine lv_idiv hx hb dX12_firstOpen_28 (by decide) ?_
          refine lv_topi (fun x21 ex21 => ?_)
          have ex21 : x21.toInt = v3_5.toInt / (24 : Int) := by rw [ex21]; exact wk_div (show 0 ≤ v3_5.toInt by omega) (show 0 < (24 : Int) by decide)
          refine lv_iconst (v := 1) hx hb dX12_firstOpen_29 (by decide) ?_
          refine lv_iadd hx hb dX12_firstOpen_30 ?_
          refine lv_topi (fun x22 ex22 => ?_)
          have ex22 : x22.toInt = x21.toInt + (1 : Int) := by rw [ex22]; exact wk_add (show (-2147483648) ≤ x21.toInt + (1 : Int) by omega) (show x21.toInt + (1 : Int) ≤ 2147483647 by omega)
          refine lv_bipush (v := 24) hx hb dX12_firstOpen_31 (by decide) ?_
          refine lv_imul hx hb dX12_firstOpen_33 ?_
          refine lv_topi (fun x23 ex23 => ?_)
          have ex23 : x23.toInt = x22.toInt * (24 : Int) := by rw [ex23]; exact wk_mul (show (-2147483648) ≤ x22.toInt * (24 : Int) by omega) (show x22.toInt * (24 : Int) ≤ 2147483647 by omega)
          refine lv_istore (lv' := [(5, .int x23), (0, .ref (ad 0)), (1, .int a1), (2, .int a2), (3, .int a3), (4, .int a4)]) hx hb dX12_firstOpen_34 hl (by decide) rfl (fun ls hl => ?_)
          refine lv_goto (tgt := 3) hx hb dX12_firstOpen_36 (by decide) ?_
          exact ih3 x23 H locs ls w16 (show 0 ≤ a1.toInt by omega) (show a1.toInt ≤ 11 by omega) (show 0 ≤ a2.toInt by omega) (show a2.toInt ≤ 9 by omega) (show 0 ≤ a3.toInt by omega) (show a3.toInt ≤ 100000208 by omega) (show 0 ≤ a4.toInt by omega) (show a4.toInt ≤ 100000100 by omega) (show 0 ≤ x23.toInt by omega) (show x23.toInt ≤ 100000208 by omega) (show (100000208 - x23.toInt).toNat < n3 by omega) hw hT hF  (lv_sub hl [1, 2, 3, 4, 5, 0] rfl)
        · refine lv_if_ne (tgt := 39) hx hb dX12_firstOpen_21 (by decide) (fun c => absurd (by decide) c) (fun _ => ?_)
          refine lv_iload hx hb dX12_firstOpen_24 (lv_at hl 5 rfl) ?_
          refine lv_bipush (v := 24) hx hb dX12_firstOpen_26 (by decide) ?_
          refine lv_idiv hx hb dX12_firstOpen_28 (by decide) ?_
          refine lv_topi (fun x24 ex24 => ?_)
          have ex24 : x24.toInt = v3_5.toInt / (24 : Int) := by rw [ex24]; exact wk_div (show 0 ≤ v3_5.toInt by omega) (show 0 < (24 : Int) by decide)
          refine lv_iconst (v := 1) hx hb dX12_firstOpen_29 (by decide) ?_
          refine lv_iadd hx hb dX12_firstOpen_30 ?_
          refine lv_topi (fun x25 ex25 => ?_)
          have ex25 : x25.toInt = x24.toInt + (1 : Int) := by rw [ex25]; exact wk_add (show (-2147483648) ≤ x24.toInt + (1 : Int) by omega) (show x24.toInt + (1 : Int) ≤ 2147483647 by omega)
          refine lv_bipush (v := 24) hx hb dX12_firstOpen_31 (by decide) ?_
          refine lv_imul hx hb dX12_firstOpen_33 ?_
          refine lv_topi (fun x26 ex26 => ?_)
          have ex26 : x26.toInt = x25.toInt * (24 : Int) := by rw [ex26]; exact wk_mul (show (-2147483648) ≤ x25.toInt * (24 : Int) by omega) (show x25.toInt * (24 : Int) ≤ 2147483647 by omega)
          refine lv_istore (lv' := [(5, .int x26), (0, .ref (ad 0)), (1, .int a1), (2, .int a2), (3, .int a3), (4, .int a4)]) hx hb dX12_firstOpen_34 hl (by decide) rfl (fun ls hl => ?_)
          refine lv_goto (tgt := 3) hx hb dX12_firstOpen_36 (by decide) ?_
          exact ih3 x26 H locs ls w16 (show 0 ≤ a1.toInt by omega) (show a1.toInt ≤ 11 by omega) (show 0 ≤ a2.toInt by omega) (show a2.toInt ≤ 9 by omega) (show 0 ≤ a3.toInt by omega) (show a3.toInt ≤ 100000208 by omega) (show 0 ≤ a4.toInt by omega) (show a4.toInt ≤ 100000100 by omega) (show 0 ≤ x26.toInt by omega) (show x26.toInt ≤ 100000208 by omega) (show (100000208 - x26.toInt).toNat < n3 by omega) hw hT hF  (lv_sub hl [1, 2, 3, 4, 5, 0] rfl)
        · refine lv_if_ne (tgt := 39) hx hb dX12_firstOpen_21 (by decide) (fun _ => ?_) (fun c => absurd c (by decide))
          refine lv_aload_n hx hb dX12_firstOpen_39 rfl (lv_at hl 0 rfl) ?_
          refine lv_iload_n hx hb dX12_firstOpen_40 rfl (lv_at hl 1 rfl) ?_
          refine lv_iload hx hb dX12_firstOpen_41 (lv_at hl 5 rfl) ?_
          refine tk_Vi hC hK hw hT hA hE hSR kM_at0 (by decide) rfl (k_X12_isLifted_3 l adK adV dC dI cy ad B (by omega) (by omega) qr s1   a1 (show 0 ≤ a1.toInt by omega) (show a1.toInt ≤ 11 by omega) v3_5 (show 0 ≤ v3_5.toInt by omega) (show v3_5.toInt ≤ 100000100 by omega) w16 H.size hT ) (cwV 2 hC.2.2.2.2 gX12_firstOpen_X12_isLifted rfl rfl rfl (by decide +kernel) ⟨Nat.le_of_ble_eq_true rfl, Nat.le_of_ble_eq_true rfl⟩) rfl hl.1 rfl (Nat.le_of_ble_eq_true rfl) dX12_firstOpen_43 (fun r27 w29 H locs hp28 hw => ?_)
          obtain ⟨hT, k30, hg33⟩ := hp28
          have hF := hF.tr k30 (by decide)
          rcases hg33 with rfl | ⟨rfl, ⟨x31, c32, rx31, tx31⟩⟩
          · refine lv_if_eq (tgt := 55) hx hb dX12_firstOpen_46 (by decide) (fun _ => ?_) (fun c => absurd (by decide) c)
            refine lv_iload hx hb dX12_firstOpen_55 (lv_at hl 5 rfl) ?_
            exact tk_iret hC hr hlocks hK ⟨hT, hF, (Or.inl ⟨(show 0 ≤ v3_5.toInt by omega), (show v3_5.toInt ≤ 100000100 by omega)⟩)⟩ hw dX12_firstOpen_57
          · refine lv_if_eq (tgt := 55) hx hb dX12_firstOpen_46 (by decide) (fun c => absurd c (by decide)) (fun _ => ?_)
            obtain ⟨x34, ex34⟩ : ∃ y : Int32, y = v3_5 + Int32.ofInt 1 := ⟨_, rfl⟩
            refine lv_iinc (v := x34) (lv' := [(5, .int x34), (0, .ref (ad 0)), (1, .int a1), (2, .int a2), (3, .int a3), (4, .int a4)]) hx hb dX12_firstOpen_49 hl (k := 5) rfl ex34.symm (by decide) rfl (fun ls hl => ?_)
            have ex34 : x34.toInt = v3_5.toInt + 1 := by rw [ex34]; exact wk_add (y := 1) (show -2147483648 ≤ v3_5.toInt + 1 by omega) (show v3_5.toInt + 1 ≤ 2147483647 by omega)
            refine lv_goto (tgt := 3) hx hb dX12_firstOpen_52 (by decide) ?_
            exact ih3 x34 H locs ls w29 (show 0 ≤ a1.toInt by omega) (show a1.toInt ≤ 11 by omega) (show 0 ≤ a2.toInt by omega) (show a2.toInt ≤ 9 by omega) (show 0 ≤ a3.toInt by omega) (show a3.toInt ≤ 100000208 by omega) (show 0 ≤ a4.toInt by omega) (show a4.toInt ≤ 100000100 by omega) (show 0 ≤ x34.toInt by omega) (show x34.toInt ≤ 100000208 by omega) (show (100000208 - x34.toInt).toNat < n3 by omega) hw hT hF  (lv_sub hl [1, 2, 3, 4, 5, 0] rfl)
        · refine lv_if_ne (tgt := 39) hx hb dX12_firstOpen_21 (by decide) (fun _ => ?_) (fun c => absurd c (by decide))
          refine lv_aload_n hx hb dX12_firstOpen_39 rfl (lv_at hl 0 rfl) ?_
          refine lv_iload_n hx hb dX12_firstOpen_40 rfl (lv_at hl 1 rfl) ?_
          refine lv_iload hx hb dX12_firstOpen_41 (lv_at hl 5 rfl) ?_
          refine tk_Vi hC hK hw hT hA hE hSR kM_at0 (by decide) rfl (k_X12_isLifted_3 l adK adV dC dI cy ad B (by omega) (by omega) qr s1   a1 (show 0 ≤ a1.toInt by omega) (show a1.toInt ≤ 11 by omega) v3_5 (show 0 ≤ v3_5.toInt by omega) (show v3_5.toInt ≤ 100000100 by omega) w16 H.size hT ) (cwV 2 hC.2.2.2.2 gX12_firstOpen_X12_isLifted rfl rfl rfl (by decide +kernel) ⟨Nat.le_of_ble_eq_true rfl, Nat.le_of_ble_eq_true rfl⟩) rfl hl.1 rfl (Nat.le_of_ble_eq_true rfl) dX12_firstOpen_43 (fun r35 w37 H locs hp36 hw => ?_)
          obtain ⟨hT, k38, hg41⟩ := hp36
          have hF := hF.tr k38 (by decide)
          have c42 := k38.gi kM_at12 rfl c19
          rcases hg41 with rfl | ⟨rfl, ⟨x39, c40, rx39, tx39⟩⟩
          · refine lv_if_eq (tgt := 55) hx hb dX12_firstOpen_46 (by decide) (fun _ => ?_) (fun c => absurd (by decide) c)
            refine lv_iload hx hb dX12_firstOpen_55 (lv_at hl 5 rfl) ?_
            exact tk_iret hC hr hlocks hK ⟨hT, hF, (Or.inr ⟨(show 0 ≤ v3_5.toInt by omega), (show v3_5.toInt ≤ 100000100 by omega), c42⟩)⟩ hw dX12_firstOpen_57
          · refine lv_if_eq (tgt := 55) hx hb dX12_firstOpen_46 (by decide) (fun c => absurd c (by decide)) (fun _ => ?_)
            obtain ⟨x43, ex43⟩ : ∃ y : Int32, y = v3_5 + Int32.ofInt 1 := ⟨_, rfl⟩
            refine lv_iinc (v := x43) (lv' := [(5, .int x43), (0, .ref (ad 0)), (1, .int a1), (2, .int a2), (3, .int a3), (4, .int a4)]) hx hb dX12_firstOpen_49 hl (k := 5) rfl ex43.symm (by decide) rfl (fun ls hl => ?_)
            have ex43 : x43.toInt = v3_5.toInt + 1 := by rw [ex43]; exact wk_add (y := 1) (show -2147483648 ≤ v3_5.toInt + 1 by omega) (show v3_5.toInt + 1 ≤ 2147483647 by omega)
            refine lv_goto (tgt := 3) hx hb dX12_firstOpen_52 (by decide) ?_
            exact ih3 x43 H locs ls w37 (show 0 ≤ a1.toInt by omega) (show a1.toInt ≤ 11 by omega) (show 0 ≤ a2.toInt by omega) (show a2.toInt ≤ 9 by omega) (show 0 ≤ a3.toInt by omega) (show a3.toInt ≤ 100000208 by omega) (show 0 ≤ a4.toInt by omega) (show a4.toInt ≤ 100000100 by omega) (show 0 ≤ x43.toInt by omega) (show x43.toInt ≤ 100000208 by omega) (show (100000208 - x43.toInt).toNat < n3 by omega) hw hT hF  (lv_sub hl [1, 2, 3, 4, 5, 0] rfl)
  refine lv_iload_n hx hb dX12_firstOpen_0 rfl (lv_at hl 3 rfl) ?_
  refine lv_istore (lv' := [(5, .int a3), (0, .ref (ad 0)), (1, .int a1), (2, .int a2), (3, .int a3), (4, .int a4)]) hx hb dX12_firstOpen_1 hl (by decide) rfl (fun ls hl => ?_)
  exact L3 ((100000208 - a3.toInt).toNat + 1) a3 s.heap locs ls w0 (show 0 ≤ a1.toInt by omega) (show a1.toInt ≤ 11 by omega) (show 0 ≤ a2.toInt by omega) (show a2.toInt ≤ 9 by omega) (show 0 ≤ a3.toInt by omega) (show a3.toInt ≤ 100000208 by omega) (show 0 ≤ a4.toInt by omega) (show a4.toInt ≤ 100000100 by omega) (show 0 ≤ a3.toInt by omega) (show a3.toInt ≤ 100000208 by omega) (Nat.lt_succ_self _) hw hT hF  (lv_sub hl [1, 2, 3, 4, 5, 0] rfl)
abbrev P_X12_firstOpen_3 (ad : Nat → Nat) (cy : Nat → ClassId) (B : Int) (qr : Nat) (s1 : Int) (a1 : Int32) (a2 : Int32) (a3 : Int32) (a4 : Int32) (w0 : va_W) : Int32 → va_W → Prop := fun r u => TW ksM ad cy B qr 12 u ∧ FE ksM ([] : List (Nat × Nat × Nat)) w0 u ∧ ((0 ≤ r.toInt ∧ r.toInt ≤ 100000100) ∨ (0 ≤ r.toInt ∧ r.toInt ≤ 100000100 ∧ gi u 12 (10 * a1.toInt + 10).toNat = a2))
set_option maxHeartbeats 4000000 in
set_option maxRecDepth 100000 in
theorem k_X12_firstOpen_3 (l : Launch) (adK adV : Nat → Nat) (dC : Nat → ClassId) (dI : Nat → Nat → Nat) (cy : Nat → ClassId) (ad : Nat → Nat) (B : Int) (hB0 : 100000 ≤ B) (hB1 : B ≤ 1073741824) (qr : Nat) (s1 : Int)  (a1 : Int32) (ra1 : 0 ≤ a1.toInt) (ta1 : a1.toInt ≤ 11) (a2 : Int32) (ra2 : 0 ≤ a2.toInt) (ta2 : a2.toInt ≤ 9) (a3 : Int32) (ra3 : 0 ≤ a3.toInt) (ta3 : a3.toInt ≤ 100000100) (a4 : Int32) (ra4 : 0 ≤ a4.toInt) (ta4 : a4.toInt ≤ 100000100) (w0 : va_W) (sz : Nat) (hT : TW ksM ad cy B qr 12 w0)  : Met l yX12_firstOpen wsX12_firstOpen ({ frames := 4, cells := 0, slots := 0, locals := 80 }) (va_Pc [.ref (ad 0), .int a1, .int a2, .int a3, .int a4] (wpreS adK adV dC dI cy sz w0)) (va_Qi (P_X12_firstOpen_3 ad cy B qr s1 a1 a2 a3 a4 w0) (fun u : va_W => wpost dC dI cy (va_A w0 sz) u) (va_A w0 sz)) 0 0 (va_A w0 sz) := by
  refine Met.ofW (cc := cX12_firstOpen) (maxL := 6) (ret := (some .int)) (by decide) rfl ?_
  intro p e s m args below meth c s₁ Bk hml hv
  obtain ⟨rfl, ⟨hsz, hP, hK, hD0⟩, hE, hSR⟩ := hv
  have hx := Bk.exec
  have hb := Bk.bytes
  have hr := Bk.returns
  have hlocks := Bk.notSynchronized
  have hC : CallFix p m c cX12_firstOpen 6 s _ wsX12_firstOpen RX12 := ⟨hx, hb, hml, findClass_of_methodNamed Bk.named, atoms_spec (ws := wsX12_firstOpen) Bk.pre⟩
  subst hsz
  have hD := hD0.self (sz := s.heap.size)
  generalize hAe : va_A w0 s.heap.size = A at hD hE ⊢
  have hA : ∀ q : Nat, s.heap.size ≤ q → A q := fun q h => by rw [← hAe]; exact Or.inr h
  have hw : Wd dC dI A s.heap s.heap [] w0 := ⟨hP, hD, va_S.rf⟩
  have hF : FE ksM ([] : List (Nat × Nat × Nat)) w0 w0 := FE.rf
  have hl := lv_entry ([.ref (ad 0), .int a1, .int a2, .int a3, .int a4]) (n := 6) (Nat.le_of_ble_eq_true rfl)
  rw [lg_entry_eq]
  generalize (lg_sl ([.ref (ad 0), .int a1, .int a2, .int a3, .int a4]) ++ List.replicate (6 - (lg_sl ([.ref (ad 0), .int a1, .int a2, .int a3, .int a4])).length) Slot.unset).toArray = ls at hl ⊢
  have hl : lv_has ls 6 [(0, .ref (ad 0)), (1, .int a1), (2, .int a2), (3, .int a3), (4, .int a4)] := hl
  generalize hloc : ([] : List Loc) = locs at hw ⊢
  have L3 : ∀ (n3 : Nat) (v3_5 : Int32) (H : Heap) (locs : List Loc) (ls : Array Slot) (w1 : va_W), 0 ≤ a1.toInt → a1.toInt ≤ 11 → 0 ≤ a2.toInt → a2.toInt ≤ 9 → 0 ≤ a3.toInt → a3.toInt ≤ 100000100 → 0 ≤ a4.toInt → a4.toInt ≤ 100000100 → 0 ≤ v3_5.toInt → v3_5.toInt ≤ 100000104 → (100000104 - v3_5.toInt).toNat < n3 → Wd dC dI A s.heap H locs w1 → TW ksM ad cy B qr 12 w1 → FE ksM ([] : List (Nat × Nat × Nat)) w0 w1 → lv_has ls 6 [(0, .ref (ad 0)), (1, .int a1), (2, .int a2), (3, .int a3), (4, .int a4), (5, .int v3_5)] → W p l e ({ frames := 4, cells := 0, slots := 0, locals := 80 }) s m (List.toArray [.ref (ad 0), .int a1, .int a2, .int a3, .int a4]) below meth c H locs 0 0 (MQ below (va_Qi (P_X12_firstOpen_3 ad cy B qr s1 a1 a2 a3 a4 w0) (fun u : va_W => wpost dC dI cy A u) A) (List.toArray [.ref (ad 0), .int a1, .int a2, .int a3, .int a4]) s 0 0 A) (F0 m 3 ls []) := by
    intro n3
    induction n3 with
    | zero => intro v3_5 H locs ls w1 r2 t3 r4 t5 r6 t7 r8 t9 r10 t11 hm3 hw hT hF hl; omega
    | succ n3 ih3 =>
      intro v3_5 H locs ls w1 r2 t3 r4 t5 r6 t7 r8 t9 r10 t11 hm3 hw hT hF hl
      refine lv_iload hx hb dX12_firstOpen_3 (lv_at hl 5 rfl) ?_
      refine lv_iload hx hb dX12_firstOpen_5 (lv_at hl 4 rfl) ?_
      refine lv_icmp_gt (tgt := 58) hx hb dX12_firstOpen_7 (by decide) (fun c12 => ?_) (fun c12 => ?_)
      · have c12 : a4.toInt < v3_5.toInt := wk_lt.mp c12
        refine lv_ldcw (v := 100000000) hx hb hC.2.2.2.1 (hC.2.2.2.2 _ (List.mem_of_getElem? (i := 1) rfl)) dX12_firstOpen_58 ?_
        exact tk_iret hC hr hlocks hK ⟨hT, hF, (Or.inl ⟨(by decide), (by decide)⟩)⟩ hw dX12_firstOpen_61
      · have c12 : v3_5.toInt ≤ a4.toInt := wk_ltF c12
        refine lv_aload_n hx hb dX12_firstOpen_10 rfl (lv_at hl 0 rfl) ?_
        refine lv_iload_n hx hb dX12_firstOpen_11 rfl (lv_at hl 1 rfl) ?_
        refine lv_iload_n hx hb dX12_firstOpen_12 rfl (lv_at hl 2 rfl) ?_
        refine lv_iload hx hb dX12_firstOpen_13 (lv_at hl 5 rfl) ?_
        refine lv_bipush (v := 24) hx hb dX12_firstOpen_15 (by decide) ?_
        refine lv_idiv hx hb dX12_firstOpen_17 (by decide) ?_
        refine lv_topi (fun x13 ex13 => ?_)
        have ex13 : x13.toInt = v3_5.toInt / (24 : Int) := by rw [ex13]; exact wk_div (show 0 ≤ v3_5.toInt by omega) (show 0 < (24 : Int) by decide)
        refine tk_Vi hC hK hw hT hA hE hSR kM_at0 (by decide) rfl (k_X12_isDayFor_3 l adK adV dC dI cy ad B (by omega) (by omega) qr s1   a1 (show 0 ≤ a1.toInt by omega) (show a1.toInt ≤ 11 by omega) a2 (show 0 ≤ a2.toInt by omega) (show a2.toInt ≤ 9 by omega) x13 (show 0 ≤ x13.toInt by omega) (show x13.toInt ≤ 4166670 by omega) w1 H.size hT ) (cwV 3 hC.2.2.2.2 gX12_firstOpen_X12_isDayFor rfl rfl rfl (by decide +kernel) ⟨Nat.le_of_ble_eq_true rfl, Nat.le_of_ble_eq_true rfl⟩) rfl hl.1 rfl (Nat.le_of_ble_eq_true rfl) dX12_firstOpen_18 (fun r14 w16 H locs hp15 hw => ?_)
        obtain ⟨hT, k17, hg20⟩ := hp15
        have hF := hF.tr k17 (by decide)
        rcases hg20 with rfl | ⟨rfl, c18⟩ | rfl | ⟨rfl, c19⟩
        · refine lv_if_ne (tgt := 39) hx hb dX12_firstOpen_21 (by decide) (fun c => absurd (by decide) c) (fun _ => ?_)
          refine lv_iload hx hb dX12_firstOpen_24 (lv_at hl 5 rfl) ?_
          refine lv_bipush (v := 24) hx hb dX12_firstOpen_26 (by decide) ?_
          refine lv_idiv hx hb dX12_firstOpen_28 (by decide) ?_
          refine lv_topi (fun x21 ex21 => ?_)
          have ex21 : x21.toInt = v3_5.toInt / (24 : Int) := by rw [ex21]; exact wk_div (show 0 ≤ v3_5.toInt by omega) (show 0 < (24 : Int) by decide)
          refine lv_iconst (v := 1) hx hb dX12_firstOpen_29 (by decide) ?_
          refine lv_iadd hx hb dX12_firstOpen_30 ?_
          refine lv_topi (fun x22 ex22 => ?_)
          have ex22 : x22.toInt = x21.toInt + (1 : Int) := by rw [ex22]; exact wk_add (show (-2147483648) ≤ x21.toInt + (1 : Int) by omega) (show x21.toInt + (1 : Int) ≤ 2147483647 by omega)
          refine lv_bipush (v := 24) hx hb dX12_firstOpen_31 (by decide) ?_
          refine lv_imul hx hb dX12_firstOpen_33 ?_
          refine lv_topi (fun x23 ex23 => ?_)
          have ex23 : x23.toInt = x22.toInt * (24 : Int) := by rw [ex23]; exact wk_mul (show (-2147483648) ≤ x22.toInt * (24 : Int) by omega) (show x22.toInt * (24 : Int) ≤ 2147483647 by omega)
          refine lv_istore (lv' := [(5, .int x23), (0, .ref (ad 0)), (1, .int a1), (2, .int a2), (3, .int a3), (4, .int a4)]) hx hb dX12_firstOpen_34 hl (by decide) rfl (fun ls hl => ?_)
          refine lv_goto (tgt := 3) hx hb dX12_firstOpen_36 (by decide) ?_
          exact ih3 x23 H locs ls w16 (show 0 ≤ a1.toInt by omega) (show a1.toInt ≤ 11 by omega) (show 0 ≤ a2.toInt by omega) (show a2.toInt ≤ 9 by omega) (show 0 ≤ a3.toInt by omega) (show a3.toInt ≤ 100000100 by omega) (show 0 ≤ a4.toInt by omega) (show a4.toInt ≤ 100000100 by omega) (show 0 ≤ x23.toInt by omega) (show x23.toInt ≤ 100000104 by omega) (show (100000104 - x23.toInt).toNat < n3 by omega) hw hT hF  (lv_sub hl [1, 2, 3, 4, 5, 0] rfl)
        · refine lv_if_ne (tgt := 39) hx hb dX12_firstOpen_21 (by decide) (fun c => absurd (by decide) c) (fun _ => ?_)
          refine lv_iload hx hb dX12_firstOpen_24 (lv_at hl 5 rfl) ?_
          refine lv_bipush (v := 24) hx hb dX12_firstOpen_26 (by decide) ?_
          refine lv_idiv hx hb dX12_firstOpen_28 (by decide) ?_
          refine lv_topi (fun x24 ex24 => ?_)
          have ex24 : x24.toInt = v3_5.toInt / (24 : Int) := by rw [ex24]; exact wk_div (show 0 ≤ v3_5.toInt by omega) (show 0 < (24 : Int) by decide)
          refine lv_iconst (v := 1) hx hb dX12_firstOpen_29 (by decide) ?_
          refine lv_iadd hx hb dX12_firstOpen_30 ?_
          refine lv_topi (fun x25 ex25 => ?_)
          have ex25 : x25.toInt = x24.toInt + (1 : Int) := by rw [ex25]; exact wk_add (show (-2147483648) ≤ x24.toInt + (1 : Int) by omega) (show x24.toInt + (1 : Int) ≤ 2147483647 by omega)
          refine lv_bipush (v := 24) hx hb dX12_firstOpen_31 (by decide) ?_
          refine lv_imul hx hb dX12_firstOpen_33 ?_
          refine lv_topi (fun x26 ex26 => ?_)
          have ex26 : x26.toInt = x25.toInt * (24 : Int) := by rw [ex26]; exact wk_mul (show (-2147483648) ≤ x25.toInt * (24 : Int) by omega) (show x25.toInt * (24 : Int) ≤ 2147483647 by omega)
          refine lv_istore (lv' := [(5, .int x26), (0, .ref (ad 0)), (1, .int a1), (2, .int a2), (3, .int a3), (4, .int a4)]) hx hb dX12_firstOpen_34 hl (by decide) rfl (fun ls hl => ?_)
          refine lv_goto (tgt := 3) hx hb dX12_firstOpen_36 (by decide) ?_
          exact ih3 x26 H locs ls w16 (show 0 ≤ a1.toInt by omega) (show a1.toInt ≤ 11 by omega) (show 0 ≤ a2.toInt by omega) (show a2.toInt ≤ 9 by omega) (show 0 ≤ a3.toInt by omega) (show a3.toInt ≤ 100000100 by omega) (show 0 ≤ a4.toInt by omega) (show a4.toInt ≤ 100000100 by omega) (show 0 ≤ x26.toInt by omega) (show x26.toInt ≤ 100000104 by omega) (show (100000104 - x26.toInt).toNat < n3 by omega) hw hT hF  (lv_sub hl [1, 2, 3, 4, 5, 0] rfl)
        · refine lv_if_ne (tgt := 39) hx hb dX12_firstOpen_21 (by decide) (fun _ => ?_) (fun c => absurd c (by decide))
          refine lv_aload_n hx hb dX12_firstOpen_39 rfl (lv_at hl 0 rfl) ?_
          refine lv_iload_n hx hb dX12_firstOpen_40 rfl (lv_at hl 1 rfl) ?_
          refine lv_iload hx hb dX12_firstOpen_41 (lv_at hl 5 rfl) ?_
          refine tk_Vi hC hK hw hT hA hE hSR kM_at0 (by decide) rfl (k_X12_isLifted_3 l adK adV dC dI cy ad B (by omega) (by omega) qr s1   a1 (show 0 ≤ a1.toInt by omega) (show a1.toInt ≤ 11 by omega) v3_5 (show 0 ≤ v3_5.toInt by omega) (show v3_5.toInt ≤ 100000100 by omega) w16 H.size hT ) (cwV 2 hC.2.2.2.2 gX12_firstOpen_X12_isLifted rfl rfl rfl (by decide +kernel) ⟨Nat.le_of_ble_eq_true rfl, Nat.le_of_ble_eq_true rfl⟩) rfl hl.1 rfl (Nat.le_of_ble_eq_true rfl) dX12_firstOpen_43 (fun r27 w29 H locs hp28 hw => ?_)
          obtain ⟨hT, k30, hg33⟩ := hp28
          have hF := hF.tr k30 (by decide)
          rcases hg33 with rfl | ⟨rfl, ⟨x31, c32, rx31, tx31⟩⟩
          · refine lv_if_eq (tgt := 55) hx hb dX12_firstOpen_46 (by decide) (fun _ => ?_) (fun c => absurd (by decide) c)
            refine lv_iload hx hb dX12_firstOpen_55 (lv_at hl 5 rfl) ?_
            exact tk_iret hC hr hlocks hK ⟨hT, hF, (Or.inl ⟨(show 0 ≤ v3_5.toInt by omega), (show v3_5.toInt ≤ 100000100 by omega)⟩)⟩ hw dX12_firstOpen_57
          · refine lv_if_eq (tgt := 55) hx hb dX12_firstOpen_46 (by decide) (fun c => absurd c (by decide)) (fun _ => ?_)
            obtain ⟨x34, ex34⟩ : ∃ y : Int32, y = v3_5 + Int32.ofInt 1 := ⟨_, rfl⟩
            refine lv_iinc (v := x34) (lv' := [(5, .int x34), (0, .ref (ad 0)), (1, .int a1), (2, .int a2), (3, .int a3), (4, .int a4)]) hx hb dX12_firstOpen_49 hl (k := 5) rfl ex34.symm (by decide) rfl (fun ls hl => ?_)
            have ex34 : x34.toInt = v3_5.toInt + 1 := by rw [ex34]; exact wk_add (y := 1) (show -2147483648 ≤ v3_5.toInt + 1 by omega) (show v3_5.toInt + 1 ≤ 2147483647 by omega)
            refine lv_goto (tgt := 3) hx hb dX12_firstOpen_52 (by decide) ?_
            exact ih3 x34 H locs ls w29 (show 0 ≤ a1.toInt by omega) (show a1.toInt ≤ 11 by omega) (show 0 ≤ a2.toInt by omega) (show a2.toInt ≤ 9 by omega) (show 0 ≤ a3.toInt by omega) (show a3.toInt ≤ 100000100 by omega) (show 0 ≤ a4.toInt by omega) (show a4.toInt ≤ 100000100 by omega) (show 0 ≤ x34.toInt by omega) (show x34.toInt ≤ 100000104 by omega) (show (100000104 - x34.toInt).toNat < n3 by omega) hw hT hF  (lv_sub hl [1, 2, 3, 4, 5, 0] rfl)
        · refine lv_if_ne (tgt := 39) hx hb dX12_firstOpen_21 (by decide) (fun _ => ?_) (fun c => absurd c (by decide))
          refine lv_aload_n hx hb dX12_firstOpen_39 rfl (lv_at hl 0 rfl) ?_
          refine lv_iload_n hx hb dX12_firstOpen_40 rfl (lv_at hl 1 rfl) ?_
          refine lv_iload hx hb dX12_firstOpen_41 (lv_at hl 5 rfl) ?_
          refine tk_Vi hC hK hw hT hA hE hSR kM_at0 (by decide) rfl (k_X12_isLifted_3 l adK adV dC dI cy ad B (by omega) (by omega) qr s1   a1 (show 0 ≤ a1.toInt by omega) (show a1.toInt ≤ 11 by omega) v3_5 (show 0 ≤ v3_5.toInt by omega) (show v3_5.toInt ≤ 100000100 by omega) w16 H.size hT ) (cwV 2 hC.2.2.2.2 gX12_firstOpen_X12_isLifted rfl rfl rfl (by decide +kernel) ⟨Nat.le_of_ble_eq_true rfl, Nat.le_of_ble_eq_true rfl⟩) rfl hl.1 rfl (Nat.le_of_ble_eq_true rfl) dX12_firstOpen_43 (fun r35 w37 H locs hp36 hw => ?_)
          obtain ⟨hT, k38, hg41⟩ := hp36
          have hF := hF.tr k38 (by decide)
          have c42 := k38.gi kM_at12 rfl c19
          rcases hg41 with rfl | ⟨rfl, ⟨x39, c40, rx39, tx39⟩⟩
          · refine lv_if_eq (tgt := 55) hx hb dX12_firstOpen_46 (by decide) (fun _ => ?_) (fun c => absurd (by decide) c)
            refine lv_iload hx hb dX12_firstOpen_55 (lv_at hl 5 rfl) ?_
            exact tk_iret hC hr hlocks hK ⟨hT, hF, (Or.inr ⟨(show 0 ≤ v3_5.toInt by omega), (show v3_5.toInt ≤ 100000100 by omega), c42⟩)⟩ hw dX12_firstOpen_57
          · refine lv_if_eq (tgt := 55) hx hb dX12_firstOpen_46 (by decide) (fun c => absurd c (by decide)) (fun _ => ?_)
            obtain ⟨x43, ex43⟩ : ∃ y : Int32, y = v3_5 + Int32.ofInt 1 := ⟨_, rfl⟩
            refine lv_iinc (v := x43) (lv' := [(5, .int x43), (0, .ref (ad 0)), (1, .int a1), (2, .int a2), (3, .int a3), (4, .int a4)]) hx hb dX12_firstOpen_49 hl (k := 5) rfl ex43.symm (by decide) rfl (fun ls hl => ?_)
            have ex43 : x43.toInt = v3_5.toInt + 1 := by rw [ex43]; exact wk_add (y := 1) (show -2147483648 ≤ v3_5.toInt + 1 by omega) (show v3_5.toInt + 1 ≤ 2147483647 by omega)
            refine lv_goto (tgt := 3) hx hb dX12_firstOpen_52 (by decide) ?_
            exact ih3 x43 H locs ls w37 (show 0 ≤ a1.toInt by omega) (show a1.toInt ≤ 11 by omega) (show 0 ≤ a2.toInt by omega) (show a2.toInt ≤ 9 by omega) (show 0 ≤ a3.toInt by omega) (show a3.toInt ≤ 100000100 by omega) (show 0 ≤ a4.toInt by omega) (show a4.toInt ≤ 100000100 by omega) (show 0 ≤ x43.toInt by omega) (show x43.toInt ≤ 100000104 by omega) (show (100000104 - x43.toInt).toNat < n3 by omega) hw hT hF  (lv_sub hl [1, 2, 3, 4, 5, 0] rfl)
  refine lv_iload_n hx hb dX12_firstOpen_0 rfl (lv_at hl 3 rfl) ?_
  refine lv_istore (lv' := [(5, .int a3), (0, .ref (ad 0)), (1, .int a1), (2, .int a2), (3, .int a3), (4, .int a4)]) hx hb dX12_firstOpen_1 hl (by decide) rfl (fun ls hl => ?_)
  exact L3 ((100000104 - a3.toInt).toNat + 1) a3 s.heap locs ls w0 (show 0 ≤ a1.toInt by omega) (show a1.toInt ≤ 11 by omega) (show 0 ≤ a2.toInt by omega) (show a2.toInt ≤ 9 by omega) (show 0 ≤ a3.toInt by omega) (show a3.toInt ≤ 100000100 by omega) (show 0 ≤ a4.toInt by omega) (show a4.toInt ≤ 100000100 by omega) (show 0 ≤ a3.toInt by omega) (show a3.toInt ≤ 100000104 by omega) (Nat.lt_succ_self _) hw hT hF  (lv_sub hl [1, 2, 3, 4, 5, 0] rfl)
abbrev P_X12_reaches_2 (ad : Nat → Nat) (cy : Nat → ClassId) (B : Int) (qr : Nat) (s1 : Int) (a1 : Int32) (a2 : Int32) (a3 : Int32) (a4 : Int32) (w0 : va_W) : Int32 → va_W → Prop := fun r u => TW ksM ad cy B qr 12 u ∧ FE ksM [(77, 0, 10), (78, 0, 10)] w0 u ∧ ((0 ≤ r.toInt ∧ r.toInt ≤ 100000100))
set_option maxHeartbeats 4000000 in
set_option maxRecDepth 100000 in
theorem k_X12_reaches_2 (l : Launch) (adK adV : Nat → Nat) (dC : Nat → ClassId) (dI : Nat → Nat → Nat) (cy : Nat → ClassId) (ad : Nat → Nat) (B : Int) (hB0 : 100000 ≤ B) (hB1 : B ≤ 1073741824) (qr : Nat) (s1 : Int)  (a1 : Int32) (ra1 : 0 ≤ a1.toInt) (ta1 : a1.toInt ≤ 9) (a2 : Int32) (ra2 : 0 ≤ a2.toInt) (ta2 : a2.toInt ≤ 9) (a3 : Int32) (ra3 : 0 ≤ a3.toInt) (ta3 : a3.toInt ≤ 100000100) (a4 : Int32) (ra4 : 0 ≤ a4.toInt) (ta4 : a4.toInt ≤ 100000100) (w0 : va_W) (sz : Nat) (hT : TW ksM ad cy B qr 12 w0)  : Met l yX12_reaches wsX12_reaches ({ frames := 5, cells := 0, slots := 0, locals := 105 }) (va_Pc [.ref (ad 0), .int a1, .int a2, .int a3, .int a4] (wpreS adK adV dC dI cy sz w0)) (va_Qi (P_X12_reaches_2 ad cy B qr s1 a1 a2 a3 a4 w0) (fun u : va_W => wpost dC dI cy (va_A w0 sz) u) (va_A w0 sz)) 0 0 (va_A w0 sz) := by
  refine Met.ofW (cc := cX12_reaches) (maxL := 9) (ret := (some .int)) (by decide) rfl ?_
  intro p e s m args below meth c s₁ Bk hml hv
  obtain ⟨rfl, ⟨hsz, hP, hK, hD0⟩, hE, hSR⟩ := hv
  have hx := Bk.exec
  have hb := Bk.bytes
  have hr := Bk.returns
  have hlocks := Bk.notSynchronized
  have hC : CallFix p m c cX12_reaches 9 s _ wsX12_reaches RX12 := ⟨hx, hb, hml, findClass_of_methodNamed Bk.named, atoms_spec (ws := wsX12_reaches) Bk.pre⟩
  subst hsz
  have hD := hD0.self (sz := s.heap.size)
  generalize hAe : va_A w0 s.heap.size = A at hD hE ⊢
  have hA : ∀ q : Nat, s.heap.size ≤ q → A q := fun q h => by rw [← hAe]; exact Or.inr h
  have hw : Wd dC dI A s.heap s.heap [] w0 := ⟨hP, hD, va_S.rf⟩
  have hF : FE ksM [(77, 0, 10), (78, 0, 10)] w0 w0 := FE.rf
  have hl := lv_entry ([.ref (ad 0), .int a1, .int a2, .int a3, .int a4]) (n := 9) (Nat.le_of_ble_eq_true rfl)
  rw [lg_entry_eq]
  generalize (lg_sl ([.ref (ad 0), .int a1, .int a2, .int a3, .int a4]) ++ List.replicate (9 - (lg_sl ([.ref (ad 0), .int a1, .int a2, .int a3, .int a4])).length) Slot.unset).toArray = ls at hl ⊢
  have hl : lv_has ls 9 [(0, .ref (ad 0)), (1, .int a1), (2, .int a2), (3, .int a3), (4, .int a4)] := hl
  generalize hloc : ([] : List Loc) = locs at hw ⊢
  have hinX12 : ∀ w ∈ u_ws RX12 TX12 42, w ∈ wsX12_reaches := fun _ h => List.mem_cons_of_mem _ (List.mem_append_right _ (h))
  have L44 : ∀ (n44 : Nat) (v44_5 : Int32) (H : Heap) (locs : List Loc) (ls : Array Slot) (w1 : va_W), 0 ≤ a1.toInt → a1.toInt ≤ 9 → 0 ≤ a2.toInt → a2.toInt ≤ 9 → 0 ≤ a3.toInt → a3.toInt ≤ 100000100 → 0 ≤ a4.toInt → a4.toInt ≤ 100000100 → 0 ≤ v44_5.toInt → v44_5.toInt ≤ 10 → 0 ≤ (sumG 19 10 w1) → (10 - (sumG 19 10 w1)).toNat < n44 → Wd dC dI A s.heap H locs w1 → TW ksM ad cy B qr 12 w1 → FE ksM [(77, 0, 10), (78, 0, 10)] w0 w1 → lv_has ls 9 [(0, .ref (ad 0)), (1, .int a1), (2, .int a2), (3, .int a3), (4, .int a4), (5, .int v44_5)] → W p l e ({ frames := 5, cells := 0, slots := 0, locals := 105 }) s m (List.toArray [.ref (ad 0), .int a1, .int a2, .int a3, .int a4]) below meth c H locs 0 0 (MQ below (va_Qi (P_X12_reaches_2 ad cy B qr s1 a1 a2 a3 a4 w0) (fun u : va_W => wpost dC dI cy A u) A) (List.toArray [.ref (ad 0), .int a1, .int a2, .int a3, .int a4]) s 0 0 A) (F0 m 44 ls []) := by
    intro n44
    induction n44 with
    | zero => intro v44_5 H locs ls w1 r2 t3 r4 t5 r6 t7 r8 t9 r10 t11 g12 hm44 hw hT hF hl; omega
    | succ n44 ih44 =>
      intro v44_5 H locs ls w1 r2 t3 r4 t5 r6 t7 r8 t9 r10 t11 g12 hm44 hw hT hF hl
      have L145 : ∀ (n145 : Nat) (v145_5 : Int32) (v145_6 : Int32) (f145_12_0 : Int32) (H : Heap) (locs : List Loc) (ls : Array Slot) (w13 : va_W), 0 ≤ a1.toInt → a1.toInt ≤ 9 → 0 ≤ a2.toInt → a2.toInt ≤ 9 → 0 ≤ a3.toInt → a3.toInt ≤ 100000100 → 0 ≤ a4.toInt → a4.toInt ≤ 100000100 → 0 ≤ v145_5.toInt → v145_5.toInt ≤ 9 → 0 ≤ v145_6.toInt → v145_6.toInt ≤ 12 → 0 ≤ f145_12_0.toInt → f145_12_0.toInt ≤ 10 → (sumG 19 10 w1) + 1 ≤ (sumG 19 10 w13) → (12 - v145_6.toInt).toNat < n145 → Wd dC dI A s.heap H locs w13 → TW ksM ad cy B qr 12 w13 → FE ksM [(77, 0, 10), (78, 0, 10)] w0 w13 → gi w13 12 0 = f145_12_0 → lv_has ls 9 [(0, .ref (ad 0)), (1, .int a1), (2, .int a2), (3, .int a3), (4, .int a4), (5, .int v145_5), (6, .int v145_6)] → W p l e ({ frames := 5, cells := 0, slots := 0, locals := 105 }) s m (List.toArray [.ref (ad 0), .int a1, .int a2, .int a3, .int a4]) below meth c H locs 0 0 (MQ below (va_Qi (P_X12_reaches_2 ad cy B qr s1 a1 a2 a3 a4 w0) (fun u : va_W => wpost dC dI cy A u) A) (List.toArray [.ref (ad 0), .int a1, .int a2, .int a3, .int a4]) s 0 0 A) (F0 m 145 ls []) := by
        intro n145
        induction n145 with
        | zero => intro v145_5 v145_6 f145_12_0 H locs ls w13 r14 t15 r16 t17 r18 t19 r20 t21 r22 t23 r24 t25 r26 t27 g29 hm145 hw hT hF c28 hl; omega
        | succ n145 ih145 =>
          intro v145_5 v145_6 f145_12_0 H locs ls w13 r14 t15 r16 t17 r18 t19 r20 t21 r22 t23 r24 t25 r26 t27 g29 hm145 hw hT hF c28 hl
          have J259 : ∀ (f259_12_1 : Int32) (H : Heap) (locs : List Loc) (ls : Array Slot) (w30 : va_W), 0 ≤ a1.toInt → a1.toInt ≤ 9 → 0 ≤ a2.toInt → a2.toInt ≤ 9 → 0 ≤ a3.toInt → a3.toInt ≤ 100000100 → 0 ≤ a4.toInt → a4.toInt ≤ 100000100 → 0 ≤ v145_5.toInt → v145_5.toInt ≤ 9 → 0 ≤ v145_6.toInt → v145_6.toInt ≤ 11 → 0 ≤ f145_12_0.toInt → f145_12_0.toInt ≤ 10 → 1 ≤ f259_12_1.toInt → f259_12_1.toInt ≤ 12 → (sumG 19 10 w1) + 1 ≤ (sumG 19 10 w30) → Wd dC dI A s.heap H locs w30 → TW ksM ad cy B qr 12 w30 → FE ksM [(77, 0, 10), (78, 0, 10)] w0 w30 → gi w30 12 0 = f145_12_0 → gi w30 12 1 = f259_12_1 → lv_has ls 9 [(0, .ref (ad 0)), (1, .int a1), (2, .int a2), (3, .int a3), (4, .int a4), (5, .int v145_5), (6, .int v145_6)] → W p l e ({ frames := 5, cells := 0, slots := 0, locals := 105 }) s m (List.toArray [.ref (ad 0), .int a1, .int a2, .int a3, .int a4]) below meth c H locs 0 0 (MQ below (va_Qi (P_X12_reaches_2 ad cy B qr s1 a1 a2 a3 a4 w0) (fun u : va_W => wpost dC dI cy A u) A) (List.toArray [.ref (ad 0), .int a1, .int a2, .int a3, .int a4]) s 0 0 A) (F0 m 259 ls []) := by
            intro f259_12_1 H locs ls w30 r31 t32 r33 t34 r35 t36 r37 t38 r39 t40 r41 t42 r43 t44 r46 t47 g49 hw hT hF c45 c48 hl
            obtain ⟨x50, ex50⟩ : ∃ y : Int32, y = v145_6 + Int32.ofInt 1 := ⟨_, rfl⟩
            refine lv_iinc (v := x50) (lv' := [(6, .int x50), (0, .ref (ad 0)), (1, .int a1), (2, .int a2), (3, .int a3), (4, .int a4), (5, .int v145_5)]) hx hb dX12_reaches_259 hl (k := 6) rfl ex50.symm (by decide) rfl (fun ls hl => ?_)
            have ex50 : x50.toInt = v145_6.toInt + 1 := by rw [ex50]; exact wk_add (y := 1) (show -2147483648 ≤ v145_6.toInt + 1 by omega) (show v145_6.toInt + 1 ≤ 2147483647 by omega)
            refine lv_goto (tgt := 145) hx hb dX12_reaches_262 (by decide) ?_
            have gb51 : 0 ≤ sumG 19 10 w30 ∧ sumG 19 10 w30 ≤ 10 := hT.sum (lo := 0) (hi := 1) kM_at19 rfl (by decide) rfl
            exact ih145 v145_5 x50 f145_12_0 H locs ls w30 (show 0 ≤ a1.toInt by omega) (show a1.toInt ≤ 9 by omega) (show 0 ≤ a2.toInt by omega) (show a2.toInt ≤ 9 by omega) (show 0 ≤ a3.toInt by omega) (show a3.toInt ≤ 100000100 by omega) (show 0 ≤ a4.toInt by omega) (show a4.toInt ≤ 100000100 by omega) (show 0 ≤ v145_5.toInt by omega) (show v145_5.toInt ≤ 9 by omega) (show 0 ≤ x50.toInt by omega) (show x50.toInt ≤ 12 by omega) (show 0 ≤ f145_12_0.toInt by omega) (show f145_12_0.toInt ≤ 10 by omega) (show (sumG 19 10 w1) + 1 ≤ (sumG 19 10 w30) by omega) (show (12 - x50.toInt).toNat < n145 by omega) hw hT hF c45 (lv_sub hl [1, 2, 3, 4, 5, 6, 0] rfl)
          refine lv_iload hx hb dX12_reaches_145 (lv_at hl 6 rfl) ?_
          refine lv_aload_n hx hb dX12_reaches_147 rfl (lv_at hl 0 rfl) ?_
          refine tk_getA hC hK hw hT hinX12 kM_at0 (by decide) rfl 26 (by decide) (List.mem_of_getElem? (i := 4) rfl) rfl rfl dX12_reaches_148 ?_
          refine lv_iconst (v := 1) hx hb dX12_reaches_151 (by decide) ?_
          refine tk_ialdR hC hK hw hT kM_at12 rfl (by decide) (by decide) dX12_reaches_152 (fun x52 c53 Ex52 => ?_)
          have bx52 : 0 ≤ x52.toInt ∧ x52.toInt ≤ 12 := (tk_rg1 rfl).mp Ex52
          have c53 : gi w13 12 1 = x52 := c53
          refine lv_icmp_ge (tgt := 265) hx hb dX12_reaches_153 (by decide) (fun c54 => ?_) (fun c54 => ?_)
          · have c54 : x52.toInt ≤ v145_6.toInt := wk_le.mp c54
            refine lv_goto (tgt := 44) hx hb dX12_reaches_265 (by decide) ?_
            have gb55 : 0 ≤ sumG 19 10 w13 ∧ sumG 19 10 w13 ≤ 10 := hT.sum (lo := 0) (hi := 1) kM_at19 rfl (by decide) rfl
            exact ih44 v145_5 H locs ls w13 (show 0 ≤ a1.toInt by omega) (show a1.toInt ≤ 9 by omega) (show 0 ≤ a2.toInt by omega) (show a2.toInt ≤ 9 by omega) (show 0 ≤ a3.toInt by omega) (show a3.toInt ≤ 100000100 by omega) (show 0 ≤ a4.toInt by omega) (show a4.toInt ≤ 100000100 by omega) (show 0 ≤ v145_5.toInt by omega) (show v145_5.toInt ≤ 10 by omega) (show 0 ≤ (sumG 19 10 w13) by omega) (show (10 - (sumG 19 10 w13)).toNat < n44 by omega) hw hT hF  (lv_sub hl [0, 1, 2, 3, 4, 5] rfl)
          · have c54 : v145_6.toInt < x52.toInt := wk_leF c54
            refine lv_aload_n hx hb dX12_reaches_156 rfl (lv_at hl 0 rfl) ?_
            refine lv_iload hx hb dX12_reaches_157 (lv_at hl 6 rfl) ?_
            refine lv_iload hx hb dX12_reaches_159 (lv_at hl 5 rfl) ?_
            refine tk_Vi hC hK hw hT hA hE hSR kM_at0 (by decide) rfl (k_X12_isAt_1 l adK adV dC dI cy ad B (by omega) (by omega) qr s1   v145_6 (show 0 ≤ v145_6.toInt by omega) (show v145_6.toInt ≤ 11 by omega) v145_5 (show 0 ≤ v145_5.toInt by omega) (show v145_5.toInt ≤ 9 by omega) w13 H.size hT ) (cwV 2 hC.2.2.2.2 gX12_reaches_X12_isAt rfl rfl rfl (by decide +kernel) ⟨Nat.le_of_ble_eq_true rfl, Nat.le_of_ble_eq_true rfl⟩) rfl hl.1 rfl (Nat.le_of_ble_eq_true rfl) dX12_reaches_161 (fun r56 w58 H locs hp57 hw => ?_)
            obtain ⟨hT, k59, hg60⟩ := hp57
            have gs61 : sumG 19 10 w58 = sumG 19 10 w13 := sumG_FE 10 k59 kM_at19 (fun _ => rfl)
            have hF := hF.tr k59 (by decide)
            have c62 := k59.gi kM_at12 (by decide) c28
            have c63 := k59.gi kM_at12 (by decide) c53
            rcases hg60 with rfl | rfl
            · refine lv_if_ne (tgt := 170) hx hb dX12_reaches_164 (by decide) (fun c => absurd (by decide) c) (fun _ => ?_)
              refine lv_goto (tgt := 259) hx hb dX12_reaches_167 (by decide) ?_
              have gb64 : 0 ≤ sumG 19 10 w58 ∧ sumG 19 10 w58 ≤ 10 := hT.sum (lo := 0) (hi := 1) kM_at19 rfl (by decide) rfl
              exact J259 x52 H locs ls w58 (show 0 ≤ a1.toInt by omega) (show a1.toInt ≤ 9 by omega) (show 0 ≤ a2.toInt by omega) (show a2.toInt ≤ 9 by omega) (show 0 ≤ a3.toInt by omega) (show a3.toInt ≤ 100000100 by omega) (show 0 ≤ a4.toInt by omega) (show a4.toInt ≤ 100000100 by omega) (show 0 ≤ v145_5.toInt by omega) (show v145_5.toInt ≤ 9 by omega) (show 0 ≤ v145_6.toInt by omega) (show v145_6.toInt ≤ 11 by omega) (show 0 ≤ f145_12_0.toInt by omega) (show f145_12_0.toInt ≤ 10 by omega) (show 1 ≤ x52.toInt by omega) (show x52.toInt ≤ 12 by omega) (show (sumG 19 10 w1) + 1 ≤ (sumG 19 10 w58) by omega)  hw hT hF c62 c63 (lv_sub hl [0, 1, 2, 3, 4, 5, 6] rfl)
            · refine lv_if_ne (tgt := 170) hx hb dX12_reaches_164 (by decide) (fun _ => ?_) (fun c => absurd c (by decide))
              refine lv_aload_n hx hb dX12_reaches_170 rfl (lv_at hl 0 rfl) ?_
              refine lv_iload hx hb dX12_reaches_171 (lv_at hl 6 rfl) ?_
              refine lv_iload hx hb dX12_reaches_173 (lv_at hl 5 rfl) ?_
              refine lv_aload_n hx hb dX12_reaches_175 rfl (lv_at hl 0 rfl) ?_
              refine tk_getA hC hK hw hT hinX12 kM_at0 (by decide) rfl 35 (by decide) (List.mem_of_getElem? (i := 1) rfl) rfl rfl dX12_reaches_176 ?_
              refine lv_iload hx hb dX12_reaches_179 (lv_at hl 5 rfl) ?_
              refine tk_iald hC hK hw hT kM_at18 rfl rfl (show 0 ≤ v145_5.toInt by omega) (show v145_5.toInt < 10 by omega) dX12_reaches_181 (fun x65 c66 rx65 tx65 => ?_)
              refine lv_iload hx hb dX12_reaches_182 (lv_at hl 4 rfl) ?_
              refine tk_Vi hC hK hw hT hA hE hSR kM_at0 (by decide) rfl (k_X12_firstOpen_3 l adK adV dC dI cy ad B (by omega) (by omega) qr s1   v145_6 (show 0 ≤ v145_6.toInt by omega) (show v145_6.toInt ≤ 11 by omega) v145_5 (show 0 ≤ v145_5.toInt by omega) (show v145_5.toInt ≤ 9 by omega) x65 (show 0 ≤ x65.toInt by omega) (show x65.toInt ≤ 100000100 by omega) a4 (show 0 ≤ a4.toInt by omega) (show a4.toInt ≤ 100000100 by omega) w58 H.size hT ) (cwV 4 hC.2.2.2.2 gX12_reaches_X12_firstOpen rfl rfl rfl (by decide +kernel) ⟨Nat.le_of_ble_eq_true rfl, Nat.le_of_ble_eq_true rfl⟩) rfl hl.1 rfl (Nat.le_of_ble_eq_true rfl) dX12_reaches_184 (fun r67 w69 H locs hp68 hw => ?_)
              obtain ⟨hT, k70, hg76⟩ := hp68
              have gs77 : sumG 19 10 w69 = sumG 19 10 w58 := sumG_FE 10 k70 kM_at19 (fun _ => rfl)
              have hF := hF.tr k70 (by decide)
              have c78 := k70.gi kM_at12 (by decide) c62
              have c79 := k70.gi kM_at12 (by decide) c63
              rcases hg76 with ⟨g71, g72⟩ | ⟨g73, g74, c75⟩
              · refine lv_istore (lv' := [(7, .int r67), (0, .ref (ad 0)), (1, .int a1), (2, .int a2), (3, .int a3), (4, .int a4), (5, .int v145_5), (6, .int v145_6)]) hx hb dX12_reaches_187 hl (by decide) rfl (fun ls hl => ?_)
                refine lv_aload_n hx hb dX12_reaches_189 rfl (lv_at hl 1 rfl) ?_
                refine lv_iload hx hb dX12_reaches_190 (lv_at hl 7 rfl) ?_
                refine lv_iload hx hb dX12_reaches_192 (lv_at hl 6 rfl) ?_
                refine tk_Vi hC hK hw hT hA hE hSR kM_at0 (by decide) rfl (k_X12_otherOf_1 l adK adV dC dI cy ad B (by omega) (by omega) qr s1   v145_6 (show 0 ≤ v145_6.toInt by omega) (show v145_6.toInt ≤ 11 by omega) v145_5 (show 0 ≤ v145_5.toInt by omega) (show v145_5.toInt ≤ 9 by omega) w69 H.size hT ) (cwV 2 hC.2.2.2.2 gX12_reaches_X12_otherOf rfl rfl rfl (by decide +kernel) ⟨Nat.le_of_ble_eq_true rfl, Nat.le_of_ble_eq_true rfl⟩) rfl hl.1 rfl (Nat.le_of_ble_eq_true rfl) dX12_reaches_194 (fun r80 w82 H locs hp81 hw => ?_)
                obtain ⟨hT, k83, hg89⟩ := hp81
                have gs90 : sumG 19 10 w82 = sumG 19 10 w69 := sumG_FE 10 k83 kM_at19 (fun _ => rfl)
                have hF := hF.tr k83 (by decide)
                have c91 := k83.gi kM_at12 (by decide) c78
                have c92 := k83.gi kM_at12 (by decide) c79
                rcases hg89 with ⟨g84, g85⟩ | ⟨g86, g87, c88⟩
                · refine lv_istore (lv' := [(8, .int r80), (7, .int r67), (0, .ref (ad 0)), (1, .int a1), (2, .int a2), (3, .int a3), (4, .int a4), (5, .int v145_5), (6, .int v145_6)]) hx hb dX12_reaches_197 hl (by decide) rfl (fun ls hl => ?_)
                  refine lv_iload hx hb dX12_reaches_199 (lv_at hl 1 rfl) ?_
                  refine lv_ldcw (v := 100000000) hx hb hC.2.2.2.1 (hC.2.2.2.2 _ (List.mem_of_getElem? (i := 2) rfl)) dX12_reaches_201 ?_
                  refine lv_icmp_ge (tgt := 259) hx hb dX12_reaches_204 (by decide) (fun c93 => ?_) (fun c93 => ?_)
                  · have c93 : (100000000 : Int) ≤ r67.toInt := wk_le.mp c93
                    have gb94 : 0 ≤ sumG 19 10 w82 ∧ sumG 19 10 w82 ≤ 10 := hT.sum (lo := 0) (hi := 1) kM_at19 rfl (by decide) rfl
                    exact J259 x52 H locs ls w82 (show 0 ≤ a1.toInt by omega) (show a1.toInt ≤ 9 by omega) (show 0 ≤ a2.toInt by omega) (show a2.toInt ≤ 9 by omega) (show 0 ≤ a3.toInt by omega) (show a3.toInt ≤ 100000100 by omega) (show 0 ≤ a4.toInt by omega) (show a4.toInt ≤ 100000100 by omega) (show 0 ≤ v145_5.toInt by omega) (show v145_5.toInt ≤ 9 by omega) (show 0 ≤ v145_6.toInt by omega) (show v145_6.toInt ≤ 11 by omega) (show 0 ≤ f145_12_0.toInt by omega) (show f145_12_0.toInt ≤ 10 by omega) (show 1 ≤ x52.toInt by omega) (show x52.toInt ≤ 12 by omega) (show (sumG 19 10 w1) + 1 ≤ (sumG 19 10 w82) by omega)  hw hT hF c91 c92 (lv_sub hl [2, 3, 4, 5, 6, 7, 8] rfl)
                  · have c93 : r67.toInt < (100000000 : Int) := wk_leF c93
                    refine lv_iload hx hb dX12_reaches_207 (lv_at hl 1 rfl) ?_
                    refine lv_aload_n hx hb dX12_reaches_209 rfl (lv_at hl 2 rfl) ?_
                    refine lv_iload hx hb dX12_reaches_210 (lv_at hl 8 rfl) ?_
                    refine lv_iconst (v := 2) hx hb dX12_reaches_212 (by decide) ?_
                    refine tk_Vi hC hK hw hT hA hE hSR kM_at0 (by decide) rfl (k_X12_streetOf_6 l adK adV dC dI cy ad B (by omega) (by omega) qr s1   v145_6 (show 0 ≤ v145_6.toInt by omega) (show v145_6.toInt ≤ 11 by omega) w82 H.size hT ) (cwV 2 hC.2.2.2.2 gX12_reaches_X12_streetOf rfl rfl rfl (by decide +kernel) ⟨Nat.le_of_ble_eq_true rfl, Nat.le_of_ble_eq_true rfl⟩) rfl hl.1 rfl (Nat.le_of_ble_eq_true rfl) dX12_reaches_213 (fun r95 w97 H locs hp96 hw => ?_)
                    obtain ⟨hT, k98, hg102⟩ := hp96
                    have gs103 : sumG 19 10 w97 = sumG 19 10 w82 := sumG_FE 10 k98 kM_at19 (fun _ => rfl)
                    have hF := hF.tr k98 (by decide)
                    have c104 := k98.gi kM_at12 (by decide) c91
                    have c105 := k98.gi kM_at12 (by decide) c92
                    obtain ⟨g99, g100, c101⟩ := hg102
                    refine lv_iadd hx hb dX12_reaches_216 ?_
                    refine lv_topi (fun x106 ex106 => ?_)
                    have ex106 : x106.toInt = r67.toInt + r95.toInt := by rw [ex106]; exact wk_add (show (-2147483648) ≤ r67.toInt + r95.toInt by omega) (show r67.toInt + r95.toInt ≤ 2147483647 by omega)
                    refine lv_iload hx hb dX12_reaches_217 (lv_at hl 6 rfl) ?_
                    refine lv_icmp_gt (tgt := 259) hx hb dX12_reaches_219 (by decide) (fun c107 => ?_) (fun c107 => ?_)
                    · have c107 : a4.toInt < x106.toInt := wk_lt.mp c107
                      have gb108 : 0 ≤ sumG 19 10 w97 ∧ sumG 19 10 w97 ≤ 10 := hT.sum (lo := 0) (hi := 1) kM_at19 rfl (by decide) rfl
                      exact J259 x52 H locs ls w97 (show 0 ≤ a1.toInt by omega) (show a1.toInt ≤ 9 by omega) (show 0 ≤ a2.toInt by omega) (show a2.toInt ≤ 9 by omega) (show 0 ≤ a3.toInt by omega) (show a3.toInt ≤ 100000100 by omega) (show 0 ≤ a4.toInt by omega) (show a4.toInt ≤ 100000100 by omega) (show 0 ≤ v145_5.toInt by omega) (show v145_5.toInt ≤ 9 by omega) (show 0 ≤ v145_6.toInt by omega) (show v145_6.toInt ≤ 11 by omega) (show 0 ≤ f145_12_0.toInt by omega) (show f145_12_0.toInt ≤ 10 by omega) (show 1 ≤ x52.toInt by omega) (show x52.toInt ≤ 12 by omega) (show (sumG 19 10 w1) + 1 ≤ (sumG 19 10 w97) by omega)  hw hT hF c104 c105 (lv_sub hl [2, 3, 4, 5, 6, 7, 8] rfl)
                    · have c107 : x106.toInt ≤ a4.toInt := wk_ltF c107
                      refine lv_iload hx hb dX12_reaches_222 (lv_at hl 1 rfl) ?_
                      refine lv_aload_n hx hb dX12_reaches_224 rfl (lv_at hl 2 rfl) ?_
                      refine lv_iload hx hb dX12_reaches_225 (lv_at hl 8 rfl) ?_
                      refine lv_iconst (v := 2) hx hb dX12_reaches_227 (by decide) ?_
                      refine tk_Vi hC hK hw hT hA hE hSR kM_at0 (by decide) rfl (k_X12_streetOf_6 l adK adV dC dI cy ad B (by omega) (by omega) qr s1   v145_6 (show 0 ≤ v145_6.toInt by omega) (show v145_6.toInt ≤ 11 by omega) w97 H.size hT ) (cwV 2 hC.2.2.2.2 gX12_reaches_X12_streetOf rfl rfl rfl (by decide +kernel) ⟨Nat.le_of_ble_eq_true rfl, Nat.le_of_ble_eq_true rfl⟩) rfl hl.1 rfl (Nat.le_of_ble_eq_true rfl) dX12_reaches_228 (fun r109 w111 H locs hp110 hw => ?_)
                      obtain ⟨hT, k112, hg116⟩ := hp110
                      have gs117 : sumG 19 10 w111 = sumG 19 10 w97 := sumG_FE 10 k112 kM_at19 (fun _ => rfl)
                      have hF := hF.tr k112 (by decide)
                      have c118 := k112.gi kM_at12 (by decide) c104
                      have c119 := k112.gi kM_at12 (by decide) c105
                      have c120 := k112.gi kM_at12 rfl c101
                      obtain ⟨g113, g114, c115⟩ := hg116
                      obtain rfl : r109 = r95 := c115.symm.trans c120
                      refine lv_iadd hx hb dX12_reaches_231 ?_
                      refine lv_topi (fun x121 ex121 => ?_)
                      have ex121 : x121.toInt = r67.toInt + r95.toInt := by rw [ex121]; exact wk_add (show (-2147483648) ≤ r67.toInt + r95.toInt by omega) (show r67.toInt + r95.toInt ≤ 2147483647 by omega)
                      refine lv_aload_n hx hb dX12_reaches_232 rfl (lv_at hl 2 rfl) ?_
                      refine tk_getA hC hK hw hT hinX12 kM_at0 (by decide) rfl 35 (by decide) (List.mem_of_getElem? (i := 1) rfl) rfl rfl dX12_reaches_233 ?_
                      refine lv_iload hx hb dX12_reaches_236 (lv_at hl 0 rfl) ?_
                      refine tk_iald hC hK hw hT kM_at18 rfl rfl (show 0 ≤ r80.toInt by omega) (show r80.toInt < 10 by omega) dX12_reaches_238 (fun x122 c123 rx122 tx122 => ?_)
                      refine lv_icmp_ge (tgt := 259) hx hb dX12_reaches_239 (by decide) (fun c124 => ?_) (fun c124 => ?_)
                      · have c124 : x122.toInt ≤ x121.toInt := wk_le.mp c124
                        have gb125 : 0 ≤ sumG 19 10 w111 ∧ sumG 19 10 w111 ≤ 10 := hT.sum (lo := 0) (hi := 1) kM_at19 rfl (by decide) rfl
                        exact J259 x52 H locs ls w111 (show 0 ≤ a1.toInt by omega) (show a1.toInt ≤ 9 by omega) (show 0 ≤ a2.toInt by omega) (show a2.toInt ≤ 9 by omega) (show 0 ≤ a3.toInt by omega) (show a3.toInt ≤ 100000100 by omega) (show 0 ≤ a4.toInt by omega) (show a4.toInt ≤ 100000100 by omega) (show 0 ≤ v145_5.toInt by omega) (show v145_5.toInt ≤ 9 by omega) (show 0 ≤ v145_6.toInt by omega) (show v145_6.toInt ≤ 11 by omega) (show 0 ≤ f145_12_0.toInt by omega) (show f145_12_0.toInt ≤ 10 by omega) (show 1 ≤ x52.toInt by omega) (show x52.toInt ≤ 12 by omega) (show (sumG 19 10 w1) + 1 ≤ (sumG 19 10 w111) by omega)  hw hT hF c118 c119 (lv_sub hl [2, 3, 4, 5, 6, 7, 8] rfl)
                      · have c124 : x121.toInt < x122.toInt := wk_leF c124
                        refine lv_aload_n hx hb dX12_reaches_242 rfl (lv_at hl 2 rfl) ?_
                        refine tk_getA hC hK hw hT hinX12 kM_at0 (by decide) rfl 35 (by decide) (List.mem_of_getElem? (i := 1) rfl) rfl rfl dX12_reaches_243 ?_
                        refine lv_iload hx hb dX12_reaches_246 (lv_at hl 0 rfl) ?_
                        refine lv_iload hx hb dX12_reaches_248 (lv_at hl 1 rfl) ?_
                        refine lv_aload_n hx hb dX12_reaches_250 rfl (lv_at hl 2 rfl) ?_
                        refine lv_iload hx hb dX12_reaches_251 (lv_at hl 8 rfl) ?_
                        refine lv_iconst (v := 2) hx hb dX12_reaches_253 (by decide) ?_
                        refine tk_Vi hC hK hw hT hA hE hSR kM_at0 (by decide) rfl (k_X12_streetOf_6 l adK adV dC dI cy ad B (by omega) (by omega) qr s1   v145_6 (show 0 ≤ v145_6.toInt by omega) (show v145_6.toInt ≤ 11 by omega) w111 H.size hT ) (cwV 2 hC.2.2.2.2 gX12_reaches_X12_streetOf rfl rfl rfl (by decide +kernel) ⟨Nat.le_of_ble_eq_true rfl, Nat.le_of_ble_eq_true rfl⟩) rfl hl.1 rfl (Nat.le_of_ble_eq_true rfl) dX12_reaches_254 (fun r126 w128 H locs hp127 hw => ?_)
                        obtain ⟨hT, k129, hg133⟩ := hp127
                        have gs134 : sumG 19 10 w128 = sumG 19 10 w111 := sumG_FE 10 k129 kM_at19 (fun _ => rfl)
                        have hF := hF.tr k129 (by decide)
                        have c135 := k129.gi kM_at12 (by decide) c118
                        have c136 := k129.gi kM_at12 (by decide) c119
                        have c137 := k129.gi kM_at12 rfl c120
                        obtain ⟨g130, g131, c132⟩ := hg133
                        obtain rfl : r126 = r95 := c132.symm.trans c137
                        refine lv_iadd hx hb dX12_reaches_257 ?_
                        refine lv_topi (fun x138 ex138 => ?_)
                        have ex138 : x138.toInt = r67.toInt + r95.toInt := by rw [ex138]; exact wk_add (show (-2147483648) ≤ r67.toInt + r95.toInt by omega) (show r67.toInt + r95.toInt ≤ 2147483647 by omega)
                        refine tk_iast hC hK hw hT kM_at18 (by decide) rfl rfl (show 0 ≤ r80.toInt by omega) (show r80.toInt < 10 by omega) (show 0 ≤ x138.toInt by omega) (show x138.toInt ≤ 100000100 by omega) dX12_reaches_258 (fun H locs w139 hw hT k141 c140 => ?_)
                        have gs142 : sumG 19 10 w139 = sumG 19 10 w128 := sumG_ne 10 k141 (tk_ne kM_at19 kM_at18 (by decide))
                        have hF := hF.put kM_at18 (inE_of (a := 0) (b := 10) (by decide) (show 0 ≤ r80.toInt.toNat by omega) (show r80.toInt.toNat ≤ 10 by omega)) k141
                        have c143 := k141.gi (Or.inl (tk_ne kM_at12 kM_at18 (by decide))) c135
                        have c144 := k141.gi (Or.inl (tk_ne kM_at12 kM_at18 (by decide))) c136
                        have c145 := k141.gi (Or.inl (tk_ne kM_at12 kM_at18 (by decide))) c137
                        have gb146 : 0 ≤ sumG 19 10 w139 ∧ sumG 19 10 w139 ≤ 10 := hT.sum (lo := 0) (hi := 1) kM_at19 rfl (by decide) rfl
                        exact J259 x52 H locs ls w139 (show 0 ≤ a1.toInt by omega) (show a1.toInt ≤ 9 by omega) (show 0 ≤ a2.toInt by omega) (show a2.toInt ≤ 9 by omega) (show 0 ≤ a3.toInt by omega) (show a3.toInt ≤ 100000100 by omega) (show 0 ≤ a4.toInt by omega) (show a4.toInt ≤ 100000100 by omega) (show 0 ≤ v145_5.toInt by omega) (show v145_5.toInt ≤ 9 by omega) (show 0 ≤ v145_6.toInt by omega) (show v145_6.toInt ≤ 11 by omega) (show 0 ≤ f145_12_0.toInt by omega) (show f145_12_0.toInt ≤ 10 by omega) (show 1 ≤ x52.toInt by omega) (show x52.toInt ≤ 12 by omega) (show (sumG 19 10 w1) + 1 ≤ (sumG 19 10 w139) by omega)  hw hT hF c143 c144 (lv_sub hl [2, 3, 4, 5, 6, 7, 8] rfl)
                · refine lv_istore (lv' := [(8, .int r80), (7, .int r67), (0, .ref (ad 0)), (1, .int a1), (2, .int a2), (3, .int a3), (4, .int a4), (5, .int v145_5), (6, .int v145_6)]) hx hb dX12_reaches_197 hl (by decide) rfl (fun ls hl => ?_)
                  refine lv_iload hx hb dX12_reaches_199 (lv_at hl 1 rfl) ?_
                  refine lv_ldcw (v := 100000000) hx hb hC.2.2.2.1 (hC.2.2.2.2 _ (List.mem_of_getElem? (i := 2) rfl)) dX12_reaches_201 ?_
                  refine lv_icmp_ge (tgt := 259) hx hb dX12_reaches_204 (by decide) (fun c147 => ?_) (fun c147 => ?_)
                  · have c147 : (100000000 : Int) ≤ r67.toInt := wk_le.mp c147
                    have gb148 : 0 ≤ sumG 19 10 w82 ∧ sumG 19 10 w82 ≤ 10 := hT.sum (lo := 0) (hi := 1) kM_at19 rfl (by decide) rfl
                    exact J259 x52 H locs ls w82 (show 0 ≤ a1.toInt by omega) (show a1.toInt ≤ 9 by omega) (show 0 ≤ a2.toInt by omega) (show a2.toInt ≤ 9 by omega) (show 0 ≤ a3.toInt by omega) (show a3.toInt ≤ 100000100 by omega) (show 0 ≤ a4.toInt by omega) (show a4.toInt ≤ 100000100 by omega) (show 0 ≤ v145_5.toInt by omega) (show v145_5.toInt ≤ 9 by omega) (show 0 ≤ v145_6.toInt by omega) (show v145_6.toInt ≤ 11 by omega) (show 0 ≤ f145_12_0.toInt by omega) (show f145_12_0.toInt ≤ 10 by omega) (show 1 ≤ x52.toInt by omega) (show x52.toInt ≤ 12 by omega) (show (sumG 19 10 w1) + 1 ≤ (sumG 19 10 w82) by omega)  hw hT hF c91 c92 (lv_sub hl [2, 3, 4, 5, 6, 7, 8] rfl)
                  · have c147 : r67.toInt < (100000000 : Int) := wk_leF c147
                    refine lv_iload hx hb dX12_reaches_207 (lv_at hl 1 rfl) ?_
                    refine lv_aload_n hx hb dX12_reaches_209 rfl (lv_at hl 2 rfl) ?_
                    refine lv_iload hx hb dX12_reaches_210 (lv_at hl 8 rfl) ?_
                    refine lv_iconst (v := 2) hx hb dX12_reaches_212 (by decide) ?_
                    refine tk_Vi hC hK hw hT hA hE hSR kM_at0 (by decide) rfl (k_X12_streetOf_6 l adK adV dC dI cy ad B (by omega) (by omega) qr s1   v145_6 (show 0 ≤ v145_6.toInt by omega) (show v145_6.toInt ≤ 11 by omega) w82 H.size hT ) (cwV 2 hC.2.2.2.2 gX12_reaches_X12_streetOf rfl rfl rfl (by decide +kernel) ⟨Nat.le_of_ble_eq_true rfl, Nat.le_of_ble_eq_true rfl⟩) rfl hl.1 rfl (Nat.le_of_ble_eq_true rfl) dX12_reaches_213 (fun r149 w151 H locs hp150 hw => ?_)
                    obtain ⟨hT, k152, hg156⟩ := hp150
                    have gs157 : sumG 19 10 w151 = sumG 19 10 w82 := sumG_FE 10 k152 kM_at19 (fun _ => rfl)
                    have hF := hF.tr k152 (by decide)
                    have c158 := k152.gi kM_at12 (by decide) c91
                    have c159 := k152.gi kM_at12 (by decide) c92
                    have c160 := k152.gi kM_at12 rfl c88
                    obtain ⟨g153, g154, c155⟩ := hg156
                    refine lv_iadd hx hb dX12_reaches_216 ?_
                    refine lv_topi (fun x161 ex161 => ?_)
                    have ex161 : x161.toInt = r67.toInt + r149.toInt := by rw [ex161]; exact wk_add (show (-2147483648) ≤ r67.toInt + r149.toInt by omega) (show r67.toInt + r149.toInt ≤ 2147483647 by omega)
                    refine lv_iload hx hb dX12_reaches_217 (lv_at hl 6 rfl) ?_
                    refine lv_icmp_gt (tgt := 259) hx hb dX12_reaches_219 (by decide) (fun c162 => ?_) (fun c162 => ?_)
                    · have c162 : a4.toInt < x161.toInt := wk_lt.mp c162
                      have gb163 : 0 ≤ sumG 19 10 w151 ∧ sumG 19 10 w151 ≤ 10 := hT.sum (lo := 0) (hi := 1) kM_at19 rfl (by decide) rfl
                      exact J259 x52 H locs ls w151 (show 0 ≤ a1.toInt by omega) (show a1.toInt ≤ 9 by omega) (show 0 ≤ a2.toInt by omega) (show a2.toInt ≤ 9 by omega) (show 0 ≤ a3.toInt by omega) (show a3.toInt ≤ 100000100 by omega) (show 0 ≤ a4.toInt by omega) (show a4.toInt ≤ 100000100 by omega) (show 0 ≤ v145_5.toInt by omega) (show v145_5.toInt ≤ 9 by omega) (show 0 ≤ v145_6.toInt by omega) (show v145_6.toInt ≤ 11 by omega) (show 0 ≤ f145_12_0.toInt by omega) (show f145_12_0.toInt ≤ 10 by omega) (show 1 ≤ x52.toInt by omega) (show x52.toInt ≤ 12 by omega) (show (sumG 19 10 w1) + 1 ≤ (sumG 19 10 w151) by omega)  hw hT hF c158 c159 (lv_sub hl [2, 3, 4, 5, 6, 7, 8] rfl)
                    · have c162 : x161.toInt ≤ a4.toInt := wk_ltF c162
                      refine lv_iload hx hb dX12_reaches_222 (lv_at hl 1 rfl) ?_
                      refine lv_aload_n hx hb dX12_reaches_224 rfl (lv_at hl 2 rfl) ?_
                      refine lv_iload hx hb dX12_reaches_225 (lv_at hl 8 rfl) ?_
                      refine lv_iconst (v := 2) hx hb dX12_reaches_227 (by decide) ?_
                      refine tk_Vi hC hK hw hT hA hE hSR kM_at0 (by decide) rfl (k_X12_streetOf_6 l adK adV dC dI cy ad B (by omega) (by omega) qr s1   v145_6 (show 0 ≤ v145_6.toInt by omega) (show v145_6.toInt ≤ 11 by omega) w151 H.size hT ) (cwV 2 hC.2.2.2.2 gX12_reaches_X12_streetOf rfl rfl rfl (by decide +kernel) ⟨Nat.le_of_ble_eq_true rfl, Nat.le_of_ble_eq_true rfl⟩) rfl hl.1 rfl (Nat.le_of_ble_eq_true rfl) dX12_reaches_228 (fun r164 w166 H locs hp165 hw => ?_)
                      obtain ⟨hT, k167, hg171⟩ := hp165
                      have gs172 : sumG 19 10 w166 = sumG 19 10 w151 := sumG_FE 10 k167 kM_at19 (fun _ => rfl)
                      have hF := hF.tr k167 (by decide)
                      have c173 := k167.gi kM_at12 (by decide) c158
                      have c174 := k167.gi kM_at12 (by decide) c159
                      have c175 := k167.gi kM_at12 rfl c160
                      have c176 := k167.gi kM_at12 rfl c155
                      obtain ⟨g168, g169, c170⟩ := hg171
                      obtain rfl : r164 = r149 := c170.symm.trans c176
                      refine lv_iadd hx hb dX12_reaches_231 ?_
                      refine lv_topi (fun x177 ex177 => ?_)
                      have ex177 : x177.toInt = r67.toInt + r149.toInt := by rw [ex177]; exact wk_add (show (-2147483648) ≤ r67.toInt + r149.toInt by omega) (show r67.toInt + r149.toInt ≤ 2147483647 by omega)
                      refine lv_aload_n hx hb dX12_reaches_232 rfl (lv_at hl 2 rfl) ?_
                      refine tk_getA hC hK hw hT hinX12 kM_at0 (by decide) rfl 35 (by decide) (List.mem_of_getElem? (i := 1) rfl) rfl rfl dX12_reaches_233 ?_
                      refine lv_iload hx hb dX12_reaches_236 (lv_at hl 0 rfl) ?_
                      refine tk_iald hC hK hw hT kM_at18 rfl rfl (show 0 ≤ r80.toInt by omega) (show r80.toInt < 10 by omega) dX12_reaches_238 (fun x178 c179 rx178 tx178 => ?_)
                      refine lv_icmp_ge (tgt := 259) hx hb dX12_reaches_239 (by decide) (fun c180 => ?_) (fun c180 => ?_)
                      · have c180 : x178.toInt ≤ x177.toInt := wk_le.mp c180
                        have gb181 : 0 ≤ sumG 19 10 w166 ∧ sumG 19 10 w166 ≤ 10 := hT.sum (lo := 0) (hi := 1) kM_at19 rfl (by decide) rfl
                        exact J259 x52 H locs ls w166 (show 0 ≤ a1.toInt by omega) (show a1.toInt ≤ 9 by omega) (show 0 ≤ a2.toInt by omega) (show a2.toInt ≤ 9 by omega) (show 0 ≤ a3.toInt by omega) (show a3.toInt ≤ 100000100 by omega) (show 0 ≤ a4.toInt by omega) (show a4.toInt ≤ 100000100 by omega) (show 0 ≤ v145_5.toInt by omega) (show v145_5.toInt ≤ 9 by omega) (show 0 ≤ v145_6.toInt by omega) (show v145_6.toInt ≤ 11 by omega) (show 0 ≤ f145_12_0.toInt by omega) (show f145_12_0.toInt ≤ 10 by omega) (show 1 ≤ x52.toInt by omega) (show x52.toInt ≤ 12 by omega) (show (sumG 19 10 w1) + 1 ≤ (sumG 19 10 w166) by omega)  hw hT hF c173 c174 (lv_sub hl [2, 3, 4, 5, 6, 7, 8] rfl)
                      · have c180 : x177.toInt < x178.toInt := wk_leF c180
                        refine lv_aload_n hx hb dX12_reaches_242 rfl (lv_at hl 2 rfl) ?_
                        refine tk_getA hC hK hw hT hinX12 kM_at0 (by decide) rfl 35 (by decide) (List.mem_of_getElem? (i := 1) rfl) rfl rfl dX12_reaches_243 ?_
                        refine lv_iload hx hb dX12_reaches_246 (lv_at hl 0 rfl) ?_
                        refine lv_iload hx hb dX12_reaches_248 (lv_at hl 1 rfl) ?_
                        refine lv_aload_n hx hb dX12_reaches_250 rfl (lv_at hl 2 rfl) ?_
                        refine lv_iload hx hb dX12_reaches_251 (lv_at hl 8 rfl) ?_
                        refine lv_iconst (v := 2) hx hb dX12_reaches_253 (by decide) ?_
                        refine tk_Vi hC hK hw hT hA hE hSR kM_at0 (by decide) rfl (k_X12_streetOf_6 l adK adV dC dI cy ad B (by omega) (by omega) qr s1   v145_6 (show 0 ≤ v145_6.toInt by omega) (show v145_6.toInt ≤ 11 by omega) w166 H.size hT ) (cwV 2 hC.2.2.2.2 gX12_reaches_X12_streetOf rfl rfl rfl (by decide +kernel) ⟨Nat.le_of_ble_eq_true rfl, Nat.le_of_ble_eq_true rfl⟩) rfl hl.1 rfl (Nat.le_of_ble_eq_true rfl) dX12_reaches_254 (fun r182 w184 H locs hp183 hw => ?_)
                        obtain ⟨hT, k185, hg189⟩ := hp183
                        have gs190 : sumG 19 10 w184 = sumG 19 10 w166 := sumG_FE 10 k185 kM_at19 (fun _ => rfl)
                        have hF := hF.tr k185 (by decide)
                        have c191 := k185.gi kM_at12 (by decide) c173
                        have c192 := k185.gi kM_at12 (by decide) c174
                        have c193 := k185.gi kM_at12 rfl c175
                        have c194 := k185.gi kM_at12 rfl c176
                        obtain ⟨g186, g187, c188⟩ := hg189
                        obtain rfl : r182 = r149 := c188.symm.trans c194
                        refine lv_iadd hx hb dX12_reaches_257 ?_
                        refine lv_topi (fun x195 ex195 => ?_)
                        have ex195 : x195.toInt = r67.toInt + r149.toInt := by rw [ex195]; exact wk_add (show (-2147483648) ≤ r67.toInt + r149.toInt by omega) (show r67.toInt + r149.toInt ≤ 2147483647 by omega)
                        refine tk_iast hC hK hw hT kM_at18 (by decide) rfl rfl (show 0 ≤ r80.toInt by omega) (show r80.toInt < 10 by omega) (show 0 ≤ x195.toInt by omega) (show x195.toInt ≤ 100000100 by omega) dX12_reaches_258 (fun H locs w196 hw hT k198 c197 => ?_)
                        have gs199 : sumG 19 10 w196 = sumG 19 10 w184 := sumG_ne 10 k198 (tk_ne kM_at19 kM_at18 (by decide))
                        have hF := hF.put kM_at18 (inE_of (a := 0) (b := 10) (by decide) (show 0 ≤ r80.toInt.toNat by omega) (show r80.toInt.toNat ≤ 10 by omega)) k198
                        have c200 := k198.gi (Or.inl (tk_ne kM_at12 kM_at18 (by decide))) c191
                        have c201 := k198.gi (Or.inl (tk_ne kM_at12 kM_at18 (by decide))) c192
                        have c202 := k198.gi (Or.inl (tk_ne kM_at12 kM_at18 (by decide))) c193
                        have c203 := k198.gi (Or.inl (tk_ne kM_at12 kM_at18 (by decide))) c194
                        have gb204 : 0 ≤ sumG 19 10 w196 ∧ sumG 19 10 w196 ≤ 10 := hT.sum (lo := 0) (hi := 1) kM_at19 rfl (by decide) rfl
                        exact J259 x52 H locs ls w196 (show 0 ≤ a1.toInt by omega) (show a1.toInt ≤ 9 by omega) (show 0 ≤ a2.toInt by omega) (show a2.toInt ≤ 9 by omega) (show 0 ≤ a3.toInt by omega) (show a3.toInt ≤ 100000100 by omega) (show 0 ≤ a4.toInt by omega) (show a4.toInt ≤ 100000100 by omega) (show 0 ≤ v145_5.toInt by omega) (show v145_5.toInt ≤ 9 by omega) (show 0 ≤ v145_6.toInt by omega) (show v145_6.toInt ≤ 11 by omega) (show 0 ≤ f145_12_0.toInt by omega) (show f145_12_0.toInt ≤ 10 by omega) (show 1 ≤ x52.toInt by omega) (show x52.toInt ≤ 12 by omega) (show (sumG 19 10 w1) + 1 ≤ (sumG 19 10 w196) by omega)  hw hT hF c200 c201 (lv_sub hl [2, 3, 4, 5, 6, 7, 8] rfl)
              · refine lv_istore (lv' := [(7, .int r67), (0, .ref (ad 0)), (1, .int a1), (2, .int a2), (3, .int a3), (4, .int a4), (5, .int v145_5), (6, .int v145_6)]) hx hb dX12_reaches_187 hl (by decide) rfl (fun ls hl => ?_)
                refine lv_aload_n hx hb dX12_reaches_189 rfl (lv_at hl 1 rfl) ?_
                refine lv_iload hx hb dX12_reaches_190 (lv_at hl 7 rfl) ?_
                refine lv_iload hx hb dX12_reaches_192 (lv_at hl 6 rfl) ?_
                refine tk_Vi hC hK hw hT hA hE hSR kM_at0 (by decide) rfl (k_X12_otherOf_1 l adK adV dC dI cy ad B (by omega) (by omega) qr s1   v145_6 (show 0 ≤ v145_6.toInt by omega) (show v145_6.toInt ≤ 11 by omega) v145_5 (show 0 ≤ v145_5.toInt by omega) (show v145_5.toInt ≤ 9 by omega) w69 H.size hT ) (cwV 2 hC.2.2.2.2 gX12_reaches_X12_otherOf rfl rfl rfl (by decide +kernel) ⟨Nat.le_of_ble_eq_true rfl, Nat.le_of_ble_eq_true rfl⟩) rfl hl.1 rfl (Nat.le_of_ble_eq_true rfl) dX12_reaches_194 (fun r205 w207 H locs hp206 hw => ?_)
                obtain ⟨hT, k208, hg214⟩ := hp206
                have gs215 : sumG 19 10 w207 = sumG 19 10 w69 := sumG_FE 10 k208 kM_at19 (fun _ => rfl)
                have hF := hF.tr k208 (by decide)
                have c216 := k208.gi kM_at12 (by decide) c78
                have c217 := k208.gi kM_at12 (by decide) c79
                have c218 := k208.gi kM_at12 rfl c75
                rcases hg214 with ⟨g209, g210⟩ | ⟨g211, g212, c213⟩
                · refine lv_istore (lv' := [(8, .int r205), (7, .int r67), (0, .ref (ad 0)), (1, .int a1), (2, .int a2), (3, .int a3), (4, .int a4), (5, .int v145_5), (6, .int v145_6)]) hx hb dX12_reaches_197 hl (by decide) rfl (fun ls hl => ?_)
                  refine lv_iload hx hb dX12_reaches_199 (lv_at hl 1 rfl) ?_
                  refine lv_ldcw (v := 100000000) hx hb hC.2.2.2.1 (hC.2.2.2.2 _ (List.mem_of_getElem? (i := 2) rfl)) dX12_reaches_201 ?_
                  refine lv_icmp_ge (tgt := 259) hx hb dX12_reaches_204 (by decide) (fun c219 => ?_) (fun c219 => ?_)
                  · have c219 : (100000000 : Int) ≤ r67.toInt := wk_le.mp c219
                    have gb220 : 0 ≤ sumG 19 10 w207 ∧ sumG 19 10 w207 ≤ 10 := hT.sum (lo := 0) (hi := 1) kM_at19 rfl (by decide) rfl
                    exact J259 x52 H locs ls w207 (show 0 ≤ a1.toInt by omega) (show a1.toInt ≤ 9 by omega) (show 0 ≤ a2.toInt by omega) (show a2.toInt ≤ 9 by omega) (show 0 ≤ a3.toInt by omega) (show a3.toInt ≤ 100000100 by omega) (show 0 ≤ a4.toInt by omega) (show a4.toInt ≤ 100000100 by omega) (show 0 ≤ v145_5.toInt by omega) (show v145_5.toInt ≤ 9 by omega) (show 0 ≤ v145_6.toInt by omega) (show v145_6.toInt ≤ 11 by omega) (show 0 ≤ f145_12_0.toInt by omega) (show f145_12_0.toInt ≤ 10 by omega) (show 1 ≤ x52.toInt by omega) (show x52.toInt ≤ 12 by omega) (show (sumG 19 10 w1) + 1 ≤ (sumG 19 10 w207) by omega)  hw hT hF c216 c217 (lv_sub hl [2, 3, 4, 5, 6, 7, 8] rfl)
                  · have c219 : r67.toInt < (100000000 : Int) := wk_leF c219
                    refine lv_iload hx hb dX12_reaches_207 (lv_at hl 1 rfl) ?_
                    refine lv_aload_n hx hb dX12_reaches_209 rfl (lv_at hl 2 rfl) ?_
                    refine lv_iload hx hb dX12_reaches_210 (lv_at hl 8 rfl) ?_
                    refine lv_iconst (v := 2) hx hb dX12_reaches_212 (by decide) ?_
                    refine tk_Vi hC hK hw hT hA hE hSR kM_at0 (by decide) rfl (k_X12_streetOf_6 l adK adV dC dI cy ad B (by omega) (by omega) qr s1   v145_6 (show 0 ≤ v145_6.toInt by omega) (show v145_6.toInt ≤ 11 by omega) w207 H.size hT ) (cwV 2 hC.2.2.2.2 gX12_reaches_X12_streetOf rfl rfl rfl (by decide +kernel) ⟨Nat.le_of_ble_eq_true rfl, Nat.le_of_ble_eq_true rfl⟩) rfl hl.1 rfl (Nat.le_of_ble_eq_true rfl) dX12_reaches_213 (fun r221 w223 H locs hp222 hw => ?_)
                    obtain ⟨hT, k224, hg228⟩ := hp222
                    have gs229 : sumG 19 10 w223 = sumG 19 10 w207 := sumG_FE 10 k224 kM_at19 (fun _ => rfl)
                    have hF := hF.tr k224 (by decide)
                    have c230 := k224.gi kM_at12 (by decide) c216
                    have c231 := k224.gi kM_at12 (by decide) c217
                    have c232 := k224.gi kM_at12 rfl c218
                    obtain ⟨g225, g226, c227⟩ := hg228
                    refine lv_iadd hx hb dX12_reaches_216 ?_
                    refine lv_topi (fun x233 ex233 => ?_)
                    have ex233 : x233.toInt = r67.toInt + r221.toInt := by rw [ex233]; exact wk_add (show (-2147483648) ≤ r67.toInt + r221.toInt by omega) (show r67.toInt + r221.toInt ≤ 2147483647 by omega)
                    refine lv_iload hx hb dX12_reaches_217 (lv_at hl 6 rfl) ?_
                    refine lv_icmp_gt (tgt := 259) hx hb dX12_reaches_219 (by decide) (fun c234 => ?_) (fun c234 => ?_)
                    · have c234 : a4.toInt < x233.toInt := wk_lt.mp c234
                      have gb235 : 0 ≤ sumG 19 10 w223 ∧ sumG 19 10 w223 ≤ 10 := hT.sum (lo := 0) (hi := 1) kM_at19 rfl (by decide) rfl
                      exact J259 x52 H locs ls w223 (show 0 ≤ a1.toInt by omega) (show a1.toInt ≤ 9 by omega) (show 0 ≤ a2.toInt by omega) (show a2.toInt ≤ 9 by omega) (show 0 ≤ a3.toInt by omega) (show a3.toInt ≤ 100000100 by omega) (show 0 ≤ a4.toInt by omega) (show a4.toInt ≤ 100000100 by omega) (show 0 ≤ v145_5.toInt by omega) (show v145_5.toInt ≤ 9 by omega) (show 0 ≤ v145_6.toInt by omega) (show v145_6.toInt ≤ 11 by omega) (show 0 ≤ f145_12_0.toInt by omega) (show f145_12_0.toInt ≤ 10 by omega) (show 1 ≤ x52.toInt by omega) (show x52.toInt ≤ 12 by omega) (show (sumG 19 10 w1) + 1 ≤ (sumG 19 10 w223) by omega)  hw hT hF c230 c231 (lv_sub hl [2, 3, 4, 5, 6, 7, 8] rfl)
                    · have c234 : x233.toInt ≤ a4.toInt := wk_ltF c234
                      refine lv_iload hx hb dX12_reaches_222 (lv_at hl 1 rfl) ?_
                      refine lv_aload_n hx hb dX12_reaches_224 rfl (lv_at hl 2 rfl) ?_
                      refine lv_iload hx hb dX12_reaches_225 (lv_at hl 8 rfl) ?_
                      refine lv_iconst (v := 2) hx hb dX12_reaches_227 (by decide) ?_
                      refine tk_Vi hC hK hw hT hA hE hSR kM_at0 (by decide) rfl (k_X12_streetOf_6 l adK adV dC dI cy ad B (by omega) (by omega) qr s1   v145_6 (show 0 ≤ v145_6.toInt by omega) (show v145_6.toInt ≤ 11 by omega) w223 H.size hT ) (cwV 2 hC.2.2.2.2 gX12_reaches_X12_streetOf rfl rfl rfl (by decide +kernel) ⟨Nat.le_of_ble_eq_true rfl, Nat.le_of_ble_eq_true rfl⟩) rfl hl.1 rfl (Nat.le_of_ble_eq_true rfl) dX12_reaches_228 (fun r236 w238 H locs hp237 hw => ?_)
                      obtain ⟨hT, k239, hg243⟩ := hp237
                      have gs244 : sumG 19 10 w238 = sumG 19 10 w223 := sumG_FE 10 k239 kM_at19 (fun _ => rfl)
                      have hF := hF.tr k239 (by decide)
                      have c245 := k239.gi kM_at12 (by decide) c230
                      have c246 := k239.gi kM_at12 (by decide) c231
                      have c247 := k239.gi kM_at12 rfl c232
                      have c248 := k239.gi kM_at12 rfl c227
                      obtain ⟨g240, g241, c242⟩ := hg243
                      obtain rfl : r236 = r221 := c242.symm.trans c248
                      refine lv_iadd hx hb dX12_reaches_231 ?_
                      refine lv_topi (fun x249 ex249 => ?_)
                      have ex249 : x249.toInt = r67.toInt + r221.toInt := by rw [ex249]; exact wk_add (show (-2147483648) ≤ r67.toInt + r221.toInt by omega) (show r67.toInt + r221.toInt ≤ 2147483647 by omega)
                      refine lv_aload_n hx hb dX12_reaches_232 rfl (lv_at hl 2 rfl) ?_
                      refine tk_getA hC hK hw hT hinX12 kM_at0 (by decide) rfl 35 (by decide) (List.mem_of_getElem? (i := 1) rfl) rfl rfl dX12_reaches_233 ?_
                      refine lv_iload hx hb dX12_reaches_236 (lv_at hl 0 rfl) ?_
                      refine tk_iald hC hK hw hT kM_at18 rfl rfl (show 0 ≤ r205.toInt by omega) (show r205.toInt < 10 by omega) dX12_reaches_238 (fun x250 c251 rx250 tx250 => ?_)
                      refine lv_icmp_ge (tgt := 259) hx hb dX12_reaches_239 (by decide) (fun c252 => ?_) (fun c252 => ?_)
                      · have c252 : x250.toInt ≤ x249.toInt := wk_le.mp c252
                        have gb253 : 0 ≤ sumG 19 10 w238 ∧ sumG 19 10 w238 ≤ 10 := hT.sum (lo := 0) (hi := 1) kM_at19 rfl (by decide) rfl
                        exact J259 x52 H locs ls w238 (show 0 ≤ a1.toInt by omega) (show a1.toInt ≤ 9 by omega) (show 0 ≤ a2.toInt by omega) (show a2.toInt ≤ 9 by omega) (show 0 ≤ a3.toInt by omega) (show a3.toInt ≤ 100000100 by omega) (show 0 ≤ a4.toInt by omega) (show a4.toInt ≤ 100000100 by omega) (show 0 ≤ v145_5.toInt by omega) (show v145_5.toInt ≤ 9 by omega) (show 0 ≤ v145_6.toInt by omega) (show v145_6.toInt ≤ 11 by omega) (show 0 ≤ f145_12_0.toInt by omega) (show f145_12_0.toInt ≤ 10 by omega) (show 1 ≤ x52.toInt by omega) (show x52.toInt ≤ 12 by omega) (show (sumG 19 10 w1) + 1 ≤ (sumG 19 10 w238) by omega)  hw hT hF c245 c246 (lv_sub hl [2, 3, 4, 5, 6, 7, 8] rfl)
                      · have c252 : x249.toInt < x250.toInt := wk_leF c252
                        refine lv_aload_n hx hb dX12_reaches_242 rfl (lv_at hl 2 rfl) ?_
                        refine tk_getA hC hK hw hT hinX12 kM_at0 (by decide) rfl 35 (by decide) (List.mem_of_getElem? (i := 1) rfl) rfl rfl dX12_reaches_243 ?_
                        refine lv_iload hx hb dX12_reaches_246 (lv_at hl 0 rfl) ?_
                        refine lv_iload hx hb dX12_reaches_248 (lv_at hl 1 rfl) ?_
                        refine lv_aload_n hx hb dX12_reaches_250 rfl (lv_at hl 2 rfl) ?_
                        refine lv_iload hx hb dX12_reaches_251 (lv_at hl 8 rfl) ?_
                        refine lv_iconst (v := 2) hx hb dX12_reaches_253 (by decide) ?_
                        refine tk_Vi hC hK hw hT hA hE hSR kM_at0 (by decide) rfl (k_X12_streetOf_6 l adK adV dC dI cy ad B (by omega) (by omega) qr s1   v145_6 (show 0 ≤ v145_6.toInt by omega) (show v145_6.toInt ≤ 11 by omega) w238 H.size hT ) (cwV 2 hC.2.2.2.2 gX12_reaches_X12_streetOf rfl rfl rfl (by decide +kernel) ⟨Nat.le_of_ble_eq_true rfl, Nat.le_of_ble_eq_true rfl⟩) rfl hl.1 rfl (Nat.le_of_ble_eq_true rfl) dX12_reaches_254 (fun r254 w256 H locs hp255 hw => ?_)
                        obtain ⟨hT, k257, hg261⟩ := hp255
                        have gs262 : sumG 19 10 w256 = sumG 19 10 w238 := sumG_FE 10 k257 kM_at19 (fun _ => rfl)
                        have hF := hF.tr k257 (by decide)
                        have c263 := k257.gi kM_at12 (by decide) c245
                        have c264 := k257.gi kM_at12 (by decide) c246
                        have c265 := k257.gi kM_at12 rfl c247
                        have c266 := k257.gi kM_at12 rfl c248
                        obtain ⟨g258, g259, c260⟩ := hg261
                        obtain rfl : r254 = r221 := c260.symm.trans c266
                        refine lv_iadd hx hb dX12_reaches_257 ?_
                        refine lv_topi (fun x267 ex267 => ?_)
                        have ex267 : x267.toInt = r67.toInt + r221.toInt := by rw [ex267]; exact wk_add (show (-2147483648) ≤ r67.toInt + r221.toInt by omega) (show r67.toInt + r221.toInt ≤ 2147483647 by omega)
                        refine tk_iast hC hK hw hT kM_at18 (by decide) rfl rfl (show 0 ≤ r205.toInt by omega) (show r205.toInt < 10 by omega) (show 0 ≤ x267.toInt by omega) (show x267.toInt ≤ 100000100 by omega) dX12_reaches_258 (fun H locs w268 hw hT k270 c269 => ?_)
                        have gs271 : sumG 19 10 w268 = sumG 19 10 w256 := sumG_ne 10 k270 (tk_ne kM_at19 kM_at18 (by decide))
                        have hF := hF.put kM_at18 (inE_of (a := 0) (b := 10) (by decide) (show 0 ≤ r205.toInt.toNat by omega) (show r205.toInt.toNat ≤ 10 by omega)) k270
                        have c272 := k270.gi (Or.inl (tk_ne kM_at12 kM_at18 (by decide))) c263
                        have c273 := k270.gi (Or.inl (tk_ne kM_at12 kM_at18 (by decide))) c264
                        have c274 := k270.gi (Or.inl (tk_ne kM_at12 kM_at18 (by decide))) c265
                        have c275 := k270.gi (Or.inl (tk_ne kM_at12 kM_at18 (by decide))) c266
                        have gb276 : 0 ≤ sumG 19 10 w268 ∧ sumG 19 10 w268 ≤ 10 := hT.sum (lo := 0) (hi := 1) kM_at19 rfl (by decide) rfl
                        exact J259 x52 H locs ls w268 (show 0 ≤ a1.toInt by omega) (show a1.toInt ≤ 9 by omega) (show 0 ≤ a2.toInt by omega) (show a2.toInt ≤ 9 by omega) (show 0 ≤ a3.toInt by omega) (show a3.toInt ≤ 100000100 by omega) (show 0 ≤ a4.toInt by omega) (show a4.toInt ≤ 100000100 by omega) (show 0 ≤ v145_5.toInt by omega) (show v145_5.toInt ≤ 9 by omega) (show 0 ≤ v145_6.toInt by omega) (show v145_6.toInt ≤ 11 by omega) (show 0 ≤ f145_12_0.toInt by omega) (show f145_12_0.toInt ≤ 10 by omega) (show 1 ≤ x52.toInt by omega) (show x52.toInt ≤ 12 by omega) (show (sumG 19 10 w1) + 1 ≤ (sumG 19 10 w268) by omega)  hw hT hF c272 c273 (lv_sub hl [2, 3, 4, 5, 6, 7, 8] rfl)
                · refine lv_istore (lv' := [(8, .int r205), (7, .int r67), (0, .ref (ad 0)), (1, .int a1), (2, .int a2), (3, .int a3), (4, .int a4), (5, .int v145_5), (6, .int v145_6)]) hx hb dX12_reaches_197 hl (by decide) rfl (fun ls hl => ?_)
                  refine lv_iload hx hb dX12_reaches_199 (lv_at hl 1 rfl) ?_
                  refine lv_ldcw (v := 100000000) hx hb hC.2.2.2.1 (hC.2.2.2.2 _ (List.mem_of_getElem? (i := 2) rfl)) dX12_reaches_201 ?_
                  refine lv_icmp_ge (tgt := 259) hx hb dX12_reaches_204 (by decide) (fun c277 => ?_) (fun c277 => ?_)
                  · have c277 : (100000000 : Int) ≤ r67.toInt := wk_le.mp c277
                    have gb278 : 0 ≤ sumG 19 10 w207 ∧ sumG 19 10 w207 ≤ 10 := hT.sum (lo := 0) (hi := 1) kM_at19 rfl (by decide) rfl
                    exact J259 x52 H locs ls w207 (show 0 ≤ a1.toInt by omega) (show a1.toInt ≤ 9 by omega) (show 0 ≤ a2.toInt by omega) (show a2.toInt ≤ 9 by omega) (show 0 ≤ a3.toInt by omega) (show a3.toInt ≤ 100000100 by omega) (show 0 ≤ a4.toInt by omega) (show a4.toInt ≤ 100000100 by omega) (show 0 ≤ v145_5.toInt by omega) (show v145_5.toInt ≤ 9 by omega) (show 0 ≤ v145_6.toInt by omega) (show v145_6.toInt ≤ 11 by omega) (show 0 ≤ f145_12_0.toInt by omega) (show f145_12_0.toInt ≤ 10 by omega) (show 1 ≤ x52.toInt by omega) (show x52.toInt ≤ 12 by omega) (show (sumG 19 10 w1) + 1 ≤ (sumG 19 10 w207) by omega)  hw hT hF c216 c217 (lv_sub hl [2, 3, 4, 5, 6, 7, 8] rfl)
                  · have c277 : r67.toInt < (100000000 : Int) := wk_leF c277
                    refine lv_iload hx hb dX12_reaches_207 (lv_at hl 1 rfl) ?_
                    refine lv_aload_n hx hb dX12_reaches_209 rfl (lv_at hl 2 rfl) ?_
                    refine lv_iload hx hb dX12_reaches_210 (lv_at hl 8 rfl) ?_
                    refine lv_iconst (v := 2) hx hb dX12_reaches_212 (by decide) ?_
                    refine tk_Vi hC hK hw hT hA hE hSR kM_at0 (by decide) rfl (k_X12_streetOf_6 l adK adV dC dI cy ad B (by omega) (by omega) qr s1   v145_6 (show 0 ≤ v145_6.toInt by omega) (show v145_6.toInt ≤ 11 by omega) w207 H.size hT ) (cwV 2 hC.2.2.2.2 gX12_reaches_X12_streetOf rfl rfl rfl (by decide +kernel) ⟨Nat.le_of_ble_eq_true rfl, Nat.le_of_ble_eq_true rfl⟩) rfl hl.1 rfl (Nat.le_of_ble_eq_true rfl) dX12_reaches_213 (fun r279 w281 H locs hp280 hw => ?_)
                    obtain ⟨hT, k282, hg286⟩ := hp280
                    have gs287 : sumG 19 10 w281 = sumG 19 10 w207 := sumG_FE 10 k282 kM_at19 (fun _ => rfl)
                    have hF := hF.tr k282 (by decide)
                    have c288 := k282.gi kM_at12 (by decide) c216
                    have c289 := k282.gi kM_at12 (by decide) c217
                    have c290 := k282.gi kM_at12 rfl c218
                    obtain ⟨g283, g284, c285⟩ := hg286
                    refine lv_iadd hx hb dX12_reaches_216 ?_
                    refine lv_topi (fun x291 ex291 => ?_)
                    have ex291 : x291.toInt = r67.toInt + r279.toInt := by rw [ex291]; exact wk_add (show (-2147483648) ≤ r67.toInt + r279.toInt by omega) (show r67.toInt + r279.toInt ≤ 2147483647 by omega)
                    refine lv_iload hx hb dX12_reaches_217 (lv_at hl 6 rfl) ?_
                    refine lv_icmp_gt (tgt := 259) hx hb dX12_reaches_219 (by decide) (fun c292 => ?_) (fun c292 => ?_)
                    · have c292 : a4.toInt < x291.toInt := wk_lt.mp c292
                      have gb293 : 0 ≤ sumG 19 10 w281 ∧ sumG 19 10 w281 ≤ 10 := hT.sum (lo := 0) (hi := 1) kM_at19 rfl (by decide) rfl
                      exact J259 x52 H locs ls w281 (show 0 ≤ a1.toInt by omega) (show a1.toInt ≤ 9 by omega) (show 0 ≤ a2.toInt by omega) (show a2.toInt ≤ 9 by omega) (show 0 ≤ a3.toInt by omega) (show a3.toInt ≤ 100000100 by omega) (show 0 ≤ a4.toInt by omega) (show a4.toInt ≤ 100000100 by omega) (show 0 ≤ v145_5.toInt by omega) (show v145_5.toInt ≤ 9 by omega) (show 0 ≤ v145_6.toInt by omega) (show v145_6.toInt ≤ 11 by omega) (show 0 ≤ f145_12_0.toInt by omega) (show f145_12_0.toInt ≤ 10 by omega) (show 1 ≤ x52.toInt by omega) (show x52.toInt ≤ 12 by omega) (show (sumG 19 10 w1) + 1 ≤ (sumG 19 10 w281) by omega)  hw hT hF c288 c289 (lv_sub hl [2, 3, 4, 5, 6, 7, 8] rfl)
                    · have c292 : x291.toInt ≤ a4.toInt := wk_ltF c292
                      refine lv_iload hx hb dX12_reaches_222 (lv_at hl 1 rfl) ?_
                      refine lv_aload_n hx hb dX12_reaches_224 rfl (lv_at hl 2 rfl) ?_
                      refine lv_iload hx hb dX12_reaches_225 (lv_at hl 8 rfl) ?_
                      refine lv_iconst (v := 2) hx hb dX12_reaches_227 (by decide) ?_
                      refine tk_Vi hC hK hw hT hA hE hSR kM_at0 (by decide) rfl (k_X12_streetOf_6 l adK adV dC dI cy ad B (by omega) (by omega) qr s1   v145_6 (show 0 ≤ v145_6.toInt by omega) (show v145_6.toInt ≤ 11 by omega) w281 H.size hT ) (cwV 2 hC.2.2.2.2 gX12_reaches_X12_streetOf rfl rfl rfl (by decide +kernel) ⟨Nat.le_of_ble_eq_true rfl, Nat.le_of_ble_eq_true rfl⟩) rfl hl.1 rfl (Nat.le_of_ble_eq_true rfl) dX12_reaches_228 (fun r294 w296 H locs hp295 hw => ?_)
                      obtain ⟨hT, k297, hg301⟩ := hp295
                      have gs302 : sumG 19 10 w296 = sumG 19 10 w281 := sumG_FE 10 k297 kM_at19 (fun _ => rfl)
                      have hF := hF.tr k297 (by decide)
                      have c303 := k297.gi kM_at12 (by decide) c288
                      have c304 := k297.gi kM_at12 (by decide) c289
                      have c305 := k297.gi kM_at12 rfl c290
                      have c306 := k297.gi kM_at12 rfl c285
                      obtain ⟨g298, g299, c300⟩ := hg301
                      obtain rfl : r294 = r279 := c300.symm.trans c306
                      refine lv_iadd hx hb dX12_reaches_231 ?_
                      refine lv_topi (fun x307 ex307 => ?_)
                      have ex307 : x307.toInt = r67.toInt + r279.toInt := by rw [ex307]; exact wk_add (show (-2147483648) ≤ r67.toInt + r279.toInt by omega) (show r67.toInt + r279.toInt ≤ 2147483647 by omega)
                      refine lv_aload_n hx hb dX12_reaches_232 rfl (lv_at hl 2 rfl) ?_
                      refine tk_getA hC hK hw hT hinX12 kM_at0 (by decide) rfl 35 (by decide) (List.mem_of_getElem? (i := 1) rfl) rfl rfl dX12_reaches_233 ?_
                      refine lv_iload hx hb dX12_reaches_236 (lv_at hl 0 rfl) ?_
                      refine tk_iald hC hK hw hT kM_at18 rfl rfl (show 0 ≤ r205.toInt by omega) (show r205.toInt < 10 by omega) dX12_reaches_238 (fun x308 c309 rx308 tx308 => ?_)
                      refine lv_icmp_ge (tgt := 259) hx hb dX12_reaches_239 (by decide) (fun c310 => ?_) (fun c310 => ?_)
                      · have c310 : x308.toInt ≤ x307.toInt := wk_le.mp c310
                        have gb311 : 0 ≤ sumG 19 10 w296 ∧ sumG 19 10 w296 ≤ 10 := hT.sum (lo := 0) (hi := 1) kM_at19 rfl (by decide) rfl
                        exact J259 x52 H locs ls w296 (show 0 ≤ a1.toInt by omega) (show a1.toInt ≤ 9 by omega) (show 0 ≤ a2.toInt by omega) (show a2.toInt ≤ 9 by omega) (show 0 ≤ a3.toInt by omega) (show a3.toInt ≤ 100000100 by omega) (show 0 ≤ a4.toInt by omega) (show a4.toInt ≤ 100000100 by omega) (show 0 ≤ v145_5.toInt by omega) (show v145_5.toInt ≤ 9 by omega) (show 0 ≤ v145_6.toInt by omega) (show v145_6.toInt ≤ 11 by omega) (show 0 ≤ f145_12_0.toInt by omega) (show f145_12_0.toInt ≤ 10 by omega) (show 1 ≤ x52.toInt by omega) (show x52.toInt ≤ 12 by omega) (show (sumG 19 10 w1) + 1 ≤ (sumG 19 10 w296) by omega)  hw hT hF c303 c304 (lv_sub hl [2, 3, 4, 5, 6, 7, 8] rfl)
                      · have c310 : x307.toInt < x308.toInt := wk_leF c310
                        refine lv_aload_n hx hb dX12_reaches_242 rfl (lv_at hl 2 rfl) ?_
                        refine tk_getA hC hK hw hT hinX12 kM_at0 (by decide) rfl 35 (by decide) (List.mem_of_getElem? (i := 1) rfl) rfl rfl dX12_reaches_243 ?_
                        refine lv_iload hx hb dX12_reaches_246 (lv_at hl 0 rfl) ?_
                        refine lv_iload hx hb dX12_reaches_248 (lv_at hl 1 rfl) ?_
                        refine lv_aload_n hx hb dX12_reaches_250 rfl (lv_at hl 2 rfl) ?_
                        refine lv_iload hx hb dX12_reaches_251 (lv_at hl 8 rfl) ?_
                        refine lv_iconst (v := 2) hx hb dX12_reaches_253 (by decide) ?_
                        refine tk_Vi hC hK hw hT hA hE hSR kM_at0 (by decide) rfl (k_X12_streetOf_6 l adK adV dC dI cy ad B (by omega) (by omega) qr s1   v145_6 (show 0 ≤ v145_6.toInt by omega) (show v145_6.toInt ≤ 11 by omega) w296 H.size hT ) (cwV 2 hC.2.2.2.2 gX12_reaches_X12_streetOf rfl rfl rfl (by decide +kernel) ⟨Nat.le_of_ble_eq_true rfl, Nat.le_of_ble_eq_true rfl⟩) rfl hl.1 rfl (Nat.le_of_ble_eq_true rfl) dX12_reaches_254 (fun r312 w314 H locs hp313 hw => ?_)
                        obtain ⟨hT, k315, hg319⟩ := hp313
                        have gs320 : sumG 19 10 w314 = sumG 19 10 w296 := sumG_FE 10 k315 kM_at19 (fun _ => rfl)
                        have hF := hF.tr k315 (by decide)
                        have c321 := k315.gi kM_at12 (by decide) c303
                        have c322 := k315.gi kM_at12 (by decide) c304
                        have c323 := k315.gi kM_at12 rfl c305
                        have c324 := k315.gi kM_at12 rfl c306
                        obtain ⟨g316, g317, c318⟩ := hg319
                        obtain rfl : r312 = r279 := c318.symm.trans c324
                        refine lv_iadd hx hb dX12_reaches_257 ?_
                        refine lv_topi (fun x325 ex325 => ?_)
                        have ex325 : x325.toInt = r67.toInt + r279.toInt := by rw [ex325]; exact wk_add (show (-2147483648) ≤ r67.toInt + r279.toInt by omega) (show r67.toInt + r279.toInt ≤ 2147483647 by omega)
                        refine tk_iast hC hK hw hT kM_at18 (by decide) rfl rfl (show 0 ≤ r205.toInt by omega) (show r205.toInt < 10 by omega) (show 0 ≤ x325.toInt by omega) (show x325.toInt ≤ 100000100 by omega) dX12_reaches_258 (fun H locs w326 hw hT k328 c327 => ?_)
                        have gs329 : sumG 19 10 w326 = sumG 19 10 w314 := sumG_ne 10 k328 (tk_ne kM_at19 kM_at18 (by decide))
                        have hF := hF.put kM_at18 (inE_of (a := 0) (b := 10) (by decide) (show 0 ≤ r205.toInt.toNat by omega) (show r205.toInt.toNat ≤ 10 by omega)) k328
                        have c330 := k328.gi (Or.inl (tk_ne kM_at12 kM_at18 (by decide))) c321
                        have c331 := k328.gi (Or.inl (tk_ne kM_at12 kM_at18 (by decide))) c322
                        have c332 := k328.gi (Or.inl (tk_ne kM_at12 kM_at18 (by decide))) c323
                        have c333 := k328.gi (Or.inl (tk_ne kM_at12 kM_at18 (by decide))) c324
                        have gb334 : 0 ≤ sumG 19 10 w326 ∧ sumG 19 10 w326 ≤ 10 := hT.sum (lo := 0) (hi := 1) kM_at19 rfl (by decide) rfl
                        exact J259 x52 H locs ls w326 (show 0 ≤ a1.toInt by omega) (show a1.toInt ≤ 9 by omega) (show 0 ≤ a2.toInt by omega) (show a2.toInt ≤ 9 by omega) (show 0 ≤ a3.toInt by omega) (show a3.toInt ≤ 100000100 by omega) (show 0 ≤ a4.toInt by omega) (show a4.toInt ≤ 100000100 by omega) (show 0 ≤ v145_5.toInt by omega) (show v145_5.toInt ≤ 9 by omega) (show 0 ≤ v145_6.toInt by omega) (show v145_6.toInt ≤ 11 by omega) (show 0 ≤ f145_12_0.toInt by omega) (show f145_12_0.toInt ≤ 10 by omega) (show 1 ≤ x52.toInt by omega) (show x52.toInt ≤ 12 by omega) (show (sumG 19 10 w1) + 1 ≤ (sumG 19 10 w326) by omega)  hw hT hF c330 c331 (lv_sub hl [2, 3, 4, 5, 6, 7, 8] rfl)
      have L59 : ∀ (n59 : Nat) (v59_5 : Int32) (v59_6 : Int32) (H : Heap) (locs : List Loc) (ls : Array Slot) (w335 : va_W), 0 ≤ a1.toInt → a1.toInt ≤ 9 → 0 ≤ a2.toInt → a2.toInt ≤ 9 → 0 ≤ a3.toInt → a3.toInt ≤ 100000100 → 0 ≤ a4.toInt → a4.toInt ≤ 100000100 → (-1) ≤ v59_5.toInt → v59_5.toInt ≤ 9 → 0 ≤ v59_6.toInt → v59_6.toInt ≤ 10 → (sumG 19 10 w335) ≤ (sumG 19 10 w1) → (sumG 19 10 w1) ≤ (sumG 19 10 w335) → (v59_5.toInt = -1 ∨ (gi w335 19 (v59_5.toInt).toNat).toInt = 0) → (10 - v59_6.toInt).toNat < n59 → Wd dC dI A s.heap H locs w335 → TW ksM ad cy B qr 12 w335 → FE ksM [(77, 0, 10), (78, 0, 10)] w0 w335 → gi w335 19 (a2.toInt).toNat = 0 → lv_has ls 9 [(0, .ref (ad 0)), (1, .int a1), (2, .int a2), (3, .int a3), (4, .int a4), (5, .int v59_5), (6, .int v59_6)] → W p l e ({ frames := 5, cells := 0, slots := 0, locals := 105 }) s m (List.toArray [.ref (ad 0), .int a1, .int a2, .int a3, .int a4]) below meth c H locs 0 0 (MQ below (va_Qi (P_X12_reaches_2 ad cy B qr s1 a1 a2 a3 a4 w0) (fun u : va_W => wpost dC dI cy A u) A) (List.toArray [.ref (ad 0), .int a1, .int a2, .int a3, .int a4]) s 0 0 A) (F0 m 59 ls []) := by
        intro n59
        induction n59 with
        | zero => intro v59_5 v59_6 H locs ls w335 r336 t337 r338 t339 r340 t341 r342 t343 r344 t345 r346 t347 g349 g350 g351 hm59 hw hT hF c348 hl; omega
        | succ n59 ih59 =>
          intro v59_5 v59_6 H locs ls w335 r336 t337 r338 t339 r340 t341 r342 t343 r344 t345 r346 t347 g349 g350 g351 hm59 hw hT hF c348 hl
          have J119 : ∀ (v119_5 : Int32) (f119_12_0 : Int32) (f119_19__v59_6_toInt_toNat : Int32) (H : Heap) (locs : List Loc) (ls : Array Slot) (w352 : va_W), 0 ≤ a1.toInt → a1.toInt ≤ 9 → 0 ≤ a2.toInt → a2.toInt ≤ 9 → 0 ≤ a3.toInt → a3.toInt ≤ 100000100 → 0 ≤ a4.toInt → a4.toInt ≤ 100000100 → (-1) ≤ v119_5.toInt → v119_5.toInt ≤ 9 → 0 ≤ v59_6.toInt → v59_6.toInt ≤ 9 → 1 ≤ f119_12_0.toInt → f119_12_0.toInt ≤ 10 → 0 ≤ f119_19__v59_6_toInt_toNat.toInt → f119_19__v59_6_toInt_toNat.toInt ≤ 1 → (sumG 19 10 w352) ≤ (sumG 19 10 w1) → (sumG 19 10 w1) ≤ (sumG 19 10 w352) → (v119_5.toInt = -1 ∨ (gi w352 19 (v119_5.toInt).toNat).toInt = 0) → Wd dC dI A s.heap H locs w352 → TW ksM ad cy B qr 12 w352 → FE ksM [(77, 0, 10), (78, 0, 10)] w0 w352 → gi w352 12 0 = f119_12_0 → gi w352 19 (a2.toInt).toNat = 0 → gi w352 19 (v59_6.toInt).toNat = f119_19__v59_6_toInt_toNat → lv_has ls 9 [(0, .ref (ad 0)), (1, .int a1), (2, .int a2), (3, .int a3), (4, .int a4), (5, .int v119_5), (6, .int v59_6)] → W p l e ({ frames := 5, cells := 0, slots := 0, locals := 105 }) s m (List.toArray [.ref (ad 0), .int a1, .int a2, .int a3, .int a4]) below meth c H locs 0 0 (MQ below (va_Qi (P_X12_reaches_2 ad cy B qr s1 a1 a2 a3 a4 w0) (fun u : va_W => wpost dC dI cy A u) A) (List.toArray [.ref (ad 0), .int a1, .int a2, .int a3, .int a4]) s 0 0 A) (F0 m 119 ls []) := by
            intro v119_5 f119_12_0 f119_19__v59_6_toInt_toNat H locs ls w352 r353 t354 r355 t356 r357 t358 r359 t360 r361 t362 r363 t364 r365 t366 r369 t370 g372 g373 g374 hw hT hF c367 c368 c371 hl
            obtain ⟨x375, ex375⟩ : ∃ y : Int32, y = v59_6 + Int32.ofInt 1 := ⟨_, rfl⟩
            refine lv_iinc (v := x375) (lv' := [(6, .int x375), (0, .ref (ad 0)), (1, .int a1), (2, .int a2), (3, .int a3), (4, .int a4), (5, .int v119_5)]) hx hb dX12_reaches_119 hl (k := 6) rfl ex375.symm (by decide) rfl (fun ls hl => ?_)
            have ex375 : x375.toInt = v59_6.toInt + 1 := by rw [ex375]; exact wk_add (y := 1) (show -2147483648 ≤ v59_6.toInt + 1 by omega) (show v59_6.toInt + 1 ≤ 2147483647 by omega)
            refine lv_goto (tgt := 59) hx hb dX12_reaches_122 (by decide) ?_
            have gb376 : 0 ≤ sumG 19 10 w352 ∧ sumG 19 10 w352 ≤ 10 := hT.sum (lo := 0) (hi := 1) kM_at19 rfl (by decide) rfl
            exact ih59 v119_5 x375 H locs ls w352 (show 0 ≤ a1.toInt by omega) (show a1.toInt ≤ 9 by omega) (show 0 ≤ a2.toInt by omega) (show a2.toInt ≤ 9 by omega) (show 0 ≤ a3.toInt by omega) (show a3.toInt ≤ 100000100 by omega) (show 0 ≤ a4.toInt by omega) (show a4.toInt ≤ 100000100 by omega) (show (-1) ≤ v119_5.toInt by omega) (show v119_5.toInt ≤ 9 by omega) (show 0 ≤ x375.toInt by omega) (show x375.toInt ≤ 10 by omega) (show (sumG 19 10 w352) ≤ (sumG 19 10 w1) by omega) (show (sumG 19 10 w1) ≤ (sumG 19 10 w352) by omega) (show (v119_5.toInt = -1 ∨ (gi w352 19 (v119_5.toInt).toNat).toInt = 0) by first | omega | assumption | (left; omega) | (left; decide) | (right; assumption) | (right; rw [c368]; omega) | (right; rw [c368]; decide) | (right; rw [c371]; omega) | (right; rw [c371]; decide)) (show (10 - x375.toInt).toNat < n59 by omega) hw hT hF c368 (lv_sub hl [1, 2, 3, 4, 5, 6, 0] rfl)
          have J115 : ∀ (f115_12_0 : Int32) (H : Heap) (locs : List Loc) (ls : Array Slot) (w377 : va_W), 0 ≤ a1.toInt → a1.toInt ≤ 9 → 0 ≤ a2.toInt → a2.toInt ≤ 9 → 0 ≤ a3.toInt → a3.toInt ≤ 100000100 → 0 ≤ a4.toInt → a4.toInt ≤ 100000100 → (-1) ≤ v59_5.toInt → v59_5.toInt ≤ 9 → 0 ≤ v59_6.toInt → v59_6.toInt ≤ 9 → 1 ≤ f115_12_0.toInt → f115_12_0.toInt ≤ 10 → (sumG 19 10 w377) ≤ (sumG 19 10 w1) → (sumG 19 10 w1) ≤ (sumG 19 10 w377) → (v59_5.toInt = -1 ∨ (gi w377 19 (v59_5.toInt).toNat).toInt = 0) → Wd dC dI A s.heap H locs w377 → TW ksM ad cy B qr 12 w377 → FE ksM [(77, 0, 10), (78, 0, 10)] w0 w377 → gi w377 12 0 = f115_12_0 → gi w377 19 (a2.toInt).toNat = 0 → gi w377 19 (v59_6.toInt).toNat = 0 → lv_has ls 9 [(0, .ref (ad 0)), (1, .int a1), (2, .int a2), (3, .int a3), (4, .int a4), (5, .int v59_5), (6, .int v59_6)] → W p l e ({ frames := 5, cells := 0, slots := 0, locals := 105 }) s m (List.toArray [.ref (ad 0), .int a1, .int a2, .int a3, .int a4]) below meth c H locs 0 0 (MQ below (va_Qi (P_X12_reaches_2 ad cy B qr s1 a1 a2 a3 a4 w0) (fun u : va_W => wpost dC dI cy A u) A) (List.toArray [.ref (ad 0), .int a1, .int a2, .int a3, .int a4]) s 0 0 A) (F0 m 115 ls []) := by
            intro f115_12_0 H locs ls w377 r378 t379 r380 t381 r382 t383 r384 t385 r386 t387 r388 t389 r390 t391 g395 g396 g397 hw hT hF c392 c393 c394 hl
            refine lv_iload hx hb dX12_reaches_115 (lv_at hl 6 rfl) ?_
            refine lv_istore (lv' := [(5, .int v59_6), (0, .ref (ad 0)), (1, .int a1), (2, .int a2), (3, .int a3), (4, .int a4), (6, .int v59_6)]) hx hb dX12_reaches_117 hl (by decide) rfl (fun ls hl => ?_)
            have gb398 : 0 ≤ sumG 19 10 w377 ∧ sumG 19 10 w377 ≤ 10 := hT.sum (lo := 0) (hi := 1) kM_at19 rfl (by decide) rfl
            exact J119 v59_6 f115_12_0 0 H locs ls w377 (show 0 ≤ a1.toInt by omega) (show a1.toInt ≤ 9 by omega) (show 0 ≤ a2.toInt by omega) (show a2.toInt ≤ 9 by omega) (show 0 ≤ a3.toInt by omega) (show a3.toInt ≤ 100000100 by omega) (show 0 ≤ a4.toInt by omega) (show a4.toInt ≤ 100000100 by omega) (show (-1) ≤ v59_6.toInt by omega) (show v59_6.toInt ≤ 9 by omega) (show 0 ≤ v59_6.toInt by omega) (show v59_6.toInt ≤ 9 by omega) (show 1 ≤ f115_12_0.toInt by omega) (show f115_12_0.toInt ≤ 10 by omega) (by decide) (by decide) (show (sumG 19 10 w377) ≤ (sumG 19 10 w1) by omega) (show (sumG 19 10 w1) ≤ (sumG 19 10 w377) by omega) (show (v59_6.toInt = -1 ∨ (gi w377 19 (v59_6.toInt).toNat).toInt = 0) by first | omega | assumption | (left; omega) | (left; decide) | (right; assumption) | (right; rw [c393]; omega) | (right; rw [c393]; decide) | (right; rw [c394]; omega) | (right; rw [c394]; decide))  hw hT hF c392 c393 c394 (lv_sub hl [1, 2, 3, 4, 5, 0, 6] rfl)
          refine lv_iload hx hb dX12_reaches_59 (lv_at hl 6 rfl) ?_
          refine lv_aload_n hx hb dX12_reaches_61 rfl (lv_at hl 0 rfl) ?_
          refine tk_getA hC hK hw hT hinX12 kM_at0 (by decide) rfl 26 (by decide) (List.mem_of_getElem? (i := 4) rfl) rfl rfl dX12_reaches_62 ?_
          refine lv_iconst (v := 0) hx hb dX12_reaches_65 (by decide) ?_
          refine tk_ialdR hC hK hw hT kM_at12 rfl (by decide) (by decide) dX12_reaches_66 (fun x399 c400 Ex399 => ?_)
          have bx399 := tk_rgI rfl 0 1 1 0 10 (by decide +kernel) ⟨0, by decide, by decide⟩ Ex399
          have c400 : gi w335 12 0 = x399 := c400
          refine lv_icmp_ge (tgt := 125) hx hb dX12_reaches_67 (by decide) (fun c401 => ?_) (fun c401 => ?_)
          · have c401 : x399.toInt ≤ v59_6.toInt := wk_le.mp c401
            refine lv_iload hx hb dX12_reaches_125 (lv_at hl 5 rfl) ?_
            refine lv_if_ge (tgt := 134) hx hb dX12_reaches_127 (by decide) (fun c402 => ?_) (fun c402 => ?_)
            · have c402 : (0 : Int) ≤ v59_5.toInt := wk_le.mp c402
              refine lv_aload_n hx hb dX12_reaches_134 rfl (lv_at hl 0 rfl) ?_
              refine tk_getA hC hK hw hT hinX12 kM_at0 (by decide) rfl 36 (by decide) (List.mem_of_getElem? (i := 3) rfl) rfl rfl dX12_reaches_135 ?_
              refine lv_iload hx hb dX12_reaches_138 (lv_at hl 5 rfl) ?_
              refine lv_iconst (v := 1) hx hb dX12_reaches_140 (by decide) ?_
              refine tk_zast hC hK hw hT kM_at19 (by decide) rfl rfl (show 0 ≤ v59_5.toInt by omega) (show v59_5.toInt < 10 by omega) (by decide) (by decide) dX12_reaches_141 (fun H locs w403 hw hT k405 c404 => ?_)
              have gs406 : sumG 19 10 w403 = sumG 19 10 w335 - (gi w335 19 (v59_5.toInt.toNat)).toInt + (gi w403 19 (v59_5.toInt.toNat)).toInt := sumG_up (i := v59_5.toInt.toNat) k405 10 (show v59_5.toInt.toNat < 10 by omega)
              rw [show gi w403 19 (v59_5.toInt.toNat) = 1 from c404] at gs406
              rw [show (1 : Int32).toInt = 1 by decide] at gs406
              have hF := hF.put kM_at19 (inE_of (a := 0) (b := 10) (by decide) (show 0 ≤ v59_5.toInt.toNat by omega) (show v59_5.toInt.toNat ≤ 10 by omega)) k405
              have c407 := k405.gi (Or.inl (tk_ne kM_at12 kM_at19 (by decide))) c400
              refine lv_iconst (v := 0) hx hb dX12_reaches_142 (by decide) ?_
              refine lv_istore (lv' := [(6, .int 0), (0, .ref (ad 0)), (1, .int a1), (2, .int a2), (3, .int a3), (4, .int a4), (5, .int v59_5)]) hx hb dX12_reaches_143 hl (by decide) rfl (fun ls hl => ?_)
              have gb408 : 0 ≤ sumG 19 10 w403 ∧ sumG 19 10 w403 ≤ 10 := hT.sum (lo := 0) (hi := 1) kM_at19 rfl (by decide) rfl
              exact L145 ((12 - (0 : Int)).toNat + 1) v59_5 0 x399 H locs ls w403 (show 0 ≤ a1.toInt by omega) (show a1.toInt ≤ 9 by omega) (show 0 ≤ a2.toInt by omega) (show a2.toInt ≤ 9 by omega) (show 0 ≤ a3.toInt by omega) (show a3.toInt ≤ 100000100 by omega) (show 0 ≤ a4.toInt by omega) (show a4.toInt ≤ 100000100 by omega) (show 0 ≤ v59_5.toInt by omega) (show v59_5.toInt ≤ 9 by omega) (by decide) (by decide) (show 0 ≤ x399.toInt by omega) (show x399.toInt ≤ 10 by omega) (show (sumG 19 10 w1) + 1 ≤ (sumG 19 10 w403) by omega) (Nat.lt_succ_self _) hw hT hF c407 (lv_sub hl [1, 2, 3, 4, 5, 6, 0] rfl)
            · have c402 : v59_5.toInt < (0 : Int) := wk_leF c402
              refine lv_ldcw (v := 100000000) hx hb hC.2.2.2.1 (hC.2.2.2.2 _ (List.mem_of_getElem? (i := 2) rfl)) dX12_reaches_130 ?_
              exact tk_iret hC hr hlocks hK ⟨hT, hF, ⟨(by decide), (by decide)⟩⟩ hw dX12_reaches_133
          · have c401 : v59_6.toInt < x399.toInt := wk_leF c401
            refine lv_aload_n hx hb dX12_reaches_70 rfl (lv_at hl 0 rfl) ?_
            refine tk_getA hC hK hw hT hinX12 kM_at0 (by decide) rfl 36 (by decide) (List.mem_of_getElem? (i := 3) rfl) rfl rfl dX12_reaches_71 ?_
            refine lv_iload hx hb dX12_reaches_74 (lv_at hl 6 rfl) ?_
            refine tk_zald hC hK hw hT kM_at19 rfl rfl (show 0 ≤ v59_6.toInt by omega) (show v59_6.toInt < 10 by omega) dX12_reaches_76 (fun x409 c410 rx409 tx409 => ?_)
            have c410 : gi w335 19 (v59_6.toInt).toNat = x409 := (congrArg (gi w335 19) (congrArg Int.toNat (show v59_6.toInt = v59_6.toInt by omega))).trans c410
            refine lv_if_ne (tgt := 119) hx hb dX12_reaches_77 (by decide) (fun c411 => ?_) (fun c411 => ?_)
            · have c411 : ¬ x409.toInt = (0 : Int) := wk_eqF c411
              have gb412 : 0 ≤ sumG 19 10 w335 ∧ sumG 19 10 w335 ≤ 10 := hT.sum (lo := 0) (hi := 1) kM_at19 rfl (by decide) rfl
              exact J119 v59_5 x399 x409 H locs ls w335 (show 0 ≤ a1.toInt by omega) (show a1.toInt ≤ 9 by omega) (show 0 ≤ a2.toInt by omega) (show a2.toInt ≤ 9 by omega) (show 0 ≤ a3.toInt by omega) (show a3.toInt ≤ 100000100 by omega) (show 0 ≤ a4.toInt by omega) (show a4.toInt ≤ 100000100 by omega) (show (-1) ≤ v59_5.toInt by omega) (show v59_5.toInt ≤ 9 by omega) (show 0 ≤ v59_6.toInt by omega) (show v59_6.toInt ≤ 9 by omega) (show 1 ≤ x399.toInt by omega) (show x399.toInt ≤ 10 by omega) (show 0 ≤ x409.toInt by omega) (show x409.toInt ≤ 1 by omega) (show (sumG 19 10 w335) ≤ (sumG 19 10 w1) by omega) (show (sumG 19 10 w1) ≤ (sumG 19 10 w335) by omega) (show (v59_5.toInt = -1 ∨ (gi w335 19 (v59_5.toInt).toNat).toInt = 0) by first | omega | assumption | (left; omega) | (left; decide) | (right; assumption) | (right; rw [c348]; omega) | (right; rw [c348]; decide) | (right; rw [c410]; omega) | (right; rw [c410]; decide))  hw hT hF c400 c348 c410 (lv_sub hl [0, 1, 2, 3, 4, 5, 6] rfl)
            · have c411 : x409.toInt = (0 : Int) := wk_eq.mp c411
              refine lv_aload_n hx hb dX12_reaches_80 rfl (lv_at hl 0 rfl) ?_
              refine tk_getA hC hK hw hT hinX12 kM_at0 (by decide) rfl 35 (by decide) (List.mem_of_getElem? (i := 1) rfl) rfl rfl dX12_reaches_81 ?_
              refine lv_iload hx hb dX12_reaches_84 (lv_at hl 6 rfl) ?_
              refine tk_iald hC hK hw hT kM_at18 rfl rfl (show 0 ≤ v59_6.toInt by omega) (show v59_6.toInt < 10 by omega) dX12_reaches_86 (fun x413 c414 rx413 tx413 => ?_)
              refine lv_ldcw (v := 100000000) hx hb hC.2.2.2.1 (hC.2.2.2.2 _ (List.mem_of_getElem? (i := 2) rfl)) dX12_reaches_87 ?_
              refine lv_icmp_ge (tgt := 119) hx hb dX12_reaches_90 (by decide) (fun c415 => ?_) (fun c415 => ?_)
              · have c415 : (100000000 : Int) ≤ x413.toInt := wk_le.mp c415
                have gb416 : 0 ≤ sumG 19 10 w335 ∧ sumG 19 10 w335 ≤ 10 := hT.sum (lo := 0) (hi := 1) kM_at19 rfl (by decide) rfl
                exact J119 v59_5 x399 x409 H locs ls w335 (show 0 ≤ a1.toInt by omega) (show a1.toInt ≤ 9 by omega) (show 0 ≤ a2.toInt by omega) (show a2.toInt ≤ 9 by omega) (show 0 ≤ a3.toInt by omega) (show a3.toInt ≤ 100000100 by omega) (show 0 ≤ a4.toInt by omega) (show a4.toInt ≤ 100000100 by omega) (show (-1) ≤ v59_5.toInt by omega) (show v59_5.toInt ≤ 9 by omega) (show 0 ≤ v59_6.toInt by omega) (show v59_6.toInt ≤ 9 by omega) (show 1 ≤ x399.toInt by omega) (show x399.toInt ≤ 10 by omega) (show 0 ≤ x409.toInt by omega) (show x409.toInt ≤ 1 by omega) (show (sumG 19 10 w335) ≤ (sumG 19 10 w1) by omega) (show (sumG 19 10 w1) ≤ (sumG 19 10 w335) by omega) (show (v59_5.toInt = -1 ∨ (gi w335 19 (v59_5.toInt).toNat).toInt = 0) by first | omega | assumption | (left; omega) | (left; decide) | (right; assumption) | (right; rw [c348]; omega) | (right; rw [c348]; decide) | (right; rw [c410]; omega) | (right; rw [c410]; decide))  hw hT hF c400 c348 c410 (lv_sub hl [0, 1, 2, 3, 4, 5, 6] rfl)
              · have c415 : x413.toInt < (100000000 : Int) := wk_leF c415
                refine lv_iload hx hb dX12_reaches_93 (lv_at hl 5 rfl) ?_
                refine lv_if_lt (tgt := 115) hx hb dX12_reaches_95 (by decide) (fun c417 => ?_) (fun c417 => ?_)
                · have c417 : v59_5.toInt < (0 : Int) := wk_lt.mp c417
                  have gb418 : 0 ≤ sumG 19 10 w335 ∧ sumG 19 10 w335 ≤ 10 := hT.sum (lo := 0) (hi := 1) kM_at19 rfl (by decide) rfl
                  obtain rfl : x409 = 0 := wk_eq.mpr (show x409.toInt = 0 by omega)
                  exact J115 x399 H locs ls w335 (show 0 ≤ a1.toInt by omega) (show a1.toInt ≤ 9 by omega) (show 0 ≤ a2.toInt by omega) (show a2.toInt ≤ 9 by omega) (show 0 ≤ a3.toInt by omega) (show a3.toInt ≤ 100000100 by omega) (show 0 ≤ a4.toInt by omega) (show a4.toInt ≤ 100000100 by omega) (show (-1) ≤ v59_5.toInt by omega) (show v59_5.toInt ≤ 9 by omega) (show 0 ≤ v59_6.toInt by omega) (show v59_6.toInt ≤ 9 by omega) (show 1 ≤ x399.toInt by omega) (show x399.toInt ≤ 10 by omega) (show (sumG 19 10 w335) ≤ (sumG 19 10 w1) by omega) (show (sumG 19 10 w1) ≤ (sumG 19 10 w335) by omega) (show (v59_5.toInt = -1 ∨ (gi w335 19 (v59_5.toInt).toNat).toInt = 0) by first | omega | assumption | (left; omega) | (left; decide) | (right; assumption) | (right; rw [c348]; omega) | (right; rw [c348]; decide) | (right; rw [c410]; omega) | (right; rw [c410]; decide))  hw hT hF c400 c348 c410 (lv_sub hl [0, 1, 2, 3, 4, 5, 6] rfl)
                · have c417 : (0 : Int) ≤ v59_5.toInt := wk_ltF c417
                  refine lv_aload_n hx hb dX12_reaches_98 rfl (lv_at hl 0 rfl) ?_
                  refine tk_getA hC hK hw hT hinX12 kM_at0 (by decide) rfl 35 (by decide) (List.mem_of_getElem? (i := 1) rfl) rfl rfl dX12_reaches_99 ?_
                  refine lv_iload hx hb dX12_reaches_102 (lv_at hl 6 rfl) ?_
                  refine tk_iald hC hK hw hT kM_at18 rfl rfl (show 0 ≤ v59_6.toInt by omega) (show v59_6.toInt < 10 by omega) dX12_reaches_104 (fun x419 c420 rx419 tx419 => ?_)
                  refine lv_aload_n hx hb dX12_reaches_105 rfl (lv_at hl 0 rfl) ?_
                  refine tk_getA hC hK hw hT hinX12 kM_at0 (by decide) rfl 35 (by decide) (List.mem_of_getElem? (i := 1) rfl) rfl rfl dX12_reaches_106 ?_
                  refine lv_iload hx hb dX12_reaches_109 (lv_at hl 5 rfl) ?_
                  refine tk_iald hC hK hw hT kM_at18 rfl rfl (show 0 ≤ v59_5.toInt by omega) (show v59_5.toInt < 10 by omega) dX12_reaches_111 (fun x421 c422 rx421 tx421 => ?_)
                  refine lv_icmp_ge (tgt := 119) hx hb dX12_reaches_112 (by decide) (fun c423 => ?_) (fun c423 => ?_)
                  · have c423 : x421.toInt ≤ x419.toInt := wk_le.mp c423
                    have gb424 : 0 ≤ sumG 19 10 w335 ∧ sumG 19 10 w335 ≤ 10 := hT.sum (lo := 0) (hi := 1) kM_at19 rfl (by decide) rfl
                    exact J119 v59_5 x399 x409 H locs ls w335 (show 0 ≤ a1.toInt by omega) (show a1.toInt ≤ 9 by omega) (show 0 ≤ a2.toInt by omega) (show a2.toInt ≤ 9 by omega) (show 0 ≤ a3.toInt by omega) (show a3.toInt ≤ 100000100 by omega) (show 0 ≤ a4.toInt by omega) (show a4.toInt ≤ 100000100 by omega) (show (-1) ≤ v59_5.toInt by omega) (show v59_5.toInt ≤ 9 by omega) (show 0 ≤ v59_6.toInt by omega) (show v59_6.toInt ≤ 9 by omega) (show 1 ≤ x399.toInt by omega) (show x399.toInt ≤ 10 by omega) (show 0 ≤ x409.toInt by omega) (show x409.toInt ≤ 1 by omega) (show (sumG 19 10 w335) ≤ (sumG 19 10 w1) by omega) (show (sumG 19 10 w1) ≤ (sumG 19 10 w335) by omega) (show (v59_5.toInt = -1 ∨ (gi w335 19 (v59_5.toInt).toNat).toInt = 0) by first | omega | assumption | (left; omega) | (left; decide) | (right; assumption) | (right; rw [c348]; omega) | (right; rw [c348]; decide) | (right; rw [c410]; omega) | (right; rw [c410]; decide))  hw hT hF c400 c348 c410 (lv_sub hl [0, 1, 2, 3, 4, 5, 6] rfl)
                  · have c423 : x419.toInt < x421.toInt := wk_leF c423
                    have gb425 : 0 ≤ sumG 19 10 w335 ∧ sumG 19 10 w335 ≤ 10 := hT.sum (lo := 0) (hi := 1) kM_at19 rfl (by decide) rfl
                    obtain rfl : x409 = 0 := wk_eq.mpr (show x409.toInt = 0 by omega)
                    exact J115 x399 H locs ls w335 (show 0 ≤ a1.toInt by omega) (show a1.toInt ≤ 9 by omega) (show 0 ≤ a2.toInt by omega) (show a2.toInt ≤ 9 by omega) (show 0 ≤ a3.toInt by omega) (show a3.toInt ≤ 100000100 by omega) (show 0 ≤ a4.toInt by omega) (show a4.toInt ≤ 100000100 by omega) (show (-1) ≤ v59_5.toInt by omega) (show v59_5.toInt ≤ 9 by omega) (show 0 ≤ v59_6.toInt by omega) (show v59_6.toInt ≤ 9 by omega) (show 1 ≤ x399.toInt by omega) (show x399.toInt ≤ 10 by omega) (show (sumG 19 10 w335) ≤ (sumG 19 10 w1) by omega) (show (sumG 19 10 w1) ≤ (sumG 19 10 w335) by omega) (show (v59_5.toInt = -1 ∨ (gi w335 19 (v59_5.toInt).toNat).toInt = 0) by first | omega | assumption | (left; omega) | (left; decide) | (right; assumption) | (right; rw [c348]; omega) | (right; rw [c348]; decide) | (right; rw [c410]; omega) | (right; rw [c410]; decide))  hw hT hF c400 c348 c410 (lv_sub hl [0, 1, 2, 3, 4, 5, 6] rfl)
      refine lv_aload_n hx hb dX12_reaches_44 rfl (lv_at hl 0 rfl) ?_
      refine tk_getA hC hK hw hT hinX12 kM_at0 (by decide) rfl 36 (by decide) (List.mem_of_getElem? (i := 3) rfl) rfl rfl dX12_reaches_45 ?_
      refine lv_iload_n hx hb dX12_reaches_48 rfl (lv_at hl 2 rfl) ?_
      refine tk_zald hC hK hw hT kM_at19 rfl rfl (show 0 ≤ a2.toInt by omega) (show a2.toInt < 10 by omega) dX12_reaches_49 (fun x426 c427 rx426 tx426 => ?_)
      have c427 : gi w1 19 (a2.toInt).toNat = x426 := (congrArg (gi w1 19) (congrArg Int.toNat (show a2.toInt = a2.toInt by omega))).trans c427
      refine lv_if_ne (tgt := 268) hx hb dX12_reaches_50 (by decide) (fun c428 => ?_) (fun c428 => ?_)
      · have c428 : ¬ x426.toInt = (0 : Int) := wk_eqF c428
        refine lv_aload_n hx hb dX12_reaches_268 rfl (lv_at hl 0 rfl) ?_
        refine tk_getA hC hK hw hT hinX12 kM_at0 (by decide) rfl 35 (by decide) (List.mem_of_getElem? (i := 1) rfl) rfl rfl dX12_reaches_269 ?_
        refine lv_iload_n hx hb dX12_reaches_272 rfl (lv_at hl 2 rfl) ?_
        refine tk_iald hC hK hw hT kM_at18 rfl rfl (show 0 ≤ a2.toInt by omega) (show a2.toInt < 10 by omega) dX12_reaches_273 (fun x429 c430 rx429 tx429 => ?_)
        exact tk_iret hC hr hlocks hK ⟨hT, hF, ⟨(show 0 ≤ x429.toInt by omega), (show x429.toInt ≤ 100000100 by omega)⟩⟩ hw dX12_reaches_274
      · have c428 : x426.toInt = (0 : Int) := wk_eq.mp c428
        refine lv_iconst (v := (-1)) hx hb dX12_reaches_53 (by decide) ?_
        refine lv_istore (lv' := [(5, .int (-1)), (0, .ref (ad 0)), (1, .int a1), (2, .int a2), (3, .int a3), (4, .int a4)]) hx hb dX12_reaches_54 hl (by decide) rfl (fun ls hl => ?_)
        refine lv_iconst (v := 0) hx hb dX12_reaches_56 (by decide) ?_
        refine lv_istore (lv' := [(6, .int 0), (5, .int (-1)), (0, .ref (ad 0)), (1, .int a1), (2, .int a2), (3, .int a3), (4, .int a4)]) hx hb dX12_reaches_57 hl (by decide) rfl (fun ls hl => ?_)
        have gb431 : 0 ≤ sumG 19 10 w1 ∧ sumG 19 10 w1 ≤ 10 := hT.sum (lo := 0) (hi := 1) kM_at19 rfl (by decide) rfl
        obtain rfl : x426 = 0 := wk_eq.mpr (show x426.toInt = 0 by omega)
        exact L59 ((10 - (0 : Int)).toNat + 1) (-1) 0 H locs ls w1 (show 0 ≤ a1.toInt by omega) (show a1.toInt ≤ 9 by omega) (show 0 ≤ a2.toInt by omega) (show a2.toInt ≤ 9 by omega) (show 0 ≤ a3.toInt by omega) (show a3.toInt ≤ 100000100 by omega) (show 0 ≤ a4.toInt by omega) (show a4.toInt ≤ 100000100 by omega) (by decide) (by decide) (by decide) (by decide) (show (sumG 19 10 w1) ≤ (sumG 19 10 w1) by omega) (show (sumG 19 10 w1) ≤ (sumG 19 10 w1) by omega) (show ((-1 : Int) = -1 ∨ (gi w1 19 ((-1 : Int)).toNat).toInt = 0) by first | omega | assumption | (left; omega) | (left; decide) | (right; assumption) | (right; rw [c427]; omega) | (right; rw [c427]; decide)) (Nat.lt_succ_self _) hw hT hF c427 (lv_sub hl [2, 3, 4, 5, 6, 1, 0] rfl)
  have L3 : ∀ (n3 : Nat) (v3_5 : Int32) (H : Heap) (locs : List Loc) (ls : Array Slot) (w432 : va_W), 0 ≤ a1.toInt → a1.toInt ≤ 9 → 0 ≤ a2.toInt → a2.toInt ≤ 9 → 0 ≤ a3.toInt → a3.toInt ≤ 100000100 → 0 ≤ a4.toInt → a4.toInt ≤ 100000100 → 0 ≤ v3_5.toInt → v3_5.toInt ≤ 10 → (10 - v3_5.toInt).toNat < n3 → Wd dC dI A s.heap H locs w432 → TW ksM ad cy B qr 12 w432 → FE ksM [(77, 0, 10), (78, 0, 10)] w0 w432 → lv_has ls 9 [(0, .ref (ad 0)), (1, .int a1), (2, .int a2), (3, .int a3), (4, .int a4), (5, .int v3_5)] → W p l e ({ frames := 5, cells := 0, slots := 0, locals := 105 }) s m (List.toArray [.ref (ad 0), .int a1, .int a2, .int a3, .int a4]) below meth c H locs 0 0 (MQ below (va_Qi (P_X12_reaches_2 ad cy B qr s1 a1 a2 a3 a4 w0) (fun u : va_W => wpost dC dI cy A u) A) (List.toArray [.ref (ad 0), .int a1, .int a2, .int a3, .int a4]) s 0 0 A) (F0 m 3 ls []) := by
    intro n3
    induction n3 with
    | zero => intro v3_5 H locs ls w432 r433 t434 r435 t436 r437 t438 r439 t440 r441 t442 hm3 hw hT hF hl; omega
    | succ n3 ih3 =>
      intro v3_5 H locs ls w432 r433 t434 r435 t436 r437 t438 r439 t440 r441 t442 hm3 hw hT hF hl
      refine lv_iload hx hb dX12_reaches_3 (lv_at hl 5 rfl) ?_
      refine lv_bipush (v := 10) hx hb dX12_reaches_5 (by decide) ?_
      refine lv_icmp_ge (tgt := 44) hx hb dX12_reaches_7 (by decide) (fun c443 => ?_) (fun c443 => ?_)
      · have c443 : (10 : Int) ≤ v3_5.toInt := wk_le.mp c443
        have gb444 : 0 ≤ sumG 19 10 w432 ∧ sumG 19 10 w432 ≤ 10 := hT.sum (lo := 0) (hi := 1) kM_at19 rfl (by decide) rfl
        exact L44 ((10 - (sumG 19 10 w432)).toNat + 1) v3_5 H locs ls w432 (show 0 ≤ a1.toInt by omega) (show a1.toInt ≤ 9 by omega) (show 0 ≤ a2.toInt by omega) (show a2.toInt ≤ 9 by omega) (show 0 ≤ a3.toInt by omega) (show a3.toInt ≤ 100000100 by omega) (show 0 ≤ a4.toInt by omega) (show a4.toInt ≤ 100000100 by omega) (show 0 ≤ v3_5.toInt by omega) (show v3_5.toInt ≤ 10 by omega) (show 0 ≤ (sumG 19 10 w432) by omega) (Nat.lt_succ_self _) hw hT hF  (lv_sub hl [0, 1, 2, 3, 4, 5] rfl)
      · have c443 : v3_5.toInt < (10 : Int) := wk_leF c443
        refine lv_aload_n hx hb dX12_reaches_10 rfl (lv_at hl 0 rfl) ?_
        refine tk_getA hC hK hw hT hinX12 kM_at0 (by decide) rfl 35 (by decide) (List.mem_of_getElem? (i := 1) rfl) rfl rfl dX12_reaches_11 ?_
        refine lv_iload hx hb dX12_reaches_14 (lv_at hl 5 rfl) ?_
        refine lv_iload hx hb dX12_reaches_16 (lv_at hl 5 rfl) ?_
        refine lv_iload_n hx hb dX12_reaches_18 rfl (lv_at hl 1 rfl) ?_
        refine lv_icmp_ne (tgt := 26) hx hb dX12_reaches_19 (by decide) (fun c445 => ?_) (fun c445 => ?_)
        · have c445 : ¬ v3_5.toInt = a1.toInt := wk_eqF c445
          refine lv_ldcw (v := 100000000) hx hb hC.2.2.2.1 (hC.2.2.2.2 _ (List.mem_of_getElem? (i := 2) rfl)) dX12_reaches_26 ?_
          refine tk_iast hC hK hw hT kM_at18 (by decide) rfl rfl (show 0 ≤ v3_5.toInt by omega) (show v3_5.toInt < 10 by omega) (by decide) (by decide) dX12_reaches_29 (fun H locs w446 hw hT k448 c447 => ?_)
          have gs449 : sumG 19 10 w446 = sumG 19 10 w432 := sumG_ne 10 k448 (tk_ne kM_at19 kM_at18 (by decide))
          have hF := hF.put kM_at18 (inE_of (a := 0) (b := 10) (by decide) (show 0 ≤ v3_5.toInt.toNat by omega) (show v3_5.toInt.toNat ≤ 10 by omega)) k448
          refine lv_aload_n hx hb dX12_reaches_30 rfl (lv_at hl 0 rfl) ?_
          refine tk_getA hC hK hw hT hinX12 kM_at0 (by decide) rfl 36 (by decide) (List.mem_of_getElem? (i := 3) rfl) rfl rfl dX12_reaches_31 ?_
          refine lv_iload hx hb dX12_reaches_34 (lv_at hl 5 rfl) ?_
          refine lv_iconst (v := 0) hx hb dX12_reaches_36 (by decide) ?_
          refine tk_zast hC hK hw hT kM_at19 (by decide) rfl rfl (show 0 ≤ v3_5.toInt by omega) (show v3_5.toInt < 10 by omega) (by decide) (by decide) dX12_reaches_37 (fun H locs w450 hw hT k452 c451 => ?_)
          have gs453 : sumG 19 10 w450 = sumG 19 10 w446 - (gi w446 19 (v3_5.toInt.toNat)).toInt + (gi w450 19 (v3_5.toInt.toNat)).toInt := sumG_up (i := v3_5.toInt.toNat) k452 10 (show v3_5.toInt.toNat < 10 by omega)
          rw [show gi w450 19 (v3_5.toInt.toNat) = 0 from c451] at gs453
          rw [show (0 : Int32).toInt = 0 by decide] at gs453
          have hF := hF.put kM_at19 (inE_of (a := 0) (b := 10) (by decide) (show 0 ≤ v3_5.toInt.toNat by omega) (show v3_5.toInt.toNat ≤ 10 by omega)) k452
          obtain ⟨x454, ex454⟩ : ∃ y : Int32, y = v3_5 + Int32.ofInt 1 := ⟨_, rfl⟩
          refine lv_iinc (v := x454) (lv' := [(5, .int x454), (0, .ref (ad 0)), (1, .int a1), (2, .int a2), (3, .int a3), (4, .int a4)]) hx hb dX12_reaches_38 hl (k := 5) rfl ex454.symm (by decide) rfl (fun ls hl => ?_)
          have ex454 : x454.toInt = v3_5.toInt + 1 := by rw [ex454]; exact wk_add (y := 1) (show -2147483648 ≤ v3_5.toInt + 1 by omega) (show v3_5.toInt + 1 ≤ 2147483647 by omega)
          refine lv_goto (tgt := 3) hx hb dX12_reaches_41 (by decide) ?_
          exact ih3 x454 H locs ls w450 (show 0 ≤ a1.toInt by omega) (show a1.toInt ≤ 9 by omega) (show 0 ≤ a2.toInt by omega) (show a2.toInt ≤ 9 by omega) (show 0 ≤ a3.toInt by omega) (show a3.toInt ≤ 100000100 by omega) (show 0 ≤ a4.toInt by omega) (show a4.toInt ≤ 100000100 by omega) (show 0 ≤ x454.toInt by omega) (show x454.toInt ≤ 10 by omega) (show (10 - x454.toInt).toNat < n3 by omega) hw hT hF  (lv_sub hl [1, 2, 3, 4, 5, 0] rfl)
        · have c445 : v3_5.toInt = a1.toInt := wk_eq.mp c445
          refine lv_iload_n hx hb dX12_reaches_22 rfl (lv_at hl 3 rfl) ?_
          refine lv_goto (tgt := 29) hx hb dX12_reaches_23 (by decide) ?_
          refine tk_iast hC hK hw hT kM_at18 (by decide) rfl rfl (show 0 ≤ v3_5.toInt by omega) (show v3_5.toInt < 10 by omega) (show 0 ≤ a3.toInt by omega) (show a3.toInt ≤ 100000100 by omega) dX12_reaches_29 (fun H locs w455 hw hT k457 c456 => ?_)
          have gs458 : sumG 19 10 w455 = sumG 19 10 w432 := sumG_ne 10 k457 (tk_ne kM_at19 kM_at18 (by decide))
          have hF := hF.put kM_at18 (inE_of (a := 0) (b := 10) (by decide) (show 0 ≤ v3_5.toInt.toNat by omega) (show v3_5.toInt.toNat ≤ 10 by omega)) k457
          refine lv_aload_n hx hb dX12_reaches_30 rfl (lv_at hl 0 rfl) ?_
          refine tk_getA hC hK hw hT hinX12 kM_at0 (by decide) rfl 36 (by decide) (List.mem_of_getElem? (i := 3) rfl) rfl rfl dX12_reaches_31 ?_
          refine lv_iload hx hb dX12_reaches_34 (lv_at hl 5 rfl) ?_
          refine lv_iconst (v := 0) hx hb dX12_reaches_36 (by decide) ?_
          refine tk_zast hC hK hw hT kM_at19 (by decide) rfl rfl (show 0 ≤ v3_5.toInt by omega) (show v3_5.toInt < 10 by omega) (by decide) (by decide) dX12_reaches_37 (fun H locs w459 hw hT k461 c460 => ?_)
          have gs462 : sumG 19 10 w459 = sumG 19 10 w455 - (gi w455 19 (v3_5.toInt.toNat)).toInt + (gi w459 19 (v3_5.toInt.toNat)).toInt := sumG_up (i := v3_5.toInt.toNat) k461 10 (show v3_5.toInt.toNat < 10 by omega)
          rw [show gi w459 19 (v3_5.toInt.toNat) = 0 from c460] at gs462
          rw [show (0 : Int32).toInt = 0 by decide] at gs462
          have hF := hF.put kM_at19 (inE_of (a := 0) (b := 10) (by decide) (show 0 ≤ v3_5.toInt.toNat by omega) (show v3_5.toInt.toNat ≤ 10 by omega)) k461
          obtain ⟨x463, ex463⟩ : ∃ y : Int32, y = v3_5 + Int32.ofInt 1 := ⟨_, rfl⟩
          refine lv_iinc (v := x463) (lv' := [(5, .int x463), (0, .ref (ad 0)), (1, .int a1), (2, .int a2), (3, .int a3), (4, .int a4)]) hx hb dX12_reaches_38 hl (k := 5) rfl ex463.symm (by decide) rfl (fun ls hl => ?_)
          have ex463 : x463.toInt = v3_5.toInt + 1 := by rw [ex463]; exact wk_add (y := 1) (show -2147483648 ≤ v3_5.toInt + 1 by omega) (show v3_5.toInt + 1 ≤ 2147483647 by omega)
          refine lv_goto (tgt := 3) hx hb dX12_reaches_41 (by decide) ?_
          exact ih3 x463 H locs ls w459 (show 0 ≤ a1.toInt by omega) (show a1.toInt ≤ 9 by omega) (show 0 ≤ a2.toInt by omega) (show a2.toInt ≤ 9 by omega) (show 0 ≤ a3.toInt by omega) (show a3.toInt ≤ 100000100 by omega) (show 0 ≤ a4.toInt by omega) (show a4.toInt ≤ 100000100 by omega) (show 0 ≤ x463.toInt by omega) (show x463.toInt ≤ 10 by omega) (show (10 - x463.toInt).toNat < n3 by omega) hw hT hF  (lv_sub hl [1, 2, 3, 4, 5, 0] rfl)
  refine lv_iconst (v := 0) hx hb dX12_reaches_0 (by decide) ?_
  refine lv_istore (lv' := [(5, .int 0), (0, .ref (ad 0)), (1, .int a1), (2, .int a2), (3, .int a3), (4, .int a4)]) hx hb dX12_reaches_1 hl (by decide) rfl (fun ls hl => ?_)
  exact L3 ((10 - (0 : Int)).toNat + 1) 0 s.heap locs ls w0 (show 0 ≤ a1.toInt by omega) (show a1.toInt ≤ 9 by omega) (show 0 ≤ a2.toInt by omega) (show a2.toInt ≤ 9 by omega) (show 0 ≤ a3.toInt by omega) (show a3.toInt ≤ 100000100 by omega) (show 0 ≤ a4.toInt by omega) (show a4.toInt ≤ 100000100 by omega) (by decide) (by decide) (Nat.lt_succ_self _) hw hT hF  (lv_sub hl [1, 2, 3, 4, 5, 0] rfl)
abbrev P_X12_wayFrom_1 (ad : Nat → Nat) (cy : Nat → ClassId) (B : Int) (qr : Nat) (s1 : Int) (a1 : Int32) (a2 : Int32) (a3 : Int32) (a4 : Int32) (w0 : va_W) : Int32 → va_W → Prop := fun r u => TW ksM ad cy B qr 12 u ∧ FE ksM [(12, 37, 37), (77, 0, 10), (78, 0, 10)] w0 u ∧ ((0 ≤ r.toInt ∧ r.toInt ≤ 11 ∧ a1.toInt ≤ 9 ∧ (∃ y : Int32, gi u 0 37 = y ∧ 0 ≤ y.toInt ∧ y.toInt ≤ 100000100) ∧ (∃ y : Int32, gi u 12 1 = y ∧ 1 ≤ y.toInt ∧ y.toInt ≤ 12)) ∨ (0 ≤ r.toInt ∧ r.toInt ≤ 11 ∧ a1.toInt ≤ 9 ∧ (∃ y : Int32, gi u 0 37 = y ∧ 0 ≤ y.toInt ∧ y.toInt ≤ 100000100) ∧ (∃ y : Int32, gi u 12 1 = y ∧ 1 ≤ y.toInt ∧ y.toInt ≤ 12) ∧ gi u 12 (10 * r.toInt + 10).toNat = a1) ∨ (r = (-1)))
set_option maxHeartbeats 4000000 in
set_option maxRecDepth 100000 in
theorem k_X12_wayFrom_1 (l : Launch) (adK adV : Nat → Nat) (dC : Nat → ClassId) (dI : Nat → Nat → Nat) (cy : Nat → ClassId) (ad : Nat → Nat) (B : Int) (hB0 : 100000 ≤ B) (hB1 : B ≤ 1073741824) (qr : Nat) (s1 : Int)  (a1 : Int32) (ra1 : 0 ≤ a1.toInt) (ta1 : a1.toInt ≤ 12) (a2 : Int32) (ra2 : 0 ≤ a2.toInt) (ta2 : a2.toInt ≤ 9) (a3 : Int32) (ra3 : 0 ≤ a3.toInt) (ta3 : a3.toInt ≤ 100000208) (a4 : Int32) (ra4 : 0 ≤ a4.toInt) (ta4 : a4.toInt ≤ 100000100) (w0 : va_W) (sz : Nat) (hT : TW ksM ad cy B qr 12 w0)  : Met l yX12_wayFrom wsX12_wayFrom ({ frames := 6, cells := 0, slots := 0, locals := 133 }) (va_Pc [.ref (ad 0), .int a1, .int a2, .int a3, .int a4] (wpreS adK adV dC dI cy sz w0)) (va_Qi (P_X12_wayFrom_1 ad cy B qr s1 a1 a2 a3 a4 w0) (fun u : va_W => wpost dC dI cy (va_A w0 sz) u) (va_A w0 sz)) 0 0 (va_A w0 sz) := by
  refine Met.ofW (cc := cX12_wayFrom) (maxL := 6) (ret := (some .int)) (by decide) rfl ?_
  intro p e s m args below meth c s₁ Bk hml hv
  obtain ⟨rfl, ⟨hsz, hP, hK, hD0⟩, hE, hSR⟩ := hv
  have hx := Bk.exec
  have hb := Bk.bytes
  have hr := Bk.returns
  have hlocks := Bk.notSynchronized
  have hC : CallFix p m c cX12_wayFrom 6 s _ wsX12_wayFrom RX12 := ⟨hx, hb, hml, findClass_of_methodNamed Bk.named, atoms_spec (ws := wsX12_wayFrom) Bk.pre⟩
  subst hsz
  have hD := hD0.self (sz := s.heap.size)
  generalize hAe : va_A w0 s.heap.size = A at hD hE ⊢
  have hA : ∀ q : Nat, s.heap.size ≤ q → A q := fun q h => by rw [← hAe]; exact Or.inr h
  have hw : Wd dC dI A s.heap s.heap [] w0 := ⟨hP, hD, va_S.rf⟩
  have hF : FE ksM [(12, 37, 37), (77, 0, 10), (78, 0, 10)] w0 w0 := FE.rf
  have hl := lv_entry ([.ref (ad 0), .int a1, .int a2, .int a3, .int a4]) (n := 6) (Nat.le_of_ble_eq_true rfl)
  rw [lg_entry_eq]
  generalize (lg_sl ([.ref (ad 0), .int a1, .int a2, .int a3, .int a4]) ++ List.replicate (6 - (lg_sl ([.ref (ad 0), .int a1, .int a2, .int a3, .int a4])).length) Slot.unset).toArray = ls at hl ⊢
  have hl : lv_has ls 6 [(0, .ref (ad 0)), (1, .int a1), (2, .int a2), (3, .int a3), (4, .int a4)] := hl
  generalize hloc : ([] : List Loc) = locs at hw ⊢
  have hinX12 : ∀ w ∈ u_ws RX12 TX12 42, w ∈ wsX12_wayFrom := fun _ h => List.mem_cons_of_mem _ (List.mem_append_right _ (h))
  have L3 : ∀ (n3 : Nat) (v3_5 : Int32) (H : Heap) (locs : List Loc) (ls : Array Slot) (w1 : va_W), 0 ≤ a1.toInt → a1.toInt ≤ 12 → 0 ≤ a2.toInt → a2.toInt ≤ 9 → 0 ≤ a3.toInt → a3.toInt ≤ 100000208 → 0 ≤ a4.toInt → a4.toInt ≤ 100000100 → 0 ≤ v3_5.toInt → v3_5.toInt ≤ 12 → (12 - v3_5.toInt).toNat < n3 → Wd dC dI A s.heap H locs w1 → TW ksM ad cy B qr 12 w1 → FE ksM [(12, 37, 37), (77, 0, 10), (78, 0, 10)] w0 w1 → lv_has ls 6 [(0, .ref (ad 0)), (1, .int a1), (2, .int a2), (3, .int a3), (4, .int a4), (5, .int v3_5)] → W p l e ({ frames := 6, cells := 0, slots := 0, locals := 133 }) s m (List.toArray [.ref (ad 0), .int a1, .int a2, .int a3, .int a4]) below meth c H locs 0 0 (MQ below (va_Qi (P_X12_wayFrom_1 ad cy B qr s1 a1 a2 a3 a4 w0) (fun u : va_W => wpost dC dI cy A u) A) (List.toArray [.ref (ad 0), .int a1, .int a2, .int a3, .int a4]) s 0 0 A) (F0 m 3 ls []) := by
    intro n3
    induction n3 with
    | zero => intro v3_5 H locs ls w1 r2 t3 r4 t5 r6 t7 r8 t9 r10 t11 hm3 hw hT hF hl; omega
    | succ n3 ih3 =>
      intro v3_5 H locs ls w1 r2 t3 r4 t5 r6 t7 r8 t9 r10 t11 hm3 hw hT hF hl
      have J105 : ∀ (f105_12_1 : Int32) (H : Heap) (locs : List Loc) (ls : Array Slot) (w12 : va_W), 0 ≤ a1.toInt → a1.toInt ≤ 12 → 0 ≤ a2.toInt → a2.toInt ≤ 9 → 0 ≤ a3.toInt → a3.toInt ≤ 100000208 → 0 ≤ a4.toInt → a4.toInt ≤ 100000100 → 0 ≤ v3_5.toInt → v3_5.toInt ≤ 11 → 1 ≤ f105_12_1.toInt → f105_12_1.toInt ≤ 12 → Wd dC dI A s.heap H locs w12 → TW ksM ad cy B qr 12 w12 → FE ksM [(12, 37, 37), (77, 0, 10), (78, 0, 10)] w0 w12 → gi w12 12 1 = f105_12_1 → lv_has ls 6 [(0, .ref (ad 0)), (1, .int a1), (2, .int a2), (3, .int a3), (4, .int a4), (5, .int v3_5)] → W p l e ({ frames := 6, cells := 0, slots := 0, locals := 133 }) s m (List.toArray [.ref (ad 0), .int a1, .int a2, .int a3, .int a4]) below meth c H locs 0 0 (MQ below (va_Qi (P_X12_wayFrom_1 ad cy B qr s1 a1 a2 a3 a4 w0) (fun u : va_W => wpost dC dI cy A u) A) (List.toArray [.ref (ad 0), .int a1, .int a2, .int a3, .int a4]) s 0 0 A) (F0 m 105 ls []) := by
        intro f105_12_1 H locs ls w12 r13 t14 r15 t16 r17 t18 r19 t20 r21 t22 r23 t24 hw hT hF c25 hl
        obtain ⟨x26, ex26⟩ : ∃ y : Int32, y = v3_5 + Int32.ofInt 1 := ⟨_, rfl⟩
        refine lv_iinc (v := x26) (lv' := [(5, .int x26), (0, .ref (ad 0)), (1, .int a1), (2, .int a2), (3, .int a3), (4, .int a4)]) hx hb dX12_wayFrom_105 hl (k := 5) rfl ex26.symm (by decide) rfl (fun ls hl => ?_)
        have ex26 : x26.toInt = v3_5.toInt + 1 := by rw [ex26]; exact wk_add (y := 1) (show -2147483648 ≤ v3_5.toInt + 1 by omega) (show v3_5.toInt + 1 ≤ 2147483647 by omega)
        refine lv_goto (tgt := 3) hx hb dX12_wayFrom_108 (by decide) ?_
        exact ih3 x26 H locs ls w12 (show 0 ≤ a1.toInt by omega) (show a1.toInt ≤ 12 by omega) (show 0 ≤ a2.toInt by omega) (show a2.toInt ≤ 9 by omega) (show 0 ≤ a3.toInt by omega) (show a3.toInt ≤ 100000208 by omega) (show 0 ≤ a4.toInt by omega) (show a4.toInt ≤ 100000100 by omega) (show 0 ≤ x26.toInt by omega) (show x26.toInt ≤ 12 by omega) (show (12 - x26.toInt).toNat < n3 by omega) hw hT hF  (lv_sub hl [1, 2, 3, 4, 5, 0] rfl)
      refine lv_iload hx hb dX12_wayFrom_3 (lv_at hl 5 rfl) ?_
      refine lv_aload_n hx hb dX12_wayFrom_5 rfl (lv_at hl 0 rfl) ?_
      refine tk_getA hC hK hw hT hinX12 kM_at0 (by decide) rfl 26 (by decide) (List.mem_of_getElem? (i := 1) rfl) rfl rfl dX12_wayFrom_6 ?_
      refine lv_iconst (v := 1) hx hb dX12_wayFrom_9 (by decide) ?_
      refine tk_ialdR hC hK hw hT kM_at12 rfl (by decide) (by decide) dX12_wayFrom_10 (fun x27 c28 Ex27 => ?_)
      have bx27 : 0 ≤ x27.toInt ∧ x27.toInt ≤ 12 := (tk_rg1 rfl).mp Ex27
      have c28 : gi w1 12 1 = x27 := c28
      refine lv_icmp_ge (tgt := 111) hx hb dX12_wayFrom_11 (by decide) (fun c29 => ?_) (fun c29 => ?_)
      · have c29 : x27.toInt ≤ v3_5.toInt := wk_le.mp c29
        refine lv_iconst (v := (-1)) hx hb dX12_wayFrom_111 (by decide) ?_
        exact tk_iret hC hr hlocks hK ⟨hT, hF, (Or.inr (Or.inr rfl))⟩ hw dX12_wayFrom_112
      · have c29 : v3_5.toInt < x27.toInt := wk_leF c29
        refine lv_aload_n hx hb dX12_wayFrom_14 rfl (lv_at hl 0 rfl) ?_
        refine lv_iload hx hb dX12_wayFrom_15 (lv_at hl 5 rfl) ?_
        refine lv_iload_n hx hb dX12_wayFrom_17 rfl (lv_at hl 1 rfl) ?_
        refine tk_Vi hC hK hw hT hA hE hSR kM_at0 (by decide) rfl (k_X12_isAt_2 l adK adV dC dI cy ad B (by omega) (by omega) qr s1   v3_5 (show 0 ≤ v3_5.toInt by omega) (show v3_5.toInt ≤ 11 by omega) a1 (show 0 ≤ a1.toInt by omega) (show a1.toInt ≤ 12 by omega) w1 H.size hT ) (cwV 2 hC.2.2.2.2 gX12_wayFrom_X12_isAt rfl rfl rfl (by decide +kernel) ⟨Nat.le_of_ble_eq_true rfl, Nat.le_of_ble_eq_true rfl⟩) rfl hl.1 rfl (Nat.le_of_ble_eq_true rfl) dX12_wayFrom_18 (fun r30 w32 H locs hp31 hw => ?_)
        obtain ⟨hT, k33, hg35⟩ := hp31
        have hF := hF.tr k33 (by decide)
        have c36 := k33.gi kM_at12 (by decide) c28
        rcases hg35 with rfl | ⟨rfl, g34⟩
        · refine lv_if_ne (tgt := 27) hx hb dX12_wayFrom_21 (by decide) (fun c => absurd (by decide) c) (fun _ => ?_)
          refine lv_goto (tgt := 105) hx hb dX12_wayFrom_24 (by decide) ?_
          exact J105 x27 H locs ls w32 (show 0 ≤ a1.toInt by omega) (show a1.toInt ≤ 12 by omega) (show 0 ≤ a2.toInt by omega) (show a2.toInt ≤ 9 by omega) (show 0 ≤ a3.toInt by omega) (show a3.toInt ≤ 100000208 by omega) (show 0 ≤ a4.toInt by omega) (show a4.toInt ≤ 100000100 by omega) (show 0 ≤ v3_5.toInt by omega) (show v3_5.toInt ≤ 11 by omega) (show 1 ≤ x27.toInt by omega) (show x27.toInt ≤ 12 by omega)  hw hT hF c36 (lv_sub hl [0, 1, 2, 3, 4, 5] rfl)
        · refine lv_if_ne (tgt := 27) hx hb dX12_wayFrom_21 (by decide) (fun _ => ?_) (fun c => absurd c (by decide))
          refine lv_aload_n hx hb dX12_wayFrom_27 rfl (lv_at hl 0 rfl) ?_
          refine lv_aload_n hx hb dX12_wayFrom_28 rfl (lv_at hl 0 rfl) ?_
          refine lv_iload hx hb dX12_wayFrom_29 (lv_at hl 5 rfl) ?_
          refine lv_iload_n hx hb dX12_wayFrom_31 rfl (lv_at hl 1 rfl) ?_
          refine lv_iload_n hx hb dX12_wayFrom_32 rfl (lv_at hl 3 rfl) ?_
          refine lv_iload hx hb dX12_wayFrom_33 (lv_at hl 4 rfl) ?_
          refine tk_Vi hC hK hw hT hA hE hSR kM_at0 (by decide) rfl (k_X12_firstOpen_2 l adK adV dC dI cy ad B (by omega) (by omega) qr s1   v3_5 (show 0 ≤ v3_5.toInt by omega) (show v3_5.toInt ≤ 11 by omega) a1 (show 0 ≤ a1.toInt by omega) (show a1.toInt ≤ 9 by omega) a3 (show 0 ≤ a3.toInt by omega) (show a3.toInt ≤ 100000208 by omega) a4 (show 0 ≤ a4.toInt by omega) (show a4.toInt ≤ 100000100 by omega) w32 H.size hT ) (cwV 4 hC.2.2.2.2 gX12_wayFrom_X12_firstOpen rfl rfl rfl (by decide +kernel) ⟨Nat.le_of_ble_eq_true rfl, Nat.le_of_ble_eq_true rfl⟩) rfl hl.1 rfl (Nat.le_of_ble_eq_true rfl) dX12_wayFrom_35 (fun r37 w39 H locs hp38 hw => ?_)
          obtain ⟨hT, k40, hg46⟩ := hp38
          have hF := hF.tr k40 (by decide)
          have c47 := k40.gi kM_at12 (by decide) c36
          rcases hg46 with ⟨g41, g42⟩ | ⟨g43, g44, c45⟩
          · refine tk_puti hC hK hw hT hinX12 tyX12_ok nmX12 kM_at0 (by decide) rfl rfl 37 (by decide) (List.mem_of_getElem? (i := 2) rfl) rfl rfl rfl rfl (show 0 ≤ r37.toInt by omega) (show r37.toInt ≤ 100000200 by omega) dX12_wayFrom_38 (fun H locs w48 hw hT k50 c49 => ?_)
            have hF := hF.put kM_at0 (k := 37) (by decide) k50
            have c51 := k50.gi (Or.inr (by decide)) c47
            refine lv_aload_n hx hb dX12_wayFrom_41 rfl (lv_at hl 0 rfl) ?_
            refine tk_geti hC hK hw hT hinX12 kM_at0 (by decide) rfl 37 (by decide) (List.mem_of_getElem? (i := 2) rfl) rfl rfl dX12_wayFrom_42 (fun x52 c53 rx52 tx52 => ?_)
            refine wk_top r37 (c53.symm.trans c49) ?_
            refine lv_ldcw (v := 100000000) hx hb hC.2.2.2.1 (hC.2.2.2.2 _ (List.mem_of_getElem? (i := 3) rfl)) dX12_wayFrom_45 ?_
            refine lv_icmp_eq (tgt := 105) hx hb dX12_wayFrom_48 (by decide) (fun c54 => ?_) (fun c54 => ?_)
            · have c54 : r37.toInt = (100000000 : Int) := wk_eq.mp c54
              exact J105 x27 H locs ls w48 (show 0 ≤ a1.toInt by omega) (show a1.toInt ≤ 12 by omega) (show 0 ≤ a2.toInt by omega) (show a2.toInt ≤ 9 by omega) (show 0 ≤ a3.toInt by omega) (show a3.toInt ≤ 100000208 by omega) (show 0 ≤ a4.toInt by omega) (show a4.toInt ≤ 100000100 by omega) (show 0 ≤ v3_5.toInt by omega) (show v3_5.toInt ≤ 11 by omega) (show 1 ≤ x27.toInt by omega) (show x27.toInt ≤ 12 by omega)  hw hT hF c51 (lv_sub hl [0, 1, 2, 3, 4, 5] rfl)
            · have c54 : ¬ r37.toInt = (100000000 : Int) := wk_eqF c54
              refine lv_aload_n hx hb dX12_wayFrom_51 rfl (lv_at hl 0 rfl) ?_
              refine tk_geti hC hK hw hT hinX12 kM_at0 (by decide) rfl 37 (by decide) (List.mem_of_getElem? (i := 2) rfl) rfl rfl dX12_wayFrom_52 (fun x55 c56 rx55 tx55 => ?_)
              refine wk_top r37 (c56.symm.trans c49) ?_
              refine lv_aload_n hx hb dX12_wayFrom_55 rfl (lv_at hl 0 rfl) ?_
              refine lv_iload hx hb dX12_wayFrom_56 (lv_at hl 5 rfl) ?_
              refine lv_iconst (v := 2) hx hb dX12_wayFrom_58 (by decide) ?_
              refine tk_Vi hC hK hw hT hA hE hSR kM_at0 (by decide) rfl (k_X12_streetOf_6 l adK adV dC dI cy ad B (by omega) (by omega) qr s1   v3_5 (show 0 ≤ v3_5.toInt by omega) (show v3_5.toInt ≤ 11 by omega) w48 H.size hT ) (cwV 2 hC.2.2.2.2 gX12_wayFrom_X12_streetOf rfl rfl rfl (by decide +kernel) ⟨Nat.le_of_ble_eq_true rfl, Nat.le_of_ble_eq_true rfl⟩) rfl hl.1 rfl (Nat.le_of_ble_eq_true rfl) dX12_wayFrom_59 (fun r57 w59 H locs hp58 hw => ?_)
              obtain ⟨hT, k60, hg64⟩ := hp58
              have hF := hF.tr k60 (by decide)
              have c65 := k60.gi kM_at12 (by decide) c51
              have c66 := k60.gi kM_at0 (by decide) c49
              obtain ⟨g61, g62, c63⟩ := hg64
              refine lv_iadd hx hb dX12_wayFrom_62 ?_
              refine lv_topi (fun x67 ex67 => ?_)
              have ex67 : x67.toInt = r37.toInt + r57.toInt := by rw [ex67]; exact wk_add (show (-2147483648) ≤ r37.toInt + r57.toInt by omega) (show r37.toInt + r57.toInt ≤ 2147483647 by omega)
              refine lv_iload hx hb dX12_wayFrom_63 (lv_at hl 4 rfl) ?_
              refine lv_icmp_le (tgt := 71) hx hb dX12_wayFrom_65 (by decide) (fun c68 => ?_) (fun c68 => ?_)
              · have c68 : x67.toInt ≤ a4.toInt := wk_le.mp c68
                refine lv_aload_n hx hb dX12_wayFrom_71 rfl (lv_at hl 0 rfl) ?_
                refine lv_aload_n hx hb dX12_wayFrom_72 rfl (lv_at hl 0 rfl) ?_
                refine lv_iload hx hb dX12_wayFrom_73 (lv_at hl 5 rfl) ?_
                refine lv_iload_n hx hb dX12_wayFrom_75 rfl (lv_at hl 1 rfl) ?_
                refine tk_Vi hC hK hw hT hA hE hSR kM_at0 (by decide) rfl (k_X12_otherOf_1 l adK adV dC dI cy ad B (by omega) (by omega) qr s1   v3_5 (show 0 ≤ v3_5.toInt by omega) (show v3_5.toInt ≤ 11 by omega) a1 (show 0 ≤ a1.toInt by omega) (show a1.toInt ≤ 9 by omega) w59 H.size hT ) (cwV 2 hC.2.2.2.2 gX12_wayFrom_X12_otherOf rfl rfl rfl (by decide +kernel) ⟨Nat.le_of_ble_eq_true rfl, Nat.le_of_ble_eq_true rfl⟩) rfl hl.1 rfl (Nat.le_of_ble_eq_true rfl) dX12_wayFrom_76 (fun r69 w71 H locs hp70 hw => ?_)
                obtain ⟨hT, k72, hg78⟩ := hp70
                have hF := hF.tr k72 (by decide)
                have c79 := k72.gi kM_at12 (by decide) c65
                have c80 := k72.gi kM_at0 (by decide) c66
                have c81 := k72.gi kM_at12 rfl c63
                rcases hg78 with ⟨g73, g74⟩ | ⟨g75, g76, c77⟩
                · refine lv_iload_n hx hb dX12_wayFrom_79 rfl (lv_at hl 2 rfl) ?_
                  refine lv_aload_n hx hb dX12_wayFrom_80 rfl (lv_at hl 0 rfl) ?_
                  refine tk_geti hC hK hw hT hinX12 kM_at0 (by decide) rfl 37 (by decide) (List.mem_of_getElem? (i := 2) rfl) rfl rfl dX12_wayFrom_81 (fun x82 c83 rx82 tx82 => ?_)
                  refine wk_top r37 (c83.symm.trans c80) ?_
                  refine lv_aload_n hx hb dX12_wayFrom_84 rfl (lv_at hl 0 rfl) ?_
                  refine lv_iload hx hb dX12_wayFrom_85 (lv_at hl 5 rfl) ?_
                  refine lv_iconst (v := 2) hx hb dX12_wayFrom_87 (by decide) ?_
                  refine tk_Vi hC hK hw hT hA hE hSR kM_at0 (by decide) rfl (k_X12_streetOf_6 l adK adV dC dI cy ad B (by omega) (by omega) qr s1   v3_5 (show 0 ≤ v3_5.toInt by omega) (show v3_5.toInt ≤ 11 by omega) w71 H.size hT ) (cwV 2 hC.2.2.2.2 gX12_wayFrom_X12_streetOf rfl rfl rfl (by decide +kernel) ⟨Nat.le_of_ble_eq_true rfl, Nat.le_of_ble_eq_true rfl⟩) rfl hl.1 rfl (Nat.le_of_ble_eq_true rfl) dX12_wayFrom_88 (fun r84 w86 H locs hp85 hw => ?_)
                  obtain ⟨hT, k87, hg91⟩ := hp85
                  have hF := hF.tr k87 (by decide)
                  have c92 := k87.gi kM_at12 (by decide) c79
                  have c93 := k87.gi kM_at0 (by decide) c80
                  have c94 := k87.gi kM_at12 rfl c81
                  obtain ⟨g88, g89, c90⟩ := hg91
                  obtain rfl : r84 = r57 := c90.symm.trans c94
                  refine lv_iadd hx hb dX12_wayFrom_91 ?_
                  refine lv_topi (fun x95 ex95 => ?_)
                  have ex95 : x95.toInt = r37.toInt + r57.toInt := by rw [ex95]; exact wk_add (show (-2147483648) ≤ r37.toInt + r57.toInt by omega) (show r37.toInt + r57.toInt ≤ 2147483647 by omega)
                  refine lv_iload hx hb dX12_wayFrom_92 (lv_at hl 4 rfl) ?_
                  refine tk_Vi hC hK hw hT hA hE hSR kM_at0 (by decide) rfl (k_X12_reaches_2 l adK adV dC dI cy ad B (by omega) (by omega) qr s1   r69 (show 0 ≤ r69.toInt by omega) (show r69.toInt ≤ 9 by omega) a2 (show 0 ≤ a2.toInt by omega) (show a2.toInt ≤ 9 by omega) x95 (show 0 ≤ x95.toInt by omega) (show x95.toInt ≤ 100000100 by omega) a4 (show 0 ≤ a4.toInt by omega) (show a4.toInt ≤ 100000100 by omega) w86 H.size hT ) (cwV 4 hC.2.2.2.2 gX12_wayFrom_X12_reaches rfl rfl rfl (by decide +kernel) ⟨Nat.le_of_ble_eq_true rfl, Nat.le_of_ble_eq_true rfl⟩) rfl hl.1 rfl (Nat.le_of_ble_eq_true rfl) dX12_wayFrom_94 (fun r96 w98 H locs hp97 hw => ?_)
                  obtain ⟨hT, k99, hg102⟩ := hp97
                  have hF := hF.tr k99 (by decide)
                  have c103 := k99.gi kM_at12 (by decide) c92
                  have c104 := k99.gi kM_at0 (by decide) c93
                  have c105 := k99.gi kM_at12 rfl c94
                  obtain ⟨g100, g101⟩ := hg102
                  refine lv_iload hx hb dX12_wayFrom_97 (lv_at hl 4 rfl) ?_
                  refine lv_icmp_ne (tgt := 105) hx hb dX12_wayFrom_99 (by decide) (fun c106 => ?_) (fun c106 => ?_)
                  · have c106 : ¬ r96.toInt = a4.toInt := wk_eqF c106
                    exact J105 x27 H locs ls w98 (show 0 ≤ a1.toInt by omega) (show a1.toInt ≤ 12 by omega) (show 0 ≤ a2.toInt by omega) (show a2.toInt ≤ 9 by omega) (show 0 ≤ a3.toInt by omega) (show a3.toInt ≤ 100000208 by omega) (show 0 ≤ a4.toInt by omega) (show a4.toInt ≤ 100000100 by omega) (show 0 ≤ v3_5.toInt by omega) (show v3_5.toInt ≤ 11 by omega) (show 1 ≤ x27.toInt by omega) (show x27.toInt ≤ 12 by omega)  hw hT hF c103 (lv_sub hl [0, 1, 2, 3, 4, 5] rfl)
                  · have c106 : r96.toInt = a4.toInt := wk_eq.mp c106
                    refine lv_iload hx hb dX12_wayFrom_102 (lv_at hl 5 rfl) ?_
                    exact tk_iret hC hr hlocks hK ⟨hT, hF, (Or.inl ⟨(show 0 ≤ v3_5.toInt by omega), (show v3_5.toInt ≤ 11 by omega), (show a1.toInt ≤ 9 by omega), ⟨r37, c104, (show 0 ≤ r37.toInt by omega), (show r37.toInt ≤ 100000100 by omega)⟩, ⟨x27, c103, (show 1 ≤ x27.toInt by omega), (show x27.toInt ≤ 12 by omega)⟩⟩)⟩ hw dX12_wayFrom_104
                · refine lv_iload_n hx hb dX12_wayFrom_79 rfl (lv_at hl 2 rfl) ?_
                  refine lv_aload_n hx hb dX12_wayFrom_80 rfl (lv_at hl 0 rfl) ?_
                  refine tk_geti hC hK hw hT hinX12 kM_at0 (by decide) rfl 37 (by decide) (List.mem_of_getElem? (i := 2) rfl) rfl rfl dX12_wayFrom_81 (fun x107 c108 rx107 tx107 => ?_)
                  refine wk_top r37 (c108.symm.trans c80) ?_
                  refine lv_aload_n hx hb dX12_wayFrom_84 rfl (lv_at hl 0 rfl) ?_
                  refine lv_iload hx hb dX12_wayFrom_85 (lv_at hl 5 rfl) ?_
                  refine lv_iconst (v := 2) hx hb dX12_wayFrom_87 (by decide) ?_
                  refine tk_Vi hC hK hw hT hA hE hSR kM_at0 (by decide) rfl (k_X12_streetOf_6 l adK adV dC dI cy ad B (by omega) (by omega) qr s1   v3_5 (show 0 ≤ v3_5.toInt by omega) (show v3_5.toInt ≤ 11 by omega) w71 H.size hT ) (cwV 2 hC.2.2.2.2 gX12_wayFrom_X12_streetOf rfl rfl rfl (by decide +kernel) ⟨Nat.le_of_ble_eq_true rfl, Nat.le_of_ble_eq_true rfl⟩) rfl hl.1 rfl (Nat.le_of_ble_eq_true rfl) dX12_wayFrom_88 (fun r109 w111 H locs hp110 hw => ?_)
                  obtain ⟨hT, k112, hg116⟩ := hp110
                  have hF := hF.tr k112 (by decide)
                  have c117 := k112.gi kM_at12 (by decide) c79
                  have c118 := k112.gi kM_at0 (by decide) c80
                  have c119 := k112.gi kM_at12 rfl c81
                  have c120 := k112.gi kM_at12 rfl c77
                  obtain ⟨g113, g114, c115⟩ := hg116
                  obtain rfl : r109 = r57 := c115.symm.trans c119
                  refine lv_iadd hx hb dX12_wayFrom_91 ?_
                  refine lv_topi (fun x121 ex121 => ?_)
                  have ex121 : x121.toInt = r37.toInt + r57.toInt := by rw [ex121]; exact wk_add (show (-2147483648) ≤ r37.toInt + r57.toInt by omega) (show r37.toInt + r57.toInt ≤ 2147483647 by omega)
                  refine lv_iload hx hb dX12_wayFrom_92 (lv_at hl 4 rfl) ?_
                  refine tk_Vi hC hK hw hT hA hE hSR kM_at0 (by decide) rfl (k_X12_reaches_2 l adK adV dC dI cy ad B (by omega) (by omega) qr s1   r69 (show 0 ≤ r69.toInt by omega) (show r69.toInt ≤ 9 by omega) a2 (show 0 ≤ a2.toInt by omega) (show a2.toInt ≤ 9 by omega) x121 (show 0 ≤ x121.toInt by omega) (show x121.toInt ≤ 100000100 by omega) a4 (show 0 ≤ a4.toInt by omega) (show a4.toInt ≤ 100000100 by omega) w111 H.size hT ) (cwV 4 hC.2.2.2.2 gX12_wayFrom_X12_reaches rfl rfl rfl (by decide +kernel) ⟨Nat.le_of_ble_eq_true rfl, Nat.le_of_ble_eq_true rfl⟩) rfl hl.1 rfl (Nat.le_of_ble_eq_true rfl) dX12_wayFrom_94 (fun r122 w124 H locs hp123 hw => ?_)
                  obtain ⟨hT, k125, hg128⟩ := hp123
                  have hF := hF.tr k125 (by decide)
                  have c129 := k125.gi kM_at12 (by decide) c117
                  have c130 := k125.gi kM_at0 (by decide) c118
                  have c131 := k125.gi kM_at12 rfl c119
                  have c132 := k125.gi kM_at12 rfl c120
                  obtain ⟨g126, g127⟩ := hg128
                  refine lv_iload hx hb dX12_wayFrom_97 (lv_at hl 4 rfl) ?_
                  refine lv_icmp_ne (tgt := 105) hx hb dX12_wayFrom_99 (by decide) (fun c133 => ?_) (fun c133 => ?_)
                  · have c133 : ¬ r122.toInt = a4.toInt := wk_eqF c133
                    exact J105 x27 H locs ls w124 (show 0 ≤ a1.toInt by omega) (show a1.toInt ≤ 12 by omega) (show 0 ≤ a2.toInt by omega) (show a2.toInt ≤ 9 by omega) (show 0 ≤ a3.toInt by omega) (show a3.toInt ≤ 100000208 by omega) (show 0 ≤ a4.toInt by omega) (show a4.toInt ≤ 100000100 by omega) (show 0 ≤ v3_5.toInt by omega) (show v3_5.toInt ≤ 11 by omega) (show 1 ≤ x27.toInt by omega) (show x27.toInt ≤ 12 by omega)  hw hT hF c129 (lv_sub hl [0, 1, 2, 3, 4, 5] rfl)
                  · have c133 : r122.toInt = a4.toInt := wk_eq.mp c133
                    refine lv_iload hx hb dX12_wayFrom_102 (lv_at hl 5 rfl) ?_
                    exact tk_iret hC hr hlocks hK ⟨hT, hF, (Or.inr (Or.inl ⟨(show 0 ≤ v3_5.toInt by omega), (show v3_5.toInt ≤ 11 by omega), (show a1.toInt ≤ 9 by omega), ⟨r37, c130, (show 0 ≤ r37.toInt by omega), (show r37.toInt ≤ 100000100 by omega)⟩, ⟨x27, c129, (show 1 ≤ x27.toInt by omega), (show x27.toInt ≤ 12 by omega)⟩, c132⟩))⟩ hw dX12_wayFrom_104
              · have c68 : a4.toInt < x67.toInt := wk_leF c68
                refine lv_goto (tgt := 105) hx hb dX12_wayFrom_68 (by decide) ?_
                exact J105 x27 H locs ls w59 (show 0 ≤ a1.toInt by omega) (show a1.toInt ≤ 12 by omega) (show 0 ≤ a2.toInt by omega) (show a2.toInt ≤ 9 by omega) (show 0 ≤ a3.toInt by omega) (show a3.toInt ≤ 100000208 by omega) (show 0 ≤ a4.toInt by omega) (show a4.toInt ≤ 100000100 by omega) (show 0 ≤ v3_5.toInt by omega) (show v3_5.toInt ≤ 11 by omega) (show 1 ≤ x27.toInt by omega) (show x27.toInt ≤ 12 by omega)  hw hT hF c65 (lv_sub hl [0, 1, 2, 3, 4, 5] rfl)
          · refine tk_puti hC hK hw hT hinX12 tyX12_ok nmX12 kM_at0 (by decide) rfl rfl 37 (by decide) (List.mem_of_getElem? (i := 2) rfl) rfl rfl rfl rfl (show 0 ≤ r37.toInt by omega) (show r37.toInt ≤ 100000200 by omega) dX12_wayFrom_38 (fun H locs w134 hw hT k136 c135 => ?_)
            have hF := hF.put kM_at0 (k := 37) (by decide) k136
            have c137 := k136.gi (Or.inr (by decide)) c47
            have c138 := k136.gi (Or.inl (tk_ne kM_at12 kM_at0 (by decide))) c45
            refine lv_aload_n hx hb dX12_wayFrom_41 rfl (lv_at hl 0 rfl) ?_
            refine tk_geti hC hK hw hT hinX12 kM_at0 (by decide) rfl 37 (by decide) (List.mem_of_getElem? (i := 2) rfl) rfl rfl dX12_wayFrom_42 (fun x139 c140 rx139 tx139 => ?_)
            refine wk_top r37 (c140.symm.trans c135) ?_
            refine lv_ldcw (v := 100000000) hx hb hC.2.2.2.1 (hC.2.2.2.2 _ (List.mem_of_getElem? (i := 3) rfl)) dX12_wayFrom_45 ?_
            refine lv_icmp_eq (tgt := 105) hx hb dX12_wayFrom_48 (by decide) (fun c141 => ?_) (fun c141 => ?_)
            · have c141 : r37.toInt = (100000000 : Int) := wk_eq.mp c141
              exact J105 x27 H locs ls w134 (show 0 ≤ a1.toInt by omega) (show a1.toInt ≤ 12 by omega) (show 0 ≤ a2.toInt by omega) (show a2.toInt ≤ 9 by omega) (show 0 ≤ a3.toInt by omega) (show a3.toInt ≤ 100000208 by omega) (show 0 ≤ a4.toInt by omega) (show a4.toInt ≤ 100000100 by omega) (show 0 ≤ v3_5.toInt by omega) (show v3_5.toInt ≤ 11 by omega) (show 1 ≤ x27.toInt by omega) (show x27.toInt ≤ 12 by omega)  hw hT hF c137 (lv_sub hl [0, 1, 2, 3, 4, 5] rfl)
            · have c141 : ¬ r37.toInt = (100000000 : Int) := wk_eqF c141
              refine lv_aload_n hx hb dX12_wayFrom_51 rfl (lv_at hl 0 rfl) ?_
              refine tk_geti hC hK hw hT hinX12 kM_at0 (by decide) rfl 37 (by decide) (List.mem_of_getElem? (i := 2) rfl) rfl rfl dX12_wayFrom_52 (fun x142 c143 rx142 tx142 => ?_)
              refine wk_top r37 (c143.symm.trans c135) ?_
              refine lv_aload_n hx hb dX12_wayFrom_55 rfl (lv_at hl 0 rfl) ?_
              refine lv_iload hx hb dX12_wayFrom_56 (lv_at hl 5 rfl) ?_
              refine lv_iconst (v := 2) hx hb dX12_wayFrom_58 (by decide) ?_
              refine tk_Vi hC hK hw hT hA hE hSR kM_at0 (by decide) rfl (k_X12_streetOf_6 l adK adV dC dI cy ad B (by omega) (by omega) qr s1   v3_5 (show 0 ≤ v3_5.toInt by omega) (show v3_5.toInt ≤ 11 by omega) w134 H.size hT ) (cwV 2 hC.2.2.2.2 gX12_wayFrom_X12_streetOf rfl rfl rfl (by decide +kernel) ⟨Nat.le_of_ble_eq_true rfl, Nat.le_of_ble_eq_true rfl⟩) rfl hl.1 rfl (Nat.le_of_ble_eq_true rfl) dX12_wayFrom_59 (fun r144 w146 H locs hp145 hw => ?_)
              obtain ⟨hT, k147, hg151⟩ := hp145
              have hF := hF.tr k147 (by decide)
              have c152 := k147.gi kM_at12 (by decide) c137
              have c153 := k147.gi kM_at12 rfl c138
              have c154 := k147.gi kM_at0 (by decide) c135
              obtain ⟨g148, g149, c150⟩ := hg151
              refine lv_iadd hx hb dX12_wayFrom_62 ?_
              refine lv_topi (fun x155 ex155 => ?_)
              have ex155 : x155.toInt = r37.toInt + r144.toInt := by rw [ex155]; exact wk_add (show (-2147483648) ≤ r37.toInt + r144.toInt by omega) (show r37.toInt + r144.toInt ≤ 2147483647 by omega)
              refine lv_iload hx hb dX12_wayFrom_63 (lv_at hl 4 rfl) ?_
              refine lv_icmp_le (tgt := 71) hx hb dX12_wayFrom_65 (by decide) (fun c156 => ?_) (fun c156 => ?_)
              · have c156 : x155.toInt ≤ a4.toInt := wk_le.mp c156
                refine lv_aload_n hx hb dX12_wayFrom_71 rfl (lv_at hl 0 rfl) ?_
                refine lv_aload_n hx hb dX12_wayFrom_72 rfl (lv_at hl 0 rfl) ?_
                refine lv_iload hx hb dX12_wayFrom_73 (lv_at hl 5 rfl) ?_
                refine lv_iload_n hx hb dX12_wayFrom_75 rfl (lv_at hl 1 rfl) ?_
                refine tk_Vi hC hK hw hT hA hE hSR kM_at0 (by decide) rfl (k_X12_otherOf_1 l adK adV dC dI cy ad B (by omega) (by omega) qr s1   v3_5 (show 0 ≤ v3_5.toInt by omega) (show v3_5.toInt ≤ 11 by omega) a1 (show 0 ≤ a1.toInt by omega) (show a1.toInt ≤ 9 by omega) w146 H.size hT ) (cwV 2 hC.2.2.2.2 gX12_wayFrom_X12_otherOf rfl rfl rfl (by decide +kernel) ⟨Nat.le_of_ble_eq_true rfl, Nat.le_of_ble_eq_true rfl⟩) rfl hl.1 rfl (Nat.le_of_ble_eq_true rfl) dX12_wayFrom_76 (fun r157 w159 H locs hp158 hw => ?_)
                obtain ⟨hT, k160, hg166⟩ := hp158
                have hF := hF.tr k160 (by decide)
                have c167 := k160.gi kM_at12 (by decide) c152
                have c168 := k160.gi kM_at12 rfl c153
                have c169 := k160.gi kM_at0 (by decide) c154
                have c170 := k160.gi kM_at12 rfl c150
                rcases hg166 with ⟨g161, g162⟩ | ⟨g163, g164, c165⟩
                · refine lv_iload_n hx hb dX12_wayFrom_79 rfl (lv_at hl 2 rfl) ?_
                  refine lv_aload_n hx hb dX12_wayFrom_80 rfl (lv_at hl 0 rfl) ?_
                  refine tk_geti hC hK hw hT hinX12 kM_at0 (by decide) rfl 37 (by decide) (List.mem_of_getElem? (i := 2) rfl) rfl rfl dX12_wayFrom_81 (fun x171 c172 rx171 tx171 => ?_)
                  refine wk_top r37 (c172.symm.trans c169) ?_
                  refine lv_aload_n hx hb dX12_wayFrom_84 rfl (lv_at hl 0 rfl) ?_
                  refine lv_iload hx hb dX12_wayFrom_85 (lv_at hl 5 rfl) ?_
                  refine lv_iconst (v := 2) hx hb dX12_wayFrom_87 (by decide) ?_
                  refine tk_Vi hC hK hw hT hA hE hSR kM_at0 (by decide) rfl (k_X12_streetOf_6 l adK adV dC dI cy ad B (by omega) (by omega) qr s1   v3_5 (show 0 ≤ v3_5.toInt by omega) (show v3_5.toInt ≤ 11 by omega) w159 H.size hT ) (cwV 2 hC.2.2.2.2 gX12_wayFrom_X12_streetOf rfl rfl rfl (by decide +kernel) ⟨Nat.le_of_ble_eq_true rfl, Nat.le_of_ble_eq_true rfl⟩) rfl hl.1 rfl (Nat.le_of_ble_eq_true rfl) dX12_wayFrom_88 (fun r173 w175 H locs hp174 hw => ?_)
                  obtain ⟨hT, k176, hg180⟩ := hp174
                  have hF := hF.tr k176 (by decide)
                  have c181 := k176.gi kM_at12 (by decide) c167
                  have c182 := k176.gi kM_at12 rfl c168
                  have c183 := k176.gi kM_at0 (by decide) c169
                  have c184 := k176.gi kM_at12 rfl c170
                  obtain ⟨g177, g178, c179⟩ := hg180
                  obtain rfl : r173 = r144 := c179.symm.trans c184
                  refine lv_iadd hx hb dX12_wayFrom_91 ?_
                  refine lv_topi (fun x185 ex185 => ?_)
                  have ex185 : x185.toInt = r37.toInt + r144.toInt := by rw [ex185]; exact wk_add (show (-2147483648) ≤ r37.toInt + r144.toInt by omega) (show r37.toInt + r144.toInt ≤ 2147483647 by omega)
                  refine lv_iload hx hb dX12_wayFrom_92 (lv_at hl 4 rfl) ?_
                  refine tk_Vi hC hK hw hT hA hE hSR kM_at0 (by decide) rfl (k_X12_reaches_2 l adK adV dC dI cy ad B (by omega) (by omega) qr s1   r157 (show 0 ≤ r157.toInt by omega) (show r157.toInt ≤ 9 by omega) a2 (show 0 ≤ a2.toInt by omega) (show a2.toInt ≤ 9 by omega) x185 (show 0 ≤ x185.toInt by omega) (show x185.toInt ≤ 100000100 by omega) a4 (show 0 ≤ a4.toInt by omega) (show a4.toInt ≤ 100000100 by omega) w175 H.size hT ) (cwV 4 hC.2.2.2.2 gX12_wayFrom_X12_reaches rfl rfl rfl (by decide +kernel) ⟨Nat.le_of_ble_eq_true rfl, Nat.le_of_ble_eq_true rfl⟩) rfl hl.1 rfl (Nat.le_of_ble_eq_true rfl) dX12_wayFrom_94 (fun r186 w188 H locs hp187 hw => ?_)
                  obtain ⟨hT, k189, hg192⟩ := hp187
                  have hF := hF.tr k189 (by decide)
                  have c193 := k189.gi kM_at12 (by decide) c181
                  have c194 := k189.gi kM_at12 rfl c182
                  have c195 := k189.gi kM_at0 (by decide) c183
                  have c196 := k189.gi kM_at12 rfl c184
                  obtain ⟨g190, g191⟩ := hg192
                  refine lv_iload hx hb dX12_wayFrom_97 (lv_at hl 4 rfl) ?_
                  refine lv_icmp_ne (tgt := 105) hx hb dX12_wayFrom_99 (by decide) (fun c197 => ?_) (fun c197 => ?_)
                  · have c197 : ¬ r186.toInt = a4.toInt := wk_eqF c197
                    exact J105 x27 H locs ls w188 (show 0 ≤ a1.toInt by omega) (show a1.toInt ≤ 12 by omega) (show 0 ≤ a2.toInt by omega) (show a2.toInt ≤ 9 by omega) (show 0 ≤ a3.toInt by omega) (show a3.toInt ≤ 100000208 by omega) (show 0 ≤ a4.toInt by omega) (show a4.toInt ≤ 100000100 by omega) (show 0 ≤ v3_5.toInt by omega) (show v3_5.toInt ≤ 11 by omega) (show 1 ≤ x27.toInt by omega) (show x27.toInt ≤ 12 by omega)  hw hT hF c193 (lv_sub hl [0, 1, 2, 3, 4, 5] rfl)
                  · have c197 : r186.toInt = a4.toInt := wk_eq.mp c197
                    refine lv_iload hx hb dX12_wayFrom_102 (lv_at hl 5 rfl) ?_
                    exact tk_iret hC hr hlocks hK ⟨hT, hF, (Or.inr (Or.inl ⟨(show 0 ≤ v3_5.toInt by omega), (show v3_5.toInt ≤ 11 by omega), (show a1.toInt ≤ 9 by omega), ⟨r37, c195, (show 0 ≤ r37.toInt by omega), (show r37.toInt ≤ 100000100 by omega)⟩, ⟨x27, c193, (show 1 ≤ x27.toInt by omega), (show x27.toInt ≤ 12 by omega)⟩, c194⟩))⟩ hw dX12_wayFrom_104
                · refine lv_iload_n hx hb dX12_wayFrom_79 rfl (lv_at hl 2 rfl) ?_
                  refine lv_aload_n hx hb dX12_wayFrom_80 rfl (lv_at hl 0 rfl) ?_
                  refine tk_geti hC hK hw hT hinX12 kM_at0 (by decide) rfl 37 (by decide) (List.mem_of_getElem? (i := 2) rfl) rfl rfl dX12_wayFrom_81 (fun x198 c199 rx198 tx198 => ?_)
                  refine wk_top r37 (c199.symm.trans c169) ?_
                  refine lv_aload_n hx hb dX12_wayFrom_84 rfl (lv_at hl 0 rfl) ?_
                  refine lv_iload hx hb dX12_wayFrom_85 (lv_at hl 5 rfl) ?_
                  refine lv_iconst (v := 2) hx hb dX12_wayFrom_87 (by decide) ?_
                  refine tk_Vi hC hK hw hT hA hE hSR kM_at0 (by decide) rfl (k_X12_streetOf_6 l adK adV dC dI cy ad B (by omega) (by omega) qr s1   v3_5 (show 0 ≤ v3_5.toInt by omega) (show v3_5.toInt ≤ 11 by omega) w159 H.size hT ) (cwV 2 hC.2.2.2.2 gX12_wayFrom_X12_streetOf rfl rfl rfl (by decide +kernel) ⟨Nat.le_of_ble_eq_true rfl, Nat.le_of_ble_eq_true rfl⟩) rfl hl.1 rfl (Nat.le_of_ble_eq_true rfl) dX12_wayFrom_88 (fun r200 w202 H locs hp201 hw => ?_)
                  obtain ⟨hT, k203, hg207⟩ := hp201
                  have hF := hF.tr k203 (by decide)
                  have c208 := k203.gi kM_at12 (by decide) c167
                  have c209 := k203.gi kM_at12 rfl c168
                  have c210 := k203.gi kM_at0 (by decide) c169
                  have c211 := k203.gi kM_at12 rfl c170
                  obtain ⟨g204, g205, c206⟩ := hg207
                  obtain rfl : r200 = r144 := c206.symm.trans c211
                  refine lv_iadd hx hb dX12_wayFrom_91 ?_
                  refine lv_topi (fun x212 ex212 => ?_)
                  have ex212 : x212.toInt = r37.toInt + r144.toInt := by rw [ex212]; exact wk_add (show (-2147483648) ≤ r37.toInt + r144.toInt by omega) (show r37.toInt + r144.toInt ≤ 2147483647 by omega)
                  refine lv_iload hx hb dX12_wayFrom_92 (lv_at hl 4 rfl) ?_
                  refine tk_Vi hC hK hw hT hA hE hSR kM_at0 (by decide) rfl (k_X12_reaches_2 l adK adV dC dI cy ad B (by omega) (by omega) qr s1   r157 (show 0 ≤ r157.toInt by omega) (show r157.toInt ≤ 9 by omega) a2 (show 0 ≤ a2.toInt by omega) (show a2.toInt ≤ 9 by omega) x212 (show 0 ≤ x212.toInt by omega) (show x212.toInt ≤ 100000100 by omega) a4 (show 0 ≤ a4.toInt by omega) (show a4.toInt ≤ 100000100 by omega) w202 H.size hT ) (cwV 4 hC.2.2.2.2 gX12_wayFrom_X12_reaches rfl rfl rfl (by decide +kernel) ⟨Nat.le_of_ble_eq_true rfl, Nat.le_of_ble_eq_true rfl⟩) rfl hl.1 rfl (Nat.le_of_ble_eq_true rfl) dX12_wayFrom_94 (fun r213 w215 H locs hp214 hw => ?_)
                  obtain ⟨hT, k216, hg219⟩ := hp214
                  have hF := hF.tr k216 (by decide)
                  have c220 := k216.gi kM_at12 (by decide) c208
                  have c221 := k216.gi kM_at12 rfl c209
                  have c222 := k216.gi kM_at0 (by decide) c210
                  have c223 := k216.gi kM_at12 rfl c211
                  obtain ⟨g217, g218⟩ := hg219
                  refine lv_iload hx hb dX12_wayFrom_97 (lv_at hl 4 rfl) ?_
                  refine lv_icmp_ne (tgt := 105) hx hb dX12_wayFrom_99 (by decide) (fun c224 => ?_) (fun c224 => ?_)
                  · have c224 : ¬ r213.toInt = a4.toInt := wk_eqF c224
                    exact J105 x27 H locs ls w215 (show 0 ≤ a1.toInt by omega) (show a1.toInt ≤ 12 by omega) (show 0 ≤ a2.toInt by omega) (show a2.toInt ≤ 9 by omega) (show 0 ≤ a3.toInt by omega) (show a3.toInt ≤ 100000208 by omega) (show 0 ≤ a4.toInt by omega) (show a4.toInt ≤ 100000100 by omega) (show 0 ≤ v3_5.toInt by omega) (show v3_5.toInt ≤ 11 by omega) (show 1 ≤ x27.toInt by omega) (show x27.toInt ≤ 12 by omega)  hw hT hF c220 (lv_sub hl [0, 1, 2, 3, 4, 5] rfl)
                  · have c224 : r213.toInt = a4.toInt := wk_eq.mp c224
                    refine lv_iload hx hb dX12_wayFrom_102 (lv_at hl 5 rfl) ?_
                    exact tk_iret hC hr hlocks hK ⟨hT, hF, (Or.inr (Or.inl ⟨(show 0 ≤ v3_5.toInt by omega), (show v3_5.toInt ≤ 11 by omega), (show a1.toInt ≤ 9 by omega), ⟨r37, c222, (show 0 ≤ r37.toInt by omega), (show r37.toInt ≤ 100000100 by omega)⟩, ⟨x27, c220, (show 1 ≤ x27.toInt by omega), (show x27.toInt ≤ 12 by omega)⟩, c221⟩))⟩ hw dX12_wayFrom_104
              · have c156 : a4.toInt < x155.toInt := wk_leF c156
                refine lv_goto (tgt := 105) hx hb dX12_wayFrom_68 (by decide) ?_
                exact J105 x27 H locs ls w146 (show 0 ≤ a1.toInt by omega) (show a1.toInt ≤ 12 by omega) (show 0 ≤ a2.toInt by omega) (show a2.toInt ≤ 9 by omega) (show 0 ≤ a3.toInt by omega) (show a3.toInt ≤ 100000208 by omega) (show 0 ≤ a4.toInt by omega) (show a4.toInt ≤ 100000100 by omega) (show 0 ≤ v3_5.toInt by omega) (show v3_5.toInt ≤ 11 by omega) (show 1 ≤ x27.toInt by omega) (show x27.toInt ≤ 12 by omega)  hw hT hF c152 (lv_sub hl [0, 1, 2, 3, 4, 5] rfl)
  refine lv_iconst (v := 0) hx hb dX12_wayFrom_0 (by decide) ?_
  refine lv_istore (lv' := [(5, .int 0), (0, .ref (ad 0)), (1, .int a1), (2, .int a2), (3, .int a3), (4, .int a4)]) hx hb dX12_wayFrom_1 hl (by decide) rfl (fun ls hl => ?_)
  exact L3 ((12 - (0 : Int)).toNat + 1) 0 s.heap locs ls w0 (show 0 ≤ a1.toInt by omega) (show a1.toInt ≤ 12 by omega) (show 0 ≤ a2.toInt by omega) (show a2.toInt ≤ 9 by omega) (show 0 ≤ a3.toInt by omega) (show a3.toInt ≤ 100000208 by omega) (show 0 ≤ a4.toInt by omega) (show a4.toInt ≤ 100000100 by omega) (by decide) (by decide) (Nat.lt_succ_self _) hw hT hF  (lv_sub hl [1, 2, 3, 4, 5, 0] rfl)
abbrev P_X12_streetOf_7 (ad : Nat → Nat) (cy : Nat → ClassId) (B : Int) (qr : Nat) (s1 : Int)  (w0 : va_W) : Int32 → va_W → Prop := fun r u => TW ksM ad cy B qr 12 u ∧ FE ksM ([] : List (Nat × Nat × Nat)) w0 u ∧ ((0 ≤ r.toInt ∧ r.toInt ≤ 8 ∧ gi u 12 2 = r))
set_option maxHeartbeats 4000000 in
set_option maxRecDepth 100000 in
theorem k_X12_streetOf_7 (l : Launch) (adK adV : Nat → Nat) (dC : Nat → ClassId) (dI : Nat → Nat → Nat) (cy : Nat → ClassId) (ad : Nat → Nat) (B : Int) (hB0 : 100000 ≤ B) (hB1 : B ≤ 1073741824) (qr : Nat) (s1 : Int)   (w0 : va_W) (sz : Nat) (hT : TW ksM ad cy B qr 12 w0)  : Met l yX12_streetOf wsX12_streetOf ({ frames := 1, cells := 0, slots := 0, locals := 12 }) (va_Pc [.ref (ad 0), .int (-1), .int 2] (wpreS adK adV dC dI cy sz w0)) (va_Qi (P_X12_streetOf_7 ad cy B qr s1  w0) (fun u : va_W => wpost dC dI cy (va_A w0 sz) u) (va_A w0 sz)) 0 0 (va_A w0 sz) := by
  refine Met.ofW (cc := cX12_streetOf) (maxL := 3) (ret := (some .int)) (by decide) rfl ?_
  intro p e s m args below meth c s₁ Bk hml hv
  obtain ⟨rfl, ⟨hsz, hP, hK, hD0⟩, hE, hSR⟩ := hv
  have hx := Bk.exec
  have hb := Bk.bytes
  have hr := Bk.returns
  have hlocks := Bk.notSynchronized
  have hC : CallFix p m c cX12_streetOf 3 s _ wsX12_streetOf RX12 := ⟨hx, hb, hml, findClass_of_methodNamed Bk.named, atoms_spec (ws := wsX12_streetOf) Bk.pre⟩
  subst hsz
  have hD := hD0.self (sz := s.heap.size)
  generalize hAe : va_A w0 s.heap.size = A at hD hE ⊢
  have hA : ∀ q : Nat, s.heap.size ≤ q → A q := fun q h => by rw [← hAe]; exact Or.inr h
  have hw : Wd dC dI A s.heap s.heap [] w0 := ⟨hP, hD, va_S.rf⟩
  have hF : FE ksM ([] : List (Nat × Nat × Nat)) w0 w0 := FE.rf
  have hl := lv_entry ([.ref (ad 0), .int (-1), .int 2]) (n := 3) (Nat.le_of_ble_eq_true rfl)
  rw [lg_entry_eq]
  generalize (lg_sl ([.ref (ad 0), .int (-1), .int 2]) ++ List.replicate (3 - (lg_sl ([.ref (ad 0), .int (-1), .int 2])).length) Slot.unset).toArray = ls at hl ⊢
  have hl : lv_has ls 3 [(0, .ref (ad 0)), (1, .int (-1)), (2, .int 2)] := hl
  generalize hloc : ([] : List Loc) = locs at hw ⊢
  have hinX12 : ∀ w ∈ u_ws RX12 TX12 42, w ∈ wsX12_streetOf := fun _ h => List.mem_cons_of_mem _ (List.mem_append_right _ (h))
  refine lv_aload_n hx hb dX12_streetOf_0 rfl (lv_at hl 0 rfl) ?_
  refine tk_getA hC hK hw hT hinX12 kM_at0 (by decide) rfl 26 (by decide) (List.mem_of_getElem? (i := 1) rfl) rfl rfl dX12_streetOf_1 ?_
  refine lv_bipush (v := 10) hx hb dX12_streetOf_4 (by decide) ?_
  refine lv_bipush (v := 10) hx hb dX12_streetOf_6 (by decide) ?_
  refine lv_iload_n hx hb dX12_streetOf_8 rfl (lv_at hl 1 rfl) ?_
  refine lv_imul hx hb dX12_streetOf_9 ?_
  refine wk_top (-10) (by decide) ?_
  refine lv_iadd hx hb dX12_streetOf_10 ?_
  refine wk_top 0 (by decide) ?_
  refine lv_iload_n hx hb dX12_streetOf_11 rfl (lv_at hl 2 rfl) ?_
  refine lv_iadd hx hb dX12_streetOf_12 ?_
  refine wk_top 2 (by decide) ?_
  refine tk_ialdR hC hK hw hT kM_at12 rfl (by decide) (by decide) dX12_streetOf_13 (fun x1 c2 Ex1 => ?_)
  have bx1 := tk_rgI rfl 2 1 1 0 8 (by decide +kernel) ⟨0, by decide, by decide⟩ Ex1
  have c2 : gi w0 12 2 = x1 := c2
  exact tk_iret hC hr hlocks hK ⟨hT, hF, ⟨(show 0 ≤ x1.toInt by omega), (show x1.toInt ≤ 8 by omega), c2⟩⟩ hw dX12_streetOf_14
abbrev P_X12_streetOf_8 (ad : Nat → Nat) (cy : Nat → ClassId) (B : Int) (qr : Nat) (s1 : Int)  (w0 : va_W) : Int32 → va_W → Prop := fun r u => TW ksM ad cy B qr 12 u ∧ FE ksM ([] : List (Nat × Nat × Nat)) w0 u ∧ ((0 ≤ r.toInt ∧ r.toInt ≤ 10 ∧ gi u 12 0 = r))
set_option maxHeartbeats 4000000 in
set_option maxRecDepth 100000 in
theorem k_X12_streetOf_8 (l : Launch) (adK adV : Nat → Nat) (dC : Nat → ClassId) (dI : Nat → Nat → Nat) (cy : Nat → ClassId) (ad : Nat → Nat) (B : Int) (hB0 : 100000 ≤ B) (hB1 : B ≤ 1073741824) (qr : Nat) (s1 : Int)   (w0 : va_W) (sz : Nat) (hT : TW ksM ad cy B qr 12 w0)  : Met l yX12_streetOf wsX12_streetOf ({ frames := 1, cells := 0, slots := 0, locals := 12 }) (va_Pc [.ref (ad 0), .int (-1), .int 0] (wpreS adK adV dC dI cy sz w0)) (va_Qi (P_X12_streetOf_8 ad cy B qr s1  w0) (fun u : va_W => wpost dC dI cy (va_A w0 sz) u) (va_A w0 sz)) 0 0 (va_A w0 sz) := by
  refine Met.ofW (cc := cX12_streetOf) (maxL := 3) (ret := (some .int)) (by decide) rfl ?_
  intro p e s m args below meth c s₁ Bk hml hv
  obtain ⟨rfl, ⟨hsz, hP, hK, hD0⟩, hE, hSR⟩ := hv
  have hx := Bk.exec
  have hb := Bk.bytes
  have hr := Bk.returns
  have hlocks := Bk.notSynchronized
  have hC : CallFix p m c cX12_streetOf 3 s _ wsX12_streetOf RX12 := ⟨hx, hb, hml, findClass_of_methodNamed Bk.named, atoms_spec (ws := wsX12_streetOf) Bk.pre⟩
  subst hsz
  have hD := hD0.self (sz := s.heap.size)
  generalize hAe : va_A w0 s.heap.size = A at hD hE ⊢
  have hA : ∀ q : Nat, s.heap.size ≤ q → A q := fun q h => by rw [← hAe]; exact Or.inr h
  have hw : Wd dC dI A s.heap s.heap [] w0 := ⟨hP, hD, va_S.rf⟩
  have hF : FE ksM ([] : List (Nat × Nat × Nat)) w0 w0 := FE.rf
  have hl := lv_entry ([.ref (ad 0), .int (-1), .int 0]) (n := 3) (Nat.le_of_ble_eq_true rfl)
  rw [lg_entry_eq]
  generalize (lg_sl ([.ref (ad 0), .int (-1), .int 0]) ++ List.replicate (3 - (lg_sl ([.ref (ad 0), .int (-1), .int 0])).length) Slot.unset).toArray = ls at hl ⊢
  have hl : lv_has ls 3 [(0, .ref (ad 0)), (1, .int (-1)), (2, .int 0)] := hl
  generalize hloc : ([] : List Loc) = locs at hw ⊢
  have hinX12 : ∀ w ∈ u_ws RX12 TX12 42, w ∈ wsX12_streetOf := fun _ h => List.mem_cons_of_mem _ (List.mem_append_right _ (h))
  refine lv_aload_n hx hb dX12_streetOf_0 rfl (lv_at hl 0 rfl) ?_
  refine tk_getA hC hK hw hT hinX12 kM_at0 (by decide) rfl 26 (by decide) (List.mem_of_getElem? (i := 1) rfl) rfl rfl dX12_streetOf_1 ?_
  refine lv_bipush (v := 10) hx hb dX12_streetOf_4 (by decide) ?_
  refine lv_bipush (v := 10) hx hb dX12_streetOf_6 (by decide) ?_
  refine lv_iload_n hx hb dX12_streetOf_8 rfl (lv_at hl 1 rfl) ?_
  refine lv_imul hx hb dX12_streetOf_9 ?_
  refine wk_top (-10) (by decide) ?_
  refine lv_iadd hx hb dX12_streetOf_10 ?_
  refine wk_top 0 (by decide) ?_
  refine lv_iload_n hx hb dX12_streetOf_11 rfl (lv_at hl 2 rfl) ?_
  refine lv_iadd hx hb dX12_streetOf_12 ?_
  refine wk_top 0 (by decide) ?_
  refine tk_ialdR hC hK hw hT kM_at12 rfl (by decide) (by decide) dX12_streetOf_13 (fun x1 c2 Ex1 => ?_)
  have bx1 := tk_rgI rfl 0 1 1 0 10 (by decide +kernel) ⟨0, by decide, by decide⟩ Ex1
  have c2 : gi w0 12 0 = x1 := c2
  exact tk_iret hC hr hlocks hK ⟨hT, hF, ⟨(show 0 ≤ x1.toInt by omega), (show x1.toInt ≤ 10 by omega), c2⟩⟩ hw dX12_streetOf_14
abbrev P_X12_streetOf_9 (ad : Nat → Nat) (cy : Nat → ClassId) (B : Int) (qr : Nat) (s1 : Int)  (w0 : va_W) : Int32 → va_W → Prop := fun r u => TW ksM ad cy B qr 12 u ∧ FE ksM ([] : List (Nat × Nat × Nat)) w0 u ∧ ((0 ≤ r.toInt ∧ r.toInt ≤ 12 ∧ gi u 12 1 = r))
set_option maxHeartbeats 4000000 in
set_option maxRecDepth 100000 in
theorem k_X12_streetOf_9 (l : Launch) (adK adV : Nat → Nat) (dC : Nat → ClassId) (dI : Nat → Nat → Nat) (cy : Nat → ClassId) (ad : Nat → Nat) (B : Int) (hB0 : 100000 ≤ B) (hB1 : B ≤ 1073741824) (qr : Nat) (s1 : Int)   (w0 : va_W) (sz : Nat) (hT : TW ksM ad cy B qr 12 w0)  : Met l yX12_streetOf wsX12_streetOf ({ frames := 1, cells := 0, slots := 0, locals := 12 }) (va_Pc [.ref (ad 0), .int (-1), .int 1] (wpreS adK adV dC dI cy sz w0)) (va_Qi (P_X12_streetOf_9 ad cy B qr s1  w0) (fun u : va_W => wpost dC dI cy (va_A w0 sz) u) (va_A w0 sz)) 0 0 (va_A w0 sz) := by
  refine Met.ofW (cc := cX12_streetOf) (maxL := 3) (ret := (some .int)) (by decide) rfl ?_
  intro p e s m args below meth c s₁ Bk hml hv
  obtain ⟨rfl, ⟨hsz, hP, hK, hD0⟩, hE, hSR⟩ := hv
  have hx := Bk.exec
  have hb := Bk.bytes
  have hr := Bk.returns
  have hlocks := Bk.notSynchronized
  have hC : CallFix p m c cX12_streetOf 3 s _ wsX12_streetOf RX12 := ⟨hx, hb, hml, findClass_of_methodNamed Bk.named, atoms_spec (ws := wsX12_streetOf) Bk.pre⟩
  subst hsz
  have hD := hD0.self (sz := s.heap.size)
  generalize hAe : va_A w0 s.heap.size = A at hD hE ⊢
  have hA : ∀ q : Nat, s.heap.size ≤ q → A q := fun q h => by rw [← hAe]; exact Or.inr h
  have hw : Wd dC dI A s.heap s.heap [] w0 := ⟨hP, hD, va_S.rf⟩
  have hF : FE ksM ([] : List (Nat × Nat × Nat)) w0 w0 := FE.rf
  have hl := lv_entry ([.ref (ad 0), .int (-1), .int 1]) (n := 3) (Nat.le_of_ble_eq_true rfl)
  rw [lg_entry_eq]
  generalize (lg_sl ([.ref (ad 0), .int (-1), .int 1]) ++ List.replicate (3 - (lg_sl ([.ref (ad 0), .int (-1), .int 1])).length) Slot.unset).toArray = ls at hl ⊢
  have hl : lv_has ls 3 [(0, .ref (ad 0)), (1, .int (-1)), (2, .int 1)] := hl
  generalize hloc : ([] : List Loc) = locs at hw ⊢
  have hinX12 : ∀ w ∈ u_ws RX12 TX12 42, w ∈ wsX12_streetOf := fun _ h => List.mem_cons_of_mem _ (List.mem_append_right _ (h))
  refine lv_aload_n hx hb dX12_streetOf_0 rfl (lv_at hl 0 rfl) ?_
  refine tk_getA hC hK hw hT hinX12 kM_at0 (by decide) rfl 26 (by decide) (List.mem_of_getElem? (i := 1) rfl) rfl rfl dX12_streetOf_1 ?_
  refine lv_bipush (v := 10) hx hb dX12_streetOf_4 (by decide) ?_
  refine lv_bipush (v := 10) hx hb dX12_streetOf_6 (by decide) ?_
  refine lv_iload_n hx hb dX12_streetOf_8 rfl (lv_at hl 1 rfl) ?_
  refine lv_imul hx hb dX12_streetOf_9 ?_
  refine wk_top (-10) (by decide) ?_
  refine lv_iadd hx hb dX12_streetOf_10 ?_
  refine wk_top 0 (by decide) ?_
  refine lv_iload_n hx hb dX12_streetOf_11 rfl (lv_at hl 2 rfl) ?_
  refine lv_iadd hx hb dX12_streetOf_12 ?_
  refine wk_top 1 (by decide) ?_
  refine tk_ialdR hC hK hw hT kM_at12 rfl (by decide) (by decide) dX12_streetOf_13 (fun x1 c2 Ex1 => ?_)
  have bx1 : 0 ≤ x1.toInt ∧ x1.toInt ≤ 12 := (tk_rg1 rfl).mp Ex1
  have c2 : gi w0 12 1 = x1 := c2
  exact tk_iret hC hr hlocks hK ⟨hT, hF, ⟨(show 0 ≤ x1.toInt by omega), (show x1.toInt ≤ 12 by omega), c2⟩⟩ hw dX12_streetOf_14
abbrev P_X12_otherOf_2 (ad : Nat → Nat) (cy : Nat → ClassId) (B : Int) (qr : Nat) (s1 : Int) (a2 : Int32) (w0 : va_W) : Int32 → va_W → Prop := fun r u => TW ksM ad cy B qr 12 u ∧ FE ksM ([] : List (Nat × Nat × Nat)) w0 u ∧ ((0 ≤ r.toInt ∧ r.toInt ≤ 12))
set_option maxHeartbeats 4000000 in
set_option maxRecDepth 100000 in
theorem k_X12_otherOf_2 (l : Launch) (adK adV : Nat → Nat) (dC : Nat → ClassId) (dI : Nat → Nat → Nat) (cy : Nat → ClassId) (ad : Nat → Nat) (B : Int) (hB0 : 100000 ≤ B) (hB1 : B ≤ 1073741824) (qr : Nat) (s1 : Int)  (a2 : Int32) (ra2 : 0 ≤ a2.toInt) (ta2 : a2.toInt ≤ 12) (w0 : va_W) (sz : Nat) (hT : TW ksM ad cy B qr 12 w0)  : Met l yX12_otherOf wsX12_otherOf ({ frames := 2, cells := 0, slots := 0, locals := 34 }) (va_Pc [.ref (ad 0), .int (-1), .int a2] (wpreS adK adV dC dI cy sz w0)) (va_Qi (P_X12_otherOf_2 ad cy B qr s1 a2 w0) (fun u : va_W => wpost dC dI cy (va_A w0 sz) u) (va_A w0 sz)) 0 0 (va_A w0 sz) := by
  refine Met.ofW (cc := cX12_otherOf) (maxL := 3) (ret := (some .int)) (by decide) rfl ?_
  intro p e s m args below meth c s₁ Bk hml hv
  obtain ⟨rfl, ⟨hsz, hP, hK, hD0⟩, hE, hSR⟩ := hv
  have hx := Bk.exec
  have hb := Bk.bytes
  have hr := Bk.returns
  have hlocks := Bk.notSynchronized
  have hC : CallFix p m c cX12_otherOf 3 s _ wsX12_otherOf RX12 := ⟨hx, hb, hml, findClass_of_methodNamed Bk.named, atoms_spec (ws := wsX12_otherOf) Bk.pre⟩
  subst hsz
  have hD := hD0.self (sz := s.heap.size)
  generalize hAe : va_A w0 s.heap.size = A at hD hE ⊢
  have hA : ∀ q : Nat, s.heap.size ≤ q → A q := fun q h => by rw [← hAe]; exact Or.inr h
  have hw : Wd dC dI A s.heap s.heap [] w0 := ⟨hP, hD, va_S.rf⟩
  have hF : FE ksM ([] : List (Nat × Nat × Nat)) w0 w0 := FE.rf
  have hl := lv_entry ([.ref (ad 0), .int (-1), .int a2]) (n := 3) (Nat.le_of_ble_eq_true rfl)
  rw [lg_entry_eq]
  generalize (lg_sl ([.ref (ad 0), .int (-1), .int a2]) ++ List.replicate (3 - (lg_sl ([.ref (ad 0), .int (-1), .int a2])).length) Slot.unset).toArray = ls at hl ⊢
  have hl : lv_has ls 3 [(0, .ref (ad 0)), (1, .int (-1)), (2, .int a2)] := hl
  generalize hloc : ([] : List Loc) = locs at hw ⊢
  refine lv_aload_n hx hb dX12_otherOf_0 rfl (lv_at hl 0 rfl) ?_
  refine lv_iload_n hx hb dX12_otherOf_1 rfl (lv_at hl 1 rfl) ?_
  refine lv_iconst (v := 0) hx hb dX12_otherOf_2 (by decide) ?_
  refine tk_Vi hC hK hw hT hA hE hSR kM_at0 (by decide) rfl (k_X12_streetOf_8 l adK adV dC dI cy ad B (by omega) (by omega) qr s1    w0 s.heap.size hT ) (cwV 2 hC.2.2.2.2 gX12_otherOf_X12_streetOf rfl rfl rfl (by decide +kernel) ⟨Nat.le_of_ble_eq_true rfl, Nat.le_of_ble_eq_true rfl⟩) rfl hl.1 rfl (Nat.le_of_ble_eq_true rfl) dX12_otherOf_3 (fun r1 w3 H locs hp2 hw => ?_)
  obtain ⟨hT, k4, hg8⟩ := hp2
  have hF := hF.tr k4 (by decide)
  obtain ⟨g5, g6, c7⟩ := hg8
  refine lv_iload_n hx hb dX12_otherOf_6 rfl (lv_at hl 2 rfl) ?_
  refine lv_icmp_ne (tgt := 19) hx hb dX12_otherOf_7 (by decide) (fun c9 => ?_) (fun c9 => ?_)
  · have c9 : ¬ r1.toInt = a2.toInt := wk_eqF c9
    refine lv_aload_n hx hb dX12_otherOf_19 rfl (lv_at hl 0 rfl) ?_
    refine lv_iload_n hx hb dX12_otherOf_20 rfl (lv_at hl 1 rfl) ?_
    refine lv_iconst (v := 0) hx hb dX12_otherOf_21 (by decide) ?_
    refine tk_Vi hC hK hw hT hA hE hSR kM_at0 (by decide) rfl (k_X12_streetOf_8 l adK adV dC dI cy ad B (by omega) (by omega) qr s1    w3 H.size hT ) (cwV 2 hC.2.2.2.2 gX12_otherOf_X12_streetOf rfl rfl rfl (by decide +kernel) ⟨Nat.le_of_ble_eq_true rfl, Nat.le_of_ble_eq_true rfl⟩) rfl hl.1 rfl (Nat.le_of_ble_eq_true rfl) dX12_otherOf_22 (fun r10 w12 H locs hp11 hw => ?_)
    obtain ⟨hT, k13, hg17⟩ := hp11
    have hF := hF.tr k13 (by decide)
    have c18 := k13.gi kM_at12 (by decide) c7
    obtain ⟨g14, g15, c16⟩ := hg17
    obtain rfl : r10 = r1 := c16.symm.trans c18
    exact tk_iret hC hr hlocks hK ⟨hT, hF, ⟨(show 0 ≤ r1.toInt by omega), (show r1.toInt ≤ 12 by omega)⟩⟩ hw dX12_otherOf_25
  · have c9 : r1.toInt = a2.toInt := wk_eq.mp c9
    refine lv_aload_n hx hb dX12_otherOf_10 rfl (lv_at hl 0 rfl) ?_
    refine lv_iload_n hx hb dX12_otherOf_11 rfl (lv_at hl 1 rfl) ?_
    refine lv_iconst (v := 1) hx hb dX12_otherOf_12 (by decide) ?_
    refine tk_Vi hC hK hw hT hA hE hSR kM_at0 (by decide) rfl (k_X12_streetOf_9 l adK adV dC dI cy ad B (by omega) (by omega) qr s1    w3 H.size hT ) (cwV 2 hC.2.2.2.2 gX12_otherOf_X12_streetOf rfl rfl rfl (by decide +kernel) ⟨Nat.le_of_ble_eq_true rfl, Nat.le_of_ble_eq_true rfl⟩) rfl hl.1 rfl (Nat.le_of_ble_eq_true rfl) dX12_otherOf_13 (fun r19 w21 H locs hp20 hw => ?_)
    obtain ⟨hT, k22, hg26⟩ := hp20
    have hF := hF.tr k22 (by decide)
    have c27 := k22.gi kM_at12 (by decide) c7
    obtain ⟨g23, g24, c25⟩ := hg26
    refine lv_goto (tgt := 25) hx hb dX12_otherOf_16 (by decide) ?_
    exact tk_iret hC hr hlocks hK ⟨hT, hF, ⟨(show 0 ≤ r19.toInt by omega), (show r19.toInt ≤ 12 by omega)⟩⟩ hw dX12_otherOf_25
abbrev P_X12_way_1 (ad : Nat → Nat) (cy : Nat → ClassId) (B : Int) (qr : Nat) (s1 : Int) (a1 : Int32) (a2 : Int32) (a3 : Int32) (a4 : Int32) (w0 : va_W) : Int32 → va_W → Prop := fun r u => TW ksM ad cy B qr 12 u ∧ FE ksM [(12, 37, 37), (77, 0, 10), (78, 0, 10)] w0 u ∧ ((r = (-2) ∧ 0 ≤ a1.toInt ∧ a1.toInt ≤ 9 ∧ 0 ≤ a2.toInt ∧ a2.toInt ≤ 9 ∧ 0 ≤ a3.toInt ∧ a3.toInt ≤ 99999 ∧ 0 ≤ a4.toInt ∧ (∃ y : Int32, gi u 12 0 = y ∧ 1 ≤ y.toInt ∧ y.toInt ≤ 10)) ∨ (0 ≤ r.toInt ∧ r.toInt ≤ 11 ∧ 0 ≤ a1.toInt ∧ a1.toInt ≤ 9 ∧ 0 ≤ a2.toInt ∧ a2.toInt ≤ 9 ∧ 0 ≤ a3.toInt ∧ a3.toInt ≤ 99999 ∧ 0 ≤ a4.toInt ∧ (∃ y : Int32, gi u 0 37 = y ∧ 0 ≤ y.toInt ∧ y.toInt ≤ 100000100) ∧ (∃ y : Int32, gi u 12 0 = y ∧ 1 ≤ y.toInt ∧ y.toInt ≤ 10) ∧ (∃ y : Int32, gi u 12 1 = y ∧ 1 ≤ y.toInt ∧ y.toInt ≤ 12)) ∨ (r = (-1)))
set_option maxHeartbeats 4000000 in
set_option maxRecDepth 100000 in
theorem k_X12_way_1 (l : Launch) (adK adV : Nat → Nat) (dC : Nat → ClassId) (dI : Nat → Nat → Nat) (cy : Nat → ClassId) (ad : Nat → Nat) (B : Int) (hB0 : 100000 ≤ B) (hB1 : B ≤ 1073741824) (qr : Nat) (s1 : Int)  (a1 : Int32) (a2 : Int32) (a3 : Int32) (a4 : Int32) (w0 : va_W) (sz : Nat) (hT : TW ksM ad cy B qr 12 w0)  : Met l yX12_way wsX12_way ({ frames := 7, cells := 0, slots := 0, locals := 158 }) (va_Pc [.ref (ad 0), .int a1, .int a2, .int a3, .int a4] (wpreS adK adV dC dI cy sz w0)) (va_Qi (P_X12_way_1 ad cy B qr s1 a1 a2 a3 a4 w0) (fun u : va_W => wpost dC dI cy (va_A w0 sz) u) (va_A w0 sz)) 0 0 (va_A w0 sz) := by
  refine Met.ofW (cc := cX12_way) (maxL := 10) (ret := (some .int)) (by decide) rfl ?_
  intro p e s m args below meth c s₁ Bk hml hv
  obtain ⟨rfl, ⟨hsz, hP, hK, hD0⟩, hE, hSR⟩ := hv
  have hx := Bk.exec
  have hb := Bk.bytes
  have hr := Bk.returns
  have hlocks := Bk.notSynchronized
  have hC : CallFix p m c cX12_way 10 s _ wsX12_way RX12 := ⟨hx, hb, hml, findClass_of_methodNamed Bk.named, atoms_spec (ws := wsX12_way) Bk.pre⟩
  subst hsz
  have hD := hD0.self (sz := s.heap.size)
  generalize hAe : va_A w0 s.heap.size = A at hD hE ⊢
  have hA : ∀ q : Nat, s.heap.size ≤ q → A q := fun q h => by rw [← hAe]; exact Or.inr h
  have hw : Wd dC dI A s.heap s.heap [] w0 := ⟨hP, hD, va_S.rf⟩
  have hF : FE ksM [(12, 37, 37), (77, 0, 10), (78, 0, 10)] w0 w0 := FE.rf
  have hl := lv_entry ([.ref (ad 0), .int a1, .int a2, .int a3, .int a4]) (n := 10) (Nat.le_of_ble_eq_true rfl)
  rw [lg_entry_eq]
  generalize (lg_sl ([.ref (ad 0), .int a1, .int a2, .int a3, .int a4]) ++ List.replicate (10 - (lg_sl ([.ref (ad 0), .int a1, .int a2, .int a3, .int a4])).length) Slot.unset).toArray = ls at hl ⊢
  have hl : lv_has ls 10 [(0, .ref (ad 0)), (1, .int a1), (2, .int a2), (3, .int a3), (4, .int a4)] := hl
  generalize hloc : ([] : List Loc) = locs at hw ⊢
  have hinX12 : ∀ w ∈ u_ws RX12 TX12 42, w ∈ wsX12_way := fun _ h => List.mem_cons_of_mem _ (List.mem_append_right _ (h))
  have J15 : ∀ (H : Heap) (locs : List Loc) (ls : Array Slot) (w1 : va_W), Wd dC dI A s.heap H locs w1 → TW ksM ad cy B qr 12 w1 → FE ksM [(12, 37, 37), (77, 0, 10), (78, 0, 10)] w0 w1 → lv_has ls 10 [(0, .ref (ad 0)), (1, .int a1), (2, .int a2), (3, .int a3), (4, .int a4)] → W p l e ({ frames := 7, cells := 0, slots := 0, locals := 158 }) s m (List.toArray [.ref (ad 0), .int a1, .int a2, .int a3, .int a4]) below meth c H locs 0 0 (MQ below (va_Qi (P_X12_way_1 ad cy B qr s1 a1 a2 a3 a4 w0) (fun u : va_W => wpost dC dI cy A u) A) (List.toArray [.ref (ad 0), .int a1, .int a2, .int a3, .int a4]) s 0 0 A) (F0 m 15 ls []) := by
    intro H locs ls w1 hw hT hF hl
    refine lv_iconst (v := (-1)) hx hb dX12_way_15 (by decide) ?_
    exact tk_iret hC hr hlocks hK ⟨hT, hF, (Or.inr (Or.inr rfl))⟩ hw dX12_way_16
  have L51 : ∀ (n51 : Nat) (v51_5 : Int32) (v51_6 : Int32) (v51_7 : Int32) (v51_8 : Int32) (f51_12_0 : Int32) (H : Heap) (locs : List Loc) (ls : Array Slot) (w2 : va_W), 0 ≤ a1.toInt → a1.toInt ≤ 9 → 0 ≤ a2.toInt → a2.toInt ≤ 9 → 0 ≤ a3.toInt → a3.toInt ≤ 99999 → 0 ≤ a4.toInt → 0 ≤ v51_5.toInt → v51_5.toInt ≤ 100000100 → 0 ≤ v51_6.toInt → v51_6.toInt ≤ 12 → 0 ≤ v51_7.toInt → v51_7.toInt ≤ 100000208 → 0 ≤ v51_8.toInt → 1 ≤ f51_12_0.toInt → f51_12_0.toInt ≤ 10 → v51_8.toInt ≤ a4.toInt + 0 → (2147483647 - v51_8.toInt).toNat < n51 → Wd dC dI A s.heap H locs w2 → TW ksM ad cy B qr 12 w2 → FE ksM [(12, 37, 37), (77, 0, 10), (78, 0, 10)] w0 w2 → gi w2 12 0 = f51_12_0 → lv_has ls 10 [(0, .ref (ad 0)), (1, .int a1), (2, .int a2), (3, .int a3), (4, .int a4), (5, .int v51_5), (6, .int v51_6), (7, .int v51_7), (8, .int v51_8)] → W p l e ({ frames := 7, cells := 0, slots := 0, locals := 158 }) s m (List.toArray [.ref (ad 0), .int a1, .int a2, .int a3, .int a4]) below meth c H locs 0 0 (MQ below (va_Qi (P_X12_way_1 ad cy B qr s1 a1 a2 a3 a4 w0) (fun u : va_W => wpost dC dI cy A u) A) (List.toArray [.ref (ad 0), .int a1, .int a2, .int a3, .int a4]) s 0 0 A) (F0 m 51 ls []) := by
    intro n51
    induction n51 with
    | zero => intro v51_5 v51_6 v51_7 v51_8 f51_12_0 H locs ls w2 r3 t4 r5 t6 r7 t8 r9 r10 t11 r12 t13 r14 t15 r16 r17 t18 i20 hm51 hw hT hF c19 hl; omega
    | succ n51 ih51 =>
      intro v51_5 v51_6 v51_7 v51_8 f51_12_0 H locs ls w2 r3 t4 r5 t6 r7 t8 r9 r10 t11 r12 t13 r14 t15 r16 r17 t18 i20 hm51 hw hT hF c19 hl
      refine lv_iload hx hb dX12_way_51 (lv_at hl 6 rfl) ?_
      refine lv_iload_n hx hb dX12_way_53 rfl (lv_at hl 2 rfl) ?_
      refine lv_icmp_eq (tgt := 110) hx hb dX12_way_54 (by decide) (fun c21 => ?_) (fun c21 => ?_)
      · have c21 : v51_6.toInt = a2.toInt := wk_eq.mp c21
        refine lv_bipush (v := (-2)) hx hb dX12_way_110 (by decide) ?_
        exact tk_iret hC hr hlocks hK ⟨hT, hF, (Or.inl ⟨rfl, (show 0 ≤ a1.toInt by omega), (show a1.toInt ≤ 9 by omega), (show 0 ≤ a2.toInt by omega), (show a2.toInt ≤ 9 by omega), (show 0 ≤ a3.toInt by omega), (show a3.toInt ≤ 99999 by omega), (show 0 ≤ a4.toInt by omega), ⟨f51_12_0, c19, (show 1 ≤ f51_12_0.toInt by omega), (show f51_12_0.toInt ≤ 10 by omega)⟩⟩)⟩ hw dX12_way_112
      · have c21 : ¬ v51_6.toInt = a2.toInt := wk_eqF c21
        refine lv_aload_n hx hb dX12_way_57 rfl (lv_at hl 0 rfl) ?_
        refine lv_iload hx hb dX12_way_58 (lv_at hl 6 rfl) ?_
        refine lv_iload_n hx hb dX12_way_60 rfl (lv_at hl 2 rfl) ?_
        refine lv_iload hx hb dX12_way_61 (lv_at hl 7 rfl) ?_
        refine lv_iload hx hb dX12_way_63 (lv_at hl 5 rfl) ?_
        refine tk_Vi hC hK hw hT hA hE hSR kM_at0 (by decide) rfl (k_X12_wayFrom_1 l adK adV dC dI cy ad B (by omega) (by omega) qr s1   v51_6 (show 0 ≤ v51_6.toInt by omega) (show v51_6.toInt ≤ 12 by omega) a2 (show 0 ≤ a2.toInt by omega) (show a2.toInt ≤ 9 by omega) v51_7 (show 0 ≤ v51_7.toInt by omega) (show v51_7.toInt ≤ 100000208 by omega) v51_5 (show 0 ≤ v51_5.toInt by omega) (show v51_5.toInt ≤ 100000100 by omega) w2 H.size hT ) (cwV 4 hC.2.2.2.2 gX12_way_X12_wayFrom rfl rfl rfl (by decide +kernel) ⟨Nat.le_of_ble_eq_true rfl, Nat.le_of_ble_eq_true rfl⟩) rfl hl.1 rfl (Nat.le_of_ble_eq_true rfl) dX12_way_65 (fun r22 w24 H locs hp23 hw => ?_)
        obtain ⟨hT, k25, hg41⟩ := hp23
        have hF := hF.tr k25 (by decide)
        have c42 := k25.gi kM_at12 (by decide) c19
        rcases hg41 with ⟨g26, g27, g28, ⟨x29, c30, rx29, tx29⟩, ⟨x31, c32, rx31, tx31⟩⟩ | ⟨g33, g34, g35, ⟨x36, c37, rx36, tx36⟩, ⟨x38, c39, rx38, tx38⟩, c40⟩ | rfl
        · refine lv_istore (lv' := [(9, .int r22), (0, .ref (ad 0)), (1, .int a1), (2, .int a2), (3, .int a3), (4, .int a4), (5, .int v51_5), (6, .int v51_6), (7, .int v51_7), (8, .int v51_8)]) hx hb dX12_way_68 hl (by decide) rfl (fun ls hl => ?_)
          refine lv_iload hx hb dX12_way_70 (lv_at hl 9 rfl) ?_
          refine lv_iload hx hb dX12_way_72 (lv_at hl 5 rfl) ?_
          refine lv_icmp_ne (tgt := 80) hx hb dX12_way_74 (by decide) (fun c43 => ?_) (fun c43 => ?_)
          · have c43 : ¬ v51_8.toInt = a4.toInt := wk_eqF c43
            refine lv_aload_n hx hb dX12_way_80 rfl (lv_at hl 1 rfl) ?_
            refine tk_geti hC hK hw hT hinX12 kM_at0 (by decide) rfl 37 (by decide) (List.mem_of_getElem? (i := 2) rfl) rfl rfl dX12_way_81 (fun x44 c45 rx44 tx44 => ?_)
            refine wk_top x29 (c45.symm.trans c30) ?_
            refine lv_aload_n hx hb dX12_way_84 rfl (lv_at hl 1 rfl) ?_
            refine lv_iload hx hb dX12_way_85 (lv_at hl 0 rfl) ?_
            refine lv_iconst (v := 2) hx hb dX12_way_87 (by decide) ?_
            refine tk_Vi hC hK hw hT hA hE hSR kM_at0 (by decide) rfl (k_X12_streetOf_6 l adK adV dC dI cy ad B (by omega) (by omega) qr s1   r22 (show 0 ≤ r22.toInt by omega) (show r22.toInt ≤ 11 by omega) w24 H.size hT ) (cwV 2 hC.2.2.2.2 gX12_way_X12_streetOf rfl rfl rfl (by decide +kernel) ⟨Nat.le_of_ble_eq_true rfl, Nat.le_of_ble_eq_true rfl⟩) rfl hl.1 rfl (Nat.le_of_ble_eq_true rfl) dX12_way_88 (fun r46 w48 H locs hp47 hw => ?_)
            obtain ⟨hT, k49, hg53⟩ := hp47
            have hF := hF.tr k49 (by decide)
            have c54 := k49.gi kM_at12 (by decide) c42
            have c55 := k49.gi kM_at0 (by decide) c30
            have c56 := k49.gi kM_at12 (by decide) c32
            obtain ⟨g50, g51, c52⟩ := hg53
            refine lv_iadd hx hb dX12_way_91 ?_
            refine lv_topi (fun x57 ex57 => ?_)
            have ex57 : x57.toInt = x29.toInt + r46.toInt := by rw [ex57]; exact wk_add (show (-2147483648) ≤ x29.toInt + r46.toInt by omega) (show x29.toInt + r46.toInt ≤ 2147483647 by omega)
            refine lv_istore (lv' := [(7, .int x57), (9, .int r22), (0, .ref (ad 0)), (1, .int a1), (2, .int a2), (3, .int a3), (4, .int a4), (5, .int v51_5), (6, .int v51_6), (8, .int v51_8)]) hx hb dX12_way_92 hl (by decide) rfl (fun ls hl => ?_)
            refine lv_aload_n hx hb dX12_way_94 rfl (lv_at hl 2 rfl) ?_
            refine lv_iload hx hb dX12_way_95 (lv_at hl 1 rfl) ?_
            refine lv_iload hx hb dX12_way_97 (lv_at hl 8 rfl) ?_
            refine tk_Vi hC hK hw hT hA hE hSR kM_at0 (by decide) rfl (k_X12_otherOf_1 l adK adV dC dI cy ad B (by omega) (by omega) qr s1   r22 (show 0 ≤ r22.toInt by omega) (show r22.toInt ≤ 11 by omega) v51_6 (show 0 ≤ v51_6.toInt by omega) (show v51_6.toInt ≤ 9 by omega) w48 H.size hT ) (cwV 2 hC.2.2.2.2 gX12_way_X12_otherOf rfl rfl rfl (by decide +kernel) ⟨Nat.le_of_ble_eq_true rfl, Nat.le_of_ble_eq_true rfl⟩) rfl hl.1 rfl (Nat.le_of_ble_eq_true rfl) dX12_way_99 (fun r58 w60 H locs hp59 hw => ?_)
            obtain ⟨hT, k61, hg67⟩ := hp59
            have hF := hF.tr k61 (by decide)
            have c68 := k61.gi kM_at12 (by decide) c54
            have c69 := k61.gi kM_at0 (by decide) c55
            have c70 := k61.gi kM_at12 (by decide) c56
            have c71 := k61.gi kM_at12 rfl c52
            rcases hg67 with ⟨g62, g63⟩ | ⟨g64, g65, c66⟩
            · refine lv_istore (lv' := [(6, .int r58), (7, .int x57), (9, .int r22), (0, .ref (ad 0)), (1, .int a1), (2, .int a2), (3, .int a3), (4, .int a4), (5, .int v51_5), (8, .int v51_8)]) hx hb dX12_way_102 hl (by decide) rfl (fun ls hl => ?_)
              obtain ⟨x72, ex72⟩ : ∃ y : Int32, y = v51_8 + Int32.ofInt 1 := ⟨_, rfl⟩
              refine lv_iinc (v := x72) (lv' := [(8, .int x72), (6, .int r58), (7, .int x57), (9, .int r22), (0, .ref (ad 0)), (1, .int a1), (2, .int a2), (3, .int a3), (4, .int a4), (5, .int v51_5)]) hx hb dX12_way_104 hl (k := 9) rfl ex72.symm (by decide) rfl (fun ls hl => ?_)
              have ex72 : x72.toInt = v51_8.toInt + 1 := by rw [ex72]; exact wk_add (y := 1) (show -2147483648 ≤ v51_8.toInt + 1 by omega) (show v51_8.toInt + 1 ≤ 2147483647 by omega)
              refine lv_goto (tgt := 51) hx hb dX12_way_107 (by decide) ?_
              exact ih51 v51_5 r58 x57 x72 f51_12_0 H locs ls w60 (show 0 ≤ a1.toInt by omega) (show a1.toInt ≤ 9 by omega) (show 0 ≤ a2.toInt by omega) (show a2.toInt ≤ 9 by omega) (show 0 ≤ a3.toInt by omega) (show a3.toInt ≤ 99999 by omega) (show 0 ≤ a4.toInt by omega) (show 0 ≤ v51_5.toInt by omega) (show v51_5.toInt ≤ 100000100 by omega) (show 0 ≤ r58.toInt by omega) (show r58.toInt ≤ 12 by omega) (show 0 ≤ x57.toInt by omega) (show x57.toInt ≤ 100000208 by omega) (show 0 ≤ x72.toInt by omega) (show 1 ≤ f51_12_0.toInt by omega) (show f51_12_0.toInt ≤ 10 by omega) (show x72.toInt ≤ a4.toInt + 0 by omega) (show (2147483647 - x72.toInt).toNat < n51 by omega) hw hT hF c68 (lv_sub hl [4, 5, 6, 7, 8, 9, 1, 2, 0] rfl)
            · refine lv_istore (lv' := [(6, .int r58), (7, .int x57), (9, .int r22), (0, .ref (ad 0)), (1, .int a1), (2, .int a2), (3, .int a3), (4, .int a4), (5, .int v51_5), (8, .int v51_8)]) hx hb dX12_way_102 hl (by decide) rfl (fun ls hl => ?_)
              obtain ⟨x73, ex73⟩ : ∃ y : Int32, y = v51_8 + Int32.ofInt 1 := ⟨_, rfl⟩
              refine lv_iinc (v := x73) (lv' := [(8, .int x73), (6, .int r58), (7, .int x57), (9, .int r22), (0, .ref (ad 0)), (1, .int a1), (2, .int a2), (3, .int a3), (4, .int a4), (5, .int v51_5)]) hx hb dX12_way_104 hl (k := 9) rfl ex73.symm (by decide) rfl (fun ls hl => ?_)
              have ex73 : x73.toInt = v51_8.toInt + 1 := by rw [ex73]; exact wk_add (y := 1) (show -2147483648 ≤ v51_8.toInt + 1 by omega) (show v51_8.toInt + 1 ≤ 2147483647 by omega)
              refine lv_goto (tgt := 51) hx hb dX12_way_107 (by decide) ?_
              exact ih51 v51_5 r58 x57 x73 f51_12_0 H locs ls w60 (show 0 ≤ a1.toInt by omega) (show a1.toInt ≤ 9 by omega) (show 0 ≤ a2.toInt by omega) (show a2.toInt ≤ 9 by omega) (show 0 ≤ a3.toInt by omega) (show a3.toInt ≤ 99999 by omega) (show 0 ≤ a4.toInt by omega) (show 0 ≤ v51_5.toInt by omega) (show v51_5.toInt ≤ 100000100 by omega) (show 0 ≤ r58.toInt by omega) (show r58.toInt ≤ 12 by omega) (show 0 ≤ x57.toInt by omega) (show x57.toInt ≤ 100000208 by omega) (show 0 ≤ x73.toInt by omega) (show 1 ≤ f51_12_0.toInt by omega) (show f51_12_0.toInt ≤ 10 by omega) (show x73.toInt ≤ a4.toInt + 0 by omega) (show (2147483647 - x73.toInt).toNat < n51 by omega) hw hT hF c68 (lv_sub hl [4, 5, 6, 7, 8, 9, 1, 2, 0] rfl)
          · have c43 : v51_8.toInt = a4.toInt := wk_eq.mp c43
            refine lv_iload hx hb dX12_way_77 (lv_at hl 0 rfl) ?_
            exact tk_iret hC hr hlocks hK ⟨hT, hF, (Or.inr (Or.inl ⟨(show 0 ≤ r22.toInt by omega), (show r22.toInt ≤ 11 by omega), (show 0 ≤ a1.toInt by omega), (show a1.toInt ≤ 9 by omega), (show 0 ≤ a2.toInt by omega), (show a2.toInt ≤ 9 by omega), (show 0 ≤ a3.toInt by omega), (show a3.toInt ≤ 99999 by omega), (show 0 ≤ a4.toInt by omega), ⟨x29, c30, (show 0 ≤ x29.toInt by omega), (show x29.toInt ≤ 100000100 by omega)⟩, ⟨f51_12_0, c42, (show 1 ≤ f51_12_0.toInt by omega), (show f51_12_0.toInt ≤ 10 by omega)⟩, ⟨x31, c32, (show 1 ≤ x31.toInt by omega), (show x31.toInt ≤ 12 by omega)⟩⟩))⟩ hw dX12_way_79
        · refine lv_istore (lv' := [(9, .int r22), (0, .ref (ad 0)), (1, .int a1), (2, .int a2), (3, .int a3), (4, .int a4), (5, .int v51_5), (6, .int v51_6), (7, .int v51_7), (8, .int v51_8)]) hx hb dX12_way_68 hl (by decide) rfl (fun ls hl => ?_)
          refine lv_iload hx hb dX12_way_70 (lv_at hl 9 rfl) ?_
          refine lv_iload hx hb dX12_way_72 (lv_at hl 5 rfl) ?_
          refine lv_icmp_ne (tgt := 80) hx hb dX12_way_74 (by decide) (fun c74 => ?_) (fun c74 => ?_)
          · have c74 : ¬ v51_8.toInt = a4.toInt := wk_eqF c74
            refine lv_aload_n hx hb dX12_way_80 rfl (lv_at hl 1 rfl) ?_
            refine tk_geti hC hK hw hT hinX12 kM_at0 (by decide) rfl 37 (by decide) (List.mem_of_getElem? (i := 2) rfl) rfl rfl dX12_way_81 (fun x75 c76 rx75 tx75 => ?_)
            refine wk_top x36 (c76.symm.trans c37) ?_
            refine lv_aload_n hx hb dX12_way_84 rfl (lv_at hl 1 rfl) ?_
            refine lv_iload hx hb dX12_way_85 (lv_at hl 0 rfl) ?_
            refine lv_iconst (v := 2) hx hb dX12_way_87 (by decide) ?_
            refine tk_Vi hC hK hw hT hA hE hSR kM_at0 (by decide) rfl (k_X12_streetOf_6 l adK adV dC dI cy ad B (by omega) (by omega) qr s1   r22 (show 0 ≤ r22.toInt by omega) (show r22.toInt ≤ 11 by omega) w24 H.size hT ) (cwV 2 hC.2.2.2.2 gX12_way_X12_streetOf rfl rfl rfl (by decide +kernel) ⟨Nat.le_of_ble_eq_true rfl, Nat.le_of_ble_eq_true rfl⟩) rfl hl.1 rfl (Nat.le_of_ble_eq_true rfl) dX12_way_88 (fun r77 w79 H locs hp78 hw => ?_)
            obtain ⟨hT, k80, hg84⟩ := hp78
            have hF := hF.tr k80 (by decide)
            have c85 := k80.gi kM_at12 (by decide) c42
            have c86 := k80.gi kM_at0 (by decide) c37
            have c87 := k80.gi kM_at12 (by decide) c39
            have c88 := k80.gi kM_at12 rfl c40
            obtain ⟨g81, g82, c83⟩ := hg84
            refine lv_iadd hx hb dX12_way_91 ?_
            refine lv_topi (fun x89 ex89 => ?_)
            have ex89 : x89.toInt = x36.toInt + r77.toInt := by rw [ex89]; exact wk_add (show (-2147483648) ≤ x36.toInt + r77.toInt by omega) (show x36.toInt + r77.toInt ≤ 2147483647 by omega)
            refine lv_istore (lv' := [(7, .int x89), (9, .int r22), (0, .ref (ad 0)), (1, .int a1), (2, .int a2), (3, .int a3), (4, .int a4), (5, .int v51_5), (6, .int v51_6), (8, .int v51_8)]) hx hb dX12_way_92 hl (by decide) rfl (fun ls hl => ?_)
            refine lv_aload_n hx hb dX12_way_94 rfl (lv_at hl 2 rfl) ?_
            refine lv_iload hx hb dX12_way_95 (lv_at hl 1 rfl) ?_
            refine lv_iload hx hb dX12_way_97 (lv_at hl 8 rfl) ?_
            refine tk_Vi hC hK hw hT hA hE hSR kM_at0 (by decide) rfl (k_X12_otherOf_1 l adK adV dC dI cy ad B (by omega) (by omega) qr s1   r22 (show 0 ≤ r22.toInt by omega) (show r22.toInt ≤ 11 by omega) v51_6 (show 0 ≤ v51_6.toInt by omega) (show v51_6.toInt ≤ 9 by omega) w79 H.size hT ) (cwV 2 hC.2.2.2.2 gX12_way_X12_otherOf rfl rfl rfl (by decide +kernel) ⟨Nat.le_of_ble_eq_true rfl, Nat.le_of_ble_eq_true rfl⟩) rfl hl.1 rfl (Nat.le_of_ble_eq_true rfl) dX12_way_99 (fun r90 w92 H locs hp91 hw => ?_)
            obtain ⟨hT, k93, hg99⟩ := hp91
            have hF := hF.tr k93 (by decide)
            have c100 := k93.gi kM_at12 (by decide) c85
            have c101 := k93.gi kM_at0 (by decide) c86
            have c102 := k93.gi kM_at12 (by decide) c87
            have c103 := k93.gi kM_at12 rfl c88
            have c104 := k93.gi kM_at12 rfl c83
            rcases hg99 with ⟨g94, g95⟩ | ⟨g96, g97, c98⟩
            · refine lv_istore (lv' := [(6, .int r90), (7, .int x89), (9, .int r22), (0, .ref (ad 0)), (1, .int a1), (2, .int a2), (3, .int a3), (4, .int a4), (5, .int v51_5), (8, .int v51_8)]) hx hb dX12_way_102 hl (by decide) rfl (fun ls hl => ?_)
              obtain ⟨x105, ex105⟩ : ∃ y : Int32, y = v51_8 + Int32.ofInt 1 := ⟨_, rfl⟩
              refine lv_iinc (v := x105) (lv' := [(8, .int x105), (6, .int r90), (7, .int x89), (9, .int r22), (0, .ref (ad 0)), (1, .int a1), (2, .int a2), (3, .int a3), (4, .int a4), (5, .int v51_5)]) hx hb dX12_way_104 hl (k := 9) rfl ex105.symm (by decide) rfl (fun ls hl => ?_)
              have ex105 : x105.toInt = v51_8.toInt + 1 := by rw [ex105]; exact wk_add (y := 1) (show -2147483648 ≤ v51_8.toInt + 1 by omega) (show v51_8.toInt + 1 ≤ 2147483647 by omega)
              refine lv_goto (tgt := 51) hx hb dX12_way_107 (by decide) ?_
              exact ih51 v51_5 r90 x89 x105 f51_12_0 H locs ls w92 (show 0 ≤ a1.toInt by omega) (show a1.toInt ≤ 9 by omega) (show 0 ≤ a2.toInt by omega) (show a2.toInt ≤ 9 by omega) (show 0 ≤ a3.toInt by omega) (show a3.toInt ≤ 99999 by omega) (show 0 ≤ a4.toInt by omega) (show 0 ≤ v51_5.toInt by omega) (show v51_5.toInt ≤ 100000100 by omega) (show 0 ≤ r90.toInt by omega) (show r90.toInt ≤ 12 by omega) (show 0 ≤ x89.toInt by omega) (show x89.toInt ≤ 100000208 by omega) (show 0 ≤ x105.toInt by omega) (show 1 ≤ f51_12_0.toInt by omega) (show f51_12_0.toInt ≤ 10 by omega) (show x105.toInt ≤ a4.toInt + 0 by omega) (show (2147483647 - x105.toInt).toNat < n51 by omega) hw hT hF c100 (lv_sub hl [4, 5, 6, 7, 8, 9, 1, 2, 0] rfl)
            · refine lv_istore (lv' := [(6, .int r90), (7, .int x89), (9, .int r22), (0, .ref (ad 0)), (1, .int a1), (2, .int a2), (3, .int a3), (4, .int a4), (5, .int v51_5), (8, .int v51_8)]) hx hb dX12_way_102 hl (by decide) rfl (fun ls hl => ?_)
              obtain ⟨x106, ex106⟩ : ∃ y : Int32, y = v51_8 + Int32.ofInt 1 := ⟨_, rfl⟩
              refine lv_iinc (v := x106) (lv' := [(8, .int x106), (6, .int r90), (7, .int x89), (9, .int r22), (0, .ref (ad 0)), (1, .int a1), (2, .int a2), (3, .int a3), (4, .int a4), (5, .int v51_5)]) hx hb dX12_way_104 hl (k := 9) rfl ex106.symm (by decide) rfl (fun ls hl => ?_)
              have ex106 : x106.toInt = v51_8.toInt + 1 := by rw [ex106]; exact wk_add (y := 1) (show -2147483648 ≤ v51_8.toInt + 1 by omega) (show v51_8.toInt + 1 ≤ 2147483647 by omega)
              refine lv_goto (tgt := 51) hx hb dX12_way_107 (by decide) ?_
              exact ih51 v51_5 r90 x89 x106 f51_12_0 H locs ls w92 (show 0 ≤ a1.toInt by omega) (show a1.toInt ≤ 9 by omega) (show 0 ≤ a2.toInt by omega) (show a2.toInt ≤ 9 by omega) (show 0 ≤ a3.toInt by omega) (show a3.toInt ≤ 99999 by omega) (show 0 ≤ a4.toInt by omega) (show 0 ≤ v51_5.toInt by omega) (show v51_5.toInt ≤ 100000100 by omega) (show 0 ≤ r90.toInt by omega) (show r90.toInt ≤ 12 by omega) (show 0 ≤ x89.toInt by omega) (show x89.toInt ≤ 100000208 by omega) (show 0 ≤ x106.toInt by omega) (show 1 ≤ f51_12_0.toInt by omega) (show f51_12_0.toInt ≤ 10 by omega) (show x106.toInt ≤ a4.toInt + 0 by omega) (show (2147483647 - x106.toInt).toNat < n51 by omega) hw hT hF c100 (lv_sub hl [4, 5, 6, 7, 8, 9, 1, 2, 0] rfl)
          · have c74 : v51_8.toInt = a4.toInt := wk_eq.mp c74
            refine lv_iload hx hb dX12_way_77 (lv_at hl 0 rfl) ?_
            exact tk_iret hC hr hlocks hK ⟨hT, hF, (Or.inr (Or.inl ⟨(show 0 ≤ r22.toInt by omega), (show r22.toInt ≤ 11 by omega), (show 0 ≤ a1.toInt by omega), (show a1.toInt ≤ 9 by omega), (show 0 ≤ a2.toInt by omega), (show a2.toInt ≤ 9 by omega), (show 0 ≤ a3.toInt by omega), (show a3.toInt ≤ 99999 by omega), (show 0 ≤ a4.toInt by omega), ⟨x36, c37, (show 0 ≤ x36.toInt by omega), (show x36.toInt ≤ 100000100 by omega)⟩, ⟨f51_12_0, c42, (show 1 ≤ f51_12_0.toInt by omega), (show f51_12_0.toInt ≤ 10 by omega)⟩, ⟨x38, c39, (show 1 ≤ x38.toInt by omega), (show x38.toInt ≤ 12 by omega)⟩⟩))⟩ hw dX12_way_79
        · refine lv_istore (lv' := [(9, .int (-1)), (0, .ref (ad 0)), (1, .int a1), (2, .int a2), (3, .int a3), (4, .int a4), (5, .int v51_5), (6, .int v51_6), (7, .int v51_7), (8, .int v51_8)]) hx hb dX12_way_68 hl (by decide) rfl (fun ls hl => ?_)
          refine lv_iload hx hb dX12_way_70 (lv_at hl 9 rfl) ?_
          refine lv_iload hx hb dX12_way_72 (lv_at hl 5 rfl) ?_
          refine lv_icmp_ne (tgt := 80) hx hb dX12_way_74 (by decide) (fun c107 => ?_) (fun c107 => ?_)
          · have c107 : ¬ v51_8.toInt = a4.toInt := wk_eqF c107
            refine lv_aload_n hx hb dX12_way_80 rfl (lv_at hl 1 rfl) ?_
            refine tk_geti hC hK hw hT hinX12 kM_at0 (by decide) rfl 37 (by decide) (List.mem_of_getElem? (i := 2) rfl) rfl rfl dX12_way_81 (fun x108 c109 rx108 tx108 => ?_)
            refine lv_aload_n hx hb dX12_way_84 rfl (lv_at hl 1 rfl) ?_
            refine lv_iload hx hb dX12_way_85 (lv_at hl 0 rfl) ?_
            refine lv_iconst (v := 2) hx hb dX12_way_87 (by decide) ?_
            refine tk_Vi hC hK hw hT hA hE hSR kM_at0 (by decide) rfl (k_X12_streetOf_7 l adK adV dC dI cy ad B (by omega) (by omega) qr s1    w24 H.size hT ) (cwV 2 hC.2.2.2.2 gX12_way_X12_streetOf rfl rfl rfl (by decide +kernel) ⟨Nat.le_of_ble_eq_true rfl, Nat.le_of_ble_eq_true rfl⟩) rfl hl.1 rfl (Nat.le_of_ble_eq_true rfl) dX12_way_88 (fun r110 w112 H locs hp111 hw => ?_)
            obtain ⟨hT, k113, hg117⟩ := hp111
            have hF := hF.tr k113 (by decide)
            have c118 := k113.gi kM_at12 (by decide) c42
            have c119 := k113.gi kM_at0 (by decide) c109
            obtain ⟨g114, g115, c116⟩ := hg117
            refine lv_iadd hx hb dX12_way_91 ?_
            refine lv_topi (fun x120 ex120 => ?_)
            have ex120 : x120.toInt = x108.toInt + r110.toInt := by rw [ex120]; exact wk_add (show (-2147483648) ≤ x108.toInt + r110.toInt by omega) (show x108.toInt + r110.toInt ≤ 2147483647 by omega)
            refine lv_istore (lv' := [(7, .int x120), (9, .int (-1)), (0, .ref (ad 0)), (1, .int a1), (2, .int a2), (3, .int a3), (4, .int a4), (5, .int v51_5), (6, .int v51_6), (8, .int v51_8)]) hx hb dX12_way_92 hl (by decide) rfl (fun ls hl => ?_)
            refine lv_aload_n hx hb dX12_way_94 rfl (lv_at hl 2 rfl) ?_
            refine lv_iload hx hb dX12_way_95 (lv_at hl 1 rfl) ?_
            refine lv_iload hx hb dX12_way_97 (lv_at hl 8 rfl) ?_
            refine tk_Vi hC hK hw hT hA hE hSR kM_at0 (by decide) rfl (k_X12_otherOf_2 l adK adV dC dI cy ad B (by omega) (by omega) qr s1   v51_6 (show 0 ≤ v51_6.toInt by omega) (show v51_6.toInt ≤ 12 by omega) w112 H.size hT ) (cwV 2 hC.2.2.2.2 gX12_way_X12_otherOf rfl rfl rfl (by decide +kernel) ⟨Nat.le_of_ble_eq_true rfl, Nat.le_of_ble_eq_true rfl⟩) rfl hl.1 rfl (Nat.le_of_ble_eq_true rfl) dX12_way_99 (fun r121 w123 H locs hp122 hw => ?_)
            obtain ⟨hT, k124, hg127⟩ := hp122
            have hF := hF.tr k124 (by decide)
            have c128 := k124.gi kM_at12 (by decide) c118
            have c129 := k124.gi kM_at0 (by decide) c119
            have c130 := k124.gi kM_at12 (by decide) c116
            obtain ⟨g125, g126⟩ := hg127
            refine lv_istore (lv' := [(6, .int r121), (7, .int x120), (9, .int (-1)), (0, .ref (ad 0)), (1, .int a1), (2, .int a2), (3, .int a3), (4, .int a4), (5, .int v51_5), (8, .int v51_8)]) hx hb dX12_way_102 hl (by decide) rfl (fun ls hl => ?_)
            obtain ⟨x131, ex131⟩ : ∃ y : Int32, y = v51_8 + Int32.ofInt 1 := ⟨_, rfl⟩
            refine lv_iinc (v := x131) (lv' := [(8, .int x131), (6, .int r121), (7, .int x120), (9, .int (-1)), (0, .ref (ad 0)), (1, .int a1), (2, .int a2), (3, .int a3), (4, .int a4), (5, .int v51_5)]) hx hb dX12_way_104 hl (k := 9) rfl ex131.symm (by decide) rfl (fun ls hl => ?_)
            have ex131 : x131.toInt = v51_8.toInt + 1 := by rw [ex131]; exact wk_add (y := 1) (show -2147483648 ≤ v51_8.toInt + 1 by omega) (show v51_8.toInt + 1 ≤ 2147483647 by omega)
            refine lv_goto (tgt := 51) hx hb dX12_way_107 (by decide) ?_
            exact ih51 v51_5 r121 x120 x131 f51_12_0 H locs ls w123 (show 0 ≤ a1.toInt by omega) (show a1.toInt ≤ 9 by omega) (show 0 ≤ a2.toInt by omega) (show a2.toInt ≤ 9 by omega) (show 0 ≤ a3.toInt by omega) (show a3.toInt ≤ 99999 by omega) (show 0 ≤ a4.toInt by omega) (show 0 ≤ v51_5.toInt by omega) (show v51_5.toInt ≤ 100000100 by omega) (show 0 ≤ r121.toInt by omega) (show r121.toInt ≤ 12 by omega) (show 0 ≤ x120.toInt by omega) (show x120.toInt ≤ 100000208 by omega) (show 0 ≤ x131.toInt by omega) (show 1 ≤ f51_12_0.toInt by omega) (show f51_12_0.toInt ≤ 10 by omega) (show x131.toInt ≤ a4.toInt + 0 by omega) (show (2147483647 - x131.toInt).toNat < n51 by omega) hw hT hF c128 (lv_sub hl [4, 5, 6, 7, 8, 9, 1, 2, 0] rfl)
          · have c107 : v51_8.toInt = a4.toInt := wk_eq.mp c107
            refine lv_iload hx hb dX12_way_77 (lv_at hl 0 rfl) ?_
            exact tk_iret hC hr hlocks hK ⟨hT, hF, (Or.inr (Or.inr rfl))⟩ hw dX12_way_79
  refine lv_aload_n hx hb dX12_way_0 rfl (lv_at hl 0 rfl) ?_
  refine lv_iload_n hx hb dX12_way_1 rfl (lv_at hl 1 rfl) ?_
  refine lv_iload_n hx hb dX12_way_2 rfl (lv_at hl 2 rfl) ?_
  refine lv_iload_n hx hb dX12_way_3 rfl (lv_at hl 3 rfl) ?_
  refine tk_Vi hC hK hw hT hA hE hSR kM_at0 (by decide) rfl (k_X12_canLook_1 l adK adV dC dI cy ad B (by omega) (by omega) qr s1   a1 a2 a3 w0 s.heap.size hT ) (cwV 3 hC.2.2.2.2 gX12_way_X12_canLook rfl rfl rfl (by decide +kernel) ⟨Nat.le_of_ble_eq_true rfl, Nat.le_of_ble_eq_true rfl⟩) rfl hl.1 rfl (Nat.le_of_ble_eq_true rfl) dX12_way_4 (fun r132 w134 H locs hp133 hw => ?_)
  obtain ⟨hT, k135, hg144⟩ := hp133
  have hF := hF.tr k135 (by decide)
  rcases hg144 with rfl | ⟨rfl, g136, g137, g138, g139, g140, g141, ⟨x142, c143, rx142, tx142⟩⟩
  · refine lv_if_eq (tgt := 15) hx hb dX12_way_7 (by decide) (fun _ => ?_) (fun c => absurd (by decide) c)
    exact J15  H locs ls w134   hw hT hF  (lv_sub hl [0, 1, 2, 3, 4] rfl)
  · refine lv_if_eq (tgt := 15) hx hb dX12_way_7 (by decide) (fun c => absurd c (by decide)) (fun _ => ?_)
    refine lv_iload hx hb dX12_way_10 (lv_at hl 4 rfl) ?_
    refine lv_if_ge (tgt := 17) hx hb dX12_way_12 (by decide) (fun c145 => ?_) (fun c145 => ?_)
    · have c145 : (0 : Int) ≤ a4.toInt := wk_le.mp c145
      refine lv_aload_n hx hb dX12_way_17 rfl (lv_at hl 0 rfl) ?_
      refine lv_iload_n hx hb dX12_way_18 rfl (lv_at hl 1 rfl) ?_
      refine lv_iload_n hx hb dX12_way_19 rfl (lv_at hl 2 rfl) ?_
      refine lv_iload_n hx hb dX12_way_20 rfl (lv_at hl 3 rfl) ?_
      refine lv_iload_n hx hb dX12_way_21 rfl (lv_at hl 3 rfl) ?_
      refine lv_sipush (v := 2000) hx hb dX12_way_22 (by decide) ?_
      refine lv_iadd hx hb dX12_way_25 ?_
      refine lv_topi (fun x146 ex146 => ?_)
      have ex146 : x146.toInt = a3.toInt + (2000 : Int) := by rw [ex146]; exact wk_add (show (-2147483648) ≤ a3.toInt + (2000 : Int) by omega) (show a3.toInt + (2000 : Int) ≤ 2147483647 by omega)
      refine tk_Vi hC hK hw hT hA hE hSR kM_at0 (by decide) rfl (k_X12_reaches_1 l adK adV dC dI cy ad B (by omega) (by omega) qr s1   a1 (show 0 ≤ a1.toInt by omega) (show a1.toInt ≤ 9 by omega) a2 (show 0 ≤ a2.toInt by omega) (show a2.toInt ≤ 9 by omega) a3 (show 0 ≤ a3.toInt by omega) (show a3.toInt ≤ 99999 by omega) x146 (show 2000 ≤ x146.toInt by omega) (show x146.toInt ≤ 101999 by omega) w134 H.size hT ) (cwV 4 hC.2.2.2.2 gX12_way_X12_reaches rfl rfl rfl (by decide +kernel) ⟨Nat.le_of_ble_eq_true rfl, Nat.le_of_ble_eq_true rfl⟩) rfl hl.1 rfl (Nat.le_of_ble_eq_true rfl) dX12_way_26 (fun r147 w149 H locs hp148 hw => ?_)
      obtain ⟨hT, k150, hg153⟩ := hp148
      have hF := hF.tr k150 (by decide)
      have c154 := k150.gi kM_at12 (by decide) c143
      obtain ⟨g151, g152⟩ := hg153
      refine lv_istore (lv' := [(5, .int r147), (0, .ref (ad 0)), (1, .int a1), (2, .int a2), (3, .int a3), (4, .int a4)]) hx hb dX12_way_29 hl (by decide) rfl (fun ls hl => ?_)
      refine lv_iload hx hb dX12_way_31 (lv_at hl 0 rfl) ?_
      refine lv_ldcw (v := 100000000) hx hb hC.2.2.2.1 (hC.2.2.2.2 _ (List.mem_of_getElem? (i := 1) rfl)) dX12_way_33 ?_
      refine lv_icmp_ne (tgt := 42) hx hb dX12_way_36 (by decide) (fun c155 => ?_) (fun c155 => ?_)
      · have c155 : ¬ r147.toInt = (100000000 : Int) := wk_eqF c155
        refine lv_iload_n hx hb dX12_way_42 rfl (lv_at hl 2 rfl) ?_
        refine lv_istore (lv' := [(6, .int a1), (5, .int r147), (0, .ref (ad 0)), (1, .int a1), (2, .int a2), (3, .int a3), (4, .int a4)]) hx hb dX12_way_43 hl (by decide) rfl (fun ls hl => ?_)
        refine lv_iload_n hx hb dX12_way_45 rfl (lv_at hl 5 rfl) ?_
        refine lv_istore (lv' := [(7, .int a3), (6, .int a1), (5, .int r147), (0, .ref (ad 0)), (1, .int a1), (2, .int a2), (3, .int a3), (4, .int a4)]) hx hb dX12_way_46 hl (by decide) rfl (fun ls hl => ?_)
        refine lv_iconst (v := 0) hx hb dX12_way_48 (by decide) ?_
        refine lv_istore (lv' := [(8, .int 0), (7, .int a3), (6, .int a1), (5, .int r147), (0, .ref (ad 0)), (1, .int a1), (2, .int a2), (3, .int a3), (4, .int a4)]) hx hb dX12_way_49 hl (by decide) rfl (fun ls hl => ?_)
        exact L51 ((2147483647 - (0 : Int)).toNat + 1) r147 a1 a3 0 x142 H locs ls w149 (show 0 ≤ a1.toInt by omega) (show a1.toInt ≤ 9 by omega) (show 0 ≤ a2.toInt by omega) (show a2.toInt ≤ 9 by omega) (show 0 ≤ a3.toInt by omega) (show a3.toInt ≤ 99999 by omega) (show 0 ≤ a4.toInt by omega) (show 0 ≤ r147.toInt by omega) (show r147.toInt ≤ 100000100 by omega) (show 0 ≤ a1.toInt by omega) (show a1.toInt ≤ 12 by omega) (show 0 ≤ a3.toInt by omega) (show a3.toInt ≤ 100000208 by omega) (by decide) (show 1 ≤ x142.toInt by omega) (show x142.toInt ≤ 10 by omega) (show (0 : Int) ≤ a4.toInt + 0 by omega) (Nat.lt_succ_self _) hw hT hF c154 (lv_sub hl [4, 5, 6, 7, 8, 3, 2, 1, 0] rfl)
      · have c155 : r147.toInt = (100000000 : Int) := wk_eq.mp c155
        refine lv_bipush (v := (-2)) hx hb dX12_way_39 (by decide) ?_
        exact tk_iret hC hr hlocks hK ⟨hT, hF, (Or.inl ⟨rfl, (show 0 ≤ a1.toInt by omega), (show a1.toInt ≤ 9 by omega), (show 0 ≤ a2.toInt by omega), (show a2.toInt ≤ 9 by omega), (show 0 ≤ a3.toInt by omega), (show a3.toInt ≤ 99999 by omega), (show 0 ≤ a4.toInt by omega), ⟨x142, c154, (show 1 ≤ x142.toInt by omega), (show x142.toInt ≤ 10 by omega)⟩⟩)⟩ hw dX12_way_41
    · have c145 : a4.toInt < (0 : Int) := wk_leF c145
      exact J15  H locs ls w134   hw hT hF  (lv_sub hl [0, 1, 2, 3, 4] rfl)
abbrev P_X12_walkerOf_2 (ad : Nat → Nat) (cy : Nat → ClassId) (B : Int) (qr : Nat) (s1 : Int) (a1 : Int32) (w0 : va_W) : Int32 → va_W → Prop := fun r u => TW ksM ad cy B qr 12 u ∧ FE ksM ([] : List (Nat × Nat × Nat)) w0 u ∧ ((0 ≤ r.toInt ∧ r.toInt ≤ 1073741824 ∧ gi u 12 (9 * a1.toInt + 220).toNat = r))
set_option maxHeartbeats 4000000 in
set_option maxRecDepth 100000 in
theorem k_X12_walkerOf_2 (l : Launch) (adK adV : Nat → Nat) (dC : Nat → ClassId) (dI : Nat → Nat → Nat) (cy : Nat → ClassId) (ad : Nat → Nat) (B : Int) (hB0 : 100000 ≤ B) (hB1 : B ≤ 1073741824) (qr : Nat) (s1 : Int)  (a1 : Int32) (ra1 : 0 ≤ a1.toInt) (ta1 : a1.toInt ≤ 3) (w0 : va_W) (sz : Nat) (hT : TW ksM ad cy B qr 12 w0)  : Met l yX12_walkerOf wsX12_walkerOf ({ frames := 1, cells := 0, slots := 0, locals := 12 }) (va_Pc [.ref (ad 0), .int a1, .int 4] (wpreS adK adV dC dI cy sz w0)) (va_Qi (P_X12_walkerOf_2 ad cy B qr s1 a1 w0) (fun u : va_W => wpost dC dI cy (va_A w0 sz) u) (va_A w0 sz)) 0 0 (va_A w0 sz) := by
  refine Met.ofW (cc := cX12_walkerOf) (maxL := 3) (ret := (some .int)) (by decide) rfl ?_
  intro p e s m args below meth c s₁ Bk hml hv
  obtain ⟨rfl, ⟨hsz, hP, hK, hD0⟩, hE, hSR⟩ := hv
  have hx := Bk.exec
  have hb := Bk.bytes
  have hr := Bk.returns
  have hlocks := Bk.notSynchronized
  have hC : CallFix p m c cX12_walkerOf 3 s _ wsX12_walkerOf RX12 := ⟨hx, hb, hml, findClass_of_methodNamed Bk.named, atoms_spec (ws := wsX12_walkerOf) Bk.pre⟩
  subst hsz
  have hD := hD0.self (sz := s.heap.size)
  generalize hAe : va_A w0 s.heap.size = A at hD hE ⊢
  have hA : ∀ q : Nat, s.heap.size ≤ q → A q := fun q h => by rw [← hAe]; exact Or.inr h
  have hw : Wd dC dI A s.heap s.heap [] w0 := ⟨hP, hD, va_S.rf⟩
  have hF : FE ksM ([] : List (Nat × Nat × Nat)) w0 w0 := FE.rf
  have hl := lv_entry ([.ref (ad 0), .int a1, .int 4]) (n := 3) (Nat.le_of_ble_eq_true rfl)
  rw [lg_entry_eq]
  generalize (lg_sl ([.ref (ad 0), .int a1, .int 4]) ++ List.replicate (3 - (lg_sl ([.ref (ad 0), .int a1, .int 4])).length) Slot.unset).toArray = ls at hl ⊢
  have hl : lv_has ls 3 [(0, .ref (ad 0)), (1, .int a1), (2, .int 4)] := hl
  generalize hloc : ([] : List Loc) = locs at hw ⊢
  have hinX12 : ∀ w ∈ u_ws RX12 TX12 42, w ∈ wsX12_walkerOf := fun _ h => List.mem_cons_of_mem _ (List.mem_append_right _ (h))
  refine lv_aload_n hx hb dX12_walkerOf_0 rfl (lv_at hl 0 rfl) ?_
  refine tk_getA hC hK hw hT hinX12 kM_at0 (by decide) rfl 26 (by decide) (List.mem_of_getElem? (i := 1) rfl) rfl rfl dX12_walkerOf_1 ?_
  refine lv_sipush (v := 216) hx hb dX12_walkerOf_4 (by decide) ?_
  refine lv_bipush (v := 9) hx hb dX12_walkerOf_7 (by decide) ?_
  refine lv_iload_n hx hb dX12_walkerOf_9 rfl (lv_at hl 1 rfl) ?_
  refine lv_imul hx hb dX12_walkerOf_10 ?_
  refine lv_topi (fun x1 ex1 => ?_)
  have ex1 : x1.toInt = (9 : Int) * a1.toInt := by rw [ex1]; exact wk_mul (show (-2147483648) ≤ (9 : Int) * a1.toInt by omega) (show (9 : Int) * a1.toInt ≤ 2147483647 by omega)
  refine lv_iadd hx hb dX12_walkerOf_11 ?_
  refine lv_topi (fun x2 ex2 => ?_)
  have ex2 : x2.toInt = (216 : Int) + x1.toInt := by rw [ex2]; exact wk_add (show (-2147483648) ≤ (216 : Int) + x1.toInt by omega) (show (216 : Int) + x1.toInt ≤ 2147483647 by omega)
  refine lv_iload_n hx hb dX12_walkerOf_12 rfl (lv_at hl 2 rfl) ?_
  refine lv_iadd hx hb dX12_walkerOf_13 ?_
  refine lv_topi (fun x3 ex3 => ?_)
  have ex3 : x3.toInt = x2.toInt + (4 : Int) := by rw [ex3]; exact wk_add (show (-2147483648) ≤ x2.toInt + (4 : Int) by omega) (show x2.toInt + (4 : Int) ≤ 2147483647 by omega)
  refine tk_ialdR hC hK hw hT kM_at12 rfl (show 0 ≤ x3.toInt by omega) (show x3.toInt < 296 by omega) dX12_walkerOf_14 (fun x4 c5 Ex4 => ?_)
  have c5 : gi w0 12 (9 * a1.toInt + 220).toNat = x4 := (congrArg (gi w0 12) (congrArg Int.toNat (show 9 * a1.toInt + 220 = x3.toInt by omega))).trans c5
  have bx4 := (tk_rgB rfl 220 9 4 (by decide +kernel) ⟨(a1.toInt - 0).toNat, by omega, show x3.toInt.toNat = 220 + 9 * (a1.toInt - 0).toNat by omega⟩).mp Ex4
  exact tk_iret hC hr hlocks hK ⟨hT, hF, ⟨(show 0 ≤ x4.toInt by omega), (show x4.toInt ≤ 1073741824 by omega), c5⟩⟩ hw dX12_walkerOf_15
abbrev P_X12_walkerOf_3 (ad : Nat → Nat) (cy : Nat → ClassId) (B : Int) (qr : Nat) (s1 : Int) (a1 : Int32) (w0 : va_W) : Int32 → va_W → Prop := fun r u => TW ksM ad cy B qr 12 u ∧ FE ksM ([] : List (Nat × Nat × Nat)) w0 u ∧ ((0 ≤ r.toInt ∧ r.toInt ≤ 9 ∧ gi u 12 (9 * a1.toInt + 217).toNat = r))
set_option maxHeartbeats 4000000 in
set_option maxRecDepth 100000 in
theorem k_X12_walkerOf_3 (l : Launch) (adK adV : Nat → Nat) (dC : Nat → ClassId) (dI : Nat → Nat → Nat) (cy : Nat → ClassId) (ad : Nat → Nat) (B : Int) (hB0 : 100000 ≤ B) (hB1 : B ≤ 1073741824) (qr : Nat) (s1 : Int)  (a1 : Int32) (ra1 : 0 ≤ a1.toInt) (ta1 : a1.toInt ≤ 3) (w0 : va_W) (sz : Nat) (hT : TW ksM ad cy B qr 12 w0)  : Met l yX12_walkerOf wsX12_walkerOf ({ frames := 1, cells := 0, slots := 0, locals := 12 }) (va_Pc [.ref (ad 0), .int a1, .int 1] (wpreS adK adV dC dI cy sz w0)) (va_Qi (P_X12_walkerOf_3 ad cy B qr s1 a1 w0) (fun u : va_W => wpost dC dI cy (va_A w0 sz) u) (va_A w0 sz)) 0 0 (va_A w0 sz) := by
  refine Met.ofW (cc := cX12_walkerOf) (maxL := 3) (ret := (some .int)) (by decide) rfl ?_
  intro p e s m args below meth c s₁ Bk hml hv
  obtain ⟨rfl, ⟨hsz, hP, hK, hD0⟩, hE, hSR⟩ := hv
  have hx := Bk.exec
  have hb := Bk.bytes
  have hr := Bk.returns
  have hlocks := Bk.notSynchronized
  have hC : CallFix p m c cX12_walkerOf 3 s _ wsX12_walkerOf RX12 := ⟨hx, hb, hml, findClass_of_methodNamed Bk.named, atoms_spec (ws := wsX12_walkerOf) Bk.pre⟩
  subst hsz
  have hD := hD0.self (sz := s.heap.size)
  generalize hAe : va_A w0 s.heap.size = A at hD hE ⊢
  have hA : ∀ q : Nat, s.heap.size ≤ q → A q := fun q h => by rw [← hAe]; exact Or.inr h
  have hw : Wd dC dI A s.heap s.heap [] w0 := ⟨hP, hD, va_S.rf⟩
  have hF : FE ksM ([] : List (Nat × Nat × Nat)) w0 w0 := FE.rf
  have hl := lv_entry ([.ref (ad 0), .int a1, .int 1]) (n := 3) (Nat.le_of_ble_eq_true rfl)
  rw [lg_entry_eq]
  generalize (lg_sl ([.ref (ad 0), .int a1, .int 1]) ++ List.replicate (3 - (lg_sl ([.ref (ad 0), .int a1, .int 1])).length) Slot.unset).toArray = ls at hl ⊢
  have hl : lv_has ls 3 [(0, .ref (ad 0)), (1, .int a1), (2, .int 1)] := hl
  generalize hloc : ([] : List Loc) = locs at hw ⊢
  have hinX12 : ∀ w ∈ u_ws RX12 TX12 42, w ∈ wsX12_walkerOf := fun _ h => List.mem_cons_of_mem _ (List.mem_append_right _ (h))
  refine lv_aload_n hx hb dX12_walkerOf_0 rfl (lv_at hl 0 rfl) ?_
  refine tk_getA hC hK hw hT hinX12 kM_at0 (by decide) rfl 26 (by decide) (List.mem_of_getElem? (i := 1) rfl) rfl rfl dX12_walkerOf_1 ?_
  refine lv_sipush (v := 216) hx hb dX12_walkerOf_4 (by decide) ?_
  refine lv_bipush (v := 9) hx hb dX12_walkerOf_7 (by decide) ?_
  refine lv_iload_n hx hb dX12_walkerOf_9 rfl (lv_at hl 1 rfl) ?_
  refine lv_imul hx hb dX12_walkerOf_10 ?_
  refine lv_topi (fun x1 ex1 => ?_)
  have ex1 : x1.toInt = (9 : Int) * a1.toInt := by rw [ex1]; exact wk_mul (show (-2147483648) ≤ (9 : Int) * a1.toInt by omega) (show (9 : Int) * a1.toInt ≤ 2147483647 by omega)
  refine lv_iadd hx hb dX12_walkerOf_11 ?_
  refine lv_topi (fun x2 ex2 => ?_)
  have ex2 : x2.toInt = (216 : Int) + x1.toInt := by rw [ex2]; exact wk_add (show (-2147483648) ≤ (216 : Int) + x1.toInt by omega) (show (216 : Int) + x1.toInt ≤ 2147483647 by omega)
  refine lv_iload_n hx hb dX12_walkerOf_12 rfl (lv_at hl 2 rfl) ?_
  refine lv_iadd hx hb dX12_walkerOf_13 ?_
  refine lv_topi (fun x3 ex3 => ?_)
  have ex3 : x3.toInt = x2.toInt + (1 : Int) := by rw [ex3]; exact wk_add (show (-2147483648) ≤ x2.toInt + (1 : Int) by omega) (show x2.toInt + (1 : Int) ≤ 2147483647 by omega)
  refine tk_ialdR hC hK hw hT kM_at12 rfl (show 0 ≤ x3.toInt by omega) (show x3.toInt < 296 by omega) dX12_walkerOf_14 (fun x4 c5 Ex4 => ?_)
  have c5 : gi w0 12 (9 * a1.toInt + 217).toNat = x4 := (congrArg (gi w0 12) (congrArg Int.toNat (show 9 * a1.toInt + 217 = x3.toInt by omega))).trans c5
  have bx4 := tk_rgI rfl 217 9 4 0 9 (by decide +kernel) ⟨(a1.toInt - 0).toNat, by omega, show x3.toInt.toNat = 217 + 9 * (a1.toInt - 0).toNat by omega⟩ Ex4
  exact tk_iret hC hr hlocks hK ⟨hT, hF, ⟨(show 0 ≤ x4.toInt by omega), (show x4.toInt ≤ 9 by omega), c5⟩⟩ hw dX12_walkerOf_15
abbrev P_X12_isDayFor_4 (ad : Nat → Nat) (cy : Nat → ClassId) (B : Int) (qr : Nat) (s1 : Int) (a1 : Int32) (a2 : Int32) (a3 : Int32) (w0 : va_W) : Int32 → va_W → Prop := fun r u => TW ksM ad cy B qr 12 u ∧ FE ksM ([] : List (Nat × Nat × Nat)) w0 u ∧ ((r = 0) ∨ (r = 0 ∧ gi u 12 (10 * a1.toInt + 10).toNat = a2) ∨ (r = 1) ∨ (r = 1 ∧ gi u 12 (10 * a1.toInt + 10).toNat = a2))
set_option maxHeartbeats 4000000 in
set_option maxRecDepth 100000 in
theorem k_X12_isDayFor_4 (l : Launch) (adK adV : Nat → Nat) (dC : Nat → ClassId) (dI : Nat → Nat → Nat) (cy : Nat → ClassId) (ad : Nat → Nat) (B : Int) (hB0 : 100000 ≤ B) (hB1 : B ≤ 1073741824) (qr : Nat) (s1 : Int)  (a1 : Int32) (ra1 : 0 ≤ a1.toInt) (ta1 : a1.toInt ≤ 11) (a2 : Int32) (ra2 : 0 ≤ a2.toInt) (ta2 : a2.toInt ≤ 9) (a3 : Int32) (ra3 : 0 ≤ a3.toInt) (ta3 : a3.toInt ≤ 44739247) (w0 : va_W) (sz : Nat) (hT : TW ksM ad cy B qr 12 w0)  : Met l yX12_isDayFor wsX12_isDayFor ({ frames := 3, cells := 0, slots := 0, locals := 57 }) (va_Pc [.ref (ad 0), .int a1, .int a2, .int a3] (wpreS adK adV dC dI cy sz w0)) (va_Qi (P_X12_isDayFor_4 ad cy B qr s1 a1 a2 a3 w0) (fun u : va_W => wpost dC dI cy (va_A w0 sz) u) (va_A w0 sz)) 0 0 (va_A w0 sz) := by
  refine Met.ofW (cc := cX12_isDayFor) (maxL := 4) (ret := (some .boolean)) (by decide) rfl ?_
  intro p e s m args below meth c s₁ Bk hml hv
  obtain ⟨rfl, ⟨hsz, hP, hK, hD0⟩, hE, hSR⟩ := hv
  have hx := Bk.exec
  have hb := Bk.bytes
  have hr := Bk.returns
  have hlocks := Bk.notSynchronized
  have hC : CallFix p m c cX12_isDayFor 4 s _ wsX12_isDayFor RX12 := ⟨hx, hb, hml, findClass_of_methodNamed Bk.named, atoms_spec (ws := wsX12_isDayFor) Bk.pre⟩
  subst hsz
  have hD := hD0.self (sz := s.heap.size)
  generalize hAe : va_A w0 s.heap.size = A at hD hE ⊢
  have hA : ∀ q : Nat, s.heap.size ≤ q → A q := fun q h => by rw [← hAe]; exact Or.inr h
  have hw : Wd dC dI A s.heap s.heap [] w0 := ⟨hP, hD, va_S.rf⟩
  have hF : FE ksM ([] : List (Nat × Nat × Nat)) w0 w0 := FE.rf
  have hl := lv_entry ([.ref (ad 0), .int a1, .int a2, .int a3]) (n := 4) (Nat.le_of_ble_eq_true rfl)
  rw [lg_entry_eq]
  generalize (lg_sl ([.ref (ad 0), .int a1, .int a2, .int a3]) ++ List.replicate (4 - (lg_sl ([.ref (ad 0), .int a1, .int a2, .int a3])).length) Slot.unset).toArray = ls at hl ⊢
  have hl : lv_has ls 4 [(0, .ref (ad 0)), (1, .int a1), (2, .int a2), (3, .int a3)] := hl
  generalize hloc : ([] : List Loc) = locs at hw ⊢
  have J62 : ∀ (f62_12__10_a1_toInt_10_toNat : Int32) (f62_12_2 : Int32) (H : Heap) (locs : List Loc) (ls : Array Slot) (w1 : va_W), 0 ≤ a1.toInt → a1.toInt ≤ 11 → 0 ≤ a2.toInt → a2.toInt ≤ 9 → 0 ≤ a3.toInt → a3.toInt ≤ 44739247 → 0 ≤ f62_12__10_a1_toInt_10_toNat.toInt → f62_12__10_a1_toInt_10_toNat.toInt ≤ 9 → 1 ≤ f62_12_2.toInt → f62_12_2.toInt ≤ 8 → Wd dC dI A s.heap H locs w1 → TW ksM ad cy B qr 12 w1 → FE ksM ([] : List (Nat × Nat × Nat)) w0 w1 → gi w1 0 27 = 1 → gi w1 12 (10 * a1.toInt + 10).toNat = f62_12__10_a1_toInt_10_toNat → gi w1 12 2 = f62_12_2 → lv_has ls 4 [(0, .ref (ad 0)), (1, .int a1), (2, .int a2), (3, .int a3)] → W p l e ({ frames := 3, cells := 0, slots := 0, locals := 57 }) s m (List.toArray [.ref (ad 0), .int a1, .int a2, .int a3]) below meth c H locs 0 0 (MQ below (va_Qi (P_X12_isDayFor_4 ad cy B qr s1 a1 a2 a3 w0) (fun u : va_W => wpost dC dI cy A u) A) (List.toArray [.ref (ad 0), .int a1, .int a2, .int a3]) s 0 0 A) (F0 m 62 ls []) := by
    intro f62_12__10_a1_toInt_10_toNat f62_12_2 H locs ls w1 r2 t3 r4 t5 r6 t7 r9 t10 r12 t13 hw hT hF c8 c11 c14 hl
    refine lv_iconst (v := 0) hx hb dX12_isDayFor_62 (by decide) ?_
    exact tk_zret hC hr rfl hlocks hK ⟨hT, hF, (Or.inl rfl)⟩ hw dX12_isDayFor_63
  refine lv_aload_n hx hb dX12_isDayFor_0 rfl (lv_at hl 0 rfl) ?_
  refine lv_aload_n hx hb dX12_isDayFor_1 rfl (lv_at hl 0 rfl) ?_
  refine lv_iload_n hx hb dX12_isDayFor_2 rfl (lv_at hl 1 rfl) ?_
  refine lv_iconst (v := 3) hx hb dX12_isDayFor_3 (by decide) ?_
  refine lv_iload_n hx hb dX12_isDayFor_4 rfl (lv_at hl 3 rfl) ?_
  refine lv_bipush (v := 7) hx hb dX12_isDayFor_5 (by decide) ?_
  refine lv_irem hx hb dX12_isDayFor_7 (by decide) ?_
  refine lv_topi (fun x15 ex15 => ?_)
  have ex15 : x15.toInt = a3.toInt % (7 : Int) := by rw [ex15]; exact wk_rem (show 0 ≤ a3.toInt by omega) (show 0 < (7 : Int) by decide)
  refine lv_iadd hx hb dX12_isDayFor_8 ?_
  refine lv_topi (fun x16 ex16 => ?_)
  have ex16 : x16.toInt = (3 : Int) + x15.toInt := by rw [ex16]; exact wk_add (show (-2147483648) ≤ (3 : Int) + x15.toInt by omega) (show (3 : Int) + x15.toInt ≤ 2147483647 by omega)
  refine tk_Vi hC hK hw hT hA hE hSR kM_at0 (by decide) rfl (k_X12_streetOf_4 l adK adV dC dI cy ad B (by omega) (by omega) qr s1   a1 (show 0 ≤ a1.toInt by omega) (show a1.toInt ≤ 11 by omega) x16 (show 3 ≤ x16.toInt by omega) (show x16.toInt ≤ 9 by omega) w0 s.heap.size hT ) (cwV 2 hC.2.2.2.2 gX12_isDayFor_X12_streetOf rfl rfl rfl (by decide +kernel) ⟨Nat.le_of_ble_eq_true rfl, Nat.le_of_ble_eq_true rfl⟩) rfl hl.1 rfl (Nat.le_of_ble_eq_true rfl) dX12_isDayFor_9 (fun r17 w19 H locs hp18 hw => ?_)
  obtain ⟨hT, k20, hg23⟩ := hp18
  have hF := hF.tr k20 (by decide)
  obtain ⟨g21, g22⟩ := hg23
  refine lv_iload_n hx hb dX12_isDayFor_12 rfl (lv_at hl 1 rfl) ?_
  refine lv_iload_n hx hb dX12_isDayFor_13 rfl (lv_at hl 2 rfl) ?_
  refine tk_Vi hC hK hw hT hA hE hSR kM_at0 (by decide) rfl (k_X12_hasSign_1 l adK adV dC dI cy ad B (by omega) (by omega) qr s1   r17 (show 0 ≤ r17.toInt by omega) (show r17.toInt ≤ 9 by omega) a1 (show 0 ≤ a1.toInt by omega) (show a1.toInt ≤ 11 by omega) a2 (show 0 ≤ a2.toInt by omega) (show a2.toInt ≤ 9 by omega) w19 H.size hT ) (cwV 3 hC.2.2.2.2 gX12_isDayFor_X12_hasSign rfl rfl rfl (by decide +kernel) ⟨Nat.le_of_ble_eq_true rfl, Nat.le_of_ble_eq_true rfl⟩) rfl hl.1 rfl (Nat.le_of_ble_eq_true rfl) dX12_isDayFor_14 (fun r24 w26 H locs hp25 hw => ?_)
  obtain ⟨hT, k27, hg30⟩ := hp25
  have hF := hF.tr k27 (by decide)
  rcases hg30 with rfl | ⟨rfl, c28⟩ | rfl | ⟨rfl, c29⟩
  · refine lv_if_ne (tgt := 22) hx hb dX12_isDayFor_17 (by decide) (fun c => absurd (by decide) c) (fun _ => ?_)
    refine lv_iconst (v := 0) hx hb dX12_isDayFor_20 (by decide) ?_
    exact tk_zret hC hr rfl hlocks hK ⟨hT, hF, (Or.inl rfl)⟩ hw dX12_isDayFor_21
  · refine lv_if_ne (tgt := 22) hx hb dX12_isDayFor_17 (by decide) (fun c => absurd (by decide) c) (fun _ => ?_)
    refine lv_iconst (v := 0) hx hb dX12_isDayFor_20 (by decide) ?_
    exact tk_zret hC hr rfl hlocks hK ⟨hT, hF, (Or.inr (Or.inl ⟨rfl, c28⟩))⟩ hw dX12_isDayFor_21
  · refine lv_if_ne (tgt := 22) hx hb dX12_isDayFor_17 (by decide) (fun _ => ?_) (fun c => absurd c (by decide))
    refine lv_aload_n hx hb dX12_isDayFor_22 rfl (lv_at hl 0 rfl) ?_
    refine lv_aload_n hx hb dX12_isDayFor_23 rfl (lv_at hl 0 rfl) ?_
    refine lv_iload_n hx hb dX12_isDayFor_24 rfl (lv_at hl 1 rfl) ?_
    refine lv_iconst (v := 0) hx hb dX12_isDayFor_25 (by decide) ?_
    refine tk_Vi hC hK hw hT hA hE hSR kM_at0 (by decide) rfl (k_X12_streetOf_2 l adK adV dC dI cy ad B (by omega) (by omega) qr s1   a1 (show 0 ≤ a1.toInt by omega) (show a1.toInt ≤ 11 by omega) w26 H.size hT ) (cwV 2 hC.2.2.2.2 gX12_isDayFor_X12_streetOf rfl rfl rfl (by decide +kernel) ⟨Nat.le_of_ble_eq_true rfl, Nat.le_of_ble_eq_true rfl⟩) rfl hl.1 rfl (Nat.le_of_ble_eq_true rfl) dX12_isDayFor_26 (fun r31 w33 H locs hp32 hw => ?_)
    obtain ⟨hT, k34, hg38⟩ := hp32
    have hF := hF.tr k34 (by decide)
    obtain ⟨g35, g36, c37⟩ := hg38
    refine lv_iload_n hx hb dX12_isDayFor_29 rfl (lv_at hl 3 rfl) ?_
    refine lv_sipush (v := 360) hx hb dX12_isDayFor_30 (by decide) ?_
    refine lv_irem hx hb dX12_isDayFor_33 (by decide) ?_
    refine lv_topi (fun x39 ex39 => ?_)
    have ex39 : x39.toInt = a3.toInt % (360 : Int) := by rw [ex39]; exact wk_rem (show 0 ≤ a3.toInt by omega) (show 0 < (360 : Int) by decide)
    refine tk_Vi hC hK hw hT hA hE hSR kM_at0 (by decide) rfl (k_X12_isClosed_1 l adK adV dC dI cy ad B (by omega) (by omega) qr s1   r31 (show 0 ≤ r31.toInt by omega) (show r31.toInt ≤ 9 by omega) x39 (show 0 ≤ x39.toInt by omega) (show x39.toInt ≤ 359 by omega) w33 H.size hT ) (cwV 2 hC.2.2.2.2 gX12_isDayFor_X12_isClosed rfl rfl rfl (by decide +kernel) ⟨Nat.le_of_ble_eq_true rfl, Nat.le_of_ble_eq_true rfl⟩) rfl hl.1 rfl (Nat.le_of_ble_eq_true rfl) dX12_isDayFor_34 (fun r40 w42 H locs hp41 hw => ?_)
    obtain ⟨hT, k43, hg48⟩ := hp41
    have hF := hF.tr k43 (by decide)
    have c49 := k43.gi kM_at12 rfl c37
    rcases hg48 with rfl | ⟨rfl, ⟨x44, c45, rx44, tx44⟩, ⟨x46, c47, rx46, tx46⟩⟩
    · refine lv_if_ne (tgt := 62) hx hb dX12_isDayFor_37 (by decide) (fun c => absurd (by decide) c) (fun _ => ?_)
      refine lv_aload_n hx hb dX12_isDayFor_40 rfl (lv_at hl 0 rfl) ?_
      refine lv_aload_n hx hb dX12_isDayFor_41 rfl (lv_at hl 0 rfl) ?_
      refine lv_iload_n hx hb dX12_isDayFor_42 rfl (lv_at hl 1 rfl) ?_
      refine lv_iconst (v := 1) hx hb dX12_isDayFor_43 (by decide) ?_
      refine tk_Vi hC hK hw hT hA hE hSR kM_at0 (by decide) rfl (k_X12_streetOf_3 l adK adV dC dI cy ad B (by omega) (by omega) qr s1   a1 (show 0 ≤ a1.toInt by omega) (show a1.toInt ≤ 11 by omega) w42 H.size hT ) (cwV 2 hC.2.2.2.2 gX12_isDayFor_X12_streetOf rfl rfl rfl (by decide +kernel) ⟨Nat.le_of_ble_eq_true rfl, Nat.le_of_ble_eq_true rfl⟩) rfl hl.1 rfl (Nat.le_of_ble_eq_true rfl) dX12_isDayFor_44 (fun r50 w52 H locs hp51 hw => ?_)
      obtain ⟨hT, k53, hg57⟩ := hp51
      have hF := hF.tr k53 (by decide)
      have c58 := k53.gi kM_at12 rfl c49
      obtain ⟨g54, g55, c56⟩ := hg57
      refine lv_iload_n hx hb dX12_isDayFor_47 rfl (lv_at hl 3 rfl) ?_
      refine lv_sipush (v := 360) hx hb dX12_isDayFor_48 (by decide) ?_
      refine lv_irem hx hb dX12_isDayFor_51 (by decide) ?_
      refine lv_topi (fun x59 ex59 => ?_)
      have ex59 : x59.toInt = a3.toInt % (360 : Int) := by rw [ex59]; exact wk_rem (show 0 ≤ a3.toInt by omega) (show 0 < (360 : Int) by decide)
      refine tk_Vi hC hK hw hT hA hE hSR kM_at0 (by decide) rfl (k_X12_isClosed_1 l adK adV dC dI cy ad B (by omega) (by omega) qr s1   r50 (show 0 ≤ r50.toInt by omega) (show r50.toInt ≤ 9 by omega) x59 (show 0 ≤ x59.toInt by omega) (show x59.toInt ≤ 359 by omega) w52 H.size hT ) (cwV 2 hC.2.2.2.2 gX12_isDayFor_X12_isClosed rfl rfl rfl (by decide +kernel) ⟨Nat.le_of_ble_eq_true rfl, Nat.le_of_ble_eq_true rfl⟩) rfl hl.1 rfl (Nat.le_of_ble_eq_true rfl) dX12_isDayFor_52 (fun r60 w62 H locs hp61 hw => ?_)
      obtain ⟨hT, k63, hg68⟩ := hp61
      have hF := hF.tr k63 (by decide)
      have c69 := k63.gi kM_at12 rfl c58
      have c70 := k63.gi kM_at12 rfl c56
      rcases hg68 with rfl | ⟨rfl, ⟨x64, c65, rx64, tx64⟩, ⟨x66, c67, rx66, tx66⟩⟩
      · refine lv_if_ne (tgt := 62) hx hb dX12_isDayFor_55 (by decide) (fun c => absurd (by decide) c) (fun _ => ?_)
        refine lv_iconst (v := 1) hx hb dX12_isDayFor_58 (by decide) ?_
        refine lv_goto (tgt := 63) hx hb dX12_isDayFor_59 (by decide) ?_
        exact tk_zret hC hr rfl hlocks hK ⟨hT, hF, (Or.inr (Or.inr (Or.inl rfl)))⟩ hw dX12_isDayFor_63
      · refine lv_if_ne (tgt := 62) hx hb dX12_isDayFor_55 (by decide) (fun _ => ?_) (fun c => absurd c (by decide))
        obtain rfl : x64 = 1 := wk_eq.mpr (show x64.toInt = 1 by omega)
        exact J62 r31 x66 H locs ls w62 (show 0 ≤ a1.toInt by omega) (show a1.toInt ≤ 11 by omega) (show 0 ≤ a2.toInt by omega) (show a2.toInt ≤ 9 by omega) (show 0 ≤ a3.toInt by omega) (show a3.toInt ≤ 44739247 by omega) (show 0 ≤ r31.toInt by omega) (show r31.toInt ≤ 9 by omega) (show 1 ≤ x66.toInt by omega) (show x66.toInt ≤ 8 by omega)  hw hT hF c65 c69 c67 (lv_sub hl [0, 1, 2, 3] rfl)
    · refine lv_if_ne (tgt := 62) hx hb dX12_isDayFor_37 (by decide) (fun _ => ?_) (fun c => absurd c (by decide))
      obtain rfl : x44 = 1 := wk_eq.mpr (show x44.toInt = 1 by omega)
      exact J62 r31 x46 H locs ls w42 (show 0 ≤ a1.toInt by omega) (show a1.toInt ≤ 11 by omega) (show 0 ≤ a2.toInt by omega) (show a2.toInt ≤ 9 by omega) (show 0 ≤ a3.toInt by omega) (show a3.toInt ≤ 44739247 by omega) (show 0 ≤ r31.toInt by omega) (show r31.toInt ≤ 9 by omega) (show 1 ≤ x46.toInt by omega) (show x46.toInt ≤ 8 by omega)  hw hT hF c45 c49 c47 (lv_sub hl [0, 1, 2, 3] rfl)
  · refine lv_if_ne (tgt := 22) hx hb dX12_isDayFor_17 (by decide) (fun _ => ?_) (fun c => absurd c (by decide))
    refine lv_aload_n hx hb dX12_isDayFor_22 rfl (lv_at hl 0 rfl) ?_
    refine lv_aload_n hx hb dX12_isDayFor_23 rfl (lv_at hl 0 rfl) ?_
    refine lv_iload_n hx hb dX12_isDayFor_24 rfl (lv_at hl 1 rfl) ?_
    refine lv_iconst (v := 0) hx hb dX12_isDayFor_25 (by decide) ?_
    refine tk_Vi hC hK hw hT hA hE hSR kM_at0 (by decide) rfl (k_X12_streetOf_2 l adK adV dC dI cy ad B (by omega) (by omega) qr s1   a1 (show 0 ≤ a1.toInt by omega) (show a1.toInt ≤ 11 by omega) w26 H.size hT ) (cwV 2 hC.2.2.2.2 gX12_isDayFor_X12_streetOf rfl rfl rfl (by decide +kernel) ⟨Nat.le_of_ble_eq_true rfl, Nat.le_of_ble_eq_true rfl⟩) rfl hl.1 rfl (Nat.le_of_ble_eq_true rfl) dX12_isDayFor_26 (fun r71 w73 H locs hp72 hw => ?_)
    obtain ⟨hT, k74, hg78⟩ := hp72
    have hF := hF.tr k74 (by decide)
    have c79 := k74.gi kM_at12 rfl c29
    obtain ⟨g75, g76, c77⟩ := hg78
    obtain rfl : r71 = a2 := c77.symm.trans c79
    refine lv_iload_n hx hb dX12_isDayFor_29 rfl (lv_at hl 3 rfl) ?_
    refine lv_sipush (v := 360) hx hb dX12_isDayFor_30 (by decide) ?_
    refine lv_irem hx hb dX12_isDayFor_33 (by decide) ?_
    refine lv_topi (fun x80 ex80 => ?_)
    have ex80 : x80.toInt = a3.toInt % (360 : Int) := by rw [ex80]; exact wk_rem (show 0 ≤ a3.toInt by omega) (show 0 < (360 : Int) by decide)
    refine tk_Vi hC hK hw hT hA hE hSR kM_at0 (by decide) rfl (k_X12_isClosed_1 l adK adV dC dI cy ad B (by omega) (by omega) qr s1   a2 (show 0 ≤ a2.toInt by omega) (show a2.toInt ≤ 9 by omega) x80 (show 0 ≤ x80.toInt by omega) (show x80.toInt ≤ 359 by omega) w73 H.size hT ) (cwV 2 hC.2.2.2.2 gX12_isDayFor_X12_isClosed rfl rfl rfl (by decide +kernel) ⟨Nat.le_of_ble_eq_true rfl, Nat.le_of_ble_eq_true rfl⟩) rfl hl.1 rfl (Nat.le_of_ble_eq_true rfl) dX12_isDayFor_34 (fun r81 w83 H locs hp82 hw => ?_)
    obtain ⟨hT, k84, hg89⟩ := hp82
    have hF := hF.tr k84 (by decide)
    have c90 := k84.gi kM_at12 rfl c79
    rcases hg89 with rfl | ⟨rfl, ⟨x85, c86, rx85, tx85⟩, ⟨x87, c88, rx87, tx87⟩⟩
    · refine lv_if_ne (tgt := 62) hx hb dX12_isDayFor_37 (by decide) (fun c => absurd (by decide) c) (fun _ => ?_)
      refine lv_aload_n hx hb dX12_isDayFor_40 rfl (lv_at hl 0 rfl) ?_
      refine lv_aload_n hx hb dX12_isDayFor_41 rfl (lv_at hl 0 rfl) ?_
      refine lv_iload_n hx hb dX12_isDayFor_42 rfl (lv_at hl 1 rfl) ?_
      refine lv_iconst (v := 1) hx hb dX12_isDayFor_43 (by decide) ?_
      refine tk_Vi hC hK hw hT hA hE hSR kM_at0 (by decide) rfl (k_X12_streetOf_3 l adK adV dC dI cy ad B (by omega) (by omega) qr s1   a1 (show 0 ≤ a1.toInt by omega) (show a1.toInt ≤ 11 by omega) w83 H.size hT ) (cwV 2 hC.2.2.2.2 gX12_isDayFor_X12_streetOf rfl rfl rfl (by decide +kernel) ⟨Nat.le_of_ble_eq_true rfl, Nat.le_of_ble_eq_true rfl⟩) rfl hl.1 rfl (Nat.le_of_ble_eq_true rfl) dX12_isDayFor_44 (fun r91 w93 H locs hp92 hw => ?_)
      obtain ⟨hT, k94, hg98⟩ := hp92
      have hF := hF.tr k94 (by decide)
      have c99 := k94.gi kM_at12 rfl c90
      obtain ⟨g95, g96, c97⟩ := hg98
      refine lv_iload_n hx hb dX12_isDayFor_47 rfl (lv_at hl 3 rfl) ?_
      refine lv_sipush (v := 360) hx hb dX12_isDayFor_48 (by decide) ?_
      refine lv_irem hx hb dX12_isDayFor_51 (by decide) ?_
      refine lv_topi (fun x100 ex100 => ?_)
      have ex100 : x100.toInt = a3.toInt % (360 : Int) := by rw [ex100]; exact wk_rem (show 0 ≤ a3.toInt by omega) (show 0 < (360 : Int) by decide)
      refine tk_Vi hC hK hw hT hA hE hSR kM_at0 (by decide) rfl (k_X12_isClosed_1 l adK adV dC dI cy ad B (by omega) (by omega) qr s1   r91 (show 0 ≤ r91.toInt by omega) (show r91.toInt ≤ 9 by omega) x100 (show 0 ≤ x100.toInt by omega) (show x100.toInt ≤ 359 by omega) w93 H.size hT ) (cwV 2 hC.2.2.2.2 gX12_isDayFor_X12_isClosed rfl rfl rfl (by decide +kernel) ⟨Nat.le_of_ble_eq_true rfl, Nat.le_of_ble_eq_true rfl⟩) rfl hl.1 rfl (Nat.le_of_ble_eq_true rfl) dX12_isDayFor_52 (fun r101 w103 H locs hp102 hw => ?_)
      obtain ⟨hT, k104, hg109⟩ := hp102
      have hF := hF.tr k104 (by decide)
      have c110 := k104.gi kM_at12 rfl c99
      have c111 := k104.gi kM_at12 rfl c97
      rcases hg109 with rfl | ⟨rfl, ⟨x105, c106, rx105, tx105⟩, ⟨x107, c108, rx107, tx107⟩⟩
      · refine lv_if_ne (tgt := 62) hx hb dX12_isDayFor_55 (by decide) (fun c => absurd (by decide) c) (fun _ => ?_)
        refine lv_iconst (v := 1) hx hb dX12_isDayFor_58 (by decide) ?_
        refine lv_goto (tgt := 63) hx hb dX12_isDayFor_59 (by decide) ?_
        exact tk_zret hC hr rfl hlocks hK ⟨hT, hF, (Or.inr (Or.inr (Or.inr ⟨rfl, c110⟩)))⟩ hw dX12_isDayFor_63
      · refine lv_if_ne (tgt := 62) hx hb dX12_isDayFor_55 (by decide) (fun _ => ?_) (fun c => absurd c (by decide))
        obtain rfl : x105 = 1 := wk_eq.mpr (show x105.toInt = 1 by omega)
        exact J62 a2 x107 H locs ls w103 (show 0 ≤ a1.toInt by omega) (show a1.toInt ≤ 11 by omega) (show 0 ≤ a2.toInt by omega) (show a2.toInt ≤ 9 by omega) (show 0 ≤ a3.toInt by omega) (show a3.toInt ≤ 44739247 by omega) (show 0 ≤ a2.toInt by omega) (show a2.toInt ≤ 9 by omega) (show 1 ≤ x107.toInt by omega) (show x107.toInt ≤ 8 by omega)  hw hT hF c106 c110 c108 (lv_sub hl [0, 1, 2, 3] rfl)
    · refine lv_if_ne (tgt := 62) hx hb dX12_isDayFor_37 (by decide) (fun _ => ?_) (fun c => absurd c (by decide))
      obtain rfl : x85 = 1 := wk_eq.mpr (show x85.toInt = 1 by omega)
      exact J62 a2 x87 H locs ls w83 (show 0 ≤ a1.toInt by omega) (show a1.toInt ≤ 11 by omega) (show 0 ≤ a2.toInt by omega) (show a2.toInt ≤ 9 by omega) (show 0 ≤ a3.toInt by omega) (show a3.toInt ≤ 44739247 by omega) (show 0 ≤ a2.toInt by omega) (show a2.toInt ≤ 9 by omega) (show 1 ≤ x87.toInt by omega) (show x87.toInt ≤ 8 by omega)  hw hT hF c86 c90 c88 (lv_sub hl [0, 1, 2, 3] rfl)
abbrev P_X12_isLifted_4 (ad : Nat → Nat) (cy : Nat → ClassId) (B : Int) (qr : Nat) (s1 : Int) (a1 : Int32) (a2 : Int32) (w0 : va_W) : Int32 → va_W → Prop := fun r u => TW ksM ad cy B qr 12 u ∧ FE ksM ([] : List (Nat × Nat × Nat)) w0 u ∧ ((r = 0) ∨ (r = 1 ∧ (∃ y : Int32, gi u 12 3 = y ∧ 1 ≤ y.toInt ∧ y.toInt ≤ 4)))
set_option maxHeartbeats 4000000 in
set_option maxRecDepth 100000 in
theorem k_X12_isLifted_4 (l : Launch) (adK adV : Nat → Nat) (dC : Nat → ClassId) (dI : Nat → Nat → Nat) (cy : Nat → ClassId) (ad : Nat → Nat) (B : Int) (hB0 : 100000 ≤ B) (hB1 : B ≤ 1073741824) (qr : Nat) (s1 : Int)  (a1 : Int32) (ra1 : 0 ≤ a1.toInt) (ta1 : a1.toInt ≤ 11) (a2 : Int32) (ra2 : 0 ≤ a2.toInt) (ta2 : a2.toInt ≤ 1073741944) (w0 : va_W) (sz : Nat) (hT : TW ksM ad cy B qr 12 w0)  : Met l yX12_isLifted wsX12_isLifted ({ frames := 1, cells := 0, slots := 0, locals := 12 }) (va_Pc [.ref (ad 0), .int a1, .int a2] (wpreS adK adV dC dI cy sz w0)) (va_Qi (P_X12_isLifted_4 ad cy B qr s1 a1 a2 w0) (fun u : va_W => wpost dC dI cy (va_A w0 sz) u) (va_A w0 sz)) 0 0 (va_A w0 sz) := by
  refine Met.ofW (cc := cX12_isLifted) (maxL := 5) (ret := (some .boolean)) (by decide) rfl ?_
  intro p e s m args below meth c s₁ Bk hml hv
  obtain ⟨rfl, ⟨hsz, hP, hK, hD0⟩, hE, hSR⟩ := hv
  have hx := Bk.exec
  have hb := Bk.bytes
  have hr := Bk.returns
  have hlocks := Bk.notSynchronized
  have hC : CallFix p m c cX12_isLifted 5 s _ wsX12_isLifted RX12 := ⟨hx, hb, hml, findClass_of_methodNamed Bk.named, atoms_spec (ws := wsX12_isLifted) Bk.pre⟩
  subst hsz
  have hD := hD0.self (sz := s.heap.size)
  generalize hAe : va_A w0 s.heap.size = A at hD hE ⊢
  have hA : ∀ q : Nat, s.heap.size ≤ q → A q := fun q h => by rw [← hAe]; exact Or.inr h
  have hw : Wd dC dI A s.heap s.heap [] w0 := ⟨hP, hD, va_S.rf⟩
  have hF : FE ksM ([] : List (Nat × Nat × Nat)) w0 w0 := FE.rf
  have hl := lv_entry ([.ref (ad 0), .int a1, .int a2]) (n := 5) (Nat.le_of_ble_eq_true rfl)
  rw [lg_entry_eq]
  generalize (lg_sl ([.ref (ad 0), .int a1, .int a2]) ++ List.replicate (5 - (lg_sl ([.ref (ad 0), .int a1, .int a2])).length) Slot.unset).toArray = ls at hl ⊢
  have hl : lv_has ls 5 [(0, .ref (ad 0)), (1, .int a1), (2, .int a2)] := hl
  generalize hloc : ([] : List Loc) = locs at hw ⊢
  have hinX12 : ∀ w ∈ u_ws RX12 TX12 42, w ∈ wsX12_isLifted := fun _ h => List.mem_cons_of_mem _ (List.mem_append_right _ (h))
  have L2 : ∀ (n2 : Nat) (v2_3 : Int32) (H : Heap) (locs : List Loc) (ls : Array Slot) (w1 : va_W), 0 ≤ a1.toInt → a1.toInt ≤ 11 → 0 ≤ a2.toInt → a2.toInt ≤ 1073741944 → 0 ≤ v2_3.toInt → v2_3.toInt ≤ 4 → (4 - v2_3.toInt).toNat < n2 → Wd dC dI A s.heap H locs w1 → TW ksM ad cy B qr 12 w1 → FE ksM ([] : List (Nat × Nat × Nat)) w0 w1 → lv_has ls 5 [(0, .ref (ad 0)), (1, .int a1), (2, .int a2), (3, .int v2_3)] → W p l e ({ frames := 1, cells := 0, slots := 0, locals := 12 }) s m (List.toArray [.ref (ad 0), .int a1, .int a2]) below meth c H locs 0 0 (MQ below (va_Qi (P_X12_isLifted_4 ad cy B qr s1 a1 a2 w0) (fun u : va_W => wpost dC dI cy A u) A) (List.toArray [.ref (ad 0), .int a1, .int a2]) s 0 0 A) (F0 m 2 ls []) := by
    intro n2
    induction n2 with
    | zero => intro v2_3 H locs ls w1 r2 t3 r4 t5 r6 t7 hm2 hw hT hF hl; omega
    | succ n2 ih2 =>
      intro v2_3 H locs ls w1 r2 t3 r4 t5 r6 t7 hm2 hw hT hF hl
      have J66 : ∀ (v66_4 : Int32) (f66_12__3_v2_3_toInt_156_toNat : Int32) (f66_12_3 : Int32) (H : Heap) (locs : List Loc) (ls : Array Slot) (w8 : va_W), 0 ≤ a1.toInt → a1.toInt ≤ 11 → 0 ≤ a2.toInt → a2.toInt ≤ 1073741944 → 0 ≤ v2_3.toInt → v2_3.toInt ≤ 3 → 156 ≤ v66_4.toInt → v66_4.toInt ≤ 165 → v66_4.toInt = 3 * v2_3.toInt + 156 → 1 ≤ f66_12_3.toInt → f66_12_3.toInt ≤ 4 → Wd dC dI A s.heap H locs w8 → TW ksM ad cy B qr 12 w8 → FE ksM ([] : List (Nat × Nat × Nat)) w0 w8 → gi w8 12 (3 * v2_3.toInt + 156).toNat = f66_12__3_v2_3_toInt_156_toNat → gi w8 12 3 = f66_12_3 → lv_has ls 5 [(0, .ref (ad 0)), (1, .int a1), (2, .int a2), (3, .int v2_3), (4, .int v66_4)] → W p l e ({ frames := 1, cells := 0, slots := 0, locals := 12 }) s m (List.toArray [.ref (ad 0), .int a1, .int a2]) below meth c H locs 0 0 (MQ below (va_Qi (P_X12_isLifted_4 ad cy B qr s1 a1 a2 w0) (fun u : va_W => wpost dC dI cy A u) A) (List.toArray [.ref (ad 0), .int a1, .int a2]) s 0 0 A) (F0 m 66 ls []) := by
        intro v66_4 f66_12__3_v2_3_toInt_156_toNat f66_12_3 H locs ls w8 r9 t10 r11 t12 r13 t14 r15 t16 l17 r19 t20 hw hT hF c18 c21 hl
        obtain ⟨x22, ex22⟩ : ∃ y : Int32, y = v2_3 + Int32.ofInt 1 := ⟨_, rfl⟩
        refine lv_iinc (v := x22) (lv' := [(3, .int x22), (0, .ref (ad 0)), (1, .int a1), (2, .int a2), (4, .int v66_4)]) hx hb dX12_isLifted_66 hl (k := 3) rfl ex22.symm (by decide) rfl (fun ls hl => ?_)
        have ex22 : x22.toInt = v2_3.toInt + 1 := by rw [ex22]; exact wk_add (y := 1) (show -2147483648 ≤ v2_3.toInt + 1 by omega) (show v2_3.toInt + 1 ≤ 2147483647 by omega)
        refine lv_goto (tgt := 2) hx hb dX12_isLifted_69 (by decide) ?_
        exact ih2 x22 H locs ls w8 (show 0 ≤ a1.toInt by omega) (show a1.toInt ≤ 11 by omega) (show 0 ≤ a2.toInt by omega) (show a2.toInt ≤ 1073741944 by omega) (show 0 ≤ x22.toInt by omega) (show x22.toInt ≤ 4 by omega) (show (4 - x22.toInt).toNat < n2 by omega) hw hT hF  (lv_sub hl [1, 2, 3, 0] rfl)
      refine lv_iload_n hx hb dX12_isLifted_2 rfl (lv_at hl 3 rfl) ?_
      refine lv_aload_n hx hb dX12_isLifted_3 rfl (lv_at hl 0 rfl) ?_
      refine tk_getA hC hK hw hT hinX12 kM_at0 (by decide) rfl 26 (by decide) (List.mem_of_getElem? (i := 1) rfl) rfl rfl dX12_isLifted_4 ?_
      refine lv_iconst (v := 3) hx hb dX12_isLifted_7 (by decide) ?_
      refine tk_ialdR hC hK hw hT kM_at12 rfl (by decide) (by decide) dX12_isLifted_8 (fun x23 c24 Ex23 => ?_)
      have bx23 := tk_rgI rfl 3 1 1 0 4 (by decide +kernel) ⟨0, by decide, by decide⟩ Ex23
      have c24 : gi w1 12 3 = x23 := c24
      refine lv_icmp_ge (tgt := 72) hx hb dX12_isLifted_9 (by decide) (fun c25 => ?_) (fun c25 => ?_)
      · have c25 : x23.toInt ≤ v2_3.toInt := wk_le.mp c25
        refine lv_iconst (v := 0) hx hb dX12_isLifted_72 (by decide) ?_
        exact tk_zret hC hr rfl hlocks hK ⟨hT, hF, (Or.inl rfl)⟩ hw dX12_isLifted_73
      · have c25 : v2_3.toInt < x23.toInt := wk_leF c25
        refine lv_sipush (v := 156) hx hb dX12_isLifted_12 (by decide) ?_
        refine lv_iconst (v := 3) hx hb dX12_isLifted_15 (by decide) ?_
        refine lv_iload_n hx hb dX12_isLifted_16 rfl (lv_at hl 3 rfl) ?_
        refine lv_imul hx hb dX12_isLifted_17 ?_
        refine lv_topi (fun x26 ex26 => ?_)
        have ex26 : x26.toInt = (3 : Int) * v2_3.toInt := by rw [ex26]; exact wk_mul (show (-2147483648) ≤ (3 : Int) * v2_3.toInt by omega) (show (3 : Int) * v2_3.toInt ≤ 2147483647 by omega)
        refine lv_iadd hx hb dX12_isLifted_18 ?_
        refine lv_topi (fun x27 ex27 => ?_)
        have ex27 : x27.toInt = (156 : Int) + x26.toInt := by rw [ex27]; exact wk_add (show (-2147483648) ≤ (156 : Int) + x26.toInt by omega) (show (156 : Int) + x26.toInt ≤ 2147483647 by omega)
        refine lv_istore (lv' := [(4, .int x27), (0, .ref (ad 0)), (1, .int a1), (2, .int a2), (3, .int v2_3)]) hx hb dX12_isLifted_19 hl (by decide) rfl (fun ls hl => ?_)
        refine lv_aload_n hx hb dX12_isLifted_21 rfl (lv_at hl 1 rfl) ?_
        refine tk_getA hC hK hw hT hinX12 kM_at0 (by decide) rfl 26 (by decide) (List.mem_of_getElem? (i := 1) rfl) rfl rfl dX12_isLifted_22 ?_
        refine lv_iload hx hb dX12_isLifted_25 (lv_at hl 0 rfl) ?_
        refine tk_ialdR hC hK hw hT kM_at12 rfl (show 0 ≤ x27.toInt by omega) (show x27.toInt < 296 by omega) dX12_isLifted_27 (fun x28 c29 Ex28 => ?_)
        have c29 : gi w1 12 (3 * v2_3.toInt + 156).toNat = x28 := (congrArg (gi w1 12) (congrArg Int.toNat (show 3 * v2_3.toInt + 156 = x27.toInt by omega))).trans c29
        refine lv_iload_n hx hb dX12_isLifted_28 rfl (lv_at hl 2 rfl) ?_
        refine lv_icmp_ne (tgt := 66) hx hb dX12_isLifted_29 (by decide) (fun c30 => ?_) (fun c30 => ?_)
        · have c30 : ¬ x28.toInt = a1.toInt := wk_eqF c30
          exact J66 x27 x28 x23 H locs ls w1 (show 0 ≤ a1.toInt by omega) (show a1.toInt ≤ 11 by omega) (show 0 ≤ a2.toInt by omega) (show a2.toInt ≤ 1073741944 by omega) (show 0 ≤ v2_3.toInt by omega) (show v2_3.toInt ≤ 3 by omega) (show 156 ≤ x27.toInt by omega) (show x27.toInt ≤ 165 by omega) (show x27.toInt = 3 * v2_3.toInt + 156 by omega) (show 1 ≤ x23.toInt by omega) (show x23.toInt ≤ 4 by omega)  hw hT hF c29 c24 (lv_sub hl [1, 2, 3, 4, 0] rfl)
        · have c30 : x28.toInt = a1.toInt := wk_eq.mp c30
          refine lv_iload_n hx hb dX12_isLifted_32 rfl (lv_at hl 3 rfl) ?_
          refine lv_bipush (v := 24) hx hb dX12_isLifted_33 (by decide) ?_
          refine lv_irem hx hb dX12_isLifted_35 (by decide) ?_
          refine lv_topi (fun x31 ex31 => ?_)
          have ex31 : x31.toInt = a2.toInt % (24 : Int) := by rw [ex31]; exact wk_rem (show 0 ≤ a2.toInt by omega) (show 0 < (24 : Int) by decide)
          refine lv_aload_n hx hb dX12_isLifted_36 rfl (lv_at hl 1 rfl) ?_
          refine tk_getA hC hK hw hT hinX12 kM_at0 (by decide) rfl 26 (by decide) (List.mem_of_getElem? (i := 1) rfl) rfl rfl dX12_isLifted_37 ?_
          refine lv_iload hx hb dX12_isLifted_40 (lv_at hl 0 rfl) ?_
          refine lv_iconst (v := 1) hx hb dX12_isLifted_42 (by decide) ?_
          refine lv_iadd hx hb dX12_isLifted_43 ?_
          refine lv_topi (fun x32 ex32 => ?_)
          have ex32 : x32.toInt = x27.toInt + (1 : Int) := by rw [ex32]; exact wk_add (show (-2147483648) ≤ x27.toInt + (1 : Int) by omega) (show x27.toInt + (1 : Int) ≤ 2147483647 by omega)
          refine tk_ialdR hC hK hw hT kM_at12 rfl (show 0 ≤ x32.toInt by omega) (show x32.toInt < 296 by omega) dX12_isLifted_44 (fun x33 c34 Ex33 => ?_)
          have c34 : gi w1 12 (3 * v2_3.toInt + 157).toNat = x33 := (congrArg (gi w1 12) (congrArg Int.toNat (show 3 * v2_3.toInt + 157 = x32.toInt by omega))).trans c34
          refine lv_icmp_lt (tgt := 66) hx hb dX12_isLifted_45 (by decide) (fun c35 => ?_) (fun c35 => ?_)
          · have c35 : x31.toInt < x33.toInt := wk_lt.mp c35
            exact J66 x27 x28 x23 H locs ls w1 (show 0 ≤ a1.toInt by omega) (show a1.toInt ≤ 11 by omega) (show 0 ≤ a2.toInt by omega) (show a2.toInt ≤ 1073741944 by omega) (show 0 ≤ v2_3.toInt by omega) (show v2_3.toInt ≤ 3 by omega) (show 156 ≤ x27.toInt by omega) (show x27.toInt ≤ 165 by omega) (show x27.toInt = 3 * v2_3.toInt + 156 by omega) (show 1 ≤ x23.toInt by omega) (show x23.toInt ≤ 4 by omega)  hw hT hF c29 c24 (lv_sub hl [1, 2, 3, 4, 0] rfl)
          · have c35 : x33.toInt ≤ x31.toInt := wk_ltF c35
            refine lv_iload_n hx hb dX12_isLifted_48 rfl (lv_at hl 3 rfl) ?_
            refine lv_bipush (v := 24) hx hb dX12_isLifted_49 (by decide) ?_
            refine lv_irem hx hb dX12_isLifted_51 (by decide) ?_
            refine lv_topi (fun x36 ex36 => ?_)
            have ex36 : x36.toInt = a2.toInt % (24 : Int) := by rw [ex36]; exact wk_rem (show 0 ≤ a2.toInt by omega) (show 0 < (24 : Int) by decide)
            refine lv_aload_n hx hb dX12_isLifted_52 rfl (lv_at hl 1 rfl) ?_
            refine tk_getA hC hK hw hT hinX12 kM_at0 (by decide) rfl 26 (by decide) (List.mem_of_getElem? (i := 1) rfl) rfl rfl dX12_isLifted_53 ?_
            refine lv_iload hx hb dX12_isLifted_56 (lv_at hl 0 rfl) ?_
            refine lv_iconst (v := 2) hx hb dX12_isLifted_58 (by decide) ?_
            refine lv_iadd hx hb dX12_isLifted_59 ?_
            refine lv_topi (fun x37 ex37 => ?_)
            have ex37 : x37.toInt = x27.toInt + (2 : Int) := by rw [ex37]; exact wk_add (show (-2147483648) ≤ x27.toInt + (2 : Int) by omega) (show x27.toInt + (2 : Int) ≤ 2147483647 by omega)
            refine tk_ialdR hC hK hw hT kM_at12 rfl (show 0 ≤ x37.toInt by omega) (show x37.toInt < 296 by omega) dX12_isLifted_60 (fun x38 c39 Ex38 => ?_)
            have c39 : gi w1 12 (3 * v2_3.toInt + 158).toNat = x38 := (congrArg (gi w1 12) (congrArg Int.toNat (show 3 * v2_3.toInt + 158 = x37.toInt by omega))).trans c39
            refine lv_icmp_ge (tgt := 66) hx hb dX12_isLifted_61 (by decide) (fun c40 => ?_) (fun c40 => ?_)
            · have c40 : x38.toInt ≤ x36.toInt := wk_le.mp c40
              exact J66 x27 x28 x23 H locs ls w1 (show 0 ≤ a1.toInt by omega) (show a1.toInt ≤ 11 by omega) (show 0 ≤ a2.toInt by omega) (show a2.toInt ≤ 1073741944 by omega) (show 0 ≤ v2_3.toInt by omega) (show v2_3.toInt ≤ 3 by omega) (show 156 ≤ x27.toInt by omega) (show x27.toInt ≤ 165 by omega) (show x27.toInt = 3 * v2_3.toInt + 156 by omega) (show 1 ≤ x23.toInt by omega) (show x23.toInt ≤ 4 by omega)  hw hT hF c29 c24 (lv_sub hl [1, 2, 3, 4, 0] rfl)
            · have c40 : x36.toInt < x38.toInt := wk_leF c40
              refine lv_iconst (v := 1) hx hb dX12_isLifted_64 (by decide) ?_
              exact tk_zret hC hr rfl hlocks hK ⟨hT, hF, (Or.inr ⟨rfl, ⟨x23, c24, (show 1 ≤ x23.toInt by omega), (show x23.toInt ≤ 4 by omega)⟩⟩)⟩ hw dX12_isLifted_65
  refine lv_iconst (v := 0) hx hb dX12_isLifted_0 (by decide) ?_
  refine lv_istore_n (lv' := [(3, .int 0), (0, .ref (ad 0)), (1, .int a1), (2, .int a2)]) hx hb dX12_isLifted_1 rfl hl (by decide) rfl (fun ls hl => ?_)
  exact L2 ((4 - (0 : Int)).toNat + 1) 0 s.heap locs ls w0 (show 0 ≤ a1.toInt by omega) (show a1.toInt ≤ 11 by omega) (show 0 ≤ a2.toInt by omega) (show a2.toInt ≤ 1073741944 by omega) (by decide) (by decide) (Nat.lt_succ_self _) hw hT hF  (lv_sub hl [1, 2, 3, 0] rfl)
abbrev P_X12_isOpen_2 (ad : Nat → Nat) (cy : Nat → ClassId) (B : Int) (qr : Nat) (s1 : Int) (a1 : Int32) (a2 : Int32) (a3 : Int32) (w0 : va_W) : Int32 → va_W → Prop := fun r u => TW ksM ad cy B qr 12 u ∧ FE ksM ([] : List (Nat × Nat × Nat)) w0 u ∧ ((r = 0) ∨ (r = 1) ∨ (r = 1 ∧ gi u 12 (10 * a1.toInt + 10).toNat = a2))
set_option maxHeartbeats 4000000 in
set_option maxRecDepth 100000 in
theorem k_X12_isOpen_2 (l : Launch) (adK adV : Nat → Nat) (dC : Nat → ClassId) (dI : Nat → Nat → Nat) (cy : Nat → ClassId) (ad : Nat → Nat) (B : Int) (hB0 : 100000 ≤ B) (hB1 : B ≤ 1073741824) (qr : Nat) (s1 : Int)  (a1 : Int32) (ra1 : 0 ≤ a1.toInt) (ta1 : a1.toInt ≤ 11) (a2 : Int32) (ra2 : 0 ≤ a2.toInt) (ta2 : a2.toInt ≤ 9) (a3 : Int32) (ra3 : 0 ≤ a3.toInt) (ta3 : a3.toInt ≤ 1073741944) (w0 : va_W) (sz : Nat) (hT : TW ksM ad cy B qr 12 w0)  : Met l yX12_isOpen wsX12_isOpen ({ frames := 4, cells := 0, slots := 0, locals := 80 }) (va_Pc [.ref (ad 0), .int a1, .int a2, .int a3] (wpreS adK adV dC dI cy sz w0)) (va_Qi (P_X12_isOpen_2 ad cy B qr s1 a1 a2 a3 w0) (fun u : va_W => wpost dC dI cy (va_A w0 sz) u) (va_A w0 sz)) 0 0 (va_A w0 sz) := by
  refine Met.ofW (cc := cX12_isOpen) (maxL := 4) (ret := (some .boolean)) (by decide) rfl ?_
  intro p e s m args below meth c s₁ Bk hml hv
  obtain ⟨rfl, ⟨hsz, hP, hK, hD0⟩, hE, hSR⟩ := hv
  have hx := Bk.exec
  have hb := Bk.bytes
  have hr := Bk.returns
  have hlocks := Bk.notSynchronized
  have hC : CallFix p m c cX12_isOpen 4 s _ wsX12_isOpen RX12 := ⟨hx, hb, hml, findClass_of_methodNamed Bk.named, atoms_spec (ws := wsX12_isOpen) Bk.pre⟩
  subst hsz
  have hD := hD0.self (sz := s.heap.size)
  generalize hAe : va_A w0 s.heap.size = A at hD hE ⊢
  have hA : ∀ q : Nat, s.heap.size ≤ q → A q := fun q h => by rw [← hAe]; exact Or.inr h
  have hw : Wd dC dI A s.heap s.heap [] w0 := ⟨hP, hD, va_S.rf⟩
  have hF : FE ksM ([] : List (Nat × Nat × Nat)) w0 w0 := FE.rf
  have hl := lv_entry ([.ref (ad 0), .int a1, .int a2, .int a3]) (n := 4) (Nat.le_of_ble_eq_true rfl)
  rw [lg_entry_eq]
  generalize (lg_sl ([.ref (ad 0), .int a1, .int a2, .int a3]) ++ List.replicate (4 - (lg_sl ([.ref (ad 0), .int a1, .int a2, .int a3])).length) Slot.unset).toArray = ls at hl ⊢
  have hl : lv_has ls 4 [(0, .ref (ad 0)), (1, .int a1), (2, .int a2), (3, .int a3)] := hl
  generalize hloc : ([] : List Loc) = locs at hw ⊢
  have J35 : ∀ (H : Heap) (locs : List Loc) (ls : Array Slot) (w1 : va_W), 0 ≤ a1.toInt → a1.toInt ≤ 11 → 0 ≤ a2.toInt → a2.toInt ≤ 9 → 0 ≤ a3.toInt → a3.toInt ≤ 1073741944 → Wd dC dI A s.heap H locs w1 → TW ksM ad cy B qr 12 w1 → FE ksM ([] : List (Nat × Nat × Nat)) w0 w1 → lv_has ls 4 [(0, .ref (ad 0)), (1, .int a1), (2, .int a2), (3, .int a3)] → W p l e ({ frames := 4, cells := 0, slots := 0, locals := 80 }) s m (List.toArray [.ref (ad 0), .int a1, .int a2, .int a3]) below meth c H locs 0 0 (MQ below (va_Qi (P_X12_isOpen_2 ad cy B qr s1 a1 a2 a3 w0) (fun u : va_W => wpost dC dI cy A u) A) (List.toArray [.ref (ad 0), .int a1, .int a2, .int a3]) s 0 0 A) (F0 m 35 ls []) := by
    intro H locs ls w1 r2 t3 r4 t5 r6 t7 hw hT hF hl
    refine lv_iconst (v := 0) hx hb dX12_isOpen_35 (by decide) ?_
    exact tk_zret hC hr rfl hlocks hK ⟨hT, hF, (Or.inl rfl)⟩ hw dX12_isOpen_36
  refine lv_aload_n hx hb dX12_isOpen_0 rfl (lv_at hl 0 rfl) ?_
  refine lv_iload_n hx hb dX12_isOpen_1 rfl (lv_at hl 1 rfl) ?_
  refine lv_iload_n hx hb dX12_isOpen_2 rfl (lv_at hl 2 rfl) ?_
  refine tk_Vi hC hK hw hT hA hE hSR kM_at0 (by decide) rfl (k_X12_isAt_1 l adK adV dC dI cy ad B (by omega) (by omega) qr s1   a1 (show 0 ≤ a1.toInt by omega) (show a1.toInt ≤ 11 by omega) a2 (show 0 ≤ a2.toInt by omega) (show a2.toInt ≤ 9 by omega) w0 s.heap.size hT ) (cwV 2 hC.2.2.2.2 gX12_isOpen_X12_isAt rfl rfl rfl (by decide +kernel) ⟨Nat.le_of_ble_eq_true rfl, Nat.le_of_ble_eq_true rfl⟩) rfl hl.1 rfl (Nat.le_of_ble_eq_true rfl) dX12_isOpen_3 (fun r8 w10 H locs hp9 hw => ?_)
  obtain ⟨hT, k11, hg12⟩ := hp9
  have hF := hF.tr k11 (by decide)
  rcases hg12 with rfl | rfl
  · refine lv_if_eq (tgt := 35) hx hb dX12_isOpen_6 (by decide) (fun _ => ?_) (fun c => absurd (by decide) c)
    exact J35  H locs ls w10 (show 0 ≤ a1.toInt by omega) (show a1.toInt ≤ 11 by omega) (show 0 ≤ a2.toInt by omega) (show a2.toInt ≤ 9 by omega) (show 0 ≤ a3.toInt by omega) (show a3.toInt ≤ 1073741944 by omega)  hw hT hF  (lv_sub hl [0, 1, 2, 3] rfl)
  · refine lv_if_eq (tgt := 35) hx hb dX12_isOpen_6 (by decide) (fun c => absurd c (by decide)) (fun _ => ?_)
    refine lv_aload_n hx hb dX12_isOpen_9 rfl (lv_at hl 0 rfl) ?_
    refine lv_iload_n hx hb dX12_isOpen_10 rfl (lv_at hl 1 rfl) ?_
    refine lv_iload_n hx hb dX12_isOpen_11 rfl (lv_at hl 2 rfl) ?_
    refine lv_iload_n hx hb dX12_isOpen_12 rfl (lv_at hl 3 rfl) ?_
    refine lv_bipush (v := 24) hx hb dX12_isOpen_13 (by decide) ?_
    refine lv_idiv hx hb dX12_isOpen_15 (by decide) ?_
    refine lv_topi (fun x13 ex13 => ?_)
    have ex13 : x13.toInt = a3.toInt / (24 : Int) := by rw [ex13]; exact wk_div (show 0 ≤ a3.toInt by omega) (show 0 < (24 : Int) by decide)
    refine tk_Vi hC hK hw hT hA hE hSR kM_at0 (by decide) rfl (k_X12_isDayFor_4 l adK adV dC dI cy ad B (by omega) (by omega) qr s1   a1 (show 0 ≤ a1.toInt by omega) (show a1.toInt ≤ 11 by omega) a2 (show 0 ≤ a2.toInt by omega) (show a2.toInt ≤ 9 by omega) x13 (show 0 ≤ x13.toInt by omega) (show x13.toInt ≤ 44739247 by omega) w10 H.size hT ) (cwV 3 hC.2.2.2.2 gX12_isOpen_X12_isDayFor rfl rfl rfl (by decide +kernel) ⟨Nat.le_of_ble_eq_true rfl, Nat.le_of_ble_eq_true rfl⟩) rfl hl.1 rfl (Nat.le_of_ble_eq_true rfl) dX12_isOpen_16 (fun r14 w16 H locs hp15 hw => ?_)
    obtain ⟨hT, k17, hg20⟩ := hp15
    have hF := hF.tr k17 (by decide)
    rcases hg20 with rfl | ⟨rfl, c18⟩ | rfl | ⟨rfl, c19⟩
    · refine lv_if_eq (tgt := 35) hx hb dX12_isOpen_19 (by decide) (fun _ => ?_) (fun c => absurd (by decide) c)
      exact J35  H locs ls w16 (show 0 ≤ a1.toInt by omega) (show a1.toInt ≤ 11 by omega) (show 0 ≤ a2.toInt by omega) (show a2.toInt ≤ 9 by omega) (show 0 ≤ a3.toInt by omega) (show a3.toInt ≤ 1073741944 by omega)  hw hT hF  (lv_sub hl [0, 1, 2, 3] rfl)
    · refine lv_if_eq (tgt := 35) hx hb dX12_isOpen_19 (by decide) (fun _ => ?_) (fun c => absurd (by decide) c)
      exact J35  H locs ls w16 (show 0 ≤ a1.toInt by omega) (show a1.toInt ≤ 11 by omega) (show 0 ≤ a2.toInt by omega) (show a2.toInt ≤ 9 by omega) (show 0 ≤ a3.toInt by omega) (show a3.toInt ≤ 1073741944 by omega)  hw hT hF  (lv_sub hl [0, 1, 2, 3] rfl)
    · refine lv_if_eq (tgt := 35) hx hb dX12_isOpen_19 (by decide) (fun c => absurd c (by decide)) (fun _ => ?_)
      refine lv_aload_n hx hb dX12_isOpen_22 rfl (lv_at hl 0 rfl) ?_
      refine lv_iload_n hx hb dX12_isOpen_23 rfl (lv_at hl 1 rfl) ?_
      refine lv_iload_n hx hb dX12_isOpen_24 rfl (lv_at hl 3 rfl) ?_
      refine tk_Vi hC hK hw hT hA hE hSR kM_at0 (by decide) rfl (k_X12_isLifted_4 l adK adV dC dI cy ad B (by omega) (by omega) qr s1   a1 (show 0 ≤ a1.toInt by omega) (show a1.toInt ≤ 11 by omega) a3 (show 0 ≤ a3.toInt by omega) (show a3.toInt ≤ 1073741944 by omega) w16 H.size hT ) (cwV 2 hC.2.2.2.2 gX12_isOpen_X12_isLifted rfl rfl rfl (by decide +kernel) ⟨Nat.le_of_ble_eq_true rfl, Nat.le_of_ble_eq_true rfl⟩) rfl hl.1 rfl (Nat.le_of_ble_eq_true rfl) dX12_isOpen_25 (fun r21 w23 H locs hp22 hw => ?_)
      obtain ⟨hT, k24, hg27⟩ := hp22
      have hF := hF.tr k24 (by decide)
      rcases hg27 with rfl | ⟨rfl, ⟨x25, c26, rx25, tx25⟩⟩
      · refine lv_if_ne (tgt := 35) hx hb dX12_isOpen_28 (by decide) (fun c => absurd (by decide) c) (fun _ => ?_)
        refine lv_iconst (v := 1) hx hb dX12_isOpen_31 (by decide) ?_
        refine lv_goto (tgt := 36) hx hb dX12_isOpen_32 (by decide) ?_
        exact tk_zret hC hr rfl hlocks hK ⟨hT, hF, (Or.inr (Or.inl rfl))⟩ hw dX12_isOpen_36
      · refine lv_if_ne (tgt := 35) hx hb dX12_isOpen_28 (by decide) (fun _ => ?_) (fun c => absurd c (by decide))
        exact J35  H locs ls w23 (show 0 ≤ a1.toInt by omega) (show a1.toInt ≤ 11 by omega) (show 0 ≤ a2.toInt by omega) (show a2.toInt ≤ 9 by omega) (show 0 ≤ a3.toInt by omega) (show a3.toInt ≤ 1073741944 by omega)  hw hT hF  (lv_sub hl [0, 1, 2, 3] rfl)
    · refine lv_if_eq (tgt := 35) hx hb dX12_isOpen_19 (by decide) (fun c => absurd c (by decide)) (fun _ => ?_)
      refine lv_aload_n hx hb dX12_isOpen_22 rfl (lv_at hl 0 rfl) ?_
      refine lv_iload_n hx hb dX12_isOpen_23 rfl (lv_at hl 1 rfl) ?_
      refine lv_iload_n hx hb dX12_isOpen_24 rfl (lv_at hl 3 rfl) ?_
      refine tk_Vi hC hK hw hT hA hE hSR kM_at0 (by decide) rfl (k_X12_isLifted_4 l adK adV dC dI cy ad B (by omega) (by omega) qr s1   a1 (show 0 ≤ a1.toInt by omega) (show a1.toInt ≤ 11 by omega) a3 (show 0 ≤ a3.toInt by omega) (show a3.toInt ≤ 1073741944 by omega) w16 H.size hT ) (cwV 2 hC.2.2.2.2 gX12_isOpen_X12_isLifted rfl rfl rfl (by decide +kernel) ⟨Nat.le_of_ble_eq_true rfl, Nat.le_of_ble_eq_true rfl⟩) rfl hl.1 rfl (Nat.le_of_ble_eq_true rfl) dX12_isOpen_25 (fun r28 w30 H locs hp29 hw => ?_)
      obtain ⟨hT, k31, hg34⟩ := hp29
      have hF := hF.tr k31 (by decide)
      have c35 := k31.gi kM_at12 rfl c19
      rcases hg34 with rfl | ⟨rfl, ⟨x32, c33, rx32, tx32⟩⟩
      · refine lv_if_ne (tgt := 35) hx hb dX12_isOpen_28 (by decide) (fun c => absurd (by decide) c) (fun _ => ?_)
        refine lv_iconst (v := 1) hx hb dX12_isOpen_31 (by decide) ?_
        refine lv_goto (tgt := 36) hx hb dX12_isOpen_32 (by decide) ?_
        exact tk_zret hC hr rfl hlocks hK ⟨hT, hF, (Or.inr (Or.inr ⟨rfl, c35⟩))⟩ hw dX12_isOpen_36
      · refine lv_if_ne (tgt := 35) hx hb dX12_isOpen_28 (by decide) (fun _ => ?_) (fun c => absurd c (by decide))
        exact J35  H locs ls w30 (show 0 ≤ a1.toInt by omega) (show a1.toInt ≤ 11 by omega) (show 0 ≤ a2.toInt by omega) (show a2.toInt ≤ 9 by omega) (show 0 ≤ a3.toInt by omega) (show a3.toInt ≤ 1073741944 by omega)  hw hT hF  (lv_sub hl [0, 1, 2, 3] rfl)
abbrev P_X12_placeAt_1 (ad : Nat → Nat) (cy : Nat → ClassId) (B : Int) (qr : Nat) (s1 : Int) (a1 : Int32) (a2 : Int32) (w0 : va_W) : Int32 → va_W → Prop := fun r u => TW ksM ad cy B qr 12 u ∧ FE ksM ([] : List (Nat × Nat × Nat)) w0 u ∧ ((0 ≤ r.toInt ∧ r.toInt ≤ 2418))
set_option maxHeartbeats 4000000 in
set_option maxRecDepth 100000 in
theorem k_X12_placeAt_1 (l : Launch) (adK adV : Nat → Nat) (dC : Nat → ClassId) (dI : Nat → Nat → Nat) (cy : Nat → ClassId) (ad : Nat → Nat) (B : Int) (hB0 : 100000 ≤ B) (hB1 : B ≤ 1073741824) (qr : Nat) (s1 : Int)  (a1 : Int32) (ra1 : 0 ≤ a1.toInt) (ta1 : a1.toInt ≤ 120) (a2 : Int32) (ra2 : 0 ≤ a2.toInt) (ta2 : a2.toInt ≤ 9) (w0 : va_W) (sz : Nat) (hT : TW ksM ad cy B qr 12 w0)  : Met l yX12_placeAt wsX12_placeAt ({ frames := 1, cells := 0, slots := 0, locals := 12 }) (va_Pc [.ref (ad 0), .int a1, .int a2, .int 0] (wpreS adK adV dC dI cy sz w0)) (va_Qi (P_X12_placeAt_1 ad cy B qr s1 a1 a2 w0) (fun u : va_W => wpost dC dI cy (va_A w0 sz) u) (va_A w0 sz)) 0 0 (va_A w0 sz) := by
  refine Met.ofW (cc := cX12_placeAt) (maxL := 4) (ret := (some .int)) (by decide) rfl ?_
  intro p e s m args below meth c s₁ Bk hml hv
  obtain ⟨rfl, ⟨hsz, hP, hK, hD0⟩, hE, hSR⟩ := hv
  have hx := Bk.exec
  have hb := Bk.bytes
  have hr := Bk.returns
  have hlocks := Bk.notSynchronized
  have hC : CallFix p m c cX12_placeAt 4 s _ wsX12_placeAt RX12 := ⟨hx, hb, hml, findClass_of_methodNamed Bk.named, atoms_spec (ws := wsX12_placeAt) Bk.pre⟩
  subst hsz
  have hD := hD0.self (sz := s.heap.size)
  generalize hAe : va_A w0 s.heap.size = A at hD hE ⊢
  have hA : ∀ q : Nat, s.heap.size ≤ q → A q := fun q h => by rw [← hAe]; exact Or.inr h
  have hw : Wd dC dI A s.heap s.heap [] w0 := ⟨hP, hD, va_S.rf⟩
  have hF : FE ksM ([] : List (Nat × Nat × Nat)) w0 w0 := FE.rf
  have hl := lv_entry ([.ref (ad 0), .int a1, .int a2, .int 0]) (n := 4) (Nat.le_of_ble_eq_true rfl)
  rw [lg_entry_eq]
  generalize (lg_sl ([.ref (ad 0), .int a1, .int a2, .int 0]) ++ List.replicate (4 - (lg_sl ([.ref (ad 0), .int a1, .int a2, .int 0])).length) Slot.unset).toArray = ls at hl ⊢
  have hl : lv_has ls 4 [(0, .ref (ad 0)), (1, .int a1), (2, .int a2), (3, .int 0)] := hl
  generalize hloc : ([] : List Loc) = locs at hw ⊢
  refine lv_iload_n hx hb dX12_placeAt_0 rfl (lv_at hl 1 rfl) ?_
  refine lv_bipush (v := 10) hx hb dX12_placeAt_1 (by decide) ?_
  refine lv_imul hx hb dX12_placeAt_3 ?_
  refine lv_topi (fun x1 ex1 => ?_)
  have ex1 : x1.toInt = a1.toInt * (10 : Int) := by rw [ex1]; exact wk_mul (show (-2147483648) ≤ a1.toInt * (10 : Int) by omega) (show a1.toInt * (10 : Int) ≤ 2147483647 by omega)
  refine lv_iload_n hx hb dX12_placeAt_4 rfl (lv_at hl 2 rfl) ?_
  refine lv_iadd hx hb dX12_placeAt_5 ?_
  refine lv_topi (fun x2 ex2 => ?_)
  have ex2 : x2.toInt = x1.toInt + a2.toInt := by rw [ex2]; exact wk_add (show (-2147483648) ≤ x1.toInt + a2.toInt by omega) (show x1.toInt + a2.toInt ≤ 2147483647 by omega)
  refine lv_iconst (v := 2) hx hb dX12_placeAt_6 (by decide) ?_
  refine lv_imul hx hb dX12_placeAt_7 ?_
  refine lv_topi (fun x3 ex3 => ?_)
  have ex3 : x3.toInt = x2.toInt * (2 : Int) := by rw [ex3]; exact wk_mul (show (-2147483648) ≤ x2.toInt * (2 : Int) by omega) (show x2.toInt * (2 : Int) ≤ 2147483647 by omega)
  refine lv_iload_n hx hb dX12_placeAt_8 rfl (lv_at hl 3 rfl) ?_
  refine lv_if_eq (tgt := 16) hx hb dX12_placeAt_9 (by decide) (fun _ => ?_) (fun c => absurd (by decide) c)
  refine lv_iconst (v := 0) hx hb dX12_placeAt_16 (by decide) ?_
  refine lv_iadd hx hb dX12_placeAt_17 ?_
  refine lv_topi (fun x4 ex4 => ?_)
  have ex4 : x4.toInt = x3.toInt + (0 : Int) := by rw [ex4]; exact wk_add (show (-2147483648) ≤ x3.toInt + (0 : Int) by omega) (show x3.toInt + (0 : Int) ≤ 2147483647 by omega)
  exact tk_iret hC hr hlocks hK ⟨hT, hF, ⟨(show 0 ≤ x4.toInt by omega), (show x4.toInt ≤ 2418 by omega)⟩⟩ hw dX12_placeAt_18
abbrev P_X12_could_1 (ad : Nat → Nat) (cy : Nat → ClassId) (B : Int) (qr : Nat) (s1 : Int) (a1 : Int32) (a2 : Int32) (a4 : Int32) (w0 : va_W) : va_W → Prop := fun u => TW ksM ad cy B qr 12 u ∧ FE ksM [(76, 0, 2600)] w0 u ∧ ((True))
set_option maxHeartbeats 4000000 in
set_option maxRecDepth 100000 in
theorem k_X12_could_1 (l : Launch) (adK adV : Nat → Nat) (dC : Nat → ClassId) (dI : Nat → Nat → Nat) (cy : Nat → ClassId) (ad : Nat → Nat) (B : Int) (hB0 : 100000 ≤ B) (hB1 : B ≤ 1073741824) (qr : Nat) (s1 : Int)  (a1 : Int32) (ra1 : 0 ≤ a1.toInt) (ta1 : a1.toInt ≤ 120) (a2 : Int32) (ra2 : 0 ≤ a2.toInt) (ta2 : a2.toInt ≤ 9) (a4 : Int32) (w0 : va_W) (sz : Nat) (hT : TW ksM ad cy B qr 12 w0)  : Met l yX12_could wsX12_could ({ frames := 2, cells := 0, slots := 0, locals := 35 }) (va_Pc [.ref (ad 0), .int a1, .int a2, .int 0, .int a4] (wpreS adK adV dC dI cy sz w0)) (va_Qv (P_X12_could_1 ad cy B qr s1 a1 a2 a4 w0) (fun u : va_W => wpost dC dI cy (va_A w0 sz) u) (va_A w0 sz)) 0 0 (va_A w0 sz) := by
  refine Met.ofW (cc := cX12_could) (maxL := 6) (ret := none) (by decide) rfl ?_
  intro p e s m args below meth c s₁ Bk hml hv
  obtain ⟨rfl, ⟨hsz, hP, hK, hD0⟩, hE, hSR⟩ := hv
  have hx := Bk.exec
  have hb := Bk.bytes
  have hr := Bk.returns
  have hlocks := Bk.notSynchronized
  have hC : CallFix p m c cX12_could 6 s _ wsX12_could RX12 := ⟨hx, hb, hml, findClass_of_methodNamed Bk.named, atoms_spec (ws := wsX12_could) Bk.pre⟩
  subst hsz
  have hD := hD0.self (sz := s.heap.size)
  generalize hAe : va_A w0 s.heap.size = A at hD hE ⊢
  have hA : ∀ q : Nat, s.heap.size ≤ q → A q := fun q h => by rw [← hAe]; exact Or.inr h
  have hw : Wd dC dI A s.heap s.heap [] w0 := ⟨hP, hD, va_S.rf⟩
  have hF : FE ksM [(76, 0, 2600)] w0 w0 := FE.rf
  have hl := lv_entry ([.ref (ad 0), .int a1, .int a2, .int 0, .int a4]) (n := 6) (Nat.le_of_ble_eq_true rfl)
  rw [lg_entry_eq]
  generalize (lg_sl ([.ref (ad 0), .int a1, .int a2, .int 0, .int a4]) ++ List.replicate (6 - (lg_sl ([.ref (ad 0), .int a1, .int a2, .int 0, .int a4])).length) Slot.unset).toArray = ls at hl ⊢
  have hl : lv_has ls 6 [(0, .ref (ad 0)), (1, .int a1), (2, .int a2), (3, .int 0), (4, .int a4)] := hl
  generalize hloc : ([] : List Loc) = locs at hw ⊢
  have hinX12 : ∀ w ∈ u_ws RX12 TX12 42, w ∈ wsX12_could := fun _ h => List.mem_cons_of_mem _ (List.mem_append_right _ (h))
  have J30 : ∀ (v30_5 : Int32) (H : Heap) (locs : List Loc) (ls : Array Slot) (w1 : va_W), 0 ≤ a1.toInt → a1.toInt ≤ 120 → 0 ≤ a2.toInt → a2.toInt ≤ 9 → 0 ≤ v30_5.toInt → v30_5.toInt ≤ 2418 → Wd dC dI A s.heap H locs w1 → TW ksM ad cy B qr 12 w1 → FE ksM [(76, 0, 2600)] w0 w1 → lv_has ls 6 [(0, .ref (ad 0)), (1, .int a1), (2, .int a2), (3, .int 0), (4, .int a4), (5, .int v30_5)] → W p l e ({ frames := 2, cells := 0, slots := 0, locals := 35 }) s m (List.toArray [.ref (ad 0), .int a1, .int a2, .int 0, .int a4]) below meth c H locs 0 0 (MQ below (va_Qv (P_X12_could_1 ad cy B qr s1 a1 a2 a4 w0) (fun u : va_W => wpost dC dI cy A u) A) (List.toArray [.ref (ad 0), .int a1, .int a2, .int 0, .int a4]) s 0 0 A) (F0 m 30 ls []) := by
    intro v30_5 H locs ls w1 r2 t3 r4 t5 r6 t7 hw hT hF hl
    exact tk_vret hC hr hlocks hK ⟨hT, hF, trivial⟩ hw dX12_could_30
  refine lv_aload_n hx hb dX12_could_0 rfl (lv_at hl 0 rfl) ?_
  refine lv_iload_n hx hb dX12_could_1 rfl (lv_at hl 1 rfl) ?_
  refine lv_iload_n hx hb dX12_could_2 rfl (lv_at hl 2 rfl) ?_
  refine lv_iload_n hx hb dX12_could_3 rfl (lv_at hl 3 rfl) ?_
  refine tk_Vi hC hK hw hT hA hE hSR kM_at0 (by decide) rfl (k_X12_placeAt_1 l adK adV dC dI cy ad B (by omega) (by omega) qr s1   a1 (show 0 ≤ a1.toInt by omega) (show a1.toInt ≤ 120 by omega) a2 (show 0 ≤ a2.toInt by omega) (show a2.toInt ≤ 9 by omega) w0 s.heap.size hT ) (cwV 3 hC.2.2.2.2 gX12_could_X12_placeAt rfl rfl rfl (by decide +kernel) ⟨Nat.le_of_ble_eq_true rfl, Nat.le_of_ble_eq_true rfl⟩) rfl hl.1 rfl (Nat.le_of_ble_eq_true rfl) dX12_could_4 (fun r8 w10 H locs hp9 hw => ?_)
  obtain ⟨hT, k11, hg14⟩ := hp9
  have hF := hF.tr k11 (by decide)
  obtain ⟨g12, g13⟩ := hg14
  refine lv_istore (lv' := [(5, .int r8), (0, .ref (ad 0)), (1, .int a1), (2, .int a2), (3, .int 0), (4, .int a4)]) hx hb dX12_could_7 hl (by decide) rfl (fun ls hl => ?_)
  refine lv_iload hx hb dX12_could_9 (lv_at hl 5 rfl) ?_
  refine lv_aload_n hx hb dX12_could_11 rfl (lv_at hl 1 rfl) ?_
  refine tk_getA hC hK hw hT hinX12 kM_at0 (by decide) rfl 34 (by decide) (List.mem_of_getElem? (i := 1) rfl) rfl rfl dX12_could_12 ?_
  refine lv_iload hx hb dX12_could_15 (lv_at hl 0 rfl) ?_
  refine tk_iald hC hK hw hT kM_at17 rfl rfl (show 0 ≤ r8.toInt by omega) (show r8.toInt < 2600 by omega) dX12_could_17 (fun x15 c16 rx15 tx15 => ?_)
  refine lv_icmp_ge (tgt := 30) hx hb dX12_could_18 (by decide) (fun c17 => ?_) (fun c17 => ?_)
  · have c17 : x15.toInt ≤ a4.toInt := wk_le.mp c17
    exact J30 r8 H locs ls w10 (show 0 ≤ a1.toInt by omega) (show a1.toInt ≤ 120 by omega) (show 0 ≤ a2.toInt by omega) (show a2.toInt ≤ 9 by omega) (show 0 ≤ r8.toInt by omega) (show r8.toInt ≤ 2418 by omega)  hw hT hF  (lv_sub hl [1, 2, 3, 4, 5, 0] rfl)
  · have c17 : a4.toInt < x15.toInt := wk_leF c17
    refine lv_aload_n hx hb dX12_could_21 rfl (lv_at hl 1 rfl) ?_
    refine tk_getA hC hK hw hT hinX12 kM_at0 (by decide) rfl 34 (by decide) (List.mem_of_getElem? (i := 1) rfl) rfl rfl dX12_could_22 ?_
    refine lv_iload hx hb dX12_could_25 (lv_at hl 0 rfl) ?_
    refine lv_iload hx hb dX12_could_27 (lv_at hl 5 rfl) ?_
    refine tk_iast hC hK hw hT kM_at17 (by decide) rfl rfl (show 0 ≤ r8.toInt by omega) (show r8.toInt < 2600 by omega) (wk_i32 a4).1 (wk_i32 a4).2 dX12_could_29 (fun H locs w18 hw hT k20 c19 => ?_)
    have hF := hF.put kM_at17 (inE_of (a := 0) (b := 2600) (by decide) (show 0 ≤ r8.toInt.toNat by omega) (show r8.toInt.toNat ≤ 2600 by omega)) k20
    exact J30 r8 H locs ls w18 (show 0 ≤ a1.toInt by omega) (show a1.toInt ≤ 120 by omega) (show 0 ≤ a2.toInt by omega) (show a2.toInt ≤ 9 by omega) (show 0 ≤ r8.toInt by omega) (show r8.toInt ≤ 2418 by omega)  hw hT hF  (lv_sub hl [1, 2, 3, 4, 5, 0] rfl)
abbrev P_X12_walkerOf_4 (ad : Nat → Nat) (cy : Nat → ClassId) (B : Int) (qr : Nat) (s1 : Int) (a1 : Int32) (w0 : va_W) : Int32 → va_W → Prop := fun r u => TW ksM ad cy B qr 12 u ∧ FE ksM ([] : List (Nat × Nat × Nat)) w0 u ∧ ((0 ≤ r.toInt ∧ r.toInt ≤ 3 ∧ gi u 12 (9 * a1.toInt + 218).toNat = r))
set_option maxHeartbeats 4000000 in
set_option maxRecDepth 100000 in
theorem k_X12_walkerOf_4 (l : Launch) (adK adV : Nat → Nat) (dC : Nat → ClassId) (dI : Nat → Nat → Nat) (cy : Nat → ClassId) (ad : Nat → Nat) (B : Int) (hB0 : 100000 ≤ B) (hB1 : B ≤ 1073741824) (qr : Nat) (s1 : Int)  (a1 : Int32) (ra1 : 0 ≤ a1.toInt) (ta1 : a1.toInt ≤ 3) (w0 : va_W) (sz : Nat) (hT : TW ksM ad cy B qr 12 w0)  : Met l yX12_walkerOf wsX12_walkerOf ({ frames := 1, cells := 0, slots := 0, locals := 12 }) (va_Pc [.ref (ad 0), .int a1, .int 2] (wpreS adK adV dC dI cy sz w0)) (va_Qi (P_X12_walkerOf_4 ad cy B qr s1 a1 w0) (fun u : va_W => wpost dC dI cy (va_A w0 sz) u) (va_A w0 sz)) 0 0 (va_A w0 sz) := by
  refine Met.ofW (cc := cX12_walkerOf) (maxL := 3) (ret := (some .int)) (by decide) rfl ?_
  intro p e s m args below meth c s₁ Bk hml hv
  obtain ⟨rfl, ⟨hsz, hP, hK, hD0⟩, hE, hSR⟩ := hv
  have hx := Bk.exec
  have hb := Bk.bytes
  have hr := Bk.returns
  have hlocks := Bk.notSynchronized
  have hC : CallFix p m c cX12_walkerOf 3 s _ wsX12_walkerOf RX12 := ⟨hx, hb, hml, findClass_of_methodNamed Bk.named, atoms_spec (ws := wsX12_walkerOf) Bk.pre⟩
  subst hsz
  have hD := hD0.self (sz := s.heap.size)
  generalize hAe : va_A w0 s.heap.size = A at hD hE ⊢
  have hA : ∀ q : Nat, s.heap.size ≤ q → A q := fun q h => by rw [← hAe]; exact Or.inr h
  have hw : Wd dC dI A s.heap s.heap [] w0 := ⟨hP, hD, va_S.rf⟩
  have hF : FE ksM ([] : List (Nat × Nat × Nat)) w0 w0 := FE.rf
  have hl := lv_entry ([.ref (ad 0), .int a1, .int 2]) (n := 3) (Nat.le_of_ble_eq_true rfl)
  rw [lg_entry_eq]
  generalize (lg_sl ([.ref (ad 0), .int a1, .int 2]) ++ List.replicate (3 - (lg_sl ([.ref (ad 0), .int a1, .int 2])).length) Slot.unset).toArray = ls at hl ⊢
  have hl : lv_has ls 3 [(0, .ref (ad 0)), (1, .int a1), (2, .int 2)] := hl
  generalize hloc : ([] : List Loc) = locs at hw ⊢
  have hinX12 : ∀ w ∈ u_ws RX12 TX12 42, w ∈ wsX12_walkerOf := fun _ h => List.mem_cons_of_mem _ (List.mem_append_right _ (h))
  refine lv_aload_n hx hb dX12_walkerOf_0 rfl (lv_at hl 0 rfl) ?_
  refine tk_getA hC hK hw hT hinX12 kM_at0 (by decide) rfl 26 (by decide) (List.mem_of_getElem? (i := 1) rfl) rfl rfl dX12_walkerOf_1 ?_
  refine lv_sipush (v := 216) hx hb dX12_walkerOf_4 (by decide) ?_
  refine lv_bipush (v := 9) hx hb dX12_walkerOf_7 (by decide) ?_
  refine lv_iload_n hx hb dX12_walkerOf_9 rfl (lv_at hl 1 rfl) ?_
  refine lv_imul hx hb dX12_walkerOf_10 ?_
  refine lv_topi (fun x1 ex1 => ?_)
  have ex1 : x1.toInt = (9 : Int) * a1.toInt := by rw [ex1]; exact wk_mul (show (-2147483648) ≤ (9 : Int) * a1.toInt by omega) (show (9 : Int) * a1.toInt ≤ 2147483647 by omega)
  refine lv_iadd hx hb dX12_walkerOf_11 ?_
  refine lv_topi (fun x2 ex2 => ?_)
  have ex2 : x2.toInt = (216 : Int) + x1.toInt := by rw [ex2]; exact wk_add (show (-2147483648) ≤ (216 : Int) + x1.toInt by omega) (show (216 : Int) + x1.toInt ≤ 2147483647 by omega)
  refine lv_iload_n hx hb dX12_walkerOf_12 rfl (lv_at hl 2 rfl) ?_
  refine lv_iadd hx hb dX12_walkerOf_13 ?_
  refine lv_topi (fun x3 ex3 => ?_)
  have ex3 : x3.toInt = x2.toInt + (2 : Int) := by rw [ex3]; exact wk_add (show (-2147483648) ≤ x2.toInt + (2 : Int) by omega) (show x2.toInt + (2 : Int) ≤ 2147483647 by omega)
  refine tk_ialdR hC hK hw hT kM_at12 rfl (show 0 ≤ x3.toInt by omega) (show x3.toInt < 296 by omega) dX12_walkerOf_14 (fun x4 c5 Ex4 => ?_)
  have c5 : gi w0 12 (9 * a1.toInt + 218).toNat = x4 := (congrArg (gi w0 12) (congrArg Int.toNat (show 9 * a1.toInt + 218 = x3.toInt by omega))).trans c5
  have bx4 := tk_rgI rfl 218 9 4 0 3 (by decide +kernel) ⟨(a1.toInt - 0).toNat, by omega, show x3.toInt.toNat = 218 + 9 * (a1.toInt - 0).toNat by omega⟩ Ex4
  exact tk_iret hC hr hlocks hK ⟨hT, hF, ⟨(show 0 ≤ x4.toInt by omega), (show x4.toInt ≤ 3 by omega), c5⟩⟩ hw dX12_walkerOf_15
abbrev P_X12_placeAt_2 (ad : Nat → Nat) (cy : Nat → ClassId) (B : Int) (qr : Nat) (s1 : Int) (a1 : Int32) (a2 : Int32) (w0 : va_W) : Int32 → va_W → Prop := fun r u => TW ksM ad cy B qr 12 u ∧ FE ksM ([] : List (Nat × Nat × Nat)) w0 u ∧ ((20 ≤ r.toInt ∧ r.toInt ≤ 2438))
set_option maxHeartbeats 4000000 in
set_option maxRecDepth 100000 in
theorem k_X12_placeAt_2 (l : Launch) (adK adV : Nat → Nat) (dC : Nat → ClassId) (dI : Nat → Nat → Nat) (cy : Nat → ClassId) (ad : Nat → Nat) (B : Int) (hB0 : 100000 ≤ B) (hB1 : B ≤ 1073741824) (qr : Nat) (s1 : Int)  (a1 : Int32) (ra1 : 1 ≤ a1.toInt) (ta1 : a1.toInt ≤ 121) (a2 : Int32) (ra2 : 0 ≤ a2.toInt) (ta2 : a2.toInt ≤ 9) (w0 : va_W) (sz : Nat) (hT : TW ksM ad cy B qr 12 w0)  : Met l yX12_placeAt wsX12_placeAt ({ frames := 1, cells := 0, slots := 0, locals := 12 }) (va_Pc [.ref (ad 0), .int a1, .int a2, .int 0] (wpreS adK adV dC dI cy sz w0)) (va_Qi (P_X12_placeAt_2 ad cy B qr s1 a1 a2 w0) (fun u : va_W => wpost dC dI cy (va_A w0 sz) u) (va_A w0 sz)) 0 0 (va_A w0 sz) := by
  refine Met.ofW (cc := cX12_placeAt) (maxL := 4) (ret := (some .int)) (by decide) rfl ?_
  intro p e s m args below meth c s₁ Bk hml hv
  obtain ⟨rfl, ⟨hsz, hP, hK, hD0⟩, hE, hSR⟩ := hv
  have hx := Bk.exec
  have hb := Bk.bytes
  have hr := Bk.returns
  have hlocks := Bk.notSynchronized
  have hC : CallFix p m c cX12_placeAt 4 s _ wsX12_placeAt RX12 := ⟨hx, hb, hml, findClass_of_methodNamed Bk.named, atoms_spec (ws := wsX12_placeAt) Bk.pre⟩
  subst hsz
  have hD := hD0.self (sz := s.heap.size)
  generalize hAe : va_A w0 s.heap.size = A at hD hE ⊢
  have hA : ∀ q : Nat, s.heap.size ≤ q → A q := fun q h => by rw [← hAe]; exact Or.inr h
  have hw : Wd dC dI A s.heap s.heap [] w0 := ⟨hP, hD, va_S.rf⟩
  have hF : FE ksM ([] : List (Nat × Nat × Nat)) w0 w0 := FE.rf
  have hl := lv_entry ([.ref (ad 0), .int a1, .int a2, .int 0]) (n := 4) (Nat.le_of_ble_eq_true rfl)
  rw [lg_entry_eq]
  generalize (lg_sl ([.ref (ad 0), .int a1, .int a2, .int 0]) ++ List.replicate (4 - (lg_sl ([.ref (ad 0), .int a1, .int a2, .int 0])).length) Slot.unset).toArray = ls at hl ⊢
  have hl : lv_has ls 4 [(0, .ref (ad 0)), (1, .int a1), (2, .int a2), (3, .int 0)] := hl
  generalize hloc : ([] : List Loc) = locs at hw ⊢
  refine lv_iload_n hx hb dX12_placeAt_0 rfl (lv_at hl 1 rfl) ?_
  refine lv_bipush (v := 10) hx hb dX12_placeAt_1 (by decide) ?_
  refine lv_imul hx hb dX12_placeAt_3 ?_
  refine lv_topi (fun x1 ex1 => ?_)
  have ex1 : x1.toInt = a1.toInt * (10 : Int) := by rw [ex1]; exact wk_mul (show (-2147483648) ≤ a1.toInt * (10 : Int) by omega) (show a1.toInt * (10 : Int) ≤ 2147483647 by omega)
  refine lv_iload_n hx hb dX12_placeAt_4 rfl (lv_at hl 2 rfl) ?_
  refine lv_iadd hx hb dX12_placeAt_5 ?_
  refine lv_topi (fun x2 ex2 => ?_)
  have ex2 : x2.toInt = x1.toInt + a2.toInt := by rw [ex2]; exact wk_add (show (-2147483648) ≤ x1.toInt + a2.toInt by omega) (show x1.toInt + a2.toInt ≤ 2147483647 by omega)
  refine lv_iconst (v := 2) hx hb dX12_placeAt_6 (by decide) ?_
  refine lv_imul hx hb dX12_placeAt_7 ?_
  refine lv_topi (fun x3 ex3 => ?_)
  have ex3 : x3.toInt = x2.toInt * (2 : Int) := by rw [ex3]; exact wk_mul (show (-2147483648) ≤ x2.toInt * (2 : Int) by omega) (show x2.toInt * (2 : Int) ≤ 2147483647 by omega)
  refine lv_iload_n hx hb dX12_placeAt_8 rfl (lv_at hl 3 rfl) ?_
  refine lv_if_eq (tgt := 16) hx hb dX12_placeAt_9 (by decide) (fun _ => ?_) (fun c => absurd (by decide) c)
  refine lv_iconst (v := 0) hx hb dX12_placeAt_16 (by decide) ?_
  refine lv_iadd hx hb dX12_placeAt_17 ?_
  refine lv_topi (fun x4 ex4 => ?_)
  have ex4 : x4.toInt = x3.toInt + (0 : Int) := by rw [ex4]; exact wk_add (show (-2147483648) ≤ x3.toInt + (0 : Int) by omega) (show x3.toInt + (0 : Int) ≤ 2147483647 by omega)
  exact tk_iret hC hr hlocks hK ⟨hT, hF, ⟨(show 20 ≤ x4.toInt by omega), (show x4.toInt ≤ 2438 by omega)⟩⟩ hw dX12_placeAt_18
abbrev P_X12_could_2 (ad : Nat → Nat) (cy : Nat → ClassId) (B : Int) (qr : Nat) (s1 : Int) (a1 : Int32) (a2 : Int32) (a4 : Int32) (w0 : va_W) : va_W → Prop := fun u => TW ksM ad cy B qr 12 u ∧ FE ksM [(76, 0, 2600)] w0 u ∧ ((True))
set_option maxHeartbeats 4000000 in
set_option maxRecDepth 100000 in
theorem k_X12_could_2 (l : Launch) (adK adV : Nat → Nat) (dC : Nat → ClassId) (dI : Nat → Nat → Nat) (cy : Nat → ClassId) (ad : Nat → Nat) (B : Int) (hB0 : 100000 ≤ B) (hB1 : B ≤ 1073741824) (qr : Nat) (s1 : Int)  (a1 : Int32) (ra1 : 1 ≤ a1.toInt) (ta1 : a1.toInt ≤ 121) (a2 : Int32) (ra2 : 0 ≤ a2.toInt) (ta2 : a2.toInt ≤ 9) (a4 : Int32) (w0 : va_W) (sz : Nat) (hT : TW ksM ad cy B qr 12 w0)  : Met l yX12_could wsX12_could ({ frames := 2, cells := 0, slots := 0, locals := 35 }) (va_Pc [.ref (ad 0), .int a1, .int a2, .int 0, .int a4] (wpreS adK adV dC dI cy sz w0)) (va_Qv (P_X12_could_2 ad cy B qr s1 a1 a2 a4 w0) (fun u : va_W => wpost dC dI cy (va_A w0 sz) u) (va_A w0 sz)) 0 0 (va_A w0 sz) := by
  refine Met.ofW (cc := cX12_could) (maxL := 6) (ret := none) (by decide) rfl ?_
  intro p e s m args below meth c s₁ Bk hml hv
  obtain ⟨rfl, ⟨hsz, hP, hK, hD0⟩, hE, hSR⟩ := hv
  have hx := Bk.exec
  have hb := Bk.bytes
  have hr := Bk.returns
  have hlocks := Bk.notSynchronized
  have hC : CallFix p m c cX12_could 6 s _ wsX12_could RX12 := ⟨hx, hb, hml, findClass_of_methodNamed Bk.named, atoms_spec (ws := wsX12_could) Bk.pre⟩
  subst hsz
  have hD := hD0.self (sz := s.heap.size)
  generalize hAe : va_A w0 s.heap.size = A at hD hE ⊢
  have hA : ∀ q : Nat, s.heap.size ≤ q → A q := fun q h => by rw [← hAe]; exact Or.inr h
  have hw : Wd dC dI A s.heap s.heap [] w0 := ⟨hP, hD, va_S.rf⟩
  have hF : FE ksM [(76, 0, 2600)] w0 w0 := FE.rf
  have hl := lv_entry ([.ref (ad 0), .int a1, .int a2, .int 0, .int a4]) (n := 6) (Nat.le_of_ble_eq_true rfl)
  rw [lg_entry_eq]
  generalize (lg_sl ([.ref (ad 0), .int a1, .int a2, .int 0, .int a4]) ++ List.replicate (6 - (lg_sl ([.ref (ad 0), .int a1, .int a2, .int 0, .int a4])).length) Slot.unset).toArray = ls at hl ⊢
  have hl : lv_has ls 6 [(0, .ref (ad 0)), (1, .int a1), (2, .int a2), (3, .int 0), (4, .int a4)] := hl
  generalize hloc : ([] : List Loc) = locs at hw ⊢
  have hinX12 : ∀ w ∈ u_ws RX12 TX12 42, w ∈ wsX12_could := fun _ h => List.mem_cons_of_mem _ (List.mem_append_right _ (h))
  have J30 : ∀ (v30_5 : Int32) (H : Heap) (locs : List Loc) (ls : Array Slot) (w1 : va_W), 1 ≤ a1.toInt → a1.toInt ≤ 121 → 0 ≤ a2.toInt → a2.toInt ≤ 9 → 20 ≤ v30_5.toInt → v30_5.toInt ≤ 2438 → Wd dC dI A s.heap H locs w1 → TW ksM ad cy B qr 12 w1 → FE ksM [(76, 0, 2600)] w0 w1 → lv_has ls 6 [(0, .ref (ad 0)), (1, .int a1), (2, .int a2), (3, .int 0), (4, .int a4), (5, .int v30_5)] → W p l e ({ frames := 2, cells := 0, slots := 0, locals := 35 }) s m (List.toArray [.ref (ad 0), .int a1, .int a2, .int 0, .int a4]) below meth c H locs 0 0 (MQ below (va_Qv (P_X12_could_2 ad cy B qr s1 a1 a2 a4 w0) (fun u : va_W => wpost dC dI cy A u) A) (List.toArray [.ref (ad 0), .int a1, .int a2, .int 0, .int a4]) s 0 0 A) (F0 m 30 ls []) := by
    intro v30_5 H locs ls w1 r2 t3 r4 t5 r6 t7 hw hT hF hl
    exact tk_vret hC hr hlocks hK ⟨hT, hF, trivial⟩ hw dX12_could_30
  refine lv_aload_n hx hb dX12_could_0 rfl (lv_at hl 0 rfl) ?_
  refine lv_iload_n hx hb dX12_could_1 rfl (lv_at hl 1 rfl) ?_
  refine lv_iload_n hx hb dX12_could_2 rfl (lv_at hl 2 rfl) ?_
  refine lv_iload_n hx hb dX12_could_3 rfl (lv_at hl 3 rfl) ?_
  refine tk_Vi hC hK hw hT hA hE hSR kM_at0 (by decide) rfl (k_X12_placeAt_2 l adK adV dC dI cy ad B (by omega) (by omega) qr s1   a1 (show 1 ≤ a1.toInt by omega) (show a1.toInt ≤ 121 by omega) a2 (show 0 ≤ a2.toInt by omega) (show a2.toInt ≤ 9 by omega) w0 s.heap.size hT ) (cwV 3 hC.2.2.2.2 gX12_could_X12_placeAt rfl rfl rfl (by decide +kernel) ⟨Nat.le_of_ble_eq_true rfl, Nat.le_of_ble_eq_true rfl⟩) rfl hl.1 rfl (Nat.le_of_ble_eq_true rfl) dX12_could_4 (fun r8 w10 H locs hp9 hw => ?_)
  obtain ⟨hT, k11, hg14⟩ := hp9
  have hF := hF.tr k11 (by decide)
  obtain ⟨g12, g13⟩ := hg14
  refine lv_istore (lv' := [(5, .int r8), (0, .ref (ad 0)), (1, .int a1), (2, .int a2), (3, .int 0), (4, .int a4)]) hx hb dX12_could_7 hl (by decide) rfl (fun ls hl => ?_)
  refine lv_iload hx hb dX12_could_9 (lv_at hl 5 rfl) ?_
  refine lv_aload_n hx hb dX12_could_11 rfl (lv_at hl 1 rfl) ?_
  refine tk_getA hC hK hw hT hinX12 kM_at0 (by decide) rfl 34 (by decide) (List.mem_of_getElem? (i := 1) rfl) rfl rfl dX12_could_12 ?_
  refine lv_iload hx hb dX12_could_15 (lv_at hl 0 rfl) ?_
  refine tk_iald hC hK hw hT kM_at17 rfl rfl (show 0 ≤ r8.toInt by omega) (show r8.toInt < 2600 by omega) dX12_could_17 (fun x15 c16 rx15 tx15 => ?_)
  refine lv_icmp_ge (tgt := 30) hx hb dX12_could_18 (by decide) (fun c17 => ?_) (fun c17 => ?_)
  · have c17 : x15.toInt ≤ a4.toInt := wk_le.mp c17
    exact J30 r8 H locs ls w10 (show 1 ≤ a1.toInt by omega) (show a1.toInt ≤ 121 by omega) (show 0 ≤ a2.toInt by omega) (show a2.toInt ≤ 9 by omega) (show 20 ≤ r8.toInt by omega) (show r8.toInt ≤ 2438 by omega)  hw hT hF  (lv_sub hl [1, 2, 3, 4, 5, 0] rfl)
  · have c17 : a4.toInt < x15.toInt := wk_leF c17
    refine lv_aload_n hx hb dX12_could_21 rfl (lv_at hl 1 rfl) ?_
    refine tk_getA hC hK hw hT hinX12 kM_at0 (by decide) rfl 34 (by decide) (List.mem_of_getElem? (i := 1) rfl) rfl rfl dX12_could_22 ?_
    refine lv_iload hx hb dX12_could_25 (lv_at hl 0 rfl) ?_
    refine lv_iload hx hb dX12_could_27 (lv_at hl 5 rfl) ?_
    refine tk_iast hC hK hw hT kM_at17 (by decide) rfl rfl (show 0 ≤ r8.toInt by omega) (show r8.toInt < 2600 by omega) (wk_i32 a4).1 (wk_i32 a4).2 dX12_could_29 (fun H locs w18 hw hT k20 c19 => ?_)
    have hF := hF.put kM_at17 (inE_of (a := 0) (b := 2600) (by decide) (show 0 ≤ r8.toInt.toNat by omega) (show r8.toInt.toNat ≤ 2600 by omega)) k20
    exact J30 r8 H locs ls w18 (show 1 ≤ a1.toInt by omega) (show a1.toInt ≤ 121 by omega) (show 0 ≤ a2.toInt by omega) (show a2.toInt ≤ 9 by omega) (show 20 ≤ r8.toInt by omega) (show r8.toInt ≤ 2438 by omega)  hw hT hF  (lv_sub hl [1, 2, 3, 4, 5, 0] rfl)
abbrev P_X12_placeAt_3 (ad : Nat → Nat) (cy : Nat → ClassId) (B : Int) (qr : Nat) (s1 : Int) (a1 : Int32) (a2 : Int32) (w0 : va_W) : Int32 → va_W → Prop := fun r u => TW ksM ad cy B qr 12 u ∧ FE ksM ([] : List (Nat × Nat × Nat)) w0 u ∧ ((21 ≤ r.toInt ∧ r.toInt ≤ 2439))
set_option maxHeartbeats 4000000 in
set_option maxRecDepth 100000 in
theorem k_X12_placeAt_3 (l : Launch) (adK adV : Nat → Nat) (dC : Nat → ClassId) (dI : Nat → Nat → Nat) (cy : Nat → ClassId) (ad : Nat → Nat) (B : Int) (hB0 : 100000 ≤ B) (hB1 : B ≤ 1073741824) (qr : Nat) (s1 : Int)  (a1 : Int32) (ra1 : 1 ≤ a1.toInt) (ta1 : a1.toInt ≤ 121) (a2 : Int32) (ra2 : 0 ≤ a2.toInt) (ta2 : a2.toInt ≤ 9) (w0 : va_W) (sz : Nat) (hT : TW ksM ad cy B qr 12 w0)  : Met l yX12_placeAt wsX12_placeAt ({ frames := 1, cells := 0, slots := 0, locals := 12 }) (va_Pc [.ref (ad 0), .int a1, .int a2, .int 1] (wpreS adK adV dC dI cy sz w0)) (va_Qi (P_X12_placeAt_3 ad cy B qr s1 a1 a2 w0) (fun u : va_W => wpost dC dI cy (va_A w0 sz) u) (va_A w0 sz)) 0 0 (va_A w0 sz) := by
  refine Met.ofW (cc := cX12_placeAt) (maxL := 4) (ret := (some .int)) (by decide) rfl ?_
  intro p e s m args below meth c s₁ Bk hml hv
  obtain ⟨rfl, ⟨hsz, hP, hK, hD0⟩, hE, hSR⟩ := hv
  have hx := Bk.exec
  have hb := Bk.bytes
  have hr := Bk.returns
  have hlocks := Bk.notSynchronized
  have hC : CallFix p m c cX12_placeAt 4 s _ wsX12_placeAt RX12 := ⟨hx, hb, hml, findClass_of_methodNamed Bk.named, atoms_spec (ws := wsX12_placeAt) Bk.pre⟩
  subst hsz
  have hD := hD0.self (sz := s.heap.size)
  generalize hAe : va_A w0 s.heap.size = A at hD hE ⊢
  have hA : ∀ q : Nat, s.heap.size ≤ q → A q := fun q h => by rw [← hAe]; exact Or.inr h
  have hw : Wd dC dI A s.heap s.heap [] w0 := ⟨hP, hD, va_S.rf⟩
  have hF : FE ksM ([] : List (Nat × Nat × Nat)) w0 w0 := FE.rf
  have hl := lv_entry ([.ref (ad 0), .int a1, .int a2, .int 1]) (n := 4) (Nat.le_of_ble_eq_true rfl)
  rw [lg_entry_eq]
  generalize (lg_sl ([.ref (ad 0), .int a1, .int a2, .int 1]) ++ List.replicate (4 - (lg_sl ([.ref (ad 0), .int a1, .int a2, .int 1])).length) Slot.unset).toArray = ls at hl ⊢
  have hl : lv_has ls 4 [(0, .ref (ad 0)), (1, .int a1), (2, .int a2), (3, .int 1)] := hl
  generalize hloc : ([] : List Loc) = locs at hw ⊢
  refine lv_iload_n hx hb dX12_placeAt_0 rfl (lv_at hl 1 rfl) ?_
  refine lv_bipush (v := 10) hx hb dX12_placeAt_1 (by decide) ?_
  refine lv_imul hx hb dX12_placeAt_3 ?_
  refine lv_topi (fun x1 ex1 => ?_)
  have ex1 : x1.toInt = a1.toInt * (10 : Int) := by rw [ex1]; exact wk_mul (show (-2147483648) ≤ a1.toInt * (10 : Int) by omega) (show a1.toInt * (10 : Int) ≤ 2147483647 by omega)
  refine lv_iload_n hx hb dX12_placeAt_4 rfl (lv_at hl 2 rfl) ?_
  refine lv_iadd hx hb dX12_placeAt_5 ?_
  refine lv_topi (fun x2 ex2 => ?_)
  have ex2 : x2.toInt = x1.toInt + a2.toInt := by rw [ex2]; exact wk_add (show (-2147483648) ≤ x1.toInt + a2.toInt by omega) (show x1.toInt + a2.toInt ≤ 2147483647 by omega)
  refine lv_iconst (v := 2) hx hb dX12_placeAt_6 (by decide) ?_
  refine lv_imul hx hb dX12_placeAt_7 ?_
  refine lv_topi (fun x3 ex3 => ?_)
  have ex3 : x3.toInt = x2.toInt * (2 : Int) := by rw [ex3]; exact wk_mul (show (-2147483648) ≤ x2.toInt * (2 : Int) by omega) (show x2.toInt * (2 : Int) ≤ 2147483647 by omega)
  refine lv_iload_n hx hb dX12_placeAt_8 rfl (lv_at hl 3 rfl) ?_
  refine lv_if_eq (tgt := 16) hx hb dX12_placeAt_9 (by decide) (fun c => absurd c (by decide)) (fun _ => ?_)
  refine lv_iconst (v := 1) hx hb dX12_placeAt_12 (by decide) ?_
  refine lv_goto (tgt := 17) hx hb dX12_placeAt_13 (by decide) ?_
  refine lv_iadd hx hb dX12_placeAt_17 ?_
  refine lv_topi (fun x4 ex4 => ?_)
  have ex4 : x4.toInt = x3.toInt + (1 : Int) := by rw [ex4]; exact wk_add (show (-2147483648) ≤ x3.toInt + (1 : Int) by omega) (show x3.toInt + (1 : Int) ≤ 2147483647 by omega)
  exact tk_iret hC hr hlocks hK ⟨hT, hF, ⟨(show 21 ≤ x4.toInt by omega), (show x4.toInt ≤ 2439 by omega)⟩⟩ hw dX12_placeAt_18
abbrev P_X12_could_3 (ad : Nat → Nat) (cy : Nat → ClassId) (B : Int) (qr : Nat) (s1 : Int) (a1 : Int32) (a2 : Int32) (a4 : Int32) (w0 : va_W) : va_W → Prop := fun u => TW ksM ad cy B qr 12 u ∧ FE ksM [(76, 0, 2600)] w0 u ∧ ((True))
set_option maxHeartbeats 4000000 in
set_option maxRecDepth 100000 in
theorem k_X12_could_3 (l : Launch) (adK adV : Nat → Nat) (dC : Nat → ClassId) (dI : Nat → Nat → Nat) (cy : Nat → ClassId) (ad : Nat → Nat) (B : Int) (hB0 : 100000 ≤ B) (hB1 : B ≤ 1073741824) (qr : Nat) (s1 : Int)  (a1 : Int32) (ra1 : 1 ≤ a1.toInt) (ta1 : a1.toInt ≤ 121) (a2 : Int32) (ra2 : 0 ≤ a2.toInt) (ta2 : a2.toInt ≤ 9) (a4 : Int32) (w0 : va_W) (sz : Nat) (hT : TW ksM ad cy B qr 12 w0)  : Met l yX12_could wsX12_could ({ frames := 2, cells := 0, slots := 0, locals := 35 }) (va_Pc [.ref (ad 0), .int a1, .int a2, .int 1, .int a4] (wpreS adK adV dC dI cy sz w0)) (va_Qv (P_X12_could_3 ad cy B qr s1 a1 a2 a4 w0) (fun u : va_W => wpost dC dI cy (va_A w0 sz) u) (va_A w0 sz)) 0 0 (va_A w0 sz) := by
  refine Met.ofW (cc := cX12_could) (maxL := 6) (ret := none) (by decide) rfl ?_
  intro p e s m args below meth c s₁ Bk hml hv
  obtain ⟨rfl, ⟨hsz, hP, hK, hD0⟩, hE, hSR⟩ := hv
  have hx := Bk.exec
  have hb := Bk.bytes
  have hr := Bk.returns
  have hlocks := Bk.notSynchronized
  have hC : CallFix p m c cX12_could 6 s _ wsX12_could RX12 := ⟨hx, hb, hml, findClass_of_methodNamed Bk.named, atoms_spec (ws := wsX12_could) Bk.pre⟩
  subst hsz
  have hD := hD0.self (sz := s.heap.size)
  generalize hAe : va_A w0 s.heap.size = A at hD hE ⊢
  have hA : ∀ q : Nat, s.heap.size ≤ q → A q := fun q h => by rw [← hAe]; exact Or.inr h
  have hw : Wd dC dI A s.heap s.heap [] w0 := ⟨hP, hD, va_S.rf⟩
  have hF : FE ksM [(76, 0, 2600)] w0 w0 := FE.rf
  have hl := lv_entry ([.ref (ad 0), .int a1, .int a2, .int 1, .int a4]) (n := 6) (Nat.le_of_ble_eq_true rfl)
  rw [lg_entry_eq]
  generalize (lg_sl ([.ref (ad 0), .int a1, .int a2, .int 1, .int a4]) ++ List.replicate (6 - (lg_sl ([.ref (ad 0), .int a1, .int a2, .int 1, .int a4])).length) Slot.unset).toArray = ls at hl ⊢
  have hl : lv_has ls 6 [(0, .ref (ad 0)), (1, .int a1), (2, .int a2), (3, .int 1), (4, .int a4)] := hl
  generalize hloc : ([] : List Loc) = locs at hw ⊢
  have hinX12 : ∀ w ∈ u_ws RX12 TX12 42, w ∈ wsX12_could := fun _ h => List.mem_cons_of_mem _ (List.mem_append_right _ (h))
  have J30 : ∀ (v30_5 : Int32) (H : Heap) (locs : List Loc) (ls : Array Slot) (w1 : va_W), 1 ≤ a1.toInt → a1.toInt ≤ 121 → 0 ≤ a2.toInt → a2.toInt ≤ 9 → 21 ≤ v30_5.toInt → v30_5.toInt ≤ 2439 → Wd dC dI A s.heap H locs w1 → TW ksM ad cy B qr 12 w1 → FE ksM [(76, 0, 2600)] w0 w1 → lv_has ls 6 [(0, .ref (ad 0)), (1, .int a1), (2, .int a2), (3, .int 1), (4, .int a4), (5, .int v30_5)] → W p l e ({ frames := 2, cells := 0, slots := 0, locals := 35 }) s m (List.toArray [.ref (ad 0), .int a1, .int a2, .int 1, .int a4]) below meth c H locs 0 0 (MQ below (va_Qv (P_X12_could_3 ad cy B qr s1 a1 a2 a4 w0) (fun u : va_W => wpost dC dI cy A u) A) (List.toArray [.ref (ad 0), .int a1, .int a2, .int 1, .int a4]) s 0 0 A) (F0 m 30 ls []) := by
    intro v30_5 H locs ls w1 r2 t3 r4 t5 r6 t7 hw hT hF hl
    exact tk_vret hC hr hlocks hK ⟨hT, hF, trivial⟩ hw dX12_could_30
  refine lv_aload_n hx hb dX12_could_0 rfl (lv_at hl 0 rfl) ?_
  refine lv_iload_n hx hb dX12_could_1 rfl (lv_at hl 1 rfl) ?_
  refine lv_iload_n hx hb dX12_could_2 rfl (lv_at hl 2 rfl) ?_
  refine lv_iload_n hx hb dX12_could_3 rfl (lv_at hl 3 rfl) ?_
  refine tk_Vi hC hK hw hT hA hE hSR kM_at0 (by decide) rfl (k_X12_placeAt_3 l adK adV dC dI cy ad B (by omega) (by omega) qr s1   a1 (show 1 ≤ a1.toInt by omega) (show a1.toInt ≤ 121 by omega) a2 (show 0 ≤ a2.toInt by omega) (show a2.toInt ≤ 9 by omega) w0 s.heap.size hT ) (cwV 3 hC.2.2.2.2 gX12_could_X12_placeAt rfl rfl rfl (by decide +kernel) ⟨Nat.le_of_ble_eq_true rfl, Nat.le_of_ble_eq_true rfl⟩) rfl hl.1 rfl (Nat.le_of_ble_eq_true rfl) dX12_could_4 (fun r8 w10 H locs hp9 hw => ?_)
  obtain ⟨hT, k11, hg14⟩ := hp9
  have hF := hF.tr k11 (by decide)
  obtain ⟨g12, g13⟩ := hg14
  refine lv_istore (lv' := [(5, .int r8), (0, .ref (ad 0)), (1, .int a1), (2, .int a2), (3, .int 1), (4, .int a4)]) hx hb dX12_could_7 hl (by decide) rfl (fun ls hl => ?_)
  refine lv_iload hx hb dX12_could_9 (lv_at hl 5 rfl) ?_
  refine lv_aload_n hx hb dX12_could_11 rfl (lv_at hl 1 rfl) ?_
  refine tk_getA hC hK hw hT hinX12 kM_at0 (by decide) rfl 34 (by decide) (List.mem_of_getElem? (i := 1) rfl) rfl rfl dX12_could_12 ?_
  refine lv_iload hx hb dX12_could_15 (lv_at hl 0 rfl) ?_
  refine tk_iald hC hK hw hT kM_at17 rfl rfl (show 0 ≤ r8.toInt by omega) (show r8.toInt < 2600 by omega) dX12_could_17 (fun x15 c16 rx15 tx15 => ?_)
  refine lv_icmp_ge (tgt := 30) hx hb dX12_could_18 (by decide) (fun c17 => ?_) (fun c17 => ?_)
  · have c17 : x15.toInt ≤ a4.toInt := wk_le.mp c17
    exact J30 r8 H locs ls w10 (show 1 ≤ a1.toInt by omega) (show a1.toInt ≤ 121 by omega) (show 0 ≤ a2.toInt by omega) (show a2.toInt ≤ 9 by omega) (show 21 ≤ r8.toInt by omega) (show r8.toInt ≤ 2439 by omega)  hw hT hF  (lv_sub hl [1, 2, 3, 4, 5, 0] rfl)
  · have c17 : a4.toInt < x15.toInt := wk_leF c17
    refine lv_aload_n hx hb dX12_could_21 rfl (lv_at hl 1 rfl) ?_
    refine tk_getA hC hK hw hT hinX12 kM_at0 (by decide) rfl 34 (by decide) (List.mem_of_getElem? (i := 1) rfl) rfl rfl dX12_could_22 ?_
    refine lv_iload hx hb dX12_could_25 (lv_at hl 0 rfl) ?_
    refine lv_iload hx hb dX12_could_27 (lv_at hl 5 rfl) ?_
    refine tk_iast hC hK hw hT kM_at17 (by decide) rfl rfl (show 0 ≤ r8.toInt by omega) (show r8.toInt < 2600 by omega) (wk_i32 a4).1 (wk_i32 a4).2 dX12_could_29 (fun H locs w18 hw hT k20 c19 => ?_)
    have hF := hF.put kM_at17 (inE_of (a := 0) (b := 2600) (by decide) (show 0 ≤ r8.toInt.toNat by omega) (show r8.toInt.toNat ≤ 2600 by omega)) k20
    exact J30 r8 H locs ls w18 (show 1 ≤ a1.toInt by omega) (show a1.toInt ≤ 121 by omega) (show 0 ≤ a2.toInt by omega) (show a2.toInt ≤ 9 by omega) (show 21 ≤ r8.toInt by omega) (show r8.toInt ≤ 2439 by omega)  hw hT hF  (lv_sub hl [1, 2, 3, 4, 5, 0] rfl)
abbrev P_X12_leads_1 (ad : Nat → Nat) (cy : Nat → ClassId) (B : Int) (qr : Nat) (s1 : Int) (a1 : Int32) (a2 : Int32) (a3 : Int32) (a4 : Int32) (a6 : Int32) (w0 : va_W) : va_W → Prop := fun u => TW ksM ad cy B qr 12 u ∧ FE ksM [(72, 0, 12), (73, 0, 10), (76, 0, 2600)] w0 u ∧ ((True))
set_option maxHeartbeats 4000000 in
set_option maxRecDepth 100000 in
theorem k_X12_leads_1 (l : Launch) (adK adV : Nat → Nat) (dC : Nat → ClassId) (dI : Nat → Nat → Nat) (cy : Nat → ClassId) (ad : Nat → Nat) (B : Int) (hB0 : 100000 ≤ B) (hB1 : B ≤ 1073741824) (qr : Nat) (s1 : Int)  (a1 : Int32) (ra1 : 0 ≤ a1.toInt) (ta1 : a1.toInt ≤ 3) (a2 : Int32) (ra2 : 0 ≤ a2.toInt) (ta2 : a2.toInt ≤ 1073741824) (a3 : Int32) (ra3 : 0 ≤ a3.toInt) (ta3 : a3.toInt ≤ 120) (a4 : Int32) (ra4 : 0 ≤ a4.toInt) (ta4 : a4.toInt ≤ 9) (a6 : Int32) (ra6 : 0 ≤ a6.toInt) (ta6 : a6.toInt ≤ 120) (w0 : va_W) (sz : Nat) (hT : TW ksM ad cy B qr 12 w0)  : Met l yX12_leads wsX12_leads ({ frames := 5, cells := 0, slots := 0, locals := 103 }) (va_Pc [.ref (ad 0), .int a1, .int a2, .int a3, .int a4, .int 0, .int a6] (wpreS adK adV dC dI cy sz w0)) (va_Qv (P_X12_leads_1 ad cy B qr s1 a1 a2 a3 a4 a6 w0) (fun u : va_W => wpost dC dI cy (va_A w0 sz) u) (va_A w0 sz)) 0 0 (va_A w0 sz) := by
  refine Met.ofW (cc := cX12_leads) (maxL := 12) (ret := none) (by decide) rfl ?_
  intro p e s m args below meth c s₁ Bk hml hv
  obtain ⟨rfl, ⟨hsz, hP, hK, hD0⟩, hE, hSR⟩ := hv
  have hx := Bk.exec
  have hb := Bk.bytes
  have hr := Bk.returns
  have hlocks := Bk.notSynchronized
  have hC : CallFix p m c cX12_leads 12 s _ wsX12_leads RX12 := ⟨hx, hb, hml, findClass_of_methodNamed Bk.named, atoms_spec (ws := wsX12_leads) Bk.pre⟩
  subst hsz
  have hD := hD0.self (sz := s.heap.size)
  generalize hAe : va_A w0 s.heap.size = A at hD hE ⊢
  have hA : ∀ q : Nat, s.heap.size ≤ q → A q := fun q h => by rw [← hAe]; exact Or.inr h
  have hw : Wd dC dI A s.heap s.heap [] w0 := ⟨hP, hD, va_S.rf⟩
  have hF : FE ksM [(72, 0, 12), (73, 0, 10), (76, 0, 2600)] w0 w0 := FE.rf
  have hl := lv_entry ([.ref (ad 0), .int a1, .int a2, .int a3, .int a4, .int 0, .int a6]) (n := 12) (Nat.le_of_ble_eq_true rfl)
  rw [lg_entry_eq]
  generalize (lg_sl ([.ref (ad 0), .int a1, .int a2, .int a3, .int a4, .int 0, .int a6]) ++ List.replicate (12 - (lg_sl ([.ref (ad 0), .int a1, .int a2, .int a3, .int a4, .int 0, .int a6])).length) Slot.unset).toArray = ls at hl ⊢
  have hl : lv_has ls 12 [(0, .ref (ad 0)), (1, .int a1), (2, .int a2), (3, .int a3), (4, .int a4), (5, .int 0), (6, .int a6)] := hl
  generalize hloc : ([] : List Loc) = locs at hw ⊢
  have hinX12 : ∀ w ∈ u_ws RX12 TX12 42, w ∈ wsX12_leads := fun _ h => List.mem_cons_of_mem _ (List.mem_append_right _ (h))
  have J41 : ∀ (v41_7 : Int32) (H : Heap) (locs : List Loc) (ls : Array Slot) (w1 : va_W), 0 ≤ a1.toInt → a1.toInt ≤ 3 → 0 ≤ a2.toInt → a2.toInt ≤ 1073741824 → 0 ≤ a3.toInt → a3.toInt ≤ 120 → 0 ≤ a4.toInt → a4.toInt ≤ 9 → 0 ≤ a6.toInt → a6.toInt ≤ 120 → Wd dC dI A s.heap H locs w1 → TW ksM ad cy B qr 12 w1 → FE ksM [(72, 0, 12), (73, 0, 10), (76, 0, 2600)] w0 w1 → lv_has ls 12 [(0, .ref (ad 0)), (1, .int a1), (2, .int a2), (3, .int a3), (4, .int a4), (5, .int 0), (6, .int a6), (7, .int v41_7)] → W p l e ({ frames := 5, cells := 0, slots := 0, locals := 103 }) s m (List.toArray [.ref (ad 0), .int a1, .int a2, .int a3, .int a4, .int 0, .int a6]) below meth c H locs 0 0 (MQ below (va_Qv (P_X12_leads_1 ad cy B qr s1 a1 a2 a3 a4 a6 w0) (fun u : va_W => wpost dC dI cy A u) A) (List.toArray [.ref (ad 0), .int a1, .int a2, .int a3, .int a4, .int 0, .int a6]) s 0 0 A) (F0 m 41 ls []) := by
    intro v41_7 H locs ls w1 r2 t3 r4 t5 r6 t7 r8 t9 r10 t11 hw hT hF hl
    exact tk_vret hC hr hlocks hK ⟨hT, hF, trivial⟩ hw dX12_leads_41
  have J181 : ∀ (v181_7 : Int32) (v181_8 : Int32) (v181_9 : Int32) (v181_10 : Int32) (f181_12__9_a1_toInt_217_toNat : Int32) (f181_12__9_a1_toInt_218_toNat : Int32) (H : Heap) (locs : List Loc) (ls : Array Slot) (w12 : va_W), 0 ≤ a1.toInt → a1.toInt ≤ 3 → 0 ≤ a2.toInt → a2.toInt ≤ 1073741824 → 0 ≤ a3.toInt → a3.toInt ≤ 120 → 0 ≤ a4.toInt → a4.toInt ≤ 9 → 0 ≤ a6.toInt → a6.toInt ≤ 120 → 0 ≤ v181_8.toInt → v181_8.toInt ≤ 1073741944 → 0 ≤ v181_9.toInt → v181_9.toInt ≤ 1 → (-1) ≤ v181_10.toInt → v181_10.toInt ≤ 11 → 0 ≤ f181_12__9_a1_toInt_217_toNat.toInt → f181_12__9_a1_toInt_217_toNat.toInt ≤ 9 → 0 ≤ f181_12__9_a1_toInt_218_toNat.toInt → f181_12__9_a1_toInt_218_toNat.toInt ≤ 3 → Wd dC dI A s.heap H locs w12 → TW ksM ad cy B qr 12 w12 → FE ksM [(72, 0, 12), (73, 0, 10), (76, 0, 2600)] w0 w12 → gi w12 12 (9 * a1.toInt + 217).toNat = f181_12__9_a1_toInt_217_toNat → gi w12 12 (9 * a1.toInt + 218).toNat = f181_12__9_a1_toInt_218_toNat → lv_has ls 12 [(0, .ref (ad 0)), (1, .int a1), (2, .int a2), (3, .int a3), (4, .int a4), (5, .int 0), (6, .int a6), (7, .int v181_7), (8, .int v181_8), (9, .int v181_9), (10, .int v181_10)] → W p l e ({ frames := 5, cells := 0, slots := 0, locals := 103 }) s m (List.toArray [.ref (ad 0), .int a1, .int a2, .int a3, .int a4, .int 0, .int a6]) below meth c H locs 0 0 (MQ below (va_Qv (P_X12_leads_1 ad cy B qr s1 a1 a2 a3 a4 a6 w0) (fun u : va_W => wpost dC dI cy A u) A) (List.toArray [.ref (ad 0), .int a1, .int a2, .int a3, .int a4, .int 0, .int a6]) s 0 0 A) (F0 m 181 ls []) := by
    intro v181_7 v181_8 v181_9 v181_10 f181_12__9_a1_toInt_217_toNat f181_12__9_a1_toInt_218_toNat H locs ls w12 r13 t14 r15 t16 r17 t18 r19 t20 r21 t22 r23 t24 r25 t26 r27 t28 r29 t30 r32 t33 hw hT hF c31 c34 hl
    exact tk_vret hC hr hlocks hK ⟨hT, hF, trivial⟩ hw dX12_leads_181
  have J241 : ∀ (v241_7 : Int32) (v241_8 : Int32) (v241_9 : Int32) (v241_10 : Int32) (v241_11 : Int32) (f241_12__9_a1_toInt_217_toNat : Int32) (f241_12__9_a1_toInt_218_toNat : Int32) (f241_12_1 : Int32) (H : Heap) (locs : List Loc) (ls : Array Slot) (w35 : va_W), 0 ≤ a1.toInt → a1.toInt ≤ 3 → 0 ≤ a2.toInt → a2.toInt ≤ 1073741824 → 0 ≤ a3.toInt → a3.toInt ≤ 120 → 0 ≤ a4.toInt → a4.toInt ≤ 9 → 0 ≤ a6.toInt → a6.toInt ≤ 120 → 0 ≤ v241_8.toInt → v241_8.toInt ≤ 1073741944 → 0 ≤ v241_9.toInt → v241_9.toInt ≤ 1 → 0 ≤ v241_10.toInt → v241_10.toInt ≤ 11 → 0 ≤ v241_11.toInt → v241_11.toInt ≤ 129 → 0 ≤ f241_12__9_a1_toInt_217_toNat.toInt → f241_12__9_a1_toInt_217_toNat.toInt ≤ 9 → 0 ≤ f241_12__9_a1_toInt_218_toNat.toInt → f241_12__9_a1_toInt_218_toNat.toInt ≤ 3 → 1 ≤ f241_12_1.toInt → f241_12_1.toInt ≤ 12 → Wd dC dI A s.heap H locs w35 → TW ksM ad cy B qr 12 w35 → FE ksM [(72, 0, 12), (73, 0, 10), (76, 0, 2600)] w0 w35 → gi w35 12 (9 * a1.toInt + 217).toNat = f241_12__9_a1_toInt_217_toNat → gi w35 12 (9 * a1.toInt + 218).toNat = f241_12__9_a1_toInt_218_toNat → gi w35 12 1 = f241_12_1 → lv_has ls 12 [(0, .ref (ad 0)), (1, .int a1), (2, .int a2), (3, .int a3), (4, .int a4), (5, .int 0), (6, .int a6), (7, .int v241_7), (8, .int v241_8), (9, .int v241_9), (10, .int v241_10), (11, .int v241_11)] → W p l e ({ frames := 5, cells := 0, slots := 0, locals := 103 }) s m (List.toArray [.ref (ad 0), .int a1, .int a2, .int a3, .int a4, .int 0, .int a6]) below meth c H locs 0 0 (MQ below (va_Qv (P_X12_leads_1 ad cy B qr s1 a1 a2 a3 a4 a6 w0) (fun u : va_W => wpost dC dI cy A u) A) (List.toArray [.ref (ad 0), .int a1, .int a2, .int a3, .int a4, .int 0, .int a6]) s 0 0 A) (F0 m 241 ls []) := by
    intro v241_7 v241_8 v241_9 v241_10 v241_11 f241_12__9_a1_toInt_217_toNat f241_12__9_a1_toInt_218_toNat f241_12_1 H locs ls w35 r36 t37 r38 t39 r40 t41 r42 t43 r44 t45 r46 t47 r48 t49 r50 t51 r52 t53 r54 t55 r57 t58 r60 t61 hw hT hF c56 c59 c62 hl
    exact tk_vret hC hr hlocks hK ⟨hT, hF, trivial⟩ hw dX12_leads_241
  have J145 : ∀ (v145_7 : Int32) (v145_8 : Int32) (v145_9 : Int32) (f145_12__9_a1_toInt_217_toNat : Int32) (f145_12__9_a1_toInt_218_toNat : Int32) (H : Heap) (locs : List Loc) (ls : Array Slot) (w63 : va_W), 0 ≤ a1.toInt → a1.toInt ≤ 3 → 0 ≤ a2.toInt → a2.toInt ≤ 1073741824 → 0 ≤ a3.toInt → a3.toInt ≤ 120 → 0 ≤ a4.toInt → a4.toInt ≤ 9 → 0 ≤ a6.toInt → a6.toInt ≤ 120 → 0 ≤ v145_8.toInt → v145_8.toInt ≤ 1073741944 → 0 ≤ v145_9.toInt → v145_9.toInt ≤ 1 → 0 ≤ f145_12__9_a1_toInt_217_toNat.toInt → f145_12__9_a1_toInt_217_toNat.toInt ≤ 9 → 0 ≤ f145_12__9_a1_toInt_218_toNat.toInt → f145_12__9_a1_toInt_218_toNat.toInt ≤ 3 → Wd dC dI A s.heap H locs w63 → TW ksM ad cy B qr 12 w63 → FE ksM [(72, 0, 12), (73, 0, 10), (76, 0, 2600)] w0 w63 → gi w63 12 (9 * a1.toInt + 217).toNat = f145_12__9_a1_toInt_217_toNat → gi w63 12 (9 * a1.toInt + 218).toNat = f145_12__9_a1_toInt_218_toNat → lv_has ls 12 [(0, .ref (ad 0)), (1, .int a1), (2, .int a2), (3, .int a3), (4, .int a4), (5, .int 0), (6, .int a6), (7, .int v145_7), (8, .int v145_8), (9, .int v145_9)] → W p l e ({ frames := 5, cells := 0, slots := 0, locals := 103 }) s m (List.toArray [.ref (ad 0), .int a1, .int a2, .int a3, .int a4, .int 0, .int a6]) below meth c H locs 0 0 (MQ below (va_Qv (P_X12_leads_1 ad cy B qr s1 a1 a2 a3 a4 a6 w0) (fun u : va_W => wpost dC dI cy A u) A) (List.toArray [.ref (ad 0), .int a1, .int a2, .int a3, .int a4, .int 0, .int a6]) s 0 0 A) (F0 m 145 ls []) := by
    intro v145_7 v145_8 v145_9 f145_12__9_a1_toInt_217_toNat f145_12__9_a1_toInt_218_toNat H locs ls w63 r64 t65 r66 t67 r68 t69 r70 t71 r72 t73 r74 t75 r76 t77 r78 t79 r81 t82 hw hT hF c80 c83 hl
    refine lv_aload_n hx hb dX12_leads_145 rfl (lv_at hl 0 rfl) ?_
    refine lv_aload_n hx hb dX12_leads_146 rfl (lv_at hl 0 rfl) ?_
    refine lv_iload_n hx hb dX12_leads_147 rfl (lv_at hl 1 rfl) ?_
    refine lv_iconst (v := 1) hx hb dX12_leads_148 (by decide) ?_
    refine tk_Vi hC hK hw hT hA hE hSR kM_at0 (by decide) rfl (k_X12_walkerOf_3 l adK adV dC dI cy ad B (by omega) (by omega) qr s1   a1 (show 0 ≤ a1.toInt by omega) (show a1.toInt ≤ 3 by omega) w63 H.size hT ) (cwV 2 hC.2.2.2.2 gX12_leads_X12_walkerOf rfl rfl rfl (by decide +kernel) ⟨Nat.le_of_ble_eq_true rfl, Nat.le_of_ble_eq_true rfl⟩) rfl hl.1 rfl (Nat.le_of_ble_eq_true rfl) dX12_leads_149 (fun r84 w86 H locs hp85 hw => ?_)
    obtain ⟨hT, k87, hg91⟩ := hp85
    have hF := hF.tr k87 (by decide)
    have c92 := k87.gi kM_at12 rfl c80
    have c93 := k87.gi kM_at12 rfl c83
    obtain ⟨g88, g89, c90⟩ := hg91
    obtain rfl : r84 = f145_12__9_a1_toInt_217_toNat := c90.symm.trans c92
    refine tk_Vv hC hK hw hT hA hE hSR kM_at0 (by decide) rfl (k_X12_spreads_1 l adK adV dC dI cy ad B (by omega) (by omega) qr s1   f145_12__9_a1_toInt_217_toNat (show 0 ≤ f145_12__9_a1_toInt_217_toNat.toInt by omega) (show f145_12__9_a1_toInt_217_toNat.toInt ≤ 9 by omega) w86 H.size hT ) (cwV 1 hC.2.2.2.2 gX12_leads_X12_spreads rfl rfl rfl (by decide +kernel) ⟨Nat.le_of_ble_eq_true rfl, Nat.le_of_ble_eq_true rfl⟩) rfl hl.1 rfl (Nat.le_of_ble_eq_true rfl) dX12_leads_152 (fun w96 H locs hp95 hw => ?_)
    obtain ⟨hT, k97, hg98⟩ := hp95
    have hF := hF.tr k97 (by decide)
    have c99 := k97.gi kM_at12 rfl c92
    have c100 := k97.gi kM_at12 rfl c93
    clear hg98
    refine lv_aload_n hx hb dX12_leads_155 rfl (lv_at hl 0 rfl) ?_
    refine lv_iload hx hb dX12_leads_156 (lv_at hl 4 rfl) ?_
    refine tk_Vi hC hK hw hT hA hE hSR kM_at0 (by decide) rfl (k_X12_streetFrom_1 l adK adV dC dI cy ad B (by omega) (by omega) qr s1   a4 (show 0 ≤ a4.toInt by omega) (show a4.toInt ≤ 9 by omega) w96 H.size hT ) (cwV 1 hC.2.2.2.2 gX12_leads_X12_streetFrom rfl rfl rfl (by decide +kernel) ⟨Nat.le_of_ble_eq_true rfl, Nat.le_of_ble_eq_true rfl⟩) rfl hl.1 rfl (Nat.le_of_ble_eq_true rfl) dX12_leads_158 (fun r101 w103 H locs hp102 hw => ?_)
    obtain ⟨hT, k104, hg114⟩ := hp102
    have hF := hF.tr k104 (by decide)
    have c115 := k104.gi kM_at12 rfl c99
    have c116 := k104.gi kM_at12 rfl c100
    rcases hg114 with ⟨g105, g106, ⟨x107, c108, rx107, tx107⟩⟩ | ⟨g109, g110, ⟨x111, c112, rx111, tx111⟩, c113⟩ | rfl
    · refine lv_istore (lv' := [(10, .int r101), (0, .ref (ad 0)), (1, .int a1), (2, .int a2), (3, .int a3), (4, .int a4), (5, .int 0), (6, .int a6), (7, .int v145_7), (8, .int v145_8), (9, .int v145_9)]) hx hb dX12_leads_161 hl (by decide) rfl (fun ls hl => ?_)
      refine lv_iload hx hb dX12_leads_163 (lv_at hl 0 rfl) ?_
      refine lv_if_lt (tgt := 181) hx hb dX12_leads_165 (by decide) (fun c => absurd c (fun h => absurd (show r101.toInt < (0 : Int) from wk_lt.mp h) (by omega))) (fun _ => ?_)
      refine lv_aload_n hx hb dX12_leads_168 rfl (lv_at hl 1 rfl) ?_
      refine lv_iload hx hb dX12_leads_169 (lv_at hl 0 rfl) ?_
      refine lv_iload hx hb dX12_leads_171 (lv_at hl 5 rfl) ?_
      refine lv_iload hx hb dX12_leads_173 (lv_at hl 9 rfl) ?_
      refine tk_Vi hC hK hw hT hA hE hSR kM_at0 (by decide) rfl (k_X12_isOpen_2 l adK adV dC dI cy ad B (by omega) (by omega) qr s1   r101 (show 0 ≤ r101.toInt by omega) (show r101.toInt ≤ 11 by omega) a4 (show 0 ≤ a4.toInt by omega) (show a4.toInt ≤ 9 by omega) v145_8 (show 0 ≤ v145_8.toInt by omega) (show v145_8.toInt ≤ 1073741944 by omega) w103 H.size hT ) (cwV 3 hC.2.2.2.2 gX12_leads_X12_isOpen rfl rfl rfl (by decide +kernel) ⟨Nat.le_of_ble_eq_true rfl, Nat.le_of_ble_eq_true rfl⟩) rfl hl.1 rfl (Nat.le_of_ble_eq_true rfl) dX12_leads_175 (fun r117 w119 H locs hp118 hw => ?_)
      obtain ⟨hT, k120, hg122⟩ := hp118
      have hF := hF.tr k120 (by decide)
      have c123 := k120.gi kM_at12 rfl c115
      have c124 := k120.gi kM_at12 rfl c116
      have c125 := k120.gi kM_at12 (by decide) c108
      rcases hg122 with rfl | rfl | ⟨rfl, c121⟩
      · refine lv_if_ne (tgt := 182) hx hb dX12_leads_178 (by decide) (fun c => absurd (by decide) c) (fun _ => ?_)
        exact J181 v145_7 v145_8 v145_9 r101 f145_12__9_a1_toInt_217_toNat f145_12__9_a1_toInt_218_toNat H locs ls w119 (show 0 ≤ a1.toInt by omega) (show a1.toInt ≤ 3 by omega) (show 0 ≤ a2.toInt by omega) (show a2.toInt ≤ 1073741824 by omega) (show 0 ≤ a3.toInt by omega) (show a3.toInt ≤ 120 by omega) (show 0 ≤ a4.toInt by omega) (show a4.toInt ≤ 9 by omega) (show 0 ≤ a6.toInt by omega) (show a6.toInt ≤ 120 by omega) (show 0 ≤ v145_8.toInt by omega) (show v145_8.toInt ≤ 1073741944 by omega) (show 0 ≤ v145_9.toInt by omega) (show v145_9.toInt ≤ 1 by omega) (show (-1) ≤ r101.toInt by omega) (show r101.toInt ≤ 11 by omega) (show 0 ≤ f145_12__9_a1_toInt_217_toNat.toInt by omega) (show f145_12__9_a1_toInt_217_toNat.toInt ≤ 9 by omega) (show 0 ≤ f145_12__9_a1_toInt_218_toNat.toInt by omega) (show f145_12__9_a1_toInt_218_toNat.toInt ≤ 3 by omega)  hw hT hF c123 c124 (lv_sub hl [1, 2, 3, 4, 5, 6, 7, 8, 9, 10, 0] rfl)
      · refine lv_if_ne (tgt := 182) hx hb dX12_leads_178 (by decide) (fun _ => ?_) (fun c => absurd c (by decide))
        refine lv_iload_n hx hb dX12_leads_182 rfl (lv_at hl 4 rfl) ?_
        refine lv_aload_n hx hb dX12_leads_183 rfl (lv_at hl 1 rfl) ?_
        refine lv_iload hx hb dX12_leads_184 (lv_at hl 0 rfl) ?_
        refine lv_iconst (v := 2) hx hb dX12_leads_186 (by decide) ?_
        refine tk_Vi hC hK hw hT hA hE hSR kM_at0 (by decide) rfl (k_X12_streetOf_6 l adK adV dC dI cy ad B (by omega) (by omega) qr s1   r101 (show 0 ≤ r101.toInt by omega) (show r101.toInt ≤ 11 by omega) w119 H.size hT ) (cwV 2 hC.2.2.2.2 gX12_leads_X12_streetOf rfl rfl rfl (by decide +kernel) ⟨Nat.le_of_ble_eq_true rfl, Nat.le_of_ble_eq_true rfl⟩) rfl hl.1 rfl (Nat.le_of_ble_eq_true rfl) dX12_leads_187 (fun r126 w128 H locs hp127 hw => ?_)
        obtain ⟨hT, k129, hg133⟩ := hp127
        have hF := hF.tr k129 (by decide)
        have c134 := k129.gi kM_at12 rfl c123
        have c135 := k129.gi kM_at12 rfl c124
        have c136 := k129.gi kM_at12 (by decide) c125
        obtain ⟨g130, g131, c132⟩ := hg133
        refine lv_iadd hx hb dX12_leads_190 ?_
        refine lv_topi (fun x137 ex137 => ?_)
        have ex137 : x137.toInt = a3.toInt + r126.toInt := by rw [ex137]; exact wk_add (show (-2147483648) ≤ a3.toInt + r126.toInt by omega) (show a3.toInt + r126.toInt ≤ 2147483647 by omega)
        refine lv_istore (lv' := [(11, .int x137), (10, .int r101), (0, .ref (ad 0)), (1, .int a1), (2, .int a2), (3, .int a3), (4, .int a4), (5, .int 0), (6, .int a6), (7, .int v145_7), (8, .int v145_8), (9, .int v145_9)]) hx hb dX12_leads_191 hl (by decide) rfl (fun ls hl => ?_)
        refine lv_iload hx hb dX12_leads_193 (lv_at hl 0 rfl) ?_
        refine lv_iload hx hb dX12_leads_195 (lv_at hl 8 rfl) ?_
        refine lv_icmp_gt (tgt := 241) hx hb dX12_leads_197 (by decide) (fun c138 => ?_) (fun c138 => ?_)
        · have c138 : a6.toInt < x137.toInt := wk_lt.mp c138
          exact J241 v145_7 v145_8 v145_9 r101 x137 f145_12__9_a1_toInt_217_toNat f145_12__9_a1_toInt_218_toNat x107 H locs ls w128 (show 0 ≤ a1.toInt by omega) (show a1.toInt ≤ 3 by omega) (show 0 ≤ a2.toInt by omega) (show a2.toInt ≤ 1073741824 by omega) (show 0 ≤ a3.toInt by omega) (show a3.toInt ≤ 120 by omega) (show 0 ≤ a4.toInt by omega) (show a4.toInt ≤ 9 by omega) (show 0 ≤ a6.toInt by omega) (show a6.toInt ≤ 120 by omega) (show 0 ≤ v145_8.toInt by omega) (show v145_8.toInt ≤ 1073741944 by omega) (show 0 ≤ v145_9.toInt by omega) (show v145_9.toInt ≤ 1 by omega) (show 0 ≤ r101.toInt by omega) (show r101.toInt ≤ 11 by omega) (show 0 ≤ x137.toInt by omega) (show x137.toInt ≤ 129 by omega) (show 0 ≤ f145_12__9_a1_toInt_217_toNat.toInt by omega) (show f145_12__9_a1_toInt_217_toNat.toInt ≤ 9 by omega) (show 0 ≤ f145_12__9_a1_toInt_218_toNat.toInt by omega) (show f145_12__9_a1_toInt_218_toNat.toInt ≤ 3 by omega) (show 1 ≤ x107.toInt by omega) (show x107.toInt ≤ 12 by omega)  hw hT hF c134 c135 c136 (lv_sub hl [2, 3, 4, 5, 6, 7, 8, 9, 10, 11, 1, 0] rfl)
        · have c138 : x137.toInt ≤ a6.toInt := wk_ltF c138
          refine lv_aload_n hx hb dX12_leads_200 rfl (lv_at hl 2 rfl) ?_
          refine lv_iload hx hb dX12_leads_201 (lv_at hl 0 rfl) ?_
          refine lv_aload_n hx hb dX12_leads_203 rfl (lv_at hl 2 rfl) ?_
          refine lv_iload hx hb dX12_leads_204 (lv_at hl 1 rfl) ?_
          refine lv_iload hx hb dX12_leads_206 (lv_at hl 6 rfl) ?_
          refine tk_Vi hC hK hw hT hA hE hSR kM_at0 (by decide) rfl (k_X12_otherOf_1 l adK adV dC dI cy ad B (by omega) (by omega) qr s1   r101 (show 0 ≤ r101.toInt by omega) (show r101.toInt ≤ 11 by omega) a4 (show 0 ≤ a4.toInt by omega) (show a4.toInt ≤ 9 by omega) w128 H.size hT ) (cwV 2 hC.2.2.2.2 gX12_leads_X12_otherOf rfl rfl rfl (by decide +kernel) ⟨Nat.le_of_ble_eq_true rfl, Nat.le_of_ble_eq_true rfl⟩) rfl hl.1 rfl (Nat.le_of_ble_eq_true rfl) dX12_leads_208 (fun r139 w141 H locs hp140 hw => ?_)
          obtain ⟨hT, k142, hg148⟩ := hp140
          have hF := hF.tr k142 (by decide)
          have c149 := k142.gi kM_at12 rfl c134
          have c150 := k142.gi kM_at12 rfl c135
          have c151 := k142.gi kM_at12 (by decide) c136
          have c152 := k142.gi kM_at12 rfl c132
          rcases hg148 with ⟨g143, g144⟩ | ⟨g145, g146, c147⟩
          · refine lv_iload hx hb dX12_leads_211 (lv_at hl 7 rfl) ?_
            refine lv_if_eq (tgt := 235) hx hb dX12_leads_213 (by decide) (fun _ => ?_) (fun c => absurd (by decide) c)
            refine lv_iconst (v := 0) hx hb dX12_leads_235 (by decide) ?_
            refine lv_iload hx hb dX12_leads_236 (lv_at hl 9 rfl) ?_
            refine tk_Vv hC hK hw hT hA hE hSR kM_at0 (by decide) rfl (k_X12_could_1 l adK adV dC dI cy ad B (by omega) (by omega) qr s1   x137 (show 0 ≤ x137.toInt by omega) (show x137.toInt ≤ 120 by omega) r139 (show 0 ≤ r139.toInt by omega) (show r139.toInt ≤ 9 by omega) v145_7 w141 H.size hT ) (cwV 4 hC.2.2.2.2 gX12_leads_X12_could rfl rfl rfl (by decide +kernel) ⟨Nat.le_of_ble_eq_true rfl, Nat.le_of_ble_eq_true rfl⟩) rfl hl.1 rfl (Nat.le_of_ble_eq_true rfl) dX12_leads_238 (fun w155 H locs hp154 hw => ?_)
            obtain ⟨hT, k156, hg157⟩ := hp154
            have hF := hF.tr k156 (by decide)
            have c158 := k156.gi kM_at12 rfl c149
            have c159 := k156.gi kM_at12 rfl c150
            have c160 := k156.gi kM_at12 (by decide) c151
            have c161 := k156.gi kM_at12 rfl c152
            clear hg157
            exact J241 v145_7 v145_8 v145_9 r101 x137 f145_12__9_a1_toInt_217_toNat f145_12__9_a1_toInt_218_toNat x107 H locs ls w155 (show 0 ≤ a1.toInt by omega) (show a1.toInt ≤ 3 by omega) (show 0 ≤ a2.toInt by omega) (show a2.toInt ≤ 1073741824 by omega) (show 0 ≤ a3.toInt by omega) (show a3.toInt ≤ 120 by omega) (show 0 ≤ a4.toInt by omega) (show a4.toInt ≤ 9 by omega) (show 0 ≤ a6.toInt by omega) (show a6.toInt ≤ 120 by omega) (show 0 ≤ v145_8.toInt by omega) (show v145_8.toInt ≤ 1073741944 by omega) (show 0 ≤ v145_9.toInt by omega) (show v145_9.toInt ≤ 1 by omega) (show 0 ≤ r101.toInt by omega) (show r101.toInt ≤ 11 by omega) (show 0 ≤ x137.toInt by omega) (show x137.toInt ≤ 129 by omega) (show 0 ≤ f145_12__9_a1_toInt_217_toNat.toInt by omega) (show f145_12__9_a1_toInt_217_toNat.toInt ≤ 9 by omega) (show 0 ≤ f145_12__9_a1_toInt_218_toNat.toInt by omega) (show f145_12__9_a1_toInt_218_toNat.toInt ≤ 3 by omega) (show 1 ≤ x107.toInt by omega) (show x107.toInt ≤ 12 by omega)  hw hT hF c158 c159 c160 (lv_sub hl [2, 3, 4, 5, 6, 7, 8, 9, 10, 11, 1, 0] rfl)
          · refine lv_iload hx hb dX12_leads_211 (lv_at hl 7 rfl) ?_
            refine lv_if_eq (tgt := 235) hx hb dX12_leads_213 (by decide) (fun _ => ?_) (fun c => absurd (by decide) c)
            refine lv_iconst (v := 0) hx hb dX12_leads_235 (by decide) ?_
            refine lv_iload hx hb dX12_leads_236 (lv_at hl 9 rfl) ?_
            refine tk_Vv hC hK hw hT hA hE hSR kM_at0 (by decide) rfl (k_X12_could_1 l adK adV dC dI cy ad B (by omega) (by omega) qr s1   x137 (show 0 ≤ x137.toInt by omega) (show x137.toInt ≤ 120 by omega) r139 (show 0 ≤ r139.toInt by omega) (show r139.toInt ≤ 9 by omega) v145_7 w141 H.size hT ) (cwV 4 hC.2.2.2.2 gX12_leads_X12_could rfl rfl rfl (by decide +kernel) ⟨Nat.le_of_ble_eq_true rfl, Nat.le_of_ble_eq_true rfl⟩) rfl hl.1 rfl (Nat.le_of_ble_eq_true rfl) dX12_leads_238 (fun w164 H locs hp163 hw => ?_)
            obtain ⟨hT, k165, hg166⟩ := hp163
            have hF := hF.tr k165 (by decide)
            have c167 := k165.gi kM_at12 rfl c149
            have c168 := k165.gi kM_at12 rfl c150
            have c169 := k165.gi kM_at12 (by decide) c151
            have c170 := k165.gi kM_at12 rfl c152
            have c171 := k165.gi kM_at12 rfl c147
            clear hg166
            exact J241 v145_7 v145_8 v145_9 r101 x137 f145_12__9_a1_toInt_217_toNat f145_12__9_a1_toInt_218_toNat x107 H locs ls w164 (show 0 ≤ a1.toInt by omega) (show a1.toInt ≤ 3 by omega) (show 0 ≤ a2.toInt by omega) (show a2.toInt ≤ 1073741824 by omega) (show 0 ≤ a3.toInt by omega) (show a3.toInt ≤ 120 by omega) (show 0 ≤ a4.toInt by omega) (show a4.toInt ≤ 9 by omega) (show 0 ≤ a6.toInt by omega) (show a6.toInt ≤ 120 by omega) (show 0 ≤ v145_8.toInt by omega) (show v145_8.toInt ≤ 1073741944 by omega) (show 0 ≤ v145_9.toInt by omega) (show v145_9.toInt ≤ 1 by omega) (show 0 ≤ r101.toInt by omega) (show r101.toInt ≤ 11 by omega) (show 0 ≤ x137.toInt by omega) (show x137.toInt ≤ 129 by omega) (show 0 ≤ f145_12__9_a1_toInt_217_toNat.toInt by omega) (show f145_12__9_a1_toInt_217_toNat.toInt ≤ 9 by omega) (show 0 ≤ f145_12__9_a1_toInt_218_toNat.toInt by omega) (show f145_12__9_a1_toInt_218_toNat.toInt ≤ 3 by omega) (show 1 ≤ x107.toInt by omega) (show x107.toInt ≤ 12 by omega)  hw hT hF c167 c168 c169 (lv_sub hl [2, 3, 4, 5, 6, 7, 8, 9, 10, 11, 1, 0] rfl)
      · refine lv_if_ne (tgt := 182) hx hb dX12_leads_178 (by decide) (fun _ => ?_) (fun c => absurd c (by decide))
        refine lv_iload_n hx hb dX12_leads_182 rfl (lv_at hl 4 rfl) ?_
        refine lv_aload_n hx hb dX12_leads_183 rfl (lv_at hl 1 rfl) ?_
        refine lv_iload hx hb dX12_leads_184 (lv_at hl 0 rfl) ?_
        refine lv_iconst (v := 2) hx hb dX12_leads_186 (by decide) ?_
        refine tk_Vi hC hK hw hT hA hE hSR kM_at0 (by decide) rfl (k_X12_streetOf_6 l adK adV dC dI cy ad B (by omega) (by omega) qr s1   r101 (show 0 ≤ r101.toInt by omega) (show r101.toInt ≤ 11 by omega) w119 H.size hT ) (cwV 2 hC.2.2.2.2 gX12_leads_X12_streetOf rfl rfl rfl (by decide +kernel) ⟨Nat.le_of_ble_eq_true rfl, Nat.le_of_ble_eq_true rfl⟩) rfl hl.1 rfl (Nat.le_of_ble_eq_true rfl) dX12_leads_187 (fun r172 w174 H locs hp173 hw => ?_)
        obtain ⟨hT, k175, hg179⟩ := hp173
        have hF := hF.tr k175 (by decide)
        have c180 := k175.gi kM_at12 rfl c123
        have c181 := k175.gi kM_at12 rfl c124
        have c182 := k175.gi kM_at12 (by decide) c125
        have c183 := k175.gi kM_at12 rfl c121
        obtain ⟨g176, g177, c178⟩ := hg179
        refine lv_iadd hx hb dX12_leads_190 ?_
        refine lv_topi (fun x184 ex184 => ?_)
        have ex184 : x184.toInt = a3.toInt + r172.toInt := by rw [ex184]; exact wk_add (show (-2147483648) ≤ a3.toInt + r172.toInt by omega) (show a3.toInt + r172.toInt ≤ 2147483647 by omega)
        refine lv_istore (lv' := [(11, .int x184), (10, .int r101), (0, .ref (ad 0)), (1, .int a1), (2, .int a2), (3, .int a3), (4, .int a4), (5, .int 0), (6, .int a6), (7, .int v145_7), (8, .int v145_8), (9, .int v145_9)]) hx hb dX12_leads_191 hl (by decide) rfl (fun ls hl => ?_)
        refine lv_iload hx hb dX12_leads_193 (lv_at hl 0 rfl) ?_
        refine lv_iload hx hb dX12_leads_195 (lv_at hl 8 rfl) ?_
        refine lv_icmp_gt (tgt := 241) hx hb dX12_leads_197 (by decide) (fun c185 => ?_) (fun c185 => ?_)
        · have c185 : a6.toInt < x184.toInt := wk_lt.mp c185
          exact J241 v145_7 v145_8 v145_9 r101 x184 f145_12__9_a1_toInt_217_toNat f145_12__9_a1_toInt_218_toNat x107 H locs ls w174 (show 0 ≤ a1.toInt by omega) (show a1.toInt ≤ 3 by omega) (show 0 ≤ a2.toInt by omega) (show a2.toInt ≤ 1073741824 by omega) (show 0 ≤ a3.toInt by omega) (show a3.toInt ≤ 120 by omega) (show 0 ≤ a4.toInt by omega) (show a4.toInt ≤ 9 by omega) (show 0 ≤ a6.toInt by omega) (show a6.toInt ≤ 120 by omega) (show 0 ≤ v145_8.toInt by omega) (show v145_8.toInt ≤ 1073741944 by omega) (show 0 ≤ v145_9.toInt by omega) (show v145_9.toInt ≤ 1 by omega) (show 0 ≤ r101.toInt by omega) (show r101.toInt ≤ 11 by omega) (show 0 ≤ x184.toInt by omega) (show x184.toInt ≤ 129 by omega) (show 0 ≤ f145_12__9_a1_toInt_217_toNat.toInt by omega) (show f145_12__9_a1_toInt_217_toNat.toInt ≤ 9 by omega) (show 0 ≤ f145_12__9_a1_toInt_218_toNat.toInt by omega) (show f145_12__9_a1_toInt_218_toNat.toInt ≤ 3 by omega) (show 1 ≤ x107.toInt by omega) (show x107.toInt ≤ 12 by omega)  hw hT hF c180 c181 c182 (lv_sub hl [2, 3, 4, 5, 6, 7, 8, 9, 10, 11, 1, 0] rfl)
        · have c185 : x184.toInt ≤ a6.toInt := wk_ltF c185
          refine lv_aload_n hx hb dX12_leads_200 rfl (lv_at hl 2 rfl) ?_
          refine lv_iload hx hb dX12_leads_201 (lv_at hl 0 rfl) ?_
          refine lv_aload_n hx hb dX12_leads_203 rfl (lv_at hl 2 rfl) ?_
          refine lv_iload hx hb dX12_leads_204 (lv_at hl 1 rfl) ?_
          refine lv_iload hx hb dX12_leads_206 (lv_at hl 6 rfl) ?_
          refine tk_Vi hC hK hw hT hA hE hSR kM_at0 (by decide) rfl (k_X12_otherOf_1 l adK adV dC dI cy ad B (by omega) (by omega) qr s1   r101 (show 0 ≤ r101.toInt by omega) (show r101.toInt ≤ 11 by omega) a4 (show 0 ≤ a4.toInt by omega) (show a4.toInt ≤ 9 by omega) w174 H.size hT ) (cwV 2 hC.2.2.2.2 gX12_leads_X12_otherOf rfl rfl rfl (by decide +kernel) ⟨Nat.le_of_ble_eq_true rfl, Nat.le_of_ble_eq_true rfl⟩) rfl hl.1 rfl (Nat.le_of_ble_eq_true rfl) dX12_leads_208 (fun r186 w188 H locs hp187 hw => ?_)
          obtain ⟨hT, k189, hg195⟩ := hp187
          have hF := hF.tr k189 (by decide)
          have c196 := k189.gi kM_at12 rfl c180
          have c197 := k189.gi kM_at12 rfl c181
          have c198 := k189.gi kM_at12 (by decide) c182
          have c199 := k189.gi kM_at12 rfl c183
          have c200 := k189.gi kM_at12 rfl c178
          rcases hg195 with ⟨g190, g191⟩ | ⟨g192, g193, c194⟩
          · refine lv_iload hx hb dX12_leads_211 (lv_at hl 7 rfl) ?_
            refine lv_if_eq (tgt := 235) hx hb dX12_leads_213 (by decide) (fun _ => ?_) (fun c => absurd (by decide) c)
            refine lv_iconst (v := 0) hx hb dX12_leads_235 (by decide) ?_
            refine lv_iload hx hb dX12_leads_236 (lv_at hl 9 rfl) ?_
            refine tk_Vv hC hK hw hT hA hE hSR kM_at0 (by decide) rfl (k_X12_could_1 l adK adV dC dI cy ad B (by omega) (by omega) qr s1   x184 (show 0 ≤ x184.toInt by omega) (show x184.toInt ≤ 120 by omega) r186 (show 0 ≤ r186.toInt by omega) (show r186.toInt ≤ 9 by omega) v145_7 w188 H.size hT ) (cwV 4 hC.2.2.2.2 gX12_leads_X12_could rfl rfl rfl (by decide +kernel) ⟨Nat.le_of_ble_eq_true rfl, Nat.le_of_ble_eq_true rfl⟩) rfl hl.1 rfl (Nat.le_of_ble_eq_true rfl) dX12_leads_238 (fun w203 H locs hp202 hw => ?_)
            obtain ⟨hT, k204, hg205⟩ := hp202
            have hF := hF.tr k204 (by decide)
            have c206 := k204.gi kM_at12 rfl c196
            have c207 := k204.gi kM_at12 rfl c197
            have c208 := k204.gi kM_at12 (by decide) c198
            have c209 := k204.gi kM_at12 rfl c199
            have c210 := k204.gi kM_at12 rfl c200
            clear hg205
            exact J241 v145_7 v145_8 v145_9 r101 x184 f145_12__9_a1_toInt_217_toNat f145_12__9_a1_toInt_218_toNat x107 H locs ls w203 (show 0 ≤ a1.toInt by omega) (show a1.toInt ≤ 3 by omega) (show 0 ≤ a2.toInt by omega) (show a2.toInt ≤ 1073741824 by omega) (show 0 ≤ a3.toInt by omega) (show a3.toInt ≤ 120 by omega) (show 0 ≤ a4.toInt by omega) (show a4.toInt ≤ 9 by omega) (show 0 ≤ a6.toInt by omega) (show a6.toInt ≤ 120 by omega) (show 0 ≤ v145_8.toInt by omega) (show v145_8.toInt ≤ 1073741944 by omega) (show 0 ≤ v145_9.toInt by omega) (show v145_9.toInt ≤ 1 by omega) (show 0 ≤ r101.toInt by omega) (show r101.toInt ≤ 11 by omega) (show 0 ≤ x184.toInt by omega) (show x184.toInt ≤ 129 by omega) (show 0 ≤ f145_12__9_a1_toInt_217_toNat.toInt by omega) (show f145_12__9_a1_toInt_217_toNat.toInt ≤ 9 by omega) (show 0 ≤ f145_12__9_a1_toInt_218_toNat.toInt by omega) (show f145_12__9_a1_toInt_218_toNat.toInt ≤ 3 by omega) (show 1 ≤ x107.toInt by omega) (show x107.toInt ≤ 12 by omega)  hw hT hF c206 c207 c208 (lv_sub hl [2, 3, 4, 5, 6, 7, 8, 9, 10, 11, 1, 0] rfl)
          · refine lv_iload hx hb dX12_leads_211 (lv_at hl 7 rfl) ?_
            refine lv_if_eq (tgt := 235) hx hb dX12_leads_213 (by decide) (fun _ => ?_) (fun c => absurd (by decide) c)
            refine lv_iconst (v := 0) hx hb dX12_leads_235 (by decide) ?_
            refine lv_iload hx hb dX12_leads_236 (lv_at hl 9 rfl) ?_
            refine tk_Vv hC hK hw hT hA hE hSR kM_at0 (by decide) rfl (k_X12_could_1 l adK adV dC dI cy ad B (by omega) (by omega) qr s1   x184 (show 0 ≤ x184.toInt by omega) (show x184.toInt ≤ 120 by omega) r186 (show 0 ≤ r186.toInt by omega) (show r186.toInt ≤ 9 by omega) v145_7 w188 H.size hT ) (cwV 4 hC.2.2.2.2 gX12_leads_X12_could rfl rfl rfl (by decide +kernel) ⟨Nat.le_of_ble_eq_true rfl, Nat.le_of_ble_eq_true rfl⟩) rfl hl.1 rfl (Nat.le_of_ble_eq_true rfl) dX12_leads_238 (fun w213 H locs hp212 hw => ?_)
            obtain ⟨hT, k214, hg215⟩ := hp212
            have hF := hF.tr k214 (by decide)
            have c216 := k214.gi kM_at12 rfl c196
            have c217 := k214.gi kM_at12 rfl c197
            have c218 := k214.gi kM_at12 (by decide) c198
            have c219 := k214.gi kM_at12 rfl c199
            have c220 := k214.gi kM_at12 rfl c200
            clear hg215
            exact J241 v145_7 v145_8 v145_9 r101 x184 f145_12__9_a1_toInt_217_toNat f145_12__9_a1_toInt_218_toNat x107 H locs ls w213 (show 0 ≤ a1.toInt by omega) (show a1.toInt ≤ 3 by omega) (show 0 ≤ a2.toInt by omega) (show a2.toInt ≤ 1073741824 by omega) (show 0 ≤ a3.toInt by omega) (show a3.toInt ≤ 120 by omega) (show 0 ≤ a4.toInt by omega) (show a4.toInt ≤ 9 by omega) (show 0 ≤ a6.toInt by omega) (show a6.toInt ≤ 120 by omega) (show 0 ≤ v145_8.toInt by omega) (show v145_8.toInt ≤ 1073741944 by omega) (show 0 ≤ v145_9.toInt by omega) (show v145_9.toInt ≤ 1 by omega) (show 0 ≤ r101.toInt by omega) (show r101.toInt ≤ 11 by omega) (show 0 ≤ x184.toInt by omega) (show x184.toInt ≤ 129 by omega) (show 0 ≤ f145_12__9_a1_toInt_217_toNat.toInt by omega) (show f145_12__9_a1_toInt_217_toNat.toInt ≤ 9 by omega) (show 0 ≤ f145_12__9_a1_toInt_218_toNat.toInt by omega) (show f145_12__9_a1_toInt_218_toNat.toInt ≤ 3 by omega) (show 1 ≤ x107.toInt by omega) (show x107.toInt ≤ 12 by omega)  hw hT hF c216 c217 c218 (lv_sub hl [2, 3, 4, 5, 6, 7, 8, 9, 10, 11, 1, 0] rfl)
    · refine lv_istore (lv' := [(10, .int r101), (0, .ref (ad 0)), (1, .int a1), (2, .int a2), (3, .int a3), (4, .int a4), (5, .int 0), (6, .int a6), (7, .int v145_7), (8, .int v145_8), (9, .int v145_9)]) hx hb dX12_leads_161 hl (by decide) rfl (fun ls hl => ?_)
      refine lv_iload hx hb dX12_leads_163 (lv_at hl 0 rfl) ?_
      refine lv_if_lt (tgt := 181) hx hb dX12_leads_165 (by decide) (fun c => absurd c (fun h => absurd (show r101.toInt < (0 : Int) from wk_lt.mp h) (by omega))) (fun _ => ?_)
      refine lv_aload_n hx hb dX12_leads_168 rfl (lv_at hl 1 rfl) ?_
      refine lv_iload hx hb dX12_leads_169 (lv_at hl 0 rfl) ?_
      refine lv_iload hx hb dX12_leads_171 (lv_at hl 5 rfl) ?_
      refine lv_iload hx hb dX12_leads_173 (lv_at hl 9 rfl) ?_
      refine tk_Vi hC hK hw hT hA hE hSR kM_at0 (by decide) rfl (k_X12_isOpen_2 l adK adV dC dI cy ad B (by omega) (by omega) qr s1   r101 (show 0 ≤ r101.toInt by omega) (show r101.toInt ≤ 11 by omega) a4 (show 0 ≤ a4.toInt by omega) (show a4.toInt ≤ 9 by omega) v145_8 (show 0 ≤ v145_8.toInt by omega) (show v145_8.toInt ≤ 1073741944 by omega) w103 H.size hT ) (cwV 3 hC.2.2.2.2 gX12_leads_X12_isOpen rfl rfl rfl (by decide +kernel) ⟨Nat.le_of_ble_eq_true rfl, Nat.le_of_ble_eq_true rfl⟩) rfl hl.1 rfl (Nat.le_of_ble_eq_true rfl) dX12_leads_175 (fun r221 w223 H locs hp222 hw => ?_)
      obtain ⟨hT, k224, hg226⟩ := hp222
      have hF := hF.tr k224 (by decide)
      have c227 := k224.gi kM_at12 rfl c115
      have c228 := k224.gi kM_at12 rfl c116
      have c229 := k224.gi kM_at12 (by decide) c112
      have c230 := k224.gi kM_at12 rfl c113
      rcases hg226 with rfl | rfl | ⟨rfl, c225⟩
      · refine lv_if_ne (tgt := 182) hx hb dX12_leads_178 (by decide) (fun c => absurd (by decide) c) (fun _ => ?_)
        exact J181 v145_7 v145_8 v145_9 r101 f145_12__9_a1_toInt_217_toNat f145_12__9_a1_toInt_218_toNat H locs ls w223 (show 0 ≤ a1.toInt by omega) (show a1.toInt ≤ 3 by omega) (show 0 ≤ a2.toInt by omega) (show a2.toInt ≤ 1073741824 by omega) (show 0 ≤ a3.toInt by omega) (show a3.toInt ≤ 120 by omega) (show 0 ≤ a4.toInt by omega) (show a4.toInt ≤ 9 by omega) (show 0 ≤ a6.toInt by omega) (show a6.toInt ≤ 120 by omega) (show 0 ≤ v145_8.toInt by omega) (show v145_8.toInt ≤ 1073741944 by omega) (show 0 ≤ v145_9.toInt by omega) (show v145_9.toInt ≤ 1 by omega) (show (-1) ≤ r101.toInt by omega) (show r101.toInt ≤ 11 by omega) (show 0 ≤ f145_12__9_a1_toInt_217_toNat.toInt by omega) (show f145_12__9_a1_toInt_217_toNat.toInt ≤ 9 by omega) (show 0 ≤ f145_12__9_a1_toInt_218_toNat.toInt by omega) (show f145_12__9_a1_toInt_218_toNat.toInt ≤ 3 by omega)  hw hT hF c227 c228 (lv_sub hl [1, 2, 3, 4, 5, 6, 7, 8, 9, 10, 0] rfl)
      · refine lv_if_ne (tgt := 182) hx hb dX12_leads_178 (by decide) (fun _ => ?_) (fun c => absurd c (by decide))
        refine lv_iload_n hx hb dX12_leads_182 rfl (lv_at hl 4 rfl) ?_
        refine lv_aload_n hx hb dX12_leads_183 rfl (lv_at hl 1 rfl) ?_
        refine lv_iload hx hb dX12_leads_184 (lv_at hl 0 rfl) ?_
        refine lv_iconst (v := 2) hx hb dX12_leads_186 (by decide) ?_
        refine tk_Vi hC hK hw hT hA hE hSR kM_at0 (by decide) rfl (k_X12_streetOf_6 l adK adV dC dI cy ad B (by omega) (by omega) qr s1   r101 (show 0 ≤ r101.toInt by omega) (show r101.toInt ≤ 11 by omega) w223 H.size hT ) (cwV 2 hC.2.2.2.2 gX12_leads_X12_streetOf rfl rfl rfl (by decide +kernel) ⟨Nat.le_of_ble_eq_true rfl, Nat.le_of_ble_eq_true rfl⟩) rfl hl.1 rfl (Nat.le_of_ble_eq_true rfl) dX12_leads_187 (fun r231 w233 H locs hp232 hw => ?_)
        obtain ⟨hT, k234, hg238⟩ := hp232
        have hF := hF.tr k234 (by decide)
        have c239 := k234.gi kM_at12 rfl c227
        have c240 := k234.gi kM_at12 rfl c228
        have c241 := k234.gi kM_at12 (by decide) c229
        have c242 := k234.gi kM_at12 rfl c230
        obtain ⟨g235, g236, c237⟩ := hg238
        refine lv_iadd hx hb dX12_leads_190 ?_
        refine lv_topi (fun x243 ex243 => ?_)
        have ex243 : x243.toInt = a3.toInt + r231.toInt := by rw [ex243]; exact wk_add (show (-2147483648) ≤ a3.toInt + r231.toInt by omega) (show a3.toInt + r231.toInt ≤ 2147483647 by omega)
        refine lv_istore (lv' := [(11, .int x243), (10, .int r101), (0, .ref (ad 0)), (1, .int a1), (2, .int a2), (3, .int a3), (4, .int a4), (5, .int 0), (6, .int a6), (7, .int v145_7), (8, .int v145_8), (9, .int v145_9)]) hx hb dX12_leads_191 hl (by decide) rfl (fun ls hl => ?_)
        refine lv_iload hx hb dX12_leads_193 (lv_at hl 0 rfl) ?_
        refine lv_iload hx hb dX12_leads_195 (lv_at hl 8 rfl) ?_
        refine lv_icmp_gt (tgt := 241) hx hb dX12_leads_197 (by decide) (fun c244 => ?_) (fun c244 => ?_)
        · have c244 : a6.toInt < x243.toInt := wk_lt.mp c244
          exact J241 v145_7 v145_8 v145_9 r101 x243 f145_12__9_a1_toInt_217_toNat f145_12__9_a1_toInt_218_toNat x111 H locs ls w233 (show 0 ≤ a1.toInt by omega) (show a1.toInt ≤ 3 by omega) (show 0 ≤ a2.toInt by omega) (show a2.toInt ≤ 1073741824 by omega) (show 0 ≤ a3.toInt by omega) (show a3.toInt ≤ 120 by omega) (show 0 ≤ a4.toInt by omega) (show a4.toInt ≤ 9 by omega) (show 0 ≤ a6.toInt by omega) (show a6.toInt ≤ 120 by omega) (show 0 ≤ v145_8.toInt by omega) (show v145_8.toInt ≤ 1073741944 by omega) (show 0 ≤ v145_9.toInt by omega) (show v145_9.toInt ≤ 1 by omega) (show 0 ≤ r101.toInt by omega) (show r101.toInt ≤ 11 by omega) (show 0 ≤ x243.toInt by omega) (show x243.toInt ≤ 129 by omega) (show 0 ≤ f145_12__9_a1_toInt_217_toNat.toInt by omega) (show f145_12__9_a1_toInt_217_toNat.toInt ≤ 9 by omega) (show 0 ≤ f145_12__9_a1_toInt_218_toNat.toInt by omega) (show f145_12__9_a1_toInt_218_toNat.toInt ≤ 3 by omega) (show 1 ≤ x111.toInt by omega) (show x111.toInt ≤ 12 by omega)  hw hT hF c239 c240 c241 (lv_sub hl [2, 3, 4, 5, 6, 7, 8, 9, 10, 11, 1, 0] rfl)
        · have c244 : x243.toInt ≤ a6.toInt := wk_ltF c244
          refine lv_aload_n hx hb dX12_leads_200 rfl (lv_at hl 2 rfl) ?_
          refine lv_iload hx hb dX12_leads_201 (lv_at hl 0 rfl) ?_
          refine lv_aload_n hx hb dX12_leads_203 rfl (lv_at hl 2 rfl) ?_
          refine lv_iload hx hb dX12_leads_204 (lv_at hl 1 rfl) ?_
          refine lv_iload hx hb dX12_leads_206 (lv_at hl 6 rfl) ?_
          refine tk_Vi hC hK hw hT hA hE hSR kM_at0 (by decide) rfl (k_X12_otherOf_1 l adK adV dC dI cy ad B (by omega) (by omega) qr s1   r101 (show 0 ≤ r101.toInt by omega) (show r101.toInt ≤ 11 by omega) a4 (show 0 ≤ a4.toInt by omega) (show a4.toInt ≤ 9 by omega) w233 H.size hT ) (cwV 2 hC.2.2.2.2 gX12_leads_X12_otherOf rfl rfl rfl (by decide +kernel) ⟨Nat.le_of_ble_eq_true rfl, Nat.le_of_ble_eq_true rfl⟩) rfl hl.1 rfl (Nat.le_of_ble_eq_true rfl) dX12_leads_208 (fun r245 w247 H locs hp246 hw => ?_)
          obtain ⟨hT, k248, hg254⟩ := hp246
          have hF := hF.tr k248 (by decide)
          have c255 := k248.gi kM_at12 rfl c239
          have c256 := k248.gi kM_at12 rfl c240
          have c257 := k248.gi kM_at12 (by decide) c241
          have c258 := k248.gi kM_at12 rfl c242
          have c259 := k248.gi kM_at12 rfl c237
          rcases hg254 with ⟨g249, g250⟩ | ⟨g251, g252, c253⟩
          · refine lv_iload hx hb dX12_leads_211 (lv_at hl 7 rfl) ?_
            refine lv_if_eq (tgt := 235) hx hb dX12_leads_213 (by decide) (fun _ => ?_) (fun c => absurd (by decide) c)
            refine lv_iconst (v := 0) hx hb dX12_leads_235 (by decide) ?_
            refine lv_iload hx hb dX12_leads_236 (lv_at hl 9 rfl) ?_
            refine tk_Vv hC hK hw hT hA hE hSR kM_at0 (by decide) rfl (k_X12_could_1 l adK adV dC dI cy ad B (by omega) (by omega) qr s1   x243 (show 0 ≤ x243.toInt by omega) (show x243.toInt ≤ 120 by omega) r245 (show 0 ≤ r245.toInt by omega) (show r245.toInt ≤ 9 by omega) v145_7 w247 H.size hT ) (cwV 4 hC.2.2.2.2 gX12_leads_X12_could rfl rfl rfl (by decide +kernel) ⟨Nat.le_of_ble_eq_true rfl, Nat.le_of_ble_eq_true rfl⟩) rfl hl.1 rfl (Nat.le_of_ble_eq_true rfl) dX12_leads_238 (fun w262 H locs hp261 hw => ?_)
            obtain ⟨hT, k263, hg264⟩ := hp261
            have hF := hF.tr k263 (by decide)
            have c265 := k263.gi kM_at12 rfl c255
            have c266 := k263.gi kM_at12 rfl c256
            have c267 := k263.gi kM_at12 (by decide) c257
            have c268 := k263.gi kM_at12 rfl c258
            have c269 := k263.gi kM_at12 rfl c259
            clear hg264
            exact J241 v145_7 v145_8 v145_9 r101 x243 f145_12__9_a1_toInt_217_toNat f145_12__9_a1_toInt_218_toNat x111 H locs ls w262 (show 0 ≤ a1.toInt by omega) (show a1.toInt ≤ 3 by omega) (show 0 ≤ a2.toInt by omega) (show a2.toInt ≤ 1073741824 by omega) (show 0 ≤ a3.toInt by omega) (show a3.toInt ≤ 120 by omega) (show 0 ≤ a4.toInt by omega) (show a4.toInt ≤ 9 by omega) (show 0 ≤ a6.toInt by omega) (show a6.toInt ≤ 120 by omega) (show 0 ≤ v145_8.toInt by omega) (show v145_8.toInt ≤ 1073741944 by omega) (show 0 ≤ v145_9.toInt by omega) (show v145_9.toInt ≤ 1 by omega) (show 0 ≤ r101.toInt by omega) (show r101.toInt ≤ 11 by omega) (show 0 ≤ x243.toInt by omega) (show x243.toInt ≤ 129 by omega) (show 0 ≤ f145_12__9_a1_toInt_217_toNat.toInt by omega) (show f145_12__9_a1_toInt_217_toNat.toInt ≤ 9 by omega) (show 0 ≤ f145_12__9_a1_toInt_218_toNat.toInt by omega) (show f145_12__9_a1_toInt_218_toNat.toInt ≤ 3 by omega) (show 1 ≤ x111.toInt by omega) (show x111.toInt ≤ 12 by omega)  hw hT hF c265 c266 c267 (lv_sub hl [2, 3, 4, 5, 6, 7, 8, 9, 10, 11, 1, 0] rfl)
          · refine lv_iload hx hb dX12_leads_211 (lv_at hl 7 rfl) ?_
            refine lv_if_eq (tgt := 235) hx hb dX12_leads_213 (by decide) (fun _ => ?_) (fun c => absurd (by decide) c)
            refine lv_iconst (v := 0) hx hb dX12_leads_235 (by decide) ?_
            refine lv_iload hx hb dX12_leads_236 (lv_at hl 9 rfl) ?_
            refine tk_Vv hC hK hw hT hA hE hSR kM_at0 (by decide) rfl (k_X12_could_1 l adK adV dC dI cy ad B (by omega) (by omega) qr s1   x243 (show 0 ≤ x243.toInt by omega) (show x243.toInt ≤ 120 by omega) r245 (show 0 ≤ r245.toInt by omega) (show r245.toInt ≤ 9 by omega) v145_7 w247 H.size hT ) (cwV 4 hC.2.2.2.2 gX12_leads_X12_could rfl rfl rfl (by decide +kernel) ⟨Nat.le_of_ble_eq_true rfl, Nat.le_of_ble_eq_true rfl⟩) rfl hl.1 rfl (Nat.le_of_ble_eq_true rfl) dX12_leads_238 (fun w272 H locs hp271 hw => ?_)
            obtain ⟨hT, k273, hg274⟩ := hp271
            have hF := hF.tr k273 (by decide)
            have c275 := k273.gi kM_at12 rfl c255
            have c276 := k273.gi kM_at12 rfl c256
            have c277 := k273.gi kM_at12 (by decide) c257
            have c278 := k273.gi kM_at12 rfl c258
            have c279 := k273.gi kM_at12 rfl c259
            clear hg274
            exact J241 v145_7 v145_8 v145_9 r101 x243 f145_12__9_a1_toInt_217_toNat f145_12__9_a1_toInt_218_toNat x111 H locs ls w272 (show 0 ≤ a1.toInt by omega) (show a1.toInt ≤ 3 by omega) (show 0 ≤ a2.toInt by omega) (show a2.toInt ≤ 1073741824 by omega) (show 0 ≤ a3.toInt by omega) (show a3.toInt ≤ 120 by omega) (show 0 ≤ a4.toInt by omega) (show a4.toInt ≤ 9 by omega) (show 0 ≤ a6.toInt by omega) (show a6.toInt ≤ 120 by omega) (show 0 ≤ v145_8.toInt by omega) (show v145_8.toInt ≤ 1073741944 by omega) (show 0 ≤ v145_9.toInt by omega) (show v145_9.toInt ≤ 1 by omega) (show 0 ≤ r101.toInt by omega) (show r101.toInt ≤ 11 by omega) (show 0 ≤ x243.toInt by omega) (show x243.toInt ≤ 129 by omega) (show 0 ≤ f145_12__9_a1_toInt_217_toNat.toInt by omega) (show f145_12__9_a1_toInt_217_toNat.toInt ≤ 9 by omega) (show 0 ≤ f145_12__9_a1_toInt_218_toNat.toInt by omega) (show f145_12__9_a1_toInt_218_toNat.toInt ≤ 3 by omega) (show 1 ≤ x111.toInt by omega) (show x111.toInt ≤ 12 by omega)  hw hT hF c275 c276 c277 (lv_sub hl [2, 3, 4, 5, 6, 7, 8, 9, 10, 11, 1, 0] rfl)
      · refine lv_if_ne (tgt := 182) hx hb dX12_leads_178 (by decide) (fun _ => ?_) (fun c => absurd c (by decide))
        refine lv_iload_n hx hb dX12_leads_182 rfl (lv_at hl 4 rfl) ?_
        refine lv_aload_n hx hb dX12_leads_183 rfl (lv_at hl 1 rfl) ?_
        refine lv_iload hx hb dX12_leads_184 (lv_at hl 0 rfl) ?_
        refine lv_iconst (v := 2) hx hb dX12_leads_186 (by decide) ?_
        refine tk_Vi hC hK hw hT hA hE hSR kM_at0 (by decide) rfl (k_X12_streetOf_6 l adK adV dC dI cy ad B (by omega) (by omega) qr s1   r101 (show 0 ≤ r101.toInt by omega) (show r101.toInt ≤ 11 by omega) w223 H.size hT ) (cwV 2 hC.2.2.2.2 gX12_leads_X12_streetOf rfl rfl rfl (by decide +kernel) ⟨Nat.le_of_ble_eq_true rfl, Nat.le_of_ble_eq_true rfl⟩) rfl hl.1 rfl (Nat.le_of_ble_eq_true rfl) dX12_leads_187 (fun r280 w282 H locs hp281 hw => ?_)
        obtain ⟨hT, k283, hg287⟩ := hp281
        have hF := hF.tr k283 (by decide)
        have c288 := k283.gi kM_at12 rfl c227
        have c289 := k283.gi kM_at12 rfl c228
        have c290 := k283.gi kM_at12 (by decide) c229
        have c291 := k283.gi kM_at12 rfl c230
        obtain ⟨g284, g285, c286⟩ := hg287
        refine lv_iadd hx hb dX12_leads_190 ?_
        refine lv_topi (fun x292 ex292 => ?_)
        have ex292 : x292.toInt = a3.toInt + r280.toInt := by rw [ex292]; exact wk_add (show (-2147483648) ≤ a3.toInt + r280.toInt by omega) (show a3.toInt + r280.toInt ≤ 2147483647 by omega)
        refine lv_istore (lv' := [(11, .int x292), (10, .int r101), (0, .ref (ad 0)), (1, .int a1), (2, .int a2), (3, .int a3), (4, .int a4), (5, .int 0), (6, .int a6), (7, .int v145_7), (8, .int v145_8), (9, .int v145_9)]) hx hb dX12_leads_191 hl (by decide) rfl (fun ls hl => ?_)
        refine lv_iload hx hb dX12_leads_193 (lv_at hl 0 rfl) ?_
        refine lv_iload hx hb dX12_leads_195 (lv_at hl 8 rfl) ?_
        refine lv_icmp_gt (tgt := 241) hx hb dX12_leads_197 (by decide) (fun c293 => ?_) (fun c293 => ?_)
        · have c293 : a6.toInt < x292.toInt := wk_lt.mp c293
          exact J241 v145_7 v145_8 v145_9 r101 x292 f145_12__9_a1_toInt_217_toNat f145_12__9_a1_toInt_218_toNat x111 H locs ls w282 (show 0 ≤ a1.toInt by omega) (show a1.toInt ≤ 3 by omega) (show 0 ≤ a2.toInt by omega) (show a2.toInt ≤ 1073741824 by omega) (show 0 ≤ a3.toInt by omega) (show a3.toInt ≤ 120 by omega) (show 0 ≤ a4.toInt by omega) (show a4.toInt ≤ 9 by omega) (show 0 ≤ a6.toInt by omega) (show a6.toInt ≤ 120 by omega) (show 0 ≤ v145_8.toInt by omega) (show v145_8.toInt ≤ 1073741944 by omega) (show 0 ≤ v145_9.toInt by omega) (show v145_9.toInt ≤ 1 by omega) (show 0 ≤ r101.toInt by omega) (show r101.toInt ≤ 11 by omega) (show 0 ≤ x292.toInt by omega) (show x292.toInt ≤ 129 by omega) (show 0 ≤ f145_12__9_a1_toInt_217_toNat.toInt by omega) (show f145_12__9_a1_toInt_217_toNat.toInt ≤ 9 by omega) (show 0 ≤ f145_12__9_a1_toInt_218_toNat.toInt by omega) (show f145_12__9_a1_toInt_218_toNat.toInt ≤ 3 by omega) (show 1 ≤ x111.toInt by omega) (show x111.toInt ≤ 12 by omega)  hw hT hF c288 c289 c290 (lv_sub hl [2, 3, 4, 5, 6, 7, 8, 9, 10, 11, 1, 0] rfl)
        · have c293 : x292.toInt ≤ a6.toInt := wk_ltF c293
          refine lv_aload_n hx hb dX12_leads_200 rfl (lv_at hl 2 rfl) ?_
          refine lv_iload hx hb dX12_leads_201 (lv_at hl 0 rfl) ?_
          refine lv_aload_n hx hb dX12_leads_203 rfl (lv_at hl 2 rfl) ?_
          refine lv_iload hx hb dX12_leads_204 (lv_at hl 1 rfl) ?_
          refine lv_iload hx hb dX12_leads_206 (lv_at hl 6 rfl) ?_
          refine tk_Vi hC hK hw hT hA hE hSR kM_at0 (by decide) rfl (k_X12_otherOf_1 l adK adV dC dI cy ad B (by omega) (by omega) qr s1   r101 (show 0 ≤ r101.toInt by omega) (show r101.toInt ≤ 11 by omega) a4 (show 0 ≤ a4.toInt by omega) (show a4.toInt ≤ 9 by omega) w282 H.size hT ) (cwV 2 hC.2.2.2.2 gX12_leads_X12_otherOf rfl rfl rfl (by decide +kernel) ⟨Nat.le_of_ble_eq_true rfl, Nat.le_of_ble_eq_true rfl⟩) rfl hl.1 rfl (Nat.le_of_ble_eq_true rfl) dX12_leads_208 (fun r294 w296 H locs hp295 hw => ?_)
          obtain ⟨hT, k297, hg303⟩ := hp295
          have hF := hF.tr k297 (by decide)
          have c304 := k297.gi kM_at12 rfl c288
          have c305 := k297.gi kM_at12 rfl c289
          have c306 := k297.gi kM_at12 (by decide) c290
          have c307 := k297.gi kM_at12 rfl c291
          have c308 := k297.gi kM_at12 rfl c286
          rcases hg303 with ⟨g298, g299⟩ | ⟨g300, g301, c302⟩
          · refine lv_iload hx hb dX12_leads_211 (lv_at hl 7 rfl) ?_
            refine lv_if_eq (tgt := 235) hx hb dX12_leads_213 (by decide) (fun _ => ?_) (fun c => absurd (by decide) c)
            refine lv_iconst (v := 0) hx hb dX12_leads_235 (by decide) ?_
            refine lv_iload hx hb dX12_leads_236 (lv_at hl 9 rfl) ?_
            refine tk_Vv hC hK hw hT hA hE hSR kM_at0 (by decide) rfl (k_X12_could_1 l adK adV dC dI cy ad B (by omega) (by omega) qr s1   x292 (show 0 ≤ x292.toInt by omega) (show x292.toInt ≤ 120 by omega) r294 (show 0 ≤ r294.toInt by omega) (show r294.toInt ≤ 9 by omega) v145_7 w296 H.size hT ) (cwV 4 hC.2.2.2.2 gX12_leads_X12_could rfl rfl rfl (by decide +kernel) ⟨Nat.le_of_ble_eq_true rfl, Nat.le_of_ble_eq_true rfl⟩) rfl hl.1 rfl (Nat.le_of_ble_eq_true rfl) dX12_leads_238 (fun w311 H locs hp310 hw => ?_)
            obtain ⟨hT, k312, hg313⟩ := hp310
            have hF := hF.tr k312 (by decide)
            have c314 := k312.gi kM_at12 rfl c304
            have c315 := k312.gi kM_at12 rfl c305
            have c316 := k312.gi kM_at12 (by decide) c306
            have c317 := k312.gi kM_at12 rfl c307
            have c318 := k312.gi kM_at12 rfl c308
            clear hg313
            exact J241 v145_7 v145_8 v145_9 r101 x292 f145_12__9_a1_toInt_217_toNat f145_12__9_a1_toInt_218_toNat x111 H locs ls w311 (show 0 ≤ a1.toInt by omega) (show a1.toInt ≤ 3 by omega) (show 0 ≤ a2.toInt by omega) (show a2.toInt ≤ 1073741824 by omega) (show 0 ≤ a3.toInt by omega) (show a3.toInt ≤ 120 by omega) (show 0 ≤ a4.toInt by omega) (show a4.toInt ≤ 9 by omega) (show 0 ≤ a6.toInt by omega) (show a6.toInt ≤ 120 by omega) (show 0 ≤ v145_8.toInt by omega) (show v145_8.toInt ≤ 1073741944 by omega) (show 0 ≤ v145_9.toInt by omega) (show v145_9.toInt ≤ 1 by omega) (show 0 ≤ r101.toInt by omega) (show r101.toInt ≤ 11 by omega) (show 0 ≤ x292.toInt by omega) (show x292.toInt ≤ 129 by omega) (show 0 ≤ f145_12__9_a1_toInt_217_toNat.toInt by omega) (show f145_12__9_a1_toInt_217_toNat.toInt ≤ 9 by omega) (show 0 ≤ f145_12__9_a1_toInt_218_toNat.toInt by omega) (show f145_12__9_a1_toInt_218_toNat.toInt ≤ 3 by omega) (show 1 ≤ x111.toInt by omega) (show x111.toInt ≤ 12 by omega)  hw hT hF c314 c315 c316 (lv_sub hl [2, 3, 4, 5, 6, 7, 8, 9, 10, 11, 1, 0] rfl)
          · refine lv_iload hx hb dX12_leads_211 (lv_at hl 7 rfl) ?_
            refine lv_if_eq (tgt := 235) hx hb dX12_leads_213 (by decide) (fun _ => ?_) (fun c => absurd (by decide) c)
            refine lv_iconst (v := 0) hx hb dX12_leads_235 (by decide) ?_
            refine lv_iload hx hb dX12_leads_236 (lv_at hl 9 rfl) ?_
            refine tk_Vv hC hK hw hT hA hE hSR kM_at0 (by decide) rfl (k_X12_could_1 l adK adV dC dI cy ad B (by omega) (by omega) qr s1   x292 (show 0 ≤ x292.toInt by omega) (show x292.toInt ≤ 120 by omega) r294 (show 0 ≤ r294.toInt by omega) (show r294.toInt ≤ 9 by omega) v145_7 w296 H.size hT ) (cwV 4 hC.2.2.2.2 gX12_leads_X12_could rfl rfl rfl (by decide +kernel) ⟨Nat.le_of_ble_eq_true rfl, Nat.le_of_ble_eq_true rfl⟩) rfl hl.1 rfl (Nat.le_of_ble_eq_true rfl) dX12_leads_238 (fun w321 H locs hp320 hw => ?_)
            obtain ⟨hT, k322, hg323⟩ := hp320
            have hF := hF.tr k322 (by decide)
            have c324 := k322.gi kM_at12 rfl c304
            have c325 := k322.gi kM_at12 rfl c305
            have c326 := k322.gi kM_at12 (by decide) c306
            have c327 := k322.gi kM_at12 rfl c307
            have c328 := k322.gi kM_at12 rfl c308
            clear hg323
            exact J241 v145_7 v145_8 v145_9 r101 x292 f145_12__9_a1_toInt_217_toNat f145_12__9_a1_toInt_218_toNat x111 H locs ls w321 (show 0 ≤ a1.toInt by omega) (show a1.toInt ≤ 3 by omega) (show 0 ≤ a2.toInt by omega) (show a2.toInt ≤ 1073741824 by omega) (show 0 ≤ a3.toInt by omega) (show a3.toInt ≤ 120 by omega) (show 0 ≤ a4.toInt by omega) (show a4.toInt ≤ 9 by omega) (show 0 ≤ a6.toInt by omega) (show a6.toInt ≤ 120 by omega) (show 0 ≤ v145_8.toInt by omega) (show v145_8.toInt ≤ 1073741944 by omega) (show 0 ≤ v145_9.toInt by omega) (show v145_9.toInt ≤ 1 by omega) (show 0 ≤ r101.toInt by omega) (show r101.toInt ≤ 11 by omega) (show 0 ≤ x292.toInt by omega) (show x292.toInt ≤ 129 by omega) (show 0 ≤ f145_12__9_a1_toInt_217_toNat.toInt by omega) (show f145_12__9_a1_toInt_217_toNat.toInt ≤ 9 by omega) (show 0 ≤ f145_12__9_a1_toInt_218_toNat.toInt by omega) (show f145_12__9_a1_toInt_218_toNat.toInt ≤ 3 by omega) (show 1 ≤ x111.toInt by omega) (show x111.toInt ≤ 12 by omega)  hw hT hF c324 c325 c326 (lv_sub hl [2, 3, 4, 5, 6, 7, 8, 9, 10, 11, 1, 0] rfl)
    · refine lv_istore (lv' := [(10, .int (-1)), (0, .ref (ad 0)), (1, .int a1), (2, .int a2), (3, .int a3), (4, .int a4), (5, .int 0), (6, .int a6), (7, .int v145_7), (8, .int v145_8), (9, .int v145_9)]) hx hb dX12_leads_161 hl (by decide) rfl (fun ls hl => ?_)
      refine lv_iload hx hb dX12_leads_163 (lv_at hl 0 rfl) ?_
      refine lv_if_lt (tgt := 181) hx hb dX12_leads_165 (by decide) (fun _ => ?_) (fun c => absurd (by decide) c)
      exact J181 v145_7 v145_8 v145_9 (-1) f145_12__9_a1_toInt_217_toNat f145_12__9_a1_toInt_218_toNat H locs ls w103 (show 0 ≤ a1.toInt by omega) (show a1.toInt ≤ 3 by omega) (show 0 ≤ a2.toInt by omega) (show a2.toInt ≤ 1073741824 by omega) (show 0 ≤ a3.toInt by omega) (show a3.toInt ≤ 120 by omega) (show 0 ≤ a4.toInt by omega) (show a4.toInt ≤ 9 by omega) (show 0 ≤ a6.toInt by omega) (show a6.toInt ≤ 120 by omega) (show 0 ≤ v145_8.toInt by omega) (show v145_8.toInt ≤ 1073741944 by omega) (show 0 ≤ v145_9.toInt by omega) (show v145_9.toInt ≤ 1 by omega) (by decide) (by decide) (show 0 ≤ f145_12__9_a1_toInt_217_toNat.toInt by omega) (show f145_12__9_a1_toInt_217_toNat.toInt ≤ 9 by omega) (show 0 ≤ f145_12__9_a1_toInt_218_toNat.toInt by omega) (show f145_12__9_a1_toInt_218_toNat.toInt ≤ 3 by omega)  hw hT hF c115 c116 (lv_sub hl [1, 2, 3, 4, 5, 6, 7, 8, 9, 10, 0] rfl)
  have J115 : ∀ (v115_7 : Int32) (v115_8 : Int32) (v115_9 : Int32) (f115_12__9_a1_toInt_217_toNat : Int32) (H : Heap) (locs : List Loc) (ls : Array Slot) (w329 : va_W), 0 ≤ a1.toInt → a1.toInt ≤ 3 → 0 ≤ a2.toInt → a2.toInt ≤ 1073741824 → 0 ≤ a3.toInt → a3.toInt ≤ 120 → 0 ≤ a4.toInt → a4.toInt ≤ 9 → 0 ≤ a6.toInt → a6.toInt ≤ 120 → 0 ≤ v115_8.toInt → v115_8.toInt ≤ 1073741944 → 0 ≤ v115_9.toInt → v115_9.toInt ≤ 1 → 0 ≤ f115_12__9_a1_toInt_217_toNat.toInt → f115_12__9_a1_toInt_217_toNat.toInt ≤ 9 → Wd dC dI A s.heap H locs w329 → TW ksM ad cy B qr 12 w329 → FE ksM [(72, 0, 12), (73, 0, 10), (76, 0, 2600)] w0 w329 → gi w329 12 (9 * a1.toInt + 217).toNat = f115_12__9_a1_toInt_217_toNat → lv_has ls 12 [(0, .ref (ad 0)), (1, .int a1), (2, .int a2), (3, .int a3), (4, .int a4), (5, .int 0), (6, .int a6), (7, .int v115_7), (8, .int v115_8), (9, .int v115_9)] → W p l e ({ frames := 5, cells := 0, slots := 0, locals := 103 }) s m (List.toArray [.ref (ad 0), .int a1, .int a2, .int a3, .int a4, .int 0, .int a6]) below meth c H locs 0 0 (MQ below (va_Qv (P_X12_leads_1 ad cy B qr s1 a1 a2 a3 a4 a6 w0) (fun u : va_W => wpost dC dI cy A u) A) (List.toArray [.ref (ad 0), .int a1, .int a2, .int a3, .int a4, .int 0, .int a6]) s 0 0 A) (F0 m 115 ls []) := by
    intro v115_7 v115_8 v115_9 f115_12__9_a1_toInt_217_toNat H locs ls w329 r330 t331 r332 t333 r334 t335 r336 t337 r338 t339 r340 t341 r342 t343 r344 t345 hw hT hF c346 hl
    refine lv_iload hx hb dX12_leads_115 (lv_at hl 5 rfl) ?_
    refine lv_if_eq (tgt := 135) hx hb dX12_leads_117 (by decide) (fun _ => ?_) (fun c => absurd (by decide) c)
    refine lv_aload_n hx hb dX12_leads_135 rfl (lv_at hl 0 rfl) ?_
    refine lv_aload_n hx hb dX12_leads_136 rfl (lv_at hl 0 rfl) ?_
    refine lv_iload_n hx hb dX12_leads_137 rfl (lv_at hl 1 rfl) ?_
    refine lv_iconst (v := 2) hx hb dX12_leads_138 (by decide) ?_
    refine tk_Vi hC hK hw hT hA hE hSR kM_at0 (by decide) rfl (k_X12_walkerOf_4 l adK adV dC dI cy ad B (by omega) (by omega) qr s1   a1 (show 0 ≤ a1.toInt by omega) (show a1.toInt ≤ 3 by omega) w329 H.size hT ) (cwV 2 hC.2.2.2.2 gX12_leads_X12_walkerOf rfl rfl rfl (by decide +kernel) ⟨Nat.le_of_ble_eq_true rfl, Nat.le_of_ble_eq_true rfl⟩) rfl hl.1 rfl (Nat.le_of_ble_eq_true rfl) dX12_leads_139 (fun r347 w349 H locs hp348 hw => ?_)
    obtain ⟨hT, k350, hg354⟩ := hp348
    have hF := hF.tr k350 (by decide)
    have c355 := k350.gi kM_at12 rfl c346
    obtain ⟨g351, g352, c353⟩ := hg354
    refine tk_Vv hC hK hw hT hA hE hSR kM_at0 (by decide) rfl (k_X12_takesMap_1 l adK adV dC dI cy ad B (by omega) (by omega) qr s1   r347 (show 0 ≤ r347.toInt by omega) (show r347.toInt ≤ 3 by omega) w349 H.size hT ) (cwV 1 hC.2.2.2.2 gX12_leads_X12_takesMap rfl rfl rfl (by decide +kernel) ⟨Nat.le_of_ble_eq_true rfl, Nat.le_of_ble_eq_true rfl⟩) rfl hl.1 rfl (Nat.le_of_ble_eq_true rfl) dX12_leads_142 (fun w358 H locs hp357 hw => ?_)
    obtain ⟨hT, k359, hg360⟩ := hp357
    have hF := hF.tr k359 (by decide)
    have c361 := k359.gi kM_at12 rfl c355
    have c362 := k359.gi kM_at12 rfl c353
    clear hg360
    exact J145 v115_7 v115_8 v115_9 f115_12__9_a1_toInt_217_toNat r347 H locs ls w358 (show 0 ≤ a1.toInt by omega) (show a1.toInt ≤ 3 by omega) (show 0 ≤ a2.toInt by omega) (show a2.toInt ≤ 1073741824 by omega) (show 0 ≤ a3.toInt by omega) (show a3.toInt ≤ 120 by omega) (show 0 ≤ a4.toInt by omega) (show a4.toInt ≤ 9 by omega) (show 0 ≤ a6.toInt by omega) (show a6.toInt ≤ 120 by omega) (show 0 ≤ v115_8.toInt by omega) (show v115_8.toInt ≤ 1073741944 by omega) (show 0 ≤ v115_9.toInt by omega) (show v115_9.toInt ≤ 1 by omega) (show 0 ≤ f115_12__9_a1_toInt_217_toNat.toInt by omega) (show f115_12__9_a1_toInt_217_toNat.toInt ≤ 9 by omega) (show 0 ≤ r347.toInt by omega) (show r347.toInt ≤ 3 by omega)  hw hT hF c361 c362 (lv_sub hl [0, 1, 2, 3, 4, 5, 6, 7, 8, 9] rfl)
  refine lv_aload_n hx hb dX12_leads_0 rfl (lv_at hl 0 rfl) ?_
  refine tk_getA hC hK hw hT hinX12 kM_at0 (by decide) rfl 34 (by decide) (List.mem_of_getElem? (i := 1) rfl) rfl rfl dX12_leads_1 ?_
  refine lv_aload_n hx hb dX12_leads_4 rfl (lv_at hl 0 rfl) ?_
  refine lv_iload_n hx hb dX12_leads_5 rfl (lv_at hl 3 rfl) ?_
  refine lv_iload hx hb dX12_leads_6 (lv_at hl 4 rfl) ?_
  refine lv_iload hx hb dX12_leads_8 (lv_at hl 5 rfl) ?_
  refine tk_Vi hC hK hw hT hA hE hSR kM_at0 (by decide) rfl (k_X12_placeAt_1 l adK adV dC dI cy ad B (by omega) (by omega) qr s1   a3 (show 0 ≤ a3.toInt by omega) (show a3.toInt ≤ 120 by omega) a4 (show 0 ≤ a4.toInt by omega) (show a4.toInt ≤ 9 by omega) w0 s.heap.size hT ) (cwV 3 hC.2.2.2.2 gX12_leads_X12_placeAt rfl rfl rfl (by decide +kernel) ⟨Nat.le_of_ble_eq_true rfl, Nat.le_of_ble_eq_true rfl⟩) rfl hl.1 rfl (Nat.le_of_ble_eq_true rfl) dX12_leads_10 (fun r363 w365 H locs hp364 hw => ?_)
  obtain ⟨hT, k366, hg369⟩ := hp364
  have hF := hF.tr k366 (by decide)
  obtain ⟨g367, g368⟩ := hg369
  refine tk_iald hC hK hw hT kM_at17 rfl rfl (show 0 ≤ r363.toInt by omega) (show r363.toInt < 2600 by omega) dX12_leads_13 (fun x370 c371 rx370 tx370 => ?_)
  refine lv_istore (lv' := [(7, .int x370), (0, .ref (ad 0)), (1, .int a1), (2, .int a2), (3, .int a3), (4, .int a4), (5, .int 0), (6, .int a6)]) hx hb dX12_leads_14 hl (by decide) rfl (fun ls hl => ?_)
  refine lv_iload hx hb dX12_leads_16 (lv_at hl 0 rfl) ?_
  refine lv_ldcw (v := 100000000) hx hb hC.2.2.2.1 (hC.2.2.2.2 _ (List.mem_of_getElem? (i := 2) rfl)) dX12_leads_18 ?_
  refine lv_icmp_eq (tgt := 41) hx hb dX12_leads_21 (by decide) (fun c372 => ?_) (fun c372 => ?_)
  · have c372 : x370.toInt = (100000000 : Int) := wk_eq.mp c372
    exact J41 x370 H locs ls w365 (show 0 ≤ a1.toInt by omega) (show a1.toInt ≤ 3 by omega) (show 0 ≤ a2.toInt by omega) (show a2.toInt ≤ 1073741824 by omega) (show 0 ≤ a3.toInt by omega) (show a3.toInt ≤ 120 by omega) (show 0 ≤ a4.toInt by omega) (show a4.toInt ≤ 9 by omega) (show 0 ≤ a6.toInt by omega) (show a6.toInt ≤ 120 by omega)  hw hT hF  (lv_sub hl [1, 2, 3, 4, 5, 6, 7, 0] rfl)
  · have c372 : ¬ x370.toInt = (100000000 : Int) := wk_eqF c372
    refine lv_iload_n hx hb dX12_leads_24 rfl (lv_at hl 4 rfl) ?_
    refine lv_iload hx hb dX12_leads_25 (lv_at hl 7 rfl) ?_
    refine lv_icmp_eq (tgt := 41) hx hb dX12_leads_27 (by decide) (fun c373 => ?_) (fun c373 => ?_)
    · have c373 : a3.toInt = a6.toInt := wk_eq.mp c373
      exact J41 x370 H locs ls w365 (show 0 ≤ a1.toInt by omega) (show a1.toInt ≤ 3 by omega) (show 0 ≤ a2.toInt by omega) (show a2.toInt ≤ 1073741824 by omega) (show 0 ≤ a3.toInt by omega) (show a3.toInt ≤ 120 by omega) (show 0 ≤ a4.toInt by omega) (show a4.toInt ≤ 9 by omega) (show 0 ≤ a6.toInt by omega) (show a6.toInt ≤ 120 by omega)  hw hT hF  (lv_sub hl [1, 2, 3, 4, 5, 6, 7, 0] rfl)
    · have c373 : ¬ a3.toInt = a6.toInt := wk_eqF c373
      refine lv_iload hx hb dX12_leads_30 (lv_at hl 5 rfl) ?_
      refine lv_aload_n hx hb dX12_leads_32 rfl (lv_at hl 1 rfl) ?_
      refine lv_iload_n hx hb dX12_leads_33 rfl (lv_at hl 2 rfl) ?_
      refine lv_iconst (v := 1) hx hb dX12_leads_34 (by decide) ?_
      refine tk_Vi hC hK hw hT hA hE hSR kM_at0 (by decide) rfl (k_X12_walkerOf_3 l adK adV dC dI cy ad B (by omega) (by omega) qr s1   a1 (show 0 ≤ a1.toInt by omega) (show a1.toInt ≤ 3 by omega) w365 H.size hT ) (cwV 2 hC.2.2.2.2 gX12_leads_X12_walkerOf rfl rfl rfl (by decide +kernel) ⟨Nat.le_of_ble_eq_true rfl, Nat.le_of_ble_eq_true rfl⟩) rfl hl.1 rfl (Nat.le_of_ble_eq_true rfl) dX12_leads_35 (fun r374 w376 H locs hp375 hw => ?_)
      obtain ⟨hT, k377, hg381⟩ := hp375
      have hF := hF.tr k377 (by decide)
      obtain ⟨g378, g379, c380⟩ := hg381
      refine lv_icmp_ne (tgt := 42) hx hb dX12_leads_38 (by decide) (fun c382 => ?_) (fun c382 => ?_)
      · have c382 : ¬ a4.toInt = r374.toInt := wk_eqF c382
        refine lv_iload_n hx hb dX12_leads_42 rfl (lv_at hl 3 rfl) ?_
        refine lv_iload_n hx hb dX12_leads_43 rfl (lv_at hl 4 rfl) ?_
        refine lv_iadd hx hb dX12_leads_44 ?_
        refine lv_topi (fun x383 ex383 => ?_)
        have ex383 : x383.toInt = a2.toInt + a3.toInt := by rw [ex383]; exact wk_add (show (-2147483648) ≤ a2.toInt + a3.toInt by omega) (show a2.toInt + a3.toInt ≤ 2147483647 by omega)
        refine lv_istore (lv' := [(8, .int x383), (7, .int x370), (0, .ref (ad 0)), (1, .int a1), (2, .int a2), (3, .int a3), (4, .int a4), (5, .int 0), (6, .int a6)]) hx hb dX12_leads_45 hl (by decide) rfl (fun ls hl => ?_)
        refine lv_iload hx hb dX12_leads_47 (lv_at hl 0 rfl) ?_
        refine lv_iconst (v := 1) hx hb dX12_leads_49 (by decide) ?_
        refine lv_iadd hx hb dX12_leads_50 ?_
        refine lv_topi (fun x384 ex384 => ?_)
        have ex384 : x384.toInt = x383.toInt + (1 : Int) := by rw [ex384]; exact wk_add (show (-2147483648) ≤ x383.toInt + (1 : Int) by omega) (show x383.toInt + (1 : Int) ≤ 2147483647 by omega)
        refine lv_bipush (v := 24) hx hb dX12_leads_51 (by decide) ?_
        refine lv_idiv hx hb dX12_leads_53 (by decide) ?_
        refine lv_topi (fun x385 ex385 => ?_)
        have ex385 : x385.toInt = x384.toInt / (24 : Int) := by rw [ex385]; exact wk_div (show 0 ≤ x384.toInt by omega) (show 0 < (24 : Int) by decide)
        refine lv_iload hx hb dX12_leads_54 (lv_at hl 0 rfl) ?_
        refine lv_bipush (v := 24) hx hb dX12_leads_56 (by decide) ?_
        refine lv_idiv hx hb dX12_leads_58 (by decide) ?_
        refine lv_topi (fun x386 ex386 => ?_)
        have ex386 : x386.toInt = x383.toInt / (24 : Int) := by rw [ex386]; exact wk_div (show 0 ≤ x383.toInt by omega) (show 0 < (24 : Int) by decide)
        refine lv_icmp_ne (tgt := 66) hx hb dX12_leads_59 (by decide) (fun c387 => ?_) (fun c387 => ?_)
        · have c387 : ¬ x385.toInt = x386.toInt := wk_eqF c387
          refine lv_iconst (v := 0) hx hb dX12_leads_66 (by decide) ?_
          refine lv_istore (lv' := [(9, .int 0), (8, .int x383), (7, .int x370), (0, .ref (ad 0)), (1, .int a1), (2, .int a2), (3, .int a3), (4, .int a4), (5, .int 0), (6, .int a6)]) hx hb dX12_leads_67 hl (by decide) rfl (fun ls hl => ?_)
          refine lv_aload_n hx hb dX12_leads_69 rfl (lv_at hl 3 rfl) ?_
          refine lv_iload_n hx hb dX12_leads_70 rfl (lv_at hl 6 rfl) ?_
          refine lv_iconst (v := 1) hx hb dX12_leads_71 (by decide) ?_
          refine lv_iadd hx hb dX12_leads_72 ?_
          refine lv_topi (fun x388 ex388 => ?_)
          have ex388 : x388.toInt = a3.toInt + (1 : Int) := by rw [ex388]; exact wk_add (show (-2147483648) ≤ a3.toInt + (1 : Int) by omega) (show a3.toInt + (1 : Int) ≤ 2147483647 by omega)
          refine lv_iload hx hb dX12_leads_73 (lv_at hl 7 rfl) ?_
          refine lv_iload hx hb dX12_leads_75 (lv_at hl 8 rfl) ?_
          refine lv_if_eq (tgt := 89) hx hb dX12_leads_77 (by decide) (fun _ => ?_) (fun c => absurd (by decide) c)
          refine lv_iconst (v := 0) hx hb dX12_leads_89 (by decide) ?_
          refine lv_iload hx hb dX12_leads_90 (lv_at hl 2 rfl) ?_
          refine tk_Vv hC hK hw hT hA hE hSR kM_at0 (by decide) rfl (k_X12_could_2 l adK adV dC dI cy ad B (by omega) (by omega) qr s1   x388 (show 1 ≤ x388.toInt by omega) (show x388.toInt ≤ 121 by omega) a4 (show 0 ≤ a4.toInt by omega) (show a4.toInt ≤ 9 by omega) x370 w376 H.size hT ) (cwV 4 hC.2.2.2.2 gX12_leads_X12_could rfl rfl rfl (by decide +kernel) ⟨Nat.le_of_ble_eq_true rfl, Nat.le_of_ble_eq_true rfl⟩) rfl hl.1 rfl (Nat.le_of_ble_eq_true rfl) dX12_leads_92 (fun w391 H locs hp390 hw => ?_)
          obtain ⟨hT, k392, hg393⟩ := hp390
          have hF := hF.tr k392 (by decide)
          have c394 := k392.gi kM_at12 rfl c380
          clear hg393
          refine lv_iload hx hb dX12_leads_95 (lv_at hl 8 rfl) ?_
          refine lv_if_ne (tgt := 115) hx hb dX12_leads_97 (by decide) (fun c => absurd (by decide) c) (fun _ => ?_)
          refine lv_aload_n hx hb dX12_leads_100 rfl (lv_at hl 3 rfl) ?_
          refine lv_iload_n hx hb dX12_leads_101 rfl (lv_at hl 6 rfl) ?_
          refine lv_iconst (v := 1) hx hb dX12_leads_102 (by decide) ?_
          refine lv_iadd hx hb dX12_leads_103 ?_
          refine lv_topi (fun x395 ex395 => ?_)
          have ex395 : x395.toInt = a3.toInt + (1 : Int) := by rw [ex395]; exact wk_add (show (-2147483648) ≤ a3.toInt + (1 : Int) by omega) (show a3.toInt + (1 : Int) ≤ 2147483647 by omega)
          refine lv_iload hx hb dX12_leads_104 (lv_at hl 7 rfl) ?_
          refine lv_iload hx hb dX12_leads_106 (lv_at hl 0 rfl) ?_
          refine lv_iload hx hb dX12_leads_108 (lv_at hl 2 rfl) ?_
          refine lv_iconst (v := 1) hx hb dX12_leads_110 (by decide) ?_
          refine lv_iadd hx hb dX12_leads_111 ?_
          have nx396 := wk_i32 x370
          refine lv_topi (fun x397 ex397 => ?_)
          refine tk_Vv hC hK hw hT hA hE hSR kM_at0 (by decide) rfl (k_X12_could_2 l adK adV dC dI cy ad B (by omega) (by omega) qr s1   x395 (show 1 ≤ x395.toInt by omega) (show x395.toInt ≤ 121 by omega) a4 (show 0 ≤ a4.toInt by omega) (show a4.toInt ≤ 9 by omega) x397 w391 H.size hT ) (cwV 4 hC.2.2.2.2 gX12_leads_X12_could rfl rfl rfl (by decide +kernel) ⟨Nat.le_of_ble_eq_true rfl, Nat.le_of_ble_eq_true rfl⟩) rfl hl.1 rfl (Nat.le_of_ble_eq_true rfl) dX12_leads_112 (fun w400 H locs hp399 hw => ?_)
          obtain ⟨hT, k401, hg402⟩ := hp399
          have hF := hF.tr k401 (by decide)
          have c403 := k401.gi kM_at12 rfl c394
          clear hg402
          exact J115 x370 x383 0 r374 H locs ls w400 (show 0 ≤ a1.toInt by omega) (show a1.toInt ≤ 3 by omega) (show 0 ≤ a2.toInt by omega) (show a2.toInt ≤ 1073741824 by omega) (show 0 ≤ a3.toInt by omega) (show a3.toInt ≤ 120 by omega) (show 0 ≤ a4.toInt by omega) (show a4.toInt ≤ 9 by omega) (show 0 ≤ a6.toInt by omega) (show a6.toInt ≤ 120 by omega) (show 0 ≤ x383.toInt by omega) (show x383.toInt ≤ 1073741944 by omega) (by decide) (by decide) (show 0 ≤ r374.toInt by omega) (show r374.toInt ≤ 9 by omega)  hw hT hF c403 (lv_sub hl [3, 4, 5, 6, 7, 8, 9, 2, 1, 0] rfl)
        · have c387 : x385.toInt = x386.toInt := wk_eq.mp c387
          refine lv_iconst (v := 1) hx hb dX12_leads_62 (by decide) ?_
          refine lv_goto (tgt := 67) hx hb dX12_leads_63 (by decide) ?_
          refine lv_istore (lv' := [(9, .int 1), (8, .int x383), (7, .int x370), (0, .ref (ad 0)), (1, .int a1), (2, .int a2), (3, .int a3), (4, .int a4), (5, .int 0), (6, .int a6)]) hx hb dX12_leads_67 hl (by decide) rfl (fun ls hl => ?_)
          refine lv_aload_n hx hb dX12_leads_69 rfl (lv_at hl 3 rfl) ?_
          refine lv_iload_n hx hb dX12_leads_70 rfl (lv_at hl 6 rfl) ?_
          refine lv_iconst (v := 1) hx hb dX12_leads_71 (by decide) ?_
          refine lv_iadd hx hb dX12_leads_72 ?_
          refine lv_topi (fun x404 ex404 => ?_)
          have ex404 : x404.toInt = a3.toInt + (1 : Int) := by rw [ex404]; exact wk_add (show (-2147483648) ≤ a3.toInt + (1 : Int) by omega) (show a3.toInt + (1 : Int) ≤ 2147483647 by omega)
          refine lv_iload hx hb dX12_leads_73 (lv_at hl 7 rfl) ?_
          refine lv_iload hx hb dX12_leads_75 (lv_at hl 8 rfl) ?_
          refine lv_if_eq (tgt := 89) hx hb dX12_leads_77 (by decide) (fun _ => ?_) (fun c => absurd (by decide) c)
          refine lv_iconst (v := 0) hx hb dX12_leads_89 (by decide) ?_
          refine lv_iload hx hb dX12_leads_90 (lv_at hl 2 rfl) ?_
          refine tk_Vv hC hK hw hT hA hE hSR kM_at0 (by decide) rfl (k_X12_could_2 l adK adV dC dI cy ad B (by omega) (by omega) qr s1   x404 (show 1 ≤ x404.toInt by omega) (show x404.toInt ≤ 121 by omega) a4 (show 0 ≤ a4.toInt by omega) (show a4.toInt ≤ 9 by omega) x370 w376 H.size hT ) (cwV 4 hC.2.2.2.2 gX12_leads_X12_could rfl rfl rfl (by decide +kernel) ⟨Nat.le_of_ble_eq_true rfl, Nat.le_of_ble_eq_true rfl⟩) rfl hl.1 rfl (Nat.le_of_ble_eq_true rfl) dX12_leads_92 (fun w407 H locs hp406 hw => ?_)
          obtain ⟨hT, k408, hg409⟩ := hp406
          have hF := hF.tr k408 (by decide)
          have c410 := k408.gi kM_at12 rfl c380
          clear hg409
          refine lv_iload hx hb dX12_leads_95 (lv_at hl 8 rfl) ?_
          refine lv_if_ne (tgt := 115) hx hb dX12_leads_97 (by decide) (fun c => absurd (by decide) c) (fun _ => ?_)
          refine lv_aload_n hx hb dX12_leads_100 rfl (lv_at hl 3 rfl) ?_
          refine lv_iload_n hx hb dX12_leads_101 rfl (lv_at hl 6 rfl) ?_
          refine lv_iconst (v := 1) hx hb dX12_leads_102 (by decide) ?_
          refine lv_iadd hx hb dX12_leads_103 ?_
          refine lv_topi (fun x411 ex411 => ?_)
          have ex411 : x411.toInt = a3.toInt + (1 : Int) := by rw [ex411]; exact wk_add (show (-2147483648) ≤ a3.toInt + (1 : Int) by omega) (show a3.toInt + (1 : Int) ≤ 2147483647 by omega)
          refine lv_iload hx hb dX12_leads_104 (lv_at hl 7 rfl) ?_
          refine lv_iload hx hb dX12_leads_106 (lv_at hl 0 rfl) ?_
          refine lv_iload hx hb dX12_leads_108 (lv_at hl 2 rfl) ?_
          refine lv_iconst (v := 1) hx hb dX12_leads_110 (by decide) ?_
          refine lv_iadd hx hb dX12_leads_111 ?_
          have nx412 := wk_i32 x370
          refine lv_topi (fun x413 ex413 => ?_)
          refine tk_Vv hC hK hw hT hA hE hSR kM_at0 (by decide) rfl (k_X12_could_3 l adK adV dC dI cy ad B (by omega) (by omega) qr s1   x411 (show 1 ≤ x411.toInt by omega) (show x411.toInt ≤ 121 by omega) a4 (show 0 ≤ a4.toInt by omega) (show a4.toInt ≤ 9 by omega) x413 w407 H.size hT ) (cwV 4 hC.2.2.2.2 gX12_leads_X12_could rfl rfl rfl (by decide +kernel) ⟨Nat.le_of_ble_eq_true rfl, Nat.le_of_ble_eq_true rfl⟩) rfl hl.1 rfl (Nat.le_of_ble_eq_true rfl) dX12_leads_112 (fun w416 H locs hp415 hw => ?_)
          obtain ⟨hT, k417, hg418⟩ := hp415
          have hF := hF.tr k417 (by decide)
          have c419 := k417.gi kM_at12 rfl c410
          clear hg418
          exact J115 x370 x383 1 r374 H locs ls w416 (show 0 ≤ a1.toInt by omega) (show a1.toInt ≤ 3 by omega) (show 0 ≤ a2.toInt by omega) (show a2.toInt ≤ 1073741824 by omega) (show 0 ≤ a3.toInt by omega) (show a3.toInt ≤ 120 by omega) (show 0 ≤ a4.toInt by omega) (show a4.toInt ≤ 9 by omega) (show 0 ≤ a6.toInt by omega) (show a6.toInt ≤ 120 by omega) (show 0 ≤ x383.toInt by omega) (show x383.toInt ≤ 1073741944 by omega) (by decide) (by decide) (show 0 ≤ r374.toInt by omega) (show r374.toInt ≤ 9 by omega)  hw hT hF c419 (lv_sub hl [3, 4, 5, 6, 7, 8, 9, 2, 1, 0] rfl)
      · have c382 : a4.toInt = r374.toInt := wk_eq.mp c382
        exact J41 x370 H locs ls w376 (show 0 ≤ a1.toInt by omega) (show a1.toInt ≤ 3 by omega) (show 0 ≤ a2.toInt by omega) (show a2.toInt ≤ 1073741824 by omega) (show 0 ≤ a3.toInt by omega) (show a3.toInt ≤ 120 by omega) (show 0 ≤ a4.toInt by omega) (show a4.toInt ≤ 9 by omega) (show 0 ≤ a6.toInt by omega) (show a6.toInt ≤ 120 by omega)  hw hT hF  (lv_sub hl [1, 2, 3, 4, 5, 6, 7, 0] rfl)
