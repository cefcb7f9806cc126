abbrev P_X12_isOpen_2 (ad : Nat → Nat) (cy : Nat → ClassId) (B : Int) (qr : Nat) (s1 : Int) (a1 : Int32) (a2 : Int32) (a3 : Int32) (w0 : va_W) : Int32 → va_W → Prop := fun r u => TW ksM ad cy B qr 12 u ∧ FE ksM ([] : List (Nat × Nat × Nat)) w0 u ∧ ((r = 0) ∨ (r = 1) ∨ (r = 1 ∧ gi u 12 (10 * a1.toInt + 10).toNat = a2))
set_option maxHeartbeats 4000000 in
set_option maxRecDepth 100000 in
theorem k_X12_isOpen_2 (l : Launch) (adK adV : Nat → Nat) (dC : Nat → ClassId) (dI : Nat → Nat → Nat) (cy : Nat → ClassId) (ad : Nat → Nat) (B : Int) (hB0 : 100000 ≤ B) (hB1 : B ≤ 1073741824) (qr : Nat) (s1 : Int)  (a1 : Int32) (ra1 : 0 ≤ a1.toInt) (ta1 : a1.toInt ≤ 11) (a2 : Int32) (ra2 : 0 ≤ a2.toInt) (ta2 : a2.toInt ≤ 9) (a3 : Int32) (ra3 : 0 ≤ a3.toInt) (ta3 : a3.toInt ≤ 1073741944) (w0 : va_W) (sz : Nat) (hT : TW ksM ad cy B qr 12 w0)  : Met l yX12_isOpen wsX12_isOpen ({ frames := 4, cells := 0, slots := 0, locals := 80 }) (va_Pc [.ref (ad 0), .int a1, .int a2, .int a3] (wpreS adK adV dC dI cy sz w0)) (va_Qi (P_X12_isOpen_2 ad cy B qr s1 a1 a2 a3 w0) (fun u : va_W => wpost dC dI cy (va_A w0 sz) u) (va_A w0 sz)) 0 0 (va_A w0 sz) := by
  refine Met.ofW (cc := cX12_isOpen) (maxL := 4) (ret := (some .boolean)) (by decide) rfl ?_
  intro p e s m args below meth c s₁ Bk hml hv
  obtain ⟨rfl, ⟨hsz, hP, hK, hD0⟩, hE, hSR⟩ := hv
  have hx := Bk.exec
  have hb := Bk.bytes
  have hr := Bk.returns
  have hlocks := Bk.notSynchronized
  have hC : CallFix p m c cX12_isOpen 4 s _ wsX12_isOpen RX12 := ⟨hx, hb, hml, findClass_of_methodNamed Bk.named, atoms_spec (ws := wsX12_isOpen) Bk.pre⟩
  subst hsz
  have hD := hD0.self (sz := s.heap.size)
  generalize hAe : va_A w0 s.heap.size = A at hD hE ⊢
  have hA : ∀ q : Nat, s.heap.size ≤ q → A q := fun q h => by rw [← hAe]; exact Or.inr h
  have hw : Wd dC dI A s.heap s.heap [] w0 := ⟨hP, hD, va_S.rf⟩
  have hF : FE ksM ([] : List (Nat × Nat × Nat)) w0 w0 := FE.rf
  have hl := lv_entry ([.ref (ad 0), .int a1, .int a2, .int a3]) (n := 4) (Nat.le_of_ble_eq_true rfl)
  rw [lg_entry_eq]
  generalize (lg_sl ([.ref (ad 0), .int a1, .int a2, .int a3]) ++ List.replicate (4 - (lg_sl ([.ref (ad 0), .int a1, .int a2, .int a3])).length) Slot.unset).toArray = ls at hl ⊢
  have hl : lv_has ls 4 [(0, .ref (ad 0)), (1, .int a1), (2, .int a2), (3, .int a3)] := hl
  generalize hloc : ([] : List Loc) = locs at hw ⊢
  have J35 : ∀ (H : Heap) (locs : List Loc) (ls : Array Slot) (w1 : va_W), 0 ≤ a1.toInt → a1.toInt ≤ 11 → 0 ≤ a2.toInt → a2.toInt ≤ 9 → 0 ≤ a3.toInt → a3.toInt ≤ 1073741944 → Wd dC dI A s.heap H locs w1 → TW ksM ad cy B qr 12 w1 → FE ksM ([] : List (Nat × Nat × Nat)) w0 w1 → lv_has ls 4 [(0, .ref (ad 0)), (1, .int a1), (2, .int a2), (3, .int a3)] → W p l e ({ frames := 4, cells := 0, slots := 0, locals := 80 }) s m (List.toArray [.ref (ad 0), .int a1, .int a2, .int a3]) below meth c H locs 0 0 (MQ below (va_Qi (P_X12_isOpen_2 ad cy B qr s1 a1 a2 a3 w0) (fun u : va_W => wpost dC dI cy A u) A) (List.toArray [.ref (ad 0), .int a1, .int a2, .int a3]) s 0 0 A) (F0 m 35 ls []) := by
    intro H locs ls w1 r2 t3 r4 t5 r6 t7 hw hT hF hl
    refine lv_iconst (v := 0) hx hb dX12_isOpen_35 (by decide) ?_
    exact tk_zret hC hr rfl hlocks hK ⟨hT, hF, (Or.inl rfl)⟩ hw dX12_isOpen_36
  refine lv_aload_n hx hb dX12_isOpen_0 rfl (lv_at hl 0 rfl) ?_
  refine lv_iload_n hx hb dX12_isOpen_1 rfl (lv_at hl 1 rfl) ?_
  refine lv_iload_n hx hb dX12_isOpen_2 rfl (lv_at hl 2 rfl) ?_
  refine tk_Vi hC hK hw hT hA hE hSR kM_at0 (by decide) rfl (k_X12_isAt_1 l adK adV dC dI cy ad B (by omega) (by omega) qr s1   a1 (show 0 ≤ a1.toInt by omega) (show a1.toInt ≤ 11 by omega) a2 (show 0 ≤ a2.toInt by omega) (show a2.toInt ≤ 9 by omega) w0 s.heap.size hT ) (cwV 2 hC.2.2.2.2 gX12_isOpen_X12_isAt rfl rfl rfl (by decide +kernel) ⟨Nat.le_of_ble_eq_true rfl, Nat.le_of_ble_eq_true rfl⟩) rfl hl.1 rfl (Nat.le_of_ble_eq_true rfl) dX12_isOpen_3 (fun r8 w10 H locs hp9 hw => ?_)
  obtain ⟨hT, k11, hg12⟩ := hp9
  have hF := hF.tr k11 (by decide)
  rcases hg12 with rfl | rfl
  · refine lv_if_eq (tgt := 35) hx hb dX12_isOpen_6 (by decide) (fun _ => ?_) (fun c => absurd (by decide) c)
    exact J35  H locs ls w10 (show 0 ≤ a1.toInt by omega) (show a1.toInt ≤ 11 by omega) (show 0 ≤ a2.toInt by omega) (show a2.toInt ≤ 9 by omega) (show 0 ≤ a3.toInt by omega) (show a3.toInt ≤ 1073741944 by omega)  hw hT hF  (lv_sub hl [0, 1, 2, 3] rfl)
  · refine lv_if_eq (tgt := 35) hx hb dX12_isOpen_6 (by decide) (fun c => absurd c (by decide)) (fun _ => ?_)
    refine lv_aload_n hx hb dX12_isOpen_9 rfl (lv_at hl 0 rfl) ?_
    refine lv_iload_n hx hb dX12_isOpen_10 rfl (lv_at hl 1 rfl) ?_
    refine lv_iload_n hx hb dX12_isOpen_11 rfl (lv_at hl 2 rfl) ?_
    refine lv_iload_n hx hb dX12_isOpen_12 rfl (lv_at hl 3 rfl) ?_
    refine lv_bipush (v := 24) hx hb dX12_isOpen_13 (by decide) ?_
    refine lv_idiv hx hb dX12_isOpen_15 (by decide) ?_
    refine lv_topi (fun x13 ex13 => ?_)
    have ex13 : x13.toInt = a3.toInt / (24 : Int) := by rw [ex13]; exact wk_div (show 0 ≤ a3.toInt by omega) (show 0 < (24 : Int) by decide)
    refine tk_Vi hC hK hw hT hA hE hSR kM_at0 (by decide) rfl (k_X12_isDayFor_4 l adK adV dC dI cy ad B (by omega) (by omega) qr s1   a1 (show 0 ≤ a1.toInt by omega) (show a1.toInt ≤ 11 by omega) a2 (show 0 ≤ a2.toInt by omega) (show a2.toInt ≤ 9 by omega) x13 (show 0 ≤ x13.toInt by omega) (show x13.toInt ≤ 44739247 by omega) w10 H.size hT ) (cwV 3 hC.2.2.2.2 gX12_isOpen_X12_isDayFor rfl rfl rfl (by decide +kernel) ⟨Nat.le_of_ble_eq_true rfl, Nat.le_of_ble_eq_true rfl⟩) rfl hl.1 rfl (Nat.le_of_ble_eq_true rfl) dX12_isOpen_16 (fun r14 w16 H locs hp15 hw => ?_)
    obtain ⟨hT, k17, hg20⟩ := hp15
    have hF := hF.tr k17 (by decide)
    rcases hg20 with rfl | ⟨rfl, c18⟩ | rfl | ⟨rfl, c19⟩
    · refine lv_if_eq (tgt := 35) hx hb dX12_isOpen_19 (by decide) (fun _ => ?_) (fun c => absurd (by decide) c)
      exact J35  H locs ls w16 (show 0 ≤ a1.toInt by omega) (show a1.toInt ≤ 11 by omega) (show 0 ≤ a2.toInt by omega) (show a2.toInt ≤ 9 by omega) (show 0 ≤ a3.toInt by omega) (show a3.toInt ≤ 1073741944 by omega)  hw hT hF  (lv_sub hl [0, 1, 2, 3] rfl)
    · refine lv_if_eq (tgt := 35) hx hb dX12_isOpen_19 (by decide) (fun _ => ?_) (fun c => absurd (by decide) c)
      exact J35  H locs ls w16 (show 0 ≤ a1.toInt by omega) (show a1.toInt ≤ 11 by omega) (show 0 ≤ a2.toInt by omega) (show a2.toInt ≤ 9 by omega) (show 0 ≤ a3.toInt by omega) (show a3.toInt ≤ 1073741944 by omega)  hw hT hF  (lv_sub hl [0, 1, 2, 3] rfl)
    · refine lv_if_eq (tgt := 35) hx hb dX12_isOpen_19 (by decide) (fun c => absurd c (by decide)) (fun _ => ?_)
      refine lv_aload_n hx hb dX12_isOpen_22 rfl (lv_at hl 0 rfl) ?_
      refine lv_iload_n hx hb dX12_isOpen_23 rfl (lv_at hl 1 rfl) ?_
      refine lv_iload_n hx hb dX12_isOpen_24 rfl (lv_at hl 3 rfl) ?_
      refine tk_Vi hC hK hw hT hA hE hSR kM_at0 (by decide) rfl (k_X12_isLifted_4 l adK adV dC dI cy ad B (by omega) (by omega) qr s1   a1 (show 0 ≤ a1.toInt by omega) (show a1.toInt ≤ 11 by omega) a3 (show 0 ≤ a3.toInt by omega) (show a3.toInt ≤ 1073741944 by omega) w16 H.size hT ) (cwV 2 hC.2.2.2.2 gX12_isOpen_X12_isLifted rfl rfl rfl (by decide +kernel) ⟨Nat.le_of_ble_eq_true rfl, Nat.le_of_ble_eq_true rfl⟩) rfl hl.1 rfl (Nat.le_of_ble_eq_true rfl) dX12_isOpen_25 (fun r21 w23 H locs hp22 hw => ?_)
      obtain ⟨hT, k24, hg27⟩ := hp22
      have hF := hF.tr k24 (by decide)
      rcases hg27 with rfl | ⟨rfl, ⟨x25, c26, rx25, tx25⟩⟩
      · refine lv_if_ne (tgt := 35) hx hb dX12_isOpen_28 (by decide) (fun c => absurd (by decide) c) (fun _ => ?_)
        refine lv_iconst (v := 1) hx hb dX12_isOpen_31 (by decide) ?_
        refine lv_goto (tgt := 36) hx hb dX12_isOpen_32 (by decide) ?_
        exact tk_zret hC hr rfl hlocks hK ⟨hT, hF, (Or.inr (Or.inl rfl))⟩ hw dX12_isOpen_36
      · refine lv_if_ne (tgt := 35) hx hb dX12_isOpen_28 (by decide) (fun _ => ?_) (fun c => absurd c (by decide))
        exact J35  H locs ls w23 (show 0 ≤ a1.toInt by omega) (show a1.toInt ≤ 11 by omega) (show 0 ≤ a2.toInt by omega) (show a2.toInt ≤ 9 by omega) (show 0 ≤ a3.toInt by omega) (show a3.toInt ≤ 1073741944 by omega)  hw hT hF  (lv_sub hl [0, 1, 2, 3] rfl)
    · refine lv_if_eq (tgt := 35) hx hb dX12_isOpen_19 (by decide) (fun c => absurd c (by decide)) (fun _ => ?_)
      refine lv_aload_n hx hb dX12_isOpen_22 rfl (lv_at hl 0 rfl) ?_
      refine lv_iload_n hx hb dX12_isOpen_23 rfl (lv_at hl 1 rfl) ?_
      refine lv_iload_n hx hb dX12_isOpen_24 rfl (lv_at hl 3 rfl) ?_
      refine tk_Vi hC hK hw hT hA hE hSR kM_at0 (by decide) rfl (k_X12_isLifted_4 l adK adV dC dI cy ad B (by omega) (by omega) qr s1   a1 (show 0 ≤ a1.toInt by omega) (show a1.toInt ≤ 11 by omega) a3 (show 0 ≤ a3.toInt by omega) (show a3.toInt ≤ 1073741944 by omega) w16 H.size hT ) (cwV 2 hC.2.2.2.2 gX12_isOpen_X12_isLifted rfl rfl rfl (by decide +kernel) ⟨Nat.le_of_ble_eq_true rfl, Nat.le_of_ble_eq_true rfl⟩) rfl hl.1 rfl (Nat.le_of_ble_eq_true rfl) dX12_isOpen_25 (fun r28 w30 H locs hp29 hw => ?_)
      obtain ⟨hT, k31, hg34⟩ := hp29
      have hF := hF.tr k31 (by decide)
      have c35 := k31.gi kM_at12 rfl c19
      rcases hg34 with rfl | ⟨rfl, ⟨x32, c33, rx32, tx32⟩⟩
      · refine lv_if_ne (tgt := 35) hx hb dX12_isOpen_28 (by decide) (fun c => absurd (by decide) c) (fun _ => ?_)
        refine lv_iconst (v := 1) hx hb dX12_isOpen_31 (by decide) ?_
        refine lv_goto (tgt := 36) hx hb dX12_isOpen_32 (by decide) ?_
        exact tk_zret hC hr rfl hlocks hK ⟨hT, hF, (Or.inr (Or.inr ⟨rfl, c35⟩))⟩ hw dX12_isOpen_36
      · refine lv_if_ne (tgt := 35) hx hb dX12_isOpen_28 (by decide) (fun _ => ?_) (fun c => absurd c (by decide))
        exact J35  H locs ls w30 (show 0 ≤ a1.toInt by omega) (show a1.toInt ≤ 11 by omega) (show 0 ≤ a2.toInt by omega) (show a2.toInt ≤ 9 by omega) (show 0 ≤ a3.toInt by omega) (show a3.toInt ≤ 1073741944 by omega)  hw hT hF  (lv_sub hl [0, 1, 2, 3] rfl)
abbrev P_X12_placeAt_1 (ad : Nat → Nat) (cy : Nat → ClassId) (B : Int) (qr : Nat) (s1 : Int) (a1 : Int32) (a2 : Int32) (w0 : va_W) : Int32 → va_W → Prop := fun r u => TW ksM ad cy B qr 12 u ∧ FE ksM ([] : List (Nat × Nat × Nat)) w0 u ∧ ((0 ≤ r.toInt ∧ r.toInt ≤ 2418))
set_option maxHeartbeats 4000000 in
set_option maxRecDepth 100000 in
theorem k_X12_placeAt_1 (l : Launch) (adK adV : Nat → Nat) (dC : Nat → ClassId) (dI : Nat → Nat → Nat) (cy : Nat → ClassId) (ad : Nat → Nat) (B : Int) (hB0 : 100000 ≤ B) (hB1 : B ≤ 1073741824) (qr : Nat) (s1 : Int)  (a1 : Int32) (ra1 : 0 ≤ a1.toInt) (ta1 : a1.toInt ≤ 120) (a2 : Int32) (ra2 : 0 ≤ a2.toInt) (ta2 : a2.toInt ≤ 9) (w0 : va_W) (sz : Nat) (hT : TW ksM ad cy B qr 12 w0)  : Met l yX12_placeAt wsX12_placeAt ({ frames := 1, cells := 0, slots := 0, locals := 12 }) (va_Pc [.ref (ad 0), .int a1, .int a2, .int 0] (wpreS adK adV dC dI cy sz w0)) (va_Qi (P_X12_placeAt_1 ad cy B qr s1 a1 a2 w0) (fun u : va_W => wpost dC dI cy (va_A w0 sz) u) (va_A w0 sz)) 0 0 (va_A w0 sz) := by
  refine Met.ofW (cc := cX12_placeAt) (maxL := 4) (ret := (some .int)) (by decide) rfl ?_
  intro p e s m args below meth c s₁ Bk hml hv
  obtain ⟨rfl, ⟨hsz, hP, hK, hD0⟩, hE, hSR⟩ := hv
  have hx := Bk.exec
  have hb := Bk.bytes
  have hr := Bk.returns
  have hlocks := Bk.notSynchronized
  have hC : CallFix p m c cX12_placeAt 4 s _ wsX12_placeAt RX12 := ⟨hx, hb, hml, findClass_of_methodNamed Bk.named, atoms_spec (ws := wsX12_placeAt) Bk.pre⟩
  subst hsz
  have hD := hD0.self (sz := s.heap.size)
  generalize hAe : va_A w0 s.heap.size = A at hD hE ⊢
  have hA : ∀ q : Nat, s.heap.size ≤ q → A q := fun q h => by rw [← hAe]; exact Or.inr h
  have hw : Wd dC dI A s.heap s.heap [] w0 := ⟨hP, hD, va_S.rf⟩
  have hF : FE ksM ([] : List (Nat × Nat × Nat)) w0 w0 := FE.rf
  have hl := lv_entry ([.ref (ad 0), .int a1, .int a2, .int 0]) (n := 4) (Nat.le_of_ble_eq_true rfl)
  rw [lg_entry_eq]
  generalize (lg_sl ([.ref (ad 0), .int a1, .int a2, .int 0]) ++ List.replicate (4 - (lg_sl ([.ref (ad 0), .int a1, .int a2, .int 0])).length) Slot.unset).toArray = ls at hl ⊢
  have hl : lv_has ls 4 [(0, .ref (ad 0)), (1, .int a1), (2, .int a2), (3, .int 0)] := hl
  generalize hloc : ([] : List Loc) = locs at hw ⊢
  refine lv_iload_n hx hb dX12_placeAt_0 rfl (lv_at hl 1 rfl) ?_
  refine lv_bipush (v := 10) hx hb dX12_placeAt_1 (by decide) ?_
  refine lv_imul hx hb dX12_placeAt_3 ?_
  refine lv_topi (fun x1 ex1 => ?_)
  have ex1 : x1.toInt = a1.toInt * (10 : Int) := by rw [ex1]; exact wk_mul (show (-2147483648) ≤ a1.toInt * (10 : Int) by omega) (show a1.toInt * (10 : Int) ≤ 2147483647 by omega)
  refine lv_iload_n hx hb dX12_placeAt_4 rfl (lv_at hl 2 rfl) ?_
  refine lv_iadd hx hb dX12_placeAt_5 ?_
  refine lv_topi (fun x2 ex2 => ?_)
  have ex2 : x2.toInt = x1.toInt + a2.toInt := by rw [ex2]; exact wk_add (show (-2147483648) ≤ x1.toInt + a2.toInt by omega) (show x1.toInt + a2.toInt ≤ 2147483647 by omega)
  refine lv_iconst (v := 2) hx hb dX12_placeAt_6 (by decide) ?_
  refine lv_imul hx hb dX12_placeAt_7 ?_
  refine lv_topi (fun x3 ex3 => ?_)
  have ex3 : x3.toInt = x2.toInt * (2 : Int) := by rw [ex3]; exact wk_mul (show (-2147483648) ≤ x2.toInt * (2 : Int) by omega) (show x2.toInt * (2 : Int) ≤ 2147483647 by omega)
  refine lv_iload_n hx hb dX12_placeAt_8 rfl (lv_at hl 3 rfl) ?_
  refine lv_if_eq (tgt := 16) hx hb dX12_placeAt_9 (by decide) (fun _ => ?_) (fun c => absurd (by decide) c)
  refine lv_iconst (v := 0) hx hb dX12_placeAt_16 (by decide) ?_
  refine lv_iadd hx hb dX12_placeAt_17 ?_
  refine lv_topi (fun x4 ex4 => ?_)
  have ex4 : x4.toInt = x3.toInt + (0 : Int) := by rw [ex4]; exact wk_add (show (-2147483648) ≤ x3.toInt + (0 : Int) by omega) (show x3.toInt + (0 : Int) ≤ 2147483647 by omega)
  exact tk_iret hC hr hlocks hK ⟨hT, hF, ⟨(show 0 ≤ x4.toInt by omega), (show x4.toInt ≤ 2418 by omega)⟩⟩ hw dX12_placeAt_18
abbrev P_X12_could_1 (ad : Nat → Nat) (cy : Nat → ClassId) (B : Int) (qr : Nat) (s1 : Int) (a1 : Int32) (a2 : Int32) (a4 : Int32) (w0 : va_W) : va_W → Prop := fun u => TW ksM ad cy B qr 12 u ∧ FE ksM [(76, 0, 2600)] w0 u ∧ ((True))
set_option maxHeartbeats 4000000 in
set_option maxRecDepth 100000 in
theorem k_X12_could_1 (l : Launch) (adK adV : Nat → Nat) (dC : Nat → ClassId) (dI : Nat → Nat → Nat) (cy : Nat → ClassId) (ad : Nat → Nat) (B : Int) (hB0 : 100000 ≤ B) (hB1 : B ≤ 1073741824) (qr : Nat) (s1 : Int)  (a1 : Int32) (ra1 : 0 ≤ a1.toInt) (ta1 : a1.toInt ≤ 120) (a2 : Int32) (ra2 : 0 ≤ a2.toInt) (ta2 : a2.toInt ≤ 9) (a4 : Int32) (w0 : va_W) (sz : Nat) (hT : TW ksM ad cy B qr 12 w0)  : Met l yX12_could wsX12_could ({ frames := 2, cells := 0, slots := 0, locals := 35 }) (va_Pc [.ref (ad 0), .int a1, .int a2, .int 0, .int a4] (wpreS adK adV dC dI cy sz w0)) (va_Qv (P_X12_could_1 ad cy B qr s1 a1 a2 a4 w0) (fun u : va_W => wpost dC dI cy (va_A w0 sz) u) (va_A w0 sz)) 0 0 (va_A w0 sz) := by
  refine Met.ofW (cc := cX12_could) (maxL := 6) (ret := none) (by decide) rfl ?_
  intro p e s m args below meth c s₁ Bk hml hv
  obtain ⟨rfl, ⟨hsz, hP, hK, hD0⟩, hE, hSR⟩ := hv
  have hx := Bk.exec
  have hb := Bk.bytes
  have hr := Bk.returns
  have hlocks := Bk.notSynchronized
  have hC : CallFix p m c cX12_could 6 s _ wsX12_could RX12 := ⟨hx, hb, hml, findClass_of_methodNamed Bk.named, atoms_spec (ws := wsX12_could) Bk.pre⟩
  subst hsz
  have hD := hD0.self (sz := s.heap.size)
  generalize hAe : va_A w0 s.heap.size = A at hD hE ⊢
  have hA : ∀ q : Nat, s.heap.size ≤ q → A q := fun q h => by rw [← hAe]; exact Or.inr h
  have hw : Wd dC dI A s.heap s.heap [] w0 := ⟨hP, hD, va_S.rf⟩
  have hF : FE ksM [(76, 0, 2600)] w0 w0 := FE.rf
  have hl := lv_entry ([.ref (ad 0), .int a1, .int a2, .int 0, .int a4]) (n := 6) (Nat.le_of_ble_eq_true rfl)
  rw [lg_entry_eq]
  generalize (lg_sl ([.ref (ad 0), .int a1, .int a2, .int 0, .int a4]) ++ List.replicate (6 - (lg_sl ([.ref (ad 0), .int a1, .int a2, .int 0, .int a4])).length) Slot.unset).toArray = ls at hl ⊢
  have hl : lv_has ls 6 [(0, .ref (ad 0)), (1, .int a1), (2, .int a2), (3, .int 0), (4, .int a4)] := hl
  generalize hloc : ([] : List Loc) = locs at hw ⊢
  have hinX12 : ∀ w ∈ u_ws RX12 TX12 42, w ∈ wsX12_could := fun _ h => List.mem_cons_of_mem _ (List.mem_append_right _ (h))
  have J30 : ∀ (v30_5 : Int32) (H : Heap) (locs : List Loc) (ls : Array Slot) (w1 : va_W), 0 ≤ a1.toInt → a1.toInt ≤ 120 → 0 ≤ a2.toInt → a2.toInt ≤ 9 → 0 ≤ v30_5.toInt → v30_5.toInt ≤ 2418 → Wd dC dI A s.heap H locs w1 → TW ksM ad cy B qr 12 w1 → FE ksM [(76, 0, 2600)] w0 w1 → lv_has ls 6 [(0, .ref (ad 0)), (1, .int a1), (2, .int a2), (3, .int 0), (4, .int a4), (5, .int v30_5)] → W p l e ({ frames := 2, cells := 0, slots := 0, locals := 35 }) s m (List.toArray [.ref (ad 0), .int a1, .int a2, .int 0, .int a4]) below meth c H locs 0 0 (MQ below (va_Qv (P_X12_could_1 ad cy B qr s1 a1 a2 a4 w0) (fun u : va_W => wpost dC dI cy A u) A) (List.toArray [.ref (ad 0), .int a1, .int a2, .int 0, .int a4]) s 0 0 A) (F0 m 30 ls []) := by
    intro v30_5 H locs ls w1 r2 t3 r4 t5 r6 t7 hw hT hF hl
    exact tk_vret hC hr hlocks hK ⟨hT, hF, trivial⟩ hw dX12_could_30
  refine lv_aload_n hx hb dX12_could_0 rfl (lv_at hl 0 rfl) ?_
  refine lv_iload_n hx hb dX12_could_1 rfl (lv_at hl 1 rfl) ?_
  refine lv_iload_n hx hb dX12_could_2 rfl (lv_at hl 2 rfl) ?_
  refine lv_iload_n hx hb dX12_could_3 rfl (lv_at hl 3 rfl) ?_
  refine tk_Vi hC hK hw hT hA hE hSR kM_at0 (by decide) rfl (k_X12_placeAt_1 l adK adV dC dI cy ad B (by omega) (by omega) qr s1   a1 (show 0 ≤ a1.toInt by omega) (show a1.toInt ≤ 120 by omega) a2 (show 0 ≤ a2.toInt by omega) (show a2.toInt ≤ 9 by omega) w0 s.heap.size hT ) (cwV 3 hC.2.2.2.2 gX12_could_X12_placeAt rfl rfl rfl (by decide +kernel) ⟨Nat.le_of_ble_eq_true rfl, Nat.le_of_ble_eq_true rfl⟩) rfl hl.1 rfl (Nat.le_of_ble_eq_true rfl) dX12_could_4 (fun r8 w10 H locs hp9 hw => ?_)
  obtain ⟨hT, k11, hg14⟩ := hp9
  have hF := hF.tr k11 (by decide)
  obtain ⟨g12, g13⟩ := hg14
  refine lv_istore (lv' := [(5, .int r8), (0, .ref (ad 0)), (1, .int a1), (2, .int a2), (3, .int 0), (4, .int a4)]) hx hb dX12_could_7 hl (by decide) rfl (fun ls hl => ?_)
  refine lv_iload hx hb dX12_could_9 (lv_at hl 5 rfl) ?_
  refine lv_aload_n hx hb dX12_could_11 rfl (lv_at hl 1 rfl) ?_
  refine tk_getA hC hK hw hT hinX12 kM_at0 (by decide) rfl 34 (by decide) (List.mem_of_getElem? (i := 1) rfl) rfl rfl dX12_could_12 ?_
  refine lv_iload hx hb dX12_could_15 (lv_at hl 0 rfl) ?_
  refine tk_iald hC hK hw hT kM_at17 rfl rfl (show 0 ≤ r8.toInt by omega) (show r8.toInt < 2600 by omega) dX12_could_17 (fun x15 c16 rx15 tx15 => ?_)
  refine lv_icmp_ge (tgt := 30) hx hb dX12_could_18 (by decide) (fun c17 => ?_) (fun c17 => ?_)
  · have c17 : x15.toInt ≤ a4.toInt := wk_le.mp c17
    exact J30 r8 H locs ls w10 (show 0 ≤ a1.toInt by omega) (show a1.toInt ≤ 120 by omega) (show 0 ≤ a2.toInt by omega) (show a2.toInt ≤ 9 by omega) (show 0 ≤ r8.toInt by omega) (show r8.toInt ≤ 2418 by omega)  hw hT hF  (lv_sub hl [1, 2, 3, 4, 5, 0] rfl)
  · have c17 : a4.toInt < x15.toInt := wk_leF c17
    refine lv_aload_n hx hb dX12_could_21 rfl (lv_at hl 1 rfl) ?_
    refine tk_getA hC hK hw hT hinX12 kM_at0 (by decide) rfl 34 (by decide) (List.mem_of_getElem? (i := 1) rfl) rfl rfl dX12_could_22 ?_
    refine lv_iload hx hb dX12_could_25 (lv_at hl 0 rfl) ?_
    refine lv_iload hx hb dX12_could_27 (lv_at hl 5 rfl) ?_
    refine tk_iast hC hK hw hT kM_at17 (by decide) rfl rfl (show 0 ≤ r8.toInt by omega) (show r8.toInt < 2600 by omega) (wk_i32 a4).1 (wk_i32 a4).2 dX12_could_29 (fun H locs w18 hw hT k20 c19 => ?_)
    have hF := hF.put kM_at17 (inE_of (a := 0) (b := 2600) (by decide) (show 0 ≤ r8.toInt.toNat by omega) (show r8.toInt.toNat ≤ 2600 by omega)) k20
    exact J30 r8 H locs ls w18 (show 0 ≤ a1.toInt by omega) (show a1.toInt ≤ 120 by omega) (show 0 ≤ a2.toInt by omega) (show a2.toInt ≤ 9 by omega) (show 0 ≤ r8.toInt by omega) (show r8.toInt ≤ 2418 by omega)  hw hT hF  (lv_sub hl [1, 2, 3, 4, 5, 0] rfl)
abbrev P_X12_walkerOf_4 (ad : Nat → Nat) (cy : Nat → ClassId) (B : Int) (qr : Nat) (s1 : Int) (a1 : Int32) (w0 : va_W) : Int32 → va_W → Prop := fun r u => TW ksM ad cy B qr 12 u ∧ FE ksM ([] : List (Nat × Nat × Nat)) w0 u ∧ ((0 ≤ r.toInt ∧ r.toInt ≤ 3 ∧ gi u 12 (9 * a1.toInt + 218).toNat = r))
set_option maxHeartbeats 4000000 in
set_option maxRecDepth 100000 in
theorem k_X12_walkerOf_4 (l : Launch) (adK adV : Nat → Nat) (dC : Nat → ClassId) (dI : Nat → Nat → Nat) (cy : Nat → ClassId) (ad : Nat → Nat) (B : Int) (hB0 : 100000 ≤ B) (hB1 : B ≤ 1073741824) (qr : Nat) (s1 : Int)  (a1 : Int32) (ra1 : 0 ≤ a1.toInt) (ta1 : a1.toInt ≤ 3) (w0 : va_W) (sz : Nat) (hT : TW ksM ad cy B qr 12 w0)  : Met l yX12_walkerOf wsX12_walkerOf ({ frames := 1, cells := 0, slots := 0, locals := 12 }) (va_Pc [.ref (ad 0), .int a1, .int 2] (wpreS adK adV dC dI cy sz w0)) (va_Qi (P_X12_walkerOf_4 ad cy B qr s1 a1 w0) (fun u : va_W => wpost dC dI cy (va_A w0 sz) u) (va_A w0 sz)) 0 0 (va_A w0 sz) := by
  refine Met.ofW (cc := cX12_walkerOf) (maxL := 3) (ret := (some .int)) (by decide) rfl ?_
  intro p e s m args below meth c s₁ Bk hml hv
  obtain ⟨rfl, ⟨hsz, hP, hK, hD0⟩, hE, hSR⟩ := hv
  have hx := Bk.exec
  have hb := Bk.bytes
  have hr := Bk.returns
  have hlocks := Bk.notSynchronized
  have hC : CallFix p m c cX12_walkerOf 3 s _ wsX12_walkerOf RX12 := ⟨hx, hb, hml, findClass_of_methodNamed Bk.named, atoms_spec (ws := wsX12_walkerOf) Bk.pre⟩
  subst hsz
  have hD := hD0.self (sz := s.heap.size)
  generalize hAe : va_A w0 s.heap.size = A at hD hE ⊢
  have hA : ∀ q : Nat, s.heap.size ≤ q → A q := fun q h => by rw [← hAe]; exact Or.inr h
  have hw : Wd dC dI A s.heap s.heap [] w0 := ⟨hP, hD, va_S.rf⟩
  have hF : FE ksM ([] : List (Nat × Nat × Nat)) w0 w0 := FE.rf
  have hl := lv_entry ([.ref (ad 0), .int a1, .int 2]) (n := 3) (Nat.le_of_ble_eq_true rfl)
  rw [lg_entry_eq]
  generalize (lg_sl ([.ref (ad 0), .int a1, .int 2]) ++ List.replicate (3 - (lg_sl ([.ref (ad 0), .int a1, .int 2])).length) Slot.unset).toArray = ls at hl ⊢
  have hl : lv_has ls 3 [(0, .ref (ad 0)), (1, .int a1), (2, .int 2)] := hl
  generalize hloc : ([] : List Loc) = locs at hw ⊢
  have hinX12 : ∀ w ∈ u_ws RX12 TX12 42, w ∈ wsX12_walkerOf := fun _ h => List.mem_cons_of_mem _ (List.mem_append_right _ (h))
  refine lv_aload_n hx hb dX12_walkerOf_0 rfl (lv_at hl 0 rfl) ?_
  refine tk_getA hC hK hw hT hinX12 kM_at0 (by decide) rfl 26 (by decide) (List.mem_of_getElem? (i := 1) rfl) rfl rfl dX12_walkerOf_1 ?_
  refine lv_sipush (v := 216) hx hb dX12_walkerOf_4 (by decide) ?_
  refine lv_bipush (v := 9) hx hb dX12_walkerOf_7 (by decide) ?_
  refine lv_iload_n hx hb dX12_walkerOf_9 rfl (lv_at hl 1 rfl) ?_
  refine lv_imul hx hb dX12_walkerOf_10 ?_
  refine lv_topi (fun x1 ex1 => ?_)
  have ex1 : x1.toInt = (9 : Int) * a1.toInt := by rw [ex1]; exact wk_mul (show (-2147483648) ≤ (9 : Int) * a1.toInt by omega) (show (9 : Int) * a1.toInt ≤ 2147483647 by omega)
  refine lv_iadd hx hb dX12_walkerOf_11 ?_
  refine lv_topi (fun x2 ex2 => ?_)
  have ex2 : x2.toInt = (216 : Int) + x1.toInt := by rw [ex2]; exact wk_add (show (-2147483648) ≤ (216 : Int) + x1.toInt by omega) (show (216 : Int) + x1.toInt ≤ 2147483647 by omega)
  refine lv_iload_n hx hb dX12_walkerOf_12 rfl (lv_at hl 2 rfl) ?_
  refine lv_iadd hx hb dX12_walkerOf_13 ?_
  refine lv_topi (fun x3 ex3 => ?_)
  have ex3 : x3.toInt = x2.toInt + (2 : Int) := by rw [ex3]; exact wk_add (show (-2147483648) ≤ x2.toInt + (2 : Int) by omega) (show x2.toInt + (2 : Int) ≤ 2147483647 by omega)
  refine tk_ialdR hC hK hw hT kM_at12 rfl (show 0 ≤ x3.toInt by omega) (show x3.toInt < 296 by omega) dX12_walkerOf_14 (fun x4 c5 Ex4 => ?_)
  have c5 : gi w0 12 (9 * a1.toInt + 218).toNat = x4 := (congrArg (gi w0 12) (congrArg Int.toNat (show 9 * a1.toInt + 218 = x3.toInt by omega))).trans c5
  have bx4 := tk_rgI rfl 218 9 4 0 3 (by decide +kernel) ⟨(a1.toInt - 0).toNat, by omega, show x3.toInt.toNat = 218 + 9 * (a1.toInt - 0).toNat by omega⟩ Ex4
  exact tk_iret hC hr hlocks hK ⟨hT, hF, ⟨(show 0 ≤ x4.toInt by omega), (show x4.toInt ≤ 3 by omega), c5⟩⟩ hw dX12_walkerOf_15
abbrev P_X12_placeAt_2 (ad : Nat → Nat) (cy : Nat → ClassId) (B : Int) (qr : Nat) (s1 : Int) (a1 : Int32) (a2 : Int32) (w0 : va_W) : Int32 → va_W → Prop := fun r u => TW ksM ad cy B qr 12 u ∧ FE ksM ([] : List (Nat × Nat × Nat)) w0 u ∧ ((20 ≤ r.toInt ∧ r.toInt ≤ 2438))
set_option maxHeartbeats 4000000 in
set_option maxRecDepth 100000 in
theorem k_X12_placeAt_2 (l : Launch) (adK adV : Nat → Nat) (dC : Nat → ClassId) (dI : Nat → Nat → Nat) (cy : Nat → ClassId) (ad : Nat → Nat) (B : Int) (hB0 : 100000 ≤ B) (hB1 : B ≤ 1073741824) (qr : Nat) (s1 : Int)  (a1 : Int32) (ra1 : 1 ≤ a1.toInt) (ta1 : a1.toInt ≤ 121) (a2 : Int32) (ra2 : 0 ≤ a2.toInt) (ta2 : a2.toInt ≤ 9) (w0 : va_W) (sz : Nat) (hT : TW ksM ad cy B qr 12 w0)  : Met l yX12_placeAt wsX12_placeAt ({ frames := 1, cells := 0, slots := 0, locals := 12 }) (va_Pc [.ref (ad 0), .int a1, .int a2, .int 0] (wpreS adK adV dC dI cy sz w0)) (va_Qi (P_X12_placeAt_2 ad cy B qr s1 a1 a2 w0) (fun u : va_W => wpost dC dI cy (va_A w0 sz) u) (va_A w0 sz)) 0 0 (va_A w0 sz) := by
  refine Met.ofW (cc := cX12_placeAt) (maxL := 4) (ret := (some .int)) (by decide) rfl ?_
  intro p e s m args below meth c s₁ Bk hml hv
  obtain ⟨rfl, ⟨hsz, hP, hK, hD0⟩, hE, hSR⟩ := hv
  have hx := Bk.exec
  have hb := Bk.bytes
  have hr := Bk.returns
  have hlocks := Bk.notSynchronized
  have hC : CallFix p m c cX12_placeAt 4 s _ wsX12_placeAt RX12 := ⟨hx, hb, hml, findClass_of_methodNamed Bk.named, atoms_spec (ws := wsX12_placeAt) Bk.pre⟩
  subst hsz
  have hD := hD0.self (sz := s.heap.size)
  generalize hAe : va_A w0 s.heap.size = A at hD hE ⊢
  have hA : ∀ q : Nat, s.heap.size ≤ q → A q := fun q h => by rw [← hAe]; exact Or.inr h
  have hw : Wd dC dI A s.heap s.heap [] w0 := ⟨hP, hD, va_S.rf⟩
  have hF : FE ksM ([] : List (Nat × Nat × Nat)) w0 w0 := FE.rf
  have hl := lv_entry ([.ref (ad 0), .int a1, .int a2, .int 0]) (n := 4) (Nat.le_of_ble_eq_true rfl)
  rw [lg_entry_eq]
  generalize (lg_sl ([.ref (ad 0), .int a1, .int a2, .int 0]) ++ List.replicate (4 - (lg_sl ([.ref (ad 0), .int a1, .int a2, .int 0])).length) Slot.unset).toArray = ls at hl ⊢
  have hl : lv_has ls 4 [(0, .ref (ad 0)), (1, .int a1), (2, .int a2), (3, .int 0)] := hl
  generalize hloc : ([] : List Loc) = locs at hw ⊢
  refine lv_iload_n hx hb dX12_placeAt_0 rfl (lv_at hl 1 rfl) ?_
  refine lv_bipush (v := 10) hx hb dX12_placeAt_1 (by decide) ?_
  refine lv_imul hx hb dX12_placeAt_3 ?_
  refine lv_topi (fun x1 ex1 => ?_)
  have ex1 : x1.toInt = a1.toInt * (10 : Int) := by rw [ex1]; exact wk_mul (show (-2147483648) ≤ a1.toInt * (10 : Int) by omega) (show a1.toInt * (10 : Int) ≤ 2147483647 by omega)
  refine lv_iload_n hx hb dX12_placeAt_4 rfl (lv_at hl 2 rfl) ?_
  refine lv_iadd hx hb dX12_placeAt_5 ?_
  refine lv_topi (fun x2 ex2 => ?_)
  have ex2 : x2.toInt = x1.toInt + a2.toInt := by rw [ex2]; exact wk_add (show (-2147483648) ≤ x1.toInt + a2.toInt by omega) (show x1.toInt + a2.toInt ≤ 2147483647 by omega)
  refine lv_iconst (v := 2) hx hb dX12_placeAt_6 (by decide) ?_
  refine lv_imul hx hb dX12_placeAt_7 ?_
  refine lv_topi (fun x3 ex3 => ?_)
  have ex3 : x3.toInt = x2.toInt * (2 : Int) := by rw [ex3]; exact wk_mul (show (-2147483648) ≤ x2.toInt * (2 : Int) by omega) (show x2.toInt * (2 : Int) ≤ 2147483647 by omega)
  refine lv_iload_n hx hb dX12_placeAt_8 rfl (lv_at hl 3 rfl) ?_
  refine lv_if_eq (tgt := 16) hx hb dX12_placeAt_9 (by decide) (fun _ => ?_) (fun c => absurd (by decide) c)
  refine lv_iconst (v := 0) hx hb dX12_placeAt_16 (by decide) ?_
  refine lv_iadd hx hb dX12_placeAt_17 ?_
  refine lv_topi (fun x4 ex4 => ?_)
  have ex4 : x4.toInt = x3.toInt + (0 : Int) := by rw [ex4]; exact wk_add (show (-2147483648) ≤ x3.toInt + (0 : Int) by omega) (show x3.toInt + (0 : Int) ≤ 2147483647 by omega)
  exact tk_iret hC hr hlocks hK ⟨hT, hF, ⟨(show 20 ≤ x4.toInt by omega), (show x4.toInt ≤ 2438 by omega)⟩⟩ hw dX12_placeAt_18
abbrev P_X12_could_2 (ad : Nat → Nat) (cy : Nat → ClassId) (B : Int) (qr : Nat) (s1 : Int) (a1 : Int32) (a2 : Int32) (a4 : Int32) (w0 : va_W) : va_W → Prop := fun u => TW ksM ad cy B qr 12 u ∧ FE ksM [(76, 0, 2600)] w0 u ∧ ((True))
set_option maxHeartbeats 4000000 in
set_option maxRecDepth 100000 in
theorem k_X12_could_2 (l : Launch) (adK adV : Nat → Nat) (dC : Nat → ClassId) (dI : Nat → Nat → Nat) (cy : Nat → ClassId) (ad : Nat → Nat) (B : Int) (hB0 : 100000 ≤ B) (hB1 : B ≤ 1073741824) (qr : Nat) (s1 : Int)  (a1 : Int32) (ra1 : 1 ≤ a1.toInt) (ta1 : a1.toInt ≤ 121) (a2 : Int32) (ra2 : 0 ≤ a2.toInt) (ta2 : a2.toInt ≤ 9) (a4 : Int32) (w0 : va_W) (sz : Nat) (hT : TW ksM ad cy B qr 12 w0)  : Met l yX12_could wsX12_could ({ frames := 2, cells := 0, slots := 0, locals := 35 }) (va_Pc [.ref (ad 0), .int a1, .int a2, .int 0, .int a4] (wpreS adK adV dC dI cy sz w0)) (va_Qv (P_X12_could_2 ad cy B qr s1 a1 a2 a4 w0) (fun u : va_W => wpost dC dI cy (va_A w0 sz) u) (va_A w0 sz)) 0 0 (va_A w0 sz) := by
  refine Met.ofW (cc := cX12_could) (maxL := 6) (ret := none) (by decide) rfl ?_
  intro p e s m args below meth c s₁ Bk hml hv
  obtain ⟨rfl, ⟨hsz, hP, hK, hD0⟩, hE, hSR⟩ := hv
  have hx := Bk.exec
  have hb := Bk.bytes
  have hr := Bk.returns
  have hlocks := Bk.notSynchronized
  have hC : CallFix p m c cX12_could 6 s _ wsX12_could RX12 := ⟨hx, hb, hml, findClass_of_methodNamed Bk.named, atoms_spec (ws := wsX12_could) Bk.pre⟩
  subst hsz
  have hD := hD0.self (sz := s.heap.size)
  generalize hAe : va_A w0 s.heap.size = A at hD hE ⊢
  have hA : ∀ q : Nat, s.heap.size ≤ q → A q := fun q h => by rw [← hAe]; exact Or.inr h
  have hw : Wd dC dI A s.heap s.heap [] w0 := ⟨hP, hD, va_S.rf⟩
  have hF : FE ksM [(76, 0, 2600)] w0 w0 := FE.rf
  have hl := lv_entry ([.ref (ad 0), .int a1, .int a2, .int 0, .int a4]) (n := 6) (Nat.le_of_ble_eq_true rfl)
  rw [lg_entry_eq]
  generalize (lg_sl ([.ref (ad 0), .int a1, .int a2, .int 0, .int a4]) ++ List.replicate (6 - (lg_sl ([.ref (ad 0), .int a1, .int a2, .int 0, .int a4])).length) Slot.unset).toArray = ls at hl ⊢
  have hl : lv_has ls 6 [(0, .ref (ad 0)), (1, .int a1), (2, .int a2), (3, .int 0), (4, .int a4)] := hl
  generalize hloc : ([] : List Loc) = locs at hw ⊢
  have hinX12 : ∀ w ∈ u_ws RX12 TX12 42, w ∈ wsX12_could := fun _ h => List.mem_cons_of_mem _ (List.mem_append_right _ (h))
  have J30 : ∀ (v30_5 : Int32) (H : Heap) (locs : List Loc) (ls : Array Slot) (w1 : va_W), 1 ≤ a1.toInt → a1.toInt ≤ 121 → 0 ≤ a2.toInt → a2.toInt ≤ 9 → 20 ≤ v30_5.toInt → v30_5.toInt ≤ 2438 → Wd dC dI A s.heap H locs w1 → TW ksM ad cy B qr 12 w1 → FE ksM [(76, 0, 2600)] w0 w1 → lv_has ls 6 [(0, .ref (ad 0)), (1, .int a1), (2, .int a2), (3, .int 0), (4, .int a4), (5, .int v30_5)] → W p l e ({ frames := 2, cells := 0, slots := 0, locals := 35 }) s m (List.toArray [.ref (ad 0), .int a1, .int a2, .int 0, .int a4]) below meth c H locs 0 0 (MQ below (va_Qv (P_X12_could_2 ad cy B qr s1 a1 a2 a4 w0) (fun u : va_W => wpost dC dI cy A u) A) (List.toArray [.ref (ad 0), .int a1, .int a2, .int 0, .int a4]) s 0 0 A) (F0 m 30 ls []) := by
    intro v30_5 H locs ls w1 r2 t3 r4 t5 r6 t7 hw hT hF hl
    exact tk_vret hC hr hlocks hK ⟨hT, hF, trivial⟩ hw dX12_could_30
  refine lv_aload_n hx hb dX12_could_0 rfl (lv_at hl 0 rfl) ?_
  refine lv_iload_n hx hb dX12_could_1 rfl (lv_at hl 1 rfl) ?_
  refine lv_iload_n hx hb dX12_could_2 rfl (lv_at hl 2 rfl) ?_
  refine lv_iload_n hx hb dX12_could_3 rfl (lv_at hl 3 rfl) ?_
  refine tk_Vi hC hK hw hT hA hE hSR kM_at0 (by decide) rfl (k_X12_placeAt_2 l adK adV dC dI cy ad B (by omega) (by omega) qr s1   a1 (show 1 ≤ a1.toInt by omega) (show a1.toInt ≤ 121 by omega) a2 (show 0 ≤ a2.toInt by omega) (show a2.toInt ≤ 9 by omega) w0 s.heap.size hT ) (cwV 3 hC.2.2.2.2 gX12_could_X12_placeAt rfl rfl rfl (by decide +kernel) ⟨Nat.le_of_ble_eq_true rfl, Nat.le_of_ble_eq_true rfl⟩) rfl hl.1 rfl (Nat.le_of_ble_eq_true rfl) dX12_could_4 (fun r8 w10 H locs hp9 hw => ?_)
  obtain ⟨hT, k11, hg14⟩ := hp9
  have hF := hF.tr k11 (by decide)
  obtain ⟨g12, g13⟩ := hg14
  refine lv_istore (lv' := [(5, .int r8), (0, .ref (ad 0)), (1, .int a1), (2, .int a2), (3, .int 0), (4, .int a4)]) hx hb dX12_could_7 hl (by decide) rfl (fun ls hl => ?_)
  refine lv_iload hx hb dX12_could_9 (lv_at hl 5 rfl) ?_
  refine lv_aload_n hx hb dX12_could_11 rfl (lv_at hl 1 rfl) ?_
  refine tk_getA hC hK hw hT hinX12 kM_at0 (by decide) rfl 34 (by decide) (List.mem_of_getElem? (i := 1) rfl) rfl rfl dX12_could_12 ?_
  refine lv_iload hx hb dX12_could_15 (lv_at hl 0 rfl) ?_
  refine tk_iald hC hK hw hT kM_at17 rfl rfl (show 0 ≤ r8.toInt by omega) (show r8.toInt < 2600 by omega) dX12_could_17 (fun x15 c16 rx15 tx15 => ?_)
  refine lv_icmp_ge (tgt := 30) hx hb dX12_could_18 (by decide) (fun c17 => ?_) (fun c17 => ?_)
  · have c17 : x15.toInt ≤ a4.toInt := wk_le.mp c17
    exact J30 r8 H locs ls w10 (show 1 ≤ a1.toInt by omega) (show a1.toInt ≤ 121 by omega) (show 0 ≤ a2.toInt by omega) (show a2.toInt ≤ 9 by omega) (show 20 ≤ r8.toInt by omega) (show r8.toInt ≤ 2438 by omega)  hw hT hF  (lv_sub hl [1, 2, 3, 4, 5, 0] rfl)
  · have c17 : a4.toInt < x15.toInt := wk_leF c17
    refine lv_aload_n hx hb dX12_could_21 rfl (lv_at hl 1 rfl) ?_
    refine tk_getA hC hK hw hT hinX12 kM_at0 (by decide) rfl 34 (by decide) (List.mem_of_getElem? (i := 1) rfl) rfl rfl dX12_could_22 ?_
    refine lv_iload hx hb dX12_could_25 (lv_at hl 0 rfl) ?_
    refine lv_iload hx hb dX12_could_27 (lv_at hl 5 rfl) ?_
    refine tk_iast hC hK hw hT kM_at17 (by decide) rfl rfl (show 0 ≤ r8.toInt by omega) (show r8.toInt < 2600 by omega) (wk_i32 a4).1 (wk_i32 a4).2 dX12_could_29 (fun H locs w18 hw hT k20 c19 => ?_)
    have hF := hF.put kM_at17 (inE_of (a := 0) (b := 2600) (by decide) (show 0 ≤ r8.toInt.toNat by omega) (show r8.toInt.toNat ≤ 2600 by omega)) k20
    exact J30 r8 H locs ls w18 (show 1 ≤ a1.toInt by omega) (show a1.toInt ≤ 121 by omega) (show 0 ≤ a2.toInt by omega) (show a2.toInt ≤ 9 by omega) (show 20 ≤ r8.toInt by omega) (show r8.toInt ≤ 2438 by omega)  hw hT hF  (lv_sub hl [1, 2, 3, 4, 5, 0] rfl)
abbrev P_X12_placeAt_3 (ad : Nat → Nat) (cy : Nat → ClassId) (B : Int) (qr : Nat) (s1 : Int) (a1 : Int32) (a2 : Int32) (w0 : va_W) : Int32 → va_W → Prop := fun r u => TW ksM ad cy B qr 12 u ∧ FE ksM ([] : List (Nat × Nat × Nat)) w0 u ∧ ((21 ≤ r.toInt ∧ r.toInt ≤ 2439))
set_option maxHeartbeats 4000000 in
set_option maxRecDepth 100000 in
theorem k_X12_placeAt_3 (l : Launch) (adK adV : Nat → Nat) (dC : Nat → ClassId) (dI : Nat → Nat → Nat) (cy : Nat → ClassId) (ad : Nat → Nat) (B : Int) (hB0 : 100000 ≤ B) (hB1 : B ≤ 1073741824) (qr : Nat) (s1 : Int)  (a1 : Int32) (ra1 : 1 ≤ a1.toInt) (ta1 : a1.toInt ≤ 121) (a2 : Int32) (ra2 : 0 ≤ a2.toInt) (ta2 : a2.toInt ≤ 9) (w0 : va_W) (sz : Nat) (hT : TW ksM ad cy B qr 12 w0)  : Met l yX12_placeAt wsX12_placeAt ({ frames := 1, cells := 0, slots := 0, locals := 12 }) (va_Pc [.ref (ad 0), .int a1, .int a2, .int 1] (wpreS adK adV dC dI cy sz w0)) (va_Qi (P_X12_placeAt_3 ad cy B qr s1 a1 a2 w0) (fun u : va_W => wpost dC dI cy (va_A w0 sz) u) (va_A w0 sz)) 0 0 (va_A w0 sz) := by
  refine Met.ofW (cc := cX12_placeAt) (maxL := 4) (ret := (some .int)) (by decide) rfl ?_
  intro p e s m args below meth c s₁ Bk hml hv
  obtain ⟨rfl, ⟨hsz, hP, hK, hD0⟩, hE, hSR⟩ := hv
  have hx := Bk.exec
  have hb := Bk.bytes
  have hr := Bk.returns
  have hlocks := Bk.notSynchronized
  have hC : CallFix p m c cX12_placeAt 4 s _ wsX12_placeAt RX12 := ⟨hx, hb, hml, findClass_of_methodNamed Bk.named, atoms_spec (ws := wsX12_placeAt) Bk.pre⟩
  subst hsz
  have hD := hD0.self (sz := s.heap.size)
  generalize hAe : va_A w0 s.heap.size = A at hD hE ⊢
  have hA : ∀ q : Nat, s.heap.size ≤ q → A q := fun q h => by rw [← hAe]; exact Or.inr h
  have hw : Wd dC dI A s.heap s.heap [] w0 := ⟨hP, hD, va_S.rf⟩
  have hF : FE ksM ([] : List (Nat × Nat × Nat)) w0 w0 := FE.rf
  have hl := lv_entry ([.ref (ad 0), .int a1, .int a2, .int 1]) (n := 4) (Nat.le_of_ble_eq_true rfl)
  rw [lg_entry_eq]
  generalize (lg_sl ([.ref (ad 0), .int a1, .int a2, .int 1]) ++ List.replicate (4 - (lg_sl ([.ref (ad 0), .int a1, .int a2, .int 1])).length) Slot.unset).toArray = ls at hl ⊢
  have hl : lv_has ls 4 [(0, .ref (ad 0)), (1, .int a1), (2, .int a2), (3, .int 1)] := hl
  generalize hloc : ([] : List Loc) = locs at hw ⊢
  refine lv_iload_n hx hb dX12_placeAt_0 rfl (lv_at hl 1 rfl) ?_
  refine lv_bipush (v := 10) hx hb dX12_placeAt_1 (by decide) ?_
  refine lv_imul hx hb dX12_placeAt_3 ?_
  refine lv_topi (fun x1 ex1 => ?_)
  have ex1 : x1.toInt = a1.toInt * (10 : Int) := by rw [ex1]; exact wk_mul (show (-2147483648) ≤ a1.toInt * (10 : Int) by omega) (show a1.toInt * (10 : Int) ≤ 2147483647 by omega)
  refine lv_iload_n hx hb dX12_placeAt_4 rfl (lv_at hl 2 rfl) ?_
  refine lv_iadd hx hb dX12_placeAt_5 ?_
  refine lv_topi (fun x2 ex2 => ?_)
  have ex2 : x2.toInt = x1.toInt + a2.toInt := by rw [ex2]; exact wk_add (show (-2147483648) ≤ x1.toInt + a2.toInt by omega) (show x1.toInt + a2.toInt ≤ 2147483647 by omega)
  refine lv_iconst (v := 2) hx hb dX12_placeAt_6 (by decide) ?_
  refine lv_imul hx hb dX12_placeAt_7 ?_
  refine lv_topi (fun x3 ex3 => ?_)
  have ex3 : x3.toInt = x2.toInt * (2 : Int) := by rw [ex3]; exact wk_mul (show (-2147483648) ≤ x2.toInt * (2 : Int) by omega) (show x2.toInt * (2 : Int) ≤ 2147483647 by omega)
  refine lv_iload_n hx hb dX12_placeAt_8 rfl (lv_at hl 3 rfl) ?_
  refine lv_if_eq (tgt := 16) hx hb dX12_placeAt_9 (by decide) (fun c => absurd c (by decide)) (fun _ => ?_)
  refine lv_iconst (v := 1) hx hb dX12_placeAt_12 (by decide) ?_
  refine lv_goto (tgt := 17) hx hb dX12_placeAt_13 (by decide) ?_
  refine lv_iadd hx hb dX12_placeAt_17 ?_
  refine lv_topi (fun x4 ex4 => ?_)
  have ex4 : x4.toInt = x3.toInt + (1 : Int) := by rw [ex4]; exact wk_add (show (-2147483648) ≤ x3.toInt + (1 : Int) by omega) (show x3.toInt + (1 : Int) ≤ 2147483647 by omega)
  exact tk_iret hC hr hlocks hK ⟨hT, hF, ⟨(show 21 ≤ x4.toInt by omega), (show x4.toInt ≤ 2439 by omega)⟩⟩ hw dX12_placeAt_18
abbrev P_X12_could_3 (ad : Nat → Nat) (cy : Nat → ClassId) (B : Int) (qr : Nat) (s1 : Int) (a1 : Int32) (a2 : Int32) (a4 : Int32) (w0 : va_W) : va_W → Prop := fun u => TW ksM ad cy B qr 12 u ∧ FE ksM [(76, 0, 2600)] w0 u ∧ ((True))
set_option maxHeartbeats 4000000 in
set_option maxRecDepth 100000 in
theorem k_X12_could_3 (l : Launch) (adK adV : Nat → Nat) (dC : Nat → ClassId) (dI : Nat → Nat → Nat) (cy : Nat → ClassId) (ad : Nat → Nat) (B : Int) (hB0 : 100000 ≤ B) (hB1 : B ≤ 1073741824) (qr : Nat) (s1 : Int)  (a1 : Int32) (ra1 : 1 ≤ a1.toInt) (ta1 : a1.toInt ≤ 121) (a2 : Int32) (ra2 : 0 ≤ a2.toInt) (ta2 : a2.toInt ≤ 9) (a4 : Int32) (w0 : va_W) (sz : Nat) (hT : TW ksM ad cy B qr 12 w0)  : Met l yX12_could wsX12_could ({ frames := 2, cells := 0, slots := 0, locals := 35 }) (va_Pc [.ref (ad 0), .int a1, .int a2, .int 1, .int a4] (wpreS adK adV dC dI cy sz w0)) (va_Qv (P_X12_could_3 ad cy B qr s1 a1 a2 a4 w0) (fun u : va_W => wpost dC dI cy (va_A w0 sz) u) (va_A w0 sz)) 0 0 (va_A w0 sz) := by
  refine Met.ofW (cc := cX12_could) (maxL := 6) (ret := none) (by decide) rfl ?_
  intro p e s m args below meth c s₁ Bk hml hv
  obtain ⟨rfl, ⟨hsz, hP, hK, hD0⟩, hE, hSR⟩ := hv
  have hx := Bk.exec
  have hb := Bk.bytes
  have hr := Bk.returns
  have hlocks := Bk.notSynchronized
  have hC : CallFix p m c cX12_could 6 s _ wsX12_could RX12 := ⟨hx, hb, hml, findClass_of_methodNamed Bk.named, atoms_spec (ws := wsX12_could) Bk.pre⟩
  subst hsz
  have hD := hD0.self (sz := s.heap.size)
  generalize hAe : va_A w0 s.heap.size = A at hD hE ⊢
  have hA : ∀ q : Nat, s.heap.size ≤ q → A q := fun q h => by rw [← hAe]; exact Or.inr h
  have hw : Wd dC dI A s.heap s.heap [] w0 := ⟨hP, hD, va_S.rf⟩
  have hF : FE ksM [(76, 0, 2600)] w0 w0 := FE.rf
  have hl := lv_entry ([.ref (ad 0), .int a1, .int a2, .int 1, .int a4]) (n := 6) (Nat.le_of_ble_eq_true rfl)
  rw [lg_entry_eq]
  generalize (lg_sl ([.ref (ad 0), .int a1, .int a2, .int 1, .int a4]) ++ List.replicate (6 - (lg_sl ([.ref (ad 0), .int a1, .int a2, .int 1, .int a4])).length) Slot.unset).toArray = ls at hl ⊢
  have hl : lv_has ls 6 [(0, .ref (ad 0)), (1, .int a1), (2, .int a2), (3, .int 1), (4, .int a4)] := hl
  generalize hloc : ([] : List Loc) = locs at hw ⊢
  have hinX12 : ∀ w ∈ u_ws RX12 TX12 42, w ∈ wsX12_could := fun _ h => List.mem_cons_of_mem _ (List.mem_append_right _ (h))
  have J30 : ∀ (v30_5 : Int32) (H : Heap) (locs : List Loc) (ls : Array Slot) (w1 : va_W), 1 ≤ a1.toInt → a1.toInt ≤ 121 → 0 ≤ a2.toInt → a2.toInt ≤ 9 → 21 ≤ v30_5.toInt → v30_5.toInt ≤ 2439 → Wd dC dI A s.heap H locs w1 → TW ksM ad cy B qr 12 w1 → FE ksM [(76, 0, 2600)] w0 w1 → lv_has ls 6 [(0, .ref (ad 0)), (1, .int a1), (2, .int a2), (3, .int 1), (4, .int a4), (5, .int v30_5)] → W p l e ({ frames := 2, cells := 0, slots := 0, locals := 35 }) s m (List.toArray [.ref (ad 0), .int a1, .int a2, .int 1, .int a4]) below meth c H locs 0 0 (MQ below (va_Qv (P_X12_could_3 ad cy B qr s1 a1 a2 a4 w0) (fun u : va_W => wpost dC dI cy A u) A) (List.toArray [.ref (ad 0), .int a1, .int a2, .int 1, .int a4]) s 0 0 A) (F0 m 30 ls []) := by
    intro v30_5 H locs ls w1 r2 t3 r4 t5 r6 t7 hw hT hF hl
    exact tk_vret hC hr hlocks hK ⟨hT, hF, trivial⟩ hw dX12_could_30
  refine lv_aload_n hx hb dX12_could_0 rfl (lv_at hl 0 rfl) ?_
  refine lv_iload_n hx hb dX12_could_1 rfl (lv_at hl 1 rfl) ?_
  refine lv_iload_n hx hb dX12_could_2 rfl (lv_at hl 2 rfl) ?_
  refine lv_iload_n hx hb dX12_could_3 rfl (lv_at hl 3 rfl) ?_
  refine tk_Vi hC hK hw hT hA hE hSR kM_at0 (by decide) rfl (k_X12_placeAt_3 l adK adV dC dI cy ad B (by omega) (by omega) qr s1   a1 (show 1 ≤ a1.toInt by omega) (show a1.toInt ≤ 121 by omega) a2 (show 0 ≤ a2.toInt by omega) (show a2.toInt ≤ 9 by omega) w0 s.heap.size hT ) (cwV 3 hC.2.2.2.2 gX12_could_X12_placeAt rfl rfl rfl (by decide +kernel) ⟨Nat.le_of_ble_eq_true rfl, Nat.le_of_ble_eq_true rfl⟩) rfl hl.1 rfl (Nat.le_of_ble_eq_true rfl) dX12_could_4 (fun r8 w10 H locs hp9 hw => ?_)
  obtain ⟨hT, k11, hg14⟩ := hp9
  have hF := hF.tr k11 (by decide)
  obtain ⟨g12, g13⟩ := hg14
  refine lv_istore (lv' := [(5, .int r8), (0, .ref (ad 0)), (1, .int a1), (2, .int a2), (3, .int 1), (4, .int a4)]) hx hb dX12_could_7 hl (by decide) rfl (fun ls hl => ?_)
  refine lv_iload hx hb dX12_could_9 (lv_at hl 5 rfl) ?_
  refine lv_aload_n hx hb dX12_could_11 rfl (lv_at hl 1 rfl) ?_
  refine tk_getA hC hK hw hT hinX12 kM_at0 (by decide) rfl 34 (by decide) (List.mem_of_getElem? (i := 1) rfl) rfl rfl dX12_could_12 ?_
  refine lv_iload hx hb dX12_could_15 (lv_at hl 0 rfl) ?_
  refine tk_iald hC hK hw hT kM_at17 rfl rfl (show 0 ≤ r8.toInt by omega) (show r8.toInt < 2600 by omega) dX12_could_17 (fun x15 c16 rx15 tx15 => ?_)
  refine lv_icmp_ge (tgt := 30) hx hb dX12_could_18 (by decide) (fun c17 => ?_) (fun c17 => ?_)
  · have c17 : x15.toInt ≤ a4.toInt := wk_le.mp c17
    exact J30 r8 H locs ls w10 (show 1 ≤ a1.toInt by omega) (show a1.toInt ≤ 121 by omega) (show 0 ≤ a2.toInt by omega) (show a2.toInt ≤ 9 by omega) (show 21 ≤ r8.toInt by omega) (show r8.toInt ≤ 2439 by omega)  hw hT hF  (lv_sub hl [1, 2, 3, 4, 5, 0] rfl)
  · have c17 : a4.toInt < x15.toInt := wk_leF c17
    refine lv_aload_n hx hb dX12_could_21 rfl (lv_at hl 1 rfl) ?_
    refine tk_getA hC hK hw hT hinX12 kM_at0 (by decide) rfl 34 (by decide) (List.mem_of_getElem? (i := 1) rfl) rfl rfl dX12_could_22 ?_
    refine lv_iload hx hb dX12_could_25 (lv_at hl 0 rfl) ?_
    refine lv_iload hx hb dX12_could_27 (lv_at hl 5 rfl) ?_
    refine tk_iast hC hK hw hT kM_at17 (by decide) rfl rfl (show 0 ≤ r8.toInt by omega) (show r8.toInt < 2600 by omega) (wk_i32 a4).1 (wk_i32 a4).2 dX12_could_29 (fun H locs w18 hw hT k20 c19 => ?_)
    have hF := hF.put kM_at17 (inE_of (a := 0) (b := 2600) (by decide) (show 0 ≤ r8.toInt.toNat by omega) (show r8.toInt.toNat ≤ 2600 by omega)) k20
    exact J30 r8 H locs ls w18 (show 1 ≤ a1.toInt by omega) (show a1.toInt ≤ 121 by omega) (show 0 ≤ a2.toInt by omega) (show a2.toInt ≤ 9 by omega) (show 21 ≤ r8.toInt by omega) (show r8.toInt ≤ 2439 by omega)  hw hT hF  (lv_sub hl [1, 2, 3, 4, 5, 0] rfl)
abbrev P_X12_leads_1 (ad : Nat → Nat) (cy : Nat → ClassId) (B : Int) (qr : Nat) (s1 : Int) (a1 : Int32) (a2 : Int32) (a3 : Int32) (a4 : Int32) (a6 : Int32) (w0 : va_W) : va_W → Prop := fun u => TW ksM ad cy B qr 12 u ∧ FE ksM [(72, 0, 12), (73, 0, 10), (76, 0, 2600)] w0 u ∧ ((True))
set_option maxHeartbeats 4000000 in
set_option maxRecDepth 100000 in
theorem k_X12_leads_1 (l : Launch) (adK adV : Nat → Nat) (dC : Nat → ClassId) (dI : Nat → Nat → Nat) (cy : Nat → ClassId) (ad : Nat → Nat) (B : Int) (hB0 : 100000 ≤ B) (hB1 : B ≤ 1073741824) (qr : Nat) (s1 : Int)  (a1 : Int32) (ra1 : 0 ≤ a1.toInt) (ta1 : a1.toInt ≤ 3) (a2 : Int32) (ra2 : 0 ≤ a2.toInt) (ta2 : a2.toInt ≤ 1073741824) (a3 : Int32) (ra3 : 0 ≤ a3.toInt) (ta3 : a3.toInt ≤ 120) (a4 : Int32) (ra4 : 0 ≤ a4.toInt) (ta4 : a4.toInt ≤ 9) (a6 : Int32) (ra6 : 0 ≤ a6.toInt) (ta6 : a6.toInt ≤ 120) (w0 : va_W) (sz : Nat) (hT : TW ksM ad cy B qr 12 w0)  : Met l yX12_leads wsX12_leads ({ frames := 5, cells := 0, slots := 0, locals := 103 }) (va_Pc [.ref (ad 0), .int a1, .int a2, .int a3, .int a4, .int 0, .int a6] (wpreS adK adV dC dI cy sz w0)) (va_Qv (P_X12_leads_1 ad cy B qr s1 a1 a2 a3 a4 a6 w0) (fun u : va_W => wpost dC dI cy (va_A w0 sz) u) (va_A w0 sz)) 0 0 (va_A w0 sz) := by
  refine Met.ofW (cc := cX12_leads) (maxL := 12) (ret := none) (by decide) rfl ?_
  intro p e s m args below meth c s₁ Bk hml hv
  obtain ⟨rfl, ⟨hsz, hP, hK, hD0⟩, hE, hSR⟩ := hv
  have hx := Bk.exec
  have hb := Bk.bytes
  have hr := Bk.returns
  have hlocks := Bk.notSynchronized
  have hC : CallFix p m c cX12_leads 12 s _ wsX12_leads RX12 := ⟨hx, hb, hml, findClass_of_methodNamed Bk.named, atoms_spec (ws := wsX12_leads) Bk.pre⟩
  subst hsz
  have hD := hD0.self (sz := s.heap.size)
  generalize hAe : va_A w0 s.heap.size = A at hD hE ⊢
  have hA : ∀ q : Nat, s.heap.size ≤ q → A q := fun q h => by rw [← hAe]; exact Or.inr h
  have hw : Wd dC dI A s.heap s.heap [] w0 := ⟨hP, hD, va_S.rf⟩
  have hF : FE ksM [(72, 0, 12), (73, 0, 10), (76, 0, 2600)] w0 w0 := FE.rf
  have hl := lv_entry ([.ref (ad 0), .int a1, .int a2, .int a3, .int a4, .int 0, .int a6]) (n := 12) (Nat.le_of_ble_eq_true rfl)
  rw [lg_entry_eq]
  generalize (lg_sl ([.ref (ad 0), .int a1, .int a2, .int a3, .int a4, .int 0, .int a6]) ++ List.replicate (12 - (lg_sl ([.ref (ad 0), .int a1, .int a2, .int a3, .int a4, .int 0, .int a6])).length) Slot.unset).toArray = ls at hl ⊢
  have hl : lv_has ls 12 [(0, .ref (ad 0)), (1, .int a1), (2, .int a2), (3, .int a3), (4, .int a4), (5, .int 0), (6, .int a6)] := hl
  generalize hloc : ([] : List Loc) = locs at hw ⊢
  have hinX12 : ∀ w ∈ u_ws RX12 TX12 42, w ∈ wsX12_leads := fun _ h => List.mem_cons_of_mem _ (List.mem_append_right _ (h))
  have J41 : ∀ (v41_7 : Int32) (H : Heap) (locs : List Loc) (ls : Array Slot) (w1 : va_W), 0 ≤ a1.toInt → a1.toInt ≤ 3 → 0 ≤ a2.toInt → a2.toInt ≤ 1073741824 → 0 ≤ a3.toInt → a3.toInt ≤ 120 → 0 ≤ a4.toInt → a4.toInt ≤ 9 → 0 ≤ a6.toInt → a6.toInt ≤ 120 → Wd dC dI A s.heap H locs w1 → TW ksM ad cy B qr 12 w1 → FE ksM [(72, 0, 12), (73, 0, 10), (76, 0, 2600)] w0 w1 → lv_has ls 12 [(0, .ref (ad 0)), (1, .int a1), (2, .int a2), (3, .int a3), (4, .int a4), (5, .int 0), (6, .int a6), (7, .int v41_7)] → W p l e ({ frames := 5, cells := 0, slots := 0, locals := 103 }) s m (List.toArray [.ref (ad 0), .int a1, .int a2, .int a3, .int a4, .int 0, .int a6]) below meth c H locs 0 0 (MQ below (va_Qv (P_X12_leads_1 ad cy B qr s1 a1 a2 a3 a4 a6 w0) (fun u : va_W => wpost dC dI cy A u) A) (List.toArray [.ref (ad 0), .int a1, .int a2, .int a3, .int a4, .int 0, .int a6]) s 0 0 A) (F0 m 41 ls []) := by
    intro v41_7 H locs ls w1 r2 t3 r4 t5 r6 t7 r8 t9 r10 t11 hw hT hF hl
    exact tk_vret hC hr hlocks hK ⟨hT, hF, trivial⟩ hw dX12_leads_41
  have J181 : ∀ (v181_7 : Int32) (v181_8 : Int32) (v181_9 : Int32) (v181_10 : Int32) (f181_12__9_a1_toInt_217_toNat : Int32) (f181_12__9_a1_toInt_218_toNat : Int32) (H : Heap) (locs : List Loc) (ls : Array Slot) (w12 : va_W), 0 ≤ a1.toInt → a1.toInt ≤ 3 → 0 ≤ a2.toInt → a2.toInt ≤ 1073741824 → 0 ≤ a3.toInt → a3.toInt ≤ 120 → 0 ≤ a4.toInt → a4.toInt ≤ 9 → 0 ≤ a6.toInt → a6.toInt ≤ 120 → 0 ≤ v181_8.toInt → v181_8.toInt ≤ 1073741944 → 0 ≤ v181_9.toInt → v181_9.toInt ≤ 1 → (-1) ≤ v181_10.toInt → v181_10.toInt ≤ 11 → 0 ≤ f181_12__9_a1_toInt_217_toNat.toInt → f181_12__9_a1_toInt_217_toNat.toInt ≤ 9 → 0 ≤ f181_12__9_a1_toInt_218_toNat.toInt → f181_12__9_a1_toInt_218_toNat.toInt ≤ 3 → Wd dC dI A s.heap H locs w12 → TW ksM ad cy B qr 12 w12 → FE ksM [(72, 0, 12), (73, 0, 10), (76, 0, 2600)] w0 w12 → gi w12 12 (9 * a1.toInt + 217).toNat = f181_12__9_a1_toInt_217_toNat → gi w12 12 (9 * a1.toInt + 218).toNat = f181_12__9_a1_toInt_218_toNat → lv_has ls 12 [(0, .ref (ad 0)), (1, .int a1), (2, .int a2), (3, .int a3), (4, .int a4), (5, .int 0), (6, .int a6), (7, .int v181_7), (8, .int v181_8), (9, .int v181_9), (10, .int v181_10)] → W p l e ({ frames := 5, cells := 0, slots := 0, locals := 103 }) s m (List.toArray [.ref (ad 0), .int a1, .int a2, .int a3, .int a4, .int 0, .int a6]) below meth c H locs 0 0 (MQ below (va_Qv (P_X12_leads_1 ad cy B qr s1 a1 a2 a3 a4 a6 w0) (fun u : va_W => wpost dC dI cy A u) A) (List.toArray [.ref (ad 0), .int a1, .int a2, .int a3, .int a4, .int 0, .int a6]) s 0 0 A) (F0 m 181 ls []) := by
    intro v181_7 v181_8 v181_9 v181_10 f181_12__9_a1_toInt_217_toNat f181_12__9_a1_toInt_218_toNat H locs ls w12 r13 t14 r15 t16 r17 t18 r19 t20 r21 t22 r23 t24 r25 t26 r27 t28 r29 t30 r32 t33 hw hT hF c31 c34 hl
    exact tk_vret hC hr hlocks hK ⟨hT, hF, trivial⟩ hw dX12_leads_181
  have J241 : ∀ (v241_7 : Int32) (v241_8 : Int32) (v241_9 : Int32) (v241_10 : Int32) (v241_11 : Int32) (f241_12__9_a1_toInt_217_toNat : Int32) (f241_12__9_a1_toInt_218_toNat : Int32) (f241_12_1 : Int32) (H : Heap) (locs : List Loc) (ls : Array Slot) (w35 : va_W), 0 ≤ a1.toInt → a1.toInt ≤ 3 → 0 ≤ a2.toInt → a2.toInt ≤ 1073741824 → 0 ≤ a3.toInt → a3.toInt ≤ 120 → 0 ≤ a4.toInt → a4.toInt ≤ 9 → 0 ≤ a6.toInt → a6.toInt ≤ 120 → 0 ≤ v241_8.toInt → v241_8.toInt ≤ 1073741944 → 0 ≤ v241_9.toInt → v241_9.toInt ≤ 1 → 0 ≤ v241_10.toInt → v241_10.toInt ≤ 11 → 0 ≤ v241_11.toInt → v241_11.toInt ≤ 129 → 0 ≤ f241_12__9_a1_toInt_217_toNat.toInt → f241_12__9_a1_toInt_217_toNat.toInt ≤ 9 → 0 ≤ f241_12__9_a1_toInt_218_toNat.toInt → f241_12__9_a1_toInt_218_toNat.toInt ≤ 3 → 1 ≤ f241_12_1.toInt → f241_12_1.toInt ≤ 12 → Wd dC dI A s.heap H locs w35 → TW ksM ad cy B qr 12 w35 → FE ksM [(72, 0, 12), (73, 0, 10), (76, 0, 2600)] w0 w35 → gi w35 12 (9 * a1.toInt + 217).toNat = f241_12__9_a1_toInt_217_toNat → gi w35 12 (9 * a1.toInt + 218).toNat = f241_12__9_a1_toInt_218_toNat → gi w35 12 1 = f241_12_1 → lv_has ls 12 [(0, .ref (ad 0)), (1, .int a1), (2, .int a2), (3, .int a3), (4, .int a4), (5, .int 0), (6, .int a6), (7, .int v241_7), (8, .int v241_8), (9, .int v241_9), (10, .int v241_10), (11, .int v241_11)] → W p l e ({ frames := 5, cells := 0, slots := 0, locals := 103 }) s m (List.toArray [.ref (ad 0), .int a1, .int a2, .int a3, .int a4, .int 0, .int a6]) below meth c H locs 0 0 (MQ below (va_Qv (P_X12_leads_1 ad cy B qr s1 a1 a2 a3 a4 a6 w0) (fun u : va_W => wpost dC dI cy A u) A) (List.toArray [.ref (ad 0), .int a1, .int a2, .int a3, .int a4, .int 0, .int a6]) s 0 0 A) (F0 m 241 ls []) := by
    intro v241_7 v241_8 v241_9 v241_10 v241_11 f241_12__9_a1_toInt_217_toNat f241_12__9_a1_toInt_218_toNat f241_12_1 H locs ls w35 r36 t37 r38 t39 r40 t41 r42 t43 r44 t45 r46 t47 r48 t49 r50 t51 r52 t53 r54 t55 r57 t58 r60 t61 hw hT hF c56 c59 c62 hl
    exact tk_vret hC hr hlocks hK ⟨hT, hF, trivial⟩ hw dX12_leads_241
  have J145 : ∀ (v145_7 : Int32) (v145_8 : Int32) (v145_9 : Int32) (f145_12__9_a1_toInt_217_toNat : Int32) (f145_12__9_a1_toInt_218_toNat : Int32) (H : Heap) (locs : List Loc) (ls : Array Slot) (w63 : va_W), 0 ≤ a1.toInt → a1.toInt ≤ 3 → 0 ≤ a2.toInt → a2.toInt ≤ 1073741824 → 0 ≤ a3.toInt → a3.toInt ≤ 120 → 0 ≤ a4.toInt → a4.toInt ≤ 9 → 0 ≤ a6.toInt → a6.toInt ≤ 120 → 0 ≤ v145_8.toInt → v145_8.toInt ≤ 1073741944 → 0 ≤ v145_9.toInt → v145_9.toInt ≤ 1 → 0 ≤ f145_12__9_a1_toInt_217_toNat.toInt → f145_12__9_a1_toInt_217_toNat.toInt ≤ 9 → 0 ≤ f145_12__9_a1_toInt_218_toNat.toInt → f145_12__9_a1_toInt_218_toNat.toInt ≤ 3 → Wd dC dI A s.heap H locs w63 → TW ksM ad cy B qr 12 w63 → FE ksM [(72, 0, 12), (73, 0, 10), (76, 0, 2600)] w0 w63 → gi w63 12 (9 * a1.toInt + 217).toNat = f145_12__9_a1_toInt_217_toNat → gi w63 12 (9 * a1.toInt + 218).toNat = f145_12__9_a1_toInt_218_toNat → lv_has ls 12 [(0, .ref (ad 0)), (1, .int a1), (2, .int a2), (3, .int a3), (4, .int a4), (5, .int 0), (6, .int a6), (7, .int v145_7), (8, .int v145_8), (9, .int v145_9)] → W p l e ({ frames := 5, cells := 0, slots := 0, locals := 103 }) s m (List.toArray [.ref (ad 0), .int a1, .int a2, .int a3, .int a4, .int 0, .int a6]) below meth c H locs 0 0 (MQ below (va_Qv (P_X12_leads_1 ad cy B qr s1 a1 a2 a3 a4 a6 w0) (fun u : va_W => wpost dC dI cy A u) A) (List.toArray [.ref (ad 0), .int a1, .int a2, .int a3, .int a4, .int 0, .int a6]) s 0 0 A) (F0 m 145 ls []) := by
    intro v145_7 v145_8 v145_9 f145_12__9_a1_toInt_217_toNat f145_12__9_a1_toInt_218_toNat H locs ls w63 r64 t65 r66 t67 r68 t69 r70 t71 r72 t73 r74 t75 r76 t77 r78 t79 r81 t82 hw hT hF c80 c83 hl
    refine lv_aload_n hx hb dX12_leads_145 rfl (lv_at hl 0 rfl) ?_
    refine lv_aload_n hx hb dX12_leads_146 rfl (lv_at hl 0 rfl) ?_
    refine lv_iload_n hx hb dX12_leads_147 rfl (lv_at hl 1 rfl) ?_
    refine lv_iconst (v := 1) hx hb dX12_leads_148 (by decide) ?_
    refine tk_Vi hC hK hw hT hA hE hSR kM_at0 (by decide) rfl (k_X12_walkerOf_3 l adK adV dC dI cy ad B (by omega) (by omega) qr s1   a1 (show 0 ≤ a1.toInt by omega) (show a1.toInt ≤ 3 by omega) w63 H.size hT ) (cwV 2 hC.2.2.2.2 gX12_leads_X12_walkerOf rfl rfl rfl (by decide +kernel) ⟨Nat.le_of_ble_eq_true rfl, Nat.le_of_ble_eq_true rfl⟩) rfl hl.1 rfl (Nat.le_of_ble_eq_true rfl) dX12_leads_149 (fun r84 w86 H locs hp85 hw => ?_)
    obtain ⟨hT, k87, hg91⟩ := hp85
    have hF := hF.tr k87 (by decide)
    have c92 := k87.gi kM_at12 rfl c80
    have c93 := k87.gi kM_at12 rfl c83
    obtain ⟨g88, g89, c90⟩ := hg91
    obtain rfl : r84 = f145_12__9_a1_toInt_217_toNat := c90.symm.trans c92
    refine tk_Vv hC hK hw hT hA hE hSR kM_at0 (by decide) rfl (k_X12_spreads_1 l adK adV dC dI cy ad B (by omega) (by omega) qr s1   f145_12__9_a1_toInt_217_toNat (show 0 ≤ f145_12__9_a1_toInt_217_toNat.toInt by omega) (show f145_12__9_a1_toInt_217_toNat.toInt ≤ 9 by omega) w86 H.size hT ) (cwV 1 hC.2.2.2.2 gX12_leads_X12_spreads rfl rfl rfl (by decide +kernel) ⟨Nat.le_of_ble_eq_true rfl, Nat.le_of_ble_eq_true rfl⟩) rfl hl.1 rfl (Nat.le_of_ble_eq_true rfl) dX12_leads_152 (fun w96 H locs hp95 hw => ?_)
    obtain ⟨hT, k97, hg98⟩ := hp95
    have hF := hF.tr k97 (by decide)
    have c99 := k97.gi kM_at12 rfl c92
    have c100 := k97.gi kM_at12 rfl c93
    clear hg98
    refine lv_aload_n hx hb dX12_leads_155 rfl (lv_at hl 0 rfl) ?_
    refine lv_iload hx hb dX12_leads_156 (lv_at hl 4 rfl) ?_
    refine tk_Vi hC hK hw hT hA hE hSR kM_at0 (by decide) rfl (k_X12_streetFrom_1 l adK adV dC dI cy ad B (by omega) (by omega) qr s1   a4 (show 0 ≤ a4.toInt by omega) (show a4.toInt ≤ 9 by omega) w96 H.size hT ) (cwV 1 hC.2.2.2.2 gX12_leads_X12_streetFrom rfl rfl rfl (by decide +kernel) ⟨Nat.le_of_ble_eq_true rfl, Nat.le_of_ble_eq_true rfl⟩) rfl hl.1 rfl (Nat.le_of_ble_eq_true rfl) dX12_leads_158 (fun r101 w103 H locs hp102 hw => ?_)
    obtain ⟨hT, k104, hg114⟩ := hp102
    have hF := hF.tr k104 (by decide)
    have c115 := k104.gi kM_at12 rfl c99
    have c116 := k104.gi kM_at12 rfl c100
    rcases hg114 with ⟨g105, g106, ⟨x107, c108, rx107, tx107⟩⟩ | ⟨g109, g110, ⟨x111, c112, rx111, tx111⟩, c113⟩ | rfl
    · refine lv_istore (lv' := [(10, .int r101), (0, .ref (ad 0)), (1, .int a1), (2, .int a2), (3, .int a3), (4, .int a4), (5, .int 0), (6, .int a6), (7, .int v145_7), (8, .int v145_8), (9, .int v145_9)]) hx hb dX12_leads_161 hl (by decide) rfl (fun ls hl => ?_)
      refine lv_iload hx hb dX12_leads_163 (lv_at hl 0 rfl) ?_
      refine lv_if_lt (tgt := 181) hx hb dX12_leads_165 (by decide) (fun c => absurd c (fun h => absurd (show r101.toInt < (0 : Int) from wk_lt.mp h) (by omega))) (fun _ => ?_)
      refine lv_aload_n hx hb dX12_leads_168 rfl (lv_at hl 1 rfl) ?_
      refine lv_iload hx hb dX12_leads_169 (lv_at hl 0 rfl) ?_
      refine lv_iload hx hb dX12_leads_171 (lv_at hl 5 rfl) ?_
      refine lv_iload hx hb dX12_leads_173 (lv_at hl 9 rfl) ?_
      refine tk_Vi hC hK hw hT hA hE hSR kM_at0 (by decide) rfl (k_X12_isOpen_2 l adK adV dC dI cy ad B (by omega) (by omega) qr s1   r101 (show 0 ≤ r101.toInt by omega) (show r101.toInt ≤ 11 by omega) a4 (show 0 ≤ a4.toInt by omega) (show a4.toInt ≤ 9 by omega) v145_8 (show 0 ≤ v145_8.toInt by omega) (show v145_8.toInt ≤ 1073741944 by omega) w103 H.size hT ) (cwV 3 hC.2.2.2.2 gX12_leads_X12_isOpen rfl rfl rfl (by decide +kernel) ⟨Nat.le_of_ble_eq_true rfl, Nat.le_of_ble_eq_true rfl⟩) rfl hl.1 rfl (Nat.le_of_ble_eq_true rfl) dX12_leads_175 (fun r117 w119 H locs hp118 hw => ?_)
      obtain ⟨hT, k120, hg122⟩ := hp118
      have hF := hF.tr k120 (by decide)
      have c123 := k120.gi kM_at12 rfl c115
      have c124 := k120.gi kM_at12 rfl c116
      have c125 := k120.gi kM_at12 (by decide) c108
      rcases hg122 with rfl | rfl | ⟨rfl, c121⟩
      · refine lv_if_ne (tgt := 182) hx hb dX12_leads_178 (by decide) (fun c => absurd (by decide) c) (fun _ => ?_)
        exact J181 v145_7 v145_8 v145_9 r101 f145_12__9_a1_toInt_217_toNat f145_12__9_a1_toInt_218_toNat H locs ls w119 (show 0 ≤ a1.toInt by omega) (show a1.toInt ≤ 3 by omega) (show 0 ≤ a2.toInt by omega) (show a2.toInt ≤ 1073741824 by omega) (show 0 ≤ a3.toInt by omega) (show a3.toInt ≤ 120 by omega) (show 0 ≤ a4.toInt by omega) (show a4.toInt ≤ 9 by omega) (show 0 ≤ a6.toInt by omega) (show a6.toInt ≤ 120 by omega) (show 0 ≤ v145_8.toInt by omega) (show v145_8.toInt ≤ 1073741944 by omega) (show 0 ≤ v145_9.toInt by omega) (show v145_9.toInt ≤ 1 by omega) (show (-1) ≤ r101.toInt by omega) (show r101.toInt ≤ 11 by omega) (show 0 ≤ f145_12__9_a1_toInt_217_toNat.toInt by omega) (show f145_12__9_a1_toInt_217_toNat.toInt ≤ 9 by omega) (show 0 ≤ f145_12__9_a1_toInt_218_toNat.toInt by omega) (show f145_12__9_a1_toInt_218_toNat.toInt ≤ 3 by omega)  hw hT hF c123 c124 (lv_sub hl [1, 2, 3, 4, 5, 6, 7, 8, 9, 10, 0] rfl)
      · refine lv_if_ne (tgt := 182) hx hb dX12_leads_178 (by decide) (fun _ => ?_) (fun c => absurd c (by decide))
        refine lv_iload_n hx hb dX12_leads_182 rfl (lv_at hl 4 rfl) ?_
        refine lv_aload_n hx hb dX12_leads_183 rfl (lv_at hl 1 rfl) ?_
        refine lv_iload hx hb dX12_leads_184 (lv_at hl 0 rfl) ?_
        refine lv_iconst (v := 2) hx hb dX12_leads_186 (by decide) ?_
        refine tk_Vi hC hK hw hT hA hE hSR kM_at0 (by decide) rfl (k_X12_streetOf_6 l adK adV dC dI cy ad B (by omega) (by omega) qr s1   r101 (show 0 ≤ r101.toInt by omega) (show r101.toInt ≤ 11 by omega) w119 H.size hT ) (cwV 2 hC.2.2.2.2 gX12_leads_X12_streetOf rfl rfl rfl (by decide +kernel) ⟨Nat.le_of_ble_eq_true rfl, Nat.le_of_ble_eq_true rfl⟩) rfl hl.1 rfl (Nat.le_of_ble_eq_true rfl) dX12_leads_187 (fun r126 w128 H locs hp127 hw => ?_)
        obtain ⟨hT, k129, hg133⟩ := hp127
        have hF := hF.tr k129 (by decide)
        have c134 := k129.gi kM_at12 rfl c123
        have c135 := k129.gi kM_at12 rfl c124
        have c136 := k129.gi kM_at12 (by decide) c125
        obtain ⟨g130, g131, c132⟩ := hg133
        refine lv_iadd hx hb dX12_leads_190 ?_
        refine lv_topi (fun x137 ex137 => ?_)
        have ex137 : x137.toInt = a3.toInt + r126.toInt := by rw [ex137]; exact wk_add (show (-2147483648) ≤ a3.toInt + r126.toInt by omega) (show a3.toInt + r126.toInt ≤ 2147483647 by omega)
        refine lv_istore (lv' := [(11, .int x137), (10, .int r101), (0, .ref (ad 0)), (1, .int a1), (2, .int a2), (3, .int a3), (4, .int a4), (5, .int 0), (6, .int a6), (7, .int v145_7), (8, .int v145_8), (9, .int v145_9)]) hx hb dX12_leads_191 hl (by decide) rfl (fun ls hl => ?_)
        refine lv_iload hx hb dX12_leads_193 (lv_at hl 0 rfl) ?_
        refine lv_iload hx hb dX12_leads_195 (lv_at hl 8 rfl) ?_
        refine lv_icmp_gt (tgt := 241) hx hb dX12_leads_197 (by decide) (fun c138 => ?_) (fun c138 => ?_)
        · have c138 : a6.toInt < x137.toInt := wk_lt.mp c138
          exact J241 v145_7 v145_8 v145_9 r101 x137 f145_12__9_a1_toInt_217_toNat f145_12__9_a1_toInt_218_toNat x107 H locs ls w128 (show 0 ≤ a1.toInt by omega) (show a1.toInt ≤ 3 by omega) (show 0 ≤ a2.toInt by omega) (show a2.toInt ≤ 1073741824 by omega) (show 0 ≤ a3.toInt by omega) (show a3.toInt ≤ 120 by omega) (show 0 ≤ a4.toInt by omega) (show a4.toInt ≤ 9 by omega) (show 0 ≤ a6.toInt by omega) (show a6.toInt ≤ 120 by omega) (show 0 ≤ v145_8.toInt by omega) (show v145_8.toInt ≤ 1073741944 by omega) (show 0 ≤ v145_9.toInt by omega) (show v145_9.toInt ≤ 1 by omega) (show 0 ≤ r101.toInt by omega) (show r101.toInt ≤ 11 by omega) (show 0 ≤ x137.toInt by omega) (show x137.toInt ≤ 129 by omega) (show 0 ≤ f145_12__9_a1_toInt_217_toNat.toInt by omega) (show f145_12__9_a1_toInt_217_toNat.toInt ≤ 9 by omega) (show 0 ≤ f145_12__9_a1_toInt_218_toNat.toInt by omega) (show f145_12__9_a1_toInt_218_toNat.toInt ≤ 3 by omega) (show 1 ≤ x107.toInt by omega) (show x107.toInt ≤ 12 by omega)  hw hT hF c134 c135 c136 (lv_sub hl [2, 3, 4, 5, 6, 7, 8, 9, 10, 11, 1, 0] rfl)
        · have c138 : x137.toInt ≤ a6.toInt := wk_ltF c138
          refine lv_aload_n hx hb dX12_leads_200 rfl (lv_at hl 2 rfl) ?_
          refine lv_iload hx hb dX12_leads_201 (lv_at hl 0 rfl) ?_
          refine lv_aload_n hx hb dX12_leads_203 rfl (lv_at hl 2 rfl) ?_
          refine lv_iload hx hb dX12_leads_204 (lv_at hl 1 rfl) ?_
          refine lv_iload hx hb dX12_leads_206 (lv_at hl 6 rfl) ?_
          refine tk_Vi hC hK hw hT hA hE hSR kM_at0 (by decide) rfl (k_X12_otherOf_1 l adK adV dC dI cy ad B (by omega) (by omega) qr s1   r101 (show 0 ≤ r101.toInt by omega) (show r101.toInt ≤ 11 by omega) a4 (show 0 ≤ a4.toInt by omega) (show a4.toInt ≤ 9 by omega) w128 H.size hT ) (cwV 2 hC.2.2.2.2 gX12_leads_X12_otherOf rfl rfl rfl (by decide +kernel) ⟨Nat.le_of_ble_eq_true rfl, Nat.le_of_ble_eq_true rfl⟩) rfl hl.1 rfl (Nat.le_of_ble_eq_true rfl) dX12_leads_208 (fun r139 w141 H locs hp140 hw => ?_)
          obtain ⟨hT, k142, hg148⟩ := hp140
          have hF := hF.tr k142 (by decide)
          have c149 := k142.gi kM_at12 rfl c134
          have c150 := k142.gi kM_at12 rfl c135
          have c151 := k142.gi kM_at12 (by decide) c136
          have c152 := k142.gi kM_at12 rfl c132
          rcases hg148 with ⟨g143, g144⟩ | ⟨g145, g146, c147⟩
          · refine lv_iload hx hb dX12_leads_211 (lv_at hl 7 rfl) ?_
            refine lv_if_eq (tgt := 235) hx hb dX12_leads_213 (by decide) (fun _ => ?_) (fun c => absurd (by decide) c)
            refine lv_iconst (v := 0) hx hb dX12_leads_235 (by decide) ?_
            refine lv_iload hx hb dX12_leads_236 (lv_at hl 9 rfl) ?_
            refine tk_Vv hC hK hw hT hA hE hSR kM_at0 (by decide) rfl (k_X12_could_1 l adK adV dC dI cy ad B (by omega) (by omega) qr s1   x137 (show 0 ≤ x137.toInt by omega) (show x137.toInt ≤ 120 by omega) r139 (show 0 ≤ r139.toInt by omega) (show r139.toInt ≤ 9 by omega) v145_7 w141 H.size hT ) (cwV 4 hC.2.2.2.2 gX12_leads_X12_could rfl rfl rfl (by decide +kernel) ⟨Nat.le_of_ble_eq_true rfl, Nat.le_of_ble_eq_true rfl⟩) rfl hl.1 rfl (Nat.le_of_ble_eq_true rfl) dX12_leads_238 (fun w155 H locs hp154 hw => ?_)
            obtain ⟨hT, k156, hg157⟩ := hp154
            have hF := hF.tr k156 (by decide)
            have c158 := k156.gi kM_at12 rfl c149
            have c159 := k156.gi kM_at12 rfl c150
            have c160 := k156.gi kM_at12 (by decide) c151
            have c161 := k156.gi kM_at12 rfl c152
            clear hg157
            exact J241 v145_7 v145_8 v145_9 r101 x137 f145_12__9_a1_toInt_217_toNat f145_12__9_a1_toInt_218_toNat x107 H locs ls w155 (show 0 ≤ a1.toInt by omega) (show a1.toInt ≤ 3 by omega) (show 0 ≤ a2.toInt by omega) (show a2.toInt ≤ 1073741824 by omega) (show 0 ≤ a3.toInt by omega) (show a3.toInt ≤ 120 by omega) (show 0 ≤ a4.toInt by omega) (show a4.toInt ≤ 9 by omega) (show 0 ≤ a6.toInt by omega) (show a6.toInt ≤ 120 by omega) (show 0 ≤ v145_8.toInt by omega) (show v145_8.toInt ≤ 1073741944 by omega) (show 0 ≤ v145_9.toInt by omega) (show v145_9.toInt ≤ 1 by omega) (show 0 ≤ r101.toInt by omega) (show r101.toInt ≤ 11 by omega) (show 0 ≤ x137.toInt by omega) (show x137.toInt ≤ 129 by omega) (show 0 ≤ f145_12__9_a1_toInt_217_toNat.toInt by omega) (show f145_12__9_a1_toInt_217_toNat.toInt ≤ 9 by omega) (show 0 ≤ f145_12__9_a1_toInt_218_toNat.toInt by omega) (show f145_12__9_a1_toInt_218_toNat.toInt ≤ 3 by omega) (show 1 ≤ x107.toInt by omega) (show x107.toInt ≤ 12 by omega)  hw hT hF c158 c159 c160 (lv_sub hl [2, 3, 4, 5, 6, 7, 8, 9, 10, 11, 1, 0] rfl)
          · refine lv_iload hx hb dX12_leads_211 (lv_at hl 7 rfl) ?_
            refine lv_if_eq (tgt := 235) hx hb dX12_leads_213 (by decide) (fun _ => ?_) (fun c => absurd (by decide) c)
            refine lv_iconst (v := 0) hx hb dX12_leads_235 (by decide) ?_
            refine lv_iload hx hb dX12_leads_236 (lv_at hl 9 rfl) ?_
            refine tk_Vv hC hK hw hT hA hE hSR kM_at0 (by decide) rfl (k_X12_could_1 l adK adV dC dI cy ad B (by omega) (by omega) qr s1   x137 (show 0 ≤ x137.toInt by omega) (show x137.toInt ≤ 120 by omega) r139 (show 0 ≤ r139.toInt by omega) (show r139.toInt ≤ 9 by omega) v145_7 w141 H.size hT ) (cwV 4 hC.2.2.2.2 gX12_leads_X12_could rfl rfl rfl (by decide +kernel) ⟨Nat.le_of_ble_eq_true rfl, Nat.le_of_ble_eq_true rfl⟩) rfl hl.1 rfl (Nat.le_of_ble_eq_true rfl) dX12_leads_238 (fun w164 H locs hp163 hw => ?_)
            obtain ⟨hT, k165, hg166⟩ := hp163
            have hF := hF.tr k165 (by decide)
            have c167 := k165.gi kM_at12 rfl c149
            have c168 := k165.gi kM_at12 rfl c150
            have c169 := k165.gi kM_at12 (by decide) c151
            have c170 := k165.gi kM_at12 rfl c152
            have c171 := k165.gi kM_at12 rfl c147
            clear hg166
            exact J241 v145_7 v145_8 v145_9 r101 x137 f145_12__9_a1_toInt_217_toNat f145_12__9_a1_toInt_218_toNat x107 H locs ls w164 (show 0 ≤ a1.toInt by omega) (show a1.toInt ≤ 3 by omega) (show 0 ≤ a2.toInt by omega) (show a2.toInt ≤ 1073741824 by omega) (show 0 ≤ a3.toInt by omega) (show a3.toInt ≤ 120 by omega) (show 0 ≤ a4.toInt by omega) (show a4.toInt ≤ 9 by omega) (show 0 ≤ a6.toInt by omega) (show a6.toInt ≤ 120 by omega) (show 0 ≤ v145_8.toInt by omega) (show v145_8.toInt ≤ 1073741944 by omega) (show 0 ≤ v145_9.toInt by omega) (show v145_9.toInt ≤ 1 by omega) (show 0 ≤ r101.toInt by omega) (show r101.toInt ≤ 11 by omega) (show 0 ≤ x137.toInt by omega) (show x137.toInt ≤ 129 by omega) (show 0 ≤ f145_12__9_a1_toInt_217_toNat.toInt by omega) (show f145_12__9_a1_toInt_217_toNat.toInt ≤ 9 by omega) (show 0 ≤ f145_12__9_a1_toInt_218_toNat.toInt by omega) (show f145_12__9_a1_toInt_218_toNat.toInt ≤ 3 by omega) (show 1 ≤ x107.toInt by omega) (show x107.toInt ≤ 12 by omega)  hw hT hF c167 c168 c169 (lv_sub hl [2, 3, 4, 5, 6, 7, 8, 9, 10, 11, 1, 0] rfl)
      · refine lv_if_ne (tgt := 182) hx hb dX12_leads_178 (by decide) (fun _ => ?_) (fun c => absurd c (by decide))
        refine lv_iload_n hx hb dX12_leads_182 rfl (lv_at hl 4 rfl) ?_
        refine lv_aload_n hx hb dX12_leads_183 rfl (lv_at hl 1 rfl) ?_
        refine lv_iload hx hb dX12_leads_184 (lv_at hl 0 rfl) ?_
        refine lv_iconst (v := 2) hx hb dX12_leads_186 (by decide) ?_
        refine tk_Vi hC hK hw hT hA hE hSR kM_at0 (by decide) rfl (k_X12_streetOf_6 l adK adV dC dI cy ad B (by omega) (by omega) qr s1   r101 (show 0 ≤ r101.toInt by omega) (show r101.toInt ≤ 11 by omega) w119 H.size hT ) (cwV 2 hC.2.2.2.2 gX12_leads_X12_streetOf rfl rfl rfl (by decide +kernel) ⟨Nat.le_of_ble_eq_true rfl, Nat.le_of_ble_eq_true rfl⟩) rfl hl.1 rfl (Nat.le_of_ble_eq_true rfl) dX12_leads_187 (fun r172 w174 H locs hp173 hw => ?_)
        obtain ⟨hT, k175, hg179⟩ := hp173
        have hF := hF.tr k175 (by decide)
        have c180 := k175.gi kM_at12 rfl c123
        have c181 := k175.gi kM_at12 rfl c124
        have c182 := k175.gi kM_at12 (by decide) c125
        have c183 := k175.gi kM_at12 rfl c121
        obtain ⟨g176, g177, c178⟩ := hg179
        refine lv_iadd hx hb dX12_leads_190 ?_
        refine lv_topi (fun x184 ex184 => ?_)
        have ex184 : x184.toInt = a3.toInt + r172.toInt := by rw [ex184]; exact wk_add (show (-2147483648) ≤ a3.toInt + r172.toInt by omega) (show a3.toInt + r172.toInt ≤ 2147483647 by omega)
        refine lv_istore (lv' := [(11, .int x184), (10, .int r101), (0, .ref (ad 0)), (1, .int a1), (2, .int a2), (3, .int a3), (4, .int a4), (5, .int 0), (6, .int a6), (7, .int v145_7), (8, .int v145_8), (9, .int v145_9)]) hx hb dX12_leads_191 hl (by decide) rfl (fun ls hl => ?_)
        refine lv_iload hx hb dX12_leads_193 (lv_at hl 0 rfl) ?_
        refine lv_iload hx hb dX12_leads_195 (lv_at hl 8 rfl) ?_
        refine lv_icmp_gt (tgt := 241) hx hb dX12_leads_197 (by decide) (fun c185 => ?_) (fun c185 => ?_)
        · have c185 : a6.toInt < x184.toInt := wk_lt.mp c185
          exact J241 v145_7 v145_8 v145_9 r101 x184 f145_12__9_a1_toInt_217_toNat f145_12__9_a1_toInt_218_toNat x107 H locs ls w174 (show 0 ≤ a1.toInt by omega) (show a1.toInt ≤ 3 by omega) (show 0 ≤ a2.toInt by omega) (show a2.toInt ≤ 1073741824 by omega) (show 0 ≤ a3.toInt by omega) (show a3.toInt ≤ 120 by omega) (show 0 ≤ a4.toInt by omega) (show a4.toInt ≤ 9 by omega) (show 0 ≤ a6.toInt by omega) (show a6.toInt ≤ 120 by omega) (show 0 ≤ v145_8.toInt by omega) (show v145_8.toInt ≤ 1073741944 by omega) (show 0 ≤ v145_9.toInt by omega) (show v145_9.toInt ≤ 1 by omega) (show 0 ≤ r101.toInt by omega) (show r101.toInt ≤ 11 by omega) (show 0 ≤ x184.toInt by omega) (show x184.toInt ≤ 129 by omega) (show 0 ≤ f145_12__9_a1_toInt_217_toNat.toInt by omega) (show f145_12__9_a1_toInt_217_toNat.toInt ≤ 9 by omega) (show 0 ≤ f145_12__9_a1_toInt_218_toNat.toInt by omega) (show f145_12__9_a1_toInt_218_toNat.toInt ≤ 3 by omega) (show 1 ≤ x107.toInt by omega) (show x107.toInt ≤ 12 by omega)  hw hT hF c180 c181 c182 (lv_sub hl [2, 3, 4, 5, 6, 7, 8, 9, 10, 11, 1, 0] rfl)
        · have c185 : x184.toInt ≤ a6.toInt := wk_ltF c185
          refine lv_aload_n hx hb dX12_leads_200 rfl (lv_at hl 2 rfl) ?_
          refine lv_iload hx hb dX12_leads_201 (lv_at hl 0 rfl) ?_
          refine lv_aload_n hx hb dX12_leads_203 rfl (lv_at hl 2 rfl) ?_
          refine lv_iload hx hb dX12_leads_204 (lv_at hl 1 rfl) ?_
          refine lv_iload hx hb dX12_leads_206 (lv_at hl 6 rfl) ?_
          refine tk_Vi hC hK hw hT hA hE hSR kM_at0 (by decide) rfl (k_X12_otherOf_1 l adK adV dC dI cy ad B (by omega) (by omega) qr s1   r101 (show 0 ≤ r101.toInt by omega) (show r101.toInt ≤ 11 by omega) a4 (show 0 ≤ a4.toInt by omega) (show a4.toInt ≤ 9 by omega) w174 H.size hT ) (cwV 2 hC.2.2.2.2 gX12_leads_X12_otherOf rfl rfl rfl (by decide +kernel) ⟨Nat.le_of_ble_eq_true rfl, Nat.le_of_ble_eq_true rfl⟩) rfl hl.1 rfl (Nat.le_of_ble_eq_true rfl) dX12_leads_208 (fun r186 w188 H locs hp187 hw => ?_)
          obtain ⟨hT, k189, hg195⟩ := hp187
          have hF := hF.tr k189 (by decide)
          have c196 := k189.gi kM_at12 rfl c180
          have c197 := k189.gi kM_at12 rfl c181
          have c198 := k189.gi kM_at12 (by decide) c182
          have c199 := k189.gi kM_at12 rfl c183
          have c200 := k189.gi kM_at12 rfl c178
          rcases hg195 with ⟨g190, g191⟩ | ⟨g192, g193, c194⟩
          · refine lv_iload hx hb dX12_leads_211 (lv_at hl 7 rfl) ?_
            refine lv_if_eq (tgt := 235) hx hb dX12_leads_213 (by decide) (fun _ => ?_) (fun c => absurd (by decide) c)
            refine lv_iconst (v := 0) hx hb dX12_leads_235 (by decide) ?_
            refine lv_iload hx hb dX12_leads_236 (lv_at hl 9 rfl) ?_
            refine tk_Vv hC hK hw hT hA hE hSR kM_at0 (by decide) rfl (k_X12_could_1 l adK adV dC dI cy ad B (by omega) (by omega) qr s1   x184 (show 0 ≤ x184.toInt by omega) (show x184.toInt ≤ 120 by omega) r186 (show 0 ≤ r186.toInt by omega) (show r186.toInt ≤ 9 by omega) v145_7 w188 H.size hT ) (cwV 4 hC.2.2.2.2 gX12_leads_X12_could rfl rfl rfl (by decide +kernel) ⟨Nat.le_of_ble_eq_true rfl, Nat.le_of_ble_eq_true rfl⟩) rfl hl.1 rfl (Nat.le_of_ble_eq_true rfl) dX12_leads_238 (fun w203 H locs hp202 hw => ?_)
            obtain ⟨hT, k204, hg205⟩ := hp202
            have hF := hF.tr k204 (by decide)
            have c206 := k204.gi kM_at12 rfl c196
            have c207 := k204.gi kM_at12 rfl c197
            have c208 := k204.gi kM_at12 (by decide) c198
            have c209 := k204.gi kM_at12 rfl c199
            have c210 := k204.gi kM_at12 rfl c200
            clear hg205
            exact J241 v145_7 v145_8 v145_9 r101 x184 f145_12__9_a1_toInt_217_toNat f145_12__9_a1_toInt_218_toNat x107 H locs ls w203 (show 0 ≤ a1.toInt by omega) (show a1.toInt ≤ 3 by omega) (show 0 ≤ a2.toInt by omega) (show a2.toInt ≤ 1073741824 by omega) (show 0 ≤ a3.toInt by omega) (show a3.toInt ≤ 120 by omega) (show 0 ≤ a4.toInt by omega) (show a4.toInt ≤ 9 by omega) (show 0 ≤ a6.toInt by omega) (show a6.toInt ≤ 120 by omega) (show 0 ≤ v145_8.toInt by omega) (show v145_8.toInt ≤ 1073741944 by omega) (show 0 ≤ v145_9.toInt by omega) (show v145_9.toInt ≤ 1 by omega) (show 0 ≤ r101.toInt by omega) (show r101.toInt ≤ 11 by omega) (show 0 ≤ x184.toInt by omega) (show x184.toInt ≤ 129 by omega) (show 0 ≤ f145_12__9_a1_toInt_217_toNat.toInt by omega) (show f145_12__9_a1_toInt_217_toNat.toInt ≤ 9 by omega) (show 0 ≤ f145_12__9_a1_toInt_218_toNat.toInt by omega) (show f145_12__9_a1_toInt_218_toNat.toInt ≤ 3 by omega) (show 1 ≤ x107.toInt by omega) (show x107.toInt ≤ 12 by omega)  hw hT hF c206 c207 c208 (lv_sub hl [2, 3, 4, 5, 6, 7, 8, 9, 10, 11, 1, 0] rfl)
          · refine lv_iload hx hb dX12_leads_211 (lv_at hl 7 rfl) ?_
            refine lv_if_eq (tgt := 235) hx hb dX12_leads_213 (by decide) (fun _ => ?_) (fun c => absurd (by decide) c)
            refine lv_iconst (v := 0) hx hb dX12_leads_235 (by decide) ?_
            refine lv_iload hx hb dX12_leads_236 (lv_at hl 9 rfl) ?_
            refine tk_Vv hC hK hw hT hA hE hSR kM_at0 (by decide) rfl (k_X12_could_1 l adK adV dC dI cy ad B (by omega) (by omega) qr s1   x184 (show 0 ≤ x184.toInt by omega) (show x184.toInt ≤ 120 by omega) r186 (show 0 ≤ r186.toInt by omega) (show r186.toInt ≤ 9 by omega) v145_7 w188 H.size hT ) (cwV 4 hC.2.2.2.2 gX12_leads_X12_could rfl rfl rfl (by decide +kernel) ⟨Nat.le_of_ble_eq_true rfl, Nat.le_of_ble_eq_true rfl⟩) rfl hl.1 rfl (Nat.le_of_ble_eq_true rfl) dX12_leads_238 (fun w213 H locs hp212 hw => ?_)
            obtain ⟨hT, k214, hg215⟩ := hp212
            have hF := hF.tr k214 (by decide)
            have c216 := k214.gi kM_at12 rfl c196
            have c217 := k214.gi kM_at12 rfl c197
            have c218 := k214.gi kM_at12 (by decide) c198
            have c219 := k214.gi kM_at12 rfl c199
            have c220 := k214.gi kM_at12 rfl c200
            clear hg215
            exact J241 v145_7 v145_8 v145_9 r101 x184 f145_12__9_a1_toInt_217_toNat f145_12__9_a1_toInt_218_toNat x107 H locs ls w213 (show 0 ≤ a1.toInt by omega) (show a1.toInt ≤ 3 by omega) (show 0 ≤ a2.toInt by omega) (show a2.toInt ≤ 1073741824 by omega) (show 0 ≤ a3.toInt by omega) (show a3.toInt ≤ 120 by omega) (show 0 ≤ a4.toInt by omega) (show a4.toInt ≤ 9 by omega) (show 0 ≤ a6.toInt by omega) (show a6.toInt ≤ 120 by omega) (show 0 ≤ v145_8.toInt by omega) (show v145_8.toInt ≤ 1073741944 by omega) (show 0 ≤ v145_9.toInt by omega) (show v145_9.toInt ≤ 1 by omega) (show 0 ≤ r101.toInt by omega) (show r101.toInt ≤ 11 by omega) (show 0 ≤ x184.toInt by omega) (show x184.toInt ≤ 129 by omega) (show 0 ≤ f145_12__9_a1_toInt_217_toNat.toInt by omega) (show f145_12__9_a1_toInt_217_toNat.toInt ≤ 9 by omega) (show 0 ≤ f145_12__9_a1_toInt_218_toNat.toInt by omega) (show f145_12__9_a1_toInt_218_toNat.toInt ≤ 3 by omega) (show 1 ≤ x107.toInt by omega) (show x107.toInt ≤ 12 by omega)  hw hT hF c216 c217 c218 (lv_sub hl [2, 3, 4, 5, 6, 7, 8, 9, 10, 11, 1, 0] rfl)
    · refine lv_istore (lv' := [(10, .int r101), (0, .ref (ad 0)), (1, .int a1), (2, .int a2), (3, .int a3), (4, .int a4), (5, .int 0), (6, .int a6), (7, .int v145_7), (8, .int v145_8), (9, .int v145_9)]) hx hb dX12_leads_161 hl (by decide) rfl (fun ls hl => ?_)
      refine lv_iload hx hb dX12_leads_163 (lv_at hl 0 rfl) ?_
      refine lv_if_lt (tgt := 181) hx hb dX12_leads_165 (by decide) (fun c => absurd c (fun h => absurd (show r101.toInt < (0 : Int) from wk_lt.mp h) (by omega))) (fun _ => ?_)
      refine lv_aload_n hx hb dX12_leads_168 rfl (lv_at hl 1 rfl) ?_
      refine lv_iload hx hb dX12_leads_169 (lv_at hl 0 rfl) ?_
      refine lv_iload hx hb dX12_leads_171 (lv_at hl 5 rfl) ?_
      refine lv_iload hx hb dX12_leads_173 (lv_at hl 9 rfl) ?_
      refine tk_Vi hC hK hw hT hA hE hSR kM_at0 (by decide) rfl (k_X12_isOpen_2 l adK adV dC dI cy ad B (by omega) (by omega) qr s1   r101 (show 0 ≤ r101.toInt by omega) (show r101.toInt ≤ 11 by omega) a4 (show 0 ≤ a4.toInt by omega) (show a4.toInt ≤ 9 by omega) v145_8 (show 0 ≤ v145_8.toInt by omega) (show v145_8.toInt ≤ 1073741944 by omega) w103 H.size hT ) (cwV 3 hC.2.2.2.2 gX12_leads_X12_isOpen rfl rfl rfl (by decide +kernel) ⟨Nat.le_of_ble_eq_true rfl, Nat.le_of_ble_eq_true rfl⟩) rfl hl.1 rfl (Nat.le_of_ble_eq_true rfl) dX12_leads_175 (fun r221 w223 H locs hp222 hw => ?_)
      obtain ⟨hT, k224, hg226⟩ := hp222
      have hF := hF.tr k224 (by decide)
      have c227 := k224.gi kM_at12 rfl c115
      have c228 := k224.gi kM_at12 rfl c116
      have c229 := k224.gi kM_at12 (by decide) c112
      have c230 := k224.gi kM_at12 rfl c113
      rcases hg226 with rfl | rfl | ⟨rfl, c225⟩
      · refine lv_if_ne (tgt := 182) hx hb dX12_leads_178 (by decide) (fun c => absurd (by decide) c) (fun _ => ?_)
        exact J181 v145_7 v145_8 v145_9 r101 f145_12__9_a1_toInt_217_toNat f145_12__9_a1_toInt_218_toNat H locs ls w223 (show 0 ≤ a1.toInt by omega) (show a1.toInt ≤ 3 by omega) (show 0 ≤ a2.toInt by omega) (show a2.toInt ≤ 1073741824 by omega) (show 0 ≤ a3.toInt by omega) (show a3.toInt ≤ 120 by omega) (show 0 ≤ a4.toInt by omega) (show a4.toInt ≤ 9 by omega) (show 0 ≤ a6.toInt by omega) (show a6.toInt ≤ 120 by omega) (show 0 ≤ v145_8.toInt by omega) (show v145_8.toInt ≤ 1073741944 by omega) (show 0 ≤ v145_9.toInt by omega) (show v145_9.toInt ≤ 1 by omega) (show (-1) ≤ r101.toInt by omega) (show r101.toInt ≤ 11 by omega) (show 0 ≤ f145_12__9_a1_toInt_217_toNat.toInt by omega) (show f145_12__9_a1_toInt_217_toNat.toInt ≤ 9 by omega) (show 0 ≤ f145_12__9_a1_toInt_218_toNat.toInt by omega) (show f145_12__9_a1_toInt_218_toNat.toInt ≤ 3 by omega)  hw hT hF c227 c228 (lv_sub hl [1, 2, 3, 4, 5, 6, 7, 8, 9, 10, 0] rfl)
      · refine lv_if_ne (tgt := 182) hx hb dX12_leads_178 (by decide) (fun _ => ?_) (fun c => absurd c (by decide))
        refine lv_iload_n hx hb dX12_leads_182 rfl (lv_at hl 4 rfl) ?_
        refine lv_aload_n hx hb dX12_leads_183 rfl (lv_at hl 1 rfl) ?_
        refine lv_iload hx hb dX12_leads_184 (lv_at hl 0 rfl) ?_
        refine lv_iconst (v := 2) hx hb dX12_leads_186 (by decide) ?_
        refine tk_Vi hC hK hw hT hA hE hSR kM_at0 (by decide) rfl (k_X12_streetOf_6 l adK adV dC dI cy ad B (by omega) (by omega) qr s1   r101 (show 0 ≤ r101.toInt by omega) (show r101.toInt ≤ 11 by omega) w223 H.size hT ) (cwV 2 hC.2.2.2.2 gX12_leads_X12_streetOf rfl rfl rfl (by decide +kernel) ⟨Nat.le_of_ble_eq_true rfl, Nat.le_of_ble_eq_true rfl⟩) rfl hl.1 rfl (Nat.le_of_ble_eq_true rfl) dX12_leads_187 (fun r231 w233 H locs hp232 hw => ?_)
        obtain ⟨hT, k234, hg238⟩ := hp232
        have hF := hF.tr k234 (by decide)
        have c239 := k234.gi kM_at12 rfl c227
        have c240 := k234.gi kM_at12 rfl c228
        have c241 := k234.gi kM_at12 (by decide) c229
        have c242 := k234.gi kM_at12 rfl c230
        obtain ⟨g235, g236, c237⟩ := hg238
        refine lv_iadd hx hb dX12_leads_190 ?_
        refine lv_topi (fun x243 ex243 => ?_)
        have ex243 : x243.toInt = a3.toInt + r231.toInt := by rw [ex243]; exact wk_add (show (-2147483648) ≤ a3.toInt + r231.toInt by omega) (show a3.toInt + r231.toInt ≤ 2147483647 by omega)
        refine lv_istore (lv' := [(11, .int x243), (10, .int r101), (0, .ref (ad 0)), (1, .int a1), (2, .int a2), (3, .int a3), (4, .int a4), (5, .int 0), (6, .int a6), (7, .int v145_7), (8, .int v145_8), (9, .int v145_9)]) hx hb dX12_leads_191 hl (by decide) rfl (fun ls hl => ?_)
        refine lv_iload hx hb dX12_leads_193 (lv_at hl 0 rfl) ?_
        refine lv_iload hx hb dX12_leads_195 (lv_at hl 8 rfl) ?_
        refine lv_icmp_gt (tgt := 241) hx hb dX12_leads_197 (by decide) (fun c244 => ?_) (fun c244 => ?_)
        · have c244 : a6.toInt < x243.toInt := wk_lt.mp c244
          exact J241 v145_7 v145_8 v145_9 r101 x243 f145_12__9_a1_toInt_217_toNat f145_12__9_a1_toInt_218_toNat x111 H locs ls w233 (show 0 ≤ a1.toInt by omega) (show a1.toInt ≤ 3 by omega) (show 0 ≤ a2.toInt by omega) (show a2.toInt ≤ 1073741824 by omega) (show 0 ≤ a3.toInt by omega) (show a3.toInt ≤ 120 by omega) (show 0 ≤ a4.toInt by omega) (show a4.toInt ≤ 9 by omega) (show 0 ≤ a6.toInt by omega) (show a6.toInt ≤ 120 by omega) (show 0 ≤ v145_8.toInt by omega) (show v145_8.toInt ≤ 1073741944 by omega) (show 0 ≤ v145_9.toInt by omega) (show v145_9.toInt ≤ 1 by omega) (show 0 ≤ r101.toInt by omega) (show r101.toInt ≤ 11 by omega) (show 0 ≤ x243.toInt by omega) (show x243.toInt ≤ 129 by omega) (show 0 ≤ f145_12__9_a1_toInt_217_toNat.toInt by omega) (show f145_12__9_a1_toInt_217_toNat.toInt ≤ 9 by omega) (show 0 ≤ f145_12__9_a1_toInt_218_toNat.toInt by omega) (show f145_12__9_a1_toInt_218_toNat.toInt ≤ 3 by omega) (show 1 ≤ x111.toInt by omega) (show x111.toInt ≤ 12 by omega)  hw hT hF c239 c240 c241 (lv_sub hl [2, 3, 4, 5, 6, 7, 8, 9, 10, 11, 1, 0] rfl)
        · have c244 : x243.toInt ≤ a6.toInt := wk_ltF c244
          refine lv_aload_n hx hb dX12_leads_200 rfl (lv_at hl 2 rfl) ?_
          refine lv_iload hx hb dX12_leads_201 (lv_at hl 0 rfl) ?_
          refine lv_aload_n hx hb dX12_leads_203 rfl (lv_at hl 2 rfl) ?_
          refine lv_iload hx hb dX12_leads_204 (lv_at hl 1 rfl) ?_
          refine lv_iload hx hb dX12_leads_206 (lv_at hl 6 rfl) ?_
          refine tk_Vi hC hK hw hT hA hE hSR kM_at0 (by decide) rfl (k_X12_otherOf_1 l adK adV dC dI cy ad B (by omega) (by omega) qr s1   r101 (show 0 ≤ r101.toInt by omega) (show r101.toInt ≤ 11 by omega) a4 (show 0 ≤ a4.toInt by omega) (show a4.toInt ≤ 9 by omega) w233 H.size hT ) (cwV 2 hC.2.2.2.2 gX12_leads_X12_otherOf rfl rfl rfl (by decide +kernel) ⟨Nat.le_of_ble_eq_true rfl, Nat.le_of_ble_eq_true rfl⟩) rfl hl.1 rfl (Nat.le_of_ble_eq_true rfl) dX12_leads_208 (fun r245 w247 H locs hp246 hw => ?_)
          obtain ⟨hT, k248, hg254⟩ := hp246
          have hF := hF.tr k248 (by decide)
          have c255 := k248.gi kM_at12 rfl c239
          have c256 := k248.gi kM_at12 rfl c240
          have c257 := k248.gi kM_at12 (by decide) c241
          have c258 := k248.gi kM_at12 rfl c242
          have c259 := k248.gi kM_at12 rfl c237
          rcases hg254 with ⟨g249, g250⟩ | ⟨g251, g252, c253⟩
          · refine lv_iload hx hb dX12_leads_211 (lv_at hl 7 rfl) ?_
            refine lv_if_eq (tgt := 235) hx hb dX12_leads_213 (by decide) (fun _ => ?_) (fun c => absurd (by decide) c)
            refine lv_iconst (v := 0) hx hb dX12_leads_235 (by decide) ?_
            refine lv_iload hx hb dX12_leads_236 (lv_at hl 9 rfl) ?_
            refine tk_Vv hC hK hw hT hA hE hSR kM_at0 (by decide) rfl (k_X12_could_1 l adK adV dC dI cy ad B (by omega) (by omega) qr s1   x243 (show 0 ≤ x243.toInt by omega) (show x243.toInt ≤ 120 by omega) r245 (show 0 ≤ r245.toInt by omega) (show r245.toInt ≤ 9 by omega) v145_7 w247 H.size hT ) (cwV 4 hC.2.2.2.2 gX12_leads_X12_could rfl rfl rfl (by decide +kernel) ⟨Nat.le_of_ble_eq_true rfl, Nat.le_of_ble_eq_true rfl⟩) rfl hl.1 rfl (Nat.le_of_ble_eq_true rfl) dX12_leads_238 (fun w262 H locs hp261 hw => ?_)
            obtain ⟨hT, k263, hg264⟩ := hp261
            have hF := hF.tr k263 (by decide)
            have c265 := k263.gi kM_at12 rfl c255
            have c266 := k263.gi kM_at12 rfl c256
            have c267 := k263.gi kM_at12 (by decide) c257
            have c268 := k263.gi kM_at12 rfl c258
            have c269 := k263.gi kM_at12 rfl c259
            clear hg264
            exact J241 v145_7 v145_8 v145_9 r101 x243 f145_12__9_a1_toInt_217_toNat f145_12__9_a1_toInt_218_toNat x111 H locs ls w262 (show 0 ≤ a1.toInt by omega) (show a1.toInt ≤ 3 by omega) (show 0 ≤ a2.toInt by omega) (show a2.toInt ≤ 1073741824 by omega) (show 0 ≤ a3.toInt by omega) (show a3.toInt ≤ 120 by omega) (show 0 ≤ a4.toInt by omega) (show a4.toInt ≤ 9 by omega) (show 0 ≤ a6.toInt by omega) (show a6.toInt ≤ 120 by omega) (show 0 ≤ v145_8.toInt by omega) (show v145_8.toInt ≤ 1073741944 by omega) (show 0 ≤ v145_9.toInt by omega) (show v145_9.toInt ≤ 1 by omega) (show 0 ≤ r101.toInt by omega) (show r101.toInt ≤ 11 by omega) (show 0 ≤ x243.toInt by omega) (show x243.toInt ≤ 129 by omega) (show 0 ≤ f145_12__9_a1_toInt_217_toNat.toInt by omega) (show f145_12__9_a1_toInt_217_toNat.toInt ≤ 9 by omega) (show 0 ≤ f145_12__9_a1_toInt_218_toNat.toInt by omega) (show f145_12__9_a1_toInt_218_toNat.toInt ≤ 3 by omega) (show 1 ≤ x111.toInt by omega) (show x111.toInt ≤ 12 by omega)  hw hT hF c265 c266 c267 (lv_sub hl [2, 3, 4, 5, 6, 7, 8, 9, 10, 11, 1, 0] rfl)
          · refine lv_iload hx hb dX12_leads_211 (lv_at hl 7 rfl) ?_
            refine lv_if_eq (tgt := 235) hx hb dX12_leads_213 (by decide) (fun _ => ?_) (fun c => absurd (by decide) c)
            refine lv_iconst (v := 0) hx hb dX12_leads_235 (by decide) ?_
            refine lv_iload hx hb dX12_leads_236 (lv_at hl 9 rfl) ?_
            refine tk_Vv hC hK hw hT hA hE hSR kM_at0 (by decide) rfl (k_X12_could_1 l adK adV dC dI cy ad B (by omega) (by omega) qr s1   x243 (show 0 ≤ x243.toInt by omega) (show x243.toInt ≤ 120 by omega) r245 (show 0 ≤ r245.toInt by omega) (show r245.toInt ≤ 9 by omega) v145_7 w247 H.size hT ) (cwV 4 hC.2.2.2.2 gX12_leads_X12_could rfl rfl rfl (by decide +kernel) ⟨Nat.le_of_ble_eq_true rfl, Nat.le_of_ble_eq_true rfl⟩) rfl hl.1 rfl (Nat.le_of_ble_eq_true rfl) dX12_leads_238 (fun w272 H locs hp271 hw => ?_)
            obtain ⟨hT, k273, hg274⟩ := hp271
            have hF := hF.tr k273 (by decide)
            have c275 := k273.gi kM_at12 rfl c255
            have c276 := k273.gi kM_at12 rfl c256
            have c277 := k273.gi kM_at12 (by decide) c257
            have c278 := k273.gi kM_at12 rfl c258
            have c279 := k273.gi kM_at12 rfl c259
            clear hg274
            exact J241 v145_7 v145_8 v145_9 r101 x243 f145_12__9_a1_toInt_217_toNat f145_12__9_a1_toInt_218_toNat x111 H locs ls w272 (show 0 ≤ a1.toInt by omega) (show a1.toInt ≤ 3 by omega) (show 0 ≤ a2.toInt by omega) (show a2.toInt ≤ 1073741824 by omega) (show 0 ≤ a3.toInt by omega) (show a3.toInt ≤ 120 by omega) (show 0 ≤ a4.toInt by omega) (show a4.toInt ≤ 9 by omega) (show 0 ≤ a6.toInt by omega) (show a6.toInt ≤ 120 by omega) (show 0 ≤ v145_8.toInt by omega) (show v145_8.toInt ≤ 1073741944 by omega) (show 0 ≤ v145_9.toInt by omega) (show v145_9.toInt ≤ 1 by omega) (show 0 ≤ r101.toInt by omega) (show r101.toInt ≤ 11 by omega) (show 0 ≤ x243.toInt by omega) (show x243.toInt ≤ 129 by omega) (show 0 ≤ f145_12__9_a1_toInt_217_toNat.toInt by omega) (show f145_12__9_a1_toInt_217_toNat.toInt ≤ 9 by omega) (show 0 ≤ f145_12__9_a1_toInt_218_toNat.toInt by omega) (show f145_12__9_a1_toInt_218_toNat.toInt ≤ 3 by omega) (show 1 ≤ x111.toInt by omega) (show x111.toInt ≤ 12 by omega)  hw hT hF c275 c276 c277 (lv_sub hl [2, 3, 4, 5, 6, 7, 8, 9, 10, 11, 1, 0] rfl)
      · refine lv_if_ne (tgt := 182) hx hb dX12_leads_178 (by decide) (fun _ => ?_) (fun c => absurd c (by decide))
        refine lv_iload_n hx hb dX12_leads_182 rfl (lv_at hl 4 rfl) ?_
        refine lv_aload_n hx hb dX12_leads_183 rfl (lv_at hl 1 rfl) ?_
        refine lv_iload hx hb dX12_leads_184 (lv_at hl 0 rfl) ?_
        refine lv_iconst (v := 2) hx hb dX12_leads_186 (by decide) ?_
        refine tk_Vi hC hK hw hT hA hE hSR kM_at0 (by decide) rfl (k_X12_streetOf_6 l adK adV dC dI cy ad B (by omega) (by omega) qr s1   r101 (show 0 ≤ r101.toInt by omega) (show r101.toInt ≤ 11 by omega) w223 H.size hT ) (cwV 2 hC.2.2.2.2 gX12_leads_X12_streetOf rfl rfl rfl (by decide +kernel) ⟨Nat.le_of_ble_eq_true rfl, Nat.le_of_ble_eq_true rfl⟩) rfl hl.1 rfl (Nat.le_of_ble_eq_true rfl) dX12_leads_187 (fun r280 w282 H locs hp281 hw => ?_)
        obtain ⟨hT, k283, hg287⟩ := hp281
        have hF := hF.tr k283 (by decide)
        have c288 := k283.gi kM_at12 rfl c227
        have c289 := k283.gi kM_at12 rfl c228
        have c290 := k283.gi kM_at12 (by decide) c229
        have c291 := k283.gi kM_at12 rfl c230
        obtain ⟨g284, g285, c286⟩ := hg287
        refine lv_iadd hx hb dX12_leads_190 ?_
        refine lv_topi (fun x292 ex292 => ?_)
        have ex292 : x292.toInt = a3.toInt + r280.toInt := by rw [ex292]; exact wk_add (show (-2147483648) ≤ a3.toInt + r280.toInt by omega) (show a3.toInt + r280.toInt ≤ 2147483647 by omega)
        refine lv_istore (lv' := [(11, .int x292), (10, .int r101), (0, .ref (ad 0)), (1, .int a1), (2, .int a2), (3, .int a3), (4, .int a4), (5, .int 0), (6, .int a6), (7, .int v145_7), (8, .int v145_8), (9, .int v145_9)]) hx hb dX12_leads_191 hl (by decide) rfl (fun ls hl => ?_)
        refine lv_iload hx hb dX12_leads_193 (lv_at hl 0 rfl) ?_
        refine lv_iload hx hb dX12_leads_195 (lv_at hl 8 rfl) ?_
        refine lv_icmp_gt (tgt := 241) hx hb dX12_leads_197 (by decide) (fun c293 => ?_) (fun c293 => ?_)
        · have c293 : a6.toInt < x292.toInt := wk_lt.mp c293
          exact J241 v145_7 v145_8 v145_9 r101 x292 f145_12__9_a1_toInt_217_toNat f145_12__9_a1_toInt_218_toNat x111 H locs ls w282 (show 0 ≤ a1.toInt by omega) (show a1.toInt ≤ 3 by omega) (show 0 ≤ a2.toInt by omega) (show a2.toInt ≤ 1073741824 by omega) (show 0 ≤ a3.toInt by omega) (show a3.toInt ≤ 120 by omega) (show 0 ≤ a4.toInt by omega) (show a4.toInt ≤ 9 by omega) (show 0 ≤ a6.toInt by omega) (show a6.toInt ≤ 120 by omega) (show 0 ≤ v145_8.toInt by omega) (show v145_8.toInt ≤ 1073741944 by omega) (show 0 ≤ v145_9.toInt by omega) (show v145_9.toInt ≤ 1 by omega) (show 0 ≤ r101.toInt by omega) (show r101.toInt ≤ 11 by omega) (show 0 ≤ x292.toInt by omega) (show x292.toInt ≤ 129 by omega) (show 0 ≤ f145_12__9_a1_toInt_217_toNat.toInt by omega) (show f145_12__9_a1_toInt_217_toNat.toInt ≤ 9 by omega) (show 0 ≤ f145_12__9_a1_toInt_218_toNat.toInt by omega) (show f145_12__9_a1_toInt_218_toNat.toInt ≤ 3 by omega) (show 1 ≤ x111.toInt by omega) (show x111.toInt ≤ 12 by omega)  hw hT hF c288 c289 c290 (lv_sub hl [2, 3, 4, 5, 6, 7, 8, 9, 10, 11, 1, 0] rfl)
        · have c293 : x292.toInt ≤ a6.toInt := wk_ltF c293
          refine lv_aload_n hx hb dX12_leads_200 rfl (lv_at hl 2 rfl) ?_
          refine lv_iload hx hb dX12_leads_201 (lv_at hl 0 rfl) ?_
          refine lv_aload_n hx hb dX12_leads_203 rfl (lv_at hl 2 rfl) ?_
          refine lv_iload hx hb dX12_leads_204 (lv_at hl 1 rfl) ?_
          refine lv_iload hx hb dX12_leads_206 (lv_at hl 6 rfl) ?_
          refine tk_Vi hC hK hw hT hA hE hSR kM_at0 (by decide) rfl (k_X12_otherOf_1 l adK adV dC dI cy ad B (by omega) (by omega) qr s1   r101 (show 0 ≤ r101.toInt by omega) (show r101.toInt ≤ 11 by omega) a4 (show 0 ≤ a4.toInt by omega) (show a4.toInt ≤ 9 by omega) w282 H.size hT ) (cwV 2 hC.2.2.2.2 gX12_leads_X12_otherOf rfl rfl rfl (by decide +kernel) ⟨Nat.le_of_ble_eq_true rfl, Nat.le_of_ble_eq_true rfl⟩) rfl hl.1 rfl (Nat.le_of_ble_eq_true rfl) dX12_leads_208 (fun r294 w296 H locs hp295 hw => ?_)
          obtain ⟨hT, k297, hg303⟩ := hp295
          have hF := hF.tr k297 (by decide)
          have c304 := k297.gi kM_at12 rfl c288
          have c305 := k297.gi kM_at12 rfl c289
          have c306 := k297.gi kM_at12 (by decide) c290
          have c307 := k297.gi kM_at12 rfl c291
          have c308 := k297.gi kM_at12 rfl c286
          rcases hg303 with ⟨g298, g299⟩ | ⟨g300, g301, c302⟩
          · refine lv_iload hx hb dX12_leads_211 (lv_at hl 7 rfl) ?_
            refine lv_if_eq (tgt := 235) hx hb dX12_leads_213 (by decide) (fun _ => ?_) (fun c => absurd (by decide) c)
            refine lv_iconst (v := 0) hx hb dX12_leads_235 (by decide) ?_
            refine lv_iload hx hb dX12_leads_236 (lv_at hl 9 rfl) ?_
            refine tk_Vv hC hK hw hT hA hE hSR kM_at0 (by decide) rfl (k_X12_could_1 l adK adV dC dI cy ad B (by omega) (by omega) qr s1   x292 (show 0 ≤ x292.toInt by omega) (show x292.toInt ≤ 120 by omega) r294 (show 0 ≤ r294.toInt by omega) (show r294.toInt ≤ 9 by omega) v145_7 w296 H.size hT ) (cwV 4 hC.2.2.2.2 gX12_leads_X12_could rfl rfl rfl (by decide +kernel) ⟨Nat.le_of_ble_eq_true rfl, Nat.le_of_ble_eq_true rfl⟩) rfl hl.1 rfl (Nat.le_of_ble_eq_true rfl) dX12_leads_238 (fun w311 H locs hp310 hw => ?_)
            obtain ⟨hT, k312, hg313⟩ := hp310
            have hF := hF.tr k312 (by decide)
            have c314 := k312.gi kM_at12 rfl c304
            have c315 := k312.gi kM_at12 rfl c305
            have c316 := k312.gi kM_at12 (by decide) c306
            have c317 := k312.gi kM_at12 rfl c307
            have c318 := k312.gi kM_at12 rfl c308
            clear hg313
            exact J241 v145_7 v145_8 v145_9 r101 x292 f145_12__9_a1_toInt_217_toNat f145_12__9_a1_toInt_218_toNat x111 H locs ls w311 (show 0 ≤ a1.toInt by omega) (show a1.toInt ≤ 3 by omega) (show 0 ≤ a2.toInt by omega) (show a2.toInt ≤ 1073741824 by omega) (show 0 ≤ a3.toInt by omega) (show a3.toInt ≤ 120 by omega) (show 0 ≤ a4.toInt by omega) (show a4.toInt ≤ 9 by omega) (show 0 ≤ a6.toInt by omega) (show a6.toInt ≤ 120 by omega) (show 0 ≤ v145_8.toInt by omega) (show v145_8.toInt ≤ 1073741944 by omega) (show 0 ≤ v145_9.toInt by omega) (show v145_9.toInt ≤ 1 by omega) (show 0 ≤ r101.toInt by omega) (show r101.toInt ≤ 11 by omega) (show 0 ≤ x292.toInt by omega) (show x292.toInt ≤ 129 by omega) (show 0 ≤ f145_12__9_a1_toInt_217_toNat.toInt by omega) (show f145_12__9_a1_toInt_217_toNat.toInt ≤ 9 by omega) (show 0 ≤ f145_12__9_a1_toInt_218_toNat.toInt by omega) (show f145_12__9_a1_toInt_218_toNat.toInt ≤ 3 by omega) (show 1 ≤ x111.toInt by omega) (show x111.toInt ≤ 12 by omega)  hw hT hF c314 c315 c316 (lv_sub hl [2, 3, 4, 5, 6, 7, 8, 9, 10, 11, 1, 0] rfl)
          · refine lv_iload hx hb dX12_leads_211 (lv_at hl 7 rfl) ?_
            refine lv_if_eq (tgt := 235) hx hb dX12_leads_213 (by decide) (fun _ => ?_) (fun c => absurd (by decide) c)
            refine lv_iconst (v := 0) hx hb dX12_leads_235 (by decide) ?_
            refine lv_iload hx hb dX12_leads_236 (lv_at hl 9 rfl) ?_
            refine tk_Vv hC hK hw hT hA hE hSR kM_at0 (by decide) rfl (k_X12_could_1 l adK adV dC dI cy ad B (by omega) (by omega) qr s1   x292 (show 0 ≤ x292.toInt by omega) (show x292.toInt ≤ 120 by omega) r294 (show 0 ≤ r294.toInt by omega) (show r294.toInt ≤ 9 by omega) v145_7 w296 H.size hT ) (cwV 4 hC.2.2.2.2 gX12_leads_X12_could rfl rfl rfl (by decide +kernel) ⟨Nat.le_of_ble_eq_true rfl, Nat.le_of_ble_eq_true rfl⟩) rfl hl.1 rfl (Nat.le_of_ble_eq_true rfl) dX12_leads_238 (fun w321 H locs hp320 hw => ?_)
            obtain ⟨hT, k322, hg323⟩ := hp320
            have hF := hF.tr k322 (by decide)
            have c324 := k322.gi kM_at12 rfl c304
            have c325 := k322.gi kM_at12 rfl c305
            have c326 := k322.gi kM_at12 (by decide) c306
            have c327 := k322.gi kM_at12 rfl c307
            have c328 := k322.gi kM_at12 rfl c308
            clear hg323
            exact J241 v145_7 v145_8 v145_9 r101 x292 f145_12__9_a1_toInt_217_toNat f145_12__9_a1_toInt_218_toNat x111 H locs ls w321 (show 0 ≤ a1.toInt by omega) (show a1.toInt ≤ 3 by omega) (show 0 ≤ a2.toInt by omega) (show a2.toInt ≤ 1073741824 by omega) (show 0 ≤ a3.toInt by omega) (show a3.toInt ≤ 120 by omega) (show 0 ≤ a4.toInt by omega) (show a4.toInt ≤ 9 by omega) (show 0 ≤ a6.toInt by omega) (show a6.toInt ≤ 120 by omega) (show 0 ≤ v145_8.toInt by omega) (show v145_8.toInt ≤ 1073741944 by omega) (show 0 ≤ v145_9.toInt by omega) (show v145_9.toInt ≤ 1 by omega) (show 0 ≤ r101.toInt by omega) (show r101.toInt ≤ 11 by omega) (show 0 ≤ x292.toInt by omega) (show x292.toInt ≤ 129 by omega) (show 0 ≤ f145_12__9_a1_toInt_217_toNat.toInt by omega) (show f145_12__9_a1_toInt_217_toNat.toInt ≤ 9 by omega) (show 0 ≤ f145_12__9_a1_toInt_218_toNat.toInt by omega) (show f145_12__9_a1_toInt_218_toNat.toInt ≤ 3 by omega) (show 1 ≤ x111.toInt by omega) (show x111.toInt ≤ 12 by omega)  hw hT hF c324 c325 c326 (lv_sub hl [2, 3, 4, 5, 6, 7, 8, 9, 10, 11, 1, 0] rfl)
    · refine lv_istore (lv' := [(10, .int (-1)), (0, .ref (ad 0)), (1, .int a1), (2, .int a2), (3, .int a3), (4, .int a4), (5, .int 0), (6, .int a6), (7, .int v145_7), (8, .int v145_8), (9, .int v145_9)]) hx hb dX12_leads_161 hl (by decide) rfl (fun ls hl => ?_)
      refine lv_iload hx hb dX12_leads_163 (lv_at hl 0 rfl) ?_
      refine lv_if_lt (tgt := 181) hx hb dX12_leads_165 (by decide) (fun _ => ?_) (fun c => absurd (by decide) c)
      exact J181 v145_7 v145_8 v145_9 (-1) f145_12__9_a1_toInt_217_toNat f145_12__9_a1_toInt_218_toNat H locs ls w103 (show 0 ≤ a1.toInt by omega) (show a1.toInt ≤ 3 by omega) (show 0 ≤ a2.toInt by omega) (show a2.toInt ≤ 1073741824 by omega) (show 0 ≤ a3.toInt by omega) (show a3.toInt ≤ 120 by omega) (show 0 ≤ a4.toInt by omega) (show a4.toInt ≤ 9 by omega) (show 0 ≤ a6.toInt by omega) (show a6.toInt ≤ 120 by omega) (show 0 ≤ v145_8.toInt by omega) (show v145_8.toInt ≤ 1073741944 by omega) (show 0 ≤ v145_9.toInt by omega) (show v145_9.toInt ≤ 1 by omega) (by decide) (by decide) (show 0 ≤ f145_12__9_a1_toInt_217_toNat.toInt by omega) (show f145_12__9_a1_toInt_217_toNat.toInt ≤ 9 by omega) (show 0 ≤ f145_12__9_a1_toInt_218_toNat.toInt by omega) (show f145_12__9_a1_toInt_218_toNat.toInt ≤ 3 by omega)  hw hT hF c115 c116 (lv_sub hl [1, 2, 3, 4, 5, 6, 7, 8, 9, 10, 0] rfl)
  have J115 : ∀ (v115_7 : Int32) (v115_8 : Int32) (v115_9 : Int32) (f115_12__9_a1_toInt_217_toNat : Int32) (H : Heap) (locs : List Loc) (ls : Array Slot) (w329 : va_W), 0 ≤ a1.toInt → a1.toInt ≤ 3 → 0 ≤ a2.toInt → a2.toInt ≤ 1073741824 → 0 ≤ a3.toInt → a3.toInt ≤ 120 → 0 ≤ a4.toInt → a4.toInt ≤ 9 → 0 ≤ a6.toInt → a6.toInt ≤ 120 → 0 ≤ v115_8.toInt → v115_8.toInt ≤ 1073741944 → 0 ≤ v115_9.toInt → v115_9.toInt ≤ 1 → 0 ≤ f115_12__9_a1_toInt_217_toNat.toInt → f115_12__9_a1_toInt_217_toNat.toInt ≤ 9 → Wd dC dI A s.heap H locs w329 → TW ksM ad cy B qr 12 w329 → FE ksM [(72, 0, 12), (73, 0, 10), (76, 0, 2600)] w0 w329 → gi w329 12 (9 * a1.toInt + 217).toNat = f115_12__9_a1_toInt_217_toNat → lv_has ls 12 [(0, .ref (ad 0)), (1, .int a1), (2, .int a2), (3, .int a3), (4, .int a4), (5, .int 0), (6, .int a6), (7, .int v115_7), (8, .int v115_8), (9, .int v115_9)] → W p l e ({ frames := 5, cells := 0, slots := 0, locals := 103 }) s m (List.toArray [.ref (ad 0), .int a1, .int a2, .int a3, .int a4, .int 0, .int a6]) below meth c H locs 0 0 (MQ below (va_Qv (P_X12_leads_1 ad cy B qr s1 a1 a2 a3 a4 a6 w0) (fun u : va_W => wpost dC dI cy A u) A) (List.toArray [.ref (ad 0), .int a1, .int a2, .int a3, .int a4, .int 0, .int a6]) s 0 0 A) (F0 m 115 ls []) := by
    intro v115_7 v115_8 v115_9 f115_12__9_a1_toInt_217_toNat H locs ls w329 r330 t331 r332 t333 r334 t335 r336 t337 r338 t339 r340 t341 r342 t343 r344 t345 hw hT hF c346 hl
    refine lv_iload hx hb dX12_leads_115 (lv_at hl 5 rfl) ?_
    refine lv_if_eq (tgt := 135) hx hb dX12_leads_117 (by decide) (fun _ => ?_) (fun c => absurd (by decide) c)
    refine lv_aload_n hx hb dX12_leads_135 rfl (lv_at hl 0 rfl) ?_
    refine lv_aload_n hx hb dX12_leads_136 rfl (lv_at hl 0 rfl) ?_
    refine lv_iload_n hx hb dX12_leads_137 rfl (lv_at hl 1 rfl) ?_
    refine lv_iconst (v := 2) hx hb dX12_leads_138 (by decide) ?_
    refine tk_Vi hC hK hw hT hA hE hSR kM_at0 (by decide) rfl (k_X12_walkerOf_4 l adK adV dC dI cy ad B (by omega) (by omega) qr s1   a1 (show 0 ≤ a1.toInt by omega) (show a1.toInt ≤ 3 by omega) w329 H.size hT ) (cwV 2 hC.2.2.2.2 gX12_leads_X12_walkerOf rfl rfl rfl (by decide +kernel) ⟨Nat.le_of_ble_eq_true rfl, Nat.le_of_ble_eq_true rfl⟩) rfl hl.1 rfl (Nat.le_of_ble_eq_true rfl) dX12_leads_139 (fun r347 w349 H locs hp348 hw => ?_)
    obtain ⟨hT, k350, hg354⟩ := hp348
    have hF := hF.tr k350 (by decide)
    have c355 := k350.gi kM_at12 rfl c346
    obtain ⟨g351, g352, c353⟩ := hg354
    refine tk_Vv hC hK hw hT hA hE hSR kM_at0 (by decide) rfl (k_X12_takesMap_1 l adK adV dC dI cy ad B (by omega) (by omega) qr s1   r347 (show 0 ≤ r347.toInt by omega) (show r347.toInt ≤ 3 by omega) w349 H.size hT ) (cwV 1 hC.2.2.2.2 gX12_leads_X12_takesMap rfl rfl rfl (by decide +kernel) ⟨Nat.le_of_ble_eq_true rfl, Nat.le_of_ble_eq_true rfl⟩) rfl hl.1 rfl (Nat.le_of_ble_eq_true rfl) dX12_leads_142 (fun w358 H locs hp357 hw => ?_)
    obtain ⟨hT, k359, hg360⟩ := hp357
    have hF := hF.tr k359 (by decide)
    have c361 := k359.gi kM_at12 rfl c355
    have c362 := k359.gi kM_at12 rfl c353
    clear hg360
    exact J145 v115_7 v115_8 v115_9 f115_12__9_a1_toInt_217_toNat r347 H locs ls w358 (show 0 ≤ a1.toInt by omega) (show a1.toInt ≤ 3 by omega) (show 0 ≤ a2.toInt by omega) (show a2.toInt ≤ 1073741824 by omega) (show 0 ≤ a3.toInt by omega) (show a3.toInt ≤ 120 by omega) (show 0 ≤ a4.toInt by omega) (show a4.toInt ≤ 9 by omega) (show 0 ≤ a6.toInt by omega) (show a6.toInt ≤ 120 by omega) (show 0 ≤ v115_8.toInt by omega) (show v115_8.toInt ≤ 1073741944 by omega) (show 0 ≤ v115_9.toInt by omega) (show v115_9.toInt ≤ 1 by omega) (show 0 ≤ f115_12__9_a1_toInt_217_toNat.toInt by omega) (show f115_12__9_a1_toInt_217_toNat.toInt ≤ 9 by omega) (show 0 ≤ r347.toInt by omega) (show r347.toInt ≤ 3 by omega)  hw hT hF c361 c362 (lv_sub hl [0, 1, 2, 3, 4, 5, 6, 7, 8, 9] rfl)
  refine lv_aload_n hx hb dX12_leads_0 rfl (lv_at hl 0 rfl) ?_
  refine tk_getA hC hK hw hT hinX12 kM_at0 (by decide) rfl 34 (by decide) (List.mem_of_getElem? (i := 1) rfl) rfl rfl dX12_leads_1 ?_
  refine lv_aload_n hx hb dX12_leads_4 rfl (lv_at hl 0 rfl) ?_
  refine lv_iload_n hx hb dX12_leads_5 rfl (lv_at hl 3 rfl) ?_
  refine lv_iload hx hb dX12_leads_6 (lv_at hl 4 rfl) ?_
  refine lv_iload hx hb dX12_leads_8 (lv_at hl 5 rfl) ?_
  refine tk_Vi hC hK hw hT hA hE hSR kM_at0 (by decide) rfl (k_X12_placeAt_1 l adK adV dC dI cy ad B (by omega) (by omega) qr s1   a3 (show 0 ≤ a3.toInt by omega) (show a3.toInt ≤ 120 by omega) a4 (show 0 ≤ a4.toInt by omega) (show a4.toInt ≤ 9 by omega) w0 s.heap.size hT ) (cwV 3 hC.2.2.2.2 gX12_leads_X12_placeAt rfl rfl rfl (by decide +kernel) ⟨Nat.le_of_ble_eq_true rfl, Nat.le_of_ble_eq_true rfl⟩) rfl hl.1 rfl (Nat.le_of_ble_eq_true rfl) dX12_leads_10 (fun r363 w365 H locs hp364 hw => ?_)
  obtain ⟨hT, k366, hg369⟩ := hp364
  have hF := hF.tr k366 (by decide)
  obtain ⟨g367, g368⟩ := hg369
  refine tk_iald hC hK hw hT kM_at17 rfl rfl (show 0 ≤ r363.toInt by omega) (show r363.toInt < 2600 by omega) dX12_leads_13 (fun x370 c371 rx370 tx370 => ?_)
  refine lv_istore (lv' := [(7, .int x370), (0, .ref (ad 0)), (1, .int a1), (2, .int a2), (3, .int a3), (4, .int a4), (5, .int 0), (6, .int a6)]) hx hb dX12_leads_14 hl (by decide) rfl (fun ls hl => ?_)
  refine lv_iload hx hb dX12_leads_16 (lv_at hl 0 rfl) ?_
  refine lv_ldcw (v := 100000000) hx hb hC.2.2.2.1 (hC.2.2.2.2 _ (List.mem_of_getElem? (i := 2) rfl)) dX12_leads_18 ?_
  refine lv_icmp_eq (tgt := 41) hx hb dX12_leads_21 (by decide) (fun c372 => ?_) (fun c372 => ?_)
  · have c372 : x370.toInt = (100000000 : Int) := wk_eq.mp c372
    exact J41 x370 H locs ls w365 (show 0 ≤ a1.toInt by omega) (show a1.toInt ≤ 3 by omega) (show 0 ≤ a2.toInt by omega) (show a2.toInt ≤ 1073741824 by omega) (show 0 ≤ a3.toInt by omega) (show a3.toInt ≤ 120 by omega) (show 0 ≤ a4.toInt by omega) (show a4.toInt ≤ 9 by omega) (show 0 ≤ a6.toInt by omega) (show a6.toInt ≤ 120 by omega)  hw hT hF  (lv_sub hl [1, 2, 3, 4, 5, 6, 7, 0] rfl)
  · have c372 : ¬ x370.toInt = (100000000 : Int) := wk_eqF c372
    refine lv_iload_n hx hb dX12_leads_24 rfl (lv_at hl 4 rfl) ?_
    refine lv_iload hx hb dX12_leads_25 (lv_at hl 7 rfl) ?_
    refine lv_icmp_eq (tgt := 41) hx hb dX12_leads_27 (by decide) (fun c373 => ?_) (fun c373 => ?_)
    · have c373 : a3.toInt = a6.toInt := wk_eq.mp c373
      exact J41 x370 H locs ls w365 (show 0 ≤ a1.toInt by omega) (show a1.toInt ≤ 3 by omega) (show 0 ≤ a2.toInt by omega) (show a2.toInt ≤ 1073741824 by omega) (show 0 ≤ a3.toInt by omega) (show a3.toInt ≤ 120 by omega) (show 0 ≤ a4.toInt by omega) (show a4.toInt ≤ 9 by omega) (show 0 ≤ a6.toInt by omega) (show a6.toInt ≤ 120 by omega)  hw hT hF  (lv_sub hl [1, 2, 3, 4, 5, 6, 7, 0] rfl)
    · have c373 : ¬ a3.toInt = a6.toInt := wk_eqF c373
      refine lv_iload hx hb dX12_leads_30 (lv_at hl 5 rfl) ?_
      refine lv_aload_n hx hb dX12_leads_32 rfl (lv_at hl 1 rfl) ?_
      refine lv_iload_n hx hb dX12_leads_33 rfl (lv_at hl 2 rfl) ?_
      refine lv_iconst (v := 1) hx hb dX12_leads_34 (by decide) ?_
      refine tk_Vi hC hK hw hT hA hE hSR kM_at0 (by decide) rfl (k_X12_walkerOf_3 l adK adV dC dI cy ad B (by omega) (by omega) qr s1   a1 (show 0 ≤ a1.toInt by omega) (show a1.toInt ≤ 3 by omega) w365 H.size hT ) (cwV 2 hC.2.2.2.2 gX12_leads_X12_walkerOf rfl rfl rfl (by decide +kernel) ⟨Nat.le_of_ble_eq_true rfl, Nat.le_of_ble_eq_true rfl⟩) rfl hl.1 rfl (Nat.le_of_ble_eq_true rfl) dX12_leads_35 (fun r374 w376 H locs hp375 hw => ?_)
      obtain ⟨hT, k377, hg381⟩ := hp375
      have hF := hF.tr k377 (by decide)
      obtain ⟨g378, g379, c380⟩ := hg381
      refine lv_icmp_ne (tgt := 42) hx hb dX12_leads_38 (by decide) (fun c382 => ?_) (fun c382 => ?_)
      · have c382 : ¬ a4.toInt = r374.toInt := wk_eqF c382
        refine lv_iload_n hx hb dX12_leads_42 rfl (lv_at hl 3 rfl) ?_
        refine lv_iload_n hx hb dX12_leads_43 rfl (lv_at hl 4 rfl) ?_
        refine lv_iadd hx hb dX12_leads_44 ?_
        refine lv_topi (fun x383 ex383 => ?_)
        have ex383 : x383.toInt = a2.toInt + a3.toInt := by rw [ex383]; exact wk_add (show (-2147483648) ≤ a2.toInt + a3.toInt by omega) (show a2.toInt + a3.toInt ≤ 2147483647 by omega)
        refine lv_istore (lv' := [(8, .int x383), (7, .int x370), (0, .ref (ad 0)), (1, .int a1), (2, .int a2), (3, .int a3), (4, .int a4), (5, .int 0), (6, .int a6)]) hx hb dX12_leads_45 hl (by decide) rfl (fun ls hl => ?_)
        refine lv_iload hx hb dX12_leads_47 (lv_at hl 0 rfl) ?_
        refine lv_iconst (v := 1) hx hb dX12_leads_49 (by decide) ?_
        refine lv_iadd hx hb dX12_leads_50 ?_
        refine lv_topi (fun x384 ex384 => ?_)
        have ex384 : x384.toInt = x383.toInt + (1 : Int) := by rw [ex384]; exact wk_add (show (-2147483648) ≤ x383.toInt + (1 : Int) by omega) (show x383.toInt + (1 : Int) ≤ 2147483647 by omega)
        refine lv_bipush (v := 24) hx hb dX12_leads_51 (by decide) ?_
        refine lv_idiv hx hb dX12_leads_53 (by decide) ?_
        refine lv_topi (fun x385 ex385 => ?_)
        have ex385 : x385.toInt = x384.toInt / (24 : Int) := by rw [ex385]; exact wk_div (show 0 ≤ x384.toInt by omega) (show 0 < (24 : Int) by decide)
        refine lv_iload hx hb dX12_leads_54 (lv_at hl 0 rfl) ?_
        refine lv_bipush (v := 24) hx hb dX12_leads_56 (by decide) ?_
        refine lv_idiv hx hb dX12_leads_58 (by decide) ?_
        refine lv_topi (fun x386 ex386 => ?_)
        have ex386 : x386.toInt = x383.toInt / (24 : Int) := by rw [ex386]; exact wk_div (show 0 ≤ x383.toInt by omega) (show 0 < (24 : Int) by decide)
        refine lv_icmp_ne (tgt := 66) hx hb dX12_leads_59 (by decide) (fun c387 => ?_) (fun c387 => ?_)
        · have c387 : ¬ x385.toInt = x386.toInt := wk_eqF c387
          refine lv_iconst (v := 0) hx hb dX12_leads_66 (by decide) ?_
          refine lv_istore (lv' := [(9, .int 0), (8, .int x383), (7, .int x370), (0, .ref (ad 0)), (1, .int a1), (2, .int a2), (3, .int a3), (4, .int a4), (5, .int 0), (6, .int a6)]) hx hb dX12_leads_67 hl (by decide) rfl (fun ls hl => ?_)
          refine lv_aload_n hx hb dX12_leads_69 rfl (lv_at hl 3 rfl) ?_
          refine lv_iload_n hx hb dX12_leads_70 rfl (lv_at hl 6 rfl) ?_
          refine lv_iconst (v := 1) hx hb dX12_leads_71 (by decide) ?_
          refine lv_iadd hx hb dX12_leads_72 ?_
          refine lv_topi (fun x388 ex388 => ?_)
          have ex388 : x388.toInt = a3.toInt + (1 : Int) := by rw [ex388]; exact wk_add (show (-2147483648) ≤ a3.toInt + (1 : Int) by omega) (show a3.toInt + (1 : Int) ≤ 2147483647 by omega)
          refine lv_iload hx hb dX12_leads_73 (lv_at hl 7 rfl) ?_
          refine lv_iload hx hb dX12_leads_75 (lv_at hl 8 rfl) ?_
          refine lv_if_eq (tgt := 89) hx hb dX12_leads_77 (by decide) (fun _ => ?_) (fun c => absurd (by decide) c)
          refine lv_iconst (v := 0) hx hb dX12_leads_89 (by decide) ?_
          refine lv_iload hx hb dX12_leads_90 (lv_at hl 2 rfl) ?_
          refine tk_Vv hC hK hw hT hA hE hSR kM_at0 (by decide) rfl (k_X12_could_2 l adK adV dC dI cy ad B (by omega) (by omega) qr s1   x388 (show 1 ≤ x388.toInt by omega) (show x388.toInt ≤ 121 by omega) a4 (show 0 ≤ a4.toInt by omega) (show a4.toInt ≤ 9 by omega) x370 w376 H.size hT ) (cwV 4 hC.2.2.2.2 gX12_leads_X12_could rfl rfl rfl (by decide +kernel) ⟨Nat.le_of_ble_eq_true rfl, Nat.le_of_ble_eq_true rfl⟩) rfl hl.1 rfl (Nat.le_of_ble_eq_true rfl) dX12_leads_92 (fun w391 H locs hp390 hw => ?_)
          obtain ⟨hT, k392, hg393⟩ := hp390
          have hF := hF.tr k392 (by decide)
          have c394 := k392.gi kM_at12 rfl c380
          clear hg393
          refine lv_iload hx hb dX12_leads_95 (lv_at hl 8 rfl) ?_
          refine lv_if_ne (tgt := 115) hx hb dX12_leads_97 (by decide) (fun c => absurd (by decide) c) (fun _ => ?_)
          refine lv_aload_n hx hb dX12_leads_100 rfl (lv_at hl 3 rfl) ?_
          refine lv_iload_n hx hb dX12_leads_101 rfl (lv_at hl 6 rfl) ?_
          refine lv_iconst (v := 1) hx hb dX12_leads_102 (by decide) ?_
          refine lv_iadd hx hb dX12_leads_103 ?_
          refine lv_topi (fun x395 ex395 => ?_)
          have ex395 : x395.toInt = a3.toInt + (1 : Int) := by rw [ex395]; exact wk_add (show (-2147483648) ≤ a3.toInt + (1 : Int) by omega) (show a3.toInt + (1 : Int) ≤ 2147483647 by omega)
          refine lv_iload hx hb dX12_leads_104 (lv_at hl 7 rfl) ?_
          refine lv_iload hx hb dX12_leads_106 (lv_at hl 0 rfl) ?_
          refine lv_iload hx hb dX12_leads_108 (lv_at hl 2 rfl) ?_
          refine lv_iconst (v := 1) hx hb dX12_leads_110 (by decide) ?_
          refine lv_iadd hx hb dX12_leads_111 ?_
          have nx396 := wk_i32 x370
          refine lv_topi (fun x397 ex397 => ?_)
          refine tk_Vv hC hK hw hT hA hE hSR kM_at0 (by decide) rfl (k_X12_could_2 l adK adV dC dI cy ad B (by omega) (by omega) qr s1   x395 (show 1 ≤ x395.toInt by omega) (show x395.toInt ≤ 121 by omega) a4 (show 0 ≤ a4.toInt by omega) (show a4.toInt ≤ 9 by omega) x397 w391 H.size hT ) (cwV 4 hC.2.2.2.2 gX12_leads_X12_could rfl rfl rfl (by decide +kernel) ⟨Nat.le_of_ble_eq_true rfl, Nat.le_of_ble_eq_true rfl⟩) rfl hl.1 rfl (Nat.le_of_ble_eq_true rfl) dX12_leads_112 (fun w400 H locs hp399 hw => ?_)
          obtain ⟨hT, k401, hg402⟩ := hp399
          have hF := hF.tr k401 (by decide)
          have c403 := k401.gi kM_at12 rfl c394
          clear hg402
          exact J115 x370 x383 0 r374 H locs ls w400 (show 0 ≤ a1.toInt by omega) (show a1.toInt ≤ 3 by omega) (show 0 ≤ a2.toInt by omega) (show a2.toInt ≤ 1073741824 by omega) (show 0 ≤ a3.toInt by omega) (show a3.toInt ≤ 120 by omega) (show 0 ≤ a4.toInt by omega) (show a4.toInt ≤ 9 by omega) (show 0 ≤ a6.toInt by omega) (show a6.toInt ≤ 120 by omega) (show 0 ≤ x383.toInt by omega) (show x383.toInt ≤ 1073741944 by omega) (by decide) (by decide) (show 0 ≤ r374.toInt by omega) (show r374.toInt ≤ 9 by omega)  hw hT hF c403 (lv_sub hl [3, 4, 5, 6, 7, 8, 9, 2, 1, 0] rfl)
        · have c387 : x385.toInt = x386.toInt := wk_eq.mp c387
          refine lv_iconst (v := 1) hx hb dX12_leads_62 (by decide) ?_
          refine lv_goto (tgt := 67) hx hb dX12_leads_63 (by decide) ?_
          refine lv_istore (lv' := [(9, .int 1), (8, .int x383), (7, .int x370), (0, .ref (ad 0)), (1, .int a1), (2, .int a2), (3, .int a3), (4, .int a4), (5, .int 0), (6, .int a6)]) hx hb dX12_leads_67 hl (by decide) rfl (fun ls hl => ?_)
          refine lv_aload_n hx hb dX12_leads_69 rfl (lv_at hl 3 rfl) ?_
          refine lv_iload_n hx hb dX12_leads_70 rfl (lv_at hl 6 rfl) ?_
          refine lv_iconst (v := 1) hx hb dX12_leads_71 (by decide) ?_
          refine lv_iadd hx hb dX12_leads_72 ?_
          refine lv_topi (fun x404 ex404 => ?_)
          have ex404 : x404.toInt = a3.toInt + (1 : Int) := by rw [ex404]; exact wk_add (show (-2147483648) ≤ a3.toInt + (1 : Int) by omega) (show a3.toInt + (1 : Int) ≤ 2147483647 by omega)
          refine lv_iload hx hb dX12_leads_73 (lv_at hl 7 rfl) ?_
          refine lv_iload hx hb dX12_leads_75 (lv_at hl 8 rfl) ?_
          refine lv_if_eq (tgt := 89) hx hb dX12_leads_77 (by decide) (fun _ => ?_) (fun c => absurd (by decide) c)
          refine lv_iconst (v := 0) hx hb dX12_leads_89 (by decide) ?_
          refine lv_iload hx hb dX12_leads_90 (lv_at hl 2 rfl) ?_
          refine tk_Vv hC hK hw hT hA hE hSR kM_at0 (by decide) rfl (k_X12_could_2 l adK adV dC dI cy ad B (by omega) (by omega) qr s1   x404 (show 1 ≤ x404.toInt by omega) (show x404.toInt ≤ 121 by omega) a4 (show 0 ≤ a4.toInt by omega) (show a4.toInt ≤ 9 by omega) x370 w376 H.size hT ) (cwV 4 hC.2.2.2.2 gX12_leads_X12_could rfl rfl rfl (by decide +kernel) ⟨Nat.le_of_ble_eq_true rfl, Nat.le_of_ble_eq_true rfl⟩) rfl hl.1 rfl (Nat.le_of_ble_eq_true rfl) dX12_leads_92 (fun w407 H locs hp406 hw => ?_)
          obtain ⟨hT, k408, hg409⟩ := hp406
          have hF := hF.tr k408 (by decide)
          have c410 := k408.gi kM_at12 rfl c380
          clear hg409
          refine lv_iload hx hb dX12_leads_95 (lv_at hl 8 rfl) ?_
          refine lv_if_ne (tgt := 115) hx hb dX12_leads_97 (by decide) (fun c => absurd (by decide) c) (fun _ => ?_)
          refine lv_aload_n hx hb dX12_leads_100 rfl (lv_at hl 3 rfl) ?_
          refine lv_iload_n hx hb dX12_leads_101 rfl (lv_at hl 6 rfl) ?_
          refine lv_iconst (v := 1) hx hb dX12_leads_102 (by decide) ?_
          refine lv_iadd hx hb dX12_leads_103 ?_
          refine lv_topi (fun x411 ex411 => ?_)
          have ex411 : x411.toInt = a3.toInt + (1 : Int) := by rw [ex411]; exact wk_add (show (-2147483648) ≤ a3.toInt + (1 : Int) by omega) (show a3.toInt + (1 : Int) ≤ 2147483647 by omega)
          refine lv_iload hx hb dX12_leads_104 (lv_at hl 7 rfl) ?_
          refine lv_iload hx hb dX12_leads_106 (lv_at hl 0 rfl) ?_
          refine lv_iload hx hb dX12_leads_108 (lv_at hl 2 rfl) ?_
          refine lv_iconst (v := 1) hx hb dX12_leads_110 (by decide) ?_
          refine lv_iadd hx hb dX12_leads_111 ?_
          have nx412 := wk_i32 x370
          refine lv_topi (fun x413 ex413 => ?_)
          refine tk_Vv hC hK hw hT hA hE hSR kM_at0 (by decide) rfl (k_X12_could_3 l adK adV dC dI cy ad B (by omega) (by omega) qr s1   x411 (show 1 ≤ x411.toInt by omega) (show x411.toInt ≤ 121 by omega) a4 (show 0 ≤ a4.toInt by omega) (show a4.toInt ≤ 9 by omega) x413 w407 H.size hT ) (cwV 4 hC.2.2.2.2 gX12_leads_X12_could rfl rfl rfl (by decide +kernel) ⟨Nat.le_of_ble_eq_true rfl, Nat.le_of_ble_eq_true rfl⟩) rfl hl.1 rfl (Nat.le_of_ble_eq_true rfl) dX12_leads_112 (fun w416 H locs hp415 hw => ?_)
          obtain ⟨hT, k417, hg418⟩ := hp415
          have hF := hF.tr k417 (by decide)
          have c419 := k417.gi kM_at12 rfl c410
          clear hg418
          exact J115 x370 x383 1 r374 H locs ls w416 (show 0 ≤ a1.toInt by omega) (show a1.toInt ≤ 3 by omega) (show 0 ≤ a2.toInt by omega) (show a2.toInt ≤ 1073741824 by omega) (show 0 ≤ a3.toInt by omega) (show a3.toInt ≤ 120 by omega) (show 0 ≤ a4.toInt by omega) (show a4.toInt ≤ 9 by omega) (show 0 ≤ a6.toInt by omega) (show a6.toInt ≤ 120 by omega) (show 0 ≤ x383.toInt by omega) (show x383.toInt ≤ 1073741944 by omega) (by decide) (by decide) (show 0 ≤ r374.toInt by omega) (show r374.toInt ≤ 9 by omega)  hw hT hF c419 (lv_sub hl [3, 4, 5, 6, 7, 8, 9, 2, 1, 0] rfl)
      · have c382 : a4.toInt = r374.toInt := wk_eq.mp c382
        exact J41 x370 H locs ls w376 (show 0 ≤ a1.toInt by omega) (show a1.toInt ≤ 3 by omega) (show 0 ≤ a2.toInt by omega) (show a2.toInt ≤ 1073741824 by omega) (show 0 ≤ a3.toInt by omega) (show a3.toInt ≤ 120 by omega) (show 0 ≤ a4.toInt by omega) (show a4.toInt ≤ 9 by omega) (show 0 ≤ a6.toInt by omega) (show a6.toInt ≤ 120 by omega)  hw hT hF  (lv_sub hl [1, 2, 3, 4, 5, 6, 7, 0] rfl)
abbrev P_X12_placeAt_4 (ad : Nat → Nat) (cy : Nat → ClassId) (B : Int) (qr : Nat) (s1 : Int) (a1 : Int32) (a2 : Int32) (w0 : va_W) : Int32 → va_W → Prop := fun r u => TW ksM ad cy B qr 12 u ∧ FE ksM ([] : List (Nat × Nat × Nat)) w0 u ∧ ((1 ≤ r.toInt ∧ r.toInt ≤ 2419))
set_option maxHeartbeats 4000000 in
set_option maxRecDepth 100000 in
theorem k_X12_placeAt_4 (l : Launch) (adK adV : Nat → Nat) (dC : Nat → ClassId) (dI : Nat → Nat → Nat) (cy : Nat → ClassId) (ad : Nat → Nat) (B : Int) (hB0 : 100000 ≤ B) (hB1 : B ≤ 1073741824) (qr : Nat) (s1 : Int)  (a1 : Int32) (ra1 : 0 ≤ a1.toInt) (ta1 : a1.toInt ≤ 120) (a2 : Int32) (ra2 : 0 ≤ a2.toInt) (ta2 : a2.toInt ≤ 9) (w0 : va_W) (sz : Nat) (hT : TW ksM ad cy B qr 12 w0)  : Met l yX12_placeAt wsX12_placeAt ({ frames := 1, cells := 0, slots := 0, locals := 12 }) (va_Pc [.ref (ad 0), .int a1, .int a2, .int 1] (wpreS adK adV dC dI cy sz w0)) (va_Qi (P_X12_placeAt_4 ad cy B qr s1 a1 a2 w0) (fun u : va_W => wpost dC dI cy (va_A w0 sz) u) (va_A w0 sz)) 0 0 (va_A w0 sz) := by
  refine Met.ofW (cc := cX12_placeAt) (maxL := 4) (ret := (some .int)) (by decide) rfl ?_
  intro p e s m args below meth c s₁ Bk hml hv
  obtain ⟨rfl, ⟨hsz, hP, hK, hD0⟩, hE, hSR⟩ := hv
  have hx := Bk.exec
  have hb := Bk.bytes
  have hr := Bk.returns
  have hlocks := Bk.notSynchronized
  have hC : CallFix p m c cX12_placeAt 4 s _ wsX12_placeAt RX12 := ⟨hx, hb, hml, findClass_of_methodNamed Bk.named, atoms_spec (ws := wsX12_placeAt) Bk.pre⟩
  subst hsz
  have hD := hD0.self (sz := s.heap.size)
  generalize hAe : va_A w0 s.heap.size = A at hD hE ⊢
  have hA : ∀ q : Nat, s.heap.size ≤ q → A q := fun q h => by rw [← hAe]; exact Or.inr h
  have hw : Wd dC dI A s.heap s.heap [] w0 := ⟨hP, hD, va_S.rf⟩
  have hF : FE ksM ([] : List (Nat × Nat × Nat)) w0 w0 := FE.rf
  have hl := lv_entry ([.ref (ad 0), .int a1, .int a2, .int 1]) (n := 4) (Nat.le_of_ble_eq_true rfl)
  rw [lg_entry_eq]
  generalize (lg_sl ([.ref (ad 0), .int a1, .int a2, .int 1]) ++ List.replicate (4 - (lg_sl ([.ref (ad 0), .int a1, .int a2, .int 1])).length) Slot.unset).toArray = ls at hl ⊢
  have hl : lv_has ls 4 [(0, .ref (ad 0)), (1, .int a1), (2, .int a2), (3, .int 1)] := hl
  generalize hloc : ([] : List Loc) = locs at hw ⊢
  refine lv_iload_n hx hb dX12_placeAt_0 rfl (lv_at hl 1 rfl) ?_
  refine lv_bipush (v := 10) hx hb dX12_placeAt_1 (by decide) ?_
  refine lv_imul hx hb dX12_placeAt_3 ?_
  refine lv_topi (fun x1 ex1 => ?_)
  have ex1 : x1.toInt = a1.toInt * (10 : Int) := by rw [ex1]; exact wk_mul (show (-2147483648) ≤ a1.toInt * (10 : Int) by omega) (show a1.toInt * (10 : Int) ≤ 2147483647 by omega)
  refine lv_iload_n hx hb dX12_placeAt_4 rfl (lv_at hl 2 rfl) ?_
  refine lv_iadd hx hb dX12_placeAt_5 ?_
  refine lv_topi (fun x2 ex2 => ?_)
  have ex2 : x2.toInt = x1.toInt + a2.toInt := by rw [ex2]; exact wk_add (show (-2147483648) ≤ x1.toInt + a2.toInt by omega) (show x1.toInt + a2.toInt ≤ 2147483647 by omega)
  refine lv_iconst (v := 2) hx hb dX12_placeAt_6 (by decide) ?_
  refine lv_imul hx hb dX12_placeAt_7 ?_
  refine lv_topi (fun x3 ex3 => ?_)
  have ex3 : x3.toInt = x2.toInt * (2 : Int) := by rw [ex3]; exact wk_mul (show (-2147483648) ≤ x2.toInt * (2 : Int) by omega) (show x2.toInt * (2 : Int) ≤ 2147483647 by omega)
  refine lv_iload_n hx hb dX12_placeAt_8 rfl (lv_at hl 3 rfl) ?_
  refine lv_if_eq (tgt := 16) hx hb dX12_placeAt_9 (by decide) (fun c => absurd c (by decide)) (fun _ => ?_)
  refine lv_iconst (v := 1) hx hb dX12_placeAt_12 (by decide) ?_
  refine lv_goto (tgt := 17) hx hb dX12_placeAt_13 (by decide) ?_
  refine lv_iadd hx hb dX12_placeAt_17 ?_
  refine lv_topi (fun x4 ex4 => ?_)
  have ex4 : x4.toInt = x3.toInt + (1 : Int) := by rw [ex4]; exact wk_add (show (-2147483648) ≤ x3.toInt + (1 : Int) by omega) (show x3.toInt + (1 : Int) ≤ 2147483647 by omega)
  exact tk_iret hC hr hlocks hK ⟨hT, hF, ⟨(show 1 ≤ x4.toInt by omega), (show x4.toInt ≤ 2419 by omega)⟩⟩ hw dX12_placeAt_18
abbrev P_X12_could_4 (ad : Nat → Nat) (cy : Nat → ClassId) (B : Int) (qr : Nat) (s1 : Int) (a1 : Int32) (a2 : Int32) (a4 : Int32) (w0 : va_W) : va_W → Prop := fun u => TW ksM ad cy B qr 12 u ∧ FE ksM [(76, 0, 2600)] w0 u ∧ ((True))
set_option maxHeartbeats 4000000 in
set_option maxRecDepth 100000 in
theorem k_X12_could_4 (l : Launch) (adK adV : Nat → Nat) (dC : Nat → ClassId) (dI : Nat → Nat → Nat) (cy : Nat → ClassId) (ad : Nat → Nat) (B : Int) (hB0 : 100000 ≤ B) (hB1 : B ≤ 1073741824) (qr : Nat) (s1 : Int)  (a1 : Int32) (ra1 : 0 ≤ a1.toInt) (ta1 : a1.toInt ≤ 120) (a2 : Int32) (ra2 : 0 ≤ a2.toInt) (ta2 : a2.toInt ≤ 9) (a4 : Int32) (w0 : va_W) (sz : Nat) (hT : TW ksM ad cy B qr 12 w0)  : Met l yX12_could wsX12_could ({ frames := 2, cells := 0, slots := 0, locals := 35 }) (va_Pc [.ref (ad 0), .int a1, .int a2, .int 1, .int a4] (wpreS adK adV dC dI cy sz w0)) (va_Qv (P_X12_could_4 ad cy B qr s1 a1 a2 a4 w0) (fun u : va_W => wpost dC dI cy (va_A w0 sz) u) (va_A w0 sz)) 0 0 (va_A w0 sz) := by
  refine Met.ofW (cc := cX12_could) (maxL := 6) (ret := none) (by decide) rfl ?_
  intro p e s m args below meth c s₁ Bk hml hv
  obtain ⟨rfl, ⟨hsz, hP, hK, hD0⟩, hE, hSR⟩ := hv
  have hx := Bk.exec
  have hb := Bk.bytes
  have hr := Bk.returns
  have hlocks := Bk.notSynchronized
  have hC : CallFix p m c cX12_could 6 s _ wsX12_could RX12 := ⟨hx, hb, hml, findClass_of_methodNamed Bk.named, atoms_spec (ws := wsX12_could) Bk.pre⟩
  subst hsz
  have hD := hD0.self (sz := s.heap.size)
  generalize hAe : va_A w0 s.heap.size = A at hD hE ⊢
  have hA : ∀ q : Nat, s.heap.size ≤ q → A q := fun q h => by rw [← hAe]; exact Or.inr h
  have hw : Wd dC dI A s.heap s.heap [] w0 := ⟨hP, hD, va_S.rf⟩
  have hF : FE ksM [(76, 0, 2600)] w0 w0 := FE.rf
  have hl := lv_entry ([.ref (ad 0), .int a1, .int a2, .int 1, .int a4]) (n := 6) (Nat.le_of_ble_eq_true rfl)
  rw [lg_entry_eq]
  generalize (lg_sl ([.ref (ad 0), .int a1, .int a2, .int 1, .int a4]) ++ List.replicate (6 - (lg_sl ([.ref (ad 0), .int a1, .int a2, .int 1, .int a4])).length) Slot.unset).toArray = ls at hl ⊢
  have hl : lv_has ls 6 [(0, .ref (ad 0)), (1, .int a1), (2, .int a2), (3, .int 1), (4, .int a4)] := hl
  generalize hloc : ([] : List Loc) = locs at hw ⊢
  have hinX12 : ∀ w ∈ u_ws RX12 TX12 42, w ∈ wsX12_could := fun _ h => List.mem_cons_of_mem _ (List.mem_append_right _ (h))
  have J30 : ∀ (v30_5 : Int32) (H : Heap) (locs : List Loc) (ls : Array Slot) (w1 : va_W), 0 ≤ a1.toInt → a1.toInt ≤ 120 → 0 ≤ a2.toInt → a2.toInt ≤ 9 → 1 ≤ v30_5.toInt → v30_5.toInt ≤ 2419 → Wd dC dI A s.heap H locs w1 → TW ksM ad cy B qr 12 w1 → FE ksM [(76, 0, 2600)] w0 w1 → lv_has ls 6 [(0, .ref (ad 0)), (1, .int a1), (2, .int a2), (3, .int 1), (4, .int a4), (5, .int v30_5)] → W p l e ({ frames := 2, cells := 0, slots := 0, locals := 35 }) s m (List.toArray [.ref (ad 0), .int a1, .int a2, .int 1, .int a4]) below meth c H locs 0 0 (MQ below (va_Qv (P_X12_could_4 ad cy B qr s1 a1 a2 a4 w0) (fun u : va_W => wpost dC dI cy A u) A) (List.toArray [.ref (ad 0), .int a1, .int a2, .int 1, .int a4]) s 0 0 A) (F0 m 30 ls []) := by
    intro v30_5 H locs ls w1 r2 t3 r4 t5 r6 t7 hw hT hF hl
    exact tk_vret hC hr hlocks hK ⟨hT, hF, trivial⟩ hw dX12_could_30
  refine lv_aload_n hx hb dX12_could_0 rfl (lv_at hl 0 rfl) ?_
  refine lv_iload_n hx hb dX12_could_1 rfl (lv_at hl 1 rfl) ?_
  refine lv_iload_n hx hb dX12_could_2 rfl (lv_at hl 2 rfl) ?_
  refine lv_iload_n hx hb dX12_could_3 rfl (lv_at hl 3 rfl) ?_
  refine tk_Vi hC hK hw hT hA hE hSR kM_at0 (by decide) rfl (k_X12_placeAt_4 l adK adV dC dI cy ad B (by omega) (by omega) qr s1   a1 (show 0 ≤ a1.toInt by omega) (show a1.toInt ≤ 120 by omega) a2 (show 0 ≤ a2.toInt by omega) (show a2.toInt ≤ 9 by omega) w0 s.heap.size hT ) (cwV 3 hC.2.2.2.2 gX12_could_X12_placeAt rfl rfl rfl (by decide +kernel) ⟨Nat.le_of_ble_eq_true rfl, Nat.le_of_ble_eq_true rfl⟩) rfl hl.1 rfl (Nat.le_of_ble_eq_true rfl) dX12_could_4 (fun r8 w10 H locs hp9 hw => ?_)
  obtain ⟨hT, k11, hg14⟩ := hp9
  have hF := hF.tr k11 (by decide)
  obtain ⟨g12, g13⟩ := hg14
  refine lv_istore (lv' := [(5, .int r8), (0, .ref (ad 0)), (1, .int a1), (2, .int a2), (3, .int 1), (4, .int a4)]) hx hb dX12_could_7 hl (by decide) rfl (fun ls hl => ?_)
  refine lv_iload hx hb dX12_could_9 (lv_at hl 5 rfl) ?_
  refine lv_aload_n hx hb dX12_could_11 rfl (lv_at hl 1 rfl) ?_
  refine tk_getA hC hK hw hT hinX12 kM_at0 (by decide) rfl 34 (by decide) (List.mem_of_getElem? (i := 1) rfl) rfl rfl dX12_could_12 ?_
  refine lv_iload hx hb dX12_could_15 (lv_at hl 0 rfl) ?_
  refine tk_iald hC hK hw hT kM_at17 rfl rfl (show 0 ≤ r8.toInt by omega) (show r8.toInt < 2600 by omega) dX12_could_17 (fun x15 c16 rx15 tx15 => ?_)
  refine lv_icmp_ge (tgt := 30) hx hb dX12_could_18 (by decide) (fun c17 => ?_) (fun c17 => ?_)
  · have c17 : x15.toInt ≤ a4.toInt := wk_le.mp c17
    exact J30 r8 H locs ls w10 (show 0 ≤ a1.toInt by omega) (show a1.toInt ≤ 120 by omega) (show 0 ≤ a2.toInt by omega) (show a2.toInt ≤ 9 by omega) (show 1 ≤ r8.toInt by omega) (show r8.toInt ≤ 2419 by omega)  hw hT hF  (lv_sub hl [1, 2, 3, 4, 5, 0] rfl)
  · have c17 : a4.toInt < x15.toInt := wk_leF c17
    refine lv_aload_n hx hb dX12_could_21 rfl (lv_at hl 1 rfl) ?_
    refine tk_getA hC hK hw hT hinX12 kM_at0 (by decide) rfl 34 (by decide) (List.mem_of_getElem? (i := 1) rfl) rfl rfl dX12_could_22 ?_
    refine lv_iload hx hb dX12_could_25 (lv_at hl 0 rfl) ?_
    refine lv_iload hx hb dX12_could_27 (lv_at hl 5 rfl) ?_
    refine tk_iast hC hK hw hT kM_at17 (by decide) rfl rfl (show 0 ≤ r8.toInt by omega) (show r8.toInt < 2600 by omega) (wk_i32 a4).1 (wk_i32 a4).2 dX12_could_29 (fun H locs w18 hw hT k20 c19 => ?_)
    have hF := hF.put kM_at17 (inE_of (a := 0) (b := 2600) (by decide) (show 0 ≤ r8.toInt.toNat by omega) (show r8.toInt.toNat ≤ 2600 by omega)) k20
    exact J30 r8 H locs ls w18 (show 0 ≤ a1.toInt by omega) (show a1.toInt ≤ 120 by omega) (show 0 ≤ a2.toInt by omega) (show a2.toInt ≤ 9 by omega) (show 1 ≤ r8.toInt by omega) (show r8.toInt ≤ 2419 by omega)  hw hT hF  (lv_sub hl [1, 2, 3, 4, 5, 0] rfl)
abbrev P_X12_takesDay_1 (ad : Nat → Nat) (cy : Nat → ClassId) (B : Int) (qr : Nat) (s1 : Int) (a1 : Int32) (w0 : va_W) : va_W → Prop := fun u => TW ksM ad cy B qr 12 u ∧ FE ksM [(72, 0, 12)] w0 u ∧ ((True))
set_option maxHeartbeats 4000000 in
set_option maxRecDepth 100000 in
theorem k_X12_takesDay_1 (l : Launch) (adK adV : Nat → Nat) (dC : Nat → ClassId) (dI : Nat → Nat → Nat) (cy : Nat → ClassId) (ad : Nat → Nat) (B : Int) (hB0 : 100000 ≤ B) (hB1 : B ≤ 1073741824) (qr : Nat) (s1 : Int)  (a1 : Int32) (ra1 : 0 ≤ a1.toInt) (ta1 : a1.toInt ≤ 6) (w0 : va_W) (sz : Nat) (hT : TW ksM ad cy B qr 12 w0)  : Met l yX12_takesDay wsX12_takesDay ({ frames := 2, cells := 0, slots := 0, locals := 34 }) (va_Pc [.ref (ad 0), .int a1] (wpreS adK adV dC dI cy sz w0)) (va_Qv (P_X12_takesDay_1 ad cy B qr s1 a1 w0) (fun u : va_W => wpost dC dI cy (va_A w0 sz) u) (va_A w0 sz)) 0 0 (va_A w0 sz) := by
  refine Met.ofW (cc := cX12_takesDay) (maxL := 3) (ret := none) (by decide) rfl ?_
  intro p e s m args below meth c s₁ Bk hml hv
  obtain ⟨rfl, ⟨hsz, hP, hK, hD0⟩, hE, hSR⟩ := hv
  have hx := Bk.exec
  have hb := Bk.bytes
  have hr := Bk.returns
  have hlocks := Bk.notSynchronized
  have hC : CallFix p m c cX12_takesDay 3 s _ wsX12_takesDay RX12 := ⟨hx, hb, hml, findClass_of_methodNamed Bk.named, atoms_spec (ws := wsX12_takesDay) Bk.pre⟩
  subst hsz
  have hD := hD0.self (sz := s.heap.size)
  generalize hAe : va_A w0 s.heap.size = A at hD hE ⊢
  have hA : ∀ q : Nat, s.heap.size ≤ q → A q := fun q h => by rw [← hAe]; exact Or.inr h
  have hw : Wd dC dI A s.heap s.heap [] w0 := ⟨hP, hD, va_S.rf⟩
  have hF : FE ksM [(72, 0, 12)] w0 w0 := FE.rf
  have hl := lv_entry ([.ref (ad 0), .int a1]) (n := 3) (Nat.le_of_ble_eq_true rfl)
  rw [lg_entry_eq]
  generalize (lg_sl ([.ref (ad 0), .int a1]) ++ List.replicate (3 - (lg_sl ([.ref (ad 0), .int a1])).length) Slot.unset).toArray = ls at hl ⊢
  have hl : lv_has ls 3 [(0, .ref (ad 0)), (1, .int a1)] := hl
  generalize hloc : ([] : List Loc) = locs at hw ⊢
  have hinX12 : ∀ w ∈ u_ws RX12 TX12 42, w ∈ wsX12_takesDay := fun _ h => List.mem_cons_of_mem _ (List.mem_append_right _ (h))
  have L2 : ∀ (n2 : Nat) (v2_2 : Int32) (H : Heap) (locs : List Loc) (ls : Array Slot) (w1 : va_W), 0 ≤ a1.toInt → a1.toInt ≤ 6 → 0 ≤ v2_2.toInt → v2_2.toInt ≤ 12 → (12 - v2_2.toInt).toNat < n2 → Wd dC dI A s.heap H locs w1 → TW ksM ad cy B qr 12 w1 → FE ksM [(72, 0, 12)] w0 w1 → lv_has ls 3 [(0, .ref (ad 0)), (1, .int a1), (2, .int v2_2)] → W p l e ({ frames := 2, cells := 0, slots := 0, locals := 34 }) s m (List.toArray [.ref (ad 0), .int a1]) below meth c H locs 0 0 (MQ below (va_Qv (P_X12_takesDay_1 ad cy B qr s1 a1 w0) (fun u : va_W => wpost dC dI cy A u) A) (List.toArray [.ref (ad 0), .int a1]) s 0 0 A) (F0 m 2 ls []) := by
    intro n2
    induction n2 with
    | zero => intro v2_2 H locs ls w1 r2 t3 r4 t5 hm2 hw hT hF hl; omega
    | succ n2 ih2 =>
      intro v2_2 H locs ls w1 r2 t3 r4 t5 hm2 hw hT hF hl
      refine lv_iload_n hx hb dX12_takesDay_2 rfl (lv_at hl 2 rfl) ?_
      refine lv_aload_n hx hb dX12_takesDay_3 rfl (lv_at hl 0 rfl) ?_
      refine tk_getA hC hK hw hT hinX12 kM_at0 (by decide) rfl 26 (by decide) (List.mem_of_getElem? (i := 1) rfl) rfl rfl dX12_takesDay_4 ?_
      refine lv_iconst (v := 1) hx hb dX12_takesDay_7 (by decide) ?_
      refine tk_ialdR hC hK hw hT kM_at12 rfl (by decide) (by decide) dX12_takesDay_8 (fun x6 c7 Ex6 => ?_)
      have bx6 : 0 ≤ x6.toInt ∧ x6.toInt ≤ 12 := (tk_rg1 rfl).mp Ex6
      have c7 : gi w1 12 1 = x6 := c7
      refine lv_icmp_ge (tgt := 32) hx hb dX12_takesDay_9 (by decide) (fun c8 => ?_) (fun c8 => ?_)
      · have c8 : x6.toInt ≤ v2_2.toInt := wk_le.mp c8
        exact tk_vret hC hr hlocks hK ⟨hT, hF, trivial⟩ hw dX12_takesDay_32
      · have c8 : v2_2.toInt < x6.toInt := wk_leF c8
        refine lv_aload_n hx hb dX12_takesDay_12 rfl (lv_at hl 0 rfl) ?_
        refine tk_getA hC hK hw hT hinX12 kM_at0 (by decide) rfl 28 (by decide) (List.mem_of_getElem? (i := 2) rfl) rfl rfl dX12_takesDay_13 ?_
        refine lv_iload_n hx hb dX12_takesDay_16 rfl (lv_at hl 2 rfl) ?_
        refine lv_aload_n hx hb dX12_takesDay_17 rfl (lv_at hl 0 rfl) ?_
        refine lv_iload_n hx hb dX12_takesDay_18 rfl (lv_at hl 2 rfl) ?_
        refine lv_iconst (v := 3) hx hb dX12_takesDay_19 (by decide) ?_
        refine lv_iload_n hx hb dX12_takesDay_20 rfl (lv_at hl 1 rfl) ?_
        refine lv_iadd hx hb dX12_takesDay_21 ?_
        refine lv_topi (fun x9 ex9 => ?_)
        have ex9 : x9.toInt = (3 : Int) + a1.toInt := by rw [ex9]; exact wk_add (show (-2147483648) ≤ (3 : Int) + a1.toInt by omega) (show (3 : Int) + a1.toInt ≤ 2147483647 by omega)
        refine tk_Vi hC hK hw hT hA hE hSR kM_at0 (by decide) rfl (k_X12_streetOf_4 l adK adV dC dI cy ad B (by omega) (by omega) qr s1   v2_2 (show 0 ≤ v2_2.toInt by omega) (show v2_2.toInt ≤ 11 by omega) x9 (show 3 ≤ x9.toInt by omega) (show x9.toInt ≤ 9 by omega) w1 H.size hT ) (cwV 2 hC.2.2.2.2 gX12_takesDay_X12_streetOf rfl rfl rfl (by decide +kernel) ⟨Nat.le_of_ble_eq_true rfl, Nat.le_of_ble_eq_true rfl⟩) rfl hl.1 rfl (Nat.le_of_ble_eq_true rfl) dX12_takesDay_22 (fun r10 w12 H locs hp11 hw => ?_)
        obtain ⟨hT, k13, hg16⟩ := hp11
        have hF := hF.tr k13 (by decide)
        have c17 := k13.gi kM_at12 (by decide) c7
        obtain ⟨g14, g15⟩ := hg16
        refine tk_iast hC hK hw hT kM_at13 (by decide) rfl rfl (show 0 ≤ v2_2.toInt by omega) (show v2_2.toInt < 12 by omega) (wk_i32 r10).1 (wk_i32 r10).2 dX12_takesDay_25 (fun H locs w18 hw hT k20 c19 => ?_)
        have hF := hF.put kM_at13 (inE_of (a := 0) (b := 12) (by decide) (show 0 ≤ v2_2.toInt.toNat by omega) (show v2_2.toInt.toNat ≤ 12 by omega)) k20
        have c21 := k20.gi (Or.inl (tk_ne kM_at12 kM_at13 (by decide))) c17
        obtain ⟨x22, ex22⟩ : ∃ y : Int32, y = v2_2 + Int32.ofInt 1 := ⟨_, rfl⟩
        refine lv_iinc (v := x22) (lv' := [(2, .int x22), (0, .ref (ad 0)), (1, .int a1)]) hx hb dX12_takesDay_26 hl (k := 2) rfl ex22.symm (by decide) rfl (fun ls hl => ?_)
        have ex22 : x22.toInt = v2_2.toInt + 1 := by rw [ex22]; exact wk_add (y := 1) (show -2147483648 ≤ v2_2.toInt + 1 by omega) (show v2_2.toInt + 1 ≤ 2147483647 by omega)
        refine lv_goto (tgt := 2) hx hb dX12_takesDay_29 (by decide) ?_
        exact ih2 x22 H locs ls w18 (show 0 ≤ a1.toInt by omega) (show a1.toInt ≤ 6 by omega) (show 0 ≤ x22.toInt by omega) (show x22.toInt ≤ 12 by omega) (show (12 - x22.toInt).toNat < n2 by omega) hw hT hF  (lv_sub hl [1, 2, 0] rfl)
  refine lv_iconst (v := 0) hx hb dX12_takesDay_0 (by decide) ?_
  refine lv_istore_n (lv' := [(2, .int 0), (0, .ref (ad 0)), (1, .int a1)]) hx hb dX12_takesDay_1 rfl hl (by decide) rfl (fun ls hl => ?_)
  exact L2 ((12 - (0 : Int)).toNat + 1) 0 s.heap locs ls w0 (show 0 ≤ a1.toInt by omega) (show a1.toInt ≤ 6 by omega) (by decide) (by decide) (Nat.lt_succ_self _) hw hT hF  (lv_sub hl [1, 2, 0] rfl)
abbrev P_X12_leads_2 (ad : Nat → Nat) (cy : Nat → ClassId) (B : Int) (qr : Nat) (s1 : Int) (a1 : Int32) (a2 : Int32) (a3 : Int32) (a4 : Int32) (a6 : Int32) (w0 : va_W) : va_W → Prop := fun u => TW ksM ad cy B qr 12 u ∧ FE ksM [(72, 0, 12), (73, 0, 10), (76, 0, 2600)] w0 u ∧ ((True))
set_option maxHeartbeats 4000000 in
set_option maxRecDepth 100000 in
theorem k_X12_leads_2 (l : Launch) (adK adV : Nat → Nat) (dC : Nat → ClassId) (dI : Nat → Nat → Nat) (cy : Nat → ClassId) (ad : Nat → Nat) (B : Int) (hB0 : 100000 ≤ B) (hB1 : B ≤ 1073741824) (qr : Nat) (s1 : Int)  (a1 : Int32) (ra1 : 0 ≤ a1.toInt) (ta1 : a1.toInt ≤ 3) (a2 : Int32) (ra2 : 0 ≤ a2.toInt) (ta2 : a2.toInt ≤ 1073741824) (a3 : Int32) (ra3 : 0 ≤ a3.toInt) (ta3 : a3.toInt ≤ 120) (a4 : Int32) (ra4 : 0 ≤ a4.toInt) (ta4 : a4.toInt ≤ 9) (a6 : Int32) (ra6 : 0 ≤ a6.toInt) (ta6 : a6.toInt ≤ 120) (w0 : va_W) (sz : Nat) (hT : TW ksM ad cy B qr 12 w0)  : Met l yX12_leads wsX12_leads ({ frames := 5, cells := 0, slots := 0, locals := 103 }) (va_Pc [.ref (ad 0), .int a1, .int a2, .int a3, .int a4, .int 1, .int a6] (wpreS adK adV dC dI cy sz w0)) (va_Qv (P_X12_leads_2 ad cy B qr s1 a1 a2 a3 a4 a6 w0) (fun u : va_W => wpost dC dI cy (va_A w0 sz) u) (va_A w0 sz)) 0 0 (va_A w0 sz) := by
  refine Met.ofW (cc := cX12_leads) (maxL := 12) (ret := none) (by decide) rfl ?_
  intro p e s m args below meth c s₁ Bk hml hv
  obtain ⟨rfl, ⟨hsz, hP, hK, hD0⟩, hE, hSR⟩ := hv
  have hx := Bk.exec
  have hb := Bk.bytes
  have hr := Bk.returns
  have hlocks := Bk.notSynchronized
  have hC : CallFix p m c cX12_leads 12 s _ wsX12_leads RX12 := ⟨hx, hb, hml, findClass_of_methodNamed Bk.named, atoms_spec (ws := wsX12_leads) Bk.pre⟩
  subst hsz
  have hD := hD0.self (sz := s.heap.size)
  generalize hAe : va_A w0 s.heap.size = A at hD hE ⊢
  have hA : ∀ q : Nat, s.heap.size ≤ q → A q := fun q h => by rw [← hAe]; exact Or.inr h
  have hw : Wd dC dI A s.heap s.heap [] w0 := ⟨hP, hD, va_S.rf⟩
  have hF : FE ksM [(72, 0, 12), (73, 0, 10), (76, 0, 2600)] w0 w0 := FE.rf
  have hl := lv_entry ([.ref (ad 0), .int a1, .int a2, .int a3, .int a4, .int 1, .int a6]) (n := 12) (Nat.le_of_ble_eq_true rfl)
  rw [lg_entry_eq]
  generalize (lg_sl ([.ref (ad 0), .int a1, .int a2, .int a3, .int a4, .int 1, .int a6]) ++ List.replicate (12 - (lg_sl ([.ref (ad 0), .int a1, .int a2, .int a3, .int a4, .int 1, .int a6])).length) Slot.unset).toArray = ls at hl ⊢
  have hl : lv_has ls 12 [(0, .ref (ad 0)), (1, .int a1), (2, .int a2), (3, .int a3), (4, .int a4), (5, .int 1), (6, .int a6)] := hl
  generalize hloc : ([] : List Loc) = locs at hw ⊢
  have hinX12 : ∀ w ∈ u_ws RX12 TX12 42, w ∈ wsX12_leads := fun _ h => List.mem_cons_of_mem _ (List.mem_append_right _ (h))
  have J41 : ∀ (v41_7 : Int32) (H : Heap) (locs : List Loc) (ls : Array Slot) (w1 : va_W), 0 ≤ a1.toInt → a1.toInt ≤ 3 → 0 ≤ a2.toInt → a2.toInt ≤ 1073741824 → 0 ≤ a3.toInt → a3.toInt ≤ 120 → 0 ≤ a4.toInt → a4.toInt ≤ 9 → 0 ≤ a6.toInt → a6.toInt ≤ 120 → Wd dC dI A s.heap H locs w1 → TW ksM ad cy B qr 12 w1 → FE ksM [(72, 0, 12), (73, 0, 10), (76, 0, 2600)] w0 w1 → lv_has ls 12 [(0, .ref (ad 0)), (1, .int a1), (2, .int a2), (3, .int a3), (4, .int a4), (5, .int 1), (6, .int a6), (7, .int v41_7)] → W p l e ({ frames := 5, cells := 0, slots := 0, locals := 103 }) s m (List.toArray [.ref (ad 0), .int a1, .int a2, .int a3, .int a4, .int 1, .int a6]) below meth c H locs 0 0 (MQ below (va_Qv (P_X12_leads_2 ad cy B qr s1 a1 a2 a3 a4 a6 w0) (fun u : va_W => wpost dC dI cy A u) A) (List.toArray [.ref (ad 0), .int a1, .int a2, .int a3, .int a4, .int 1, .int a6]) s 0 0 A) (F0 m 41 ls []) := by
    intro v41_7 H locs ls w1 r2 t3 r4 t5 r6 t7 r8 t9 r10 t11 hw hT hF hl
    exact tk_vret hC hr hlocks hK ⟨hT, hF, trivial⟩ hw dX12_leads_41
  have J181 : ∀ (v181_7 : Int32) (v181_8 : Int32) (v181_9 : Int32) (v181_10 : Int32) (f181_12__9_a1_toInt_217_toNat : Int32) (H : Heap) (locs : List Loc) (ls : Array Slot) (w12 : va_W), 0 ≤ a1.toInt → a1.toInt ≤ 3 → 0 ≤ a2.toInt → a2.toInt ≤ 1073741824 → 0 ≤ a3.toInt → a3.toInt ≤ 120 → 0 ≤ a4.toInt → a4.toInt ≤ 9 → 0 ≤ a6.toInt → a6.toInt ≤ 120 → 0 ≤ v181_8.toInt → v181_8.toInt ≤ 1073741944 → 0 ≤ v181_9.toInt → v181_9.toInt ≤ 1 → (-1) ≤ v181_10.toInt → v181_10.toInt ≤ 11 → 0 ≤ f181_12__9_a1_toInt_217_toNat.toInt → f181_12__9_a1_toInt_217_toNat.toInt ≤ 9 → Wd dC dI A s.heap H locs w12 → TW ksM ad cy B qr 12 w12 → FE ksM [(72, 0, 12), (73, 0, 10), (76, 0, 2600)] w0 w12 → gi w12 12 (9 * a1.toInt + 217).toNat = f181_12__9_a1_toInt_217_toNat → lv_has ls 12 [(0, .ref (ad 0)), (1, .int a1), (2, .int a2), (3, .int a3), (4, .int a4), (5, .int 1), (6, .int a6), (7, .int v181_7), (8, .int v181_8), (9, .int v181_9), (10, .int v181_10)] → W p l e ({ frames := 5, cells := 0, slots := 0, locals := 103 }) s m (List.toArray [.ref (ad 0), .int a1, .int a2, .int a3, .int a4, .int 1, .int a6]) below meth c H locs 0 0 (MQ below (va_Qv (P_X12_leads_2 ad cy B qr s1 a1 a2 a3 a4 a6 w0) (fun u : va_W => wpost dC dI cy A u) A) (List.toArray [.ref (ad 0), .int a1, .int a2, .int a3, .int a4, .int 1, .int a6]) s 0 0 A) (F0 m 181 ls []) := by
    intro v181_7 v181_8 v181_9 v181_10 f181_12__9_a1_toInt_217_toNat H locs ls w12 r13 t14 r15 t16 r17 t18 r19 t20 r21 t22 r23 t24 r25 t26 r27 t28 r29 t30 hw hT hF c31 hl
    exact tk_vret hC hr hlocks hK ⟨hT, hF, trivial⟩ hw dX12_leads_181
  have J241 : ∀ (v241_7 : Int32) (v241_8 : Int32) (v241_9 : Int32) (v241_10 : Int32) (v241_11 : Int32) (f241_12__9_a1_toInt_217_toNat : Int32) (f241_12_1 : Int32) (H : Heap) (locs : List Loc) (ls : Array Slot) (w32 : va_W), 0 ≤ a1.toInt → a1.toInt ≤ 3 → 0 ≤ a2.toInt → a2.toInt ≤ 1073741824 → 0 ≤ a3.toInt → a3.toInt ≤ 120 → 0 ≤ a4.toInt → a4.toInt ≤ 9 → 0 ≤ a6.toInt → a6.toInt ≤ 120 → 0 ≤ v241_8.toInt → v241_8.toInt ≤ 1073741944 → 0 ≤ v241_9.toInt → v241_9.toInt ≤ 1 → 0 ≤ v241_10.toInt → v241_10.toInt ≤ 11 → 0 ≤ v241_11.toInt → v241_11.toInt ≤ 129 → 0 ≤ f241_12__9_a1_toInt_217_toNat.toInt → f241_12__9_a1_toInt_217_toNat.toInt ≤ 9 → 1 ≤ f241_12_1.toInt → f241_12_1.toInt ≤ 12 → Wd dC dI A s.heap H locs w32 → TW ksM ad cy B qr 12 w32 → FE ksM [(72, 0, 12), (73, 0, 10), (76, 0, 2600)] w0 w32 → gi w32 12 (9 * a1.toInt + 217).toNat = f241_12__9_a1_toInt_217_toNat → gi w32 12 1 = f241_12_1 → lv_has ls 12 [(0, .ref (ad 0)), (1, .int a1), (2, .int a2), (3, .int a3), (4, .int a4), (5, .int 1), (6, .int a6), (7, .int v241_7), (8, .int v241_8), (9, .int v241_9), (10, .int v241_10), (11, .int v241_11)] → W p l e ({ frames := 5, cells := 0, slots := 0, locals := 103 }) s m (List.toArray [.ref (ad 0), .int a1, .int a2, .int a3, .int a4, .int 1, .int a6]) below meth c H locs 0 0 (MQ below (va_Qv (P_X12_leads_2 ad cy B qr s1 a1 a2 a3 a4 a6 w0) (fun u : va_W => wpost dC dI cy A u) A) (List.toArray [.ref (ad 0), .int a1, .int a2, .int a3, .int a4, .int 1, .int a6]) s 0 0 A) (F0 m 241 ls []) := by
    intro v241_7 v241_8 v241_9 v241_10 v241_11 f241_12__9_a1_toInt_217_toNat f241_12_1 H locs ls w32 r33 t34 r35 t36 r37 t38 r39 t40 r41 t42 r43 t44 r45 t46 r47 t48 r49 t50 r51 t52 r54 t55 hw hT hF c53 c56 hl
    exact tk_vret hC hr hlocks hK ⟨hT, hF, trivial⟩ hw dX12_leads_241
  have J145 : ∀ (v145_7 : Int32) (v145_8 : Int32) (v145_9 : Int32) (f145_12__9_a1_toInt_217_toNat : Int32) (H : Heap) (locs : List Loc) (ls : Array Slot) (w57 : va_W), 0 ≤ a1.toInt → a1.toInt ≤ 3 → 0 ≤ a2.toInt → a2.toInt ≤ 1073741824 → 0 ≤ a3.toInt → a3.toInt ≤ 120 → 0 ≤ a4.toInt → a4.toInt ≤ 9 → 0 ≤ a6.toInt → a6.toInt ≤ 120 → 0 ≤ v145_8.toInt → v145_8.toInt ≤ 1073741944 → 0 ≤ v145_9.toInt → v145_9.toInt ≤ 1 → 0 ≤ f145_12__9_a1_toInt_217_toNat.toInt → f145_12__9_a1_toInt_217_toNat.toInt ≤ 9 → Wd dC dI A s.heap H locs w57 → TW ksM ad cy B qr 12 w57 → FE ksM [(72, 0, 12), (73, 0, 10), (76, 0, 2600)] w0 w57 → gi w57 12 (9 * a1.toInt + 217).toNat = f145_12__9_a1_toInt_217_toNat → lv_has ls 12 [(0, .ref (ad 0)), (1, .int a1), (2, .int a2), (3, .int a3), (4, .int a4), (5, .int 1), (6, .int a6), (7, .int v145_7), (8, .int v145_8), (9, .int v145_9)] → W p l e ({ frames := 5, cells := 0, slots := 0, locals := 103 }) s m (List.toArray [.ref (ad 0), .int a1, .int a2, .int a3, .int a4, .int 1, .int a6]) below meth c H locs 0 0 (MQ below (va_Qv (P_X12_leads_2 ad cy B qr s1 a1 a2 a3 a4 a6 w0) (fun u : va_W => wpost dC dI cy A u) A) (List.toArray [.ref (ad 0), .int a1, .int a2, .int a3, .int a4, .int 1, .int a6]) s 0 0 A) (F0 m 145 ls []) := by
    intro v145_7 v145_8 v145_9 f145_12__9_a1_toInt_217_toNat H locs ls w57 r58 t59 r60 t61 r62 t63 r64 t65 r66 t67 r68 t69 r70 t71 r72 t73 hw hT hF c74 hl
    refine lv_aload_n hx hb dX12_leads_145 rfl (lv_at hl 0 rfl) ?_
    refine lv_aload_n hx hb dX12_leads_146 rfl (lv_at hl 0 rfl) ?_
    refine lv_iload_n hx hb dX12_leads_147 rfl (lv_at hl 1 rfl) ?_
    refine lv_iconst (v := 1) hx hb dX12_leads_148 (by decide) ?_
    refine tk_Vi hC hK hw hT hA hE hSR kM_at0 (by decide) rfl (k_X12_walkerOf_3 l adK adV dC dI cy ad B (by omega) (by omega) qr s1   a1 (show 0 ≤ a1.toInt by omega) (show a1.toInt ≤ 3 by omega) w57 H.size hT ) (cwV 2 hC.2.2.2.2 gX12_leads_X12_walkerOf rfl rfl rfl (by decide +kernel) ⟨Nat.le_of_ble_eq_true rfl, Nat.le_of_ble_eq_true rfl⟩) rfl hl.1 rfl (Nat.le_of_ble_eq_true rfl) dX12_leads_149 (fun r75 w77 H locs hp76 hw => ?_)
    obtain ⟨hT, k78, hg82⟩ := hp76
    have hF := hF.tr k78 (by decide)
    have c83 := k78.gi kM_at12 rfl c74
    obtain ⟨g79, g80, c81⟩ := hg82
    obtain rfl : r75 = f145_12__9_a1_toInt_217_toNat := c81.symm.trans c83
    refine tk_Vv hC hK hw hT hA hE hSR kM_at0 (by decide) rfl (k_X12_spreads_1 l adK adV dC dI cy ad B (by omega) (by omega) qr s1   f145_12__9_a1_toInt_217_toNat (show 0 ≤ f145_12__9_a1_toInt_217_toNat.toInt by omega) (show f145_12__9_a1_toInt_217_toNat.toInt ≤ 9 by omega) w77 H.size hT ) (cwV 1 hC.2.2.2.2 gX12_leads_X12_spreads rfl rfl rfl (by decide +kernel) ⟨Nat.le_of_ble_eq_true rfl, Nat.le_of_ble_eq_true rfl⟩) rfl hl.1 rfl (Nat.le_of_ble_eq_true rfl) dX12_leads_152 (fun w86 H locs hp85 hw => ?_)
    obtain ⟨hT, k87, hg88⟩ := hp85
    have hF := hF.tr k87 (by decide)
    have c89 := k87.gi kM_at12 rfl c83
    clear hg88
    refine lv_aload_n hx hb dX12_leads_155 rfl (lv_at hl 0 rfl) ?_
    refine lv_iload hx hb dX12_leads_156 (lv_at hl 4 rfl) ?_
    refine tk_Vi hC hK hw hT hA hE hSR kM_at0 (by decide) rfl (k_X12_streetFrom_1 l adK adV dC dI cy ad B (by omega) (by omega) qr s1   a4 (show 0 ≤ a4.toInt by omega) (show a4.toInt ≤ 9 by omega) w86 H.size hT ) (cwV 1 hC.2.2.2.2 gX12_leads_X12_streetFrom rfl rfl rfl (by decide +kernel) ⟨Nat.le_of_ble_eq_true rfl, Nat.le_of_ble_eq_true rfl⟩) rfl hl.1 rfl (Nat.le_of_ble_eq_true rfl) dX12_leads_158 (fun r90 w92 H locs hp91 hw => ?_)
    obtain ⟨hT, k93, hg103⟩ := hp91
    have hF := hF.tr k93 (by decide)
    have c104 := k93.gi kM_at12 rfl c89
    rcases hg103 with ⟨g94, g95, ⟨x96, c97, rx96, tx96⟩⟩ | ⟨g98, g99, ⟨x100, c101, rx100, tx100⟩, c102⟩ | rfl
    · refine lv_istore (lv' := [(10, .int r90), (0, .ref (ad 0)), (1, .int a1), (2, .int a2), (3, .int a3), (4, .int a4), (5, .int 1), (6, .int a6), (7, .int v145_7), (8, .int v145_8), (9, .int v145_9)]) hx hb dX12_leads_161 hl (by decide) rfl (fun ls hl => ?_)
      refine lv_iload hx hb dX12_leads_163 (lv_at hl 0 rfl) ?_
      refine lv_if_lt (tgt := 181) hx hb dX12_leads_165 (by decide) (fun c => absurd c (fun h => absurd (show r90.toInt < (0 : Int) from wk_lt.mp h) (by omega))) (fun _ => ?_)
      refine lv_aload_n hx hb dX12_leads_168 rfl (lv_at hl 1 rfl) ?_
      refine lv_iload hx hb dX12_leads_169 (lv_at hl 0 rfl) ?_
      refine lv_iload hx hb dX12_leads_171 (lv_at hl 5 rfl) ?_
      refine lv_iload hx hb dX12_leads_173 (lv_at hl 9 rfl) ?_
      refine tk_Vi hC hK hw hT hA hE hSR kM_at0 (by decide) rfl (k_X12_isOpen_2 l adK adV dC dI cy ad B (by omega) (by omega) qr s1   r90 (show 0 ≤ r90.toInt by omega) (show r90.toInt ≤ 11 by omega) a4 (show 0 ≤ a4.toInt by omega) (show a4.toInt ≤ 9 by omega) v145_8 (show 0 ≤ v145_8.toInt by omega) (show v145_8.toInt ≤ 1073741944 by omega) w92 H.size hT ) (cwV 3 hC.2.2.2.2 gX12_leads_X12_isOpen rfl rfl rfl (by decide +kernel) ⟨Nat.le_of_ble_eq_true rfl, Nat.le_of_ble_eq_true rfl⟩) rfl hl.1 rfl (Nat.le_of_ble_eq_true rfl) dX12_leads_175 (fun r105 w107 H locs hp106 hw => ?_)
      obtain ⟨hT, k108, hg110⟩ := hp106
      have hF := hF.tr k108 (by decide)
      have c111 := k108.gi kM_at12 rfl c104
      have c112 := k108.gi kM_at12 (by decide) c97
      rcases hg110 with rfl | rfl | ⟨rfl, c109⟩
      · refine lv_if_ne (tgt := 182) hx hb dX12_leads_178 (by decide) (fun c => absurd (by decide) c) (fun _ => ?_)
        exact J181 v145_7 v145_8 v145_9 r90 f145_12__9_a1_toInt_217_toNat H locs ls w107 (show 0 ≤ a1.toInt by omega) (show a1.toInt ≤ 3 by omega) (show 0 ≤ a2.toInt by omega) (show a2.toInt ≤ 1073741824 by omega) (show 0 ≤ a3.toInt by omega) (show a3.toInt ≤ 120 by omega) (show 0 ≤ a4.toInt by omega) (show a4.toInt ≤ 9 by omega) (show 0 ≤ a6.toInt by omega) (show a6.toInt ≤ 120 by omega) (show 0 ≤ v145_8.toInt by omega) (show v145_8.toInt ≤ 1073741944 by omega) (show 0 ≤ v145_9.toInt by omega) (show v145_9.toInt ≤ 1 by omega) (show (-1) ≤ r90.toInt by omega) (show r90.toInt ≤ 11 by omega) (show 0 ≤ f145_12__9_a1_toInt_217_toNat.toInt by omega) (show f145_12__9_a1_toInt_217_toNat.toInt ≤ 9 by omega)  hw hT hF c111 (lv_sub hl [1, 2, 3, 4, 5, 6, 7, 8, 9, 10, 0] rfl)
      · refine lv_if_ne (tgt := 182) hx hb dX12_leads_178 (by decide) (fun _ => ?_) (fun c => absurd c (by decide))
        refine lv_iload_n hx hb dX12_leads_182 rfl (lv_at hl 4 rfl) ?_
        refine lv_aload_n hx hb dX12_leads_183 rfl (lv_at hl 1 rfl) ?_
        refine lv_iload hx hb dX12_leads_184 (lv_at hl 0 rfl) ?_
        refine lv_iconst (v := 2) hx hb dX12_leads_186 (by decide) ?_
        refine tk_Vi hC hK hw hT hA hE hSR kM_at0 (by decide) rfl (k_X12_streetOf_6 l adK adV dC dI cy ad B (by omega) (by omega) qr s1   r90 (show 0 ≤ r90.toInt by omega) (show r90.toInt ≤ 11 by omega) w107 H.size hT ) (cwV 2 hC.2.2.2.2 gX12_leads_X12_streetOf rfl rfl rfl (by decide +kernel) ⟨Nat.le_of_ble_eq_true rfl, Nat.le_of_ble_eq_true rfl⟩) rfl hl.1 rfl (Nat.le_of_ble_eq_true rfl) dX12_leads_187 (fun r113 w115 H locs hp114 hw => ?_)
        obtain ⟨hT, k116, hg120⟩ := hp114
        have hF := hF.tr k116 (by decide)
        have c121 := k116.gi kM_at12 rfl c111
        have c122 := k116.gi kM_at12 (by decide) c112
        obtain ⟨g117, g118, c119⟩ := hg120
        refine lv_iadd hx hb dX12_leads_190 ?_
        refine lv_topi (fun x123 ex123 => ?_)
        have ex123 : x123.toInt = a3.toInt + r113.toInt := by rw [ex123]; exact wk_add (show (-2147483648) ≤ a3.toInt + r113.toInt by omega) (show a3.toInt + r113.toInt ≤ 2147483647 by omega)
        refine lv_istore (lv' := [(11, .int x123), (10, .int r90), (0, .ref (ad 0)), (1, .int a1), (2, .int a2), (3, .int a3), (4, .int a4), (5, .int 1), (6, .int a6), (7, .int v145_7), (8, .int v145_8), (9, .int v145_9)]) hx hb dX12_leads_191 hl (by decide) rfl (fun ls hl => ?_)
        refine lv_iload hx hb dX12_leads_193 (lv_at hl 0 rfl) ?_
        refine lv_iload hx hb dX12_leads_195 (lv_at hl 8 rfl) ?_
        refine lv_icmp_gt (tgt := 241) hx hb dX12_leads_197 (by decide) (fun c124 => ?_) (fun c124 => ?_)
        · have c124 : a6.toInt < x123.toInt := wk_lt.mp c124
          exact J241 v145_7 v145_8 v145_9 r90 x123 f145_12__9_a1_toInt_217_toNat x96 H locs ls w115 (show 0 ≤ a1.toInt by omega) (show a1.toInt ≤ 3 by omega) (show 0 ≤ a2.toInt by omega) (show a2.toInt ≤ 1073741824 by omega) (show 0 ≤ a3.toInt by omega) (show a3.toInt ≤ 120 by omega) (show 0 ≤ a4.toInt by omega) (show a4.toInt ≤ 9 by omega) (show 0 ≤ a6.toInt by omega) (show a6.toInt ≤ 120 by omega) (show 0 ≤ v145_8.toInt by omega) (show v145_8.toInt ≤ 1073741944 by omega) (show 0 ≤ v145_9.toInt by omega) (show v145_9.toInt ≤ 1 by omega) (show 0 ≤ r90.toInt by omega) (show r90.toInt ≤ 11 by omega) (show 0 ≤ x123.toInt by omega) (show x123.toInt ≤ 129 by omega) (show 0 ≤ f145_12__9_a1_toInt_217_toNat.toInt by omega) (show f145_12__9_a1_toInt_217_toNat.toInt ≤ 9 by omega) (show 1 ≤ x96.toInt by omega) (show x96.toInt ≤ 12 by omega)  hw hT hF c121 c122 (lv_sub hl [2, 3, 4, 5, 6, 7, 8, 9, 10, 11, 1, 0] rfl)
        · have c124 : x123.toInt ≤ a6.toInt := wk_ltF c124
          refine lv_aload_n hx hb dX12_leads_200 rfl (lv_at hl 2 rfl) ?_
          refine lv_iload hx hb dX12_leads_201 (lv_at hl 0 rfl) ?_
          refine lv_aload_n hx hb dX12_leads_203 rfl (lv_at hl 2 rfl) ?_
          refine lv_iload hx hb dX12_leads_204 (lv_at hl 1 rfl) ?_
          refine lv_iload hx hb dX12_leads_206 (lv_at hl 6 rfl) ?_
          refine tk_Vi hC hK hw hT hA hE hSR kM_at0 (by decide) rfl (k_X12_otherOf_1 l adK adV dC dI cy ad B (by omega) (by omega) qr s1   r90 (show 0 ≤ r90.toInt by omega) (show r90.toInt ≤ 11 by omega) a4 (show 0 ≤ a4.toInt by omega) (show a4.toInt ≤ 9 by omega) w115 H.size hT ) (cwV 2 hC.2.2.2.2 gX12_leads_X12_otherOf rfl rfl rfl (by decide +kernel) ⟨Nat.le_of_ble_eq_true rfl, Nat.le_of_ble_eq_true rfl⟩) rfl hl.1 rfl (Nat.le_of_ble_eq_true rfl) dX12_leads_208 (fun r125 w127 H locs hp126 hw => ?_)
          obtain ⟨hT, k128, hg134⟩ := hp126
          have hF := hF.tr k128 (by decide)
          have c135 := k128.gi kM_at12 rfl c121
          have c136 := k128.gi kM_at12 (by decide) c122
          have c137 := k128.gi kM_at12 rfl c119
          rcases hg134 with ⟨g129, g130⟩ | ⟨g131, g132, c133⟩
          · refine lv_iload hx hb dX12_leads_211 (lv_at hl 7 rfl) ?_
            refine lv_if_eq (tgt := 235) hx hb dX12_leads_213 (by decide) (fun c => absurd c (by decide)) (fun _ => ?_)
            refine lv_iload_n hx hb dX12_leads_216 rfl (lv_at hl 4 rfl) ?_
            refine lv_iload hx hb dX12_leads_217 (lv_at hl 0 rfl) ?_
            refine lv_iadd hx hb dX12_leads_219 ?_
            refine lv_topi (fun x138 ex138 => ?_)
            have ex138 : x138.toInt = a2.toInt + x123.toInt := by rw [ex138]; exact wk_add (show (-2147483648) ≤ a2.toInt + x123.toInt by omega) (show a2.toInt + x123.toInt ≤ 2147483647 by omega)
            refine lv_bipush (v := 24) hx hb dX12_leads_220 (by decide) ?_
            refine lv_idiv hx hb dX12_leads_222 (by decide) ?_
            refine lv_topi (fun x139 ex139 => ?_)
            have ex139 : x139.toInt = x138.toInt / (24 : Int) := by rw [ex139]; exact wk_div (show 0 ≤ x138.toInt by omega) (show 0 < (24 : Int) by decide)
            refine lv_iload hx hb dX12_leads_223 (lv_at hl 10 rfl) ?_
            refine lv_bipush (v := 24) hx hb dX12_leads_225 (by decide) ?_
            refine lv_idiv hx hb dX12_leads_227 (by decide) ?_
            refine lv_topi (fun x140 ex140 => ?_)
            have ex140 : x140.toInt = v145_8.toInt / (24 : Int) := by rw [ex140]; exact wk_div (show 0 ≤ v145_8.toInt by omega) (show 0 < (24 : Int) by decide)
            refine lv_icmp_ne (tgt := 235) hx hb dX12_leads_228 (by decide) (fun c141 => ?_) (fun c141 => ?_)
            · have c141 : ¬ x139.toInt = x140.toInt := wk_eqF c141
              refine lv_iconst (v := 0) hx hb dX12_leads_235 (by decide) ?_
              refine lv_iload hx hb dX12_leads_236 (lv_at hl 9 rfl) ?_
              refine tk_Vv hC hK hw hT hA hE hSR kM_at0 (by decide) rfl (k_X12_could_1 l adK adV dC dI cy ad B (by omega) (by omega) qr s1   x123 (show 0 ≤ x123.toInt by omega) (show x123.toInt ≤ 120 by omega) r125 (show 0 ≤ r125.toInt by omega) (show r125.toInt ≤ 9 by omega) v145_7 w127 H.size hT ) (cwV 4 hC.2.2.2.2 gX12_leads_X12_could rfl rfl rfl (by decide +kernel) ⟨Nat.le_of_ble_eq_true rfl, Nat.le_of_ble_eq_true rfl⟩) rfl hl.1 rfl (Nat.le_of_ble_eq_true rfl) dX12_leads_238 (fun w144 H locs hp143 hw => ?_)
              obtain ⟨hT, k145, hg146⟩ := hp143
              have hF := hF.tr k145 (by decide)
              have c147 := k145.gi kM_at12 rfl c135
              have c148 := k145.gi kM_at12 (by decide) c136
              have c149 := k145.gi kM_at12 rfl c137
              clear hg146
              exact J241 v145_7 v145_8 v145_9 r90 x123 f145_12__9_a1_toInt_217_toNat x96 H locs ls w144 (show 0 ≤ a1.toInt by omega) (show a1.toInt ≤ 3 by omega) (show 0 ≤ a2.toInt by omega) (show a2.toInt ≤ 1073741824 by omega) (show 0 ≤ a3.toInt by omega) (show a3.toInt ≤ 120 by omega) (show 0 ≤ a4.toInt by omega) (show a4.toInt ≤ 9 by omega) (show 0 ≤ a6.toInt by omega) (show a6.toInt ≤ 120 by omega) (show 0 ≤ v145_8.toInt by omega) (show v145_8.toInt ≤ 1073741944 by omega) (show 0 ≤ v145_9.toInt by omega) (show v145_9.toInt ≤ 1 by omega) (show 0 ≤ r90.toInt by omega) (show r90.toInt ≤ 11 by omega) (show 0 ≤ x123.toInt by omega) (show x123.toInt ≤ 129 by omega) (show 0 ≤ f145_12__9_a1_toInt_217_toNat.toInt by omega) (show f145_12__9_a1_toInt_217_toNat.toInt ≤ 9 by omega) (show 1 ≤ x96.toInt by omega) (show x96.toInt ≤ 12 by omega)  hw hT hF c147 c148 (lv_sub hl [2, 3, 4, 5, 6, 7, 8, 9, 10, 11, 1, 0] rfl)
            · have c141 : x139.toInt = x140.toInt := wk_eq.mp c141
              refine lv_iconst (v := 1) hx hb dX12_leads_231 (by decide) ?_
              refine lv_goto (tgt := 236) hx hb dX12_leads_232 (by decide) ?_
              refine lv_iload hx hb dX12_leads_236 (lv_at hl 9 rfl) ?_
              refine tk_Vv hC hK hw hT hA hE hSR kM_at0 (by decide) rfl (k_X12_could_4 l adK adV dC dI cy ad B (by omega) (by omega) qr s1   x123 (show 0 ≤ x123.toInt by omega) (show x123.toInt ≤ 120 by omega) r125 (show 0 ≤ r125.toInt by omega) (show r125.toInt ≤ 9 by omega) v145_7 w127 H.size hT ) (cwV 4 hC.2.2.2.2 gX12_leads_X12_could rfl rfl rfl (by decide +kernel) ⟨Nat.le_of_ble_eq_true rfl, Nat.le_of_ble_eq_true rfl⟩) rfl hl.1 rfl (Nat.le_of_ble_eq_true rfl) dX12_leads_238 (fun w152 H locs hp151 hw => ?_)
              obtain ⟨hT, k153, hg154⟩ := hp151
              have hF := hF.tr k153 (by decide)
              have c155 := k153.gi kM_at12 rfl c135
              have c156 := k153.gi kM_at12 (by decide) c136
              have c157 := k153.gi kM_at12 rfl c137
              clear hg154
              exact J241 v145_7 v145_8 v145_9 r90 x123 f145_12__9_a1_toInt_217_toNat x96 H locs ls w152 (show 0 ≤ a1.toInt by omega) (show a1.toInt ≤ 3 by omega) (show 0 ≤ a2.toInt by omega) (show a2.toInt ≤ 1073741824 by omega) (show 0 ≤ a3.toInt by omega) (show a3.toInt ≤ 120 by omega) (show 0 ≤ a4.toInt by omega) (show a4.toInt ≤ 9 by omega) (show 0 ≤ a6.toInt by omega) (show a6.toInt ≤ 120 by omega) (show 0 ≤ v145_8.toInt by omega) (show v145_8.toInt ≤ 1073741944 by omega) (show 0 ≤ v145_9.toInt by omega) (show v145_9.toInt ≤ 1 by omega) (show 0 ≤ r90.toInt by omega) (show r90.toInt ≤ 11 by omega) (show 0 ≤ x123.toInt by omega) (show x123.toInt ≤ 129 by omega) (show 0 ≤ f145_12__9_a1_toInt_217_toNat.toInt by omega) (show f145_12__9_a1_toInt_217_toNat.toInt ≤ 9 by omega) (show 1 ≤ x96.toInt by omega) (show x96.toInt ≤ 12 by omega)  hw hT hF c155 c156 (lv_sub hl [2, 3, 4, 5, 6, 7, 8, 9, 10, 11, 1, 0] rfl)
          · refine lv_iload hx hb dX12_leads_211 (lv_at hl 7 rfl) ?_
            refine lv_if_eq (tgt := 235) hx hb dX12_leads_213 (by decide) (fun c => absurd c (by decide)) (fun _ => ?_)
            refine lv_iload_n hx hb dX12_leads_216 rfl (lv_at hl 4 rfl) ?_
            refine lv_iload hx hb dX12_leads_217 (lv_at hl 0 rfl) ?_
            refine lv_iadd hx hb dX12_leads_219 ?_
            refine lv_topi (fun x158 ex158 => ?_)
            have ex158 : x158.toInt = a2.toInt + x123.toInt := by rw [ex158]; exact wk_add (show (-2147483648) ≤ a2.toInt + x123.toInt by omega) (show a2.toInt + x123.toInt ≤ 2147483647 by omega)
            refine lv_bipush (v := 24) hx hb dX12_leads_220 (by decide) ?_
            refine lv_idiv hx hb dX12_leads_222 (by decide) ?_
            refine lv_topi (fun x159 ex159 => ?_)
            have ex159 : x159.toInt = x158.toInt / (24 : Int) := by rw [ex159]; exact wk_div (show 0 ≤ x158.toInt by omega) (show 0 < (24 : Int) by decide)
            refine lv_iload hx hb dX12_leads_223 (lv_at hl 10 rfl) ?_
            refine lv_bipush (v := 24) hx hb dX12_leads_225 (by decide) ?_
            refine lv_idiv hx hb dX12_leads_227 (by decide) ?_
            refine lv_topi (fun x160 ex160 => ?_)
            have ex160 : x160.toInt = v145_8.toInt / (24 : Int) := by rw [ex160]; exact wk_div (show 0 ≤ v145_8.toInt by omega) (show 0 < (24 : Int) by decide)
            refine lv_icmp_ne (tgt := 235) hx hb dX12_leads_228 (by decide) (fun c161 => ?_) (fun c161 => ?_)
            · have c161 : ¬ x159.toInt = x160.toInt := wk_eqF c161
              refine lv_iconst (v := 0) hx hb dX12_leads_235 (by decide) ?_
              refine lv_iload hx hb dX12_leads_236 (lv_at hl 9 rfl) ?_
              refine tk_Vv hC hK hw hT hA hE hSR kM_at0 (by decide) rfl (k_X12_could_1 l adK adV dC dI cy ad B (by omega) (by omega) qr s1   x123 (show 0 ≤ x123.toInt by omega) (show x123.toInt ≤ 120 by omega) r125 (show 0 ≤ r125.toInt by omega) (show r125.toInt ≤ 9 by omega) v145_7 w127 H.size hT ) (cwV 4 hC.2.2.2.2 gX12_leads_X12_could rfl rfl rfl (by decide +kernel) ⟨Nat.le_of_ble_eq_true rfl, Nat.le_of_ble_eq_true rfl⟩) rfl hl.1 rfl (Nat.le_of_ble_eq_true rfl) dX12_leads_238 (fun w164 H locs hp163 hw => ?_)
              obtain ⟨hT, k165, hg166⟩ := hp163
              have hF := hF.tr k165 (by decide)
              have c167 := k165.gi kM_at12 rfl c135
              have c168 := k165.gi kM_at12 (by decide) c136
              have c169 := k165.gi kM_at12 rfl c137
              have c170 := k165.gi kM_at12 rfl c133
              clear hg166
              exact J241 v145_7 v145_8 v145_9 r90 x123 f145_12__9_a1_toInt_217_toNat x96 H locs ls w164 (show 0 ≤ a1.toInt by omega) (show a1.toInt ≤ 3 by omega) (show 0 ≤ a2.toInt by omega) (show a2.toInt ≤ 1073741824 by omega) (show 0 ≤ a3.toInt by omega) (show a3.toInt ≤ 120 by omega) (show 0 ≤ a4.toInt by omega) (show a4.toInt ≤ 9 by omega) (show 0 ≤ a6.toInt by omega) (show a6.toInt ≤ 120 by omega) (show 0 ≤ v145_8.toInt by omega) (show v145_8.toInt ≤ 1073741944 by omega) (show 0 ≤ v145_9.toInt by omega) (show v145_9.toInt ≤ 1 by omega) (show 0 ≤ r90.toInt by omega) (show r90.toInt ≤ 11 by omega) (show 0 ≤ x123.toInt by omega) (show x123.toInt ≤ 129 by omega) (show 0 ≤ f145_12__9_a1_toInt_217_toNat.toInt by omega) (show f145_12__9_a1_toInt_217_toNat.toInt ≤ 9 by omega) (show 1 ≤ x96.toInt by omega) (show x96.toInt ≤ 12 by omega)  hw hT hF c167 c168 (lv_sub hl [2, 3, 4, 5, 6, 7, 8, 9, 10, 11, 1, 0] rfl)
            · have c161 : x159.toInt = x160.toInt := wk_eq.mp c161
              refine lv_iconst (v := 1) hx hb dX12_leads_231 (by decide) ?_
              refine lv_goto (tgt := 236) hx hb dX12_leads_232 (by decide) ?_
              refine lv_iload hx hb dX12_leads_236 (lv_at hl 9 rfl) ?_
              refine tk_Vv hC hK hw hT hA hE hSR kM_at0 (by decide) rfl (k_X12_could_4 l adK adV dC dI cy ad B (by omega) (by omega) qr s1   x123 (show 0 ≤ x123.toInt by omega) (show x123.toInt ≤ 120 by omega) r125 (show 0 ≤ r125.toInt by omega) (show r125.toInt ≤ 9 by omega) v145_7 w127 H.size hT ) (cwV 4 hC.2.2.2.2 gX12_leads_X12_could rfl rfl rfl (by decide +kernel) ⟨Nat.le_of_ble_eq_true rfl, Nat.le_of_ble_eq_true rfl⟩) rfl hl.1 rfl (Nat.le_of_ble_eq_true rfl) dX12_leads_238 (fun w173 H locs hp172 hw => ?_)
              obtain ⟨hT, k174, hg175⟩ := hp172
              have hF := hF.tr k174 (by decide)
              have c176 := k174.gi kM_at12 rfl c135
              have c177 := k174.gi kM_at12 (by decide) c136
              have c178 := k174.gi kM_at12 rfl c137
              have c179 := k174.gi kM_at12 rfl c133
              clear hg175
              exact J241 v145_7 v145_8 v145_9 r90 x123 f145_12__9_a1_toInt_217_toNat x96 H locs ls w173 (show 0 ≤ a1.toInt by omega) (show a1.toInt ≤ 3 by omega) (show 0 ≤ a2.toInt by omega) (show a2.toInt ≤ 1073741824 by omega) (show 0 ≤ a3.toInt by omega) (show a3.toInt ≤ 120 by omega) (show 0 ≤ a4.toInt by omega) (show a4.toInt ≤ 9 by omega) (show 0 ≤ a6.toInt by omega) (show a6.toInt ≤ 120 by omega) (show 0 ≤ v145_8.toInt by omega) (show v145_8.toInt ≤ 1073741944 by omega) (show 0 ≤ v145_9.toInt by omega) (show v145_9.toInt ≤ 1 by omega) (show 0 ≤ r90.toInt by omega) (show r90.toInt ≤ 11 by omega) (show 0 ≤ x123.toInt by omega) (show x123.toInt ≤ 129 by omega) (show 0 ≤ f145_12__9_a1_toInt_217_toNat.toInt by omega) (show f145_12__9_a1_toInt_217_toNat.toInt ≤ 9 by omega) (show 1 ≤ x96.toInt by omega) (show x96.toInt ≤ 12 by omega)  hw hT hF c176 c177 (lv_sub hl [2, 3, 4, 5, 6, 7, 8, 9, 10, 11, 1, 0] rfl)
      · refine lv_if_ne (tgt := 182) hx hb dX12_leads_178 (by decide) (fun _ => ?_) (fun c => absurd c (by decide))
        refine lv_iload_n hx hb dX12_leads_182 rfl (lv_at hl 4 rfl) ?_
        refine lv_aload_n hx hb dX12_leads_183 rfl (lv_at hl 1 rfl) ?_
        refine lv_iload hx hb dX12_leads_184 (lv_at hl 0 rfl) ?_
        refine lv_iconst (v := 2) hx hb dX12_leads_186 (by decide) ?_
        refine tk_Vi hC hK hw hT hA hE hSR kM_at0 (by decide) rfl (k_X12_streetOf_6 l adK adV dC dI cy ad B (by omega) (by omega) qr s1   r90 (show 0 ≤ r90.toInt by omega) (show r90.toInt ≤ 11 by omega) w107 H.size hT ) (cwV 2 hC.2.2.2.2 gX12_leads_X12_streetOf rfl rfl rfl (by decide +kernel) ⟨Nat.le_of_ble_eq_true rfl, Nat.le_of_ble_eq_true rfl⟩) rfl hl.1 rfl (Nat.le_of_ble_eq_true rfl) dX12_leads_187 (fun r180 w182 H locs hp181 hw => ?_)
        obtain ⟨hT, k183, hg187⟩ := hp181
        have hF := hF.tr k183 (by decide)
        have c188 := k183.gi kM_at12 rfl c111
        have c189 := k183.gi kM_at12 (by decide) c112
        have c190 := k183.gi kM_at12 rfl c109
        obtain ⟨g184, g185, c186⟩ := hg187
        refine lv_iadd hx hb dX12_leads_190 ?_
        refine lv_topi (fun x191 ex191 => ?_)
        have ex191 : x191.toInt = a3.toInt + r180.toInt := by rw [ex191]; exact wk_add (show (-2147483648) ≤ a3.toInt + r180.toInt by omega) (show a3.toInt + r180.toInt ≤ 2147483647 by omega)
        refine lv_istore (lv' := [(11, .int x191), (10, .int r90), (0, .ref (ad 0)), (1, .int a1), (2, .int a2), (3, .int a3), (4, .int a4), (5, .int 1), (6, .int a6), (7, .int v145_7), (8, .int v145_8), (9, .int v145_9)]) hx hb dX12_leads_191 hl (by decide) rfl (fun ls hl => ?_)
        refine lv_iload hx hb dX12_leads_193 (lv_at hl 0 rfl) ?_
        refine lv_iload hx hb dX12_leads_195 (lv_at hl 8 rfl) ?_
        refine lv_icmp_gt (tgt := 241) hx hb dX12_leads_197 (by decide) (fun c192 => ?_) (fun c192 => ?_)
        · have c192 : a6.toInt < x191.toInt := wk_lt.mp c192
          exact J241 v145_7 v145_8 v145_9 r90 x191 f145_12__9_a1_toInt_217_toNat x96 H locs ls w182 (show 0 ≤ a1.toInt by omega) (show a1.toInt ≤ 3 by omega) (show 0 ≤ a2.toInt by omega) (show a2.toInt ≤ 1073741824 by omega) (show 0 ≤ a3.toInt by omega) (show a3.toInt ≤ 120 by omega) (show 0 ≤ a4.toInt by omega) (show a4.toInt ≤ 9 by omega) (show 0 ≤ a6.toInt by omega) (show a6.toInt ≤ 120 by omega) (show 0 ≤ v145_8.toInt by omega) (show v145_8.toInt ≤ 1073741944 by omega) (show 0 ≤ v145_9.toInt by omega) (show v145_9.toInt ≤ 1 by omega) (show 0 ≤ r90.toInt by omega) (show r90.toInt ≤ 11 by omega) (show 0 ≤ x191.toInt by omega) (show x191.toInt ≤ 129 by omega) (show 0 ≤ f145_12__9_a1_toInt_217_toNat.toInt by omega) (show f145_12__9_a1_toInt_217_toNat.toInt ≤ 9 by omega) (show 1 ≤ x96.toInt by omega) (show x96.toInt ≤ 12 by omega)  hw hT hF c188 c189 (lv_sub hl [2, 3, 4, 5, 6, 7, 8, 9, 10, 11, 1, 0] rfl)
        · have c192 : x191.toInt ≤ a6.toInt := wk_ltF c192
          refine lv_aload_n hx hb dX12_leads_200 rfl (lv_at hl 2 rfl) ?_
          refine lv_iload hx hb dX12_leads_201 (lv_at hl 0 rfl) ?_
          refine lv_aload_n hx hb dX12_leads_203 rfl (lv_at hl 2 rfl) ?_
          refine lv_iload hx hb dX12_leads_204 (lv_at hl 1 rfl) ?_
          refine lv_iload hx hb dX12_leads_206 (lv_at hl 6 rfl) ?_
          refine tk_Vi hC hK hw hT hA hE hSR kM_at0 (by decide) rfl (k_X12_otherOf_1 l adK adV dC dI cy ad B (by omega) (by omega) qr s1   r90 (show 0 ≤ r90.toInt by omega) (show r90.toInt ≤ 11 by omega) a4 (show 0 ≤ a4.toInt by omega) (show a4.toInt ≤ 9 by omega) w182 H.size hT ) (cwV 2 hC.2.2.2.2 gX12_leads_X12_otherOf rfl rfl rfl (by decide +kernel) ⟨Nat.le_of_ble_eq_true rfl, Nat.le_of_ble_eq_true rfl⟩) rfl hl.1 rfl (Nat.le_of_ble_eq_true rfl) dX12_leads_208 (fun r193 w195 H locs hp194 hw => ?_)
          obtain ⟨hT, k196, hg202⟩ := hp194
          have hF := hF.tr k196 (by decide)
          have c203 := k196.gi kM_at12 rfl c188
          have c204 := k196.gi kM_at12 (by decide) c189
          have c205 := k196.gi kM_at12 rfl c190
          have c206 := k196.gi kM_at12 rfl c186
          rcases hg202 with ⟨g197, g198⟩ | ⟨g199, g200, c201⟩
          · refine lv_iload hx hb dX12_leads_211 (lv_at hl 7 rfl) ?_
            refine lv_if_eq (tgt := 235) hx hb dX12_leads_213 (by decide) (fun c => absurd c (by decide)) (fun _ => ?_)
            refine lv_iload_n hx hb dX12_leads_216 rfl (lv_at hl 4 rfl) ?_
            refine lv_iload hx hb dX12_leads_217 (lv_at hl 0 rfl) ?_
            refine lv_iadd hx hb dX12_leads_219 ?_
            refine lv_topi (fun x207 ex207 => ?_)
            have ex207 : x207.toInt = a2.toInt + x191.toInt := by rw [ex207]; exact wk_add (show (-2147483648) ≤ a2.toInt + x191.toInt by omega) (show a2.toInt + x191.toInt ≤ 2147483647 by omega)
            refine lv_bipush (v := 24) hx hb dX12_leads_220 (by decide) ?_
            refine lv_idiv hx hb dX12_leads_222 (by decide) ?_
            refine lv_topi (fun x208 ex208 => ?_)
            have ex208 : x208.toInt = x207.toInt / (24 : Int) := by rw [ex208]; exact wk_div (show 0 ≤ x207.toInt by omega) (show 0 < (24 : Int) by decide)
            refine lv_iload hx hb dX12_leads_223 (lv_at hl 10 rfl) ?_
            refine lv_bipush (v := 24) hx hb dX12_leads_225 (by decide) ?_
            refine lv_idiv hx hb dX12_leads_227 (by decide) ?_
            refine lv_topi (fun x209 ex209 => ?_)
            have ex209 : x209.toInt = v145_8.toInt / (24 : Int) := by rw [ex209]; exact wk_div (show 0 ≤ v145_8.toInt by omega) (show 0 < (24 : Int) by decide)
            refine lv_icmp_ne (tgt := 235) hx hb dX12_leads_228 (by decide) (fun c210 => ?_) (fun c210 => ?_)
            · have c210 : ¬ x208.toInt = x209.toInt := wk_eqF c210
              refine lv_iconst (v := 0) hx hb dX12_leads_235 (by decide) ?_
              refine lv_iload hx hb dX12_leads_236 (lv_at hl 9 rfl) ?_
              refine tk_Vv hC hK hw hT hA hE hSR kM_at0 (by decide) rfl (k_X12_could_1 l adK adV dC dI cy ad B (by omega) (by omega) qr s1   x191 (show 0 ≤ x191.toInt by omega) (show x191.toInt ≤ 120 by omega) r193 (show 0 ≤ r193.toInt by omega) (show r193.toInt ≤ 9 by omega) v145_7 w195 H.size hT ) (cwV 4 hC.2.2.2.2 gX12_leads_X12_could rfl rfl rfl (by decide +kernel) ⟨Nat.le_of_ble_eq_true rfl, Nat.le_of_ble_eq_true rfl⟩) rfl hl.1 rfl (Nat.le_of_ble_eq_true rfl) dX12_leads_238 (fun w213 H locs hp212 hw => ?_)
              obtain ⟨hT, k214, hg215⟩ := hp212
              have hF := hF.tr k214 (by decide)
              have c216 := k214.gi kM_at12 rfl c203
              have c217 := k214.gi kM_at12 (by decide) c204
              have c218 := k214.gi kM_at12 rfl c205
              have c219 := k214.gi kM_at12 rfl c206
              clear hg215
              exact J241 v145_7 v145_8 v145_9 r90 x191 f145_12__9_a1_toInt_217_toNat x96 H locs ls w213 (show 0 ≤ a1.toInt by omega) (show a1.toInt ≤ 3 by omega) (show 0 ≤ a2.toInt by omega) (show a2.toInt ≤ 1073741824 by omega) (show 0 ≤ a3.toInt by omega) (show a3.toInt ≤ 120 by omega) (show 0 ≤ a4.toInt by omega) (show a4.toInt ≤ 9 by omega) (show 0 ≤ a6.toInt by omega) (show a6.toInt ≤ 120 by omega) (show 0 ≤ v145_8.toInt by omega) (show v145_8.toInt ≤ 1073741944 by omega) (show 0 ≤ v145_9.toInt by omega) (show v145_9.toInt ≤ 1 by omega) (show 0 ≤ r90.toInt by omega) (show r90.toInt ≤ 11 by omega) (show 0 ≤ x191.toInt by omega) (show x191.toInt ≤ 129 by omega) (show 0 ≤ f145_12__9_a1_toInt_217_toNat.toInt by omega) (show f145_12__9_a1_toInt_217_toNat.toInt ≤ 9 by omega) (show 1 ≤ x96.toInt by omega) (show x96.toInt ≤ 12 by omega)  hw hT hF c216 c217 (lv_sub hl [2, 3, 4, 5, 6, 7, 8, 9, 10, 11, 1, 0] rfl)
            · have c210 : x208.toInt = x209.toInt := wk_eq.mp c210
              refine lv_iconst (v := 1) hx hb dX12_leads_231 (by decide) ?_
              refine lv_goto (tgt := 236) hx hb dX12_leads_232 (by decide) ?_
              refine lv_iload hx hb dX12_leads_236 (lv_at hl 9 rfl) ?_
              refine tk_Vv hC hK hw hT hA hE hSR kM_at0 (by decide) rfl (k_X12_could_4 l adK adV dC dI cy ad B (by omega) (by omega) qr s1   x191 (show 0 ≤ x191.toInt by omega) (show x191.toInt ≤ 120 by omega) r193 (show 0 ≤ r193.toInt by omega) (show r193.toInt ≤ 9 by omega) v145_7 w195 H.size hT ) (cwV 4 hC.2.2.2.2 gX12_leads_X12_could rfl rfl rfl (by decide +kernel) ⟨Nat.le_of_ble_eq_true rfl, Nat.le_of_ble_eq_true rfl⟩) rfl hl.1 rfl (Nat.le_of_ble_eq_true rfl) dX12_leads_238 (fun w222 H locs hp221 hw => ?_)
              obtain ⟨hT, k223, hg224⟩ := hp221
              have hF := hF.tr k223 (by decide)
              have c225 := k223.gi kM_at12 rfl c203
              have c226 := k223.gi kM_at12 (by decide) c204
              have c227 := k223.gi kM_at12 rfl c205
              have c228 := k223.gi kM_at12 rfl c206
              clear hg224
              exact J241 v145_7 v145_8 v145_9 r90 x191 f145_12__9_a1_toInt_217_toNat x96 H locs ls w222 (show 0 ≤ a1.toInt by omega) (show a1.toInt ≤ 3 by omega) (show 0 ≤ a2.toInt by omega) (show a2.toInt ≤ 1073741824 by omega) (show 0 ≤ a3.toInt by omega) (show a3.toInt ≤ 120 by omega) (show 0 ≤ a4.toInt by omega) (show a4.toInt ≤ 9 by omega) (show 0 ≤ a6.toInt by omega) (show a6.toInt ≤ 120 by omega) (show 0 ≤ v145_8.toInt by omega) (show v145_8.toInt ≤ 1073741944 by omega) (show 0 ≤ v145_9.toInt by omega) (show v145_9.toInt ≤ 1 by omega) (show 0 ≤ r90.toInt by omega) (show r90.toInt ≤ 11 by omega) (show 0 ≤ x191.toInt by omega) (show x191.toInt ≤ 129 by omega) (show 0 ≤ f145_12__9_a1_toInt_217_toNat.toInt by omega) (show f145_12__9_a1_toInt_217_toNat.toInt ≤ 9 by omega) (show 1 ≤ x96.toInt by omega) (show x96.toInt ≤ 12 by omega)  hw hT hF c225 c226 (lv_sub hl [2, 3, 4, 5, 6, 7, 8, 9, 10, 11, 1, 0] rfl)
          · refine lv_iload hx hb dX12_leads_211 (lv_at hl 7 rfl) ?_
            refine lv_if_eq (tgt := 235) hx hb dX12_leads_213 (by decide) (fun c => absurd c (by decide)) (fun _ => ?_)
            refine lv_iload_n hx hb dX12_leads_216 rfl (lv_at hl 4 rfl) ?_
            refine lv_iload hx hb dX12_leads_217 (lv_at hl 0 rfl) ?_
            refine lv_iadd hx hb dX12_leads_219 ?_
            refine lv_topi (fun x229 ex229 => ?_)
            have ex229 : x229.toInt = a2.toInt + x191.toInt := by rw [ex229]; exact wk_add (show (-2147483648) ≤ a2.toInt + x191.toInt by omega) (show a2.toInt + x191.toInt ≤ 2147483647 by omega)
            refine lv_bipush (v := 24) hx hb dX12_leads_220 (by decide) ?_
            refine lv_idiv hx hb dX12_leads_222 (by decide) ?_
            refine lv_topi (fun x230 ex230 => ?_)
            have ex230 : x230.toInt = x229.toInt / (24 : Int) := by rw [ex230]; exact wk_div (show 0 ≤ x229.toInt by omega) (show 0 < (24 : Int) by decide)
            refine lv_iload hx hb dX12_leads_223 (lv_at hl 10 rfl) ?_
            refine lv_bipush (v := 24) hx hb dX12_leads_225 (by decide) ?_
            refine lv_idiv hx hb dX12_leads_227 (by decide) ?_
            refine lv_topi (fun x231 ex231 => ?_)
            have ex231 : x231.toInt = v145_8.toInt / (24 : Int) := by rw [ex231]; exact wk_div (show 0 ≤ v145_8.toInt by omega) (show 0 < (24 : Int) by decide)
            refine lv_icmp_ne (tgt := 235) hx hb dX12_leads_228 (by decide) (fun c232 => ?_) (fun c232 => ?_)
            · have c232 : ¬ x230.toInt = x231.toInt := wk_eqF c232
              refine lv_iconst (v := 0) hx hb dX12_leads_235 (by decide) ?_
              refine lv_iload hx hb dX12_leads_236 (lv_at hl 9 rfl) ?_
              refine tk_Vv hC hK hw hT hA hE hSR kM_at0 (by decide) rfl (k_X12_could_1 l adK adV dC dI cy ad B (by omega) (by omega) qr s1   x191 (show 0 ≤ x191.toInt by omega) (show x191.toInt ≤ 120 by omega) r193 (show 0 ≤ r193.toInt by omega) (show r193.toInt ≤ 9 by omega) v145_7 w195 H.size hT ) (cwV 4 hC.2.2.2.2 gX12_leads_X12_could rfl rfl rfl (by decide +kernel) ⟨Nat.le_of_ble_eq_true rfl, Nat.le_of_ble_eq_true rfl⟩) rfl hl.1 rfl (Nat.le_of_ble_eq_true rfl) dX12_leads_238 (fun w235 H locs hp234 hw => ?_)
              obtain ⟨hT, k236, hg237⟩ := hp234
              have hF := hF.tr k236 (by decide)
              have c238 := k236.gi kM_at12 rfl c203
              have c239 := k236.gi kM_at12 (by decide) c204
              have c240 := k236.gi kM_at12 rfl c205
              have c241 := k236.gi kM_at12 rfl c206
              clear hg237
              exact J241 v145_7 v145_8 v145_9 r90 x191 f145_12__9_a1_toInt_217_toNat x96 H locs ls w235 (show 0 ≤ a1.toInt by omega) (show a1.toInt ≤ 3 by omega) (show 0 ≤ a2.toInt by omega) (show a2.toInt ≤ 1073741824 by omega) (show 0 ≤ a3.toInt by omega) (show a3.toInt ≤ 120 by omega) (show 0 ≤ a4.toInt by omega) (show a4.toInt ≤ 9 by omega) (show 0 ≤ a6.toInt by omega) (show a6.toInt ≤ 120 by omega) (show 0 ≤ v145_8.toInt by omega) (show v145_8.toInt ≤ 1073741944 by omega) (show 0 ≤ v145_9.toInt by omega) (show v145_9.toInt ≤ 1 by omega) (show 0 ≤ r90.toInt by omega) (show r90.toInt ≤ 11 by omega) (show 0 ≤ x191.toInt by omega) (show x191.toInt ≤ 129 by omega) (show 0 ≤ f145_12__9_a1_toInt_217_toNat.toInt by omega) (show f145_12__9_a1_toInt_217_toNat.toInt ≤ 9 by omega) (show 1 ≤ x96.toInt by omega) (show x96.toInt ≤ 12 by omega)  hw hT hF c238 c239 (lv_sub hl [2, 3, 4, 5, 6, 7, 8, 9, 10, 11, 1, 0] rfl)
            · have c232 : x230.toInt = x231.toInt := wk_eq.mp c232
              refine lv_iconst (v := 1) hx hb dX12_leads_231 (by decide) ?_
              refine lv_goto (tgt := 236) hx hb dX12_leads_232 (by decide) ?_
              refine lv_iload hx hb dX12_leads_236 (lv_at hl 9 rfl) ?_
              refine tk_Vv hC hK hw hT hA hE hSR kM_at0 (by decide) rfl (k_X12_could_4 l adK adV dC dI cy ad B (by omega) (by omega) qr s1   x191 (show 0 ≤ x191.toInt by omega) (show x191.toInt ≤ 120 by omega) r193 (show 0 ≤ r193.toInt by omega) (show r193.toInt ≤ 9 by omega) v145_7 w195 H.size hT ) (cwV 4 hC.2.2.2.2 gX12_leads_X12_could rfl rfl rfl (by decide +kernel) ⟨Nat.le_of_ble_eq_true rfl, Nat.le_of_ble_eq_true rfl⟩) rfl hl.1 rfl (Nat.le_of_ble_eq_true rfl) dX12_leads_238 (fun w244 H locs hp243 hw => ?_)
              obtain ⟨hT, k245, hg246⟩ := hp243
              have hF := hF.tr k245 (by decide)
              have c247 := k245.gi kM_at12 rfl c203
              have c248 := k245.gi kM_at12 (by decide) c204
              have c249 := k245.gi kM_at12 rfl c205
              have c250 := k245.gi kM_at12 rfl c206
              clear hg246
              exact J241 v145_7 v145_8 v145_9 r90 x191 f145_12__9_a1_toInt_217_toNat x96 H locs ls w244 (show 0 ≤ a1.toInt by omega) (show a1.toInt ≤ 3 by omega) (show 0 ≤ a2.toInt by omega) (show a2.toInt ≤ 1073741824 by omega) (show 0 ≤ a3.toInt by omega) (show a3.toInt ≤ 120 by omega) (show 0 ≤ a4.toInt by omega) (show a4.toInt ≤ 9 by omega) (show 0 ≤ a6.toInt by omega) (show a6.toInt ≤ 120 by omega) (show 0 ≤ v145_8.toInt by omega) (show v145_8.toInt ≤ 1073741944 by omega) (show 0 ≤ v145_9.toInt by omega) (show v145_9.toInt ≤ 1 by omega) (show 0 ≤ r90.toInt by omega) (show r90.toInt ≤ 11 by omega) (show 0 ≤ x191.toInt by omega) (show x191.toInt ≤ 129 by omega) (show 0 ≤ f145_12__9_a1_toInt_217_toNat.toInt by omega) (show f145_12__9_a1_toInt_217_toNat.toInt ≤ 9 by omega) (show 1 ≤ x96.toInt by omega) (show x96.toInt ≤ 12 by omega)  hw hT hF c247 c248 (lv_sub hl [2, 3, 4, 5, 6, 7, 8, 9, 10, 11, 1, 0] rfl)
    · refine lv_istore (lv' := [(10, .int r90), (0, .ref (ad 0)), (1, .int a1), (2, .int a2), (3, .int a3), (4, .int a4), (5, .int 1), (6, .int a6), (7, .int v145_7), (8, .int v145_8), (9, .int v145_9)]) hx hb dX12_leads_161 hl (by decide) rfl (fun ls hl => ?_)
      refine lv_iload hx hb dX12_leads_163 (lv_at hl 0 rfl) ?_
      refine lv_if_lt (tgt := 181) hx hb dX12_leads_165 (by decide) (fun c => absurd c (fun h => absurd (show r90.toInt < (0 : Int) from wk_lt.mp h) (by omega))) (fun _ => ?_)
      refine lv_aload_n hx hb dX12_leads_168 rfl (lv_at hl 1 rfl) ?_
      refine lv_iload hx hb dX12_leads_169 (lv_at hl 0 rfl) ?_
      refine lv_iload hx hb dX12_leads_171 (lv_at hl 5 rfl) ?_
      refine lv_iload hx hb dX12_leads_173 (lv_at hl 9 rfl) ?_
      refine tk_Vi hC hK hw hT hA hE hSR kM_at0 (by decide) rfl (k_X12_isOpen_2 l adK adV dC dI cy ad B (by omega) (by omega) qr s1   r90 (show 0 ≤ r90.toInt by omega) (show r90.toInt ≤ 11 by omega) a4 (show 0 ≤ a4.toInt by omega) (show a4.toInt ≤ 9 by omega) v145_8 (show 0 ≤ v145_8.toInt by omega) (show v145_8.toInt ≤ 1073741944 by omega) w92 H.size hT ) (cwV 3 hC.2.2.2.2 gX12_leads_X12_isOpen rfl rfl rfl (by decide +kernel) ⟨Nat.le_of_ble_eq_true rfl, Nat.le_of_ble_eq_true rfl⟩) rfl hl.1 rfl (Nat.le_of_ble_eq_true rfl) dX12_leads_175 (fun r251 w253 H locs hp252 hw => ?_)
      obtain ⟨hT, k254, hg256⟩ := hp252
      have hF := hF.tr k254 (by decide)
      have c257 := k254.gi kM_at12 rfl c104
      have c258 := k254.gi kM_at12 (by decide) c101
      have c259 := k254.gi kM_at12 rfl c102
      rcases hg256 with rfl | rfl | ⟨rfl, c255⟩
      · refine lv_if_ne (tgt := 182) hx hb dX12_leads_178 (by decide) (fun c => absurd (by decide) c) (fun _ => ?_)
        exact J181 v145_7 v145_8 v145_9 r90 f145_12__9_a1_toInt_217_toNat H locs ls w253 (show 0 ≤ a1.toInt by omega) (show a1.toInt ≤ 3 by omega) (show 0 ≤ a2.toInt by omega) (show a2.toInt ≤ 1073741824 by omega) (show 0 ≤ a3.toInt by omega) (show a3.toInt ≤ 120 by omega) (show 0 ≤ a4.toInt by omega) (show a4.toInt ≤ 9 by omega) (show 0 ≤ a6.toInt by omega) (show a6.toInt ≤ 120 by omega) (show 0 ≤ v145_8.toInt by omega) (show v145_8.toInt ≤ 1073741944 by omega) (show 0 ≤ v145_9.toInt by omega) (show v145_9.toInt ≤ 1 by omega) (show (-1) ≤ r90.toInt by omega) (show r90.toInt ≤ 11 by omega) (show 0 ≤ f145_12__9_a1_toInt_217_toNat.toInt by omega) (show f145_12__9_a1_toInt_217_toNat.toInt ≤ 9 by omega)  hw hT hF c257 (lv_sub hl [1, 2, 3, 4, 5, 6, 7, 8, 9, 10, 0] rfl)
      · refine lv_if_ne (tgt := 182) hx hb dX12_leads_178 (by decide) (fun _ => ?_) (fun c => absurd c (by decide))
        refine lv_iload_n hx hb dX12_leads_182 rfl (lv_at hl 4 rfl) ?_
        refine lv_aload_n hx hb dX12_leads_183 rfl (lv_at hl 1 rfl) ?_
        refine lv_iload hx hb dX12_leads_184 (lv_at hl 0 rfl) ?_
        refine lv_iconst (v := 2) hx hb dX12_leads_186 (by decide) ?_
        refine tk_Vi hC hK hw hT hA hE hSR kM_at0 (by decide) rfl (k_X12_streetOf_6 l adK adV dC dI cy ad B (by omega) (by omega) qr s1   r90 (show 0 ≤ r90.toInt by omega) (show r90.toInt ≤ 11 by omega) w253 H.size hT ) (cwV 2 hC.2.2.2.2 gX12_leads_X12_streetOf rfl rfl rfl (by decide +kernel) ⟨Nat.le_of_ble_eq_true rfl, Nat.le_of_ble_eq_true rfl⟩) rfl hl.1 rfl (Nat.le_of_ble_eq_true rfl) dX12_leads_187 (fun r260 w262 H locs hp261 hw => ?_)
        obtain ⟨hT, k263, hg267⟩ := hp261
        have hF := hF.tr k263 (by decide)
        have c268 := k263.gi kM_at12 rfl c257
        have c269 := k263.gi kM_at12 (by decide) c258
        have c270 := k263.gi kM_at12 rfl c259
        obtain ⟨g264, g265, c266⟩ := hg267
        refine lv_iadd hx hb dX12_leads_190 ?_
        refine lv_topi (fun x271 ex271 => ?_)
        have ex271 : x271.toInt = a3.toInt + r260.toInt := by rw [ex271]; exact wk_add (show (-2147483648) ≤ a3.toInt + r260.toInt by omega) (show a3.toInt + r260.toInt ≤ 2147483647 by omega)
        refine lv_istore (lv' := [(11, .int x271), (10, .int r90), (0, .ref (ad 0)), (1, .int a1), (2, .int a2), (3, .int a3), (4, .int a4), (5, .int 1), (6, .int a6), (7, .int v145_7), (8, .int v145_8), (9, .int v145_9)]) hx hb dX12_leads_191 hl (by decide) rfl (fun ls hl => ?_)
        refine lv_iload hx hb dX12_leads_193 (lv_at hl 0 rfl) ?_
        refine lv_iload hx hb dX12_leads_195 (lv_at hl 8 rfl) ?_
        refine lv_icmp_gt (tgt := 241) hx hb dX12_leads_197 (by decide) (fun c272 => ?_) (fun c272 => ?_)
        · have c272 : a6.toInt < x271.toInt := wk_lt.mp c272
          exact J241 v145_7 v145_8 v145_9 r90 x271 f145_12__9_a1_toInt_217_toNat x100 H locs ls w262 (show 0 ≤ a1.toInt by omega) (show a1.toInt ≤ 3 by omega) (show 0 ≤ a2.toInt by omega) (show a2.toInt ≤ 1073741824 by omega) (show 0 ≤ a3.toInt by omega) (show a3.toInt ≤ 120 by omega) (show 0 ≤ a4.toInt by omega) (show a4.toInt ≤ 9 by omega) (show 0 ≤ a6.toInt by omega) (show a6.toInt ≤ 120 by omega) (show 0 ≤ v145_8.toInt by omega) (show v145_8.toInt ≤ 1073741944 by omega) (show 0 ≤ v145_9.toInt by omega) (show v145_9.toInt ≤ 1 by omega) (show 0 ≤ r90.toInt by omega) (show r90.toInt ≤ 11 by omega) (show 0 ≤ x271.toInt by omega) (show x271.toInt ≤ 129 by omega) (show 0 ≤ f145_12__9_a1_toInt_217_toNat.toInt by omega) (show f145_12__9_a1_toInt_217_toNat.toInt ≤ 9 by omega) (show 1 ≤ x100.toInt by omega) (show x100.toInt ≤ 12 by omega)  hw hT hF c268 c269 (lv_sub hl [2, 3, 4, 5, 6, 7, 8, 9, 10, 11, 1, 0] rfl)
        · have c272 : x271.toInt ≤ a6.toInt := wk_ltF c272
          refine lv_aload_n hx hb dX12_leads_200 rfl (lv_at hl 2 rfl) ?_
          refine lv_iload hx hb dX12_leads_201 (lv_at hl 0 rfl) ?_
          refine lv_aload_n hx hb dX12_leads_203 rfl (lv_at hl 2 rfl) ?_
          refine lv_iload hx hb dX12_leads_204 (lv_at hl 1 rfl) ?_
          refine lv_iload hx hb dX12_leads_206 (lv_at hl 6 rfl) ?_
          refine tk_Vi hC hK hw hT hA hE hSR kM_at0 (by decide) rfl (k_X12_otherOf_1 l adK adV dC dI cy ad B (by omega) (by omega) qr s1   r90 (show 0 ≤ r90.toInt by omega) (show r90.toInt ≤ 11 by omega) a4 (show 0 ≤ a4.toInt by omega) (show a4.toInt ≤ 9 by omega) w262 H.size hT ) (cwV 2 hC.2.2.2.2 gX12_leads_X12_otherOf rfl rfl rfl (by decide +kernel) ⟨Nat.le_of_ble_eq_true rfl, Nat.le_of_ble_eq_true rfl⟩) rfl hl.1 rfl (Nat.le_of_ble_eq_true rfl) dX12_leads_208 (fun r273 w275 H locs hp274 hw => ?_)
          obtain ⟨hT, k276, hg282⟩ := hp274
          have hF := hF.tr k276 (by decide)
          have c283 := k276.gi kM_at12 rfl c268
          have c284 := k276.gi kM_at12 (by decide) c269
          have c285 := k276.gi kM_at12 rfl c270
          have c286 := k276.gi kM_at12 rfl c266
          rcases hg282 with ⟨g277, g278⟩ | ⟨g279, g280, c281⟩
          · refine lv_iload hx hb dX12_leads_211 (lv_at hl 7 rfl) ?_
            refine lv_if_eq (tgt := 235) hx hb dX12_leads_213 (by decide) (fun c => absurd c (by decide)) (fun _ => ?_)
            refine lv_iload_n hx hb dX12_leads_216 rfl (lv_at hl 4 rfl) ?_
            refine lv_iload hx hb dX12_leads_217 (lv_at hl 0 rfl) ?_
            refine lv_iadd hx hb dX12_leads_219 ?_
            refine lv_topi (fun x287 ex287 => ?_)
            have ex287 : x287.toInt = a2.toInt + x271.toInt := by rw [ex287]; exact wk_add (show (-2147483648) ≤ a2.toInt + x271.toInt by omega) (show a2.toInt + x271.toInt ≤ 2147483647 by omega)
            refine lv_bipush (v := 24) hx hb dX12_leads_220 (by decide) ?_
            refine lv_idiv hx hb dX12_leads_222 (by decide) ?_
            refine lv_topi (fun x288 ex288 => ?_)
            have ex288 : x288.toInt = x287.toInt / (24 : Int) := by rw [ex288]; exact wk_div (show 0 ≤ x287.toInt by omega) (show 0 < (24 : Int) by decide)
            refine lv_iload hx hb dX12_leads_223 (lv_at hl 10 rfl) ?_
            refine lv_bipush (v := 24) hx hb dX12_leads_225 (by decide) ?_
            refine lv_idiv hx hb dX12_leads_227 (by decide) ?_
            refine lv_topi (fun x289 ex289 => ?_)
            have ex289 : x289.toInt = v145_8.toInt / (24 : Int) := by rw [ex289]; exact wk_div (show 0 ≤ v145_8.toInt by omega) (show 0 < (24 : Int) by decide)
            refine lv_icmp_ne (tgt := 235) hx hb dX12_leads_228 (by decide) (fun c290 => ?_) (fun c290 => ?_)
            · have c290 : ¬ x288.toInt = x289.toInt := wk_eqF c290
              refine lv_iconst (v := 0) hx hb dX12_leads_235 (by decide) ?_
              refine lv_iload hx hb dX12_leads_236 (lv_at hl 9 rfl) ?_
              refine tk_Vv hC hK hw hT hA hE hSR kM_at0 (by decide) rfl (k_X12_could_1 l adK adV dC dI cy ad B (by omega) (by omega) qr s1   x271 (show 0 ≤ x271.toInt by omega) (show x271.toInt ≤ 120 by omega) r273 (show 0 ≤ r273.toInt by omega) (show r273.toInt ≤ 9 by omega) v145_7 w275 H.size hT ) (cwV 4 hC.2.2.2.2 gX12_leads_X12_could rfl rfl rfl (by decide +kernel) ⟨Nat.le_of_ble_eq_true rfl, Nat.le_of_ble_eq_true rfl⟩) rfl hl.1 rfl (Nat.le_of_ble_eq_true rfl) dX12_leads_238 (fun w293 H locs hp292 hw => ?_)
              obtain ⟨hT, k294, hg295⟩ := hp292
              have hF := hF.tr k294 (by decide)
              have c296 := k294.gi kM_at12 rfl c283
              have c297 := k294.gi kM_at12 (by decide) c284
              have c298 := k294.gi kM_at12 rfl c285
              have c299 := k294.gi kM_at12 rfl c286
              clear hg295
              exact J241 v145_7 v145_8 v145_9 r90 x271 f145_12__9_a1_toInt_217_toNat x100 H locs ls w293 (show 0 ≤ a1.toInt by omega) (show a1.toInt ≤ 3 by omega) (show 0 ≤ a2.toInt by omega) (show a2.toInt ≤ 1073741824 by omega) (show 0 ≤ a3.toInt by omega) (show a3.toInt ≤ 120 by omega) (show 0 ≤ a4.toInt by omega) (show a4.toInt ≤ 9 by omega) (show 0 ≤ a6.toInt by omega) (show a6.toInt ≤ 120 by omega) (show 0 ≤ v145_8.toInt by omega) (show v145_8.toInt ≤ 1073741944 by omega) (show 0 ≤ v145_9.toInt by omega) (show v145_9.toInt ≤ 1 by omega) (show 0 ≤ r90.toInt by omega) (show r90.toInt ≤ 11 by omega) (show 0 ≤ x271.toInt by omega) (show x271.toInt ≤ 129 by omega) (show 0 ≤ f145_12__9_a1_toInt_217_toNat.toInt by omega) (show f145_12__9_a1_toInt_217_toNat.toInt ≤ 9 by omega) (show 1 ≤ x100.toInt by omega) (show x100.toInt ≤ 12 by omega)  hw hT hF c296 c297 (lv_sub hl [2, 3, 4, 5, 6, 7, 8, 9, 10, 11, 1, 0] rfl)
            · have c290 : x288.toInt = x289.toInt := wk_eq.mp c290
              refine lv_iconst (v := 1) hx hb dX12_leads_231 (by decide) ?_
              refine lv_goto (tgt := 236) hx hb dX12_leads_232 (by decide) ?_
              refine lv_iload hx hb dX12_leads_236 (lv_at hl 9 rfl) ?_
              refine tk_Vv hC hK hw hT hA hE hSR kM_at0 (by decide) rfl (k_X12_could_4 l adK adV dC dI cy ad B (by omega) (by omega) qr s1   x271 (show 0 ≤ x271.toInt by omega) (show x271.toInt ≤ 120 by omega) r273 (show 0 ≤ r273.toInt by omega) (show r273.toInt ≤ 9 by omega) v145_7 w275 H.size hT ) (cwV 4 hC.2.2.2.2 gX12_leads_X12_could rfl rfl rfl (by decide +kernel) ⟨Nat.le_of_ble_eq_true rfl, Nat.le_of_ble_eq_true rfl⟩) rfl hl.1 rfl (Nat.le_of_ble_eq_true rfl) dX12_leads_238 (fun w302 H locs hp301 hw => ?_)
              obtain ⟨hT, k303, hg304⟩ := hp301
              have hF := hF.tr k303 (by decide)
              have c305 := k303.gi kM_at12 rfl c283
              have c306 := k303.gi kM_at12 (by decide) c284
              have c307 := k303.gi kM_at12 rfl c285
              have c308 := k303.gi kM_at12 rfl c286
              clear hg304
              exact J241 v145_7 v145_8 v145_9 r90 x271 f145_12__9_a1_toInt_217_toNat x100 H locs ls w302 (show 0 ≤ a1.toInt by omega) (show a1.toInt ≤ 3 by omega) (show 0 ≤ a2.toInt by omega) (show a2.toInt ≤ 1073741824 by omega) (show 0 ≤ a3.toInt by omega) (show a3.toInt ≤ 120 by omega) (show 0 ≤ a4.toInt by omega) (show a4.toInt ≤ 9 by omega) (show 0 ≤ a6.toInt by omega) (show a6.toInt ≤ 120 by omega) (show 0 ≤ v145_8.toInt by omega) (show v145_8.toInt ≤ 1073741944 by omega) (show 0 ≤ v145_9.toInt by omega) (show v145_9.toInt ≤ 1 by omega) (show 0 ≤ r90.toInt by omega) (show r90.toInt ≤ 11 by omega) (show 0 ≤ x271.toInt by omega) (show x271.toInt ≤ 129 by omega) (show 0 ≤ f145_12__9_a1_toInt_217_toNat.toInt by omega) (show f145_12__9_a1_toInt_217_toNat.toInt ≤ 9 by omega) (show 1 ≤ x100.toInt by omega) (show x100.toInt ≤ 12 by omega)  hw hT hF c305 c306 (lv_sub hl [2, 3, 4, 5, 6, 7, 8, 9, 10, 11, 1, 0] rfl)
          · refine lv_iload hx hb dX12_leads_211 (lv_at hl 7 rfl) ?_
            refine lv_if_eq (tgt := 235) hx hb dX12_leads_213 (by decide) (fun c => absurd c (by decide)) (fun _ => ?_)
            refine lv_iload_n hx hb dX12_leads_216 rfl (lv_at hl 4 rfl) ?_
            refine lv_iload hx hb dX12_leads_217 (lv_at hl 0 rfl) ?_
            refine lv_iadd hx hb dX12_leads_219 ?_
            refine lv_topi (fun x309 ex309 => ?_)
            have ex309 : x309.toInt = a2.toInt + x271.toInt := by rw [ex309]; exact wk_add (show (-2147483648) ≤ a2.toInt + x271.toInt by omega) (show a2.toInt + x271.toInt ≤ 2147483647 by omega)
            refine lv_bipush (v := 24) hx hb dX12_leads_220 (by decide) ?_
            refine lv_idiv hx hb dX12_leads_222 (by decide) ?_
            refine lv_topi (fun x310 ex310 => ?_)
            have ex310 : x310.toInt = x309.toInt / (24 : Int) := by rw [ex310]; exact wk_div (show 0 ≤ x309.toInt by omega) (show 0 < (24 : Int) by decide)
            refine lv_iload hx hb dX12_leads_223 (lv_at hl 10 rfl) ?_
            refine lv_bipush (v := 24) hx hb dX12_leads_225 (by decide) ?_
            refine lv_idiv hx hb dX12_leads_227 (by decide) ?_
            refine lv_topi (fun x311 ex311 => ?_)
            have ex311 : x311.toInt = v145_8.toInt / (24 : Int) := by rw [ex311]; exact wk_div (show 0 ≤ v145_8.toInt by omega) (show 0 < (24 : Int) by decide)
            refine lv_icmp_ne (tgt := 235) hx hb dX12_leads_228 (by decide) (fun c312 => ?_) (fun c312 => ?_)
            · have c312 : ¬ x310.toInt = x311.toInt := wk_eqF c312
              refine lv_iconst (v := 0) hx hb dX12_leads_235 (by decide) ?_
              refine lv_iload hx hb dX12_leads_236 (lv_at hl 9 rfl) ?_
              refine tk_Vv hC hK hw hT hA hE hSR kM_at0 (by decide) rfl (k_X12_could_1 l adK adV dC dI cy ad B (by omega) (by omega) qr s1   x271 (show 0 ≤ x271.toInt by omega) (show x271.toInt ≤ 120 by omega) r273 (show 0 ≤ r273.toInt by omega) (show r273.toInt ≤ 9 by omega) v145_7 w275 H.size hT ) (cwV 4 hC.2.2.2.2 gX12_leads_X12_could rfl rfl rfl (by decide +kernel) ⟨Nat.le_of_ble_eq_true rfl, Nat.le_of_ble_eq_true rfl⟩) rfl hl.1 rfl (Nat.le_of_ble_eq_true rfl) dX12_leads_238 (fun w315 H locs hp314 hw => ?_)
              obtain ⟨hT, k316, hg317⟩ := hp314
              have hF := hF.tr k316 (by decide)
              have c318 := k316.gi kM_at12 rfl c283
              have c319 := k316.gi kM_at12 (by decide) c284
              have c320 := k316.gi kM_at12 rfl c285
              have c321 := k316.gi kM_at12 rfl c286
              clear hg317
              exact J241 v145_7 v145_8 v145_9 r90 x271 f145_12__9_a1_toInt_217_toNat x100 H locs ls w315 (show 0 ≤ a1.toInt by omega) (show a1.toInt ≤ 3 by omega) (show 0 ≤ a2.toInt by omega) (show a2.toInt ≤ 1073741824 by omega) (show 0 ≤ a3.toInt by omega) (show a3.toInt ≤ 120 by omega) (show 0 ≤ a4.toInt by omega) (show a4.toInt ≤ 9 by omega) (show 0 ≤ a6.toInt by omega) (show a6.toInt ≤ 120 by omega) (show 0 ≤ v145_8.toInt by omega) (show v145_8.toInt ≤ 1073741944 by omega) (show 0 ≤ v145_9.toInt by omega) (show v145_9.toInt ≤ 1 by omega) (show 0 ≤ r90.toInt by omega) (show r90.toInt ≤ 11 by omega) (show 0 ≤ x271.toInt by omega) (show x271.toInt ≤ 129 by omega) (show 0 ≤ f145_12__9_a1_toInt_217_toNat.toInt by omega) (show f145_12__9_a1_toInt_217_toNat.toInt ≤ 9 by omega) (show 1 ≤ x100.toInt by omega) (show x100.toInt ≤ 12 by omega)  hw hT hF c318 c319 (lv_sub hl [2, 3, 4, 5, 6, 7, 8, 9, 10, 11, 1, 0] rfl)
            · have c312 : x310.toInt = x311.toInt := wk_eq.mp c312
              refine lv_iconst (v := 1) hx hb dX12_leads_231 (by decide) ?_
              refine lv_goto (tgt := 236) hx hb dX12_leads_232 (by decide) ?_
              refine lv_iload hx hb dX12_leads_236 (lv_at hl 9 rfl) ?_
              refine tk_Vv hC hK hw hT hA hE hSR kM_at0 (by decide) rfl (k_X12_could_4 l adK adV dC dI cy ad B (by omega) (by omega) qr s1   x271 (show 0 ≤ x271.toInt by omega) (show x271.toInt ≤ 120 by omega) r273 (show 0 ≤ r273.toInt by omega) (show r273.toInt ≤ 9 by omega) v145_7 w275 H.size hT ) (cwV 4 hC.2.2.2.2 gX12_leads_X12_could rfl rfl rfl (by decide +kernel) ⟨Nat.le_of_ble_eq_true rfl, Nat.le_of_ble_eq_true rfl⟩) rfl hl.1 rfl (Nat.le_of_ble_eq_true rfl) dX12_leads_238 (fun w324 H locs hp323 hw => ?_)
              obtain ⟨hT, k325, hg326⟩ := hp323
              have hF := hF.tr k325 (by decide)
              have c327 := k325.gi kM_at12 rfl c283
              have c328 := k325.gi kM_at12 (by decide) c284
              have c329 := k325.gi kM_at12 rfl c285
              have c330 := k325.gi kM_at12 rfl c286
              clear hg326
              exact J241 v145_7 v145_8 v145_9 r90 x271 f145_12__9_a1_toInt_217_toNat x100 H locs ls w324 (show 0 ≤ a1.toInt by omega) (show a1.toInt ≤ 3 by omega) (show 0 ≤ a2.toInt by omega) (show a2.toInt ≤ 1073741824 by omega) (show 0 ≤ a3.toInt by omega) (show a3.toInt ≤ 120 by omega) (show 0 ≤ a4.toInt by omega) (show a4.toInt ≤ 9 by omega) (show 0 ≤ a6.toInt by omega) (show a6.toInt ≤ 120 by omega) (show 0 ≤ v145_8.toInt by omega) (show v145_8.toInt ≤ 1073741944 by omega) (show 0 ≤ v145_9.toInt by omega) (show v145_9.toInt ≤ 1 by omega) (show 0 ≤ r90.toInt by omega) (show r90.toInt ≤ 11 by omega) (show 0 ≤ x271.toInt by omega) (show x271.toInt ≤ 129 by omega) (show 0 ≤ f145_12__9_a1_toInt_217_toNat.toInt by omega) (show f145_12__9_a1_toInt_217_toNat.toInt ≤ 9 by omega) (show 1 ≤ x100.toInt by omega) (show x100.toInt ≤ 12 by omega)  hw hT hF c327 c328 (lv_sub hl [2, 3, 4, 5, 6, 7, 8, 9, 10, 11, 1, 0] rfl)
      · refine lv_if_ne (tgt := 182) hx hb dX12_leads_178 (by decide) (fun _ => ?_) (fun c => absurd c (by decide))
        refine lv_iload_n hx hb dX12_leads_182 rfl (lv_at hl 4 rfl) ?_
        refine lv_aload_n hx hb dX12_leads_183 rfl (lv_at hl 1 rfl) ?_
        refine lv_iload hx hb dX12_leads_184 (lv_at hl 0 rfl) ?_
        refine lv_iconst (v := 2) hx hb dX12_leads_186 (by decide) ?_
        refine tk_Vi hC hK hw hT hA hE hSR kM_at0 (by decide) rfl (k_X12_streetOf_6 l adK adV dC dI cy ad B (by omega) (by omega) qr s1   r90 (show 0 ≤ r90.toInt by omega) (show r90.toInt ≤ 11 by omega) w253 H.size hT ) (cwV 2 hC.2.2.2.2 gX12_leads_X12_streetOf rfl rfl rfl (by decide +kernel) ⟨Nat.le_of_ble_eq_true rfl, Nat.le_of_ble_eq_true rfl⟩) rfl hl.1 rfl (Nat.le_of_ble_eq_true rfl) dX12_leads_187 (fun r331 w333 H locs hp332 hw => ?_)
        obtain ⟨hT, k334, hg338⟩ := hp332
        have hF := hF.tr k334 (by decide)
        have c339 := k334.gi kM_at12 rfl c257
        have c340 := k334.gi kM_at12 (by decide) c258
        have c341 := k334.gi kM_at12 rfl c259
        obtain ⟨g335, g336, c337⟩ := hg338
        refine lv_iadd hx hb dX12_leads_190 ?_
        refine lv_topi (fun x342 ex342 => ?_)
        have ex342 : x342.toInt = a3.toInt + r331.toInt := by rw [ex342]; exact wk_add (show (-2147483648) ≤ a3.toInt + r331.toInt by omega) (show a3.toInt + r331.toInt ≤ 2147483647 by omega)
        refine lv_istore (lv' := [(11, .int x342), (10, .int r90), (0, .ref (ad 0)), (1, .int a1), (2, .int a2), (3, .int a3), (4, .int a4), (5, .int 1), (6, .int a6), (7, .int v145_7), (8, .int v145_8), (9, .int v145_9)]) hx hb dX12_leads_191 hl (by decide) rfl (fun ls hl => ?_)
        refine lv_iload hx hb dX12_leads_193 (lv_at hl 0 rfl) ?_
        refine lv_iload hx hb dX12_leads_195 (lv_at hl 8 rfl) ?_
        refine lv_icmp_gt (tgt := 241) hx hb dX12_leads_197 (by decide) (fun c343 => ?_) (fun c343 => ?_)
        · have c343 : a6.toInt < x342.toInt := wk_lt.mp c343
          exact J241 v145_7 v145_8 v145_9 r90 x342 f145_12__9_a1_toInt_217_toNat x100 H locs ls w333 (show 0 ≤ a1.toInt by omega) (show a1.toInt ≤ 3 by omega) (show 0 ≤ a2.toInt by omega) (show a2.toInt ≤ 1073741824 by omega) (show 0 ≤ a3.toInt by omega) (show a3.toInt ≤ 120 by omega) (show 0 ≤ a4.toInt by omega) (show a4.toInt ≤ 9 by omega) (show 0 ≤ a6.toInt by omega) (show a6.toInt ≤ 120 by omega) (show 0 ≤ v145_8.toInt by omega) (show v145_8.toInt ≤ 1073741944 by omega) (show 0 ≤ v145_9.toInt by omega) (show v145_9.toInt ≤ 1 by omega) (show 0 ≤ r90.toInt by omega) (show r90.toInt ≤ 11 by omega) (show 0 ≤ x342.toInt by omega) (show x342.toInt ≤ 129 by omega) (show 0 ≤ f145_12__9_a1_toInt_217_toNat.toInt by omega) (show f145_12__9_a1_toInt_217_toNat.toInt ≤ 9 by omega) (show 1 ≤ x100.toInt by omega) (show x100.toInt ≤ 12 by omega)  hw hT hF c339 c340 (lv_sub hl [2, 3, 4, 5, 6, 7, 8, 9, 10, 11, 1, 0] rfl)
        · have c343 : x342.toInt ≤ a6.toInt := wk_ltF c343
          refine lv_aload_n hx hb dX12_leads_200 rfl (lv_at hl 2 rfl) ?_
          refine lv_iload hx hb dX12_leads_201 (lv_at hl 0 rfl) ?_
          refine lv_aload_n hx hb dX12_leads_203 rfl (lv_at hl 2 rfl) ?_
          refine lv_iload hx hb dX12_leads_204 (lv_at hl 1 rfl) ?_
          refine lv_iload hx hb dX12_leads_206 (lv_at hl 6 rfl) ?_
          refine tk_Vi hC hK hw hT hA hE hSR kM_at0 (by decide) rfl (k_X12_otherOf_1 l adK adV dC dI cy ad B (by omega) (by omega) qr s1   r90 (show 0 ≤ r90.toInt by omega) (show r90.toInt ≤ 11 by omega) a4 (show 0 ≤ a4.toInt by omega) (show a4.toInt ≤ 9 by omega) w333 H.size hT ) (cwV 2 hC.2.2.2.2 gX12_leads_X12_otherOf rfl rfl rfl (by decide +kernel) ⟨Nat.le_of_ble_eq_true rfl, Nat.le_of_ble_eq_true rfl⟩) rfl hl.1 rfl (Nat.le_of_ble_eq_true rfl) dX12_leads_208 (fun r344 w346 H locs hp345 hw => ?_)
          obtain ⟨hT, k347, hg353⟩ := hp345
          have hF := hF.tr k347 (by decide)
          have c354 := k347.gi kM_at12 rfl c339
          have c355 := k347.gi kM_at12 (by decide) c340
          have c356 := k347.gi kM_at12 rfl c341
          have c357 := k347.gi kM_at12 rfl c337
          rcases hg353 with ⟨g348, g349⟩ | ⟨g350, g351, c352⟩
          · refine lv_iload hx hb dX12_leads_211 (lv_at hl 7 rfl) ?_
            refine lv_if_eq (tgt := 235) hx hb dX12_leads_213 (by decide) (fun c => absurd c (by decide)) (fun _ => ?_)
            refine lv_iload_n hx hb dX12_leads_216 rfl (lv_at hl 4 rfl) ?_
            refine lv_iload hx hb dX12_leads_217 (lv_at hl 0 rfl) ?_
            refine lv_iadd hx hb dX12_leads_219 ?_
            refine lv_topi (fun x358 ex358 => ?_)
            have ex358 : x358.toInt = a2.toInt + x342.toInt := by rw [ex358]; exact wk_add (show (-2147483648) ≤ a2.toInt + x342.toInt by omega) (show a2.toInt + x342.toInt ≤ 2147483647 by omega)
            refine lv_bipush (v := 24) hx hb dX12_leads_220 (by decide) ?_
            refine lv_idiv hx hb dX12_leads_222 (by decide) ?_
            refine lv_topi (fun x359 ex359 => ?_)
            have ex359 : x359.toInt = x358.toInt / (24 : Int) := by rw [ex359]; exact wk_div (show 0 ≤ x358.toInt by omega) (show 0 < (24 : Int) by decide)
            refine lv_iload hx hb dX12_leads_223 (lv_at hl 10 rfl) ?_
            refine lv_bipush (v := 24) hx hb dX12_leads_225 (by decide) ?_
            refine lv_idiv hx hb dX12_leads_227 (by decide) ?_
            refine lv_topi (fun x360 ex360 => ?_)
            have ex360 : x360.toInt = v145_8.toInt / (24 : Int) := by rw [ex360]; exact wk_div (show 0 ≤ v145_8.toInt by omega) (show 0 < (24 : Int) by decide)
            refine lv_icmp_ne (tgt := 235) hx hb dX12_leads_228 (by decide) (fun c361 => ?_) (fun c361 => ?_)
            · have c361 : ¬ x359.toInt = x360.toInt := wk_eqF c361
              refine lv_iconst (v := 0) hx hb dX12_leads_235 (by decide) ?_
              refine lv_iload hx hb dX12_leads_236 (lv_at hl 9 rfl) ?_
              refine tk_Vv hC hK hw hT hA hE hSR kM_at0 (by decide) rfl (k_X12_could_1 l adK adV dC dI cy ad B (by omega) (by omega) qr s1   x342 (show 0 ≤ x342.toInt by omega) (show x342.toInt ≤ 120 by omega) r344 (show 0 ≤ r344.toInt by omega) (show r344.toInt ≤ 9 by omega) v145_7 w346 H.size hT ) (cwV 4 hC.2.2.2.2 gX12_leads_X12_could rfl rfl rfl (by decide +kernel) ⟨Nat.le_of_ble_eq_true rfl, Nat.le_of_ble_eq_true rfl⟩) rfl hl.1 rfl (Nat.le_of_ble_eq_true rfl) dX12_leads_238 (fun w364 H locs hp363 hw => ?_)
              obtain ⟨hT, k365, hg366⟩ := hp363
              have hF := hF.tr k365 (by decide)
              have c367 := k365.gi kM_at12 rfl c354
              have c368 := k365.gi kM_at12 (by decide) c355
              have c369 := k365.gi kM_at12 rfl c356
              have c370 := k365.gi kM_at12 rfl c357
              clear hg366
              exact J241 v145_7 v145_8 v145_9 r90 x342 f145_12__9_a1_toInt_217_toNat x100 H locs ls w364 (show 0 ≤ a1.toInt by omega) (show a1.toInt ≤ 3 by omega) (show 0 ≤ a2.toInt by omega) (show a2.toInt ≤ 1073741824 by omega) (show 0 ≤ a3.toInt by omega) (show a3.toInt ≤ 120 by omega) (show 0 ≤ a4.toInt by omega) (show a4.toInt ≤ 9 by omega) (show 0 ≤ a6.toInt by omega) (show a6.toInt ≤ 120 by omega) (show 0 ≤ v145_8.toInt by omega) (show v145_8.toInt ≤ 1073741944 by omega) (show 0 ≤ v145_9.toInt by omega) (show v145_9.toInt ≤ 1 by omega) (show 0 ≤ r90.toInt by omega) (show r90.toInt ≤ 11 by omega) (show 0 ≤ x342.toInt by omega) (show x342.toInt ≤ 129 by omega) (show 0 ≤ f145_12__9_a1_toInt_217_toNat.toInt by omega) (show f145_12__9_a1_toInt_217_toNat.toInt ≤ 9 by omega) (show 1 ≤ x100.toInt by omega) (show x100.toInt ≤ 12 by omega)  hw hT hF c367 c368 (lv_sub hl [2, 3, 4, 5, 6, 7, 8, 9, 10, 11, 1, 0] rfl)
            · have c361 : x359.toInt = x360.toInt := wk_eq.mp c361
              refine lv_iconst (v := 1) hx hb dX12_leads_231 (by decide) ?_
              refine lv_goto (tgt := 236) hx hb dX12_leads_232 (by decide) ?_
              refine lv_iload hx hb dX12_leads_236 (lv_at hl 9 rfl) ?_
              refine tk_Vv hC hK hw hT hA hE hSR kM_at0 (by decide) rfl (k_X12_could_4 l adK adV dC dI cy ad B (by omega) (by omega) qr s1   x342 (show 0 ≤ x342.toInt by omega) (show x342.toInt ≤ 120 by omega) r344 (show 0 ≤ r344.toInt by omega) (show r344.toInt ≤ 9 by omega) v145_7 w346 H.size hT ) (cwV 4 hC.2.2.2.2 gX12_leads_X12_could rfl rfl rfl (by decide +kernel) ⟨Nat.le_of_ble_eq_true rfl, Nat.le_of_ble_eq_true rfl⟩) rfl hl.1 rfl (Nat.le_of_ble_eq_true rfl) dX12_leads_238 (fun w373 H locs hp372 hw => ?_)
              obtain ⟨hT, k374, hg375⟩ := hp372
              have hF := hF.tr k374 (by decide)
              have c376 := k374.gi kM_at12 rfl c354
              have c377 := k374.gi kM_at12 (by decide) c355
              have c378 := k374.gi kM_at12 rfl c356
              have c379 := k374.gi kM_at12 rfl c357
              clear hg375
              exact J241 v145_7 v145_8 v145_9 r90 x342 f145_12__9_a1_toInt_217_toNat x100 H locs ls w373 (show 0 ≤ a1.toInt by omega) (show a1.toInt ≤ 3 by omega) (show 0 ≤ a2.toInt by omega) (show a2.toInt ≤ 1073741824 by omega) (show 0 ≤ a3.toInt by omega) (show a3.toInt ≤ 120 by omega) (show 0 ≤ a4.toInt by omega) (show a4.toInt ≤ 9 by omega) (show 0 ≤ a6.toInt by omega) (show a6.toInt ≤ 120 by omega) (show 0 ≤ v145_8.toInt by omega) (show v145_8.toInt ≤ 1073741944 by omega) (show 0 ≤ v145_9.toInt by omega) (show v145_9.toInt ≤ 1 by omega) (show 0 ≤ r90.toInt by omega) (show r90.toInt ≤ 11 by omega) (show 0 ≤ x342.toInt by omega) (show x342.toInt ≤ 129 by omega) (show 0 ≤ f145_12__9_a1_toInt_217_toNat.toInt by omega) (show f145_12__9_a1_toInt_217_toNat.toInt ≤ 9 by omega) (show 1 ≤ x100.toInt by omega) (show x100.toInt ≤ 12 by omega)  hw hT hF c376 c377 (lv_sub hl [2, 3, 4, 5, 6, 7, 8, 9, 10, 11, 1, 0] rfl)
          · refine lv_iload hx hb dX12_leads_211 (lv_at hl 7 rfl) ?_
            refine lv_if_eq (tgt := 235) hx hb dX12_leads_213 (by decide) (fun c => absurd c (by decide)) (fun _ => ?_)
            refine lv_iload_n hx hb dX12_leads_216 rfl (lv_at hl 4 rfl) ?_
            refine lv_iload hx hb dX12_leads_217 (lv_at hl 0 rfl) ?_
            refine lv_iadd hx hb dX12_leads_219 ?_
            refine lv_topi (fun x380 ex380 => ?_)
            have ex380 : x380.toInt = a2.toInt + x342.toInt := by rw [ex380]; exact wk_add (show (-2147483648) ≤ a2.toInt + x342.toInt by omega) (show a2.toInt + x342.toInt ≤ 2147483647 by omega)
            refine lv_bipush (v := 24) hx hb dX12_leads_220 (by decide) ?_
            refine lv_idiv hx hb dX12_leads_222 (by decide) ?_
            refine lv_topi (fun x381 ex381 => ?_)
            have ex381 : x381.toInt = x380.toInt / (24 : Int) := by rw [ex381]; exact wk_div (show 0 ≤ x380.toInt by omega) (show 0 < (24 : Int) by decide)
            refine lv_iload hx hb dX12_leads_223 (lv_at hl 10 rfl) ?_
            refine lv_bipush (v := 24) hx hb dX12_leads_225 (by decide) ?_
            refine lv_idiv hx hb dX12_leads_227 (by decide) ?_
            refine lv_topi (fun x382 ex382 => ?_)
            have ex382 : x382.toInt = v145_8.toInt / (24 : Int) := by rw [ex382]; exact wk_div (show 0 ≤ v145_8.toInt by omega) (show 0 < (24 : Int) by decide)
            refine lv_icmp_ne (tgt := 235) hx hb dX12_leads_228 (by decide) (fun c383 => ?_) (fun c383 => ?_)
            · have c383 : ¬ x381.toInt = x382.toInt := wk_eqF c383
              refine lv_iconst (v := 0) hx hb dX12_leads_235 (by decide) ?_
              refine lv_iload hx hb dX12_leads_236 (lv_at hl 9 rfl) ?_
              refine tk_Vv hC hK hw hT hA hE hSR kM_at0 (by decide) rfl (k_X12_could_1 l adK adV dC dI cy ad B (by omega) (by omega) qr s1   x342 (show 0 ≤ x342.toInt by omega) (show x342.toInt ≤ 120 by omega) r344 (show 0 ≤ r344.toInt by omega) (show r344.toInt ≤ 9 by omega) v145_7 w346 H.size hT ) (cwV 4 hC.2.2.2.2 gX12_leads_X12_could rfl rfl rfl (by decide +kernel) ⟨Nat.le_of_ble_eq_true rfl, Nat.le_of_ble_eq_true rfl⟩) rfl hl.1 rfl (Nat.le_of_ble_eq_true rfl) dX12_leads_238 (fun w386 H locs hp385 hw => ?_)
              obtain ⟨hT, k387, hg388⟩ := hp385
              have hF := hF.tr k387 (by decide)
              have c389 := k387.gi kM_at12 rfl c354
              have c390 := k387.gi kM_at12 (by decide) c355
              have c391 := k387.gi kM_at12 rfl c356
              have c392 := k387.gi kM_at12 rfl c357
              clear hg388
              exact J241 v145_7 v145_8 v145_9 r90 x342 f145_12__9_a1_toInt_217_toNat x100 H locs ls w386 (show 0 ≤ a1.toInt by omega) (show a1.toInt ≤ 3 by omega) (show 0 ≤ a2.toInt by omega) (show a2.toInt ≤ 1073741824 by omega) (show 0 ≤ a3.toInt by omega) (show a3.toInt ≤ 120 by omega) (show 0 ≤ a4.toInt by omega) (show a4.toInt ≤ 9 by omega) (show 0 ≤ a6.toInt by omega) (show a6.toInt ≤ 120 by omega) (show 0 ≤ v145_8.toInt by omega) (show v145_8.toInt ≤ 1073741944 by omega) (show 0 ≤ v145_9.toInt by omega) (show v145_9.toInt ≤ 1 by omega) (show 0 ≤ r90.toInt by omega) (show r90.toInt ≤ 11 by omega) (show 0 ≤ x342.toInt by omega) (show x342.toInt ≤ 129 by omega) (show 0 ≤ f145_12__9_a1_toInt_217_toNat.toInt by omega) (show f145_12__9_a1_toInt_217_toNat.toInt ≤ 9 by omega) (show 1 ≤ x100.toInt by omega) (show x100.toInt ≤ 12 by omega)  hw hT hF c389 c390 (lv_sub hl [2, 3, 4, 5, 6, 7, 8, 9, 10, 11, 1, 0] rfl)
            · have c383 : x381.toInt = x382.toInt := wk_eq.mp c383
              refine lv_iconst (v := 1) hx hb dX12_leads_231 (by decide) ?_
              refine lv_goto (tgt := 236) hx hb dX12_leads_232 (by decide) ?_
              refine lv_iload hx hb dX12_leads_236 (lv_at hl 9 rfl) ?_
              refine tk_Vv hC hK hw hT hA hE hSR kM_at0 (by decide) rfl (k_X12_could_4 l adK adV dC dI cy ad B (by omega) (by omega) qr s1   x342 (show 0 ≤ x342.toInt by omega) (show x342.toInt ≤ 120 by omega) r344 (show 0 ≤ r344.toInt by omega) (show r344.toInt ≤ 9 by omega) v145_7 w346 H.size hT ) (cwV 4 hC.2.2.2.2 gX12_leads_X12_could rfl rfl rfl (by decide +kernel) ⟨Nat.le_of_ble_eq_true rfl, Nat.le_of_ble_eq_true rfl⟩) rfl hl.1 rfl (Nat.le_of_ble_eq_true rfl) dX12_leads_238 (fun w395 H locs hp394 hw => ?_)
              obtain ⟨hT, k396, hg397⟩ := hp394
              have hF := hF.tr k396 (by decide)
              have c398 := k396.gi kM_at12 rfl c354
              have c399 := k396.gi kM_at12 (by decide) c355
              have c400 := k396.gi kM_at12 rfl c356
              have c401 := k396.gi kM_at12 rfl c357
              clear hg397
              exact J241 v145_7 v145_8 v145_9 r90 x342 f145_12__9_a1_toInt_217_toNat x100 H locs ls w395 (show 0 ≤ a1.toInt by omega) (show a1.toInt ≤ 3 by omega) (show 0 ≤ a2.toInt by omega) (show a2.toInt ≤ 1073741824 by omega) (show 0 ≤ a3.toInt by omega) (show a3.toInt ≤ 120 by omega) (show 0 ≤ a4.toInt by omega) (show a4.toInt ≤ 9 by omega) (show 0 ≤ a6.toInt by omega) (show a6.toInt ≤ 120 by omega) (show 0 ≤ v145_8.toInt by omega) (show v145_8.toInt ≤ 1073741944 by omega) (show 0 ≤ v145_9.toInt by omega) (show v145_9.toInt ≤ 1 by omega) (show 0 ≤ r90.toInt by omega) (show r90.toInt ≤ 11 by omega) (show 0 ≤ x342.toInt by omega) (show x342.toInt ≤ 129 by omega) (show 0 ≤ f145_12__9_a1_toInt_217_toNat.toInt by omega) (show f145_12__9_a1_toInt_217_toNat.toInt ≤ 9 by omega) (show 1 ≤ x100.toInt by omega) (show x100.toInt ≤ 12 by omega)  hw hT hF c398 c399 (lv_sub hl [2, 3, 4, 5, 6, 7, 8, 9, 10, 11, 1, 0] rfl)
    · refine lv_istore (lv' := [(10, .int (-1)), (0, .ref (ad 0)), (1, .int a1), (2, .int a2), (3, .int a3), (4, .int a4), (5, .int 1), (6, .int a6), (7, .int v145_7), (8, .int v145_8), (9, .int v145_9)]) hx hb dX12_leads_161 hl (by decide) rfl (fun ls hl => ?_)
      refine lv_iload hx hb dX12_leads_163 (lv_at hl 0 rfl) ?_
      refine lv_if_lt (tgt := 181) hx hb dX12_leads_165 (by decide) (fun _ => ?_) (fun c => absurd (by decide) c)
      exact J181 v145_7 v145_8 v145_9 (-1) f145_12__9_a1_toInt_217_toNat H locs ls w92 (show 0 ≤ a1.toInt by omega) (show a1.toInt ≤ 3 by omega) (show 0 ≤ a2.toInt by omega) (show a2.toInt ≤ 1073741824 by omega) (show 0 ≤ a3.toInt by omega) (show a3.toInt ≤ 120 by omega) (show 0 ≤ a4.toInt by omega) (show a4.toInt ≤ 9 by omega) (show 0 ≤ a6.toInt by omega) (show a6.toInt ≤ 120 by omega) (show 0 ≤ v145_8.toInt by omega) (show v145_8.toInt ≤ 1073741944 by omega) (show 0 ≤ v145_9.toInt by omega) (show v145_9.toInt ≤ 1 by omega) (by decide) (by decide) (show 0 ≤ f145_12__9_a1_toInt_217_toNat.toInt by omega) (show f145_12__9_a1_toInt_217_toNat.toInt ≤ 9 by omega)  hw hT hF c104 (lv_sub hl [1, 2, 3, 4, 5, 6, 7, 8, 9, 10, 0] rfl)
  have J115 : ∀ (v115_7 : Int32) (v115_8 : Int32) (v115_9 : Int32) (f115_12__9_a1_toInt_217_toNat : Int32) (H : Heap) (locs : List Loc) (ls : Array Slot) (w402 : va_W), 0 ≤ a1.toInt → a1.toInt ≤ 3 → 0 ≤ a2.toInt → a2.toInt ≤ 1073741824 → 0 ≤ a3.toInt → a3.toInt ≤ 120 → 0 ≤ a4.toInt → a4.toInt ≤ 9 → 0 ≤ a6.toInt → a6.toInt ≤ 120 → 0 ≤ v115_8.toInt → v115_8.toInt ≤ 1073741944 → 0 ≤ v115_9.toInt → v115_9.toInt ≤ 1 → 0 ≤ f115_12__9_a1_toInt_217_toNat.toInt → f115_12__9_a1_toInt_217_toNat.toInt ≤ 9 → Wd dC dI A s.heap H locs w402 → TW ksM ad cy B qr 12 w402 → FE ksM [(72, 0, 12), (73, 0, 10), (76, 0, 2600)] w0 w402 → gi w402 12 (9 * a1.toInt + 217).toNat = f115_12__9_a1_toInt_217_toNat → lv_has ls 12 [(0, .ref (ad 0)), (1, .int a1), (2, .int a2), (3, .int a3), (4, .int a4), (5, .int 1), (6, .int a6), (7, .int v115_7), (8, .int v115_8), (9, .int v115_9)] → W p l e ({ frames := 5, cells := 0, slots := 0, locals := 103 }) s m (List.toArray [.ref (ad 0), .int a1, .int a2, .int a3, .int a4, .int 1, .int a6]) below meth c H locs 0 0 (MQ below (va_Qv (P_X12_leads_2 ad cy B qr s1 a1 a2 a3 a4 a6 w0) (fun u : va_W => wpost dC dI cy A u) A) (List.toArray [.ref (ad 0), .int a1, .int a2, .int a3, .int a4, .int 1, .int a6]) s 0 0 A) (F0 m 115 ls []) := by
    intro v115_7 v115_8 v115_9 f115_12__9_a1_toInt_217_toNat H locs ls w402 r403 t404 r405 t406 r407 t408 r409 t410 r411 t412 r413 t414 r415 t416 r417 t418 hw hT hF c419 hl
    refine lv_iload hx hb dX12_leads_115 (lv_at hl 5 rfl) ?_
    refine lv_if_eq (tgt := 135) hx hb dX12_leads_117 (by decide) (fun c => absurd c (by decide)) (fun _ => ?_)
    refine lv_aload_n hx hb dX12_leads_120 rfl (lv_at hl 0 rfl) ?_
    refine lv_iload hx hb dX12_leads_121 (lv_at hl 8 rfl) ?_
    refine lv_bipush (v := 24) hx hb dX12_leads_123 (by decide) ?_
    refine lv_idiv hx hb dX12_leads_125 (by decide) ?_
    refine lv_topi (fun x420 ex420 => ?_)
    have ex420 : x420.toInt = v115_8.toInt / (24 : Int) := by rw [ex420]; exact wk_div (show 0 ≤ v115_8.toInt by omega) (show 0 < (24 : Int) by decide)
    refine lv_bipush (v := 7) hx hb dX12_leads_126 (by decide) ?_
    refine lv_irem hx hb dX12_leads_128 (by decide) ?_
    refine lv_topi (fun x421 ex421 => ?_)
    have ex421 : x421.toInt = x420.toInt % (7 : Int) := by rw [ex421]; exact wk_rem (show 0 ≤ x420.toInt by omega) (show 0 < (7 : Int) by decide)
    refine tk_Vv hC hK hw hT hA hE hSR kM_at0 (by decide) rfl (k_X12_takesDay_1 l adK adV dC dI cy ad B (by omega) (by omega) qr s1   x421 (show 0 ≤ x421.toInt by omega) (show x421.toInt ≤ 6 by omega) w402 H.size hT ) (cwV 1 hC.2.2.2.2 gX12_leads_X12_takesDay rfl rfl rfl (by decide +kernel) ⟨Nat.le_of_ble_eq_true rfl, Nat.le_of_ble_eq_true rfl⟩) rfl hl.1 rfl (Nat.le_of_ble_eq_true rfl) dX12_leads_129 (fun w424 H locs hp423 hw => ?_)
    obtain ⟨hT, k425, hg426⟩ := hp423
    have hF := hF.tr k425 (by decide)
    have c427 := k425.gi kM_at12 rfl c419
    clear hg426
    refine lv_goto (tgt := 145) hx hb dX12_leads_132 (by decide) ?_
    exact J145 v115_7 v115_8 v115_9 f115_12__9_a1_toInt_217_toNat H locs ls w424 (show 0 ≤ a1.toInt by omega) (show a1.toInt ≤ 3 by omega) (show 0 ≤ a2.toInt by omega) (show a2.toInt ≤ 1073741824 by omega) (show 0 ≤ a3.toInt by omega) (show a3.toInt ≤ 120 by omega) (show 0 ≤ a4.toInt by omega) (show a4.toInt ≤ 9 by omega) (show 0 ≤ a6.toInt by omega) (show a6.toInt ≤ 120 by omega) (show 0 ≤ v115_8.toInt by omega) (show v115_8.toInt ≤ 1073741944 by omega) (show 0 ≤ v115_9.toInt by omega) (show v115_9.toInt ≤ 1 by omega) (show 0 ≤ f115_12__9_a1_toInt_217_toNat.toInt by omega) (show f115_12__9_a1_toInt_217_toNat.toInt ≤ 9 by omega)  hw hT hF c427 (lv_sub hl [0, 1, 2, 3, 4, 5, 6, 7, 8, 9] rfl)
  refine lv_aload_n hx hb dX12_leads_0 rfl (lv_at hl 0 rfl) ?_
  refine tk_getA hC hK hw hT hinX12 kM_at0 (by decide) rfl 34 (by decide) (List.mem_of_getElem? (i := 1) rfl) rfl rfl dX12_leads_1 ?_
  refine lv_aload_n hx hb dX12_leads_4 rfl (lv_at hl 0 rfl) ?_
  refine lv_iload_n hx hb dX12_leads_5 rfl (lv_at hl 3 rfl) ?_
  refine lv_iload hx hb dX12_leads_6 (lv_at hl 4 rfl) ?_
  refine lv_iload hx hb dX12_leads_8 (lv_at hl 5 rfl) ?_
  refine tk_Vi hC hK hw hT hA hE hSR kM_at0 (by decide) rfl (k_X12_placeAt_4 l adK adV dC dI cy ad B (by omega) (by omega) qr s1   a3 (show 0 ≤ a3.toInt by omega) (show a3.toInt ≤ 120 by omega) a4 (show 0 ≤ a4.toInt by omega) (show a4.toInt ≤ 9 by omega) w0 s.heap.size hT ) (cwV 3 hC.2.2.2.2 gX12_leads_X12_placeAt rfl rfl rfl (by decide +kernel) ⟨Nat.le_of_ble_eq_true rfl, Nat.le_of_ble_eq_true rfl⟩) rfl hl.1 rfl (Nat.le_of_ble_eq_true rfl) dX12_leads_10 (fun r428 w430 H locs hp429 hw => ?_)
  obtain ⟨hT, k431, hg434⟩ := hp429
  have hF := hF.tr k431 (by decide)
  obtain ⟨g432, g433⟩ := hg434
  refine tk_iald hC hK hw hT kM_at17 rfl rfl (show 0 ≤ r428.toInt by omega) (show r428.toInt < 2600 by omega) dX12_leads_13 (fun x435 c436 rx435 tx435 => ?_)
  refine lv_istore (lv' := [(7, .int x435), (0, .ref (ad 0)), (1, .int a1), (2, .int a2), (3, .int a3), (4, .int a4), (5, .int 1), (6, .int a6)]) hx hb dX12_leads_14 hl (by decide) rfl (fun ls hl => ?_)
  refine lv_iload hx hb dX12_leads_16 (lv_at hl 0 rfl) ?_
  refine lv_ldcw (v := 100000000) hx hb hC.2.2.2.1 (hC.2.2.2.2 _ (List.mem_of_getElem? (i := 2) rfl)) dX12_leads_18 ?_
  refine lv_icmp_eq (tgt := 41) hx hb dX12_leads_21 (by decide) (fun c437 => ?_) (fun c437 => ?_)
  · have c437 : x435.toInt = (100000000 : Int) := wk_eq.mp c437
    exact J41 x435 H locs ls w430 (show 0 ≤ a1.toInt by omega) (show a1.toInt ≤ 3 by omega) (show 0 ≤ a2.toInt by omega) (show a2.toInt ≤ 1073741824 by omega) (show 0 ≤ a3.toInt by omega) (show a3.toInt ≤ 120 by omega) (show 0 ≤ a4.toInt by omega) (show a4.toInt ≤ 9 by omega) (show 0 ≤ a6.toInt by omega) (show a6.toInt ≤ 120 by omega)  hw hT hF  (lv_sub hl [1, 2, 3, 4, 5, 6, 7, 0] rfl)
  · have c437 : ¬ x435.toInt = (100000000 : Int) := wk_eqF c437
    refine lv_iload_n hx hb dX12_leads_24 rfl (lv_at hl 4 rfl) ?_
    refine lv_iload hx hb dX12_leads_25 (lv_at hl 7 rfl) ?_
    refine lv_icmp_eq (tgt := 41) hx hb dX12_leads_27 (by decide) (fun c438 => ?_) (fun c438 => ?_)
    · have c438 : a3.toInt = a6.toInt := wk_eq.mp c438
      exact J41 x435 H locs ls w430 (show 0 ≤ a1.toInt by omega) (show a1.toInt ≤ 3 by omega) (show 0 ≤ a2.toInt by omega) (show a2.toInt ≤ 1073741824 by omega) (show 0 ≤ a3.toInt by omega) (show a3.toInt ≤ 120 by omega) (show 0 ≤ a4.toInt by omega) (show a4.toInt ≤ 9 by omega) (show 0 ≤ a6.toInt by omega) (show a6.toInt ≤ 120 by omega)  hw hT hF  (lv_sub hl [1, 2, 3, 4, 5, 6, 7, 0] rfl)
    · have c438 : ¬ a3.toInt = a6.toInt := wk_eqF c438
      refine lv_iload hx hb dX12_leads_30 (lv_at hl 5 rfl) ?_
      refine lv_aload_n hx hb dX12_leads_32 rfl (lv_at hl 1 rfl) ?_
      refine lv_iload_n hx hb dX12_leads_33 rfl (lv_at hl 2 rfl) ?_
      refine lv_iconst (v := 1) hx hb dX12_leads_34 (by decide) ?_
      refine tk_Vi hC hK hw hT hA hE hSR kM_at0 (by decide) rfl (k_X12_walkerOf_3 l adK adV dC dI cy ad B (by omega) (by omega) qr s1   a1 (show 0 ≤ a1.toInt by omega) (show a1.toInt ≤ 3 by omega) w430 H.size hT ) (cwV 2 hC.2.2.2.2 gX12_leads_X12_walkerOf rfl rfl rfl (by decide +kernel) ⟨Nat.le_of_ble_eq_true rfl, Nat.le_of_ble_eq_true rfl⟩) rfl hl.1 rfl (Nat.le_of_ble_eq_true rfl) dX12_leads_35 (fun r439 w441 H locs hp440 hw => ?_)
      obtain ⟨hT, k442, hg446⟩ := hp440
      have hF := hF.tr k442 (by decide)
      obtain ⟨g443, g444, c445⟩ := hg446
      refine lv_icmp_ne (tgt := 42) hx hb dX12_leads_38 (by decide) (fun c447 => ?_) (fun c447 => ?_)
      · have c447 : ¬ a4.toInt = r439.toInt := wk_eqF c447
        refine lv_iload_n hx hb dX12_leads_42 rfl (lv_at hl 3 rfl) ?_
        refine lv_iload_n hx hb dX12_leads_43 rfl (lv_at hl 4 rfl) ?_
        refine lv_iadd hx hb dX12_leads_44 ?_
        refine lv_topi (fun x448 ex448 => ?_)
        have ex448 : x448.toInt = a2.toInt + a3.toInt := by rw [ex448]; exact wk_add (show (-2147483648) ≤ a2.toInt + a3.toInt by omega) (show a2.toInt + a3.toInt ≤ 2147483647 by omega)
        refine lv_istore (lv' := [(8, .int x448), (7, .int x435), (0, .ref (ad 0)), (1, .int a1), (2, .int a2), (3, .int a3), (4, .int a4), (5, .int 1), (6, .int a6)]) hx hb dX12_leads_45 hl (by decide) rfl (fun ls hl => ?_)
        refine lv_iload hx hb dX12_leads_47 (lv_at hl 0 rfl) ?_
        refine lv_iconst (v := 1) hx hb dX12_leads_49 (by decide) ?_
        refine lv_iadd hx hb dX12_leads_50 ?_
        refine lv_topi (fun x449 ex449 => ?_)
        have ex449 : x449.toInt = x448.toInt + (1 : Int) := by rw [ex449]; exact wk_add (show (-2147483648) ≤ x448.toInt + (1 : Int) by omega) (show x448.toInt + (1 : Int) ≤ 2147483647 by omega)
        refine lv_bipush (v := 24) hx hb dX12_leads_51 (by decide) ?_
        refine lv_idiv hx hb dX12_leads_53 (by decide) ?_
        refine lv_topi (fun x450 ex450 => ?_)
        have ex450 : x450.toInt = x449.toInt / (24 : Int) := by rw [ex450]; exact wk_div (show 0 ≤ x449.toInt by omega) (show 0 < (24 : Int) by decide)
        refine lv_iload hx hb dX12_leads_54 (lv_at hl 0 rfl) ?_
        refine lv_bipush (v := 24) hx hb dX12_leads_56 (by decide) ?_
        refine lv_idiv hx hb dX12_leads_58 (by decide) ?_
        refine lv_topi (fun x451 ex451 => ?_)
        have ex451 : x451.toInt = x448.toInt / (24 : Int) := by rw [ex451]; exact wk_div (show 0 ≤ x448.toInt by omega) (show 0 < (24 : Int) by decide)
        refine lv_icmp_ne (tgt := 66) hx hb dX12_leads_59 (by decide) (fun c452 => ?_) (fun c452 => ?_)
        · have c452 : ¬ x450.toInt = x451.toInt := wk_eqF c452
          refine lv_iconst (v := 0) hx hb dX12_leads_66 (by decide) ?_
          refine lv_istore (lv' := [(9, .int 0), (8, .int x448), (7, .int x435), (0, .ref (ad 0)), (1, .int a1), (2, .int a2), (3, .int a3), (4, .int a4), (5, .int 1), (6, .int a6)]) hx hb dX12_leads_67 hl (by decide) rfl (fun ls hl => ?_)
          refine lv_aload_n hx hb dX12_leads_69 rfl (lv_at hl 3 rfl) ?_
          refine lv_iload_n hx hb dX12_leads_70 rfl (lv_at hl 6 rfl) ?_
          refine lv_iconst (v := 1) hx hb dX12_leads_71 (by decide) ?_
          refine lv_iadd hx hb dX12_leads_72 ?_
          refine lv_topi (fun x453 ex453 => ?_)
          have ex453 : x453.toInt = a3.toInt + (1 : Int) := by rw [ex453]; exact wk_add (show (-2147483648) ≤ a3.toInt + (1 : Int) by omega) (show a3.toInt + (1 : Int) ≤ 2147483647 by omega)
          refine lv_iload hx hb dX12_leads_73 (lv_at hl 7 rfl) ?_
          refine lv_iload hx hb dX12_leads_75 (lv_at hl 8 rfl) ?_
          refine lv_if_eq (tgt := 89) hx hb dX12_leads_77 (by decide) (fun c => absurd c (by decide)) (fun _ => ?_)
          refine lv_iload hx hb dX12_leads_80 (lv_at hl 0 rfl) ?_
          refine lv_if_eq (tgt := 89) hx hb dX12_leads_82 (by decide) (fun _ => ?_) (fun c => absurd (by decide) c)
          refine lv_iconst (v := 0) hx hb dX12_leads_89 (by decide) ?_
          refine lv_iload hx hb dX12_leads_90 (lv_at hl 2 rfl) ?_
          refine tk_Vv hC hK hw hT hA hE hSR kM_at0 (by decide) rfl (k_X12_could_2 l adK adV dC dI cy ad B (by omega) (by omega) qr s1   x453 (show 1 ≤ x453.toInt by omega) (show x453.toInt ≤ 121 by omega) a4 (show 0 ≤ a4.toInt by omega) (show a4.toInt ≤ 9 by omega) x435 w441 H.size hT ) (cwV 4 hC.2.2.2.2 gX12_leads_X12_could rfl rfl rfl (by decide +kernel) ⟨Nat.le_of_ble_eq_true rfl, Nat.le_of_ble_eq_true rfl⟩) rfl hl.1 rfl (Nat.le_of_ble_eq_true rfl) dX12_leads_92 (fun w456 H locs hp455 hw => ?_)
          obtain ⟨hT, k457, hg458⟩ := hp455
          have hF := hF.tr k457 (by decide)
          have c459 := k457.gi kM_at12 rfl c445
          clear hg458
          refine lv_iload hx hb dX12_leads_95 (lv_at hl 8 rfl) ?_
          refine lv_if_ne (tgt := 115) hx hb dX12_leads_97 (by decide) (fun _ => ?_) (fun c => absurd c (by decide))
          exact J115 x435 x448 0 r439 H locs ls w456 (show 0 ≤ a1.toInt by omega) (show a1.toInt ≤ 3 by omega) (show 0 ≤ a2.toInt by omega) (show a2.toInt ≤ 1073741824 by omega) (show 0 ≤ a3.toInt by omega) (show a3.toInt ≤ 120 by omega) (show 0 ≤ a4.toInt by omega) (show a4.toInt ≤ 9 by omega) (show 0 ≤ a6.toInt by omega) (show a6.toInt ≤ 120 by omega) (show 0 ≤ x448.toInt by omega) (show x448.toInt ≤ 1073741944 by omega) (by decide) (by decide) (show 0 ≤ r439.toInt by omega) (show r439.toInt ≤ 9 by omega)  hw hT hF c459 (lv_sub hl [3, 4, 5, 6, 7, 8, 9, 2, 1, 0] rfl)
        · have c452 : x450.toInt = x451.toInt := wk_eq.mp c452
          refine lv_iconst (v := 1) hx hb dX12_leads_62 (by decide) ?_
          refine lv_goto (tgt := 67) hx hb dX12_leads_63 (by decide) ?_
          refine lv_istore (lv' := [(9, .int 1), (8, .int x448), (7, .int x435), (0, .ref (ad 0)), (1, .int a1), (2, .int a2), (3, .int a3), (4, .int a4), (5, .int 1), (6, .int a6)]) hx hb dX12_leads_67 hl (by decide) rfl (fun ls hl => ?_)
          refine lv_aload_n hx hb dX12_leads_69 rfl (lv_at hl 3 rfl) ?_
          refine lv_iload_n hx hb dX12_leads_70 rfl (lv_at hl 6 rfl) ?_
          refine lv_iconst (v := 1) hx hb dX12_leads_71 (by decide) ?_
          refine lv_iadd hx hb dX12_leads_72 ?_
          refine lv_topi (fun x460 ex460 => ?_)
          have ex460 : x460.toInt = a3.toInt + (1 : Int) := by rw [ex460]; exact wk_add (show (-2147483648) ≤ a3.toInt + (1 : Int) by omega) (show a3.toInt + (1 : Int) ≤ 2147483647 by omega)
          refine lv_iload hx hb dX12_leads_73 (lv_at hl 7 rfl) ?_
          refine lv_iload hx hb dX12_leads_75 (lv_at hl 8 rfl) ?_
          refine lv_if_eq (tgt := 89) hx hb dX12_leads_77 (by decide) (fun c => absurd c (by decide)) (fun _ => ?_)
          refine lv_iload hx hb dX12_leads_80 (lv_at hl 0 rfl) ?_
          refine lv_if_eq (tgt := 89) hx hb dX12_leads_82 (by decide) (fun c => absurd c (by decide)) (fun _ => ?_)
          refine lv_iconst (v := 1) hx hb dX12_leads_85 (by decide) ?_
          refine lv_goto (tgt := 90) hx hb dX12_leads_86 (by decide) ?_
          refine lv_iload hx hb dX12_leads_90 (lv_at hl 2 rfl) ?_
          refine tk_Vv hC hK hw hT hA hE hSR kM_at0 (by decide) rfl (k_X12_could_3 l adK adV dC dI cy ad B (by omega) (by omega) qr s1   x460 (show 1 ≤ x460.toInt by omega) (show x460.toInt ≤ 121 by omega) a4 (show 0 ≤ a4.toInt by omega) (show a4.toInt ≤ 9 by omega) x435 w441 H.size hT ) (cwV 4 hC.2.2.2.2 gX12_leads_X12_could rfl rfl rfl (by decide +kernel) ⟨Nat.le_of_ble_eq_true rfl, Nat.le_of_ble_eq_true rfl⟩) rfl hl.1 rfl (Nat.le_of_ble_eq_true rfl) dX12_leads_92 (fun w463 H locs hp462 hw => ?_)
          obtain ⟨hT, k464, hg465⟩ := hp462
          have hF := hF.tr k464 (by decide)
          have c466 := k464.gi kM_at12 rfl c445
          clear hg465
          refine lv_iload hx hb dX12_leads_95 (lv_at hl 8 rfl) ?_
          refine lv_if_ne (tgt := 115) hx hb dX12_leads_97 (by decide) (fun _ => ?_) (fun c => absurd c (by decide))
          exact J115 x435 x448 1 r439 H locs ls w463 (show 0 ≤ a1.toInt by omega) (show a1.toInt ≤ 3 by omega) (show 0 ≤ a2.toInt by omega) (show a2.toInt ≤ 1073741824 by omega) (show 0 ≤ a3.toInt by omega) (show a3.toInt ≤ 120 by omega) (show 0 ≤ a4.toInt by omega) (show a4.toInt ≤ 9 by omega) (show 0 ≤ a6.toInt by omega) (show a6.toInt ≤ 120 by omega) (show 0 ≤ x448.toInt by omega) (show x448.toInt ≤ 1073741944 by omega) (by decide) (by decide) (show 0 ≤ r439.toInt by omega) (show r439.toInt ≤ 9 by omega)  hw hT hF c466 (lv_sub hl [3, 4, 5, 6, 7, 8, 9, 2, 1, 0] rfl)
      · have c447 : a4.toInt = r439.toInt := wk_eq.mp c447
        exact J41 x435 H locs ls w441 (show 0 ≤ a1.toInt by omega) (show a1.toInt ≤ 3 by omega) (show 0 ≤ a2.toInt by omega) (show a2.toInt ≤ 1073741824 by omega) (show 0 ≤ a3.toInt by omega) (show a3.toInt ≤ 120 by omega) (show 0 ≤ a4.toInt by omega) (show a4.toInt ≤ 9 by omega) (show 0 ≤ a6.toInt by omega) (show a6.toInt ≤ 120 by omega)  hw hT hF  (lv_sub hl [1, 2, 3, 4, 5, 6, 7, 0] rfl)
abbrev P_X12_walkerOf_5 (ad : Nat → Nat) (cy : Nat → ClassId) (B : Int) (qr : Nat) (s1 : Int) (a1 : Int32) (w0 : va_W) : Int32 → va_W → Prop := fun r u => TW ksM ad cy B qr 12 u ∧ FE ksM ([] : List (Nat × Nat × Nat)) w0 u ∧ ((0 ≤ r.toInt ∧ r.toInt ≤ 9 ∧ gi u 12 (9 * a1.toInt + 216).toNat = r))
set_option maxHeartbeats 4000000 in
set_option maxRecDepth 100000 in
theorem k_X12_walkerOf_5 (l : Launch) (adK adV : Nat → Nat) (dC : Nat → ClassId) (dI : Nat → Nat → Nat) (cy : Nat → ClassId) (ad : Nat → Nat) (B : Int) (hB0 : 100000 ≤ B) (hB1 : B ≤ 1073741824) (qr : Nat) (s1 : Int)  (a1 : Int32) (ra1 : 0 ≤ a1.toInt) (ta1 : a1.toInt ≤ 3) (w0 : va_W) (sz : Nat) (hT : TW ksM ad cy B qr 12 w0)  : Met l yX12_walkerOf wsX12_walkerOf ({ frames := 1, cells := 0, slots := 0, locals := 12 }) (va_Pc [.ref (ad 0), .int a1, .int 0] (wpreS adK adV dC dI cy sz w0)) (va_Qi (P_X12_walkerOf_5 ad cy B qr s1 a1 w0) (fun u : va_W => wpost dC dI cy (va_A w0 sz) u) (va_A w0 sz)) 0 0 (va_A w0 sz) := by
  refine Met.ofW (cc := cX12_walkerOf) (maxL := 3) (ret := (some .int)) (by decide) rfl ?_
  intro p e s m args below meth c s₁ Bk hml hv
  obtain ⟨rfl, ⟨hsz, hP, hK, hD0⟩, hE, hSR⟩ := hv
  have hx := Bk.exec
  have hb := Bk.bytes
  have hr := Bk.returns
  have hlocks := Bk.notSynchronized
  have hC : CallFix p m c cX12_walkerOf 3 s _ wsX12_walkerOf RX12 := ⟨hx, hb, hml, findClass_of_methodNamed Bk.named, atoms_spec (ws := wsX12_walkerOf) Bk.pre⟩
  subst hsz
  have hD := hD0.self (sz := s.heap.size)
  generalize hAe : va_A w0 s.heap.size = A at hD hE ⊢
  have hA : ∀ q : Nat, s.heap.size ≤ q → A q := fun q h => by rw [← hAe]; exact Or.inr h
  have hw : Wd dC dI A s.heap s.heap [] w0 := ⟨hP, hD, va_S.rf⟩
  have hF : FE ksM ([] : List (Nat × Nat × Nat)) w0 w0 := FE.rf
  have hl := lv_entry ([.ref (ad 0), .int a1, .int 0]) (n := 3) (Nat.le_of_ble_eq_true rfl)
  rw [lg_entry_eq]
  generalize (lg_sl ([.ref (ad 0), .int a1, .int 0]) ++ List.replicate (3 - (lg_sl ([.ref (ad 0), .int a1, .int 0])).length) Slot.unset).toArray = ls at hl ⊢
  have hl : lv_has ls 3 [(0, .ref (ad 0)), (1, .int a1), (2, .int 0)] := hl
  generalize hloc : ([] : List Loc) = locs at hw ⊢
  have hinX12 : ∀ w ∈ u_ws RX12 TX12 42, w ∈ wsX12_walkerOf := fun _ h => List.mem_cons_of_mem _ (List.mem_append_right _ (h))
  refine lv_aload_n hx hb dX12_walkerOf_0 rfl (lv_at hl 0 rfl) ?_
  refine tk_getA hC hK hw hT hinX12 kM_at0 (by decide) rfl 26 (by decide) (List.mem_of_getElem? (i := 1) rfl) rfl rfl dX12_walkerOf_1 ?_
  refine lv_sipush (v := 216) hx hb dX12_walkerOf_4 (by decide) ?_
  refine lv_bipush (v := 9) hx hb dX12_walkerOf_7 (by decide) ?_
  refine lv_iload_n hx hb dX12_walkerOf_9 rfl (lv_at hl 1 rfl) ?_
  refine lv_imul hx hb dX12_walkerOf_10 ?_
  refine lv_topi (fun x1 ex1 => ?_)
  have ex1 : x1.toInt = (9 : Int) * a1.toInt := by rw [ex1]; exact wk_mul (show (-2147483648) ≤ (9 : Int) * a1.toInt by omega) (show (9 : Int) * a1.toInt ≤ 2147483647 by omega)
  refine lv_iadd hx hb dX12_walkerOf_11 ?_
  refine lv_topi (fun x2 ex2 => ?_)
  have ex2 : x2.toInt = (216 : Int) + x1.toInt := by rw [ex2]; exact wk_add (show (-2147483648) ≤ (216 : Int) + x1.toInt by omega) (show (216 : Int) + x1.toInt ≤ 2147483647 by omega)
  refine lv_iload_n hx hb dX12_walkerOf_12 rfl (lv_at hl 2 rfl) ?_
  refine lv_iadd hx hb dX12_walkerOf_13 ?_
  refine lv_topi (fun x3 ex3 => ?_)
  have ex3 : x3.toInt = x2.toInt + (0 : Int) := by rw [ex3]; exact wk_add (show (-2147483648) ≤ x2.toInt + (0 : Int) by omega) (show x2.toInt + (0 : Int) ≤ 2147483647 by omega)
  refine tk_ialdR hC hK hw hT kM_at12 rfl (show 0 ≤ x3.toInt by omega) (show x3.toInt < 296 by omega) dX12_walkerOf_14 (fun x4 c5 Ex4 => ?_)
  have c5 : gi w0 12 (9 * a1.toInt + 216).toNat = x4 := (congrArg (gi w0 12) (congrArg Int.toNat (show 9 * a1.toInt + 216 = x3.toInt by omega))).trans c5
  have bx4 := tk_rgI rfl 216 9 4 0 9 (by decide +kernel) ⟨(a1.toInt - 0).toNat, by omega, show x3.toInt.toNat = 216 + 9 * (a1.toInt - 0).toNat by omega⟩ Ex4
  exact tk_iret hC hr hlocks hK ⟨hT, hF, ⟨(show 0 ≤ x4.toInt by omega), (show x4.toInt ≤ 9 by omega), c5⟩⟩ hw dX12_walkerOf_15
abbrev P_X12_walkerOf_6 (ad : Nat → Nat) (cy : Nat → ClassId) (B : Int) (qr : Nat) (s1 : Int) (a1 : Int32) (w0 : va_W) : Int32 → va_W → Prop := fun r u => TW ksM ad cy B qr 12 u ∧ FE ksM ([] : List (Nat × Nat × Nat)) w0 u ∧ ((gi u 12 (9 * a1.toInt + 224).toNat = r))
set_option maxHeartbeats 4000000 in
set_option maxRecDepth 100000 in
theorem k_X12_walkerOf_6 (l : Launch) (adK adV : Nat → Nat) (dC : Nat → ClassId) (dI : Nat → Nat → Nat) (cy : Nat → ClassId) (ad : Nat → Nat) (B : Int) (hB0 : 100000 ≤ B) (hB1 : B ≤ 1073741824) (qr : Nat) (s1 : Int)  (a1 : Int32) (ra1 : 0 ≤ a1.toInt) (ta1 : a1.toInt ≤ 3) (w0 : va_W) (sz : Nat) (hT : TW ksM ad cy B qr 12 w0)  : Met l yX12_walkerOf wsX12_walkerOf ({ frames := 1, cells := 0, slots := 0, locals := 12 }) (va_Pc [.ref (ad 0), .int a1, .int 8] (wpreS adK adV dC dI cy sz w0)) (va_Qi (P_X12_walkerOf_6 ad cy B qr s1 a1 w0) (fun u : va_W => wpost dC dI cy (va_A w0 sz) u) (va_A w0 sz)) 0 0 (va_A w0 sz) := by
  refine Met.ofW (cc := cX12_walkerOf) (maxL := 3) (ret := (some .int)) (by decide) rfl ?_
  intro p e s m args below meth c s₁ Bk hml hv
  obtain ⟨rfl, ⟨hsz, hP, hK, hD0⟩, hE, hSR⟩ := hv
  have hx := Bk.exec
  have hb := Bk.bytes
  have hr := Bk.returns
  have hlocks := Bk.notSynchronized
  have hC : CallFix p m c cX12_walkerOf 3 s _ wsX12_walkerOf RX12 := ⟨hx, hb, hml, findClass_of_methodNamed Bk.named, atoms_spec (ws := wsX12_walkerOf) Bk.pre⟩
  subst hsz
  have hD := hD0.self (sz := s.heap.size)
  generalize hAe : va_A w0 s.heap.size = A at hD hE ⊢
  have hA : ∀ q : Nat, s.heap.size ≤ q → A q := fun q h => by rw [← hAe]; exact Or.inr h
  have hw : Wd dC dI A s.heap s.heap [] w0 := ⟨hP, hD, va_S.rf⟩
  have hF : FE ksM ([] : List (Nat × Nat × Nat)) w0 w0 := FE.rf
  have hl := lv_entry ([.ref (ad 0), .int a1, .int 8]) (n := 3) (Nat.le_of_ble_eq_true rfl)
  rw [lg_entry_eq]
  generalize (lg_sl ([.ref (ad 0), .int a1, .int 8]) ++ List.replicate (3 - (lg_sl ([.ref (ad 0), .int a1, .int 8])).length) Slot.unset).toArray = ls at hl ⊢
  have hl : lv_has ls 3 [(0, .ref (ad 0)), (1, .int a1), (2, .int 8)] := hl
  generalize hloc : ([] : List Loc) = locs at hw ⊢
  have hinX12 : ∀ w ∈ u_ws RX12 TX12 42, w ∈ wsX12_walkerOf := fun _ h => List.mem_cons_of_mem _ (List.mem_append_right _ (h))
  refine lv_aload_n hx hb dX12_walkerOf_0 rfl (lv_at hl 0 rfl) ?_
  refine tk_getA hC hK hw hT hinX12 kM_at0 (by decide) rfl 26 (by decide) (List.mem_of_getElem? (i := 1) rfl) rfl rfl dX12_walkerOf_1 ?_
  refine lv_sipush (v := 216) hx hb dX12_walkerOf_4 (by decide) ?_
  refine lv_bipush (v := 9) hx hb dX12_walkerOf_7 (by decide) ?_
  refine lv_iload_n hx hb dX12_walkerOf_9 rfl (lv_at hl 1 rfl) ?_
  refine lv_imul hx hb dX12_walkerOf_10 ?_
  refine lv_topi (fun x1 ex1 => ?_)
  have ex1 : x1.toInt = (9 : Int) * a1.toInt := by rw [ex1]; exact wk_mul (show (-2147483648) ≤ (9 : Int) * a1.toInt by omega) (show (9 : Int) * a1.toInt ≤ 2147483647 by omega)
  refine lv_iadd hx hb dX12_walkerOf_11 ?_
  refine lv_topi (fun x2 ex2 => ?_)
  have ex2 : x2.toInt = (216 : Int) + x1.toInt := by rw [ex2]; exact wk_add (show (-2147483648) ≤ (216 : Int) + x1.toInt by omega) (show (216 : Int) + x1.toInt ≤ 2147483647 by omega)
  refine lv_iload_n hx hb dX12_walkerOf_12 rfl (lv_at hl 2 rfl) ?_
  refine lv_iadd hx hb dX12_walkerOf_13 ?_
  refine lv_topi (fun x3 ex3 => ?_)
  have ex3 : x3.toInt = x2.toInt + (8 : Int) := by rw [ex3]; exact wk_add (show (-2147483648) ≤ x2.toInt + (8 : Int) by omega) (show x2.toInt + (8 : Int) ≤ 2147483647 by omega)
  refine tk_ialdR hC hK hw hT kM_at12 rfl (show 0 ≤ x3.toInt by omega) (show x3.toInt < 296 by omega) dX12_walkerOf_14 (fun x4 c5 Ex4 => ?_)
  have c5 : gi w0 12 (9 * a1.toInt + 224).toNat = x4 := (congrArg (gi w0 12) (congrArg Int.toNat (show 9 * a1.toInt + 224 = x3.toInt by omega))).trans c5
  exact tk_iret hC hr hlocks hK ⟨hT, hF, c5⟩ hw dX12_walkerOf_15
abbrev P_X12_askedToday_1 (ad : Nat → Nat) (cy : Nat → ClassId) (B : Int) (qr : Nat) (s1 : Int) (a1 : Int32) (w0 : va_W) : Int32 → va_W → Prop := fun r u => TW ksM ad cy B qr 12 u ∧ FE ksM ([] : List (Nat × Nat × Nat)) w0 u ∧ ((r = 0) ∨ (r = 1))
set_option maxHeartbeats 4000000 in
set_option maxRecDepth 100000 in
theorem k_X12_askedToday_1 (l : Launch) (adK adV : Nat → Nat) (dC : Nat → ClassId) (dI : Nat → Nat → Nat) (cy : Nat → ClassId) (ad : Nat → Nat) (B : Int) (hB0 : 100000 ≤ B) (hB1 : B ≤ 1073741824) (qr : Nat) (s1 : Int)  (a1 : Int32) (ra1 : 0 ≤ a1.toInt) (ta1 : a1.toInt ≤ 3) (w0 : va_W) (sz : Nat) (hT : TW ksM ad cy B qr 12 w0)  : Met l yX12_askedToday wsX12_askedToday ({ frames := 2, cells := 0, slots := 0, locals := 34 }) (va_Pc [.ref (ad 0), .int a1] (wpreS adK adV dC dI cy sz w0)) (va_Qi (P_X12_askedToday_1 ad cy B qr s1 a1 w0) (fun u : va_W => wpost dC dI cy (va_A w0 sz) u) (va_A w0 sz)) 0 0 (va_A w0 sz) := by
  refine Met.ofW (cc := cX12_askedToday) (maxL := 2) (ret := (some .boolean)) (by decide) rfl ?_
  intro p e s m args below meth c s₁ Bk hml hv
  obtain ⟨rfl, ⟨hsz, hP, hK, hD0⟩, hE, hSR⟩ := hv
  have hx := Bk.exec
  have hb := Bk.bytes
  have hr := Bk.returns
  have hlocks := Bk.notSynchronized
  have hC : CallFix p m c cX12_askedToday 2 s _ wsX12_askedToday RX12 := ⟨hx, hb, hml, findClass_of_methodNamed Bk.named, atoms_spec (ws := wsX12_askedToday) Bk.pre⟩
  subst hsz
  have hD := hD0.self (sz := s.heap.size)
  generalize hAe : va_A w0 s.heap.size = A at hD hE ⊢
  have hA : ∀ q : Nat, s.heap.size ≤ q → A q := fun q h => by rw [← hAe]; exact Or.inr h
  have hw : Wd dC dI A s.heap s.heap [] w0 := ⟨hP, hD, va_S.rf⟩
  have hF : FE ksM ([] : List (Nat × Nat × Nat)) w0 w0 := FE.rf
  have hl := lv_entry ([.ref (ad 0), .int a1]) (n := 2) (Nat.le_of_ble_eq_true rfl)
  rw [lg_entry_eq]
  generalize (lg_sl ([.ref (ad 0), .int a1]) ++ List.replicate (2 - (lg_sl ([.ref (ad 0), .int a1])).length) Slot.unset).toArray = ls at hl ⊢
  have hl : lv_has ls 2 [(0, .ref (ad 0)), (1, .int a1)] := hl
  generalize hloc : ([] : List Loc) = locs at hw ⊢
  refine lv_aload_n hx hb dX12_askedToday_0 rfl (lv_at hl 0 rfl) ?_
  refine lv_iload_n hx hb dX12_askedToday_1 rfl (lv_at hl 1 rfl) ?_
  refine lv_bipush (v := 8) hx hb dX12_askedToday_2 (by decide) ?_
  refine tk_Vi hC hK hw hT hA hE hSR kM_at0 (by decide) rfl (k_X12_walkerOf_6 l adK adV dC dI cy ad B (by omega) (by omega) qr s1   a1 (show 0 ≤ a1.toInt by omega) (show a1.toInt ≤ 3 by omega) w0 s.heap.size hT ) (cwV 2 hC.2.2.2.2 gX12_askedToday_X12_walkerOf rfl rfl rfl (by decide +kernel) ⟨Nat.le_of_ble_eq_true rfl, Nat.le_of_ble_eq_true rfl⟩) rfl hl.1 rfl (Nat.le_of_ble_eq_true rfl) dX12_askedToday_4 (fun r1 w3 H locs hp2 hw => ?_)
  obtain ⟨hT, k4, hg6⟩ := hp2
  have hF := hF.tr k4 (by decide)
  obtain c5 := hg6
  refine lv_aload_n hx hb dX12_askedToday_7 rfl (lv_at hl 0 rfl) ?_
  refine lv_iload_n hx hb dX12_askedToday_8 rfl (lv_at hl 1 rfl) ?_
  refine lv_iconst (v := 4) hx hb dX12_askedToday_9 (by decide) ?_
  refine tk_Vi hC hK hw hT hA hE hSR kM_at0 (by decide) rfl (k_X12_walkerOf_2 l adK adV dC dI cy ad B (by omega) (by omega) qr s1   a1 (show 0 ≤ a1.toInt by omega) (show a1.toInt ≤ 3 by omega) w3 H.size hT ) (cwV 2 hC.2.2.2.2 gX12_askedToday_X12_walkerOf rfl rfl rfl (by decide +kernel) ⟨Nat.le_of_ble_eq_true rfl, Nat.le_of_ble_eq_true rfl⟩) rfl hl.1 rfl (Nat.le_of_ble_eq_true rfl) dX12_askedToday_10 (fun r7 w9 H locs hp8 hw => ?_)
  obtain ⟨hT, k10, hg13⟩ := hp8
  have hF := hF.tr k10 (by decide)
  have c14 := k10.gi kM_at12 rfl c5
  obtain ⟨g11, g12⟩ := hg13
  refine lv_bipush (v := 24) hx hb dX12_askedToday_13 (by decide) ?_
  refine lv_idiv hx hb dX12_askedToday_15 (by decide) ?_
  refine lv_topi (fun x15 ex15 => ?_)
  have ex15 : x15.toInt = r7.toInt / (24 : Int) := by rw [ex15]; exact wk_div (show 0 ≤ r7.toInt by omega) (show 0 < (24 : Int) by decide)
  refine lv_icmp_ne (tgt := 23) hx hb dX12_askedToday_16 (by decide) (fun c16 => ?_) (fun c16 => ?_)
  · have c16 : ¬ r1.toInt = x15.toInt := wk_eqF c16
    refine lv_iconst (v := 0) hx hb dX12_askedToday_23 (by decide) ?_
    exact tk_zret hC hr rfl hlocks hK ⟨hT, hF, (Or.inl rfl)⟩ hw dX12_askedToday_24
  · have c16 : r1.toInt = x15.toInt := wk_eq.mp c16
    refine lv_iconst (v := 1) hx hb dX12_askedToday_19 (by decide) ?_
    refine lv_goto (tgt := 24) hx hb dX12_askedToday_20 (by decide) ?_
    exact tk_zret hC hr rfl hlocks hK ⟨hT, hF, (Or.inr rfl)⟩ hw dX12_askedToday_24
abbrev P_X12_placeAt_5 (ad : Nat → Nat) (cy : Nat → ClassId) (B : Int) (qr : Nat) (s1 : Int) (a2 : Int32) (w0 : va_W) : Int32 → va_W → Prop := fun r u => TW ksM ad cy B qr 12 u ∧ FE ksM ([] : List (Nat × Nat × Nat)) w0 u ∧ ((0 ≤ r.toInt ∧ r.toInt ≤ 18))
set_option maxHeartbeats 4000000 in
set_option maxRecDepth 100000 in
theorem k_X12_placeAt_5 (l : Launch) (adK adV : Nat → Nat) (dC : Nat → ClassId) (dI : Nat → Nat → Nat) (cy : Nat → ClassId) (ad : Nat → Nat) (B : Int) (hB0 : 100000 ≤ B) (hB1 : B ≤ 1073741824) (qr : Nat) (s1 : Int)  (a2 : Int32) (ra2 : 0 ≤ a2.toInt) (ta2 : a2.toInt ≤ 9) (w0 : va_W) (sz : Nat) (hT : TW ksM ad cy B qr 12 w0)  : Met l yX12_placeAt wsX12_placeAt ({ frames := 1, cells := 0, slots := 0, locals := 12 }) (va_Pc [.ref (ad 0), .int 0, .int a2, .int 0] (wpreS adK adV dC dI cy sz w0)) (va_Qi (P_X12_placeAt_5 ad cy B qr s1 a2 w0) (fun u : va_W => wpost dC dI cy (va_A w0 sz) u) (va_A w0 sz)) 0 0 (va_A w0 sz) := by
  refine Met.ofW (cc := cX12_placeAt) (maxL := 4) (ret := (some .int)) (by decide) rfl ?_
  intro p e s m args below meth c s₁ Bk hml hv
  obtain ⟨rfl, ⟨hsz, hP, hK, hD0⟩, hE, hSR⟩ := hv
  have hx := Bk.exec
  have hb := Bk.bytes
  have hr := Bk.returns
  have hlocks := Bk.notSynchronized
  have hC : CallFix p m c cX12_placeAt 4 s _ wsX12_placeAt RX12 := ⟨hx, hb, hml, findClass_of_methodNamed Bk.named, atoms_spec (ws := wsX12_placeAt) Bk.pre⟩
  subst hsz
  have hD := hD0.self (sz := s.heap.size)
  generalize hAe : va_A w0 s.heap.size = A at hD hE ⊢
  have hA : ∀ q : Nat, s.heap.size ≤ q → A q := fun q h => by rw [← hAe]; exact Or.inr h
  have hw : Wd dC dI A s.heap s.heap [] w0 := ⟨hP, hD, va_S.rf⟩
  have hF : FE ksM ([] : List (Nat × Nat × Nat)) w0 w0 := FE.rf
  have hl := lv_entry ([.ref (ad 0), .int 0, .int a2, .int 0]) (n := 4) (Nat.le_of_ble_eq_true rfl)
  rw [lg_entry_eq]
  generalize (lg_sl ([.ref (ad 0), .int 0, .int a2, .int 0]) ++ List.replicate (4 - (lg_sl ([.ref (ad 0), .int 0, .int a2, .int 0])).length) Slot.unset).toArray = ls at hl ⊢
  have hl : lv_has ls 4 [(0, .ref (ad 0)), (1, .int 0), (2, .int a2), (3, .int 0)] := hl
  generalize hloc : ([] : List Loc) = locs at hw ⊢
  refine lv_iload_n hx hb dX12_placeAt_0 rfl (lv_at hl 1 rfl) ?_
  refine lv_bipush (v := 10) hx hb dX12_placeAt_1 (by decide) ?_
  refine lv_imul hx hb dX12_placeAt_3 ?_
  refine wk_top 0 (by decide) ?_
  refine lv_iload_n hx hb dX12_placeAt_4 rfl (lv_at hl 2 rfl) ?_
  refine lv_iadd hx hb dX12_placeAt_5 ?_
  refine lv_topi (fun x1 ex1 => ?_)
  have ex1 : x1.toInt = (0 : Int) + a2.toInt := by rw [ex1]; exact wk_add (show (-2147483648) ≤ (0 : Int) + a2.toInt by omega) (show (0 : Int) + a2.toInt ≤ 2147483647 by omega)
  refine lv_iconst (v := 2) hx hb dX12_placeAt_6 (by decide) ?_
  refine lv_imul hx hb dX12_placeAt_7 ?_
  refine lv_topi (fun x2 ex2 => ?_)
  have ex2 : x2.toInt = x1.toInt * (2 : Int) := by rw [ex2]; exact wk_mul (show (-2147483648) ≤ x1.toInt * (2 : Int) by omega) (show x1.toInt * (2 : Int) ≤ 2147483647 by omega)
  refine lv_iload_n hx hb dX12_placeAt_8 rfl (lv_at hl 3 rfl) ?_
  refine lv_if_eq (tgt := 16) hx hb dX12_placeAt_9 (by decide) (fun _ => ?_) (fun c => absurd (by decide) c)
  refine lv_iconst (v := 0) hx hb dX12_placeAt_16 (by decide) ?_
  refine lv_iadd hx hb dX12_placeAt_17 ?_
  refine lv_topi (fun x3 ex3 => ?_)
  have ex3 : x3.toInt = x2.toInt + (0 : Int) := by rw [ex3]; exact wk_add (show (-2147483648) ≤ x2.toInt + (0 : Int) by omega) (show x2.toInt + (0 : Int) ≤ 2147483647 by omega)
  exact tk_iret hC hr hlocks hK ⟨hT, hF, ⟨(show 0 ≤ x3.toInt by omega), (show x3.toInt ≤ 18 by omega)⟩⟩ hw dX12_placeAt_18
abbrev P_X12_could_5 (ad : Nat → Nat) (cy : Nat → ClassId) (B : Int) (qr : Nat) (s1 : Int) (a2 : Int32) (w0 : va_W) : va_W → Prop := fun u => TW ksM ad cy B qr 12 u ∧ FE ksM [(76, 0, 2600)] w0 u ∧ ((True))
set_option maxHeartbeats 4000000 in
set_option maxRecDepth 100000 in
theorem k_X12_could_5 (l : Launch) (adK adV : Nat → Nat) (dC : Nat → ClassId) (dI : Nat → Nat → Nat) (cy : Nat → ClassId) (ad : Nat → Nat) (B : Int) (hB0 : 100000 ≤ B) (hB1 : B ≤ 1073741824) (qr : Nat) (s1 : Int)  (a2 : Int32) (ra2 : 0 ≤ a2.toInt) (ta2 : a2.toInt ≤ 9) (w0 : va_W) (sz : Nat) (hT : TW ksM ad cy B qr 12 w0)  : Met l yX12_could wsX12_could ({ frames := 2, cells := 0, slots := 0, locals := 35 }) (va_Pc [.ref (ad 0), .int 0, .int a2, .int 0, .int 0] (wpreS adK adV dC dI cy sz w0)) (va_Qv (P_X12_could_5 ad cy B qr s1 a2 w0) (fun u : va_W => wpost dC dI cy (va_A w0 sz) u) (va_A w0 sz)) 0 0 (va_A w0 sz) := by
  refine Met.ofW (cc := cX12_could) (maxL := 6) (ret := none) (by decide) rfl ?_
  intro p e s m args below meth c s₁ Bk hml hv
  obtain ⟨rfl, ⟨hsz, hP, hK, hD0⟩, hE, hSR⟩ := hv
  have hx := Bk.exec
  have hb := Bk.bytes
  have hr := Bk.returns
  have hlocks := Bk.notSynchronized
  have hC : CallFix p m c cX12_could 6 s _ wsX12_could RX12 := ⟨hx, hb, hml, findClass_of_methodNamed Bk.named, atoms_spec (ws := wsX12_could) Bk.pre⟩
  subst hsz
  have hD := hD0.self (sz := s.heap.size)
  generalize hAe : va_A w0 s.heap.size = A at hD hE ⊢
  have hA : ∀ q : Nat, s.heap.size ≤ q → A q := fun q h => by rw [← hAe]; exact Or.inr h
  have hw : Wd dC dI A s.heap s.heap [] w0 := ⟨hP, hD, va_S.rf⟩
  have hF : FE ksM [(76, 0, 2600)] w0 w0 := FE.rf
  have hl := lv_entry ([.ref (ad 0), .int 0, .int a2, .int 0, .int 0]) (n := 6) (Nat.le_of_ble_eq_true rfl)
  rw [lg_entry_eq]
  generalize (lg_sl ([.ref (ad 0), .int 0, .int a2, .int 0, .int 0]) ++ List.replicate (6 - (lg_sl ([.ref (ad 0), .int 0, .int a2, .int 0, .int 0])).length) Slot.unset).toArray = ls at hl ⊢
  have hl : lv_has ls 6 [(0, .ref (ad 0)), (1, .int 0), (2, .int a2), (3, .int 0), (4, .int 0)] := hl
  generalize hloc : ([] : List Loc) = locs at hw ⊢
  have hinX12 : ∀ w ∈ u_ws RX12 TX12 42, w ∈ wsX12_could := fun _ h => List.mem_cons_of_mem _ (List.mem_append_right _ (h))
  have J30 : ∀ (v30_5 : Int32) (H : Heap) (locs : List Loc) (ls : Array Slot) (w1 : va_W), 0 ≤ a2.toInt → a2.toInt ≤ 9 → 0 ≤ v30_5.toInt → v30_5.toInt ≤ 18 → Wd dC dI A s.heap H locs w1 → TW ksM ad cy B qr 12 w1 → FE ksM [(76, 0, 2600)] w0 w1 → lv_has ls 6 [(0, .ref (ad 0)), (1, .int 0), (2, .int a2), (3, .int 0), (4, .int 0), (5, .int v30_5)] → W p l e ({ frames := 2, cells := 0, slots := 0, locals := 35 }) s m (List.toArray [.ref (ad 0), .int 0, .int a2, .int 0, .int 0]) below meth c H locs 0 0 (MQ below (va_Qv (P_X12_could_5 ad cy B qr s1 a2 w0) (fun u : va_W => wpost dC dI cy A u) A) (List.toArray [.ref (ad 0), .int 0, .int a2, .int 0, .int 0]) s 0 0 A) (F0 m 30 ls []) := by
    intro v30_5 H locs ls w1 r2 t3 r4 t5 hw hT hF hl
    exact tk_vret hC hr hlocks hK ⟨hT, hF, trivial⟩ hw dX12_could_30
  refine lv_aload_n hx hb dX12_could_0 rfl (lv_at hl 0 rfl) ?_
  refine lv_iload_n hx hb dX12_could_1 rfl (lv_at hl 1 rfl) ?_
  refine lv_iload_n hx hb dX12_could_2 rfl (lv_at hl 2 rfl) ?_
  refine lv_iload_n hx hb dX12_could_3 rfl (lv_at hl 3 rfl) ?_
  refine tk_Vi hC hK hw hT hA hE hSR kM_at0 (by decide) rfl (k_X12_placeAt_5 l adK adV dC dI cy ad B (by omega) (by omega) qr s1   a2 (show 0 ≤ a2.toInt by omega) (show a2.toInt ≤ 9 by omega) w0 s.heap.size hT ) (cwV 3 hC.2.2.2.2 gX12_could_X12_placeAt rfl rfl rfl (by decide +kernel) ⟨Nat.le_of_ble_eq_true rfl, Nat.le_of_ble_eq_true rfl⟩) rfl hl.1 rfl (Nat.le_of_ble_eq_true rfl) dX12_could_4 (fun r6 w8 H locs hp7 hw => ?_)
  obtain ⟨hT, k9, hg12⟩ := hp7
  have hF := hF.tr k9 (by decide)
  obtain ⟨g10, g11⟩ := hg12
  refine lv_istore (lv' := [(5, .int r6), (0, .ref (ad 0)), (1, .int 0), (2, .int a2), (3, .int 0), (4, .int 0)]) hx hb dX12_could_7 hl (by decide) rfl (fun ls hl => ?_)
  refine lv_iload hx hb dX12_could_9 (lv_at hl 5 rfl) ?_
  refine lv_aload_n hx hb dX12_could_11 rfl (lv_at hl 1 rfl) ?_
  refine tk_getA hC hK hw hT hinX12 kM_at0 (by decide) rfl 34 (by decide) (List.mem_of_getElem? (i := 1) rfl) rfl rfl dX12_could_12 ?_
  refine lv_iload hx hb dX12_could_15 (lv_at hl 0 rfl) ?_
  refine tk_iald hC hK hw hT kM_at17 rfl rfl (show 0 ≤ r6.toInt by omega) (show r6.toInt < 2600 by omega) dX12_could_17 (fun x13 c14 rx13 tx13 => ?_)
  refine lv_icmp_ge (tgt := 30) hx hb dX12_could_18 (by decide) (fun c15 => ?_) (fun c15 => ?_)
  · have c15 : x13.toInt ≤ (0 : Int) := wk_le.mp c15
    exact J30 r6 H locs ls w8 (show 0 ≤ a2.toInt by omega) (show a2.toInt ≤ 9 by omega) (show 0 ≤ r6.toInt by omega) (show r6.toInt ≤ 18 by omega)  hw hT hF  (lv_sub hl [1, 2, 3, 4, 5, 0] rfl)
  · have c15 : (0 : Int) < x13.toInt := wk_leF c15
    refine lv_aload_n hx hb dX12_could_21 rfl (lv_at hl 1 rfl) ?_
    refine tk_getA hC hK hw hT hinX12 kM_at0 (by decide) rfl 34 (by decide) (List.mem_of_getElem? (i := 1) rfl) rfl rfl dX12_could_22 ?_
    refine lv_iload hx hb dX12_could_25 (lv_at hl 0 rfl) ?_
    refine lv_iload hx hb dX12_could_27 (lv_at hl 5 rfl) ?_
    refine tk_iast hC hK hw hT kM_at17 (by decide) rfl rfl (show 0 ≤ r6.toInt by omega) (show r6.toInt < 2600 by omega) (by decide) (by decide) dX12_could_29 (fun H locs w16 hw hT k18 c17 => ?_)
    have hF := hF.put kM_at17 (inE_of (a := 0) (b := 2600) (by decide) (show 0 ≤ r6.toInt.toNat by omega) (show r6.toInt.toNat ≤ 2600 by omega)) k18
    exact J30 r6 H locs ls w16 (show 0 ≤ a2.toInt by omega) (show a2.toInt ≤ 9 by omega) (show 0 ≤ r6.toInt by omega) (show r6.toInt ≤ 18 by omega)  hw hT hF  (lv_sub hl [1, 2, 3, 4, 5, 0] rfl)
abbrev P_X12_placeAt_6 (ad : Nat → Nat) (cy : Nat → ClassId) (B : Int) (qr : Nat) (s1 : Int) (a2 : Int32) (w0 : va_W) : Int32 → va_W → Prop := fun r u => TW ksM ad cy B qr 12 u ∧ FE ksM ([] : List (Nat × Nat × Nat)) w0 u ∧ ((1 ≤ r.toInt ∧ r.toInt ≤ 19))
set_option maxHeartbeats 4000000 in
set_option maxRecDepth 100000 in
theorem k_X12_placeAt_6 (l : Launch) (adK adV : Nat → Nat) (dC : Nat → ClassId) (dI : Nat → Nat → Nat) (cy : Nat → ClassId) (ad : Nat → Nat) (B : Int) (hB0 : 100000 ≤ B) (hB1 : B ≤ 1073741824) (qr : Nat) (s1 : Int)  (a2 : Int32) (ra2 : 0 ≤ a2.toInt) (ta2 : a2.toInt ≤ 9) (w0 : va_W) (sz : Nat) (hT : TW ksM ad cy B qr 12 w0)  : Met l yX12_placeAt wsX12_placeAt ({ frames := 1, cells := 0, slots := 0, locals := 12 }) (va_Pc [.ref (ad 0), .int 0, .int a2, .int 1] (wpreS adK adV dC dI cy sz w0)) (va_Qi (P_X12_placeAt_6 ad cy B qr s1 a2 w0) (fun u : va_W => wpost dC dI cy (va_A w0 sz) u) (va_A w0 sz)) 0 0 (va_A w0 sz) := by
  refine Met.ofW (cc := cX12_placeAt) (maxL := 4) (ret := (some .int)) (by decide) rfl ?_
  intro p e s m args below meth c s₁ Bk hml hv
  obtain ⟨rfl, ⟨hsz, hP, hK, hD0⟩, hE, hSR⟩ := hv
  have hx := Bk.exec
  have hb := Bk.bytes
  have hr := Bk.returns
  have hlocks := Bk.notSynchronized
  have hC : CallFix p m c cX12_placeAt 4 s _ wsX12_placeAt RX12 := ⟨hx, hb, hml, findClass_of_methodNamed Bk.named, atoms_spec (ws := wsX12_placeAt) Bk.pre⟩
  subst hsz
  have hD := hD0.self (sz := s.heap.size)
  generalize hAe : va_A w0 s.heap.size = A at hD hE ⊢
  have hA : ∀ q : Nat, s.heap.size ≤ q → A q := fun q h => by rw [← hAe]; exact Or.inr h
  have hw : Wd dC dI A s.heap s.heap [] w0 := ⟨hP, hD, va_S.rf⟩
  have hF : FE ksM ([] : List (Nat × Nat × Nat)) w0 w0 := FE.rf
  have hl := lv_entry ([.ref (ad 0), .int 0, .int a2, .int 1]) (n := 4) (Nat.le_of_ble_eq_true rfl)
  rw [lg_entry_eq]
  generalize (lg_sl ([.ref (ad 0), .int 0, .int a2, .int 1]) ++ List.replicate (4 - (lg_sl ([.ref (ad 0), .int 0, .int a2, .int 1])).length) Slot.unset).toArray = ls at hl ⊢
  have hl : lv_has ls 4 [(0, .ref (ad 0)), (1, .int 0), (2, .int a2), (3, .int 1)] := hl
  generalize hloc : ([] : List Loc) = locs at hw ⊢
  refine lv_iload_n hx hb dX12_placeAt_0 rfl (lv_at hl 1 rfl) ?_
  refine lv_bipush (v := 10) hx hb dX12_placeAt_1 (by decide) ?_
  refine lv_imul hx hb dX12_placeAt_3 ?_
  refine wk_top 0 (by decide) ?_
  refine lv_iload_n hx hb dX12_placeAt_4 rfl (lv_at hl 2 rfl) ?_
  refine lv_iadd hx hb dX12_placeAt_5 ?_
  refine lv_topi (fun x1 ex1 => ?_)
  have ex1 : x1.toInt = (0 : Int) + a2.toInt := by rw [ex1]; exact wk_add (show (-2147483648) ≤ (0 : Int) + a2.toInt by omega) (show (0 : Int) + a2.toInt ≤ 2147483647 by omega)
  refine lv_iconst (v := 2) hx hb dX12_placeAt_6 (by decide) ?_
  refine lv_imul hx hb dX12_placeAt_7 ?_
  refine lv_topi (fun x2 ex2 => ?_)
  have ex2 : x2.toInt = x1.toInt * (2 : Int) := by rw [ex2]; exact wk_mul (show (-2147483648) ≤ x1.toInt * (2 : Int) by omega) (show x1.toInt * (2 : Int) ≤ 2147483647 by omega)
  refine lv_iload_n hx hb dX12_placeAt_8 rfl (lv_at hl 3 rfl) ?_
  refine lv_if_eq (tgt := 16) hx hb dX12_placeAt_9 (by decide) (fun c => absurd c (by decide)) (fun _ => ?_)
  refine lv_iconst (v := 1) hx hb dX12_placeAt_12 (by decide) ?_
  refine lv_goto (tgt := 17) hx hb dX12_placeAt_13 (by decide) ?_
  refine lv_iadd hx hb dX12_placeAt_17 ?_
  refine lv_topi (fun x3 ex3 => ?_)
  have ex3 : x3.toInt = x2.toInt + (1 : Int) := by rw [ex3]; exact wk_add (show (-2147483648) ≤ x2.toInt + (1 : Int) by omega) (show x2.toInt + (1 : Int) ≤ 2147483647 by omega)
  exact tk_iret hC hr hlocks hK ⟨hT, hF, ⟨(show 1 ≤ x3.toInt by omega), (show x3.toInt ≤ 19 by omega)⟩⟩ hw dX12_placeAt_18
abbrev P_X12_could_6 (ad : Nat → Nat) (cy : Nat → ClassId) (B : Int) (qr : Nat) (s1 : Int) (a2 : Int32) (w0 : va_W) : va_W → Prop := fun u => TW ksM ad cy B qr 12 u ∧ FE ksM [(76, 0, 2600)] w0 u ∧ ((True))
set_option maxHeartbeats 4000000 in
set_option maxRecDepth 100000 in
theorem k_X12_could_6 (l : Launch) (adK adV : Nat → Nat) (dC : Nat → ClassId) (dI : Nat → Nat → Nat) (cy : Nat → ClassId) (ad : Nat → Nat) (B : Int) (hB0 : 100000 ≤ B) (hB1 : B ≤ 1073741824) (qr : Nat) (s1 : Int)  (a2 : Int32) (ra2 : 0 ≤ a2.toInt) (ta2 : a2.toInt ≤ 9) (w0 : va_W) (sz : Nat) (hT : TW ksM ad cy B qr 12 w0)  : Met l yX12_could wsX12_could ({ frames := 2, cells := 0, slots := 0, locals := 35 }) (va_Pc [.ref (ad 0), .int 0, .int a2, .int 1, .int 0] (wpreS adK adV dC dI cy sz w0)) (va_Qv (P_X12_could_6 ad cy B qr s1 a2 w0) (fun u : va_W => wpost dC dI cy (va_A w0 sz) u) (va_A w0 sz)) 0 0 (va_A w0 sz) := by
  refine Met.ofW (cc := cX12_could) (maxL := 6) (ret := none) (by decide) rfl ?_
  intro p e s m args below meth c s₁ Bk hml hv
  obtain ⟨rfl, ⟨hsz, hP, hK, hD0⟩, hE, hSR⟩ := hv
  have hx := Bk.exec
  have hb := Bk.bytes
  have hr := Bk.returns
  have hlocks := Bk.notSynchronized
  have hC : CallFix p m c cX12_could 6 s _ wsX12_could RX12 := ⟨hx, hb, hml, findClass_of_methodNamed Bk.named, atoms_spec (ws := wsX12_could) Bk.pre⟩
  subst hsz
  have hD := hD0.self (sz := s.heap.size)
  generalize hAe : va_A w0 s.heap.size = A at hD hE ⊢
  have hA : ∀ q : Nat, s.heap.size ≤ q → A q := fun q h => by rw [← hAe]; exact Or.inr h
  have hw : Wd dC dI A s.heap s.heap [] w0 := ⟨hP, hD, va_S.rf⟩
  have hF : FE ksM [(76, 0, 2600)] w0 w0 := FE.rf
  have hl := lv_entry ([.ref (ad 0), .int 0, .int a2, .int 1, .int 0]) (n := 6) (Nat.le_of_ble_eq_true rfl)
  rw [lg_entry_eq]
  generalize (lg_sl ([.ref (ad 0), .int 0, .int a2, .int 1, .int 0]) ++ List.replicate (6 - (lg_sl ([.ref (ad 0), .int 0, .int a2, .int 1, .int 0])).length) Slot.unset).toArray = ls at hl ⊢
  have hl : lv_has ls 6 [(0, .ref (ad 0)), (1, .int 0), (2, .int a2), (3, .int 1), (4, .int 0)] := hl
  generalize hloc : ([] : List Loc) = locs at hw ⊢
  have hinX12 : ∀ w ∈ u_ws RX12 TX12 42, w ∈ wsX12_could := fun _ h => List.mem_cons_of_mem _ (List.mem_append_right _ (h))
  have J30 : ∀ (v30_5 : Int32) (H : Heap) (locs : List Loc) (ls : Array Slot) (w1 : va_W), 0 ≤ a2.toInt → a2.toInt ≤ 9 → 1 ≤ v30_5.toInt → v30_5.toInt ≤ 19 → Wd dC dI A s.heap H locs w1 → TW ksM ad cy B qr 12 w1 → FE ksM [(76, 0, 2600)] w0 w1 → lv_has ls 6 [(0, .ref (ad 0)), (1, .int 0), (2, .int a2), (3, .int 1), (4, .int 0), (5, .int v30_5)] → W p l e ({ frames := 2, cells := 0, slots := 0, locals := 35 }) s m (List.toArray [.ref (ad 0), .int 0, .int a2, .int 1, .int 0]) below meth c H locs 0 0 (MQ below (va_Qv (P_X12_could_6 ad cy B qr s1 a2 w0) (fun u : va_W => wpost dC dI cy A u) A) (List.toArray [.ref (ad 0), .int 0, .int a2, .int 1, .int 0]) s 0 0 A) (F0 m 30 ls []) := by
    intro v30_5 H locs ls w1 r2 t3 r4 t5 hw hT hF hl
    exact tk_vret hC hr hlocks hK ⟨hT, hF, trivial⟩ hw dX12_could_30
  refine lv_aload_n hx hb dX12_could_0 rfl (lv_at hl 0 rfl) ?_
  refine lv_iload_n hx hb dX12_could_1 rfl (lv_at hl 1 rfl) ?_
  refine lv_iload_n hx hb dX12_could_2 rfl (lv_at hl 2 rfl) ?_
  refine lv_iload_n hx hb dX12_could_3 rfl (lv_at hl 3 rfl) ?_
  refine tk_Vi hC hK hw hT hA hE hSR kM_at0 (by decide) rfl (k_X12_placeAt_6 l adK adV dC dI cy ad B (by omega) (by omega) qr s1   a2 (show 0 ≤ a2.toInt by omega) (show a2.toInt ≤ 9 by omega) w0 s.heap.size hT ) (cwV 3 hC.2.2.2.2 gX12_could_X12_placeAt rfl rfl rfl (by decide +kernel) ⟨Nat.le_of_ble_eq_true rfl, Nat.le_of_ble_eq_true rfl⟩) rfl hl.1 rfl (Nat.le_of_ble_eq_true rfl) dX12_could_4 (fun r6 w8 H locs hp7 hw => ?_)
  obtain ⟨hT, k9, hg12⟩ := hp7
  have hF := hF.tr k9 (by decide)
  obtain ⟨g10, g11⟩ := hg12
  refine lv_istore (lv' := [(5, .int r6), (0, .ref (ad 0)), (1, .int 0), (2, .int a2), (3, .int 1), (4, .int 0)]) hx hb dX12_could_7 hl (by decide) rfl (fun ls hl => ?_)
  refine lv_iload hx hb dX12_could_9 (lv_at hl 5 rfl) ?_
  refine lv_aload_n hx hb dX12_could_11 rfl (lv_at hl 1 rfl) ?_
  refine tk_getA hC hK hw hT hinX12 kM_at0 (by decide) rfl 34 (by decide) (List.mem_of_getElem? (i := 1) rfl) rfl rfl dX12_could_12 ?_
  refine lv_iload hx hb dX12_could_15 (lv_at hl 0 rfl) ?_
  refine tk_iald hC hK hw hT kM_at17 rfl rfl (show 0 ≤ r6.toInt by omega) (show r6.toInt < 2600 by omega) dX12_could_17 (fun x13 c14 rx13 tx13 => ?_)
  refine lv_icmp_ge (tgt := 30) hx hb dX12_could_18 (by decide) (fun c15 => ?_) (fun c15 => ?_)
  · have c15 : x13.toInt ≤ (0 : Int) := wk_le.mp c15
    exact J30 r6 H locs ls w8 (show 0 ≤ a2.toInt by omega) (show a2.toInt ≤ 9 by omega) (show 1 ≤ r6.toInt by omega) (show r6.toInt ≤ 19 by omega)  hw hT hF  (lv_sub hl [1, 2, 3, 4, 5, 0] rfl)
  · have c15 : (0 : Int) < x13.toInt := wk_leF c15
    refine lv_aload_n hx hb dX12_could_21 rfl (lv_at hl 1 rfl) ?_
    refine tk_getA hC hK hw hT hinX12 kM_at0 (by decide) rfl 34 (by decide) (List.mem_of_getElem? (i := 1) rfl) rfl rfl dX12_could_22 ?_
    refine lv_iload hx hb dX12_could_25 (lv_at hl 0 rfl) ?_
    refine lv_iload hx hb dX12_could_27 (lv_at hl 5 rfl) ?_
    refine tk_iast hC hK hw hT kM_at17 (by decide) rfl rfl (show 0 ≤ r6.toInt by omega) (show r6.toInt < 2600 by omega) (by decide) (by decide) dX12_could_29 (fun H locs w16 hw hT k18 c17 => ?_)
    have hF := hF.put kM_at17 (inE_of (a := 0) (b := 2600) (by decide) (show 0 ≤ r6.toInt.toNat by omega) (show r6.toInt.toNat ≤ 2600 by omega)) k18
    exact J30 r6 H locs ls w16 (show 0 ≤ a2.toInt by omega) (show a2.toInt ≤ 9 by omega) (show 1 ≤ r6.toInt by omega) (show r6.toInt ≤ 19 by omega)  hw hT hF  (lv_sub hl [1, 2, 3, 4, 5, 0] rfl)
abbrev P_X12_in_14 (ad : Nat → Nat) (cy : Nat → ClassId) (B : Int) (qr : Nat) (s1 : Int) (a0 : Int64) (w0 : va_W) : Int32 → va_W → Prop := fun r u => TW ksM ad cy B qr 12 u ∧ FE ksM ([] : List (Nat × Nat × Nat)) w0 u ∧ ((r = 0) ∨ (r = 1 ∧ 0 ≤ a0.toInt ∧ a0.toInt ≤ 120))
set_option maxHeartbeats 4000000 in
set_option maxRecDepth 100000 in
theorem k_X12_in_14 (l : Launch) (adK adV : Nat → Nat) (dC : Nat → ClassId) (dI : Nat → Nat → Nat) (cy : Nat → ClassId) (ad : Nat → Nat) (B : Int) (hB0 : 100000 ≤ B) (hB1 : B ≤ 1073741824) (qr : Nat) (s1 : Int)  (a0 : Int64) (ra0 : (-2147483648) ≤ a0.toInt) (ta0 : a0.toInt ≤ 2147483647) (w0 : va_W) (sz : Nat) (hT : TW ksM ad cy B qr 12 w0)  : Met l yX12_in wsX12_in ({ frames := 1, cells := 0, slots := 0, locals := 12 }) (va_Pc [.long a0, .long 0, .long 120] (wpreS adK adV dC dI cy sz w0)) (va_Qi (P_X12_in_14 ad cy B qr s1 a0 w0) (fun u : va_W => wpost dC dI cy (va_A w0 sz) u) (va_A w0 sz)) 0 0 (va_A w0 sz) := by
  refine Met.ofW (cc := cX12_in) (maxL := 6) (ret := (some .boolean)) (by decide) rfl ?_
  intro p e s m args below meth c s₁ Bk hml hv
  obtain ⟨rfl, ⟨hsz, hP, hK, hD0⟩, hE, hSR⟩ := hv
  have hx := Bk.exec
  have hb := Bk.bytes
  have hr := Bk.returns
  have hlocks := Bk.notSynchronized
  have hC : CallFix p m c cX12_in 6 s _ wsX12_in RX12 := ⟨hx, hb, hml, findClass_of_methodNamed Bk.named, atoms_spec (ws := wsX12_in) Bk.pre⟩
  subst hsz
  have hD := hD0.self (sz := s.heap.size)
  generalize hAe : va_A w0 s.heap.size = A at hD hE ⊢
  have hA : ∀ q : Nat, s.heap.size ≤ q → A q := fun q h => by rw [← hAe]; exact Or.inr h
  have hw : Wd dC dI A s.heap s.heap [] w0 := ⟨hP, hD, va_S.rf⟩
  have hF : FE ksM ([] : List (Nat × Nat × Nat)) w0 w0 := FE.rf
  have hl := lv_entry ([.long a0, .long 0, .long 120]) (n := 6) (Nat.le_of_ble_eq_true rfl)
  rw [lg_entry_eq]
  generalize (lg_sl ([.long a0, .long 0, .long 120]) ++ List.replicate (6 - (lg_sl ([.long a0, .long 0, .long 120])).length) Slot.unset).toArray = ls at hl ⊢
  have hl : lv_has ls 6 [(0, .long a0), (2, .long 0), (4, .long 120)] := hl
  generalize hloc : ([] : List Loc) = locs at hw ⊢
  have J17 : ∀ (H : Heap) (locs : List Loc) (ls : Array Slot) (w1 : va_W), (-2147483648) ≤ a0.toInt → a0.toInt ≤ 2147483647 → Wd dC dI A s.heap H locs w1 → TW ksM ad cy B qr 12 w1 → FE ksM ([] : List (Nat × Nat × Nat)) w0 w1 → lv_has ls 6 [(0, .long a0), (2, .long 0), (4, .long 120)] → W p l e ({ frames := 1, cells := 0, slots := 0, locals := 12 }) s m (List.toArray [.long a0, .long 0, .long 120]) below meth c H locs 0 0 (MQ below (va_Qi (P_X12_in_14 ad cy B qr s1 a0 w0) (fun u : va_W => wpost dC dI cy A u) A) (List.toArray [.long a0, .long 0, .long 120]) s 0 0 A) (F0 m 17 ls []) := by
    intro H locs ls w1 r2 t3 hw hT hF hl
    refine lv_iconst (v := 0) hx hb dX12_in_17 (by decide) ?_
    exact tk_zret hC hr rfl hlocks hK ⟨hT, hF, (Or.inl rfl)⟩ hw dX12_in_18
  refine lv_lload_n hx hb dX12_in_0 rfl (lv_at hl 0 rfl) ?_
  refine lv_lload_n hx hb dX12_in_1 rfl (lv_at hl 1 rfl) ?_
  refine W.lcmp hx hb dX12_in_2 ?_
  refine lv_if_lt (tgt := 17) hx hb dX12_in_3 (by decide) (fun c4 => ?_) (fun c4 => ?_)
  · have c4 : a0.toInt < (0 : Int) := wk_cltT c4
    exact J17  s.heap locs ls w0 (show (-2147483648) ≤ a0.toInt by omega) (show a0.toInt ≤ 2147483647 by omega)  hw hT hF  (lv_sub hl [0, 1, 2] rfl)
  · have c4 : (0 : Int) ≤ a0.toInt := wk_cltF c4
    refine lv_lload_n hx hb dX12_in_6 rfl (lv_at hl 0 rfl) ?_
    refine lv_lload hx hb dX12_in_7 (lv_at hl 2 rfl) ?_
    refine W.lcmp hx hb dX12_in_9 ?_
    refine lv_if_gt (tgt := 17) hx hb dX12_in_10 (by decide) (fun c5 => ?_) (fun c5 => ?_)
    · have c5 : (120 : Int) < a0.toInt := wk_cgtT c5
      exact J17  s.heap locs ls w0 (show (-2147483648) ≤ a0.toInt by omega) (show a0.toInt ≤ 2147483647 by omega)  hw hT hF  (lv_sub hl [0, 1, 2] rfl)
    · have c5 : a0.toInt ≤ (120 : Int) := wk_cgtF c5
      refine lv_iconst (v := 1) hx hb dX12_in_13 (by decide) ?_
      refine lv_goto (tgt := 18) hx hb dX12_in_14 (by decide) ?_
      exact tk_zret hC hr rfl hlocks hK ⟨hT, hF, (Or.inr ⟨rfl, (show 0 ≤ a0.toInt by omega), (show a0.toInt ≤ 120 by omega)⟩)⟩ hw dX12_in_18
abbrev P_X12_questions_1 (ad : Nat → Nat) (cy : Nat → ClassId) (B : Int) (qr : Nat) (s1 : Int) (a1 : Int32) (a2 : Int32) (w0 : va_W) : Int32 → va_W → Prop := fun r u => TW ksM ad cy B qr 12 u ∧ FE ksM [(72, 0, 12), (73, 0, 10), (76, 0, 2600)] w0 u ∧ ((r.toInt ≤ 99999999 ∧ 0 ≤ a1.toInt ∧ a1.toInt ≤ 3 ∧ 0 ≤ a2.toInt ∧ a2.toInt ≤ 120 ∧ (∃ y : Int32, gi u 12 5 = y ∧ 1 ≤ y.toInt ∧ y.toInt ≤ 4)) ∨ (r = (-2) ∧ 0 ≤ a1.toInt ∧ a1.toInt ≤ 3 ∧ 0 ≤ a2.toInt ∧ a2.toInt ≤ 120 ∧ (∃ y : Int32, gi u 12 5 = y ∧ 1 ≤ y.toInt ∧ y.toInt ≤ 4)) ∨ (r = (-1)))
set_option maxHeartbeats 4000000 in
set_option maxRecDepth 100000 in
theorem k_X12_questions_1 (l : Launch) (adK adV : Nat → Nat) (dC : Nat → ClassId) (dI : Nat → Nat → Nat) (cy : Nat → ClassId) (ad : Nat → Nat) (B : Int) (hB0 : 100000 ≤ B) (hB1 : B ≤ 1073741824) (qr : Nat) (s1 : Int)  (a1 : Int32) (a2 : Int32) (w0 : va_W) (sz : Nat) (hT : TW ksM ad cy B qr 12 w0)  : Met l yX12_questions wsX12_questions ({ frames := 6, cells := 0, slots := 0, locals := 134 }) (va_Pc [.ref (ad 0), .int a1, .int a2] (wpreS adK adV dC dI cy sz w0)) (va_Qi (P_X12_questions_1 ad cy B qr s1 a1 a2 w0) (fun u : va_W => wpost dC dI cy (va_A w0 sz) u) (va_A w0 sz)) 0 0 (va_A w0 sz) := by
  refine Met.ofW (cc := cX12_questions) (maxL := 8) (ret := (some .int)) (by decide) rfl ?_
  intro p e s m args below meth c s₁ Bk hml hv
  obtain ⟨rfl, ⟨hsz, hP, hK, hD0⟩, hE, hSR⟩ := hv
  have hx := Bk.exec
  have hb := Bk.bytes
  have hr := Bk.returns
  have hlocks := Bk.notSynchronized
  have hC : CallFix p m c cX12_questions 8 s _ wsX12_questions RX12 := ⟨hx, hb, hml, findClass_of_methodNamed Bk.named, atoms_spec (ws := wsX12_questions) Bk.pre⟩
  subst hsz
  have hD := hD0.self (sz := s.heap.size)
  generalize hAe : va_A w0 s.heap.size = A at hD hE ⊢
  have hA : ∀ q : Nat, s.heap.size ≤ q → A q := fun q h => by rw [← hAe]; exact Or.inr h
  have hw : Wd dC dI A s.heap s.heap [] w0 := ⟨hP, hD, va_S.rf⟩
  have hF : FE ksM [(72, 0, 12), (73, 0, 10), (76, 0, 2600)] w0 w0 := FE.rf
  have hl := lv_entry ([.ref (ad 0), .int a1, .int a2]) (n := 8) (Nat.le_of_ble_eq_true rfl)
  rw [lg_entry_eq]
  generalize (lg_sl ([.ref (ad 0), .int a1, .int a2]) ++ List.replicate (8 - (lg_sl ([.ref (ad 0), .int a1, .int a2])).length) Slot.unset).toArray = ls at hl ⊢
  have hl : lv_has ls 8 [(0, .ref (ad 0)), (1, .int a1), (2, .int a2)] := hl
  generalize hloc : ([] : List Loc) = locs at hw ⊢
  have hinX12 : ∀ w ∈ u_ws RX12 TX12 42, w ∈ wsX12_questions := fun _ h => List.mem_cons_of_mem _ (List.mem_append_right _ (h))
  have J20 : ∀ (H : Heap) (locs : List Loc) (ls : Array Slot) (w1 : va_W), Wd dC dI A s.heap H locs w1 → TW ksM ad cy B qr 12 w1 → FE ksM [(72, 0, 12), (73, 0, 10), (76, 0, 2600)] w0 w1 → lv_has ls 8 [(0, .ref (ad 0)), (1, .int a1), (2, .int a2)] → W p l e ({ frames := 6, cells := 0, slots := 0, locals := 134 }) s m (List.toArray [.ref (ad 0), .int a1, .int a2]) below meth c H locs 0 0 (MQ below (va_Qi (P_X12_questions_1 ad cy B qr s1 a1 a2 w0) (fun u : va_W => wpost dC dI cy A u) A) (List.toArray [.ref (ad 0), .int a1, .int a2]) s 0 0 A) (F0 m 20 ls []) := by
    intro H locs ls w1 hw hT hF hl
    refine lv_iconst (v := (-1)) hx hb dX12_questions_20 (by decide) ?_
    exact tk_iret hC hr hlocks hK ⟨hT, hF, (Or.inr (Or.inr rfl))⟩ hw dX12_questions_21
  have L70 : ∀ (n70 : Nat) (v70_3 : Int32) (v70_4 : Int32) (f70_12__9_a1_toInt_216_toNat : Int32) (f70_12_5 : Int32) (H : Heap) (locs : List Loc) (ls : Array Slot) (w2 : va_W), 0 ≤ a1.toInt → a1.toInt ≤ 3 → 0 ≤ a2.toInt → a2.toInt ≤ 120 → v70_3.toInt ≤ 100000000 → 0 ≤ v70_4.toInt → v70_4.toInt ≤ 121 → 0 ≤ f70_12__9_a1_toInt_216_toNat.toInt → f70_12__9_a1_toInt_216_toNat.toInt ≤ 9 → 1 ≤ f70_12_5.toInt → f70_12_5.toInt ≤ 4 → (121 - v70_4.toInt).toNat < n70 → Wd dC dI A s.heap H locs w2 → TW ksM ad cy B qr 12 w2 → FE ksM [(72, 0, 12), (73, 0, 10), (76, 0, 2600)] w0 w2 → gi w2 12 (9 * a1.toInt + 216).toNat = f70_12__9_a1_toInt_216_toNat → gi w2 12 5 = f70_12_5 → lv_has ls 8 [(0, .ref (ad 0)), (1, .int a1), (2, .int a2), (3, .int v70_3), (4, .int v70_4)] → W p l e ({ frames := 6, cells := 0, slots := 0, locals := 134 }) s m (List.toArray [.ref (ad 0), .int a1, .int a2]) below meth c H locs 0 0 (MQ below (va_Qi (P_X12_questions_1 ad cy B qr s1 a1 a2 w0) (fun u : va_W => wpost dC dI cy A u) A) (List.toArray [.ref (ad 0), .int a1, .int a2]) s 0 0 A) (F0 m 70 ls []) := by
    intro n70
    induction n70 with
    | zero => intro v70_3 v70_4 f70_12__9_a1_toInt_216_toNat f70_12_5 H locs ls w2 r3 t4 r5 t6 t7 r8 t9 r10 t11 r13 t14 hm70 hw hT hF c12 c15 hl; omega
    | succ n70 ih70 =>
      intro v70_3 v70_4 f70_12__9_a1_toInt_216_toNat f70_12_5 H locs ls w2 r3 t4 r5 t6 t7 r8 t9 r10 t11 r13 t14 hm70 hw hT hF c12 c15 hl
      have L79 : ∀ (n79 : Nat) (v79_3 : Int32) (v79_5 : Int32) (H : Heap) (locs : List Loc) (ls : Array Slot) (w16 : va_W), 0 ≤ a1.toInt → a1.toInt ≤ 3 → 0 ≤ a2.toInt → a2.toInt ≤ 120 → v79_3.toInt ≤ 100000000 → 0 ≤ v70_4.toInt → v70_4.toInt ≤ 120 → 0 ≤ v79_5.toInt → v79_5.toInt ≤ 10 → 0 ≤ f70_12__9_a1_toInt_216_toNat.toInt → f70_12__9_a1_toInt_216_toNat.toInt ≤ 9 → 1 ≤ f70_12_5.toInt → f70_12_5.toInt ≤ 4 → (10 - v79_5.toInt).toNat < n79 → Wd dC dI A s.heap H locs w16 → TW ksM ad cy B qr 12 w16 → FE ksM [(72, 0, 12), (73, 0, 10), (76, 0, 2600)] w0 w16 → gi w16 12 (9 * a1.toInt + 216).toNat = f70_12__9_a1_toInt_216_toNat → gi w16 12 5 = f70_12_5 → lv_has ls 8 [(0, .ref (ad 0)), (1, .int a1), (2, .int a2), (3, .int v79_3), (4, .int v70_4), (5, .int v79_5)] → W p l e ({ frames := 6, cells := 0, slots := 0, locals := 134 }) s m (List.toArray [.ref (ad 0), .int a1, .int a2]) below meth c H locs 0 0 (MQ below (va_Qi (P_X12_questions_1 ad cy B qr s1 a1 a2 w0) (fun u : va_W => wpost dC dI cy A u) A) (List.toArray [.ref (ad 0), .int a1, .int a2]) s 0 0 A) (F0 m 79 ls []) := by
        intro n79
        induction n79 with
        | zero => intro v79_3 v79_5 H locs ls w16 r17 t18 r19 t20 t21 r22 t23 r24 t25 r26 t27 r29 t30 hm79 hw hT hF c28 c31 hl; omega
        | succ n79 ih79 =>
          intro v79_3 v79_5 H locs ls w16 r17 t18 r19 t20 t21 r22 t23 r24 t25 r26 t27 r29 t30 hm79 hw hT hF c28 c31 hl
          have L93 : ∀ (n93 : Nat) (v93_3 : Int32) (v93_6 : Int32) (f93_12_0 : Int32) (H : Heap) (locs : List Loc) (ls : Array Slot) (w32 : va_W), 0 ≤ a1.toInt → a1.toInt ≤ 3 → 0 ≤ a2.toInt → a2.toInt ≤ 120 → v93_3.toInt ≤ 100000000 → 0 ≤ v70_4.toInt → v70_4.toInt ≤ 120 → 0 ≤ v79_5.toInt → v79_5.toInt ≤ 9 → 0 ≤ v93_6.toInt → v93_6.toInt ≤ 2 → 0 ≤ f70_12__9_a1_toInt_216_toNat.toInt → f70_12__9_a1_toInt_216_toNat.toInt ≤ 9 → 1 ≤ f93_12_0.toInt → f93_12_0.toInt ≤ 10 → 1 ≤ f70_12_5.toInt → f70_12_5.toInt ≤ 4 → (2 - v93_6.toInt).toNat < n93 → Wd dC dI A s.heap H locs w32 → TW ksM ad cy B qr 12 w32 → FE ksM [(72, 0, 12), (73, 0, 10), (76, 0, 2600)] w0 w32 → gi w32 12 (9 * a1.toInt + 216).toNat = f70_12__9_a1_toInt_216_toNat → gi w32 12 0 = f93_12_0 → gi w32 12 5 = f70_12_5 → lv_has ls 8 [(0, .ref (ad 0)), (1, .int a1), (2, .int a2), (3, .int v93_3), (4, .int v70_4), (5, .int v79_5), (6, .int v93_6)] → W p l e ({ frames := 6, cells := 0, slots := 0, locals := 134 }) s m (List.toArray [.ref (ad 0), .int a1, .int a2]) below meth c H locs 0 0 (MQ below (va_Qi (P_X12_questions_1 ad cy B qr s1 a1 a2 w0) (fun u : va_W => wpost dC dI cy A u) A) (List.toArray [.ref (ad 0), .int a1, .int a2]) s 0 0 A) (F0 m 93 ls []) := by
            intro n93
            induction n93 with
            | zero => intro v93_3 v93_6 f93_12_0 H locs ls w32 r33 t34 r35 t36 t37 r38 t39 r40 t41 r42 t43 r44 t45 r47 t48 r50 t51 hm93 hw hT hF c46 c49 c52 hl; omega
            | succ n93 ih93 =>
              intro v93_3 v93_6 f93_12_0 H locs ls w32 r33 t34 r35 t36 t37 r38 t39 r40 t41 r42 t43 r44 t45 r47 t48 r50 t51 hm93 hw hT hF c46 c49 c52 hl
              have J174 : ∀ (v174_7 : Int32) (f174_12__9_a1_toInt_217_toNat : Int32) (H : Heap) (locs : List Loc) (ls : Array Slot) (w53 : va_W), 0 ≤ a1.toInt → a1.toInt ≤ 3 → 0 ≤ a2.toInt → a2.toInt ≤ 120 → v93_3.toInt ≤ 100000000 → 0 ≤ v70_4.toInt → v70_4.toInt ≤ 120 → 0 ≤ v79_5.toInt → v79_5.toInt ≤ 9 → 0 ≤ v93_6.toInt → v93_6.toInt ≤ 1 → 0 ≤ f70_12__9_a1_toInt_216_toNat.toInt → f70_12__9_a1_toInt_216_toNat.toInt ≤ 9 → 0 ≤ f174_12__9_a1_toInt_217_toNat.toInt → f174_12__9_a1_toInt_217_toNat.toInt ≤ 9 → 1 ≤ f93_12_0.toInt → f93_12_0.toInt ≤ 10 → 1 ≤ f70_12_5.toInt → f70_12_5.toInt ≤ 4 → Wd dC dI A s.heap H locs w53 → TW ksM ad cy B qr 12 w53 → FE ksM [(72, 0, 12), (73, 0, 10), (76, 0, 2600)] w0 w53 → gi w53 12 (9 * a1.toInt + 216).toNat = f70_12__9_a1_toInt_216_toNat → gi w53 12 (9 * a1.toInt + 217).toNat = f174_12__9_a1_toInt_217_toNat → gi w53 12 0 = f93_12_0 → gi w53 12 5 = f70_12_5 → lv_has ls 8 [(0, .ref (ad 0)), (1, .int a1), (2, .int a2), (3, .int v93_3), (4, .int v70_4), (5, .int v79_5), (6, .int v93_6), (7, .int v174_7)] → W p l e ({ frames := 6, cells := 0, slots := 0, locals := 134 }) s m (List.toArray [.ref (ad 0), .int a1, .int a2]) below meth c H locs 0 0 (MQ below (va_Qi (P_X12_questions_1 ad cy B qr s1 a1 a2 w0) (fun u : va_W => wpost dC dI cy A u) A) (List.toArray [.ref (ad 0), .int a1, .int a2]) s 0 0 A) (F0 m 174 ls []) := by
                intro v174_7 f174_12__9_a1_toInt_217_toNat H locs ls w53 r54 t55 r56 t57 t58 r59 t60 r61 t62 r63 t64 r65 t66 r68 t69 r71 t72 r74 t75 hw hT hF c67 c70 c73 c76 hl
                refine lv_iload_n hx hb dX12_questions_174 rfl (lv_at hl 3 rfl) ?_
                refine lv_istore_n (lv' := [(3, .int v93_3), (0, .ref (ad 0)), (1, .int a1), (2, .int a2), (4, .int v70_4), (5, .int v79_5), (6, .int v93_6), (7, .int v174_7)]) hx hb dX12_questions_175 rfl hl (by decide) rfl (fun ls hl => ?_)
                obtain ⟨x77, ex77⟩ : ∃ y : Int32, y = v93_6 + Int32.ofInt 1 := ⟨_, rfl⟩
                refine lv_iinc (v := x77) (lv' := [(6, .int x77), (3, .int v93_3), (0, .ref (ad 0)), (1, .int a1), (2, .int a2), (4, .int v70_4), (5, .int v79_5), (7, .int v174_7)]) hx hb dX12_questions_176 hl (k := 6) rfl ex77.symm (by decide) rfl (fun ls hl => ?_)
                have ex77 : x77.toInt = v93_6.toInt + 1 := by rw [ex77]; exact wk_add (y := 1) (show -2147483648 ≤ v93_6.toInt + 1 by omega) (show v93_6.toInt + 1 ≤ 2147483647 by omega)
                refine lv_goto (tgt := 93) hx hb dX12_questions_179 (by decide) ?_
                exact ih93 v93_3 x77 f93_12_0 H locs ls w53 (show 0 ≤ a1.toInt by omega) (show a1.toInt ≤ 3 by omega) (show 0 ≤ a2.toInt by omega) (show a2.toInt ≤ 120 by omega) (show v93_3.toInt ≤ 100000000 by omega) (show 0 ≤ v70_4.toInt by omega) (show v70_4.toInt ≤ 120 by omega) (show 0 ≤ v79_5.toInt by omega) (show v79_5.toInt ≤ 9 by omega) (show 0 ≤ x77.toInt by omega) (show x77.toInt ≤ 2 by omega) (show 0 ≤ f70_12__9_a1_toInt_216_toNat.toInt by omega) (show f70_12__9_a1_toInt_216_toNat.toInt ≤ 9 by omega) (show 1 ≤ f93_12_0.toInt by omega) (show f93_12_0.toInt ≤ 10 by omega) (show 1 ≤ f70_12_5.toInt by omega) (show f70_12_5.toInt ≤ 4 by omega) (show (2 - x77.toInt).toNat < n93 by omega) hw hT hF c67 c73 c76 (lv_sub hl [2, 3, 4, 1, 5, 6, 0] rfl)
              refine lv_iload hx hb dX12_questions_93 (lv_at hl 6 rfl) ?_
              refine lv_iconst (v := 2) hx hb dX12_questions_95 (by decide) ?_
              refine lv_icmp_ge (tgt := 182) hx hb dX12_questions_96 (by decide) (fun c78 => ?_) (fun c78 => ?_)
              · have c78 : (2 : Int) ≤ v93_6.toInt := wk_le.mp c78
                obtain ⟨x79, ex79⟩ : ∃ y : Int32, y = v79_5 + Int32.ofInt 1 := ⟨_, rfl⟩
                refine lv_iinc (v := x79) (lv' := [(5, .int x79), (0, .ref (ad 0)), (1, .int a1), (2, .int a2), (3, .int v93_3), (4, .int v70_4), (6, .int v93_6)]) hx hb dX12_questions_182 hl (k := 5) rfl ex79.symm (by decide) rfl (fun ls hl => ?_)
                have ex79 : x79.toInt = v79_5.toInt + 1 := by rw [ex79]; exact wk_add (y := 1) (show -2147483648 ≤ v79_5.toInt + 1 by omega) (show v79_5.toInt + 1 ≤ 2147483647 by omega)
                refine lv_goto (tgt := 79) hx hb dX12_questions_185 (by decide) ?_
                exact ih79 v93_3 x79 H locs ls w32 (show 0 ≤ a1.toInt by omega) (show a1.toInt ≤ 3 by omega) (show 0 ≤ a2.toInt by omega) (show a2.toInt ≤ 120 by omega) (show v93_3.toInt ≤ 100000000 by omega) (show 0 ≤ v70_4.toInt by omega) (show v70_4.toInt ≤ 120 by omega) (show 0 ≤ x79.toInt by omega) (show x79.toInt ≤ 10 by omega) (show 0 ≤ f70_12__9_a1_toInt_216_toNat.toInt by omega) (show f70_12__9_a1_toInt_216_toNat.toInt ≤ 9 by omega) (show 1 ≤ f70_12_5.toInt by omega) (show f70_12_5.toInt ≤ 4 by omega) (show (10 - x79.toInt).toNat < n79 by omega) hw hT hF c46 c52 (lv_sub hl [1, 2, 3, 4, 5, 0] rfl)
              · have c78 : v93_6.toInt < (2 : Int) := wk_leF c78
                refine lv_aload_n hx hb dX12_questions_99 rfl (lv_at hl 0 rfl) ?_
                refine lv_iload_n hx hb dX12_questions_100 rfl (lv_at hl 1 rfl) ?_
                refine lv_aload_n hx hb dX12_questions_101 rfl (lv_at hl 0 rfl) ?_
                refine lv_iload_n hx hb dX12_questions_102 rfl (lv_at hl 1 rfl) ?_
                refine lv_iconst (v := 4) hx hb dX12_questions_103 (by decide) ?_
                refine tk_Vi hC hK hw hT hA hE hSR kM_at0 (by decide) rfl (k_X12_walkerOf_2 l adK adV dC dI cy ad B (by omega) (by omega) qr s1   a1 (show 0 ≤ a1.toInt by omega) (show a1.toInt ≤ 3 by omega) w32 H.size hT ) (cwV 2 hC.2.2.2.2 gX12_questions_X12_walkerOf rfl rfl rfl (by decide +kernel) ⟨Nat.le_of_ble_eq_true rfl, Nat.le_of_ble_eq_true rfl⟩) rfl hl.1 rfl (Nat.le_of_ble_eq_true rfl) dX12_questions_104 (fun r80 w82 H locs hp81 hw => ?_)
                obtain ⟨hT, k83, hg86⟩ := hp81
                have hF := hF.tr k83 (by decide)
                have c87 := k83.gi kM_at12 rfl c46
                have c88 := k83.gi kM_at12 (by decide) c49
                have c89 := k83.gi kM_at12 (by decide) c52
                obtain ⟨g84, g85⟩ := hg86
                refine lv_iload hx hb dX12_questions_107 (lv_at hl 4 rfl) ?_
                refine lv_iload hx hb dX12_questions_109 (lv_at hl 5 rfl) ?_
                refine lv_iload hx hb dX12_questions_111 (lv_at hl 6 rfl) ?_
                refine lv_iconst (v := 1) hx hb dX12_questions_113 (by decide) ?_
                refine lv_icmp_ne (tgt := 121) hx hb dX12_questions_114 (by decide) (fun c90 => ?_) (fun c90 => ?_)
                · have c90 : ¬ v93_6.toInt = (1 : Int) := wk_eqF c90
                  refine lv_iconst (v := 0) hx hb dX12_questions_121 (by decide) ?_
                  refine lv_iload_n hx hb dX12_questions_122 rfl (lv_at hl 2 rfl) ?_
                  refine tk_Vv hC hK hw hT hA hE hSR kM_at0 (by decide) rfl (k_X12_leads_1 l adK adV dC dI cy ad B (by omega) (by omega) qr s1   a1 (show 0 ≤ a1.toInt by omega) (show a1.toInt ≤ 3 by omega) r80 (show 0 ≤ r80.toInt by omega) (show r80.toInt ≤ 1073741824 by omega) v70_4 (show 0 ≤ v70_4.toInt by omega) (show v70_4.toInt ≤ 120 by omega) v79_5 (show 0 ≤ v79_5.toInt by omega) (show v79_5.toInt ≤ 9 by omega) a2 (show 0 ≤ a2.toInt by omega) (show a2.toInt ≤ 120 by omega) w82 H.size hT ) (cwV 6 hC.2.2.2.2 gX12_questions_X12_leads rfl rfl rfl (by decide +kernel) ⟨Nat.le_of_ble_eq_true rfl, Nat.le_of_ble_eq_true rfl⟩) rfl hl.1 rfl (Nat.le_of_ble_eq_true rfl) dX12_questions_123 (fun w93 H locs hp92 hw => ?_)
                  obtain ⟨hT, k94, hg95⟩ := hp92
                  have hF := hF.tr k94 (by decide)
                  have c96 := k94.gi kM_at12 rfl c87
                  have c97 := k94.gi kM_at12 (by decide) c88
                  have c98 := k94.gi kM_at12 (by decide) c89
                  clear hg95
                  refine lv_aload_n hx hb dX12_questions_126 rfl (lv_at hl 0 rfl) ?_
                  refine tk_getA hC hK hw hT hinX12 kM_at0 (by decide) rfl 34 (by decide) (List.mem_of_getElem? (i := 2) rfl) rfl rfl dX12_questions_127 ?_
                  refine lv_aload_n hx hb dX12_questions_130 rfl (lv_at hl 0 rfl) ?_
                  refine lv_iload hx hb dX12_questions_131 (lv_at hl 4 rfl) ?_
                  refine lv_iload hx hb dX12_questions_133 (lv_at hl 5 rfl) ?_
                  refine lv_iload hx hb dX12_questions_135 (lv_at hl 6 rfl) ?_
                  refine lv_iconst (v := 1) hx hb dX12_questions_137 (by decide) ?_
                  refine lv_icmp_ne (tgt := 145) hx hb dX12_questions_138 (by decide) (fun _ => ?_) (fun c => absurd (show v93_6.toInt = (1 : Int) from wk_eq.mp c) (by omega))
                  refine lv_iconst (v := 0) hx hb dX12_questions_145 (by decide) ?_
                  refine tk_Vi hC hK hw hT hA hE hSR kM_at0 (by decide) rfl (k_X12_placeAt_1 l adK adV dC dI cy ad B (by omega) (by omega) qr s1   v70_4 (show 0 ≤ v70_4.toInt by omega) (show v70_4.toInt ≤ 120 by omega) v79_5 (show 0 ≤ v79_5.toInt by omega) (show v79_5.toInt ≤ 9 by omega) w93 H.size hT ) (cwV 3 hC.2.2.2.2 gX12_questions_X12_placeAt rfl rfl rfl (by decide +kernel) ⟨Nat.le_of_ble_eq_true rfl, Nat.le_of_ble_eq_true rfl⟩) rfl hl.1 rfl (Nat.le_of_ble_eq_true rfl) dX12_questions_146 (fun r99 w101 H locs hp100 hw => ?_)
                  obtain ⟨hT, k102, hg105⟩ := hp100
                  have hF := hF.tr k102 (by decide)
                  have c106 := k102.gi kM_at12 rfl c96
                  have c107 := k102.gi kM_at12 (by decide) c97
                  have c108 := k102.gi kM_at12 (by decide) c98
                  obtain ⟨g103, g104⟩ := hg105
                  refine tk_iald hC hK hw hT kM_at17 rfl rfl (show 0 ≤ r99.toInt by omega) (show r99.toInt < 2600 by omega) dX12_questions_149 (fun x109 c110 rx109 tx109 => ?_)
                  refine lv_istore (lv' := [(7, .int x109), (0, .ref (ad 0)), (1, .int a1), (2, .int a2), (3, .int v93_3), (4, .int v70_4), (5, .int v79_5), (6, .int v93_6)]) hx hb dX12_questions_150 hl (by decide) rfl (fun ls hl => ?_)
                  refine lv_iload hx hb dX12_questions_152 (lv_at hl 6 rfl) ?_
                  refine lv_aload_n hx hb dX12_questions_154 rfl (lv_at hl 1 rfl) ?_
                  refine lv_iload_n hx hb dX12_questions_155 rfl (lv_at hl 2 rfl) ?_
                  refine lv_iconst (v := 1) hx hb dX12_questions_156 (by decide) ?_
                  refine tk_Vi hC hK hw hT hA hE hSR kM_at0 (by decide) rfl (k_X12_walkerOf_3 l adK adV dC dI cy ad B (by omega) (by omega) qr s1   a1 (show 0 ≤ a1.toInt by omega) (show a1.toInt ≤ 3 by omega) w101 H.size hT ) (cwV 2 hC.2.2.2.2 gX12_questions_X12_walkerOf rfl rfl rfl (by decide +kernel) ⟨Nat.le_of_ble_eq_true rfl, Nat.le_of_ble_eq_true rfl⟩) rfl hl.1 rfl (Nat.le_of_ble_eq_true rfl) dX12_questions_157 (fun r111 w113 H locs hp112 hw => ?_)
                  obtain ⟨hT, k114, hg118⟩ := hp112
                  have hF := hF.tr k114 (by decide)
                  have c119 := k114.gi kM_at12 rfl c106
                  have c120 := k114.gi kM_at12 (by decide) c107
                  have c121 := k114.gi kM_at12 (by decide) c108
                  obtain ⟨g115, g116, c117⟩ := hg118
                  refine lv_icmp_ne (tgt := 174) hx hb dX12_questions_160 (by decide) (fun c122 => ?_) (fun c122 => ?_)
                  · have c122 : ¬ v79_5.toInt = r111.toInt := wk_eqF c122
                    exact J174 x109 r111 H locs ls w113 (show 0 ≤ a1.toInt by omega) (show a1.toInt ≤ 3 by omega) (show 0 ≤ a2.toInt by omega) (show a2.toInt ≤ 120 by omega) (show v93_3.toInt ≤ 100000000 by omega) (show 0 ≤ v70_4.toInt by omega) (show v70_4.toInt ≤ 120 by omega) (show 0 ≤ v79_5.toInt by omega) (show v79_5.toInt ≤ 9 by omega) (show 0 ≤ v93_6.toInt by omega) (show v93_6.toInt ≤ 1 by omega) (show 0 ≤ f70_12__9_a1_toInt_216_toNat.toInt by omega) (show f70_12__9_a1_toInt_216_toNat.toInt ≤ 9 by omega) (show 0 ≤ r111.toInt by omega) (show r111.toInt ≤ 9 by omega) (show 1 ≤ f93_12_0.toInt by omega) (show f93_12_0.toInt ≤ 10 by omega) (show 1 ≤ f70_12_5.toInt by omega) (show f70_12_5.toInt ≤ 4 by omega)  hw hT hF c119 c117 c120 c121 (lv_sub hl [1, 2, 3, 4, 5, 6, 7, 0] rfl)
                  · have c122 : v79_5.toInt = r111.toInt := wk_eq.mp c122
                    refine lv_iload hx hb dX12_questions_163 (lv_at hl 0 rfl) ?_
                    refine lv_iload_n hx hb dX12_questions_165 rfl (lv_at hl 4 rfl) ?_
                    refine lv_icmp_ge (tgt := 174) hx hb dX12_questions_166 (by decide) (fun c123 => ?_) (fun c123 => ?_)
                    · have c123 : v93_3.toInt ≤ x109.toInt := wk_le.mp c123
                      exact J174 x109 r111 H locs ls w113 (show 0 ≤ a1.toInt by omega) (show a1.toInt ≤ 3 by omega) (show 0 ≤ a2.toInt by omega) (show a2.toInt ≤ 120 by omega) (show v93_3.toInt ≤ 100000000 by omega) (show 0 ≤ v70_4.toInt by omega) (show v70_4.toInt ≤ 120 by omega) (show 0 ≤ v79_5.toInt by omega) (show v79_5.toInt ≤ 9 by omega) (show 0 ≤ v93_6.toInt by omega) (show v93_6.toInt ≤ 1 by omega) (show 0 ≤ f70_12__9_a1_toInt_216_toNat.toInt by omega) (show f70_12__9_a1_toInt_216_toNat.toInt ≤ 9 by omega) (show 0 ≤ r111.toInt by omega) (show r111.toInt ≤ 9 by omega) (show 1 ≤ f93_12_0.toInt by omega) (show f93_12_0.toInt ≤ 10 by omega) (show 1 ≤ f70_12_5.toInt by omega) (show f70_12_5.toInt ≤ 4 by omega)  hw hT hF c119 c117 c120 c121 (lv_sub hl [1, 2, 3, 4, 5, 6, 7, 0] rfl)
                    · have c123 : x109.toInt < v93_3.toInt := wk_leF c123
                      refine lv_iload hx hb dX12_questions_169 (lv_at hl 0 rfl) ?_
                      refine lv_goto (tgt := 175) hx hb dX12_questions_171 (by decide) ?_
                      refine lv_istore_n (lv' := [(3, .int x109), (7, .int x109), (0, .ref (ad 0)), (1, .int a1), (2, .int a2), (4, .int v70_4), (5, .int v79_5), (6, .int v93_6)]) hx hb dX12_questions_175 rfl hl (by decide) rfl (fun ls hl => ?_)
                      obtain ⟨x124, ex124⟩ : ∃ y : Int32, y = v93_6 + Int32.ofInt 1 := ⟨_, rfl⟩
                      refine lv_iinc (v := x124) (lv' := [(6, .int x124), (3, .int x109), (7, .int x109), (0, .ref (ad 0)), (1, .int a1), (2, .int a2), (4, .int v70_4), (5, .int v79_5)]) hx hb dX12_questions_176 hl (k := 7) rfl ex124.symm (by decide) rfl (fun ls hl => ?_)
                      have ex124 : x124.toInt = v93_6.toInt + 1 := by rw [ex124]; exact wk_add (y := 1) (show -2147483648 ≤ v93_6.toInt + 1 by omega) (show v93_6.toInt + 1 ≤ 2147483647 by omega)
                      refine lv_goto (tgt := 93) hx hb dX12_questions_179 (by decide) ?_
                      exact ih93 x109 x124 f93_12_0 H locs ls w113 (show 0 ≤ a1.toInt by omega) (show a1.toInt ≤ 3 by omega) (show 0 ≤ a2.toInt by omega) (show a2.toInt ≤ 120 by omega) (show x109.toInt ≤ 100000000 by omega) (show 0 ≤ v70_4.toInt by omega) (show v70_4.toInt ≤ 120 by omega) (show 0 ≤ v79_5.toInt by omega) (show v79_5.toInt ≤ 9 by omega) (show 0 ≤ x124.toInt by omega) (show x124.toInt ≤ 2 by omega) (show 0 ≤ f70_12__9_a1_toInt_216_toNat.toInt by omega) (show f70_12__9_a1_toInt_216_toNat.toInt ≤ 9 by omega) (show 1 ≤ f93_12_0.toInt by omega) (show f93_12_0.toInt ≤ 10 by omega) (show 1 ≤ f70_12_5.toInt by omega) (show f70_12_5.toInt ≤ 4 by omega) (show (2 - x124.toInt).toNat < n93 by omega) hw hT hF c119 c120 c121 (lv_sub hl [3, 4, 5, 1, 6, 7, 0] rfl)
                · have c90 : v93_6.toInt = (1 : Int) := wk_eq.mp c90
                  refine lv_iconst (v := 1) hx hb dX12_questions_117 (by decide) ?_
                  refine lv_goto (tgt := 122) hx hb dX12_questions_118 (by decide) ?_
                  refine lv_iload_n hx hb dX12_questions_122 rfl (lv_at hl 2 rfl) ?_
                  refine tk_Vv hC hK hw hT hA hE hSR kM_at0 (by decide) rfl (k_X12_leads_2 l adK adV dC dI cy ad B (by omega) (by omega) qr s1   a1 (show 0 ≤ a1.toInt by omega) (show a1.toInt ≤ 3 by omega) r80 (show 0 ≤ r80.toInt by omega) (show r80.toInt ≤ 1073741824 by omega) v70_4 (show 0 ≤ v70_4.toInt by omega) (show v70_4.toInt ≤ 120 by omega) v79_5 (show 0 ≤ v79_5.toInt by omega) (show v79_5.toInt ≤ 9 by omega) a2 (show 0 ≤ a2.toInt by omega) (show a2.toInt ≤ 120 by omega) w82 H.size hT ) (cwV 6 hC.2.2.2.2 gX12_questions_X12_leads rfl rfl rfl (by decide +kernel) ⟨Nat.le_of_ble_eq_true rfl, Nat.le_of_ble_eq_true rfl⟩) rfl hl.1 rfl (Nat.le_of_ble_eq_true rfl) dX12_questions_123 (fun w127 H locs hp126 hw => ?_)
                  obtain ⟨hT, k128, hg129⟩ := hp126
                  have hF := hF.tr k128 (by decide)
                  have c130 := k128.gi kM_at12 rfl c87
                  have c131 := k128.gi kM_at12 (by decide) c88
                  have c132 := k128.gi kM_at12 (by decide) c89
                  clear hg129
                  refine lv_aload_n hx hb dX12_questions_126 rfl (lv_at hl 0 rfl) ?_
                  refine tk_getA hC hK hw hT hinX12 kM_at0 (by decide) rfl 34 (by decide) (List.mem_of_getElem? (i := 2) rfl) rfl rfl dX12_questions_127 ?_
                  refine lv_aload_n hx hb dX12_questions_130 rfl (lv_at hl 0 rfl) ?_
                  refine lv_iload hx hb dX12_questions_131 (lv_at hl 4 rfl) ?_
                  refine lv_iload hx hb dX12_questions_133 (lv_at hl 5 rfl) ?_
                  refine lv_iload hx hb dX12_questions_135 (lv_at hl 6 rfl) ?_
                  refine lv_iconst (v := 1) hx hb dX12_questions_137 (by decide) ?_
                  refine lv_icmp_ne (tgt := 145) hx hb dX12_questions_138 (by decide) (fun c => (c (wk_eq.mpr (show v93_6.toInt = (1 : Int) by omega))).elim) (fun _ => ?_)
                  refine lv_iconst (v := 1) hx hb dX12_questions_141 (by decide) ?_
                  refine lv_goto (tgt := 146) hx hb dX12_questions_142 (by decide) ?_
                  refine tk_Vi hC hK hw hT hA hE hSR kM_at0 (by decide) rfl (k_X12_placeAt_4 l adK adV dC dI cy ad B (by omega) (by omega) qr s1   v70_4 (show 0 ≤ v70_4.toInt by omega) (show v70_4.toInt ≤ 120 by omega) v79_5 (show 0 ≤ v79_5.toInt by omega) (show v79_5.toInt ≤ 9 by omega) w127 H.size hT ) (cwV 3 hC.2.2.2.2 gX12_questions_X12_placeAt rfl rfl rfl (by decide +kernel) ⟨Nat.le_of_ble_eq_true rfl, Nat.le_of_ble_eq_true rfl⟩) rfl hl.1 rfl (Nat.le_of_ble_eq_true rfl) dX12_questions_146 (fun r133 w135 H locs hp134 hw => ?_)
                  obtain ⟨hT, k136, hg139⟩ := hp134
                  have hF := hF.tr k136 (by decide)
                  have c140 := k136.gi kM_at12 rfl c130
                  have c141 := k136.gi kM_at12 (by decide) c131
                  have c142 := k136.gi kM_at12 (by decide) c132
                  obtain ⟨g137, g138⟩ := hg139
                  refine tk_iald hC hK hw hT kM_at17 rfl rfl (show 0 ≤ r133.toInt by omega) (show r133.toInt < 2600 by omega) dX12_questions_149 (fun x143 c144 rx143 tx143 => ?_)
                  refine lv_istore (lv' := [(7, .int x143), (0, .ref (ad 0)), (1, .int a1), (2, .int a2), (3, .int v93_3), (4, .int v70_4), (5, .int v79_5), (6, .int v93_6)]) hx hb dX12_questions_150 hl (by decide) rfl (fun ls hl => ?_)
                  refine lv_iload hx hb dX12_questions_152 (lv_at hl 6 rfl) ?_
                  refine lv_aload_n hx hb dX12_questions_154 rfl (lv_at hl 1 rfl) ?_
                  refine lv_iload_n hx hb dX12_questions_155 rfl (lv_at hl 2 rfl) ?_
                  refine lv_iconst (v := 1) hx hb dX12_questions_156 (by decide) ?_
                  refine tk_Vi hC hK hw hT hA hE hSR kM_at0 (by decide) rfl (k_X12_walkerOf_3 l adK adV dC dI cy ad B (by omega) (by omega) qr s1   a1 (show 0 ≤ a1.toInt by omega) (show a1.toInt ≤ 3 by omega) w135 H.size hT ) (cwV 2 hC.2.2.2.2 gX12_questions_X12_walkerOf rfl rfl rfl (by decide +kernel) ⟨Nat.le_of_ble_eq_true rfl, Nat.le_of_ble_eq_true rfl⟩) rfl hl.1 rfl (Nat.le_of_ble_eq_true rfl) dX12_questions_157 (fun r145 w147 H locs hp146 hw => ?_)
                  obtain ⟨hT, k148, hg152⟩ := hp146
                  have hF := hF.tr k148 (by decide)
                  have c153 := k148.gi kM_at12 rfl c140
                  have c154 := k148.gi kM_at12 (by decide) c141
                  have c155 := k148.gi kM_at12 (by decide) c142
                  obtain ⟨g149, g150, c151⟩ := hg152
                  refine lv_icmp_ne (tgt := 174) hx hb dX12_questions_160 (by decide) (fun c156 => ?_) (fun c156 => ?_)
                  · have c156 : ¬ v79_5.toInt = r145.toInt := wk_eqF c156
                    exact J174 x143 r145 H locs ls w147 (show 0 ≤ a1.toInt by omega) (show a1.toInt ≤ 3 by omega) (show 0 ≤ a2.toInt by omega) (show a2.toInt ≤ 120 by omega) (show v93_3.toInt ≤ 100000000 by omega) (show 0 ≤ v70_4.toInt by omega) (show v70_4.toInt ≤ 120 by omega) (show 0 ≤ v79_5.toInt by omega) (show v79_5.toInt ≤ 9 by omega) (show 0 ≤ v93_6.toInt by omega) (show v93_6.toInt ≤ 1 by omega) (show 0 ≤ f70_12__9_a1_toInt_216_toNat.toInt by omega) (show f70_12__9_a1_toInt_216_toNat.toInt ≤ 9 by omega) (show 0 ≤ r145.toInt by omega) (show r145.toInt ≤ 9 by omega) (show 1 ≤ f93_12_0.toInt by omega) (show f93_12_0.toInt ≤ 10 by omega) (show 1 ≤ f70_12_5.toInt by omega) (show f70_12_5.toInt ≤ 4 by omega)  hw hT hF c153 c151 c154 c155 (lv_sub hl [1, 2, 3, 4, 5, 6, 7, 0] rfl)
                  · have c156 : v79_5.toInt = r145.toInt := wk_eq.mp c156
                    refine lv_iload hx hb dX12_questions_163 (lv_at hl 0 rfl) ?_
                    refine lv_iload_n hx hb dX12_questions_165 rfl (lv_at hl 4 rfl) ?_
                    refine lv_icmp_ge (tgt := 174) hx hb dX12_questions_166 (by decide) (fun c157 => ?_) (fun c157 => ?_)
                    · have c157 : v93_3.toInt ≤ x143.toInt := wk_le.mp c157
                      exact J174 x143 r145 H locs ls w147 (show 0 ≤ a1.toInt by omega) (show a1.toInt ≤ 3 by omega) (show 0 ≤ a2.toInt by omega) (show a2.toInt ≤ 120 by omega) (show v93_3.toInt ≤ 100000000 by omega) (show 0 ≤ v70_4.toInt by omega) (show v70_4.toInt ≤ 120 by omega) (show 0 ≤ v79_5.toInt by omega) (show v79_5.toInt ≤ 9 by omega) (show 0 ≤ v93_6.toInt by omega) (show v93_6.toInt ≤ 1 by omega) (show 0 ≤ f70_12__9_a1_toInt_216_toNat.toInt by omega) (show f70_12__9_a1_toInt_216_toNat.toInt ≤ 9 by omega) (show 0 ≤ r145.toInt by omega) (show r145.toInt ≤ 9 by omega) (show 1 ≤ f93_12_0.toInt by omega) (show f93_12_0.toInt ≤ 10 by omega) (show 1 ≤ f70_12_5.toInt by omega) (show f70_12_5.toInt ≤ 4 by omega)  hw hT hF c153 c151 c154 c155 (lv_sub hl [1, 2, 3, 4, 5, 6, 7, 0] rfl)
                    · have c157 : x143.toInt < v93_3.toInt := wk_leF c157
                      refine lv_iload hx hb dX12_questions_169 (lv_at hl 0 rfl) ?_
                      refine lv_goto (tgt := 175) hx hb dX12_questions_171 (by decide) ?_
                      refine lv_istore_n (lv' := [(3, .int x143), (7, .int x143), (0, .ref (ad 0)), (1, .int a1), (2, .int a2), (4, .int v70_4), (5, .int v79_5), (6, .int v93_6)]) hx hb dX12_questions_175 rfl hl (by decide) rfl (fun ls hl => ?_)
                      obtain ⟨x158, ex158⟩ : ∃ y : Int32, y = v93_6 + Int32.ofInt 1 := ⟨_, rfl⟩
                      refine lv_iinc (v := x158) (lv' := [(6, .int x158), (3, .int x143), (7, .int x143), (0, .ref (ad 0)), (1, .int a1), (2, .int a2), (4, .int v70_4), (5, .int v79_5)]) hx hb dX12_questions_176 hl (k := 7) rfl ex158.symm (by decide) rfl (fun ls hl => ?_)
                      have ex158 : x158.toInt = v93_6.toInt + 1 := by rw [ex158]; exact wk_add (y := 1) (show -2147483648 ≤ v93_6.toInt + 1 by omega) (show v93_6.toInt + 1 ≤ 2147483647 by omega)
                      refine lv_goto (tgt := 93) hx hb dX12_questions_179 (by decide) ?_
                      exact ih93 x143 x158 f93_12_0 H locs ls w147 (show 0 ≤ a1.toInt by omega) (show a1.toInt ≤ 3 by omega) (show 0 ≤ a2.toInt by omega) (show a2.toInt ≤ 120 by omega) (show x143.toInt ≤ 100000000 by omega) (show 0 ≤ v70_4.toInt by omega) (show v70_4.toInt ≤ 120 by omega) (show 0 ≤ v79_5.toInt by omega) (show v79_5.toInt ≤ 9 by omega) (show 0 ≤ x158.toInt by omega) (show x158.toInt ≤ 2 by omega) (show 0 ≤ f70_12__9_a1_toInt_216_toNat.toInt by omega) (show f70_12__9_a1_toInt_216_toNat.toInt ≤ 9 by omega) (show 1 ≤ f93_12_0.toInt by omega) (show f93_12_0.toInt ≤ 10 by omega) (show 1 ≤ f70_12_5.toInt by omega) (show f70_12_5.toInt ≤ 4 by omega) (show (2 - x158.toInt).toNat < n93 by omega) hw hT hF c153 c154 c155 (lv_sub hl [3, 4, 5, 1, 6, 7, 0] rfl)
          refine lv_iload hx hb dX12_questions_79 (lv_at hl 5 rfl) ?_
          refine lv_aload_n hx hb dX12_questions_81 rfl (lv_at hl 0 rfl) ?_
          refine tk_getA hC hK hw hT hinX12 kM_at0 (by decide) rfl 26 (by decide) (List.mem_of_getElem? (i := 4) rfl) rfl rfl dX12_questions_82 ?_
          refine lv_iconst (v := 0) hx hb dX12_questions_85 (by decide) ?_
          refine tk_ialdR hC hK hw hT kM_at12 rfl (by decide) (by decide) dX12_questions_86 (fun x159 c160 Ex159 => ?_)
          have bx159 := tk_rgI rfl 0 1 1 0 10 (by decide +kernel) ⟨0, by decide, by decide⟩ Ex159
          have c160 : gi w16 12 0 = x159 := c160
          refine lv_icmp_ge (tgt := 188) hx hb dX12_questions_87 (by decide) (fun c161 => ?_) (fun c161 => ?_)
          · have c161 : x159.toInt ≤ v79_5.toInt := wk_le.mp c161
            obtain ⟨x162, ex162⟩ : ∃ y : Int32, y = v70_4 + Int32.ofInt 1 := ⟨_, rfl⟩
            refine lv_iinc (v := x162) (lv' := [(4, .int x162), (0, .ref (ad 0)), (1, .int a1), (2, .int a2), (3, .int v79_3), (5, .int v79_5)]) hx hb dX12_questions_188 hl (k := 4) rfl ex162.symm (by decide) rfl (fun ls hl => ?_)
            have ex162 : x162.toInt = v70_4.toInt + 1 := by rw [ex162]; exact wk_add (y := 1) (show -2147483648 ≤ v70_4.toInt + 1 by omega) (show v70_4.toInt + 1 ≤ 2147483647 by omega)
            refine lv_goto (tgt := 70) hx hb dX12_questions_191 (by decide) ?_
            exact ih70 v79_3 x162 f70_12__9_a1_toInt_216_toNat f70_12_5 H locs ls w16 (show 0 ≤ a1.toInt by omega) (show a1.toInt ≤ 3 by omega) (show 0 ≤ a2.toInt by omega) (show a2.toInt ≤ 120 by omega) (show v79_3.toInt ≤ 100000000 by omega) (show 0 ≤ x162.toInt by omega) (show x162.toInt ≤ 121 by omega) (show 0 ≤ f70_12__9_a1_toInt_216_toNat.toInt by omega) (show f70_12__9_a1_toInt_216_toNat.toInt ≤ 9 by omega) (show 1 ≤ f70_12_5.toInt by omega) (show f70_12_5.toInt ≤ 4 by omega) (show (121 - x162.toInt).toNat < n70 by omega) hw hT hF c28 c31 (lv_sub hl [1, 2, 3, 4, 0] rfl)
          · have c161 : v79_5.toInt < x159.toInt := wk_leF c161
            refine lv_iconst (v := 0) hx hb dX12_questions_90 (by decide) ?_
            refine lv_istore (lv' := [(6, .int 0), (0, .ref (ad 0)), (1, .int a1), (2, .int a2), (3, .int v79_3), (4, .int v70_4), (5, .int v79_5)]) hx hb dX12_questions_91 hl (by decide) rfl (fun ls hl => ?_)
            exact L93 ((2 - (0 : Int)).toNat + 1) v79_3 0 x159 H locs ls w16 (show 0 ≤ a1.toInt by omega) (show a1.toInt ≤ 3 by omega) (show 0 ≤ a2.toInt by omega) (show a2.toInt ≤ 120 by omega) (show v79_3.toInt ≤ 100000000 by omega) (show 0 ≤ v70_4.toInt by omega) (show v70_4.toInt ≤ 120 by omega) (show 0 ≤ v79_5.toInt by omega) (show v79_5.toInt ≤ 9 by omega) (by decide) (by decide) (show 0 ≤ f70_12__9_a1_toInt_216_toNat.toInt by omega) (show f70_12__9_a1_toInt_216_toNat.toInt ≤ 9 by omega) (show 1 ≤ x159.toInt by omega) (show x159.toInt ≤ 10 by omega) (show 1 ≤ f70_12_5.toInt by omega) (show f70_12_5.toInt ≤ 4 by omega) (Nat.lt_succ_self _) hw hT hF c28 c160 c31 (lv_sub hl [1, 2, 3, 4, 5, 6, 0] rfl)
      refine lv_iload hx hb dX12_questions_70 (lv_at hl 4 rfl) ?_
      refine lv_iload_n hx hb dX12_questions_72 rfl (lv_at hl 2 rfl) ?_
      refine lv_icmp_gt (tgt := 194) hx hb dX12_questions_73 (by decide) (fun c163 => ?_) (fun c163 => ?_)
      · have c163 : a2.toInt < v70_4.toInt := wk_lt.mp c163
        refine lv_iload_n hx hb dX12_questions_194 rfl (lv_at hl 3 rfl) ?_
        refine lv_ldcw (v := 100000000) hx hb hC.2.2.2.1 (hC.2.2.2.2 _ (List.mem_of_getElem? (i := 3) rfl)) dX12_questions_195 ?_
        refine lv_icmp_ne (tgt := 206) hx hb dX12_questions_198 (by decide) (fun c164 => ?_) (fun c164 => ?_)
        · have c164 : ¬ v70_3.toInt = (100000000 : Int) := wk_eqF c164
          refine lv_iload_n hx hb dX12_questions_206 rfl (lv_at hl 3 rfl) ?_
          exact tk_iret hC hr hlocks hK ⟨hT, hF, (Or.inl ⟨(show v70_3.toInt ≤ 99999999 by omega), (show 0 ≤ a1.toInt by omega), (show a1.toInt ≤ 3 by omega), (show 0 ≤ a2.toInt by omega), (show a2.toInt ≤ 120 by omega), ⟨f70_12_5, c15, (show 1 ≤ f70_12_5.toInt by omega), (show f70_12_5.toInt ≤ 4 by omega)⟩⟩)⟩ hw dX12_questions_207
        · have c164 : v70_3.toInt = (100000000 : Int) := wk_eq.mp c164
          refine lv_bipush (v := (-2)) hx hb dX12_questions_201 (by decide) ?_
          refine lv_goto (tgt := 207) hx hb dX12_questions_203 (by decide) ?_
          exact tk_iret hC hr hlocks hK ⟨hT, hF, (Or.inr (Or.inl ⟨rfl, (show 0 ≤ a1.toInt by omega), (show a1.toInt ≤ 3 by omega), (show 0 ≤ a2.toInt by omega), (show a2.toInt ≤ 120 by omega), ⟨f70_12_5, c15, (show 1 ≤ f70_12_5.toInt by omega), (show f70_12_5.toInt ≤ 4 by omega)⟩⟩))⟩ hw dX12_questions_207
      · have c163 : v70_4.toInt ≤ a2.toInt := wk_ltF c163
        refine lv_iconst (v := 0) hx hb dX12_questions_76 (by decide) ?_
        refine lv_istore (lv' := [(5, .int 0), (0, .ref (ad 0)), (1, .int a1), (2, .int a2), (3, .int v70_3), (4, .int v70_4)]) hx hb dX12_questions_77 hl (by decide) rfl (fun ls hl => ?_)
        exact L79 ((10 - (0 : Int)).toNat + 1) v70_3 0 H locs ls w2 (show 0 ≤ a1.toInt by omega) (show a1.toInt ≤ 3 by omega) (show 0 ≤ a2.toInt by omega) (show a2.toInt ≤ 120 by omega) (show v70_3.toInt ≤ 100000000 by omega) (show 0 ≤ v70_4.toInt by omega) (show v70_4.toInt ≤ 120 by omega) (by decide) (by decide) (show 0 ≤ f70_12__9_a1_toInt_216_toNat.toInt by omega) (show f70_12__9_a1_toInt_216_toNat.toInt ≤ 9 by omega) (show 1 ≤ f70_12_5.toInt by omega) (show f70_12_5.toInt ≤ 4 by omega) (Nat.lt_succ_self _) hw hT hF c12 c15 (lv_sub hl [1, 2, 3, 4, 5, 0] rfl)
  have L24 : ∀ (n24 : Nat) (v24_3 : Int32) (f24_12_5 : Int32) (H : Heap) (locs : List Loc) (ls : Array Slot) (w165 : va_W), 0 ≤ a1.toInt → a1.toInt ≤ 3 → 0 ≤ a2.toInt → a2.toInt ≤ 120 → 0 ≤ v24_3.toInt → v24_3.toInt ≤ 2600 → 1 ≤ f24_12_5.toInt → f24_12_5.toInt ≤ 4 → (2600 - v24_3.toInt).toNat < n24 → Wd dC dI A s.heap H locs w165 → TW ksM ad cy B qr 12 w165 → FE ksM [(72, 0, 12), (73, 0, 10), (76, 0, 2600)] w0 w165 → gi w165 12 5 = f24_12_5 → lv_has ls 8 [(0, .ref (ad 0)), (1, .int a1), (2, .int a2), (3, .int v24_3)] → W p l e ({ frames := 6, cells := 0, slots := 0, locals := 134 }) s m (List.toArray [.ref (ad 0), .int a1, .int a2]) below meth c H locs 0 0 (MQ below (va_Qi (P_X12_questions_1 ad cy B qr s1 a1 a2 w0) (fun u : va_W => wpost dC dI cy A u) A) (List.toArray [.ref (ad 0), .int a1, .int a2]) s 0 0 A) (F0 m 24 ls []) := by
    intro n24
    induction n24 with
    | zero => intro v24_3 f24_12_5 H locs ls w165 r166 t167 r168 t169 r170 t171 r172 t173 hm24 hw hT hF c174 hl; omega
    | succ n24 ih24 =>
      intro v24_3 f24_12_5 H locs ls w165 r166 t167 r168 t169 r170 t171 r172 t173 hm24 hw hT hF c174 hl
      refine lv_iload_n hx hb dX12_questions_24 rfl (lv_at hl 3 rfl) ?_
      refine lv_sipush (v := 2600) hx hb dX12_questions_25 (by decide) ?_
      refine lv_icmp_ge (tgt := 46) hx hb dX12_questions_28 (by decide) (fun c175 => ?_) (fun c175 => ?_)
      · have c175 : (2600 : Int) ≤ v24_3.toInt := wk_le.mp c175
        refine lv_aload_n hx hb dX12_questions_46 rfl (lv_at hl 0 rfl) ?_
        refine lv_iconst (v := 0) hx hb dX12_questions_47 (by decide) ?_
        refine lv_aload_n hx hb dX12_questions_48 rfl (lv_at hl 0 rfl) ?_
        refine lv_iload_n hx hb dX12_questions_49 rfl (lv_at hl 1 rfl) ?_
        refine lv_iconst (v := 0) hx hb dX12_questions_50 (by decide) ?_
        refine tk_Vi hC hK hw hT hA hE hSR kM_at0 (by decide) rfl (k_X12_walkerOf_5 l adK adV dC dI cy ad B (by omega) (by omega) qr s1   a1 (show 0 ≤ a1.toInt by omega) (show a1.toInt ≤ 3 by omega) w165 H.size hT ) (cwV 2 hC.2.2.2.2 gX12_questions_X12_walkerOf rfl rfl rfl (by decide +kernel) ⟨Nat.le_of_ble_eq_true rfl, Nat.le_of_ble_eq_true rfl⟩) rfl hl.1 rfl (Nat.le_of_ble_eq_true rfl) dX12_questions_51 (fun r176 w178 H locs hp177 hw => ?_)
        obtain ⟨hT, k179, hg183⟩ := hp177
        have hF := hF.tr k179 (by decide)
        have c184 := k179.gi kM_at12 (by decide) c174
        obtain ⟨g180, g181, c182⟩ := hg183
        refine lv_aload_n hx hb dX12_questions_54 rfl (lv_at hl 0 rfl) ?_
        refine lv_iload_n hx hb dX12_questions_55 rfl (lv_at hl 1 rfl) ?_
        refine tk_Vi hC hK hw hT hA hE hSR kM_at0 (by decide) rfl (k_X12_askedToday_1 l adK adV dC dI cy ad B (by omega) (by omega) qr s1   a1 (show 0 ≤ a1.toInt by omega) (show a1.toInt ≤ 3 by omega) w178 H.size hT ) (cwV 1 hC.2.2.2.2 gX12_questions_X12_askedToday rfl rfl rfl (by decide +kernel) ⟨Nat.le_of_ble_eq_true rfl, Nat.le_of_ble_eq_true rfl⟩) rfl hl.1 rfl (Nat.le_of_ble_eq_true rfl) dX12_questions_56 (fun r185 w187 H locs hp186 hw => ?_)
        obtain ⟨hT, k188, hg189⟩ := hp186
        have hF := hF.tr k188 (by decide)
        have c190 := k188.gi kM_at12 (by decide) c184
        have c191 := k188.gi kM_at12 rfl c182
        rcases hg189 with rfl | rfl
        · refine lv_iconst (v := 0) hx hb dX12_questions_59 (by decide) ?_
          refine tk_Vv hC hK hw hT hA hE hSR kM_at0 (by decide) rfl (k_X12_could_5 l adK adV dC dI cy ad B (by omega) (by omega) qr s1   r176 (show 0 ≤ r176.toInt by omega) (show r176.toInt ≤ 9 by omega) w187 H.size hT ) (cwV 4 hC.2.2.2.2 gX12_questions_X12_could rfl rfl rfl (by decide +kernel) ⟨Nat.le_of_ble_eq_true rfl, Nat.le_of_ble_eq_true rfl⟩) rfl hl.1 rfl (Nat.le_of_ble_eq_true rfl) dX12_questions_60 (fun w194 H locs hp193 hw => ?_)
          obtain ⟨hT, k195, hg196⟩ := hp193
          have hF := hF.tr k195 (by decide)
          have c197 := k195.gi kM_at12 (by decide) c190
          have c198 := k195.gi kM_at12 rfl c191
          clear hg196
          refine lv_ldcw (v := 100000000) hx hb hC.2.2.2.1 (hC.2.2.2.2 _ (List.mem_of_getElem? (i := 3) rfl)) dX12_questions_63 ?_
          refine lv_istore_n (lv' := [(3, .int 100000000), (0, .ref (ad 0)), (1, .int a1), (2, .int a2)]) hx hb dX12_questions_66 rfl hl (by decide) rfl (fun ls hl => ?_)
          refine lv_iconst (v := 0) hx hb dX12_questions_67 (by decide) ?_
          refine lv_istore (lv' := [(4, .int 0), (3, .int 100000000), (0, .ref (ad 0)), (1, .int a1), (2, .int a2)]) hx hb dX12_questions_68 hl (by decide) rfl (fun ls hl => ?_)
          exact L70 ((121 - (0 : Int)).toNat + 1) 100000000 0 r176 f24_12_5 H locs ls w194 (show 0 ≤ a1.toInt by omega) (show a1.toInt ≤ 3 by omega) (show 0 ≤ a2.toInt by omega) (show a2.toInt ≤ 120 by omega) (by decide) (by decide) (by decide) (show 0 ≤ r176.toInt by omega) (show r176.toInt ≤ 9 by omega) (show 1 ≤ f24_12_5.toInt by omega) (show f24_12_5.toInt ≤ 4 by omega) (Nat.lt_succ_self _) hw hT hF c198 c197 (lv_sub hl [2, 3, 4, 1, 0] rfl)
        · refine lv_iconst (v := 0) hx hb dX12_questions_59 (by decide) ?_
          refine tk_Vv hC hK hw hT hA hE hSR kM_at0 (by decide) rfl (k_X12_could_6 l adK adV dC dI cy ad B (by omega) (by omega) qr s1   r176 (show 0 ≤ r176.toInt by omega) (show r176.toInt ≤ 9 by omega) w187 H.size hT ) (cwV 4 hC.2.2.2.2 gX12_questions_X12_could rfl rfl rfl (by decide +kernel) ⟨Nat.le_of_ble_eq_true rfl, Nat.le_of_ble_eq_true rfl⟩) rfl hl.1 rfl (Nat.le_of_ble_eq_true rfl) dX12_questions_60 (fun w201 H locs hp200 hw => ?_)
          obtain ⟨hT, k202, hg203⟩ := hp200
          have hF := hF.tr k202 (by decide)
          have c204 := k202.gi kM_at12 (by decide) c190
          have c205 := k202.gi kM_at12 rfl c191
          clear hg203
          refine lv_ldcw (v := 100000000) hx hb hC.2.2.2.1 (hC.2.2.2.2 _ (List.mem_of_getElem? (i := 3) rfl)) dX12_questions_63 ?_
          refine lv_istore_n (lv' := [(3, .int 100000000), (0, .ref (ad 0)), (1, .int a1), (2, .int a2)]) hx hb dX12_questions_66 rfl hl (by decide) rfl (fun ls hl => ?_)
          refine lv_iconst (v := 0) hx hb dX12_questions_67 (by decide) ?_
          refine lv_istore (lv' := [(4, .int 0), (3, .int 100000000), (0, .ref (ad 0)), (1, .int a1), (2, .int a2)]) hx hb dX12_questions_68 hl (by decide) rfl (fun ls hl => ?_)
          exact L70 ((121 - (0 : Int)).toNat + 1) 100000000 0 r176 f24_12_5 H locs ls w201 (show 0 ≤ a1.toInt by omega) (show a1.toInt ≤ 3 by omega) (show 0 ≤ a2.toInt by omega) (show a2.toInt ≤ 120 by omega) (by decide) (by decide) (by decide) (show 0 ≤ r176.toInt by omega) (show r176.toInt ≤ 9 by omega) (show 1 ≤ f24_12_5.toInt by omega) (show f24_12_5.toInt ≤ 4 by omega) (Nat.lt_succ_self _) hw hT hF c205 c204 (lv_sub hl [2, 3, 4, 1, 0] rfl)
      · have c175 : v24_3.toInt < (2600 : Int) := wk_leF c175
        refine lv_aload_n hx hb dX12_questions_31 rfl (lv_at hl 0 rfl) ?_
        refine tk_getA hC hK hw hT hinX12 kM_at0 (by decide) rfl 34 (by decide) (List.mem_of_getElem? (i := 2) rfl) rfl rfl dX12_questions_32 ?_
        refine lv_iload_n hx hb dX12_questions_35 rfl (lv_at hl 3 rfl) ?_
        refine lv_ldcw (v := 100000000) hx hb hC.2.2.2.1 (hC.2.2.2.2 _ (List.mem_of_getElem? (i := 3) rfl)) dX12_questions_36 ?_
        refine tk_iast hC hK hw hT kM_at17 (by decide) rfl rfl (show 0 ≤ v24_3.toInt by omega) (show v24_3.toInt < 2600 by omega) (by decide) (by decide) dX12_questions_39 (fun H locs w206 hw hT k208 c207 => ?_)
        have hF := hF.put kM_at17 (inE_of (a := 0) (b := 2600) (by decide) (show 0 ≤ v24_3.toInt.toNat by omega) (show v24_3.toInt.toNat ≤ 2600 by omega)) k208
        have c209 := k208.gi (Or.inl (tk_ne kM_at12 kM_at17 (by decide))) c174
        obtain ⟨x210, ex210⟩ : ∃ y : Int32, y = v24_3 + Int32.ofInt 1 := ⟨_, rfl⟩
        refine lv_iinc (v := x210) (lv' := [(3, .int x210), (0, .ref (ad 0)), (1, .int a1), (2, .int a2)]) hx hb dX12_questions_40 hl (k := 3) rfl ex210.symm (by decide) rfl (fun ls hl => ?_)
        have ex210 : x210.toInt = v24_3.toInt + 1 := by rw [ex210]; exact wk_add (y := 1) (show -2147483648 ≤ v24_3.toInt + 1 by omega) (show v24_3.toInt + 1 ≤ 2147483647 by omega)
        refine lv_goto (tgt := 24) hx hb dX12_questions_43 (by decide) ?_
        exact ih24 x210 f24_12_5 H locs ls w206 (show 0 ≤ a1.toInt by omega) (show a1.toInt ≤ 3 by omega) (show 0 ≤ a2.toInt by omega) (show a2.toInt ≤ 120 by omega) (show 0 ≤ x210.toInt by omega) (show x210.toInt ≤ 2600 by omega) (show 1 ≤ f24_12_5.toInt by omega) (show f24_12_5.toInt ≤ 4 by omega) (show (2600 - x210.toInt).toNat < n24 by omega) hw hT hF c209 (lv_sub hl [1, 2, 3, 0] rfl)
  refine lv_aload_n hx hb dX12_questions_0 rfl (lv_at hl 0 rfl) ?_
  refine lv_iload_n hx hb dX12_questions_1 rfl (lv_at hl 1 rfl) ?_
  refine tk_Vi hC hK hw hT hA hE hSR kM_at0 (by decide) rfl (k_X12_isWalker_1 l adK adV dC dI cy ad B (by omega) (by omega) qr s1   a1 w0 s.heap.size hT ) (cwV 1 hC.2.2.2.2 gX12_questions_X12_isWalker rfl rfl rfl (by decide +kernel) ⟨Nat.le_of_ble_eq_true rfl, Nat.le_of_ble_eq_true rfl⟩) rfl hl.1 rfl (Nat.le_of_ble_eq_true rfl) dX12_questions_2 (fun r211 w213 H locs hp212 hw => ?_)
  obtain ⟨hT, k214, hg219⟩ := hp212
  have hF := hF.tr k214 (by decide)
  rcases hg219 with rfl | ⟨rfl, g215, g216, ⟨x217, c218, rx217, tx217⟩⟩
  · refine lv_if_eq (tgt := 20) hx hb dX12_questions_5 (by decide) (fun _ => ?_) (fun c => absurd (by decide) c)
    exact J20  H locs ls w213   hw hT hF  (lv_sub hl [0, 1, 2] rfl)
  · refine lv_if_eq (tgt := 20) hx hb dX12_questions_5 (by decide) (fun c => absurd c (by decide)) (fun _ => ?_)
    refine lv_iload_n hx hb dX12_questions_8 rfl (lv_at hl 2 rfl) ?_
    refine lv_i2l hx hb dX12_questions_9 rfl ?_
    refine lv_topl (fun x220 ex220 => ?_)
    have ex220 : x220.toInt = a2.toInt := by rw [ex220]; exact wk_i2l _
    have bx220 := wk_i32 a2
    refine lv_lconst (v := 0) hx hb dX12_questions_10 (by decide) ?_
    refine lv_ldc2 (v := 120) hx hb hC.2.2.2.1 (hC.2.2.2.2 _ (List.mem_of_getElem? (i := 1) rfl)) dX12_questions_11 ?_
    refine tk_Si hC hK hw hT hA hE hSR (k_X12_in_14 l adK adV dC dI cy ad B (by omega) (by omega) qr s1   x220 (show (-2147483648) ≤ x220.toInt by omega) (show x220.toInt ≤ 2147483647 by omega) w213 H.size hT ) (va_cwS 3 hC.2.2.2.2 gX12_questions_X12_in rfl rfl rfl (by decide +kernel) ⟨Nat.le_of_ble_eq_true rfl, Nat.le_of_ble_eq_true rfl⟩) rfl hl.1 rfl (Nat.le_of_ble_eq_true rfl) dX12_questions_14 (fun r221 w223 H locs hp222 hw => ?_)
    obtain ⟨hT, k224, hg227⟩ := hp222
    have hF := hF.tr k224 (by decide)
    have c228 := k224.gi kM_at12 (by decide) c218
    rcases hg227 with rfl | ⟨rfl, g225, g226⟩
    · refine lv_if_ne (tgt := 22) hx hb dX12_questions_17 (by decide) (fun c => absurd (by decide) c) (fun _ => ?_)
      exact J20  H locs ls w223   hw hT hF  (lv_sub hl [0, 1, 2] rfl)
    · refine lv_if_ne (tgt := 22) hx hb dX12_questions_17 (by decide) (fun _ => ?_) (fun c => absurd c (by decide))
      refine lv_iconst (v := 0) hx hb dX12_questions_22 (by decide) ?_
      refine lv_istore_n (lv' := [(3, .int 0), (0, .ref (ad 0)), (1, .int a1), (2, .int a2)]) hx hb dX12_questions_23 rfl hl (by decide) rfl (fun ls hl => ?_)
      exact L24 ((2600 - (0 : Int)).toNat + 1) 0 x217 H locs ls w223 (show 0 ≤ a1.toInt by omega) (show a1.toInt ≤ 3 by omega) (show 0 ≤ a2.toInt by omega) (show a2.toInt ≤ 120 by omega) (by decide) (by decide) (show 1 ≤ x217.toInt by omega) (show x217.toInt ≤ 4 by omega) (Nat.lt_succ_self _) hw hT hF c228 (lv_sub hl [1, 2, 3, 0] rfl)
abbrev P_X12_cheapOf_1 (ad : Nat → Nat) (cy : Nat → ClassId) (B : Int) (qr : Nat) (s1 : Int) (a1 : Int32) (w0 : va_W) : Int32 → va_W → Prop := fun r u => TW ksM ad cy B qr 12 u ∧ FE ksM ([] : List (Nat × Nat × Nat)) w0 u ∧ ((0 ≤ r.toInt ∧ r.toInt ≤ 3))
set_option maxHeartbeats 4000000 in
set_option maxRecDepth 100000 in
theorem k_X12_cheapOf_1 (l : Launch) (adK adV : Nat → Nat) (dC : Nat → ClassId) (dI : Nat → Nat → Nat) (cy : Nat → ClassId) (ad : Nat → Nat) (B : Int) (hB0 : 100000 ≤ B) (hB1 : B ≤ 1073741824) (qr : Nat) (s1 : Int)  (a1 : Int32) (ra1 : 0 ≤ a1.toInt) (ta1 : a1.toInt ≤ 11) (w0 : va_W) (sz : Nat) (hT : TW ksM ad cy B qr 12 w0)  : Met l yX12_cheapOf wsX12_cheapOf ({ frames := 2, cells := 0, slots := 0, locals := 34 }) (va_Pc [.ref (ad 0), .int a1] (wpreS adK adV dC dI cy sz w0)) (va_Qi (P_X12_cheapOf_1 ad cy B qr s1 a1 w0) (fun u : va_W => wpost dC dI cy (va_A w0 sz) u) (va_A w0 sz)) 0 0 (va_A w0 sz) := by
  refine Met.ofW (cc := cX12_cheapOf) (maxL := 7) (ret := (some .int)) (by decide) rfl ?_
  intro p e s m args below meth c s₁ Bk hml hv
  obtain ⟨rfl, ⟨hsz, hP, hK, hD0⟩, hE, hSR⟩ := hv
  have hx := Bk.exec
  have hb := Bk.bytes
  have hr := Bk.returns
  have hlocks := Bk.notSynchronized
  have hC : CallFix p m c cX12_cheapOf 7 s _ wsX12_cheapOf RX12 := ⟨hx, hb, hml, findClass_of_methodNamed Bk.named, atoms_spec (ws := wsX12_cheapOf) Bk.pre⟩
  subst hsz
  have hD := hD0.self (sz := s.heap.size)
  generalize hAe : va_A w0 s.heap.size = A at hD hE ⊢
  have hA : ∀ q : Nat, s.heap.size ≤ q → A q := fun q h => by rw [← hAe]; exact Or.inr h
  have hw : Wd dC dI A s.heap s.heap [] w0 := ⟨hP, hD, va_S.rf⟩
  have hF : FE ksM ([] : List (Nat × Nat × Nat)) w0 w0 := FE.rf
  have hl := lv_entry ([.ref (ad 0), .int a1]) (n := 7) (Nat.le_of_ble_eq_true rfl)
  rw [lg_entry_eq]
  generalize (lg_sl ([.ref (ad 0), .int a1]) ++ List.replicate (7 - (lg_sl ([.ref (ad 0), .int a1])).length) Slot.unset).toArray = ls at hl ⊢
  have hl : lv_has ls 7 [(0, .ref (ad 0)), (1, .int a1)] := hl
  generalize hloc : ([] : List Loc) = locs at hw ⊢
  have L7 : ∀ (n7 : Nat) (v7_2 : Int32) (v7_3 : Int32) (v7_4 : Int32) (H : Heap) (locs : List Loc) (ls : Array Slot) (w1 : va_W), 0 ≤ a1.toInt → a1.toInt ≤ 11 → 0 ≤ v7_2.toInt → v7_2.toInt ≤ 3 → (-1) ≤ v7_3.toInt → 0 ≤ v7_4.toInt → v7_4.toInt ≤ 4 → (4 - v7_4.toInt).toNat < n7 → Wd dC dI A s.heap H locs w1 → TW ksM ad cy B qr 12 w1 → FE ksM ([] : List (Nat × Nat × Nat)) w0 w1 → lv_has ls 7 [(0, .ref (ad 0)), (1, .int a1), (2, .int v7_2), (3, .int v7_3), (4, .int v7_4)] → W p l e ({ frames := 2, cells := 0, slots := 0, locals := 34 }) s m (List.toArray [.ref (ad 0), .int a1]) below meth c H locs 0 0 (MQ below (va_Qi (P_X12_cheapOf_1 ad cy B qr s1 a1 w0) (fun u : va_W => wpost dC dI cy A u) A) (List.toArray [.ref (ad 0), .int a1]) s 0 0 A) (F0 m 7 ls []) := by
    intro n7
    induction n7 with
    | zero => intro v7_2 v7_3 v7_4 H locs ls w1 r2 t3 r4 t5 r6 r7 t8 hm7 hw hT hF hl; omega
    | succ n7 ih7 =>
      intro v7_2 v7_3 v7_4 H locs ls w1 r2 t3 r4 t5 r6 r7 t8 hm7 hw hT hF hl
      have L19 : ∀ (n19 : Nat) (v19_5 : Int32) (v19_6 : Int32) (H : Heap) (locs : List Loc) (ls : Array Slot) (w9 : va_W), 0 ≤ a1.toInt → a1.toInt ≤ 11 → 0 ≤ v7_2.toInt → v7_2.toInt ≤ 3 → (-1) ≤ v7_3.toInt → 0 ≤ v7_4.toInt → v7_4.toInt ≤ 3 → 0 ≤ v19_6.toInt → v19_6.toInt ≤ 7 → (7 - v19_6.toInt).toNat < n19 → Wd dC dI A s.heap H locs w9 → TW ksM ad cy B qr 12 w9 → FE ksM ([] : List (Nat × Nat × Nat)) w0 w9 → lv_has ls 7 [(0, .ref (ad 0)), (1, .int a1), (2, .int v7_2), (3, .int v7_3), (4, .int v7_4), (5, .int v19_5), (6, .int v19_6)] → W p l e ({ frames := 2, cells := 0, slots := 0, locals := 34 }) s m (List.toArray [.ref (ad 0), .int a1]) below meth c H locs 0 0 (MQ below (va_Qi (P_X12_cheapOf_1 ad cy B qr s1 a1 w0) (fun u : va_W => wpost dC dI cy A u) A) (List.toArray [.ref (ad 0), .int a1]) s 0 0 A) (F0 m 19 ls []) := by
        intro n19
        induction n19 with
        | zero => intro v19_5 v19_6 H locs ls w9 r10 t11 r12 t13 r14 r15 t16 r17 t18 hm19 hw hT hF hl; omega
        | succ n19 ih19 =>
          intro v19_5 v19_6 H locs ls w9 r10 t11 r12 t13 r14 r15 t16 r17 t18 hm19 hw hT hF hl
          refine lv_iload hx hb dX12_cheapOf_19 (lv_at hl 6 rfl) ?_
          refine lv_bipush (v := 7) hx hb dX12_cheapOf_21 (by decide) ?_
          refine lv_icmp_ge (tgt := 56) hx hb dX12_cheapOf_23 (by decide) (fun c19 => ?_) (fun c19 => ?_)
          · have c19 : (7 : Int) ≤ v19_6.toInt := wk_le.mp c19
            refine lv_iload hx hb dX12_cheapOf_56 (lv_at hl 5 rfl) ?_
            refine lv_iload_n hx hb dX12_cheapOf_58 rfl (lv_at hl 3 rfl) ?_
            refine lv_icmp_le (tgt := 67) hx hb dX12_cheapOf_59 (by decide) (fun c20 => ?_) (fun c20 => ?_)
            · have c20 : v19_5.toInt ≤ v7_3.toInt := wk_le.mp c20
              refine lv_iload_n hx hb dX12_cheapOf_67 rfl (lv_at hl 2 rfl) ?_
              refine lv_istore_n (lv' := [(2, .int v7_2), (0, .ref (ad 0)), (1, .int a1), (3, .int v7_3), (4, .int v7_4), (5, .int v19_5), (6, .int v19_6)]) hx hb dX12_cheapOf_68 rfl hl (by decide) rfl (fun ls hl => ?_)
              refine lv_iload hx hb dX12_cheapOf_69 (lv_at hl 5 rfl) ?_
              refine lv_iload_n hx hb dX12_cheapOf_71 rfl (lv_at hl 3 rfl) ?_
              refine lv_icmp_le (tgt := 80) hx hb dX12_cheapOf_72 (by decide) (fun c21 => ?_) (fun c21 => ?_)
              · have c21 : v19_5.toInt ≤ v7_3.toInt := wk_le.mp c21
                refine lv_iload_n hx hb dX12_cheapOf_80 rfl (lv_at hl 3 rfl) ?_
                refine lv_istore_n (lv' := [(3, .int v7_3), (2, .int v7_2), (0, .ref (ad 0)), (1, .int a1), (4, .int v7_4), (5, .int v19_5), (6, .int v19_6)]) hx hb dX12_cheapOf_81 rfl hl (by decide) rfl (fun ls hl => ?_)
                obtain ⟨x22, ex22⟩ : ∃ y : Int32, y = v7_4 + Int32.ofInt 1 := ⟨_, rfl⟩
                refine lv_iinc (v := x22) (lv' := [(4, .int x22), (3, .int v7_3), (2, .int v7_2), (0, .ref (ad 0)), (1, .int a1), (5, .int v19_5), (6, .int v19_6)]) hx hb dX12_cheapOf_82 hl (k := 4) rfl ex22.symm (by decide) rfl (fun ls hl => ?_)
                have ex22 : x22.toInt = v7_4.toInt + 1 := by rw [ex22]; exact wk_add (y := 1) (show -2147483648 ≤ v7_4.toInt + 1 by omega) (show v7_4.toInt + 1 ≤ 2147483647 by omega)
                refine lv_goto (tgt := 7) hx hb dX12_cheapOf_85 (by decide) ?_
                exact ih7 v7_2 v7_3 x22 H locs ls w9 (show 0 ≤ a1.toInt by omega) (show a1.toInt ≤ 11 by omega) (show 0 ≤ v7_2.toInt by omega) (show v7_2.toInt ≤ 3 by omega) (show (-1) ≤ v7_3.toInt by omega) (show 0 ≤ x22.toInt by omega) (show x22.toInt ≤ 4 by omega) (show (4 - x22.toInt).toNat < n7 by omega) hw hT hF  (lv_sub hl [3, 4, 2, 1, 0] rfl)
              · have c21 : v7_3.toInt < v19_5.toInt := wk_leF c21
                refine lv_iload hx hb dX12_cheapOf_75 (lv_at hl 5 rfl) ?_
                refine lv_goto (tgt := 81) hx hb dX12_cheapOf_77 (by decide) ?_
                refine lv_istore_n (lv' := [(3, .int v19_5), (2, .int v7_2), (0, .ref (ad 0)), (1, .int a1), (4, .int v7_4), (5, .int v19_5), (6, .int v19_6)]) hx hb dX12_cheapOf_81 rfl hl (by decide) rfl (fun ls hl => ?_)
                obtain ⟨x23, ex23⟩ : ∃ y : Int32, y = v7_4 + Int32.ofInt 1 := ⟨_, rfl⟩
                refine lv_iinc (v := x23) (lv' := [(4, .int x23), (3, .int v19_5), (2, .int v7_2), (0, .ref (ad 0)), (1, .int a1), (5, .int v19_5), (6, .int v19_6)]) hx hb dX12_cheapOf_82 hl (k := 4) rfl ex23.symm (by decide) rfl (fun ls hl => ?_)
                have ex23 : x23.toInt = v7_4.toInt + 1 := by rw [ex23]; exact wk_add (y := 1) (show -2147483648 ≤ v7_4.toInt + 1 by omega) (show v7_4.toInt + 1 ≤ 2147483647 by omega)
                refine lv_goto (tgt := 7) hx hb dX12_cheapOf_85 (by decide) ?_
                exact ih7 v7_2 v19_5 x23 H locs ls w9 (show 0 ≤ a1.toInt by omega) (show a1.toInt ≤ 11 by omega) (show 0 ≤ v7_2.toInt by omega) (show v7_2.toInt ≤ 3 by omega) (show (-1) ≤ v19_5.toInt by omega) (show 0 ≤ x23.toInt by omega) (show x23.toInt ≤ 4 by omega) (show (4 - x23.toInt).toNat < n7 by omega) hw hT hF  (lv_sub hl [3, 4, 2, 1, 0] rfl)
            · have c20 : v7_3.toInt < v19_5.toInt := wk_leF c20
              refine lv_iload hx hb dX12_cheapOf_62 (lv_at hl 4 rfl) ?_
              refine lv_goto (tgt := 68) hx hb dX12_cheapOf_64 (by decide) ?_
              refine lv_istore_n (lv' := [(2, .int v7_4), (0, .ref (ad 0)), (1, .int a1), (3, .int v7_3), (4, .int v7_4), (5, .int v19_5), (6, .int v19_6)]) hx hb dX12_cheapOf_68 rfl hl (by decide) rfl (fun ls hl => ?_)
              refine lv_iload hx hb dX12_cheapOf_69 (lv_at hl 5 rfl) ?_
              refine lv_iload_n hx hb dX12_cheapOf_71 rfl (lv_at hl 3 rfl) ?_
              refine lv_icmp_le (tgt := 80) hx hb dX12_cheapOf_72 (by decide) (fun c24 => ?_) (fun c24 => ?_)
              · have c24 : v19_5.toInt ≤ v7_3.toInt := wk_le.mp c24
                refine lv_iload_n hx hb dX12_cheapOf_80 rfl (lv_at hl 3 rfl) ?_
                refine lv_istore_n (lv' := [(3, .int v7_3), (2, .int v7_4), (0, .ref (ad 0)), (1, .int a1), (4, .int v7_4), (5, .int v19_5), (6, .int v19_6)]) hx hb dX12_cheapOf_81 rfl hl (by decide) rfl (fun ls hl => ?_)
                obtain ⟨x25, ex25⟩ : ∃ y : Int32, y = v7_4 + Int32.ofInt 1 := ⟨_, rfl⟩
                refine lv_iinc (v := x25) (lv' := [(4, .int x25), (3, .int v7_3), (2, .int v7_4), (0, .ref (ad 0)), (1, .int a1), (5, .int v19_5), (6, .int v19_6)]) hx hb dX12_cheapOf_82 hl (k := 4) rfl ex25.symm (by decide) rfl (fun ls hl => ?_)
                have ex25 : x25.toInt = v7_4.toInt + 1 := by rw [ex25]; exact wk_add (y := 1) (show -2147483648 ≤ v7_4.toInt + 1 by omega) (show v7_4.toInt + 1 ≤ 2147483647 by omega)
                refine lv_goto (tgt := 7) hx hb dX12_cheapOf_85 (by decide) ?_
                exact ih7 v7_4 v7_3 x25 H locs ls w9 (show 0 ≤ a1.toInt by omega) (show a1.toInt ≤ 11 by omega) (show 0 ≤ v7_4.toInt by omega) (show v7_4.toInt ≤ 3 by omega) (show (-1) ≤ v7_3.toInt by omega) (show 0 ≤ x25.toInt by omega) (show x25.toInt ≤ 4 by omega) (show (4 - x25.toInt).toNat < n7 by omega) hw hT hF  (lv_sub hl [3, 4, 2, 1, 0] rfl)
              · have c24 : v7_3.toInt < v19_5.toInt := wk_leF c24
                refine lv_iload hx hb dX12_cheapOf_75 (lv_at hl 5 rfl) ?_
                refine lv_goto (tgt := 81) hx hb dX12_cheapOf_77 (by decide) ?_
                refine lv_istore_n (lv' := [(3, .int v19_5), (2, .int v7_4), (0, .ref (ad 0)), (1, .int a1), (4, .int v7_4), (5, .int v19_5), (6, .int v19_6)]) hx hb dX12_cheapOf_81 rfl hl (by decide) rfl (fun ls hl => ?_)
                obtain ⟨x26, ex26⟩ : ∃ y : Int32, y = v7_4 + Int32.ofInt 1 := ⟨_, rfl⟩
                refine lv_iinc (v := x26) (lv' := [(4, .int x26), (3, .int v19_5), (2, .int v7_4), (0, .ref (ad 0)), (1, .int a1), (5, .int v19_5), (6, .int v19_6)]) hx hb dX12_cheapOf_82 hl (k := 4) rfl ex26.symm (by decide) rfl (fun ls hl => ?_)
                have ex26 : x26.toInt = v7_4.toInt + 1 := by rw [ex26]; exact wk_add (y := 1) (show -2147483648 ≤ v7_4.toInt + 1 by omega) (show v7_4.toInt + 1 ≤ 2147483647 by omega)
                refine lv_goto (tgt := 7) hx hb dX12_cheapOf_85 (by decide) ?_
                exact ih7 v7_4 v19_5 x26 H locs ls w9 (show 0 ≤ a1.toInt by omega) (show a1.toInt ≤ 11 by omega) (show 0 ≤ v7_4.toInt by omega) (show v7_4.toInt ≤ 3 by omega) (show (-1) ≤ v19_5.toInt by omega) (show 0 ≤ x26.toInt by omega) (show x26.toInt ≤ 4 by omega) (show (4 - x26.toInt).toNat < n7 by omega) hw hT hF  (lv_sub hl [3, 4, 2, 1, 0] rfl)
          · have c19 : v19_6.toInt < (7 : Int) := wk_leF c19
            refine lv_iload hx hb dX12_cheapOf_26 (lv_at hl 5 rfl) ?_
            refine lv_aload_n hx hb dX12_cheapOf_28 rfl (lv_at hl 0 rfl) ?_
            refine lv_iload_n hx hb dX12_cheapOf_29 rfl (lv_at hl 1 rfl) ?_
            refine lv_iconst (v := 3) hx hb dX12_cheapOf_30 (by decide) ?_
            refine lv_iload hx hb dX12_cheapOf_31 (lv_at hl 6 rfl) ?_
            refine lv_iadd hx hb dX12_cheapOf_33 ?_
            refine lv_topi (fun x27 ex27 => ?_)
            have ex27 : x27.toInt = (3 : Int) + v19_6.toInt := by rw [ex27]; exact wk_add (show (-2147483648) ≤ (3 : Int) + v19_6.toInt by omega) (show (3 : Int) + v19_6.toInt ≤ 2147483647 by omega)
            refine tk_Vi hC hK hw hT hA hE hSR kM_at0 (by decide) rfl (k_X12_streetOf_4 l adK adV dC dI cy ad B (by omega) (by omega) qr s1   a1 (show 0 ≤ a1.toInt by omega) (show a1.toInt ≤ 11 by omega) x27 (show 3 ≤ x27.toInt by omega) (show x27.toInt ≤ 9 by omega) w9 H.size hT ) (cwV 2 hC.2.2.2.2 gX12_cheapOf_X12_streetOf rfl rfl rfl (by decide +kernel) ⟨Nat.le_of_ble_eq_true rfl, Nat.le_of_ble_eq_true rfl⟩) rfl hl.1 rfl (Nat.le_of_ble_eq_true rfl) dX12_cheapOf_34 (fun r28 w30 H locs hp29 hw => ?_)
            obtain ⟨hT, k31, hg34⟩ := hp29
            have hF := hF.tr k31 (by decide)
            obtain ⟨g32, g33⟩ := hg34
            refine lv_iload hx hb dX12_cheapOf_37 (lv_at hl 4 rfl) ?_
            refine lv_icmp_ne (tgt := 46) hx hb dX12_cheapOf_39 (by decide) (fun c35 => ?_) (fun c35 => ?_)
            · have c35 : ¬ r28.toInt = v7_4.toInt := wk_eqF c35
              refine lv_iconst (v := 0) hx hb dX12_cheapOf_46 (by decide) ?_
              refine lv_iadd hx hb dX12_cheapOf_47 ?_
              have nx36 := wk_i32 v19_5
              refine lv_topi (fun x37 ex37 => ?_)
              have ex37 : x37.toInt = v19_5.toInt + (0 : Int) := by rw [ex37]; exact wk_add (show (-2147483648) ≤ v19_5.toInt + (0 : Int) by omega) (show v19_5.toInt + (0 : Int) ≤ 2147483647 by omega)
              refine lv_istore (lv' := [(5, .int x37), (0, .ref (ad 0)), (1, .int a1), (2, .int v7_2), (3, .int v7_3), (4, .int v7_4), (6, .int v19_6)]) hx hb dX12_cheapOf_48 hl (by decide) rfl (fun ls hl => ?_)
              obtain ⟨x38, ex38⟩ : ∃ y : Int32, y = v19_6 + Int32.ofInt 1 := ⟨_, rfl⟩
              refine lv_iinc (v := x38) (lv' := [(6, .int x38), (5, .int x37), (0, .ref (ad 0)), (1, .int a1), (2, .int v7_2), (3, .int v7_3), (4, .int v7_4)]) hx hb dX12_cheapOf_50 hl (k := 6) rfl ex38.symm (by decide) rfl (fun ls hl => ?_)
              have ex38 : x38.toInt = v19_6.toInt + 1 := by rw [ex38]; exact wk_add (y := 1) (show -2147483648 ≤ v19_6.toInt + 1 by omega) (show v19_6.toInt + 1 ≤ 2147483647 by omega)
              refine lv_goto (tgt := 19) hx hb dX12_cheapOf_53 (by decide) ?_
              exact ih19 x37 x38 H locs ls w30 (show 0 ≤ a1.toInt by omega) (show a1.toInt ≤ 11 by omega) (show 0 ≤ v7_2.toInt by omega) (show v7_2.toInt ≤ 3 by omega) (show (-1) ≤ v7_3.toInt by omega) (show 0 ≤ v7_4.toInt by omega) (show v7_4.toInt ≤ 3 by omega) (show 0 ≤ x38.toInt by omega) (show x38.toInt ≤ 7 by omega) (show (7 - x38.toInt).toNat < n19 by omega) hw hT hF  (lv_sub hl [2, 3, 4, 5, 6, 1, 0] rfl)
            · have c35 : r28.toInt = v7_4.toInt := wk_eq.mp c35
              refine lv_iconst (v := 1) hx hb dX12_cheapOf_42 (by decide) ?_
              refine lv_goto (tgt := 47) hx hb dX12_cheapOf_43 (by decide) ?_
              refine lv_iadd hx hb dX12_cheapOf_47 ?_
              have nx39 := wk_i32 v19_5
              refine lv_topi (fun x40 ex40 => ?_)
              refine lv_istore (lv' := [(5, .int x40), (0, .ref (ad 0)), (1, .int a1), (2, .int v7_2), (3, .int v7_3), (4, .int v7_4), (6, .int v19_6)]) hx hb dX12_cheapOf_48 hl (by decide) rfl (fun ls hl => ?_)
              obtain ⟨x41, ex41⟩ : ∃ y : Int32, y = v19_6 + Int32.ofInt 1 := ⟨_, rfl⟩
              refine lv_iinc (v := x41) (lv' := [(6, .int x41), (5, .int x40), (0, .ref (ad 0)), (1, .int a1), (2, .int v7_2), (3, .int v7_3), (4, .int v7_4)]) hx hb dX12_cheapOf_50 hl (k := 6) rfl ex41.symm (by decide) rfl (fun ls hl => ?_)
              have ex41 : x41.toInt = v19_6.toInt + 1 := by rw [ex41]; exact wk_add (y := 1) (show -2147483648 ≤ v19_6.toInt + 1 by omega) (show v19_6.toInt + 1 ≤ 2147483647 by omega)
              refine lv_goto (tgt := 19) hx hb dX12_cheapOf_53 (by decide) ?_
              exact ih19 x40 x41 H locs ls w30 (show 0 ≤ a1.toInt by omega) (show a1.toInt ≤ 11 by omega) (show 0 ≤ v7_2.toInt by omega) (show v7_2.toInt ≤ 3 by omega) (show (-1) ≤ v7_3.toInt by omega) (show 0 ≤ v7_4.toInt by omega) (show v7_4.toInt ≤ 3 by omega) (show 0 ≤ x41.toInt by omega) (show x41.toInt ≤ 7 by omega) (show (7 - x41.toInt).toNat < n19 by omega) hw hT hF  (lv_sub hl [2, 3, 4, 5, 6, 1, 0] rfl)
      refine lv_iload hx hb dX12_cheapOf_7 (lv_at hl 4 rfl) ?_
      refine lv_iconst (v := 4) hx hb dX12_cheapOf_9 (by decide) ?_
      refine lv_icmp_ge (tgt := 88) hx hb dX12_cheapOf_10 (by decide) (fun c42 => ?_) (fun c42 => ?_)
      · have c42 : (4 : Int) ≤ v7_4.toInt := wk_le.mp c42
        refine lv_iload_n hx hb dX12_cheapOf_88 rfl (lv_at hl 2 rfl) ?_
        exact tk_iret hC hr hlocks hK ⟨hT, hF, ⟨(show 0 ≤ v7_2.toInt by omega), (show v7_2.toInt ≤ 3 by omega)⟩⟩ hw dX12_cheapOf_89
      · have c42 : v7_4.toInt < (4 : Int) := wk_leF c42
        refine lv_iconst (v := 0) hx hb dX12_cheapOf_13 (by decide) ?_
        refine lv_istore (lv' := [(5, .int 0), (0, .ref (ad 0)), (1, .int a1), (2, .int v7_2), (3, .int v7_3), (4, .int v7_4)]) hx hb dX12_cheapOf_14 hl (by decide) rfl (fun ls hl => ?_)
        refine lv_iconst (v := 0) hx hb dX12_cheapOf_16 (by decide) ?_
        refine lv_istore (lv' := [(6, .int 0), (5, .int 0), (0, .ref (ad 0)), (1, .int a1), (2, .int v7_2), (3, .int v7_3), (4, .int v7_4)]) hx hb dX12_cheapOf_17 hl (by decide) rfl (fun ls hl => ?_)
        exact L19 ((7 - (0 : Int)).toNat + 1) 0 0 H locs ls w1 (show 0 ≤ a1.toInt by omega) (show a1.toInt ≤ 11 by omega) (show 0 ≤ v7_2.toInt by omega) (show v7_2.toInt ≤ 3 by omega) (show (-1) ≤ v7_3.toInt by omega) (show 0 ≤ v7_4.toInt by omega) (show v7_4.toInt ≤ 3 by omega) (by decide) (by decide) (Nat.lt_succ_self _) hw hT hF  (lv_sub hl [2, 3, 4, 5, 6, 1, 0] rfl)
  refine lv_iconst (v := 0) hx hb dX12_cheapOf_0 (by decide) ?_
  refine lv_istore_n (lv' := [(2, .int 0), (0, .ref (ad 0)), (1, .int a1)]) hx hb dX12_cheapOf_1 rfl hl (by decide) rfl (fun ls hl => ?_)
  refine lv_iconst (v := (-1)) hx hb dX12_cheapOf_2 (by decide) ?_
  refine lv_istore_n (lv' := [(3, .int (-1)), (2, .int 0), (0, .ref (ad 0)), (1, .int a1)]) hx hb dX12_cheapOf_3 rfl hl (by decide) rfl (fun ls hl => ?_)
  refine lv_iconst (v := 0) hx hb dX12_cheapOf_4 (by decide) ?_
  refine lv_istore (lv' := [(4, .int 0), (3, .int (-1)), (2, .int 0), (0, .ref (ad 0)), (1, .int a1)]) hx hb dX12_cheapOf_5 hl (by decide) rfl (fun ls hl => ?_)
  exact L7 ((4 - (0 : Int)).toNat + 1) 0 (-1) 0 s.heap locs ls w0 (show 0 ≤ a1.toInt by omega) (show a1.toInt ≤ 11 by omega) (by decide) (by decide) (by decide) (by decide) (by decide) (Nat.lt_succ_self _) hw hT hF  (lv_sub hl [3, 4, 2, 1, 0] rfl)
abbrev P_X12_cheap_1 (ad : Nat → Nat) (cy : Nat → ClassId) (B : Int) (qr : Nat) (s1 : Int) (a1 : Int32) (w0 : va_W) : Int32 → va_W → Prop := fun r u => TW ksM ad cy B qr 12 u ∧ FE ksM ([] : List (Nat × Nat × Nat)) w0 u ∧ ((0 ≤ r.toInt ∧ r.toInt ≤ 3 ∧ 0 ≤ a1.toInt ∧ a1.toInt ≤ 11 ∧ (∃ y : Int32, gi u 12 1 = y ∧ 1 ≤ y.toInt ∧ y.toInt ≤ 12)) ∨ (r = (-1)))
set_option maxHeartbeats 4000000 in
set_option maxRecDepth 100000 in
theorem k_X12_cheap_1 (l : Launch) (adK adV : Nat → Nat) (dC : Nat → ClassId) (dI : Nat → Nat → Nat) (cy : Nat → ClassId) (ad : Nat → Nat) (B : Int) (hB0 : 100000 ≤ B) (hB1 : B ≤ 1073741824) (qr : Nat) (s1 : Int)  (a1 : Int32) (w0 : va_W) (sz : Nat) (hT : TW ksM ad cy B qr 12 w0)  : Met l yX12_cheap wsX12_cheap ({ frames := 3, cells := 0, slots := 0, locals := 60 }) (va_Pc [.ref (ad 0), .int a1] (wpreS adK adV dC dI cy sz w0)) (va_Qi (P_X12_cheap_1 ad cy B qr s1 a1 w0) (fun u : va_W => wpost dC dI cy (va_A w0 sz) u) (va_A w0 sz)) 0 0 (va_A w0 sz) := by
  refine Met.ofW (cc := cX12_cheap) (maxL := 2) (ret := (some .int)) (by decide) rfl ?_
  intro p e s m args below meth c s₁ Bk hml hv
  obtain ⟨rfl, ⟨hsz, hP, hK, hD0⟩, hE, hSR⟩ := hv
  have hx := Bk.exec
  have hb := Bk.bytes
  have hr := Bk.returns
  have hlocks := Bk.notSynchronized
  have hC : CallFix p m c cX12_cheap 2 s _ wsX12_cheap RX12 := ⟨hx, hb, hml, findClass_of_methodNamed Bk.named, atoms_spec (ws := wsX12_cheap) Bk.pre⟩
  subst hsz
  have hD := hD0.self (sz := s.heap.size)
  generalize hAe : va_A w0 s.heap.size = A at hD hE ⊢
  have hA : ∀ q : Nat, s.heap.size ≤ q → A q := fun q h => by rw [← hAe]; exact Or.inr h
  have hw : Wd dC dI A s.heap s.heap [] w0 := ⟨hP, hD, va_S.rf⟩
  have hF : FE ksM ([] : List (Nat × Nat × Nat)) w0 w0 := FE.rf
  have hl := lv_entry ([.ref (ad 0), .int a1]) (n := 2) (Nat.le_of_ble_eq_true rfl)
  rw [lg_entry_eq]
  generalize (lg_sl ([.ref (ad 0), .int a1]) ++ List.replicate (2 - (lg_sl ([.ref (ad 0), .int a1])).length) Slot.unset).toArray = ls at hl ⊢
  have hl : lv_has ls 2 [(0, .ref (ad 0)), (1, .int a1)] := hl
  generalize hloc : ([] : List Loc) = locs at hw ⊢
  refine lv_aload_n hx hb dX12_cheap_0 rfl (lv_at hl 0 rfl) ?_
  refine lv_iload_n hx hb dX12_cheap_1 rfl (lv_at hl 1 rfl) ?_
  refine tk_Vi hC hK hw hT hA hE hSR kM_at0 (by decide) rfl (k_X12_isStreet_1 l adK adV dC dI cy ad B (by omega) (by omega) qr s1   a1 w0 s.heap.size hT ) (cwV 1 hC.2.2.2.2 gX12_cheap_X12_isStreet rfl rfl rfl (by decide +kernel) ⟨Nat.le_of_ble_eq_true rfl, Nat.le_of_ble_eq_true rfl⟩) rfl hl.1 rfl (Nat.le_of_ble_eq_true rfl) dX12_cheap_2 (fun r1 w3 H locs hp2 hw => ?_)
  obtain ⟨hT, k4, hg9⟩ := hp2
  have hF := hF.tr k4 (by decide)
  rcases hg9 with rfl | ⟨rfl, g5, g6, ⟨x7, c8, rx7, tx7⟩⟩
  · refine lv_if_eq (tgt := 16) hx hb dX12_cheap_5 (by decide) (fun _ => ?_) (fun c => absurd (by decide) c)
    refine lv_iconst (v := (-1)) hx hb dX12_cheap_16 (by decide) ?_
    exact tk_iret hC hr hlocks hK ⟨hT, hF, (Or.inr rfl)⟩ hw dX12_cheap_17
  · refine lv_if_eq (tgt := 16) hx hb dX12_cheap_5 (by decide) (fun c => absurd c (by decide)) (fun _ => ?_)
    refine lv_aload_n hx hb dX12_cheap_8 rfl (lv_at hl 0 rfl) ?_
    refine lv_iload_n hx hb dX12_cheap_9 rfl (lv_at hl 1 rfl) ?_
    refine tk_Vi hC hK hw hT hA hE hSR kM_at0 (by decide) rfl (k_X12_cheapOf_1 l adK adV dC dI cy ad B (by omega) (by omega) qr s1   a1 (show 0 ≤ a1.toInt by omega) (show a1.toInt ≤ 11 by omega) w3 H.size hT ) (cwV 1 hC.2.2.2.2 gX12_cheap_X12_cheapOf rfl rfl rfl (by decide +kernel) ⟨Nat.le_of_ble_eq_true rfl, Nat.le_of_ble_eq_true rfl⟩) rfl hl.1 rfl (Nat.le_of_ble_eq_true rfl) dX12_cheap_10 (fun r10 w12 H locs hp11 hw => ?_)
    obtain ⟨hT, k13, hg16⟩ := hp11
    have hF := hF.tr k13 (by decide)
    have c17 := k13.gi kM_at12 (by decide) c8
    obtain ⟨g14, g15⟩ := hg16
    refine lv_goto (tgt := 17) hx hb dX12_cheap_13 (by decide) ?_
    exact tk_iret hC hr hlocks hK ⟨hT, hF, (Or.inl ⟨(show 0 ≤ r10.toInt by omega), (show r10.toInt ≤ 3 by omega), (show 0 ≤ a1.toInt by omega), (show a1.toInt ≤ 11 by omega), ⟨x7, c17, (show 1 ≤ x7.toInt by omega), (show x7.toInt ≤ 12 by omega)⟩⟩)⟩ hw dX12_cheap_17
abbrev P_X12_wrong_1 (ad : Nat → Nat) (cy : Nat → ClassId) (B : Int) (qr : Nat) (s1 : Int) (a1 : Int32) (w0 : va_W) : Int32 → va_W → Prop := fun r u => TW ksM ad cy B qr 12 u ∧ FE ksM ([] : List (Nat × Nat × Nat)) w0 u ∧ ((0 ≤ a1.toInt ∧ a1.toInt ≤ 7 ∧ (∃ y : Int32, gi u 12 0 = y ∧ 1 ≤ y.toInt ∧ y.toInt ≤ 10)) ∨ (r = (-1)))
set_option maxHeartbeats 4000000 in
set_option maxRecDepth 100000 in
theorem k_X12_wrong_1 (l : Launch) (adK adV : Nat → Nat) (dC : Nat → ClassId) (dI : Nat → Nat → Nat) (cy : Nat → ClassId) (ad : Nat → Nat) (B : Int) (hB0 : 100000 ≤ B) (hB1 : B ≤ 1073741824) (qr : Nat) (s1 : Int)  (a1 : Int32) (w0 : va_W) (sz : Nat) (hT : TW ksM ad cy B qr 12 w0)  : Met l yX12_wrong wsX12_wrong ({ frames := 3, cells := 0, slots := 0, locals := 60 }) (va_Pc [.ref (ad 0), .int a1] (wpreS adK adV dC dI cy sz w0)) (va_Qi (P_X12_wrong_1 ad cy B qr s1 a1 w0) (fun u : va_W => wpost dC dI cy (va_A w0 sz) u) (va_A w0 sz)) 0 0 (va_A w0 sz) := by
  refine Met.ofW (cc := cX12_wrong) (maxL := 5) (ret := (some .int)) (by decide) rfl ?_
  intro p e s m args below meth c s₁ Bk hml hv
  obtain ⟨rfl, ⟨hsz, hP, hK, hD0⟩, hE, hSR⟩ := hv
  have hx := Bk.exec
  have hb := Bk.bytes
  have hr := Bk.returns
  have hlocks := Bk.notSynchronized
  have hC : CallFix p m c cX12_wrong 5 s _ wsX12_wrong RX12 := ⟨hx, hb, hml, findClass_of_methodNamed Bk.named, atoms_spec (ws := wsX12_wrong) Bk.pre⟩
  subst hsz
  have hD := hD0.self (sz := s.heap.size)
  generalize hAe : va_A w0 s.heap.size = A at hD hE ⊢
  have hA : ∀ q : Nat, s.heap.size ≤ q → A q := fun q h => by rw [← hAe]; exact Or.inr h
  have hw : Wd dC dI A s.heap s.heap [] w0 := ⟨hP, hD, va_S.rf⟩
  have hF : FE ksM ([] : List (Nat × Nat × Nat)) w0 w0 := FE.rf
  have hl := lv_entry ([.ref (ad 0), .int a1]) (n := 5) (Nat.le_of_ble_eq_true rfl)
  rw [lg_entry_eq]
  generalize (lg_sl ([.ref (ad 0), .int a1]) ++ List.replicate (5 - (lg_sl ([.ref (ad 0), .int a1])).length) Slot.unset).toArray = ls at hl ⊢
  have hl : lv_has ls 5 [(0, .ref (ad 0)), (1, .int a1)] := hl
  generalize hloc : ([] : List Loc) = locs at hw ⊢
  have hinX12 : ∀ w ∈ u_ws RX12 TX12 42, w ∈ wsX12_wrong := fun _ h => List.mem_cons_of_mem _ (List.mem_append_right _ (h))
  have J19 : ∀ (f19_12_0 : Int32) (H : Heap) (locs : List Loc) (ls : Array Slot) (w1 : va_W), 0 ≤ f19_12_0.toInt → f19_12_0.toInt ≤ 10 → Wd dC dI A s.heap H locs w1 → TW ksM ad cy B qr 12 w1 → FE ksM ([] : List (Nat × Nat × Nat)) w0 w1 → gi w1 12 0 = f19_12_0 → lv_has ls 5 [(0, .ref (ad 0)), (1, .int a1)] → W p l e ({ frames := 3, cells := 0, slots := 0, locals := 60 }) s m (List.toArray [.ref (ad 0), .int a1]) below meth c H locs 0 0 (MQ below (va_Qi (P_X12_wrong_1 ad cy B qr s1 a1 w0) (fun u : va_W => wpost dC dI cy A u) A) (List.toArray [.ref (ad 0), .int a1]) s 0 0 A) (F0 m 19 ls []) := by
    intro f19_12_0 H locs ls w1 r2 t3 hw hT hF c4 hl
    refine lv_iconst (v := (-1)) hx hb dX12_wrong_19 (by decide) ?_
    exact tk_iret hC hr hlocks hK ⟨hT, hF, (Or.inr rfl)⟩ hw dX12_wrong_20
  have L25 : ∀ (n25 : Nat) (v25_2 : Int32) (v25_3 : Int32) (f25_12_0 : Int32) (H : Heap) (locs : List Loc) (ls : Array Slot) (w5 : va_W), 0 ≤ a1.toInt → a1.toInt ≤ 7 → 0 ≤ v25_3.toInt → v25_3.toInt ≤ 12 → 1 ≤ f25_12_0.toInt → f25_12_0.toInt ≤ 10 → (12 - v25_3.toInt).toNat < n25 → Wd dC dI A s.heap H locs w5 → TW ksM ad cy B qr 12 w5 → FE ksM ([] : List (Nat × Nat × Nat)) w0 w5 → gi w5 12 0 = f25_12_0 → lv_has ls 5 [(0, .ref (ad 0)), (1, .int a1), (2, .int v25_2), (3, .int v25_3)] → W p l e ({ frames := 3, cells := 0, slots := 0, locals := 60 }) s m (List.toArray [.ref (ad 0), .int a1]) below meth c H locs 0 0 (MQ below (va_Qi (P_X12_wrong_1 ad cy B qr s1 a1 w0) (fun u : va_W => wpost dC dI cy A u) A) (List.toArray [.ref (ad 0), .int a1]) s 0 0 A) (F0 m 25 ls []) := by
    intro n25
    induction n25 with
    | zero => intro v25_2 v25_3 f25_12_0 H locs ls w5 r6 t7 r8 t9 r10 t11 hm25 hw hT hF c12 hl; omega
    | succ n25 ih25 =>
      intro v25_2 v25_3 f25_12_0 H locs ls w5 r6 t7 r8 t9 r10 t11 hm25 hw hT hF c12 hl
      have L38 : ∀ (n38 : Nat) (v38_2 : Int32) (v38_4 : Int32) (f38_12_1 : Int32) (H : Heap) (locs : List Loc) (ls : Array Slot) (w13 : va_W), 0 ≤ a1.toInt → a1.toInt ≤ 7 → 0 ≤ v25_3.toInt → v25_3.toInt ≤ 11 → 0 ≤ v38_4.toInt → v38_4.toInt ≤ 7 → 1 ≤ f25_12_0.toInt → f25_12_0.toInt ≤ 10 → 1 ≤ f38_12_1.toInt → f38_12_1.toInt ≤ 12 → (7 - v38_4.toInt).toNat < n38 → Wd dC dI A s.heap H locs w13 → TW ksM ad cy B qr 12 w13 → FE ksM ([] : List (Nat × Nat × Nat)) w0 w13 → gi w13 12 0 = f25_12_0 → gi w13 12 1 = f38_12_1 → lv_has ls 5 [(0, .ref (ad 0)), (1, .int a1), (2, .int v38_2), (3, .int v25_3), (4, .int v38_4)] → W p l e ({ frames := 3, cells := 0, slots := 0, locals := 60 }) s m (List.toArray [.ref (ad 0), .int a1]) below meth c H locs 0 0 (MQ below (va_Qi (P_X12_wrong_1 ad cy B qr s1 a1 w0) (fun u : va_W => wpost dC dI cy A u) A) (List.toArray [.ref (ad 0), .int a1]) s 0 0 A) (F0 m 38 ls []) := by
        intro n38
        induction n38 with
        | zero => intro v38_2 v38_4 f38_12_1 H locs ls w13 r14 t15 r16 t17 r18 t19 r20 t21 r23 t24 hm38 hw hT hF c22 c25 hl; omega
        | succ n38 ih38 =>
          intro v38_2 v38_4 f38_12_1 H locs ls w13 r14 t15 r16 t17 r18 t19 r20 t21 r23 t24 hm38 hw hT hF c22 c25 hl
          refine lv_iload hx hb dX12_wrong_38 (lv_at hl 4 rfl) ?_
          refine lv_bipush (v := 7) hx hb dX12_wrong_40 (by decide) ?_
          refine lv_icmp_ge (tgt := 88) hx hb dX12_wrong_42 (by decide) (fun c26 => ?_) (fun c26 => ?_)
          · have c26 : (7 : Int) ≤ v38_4.toInt := wk_le.mp c26
            obtain ⟨x27, ex27⟩ : ∃ y : Int32, y = v25_3 + Int32.ofInt 1 := ⟨_, rfl⟩
            refine lv_iinc (v := x27) (lv' := [(3, .int x27), (0, .ref (ad 0)), (1, .int a1), (2, .int v38_2), (4, .int v38_4)]) hx hb dX12_wrong_88 hl (k := 3) rfl ex27.symm (by decide) rfl (fun ls hl => ?_)
            have ex27 : x27.toInt = v25_3.toInt + 1 := by rw [ex27]; exact wk_add (y := 1) (show -2147483648 ≤ v25_3.toInt + 1 by omega) (show v25_3.toInt + 1 ≤ 2147483647 by omega)
            refine lv_goto (tgt := 25) hx hb dX12_wrong_91 (by decide) ?_
            exact ih25 v38_2 x27 f25_12_0 H locs ls w13 (show 0 ≤ a1.toInt by omega) (show a1.toInt ≤ 7 by omega) (show 0 ≤ x27.toInt by omega) (show x27.toInt ≤ 12 by omega) (show 1 ≤ f25_12_0.toInt by omega) (show f25_12_0.toInt ≤ 10 by omega) (show (12 - x27.toInt).toNat < n25 by omega) hw hT hF c22 (lv_sub hl [1, 2, 3, 0] rfl)
          · have c26 : v38_4.toInt < (7 : Int) := wk_leF c26
            refine lv_iload_n hx hb dX12_wrong_45 rfl (lv_at hl 2 rfl) ?_
            refine lv_iload_n hx hb dX12_wrong_46 rfl (lv_at hl 1 rfl) ?_
            refine lv_bipush (v := 7) hx hb dX12_wrong_47 (by decide) ?_
            refine lv_icmp_eq (tgt := 58) hx hb dX12_wrong_49 (by decide) (fun c28 => ?_) (fun c28 => ?_)
            · have c28 : a1.toInt = (7 : Int) := wk_eq.mp c28
              refine lv_aload_n hx hb dX12_wrong_58 rfl (lv_at hl 0 rfl) ?_
              refine lv_iload_n hx hb dX12_wrong_59 rfl (lv_at hl 3 rfl) ?_
              refine lv_iconst (v := 3) hx hb dX12_wrong_60 (by decide) ?_
              refine lv_iload hx hb dX12_wrong_61 (lv_at hl 4 rfl) ?_
              refine lv_iadd hx hb dX12_wrong_63 ?_
              refine lv_topi (fun x29 ex29 => ?_)
              have ex29 : x29.toInt = (3 : Int) + v38_4.toInt := by rw [ex29]; exact wk_add (show (-2147483648) ≤ (3 : Int) + v38_4.toInt by omega) (show (3 : Int) + v38_4.toInt ≤ 2147483647 by omega)
              refine tk_Vi hC hK hw hT hA hE hSR kM_at0 (by decide) rfl (k_X12_streetOf_4 l adK adV dC dI cy ad B (by omega) (by omega) qr s1   v25_3 (show 0 ≤ v25_3.toInt by omega) (show v25_3.toInt ≤ 11 by omega) x29 (show 3 ≤ x29.toInt by omega) (show x29.toInt ≤ 9 by omega) w13 H.size hT ) (cwV 2 hC.2.2.2.2 gX12_wrong_X12_streetOf rfl rfl rfl (by decide +kernel) ⟨Nat.le_of_ble_eq_true rfl, Nat.le_of_ble_eq_true rfl⟩) rfl hl.1 rfl (Nat.le_of_ble_eq_true rfl) dX12_wrong_64 (fun r30 w32 H locs hp31 hw => ?_)
              obtain ⟨hT, k33, hg36⟩ := hp31
              have hF := hF.tr k33 (by decide)
              have c37 := k33.gi kM_at12 (by decide) c22
              have c38 := k33.gi kM_at12 (by decide) c25
              obtain ⟨g34, g35⟩ := hg36
              refine lv_aload_n hx hb dX12_wrong_67 rfl (lv_at hl 0 rfl) ?_
              refine lv_iload_n hx hb dX12_wrong_68 rfl (lv_at hl 3 rfl) ?_
              refine tk_Vi hC hK hw hT hA hE hSR kM_at0 (by decide) rfl (k_X12_cheapOf_1 l adK adV dC dI cy ad B (by omega) (by omega) qr s1   v25_3 (show 0 ≤ v25_3.toInt by omega) (show v25_3.toInt ≤ 11 by omega) w32 H.size hT ) (cwV 1 hC.2.2.2.2 gX12_wrong_X12_cheapOf rfl rfl rfl (by decide +kernel) ⟨Nat.le_of_ble_eq_true rfl, Nat.le_of_ble_eq_true rfl⟩) rfl hl.1 rfl (Nat.le_of_ble_eq_true rfl) dX12_wrong_69 (fun r39 w41 H locs hp40 hw => ?_)
              obtain ⟨hT, k42, hg45⟩ := hp40
              have hF := hF.tr k42 (by decide)
              have c46 := k42.gi kM_at12 (by decide) c37
              have c47 := k42.gi kM_at12 (by decide) c38
              obtain ⟨g43, g44⟩ := hg45
              refine lv_icmp_eq (tgt := 79) hx hb dX12_wrong_72 (by decide) (fun c48 => ?_) (fun c48 => ?_)
              · have c48 : r30.toInt = r39.toInt := wk_eq.mp c48
                refine lv_iconst (v := 0) hx hb dX12_wrong_79 (by decide) ?_
                refine lv_iadd hx hb dX12_wrong_80 ?_
                have nx49 := wk_i32 v38_2
                refine lv_topi (fun x50 ex50 => ?_)
                have ex50 : x50.toInt = v38_2.toInt + (0 : Int) := by rw [ex50]; exact wk_add (show (-2147483648) ≤ v38_2.toInt + (0 : Int) by omega) (show v38_2.toInt + (0 : Int) ≤ 2147483647 by omega)
                refine lv_istore_n (lv' := [(2, .int x50), (0, .ref (ad 0)), (1, .int a1), (3, .int v25_3), (4, .int v38_4)]) hx hb dX12_wrong_81 rfl hl (by decide) rfl (fun ls hl => ?_)
                obtain ⟨x51, ex51⟩ : ∃ y : Int32, y = v38_4 + Int32.ofInt 1 := ⟨_, rfl⟩
                refine lv_iinc (v := x51) (lv' := [(4, .int x51), (2, .int x50), (0, .ref (ad 0)), (1, .int a1), (3, .int v25_3)]) hx hb dX12_wrong_82 hl (k := 4) rfl ex51.symm (by decide) rfl (fun ls hl => ?_)
                have ex51 : x51.toInt = v38_4.toInt + 1 := by rw [ex51]; exact wk_add (y := 1) (show -2147483648 ≤ v38_4.toInt + 1 by omega) (show v38_4.toInt + 1 ≤ 2147483647 by omega)
                refine lv_goto (tgt := 38) hx hb dX12_wrong_85 (by decide) ?_
                exact ih38 x50 x51 f38_12_1 H locs ls w41 (show 0 ≤ a1.toInt by omega) (show a1.toInt ≤ 7 by omega) (show 0 ≤ v25_3.toInt by omega) (show v25_3.toInt ≤ 11 by omega) (show 0 ≤ x51.toInt by omega) (show x51.toInt ≤ 7 by omega) (show 1 ≤ f25_12_0.toInt by omega) (show f25_12_0.toInt ≤ 10 by omega) (show 1 ≤ f38_12_1.toInt by omega) (show f38_12_1.toInt ≤ 12 by omega) (show (7 - x51.toInt).toNat < n38 by omega) hw hT hF c46 c47 (lv_sub hl [2, 3, 1, 4, 0] rfl)
              · have c48 : ¬ r30.toInt = r39.toInt := wk_eqF c48
                refine lv_iconst (v := 1) hx hb dX12_wrong_75 (by decide) ?_
                refine lv_goto (tgt := 80) hx hb dX12_wrong_76 (by decide) ?_
                refine lv_iadd hx hb dX12_wrong_80 ?_
                have nx52 := wk_i32 v38_2
                refine lv_topi (fun x53 ex53 => ?_)
                refine lv_istore_n (lv' := [(2, .int x53), (0, .ref (ad 0)), (1, .int a1), (3, .int v25_3), (4, .int v38_4)]) hx hb dX12_wrong_81 rfl hl (by decide) rfl (fun ls hl => ?_)
                obtain ⟨x54, ex54⟩ : ∃ y : Int32, y = v38_4 + Int32.ofInt 1 := ⟨_, rfl⟩
                refine lv_iinc (v := x54) (lv' := [(4, .int x54), (2, .int x53), (0, .ref (ad 0)), (1, .int a1), (3, .int v25_3)]) hx hb dX12_wrong_82 hl (k := 4) rfl ex54.symm (by decide) rfl (fun ls hl => ?_)
                have ex54 : x54.toInt = v38_4.toInt + 1 := by rw [ex54]; exact wk_add (y := 1) (show -2147483648 ≤ v38_4.toInt + 1 by omega) (show v38_4.toInt + 1 ≤ 2147483647 by omega)
                refine lv_goto (tgt := 38) hx hb dX12_wrong_85 (by decide) ?_
                exact ih38 x53 x54 f38_12_1 H locs ls w41 (show 0 ≤ a1.toInt by omega) (show a1.toInt ≤ 7 by omega) (show 0 ≤ v25_3.toInt by omega) (show v25_3.toInt ≤ 11 by omega) (show 0 ≤ x54.toInt by omega) (show x54.toInt ≤ 7 by omega) (show 1 ≤ f25_12_0.toInt by omega) (show f25_12_0.toInt ≤ 10 by omega) (show 1 ≤ f38_12_1.toInt by omega) (show f38_12_1.toInt ≤ 12 by omega) (show (7 - x54.toInt).toNat < n38 by omega) hw hT hF c46 c47 (lv_sub hl [2, 3, 1, 4, 0] rfl)
            · have c28 : ¬ a1.toInt = (7 : Int) := wk_eqF c28
              refine lv_iload_n hx hb dX12_wrong_52 rfl (lv_at hl 1 rfl) ?_
              refine lv_iload hx hb dX12_wrong_53 (lv_at hl 4 rfl) ?_
              refine lv_icmp_ne (tgt := 79) hx hb dX12_wrong_55 (by decide) (fun c55 => ?_) (fun c55 => ?_)
              · have c55 : ¬ a1.toInt = v38_4.toInt := wk_eqF c55
                refine lv_iconst (v := 0) hx hb dX12_wrong_79 (by decide) ?_
                refine lv_iadd hx hb dX12_wrong_80 ?_
                have nx56 := wk_i32 v38_2
                refine lv_topi (fun x57 ex57 => ?_)
                have ex57 : x57.toInt = v38_2.toInt + (0 : Int) := by rw [ex57]; exact wk_add (show (-2147483648) ≤ v38_2.toInt + (0 : Int) by omega) (show v38_2.toInt + (0 : Int) ≤ 2147483647 by omega)
                refine lv_istore_n (lv' := [(2, .int x57), (0, .ref (ad 0)), (1, .int a1), (3, .int v25_3), (4, .int v38_4)]) hx hb dX12_wrong_81 rfl hl (by decide) rfl (fun ls hl => ?_)
                obtain ⟨x58, ex58⟩ : ∃ y : Int32, y = v38_4 + Int32.ofInt 1 := ⟨_, rfl⟩
                refine lv_iinc (v := x58) (lv' := [(4, .int x58), (2, .int x57), (0, .ref (ad 0)), (1, .int a1), (3, .int v25_3)]) hx hb dX12_wrong_82 hl (k := 4) rfl ex58.symm (by decide) rfl (fun ls hl => ?_)
                have ex58 : x58.toInt = v38_4.toInt + 1 := by rw [ex58]; exact wk_add (y := 1) (show -2147483648 ≤ v38_4.toInt + 1 by omega) (show v38_4.toInt + 1 ≤ 2147483647 by omega)
                refine lv_goto (tgt := 38) hx hb dX12_wrong_85 (by decide) ?_
                exact ih38 x57 x58 f38_12_1 H locs ls w13 (show 0 ≤ a1.toInt by omega) (show a1.toInt ≤ 7 by omega) (show 0 ≤ v25_3.toInt by omega) (show v25_3.toInt ≤ 11 by omega) (show 0 ≤ x58.toInt by omega) (show x58.toInt ≤ 7 by omega) (show 1 ≤ f25_12_0.toInt by omega) (show f25_12_0.toInt ≤ 10 by omega) (show 1 ≤ f38_12_1.toInt by omega) (show f38_12_1.toInt ≤ 12 by omega) (show (7 - x58.toInt).toNat < n38 by omega) hw hT hF c22 c25 (lv_sub hl [2, 3, 1, 4, 0] rfl)
              · have c55 : a1.toInt = v38_4.toInt := wk_eq.mp c55
                refine lv_aload_n hx hb dX12_wrong_58 rfl (lv_at hl 0 rfl) ?_
                refine lv_iload_n hx hb dX12_wrong_59 rfl (lv_at hl 3 rfl) ?_
                refine lv_iconst (v := 3) hx hb dX12_wrong_60 (by decide) ?_
                refine lv_iload hx hb dX12_wrong_61 (lv_at hl 4 rfl) ?_
                refine lv_iadd hx hb dX12_wrong_63 ?_
                refine lv_topi (fun x59 ex59 => ?_)
                have ex59 : x59.toInt = (3 : Int) + v38_4.toInt := by rw [ex59]; exact wk_add (show (-2147483648) ≤ (3 : Int) + v38_4.toInt by omega) (show (3 : Int) + v38_4.toInt ≤ 2147483647 by omega)
                refine tk_Vi hC hK hw hT hA hE hSR kM_at0 (by decide) rfl (k_X12_streetOf_4 l adK adV dC dI cy ad B (by omega) (by omega) qr s1   v25_3 (show 0 ≤ v25_3.toInt by omega) (show v25_3.toInt ≤ 11 by omega) x59 (show 3 ≤ x59.toInt by omega) (show x59.toInt ≤ 9 by omega) w13 H.size hT ) (cwV 2 hC.2.2.2.2 gX12_wrong_X12_streetOf rfl rfl rfl (by decide +kernel) ⟨Nat.le_of_ble_eq_true rfl, Nat.le_of_ble_eq_true rfl⟩) rfl hl.1 rfl (Nat.le_of_ble_eq_true rfl) dX12_wrong_64 (fun r60 w62 H locs hp61 hw => ?_)
                obtain ⟨hT, k63, hg66⟩ := hp61
                have hF := hF.tr k63 (by decide)
                have c67 := k63.gi kM_at12 (by decide) c22
                have c68 := k63.gi kM_at12 (by decide) c25
                obtain ⟨g64, g65⟩ := hg66
                refine lv_aload_n hx hb dX12_wrong_67 rfl (lv_at hl 0 rfl) ?_
                refine lv_iload_n hx hb dX12_wrong_68 rfl (lv_at hl 3 rfl) ?_
                refine tk_Vi hC hK hw hT hA hE hSR kM_at0 (by decide) rfl (k_X12_cheapOf_1 l adK adV dC dI cy ad B (by omega) (by omega) qr s1   v25_3 (show 0 ≤ v25_3.toInt by omega) (show v25_3.toInt ≤ 11 by omega) w62 H.size hT ) (cwV 1 hC.2.2.2.2 gX12_wrong_X12_cheapOf rfl rfl rfl (by decide +kernel) ⟨Nat.le_of_ble_eq_true rfl, Nat.le_of_ble_eq_true rfl⟩) rfl hl.1 rfl (Nat.le_of_ble_eq_true rfl) dX12_wrong_69 (fun r69 w71 H locs hp70 hw => ?_)
                obtain ⟨hT, k72, hg75⟩ := hp70
                have hF := hF.tr k72 (by decide)
                have c76 := k72.gi kM_at12 (by decide) c67
                have c77 := k72.gi kM_at12 (by decide) c68
                obtain ⟨g73, g74⟩ := hg75
                refine lv_icmp_eq (tgt := 79) hx hb dX12_wrong_72 (by decide) (fun c78 => ?_) (fun c78 => ?_)
                · have c78 : r60.toInt = r69.toInt := wk_eq.mp c78
                  refine lv_iconst (v := 0) hx hb dX12_wrong_79 (by decide) ?_
                  refine lv_iadd hx hb dX12_wrong_80 ?_
                  have nx79 := wk_i32 v38_2
                  refine lv_topi (fun x80 ex80 => ?_)
                  have ex80 : x80.toInt = v38_2.toInt + (0 : Int) := by rw [ex80]; exact wk_add (show (-2147483648) ≤ v38_2.toInt + (0 : Int) by omega) (show v38_2.toInt + (0 : Int) ≤ 2147483647 by omega)
                  refine lv_istore_n (lv' := [(2, .int x80), (0, .ref (ad 0)), (1, .int a1), (3, .int v25_3), (4, .int v38_4)]) hx hb dX12_wrong_81 rfl hl (by decide) rfl (fun ls hl => ?_)
                  obtain ⟨x81, ex81⟩ : ∃ y : Int32, y = v38_4 + Int32.ofInt 1 := ⟨_, rfl⟩
                  refine lv_iinc (v := x81) (lv' := [(4, .int x81), (2, .int x80), (0, .ref (ad 0)), (1, .int a1), (3, .int v25_3)]) hx hb dX12_wrong_82 hl (k := 4) rfl ex81.symm (by decide) rfl (fun ls hl => ?_)
                  have ex81 : x81.toInt = v38_4.toInt + 1 := by rw [ex81]; exact wk_add (y := 1) (show -2147483648 ≤ v38_4.toInt + 1 by omega) (show v38_4.toInt + 1 ≤ 2147483647 by omega)
                  refine lv_goto (tgt := 38) hx hb dX12_wrong_85 (by decide) ?_
                  exact ih38 x80 x81 f38_12_1 H locs ls w71 (show 0 ≤ a1.toInt by omega) (show a1.toInt ≤ 7 by omega) (show 0 ≤ v25_3.toInt by omega) (show v25_3.toInt ≤ 11 by omega) (show 0 ≤ x81.toInt by omega) (show x81.toInt ≤ 7 by omega) (show 1 ≤ f25_12_0.toInt by omega) (show f25_12_0.toInt ≤ 10 by omega) (show 1 ≤ f38_12_1.toInt by omega) (show f38_12_1.toInt ≤ 12 by omega) (show (7 - x81.toInt).toNat < n38 by omega) hw hT hF c76 c77 (lv_sub hl [2, 3, 1, 4, 0] rfl)
                · have c78 : ¬ r60.toInt = r69.toInt := wk_eqF c78
                  refine lv_iconst (v := 1) hx hb dX12_wrong_75 (by decide) ?_
                  refine lv_goto (tgt := 80) hx hb dX12_wrong_76 (by decide) ?_
                  refine lv_iadd hx hb dX12_wrong_80 ?_
                  have nx82 := wk_i32 v38_2
                  refine lv_topi (fun x83 ex83 => ?_)
                  refine lv_istore_n (lv' := [(2, .int x83), (0, .ref (ad 0)), (1, .int a1), (3, .int v25_3), (4, .int v38_4)]) hx hb dX12_wrong_81 rfl hl (by decide) rfl (fun ls hl => ?_)
                  obtain ⟨x84, ex84⟩ : ∃ y : Int32, y = v38_4 + Int32.ofInt 1 := ⟨_, rfl⟩
                  refine lv_iinc (v := x84) (lv' := [(4, .int x84), (2, .int x83), (0, .ref (ad 0)), (1, .int a1), (3, .int v25_3)]) hx hb dX12_wrong_82 hl (k := 4) rfl ex84.symm (by decide) rfl (fun ls hl => ?_)
                  have ex84 : x84.toInt = v38_4.toInt + 1 := by rw [ex84]; exact wk_add (y := 1) (show -2147483648 ≤ v38_4.toInt + 1 by omega) (show v38_4.toInt + 1 ≤ 2147483647 by omega)
                  refine lv_goto (tgt := 38) hx hb dX12_wrong_85 (by decide) ?_
                  exact ih38 x83 x84 f38_12_1 H locs ls w71 (show 0 ≤ a1.toInt by omega) (show a1.toInt ≤ 7 by omega) (show 0 ≤ v25_3.toInt by omega) (show v25_3.toInt ≤ 11 by omega) (show 0 ≤ x84.toInt by omega) (show x84.toInt ≤ 7 by omega) (show 1 ≤ f25_12_0.toInt by omega) (show f25_12_0.toInt ≤ 10 by omega) (show 1 ≤ f38_12_1.toInt by omega) (show f38_12_1.toInt ≤ 12 by omega) (show (7 - x84.toInt).toNat < n38 by omega) hw hT hF c76 c77 (lv_sub hl [2, 3, 1, 4, 0] rfl)
      refine lv_iload_n hx hb dX12_wrong_25 rfl (lv_at hl 3 rfl) ?_
      refine lv_aload_n hx hb dX12_wrong_26 rfl (lv_at hl 0 rfl) ?_
      refine tk_getA hC hK hw hT hinX12 kM_at0 (by decide) rfl 26 (by decide) (List.mem_of_getElem? (i := 2) rfl) rfl rfl dX12_wrong_27 ?_
      refine lv_iconst (v := 1) hx hb dX12_wrong_30 (by decide) ?_
      refine tk_ialdR hC hK hw hT kM_at12 rfl (by decide) (by decide) dX12_wrong_31 (fun x85 c86 Ex85 => ?_)
      have bx85 : 0 ≤ x85.toInt ∧ x85.toInt ≤ 12 := (tk_rg1 rfl).mp Ex85
      have c86 : gi w5 12 1 = x85 := c86
      refine lv_icmp_ge (tgt := 94) hx hb dX12_wrong_32 (by decide) (fun c87 => ?_) (fun c87 => ?_)
      · have c87 : x85.toInt ≤ v25_3.toInt := wk_le.mp c87
        refine lv_iload_n hx hb dX12_wrong_94 rfl (lv_at hl 2 rfl) ?_
        exact tk_iret hC hr hlocks hK ⟨hT, hF, (Or.inl ⟨(show 0 ≤ a1.toInt by omega), (show a1.toInt ≤ 7 by omega), ⟨f25_12_0, c12, (show 1 ≤ f25_12_0.toInt by omega), (show f25_12_0.toInt ≤ 10 by omega)⟩⟩)⟩ hw dX12_wrong_95
      · have c87 : v25_3.toInt < x85.toInt := wk_leF c87
        refine lv_iconst (v := 0) hx hb dX12_wrong_35 (by decide) ?_
        refine lv_istore (lv' := [(4, .int 0), (0, .ref (ad 0)), (1, .int a1), (2, .int v25_2), (3, .int v25_3)]) hx hb dX12_wrong_36 hl (by decide) rfl (fun ls hl => ?_)
        exact L38 ((7 - (0 : Int)).toNat + 1) v25_2 0 x85 H locs ls w5 (show 0 ≤ a1.toInt by omega) (show a1.toInt ≤ 7 by omega) (show 0 ≤ v25_3.toInt by omega) (show v25_3.toInt ≤ 11 by omega) (by decide) (by decide) (show 1 ≤ f25_12_0.toInt by omega) (show f25_12_0.toInt ≤ 10 by omega) (show 1 ≤ x85.toInt by omega) (show x85.toInt ≤ 12 by omega) (Nat.lt_succ_self _) hw hT hF c12 c86 (lv_sub hl [1, 2, 3, 4, 0] rfl)
  refine lv_aload_n hx hb dX12_wrong_0 rfl (lv_at hl 0 rfl) ?_
  refine tk_Vi hC hK hw hT hA hE hSR kM_at0 (by decide) rfl (k_X12_isTown_1 l adK adV dC dI cy ad B (by omega) (by omega) qr s1    w0 s.heap.size hT ) (cwV 0 hC.2.2.2.2 gX12_wrong_X12_isTown rfl rfl rfl (by decide +kernel) ⟨Nat.le_of_ble_eq_true rfl, Nat.le_of_ble_eq_true rfl⟩) rfl hl.1 rfl (Nat.le_of_ble_eq_true rfl) dX12_wrong_1 (fun r88 w90 H locs hp89 hw => ?_)
  obtain ⟨hT, k91, hg96⟩ := hp89
  have hF := hF.tr k91 (by decide)
  rcases hg96 with ⟨rfl, ⟨x92, c93, rx92, tx92⟩⟩ | ⟨rfl, ⟨x94, c95, rx94, tx94⟩⟩
  · refine lv_if_eq (tgt := 19) hx hb dX12_wrong_4 (by decide) (fun _ => ?_) (fun c => absurd (by decide) c)
    exact J19 x92 H locs ls w90 (show 0 ≤ x92.toInt by omega) (show x92.toInt ≤ 10 by omega)  hw hT hF c93 (lv_sub hl [0, 1] rfl)
  · refine lv_if_eq (tgt := 19) hx hb dX12_wrong_4 (by decide) (fun c => absurd c (by decide)) (fun _ => ?_)
    refine lv_iload_n hx hb dX12_wrong_7 rfl (lv_at hl 1 rfl) ?_
    refine lv_i2l hx hb dX12_wrong_8 rfl ?_
    refine lv_topl (fun x97 ex97 => ?_)
    have ex97 : x97.toInt = a1.toInt := by rw [ex97]; exact wk_i2l _
    have bx97 := wk_i32 a1
    refine lv_lconst (v := 0) hx hb dX12_wrong_9 (by decide) ?_
    refine lv_ldc2 (v := 7) hx hb hC.2.2.2.1 (hC.2.2.2.2 _ (List.mem_of_getElem? (i := 1) rfl)) dX12_wrong_10 ?_
    refine tk_Si hC hK hw hT hA hE hSR (k_X12_in_13 l adK adV dC dI cy ad B (by omega) (by omega) qr s1   x97 (show (-2147483648) ≤ x97.toInt by omega) (show x97.toInt ≤ 2147483647 by omega) w90 H.size hT ) (va_cwS 3 hC.2.2.2.2 gX12_wrong_X12_in rfl rfl rfl (by decide +kernel) ⟨Nat.le_of_ble_eq_true rfl, Nat.le_of_ble_eq_true rfl⟩) rfl hl.1 rfl (Nat.le_of_ble_eq_true rfl) dX12_wrong_13 (fun r98 w100 H locs hp99 hw => ?_)
    obtain ⟨hT, k101, hg104⟩ := hp99
    have hF := hF.tr k101 (by decide)
    have c105 := k101.gi kM_at12 (by decide) c95
    rcases hg104 with rfl | ⟨rfl, g102, g103⟩
    · refine lv_if_ne (tgt := 21) hx hb dX12_wrong_16 (by decide) (fun c => absurd (by decide) c) (fun _ => ?_)
      exact J19 x94 H locs ls w100 (show 0 ≤ x94.toInt by omega) (show x94.toInt ≤ 10 by omega)  hw hT hF c105 (lv_sub hl [0, 1] rfl)
    · refine lv_if_ne (tgt := 21) hx hb dX12_wrong_16 (by decide) (fun _ => ?_) (fun c => absurd c (by decide))
      refine lv_iconst (v := 0) hx hb dX12_wrong_21 (by decide) ?_
      refine lv_istore_n (lv' := [(2, .int 0), (0, .ref (ad 0)), (1, .int a1)]) hx hb dX12_wrong_22 rfl hl (by decide) rfl (fun ls hl => ?_)
      refine lv_iconst (v := 0) hx hb dX12_wrong_23 (by decide) ?_
      refine lv_istore_n (lv' := [(3, .int 0), (2, .int 0), (0, .ref (ad 0)), (1, .int a1)]) hx hb dX12_wrong_24 rfl hl (by decide) rfl (fun ls hl => ?_)
      exact L25 ((12 - (0 : Int)).toNat + 1) 0 0 x94 H locs ls w100 (show 0 ≤ a1.toInt by omega) (show a1.toInt ≤ 7 by omega) (by decide) (by decide) (show 1 ≤ x94.toInt by omega) (show x94.toInt ≤ 10 by omega) (Nat.lt_succ_self _) hw hT hF c105 (lv_sub hl [2, 3, 1, 0] rfl)
abbrev P_X12_errand_1 (ad : Nat → Nat) (cy : Nat → ClassId) (B : Int) (qr : Nat) (s1 : Int) (a1 : Int32) (a2 : Int32) (w0 : va_W) : Int32 → va_W → Prop := fun r u => TW ksM ad cy B qr 12 u ∧ FE ksM [(71, 6, 6), (71, 252, 262), (71, 253, 263)] w0 u ∧ ((r = (-2)) ∨ (0 ≤ r.toInt ∧ r.toInt ≤ 6 ∧ (-1) ≤ a1.toInt ∧ a1.toInt ≤ 9 ∧ (∃ y : Int32, gi u 12 6 = y ∧ 0 ≤ y.toInt ∧ y.toInt ≤ 6)))
set_option maxHeartbeats 4000000 in
set_option maxRecDepth 100000 in
theorem k_X12_errand_1 (l : Launch) (adK adV : Nat → Nat) (dC : Nat → ClassId) (dI : Nat → Nat → Nat) (cy : Nat → ClassId) (ad : Nat → Nat) (B : Int) (hB0 : 100000 ≤ B) (hB1 : B ≤ 1073741824) (qr : Nat) (s1 : Int)  (a1 : Int32) (a2 : Int32) (w0 : va_W) (sz : Nat) (hT : TW ksM ad cy B qr 12 w0)  : Met l yX12_errand wsX12_errand ({ frames := 2, cells := 0, slots := 0, locals := 33 }) (va_Pc [.ref (ad 0), .int a1, .int a2] (wpreS adK adV dC dI cy sz w0)) (va_Qi (P_X12_errand_1 ad cy B qr s1 a1 a2 w0) (fun u : va_W => wpost dC dI cy (va_A w0 sz) u) (va_A w0 sz)) 0 0 (va_A w0 sz) := by
  refine Met.ofW (cc := cX12_errand) (maxL := 3) (ret := (some .int)) (by decide) rfl ?_
  intro p e s m args below meth c s₁ Bk hml hv
  obtain ⟨rfl, ⟨hsz, hP, hK, hD0⟩, hE, hSR⟩ := hv
  have hx := Bk.exec
  have hb := Bk.bytes
  have hr := Bk.returns
  have hlocks := Bk.notSynchronized
  have hC : CallFix p m c cX12_errand 3 s _ wsX12_errand RX12 := ⟨hx, hb, hml, findClass_of_methodNamed Bk.named, atoms_spec (ws := wsX12_errand) Bk.pre⟩
  subst hsz
  have hD := hD0.self (sz := s.heap.size)
  generalize hAe : va_A w0 s.heap.size = A at hD hE ⊢
  have hA : ∀ q : Nat, s.heap.size ≤ q → A q := fun q h => by rw [← hAe]; exact Or.inr h
  have hw : Wd dC dI A s.heap s.heap [] w0 := ⟨hP, hD, va_S.rf⟩
  have hF : FE ksM [(71, 6, 6), (71, 252, 262), (71, 253, 263)] w0 w0 := FE.rf
  have hl := lv_entry ([.ref (ad 0), .int a1, .int a2]) (n := 3) (Nat.le_of_ble_eq_true rfl)
  rw [lg_entry_eq]
  generalize (lg_sl ([.ref (ad 0), .int a1, .int a2]) ++ List.replicate (3 - (lg_sl ([.ref (ad 0), .int a1, .int a2])).length) Slot.unset).toArray = ls at hl ⊢
  have hl : lv_has ls 3 [(0, .ref (ad 0)), (1, .int a1), (2, .int a2)] := hl
  generalize hloc : ([] : List Loc) = locs at hw ⊢
  have hinX12 : ∀ w ∈ u_ws RX12 TX12 42, w ∈ wsX12_errand := fun _ h => List.mem_cons_of_mem _ (List.mem_append_right _ (h))
  have J48 : ∀ (H : Heap) (locs : List Loc) (ls : Array Slot) (w1 : va_W), Wd dC dI A s.heap H locs w1 → TW ksM ad cy B qr 12 w1 → FE ksM [(71, 6, 6), (71, 252, 262), (71, 253, 263)] w0 w1 → lv_has ls 3 [(0, .ref (ad 0)), (1, .int a1), (2, .int a2)] → W p l e ({ frames := 2, cells := 0, slots := 0, locals := 33 }) s m (List.toArray [.ref (ad 0), .int a1, .int a2]) below meth c H locs 0 0 (MQ below (va_Qi (P_X12_errand_1 ad cy B qr s1 a1 a2 w0) (fun u : va_W => wpost dC dI cy A u) A) (List.toArray [.ref (ad 0), .int a1, .int a2]) s 0 0 A) (F0 m 48 ls []) := by
    intro H locs ls w1 hw hT hF hl
    refine lv_bipush (v := (-2)) hx hb dX12_errand_48 (by decide) ?_
    exact tk_iret hC hr hlocks hK ⟨hT, hF, (Or.inl rfl)⟩ hw dX12_errand_50
  refine lv_iload_n hx hb dX12_errand_0 rfl (lv_at hl 1 rfl) ?_
  refine lv_iconst (v := (-1)) hx hb dX12_errand_1 (by decide) ?_
  refine lv_icmp_ne (tgt := 15) hx hb dX12_errand_2 (by decide) (fun c2 => ?_) (fun c2 => ?_)
  · have c2 : ¬ a1.toInt = (-1 : Int) := wk_eqF c2
    refine lv_aload_n hx hb dX12_errand_15 rfl (lv_at hl 0 rfl) ?_
    refine lv_iload_n hx hb dX12_errand_16 rfl (lv_at hl 1 rfl) ?_
    refine tk_Vi hC hK hw hT hA hE hSR kM_at0 (by decide) rfl (k_X12_isCorner_1 l adK adV dC dI cy ad B (by omega) (by omega) qr s1   a1 w0 s.heap.size hT ) (cwV 1 hC.2.2.2.2 gX12_errand_X12_isCorner rfl rfl rfl (by decide +kernel) ⟨Nat.le_of_ble_eq_true rfl, Nat.le_of_ble_eq_true rfl⟩) rfl hl.1 rfl (Nat.le_of_ble_eq_true rfl) dX12_errand_17 (fun r3 w5 H locs hp4 hw => ?_)
    obtain ⟨hT, k6, hg11⟩ := hp4
    have hF := hF.tr k6 (by decide)
    rcases hg11 with rfl | ⟨rfl, g7, g8, ⟨x9, c10, rx9, tx9⟩⟩
    · refine lv_if_eq (tgt := 48) hx hb dX12_errand_20 (by decide) (fun _ => ?_) (fun c => absurd (by decide) c)
      exact J48  H locs ls w5   hw hT hF  (lv_sub hl [0, 1, 2] rfl)
    · refine lv_if_eq (tgt := 48) hx hb dX12_errand_20 (by decide) (fun c => absurd c (by decide)) (fun _ => ?_)
      refine lv_aload_n hx hb dX12_errand_23 rfl (lv_at hl 0 rfl) ?_
      refine lv_iload_n hx hb dX12_errand_24 rfl (lv_at hl 2 rfl) ?_
      refine tk_Vi hC hK hw hT hA hE hSR kM_at0 (by decide) rfl (k_X12_isCorner_1 l adK adV dC dI cy ad B (by omega) (by omega) qr s1   a2 w5 H.size hT ) (cwV 1 hC.2.2.2.2 gX12_errand_X12_isCorner rfl rfl rfl (by decide +kernel) ⟨Nat.le_of_ble_eq_true rfl, Nat.le_of_ble_eq_true rfl⟩) rfl hl.1 rfl (Nat.le_of_ble_eq_true rfl) dX12_errand_25 (fun r12 w14 H locs hp13 hw => ?_)
      obtain ⟨hT, k15, hg20⟩ := hp13
      have hF := hF.tr k15 (by decide)
      have c21 := k15.gi kM_at12 (by decide) c10
      rcases hg20 with rfl | ⟨rfl, g16, g17, ⟨x18, c19, rx18, tx18⟩⟩
      · refine lv_if_eq (tgt := 48) hx hb dX12_errand_28 (by decide) (fun _ => ?_) (fun c => absurd (by decide) c)
        exact J48  H locs ls w14   hw hT hF  (lv_sub hl [0, 1, 2] rfl)
      · have ex18 : x18.toInt = x9.toInt := by rw [← c21.symm.trans c19]
        refine lv_if_eq (tgt := 48) hx hb dX12_errand_28 (by decide) (fun c => absurd c (by decide)) (fun _ => ?_)
        refine lv_iload_n hx hb dX12_errand_31 rfl (lv_at hl 1 rfl) ?_
        refine lv_iload_n hx hb dX12_errand_32 rfl (lv_at hl 2 rfl) ?_
        refine lv_icmp_eq (tgt := 48) hx hb dX12_errand_33 (by decide) (fun c22 => ?_) (fun c22 => ?_)
        · have c22 : a1.toInt = a2.toInt := wk_eq.mp c22
          exact J48  H locs ls w14   hw hT hF  (lv_sub hl [0, 1, 2] rfl)
        · have c22 : ¬ a1.toInt = a2.toInt := wk_eqF c22
          refine lv_aload_n hx hb dX12_errand_36 rfl (lv_at hl 0 rfl) ?_
          refine tk_getA hC hK hw hT hinX12 kM_at0 (by decide) rfl 26 (by decide) (List.mem_of_getElem? (i := 1) rfl) rfl rfl dX12_errand_37 ?_
          refine lv_bipush (v := 6) hx hb dX12_errand_40 (by decide) ?_
          refine tk_ialdR hC hK hw hT kM_at12 rfl (by decide) (by decide) dX12_errand_42 (fun x23 c24 Ex23 => ?_)
          have bx23 := tk_rgI rfl 6 1 1 0 6 (by decide +kernel) ⟨0, by decide, by decide⟩ Ex23
          have c24 : gi w14 12 6 = x23 := c24
          refine lv_bipush (v := 6) hx hb dX12_errand_43 (by decide) ?_
          refine lv_icmp_ne (tgt := 51) hx hb dX12_errand_45 (by decide) (fun c25 => ?_) (fun c25 => ?_)
          · have c25 : ¬ x23.toInt = (6 : Int) := wk_eqF c25
            refine lv_aload_n hx hb dX12_errand_51 rfl (lv_at hl 0 rfl) ?_
            refine tk_getA hC hK hw hT hinX12 kM_at0 (by decide) rfl 26 (by decide) (List.mem_of_getElem? (i := 1) rfl) rfl rfl dX12_errand_52 ?_
            refine lv_sipush (v := 252) hx hb dX12_errand_55 (by decide) ?_
            refine lv_iconst (v := 2) hx hb dX12_errand_58 (by decide) ?_
            refine lv_aload_n hx hb dX12_errand_59 rfl (lv_at hl 0 rfl) ?_
            refine tk_getA hC hK hw hT hinX12 kM_at0 (by decide) rfl 26 (by decide) (List.mem_of_getElem? (i := 1) rfl) rfl rfl dX12_errand_60 ?_
            refine lv_bipush (v := 6) hx hb dX12_errand_63 (by decide) ?_
            refine tk_ialdR hC hK hw hT kM_at12 rfl (by decide) (by decide) dX12_errand_65 (fun x26 c27 Ex26 => ?_)
            refine wk_top x23 (c27.symm.trans c24) ?_
            refine lv_imul hx hb dX12_errand_66 ?_
            refine lv_topi (fun x28 ex28 => ?_)
            have ex28 : x28.toInt = (2 : Int) * x23.toInt := by rw [ex28]; exact wk_mul (show (-2147483648) ≤ (2 : Int) * x23.toInt by omega) (show (2 : Int) * x23.toInt ≤ 2147483647 by omega)
            refine lv_iadd hx hb dX12_errand_67 ?_
            refine lv_topi (fun x29 ex29 => ?_)
            have ex29 : x29.toInt = (252 : Int) + x28.toInt := by rw [ex29]; exact wk_add (show (-2147483648) ≤ (252 : Int) + x28.toInt by omega) (show (252 : Int) + x28.toInt ≤ 2147483647 by omega)
            refine lv_iload_n hx hb dX12_errand_68 rfl (lv_at hl 1 rfl) ?_
            refine tk_iastR hC hK hw hT kM_at12 (by decide) rfl (show 0 ≤ x29.toInt by omega) (show x29.toInt < 296 by omega) (tk_rgS rfl 252 2 6 0 9 (by decide +kernel) ⟨(x23.toInt - 0).toNat, by omega, show x29.toInt.toNat = 252 + 2 * (x23.toInt - 0).toNat by omega⟩ (show 0 ≤ a1.toInt by omega) (show a1.toInt ≤ 9 by omega)) dX12_errand_69 (fun H locs w30 hw hT k32 c31 => ?_)
            have hF := hF.put kM_at12 (inE_of (a := 252) (b := 262) (by decide) (show 252 ≤ x29.toInt.toNat by omega) (show x29.toInt.toNat ≤ 262 by omega)) k32
            have c33 := k32.gi (Or.inr (show 0 ≠ x29.toInt.toNat by omega)) c21
            have c34 := k32.gi (Or.inr (show 6 ≠ x29.toInt.toNat by omega)) c24
            refine lv_aload_n hx hb dX12_errand_70 rfl (lv_at hl 0 rfl) ?_
            refine tk_getA hC hK hw hT hinX12 kM_at0 (by decide) rfl 26 (by decide) (List.mem_of_getElem? (i := 1) rfl) rfl rfl dX12_errand_71 ?_
            refine lv_sipush (v := 252) hx hb dX12_errand_74 (by decide) ?_
            refine lv_iconst (v := 2) hx hb dX12_errand_77 (by decide) ?_
            refine lv_aload_n hx hb dX12_errand_78 rfl (lv_at hl 0 rfl) ?_
            refine tk_getA hC hK hw hT hinX12 kM_at0 (by decide) rfl 26 (by decide) (List.mem_of_getElem? (i := 1) rfl) rfl rfl dX12_errand_79 ?_
            refine lv_bipush (v := 6) hx hb dX12_errand_82 (by decide) ?_
            refine tk_ialdR hC hK hw hT kM_at12 rfl (by decide) (by decide) dX12_errand_84 (fun x35 c36 Ex35 => ?_)
            refine wk_top x23 (c36.symm.trans c34) ?_
            refine lv_imul hx hb dX12_errand_85 ?_
            refine lv_topi (fun x37 ex37 => ?_)
            have ex37 : x37.toInt = (2 : Int) * x23.toInt := by rw [ex37]; exact wk_mul (show (-2147483648) ≤ (2 : Int) * x23.toInt by omega) (show (2 : Int) * x23.toInt ≤ 2147483647 by omega)
            refine lv_iadd hx hb dX12_errand_86 ?_
            refine lv_topi (fun x38 ex38 => ?_)
            have ex38 : x38.toInt = (252 : Int) + x37.toInt := by rw [ex38]; exact wk_add (show (-2147483648) ≤ (252 : Int) + x37.toInt by omega) (show (252 : Int) + x37.toInt ≤ 2147483647 by omega)
            refine lv_iconst (v := 1) hx hb dX12_errand_87 (by decide) ?_
            refine lv_iadd hx hb dX12_errand_88 ?_
            refine lv_topi (fun x39 ex39 => ?_)
            have ex39 : x39.toInt = x38.toInt + (1 : Int) := by rw [ex39]; exact wk_add (show (-2147483648) ≤ x38.toInt + (1 : Int) by omega) (show x38.toInt + (1 : Int) ≤ 2147483647 by omega)
            refine lv_iload_n hx hb dX12_errand_89 rfl (lv_at hl 2 rfl) ?_
            refine tk_iastR hC hK hw hT kM_at12 (by decide) rfl (show 0 ≤ x39.toInt by omega) (show x39.toInt < 296 by omega) (tk_rgS rfl 253 2 6 0 9 (by decide +kernel) ⟨(x23.toInt - 0).toNat, by omega, show x39.toInt.toNat = 253 + 2 * (x23.toInt - 0).toNat by omega⟩ (show 0 ≤ a2.toInt by omega) (show a2.toInt ≤ 9 by omega)) dX12_errand_90 (fun H locs w40 hw hT k42 c41 => ?_)
            have hF := hF.put kM_at12 (inE_of (a := 253) (b := 263) (by decide) (show 253 ≤ x39.toInt.toNat by omega) (show x39.toInt.toNat ≤ 263 by omega)) k42
            have c43 := k42.gi (Or.inr (show 0 ≠ x39.toInt.toNat by omega)) c33
            have c44 := k42.gi (Or.inr (show 6 ≠ x39.toInt.toNat by omega)) c34
            refine lv_aload_n hx hb dX12_errand_91 rfl (lv_at hl 0 rfl) ?_
            refine tk_getA hC hK hw hT hinX12 kM_at0 (by decide) rfl 26 (by decide) (List.mem_of_getElem? (i := 1) rfl) rfl rfl dX12_errand_92 ?_
            refine lv_bipush (v := 6) hx hb dX12_errand_95 (by decide) ?_
            refine lv_dup2_11 hx hb dX12_errand_97 rfl rfl ?_
            refine tk_ialdR hC hK hw hT kM_at12 rfl (by decide) (by decide) dX12_errand_98 (fun x45 c46 Ex45 => ?_)
            refine wk_top x23 (c46.symm.trans c44) ?_
            refine lv_iconst (v := 1) hx hb dX12_errand_99 (by decide) ?_
            refine lv_iadd hx hb dX12_errand_100 ?_
            refine lv_topi (fun x47 ex47 => ?_)
            have ex47 : x47.toInt = x23.toInt + (1 : Int) := by rw [ex47]; exact wk_add (show (-2147483648) ≤ x23.toInt + (1 : Int) by omega) (show x23.toInt + (1 : Int) ≤ 2147483647 by omega)
            refine tk_iastR hC hK hw hT kM_at12 (by decide) rfl (by decide) (by decide) (tk_rgS rfl 6 1 1 1 6 (by decide +kernel) ⟨0, by decide, by decide⟩ (show 1 ≤ x47.toInt by omega) (show x47.toInt ≤ 6 by omega)) dX12_errand_101 (fun H locs w48 hw hT k50 c49 => ?_)
            have hF := hF.put kM_at12 (inE_of (a := 6) (b := 6) (by decide) (by decide) (by decide)) k50
            have c51 := k50.gi (Or.inr (by decide)) c43
            have c49 : gi w48 12 6 = x47 := c49
            refine lv_aload_n hx hb dX12_errand_102 rfl (lv_at hl 0 rfl) ?_
            refine tk_getA hC hK hw hT hinX12 kM_at0 (by decide) rfl 26 (by decide) (List.mem_of_getElem? (i := 1) rfl) rfl rfl dX12_errand_103 ?_
            refine lv_bipush (v := 6) hx hb dX12_errand_106 (by decide) ?_
            refine tk_ialdR hC hK hw hT kM_at12 rfl (by decide) (by decide) dX12_errand_108 (fun x52 c53 Ex52 => ?_)
            refine wk_top x47 (c53.symm.trans c49) ?_
            exact tk_iret hC hr hlocks hK ⟨hT, hF, (Or.inr ⟨(show 0 ≤ x47.toInt by omega), (show x47.toInt ≤ 6 by omega), (show (-1) ≤ a1.toInt by omega), (show a1.toInt ≤ 9 by omega), ⟨x47, c49, (show 0 ≤ x47.toInt by omega), (show x47.toInt ≤ 6 by omega)⟩⟩)⟩ hw dX12_errand_109
          · have c25 : x23.toInt = (6 : Int) := wk_eq.mp c25
            exact J48  H locs ls w14   hw hT hF  (lv_sub hl [0, 1, 2] rfl)
  · have c2 : a1.toInt = (-1 : Int) := wk_eq.mp c2
    refine lv_aload_n hx hb dX12_errand_5 rfl (lv_at hl 0 rfl) ?_
    refine tk_getA hC hK hw hT hinX12 kM_at0 (by decide) rfl 26 (by decide) (List.mem_of_getElem? (i := 1) rfl) rfl rfl dX12_errand_6 ?_
    refine lv_bipush (v := 6) hx hb dX12_errand_9 (by decide) ?_
    refine lv_iconst (v := 0) hx hb dX12_errand_11 (by decide) ?_
    refine tk_iastR hC hK hw hT kM_at12 (by decide) rfl (by decide) (by decide) (tk_rg0 rfl (show 0 ≤ B by omega) (by decide)) dX12_errand_12 (fun H locs w54 hw hT k56 c55 => ?_)
    have hF := hF.put kM_at12 (inE_of (a := 6) (b := 6) (by decide) (by decide) (by decide)) k56
    have c55 : gi w54 12 6 = 0 := c55
    refine lv_iconst (v := 0) hx hb dX12_errand_13 (by decide) ?_
    exact tk_iret hC hr hlocks hK ⟨hT, hF, (Or.inr ⟨(by decide), (by decide), (show (-1) ≤ a1.toInt by omega), (show a1.toInt ≤ 9 by omega), ⟨0, c55, (by decide), (by decide)⟩⟩)⟩ hw dX12_errand_14
abbrev P_X12_isClash_1 (ad : Nat → Nat) (cy : Nat → ClassId) (B : Int) (qr : Nat) (s1 : Int) (a1 : Int32) (a2 : Int32) (w0 : va_W) : Int32 → va_W → Prop := fun r u => TW ksM ad cy B qr 12 u ∧ FE ksM ([] : List (Nat × Nat × Nat)) w0 u ∧ ((r = 0) ∨ (r = 1))
set_option maxHeartbeats 4000000 in
set_option maxRecDepth 100000 in
theorem k_X12_isClash_1 (l : Launch) (adK adV : Nat → Nat) (dC : Nat → ClassId) (dI : Nat → Nat → Nat) (cy : Nat → ClassId) (ad : Nat → Nat) (B : Int) (hB0 : 100000 ≤ B) (hB1 : B ≤ 1073741824) (qr : Nat) (s1 : Int)  (a1 : Int32) (ra1 : 1 ≤ a1.toInt) (ta1 : a1.toInt ≤ 63) (a2 : Int32) (ra2 : 0 ≤ a2.toInt) (ta2 : a2.toInt ≤ 63) (w0 : va_W) (sz : Nat) (hT : TW ksM ad cy B qr 12 w0)  : Met l yX12_isClash wsX12_isClash ({ frames := 1, cells := 0, slots := 0, locals := 12 }) (va_Pc [.ref (ad 0), .int a1, .int a2] (wpreS adK adV dC dI cy sz w0)) (va_Qi (P_X12_isClash_1 ad cy B qr s1 a1 a2 w0) (fun u : va_W => wpost dC dI cy (va_A w0 sz) u) (va_A w0 sz)) 0 0 (va_A w0 sz) := by
  refine Met.ofW (cc := cX12_isClash) (maxL := 4) (ret := (some .boolean)) (by decide) rfl ?_
  intro p e s m args below meth c s₁ Bk hml hv
  obtain ⟨rfl, ⟨hsz, hP, hK, hD0⟩, hE, hSR⟩ := hv
  have hx := Bk.exec
  have hb := Bk.bytes
  have hr := Bk.returns
  have hlocks := Bk.notSynchronized
  have hC : CallFix p m c cX12_isClash 4 s _ wsX12_isClash RX12 := ⟨hx, hb, hml, findClass_of_methodNamed Bk.named, atoms_spec (ws := wsX12_isClash) Bk.pre⟩
  subst hsz
  have hD := hD0.self (sz := s.heap.size)
  generalize hAe : va_A w0 s.heap.size = A at hD hE ⊢
  have hA : ∀ q : Nat, s.heap.size ≤ q → A q := fun q h => by rw [← hAe]; exact Or.inr h
  have hw : Wd dC dI A s.heap s.heap [] w0 := ⟨hP, hD, va_S.rf⟩
  have hF : FE ksM ([] : List (Nat × Nat × Nat)) w0 w0 := FE.rf
  have hl := lv_entry ([.ref (ad 0), .int a1, .int a2]) (n := 4) (Nat.le_of_ble_eq_true rfl)
  rw [lg_entry_eq]
  generalize (lg_sl ([.ref (ad 0), .int a1, .int a2]) ++ List.replicate (4 - (lg_sl ([.ref (ad 0), .int a1, .int a2])).length) Slot.unset).toArray = ls at hl ⊢
  have hl : lv_has ls 4 [(0, .ref (ad 0)), (1, .int a1), (2, .int a2)] := hl
  generalize hloc : ([] : List Loc) = locs at hw ⊢
  have hinX12 : ∀ w ∈ u_ws RX12 TX12 42, w ∈ wsX12_isClash := fun _ h => List.mem_cons_of_mem _ (List.mem_append_right _ (h))
  have L2 : ∀ (n2 : Nat) (v2_3 : Int32) (H : Heap) (locs : List Loc) (ls : Array Slot) (w1 : va_W), 1 ≤ a1.toInt → a1.toInt ≤ 63 → 0 ≤ a2.toInt → a2.toInt ≤ 63 → 0 ≤ v2_3.toInt → v2_3.toInt ≤ 64 → (64 - v2_3.toInt).toNat < n2 → Wd dC dI A s.heap H locs w1 → TW ksM ad cy B qr 12 w1 → FE ksM ([] : List (Nat × Nat × Nat)) w0 w1 → lv_has ls 4 [(0, .ref (ad 0)), (1, .int a1), (2, .int a2), (3, .int v2_3)] → W p l e ({ frames := 1, cells := 0, slots := 0, locals := 12 }) s m (List.toArray [.ref (ad 0), .int a1, .int a2]) below meth c H locs 0 0 (MQ below (va_Qi (P_X12_isClash_1 ad cy B qr s1 a1 a2 w0) (fun u : va_W => wpost dC dI cy A u) A) (List.toArray [.ref (ad 0), .int a1, .int a2]) s 0 0 A) (F0 m 2 ls []) := by
    intro n2
    induction n2 with
    | zero => intro v2_3 H locs ls w1 r2 t3 r4 t5 r6 t7 hm2 hw hT hF hl; omega
    | succ n2 ih2 =>
      intro v2_3 H locs ls w1 r2 t3 r4 t5 r6 t7 hm2 hw hT hF hl
      have J25 : ∀ (H : Heap) (locs : List Loc) (ls : Array Slot) (w8 : va_W), 1 ≤ a1.toInt → a1.toInt ≤ 63 → 0 ≤ a2.toInt → a2.toInt ≤ 63 → 0 ≤ v2_3.toInt → v2_3.toInt ≤ 63 → Wd dC dI A s.heap H locs w8 → TW ksM ad cy B qr 12 w8 → FE ksM ([] : List (Nat × Nat × Nat)) w0 w8 → lv_has ls 4 [(0, .ref (ad 0)), (1, .int a1), (2, .int a2), (3, .int v2_3)] → W p l e ({ frames := 1, cells := 0, slots := 0, locals := 12 }) s m (List.toArray [.ref (ad 0), .int a1, .int a2]) below meth c H locs 0 0 (MQ below (va_Qi (P_X12_isClash_1 ad cy B qr s1 a1 a2 w0) (fun u : va_W => wpost dC dI cy A u) A) (List.toArray [.ref (ad 0), .int a1, .int a2]) s 0 0 A) (F0 m 25 ls []) := by
        intro H locs ls w8 r9 t10 r11 t12 r13 t14 hw hT hF hl
        obtain ⟨x15, ex15⟩ : ∃ y : Int32, y = v2_3 + Int32.ofInt 1 := ⟨_, rfl⟩
        refine lv_iinc (v := x15) (lv' := [(3, .int x15), (0, .ref (ad 0)), (1, .int a1), (2, .int a2)]) hx hb dX12_isClash_25 hl (k := 3) rfl ex15.symm (by decide) rfl (fun ls hl => ?_)
        have ex15 : x15.toInt = v2_3.toInt + 1 := by rw [ex15]; exact wk_add (y := 1) (show -2147483648 ≤ v2_3.toInt + 1 by omega) (show v2_3.toInt + 1 ≤ 2147483647 by omega)
        refine lv_goto (tgt := 2) hx hb dX12_isClash_28 (by decide) ?_
        exact ih2 x15 H locs ls w8 (show 1 ≤ a1.toInt by omega) (show a1.toInt ≤ 63 by omega) (show 0 ≤ a2.toInt by omega) (show a2.toInt ≤ 63 by omega) (show 0 ≤ x15.toInt by omega) (show x15.toInt ≤ 64 by omega) (show (64 - x15.toInt).toNat < n2 by omega) hw hT hF  (lv_sub hl [1, 2, 3, 0] rfl)
      refine lv_iload_n hx hb dX12_isClash_2 rfl (lv_at hl 3 rfl) ?_
      refine lv_iload_n hx hb dX12_isClash_3 rfl (lv_at hl 2 rfl) ?_
      refine lv_icmp_gt (tgt := 31) hx hb dX12_isClash_4 (by decide) (fun c16 => ?_) (fun c16 => ?_)
      · have c16 : a2.toInt < v2_3.toInt := wk_lt.mp c16
        refine lv_iconst (v := 1) hx hb dX12_isClash_31 (by decide) ?_
        exact tk_zret hC hr rfl hlocks hK ⟨hT, hF, (Or.inr rfl)⟩ hw dX12_isClash_32
      · have c16 : v2_3.toInt ≤ a2.toInt := wk_ltF c16
        refine lv_aload_n hx hb dX12_isClash_7 rfl (lv_at hl 0 rfl) ?_
        refine tk_getA hC hK hw hT hinX12 kM_at0 (by decide) rfl 38 (by decide) (List.mem_of_getElem? (i := 1) rfl) rfl rfl dX12_isClash_8 ?_
        refine lv_iload_n hx hb dX12_isClash_11 rfl (lv_at hl 3 rfl) ?_
        refine tk_zald hC hK hw hT kM_at20 rfl rfl (show 0 ≤ v2_3.toInt by omega) (show v2_3.toInt < 64 by omega) dX12_isClash_12 (fun x17 c18 rx17 tx17 => ?_)
        refine lv_if_eq (tgt := 25) hx hb dX12_isClash_13 (by decide) (fun c19 => ?_) (fun c19 => ?_)
        · have c19 : x17.toInt = (0 : Int) := wk_eq.mp c19
          exact J25  H locs ls w1 (show 1 ≤ a1.toInt by omega) (show a1.toInt ≤ 63 by omega) (show 0 ≤ a2.toInt by omega) (show a2.toInt ≤ 63 by omega) (show 0 ≤ v2_3.toInt by omega) (show v2_3.toInt ≤ 63 by omega)  hw hT hF  (lv_sub hl [0, 1, 2, 3] rfl)
        · have c19 : ¬ x17.toInt = (0 : Int) := wk_eqF c19
          refine lv_iload_n hx hb dX12_isClash_16 rfl (lv_at hl 3 rfl) ?_
          refine lv_iload_n hx hb dX12_isClash_17 rfl (lv_at hl 1 rfl) ?_
          refine lv_iand hx hb dX12_isClash_18 ?_
          refine lv_topi (fun x20 ex20 => ?_)
          have bx20 : 0 ≤ x20.toInt ∧ x20.toInt ≤ a1.toInt := by rw [ex20]; exact wk_and (by omega)
          refine lv_iload_n hx hb dX12_isClash_19 rfl (lv_at hl 1 rfl) ?_
          refine lv_icmp_ne (tgt := 25) hx hb dX12_isClash_20 (by decide) (fun c21 => ?_) (fun c21 => ?_)
          · have c21 : ¬ x20.toInt = a1.toInt := wk_eqF c21
            exact J25  H locs ls w1 (show 1 ≤ a1.toInt by omega) (show a1.toInt ≤ 63 by omega) (show 0 ≤ a2.toInt by omega) (show a2.toInt ≤ 63 by omega) (show 0 ≤ v2_3.toInt by omega) (show v2_3.toInt ≤ 63 by omega)  hw hT hF  (lv_sub hl [0, 1, 2, 3] rfl)
          · have c21 : x20.toInt = a1.toInt := wk_eq.mp c21
            refine lv_iconst (v := 0) hx hb dX12_isClash_23 (by decide) ?_
            exact tk_zret hC hr rfl hlocks hK ⟨hT, hF, (Or.inl rfl)⟩ hw dX12_isClash_24
  refine lv_iconst (v := 0) hx hb dX12_isClash_0 (by decide) ?_
  refine lv_istore_n (lv' := [(3, .int 0), (0, .ref (ad 0)), (1, .int a1), (2, .int a2)]) hx hb dX12_isClash_1 rfl hl (by decide) rfl (fun ls hl => ?_)
  exact L2 ((64 - (0 : Int)).toNat + 1) 0 s.heap locs ls w0 (show 1 ≤ a1.toInt by omega) (show a1.toInt ≤ 63 by omega) (show 0 ≤ a2.toInt by omega) (show a2.toInt ≤ 63 by omega) (by decide) (by decide) (Nat.lt_succ_self _) hw hT hF  (lv_sub hl [1, 2, 3, 0] rfl)
abbrev P_X12_bits_1 (ad : Nat → Nat) (cy : Nat → ClassId) (B : Int) (qr : Nat) (s1 : Int) (a0 : Int32) (w0 : va_W) : Int32 → va_W → Prop := fun r u => TW ksM ad cy B qr 12 u ∧ FE ksM ([] : List (Nat × Nat × Nat)) w0 u ∧ ((True))
set_option maxHeartbeats 4000000 in
set_option maxRecDepth 100000 in
theorem k_X12_bits_1 (l : Launch) (adK adV : Nat → Nat) (dC : Nat → ClassId) (dI : Nat → Nat → Nat) (cy : Nat → ClassId) (ad : Nat → Nat) (B : Int) (hB0 : 100000 ≤ B) (hB1 : B ≤ 1073741824) (qr : Nat) (s1 : Int)  (a0 : Int32) (ra0 : 1 ≤ a0.toInt) (ta0 : a0.toInt ≤ 63) (w0 : va_W) (sz : Nat) (hT : TW ksM ad cy B qr 12 w0)  : Met l yX12_bits wsX12_bits ({ frames := 1, cells := 0, slots := 0, locals := 12 }) (va_Pc [.int a0] (wpreS adK adV dC dI cy sz w0)) (va_Qi (P_X12_bits_1 ad cy B qr s1 a0 w0) (fun u : va_W => wpost dC dI cy (va_A w0 sz) u) (va_A w0 sz)) 0 0 (va_A w0 sz) := by
  refine Met.ofW (cc := cX12_bits) (maxL := 3) (ret := (some .int)) (by decide) rfl ?_
  intro p e s m args below meth c s₁ Bk hml hv
  obtain ⟨rfl, ⟨hsz, hP, hK, hD0⟩, hE, hSR⟩ := hv
  have hx := Bk.exec
  have hb := Bk.bytes
  have hr := Bk.returns
  have hlocks := Bk.notSynchronized
  have hC : CallFix p m c cX12_bits 3 s _ wsX12_bits RX12 := ⟨hx, hb, hml, findClass_of_methodNamed Bk.named, atoms_spec (ws := wsX12_bits) Bk.pre⟩
  subst hsz
  have hD := hD0.self (sz := s.heap.size)
  generalize hAe : va_A w0 s.heap.size = A at hD hE ⊢
  have hA : ∀ q : Nat, s.heap.size ≤ q → A q := fun q h => by rw [← hAe]; exact Or.inr h
  have hw : Wd dC dI A s.heap s.heap [] w0 := ⟨hP, hD, va_S.rf⟩
  have hF : FE ksM ([] : List (Nat × Nat × Nat)) w0 w0 := FE.rf
  have hl := lv_entry ([.int a0]) (n := 3) (Nat.le_of_ble_eq_true rfl)
  rw [lg_entry_eq]
  generalize (lg_sl ([.int a0]) ++ List.replicate (3 - (lg_sl ([.int a0])).length) Slot.unset).toArray = ls at hl ⊢
  have hl : lv_has ls 3 [(0, .int a0)] := hl
  generalize hloc : ([] : List Loc) = locs at hw ⊢
  have L4 : ∀ (n4 : Nat) (v4_1 : Int32) (v4_2 : Int32) (H : Heap) (locs : List Loc) (ls : Array Slot) (w1 : va_W), 1 ≤ a0.toInt → a0.toInt ≤ 63 → 0 ≤ v4_2.toInt → v4_2.toInt ≤ 63 → (v4_2.toInt - 0).toNat < n4 → Wd dC dI A s.heap H locs w1 → TW ksM ad cy B qr 12 w1 → FE ksM ([] : List (Nat × Nat × Nat)) w0 w1 → lv_has ls 3 [(0, .int a0), (1, .int v4_1), (2, .int v4_2)] → W p l e ({ frames := 1, cells := 0, slots := 0, locals := 12 }) s m (List.toArray [.int a0]) below meth c H locs 0 0 (MQ below (va_Qi (P_X12_bits_1 ad cy B qr s1 a0 w0) (fun u : va_W => wpost dC dI cy A u) A) (List.toArray [.int a0]) s 0 0 A) (F0 m 4 ls []) := by
    intro n4
    induction n4 with
    | zero => intro v4_1 v4_2 H locs ls w1 r2 t3 r4 t5 hm4 hw hT hF hl; omega
    | succ n4 ih4 =>
      intro v4_1 v4_2 H locs ls w1 r2 t3 r4 t5 hm4 hw hT hF hl
      refine lv_iload_n hx hb dX12_bits_4 rfl (lv_at hl 2 rfl) ?_
      refine lv_if_eq (tgt := 20) hx hb dX12_bits_5 (by decide) (fun c6 => ?_) (fun c6 => ?_)
      · have c6 : v4_2.toInt = (0 : Int) := wk_eq.mp c6
        refine lv_iload_n hx hb dX12_bits_20 rfl (lv_at hl 1 rfl) ?_
        exact tk_iret hC hr hlocks hK ⟨hT, hF, trivial⟩ hw dX12_bits_21
      · have c6 : ¬ v4_2.toInt = (0 : Int) := wk_eqF c6
        have nx8 := wk_i32 v4_1
        obtain ⟨x7, ex7⟩ : ∃ y : Int32, y = v4_1 + Int32.ofInt 1 := ⟨_, rfl⟩
        refine lv_iinc (v := x7) (lv' := [(1, .int x7), (0, .int a0), (2, .int v4_2)]) hx hb dX12_bits_8 hl (k := 1) rfl ex7.symm (by decide) rfl (fun ls hl => ?_)
        refine lv_iload_n hx hb dX12_bits_11 rfl (lv_at hl 2 rfl) ?_
        refine lv_iload_n hx hb dX12_bits_12 rfl (lv_at hl 2 rfl) ?_
        refine lv_iconst (v := 1) hx hb dX12_bits_13 (by decide) ?_
        refine lv_isub hx hb dX12_bits_14 ?_
        refine lv_topi (fun x9 ex9 => ?_)
        have ex9 : x9.toInt = v4_2.toInt - (1 : Int) := by rw [ex9]; exact wk_sub (show (-2147483648) ≤ v4_2.toInt - (1 : Int) by omega) (show v4_2.toInt - (1 : Int) ≤ 2147483647 by omega)
        refine lv_iand hx hb dX12_bits_15 ?_
        refine lv_topi (fun x10 ex10 => ?_)
        have bx10 : 0 ≤ x10.toInt ∧ x10.toInt ≤ x9.toInt := by rw [ex10]; exact wk_and (by omega)
        refine lv_istore_n (lv' := [(2, .int x10), (1, .int x7), (0, .int a0)]) hx hb dX12_bits_16 rfl hl (by decide) rfl (fun ls hl => ?_)
        refine lv_goto (tgt := 4) hx hb dX12_bits_17 (by decide) ?_
        exact ih4 x7 x10 H locs ls w1 (show 1 ≤ a0.toInt by omega) (show a0.toInt ≤ 63 by omega) (show 0 ≤ x10.toInt by omega) (show x10.toInt ≤ 63 by omega) (show (x10.toInt - 0).toNat < n4 by omega) hw hT hF  (lv_sub hl [2, 1, 0] rfl)
  refine lv_iconst (v := 0) hx hb dX12_bits_0 (by decide) ?_
  refine lv_istore_n (lv' := [(1, .int 0), (0, .int a0)]) hx hb dX12_bits_1 rfl hl (by decide) rfl (fun ls hl => ?_)
  refine lv_iload_n hx hb dX12_bits_2 rfl (lv_at hl 1 rfl) ?_
  refine lv_istore_n (lv' := [(2, .int a0), (1, .int 0), (0, .int a0)]) hx hb dX12_bits_3 rfl hl (by decide) rfl (fun ls hl => ?_)
  exact L4 ((a0.toInt - 0).toNat + 1) 0 a0 s.heap locs ls w0 (show 1 ≤ a0.toInt by omega) (show a0.toInt ≤ 63 by omega) (show 0 ≤ a0.toInt by omega) (show a0.toInt ≤ 63 by omega) (Nat.lt_succ_self _) hw hT hF  (lv_sub hl [2, 1, 0] rfl)
abbrev P_X12_bits_2 (ad : Nat → Nat) (cy : Nat → ClassId) (B : Int) (qr : Nat) (s1 : Int) (a0 : Int32) (w0 : va_W) : Int32 → va_W → Prop := fun r u => TW ksM ad cy B qr 12 u ∧ FE ksM ([] : List (Nat × Nat × Nat)) w0 u ∧ ((True))
set_option maxHeartbeats 4000000 in
set_option maxRecDepth 100000 in
theorem k_X12_bits_2 (l : Launch) (adK adV : Nat → Nat) (dC : Nat → ClassId) (dI : Nat → Nat → Nat) (cy : Nat → ClassId) (ad : Nat → Nat) (B : Int) (hB0 : 100000 ≤ B) (hB1 : B ≤ 1073741824) (qr : Nat) (s1 : Int)  (a0 : Int32) (ra0 : 0 ≤ a0.toInt) (ta0 : a0.toInt ≤ 63) (w0 : va_W) (sz : Nat) (hT : TW ksM ad cy B qr 12 w0)  : Met l yX12_bits wsX12_bits ({ frames := 1, cells := 0, slots := 0, locals := 12 }) (va_Pc [.int a0] (wpreS adK adV dC dI cy sz w0)) (va_Qi (P_X12_bits_2 ad cy B qr s1 a0 w0) (fun u : va_W => wpost dC dI cy (va_A w0 sz) u) (va_A w0 sz)) 0 0 (va_A w0 sz) := by
  refine Met.ofW (cc := cX12_bits) (maxL := 3) (ret := (some .int)) (by decide) rfl ?_
  intro p e s m args below meth c s₁ Bk hml hv
  obtain ⟨rfl, ⟨hsz, hP, hK, hD0⟩, hE, hSR⟩ := hv
  have hx := Bk.exec
  have hb := Bk.bytes
  have hr := Bk.returns
  have hlocks := Bk.notSynchronized
  have hC : CallFix p m c cX12_bits 3 s _ wsX12_bits RX12 := ⟨hx, hb, hml, findClass_of_methodNamed Bk.named, atoms_spec (ws := wsX12_bits) Bk.pre⟩
  subst hsz
  have hD := hD0.self (sz := s.heap.size)
  generalize hAe : va_A w0 s.heap.size = A at hD hE ⊢
  have hA : ∀ q : Nat, s.heap.size ≤ q → A q := fun q h => by rw [← hAe]; exact Or.inr h
  have hw : Wd dC dI A s.heap s.heap [] w0 := ⟨hP, hD, va_S.rf⟩
  have hF : FE ksM ([] : List (Nat × Nat × Nat)) w0 w0 := FE.rf
  have hl := lv_entry ([.int a0]) (n := 3) (Nat.le_of_ble_eq_true rfl)
  rw [lg_entry_eq]
  generalize (lg_sl ([.int a0]) ++ List.replicate (3 - (lg_sl ([.int a0])).length) Slot.unset).toArray = ls at hl ⊢
  have hl : lv_has ls 3 [(0, .int a0)] := hl
  generalize hloc : ([] : List Loc) = locs at hw ⊢
  have L4 : ∀ (n4 : Nat) (v4_1 : Int32) (v4_2 : Int32) (H : Heap) (locs : List Loc) (ls : Array Slot) (w1 : va_W), 0 ≤ a0.toInt → a0.toInt ≤ 63 → 0 ≤ v4_2.toInt → v4_2.toInt ≤ 63 → (v4_2.toInt - 0).toNat < n4 → Wd dC dI A s.heap H locs w1 → TW ksM ad cy B qr 12 w1 → FE ksM ([] : List (Nat × Nat × Nat)) w0 w1 → lv_has ls 3 [(0, .int a0), (1, .int v4_1), (2, .int v4_2)] → W p l e ({ frames := 1, cells := 0, slots := 0, locals := 12 }) s m (List.toArray [.int a0]) below meth c H locs 0 0 (MQ below (va_Qi (P_X12_bits_2 ad cy B qr s1 a0 w0) (fun u : va_W => wpost dC dI cy A u) A) (List.toArray [.int a0]) s 0 0 A) (F0 m 4 ls []) := by
    intro n4
    induction n4 with
    | zero => intro v4_1 v4_2 H locs ls w1 r2 t3 r4 t5 hm4 hw hT hF hl; omega
    | succ n4 ih4 =>
      intro v4_1 v4_2 H locs ls w1 r2 t3 r4 t5 hm4 hw hT hF hl
      refine lv_iload_n hx hb dX12_bits_4 rfl (lv_at hl 2 rfl) ?_
      refine lv_if_eq (tgt := 20) hx hb dX12_bits_5 (by decide) (fun c6 => ?_) (fun c6 => ?_)
      · have c6 : v4_2.toInt = (0 : Int) := wk_eq.mp c6
        refine lv_iload_n hx hb dX12_bits_20 rfl (lv_at hl 1 rfl) ?_
        exact tk_iret hC hr hlocks hK ⟨hT, hF, trivial⟩ hw dX12_bits_21
      · have c6 : ¬ v4_2.toInt = (0 : Int) := wk_eqF c6
        have nx8 := wk_i32 v4_1
        obtain ⟨x7, ex7⟩ : ∃ y : Int32, y = v4_1 + Int32.ofInt 1 := ⟨_, rfl⟩
        refine lv_iinc (v := x7) (lv' := [(1, .int x7), (0, .int a0), (2, .int v4_2)]) hx hb dX12_bits_8 hl (k := 1) rfl ex7.symm (by decide) rfl (fun ls hl => ?_)
        refine lv_iload_n hx hb dX12_bits_11 rfl (lv_at hl 2 rfl) ?_
        refine lv_iload_n hx hb dX12_bits_12 rfl (lv_at hl 2 rfl) ?_
        refine lv_iconst (v := 1) hx hb dX12_bits_13 (by decide) ?_
        refine lv_isub hx hb dX12_bits_14 ?_
        refine lv_topi (fun x9 ex9 => ?_)
        have ex9 : x9.toInt = v4_2.toInt - (1 : Int) := by rw [ex9]; exact wk_sub (show (-2147483648) ≤ v4_2.toInt - (1 : Int) by omega) (show v4_2.toInt - (1 : Int) ≤ 2147483647 by omega)
        refine lv_iand hx hb dX12_bits_15 ?_
        refine lv_topi (fun x10 ex10 => ?_)
        have bx10 : 0 ≤ x10.toInt ∧ x10.toInt ≤ x9.toInt := by rw [ex10]; exact wk_and (by omega)
        refine lv_istore_n (lv' := [(2, .int x10), (1, .int x7), (0, .int a0)]) hx hb dX12_bits_16 rfl hl (by decide) rfl (fun ls hl => ?_)
        refine lv_goto (tgt := 4) hx hb dX12_bits_17 (by decide) ?_
        exact ih4 x7 x10 H locs ls w1 (show 0 ≤ a0.toInt by omega) (show a0.toInt ≤ 63 by omega) (show 0 ≤ x10.toInt by omega) (show x10.toInt ≤ 63 by omega) (show (x10.toInt - 0).toNat < n4 by omega) hw hT hF  (lv_sub hl [2, 1, 0] rfl)
  refine lv_iconst (v := 0) hx hb dX12_bits_0 (by decide) ?_
  refine lv_istore_n (lv' := [(1, .int 0), (0, .int a0)]) hx hb dX12_bits_1 rfl hl (by decide) rfl (fun ls hl => ?_)
  refine lv_iload_n hx hb dX12_bits_2 rfl (lv_at hl 1 rfl) ?_
  refine lv_istore_n (lv' := [(2, .int a0), (1, .int 0), (0, .int a0)]) hx hb dX12_bits_3 rfl hl (by decide) rfl (fun ls hl => ?_)
  exact L4 ((a0.toInt - 0).toNat + 1) 0 a0 s.heap locs ls w0 (show 0 ≤ a0.toInt by omega) (show a0.toInt ≤ 63 by omega) (show 0 ≤ a0.toInt by omega) (show a0.toInt ≤ 63 by omega) (Nat.lt_succ_self _) hw hT hF  (lv_sub hl [2, 1, 0] rfl)
abbrev P_X12_isOf_6 (ad : Nat → Nat) (cy : Nat → ClassId) (B : Int) (qr : Nat) (s1 : Int) (a0 : Int32) (a1 : Int32) (w0 : va_W) : Int32 → va_W → Prop := fun r u => TW ksM ad cy B qr 12 u ∧ FE ksM ([] : List (Nat × Nat × Nat)) w0 u ∧ ((r = 0) ∨ (r = 1))
set_option maxHeartbeats 4000000 in
set_option maxRecDepth 100000 in
theorem k_X12_isOf_6 (l : Launch) (adK adV : Nat → Nat) (dC : Nat → ClassId) (dI : Nat → Nat → Nat) (cy : Nat → ClassId) (ad : Nat → Nat) (B : Int) (hB0 : 100000 ≤ B) (hB1 : B ≤ 1073741824) (qr : Nat) (s1 : Int)  (a0 : Int32) (ra0 : 0 ≤ a0.toInt) (ta0 : a0.toInt ≤ 4095) (a1 : Int32) (w0 : va_W) (sz : Nat) (hT : TW ksM ad cy B qr 12 w0)  : Met l yX12_isOf wsX12_isOf ({ frames := 1, cells := 0, slots := 0, locals := 12 }) (va_Pc [.int a0, .int a1] (wpreS adK adV dC dI cy sz w0)) (va_Qi (P_X12_isOf_6 ad cy B qr s1 a0 a1 w0) (fun u : va_W => wpost dC dI cy (va_A w0 sz) u) (va_A w0 sz)) 0 0 (va_A w0 sz) := by
  refine Met.ofW (cc := cX12_isOf) (maxL := 2) (ret := (some .boolean)) (by decide) rfl ?_
  intro p e s m args below meth c s₁ Bk hml hv
  obtain ⟨rfl, ⟨hsz, hP, hK, hD0⟩, hE, hSR⟩ := hv
  have hx := Bk.exec
  have hb := Bk.bytes
  have hr := Bk.returns
  have hlocks := Bk.notSynchronized
  have hC : CallFix p m c cX12_isOf 2 s _ wsX12_isOf RX12 := ⟨hx, hb, hml, findClass_of_methodNamed Bk.named, atoms_spec (ws := wsX12_isOf) Bk.pre⟩
  subst hsz
  have hD := hD0.self (sz := s.heap.size)
  generalize hAe : va_A w0 s.heap.size = A at hD hE ⊢
  have hA : ∀ q : Nat, s.heap.size ≤ q → A q := fun q h => by rw [← hAe]; exact Or.inr h
  have hw : Wd dC dI A s.heap s.heap [] w0 := ⟨hP, hD, va_S.rf⟩
  have hF : FE ksM ([] : List (Nat × Nat × Nat)) w0 w0 := FE.rf
  have hl := lv_entry ([.int a0, .int a1]) (n := 2) (Nat.le_of_ble_eq_true rfl)
  rw [lg_entry_eq]
  generalize (lg_sl ([.int a0, .int a1]) ++ List.replicate (2 - (lg_sl ([.int a0, .int a1])).length) Slot.unset).toArray = ls at hl ⊢
  have hl : lv_has ls 2 [(0, .int a0), (1, .int a1)] := hl
  generalize hloc : ([] : List Loc) = locs at hw ⊢
  refine lv_iload_n hx hb dX12_isOf_0 rfl (lv_at hl 0 rfl) ?_
  refine lv_iload_n hx hb dX12_isOf_1 rfl (lv_at hl 1 rfl) ?_
  refine lv_ishr hx hb dX12_isOf_2 ?_
  refine lv_topi (fun x1 ex1 => ?_)
  have bx1 : 0 ≤ x1.toInt ∧ x1.toInt ≤ a0.toInt := by rw [ex1]; exact wk_shr (by omega)
  refine lv_iconst (v := 1) hx hb dX12_isOf_3 (by decide) ?_
  refine lv_iand hx hb dX12_isOf_4 ?_
  refine lv_topi (fun x2 ex2 => ?_)
  have bx2 : 0 ≤ x2.toInt ∧ x2.toInt ≤ (1 : Int) := by rw [ex2]; exact wk_and (by decide)
  refine lv_iconst (v := 1) hx hb dX12_isOf_5 (by decide) ?_
  refine lv_icmp_ne (tgt := 13) hx hb dX12_isOf_6 (by decide) (fun c3 => ?_) (fun c3 => ?_)
  · have c3 : ¬ x2.toInt = (1 : Int) := wk_eqF c3
    refine lv_iconst (v := 0) hx hb dX12_isOf_13 (by decide) ?_
    exact tk_zret hC hr rfl hlocks hK ⟨hT, hF, (Or.inl rfl)⟩ hw dX12_isOf_14
  · have c3 : x2.toInt = (1 : Int) := wk_eq.mp c3
    refine lv_iconst (v := 1) hx hb dX12_isOf_9 (by decide) ?_
    refine lv_goto (tgt := 14) hx hb dX12_isOf_10 (by decide) ?_
    exact tk_zret hC hr rfl hlocks hK ⟨hT, hF, (Or.inr rfl)⟩ hw dX12_isOf_14
abbrev P_X12_isOf_7 (ad : Nat → Nat) (cy : Nat → ClassId) (B : Int) (qr : Nat) (s1 : Int) (a0 : Int32) (a1 : Int32) (w0 : va_W) : Int32 → va_W → Prop := fun r u => TW ksM ad cy B qr 12 u ∧ FE ksM ([] : List (Nat × Nat × Nat)) w0 u ∧ ((r = 0) ∨ (r = 1))
set_option maxHeartbeats 4000000 in
set_option maxRecDepth 100000 in
theorem k_X12_isOf_7 (l : Launch) (adK adV : Nat → Nat) (dC : Nat → ClassId) (dI : Nat → Nat → Nat) (cy : Nat → ClassId) (ad : Nat → Nat) (B : Int) (hB0 : 100000 ≤ B) (hB1 : B ≤ 1073741824) (qr : Nat) (s1 : Int)  (a0 : Int32) (ra0 : 1 ≤ a0.toInt) (ta0 : a0.toInt ≤ 1023) (a1 : Int32) (ra1 : 0 ≤ a1.toInt) (ta1 : a1.toInt ≤ 9) (w0 : va_W) (sz : Nat) (hT : TW ksM ad cy B qr 12 w0)  : Met l yX12_isOf wsX12_isOf ({ frames := 1, cells := 0, slots := 0, locals := 12 }) (va_Pc [.int a0, .int a1] (wpreS adK adV dC dI cy sz w0)) (va_Qi (P_X12_isOf_7 ad cy B qr s1 a0 a1 w0) (fun u : va_W => wpost dC dI cy (va_A w0 sz) u) (va_A w0 sz)) 0 0 (va_A w0 sz) := by
  refine Met.ofW (cc := cX12_isOf) (maxL := 2) (ret := (some .boolean)) (by decide) rfl ?_
  intro p e s m args below meth c s₁ Bk hml hv
  obtain ⟨rfl, ⟨hsz, hP, hK, hD0⟩, hE, hSR⟩ := hv
  have hx := Bk.exec
  have hb := Bk.bytes
  have hr := Bk.returns
  have hlocks := Bk.notSynchronized
  have hC : CallFix p m c cX12_isOf 2 s _ wsX12_isOf RX12 := ⟨hx, hb, hml, findClass_of_methodNamed Bk.named, atoms_spec (ws := wsX12_isOf) Bk.pre⟩
  subst hsz
  have hD := hD0.self (sz := s.heap.size)
  generalize hAe : va_A w0 s.heap.size = A at hD hE ⊢
  have hA : ∀ q : Nat, s.heap.size ≤ q → A q := fun q h => by rw [← hAe]; exact Or.inr h
  have hw : Wd dC dI A s.heap s.heap [] w0 := ⟨hP, hD, va_S.rf⟩
  have hF : FE ksM ([] : List (Nat × Nat × Nat)) w0 w0 := FE.rf
  have hl := lv_entry ([.int a0, .int a1]) (n := 2) (Nat.le_of_ble_eq_true rfl)
  rw [lg_entry_eq]
  generalize (lg_sl ([.int a0, .int a1]) ++ List.replicate (2 - (lg_sl ([.int a0, .int a1])).length) Slot.unset).toArray = ls at hl ⊢
  have hl : lv_has ls 2 [(0, .int a0), (1, .int a1)] := hl
  generalize hloc : ([] : List Loc) = locs at hw ⊢
  refine lv_iload_n hx hb dX12_isOf_0 rfl (lv_at hl 0 rfl) ?_
  refine lv_iload_n hx hb dX12_isOf_1 rfl (lv_at hl 1 rfl) ?_
  refine lv_ishr hx hb dX12_isOf_2 ?_
  refine lv_topi (fun x1 ex1 => ?_)
  have bx1 : 0 ≤ x1.toInt ∧ x1.toInt ≤ a0.toInt := by rw [ex1]; exact wk_shr (by omega)
  refine lv_iconst (v := 1) hx hb dX12_isOf_3 (by decide) ?_
  refine lv_iand hx hb dX12_isOf_4 ?_
  refine lv_topi (fun x2 ex2 => ?_)
  have bx2 : 0 ≤ x2.toInt ∧ x2.toInt ≤ (1 : Int) := by rw [ex2]; exact wk_and (by decide)
  refine lv_iconst (v := 1) hx hb dX12_isOf_5 (by decide) ?_
  refine lv_icmp_ne (tgt := 13) hx hb dX12_isOf_6 (by decide) (fun c3 => ?_) (fun c3 => ?_)
  · have c3 : ¬ x2.toInt = (1 : Int) := wk_eqF c3
    refine lv_iconst (v := 0) hx hb dX12_isOf_13 (by decide) ?_
    exact tk_zret hC hr rfl hlocks hK ⟨hT, hF, (Or.inl rfl)⟩ hw dX12_isOf_14
  · have c3 : x2.toInt = (1 : Int) := wk_eq.mp c3
    refine lv_iconst (v := 1) hx hb dX12_isOf_9 (by decide) ?_
    refine lv_goto (tgt := 14) hx hb dX12_isOf_10 (by decide) ?_
    exact tk_zret hC hr rfl hlocks hK ⟨hT, hF, (Or.inr rfl)⟩ hw dX12_isOf_14
abbrev P_X12_comesTo_1 (ad : Nat → Nat) (cy : Nat → ClassId) (B : Int) (qr : Nat) (s1 : Int) (a1 : Int32) (a2 : Int32) (a3 : Int32) (w0 : va_W) : Int32 → va_W → Prop := fun r u => TW ksM ad cy B qr 12 u ∧ FE ksM ([] : List (Nat × Nat × Nat)) w0 u ∧ ((1 ≤ r.toInt ∧ r.toInt ≤ 1023))
set_option maxHeartbeats 4000000 in
set_option maxRecDepth 100000 in
theorem k_X12_comesTo_1 (l : Launch) (adK adV : Nat → Nat) (dC : Nat → ClassId) (dI : Nat → Nat → Nat) (cy : Nat → ClassId) (ad : Nat → Nat) (B : Int) (hB0 : 100000 ≤ B) (hB1 : B ≤ 1073741824) (qr : Nat) (s1 : Int)  (a1 : Int32) (ra1 : 0 ≤ a1.toInt) (ta1 : a1.toInt ≤ 6) (a2 : Int32) (ra2 : 0 ≤ a2.toInt) (ta2 : a2.toInt ≤ 4095) (a3 : Int32) (ra3 : 0 ≤ a3.toInt) (ta3 : a3.toInt ≤ 9) (w0 : va_W) (sz : Nat) (hT : TW ksM ad cy B qr 12 w0)  : Met l yX12_comesTo wsX12_comesTo ({ frames := 2, cells := 0, slots := 0, locals := 34 }) (va_Pc [.ref (ad 0), .int a1, .int a2, .int a3] (wpreS adK adV dC dI cy sz w0)) (va_Qi (P_X12_comesTo_1 ad cy B qr s1 a1 a2 a3 w0) (fun u : va_W => wpost dC dI cy (va_A w0 sz) u) (va_A w0 sz)) 0 0 (va_A w0 sz) := by
  refine Met.ofW (cc := cX12_comesTo) (maxL := 9) (ret := (some .int)) (by decide) rfl ?_
  intro p e s m args below meth c s₁ Bk hml hv
  obtain ⟨rfl, ⟨hsz, hP, hK, hD0⟩, hE, hSR⟩ := hv
  have hx := Bk.exec
  have hb := Bk.bytes
  have hr := Bk.returns
  have hlocks := Bk.notSynchronized
  have hC : CallFix p m c cX12_comesTo 9 s _ wsX12_comesTo RX12 := ⟨hx, hb, hml, findClass_of_methodNamed Bk.named, atoms_spec (ws := wsX12_comesTo) Bk.pre⟩
  subst hsz
  have hD := hD0.self (sz := s.heap.size)
  generalize hAe : va_A w0 s.heap.size = A at hD hE ⊢
  have hA : ∀ q : Nat, s.heap.size ≤ q → A q := fun q h => by rw [← hAe]; exact Or.inr h
  have hw : Wd dC dI A s.heap s.heap [] w0 := ⟨hP, hD, va_S.rf⟩
  have hF : FE ksM ([] : List (Nat × Nat × Nat)) w0 w0 := FE.rf
  have hl := lv_entry ([.ref (ad 0), .int a1, .int a2, .int a3]) (n := 9) (Nat.le_of_ble_eq_true rfl)
  rw [lg_entry_eq]
  generalize (lg_sl ([.ref (ad 0), .int a1, .int a2, .int a3]) ++ List.replicate (9 - (lg_sl ([.ref (ad 0), .int a1, .int a2, .int a3])).length) Slot.unset).toArray = ls at hl ⊢
  have hl : lv_has ls 9 [(0, .ref (ad 0)), (1, .int a1), (2, .int a2), (3, .int a3)] := hl
  generalize hloc : ([] : List Loc) = locs at hw ⊢
  have hinX12 : ∀ w ∈ u_ws RX12 TX12 42, w ∈ wsX12_comesTo := fun _ h => List.mem_cons_of_mem _ (List.mem_append_right _ (h))
  have L8 : ∀ (n8 : Nat) (v8_4 : Int32) (v8_5 : Int32) (H : Heap) (locs : List Loc) (ls : Array Slot) (w1 : va_W), 0 ≤ a1.toInt → a1.toInt ≤ 6 → 0 ≤ a2.toInt → a2.toInt ≤ 4095 → 0 ≤ a3.toInt → a3.toInt ≤ 9 → 1 ≤ v8_4.toInt → v8_4.toInt ≤ 1023 → 0 ≤ v8_5.toInt → v8_5.toInt ≤ 1023 → v8_5.toInt ≤ v8_4.toInt + 0 → (1023 - v8_5.toInt).toNat < n8 → Wd dC dI A s.heap H locs w1 → TW ksM ad cy B qr 12 w1 → FE ksM ([] : List (Nat × Nat × Nat)) w0 w1 → lv_has ls 9 [(0, .ref (ad 0)), (1, .int a1), (2, .int a2), (3, .int a3), (4, .int v8_4), (5, .int v8_5)] → W p l e ({ frames := 2, cells := 0, slots := 0, locals := 34 }) s m (List.toArray [.ref (ad 0), .int a1, .int a2, .int a3]) below meth c H locs 0 0 (MQ below (va_Qi (P_X12_comesTo_1 ad cy B qr s1 a1 a2 a3 w0) (fun u : va_W => wpost dC dI cy A u) A) (List.toArray [.ref (ad 0), .int a1, .int a2, .int a3]) s 0 0 A) (F0 m 8 ls []) := by
    intro n8
    induction n8 with
    | zero => intro v8_4 v8_5 H locs ls w1 r2 t3 r4 t5 r6 t7 r8 t9 r10 t11 i12 hm8 hw hT hF hl; omega
    | succ n8 ih8 =>
      intro v8_4 v8_5 H locs ls w1 r2 t3 r4 t5 r6 t7 r8 t9 r10 t11 i12 hm8 hw hT hF hl
      have L25 : ∀ (n25 : Nat) (v25_4 : Int32) (v25_6 : Int32) (v25_7 : Int32) (H : Heap) (locs : List Loc) (ls : Array Slot) (w13 : va_W), 0 ≤ a1.toInt → a1.toInt ≤ 6 → 0 ≤ a2.toInt → a2.toInt ≤ 4095 → 0 ≤ a3.toInt → a3.toInt ≤ 9 → 1 ≤ v25_4.toInt → v25_4.toInt ≤ 1023 → 1 ≤ v8_4.toInt → v8_4.toInt ≤ 1023 → 0 ≤ v25_7.toInt → v25_7.toInt ≤ 12 → v8_4.toInt ≤ v25_4.toInt + 0 → (12 - v25_7.toInt).toNat < n25 → Wd dC dI A s.heap H locs w13 → TW ksM ad cy B qr 12 w13 → FE ksM ([] : List (Nat × Nat × Nat)) w0 w13 → lv_has ls 9 [(0, .ref (ad 0)), (1, .int a1), (2, .int a2), (3, .int a3), (4, .int v25_4), (5, .int v8_4), (6, .int v25_6), (7, .int v25_7)] → W p l e ({ frames := 2, cells := 0, slots := 0, locals := 34 }) s m (List.toArray [.ref (ad 0), .int a1, .int a2, .int a3]) below meth c H locs 0 0 (MQ below (va_Qi (P_X12_comesTo_1 ad cy B qr s1 a1 a2 a3 w0) (fun u : va_W => wpost dC dI cy A u) A) (List.toArray [.ref (ad 0), .int a1, .int a2, .int a3]) s 0 0 A) (F0 m 25 ls []) := by
        intro n25
        induction n25 with
        | zero => intro v25_4 v25_6 v25_7 H locs ls w13 r14 t15 r16 t17 r18 t19 r20 t21 r22 t23 r24 t25 i26 hm25 hw hT hF hl; omega
        | succ n25 ih25 =>
          intro v25_4 v25_6 v25_7 H locs ls w13 r14 t15 r16 t17 r18 t19 r20 t21 r22 t23 r24 t25 i26 hm25 hw hT hF hl
          have J107 : ∀ (v107_4 : Int32) (v107_6 : Int32) (f107_12_1 : Int32) (H : Heap) (locs : List Loc) (ls : Array Slot) (w27 : va_W), 0 ≤ a1.toInt → a1.toInt ≤ 6 → 0 ≤ a2.toInt → a2.toInt ≤ 4095 → 0 ≤ a3.toInt → a3.toInt ≤ 9 → 1 ≤ v107_4.toInt → v107_4.toInt ≤ 1023 → 1 ≤ v8_4.toInt → v8_4.toInt ≤ 1023 → 0 ≤ v25_7.toInt → v25_7.toInt ≤ 11 → 1 ≤ f107_12_1.toInt → f107_12_1.toInt ≤ 12 → v8_4.toInt ≤ v107_4.toInt + 0 → Wd dC dI A s.heap H locs w27 → TW ksM ad cy B qr 12 w27 → FE ksM ([] : List (Nat × Nat × Nat)) w0 w27 → gi w27 12 1 = f107_12_1 → lv_has ls 9 [(0, .ref (ad 0)), (1, .int a1), (2, .int a2), (3, .int a3), (4, .int v107_4), (5, .int v8_4), (6, .int v107_6), (7, .int v25_7)] → W p l e ({ frames := 2, cells := 0, slots := 0, locals := 34 }) s m (List.toArray [.ref (ad 0), .int a1, .int a2, .int a3]) below meth c H locs 0 0 (MQ below (va_Qi (P_X12_comesTo_1 ad cy B qr s1 a1 a2 a3 w0) (fun u : va_W => wpost dC dI cy A u) A) (List.toArray [.ref (ad 0), .int a1, .int a2, .int a3]) s 0 0 A) (F0 m 107 ls []) := by
            intro v107_4 v107_6 f107_12_1 H locs ls w27 r28 t29 r30 t31 r32 t33 r34 t35 r36 t37 r38 t39 r40 t41 i43 hw hT hF c42 hl
            obtain ⟨x44, ex44⟩ : ∃ y : Int32, y = v25_7 + Int32.ofInt 1 := ⟨_, rfl⟩
            refine lv_iinc (v := x44) (lv' := [(7, .int x44), (0, .ref (ad 0)), (1, .int a1), (2, .int a2), (3, .int a3), (4, .int v107_4), (5, .int v8_4), (6, .int v107_6)]) hx hb dX12_comesTo_107 hl (k := 7) rfl ex44.symm (by decide) rfl (fun ls hl => ?_)
            have ex44 : x44.toInt = v25_7.toInt + 1 := by rw [ex44]; exact wk_add (y := 1) (show -2147483648 ≤ v25_7.toInt + 1 by omega) (show v25_7.toInt + 1 ≤ 2147483647 by omega)
            refine lv_goto (tgt := 25) hx hb dX12_comesTo_110 (by decide) ?_
            exact ih25 v107_4 v107_6 x44 H locs ls w27 (show 0 ≤ a1.toInt by omega) (show a1.toInt ≤ 6 by omega) (show 0 ≤ a2.toInt by omega) (show a2.toInt ≤ 4095 by omega) (show 0 ≤ a3.toInt by omega) (show a3.toInt ≤ 9 by omega) (show 1 ≤ v107_4.toInt by omega) (show v107_4.toInt ≤ 1023 by omega) (show 1 ≤ v8_4.toInt by omega) (show v8_4.toInt ≤ 1023 by omega) (show 0 ≤ x44.toInt by omega) (show x44.toInt ≤ 12 by omega) (show v8_4.toInt ≤ v107_4.toInt + 0 by omega) (show (12 - x44.toInt).toNat < n25 by omega) hw hT hF  (lv_sub hl [1, 2, 3, 4, 5, 6, 7, 0] rfl)
          refine lv_iload hx hb dX12_comesTo_25 (lv_at hl 7 rfl) ?_
          refine lv_aload_n hx hb dX12_comesTo_27 rfl (lv_at hl 0 rfl) ?_
          refine tk_getA hC hK hw hT hinX12 kM_at0 (by decide) rfl 26 (by decide) (List.mem_of_getElem? (i := 1) rfl) rfl rfl dX12_comesTo_28 ?_
          refine lv_iconst (v := 1) hx hb dX12_comesTo_31 (by decide) ?_
          refine tk_ialdR hC hK hw hT kM_at12 rfl (by decide) (by decide) dX12_comesTo_32 (fun x45 c46 Ex45 => ?_)
          have bx45 : 0 ≤ x45.toInt ∧ x45.toInt ≤ 12 := (tk_rg1 rfl).mp Ex45
          have c46 : gi w13 12 1 = x45 := c46
          refine lv_icmp_ge (tgt := 113) hx hb dX12_comesTo_33 (by decide) (fun c47 => ?_) (fun c47 => ?_)
          · have c47 : x45.toInt ≤ v25_7.toInt := wk_le.mp c47
            refine lv_goto (tgt := 8) hx hb dX12_comesTo_113 (by decide) ?_
            exact ih8 v25_4 v8_4 H locs ls w13 (show 0 ≤ a1.toInt by omega) (show a1.toInt ≤ 6 by omega) (show 0 ≤ a2.toInt by omega) (show a2.toInt ≤ 4095 by omega) (show 0 ≤ a3.toInt by omega) (show a3.toInt ≤ 9 by omega) (show 1 ≤ v25_4.toInt by omega) (show v25_4.toInt ≤ 1023 by omega) (show 0 ≤ v8_4.toInt by omega) (show v8_4.toInt ≤ 1023 by omega) (show v8_4.toInt ≤ v25_4.toInt + 0 by omega) (show (1023 - v8_4.toInt).toNat < n8 by omega) hw hT hF  (lv_sub hl [0, 1, 2, 3, 4, 5] rfl)
          · have c47 : v25_7.toInt < x45.toInt := wk_leF c47
            refine lv_aload_n hx hb dX12_comesTo_36 rfl (lv_at hl 0 rfl) ?_
            refine lv_iload hx hb dX12_comesTo_37 (lv_at hl 7 rfl) ?_
            refine lv_iconst (v := 3) hx hb dX12_comesTo_39 (by decide) ?_
            refine lv_iload_n hx hb dX12_comesTo_40 rfl (lv_at hl 1 rfl) ?_
            refine lv_iadd hx hb dX12_comesTo_41 ?_
            refine lv_topi (fun x48 ex48 => ?_)
            have ex48 : x48.toInt = (3 : Int) + a1.toInt := by rw [ex48]; exact wk_add (show (-2147483648) ≤ (3 : Int) + a1.toInt by omega) (show (3 : Int) + a1.toInt ≤ 2147483647 by omega)
            refine tk_Vi hC hK hw hT hA hE hSR kM_at0 (by decide) rfl (k_X12_streetOf_4 l adK adV dC dI cy ad B (by omega) (by omega) qr s1   v25_7 (show 0 ≤ v25_7.toInt by omega) (show v25_7.toInt ≤ 11 by omega) x48 (show 3 ≤ x48.toInt by omega) (show x48.toInt ≤ 9 by omega) w13 H.size hT ) (cwV 2 hC.2.2.2.2 gX12_comesTo_X12_streetOf rfl rfl rfl (by decide +kernel) ⟨Nat.le_of_ble_eq_true rfl, Nat.le_of_ble_eq_true rfl⟩) rfl hl.1 rfl (Nat.le_of_ble_eq_true rfl) dX12_comesTo_42 (fun r49 w51 H locs hp50 hw => ?_)
            obtain ⟨hT, k52, hg55⟩ := hp50
            have hF := hF.tr k52 (by decide)
            have c56 := k52.gi kM_at12 (by decide) c46
            obtain ⟨g53, g54⟩ := hg55
            refine lv_if_ne (tgt := 51) hx hb dX12_comesTo_45 (by decide) (fun c57 => ?_) (fun c57 => ?_)
            · have c57 : ¬ r49.toInt = (0 : Int) := wk_eqF c57
              refine lv_iload_n hx hb dX12_comesTo_51 rfl (lv_at hl 2 rfl) ?_
              refine lv_iload hx hb dX12_comesTo_52 (lv_at hl 6 rfl) ?_
              refine tk_Si hC hK hw hT hA hE hSR (k_X12_isOf_6 l adK adV dC dI cy ad B (by omega) (by omega) qr s1   a2 (show 0 ≤ a2.toInt by omega) (show a2.toInt ≤ 4095 by omega) v25_6 w51 H.size hT ) (va_cwS 2 hC.2.2.2.2 gX12_comesTo_X12_isOf rfl rfl rfl (by decide +kernel) ⟨Nat.le_of_ble_eq_true rfl, Nat.le_of_ble_eq_true rfl⟩) rfl hl.1 rfl (Nat.le_of_ble_eq_true rfl) dX12_comesTo_54 (fun r58 w60 H locs hp59 hw => ?_)
              obtain ⟨hT, k61, hg62⟩ := hp59
              have hF := hF.tr k61 (by decide)
              have c63 := k61.gi kM_at12 (by decide) c56
              rcases hg62 with rfl | rfl
              · refine lv_if_eq (tgt := 64) hx hb dX12_comesTo_57 (by decide) (fun _ => ?_) (fun c => absurd (by decide) c)
                refine lv_iconst (v := 0) hx hb dX12_comesTo_64 (by decide) ?_
                refine lv_istore (lv' := [(8, .int 0), (0, .ref (ad 0)), (1, .int a1), (2, .int a2), (3, .int a3), (4, .int v25_4), (5, .int v8_4), (6, .int v25_6), (7, .int v25_7)]) hx hb dX12_comesTo_65 hl (by decide) rfl (fun ls hl => ?_)
                refine lv_iload hx hb dX12_comesTo_67 (lv_at hl 5 rfl) ?_
                refine lv_iload hx hb dX12_comesTo_69 (lv_at hl 5 rfl) ?_
                refine lv_aload_n hx hb dX12_comesTo_71 rfl (lv_at hl 1 rfl) ?_
                refine lv_iload hx hb dX12_comesTo_72 (lv_at hl 8 rfl) ?_
                refine lv_iload hx hb dX12_comesTo_74 (lv_at hl 0 rfl) ?_
                refine tk_Vi hC hK hw hT hA hE hSR kM_at0 (by decide) rfl (k_X12_streetOf_2 l adK adV dC dI cy ad B (by omega) (by omega) qr s1   v25_7 (show 0 ≤ v25_7.toInt by omega) (show v25_7.toInt ≤ 11 by omega) w60 H.size hT ) (cwV 2 hC.2.2.2.2 gX12_comesTo_X12_streetOf rfl rfl rfl (by decide +kernel) ⟨Nat.le_of_ble_eq_true rfl, Nat.le_of_ble_eq_true rfl⟩) rfl hl.1 rfl (Nat.le_of_ble_eq_true rfl) dX12_comesTo_76 (fun r64 w66 H locs hp65 hw => ?_)
                obtain ⟨hT, k67, hg71⟩ := hp65
                have hF := hF.tr k67 (by decide)
                have c72 := k67.gi kM_at12 (by decide) c63
                obtain ⟨g68, g69, c70⟩ := hg71
                refine tk_Si hC hK hw hT hA hE hSR (k_X12_isOf_7 l adK adV dC dI cy ad B (by omega) (by omega) qr s1   v25_4 (show 1 ≤ v25_4.toInt by omega) (show v25_4.toInt ≤ 1023 by omega) r64 (show 0 ≤ r64.toInt by omega) (show r64.toInt ≤ 9 by omega) w66 H.size hT ) (va_cwS 2 hC.2.2.2.2 gX12_comesTo_X12_isOf rfl rfl rfl (by decide +kernel) ⟨Nat.le_of_ble_eq_true rfl, Nat.le_of_ble_eq_true rfl⟩) rfl hl.1 rfl (Nat.le_of_ble_eq_true rfl) dX12_comesTo_79 (fun r73 w75 H locs hp74 hw => ?_)
                obtain ⟨hT, k76, hg77⟩ := hp74
                have hF := hF.tr k76 (by decide)
                have c78 := k76.gi kM_at12 (by decide) c72
                have c79 := k76.gi kM_at12 rfl c70
                rcases hg77 with rfl | rfl
                · refine lv_if_eq (tgt := 100) hx hb dX12_comesTo_82 (by decide) (fun _ => ?_) (fun c => absurd (by decide) c)
                  refine lv_iconst (v := 0) hx hb dX12_comesTo_100 (by decide) ?_
                  refine lv_ior hx hb dX12_comesTo_101 ?_
                  refine lv_topi (fun x80 ex80 => ?_)
                  have bx80 : 0 ≤ x80.toInt ∧ x80.toInt < 1024 := by rw [ex80]; exact wk_or 10 (by decide) (by omega) (by omega) (by decide) (by decide)
                  have mx80 : v25_4.toInt ≤ x80.toInt ∧ (0 : Int) ≤ x80.toInt := by rw [ex80]; exact wk_orL 10 (by decide) (by omega) (by omega) (by decide) (by decide)
                  refine lv_istore (lv' := [(4, .int x80), (8, .int 0), (0, .ref (ad 0)), (1, .int a1), (2, .int a2), (3, .int a3), (5, .int v8_4), (6, .int v25_6), (7, .int v25_7)]) hx hb dX12_comesTo_102 hl (by decide) rfl (fun ls hl => ?_)
                  have nx82 := wk_i32 v25_6
                  obtain ⟨x81, ex81⟩ : ∃ y : Int32, y = v25_6 + Int32.ofInt 1 := ⟨_, rfl⟩
                  refine lv_iinc (v := x81) (lv' := [(6, .int x81), (4, .int x80), (8, .int 0), (0, .ref (ad 0)), (1, .int a1), (2, .int a2), (3, .int a3), (5, .int v8_4), (7, .int v25_7)]) hx hb dX12_comesTo_104 hl (k := 7) rfl ex81.symm (by decide) rfl (fun ls hl => ?_)
                  exact J107 x80 x81 x45 H locs ls w75 (show 0 ≤ a1.toInt by omega) (show a1.toInt ≤ 6 by omega) (show 0 ≤ a2.toInt by omega) (show a2.toInt ≤ 4095 by omega) (show 0 ≤ a3.toInt by omega) (show a3.toInt ≤ 9 by omega) (show 1 ≤ x80.toInt by omega) (show x80.toInt ≤ 1023 by omega) (show 1 ≤ v8_4.toInt by omega) (show v8_4.toInt ≤ 1023 by omega) (show 0 ≤ v25_7.toInt by omega) (show v25_7.toInt ≤ 11 by omega) (show 1 ≤ x45.toInt by omega) (show x45.toInt ≤ 12 by omega) (show v8_4.toInt ≤ x80.toInt + 0 by omega)  hw hT hF c78 (lv_sub hl [3, 4, 5, 6, 1, 7, 0, 8] rfl)
                · refine lv_if_eq (tgt := 100) hx hb dX12_comesTo_82 (by decide) (fun c => absurd c (by decide)) (fun _ => ?_)
                  refine lv_iconst (v := 1) hx hb dX12_comesTo_85 (by decide) ?_
                  refine lv_aload_n hx hb dX12_comesTo_86 rfl (lv_at hl 1 rfl) ?_
                  refine lv_iload hx hb dX12_comesTo_87 (lv_at hl 8 rfl) ?_
                  refine lv_iconst (v := 1) hx hb dX12_comesTo_89 (by decide) ?_
                  refine lv_iload hx hb dX12_comesTo_90 (lv_at hl 0 rfl) ?_
                  refine lv_isub hx hb dX12_comesTo_92 ?_
                  refine wk_top 1 (by decide) ?_
                  refine tk_Vi hC hK hw hT hA hE hSR kM_at0 (by decide) rfl (k_X12_streetOf_3 l adK adV dC dI cy ad B (by omega) (by omega) qr s1   v25_7 (show 0 ≤ v25_7.toInt by omega) (show v25_7.toInt ≤ 11 by omega) w75 H.size hT ) (cwV 2 hC.2.2.2.2 gX12_comesTo_X12_streetOf rfl rfl rfl (by decide +kernel) ⟨Nat.le_of_ble_eq_true rfl, Nat.le_of_ble_eq_true rfl⟩) rfl hl.1 rfl (Nat.le_of_ble_eq_true rfl) dX12_comesTo_93 (fun r83 w85 H locs hp84 hw => ?_)
                  obtain ⟨hT, k86, hg90⟩ := hp84
                  have hF := hF.tr k86 (by decide)
                  have c91 := k86.gi kM_at12 (by decide) c78
                  have c92 := k86.gi kM_at12 rfl c79
                  obtain ⟨g87, g88, c89⟩ := hg90
                  refine lv_ishl hx hb dX12_comesTo_96 ?_
                  refine lv_topi (fun x93 ex93 => ?_)
                  have bx93 : 1 ≤ x93.toInt ∧ x93.toInt ≤ 512 := by rw [ex93]; exact wk_shl1 9 (by decide) (by omega) (by omega)
                  refine lv_goto (tgt := 101) hx hb dX12_comesTo_97 (by decide) ?_
                  refine lv_ior hx hb dX12_comesTo_101 ?_
                  refine lv_topi (fun x94 ex94 => ?_)
                  have bx94 : 0 ≤ x94.toInt ∧ x94.toInt < 1024 := by rw [ex94]; exact wk_or 10 (by decide) (by omega) (by omega) (by omega) (by omega)
                  have mx94 : v25_4.toInt ≤ x94.toInt ∧ x93.toInt ≤ x94.toInt := by rw [ex94]; exact wk_orL 10 (by decide) (by omega) (by omega) (by omega) (by omega)
                  refine lv_istore (lv' := [(4, .int x94), (8, .int 0), (0, .ref (ad 0)), (1, .int a1), (2, .int a2), (3, .int a3), (5, .int v8_4), (6, .int v25_6), (7, .int v25_7)]) hx hb dX12_comesTo_102 hl (by decide) rfl (fun ls hl => ?_)
                  have nx96 := wk_i32 v25_6
                  obtain ⟨x95, ex95⟩ : ∃ y : Int32, y = v25_6 + Int32.ofInt 1 := ⟨_, rfl⟩
                  refine lv_iinc (v := x95) (lv' := [(6, .int x95), (4, .int x94), (8, .int 0), (0, .ref (ad 0)), (1, .int a1), (2, .int a2), (3, .int a3), (5, .int v8_4), (7, .int v25_7)]) hx hb dX12_comesTo_104 hl (k := 7) rfl ex95.symm (by decide) rfl (fun ls hl => ?_)
                  exact J107 x94 x95 x45 H locs ls w85 (show 0 ≤ a1.toInt by omega) (show a1.toInt ≤ 6 by omega) (show 0 ≤ a2.toInt by omega) (show a2.toInt ≤ 4095 by omega) (show 0 ≤ a3.toInt by omega) (show a3.toInt ≤ 9 by omega) (show 1 ≤ x94.toInt by omega) (show x94.toInt ≤ 1023 by omega) (show 1 ≤ v8_4.toInt by omega) (show v8_4.toInt ≤ 1023 by omega) (show 0 ≤ v25_7.toInt by omega) (show v25_7.toInt ≤ 11 by omega) (show 1 ≤ x45.toInt by omega) (show x45.toInt ≤ 12 by omega) (show v8_4.toInt ≤ x94.toInt + 0 by omega)  hw hT hF c91 (lv_sub hl [3, 4, 5, 6, 1, 7, 0, 8] rfl)
              · refine lv_if_eq (tgt := 64) hx hb dX12_comesTo_57 (by decide) (fun c => absurd c (by decide)) (fun _ => ?_)
                refine lv_iconst (v := 1) hx hb dX12_comesTo_60 (by decide) ?_
                refine lv_goto (tgt := 65) hx hb dX12_comesTo_61 (by decide) ?_
                refine lv_istore (lv' := [(8, .int 1), (0, .ref (ad 0)), (1, .int a1), (2, .int a2), (3, .int a3), (4, .int v25_4), (5, .int v8_4), (6, .int v25_6), (7, .int v25_7)]) hx hb dX12_comesTo_65 hl (by decide) rfl (fun ls hl => ?_)
                refine lv_iload hx hb dX12_comesTo_67 (lv_at hl 5 rfl) ?_
                refine lv_iload hx hb dX12_comesTo_69 (lv_at hl 5 rfl) ?_
                refine lv_aload_n hx hb dX12_comesTo_71 rfl (lv_at hl 1 rfl) ?_
                refine lv_iload hx hb dX12_comesTo_72 (lv_at hl 8 rfl) ?_
                refine lv_iload hx hb dX12_comesTo_74 (lv_at hl 0 rfl) ?_
                refine tk_Vi hC hK hw hT hA hE hSR kM_at0 (by decide) rfl (k_X12_streetOf_3 l adK adV dC dI cy ad B (by omega) (by omega) qr s1   v25_7 (show 0 ≤ v25_7.toInt by omega) (show v25_7.toInt ≤ 11 by omega) w60 H.size hT ) (cwV 2 hC.2.2.2.2 gX12_comesTo_X12_streetOf rfl rfl rfl (by decide +kernel) ⟨Nat.le_of_ble_eq_true rfl, Nat.le_of_ble_eq_true rfl⟩) rfl hl.1 rfl (Nat.le_of_ble_eq_true rfl) dX12_comesTo_76 (fun r97 w99 H locs hp98 hw => ?_)
                obtain ⟨hT, k100, hg104⟩ := hp98
                have hF := hF.tr k100 (by decide)
                have c105 := k100.gi kM_at12 (by decide) c63
                obtain ⟨g101, g102, c103⟩ := hg104
                refine tk_Si hC hK hw hT hA hE hSR (k_X12_isOf_7 l adK adV dC dI cy ad B (by omega) (by omega) qr s1   v25_4 (show 1 ≤ v25_4.toInt by omega) (show v25_4.toInt ≤ 1023 by omega) r97 (show 0 ≤ r97.toInt by omega) (show r97.toInt ≤ 9 by omega) w99 H.size hT ) (va_cwS 2 hC.2.2.2.2 gX12_comesTo_X12_isOf rfl rfl rfl (by decide +kernel) ⟨Nat.le_of_ble_eq_true rfl, Nat.le_of_ble_eq_true rfl⟩) rfl hl.1 rfl (Nat.le_of_ble_eq_true rfl) dX12_comesTo_79 (fun r106 w108 H locs hp107 hw => ?_)
                obtain ⟨hT, k109, hg110⟩ := hp107
                have hF := hF.tr k109 (by decide)
                have c111 := k109.gi kM_at12 (by decide) c105
                have c112 := k109.gi kM_at12 rfl c103
                rcases hg110 with rfl | rfl
                · refine lv_if_eq (tgt := 100) hx hb dX12_comesTo_82 (by decide) (fun _ => ?_) (fun c => absurd (by decide) c)
                  refine lv_iconst (v := 0) hx hb dX12_comesTo_100 (by decide) ?_
                  refine lv_ior hx hb dX12_comesTo_101 ?_
                  refine lv_topi (fun x113 ex113 => ?_)
                  have bx113 : 0 ≤ x113.toInt ∧ x113.toInt < 1024 := by rw [ex113]; exact wk_or 10 (by decide) (by omega) (by omega) (by decide) (by decide)
                  have mx113 : v25_4.toInt ≤ x113.toInt ∧ (0 : Int) ≤ x113.toInt := by rw [ex113]; exact wk_orL 10 (by decide) (by omega) (by omega) (by decide) (by decide)
                  refine lv_istore (lv' := [(4, .int x113), (8, .int 1), (0, .ref (ad 0)), (1, .int a1), (2, .int a2), (3, .int a3), (5, .int v8_4), (6, .int v25_6), (7, .int v25_7)]) hx hb dX12_comesTo_102 hl (by decide) rfl (fun ls hl => ?_)
                  have nx115 := wk_i32 v25_6
                  obtain ⟨x114, ex114⟩ : ∃ y : Int32, y = v25_6 + Int32.ofInt 1 := ⟨_, rfl⟩
                  refine lv_iinc (v := x114) (lv' := [(6, .int x114), (4, .int x113), (8, .int 1), (0, .ref (ad 0)), (1, .int a1), (2, .int a2), (3, .int a3), (5, .int v8_4), (7, .int v25_7)]) hx hb dX12_comesTo_104 hl (k := 7) rfl ex114.symm (by decide) rfl (fun ls hl => ?_)
                  exact J107 x113 x114 x45 H locs ls w108 (show 0 ≤ a1.toInt by omega) (show a1.toInt ≤ 6 by omega) (show 0 ≤ a2.toInt by omega) (show a2.toInt ≤ 4095 by omega) (show 0 ≤ a3.toInt by omega) (show a3.toInt ≤ 9 by omega) (show 1 ≤ x113.toInt by omega) (show x113.toInt ≤ 1023 by omega) (show 1 ≤ v8_4.toInt by omega) (show v8_4.toInt ≤ 1023 by omega) (show 0 ≤ v25_7.toInt by omega) (show v25_7.toInt ≤ 11 by omega) (show 1 ≤ x45.toInt by omega) (show x45.toInt ≤ 12 by omega) (show v8_4.toInt ≤ x113.toInt + 0 by omega)  hw hT hF c111 (lv_sub hl [3, 4, 5, 6, 1, 7, 0, 8] rfl)
                · refine lv_if_eq (tgt := 100) hx hb dX12_comesTo_82 (by decide) (fun c => absurd c (by decide)) (fun _ => ?_)
                  refine lv_iconst (v := 1) hx hb dX12_comesTo_85 (by decide) ?_
                  refine lv_aload_n hx hb dX12_comesTo_86 rfl (lv_at hl 1 rfl) ?_
                  refine lv_iload hx hb dX12_comesTo_87 (lv_at hl 8 rfl) ?_
                  refine lv_iconst (v := 1) hx hb dX12_comesTo_89 (by decide) ?_
                  refine lv_iload hx hb dX12_comesTo_90 (lv_at hl 0 rfl) ?_
                  refine lv_isub hx hb dX12_comesTo_92 ?_
                  refine wk_top 0 (by decide) ?_
                  refine tk_Vi hC hK hw hT hA hE hSR kM_at0 (by decide) rfl (k_X12_streetOf_2 l adK adV dC dI cy ad B (by omega) (by omega) qr s1   v25_7 (show 0 ≤ v25_7.toInt by omega) (show v25_7.toInt ≤ 11 by omega) w108 H.size hT ) (cwV 2 hC.2.2.2.2 gX12_comesTo_X12_streetOf rfl rfl rfl (by decide +kernel) ⟨Nat.le_of_ble_eq_true rfl, Nat.le_of_ble_eq_true rfl⟩) rfl hl.1 rfl (Nat.le_of_ble_eq_true rfl) dX12_comesTo_93 (fun r116 w118 H locs hp117 hw => ?_)
                  obtain ⟨hT, k119, hg123⟩ := hp117
                  have hF := hF.tr k119 (by decide)
                  have c124 := k119.gi kM_at12 (by decide) c111
                  have c125 := k119.gi kM_at12 rfl c112
                  obtain ⟨g120, g121, c122⟩ := hg123
                  refine lv_ishl hx hb dX12_comesTo_96 ?_
                  refine lv_topi (fun x126 ex126 => ?_)
                  have bx126 : 1 ≤ x126.toInt ∧ x126.toInt ≤ 512 := by rw [ex126]; exact wk_shl1 9 (by decide) (by omega) (by omega)
                  refine lv_goto (tgt := 101) hx hb dX12_comesTo_97 (by decide) ?_
                  refine lv_ior hx hb dX12_comesTo_101 ?_
                  refine lv_topi (fun x127 ex127 => ?_)
                  have bx127 : 0 ≤ x127.toInt ∧ x127.toInt < 1024 := by rw [ex127]; exact wk_or 10 (by decide) (by omega) (by omega) (by omega) (by omega)
                  have mx127 : v25_4.toInt ≤ x127.toInt ∧ x126.toInt ≤ x127.toInt := by rw [ex127]; exact wk_orL 10 (by decide) (by omega) (by omega) (by omega) (by omega)
                  refine lv_istore (lv' := [(4, .int x127), (8, .int 1), (0, .ref (ad 0)), (1, .int a1), (2, .int a2), (3, .int a3), (5, .int v8_4), (6, .int v25_6), (7, .int v25_7)]) hx hb dX12_comesTo_102 hl (by decide) rfl (fun ls hl => ?_)
                  have nx129 := wk_i32 v25_6
                  obtain ⟨x128, ex128⟩ : ∃ y : Int32, y = v25_6 + Int32.ofInt 1 := ⟨_, rfl⟩
                  refine lv_iinc (v := x128) (lv' := [(6, .int x128), (4, .int x127), (8, .int 1), (0, .ref (ad 0)), (1, .int a1), (2, .int a2), (3, .int a3), (5, .int v8_4), (7, .int v25_7)]) hx hb dX12_comesTo_104 hl (k := 7) rfl ex128.symm (by decide) rfl (fun ls hl => ?_)
                  exact J107 x127 x128 x45 H locs ls w118 (show 0 ≤ a1.toInt by omega) (show a1.toInt ≤ 6 by omega) (show 0 ≤ a2.toInt by omega) (show a2.toInt ≤ 4095 by omega) (show 0 ≤ a3.toInt by omega) (show a3.toInt ≤ 9 by omega) (show 1 ≤ x127.toInt by omega) (show x127.toInt ≤ 1023 by omega) (show 1 ≤ v8_4.toInt by omega) (show v8_4.toInt ≤ 1023 by omega) (show 0 ≤ v25_7.toInt by omega) (show v25_7.toInt ≤ 11 by omega) (show 1 ≤ x45.toInt by omega) (show x45.toInt ≤ 12 by omega) (show v8_4.toInt ≤ x127.toInt + 0 by omega)  hw hT hF c124 (lv_sub hl [3, 4, 5, 6, 1, 7, 0, 8] rfl)
            · have c57 : r49.toInt = (0 : Int) := wk_eq.mp c57
              refine lv_goto (tgt := 107) hx hb dX12_comesTo_48 (by decide) ?_
              exact J107 v25_4 v25_6 x45 H locs ls w51 (show 0 ≤ a1.toInt by omega) (show a1.toInt ≤ 6 by omega) (show 0 ≤ a2.toInt by omega) (show a2.toInt ≤ 4095 by omega) (show 0 ≤ a3.toInt by omega) (show a3.toInt ≤ 9 by omega) (show 1 ≤ v25_4.toInt by omega) (show v25_4.toInt ≤ 1023 by omega) (show 1 ≤ v8_4.toInt by omega) (show v8_4.toInt ≤ 1023 by omega) (show 0 ≤ v25_7.toInt by omega) (show v25_7.toInt ≤ 11 by omega) (show 1 ≤ x45.toInt by omega) (show x45.toInt ≤ 12 by omega) (show v8_4.toInt ≤ v25_4.toInt + 0 by omega)  hw hT hF c56 (lv_sub hl [0, 1, 2, 3, 4, 5, 6, 7] rfl)
      refine lv_iload hx hb dX12_comesTo_8 (lv_at hl 4 rfl) ?_
      refine lv_iload hx hb dX12_comesTo_10 (lv_at hl 5 rfl) ?_
      refine lv_icmp_eq (tgt := 116) hx hb dX12_comesTo_12 (by decide) (fun c130 => ?_) (fun c130 => ?_)
      · have c130 : v8_4.toInt = v8_5.toInt := wk_eq.mp c130
        refine lv_iload hx hb dX12_comesTo_116 (lv_at hl 4 rfl) ?_
        exact tk_iret hC hr hlocks hK ⟨hT, hF, ⟨(show 1 ≤ v8_4.toInt by omega), (show v8_4.toInt ≤ 1023 by omega)⟩⟩ hw dX12_comesTo_118
      · have c130 : ¬ v8_4.toInt = v8_5.toInt := wk_eqF c130
        refine lv_iload hx hb dX12_comesTo_15 (lv_at hl 4 rfl) ?_
        refine lv_istore (lv' := [(5, .int v8_4), (0, .ref (ad 0)), (1, .int a1), (2, .int a2), (3, .int a3), (4, .int v8_4)]) hx hb dX12_comesTo_17 hl (by decide) rfl (fun ls hl => ?_)
        refine lv_iconst (v := 0) hx hb dX12_comesTo_19 (by decide) ?_
        refine lv_istore (lv' := [(6, .int 0), (5, .int v8_4), (0, .ref (ad 0)), (1, .int a1), (2, .int a2), (3, .int a3), (4, .int v8_4)]) hx hb dX12_comesTo_20 hl (by decide) rfl (fun ls hl => ?_)
        refine lv_iconst (v := 0) hx hb dX12_comesTo_22 (by decide) ?_
        refine lv_istore (lv' := [(7, .int 0), (6, .int 0), (5, .int v8_4), (0, .ref (ad 0)), (1, .int a1), (2, .int a2), (3, .int a3), (4, .int v8_4)]) hx hb dX12_comesTo_23 hl (by decide) rfl (fun ls hl => ?_)
        exact L25 ((12 - (0 : Int)).toNat + 1) v8_4 0 0 H locs ls w1 (show 0 ≤ a1.toInt by omega) (show a1.toInt ≤ 6 by omega) (show 0 ≤ a2.toInt by omega) (show a2.toInt ≤ 4095 by omega) (show 0 ≤ a3.toInt by omega) (show a3.toInt ≤ 9 by omega) (show 1 ≤ v8_4.toInt by omega) (show v8_4.toInt ≤ 1023 by omega) (show 1 ≤ v8_4.toInt by omega) (show v8_4.toInt ≤ 1023 by omega) (by decide) (by decide) (show v8_4.toInt ≤ v8_4.toInt + 0 by omega) (Nat.lt_succ_self _) hw hT hF  (lv_sub hl [3, 4, 5, 6, 7, 2, 1, 0] rfl)
  refine lv_iconst (v := 1) hx hb dX12_comesTo_0 (by decide) ?_
  refine lv_iload_n hx hb dX12_comesTo_1 rfl (lv_at hl 3 rfl) ?_
  refine lv_ishl hx hb dX12_comesTo_2 ?_
  refine lv_topi (fun x131 ex131 => ?_)
  have bx131 : 1 ≤ x131.toInt ∧ x131.toInt ≤ 512 := by rw [ex131]; exact wk_shl1 9 (by decide) (by omega) (by omega)
  refine lv_istore (lv' := [(4, .int x131), (0, .ref (ad 0)), (1, .int a1), (2, .int a2), (3, .int a3)]) hx hb dX12_comesTo_3 hl (by decide) rfl (fun ls hl => ?_)
  refine lv_iconst (v := 0) hx hb dX12_comesTo_5 (by decide) ?_
  refine lv_istore (lv' := [(5, .int 0), (4, .int x131), (0, .ref (ad 0)), (1, .int a1), (2, .int a2), (3, .int a3)]) hx hb dX12_comesTo_6 hl (by decide) rfl (fun ls hl => ?_)
  exact L8 ((1023 - (0 : Int)).toNat + 1) x131 0 s.heap locs ls w0 (show 0 ≤ a1.toInt by omega) (show a1.toInt ≤ 6 by omega) (show 0 ≤ a2.toInt by omega) (show a2.toInt ≤ 4095 by omega) (show 0 ≤ a3.toInt by omega) (show a3.toInt ≤ 9 by omega) (show 1 ≤ x131.toInt by omega) (show x131.toInt ≤ 1023 by omega) (by decide) (by decide) (show (0 : Int) ≤ x131.toInt + 0 by omega) (Nat.lt_succ_self _) hw hT hF  (lv_sub hl [2, 3, 4, 5, 1, 0] rfl)
