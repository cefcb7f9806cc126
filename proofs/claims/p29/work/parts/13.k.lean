abbrev P_X0_streetBy_1 (ad : Nat → Nat) (cy : Nat → ClassId) (B : Int) (qr : Nat) (s1 : Int) (a1 : Int32) (a2 : Int32) (a3 : Int32) (w0 : va_W) : Int32 → va_W → Prop := fun r u => TW ksC ad cy B qr s1 u ∧ FE ksC ([] : List (Nat × Nat × Nat)) w0 u ∧ (((-1) ≤ r.toInt ∧ r.toInt ≤ 11))
set_option maxHeartbeats 4000000 in
set_option maxRecDepth 100000 in
theorem k_X0_streetBy_1 (l : Launch) (adK adV : Nat → Nat) (dC : Nat → ClassId) (dI : Nat → Nat → Nat) (cy : Nat → ClassId) (ad : Nat → Nat) (B : Int) (hB0 : 2147483648 ≤ B) (hB1 : B ≤ 1152921504606846976) (qr : Nat) (s1 : Int)  (a1 : Int32) (ra1 : 0 ≤ a1.toInt) (ta1 : a1.toInt ≤ 3) (a2 : Int32) (ra2 : 0 ≤ a2.toInt) (ta2 : a2.toInt ≤ 9) (a3 : Int32) (ra3 : 0 ≤ a3.toInt) (ta3 : a3.toInt ≤ 9) (w0 : va_W) (sz : Nat) (hT : TW ksC ad cy B qr s1 w0)  : Met l yX0_streetBy wsX0_streetBy ({ frames := 2, cells := 0, slots := 0, locals := 34 }) (va_Pc [.ref (ad 145), .int a1, .int a2, .int a3] (wpreS adK adV dC dI cy sz w0)) (va_Qi (P_X0_streetBy_1 ad cy B qr s1 a1 a2 a3 w0) (fun u : va_W => wpost dC dI cy (va_A w0 sz) u) (va_A w0 sz)) 0 0 (va_A w0 sz) := by
  refine Met.ofW (cc := cX0_streetBy) (maxL := 4) (ret := (some .int)) (by decide) rfl ?_
  intro p e s m args below meth c s₁ Bk hml hv
  obtain ⟨rfl, ⟨hsz, hP, hK, hD0⟩, hE, hSR⟩ := hv
  have hx := Bk.exec
  have hb := Bk.bytes
  have hr := Bk.returns
  have hlocks := Bk.notSynchronized
  have hC : CallFix p m c cX0_streetBy 4 s _ wsX0_streetBy RX0 := ⟨hx, hb, hml, findClass_of_methodNamed Bk.named, atoms_spec (ws := wsX0_streetBy) Bk.pre⟩
  subst hsz
  have hD := hD0.self (sz := s.heap.size)
  generalize hAe : va_A w0 s.heap.size = A at hD hE ⊢
  have hA : ∀ q : Nat, s.heap.size ≤ q → A q := fun q h => by rw [← hAe]; exact Or.inr h
  have hw : Wd dC dI A s.heap s.heap [] w0 := ⟨hP, hD, va_S.rf⟩
  have hF : FE ksC ([] : List (Nat × Nat × Nat)) w0 w0 := FE.rf
  have hl := lv_entry ([.ref (ad 145), .int a1, .int a2, .int a3]) (n := 4) (Nat.le_of_ble_eq_true rfl)
  rw [lg_entry_eq]
  generalize (lg_sl ([.ref (ad 145), .int a1, .int a2, .int a3]) ++ List.replicate (4 - (lg_sl ([.ref (ad 145), .int a1, .int a2, .int a3])).length) Slot.unset).toArray = ls at hl ⊢
  have hl : lv_has ls 4 [(0, .ref (ad 145)), (1, .int a1), (2, .int a2), (3, .int a3)] := hl
  generalize hloc : ([] : List Loc) = locs at hw ⊢
  have hinX0 : ∀ w ∈ u_ws RX0 TX0 4, w ∈ wsX0_streetBy := fun _ h => List.mem_cons_of_mem _ (List.mem_append_right _ (h))
  refine lv_aload_n hx hb dX0_streetBy_0 rfl (lv_at hl 0 rfl) ?_
  refine tk_getA hC hK hw hT hinX0 kC_at145 (by decide) rfl 2 (by decide) (List.mem_of_getElem? (i := 1) rfl) rfl rfl dX0_streetBy_1 ?_
  refine lv_iload_n hx hb dX0_streetBy_4 rfl (lv_at hl 1 rfl) ?_
  refine lv_iload_n hx hb dX0_streetBy_5 rfl (lv_at hl 2 rfl) ?_
  refine lv_iload_n hx hb dX0_streetBy_6 rfl (lv_at hl 3 rfl) ?_
  refine tk_Si hC hK hw hT hA hE hSR (k_X0_spot_1 l adK adV dC dI cy ad B (by omega) (by omega) qr s1   a1 (show 0 ≤ a1.toInt by omega) (show a1.toInt ≤ 3 by omega) a2 (show 0 ≤ a2.toInt by omega) (show a2.toInt ≤ 9 by omega) a3 (show 0 ≤ a3.toInt by omega) (show a3.toInt ≤ 9 by omega) w0 s.heap.size hT ) (va_cwS 3 hC.2.2.2.2 gX0_streetBy_X0_spot rfl rfl rfl (by decide +kernel) ⟨Nat.le_of_ble_eq_true rfl, Nat.le_of_ble_eq_true rfl⟩) rfl hl.1 rfl (Nat.le_of_ble_eq_true rfl) dX0_streetBy_7 (fun r1 w3 H locs hp2 hw => ?_)
  obtain ⟨hT, k4, hg7⟩ := hp2
  have hF := hF.tr k4 (by decide)
  obtain ⟨g5, g6⟩ := hg7
  refine tk_iald hC hK hw hT kC_at147 rfl rfl (show 0 ≤ r1.toInt by omega) (show r1.toInt < 1100 by omega) dX0_streetBy_10 (fun x8 c9 rx8 tx8 => ?_)
  exact tk_iret hC hr hlocks hK ⟨hT, hF, ⟨(show (-1) ≤ x8.toInt by omega), (show x8.toInt ≤ 11 by omega)⟩⟩ hw dX0_streetBy_11
abbrev P_X0_hoursBy_1 (ad : Nat → Nat) (cy : Nat → ClassId) (B : Int) (qr : Nat) (s1 : Int) (a1 : Int32) (a2 : Int32) (a3 : Int32) (w0 : va_W) : Int32 → va_W → Prop := fun r u => TW ksC ad cy B qr s1 u ∧ FE ksC ([] : List (Nat × Nat × Nat)) w0 u ∧ ((0 ≤ r.toInt ∧ r.toInt ≤ 999999) ∨ (r = (-1)))
set_option maxHeartbeats 4000000 in
set_option maxRecDepth 100000 in
theorem k_X0_hoursBy_1 (l : Launch) (adK adV : Nat → Nat) (dC : Nat → ClassId) (dI : Nat → Nat → Nat) (cy : Nat → ClassId) (ad : Nat → Nat) (B : Int) (hB0 : 2147483648 ≤ B) (hB1 : B ≤ 1152921504606846976) (qr : Nat) (s1 : Int)  (a1 : Int32) (ra1 : 0 ≤ a1.toInt) (ta1 : a1.toInt ≤ 3) (a2 : Int32) (ra2 : 0 ≤ a2.toInt) (ta2 : a2.toInt ≤ 9) (a3 : Int32) (ra3 : 0 ≤ a3.toInt) (ta3 : a3.toInt ≤ 9) (w0 : va_W) (sz : Nat) (hT : TW ksC ad cy B qr s1 w0)  : Met l yX0_hoursBy wsX0_hoursBy ({ frames := 2, cells := 0, slots := 0, locals := 34 }) (va_Pc [.ref (ad 145), .int a1, .int a2, .int a3] (wpreS adK adV dC dI cy sz w0)) (va_Qi (P_X0_hoursBy_1 ad cy B qr s1 a1 a2 a3 w0) (fun u : va_W => wpost dC dI cy (va_A w0 sz) u) (va_A w0 sz)) 0 0 (va_A w0 sz) := by
  refine Met.ofW (cc := cX0_hoursBy) (maxL := 5) (ret := (some .int)) (by decide) rfl ?_
  intro p e s m args below meth c s₁ Bk hml hv
  obtain ⟨rfl, ⟨hsz, hP, hK, hD0⟩, hE, hSR⟩ := hv
  have hx := Bk.exec
  have hb := Bk.bytes
  have hr := Bk.returns
  have hlocks := Bk.notSynchronized
  have hC : CallFix p m c cX0_hoursBy 5 s _ wsX0_hoursBy RX0 := ⟨hx, hb, hml, findClass_of_methodNamed Bk.named, atoms_spec (ws := wsX0_hoursBy) Bk.pre⟩
  subst hsz
  have hD := hD0.self (sz := s.heap.size)
  generalize hAe : va_A w0 s.heap.size = A at hD hE ⊢
  have hA : ∀ q : Nat, s.heap.size ≤ q → A q := fun q h => by rw [← hAe]; exact Or.inr h
  have hw : Wd dC dI A s.heap s.heap [] w0 := ⟨hP, hD, va_S.rf⟩
  have hF : FE ksC ([] : List (Nat × Nat × Nat)) w0 w0 := FE.rf
  have hl := lv_entry ([.ref (ad 145), .int a1, .int a2, .int a3]) (n := 5) (Nat.le_of_ble_eq_true rfl)
  rw [lg_entry_eq]
  generalize (lg_sl ([.ref (ad 145), .int a1, .int a2, .int a3]) ++ List.replicate (5 - (lg_sl ([.ref (ad 145), .int a1, .int a2, .int a3])).length) Slot.unset).toArray = ls at hl ⊢
  have hl : lv_has ls 5 [(0, .ref (ad 145)), (1, .int a1), (2, .int a2), (3, .int a3)] := hl
  generalize hloc : ([] : List Loc) = locs at hw ⊢
  have hinX0 : ∀ w ∈ u_ws RX0 TX0 4, w ∈ wsX0_hoursBy := fun _ h => List.mem_cons_of_mem _ (List.mem_append_right _ (h))
  refine lv_aload_n hx hb dX0_hoursBy_0 rfl (lv_at hl 0 rfl) ?_
  refine tk_getA hC hK hw hT hinX0 kC_at145 (by decide) rfl 1 (by decide) (List.mem_of_getElem? (i := 1) rfl) rfl rfl dX0_hoursBy_1 ?_
  refine lv_iload_n hx hb dX0_hoursBy_4 rfl (lv_at hl 1 rfl) ?_
  refine lv_iload_n hx hb dX0_hoursBy_5 rfl (lv_at hl 2 rfl) ?_
  refine lv_iload_n hx hb dX0_hoursBy_6 rfl (lv_at hl 3 rfl) ?_
  refine tk_Si hC hK hw hT hA hE hSR (k_X0_spot_1 l adK adV dC dI cy ad B (by omega) (by omega) qr s1   a1 (show 0 ≤ a1.toInt by omega) (show a1.toInt ≤ 3 by omega) a2 (show 0 ≤ a2.toInt by omega) (show a2.toInt ≤ 9 by omega) a3 (show 0 ≤ a3.toInt by omega) (show a3.toInt ≤ 9 by omega) w0 s.heap.size hT ) (va_cwS 3 hC.2.2.2.2 gX0_hoursBy_X0_spot rfl rfl rfl (by decide +kernel) ⟨Nat.le_of_ble_eq_true rfl, Nat.le_of_ble_eq_true rfl⟩) rfl hl.1 rfl (Nat.le_of_ble_eq_true rfl) dX0_hoursBy_7 (fun r1 w3 H locs hp2 hw => ?_)
  obtain ⟨hT, k4, hg7⟩ := hp2
  have hF := hF.tr k4 (by decide)
  obtain ⟨g5, g6⟩ := hg7
  refine tk_iald hC hK hw hT kC_at146 rfl rfl (show 0 ≤ r1.toInt by omega) (show r1.toInt < 1100 by omega) dX0_hoursBy_10 (fun x8 c9 rx8 tx8 => ?_)
  refine lv_istore (lv' := [(4, .int x8), (0, .ref (ad 145)), (1, .int a1), (2, .int a2), (3, .int a3)]) hx hb dX0_hoursBy_11 hl (by decide) rfl (fun ls hl => ?_)
  refine lv_iload hx hb dX0_hoursBy_13 (lv_at hl 0 rfl) ?_
  refine lv_ldc (v := 1000000) hx hb hC.2.2.2.1 (hC.2.2.2.2 _ (List.mem_of_getElem? (i := 2) rfl)) dX0_hoursBy_15 ?_
  refine lv_icmp_lt (tgt := 24) hx hb dX0_hoursBy_17 (by decide) (fun c10 => ?_) (fun c10 => ?_)
  · have c10 : x8.toInt < (1000000 : Int) := wk_lt.mp c10
    refine lv_iload hx hb dX0_hoursBy_24 (lv_at hl 0 rfl) ?_
    exact tk_iret hC hr hlocks hK ⟨hT, hF, (Or.inl ⟨(show 0 ≤ x8.toInt by omega), (show x8.toInt ≤ 999999 by omega)⟩)⟩ hw dX0_hoursBy_26
  · have c10 : (1000000 : Int) ≤ x8.toInt := wk_ltF c10
    refine lv_iconst (v := (-1)) hx hb dX0_hoursBy_20 (by decide) ?_
    refine lv_goto (tgt := 26) hx hb dX0_hoursBy_21 (by decide) ?_
    exact tk_iret hC hr hlocks hK ⟨hT, hF, (Or.inr rfl)⟩ hw dX0_hoursBy_26
abbrev P_X11_by_1 (ad : Nat → Nat) (cy : Nat → ClassId) (B : Int) (qr : Nat) (s1 : Int) (a1 : Int32) (a2 : Int32) (a3 : Int32) (a4 : Int32) (w0 : va_W) : Int32 → va_W → Prop := fun r u => TW ksC ad cy B qr s1 u ∧ FE ksC [(42, 0, 1100), (43, 0, 1100), (44, 0, 11)] w0 u ∧ ((r = (-2) ∧ 0 ≤ a1.toInt ∧ a1.toInt ≤ 3 ∧ 0 ≤ a2.toInt ∧ a2.toInt ≤ 9 ∧ 0 ≤ a3.toInt ∧ a3.toInt ≤ 9 ∧ 0 ≤ a4.toInt ∧ a4.toInt ≤ 1 ∧ (∃ y : Int32, gi u 38 8 = y ∧ 1 ≤ y.toInt ∧ y.toInt ≤ 4) ∧ (∃ y : Int32, gi u 39 8 = y ∧ 1 ≤ y.toInt ∧ y.toInt ≤ 10)) ∨ (0 ≤ r.toInt ∧ r.toInt ≤ 999999 ∧ 0 ≤ a1.toInt ∧ a1.toInt ≤ 3 ∧ 0 ≤ a2.toInt ∧ a2.toInt ≤ 9 ∧ 0 ≤ a3.toInt ∧ a3.toInt ≤ 9 ∧ 0 ≤ a4.toInt ∧ a4.toInt ≤ 1 ∧ (∃ y : Int32, gi u 38 8 = y ∧ 1 ≤ y.toInt ∧ y.toInt ≤ 4) ∧ (∃ y : Int32, gi u 39 8 = y ∧ 1 ≤ y.toInt ∧ y.toInt ≤ 10)) ∨ (r = (-1)))
set_option maxHeartbeats 4000000 in
set_option maxRecDepth 100000 in
theorem k_X11_by_1 (l : Launch) (adK adV : Nat → Nat) (dC : Nat → ClassId) (dI : Nat → Nat → Nat) (cy : Nat → ClassId) (ad : Nat → Nat) (B : Int) (hB0 : 2147483648 ≤ B) (hB1 : B ≤ 1152921504606846976) (qr : Nat) (s1 : Int)  (a1 : Int32) (a2 : Int32) (a3 : Int32) (a4 : Int32) (w0 : va_W) (sz : Nat) (hT : TW ksC ad cy B qr s1 w0)  : Met l yX11_by wsX11_by ({ frames := 5, cells := 0, slots := 0, locals := 109 }) (va_Pc [.ref (ad 0), .int a1, .int a2, .int a3, .int a4] (wpreS adK adV dC dI cy sz w0)) (va_Qi (P_X11_by_1 ad cy B qr s1 a1 a2 a3 a4 w0) (fun u : va_W => wpost dC dI cy (va_A w0 sz) u) (va_A w0 sz)) 0 0 (va_A w0 sz) := by
  refine Met.ofW (cc := cX11_by) (maxL := 6) (ret := (some .int)) (by decide) rfl ?_
  intro p e s m args below meth c s₁ Bk hml hv
  obtain ⟨rfl, ⟨hsz, hP, hK, hD0⟩, hE, hSR⟩ := hv
  have hx := Bk.exec
  have hb := Bk.bytes
  have hr := Bk.returns
  have hlocks := Bk.notSynchronized
  have hC : CallFix p m c cX11_by 6 s _ wsX11_by RX11 := ⟨hx, hb, hml, findClass_of_methodNamed Bk.named, atoms_spec (ws := wsX11_by) Bk.pre⟩
  subst hsz
  have hD := hD0.self (sz := s.heap.size)
  generalize hAe : va_A w0 s.heap.size = A at hD hE ⊢
  have hA : ∀ q : Nat, s.heap.size ≤ q → A q := fun q h => by rw [← hAe]; exact Or.inr h
  have hw : Wd dC dI A s.heap s.heap [] w0 := ⟨hP, hD, va_S.rf⟩
  have hF : FE ksC [(42, 0, 1100), (43, 0, 1100), (44, 0, 11)] w0 w0 := FE.rf
  have hl := lv_entry ([.ref (ad 0), .int a1, .int a2, .int a3, .int a4]) (n := 6) (Nat.le_of_ble_eq_true rfl)
  rw [lg_entry_eq]
  generalize (lg_sl ([.ref (ad 0), .int a1, .int a2, .int a3, .int a4]) ++ List.replicate (6 - (lg_sl ([.ref (ad 0), .int a1, .int a2, .int a3, .int a4])).length) Slot.unset).toArray = ls at hl ⊢
  have hl : lv_has ls 6 [(0, .ref (ad 0)), (1, .int a1), (2, .int a2), (3, .int a3), (4, .int a4)] := hl
  generalize hloc : ([] : List Loc) = locs at hw ⊢
  have hinX11 : ∀ w ∈ u_ws RX11 TX11 13, w ∈ wsX11_by := fun _ h => List.mem_cons_of_mem _ (List.mem_append_left _ (List.mem_append_left _ (List.mem_append_left _ (List.mem_append_right _ (h)))))
  have J35 : ∀ (H : Heap) (locs : List Loc) (ls : Array Slot) (w1 : va_W), Wd dC dI A s.heap H locs w1 → TW ksC ad cy B qr s1 w1 → FE ksC [(42, 0, 1100), (43, 0, 1100), (44, 0, 11)] w0 w1 → lv_has ls 6 [(0, .ref (ad 0)), (1, .int a1), (2, .int a2), (3, .int a3), (4, .int a4)] → W p l e ({ frames := 5, cells := 0, slots := 0, locals := 109 }) s m (List.toArray [.ref (ad 0), .int a1, .int a2, .int a3, .int a4]) below meth c H locs 0 0 (MQ below (va_Qi (P_X11_by_1 ad cy B qr s1 a1 a2 a3 a4 w0) (fun u : va_W => wpost dC dI cy A u) A) (List.toArray [.ref (ad 0), .int a1, .int a2, .int a3, .int a4]) s 0 0 A) (F0 m 35 ls []) := by
    intro H locs ls w1 hw hT hF hl
    refine lv_iconst (v := (-1)) hx hb dX11_by_35 (by decide) ?_
    exact tk_iret hC hr hlocks hK ⟨hT, hF, (Or.inr (Or.inr rfl))⟩ hw dX11_by_36
  refine lv_aload_n hx hb dX11_by_0 rfl (lv_at hl 0 rfl) ?_
  refine lv_iload_n hx hb dX11_by_1 rfl (lv_at hl 1 rfl) ?_
  refine tk_Vi hC hK hw hT hA hE hSR kC_at0 (by decide) rfl (k_X11_hasMap_1 l adK adV dC dI cy ad B (by omega) (by omega) qr s1   a1 w0 s.heap.size hT ) (cwV 1 hC.2.2.2.2 gX11_by_X11_hasMap rfl rfl rfl (by decide +kernel) ⟨Nat.le_of_ble_eq_true rfl, Nat.le_of_ble_eq_true rfl⟩) rfl hl.1 rfl (Nat.le_of_ble_eq_true rfl) dX11_by_2 (fun r2 w4 H locs hp3 hw => ?_)
  obtain ⟨hT, k5, hg10⟩ := hp3
  have hF := hF.tr k5 (by decide)
  rcases hg10 with rfl | ⟨rfl, g6, g7, ⟨x8, c9, rx8, tx8⟩⟩
  · refine lv_if_eq (tgt := 35) hx hb dX11_by_5 (by decide) (fun _ => ?_) (fun c => absurd (by decide) c)
    exact J35  H locs ls w4   hw hT hF  (lv_sub hl [0, 1, 2, 3, 4] rfl)
  · refine lv_if_eq (tgt := 35) hx hb dX11_by_5 (by decide) (fun c => absurd c (by decide)) (fun _ => ?_)
    refine lv_aload_n hx hb dX11_by_8 rfl (lv_at hl 0 rfl) ?_
    refine lv_iload_n hx hb dX11_by_9 rfl (lv_at hl 2 rfl) ?_
    refine tk_Vi hC hK hw hT hA hE hSR kC_at0 (by decide) rfl (k_X11_hasCorner_1 l adK adV dC dI cy ad B (by omega) (by omega) qr s1   a2 w4 H.size hT ) (cwV 1 hC.2.2.2.2 gX11_by_X11_hasCorner rfl rfl rfl (by decide +kernel) ⟨Nat.le_of_ble_eq_true rfl, Nat.le_of_ble_eq_true rfl⟩) rfl hl.1 rfl (Nat.le_of_ble_eq_true rfl) dX11_by_10 (fun r11 w13 H locs hp12 hw => ?_)
    obtain ⟨hT, k14, hg19⟩ := hp12
    have hF := hF.tr k14 (by decide)
    have c20 := k14.gi kC_at38 (by decide) c9
    rcases hg19 with rfl | ⟨rfl, g15, g16, ⟨x17, c18, rx17, tx17⟩⟩
    · refine lv_if_eq (tgt := 35) hx hb dX11_by_13 (by decide) (fun _ => ?_) (fun c => absurd (by decide) c)
      exact J35  H locs ls w13   hw hT hF  (lv_sub hl [0, 1, 2, 3, 4] rfl)
    · refine lv_if_eq (tgt := 35) hx hb dX11_by_13 (by decide) (fun c => absurd c (by decide)) (fun _ => ?_)
      refine lv_aload_n hx hb dX11_by_16 rfl (lv_at hl 0 rfl) ?_
      refine lv_iload_n hx hb dX11_by_17 rfl (lv_at hl 3 rfl) ?_
      refine tk_Vi hC hK hw hT hA hE hSR kC_at0 (by decide) rfl (k_X11_hasCorner_1 l adK adV dC dI cy ad B (by omega) (by omega) qr s1   a3 w13 H.size hT ) (cwV 1 hC.2.2.2.2 gX11_by_X11_hasCorner rfl rfl rfl (by decide +kernel) ⟨Nat.le_of_ble_eq_true rfl, Nat.le_of_ble_eq_true rfl⟩) rfl hl.1 rfl (Nat.le_of_ble_eq_true rfl) dX11_by_18 (fun r21 w23 H locs hp22 hw => ?_)
      obtain ⟨hT, k24, hg29⟩ := hp22
      have hF := hF.tr k24 (by decide)
      have c30 := k24.gi kC_at38 (by decide) c20
      have c31 := k24.gi kC_at39 (by decide) c18
      rcases hg29 with rfl | ⟨rfl, g25, g26, ⟨x27, c28, rx27, tx27⟩⟩
      · refine lv_if_eq (tgt := 35) hx hb dX11_by_21 (by decide) (fun _ => ?_) (fun c => absurd (by decide) c)
        exact J35  H locs ls w23   hw hT hF  (lv_sub hl [0, 1, 2, 3, 4] rfl)
      · have ex27 : x27.toInt = x17.toInt := by rw [← c31.symm.trans c28]
        refine lv_if_eq (tgt := 35) hx hb dX11_by_21 (by decide) (fun c => absurd c (by decide)) (fun _ => ?_)
        refine lv_iload hx hb dX11_by_24 (lv_at hl 4 rfl) ?_
        refine lv_if_lt (tgt := 35) hx hb dX11_by_26 (by decide) (fun c32 => ?_) (fun c32 => ?_)
        · have c32 : a4.toInt < (0 : Int) := wk_lt.mp c32
          exact J35  H locs ls w23   hw hT hF  (lv_sub hl [0, 1, 2, 3, 4] rfl)
        · have c32 : (0 : Int) ≤ a4.toInt := wk_ltF c32
          refine lv_iload hx hb dX11_by_29 (lv_at hl 4 rfl) ?_
          refine lv_iconst (v := 1) hx hb dX11_by_31 (by decide) ?_
          refine lv_icmp_le (tgt := 37) hx hb dX11_by_32 (by decide) (fun c33 => ?_) (fun c33 => ?_)
          · have c33 : a4.toInt ≤ (1 : Int) := wk_le.mp c33
            refine lv_aload_n hx hb dX11_by_37 rfl (lv_at hl 0 rfl) ?_
            refine tk_getA hC hK hw hT hinX11 kC_at0 (by decide) rfl 7 (by decide) (List.mem_of_getElem? (i := 1) rfl) rfl rfl dX11_by_38 ?_
            refine lv_iload_n hx hb dX11_by_41 rfl (lv_at hl 1 rfl) ?_
            refine tk_Vv hC hK hw hT hA hE hSR kC_at145 (by decide) rfl (k_X0_refresh_1 l adK adV dC dI cy ad B (by omega) (by omega) qr s1   a1 (show 0 ≤ a1.toInt by omega) (show a1.toInt ≤ 3 by omega) w23 H.size hT ) (cwV 1 hC.2.2.2.2 gX11_by_X0_refresh rfl rfl rfl (by decide +kernel) ⟨Nat.le_of_ble_eq_true rfl, Nat.le_of_ble_eq_true rfl⟩) rfl hl.1 rfl (Nat.le_of_ble_eq_true rfl) dX11_by_42 (fun w36 H locs hp35 hw => ?_)
            obtain ⟨hT, k37, hg38⟩ := hp35
            have hF := hF.tr k37 (by decide)
            have c39 := k37.gi kC_at38 (by decide) c30
            have c40 := k37.gi kC_at39 (by decide) c31
            clear hg38
            refine lv_iload hx hb dX11_by_45 (lv_at hl 4 rfl) ?_
            refine lv_if_ne (tgt := 63) hx hb dX11_by_47 (by decide) (fun c41 => ?_) (fun c41 => ?_)
            · have c41 : ¬ a4.toInt = (0 : Int) := wk_eqF c41
              refine lv_aload_n hx hb dX11_by_63 rfl (lv_at hl 0 rfl) ?_
              refine tk_getA hC hK hw hT hinX11 kC_at0 (by decide) rfl 7 (by decide) (List.mem_of_getElem? (i := 1) rfl) rfl rfl dX11_by_64 ?_
              refine lv_iload_n hx hb dX11_by_67 rfl (lv_at hl 1 rfl) ?_
              refine lv_iload_n hx hb dX11_by_68 rfl (lv_at hl 2 rfl) ?_
              refine lv_iload_n hx hb dX11_by_69 rfl (lv_at hl 3 rfl) ?_
              refine tk_Vi hC hK hw hT hA hE hSR kC_at145 (by decide) rfl (k_X0_streetBy_1 l adK adV dC dI cy ad B (by omega) (by omega) qr s1   a1 (show 0 ≤ a1.toInt by omega) (show a1.toInt ≤ 3 by omega) a2 (show 0 ≤ a2.toInt by omega) (show a2.toInt ≤ 9 by omega) a3 (show 0 ≤ a3.toInt by omega) (show a3.toInt ≤ 9 by omega) w36 H.size hT ) (cwV 3 hC.2.2.2.2 gX11_by_X0_streetBy rfl rfl rfl (by decide +kernel) ⟨Nat.le_of_ble_eq_true rfl, Nat.le_of_ble_eq_true rfl⟩) rfl hl.1 rfl (Nat.le_of_ble_eq_true rfl) dX11_by_70 (fun r42 w44 H locs hp43 hw => ?_)
              obtain ⟨hT, k45, hg48⟩ := hp43
              have hF := hF.tr k45 (by decide)
              have c49 := k45.gi kC_at38 (by decide) c39
              have c50 := k45.gi kC_at39 (by decide) c40
              obtain ⟨g46, g47⟩ := hg48
              refine lv_istore (lv' := [(5, .int r42), (0, .ref (ad 0)), (1, .int a1), (2, .int a2), (3, .int a3), (4, .int a4)]) hx hb dX11_by_73 hl (by decide) rfl (fun ls hl => ?_)
              refine lv_iload hx hb dX11_by_75 (lv_at hl 0 rfl) ?_
              refine lv_iconst (v := (-1)) hx hb dX11_by_77 (by decide) ?_
              refine lv_icmp_ne (tgt := 86) hx hb dX11_by_78 (by decide) (fun c51 => ?_) (fun c51 => ?_)
              · have c51 : ¬ r42.toInt = (-1 : Int) := wk_eqF c51
                refine lv_iload hx hb dX11_by_86 (lv_at hl 0 rfl) ?_
                exact tk_iret hC hr hlocks hK ⟨hT, hF, (Or.inr (Or.inl ⟨(show 0 ≤ r42.toInt by omega), (show r42.toInt ≤ 999999 by omega), (show 0 ≤ a1.toInt by omega), (show a1.toInt ≤ 3 by omega), (show 0 ≤ a2.toInt by omega), (show a2.toInt ≤ 9 by omega), (show 0 ≤ a3.toInt by omega), (show a3.toInt ≤ 9 by omega), (show 0 ≤ a4.toInt by omega), (show a4.toInt ≤ 1 by omega), ⟨x8, c49, (show 1 ≤ x8.toInt by omega), (show x8.toInt ≤ 4 by omega)⟩, ⟨x17, c50, (show 1 ≤ x17.toInt by omega), (show x17.toInt ≤ 10 by omega)⟩⟩))⟩ hw dX11_by_88
              · have c51 : r42.toInt = (-1 : Int) := wk_eq.mp c51
                refine lv_bipush (v := (-2)) hx hb dX11_by_81 (by decide) ?_
                refine lv_goto (tgt := 88) hx hb dX11_by_83 (by decide) ?_
                exact tk_iret hC hr hlocks hK ⟨hT, hF, (Or.inl ⟨rfl, (show 0 ≤ a1.toInt by omega), (show a1.toInt ≤ 3 by omega), (show 0 ≤ a2.toInt by omega), (show a2.toInt ≤ 9 by omega), (show 0 ≤ a3.toInt by omega), (show a3.toInt ≤ 9 by omega), (show 0 ≤ a4.toInt by omega), (show a4.toInt ≤ 1 by omega), ⟨x8, c49, (show 1 ≤ x8.toInt by omega), (show x8.toInt ≤ 4 by omega)⟩, ⟨x17, c50, (show 1 ≤ x17.toInt by omega), (show x17.toInt ≤ 10 by omega)⟩⟩)⟩ hw dX11_by_88
            · have c41 : a4.toInt = (0 : Int) := wk_eq.mp c41
              refine lv_aload_n hx hb dX11_by_50 rfl (lv_at hl 0 rfl) ?_
              refine tk_getA hC hK hw hT hinX11 kC_at0 (by decide) rfl 7 (by decide) (List.mem_of_getElem? (i := 1) rfl) rfl rfl dX11_by_51 ?_
              refine lv_iload_n hx hb dX11_by_54 rfl (lv_at hl 1 rfl) ?_
              refine lv_iload_n hx hb dX11_by_55 rfl (lv_at hl 2 rfl) ?_
              refine lv_iload_n hx hb dX11_by_56 rfl (lv_at hl 3 rfl) ?_
              refine tk_Vi hC hK hw hT hA hE hSR kC_at145 (by decide) rfl (k_X0_hoursBy_1 l adK adV dC dI cy ad B (by omega) (by omega) qr s1   a1 (show 0 ≤ a1.toInt by omega) (show a1.toInt ≤ 3 by omega) a2 (show 0 ≤ a2.toInt by omega) (show a2.toInt ≤ 9 by omega) a3 (show 0 ≤ a3.toInt by omega) (show a3.toInt ≤ 9 by omega) w36 H.size hT ) (cwV 3 hC.2.2.2.2 gX11_by_X0_hoursBy rfl rfl rfl (by decide +kernel) ⟨Nat.le_of_ble_eq_true rfl, Nat.le_of_ble_eq_true rfl⟩) rfl hl.1 rfl (Nat.le_of_ble_eq_true rfl) dX11_by_57 (fun r52 w54 H locs hp53 hw => ?_)
              obtain ⟨hT, k55, hg58⟩ := hp53
              have hF := hF.tr k55 (by decide)
              have c59 := k55.gi kC_at38 (by decide) c39
              have c60 := k55.gi kC_at39 (by decide) c40
              rcases hg58 with ⟨g56, g57⟩ | rfl
              · refine lv_goto (tgt := 73) hx hb dX11_by_60 (by decide) ?_
                refine lv_istore (lv' := [(5, .int r52), (0, .ref (ad 0)), (1, .int a1), (2, .int a2), (3, .int a3), (4, .int a4)]) hx hb dX11_by_73 hl (by decide) rfl (fun ls hl => ?_)
                refine lv_iload hx hb dX11_by_75 (lv_at hl 0 rfl) ?_
                refine lv_iconst (v := (-1)) hx hb dX11_by_77 (by decide) ?_
                refine lv_icmp_ne (tgt := 86) hx hb dX11_by_78 (by decide) (fun _ => ?_) (fun c => absurd (show r52.toInt = (-1 : Int) from wk_eq.mp c) (by omega))
                refine lv_iload hx hb dX11_by_86 (lv_at hl 0 rfl) ?_
                exact tk_iret hC hr hlocks hK ⟨hT, hF, (Or.inr (Or.inl ⟨(show 0 ≤ r52.toInt by omega), (show r52.toInt ≤ 999999 by omega), (show 0 ≤ a1.toInt by omega), (show a1.toInt ≤ 3 by omega), (show 0 ≤ a2.toInt by omega), (show a2.toInt ≤ 9 by omega), (show 0 ≤ a3.toInt by omega), (show a3.toInt ≤ 9 by omega), (show 0 ≤ a4.toInt by omega), (show a4.toInt ≤ 1 by omega), ⟨x8, c59, (show 1 ≤ x8.toInt by omega), (show x8.toInt ≤ 4 by omega)⟩, ⟨x17, c60, (show 1 ≤ x17.toInt by omega), (show x17.toInt ≤ 10 by omega)⟩⟩))⟩ hw dX11_by_88
              · refine lv_goto (tgt := 73) hx hb dX11_by_60 (by decide) ?_
                refine lv_istore (lv' := [(5, .int (-1)), (0, .ref (ad 0)), (1, .int a1), (2, .int a2), (3, .int a3), (4, .int a4)]) hx hb dX11_by_73 hl (by decide) rfl (fun ls hl => ?_)
                refine lv_iload hx hb dX11_by_75 (lv_at hl 0 rfl) ?_
                refine lv_iconst (v := (-1)) hx hb dX11_by_77 (by decide) ?_
                refine lv_icmp_ne (tgt := 86) hx hb dX11_by_78 (by decide) (fun c => absurd (by decide) c) (fun _ => ?_)
                refine lv_bipush (v := (-2)) hx hb dX11_by_81 (by decide) ?_
                refine lv_goto (tgt := 88) hx hb dX11_by_83 (by decide) ?_
                exact tk_iret hC hr hlocks hK ⟨hT, hF, (Or.inl ⟨rfl, (show 0 ≤ a1.toInt by omega), (show a1.toInt ≤ 3 by omega), (show 0 ≤ a2.toInt by omega), (show a2.toInt ≤ 9 by omega), (show 0 ≤ a3.toInt by omega), (show a3.toInt ≤ 9 by omega), (show 0 ≤ a4.toInt by omega), (show a4.toInt ≤ 1 by omega), ⟨x8, c59, (show 1 ≤ x8.toInt by omega), (show x8.toInt ≤ 4 by omega)⟩, ⟨x17, c60, (show 1 ≤ x17.toInt by omega), (show x17.toInt ≤ 10 by omega)⟩⟩)⟩ hw dX11_by_88
          · have c33 : (1 : Int) < a4.toInt := wk_leF c33
            exact J35  H locs ls w23   hw hT hF  (lv_sub hl [0, 1, 2, 3, 4] rfl)
abbrev P_X11_hasRuleOrNone_1 (ad : Nat → Nat) (cy : Nat → ClassId) (B : Int) (qr : Nat) (s1 : Int) (a1 : Int32) (w0 : va_W) : Int32 → va_W → Prop := fun r u => TW ksC ad cy B qr s1 u ∧ FE ksC ([] : List (Nat × Nat × Nat)) w0 u ∧ ((r = 0) ∨ (r = 1 ∧ (-1) ≤ a1.toInt ∧ a1.toInt ≤ 5))
set_option maxHeartbeats 4000000 in
set_option maxRecDepth 100000 in
theorem k_X11_hasRuleOrNone_1 (l : Launch) (adK adV : Nat → Nat) (dC : Nat → ClassId) (dI : Nat → Nat → Nat) (cy : Nat → ClassId) (ad : Nat → Nat) (B : Int) (hB0 : 2147483648 ≤ B) (hB1 : B ≤ 1152921504606846976) (qr : Nat) (s1 : Int)  (a1 : Int32) (w0 : va_W) (sz : Nat) (hT : TW ksC ad cy B qr s1 w0)  : Met l yX11_hasRuleOrNone wsX11_hasRuleOrNone ({ frames := 1, cells := 0, slots := 0, locals := 12 }) (va_Pc [.ref (ad 0), .int a1] (wpreS adK adV dC dI cy sz w0)) (va_Qi (P_X11_hasRuleOrNone_1 ad cy B qr s1 a1 w0) (fun u : va_W => wpost dC dI cy (va_A w0 sz) u) (va_A w0 sz)) 0 0 (va_A w0 sz) := by
  refine Met.ofW (cc := cX11_hasRuleOrNone) (maxL := 2) (ret := (some .boolean)) (by decide) rfl ?_
  intro p e s m args below meth c s₁ Bk hml hv
  obtain ⟨rfl, ⟨hsz, hP, hK, hD0⟩, hE, hSR⟩ := hv
  have hx := Bk.exec
  have hb := Bk.bytes
  have hr := Bk.returns
  have hlocks := Bk.notSynchronized
  have hC : CallFix p m c cX11_hasRuleOrNone 2 s _ wsX11_hasRuleOrNone RX11 := ⟨hx, hb, hml, findClass_of_methodNamed Bk.named, atoms_spec (ws := wsX11_hasRuleOrNone) Bk.pre⟩
  subst hsz
  have hD := hD0.self (sz := s.heap.size)
  generalize hAe : va_A w0 s.heap.size = A at hD hE ⊢
  have hA : ∀ q : Nat, s.heap.size ≤ q → A q := fun q h => by rw [← hAe]; exact Or.inr h
  have hw : Wd dC dI A s.heap s.heap [] w0 := ⟨hP, hD, va_S.rf⟩
  have hF : FE ksC ([] : List (Nat × Nat × Nat)) w0 w0 := FE.rf
  have hl := lv_entry ([.ref (ad 0), .int a1]) (n := 2) (Nat.le_of_ble_eq_true rfl)
  rw [lg_entry_eq]
  generalize (lg_sl ([.ref (ad 0), .int a1]) ++ List.replicate (2 - (lg_sl ([.ref (ad 0), .int a1])).length) Slot.unset).toArray = ls at hl ⊢
  have hl : lv_has ls 2 [(0, .ref (ad 0)), (1, .int a1)] := hl
  generalize hloc : ([] : List Loc) = locs at hw ⊢
  have hinX11 : ∀ w ∈ u_ws RX11 TX11 13, w ∈ wsX11_hasRuleOrNone := fun _ h => List.mem_cons_of_mem _ (List.mem_append_right _ (h))
  have J17 : ∀ (H : Heap) (locs : List Loc) (ls : Array Slot) (w1 : va_W), Wd dC dI A s.heap H locs w1 → TW ksC ad cy B qr s1 w1 → FE ksC ([] : List (Nat × Nat × Nat)) w0 w1 → lv_has ls 2 [(0, .ref (ad 0)), (1, .int a1)] → W p l e ({ frames := 1, cells := 0, slots := 0, locals := 12 }) s m (List.toArray [.ref (ad 0), .int a1]) below meth c H locs 0 0 (MQ below (va_Qi (P_X11_hasRuleOrNone_1 ad cy B qr s1 a1 w0) (fun u : va_W => wpost dC dI cy A u) A) (List.toArray [.ref (ad 0), .int a1]) s 0 0 A) (F0 m 17 ls []) := by
    intro H locs ls w1 hw hT hF hl
    refine lv_iconst (v := 0) hx hb dX11_hasRuleOrNone_17 (by decide) ?_
    exact tk_zret hC hr rfl hlocks hK ⟨hT, hF, (Or.inl rfl)⟩ hw dX11_hasRuleOrNone_18
  refine lv_iload_n hx hb dX11_hasRuleOrNone_0 rfl (lv_at hl 1 rfl) ?_
  refine lv_iconst (v := (-1)) hx hb dX11_hasRuleOrNone_1 (by decide) ?_
  refine lv_icmp_lt (tgt := 17) hx hb dX11_hasRuleOrNone_2 (by decide) (fun c2 => ?_) (fun c2 => ?_)
  · have c2 : a1.toInt < (-1 : Int) := wk_lt.mp c2
    exact J17  s.heap locs ls w0   hw hT hF  (lv_sub hl [0, 1] rfl)
  · have c2 : (-1 : Int) ≤ a1.toInt := wk_ltF c2
    refine lv_iload_n hx hb dX11_hasRuleOrNone_5 rfl (lv_at hl 1 rfl) ?_
    refine lv_aload_n hx hb dX11_hasRuleOrNone_6 rfl (lv_at hl 0 rfl) ?_
    refine tk_geti hC hK hw hT hinX11 kC_at0 (by decide) rfl 12 (by decide) (List.mem_of_getElem? (i := 1) rfl) rfl rfl dX11_hasRuleOrNone_7 (fun x3 c4 rx3 tx3 => ?_)
    refine lv_icmp_ge (tgt := 17) hx hb dX11_hasRuleOrNone_10 (by decide) (fun c5 => ?_) (fun c5 => ?_)
    · have c5 : x3.toInt ≤ a1.toInt := wk_le.mp c5
      exact J17  s.heap locs ls w0   hw hT hF  (lv_sub hl [0, 1] rfl)
    · have c5 : a1.toInt < x3.toInt := wk_leF c5
      refine lv_iconst (v := 1) hx hb dX11_hasRuleOrNone_13 (by decide) ?_
      refine lv_goto (tgt := 18) hx hb dX11_hasRuleOrNone_14 (by decide) ?_
      exact tk_zret hC hr rfl hlocks hK ⟨hT, hF, (Or.inr ⟨rfl, (show (-1) ≤ a1.toInt by omega), (show a1.toInt ≤ 5 by omega)⟩)⟩ hw dX11_hasRuleOrNone_18
abbrev P_X9_setOut_1 (ad : Nat → Nat) (cy : Nat → ClassId) (B : Int) (qr : Nat) (s1 : Int) (q0_ : Nat) (a1 : Int32) (a2 : Int32) (a3 : Int32) (a4 : Int32) (a5 : Int64) (w0 : va_W) : va_W → Prop := fun u => TW ksC ad cy B qr s1 u ∧ FE ksC [(9, 0, 0), (9, 1, 1), (9, 2, 2), (9, 3, 3), (9, 4, 4), (9, 5, 5), (9, 6, 6), (9, 7, 7), (9, 8, 8)] w0 u ∧ (((∃ y : Int32, gi u q0_ 3 = y ∧ (-1) ≤ y.toInt ∧ y.toInt ≤ 5) ∧ (∃ y : Int32, gi u q0_ 5 = y ∧ 0 ≤ y.toInt ∧ y.toInt ≤ 0) ∧ (∃ y : Int32, gi u q0_ 6 = y ∧ 0 ≤ y.toInt ∧ y.toInt ≤ 0) ∧ (∃ y : Int32, gi u q0_ 7 = y ∧ (-1) ≤ y.toInt ∧ y.toInt ≤ (-1))))
set_option maxHeartbeats 4000000 in
set_option maxRecDepth 100000 in
theorem k_X9_setOut_1 (l : Launch) (adK adV : Nat → Nat) (dC : Nat → ClassId) (dI : Nat → Nat → Nat) (cy : Nat → ClassId) (ad : Nat → Nat) (B : Int) (hB0 : 2147483648 ≤ B) (hB1 : B ≤ 1152921504606846976) (qr : Nat) (s1 : Int)  (q0_ : Nat) (hkq0_ : ksC[q0_]? = some 9) (a1 : Int32) (ra1 : 0 ≤ a1.toInt) (ta1 : a1.toInt ≤ 9) (a2 : Int32) (ra2 : 0 ≤ a2.toInt) (ta2 : a2.toInt ≤ 9) (a3 : Int32) (ra3 : 0 ≤ a3.toInt) (ta3 : a3.toInt ≤ 3) (a4 : Int32) (ra4 : (-1) ≤ a4.toInt) (ta4 : a4.toInt ≤ 5) (a5 : Int64) (ra5 : 0 ≤ a5.toInt) (ta5 : a5.toInt ≤ 2147483647) (w0 : va_W) (sz : Nat) (hT : TW ksC ad cy B qr s1 w0)  : Met l yX9_setOut wsX9_setOut ({ frames := 1, cells := 0, slots := 0, locals := 12 }) (va_Pc [.ref (ad q0_), .int a1, .int a2, .int a3, .int a4, .long a5] (wpreS adK adV dC dI cy sz w0)) (va_Qv (P_X9_setOut_1 ad cy B qr s1 q0_ a1 a2 a3 a4 a5 w0) (fun u : va_W => wpost dC dI cy (va_A w0 sz) u) (va_A w0 sz)) 0 0 (va_A w0 sz) := by
  refine Met.ofW (cc := cX9_setOut) (maxL := 7) (ret := none) (by decide) rfl ?_
  intro p e s m args below meth c s₁ Bk hml hv
  obtain ⟨rfl, ⟨hsz, hP, hK, hD0⟩, hE, hSR⟩ := hv
  have hx := Bk.exec
  have hb := Bk.bytes
  have hr := Bk.returns
  have hlocks := Bk.notSynchronized
  have hC : CallFix p m c cX9_setOut 7 s _ wsX9_setOut RX9 := ⟨hx, hb, hml, findClass_of_methodNamed Bk.named, atoms_spec (ws := wsX9_setOut) Bk.pre⟩
  subst hsz
  have hD := hD0.self (sz := s.heap.size)
  generalize hAe : va_A w0 s.heap.size = A at hD hE ⊢
  have hA : ∀ q : Nat, s.heap.size ≤ q → A q := fun q h => by rw [← hAe]; exact Or.inr h
  have hw : Wd dC dI A s.heap s.heap [] w0 := ⟨hP, hD, va_S.rf⟩
  have hF : FE ksC [(9, 0, 0), (9, 1, 1), (9, 2, 2), (9, 3, 3), (9, 4, 4), (9, 5, 5), (9, 6, 6), (9, 7, 7), (9, 8, 8)] w0 w0 := FE.rf
  have hl := lv_entry ([.ref (ad q0_), .int a1, .int a2, .int a3, .int a4, .long a5]) (n := 7) (Nat.le_of_ble_eq_true rfl)
  rw [lg_entry_eq]
  generalize (lg_sl ([.ref (ad q0_), .int a1, .int a2, .int a3, .int a4, .long a5]) ++ List.replicate (7 - (lg_sl ([.ref (ad q0_), .int a1, .int a2, .int a3, .int a4, .long a5])).length) Slot.unset).toArray = ls at hl ⊢
  have hl : lv_has ls 7 [(0, .ref (ad q0_)), (1, .int a1), (2, .int a2), (3, .int a3), (4, .int a4), (5, .long a5)] := hl
  generalize hloc : ([] : List Loc) = locs at hw ⊢
  have hinX9 : ∀ w ∈ u_ws RX9 TX9 9, w ∈ wsX9_setOut := fun _ h => List.mem_cons_of_mem _ (List.mem_append_right _ (h))
  refine lv_aload_n hx hb dX9_setOut_0 rfl (lv_at hl 0 rfl) ?_
  refine lv_iload_n hx hb dX9_setOut_1 rfl (lv_at hl 1 rfl) ?_
  refine tk_puti hC hK hw hT hinX9 tyX9_ok nmX9 hkq0_ (by decide) rfl rfl 0 (by decide) (List.mem_of_getElem? (i := 1) rfl) rfl rfl rfl rfl (show 0 ≤ a1.toInt by omega) (show a1.toInt ≤ 9 by omega) dX9_setOut_2 (fun H locs w1 hw hT k3 c2 => ?_)
  have hF := hF.put hkq0_ (k := 0) (by decide) k3
  refine lv_aload_n hx hb dX9_setOut_5 rfl (lv_at hl 0 rfl) ?_
  refine lv_iload_n hx hb dX9_setOut_6 rfl (lv_at hl 2 rfl) ?_
  refine tk_puti hC hK hw hT hinX9 tyX9_ok nmX9 hkq0_ (by decide) rfl rfl 1 (by decide) (List.mem_of_getElem? (i := 2) rfl) rfl rfl rfl rfl (show 0 ≤ a2.toInt by omega) (show a2.toInt ≤ 9 by omega) dX9_setOut_7 (fun H locs w4 hw hT k6 c5 => ?_)
  have hF := hF.put hkq0_ (k := 1) (by decide) k6
  have c7 := k6.gi (Or.inr (by decide)) c2
  refine lv_aload_n hx hb dX9_setOut_10 rfl (lv_at hl 0 rfl) ?_
  refine lv_iload_n hx hb dX9_setOut_11 rfl (lv_at hl 3 rfl) ?_
  refine tk_puti hC hK hw hT hinX9 tyX9_ok nmX9 hkq0_ (by decide) rfl rfl 2 (by decide) (List.mem_of_getElem? (i := 3) rfl) rfl rfl rfl rfl (show 0 ≤ a3.toInt by omega) (show a3.toInt ≤ 3 by omega) dX9_setOut_12 (fun H locs w8 hw hT k10 c9 => ?_)
  have hF := hF.put hkq0_ (k := 2) (by decide) k10
  have c11 := k10.gi (Or.inr (by decide)) c7
  have c12 := k10.gi (Or.inr (by decide)) c5
  refine lv_aload_n hx hb dX9_setOut_15 rfl (lv_at hl 0 rfl) ?_
  refine lv_iload hx hb dX9_setOut_16 (lv_at hl 4 rfl) ?_
  refine tk_puti hC hK hw hT hinX9 tyX9_ok nmX9 hkq0_ (by decide) rfl rfl 3 (by decide) (List.mem_of_getElem? (i := 4) rfl) rfl rfl rfl rfl (wk_i32 a4).1 (wk_i32 a4).2 dX9_setOut_18 (fun H locs w13 hw hT k15 c14 => ?_)
  have hF := hF.put hkq0_ (k := 3) (by decide) k15
  have c16 := k15.gi (Or.inr (by decide)) c11
  have c17 := k15.gi (Or.inr (by decide)) c12
  have c18 := k15.gi (Or.inr (by decide)) c9
  refine lv_aload_n hx hb dX9_setOut_21 rfl (lv_at hl 0 rfl) ?_
  refine lv_lload hx hb dX9_setOut_22 (lv_at hl 5 rfl) ?_
  refine tk_putB hC hK hw hT hinX9 tyX9_ok nmX9 hkq0_ (by decide) rfl rfl 4 (by decide) (List.mem_of_getElem? (i := 5) rfl) rfl rfl rfl rfl (show 0 ≤ a5.toInt by omega) (show a5.toInt ≤ B by omega) dX9_setOut_24 (fun H locs w19 hw hT k21 c20 => ?_)
  have hF := hF.put hkq0_ (k := 4) (by decide) k21
  have c22 := k21.gi (Or.inr (by decide)) c16
  have c23 := k21.gi (Or.inr (by decide)) c17
  have c24 := k21.gi (Or.inr (by decide)) c18
  have c25 := k21.gi (Or.inr (by decide)) c14
  refine lv_aload_n hx hb dX9_setOut_27 rfl (lv_at hl 0 rfl) ?_
  refine lv_iconst (v := 0) hx hb dX9_setOut_28 (by decide) ?_
  refine tk_puti hC hK hw hT hinX9 tyX9_ok nmX9 hkq0_ (by decide) rfl rfl 5 (by decide) (List.mem_of_getElem? (i := 6) rfl) rfl rfl rfl rfl (by decide) (by decide) dX9_setOut_29 (fun H locs w26 hw hT k28 c27 => ?_)
  have hF := hF.put hkq0_ (k := 5) (by decide) k28
  have c29 := k28.gi (Or.inr (by decide)) c22
  have c30 := k28.gi (Or.inr (by decide)) c23
  have c31 := k28.gi (Or.inr (by decide)) c24
  have c32 := k28.gi (Or.inr (by decide)) c25
  have c33 := k28.gl (Or.inr (by decide)) c20
  refine lv_aload_n hx hb dX9_setOut_32 rfl (lv_at hl 0 rfl) ?_
  refine lv_iconst (v := 0) hx hb dX9_setOut_33 (by decide) ?_
  refine tk_puti hC hK hw hT hinX9 tyX9_ok nmX9 hkq0_ (by decide) rfl rfl 6 (by decide) (List.mem_of_getElem? (i := 7) rfl) rfl rfl rfl rfl (by decide) (by decide) dX9_setOut_34 (fun H locs w34 hw hT k36 c35 => ?_)
  have hF := hF.put hkq0_ (k := 6) (by decide) k36
  have c37 := k36.gi (Or.inr (by decide)) c29
  have c38 := k36.gi (Or.inr (by decide)) c30
  have c39 := k36.gi (Or.inr (by decide)) c31
  have c40 := k36.gi (Or.inr (by decide)) c32
  have c41 := k36.gl (Or.inr (by decide)) c33
  have c42 := k36.gi (Or.inr (by decide)) c27
  refine lv_aload_n hx hb dX9_setOut_37 rfl (lv_at hl 0 rfl) ?_
  refine lv_iconst (v := (-1)) hx hb dX9_setOut_38 (by decide) ?_
  refine tk_puti hC hK hw hT hinX9 tyX9_ok nmX9 hkq0_ (by decide) rfl rfl 7 (by decide) (List.mem_of_getElem? (i := 8) rfl) rfl rfl rfl rfl (by decide) (by decide) dX9_setOut_39 (fun H locs w43 hw hT k45 c44 => ?_)
  have hF := hF.put hkq0_ (k := 7) (by decide) k45
  have c46 := k45.gi (Or.inr (by decide)) c37
  have c47 := k45.gi (Or.inr (by decide)) c38
  have c48 := k45.gi (Or.inr (by decide)) c39
  have c49 := k45.gi (Or.inr (by decide)) c40
  have c50 := k45.gl (Or.inr (by decide)) c41
  have c51 := k45.gi (Or.inr (by decide)) c42
  have c52 := k45.gi (Or.inr (by decide)) c35
  refine lv_aload_n hx hb dX9_setOut_42 rfl (lv_at hl 0 rfl) ?_
  refine lv_ldc2 (v := (-1)) hx hb hC.2.2.2.1 (hC.2.2.2.2 _ (List.mem_of_getElem? (i := 9) rfl)) dX9_setOut_43 ?_
  refine tk_putl hC hK hw hT hinX9 tyX9_ok nmX9 hkq0_ (by decide) rfl rfl 8 (by decide) (List.mem_of_getElem? (i := 10) rfl) rfl rfl rfl rfl (by decide) (by decide) dX9_setOut_46 (fun H locs w53 hw hT k55 c54 => ?_)
  have hF := hF.put hkq0_ (k := 8) (by decide) k55
  have c56 := k55.gi (Or.inr (by decide)) c46
  have c57 := k55.gi (Or.inr (by decide)) c47
  have c58 := k55.gi (Or.inr (by decide)) c48
  have c59 := k55.gi (Or.inr (by decide)) c49
  have c60 := k55.gl (Or.inr (by decide)) c50
  have c61 := k55.gi (Or.inr (by decide)) c51
  have c62 := k55.gi (Or.inr (by decide)) c52
  have c63 := k55.gi (Or.inr (by decide)) c44
  exact tk_vret hC hr hlocks hK ⟨hT, hF, ⟨⟨a4, c59, (show (-1) ≤ a4.toInt by omega), (show a4.toInt ≤ 5 by omega)⟩, ⟨0, c61, (by decide), (by decide)⟩, ⟨0, c62, (by decide), (by decide)⟩, ⟨(-1), c63, (by decide), (by decide)⟩⟩⟩ hw dX9_setOut_49
abbrev P_X11_walker_1 (ad : Nat → Nat) (cy : Nat → ClassId) (B : Int) (qr : Nat) (s1 : Int) (a1 : Int32) (a2 : Int32) (a3 : Int32) (a4 : Int32) (a5 : Int32) (w0 : va_W) : Int32 → va_W → Prop := fun r u => TW ksC ad cy B qr s1 u ∧ FE ksC [(5, 9, 9), (9, 0, 0), (9, 1, 1), (9, 2, 2), (9, 3, 3), (9, 4, 4), (9, 5, 5), (9, 6, 6), (9, 7, 7), (9, 8, 8)] w0 u ∧ ((r = (-2)) ∨ (0 ≤ r.toInt ∧ r.toInt ≤ 3 ∧ 0 ≤ a1.toInt ∧ a1.toInt ≤ 9 ∧ 0 ≤ a2.toInt ∧ a2.toInt ≤ 9 ∧ 0 ≤ a3.toInt ∧ a3.toInt ≤ 3 ∧ (-1) ≤ a4.toInt ∧ a4.toInt ≤ 5 ∧ 0 ≤ a5.toInt ∧ (∃ y : Int32, gi u 38 8 = y ∧ 1 ≤ y.toInt ∧ y.toInt ≤ 4) ∧ (∃ y : Int32, gi u 38 9 = y ∧ 1 ≤ y.toInt ∧ y.toInt ≤ 4) ∧ (∃ y : Int32, gi u 39 8 = y ∧ 1 ≤ y.toInt ∧ y.toInt ≤ 10)))
set_option maxHeartbeats 4000000 in
set_option maxRecDepth 100000 in
theorem k_X11_walker_1 (l : Launch) (adK adV : Nat → Nat) (dC : Nat → ClassId) (dI : Nat → Nat → Nat) (cy : Nat → ClassId) (ad : Nat → Nat) (B : Int) (hB0 : 2147483648 ≤ B) (hB1 : B ≤ 1152921504606846976) (qr : Nat) (s1 : Int)  (a1 : Int32) (a2 : Int32) (a3 : Int32) (a4 : Int32) (a5 : Int32) (w0 : va_W) (sz : Nat) (hT : TW ksC ad cy B qr s1 w0)  : Met l yX11_walker wsX11_walker ({ frames := 2, cells := 0, slots := 0, locals := 38 }) (va_Pc [.ref (ad 0), .int a1, .int a2, .int a3, .int a4, .int a5] (wpreS adK adV dC dI cy sz w0)) (va_Qi (P_X11_walker_1 ad cy B qr s1 a1 a2 a3 a4 a5 w0) (fun u : va_W => wpost dC dI cy (va_A w0 sz) u) (va_A w0 sz)) 0 0 (va_A w0 sz) := by
  refine Met.ofW (cc := cX11_walker) (maxL := 7) (ret := (some .int)) (by decide) rfl ?_
  intro p e s m args below meth c s₁ Bk hml hv
  obtain ⟨rfl, ⟨hsz, hP, hK, hD0⟩, hE, hSR⟩ := hv
  have hx := Bk.exec
  have hb := Bk.bytes
  have hr := Bk.returns
  have hlocks := Bk.notSynchronized
  have hC : CallFix p m c cX11_walker 7 s _ wsX11_walker RX11 := ⟨hx, hb, hml, findClass_of_methodNamed Bk.named, atoms_spec (ws := wsX11_walker) Bk.pre⟩
  subst hsz
  have hD := hD0.self (sz := s.heap.size)
  generalize hAe : va_A w0 s.heap.size = A at hD hE ⊢
  have hA : ∀ q : Nat, s.heap.size ≤ q → A q := fun q h => by rw [← hAe]; exact Or.inr h
  have hw : Wd dC dI A s.heap s.heap [] w0 := ⟨hP, hD, va_S.rf⟩
  have hF : FE ksC [(5, 9, 9), (9, 0, 0), (9, 1, 1), (9, 2, 2), (9, 3, 3), (9, 4, 4), (9, 5, 5), (9, 6, 6), (9, 7, 7), (9, 8, 8)] w0 w0 := FE.rf
  have hl := lv_entry ([.ref (ad 0), .int a1, .int a2, .int a3, .int a4, .int a5]) (n := 7) (Nat.le_of_ble_eq_true rfl)
  rw [lg_entry_eq]
  generalize (lg_sl ([.ref (ad 0), .int a1, .int a2, .int a3, .int a4, .int a5]) ++ List.replicate (7 - (lg_sl ([.ref (ad 0), .int a1, .int a2, .int a3, .int a4, .int a5])).length) Slot.unset).toArray = ls at hl ⊢
  have hl : lv_has ls 7 [(0, .ref (ad 0)), (1, .int a1), (2, .int a2), (3, .int a3), (4, .int a4), (5, .int a5)] := hl
  generalize hloc : ([] : List Loc) = locs at hw ⊢
  have hinX11 : ∀ w ∈ u_ws RX11 TX11 13, w ∈ wsX11_walker := fun _ h => List.mem_cons_of_mem _ (List.mem_append_left _ (List.mem_append_left _ (List.mem_append_left _ (List.mem_append_right _ (h)))))
  have hinX5 : ∀ w ∈ u_ws RX5 TX5 14, w ∈ wsX11_walker := fun _ h => List.mem_cons_of_mem _ (List.mem_append_left _ (List.mem_append_left _ (List.mem_append_right _ (h))))
  have J24 : ∀ (H : Heap) (locs : List Loc) (ls : Array Slot) (w1 : va_W), Wd dC dI A s.heap H locs w1 → TW ksC ad cy B qr s1 w1 → FE ksC [(5, 9, 9), (9, 0, 0), (9, 1, 1), (9, 2, 2), (9, 3, 3), (9, 4, 4), (9, 5, 5), (9, 6, 6), (9, 7, 7), (9, 8, 8)] w0 w1 → lv_has ls 7 [(0, .ref (ad 0)), (1, .int a1), (2, .int a2), (3, .int a3), (4, .int a4), (5, .int a5)] → W p l e ({ frames := 2, cells := 0, slots := 0, locals := 38 }) s m (List.toArray [.ref (ad 0), .int a1, .int a2, .int a3, .int a4, .int a5]) below meth c H locs 0 0 (MQ below (va_Qi (P_X11_walker_1 ad cy B qr s1 a1 a2 a3 a4 a5 w0) (fun u : va_W => wpost dC dI cy A u) A) (List.toArray [.ref (ad 0), .int a1, .int a2, .int a3, .int a4, .int a5]) s 0 0 A) (F0 m 24 ls []) := by
    intro H locs ls w1 hw hT hF hl
    refine lv_bipush (v := (-2)) hx hb dX11_walker_24 (by decide) ?_
    exact tk_iret hC hr hlocks hK ⟨hT, hF, (Or.inl rfl)⟩ hw dX11_walker_26
  have J52 : ∀ (f52_38_8 : Int32) (f52_39_8 : Int32) (H : Heap) (locs : List Loc) (ls : Array Slot) (w2 : va_W), 0 ≤ a1.toInt → a1.toInt ≤ 9 → 0 ≤ a2.toInt → a2.toInt ≤ 9 → 0 ≤ a3.toInt → a3.toInt ≤ 3 → 1 ≤ f52_38_8.toInt → f52_38_8.toInt ≤ 4 → 1 ≤ f52_39_8.toInt → f52_39_8.toInt ≤ 10 → Wd dC dI A s.heap H locs w2 → TW ksC ad cy B qr s1 w2 → FE ksC [(5, 9, 9), (9, 0, 0), (9, 1, 1), (9, 2, 2), (9, 3, 3), (9, 4, 4), (9, 5, 5), (9, 6, 6), (9, 7, 7), (9, 8, 8)] w0 w2 → gi w2 38 8 = f52_38_8 → gi w2 39 8 = f52_39_8 → lv_has ls 7 [(0, .ref (ad 0)), (1, .int a1), (2, .int a2), (3, .int a3), (4, .int a4), (5, .int a5)] → W p l e ({ frames := 2, cells := 0, slots := 0, locals := 38 }) s m (List.toArray [.ref (ad 0), .int a1, .int a2, .int a3, .int a4, .int a5]) below meth c H locs 0 0 (MQ below (va_Qi (P_X11_walker_1 ad cy B qr s1 a1 a2 a3 a4 a5 w0) (fun u : va_W => wpost dC dI cy A u) A) (List.toArray [.ref (ad 0), .int a1, .int a2, .int a3, .int a4, .int a5]) s 0 0 A) (F0 m 52 ls []) := by
    intro f52_38_8 f52_39_8 H locs ls w2 r3 t4 r5 t6 r7 t8 r9 t10 r12 t13 hw hT hF c11 c14 hl
    refine lv_bipush (v := (-2)) hx hb dX11_walker_52 (by decide) ?_
    exact tk_iret hC hr hlocks hK ⟨hT, hF, (Or.inl rfl)⟩ hw dX11_walker_54
  refine lv_aload_n hx hb dX11_walker_0 rfl (lv_at hl 0 rfl) ?_
  refine lv_iload_n hx hb dX11_walker_1 rfl (lv_at hl 1 rfl) ?_
  refine tk_Vi hC hK hw hT hA hE hSR kC_at0 (by decide) rfl (k_X11_hasCorner_1 l adK adV dC dI cy ad B (by omega) (by omega) qr s1   a1 w0 s.heap.size hT ) (cwV 1 hC.2.2.2.2 gX11_walker_X11_hasCorner rfl rfl rfl (by decide +kernel) ⟨Nat.le_of_ble_eq_true rfl, Nat.le_of_ble_eq_true rfl⟩) rfl hl.1 rfl (Nat.le_of_ble_eq_true rfl) dX11_walker_2 (fun r15 w17 H locs hp16 hw => ?_)
  obtain ⟨hT, k18, hg23⟩ := hp16
  have hF := hF.tr k18 (by decide)
  rcases hg23 with rfl | ⟨rfl, g19, g20, ⟨x21, c22, rx21, tx21⟩⟩
  · refine lv_if_eq (tgt := 24) hx hb dX11_walker_5 (by decide) (fun _ => ?_) (fun c => absurd (by decide) c)
    exact J24  H locs ls w17   hw hT hF  (lv_sub hl [0, 1, 2, 3, 4, 5] rfl)
  · refine lv_if_eq (tgt := 24) hx hb dX11_walker_5 (by decide) (fun c => absurd c (by decide)) (fun _ => ?_)
    refine lv_aload_n hx hb dX11_walker_8 rfl (lv_at hl 0 rfl) ?_
    refine lv_iload_n hx hb dX11_walker_9 rfl (lv_at hl 2 rfl) ?_
    refine tk_Vi hC hK hw hT hA hE hSR kC_at0 (by decide) rfl (k_X11_hasCorner_1 l adK adV dC dI cy ad B (by omega) (by omega) qr s1   a2 w17 H.size hT ) (cwV 1 hC.2.2.2.2 gX11_walker_X11_hasCorner rfl rfl rfl (by decide +kernel) ⟨Nat.le_of_ble_eq_true rfl, Nat.le_of_ble_eq_true rfl⟩) rfl hl.1 rfl (Nat.le_of_ble_eq_true rfl) dX11_walker_10 (fun r24 w26 H locs hp25 hw => ?_)
    obtain ⟨hT, k27, hg32⟩ := hp25
    have hF := hF.tr k27 (by decide)
    have c33 := k27.gi kC_at39 (by decide) c22
    rcases hg32 with rfl | ⟨rfl, g28, g29, ⟨x30, c31, rx30, tx30⟩⟩
    · refine lv_if_eq (tgt := 24) hx hb dX11_walker_13 (by decide) (fun _ => ?_) (fun c => absurd (by decide) c)
      exact J24  H locs ls w26   hw hT hF  (lv_sub hl [0, 1, 2, 3, 4, 5] rfl)
    · have ex30 : x30.toInt = x21.toInt := by rw [← c33.symm.trans c31]
      refine lv_if_eq (tgt := 24) hx hb dX11_walker_13 (by decide) (fun c => absurd c (by decide)) (fun _ => ?_)
      refine lv_aload_n hx hb dX11_walker_16 rfl (lv_at hl 0 rfl) ?_
      refine lv_iload_n hx hb dX11_walker_17 rfl (lv_at hl 3 rfl) ?_
      refine tk_Vi hC hK hw hT hA hE hSR kC_at0 (by decide) rfl (k_X11_hasMap_1 l adK adV dC dI cy ad B (by omega) (by omega) qr s1   a3 w26 H.size hT ) (cwV 1 hC.2.2.2.2 gX11_walker_X11_hasMap rfl rfl rfl (by decide +kernel) ⟨Nat.le_of_ble_eq_true rfl, Nat.le_of_ble_eq_true rfl⟩) rfl hl.1 rfl (Nat.le_of_ble_eq_true rfl) dX11_walker_18 (fun r34 w36 H locs hp35 hw => ?_)
      obtain ⟨hT, k37, hg42⟩ := hp35
      have hF := hF.tr k37 (by decide)
      have c43 := k37.gi kC_at39 (by decide) c33
      rcases hg42 with rfl | ⟨rfl, g38, g39, ⟨x40, c41, rx40, tx40⟩⟩
      · refine lv_if_ne (tgt := 27) hx hb dX11_walker_21 (by decide) (fun c => absurd (by decide) c) (fun _ => ?_)
        exact J24  H locs ls w36   hw hT hF  (lv_sub hl [0, 1, 2, 3, 4, 5] rfl)
      · refine lv_if_ne (tgt := 27) hx hb dX11_walker_21 (by decide) (fun _ => ?_) (fun c => absurd c (by decide))
        refine lv_aload_n hx hb dX11_walker_27 rfl (lv_at hl 0 rfl) ?_
        refine lv_iload hx hb dX11_walker_28 (lv_at hl 4 rfl) ?_
        refine tk_Vi hC hK hw hT hA hE hSR kC_at0 (by decide) rfl (k_X11_hasRuleOrNone_1 l adK adV dC dI cy ad B (by omega) (by omega) qr s1   a4 w36 H.size hT ) (cwV 1 hC.2.2.2.2 gX11_walker_X11_hasRuleOrNone rfl rfl rfl (by decide +kernel) ⟨Nat.le_of_ble_eq_true rfl, Nat.le_of_ble_eq_true rfl⟩) rfl hl.1 rfl (Nat.le_of_ble_eq_true rfl) dX11_walker_30 (fun r44 w46 H locs hp45 hw => ?_)
        obtain ⟨hT, k47, hg50⟩ := hp45
        have hF := hF.tr k47 (by decide)
        have c51 := k47.gi kC_at39 (by decide) c43
        have c52 := k47.gi kC_at38 (by decide) c41
        rcases hg50 with rfl | ⟨rfl, g48, g49⟩
        · refine lv_if_eq (tgt := 52) hx hb dX11_walker_33 (by decide) (fun _ => ?_) (fun c => absurd (by decide) c)
          exact J52 x40 x21 H locs ls w46 (show 0 ≤ a1.toInt by omega) (show a1.toInt ≤ 9 by omega) (show 0 ≤ a2.toInt by omega) (show a2.toInt ≤ 9 by omega) (show 0 ≤ a3.toInt by omega) (show a3.toInt ≤ 3 by omega) (show 1 ≤ x40.toInt by omega) (show x40.toInt ≤ 4 by omega) (show 1 ≤ x21.toInt by omega) (show x21.toInt ≤ 10 by omega)  hw hT hF c52 c51 (lv_sub hl [0, 1, 2, 3, 4, 5] rfl)
        · refine lv_if_eq (tgt := 52) hx hb dX11_walker_33 (by decide) (fun c => absurd c (by decide)) (fun _ => ?_)
          refine lv_iload hx hb dX11_walker_36 (lv_at hl 5 rfl) ?_
          refine lv_if_lt (tgt := 52) hx hb dX11_walker_38 (by decide) (fun c53 => ?_) (fun c53 => ?_)
          · have c53 : a5.toInt < (0 : Int) := wk_lt.mp c53
            exact J52 x40 x21 H locs ls w46 (show 0 ≤ a1.toInt by omega) (show a1.toInt ≤ 9 by omega) (show 0 ≤ a2.toInt by omega) (show a2.toInt ≤ 9 by omega) (show 0 ≤ a3.toInt by omega) (show a3.toInt ≤ 3 by omega) (show 1 ≤ x40.toInt by omega) (show x40.toInt ≤ 4 by omega) (show 1 ≤ x21.toInt by omega) (show x21.toInt ≤ 10 by omega)  hw hT hF c52 c51 (lv_sub hl [0, 1, 2, 3, 4, 5] rfl)
          · have c53 : (0 : Int) ≤ a5.toInt := wk_ltF c53
            refine lv_aload_n hx hb dX11_walker_41 rfl (lv_at hl 0 rfl) ?_
            refine tk_getA hC hK hw hT hinX11 kC_at0 (by decide) rfl 4 (by decide) (List.mem_of_getElem? (i := 1) rfl) rfl rfl dX11_walker_42 ?_
            refine tk_geti hC hK hw hT hinX5 kC_at38 (by decide) rfl 9 (by decide) (List.mem_of_getElem? (i := 2) rfl) rfl rfl dX11_walker_45 (fun x54 c55 rx54 tx54 => ?_)
            refine lv_iconst (v := 4) hx hb dX11_walker_48 (by decide) ?_
            refine lv_icmp_lt (tgt := 55) hx hb dX11_walker_49 (by decide) (fun c56 => ?_) (fun c56 => ?_)
            · have c56 : x54.toInt < (4 : Int) := wk_lt.mp c56
              refine lv_aload_n hx hb dX11_walker_55 rfl (lv_at hl 0 rfl) ?_
              refine tk_getA hC hK hw hT hinX11 kC_at0 (by decide) rfl 4 (by decide) (List.mem_of_getElem? (i := 1) rfl) rfl rfl dX11_walker_56 ?_
              refine tk_getO hC hK hw hT hinX5 kC_at38 (by decide) rfl 2 (by decide) (List.mem_of_getElem? (i := 3) rfl) rfl rfl dX11_walker_59 ?_
              refine lv_aload_n hx hb dX11_walker_62 rfl (lv_at hl 0 rfl) ?_
              refine tk_getA hC hK hw hT hinX11 kC_at0 (by decide) rfl 4 (by decide) (List.mem_of_getElem? (i := 1) rfl) rfl rfl dX11_walker_63 ?_
              refine tk_geti hC hK hw hT hinX5 kC_at38 (by decide) rfl 9 (by decide) (List.mem_of_getElem? (i := 2) rfl) rfl rfl dX11_walker_66 (fun x57 c58 rx57 tx57 => ?_)
              refine wk_top x54 (c58.symm.trans c55) ?_
              refine tk_aald hC hK hw hT kC_at49 rfl (by decide) rfl (show 0 ≤ x54.toInt by omega) (show x54.toInt < 4 by omega) dX11_walker_69 (fun j59 hj59 gj59 => ?_)
              refine lv_astore (lv' := [(6, .ref (ad (el 33 49 j59))), (0, .ref (ad 0)), (1, .int a1), (2, .int a2), (3, .int a3), (4, .int a4), (5, .int a5)]) hx hb dX11_walker_70 hl (by decide) rfl (fun ls hl => ?_)
              refine lv_aload hx hb dX11_walker_72 (lv_at hl 0 rfl) ?_
              refine lv_iload_n hx hb dX11_walker_74 rfl (lv_at hl 2 rfl) ?_
              refine lv_iload_n hx hb dX11_walker_75 rfl (lv_at hl 3 rfl) ?_
              refine lv_iload_n hx hb dX11_walker_76 rfl (lv_at hl 4 rfl) ?_
              refine lv_iload hx hb dX11_walker_77 (lv_at hl 5 rfl) ?_
              refine lv_iload hx hb dX11_walker_79 (lv_at hl 6 rfl) ?_
              refine lv_i2l hx hb dX11_walker_81 rfl ?_
              refine lv_topl (fun x60 ex60 => ?_)
              have ex60 : x60.toInt = a5.toInt := by rw [ex60]; exact wk_i2l _
              have bx60 := wk_i32 a5
              refine tk_Vv hC hK hw hT hA hE hSR (kC_el33 kC_at49 hj59) (by decide) rfl (k_X9_setOut_1 l adK adV dC dI cy ad B (by omega) (by omega) qr s1   (el 33 49 j59) (kC_el33 kC_at49 hj59) a1 (show 0 ≤ a1.toInt by omega) (show a1.toInt ≤ 9 by omega) a2 (show 0 ≤ a2.toInt by omega) (show a2.toInt ≤ 9 by omega) a3 (show 0 ≤ a3.toInt by omega) (show a3.toInt ≤ 3 by omega) a4 (show (-1) ≤ a4.toInt by omega) (show a4.toInt ≤ 5 by omega) x60 (show 0 ≤ x60.toInt by omega) (show x60.toInt ≤ 2147483647 by omega) w46 H.size hT ) (cwV 5 hC.2.2.2.2 gX11_walker_X9_setOut rfl rfl rfl (by decide +kernel) ⟨Nat.le_of_ble_eq_true rfl, Nat.le_of_ble_eq_true rfl⟩) rfl hl.1 rfl (Nat.le_of_ble_eq_true rfl) dX11_walker_82 (fun w63 H locs hp62 hw => ?_)
              obtain ⟨hT, k64, hg73⟩ := hp62
              have hF := hF.tr k64 (by decide)
              have c74 := k64.gi kC_at39 (by decide) c51
              have c75 := k64.gi kC_at38 (by decide) c52
              have c76 := k64.gi kC_at38 (by decide) c55
              obtain ⟨⟨x65, c66, rx65, tx65⟩, ⟨x67, c68, rx67, tx67⟩, ⟨x69, c70, rx69, tx69⟩, ⟨x71, c72, rx71, tx71⟩⟩ := hg73
              refine lv_aload_n hx hb dX11_walker_85 rfl (lv_at hl 1 rfl) ?_
              refine tk_getA hC hK hw hT hinX11 kC_at0 (by decide) rfl 4 (by decide) (List.mem_of_getElem? (i := 1) rfl) rfl rfl dX11_walker_86 ?_
              refine lv_dup hx hb dX11_walker_89 rfl ?_
              refine tk_geti hC hK hw hT hinX5 kC_at38 (by decide) rfl 9 (by decide) (List.mem_of_getElem? (i := 2) rfl) rfl rfl dX11_walker_90 (fun x77 c78 rx77 tx77 => ?_)
              refine wk_top x54 (c78.symm.trans c76) ?_
              refine lv_iconst (v := 1) hx hb dX11_walker_93 (by decide) ?_
              refine lv_iadd hx hb dX11_walker_94 ?_
              refine lv_topi (fun x79 ex79 => ?_)
              have ex79 : x79.toInt = x54.toInt + (1 : Int) := by rw [ex79]; exact wk_add (show (-2147483648) ≤ x54.toInt + (1 : Int) by omega) (show x54.toInt + (1 : Int) ≤ 2147483647 by omega)
              refine tk_puti hC hK hw hT hinX5 tyX5_ok nmX5 kC_at38 (by decide) rfl rfl 9 (by decide) (List.mem_of_getElem? (i := 2) rfl) rfl rfl rfl rfl (show 0 ≤ x79.toInt by omega) (show x79.toInt ≤ 4 by omega) dX11_walker_95 (fun H locs w80 hw hT k82 c81 => ?_)
              have hF := hF.put kC_at38 (k := 9) (by decide) k82
              have c83 := k82.gi (Or.inr (by decide)) c74
              have c84 := k82.gi (Or.inr (by decide)) c75
              have c85 := k82.gi (Or.inr (by decide)) c66
              have c86 := k82.gi (Or.inr (by decide)) c68
              have c87 := k82.gi (Or.inr (by decide)) c70
              have c88 := k82.gi (Or.inr (by decide)) c72
              refine lv_aload_n hx hb dX11_walker_98 rfl (lv_at hl 1 rfl) ?_
              refine tk_getA hC hK hw hT hinX11 kC_at0 (by decide) rfl 4 (by decide) (List.mem_of_getElem? (i := 1) rfl) rfl rfl dX11_walker_99 ?_
              refine tk_geti hC hK hw hT hinX5 kC_at38 (by decide) rfl 9 (by decide) (List.mem_of_getElem? (i := 2) rfl) rfl rfl dX11_walker_102 (fun x89 c90 rx89 tx89 => ?_)
              refine wk_top x79 (c90.symm.trans c81) ?_
              refine lv_iconst (v := 1) hx hb dX11_walker_105 (by decide) ?_
              refine lv_isub hx hb dX11_walker_106 ?_
              refine lv_topi (fun x91 ex91 => ?_)
              have ex91 : x91.toInt = x79.toInt - (1 : Int) := by rw [ex91]; exact wk_sub (show (-2147483648) ≤ x79.toInt - (1 : Int) by omega) (show x79.toInt - (1 : Int) ≤ 2147483647 by omega)
              exact tk_iret hC hr hlocks hK ⟨hT, hF, (Or.inr ⟨(show 0 ≤ x91.toInt by omega), (show x91.toInt ≤ 3 by omega), (show 0 ≤ a1.toInt by omega), (show a1.toInt ≤ 9 by omega), (show 0 ≤ a2.toInt by omega), (show a2.toInt ≤ 9 by omega), (show 0 ≤ a3.toInt by omega), (show a3.toInt ≤ 3 by omega), (show (-1) ≤ a4.toInt by omega), (show a4.toInt ≤ 5 by omega), (show 0 ≤ a5.toInt by omega), ⟨x40, c84, (show 1 ≤ x40.toInt by omega), (show x40.toInt ≤ 4 by omega)⟩, ⟨x79, c81, (show 1 ≤ x79.toInt by omega), (show x79.toInt ≤ 4 by omega)⟩, ⟨x21, c83, (show 1 ≤ x21.toInt by omega), (show x21.toInt ≤ 10 by omega)⟩⟩)⟩ hw dX11_walker_107
            · have c56 : (4 : Int) ≤ x54.toInt := wk_ltF c56
              exact J52 x40 x21 H locs ls w46 (show 0 ≤ a1.toInt by omega) (show a1.toInt ≤ 9 by omega) (show 0 ≤ a2.toInt by omega) (show a2.toInt ≤ 9 by omega) (show 0 ≤ a3.toInt by omega) (show a3.toInt ≤ 3 by omega) (show 1 ≤ x40.toInt by omega) (show x40.toInt ≤ 4 by omega) (show 1 ≤ x21.toInt by omega) (show x21.toInt ≤ 10 by omega)  hw hT hF c52 c51 (lv_sub hl [0, 1, 2, 3, 4, 5] rfl)
abbrev P_X11_hasWalker_1 (ad : Nat → Nat) (cy : Nat → ClassId) (B : Int) (qr : Nat) (s1 : Int) (a1 : Int32) (w0 : va_W) : Int32 → va_W → Prop := fun r u => TW ksC ad cy B qr s1 u ∧ FE ksC ([] : List (Nat × Nat × Nat)) w0 u ∧ ((r = 0) ∨ (r = 1 ∧ 0 ≤ a1.toInt ∧ a1.toInt ≤ 3 ∧ (∃ y : Int32, gi u 38 9 = y ∧ 1 ≤ y.toInt ∧ y.toInt ≤ 4)))
set_option maxHeartbeats 4000000 in
set_option maxRecDepth 100000 in
theorem k_X11_hasWalker_1 (l : Launch) (adK adV : Nat → Nat) (dC : Nat → ClassId) (dI : Nat → Nat → Nat) (cy : Nat → ClassId) (ad : Nat → Nat) (B : Int) (hB0 : 2147483648 ≤ B) (hB1 : B ≤ 1152921504606846976) (qr : Nat) (s1 : Int)  (a1 : Int32) (w0 : va_W) (sz : Nat) (hT : TW ksC ad cy B qr s1 w0)  : Met l yX11_hasWalker wsX11_hasWalker ({ frames := 1, cells := 0, slots := 0, locals := 12 }) (va_Pc [.ref (ad 0), .int a1] (wpreS adK adV dC dI cy sz w0)) (va_Qi (P_X11_hasWalker_1 ad cy B qr s1 a1 w0) (fun u : va_W => wpost dC dI cy (va_A w0 sz) u) (va_A w0 sz)) 0 0 (va_A w0 sz) := by
  refine Met.ofW (cc := cX11_hasWalker) (maxL := 2) (ret := (some .boolean)) (by decide) rfl ?_
  intro p e s m args below meth c s₁ Bk hml hv
  obtain ⟨rfl, ⟨hsz, hP, hK, hD0⟩, hE, hSR⟩ := hv
  have hx := Bk.exec
  have hb := Bk.bytes
  have hr := Bk.returns
  have hlocks := Bk.notSynchronized
  have hC : CallFix p m c cX11_hasWalker 2 s _ wsX11_hasWalker RX11 := ⟨hx, hb, hml, findClass_of_methodNamed Bk.named, atoms_spec (ws := wsX11_hasWalker) Bk.pre⟩
  subst hsz
  have hD := hD0.self (sz := s.heap.size)
  generalize hAe : va_A w0 s.heap.size = A at hD hE ⊢
  have hA : ∀ q : Nat, s.heap.size ≤ q → A q := fun q h => by rw [← hAe]; exact Or.inr h
  have hw : Wd dC dI A s.heap s.heap [] w0 := ⟨hP, hD, va_S.rf⟩
  have hF : FE ksC ([] : List (Nat × Nat × Nat)) w0 w0 := FE.rf
  have hl := lv_entry ([.ref (ad 0), .int a1]) (n := 2) (Nat.le_of_ble_eq_true rfl)
  rw [lg_entry_eq]
  generalize (lg_sl ([.ref (ad 0), .int a1]) ++ List.replicate (2 - (lg_sl ([.ref (ad 0), .int a1])).length) Slot.unset).toArray = ls at hl ⊢
  have hl : lv_has ls 2 [(0, .ref (ad 0)), (1, .int a1)] := hl
  generalize hloc : ([] : List Loc) = locs at hw ⊢
  have hinX11 : ∀ w ∈ u_ws RX11 TX11 13, w ∈ wsX11_hasWalker := fun _ h => List.mem_cons_of_mem _ (List.mem_append_left _ (List.mem_append_right _ (h)))
  have hinX5 : ∀ w ∈ u_ws RX5 TX5 14, w ∈ wsX11_hasWalker := fun _ h => List.mem_cons_of_mem _ (List.mem_append_right _ (h))
  have J19 : ∀ (H : Heap) (locs : List Loc) (ls : Array Slot) (w1 : va_W), Wd dC dI A s.heap H locs w1 → TW ksC ad cy B qr s1 w1 → FE ksC ([] : List (Nat × Nat × Nat)) w0 w1 → lv_has ls 2 [(0, .ref (ad 0)), (1, .int a1)] → W p l e ({ frames := 1, cells := 0, slots := 0, locals := 12 }) s m (List.toArray [.ref (ad 0), .int a1]) below meth c H locs 0 0 (MQ below (va_Qi (P_X11_hasWalker_1 ad cy B qr s1 a1 w0) (fun u : va_W => wpost dC dI cy A u) A) (List.toArray [.ref (ad 0), .int a1]) s 0 0 A) (F0 m 19 ls []) := by
    intro H locs ls w1 hw hT hF hl
    refine lv_iconst (v := 0) hx hb dX11_hasWalker_19 (by decide) ?_
    exact tk_zret hC hr rfl hlocks hK ⟨hT, hF, (Or.inl rfl)⟩ hw dX11_hasWalker_20
  refine lv_iload_n hx hb dX11_hasWalker_0 rfl (lv_at hl 1 rfl) ?_
  refine lv_if_lt (tgt := 19) hx hb dX11_hasWalker_1 (by decide) (fun c2 => ?_) (fun c2 => ?_)
  · have c2 : a1.toInt < (0 : Int) := wk_lt.mp c2
    exact J19  s.heap locs ls w0   hw hT hF  (lv_sub hl [0, 1] rfl)
  · have c2 : (0 : Int) ≤ a1.toInt := wk_ltF c2
    refine lv_iload_n hx hb dX11_hasWalker_4 rfl (lv_at hl 1 rfl) ?_
    refine lv_aload_n hx hb dX11_hasWalker_5 rfl (lv_at hl 0 rfl) ?_
    refine tk_getA hC hK hw hT hinX11 kC_at0 (by decide) rfl 4 (by decide) (List.mem_of_getElem? (i := 1) rfl) rfl rfl dX11_hasWalker_6 ?_
    refine tk_geti hC hK hw hT hinX5 kC_at38 (by decide) rfl 9 (by decide) (List.mem_of_getElem? (i := 2) rfl) rfl rfl dX11_hasWalker_9 (fun x3 c4 rx3 tx3 => ?_)
    refine lv_icmp_ge (tgt := 19) hx hb dX11_hasWalker_12 (by decide) (fun c5 => ?_) (fun c5 => ?_)
    · have c5 : x3.toInt ≤ a1.toInt := wk_le.mp c5
      exact J19  s.heap locs ls w0   hw hT hF  (lv_sub hl [0, 1] rfl)
    · have c5 : a1.toInt < x3.toInt := wk_leF c5
      refine lv_iconst (v := 1) hx hb dX11_hasWalker_15 (by decide) ?_
      refine lv_goto (tgt := 20) hx hb dX11_hasWalker_16 (by decide) ?_
      exact tk_zret hC hr rfl hlocks hK ⟨hT, hF, (Or.inr ⟨rfl, (show 0 ≤ a1.toInt by omega), (show a1.toInt ≤ 3 by omega), ⟨x3, c4, (show 1 ≤ x3.toInt by omega), (show x3.toInt ≤ 4 by omega)⟩⟩)⟩ hw dX11_hasWalker_20
abbrev P_X9_tell_1 (ad : Nat → Nat) (cy : Nat → ClassId) (B : Int) (qr : Nat) (s1 : Int) (q0_ : Nat) (a1 : Int32) (w0 : va_W) : Int32 → va_W → Prop := fun r u => TW ksC ad cy B qr s1 u ∧ FE ksC ([] : List (Nat × Nat × Nat)) w0 u ∧ ((3 ≤ a1.toInt) ∨ (0 ≤ r.toInt ∧ r.toInt ≤ 9 ∧ a1.toInt ≤ 2))
set_option maxHeartbeats 4000000 in
set_option maxRecDepth 100000 in
theorem k_X9_tell_1 (l : Launch) (adK adV : Nat → Nat) (dC : Nat → ClassId) (dI : Nat → Nat → Nat) (cy : Nat → ClassId) (ad : Nat → Nat) (B : Int) (hB0 : 2147483648 ≤ B) (hB1 : B ≤ 1152921504606846976) (qr : Nat) (s1 : Int)  (q0_ : Nat) (hkq0_ : ksC[q0_]? = some 9) (a1 : Int32) (ra1 : 0 ≤ a1.toInt) (ta1 : a1.toInt ≤ 7) (w0 : va_W) (sz : Nat) (hT : TW ksC ad cy B qr s1 w0)  : Met l yX9_tell wsX9_tell ({ frames := 1, cells := 0, slots := 0, locals := 12 }) (va_Pc [.ref (ad q0_), .int a1] (wpreS adK adV dC dI cy sz w0)) (va_Qi (P_X9_tell_1 ad cy B qr s1 q0_ a1 w0) (fun u : va_W => wpost dC dI cy (va_A w0 sz) u) (va_A w0 sz)) 0 0 (va_A w0 sz) := by
  refine Met.ofW (cc := cX9_tell) (maxL := 2) (ret := (some .int)) (by decide) rfl ?_
  intro p e s m args below meth c s₁ Bk hml hv
  obtain ⟨rfl, ⟨hsz, hP, hK, hD0⟩, hE, hSR⟩ := hv
  have hx := Bk.exec
  have hb := Bk.bytes
  have hr := Bk.returns
  have hlocks := Bk.notSynchronized
  have hC : CallFix p m c cX9_tell 2 s _ wsX9_tell RX9 := ⟨hx, hb, hml, findClass_of_methodNamed Bk.named, atoms_spec (ws := wsX9_tell) Bk.pre⟩
  subst hsz
  have hD := hD0.self (sz := s.heap.size)
  generalize hAe : va_A w0 s.heap.size = A at hD hE ⊢
  have hA : ∀ q : Nat, s.heap.size ≤ q → A q := fun q h => by rw [← hAe]; exact Or.inr h
  have hw : Wd dC dI A s.heap s.heap [] w0 := ⟨hP, hD, va_S.rf⟩
  have hF : FE ksC ([] : List (Nat × Nat × Nat)) w0 w0 := FE.rf
  have hl := lv_entry ([.ref (ad q0_), .int a1]) (n := 2) (Nat.le_of_ble_eq_true rfl)
  rw [lg_entry_eq]
  generalize (lg_sl ([.ref (ad q0_), .int a1]) ++ List.replicate (2 - (lg_sl ([.ref (ad q0_), .int a1])).length) Slot.unset).toArray = ls at hl ⊢
  have hl : lv_has ls 2 [(0, .ref (ad q0_)), (1, .int a1)] := hl
  generalize hloc : ([] : List Loc) = locs at hw ⊢
  have hinX9 : ∀ w ∈ u_ws RX9 TX9 9, w ∈ wsX9_tell := fun _ h => List.mem_cons_of_mem _ (List.mem_append_right _ (h))
  refine lv_iload_n hx hb dX9_tell_0 rfl (lv_at hl 1 rfl) ?_
  rcases (show a1.toInt = 0 ∨ a1.toInt = 1 ∨ a1.toInt = 2 ∨ a1.toInt = 3 ∨ a1.toInt = 4 ∨ a1.toInt = 5 ∨ a1.toInt = 6 ∨ (a1.toInt < 0 ∨ 6 < a1.toInt) by omega) with c1 | c1 | c1 | c1 | c1 | c1 | c1 | c1
  · refine lv_tableIn (off := 43) (tgt := 44) hx hb dX9_tell_1 (by omega) (by omega) (by rw [c1]; rfl) (by decide) ?_
    refine lv_aload_n hx hb dX9_tell_44 rfl (lv_at hl 0 rfl) ?_
    refine tk_geti hC hK hw hT hinX9 hkq0_ (by decide) rfl 0 (by decide) (List.mem_of_getElem? (i := 1) rfl) rfl rfl dX9_tell_45 (fun x2 c3 rx2 tx2 => ?_)
    exact tk_iret hC hr hlocks hK ⟨hT, hF, (Or.inr ⟨(show 0 ≤ x2.toInt by omega), (show x2.toInt ≤ 9 by omega), (show a1.toInt ≤ 2 by omega)⟩)⟩ hw dX9_tell_48
  · refine lv_tableIn (off := 48) (tgt := 49) hx hb dX9_tell_1 (by omega) (by omega) (by rw [c1]; rfl) (by decide) ?_
    refine lv_aload_n hx hb dX9_tell_49 rfl (lv_at hl 0 rfl) ?_
    refine tk_geti hC hK hw hT hinX9 hkq0_ (by decide) rfl 1 (by decide) (List.mem_of_getElem? (i := 2) rfl) rfl rfl dX9_tell_50 (fun x4 c5 rx4 tx4 => ?_)
    exact tk_iret hC hr hlocks hK ⟨hT, hF, (Or.inr ⟨(show 0 ≤ x4.toInt by omega), (show x4.toInt ≤ 9 by omega), (show a1.toInt ≤ 2 by omega)⟩)⟩ hw dX9_tell_53
  · refine lv_tableIn (off := 53) (tgt := 54) hx hb dX9_tell_1 (by omega) (by omega) (by rw [c1]; rfl) (by decide) ?_
    refine lv_aload_n hx hb dX9_tell_54 rfl (lv_at hl 0 rfl) ?_
    refine tk_geti hC hK hw hT hinX9 hkq0_ (by decide) rfl 2 (by decide) (List.mem_of_getElem? (i := 3) rfl) rfl rfl dX9_tell_55 (fun x6 c7 rx6 tx6 => ?_)
    exact tk_iret hC hr hlocks hK ⟨hT, hF, (Or.inr ⟨(show 0 ≤ x6.toInt by omega), (show x6.toInt ≤ 9 by omega), (show a1.toInt ≤ 2 by omega)⟩)⟩ hw dX9_tell_58
  · refine lv_tableIn (off := 58) (tgt := 59) hx hb dX9_tell_1 (by omega) (by omega) (by rw [c1]; rfl) (by decide) ?_
    refine lv_aload_n hx hb dX9_tell_59 rfl (lv_at hl 0 rfl) ?_
    refine tk_geti hC hK hw hT hinX9 hkq0_ (by decide) rfl 3 (by decide) (List.mem_of_getElem? (i := 4) rfl) rfl rfl dX9_tell_60 (fun x8 c9 rx8 tx8 => ?_)
    exact tk_iret hC hr hlocks hK ⟨hT, hF, (Or.inl (show 3 ≤ a1.toInt by omega))⟩ hw dX9_tell_63
  · refine lv_tableIn (off := 63) (tgt := 64) hx hb dX9_tell_1 (by omega) (by omega) (by rw [c1]; rfl) (by decide) ?_
    refine lv_aload_n hx hb dX9_tell_64 rfl (lv_at hl 0 rfl) ?_
    refine tk_getB hC hK hw hT hinX9 hkq0_ (by decide) rfl 4 (by decide) (List.mem_of_getElem? (i := 5) rfl) rfl rfl dX9_tell_65 (fun x10 c11 rx10 tx10 => ?_)
    refine lv_l2i hx hb dX9_tell_68 rfl ?_
    refine lv_topi (fun x12 ex12 => ?_)
    exact tk_iret hC hr hlocks hK ⟨hT, hF, (Or.inl (show 3 ≤ a1.toInt by omega))⟩ hw dX9_tell_69
  · refine lv_tableIn (off := 69) (tgt := 70) hx hb dX9_tell_1 (by omega) (by omega) (by rw [c1]; rfl) (by decide) ?_
    refine lv_aload_n hx hb dX9_tell_70 rfl (lv_at hl 0 rfl) ?_
    refine tk_geti hC hK hw hT hinX9 hkq0_ (by decide) rfl 5 (by decide) (List.mem_of_getElem? (i := 6) rfl) rfl rfl dX9_tell_71 (fun x13 c14 rx13 tx13 => ?_)
    exact tk_iret hC hr hlocks hK ⟨hT, hF, (Or.inl (show 3 ≤ a1.toInt by omega))⟩ hw dX9_tell_74
  · refine lv_tableIn (off := 74) (tgt := 75) hx hb dX9_tell_1 (by omega) (by omega) (by rw [c1]; rfl) (by decide) ?_
    refine lv_aload_n hx hb dX9_tell_75 rfl (lv_at hl 0 rfl) ?_
    refine tk_geti hC hK hw hT hinX9 hkq0_ (by decide) rfl 6 (by decide) (List.mem_of_getElem? (i := 7) rfl) rfl rfl dX9_tell_76 (fun x15 c16 rx15 tx15 => ?_)
    exact tk_iret hC hr hlocks hK ⟨hT, hF, (Or.inl (show 3 ≤ a1.toInt by omega))⟩ hw dX9_tell_79
  · refine lv_tableOut (tgt := 80) hx hb dX9_tell_1 c1 (by decide) ?_
    refine lv_aload_n hx hb dX9_tell_80 rfl (lv_at hl 0 rfl) ?_
    refine tk_geti hC hK hw hT hinX9 hkq0_ (by decide) rfl 7 (by decide) (List.mem_of_getElem? (i := 8) rfl) rfl rfl dX9_tell_81 (fun x17 c18 rx17 tx17 => ?_)
    exact tk_iret hC hr hlocks hK ⟨hT, hF, (Or.inl (show 3 ≤ a1.toInt by omega))⟩ hw dX9_tell_84
abbrev P_X11_about_1 (ad : Nat → Nat) (cy : Nat → ClassId) (B : Int) (qr : Nat) (s1 : Int) (a1 : Int32) (a2 : Int32) (w0 : va_W) : Int32 → va_W → Prop := fun r u => TW ksC ad cy B qr s1 u ∧ FE ksC ([] : List (Nat × Nat × Nat)) w0 u ∧ ((0 ≤ a1.toInt ∧ a1.toInt ≤ 3 ∧ 3 ≤ a2.toInt ∧ a2.toInt ≤ 7 ∧ (∃ y : Int32, gi u 38 9 = y ∧ 1 ≤ y.toInt ∧ y.toInt ≤ 4)) ∨ (0 ≤ r.toInt ∧ r.toInt ≤ 9 ∧ 0 ≤ a1.toInt ∧ a1.toInt ≤ 3 ∧ 0 ≤ a2.toInt ∧ a2.toInt ≤ 2 ∧ (∃ y : Int32, gi u 38 9 = y ∧ 1 ≤ y.toInt ∧ y.toInt ≤ 4)) ∨ (r = (-1)))
set_option maxHeartbeats 4000000 in
set_option maxRecDepth 100000 in
theorem k_X11_about_1 (l : Launch) (adK adV : Nat → Nat) (dC : Nat → ClassId) (dI : Nat → Nat → Nat) (cy : Nat → ClassId) (ad : Nat → Nat) (B : Int) (hB0 : 2147483648 ≤ B) (hB1 : B ≤ 1152921504606846976) (qr : Nat) (s1 : Int)  (a1 : Int32) (a2 : Int32) (w0 : va_W) (sz : Nat) (hT : TW ksC ad cy B qr s1 w0)  : Met l yX11_about wsX11_about ({ frames := 2, cells := 0, slots := 0, locals := 33 }) (va_Pc [.ref (ad 0), .int a1, .int a2] (wpreS adK adV dC dI cy sz w0)) (va_Qi (P_X11_about_1 ad cy B qr s1 a1 a2 w0) (fun u : va_W => wpost dC dI cy (va_A w0 sz) u) (va_A w0 sz)) 0 0 (va_A w0 sz) := by
  refine Met.ofW (cc := cX11_about) (maxL := 3) (ret := (some .int)) (by decide) rfl ?_
  intro p e s m args below meth c s₁ Bk hml hv
  obtain ⟨rfl, ⟨hsz, hP, hK, hD0⟩, hE, hSR⟩ := hv
  have hx := Bk.exec
  have hb := Bk.bytes
  have hr := Bk.returns
  have hlocks := Bk.notSynchronized
  have hC : CallFix p m c cX11_about 3 s _ wsX11_about RX11 := ⟨hx, hb, hml, findClass_of_methodNamed Bk.named, atoms_spec (ws := wsX11_about) Bk.pre⟩
  subst hsz
  have hD := hD0.self (sz := s.heap.size)
  generalize hAe : va_A w0 s.heap.size = A at hD hE ⊢
  have hA : ∀ q : Nat, s.heap.size ≤ q → A q := fun q h => by rw [← hAe]; exact Or.inr h
  have hw : Wd dC dI A s.heap s.heap [] w0 := ⟨hP, hD, va_S.rf⟩
  have hF : FE ksC ([] : List (Nat × Nat × Nat)) w0 w0 := FE.rf
  have hl := lv_entry ([.ref (ad 0), .int a1, .int a2]) (n := 3) (Nat.le_of_ble_eq_true rfl)
  rw [lg_entry_eq]
  generalize (lg_sl ([.ref (ad 0), .int a1, .int a2]) ++ List.replicate (3 - (lg_sl ([.ref (ad 0), .int a1, .int a2])).length) Slot.unset).toArray = ls at hl ⊢
  have hl : lv_has ls 3 [(0, .ref (ad 0)), (1, .int a1), (2, .int a2)] := hl
  generalize hloc : ([] : List Loc) = locs at hw ⊢
  have hinX11 : ∀ w ∈ u_ws RX11 TX11 13, w ∈ wsX11_about := fun _ h => List.mem_cons_of_mem _ (List.mem_append_left _ (List.mem_append_left _ (List.mem_append_right _ (h))))
  have hinX5 : ∀ w ∈ u_ws RX5 TX5 14, w ∈ wsX11_about := fun _ h => List.mem_cons_of_mem _ (List.mem_append_left _ (List.mem_append_right _ (h)))
  have J18 : ∀ (H : Heap) (locs : List Loc) (ls : Array Slot) (w1 : va_W), Wd dC dI A s.heap H locs w1 → TW ksC ad cy B qr s1 w1 → FE ksC ([] : List (Nat × Nat × Nat)) w0 w1 → lv_has ls 3 [(0, .ref (ad 0)), (1, .int a1), (2, .int a2)] → W p l e ({ frames := 2, cells := 0, slots := 0, locals := 33 }) s m (List.toArray [.ref (ad 0), .int a1, .int a2]) below meth c H locs 0 0 (MQ below (va_Qi (P_X11_about_1 ad cy B qr s1 a1 a2 w0) (fun u : va_W => wpost dC dI cy A u) A) (List.toArray [.ref (ad 0), .int a1, .int a2]) s 0 0 A) (F0 m 18 ls []) := by
    intro H locs ls w1 hw hT hF hl
    refine lv_iconst (v := (-1)) hx hb dX11_about_18 (by decide) ?_
    exact tk_iret hC hr hlocks hK ⟨hT, hF, (Or.inr (Or.inr rfl))⟩ hw dX11_about_19
  refine lv_aload_n hx hb dX11_about_0 rfl (lv_at hl 0 rfl) ?_
  refine lv_iload_n hx hb dX11_about_1 rfl (lv_at hl 1 rfl) ?_
  refine tk_Vi hC hK hw hT hA hE hSR kC_at0 (by decide) rfl (k_X11_hasWalker_1 l adK adV dC dI cy ad B (by omega) (by omega) qr s1   a1 w0 s.heap.size hT ) (cwV 1 hC.2.2.2.2 gX11_about_X11_hasWalker rfl rfl rfl (by decide +kernel) ⟨Nat.le_of_ble_eq_true rfl, Nat.le_of_ble_eq_true rfl⟩) rfl hl.1 rfl (Nat.le_of_ble_eq_true rfl) dX11_about_2 (fun r2 w4 H locs hp3 hw => ?_)
  obtain ⟨hT, k5, hg10⟩ := hp3
  have hF := hF.tr k5 (by decide)
  rcases hg10 with rfl | ⟨rfl, g6, g7, ⟨x8, c9, rx8, tx8⟩⟩
  · refine lv_if_eq (tgt := 18) hx hb dX11_about_5 (by decide) (fun _ => ?_) (fun c => absurd (by decide) c)
    exact J18  H locs ls w4   hw hT hF  (lv_sub hl [0, 1, 2] rfl)
  · refine lv_if_eq (tgt := 18) hx hb dX11_about_5 (by decide) (fun c => absurd c (by decide)) (fun _ => ?_)
    refine lv_iload_n hx hb dX11_about_8 rfl (lv_at hl 2 rfl) ?_
    refine lv_if_lt (tgt := 18) hx hb dX11_about_9 (by decide) (fun c11 => ?_) (fun c11 => ?_)
    · have c11 : a2.toInt < (0 : Int) := wk_lt.mp c11
      exact J18  H locs ls w4   hw hT hF  (lv_sub hl [0, 1, 2] rfl)
    · have c11 : (0 : Int) ≤ a2.toInt := wk_ltF c11
      refine lv_iload_n hx hb dX11_about_12 rfl (lv_at hl 2 rfl) ?_
      refine lv_bipush (v := 7) hx hb dX11_about_13 (by decide) ?_
      refine lv_icmp_le (tgt := 20) hx hb dX11_about_15 (by decide) (fun c12 => ?_) (fun c12 => ?_)
      · have c12 : a2.toInt ≤ (7 : Int) := wk_le.mp c12
        refine lv_aload_n hx hb dX11_about_20 rfl (lv_at hl 0 rfl) ?_
        refine tk_getA hC hK hw hT hinX11 kC_at0 (by decide) rfl 4 (by decide) (List.mem_of_getElem? (i := 1) rfl) rfl rfl dX11_about_21 ?_
        refine tk_getO hC hK hw hT hinX5 kC_at38 (by decide) rfl 2 (by decide) (List.mem_of_getElem? (i := 2) rfl) rfl rfl dX11_about_24 ?_
        refine lv_iload_n hx hb dX11_about_27 rfl (lv_at hl 1 rfl) ?_
        refine tk_aald hC hK hw hT kC_at49 rfl (by decide) rfl (show 0 ≤ a1.toInt by omega) (show a1.toInt < 4 by omega) dX11_about_28 (fun j13 hj13 gj13 => ?_)
        refine lv_iload_n hx hb dX11_about_29 rfl (lv_at hl 2 rfl) ?_
        refine tk_Vi hC hK hw hT hA hE hSR (kC_el33 kC_at49 hj13) (by decide) rfl (k_X9_tell_1 l adK adV dC dI cy ad B (by omega) (by omega) qr s1   (el 33 49 j13) (kC_el33 kC_at49 hj13) a2 (show 0 ≤ a2.toInt by omega) (show a2.toInt ≤ 7 by omega) w4 H.size hT ) (cwV 1 hC.2.2.2.2 gX11_about_X9_tell rfl rfl rfl (by decide +kernel) ⟨Nat.le_of_ble_eq_true rfl, Nat.le_of_ble_eq_true rfl⟩) rfl hl.1 rfl (Nat.le_of_ble_eq_true rfl) dX11_about_30 (fun r14 w16 H locs hp15 hw => ?_)
        obtain ⟨hT, k17, hg22⟩ := hp15
        have hF := hF.tr k17 (by decide)
        have c23 := k17.gi kC_at38 (by decide) c9
        rcases hg22 with g18 | ⟨g19, g20, g21⟩
        · exact tk_iret hC hr hlocks hK ⟨hT, hF, (Or.inl ⟨(show 0 ≤ a1.toInt by omega), (show a1.toInt ≤ 3 by omega), (show 3 ≤ a2.toInt by omega), (show a2.toInt ≤ 7 by omega), ⟨x8, c23, (show 1 ≤ x8.toInt by omega), (show x8.toInt ≤ 4 by omega)⟩⟩)⟩ hw dX11_about_33
        · exact tk_iret hC hr hlocks hK ⟨hT, hF, (Or.inr (Or.inl ⟨(show 0 ≤ r14.toInt by omega), (show r14.toInt ≤ 9 by omega), (show 0 ≤ a1.toInt by omega), (show a1.toInt ≤ 3 by omega), (show 0 ≤ a2.toInt by omega), (show a2.toInt ≤ 2 by omega), ⟨x8, c23, (show 1 ≤ x8.toInt by omega), (show x8.toInt ≤ 4 by omega)⟩⟩))⟩ hw dX11_about_33
      · have c12 : (7 : Int) < a2.toInt := wk_leF c12
        exact J18  H locs ls w4   hw hT hF  (lv_sub hl [0, 1, 2] rfl)
abbrev P_X0_spot_2 (ad : Nat → Nat) (cy : Nat → ClassId) (B : Int) (qr : Nat) (s1 : Int) (a0 : Int32) (a1 : Int32) (a2 : Int32) (w0 : va_W) : Int32 → va_W → Prop := fun r u => TW ksC ad cy B qr s1 u ∧ FE ksC ([] : List (Nat × Nat × Nat)) w0 u ∧ ((0 ≤ r.toInt ∧ r.toInt ≤ 1099))
set_option maxHeartbeats 4000000 in
set_option maxRecDepth 100000 in
theorem k_X0_spot_2 (l : Launch) (adK adV : Nat → Nat) (dC : Nat → ClassId) (dI : Nat → Nat → Nat) (cy : Nat → ClassId) (ad : Nat → Nat) (B : Int) (hB0 : 2147483648 ≤ B) (hB1 : B ≤ 1152921504606846976) (qr : Nat) (s1 : Int)  (a0 : Int32) (ra0 : 0 ≤ a0.toInt) (ta0 : a0.toInt ≤ 10) (a1 : Int32) (ra1 : 0 ≤ a1.toInt) (ta1 : a1.toInt ≤ 9) (a2 : Int32) (ra2 : 0 ≤ a2.toInt) (ta2 : a2.toInt ≤ 9) (w0 : va_W) (sz : Nat) (hT : TW ksC ad cy B qr s1 w0)  : Met l yX0_spot wsX0_spot ({ frames := 1, cells := 0, slots := 0, locals := 12 }) (va_Pc [.int a0, .int a1, .int a2] (wpreS adK adV dC dI cy sz w0)) (va_Qi (P_X0_spot_2 ad cy B qr s1 a0 a1 a2 w0) (fun u : va_W => wpost dC dI cy (va_A w0 sz) u) (va_A w0 sz)) 0 0 (va_A w0 sz) := by
  refine Met.ofW (cc := cX0_spot) (maxL := 3) (ret := (some .int)) (by decide) rfl ?_
  intro p e s m args below meth c s₁ Bk hml hv
  obtain ⟨rfl, ⟨hsz, hP, hK, hD0⟩, hE, hSR⟩ := hv
  have hx := Bk.exec
  have hb := Bk.bytes
  have hr := Bk.returns
  have hlocks := Bk.notSynchronized
  have hC : CallFix p m c cX0_spot 3 s _ wsX0_spot RX0 := ⟨hx, hb, hml, findClass_of_methodNamed Bk.named, atoms_spec (ws := wsX0_spot) Bk.pre⟩
  subst hsz
  have hD := hD0.self (sz := s.heap.size)
  generalize hAe : va_A w0 s.heap.size = A at hD hE ⊢
  have hA : ∀ q : Nat, s.heap.size ≤ q → A q := fun q h => by rw [← hAe]; exact Or.inr h
  have hw : Wd dC dI A s.heap s.heap [] w0 := ⟨hP, hD, va_S.rf⟩
  have hF : FE ksC ([] : List (Nat × Nat × Nat)) w0 w0 := FE.rf
  have hl := lv_entry ([.int a0, .int a1, .int a2]) (n := 3) (Nat.le_of_ble_eq_true rfl)
  rw [lg_entry_eq]
  generalize (lg_sl ([.int a0, .int a1, .int a2]) ++ List.replicate (3 - (lg_sl ([.int a0, .int a1, .int a2])).length) Slot.unset).toArray = ls at hl ⊢
  have hl : lv_has ls 3 [(0, .int a0), (1, .int a1), (2, .int a2)] := hl
  generalize hloc : ([] : List Loc) = locs at hw ⊢
  refine lv_iload_n hx hb dX0_spot_0 rfl (lv_at hl 0 rfl) ?_
  refine lv_bipush (v := 100) hx hb dX0_spot_1 (by decide) ?_
  refine lv_imul hx hb dX0_spot_3 ?_
  refine lv_topi (fun x1 ex1 => ?_)
  have ex1 : x1.toInt = a0.toInt * (100 : Int) := by rw [ex1]; exact wk_mul (show (-2147483648) ≤ a0.toInt * (100 : Int) by omega) (show a0.toInt * (100 : Int) ≤ 2147483647 by omega)
  refine lv_iload_n hx hb dX0_spot_4 rfl (lv_at hl 1 rfl) ?_
  refine lv_bipush (v := 10) hx hb dX0_spot_5 (by decide) ?_
  refine lv_imul hx hb dX0_spot_7 ?_
  refine lv_topi (fun x2 ex2 => ?_)
  have ex2 : x2.toInt = a1.toInt * (10 : Int) := by rw [ex2]; exact wk_mul (show (-2147483648) ≤ a1.toInt * (10 : Int) by omega) (show a1.toInt * (10 : Int) ≤ 2147483647 by omega)
  refine lv_iadd hx hb dX0_spot_8 ?_
  refine lv_topi (fun x3 ex3 => ?_)
  have ex3 : x3.toInt = x1.toInt + x2.toInt := by rw [ex3]; exact wk_add (show (-2147483648) ≤ x1.toInt + x2.toInt by omega) (show x1.toInt + x2.toInt ≤ 2147483647 by omega)
  refine lv_iload_n hx hb dX0_spot_9 rfl (lv_at hl 2 rfl) ?_
  refine lv_iadd hx hb dX0_spot_10 ?_
  refine lv_topi (fun x4 ex4 => ?_)
  have ex4 : x4.toInt = x3.toInt + a2.toInt := by rw [ex4]; exact wk_add (show (-2147483648) ≤ x3.toInt + a2.toInt by omega) (show x3.toInt + a2.toInt ≤ 2147483647 by omega)
  exact tk_iret hC hr hlocks hK ⟨hT, hF, ⟨(show 0 ≤ x4.toInt by omega), (show x4.toInt ≤ 1099 by omega)⟩⟩ hw dX0_spot_11
abbrev P_X0_signOf_2 (ad : Nat → Nat) (cy : Nat → ClassId) (B : Int) (qr : Nat) (s1 : Int) (a1 : Int32) (a2 : Int32) (w0 : va_W) : Int32 → va_W → Prop := fun r u => TW ksC ad cy B qr s1 u ∧ FE ksC ([] : List (Nat × Nat × Nat)) w0 u ∧ ((a1.toInt ≤ 3) ∨ (0 ≤ r.toInt ∧ r.toInt ≤ 3 ∧ 4 ≤ a1.toInt))
set_option maxHeartbeats 4000000 in
set_option maxRecDepth 100000 in
theorem k_X0_signOf_2 (l : Launch) (adK adV : Nat → Nat) (dC : Nat → ClassId) (dI : Nat → Nat → Nat) (cy : Nat → ClassId) (ad : Nat → Nat) (B : Int) (hB0 : 2147483648 ≤ B) (hB1 : B ≤ 1152921504606846976) (qr : Nat) (s1 : Int)  (a1 : Int32) (ra1 : 0 ≤ a1.toInt) (ta1 : a1.toInt ≤ 10) (a2 : Int32) (ra2 : 0 ≤ a2.toInt) (ta2 : a2.toInt ≤ 11) (w0 : va_W) (sz : Nat) (hT : TW ksC ad cy B qr s1 w0)  : Met l yX0_signOf wsX0_signOf ({ frames := 2, cells := 0, slots := 0, locals := 34 }) (va_Pc [.ref (ad 145), .int a1, .int a2] (wpreS adK adV dC dI cy sz w0)) (va_Qi (P_X0_signOf_2 ad cy B qr s1 a1 a2 w0) (fun u : va_W => wpost dC dI cy (va_A w0 sz) u) (va_A w0 sz)) 0 0 (va_A w0 sz) := by
  refine Met.ofW (cc := cX0_signOf) (maxL := 3) (ret := (some .int)) (by decide) rfl ?_
  intro p e s m args below meth c s₁ Bk hml hv
  obtain ⟨rfl, ⟨hsz, hP, hK, hD0⟩, hE, hSR⟩ := hv
  have hx := Bk.exec
  have hb := Bk.bytes
  have hr := Bk.returns
  have hlocks := Bk.notSynchronized
  have hC : CallFix p m c cX0_signOf 3 s _ wsX0_signOf RX0 := ⟨hx, hb, hml, findClass_of_methodNamed Bk.named, atoms_spec (ws := wsX0_signOf) Bk.pre⟩
  subst hsz
  have hD := hD0.self (sz := s.heap.size)
  generalize hAe : va_A w0 s.heap.size = A at hD hE ⊢
  have hA : ∀ q : Nat, s.heap.size ≤ q → A q := fun q h => by rw [← hAe]; exact Or.inr h
  have hw : Wd dC dI A s.heap s.heap [] w0 := ⟨hP, hD, va_S.rf⟩
  have hF : FE ksC ([] : List (Nat × Nat × Nat)) w0 w0 := FE.rf
  have hl := lv_entry ([.ref (ad 145), .int a1, .int a2]) (n := 3) (Nat.le_of_ble_eq_true rfl)
  rw [lg_entry_eq]
  generalize (lg_sl ([.ref (ad 145), .int a1, .int a2]) ++ List.replicate (3 - (lg_sl ([.ref (ad 145), .int a1, .int a2])).length) Slot.unset).toArray = ls at hl ⊢
  have hl : lv_has ls 3 [(0, .ref (ad 145)), (1, .int a1), (2, .int a2)] := hl
  generalize hloc : ([] : List Loc) = locs at hw ⊢
  have hinX0 : ∀ w ∈ u_ws RX0 TX0 4, w ∈ wsX0_signOf := fun _ h => List.mem_cons_of_mem _ (List.mem_append_left _ (List.mem_append_left _ (List.mem_append_right _ (h))))
  have hinX5 : ∀ w ∈ u_ws RX5 TX5 14, w ∈ wsX0_signOf := fun _ h => List.mem_cons_of_mem _ (List.mem_append_left _ (List.mem_append_right _ (h)))
  refine lv_iload_n hx hb dX0_signOf_0 rfl (lv_at hl 1 rfl) ?_
  refine lv_iconst (v := 4) hx hb dX0_signOf_1 (by decide) ?_
  refine lv_icmp_ge (tgt := 20) hx hb dX0_signOf_2 (by decide) (fun c1 => ?_) (fun c1 => ?_)
  · have c1 : (4 : Int) ≤ a1.toInt := wk_le.mp c1
    refine lv_aload_n hx hb dX0_signOf_20 rfl (lv_at hl 0 rfl) ?_
    refine tk_getA hC hK hw hT hinX0 kC_at145 (by decide) rfl 0 (by decide) (List.mem_of_getElem? (i := 1) rfl) rfl rfl dX0_signOf_21 ?_
    refine tk_getO hC hK hw hT hinX5 kC_at38 (by decide) rfl 0 (by decide) (List.mem_of_getElem? (i := 3) rfl) rfl rfl dX0_signOf_24 ?_
    refine lv_iload_n hx hb dX0_signOf_27 rfl (lv_at hl 2 rfl) ?_
    refine lv_iload_n hx hb dX0_signOf_28 rfl (lv_at hl 1 rfl) ?_
    refine lv_iconst (v := 4) hx hb dX0_signOf_29 (by decide) ?_
    refine lv_isub hx hb dX0_signOf_30 ?_
    refine lv_topi (fun x2 ex2 => ?_)
    have ex2 : x2.toInt = a1.toInt - (4 : Int) := by rw [ex2]; exact wk_sub (show (-2147483648) ≤ a1.toInt - (4 : Int) by omega) (show a1.toInt - (4 : Int) ≤ 2147483647 by omega)
    refine tk_Vi hC hK hw hT hA hE hSR kC_at39 (by decide) rfl (k_X7_signOn_1 l adK adV dC dI cy ad B (by omega) (by omega) qr s1   a2 (show 0 ≤ a2.toInt by omega) (show a2.toInt ≤ 11 by omega) x2 (show 0 ≤ x2.toInt by omega) (show x2.toInt ≤ 6 by omega) w0 s.heap.size hT ) (cwV 2 hC.2.2.2.2 gX0_signOf_X7_signOn rfl rfl rfl (by decide +kernel) ⟨Nat.le_of_ble_eq_true rfl, Nat.le_of_ble_eq_true rfl⟩) rfl hl.1 rfl (Nat.le_of_ble_eq_true rfl) dX0_signOf_31 (fun r3 w5 H locs hp4 hw => ?_)
    obtain ⟨hT, k6, hg9⟩ := hp4
    have hF := hF.tr k6 (by decide)
    obtain ⟨g7, g8⟩ := hg9
    exact tk_iret hC hr hlocks hK ⟨hT, hF, (Or.inr ⟨(show 0 ≤ r3.toInt by omega), (show r3.toInt ≤ 3 by omega), (show 4 ≤ a1.toInt by omega)⟩)⟩ hw dX0_signOf_34
  · have c1 : a1.toInt < (4 : Int) := wk_leF c1
    refine lv_aload_n hx hb dX0_signOf_5 rfl (lv_at hl 0 rfl) ?_
    refine tk_getA hC hK hw hT hinX0 kC_at145 (by decide) rfl 0 (by decide) (List.mem_of_getElem? (i := 1) rfl) rfl rfl dX0_signOf_6 ?_
    refine tk_getO hC hK hw hT hinX5 kC_at38 (by decide) rfl 1 (by decide) (List.mem_of_getElem? (i := 2) rfl) rfl rfl dX0_signOf_9 ?_
    refine lv_iload_n hx hb dX0_signOf_12 rfl (lv_at hl 1 rfl) ?_
    refine lv_bipush (v := 12) hx hb dX0_signOf_13 (by decide) ?_
    refine lv_imul hx hb dX0_signOf_15 ?_
    refine lv_topi (fun x10 ex10 => ?_)
    have ex10 : x10.toInt = a1.toInt * (12 : Int) := by rw [ex10]; exact wk_mul (show (-2147483648) ≤ a1.toInt * (12 : Int) by omega) (show a1.toInt * (12 : Int) ≤ 2147483647 by omega)
    refine lv_iload_n hx hb dX0_signOf_16 rfl (lv_at hl 2 rfl) ?_
    refine lv_iadd hx hb dX0_signOf_17 ?_
    refine lv_topi (fun x11 ex11 => ?_)
    have ex11 : x11.toInt = x10.toInt + a2.toInt := by rw [ex11]; exact wk_add (show (-2147483648) ≤ x10.toInt + a2.toInt by omega) (show x10.toInt + a2.toInt ≤ 2147483647 by omega)
    refine tk_iald hC hK hw hT kC_at48 rfl rfl (show 0 ≤ x11.toInt by omega) (show x11.toInt < 48 by omega) dX0_signOf_18 (fun x12 c13 rx12 tx12 => ?_)
    exact tk_iret hC hr hlocks hK ⟨hT, hF, (Or.inl (show a1.toInt ≤ 3 by omega))⟩ hw dX0_signOf_19
abbrev P_X0_drawStreets_2 (ad : Nat → Nat) (cy : Nat → ClassId) (B : Int) (qr : Nat) (s1 : Int) (a1 : Int32) (w0 : va_W) : va_W → Prop := fun u => TW ksC ad cy B qr s1 u ∧ FE ksC [(42, 0, 1100), (43, 0, 1100)] w0 u ∧ ((True))
set_option maxHeartbeats 4000000 in
set_option maxRecDepth 100000 in
theorem k_X0_drawStreets_2 (l : Launch) (adK adV : Nat → Nat) (dC : Nat → ClassId) (dI : Nat → Nat → Nat) (cy : Nat → ClassId) (ad : Nat → Nat) (B : Int) (hB0 : 2147483648 ≤ B) (hB1 : B ≤ 1152921504606846976) (qr : Nat) (s1 : Int)  (a1 : Int32) (ra1 : 0 ≤ a1.toInt) (ta1 : a1.toInt ≤ 10) (w0 : va_W) (sz : Nat) (hT : TW ksC ad cy B qr s1 w0)  : Met l yX0_drawStreets wsX0_drawStreets ({ frames := 3, cells := 0, slots := 0, locals := 56 }) (va_Pc [.ref (ad 145), .int a1] (wpreS adK adV dC dI cy sz w0)) (va_Qv (P_X0_drawStreets_2 ad cy B qr s1 a1 w0) (fun u : va_W => wpost dC dI cy (va_A w0 sz) u) (va_A w0 sz)) 0 0 (va_A w0 sz) := by
  refine Met.ofW (cc := cX0_drawStreets) (maxL := 7) (ret := none) (by decide) rfl ?_
  intro p e s m args below meth c s₁ Bk hml hv
  obtain ⟨rfl, ⟨hsz, hP, hK, hD0⟩, hE, hSR⟩ := hv
  have hx := Bk.exec
  have hb := Bk.bytes
  have hr := Bk.returns
  have hlocks := Bk.notSynchronized
  have hC : CallFix p m c cX0_drawStreets 7 s _ wsX0_drawStreets RX0 := ⟨hx, hb, hml, findClass_of_methodNamed Bk.named, atoms_spec (ws := wsX0_drawStreets) Bk.pre⟩
  subst hsz
  have hD := hD0.self (sz := s.heap.size)
  generalize hAe : va_A w0 s.heap.size = A at hD hE ⊢
  have hA : ∀ q : Nat, s.heap.size ≤ q → A q := fun q h => by rw [← hAe]; exact Or.inr h
  have hw : Wd dC dI A s.heap s.heap [] w0 := ⟨hP, hD, va_S.rf⟩
  have hF : FE ksC [(42, 0, 1100), (43, 0, 1100)] w0 w0 := FE.rf
  have hl := lv_entry ([.ref (ad 145), .int a1]) (n := 7) (Nat.le_of_ble_eq_true rfl)
  rw [lg_entry_eq]
  generalize (lg_sl ([.ref (ad 145), .int a1]) ++ List.replicate (7 - (lg_sl ([.ref (ad 145), .int a1])).length) Slot.unset).toArray = ls at hl ⊢
  have hl : lv_has ls 7 [(0, .ref (ad 145)), (1, .int a1)] := hl
  generalize hloc : ([] : List Loc) = locs at hw ⊢
  have hinX7 : ∀ w ∈ u_ws RX7 TX7 12, w ∈ wsX0_drawStreets := fun _ h => List.mem_cons_of_mem _ (List.mem_append_right _ (h))
  have hinX0 : ∀ w ∈ u_ws RX0 TX0 4, w ∈ wsX0_drawStreets := fun _ h => List.mem_cons_of_mem _ (List.mem_append_left _ (List.mem_append_left _ (List.mem_append_right _ (h))))
  have hinX5 : ∀ w ∈ u_ws RX5 TX5 14, w ∈ wsX0_drawStreets := fun _ h => List.mem_cons_of_mem _ (List.mem_append_left _ (List.mem_append_right _ (h)))
  have L72 : ∀ (n72 : Nat) (v72_3 : Int32) (H : Heap) (locs : List Loc) (ls : Array Slot) (w1 : va_W), 0 ≤ a1.toInt → a1.toInt ≤ 10 → 0 ≤ v72_3.toInt → v72_3.toInt ≤ 12 → (12 - v72_3.toInt).toNat < n72 → Wd dC dI A s.heap H locs w1 → TW ksC ad cy B qr s1 w1 → FE ksC [(42, 0, 1100), (43, 0, 1100)] w0 w1 → lv_has ls 7 [(0, .ref (ad 145)), (1, .int a1), (2, .ref (ad 39)), (3, .int v72_3)] → W p l e ({ frames := 3, cells := 0, slots := 0, locals := 56 }) s m (List.toArray [.ref (ad 145), .int a1]) below meth c H locs 0 0 (MQ below (va_Qv (P_X0_drawStreets_2 ad cy B qr s1 a1 w0) (fun u : va_W => wpost dC dI cy A u) A) (List.toArray [.ref (ad 145), .int a1]) s 0 0 A) (F0 m 72 ls []) := by
    intro n72
    induction n72 with
    | zero => intro v72_3 H locs ls w1 r2 t3 r4 t5 hm72 hw hT hF hl; omega
    | succ n72 ih72 =>
      intro v72_3 H locs ls w1 r2 t3 r4 t5 hm72 hw hT hF hl
      have L91 : ∀ (n91 : Nat) (v91_4 : Int32) (v91_5 : Int32) (f91_39_9 : Int32) (H : Heap) (locs : List Loc) (ls : Array Slot) (w6 : va_W), 0 ≤ a1.toInt → a1.toInt ≤ 10 → 0 ≤ v72_3.toInt → v72_3.toInt ≤ 11 → 0 ≤ v91_5.toInt → v91_5.toInt ≤ 2 → 1 ≤ f91_39_9.toInt → f91_39_9.toInt ≤ 12 → (2 - v91_5.toInt).toNat < n91 → Wd dC dI A s.heap H locs w6 → TW ksC ad cy B qr s1 w6 → FE ksC [(42, 0, 1100), (43, 0, 1100)] w0 w6 → gi w6 39 9 = f91_39_9 → lv_has ls 7 [(0, .ref (ad 145)), (1, .int a1), (2, .ref (ad 39)), (3, .int v72_3), (4, .int v91_4), (5, .int v91_5)] → W p l e ({ frames := 3, cells := 0, slots := 0, locals := 56 }) s m (List.toArray [.ref (ad 145), .int a1]) below meth c H locs 0 0 (MQ below (va_Qv (P_X0_drawStreets_2 ad cy B qr s1 a1 w0) (fun u : va_W => wpost dC dI cy A u) A) (List.toArray [.ref (ad 145), .int a1]) s 0 0 A) (F0 m 91 ls []) := by
        intro n91
        induction n91 with
        | zero => intro v91_4 v91_5 f91_39_9 H locs ls w6 r7 t8 r9 t10 r11 t12 r13 t14 hm91 hw hT hF c15 hl; omega
        | succ n91 ih91 =>
          intro v91_4 v91_5 f91_39_9 H locs ls w6 r7 t8 r9 t10 r11 t12 r13 t14 hm91 hw hT hF c15 hl
          have J158 : ∀ (v158_6 : Int32) (H : Heap) (locs : List Loc) (ls : Array Slot) (w16 : va_W), 0 ≤ a1.toInt → a1.toInt ≤ 10 → 0 ≤ v72_3.toInt → v72_3.toInt ≤ 11 → 0 ≤ v91_5.toInt → v91_5.toInt ≤ 1 → 0 ≤ v158_6.toInt → v158_6.toInt ≤ 1099 → 1 ≤ f91_39_9.toInt → f91_39_9.toInt ≤ 12 → Wd dC dI A s.heap H locs w16 → TW ksC ad cy B qr s1 w16 → FE ksC [(42, 0, 1100), (43, 0, 1100)] w0 w16 → gi w16 39 9 = f91_39_9 → lv_has ls 7 [(0, .ref (ad 145)), (1, .int a1), (2, .ref (ad 39)), (3, .int v72_3), (4, .int v91_4), (5, .int v91_5), (6, .int v158_6)] → W p l e ({ frames := 3, cells := 0, slots := 0, locals := 56 }) s m (List.toArray [.ref (ad 145), .int a1]) below meth c H locs 0 0 (MQ below (va_Qv (P_X0_drawStreets_2 ad cy B qr s1 a1 w0) (fun u : va_W => wpost dC dI cy A u) A) (List.toArray [.ref (ad 145), .int a1]) s 0 0 A) (F0 m 158 ls []) := by
            intro v158_6 H locs ls w16 r17 t18 r19 t20 r21 t22 r23 t24 r25 t26 hw hT hF c27 hl
            obtain ⟨x28, ex28⟩ : ∃ y : Int32, y = v91_5 + Int32.ofInt 1 := ⟨_, rfl⟩
            refine lv_iinc (v := x28) (lv' := [(5, .int x28), (0, .ref (ad 145)), (1, .int a1), (2, .ref (ad 39)), (3, .int v72_3), (4, .int v91_4), (6, .int v158_6)]) hx hb dX0_drawStreets_158 hl (k := 5) rfl ex28.symm (by decide) rfl (fun ls hl => ?_)
            have ex28 : x28.toInt = v91_5.toInt + 1 := by rw [ex28]; exact wk_add (y := 1) (show -2147483648 ≤ v91_5.toInt + 1 by omega) (show v91_5.toInt + 1 ≤ 2147483647 by omega)
            refine lv_goto (tgt := 91) hx hb dX0_drawStreets_161 (by decide) ?_
            exact ih91 v91_4 x28 f91_39_9 H locs ls w16 (show 0 ≤ a1.toInt by omega) (show a1.toInt ≤ 10 by omega) (show 0 ≤ v72_3.toInt by omega) (show v72_3.toInt ≤ 11 by omega) (show 0 ≤ x28.toInt by omega) (show x28.toInt ≤ 2 by omega) (show 1 ≤ f91_39_9.toInt by omega) (show f91_39_9.toInt ≤ 12 by omega) (show (2 - x28.toInt).toNat < n91 by omega) hw hT hF c27 (lv_sub hl [1, 2, 3, 4, 5, 0] rfl)
          refine lv_iload hx hb dX0_drawStreets_91 (lv_at hl 5 rfl) ?_
          refine lv_iconst (v := 2) hx hb dX0_drawStreets_93 (by decide) ?_
          refine lv_icmp_ge (tgt := 164) hx hb dX0_drawStreets_94 (by decide) (fun c29 => ?_) (fun c29 => ?_)
          · have c29 : (2 : Int) ≤ v91_5.toInt := wk_le.mp c29
            obtain ⟨x30, ex30⟩ : ∃ y : Int32, y = v72_3 + Int32.ofInt 1 := ⟨_, rfl⟩
            refine lv_iinc (v := x30) (lv' := [(3, .int x30), (0, .ref (ad 145)), (1, .int a1), (2, .ref (ad 39)), (4, .int v91_4), (5, .int v91_5)]) hx hb dX0_drawStreets_164 hl (k := 3) rfl ex30.symm (by decide) rfl (fun ls hl => ?_)
            have ex30 : x30.toInt = v72_3.toInt + 1 := by rw [ex30]; exact wk_add (y := 1) (show -2147483648 ≤ v72_3.toInt + 1 by omega) (show v72_3.toInt + 1 ≤ 2147483647 by omega)
            refine lv_goto (tgt := 72) hx hb dX0_drawStreets_167 (by decide) ?_
            exact ih72 x30 H locs ls w6 (show 0 ≤ a1.toInt by omega) (show a1.toInt ≤ 10 by omega) (show 0 ≤ x30.toInt by omega) (show x30.toInt ≤ 12 by omega) (show (12 - x30.toInt).toNat < n72 by omega) hw hT hF  (lv_sub hl [1, 2, 3, 0] rfl)
          · have c29 : v91_5.toInt < (2 : Int) := wk_leF c29
            refine lv_iload_n hx hb dX0_drawStreets_97 rfl (lv_at hl 1 rfl) ?_
            refine lv_aload_n hx hb dX0_drawStreets_98 rfl (lv_at hl 2 rfl) ?_
            refine lv_iload_n hx hb dX0_drawStreets_99 rfl (lv_at hl 3 rfl) ?_
            refine lv_iconst (v := 1) hx hb dX0_drawStreets_100 (by decide) ?_
            refine lv_iload hx hb dX0_drawStreets_101 (lv_at hl 5 rfl) ?_
            refine lv_isub hx hb dX0_drawStreets_103 ?_
            refine lv_topi (fun x31 ex31 => ?_)
            have ex31 : x31.toInt = (1 : Int) - v91_5.toInt := by rw [ex31]; exact wk_sub (show (-2147483648) ≤ (1 : Int) - v91_5.toInt by omega) (show (1 : Int) - v91_5.toInt ≤ 2147483647 by omega)
            refine tk_Vi hC hK hw hT hA hE hSR kC_at39 (by decide) rfl (k_X7_cornerAcross_1 l adK adV dC dI cy ad B (by omega) (by omega) qr s1   v72_3 (show 0 ≤ v72_3.toInt by omega) (show v72_3.toInt ≤ 11 by omega) x31 (show 0 ≤ x31.toInt by omega) (show x31.toInt ≤ 1 by omega) w6 H.size hT ) (cwV 2 hC.2.2.2.2 gX0_drawStreets_X7_cornerAcross rfl rfl rfl (by decide +kernel) ⟨Nat.le_of_ble_eq_true rfl, Nat.le_of_ble_eq_true rfl⟩) rfl hl.1 rfl (Nat.le_of_ble_eq_true rfl) dX0_drawStreets_104 (fun r32 w34 H locs hp33 hw => ?_)
            obtain ⟨hT, k35, hg38⟩ := hp33
            have hF := hF.tr k35 (by decide)
            have c39 := k35.gi kC_at39 (by decide) c15
            obtain ⟨g36, g37⟩ := hg38
            refine lv_aload_n hx hb dX0_drawStreets_107 rfl (lv_at hl 2 rfl) ?_
            refine lv_iload_n hx hb dX0_drawStreets_108 rfl (lv_at hl 3 rfl) ?_
            refine lv_iload hx hb dX0_drawStreets_109 (lv_at hl 5 rfl) ?_
            refine tk_Vi hC hK hw hT hA hE hSR kC_at39 (by decide) rfl (k_X7_cornerAcross_1 l adK adV dC dI cy ad B (by omega) (by omega) qr s1   v72_3 (show 0 ≤ v72_3.toInt by omega) (show v72_3.toInt ≤ 11 by omega) v91_5 (show 0 ≤ v91_5.toInt by omega) (show v91_5.toInt ≤ 1 by omega) w34 H.size hT ) (cwV 2 hC.2.2.2.2 gX0_drawStreets_X7_cornerAcross rfl rfl rfl (by decide +kernel) ⟨Nat.le_of_ble_eq_true rfl, Nat.le_of_ble_eq_true rfl⟩) rfl hl.1 rfl (Nat.le_of_ble_eq_true rfl) dX0_drawStreets_111 (fun r40 w42 H locs hp41 hw => ?_)
            obtain ⟨hT, k43, hg46⟩ := hp41
            have hF := hF.tr k43 (by decide)
            have c47 := k43.gi kC_at39 (by decide) c39
            obtain ⟨g44, g45⟩ := hg46
            refine tk_Si hC hK hw hT hA hE hSR (k_X0_spot_2 l adK adV dC dI cy ad B (by omega) (by omega) qr s1   a1 (show 0 ≤ a1.toInt by omega) (show a1.toInt ≤ 10 by omega) r32 (show 0 ≤ r32.toInt by omega) (show r32.toInt ≤ 9 by omega) r40 (show 0 ≤ r40.toInt by omega) (show r40.toInt ≤ 9 by omega) w42 H.size hT ) (va_cwS 3 hC.2.2.2.2 gX0_drawStreets_X0_spot rfl rfl rfl (by decide +kernel) ⟨Nat.le_of_ble_eq_true rfl, Nat.le_of_ble_eq_true rfl⟩) rfl hl.1 rfl (Nat.le_of_ble_eq_true rfl) dX0_drawStreets_114 (fun r48 w50 H locs hp49 hw => ?_)
            obtain ⟨hT, k51, hg54⟩ := hp49
            have hF := hF.tr k51 (by decide)
            have c55 := k51.gi kC_at39 (by decide) c47
            obtain ⟨g52, g53⟩ := hg54
            refine lv_istore (lv' := [(6, .int r48), (0, .ref (ad 145)), (1, .int a1), (2, .ref (ad 39)), (3, .int v72_3), (4, .int v91_4), (5, .int v91_5)]) hx hb dX0_drawStreets_117 hl (by decide) rfl (fun ls hl => ?_)
            refine lv_iload hx hb dX0_drawStreets_119 (lv_at hl 5 rfl) ?_
            refine lv_iload hx hb dX0_drawStreets_121 (lv_at hl 6 rfl) ?_
            refine lv_ishr hx hb dX0_drawStreets_123 ?_
            refine lv_topi (fun x56 ex56 => ?_)
            refine lv_iconst (v := 1) hx hb dX0_drawStreets_124 (by decide) ?_
            refine lv_iand hx hb dX0_drawStreets_125 ?_
            refine lv_topi (fun x57 ex57 => ?_)
            have bx57 : 0 ≤ x57.toInt ∧ x57.toInt ≤ (1 : Int) := by rw [ex57]; exact wk_and (by decide)
            refine lv_if_eq (tgt := 158) hx hb dX0_drawStreets_126 (by decide) (fun c58 => ?_) (fun c58 => ?_)
            · have c58 : x57.toInt = (0 : Int) := wk_eq.mp c58
              exact J158 r48 H locs ls w50 (show 0 ≤ a1.toInt by omega) (show a1.toInt ≤ 10 by omega) (show 0 ≤ v72_3.toInt by omega) (show v72_3.toInt ≤ 11 by omega) (show 0 ≤ v91_5.toInt by omega) (show v91_5.toInt ≤ 1 by omega) (show 0 ≤ r48.toInt by omega) (show r48.toInt ≤ 1099 by omega) (show 1 ≤ f91_39_9.toInt by omega) (show f91_39_9.toInt ≤ 12 by omega)  hw hT hF c55 (lv_sub hl [1, 2, 3, 4, 5, 6, 0] rfl)
            · have c58 : ¬ x57.toInt = (0 : Int) := wk_eqF c58
              refine lv_aload_n hx hb dX0_drawStreets_129 rfl (lv_at hl 3 rfl) ?_
              refine tk_getO hC hK hw hT hinX7 kC_at39 (by decide) rfl 1 (by decide) (List.mem_of_getElem? (i := 7) rfl) rfl rfl dX0_drawStreets_130 ?_
              refine lv_iload_n hx hb dX0_drawStreets_133 rfl (lv_at hl 4 rfl) ?_
              refine tk_iald hC hK hw hT kC_at41 rfl rfl (show 0 ≤ v72_3.toInt by omega) (show v72_3.toInt < 13 by omega) dX0_drawStreets_134 (fun x59 c60 rx59 tx59 => ?_)
              refine lv_aload_n hx hb dX0_drawStreets_135 rfl (lv_at hl 1 rfl) ?_
              refine tk_getA hC hK hw hT hinX0 kC_at145 (by decide) rfl 1 (by decide) (List.mem_of_getElem? (i := 1) rfl) rfl rfl dX0_drawStreets_136 ?_
              refine lv_iload hx hb dX0_drawStreets_139 (lv_at hl 0 rfl) ?_
              refine tk_iald hC hK hw hT kC_at146 rfl rfl (show 0 ≤ r48.toInt by omega) (show r48.toInt < 1100 by omega) dX0_drawStreets_141 (fun x61 c62 rx61 tx61 => ?_)
              refine lv_icmp_ge (tgt := 158) hx hb dX0_drawStreets_142 (by decide) (fun c63 => ?_) (fun c63 => ?_)
              · have c63 : x61.toInt ≤ x59.toInt := wk_le.mp c63
                exact J158 r48 H locs ls w50 (show 0 ≤ a1.toInt by omega) (show a1.toInt ≤ 10 by omega) (show 0 ≤ v72_3.toInt by omega) (show v72_3.toInt ≤ 11 by omega) (show 0 ≤ v91_5.toInt by omega) (show v91_5.toInt ≤ 1 by omega) (show 0 ≤ r48.toInt by omega) (show r48.toInt ≤ 1099 by omega) (show 1 ≤ f91_39_9.toInt by omega) (show f91_39_9.toInt ≤ 12 by omega)  hw hT hF c55 (lv_sub hl [1, 2, 3, 4, 5, 6, 0] rfl)
              · have c63 : x59.toInt < x61.toInt := wk_leF c63
                refine lv_aload_n hx hb dX0_drawStreets_145 rfl (lv_at hl 1 rfl) ?_
                refine tk_getA hC hK hw hT hinX0 kC_at145 (by decide) rfl 1 (by decide) (List.mem_of_getElem? (i := 1) rfl) rfl rfl dX0_drawStreets_146 ?_
                refine lv_iload hx hb dX0_drawStreets_149 (lv_at hl 0 rfl) ?_
                refine lv_aload_n hx hb dX0_drawStreets_151 rfl (lv_at hl 3 rfl) ?_
                refine tk_getO hC hK hw hT hinX7 kC_at39 (by decide) rfl 1 (by decide) (List.mem_of_getElem? (i := 7) rfl) rfl rfl dX0_drawStreets_152 ?_
                refine lv_iload_n hx hb dX0_drawStreets_155 rfl (lv_at hl 4 rfl) ?_
                refine tk_iald hC hK hw hT kC_at41 rfl rfl (show 0 ≤ v72_3.toInt by omega) (show v72_3.toInt < 13 by omega) dX0_drawStreets_156 (fun x64 c65 rx64 tx64 => ?_)
                refine tk_iast hC hK hw hT kC_at146 (by decide) rfl rfl (show 0 ≤ r48.toInt by omega) (show r48.toInt < 1100 by omega) (show 0 ≤ x64.toInt by omega) (show x64.toInt ≤ 1000000 by omega) dX0_drawStreets_157 (fun H locs w66 hw hT k68 c67 => ?_)
                have hF := hF.put kC_at146 (inE_of (a := 0) (b := 1100) (by decide) (show 0 ≤ r48.toInt.toNat by omega) (show r48.toInt.toNat ≤ 1100 by omega)) k68
                have c69 := k68.gi (Or.inl (tk_ne kC_at39 kC_at146 (by decide))) c55
                exact J158 r48 H locs ls w66 (show 0 ≤ a1.toInt by omega) (show a1.toInt ≤ 10 by omega) (show 0 ≤ v72_3.toInt by omega) (show v72_3.toInt ≤ 11 by omega) (show 0 ≤ v91_5.toInt by omega) (show v91_5.toInt ≤ 1 by omega) (show 0 ≤ r48.toInt by omega) (show r48.toInt ≤ 1099 by omega) (show 1 ≤ f91_39_9.toInt by omega) (show f91_39_9.toInt ≤ 12 by omega)  hw hT hF c69 (lv_sub hl [1, 2, 3, 4, 5, 6, 0] rfl)
      refine lv_iload_n hx hb dX0_drawStreets_72 rfl (lv_at hl 3 rfl) ?_
      refine lv_aload_n hx hb dX0_drawStreets_73 rfl (lv_at hl 2 rfl) ?_
      refine tk_geti hC hK hw hT hinX7 kC_at39 (by decide) rfl 9 (by decide) (List.mem_of_getElem? (i := 6) rfl) rfl rfl dX0_drawStreets_74 (fun x70 c71 rx70 tx70 => ?_)
      refine lv_icmp_ge (tgt := 170) hx hb dX0_drawStreets_77 (by decide) (fun c72 => ?_) (fun c72 => ?_)
      · have c72 : x70.toInt ≤ v72_3.toInt := wk_le.mp c72
        exact tk_vret hC hr hlocks hK ⟨hT, hF, trivial⟩ hw dX0_drawStreets_170
      · have c72 : v72_3.toInt < x70.toInt := wk_leF c72
        refine lv_aload_n hx hb dX0_drawStreets_80 rfl (lv_at hl 0 rfl) ?_
        refine lv_iload_n hx hb dX0_drawStreets_81 rfl (lv_at hl 1 rfl) ?_
        refine lv_iload_n hx hb dX0_drawStreets_82 rfl (lv_at hl 3 rfl) ?_
        refine tk_Vi hC hK hw hT hA hE hSR kC_at145 (by decide) rfl (k_X0_signOf_2 l adK adV dC dI cy ad B (by omega) (by omega) qr s1   a1 (show 0 ≤ a1.toInt by omega) (show a1.toInt ≤ 10 by omega) v72_3 (show 0 ≤ v72_3.toInt by omega) (show v72_3.toInt ≤ 11 by omega) w1 H.size hT ) (cwV 2 hC.2.2.2.2 gX0_drawStreets_X0_signOf rfl rfl rfl (by decide +kernel) ⟨Nat.le_of_ble_eq_true rfl, Nat.le_of_ble_eq_true rfl⟩) rfl hl.1 rfl (Nat.le_of_ble_eq_true rfl) dX0_drawStreets_83 (fun r73 w75 H locs hp74 hw => ?_)
        obtain ⟨hT, k76, hg81⟩ := hp74
        have hF := hF.tr k76 (by decide)
        have c82 := k76.gi kC_at39 (by decide) c71
        rcases hg81 with g77 | ⟨g78, g79, g80⟩
        · refine lv_istore (lv' := [(4, .int r73), (0, .ref (ad 145)), (1, .int a1), (2, .ref (ad 39)), (3, .int v72_3)]) hx hb dX0_drawStreets_86 hl (by decide) rfl (fun ls hl => ?_)
          refine lv_iconst (v := 0) hx hb dX0_drawStreets_88 (by decide) ?_
          refine lv_istore (lv' := [(5, .int 0), (4, .int r73), (0, .ref (ad 145)), (1, .int a1), (2, .ref (ad 39)), (3, .int v72_3)]) hx hb dX0_drawStreets_89 hl (by decide) rfl (fun ls hl => ?_)
          exact L91 ((2 - (0 : Int)).toNat + 1) r73 0 x70 H locs ls w75 (show 0 ≤ a1.toInt by omega) (show a1.toInt ≤ 10 by omega) (show 0 ≤ v72_3.toInt by omega) (show v72_3.toInt ≤ 11 by omega) (by decide) (by decide) (show 1 ≤ x70.toInt by omega) (show x70.toInt ≤ 12 by omega) (Nat.lt_succ_self _) hw hT hF c82 (lv_sub hl [2, 3, 4, 5, 1, 0] rfl)
        · refine lv_istore (lv' := [(4, .int r73), (0, .ref (ad 145)), (1, .int a1), (2, .ref (ad 39)), (3, .int v72_3)]) hx hb dX0_drawStreets_86 hl (by decide) rfl (fun ls hl => ?_)
          refine lv_iconst (v := 0) hx hb dX0_drawStreets_88 (by decide) ?_
          refine lv_istore (lv' := [(5, .int 0), (4, .int r73), (0, .ref (ad 145)), (1, .int a1), (2, .ref (ad 39)), (3, .int v72_3)]) hx hb dX0_drawStreets_89 hl (by decide) rfl (fun ls hl => ?_)
          exact L91 ((2 - (0 : Int)).toNat + 1) r73 0 x70 H locs ls w75 (show 0 ≤ a1.toInt by omega) (show a1.toInt ≤ 10 by omega) (show 0 ≤ v72_3.toInt by omega) (show v72_3.toInt ≤ 11 by omega) (by decide) (by decide) (show 1 ≤ x70.toInt by omega) (show x70.toInt ≤ 12 by omega) (Nat.lt_succ_self _) hw hT hF c82 (lv_sub hl [2, 3, 4, 5, 1, 0] rfl)
  have L2 : ∀ (n2 : Nat) (v2_2 : Int32) (H : Heap) (locs : List Loc) (ls : Array Slot) (w83 : va_W), 0 ≤ a1.toInt → a1.toInt ≤ 10 → 0 ≤ v2_2.toInt → v2_2.toInt ≤ 10 → (10 - v2_2.toInt).toNat < n2 → Wd dC dI A s.heap H locs w83 → TW ksC ad cy B qr s1 w83 → FE ksC [(42, 0, 1100), (43, 0, 1100)] w0 w83 → lv_has ls 7 [(0, .ref (ad 145)), (1, .int a1), (2, .int v2_2)] → W p l e ({ frames := 3, cells := 0, slots := 0, locals := 56 }) s m (List.toArray [.ref (ad 145), .int a1]) below meth c H locs 0 0 (MQ below (va_Qv (P_X0_drawStreets_2 ad cy B qr s1 a1 w0) (fun u : va_W => wpost dC dI cy A u) A) (List.toArray [.ref (ad 145), .int a1]) s 0 0 A) (F0 m 2 ls []) := by
    intro n2
    induction n2 with
    | zero => intro v2_2 H locs ls w83 r84 t85 r86 t87 hm2 hw hT hF hl; omega
    | succ n2 ih2 =>
      intro v2_2 H locs ls w83 r84 t85 r86 t87 hm2 hw hT hF hl
      have L10 : ∀ (n10 : Nat) (v10_3 : Int32) (H : Heap) (locs : List Loc) (ls : Array Slot) (w88 : va_W), 0 ≤ a1.toInt → a1.toInt ≤ 10 → 0 ≤ v2_2.toInt → v2_2.toInt ≤ 9 → 0 ≤ v10_3.toInt → v10_3.toInt ≤ 10 → (10 - v10_3.toInt).toNat < n10 → Wd dC dI A s.heap H locs w88 → TW ksC ad cy B qr s1 w88 → FE ksC [(42, 0, 1100), (43, 0, 1100)] w0 w88 → lv_has ls 7 [(0, .ref (ad 145)), (1, .int a1), (2, .int v2_2), (3, .int v10_3)] → W p l e ({ frames := 3, cells := 0, slots := 0, locals := 56 }) s m (List.toArray [.ref (ad 145), .int a1]) below meth c H locs 0 0 (MQ below (va_Qv (P_X0_drawStreets_2 ad cy B qr s1 a1 w0) (fun u : va_W => wpost dC dI cy A u) A) (List.toArray [.ref (ad 145), .int a1]) s 0 0 A) (F0 m 10 ls []) := by
        intro n10
        induction n10 with
        | zero => intro v10_3 H locs ls w88 r89 t90 r91 t92 r93 t94 hm10 hw hT hF hl; omega
        | succ n10 ih10 =>
          intro v10_3 H locs ls w88 r89 t90 r91 t92 r93 t94 hm10 hw hT hF hl
          refine lv_iload_n hx hb dX0_drawStreets_10 rfl (lv_at hl 3 rfl) ?_
          refine lv_bipush (v := 10) hx hb dX0_drawStreets_11 (by decide) ?_
          refine lv_icmp_ge (tgt := 56) hx hb dX0_drawStreets_13 (by decide) (fun c95 => ?_) (fun c95 => ?_)
          · have c95 : (10 : Int) ≤ v10_3.toInt := wk_le.mp c95
            obtain ⟨x96, ex96⟩ : ∃ y : Int32, y = v2_2 + Int32.ofInt 1 := ⟨_, rfl⟩
            refine lv_iinc (v := x96) (lv' := [(2, .int x96), (0, .ref (ad 145)), (1, .int a1), (3, .int v10_3)]) hx hb dX0_drawStreets_56 hl (k := 2) rfl ex96.symm (by decide) rfl (fun ls hl => ?_)
            have ex96 : x96.toInt = v2_2.toInt + 1 := by rw [ex96]; exact wk_add (y := 1) (show -2147483648 ≤ v2_2.toInt + 1 by omega) (show v2_2.toInt + 1 ≤ 2147483647 by omega)
            refine lv_goto (tgt := 2) hx hb dX0_drawStreets_59 (by decide) ?_
            exact ih2 x96 H locs ls w88 (show 0 ≤ a1.toInt by omega) (show a1.toInt ≤ 10 by omega) (show 0 ≤ x96.toInt by omega) (show x96.toInt ≤ 10 by omega) (show (10 - x96.toInt).toNat < n2 by omega) hw hT hF  (lv_sub hl [1, 2, 0] rfl)
          · have c95 : v10_3.toInt < (10 : Int) := wk_leF c95
            refine lv_aload_n hx hb dX0_drawStreets_16 rfl (lv_at hl 0 rfl) ?_
            refine tk_getA hC hK hw hT hinX0 kC_at145 (by decide) rfl 1 (by decide) (List.mem_of_getElem? (i := 1) rfl) rfl rfl dX0_drawStreets_17 ?_
            refine lv_iload_n hx hb dX0_drawStreets_20 rfl (lv_at hl 1 rfl) ?_
            refine lv_iload_n hx hb dX0_drawStreets_21 rfl (lv_at hl 2 rfl) ?_
            refine lv_iload_n hx hb dX0_drawStreets_22 rfl (lv_at hl 3 rfl) ?_
            refine tk_Si hC hK hw hT hA hE hSR (k_X0_spot_2 l adK adV dC dI cy ad B (by omega) (by omega) qr s1   a1 (show 0 ≤ a1.toInt by omega) (show a1.toInt ≤ 10 by omega) v2_2 (show 0 ≤ v2_2.toInt by omega) (show v2_2.toInt ≤ 9 by omega) v10_3 (show 0 ≤ v10_3.toInt by omega) (show v10_3.toInt ≤ 9 by omega) w88 H.size hT ) (va_cwS 3 hC.2.2.2.2 gX0_drawStreets_X0_spot rfl rfl rfl (by decide +kernel) ⟨Nat.le_of_ble_eq_true rfl, Nat.le_of_ble_eq_true rfl⟩) rfl hl.1 rfl (Nat.le_of_ble_eq_true rfl) dX0_drawStreets_23 (fun r97 w99 H locs hp98 hw => ?_)
            obtain ⟨hT, k100, hg103⟩ := hp98
            have hF := hF.tr k100 (by decide)
            obtain ⟨g101, g102⟩ := hg103
            refine lv_iload_n hx hb dX0_drawStreets_26 rfl (lv_at hl 2 rfl) ?_
            refine lv_iload_n hx hb dX0_drawStreets_27 rfl (lv_at hl 3 rfl) ?_
            refine lv_icmp_ne (tgt := 35) hx hb dX0_drawStreets_28 (by decide) (fun c104 => ?_) (fun c104 => ?_)
            · have c104 : ¬ v2_2.toInt = v10_3.toInt := wk_eqF c104
              refine lv_ldc (v := 1000000) hx hb hC.2.2.2.1 (hC.2.2.2.2 _ (List.mem_of_getElem? (i := 2) rfl)) dX0_drawStreets_35 ?_
              refine tk_iast hC hK hw hT kC_at146 (by decide) rfl rfl (show 0 ≤ r97.toInt by omega) (show r97.toInt < 1100 by omega) (by decide) (by decide) dX0_drawStreets_37 (fun H locs w105 hw hT k107 c106 => ?_)
              have hF := hF.put kC_at146 (inE_of (a := 0) (b := 1100) (by decide) (show 0 ≤ r97.toInt.toNat by omega) (show r97.toInt.toNat ≤ 1100 by omega)) k107
              refine lv_aload_n hx hb dX0_drawStreets_38 rfl (lv_at hl 0 rfl) ?_
              refine tk_getA hC hK hw hT hinX0 kC_at145 (by decide) rfl 2 (by decide) (List.mem_of_getElem? (i := 3) rfl) rfl rfl dX0_drawStreets_39 ?_
              refine lv_iload_n hx hb dX0_drawStreets_42 rfl (lv_at hl 1 rfl) ?_
              refine lv_iload_n hx hb dX0_drawStreets_43 rfl (lv_at hl 2 rfl) ?_
              refine lv_iload_n hx hb dX0_drawStreets_44 rfl (lv_at hl 3 rfl) ?_
              refine tk_Si hC hK hw hT hA hE hSR (k_X0_spot_2 l adK adV dC dI cy ad B (by omega) (by omega) qr s1   a1 (show 0 ≤ a1.toInt by omega) (show a1.toInt ≤ 10 by omega) v2_2 (show 0 ≤ v2_2.toInt by omega) (show v2_2.toInt ≤ 9 by omega) v10_3 (show 0 ≤ v10_3.toInt by omega) (show v10_3.toInt ≤ 9 by omega) w105 H.size hT ) (va_cwS 3 hC.2.2.2.2 gX0_drawStreets_X0_spot rfl rfl rfl (by decide +kernel) ⟨Nat.le_of_ble_eq_true rfl, Nat.le_of_ble_eq_true rfl⟩) rfl hl.1 rfl (Nat.le_of_ble_eq_true rfl) dX0_drawStreets_45 (fun r108 w110 H locs hp109 hw => ?_)
              obtain ⟨hT, k111, hg114⟩ := hp109
              have hF := hF.tr k111 (by decide)
              obtain ⟨g112, g113⟩ := hg114
              refine lv_iconst (v := (-1)) hx hb dX0_drawStreets_48 (by decide) ?_
              refine tk_iast hC hK hw hT kC_at147 (by decide) rfl rfl (show 0 ≤ r108.toInt by omega) (show r108.toInt < 1100 by omega) (by decide) (by decide) dX0_drawStreets_49 (fun H locs w115 hw hT k117 c116 => ?_)
              have hF := hF.put kC_at147 (inE_of (a := 0) (b := 1100) (by decide) (show 0 ≤ r108.toInt.toNat by omega) (show r108.toInt.toNat ≤ 1100 by omega)) k117
              obtain ⟨x118, ex118⟩ : ∃ y : Int32, y = v10_3 + Int32.ofInt 1 := ⟨_, rfl⟩
              refine lv_iinc (v := x118) (lv' := [(3, .int x118), (0, .ref (ad 145)), (1, .int a1), (2, .int v2_2)]) hx hb dX0_drawStreets_50 hl (k := 3) rfl ex118.symm (by decide) rfl (fun ls hl => ?_)
              have ex118 : x118.toInt = v10_3.toInt + 1 := by rw [ex118]; exact wk_add (y := 1) (show -2147483648 ≤ v10_3.toInt + 1 by omega) (show v10_3.toInt + 1 ≤ 2147483647 by omega)
              refine lv_goto (tgt := 10) hx hb dX0_drawStreets_53 (by decide) ?_
              exact ih10 x118 H locs ls w115 (show 0 ≤ a1.toInt by omega) (show a1.toInt ≤ 10 by omega) (show 0 ≤ v2_2.toInt by omega) (show v2_2.toInt ≤ 9 by omega) (show 0 ≤ x118.toInt by omega) (show x118.toInt ≤ 10 by omega) (show (10 - x118.toInt).toNat < n10 by omega) hw hT hF  (lv_sub hl [1, 2, 3, 0] rfl)
            · have c104 : v2_2.toInt = v10_3.toInt := wk_eq.mp c104
              refine lv_iconst (v := 0) hx hb dX0_drawStreets_31 (by decide) ?_
              refine lv_goto (tgt := 37) hx hb dX0_drawStreets_32 (by decide) ?_
              refine tk_iast hC hK hw hT kC_at146 (by decide) rfl rfl (show 0 ≤ r97.toInt by omega) (show r97.toInt < 1100 by omega) (by decide) (by decide) dX0_drawStreets_37 (fun H locs w119 hw hT k121 c120 => ?_)
              have hF := hF.put kC_at146 (inE_of (a := 0) (b := 1100) (by decide) (show 0 ≤ r97.toInt.toNat by omega) (show r97.toInt.toNat ≤ 1100 by omega)) k121
              refine lv_aload_n hx hb dX0_drawStreets_38 rfl (lv_at hl 0 rfl) ?_
              refine tk_getA hC hK hw hT hinX0 kC_at145 (by decide) rfl 2 (by decide) (List.mem_of_getElem? (i := 3) rfl) rfl rfl dX0_drawStreets_39 ?_
              refine lv_iload_n hx hb dX0_drawStreets_42 rfl (lv_at hl 1 rfl) ?_
              refine lv_iload_n hx hb dX0_drawStreets_43 rfl (lv_at hl 2 rfl) ?_
              refine lv_iload_n hx hb dX0_drawStreets_44 rfl (lv_at hl 3 rfl) ?_
              refine tk_Si hC hK hw hT hA hE hSR (k_X0_spot_2 l adK adV dC dI cy ad B (by omega) (by omega) qr s1   a1 (show 0 ≤ a1.toInt by omega) (show a1.toInt ≤ 10 by omega) v2_2 (show 0 ≤ v2_2.toInt by omega) (show v2_2.toInt ≤ 9 by omega) v10_3 (show 0 ≤ v10_3.toInt by omega) (show v10_3.toInt ≤ 9 by omega) w119 H.size hT ) (va_cwS 3 hC.2.2.2.2 gX0_drawStreets_X0_spot rfl rfl rfl (by decide +kernel) ⟨Nat.le_of_ble_eq_true rfl, Nat.le_of_ble_eq_true rfl⟩) rfl hl.1 rfl (Nat.le_of_ble_eq_true rfl) dX0_drawStreets_45 (fun r122 w124 H locs hp123 hw => ?_)
              obtain ⟨hT, k125, hg128⟩ := hp123
              have hF := hF.tr k125 (by decide)
              obtain ⟨g126, g127⟩ := hg128
              refine lv_iconst (v := (-1)) hx hb dX0_drawStreets_48 (by decide) ?_
              refine tk_iast hC hK hw hT kC_at147 (by decide) rfl rfl (show 0 ≤ r122.toInt by omega) (show r122.toInt < 1100 by omega) (by decide) (by decide) dX0_drawStreets_49 (fun H locs w129 hw hT k131 c130 => ?_)
              have hF := hF.put kC_at147 (inE_of (a := 0) (b := 1100) (by decide) (show 0 ≤ r122.toInt.toNat by omega) (show r122.toInt.toNat ≤ 1100 by omega)) k131
              obtain ⟨x132, ex132⟩ : ∃ y : Int32, y = v10_3 + Int32.ofInt 1 := ⟨_, rfl⟩
              refine lv_iinc (v := x132) (lv' := [(3, .int x132), (0, .ref (ad 145)), (1, .int a1), (2, .int v2_2)]) hx hb dX0_drawStreets_50 hl (k := 3) rfl ex132.symm (by decide) rfl (fun ls hl => ?_)
              have ex132 : x132.toInt = v10_3.toInt + 1 := by rw [ex132]; exact wk_add (y := 1) (show -2147483648 ≤ v10_3.toInt + 1 by omega) (show v10_3.toInt + 1 ≤ 2147483647 by omega)
              refine lv_goto (tgt := 10) hx hb dX0_drawStreets_53 (by decide) ?_
              exact ih10 x132 H locs ls w129 (show 0 ≤ a1.toInt by omega) (show a1.toInt ≤ 10 by omega) (show 0 ≤ v2_2.toInt by omega) (show v2_2.toInt ≤ 9 by omega) (show 0 ≤ x132.toInt by omega) (show x132.toInt ≤ 10 by omega) (show (10 - x132.toInt).toNat < n10 by omega) hw hT hF  (lv_sub hl [1, 2, 3, 0] rfl)
      refine lv_iload_n hx hb dX0_drawStreets_2 rfl (lv_at hl 2 rfl) ?_
      refine lv_bipush (v := 10) hx hb dX0_drawStreets_3 (by decide) ?_
      refine lv_icmp_ge (tgt := 62) hx hb dX0_drawStreets_5 (by decide) (fun c133 => ?_) (fun c133 => ?_)
      · have c133 : (10 : Int) ≤ v2_2.toInt := wk_le.mp c133
        refine lv_aload_n hx hb dX0_drawStreets_62 rfl (lv_at hl 0 rfl) ?_
        refine tk_getA hC hK hw hT hinX0 kC_at145 (by decide) rfl 0 (by decide) (List.mem_of_getElem? (i := 4) rfl) rfl rfl dX0_drawStreets_63 ?_
        refine tk_getO hC hK hw hT hinX5 kC_at38 (by decide) rfl 0 (by decide) (List.mem_of_getElem? (i := 5) rfl) rfl rfl dX0_drawStreets_66 ?_
        refine lv_astore_n (lv' := [(2, .ref (ad 39)), (0, .ref (ad 145)), (1, .int a1)]) hx hb dX0_drawStreets_69 rfl hl (by decide) rfl (fun ls hl => ?_)
        refine lv_iconst (v := 0) hx hb dX0_drawStreets_70 (by decide) ?_
        refine lv_istore_n (lv' := [(3, .int 0), (2, .ref (ad 39)), (0, .ref (ad 145)), (1, .int a1)]) hx hb dX0_drawStreets_71 rfl hl (by decide) rfl (fun ls hl => ?_)
        exact L72 ((12 - (0 : Int)).toNat + 1) 0 H locs ls w83 (show 0 ≤ a1.toInt by omega) (show a1.toInt ≤ 10 by omega) (by decide) (by decide) (Nat.lt_succ_self _) hw hT hF  (lv_sub hl [2, 3, 1, 0] rfl)
      · have c133 : v2_2.toInt < (10 : Int) := wk_leF c133
        refine lv_iconst (v := 0) hx hb dX0_drawStreets_8 (by decide) ?_
        refine lv_istore_n (lv' := [(3, .int 0), (0, .ref (ad 145)), (1, .int a1), (2, .int v2_2)]) hx hb dX0_drawStreets_9 rfl hl (by decide) rfl (fun ls hl => ?_)
        exact L10 ((10 - (0 : Int)).toNat + 1) 0 H locs ls w83 (show 0 ≤ a1.toInt by omega) (show a1.toInt ≤ 10 by omega) (show 0 ≤ v2_2.toInt by omega) (show v2_2.toInt ≤ 9 by omega) (by decide) (by decide) (Nat.lt_succ_self _) hw hT hF  (lv_sub hl [1, 2, 3, 0] rfl)
  refine lv_iconst (v := 0) hx hb dX0_drawStreets_0 (by decide) ?_
  refine lv_istore_n (lv' := [(2, .int 0), (0, .ref (ad 145)), (1, .int a1)]) hx hb dX0_drawStreets_1 rfl hl (by decide) rfl (fun ls hl => ?_)
  exact L2 ((10 - (0 : Int)).toNat + 1) 0 s.heap locs ls w0 (show 0 ≤ a1.toInt by omega) (show a1.toInt ≤ 10 by omega) (by decide) (by decide) (Nat.lt_succ_self _) hw hT hF  (lv_sub hl [1, 2, 0] rfl)
abbrev P_X0_drawHours_2 (ad : Nat → Nat) (cy : Nat → ClassId) (B : Int) (qr : Nat) (s1 : Int) (a1 : Int32) (w0 : va_W) : va_W → Prop := fun u => TW ksC ad cy B qr s1 u ∧ FE ksC [(42, 0, 1100)] w0 u ∧ ((True))
set_option maxHeartbeats 4000000 in
set_option maxRecDepth 100000 in
theorem k_X0_drawHours_2 (l : Launch) (adK adV : Nat → Nat) (dC : Nat → ClassId) (dI : Nat → Nat → Nat) (cy : Nat → ClassId) (ad : Nat → Nat) (B : Int) (hB0 : 2147483648 ≤ B) (hB1 : B ≤ 1152921504606846976) (qr : Nat) (s1 : Int)  (a1 : Int32) (ra1 : 0 ≤ a1.toInt) (ta1 : a1.toInt ≤ 10) (w0 : va_W) (sz : Nat) (hT : TW ksC ad cy B qr s1 w0)  : Met l yX0_drawHours wsX0_drawHours ({ frames := 2, cells := 0, slots := 0, locals := 34 }) (va_Pc [.ref (ad 145), .int a1] (wpreS adK adV dC dI cy sz w0)) (va_Qv (P_X0_drawHours_2 ad cy B qr s1 a1 w0) (fun u : va_W => wpost dC dI cy (va_A w0 sz) u) (va_A w0 sz)) 0 0 (va_A w0 sz) := by
  refine Met.ofW (cc := cX0_drawHours) (maxL := 9) (ret := none) (by decide) rfl ?_
  intro p e s m args below meth c s₁ Bk hml hv
  obtain ⟨rfl, ⟨hsz, hP, hK, hD0⟩, hE, hSR⟩ := hv
  have hx := Bk.exec
  have hb := Bk.bytes
  have hr := Bk.returns
  have hlocks := Bk.notSynchronized
  have hC : CallFix p m c cX0_drawHours 9 s _ wsX0_drawHours RX0 := ⟨hx, hb, hml, findClass_of_methodNamed Bk.named, atoms_spec (ws := wsX0_drawHours) Bk.pre⟩
  subst hsz
  have hD := hD0.self (sz := s.heap.size)
  generalize hAe : va_A w0 s.heap.size = A at hD hE ⊢
  have hA : ∀ q : Nat, s.heap.size ≤ q → A q := fun q h => by rw [← hAe]; exact Or.inr h
  have hw : Wd dC dI A s.heap s.heap [] w0 := ⟨hP, hD, va_S.rf⟩
  have hF : FE ksC [(42, 0, 1100)] w0 w0 := FE.rf
  have hl := lv_entry ([.ref (ad 145), .int a1]) (n := 9) (Nat.le_of_ble_eq_true rfl)
  rw [lg_entry_eq]
  generalize (lg_sl ([.ref (ad 145), .int a1]) ++ List.replicate (9 - (lg_sl ([.ref (ad 145), .int a1])).length) Slot.unset).toArray = ls at hl ⊢
  have hl : lv_has ls 9 [(0, .ref (ad 145)), (1, .int a1)] := hl
  generalize hloc : ([] : List Loc) = locs at hw ⊢
  have hinX0 : ∀ w ∈ u_ws RX0 TX0 4, w ∈ wsX0_drawHours := fun _ h => List.mem_cons_of_mem _ (List.mem_append_left _ (List.mem_append_left _ (List.mem_append_right _ (h))))
  have hinX5 : ∀ w ∈ u_ws RX5 TX5 14, w ∈ wsX0_drawHours := fun _ h => List.mem_cons_of_mem _ (List.mem_append_left _ (List.mem_append_right _ (h)))
  have hinX7 : ∀ w ∈ u_ws RX7 TX7 12, w ∈ wsX0_drawHours := fun _ h => List.mem_cons_of_mem _ (List.mem_append_right _ (h))
  have L13 : ∀ (n13 : Nat) (v13_2 : Int32) (v13_3 : Int32) (f13_39_8 : Int32) (H : Heap) (locs : List Loc) (ls : Array Slot) (w1 : va_W), 0 ≤ a1.toInt → a1.toInt ≤ 10 → (-1) ≤ v13_2.toInt → v13_2.toInt ≤ 10 → 0 ≤ v13_3.toInt → v13_3.toInt ≤ 10 → (-1) ≤ f13_39_8.toInt → f13_39_8.toInt ≤ 10 → (10 - v13_3.toInt).toNat < n13 → Wd dC dI A s.heap H locs w1 → TW ksC ad cy B qr s1 w1 → FE ksC [(42, 0, 1100)] w0 w1 → gi w1 39 8 = f13_39_8 → lv_has ls 9 [(0, .ref (ad 145)), (1, .int a1), (2, .int v13_2), (3, .int v13_3)] → W p l e ({ frames := 2, cells := 0, slots := 0, locals := 34 }) s m (List.toArray [.ref (ad 145), .int a1]) below meth c H locs 0 0 (MQ below (va_Qv (P_X0_drawHours_2 ad cy B qr s1 a1 w0) (fun u : va_W => wpost dC dI cy A u) A) (List.toArray [.ref (ad 145), .int a1]) s 0 0 A) (F0 m 13 ls []) := by
    intro n13
    induction n13 with
    | zero => intro v13_2 v13_3 f13_39_8 H locs ls w1 r2 t3 r4 t5 r6 t7 r8 t9 hm13 hw hT hF c10 hl; omega
    | succ n13 ih13 =>
      intro v13_2 v13_3 f13_39_8 H locs ls w1 r2 t3 r4 t5 r6 t7 r8 t9 hm13 hw hT hF c10 hl
      have L21 : ∀ (n21 : Nat) (v21_4 : Int32) (H : Heap) (locs : List Loc) (ls : Array Slot) (w11 : va_W), 0 ≤ a1.toInt → a1.toInt ≤ 10 → 1 ≤ v13_2.toInt → v13_2.toInt ≤ 10 → 0 ≤ v13_3.toInt → v13_3.toInt ≤ 9 → 0 ≤ v21_4.toInt → v21_4.toInt ≤ 10 → (-1) ≤ f13_39_8.toInt → f13_39_8.toInt ≤ 10 → (10 - v21_4.toInt).toNat < n21 → Wd dC dI A s.heap H locs w11 → TW ksC ad cy B qr s1 w11 → FE ksC [(42, 0, 1100)] w0 w11 → gi w11 39 8 = f13_39_8 → lv_has ls 9 [(0, .ref (ad 145)), (1, .int a1), (2, .int v13_2), (3, .int v13_3), (4, .int v21_4)] → W p l e ({ frames := 2, cells := 0, slots := 0, locals := 34 }) s m (List.toArray [.ref (ad 145), .int a1]) below meth c H locs 0 0 (MQ below (va_Qv (P_X0_drawHours_2 ad cy B qr s1 a1 w0) (fun u : va_W => wpost dC dI cy A u) A) (List.toArray [.ref (ad 145), .int a1]) s 0 0 A) (F0 m 21 ls []) := by
        intro n21
        induction n21 with
        | zero => intro v21_4 H locs ls w11 r12 t13 r14 t15 r16 t17 r18 t19 r20 t21 hm21 hw hT hF c22 hl; omega
        | succ n21 ih21 =>
          intro v21_4 H locs ls w11 r12 t13 r14 t15 r16 t17 r18 t19 r20 t21 hm21 hw hT hF c22 hl
          have J111 : ∀ (v111_5 : Int32) (v111_6 : Int32) (H : Heap) (locs : List Loc) (ls : Array Slot) (w23 : va_W), 0 ≤ a1.toInt → a1.toInt ≤ 10 → 1 ≤ v13_2.toInt → v13_2.toInt ≤ 10 → 0 ≤ v13_3.toInt → v13_3.toInt ≤ 9 → 0 ≤ v21_4.toInt → v21_4.toInt ≤ 9 → 0 ≤ v111_5.toInt → v111_5.toInt ≤ 1000000 → 0 ≤ v111_6.toInt → v111_6.toInt ≤ 10 → (-1) ≤ f13_39_8.toInt → f13_39_8.toInt ≤ 10 → Wd dC dI A s.heap H locs w23 → TW ksC ad cy B qr s1 w23 → FE ksC [(42, 0, 1100)] w0 w23 → gi w23 39 8 = f13_39_8 → lv_has ls 9 [(0, .ref (ad 145)), (1, .int a1), (2, .int v13_2), (3, .int v13_3), (4, .int v21_4), (5, .int v111_5), (6, .int v111_6)] → W p l e ({ frames := 2, cells := 0, slots := 0, locals := 34 }) s m (List.toArray [.ref (ad 145), .int a1]) below meth c H locs 0 0 (MQ below (va_Qv (P_X0_drawHours_2 ad cy B qr s1 a1 w0) (fun u : va_W => wpost dC dI cy A u) A) (List.toArray [.ref (ad 145), .int a1]) s 0 0 A) (F0 m 111 ls []) := by
            intro v111_5 v111_6 H locs ls w23 r24 t25 r26 t27 r28 t29 r30 t31 r32 t33 r34 t35 r36 t37 hw hT hF c38 hl
            obtain ⟨x39, ex39⟩ : ∃ y : Int32, y = v21_4 + Int32.ofInt 1 := ⟨_, rfl⟩
            refine lv_iinc (v := x39) (lv' := [(4, .int x39), (0, .ref (ad 145)), (1, .int a1), (2, .int v13_2), (3, .int v13_3), (5, .int v111_5), (6, .int v111_6)]) hx hb dX0_drawHours_111 hl (k := 4) rfl ex39.symm (by decide) rfl (fun ls hl => ?_)
            have ex39 : x39.toInt = v21_4.toInt + 1 := by rw [ex39]; exact wk_add (y := 1) (show -2147483648 ≤ v21_4.toInt + 1 by omega) (show v21_4.toInt + 1 ≤ 2147483647 by omega)
            refine lv_goto (tgt := 21) hx hb dX0_drawHours_114 (by decide) ?_
            exact ih21 x39 H locs ls w23 (show 0 ≤ a1.toInt by omega) (show a1.toInt ≤ 10 by omega) (show 1 ≤ v13_2.toInt by omega) (show v13_2.toInt ≤ 10 by omega) (show 0 ≤ v13_3.toInt by omega) (show v13_3.toInt ≤ 9 by omega) (show 0 ≤ x39.toInt by omega) (show x39.toInt ≤ 10 by omega) (show (-1) ≤ f13_39_8.toInt by omega) (show f13_39_8.toInt ≤ 10 by omega) (show (10 - x39.toInt).toNat < n21 by omega) hw hT hF c38 (lv_sub hl [1, 2, 3, 4, 0] rfl)
          have L44 : ∀ (n44 : Nat) (v44_5 : Int32) (v44_6 : Int32) (H : Heap) (locs : List Loc) (ls : Array Slot) (w40 : va_W), 0 ≤ a1.toInt → a1.toInt ≤ 10 → 1 ≤ v13_2.toInt → v13_2.toInt ≤ 10 → 0 ≤ v13_3.toInt → v13_3.toInt ≤ 9 → 0 ≤ v21_4.toInt → v21_4.toInt ≤ 9 → 0 ≤ v44_5.toInt → v44_5.toInt ≤ 1000000 → 0 ≤ v44_6.toInt → v44_6.toInt ≤ 10 → (-1) ≤ f13_39_8.toInt → f13_39_8.toInt ≤ 10 → (10 - v44_6.toInt).toNat < n44 → Wd dC dI A s.heap H locs w40 → TW ksC ad cy B qr s1 w40 → FE ksC [(42, 0, 1100)] w0 w40 → gi w40 39 8 = f13_39_8 → lv_has ls 9 [(0, .ref (ad 145)), (1, .int a1), (2, .int v13_2), (3, .int v13_3), (4, .int v21_4), (5, .int v44_5), (6, .int v44_6)] → W p l e ({ frames := 2, cells := 0, slots := 0, locals := 34 }) s m (List.toArray [.ref (ad 145), .int a1]) below meth c H locs 0 0 (MQ below (va_Qv (P_X0_drawHours_2 ad cy B qr s1 a1 w0) (fun u : va_W => wpost dC dI cy A u) A) (List.toArray [.ref (ad 145), .int a1]) s 0 0 A) (F0 m 44 ls []) := by
            intro n44
            induction n44 with
            | zero => intro v44_5 v44_6 H locs ls w40 r41 t42 r43 t44 r45 t46 r47 t48 r49 t50 r51 t52 r53 t54 hm44 hw hT hF c55 hl; omega
            | succ n44 ih44 =>
              intro v44_5 v44_6 H locs ls w40 r41 t42 r43 t44 r45 t46 r47 t48 r49 t50 r51 t52 r53 t54 hm44 hw hT hF c55 hl
              have J105 : ∀ (v105_7 : Int32) (v105_8 : Int32) (H : Heap) (locs : List Loc) (ls : Array Slot) (w56 : va_W), 0 ≤ a1.toInt → a1.toInt ≤ 10 → 1 ≤ v13_2.toInt → v13_2.toInt ≤ 10 → 0 ≤ v13_3.toInt → v13_3.toInt ≤ 9 → 0 ≤ v21_4.toInt → v21_4.toInt ≤ 9 → 0 ≤ v44_5.toInt → v44_5.toInt ≤ 999999 → 0 ≤ v44_6.toInt → v44_6.toInt ≤ 9 → 0 ≤ v105_7.toInt → v105_7.toInt ≤ 1999999 → 0 ≤ v105_8.toInt → v105_8.toInt ≤ 1099 → (-1) ≤ f13_39_8.toInt → f13_39_8.toInt ≤ 10 → Wd dC dI A s.heap H locs w56 → TW ksC ad cy B qr s1 w56 → FE ksC [(42, 0, 1100)] w0 w56 → gi w56 39 8 = f13_39_8 → lv_has ls 9 [(0, .ref (ad 145)), (1, .int a1), (2, .int v13_2), (3, .int v13_3), (4, .int v21_4), (5, .int v44_5), (6, .int v44_6), (7, .int v105_7), (8, .int v105_8)] → W p l e ({ frames := 2, cells := 0, slots := 0, locals := 34 }) s m (List.toArray [.ref (ad 145), .int a1]) below meth c H locs 0 0 (MQ below (va_Qv (P_X0_drawHours_2 ad cy B qr s1 a1 w0) (fun u : va_W => wpost dC dI cy A u) A) (List.toArray [.ref (ad 145), .int a1]) s 0 0 A) (F0 m 105 ls []) := by
                intro v105_7 v105_8 H locs ls w56 r57 t58 r59 t60 r61 t62 r63 t64 r65 t66 r67 t68 r69 t70 r71 t72 r73 t74 hw hT hF c75 hl
                obtain ⟨x76, ex76⟩ : ∃ y : Int32, y = v44_6 + Int32.ofInt 1 := ⟨_, rfl⟩
                refine lv_iinc (v := x76) (lv' := [(6, .int x76), (0, .ref (ad 145)), (1, .int a1), (2, .int v13_2), (3, .int v13_3), (4, .int v21_4), (5, .int v44_5), (7, .int v105_7), (8, .int v105_8)]) hx hb dX0_drawHours_105 hl (k := 6) rfl ex76.symm (by decide) rfl (fun ls hl => ?_)
                have ex76 : x76.toInt = v44_6.toInt + 1 := by rw [ex76]; exact wk_add (y := 1) (show -2147483648 ≤ v44_6.toInt + 1 by omega) (show v44_6.toInt + 1 ≤ 2147483647 by omega)
                refine lv_goto (tgt := 44) hx hb dX0_drawHours_108 (by decide) ?_
                exact ih44 v44_5 x76 H locs ls w56 (show 0 ≤ a1.toInt by omega) (show a1.toInt ≤ 10 by omega) (show 1 ≤ v13_2.toInt by omega) (show v13_2.toInt ≤ 10 by omega) (show 0 ≤ v13_3.toInt by omega) (show v13_3.toInt ≤ 9 by omega) (show 0 ≤ v21_4.toInt by omega) (show v21_4.toInt ≤ 9 by omega) (show 0 ≤ v44_5.toInt by omega) (show v44_5.toInt ≤ 1000000 by omega) (show 0 ≤ x76.toInt by omega) (show x76.toInt ≤ 10 by omega) (show (-1) ≤ f13_39_8.toInt by omega) (show f13_39_8.toInt ≤ 10 by omega) (show (10 - x76.toInt).toNat < n44 by omega) hw hT hF c75 (lv_sub hl [1, 2, 3, 4, 5, 6, 0] rfl)
              refine lv_iload hx hb dX0_drawHours_44 (lv_at hl 5 rfl) ?_
              refine lv_ldc (v := 1000000) hx hb hC.2.2.2.1 (hC.2.2.2.2 _ (List.mem_of_getElem? (i := 5) rfl)) dX0_drawHours_46 ?_
              refine lv_icmp_ge (tgt := 111) hx hb dX0_drawHours_48 (by decide) (fun c77 => ?_) (fun c77 => ?_)
              · have c77 : (1000000 : Int) ≤ v44_5.toInt := wk_le.mp c77
                exact J111 v44_5 v44_6 H locs ls w40 (show 0 ≤ a1.toInt by omega) (show a1.toInt ≤ 10 by omega) (show 1 ≤ v13_2.toInt by omega) (show v13_2.toInt ≤ 10 by omega) (show 0 ≤ v13_3.toInt by omega) (show v13_3.toInt ≤ 9 by omega) (show 0 ≤ v21_4.toInt by omega) (show v21_4.toInt ≤ 9 by omega) (show 0 ≤ v44_5.toInt by omega) (show v44_5.toInt ≤ 1000000 by omega) (show 0 ≤ v44_6.toInt by omega) (show v44_6.toInt ≤ 10 by omega) (show (-1) ≤ f13_39_8.toInt by omega) (show f13_39_8.toInt ≤ 10 by omega)  hw hT hF c55 (lv_sub hl [0, 1, 2, 3, 4, 5, 6] rfl)
              · have c77 : v44_5.toInt < (1000000 : Int) := wk_leF c77
                refine lv_iload hx hb dX0_drawHours_51 (lv_at hl 6 rfl) ?_
                refine lv_iload_n hx hb dX0_drawHours_53 rfl (lv_at hl 2 rfl) ?_
                refine lv_icmp_ge (tgt := 111) hx hb dX0_drawHours_54 (by decide) (fun c78 => ?_) (fun c78 => ?_)
                · have c78 : v13_2.toInt ≤ v44_6.toInt := wk_le.mp c78
                  exact J111 v44_5 v44_6 H locs ls w40 (show 0 ≤ a1.toInt by omega) (show a1.toInt ≤ 10 by omega) (show 1 ≤ v13_2.toInt by omega) (show v13_2.toInt ≤ 10 by omega) (show 0 ≤ v13_3.toInt by omega) (show v13_3.toInt ≤ 9 by omega) (show 0 ≤ v21_4.toInt by omega) (show v21_4.toInt ≤ 9 by omega) (show 0 ≤ v44_5.toInt by omega) (show v44_5.toInt ≤ 1000000 by omega) (show 0 ≤ v44_6.toInt by omega) (show v44_6.toInt ≤ 10 by omega) (show (-1) ≤ f13_39_8.toInt by omega) (show f13_39_8.toInt ≤ 10 by omega)  hw hT hF c55 (lv_sub hl [0, 1, 2, 3, 4, 5, 6] rfl)
                · have c78 : v44_6.toInt < v13_2.toInt := wk_leF c78
                  refine lv_iload hx hb dX0_drawHours_57 (lv_at hl 5 rfl) ?_
                  refine lv_aload_n hx hb dX0_drawHours_59 rfl (lv_at hl 0 rfl) ?_
                  refine tk_getA hC hK hw hT hinX0 kC_at145 (by decide) rfl 1 (by decide) (List.mem_of_getElem? (i := 4) rfl) rfl rfl dX0_drawHours_60 ?_
                  refine lv_iload_n hx hb dX0_drawHours_63 rfl (lv_at hl 1 rfl) ?_
                  refine lv_iload_n hx hb dX0_drawHours_64 rfl (lv_at hl 3 rfl) ?_
                  refine lv_iload hx hb dX0_drawHours_65 (lv_at hl 6 rfl) ?_
                  refine tk_Si hC hK hw hT hA hE hSR (k_X0_spot_2 l adK adV dC dI cy ad B (by omega) (by omega) qr s1   a1 (show 0 ≤ a1.toInt by omega) (show a1.toInt ≤ 10 by omega) v13_3 (show 0 ≤ v13_3.toInt by omega) (show v13_3.toInt ≤ 9 by omega) v44_6 (show 0 ≤ v44_6.toInt by omega) (show v44_6.toInt ≤ 9 by omega) w40 H.size hT ) (va_cwS 3 hC.2.2.2.2 gX0_drawHours_X0_spot rfl rfl rfl (by decide +kernel) ⟨Nat.le_of_ble_eq_true rfl, Nat.le_of_ble_eq_true rfl⟩) rfl hl.1 rfl (Nat.le_of_ble_eq_true rfl) dX0_drawHours_67 (fun r79 w81 H locs hp80 hw => ?_)
                  obtain ⟨hT, k82, hg85⟩ := hp80
                  have hF := hF.tr k82 (by decide)
                  have c86 := k82.gi kC_at39 (by decide) c55
                  obtain ⟨g83, g84⟩ := hg85
                  refine tk_iald hC hK hw hT kC_at146 rfl rfl (show 0 ≤ r79.toInt by omega) (show r79.toInt < 1100 by omega) dX0_drawHours_70 (fun x87 c88 rx87 tx87 => ?_)
                  refine lv_iadd hx hb dX0_drawHours_71 ?_
                  refine lv_topi (fun x89 ex89 => ?_)
                  have ex89 : x89.toInt = v44_5.toInt + x87.toInt := by rw [ex89]; exact wk_add (show (-2147483648) ≤ v44_5.toInt + x87.toInt by omega) (show v44_5.toInt + x87.toInt ≤ 2147483647 by omega)
                  refine lv_istore (lv' := [(7, .int x89), (0, .ref (ad 145)), (1, .int a1), (2, .int v13_2), (3, .int v13_3), (4, .int v21_4), (5, .int v44_5), (6, .int v44_6)]) hx hb dX0_drawHours_72 hl (by decide) rfl (fun ls hl => ?_)
                  refine lv_iload_n hx hb dX0_drawHours_74 rfl (lv_at hl 2 rfl) ?_
                  refine lv_iload hx hb dX0_drawHours_75 (lv_at hl 5 rfl) ?_
                  refine lv_iload hx hb dX0_drawHours_77 (lv_at hl 7 rfl) ?_
                  refine tk_Si hC hK hw hT hA hE hSR (k_X0_spot_2 l adK adV dC dI cy ad B (by omega) (by omega) qr s1   a1 (show 0 ≤ a1.toInt by omega) (show a1.toInt ≤ 10 by omega) v21_4 (show 0 ≤ v21_4.toInt by omega) (show v21_4.toInt ≤ 9 by omega) v44_6 (show 0 ≤ v44_6.toInt by omega) (show v44_6.toInt ≤ 9 by omega) w81 H.size hT ) (va_cwS 3 hC.2.2.2.2 gX0_drawHours_X0_spot rfl rfl rfl (by decide +kernel) ⟨Nat.le_of_ble_eq_true rfl, Nat.le_of_ble_eq_true rfl⟩) rfl hl.1 rfl (Nat.le_of_ble_eq_true rfl) dX0_drawHours_79 (fun r90 w92 H locs hp91 hw => ?_)
                  obtain ⟨hT, k93, hg96⟩ := hp91
                  have hF := hF.tr k93 (by decide)
                  have c97 := k93.gi kC_at39 (by decide) c86
                  obtain ⟨g94, g95⟩ := hg96
                  refine lv_istore (lv' := [(8, .int r90), (7, .int x89), (0, .ref (ad 145)), (1, .int a1), (2, .int v13_2), (3, .int v13_3), (4, .int v21_4), (5, .int v44_5), (6, .int v44_6)]) hx hb dX0_drawHours_82 hl (by decide) rfl (fun ls hl => ?_)
                  refine lv_iload hx hb dX0_drawHours_84 (lv_at hl 1 rfl) ?_
                  refine lv_aload_n hx hb dX0_drawHours_86 rfl (lv_at hl 2 rfl) ?_
                  refine tk_getA hC hK hw hT hinX0 kC_at145 (by decide) rfl 1 (by decide) (List.mem_of_getElem? (i := 4) rfl) rfl rfl dX0_drawHours_87 ?_
                  refine lv_iload hx hb dX0_drawHours_90 (lv_at hl 0 rfl) ?_
                  refine tk_iald hC hK hw hT kC_at146 rfl rfl (show 0 ≤ r90.toInt by omega) (show r90.toInt < 1100 by omega) dX0_drawHours_92 (fun x98 c99 rx98 tx98 => ?_)
                  refine lv_icmp_ge (tgt := 105) hx hb dX0_drawHours_93 (by decide) (fun c100 => ?_) (fun c100 => ?_)
                  · have c100 : x98.toInt ≤ x89.toInt := wk_le.mp c100
                    exact J105 x89 r90 H locs ls w92 (show 0 ≤ a1.toInt by omega) (show a1.toInt ≤ 10 by omega) (show 1 ≤ v13_2.toInt by omega) (show v13_2.toInt ≤ 10 by omega) (show 0 ≤ v13_3.toInt by omega) (show v13_3.toInt ≤ 9 by omega) (show 0 ≤ v21_4.toInt by omega) (show v21_4.toInt ≤ 9 by omega) (show 0 ≤ v44_5.toInt by omega) (show v44_5.toInt ≤ 999999 by omega) (show 0 ≤ v44_6.toInt by omega) (show v44_6.toInt ≤ 9 by omega) (show 0 ≤ x89.toInt by omega) (show x89.toInt ≤ 1999999 by omega) (show 0 ≤ r90.toInt by omega) (show r90.toInt ≤ 1099 by omega) (show (-1) ≤ f13_39_8.toInt by omega) (show f13_39_8.toInt ≤ 10 by omega)  hw hT hF c97 (lv_sub hl [2, 3, 4, 5, 6, 7, 8, 1, 0] rfl)
                  · have c100 : x89.toInt < x98.toInt := wk_leF c100
                    refine lv_aload_n hx hb dX0_drawHours_96 rfl (lv_at hl 2 rfl) ?_
                    refine tk_getA hC hK hw hT hinX0 kC_at145 (by decide) rfl 1 (by decide) (List.mem_of_getElem? (i := 4) rfl) rfl rfl dX0_drawHours_97 ?_
                    refine lv_iload hx hb dX0_drawHours_100 (lv_at hl 0 rfl) ?_
                    refine lv_iload hx hb dX0_drawHours_102 (lv_at hl 1 rfl) ?_
                    refine tk_iast hC hK hw hT kC_at146 (by decide) rfl rfl (show 0 ≤ r90.toInt by omega) (show r90.toInt < 1100 by omega) (show 0 ≤ x89.toInt by omega) (show x89.toInt ≤ 1000000 by omega) dX0_drawHours_104 (fun H locs w101 hw hT k103 c102 => ?_)
                    have hF := hF.put kC_at146 (inE_of (a := 0) (b := 1100) (by decide) (show 0 ≤ r90.toInt.toNat by omega) (show r90.toInt.toNat ≤ 1100 by omega)) k103
                    have c104 := k103.gi (Or.inl (tk_ne kC_at39 kC_at146 (by decide))) c97
                    exact J105 x89 r90 H locs ls w101 (show 0 ≤ a1.toInt by omega) (show a1.toInt ≤ 10 by omega) (show 1 ≤ v13_2.toInt by omega) (show v13_2.toInt ≤ 10 by omega) (show 0 ≤ v13_3.toInt by omega) (show v13_3.toInt ≤ 9 by omega) (show 0 ≤ v21_4.toInt by omega) (show v21_4.toInt ≤ 9 by omega) (show 0 ≤ v44_5.toInt by omega) (show v44_5.toInt ≤ 999999 by omega) (show 0 ≤ v44_6.toInt by omega) (show v44_6.toInt ≤ 9 by omega) (show 0 ≤ x89.toInt by omega) (show x89.toInt ≤ 1999999 by omega) (show 0 ≤ r90.toInt by omega) (show r90.toInt ≤ 1099 by omega) (show (-1) ≤ f13_39_8.toInt by omega) (show f13_39_8.toInt ≤ 10 by omega)  hw hT hF c104 (lv_sub hl [2, 3, 4, 5, 6, 7, 8, 1, 0] rfl)
          refine lv_iload hx hb dX0_drawHours_21 (lv_at hl 4 rfl) ?_
          refine lv_iload_n hx hb dX0_drawHours_23 rfl (lv_at hl 2 rfl) ?_
          refine lv_icmp_ge (tgt := 117) hx hb dX0_drawHours_24 (by decide) (fun c105 => ?_) (fun c105 => ?_)
          · have c105 : v13_2.toInt ≤ v21_4.toInt := wk_le.mp c105
            obtain ⟨x106, ex106⟩ : ∃ y : Int32, y = v13_3 + Int32.ofInt 1 := ⟨_, rfl⟩
            refine lv_iinc (v := x106) (lv' := [(3, .int x106), (0, .ref (ad 145)), (1, .int a1), (2, .int v13_2), (4, .int v21_4)]) hx hb dX0_drawHours_117 hl (k := 3) rfl ex106.symm (by decide) rfl (fun ls hl => ?_)
            have ex106 : x106.toInt = v13_3.toInt + 1 := by rw [ex106]; exact wk_add (y := 1) (show -2147483648 ≤ v13_3.toInt + 1 by omega) (show v13_3.toInt + 1 ≤ 2147483647 by omega)
            refine lv_goto (tgt := 13) hx hb dX0_drawHours_120 (by decide) ?_
            exact ih13 v13_2 x106 f13_39_8 H locs ls w11 (show 0 ≤ a1.toInt by omega) (show a1.toInt ≤ 10 by omega) (show (-1) ≤ v13_2.toInt by omega) (show v13_2.toInt ≤ 10 by omega) (show 0 ≤ x106.toInt by omega) (show x106.toInt ≤ 10 by omega) (show (-1) ≤ f13_39_8.toInt by omega) (show f13_39_8.toInt ≤ 10 by omega) (show (10 - x106.toInt).toNat < n13 by omega) hw hT hF c22 (lv_sub hl [1, 2, 3, 0] rfl)
          · have c105 : v21_4.toInt < v13_2.toInt := wk_leF c105
            refine lv_aload_n hx hb dX0_drawHours_27 rfl (lv_at hl 0 rfl) ?_
            refine tk_getA hC hK hw hT hinX0 kC_at145 (by decide) rfl 1 (by decide) (List.mem_of_getElem? (i := 4) rfl) rfl rfl dX0_drawHours_28 ?_
            refine lv_iload_n hx hb dX0_drawHours_31 rfl (lv_at hl 1 rfl) ?_
            refine lv_iload hx hb dX0_drawHours_32 (lv_at hl 4 rfl) ?_
            refine lv_iload_n hx hb dX0_drawHours_34 rfl (lv_at hl 3 rfl) ?_
            refine tk_Si hC hK hw hT hA hE hSR (k_X0_spot_2 l adK adV dC dI cy ad B (by omega) (by omega) qr s1   a1 (show 0 ≤ a1.toInt by omega) (show a1.toInt ≤ 10 by omega) v21_4 (show 0 ≤ v21_4.toInt by omega) (show v21_4.toInt ≤ 9 by omega) v13_3 (show 0 ≤ v13_3.toInt by omega) (show v13_3.toInt ≤ 9 by omega) w11 H.size hT ) (va_cwS 3 hC.2.2.2.2 gX0_drawHours_X0_spot rfl rfl rfl (by decide +kernel) ⟨Nat.le_of_ble_eq_true rfl, Nat.le_of_ble_eq_true rfl⟩) rfl hl.1 rfl (Nat.le_of_ble_eq_true rfl) dX0_drawHours_35 (fun r107 w109 H locs hp108 hw => ?_)
            obtain ⟨hT, k110, hg113⟩ := hp108
            have hF := hF.tr k110 (by decide)
            have c114 := k110.gi kC_at39 (by decide) c22
            obtain ⟨g111, g112⟩ := hg113
            refine tk_iald hC hK hw hT kC_at146 rfl rfl (show 0 ≤ r107.toInt by omega) (show r107.toInt < 1100 by omega) dX0_drawHours_38 (fun x115 c116 rx115 tx115 => ?_)
            refine lv_istore (lv' := [(5, .int x115), (0, .ref (ad 145)), (1, .int a1), (2, .int v13_2), (3, .int v13_3), (4, .int v21_4)]) hx hb dX0_drawHours_39 hl (by decide) rfl (fun ls hl => ?_)
            refine lv_iconst (v := 0) hx hb dX0_drawHours_41 (by decide) ?_
            refine lv_istore (lv' := [(6, .int 0), (5, .int x115), (0, .ref (ad 145)), (1, .int a1), (2, .int v13_2), (3, .int v13_3), (4, .int v21_4)]) hx hb dX0_drawHours_42 hl (by decide) rfl (fun ls hl => ?_)
            exact L44 ((10 - (0 : Int)).toNat + 1) x115 0 H locs ls w109 (show 0 ≤ a1.toInt by omega) (show a1.toInt ≤ 10 by omega) (show 1 ≤ v13_2.toInt by omega) (show v13_2.toInt ≤ 10 by omega) (show 0 ≤ v13_3.toInt by omega) (show v13_3.toInt ≤ 9 by omega) (show 0 ≤ v21_4.toInt by omega) (show v21_4.toInt ≤ 9 by omega) (show 0 ≤ x115.toInt by omega) (show x115.toInt ≤ 1000000 by omega) (by decide) (by decide) (show (-1) ≤ f13_39_8.toInt by omega) (show f13_39_8.toInt ≤ 10 by omega) (Nat.lt_succ_self _) hw hT hF c114 (lv_sub hl [2, 3, 4, 5, 6, 1, 0] rfl)
      refine lv_iload_n hx hb dX0_drawHours_13 rfl (lv_at hl 3 rfl) ?_
      refine lv_iload_n hx hb dX0_drawHours_14 rfl (lv_at hl 2 rfl) ?_
      refine lv_icmp_ge (tgt := 123) hx hb dX0_drawHours_15 (by decide) (fun c117 => ?_) (fun c117 => ?_)
      · have c117 : v13_2.toInt ≤ v13_3.toInt := wk_le.mp c117
        exact tk_vret hC hr hlocks hK ⟨hT, hF, trivial⟩ hw dX0_drawHours_123
      · have c117 : v13_3.toInt < v13_2.toInt := wk_leF c117
        refine lv_iconst (v := 0) hx hb dX0_drawHours_18 (by decide) ?_
        refine lv_istore (lv' := [(4, .int 0), (0, .ref (ad 145)), (1, .int a1), (2, .int v13_2), (3, .int v13_3)]) hx hb dX0_drawHours_19 hl (by decide) rfl (fun ls hl => ?_)
        exact L21 ((10 - (0 : Int)).toNat + 1) 0 H locs ls w1 (show 0 ≤ a1.toInt by omega) (show a1.toInt ≤ 10 by omega) (show 1 ≤ v13_2.toInt by omega) (show v13_2.toInt ≤ 10 by omega) (show 0 ≤ v13_3.toInt by omega) (show v13_3.toInt ≤ 9 by omega) (by decide) (by decide) (show (-1) ≤ f13_39_8.toInt by omega) (show f13_39_8.toInt ≤ 10 by omega) (Nat.lt_succ_self _) hw hT hF c10 (lv_sub hl [1, 2, 3, 4, 0] rfl)
  refine lv_aload_n hx hb dX0_drawHours_0 rfl (lv_at hl 0 rfl) ?_
  refine tk_getA hC hK hw hT hinX0 kC_at145 (by decide) rfl 0 (by decide) (List.mem_of_getElem? (i := 1) rfl) rfl rfl dX0_drawHours_1 ?_
  refine tk_getO hC hK hw hT hinX5 kC_at38 (by decide) rfl 0 (by decide) (List.mem_of_getElem? (i := 2) rfl) rfl rfl dX0_drawHours_4 ?_
  refine tk_geti hC hK hw hT hinX7 kC_at39 (by decide) rfl 8 (by decide) (List.mem_of_getElem? (i := 3) rfl) rfl rfl dX0_drawHours_7 (fun x118 c119 rx118 tx118 => ?_)
  refine lv_istore_n (lv' := [(2, .int x118), (0, .ref (ad 145)), (1, .int a1)]) hx hb dX0_drawHours_10 rfl hl (by decide) rfl (fun ls hl => ?_)
  refine lv_iconst (v := 0) hx hb dX0_drawHours_11 (by decide) ?_
  refine lv_istore_n (lv' := [(3, .int 0), (2, .int x118), (0, .ref (ad 145)), (1, .int a1)]) hx hb dX0_drawHours_12 rfl hl (by decide) rfl (fun ls hl => ?_)
  exact L13 ((10 - (0 : Int)).toNat + 1) x118 0 x118 s.heap locs ls w0 (show 0 ≤ a1.toInt by omega) (show a1.toInt ≤ 10 by omega) (show (-1) ≤ x118.toInt by omega) (show x118.toInt ≤ 10 by omega) (by decide) (by decide) (show (-1) ≤ x118.toInt by omega) (show x118.toInt ≤ 10 by omega) (Nat.lt_succ_self _) hw hT hF c119 (lv_sub hl [2, 3, 1, 0] rfl)
abbrev P_X0_drawFirstBy_2 (ad : Nat → Nat) (cy : Nat → ClassId) (B : Int) (qr : Nat) (s1 : Int) (a1 : Int32) (a2 : Int32) (a3 : Int32) (w0 : va_W) : va_W → Prop := fun u => TW ksC ad cy B qr s1 u ∧ FE ksC [(43, 0, 1100)] w0 u ∧ ((True))
set_option maxHeartbeats 4000000 in
set_option maxRecDepth 100000 in
theorem k_X0_drawFirstBy_2 (l : Launch) (adK adV : Nat → Nat) (dC : Nat → ClassId) (dI : Nat → Nat → Nat) (cy : Nat → ClassId) (ad : Nat → Nat) (B : Int) (hB0 : 2147483648 ≤ B) (hB1 : B ≤ 1152921504606846976) (qr : Nat) (s1 : Int)  (a1 : Int32) (ra1 : 0 ≤ a1.toInt) (ta1 : a1.toInt ≤ 10) (a2 : Int32) (ra2 : 0 ≤ a2.toInt) (ta2 : a2.toInt ≤ 11) (a3 : Int32) (ra3 : 0 ≤ a3.toInt) (ta3 : a3.toInt ≤ 1) (w0 : va_W) (sz : Nat) (hT : TW ksC ad cy B qr s1 w0)  : Met l yX0_drawFirstBy wsX0_drawFirstBy ({ frames := 2, cells := 0, slots := 0, locals := 34 }) (va_Pc [.ref (ad 145), .int a1, .int a2, .int a3] (wpreS adK adV dC dI cy sz w0)) (va_Qv (P_X0_drawFirstBy_2 ad cy B qr s1 a1 a2 a3 w0) (fun u : va_W => wpost dC dI cy (va_A w0 sz) u) (va_A w0 sz)) 0 0 (va_A w0 sz) := by
  refine Met.ofW (cc := cX0_drawFirstBy) (maxL := 10) (ret := none) (by decide) rfl ?_
  intro p e s m args below meth c s₁ Bk hml hv
  obtain ⟨rfl, ⟨hsz, hP, hK, hD0⟩, hE, hSR⟩ := hv
  have hx := Bk.exec
  have hb := Bk.bytes
  have hr := Bk.returns
  have hlocks := Bk.notSynchronized
  have hC : CallFix p m c cX0_drawFirstBy 10 s _ wsX0_drawFirstBy RX0 := ⟨hx, hb, hml, findClass_of_methodNamed Bk.named, atoms_spec (ws := wsX0_drawFirstBy) Bk.pre⟩
  subst hsz
  have hD := hD0.self (sz := s.heap.size)
  generalize hAe : va_A w0 s.heap.size = A at hD hE ⊢
  have hA : ∀ q : Nat, s.heap.size ≤ q → A q := fun q h => by rw [← hAe]; exact Or.inr h
  have hw : Wd dC dI A s.heap s.heap [] w0 := ⟨hP, hD, va_S.rf⟩
  have hF : FE ksC [(43, 0, 1100)] w0 w0 := FE.rf
  have hl := lv_entry ([.ref (ad 145), .int a1, .int a2, .int a3]) (n := 10) (Nat.le_of_ble_eq_true rfl)
  rw [lg_entry_eq]
  generalize (lg_sl ([.ref (ad 145), .int a1, .int a2, .int a3]) ++ List.replicate (10 - (lg_sl ([.ref (ad 145), .int a1, .int a2, .int a3])).length) Slot.unset).toArray = ls at hl ⊢
  have hl : lv_has ls 10 [(0, .ref (ad 145)), (1, .int a1), (2, .int a2), (3, .int a3)] := hl
  generalize hloc : ([] : List Loc) = locs at hw ⊢
  have hinX7 : ∀ w ∈ u_ws RX7 TX7 12, w ∈ wsX0_drawFirstBy := fun _ h => List.mem_cons_of_mem _ (List.mem_append_right _ (h))
  have hinX0 : ∀ w ∈ u_ws RX0 TX0 4, w ∈ wsX0_drawFirstBy := fun _ h => List.mem_cons_of_mem _ (List.mem_append_left _ (List.mem_append_left _ (List.mem_append_right _ (h))))
  have hinX5 : ∀ w ∈ u_ws RX5 TX5 14, w ∈ wsX0_drawFirstBy := fun _ h => List.mem_cons_of_mem _ (List.mem_append_left _ (List.mem_append_right _ (h)))
  have L32 : ∀ (n32 : Nat) (v32_5 : Int32) (v32_6 : Int32) (v32_7 : Int32) (H : Heap) (locs : List Loc) (ls : Array Slot) (w1 : va_W), 0 ≤ a1.toInt → a1.toInt ≤ 10 → 0 ≤ a2.toInt → a2.toInt ≤ 11 → 0 ≤ a3.toInt → a3.toInt ≤ 1 → 0 ≤ v32_5.toInt → v32_5.toInt ≤ 9 → 0 ≤ v32_6.toInt → v32_6.toInt ≤ 9 → 0 ≤ v32_7.toInt → v32_7.toInt ≤ 10 → (10 - v32_7.toInt).toNat < n32 → Wd dC dI A s.heap H locs w1 → TW ksC ad cy B qr s1 w1 → FE ksC [(43, 0, 1100)] w0 w1 → lv_has ls 10 [(0, .ref (ad 145)), (1, .int a1), (2, .int a2), (3, .int a3), (4, .ref (ad 39)), (5, .int v32_5), (6, .int v32_6), (7, .int v32_7)] → W p l e ({ frames := 2, cells := 0, slots := 0, locals := 34 }) s m (List.toArray [.ref (ad 145), .int a1, .int a2, .int a3]) below meth c H locs 0 0 (MQ below (va_Qv (P_X0_drawFirstBy_2 ad cy B qr s1 a1 a2 a3 w0) (fun u : va_W => wpost dC dI cy A u) A) (List.toArray [.ref (ad 145), .int a1, .int a2, .int a3]) s 0 0 A) (F0 m 32 ls []) := by
    intro n32
    induction n32 with
    | zero => intro v32_5 v32_6 v32_7 H locs ls w1 r2 t3 r4 t5 r6 t7 r8 t9 r10 t11 r12 t13 hm32 hw hT hF hl; omega
    | succ n32 ih32 =>
      intro v32_5 v32_6 v32_7 H locs ls w1 r2 t3 r4 t5 r6 t7 r8 t9 r10 t11 r12 t13 hm32 hw hT hF hl
      have J102 : ∀ (v102_8 : Int32) (v102_9 : Int32) (f102_39_8 : Int32) (H : Heap) (locs : List Loc) (ls : Array Slot) (w14 : va_W), 0 ≤ a1.toInt → a1.toInt ≤ 10 → 0 ≤ a2.toInt → a2.toInt ≤ 11 → 0 ≤ a3.toInt → a3.toInt ≤ 1 → 0 ≤ v32_5.toInt → v32_5.toInt ≤ 9 → 0 ≤ v32_6.toInt → v32_6.toInt ≤ 9 → 0 ≤ v32_7.toInt → v32_7.toInt ≤ 9 → 0 ≤ v102_8.toInt → v102_8.toInt ≤ 1000000 → 0 ≤ v102_9.toInt → v102_9.toInt ≤ 1099 → 1 ≤ f102_39_8.toInt → f102_39_8.toInt ≤ 10 → Wd dC dI A s.heap H locs w14 → TW ksC ad cy B qr s1 w14 → FE ksC [(43, 0, 1100)] w0 w14 → gi w14 39 8 = f102_39_8 → lv_has ls 10 [(0, .ref (ad 145)), (1, .int a1), (2, .int a2), (3, .int a3), (4, .ref (ad 39)), (5, .int v32_5), (6, .int v32_6), (7, .int v32_7), (8, .int v102_8), (9, .int v102_9)] → W p l e ({ frames := 2, cells := 0, slots := 0, locals := 34 }) s m (List.toArray [.ref (ad 145), .int a1, .int a2, .int a3]) below meth c H locs 0 0 (MQ below (va_Qv (P_X0_drawFirstBy_2 ad cy B qr s1 a1 a2 a3 w0) (fun u : va_W => wpost dC dI cy A u) A) (List.toArray [.ref (ad 145), .int a1, .int a2, .int a3]) s 0 0 A) (F0 m 102 ls []) := by
        intro v102_8 v102_9 f102_39_8 H locs ls w14 r15 t16 r17 t18 r19 t20 r21 t22 r23 t24 r25 t26 r27 t28 r29 t30 r31 t32 hw hT hF c33 hl
        obtain ⟨x34, ex34⟩ : ∃ y : Int32, y = v32_7 + Int32.ofInt 1 := ⟨_, rfl⟩
        refine lv_iinc (v := x34) (lv' := [(7, .int x34), (0, .ref (ad 145)), (1, .int a1), (2, .int a2), (3, .int a3), (4, .ref (ad 39)), (5, .int v32_5), (6, .int v32_6), (8, .int v102_8), (9, .int v102_9)]) hx hb dX0_drawFirstBy_102 hl (k := 7) rfl ex34.symm (by decide) rfl (fun ls hl => ?_)
        have ex34 : x34.toInt = v32_7.toInt + 1 := by rw [ex34]; exact wk_add (y := 1) (show -2147483648 ≤ v32_7.toInt + 1 by omega) (show v32_7.toInt + 1 ≤ 2147483647 by omega)
        refine lv_goto (tgt := 32) hx hb dX0_drawFirstBy_105 (by decide) ?_
        exact ih32 v32_5 v32_6 x34 H locs ls w14 (show 0 ≤ a1.toInt by omega) (show a1.toInt ≤ 10 by omega) (show 0 ≤ a2.toInt by omega) (show a2.toInt ≤ 11 by omega) (show 0 ≤ a3.toInt by omega) (show a3.toInt ≤ 1 by omega) (show 0 ≤ v32_5.toInt by omega) (show v32_5.toInt ≤ 9 by omega) (show 0 ≤ v32_6.toInt by omega) (show v32_6.toInt ≤ 9 by omega) (show 0 ≤ x34.toInt by omega) (show x34.toInt ≤ 10 by omega) (show (10 - x34.toInt).toNat < n32 by omega) hw hT hF  (lv_sub hl [1, 2, 3, 4, 5, 6, 7, 0] rfl)
      refine lv_iload hx hb dX0_drawFirstBy_32 (lv_at hl 7 rfl) ?_
      refine lv_aload hx hb dX0_drawFirstBy_34 (lv_at hl 4 rfl) ?_
      refine tk_geti hC hK hw hT hinX7 kC_at39 (by decide) rfl 8 (by decide) (List.mem_of_getElem? (i := 3) rfl) rfl rfl dX0_drawFirstBy_36 (fun x35 c36 rx35 tx35 => ?_)
      refine lv_icmp_ge (tgt := 108) hx hb dX0_drawFirstBy_39 (by decide) (fun c37 => ?_) (fun c37 => ?_)
      · have c37 : x35.toInt ≤ v32_7.toInt := wk_le.mp c37
        exact tk_vret hC hr hlocks hK ⟨hT, hF, trivial⟩ hw dX0_drawFirstBy_108
      · have c37 : v32_7.toInt < x35.toInt := wk_leF c37
        refine lv_aload_n hx hb dX0_drawFirstBy_42 rfl (lv_at hl 0 rfl) ?_
        refine tk_getA hC hK hw hT hinX0 kC_at145 (by decide) rfl 1 (by decide) (List.mem_of_getElem? (i := 4) rfl) rfl rfl dX0_drawFirstBy_43 ?_
        refine lv_iload_n hx hb dX0_drawFirstBy_46 rfl (lv_at hl 1 rfl) ?_
        refine lv_iload hx hb dX0_drawFirstBy_47 (lv_at hl 6 rfl) ?_
        refine lv_iload hx hb dX0_drawFirstBy_49 (lv_at hl 7 rfl) ?_
        refine tk_Si hC hK hw hT hA hE hSR (k_X0_spot_2 l adK adV dC dI cy ad B (by omega) (by omega) qr s1   a1 (show 0 ≤ a1.toInt by omega) (show a1.toInt ≤ 10 by omega) v32_6 (show 0 ≤ v32_6.toInt by omega) (show v32_6.toInt ≤ 9 by omega) v32_7 (show 0 ≤ v32_7.toInt by omega) (show v32_7.toInt ≤ 9 by omega) w1 H.size hT ) (va_cwS 3 hC.2.2.2.2 gX0_drawFirstBy_X0_spot rfl rfl rfl (by decide +kernel) ⟨Nat.le_of_ble_eq_true rfl, Nat.le_of_ble_eq_true rfl⟩) rfl hl.1 rfl (Nat.le_of_ble_eq_true rfl) dX0_drawFirstBy_51 (fun r38 w40 H locs hp39 hw => ?_)
        obtain ⟨hT, k41, hg44⟩ := hp39
        have hF := hF.tr k41 (by decide)
        have c45 := k41.gi kC_at39 (by decide) c36
        obtain ⟨g42, g43⟩ := hg44
        refine tk_iald hC hK hw hT kC_at146 rfl rfl (show 0 ≤ r38.toInt by omega) (show r38.toInt < 1100 by omega) dX0_drawFirstBy_54 (fun x46 c47 rx46 tx46 => ?_)
        refine lv_istore (lv' := [(8, .int x46), (0, .ref (ad 145)), (1, .int a1), (2, .int a2), (3, .int a3), (4, .ref (ad 39)), (5, .int v32_5), (6, .int v32_6), (7, .int v32_7)]) hx hb dX0_drawFirstBy_55 hl (by decide) rfl (fun ls hl => ?_)
        refine lv_iload_n hx hb dX0_drawFirstBy_57 rfl (lv_at hl 2 rfl) ?_
        refine lv_iload hx hb dX0_drawFirstBy_58 (lv_at hl 6 rfl) ?_
        refine lv_iload hx hb dX0_drawFirstBy_60 (lv_at hl 8 rfl) ?_
        refine tk_Si hC hK hw hT hA hE hSR (k_X0_spot_2 l adK adV dC dI cy ad B (by omega) (by omega) qr s1   a1 (show 0 ≤ a1.toInt by omega) (show a1.toInt ≤ 10 by omega) v32_5 (show 0 ≤ v32_5.toInt by omega) (show v32_5.toInt ≤ 9 by omega) v32_7 (show 0 ≤ v32_7.toInt by omega) (show v32_7.toInt ≤ 9 by omega) w40 H.size hT ) (va_cwS 3 hC.2.2.2.2 gX0_drawFirstBy_X0_spot rfl rfl rfl (by decide +kernel) ⟨Nat.le_of_ble_eq_true rfl, Nat.le_of_ble_eq_true rfl⟩) rfl hl.1 rfl (Nat.le_of_ble_eq_true rfl) dX0_drawFirstBy_62 (fun r48 w50 H locs hp49 hw => ?_)
        obtain ⟨hT, k51, hg54⟩ := hp49
        have hF := hF.tr k51 (by decide)
        have c55 := k51.gi kC_at39 (by decide) c45
        obtain ⟨g52, g53⟩ := hg54
        refine lv_istore (lv' := [(9, .int r48), (8, .int x46), (0, .ref (ad 145)), (1, .int a1), (2, .int a2), (3, .int a3), (4, .ref (ad 39)), (5, .int v32_5), (6, .int v32_6), (7, .int v32_7)]) hx hb dX0_drawFirstBy_65 hl (by decide) rfl (fun ls hl => ?_)
        refine lv_iload hx hb dX0_drawFirstBy_67 (lv_at hl 1 rfl) ?_
        refine lv_ldc (v := 1000000) hx hb hC.2.2.2.1 (hC.2.2.2.2 _ (List.mem_of_getElem? (i := 5) rfl)) dX0_drawFirstBy_69 ?_
        refine lv_icmp_ge (tgt := 102) hx hb dX0_drawFirstBy_71 (by decide) (fun c56 => ?_) (fun c56 => ?_)
        · have c56 : (1000000 : Int) ≤ x46.toInt := wk_le.mp c56
          exact J102 x46 r48 x35 H locs ls w50 (show 0 ≤ a1.toInt by omega) (show a1.toInt ≤ 10 by omega) (show 0 ≤ a2.toInt by omega) (show a2.toInt ≤ 11 by omega) (show 0 ≤ a3.toInt by omega) (show a3.toInt ≤ 1 by omega) (show 0 ≤ v32_5.toInt by omega) (show v32_5.toInt ≤ 9 by omega) (show 0 ≤ v32_6.toInt by omega) (show v32_6.toInt ≤ 9 by omega) (show 0 ≤ v32_7.toInt by omega) (show v32_7.toInt ≤ 9 by omega) (show 0 ≤ x46.toInt by omega) (show x46.toInt ≤ 1000000 by omega) (show 0 ≤ r48.toInt by omega) (show r48.toInt ≤ 1099 by omega) (show 1 ≤ x35.toInt by omega) (show x35.toInt ≤ 10 by omega)  hw hT hF c55 (lv_sub hl [2, 3, 4, 5, 6, 7, 8, 9, 1, 0] rfl)
        · have c56 : x46.toInt < (1000000 : Int) := wk_leF c56
          refine lv_aload hx hb dX0_drawFirstBy_74 (lv_at hl 6 rfl) ?_
          refine tk_getO hC hK hw hT hinX7 kC_at39 (by decide) rfl 1 (by decide) (List.mem_of_getElem? (i := 6) rfl) rfl rfl dX0_drawFirstBy_76 ?_
          refine lv_iload_n hx hb dX0_drawFirstBy_79 rfl (lv_at hl 4 rfl) ?_
          refine tk_iald hC hK hw hT kC_at41 rfl rfl (show 0 ≤ a2.toInt by omega) (show a2.toInt < 13 by omega) dX0_drawFirstBy_80 (fun x57 c58 rx57 tx57 => ?_)
          refine lv_iload hx hb dX0_drawFirstBy_81 (lv_at hl 1 rfl) ?_
          refine lv_iadd hx hb dX0_drawFirstBy_83 ?_
          refine lv_topi (fun x59 ex59 => ?_)
          have ex59 : x59.toInt = x57.toInt + x46.toInt := by rw [ex59]; exact wk_add (show (-2147483648) ≤ x57.toInt + x46.toInt by omega) (show x57.toInt + x46.toInt ≤ 2147483647 by omega)
          refine lv_aload_n hx hb dX0_drawFirstBy_84 rfl (lv_at hl 2 rfl) ?_
          refine tk_getA hC hK hw hT hinX0 kC_at145 (by decide) rfl 1 (by decide) (List.mem_of_getElem? (i := 4) rfl) rfl rfl dX0_drawFirstBy_85 ?_
          refine lv_iload hx hb dX0_drawFirstBy_88 (lv_at hl 0 rfl) ?_
          refine tk_iald hC hK hw hT kC_at146 rfl rfl (show 0 ≤ r48.toInt by omega) (show r48.toInt < 1100 by omega) dX0_drawFirstBy_90 (fun x60 c61 rx60 tx60 => ?_)
          refine lv_icmp_ne (tgt := 102) hx hb dX0_drawFirstBy_91 (by decide) (fun c62 => ?_) (fun c62 => ?_)
          · have c62 : ¬ x59.toInt = x60.toInt := wk_eqF c62
            exact J102 x46 r48 x35 H locs ls w50 (show 0 ≤ a1.toInt by omega) (show a1.toInt ≤ 10 by omega) (show 0 ≤ a2.toInt by omega) (show a2.toInt ≤ 11 by omega) (show 0 ≤ a3.toInt by omega) (show a3.toInt ≤ 1 by omega) (show 0 ≤ v32_5.toInt by omega) (show v32_5.toInt ≤ 9 by omega) (show 0 ≤ v32_6.toInt by omega) (show v32_6.toInt ≤ 9 by omega) (show 0 ≤ v32_7.toInt by omega) (show v32_7.toInt ≤ 9 by omega) (show 0 ≤ x46.toInt by omega) (show x46.toInt ≤ 1000000 by omega) (show 0 ≤ r48.toInt by omega) (show r48.toInt ≤ 1099 by omega) (show 1 ≤ x35.toInt by omega) (show x35.toInt ≤ 10 by omega)  hw hT hF c55 (lv_sub hl [2, 3, 4, 5, 6, 7, 8, 9, 1, 0] rfl)
          · have c62 : x59.toInt = x60.toInt := wk_eq.mp c62
            refine lv_aload_n hx hb dX0_drawFirstBy_94 rfl (lv_at hl 2 rfl) ?_
            refine tk_getA hC hK hw hT hinX0 kC_at145 (by decide) rfl 2 (by decide) (List.mem_of_getElem? (i := 7) rfl) rfl rfl dX0_drawFirstBy_95 ?_
            refine lv_iload hx hb dX0_drawFirstBy_98 (lv_at hl 0 rfl) ?_
            refine lv_iload_n hx hb dX0_drawFirstBy_100 rfl (lv_at hl 4 rfl) ?_
            refine tk_iast hC hK hw hT kC_at147 (by decide) rfl rfl (show 0 ≤ r48.toInt by omega) (show r48.toInt < 1100 by omega) (show (-1) ≤ a2.toInt by omega) (show a2.toInt ≤ 11 by omega) dX0_drawFirstBy_101 (fun H locs w63 hw hT k65 c64 => ?_)
            have hF := hF.put kC_at147 (inE_of (a := 0) (b := 1100) (by decide) (show 0 ≤ r48.toInt.toNat by omega) (show r48.toInt.toNat ≤ 1100 by omega)) k65
            have c66 := k65.gi (Or.inl (tk_ne kC_at39 kC_at147 (by decide))) c55
            exact J102 x46 r48 x35 H locs ls w63 (show 0 ≤ a1.toInt by omega) (show a1.toInt ≤ 10 by omega) (show 0 ≤ a2.toInt by omega) (show a2.toInt ≤ 11 by omega) (show 0 ≤ a3.toInt by omega) (show a3.toInt ≤ 1 by omega) (show 0 ≤ v32_5.toInt by omega) (show v32_5.toInt ≤ 9 by omega) (show 0 ≤ v32_6.toInt by omega) (show v32_6.toInt ≤ 9 by omega) (show 0 ≤ v32_7.toInt by omega) (show v32_7.toInt ≤ 9 by omega) (show 0 ≤ x46.toInt by omega) (show x46.toInt ≤ 1000000 by omega) (show 0 ≤ r48.toInt by omega) (show r48.toInt ≤ 1099 by omega) (show 1 ≤ x35.toInt by omega) (show x35.toInt ≤ 10 by omega)  hw hT hF c66 (lv_sub hl [2, 3, 4, 5, 6, 7, 8, 9, 1, 0] rfl)
  refine lv_aload_n hx hb dX0_drawFirstBy_0 rfl (lv_at hl 0 rfl) ?_
  refine tk_getA hC hK hw hT hinX0 kC_at145 (by decide) rfl 0 (by decide) (List.mem_of_getElem? (i := 1) rfl) rfl rfl dX0_drawFirstBy_1 ?_
  refine tk_getO hC hK hw hT hinX5 kC_at38 (by decide) rfl 0 (by decide) (List.mem_of_getElem? (i := 2) rfl) rfl rfl dX0_drawFirstBy_4 ?_
  refine lv_astore (lv' := [(4, .ref (ad 39)), (0, .ref (ad 145)), (1, .int a1), (2, .int a2), (3, .int a3)]) hx hb dX0_drawFirstBy_7 hl (by decide) rfl (fun ls hl => ?_)
  refine lv_aload hx hb dX0_drawFirstBy_9 (lv_at hl 0 rfl) ?_
  refine lv_iload_n hx hb dX0_drawFirstBy_11 rfl (lv_at hl 3 rfl) ?_
  refine lv_iconst (v := 1) hx hb dX0_drawFirstBy_12 (by decide) ?_
  refine lv_iload_n hx hb dX0_drawFirstBy_13 rfl (lv_at hl 4 rfl) ?_
  refine lv_isub hx hb dX0_drawFirstBy_14 ?_
  refine lv_topi (fun x67 ex67 => ?_)
  have ex67 : x67.toInt = (1 : Int) - a3.toInt := by rw [ex67]; exact wk_sub (show (-2147483648) ≤ (1 : Int) - a3.toInt by omega) (show (1 : Int) - a3.toInt ≤ 2147483647 by omega)
  refine tk_Vi hC hK hw hT hA hE hSR kC_at39 (by decide) rfl (k_X7_cornerAcross_1 l adK adV dC dI cy ad B (by omega) (by omega) qr s1   a2 (show 0 ≤ a2.toInt by omega) (show a2.toInt ≤ 11 by omega) x67 (show 0 ≤ x67.toInt by omega) (show x67.toInt ≤ 1 by omega) w0 s.heap.size hT ) (cwV 2 hC.2.2.2.2 gX0_drawFirstBy_X7_cornerAcross rfl rfl rfl (by decide +kernel) ⟨Nat.le_of_ble_eq_true rfl, Nat.le_of_ble_eq_true rfl⟩) rfl hl.1 rfl (Nat.le_of_ble_eq_true rfl) dX0_drawFirstBy_15 (fun r68 w70 H locs hp69 hw => ?_)
  obtain ⟨hT, k71, hg74⟩ := hp69
  have hF := hF.tr k71 (by decide)
  obtain ⟨g72, g73⟩ := hg74
  refine lv_istore (lv' := [(5, .int r68), (4, .ref (ad 39)), (0, .ref (ad 145)), (1, .int a1), (2, .int a2), (3, .int a3)]) hx hb dX0_drawFirstBy_18 hl (by decide) rfl (fun ls hl => ?_)
  refine lv_aload hx hb dX0_drawFirstBy_20 (lv_at hl 1 rfl) ?_
  refine lv_iload_n hx hb dX0_drawFirstBy_22 rfl (lv_at hl 4 rfl) ?_
  refine lv_iload_n hx hb dX0_drawFirstBy_23 rfl (lv_at hl 5 rfl) ?_
  refine tk_Vi hC hK hw hT hA hE hSR kC_at39 (by decide) rfl (k_X7_cornerAcross_1 l adK adV dC dI cy ad B (by omega) (by omega) qr s1   a2 (show 0 ≤ a2.toInt by omega) (show a2.toInt ≤ 11 by omega) a3 (show 0 ≤ a3.toInt by omega) (show a3.toInt ≤ 1 by omega) w70 H.size hT ) (cwV 2 hC.2.2.2.2 gX0_drawFirstBy_X7_cornerAcross rfl rfl rfl (by decide +kernel) ⟨Nat.le_of_ble_eq_true rfl, Nat.le_of_ble_eq_true rfl⟩) rfl hl.1 rfl (Nat.le_of_ble_eq_true rfl) dX0_drawFirstBy_24 (fun r75 w77 H locs hp76 hw => ?_)
  obtain ⟨hT, k78, hg81⟩ := hp76
  have hF := hF.tr k78 (by decide)
  obtain ⟨g79, g80⟩ := hg81
  refine lv_istore (lv' := [(6, .int r75), (5, .int r68), (4, .ref (ad 39)), (0, .ref (ad 145)), (1, .int a1), (2, .int a2), (3, .int a3)]) hx hb dX0_drawFirstBy_27 hl (by decide) rfl (fun ls hl => ?_)
  refine lv_iconst (v := 0) hx hb dX0_drawFirstBy_29 (by decide) ?_
  refine lv_istore (lv' := [(7, .int 0), (6, .int r75), (5, .int r68), (4, .ref (ad 39)), (0, .ref (ad 145)), (1, .int a1), (2, .int a2), (3, .int a3)]) hx hb dX0_drawFirstBy_30 hl (by decide) rfl (fun ls hl => ?_)
  exact L32 ((10 - (0 : Int)).toNat + 1) r68 r75 0 H locs ls w77 (show 0 ≤ a1.toInt by omega) (show a1.toInt ≤ 10 by omega) (show 0 ≤ a2.toInt by omega) (show a2.toInt ≤ 11 by omega) (show 0 ≤ a3.toInt by omega) (show a3.toInt ≤ 1 by omega) (show 0 ≤ r68.toInt by omega) (show r68.toInt ≤ 9 by omega) (show 0 ≤ r75.toInt by omega) (show r75.toInt ≤ 9 by omega) (by decide) (by decide) (Nat.lt_succ_self _) hw hT hF  (lv_sub hl [4, 5, 6, 7, 3, 2, 1, 0] rfl)
abbrev P_X0_drawFirst_2 (ad : Nat → Nat) (cy : Nat → ClassId) (B : Int) (qr : Nat) (s1 : Int) (a1 : Int32) (w0 : va_W) : va_W → Prop := fun u => TW ksC ad cy B qr s1 u ∧ FE ksC [(43, 0, 1100)] w0 u ∧ ((True))
set_option maxHeartbeats 4000000 in
set_option maxRecDepth 100000 in
theorem k_X0_drawFirst_2 (l : Launch) (adK adV : Nat → Nat) (dC : Nat → ClassId) (dI : Nat → Nat → Nat) (cy : Nat → ClassId) (ad : Nat → Nat) (B : Int) (hB0 : 2147483648 ≤ B) (hB1 : B ≤ 1152921504606846976) (qr : Nat) (s1 : Int)  (a1 : Int32) (ra1 : 0 ≤ a1.toInt) (ta1 : a1.toInt ≤ 10) (w0 : va_W) (sz : Nat) (hT : TW ksC ad cy B qr s1 w0)  : Met l yX0_drawFirst wsX0_drawFirst ({ frames := 3, cells := 0, slots := 0, locals := 63 }) (va_Pc [.ref (ad 145), .int a1] (wpreS adK adV dC dI cy sz w0)) (va_Qv (P_X0_drawFirst_2 ad cy B qr s1 a1 w0) (fun u : va_W => wpost dC dI cy (va_A w0 sz) u) (va_A w0 sz)) 0 0 (va_A w0 sz) := by
  refine Met.ofW (cc := cX0_drawFirst) (maxL := 6) (ret := none) (by decide) rfl ?_
  intro p e s m args below meth c s₁ Bk hml hv
  obtain ⟨rfl, ⟨hsz, hP, hK, hD0⟩, hE, hSR⟩ := hv
  have hx := Bk.exec
  have hb := Bk.bytes
  have hr := Bk.returns
  have hlocks := Bk.notSynchronized
  have hC : CallFix p m c cX0_drawFirst 6 s _ wsX0_drawFirst RX0 := ⟨hx, hb, hml, findClass_of_methodNamed Bk.named, atoms_spec (ws := wsX0_drawFirst) Bk.pre⟩
  subst hsz
  have hD := hD0.self (sz := s.heap.size)
  generalize hAe : va_A w0 s.heap.size = A at hD hE ⊢
  have hA : ∀ q : Nat, s.heap.size ≤ q → A q := fun q h => by rw [← hAe]; exact Or.inr h
  have hw : Wd dC dI A s.heap s.heap [] w0 := ⟨hP, hD, va_S.rf⟩
  have hF : FE ksC [(43, 0, 1100)] w0 w0 := FE.rf
  have hl := lv_entry ([.ref (ad 145), .int a1]) (n := 6) (Nat.le_of_ble_eq_true rfl)
  rw [lg_entry_eq]
  generalize (lg_sl ([.ref (ad 145), .int a1]) ++ List.replicate (6 - (lg_sl ([.ref (ad 145), .int a1])).length) Slot.unset).toArray = ls at hl ⊢
  have hl : lv_has ls 6 [(0, .ref (ad 145)), (1, .int a1)] := hl
  generalize hloc : ([] : List Loc) = locs at hw ⊢
  have hinX0 : ∀ w ∈ u_ws RX0 TX0 4, w ∈ wsX0_drawFirst := fun _ h => List.mem_cons_of_mem _ (List.mem_append_left _ (List.mem_append_left _ (List.mem_append_right _ (h))))
  have hinX5 : ∀ w ∈ u_ws RX5 TX5 14, w ∈ wsX0_drawFirst := fun _ h => List.mem_cons_of_mem _ (List.mem_append_left _ (List.mem_append_right _ (h)))
  have hinX7 : ∀ w ∈ u_ws RX7 TX7 12, w ∈ wsX0_drawFirst := fun _ h => List.mem_cons_of_mem _ (List.mem_append_right _ (h))
  have L15 : ∀ (n15 : Nat) (v15_3 : Int32) (f15_39_9 : Int32) (H : Heap) (locs : List Loc) (ls : Array Slot) (w1 : va_W), 0 ≤ a1.toInt → a1.toInt ≤ 10 → (-1) ≤ v15_3.toInt → v15_3.toInt ≤ 11 → 0 ≤ f15_39_9.toInt → f15_39_9.toInt ≤ 12 → (v15_3.toInt - (-1)).toNat < n15 → Wd dC dI A s.heap H locs w1 → TW ksC ad cy B qr s1 w1 → FE ksC [(43, 0, 1100)] w0 w1 → gi w1 39 9 = f15_39_9 → lv_has ls 6 [(0, .ref (ad 145)), (1, .int a1), (2, .ref (ad 39)), (3, .int v15_3)] → W p l e ({ frames := 3, cells := 0, slots := 0, locals := 63 }) s m (List.toArray [.ref (ad 145), .int a1]) below meth c H locs 0 0 (MQ below (va_Qv (P_X0_drawFirst_2 ad cy B qr s1 a1 w0) (fun u : va_W => wpost dC dI cy A u) A) (List.toArray [.ref (ad 145), .int a1]) s 0 0 A) (F0 m 15 ls []) := by
    intro n15
    induction n15 with
    | zero => intro v15_3 f15_39_9 H locs ls w1 r2 t3 r4 t5 r6 t7 hm15 hw hT hF c8 hl; omega
    | succ n15 ih15 =>
      intro v15_3 f15_39_9 H locs ls w1 r2 t3 r4 t5 r6 t7 hm15 hw hT hF c8 hl
      have L30 : ∀ (n30 : Nat) (v30_4 : Int32) (v30_5 : Int32) (H : Heap) (locs : List Loc) (ls : Array Slot) (w9 : va_W), 0 ≤ a1.toInt → a1.toInt ≤ 10 → 0 ≤ v15_3.toInt → v15_3.toInt ≤ 11 → 0 ≤ v30_5.toInt → v30_5.toInt ≤ 2 → 0 ≤ f15_39_9.toInt → f15_39_9.toInt ≤ 12 → (2 - v30_5.toInt).toNat < n30 → Wd dC dI A s.heap H locs w9 → TW ksC ad cy B qr s1 w9 → FE ksC [(43, 0, 1100)] w0 w9 → gi w9 39 9 = f15_39_9 → lv_has ls 6 [(0, .ref (ad 145)), (1, .int a1), (2, .ref (ad 39)), (3, .int v15_3), (4, .int v30_4), (5, .int v30_5)] → W p l e ({ frames := 3, cells := 0, slots := 0, locals := 63 }) s m (List.toArray [.ref (ad 145), .int a1]) below meth c H locs 0 0 (MQ below (va_Qv (P_X0_drawFirst_2 ad cy B qr s1 a1 w0) (fun u : va_W => wpost dC dI cy A u) A) (List.toArray [.ref (ad 145), .int a1]) s 0 0 A) (F0 m 30 ls []) := by
        intro n30
        induction n30 with
        | zero => intro v30_4 v30_5 H locs ls w9 r10 t11 r12 t13 r14 t15 r16 t17 hm30 hw hT hF c18 hl; omega
        | succ n30 ih30 =>
          intro v30_4 v30_5 H locs ls w9 r10 t11 r12 t13 r14 t15 r16 t17 hm30 hw hT hF c18 hl
          have J54 : ∀ (H : Heap) (locs : List Loc) (ls : Array Slot) (w19 : va_W), 0 ≤ a1.toInt → a1.toInt ≤ 10 → 0 ≤ v15_3.toInt → v15_3.toInt ≤ 11 → 0 ≤ v30_5.toInt → v30_5.toInt ≤ 1 → 0 ≤ f15_39_9.toInt → f15_39_9.toInt ≤ 12 → Wd dC dI A s.heap H locs w19 → TW ksC ad cy B qr s1 w19 → FE ksC [(43, 0, 1100)] w0 w19 → gi w19 39 9 = f15_39_9 → lv_has ls 6 [(0, .ref (ad 145)), (1, .int a1), (2, .ref (ad 39)), (3, .int v15_3), (4, .int v30_4), (5, .int v30_5)] → W p l e ({ frames := 3, cells := 0, slots := 0, locals := 63 }) s m (List.toArray [.ref (ad 145), .int a1]) below meth c H locs 0 0 (MQ below (va_Qv (P_X0_drawFirst_2 ad cy B qr s1 a1 w0) (fun u : va_W => wpost dC dI cy A u) A) (List.toArray [.ref (ad 145), .int a1]) s 0 0 A) (F0 m 54 ls []) := by
            intro H locs ls w19 r20 t21 r22 t23 r24 t25 r26 t27 hw hT hF c28 hl
            obtain ⟨x29, ex29⟩ : ∃ y : Int32, y = v30_5 + Int32.ofInt 1 := ⟨_, rfl⟩
            refine lv_iinc (v := x29) (lv' := [(5, .int x29), (0, .ref (ad 145)), (1, .int a1), (2, .ref (ad 39)), (3, .int v15_3), (4, .int v30_4)]) hx hb dX0_drawFirst_54 hl (k := 5) rfl ex29.symm (by decide) rfl (fun ls hl => ?_)
            have ex29 : x29.toInt = v30_5.toInt + 1 := by rw [ex29]; exact wk_add (y := 1) (show -2147483648 ≤ v30_5.toInt + 1 by omega) (show v30_5.toInt + 1 ≤ 2147483647 by omega)
            refine lv_goto (tgt := 30) hx hb dX0_drawFirst_57 (by decide) ?_
            exact ih30 v30_4 x29 H locs ls w19 (show 0 ≤ a1.toInt by omega) (show a1.toInt ≤ 10 by omega) (show 0 ≤ v15_3.toInt by omega) (show v15_3.toInt ≤ 11 by omega) (show 0 ≤ x29.toInt by omega) (show x29.toInt ≤ 2 by omega) (show 0 ≤ f15_39_9.toInt by omega) (show f15_39_9.toInt ≤ 12 by omega) (show (2 - x29.toInt).toNat < n30 by omega) hw hT hF c28 (lv_sub hl [1, 2, 3, 4, 5, 0] rfl)
          refine lv_iload hx hb dX0_drawFirst_30 (lv_at hl 5 rfl) ?_
          refine lv_iconst (v := 2) hx hb dX0_drawFirst_32 (by decide) ?_
          refine lv_icmp_ge (tgt := 60) hx hb dX0_drawFirst_33 (by decide) (fun c30 => ?_) (fun c30 => ?_)
          · have c30 : (2 : Int) ≤ v30_5.toInt := wk_le.mp c30
            obtain ⟨x31, ex31⟩ : ∃ y : Int32, y = v15_3 + Int32.ofInt (-1) := ⟨_, rfl⟩
            refine lv_iinc (v := x31) (lv' := [(3, .int x31), (0, .ref (ad 145)), (1, .int a1), (2, .ref (ad 39)), (4, .int v30_4), (5, .int v30_5)]) hx hb dX0_drawFirst_60 hl (k := 3) rfl ex31.symm (by decide) rfl (fun ls hl => ?_)
            have ex31 : x31.toInt = v15_3.toInt + (-1) := by rw [ex31]; exact wk_add (y := (-1)) (show -2147483648 ≤ v15_3.toInt + (-1) by omega) (show v15_3.toInt + (-1) ≤ 2147483647 by omega)
            refine lv_goto (tgt := 15) hx hb dX0_drawFirst_63 (by decide) ?_
            exact ih15 x31 f15_39_9 H locs ls w9 (show 0 ≤ a1.toInt by omega) (show a1.toInt ≤ 10 by omega) (show (-1) ≤ x31.toInt by omega) (show x31.toInt ≤ 11 by omega) (show 0 ≤ f15_39_9.toInt by omega) (show f15_39_9.toInt ≤ 12 by omega) (show (x31.toInt - (-1)).toNat < n15 by omega) hw hT hF c18 (lv_sub hl [1, 2, 3, 0] rfl)
          · have c30 : v30_5.toInt < (2 : Int) := wk_leF c30
            refine lv_iload hx hb dX0_drawFirst_36 (lv_at hl 4 rfl) ?_
            refine lv_iload hx hb dX0_drawFirst_38 (lv_at hl 5 rfl) ?_
            refine lv_ishr hx hb dX0_drawFirst_40 ?_
            refine lv_topi (fun x32 ex32 => ?_)
            refine lv_iconst (v := 1) hx hb dX0_drawFirst_41 (by decide) ?_
            refine lv_iand hx hb dX0_drawFirst_42 ?_
            refine lv_topi (fun x33 ex33 => ?_)
            have bx33 : 0 ≤ x33.toInt ∧ x33.toInt ≤ (1 : Int) := by rw [ex33]; exact wk_and (by decide)
            refine lv_if_eq (tgt := 54) hx hb dX0_drawFirst_43 (by decide) (fun c34 => ?_) (fun c34 => ?_)
            · have c34 : x33.toInt = (0 : Int) := wk_eq.mp c34
              exact J54  H locs ls w9 (show 0 ≤ a1.toInt by omega) (show a1.toInt ≤ 10 by omega) (show 0 ≤ v15_3.toInt by omega) (show v15_3.toInt ≤ 11 by omega) (show 0 ≤ v30_5.toInt by omega) (show v30_5.toInt ≤ 1 by omega) (show 0 ≤ f15_39_9.toInt by omega) (show f15_39_9.toInt ≤ 12 by omega)  hw hT hF c18 (lv_sub hl [0, 1, 2, 3, 4, 5] rfl)
            · have c34 : ¬ x33.toInt = (0 : Int) := wk_eqF c34
              refine lv_aload_n hx hb dX0_drawFirst_46 rfl (lv_at hl 0 rfl) ?_
              refine lv_iload_n hx hb dX0_drawFirst_47 rfl (lv_at hl 1 rfl) ?_
              refine lv_iload_n hx hb dX0_drawFirst_48 rfl (lv_at hl 3 rfl) ?_
              refine lv_iload hx hb dX0_drawFirst_49 (lv_at hl 5 rfl) ?_
              refine tk_Vv hC hK hw hT hA hE hSR kC_at145 (by decide) rfl (k_X0_drawFirstBy_2 l adK adV dC dI cy ad B (by omega) (by omega) qr s1   a1 (show 0 ≤ a1.toInt by omega) (show a1.toInt ≤ 10 by omega) v15_3 (show 0 ≤ v15_3.toInt by omega) (show v15_3.toInt ≤ 11 by omega) v30_5 (show 0 ≤ v30_5.toInt by omega) (show v30_5.toInt ≤ 1 by omega) w9 H.size hT ) (cwV 3 hC.2.2.2.2 gX0_drawFirst_X0_drawFirstBy rfl rfl rfl (by decide +kernel) ⟨Nat.le_of_ble_eq_true rfl, Nat.le_of_ble_eq_true rfl⟩) rfl hl.1 rfl (Nat.le_of_ble_eq_true rfl) dX0_drawFirst_51 (fun w37 H locs hp36 hw => ?_)
              obtain ⟨hT, k38, hg39⟩ := hp36
              have hF := hF.tr k38 (by decide)
              have c40 := k38.gi kC_at39 (by decide) c18
              clear hg39
              exact J54  H locs ls w37 (show 0 ≤ a1.toInt by omega) (show a1.toInt ≤ 10 by omega) (show 0 ≤ v15_3.toInt by omega) (show v15_3.toInt ≤ 11 by omega) (show 0 ≤ v30_5.toInt by omega) (show v30_5.toInt ≤ 1 by omega) (show 0 ≤ f15_39_9.toInt by omega) (show f15_39_9.toInt ≤ 12 by omega)  hw hT hF c40 (lv_sub hl [0, 1, 2, 3, 4, 5] rfl)
      refine lv_iload_n hx hb dX0_drawFirst_15 rfl (lv_at hl 3 rfl) ?_
      refine lv_if_lt (tgt := 66) hx hb dX0_drawFirst_16 (by decide) (fun c41 => ?_) (fun c41 => ?_)
      · have c41 : v15_3.toInt < (0 : Int) := wk_lt.mp c41
        exact tk_vret hC hr hlocks hK ⟨hT, hF, trivial⟩ hw dX0_drawFirst_66
      · have c41 : (0 : Int) ≤ v15_3.toInt := wk_ltF c41
        refine lv_aload_n hx hb dX0_drawFirst_19 rfl (lv_at hl 0 rfl) ?_
        refine lv_iload_n hx hb dX0_drawFirst_20 rfl (lv_at hl 1 rfl) ?_
        refine lv_iload_n hx hb dX0_drawFirst_21 rfl (lv_at hl 3 rfl) ?_
        refine tk_Vi hC hK hw hT hA hE hSR kC_at145 (by decide) rfl (k_X0_signOf_2 l adK adV dC dI cy ad B (by omega) (by omega) qr s1   a1 (show 0 ≤ a1.toInt by omega) (show a1.toInt ≤ 10 by omega) v15_3 (show 0 ≤ v15_3.toInt by omega) (show v15_3.toInt ≤ 11 by omega) w1 H.size hT ) (cwV 2 hC.2.2.2.2 gX0_drawFirst_X0_signOf rfl rfl rfl (by decide +kernel) ⟨Nat.le_of_ble_eq_true rfl, Nat.le_of_ble_eq_true rfl⟩) rfl hl.1 rfl (Nat.le_of_ble_eq_true rfl) dX0_drawFirst_22 (fun r42 w44 H locs hp43 hw => ?_)
        obtain ⟨hT, k45, hg50⟩ := hp43
        have hF := hF.tr k45 (by decide)
        have c51 := k45.gi kC_at39 (by decide) c8
        rcases hg50 with g46 | ⟨g47, g48, g49⟩
        · refine lv_istore (lv' := [(4, .int r42), (0, .ref (ad 145)), (1, .int a1), (2, .ref (ad 39)), (3, .int v15_3)]) hx hb dX0_drawFirst_25 hl (by decide) rfl (fun ls hl => ?_)
          refine lv_iconst (v := 0) hx hb dX0_drawFirst_27 (by decide) ?_
          refine lv_istore (lv' := [(5, .int 0), (4, .int r42), (0, .ref (ad 145)), (1, .int a1), (2, .ref (ad 39)), (3, .int v15_3)]) hx hb dX0_drawFirst_28 hl (by decide) rfl (fun ls hl => ?_)
          exact L30 ((2 - (0 : Int)).toNat + 1) r42 0 H locs ls w44 (show 0 ≤ a1.toInt by omega) (show a1.toInt ≤ 10 by omega) (show 0 ≤ v15_3.toInt by omega) (show v15_3.toInt ≤ 11 by omega) (by decide) (by decide) (show 0 ≤ f15_39_9.toInt by omega) (show f15_39_9.toInt ≤ 12 by omega) (Nat.lt_succ_self _) hw hT hF c51 (lv_sub hl [2, 3, 4, 5, 1, 0] rfl)
        · refine lv_istore (lv' := [(4, .int r42), (0, .ref (ad 145)), (1, .int a1), (2, .ref (ad 39)), (3, .int v15_3)]) hx hb dX0_drawFirst_25 hl (by decide) rfl (fun ls hl => ?_)
          refine lv_iconst (v := 0) hx hb dX0_drawFirst_27 (by decide) ?_
          refine lv_istore (lv' := [(5, .int 0), (4, .int r42), (0, .ref (ad 145)), (1, .int a1), (2, .ref (ad 39)), (3, .int v15_3)]) hx hb dX0_drawFirst_28 hl (by decide) rfl (fun ls hl => ?_)
          exact L30 ((2 - (0 : Int)).toNat + 1) r42 0 H locs ls w44 (show 0 ≤ a1.toInt by omega) (show a1.toInt ≤ 10 by omega) (show 0 ≤ v15_3.toInt by omega) (show v15_3.toInt ≤ 11 by omega) (by decide) (by decide) (show 0 ≤ f15_39_9.toInt by omega) (show f15_39_9.toInt ≤ 12 by omega) (Nat.lt_succ_self _) hw hT hF c51 (lv_sub hl [2, 3, 4, 5, 1, 0] rfl)
  refine lv_aload_n hx hb dX0_drawFirst_0 rfl (lv_at hl 0 rfl) ?_
  refine tk_getA hC hK hw hT hinX0 kC_at145 (by decide) rfl 0 (by decide) (List.mem_of_getElem? (i := 1) rfl) rfl rfl dX0_drawFirst_1 ?_
  refine tk_getO hC hK hw hT hinX5 kC_at38 (by decide) rfl 0 (by decide) (List.mem_of_getElem? (i := 2) rfl) rfl rfl dX0_drawFirst_4 ?_
  refine lv_astore_n (lv' := [(2, .ref (ad 39)), (0, .ref (ad 145)), (1, .int a1)]) hx hb dX0_drawFirst_7 rfl hl (by decide) rfl (fun ls hl => ?_)
  refine lv_aload_n hx hb dX0_drawFirst_8 rfl (lv_at hl 0 rfl) ?_
  refine tk_geti hC hK hw hT hinX7 kC_at39 (by decide) rfl 9 (by decide) (List.mem_of_getElem? (i := 3) rfl) rfl rfl dX0_drawFirst_9 (fun x52 c53 rx52 tx52 => ?_)
  refine lv_iconst (v := 1) hx hb dX0_drawFirst_12 (by decide) ?_
  refine lv_isub hx hb dX0_drawFirst_13 ?_
  refine lv_topi (fun x54 ex54 => ?_)
  have ex54 : x54.toInt = x52.toInt - (1 : Int) := by rw [ex54]; exact wk_sub (show (-2147483648) ≤ x52.toInt - (1 : Int) by omega) (show x52.toInt - (1 : Int) ≤ 2147483647 by omega)
  refine lv_istore_n (lv' := [(3, .int x54), (2, .ref (ad 39)), (0, .ref (ad 145)), (1, .int a1)]) hx hb dX0_drawFirst_14 rfl hl (by decide) rfl (fun ls hl => ?_)
  exact L15 ((x54.toInt - (-1)).toNat + 1) x54 x52 s.heap locs ls w0 (show 0 ≤ a1.toInt by omega) (show a1.toInt ≤ 10 by omega) (show (-1) ≤ x54.toInt by omega) (show x54.toInt ≤ 11 by omega) (show 0 ≤ x52.toInt by omega) (show x52.toInt ≤ 12 by omega) (Nat.lt_succ_self _) hw hT hF c53 (lv_sub hl [2, 3, 1, 0] rfl)
abbrev P_X0_refresh_2 (ad : Nat → Nat) (cy : Nat → ClassId) (B : Int) (qr : Nat) (s1 : Int) (a1 : Int32) (w0 : va_W) : va_W → Prop := fun u => TW ksC ad cy B qr s1 u ∧ FE ksC [(42, 0, 1100), (43, 0, 1100), (44, 0, 11)] w0 u ∧ ((True))
set_option maxHeartbeats 4000000 in
set_option maxRecDepth 100000 in
theorem k_X0_refresh_2 (l : Launch) (adK adV : Nat → Nat) (dC : Nat → ClassId) (dI : Nat → Nat → Nat) (cy : Nat → ClassId) (ad : Nat → Nat) (B : Int) (hB0 : 2147483648 ≤ B) (hB1 : B ≤ 1152921504606846976) (qr : Nat) (s1 : Int)  (a1 : Int32) (ra1 : 0 ≤ a1.toInt) (ta1 : a1.toInt ≤ 10) (w0 : va_W) (sz : Nat) (hT : TW ksC ad cy B qr s1 w0)  : Met l yX0_refresh wsX0_refresh ({ frames := 4, cells := 0, slots := 0, locals := 88 }) (va_Pc [.ref (ad 145), .int a1] (wpreS adK adV dC dI cy sz w0)) (va_Qv (P_X0_refresh_2 ad cy B qr s1 a1 w0) (fun u : va_W => wpost dC dI cy (va_A w0 sz) u) (va_A w0 sz)) 0 0 (va_A w0 sz) := by
  refine Met.ofW (cc := cX0_refresh) (maxL := 2) (ret := none) (by decide) rfl ?_
  intro p e s m args below meth c s₁ Bk hml hv
  obtain ⟨rfl, ⟨hsz, hP, hK, hD0⟩, hE, hSR⟩ := hv
  have hx := Bk.exec
  have hb := Bk.bytes
  have hr := Bk.returns
  have hlocks := Bk.notSynchronized
  have hC : CallFix p m c cX0_refresh 2 s _ wsX0_refresh RX0 := ⟨hx, hb, hml, findClass_of_methodNamed Bk.named, atoms_spec (ws := wsX0_refresh) Bk.pre⟩
  subst hsz
  have hD := hD0.self (sz := s.heap.size)
  generalize hAe : va_A w0 s.heap.size = A at hD hE ⊢
  have hA : ∀ q : Nat, s.heap.size ≤ q → A q := fun q h => by rw [← hAe]; exact Or.inr h
  have hw : Wd dC dI A s.heap s.heap [] w0 := ⟨hP, hD, va_S.rf⟩
  have hF : FE ksC [(42, 0, 1100), (43, 0, 1100), (44, 0, 11)] w0 w0 := FE.rf
  have hl := lv_entry ([.ref (ad 145), .int a1]) (n := 2) (Nat.le_of_ble_eq_true rfl)
  rw [lg_entry_eq]
  generalize (lg_sl ([.ref (ad 145), .int a1]) ++ List.replicate (2 - (lg_sl ([.ref (ad 145), .int a1])).length) Slot.unset).toArray = ls at hl ⊢
  have hl : lv_has ls 2 [(0, .ref (ad 145)), (1, .int a1)] := hl
  generalize hloc : ([] : List Loc) = locs at hw ⊢
  have hinX0 : ∀ w ∈ u_ws RX0 TX0 4, w ∈ wsX0_refresh := fun _ h => List.mem_cons_of_mem _ (List.mem_append_left _ (List.mem_append_left _ (List.mem_append_right _ (h))))
  have J31 : ∀ (H : Heap) (locs : List Loc) (ls : Array Slot) (w1 : va_W), 0 ≤ a1.toInt → a1.toInt ≤ 10 → Wd dC dI A s.heap H locs w1 → TW ksC ad cy B qr s1 w1 → FE ksC [(42, 0, 1100), (43, 0, 1100), (44, 0, 11)] w0 w1 → lv_has ls 2 [(0, .ref (ad 145)), (1, .int a1)] → W p l e ({ frames := 4, cells := 0, slots := 0, locals := 88 }) s m (List.toArray [.ref (ad 145), .int a1]) below meth c H locs 0 0 (MQ below (va_Qv (P_X0_refresh_2 ad cy B qr s1 a1 w0) (fun u : va_W => wpost dC dI cy A u) A) (List.toArray [.ref (ad 145), .int a1]) s 0 0 A) (F0 m 31 ls []) := by
    intro H locs ls w1 r2 t3 hw hT hF hl
    exact tk_vret hC hr hlocks hK ⟨hT, hF, trivial⟩ hw dX0_refresh_31
  refine lv_aload_n hx hb dX0_refresh_0 rfl (lv_at hl 0 rfl) ?_
  refine tk_getA hC hK hw hT hinX0 kC_at145 (by decide) rfl 3 (by decide) (List.mem_of_getElem? (i := 1) rfl) rfl rfl dX0_refresh_1 ?_
  refine lv_iload_n hx hb dX0_refresh_4 rfl (lv_at hl 1 rfl) ?_
  refine tk_zald hC hK hw hT kC_at148 rfl rfl (show 0 ≤ a1.toInt by omega) (show a1.toInt < 11 by omega) dX0_refresh_5 (fun x4 c5 rx4 tx4 => ?_)
  refine lv_if_ne (tgt := 31) hx hb dX0_refresh_6 (by decide) (fun c6 => ?_) (fun c6 => ?_)
  · have c6 : ¬ x4.toInt = (0 : Int) := wk_eqF c6
    exact J31  s.heap locs ls w0 (show 0 ≤ a1.toInt by omega) (show a1.toInt ≤ 10 by omega)  hw hT hF  (lv_sub hl [0, 1] rfl)
  · have c6 : x4.toInt = (0 : Int) := wk_eq.mp c6
    refine lv_aload_n hx hb dX0_refresh_9 rfl (lv_at hl 0 rfl) ?_
    refine lv_iload_n hx hb dX0_refresh_10 rfl (lv_at hl 1 rfl) ?_
    refine tk_Vv hC hK hw hT hA hE hSR kC_at145 (by decide) rfl (k_X0_drawStreets_2 l adK adV dC dI cy ad B (by omega) (by omega) qr s1   a1 (show 0 ≤ a1.toInt by omega) (show a1.toInt ≤ 10 by omega) w0 s.heap.size hT ) (cwV 1 hC.2.2.2.2 gX0_refresh_X0_drawStreets rfl rfl rfl (by decide +kernel) ⟨Nat.le_of_ble_eq_true rfl, Nat.le_of_ble_eq_true rfl⟩) rfl hl.1 rfl (Nat.le_of_ble_eq_true rfl) dX0_refresh_11 (fun w9 H locs hp8 hw => ?_)
    obtain ⟨hT, k10, hg11⟩ := hp8
    have hF := hF.tr k10 (by decide)
    clear hg11
    refine lv_aload_n hx hb dX0_refresh_14 rfl (lv_at hl 0 rfl) ?_
    refine lv_iload_n hx hb dX0_refresh_15 rfl (lv_at hl 1 rfl) ?_
    refine tk_Vv hC hK hw hT hA hE hSR kC_at145 (by decide) rfl (k_X0_drawHours_2 l adK adV dC dI cy ad B (by omega) (by omega) qr s1   a1 (show 0 ≤ a1.toInt by omega) (show a1.toInt ≤ 10 by omega) w9 H.size hT ) (cwV 1 hC.2.2.2.2 gX0_refresh_X0_drawHours rfl rfl rfl (by decide +kernel) ⟨Nat.le_of_ble_eq_true rfl, Nat.le_of_ble_eq_true rfl⟩) rfl hl.1 rfl (Nat.le_of_ble_eq_true rfl) dX0_refresh_16 (fun w14 H locs hp13 hw => ?_)
    obtain ⟨hT, k15, hg16⟩ := hp13
    have hF := hF.tr k15 (by decide)
    clear hg16
    refine lv_aload_n hx hb dX0_refresh_19 rfl (lv_at hl 0 rfl) ?_
    refine lv_iload_n hx hb dX0_refresh_20 rfl (lv_at hl 1 rfl) ?_
    refine tk_Vv hC hK hw hT hA hE hSR kC_at145 (by decide) rfl (k_X0_drawFirst_2 l adK adV dC dI cy ad B (by omega) (by omega) qr s1   a1 (show 0 ≤ a1.toInt by omega) (show a1.toInt ≤ 10 by omega) w14 H.size hT ) (cwV 1 hC.2.2.2.2 gX0_refresh_X0_drawFirst rfl rfl rfl (by decide +kernel) ⟨Nat.le_of_ble_eq_true rfl, Nat.le_of_ble_eq_true rfl⟩) rfl hl.1 rfl (Nat.le_of_ble_eq_true rfl) dX0_refresh_21 (fun w19 H locs hp18 hw => ?_)
    obtain ⟨hT, k20, hg21⟩ := hp18
    have hF := hF.tr k20 (by decide)
    clear hg21
    refine lv_aload_n hx hb dX0_refresh_24 rfl (lv_at hl 0 rfl) ?_
    refine tk_getA hC hK hw hT hinX0 kC_at145 (by decide) rfl 3 (by decide) (List.mem_of_getElem? (i := 1) rfl) rfl rfl dX0_refresh_25 ?_
    refine lv_iload_n hx hb dX0_refresh_28 rfl (lv_at hl 1 rfl) ?_
    refine lv_iconst (v := 1) hx hb dX0_refresh_29 (by decide) ?_
    refine tk_zast hC hK hw hT kC_at148 (by decide) rfl rfl (show 0 ≤ a1.toInt by omega) (show a1.toInt < 11 by omega) (by decide) (by decide) dX0_refresh_30 (fun H locs w22 hw hT k24 c23 => ?_)
    have hF := hF.put kC_at148 (inE_of (a := 0) (b := 11) (by decide) (show 0 ≤ a1.toInt.toNat by omega) (show a1.toInt.toNat ≤ 11 by omega)) k24
    exact J31  H locs ls w22 (show 0 ≤ a1.toInt by omega) (show a1.toInt ≤ 10 by omega)  hw hT hF  (lv_sub hl [0, 1] rfl)
abbrev P_X0_refreshAll_1 (ad : Nat → Nat) (cy : Nat → ClassId) (B : Int) (qr : Nat) (s1 : Int)  (w0 : va_W) : va_W → Prop := fun u => TW ksC ad cy B qr s1 u ∧ FE ksC [(42, 0, 1100), (43, 0, 1100), (44, 0, 11)] w0 u ∧ ((True))
set_option maxHeartbeats 4000000 in
set_option maxRecDepth 100000 in
theorem k_X0_refreshAll_1 (l : Launch) (adK adV : Nat → Nat) (dC : Nat → ClassId) (dI : Nat → Nat → Nat) (cy : Nat → ClassId) (ad : Nat → Nat) (B : Int) (hB0 : 2147483648 ≤ B) (hB1 : B ≤ 1152921504606846976) (qr : Nat) (s1 : Int)   (w0 : va_W) (sz : Nat) (hT : TW ksC ad cy B qr s1 w0)  : Met l yX0_refreshAll wsX0_refreshAll ({ frames := 5, cells := 0, slots := 0, locals := 109 }) (va_Pc [.ref (ad 145)] (wpreS adK adV dC dI cy sz w0)) (va_Qv (P_X0_refreshAll_1 ad cy B qr s1  w0) (fun u : va_W => wpost dC dI cy (va_A w0 sz) u) (va_A w0 sz)) 0 0 (va_A w0 sz) := by
  refine Met.ofW (cc := cX0_refreshAll) (maxL := 2) (ret := none) (by decide) rfl ?_
  intro p e s m args below meth c s₁ Bk hml hv
  obtain ⟨rfl, ⟨hsz, hP, hK, hD0⟩, hE, hSR⟩ := hv
  have hx := Bk.exec
  have hb := Bk.bytes
  have hr := Bk.returns
  have hlocks := Bk.notSynchronized
  have hC : CallFix p m c cX0_refreshAll 2 s _ wsX0_refreshAll RX0 := ⟨hx, hb, hml, findClass_of_methodNamed Bk.named, atoms_spec (ws := wsX0_refreshAll) Bk.pre⟩
  subst hsz
  have hD := hD0.self (sz := s.heap.size)
  generalize hAe : va_A w0 s.heap.size = A at hD hE ⊢
  have hA : ∀ q : Nat, s.heap.size ≤ q → A q := fun q h => by rw [← hAe]; exact Or.inr h
  have hw : Wd dC dI A s.heap s.heap [] w0 := ⟨hP, hD, va_S.rf⟩
  have hF : FE ksC [(42, 0, 1100), (43, 0, 1100), (44, 0, 11)] w0 w0 := FE.rf
  have hl := lv_entry ([.ref (ad 145)]) (n := 2) (Nat.le_of_ble_eq_true rfl)
  rw [lg_entry_eq]
  generalize (lg_sl ([.ref (ad 145)]) ++ List.replicate (2 - (lg_sl ([.ref (ad 145)])).length) Slot.unset).toArray = ls at hl ⊢
  have hl : lv_has ls 2 [(0, .ref (ad 145))] := hl
  generalize hloc : ([] : List Loc) = locs at hw ⊢
  have hinX0 : ∀ w ∈ u_ws RX0 TX0 4, w ∈ wsX0_refreshAll := fun _ h => List.mem_cons_of_mem _ (List.mem_append_left _ (List.mem_append_left _ (List.mem_append_right _ (h))))
  have hinX5 : ∀ w ∈ u_ws RX5 TX5 14, w ∈ wsX0_refreshAll := fun _ h => List.mem_cons_of_mem _ (List.mem_append_left _ (List.mem_append_right _ (h)))
  have L2 : ∀ (n2 : Nat) (v2_1 : Int32) (H : Heap) (locs : List Loc) (ls : Array Slot) (w1 : va_W), 0 ≤ v2_1.toInt → v2_1.toInt ≤ 11 → (11 - v2_1.toInt).toNat < n2 → Wd dC dI A s.heap H locs w1 → TW ksC ad cy B qr s1 w1 → FE ksC [(42, 0, 1100), (43, 0, 1100), (44, 0, 11)] w0 w1 → lv_has ls 2 [(0, .ref (ad 145)), (1, .int v2_1)] → W p l e ({ frames := 5, cells := 0, slots := 0, locals := 109 }) s m (List.toArray [.ref (ad 145)]) below meth c H locs 0 0 (MQ below (va_Qv (P_X0_refreshAll_1 ad cy B qr s1  w0) (fun u : va_W => wpost dC dI cy A u) A) (List.toArray [.ref (ad 145)]) s 0 0 A) (F0 m 2 ls []) := by
    intro n2
    induction n2 with
    | zero => intro v2_1 H locs ls w1 r2 t3 hm2 hw hT hF hl; omega
    | succ n2 ih2 =>
      intro v2_1 H locs ls w1 r2 t3 hm2 hw hT hF hl
      have J29 : ∀ (f29_38_8 : Int32) (H : Heap) (locs : List Loc) (ls : Array Slot) (w4 : va_W), 0 ≤ v2_1.toInt → v2_1.toInt ≤ 10 → 0 ≤ f29_38_8.toInt → f29_38_8.toInt ≤ 4 → Wd dC dI A s.heap H locs w4 → TW ksC ad cy B qr s1 w4 → FE ksC [(42, 0, 1100), (43, 0, 1100), (44, 0, 11)] w0 w4 → gi w4 38 8 = f29_38_8 → lv_has ls 2 [(0, .ref (ad 145)), (1, .int v2_1)] → W p l e ({ frames := 5, cells := 0, slots := 0, locals := 109 }) s m (List.toArray [.ref (ad 145)]) below meth c H locs 0 0 (MQ below (va_Qv (P_X0_refreshAll_1 ad cy B qr s1  w0) (fun u : va_W => wpost dC dI cy A u) A) (List.toArray [.ref (ad 145)]) s 0 0 A) (F0 m 29 ls []) := by
        intro f29_38_8 H locs ls w4 r5 t6 r7 t8 hw hT hF c9 hl
        obtain ⟨x10, ex10⟩ : ∃ y : Int32, y = v2_1 + Int32.ofInt 1 := ⟨_, rfl⟩
        refine lv_iinc (v := x10) (lv' := [(1, .int x10), (0, .ref (ad 145))]) hx hb dX0_refreshAll_29 hl (k := 1) rfl ex10.symm (by decide) rfl (fun ls hl => ?_)
        have ex10 : x10.toInt = v2_1.toInt + 1 := by rw [ex10]; exact wk_add (y := 1) (show -2147483648 ≤ v2_1.toInt + 1 by omega) (show v2_1.toInt + 1 ≤ 2147483647 by omega)
        refine lv_goto (tgt := 2) hx hb dX0_refreshAll_32 (by decide) ?_
        exact ih2 x10 H locs ls w4 (show 0 ≤ x10.toInt by omega) (show x10.toInt ≤ 11 by omega) (show (11 - x10.toInt).toNat < n2 by omega) hw hT hF  (lv_sub hl [1, 0] rfl)
      have J24 : ∀ (f24_38_8 : Int32) (H : Heap) (locs : List Loc) (ls : Array Slot) (w11 : va_W), 0 ≤ v2_1.toInt → v2_1.toInt ≤ 10 → 0 ≤ f24_38_8.toInt → f24_38_8.toInt ≤ 4 → Wd dC dI A s.heap H locs w11 → TW ksC ad cy B qr s1 w11 → FE ksC [(42, 0, 1100), (43, 0, 1100), (44, 0, 11)] w0 w11 → gi w11 38 8 = f24_38_8 → lv_has ls 2 [(0, .ref (ad 145)), (1, .int v2_1)] → W p l e ({ frames := 5, cells := 0, slots := 0, locals := 109 }) s m (List.toArray [.ref (ad 145)]) below meth c H locs 0 0 (MQ below (va_Qv (P_X0_refreshAll_1 ad cy B qr s1  w0) (fun u : va_W => wpost dC dI cy A u) A) (List.toArray [.ref (ad 145)]) s 0 0 A) (F0 m 24 ls []) := by
        intro f24_38_8 H locs ls w11 r12 t13 r14 t15 hw hT hF c16 hl
        refine lv_aload_n hx hb dX0_refreshAll_24 rfl (lv_at hl 0 rfl) ?_
        refine lv_iload_n hx hb dX0_refreshAll_25 rfl (lv_at hl 1 rfl) ?_
        refine tk_Vv hC hK hw hT hA hE hSR kC_at145 (by decide) rfl (k_X0_refresh_2 l adK adV dC dI cy ad B (by omega) (by omega) qr s1   v2_1 (show 0 ≤ v2_1.toInt by omega) (show v2_1.toInt ≤ 10 by omega) w11 H.size hT ) (cwV 1 hC.2.2.2.2 gX0_refreshAll_X0_refresh rfl rfl rfl (by decide +kernel) ⟨Nat.le_of_ble_eq_true rfl, Nat.le_of_ble_eq_true rfl⟩) rfl hl.1 rfl (Nat.le_of_ble_eq_true rfl) dX0_refreshAll_26 (fun w19 H locs hp18 hw => ?_)
        obtain ⟨hT, k20, hg21⟩ := hp18
        have hF := hF.tr k20 (by decide)
        have c22 := k20.gi kC_at38 (by decide) c16
        clear hg21
        exact J29 f24_38_8 H locs ls w19 (show 0 ≤ v2_1.toInt by omega) (show v2_1.toInt ≤ 10 by omega) (show 0 ≤ f24_38_8.toInt by omega) (show f24_38_8.toInt ≤ 4 by omega)  hw hT hF c22 (lv_sub hl [0, 1] rfl)
      refine lv_iload_n hx hb dX0_refreshAll_2 rfl (lv_at hl 1 rfl) ?_
      refine lv_bipush (v := 11) hx hb dX0_refreshAll_3 (by decide) ?_
      refine lv_icmp_ge (tgt := 35) hx hb dX0_refreshAll_5 (by decide) (fun c23 => ?_) (fun c23 => ?_)
      · have c23 : (11 : Int) ≤ v2_1.toInt := wk_le.mp c23
        exact tk_vret hC hr hlocks hK ⟨hT, hF, trivial⟩ hw dX0_refreshAll_35
      · have c23 : v2_1.toInt < (11 : Int) := wk_leF c23
        refine lv_iload_n hx hb dX0_refreshAll_8 rfl (lv_at hl 1 rfl) ?_
        refine lv_aload_n hx hb dX0_refreshAll_9 rfl (lv_at hl 0 rfl) ?_
        refine tk_getA hC hK hw hT hinX0 kC_at145 (by decide) rfl 0 (by decide) (List.mem_of_getElem? (i := 1) rfl) rfl rfl dX0_refreshAll_10 ?_
        refine tk_geti hC hK hw hT hinX5 kC_at38 (by decide) rfl 8 (by decide) (List.mem_of_getElem? (i := 2) rfl) rfl rfl dX0_refreshAll_13 (fun x24 c25 rx24 tx24 => ?_)
        refine lv_icmp_lt (tgt := 24) hx hb dX0_refreshAll_16 (by decide) (fun c26 => ?_) (fun c26 => ?_)
        · have c26 : v2_1.toInt < x24.toInt := wk_lt.mp c26
          exact J24 x24 H locs ls w1 (show 0 ≤ v2_1.toInt by omega) (show v2_1.toInt ≤ 10 by omega) (show 0 ≤ x24.toInt by omega) (show x24.toInt ≤ 4 by omega)  hw hT hF c25 (lv_sub hl [0, 1] rfl)
        · have c26 : x24.toInt ≤ v2_1.toInt := wk_ltF c26
          refine lv_iload_n hx hb dX0_refreshAll_19 rfl (lv_at hl 1 rfl) ?_
          refine lv_iconst (v := 4) hx hb dX0_refreshAll_20 (by decide) ?_
          refine lv_icmp_lt (tgt := 29) hx hb dX0_refreshAll_21 (by decide) (fun c27 => ?_) (fun c27 => ?_)
          · have c27 : v2_1.toInt < (4 : Int) := wk_lt.mp c27
            exact J29 x24 H locs ls w1 (show 0 ≤ v2_1.toInt by omega) (show v2_1.toInt ≤ 10 by omega) (show 0 ≤ x24.toInt by omega) (show x24.toInt ≤ 4 by omega)  hw hT hF c25 (lv_sub hl [0, 1] rfl)
          · have c27 : (4 : Int) ≤ v2_1.toInt := wk_ltF c27
            exact J24 x24 H locs ls w1 (show 0 ≤ v2_1.toInt by omega) (show v2_1.toInt ≤ 10 by omega) (show 0 ≤ x24.toInt by omega) (show x24.toInt ≤ 4 by omega)  hw hT hF c25 (lv_sub hl [0, 1] rfl)
  refine lv_iconst (v := 0) hx hb dX0_refreshAll_0 (by decide) ?_
  refine lv_istore_n (lv' := [(1, .int 0), (0, .ref (ad 145))]) hx hb dX0_refreshAll_1 rfl hl (by decide) rfl (fun ls hl => ?_)
  exact L2 ((11 - (0 : Int)).toNat + 1) 0 s.heap locs ls w0 (by decide) (by decide) (Nat.lt_succ_self _) hw hT hF  (lv_sub hl [1, 0] rfl)
abbrev P_X7_sideOf_2 (ad : Nat → Nat) (cy : Nat → ClassId) (B : Int) (qr : Nat) (s1 : Int) (a1 : Int32) (a2 : Int32) (w0 : va_W) : Int32 → va_W → Prop := fun r u => TW ksC ad cy B qr s1 u ∧ FE ksC ([] : List (Nat × Nat × Nat)) w0 u ∧ ((0 ≤ r.toInt ∧ r.toInt ≤ 1) ∨ (r = (-1)))
set_option maxHeartbeats 4000000 in
set_option maxRecDepth 100000 in
theorem k_X7_sideOf_2 (l : Launch) (adK adV : Nat → Nat) (dC : Nat → ClassId) (dI : Nat → Nat → Nat) (cy : Nat → ClassId) (ad : Nat → Nat) (B : Int) (hB0 : 2147483648 ≤ B) (hB1 : B ≤ 1152921504606846976) (qr : Nat) (s1 : Int)  (a1 : Int32) (ra1 : 0 ≤ a1.toInt) (ta1 : a1.toInt ≤ 11) (a2 : Int32) (ra2 : 0 ≤ a2.toInt) (ta2 : a2.toInt ≤ 9) (w0 : va_W) (sz : Nat) (hT : TW ksC ad cy B qr s1 w0)  : Met l yX7_sideOf wsX7_sideOf ({ frames := 1, cells := 0, slots := 0, locals := 12 }) (va_Pc [.ref (ad 39), .int a1, .int a2] (wpreS adK adV dC dI cy sz w0)) (va_Qi (P_X7_sideOf_2 ad cy B qr s1 a1 a2 w0) (fun u : va_W => wpost dC dI cy (va_A w0 sz) u) (va_A w0 sz)) 0 0 (va_A w0 sz) := by
  refine Met.ofW (cc := cX7_sideOf) (maxL := 3) (ret := (some .int)) (by decide) rfl ?_
  intro p e s m args below meth c s₁ Bk hml hv
  obtain ⟨rfl, ⟨hsz, hP, hK, hD0⟩, hE, hSR⟩ := hv
  have hx := Bk.exec
  have hb := Bk.bytes
  have hr := Bk.returns
  have hlocks := Bk.notSynchronized
  have hC : CallFix p m c cX7_sideOf 3 s _ wsX7_sideOf RX7 := ⟨hx, hb, hml, findClass_of_methodNamed Bk.named, atoms_spec (ws := wsX7_sideOf) Bk.pre⟩
  subst hsz
  have hD := hD0.self (sz := s.heap.size)
  generalize hAe : va_A w0 s.heap.size = A at hD hE ⊢
  have hA : ∀ q : Nat, s.heap.size ≤ q → A q := fun q h => by rw [← hAe]; exact Or.inr h
  have hw : Wd dC dI A s.heap s.heap [] w0 := ⟨hP, hD, va_S.rf⟩
  have hF : FE ksC ([] : List (Nat × Nat × Nat)) w0 w0 := FE.rf
  have hl := lv_entry ([.ref (ad 39), .int a1, .int a2]) (n := 3) (Nat.le_of_ble_eq_true rfl)
  rw [lg_entry_eq]
  generalize (lg_sl ([.ref (ad 39), .int a1, .int a2]) ++ List.replicate (3 - (lg_sl ([.ref (ad 39), .int a1, .int a2])).length) Slot.unset).toArray = ls at hl ⊢
  have hl : lv_has ls 3 [(0, .ref (ad 39)), (1, .int a1), (2, .int a2)] := hl
  generalize hloc : ([] : List Loc) = locs at hw ⊢
  have hinX7 : ∀ w ∈ u_ws RX7 TX7 12, w ∈ wsX7_sideOf := fun _ h => List.mem_cons_of_mem _ (List.mem_append_right _ (h))
  refine lv_aload_n hx hb dX7_sideOf_0 rfl (lv_at hl 0 rfl) ?_
  refine tk_getO hC hK hw hT hinX7 kC_at39 (by decide) rfl 0 (by decide) (List.mem_of_getElem? (i := 1) rfl) rfl rfl dX7_sideOf_1 ?_
  refine lv_iconst (v := 2) hx hb dX7_sideOf_4 (by decide) ?_
  refine lv_iload_n hx hb dX7_sideOf_5 rfl (lv_at hl 1 rfl) ?_
  refine lv_imul hx hb dX7_sideOf_6 ?_
  refine lv_topi (fun x1 ex1 => ?_)
  have ex1 : x1.toInt = (2 : Int) * a1.toInt := by rw [ex1]; exact wk_mul (show (-2147483648) ≤ (2 : Int) * a1.toInt by omega) (show (2 : Int) * a1.toInt ≤ 2147483647 by omega)
  refine tk_iald hC hK hw hT kC_at40 rfl rfl (show 0 ≤ x1.toInt by omega) (show x1.toInt < 26 by omega) dX7_sideOf_7 (fun x2 c3 rx2 tx2 => ?_)
  refine lv_iload_n hx hb dX7_sideOf_8 rfl (lv_at hl 2 rfl) ?_
  refine lv_icmp_ne (tgt := 14) hx hb dX7_sideOf_9 (by decide) (fun c4 => ?_) (fun c4 => ?_)
  · have c4 : ¬ x2.toInt = a2.toInt := wk_eqF c4
    refine lv_aload_n hx hb dX7_sideOf_14 rfl (lv_at hl 0 rfl) ?_
    refine tk_getO hC hK hw hT hinX7 kC_at39 (by decide) rfl 0 (by decide) (List.mem_of_getElem? (i := 1) rfl) rfl rfl dX7_sideOf_15 ?_
    refine lv_iconst (v := 2) hx hb dX7_sideOf_18 (by decide) ?_
    refine lv_iload_n hx hb dX7_sideOf_19 rfl (lv_at hl 1 rfl) ?_
    refine lv_imul hx hb dX7_sideOf_20 ?_
    refine lv_topi (fun x5 ex5 => ?_)
    have ex5 : x5.toInt = (2 : Int) * a1.toInt := by rw [ex5]; exact wk_mul (show (-2147483648) ≤ (2 : Int) * a1.toInt by omega) (show (2 : Int) * a1.toInt ≤ 2147483647 by omega)
    refine lv_iconst (v := 1) hx hb dX7_sideOf_21 (by decide) ?_
    refine lv_iadd hx hb dX7_sideOf_22 ?_
    refine lv_topi (fun x6 ex6 => ?_)
    have ex6 : x6.toInt = x5.toInt + (1 : Int) := by rw [ex6]; exact wk_add (show (-2147483648) ≤ x5.toInt + (1 : Int) by omega) (show x5.toInt + (1 : Int) ≤ 2147483647 by omega)
    refine tk_iald hC hK hw hT kC_at40 rfl rfl (show 0 ≤ x6.toInt by omega) (show x6.toInt < 26 by omega) dX7_sideOf_23 (fun x7 c8 rx7 tx7 => ?_)
    refine lv_iload_n hx hb dX7_sideOf_24 rfl (lv_at hl 2 rfl) ?_
    refine lv_icmp_ne (tgt := 32) hx hb dX7_sideOf_25 (by decide) (fun c9 => ?_) (fun c9 => ?_)
    · have c9 : ¬ x7.toInt = a2.toInt := wk_eqF c9
      refine lv_iconst (v := (-1)) hx hb dX7_sideOf_32 (by decide) ?_
      exact tk_iret hC hr hlocks hK ⟨hT, hF, (Or.inr rfl)⟩ hw dX7_sideOf_33
    · have c9 : x7.toInt = a2.toInt := wk_eq.mp c9
      refine lv_iconst (v := 1) hx hb dX7_sideOf_28 (by decide) ?_
      refine lv_goto (tgt := 33) hx hb dX7_sideOf_29 (by decide) ?_
      exact tk_iret hC hr hlocks hK ⟨hT, hF, (Or.inl ⟨(by decide), (by decide)⟩)⟩ hw dX7_sideOf_33
  · have c4 : x2.toInt = a2.toInt := wk_eq.mp c4
    refine lv_iconst (v := 0) hx hb dX7_sideOf_12 (by decide) ?_
    exact tk_iret hC hr hlocks hK ⟨hT, hF, (Or.inl ⟨(by decide), (by decide)⟩)⟩ hw dX7_sideOf_13
abbrev P_X7_openHours_2 (ad : Nat → Nat) (cy : Nat → ClassId) (B : Int) (qr : Nat) (s1 : Int) (a1 : Int32) (a2 : Int32) (a3 : Int64) (w0 : va_W) : Int32 → va_W → Prop := fun r u => TW ksC ad cy B qr s1 u ∧ FE ksC ([] : List (Nat × Nat × Nat)) w0 u ∧ ((0 ≤ r.toInt ∧ r.toInt ≤ 16777215))
set_option maxHeartbeats 4000000 in
set_option maxRecDepth 100000 in
theorem k_X7_openHours_2 (l : Launch) (adK adV : Nat → Nat) (dC : Nat → ClassId) (dI : Nat → Nat → Nat) (cy : Nat → ClassId) (ad : Nat → Nat) (B : Int) (hB0 : 2147483648 ≤ B) (hB1 : B ≤ 1152921504606846976) (qr : Nat) (s1 : Int)  (a1 : Int32) (ra1 : 0 ≤ a1.toInt) (ta1 : a1.toInt ≤ 11) (a2 : Int32) (ra2 : 0 ≤ a2.toInt) (ta2 : a2.toInt ≤ 1) (a3 : Int64) (ra3 : 0 ≤ a3.toInt) (ta3 : a3.toInt ≤ 96076792050570581) (w0 : va_W) (sz : Nat) (hT : TW ksC ad cy B qr s1 w0)  : Met l yX7_openHours wsX7_openHours ({ frames := 1, cells := 0, slots := 0, locals := 12 }) (va_Pc [.ref (ad 39), .int a1, .int a2, .long a3, .int 0] (wpreS adK adV dC dI cy sz w0)) (va_Qi (P_X7_openHours_2 ad cy B qr s1 a1 a2 a3 w0) (fun u : va_W => wpost dC dI cy (va_A w0 sz) u) (va_A w0 sz)) 0 0 (va_A w0 sz) := by
  refine Met.ofW (cc := cX7_openHours) (maxL := 8) (ret := (some .int)) (by decide) rfl ?_
  intro p e s m args below meth c s₁ Bk hml hv
  obtain ⟨rfl, ⟨hsz, hP, hK, hD0⟩, hE, hSR⟩ := hv
  have hx := Bk.exec
  have hb := Bk.bytes
  have hr := Bk.returns
  have hlocks := Bk.notSynchronized
  have hC : CallFix p m c cX7_openHours 8 s _ wsX7_openHours RX7 := ⟨hx, hb, hml, findClass_of_methodNamed Bk.named, atoms_spec (ws := wsX7_openHours) Bk.pre⟩
  subst hsz
  have hD := hD0.self (sz := s.heap.size)
  generalize hAe : va_A w0 s.heap.size = A at hD hE ⊢
  have hA : ∀ q : Nat, s.heap.size ≤ q → A q := fun q h => by rw [← hAe]; exact Or.inr h
  have hw : Wd dC dI A s.heap s.heap [] w0 := ⟨hP, hD, va_S.rf⟩
  have hF : FE ksC ([] : List (Nat × Nat × Nat)) w0 w0 := FE.rf
  have hl := lv_entry ([.ref (ad 39), .int a1, .int a2, .long a3, .int 0]) (n := 8) (Nat.le_of_ble_eq_true rfl)
  rw [lg_entry_eq]
  generalize (lg_sl ([.ref (ad 39), .int a1, .int a2, .long a3, .int 0]) ++ List.replicate (8 - (lg_sl ([.ref (ad 39), .int a1, .int a2, .long a3, .int 0])).length) Slot.unset).toArray = ls at hl ⊢
  have hl : lv_has ls 8 [(0, .ref (ad 39)), (1, .int a1), (2, .int a2), (3, .long a3), (5, .int 0)] := hl
  generalize hloc : ([] : List Loc) = locs at hw ⊢
  have hinX7 : ∀ w ∈ u_ws RX7 TX7 12, w ∈ wsX7_openHours := fun _ h => List.mem_cons_of_mem _ (List.mem_append_right _ (h))
  have J93 : ∀ (H : Heap) (locs : List Loc) (ls : Array Slot) (w1 : va_W), 0 ≤ a1.toInt → a1.toInt ≤ 11 → 0 ≤ a2.toInt → a2.toInt ≤ 1 → 0 ≤ a3.toInt → a3.toInt ≤ 96076792050570581 → Wd dC dI A s.heap H locs w1 → TW ksC ad cy B qr s1 w1 → FE ksC ([] : List (Nat × Nat × Nat)) w0 w1 → lv_has ls 8 [(0, .ref (ad 39)), (1, .int a1), (2, .int a2), (3, .long a3), (5, .int 0), (6, .int 0), (7, .int 0)] → W p l e ({ frames := 1, cells := 0, slots := 0, locals := 12 }) s m (List.toArray [.ref (ad 39), .int a1, .int a2, .long a3, .int 0]) below meth c H locs 0 0 (MQ below (va_Qi (P_X7_openHours_2 ad cy B qr s1 a1 a2 a3 w0) (fun u : va_W => wpost dC dI cy A u) A) (List.toArray [.ref (ad 39), .int a1, .int a2, .long a3, .int 0]) s 0 0 A) (F0 m 93 ls []) := by
    intro H locs ls w1 r2 t3 r4 t5 r6 t7 hw hT hF hl
    refine lv_ldc (v := 16777215) hx hb hC.2.2.2.1 (hC.2.2.2.2 _ (List.mem_of_getElem? (i := 6) rfl)) dX7_openHours_93 ?_
    refine lv_aload_n hx hb dX7_openHours_95 rfl (lv_at hl 0 rfl) ?_
    refine tk_getO hC hK hw hT hinX7 kC_at39 (by decide) rfl 3 (by decide) (List.mem_of_getElem? (i := 7) rfl) rfl rfl dX7_openHours_96 ?_
    refine lv_iload_n hx hb dX7_openHours_99 rfl (lv_at hl 1 rfl) ?_
    refine tk_iald hC hK hw hT kC_at43 rfl rfl (show 0 ≤ a1.toInt by omega) (show a1.toInt < 13 by omega) dX7_openHours_100 (fun x8 c9 rx8 tx8 => ?_)
    refine lv_iconst (v := (-1)) hx hb dX7_openHours_101 (by decide) ?_
    refine lv_ixor hx hb dX7_openHours_102 ?_
    refine lv_topi (fun x10 ex10 => ?_)
    refine lv_iand hx hb dX7_openHours_103 ?_
    refine lv_topi (fun x11 ex11 => ?_)
    have bx11 : 0 ≤ x11.toInt ∧ x11.toInt ≤ (16777215 : Int) := by rw [ex11]; exact wk_andC (by decide)
    exact tk_iret hC hr hlocks hK ⟨hT, hF, ⟨(show 0 ≤ x11.toInt by omega), (show x11.toInt ≤ 16777215 by omega)⟩⟩ hw dX7_openHours_104
  have L44 : ∀ (H : Heap) (locs : List Loc) (ls : Array Slot) (w12 : va_W), 0 ≤ a1.toInt → a1.toInt ≤ 11 → 0 ≤ a2.toInt → a2.toInt ≤ 1 → 0 ≤ a3.toInt → a3.toInt ≤ 96076792050570581 → Wd dC dI A s.heap H locs w12 → TW ksC ad cy B qr s1 w12 → FE ksC ([] : List (Nat × Nat × Nat)) w0 w12 → lv_has ls 8 [(0, .ref (ad 39)), (1, .int a1), (2, .int a2), (3, .long a3), (5, .int 0), (6, .int 0), (7, .int 0)] → W p l e ({ frames := 1, cells := 0, slots := 0, locals := 12 }) s m (List.toArray [.ref (ad 39), .int a1, .int a2, .long a3, .int 0]) below meth c H locs 0 0 (MQ below (va_Qi (P_X7_openHours_2 ad cy B qr s1 a1 a2 a3 w0) (fun u : va_W => wpost dC dI cy A u) A) (List.toArray [.ref (ad 39), .int a1, .int a2, .long a3, .int 0]) s 0 0 A) (F0 m 44 ls []) := by
    intro H locs ls w12 r13 t14 r15 t16 r17 t18 hw hT hF hl
    refine lv_iload hx hb dX7_openHours_44 (lv_at hl 5 rfl) ?_
    refine lv_if_eq (tgt := 93) hx hb dX7_openHours_46 (by decide) (fun _ => ?_) (fun c => absurd (by decide) c)
    exact J93  H locs ls w12 (show 0 ≤ a1.toInt by omega) (show a1.toInt ≤ 11 by omega) (show 0 ≤ a2.toInt by omega) (show a2.toInt ≤ 1 by omega) (show 0 ≤ a3.toInt by omega) (show a3.toInt ≤ 96076792050570581 by omega)  hw hT hF  (lv_sub hl [0, 1, 2, 3, 4, 5, 6] rfl)
  refine lv_aload_n hx hb dX7_openHours_0 rfl (lv_at hl 0 rfl) ?_
  refine tk_getO hC hK hw hT hinX7 kC_at39 (by decide) rfl 4 (by decide) (List.mem_of_getElem? (i := 1) rfl) rfl rfl dX7_openHours_1 ?_
  refine lv_iconst (v := 2) hx hb dX7_openHours_4 (by decide) ?_
  refine lv_iload_n hx hb dX7_openHours_5 rfl (lv_at hl 1 rfl) ?_
  refine lv_imul hx hb dX7_openHours_6 ?_
  refine lv_topi (fun x19 ex19 => ?_)
  have ex19 : x19.toInt = (2 : Int) * a1.toInt := by rw [ex19]; exact wk_mul (show (-2147483648) ≤ (2 : Int) * a1.toInt by omega) (show (2 : Int) * a1.toInt ≤ 2147483647 by omega)
  refine lv_iload_n hx hb dX7_openHours_7 rfl (lv_at hl 2 rfl) ?_
  refine lv_iadd hx hb dX7_openHours_8 ?_
  refine lv_topi (fun x20 ex20 => ?_)
  have ex20 : x20.toInt = x19.toInt + a2.toInt := by rw [ex20]; exact wk_add (show (-2147483648) ≤ x19.toInt + a2.toInt by omega) (show x19.toInt + a2.toInt ≤ 2147483647 by omega)
  refine tk_iald hC hK hw hT kC_at44 rfl rfl (show 0 ≤ x20.toInt by omega) (show x20.toInt < 26 by omega) dX7_openHours_9 (fun x21 c22 rx21 tx21 => ?_)
  refine lv_lload_n hx hb dX7_openHours_10 rfl (lv_at hl 3 rfl) ?_
  refine lv_ldc2 (v := 7) hx hb hC.2.2.2.1 (hC.2.2.2.2 _ (List.mem_of_getElem? (i := 2) rfl)) dX7_openHours_11 ?_
  refine lv_lrem hx hb dX7_openHours_14 (by decide) ?_
  refine lv_topl (fun x23 ex23 => ?_)
  have ex23 : x23.toInt = a3.toInt % (7 : Int) := by rw [ex23]; exact wk_reml (show 0 ≤ a3.toInt by omega) (show 0 < (7 : Int) by decide)
  refine lv_l2i hx hb dX7_openHours_15 rfl ?_
  refine lv_topi (fun x24 ex24 => ?_)
  have ex24 : x24.toInt = x23.toInt := by rw [ex24]; exact wk_l2i (by omega) (by omega)
  refine lv_ishr hx hb dX7_openHours_16 ?_
  refine lv_topi (fun x25 ex25 => ?_)
  refine lv_iconst (v := 1) hx hb dX7_openHours_17 (by decide) ?_
  refine lv_iand hx hb dX7_openHours_18 ?_
  refine lv_topi (fun x26 ex26 => ?_)
  have bx26 : 0 ≤ x26.toInt ∧ x26.toInt ≤ (1 : Int) := by rw [ex26]; exact wk_and (by decide)
  refine lv_if_ne (tgt := 24) hx hb dX7_openHours_19 (by decide) (fun c27 => ?_) (fun c27 => ?_)
  · have c27 : ¬ x26.toInt = (0 : Int) := wk_eqF c27
    refine lv_iload hx hb dX7_openHours_24 (lv_at hl 4 rfl) ?_
    refine lv_if_eq (tgt := 38) hx hb dX7_openHours_26 (by decide) (fun _ => ?_) (fun c => absurd (by decide) c)
    refine lv_iconst (v := 0) hx hb dX7_openHours_38 (by decide) ?_
    refine lv_istore (lv' := [(6, .int 0), (0, .ref (ad 39)), (1, .int a1), (2, .int a2), (3, .long a3), (5, .int 0)]) hx hb dX7_openHours_39 hl (by decide) rfl (fun ls hl => ?_)
    refine lv_iconst (v := 0) hx hb dX7_openHours_41 (by decide) ?_
    refine lv_istore (lv' := [(7, .int 0), (6, .int 0), (0, .ref (ad 39)), (1, .int a1), (2, .int a2), (3, .long a3), (5, .int 0)]) hx hb dX7_openHours_42 hl (by decide) rfl (fun ls hl => ?_)
    exact L44  s.heap locs ls w0 (show 0 ≤ a1.toInt by omega) (show a1.toInt ≤ 11 by omega) (show 0 ≤ a2.toInt by omega) (show a2.toInt ≤ 1 by omega) (show 0 ≤ a3.toInt by omega) (show a3.toInt ≤ 96076792050570581 by omega)  hw hT hF  (lv_sub hl [2, 3, 4, 5, 6, 1, 0] rfl)
  · have c27 : x26.toInt = (0 : Int) := wk_eq.mp c27
    refine lv_iconst (v := 0) hx hb dX7_openHours_22 (by decide) ?_
    exact tk_iret hC hr hlocks hK ⟨hT, hF, ⟨(by decide), (by decide)⟩⟩ hw dX7_openHours_23
abbrev P_X7_isOpen_2 (ad : Nat → Nat) (cy : Nat → ClassId) (B : Int) (qr : Nat) (s1 : Int) (a1 : Int32) (a2 : Int32) (a3 : Int64) (w0 : va_W) : Int32 → va_W → Prop := fun r u => TW ksC ad cy B qr s1 u ∧ FE ksC ([] : List (Nat × Nat × Nat)) w0 u ∧ ((r = 0) ∨ (r = 1))
set_option maxHeartbeats 4000000 in
set_option maxRecDepth 100000 in
theorem k_X7_isOpen_2 (l : Launch) (adK adV : Nat → Nat) (dC : Nat → ClassId) (dI : Nat → Nat → Nat) (cy : Nat → ClassId) (ad : Nat → Nat) (B : Int) (hB0 : 2147483648 ≤ B) (hB1 : B ≤ 1152921504606846976) (qr : Nat) (s1 : Int)  (a1 : Int32) (ra1 : 0 ≤ a1.toInt) (ta1 : a1.toInt ≤ 11) (a2 : Int32) (ra2 : 0 ≤ a2.toInt) (ta2 : a2.toInt ≤ 1) (a3 : Int64) (ra3 : 0 ≤ a3.toInt) (ta3 : a3.toInt ≤ 2305843009213693952) (w0 : va_W) (sz : Nat) (hT : TW ksC ad cy B qr s1 w0)  : Met l yX7_isOpen wsX7_isOpen ({ frames := 2, cells := 0, slots := 0, locals := 39 }) (va_Pc [.ref (ad 39), .int a1, .int a2, .long a3, .int 0] (wpreS adK adV dC dI cy sz w0)) (va_Qi (P_X7_isOpen_2 ad cy B qr s1 a1 a2 a3 w0) (fun u : va_W => wpost dC dI cy (va_A w0 sz) u) (va_A w0 sz)) 0 0 (va_A w0 sz) := by
  refine Met.ofW (cc := cX7_isOpen) (maxL := 7) (ret := (some .boolean)) (by decide) rfl ?_
  intro p e s m args below meth c s₁ Bk hml hv
  obtain ⟨rfl, ⟨hsz, hP, hK, hD0⟩, hE, hSR⟩ := hv
  have hx := Bk.exec
  have hb := Bk.bytes
  have hr := Bk.returns
  have hlocks := Bk.notSynchronized
  have hC : CallFix p m c cX7_isOpen 7 s _ wsX7_isOpen RX7 := ⟨hx, hb, hml, findClass_of_methodNamed Bk.named, atoms_spec (ws := wsX7_isOpen) Bk.pre⟩
  subst hsz
  have hD := hD0.self (sz := s.heap.size)
  generalize hAe : va_A w0 s.heap.size = A at hD hE ⊢
  have hA : ∀ q : Nat, s.heap.size ≤ q → A q := fun q h => by rw [← hAe]; exact Or.inr h
  have hw : Wd dC dI A s.heap s.heap [] w0 := ⟨hP, hD, va_S.rf⟩
  have hF : FE ksC ([] : List (Nat × Nat × Nat)) w0 w0 := FE.rf
  have hl := lv_entry ([.ref (ad 39), .int a1, .int a2, .long a3, .int 0]) (n := 7) (Nat.le_of_ble_eq_true rfl)
  rw [lg_entry_eq]
  generalize (lg_sl ([.ref (ad 39), .int a1, .int a2, .long a3, .int 0]) ++ List.replicate (7 - (lg_sl ([.ref (ad 39), .int a1, .int a2, .long a3, .int 0])).length) Slot.unset).toArray = ls at hl ⊢
  have hl : lv_has ls 7 [(0, .ref (ad 39)), (1, .int a1), (2, .int a2), (3, .long a3), (5, .int 0)] := hl
  generalize hloc : ([] : List Loc) = locs at hw ⊢
  refine lv_aload_n hx hb dX7_isOpen_0 rfl (lv_at hl 0 rfl) ?_
  refine lv_iload_n hx hb dX7_isOpen_1 rfl (lv_at hl 1 rfl) ?_
  refine lv_iload_n hx hb dX7_isOpen_2 rfl (lv_at hl 2 rfl) ?_
  refine lv_lload_n hx hb dX7_isOpen_3 rfl (lv_at hl 3 rfl) ?_
  refine lv_ldc2 (v := 24) hx hb hC.2.2.2.1 (hC.2.2.2.2 _ (List.mem_of_getElem? (i := 1) rfl)) dX7_isOpen_4 ?_
  refine lv_ldiv hx hb dX7_isOpen_7 (by decide) ?_
  refine lv_topl (fun x1 ex1 => ?_)
  have ex1 : x1.toInt = a3.toInt / (24 : Int) := by rw [ex1]; exact wk_divl (show 0 ≤ a3.toInt by omega) (show 0 < (24 : Int) by decide)
  refine lv_iload hx hb dX7_isOpen_8 (lv_at hl 4 rfl) ?_
  refine tk_Vi hC hK hw hT hA hE hSR kC_at39 (by decide) rfl (k_X7_openHours_2 l adK adV dC dI cy ad B (by omega) (by omega) qr s1   a1 (show 0 ≤ a1.toInt by omega) (show a1.toInt ≤ 11 by omega) a2 (show 0 ≤ a2.toInt by omega) (show a2.toInt ≤ 1 by omega) x1 (show 0 ≤ x1.toInt by omega) (show x1.toInt ≤ 96076792050570581 by omega) w0 s.heap.size hT ) (cwV 4 hC.2.2.2.2 gX7_isOpen_X7_openHours rfl rfl rfl (by decide +kernel) ⟨Nat.le_of_ble_eq_true rfl, Nat.le_of_ble_eq_true rfl⟩) rfl hl.1 rfl (Nat.le_of_ble_eq_true rfl) dX7_isOpen_10 (fun r2 w4 H locs hp3 hw => ?_)
  obtain ⟨hT, k5, hg8⟩ := hp3
  have hF := hF.tr k5 (by decide)
  obtain ⟨g6, g7⟩ := hg8
  refine lv_istore (lv' := [(6, .int r2), (0, .ref (ad 39)), (1, .int a1), (2, .int a2), (3, .long a3), (5, .int 0)]) hx hb dX7_isOpen_13 hl (by decide) rfl (fun ls hl => ?_)
  refine lv_iload hx hb dX7_isOpen_15 (lv_at hl 0 rfl) ?_
  refine lv_lload_n hx hb dX7_isOpen_17 rfl (lv_at hl 4 rfl) ?_
  refine lv_ldc2 (v := 24) hx hb hC.2.2.2.1 (hC.2.2.2.2 _ (List.mem_of_getElem? (i := 1) rfl)) dX7_isOpen_18 ?_
  refine lv_lrem hx hb dX7_isOpen_21 (by decide) ?_
  refine lv_topl (fun x9 ex9 => ?_)
  have ex9 : x9.toInt = a3.toInt % (24 : Int) := by rw [ex9]; exact wk_reml (show 0 ≤ a3.toInt by omega) (show 0 < (24 : Int) by decide)
  refine lv_l2i hx hb dX7_isOpen_22 rfl ?_
  refine lv_topi (fun x10 ex10 => ?_)
  have ex10 : x10.toInt = x9.toInt := by rw [ex10]; exact wk_l2i (by omega) (by omega)
  refine lv_ishr hx hb dX7_isOpen_23 ?_
  refine lv_topi (fun x11 ex11 => ?_)
  have bx11 : 0 ≤ x11.toInt ∧ x11.toInt ≤ r2.toInt := by rw [ex11]; exact wk_shr (by omega)
  refine lv_iconst (v := 1) hx hb dX7_isOpen_24 (by decide) ?_
  refine lv_iand hx hb dX7_isOpen_25 ?_
  refine lv_topi (fun x12 ex12 => ?_)
  have bx12 : 0 ≤ x12.toInt ∧ x12.toInt ≤ (1 : Int) := by rw [ex12]; exact wk_and (by decide)
  refine lv_if_eq (tgt := 33) hx hb dX7_isOpen_26 (by decide) (fun c13 => ?_) (fun c13 => ?_)
  · have c13 : x12.toInt = (0 : Int) := wk_eq.mp c13
    refine lv_iconst (v := 0) hx hb dX7_isOpen_33 (by decide) ?_
    exact tk_zret hC hr rfl hlocks hK ⟨hT, hF, (Or.inl rfl)⟩ hw dX7_isOpen_34
  · have c13 : ¬ x12.toInt = (0 : Int) := wk_eqF c13
    refine lv_iconst (v := 1) hx hb dX7_isOpen_29 (by decide) ?_
    refine lv_goto (tgt := 34) hx hb dX7_isOpen_30 (by decide) ?_
    exact tk_zret hC hr rfl hlocks hK ⟨hT, hF, (Or.inr rfl)⟩ hw dX7_isOpen_34
abbrev P_X7_openHours_3 (ad : Nat → Nat) (cy : Nat → ClassId) (B : Int) (qr : Nat) (s1 : Int) (a1 : Int32) (a2 : Int32) (a3 : Int64) (w0 : va_W) : Int32 → va_W → Prop := fun r u => TW ksC ad cy B qr s1 u ∧ FE ksC ([] : List (Nat × Nat × Nat)) w0 u ∧ ((0 ≤ r.toInt ∧ r.toInt ≤ 16777215))
set_option maxHeartbeats 4000000 in
set_option maxRecDepth 100000 in
theorem k_X7_openHours_3 (l : Launch) (adK adV : Nat → Nat) (dC : Nat → ClassId) (dI : Nat → Nat → Nat) (cy : Nat → ClassId) (ad : Nat → Nat) (B : Int) (hB0 : 2147483648 ≤ B) (hB1 : B ≤ 1152921504606846976) (qr : Nat) (s1 : Int)  (a1 : Int32) (ra1 : 0 ≤ a1.toInt) (ta1 : a1.toInt ≤ 11) (a2 : Int32) (ra2 : 0 ≤ a2.toInt) (ta2 : a2.toInt ≤ 1) (a3 : Int64) (ra3 : 0 ≤ a3.toInt) (ta3 : a3.toInt ≤ 96076792050570581) (w0 : va_W) (sz : Nat) (hT : TW ksC ad cy B qr s1 w0)  : Met l yX7_openHours wsX7_openHours ({ frames := 1, cells := 0, slots := 0, locals := 12 }) (va_Pc [.ref (ad 39), .int a1, .int a2, .long a3, .int 1] (wpreS adK adV dC dI cy sz w0)) (va_Qi (P_X7_openHours_3 ad cy B qr s1 a1 a2 a3 w0) (fun u : va_W => wpost dC dI cy (va_A w0 sz) u) (va_A w0 sz)) 0 0 (va_A w0 sz) := by
  refine Met.ofW (cc := cX7_openHours) (maxL := 8) (ret := (some .int)) (by decide) rfl ?_
  intro p e s m args below meth c s₁ Bk hml hv
  obtain ⟨rfl, ⟨hsz, hP, hK, hD0⟩, hE, hSR⟩ := hv
  have hx := Bk.exec
  have hb := Bk.bytes
  have hr := Bk.returns
  have hlocks := Bk.notSynchronized
  have hC : CallFix p m c cX7_openHours 8 s _ wsX7_openHours RX7 := ⟨hx, hb, hml, findClass_of_methodNamed Bk.named, atoms_spec (ws := wsX7_openHours) Bk.pre⟩
  subst hsz
  have hD := hD0.self (sz := s.heap.size)
  generalize hAe : va_A w0 s.heap.size = A at hD hE ⊢
  have hA : ∀ q : Nat, s.heap.size ≤ q → A q := fun q h => by rw [← hAe]; exact Or.inr h
  have hw : Wd dC dI A s.heap s.heap [] w0 := ⟨hP, hD, va_S.rf⟩
  have hF : FE ksC ([] : List (Nat × Nat × Nat)) w0 w0 := FE.rf
  have hl := lv_entry ([.ref (ad 39), .int a1, .int a2, .long a3, .int 1]) (n := 8) (Nat.le_of_ble_eq_true rfl)
  rw [lg_entry_eq]
  generalize (lg_sl ([.ref (ad 39), .int a1, .int a2, .long a3, .int 1]) ++ List.replicate (8 - (lg_sl ([.ref (ad 39), .int a1, .int a2, .long a3, .int 1])).length) Slot.unset).toArray = ls at hl ⊢
  have hl : lv_has ls 8 [(0, .ref (ad 39)), (1, .int a1), (2, .int a2), (3, .long a3), (5, .int 1)] := hl
  generalize hloc : ([] : List Loc) = locs at hw ⊢
  have hinX7 : ∀ w ∈ u_ws RX7 TX7 12, w ∈ wsX7_openHours := fun _ h => List.mem_cons_of_mem _ (List.mem_append_right _ (h))
  have J93 : ∀ (v93_6 : Int32) (v93_7 : Int32) (H : Heap) (locs : List Loc) (ls : Array Slot) (w1 : va_W), 0 ≤ a1.toInt → a1.toInt ≤ 11 → 0 ≤ a2.toInt → a2.toInt ≤ 1 → 0 ≤ a3.toInt → a3.toInt ≤ 96076792050570581 → 0 ≤ v93_7.toInt → v93_7.toInt ≤ 8 → Wd dC dI A s.heap H locs w1 → TW ksC ad cy B qr s1 w1 → FE ksC ([] : List (Nat × Nat × Nat)) w0 w1 → lv_has ls 8 [(0, .ref (ad 39)), (1, .int a1), (2, .int a2), (3, .long a3), (5, .int 1), (6, .int v93_6), (7, .int v93_7)] → W p l e ({ frames := 1, cells := 0, slots := 0, locals := 12 }) s m (List.toArray [.ref (ad 39), .int a1, .int a2, .long a3, .int 1]) below meth c H locs 0 0 (MQ below (va_Qi (P_X7_openHours_3 ad cy B qr s1 a1 a2 a3 w0) (fun u : va_W => wpost dC dI cy A u) A) (List.toArray [.ref (ad 39), .int a1, .int a2, .long a3, .int 1]) s 0 0 A) (F0 m 93 ls []) := by
    intro v93_6 v93_7 H locs ls w1 r2 t3 r4 t5 r6 t7 r8 t9 hw hT hF hl
    refine lv_ldc (v := 16777215) hx hb hC.2.2.2.1 (hC.2.2.2.2 _ (List.mem_of_getElem? (i := 6) rfl)) dX7_openHours_93 ?_
    refine lv_aload_n hx hb dX7_openHours_95 rfl (lv_at hl 0 rfl) ?_
    refine tk_getO hC hK hw hT hinX7 kC_at39 (by decide) rfl 3 (by decide) (List.mem_of_getElem? (i := 7) rfl) rfl rfl dX7_openHours_96 ?_
    refine lv_iload_n hx hb dX7_openHours_99 rfl (lv_at hl 1 rfl) ?_
    refine tk_iald hC hK hw hT kC_at43 rfl rfl (show 0 ≤ a1.toInt by omega) (show a1.toInt < 13 by omega) dX7_openHours_100 (fun x10 c11 rx10 tx10 => ?_)
    refine lv_iconst (v := (-1)) hx hb dX7_openHours_101 (by decide) ?_
    refine lv_ixor hx hb dX7_openHours_102 ?_
    refine lv_topi (fun x12 ex12 => ?_)
    refine lv_iand hx hb dX7_openHours_103 ?_
    refine lv_topi (fun x13 ex13 => ?_)
    have bx13 : 0 ≤ x13.toInt ∧ x13.toInt ≤ (16777215 : Int) := by rw [ex13]; exact wk_andC (by decide)
    exact tk_iret hC hr hlocks hK ⟨hT, hF, ⟨(show 0 ≤ x13.toInt by omega), (show x13.toInt ≤ 16777215 by omega)⟩⟩ hw dX7_openHours_104
  have L44 : ∀ (n44 : Nat) (v44_6 : Int32) (v44_7 : Int32) (H : Heap) (locs : List Loc) (ls : Array Slot) (w14 : va_W), 0 ≤ a1.toInt → a1.toInt ≤ 11 → 0 ≤ a2.toInt → a2.toInt ≤ 1 → 0 ≤ a3.toInt → a3.toInt ≤ 96076792050570581 → 0 ≤ v44_7.toInt → v44_7.toInt ≤ 8 → (8 - v44_7.toInt).toNat < n44 → Wd dC dI A s.heap H locs w14 → TW ksC ad cy B qr s1 w14 → FE ksC ([] : List (Nat × Nat × Nat)) w0 w14 → lv_has ls 8 [(0, .ref (ad 39)), (1, .int a1), (2, .int a2), (3, .long a3), (5, .int 1), (6, .int v44_6), (7, .int v44_7)] → W p l e ({ frames := 1, cells := 0, slots := 0, locals := 12 }) s m (List.toArray [.ref (ad 39), .int a1, .int a2, .long a3, .int 1]) below meth c H locs 0 0 (MQ below (va_Qi (P_X7_openHours_3 ad cy B qr s1 a1 a2 a3 w0) (fun u : va_W => wpost dC dI cy A u) A) (List.toArray [.ref (ad 39), .int a1, .int a2, .long a3, .int 1]) s 0 0 A) (F0 m 44 ls []) := by
    intro n44
    induction n44 with
    | zero => intro v44_6 v44_7 H locs ls w14 r15 t16 r17 t18 r19 t20 r21 t22 hm44 hw hT hF hl; omega
    | succ n44 ih44 =>
      intro v44_6 v44_7 H locs ls w14 r15 t16 r17 t18 r19 t20 r21 t22 hm44 hw hT hF hl
      have J81 : ∀ (H : Heap) (locs : List Loc) (ls : Array Slot) (w23 : va_W), 0 ≤ a1.toInt → a1.toInt ≤ 11 → 0 ≤ a2.toInt → a2.toInt ≤ 1 → 0 ≤ a3.toInt → a3.toInt ≤ 96076792050570581 → 0 ≤ v44_7.toInt → v44_7.toInt ≤ 7 → Wd dC dI A s.heap H locs w23 → TW ksC ad cy B qr s1 w23 → FE ksC ([] : List (Nat × Nat × Nat)) w0 w23 → lv_has ls 8 [(0, .ref (ad 39)), (1, .int a1), (2, .int a2), (3, .long a3), (5, .int 1), (6, .int v44_6), (7, .int v44_7)] → W p l e ({ frames := 1, cells := 0, slots := 0, locals := 12 }) s m (List.toArray [.ref (ad 39), .int a1, .int a2, .long a3, .int 1]) below meth c H locs 0 0 (MQ below (va_Qi (P_X7_openHours_3 ad cy B qr s1 a1 a2 a3 w0) (fun u : va_W => wpost dC dI cy A u) A) (List.toArray [.ref (ad 39), .int a1, .int a2, .long a3, .int 1]) s 0 0 A) (F0 m 81 ls []) := by
        intro H locs ls w23 r24 t25 r26 t27 r28 t29 r30 t31 hw hT hF hl
        refine lv_iload hx hb dX7_openHours_81 (lv_at hl 5 rfl) ?_
        refine lv_iconst (v := 1) hx hb dX7_openHours_83 (by decide) ?_
        refine lv_ishr hx hb dX7_openHours_84 ?_
        refine lv_topi (fun x32 ex32 => ?_)
        refine lv_istore (lv' := [(6, .int x32), (0, .ref (ad 39)), (1, .int a1), (2, .int a2), (3, .long a3), (5, .int 1), (7, .int v44_7)]) hx hb dX7_openHours_85 hl (by decide) rfl (fun ls hl => ?_)
        obtain ⟨x33, ex33⟩ : ∃ y : Int32, y = v44_7 + Int32.ofInt 1 := ⟨_, rfl⟩
        refine lv_iinc (v := x33) (lv' := [(7, .int x33), (6, .int x32), (0, .ref (ad 39)), (1, .int a1), (2, .int a2), (3, .long a3), (5, .int 1)]) hx hb dX7_openHours_87 hl (k := 6) rfl ex33.symm (by decide) rfl (fun ls hl => ?_)
        have ex33 : x33.toInt = v44_7.toInt + 1 := by rw [ex33]; exact wk_add (y := 1) (show -2147483648 ≤ v44_7.toInt + 1 by omega) (show v44_7.toInt + 1 ≤ 2147483647 by omega)
        refine lv_goto (tgt := 44) hx hb dX7_openHours_90 (by decide) ?_
        exact ih44 x32 x33 H locs ls w23 (show 0 ≤ a1.toInt by omega) (show a1.toInt ≤ 11 by omega) (show 0 ≤ a2.toInt by omega) (show a2.toInt ≤ 1 by omega) (show 0 ≤ a3.toInt by omega) (show a3.toInt ≤ 96076792050570581 by omega) (show 0 ≤ x33.toInt by omega) (show x33.toInt ≤ 8 by omega) (show (8 - x33.toInt).toNat < n44 by omega) hw hT hF  (lv_sub hl [2, 3, 4, 5, 6, 1, 0] rfl)
      refine lv_iload hx hb dX7_openHours_44 (lv_at hl 5 rfl) ?_
      refine lv_if_eq (tgt := 93) hx hb dX7_openHours_46 (by decide) (fun c34 => ?_) (fun c34 => ?_)
      · have c34 : v44_6.toInt = (0 : Int) := wk_eq.mp c34
        exact J93 v44_6 v44_7 H locs ls w14 (show 0 ≤ a1.toInt by omega) (show a1.toInt ≤ 11 by omega) (show 0 ≤ a2.toInt by omega) (show a2.toInt ≤ 1 by omega) (show 0 ≤ a3.toInt by omega) (show a3.toInt ≤ 96076792050570581 by omega) (show 0 ≤ v44_7.toInt by omega) (show v44_7.toInt ≤ 8 by omega)  hw hT hF  (lv_sub hl [0, 1, 2, 3, 4, 5, 6] rfl)
      · have c34 : ¬ v44_6.toInt = (0 : Int) := wk_eqF c34
        refine lv_iload hx hb dX7_openHours_49 (lv_at hl 6 rfl) ?_
        refine lv_bipush (v := 8) hx hb dX7_openHours_51 (by decide) ?_
        refine lv_icmp_ge (tgt := 93) hx hb dX7_openHours_53 (by decide) (fun c35 => ?_) (fun c35 => ?_)
        · have c35 : (8 : Int) ≤ v44_7.toInt := wk_le.mp c35
          exact J93 v44_6 v44_7 H locs ls w14 (show 0 ≤ a1.toInt by omega) (show a1.toInt ≤ 11 by omega) (show 0 ≤ a2.toInt by omega) (show a2.toInt ≤ 1 by omega) (show 0 ≤ a3.toInt by omega) (show a3.toInt ≤ 96076792050570581 by omega) (show 0 ≤ v44_7.toInt by omega) (show v44_7.toInt ≤ 8 by omega)  hw hT hF  (lv_sub hl [0, 1, 2, 3, 4, 5, 6] rfl)
        · have c35 : v44_7.toInt < (8 : Int) := wk_leF c35
          refine lv_iload hx hb dX7_openHours_56 (lv_at hl 5 rfl) ?_
          refine lv_iconst (v := 1) hx hb dX7_openHours_58 (by decide) ?_
          refine lv_iand hx hb dX7_openHours_59 ?_
          refine lv_topi (fun x36 ex36 => ?_)
          have bx36 : 0 ≤ x36.toInt ∧ x36.toInt ≤ (1 : Int) := by rw [ex36]; exact wk_and (by decide)
          refine lv_if_eq (tgt := 81) hx hb dX7_openHours_60 (by decide) (fun c37 => ?_) (fun c37 => ?_)
          · have c37 : x36.toInt = (0 : Int) := wk_eq.mp c37
            exact J81  H locs ls w14 (show 0 ≤ a1.toInt by omega) (show a1.toInt ≤ 11 by omega) (show 0 ≤ a2.toInt by omega) (show a2.toInt ≤ 1 by omega) (show 0 ≤ a3.toInt by omega) (show a3.toInt ≤ 96076792050570581 by omega) (show 0 ≤ v44_7.toInt by omega) (show v44_7.toInt ≤ 7 by omega)  hw hT hF  (lv_sub hl [0, 1, 2, 3, 4, 5, 6] rfl)
          · have c37 : ¬ x36.toInt = (0 : Int) := wk_eqF c37
            refine lv_aload_n hx hb dX7_openHours_63 rfl (lv_at hl 0 rfl) ?_
            refine tk_getO hC hK hw hT hinX7 kC_at39 (by decide) rfl 6 (by decide) (List.mem_of_getElem? (i := 4) rfl) rfl rfl dX7_openHours_64 ?_
            refine lv_iload hx hb dX7_openHours_67 (lv_at hl 6 rfl) ?_
            refine tk_iald hC hK hw hT kC_at46 rfl rfl (show 0 ≤ v44_7.toInt by omega) (show v44_7.toInt < 8 by omega) dX7_openHours_69 (fun x38 c39 rx38 tx38 => ?_)
            refine lv_lload_n hx hb dX7_openHours_70 rfl (lv_at hl 3 rfl) ?_
            refine lv_ldc2 (v := 360) hx hb hC.2.2.2.1 (hC.2.2.2.2 _ (List.mem_of_getElem? (i := 5) rfl)) dX7_openHours_71 ?_
            refine lv_lrem hx hb dX7_openHours_74 (by decide) ?_
            refine lv_topl (fun x40 ex40 => ?_)
            have ex40 : x40.toInt = a3.toInt % (360 : Int) := by rw [ex40]; exact wk_reml (show 0 ≤ a3.toInt by omega) (show 0 < (360 : Int) by decide)
            refine lv_l2i hx hb dX7_openHours_75 rfl ?_
            refine lv_topi (fun x41 ex41 => ?_)
            have ex41 : x41.toInt = x40.toInt := by rw [ex41]; exact wk_l2i (by omega) (by omega)
            refine lv_icmp_ne (tgt := 81) hx hb dX7_openHours_76 (by decide) (fun c42 => ?_) (fun c42 => ?_)
            · have c42 : ¬ x38.toInt = x41.toInt := wk_eqF c42
              exact J81  H locs ls w14 (show 0 ≤ a1.toInt by omega) (show a1.toInt ≤ 11 by omega) (show 0 ≤ a2.toInt by omega) (show a2.toInt ≤ 1 by omega) (show 0 ≤ a3.toInt by omega) (show a3.toInt ≤ 96076792050570581 by omega) (show 0 ≤ v44_7.toInt by omega) (show v44_7.toInt ≤ 7 by omega)  hw hT hF  (lv_sub hl [0, 1, 2, 3, 4, 5, 6] rfl)
            · have c42 : x38.toInt = x41.toInt := wk_eq.mp c42
              refine lv_iconst (v := 0) hx hb dX7_openHours_79 (by decide) ?_
              exact tk_iret hC hr hlocks hK ⟨hT, hF, ⟨(by decide), (by decide)⟩⟩ hw dX7_openHours_80
  refine lv_aload_n hx hb dX7_openHours_0 rfl (lv_at hl 0 rfl) ?_
  refine tk_getO hC hK hw hT hinX7 kC_at39 (by decide) rfl 4 (by decide) (List.mem_of_getElem? (i := 1) rfl) rfl rfl dX7_openHours_1 ?_
  refine lv_iconst (v := 2) hx hb dX7_openHours_4 (by decide) ?_
  refine lv_iload_n hx hb dX7_openHours_5 rfl (lv_at hl 1 rfl) ?_
  refine lv_imul hx hb dX7_openHours_6 ?_
  refine lv_topi (fun x43 ex43 => ?_)
  have ex43 : x43.toInt = (2 : Int) * a1.toInt := by rw [ex43]; exact wk_mul (show (-2147483648) ≤ (2 : Int) * a1.toInt by omega) (show (2 : Int) * a1.toInt ≤ 2147483647 by omega)
  refine lv_iload_n hx hb dX7_openHours_7 rfl (lv_at hl 2 rfl) ?_
  refine lv_iadd hx hb dX7_openHours_8 ?_
  refine lv_topi (fun x44 ex44 => ?_)
  have ex44 : x44.toInt = x43.toInt + a2.toInt := by rw [ex44]; exact wk_add (show (-2147483648) ≤ x43.toInt + a2.toInt by omega) (show x43.toInt + a2.toInt ≤ 2147483647 by omega)
  refine tk_iald hC hK hw hT kC_at44 rfl rfl (show 0 ≤ x44.toInt by omega) (show x44.toInt < 26 by omega) dX7_openHours_9 (fun x45 c46 rx45 tx45 => ?_)
  refine lv_lload_n hx hb dX7_openHours_10 rfl (lv_at hl 3 rfl) ?_
  refine lv_ldc2 (v := 7) hx hb hC.2.2.2.1 (hC.2.2.2.2 _ (List.mem_of_getElem? (i := 2) rfl)) dX7_openHours_11 ?_
  refine lv_lrem hx hb dX7_openHours_14 (by decide) ?_
  refine lv_topl (fun x47 ex47 => ?_)
  have ex47 : x47.toInt = a3.toInt % (7 : Int) := by rw [ex47]; exact wk_reml (show 0 ≤ a3.toInt by omega) (show 0 < (7 : Int) by decide)
  refine lv_l2i hx hb dX7_openHours_15 rfl ?_
  refine lv_topi (fun x48 ex48 => ?_)
  have ex48 : x48.toInt = x47.toInt := by rw [ex48]; exact wk_l2i (by omega) (by omega)
  refine lv_ishr hx hb dX7_openHours_16 ?_
  refine lv_topi (fun x49 ex49 => ?_)
  refine lv_iconst (v := 1) hx hb dX7_openHours_17 (by decide) ?_
  refine lv_iand hx hb dX7_openHours_18 ?_
  refine lv_topi (fun x50 ex50 => ?_)
  have bx50 : 0 ≤ x50.toInt ∧ x50.toInt ≤ (1 : Int) := by rw [ex50]; exact wk_and (by decide)
  refine lv_if_ne (tgt := 24) hx hb dX7_openHours_19 (by decide) (fun c51 => ?_) (fun c51 => ?_)
  · have c51 : ¬ x50.toInt = (0 : Int) := wk_eqF c51
    refine lv_iload hx hb dX7_openHours_24 (lv_at hl 4 rfl) ?_
    refine lv_if_eq (tgt := 38) hx hb dX7_openHours_26 (by decide) (fun c => absurd c (by decide)) (fun _ => ?_)
    refine lv_aload_n hx hb dX7_openHours_29 rfl (lv_at hl 0 rfl) ?_
    refine tk_getO hC hK hw hT hinX7 kC_at39 (by decide) rfl 7 (by decide) (List.mem_of_getElem? (i := 3) rfl) rfl rfl dX7_openHours_30 ?_
    refine lv_iload_n hx hb dX7_openHours_33 rfl (lv_at hl 1 rfl) ?_
    refine tk_iald hC hK hw hT kC_at47 rfl rfl (show 0 ≤ a1.toInt by omega) (show a1.toInt < 13 by omega) dX7_openHours_34 (fun x52 c53 rx52 tx52 => ?_)
    refine lv_goto (tgt := 39) hx hb dX7_openHours_35 (by decide) ?_
    refine lv_istore (lv' := [(6, .int x52), (0, .ref (ad 39)), (1, .int a1), (2, .int a2), (3, .long a3), (5, .int 1)]) hx hb dX7_openHours_39 hl (by decide) rfl (fun ls hl => ?_)
    refine lv_iconst (v := 0) hx hb dX7_openHours_41 (by decide) ?_
    refine lv_istore (lv' := [(7, .int 0), (6, .int x52), (0, .ref (ad 39)), (1, .int a1), (2, .int a2), (3, .long a3), (5, .int 1)]) hx hb dX7_openHours_42 hl (by decide) rfl (fun ls hl => ?_)
    exact L44 ((8 - (0 : Int)).toNat + 1) x52 0 s.heap locs ls w0 (show 0 ≤ a1.toInt by omega) (show a1.toInt ≤ 11 by omega) (show 0 ≤ a2.toInt by omega) (show a2.toInt ≤ 1 by omega) (show 0 ≤ a3.toInt by omega) (show a3.toInt ≤ 96076792050570581 by omega) (by decide) (by decide) (Nat.lt_succ_self _) hw hT hF  (lv_sub hl [2, 3, 4, 5, 6, 1, 0] rfl)
  · have c51 : x50.toInt = (0 : Int) := wk_eq.mp c51
    refine lv_iconst (v := 0) hx hb dX7_openHours_22 (by decide) ?_
    exact tk_iret hC hr hlocks hK ⟨hT, hF, ⟨(by decide), (by decide)⟩⟩ hw dX7_openHours_23
abbrev P_X7_isOpen_3 (ad : Nat → Nat) (cy : Nat → ClassId) (B : Int) (qr : Nat) (s1 : Int) (a1 : Int32) (a2 : Int32) (a3 : Int64) (w0 : va_W) : Int32 → va_W → Prop := fun r u => TW ksC ad cy B qr s1 u ∧ FE ksC ([] : List (Nat × Nat × Nat)) w0 u ∧ ((r = 0) ∨ (r = 1))
set_option maxHeartbeats 4000000 in
set_option maxRecDepth 100000 in
theorem k_X7_isOpen_3 (l : Launch) (adK adV : Nat → Nat) (dC : Nat → ClassId) (dI : Nat → Nat → Nat) (cy : Nat → ClassId) (ad : Nat → Nat) (B : Int) (hB0 : 2147483648 ≤ B) (hB1 : B ≤ 1152921504606846976) (qr : Nat) (s1 : Int)  (a1 : Int32) (ra1 : 0 ≤ a1.toInt) (ta1 : a1.toInt ≤ 11) (a2 : Int32) (ra2 : 0 ≤ a2.toInt) (ta2 : a2.toInt ≤ 1) (a3 : Int64) (ra3 : 0 ≤ a3.toInt) (ta3 : a3.toInt ≤ 2305843009213693952) (w0 : va_W) (sz : Nat) (hT : TW ksC ad cy B qr s1 w0)  : Met l yX7_isOpen wsX7_isOpen ({ frames := 2, cells := 0, slots := 0, locals := 39 }) (va_Pc [.ref (ad 39), .int a1, .int a2, .long a3, .int 1] (wpreS adK adV dC dI cy sz w0)) (va_Qi (P_X7_isOpen_3 ad cy B qr s1 a1 a2 a3 w0) (fun u : va_W => wpost dC dI cy (va_A w0 sz) u) (va_A w0 sz)) 0 0 (va_A w0 sz) := by
  refine Met.ofW (cc := cX7_isOpen) (maxL := 7) (ret := (some .boolean)) (by decide) rfl ?_
  intro p e s m args below meth c s₁ Bk hml hv
  obtain ⟨rfl, ⟨hsz, hP, hK, hD0⟩, hE, hSR⟩ := hv
  have hx := Bk.exec
  have hb := Bk.bytes
  have hr := Bk.returns
  have hlocks := Bk.notSynchronized
  have hC : CallFix p m c cX7_isOpen 7 s _ wsX7_isOpen RX7 := ⟨hx, hb, hml, findClass_of_methodNamed Bk.named, atoms_spec (ws := wsX7_isOpen) Bk.pre⟩
  subst hsz
  have hD := hD0.self (sz := s.heap.size)
  generalize hAe : va_A w0 s.heap.size = A at hD hE ⊢
  have hA : ∀ q : Nat, s.heap.size ≤ q → A q := fun q h => by rw [← hAe]; exact Or.inr h
  have hw : Wd dC dI A s.heap s.heap [] w0 := ⟨hP, hD, va_S.rf⟩
  have hF : FE ksC ([] : List (Nat × Nat × Nat)) w0 w0 := FE.rf
  have hl := lv_entry ([.ref (ad 39), .int a1, .int a2, .long a3, .int 1]) (n := 7) (Nat.le_of_ble_eq_true rfl)
  rw [lg_entry_eq]
  generalize (lg_sl ([.ref (ad 39), .int a1, .int a2, .long a3, .int 1]) ++ List.replicate (7 - (lg_sl ([.ref (ad 39), .int a1, .int a2, .long a3, .int 1])).length) Slot.unset).toArray = ls at hl ⊢
  have hl : lv_has ls 7 [(0, .ref (ad 39)), (1, .int a1), (2, .int a2), (3, .long a3), (5, .int 1)] := hl
  generalize hloc : ([] : List Loc) = locs at hw ⊢
  refine lv_aload_n hx hb dX7_isOpen_0 rfl (lv_at hl 0 rfl) ?_
  refine lv_iload_n hx hb dX7_isOpen_1 rfl (lv_at hl 1 rfl) ?_
  refine lv_iload_n hx hb dX7_isOpen_2 rfl (lv_at hl 2 rfl) ?_
  refine lv_lload_n hx hb dX7_isOpen_3 rfl (lv_at hl 3 rfl) ?_
  refine lv_ldc2 (v := 24) hx hb hC.2.2.2.1 (hC.2.2.2.2 _ (List.mem_of_getElem? (i := 1) rfl)) dX7_isOpen_4 ?_
  refine lv_ldiv hx hb dX7_isOpen_7 (by decide) ?_
  refine lv_topl (fun x1 ex1 => ?_)
  have ex1 : x1.toInt = a3.toInt / (24 : Int) := by rw [ex1]; exact wk_divl (show 0 ≤ a3.toInt by omega) (show 0 < (24 : Int) by decide)
  refine lv_iload hx hb dX7_isOpen_8 (lv_at hl 4 rfl) ?_
  refine tk_Vi hC hK hw hT hA hE hSR kC_at39 (by decide) rfl (k_X7_openHours_3 l adK adV dC dI cy ad B (by omega) (by omega) qr s1   a1 (show 0 ≤ a1.toInt by omega) (show a1.toInt ≤ 11 by omega) a2 (show 0 ≤ a2.toInt by omega) (show a2.toInt ≤ 1 by omega) x1 (show 0 ≤ x1.toInt by omega) (show x1.toInt ≤ 96076792050570581 by omega) w0 s.heap.size hT ) (cwV 4 hC.2.2.2.2 gX7_isOpen_X7_openHours rfl rfl rfl (by decide +kernel) ⟨Nat.le_of_ble_eq_true rfl, Nat.le_of_ble_eq_true rfl⟩) rfl hl.1 rfl (Nat.le_of_ble_eq_true rfl) dX7_isOpen_10 (fun r2 w4 H locs hp3 hw => ?_)
  obtain ⟨hT, k5, hg8⟩ := hp3
  have hF := hF.tr k5 (by decide)
  obtain ⟨g6, g7⟩ := hg8
  refine lv_istore (lv' := [(6, .int r2), (0, .ref (ad 39)), (1, .int a1), (2, .int a2), (3, .long a3), (5, .int 1)]) hx hb dX7_isOpen_13 hl (by decide) rfl (fun ls hl => ?_)
  refine lv_iload hx hb dX7_isOpen_15 (lv_at hl 0 rfl) ?_
  refine lv_lload_n hx hb dX7_isOpen_17 rfl (lv_at hl 4 rfl) ?_
  refine lv_ldc2 (v := 24) hx hb hC.2.2.2.1 (hC.2.2.2.2 _ (List.mem_of_getElem? (i := 1) rfl)) dX7_isOpen_18 ?_
  refine lv_lrem hx hb dX7_isOpen_21 (by decide) ?_
  refine lv_topl (fun x9 ex9 => ?_)
  have ex9 : x9.toInt = a3.toInt % (24 : Int) := by rw [ex9]; exact wk_reml (show 0 ≤ a3.toInt by omega) (show 0 < (24 : Int) by decide)
  refine lv_l2i hx hb dX7_isOpen_22 rfl ?_
  refine lv_topi (fun x10 ex10 => ?_)
  have ex10 : x10.toInt = x9.toInt := by rw [ex10]; exact wk_l2i (by omega) (by omega)
  refine lv_ishr hx hb dX7_isOpen_23 ?_
  refine lv_topi (fun x11 ex11 => ?_)
  have bx11 : 0 ≤ x11.toInt ∧ x11.toInt ≤ r2.toInt := by rw [ex11]; exact wk_shr (by omega)
  refine lv_iconst (v := 1) hx hb dX7_isOpen_24 (by decide) ?_
  refine lv_iand hx hb dX7_isOpen_25 ?_
  refine lv_topi (fun x12 ex12 => ?_)
  have bx12 : 0 ≤ x12.toInt ∧ x12.toInt ≤ (1 : Int) := by rw [ex12]; exact wk_and (by decide)
  refine lv_if_eq (tgt := 33) hx hb dX7_isOpen_26 (by decide) (fun c13 => ?_) (fun c13 => ?_)
  · have c13 : x12.toInt = (0 : Int) := wk_eq.mp c13
    refine lv_iconst (v := 0) hx hb dX7_isOpen_33 (by decide) ?_
    exact tk_zret hC hr rfl hlocks hK ⟨hT, hF, (Or.inl rfl)⟩ hw dX7_isOpen_34
  · have c13 : ¬ x12.toInt = (0 : Int) := wk_eqF c13
    refine lv_iconst (v := 1) hx hb dX7_isOpen_29 (by decide) ?_
    refine lv_goto (tgt := 34) hx hb dX7_isOpen_30 (by decide) ?_
    exact tk_zret hC hr rfl hlocks hK ⟨hT, hF, (Or.inr rfl)⟩ hw dX7_isOpen_34
abbrev P_X1_isOpenFor_1 (ad : Nat → Nat) (cy : Nat → ClassId) (B : Int) (qr : Nat) (s1 : Int) (q1_ : Nat) (a2 : Int32) (w0 : va_W) : Int32 → va_W → Prop := fun r u => TW ksC ad cy B qr s1 u ∧ FE ksC ([] : List (Nat × Nat × Nat)) w0 u ∧ ((r = 0) ∨ (r = 1 ∧ (∃ y : Int32, gi u 149 9 = y ∧ 0 ≤ y.toInt ∧ y.toInt ≤ 1)))
set_option maxHeartbeats 4000000 in
set_option maxRecDepth 100000 in
theorem k_X1_isOpenFor_1 (l : Launch) (adK adV : Nat → Nat) (dC : Nat → ClassId) (dI : Nat → Nat → Nat) (cy : Nat → ClassId) (ad : Nat → Nat) (B : Int) (hB0 : 2147483648 ≤ B) (hB1 : B ≤ 1152921504606846976) (qr : Nat) (s1 : Int)  (q1_ : Nat) (hkq1_ : ksC[q1_]? = some 9) (a2 : Int32) (ra2 : 0 ≤ a2.toInt) (ta2 : a2.toInt ≤ 11) (w0 : va_W) (sz : Nat) (hT : TW ksC ad cy B qr s1 w0)  : Met l yX1_isOpenFor wsX1_isOpenFor ({ frames := 3, cells := 0, slots := 0, locals := 65 }) (va_Pc [.ref (ad 149), .ref (ad q1_), .int a2] (wpreS adK adV dC dI cy sz w0)) (va_Qi (P_X1_isOpenFor_1 ad cy B qr s1 q1_ a2 w0) (fun u : va_W => wpost dC dI cy (va_A w0 sz) u) (va_A w0 sz)) 0 0 (va_A w0 sz) := by
  refine Met.ofW (cc := cX1_isOpenFor) (maxL := 4) (ret := (some .boolean)) (by decide) rfl ?_
  intro p e s m args below meth c s₁ Bk hml hv
  obtain ⟨rfl, ⟨hsz, hP, hK, hD0⟩, hE, hSR⟩ := hv
  have hx := Bk.exec
  have hb := Bk.bytes
  have hr := Bk.returns
  have hlocks := Bk.notSynchronized
  have hC : CallFix p m c cX1_isOpenFor 4 s _ wsX1_isOpenFor RX1 := ⟨hx, hb, hml, findClass_of_methodNamed Bk.named, atoms_spec (ws := wsX1_isOpenFor) Bk.pre⟩
  subst hsz
  have hD := hD0.self (sz := s.heap.size)
  generalize hAe : va_A w0 s.heap.size = A at hD hE ⊢
  have hA : ∀ q : Nat, s.heap.size ≤ q → A q := fun q h => by rw [← hAe]; exact Or.inr h
  have hw : Wd dC dI A s.heap s.heap [] w0 := ⟨hP, hD, va_S.rf⟩
  have hF : FE ksC ([] : List (Nat × Nat × Nat)) w0 w0 := FE.rf
  have hl := lv_entry ([.ref (ad 149), .ref (ad q1_), .int a2]) (n := 4) (Nat.le_of_ble_eq_true rfl)
  rw [lg_entry_eq]
  generalize (lg_sl ([.ref (ad 149), .ref (ad q1_), .int a2]) ++ List.replicate (4 - (lg_sl ([.ref (ad 149), .ref (ad q1_), .int a2])).length) Slot.unset).toArray = ls at hl ⊢
  have hl : lv_has ls 4 [(0, .ref (ad 149)), (1, .ref (ad q1_)), (2, .int a2)] := hl
  generalize hloc : ([] : List Loc) = locs at hw ⊢
  have hinX1 : ∀ w ∈ u_ws RX1 TX1 10, w ∈ wsX1_isOpenFor := fun _ h => List.mem_cons_of_mem _ (List.mem_append_left _ (List.mem_append_left _ (List.mem_append_left _ (List.mem_append_right _ (h)))))
  have hinX5 : ∀ w ∈ u_ws RX5 TX5 14, w ∈ wsX1_isOpenFor := fun _ h => List.mem_cons_of_mem _ (List.mem_append_left _ (List.mem_append_left _ (List.mem_append_right _ (h))))
  have hinX9 : ∀ w ∈ u_ws RX9 TX9 9, w ∈ wsX1_isOpenFor := fun _ h => List.mem_cons_of_mem _ (List.mem_append_left _ (List.mem_append_right _ (h)))
  have J56 : ∀ (v56_3 : Int32) (f56_q1__0 : Int32) (H : Heap) (locs : List Loc) (ls : Array Slot) (w1 : va_W), 0 ≤ a2.toInt → a2.toInt ≤ 11 → (-1) ≤ v56_3.toInt → v56_3.toInt ≤ 1 → 0 ≤ f56_q1__0.toInt → f56_q1__0.toInt ≤ 9 → Wd dC dI A s.heap H locs w1 → TW ksC ad cy B qr s1 w1 → FE ksC ([] : List (Nat × Nat × Nat)) w0 w1 → gi w1 q1_ 0 = f56_q1__0 → lv_has ls 4 [(0, .ref (ad 149)), (1, .ref (ad q1_)), (2, .int a2), (3, .int v56_3)] → W p l e ({ frames := 3, cells := 0, slots := 0, locals := 65 }) s m (List.toArray [.ref (ad 149), .ref (ad q1_), .int a2]) below meth c H locs 0 0 (MQ below (va_Qi (P_X1_isOpenFor_1 ad cy B qr s1 q1_ a2 w0) (fun u : va_W => wpost dC dI cy A u) A) (List.toArray [.ref (ad 149), .ref (ad q1_), .int a2]) s 0 0 A) (F0 m 56 ls []) := by
    intro v56_3 f56_q1__0 H locs ls w1 r2 t3 r4 t5 r6 t7 hw hT hF c8 hl
    refine lv_iconst (v := 0) hx hb dX1_isOpenFor_56 (by decide) ?_
    exact tk_zret hC hr rfl hlocks hK ⟨hT, hF, (Or.inl rfl)⟩ hw dX1_isOpenFor_57
  refine lv_aload_n hx hb dX1_isOpenFor_0 rfl (lv_at hl 0 rfl) ?_
  refine tk_getA hC hK hw hT hinX1 kC_at149 (by decide) rfl 0 (by decide) (List.mem_of_getElem? (i := 1) rfl) rfl rfl dX1_isOpenFor_1 ?_
  refine tk_getO hC hK hw hT hinX5 kC_at38 (by decide) rfl 0 (by decide) (List.mem_of_getElem? (i := 2) rfl) rfl rfl dX1_isOpenFor_4 ?_
  refine lv_iload_n hx hb dX1_isOpenFor_7 rfl (lv_at hl 2 rfl) ?_
  refine lv_aload_n hx hb dX1_isOpenFor_8 rfl (lv_at hl 1 rfl) ?_
  refine tk_geti hC hK hw hT hinX9 hkq1_ (by decide) rfl 0 (by decide) (List.mem_of_getElem? (i := 3) rfl) rfl rfl dX1_isOpenFor_9 (fun x9 c10 rx9 tx9 => ?_)
  refine tk_Vi hC hK hw hT hA hE hSR kC_at39 (by decide) rfl (k_X7_sideOf_2 l adK adV dC dI cy ad B (by omega) (by omega) qr s1   a2 (show 0 ≤ a2.toInt by omega) (show a2.toInt ≤ 11 by omega) x9 (show 0 ≤ x9.toInt by omega) (show x9.toInt ≤ 9 by omega) w0 s.heap.size hT ) (cwV 2 hC.2.2.2.2 gX1_isOpenFor_X7_sideOf rfl rfl rfl (by decide +kernel) ⟨Nat.le_of_ble_eq_true rfl, Nat.le_of_ble_eq_true rfl⟩) rfl hl.1 rfl (Nat.le_of_ble_eq_true rfl) dX1_isOpenFor_12 (fun r11 w13 H locs hp12 hw => ?_)
  obtain ⟨hT, k14, hg17⟩ := hp12
  have hF := hF.tr k14 (by decide)
  have c18 := k14.gi hkq1_ (by decide) c10
  rcases hg17 with ⟨g15, g16⟩ | rfl
  · refine lv_istore_n (lv' := [(3, .int r11), (0, .ref (ad 149)), (1, .ref (ad q1_)), (2, .int a2)]) hx hb dX1_isOpenFor_15 rfl hl (by decide) rfl (fun ls hl => ?_)
    refine lv_iload_n hx hb dX1_isOpenFor_16 rfl (lv_at hl 0 rfl) ?_
    refine lv_iconst (v := (-1)) hx hb dX1_isOpenFor_17 (by decide) ?_
    refine lv_icmp_eq (tgt := 56) hx hb dX1_isOpenFor_18 (by decide) (fun c => absurd c (fun h => absurd (show r11.toInt = (-1 : Int) from wk_eq.mp h) (by omega))) (fun _ => ?_)
    refine lv_aload_n hx hb dX1_isOpenFor_21 rfl (lv_at hl 1 rfl) ?_
    refine tk_getA hC hK hw hT hinX1 kC_at149 (by decide) rfl 0 (by decide) (List.mem_of_getElem? (i := 1) rfl) rfl rfl dX1_isOpenFor_22 ?_
    refine tk_getO hC hK hw hT hinX5 kC_at38 (by decide) rfl 0 (by decide) (List.mem_of_getElem? (i := 2) rfl) rfl rfl dX1_isOpenFor_25 ?_
    refine lv_iload_n hx hb dX1_isOpenFor_28 rfl (lv_at hl 3 rfl) ?_
    refine lv_iload_n hx hb dX1_isOpenFor_29 rfl (lv_at hl 0 rfl) ?_
    refine lv_aload_n hx hb dX1_isOpenFor_30 rfl (lv_at hl 2 rfl) ?_
    refine tk_getB hC hK hw hT hinX9 hkq1_ (by decide) rfl 4 (by decide) (List.mem_of_getElem? (i := 4) rfl) rfl rfl dX1_isOpenFor_31 (fun x19 c20 rx19 tx19 => ?_)
    refine lv_aload_n hx hb dX1_isOpenFor_34 rfl (lv_at hl 1 rfl) ?_
    refine tk_geti hC hK hw hT hinX1 kC_at149 (by decide) rfl 9 (by decide) (List.mem_of_getElem? (i := 5) rfl) rfl rfl dX1_isOpenFor_35 (fun x21 c22 rx21 tx21 => ?_)
    refine lv_if_ne (tgt := 45) hx hb dX1_isOpenFor_38 (by decide) (fun c23 => ?_) (fun c23 => ?_)
    · have c23 : ¬ x21.toInt = (0 : Int) := wk_eqF c23
      refine lv_iconst (v := 0) hx hb dX1_isOpenFor_45 (by decide) ?_
      refine tk_Vi hC hK hw hT hA hE hSR kC_at39 (by decide) rfl (k_X7_isOpen_2 l adK adV dC dI cy ad B (by omega) (by omega) qr s1   a2 (show 0 ≤ a2.toInt by omega) (show a2.toInt ≤ 11 by omega) r11 (show 0 ≤ r11.toInt by omega) (show r11.toInt ≤ 1 by omega) x19 (show 0 ≤ x19.toInt by omega) (show x19.toInt ≤ 2305843009213693952 by omega) w13 H.size hT ) (cwV 4 hC.2.2.2.2 gX1_isOpenFor_X7_isOpen rfl rfl rfl (by decide +kernel) ⟨Nat.le_of_ble_eq_true rfl, Nat.le_of_ble_eq_true rfl⟩) rfl hl.1 rfl (Nat.le_of_ble_eq_true rfl) dX1_isOpenFor_46 (fun r24 w26 H locs hp25 hw => ?_)
      obtain ⟨hT, k27, hg28⟩ := hp25
      have hF := hF.tr k27 (by decide)
      have c29 := k27.gi hkq1_ (by decide) c18
      have c30 := k27.gl hkq1_ (by decide) c20
      have c31 := k27.gi kC_at149 (by decide) c22
      rcases hg28 with rfl | rfl
      · refine lv_if_eq (tgt := 56) hx hb dX1_isOpenFor_49 (by decide) (fun _ => ?_) (fun c => absurd (by decide) c)
        exact J56 r11 x9 H locs ls w26 (show 0 ≤ a2.toInt by omega) (show a2.toInt ≤ 11 by omega) (show (-1) ≤ r11.toInt by omega) (show r11.toInt ≤ 1 by omega) (show 0 ≤ x9.toInt by omega) (show x9.toInt ≤ 9 by omega)  hw hT hF c29 (lv_sub hl [1, 2, 3, 0] rfl)
      · refine lv_if_eq (tgt := 56) hx hb dX1_isOpenFor_49 (by decide) (fun c => absurd c (by decide)) (fun _ => ?_)
        refine lv_iconst (v := 1) hx hb dX1_isOpenFor_52 (by decide) ?_
        refine lv_goto (tgt := 57) hx hb dX1_isOpenFor_53 (by decide) ?_
        exact tk_zret hC hr rfl hlocks hK ⟨hT, hF, (Or.inr ⟨rfl, ⟨x21, c31, (show 0 ≤ x21.toInt by omega), (show x21.toInt ≤ 1 by omega)⟩⟩)⟩ hw dX1_isOpenFor_57
    · have c23 : x21.toInt = (0 : Int) := wk_eq.mp c23
      refine lv_iconst (v := 1) hx hb dX1_isOpenFor_41 (by decide) ?_
      refine lv_goto (tgt := 46) hx hb dX1_isOpenFor_42 (by decide) ?_
      refine tk_Vi hC hK hw hT hA hE hSR kC_at39 (by decide) rfl (k_X7_isOpen_3 l adK adV dC dI cy ad B (by omega) (by omega) qr s1   a2 (show 0 ≤ a2.toInt by omega) (show a2.toInt ≤ 11 by omega) r11 (show 0 ≤ r11.toInt by omega) (show r11.toInt ≤ 1 by omega) x19 (show 0 ≤ x19.toInt by omega) (show x19.toInt ≤ 2305843009213693952 by omega) w13 H.size hT ) (cwV 4 hC.2.2.2.2 gX1_isOpenFor_X7_isOpen rfl rfl rfl (by decide +kernel) ⟨Nat.le_of_ble_eq_true rfl, Nat.le_of_ble_eq_true rfl⟩) rfl hl.1 rfl (Nat.le_of_ble_eq_true rfl) dX1_isOpenFor_46 (fun r32 w34 H locs hp33 hw => ?_)
      obtain ⟨hT, k35, hg36⟩ := hp33
      have hF := hF.tr k35 (by decide)
      have c37 := k35.gi hkq1_ (by decide) c18
      have c38 := k35.gl hkq1_ (by decide) c20
      have c39 := k35.gi kC_at149 (by decide) c22
      rcases hg36 with rfl | rfl
      · refine lv_if_eq (tgt := 56) hx hb dX1_isOpenFor_49 (by decide) (fun _ => ?_) (fun c => absurd (by decide) c)
        exact J56 r11 x9 H locs ls w34 (show 0 ≤ a2.toInt by omega) (show a2.toInt ≤ 11 by omega) (show (-1) ≤ r11.toInt by omega) (show r11.toInt ≤ 1 by omega) (show 0 ≤ x9.toInt by omega) (show x9.toInt ≤ 9 by omega)  hw hT hF c37 (lv_sub hl [1, 2, 3, 0] rfl)
      · refine lv_if_eq (tgt := 56) hx hb dX1_isOpenFor_49 (by decide) (fun c => absurd c (by decide)) (fun _ => ?_)
        refine lv_iconst (v := 1) hx hb dX1_isOpenFor_52 (by decide) ?_
        refine lv_goto (tgt := 57) hx hb dX1_isOpenFor_53 (by decide) ?_
        exact tk_zret hC hr rfl hlocks hK ⟨hT, hF, (Or.inr ⟨rfl, ⟨x21, c39, (show 0 ≤ x21.toInt by omega), (show x21.toInt ≤ 1 by omega)⟩⟩)⟩ hw dX1_isOpenFor_57
  · refine lv_istore_n (lv' := [(3, .int (-1)), (0, .ref (ad 149)), (1, .ref (ad q1_)), (2, .int a2)]) hx hb dX1_isOpenFor_15 rfl hl (by decide) rfl (fun ls hl => ?_)
    refine lv_iload_n hx hb dX1_isOpenFor_16 rfl (lv_at hl 0 rfl) ?_
    refine lv_iconst (v := (-1)) hx hb dX1_isOpenFor_17 (by decide) ?_
    refine lv_icmp_eq (tgt := 56) hx hb dX1_isOpenFor_18 (by decide) (fun _ => ?_) (fun c => absurd (by decide) c)
    exact J56 (-1) x9 H locs ls w13 (show 0 ≤ a2.toInt by omega) (show a2.toInt ≤ 11 by omega) (by decide) (by decide) (show 0 ≤ x9.toInt by omega) (show x9.toInt ≤ 9 by omega)  hw hT hF c18 (lv_sub hl [1, 2, 3, 0] rfl)
abbrev P_X9_dayNow_1 (ad : Nat → Nat) (cy : Nat → ClassId) (B : Int) (qr : Nat) (s1 : Int) (q0_ : Nat) (w0 : va_W) : Int64 → va_W → Prop := fun r u => TW ksC ad cy B qr s1 u ∧ FE ksC ([] : List (Nat × Nat × Nat)) w0 u ∧ ((0 ≤ r.toInt ∧ r.toInt ≤ 96076792050570581))
set_option maxHeartbeats 4000000 in
set_option maxRecDepth 100000 in
theorem k_X9_dayNow_1 (l : Launch) (adK adV : Nat → Nat) (dC : Nat → ClassId) (dI : Nat → Nat → Nat) (cy : Nat → ClassId) (ad : Nat → Nat) (B : Int) (hB0 : 2147483648 ≤ B) (hB1 : B ≤ 1152921504606846976) (qr : Nat) (s1 : Int)  (q0_ : Nat) (hkq0_ : ksC[q0_]? = some 9) (w0 : va_W) (sz : Nat) (hT : TW ksC ad cy B qr s1 w0)  : Met l yX9_dayNow wsX9_dayNow ({ frames := 1, cells := 0, slots := 0, locals := 12 }) (va_Pc [.ref (ad q0_)] (wpreS adK adV dC dI cy sz w0)) (va_Ql (P_X9_dayNow_1 ad cy B qr s1 q0_ w0) (fun u : va_W => wpost dC dI cy (va_A w0 sz) u) (va_A w0 sz)) 0 0 (va_A w0 sz) := by
  refine Met.ofW (cc := cX9_dayNow) (maxL := 1) (ret := (some .long)) (by decide) rfl ?_
  intro p e s m args below meth c s₁ Bk hml hv
  obtain ⟨rfl, ⟨hsz, hP, hK, hD0⟩, hE, hSR⟩ := hv
  have hx := Bk.exec
  have hb := Bk.bytes
  have hr := Bk.returns
  have hlocks := Bk.notSynchronized
  have hC : CallFix p m c cX9_dayNow 1 s _ wsX9_dayNow RX9 := ⟨hx, hb, hml, findClass_of_methodNamed Bk.named, atoms_spec (ws := wsX9_dayNow) Bk.pre⟩
  subst hsz
  have hD := hD0.self (sz := s.heap.size)
  generalize hAe : va_A w0 s.heap.size = A at hD hE ⊢
  have hA : ∀ q : Nat, s.heap.size ≤ q → A q := fun q h => by rw [← hAe]; exact Or.inr h
  have hw : Wd dC dI A s.heap s.heap [] w0 := ⟨hP, hD, va_S.rf⟩
  have hF : FE ksC ([] : List (Nat × Nat × Nat)) w0 w0 := FE.rf
  have hl := lv_entry ([.ref (ad q0_)]) (n := 1) (Nat.le_of_ble_eq_true rfl)
  rw [lg_entry_eq]
  generalize (lg_sl ([.ref (ad q0_)]) ++ List.replicate (1 - (lg_sl ([.ref (ad q0_)])).length) Slot.unset).toArray = ls at hl ⊢
  have hl : lv_has ls 1 [(0, .ref (ad q0_))] := hl
  generalize hloc : ([] : List Loc) = locs at hw ⊢
  have hinX9 : ∀ w ∈ u_ws RX9 TX9 9, w ∈ wsX9_dayNow := fun _ h => List.mem_cons_of_mem _ (List.mem_append_right _ (h))
  refine lv_aload_n hx hb dX9_dayNow_0 rfl (lv_at hl 0 rfl) ?_
  refine tk_getB hC hK hw hT hinX9 hkq0_ (by decide) rfl 4 (by decide) (List.mem_of_getElem? (i := 1) rfl) rfl rfl dX9_dayNow_1 (fun x1 c2 rx1 tx1 => ?_)
  refine lv_ldc2 (v := 24) hx hb hC.2.2.2.1 (hC.2.2.2.2 _ (List.mem_of_getElem? (i := 2) rfl)) dX9_dayNow_4 ?_
  refine lv_ldiv hx hb dX9_dayNow_7 (by decide) ?_
  refine lv_topl (fun x3 ex3 => ?_)
  have ex3 : x3.toInt = x1.toInt / (24 : Int) := by rw [ex3]; exact wk_divl (show 0 ≤ x1.toInt by omega) (show 0 < (24 : Int) by decide)
  exact tk_lret hC hr hlocks hK ⟨hT, hF, ⟨(show 0 ≤ x3.toInt by omega), (show x3.toInt ≤ 96076792050570581 by omega)⟩⟩ hw dX9_dayNow_8
abbrev P_X9_askedToday_1 (ad : Nat → Nat) (cy : Nat → ClassId) (B : Int) (qr : Nat) (s1 : Int) (q0_ : Nat) (w0 : va_W) : Int32 → va_W → Prop := fun r u => TW ksC ad cy B qr s1 u ∧ FE ksC ([] : List (Nat × Nat × Nat)) w0 u ∧ ((r = 0) ∨ (r = 1))
set_option maxHeartbeats 4000000 in
set_option maxRecDepth 100000 in
theorem k_X9_askedToday_1 (l : Launch) (adK adV : Nat → Nat) (dC : Nat → ClassId) (dI : Nat → Nat → Nat) (cy : Nat → ClassId) (ad : Nat → Nat) (B : Int) (hB0 : 2147483648 ≤ B) (hB1 : B ≤ 1152921504606846976) (qr : Nat) (s1 : Int)  (q0_ : Nat) (hkq0_ : ksC[q0_]? = some 9) (w0 : va_W) (sz : Nat) (hT : TW ksC ad cy B qr s1 w0)  : Met l yX9_askedToday wsX9_askedToday ({ frames := 2, cells := 0, slots := 0, locals := 32 }) (va_Pc [.ref (ad q0_)] (wpreS adK adV dC dI cy sz w0)) (va_Qi (P_X9_askedToday_1 ad cy B qr s1 q0_ w0) (fun u : va_W => wpost dC dI cy (va_A w0 sz) u) (va_A w0 sz)) 0 0 (va_A w0 sz) := by
  refine Met.ofW (cc := cX9_askedToday) (maxL := 1) (ret := (some .boolean)) (by decide) rfl ?_
  intro p e s m args below meth c s₁ Bk hml hv
  obtain ⟨rfl, ⟨hsz, hP, hK, hD0⟩, hE, hSR⟩ := hv
  have hx := Bk.exec
  have hb := Bk.bytes
  have hr := Bk.returns
  have hlocks := Bk.notSynchronized
  have hC : CallFix p m c cX9_askedToday 1 s _ wsX9_askedToday RX9 := ⟨hx, hb, hml, findClass_of_methodNamed Bk.named, atoms_spec (ws := wsX9_askedToday) Bk.pre⟩
  subst hsz
  have hD := hD0.self (sz := s.heap.size)
  generalize hAe : va_A w0 s.heap.size = A at hD hE ⊢
  have hA : ∀ q : Nat, s.heap.size ≤ q → A q := fun q h => by rw [← hAe]; exact Or.inr h
  have hw : Wd dC dI A s.heap s.heap [] w0 := ⟨hP, hD, va_S.rf⟩
  have hF : FE ksC ([] : List (Nat × Nat × Nat)) w0 w0 := FE.rf
  have hl := lv_entry ([.ref (ad q0_)]) (n := 1) (Nat.le_of_ble_eq_true rfl)
  rw [lg_entry_eq]
  generalize (lg_sl ([.ref (ad q0_)]) ++ List.replicate (1 - (lg_sl ([.ref (ad q0_)])).length) Slot.unset).toArray = ls at hl ⊢
  have hl : lv_has ls 1 [(0, .ref (ad q0_))] := hl
  generalize hloc : ([] : List Loc) = locs at hw ⊢
  have hinX9 : ∀ w ∈ u_ws RX9 TX9 9, w ∈ wsX9_askedToday := fun _ h => List.mem_cons_of_mem _ (List.mem_append_right _ (h))
  refine lv_aload_n hx hb dX9_askedToday_0 rfl (lv_at hl 0 rfl) ?_
  refine tk_getl hC hK hw hT hinX9 hkq0_ (by decide) rfl 8 (by decide) (List.mem_of_getElem? (i := 1) rfl) rfl rfl dX9_askedToday_1 (fun x1 c2 rx1 tx1 => ?_)
  refine lv_aload_n hx hb dX9_askedToday_4 rfl (lv_at hl 0 rfl) ?_
  refine tk_Vl hC hK hw hT hA hE hSR hkq0_ (by decide) rfl (k_X9_dayNow_1 l adK adV dC dI cy ad B (by omega) (by omega) qr s1   q0_ hkq0_ w0 s.heap.size hT ) (cwV 0 hC.2.2.2.2 gX9_askedToday_X9_dayNow rfl rfl rfl (by decide +kernel) ⟨Nat.le_of_ble_eq_true rfl, Nat.le_of_ble_eq_true rfl⟩) rfl hl.1 rfl (Nat.le_of_ble_eq_true rfl) dX9_askedToday_5 (fun r3 w5 H locs hp4 hw => ?_)
  obtain ⟨hT, k6, hg9⟩ := hp4
  have hF := hF.tr k6 (by decide)
  have c10 := k6.gl hkq0_ (by decide) c2
  obtain ⟨g7, g8⟩ := hg9
  refine W.lcmp hx hb dX9_askedToday_8 ?_
  refine lv_if_ne (tgt := 16) hx hb dX9_askedToday_9 (by decide) (fun c11 => ?_) (fun c11 => ?_)
  · have c11 : ¬ x1.toInt = r3.toInt := wk_ceF c11
    refine lv_iconst (v := 0) hx hb dX9_askedToday_16 (by decide) ?_
    exact tk_zret hC hr rfl hlocks hK ⟨hT, hF, (Or.inl rfl)⟩ hw dX9_askedToday_17
  · have c11 : x1.toInt = r3.toInt := wk_ceT c11
    refine lv_iconst (v := 1) hx hb dX9_askedToday_12 (by decide) ?_
    refine lv_goto (tgt := 17) hx hb dX9_askedToday_13 (by decide) ?_
    exact tk_zret hC hr rfl hlocks hK ⟨hT, hF, (Or.inr rfl)⟩ hw dX9_askedToday_17
abbrev P_X0_ofWeekday_1 (ad : Nat → Nat) (cy : Nat → ClassId) (B : Int) (qr : Nat) (s1 : Int) (a0 : Int64) (w0 : va_W) : Int32 → va_W → Prop := fun r u => TW ksC ad cy B qr s1 u ∧ FE ksC ([] : List (Nat × Nat × Nat)) w0 u ∧ ((4 ≤ r.toInt ∧ r.toInt ≤ 10))
set_option maxHeartbeats 4000000 in
set_option maxRecDepth 100000 in
theorem k_X0_ofWeekday_1 (l : Launch) (adK adV : Nat → Nat) (dC : Nat → ClassId) (dI : Nat → Nat → Nat) (cy : Nat → ClassId) (ad : Nat → Nat) (B : Int) (hB0 : 2147483648 ≤ B) (hB1 : B ≤ 1152921504606846976) (qr : Nat) (s1 : Int)  (a0 : Int64) (ra0 : 0 ≤ a0.toInt) (ta0 : a0.toInt ≤ 96076792050570581) (w0 : va_W) (sz : Nat) (hT : TW ksC ad cy B qr s1 w0)  : Met l yX0_ofWeekday wsX0_ofWeekday ({ frames := 1, cells := 0, slots := 0, locals := 12 }) (va_Pc [.long a0] (wpreS adK adV dC dI cy sz w0)) (va_Qi (P_X0_ofWeekday_1 ad cy B qr s1 a0 w0) (fun u : va_W => wpost dC dI cy (va_A w0 sz) u) (va_A w0 sz)) 0 0 (va_A w0 sz) := by
  refine Met.ofW (cc := cX0_ofWeekday) (maxL := 2) (ret := (some .int)) (by decide) rfl ?_
  intro p e s m args below meth c s₁ Bk hml hv
  obtain ⟨rfl, ⟨hsz, hP, hK, hD0⟩, hE, hSR⟩ := hv
  have hx := Bk.exec
  have hb := Bk.bytes
  have hr := Bk.returns
  have hlocks := Bk.notSynchronized
  have hC : CallFix p m c cX0_ofWeekday 2 s _ wsX0_ofWeekday RX0 := ⟨hx, hb, hml, findClass_of_methodNamed Bk.named, atoms_spec (ws := wsX0_ofWeekday) Bk.pre⟩
  subst hsz
  have hD := hD0.self (sz := s.heap.size)
  generalize hAe : va_A w0 s.heap.size = A at hD hE ⊢
  have hA : ∀ q : Nat, s.heap.size ≤ q → A q := fun q h => by rw [← hAe]; exact Or.inr h
  have hw : Wd dC dI A s.heap s.heap [] w0 := ⟨hP, hD, va_S.rf⟩
  have hF : FE ksC ([] : List (Nat × Nat × Nat)) w0 w0 := FE.rf
  have hl := lv_entry ([.long a0]) (n := 2) (Nat.le_of_ble_eq_true rfl)
  rw [lg_entry_eq]
  generalize (lg_sl ([.long a0]) ++ List.replicate (2 - (lg_sl ([.long a0])).length) Slot.unset).toArray = ls at hl ⊢
  have hl : lv_has ls 2 [(0, .long a0)] := hl
  generalize hloc : ([] : List Loc) = locs at hw ⊢
  refine lv_iconst (v := 4) hx hb dX0_ofWeekday_0 (by decide) ?_
  refine lv_lload_n hx hb dX0_ofWeekday_1 rfl (lv_at hl 0 rfl) ?_
  refine lv_ldc2 (v := 7) hx hb hC.2.2.2.1 (hC.2.2.2.2 _ (List.mem_of_getElem? (i := 1) rfl)) dX0_ofWeekday_2 ?_
  refine lv_lrem hx hb dX0_ofWeekday_5 (by decide) ?_
  refine lv_topl (fun x1 ex1 => ?_)
  have ex1 : x1.toInt = a0.toInt % (7 : Int) := by rw [ex1]; exact wk_reml (show 0 ≤ a0.toInt by omega) (show 0 < (7 : Int) by decide)
  refine lv_l2i hx hb dX0_ofWeekday_6 rfl ?_
  refine lv_topi (fun x2 ex2 => ?_)
  have ex2 : x2.toInt = x1.toInt := by rw [ex2]; exact wk_l2i (by omega) (by omega)
  refine lv_iadd hx hb dX0_ofWeekday_7 ?_
  refine lv_topi (fun x3 ex3 => ?_)
  have ex3 : x3.toInt = (4 : Int) + x2.toInt := by rw [ex3]; exact wk_add (show (-2147483648) ≤ (4 : Int) + x2.toInt by omega) (show (4 : Int) + x2.toInt ≤ 2147483647 by omega)
  exact tk_iret hC hr hlocks hK ⟨hT, hF, ⟨(show 4 ≤ x3.toInt by omega), (show x3.toInt ≤ 10 by omega)⟩⟩ hw dX0_ofWeekday_8
abbrev P_X0_spot_3 (ad : Nat → Nat) (cy : Nat → ClassId) (B : Int) (qr : Nat) (s1 : Int) (a0 : Int32) (a1 : Int32) (a2 : Int32) (w0 : va_W) : Int32 → va_W → Prop := fun r u => TW ksC ad cy B qr s1 u ∧ FE ksC ([] : List (Nat × Nat × Nat)) w0 u ∧ ((400 ≤ r.toInt ∧ r.toInt ≤ 1099))
set_option maxHeartbeats 4000000 in
set_option maxRecDepth 100000 in
theorem k_X0_spot_3 (l : Launch) (adK adV : Nat → Nat) (dC : Nat → ClassId) (dI : Nat → Nat → Nat) (cy : Nat → ClassId) (ad : Nat → Nat) (B : Int) (hB0 : 2147483648 ≤ B) (hB1 : B ≤ 1152921504606846976) (qr : Nat) (s1 : Int)  (a0 : Int32) (ra0 : 4 ≤ a0.toInt) (ta0 : a0.toInt ≤ 10) (a1 : Int32) (ra1 : 0 ≤ a1.toInt) (ta1 : a1.toInt ≤ 9) (a2 : Int32) (ra2 : 0 ≤ a2.toInt) (ta2 : a2.toInt ≤ 9) (w0 : va_W) (sz : Nat) (hT : TW ksC ad cy B qr s1 w0)  : Met l yX0_spot wsX0_spot ({ frames := 1, cells := 0, slots := 0, locals := 12 }) (va_Pc [.int a0, .int a1, .int a2] (wpreS adK adV dC dI cy sz w0)) (va_Qi (P_X0_spot_3 ad cy B qr s1 a0 a1 a2 w0) (fun u : va_W => wpost dC dI cy (va_A w0 sz) u) (va_A w0 sz)) 0 0 (va_A w0 sz) := by
  refine Met.ofW (cc := cX0_spot) (maxL := 3) (ret := (some .int)) (by decide) rfl ?_
  intro p e s m args below meth c s₁ Bk hml hv
  obtain ⟨rfl, ⟨hsz, hP, hK, hD0⟩, hE, hSR⟩ := hv
  have hx := Bk.exec
  have hb := Bk.bytes
  have hr := Bk.returns
  have hlocks := Bk.notSynchronized
  have hC : CallFix p m c cX0_spot 3 s _ wsX0_spot RX0 := ⟨hx, hb, hml, findClass_of_methodNamed Bk.named, atoms_spec (ws := wsX0_spot) Bk.pre⟩
  subst hsz
  have hD := hD0.self (sz := s.heap.size)
  generalize hAe : va_A w0 s.heap.size = A at hD hE ⊢
  have hA : ∀ q : Nat, s.heap.size ≤ q → A q := fun q h => by rw [← hAe]; exact Or.inr h
  have hw : Wd dC dI A s.heap s.heap [] w0 := ⟨hP, hD, va_S.rf⟩
  have hF : FE ksC ([] : List (Nat × Nat × Nat)) w0 w0 := FE.rf
  have hl := lv_entry ([.int a0, .int a1, .int a2]) (n := 3) (Nat.le_of_ble_eq_true rfl)
  rw [lg_entry_eq]
  generalize (lg_sl ([.int a0, .int a1, .int a2]) ++ List.replicate (3 - (lg_sl ([.int a0, .int a1, .int a2])).length) Slot.unset).toArray = ls at hl ⊢
  have hl : lv_has ls 3 [(0, .int a0), (1, .int a1), (2, .int a2)] := hl
  generalize hloc : ([] : List Loc) = locs at hw ⊢
  refine lv_iload_n hx hb dX0_spot_0 rfl (lv_at hl 0 rfl) ?_
  refine lv_bipush (v := 100) hx hb dX0_spot_1 (by decide) ?_
  refine lv_imul hx hb dX0_spot_3 ?_
  refine lv_topi (fun x1 ex1 => ?_)
  have ex1 : x1.toInt = a0.toInt * (100 : Int) := by rw [ex1]; exact wk_mul (show (-2147483648) ≤ a0.toInt * (100 : Int) by omega) (show a0.toInt * (100 : Int) ≤ 2147483647 by omega)
  refine lv_iload_n hx hb dX0_spot_4 rfl (lv_at hl 1 rfl) ?_
  refine lv_bipush (v := 10) hx hb dX0_spot_5 (by decide) ?_
  refine lv_imul hx hb dX0_spot_7 ?_
  refine lv_topi (fun x2 ex2 => ?_)
  have ex2 : x2.toInt = a1.toInt * (10 : Int) := by rw [ex2]; exact wk_mul (show (-2147483648) ≤ a1.toInt * (10 : Int) by omega) (show a1.toInt * (10 : Int) ≤ 2147483647 by omega)
  refine lv_iadd hx hb dX0_spot_8 ?_
  refine lv_topi (fun x3 ex3 => ?_)
  have ex3 : x3.toInt = x1.toInt + x2.toInt := by rw [ex3]; exact wk_add (show (-2147483648) ≤ x1.toInt + x2.toInt by omega) (show x1.toInt + x2.toInt ≤ 2147483647 by omega)
  refine lv_iload_n hx hb dX0_spot_9 rfl (lv_at hl 2 rfl) ?_
  refine lv_iadd hx hb dX0_spot_10 ?_
  refine lv_topi (fun x4 ex4 => ?_)
  have ex4 : x4.toInt = x3.toInt + a2.toInt := by rw [ex4]; exact wk_add (show (-2147483648) ≤ x3.toInt + a2.toInt by omega) (show x3.toInt + a2.toInt ≤ 2147483647 by omega)
  exact tk_iret hC hr hlocks hK ⟨hT, hF, ⟨(show 400 ≤ x4.toInt by omega), (show x4.toInt ≤ 1099 by omega)⟩⟩ hw dX0_spot_11
abbrev P_X0_streetBy_2 (ad : Nat → Nat) (cy : Nat → ClassId) (B : Int) (qr : Nat) (s1 : Int) (a1 : Int32) (a2 : Int32) (a3 : Int32) (w0 : va_W) : Int32 → va_W → Prop := fun r u => TW ksC ad cy B qr s1 u ∧ FE ksC ([] : List (Nat × Nat × Nat)) w0 u ∧ (((-1) ≤ r.toInt ∧ r.toInt ≤ 11))
set_option maxHeartbeats 4000000 in
set_option maxRecDepth 100000 in
theorem k_X0_streetBy_2 (l : Launch) (adK adV : Nat → Nat) (dC : Nat → ClassId) (dI : Nat → Nat → Nat) (cy : Nat → ClassId) (ad : Nat → Nat) (B : Int) (hB0 : 2147483648 ≤ B) (hB1 : B ≤ 1152921504606846976) (qr : Nat) (s1 : Int)  (a1 : Int32) (ra1 : 4 ≤ a1.toInt) (ta1 : a1.toInt ≤ 10) (a2 : Int32) (ra2 : 0 ≤ a2.toInt) (ta2 : a2.toInt ≤ 9) (a3 : Int32) (ra3 : 0 ≤ a3.toInt) (ta3 : a3.toInt ≤ 9) (w0 : va_W) (sz : Nat) (hT : TW ksC ad cy B qr s1 w0)  : Met l yX0_streetBy wsX0_streetBy ({ frames := 2, cells := 0, slots := 0, locals := 34 }) (va_Pc [.ref (ad 145), .int a1, .int a2, .int a3] (wpreS adK adV dC dI cy sz w0)) (va_Qi (P_X0_streetBy_2 ad cy B qr s1 a1 a2 a3 w0) (fun u : va_W => wpost dC dI cy (va_A w0 sz) u) (va_A w0 sz)) 0 0 (va_A w0 sz) := by
  refine Met.ofW (cc := cX0_streetBy) (maxL := 4) (ret := (some .int)) (by decide) rfl ?_
  intro p e s m args below meth c s₁ Bk hml hv
  obtain ⟨rfl, ⟨hsz, hP, hK, hD0⟩, hE, hSR⟩ := hv
  have hx := Bk.exec
  have hb := Bk.bytes
  have hr := Bk.returns
  have hlocks := Bk.notSynchronized
  have hC : CallFix p m c cX0_streetBy 4 s _ wsX0_streetBy RX0 := ⟨hx, hb, hml, findClass_of_methodNamed Bk.named, atoms_spec (ws := wsX0_streetBy) Bk.pre⟩
  subst hsz
  have hD := hD0.self (sz := s.heap.size)
  generalize hAe : va_A w0 s.heap.size = A at hD hE ⊢
  have hA : ∀ q : Nat, s.heap.size ≤ q → A q := fun q h => by rw [← hAe]; exact Or.inr h
  have hw : Wd dC dI A s.heap s.heap [] w0 := ⟨hP, hD, va_S.rf⟩
  have hF : FE ksC ([] : List (Nat × Nat × Nat)) w0 w0 := FE.rf
  have hl := lv_entry ([.ref (ad 145), .int a1, .int a2, .int a3]) (n := 4) (Nat.le_of_ble_eq_true rfl)
  rw [lg_entry_eq]
  generalize (lg_sl ([.ref (ad 145), .int a1, .int a2, .int a3]) ++ List.replicate (4 - (lg_sl ([.ref (ad 145), .int a1, .int a2, .int a3])).length) Slot.unset).toArray = ls at hl ⊢
  have hl : lv_has ls 4 [(0, .ref (ad 145)), (1, .int a1), (2, .int a2), (3, .int a3)] := hl
  generalize hloc : ([] : List Loc) = locs at hw ⊢
  have hinX0 : ∀ w ∈ u_ws RX0 TX0 4, w ∈ wsX0_streetBy := fun _ h => List.mem_cons_of_mem _ (List.mem_append_right _ (h))
  refine lv_aload_n hx hb dX0_streetBy_0 rfl (lv_at hl 0 rfl) ?_
  refine tk_getA hC hK hw hT hinX0 kC_at145 (by decide) rfl 2 (by decide) (List.mem_of_getElem? (i := 1) rfl) rfl rfl dX0_streetBy_1 ?_
  refine lv_iload_n hx hb dX0_streetBy_4 rfl (lv_at hl 1 rfl) ?_
  refine lv_iload_n hx hb dX0_streetBy_5 rfl (lv_at hl 2 rfl) ?_
  refine lv_iload_n hx hb dX0_streetBy_6 rfl (lv_at hl 3 rfl) ?_
  refine tk_Si hC hK hw hT hA hE hSR (k_X0_spot_3 l adK adV dC dI cy ad B (by omega) (by omega) qr s1   a1 (show 4 ≤ a1.toInt by omega) (show a1.toInt ≤ 10 by omega) a2 (show 0 ≤ a2.toInt by omega) (show a2.toInt ≤ 9 by omega) a3 (show 0 ≤ a3.toInt by omega) (show a3.toInt ≤ 9 by omega) w0 s.heap.size hT ) (va_cwS 3 hC.2.2.2.2 gX0_streetBy_X0_spot rfl rfl rfl (by decide +kernel) ⟨Nat.le_of_ble_eq_true rfl, Nat.le_of_ble_eq_true rfl⟩) rfl hl.1 rfl (Nat.le_of_ble_eq_true rfl) dX0_streetBy_7 (fun r1 w3 H locs hp2 hw => ?_)
  obtain ⟨hT, k4, hg7⟩ := hp2
  have hF := hF.tr k4 (by decide)
  obtain ⟨g5, g6⟩ := hg7
  refine tk_iald hC hK hw hT kC_at147 rfl rfl (show 0 ≤ r1.toInt by omega) (show r1.toInt < 1100 by omega) dX0_streetBy_10 (fun x8 c9 rx8 tx8 => ?_)
  exact tk_iret hC hr hlocks hK ⟨hT, hF, ⟨(show (-1) ≤ x8.toInt by omega), (show x8.toInt ≤ 11 by omega)⟩⟩ hw dX0_streetBy_11
abbrev P_X0_hoursBy_2 (ad : Nat → Nat) (cy : Nat → ClassId) (B : Int) (qr : Nat) (s1 : Int) (a1 : Int32) (a2 : Int32) (a3 : Int32) (w0 : va_W) : Int32 → va_W → Prop := fun r u => TW ksC ad cy B qr s1 u ∧ FE ksC ([] : List (Nat × Nat × Nat)) w0 u ∧ ((0 ≤ r.toInt ∧ r.toInt ≤ 999999) ∨ (r = (-1)))
set_option maxHeartbeats 4000000 in
set_option maxRecDepth 100000 in
theorem k_X0_hoursBy_2 (l : Launch) (adK adV : Nat → Nat) (dC : Nat → ClassId) (dI : Nat → Nat → Nat) (cy : Nat → ClassId) (ad : Nat → Nat) (B : Int) (hB0 : 2147483648 ≤ B) (hB1 : B ≤ 1152921504606846976) (qr : Nat) (s1 : Int)  (a1 : Int32) (ra1 : 4 ≤ a1.toInt) (ta1 : a1.toInt ≤ 10) (a2 : Int32) (ra2 : 0 ≤ a2.toInt) (ta2 : a2.toInt ≤ 9) (a3 : Int32) (ra3 : 0 ≤ a3.toInt) (ta3 : a3.toInt ≤ 9) (w0 : va_W) (sz : Nat) (hT : TW ksC ad cy B qr s1 w0)  : Met l yX0_hoursBy wsX0_hoursBy ({ frames := 2, cells := 0, slots := 0, locals := 34 }) (va_Pc [.ref (ad 145), .int a1, .int a2, .int a3] (wpreS adK adV dC dI cy sz w0)) (va_Qi (P_X0_hoursBy_2 ad cy B qr s1 a1 a2 a3 w0) (fun u : va_W => wpost dC dI cy (va_A w0 sz) u) (va_A w0 sz)) 0 0 (va_A w0 sz) := by
  refine Met.ofW (cc := cX0_hoursBy) (maxL := 5) (ret := (some .int)) (by decide) rfl ?_
  intro p e s m args below meth c s₁ Bk hml hv
  obtain ⟨rfl, ⟨hsz, hP, hK, hD0⟩, hE, hSR⟩ := hv
  have hx := Bk.exec
  have hb := Bk.bytes
  have hr := Bk.returns
  have hlocks := Bk.notSynchronized
  have hC : CallFix p m c cX0_hoursBy 5 s _ wsX0_hoursBy RX0 := ⟨hx, hb, hml, findClass_of_methodNamed Bk.named, atoms_spec (ws := wsX0_hoursBy) Bk.pre⟩
  subst hsz
  have hD := hD0.self (sz := s.heap.size)
  generalize hAe : va_A w0 s.heap.size = A at hD hE ⊢
  have hA : ∀ q : Nat, s.heap.size ≤ q → A q := fun q h => by rw [← hAe]; exact Or.inr h
  have hw : Wd dC dI A s.heap s.heap [] w0 := ⟨hP, hD, va_S.rf⟩
  have hF : FE ksC ([] : List (Nat × Nat × Nat)) w0 w0 := FE.rf
  have hl := lv_entry ([.ref (ad 145), .int a1, .int a2, .int a3]) (n := 5) (Nat.le_of_ble_eq_true rfl)
  rw [lg_entry_eq]
  generalize (lg_sl ([.ref (ad 145), .int a1, .int a2, .int a3]) ++ List.replicate (5 - (lg_sl ([.ref (ad 145), .int a1, .int a2, .int a3])).length) Slot.unset).toArray = ls at hl ⊢
  have hl : lv_has ls 5 [(0, .ref (ad 145)), (1, .int a1), (2, .int a2), (3, .int a3)] := hl
  generalize hloc : ([] : List Loc) = locs at hw ⊢
  have hinX0 : ∀ w ∈ u_ws RX0 TX0 4, w ∈ wsX0_hoursBy := fun _ h => List.mem_cons_of_mem _ (List.mem_append_right _ (h))
  refine lv_aload_n hx hb dX0_hoursBy_0 rfl (lv_at hl 0 rfl) ?_
  refine tk_getA hC hK hw hT hinX0 kC_at145 (by decide) rfl 1 (by decide) (List.mem_of_getElem? (i := 1) rfl) rfl rfl dX0_hoursBy_1 ?_
  refine lv_iload_n hx hb dX0_hoursBy_4 rfl (lv_at hl 1 rfl) ?_
  refine lv_iload_n hx hb dX0_hoursBy_5 rfl (lv_at hl 2 rfl) ?_
  refine lv_iload_n hx hb dX0_hoursBy_6 rfl (lv_at hl 3 rfl) ?_
  refine tk_Si hC hK hw hT hA hE hSR (k_X0_spot_3 l adK adV dC dI cy ad B (by omega) (by omega) qr s1   a1 (show 4 ≤ a1.toInt by omega) (show a1.toInt ≤ 10 by omega) a2 (show 0 ≤ a2.toInt by omega) (show a2.toInt ≤ 9 by omega) a3 (show 0 ≤ a3.toInt by omega) (show a3.toInt ≤ 9 by omega) w0 s.heap.size hT ) (va_cwS 3 hC.2.2.2.2 gX0_hoursBy_X0_spot rfl rfl rfl (by decide +kernel) ⟨Nat.le_of_ble_eq_true rfl, Nat.le_of_ble_eq_true rfl⟩) rfl hl.1 rfl (Nat.le_of_ble_eq_true rfl) dX0_hoursBy_7 (fun r1 w3 H locs hp2 hw => ?_)
  obtain ⟨hT, k4, hg7⟩ := hp2
  have hF := hF.tr k4 (by decide)
  obtain ⟨g5, g6⟩ := hg7
  refine tk_iald hC hK hw hT kC_at146 rfl rfl (show 0 ≤ r1.toInt by omega) (show r1.toInt < 1100 by omega) dX0_hoursBy_10 (fun x8 c9 rx8 tx8 => ?_)
  refine lv_istore (lv' := [(4, .int x8), (0, .ref (ad 145)), (1, .int a1), (2, .int a2), (3, .int a3)]) hx hb dX0_hoursBy_11 hl (by decide) rfl (fun ls hl => ?_)
  refine lv_iload hx hb dX0_hoursBy_13 (lv_at hl 0 rfl) ?_
  refine lv_ldc (v := 1000000) hx hb hC.2.2.2.1 (hC.2.2.2.2 _ (List.mem_of_getElem? (i := 2) rfl)) dX0_hoursBy_15 ?_
  refine lv_icmp_lt (tgt := 24) hx hb dX0_hoursBy_17 (by decide) (fun c10 => ?_) (fun c10 => ?_)
  · have c10 : x8.toInt < (1000000 : Int) := wk_lt.mp c10
    refine lv_iload hx hb dX0_hoursBy_24 (lv_at hl 0 rfl) ?_
    exact tk_iret hC hr hlocks hK ⟨hT, hF, (Or.inl ⟨(show 0 ≤ x8.toInt by omega), (show x8.toInt ≤ 999999 by omega)⟩)⟩ hw dX0_hoursBy_26
  · have c10 : (1000000 : Int) ≤ x8.toInt := wk_ltF c10
    refine lv_iconst (v := (-1)) hx hb dX0_hoursBy_20 (by decide) ?_
    refine lv_goto (tgt := 26) hx hb dX0_hoursBy_21 (by decide) ?_
    exact tk_iret hC hr hlocks hK ⟨hT, hF, (Or.inr rfl)⟩ hw dX0_hoursBy_26
abbrev P_X1_lookAround_1 (ad : Nat → Nat) (cy : Nat → ClassId) (B : Int) (qr : Nat) (s1 : Int) (q1_ : Nat) (w0 : va_W) : va_W → Prop := fun u => TW ksC ad cy B qr s1 u ∧ FE ksC [(1, 5, 5), (1, 6, 6), (1, 7, 7), (1, 8, 8)] w0 u ∧ (((∃ y : Int32, gi u 149 7 = y ∧ (-1) ≤ y.toInt ∧ y.toInt ≤ (-1)) ∧ (∃ y : Int32, gi u 149 8 = y ∧ 0 ≤ y.toInt ∧ y.toInt ≤ 999999)))
set_option maxHeartbeats 4000000 in
set_option maxRecDepth 100000 in
theorem k_X1_lookAround_1 (l : Launch) (adK adV : Nat → Nat) (dC : Nat → ClassId) (dI : Nat → Nat → Nat) (cy : Nat → ClassId) (ad : Nat → Nat) (B : Int) (hB0 : 2147483648 ≤ B) (hB1 : B ≤ 1152921504606846976) (qr : Nat) (s1 : Int)  (q1_ : Nat) (hkq1_ : ksC[q1_]? = some 9) (w0 : va_W) (sz : Nat) (hT : TW ksC ad cy B qr s1 w0)  : Met l yX1_lookAround wsX1_lookAround ({ frames := 4, cells := 0, slots := 0, locals := 88 }) (va_Pc [.ref (ad 149), .ref (ad q1_), .int 0] (wpreS adK adV dC dI cy sz w0)) (va_Qv (P_X1_lookAround_1 ad cy B qr s1 q1_ w0) (fun u : va_W => wpost dC dI cy (va_A w0 sz) u) (va_A w0 sz)) 0 0 (va_A w0 sz) := by
  refine Met.ofW (cc := cX1_lookAround) (maxL := 5) (ret := none) (by decide) rfl ?_
  intro p e s m args below meth c s₁ Bk hml hv
  obtain ⟨rfl, ⟨hsz, hP, hK, hD0⟩, hE, hSR⟩ := hv
  have hx := Bk.exec
  have hb := Bk.bytes
  have hr := Bk.returns
  have hlocks := Bk.notSynchronized
  have hC : CallFix p m c cX1_lookAround 5 s _ wsX1_lookAround RX1 := ⟨hx, hb, hml, findClass_of_methodNamed Bk.named, atoms_spec (ws := wsX1_lookAround) Bk.pre⟩
  subst hsz
  have hD := hD0.self (sz := s.heap.size)
  generalize hAe : va_A w0 s.heap.size = A at hD hE ⊢
  have hA : ∀ q : Nat, s.heap.size ≤ q → A q := fun q h => by rw [← hAe]; exact Or.inr h
  have hw : Wd dC dI A s.heap s.heap [] w0 := ⟨hP, hD, va_S.rf⟩
  have hF : FE ksC [(1, 5, 5), (1, 6, 6), (1, 7, 7), (1, 8, 8)] w0 w0 := FE.rf
  have hl := lv_entry ([.ref (ad 149), .ref (ad q1_), .int 0]) (n := 5) (Nat.le_of_ble_eq_true rfl)
  rw [lg_entry_eq]
  generalize (lg_sl ([.ref (ad 149), .ref (ad q1_), .int 0]) ++ List.replicate (5 - (lg_sl ([.ref (ad 149), .ref (ad q1_), .int 0])).length) Slot.unset).toArray = ls at hl ⊢
  have hl : lv_has ls 5 [(0, .ref (ad 149)), (1, .ref (ad q1_)), (2, .int 0)] := hl
  generalize hloc : ([] : List Loc) = locs at hw ⊢
  have hinX9 : ∀ w ∈ u_ws RX9 TX9 9, w ∈ wsX1_lookAround := fun _ h => List.mem_cons_of_mem _ (List.mem_append_left _ (List.mem_append_left _ (List.mem_append_left _ (List.mem_append_right _ (h)))))
  have hinX1 : ∀ w ∈ u_ws RX1 TX1 10, w ∈ wsX1_lookAround := fun _ h => List.mem_cons_of_mem _ (List.mem_append_left _ (List.mem_append_left _ (List.mem_append_left _ (List.mem_append_left _ (List.mem_append_right _ (h))))))
  have J159 : ∀ (v159_3 : Int32) (f159_149_5 : Int32) (f159_149_6 : Int32) (f159_149_8 : Int32) (f159_q1__0 : Int32) (f159_q1__1 : Int32) (H : Heap) (locs : List Loc) (ls : Array Slot) (w1 : va_W), 0 ≤ v159_3.toInt → v159_3.toInt ≤ 10 → (-1) ≤ f159_149_5.toInt → f159_149_5.toInt ≤ 11 → 0 ≤ f159_149_6.toInt → f159_149_6.toInt ≤ 1 → 0 ≤ f159_149_8.toInt → f159_149_8.toInt ≤ 999999 → 0 ≤ f159_q1__0.toInt → f159_q1__0.toInt ≤ 9 → 0 ≤ f159_q1__1.toInt → f159_q1__1.toInt ≤ 9 → Wd dC dI A s.heap H locs w1 → TW ksC ad cy B qr s1 w1 → FE ksC [(1, 5, 5), (1, 6, 6), (1, 7, 7), (1, 8, 8)] w0 w1 → gi w1 149 5 = f159_149_5 → gi w1 149 6 = f159_149_6 → gi w1 149 7 = (-1) → gi w1 149 8 = f159_149_8 → gi w1 q1_ 0 = f159_q1__0 → gi w1 q1_ 1 = f159_q1__1 → lv_has ls 5 [(0, .ref (ad 149)), (1, .ref (ad q1_)), (2, .int 0), (3, .int v159_3), (4, .int 0)] → W p l e ({ frames := 4, cells := 0, slots := 0, locals := 88 }) s m (List.toArray [.ref (ad 149), .ref (ad q1_), .int 0]) below meth c H locs 0 0 (MQ below (va_Qv (P_X1_lookAround_1 ad cy B qr s1 q1_ w0) (fun u : va_W => wpost dC dI cy A u) A) (List.toArray [.ref (ad 149), .ref (ad q1_), .int 0]) s 0 0 A) (F0 m 159 ls []) := by
    intro v159_3 f159_149_5 f159_149_6 f159_149_8 f159_q1__0 f159_q1__1 H locs ls w1 r2 t3 r4 t5 r7 t8 r11 t12 r14 t15 r17 t18 hw hT hF c6 c9 c10 c13 c16 c19 hl
    exact tk_vret hC hr hlocks hK ⟨hT, hF, ⟨⟨(-1), c10, (by decide), (by decide)⟩, ⟨f159_149_8, c13, (show 0 ≤ f159_149_8.toInt by omega), (show f159_149_8.toInt ≤ 999999 by omega)⟩⟩⟩ hw dX1_lookAround_159
  have L110 : ∀ (v110_3 : Int32) (f110_149_5 : Int32) (f110_149_6 : Int32) (f110_149_8 : Int32) (f110_q1__0 : Int32) (f110_q1__1 : Int32) (H : Heap) (locs : List Loc) (ls : Array Slot) (w20 : va_W), 0 ≤ v110_3.toInt → v110_3.toInt ≤ 10 → (-1) ≤ f110_149_5.toInt → f110_149_5.toInt ≤ 11 → 0 ≤ f110_149_6.toInt → f110_149_6.toInt ≤ 1 → 0 ≤ f110_149_8.toInt → f110_149_8.toInt ≤ 999999 → 0 ≤ f110_q1__0.toInt → f110_q1__0.toInt ≤ 9 → 0 ≤ f110_q1__1.toInt → f110_q1__1.toInt ≤ 9 → Wd dC dI A s.heap H locs w20 → TW ksC ad cy B qr s1 w20 → FE ksC [(1, 5, 5), (1, 6, 6), (1, 7, 7), (1, 8, 8)] w0 w20 → gi w20 149 5 = f110_149_5 → gi w20 149 6 = f110_149_6 → gi w20 149 7 = (-1) → gi w20 149 8 = f110_149_8 → gi w20 q1_ 0 = f110_q1__0 → gi w20 q1_ 1 = f110_q1__1 → lv_has ls 5 [(0, .ref (ad 149)), (1, .ref (ad q1_)), (2, .int 0), (3, .int v110_3), (4, .int 0)] → W p l e ({ frames := 4, cells := 0, slots := 0, locals := 88 }) s m (List.toArray [.ref (ad 149), .ref (ad q1_), .int 0]) below meth c H locs 0 0 (MQ below (va_Qv (P_X1_lookAround_1 ad cy B qr s1 q1_ w0) (fun u : va_W => wpost dC dI cy A u) A) (List.toArray [.ref (ad 149), .ref (ad q1_), .int 0]) s 0 0 A) (F0 m 110 ls []) := by
    intro v110_3 f110_149_5 f110_149_6 f110_149_8 f110_q1__0 f110_q1__1 H locs ls w20 r21 t22 r23 t24 r26 t27 r30 t31 r33 t34 r36 t37 hw hT hF c25 c28 c29 c32 c35 c38 hl
    refine lv_iload_n hx hb dX1_lookAround_110 rfl (lv_at hl 2 rfl) ?_
    refine lv_if_eq (tgt := 159) hx hb dX1_lookAround_111 (by decide) (fun _ => ?_) (fun c => absurd (by decide) c)
    exact J159 v110_3 f110_149_5 f110_149_6 f110_149_8 f110_q1__0 f110_q1__1 H locs ls w20 (show 0 ≤ v110_3.toInt by omega) (show v110_3.toInt ≤ 10 by omega) (show (-1) ≤ f110_149_5.toInt by omega) (show f110_149_5.toInt ≤ 11 by omega) (show 0 ≤ f110_149_6.toInt by omega) (show f110_149_6.toInt ≤ 1 by omega) (show 0 ≤ f110_149_8.toInt by omega) (show f110_149_8.toInt ≤ 999999 by omega) (show 0 ≤ f110_q1__0.toInt by omega) (show f110_q1__0.toInt ≤ 9 by omega) (show 0 ≤ f110_q1__1.toInt by omega) (show f110_q1__1.toInt ≤ 9 by omega)  hw hT hF c25 c28 c29 c32 c35 c38 (lv_sub hl [0, 1, 2, 3, 4] rfl)
  have J24 : ∀ (H : Heap) (locs : List Loc) (ls : Array Slot) (w39 : va_W), Wd dC dI A s.heap H locs w39 → TW ksC ad cy B qr s1 w39 → FE ksC [(1, 5, 5), (1, 6, 6), (1, 7, 7), (1, 8, 8)] w0 w39 → lv_has ls 5 [(0, .ref (ad 149)), (1, .ref (ad q1_)), (2, .int 0)] → W p l e ({ frames := 4, cells := 0, slots := 0, locals := 88 }) s m (List.toArray [.ref (ad 149), .ref (ad q1_), .int 0]) below meth c H locs 0 0 (MQ below (va_Qv (P_X1_lookAround_1 ad cy B qr s1 q1_ w0) (fun u : va_W => wpost dC dI cy A u) A) (List.toArray [.ref (ad 149), .ref (ad q1_), .int 0]) s 0 0 A) (F0 m 24 ls []) := by
    intro H locs ls w39 hw hT hF hl
    refine lv_aload_n hx hb dX1_lookAround_24 rfl (lv_at hl 1 rfl) ?_
    refine tk_geti hC hK hw hT hinX9 hkq1_ (by decide) rfl 2 (by decide) (List.mem_of_getElem? (i := 2) rfl) rfl rfl dX1_lookAround_25 (fun x40 c41 rx40 tx40 => ?_)
    refine lv_istore_n (lv' := [(3, .int x40), (0, .ref (ad 149)), (1, .ref (ad q1_)), (2, .int 0)]) hx hb dX1_lookAround_28 rfl hl (by decide) rfl (fun ls hl => ?_)
    refine lv_aload_n hx hb dX1_lookAround_29 rfl (lv_at hl 1 rfl) ?_
    refine lv_aload_n hx hb dX1_lookAround_30 rfl (lv_at hl 1 rfl) ?_
    refine tk_getA hC hK hw hT hinX1 kC_at149 (by decide) rfl 1 (by decide) (List.mem_of_getElem? (i := 3) rfl) rfl rfl dX1_lookAround_31 ?_
    refine lv_iload_n hx hb dX1_lookAround_34 rfl (lv_at hl 0 rfl) ?_
    refine lv_aload_n hx hb dX1_lookAround_35 rfl (lv_at hl 2 rfl) ?_
    refine tk_geti hC hK hw hT hinX9 hkq1_ (by decide) rfl 0 (by decide) (List.mem_of_getElem? (i := 4) rfl) rfl rfl dX1_lookAround_36 (fun x42 c43 rx42 tx42 => ?_)
    refine lv_aload_n hx hb dX1_lookAround_39 rfl (lv_at hl 2 rfl) ?_
    refine tk_geti hC hK hw hT hinX9 hkq1_ (by decide) rfl 1 (by decide) (List.mem_of_getElem? (i := 5) rfl) rfl rfl dX1_lookAround_40 (fun x44 c45 rx44 tx44 => ?_)
    refine tk_Vi hC hK hw hT hA hE hSR kC_at145 (by decide) rfl (k_X0_streetBy_1 l adK adV dC dI cy ad B (by omega) (by omega) qr s1   x40 (show 0 ≤ x40.toInt by omega) (show x40.toInt ≤ 3 by omega) x42 (show 0 ≤ x42.toInt by omega) (show x42.toInt ≤ 9 by omega) x44 (show 0 ≤ x44.toInt by omega) (show x44.toInt ≤ 9 by omega) w39 H.size hT ) (cwV 3 hC.2.2.2.2 gX1_lookAround_X0_streetBy rfl rfl rfl (by decide +kernel) ⟨Nat.le_of_ble_eq_true rfl, Nat.le_of_ble_eq_true rfl⟩) rfl hl.1 rfl (Nat.le_of_ble_eq_true rfl) dX1_lookAround_43 (fun r46 w48 H locs hp47 hw => ?_)
    obtain ⟨hT, k49, hg52⟩ := hp47
    have hF := hF.tr k49 (by decide)
    have c53 := k49.gi hkq1_ (by decide) c41
    have c54 := k49.gi hkq1_ (by decide) c43
    have c55 := k49.gi hkq1_ (by decide) c45
    obtain ⟨g50, g51⟩ := hg52
    refine tk_puti hC hK hw hT hinX1 tyX1_ok nmX1 kC_at149 (by decide) rfl rfl 5 (by decide) (List.mem_of_getElem? (i := 6) rfl) rfl rfl rfl rfl (show (-1) ≤ r46.toInt by omega) (show r46.toInt ≤ 11 by omega) dX1_lookAround_46 (fun H locs w56 hw hT k58 c57 => ?_)
    have hF := hF.put kC_at149 (k := 5) (by decide) k58
    have c59 := k58.gi (Or.inr (by decide)) c53
    have c60 := k58.gi (Or.inr (by decide)) c54
    have c61 := k58.gi (Or.inr (by decide)) c55
    refine lv_aload_n hx hb dX1_lookAround_49 rfl (lv_at hl 1 rfl) ?_
    refine lv_aload_n hx hb dX1_lookAround_50 rfl (lv_at hl 1 rfl) ?_
    refine tk_geti hC hK hw hT hinX1 kC_at149 (by decide) rfl 5 (by decide) (List.mem_of_getElem? (i := 6) rfl) rfl rfl dX1_lookAround_51 (fun x62 c63 rx62 tx62 => ?_)
    refine wk_top r46 (c63.symm.trans c57) ?_
    refine lv_iconst (v := (-1)) hx hb dX1_lookAround_54 (by decide) ?_
    refine lv_icmp_eq (tgt := 74) hx hb dX1_lookAround_55 (by decide) (fun c64 => ?_) (fun c64 => ?_)
    · have c64 : r46.toInt = (-1 : Int) := wk_eq.mp c64
      refine lv_iconst (v := 0) hx hb dX1_lookAround_74 (by decide) ?_
      refine tk_putz hC hK hw hT hinX1 tyX1_ok nmX1 kC_at149 (by decide) rfl rfl 6 (by decide) (List.mem_of_getElem? (i := 7) rfl) rfl rfl rfl rfl (by decide) (by decide) dX1_lookAround_75 (fun H locs w65 hw hT k67 c66 => ?_)
      have hF := hF.put kC_at149 (k := 6) (by decide) k67
      have c68 := k67.gi (Or.inr (by decide)) c59
      have c69 := k67.gi (Or.inr (by decide)) c60
      have c70 := k67.gi (Or.inr (by decide)) c61
      have c71 := k67.gi (Or.inr (by decide)) c57
      refine lv_aload_n hx hb dX1_lookAround_78 rfl (lv_at hl 1 rfl) ?_
      refine lv_iconst (v := 0) hx hb dX1_lookAround_79 (by decide) ?_
      refine lv_aload_n hx hb dX1_lookAround_80 rfl (lv_at hl 1 rfl) ?_
      refine tk_getA hC hK hw hT hinX1 kC_at149 (by decide) rfl 1 (by decide) (List.mem_of_getElem? (i := 3) rfl) rfl rfl dX1_lookAround_81 ?_
      refine lv_iload_n hx hb dX1_lookAround_84 rfl (lv_at hl 0 rfl) ?_
      refine lv_aload_n hx hb dX1_lookAround_85 rfl (lv_at hl 2 rfl) ?_
      refine tk_geti hC hK hw hT hinX9 hkq1_ (by decide) rfl 0 (by decide) (List.mem_of_getElem? (i := 4) rfl) rfl rfl dX1_lookAround_86 (fun x72 c73 rx72 tx72 => ?_)
      refine wk_top x42 (c73.symm.trans c69) ?_
      refine lv_aload_n hx hb dX1_lookAround_89 rfl (lv_at hl 2 rfl) ?_
      refine tk_geti hC hK hw hT hinX9 hkq1_ (by decide) rfl 1 (by decide) (List.mem_of_getElem? (i := 5) rfl) rfl rfl dX1_lookAround_90 (fun x74 c75 rx74 tx74 => ?_)
      refine wk_top x44 (c75.symm.trans c70) ?_
      refine tk_Vi hC hK hw hT hA hE hSR kC_at145 (by decide) rfl (k_X0_hoursBy_1 l adK adV dC dI cy ad B (by omega) (by omega) qr s1   x40 (show 0 ≤ x40.toInt by omega) (show x40.toInt ≤ 3 by omega) x42 (show 0 ≤ x42.toInt by omega) (show x42.toInt ≤ 9 by omega) x44 (show 0 ≤ x44.toInt by omega) (show x44.toInt ≤ 9 by omega) w65 H.size hT ) (cwV 3 hC.2.2.2.2 gX1_lookAround_X0_hoursBy rfl rfl rfl (by decide +kernel) ⟨Nat.le_of_ble_eq_true rfl, Nat.le_of_ble_eq_true rfl⟩) rfl hl.1 rfl (Nat.le_of_ble_eq_true rfl) dX1_lookAround_93 (fun r76 w78 H locs hp77 hw => ?_)
      obtain ⟨hT, k79, hg82⟩ := hp77
      have hF := hF.tr k79 (by decide)
      have c83 := k79.gi hkq1_ (by decide) c68
      have c84 := k79.gi hkq1_ (by decide) c69
      have c85 := k79.gi hkq1_ (by decide) c70
      have c86 := k79.gi kC_at149 (by decide) c71
      have c87 := k79.gi kC_at149 (by decide) c66
      rcases hg82 with ⟨g80, g81⟩ | rfl
      · refine va_mmax hx hb (hC.2.2.1.trans hl.1.symm) hC.2.2.2.1 (hC.2.2.2.2 _ (List.mem_of_getElem? (i := 8) rfl)) (hC.2.2.2.2 _ (List.mem_of_getElem? (i := 9) rfl)) (hC.2.2.2.2 _ (List.mem_of_getElem? (i := 10) rfl)) (hC.2.2.2.2 _ (List.mem_of_getElem? (i := 11) rfl)) (Nat.le_of_ble_eq_true rfl) (by decide) (Nat.zero_le _) (Nat.zero_le _) dX1_lookAround_96 ?_
        refine lv_topi (fun x88 ex88 => ?_)
        have bx88 : (x88.toInt = (0 : Int) ∧ r76.toInt ≤ (0 : Int)) ∨ (x88.toInt = r76.toInt ∧ (0 : Int) < r76.toInt) := by rw [ex88]; exact wk_max
        refine tk_puti hC hK hw hT hinX1 tyX1_ok nmX1 kC_at149 (by decide) rfl rfl 8 (by decide) (List.mem_of_getElem? (i := 12) rfl) rfl rfl rfl rfl (wk_i32 x88).1 (wk_i32 x88).2 dX1_lookAround_99 (fun H locs w89 hw hT k91 c90 => ?_)
        have hF := hF.put kC_at149 (k := 8) (by decide) k91
        have c92 := k91.gi (Or.inr (by decide)) c83
        have c93 := k91.gi (Or.inr (by decide)) c84
        have c94 := k91.gi (Or.inr (by decide)) c85
        have c95 := k91.gi (Or.inr (by decide)) c86
        have c96 := k91.gi (Or.inr (by decide)) c87
        refine lv_aload_n hx hb dX1_lookAround_102 rfl (lv_at hl 1 rfl) ?_
        refine lv_iconst (v := (-1)) hx hb dX1_lookAround_103 (by decide) ?_
        refine tk_puti hC hK hw hT hinX1 tyX1_ok nmX1 kC_at149 (by decide) rfl rfl 7 (by decide) (List.mem_of_getElem? (i := 13) rfl) rfl rfl rfl rfl (by decide) (by decide) dX1_lookAround_104 (fun H locs w97 hw hT k99 c98 => ?_)
        have hF := hF.put kC_at149 (k := 7) (by decide) k99
        have c100 := k99.gi (Or.inr (by decide)) c92
        have c101 := k99.gi (Or.inr (by decide)) c93
        have c102 := k99.gi (Or.inr (by decide)) c94
        have c103 := k99.gi (Or.inr (by decide)) c95
        have c104 := k99.gi (Or.inr (by decide)) c96
        have c105 := k99.gi (Or.inr (by decide)) c90
        refine lv_iconst (v := 0) hx hb dX1_lookAround_107 (by decide) ?_
        refine lv_istore (lv' := [(4, .int 0), (3, .int x40), (0, .ref (ad 149)), (1, .ref (ad q1_)), (2, .int 0)]) hx hb dX1_lookAround_108 hl (by decide) rfl (fun ls hl => ?_)
        exact L110 x40 r46 0 x88 x42 x44 H locs ls w97 (show 0 ≤ x40.toInt by omega) (show x40.toInt ≤ 10 by omega) (show (-1) ≤ r46.toInt by omega) (show r46.toInt ≤ 11 by omega) (by decide) (by decide) (show 0 ≤ x88.toInt by omega) (show x88.toInt ≤ 999999 by omega) (show 0 ≤ x42.toInt by omega) (show x42.toInt ≤ 9 by omega) (show 0 ≤ x44.toInt by omega) (show x44.toInt ≤ 9 by omega)  hw hT hF c103 c104 c98 c105 c101 c102 (lv_sub hl [2, 3, 4, 1, 0] rfl)
      · refine va_mmax hx hb (hC.2.2.1.trans hl.1.symm) hC.2.2.2.1 (hC.2.2.2.2 _ (List.mem_of_getElem? (i := 8) rfl)) (hC.2.2.2.2 _ (List.mem_of_getElem? (i := 9) rfl)) (hC.2.2.2.2 _ (List.mem_of_getElem? (i := 10) rfl)) (hC.2.2.2.2 _ (List.mem_of_getElem? (i := 11) rfl)) (Nat.le_of_ble_eq_true rfl) (by decide) (Nat.zero_le _) (Nat.zero_le _) dX1_lookAround_96 ?_
        refine lv_topi (fun x106 ex106 => ?_)
        have bx106 : (x106.toInt = (0 : Int) ∧ (-1 : Int) ≤ (0 : Int)) ∨ (x106.toInt = (-1 : Int) ∧ (0 : Int) < (-1 : Int)) := by rw [ex106]; exact wk_max
        refine tk_puti hC hK hw hT hinX1 tyX1_ok nmX1 kC_at149 (by decide) rfl rfl 8 (by decide) (List.mem_of_getElem? (i := 12) rfl) rfl rfl rfl rfl (wk_i32 x106).1 (wk_i32 x106).2 dX1_lookAround_99 (fun H locs w107 hw hT k109 c108 => ?_)
        have hF := hF.put kC_at149 (k := 8) (by decide) k109
        have c110 := k109.gi (Or.inr (by decide)) c83
        have c111 := k109.gi (Or.inr (by decide)) c84
        have c112 := k109.gi (Or.inr (by decide)) c85
        have c113 := k109.gi (Or.inr (by decide)) c86
        have c114 := k109.gi (Or.inr (by decide)) c87
        refine lv_aload_n hx hb dX1_lookAround_102 rfl (lv_at hl 1 rfl) ?_
        refine lv_iconst (v := (-1)) hx hb dX1_lookAround_103 (by decide) ?_
        refine tk_puti hC hK hw hT hinX1 tyX1_ok nmX1 kC_at149 (by decide) rfl rfl 7 (by decide) (List.mem_of_getElem? (i := 13) rfl) rfl rfl rfl rfl (by decide) (by decide) dX1_lookAround_104 (fun H locs w115 hw hT k117 c116 => ?_)
        have hF := hF.put kC_at149 (k := 7) (by decide) k117
        have c118 := k117.gi (Or.inr (by decide)) c110
        have c119 := k117.gi (Or.inr (by decide)) c111
        have c120 := k117.gi (Or.inr (by decide)) c112
        have c121 := k117.gi (Or.inr (by decide)) c113
        have c122 := k117.gi (Or.inr (by decide)) c114
        have c123 := k117.gi (Or.inr (by decide)) c108
        refine lv_iconst (v := 0) hx hb dX1_lookAround_107 (by decide) ?_
        refine lv_istore (lv' := [(4, .int 0), (3, .int x40), (0, .ref (ad 149)), (1, .ref (ad q1_)), (2, .int 0)]) hx hb dX1_lookAround_108 hl (by decide) rfl (fun ls hl => ?_)
        exact L110 x40 r46 0 x106 x42 x44 H locs ls w115 (show 0 ≤ x40.toInt by omega) (show x40.toInt ≤ 10 by omega) (show (-1) ≤ r46.toInt by omega) (show r46.toInt ≤ 11 by omega) (by decide) (by decide) (show 0 ≤ x106.toInt by omega) (show x106.toInt ≤ 999999 by omega) (show 0 ≤ x42.toInt by omega) (show x42.toInt ≤ 9 by omega) (show 0 ≤ x44.toInt by omega) (show x44.toInt ≤ 9 by omega)  hw hT hF c121 c122 c116 c123 c119 c120 (lv_sub hl [2, 3, 4, 1, 0] rfl)
    · have c64 : ¬ r46.toInt = (-1 : Int) := wk_eqF c64
      refine lv_aload_n hx hb dX1_lookAround_58 rfl (lv_at hl 1 rfl) ?_
      refine lv_aload_n hx hb dX1_lookAround_59 rfl (lv_at hl 2 rfl) ?_
      refine lv_aload_n hx hb dX1_lookAround_60 rfl (lv_at hl 1 rfl) ?_
      refine tk_geti hC hK hw hT hinX1 kC_at149 (by decide) rfl 5 (by decide) (List.mem_of_getElem? (i := 6) rfl) rfl rfl dX1_lookAround_61 (fun x124 c125 rx124 tx124 => ?_)
      refine wk_top r46 (c125.symm.trans c57) ?_
      refine tk_Vi hC hK hw hT hA hE hSR kC_at149 (by decide) rfl (k_X1_isOpenFor_1 l adK adV dC dI cy ad B (by omega) (by omega) qr s1   q1_ hkq1_ r46 (show 0 ≤ r46.toInt by omega) (show r46.toInt ≤ 11 by omega) w56 H.size hT ) (cwV 2 hC.2.2.2.2 gX1_lookAround_X1_isOpenFor rfl rfl rfl (by decide +kernel) ⟨Nat.le_of_ble_eq_true rfl, Nat.le_of_ble_eq_true rfl⟩) rfl hl.1 rfl (Nat.le_of_ble_eq_true rfl) dX1_lookAround_64 (fun r126 w128 H locs hp127 hw => ?_)
      obtain ⟨hT, k129, hg132⟩ := hp127
      have hF := hF.tr k129 (by decide)
      have c133 := k129.gi hkq1_ (by decide) c59
      have c134 := k129.gi hkq1_ (by decide) c60
      have c135 := k129.gi hkq1_ (by decide) c61
      have c136 := k129.gi kC_at149 (by decide) c57
      rcases hg132 with rfl | ⟨rfl, ⟨x130, c131, rx130, tx130⟩⟩
      · refine lv_if_eq (tgt := 74) hx hb dX1_lookAround_67 (by decide) (fun _ => ?_) (fun c => absurd (by decide) c)
        refine lv_iconst (v := 0) hx hb dX1_lookAround_74 (by decide) ?_
        refine tk_putz hC hK hw hT hinX1 tyX1_ok nmX1 kC_at149 (by decide) rfl rfl 6 (by decide) (List.mem_of_getElem? (i := 7) rfl) rfl rfl rfl rfl (by decide) (by decide) dX1_lookAround_75 (fun H locs w137 hw hT k139 c138 => ?_)
        have hF := hF.put kC_at149 (k := 6) (by decide) k139
        have c140 := k139.gi (Or.inr (by decide)) c133
        have c141 := k139.gi (Or.inr (by decide)) c134
        have c142 := k139.gi (Or.inr (by decide)) c135
        have c143 := k139.gi (Or.inr (by decide)) c136
        refine lv_aload_n hx hb dX1_lookAround_78 rfl (lv_at hl 1 rfl) ?_
        refine lv_iconst (v := 0) hx hb dX1_lookAround_79 (by decide) ?_
        refine lv_aload_n hx hb dX1_lookAround_80 rfl (lv_at hl 1 rfl) ?_
        refine tk_getA hC hK hw hT hinX1 kC_at149 (by decide) rfl 1 (by decide) (List.mem_of_getElem? (i := 3) rfl) rfl rfl dX1_lookAround_81 ?_
        refine lv_iload_n hx hb dX1_lookAround_84 rfl (lv_at hl 0 rfl) ?_
        refine lv_aload_n hx hb dX1_lookAround_85 rfl (lv_at hl 2 rfl) ?_
        refine tk_geti hC hK hw hT hinX9 hkq1_ (by decide) rfl 0 (by decide) (List.mem_of_getElem? (i := 4) rfl) rfl rfl dX1_lookAround_86 (fun x144 c145 rx144 tx144 => ?_)
        refine wk_top x42 (c145.symm.trans c141) ?_
        refine lv_aload_n hx hb dX1_lookAround_89 rfl (lv_at hl 2 rfl) ?_
        refine tk_geti hC hK hw hT hinX9 hkq1_ (by decide) rfl 1 (by decide) (List.mem_of_getElem? (i := 5) rfl) rfl rfl dX1_lookAround_90 (fun x146 c147 rx146 tx146 => ?_)
        refine wk_top x44 (c147.symm.trans c142) ?_
        refine tk_Vi hC hK hw hT hA hE hSR kC_at145 (by decide) rfl (k_X0_hoursBy_1 l adK adV dC dI cy ad B (by omega) (by omega) qr s1   x40 (show 0 ≤ x40.toInt by omega) (show x40.toInt ≤ 3 by omega) x42 (show 0 ≤ x42.toInt by omega) (show x42.toInt ≤ 9 by omega) x44 (show 0 ≤ x44.toInt by omega) (show x44.toInt ≤ 9 by omega) w137 H.size hT ) (cwV 3 hC.2.2.2.2 gX1_lookAround_X0_hoursBy rfl rfl rfl (by decide +kernel) ⟨Nat.le_of_ble_eq_true rfl, Nat.le_of_ble_eq_true rfl⟩) rfl hl.1 rfl (Nat.le_of_ble_eq_true rfl) dX1_lookAround_93 (fun r148 w150 H locs hp149 hw => ?_)
        obtain ⟨hT, k151, hg154⟩ := hp149
        have hF := hF.tr k151 (by decide)
        have c155 := k151.gi hkq1_ (by decide) c140
        have c156 := k151.gi hkq1_ (by decide) c141
        have c157 := k151.gi hkq1_ (by decide) c142
        have c158 := k151.gi kC_at149 (by decide) c143
        have c159 := k151.gi kC_at149 (by decide) c138
        rcases hg154 with ⟨g152, g153⟩ | rfl
        · refine va_mmax hx hb (hC.2.2.1.trans hl.1.symm) hC.2.2.2.1 (hC.2.2.2.2 _ (List.mem_of_getElem? (i := 8) rfl)) (hC.2.2.2.2 _ (List.mem_of_getElem? (i := 9) rfl)) (hC.2.2.2.2 _ (List.mem_of_getElem? (i := 10) rfl)) (hC.2.2.2.2 _ (List.mem_of_getElem? (i := 11) rfl)) (Nat.le_of_ble_eq_true rfl) (by decide) (Nat.zero_le _) (Nat.zero_le _) dX1_lookAround_96 ?_
          refine lv_topi (fun x160 ex160 => ?_)
          have bx160 : (x160.toInt = (0 : Int) ∧ r148.toInt ≤ (0 : Int)) ∨ (x160.toInt = r148.toInt ∧ (0 : Int) < r148.toInt) := by rw [ex160]; exact wk_max
          refine tk_puti hC hK hw hT hinX1 tyX1_ok nmX1 kC_at149 (by decide) rfl rfl 8 (by decide) (List.mem_of_getElem? (i := 12) rfl) rfl rfl rfl rfl (wk_i32 x160).1 (wk_i32 x160).2 dX1_lookAround_99 (fun H locs w161 hw hT k163 c162 => ?_)
          have hF := hF.put kC_at149 (k := 8) (by decide) k163
          have c164 := k163.gi (Or.inr (by decide)) c155
          have c165 := k163.gi (Or.inr (by decide)) c156
          have c166 := k163.gi (Or.inr (by decide)) c157
          have c167 := k163.gi (Or.inr (by decide)) c158
          have c168 := k163.gi (Or.inr (by decide)) c159
          refine lv_aload_n hx hb dX1_lookAround_102 rfl (lv_at hl 1 rfl) ?_
          refine lv_iconst (v := (-1)) hx hb dX1_lookAround_103 (by decide) ?_
          refine tk_puti hC hK hw hT hinX1 tyX1_ok nmX1 kC_at149 (by decide) rfl rfl 7 (by decide) (List.mem_of_getElem? (i := 13) rfl) rfl rfl rfl rfl (by decide) (by decide) dX1_lookAround_104 (fun H locs w169 hw hT k171 c170 => ?_)
          have hF := hF.put kC_at149 (k := 7) (by decide) k171
          have c172 := k171.gi (Or.inr (by decide)) c164
          have c173 := k171.gi (Or.inr (by decide)) c165
          have c174 := k171.gi (Or.inr (by decide)) c166
          have c175 := k171.gi (Or.inr (by decide)) c167
          have c176 := k171.gi (Or.inr (by decide)) c168
          have c177 := k171.gi (Or.inr (by decide)) c162
          refine lv_iconst (v := 0) hx hb dX1_lookAround_107 (by decide) ?_
          refine lv_istore (lv' := [(4, .int 0), (3, .int x40), (0, .ref (ad 149)), (1, .ref (ad q1_)), (2, .int 0)]) hx hb dX1_lookAround_108 hl (by decide) rfl (fun ls hl => ?_)
          exact L110 x40 r46 0 x160 x42 x44 H locs ls w169 (show 0 ≤ x40.toInt by omega) (show x40.toInt ≤ 10 by omega) (show (-1) ≤ r46.toInt by omega) (show r46.toInt ≤ 11 by omega) (by decide) (by decide) (show 0 ≤ x160.toInt by omega) (show x160.toInt ≤ 999999 by omega) (show 0 ≤ x42.toInt by omega) (show x42.toInt ≤ 9 by omega) (show 0 ≤ x44.toInt by omega) (show x44.toInt ≤ 9 by omega)  hw hT hF c175 c176 c170 c177 c173 c174 (lv_sub hl [2, 3, 4, 1, 0] rfl)
        · refine va_mmax hx hb (hC.2.2.1.trans hl.1.symm) hC.2.2.2.1 (hC.2.2.2.2 _ (List.mem_of_getElem? (i := 8) rfl)) (hC.2.2.2.2 _ (List.mem_of_getElem? (i := 9) rfl)) (hC.2.2.2.2 _ (List.mem_of_getElem? (i := 10) rfl)) (hC.2.2.2.2 _ (List.mem_of_getElem? (i := 11) rfl)) (Nat.le_of_ble_eq_true rfl) (by decide) (Nat.zero_le _) (Nat.zero_le _) dX1_lookAround_96 ?_
          refine lv_topi (fun x178 ex178 => ?_)
          have bx178 : (x178.toInt = (0 : Int) ∧ (-1 : Int) ≤ (0 : Int)) ∨ (x178.toInt = (-1 : Int) ∧ (0 : Int) < (-1 : Int)) := by rw [ex178]; exact wk_max
          refine tk_puti hC hK hw hT hinX1 tyX1_ok nmX1 kC_at149 (by decide) rfl rfl 8 (by decide) (List.mem_of_getElem? (i := 12) rfl) rfl rfl rfl rfl (wk_i32 x178).1 (wk_i32 x178).2 dX1_lookAround_99 (fun H locs w179 hw hT k181 c180 => ?_)
          have hF := hF.put kC_at149 (k := 8) (by decide) k181
          have c182 := k181.gi (Or.inr (by decide)) c155
          have c183 := k181.gi (Or.inr (by decide)) c156
          have c184 := k181.gi (Or.inr (by decide)) c157
          have c185 := k181.gi (Or.inr (by decide)) c158
          have c186 := k181.gi (Or.inr (by decide)) c159
          refine lv_aload_n hx hb dX1_lookAround_102 rfl (lv_at hl 1 rfl) ?_
          refine lv_iconst (v := (-1)) hx hb dX1_lookAround_103 (by decide) ?_
          refine tk_puti hC hK hw hT hinX1 tyX1_ok nmX1 kC_at149 (by decide) rfl rfl 7 (by decide) (List.mem_of_getElem? (i := 13) rfl) rfl rfl rfl rfl (by decide) (by decide) dX1_lookAround_104 (fun H locs w187 hw hT k189 c188 => ?_)
          have hF := hF.put kC_at149 (k := 7) (by decide) k189
          have c190 := k189.gi (Or.inr (by decide)) c182
          have c191 := k189.gi (Or.inr (by decide)) c183
          have c192 := k189.gi (Or.inr (by decide)) c184
          have c193 := k189.gi (Or.inr (by decide)) c185
          have c194 := k189.gi (Or.inr (by decide)) c186
          have c195 := k189.gi (Or.inr (by decide)) c180
          refine lv_iconst (v := 0) hx hb dX1_lookAround_107 (by decide) ?_
          refine lv_istore (lv' := [(4, .int 0), (3, .int x40), (0, .ref (ad 149)), (1, .ref (ad q1_)), (2, .int 0)]) hx hb dX1_lookAround_108 hl (by decide) rfl (fun ls hl => ?_)
          exact L110 x40 r46 0 x178 x42 x44 H locs ls w187 (show 0 ≤ x40.toInt by omega) (show x40.toInt ≤ 10 by omega) (show (-1) ≤ r46.toInt by omega) (show r46.toInt ≤ 11 by omega) (by decide) (by decide) (show 0 ≤ x178.toInt by omega) (show x178.toInt ≤ 999999 by omega) (show 0 ≤ x42.toInt by omega) (show x42.toInt ≤ 9 by omega) (show 0 ≤ x44.toInt by omega) (show x44.toInt ≤ 9 by omega)  hw hT hF c193 c194 c188 c195 c191 c192 (lv_sub hl [2, 3, 4, 1, 0] rfl)
      · refine lv_if_eq (tgt := 74) hx hb dX1_lookAround_67 (by decide) (fun c => absurd c (by decide)) (fun _ => ?_)
        refine lv_iconst (v := 1) hx hb dX1_lookAround_70 (by decide) ?_
        refine lv_goto (tgt := 75) hx hb dX1_lookAround_71 (by decide) ?_
        refine tk_putz hC hK hw hT hinX1 tyX1_ok nmX1 kC_at149 (by decide) rfl rfl 6 (by decide) (List.mem_of_getElem? (i := 7) rfl) rfl rfl rfl rfl (by decide) (by decide) dX1_lookAround_75 (fun H locs w196 hw hT k198 c197 => ?_)
        have hF := hF.put kC_at149 (k := 6) (by decide) k198
        have c199 := k198.gi (Or.inr (by decide)) c133
        have c200 := k198.gi (Or.inr (by decide)) c134
        have c201 := k198.gi (Or.inr (by decide)) c135
        have c202 := k198.gi (Or.inr (by decide)) c136
        have c203 := k198.gi (Or.inr (by decide)) c131
        refine lv_aload_n hx hb dX1_lookAround_78 rfl (lv_at hl 1 rfl) ?_
        refine lv_iconst (v := 0) hx hb dX1_lookAround_79 (by decide) ?_
        refine lv_aload_n hx hb dX1_lookAround_80 rfl (lv_at hl 1 rfl) ?_
        refine tk_getA hC hK hw hT hinX1 kC_at149 (by decide) rfl 1 (by decide) (List.mem_of_getElem? (i := 3) rfl) rfl rfl dX1_lookAround_81 ?_
        refine lv_iload_n hx hb dX1_lookAround_84 rfl (lv_at hl 0 rfl) ?_
        refine lv_aload_n hx hb dX1_lookAround_85 rfl (lv_at hl 2 rfl) ?_
        refine tk_geti hC hK hw hT hinX9 hkq1_ (by decide) rfl 0 (by decide) (List.mem_of_getElem? (i := 4) rfl) rfl rfl dX1_lookAround_86 (fun x204 c205 rx204 tx204 => ?_)
        refine wk_top x42 (c205.symm.trans c200) ?_
        refine lv_aload_n hx hb dX1_lookAround_89 rfl (lv_at hl 2 rfl) ?_
        refine tk_geti hC hK hw hT hinX9 hkq1_ (by decide) rfl 1 (by decide) (List.mem_of_getElem? (i := 5) rfl) rfl rfl dX1_lookAround_90 (fun x206 c207 rx206 tx206 => ?_)
        refine wk_top x44 (c207.symm.trans c201) ?_
        refine tk_Vi hC hK hw hT hA hE hSR kC_at145 (by decide) rfl (k_X0_hoursBy_1 l adK adV dC dI cy ad B (by omega) (by omega) qr s1   x40 (show 0 ≤ x40.toInt by omega) (show x40.toInt ≤ 3 by omega) x42 (show 0 ≤ x42.toInt by omega) (show x42.toInt ≤ 9 by omega) x44 (show 0 ≤ x44.toInt by omega) (show x44.toInt ≤ 9 by omega) w196 H.size hT ) (cwV 3 hC.2.2.2.2 gX1_lookAround_X0_hoursBy rfl rfl rfl (by decide +kernel) ⟨Nat.le_of_ble_eq_true rfl, Nat.le_of_ble_eq_true rfl⟩) rfl hl.1 rfl (Nat.le_of_ble_eq_true rfl) dX1_lookAround_93 (fun r208 w210 H locs hp209 hw => ?_)
        obtain ⟨hT, k211, hg214⟩ := hp209
        have hF := hF.tr k211 (by decide)
        have c215 := k211.gi hkq1_ (by decide) c199
        have c216 := k211.gi hkq1_ (by decide) c200
        have c217 := k211.gi hkq1_ (by decide) c201
        have c218 := k211.gi kC_at149 (by decide) c202
        have c219 := k211.gi kC_at149 (by decide) c203
        have c220 := k211.gi kC_at149 (by decide) c197
        rcases hg214 with ⟨g212, g213⟩ | rfl
        · refine va_mmax hx hb (hC.2.2.1.trans hl.1.symm) hC.2.2.2.1 (hC.2.2.2.2 _ (List.mem_of_getElem? (i := 8) rfl)) (hC.2.2.2.2 _ (List.mem_of_getElem? (i := 9) rfl)) (hC.2.2.2.2 _ (List.mem_of_getElem? (i := 10) rfl)) (hC.2.2.2.2 _ (List.mem_of_getElem? (i := 11) rfl)) (Nat.le_of_ble_eq_true rfl) (by decide) (Nat.zero_le _) (Nat.zero_le _) dX1_lookAround_96 ?_
          refine lv_topi (fun x221 ex221 => ?_)
          have bx221 : (x221.toInt = (0 : Int) ∧ r208.toInt ≤ (0 : Int)) ∨ (x221.toInt = r208.toInt ∧ (0 : Int) < r208.toInt) := by rw [ex221]; exact wk_max
          refine tk_puti hC hK hw hT hinX1 tyX1_ok nmX1 kC_at149 (by decide) rfl rfl 8 (by decide) (List.mem_of_getElem? (i := 12) rfl) rfl rfl rfl rfl (wk_i32 x221).1 (wk_i32 x221).2 dX1_lookAround_99 (fun H locs w222 hw hT k224 c223 => ?_)
          have hF := hF.put kC_at149 (k := 8) (by decide) k224
          have c225 := k224.gi (Or.inr (by decide)) c215
          have c226 := k224.gi (Or.inr (by decide)) c216
          have c227 := k224.gi (Or.inr (by decide)) c217
          have c228 := k224.gi (Or.inr (by decide)) c218
          have c229 := k224.gi (Or.inr (by decide)) c219
          have c230 := k224.gi (Or.inr (by decide)) c220
          refine lv_aload_n hx hb dX1_lookAround_102 rfl (lv_at hl 1 rfl) ?_
          refine lv_iconst (v := (-1)) hx hb dX1_lookAround_103 (by decide) ?_
          refine tk_puti hC hK hw hT hinX1 tyX1_ok nmX1 kC_at149 (by decide) rfl rfl 7 (by decide) (List.mem_of_getElem? (i := 13) rfl) rfl rfl rfl rfl (by decide) (by decide) dX1_lookAround_104 (fun H locs w231 hw hT k233 c232 => ?_)
          have hF := hF.put kC_at149 (k := 7) (by decide) k233
          have c234 := k233.gi (Or.inr (by decide)) c225
          have c235 := k233.gi (Or.inr (by decide)) c226
          have c236 := k233.gi (Or.inr (by decide)) c227
          have c237 := k233.gi (Or.inr (by decide)) c228
          have c238 := k233.gi (Or.inr (by decide)) c229
          have c239 := k233.gi (Or.inr (by decide)) c230
          have c240 := k233.gi (Or.inr (by decide)) c223
          refine lv_iconst (v := 0) hx hb dX1_lookAround_107 (by decide) ?_
          refine lv_istore (lv' := [(4, .int 0), (3, .int x40), (0, .ref (ad 149)), (1, .ref (ad q1_)), (2, .int 0)]) hx hb dX1_lookAround_108 hl (by decide) rfl (fun ls hl => ?_)
          exact L110 x40 r46 1 x221 x42 x44 H locs ls w231 (show 0 ≤ x40.toInt by omega) (show x40.toInt ≤ 10 by omega) (show (-1) ≤ r46.toInt by omega) (show r46.toInt ≤ 11 by omega) (by decide) (by decide) (show 0 ≤ x221.toInt by omega) (show x221.toInt ≤ 999999 by omega) (show 0 ≤ x42.toInt by omega) (show x42.toInt ≤ 9 by omega) (show 0 ≤ x44.toInt by omega) (show x44.toInt ≤ 9 by omega)  hw hT hF c237 c239 c232 c240 c235 c236 (lv_sub hl [2, 3, 4, 1, 0] rfl)
        · refine va_mmax hx hb (hC.2.2.1.trans hl.1.symm) hC.2.2.2.1 (hC.2.2.2.2 _ (List.mem_of_getElem? (i := 8) rfl)) (hC.2.2.2.2 _ (List.mem_of_getElem? (i := 9) rfl)) (hC.2.2.2.2 _ (List.mem_of_getElem? (i := 10) rfl)) (hC.2.2.2.2 _ (List.mem_of_getElem? (i := 11) rfl)) (Nat.le_of_ble_eq_true rfl) (by decide) (Nat.zero_le _) (Nat.zero_le _) dX1_lookAround_96 ?_
          refine lv_topi (fun x241 ex241 => ?_)
          have bx241 : (x241.toInt = (0 : Int) ∧ (-1 : Int) ≤ (0 : Int)) ∨ (x241.toInt = (-1 : Int) ∧ (0 : Int) < (-1 : Int)) := by rw [ex241]; exact wk_max
          refine tk_puti hC hK hw hT hinX1 tyX1_ok nmX1 kC_at149 (by decide) rfl rfl 8 (by decide) (List.mem_of_getElem? (i := 12) rfl) rfl rfl rfl rfl (wk_i32 x241).1 (wk_i32 x241).2 dX1_lookAround_99 (fun H locs w242 hw hT k244 c243 => ?_)
          have hF := hF.put kC_at149 (k := 8) (by decide) k244
          have c245 := k244.gi (Or.inr (by decide)) c215
          have c246 := k244.gi (Or.inr (by decide)) c216
          have c247 := k244.gi (Or.inr (by decide)) c217
          have c248 := k244.gi (Or.inr (by decide)) c218
          have c249 := k244.gi (Or.inr (by decide)) c219
          have c250 := k244.gi (Or.inr (by decide)) c220
          refine lv_aload_n hx hb dX1_lookAround_102 rfl (lv_at hl 1 rfl) ?_
          refine lv_iconst (v := (-1)) hx hb dX1_lookAround_103 (by decide) ?_
          refine tk_puti hC hK hw hT hinX1 tyX1_ok nmX1 kC_at149 (by decide) rfl rfl 7 (by decide) (List.mem_of_getElem? (i := 13) rfl) rfl rfl rfl rfl (by decide) (by decide) dX1_lookAround_104 (fun H locs w251 hw hT k253 c252 => ?_)
          have hF := hF.put kC_at149 (k := 7) (by decide) k253
          have c254 := k253.gi (Or.inr (by decide)) c245
          have c255 := k253.gi (Or.inr (by decide)) c246
          have c256 := k253.gi (Or.inr (by decide)) c247
          have c257 := k253.gi (Or.inr (by decide)) c248
          have c258 := k253.gi (Or.inr (by decide)) c249
          have c259 := k253.gi (Or.inr (by decide)) c250
          have c260 := k253.gi (Or.inr (by decide)) c243
          refine lv_iconst (v := 0) hx hb dX1_lookAround_107 (by decide) ?_
          refine lv_istore (lv' := [(4, .int 0), (3, .int x40), (0, .ref (ad 149)), (1, .ref (ad q1_)), (2, .int 0)]) hx hb dX1_lookAround_108 hl (by decide) rfl (fun ls hl => ?_)
          exact L110 x40 r46 1 x241 x42 x44 H locs ls w251 (show 0 ≤ x40.toInt by omega) (show x40.toInt ≤ 10 by omega) (show (-1) ≤ r46.toInt by omega) (show r46.toInt ≤ 11 by omega) (by decide) (by decide) (show 0 ≤ x241.toInt by omega) (show x241.toInt ≤ 999999 by omega) (show 0 ≤ x42.toInt by omega) (show x42.toInt ≤ 9 by omega) (show 0 ≤ x44.toInt by omega) (show x44.toInt ≤ 9 by omega)  hw hT hF c257 c259 c252 c260 c255 c256 (lv_sub hl [2, 3, 4, 1, 0] rfl)
  refine lv_aload_n hx hb dX1_lookAround_0 rfl (lv_at hl 1 rfl) ?_
  refine tk_Vi hC hK hw hT hA hE hSR hkq1_ (by decide) rfl (k_X9_askedToday_1 l adK adV dC dI cy ad B (by omega) (by omega) qr s1   q1_ hkq1_ w0 s.heap.size hT ) (cwV 0 hC.2.2.2.2 gX1_lookAround_X9_askedToday rfl rfl rfl (by decide +kernel) ⟨Nat.le_of_ble_eq_true rfl, Nat.le_of_ble_eq_true rfl⟩) rfl hl.1 rfl (Nat.le_of_ble_eq_true rfl) dX1_lookAround_1 (fun r261 w263 H locs hp262 hw => ?_)
  obtain ⟨hT, k264, hg265⟩ := hp262
  have hF := hF.tr k264 (by decide)
  rcases hg265 with rfl | rfl
  · refine lv_if_eq (tgt := 24) hx hb dX1_lookAround_4 (by decide) (fun _ => ?_) (fun c => absurd (by decide) c)
    exact J24  H locs ls w263   hw hT hF  (lv_sub hl [0, 1, 2] rfl)
  · refine lv_if_eq (tgt := 24) hx hb dX1_lookAround_4 (by decide) (fun c => absurd c (by decide)) (fun _ => ?_)
    refine lv_aload_n hx hb dX1_lookAround_7 rfl (lv_at hl 0 rfl) ?_
    refine tk_geti hC hK hw hT hinX1 kC_at149 (by decide) rfl 9 (by decide) (List.mem_of_getElem? (i := 1) rfl) rfl rfl dX1_lookAround_8 (fun x266 c267 rx266 tx266 => ?_)
    refine lv_if_ne (tgt := 24) hx hb dX1_lookAround_11 (by decide) (fun c268 => ?_) (fun c268 => ?_)
    · have c268 : ¬ x266.toInt = (0 : Int) := wk_eqF c268
      exact J24  H locs ls w263   hw hT hF  (lv_sub hl [0, 1, 2] rfl)
    · have c268 : x266.toInt = (0 : Int) := wk_eq.mp c268
      refine lv_aload_n hx hb dX1_lookAround_14 rfl (lv_at hl 1 rfl) ?_
      refine tk_Vl hC hK hw hT hA hE hSR hkq1_ (by decide) rfl (k_X9_dayNow_1 l adK adV dC dI cy ad B (by omega) (by omega) qr s1   q1_ hkq1_ w263 H.size hT ) (cwV 0 hC.2.2.2.2 gX1_lookAround_X9_dayNow rfl rfl rfl (by decide +kernel) ⟨Nat.le_of_ble_eq_true rfl, Nat.le_of_ble_eq_true rfl⟩) rfl hl.1 rfl (Nat.le_of_ble_eq_true rfl) dX1_lookAround_15 (fun r269 w271 H locs hp270 hw => ?_)
      obtain ⟨hT, k272, hg275⟩ := hp270
      have hF := hF.tr k272 (by decide)
      have c276 := k272.gi kC_at149 (by decide) c267
      obtain ⟨g273, g274⟩ := hg275
      refine tk_Si hC hK hw hT hA hE hSR (k_X0_ofWeekday_1 l adK adV dC dI cy ad B (by omega) (by omega) qr s1   r269 (show 0 ≤ r269.toInt by omega) (show r269.toInt ≤ 96076792050570581 by omega) w271 H.size hT ) (va_cwS 1 hC.2.2.2.2 gX1_lookAround_X0_ofWeekday rfl rfl rfl (by decide +kernel) ⟨Nat.le_of_ble_eq_true rfl, Nat.le_of_ble_eq_true rfl⟩) rfl hl.1 rfl (Nat.le_of_ble_eq_true rfl) dX1_lookAround_18 (fun r277 w279 H locs hp278 hw => ?_)
      obtain ⟨hT, k280, hg283⟩ := hp278
      have hF := hF.tr k280 (by decide)
      have c284 := k280.gi kC_at149 (by decide) c276
      obtain ⟨g281, g282⟩ := hg283
      refine lv_goto (tgt := 28) hx hb dX1_lookAround_21 (by decide) ?_
      refine lv_istore_n (lv' := [(3, .int r277), (0, .ref (ad 149)), (1, .ref (ad q1_)), (2, .int 0)]) hx hb dX1_lookAround_28 rfl hl (by decide) rfl (fun ls hl => ?_)
      refine lv_aload_n hx hb dX1_lookAround_29 rfl (lv_at hl 1 rfl) ?_
      refine lv_aload_n hx hb dX1_lookAround_30 rfl (lv_at hl 1 rfl) ?_
      refine tk_getA hC hK hw hT hinX1 kC_at149 (by decide) rfl 1 (by decide) (List.mem_of_getElem? (i := 3) rfl) rfl rfl dX1_lookAround_31 ?_
      refine lv_iload_n hx hb dX1_lookAround_34 rfl (lv_at hl 0 rfl) ?_
      refine lv_aload_n hx hb dX1_lookAround_35 rfl (lv_at hl 2 rfl) ?_
      refine tk_geti hC hK hw hT hinX9 hkq1_ (by decide) rfl 0 (by decide) (List.mem_of_getElem? (i := 4) rfl) rfl rfl dX1_lookAround_36 (fun x285 c286 rx285 tx285 => ?_)
      refine lv_aload_n hx hb dX1_lookAround_39 rfl (lv_at hl 2 rfl) ?_
      refine tk_geti hC hK hw hT hinX9 hkq1_ (by decide) rfl 1 (by decide) (List.mem_of_getElem? (i := 5) rfl) rfl rfl dX1_lookAround_40 (fun x287 c288 rx287 tx287 => ?_)
      refine tk_Vi hC hK hw hT hA hE hSR kC_at145 (by decide) rfl (k_X0_streetBy_2 l adK adV dC dI cy ad B (by omega) (by omega) qr s1   r277 (show 4 ≤ r277.toInt by omega) (show r277.toInt ≤ 10 by omega) x285 (show 0 ≤ x285.toInt by omega) (show x285.toInt ≤ 9 by omega) x287 (show 0 ≤ x287.toInt by omega) (show x287.toInt ≤ 9 by omega) w279 H.size hT ) (cwV 3 hC.2.2.2.2 gX1_lookAround_X0_streetBy rfl rfl rfl (by decide +kernel) ⟨Nat.le_of_ble_eq_true rfl, Nat.le_of_ble_eq_true rfl⟩) rfl hl.1 rfl (Nat.le_of_ble_eq_true rfl) dX1_lookAround_43 (fun r289 w291 H locs hp290 hw => ?_)
      obtain ⟨hT, k292, hg295⟩ := hp290
      have hF := hF.tr k292 (by decide)
      have c296 := k292.gi kC_at149 (by decide) c284
      have c297 := k292.gi hkq1_ (by decide) c286
      have c298 := k292.gi hkq1_ (by decide) c288
      obtain ⟨g293, g294⟩ := hg295
      refine tk_puti hC hK hw hT hinX1 tyX1_ok nmX1 kC_at149 (by decide) rfl rfl 5 (by decide) (List.mem_of_getElem? (i := 6) rfl) rfl rfl rfl rfl (show (-1) ≤ r289.toInt by omega) (show r289.toInt ≤ 11 by omega) dX1_lookAround_46 (fun H locs w299 hw hT k301 c300 => ?_)
      have hF := hF.put kC_at149 (k := 5) (by decide) k301
      have c302 := k301.gi (Or.inr (by decide)) c296
      have c303 := k301.gi (Or.inr (by decide)) c297
      have c304 := k301.gi (Or.inr (by decide)) c298
      refine lv_aload_n hx hb dX1_lookAround_49 rfl (lv_at hl 1 rfl) ?_
      refine lv_aload_n hx hb dX1_lookAround_50 rfl (lv_at hl 1 rfl) ?_
      refine tk_geti hC hK hw hT hinX1 kC_at149 (by decide) rfl 5 (by decide) (List.mem_of_getElem? (i := 6) rfl) rfl rfl dX1_lookAround_51 (fun x305 c306 rx305 tx305 => ?_)
      refine wk_top r289 (c306.symm.trans c300) ?_
      refine lv_iconst (v := (-1)) hx hb dX1_lookAround_54 (by decide) ?_
      refine lv_icmp_eq (tgt := 74) hx hb dX1_lookAround_55 (by decide) (fun c307 => ?_) (fun c307 => ?_)
      · have c307 : r289.toInt = (-1 : Int) := wk_eq.mp c307
        refine lv_iconst (v := 0) hx hb dX1_lookAround_74 (by decide) ?_
        refine tk_putz hC hK hw hT hinX1 tyX1_ok nmX1 kC_at149 (by decide) rfl rfl 6 (by decide) (List.mem_of_getElem? (i := 7) rfl) rfl rfl rfl rfl (by decide) (by decide) dX1_lookAround_75 (fun H locs w308 hw hT k310 c309 => ?_)
        have hF := hF.put kC_at149 (k := 6) (by decide) k310
        have c311 := k310.gi (Or.inr (by decide)) c302
        have c312 := k310.gi (Or.inr (by decide)) c303
        have c313 := k310.gi (Or.inr (by decide)) c304
        have c314 := k310.gi (Or.inr (by decide)) c300
        refine lv_aload_n hx hb dX1_lookAround_78 rfl (lv_at hl 1 rfl) ?_
        refine lv_iconst (v := 0) hx hb dX1_lookAround_79 (by decide) ?_
        refine lv_aload_n hx hb dX1_lookAround_80 rfl (lv_at hl 1 rfl) ?_
        refine tk_getA hC hK hw hT hinX1 kC_at149 (by decide) rfl 1 (by decide) (List.mem_of_getElem? (i := 3) rfl) rfl rfl dX1_lookAround_81 ?_
        refine lv_iload_n hx hb dX1_lookAround_84 rfl (lv_at hl 0 rfl) ?_
        refine lv_aload_n hx hb dX1_lookAround_85 rfl (lv_at hl 2 rfl) ?_
        refine tk_geti hC hK hw hT hinX9 hkq1_ (by decide) rfl 0 (by decide) (List.mem_of_getElem? (i := 4) rfl) rfl rfl dX1_lookAround_86 (fun x315 c316 rx315 tx315 => ?_)
        refine wk_top x285 (c316.symm.trans c312) ?_
        refine lv_aload_n hx hb dX1_lookAround_89 rfl (lv_at hl 2 rfl) ?_
        refine tk_geti hC hK hw hT hinX9 hkq1_ (by decide) rfl 1 (by decide) (List.mem_of_getElem? (i := 5) rfl) rfl rfl dX1_lookAround_90 (fun x317 c318 rx317 tx317 => ?_)
        refine wk_top x287 (c318.symm.trans c313) ?_
        refine tk_Vi hC hK hw hT hA hE hSR kC_at145 (by decide) rfl (k_X0_hoursBy_2 l adK adV dC dI cy ad B (by omega) (by omega) qr s1   r277 (show 4 ≤ r277.toInt by omega) (show r277.toInt ≤ 10 by omega) x285 (show 0 ≤ x285.toInt by omega) (show x285.toInt ≤ 9 by omega) x287 (show 0 ≤ x287.toInt by omega) (show x287.toInt ≤ 9 by omega) w308 H.size hT ) (cwV 3 hC.2.2.2.2 gX1_lookAround_X0_hoursBy rfl rfl rfl (by decide +kernel) ⟨Nat.le_of_ble_eq_true rfl, Nat.le_of_ble_eq_true rfl⟩) rfl hl.1 rfl (Nat.le_of_ble_eq_true rfl) dX1_lookAround_93 (fun r319 w321 H locs hp320 hw => ?_)
        obtain ⟨hT, k322, hg325⟩ := hp320
        have hF := hF.tr k322 (by decide)
        have c326 := k322.gi kC_at149 (by decide) c311
        have c327 := k322.gi hkq1_ (by decide) c312
        have c328 := k322.gi hkq1_ (by decide) c313
        have c329 := k322.gi kC_at149 (by decide) c314
        have c330 := k322.gi kC_at149 (by decide) c309
        rcases hg325 with ⟨g323, g324⟩ | rfl
        · refine va_mmax hx hb (hC.2.2.1.trans hl.1.symm) hC.2.2.2.1 (hC.2.2.2.2 _ (List.mem_of_getElem? (i := 8) rfl)) (hC.2.2.2.2 _ (List.mem_of_getElem? (i := 9) rfl)) (hC.2.2.2.2 _ (List.mem_of_getElem? (i := 10) rfl)) (hC.2.2.2.2 _ (List.mem_of_getElem? (i := 11) rfl)) (Nat.le_of_ble_eq_true rfl) (by decide) (Nat.zero_le _) (Nat.zero_le _) dX1_lookAround_96 ?_
          refine lv_topi (fun x331 ex331 => ?_)
          have bx331 : (x331.toInt = (0 : Int) ∧ r319.toInt ≤ (0 : Int)) ∨ (x331.toInt = r319.toInt ∧ (0 : Int) < r319.toInt) := by rw [ex331]; exact wk_max
          refine tk_puti hC hK hw hT hinX1 tyX1_ok nmX1 kC_at149 (by decide) rfl rfl 8 (by decide) (List.mem_of_getElem? (i := 12) rfl) rfl rfl rfl rfl (wk_i32 x331).1 (wk_i32 x331).2 dX1_lookAround_99 (fun H locs w332 hw hT k334 c333 => ?_)
          have hF := hF.put kC_at149 (k := 8) (by decide) k334
          have c335 := k334.gi (Or.inr (by decide)) c326
          have c336 := k334.gi (Or.inr (by decide)) c327
          have c337 := k334.gi (Or.inr (by decide)) c328
          have c338 := k334.gi (Or.inr (by decide)) c329
          have c339 := k334.gi (Or.inr (by decide)) c330
          refine lv_aload_n hx hb dX1_lookAround_102 rfl (lv_at hl 1 rfl) ?_
          refine lv_iconst (v := (-1)) hx hb dX1_lookAround_103 (by decide) ?_
          refine tk_puti hC hK hw hT hinX1 tyX1_ok nmX1 kC_at149 (by decide) rfl rfl 7 (by decide) (List.mem_of_getElem? (i := 13) rfl) rfl rfl rfl rfl (by decide) (by decide) dX1_lookAround_104 (fun H locs w340 hw hT k342 c341 => ?_)
          have hF := hF.put kC_at149 (k := 7) (by decide) k342
          have c343 := k342.gi (Or.inr (by decide)) c335
          have c344 := k342.gi (Or.inr (by decide)) c336
          have c345 := k342.gi (Or.inr (by decide)) c337
          have c346 := k342.gi (Or.inr (by decide)) c338
          have c347 := k342.gi (Or.inr (by decide)) c339
          have c348 := k342.gi (Or.inr (by decide)) c333
          refine lv_iconst (v := 0) hx hb dX1_lookAround_107 (by decide) ?_
          refine lv_istore (lv' := [(4, .int 0), (3, .int r277), (0, .ref (ad 149)), (1, .ref (ad q1_)), (2, .int 0)]) hx hb dX1_lookAround_108 hl (by decide) rfl (fun ls hl => ?_)
          exact L110 r277 r289 0 x331 x285 x287 H locs ls w340 (show 0 ≤ r277.toInt by omega) (show r277.toInt ≤ 10 by omega) (show (-1) ≤ r289.toInt by omega) (show r289.toInt ≤ 11 by omega) (by decide) (by decide) (show 0 ≤ x331.toInt by omega) (show x331.toInt ≤ 999999 by omega) (show 0 ≤ x285.toInt by omega) (show x285.toInt ≤ 9 by omega) (show 0 ≤ x287.toInt by omega) (show x287.toInt ≤ 9 by omega)  hw hT hF c346 c347 c341 c348 c344 c345 (lv_sub hl [2, 3, 4, 1, 0] rfl)
        · refine va_mmax hx hb (hC.2.2.1.trans hl.1.symm) hC.2.2.2.1 (hC.2.2.2.2 _ (List.mem_of_getElem? (i := 8) rfl)) (hC.2.2.2.2 _ (List.mem_of_getElem? (i := 9) rfl)) (hC.2.2.2.2 _ (List.mem_of_getElem? (i := 10) rfl)) (hC.2.2.2.2 _ (List.mem_of_getElem? (i := 11) rfl)) (Nat.le_of_ble_eq_true rfl) (by decide) (Nat.zero_le _) (Nat.zero_le _) dX1_lookAround_96 ?_
          refine lv_topi (fun x349 ex349 => ?_)
          have bx349 : (x349.toInt = (0 : Int) ∧ (-1 : Int) ≤ (0 : Int)) ∨ (x349.toInt = (-1 : Int) ∧ (0 : Int) < (-1 : Int)) := by rw [ex349]; exact wk_max
          refine tk_puti hC hK hw hT hinX1 tyX1_ok nmX1 kC_at149 (by decide) rfl rfl 8 (by decide) (List.mem_of_getElem? (i := 12) rfl) rfl rfl rfl rfl (wk_i32 x349).1 (wk_i32 x349).2 dX1_lookAround_99 (fun H locs w350 hw hT k352 c351 => ?_)
          have hF := hF.put kC_at149 (k := 8) (by decide) k352
          have c353 := k352.gi (Or.inr (by decide)) c326
          have c354 := k352.gi (Or.inr (by decide)) c327
          have c355 := k352.gi (Or.inr (by decide)) c328
          have c356 := k352.gi (Or.inr (by decide)) c329
          have c357 := k352.gi (Or.inr (by decide)) c330
          refine lv_aload_n hx hb dX1_lookAround_102 rfl (lv_at hl 1 rfl) ?_
          refine lv_iconst (v := (-1)) hx hb dX1_lookAround_103 (by decide) ?_
          refine tk_puti hC hK hw hT hinX1 tyX1_ok nmX1 kC_at149 (by decide) rfl rfl 7 (by decide) (List.mem_of_getElem? (i := 13) rfl) rfl rfl rfl rfl (by decide) (by decide) dX1_lookAround_104 (fun H locs w358 hw hT k360 c359 => ?_)
          have hF := hF.put kC_at149 (k := 7) (by decide) k360
          have c361 := k360.gi (Or.inr (by decide)) c353
          have c362 := k360.gi (Or.inr (by decide)) c354
          have c363 := k360.gi (Or.inr (by decide)) c355
          have c364 := k360.gi (Or.inr (by decide)) c356
          have c365 := k360.gi (Or.inr (by decide)) c357
          have c366 := k360.gi (Or.inr (by decide)) c351
          refine lv_iconst (v := 0) hx hb dX1_lookAround_107 (by decide) ?_
          refine lv_istore (lv' := [(4, .int 0), (3, .int r277), (0, .ref (ad 149)), (1, .ref (ad q1_)), (2, .int 0)]) hx hb dX1_lookAround_108 hl (by decide) rfl (fun ls hl => ?_)
          exact L110 r277 r289 0 x349 x285 x287 H locs ls w358 (show 0 ≤ r277.toInt by omega) (show r277.toInt ≤ 10 by omega) (show (-1) ≤ r289.toInt by omega) (show r289.toInt ≤ 11 by omega) (by decide) (by decide) (show 0 ≤ x349.toInt by omega) (show x349.toInt ≤ 999999 by omega) (show 0 ≤ x285.toInt by omega) (show x285.toInt ≤ 9 by omega) (show 0 ≤ x287.toInt by omega) (show x287.toInt ≤ 9 by omega)  hw hT hF c364 c365 c359 c366 c362 c363 (lv_sub hl [2, 3, 4, 1, 0] rfl)
      · have c307 : ¬ r289.toInt = (-1 : Int) := wk_eqF c307
        refine lv_aload_n hx hb dX1_lookAround_58 rfl (lv_at hl 1 rfl) ?_
        refine lv_aload_n hx hb dX1_lookAround_59 rfl (lv_at hl 2 rfl) ?_
        refine lv_aload_n hx hb dX1_lookAround_60 rfl (lv_at hl 1 rfl) ?_
        refine tk_geti hC hK hw hT hinX1 kC_at149 (by decide) rfl 5 (by decide) (List.mem_of_getElem? (i := 6) rfl) rfl rfl dX1_lookAround_61 (fun x367 c368 rx367 tx367 => ?_)
        refine wk_top r289 (c368.symm.trans c300) ?_
        refine tk_Vi hC hK hw hT hA hE hSR kC_at149 (by decide) rfl (k_X1_isOpenFor_1 l adK adV dC dI cy ad B (by omega) (by omega) qr s1   q1_ hkq1_ r289 (show 0 ≤ r289.toInt by omega) (show r289.toInt ≤ 11 by omega) w299 H.size hT ) (cwV 2 hC.2.2.2.2 gX1_lookAround_X1_isOpenFor rfl rfl rfl (by decide +kernel) ⟨Nat.le_of_ble_eq_true rfl, Nat.le_of_ble_eq_true rfl⟩) rfl hl.1 rfl (Nat.le_of_ble_eq_true rfl) dX1_lookAround_64 (fun r369 w371 H locs hp370 hw => ?_)
        obtain ⟨hT, k372, hg375⟩ := hp370
        have hF := hF.tr k372 (by decide)
        have c376 := k372.gi kC_at149 (by decide) c302
        have c377 := k372.gi hkq1_ (by decide) c303
        have c378 := k372.gi hkq1_ (by decide) c304
        have c379 := k372.gi kC_at149 (by decide) c300
        rcases hg375 with rfl | ⟨rfl, ⟨x373, c374, rx373, tx373⟩⟩
        · refine lv_if_eq (tgt := 74) hx hb dX1_lookAround_67 (by decide) (fun _ => ?_) (fun c => absurd (by decide) c)
          refine lv_iconst (v := 0) hx hb dX1_lookAround_74 (by decide) ?_
          refine tk_putz hC hK hw hT hinX1 tyX1_ok nmX1 kC_at149 (by decide) rfl rfl 6 (by decide) (List.mem_of_getElem? (i := 7) rfl) rfl rfl rfl rfl (by decide) (by decide) dX1_lookAround_75 (fun H locs w380 hw hT k382 c381 => ?_)
          have hF := hF.put kC_at149 (k := 6) (by decide) k382
          have c383 := k382.gi (Or.inr (by decide)) c376
          have c384 := k382.gi (Or.inr (by decide)) c377
          have c385 := k382.gi (Or.inr (by decide)) c378
          have c386 := k382.gi (Or.inr (by decide)) c379
          refine lv_aload_n hx hb dX1_lookAround_78 rfl (lv_at hl 1 rfl) ?_
          refine lv_iconst (v := 0) hx hb dX1_lookAround_79 (by decide) ?_
          refine lv_aload_n hx hb dX1_lookAround_80 rfl (lv_at hl 1 rfl) ?_
          refine tk_getA hC hK hw hT hinX1 kC_at149 (by decide) rfl 1 (by decide) (List.mem_of_getElem? (i := 3) rfl) rfl rfl dX1_lookAround_81 ?_
          refine lv_iload_n hx hb dX1_lookAround_84 rfl (lv_at hl 0 rfl) ?_
          refine lv_aload_n hx hb dX1_lookAround_85 rfl (lv_at hl 2 rfl) ?_
          refine tk_geti hC hK hw hT hinX9 hkq1_ (by decide) rfl 0 (by decide) (List.mem_of_getElem? (i := 4) rfl) rfl rfl dX1_lookAround_86 (fun x387 c388 rx387 tx387 => ?_)
          refine wk_top x285 (c388.symm.trans c384) ?_
          refine lv_aload_n hx hb dX1_lookAround_89 rfl (lv_at hl 2 rfl) ?_
          refine tk_geti hC hK hw hT hinX9 hkq1_ (by decide) rfl 1 (by decide) (List.mem_of_getElem? (i := 5) rfl) rfl rfl dX1_lookAround_90 (fun x389 c390 rx389 tx389 => ?_)
          refine wk_top x287 (c390.symm.trans c385) ?_
          refine tk_Vi hC hK hw hT hA hE hSR kC_at145 (by decide) rfl (k_X0_hoursBy_2 l adK adV dC dI cy ad B (by omega) (by omega) qr s1   r277 (show 4 ≤ r277.toInt by omega) (show r277.toInt ≤ 10 by omega) x285 (show 0 ≤ x285.toInt by omega) (show x285.toInt ≤ 9 by omega) x287 (show 0 ≤ x287.toInt by omega) (show x287.toInt ≤ 9 by omega) w380 H.size hT ) (cwV 3 hC.2.2.2.2 gX1_lookAround_X0_hoursBy rfl rfl rfl (by decide +kernel) ⟨Nat.le_of_ble_eq_true rfl, Nat.le_of_ble_eq_true rfl⟩) rfl hl.1 rfl (Nat.le_of_ble_eq_true rfl) dX1_lookAround_93 (fun r391 w393 H locs hp392 hw => ?_)
          obtain ⟨hT, k394, hg397⟩ := hp392
          have hF := hF.tr k394 (by decide)
          have c398 := k394.gi kC_at149 (by decide) c383
          have c399 := k394.gi hkq1_ (by decide) c384
          have c400 := k394.gi hkq1_ (by decide) c385
          have c401 := k394.gi kC_at149 (by decide) c386
          have c402 := k394.gi kC_at149 (by decide) c381
          rcases hg397 with ⟨g395, g396⟩ | rfl
          · refine va_mmax hx hb (hC.2.2.1.trans hl.1.symm) hC.2.2.2.1 (hC.2.2.2.2 _ (List.mem_of_getElem? (i := 8) rfl)) (hC.2.2.2.2 _ (List.mem_of_getElem? (i := 9) rfl)) (hC.2.2.2.2 _ (List.mem_of_getElem? (i := 10) rfl)) (hC.2.2.2.2 _ (List.mem_of_getElem? (i := 11) rfl)) (Nat.le_of_ble_eq_true rfl) (by decide) (Nat.zero_le _) (Nat.zero_le _) dX1_lookAround_96 ?_
            refine lv_topi (fun x403 ex403 => ?_)
            have bx403 : (x403.toInt = (0 : Int) ∧ r391.toInt ≤ (0 : Int)) ∨ (x403.toInt = r391.toInt ∧ (0 : Int) < r391.toInt) := by rw [ex403]; exact wk_max
            refine tk_puti hC hK hw hT hinX1 tyX1_ok nmX1 kC_at149 (by decide) rfl rfl 8 (by decide) (List.mem_of_getElem? (i := 12) rfl) rfl rfl rfl rfl (wk_i32 x403).1 (wk_i32 x403).2 dX1_lookAround_99 (fun H locs w404 hw hT k406 c405 => ?_)
            have hF := hF.put kC_at149 (k := 8) (by decide) k406
            have c407 := k406.gi (Or.inr (by decide)) c398
            have c408 := k406.gi (Or.inr (by decide)) c399
            have c409 := k406.gi (Or.inr (by decide)) c400
            have c410 := k406.gi (Or.inr (by decide)) c401
            have c411 := k406.gi (Or.inr (by decide)) c402
            refine lv_aload_n hx hb dX1_lookAround_102 rfl (lv_at hl 1 rfl) ?_
            refine lv_iconst (v := (-1)) hx hb dX1_lookAround_103 (by decide) ?_
            refine tk_puti hC hK hw hT hinX1 tyX1_ok nmX1 kC_at149 (by decide) rfl rfl 7 (by decide) (List.mem_of_getElem? (i := 13) rfl) rfl rfl rfl rfl (by decide) (by decide) dX1_lookAround_104 (fun H locs w412 hw hT k414 c413 => ?_)
            have hF := hF.put kC_at149 (k := 7) (by decide) k414
            have c415 := k414.gi (Or.inr (by decide)) c407
            have c416 := k414.gi (Or.inr (by decide)) c408
            have c417 := k414.gi (Or.inr (by decide)) c409
            have c418 := k414.gi (Or.inr (by decide)) c410
            have c419 := k414.gi (Or.inr (by decide)) c411
            have c420 := k414.gi (Or.inr (by decide)) c405
            refine lv_iconst (v := 0) hx hb dX1_lookAround_107 (by decide) ?_
            refine lv_istore (lv' := [(4, .int 0), (3, .int r277), (0, .ref (ad 149)), (1, .ref (ad q1_)), (2, .int 0)]) hx hb dX1_lookAround_108 hl (by decide) rfl (fun ls hl => ?_)
            exact L110 r277 r289 0 x403 x285 x287 H locs ls w412 (show 0 ≤ r277.toInt by omega) (show r277.toInt ≤ 10 by omega) (show (-1) ≤ r289.toInt by omega) (show r289.toInt ≤ 11 by omega) (by decide) (by decide) (show 0 ≤ x403.toInt by omega) (show x403.toInt ≤ 999999 by omega) (show 0 ≤ x285.toInt by omega) (show x285.toInt ≤ 9 by omega) (show 0 ≤ x287.toInt by omega) (show x287.toInt ≤ 9 by omega)  hw hT hF c418 c419 c413 c420 c416 c417 (lv_sub hl [2, 3, 4, 1, 0] rfl)
          · refine va_mmax hx hb (hC.2.2.1.trans hl.1.symm) hC.2.2.2.1 (hC.2.2.2.2 _ (List.mem_of_getElem? (i := 8) rfl)) (hC.2.2.2.2 _ (List.mem_of_getElem? (i := 9) rfl)) (hC.2.2.2.2 _ (List.mem_of_getElem? (i := 10) rfl)) (hC.2.2.2.2 _ (List.mem_of_getElem? (i := 11) rfl)) (Nat.le_of_ble_eq_true rfl) (by decide) (Nat.zero_le _) (Nat.zero_le _) dX1_lookAround_96 ?_
            refine lv_topi (fun x421 ex421 => ?_)
            have bx421 : (x421.toInt = (0 : Int) ∧ (-1 : Int) ≤ (0 : Int)) ∨ (x421.toInt = (-1 : Int) ∧ (0 : Int) < (-1 : Int)) := by rw [ex421]; exact wk_max
            refine tk_puti hC hK hw hT hinX1 tyX1_ok nmX1 kC_at149 (by decide) rfl rfl 8 (by decide) (List.mem_of_getElem? (i := 12) rfl) rfl rfl rfl rfl (wk_i32 x421).1 (wk_i32 x421).2 dX1_lookAround_99 (fun H locs w422 hw hT k424 c423 => ?_)
            have hF := hF.put kC_at149 (k := 8) (by decide) k424
            have c425 := k424.gi (Or.inr (by decide)) c398
            have c426 := k424.gi (Or.inr (by decide)) c399
            have c427 := k424.gi (Or.inr (by decide)) c400
            have c428 := k424.gi (Or.inr (by decide)) c401
            have c429 := k424.gi (Or.inr (by decide)) c402
            refine lv_aload_n hx hb dX1_lookAround_102 rfl (lv_at hl 1 rfl) ?_
            refine lv_iconst (v := (-1)) hx hb dX1_lookAround_103 (by decide) ?_
            refine tk_puti hC hK hw hT hinX1 tyX1_ok nmX1 kC_at149 (by decide) rfl rfl 7 (by decide) (List.mem_of_getElem? (i := 13) rfl) rfl rfl rfl rfl (by decide) (by decide) dX1_lookAround_104 (fun H locs w430 hw hT k432 c431 => ?_)
            have hF := hF.put kC_at149 (k := 7) (by decide) k432
            have c433 := k432.gi (Or.inr (by decide)) c425
            have c434 := k432.gi (Or.inr (by decide)) c426
            have c435 := k432.gi (Or.inr (by decide)) c427
            have c436 := k432.gi (Or.inr (by decide)) c428
            have c437 := k432.gi (Or.inr (by decide)) c429
            have c438 := k432.gi (Or.inr (by decide)) c423
            refine lv_iconst (v := 0) hx hb dX1_lookAround_107 (by decide) ?_
            refine lv_istore (lv' := [(4, .int 0), (3, .int r277), (0, .ref (ad 149)), (1, .ref (ad q1_)), (2, .int 0)]) hx hb dX1_lookAround_108 hl (by decide) rfl (fun ls hl => ?_)
            exact L110 r277 r289 0 x421 x285 x287 H locs ls w430 (show 0 ≤ r277.toInt by omega) (show r277.toInt ≤ 10 by omega) (show (-1) ≤ r289.toInt by omega) (show r289.toInt ≤ 11 by omega) (by decide) (by decide) (show 0 ≤ x421.toInt by omega) (show x421.toInt ≤ 999999 by omega) (show 0 ≤ x285.toInt by omega) (show x285.toInt ≤ 9 by omega) (show 0 ≤ x287.toInt by omega) (show x287.toInt ≤ 9 by omega)  hw hT hF c436 c437 c431 c438 c434 c435 (lv_sub hl [2, 3, 4, 1, 0] rfl)
        · have ex373 : x373.toInt = x266.toInt := by rw [← c376.symm.trans c374]
          refine lv_if_eq (tgt := 74) hx hb dX1_lookAround_67 (by decide) (fun c => absurd c (by decide)) (fun _ => ?_)
          refine lv_iconst (v := 1) hx hb dX1_lookAround_70 (by decide) ?_
          refine lv_goto (tgt := 75) hx hb dX1_lookAround_71 (by decide) ?_
          refine tk_putz hC hK hw hT hinX1 tyX1_ok nmX1 kC_at149 (by decide) rfl rfl 6 (by decide) (List.mem_of_getElem? (i := 7) rfl) rfl rfl rfl rfl (by decide) (by decide) dX1_lookAround_75 (fun H locs w439 hw hT k441 c440 => ?_)
          have hF := hF.put kC_at149 (k := 6) (by decide) k441
          have c442 := k441.gi (Or.inr (by decide)) c376
          have c443 := k441.gi (Or.inr (by decide)) c377
          have c444 := k441.gi (Or.inr (by decide)) c378
          have c445 := k441.gi (Or.inr (by decide)) c379
          refine lv_aload_n hx hb dX1_lookAround_78 rfl (lv_at hl 1 rfl) ?_
          refine lv_iconst (v := 0) hx hb dX1_lookAround_79 (by decide) ?_
          refine lv_aload_n hx hb dX1_lookAround_80 rfl (lv_at hl 1 rfl) ?_
          refine tk_getA hC hK hw hT hinX1 kC_at149 (by decide) rfl 1 (by decide) (List.mem_of_getElem? (i := 3) rfl) rfl rfl dX1_lookAround_81 ?_
          refine lv_iload_n hx hb dX1_lookAround_84 rfl (lv_at hl 0 rfl) ?_
          refine lv_aload_n hx hb dX1_lookAround_85 rfl (lv_at hl 2 rfl) ?_
          refine tk_geti hC hK hw hT hinX9 hkq1_ (by decide) rfl 0 (by decide) (List.mem_of_getElem? (i := 4) rfl) rfl rfl dX1_lookAround_86 (fun x446 c447 rx446 tx446 => ?_)
          refine wk_top x285 (c447.symm.trans c443) ?_
          refine lv_aload_n hx hb dX1_lookAround_89 rfl (lv_at hl 2 rfl) ?_
          refine tk_geti hC hK hw hT hinX9 hkq1_ (by decide) rfl 1 (by decide) (List.mem_of_getElem? (i := 5) rfl) rfl rfl dX1_lookAround_90 (fun x448 c449 rx448 tx448 => ?_)
          refine wk_top x287 (c449.symm.trans c444) ?_
          refine tk_Vi hC hK hw hT hA hE hSR kC_at145 (by decide) rfl (k_X0_hoursBy_2 l adK adV dC dI cy ad B (by omega) (by omega) qr s1   r277 (show 4 ≤ r277.toInt by omega) (show r277.toInt ≤ 10 by omega) x285 (show 0 ≤ x285.toInt by omega) (show x285.toInt ≤ 9 by omega) x287 (show 0 ≤ x287.toInt by omega) (show x287.toInt ≤ 9 by omega) w439 H.size hT ) (cwV 3 hC.2.2.2.2 gX1_lookAround_X0_hoursBy rfl rfl rfl (by decide +kernel) ⟨Nat.le_of_ble_eq_true rfl, Nat.le_of_ble_eq_true rfl⟩) rfl hl.1 rfl (Nat.le_of_ble_eq_true rfl) dX1_lookAround_93 (fun r450 w452 H locs hp451 hw => ?_)
          obtain ⟨hT, k453, hg456⟩ := hp451
          have hF := hF.tr k453 (by decide)
          have c457 := k453.gi kC_at149 (by decide) c442
          have c458 := k453.gi hkq1_ (by decide) c443
          have c459 := k453.gi hkq1_ (by decide) c444
          have c460 := k453.gi kC_at149 (by decide) c445
          have c461 := k453.gi kC_at149 (by decide) c440
          rcases hg456 with ⟨g454, g455⟩ | rfl
          · refine va_mmax hx hb (hC.2.2.1.trans hl.1.symm) hC.2.2.2.1 (hC.2.2.2.2 _ (List.mem_of_getElem? (i := 8) rfl)) (hC.2.2.2.2 _ (List.mem_of_getElem? (i := 9) rfl)) (hC.2.2.2.2 _ (List.mem_of_getElem? (i := 10) rfl)) (hC.2.2.2.2 _ (List.mem_of_getElem? (i := 11) rfl)) (Nat.le_of_ble_eq_true rfl) (by decide) (Nat.zero_le _) (Nat.zero_le _) dX1_lookAround_96 ?_
            refine lv_topi (fun x462 ex462 => ?_)
            have bx462 : (x462.toInt = (0 : Int) ∧ r450.toInt ≤ (0 : Int)) ∨ (x462.toInt = r450.toInt ∧ (0 : Int) < r450.toInt) := by rw [ex462]; exact wk_max
            refine tk_puti hC hK hw hT hinX1 tyX1_ok nmX1 kC_at149 (by decide) rfl rfl 8 (by decide) (List.mem_of_getElem? (i := 12) rfl) rfl rfl rfl rfl (wk_i32 x462).1 (wk_i32 x462).2 dX1_lookAround_99 (fun H locs w463 hw hT k465 c464 => ?_)
            have hF := hF.put kC_at149 (k := 8) (by decide) k465
            have c466 := k465.gi (Or.inr (by decide)) c457
            have c467 := k465.gi (Or.inr (by decide)) c458
            have c468 := k465.gi (Or.inr (by decide)) c459
            have c469 := k465.gi (Or.inr (by decide)) c460
            have c470 := k465.gi (Or.inr (by decide)) c461
            refine lv_aload_n hx hb dX1_lookAround_102 rfl (lv_at hl 1 rfl) ?_
            refine lv_iconst (v := (-1)) hx hb dX1_lookAround_103 (by decide) ?_
            refine tk_puti hC hK hw hT hinX1 tyX1_ok nmX1 kC_at149 (by decide) rfl rfl 7 (by decide) (List.mem_of_getElem? (i := 13) rfl) rfl rfl rfl rfl (by decide) (by decide) dX1_lookAround_104 (fun H locs w471 hw hT k473 c472 => ?_)
            have hF := hF.put kC_at149 (k := 7) (by decide) k473
            have c474 := k473.gi (Or.inr (by decide)) c466
            have c475 := k473.gi (Or.inr (by decide)) c467
            have c476 := k473.gi (Or.inr (by decide)) c468
            have c477 := k473.gi (Or.inr (by decide)) c469
            have c478 := k473.gi (Or.inr (by decide)) c470
            have c479 := k473.gi (Or.inr (by decide)) c464
            refine lv_iconst (v := 0) hx hb dX1_lookAround_107 (by decide) ?_
            refine lv_istore (lv' := [(4, .int 0), (3, .int r277), (0, .ref (ad 149)), (1, .ref (ad q1_)), (2, .int 0)]) hx hb dX1_lookAround_108 hl (by decide) rfl (fun ls hl => ?_)
            exact L110 r277 r289 1 x462 x285 x287 H locs ls w471 (show 0 ≤ r277.toInt by omega) (show r277.toInt ≤ 10 by omega) (show (-1) ≤ r289.toInt by omega) (show r289.toInt ≤ 11 by omega) (by decide) (by decide) (show 0 ≤ x462.toInt by omega) (show x462.toInt ≤ 999999 by omega) (show 0 ≤ x285.toInt by omega) (show x285.toInt ≤ 9 by omega) (show 0 ≤ x287.toInt by omega) (show x287.toInt ≤ 9 by omega)  hw hT hF c477 c478 c472 c479 c475 c476 (lv_sub hl [2, 3, 4, 1, 0] rfl)
          · refine va_mmax hx hb (hC.2.2.1.trans hl.1.symm) hC.2.2.2.1 (hC.2.2.2.2 _ (List.mem_of_getElem? (i := 8) rfl)) (hC.2.2.2.2 _ (List.mem_of_getElem? (i := 9) rfl)) (hC.2.2.2.2 _ (List.mem_of_getElem? (i := 10) rfl)) (hC.2.2.2.2 _ (List.mem_of_getElem? (i := 11) rfl)) (Nat.le_of_ble_eq_true rfl) (by decide) (Nat.zero_le _) (Nat.zero_le _) dX1_lookAround_96 ?_
            refine lv_topi (fun x480 ex480 => ?_)
            have bx480 : (x480.toInt = (0 : Int) ∧ (-1 : Int) ≤ (0 : Int)) ∨ (x480.toInt = (-1 : Int) ∧ (0 : Int) < (-1 : Int)) := by rw [ex480]; exact wk_max
            refine tk_puti hC hK hw hT hinX1 tyX1_ok nmX1 kC_at149 (by decide) rfl rfl 8 (by decide) (List.mem_of_getElem? (i := 12) rfl) rfl rfl rfl rfl (wk_i32 x480).1 (wk_i32 x480).2 dX1_lookAround_99 (fun H locs w481 hw hT k483 c482 => ?_)
            have hF := hF.put kC_at149 (k := 8) (by decide) k483
            have c484 := k483.gi (Or.inr (by decide)) c457
            have c485 := k483.gi (Or.inr (by decide)) c458
            have c486 := k483.gi (Or.inr (by decide)) c459
            have c487 := k483.gi (Or.inr (by decide)) c460
            have c488 := k483.gi (Or.inr (by decide)) c461
            refine lv_aload_n hx hb dX1_lookAround_102 rfl (lv_at hl 1 rfl) ?_
            refine lv_iconst (v := (-1)) hx hb dX1_lookAround_103 (by decide) ?_
            refine tk_puti hC hK hw hT hinX1 tyX1_ok nmX1 kC_at149 (by decide) rfl rfl 7 (by decide) (List.mem_of_getElem? (i := 13) rfl) rfl rfl rfl rfl (by decide) (by decide) dX1_lookAround_104 (fun H locs w489 hw hT k491 c490 => ?_)
            have hF := hF.put kC_at149 (k := 7) (by decide) k491
            have c492 := k491.gi (Or.inr (by decide)) c484
            have c493 := k491.gi (Or.inr (by decide)) c485
            have c494 := k491.gi (Or.inr (by decide)) c486
            have c495 := k491.gi (Or.inr (by decide)) c487
            have c496 := k491.gi (Or.inr (by decide)) c488
            have c497 := k491.gi (Or.inr (by decide)) c482
            refine lv_iconst (v := 0) hx hb dX1_lookAround_107 (by decide) ?_
            refine lv_istore (lv' := [(4, .int 0), (3, .int r277), (0, .ref (ad 149)), (1, .ref (ad q1_)), (2, .int 0)]) hx hb dX1_lookAround_108 hl (by decide) rfl (fun ls hl => ?_)
            exact L110 r277 r289 1 x480 x285 x287 H locs ls w489 (show 0 ≤ r277.toInt by omega) (show r277.toInt ≤ 10 by omega) (show (-1) ≤ r289.toInt by omega) (show r289.toInt ≤ 11 by omega) (by decide) (by decide) (show 0 ≤ x480.toInt by omega) (show x480.toInt ≤ 999999 by omega) (show 0 ≤ x285.toInt by omega) (show x285.toInt ≤ 9 by omega) (show 0 ≤ x287.toInt by omega) (show x287.toInt ≤ 9 by omega)  hw hT hF c495 c496 c490 c497 c493 c494 (lv_sub hl [2, 3, 4, 1, 0] rfl)
abbrev P_X1_follow_1 (ad : Nat → Nat) (cy : Nat → ClassId) (B : Int) (qr : Nat) (s1 : Int) (q1_ : Nat) (a2 : Int32) (w0 : va_W) : va_W → Prop := fun u => TW ksC ad cy (B + 9) qr s1 u ∧ FE ksC [(9, 0, 0), (9, 4, 4), (9, 7, 7)] w0 u ∧ ((True))
set_option maxHeartbeats 4000000 in
set_option maxRecDepth 100000 in
theorem k_X1_follow_1 (l : Launch) (adK adV : Nat → Nat) (dC : Nat → ClassId) (dI : Nat → Nat → Nat) (cy : Nat → ClassId) (ad : Nat → Nat) (B : Int) (hB0 : 2147483648 ≤ B) (hB1 : B ≤ 1152921504606846976) (qr : Nat) (s1 : Int)  (q1_ : Nat) (hkq1_ : ksC[q1_]? = some 9) (a2 : Int32) (ra2 : (-1) ≤ a2.toInt) (ta2 : a2.toInt ≤ 11) (w0 : va_W) (sz : Nat) (hT : TW ksC ad cy B qr s1 w0)  : Met l yX1_follow wsX1_follow ({ frames := 2, cells := 0, slots := 0, locals := 34 }) (va_Pc [.ref (ad 149), .ref (ad q1_), .int a2] (wpreS adK adV dC dI cy sz w0)) (va_Qv (P_X1_follow_1 ad cy B qr s1 q1_ a2 w0) (fun u : va_W => wpost dC dI cy (va_A w0 sz) u) (va_A w0 sz)) 0 0 (va_A w0 sz) := by
  refine Met.ofW (cc := cX1_follow) (maxL := 4) (ret := none) (by decide) rfl ?_
  intro p e s m args below meth c s₁ Bk hml hv
  obtain ⟨rfl, ⟨hsz, hP, hK, hD0⟩, hE, hSR⟩ := hv
  have hx := Bk.exec
  have hb := Bk.bytes
  have hr := Bk.returns
  have hlocks := Bk.notSynchronized
  have hC : CallFix p m c cX1_follow 4 s _ wsX1_follow RX1 := ⟨hx, hb, hml, findClass_of_methodNamed Bk.named, atoms_spec (ws := wsX1_follow) Bk.pre⟩
  subst hsz
  have hD := hD0.self (sz := s.heap.size)
  generalize hAe : va_A w0 s.heap.size = A at hD hE ⊢
  have hA : ∀ q : Nat, s.heap.size ≤ q → A q := fun q h => by rw [← hAe]; exact Or.inr h
  have hw : Wd dC dI A s.heap s.heap [] w0 := ⟨hP, hD, va_S.rf⟩
  have hF : FE ksC [(9, 0, 0), (9, 4, 4), (9, 7, 7)] w0 w0 := FE.rf
  have hl := lv_entry ([.ref (ad 149), .ref (ad q1_), .int a2]) (n := 4) (Nat.le_of_ble_eq_true rfl)
  rw [lg_entry_eq]
  generalize (lg_sl ([.ref (ad 149), .ref (ad q1_), .int a2]) ++ List.replicate (4 - (lg_sl ([.ref (ad 149), .ref (ad q1_), .int a2])).length) Slot.unset).toArray = ls at hl ⊢
  have hl : lv_has ls 4 [(0, .ref (ad 149)), (1, .ref (ad q1_)), (2, .int a2)] := hl
  generalize hloc : ([] : List Loc) = locs at hw ⊢
  have hinX1 : ∀ w ∈ u_ws RX1 TX1 10, w ∈ wsX1_follow := fun _ h => List.mem_cons_of_mem _ (List.mem_append_left _ (List.mem_append_left _ (List.mem_append_left _ (List.mem_append_right _ (h)))))
  have hinX5 : ∀ w ∈ u_ws RX5 TX5 14, w ∈ wsX1_follow := fun _ h => List.mem_cons_of_mem _ (List.mem_append_left _ (List.mem_append_left _ (List.mem_append_right _ (h))))
  have hinX9 : ∀ w ∈ u_ws RX9 TX9 9, w ∈ wsX1_follow := fun _ h => List.mem_cons_of_mem _ (List.mem_append_left _ (List.mem_append_right _ (h)))
  have hinX7 : ∀ w ∈ u_ws RX7 TX7 12, w ∈ wsX1_follow := fun _ h => List.mem_cons_of_mem _ (List.mem_append_right _ (h))
  refine lv_iload_n hx hb dX1_follow_0 rfl (lv_at hl 2 rfl) ?_
  refine lv_iconst (v := (-1)) hx hb dX1_follow_1 (by decide) ?_
  refine lv_icmp_ne (tgt := 6) hx hb dX1_follow_2 (by decide) (fun c1 => ?_) (fun c1 => ?_)
  · have c1 : ¬ a2.toInt = (-1 : Int) := wk_eqF c1
    refine lv_aload_n hx hb dX1_follow_6 rfl (lv_at hl 0 rfl) ?_
    refine tk_getA hC hK hw hT hinX1 kC_at149 (by decide) rfl 0 (by decide) (List.mem_of_getElem? (i := 1) rfl) rfl rfl dX1_follow_7 ?_
    refine tk_getO hC hK hw hT hinX5 kC_at38 (by decide) rfl 0 (by decide) (List.mem_of_getElem? (i := 2) rfl) rfl rfl dX1_follow_10 ?_
    refine lv_iload_n hx hb dX1_follow_13 rfl (lv_at hl 2 rfl) ?_
    refine lv_aload_n hx hb dX1_follow_14 rfl (lv_at hl 1 rfl) ?_
    refine tk_geti hC hK hw hT hinX9 hkq1_ (by decide) rfl 0 (by decide) (List.mem_of_getElem? (i := 3) rfl) rfl rfl dX1_follow_15 (fun x2 c3 rx2 tx2 => ?_)
    refine tk_Vi hC hK hw hT hA hE hSR kC_at39 (by decide) rfl (k_X7_sideOf_2 l adK adV dC dI cy ad B (by omega) (by omega) qr s1   a2 (show 0 ≤ a2.toInt by omega) (show a2.toInt ≤ 11 by omega) x2 (show 0 ≤ x2.toInt by omega) (show x2.toInt ≤ 9 by omega) w0 s.heap.size hT ) (cwV 2 hC.2.2.2.2 gX1_follow_X7_sideOf rfl rfl rfl (by decide +kernel) ⟨Nat.le_of_ble_eq_true rfl, Nat.le_of_ble_eq_true rfl⟩) rfl hl.1 rfl (Nat.le_of_ble_eq_true rfl) dX1_follow_18 (fun r4 w6 H locs hp5 hw => ?_)
    obtain ⟨hT, k7, hg10⟩ := hp5
    have hF := hF.tr k7 (by decide)
    have c11 := k7.gi hkq1_ (by decide) c3
    rcases hg10 with ⟨g8, g9⟩ | rfl
    · refine lv_istore_n (lv' := [(3, .int r4), (0, .ref (ad 149)), (1, .ref (ad q1_)), (2, .int a2)]) hx hb dX1_follow_21 rfl hl (by decide) rfl (fun ls hl => ?_)
      refine lv_iload_n hx hb dX1_follow_22 rfl (lv_at hl 0 rfl) ?_
      refine lv_iconst (v := (-1)) hx hb dX1_follow_23 (by decide) ?_
      refine lv_icmp_ne (tgt := 28) hx hb dX1_follow_24 (by decide) (fun _ => ?_) (fun c => absurd (show r4.toInt = (-1 : Int) from wk_eq.mp c) (by omega))
      refine lv_aload_n hx hb dX1_follow_28 rfl (lv_at hl 2 rfl) ?_
      refine lv_aload_n hx hb dX1_follow_29 rfl (lv_at hl 2 rfl) ?_
      refine tk_geti hC hK hw hT hinX9 hkq1_ (by decide) rfl 0 (by decide) (List.mem_of_getElem? (i := 3) rfl) rfl rfl dX1_follow_30 (fun x12 c13 rx12 tx12 => ?_)
      refine wk_top x2 (c13.symm.trans c11) ?_
      refine tk_puti hC hK hw hT hinX9 tyX9_ok nmX9 hkq1_ (by decide) rfl rfl 7 (by decide) (List.mem_of_getElem? (i := 4) rfl) rfl rfl rfl rfl (show (-1) ≤ x2.toInt by omega) (show x2.toInt ≤ 9 by omega) dX1_follow_33 (fun H locs w14 hw hT k16 c15 => ?_)
      have hF := hF.put hkq1_ (k := 7) (by decide) k16
      have c17 := k16.gi (Or.inr (by decide)) c11
      refine lv_aload_n hx hb dX1_follow_36 rfl (lv_at hl 2 rfl) ?_
      refine lv_aload_n hx hb dX1_follow_37 rfl (lv_at hl 1 rfl) ?_
      refine tk_getA hC hK hw hT hinX1 kC_at149 (by decide) rfl 0 (by decide) (List.mem_of_getElem? (i := 1) rfl) rfl rfl dX1_follow_38 ?_
      refine tk_getO hC hK hw hT hinX5 kC_at38 (by decide) rfl 0 (by decide) (List.mem_of_getElem? (i := 2) rfl) rfl rfl dX1_follow_41 ?_
      refine lv_iload_n hx hb dX1_follow_44 rfl (lv_at hl 3 rfl) ?_
      refine lv_iload_n hx hb dX1_follow_45 rfl (lv_at hl 0 rfl) ?_
      refine tk_Vi hC hK hw hT hA hE hSR kC_at39 (by decide) rfl (k_X7_cornerAcross_1 l adK adV dC dI cy ad B (by omega) (by omega) qr s1   a2 (show 0 ≤ a2.toInt by omega) (show a2.toInt ≤ 11 by omega) r4 (show 0 ≤ r4.toInt by omega) (show r4.toInt ≤ 1 by omega) w14 H.size hT ) (cwV 2 hC.2.2.2.2 gX1_follow_X7_cornerAcross rfl rfl rfl (by decide +kernel) ⟨Nat.le_of_ble_eq_true rfl, Nat.le_of_ble_eq_true rfl⟩) rfl hl.1 rfl (Nat.le_of_ble_eq_true rfl) dX1_follow_46 (fun r18 w20 H locs hp19 hw => ?_)
      obtain ⟨hT, k21, hg24⟩ := hp19
      have hF := hF.tr k21 (by decide)
      have c25 := k21.gi hkq1_ (by decide) c17
      have c26 := k21.gi hkq1_ (by decide) c15
      obtain ⟨g22, g23⟩ := hg24
      refine tk_puti hC hK hw hT hinX9 tyX9_ok nmX9 hkq1_ (by decide) rfl rfl 0 (by decide) (List.mem_of_getElem? (i := 3) rfl) rfl rfl rfl rfl (show 0 ≤ r18.toInt by omega) (show r18.toInt ≤ 9 by omega) dX1_follow_49 (fun H locs w27 hw hT k29 c28 => ?_)
      have hF := hF.put hkq1_ (k := 0) (by decide) k29
      have c30 := k29.gi (Or.inr (by decide)) c26
      refine lv_aload_n hx hb dX1_follow_52 rfl (lv_at hl 2 rfl) ?_
      refine lv_dup hx hb dX1_follow_53 rfl ?_
      refine tk_getB hC hK hw hT hinX9 hkq1_ (by decide) rfl 4 (by decide) (List.mem_of_getElem? (i := 5) rfl) rfl rfl dX1_follow_54 (fun x31 c32 rx31 tx31 => ?_)
      refine lv_aload_n hx hb dX1_follow_57 rfl (lv_at hl 1 rfl) ?_
      refine tk_getA hC hK hw hT hinX1 kC_at149 (by decide) rfl 0 (by decide) (List.mem_of_getElem? (i := 1) rfl) rfl rfl dX1_follow_58 ?_
      refine tk_getO hC hK hw hT hinX5 kC_at38 (by decide) rfl 0 (by decide) (List.mem_of_getElem? (i := 2) rfl) rfl rfl dX1_follow_61 ?_
      refine tk_getO hC hK hw hT hinX7 kC_at39 (by decide) rfl 1 (by decide) (List.mem_of_getElem? (i := 6) rfl) rfl rfl dX1_follow_64 ?_
      refine lv_iload_n hx hb dX1_follow_67 rfl (lv_at hl 3 rfl) ?_
      refine tk_iald hC hK hw hT kC_at41 rfl rfl (show 0 ≤ a2.toInt by omega) (show a2.toInt < 13 by omega) dX1_follow_68 (fun x33 c34 rx33 tx33 => ?_)
      refine lv_i2l hx hb dX1_follow_69 rfl ?_
      refine lv_topl (fun x35 ex35 => ?_)
      have ex35 : x35.toInt = x33.toInt := by rw [ex35]; exact wk_i2l _
      have bx35 := wk_i32 x33
      refine lv_ladd hx hb dX1_follow_70 ?_
      refine lv_topl (fun x36 ex36 => ?_)
      have ex36 : x36.toInt = x31.toInt + x35.toInt := by rw [ex36]; exact wk_addl (show (-9223372036854775808) ≤ x31.toInt + x35.toInt by omega) (show x31.toInt + x35.toInt ≤ 9223372036854775807 by omega)
      have hT := hT.up (show B ≤ (B + 9) by omega)
      refine tk_putB hC hK hw hT hinX9 tyX9_ok nmX9 hkq1_ (by decide) rfl rfl 4 (by decide) (List.mem_of_getElem? (i := 5) rfl) rfl rfl rfl rfl (show 0 ≤ x36.toInt by omega) (show x36.toInt ≤ (B + 9) by omega) dX1_follow_71 (fun H locs w37 hw hT k39 c38 => ?_)
      have hF := hF.put hkq1_ (k := 4) (by decide) k39
      have c40 := k39.gi (Or.inr (by decide)) c30
      have c41 := k39.gi (Or.inr (by decide)) c28
      exact tk_vret hC hr hlocks hK ⟨hT, hF, trivial⟩ hw dX1_follow_74
    · refine lv_istore_n (lv' := [(3, .int (-1)), (0, .ref (ad 149)), (1, .ref (ad q1_)), (2, .int a2)]) hx hb dX1_follow_21 rfl hl (by decide) rfl (fun ls hl => ?_)
      refine lv_iload_n hx hb dX1_follow_22 rfl (lv_at hl 0 rfl) ?_
      refine lv_iconst (v := (-1)) hx hb dX1_follow_23 (by decide) ?_
      refine lv_icmp_ne (tgt := 28) hx hb dX1_follow_24 (by decide) (fun c => absurd (by decide) c) (fun _ => ?_)
      exact tk_vret hC hr hlocks hK ⟨(hT.up (show B ≤ (B + 9) by omega)), hF, trivial⟩ hw dX1_follow_27
  · have c1 : a2.toInt = (-1 : Int) := wk_eq.mp c1
    exact tk_vret hC hr hlocks hK ⟨(hT.up (show B ≤ (B + 9) by omega)), hF, trivial⟩ hw dX1_follow_5
abbrev P_X9_isAtGoal_1 (ad : Nat → Nat) (cy : Nat → ClassId) (B : Int) (qr : Nat) (s1 : Int) (q0_ : Nat) (w0 : va_W) : Int32 → va_W → Prop := fun r u => TW ksC ad cy B qr s1 u ∧ FE ksC ([] : List (Nat × Nat × Nat)) w0 u ∧ ((r = 0) ∨ (r = 1))
set_option maxHeartbeats 4000000 in
set_option maxRecDepth 100000 in
theorem k_X9_isAtGoal_1 (l : Launch) (adK adV : Nat → Nat) (dC : Nat → ClassId) (dI : Nat → Nat → Nat) (cy : Nat → ClassId) (ad : Nat → Nat) (B : Int) (hB0 : 2147483648 ≤ B) (hB1 : B ≤ 1152921504606846976) (qr : Nat) (s1 : Int)  (q0_ : Nat) (hkq0_ : ksC[q0_]? = some 9) (w0 : va_W) (sz : Nat) (hT : TW ksC ad cy B qr s1 w0)  : Met l yX9_isAtGoal wsX9_isAtGoal ({ frames := 1, cells := 0, slots := 0, locals := 12 }) (va_Pc [.ref (ad q0_)] (wpreS adK adV dC dI cy sz w0)) (va_Qi (P_X9_isAtGoal_1 ad cy B qr s1 q0_ w0) (fun u : va_W => wpost dC dI cy (va_A w0 sz) u) (va_A w0 sz)) 0 0 (va_A w0 sz) := by
  refine Met.ofW (cc := cX9_isAtGoal) (maxL := 1) (ret := (some .boolean)) (by decide) rfl ?_
  intro p e s m args below meth c s₁ Bk hml hv
  obtain ⟨rfl, ⟨hsz, hP, hK, hD0⟩, hE, hSR⟩ := hv
  have hx := Bk.exec
  have hb := Bk.bytes
  have hr := Bk.returns
  have hlocks := Bk.notSynchronized
  have hC : CallFix p m c cX9_isAtGoal 1 s _ wsX9_isAtGoal RX9 := ⟨hx, hb, hml, findClass_of_methodNamed Bk.named, atoms_spec (ws := wsX9_isAtGoal) Bk.pre⟩
  subst hsz
  have hD := hD0.self (sz := s.heap.size)
  generalize hAe : va_A w0 s.heap.size = A at hD hE ⊢
  have hA : ∀ q : Nat, s.heap.size ≤ q → A q := fun q h => by rw [← hAe]; exact Or.inr h
  have hw : Wd dC dI A s.heap s.heap [] w0 := ⟨hP, hD, va_S.rf⟩
  have hF : FE ksC ([] : List (Nat × Nat × Nat)) w0 w0 := FE.rf
  have hl := lv_entry ([.ref (ad q0_)]) (n := 1) (Nat.le_of_ble_eq_true rfl)
  rw [lg_entry_eq]
  generalize (lg_sl ([.ref (ad q0_)]) ++ List.replicate (1 - (lg_sl ([.ref (ad q0_)])).length) Slot.unset).toArray = ls at hl ⊢
  have hl : lv_has ls 1 [(0, .ref (ad q0_))] := hl
  generalize hloc : ([] : List Loc) = locs at hw ⊢
  have hinX9 : ∀ w ∈ u_ws RX9 TX9 9, w ∈ wsX9_isAtGoal := fun _ h => List.mem_cons_of_mem _ (List.mem_append_right _ (h))
  refine lv_aload_n hx hb dX9_isAtGoal_0 rfl (lv_at hl 0 rfl) ?_
  refine tk_geti hC hK hw hT hinX9 hkq0_ (by decide) rfl 0 (by decide) (List.mem_of_getElem? (i := 1) rfl) rfl rfl dX9_isAtGoal_1 (fun x1 c2 rx1 tx1 => ?_)
  refine lv_aload_n hx hb dX9_isAtGoal_4 rfl (lv_at hl 0 rfl) ?_
  refine tk_geti hC hK hw hT hinX9 hkq0_ (by decide) rfl 1 (by decide) (List.mem_of_getElem? (i := 2) rfl) rfl rfl dX9_isAtGoal_5 (fun x3 c4 rx3 tx3 => ?_)
  refine lv_icmp_ne (tgt := 15) hx hb dX9_isAtGoal_8 (by decide) (fun c5 => ?_) (fun c5 => ?_)
  · have c5 : ¬ x1.toInt = x3.toInt := wk_eqF c5
    refine lv_iconst (v := 0) hx hb dX9_isAtGoal_15 (by decide) ?_
    exact tk_zret hC hr rfl hlocks hK ⟨hT, hF, (Or.inl rfl)⟩ hw dX9_isAtGoal_16
  · have c5 : x1.toInt = x3.toInt := wk_eq.mp c5
    refine lv_iconst (v := 1) hx hb dX9_isAtGoal_11 (by decide) ?_
    refine lv_goto (tgt := 16) hx hb dX9_isAtGoal_12 (by decide) ?_
    exact tk_zret hC hr rfl hlocks hK ⟨hT, hF, (Or.inr rfl)⟩ hw dX9_isAtGoal_16
abbrev P_X2_deedOf_1 (ad : Nat → Nat) (cy : Nat → ClassId) (B : Int) (qr : Nat) (s1 : Int) (q0_ : Nat) (a1 : Int32) (w0 : va_W) : Int32 → va_W → Prop := fun r u => TW ksC ad cy B qr s1 u ∧ FE ksC ([] : List (Nat × Nat × Nat)) w0 u ∧ ((True))
set_option maxHeartbeats 4000000 in
set_option maxRecDepth 100000 in
theorem k_X2_deedOf_1 (l : Launch) (adK adV : Nat → Nat) (dC : Nat → ClassId) (dI : Nat → Nat → Nat) (cy : Nat → ClassId) (ad : Nat → Nat) (B : Int) (hB0 : 2147483648 ≤ B) (hB1 : B ≤ 1152921504606846976) (qr : Nat) (s1 : Int)  (q0_ : Nat) (hkq0_ : ksC[q0_]? = some 2) (a1 : Int32) (ra1 : 0 ≤ a1.toInt) (ta1 : a1.toInt ≤ 11) (w0 : va_W) (sz : Nat) (hT : TW ksC ad cy B qr s1 w0)  : Met l yX2_deedOf wsX2_deedOf ({ frames := 1, cells := 0, slots := 0, locals := 12 }) (va_Pc [.ref (ad q0_), .int a1] (wpreS adK adV dC dI cy sz w0)) (va_Qi (P_X2_deedOf_1 ad cy B qr s1 q0_ a1 w0) (fun u : va_W => wpost dC dI cy (va_A w0 sz) u) (va_A w0 sz)) 0 0 (va_A w0 sz) := by
  refine Met.ofW (cc := cX2_deedOf) (maxL := 2) (ret := (some .int)) (by decide) rfl ?_
  intro p e s m args below meth c s₁ Bk hml hv
  obtain ⟨rfl, ⟨hsz, hP, hK, hD0⟩, hE, hSR⟩ := hv
  have hx := Bk.exec
  have hb := Bk.bytes
  have hr := Bk.returns
  have hlocks := Bk.notSynchronized
  have hC : CallFix p m c cX2_deedOf 2 s _ wsX2_deedOf RX2 := ⟨hx, hb, hml, findClass_of_methodNamed Bk.named, atoms_spec (ws := wsX2_deedOf) Bk.pre⟩
  subst hsz
  have hD := hD0.self (sz := s.heap.size)
  generalize hAe : va_A w0 s.heap.size = A at hD hE ⊢
  have hA : ∀ q : Nat, s.heap.size ≤ q → A q := fun q h => by rw [← hAe]; exact Or.inr h
  have hw : Wd dC dI A s.heap s.heap [] w0 := ⟨hP, hD, va_S.rf⟩
  have hF : FE ksC ([] : List (Nat × Nat × Nat)) w0 w0 := FE.rf
  have hl := lv_entry ([.ref (ad q0_), .int a1]) (n := 2) (Nat.le_of_ble_eq_true rfl)
  rw [lg_entry_eq]
  generalize (lg_sl ([.ref (ad q0_), .int a1]) ++ List.replicate (2 - (lg_sl ([.ref (ad q0_), .int a1])).length) Slot.unset).toArray = ls at hl ⊢
  have hl : lv_has ls 2 [(0, .ref (ad q0_)), (1, .int a1)] := hl
  generalize hloc : ([] : List Loc) = locs at hw ⊢
  have hinX2 : ∀ w ∈ u_ws RX2 TX2 6, w ∈ wsX2_deedOf := fun _ h => List.mem_cons_of_mem _ (List.mem_append_right _ (h))
  refine lv_aload_n hx hb dX2_deedOf_0 rfl (lv_at hl 0 rfl) ?_
  refine tk_getO hC hK hw hT hinX2 hkq0_ (by decide) rfl 0 (by decide) (List.mem_of_getElem? (i := 1) rfl) rfl rfl dX2_deedOf_1 ?_
  refine lv_iload_n hx hb dX2_deedOf_4 rfl (lv_at hl 1 rfl) ?_
  refine tk_iald hC hK hw hT (kC_2_1 hkq0_) rfl rfl (show 0 ≤ a1.toInt by omega) (show a1.toInt < 12 by omega) dX2_deedOf_5 (fun x1 c2 rx1 tx1 => ?_)
  exact tk_iret hC hr hlocks hK ⟨hT, hF, trivial⟩ hw dX2_deedOf_6
abbrev P_X1_mayDo_1 (ad : Nat → Nat) (cy : Nat → ClassId) (B : Int) (qr : Nat) (s1 : Int) (q1_ : Nat) (a2 : Int32) (w0 : va_W) : Int32 → va_W → Prop := fun r u => TW ksC ad cy B qr s1 u ∧ FE ksC ([] : List (Nat × Nat × Nat)) w0 u ∧ ((0 ≤ r.toInt ∧ r.toInt ≤ 1 ∧ 0 ≤ a2.toInt ∧ a2.toInt ≤ 0) ∨ (r = 0) ∨ (r = 1))
set_option maxHeartbeats 4000000 in
set_option maxRecDepth 100000 in
theorem k_X1_mayDo_1 (l : Launch) (adK adV : Nat → Nat) (dC : Nat → ClassId) (dI : Nat → Nat → Nat) (cy : Nat → ClassId) (ad : Nat → Nat) (B : Int) (hB0 : 2147483648 ≤ B) (hB1 : B ≤ 1152921504606846976) (qr : Nat) (s1 : Int)  (q1_ : Nat) (hkq1_ : ksC[q1_]? = some 9) (a2 : Int32) (w0 : va_W) (sz : Nat) (hT : TW ksC ad cy B qr s1 w0)  : Met l yX1_mayDo wsX1_mayDo ({ frames := 3, cells := 0, slots := 0, locals := 52 }) (va_Pc [.ref (ad 149), .ref (ad q1_), .int a2] (wpreS adK adV dC dI cy sz w0)) (va_Qi (P_X1_mayDo_1 ad cy B qr s1 q1_ a2 w0) (fun u : va_W => wpost dC dI cy (va_A w0 sz) u) (va_A w0 sz)) 0 0 (va_A w0 sz) := by
  refine Met.ofW (cc := cX1_mayDo) (maxL := 3) (ret := (some .boolean)) (by decide) rfl ?_
  intro p e s m args below meth c s₁ Bk hml hv
  obtain ⟨rfl, ⟨hsz, hP, hK, hD0⟩, hE, hSR⟩ := hv
  have hx := Bk.exec
  have hb := Bk.bytes
  have hr := Bk.returns
  have hlocks := Bk.notSynchronized
  have hC : CallFix p m c cX1_mayDo 3 s _ wsX1_mayDo RX1 := ⟨hx, hb, hml, findClass_of_methodNamed Bk.named, atoms_spec (ws := wsX1_mayDo) Bk.pre⟩
  subst hsz
  have hD := hD0.self (sz := s.heap.size)
  generalize hAe : va_A w0 s.heap.size = A at hD hE ⊢
  have hA : ∀ q : Nat, s.heap.size ≤ q → A q := fun q h => by rw [← hAe]; exact Or.inr h
  have hw : Wd dC dI A s.heap s.heap [] w0 := ⟨hP, hD, va_S.rf⟩
  have hF : FE ksC ([] : List (Nat × Nat × Nat)) w0 w0 := FE.rf
  have hl := lv_entry ([.ref (ad 149), .ref (ad q1_), .int a2]) (n := 3) (Nat.le_of_ble_eq_true rfl)
  rw [lg_entry_eq]
  generalize (lg_sl ([.ref (ad 149), .ref (ad q1_), .int a2]) ++ List.replicate (3 - (lg_sl ([.ref (ad 149), .ref (ad q1_), .int a2])).length) Slot.unset).toArray = ls at hl ⊢
  have hl : lv_has ls 3 [(0, .ref (ad 149)), (1, .ref (ad q1_)), (2, .int a2)] := hl
  generalize hloc : ([] : List Loc) = locs at hw ⊢
  have hinX1 : ∀ w ∈ u_ws RX1 TX1 10, w ∈ wsX1_mayDo := fun _ h => List.mem_cons_of_mem _ (List.mem_append_left _ (List.mem_append_right _ (h)))
  have J65 : ∀ (f65_149_9 : Int32) (H : Heap) (locs : List Loc) (ls : Array Slot) (w1 : va_W), 0 ≤ f65_149_9.toInt → f65_149_9.toInt ≤ 1 → Wd dC dI A s.heap H locs w1 → TW ksC ad cy B qr s1 w1 → FE ksC ([] : List (Nat × Nat × Nat)) w0 w1 → gi w1 149 9 = f65_149_9 → lv_has ls 3 [(0, .ref (ad 149)), (1, .ref (ad q1_)), (2, .int 2)] → W p l e ({ frames := 3, cells := 0, slots := 0, locals := 52 }) s m (List.toArray [.ref (ad 149), .ref (ad q1_), .int a2]) below meth c H locs 0 0 (MQ below (va_Qi (P_X1_mayDo_1 ad cy B qr s1 q1_ a2 w0) (fun u : va_W => wpost dC dI cy A u) A) (List.toArray [.ref (ad 149), .ref (ad q1_), .int a2]) s 0 0 A) (F0 m 65 ls []) := by
    intro f65_149_9 H locs ls w1 r2 t3 hw hT hF c4 hl
    refine lv_iconst (v := 0) hx hb dX1_mayDo_65 (by decide) ?_
    exact tk_zret hC hr rfl hlocks hK ⟨hT, hF, (Or.inr (Or.inl rfl))⟩ hw dX1_mayDo_66
  refine lv_iload_n hx hb dX1_mayDo_0 rfl (lv_at hl 2 rfl) ?_
  rcases (show a2.toInt = 0 ∨ a2.toInt = 1 ∨ a2.toInt = 2 ∨ (a2.toInt < 0 ∨ 2 < a2.toInt) by omega) with c5 | c5 | c5 | c5
  · refine lv_tableIn (off := 27) (tgt := 28) hx hb dX1_mayDo_1 (by omega) (by omega) (by rw [c5]; rfl) (by decide) ?_
    refine lv_aload_n hx hb dX1_mayDo_28 rfl (lv_at hl 0 rfl) ?_
    refine tk_geti hC hK hw hT hinX1 kC_at149 (by decide) rfl 6 (by decide) (List.mem_of_getElem? (i := 1) rfl) rfl rfl dX1_mayDo_29 (fun x6 c7 rx6 tx6 => ?_)
    exact tk_zret hC hr (by rcases nar_z (show 0 ≤ x6.toInt by omega) (show x6.toInt ≤ 1 by omega) with h | h <;> (rw [h]; rfl)) hlocks hK ⟨hT, hF, (Or.inl ⟨(show 0 ≤ x6.toInt by omega), (show x6.toInt ≤ 1 by omega), (show 0 ≤ a2.toInt by omega), (show a2.toInt ≤ 0 by omega)⟩)⟩ hw dX1_mayDo_32
  · refine lv_tableIn (off := 32) (tgt := 33) hx hb dX1_mayDo_1 (by omega) (by omega) (by rw [c5]; rfl) (by decide) ?_
    refine lv_aload_n hx hb dX1_mayDo_33 rfl (lv_at hl 0 rfl) ?_
    refine tk_geti hC hK hw hT hinX1 kC_at149 (by decide) rfl 7 (by decide) (List.mem_of_getElem? (i := 2) rfl) rfl rfl dX1_mayDo_34 (fun x8 c9 rx8 tx8 => ?_)
    refine lv_iconst (v := (-1)) hx hb dX1_mayDo_37 (by decide) ?_
    refine lv_icmp_eq (tgt := 45) hx hb dX1_mayDo_38 (by decide) (fun c10 => ?_) (fun c10 => ?_)
    · have c10 : x8.toInt = (-1 : Int) := wk_eq.mp c10
      refine lv_iconst (v := 0) hx hb dX1_mayDo_45 (by decide) ?_
      exact tk_zret hC hr rfl hlocks hK ⟨hT, hF, (Or.inr (Or.inl rfl))⟩ hw dX1_mayDo_46
    · have c10 : ¬ x8.toInt = (-1 : Int) := wk_eqF c10
      refine lv_iconst (v := 1) hx hb dX1_mayDo_41 (by decide) ?_
      refine lv_goto (tgt := 46) hx hb dX1_mayDo_42 (by decide) ?_
      exact tk_zret hC hr rfl hlocks hK ⟨hT, hF, (Or.inr (Or.inr rfl))⟩ hw dX1_mayDo_46
  · refine lv_tableIn (off := 46) (tgt := 47) hx hb dX1_mayDo_1 (by omega) (by omega) (by rw [c5]; rfl) (by decide) ?_
    refine lv_aload_n hx hb dX1_mayDo_47 rfl (lv_at hl 0 rfl) ?_
    refine tk_geti hC hK hw hT hinX1 kC_at149 (by decide) rfl 9 (by decide) (List.mem_of_getElem? (i := 3) rfl) rfl rfl dX1_mayDo_48 (fun x11 c12 rx11 tx11 => ?_)
    refine lv_if_ne (tgt := 65) hx hb dX1_mayDo_51 (by decide) (fun c13 => ?_) (fun c13 => ?_)
    · have c13 : ¬ x11.toInt = (0 : Int) := wk_eqF c13
      obtain rfl : a2 = 2 := wk_eq.mpr (show a2.toInt = 2 by omega)
      exact J65 x11 s.heap locs ls w0 (show 0 ≤ x11.toInt by omega) (show x11.toInt ≤ 1 by omega)  hw hT hF c12 (lv_sub hl [0, 1, 2] rfl)
    · have c13 : x11.toInt = (0 : Int) := wk_eq.mp c13
      refine lv_aload_n hx hb dX1_mayDo_54 rfl (lv_at hl 1 rfl) ?_
      refine tk_Vi hC hK hw hT hA hE hSR hkq1_ (by decide) rfl (k_X9_askedToday_1 l adK adV dC dI cy ad B (by omega) (by omega) qr s1   q1_ hkq1_ w0 s.heap.size hT ) (cwV 0 hC.2.2.2.2 gX1_mayDo_X9_askedToday rfl rfl rfl (by decide +kernel) ⟨Nat.le_of_ble_eq_true rfl, Nat.le_of_ble_eq_true rfl⟩) rfl hl.1 rfl (Nat.le_of_ble_eq_true rfl) dX1_mayDo_55 (fun r14 w16 H locs hp15 hw => ?_)
      obtain ⟨hT, k17, hg18⟩ := hp15
      have hF := hF.tr k17 (by decide)
      have c19 := k17.gi kC_at149 (by decide) c12
      rcases hg18 with rfl | rfl
      · refine lv_if_ne (tgt := 65) hx hb dX1_mayDo_58 (by decide) (fun c => absurd (by decide) c) (fun _ => ?_)
        refine lv_iconst (v := 1) hx hb dX1_mayDo_61 (by decide) ?_
        refine lv_goto (tgt := 66) hx hb dX1_mayDo_62 (by decide) ?_
        exact tk_zret hC hr rfl hlocks hK ⟨hT, hF, (Or.inr (Or.inr rfl))⟩ hw dX1_mayDo_66
      · refine lv_if_ne (tgt := 65) hx hb dX1_mayDo_58 (by decide) (fun _ => ?_) (fun c => absurd c (by decide))
        obtain rfl : a2 = 2 := wk_eq.mpr (show a2.toInt = 2 by omega)
        exact J65 x11 H locs ls w16 (show 0 ≤ x11.toInt by omega) (show x11.toInt ≤ 1 by omega)  hw hT hF c19 (lv_sub hl [0, 1, 2] rfl)
  · refine lv_tableOut (tgt := 67) hx hb dX1_mayDo_1 c5 (by decide) ?_
    refine lv_iconst (v := 1) hx hb dX1_mayDo_67 (by decide) ?_
    exact tk_zret hC hr rfl hlocks hK ⟨hT, hF, (Or.inr (Or.inr rfl))⟩ hw dX1_mayDo_68
abbrev P_X2_firstToken_1 (ad : Nat → Nat) (cy : Nat → ClassId) (B : Int) (qr : Nat) (s1 : Int) (q0_ : Nat) (a1 : Int32) (w0 : va_W) : Int32 → va_W → Prop := fun r u => TW ksC ad cy B qr s1 u ∧ FE ksC ([] : List (Nat × Nat × Nat)) w0 u ∧ ((0 ≤ r.toInt ∧ r.toInt ≤ 400))
set_option maxHeartbeats 4000000 in
set_option maxRecDepth 100000 in
theorem k_X2_firstToken_1 (l : Launch) (adK adV : Nat → Nat) (dC : Nat → ClassId) (dI : Nat → Nat → Nat) (cy : Nat → ClassId) (ad : Nat → Nat) (B : Int) (hB0 : 2147483648 ≤ B) (hB1 : B ≤ 1152921504606846976) (qr : Nat) (s1 : Int)  (q0_ : Nat) (hkq0_ : ksC[q0_]? = some 2) (a1 : Int32) (ra1 : 1 ≤ a1.toInt) (ta1 : a1.toInt ≤ 12) (w0 : va_W) (sz : Nat) (hT : TW ksC ad cy B qr s1 w0)  : Met l yX2_firstToken wsX2_firstToken ({ frames := 1, cells := 0, slots := 0, locals := 12 }) (va_Pc [.ref (ad q0_), .int a1] (wpreS adK adV dC dI cy sz w0)) (va_Qi (P_X2_firstToken_1 ad cy B qr s1 q0_ a1 w0) (fun u : va_W => wpost dC dI cy (va_A w0 sz) u) (va_A w0 sz)) 0 0 (va_A w0 sz) := by
  refine Met.ofW (cc := cX2_firstToken) (maxL := 2) (ret := (some .int)) (by decide) rfl ?_
  intro p e s m args below meth c s₁ Bk hml hv
  obtain ⟨rfl, ⟨hsz, hP, hK, hD0⟩, hE, hSR⟩ := hv
  have hx := Bk.exec
  have hb := Bk.bytes
  have hr := Bk.returns
  have hlocks := Bk.notSynchronized
  have hC : CallFix p m c cX2_firstToken 2 s _ wsX2_firstToken RX2 := ⟨hx, hb, hml, findClass_of_methodNamed Bk.named, atoms_spec (ws := wsX2_firstToken) Bk.pre⟩
  subst hsz
  have hD := hD0.self (sz := s.heap.size)
  generalize hAe : va_A w0 s.heap.size = A at hD hE ⊢
  have hA : ∀ q : Nat, s.heap.size ≤ q → A q := fun q h => by rw [← hAe]; exact Or.inr h
  have hw : Wd dC dI A s.heap s.heap [] w0 := ⟨hP, hD, va_S.rf⟩
  have hF : FE ksC ([] : List (Nat × Nat × Nat)) w0 w0 := FE.rf
  have hl := lv_entry ([.ref (ad q0_), .int a1]) (n := 2) (Nat.le_of_ble_eq_true rfl)
  rw [lg_entry_eq]
  generalize (lg_sl ([.ref (ad q0_), .int a1]) ++ List.replicate (2 - (lg_sl ([.ref (ad q0_), .int a1])).length) Slot.unset).toArray = ls at hl ⊢
  have hl : lv_has ls 2 [(0, .ref (ad q0_)), (1, .int a1)] := hl
  generalize hloc : ([] : List Loc) = locs at hw ⊢
  have hinX2 : ∀ w ∈ u_ws RX2 TX2 6, w ∈ wsX2_firstToken := fun _ h => List.mem_cons_of_mem _ (List.mem_append_right _ (h))
  refine lv_aload_n hx hb dX2_firstToken_0 rfl (lv_at hl 0 rfl) ?_
  refine tk_getO hC hK hw hT hinX2 hkq0_ (by decide) rfl 1 (by decide) (List.mem_of_getElem? (i := 1) rfl) rfl rfl dX2_firstToken_1 ?_
  refine lv_iload_n hx hb dX2_firstToken_4 rfl (lv_at hl 1 rfl) ?_
  refine tk_iald hC hK hw hT (kC_2_2 hkq0_) rfl rfl (show 0 ≤ a1.toInt by omega) (show a1.toInt < 13 by omega) dX2_firstToken_5 (fun x1 c2 rx1 tx1 => ?_)
  exact tk_iret hC hr hlocks hK ⟨hT, hF, ⟨(show 0 ≤ x1.toInt by omega), (show x1.toInt ≤ 400 by omega)⟩⟩ hw dX2_firstToken_6
abbrev P_X2_tokenAt_1 (ad : Nat → Nat) (cy : Nat → ClassId) (B : Int) (qr : Nat) (s1 : Int) (q0_ : Nat) (a1 : Int32) (w0 : va_W) : Int32 → va_W → Prop := fun r u => TW ksC ad cy B qr s1 u ∧ FE ksC ([] : List (Nat × Nat × Nat)) w0 u ∧ ((True))
set_option maxHeartbeats 4000000 in
set_option maxRecDepth 100000 in
theorem k_X2_tokenAt_1 (l : Launch) (adK adV : Nat → Nat) (dC : Nat → ClassId) (dI : Nat → Nat → Nat) (cy : Nat → ClassId) (ad : Nat → Nat) (B : Int) (hB0 : 2147483648 ≤ B) (hB1 : B ≤ 1152921504606846976) (qr : Nat) (s1 : Int)  (q0_ : Nat) (hkq0_ : ksC[q0_]? = some 2) (a1 : Int32) (ra1 : 0 ≤ a1.toInt) (ta1 : a1.toInt ≤ 399) (w0 : va_W) (sz : Nat) (hT : TW ksC ad cy B qr s1 w0)  : Met l yX2_tokenAt wsX2_tokenAt ({ frames := 1, cells := 0, slots := 0, locals := 12 }) (va_Pc [.ref (ad q0_), .int a1] (wpreS adK adV dC dI cy sz w0)) (va_Qi (P_X2_tokenAt_1 ad cy B qr s1 q0_ a1 w0) (fun u : va_W => wpost dC dI cy (va_A w0 sz) u) (va_A w0 sz)) 0 0 (va_A w0 sz) := by
  refine Met.ofW (cc := cX2_tokenAt) (maxL := 2) (ret := (some .int)) (by decide) rfl ?_
  intro p e s m args below meth c s₁ Bk hml hv
  obtain ⟨rfl, ⟨hsz, hP, hK, hD0⟩, hE, hSR⟩ := hv
  have hx := Bk.exec
  have hb := Bk.bytes
  have hr := Bk.returns
  have hlocks := Bk.notSynchronized
  have hC : CallFix p m c cX2_tokenAt 2 s _ wsX2_tokenAt RX2 := ⟨hx, hb, hml, findClass_of_methodNamed Bk.named, atoms_spec (ws := wsX2_tokenAt) Bk.pre⟩
  subst hsz
  have hD := hD0.self (sz := s.heap.size)
  generalize hAe : va_A w0 s.heap.size = A at hD hE ⊢
  have hA : ∀ q : Nat, s.heap.size ≤ q → A q := fun q h => by rw [← hAe]; exact Or.inr h
  have hw : Wd dC dI A s.heap s.heap [] w0 := ⟨hP, hD, va_S.rf⟩
  have hF : FE ksC ([] : List (Nat × Nat × Nat)) w0 w0 := FE.rf
  have hl := lv_entry ([.ref (ad q0_), .int a1]) (n := 2) (Nat.le_of_ble_eq_true rfl)
  rw [lg_entry_eq]
  generalize (lg_sl ([.ref (ad q0_), .int a1]) ++ List.replicate (2 - (lg_sl ([.ref (ad q0_), .int a1])).length) Slot.unset).toArray = ls at hl ⊢
  have hl : lv_has ls 2 [(0, .ref (ad q0_)), (1, .int a1)] := hl
  generalize hloc : ([] : List Loc) = locs at hw ⊢
  have hinX2 : ∀ w ∈ u_ws RX2 TX2 6, w ∈ wsX2_tokenAt := fun _ h => List.mem_cons_of_mem _ (List.mem_append_right _ (h))
  refine lv_aload_n hx hb dX2_tokenAt_0 rfl (lv_at hl 0 rfl) ?_
  refine tk_getO hC hK hw hT hinX2 hkq0_ (by decide) rfl 2 (by decide) (List.mem_of_getElem? (i := 1) rfl) rfl rfl dX2_tokenAt_1 ?_
  refine lv_iload_n hx hb dX2_tokenAt_4 rfl (lv_at hl 1 rfl) ?_
  refine tk_iald hC hK hw hT (kC_2_3 hkq0_) rfl rfl (show 0 ≤ a1.toInt by omega) (show a1.toInt < 400 by omega) dX2_tokenAt_5 (fun x1 c2 rx1 tx1 => ?_)
  exact tk_iret hC hr hlocks hK ⟨hT, hF, trivial⟩ hw dX2_tokenAt_6
abbrev P_X1_joined_1 (ad : Nat → Nat) (cy : Nat → ClassId) (B : Int) (qr : Nat) (s1 : Int) (a0 : Int32) (a1 : Int64) (a2 : Int64) (w0 : va_W) : Int64 → va_W → Prop := fun r u => TW ksC ad cy B qr s1 u ∧ FE ksC ([] : List (Nat × Nat × Nat)) w0 u ∧ ((True))
set_option maxHeartbeats 4000000 in
set_option maxRecDepth 100000 in
theorem k_X1_joined_1 (l : Launch) (adK adV : Nat → Nat) (dC : Nat → ClassId) (dI : Nat → Nat → Nat) (cy : Nat → ClassId) (ad : Nat → Nat) (B : Int) (hB0 : 2147483648 ≤ B) (hB1 : B ≤ 1152921504606846976) (qr : Nat) (s1 : Int)  (a0 : Int32) (ra0 : 10 ≤ a0.toInt) (ta0 : a0.toInt ≤ 31) (a1 : Int64) (a2 : Int64) (w0 : va_W) (sz : Nat) (hT : TW ksC ad cy B qr s1 w0)  : Met l yX1_joined wsX1_joined ({ frames := 1, cells := 0, slots := 0, locals := 12 }) (va_Pc [.int a0, .long a1, .long a2] (wpreS adK adV dC dI cy sz w0)) (va_Ql (P_X1_joined_1 ad cy B qr s1 a0 a1 a2 w0) (fun u : va_W => wpost dC dI cy (va_A w0 sz) u) (va_A w0 sz)) 0 0 (va_A w0 sz) := by
  refine Met.ofW (cc := cX1_joined) (maxL := 5) (ret := (some .long)) (by decide) rfl ?_
  intro p e s m args below meth c s₁ Bk hml hv
  obtain ⟨rfl, ⟨hsz, hP, hK, hD0⟩, hE, hSR⟩ := hv
  have hx := Bk.exec
  have hb := Bk.bytes
  have hr := Bk.returns
  have hlocks := Bk.notSynchronized
  have hC : CallFix p m c cX1_joined 5 s _ wsX1_joined RX1 := ⟨hx, hb, hml, findClass_of_methodNamed Bk.named, atoms_spec (ws := wsX1_joined) Bk.pre⟩
  subst hsz
  have hD := hD0.self (sz := s.heap.size)
  generalize hAe : va_A w0 s.heap.size = A at hD hE ⊢
  have hA : ∀ q : Nat, s.heap.size ≤ q → A q := fun q h => by rw [← hAe]; exact Or.inr h
  have hw : Wd dC dI A s.heap s.heap [] w0 := ⟨hP, hD, va_S.rf⟩
  have hF : FE ksC ([] : List (Nat × Nat × Nat)) w0 w0 := FE.rf
  have hl := lv_entry ([.int a0, .long a1, .long a2]) (n := 5) (Nat.le_of_ble_eq_true rfl)
  rw [lg_entry_eq]
  generalize (lg_sl ([.int a0, .long a1, .long a2]) ++ List.replicate (5 - (lg_sl ([.int a0, .long a1, .long a2])).length) Slot.unset).toArray = ls at hl ⊢
  have hl : lv_has ls 5 [(0, .int a0), (1, .long a1), (3, .long a2)] := hl
  generalize hloc : ([] : List Loc) = locs at hw ⊢
  refine lv_iload_n hx hb dX1_joined_0 rfl (lv_at hl 0 rfl) ?_
  rcases (show a0.toInt = 10 ∨ a0.toInt = 11 ∨ a0.toInt = 12 ∨ a0.toInt = 13 ∨ a0.toInt = 14 ∨ a0.toInt = 15 ∨ a0.toInt = 16 ∨ a0.toInt = 17 ∨ a0.toInt = 18 ∨ a0.toInt = 19 ∨ a0.toInt = 20 ∨ (a0.toInt < 10 ∨ 20 < a0.toInt) by omega) with c1 | c1 | c1 | c1 | c1 | c1 | c1 | c1 | c1 | c1 | c1 | c1
  · refine lv_tableIn (off := 59) (tgt := 60) hx hb dX1_joined_1 (by omega) (by omega) (by rw [c1]; rfl) (by decide) ?_
    refine lv_lload_n hx hb dX1_joined_60 rfl (lv_at hl 1 rfl) ?_
    refine lv_lload_n hx hb dX1_joined_61 rfl (lv_at hl 2 rfl) ?_
    refine lv_ladd hx hb dX1_joined_62 ?_
    have nx2 := wk_i64 a1
    have nx3 := wk_i64 a2
    refine lv_topl (fun x4 ex4 => ?_)
    exact tk_lret hC hr hlocks hK ⟨hT, hF, trivial⟩ hw dX1_joined_63
  · refine lv_tableIn (off := 63) (tgt := 64) hx hb dX1_joined_1 (by omega) (by omega) (by rw [c1]; rfl) (by decide) ?_
    refine lv_lload_n hx hb dX1_joined_64 rfl (lv_at hl 1 rfl) ?_
    refine lv_lload_n hx hb dX1_joined_65 rfl (lv_at hl 2 rfl) ?_
    refine lv_lsub hx hb dX1_joined_66 ?_
    have nx5 := wk_i64 a1
    have nx6 := wk_i64 a2
    refine lv_topl (fun x7 ex7 => ?_)
    exact tk_lret hC hr hlocks hK ⟨hT, hF, trivial⟩ hw dX1_joined_67
  · refine lv_tableIn (off := 67) (tgt := 68) hx hb dX1_joined_1 (by omega) (by omega) (by rw [c1]; rfl) (by decide) ?_
    refine lv_lload_n hx hb dX1_joined_68 rfl (lv_at hl 1 rfl) ?_
    refine lv_lload_n hx hb dX1_joined_69 rfl (lv_at hl 2 rfl) ?_
    refine lv_lmul hx hb dX1_joined_70 ?_
    have nx8 := wk_i64 a1
    have nx9 := wk_i64 a2
    refine lv_topl (fun x10 ex10 => ?_)
    exact tk_lret hC hr hlocks hK ⟨hT, hF, trivial⟩ hw dX1_joined_71
  · refine lv_tableIn (off := 71) (tgt := 72) hx hb dX1_joined_1 (by omega) (by omega) (by rw [c1]; rfl) (by decide) ?_
    refine lv_lload_n hx hb dX1_joined_72 rfl (lv_at hl 2 rfl) ?_
    refine lv_lconst (v := 0) hx hb dX1_joined_73 (by decide) ?_
    refine W.lcmp hx hb dX1_joined_74 ?_
    refine lv_if_ne (tgt := 82) hx hb dX1_joined_75 (by decide) (fun c11 => ?_) (fun c11 => ?_)
    · have c11 : ¬ a2.toInt = (0 : Int) := wk_ceF c11
      refine lv_lload_n hx hb dX1_joined_82 rfl (lv_at hl 1 rfl) ?_
      refine lv_lload_n hx hb dX1_joined_83 rfl (lv_at hl 2 rfl) ?_
      refine lv_ldiv hx hb dX1_joined_84 (fun h => absurd (show a2.toInt = 0 from wk_eql.mp h) c11) ?_
      refine lv_topl (fun x12 ex12 => ?_)
      exact tk_lret hC hr hlocks hK ⟨hT, hF, trivial⟩ hw dX1_joined_85
    · have c11 : a2.toInt = (0 : Int) := wk_ceT c11
      refine lv_lconst (v := 0) hx hb dX1_joined_78 (by decide) ?_
      refine lv_goto (tgt := 85) hx hb dX1_joined_79 (by decide) ?_
      exact tk_lret hC hr hlocks hK ⟨hT, hF, trivial⟩ hw dX1_joined_85
  · refine lv_tableIn (off := 85) (tgt := 86) hx hb dX1_joined_1 (by omega) (by omega) (by rw [c1]; rfl) (by decide) ?_
    refine lv_lload_n hx hb dX1_joined_86 rfl (lv_at hl 1 rfl) ?_
    refine lv_lload_n hx hb dX1_joined_87 rfl (lv_at hl 2 rfl) ?_
    refine W.lcmp hx hb dX1_joined_88 ?_
    refine lv_if_ge (tgt := 96) hx hb dX1_joined_89 (by decide) (fun c13 => ?_) (fun c13 => ?_)
    · refine lv_lconst (v := 0) hx hb dX1_joined_96 (by decide) ?_
      exact tk_lret hC hr hlocks hK ⟨hT, hF, trivial⟩ hw dX1_joined_97
    · refine lv_lconst (v := 1) hx hb dX1_joined_92 (by decide) ?_
      refine lv_goto (tgt := 97) hx hb dX1_joined_93 (by decide) ?_
      exact tk_lret hC hr hlocks hK ⟨hT, hF, trivial⟩ hw dX1_joined_97
  · refine lv_tableIn (off := 97) (tgt := 98) hx hb dX1_joined_1 (by omega) (by omega) (by rw [c1]; rfl) (by decide) ?_
    refine lv_lload_n hx hb dX1_joined_98 rfl (lv_at hl 1 rfl) ?_
    refine lv_lload_n hx hb dX1_joined_99 rfl (lv_at hl 2 rfl) ?_
    refine W.lcmp hx hb dX1_joined_100 ?_
    refine lv_if_gt (tgt := 108) hx hb dX1_joined_101 (by decide) (fun c14 => ?_) (fun c14 => ?_)
    · have c14 : a2.toInt < a1.toInt := wk_cgtT c14
      refine lv_lconst (v := 0) hx hb dX1_joined_108 (by decide) ?_
      exact tk_lret hC hr hlocks hK ⟨hT, hF, trivial⟩ hw dX1_joined_109
    · have c14 : a1.toInt ≤ a2.toInt := wk_cgtF c14
      refine lv_lconst (v := 1) hx hb dX1_joined_104 (by decide) ?_
      refine lv_goto (tgt := 109) hx hb dX1_joined_105 (by decide) ?_
      exact tk_lret hC hr hlocks hK ⟨hT, hF, trivial⟩ hw dX1_joined_109
  · refine lv_tableIn (off := 109) (tgt := 110) hx hb dX1_joined_1 (by omega) (by omega) (by rw [c1]; rfl) (by decide) ?_
    refine lv_lload_n hx hb dX1_joined_110 rfl (lv_at hl 1 rfl) ?_
    refine lv_lload_n hx hb dX1_joined_111 rfl (lv_at hl 2 rfl) ?_
    refine W.lcmp hx hb dX1_joined_112 ?_
    refine lv_if_ne (tgt := 120) hx hb dX1_joined_113 (by decide) (fun c15 => ?_) (fun c15 => ?_)
    · have c15 : ¬ a1.toInt = a2.toInt := wk_ceF c15
      refine lv_lconst (v := 0) hx hb dX1_joined_120 (by decide) ?_
      exact tk_lret hC hr hlocks hK ⟨hT, hF, trivial⟩ hw dX1_joined_121
    · have c15 : a1.toInt = a2.toInt := wk_ceT c15
      refine lv_lconst (v := 1) hx hb dX1_joined_116 (by decide) ?_
      refine lv_goto (tgt := 121) hx hb dX1_joined_117 (by decide) ?_
      exact tk_lret hC hr hlocks hK ⟨hT, hF, trivial⟩ hw dX1_joined_121
  · refine lv_tableIn (off := 121) (tgt := 122) hx hb dX1_joined_1 (by omega) (by omega) (by rw [c1]; rfl) (by decide) ?_
    refine lv_lload_n hx hb dX1_joined_122 rfl (lv_at hl 1 rfl) ?_
    refine lv_lload_n hx hb dX1_joined_123 rfl (lv_at hl 2 rfl) ?_
    refine W.lcmp hx hb dX1_joined_124 ?_
    refine lv_if_lt (tgt := 132) hx hb dX1_joined_125 (by decide) (fun c16 => ?_) (fun c16 => ?_)
    · have c16 : a1.toInt < a2.toInt := wk_cltT c16
      refine lv_lconst (v := 0) hx hb dX1_joined_132 (by decide) ?_
      exact tk_lret hC hr hlocks hK ⟨hT, hF, trivial⟩ hw dX1_joined_133
    · have c16 : a2.toInt ≤ a1.toInt := wk_cltF c16
      refine lv_lconst (v := 1) hx hb dX1_joined_128 (by decide) ?_
      refine lv_goto (tgt := 133) hx hb dX1_joined_129 (by decide) ?_
      exact tk_lret hC hr hlocks hK ⟨hT, hF, trivial⟩ hw dX1_joined_133
  · refine lv_tableIn (off := 133) (tgt := 134) hx hb dX1_joined_1 (by omega) (by omega) (by rw [c1]; rfl) (by decide) ?_
    refine lv_lload_n hx hb dX1_joined_134 rfl (lv_at hl 1 rfl) ?_
    refine lv_lload_n hx hb dX1_joined_135 rfl (lv_at hl 2 rfl) ?_
    refine W.lcmp hx hb dX1_joined_136 ?_
    refine lv_if_le (tgt := 144) hx hb dX1_joined_137 (by decide) (fun c17 => ?_) (fun c17 => ?_)
    · refine lv_lconst (v := 0) hx hb dX1_joined_144 (by decide) ?_
      exact tk_lret hC hr hlocks hK ⟨hT, hF, trivial⟩ hw dX1_joined_145
    · refine lv_lconst (v := 1) hx hb dX1_joined_140 (by decide) ?_
      refine lv_goto (tgt := 145) hx hb dX1_joined_141 (by decide) ?_
      exact tk_lret hC hr hlocks hK ⟨hT, hF, trivial⟩ hw dX1_joined_145
  · refine lv_tableIn (off := 149) (tgt := 150) hx hb dX1_joined_1 (by omega) (by omega) (by rw [c1]; rfl) (by decide) ?_
    refine lv_lload_n hx hb dX1_joined_150 rfl (lv_at hl 1 rfl) ?_
    refine lv_lload_n hx hb dX1_joined_151 rfl (lv_at hl 2 rfl) ?_
    refine lv_lor hx hb dX1_joined_152 ?_
    refine lv_topl (fun x18 ex18 => ?_)
    exact tk_lret hC hr hlocks hK ⟨hT, hF, trivial⟩ hw dX1_joined_153
  · refine lv_tableIn (off := 145) (tgt := 146) hx hb dX1_joined_1 (by omega) (by omega) (by rw [c1]; rfl) (by decide) ?_
    refine lv_lload_n hx hb dX1_joined_146 rfl (lv_at hl 1 rfl) ?_
    refine lv_lload_n hx hb dX1_joined_147 rfl (lv_at hl 2 rfl) ?_
    refine lv_land hx hb dX1_joined_148 ?_
    refine lv_topl (fun x19 ex19 => ?_)
    exact tk_lret hC hr hlocks hK ⟨hT, hF, trivial⟩ hw dX1_joined_149
  · refine lv_tableOut (tgt := 150) hx hb dX1_joined_1 c1 (by decide) ?_
    refine lv_lload_n hx hb dX1_joined_150 rfl (lv_at hl 1 rfl) ?_
    refine lv_lload_n hx hb dX1_joined_151 rfl (lv_at hl 2 rfl) ?_
    refine lv_lor hx hb dX1_joined_152 ?_
    refine lv_topl (fun x20 ex20 => ?_)
    exact tk_lret hC hr hlocks hK ⟨hT, hF, trivial⟩ hw dX1_joined_153
abbrev P_X1_join_1 (ad : Nat → Nat) (cy : Nat → ClassId) (B : Int) (qr : Nat) (s1 : Int) (a1 : Int32) (w0 : va_W) : va_W → Prop := fun u => TW ksC ad cy B qr s1 u ∧ FE ksC [(1, 4, 4), (45, 0, 64)] w0 u ∧ (((∃ y : Int32, gi u 149 4 = y ∧ 0 ≤ y.toInt ∧ y.toInt ≤ 63)))
set_option maxHeartbeats 4000000 in
set_option maxRecDepth 100000 in
theorem k_X1_join_1 (l : Launch) (adK adV : Nat → Nat) (dC : Nat → ClassId) (dI : Nat → Nat → Nat) (cy : Nat → ClassId) (ad : Nat → Nat) (B : Int) (hB0 : 2147483648 ≤ B) (hB1 : B ≤ 1152921504606846976) (qr : Nat) (s1 : Int)  (a1 : Int32) (ra1 : 10 ≤ a1.toInt) (ta1 : a1.toInt ≤ 31) (w0 : va_W) (sz : Nat) (hT : TW ksC ad cy B qr s1 w0)  : Met l yX1_join wsX1_join ({ frames := 2, cells := 0, slots := 0, locals := 36 }) (va_Pc [.ref (ad 149), .int a1] (wpreS adK adV dC dI cy sz w0)) (va_Qv (P_X1_join_1 ad cy B qr s1 a1 w0) (fun u : va_W => wpost dC dI cy (va_A w0 sz) u) (va_A w0 sz)) 0 0 (va_A w0 sz) := by
  refine Met.ofW (cc := cX1_join) (maxL := 2) (ret := none) (by decide) rfl ?_
  intro p e s m args below meth c s₁ Bk hml hv
  obtain ⟨rfl, ⟨hsz, hP, hK, hD0⟩, hE, hSR⟩ := hv
  have hx := Bk.exec
  have hb := Bk.bytes
  have hr := Bk.returns
  have hlocks := Bk.notSynchronized
  have hC : CallFix p m c cX1_join 2 s _ wsX1_join RX1 := ⟨hx, hb, hml, findClass_of_methodNamed Bk.named, atoms_spec (ws := wsX1_join) Bk.pre⟩
  subst hsz
  have hD := hD0.self (sz := s.heap.size)
  generalize hAe : va_A w0 s.heap.size = A at hD hE ⊢
  have hA : ∀ q : Nat, s.heap.size ≤ q → A q := fun q h => by rw [← hAe]; exact Or.inr h
  have hw : Wd dC dI A s.heap s.heap [] w0 := ⟨hP, hD, va_S.rf⟩
  have hF : FE ksC [(1, 4, 4), (45, 0, 64)] w0 w0 := FE.rf
  have hl := lv_entry ([.ref (ad 149), .int a1]) (n := 2) (Nat.le_of_ble_eq_true rfl)
  rw [lg_entry_eq]
  generalize (lg_sl ([.ref (ad 149), .int a1]) ++ List.replicate (2 - (lg_sl ([.ref (ad 149), .int a1])).length) Slot.unset).toArray = ls at hl ⊢
  have hl : lv_has ls 2 [(0, .ref (ad 149)), (1, .int a1)] := hl
  generalize hloc : ([] : List Loc) = locs at hw ⊢
  have hinX1 : ∀ w ∈ u_ws RX1 TX1 10, w ∈ wsX1_join := fun _ h => List.mem_cons_of_mem _ (List.mem_append_right _ (h))
  have J53 : ∀ (f53_149_4 : Int32) (H : Heap) (locs : List Loc) (ls : Array Slot) (w1 : va_W), 10 ≤ a1.toInt → a1.toInt ≤ 31 → 0 ≤ f53_149_4.toInt → f53_149_4.toInt ≤ 63 → Wd dC dI A s.heap H locs w1 → TW ksC ad cy B qr s1 w1 → FE ksC [(1, 4, 4), (45, 0, 64)] w0 w1 → gi w1 149 4 = f53_149_4 → lv_has ls 2 [(0, .ref (ad 149)), (1, .int a1)] → W p l e ({ frames := 2, cells := 0, slots := 0, locals := 36 }) s m (List.toArray [.ref (ad 149), .int a1]) below meth c H locs 0 0 (MQ below (va_Qv (P_X1_join_1 ad cy B qr s1 a1 w0) (fun u : va_W => wpost dC dI cy A u) A) (List.toArray [.ref (ad 149), .int a1]) s 0 0 A) (F0 m 53 ls []) := by
    intro f53_149_4 H locs ls w1 r2 t3 r4 t5 hw hT hF c6 hl
    exact tk_vret hC hr hlocks hK ⟨hT, hF, ⟨f53_149_4, c6, (show 0 ≤ f53_149_4.toInt by omega), (show f53_149_4.toInt ≤ 63 by omega)⟩⟩ hw dX1_join_53
  refine lv_aload_n hx hb dX1_join_0 rfl (lv_at hl 0 rfl) ?_
  refine tk_geti hC hK hw hT hinX1 kC_at149 (by decide) rfl 4 (by decide) (List.mem_of_getElem? (i := 1) rfl) rfl rfl dX1_join_1 (fun x7 c8 rx7 tx7 => ?_)
  refine lv_iconst (v := 1) hx hb dX1_join_4 (by decide) ?_
  refine lv_icmp_le (tgt := 53) hx hb dX1_join_5 (by decide) (fun c9 => ?_) (fun c9 => ?_)
  · have c9 : x7.toInt ≤ (1 : Int) := wk_le.mp c9
    exact J53 x7 s.heap locs ls w0 (show 10 ≤ a1.toInt by omega) (show a1.toInt ≤ 31 by omega) (show 0 ≤ x7.toInt by omega) (show x7.toInt ≤ 63 by omega)  hw hT hF c8 (lv_sub hl [0, 1] rfl)
  · have c9 : (1 : Int) < x7.toInt := wk_leF c9
    refine lv_aload_n hx hb dX1_join_8 rfl (lv_at hl 0 rfl) ?_
    refine lv_dup hx hb dX1_join_9 rfl ?_
    refine tk_geti hC hK hw hT hinX1 kC_at149 (by decide) rfl 4 (by decide) (List.mem_of_getElem? (i := 1) rfl) rfl rfl dX1_join_10 (fun x10 c11 rx10 tx10 => ?_)
    refine wk_top x7 (c11.symm.trans c8) ?_
    refine lv_iconst (v := 1) hx hb dX1_join_13 (by decide) ?_
    refine lv_isub hx hb dX1_join_14 ?_
    refine lv_topi (fun x12 ex12 => ?_)
    have ex12 : x12.toInt = x7.toInt - (1 : Int) := by rw [ex12]; exact wk_sub (show (-2147483648) ≤ x7.toInt - (1 : Int) by omega) (show x7.toInt - (1 : Int) ≤ 2147483647 by omega)
    refine tk_puti hC hK hw hT hinX1 tyX1_ok nmX1 kC_at149 (by decide) rfl rfl 4 (by decide) (List.mem_of_getElem? (i := 1) rfl) rfl rfl rfl rfl (show 0 ≤ x12.toInt by omega) (show x12.toInt ≤ 64 by omega) dX1_join_15 (fun H locs w13 hw hT k15 c14 => ?_)
    have hF := hF.put kC_at149 (k := 4) (by decide) k15
    refine lv_aload_n hx hb dX1_join_18 rfl (lv_at hl 0 rfl) ?_
    refine tk_getA hC hK hw hT hinX1 kC_at149 (by decide) rfl 3 (by decide) (List.mem_of_getElem? (i := 2) rfl) rfl rfl dX1_join_19 ?_
    refine lv_aload_n hx hb dX1_join_22 rfl (lv_at hl 0 rfl) ?_
    refine tk_geti hC hK hw hT hinX1 kC_at149 (by decide) rfl 4 (by decide) (List.mem_of_getElem? (i := 1) rfl) rfl rfl dX1_join_23 (fun x16 c17 rx16 tx16 => ?_)
    refine wk_top x12 (c17.symm.trans c14) ?_
    refine lv_iconst (v := 1) hx hb dX1_join_26 (by decide) ?_
    refine lv_isub hx hb dX1_join_27 ?_
    refine lv_topi (fun x18 ex18 => ?_)
    have ex18 : x18.toInt = x12.toInt - (1 : Int) := by rw [ex18]; exact wk_sub (show (-2147483648) ≤ x12.toInt - (1 : Int) by omega) (show x12.toInt - (1 : Int) ≤ 2147483647 by omega)
    refine lv_iload_n hx hb dX1_join_28 rfl (lv_at hl 1 rfl) ?_
    refine lv_aload_n hx hb dX1_join_29 rfl (lv_at hl 0 rfl) ?_
    refine tk_getA hC hK hw hT hinX1 kC_at149 (by decide) rfl 3 (by decide) (List.mem_of_getElem? (i := 2) rfl) rfl rfl dX1_join_30 ?_
    refine lv_aload_n hx hb dX1_join_33 rfl (lv_at hl 0 rfl) ?_
    refine tk_geti hC hK hw hT hinX1 kC_at149 (by decide) rfl 4 (by decide) (List.mem_of_getElem? (i := 1) rfl) rfl rfl dX1_join_34 (fun x19 c20 rx19 tx19 => ?_)
    refine wk_top x12 (c20.symm.trans c14) ?_
    refine lv_iconst (v := 1) hx hb dX1_join_37 (by decide) ?_
    refine lv_isub hx hb dX1_join_38 ?_
    refine lv_topi (fun x21 ex21 => ?_)
    have ex21 : x21.toInt = x12.toInt - (1 : Int) := by rw [ex21]; exact wk_sub (show (-2147483648) ≤ x12.toInt - (1 : Int) by omega) (show x12.toInt - (1 : Int) ≤ 2147483647 by omega)
    refine tk_lald hC hK hw hT kC_at150 rfl (show 0 ≤ x21.toInt by omega) (show x21.toInt < 64 by omega) dX1_join_39 (fun x22 => ?_)
    refine lv_aload_n hx hb dX1_join_40 rfl (lv_at hl 0 rfl) ?_
    refine tk_getA hC hK hw hT hinX1 kC_at149 (by decide) rfl 3 (by decide) (List.mem_of_getElem? (i := 2) rfl) rfl rfl dX1_join_41 ?_
    refine lv_aload_n hx hb dX1_join_44 rfl (lv_at hl 0 rfl) ?_
    refine tk_geti hC hK hw hT hinX1 kC_at149 (by decide) rfl 4 (by decide) (List.mem_of_getElem? (i := 1) rfl) rfl rfl dX1_join_45 (fun x23 c24 rx23 tx23 => ?_)
    refine wk_top x12 (c24.symm.trans c14) ?_
    refine tk_lald hC hK hw hT kC_at150 rfl (show 0 ≤ x12.toInt by omega) (show x12.toInt < 64 by omega) dX1_join_48 (fun x25 => ?_)
    refine tk_Sl hC hK hw hT hA hE hSR (k_X1_joined_1 l adK adV dC dI cy ad B (by omega) (by omega) qr s1   a1 (show 10 ≤ a1.toInt by omega) (show a1.toInt ≤ 31 by omega) x22 x25 w13 H.size hT ) (va_cwS 3 hC.2.2.2.2 gX1_join_X1_joined rfl rfl rfl (by decide +kernel) ⟨Nat.le_of_ble_eq_true rfl, Nat.le_of_ble_eq_true rfl⟩) rfl hl.1 rfl (Nat.le_of_ble_eq_true rfl) dX1_join_49 (fun r26 w28 H locs hp27 hw => ?_)
    obtain ⟨hT, k29, hg30⟩ := hp27
    have hF := hF.tr k29 (by decide)
    have c31 := k29.gi kC_at149 (by decide) c14
    clear hg30
    refine tk_last hC hK hw hT kC_at150 (by decide) rfl (show 0 ≤ x18.toInt by omega) (show x18.toInt < 64 by omega) dX1_join_52 (fun H locs w32 hw hT k34 => ?_)
    have hF := hF.put kC_at150 (inE_of (a := 0) (b := 64) (by decide) (show 0 ≤ x18.toInt.toNat by omega) (show x18.toInt.toNat ≤ 64 by omega)) k34
    have c35 := k34.gi (Or.inl (tk_ne kC_at149 kC_at150 (by decide))) c31
    exact J53 x12 H locs ls w32 (show 10 ≤ a1.toInt by omega) (show a1.toInt ≤ 31 by omega) (show 0 ≤ x12.toInt by omega) (show x12.toInt ≤ 63 by omega)  hw hT hF c35 (lv_sub hl [0, 1] rfl)
abbrev P_X1_turn_1 (ad : Nat → Nat) (cy : Nat → ClassId) (B : Int) (qr : Nat) (s1 : Int)  (w0 : va_W) : va_W → Prop := fun u => TW ksC ad cy B qr s1 u ∧ FE ksC [(45, 0, 64)] w0 u ∧ ((True))
set_option maxHeartbeats 4000000 in
set_option maxRecDepth 100000 in
theorem k_X1_turn_1 (l : Launch) (adK adV : Nat → Nat) (dC : Nat → ClassId) (dI : Nat → Nat → Nat) (cy : Nat → ClassId) (ad : Nat → Nat) (B : Int) (hB0 : 2147483648 ≤ B) (hB1 : B ≤ 1152921504606846976) (qr : Nat) (s1 : Int)   (w0 : va_W) (sz : Nat) (hT : TW ksC ad cy B qr s1 w0)  : Met l yX1_turn wsX1_turn ({ frames := 1, cells := 0, slots := 0, locals := 12 }) (va_Pc [.ref (ad 149)] (wpreS adK adV dC dI cy sz w0)) (va_Qv (P_X1_turn_1 ad cy B qr s1  w0) (fun u : va_W => wpost dC dI cy (va_A w0 sz) u) (va_A w0 sz)) 0 0 (va_A w0 sz) := by
  refine Met.ofW (cc := cX1_turn) (maxL := 1) (ret := none) (by decide) rfl ?_
  intro p e s m args below meth c s₁ Bk hml hv
  obtain ⟨rfl, ⟨hsz, hP, hK, hD0⟩, hE, hSR⟩ := hv
  have hx := Bk.exec
  have hb := Bk.bytes
  have hr := Bk.returns
  have hlocks := Bk.notSynchronized
  have hC : CallFix p m c cX1_turn 1 s _ wsX1_turn RX1 := ⟨hx, hb, hml, findClass_of_methodNamed Bk.named, atoms_spec (ws := wsX1_turn) Bk.pre⟩
  subst hsz
  have hD := hD0.self (sz := s.heap.size)
  generalize hAe : va_A w0 s.heap.size = A at hD hE ⊢
  have hA : ∀ q : Nat, s.heap.size ≤ q → A q := fun q h => by rw [← hAe]; exact Or.inr h
  have hw : Wd dC dI A s.heap s.heap [] w0 := ⟨hP, hD, va_S.rf⟩
  have hF : FE ksC [(45, 0, 64)] w0 w0 := FE.rf
  have hl := lv_entry ([.ref (ad 149)]) (n := 1) (Nat.le_of_ble_eq_true rfl)
  rw [lg_entry_eq]
  generalize (lg_sl ([.ref (ad 149)]) ++ List.replicate (1 - (lg_sl ([.ref (ad 149)])).length) Slot.unset).toArray = ls at hl ⊢
  have hl : lv_has ls 1 [(0, .ref (ad 149))] := hl
  generalize hloc : ([] : List Loc) = locs at hw ⊢
  have hinX1 : ∀ w ∈ u_ws RX1 TX1 10, w ∈ wsX1_turn := fun _ h => List.mem_cons_of_mem _ (List.mem_append_right _ (h))
  have J31 : ∀ (f31_149_4 : Int32) (H : Heap) (locs : List Loc) (ls : Array Slot) (w1 : va_W), 0 ≤ f31_149_4.toInt → f31_149_4.toInt ≤ 64 → Wd dC dI A s.heap H locs w1 → TW ksC ad cy B qr s1 w1 → FE ksC [(45, 0, 64)] w0 w1 → gi w1 149 4 = f31_149_4 → lv_has ls 1 [(0, .ref (ad 149))] → W p l e ({ frames := 1, cells := 0, slots := 0, locals := 12 }) s m (List.toArray [.ref (ad 149)]) below meth c H locs 0 0 (MQ below (va_Qv (P_X1_turn_1 ad cy B qr s1  w0) (fun u : va_W => wpost dC dI cy A u) A) (List.toArray [.ref (ad 149)]) s 0 0 A) (F0 m 31 ls []) := by
    intro f31_149_4 H locs ls w1 r2 t3 hw hT hF c4 hl
    exact tk_vret hC hr hlocks hK ⟨hT, hF, trivial⟩ hw dX1_turn_31
  refine lv_aload_n hx hb dX1_turn_0 rfl (lv_at hl 0 rfl) ?_
  refine tk_geti hC hK hw hT hinX1 kC_at149 (by decide) rfl 4 (by decide) (List.mem_of_getElem? (i := 1) rfl) rfl rfl dX1_turn_1 (fun x5 c6 rx5 tx5 => ?_)
  refine lv_if_le (tgt := 31) hx hb dX1_turn_4 (by decide) (fun c7 => ?_) (fun c7 => ?_)
  · have c7 : x5.toInt ≤ (0 : Int) := wk_le.mp c7
    exact J31 x5 s.heap locs ls w0 (show 0 ≤ x5.toInt by omega) (show x5.toInt ≤ 64 by omega)  hw hT hF c6 (lv_sub hl [0] rfl)
  · have c7 : (0 : Int) < x5.toInt := wk_leF c7
    refine lv_aload_n hx hb dX1_turn_7 rfl (lv_at hl 0 rfl) ?_
    refine tk_getA hC hK hw hT hinX1 kC_at149 (by decide) rfl 3 (by decide) (List.mem_of_getElem? (i := 2) rfl) rfl rfl dX1_turn_8 ?_
    refine lv_aload_n hx hb dX1_turn_11 rfl (lv_at hl 0 rfl) ?_
    refine tk_geti hC hK hw hT hinX1 kC_at149 (by decide) rfl 4 (by decide) (List.mem_of_getElem? (i := 1) rfl) rfl rfl dX1_turn_12 (fun x8 c9 rx8 tx8 => ?_)
    refine wk_top x5 (c9.symm.trans c6) ?_
    refine lv_iconst (v := 1) hx hb dX1_turn_15 (by decide) ?_
    refine lv_isub hx hb dX1_turn_16 ?_
    refine lv_topi (fun x10 ex10 => ?_)
    have ex10 : x10.toInt = x5.toInt - (1 : Int) := by rw [ex10]; exact wk_sub (show (-2147483648) ≤ x5.toInt - (1 : Int) by omega) (show x5.toInt - (1 : Int) ≤ 2147483647 by omega)
    refine lv_lconst (v := 1) hx hb dX1_turn_17 (by decide) ?_
    refine lv_aload_n hx hb dX1_turn_18 rfl (lv_at hl 0 rfl) ?_
    refine tk_getA hC hK hw hT hinX1 kC_at149 (by decide) rfl 3 (by decide) (List.mem_of_getElem? (i := 2) rfl) rfl rfl dX1_turn_19 ?_
    refine lv_aload_n hx hb dX1_turn_22 rfl (lv_at hl 0 rfl) ?_
    refine tk_geti hC hK hw hT hinX1 kC_at149 (by decide) rfl 4 (by decide) (List.mem_of_getElem? (i := 1) rfl) rfl rfl dX1_turn_23 (fun x11 c12 rx11 tx11 => ?_)
    refine wk_top x5 (c12.symm.trans c6) ?_
    refine lv_iconst (v := 1) hx hb dX1_turn_26 (by decide) ?_
    refine lv_isub hx hb dX1_turn_27 ?_
    refine lv_topi (fun x13 ex13 => ?_)
    have ex13 : x13.toInt = x5.toInt - (1 : Int) := by rw [ex13]; exact wk_sub (show (-2147483648) ≤ x5.toInt - (1 : Int) by omega) (show x5.toInt - (1 : Int) ≤ 2147483647 by omega)
    refine tk_lald hC hK hw hT kC_at150 rfl (show 0 ≤ x13.toInt by omega) (show x13.toInt < 64 by omega) dX1_turn_28 (fun x14 => ?_)
    refine lv_lsub hx hb dX1_turn_29 ?_
    have nx15 := wk_i64 x14
    refine lv_topl (fun x16 ex16 => ?_)
    refine tk_last hC hK hw hT kC_at150 (by decide) rfl (show 0 ≤ x10.toInt by omega) (show x10.toInt < 64 by omega) dX1_turn_30 (fun H locs w17 hw hT k19 => ?_)
    have hF := hF.put kC_at150 (inE_of (a := 0) (b := 64) (by decide) (show 0 ≤ x10.toInt.toNat by omega) (show x10.toInt.toNat ≤ 64 by omega)) k19
    have c20 := k19.gi (Or.inl (tk_ne kC_at149 kC_at150 (by decide))) c6
    exact J31 x5 H locs ls w17 (show 0 ≤ x5.toInt by omega) (show x5.toInt ≤ 64 by omega)  hw hT hF c20 (lv_sub hl [0] rfl)
abbrev P_X1_valueOf_1 (ad : Nat → Nat) (cy : Nat → ClassId) (B : Int) (qr : Nat) (s1 : Int) (q1_ : Nat) (a2 : Int32) (w0 : va_W) : Int64 → va_W → Prop := fun r u => TW ksC ad cy B qr s1 u ∧ FE ksC ([] : List (Nat × Nat × Nat)) w0 u ∧ (((-2147483648) ≤ r.toInt ∧ r.toInt ≤ 2147483647))
set_option maxHeartbeats 4000000 in
set_option maxRecDepth 100000 in
theorem k_X1_valueOf_1 (l : Launch) (adK adV : Nat → Nat) (dC : Nat → ClassId) (dI : Nat → Nat → Nat) (cy : Nat → ClassId) (ad : Nat → Nat) (B : Int) (hB0 : 2147483648 ≤ B) (hB1 : B ≤ 1152921504606846976) (qr : Nat) (s1 : Int)  (q1_ : Nat) (hkq1_ : ksC[q1_]? = some 9) (a2 : Int32) (ta2 : a2.toInt ≤ 9) (w0 : va_W) (sz : Nat) (hT : TW ksC ad cy B qr s1 w0)  : Met l yX1_valueOf wsX1_valueOf ({ frames := 2, cells := 0, slots := 0, locals := 32 }) (va_Pc [.ref (ad 149), .ref (ad q1_), .int a2] (wpreS adK adV dC dI cy sz w0)) (va_Ql (P_X1_valueOf_1 ad cy B qr s1 q1_ a2 w0) (fun u : va_W => wpost dC dI cy (va_A w0 sz) u) (va_A w0 sz)) 0 0 (va_A w0 sz) := by
  refine Met.ofW (cc := cX1_valueOf) (maxL := 3) (ret := (some .long)) (by decide) rfl ?_
  intro p e s m args below meth c s₁ Bk hml hv
  obtain ⟨rfl, ⟨hsz, hP, hK, hD0⟩, hE, hSR⟩ := hv
  have hx := Bk.exec
  have hb := Bk.bytes
  have hr := Bk.returns
  have hlocks := Bk.notSynchronized
  have hC : CallFix p m c cX1_valueOf 3 s _ wsX1_valueOf RX1 := ⟨hx, hb, hml, findClass_of_methodNamed Bk.named, atoms_spec (ws := wsX1_valueOf) Bk.pre⟩
  subst hsz
  have hD := hD0.self (sz := s.heap.size)
  generalize hAe : va_A w0 s.heap.size = A at hD hE ⊢
  have hA : ∀ q : Nat, s.heap.size ≤ q → A q := fun q h => by rw [← hAe]; exact Or.inr h
  have hw : Wd dC dI A s.heap s.heap [] w0 := ⟨hP, hD, va_S.rf⟩
  have hF : FE ksC ([] : List (Nat × Nat × Nat)) w0 w0 := FE.rf
  have hl := lv_entry ([.ref (ad 149), .ref (ad q1_), .int a2]) (n := 3) (Nat.le_of_ble_eq_true rfl)
  rw [lg_entry_eq]
  generalize (lg_sl ([.ref (ad 149), .ref (ad q1_), .int a2]) ++ List.replicate (3 - (lg_sl ([.ref (ad 149), .ref (ad q1_), .int a2])).length) Slot.unset).toArray = ls at hl ⊢
  have hl : lv_has ls 3 [(0, .ref (ad 149)), (1, .ref (ad q1_)), (2, .int a2)] := hl
  generalize hloc : ([] : List Loc) = locs at hw ⊢
  have hinX9 : ∀ w ∈ u_ws RX9 TX9 9, w ∈ wsX1_valueOf := fun _ h => List.mem_cons_of_mem _ (List.mem_append_left _ (List.mem_append_right _ (h)))
  have hinX1 : ∀ w ∈ u_ws RX1 TX1 10, w ∈ wsX1_valueOf := fun _ h => List.mem_cons_of_mem _ (List.mem_append_right _ (h))
  refine lv_iload_n hx hb dX1_valueOf_0 rfl (lv_at hl 2 rfl) ?_
  rcases (show a2.toInt = 0 ∨ a2.toInt = 1 ∨ a2.toInt = 2 ∨ a2.toInt = 3 ∨ a2.toInt = 4 ∨ a2.toInt = 5 ∨ a2.toInt = 6 ∨ a2.toInt = 7 ∨ a2.toInt = 8 ∨ (a2.toInt < 0 ∨ 8 < a2.toInt) by omega) with c1 | c1 | c1 | c1 | c1 | c1 | c1 | c1 | c1 | c1
  · refine lv_tableIn (off := 51) (tgt := 52) hx hb dX1_valueOf_1 (by omega) (by omega) (by rw [c1]; rfl) (by decide) ?_
    refine lv_aload_n hx hb dX1_valueOf_52 rfl (lv_at hl 1 rfl) ?_
    refine tk_getB hC hK hw hT hinX9 hkq1_ (by decide) rfl 4 (by decide) (List.mem_of_getElem? (i := 1) rfl) rfl rfl dX1_valueOf_53 (fun x2 c3 rx2 tx2 => ?_)
    refine lv_ldc2 (v := 24) hx hb hC.2.2.2.1 (hC.2.2.2.2 _ (List.mem_of_getElem? (i := 2) rfl)) dX1_valueOf_56 ?_
    refine lv_lrem hx hb dX1_valueOf_59 (by decide) ?_
    refine lv_topl (fun x4 ex4 => ?_)
    have ex4 : x4.toInt = x2.toInt % (24 : Int) := by rw [ex4]; exact wk_reml (show 0 ≤ x2.toInt by omega) (show 0 < (24 : Int) by decide)
    exact tk_lret hC hr hlocks hK ⟨hT, hF, ⟨(show (-2147483648) ≤ x4.toInt by omega), (show x4.toInt ≤ 2147483647 by omega)⟩⟩ hw dX1_valueOf_60
  · refine lv_tableIn (off := 60) (tgt := 61) hx hb dX1_valueOf_1 (by omega) (by omega) (by rw [c1]; rfl) (by decide) ?_
    refine lv_aload_n hx hb dX1_valueOf_61 rfl (lv_at hl 1 rfl) ?_
    refine tk_Vl hC hK hw hT hA hE hSR hkq1_ (by decide) rfl (k_X9_dayNow_1 l adK adV dC dI cy ad B (by omega) (by omega) qr s1   q1_ hkq1_ w0 s.heap.size hT ) (cwV 0 hC.2.2.2.2 gX1_valueOf_X9_dayNow rfl rfl rfl (by decide +kernel) ⟨Nat.le_of_ble_eq_true rfl, Nat.le_of_ble_eq_true rfl⟩) rfl hl.1 rfl (Nat.le_of_ble_eq_true rfl) dX1_valueOf_62 (fun r5 w7 H locs hp6 hw => ?_)
    obtain ⟨hT, k8, hg11⟩ := hp6
    have hF := hF.tr k8 (by decide)
    obtain ⟨g9, g10⟩ := hg11
    refine lv_ldc2 (v := 7) hx hb hC.2.2.2.1 (hC.2.2.2.2 _ (List.mem_of_getElem? (i := 3) rfl)) dX1_valueOf_65 ?_
    refine lv_lrem hx hb dX1_valueOf_68 (by decide) ?_
    refine lv_topl (fun x12 ex12 => ?_)
    have ex12 : x12.toInt = r5.toInt % (7 : Int) := by rw [ex12]; exact wk_reml (show 0 ≤ r5.toInt by omega) (show 0 < (7 : Int) by decide)
    exact tk_lret hC hr hlocks hK ⟨hT, hF, ⟨(show (-2147483648) ≤ x12.toInt by omega), (show x12.toInt ≤ 2147483647 by omega)⟩⟩ hw dX1_valueOf_69
  · refine lv_tableIn (off := 69) (tgt := 70) hx hb dX1_valueOf_1 (by omega) (by omega) (by rw [c1]; rfl) (by decide) ?_
    refine lv_aload_n hx hb dX1_valueOf_70 rfl (lv_at hl 0 rfl) ?_
    refine tk_geti hC hK hw hT hinX1 kC_at149 (by decide) rfl 9 (by decide) (List.mem_of_getElem? (i := 4) rfl) rfl rfl dX1_valueOf_71 (fun x13 c14 rx13 tx13 => ?_)
    refine lv_if_eq (tgt := 81) hx hb dX1_valueOf_74 (by decide) (fun c15 => ?_) (fun c15 => ?_)
    · have c15 : x13.toInt = (0 : Int) := wk_eq.mp c15
      refine lv_aload_n hx hb dX1_valueOf_81 rfl (lv_at hl 1 rfl) ?_
      refine tk_Vl hC hK hw hT hA hE hSR hkq1_ (by decide) rfl (k_X9_dayNow_1 l adK adV dC dI cy ad B (by omega) (by omega) qr s1   q1_ hkq1_ w0 s.heap.size hT ) (cwV 0 hC.2.2.2.2 gX1_valueOf_X9_dayNow rfl rfl rfl (by decide +kernel) ⟨Nat.le_of_ble_eq_true rfl, Nat.le_of_ble_eq_true rfl⟩) rfl hl.1 rfl (Nat.le_of_ble_eq_true rfl) dX1_valueOf_82 (fun r16 w18 H locs hp17 hw => ?_)
      obtain ⟨hT, k19, hg22⟩ := hp17
      have hF := hF.tr k19 (by decide)
      have c23 := k19.gi kC_at149 (by decide) c14
      obtain ⟨g20, g21⟩ := hg22
      refine lv_ldc2 (v := 360) hx hb hC.2.2.2.1 (hC.2.2.2.2 _ (List.mem_of_getElem? (i := 5) rfl)) dX1_valueOf_85 ?_
      refine lv_lrem hx hb dX1_valueOf_88 (by decide) ?_
      refine lv_topl (fun x24 ex24 => ?_)
      have ex24 : x24.toInt = r16.toInt % (360 : Int) := by rw [ex24]; exact wk_reml (show 0 ≤ r16.toInt by omega) (show 0 < (360 : Int) by decide)
      exact tk_lret hC hr hlocks hK ⟨hT, hF, ⟨(show (-2147483648) ≤ x24.toInt by omega), (show x24.toInt ≤ 2147483647 by omega)⟩⟩ hw dX1_valueOf_89
    · have c15 : ¬ x13.toInt = (0 : Int) := wk_eqF c15
      refine lv_lconst (v := 0) hx hb dX1_valueOf_77 (by decide) ?_
      refine lv_goto (tgt := 89) hx hb dX1_valueOf_78 (by decide) ?_
      exact tk_lret hC hr hlocks hK ⟨hT, hF, ⟨(by decide), (by decide)⟩⟩ hw dX1_valueOf_89
  · refine lv_tableIn (off := 89) (tgt := 90) hx hb dX1_valueOf_1 (by omega) (by omega) (by rw [c1]; rfl) (by decide) ?_
    refine lv_aload_n hx hb dX1_valueOf_90 rfl (lv_at hl 1 rfl) ?_
    refine tk_geti hC hK hw hT hinX9 hkq1_ (by decide) rfl 0 (by decide) (List.mem_of_getElem? (i := 6) rfl) rfl rfl dX1_valueOf_91 (fun x25 c26 rx25 tx25 => ?_)
    refine lv_i2l hx hb dX1_valueOf_94 rfl ?_
    refine lv_topl (fun x27 ex27 => ?_)
    have ex27 : x27.toInt = x25.toInt := by rw [ex27]; exact wk_i2l _
    have bx27 := wk_i32 x25
    exact tk_lret hC hr hlocks hK ⟨hT, hF, ⟨(show (-2147483648) ≤ x27.toInt by omega), (show x27.toInt ≤ 2147483647 by omega)⟩⟩ hw dX1_valueOf_95
  · refine lv_tableIn (off := 95) (tgt := 96) hx hb dX1_valueOf_1 (by omega) (by omega) (by rw [c1]; rfl) (by decide) ?_
    refine lv_aload_n hx hb dX1_valueOf_96 rfl (lv_at hl 1 rfl) ?_
    refine tk_geti hC hK hw hT hinX9 hkq1_ (by decide) rfl 1 (by decide) (List.mem_of_getElem? (i := 7) rfl) rfl rfl dX1_valueOf_97 (fun x28 c29 rx28 tx28 => ?_)
    refine lv_i2l hx hb dX1_valueOf_100 rfl ?_
    refine lv_topl (fun x30 ex30 => ?_)
    have ex30 : x30.toInt = x28.toInt := by rw [ex30]; exact wk_i2l _
    have bx30 := wk_i32 x28
    exact tk_lret hC hr hlocks hK ⟨hT, hF, ⟨(show (-2147483648) ≤ x30.toInt by omega), (show x30.toInt ≤ 2147483647 by omega)⟩⟩ hw dX1_valueOf_101
  · refine lv_tableIn (off := 101) (tgt := 102) hx hb dX1_valueOf_1 (by omega) (by omega) (by rw [c1]; rfl) (by decide) ?_
    refine lv_aload_n hx hb dX1_valueOf_102 rfl (lv_at hl 0 rfl) ?_
    refine tk_geti hC hK hw hT hinX1 kC_at149 (by decide) rfl 6 (by decide) (List.mem_of_getElem? (i := 8) rfl) rfl rfl dX1_valueOf_103 (fun x31 c32 rx31 tx31 => ?_)
    refine lv_if_eq (tgt := 113) hx hb dX1_valueOf_106 (by decide) (fun c33 => ?_) (fun c33 => ?_)
    · have c33 : x31.toInt = (0 : Int) := wk_eq.mp c33
      refine lv_lconst (v := 1) hx hb dX1_valueOf_113 (by decide) ?_
      exact tk_lret hC hr hlocks hK ⟨hT, hF, ⟨(by decide), (by decide)⟩⟩ hw dX1_valueOf_114
    · have c33 : ¬ x31.toInt = (0 : Int) := wk_eqF c33
      refine lv_lconst (v := 0) hx hb dX1_valueOf_109 (by decide) ?_
      refine lv_goto (tgt := 114) hx hb dX1_valueOf_110 (by decide) ?_
      exact tk_lret hC hr hlocks hK ⟨hT, hF, ⟨(by decide), (by decide)⟩⟩ hw dX1_valueOf_114
  · refine lv_tableIn (off := 114) (tgt := 115) hx hb dX1_valueOf_1 (by omega) (by omega) (by rw [c1]; rfl) (by decide) ?_
    refine lv_aload_n hx hb dX1_valueOf_115 rfl (lv_at hl 0 rfl) ?_
    refine tk_geti hC hK hw hT hinX1 kC_at149 (by decide) rfl 8 (by decide) (List.mem_of_getElem? (i := 9) rfl) rfl rfl dX1_valueOf_116 (fun x34 c35 rx34 tx34 => ?_)
    refine lv_i2l hx hb dX1_valueOf_119 rfl ?_
    refine lv_topl (fun x36 ex36 => ?_)
    have ex36 : x36.toInt = x34.toInt := by rw [ex36]; exact wk_i2l _
    have bx36 := wk_i32 x34
    exact tk_lret hC hr hlocks hK ⟨hT, hF, ⟨(show (-2147483648) ≤ x36.toInt by omega), (show x36.toInt ≤ 2147483647 by omega)⟩⟩ hw dX1_valueOf_120
  · refine lv_tableIn (off := 120) (tgt := 121) hx hb dX1_valueOf_1 (by omega) (by omega) (by rw [c1]; rfl) (by decide) ?_
    refine lv_aload_n hx hb dX1_valueOf_121 rfl (lv_at hl 0 rfl) ?_
    refine tk_geti hC hK hw hT hinX1 kC_at149 (by decide) rfl 9 (by decide) (List.mem_of_getElem? (i := 4) rfl) rfl rfl dX1_valueOf_122 (fun x37 c38 rx37 tx37 => ?_)
    refine lv_if_eq (tgt := 132) hx hb dX1_valueOf_125 (by decide) (fun c39 => ?_) (fun c39 => ?_)
    · have c39 : x37.toInt = (0 : Int) := wk_eq.mp c39
      refine lv_aload_n hx hb dX1_valueOf_132 rfl (lv_at hl 1 rfl) ?_
      refine tk_geti hC hK hw hT hinX9 hkq1_ (by decide) rfl 5 (by decide) (List.mem_of_getElem? (i := 10) rfl) rfl rfl dX1_valueOf_133 (fun x40 c41 rx40 tx40 => ?_)
      refine lv_i2l hx hb dX1_valueOf_136 rfl ?_
      refine lv_topl (fun x42 ex42 => ?_)
      have ex42 : x42.toInt = x40.toInt := by rw [ex42]; exact wk_i2l _
      have bx42 := wk_i32 x40
      exact tk_lret hC hr hlocks hK ⟨hT, hF, ⟨(show (-2147483648) ≤ x42.toInt by omega), (show x42.toInt ≤ 2147483647 by omega)⟩⟩ hw dX1_valueOf_137
    · have c39 : ¬ x37.toInt = (0 : Int) := wk_eqF c39
      refine lv_lconst (v := 0) hx hb dX1_valueOf_128 (by decide) ?_
      refine lv_goto (tgt := 137) hx hb dX1_valueOf_129 (by decide) ?_
      exact tk_lret hC hr hlocks hK ⟨hT, hF, ⟨(by decide), (by decide)⟩⟩ hw dX1_valueOf_137
  · refine lv_tableIn (off := 137) (tgt := 138) hx hb dX1_valueOf_1 (by omega) (by omega) (by rw [c1]; rfl) (by decide) ?_
    refine lv_aload_n hx hb dX1_valueOf_138 rfl (lv_at hl 1 rfl) ?_
    refine tk_geti hC hK hw hT hinX9 hkq1_ (by decide) rfl 6 (by decide) (List.mem_of_getElem? (i := 11) rfl) rfl rfl dX1_valueOf_139 (fun x43 c44 rx43 tx43 => ?_)
    refine lv_i2l hx hb dX1_valueOf_142 rfl ?_
    refine lv_topl (fun x45 ex45 => ?_)
    have ex45 : x45.toInt = x43.toInt := by rw [ex45]; exact wk_i2l _
    have bx45 := wk_i32 x43
    exact tk_lret hC hr hlocks hK ⟨hT, hF, ⟨(show (-2147483648) ≤ x45.toInt by omega), (show x45.toInt ≤ 2147483647 by omega)⟩⟩ hw dX1_valueOf_143
  · refine lv_tableOut (tgt := 144) hx hb dX1_valueOf_1 c1 (by decide) ?_
    refine lv_aload_n hx hb dX1_valueOf_144 rfl (lv_at hl 1 rfl) ?_
    refine tk_geti hC hK hw hT hinX9 hkq1_ (by decide) rfl 7 (by decide) (List.mem_of_getElem? (i := 12) rfl) rfl rfl dX1_valueOf_145 (fun x46 c47 rx46 tx46 => ?_)
    refine lv_iconst (v := (-1)) hx hb dX1_valueOf_148 (by decide) ?_
    refine lv_icmp_ne (tgt := 158) hx hb dX1_valueOf_149 (by decide) (fun c48 => ?_) (fun c48 => ?_)
    · have c48 : ¬ x46.toInt = (-1 : Int) := wk_eqF c48
      refine lv_aload_n hx hb dX1_valueOf_158 rfl (lv_at hl 1 rfl) ?_
      refine tk_geti hC hK hw hT hinX9 hkq1_ (by decide) rfl 7 (by decide) (List.mem_of_getElem? (i := 12) rfl) rfl rfl dX1_valueOf_159 (fun x49 c50 rx49 tx49 => ?_)
      refine wk_top x46 (c50.symm.trans c47) ?_
      refine lv_i2l hx hb dX1_valueOf_162 rfl ?_
      refine lv_topl (fun x51 ex51 => ?_)
      have ex51 : x51.toInt = x46.toInt := by rw [ex51]; exact wk_i2l _
      have bx51 := wk_i32 x46
      exact tk_lret hC hr hlocks hK ⟨hT, hF, ⟨(show (-2147483648) ≤ x51.toInt by omega), (show x51.toInt ≤ 2147483647 by omega)⟩⟩ hw dX1_valueOf_163
    · have c48 : x46.toInt = (-1 : Int) := wk_eq.mp c48
      refine lv_ldc2 (v := 99) hx hb hC.2.2.2.1 (hC.2.2.2.2 _ (List.mem_of_getElem? (i := 13) rfl)) dX1_valueOf_152 ?_
      refine lv_goto (tgt := 163) hx hb dX1_valueOf_155 (by decide) ?_
      exact tk_lret hC hr hlocks hK ⟨hT, hF, ⟨(by decide), (by decide)⟩⟩ hw dX1_valueOf_163
abbrev P_X1_push_1 (ad : Nat → Nat) (cy : Nat → ClassId) (B : Int) (qr : Nat) (s1 : Int) (a1 : Int64) (w0 : va_W) : va_W → Prop := fun u => TW ksC ad cy B qr s1 u ∧ FE ksC [(1, 4, 4), (45, 0, 64)] w0 u ∧ (((∃ y : Int32, gi u 149 4 = y ∧ 1 ≤ y.toInt ∧ y.toInt ≤ 64)))
set_option maxHeartbeats 4000000 in
set_option maxRecDepth 100000 in
theorem k_X1_push_1 (l : Launch) (adK adV : Nat → Nat) (dC : Nat → ClassId) (dI : Nat → Nat → Nat) (cy : Nat → ClassId) (ad : Nat → Nat) (B : Int) (hB0 : 2147483648 ≤ B) (hB1 : B ≤ 1152921504606846976) (qr : Nat) (s1 : Int)  (a1 : Int64) (ra1 : (-2147483648) ≤ a1.toInt) (ta1 : a1.toInt ≤ 2147483647) (w0 : va_W) (sz : Nat) (hT : TW ksC ad cy B qr s1 w0)  : Met l yX1_push wsX1_push ({ frames := 1, cells := 0, slots := 0, locals := 12 }) (va_Pc [.ref (ad 149), .long a1] (wpreS adK adV dC dI cy sz w0)) (va_Qv (P_X1_push_1 ad cy B qr s1 a1 w0) (fun u : va_W => wpost dC dI cy (va_A w0 sz) u) (va_A w0 sz)) 0 0 (va_A w0 sz) := by
  refine Met.ofW (cc := cX1_push) (maxL := 3) (ret := none) (by decide) rfl ?_
  intro p e s m args below meth c s₁ Bk hml hv
  obtain ⟨rfl, ⟨hsz, hP, hK, hD0⟩, hE, hSR⟩ := hv
  have hx := Bk.exec
  have hb := Bk.bytes
  have hr := Bk.returns
  have hlocks := Bk.notSynchronized
  have hC : CallFix p m c cX1_push 3 s _ wsX1_push RX1 := ⟨hx, hb, hml, findClass_of_methodNamed Bk.named, atoms_spec (ws := wsX1_push) Bk.pre⟩
  subst hsz
  have hD := hD0.self (sz := s.heap.size)
  generalize hAe : va_A w0 s.heap.size = A at hD hE ⊢
  have hA : ∀ q : Nat, s.heap.size ≤ q → A q := fun q h => by rw [← hAe]; exact Or.inr h
  have hw : Wd dC dI A s.heap s.heap [] w0 := ⟨hP, hD, va_S.rf⟩
  have hF : FE ksC [(1, 4, 4), (45, 0, 64)] w0 w0 := FE.rf
  have hl := lv_entry ([.ref (ad 149), .long a1]) (n := 3) (Nat.le_of_ble_eq_true rfl)
  rw [lg_entry_eq]
  generalize (lg_sl ([.ref (ad 149), .long a1]) ++ List.replicate (3 - (lg_sl ([.ref (ad 149), .long a1])).length) Slot.unset).toArray = ls at hl ⊢
  have hl : lv_has ls 3 [(0, .ref (ad 149)), (1, .long a1)] := hl
  generalize hloc : ([] : List Loc) = locs at hw ⊢
  have hinX1 : ∀ w ∈ u_ws RX1 TX1 10, w ∈ wsX1_push := fun _ h => List.mem_cons_of_mem _ (List.mem_append_right _ (h))
  have J29 : ∀ (f29_149_4 : Int32) (H : Heap) (locs : List Loc) (ls : Array Slot) (w1 : va_W), (-2147483648) ≤ a1.toInt → a1.toInt ≤ 2147483647 → 1 ≤ f29_149_4.toInt → f29_149_4.toInt ≤ 64 → Wd dC dI A s.heap H locs w1 → TW ksC ad cy B qr s1 w1 → FE ksC [(1, 4, 4), (45, 0, 64)] w0 w1 → gi w1 149 4 = f29_149_4 → lv_has ls 3 [(0, .ref (ad 149)), (1, .long a1)] → W p l e ({ frames := 1, cells := 0, slots := 0, locals := 12 }) s m (List.toArray [.ref (ad 149), .long a1]) below meth c H locs 0 0 (MQ below (va_Qv (P_X1_push_1 ad cy B qr s1 a1 w0) (fun u : va_W => wpost dC dI cy A u) A) (List.toArray [.ref (ad 149), .long a1]) s 0 0 A) (F0 m 29 ls []) := by
    intro f29_149_4 H locs ls w1 r2 t3 r4 t5 hw hT hF c6 hl
    exact tk_vret hC hr hlocks hK ⟨hT, hF, ⟨f29_149_4, c6, (show 1 ≤ f29_149_4.toInt by omega), (show f29_149_4.toInt ≤ 64 by omega)⟩⟩ hw dX1_push_29
  refine lv_aload_n hx hb dX1_push_0 rfl (lv_at hl 0 rfl) ?_
  refine tk_geti hC hK hw hT hinX1 kC_at149 (by decide) rfl 4 (by decide) (List.mem_of_getElem? (i := 1) rfl) rfl rfl dX1_push_1 (fun x7 c8 rx7 tx7 => ?_)
  refine lv_bipush (v := 64) hx hb dX1_push_4 (by decide) ?_
  refine lv_icmp_ge (tgt := 29) hx hb dX1_push_6 (by decide) (fun c9 => ?_) (fun c9 => ?_)
  · have c9 : (64 : Int) ≤ x7.toInt := wk_le.mp c9
    exact J29 x7 s.heap locs ls w0 (show (-2147483648) ≤ a1.toInt by omega) (show a1.toInt ≤ 2147483647 by omega) (show 1 ≤ x7.toInt by omega) (show x7.toInt ≤ 64 by omega)  hw hT hF c8 (lv_sub hl [0, 1] rfl)
  · have c9 : x7.toInt < (64 : Int) := wk_leF c9
    refine lv_aload_n hx hb dX1_push_9 rfl (lv_at hl 0 rfl) ?_
    refine tk_getA hC hK hw hT hinX1 kC_at149 (by decide) rfl 3 (by decide) (List.mem_of_getElem? (i := 2) rfl) rfl rfl dX1_push_10 ?_
    refine lv_aload_n hx hb dX1_push_13 rfl (lv_at hl 0 rfl) ?_
    refine tk_geti hC hK hw hT hinX1 kC_at149 (by decide) rfl 4 (by decide) (List.mem_of_getElem? (i := 1) rfl) rfl rfl dX1_push_14 (fun x10 c11 rx10 tx10 => ?_)
    refine wk_top x7 (c11.symm.trans c8) ?_
    refine lv_lload_n hx hb dX1_push_17 rfl (lv_at hl 1 rfl) ?_
    refine tk_last hC hK hw hT kC_at150 (by decide) rfl (show 0 ≤ x7.toInt by omega) (show x7.toInt < 64 by omega) dX1_push_18 (fun H locs w12 hw hT k14 => ?_)
    have hF := hF.put kC_at150 (inE_of (a := 0) (b := 64) (by decide) (show 0 ≤ x7.toInt.toNat by omega) (show x7.toInt.toNat ≤ 64 by omega)) k14
    have c15 := k14.gi (Or.inl (tk_ne kC_at149 kC_at150 (by decide))) c8
    refine lv_aload_n hx hb dX1_push_19 rfl (lv_at hl 0 rfl) ?_
    refine lv_dup hx hb dX1_push_20 rfl ?_
    refine tk_geti hC hK hw hT hinX1 kC_at149 (by decide) rfl 4 (by decide) (List.mem_of_getElem? (i := 1) rfl) rfl rfl dX1_push_21 (fun x16 c17 rx16 tx16 => ?_)
    refine wk_top x7 (c17.symm.trans c15) ?_
    refine lv_iconst (v := 1) hx hb dX1_push_24 (by decide) ?_
    refine lv_iadd hx hb dX1_push_25 ?_
    refine lv_topi (fun x18 ex18 => ?_)
    have ex18 : x18.toInt = x7.toInt + (1 : Int) := by rw [ex18]; exact wk_add (show (-2147483648) ≤ x7.toInt + (1 : Int) by omega) (show x7.toInt + (1 : Int) ≤ 2147483647 by omega)
    refine tk_puti hC hK hw hT hinX1 tyX1_ok nmX1 kC_at149 (by decide) rfl rfl 4 (by decide) (List.mem_of_getElem? (i := 1) rfl) rfl rfl rfl rfl (show 0 ≤ x18.toInt by omega) (show x18.toInt ≤ 64 by omega) dX1_push_26 (fun H locs w19 hw hT k21 c20 => ?_)
    have hF := hF.put kC_at149 (k := 4) (by decide) k21
    exact J29 x18 H locs ls w19 (show (-2147483648) ≤ a1.toInt by omega) (show a1.toInt ≤ 2147483647 by omega) (show 1 ≤ x18.toInt by omega) (show x18.toInt ≤ 64 by omega)  hw hT hF c20 (lv_sub hl [0, 1] rfl)
abbrev P_X1_push_2 (ad : Nat → Nat) (cy : Nat → ClassId) (B : Int) (qr : Nat) (s1 : Int) (a1 : Int64) (w0 : va_W) : va_W → Prop := fun u => TW ksC ad cy B qr s1 u ∧ FE ksC [(1, 4, 4), (45, 0, 64)] w0 u ∧ (((∃ y : Int32, gi u 149 4 = y ∧ 1 ≤ y.toInt ∧ y.toInt ≤ 64)))
set_option maxHeartbeats 4000000 in
set_option maxRecDepth 100000 in
theorem k_X1_push_2 (l : Launch) (adK adV : Nat → Nat) (dC : Nat → ClassId) (dI : Nat → Nat → Nat) (cy : Nat → ClassId) (ad : Nat → Nat) (B : Int) (hB0 : 2147483648 ≤ B) (hB1 : B ≤ 1152921504606846976) (qr : Nat) (s1 : Int)  (a1 : Int64) (ra1 : 0 ≤ a1.toInt) (ta1 : a1.toInt ≤ 2147483615) (w0 : va_W) (sz : Nat) (hT : TW ksC ad cy B qr s1 w0)  : Met l yX1_push wsX1_push ({ frames := 1, cells := 0, slots := 0, locals := 12 }) (va_Pc [.ref (ad 149), .long a1] (wpreS adK adV dC dI cy sz w0)) (va_Qv (P_X1_push_2 ad cy B qr s1 a1 w0) (fun u : va_W => wpost dC dI cy (va_A w0 sz) u) (va_A w0 sz)) 0 0 (va_A w0 sz) := by
  refine Met.ofW (cc := cX1_push) (maxL := 3) (ret := none) (by decide) rfl ?_
  intro p e s m args below meth c s₁ Bk hml hv
  obtain ⟨rfl, ⟨hsz, hP, hK, hD0⟩, hE, hSR⟩ := hv
  have hx := Bk.exec
  have hb := Bk.bytes
  have hr := Bk.returns
  have hlocks := Bk.notSynchronized
  have hC : CallFix p m c cX1_push 3 s _ wsX1_push RX1 := ⟨hx, hb, hml, findClass_of_methodNamed Bk.named, atoms_spec (ws := wsX1_push) Bk.pre⟩
  subst hsz
  have hD := hD0.self (sz := s.heap.size)
  generalize hAe : va_A w0 s.heap.size = A at hD hE ⊢
  have hA : ∀ q : Nat, s.heap.size ≤ q → A q := fun q h => by rw [← hAe]; exact Or.inr h
  have hw : Wd dC dI A s.heap s.heap [] w0 := ⟨hP, hD, va_S.rf⟩
  have hF : FE ksC [(1, 4, 4), (45, 0, 64)] w0 w0 := FE.rf
  have hl := lv_entry ([.ref (ad 149), .long a1]) (n := 3) (Nat.le_of_ble_eq_true rfl)
  rw [lg_entry_eq]
  generalize (lg_sl ([.ref (ad 149), .long a1]) ++ List.replicate (3 - (lg_sl ([.ref (ad 149), .long a1])).length) Slot.unset).toArray = ls at hl ⊢
  have hl : lv_has ls 3 [(0, .ref (ad 149)), (1, .long a1)] := hl
  generalize hloc : ([] : List Loc) = locs at hw ⊢
  have hinX1 : ∀ w ∈ u_ws RX1 TX1 10, w ∈ wsX1_push := fun _ h => List.mem_cons_of_mem _ (List.mem_append_right _ (h))
  have J29 : ∀ (f29_149_4 : Int32) (H : Heap) (locs : List Loc) (ls : Array Slot) (w1 : va_W), 0 ≤ a1.toInt → a1.toInt ≤ 2147483615 → 1 ≤ f29_149_4.toInt → f29_149_4.toInt ≤ 64 → Wd dC dI A s.heap H locs w1 → TW ksC ad cy B qr s1 w1 → FE ksC [(1, 4, 4), (45, 0, 64)] w0 w1 → gi w1 149 4 = f29_149_4 → lv_has ls 3 [(0, .ref (ad 149)), (1, .long a1)] → W p l e ({ frames := 1, cells := 0, slots := 0, locals := 12 }) s m (List.toArray [.ref (ad 149), .long a1]) below meth c H locs 0 0 (MQ below (va_Qv (P_X1_push_2 ad cy B qr s1 a1 w0) (fun u : va_W => wpost dC dI cy A u) A) (List.toArray [.ref (ad 149), .long a1]) s 0 0 A) (F0 m 29 ls []) := by
    intro f29_149_4 H locs ls w1 r2 t3 r4 t5 hw hT hF c6 hl
    exact tk_vret hC hr hlocks hK ⟨hT, hF, ⟨f29_149_4, c6, (show 1 ≤ f29_149_4.toInt by omega), (show f29_149_4.toInt ≤ 64 by omega)⟩⟩ hw dX1_push_29
  refine lv_aload_n hx hb dX1_push_0 rfl (lv_at hl 0 rfl) ?_
  refine tk_geti hC hK hw hT hinX1 kC_at149 (by decide) rfl 4 (by decide) (List.mem_of_getElem? (i := 1) rfl) rfl rfl dX1_push_1 (fun x7 c8 rx7 tx7 => ?_)
  refine lv_bipush (v := 64) hx hb dX1_push_4 (by decide) ?_
  refine lv_icmp_ge (tgt := 29) hx hb dX1_push_6 (by decide) (fun c9 => ?_) (fun c9 => ?_)
  · have c9 : (64 : Int) ≤ x7.toInt := wk_le.mp c9
    exact J29 x7 s.heap locs ls w0 (show 0 ≤ a1.toInt by omega) (show a1.toInt ≤ 2147483615 by omega) (show 1 ≤ x7.toInt by omega) (show x7.toInt ≤ 64 by omega)  hw hT hF c8 (lv_sub hl [0, 1] rfl)
  · have c9 : x7.toInt < (64 : Int) := wk_leF c9
    refine lv_aload_n hx hb dX1_push_9 rfl (lv_at hl 0 rfl) ?_
    refine tk_getA hC hK hw hT hinX1 kC_at149 (by decide) rfl 3 (by decide) (List.mem_of_getElem? (i := 2) rfl) rfl rfl dX1_push_10 ?_
    refine lv_aload_n hx hb dX1_push_13 rfl (lv_at hl 0 rfl) ?_
    refine tk_geti hC hK hw hT hinX1 kC_at149 (by decide) rfl 4 (by decide) (List.mem_of_getElem? (i := 1) rfl) rfl rfl dX1_push_14 (fun x10 c11 rx10 tx10 => ?_)
    refine wk_top x7 (c11.symm.trans c8) ?_
    refine lv_lload_n hx hb dX1_push_17 rfl (lv_at hl 1 rfl) ?_
    refine tk_last hC hK hw hT kC_at150 (by decide) rfl (show 0 ≤ x7.toInt by omega) (show x7.toInt < 64 by omega) dX1_push_18 (fun H locs w12 hw hT k14 => ?_)
    have hF := hF.put kC_at150 (inE_of (a := 0) (b := 64) (by decide) (show 0 ≤ x7.toInt.toNat by omega) (show x7.toInt.toNat ≤ 64 by omega)) k14
    have c15 := k14.gi (Or.inl (tk_ne kC_at149 kC_at150 (by decide))) c8
    refine lv_aload_n hx hb dX1_push_19 rfl (lv_at hl 0 rfl) ?_
    refine lv_dup hx hb dX1_push_20 rfl ?_
    refine tk_geti hC hK hw hT hinX1 kC_at149 (by decide) rfl 4 (by decide) (List.mem_of_getElem? (i := 1) rfl) rfl rfl dX1_push_21 (fun x16 c17 rx16 tx16 => ?_)
    refine wk_top x7 (c17.symm.trans c15) ?_
    refine lv_iconst (v := 1) hx hb dX1_push_24 (by decide) ?_
    refine lv_iadd hx hb dX1_push_25 ?_
    refine lv_topi (fun x18 ex18 => ?_)
    have ex18 : x18.toInt = x7.toInt + (1 : Int) := by rw [ex18]; exact wk_add (show (-2147483648) ≤ x7.toInt + (1 : Int) by omega) (show x7.toInt + (1 : Int) ≤ 2147483647 by omega)
    refine tk_puti hC hK hw hT hinX1 tyX1_ok nmX1 kC_at149 (by decide) rfl rfl 4 (by decide) (List.mem_of_getElem? (i := 1) rfl) rfl rfl rfl rfl (show 0 ≤ x18.toInt by omega) (show x18.toInt ≤ 64 by omega) dX1_push_26 (fun H locs w19 hw hT k21 c20 => ?_)
    have hF := hF.put kC_at149 (k := 4) (by decide) k21
    exact J29 x18 H locs ls w19 (show 0 ≤ a1.toInt by omega) (show a1.toInt ≤ 2147483615 by omega) (show 1 ≤ x18.toInt by omega) (show x18.toInt ≤ 64 by omega)  hw hT hF c20 (lv_sub hl [0, 1] rfl)
