abbrev P_X12_asHeIs_1 (ad : Nat → Nat) (cy : Nat → ClassId) (B : Int) (qr : Nat) (s1 : Int) (a1 : Int32) (w0 : va_W) : Int32 → va_W → Prop := fun r u => w0 = u ∧ ((0 ≤ r.toInt ∧ r.toInt ≤ 18479))
set_option maxHeartbeats 4000000 in
set_option maxRecDepth 100000 in
theorem k_X12_asHeIs_1 (l : Launch) (adK adV : Nat → Nat) (dC : Nat → ClassId) (dI : Nat → Nat → Nat) (cy : Nat → ClassId) (ad : Nat → Nat) (B : Int) (hB0 : 100000 ≤ B) (hB1 : B ≤ 1073741824) (qr : Nat) (s1 : Int)  (a1 : Int32) (ra1 : 0 ≤ a1.toInt) (ta1 : a1.toInt ≤ 3) (w0 : va_W) (sz : Nat) (hT : TW ksM ad cy B qr 12 w0)  : Met l yX12_asHeIs (wu yX12_asHeIs cX12_asHeIs 2 (some .int)) ({ frames := 2, cells := 0, slots := 0, locals := 34 }) (va_Pc [.ref (ad 0), .int a1] (wpreS adK adV dC dI cy sz w0)) (va_Qi (P_X12_asHeIs_1 ad cy B qr s1 a1 w0) (fun u : va_W => wpost dC dI cy (va_A w0 sz) u) (va_A w0 sz)) 0 0 (va_A w0 sz) := by
  refine Met.ofW (cc := cX12_asHeIs) (maxL := 2) (ret := (some .int)) (by decide) rfl ?_
  intro p e s m args below meth c s₁ Bk hml hv
  obtain ⟨rfl, ⟨hsz, hP, hK, hD0⟩, hE, hSR⟩ := hv
  have hx := Bk.exec
  have hb := Bk.bytes
  have hr := Bk.returns
  have hlocks := Bk.notSynchronized
  have hC : CallFix p m c cX12_asHeIs 2 s _ (wu yX12_asHeIs cX12_asHeIs 2 (some .int)) RX12 := ⟨hx, hb, hml, findClass_of_methodNamed Bk.named, atoms_spec (ws := (wu yX12_asHeIs cX12_asHeIs 2 (some .int))) Bk.pre⟩
  subst hsz
  have hD := hD0.self (sz := s.heap.size)
  generalize hAe : va_A w0 s.heap.size = A at hD hE ⊢
  have hA : ∀ q : Nat, s.heap.size ≤ q → A q := fun q h => by rw [← hAe]; exact Or.inr h
  have hw : Wd dC dI A s.heap s.heap [] w0 := ⟨hP, hD, va_S.rf⟩
  have hF : FE ksM ([] : List (Nat × Nat × Nat)) w0 w0 := FE.rf
  have hl := lv_entry ([.ref (ad 0), .int a1]) (n := 2) (Nat.le_of_ble_eq_true rfl)
  rw [lg_entry_eq]
  generalize (lg_sl ([.ref (ad 0), .int a1]) ++ List.replicate (2 - (lg_sl ([.ref (ad 0), .int a1])).length) Slot.unset).toArray = ls at hl ⊢
  have hl : lv_has ls 2 [(0, .ref (ad 0)), (1, .int a1)] := hl
  generalize hloc : ([] : List Loc) = locs at hw ⊢
  refine lv_aload_n hx hb dX12_asHeIs_0 rfl (lv_at hl 0 rfl) ?_
  refine lv_iload_n hx hb dX12_asHeIs_1 rfl (lv_at hl 1 rfl) ?_
  refine lv_iconst (v := 0) hx hb dX12_asHeIs_2 (by decide) ?_
  refine tk_Vi hC hK hw hT hA hE hSR kM_at0 (by decide) rfl (k_X12_walkerOf_2 l adK adV dC dI cy ad B hB0 (Int.le_trans hB1 (by decide)) qr s1   a1 (show 0 ≤ a1.toInt from ra1) (show a1.toInt ≤ 3 from ta1) w0 s.heap.size hT ) (cwV 2 hC.2.2.2.2 uV_RX12_372 rfl rfl rfl (by decide +kernel) ⟨Nat.le_of_ble_eq_true rfl, Nat.le_of_ble_eq_true rfl⟩) rfl hl.1 rfl (Nat.le_of_ble_eq_true rfl) dX12_asHeIs_3 (fun r1 w3 H locs hp2 hw => ?_)
  obtain ⟨rfl, hg8⟩ := hp2
  obtain ⟨g5, g6, c7⟩ := hg8
  refine lv_sipush (v := 168) hx hb dX12_asHeIs_6 (by decide) ?_
  refine lv_imul hx hb dX12_asHeIs_9 ?_
  refine lv_topi (fun x9 ex9 => ?_)
  have ex9 : x9.toInt = r1.toInt * (168 : Int) := by rw [ex9]; exact wk_mul (show (-2147483648) ≤ r1.toInt * (168 : Int) by omega) (show r1.toInt * (168 : Int) ≤ 2147483647 by omega)
  refine lv_aload_n hx hb dX12_asHeIs_10 rfl (lv_at hl 0 rfl) ?_
  refine lv_iload_n hx hb dX12_asHeIs_11 rfl (lv_at hl 1 rfl) ?_
  refine lv_iconst (v := 4) hx hb dX12_asHeIs_12 (by decide) ?_
  refine tk_Vi hC hK hw hT hA hE hSR kM_at0 (by decide) rfl (k_X12_walkerOf_4 l adK adV dC dI cy ad B hB0 (Int.le_trans hB1 (by decide)) qr s1   a1 (show 0 ≤ a1.toInt from ra1) (show a1.toInt ≤ 3 from ta1) w0 H.size hT ) (cwV 2 hC.2.2.2.2 uV_RX12_372 rfl rfl rfl (by decide +kernel) ⟨Nat.le_of_ble_eq_true rfl, Nat.le_of_ble_eq_true rfl⟩) rfl hl.1 rfl (Nat.le_of_ble_eq_true rfl) dX12_asHeIs_13 (fun r10 w12 H locs hp11 hw => ?_)
  obtain ⟨rfl, hg17⟩ := hp11
  obtain ⟨g14, g15, c16⟩ := hg17
  refine lv_sipush (v := 168) hx hb dX12_asHeIs_16 (by decide) ?_
  refine lv_irem hx hb dX12_asHeIs_19 (by decide) ?_
  refine lv_topi (fun x18 ex18 => ?_)
  have ex18 : x18.toInt = r10.toInt % (168 : Int) := by rw [ex18]; exact wk_rem (show 0 ≤ r10.toInt by first | with_reducible assumption | omega) (show 0 < (168 : Int) by decide)
  refine lv_iadd hx hb dX12_asHeIs_20 ?_
  refine lv_topi (fun x19 ex19 => ?_)
  have ex19 : x19.toInt = x9.toInt + x18.toInt := by rw [ex19]; exact wk_add (show (-2147483648) ≤ x9.toInt + x18.toInt by omega) (show x9.toInt + x18.toInt ≤ 2147483647 by omega)
  refine lv_bipush (v := 11) hx hb dX12_asHeIs_21 (by decide) ?_
  refine lv_imul hx hb dX12_asHeIs_23 ?_
  refine lv_topi (fun x20 ex20 => ?_)
  have ex20 : x20.toInt = x19.toInt * (11 : Int) := by rw [ex20]; exact wk_mul (show (-2147483648) ≤ x19.toInt * (11 : Int) by omega) (show x19.toInt * (11 : Int) ≤ 2147483647 by omega)
  refine lv_aload_n hx hb dX12_asHeIs_24 rfl (lv_at hl 0 rfl) ?_
  refine lv_iload_n hx hb dX12_asHeIs_25 rfl (lv_at hl 1 rfl) ?_
  refine lv_bipush (v := 7) hx hb dX12_asHeIs_26 (by decide) ?_
  refine tk_Vi hC hK hw hT hA hE hSR kM_at0 (by decide) rfl (k_X12_walkerOf_9 l adK adV dC dI cy ad B hB0 (Int.le_trans hB1 (by decide)) qr s1   a1 (show 0 ≤ a1.toInt from ra1) (show a1.toInt ≤ 3 from ta1) w0 H.size hT ) (cwV 2 hC.2.2.2.2 uV_RX12_372 rfl rfl rfl (by decide +kernel) ⟨Nat.le_of_ble_eq_true rfl, Nat.le_of_ble_eq_true rfl⟩) rfl hl.1 rfl (Nat.le_of_ble_eq_true rfl) dX12_asHeIs_28 (fun r21 w23 H locs hp22 hw => ?_)
  obtain ⟨rfl, hg28⟩ := hp22
  obtain ⟨g25, g26, c27⟩ := hg28
  refine lv_iadd hx hb dX12_asHeIs_31 ?_
  refine lv_topi (fun x29 ex29 => ?_)
  have ex29 : x29.toInt = x20.toInt + r21.toInt := by rw [ex29]; exact wk_add (show (-2147483648) ≤ x20.toInt + r21.toInt by omega) (show x20.toInt + r21.toInt ≤ 2147483647 by omega)
  refine lv_iconst (v := 1) hx hb dX12_asHeIs_32 (by decide) ?_
  refine lv_iadd hx hb dX12_asHeIs_33 ?_
  refine lv_topi (fun x30 ex30 => ?_)
  have ex30 : x30.toInt = x29.toInt + (1 : Int) := by rw [ex30]; exact wk_add (show (-2147483648) ≤ x29.toInt + (1 : Int) by omega) (show x29.toInt + (1 : Int) ≤ 2147483647 by omega)
  exact tk_iret hC hr hlocks hK ⟨rfl, ⟨(show 0 ≤ x30.toInt by first | with_reducible assumption | omega), (show x30.toInt ≤ 18479 by first | with_reducible assumption | omega)⟩⟩ hw dX12_asHeIs_34
abbrev P_X12_placeAt_1 (ad : Nat → Nat) (cy : Nat → ClassId) (B : Int) (qr : Nat) (s1 : Int) (a2 : Int32) (w0 : va_W) : Int32 → va_W → Prop := fun r u => w0 = u ∧ ((0 ≤ r.toInt ∧ r.toInt ≤ 18))
set_option maxHeartbeats 4000000 in
set_option maxRecDepth 100000 in
theorem k_X12_placeAt_1 (l : Launch) (adK adV : Nat → Nat) (dC : Nat → ClassId) (dI : Nat → Nat → Nat) (cy : Nat → ClassId) (ad : Nat → Nat) (B : Int) (hB0 : 100000 ≤ B) (hB1 : B ≤ 1073741824) (qr : Nat) (s1 : Int)  (a2 : Int32) (ra2 : 0 ≤ a2.toInt) (ta2 : a2.toInt ≤ 9) (w0 : va_W) (sz : Nat) (hT : TW ksM ad cy B qr 12 w0)  : Met l yX12_placeAt (wu yX12_placeAt cX12_placeAt 4 (some .int)) ({ frames := 1, cells := 0, slots := 0, locals := 12 }) (va_Pc [.ref (ad 0), .int 0, .int a2, .int 0] (wpreS adK adV dC dI cy sz w0)) (va_Qi (P_X12_placeAt_1 ad cy B qr s1 a2 w0) (fun u : va_W => wpost dC dI cy (va_A w0 sz) u) (va_A w0 sz)) 0 0 (va_A w0 sz) := by
  refine Met.ofW (cc := cX12_placeAt) (maxL := 4) (ret := (some .int)) (by decide) rfl ?_
  intro p e s m args below meth c s₁ Bk hml hv
  obtain ⟨rfl, ⟨hsz, hP, hK, hD0⟩, hE, hSR⟩ := hv
  have hx := Bk.exec
  have hb := Bk.bytes
  have hr := Bk.returns
  have hlocks := Bk.notSynchronized
  have hC : CallFix p m c cX12_placeAt 4 s _ (wu yX12_placeAt cX12_placeAt 4 (some .int)) RX12 := ⟨hx, hb, hml, findClass_of_methodNamed Bk.named, atoms_spec (ws := (wu yX12_placeAt cX12_placeAt 4 (some .int))) Bk.pre⟩
  subst hsz
  have hD := hD0.self (sz := s.heap.size)
  generalize hAe : va_A w0 s.heap.size = A at hD hE ⊢
  have hA : ∀ q : Nat, s.heap.size ≤ q → A q := fun q h => by rw [← hAe]; exact Or.inr h
  have hw : Wd dC dI A s.heap s.heap [] w0 := ⟨hP, hD, va_S.rf⟩
  have hF : FE ksM ([] : List (Nat × Nat × Nat)) w0 w0 := FE.rf
  have hl := lv_entry ([.ref (ad 0), .int 0, .int a2, .int 0]) (n := 4) (Nat.le_of_ble_eq_true rfl)
  rw [lg_entry_eq]
  generalize (lg_sl ([.ref (ad 0), .int 0, .int a2, .int 0]) ++ List.replicate (4 - (lg_sl ([.ref (ad 0), .int 0, .int a2, .int 0])).length) Slot.unset).toArray = ls at hl ⊢
  have hl : lv_has ls 4 [(0, .ref (ad 0)), (1, .int 0), (2, .int a2), (3, .int 0)] := hl
  generalize hloc : ([] : List Loc) = locs at hw ⊢
  refine lv_iload_n hx hb dX12_placeAt_0 rfl (lv_at hl 1 rfl) ?_
  refine lv_bipush (v := 10) hx hb dX12_placeAt_1 (by decide) ?_
  refine lv_imul hx hb dX12_placeAt_3 ?_
  refine wk_top 0 (by decide) ?_
  refine lv_iload_n hx hb dX12_placeAt_4 rfl (lv_at hl 2 rfl) ?_
  refine lv_iadd hx hb dX12_placeAt_5 ?_
  refine lv_topi (fun x1 ex1 => ?_)
  have ex1 : x1.toInt = (0 : Int) + a2.toInt := by rw [ex1]; exact wk_add (show (-2147483648) ≤ (0 : Int) + a2.toInt by omega) (show (0 : Int) + a2.toInt ≤ 2147483647 by omega)
  refine lv_iconst (v := 2) hx hb dX12_placeAt_6 (by decide) ?_
  refine lv_imul hx hb dX12_placeAt_7 ?_
  refine lv_topi (fun x2 ex2 => ?_)
  have ex2 : x2.toInt = x1.toInt * (2 : Int) := by rw [ex2]; exact wk_mul (show (-2147483648) ≤ x1.toInt * (2 : Int) by omega) (show x1.toInt * (2 : Int) ≤ 2147483647 by omega)
  refine lv_iload_n hx hb dX12_placeAt_8 rfl (lv_at hl 3 rfl) ?_
  refine lv_if_eq (tgt := 16) hx hb dX12_placeAt_9 (by decide) (fun _ => ?_) (fun c => absurd (by decide) c)
  refine lv_iconst (v := 0) hx hb dX12_placeAt_16 (by decide) ?_
  refine lv_iadd hx hb dX12_placeAt_17 ?_
  refine lv_topi (fun x3 ex3 => ?_)
  have ex3 : x3.toInt = x2.toInt + (0 : Int) := by rw [ex3]; exact wk_add (show (-2147483648) ≤ x2.toInt + (0 : Int) by omega) (show x2.toInt + (0 : Int) ≤ 2147483647 by omega)
  exact tk_iret hC hr hlocks hK ⟨rfl, ⟨(show 0 ≤ x3.toInt by first | with_reducible assumption | omega), (show x3.toInt ≤ 18 by first | with_reducible assumption | omega)⟩⟩ hw dX12_placeAt_18
abbrev P_X12_could_1 (ad : Nat → Nat) (cy : Nat → ClassId) (B : Int) (qr : Nat) (s1 : Int) (a2 : Int32) (w0 : va_W) : va_W → Prop := fun u => TW ksM ad cy B qr 12 u ∧ FE ksM [(76, 0, 2600)] w0 u ∧ ((True))
set_option maxHeartbeats 4000000 in
set_option maxRecDepth 100000 in
theorem k_X12_could_1 (l : Launch) (adK adV : Nat → Nat) (dC : Nat → ClassId) (dI : Nat → Nat → Nat) (cy : Nat → ClassId) (ad : Nat → Nat) (B : Int) (hB0 : 100000 ≤ B) (hB1 : B ≤ 1073741824) (qr : Nat) (s1 : Int)  (a2 : Int32) (ra2 : 0 ≤ a2.toInt) (ta2 : a2.toInt ≤ 9) (w0 : va_W) (sz : Nat) (hT : TW ksM ad cy B qr 12 w0)  : Met l yX12_could (wu yX12_could cX12_could 6 none) ({ frames := 2, cells := 0, slots := 0, locals := 35 }) (va_Pc [.ref (ad 0), .int 0, .int a2, .int 0, .int 0] (wpreS adK adV dC dI cy sz w0)) (va_Qv (P_X12_could_1 ad cy B qr s1 a2 w0) (fun u : va_W => wpost dC dI cy (va_A w0 sz) u) (va_A w0 sz)) 0 0 (va_A w0 sz) := by
  refine Met.ofW (cc := cX12_could) (maxL := 6) (ret := none) (by decide) rfl ?_
  intro p e s m args below meth c s₁ Bk hml hv
  obtain ⟨rfl, ⟨hsz, hP, hK, hD0⟩, hE, hSR⟩ := hv
  have hx := Bk.exec
  have hb := Bk.bytes
  have hr := Bk.returns
  have hlocks := Bk.notSynchronized
  have hC : CallFix p m c cX12_could 6 s _ (wu yX12_could cX12_could 6 none) RX12 := ⟨hx, hb, hml, findClass_of_methodNamed Bk.named, atoms_spec (ws := (wu yX12_could cX12_could 6 none)) Bk.pre⟩
  subst hsz
  have hD := hD0.self (sz := s.heap.size)
  generalize hAe : va_A w0 s.heap.size = A at hD hE ⊢
  have hA : ∀ q : Nat, s.heap.size ≤ q → A q := fun q h => by rw [← hAe]; exact Or.inr h
  have hw : Wd dC dI A s.heap s.heap [] w0 := ⟨hP, hD, va_S.rf⟩
  have hF : FE ksM [(76, 0, 2600)] w0 w0 := FE.rf
  have hl := lv_entry ([.ref (ad 0), .int 0, .int a2, .int 0, .int 0]) (n := 6) (Nat.le_of_ble_eq_true rfl)
  rw [lg_entry_eq]
  generalize (lg_sl ([.ref (ad 0), .int 0, .int a2, .int 0, .int 0]) ++ List.replicate (6 - (lg_sl ([.ref (ad 0), .int 0, .int a2, .int 0, .int 0])).length) Slot.unset).toArray = ls at hl ⊢
  have hl : lv_has ls 6 [(0, .ref (ad 0)), (1, .int 0), (2, .int a2), (3, .int 0), (4, .int 0)] := hl
  generalize hloc : ([] : List Loc) = locs at hw ⊢
  have hinX12 : ∀ w ∈ u_ws RX12 TX12 42, w ∈ (wu yX12_could cX12_could 6 none) := fun _ h => List.mem_cons_of_mem _ (up_71 h)
  have J30 : ∀ (v30_5 : Int32) (H : Heap) (locs : List Loc) (ls : Array Slot) (w1 : va_W), 0 ≤ a2.toInt → a2.toInt ≤ 9 → 0 ≤ v30_5.toInt → v30_5.toInt ≤ 18 → Wd dC dI A s.heap H locs w1 → TW ksM ad cy B qr 12 w1 → FE ksM [(76, 0, 2600)] w0 w1 → lv_has ls 6 [(0, .ref (ad 0)), (1, .int 0), (2, .int a2), (3, .int 0), (4, .int 0), (5, .int v30_5)] → W p l e ({ frames := 2, cells := 0, slots := 0, locals := 35 }) s m (List.toArray [.ref (ad 0), .int 0, .int a2, .int 0, .int 0]) below meth c H locs 0 0 (MQ below (va_Qv (P_X12_could_1 ad cy B qr s1 a2 w0) (fun u : va_W => wpost dC dI cy A u) A) (List.toArray [.ref (ad 0), .int 0, .int a2, .int 0, .int 0]) s 0 0 A) (F0 m 30 ls []) := by
    intro v30_5 H locs ls w1 r2 t3 r4 t5 hw hT hF hl
    exact tk_vret hC hr hlocks hK ⟨hT, hF, trivial⟩ hw dX12_could_30
  refine lv_aload_n hx hb dX12_could_0 rfl (lv_at hl 0 rfl) ?_
  refine lv_iload_n hx hb dX12_could_1 rfl (lv_at hl 1 rfl) ?_
  refine lv_iload_n hx hb dX12_could_2 rfl (lv_at hl 2 rfl) ?_
  refine lv_iload_n hx hb dX12_could_3 rfl (lv_at hl 3 rfl) ?_
  refine tk_Vi hC hK hw hT hA hE hSR kM_at0 (by decide) rfl (k_X12_placeAt_1 l adK adV dC dI cy ad B hB0 (Int.le_trans hB1 (by decide)) qr s1   a2 (show 0 ≤ a2.toInt from ra2) (show a2.toInt ≤ 9 from ta2) w0 s.heap.size hT ) (cwV 3 hC.2.2.2.2 uV_RX12_435 rfl rfl rfl (by decide +kernel) ⟨Nat.le_of_ble_eq_true rfl, Nat.le_of_ble_eq_true rfl⟩) rfl hl.1 rfl (Nat.le_of_ble_eq_true rfl) dX12_could_4 (fun r6 w8 H locs hp7 hw => ?_)
  obtain ⟨rfl, hg12⟩ := hp7
  obtain ⟨g10, g11⟩ := hg12
  refine lv_istore (lv' := [(5, .int r6), (0, .ref (ad 0)), (1, .int 0), (2, .int a2), (3, .int 0), (4, .int 0)]) hx hb dX12_could_7 hl (by decide) rfl (fun ls hl => ?_)
  refine lv_iload hx hb dX12_could_9 (lv_at hl 5 rfl) ?_
  refine lv_aload_n hx hb dX12_could_11 rfl (lv_at hl 1 rfl) ?_
  refine tk_getA hC hK hw hT hinX12 kM_at0 (by decide) rfl 34 (by decide) (List.mem_cons_of_mem _ uw_7_7) rfl rfl dX12_could_12 ?_
  refine lv_iload hx hb dX12_could_15 (lv_at hl 0 rfl) ?_
  refine tk_iald hC hK hw hT kM_at17 rfl rfl (show 0 ≤ r6.toInt by first | with_reducible assumption | omega) (show r6.toInt < 2600 by first | with_reducible assumption | omega) dX12_could_17 (fun x13 c14 rx13 tx13 => ?_)
  refine lv_icmp_ge (tgt := 30) hx hb dX12_could_18 (by decide) (fun c15 => ?_) (fun c15 => ?_)
  · have c15 : x13.toInt ≤ (0 : Int) := wk_le.mp c15
    exact J30 r6 H locs ls w0 (show 0 ≤ a2.toInt from ra2) (show a2.toInt ≤ 9 from ta2) (show 0 ≤ r6.toInt by first | with_reducible assumption | omega) (show r6.toInt ≤ 18 by first | with_reducible assumption | omega)  hw hT hF  (lv_sub hl [1, 2, 3, 4, 5, 0] rfl)
  · have c15 : (0 : Int) < x13.toInt := wk_leF c15
    refine lv_aload_n hx hb dX12_could_21 rfl (lv_at hl 1 rfl) ?_
    refine tk_getA hC hK hw hT hinX12 kM_at0 (by decide) rfl 34 (by decide) (List.mem_cons_of_mem _ uw_7_7) rfl rfl dX12_could_22 ?_
    refine lv_iload hx hb dX12_could_25 (lv_at hl 0 rfl) ?_
    refine lv_iload hx hb dX12_could_27 (lv_at hl 5 rfl) ?_
    refine tk_iast hC hK hw hT kM_at17 (by decide) rfl rfl (show 0 ≤ r6.toInt by first | with_reducible assumption | omega) (show r6.toInt < 2600 by first | with_reducible assumption | omega) (by decide) (by decide) dX12_could_29 (fun H locs w16 hw hT k18 c17 => ?_)
    have hF := hF.put kM_at17 (inE_of (a := 0) (b := 2600) (by decide) (show 0 ≤ r6.toInt.toNat by omega) (show r6.toInt.toNat ≤ 2600 by omega)) k18
    exact J30 r6 H locs ls w16 (show 0 ≤ a2.toInt from ra2) (show a2.toInt ≤ 9 from ta2) (show 0 ≤ r6.toInt by first | with_reducible assumption | omega) (show r6.toInt ≤ 18 by first | with_reducible assumption | omega)  hw hT hF  (lv_sub hl [1, 2, 3, 4, 5, 0] rfl)
abbrev P_X12_placeAt_2 (ad : Nat → Nat) (cy : Nat → ClassId) (B : Int) (qr : Nat) (s1 : Int) (a2 : Int32) (w0 : va_W) : Int32 → va_W → Prop := fun r u => w0 = u ∧ ((1 ≤ r.toInt ∧ r.toInt ≤ 19))
set_option maxHeartbeats 4000000 in
set_option maxRecDepth 100000 in
theorem k_X12_placeAt_2 (l : Launch) (adK adV : Nat → Nat) (dC : Nat → ClassId) (dI : Nat → Nat → Nat) (cy : Nat → ClassId) (ad : Nat → Nat) (B : Int) (hB0 : 100000 ≤ B) (hB1 : B ≤ 1073741824) (qr : Nat) (s1 : Int)  (a2 : Int32) (ra2 : 0 ≤ a2.toInt) (ta2 : a2.toInt ≤ 9) (w0 : va_W) (sz : Nat) (hT : TW ksM ad cy B qr 12 w0)  : Met l yX12_placeAt (wu yX12_placeAt cX12_placeAt 4 (some .int)) ({ frames := 1, cells := 0, slots := 0, locals := 12 }) (va_Pc [.ref (ad 0), .int 0, .int a2, .int 1] (wpreS adK adV dC dI cy sz w0)) (va_Qi (P_X12_placeAt_2 ad cy B qr s1 a2 w0) (fun u : va_W => wpost dC dI cy (va_A w0 sz) u) (va_A w0 sz)) 0 0 (va_A w0 sz) := by
  refine Met.ofW (cc := cX12_placeAt) (maxL := 4) (ret := (some .int)) (by decide) rfl ?_
  intro p e s m args below meth c s₁ Bk hml hv
  obtain ⟨rfl, ⟨hsz, hP, hK, hD0⟩, hE, hSR⟩ := hv
  have hx := Bk.exec
  have hb := Bk.bytes
  have hr := Bk.returns
  have hlocks := Bk.notSynchronized
  have hC : CallFix p m c cX12_placeAt 4 s _ (wu yX12_placeAt cX12_placeAt 4 (some .int)) RX12 := ⟨hx, hb, hml, findClass_of_methodNamed Bk.named, atoms_spec (ws := (wu yX12_placeAt cX12_placeAt 4 (some .int))) Bk.pre⟩
  subst hsz
  have hD := hD0.self (sz := s.heap.size)
  generalize hAe : va_A w0 s.heap.size = A at hD hE ⊢
  have hA : ∀ q : Nat, s.heap.size ≤ q → A q := fun q h => by rw [← hAe]; exact Or.inr h
  have hw : Wd dC dI A s.heap s.heap [] w0 := ⟨hP, hD, va_S.rf⟩
  have hF : FE ksM ([] : List (Nat × Nat × Nat)) w0 w0 := FE.rf
  have hl := lv_entry ([.ref (ad 0), .int 0, .int a2, .int 1]) (n := 4) (Nat.le_of_ble_eq_true rfl)
  rw [lg_entry_eq]
  generalize (lg_sl ([.ref (ad 0), .int 0, .int a2, .int 1]) ++ List.replicate (4 - (lg_sl ([.ref (ad 0), .int 0, .int a2, .int 1])).length) Slot.unset).toArray = ls at hl ⊢
  have hl : lv_has ls 4 [(0, .ref (ad 0)), (1, .int 0), (2, .int a2), (3, .int 1)] := hl
  generalize hloc : ([] : List Loc) = locs at hw ⊢
  refine lv_iload_n hx hb dX12_placeAt_0 rfl (lv_at hl 1 rfl) ?_
  refine lv_bipush (v := 10) hx hb dX12_placeAt_1 (by decide) ?_
  refine lv_imul hx hb dX12_placeAt_3 ?_
  refine wk_top 0 (by decide) ?_
  refine lv_iload_n hx hb dX12_placeAt_4 rfl (lv_at hl 2 rfl) ?_
  refine lv_iadd hx hb dX12_placeAt_5 ?_
  refine lv_topi (fun x1 ex1 => ?_)
  have ex1 : x1.toInt = (0 : Int) + a2.toInt := by rw [ex1]; exact wk_add (show (-2147483648) ≤ (0 : Int) + a2.toInt by omega) (show (0 : Int) + a2.toInt ≤ 2147483647 by omega)
  refine lv_iconst (v := 2) hx hb dX12_placeAt_6 (by decide) ?_
  refine lv_imul hx hb dX12_placeAt_7 ?_
  refine lv_topi (fun x2 ex2 => ?_)
  have ex2 : x2.toInt = x1.toInt * (2 : Int) := by rw [ex2]; exact wk_mul (show (-2147483648) ≤ x1.toInt * (2 : Int) by omega) (show x1.toInt * (2 : Int) ≤ 2147483647 by omega)
  refine lv_iload_n hx hb dX12_placeAt_8 rfl (lv_at hl 3 rfl) ?_
  refine lv_if_eq (tgt := 16) hx hb dX12_placeAt_9 (by decide) (fun c => absurd c (by decide)) (fun _ => ?_)
  refine lv_iconst (v := 1) hx hb dX12_placeAt_12 (by decide) ?_
  refine lv_goto (tgt := 17) hx hb dX12_placeAt_13 (by decide) ?_
  refine lv_iadd hx hb dX12_placeAt_17 ?_
  refine lv_topi (fun x3 ex3 => ?_)
  have ex3 : x3.toInt = x2.toInt + (1 : Int) := by rw [ex3]; exact wk_add (show (-2147483648) ≤ x2.toInt + (1 : Int) by omega) (show x2.toInt + (1 : Int) ≤ 2147483647 by omega)
  exact tk_iret hC hr hlocks hK ⟨rfl, ⟨(show 1 ≤ x3.toInt by first | with_reducible assumption | omega), (show x3.toInt ≤ 19 by first | with_reducible assumption | omega)⟩⟩ hw dX12_placeAt_18
abbrev P_X12_could_2 (ad : Nat → Nat) (cy : Nat → ClassId) (B : Int) (qr : Nat) (s1 : Int) (a2 : Int32) (w0 : va_W) : va_W → Prop := fun u => TW ksM ad cy B qr 12 u ∧ FE ksM [(76, 0, 2600)] w0 u ∧ ((True))
set_option maxHeartbeats 4000000 in
set_option maxRecDepth 100000 in
theorem k_X12_could_2 (l : Launch) (adK adV : Nat → Nat) (dC : Nat → ClassId) (dI : Nat → Nat → Nat) (cy : Nat → ClassId) (ad : Nat → Nat) (B : Int) (hB0 : 100000 ≤ B) (hB1 : B ≤ 1073741824) (qr : Nat) (s1 : Int)  (a2 : Int32) (ra2 : 0 ≤ a2.toInt) (ta2 : a2.toInt ≤ 9) (w0 : va_W) (sz : Nat) (hT : TW ksM ad cy B qr 12 w0)  : Met l yX12_could (wu yX12_could cX12_could 6 none) ({ frames := 2, cells := 0, slots := 0, locals := 35 }) (va_Pc [.ref (ad 0), .int 0, .int a2, .int 1, .int 0] (wpreS adK adV dC dI cy sz w0)) (va_Qv (P_X12_could_2 ad cy B qr s1 a2 w0) (fun u : va_W => wpost dC dI cy (va_A w0 sz) u) (va_A w0 sz)) 0 0 (va_A w0 sz) := by
  refine Met.ofW (cc := cX12_could) (maxL := 6) (ret := none) (by decide) rfl ?_
  intro p e s m args below meth c s₁ Bk hml hv
  obtain ⟨rfl, ⟨hsz, hP, hK, hD0⟩, hE, hSR⟩ := hv
  have hx := Bk.exec
  have hb := Bk.bytes
  have hr := Bk.returns
  have hlocks := Bk.notSynchronized
  have hC : CallFix p m c cX12_could 6 s _ (wu yX12_could cX12_could 6 none) RX12 := ⟨hx, hb, hml, findClass_of_methodNamed Bk.named, atoms_spec (ws := (wu yX12_could cX12_could 6 none)) Bk.pre⟩
  subst hsz
  have hD := hD0.self (sz := s.heap.size)
  generalize hAe : va_A w0 s.heap.size = A at hD hE ⊢
  have hA : ∀ q : Nat, s.heap.size ≤ q → A q := fun q h => by rw [← hAe]; exact Or.inr h
  have hw : Wd dC dI A s.heap s.heap [] w0 := ⟨hP, hD, va_S.rf⟩
  have hF : FE ksM [(76, 0, 2600)] w0 w0 := FE.rf
  have hl := lv_entry ([.ref (ad 0), .int 0, .int a2, .int 1, .int 0]) (n := 6) (Nat.le_of_ble_eq_true rfl)
  rw [lg_entry_eq]
  generalize (lg_sl ([.ref (ad 0), .int 0, .int a2, .int 1, .int 0]) ++ List.replicate (6 - (lg_sl ([.ref (ad 0), .int 0, .int a2, .int 1, .int 0])).length) Slot.unset).toArray = ls at hl ⊢
  have hl : lv_has ls 6 [(0, .ref (ad 0)), (1, .int 0), (2, .int a2), (3, .int 1), (4, .int 0)] := hl
  generalize hloc : ([] : List Loc) = locs at hw ⊢
  have hinX12 : ∀ w ∈ u_ws RX12 TX12 42, w ∈ (wu yX12_could cX12_could 6 none) := fun _ h => List.mem_cons_of_mem _ (up_71 h)
  have J30 : ∀ (v30_5 : Int32) (H : Heap) (locs : List Loc) (ls : Array Slot) (w1 : va_W), 0 ≤ a2.toInt → a2.toInt ≤ 9 → 1 ≤ v30_5.toInt → v30_5.toInt ≤ 19 → Wd dC dI A s.heap H locs w1 → TW ksM ad cy B qr 12 w1 → FE ksM [(76, 0, 2600)] w0 w1 → lv_has ls 6 [(0, .ref (ad 0)), (1, .int 0), (2, .int a2), (3, .int 1), (4, .int 0), (5, .int v30_5)] → W p l e ({ frames := 2, cells := 0, slots := 0, locals := 35 }) s m (List.toArray [.ref (ad 0), .int 0, .int a2, .int 1, .int 0]) below meth c H locs 0 0 (MQ below (va_Qv (P_X12_could_2 ad cy B qr s1 a2 w0) (fun u : va_W => wpost dC dI cy A u) A) (List.toArray [.ref (ad 0), .int 0, .int a2, .int 1, .int 0]) s 0 0 A) (F0 m 30 ls []) := by
    intro v30_5 H locs ls w1 r2 t3 r4 t5 hw hT hF hl
    exact tk_vret hC hr hlocks hK ⟨hT, hF, trivial⟩ hw dX12_could_30
  refine lv_aload_n hx hb dX12_could_0 rfl (lv_at hl 0 rfl) ?_
  refine lv_iload_n hx hb dX12_could_1 rfl (lv_at hl 1 rfl) ?_
  refine lv_iload_n hx hb dX12_could_2 rfl (lv_at hl 2 rfl) ?_
  refine lv_iload_n hx hb dX12_could_3 rfl (lv_at hl 3 rfl) ?_
  refine tk_Vi hC hK hw hT hA hE hSR kM_at0 (by decide) rfl (k_X12_placeAt_2 l adK adV dC dI cy ad B hB0 (Int.le_trans hB1 (by decide)) qr s1   a2 (show 0 ≤ a2.toInt from ra2) (show a2.toInt ≤ 9 from ta2) w0 s.heap.size hT ) (cwV 3 hC.2.2.2.2 uV_RX12_435 rfl rfl rfl (by decide +kernel) ⟨Nat.le_of_ble_eq_true rfl, Nat.le_of_ble_eq_true rfl⟩) rfl hl.1 rfl (Nat.le_of_ble_eq_true rfl) dX12_could_4 (fun r6 w8 H locs hp7 hw => ?_)
  obtain ⟨rfl, hg12⟩ := hp7
  obtain ⟨g10, g11⟩ := hg12
  refine lv_istore (lv' := [(5, .int r6), (0, .ref (ad 0)), (1, .int 0), (2, .int a2), (3, .int 1), (4, .int 0)]) hx hb dX12_could_7 hl (by decide) rfl (fun ls hl => ?_)
  refine lv_iload hx hb dX12_could_9 (lv_at hl 5 rfl) ?_
  refine lv_aload_n hx hb dX12_could_11 rfl (lv_at hl 1 rfl) ?_
  refine tk_getA hC hK hw hT hinX12 kM_at0 (by decide) rfl 34 (by decide) (List.mem_cons_of_mem _ uw_7_7) rfl rfl dX12_could_12 ?_
  refine lv_iload hx hb dX12_could_15 (lv_at hl 0 rfl) ?_
  refine tk_iald hC hK hw hT kM_at17 rfl rfl (show 0 ≤ r6.toInt by first | with_reducible assumption | omega) (show r6.toInt < 2600 by first | with_reducible assumption | omega) dX12_could_17 (fun x13 c14 rx13 tx13 => ?_)
  refine lv_icmp_ge (tgt := 30) hx hb dX12_could_18 (by decide) (fun c15 => ?_) (fun c15 => ?_)
  · have c15 : x13.toInt ≤ (0 : Int) := wk_le.mp c15
    exact J30 r6 H locs ls w0 (show 0 ≤ a2.toInt from ra2) (show a2.toInt ≤ 9 from ta2) (show 1 ≤ r6.toInt by first | with_reducible assumption | omega) (show r6.toInt ≤ 19 by first | with_reducible assumption | omega)  hw hT hF  (lv_sub hl [1, 2, 3, 4, 5, 0] rfl)
  · have c15 : (0 : Int) < x13.toInt := wk_leF c15
    refine lv_aload_n hx hb dX12_could_21 rfl (lv_at hl 1 rfl) ?_
    refine tk_getA hC hK hw hT hinX12 kM_at0 (by decide) rfl 34 (by decide) (List.mem_cons_of_mem _ uw_7_7) rfl rfl dX12_could_22 ?_
    refine lv_iload hx hb dX12_could_25 (lv_at hl 0 rfl) ?_
    refine lv_iload hx hb dX12_could_27 (lv_at hl 5 rfl) ?_
    refine tk_iast hC hK hw hT kM_at17 (by decide) rfl rfl (show 0 ≤ r6.toInt by first | with_reducible assumption | omega) (show r6.toInt < 2600 by first | with_reducible assumption | omega) (by decide) (by decide) dX12_could_29 (fun H locs w16 hw hT k18 c17 => ?_)
    have hF := hF.put kM_at17 (inE_of (a := 0) (b := 2600) (by decide) (show 0 ≤ r6.toInt.toNat by omega) (show r6.toInt.toNat ≤ 2600 by omega)) k18
    exact J30 r6 H locs ls w16 (show 0 ≤ a2.toInt from ra2) (show a2.toInt ≤ 9 from ta2) (show 1 ≤ r6.toInt by first | with_reducible assumption | omega) (show r6.toInt ≤ 19 by first | with_reducible assumption | omega)  hw hT hF  (lv_sub hl [1, 2, 3, 4, 5, 0] rfl)
abbrev P_X12_in_17 (ad : Nat → Nat) (cy : Nat → ClassId) (B : Int) (qr : Nat) (s1 : Int) (a0 : Int64) (w0 : va_W) : Int32 → va_W → Prop := fun r u => w0 = u ∧ ((r = 0) ∨ (r = 1 ∧ 0 ≤ a0.toInt ∧ a0.toInt ≤ 120))
set_option maxHeartbeats 4000000 in
set_option maxRecDepth 100000 in
theorem k_X12_in_17 (l : Launch) (adK adV : Nat → Nat) (dC : Nat → ClassId) (dI : Nat → Nat → Nat) (cy : Nat → ClassId) (ad : Nat → Nat) (B : Int) (hB0 : 100000 ≤ B) (hB1 : B ≤ 1073741824) (qr : Nat) (s1 : Int)  (a0 : Int64) (ra0 : (-2147483648) ≤ a0.toInt) (ta0 : a0.toInt ≤ 2147483647) (w0 : va_W) (sz : Nat) (hT : TW ksM ad cy B qr 12 w0)  : Met l yX12_in (wu yX12_in cX12_in 6 (some .boolean)) ({ frames := 1, cells := 0, slots := 0, locals := 12 }) (va_Pc [.long a0, .long 0, .long 120] (wpreS adK adV dC dI cy sz w0)) (va_Qi (P_X12_in_17 ad cy B qr s1 a0 w0) (fun u : va_W => wpost dC dI cy (va_A w0 sz) u) (va_A w0 sz)) 0 0 (va_A w0 sz) := by
  refine Met.ofW (cc := cX12_in) (maxL := 6) (ret := (some .boolean)) (by decide) rfl ?_
  intro p e s m args below meth c s₁ Bk hml hv
  obtain ⟨rfl, ⟨hsz, hP, hK, hD0⟩, hE, hSR⟩ := hv
  have hx := Bk.exec
  have hb := Bk.bytes
  have hr := Bk.returns
  have hlocks := Bk.notSynchronized
  have hC : CallFix p m c cX12_in 6 s _ (wu yX12_in cX12_in 6 (some .boolean)) RX12 := ⟨hx, hb, hml, findClass_of_methodNamed Bk.named, atoms_spec (ws := (wu yX12_in cX12_in 6 (some .boolean))) Bk.pre⟩
  subst hsz
  have hD := hD0.self (sz := s.heap.size)
  generalize hAe : va_A w0 s.heap.size = A at hD hE ⊢
  have hA : ∀ q : Nat, s.heap.size ≤ q → A q := fun q h => by rw [← hAe]; exact Or.inr h
  have hw : Wd dC dI A s.heap s.heap [] w0 := ⟨hP, hD, va_S.rf⟩
  have hF : FE ksM ([] : List (Nat × Nat × Nat)) w0 w0 := FE.rf
  have hl := lv_entry ([.long a0, .long 0, .long 120]) (n := 6) (Nat.le_of_ble_eq_true rfl)
  rw [lg_entry_eq]
  generalize (lg_sl ([.long a0, .long 0, .long 120]) ++ List.replicate (6 - (lg_sl ([.long a0, .long 0, .long 120])).length) Slot.unset).toArray = ls at hl ⊢
  have hl : lv_has ls 6 [(0, .long a0), (2, .long 0), (4, .long 120)] := hl
  generalize hloc : ([] : List Loc) = locs at hw ⊢
  have J17 : ∀ (H : Heap) (locs : List Loc) (ls : Array Slot), (-2147483648) ≤ a0.toInt → a0.toInt ≤ 2147483647 → Wd dC dI A s.heap H locs w0 → lv_has ls 6 [(0, .long a0), (2, .long 0), (4, .long 120)] → W p l e ({ frames := 1, cells := 0, slots := 0, locals := 12 }) s m (List.toArray [.long a0, .long 0, .long 120]) below meth c H locs 0 0 (MQ below (va_Qi (P_X12_in_17 ad cy B qr s1 a0 w0) (fun u : va_W => wpost dC dI cy A u) A) (List.toArray [.long a0, .long 0, .long 120]) s 0 0 A) (F0 m 17 ls []) := by
    intro H locs ls r1 t2 hw hl
    refine lv_iconst (v := 0) hx hb dX12_in_17 (by decide) ?_
    exact tk_zret hC hr rfl hlocks hK ⟨rfl, (Or.inl rfl)⟩ hw dX12_in_18
  refine lv_lload_n hx hb dX12_in_0 rfl (lv_at hl 0 rfl) ?_
  refine lv_lload_n hx hb dX12_in_1 rfl (lv_at hl 1 rfl) ?_
  refine W.lcmp hx hb dX12_in_2 ?_
  refine lv_if_lt (tgt := 17) hx hb dX12_in_3 (by decide) (fun c3 => ?_) (fun c3 => ?_)
  · have c3 : a0.toInt < (0 : Int) := wk_cltT c3
    exact J17  s.heap locs ls  (show (-2147483648) ≤ a0.toInt from ra0) (show a0.toInt ≤ 2147483647 from ta0)  hw   (lv_sub hl [0, 1, 2] rfl)
  · have c3 : (0 : Int) ≤ a0.toInt := wk_cltF c3
    refine lv_lload_n hx hb dX12_in_6 rfl (lv_at hl 0 rfl) ?_
    refine lv_lload hx hb dX12_in_7 (lv_at hl 2 rfl) ?_
    refine W.lcmp hx hb dX12_in_9 ?_
    refine lv_if_gt (tgt := 17) hx hb dX12_in_10 (by decide) (fun c4 => ?_) (fun c4 => ?_)
    · have c4 : (120 : Int) < a0.toInt := wk_cgtT c4
      exact J17  s.heap locs ls  (show (-2147483648) ≤ a0.toInt from ra0) (show a0.toInt ≤ 2147483647 from ta0)  hw   (lv_sub hl [0, 1, 2] rfl)
    · have c4 : a0.toInt ≤ (120 : Int) := wk_cgtF c4
      refine lv_iconst (v := 1) hx hb dX12_in_13 (by decide) ?_
      refine lv_goto (tgt := 18) hx hb dX12_in_14 (by decide) ?_
      exact tk_zret hC hr rfl hlocks hK ⟨rfl, (Or.inr ⟨rfl, (show 0 ≤ a0.toInt from c3), (show a0.toInt ≤ 120 from c4)⟩)⟩ hw dX12_in_18
abbrev P_X12_placeAt_3 (ad : Nat → Nat) (cy : Nat → ClassId) (B : Int) (qr : Nat) (s1 : Int) (a1 : Int32) (a2 : Int32) (w0 : va_W) : Int32 → va_W → Prop := fun r u => w0 = u ∧ ((0 ≤ r.toInt ∧ r.toInt ≤ 2418))
set_option maxHeartbeats 4000000 in
set_option maxRecDepth 100000 in
theorem k_X12_placeAt_3 (l : Launch) (adK adV : Nat → Nat) (dC : Nat → ClassId) (dI : Nat → Nat → Nat) (cy : Nat → ClassId) (ad : Nat → Nat) (B : Int) (hB0 : 100000 ≤ B) (hB1 : B ≤ 1073741824) (qr : Nat) (s1 : Int)  (a1 : Int32) (ra1 : 0 ≤ a1.toInt) (ta1 : a1.toInt ≤ 120) (a2 : Int32) (ra2 : 0 ≤ a2.toInt) (ta2 : a2.toInt ≤ 9) (w0 : va_W) (sz : Nat) (hT : TW ksM ad cy B qr 12 w0)  : Met l yX12_placeAt (wu yX12_placeAt cX12_placeAt 4 (some .int)) ({ frames := 1, cells := 0, slots := 0, locals := 12 }) (va_Pc [.ref (ad 0), .int a1, .int a2, .int 0] (wpreS adK adV dC dI cy sz w0)) (va_Qi (P_X12_placeAt_3 ad cy B qr s1 a1 a2 w0) (fun u : va_W => wpost dC dI cy (va_A w0 sz) u) (va_A w0 sz)) 0 0 (va_A w0 sz) := by
  refine Met.ofW (cc := cX12_placeAt) (maxL := 4) (ret := (some .int)) (by decide) rfl ?_
  intro p e s m args below meth c s₁ Bk hml hv
  obtain ⟨rfl, ⟨hsz, hP, hK, hD0⟩, hE, hSR⟩ := hv
  have hx := Bk.exec
  have hb := Bk.bytes
  have hr := Bk.returns
  have hlocks := Bk.notSynchronized
  have hC : CallFix p m c cX12_placeAt 4 s _ (wu yX12_placeAt cX12_placeAt 4 (some .int)) RX12 := ⟨hx, hb, hml, findClass_of_methodNamed Bk.named, atoms_spec (ws := (wu yX12_placeAt cX12_placeAt 4 (some .int))) Bk.pre⟩
  subst hsz
  have hD := hD0.self (sz := s.heap.size)
  generalize hAe : va_A w0 s.heap.size = A at hD hE ⊢
  have hA : ∀ q : Nat, s.heap.size ≤ q → A q := fun q h => by rw [← hAe]; exact Or.inr h
  have hw : Wd dC dI A s.heap s.heap [] w0 := ⟨hP, hD, va_S.rf⟩
  have hF : FE ksM ([] : List (Nat × Nat × Nat)) w0 w0 := FE.rf
  have hl := lv_entry ([.ref (ad 0), .int a1, .int a2, .int 0]) (n := 4) (Nat.le_of_ble_eq_true rfl)
  rw [lg_entry_eq]
  generalize (lg_sl ([.ref (ad 0), .int a1, .int a2, .int 0]) ++ List.replicate (4 - (lg_sl ([.ref (ad 0), .int a1, .int a2, .int 0])).length) Slot.unset).toArray = ls at hl ⊢
  have hl : lv_has ls 4 [(0, .ref (ad 0)), (1, .int a1), (2, .int a2), (3, .int 0)] := hl
  generalize hloc : ([] : List Loc) = locs at hw ⊢
  refine lv_iload_n hx hb dX12_placeAt_0 rfl (lv_at hl 1 rfl) ?_
  refine lv_bipush (v := 10) hx hb dX12_placeAt_1 (by decide) ?_
  refine lv_imul hx hb dX12_placeAt_3 ?_
  refine lv_topi (fun x1 ex1 => ?_)
  have ex1 : x1.toInt = a1.toInt * (10 : Int) := by rw [ex1]; exact wk_mul (show (-2147483648) ≤ a1.toInt * (10 : Int) by omega) (show a1.toInt * (10 : Int) ≤ 2147483647 by omega)
  refine lv_iload_n hx hb dX12_placeAt_4 rfl (lv_at hl 2 rfl) ?_
  refine lv_iadd hx hb dX12_placeAt_5 ?_
  refine lv_topi (fun x2 ex2 => ?_)
  have ex2 : x2.toInt = x1.toInt + a2.toInt := by rw [ex2]; exact wk_add (show (-2147483648) ≤ x1.toInt + a2.toInt by omega) (show x1.toInt + a2.toInt ≤ 2147483647 by omega)
  refine lv_iconst (v := 2) hx hb dX12_placeAt_6 (by decide) ?_
  refine lv_imul hx hb dX12_placeAt_7 ?_
  refine lv_topi (fun x3 ex3 => ?_)
  have ex3 : x3.toInt = x2.toInt * (2 : Int) := by rw [ex3]; exact wk_mul (show (-2147483648) ≤ x2.toInt * (2 : Int) by omega) (show x2.toInt * (2 : Int) ≤ 2147483647 by omega)
  refine lv_iload_n hx hb dX12_placeAt_8 rfl (lv_at hl 3 rfl) ?_
  refine lv_if_eq (tgt := 16) hx hb dX12_placeAt_9 (by decide) (fun _ => ?_) (fun c => absurd (by decide) c)
  refine lv_iconst (v := 0) hx hb dX12_placeAt_16 (by decide) ?_
  refine lv_iadd hx hb dX12_placeAt_17 ?_
  refine lv_topi (fun x4 ex4 => ?_)
  have ex4 : x4.toInt = x3.toInt + (0 : Int) := by rw [ex4]; exact wk_add (show (-2147483648) ≤ x3.toInt + (0 : Int) by omega) (show x3.toInt + (0 : Int) ≤ 2147483647 by omega)
  exact tk_iret hC hr hlocks hK ⟨rfl, ⟨(show 0 ≤ x4.toInt by first | with_reducible assumption | omega), (show x4.toInt ≤ 2418 by first | with_reducible assumption | omega)⟩⟩ hw dX12_placeAt_18
abbrev P_X12_could_3 (ad : Nat → Nat) (cy : Nat → ClassId) (B : Int) (qr : Nat) (s1 : Int) (a1 : Int32) (a2 : Int32) (a4 : Int32) (w0 : va_W) : va_W → Prop := fun u => TW ksM ad cy B qr 12 u ∧ FE ksM [(76, 0, 2600)] w0 u ∧ ((True))
set_option maxHeartbeats 4000000 in
set_option maxRecDepth 100000 in
theorem k_X12_could_3 (l : Launch) (adK adV : Nat → Nat) (dC : Nat → ClassId) (dI : Nat → Nat → Nat) (cy : Nat → ClassId) (ad : Nat → Nat) (B : Int) (hB0 : 100000 ≤ B) (hB1 : B ≤ 1073741824) (qr : Nat) (s1 : Int)  (a1 : Int32) (ra1 : 0 ≤ a1.toInt) (ta1 : a1.toInt ≤ 120) (a2 : Int32) (ra2 : 0 ≤ a2.toInt) (ta2 : a2.toInt ≤ 9) (a4 : Int32) (w0 : va_W) (sz : Nat) (hT : TW ksM ad cy B qr 12 w0)  : Met l yX12_could (wu yX12_could cX12_could 6 none) ({ frames := 2, cells := 0, slots := 0, locals := 35 }) (va_Pc [.ref (ad 0), .int a1, .int a2, .int 0, .int a4] (wpreS adK adV dC dI cy sz w0)) (va_Qv (P_X12_could_3 ad cy B qr s1 a1 a2 a4 w0) (fun u : va_W => wpost dC dI cy (va_A w0 sz) u) (va_A w0 sz)) 0 0 (va_A w0 sz) := by
  refine Met.ofW (cc := cX12_could) (maxL := 6) (ret := none) (by decide) rfl ?_
  intro p e s m args below meth c s₁ Bk hml hv
  obtain ⟨rfl, ⟨hsz, hP, hK, hD0⟩, hE, hSR⟩ := hv
  have hx := Bk.exec
  have hb := Bk.bytes
  have hr := Bk.returns
  have hlocks := Bk.notSynchronized
  have hC : CallFix p m c cX12_could 6 s _ (wu yX12_could cX12_could 6 none) RX12 := ⟨hx, hb, hml, findClass_of_methodNamed Bk.named, atoms_spec (ws := (wu yX12_could cX12_could 6 none)) Bk.pre⟩
  subst hsz
  have hD := hD0.self (sz := s.heap.size)
  generalize hAe : va_A w0 s.heap.size = A at hD hE ⊢
  have hA : ∀ q : Nat, s.heap.size ≤ q → A q := fun q h => by rw [← hAe]; exact Or.inr h
  have hw : Wd dC dI A s.heap s.heap [] w0 := ⟨hP, hD, va_S.rf⟩
  have hF : FE ksM [(76, 0, 2600)] w0 w0 := FE.rf
  have hl := lv_entry ([.ref (ad 0), .int a1, .int a2, .int 0, .int a4]) (n := 6) (Nat.le_of_ble_eq_true rfl)
  rw [lg_entry_eq]
  generalize (lg_sl ([.ref (ad 0), .int a1, .int a2, .int 0, .int a4]) ++ List.replicate (6 - (lg_sl ([.ref (ad 0), .int a1, .int a2, .int 0, .int a4])).length) Slot.unset).toArray = ls at hl ⊢
  have hl : lv_has ls 6 [(0, .ref (ad 0)), (1, .int a1), (2, .int a2), (3, .int 0), (4, .int a4)] := hl
  generalize hloc : ([] : List Loc) = locs at hw ⊢
  have hinX12 : ∀ w ∈ u_ws RX12 TX12 42, w ∈ (wu yX12_could cX12_could 6 none) := fun _ h => List.mem_cons_of_mem _ (up_71 h)
  have J30 : ∀ (v30_5 : Int32) (H : Heap) (locs : List Loc) (ls : Array Slot) (w1 : va_W), 0 ≤ a1.toInt → a1.toInt ≤ 120 → 0 ≤ a2.toInt → a2.toInt ≤ 9 → 0 ≤ v30_5.toInt → v30_5.toInt ≤ 2418 → Wd dC dI A s.heap H locs w1 → TW ksM ad cy B qr 12 w1 → FE ksM [(76, 0, 2600)] w0 w1 → lv_has ls 6 [(0, .ref (ad 0)), (1, .int a1), (2, .int a2), (3, .int 0), (4, .int a4), (5, .int v30_5)] → W p l e ({ frames := 2, cells := 0, slots := 0, locals := 35 }) s m (List.toArray [.ref (ad 0), .int a1, .int a2, .int 0, .int a4]) below meth c H locs 0 0 (MQ below (va_Qv (P_X12_could_3 ad cy B qr s1 a1 a2 a4 w0) (fun u : va_W => wpost dC dI cy A u) A) (List.toArray [.ref (ad 0), .int a1, .int a2, .int 0, .int a4]) s 0 0 A) (F0 m 30 ls []) := by
    intro v30_5 H locs ls w1 r2 t3 r4 t5 r6 t7 hw hT hF hl
    exact tk_vret hC hr hlocks hK ⟨hT, hF, trivial⟩ hw dX12_could_30
  refine lv_aload_n hx hb dX12_could_0 rfl (lv_at hl 0 rfl) ?_
  refine lv_iload_n hx hb dX12_could_1 rfl (lv_at hl 1 rfl) ?_
  refine lv_iload_n hx hb dX12_could_2 rfl (lv_at hl 2 rfl) ?_
  refine lv_iload_n hx hb dX12_could_3 rfl (lv_at hl 3 rfl) ?_
  refine tk_Vi hC hK hw hT hA hE hSR kM_at0 (by decide) rfl (k_X12_placeAt_3 l adK adV dC dI cy ad B hB0 (Int.le_trans hB1 (by decide)) qr s1   a1 (show 0 ≤ a1.toInt from ra1) (show a1.toInt ≤ 120 from ta1) a2 (show 0 ≤ a2.toInt from ra2) (show a2.toInt ≤ 9 from ta2) w0 s.heap.size hT ) (cwV 3 hC.2.2.2.2 uV_RX12_435 rfl rfl rfl (by decide +kernel) ⟨Nat.le_of_ble_eq_true rfl, Nat.le_of_ble_eq_true rfl⟩) rfl hl.1 rfl (Nat.le_of_ble_eq_true rfl) dX12_could_4 (fun r8 w10 H locs hp9 hw => ?_)
  obtain ⟨rfl, hg14⟩ := hp9
  obtain ⟨g12, g13⟩ := hg14
  refine lv_istore (lv' := [(5, .int r8), (0, .ref (ad 0)), (1, .int a1), (2, .int a2), (3, .int 0), (4, .int a4)]) hx hb dX12_could_7 hl (by decide) rfl (fun ls hl => ?_)
  refine lv_iload hx hb dX12_could_9 (lv_at hl 5 rfl) ?_
  refine lv_aload_n hx hb dX12_could_11 rfl (lv_at hl 1 rfl) ?_
  refine tk_getA hC hK hw hT hinX12 kM_at0 (by decide) rfl 34 (by decide) (List.mem_cons_of_mem _ uw_7_7) rfl rfl dX12_could_12 ?_
  refine lv_iload hx hb dX12_could_15 (lv_at hl 0 rfl) ?_
  refine tk_iald hC hK hw hT kM_at17 rfl rfl (show 0 ≤ r8.toInt by first | with_reducible assumption | omega) (show r8.toInt < 2600 by first | with_reducible assumption | omega) dX12_could_17 (fun x15 c16 rx15 tx15 => ?_)
  refine lv_icmp_ge (tgt := 30) hx hb dX12_could_18 (by decide) (fun c17 => ?_) (fun c17 => ?_)
  · have c17 : x15.toInt ≤ a4.toInt := wk_le.mp c17
    exact J30 r8 H locs ls w0 (show 0 ≤ a1.toInt from ra1) (show a1.toInt ≤ 120 from ta1) (show 0 ≤ a2.toInt from ra2) (show a2.toInt ≤ 9 from ta2) (show 0 ≤ r8.toInt by first | with_reducible assumption | omega) (show r8.toInt ≤ 2418 by first | with_reducible assumption | omega)  hw hT hF  (lv_sub hl [1, 2, 3, 4, 5, 0] rfl)
  · have c17 : a4.toInt < x15.toInt := wk_leF c17
    refine lv_aload_n hx hb dX12_could_21 rfl (lv_at hl 1 rfl) ?_
    refine tk_getA hC hK hw hT hinX12 kM_at0 (by decide) rfl 34 (by decide) (List.mem_cons_of_mem _ uw_7_7) rfl rfl dX12_could_22 ?_
    refine lv_iload hx hb dX12_could_25 (lv_at hl 0 rfl) ?_
    refine lv_iload hx hb dX12_could_27 (lv_at hl 5 rfl) ?_
    refine tk_iast hC hK hw hT kM_at17 (by decide) rfl rfl (show 0 ≤ r8.toInt by first | with_reducible assumption | omega) (show r8.toInt < 2600 by first | with_reducible assumption | omega) (wk_i32 a4).1 (wk_i32 a4).2 dX12_could_29 (fun H locs w18 hw hT k20 c19 => ?_)
    have hF := hF.put kM_at17 (inE_of (a := 0) (b := 2600) (by decide) (show 0 ≤ r8.toInt.toNat by omega) (show r8.toInt.toNat ≤ 2600 by omega)) k20
    exact J30 r8 H locs ls w18 (show 0 ≤ a1.toInt from ra1) (show a1.toInt ≤ 120 from ta1) (show 0 ≤ a2.toInt from ra2) (show a2.toInt ≤ 9 from ta2) (show 0 ≤ r8.toInt by first | with_reducible assumption | omega) (show r8.toInt ≤ 2418 by first | with_reducible assumption | omega)  hw hT hF  (lv_sub hl [1, 2, 3, 4, 5, 0] rfl)
abbrev P_X12_placeAt_4 (ad : Nat → Nat) (cy : Nat → ClassId) (B : Int) (qr : Nat) (s1 : Int) (a1 : Int32) (a2 : Int32) (w0 : va_W) : Int32 → va_W → Prop := fun r u => w0 = u ∧ ((20 ≤ r.toInt ∧ r.toInt ≤ 2438))
set_option maxHeartbeats 4000000 in
set_option maxRecDepth 100000 in
theorem k_X12_placeAt_4 (l : Launch) (adK adV : Nat → Nat) (dC : Nat → ClassId) (dI : Nat → Nat → Nat) (cy : Nat → ClassId) (ad : Nat → Nat) (B : Int) (hB0 : 100000 ≤ B) (hB1 : B ≤ 1073741824) (qr : Nat) (s1 : Int)  (a1 : Int32) (ra1 : 1 ≤ a1.toInt) (ta1 : a1.toInt ≤ 121) (a2 : Int32) (ra2 : 0 ≤ a2.toInt) (ta2 : a2.toInt ≤ 9) (w0 : va_W) (sz : Nat) (hT : TW ksM ad cy B qr 12 w0)  : Met l yX12_placeAt (wu yX12_placeAt cX12_placeAt 4 (some .int)) ({ frames := 1, cells := 0, slots := 0, locals := 12 }) (va_Pc [.ref (ad 0), .int a1, .int a2, .int 0] (wpreS adK adV dC dI cy sz w0)) (va_Qi (P_X12_placeAt_4 ad cy B qr s1 a1 a2 w0) (fun u : va_W => wpost dC dI cy (va_A w0 sz) u) (va_A w0 sz)) 0 0 (va_A w0 sz) := by
  refine Met.ofW (cc := cX12_placeAt) (maxL := 4) (ret := (some .int)) (by decide) rfl ?_
  intro p e s m args below meth c s₁ Bk hml hv
  obtain ⟨rfl, ⟨hsz, hP, hK, hD0⟩, hE, hSR⟩ := hv
  have hx := Bk.exec
  have hb := Bk.bytes
  have hr := Bk.returns
  have hlocks := Bk.notSynchronized
  have hC : CallFix p m c cX12_placeAt 4 s _ (wu yX12_placeAt cX12_placeAt 4 (some .int)) RX12 := ⟨hx, hb, hml, findClass_of_methodNamed Bk.named, atoms_spec (ws := (wu yX12_placeAt cX12_placeAt 4 (some .int))) Bk.pre⟩
  subst hsz
  have hD := hD0.self (sz := s.heap.size)
  generalize hAe : va_A w0 s.heap.size = A at hD hE ⊢
  have hA : ∀ q : Nat, s.heap.size ≤ q → A q := fun q h => by rw [← hAe]; exact Or.inr h
  have hw : Wd dC dI A s.heap s.heap [] w0 := ⟨hP, hD, va_S.rf⟩
  have hF : FE ksM ([] : List (Nat × Nat × Nat)) w0 w0 := FE.rf
  have hl := lv_entry ([.ref (ad 0), .int a1, .int a2, .int 0]) (n := 4) (Nat.le_of_ble_eq_true rfl)
  rw [lg_entry_eq]
  generalize (lg_sl ([.ref (ad 0), .int a1, .int a2, .int 0]) ++ List.replicate (4 - (lg_sl ([.ref (ad 0), .int a1, .int a2, .int 0])).length) Slot.unset).toArray = ls at hl ⊢
  have hl : lv_has ls 4 [(0, .ref (ad 0)), (1, .int a1), (2, .int a2), (3, .int 0)] := hl
  generalize hloc : ([] : List Loc) = locs at hw ⊢
  refine lv_iload_n hx hb dX12_placeAt_0 rfl (lv_at hl 1 rfl) ?_
  refine lv_bipush (v := 10) hx hb dX12_placeAt_1 (by decide) ?_
  refine lv_imul hx hb dX12_placeAt_3 ?_
  refine lv_topi (fun x1 ex1 => ?_)
  have ex1 : x1.toInt = a1.toInt * (10 : Int) := by rw [ex1]; exact wk_mul (show (-2147483648) ≤ a1.toInt * (10 : Int) by omega) (show a1.toInt * (10 : Int) ≤ 2147483647 by omega)
  refine lv_iload_n hx hb dX12_placeAt_4 rfl (lv_at hl 2 rfl) ?_
  refine lv_iadd hx hb dX12_placeAt_5 ?_
  refine lv_topi (fun x2 ex2 => ?_)
  have ex2 : x2.toInt = x1.toInt + a2.toInt := by rw [ex2]; exact wk_add (show (-2147483648) ≤ x1.toInt + a2.toInt by omega) (show x1.toInt + a2.toInt ≤ 2147483647 by omega)
  refine lv_iconst (v := 2) hx hb dX12_placeAt_6 (by decide) ?_
  refine lv_imul hx hb dX12_placeAt_7 ?_
  refine lv_topi (fun x3 ex3 => ?_)
  have ex3 : x3.toInt = x2.toInt * (2 : Int) := by rw [ex3]; exact wk_mul (show (-2147483648) ≤ x2.toInt * (2 : Int) by omega) (show x2.toInt * (2 : Int) ≤ 2147483647 by omega)
  refine lv_iload_n hx hb dX12_placeAt_8 rfl (lv_at hl 3 rfl) ?_
  refine lv_if_eq (tgt := 16) hx hb dX12_placeAt_9 (by decide) (fun _ => ?_) (fun c => absurd (by decide) c)
  refine lv_iconst (v := 0) hx hb dX12_placeAt_16 (by decide) ?_
  refine lv_iadd hx hb dX12_placeAt_17 ?_
  refine lv_topi (fun x4 ex4 => ?_)
  have ex4 : x4.toInt = x3.toInt + (0 : Int) := by rw [ex4]; exact wk_add (show (-2147483648) ≤ x3.toInt + (0 : Int) by omega) (show x3.toInt + (0 : Int) ≤ 2147483647 by omega)
  exact tk_iret hC hr hlocks hK ⟨rfl, ⟨(show 20 ≤ x4.toInt by first | with_reducible assumption | omega), (show x4.toInt ≤ 2438 by first | with_reducible assumption | omega)⟩⟩ hw dX12_placeAt_18
abbrev P_X12_could_4 (ad : Nat → Nat) (cy : Nat → ClassId) (B : Int) (qr : Nat) (s1 : Int) (a1 : Int32) (a2 : Int32) (a4 : Int32) (w0 : va_W) : va_W → Prop := fun u => TW ksM ad cy B qr 12 u ∧ FE ksM [(76, 0, 2600)] w0 u ∧ ((True))
set_option maxHeartbeats 4000000 in
set_option maxRecDepth 100000 in
theorem k_X12_could_4 (l : Launch) (adK adV : Nat → Nat) (dC : Nat → ClassId) (dI : Nat → Nat → Nat) (cy : Nat → ClassId) (ad : Nat → Nat) (B : Int) (hB0 : 100000 ≤ B) (hB1 : B ≤ 1073741824) (qr : Nat) (s1 : Int)  (a1 : Int32) (ra1 : 1 ≤ a1.toInt) (ta1 : a1.toInt ≤ 121) (a2 : Int32) (ra2 : 0 ≤ a2.toInt) (ta2 : a2.toInt ≤ 9) (a4 : Int32) (w0 : va_W) (sz : Nat) (hT : TW ksM ad cy B qr 12 w0)  : Met l yX12_could (wu yX12_could cX12_could 6 none) ({ frames := 2, cells := 0, slots := 0, locals := 35 }) (va_Pc [.ref (ad 0), .int a1, .int a2, .int 0, .int a4] (wpreS adK adV dC dI cy sz w0)) (va_Qv (P_X12_could_4 ad cy B qr s1 a1 a2 a4 w0) (fun u : va_W => wpost dC dI cy (va_A w0 sz) u) (va_A w0 sz)) 0 0 (va_A w0 sz) := by
  refine Met.ofW (cc := cX12_could) (maxL := 6) (ret := none) (by decide) rfl ?_
  intro p e s m args below meth c s₁ Bk hml hv
  obtain ⟨rfl, ⟨hsz, hP, hK, hD0⟩, hE, hSR⟩ := hv
  have hx := Bk.exec
  have hb := Bk.bytes
  have hr := Bk.returns
  have hlocks := Bk.notSynchronized
  have hC : CallFix p m c cX12_could 6 s _ (wu yX12_could cX12_could 6 none) RX12 := ⟨hx, hb, hml, findClass_of_methodNamed Bk.named, atoms_spec (ws := (wu yX12_could cX12_could 6 none)) Bk.pre⟩
  subst hsz
  have hD := hD0.self (sz := s.heap.size)
  generalize hAe : va_A w0 s.heap.size = A at hD hE ⊢
  have hA : ∀ q : Nat, s.heap.size ≤ q → A q := fun q h => by rw [← hAe]; exact Or.inr h
  have hw : Wd dC dI A s.heap s.heap [] w0 := ⟨hP, hD, va_S.rf⟩
  have hF : FE ksM [(76, 0, 2600)] w0 w0 := FE.rf
  have hl := lv_entry ([.ref (ad 0), .int a1, .int a2, .int 0, .int a4]) (n := 6) (Nat.le_of_ble_eq_true rfl)
  rw [lg_entry_eq]
  generalize (lg_sl ([.ref (ad 0), .int a1, .int a2, .int 0, .int a4]) ++ List.replicate (6 - (lg_sl ([.ref (ad 0), .int a1, .int a2, .int 0, .int a4])).length) Slot.unset).toArray = ls at hl ⊢
  have hl : lv_has ls 6 [(0, .ref (ad 0)), (1, .int a1), (2, .int a2), (3, .int 0), (4, .int a4)] := hl
  generalize hloc : ([] : List Loc) = locs at hw ⊢
  have hinX12 : ∀ w ∈ u_ws RX12 TX12 42, w ∈ (wu yX12_could cX12_could 6 none) := fun _ h => List.mem_cons_of_mem _ (up_71 h)
  have J30 : ∀ (v30_5 : Int32) (H : Heap) (locs : List Loc) (ls : Array Slot) (w1 : va_W), 1 ≤ a1.toInt → a1.toInt ≤ 121 → 0 ≤ a2.toInt → a2.toInt ≤ 9 → 20 ≤ v30_5.toInt → v30_5.toInt ≤ 2438 → Wd dC dI A s.heap H locs w1 → TW ksM ad cy B qr 12 w1 → FE ksM [(76, 0, 2600)] w0 w1 → lv_has ls 6 [(0, .ref (ad 0)), (1, .int a1), (2, .int a2), (3, .int 0), (4, .int a4), (5, .int v30_5)] → W p l e ({ frames := 2, cells := 0, slots := 0, locals := 35 }) s m (List.toArray [.ref (ad 0), .int a1, .int a2, .int 0, .int a4]) below meth c H locs 0 0 (MQ below (va_Qv (P_X12_could_4 ad cy B qr s1 a1 a2 a4 w0) (fun u : va_W => wpost dC dI cy A u) A) (List.toArray [.ref (ad 0), .int a1, .int a2, .int 0, .int a4]) s 0 0 A) (F0 m 30 ls []) := by
    intro v30_5 H locs ls w1 r2 t3 r4 t5 r6 t7 hw hT hF hl
    exact tk_vret hC hr hlocks hK ⟨hT, hF, trivial⟩ hw dX12_could_30
  refine lv_aload_n hx hb dX12_could_0 rfl (lv_at hl 0 rfl) ?_
  refine lv_iload_n hx hb dX12_could_1 rfl (lv_at hl 1 rfl) ?_
  refine lv_iload_n hx hb dX12_could_2 rfl (lv_at hl 2 rfl) ?_
  refine lv_iload_n hx hb dX12_could_3 rfl (lv_at hl 3 rfl) ?_
  refine tk_Vi hC hK hw hT hA hE hSR kM_at0 (by decide) rfl (k_X12_placeAt_4 l adK adV dC dI cy ad B hB0 (Int.le_trans hB1 (by decide)) qr s1   a1 (show 1 ≤ a1.toInt from ra1) (show a1.toInt ≤ 121 from ta1) a2 (show 0 ≤ a2.toInt from ra2) (show a2.toInt ≤ 9 from ta2) w0 s.heap.size hT ) (cwV 3 hC.2.2.2.2 uV_RX12_435 rfl rfl rfl (by decide +kernel) ⟨Nat.le_of_ble_eq_true rfl, Nat.le_of_ble_eq_true rfl⟩) rfl hl.1 rfl (Nat.le_of_ble_eq_true rfl) dX12_could_4 (fun r8 w10 H locs hp9 hw => ?_)
  obtain ⟨rfl, hg14⟩ := hp9
  obtain ⟨g12, g13⟩ := hg14
  refine lv_istore (lv' := [(5, .int r8), (0, .ref (ad 0)), (1, .int a1), (2, .int a2), (3, .int 0), (4, .int a4)]) hx hb dX12_could_7 hl (by decide) rfl (fun ls hl => ?_)
  refine lv_iload hx hb dX12_could_9 (lv_at hl 5 rfl) ?_
  refine lv_aload_n hx hb dX12_could_11 rfl (lv_at hl 1 rfl) ?_
  refine tk_getA hC hK hw hT hinX12 kM_at0 (by decide) rfl 34 (by decide) (List.mem_cons_of_mem _ uw_7_7) rfl rfl dX12_could_12 ?_
  refine lv_iload hx hb dX12_could_15 (lv_at hl 0 rfl) ?_
  refine tk_iald hC hK hw hT kM_at17 rfl rfl (show 0 ≤ r8.toInt by first | with_reducible assumption | omega) (show r8.toInt < 2600 by first | with_reducible assumption | omega) dX12_could_17 (fun x15 c16 rx15 tx15 => ?_)
  refine lv_icmp_ge (tgt := 30) hx hb dX12_could_18 (by decide) (fun c17 => ?_) (fun c17 => ?_)
  · have c17 : x15.toInt ≤ a4.toInt := wk_le.mp c17
    exact J30 r8 H locs ls w0 (show 1 ≤ a1.toInt from ra1) (show a1.toInt ≤ 121 from ta1) (show 0 ≤ a2.toInt from ra2) (show a2.toInt ≤ 9 from ta2) (show 20 ≤ r8.toInt by first | with_reducible assumption | omega) (show r8.toInt ≤ 2438 by first | with_reducible assumption | omega)  hw hT hF  (lv_sub hl [1, 2, 3, 4, 5, 0] rfl)
  · have c17 : a4.toInt < x15.toInt := wk_leF c17
    refine lv_aload_n hx hb dX12_could_21 rfl (lv_at hl 1 rfl) ?_
    refine tk_getA hC hK hw hT hinX12 kM_at0 (by decide) rfl 34 (by decide) (List.mem_cons_of_mem _ uw_7_7) rfl rfl dX12_could_22 ?_
    refine lv_iload hx hb dX12_could_25 (lv_at hl 0 rfl) ?_
    refine lv_iload hx hb dX12_could_27 (lv_at hl 5 rfl) ?_
    refine tk_iast hC hK hw hT kM_at17 (by decide) rfl rfl (show 0 ≤ r8.toInt by first | with_reducible assumption | omega) (show r8.toInt < 2600 by first | with_reducible assumption | omega) (wk_i32 a4).1 (wk_i32 a4).2 dX12_could_29 (fun H locs w18 hw hT k20 c19 => ?_)
    have hF := hF.put kM_at17 (inE_of (a := 0) (b := 2600) (by decide) (show 0 ≤ r8.toInt.toNat by omega) (show r8.toInt.toNat ≤ 2600 by omega)) k20
    exact J30 r8 H locs ls w18 (show 1 ≤ a1.toInt from ra1) (show a1.toInt ≤ 121 from ta1) (show 0 ≤ a2.toInt from ra2) (show a2.toInt ≤ 9 from ta2) (show 20 ≤ r8.toInt by first | with_reducible assumption | omega) (show r8.toInt ≤ 2438 by first | with_reducible assumption | omega)  hw hT hF  (lv_sub hl [1, 2, 3, 4, 5, 0] rfl)
abbrev P_X12_placeAt_5 (ad : Nat → Nat) (cy : Nat → ClassId) (B : Int) (qr : Nat) (s1 : Int) (a1 : Int32) (a2 : Int32) (w0 : va_W) : Int32 → va_W → Prop := fun r u => w0 = u ∧ ((21 ≤ r.toInt ∧ r.toInt ≤ 2439))
set_option maxHeartbeats 4000000 in
set_option maxRecDepth 100000 in
theorem k_X12_placeAt_5 (l : Launch) (adK adV : Nat → Nat) (dC : Nat → ClassId) (dI : Nat → Nat → Nat) (cy : Nat → ClassId) (ad : Nat → Nat) (B : Int) (hB0 : 100000 ≤ B) (hB1 : B ≤ 1073741824) (qr : Nat) (s1 : Int)  (a1 : Int32) (ra1 : 1 ≤ a1.toInt) (ta1 : a1.toInt ≤ 121) (a2 : Int32) (ra2 : 0 ≤ a2.toInt) (ta2 : a2.toInt ≤ 9) (w0 : va_W) (sz : Nat) (hT : TW ksM ad cy B qr 12 w0)  : Met l yX12_placeAt (wu yX12_placeAt cX12_placeAt 4 (some .int)) ({ frames := 1, cells := 0, slots := 0, locals := 12 }) (va_Pc [.ref (ad 0), .int a1, .int a2, .int 1] (wpreS adK adV dC dI cy sz w0)) (va_Qi (P_X12_placeAt_5 ad cy B qr s1 a1 a2 w0) (fun u : va_W => wpost dC dI cy (va_A w0 sz) u) (va_A w0 sz)) 0 0 (va_A w0 sz) := by
  refine Met.ofW (cc := cX12_placeAt) (maxL := 4) (ret := (some .int)) (by decide) rfl ?_
  intro p e s m args below meth c s₁ Bk hml hv
  obtain ⟨rfl, ⟨hsz, hP, hK, hD0⟩, hE, hSR⟩ := hv
  have hx := Bk.exec
  have hb := Bk.bytes
  have hr := Bk.returns
  have hlocks := Bk.notSynchronized
  have hC : CallFix p m c cX12_placeAt 4 s _ (wu yX12_placeAt cX12_placeAt 4 (some .int)) RX12 := ⟨hx, hb, hml, findClass_of_methodNamed Bk.named, atoms_spec (ws := (wu yX12_placeAt cX12_placeAt 4 (some .int))) Bk.pre⟩
  subst hsz
  have hD := hD0.self (sz := s.heap.size)
  generalize hAe : va_A w0 s.heap.size = A at hD hE ⊢
  have hA : ∀ q : Nat, s.heap.size ≤ q → A q := fun q h => by rw [← hAe]; exact Or.inr h
  have hw : Wd dC dI A s.heap s.heap [] w0 := ⟨hP, hD, va_S.rf⟩
  have hF : FE ksM ([] : List (Nat × Nat × Nat)) w0 w0 := FE.rf
  have hl := lv_entry ([.ref (ad 0), .int a1, .int a2, .int 1]) (n := 4) (Nat.le_of_ble_eq_true rfl)
  rw [lg_entry_eq]
  generalize (lg_sl ([.ref (ad 0), .int a1, .int a2, .int 1]) ++ List.replicate (4 - (lg_sl ([.ref (ad 0), .int a1, .int a2, .int 1])).length) Slot.unset).toArray = ls at hl ⊢
  have hl : lv_has ls 4 [(0, .ref (ad 0)), (1, .int a1), (2, .int a2), (3, .int 1)] := hl
  generalize hloc : ([] : List Loc) = locs at hw ⊢
  refine lv_iload_n hx hb dX12_placeAt_0 rfl (lv_at hl 1 rfl) ?_
  refine lv_bipush (v := 10) hx hb dX12_placeAt_1 (by decide) ?_
  refine lv_imul hx hb dX12_placeAt_3 ?_
  refine lv_topi (fun x1 ex1 => ?_)
  have ex1 : x1.toInt = a1.toInt * (10 : Int) := by rw [ex1]; exact wk_mul (show (-2147483648) ≤ a1.toInt * (10 : Int) by omega) (show a1.toInt * (10 : Int) ≤ 2147483647 by omega)
  refine lv_iload_n hx hb dX12_placeAt_4 rfl (lv_at hl 2 rfl) ?_
  refine lv_iadd hx hb dX12_placeAt_5 ?_
  refine lv_topi (fun x2 ex2 => ?_)
  have ex2 : x2.toInt = x1.toInt + a2.toInt := by rw [ex2]; exact wk_add (show (-2147483648) ≤ x1.toInt + a2.toInt by omega) (show x1.toInt + a2.toInt ≤ 2147483647 by omega)
  refine lv_iconst (v := 2) hx hb dX12_placeAt_6 (by decide) ?_
  refine lv_imul hx hb dX12_placeAt_7 ?_
  refine lv_topi (fun x3 ex3 => ?_)
  have ex3 : x3.toInt = x2.toInt * (2 : Int) := by rw [ex3]; exact wk_mul (show (-2147483648) ≤ x2.toInt * (2 : Int) by omega) (show x2.toInt * (2 : Int) ≤ 2147483647 by omega)
  refine lv_iload_n hx hb dX12_placeAt_8 rfl (lv_at hl 3 rfl) ?_
  refine lv_if_eq (tgt := 16) hx hb dX12_placeAt_9 (by decide) (fun c => absurd c (by decide)) (fun _ => ?_)
  refine lv_iconst (v := 1) hx hb dX12_placeAt_12 (by decide) ?_
  refine lv_goto (tgt := 17) hx hb dX12_placeAt_13 (by decide) ?_
  refine lv_iadd hx hb dX12_placeAt_17 ?_
  refine lv_topi (fun x4 ex4 => ?_)
  have ex4 : x4.toInt = x3.toInt + (1 : Int) := by rw [ex4]; exact wk_add (show (-2147483648) ≤ x3.toInt + (1 : Int) by omega) (show x3.toInt + (1 : Int) ≤ 2147483647 by omega)
  exact tk_iret hC hr hlocks hK ⟨rfl, ⟨(show 21 ≤ x4.toInt by first | with_reducible assumption | omega), (show x4.toInt ≤ 2439 by first | with_reducible assumption | omega)⟩⟩ hw dX12_placeAt_18
abbrev P_X12_could_5 (ad : Nat → Nat) (cy : Nat → ClassId) (B : Int) (qr : Nat) (s1 : Int) (a1 : Int32) (a2 : Int32) (a4 : Int32) (w0 : va_W) : va_W → Prop := fun u => TW ksM ad cy B qr 12 u ∧ FE ksM [(76, 0, 2600)] w0 u ∧ ((True))
set_option maxHeartbeats 4000000 in
set_option maxRecDepth 100000 in
theorem k_X12_could_5 (l : Launch) (adK adV : Nat → Nat) (dC : Nat → ClassId) (dI : Nat → Nat → Nat) (cy : Nat → ClassId) (ad : Nat → Nat) (B : Int) (hB0 : 100000 ≤ B) (hB1 : B ≤ 1073741824) (qr : Nat) (s1 : Int)  (a1 : Int32) (ra1 : 1 ≤ a1.toInt) (ta1 : a1.toInt ≤ 121) (a2 : Int32) (ra2 : 0 ≤ a2.toInt) (ta2 : a2.toInt ≤ 9) (a4 : Int32) (w0 : va_W) (sz : Nat) (hT : TW ksM ad cy B qr 12 w0)  : Met l yX12_could (wu yX12_could cX12_could 6 none) ({ frames := 2, cells := 0, slots := 0, locals := 35 }) (va_Pc [.ref (ad 0), .int a1, .int a2, .int 1, .int a4] (wpreS adK adV dC dI cy sz w0)) (va_Qv (P_X12_could_5 ad cy B qr s1 a1 a2 a4 w0) (fun u : va_W => wpost dC dI cy (va_A w0 sz) u) (va_A w0 sz)) 0 0 (va_A w0 sz) := by
  refine Met.ofW (cc := cX12_could) (maxL := 6) (ret := none) (by decide) rfl ?_
  intro p e s m args below meth c s₁ Bk hml hv
  obtain ⟨rfl, ⟨hsz, hP, hK, hD0⟩, hE, hSR⟩ := hv
  have hx := Bk.exec
  have hb := Bk.bytes
  have hr := Bk.returns
  have hlocks := Bk.notSynchronized
  have hC : CallFix p m c cX12_could 6 s _ (wu yX12_could cX12_could 6 none) RX12 := ⟨hx, hb, hml, findClass_of_methodNamed Bk.named, atoms_spec (ws := (wu yX12_could cX12_could 6 none)) Bk.pre⟩
  subst hsz
  have hD := hD0.self (sz := s.heap.size)
  generalize hAe : va_A w0 s.heap.size = A at hD hE ⊢
  have hA : ∀ q : Nat, s.heap.size ≤ q → A q := fun q h => by rw [← hAe]; exact Or.inr h
  have hw : Wd dC dI A s.heap s.heap [] w0 := ⟨hP, hD, va_S.rf⟩
  have hF : FE ksM [(76, 0, 2600)] w0 w0 := FE.rf
  have hl := lv_entry ([.ref (ad 0), .int a1, .int a2, .int 1, .int a4]) (n := 6) (Nat.le_of_ble_eq_true rfl)
  rw [lg_entry_eq]
  generalize (lg_sl ([.ref (ad 0), .int a1, .int a2, .int 1, .int a4]) ++ List.replicate (6 - (lg_sl ([.ref (ad 0), .int a1, .int a2, .int 1, .int a4])).length) Slot.unset).toArray = ls at hl ⊢
  have hl : lv_has ls 6 [(0, .ref (ad 0)), (1, .int a1), (2, .int a2), (3, .int 1), (4, .int a4)] := hl
  generalize hloc : ([] : List Loc) = locs at hw ⊢
  have hinX12 : ∀ w ∈ u_ws RX12 TX12 42, w ∈ (wu yX12_could cX12_could 6 none) := fun _ h => List.mem_cons_of_mem _ (up_71 h)
  have J30 : ∀ (v30_5 : Int32) (H : Heap) (locs : List Loc) (ls : Array Slot) (w1 : va_W), 1 ≤ a1.toInt → a1.toInt ≤ 121 → 0 ≤ a2.toInt → a2.toInt ≤ 9 → 21 ≤ v30_5.toInt → v30_5.toInt ≤ 2439 → Wd dC dI A s.heap H locs w1 → TW ksM ad cy B qr 12 w1 → FE ksM [(76, 0, 2600)] w0 w1 → lv_has ls 6 [(0, .ref (ad 0)), (1, .int a1), (2, .int a2), (3, .int 1), (4, .int a4), (5, .int v30_5)] → W p l e ({ frames := 2, cells := 0, slots := 0, locals := 35 }) s m (List.toArray [.ref (ad 0), .int a1, .int a2, .int 1, .int a4]) below meth c H locs 0 0 (MQ below (va_Qv (P_X12_could_5 ad cy B qr s1 a1 a2 a4 w0) (fun u : va_W => wpost dC dI cy A u) A) (List.toArray [.ref (ad 0), .int a1, .int a2, .int 1, .int a4]) s 0 0 A) (F0 m 30 ls []) := by
    intro v30_5 H locs ls w1 r2 t3 r4 t5 r6 t7 hw hT hF hl
    exact tk_vret hC hr hlocks hK ⟨hT, hF, trivial⟩ hw dX12_could_30
  refine lv_aload_n hx hb dX12_could_0 rfl (lv_at hl 0 rfl) ?_
  refine lv_iload_n hx hb dX12_could_1 rfl (lv_at hl 1 rfl) ?_
  refine lv_iload_n hx hb dX12_could_2 rfl (lv_at hl 2 rfl) ?_
  refine lv_iload_n hx hb dX12_could_3 rfl (lv_at hl 3 rfl) ?_
  refine tk_Vi hC hK hw hT hA hE hSR kM_at0 (by decide) rfl (k_X12_placeAt_5 l adK adV dC dI cy ad B hB0 (Int.le_trans hB1 (by decide)) qr s1   a1 (show 1 ≤ a1.toInt from ra1) (show a1.toInt ≤ 121 from ta1) a2 (show 0 ≤ a2.toInt from ra2) (show a2.toInt ≤ 9 from ta2) w0 s.heap.size hT ) (cwV 3 hC.2.2.2.2 uV_RX12_435 rfl rfl rfl (by decide +kernel) ⟨Nat.le_of_ble_eq_true rfl, Nat.le_of_ble_eq_true rfl⟩) rfl hl.1 rfl (Nat.le_of_ble_eq_true rfl) dX12_could_4 (fun r8 w10 H locs hp9 hw => ?_)
  obtain ⟨rfl, hg14⟩ := hp9
  obtain ⟨g12, g13⟩ := hg14
  refine lv_istore (lv' := [(5, .int r8), (0, .ref (ad 0)), (1, .int a1), (2, .int a2), (3, .int 1), (4, .int a4)]) hx hb dX12_could_7 hl (by decide) rfl (fun ls hl => ?_)
  refine lv_iload hx hb dX12_could_9 (lv_at hl 5 rfl) ?_
  refine lv_aload_n hx hb dX12_could_11 rfl (lv_at hl 1 rfl) ?_
  refine tk_getA hC hK hw hT hinX12 kM_at0 (by decide) rfl 34 (by decide) (List.mem_cons_of_mem _ uw_7_7) rfl rfl dX12_could_12 ?_
  refine lv_iload hx hb dX12_could_15 (lv_at hl 0 rfl) ?_
  refine tk_iald hC hK hw hT kM_at17 rfl rfl (show 0 ≤ r8.toInt by first | with_reducible assumption | omega) (show r8.toInt < 2600 by first | with_reducible assumption | omega) dX12_could_17 (fun x15 c16 rx15 tx15 => ?_)
  refine lv_icmp_ge (tgt := 30) hx hb dX12_could_18 (by decide) (fun c17 => ?_) (fun c17 => ?_)
  · have c17 : x15.toInt ≤ a4.toInt := wk_le.mp c17
    exact J30 r8 H locs ls w0 (show 1 ≤ a1.toInt from ra1) (show a1.toInt ≤ 121 from ta1) (show 0 ≤ a2.toInt from ra2) (show a2.toInt ≤ 9 from ta2) (show 21 ≤ r8.toInt by first | with_reducible assumption | omega) (show r8.toInt ≤ 2439 by first | with_reducible assumption | omega)  hw hT hF  (lv_sub hl [1, 2, 3, 4, 5, 0] rfl)
  · have c17 : a4.toInt < x15.toInt := wk_leF c17
    refine lv_aload_n hx hb dX12_could_21 rfl (lv_at hl 1 rfl) ?_
    refine tk_getA hC hK hw hT hinX12 kM_at0 (by decide) rfl 34 (by decide) (List.mem_cons_of_mem _ uw_7_7) rfl rfl dX12_could_22 ?_
    refine lv_iload hx hb dX12_could_25 (lv_at hl 0 rfl) ?_
    refine lv_iload hx hb dX12_could_27 (lv_at hl 5 rfl) ?_
    refine tk_iast hC hK hw hT kM_at17 (by decide) rfl rfl (show 0 ≤ r8.toInt by first | with_reducible assumption | omega) (show r8.toInt < 2600 by first | with_reducible assumption | omega) (wk_i32 a4).1 (wk_i32 a4).2 dX12_could_29 (fun H locs w18 hw hT k20 c19 => ?_)
    have hF := hF.put kM_at17 (inE_of (a := 0) (b := 2600) (by decide) (show 0 ≤ r8.toInt.toNat by omega) (show r8.toInt.toNat ≤ 2600 by omega)) k20
    exact J30 r8 H locs ls w18 (show 1 ≤ a1.toInt from ra1) (show a1.toInt ≤ 121 from ta1) (show 0 ≤ a2.toInt from ra2) (show a2.toInt ≤ 9 from ta2) (show 21 ≤ r8.toInt by first | with_reducible assumption | omega) (show r8.toInt ≤ 2439 by first | with_reducible assumption | omega)  hw hT hF  (lv_sub hl [1, 2, 3, 4, 5, 0] rfl)
abbrev P_X12_isDayFor_5 (ad : Nat → Nat) (cy : Nat → ClassId) (B : Int) (qr : Nat) (s1 : Int) (a1 : Int32) (a2 : Int32) (a3 : Int32) (w0 : va_W) : Int32 → va_W → Prop := fun r u => w0 = u ∧ ((r = 0 ∧ (¬ mDay w0 a1.toInt a2.toInt a3.toInt)) ∨ (r = 0 ∧ gi u 12 (10 * a1.toInt + 10).toNat = a2 ∧ (¬ mDay w0 a1.toInt a2.toInt a3.toInt)) ∨ (r = 1 ∧ (mDay w0 a1.toInt a2.toInt a3.toInt)) ∨ (r = 1 ∧ gi u 12 (10 * a1.toInt + 10).toNat = a2 ∧ (mDay w0 a1.toInt a2.toInt a3.toInt)))
set_option maxHeartbeats 4000000 in
set_option maxRecDepth 100000 in
theorem k_X12_isDayFor_5 (l : Launch) (adK adV : Nat → Nat) (dC : Nat → ClassId) (dI : Nat → Nat → Nat) (cy : Nat → ClassId) (ad : Nat → Nat) (B : Int) (hB0 : 100000 ≤ B) (hB1 : B ≤ 1073741824) (qr : Nat) (s1 : Int)  (a1 : Int32) (ra1 : 0 ≤ a1.toInt) (ta1 : a1.toInt ≤ 11) (a2 : Int32) (ra2 : 0 ≤ a2.toInt) (ta2 : a2.toInt ≤ 9) (a3 : Int32) (ra3 : 0 ≤ a3.toInt) (ta3 : a3.toInt ≤ 44739247) (w0 : va_W) (sz : Nat) (hT : TW ksM ad cy B qr 12 w0)  : Met l yX12_isDayFor (wu yX12_isDayFor cX12_isDayFor 4 (some .boolean)) ({ frames := 3, cells := 0, slots := 0, locals := 57 }) (va_Pc [.ref (ad 0), .int a1, .int a2, .int a3] (wpreS adK adV dC dI cy sz w0)) (va_Qi (P_X12_isDayFor_5 ad cy B qr s1 a1 a2 a3 w0) (fun u : va_W => wpost dC dI cy (va_A w0 sz) u) (va_A w0 sz)) 0 0 (va_A w0 sz) := by
  refine Met.ofW (cc := cX12_isDayFor) (maxL := 4) (ret := (some .boolean)) (by decide) rfl ?_
  intro p e s m args below meth c s₁ Bk hml hv
  obtain ⟨rfl, ⟨hsz, hP, hK, hD0⟩, hE, hSR⟩ := hv
  have hx := Bk.exec
  have hb := Bk.bytes
  have hr := Bk.returns
  have hlocks := Bk.notSynchronized
  have hC : CallFix p m c cX12_isDayFor 4 s _ (wu yX12_isDayFor cX12_isDayFor 4 (some .boolean)) RX12 := ⟨hx, hb, hml, findClass_of_methodNamed Bk.named, atoms_spec (ws := (wu yX12_isDayFor cX12_isDayFor 4 (some .boolean))) Bk.pre⟩
  subst hsz
  have hD := hD0.self (sz := s.heap.size)
  generalize hAe : va_A w0 s.heap.size = A at hD hE ⊢
  have hA : ∀ q : Nat, s.heap.size ≤ q → A q := fun q h => by rw [← hAe]; exact Or.inr h
  have hw : Wd dC dI A s.heap s.heap [] w0 := ⟨hP, hD, va_S.rf⟩
  have hF : FE ksM ([] : List (Nat × Nat × Nat)) w0 w0 := FE.rf
  have hl := lv_entry ([.ref (ad 0), .int a1, .int a2, .int a3]) (n := 4) (Nat.le_of_ble_eq_true rfl)
  rw [lg_entry_eq]
  generalize (lg_sl ([.ref (ad 0), .int a1, .int a2, .int a3]) ++ List.replicate (4 - (lg_sl ([.ref (ad 0), .int a1, .int a2, .int a3])).length) Slot.unset).toArray = ls at hl ⊢
  have hl : lv_has ls 4 [(0, .ref (ad 0)), (1, .int a1), (2, .int a2), (3, .int a3)] := hl
  generalize hloc : ([] : List Loc) = locs at hw ⊢
  refine lv_aload_n hx hb dX12_isDayFor_0 rfl (lv_at hl 0 rfl) ?_
  refine lv_aload_n hx hb dX12_isDayFor_1 rfl (lv_at hl 0 rfl) ?_
  refine lv_iload_n hx hb dX12_isDayFor_2 rfl (lv_at hl 1 rfl) ?_
  refine lv_iconst (v := 3) hx hb dX12_isDayFor_3 (by decide) ?_
  refine lv_iload_n hx hb dX12_isDayFor_4 rfl (lv_at hl 3 rfl) ?_
  refine lv_bipush (v := 7) hx hb dX12_isDayFor_5 (by decide) ?_
  refine lv_irem hx hb dX12_isDayFor_7 (by decide) ?_
  refine lv_topi (fun x1 ex1 => ?_)
  have ex1 : x1.toInt = a3.toInt % (7 : Int) := by rw [ex1]; exact wk_rem (show 0 ≤ a3.toInt from ra3) (show 0 < (7 : Int) by decide)
  refine lv_iadd hx hb dX12_isDayFor_8 ?_
  refine lv_topi (fun x2 ex2 => ?_)
  have ex2 : x2.toInt = (3 : Int) + x1.toInt := by rw [ex2]; exact wk_add (show (-2147483648) ≤ (3 : Int) + x1.toInt by omega) (show (3 : Int) + x1.toInt ≤ 2147483647 by omega)
  refine tk_Vi hC hK hw hT hA hE hSR kM_at0 (by decide) rfl (k_X12_streetOf_4 l adK adV dC dI cy ad B hB0 (Int.le_trans hB1 (by decide)) qr s1   a1 (show 0 ≤ a1.toInt from ra1) (show a1.toInt ≤ 11 from ta1) x2 (show 3 ≤ x2.toInt by first | with_reducible assumption | omega) (show x2.toInt ≤ 9 by first | with_reducible assumption | omega) w0 s.heap.size hT ) (cwV 2 hC.2.2.2.2 uV_RX12_300 rfl rfl rfl (by decide +kernel) ⟨Nat.le_of_ble_eq_true rfl, Nat.le_of_ble_eq_true rfl⟩) rfl hl.1 rfl (Nat.le_of_ble_eq_true rfl) dX12_isDayFor_9 (fun r3 w5 H locs hp4 hw => ?_)
  obtain ⟨rfl, hg10⟩ := hp4
  obtain ⟨g7, g8, c9⟩ := hg10
  refine lv_iload_n hx hb dX12_isDayFor_12 rfl (lv_at hl 1 rfl) ?_
  refine lv_iload_n hx hb dX12_isDayFor_13 rfl (lv_at hl 2 rfl) ?_
  refine tk_Vi hC hK hw hT hA hE hSR kM_at0 (by decide) rfl (k_X12_hasSign_1 l adK adV dC dI cy ad B hB0 (Int.le_trans hB1 (by decide)) qr s1   r3 (show 0 ≤ r3.toInt by first | with_reducible assumption | omega) (show r3.toInt ≤ 9 by first | with_reducible assumption | omega) a1 (show 0 ≤ a1.toInt from ra1) (show a1.toInt ≤ 11 from ta1) a2 (show 0 ≤ a2.toInt from ra2) (show a2.toInt ≤ 9 from ta2) w0 H.size hT ) (cwV 3 hC.2.2.2.2 uV_RX12_307 rfl rfl rfl (by decide +kernel) ⟨Nat.le_of_ble_eq_true rfl, Nat.le_of_ble_eq_true rfl⟩) rfl hl.1 rfl (Nat.le_of_ble_eq_true rfl) dX12_isDayFor_14 (fun r11 w13 H locs hp12 hw => ?_)
  obtain ⟨rfl, hg21⟩ := hp12
  rcases hg21 with ⟨rfl, hq15⟩ | ⟨rfl, c16, hq17⟩ | ⟨rfl, hq18⟩ | ⟨rfl, c19, hq20⟩
  · refine lv_if_ne (tgt := 22) hx hb dX12_isDayFor_17 (by decide) (fun c => absurd (by decide) c) (fun _ => ?_)
    refine lv_iconst (v := 0) hx hb dX12_isDayFor_20 (by decide) ?_
    exact tk_zret hC hr rfl hlocks hK ⟨rfl, (Or.inl ⟨rfl, (by unfold mDay; rw [show (10 * a1.toInt + (3 + a3.toInt % 7) + 10) = 10 * a1.toInt + 1 * x2.toInt + 10 by omega]; simp only [c9]; first | exact ⟨by assumption, by assumption, by assumption⟩ | (rintro ⟨q1, q2, q3⟩; first | exact absurd q1 (by assumption) | exact q2 (by assumption) | exact q3 (by assumption)))⟩)⟩ hw dX12_isDayFor_21
  · refine lv_if_ne (tgt := 22) hx hb dX12_isDayFor_17 (by decide) (fun c => absurd (by decide) c) (fun _ => ?_)
    refine lv_iconst (v := 0) hx hb dX12_isDayFor_20 (by decide) ?_
    exact tk_zret hC hr rfl hlocks hK ⟨rfl, (Or.inr (Or.inl ⟨rfl, c16, (by unfold mDay; rw [show (10 * a1.toInt + (3 + a3.toInt % 7) + 10) = 10 * a1.toInt + 1 * x2.toInt + 10 by omega]; simp only [c9, c16]; first | exact ⟨by assumption, by assumption, by assumption⟩ | (rintro ⟨q1, q2, q3⟩; first | exact absurd q1 (by assumption) | exact q2 (by assumption) | exact q3 (by assumption)))⟩))⟩ hw dX12_isDayFor_21
  · refine lv_if_ne (tgt := 22) hx hb dX12_isDayFor_17 (by decide) (fun _ => ?_) (fun c => absurd c (by decide))
    refine lv_aload_n hx hb dX12_isDayFor_22 rfl (lv_at hl 0 rfl) ?_
    refine lv_aload_n hx hb dX12_isDayFor_23 rfl (lv_at hl 0 rfl) ?_
    refine lv_iload_n hx hb dX12_isDayFor_24 rfl (lv_at hl 1 rfl) ?_
    refine lv_iconst (v := 0) hx hb dX12_isDayFor_25 (by decide) ?_
    refine tk_Vi hC hK hw hT hA hE hSR kM_at0 (by decide) rfl (k_X12_streetOf_2 l adK adV dC dI cy ad B hB0 (Int.le_trans hB1 (by decide)) qr s1   a1 (show 0 ≤ a1.toInt from ra1) (show a1.toInt ≤ 11 from ta1) w0 H.size hT ) (cwV 2 hC.2.2.2.2 uV_RX12_300 rfl rfl rfl (by decide +kernel) ⟨Nat.le_of_ble_eq_true rfl, Nat.le_of_ble_eq_true rfl⟩) rfl hl.1 rfl (Nat.le_of_ble_eq_true rfl) dX12_isDayFor_26 (fun r22 w24 H locs hp23 hw => ?_)
    obtain ⟨rfl, hg29⟩ := hp23
    obtain ⟨g26, g27, c28⟩ := hg29
    refine lv_iload_n hx hb dX12_isDayFor_29 rfl (lv_at hl 3 rfl) ?_
    refine lv_sipush (v := 360) hx hb dX12_isDayFor_30 (by decide) ?_
    refine lv_irem hx hb dX12_isDayFor_33 (by decide) ?_
    refine lv_topi (fun x30 ex30 => ?_)
    have ex30 : x30.toInt = a3.toInt % (360 : Int) := by rw [ex30]; exact wk_rem (show 0 ≤ a3.toInt from ra3) (show 0 < (360 : Int) by decide)
    refine tk_Vi hC hK hw hT hA hE hSR kM_at0 (by decide) rfl (k_X12_isClosed_1 l adK adV dC dI cy ad B hB0 (Int.le_trans hB1 (by decide)) qr s1   r22 (show 0 ≤ r22.toInt by first | with_reducible assumption | omega) (show r22.toInt ≤ 9 by first | with_reducible assumption | omega) x30 (show 0 ≤ x30.toInt by first | with_reducible assumption | omega) (show x30.toInt ≤ 359 by first | with_reducible assumption | omega) w0 H.size hT ) (cwV 2 hC.2.2.2.2 uV_RX12_311 rfl rfl rfl (by decide +kernel) ⟨Nat.le_of_ble_eq_true rfl, Nat.le_of_ble_eq_true rfl⟩) rfl hl.1 rfl (Nat.le_of_ble_eq_true rfl) dX12_isDayFor_34 (fun r31 w33 H locs hp32 hw => ?_)
    obtain ⟨rfl, hg41⟩ := hp32
    rcases hg41 with ⟨rfl, hq35⟩ | ⟨rfl, ⟨x36, c37, rx36, tx36⟩, ⟨x38, c39, rx38, tx38⟩, hq40⟩
    · refine lv_if_ne (tgt := 62) hx hb dX12_isDayFor_37 (by decide) (fun c => absurd (by decide) c) (fun _ => ?_)
      refine lv_aload_n hx hb dX12_isDayFor_40 rfl (lv_at hl 0 rfl) ?_
      refine lv_aload_n hx hb dX12_isDayFor_41 rfl (lv_at hl 0 rfl) ?_
      refine lv_iload_n hx hb dX12_isDayFor_42 rfl (lv_at hl 1 rfl) ?_
      refine lv_iconst (v := 1) hx hb dX12_isDayFor_43 (by decide) ?_
      refine tk_Vi hC hK hw hT hA hE hSR kM_at0 (by decide) rfl (k_X12_streetOf_3 l adK adV dC dI cy ad B hB0 (Int.le_trans hB1 (by decide)) qr s1   a1 (show 0 ≤ a1.toInt from ra1) (show a1.toInt ≤ 11 from ta1) w0 H.size hT ) (cwV 2 hC.2.2.2.2 uV_RX12_300 rfl rfl rfl (by decide +kernel) ⟨Nat.le_of_ble_eq_true rfl, Nat.le_of_ble_eq_true rfl⟩) rfl hl.1 rfl (Nat.le_of_ble_eq_true rfl) dX12_isDayFor_44 (fun r42 w44 H locs hp43 hw => ?_)
      obtain ⟨rfl, hg49⟩ := hp43
      obtain ⟨g46, g47, c48⟩ := hg49
      refine lv_iload_n hx hb dX12_isDayFor_47 rfl (lv_at hl 3 rfl) ?_
      refine lv_sipush (v := 360) hx hb dX12_isDayFor_48 (by decide) ?_
      refine lv_irem hx hb dX12_isDayFor_51 (by decide) ?_
      refine lv_topi (fun x50 ex50 => ?_)
      have ex50 : x50.toInt = a3.toInt % (360 : Int) := by rw [ex50]; exact wk_rem (show 0 ≤ a3.toInt from ra3) (show 0 < (360 : Int) by decide)
      refine tk_Vi hC hK hw hT hA hE hSR kM_at0 (by decide) rfl (k_X12_isClosed_1 l adK adV dC dI cy ad B hB0 (Int.le_trans hB1 (by decide)) qr s1   r42 (show 0 ≤ r42.toInt by first | with_reducible assumption | omega) (show r42.toInt ≤ 9 by first | with_reducible assumption | omega) x50 (show 0 ≤ x50.toInt by first | with_reducible assumption | omega) (show x50.toInt ≤ 359 by first | with_reducible assumption | omega) w0 H.size hT ) (cwV 2 hC.2.2.2.2 uV_RX12_311 rfl rfl rfl (by decide +kernel) ⟨Nat.le_of_ble_eq_true rfl, Nat.le_of_ble_eq_true rfl⟩) rfl hl.1 rfl (Nat.le_of_ble_eq_true rfl) dX12_isDayFor_52 (fun r51 w53 H locs hp52 hw => ?_)
      obtain ⟨rfl, hg61⟩ := hp52
      rcases hg61 with ⟨rfl, hq55⟩ | ⟨rfl, ⟨x56, c57, rx56, tx56⟩, ⟨x58, c59, rx58, tx58⟩, hq60⟩
      · refine lv_if_ne (tgt := 62) hx hb dX12_isDayFor_55 (by decide) (fun c => absurd (by decide) c) (fun _ => ?_)
        refine lv_iconst (v := 1) hx hb dX12_isDayFor_58 (by decide) ?_
        refine lv_goto (tgt := 63) hx hb dX12_isDayFor_59 (by decide) ?_
        exact tk_zret hC hr rfl hlocks hK ⟨rfl, (Or.inr (Or.inr (Or.inl ⟨rfl, (by have hq35 := hq35; rw [show x30.toInt = a3.toInt % 360 by omega] at hq35; have hq55 := hq55; rw [show x50.toInt = a3.toInt % 360 by omega] at hq55; unfold mDay; rw [show (10 * a1.toInt + (3 + a3.toInt % 7) + 10) = 10 * a1.toInt + 1 * x2.toInt + 10 by omega]; simp only [c9, c28, c48]; first | exact ⟨by assumption, by assumption, by assumption⟩ | (rintro ⟨q1, q2, q3⟩; first | exact absurd q1 (by assumption) | exact q2 (by assumption) | exact q3 (by assumption)))⟩)))⟩ hw dX12_isDayFor_63
      · refine lv_if_ne (tgt := 62) hx hb dX12_isDayFor_55 (by decide) (fun _ => ?_) (fun c => absurd c (by decide))
        refine lv_iconst (v := 0) hx hb dX12_isDayFor_62 (by decide) ?_
        exact tk_zret hC hr rfl hlocks hK ⟨rfl, (Or.inl ⟨rfl, (by have hq35 := hq35; rw [show x30.toInt = a3.toInt % 360 by omega] at hq35; have hq60 := hq60; rw [show x50.toInt = a3.toInt % 360 by omega] at hq60; unfold mDay; rw [show (10 * a1.toInt + (3 + a3.toInt % 7) + 10) = 10 * a1.toInt + 1 * x2.toInt + 10 by omega]; simp only [c9, c28, c48, c57, c59]; first | exact ⟨by assumption, by assumption, by assumption⟩ | (rintro ⟨q1, q2, q3⟩; first | exact absurd q1 (by assumption) | exact q2 (by assumption) | exact q3 (by assumption)))⟩)⟩ hw dX12_isDayFor_63
    · refine lv_if_ne (tgt := 62) hx hb dX12_isDayFor_37 (by decide) (fun _ => ?_) (fun c => absurd c (by decide))
      refine lv_iconst (v := 0) hx hb dX12_isDayFor_62 (by decide) ?_
      exact tk_zret hC hr rfl hlocks hK ⟨rfl, (Or.inl ⟨rfl, (by have hq40 := hq40; rw [show x30.toInt = a3.toInt % 360 by omega] at hq40; unfold mDay; rw [show (10 * a1.toInt + (3 + a3.toInt % 7) + 10) = 10 * a1.toInt + 1 * x2.toInt + 10 by omega]; simp only [c9, c28, c37, c39]; first | exact ⟨by assumption, by assumption, by assumption⟩ | (rintro ⟨q1, q2, q3⟩; first | exact absurd q1 (by assumption) | exact q2 (by assumption) | exact q3 (by assumption)))⟩)⟩ hw dX12_isDayFor_63
  · refine lv_if_ne (tgt := 22) hx hb dX12_isDayFor_17 (by decide) (fun _ => ?_) (fun c => absurd c (by decide))
    refine lv_aload_n hx hb dX12_isDayFor_22 rfl (lv_at hl 0 rfl) ?_
    refine lv_aload_n hx hb dX12_isDayFor_23 rfl (lv_at hl 0 rfl) ?_
    refine lv_iload_n hx hb dX12_isDayFor_24 rfl (lv_at hl 1 rfl) ?_
    refine lv_iconst (v := 0) hx hb dX12_isDayFor_25 (by decide) ?_
    refine tk_Vi hC hK hw hT hA hE hSR kM_at0 (by decide) rfl (k_X12_streetOf_2 l adK adV dC dI cy ad B hB0 (Int.le_trans hB1 (by decide)) qr s1   a1 (show 0 ≤ a1.toInt from ra1) (show a1.toInt ≤ 11 from ta1) w0 H.size hT ) (cwV 2 hC.2.2.2.2 uV_RX12_300 rfl rfl rfl (by decide +kernel) ⟨Nat.le_of_ble_eq_true rfl, Nat.le_of_ble_eq_true rfl⟩) rfl hl.1 rfl (Nat.le_of_ble_eq_true rfl) dX12_isDayFor_26 (fun r62 w64 H locs hp63 hw => ?_)
    obtain ⟨rfl, hg69⟩ := hp63
    obtain ⟨g66, g67, c68⟩ := hg69
    obtain rfl : a2 = r62 := c19.symm.trans c68
    refine lv_iload_n hx hb dX12_isDayFor_29 rfl (lv_at hl 3 rfl) ?_
    refine lv_sipush (v := 360) hx hb dX12_isDayFor_30 (by decide) ?_
    refine lv_irem hx hb dX12_isDayFor_33 (by decide) ?_
    refine lv_topi (fun x70 ex70 => ?_)
    have ex70 : x70.toInt = a3.toInt % (360 : Int) := by rw [ex70]; exact wk_rem (show 0 ≤ a3.toInt from ra3) (show 0 < (360 : Int) by decide)
    refine tk_Vi hC hK hw hT hA hE hSR kM_at0 (by decide) rfl (k_X12_isClosed_1 l adK adV dC dI cy ad B hB0 (Int.le_trans hB1 (by decide)) qr s1   a2 (show 0 ≤ a2.toInt from ra2) (show a2.toInt ≤ 9 from ta2) x70 (show 0 ≤ x70.toInt by first | with_reducible assumption | omega) (show x70.toInt ≤ 359 by first | with_reducible assumption | omega) w0 H.size hT ) (cwV 2 hC.2.2.2.2 uV_RX12_311 rfl rfl rfl (by decide +kernel) ⟨Nat.le_of_ble_eq_true rfl, Nat.le_of_ble_eq_true rfl⟩) rfl hl.1 rfl (Nat.le_of_ble_eq_true rfl) dX12_isDayFor_34 (fun r71 w73 H locs hp72 hw => ?_)
    obtain ⟨rfl, hg81⟩ := hp72
    rcases hg81 with ⟨rfl, hq75⟩ | ⟨rfl, ⟨x76, c77, rx76, tx76⟩, ⟨x78, c79, rx78, tx78⟩, hq80⟩
    · refine lv_if_ne (tgt := 62) hx hb dX12_isDayFor_37 (by decide) (fun c => absurd (by decide) c) (fun _ => ?_)
      refine lv_aload_n hx hb dX12_isDayFor_40 rfl (lv_at hl 0 rfl) ?_
      refine lv_aload_n hx hb dX12_isDayFor_41 rfl (lv_at hl 0 rfl) ?_
      refine lv_iload_n hx hb dX12_isDayFor_42 rfl (lv_at hl 1 rfl) ?_
      refine lv_iconst (v := 1) hx hb dX12_isDayFor_43 (by decide) ?_
      refine tk_Vi hC hK hw hT hA hE hSR kM_at0 (by decide) rfl (k_X12_streetOf_3 l adK adV dC dI cy ad B hB0 (Int.le_trans hB1 (by decide)) qr s1   a1 (show 0 ≤ a1.toInt from ra1) (show a1.toInt ≤ 11 from ta1) w0 H.size hT ) (cwV 2 hC.2.2.2.2 uV_RX12_300 rfl rfl rfl (by decide +kernel) ⟨Nat.le_of_ble_eq_true rfl, Nat.le_of_ble_eq_true rfl⟩) rfl hl.1 rfl (Nat.le_of_ble_eq_true rfl) dX12_isDayFor_44 (fun r82 w84 H locs hp83 hw => ?_)
      obtain ⟨rfl, hg89⟩ := hp83
      obtain ⟨g86, g87, c88⟩ := hg89
      refine lv_iload_n hx hb dX12_isDayFor_47 rfl (lv_at hl 3 rfl) ?_
      refine lv_sipush (v := 360) hx hb dX12_isDayFor_48 (by decide) ?_
      refine lv_irem hx hb dX12_isDayFor_51 (by decide) ?_
      refine lv_topi (fun x90 ex90 => ?_)
      have ex90 : x90.toInt = a3.toInt % (360 : Int) := by rw [ex90]; exact wk_rem (show 0 ≤ a3.toInt from ra3) (show 0 < (360 : Int) by decide)
      refine tk_Vi hC hK hw hT hA hE hSR kM_at0 (by decide) rfl (k_X12_isClosed_1 l adK adV dC dI cy ad B hB0 (Int.le_trans hB1 (by decide)) qr s1   r82 (show 0 ≤ r82.toInt by first | with_reducible assumption | omega) (show r82.toInt ≤ 9 by first | with_reducible assumption | omega) x90 (show 0 ≤ x90.toInt by first | with_reducible assumption | omega) (show x90.toInt ≤ 359 by first | with_reducible assumption | omega) w0 H.size hT ) (cwV 2 hC.2.2.2.2 uV_RX12_311 rfl rfl rfl (by decide +kernel) ⟨Nat.le_of_ble_eq_true rfl, Nat.le_of_ble_eq_true rfl⟩) rfl hl.1 rfl (Nat.le_of_ble_eq_true rfl) dX12_isDayFor_52 (fun r91 w93 H locs hp92 hw => ?_)
      obtain ⟨rfl, hg101⟩ := hp92
      rcases hg101 with ⟨rfl, hq95⟩ | ⟨rfl, ⟨x96, c97, rx96, tx96⟩, ⟨x98, c99, rx98, tx98⟩, hq100⟩
      · refine lv_if_ne (tgt := 62) hx hb dX12_isDayFor_55 (by decide) (fun c => absurd (by decide) c) (fun _ => ?_)
        refine lv_iconst (v := 1) hx hb dX12_isDayFor_58 (by decide) ?_
        refine lv_goto (tgt := 63) hx hb dX12_isDayFor_59 (by decide) ?_
        exact tk_zret hC hr rfl hlocks hK ⟨rfl, (Or.inr (Or.inr (Or.inr ⟨rfl, c19, (by have hq75 := hq75; rw [show x70.toInt = a3.toInt % 360 by omega] at hq75; have hq95 := hq95; rw [show x90.toInt = a3.toInt % 360 by omega] at hq95; unfold mDay; rw [show (10 * a1.toInt + (3 + a3.toInt % 7) + 10) = 10 * a1.toInt + 1 * x2.toInt + 10 by omega]; simp only [c9, c19, c88]; first | exact ⟨by assumption, by assumption, by assumption⟩ | (rintro ⟨q1, q2, q3⟩; first | exact absurd q1 (by assumption) | exact q2 (by assumption) | exact q3 (by assumption)))⟩)))⟩ hw dX12_isDayFor_63
      · refine lv_if_ne (tgt := 62) hx hb dX12_isDayFor_55 (by decide) (fun _ => ?_) (fun c => absurd c (by decide))
        refine lv_iconst (v := 0) hx hb dX12_isDayFor_62 (by decide) ?_
        exact tk_zret hC hr rfl hlocks hK ⟨rfl, (Or.inr (Or.inl ⟨rfl, c19, (by have hq75 := hq75; rw [show x70.toInt = a3.toInt % 360 by omega] at hq75; have hq100 := hq100; rw [show x90.toInt = a3.toInt % 360 by omega] at hq100; unfold mDay; rw [show (10 * a1.toInt + (3 + a3.toInt % 7) + 10) = 10 * a1.toInt + 1 * x2.toInt + 10 by omega]; simp only [c9, c19, c88, c97, c99]; first | exact ⟨by assumption, by assumption, by assumption⟩ | (rintro ⟨q1, q2, q3⟩; first | exact absurd q1 (by assumption) | exact q2 (by assumption) | exact q3 (by assumption)))⟩))⟩ hw dX12_isDayFor_63
    · refine lv_if_ne (tgt := 62) hx hb dX12_isDayFor_37 (by decide) (fun _ => ?_) (fun c => absurd c (by decide))
      refine lv_iconst (v := 0) hx hb dX12_isDayFor_62 (by decide) ?_
      exact tk_zret hC hr rfl hlocks hK ⟨rfl, (Or.inr (Or.inl ⟨rfl, c19, (by have hq80 := hq80; rw [show x70.toInt = a3.toInt % 360 by omega] at hq80; unfold mDay; rw [show (10 * a1.toInt + (3 + a3.toInt % 7) + 10) = 10 * a1.toInt + 1 * x2.toInt + 10 by omega]; simp only [c9, c19, c77, c79]; first | exact ⟨by assumption, by assumption, by assumption⟩ | (rintro ⟨q1, q2, q3⟩; first | exact absurd q1 (by assumption) | exact q2 (by assumption) | exact q3 (by assumption)))⟩))⟩ hw dX12_isDayFor_63
abbrev P_X12_isLifted_5 (ad : Nat → Nat) (cy : Nat → ClassId) (B : Int) (qr : Nat) (s1 : Int) (a1 : Int32) (a2 : Int32) (w0 : va_W) : Int32 → va_W → Prop := fun r u => w0 = u ∧ ((r = 0 ∧ (¬ mLf w0 a1.toInt a2.toInt)) ∨ (r = 1 ∧ (∃ y : Int32, gi u 12 3 = y ∧ 1 ≤ y.toInt ∧ y.toInt ≤ 4) ∧ (mLf w0 a1.toInt a2.toInt)))
set_option maxHeartbeats 4000000 in
set_option maxRecDepth 100000 in
theorem k_X12_isLifted_5 (l : Launch) (adK adV : Nat → Nat) (dC : Nat → ClassId) (dI : Nat → Nat → Nat) (cy : Nat → ClassId) (ad : Nat → Nat) (B : Int) (hB0 : 100000 ≤ B) (hB1 : B ≤ 1073741824) (qr : Nat) (s1 : Int)  (a1 : Int32) (ra1 : 0 ≤ a1.toInt) (ta1 : a1.toInt ≤ 11) (a2 : Int32) (ra2 : 0 ≤ a2.toInt) (ta2 : a2.toInt ≤ 1073741944) (w0 : va_W) (sz : Nat) (hT : TW ksM ad cy B qr 12 w0)  : Met l yX12_isLifted (wu yX12_isLifted cX12_isLifted 5 (some .boolean)) ({ frames := 1, cells := 0, slots := 0, locals := 12 }) (va_Pc [.ref (ad 0), .int a1, .int a2] (wpreS adK adV dC dI cy sz w0)) (va_Qi (P_X12_isLifted_5 ad cy B qr s1 a1 a2 w0) (fun u : va_W => wpost dC dI cy (va_A w0 sz) u) (va_A w0 sz)) 0 0 (va_A w0 sz) := by
  refine Met.ofW (cc := cX12_isLifted) (maxL := 5) (ret := (some .boolean)) (by decide) rfl ?_
  intro p e s m args below meth c s₁ Bk hml hv
  obtain ⟨rfl, ⟨hsz, hP, hK, hD0⟩, hE, hSR⟩ := hv
  have hx := Bk.exec
  have hb := Bk.bytes
  have hr := Bk.returns
  have hlocks := Bk.notSynchronized
  have hC : CallFix p m c cX12_isLifted 5 s _ (wu yX12_isLifted cX12_isLifted 5 (some .boolean)) RX12 := ⟨hx, hb, hml, findClass_of_methodNamed Bk.named, atoms_spec (ws := (wu yX12_isLifted cX12_isLifted 5 (some .boolean))) Bk.pre⟩
  subst hsz
  have hD := hD0.self (sz := s.heap.size)
  generalize hAe : va_A w0 s.heap.size = A at hD hE ⊢
  have hA : ∀ q : Nat, s.heap.size ≤ q → A q := fun q h => by rw [← hAe]; exact Or.inr h
  have hw : Wd dC dI A s.heap s.heap [] w0 := ⟨hP, hD, va_S.rf⟩
  have hF : FE ksM ([] : List (Nat × Nat × Nat)) w0 w0 := FE.rf
  have hl := lv_entry ([.ref (ad 0), .int a1, .int a2]) (n := 5) (Nat.le_of_ble_eq_true rfl)
  rw [lg_entry_eq]
  generalize (lg_sl ([.ref (ad 0), .int a1, .int a2]) ++ List.replicate (5 - (lg_sl ([.ref (ad 0), .int a1, .int a2])).length) Slot.unset).toArray = ls at hl ⊢
  have hl : lv_has ls 5 [(0, .ref (ad 0)), (1, .int a1), (2, .int a2)] := hl
  generalize hloc : ([] : List Loc) = locs at hw ⊢
  have hinX12 : ∀ w ∈ u_ws RX12 TX12 42, w ∈ (wu yX12_isLifted cX12_isLifted 5 (some .boolean)) := fun _ h => List.mem_cons_of_mem _ (up_71 h)
  have L2 : ∀ (n2 : Nat) (v2_3 : Int32) (H : Heap) (locs : List Loc) (ls : Array Slot), 0 ≤ a1.toInt → a1.toInt ≤ 11 → 0 ≤ a2.toInt → a2.toInt ≤ 1073741944 → 0 ≤ v2_3.toInt → v2_3.toInt ≤ 4 → (∀ k : Int, 0 ≤ k → k < v2_3.toInt → ¬ mLf1 w0 k a1.toInt a2.toInt) → (4 - v2_3.toInt).toNat < n2 → Wd dC dI A s.heap H locs w0 → lv_has ls 5 [(0, .ref (ad 0)), (1, .int a1), (2, .int a2), (3, .int v2_3)] → W p l e ({ frames := 1, cells := 0, slots := 0, locals := 12 }) s m (List.toArray [.ref (ad 0), .int a1, .int a2]) below meth c H locs 0 0 (MQ below (va_Qi (P_X12_isLifted_5 ad cy B qr s1 a1 a2 w0) (fun u : va_W => wpost dC dI cy A u) A) (List.toArray [.ref (ad 0), .int a1, .int a2]) s 0 0 A) (F0 m 2 ls []) := by
    intro n2
    induction n2 with
    | zero => intro v2_3 H locs ls r1 t2 r3 t4 r5 t6 hcr2_0 hm2 hw hl; omega
    | succ n2 ih2 =>
      intro v2_3 H locs ls r1 t2 r3 t4 r5 t6 hcr2_0 hm2 hw hl
      refine lv_iload_n hx hb dX12_isLifted_2 rfl (lv_at hl 3 rfl) ?_
      refine lv_aload_n hx hb dX12_isLifted_3 rfl (lv_at hl 0 rfl) ?_
      refine tk_getA hC hK hw hT hinX12 kM_at0 (by decide) rfl 26 (by decide) (List.mem_cons_of_mem _ uw_7_1) rfl rfl dX12_isLifted_4 ?_
      refine lv_iconst (v := 3) hx hb dX12_isLifted_7 (by decide) ?_
      refine tk_ialdR hC hK hw hT kM_at12 rfl (by decide) (by decide) dX12_isLifted_8 (fun x7 c8 Ex7 => ?_)
      have bx7 := tk_rgI rfl 3 1 1 0 4 (by decide +kernel) ⟨0, by decide, by decide⟩ Ex7
      have c8 : gi w0 12 3 = x7 := c8
      refine lv_icmp_ge (tgt := 72) hx hb dX12_isLifted_9 (by decide) (fun c9 => ?_) (fun c9 => ?_)
      · have c9 : x7.toInt ≤ v2_3.toInt := wk_le.mp c9
        refine lv_iconst (v := 0) hx hb dX12_isLifted_72 (by decide) ?_
        exact tk_zret hC hr rfl hlocks hK ⟨rfl, (Or.inl ⟨rfl, (by exact mLf_no hcr2_0 (by simp only [c8]; omega))⟩)⟩ hw dX12_isLifted_73
      · have c9 : v2_3.toInt < x7.toInt := wk_leF c9
        refine lv_sipush (v := 156) hx hb dX12_isLifted_12 (by decide) ?_
        refine lv_iconst (v := 3) hx hb dX12_isLifted_15 (by decide) ?_
        refine lv_iload_n hx hb dX12_isLifted_16 rfl (lv_at hl 3 rfl) ?_
        refine lv_imul hx hb dX12_isLifted_17 ?_
        refine lv_topi (fun x10 ex10 => ?_)
        have ex10 : x10.toInt = (3 : Int) * v2_3.toInt := by rw [ex10]; exact wk_mul (show (-2147483648) ≤ (3 : Int) * v2_3.toInt by omega) (show (3 : Int) * v2_3.toInt ≤ 2147483647 by omega)
        refine lv_iadd hx hb dX12_isLifted_18 ?_
        refine lv_topi (fun x11 ex11 => ?_)
        have ex11 : x11.toInt = (156 : Int) + x10.toInt := by rw [ex11]; exact wk_add (show (-2147483648) ≤ (156 : Int) + x10.toInt by omega) (show (156 : Int) + x10.toInt ≤ 2147483647 by omega)
        refine lv_istore (lv' := [(4, .int x11), (0, .ref (ad 0)), (1, .int a1), (2, .int a2), (3, .int v2_3)]) hx hb dX12_isLifted_19 hl (by decide) rfl (fun ls hl => ?_)
        refine lv_aload_n hx hb dX12_isLifted_21 rfl (lv_at hl 1 rfl) ?_
        refine tk_getA hC hK hw hT hinX12 kM_at0 (by decide) rfl 26 (by decide) (List.mem_cons_of_mem _ uw_7_1) rfl rfl dX12_isLifted_22 ?_
        refine lv_iload hx hb dX12_isLifted_25 (lv_at hl 0 rfl) ?_
        refine tk_ialdR hC hK hw hT kM_at12 rfl (show 0 ≤ x11.toInt by first | with_reducible assumption | omega) (show x11.toInt < 296 by first | with_reducible assumption | omega) dX12_isLifted_27 (fun x12 c13 Ex12 => ?_)
        have c13 : gi w0 12 (3 * v2_3.toInt + 156).toNat = x12 := (congrArg (gi w0 12) (congrArg Int.toNat (show 3 * v2_3.toInt + 156 = x11.toInt by first | exact Int.le_antisymm (by omega) (by omega) | omega))).trans c13
        refine lv_iload_n hx hb dX12_isLifted_28 rfl (lv_at hl 2 rfl) ?_
        refine lv_icmp_ne (tgt := 66) hx hb dX12_isLifted_29 (by decide) (fun c14 => ?_) (fun c14 => ?_)
        · have c14 : ¬ x12.toInt = a1.toInt := wk_eqF c14
          obtain ⟨x15, ex15⟩ : ∃ y : Int32, y = v2_3 + Int32.ofInt 1 := ⟨_, rfl⟩
          refine lv_iinc (v := x15) (lv' := [(3, .int x15), (4, .int x11), (0, .ref (ad 0)), (1, .int a1), (2, .int a2)]) hx hb dX12_isLifted_66 hl (k := 4) rfl ex15.symm (by decide) rfl (fun ls hl => ?_)
          have ex15 : x15.toInt = v2_3.toInt + 1 := by rw [ex15]; exact wk_add (y := 1) (show -2147483648 ≤ v2_3.toInt + 1 by omega) (show v2_3.toInt + 1 ≤ 2147483647 by omega)
          refine lv_goto (tgt := 2) hx hb dX12_isLifted_69 (by decide) ?_
          exact ih2 x15 H locs ls  (show 0 ≤ a1.toInt from r1) (show a1.toInt ≤ 11 from t2) (show 0 ≤ a2.toInt from r3) (show a2.toInt ≤ 1073741944 from t4) (show 0 ≤ x15.toInt by first | with_reducible assumption | omega) (show x15.toInt ≤ 4 by first | with_reducible assumption | omega) (show ∀ k : Int, 0 ≤ k → k < x15.toInt → ¬ mLf1 w0 k a1.toInt a2.toInt from all_step hcr2_0 (show ¬ mLf1 w0 v2_3.toInt a1.toInt a2.toInt by unfold mLf1; simp only [c8, c13]; omega) (by omega)) (show (4 - x15.toInt).toNat < n2 by first | exact tn_lt hm2 (by omega) (by omega) | omega) hw   (lv_sub hl [2, 3, 4, 0] rfl)
        · have c14 : x12.toInt = a1.toInt := wk_eq.mp c14
          refine lv_iload_n hx hb dX12_isLifted_32 rfl (lv_at hl 3 rfl) ?_
          refine lv_bipush (v := 24) hx hb dX12_isLifted_33 (by decide) ?_
          refine lv_irem hx hb dX12_isLifted_35 (by decide) ?_
          refine lv_topi (fun x16 ex16 => ?_)
          have ex16 : x16.toInt = a2.toInt % (24 : Int) := by rw [ex16]; exact wk_rem (show 0 ≤ a2.toInt from r3) (show 0 < (24 : Int) by decide)
          refine lv_aload_n hx hb dX12_isLifted_36 rfl (lv_at hl 1 rfl) ?_
          refine tk_getA hC hK hw hT hinX12 kM_at0 (by decide) rfl 26 (by decide) (List.mem_cons_of_mem _ uw_7_1) rfl rfl dX12_isLifted_37 ?_
          refine lv_iload hx hb dX12_isLifted_40 (lv_at hl 0 rfl) ?_
          refine lv_iconst (v := 1) hx hb dX12_isLifted_42 (by decide) ?_
          refine lv_iadd hx hb dX12_isLifted_43 ?_
          refine lv_topi (fun x17 ex17 => ?_)
          have ex17 : x17.toInt = x11.toInt + (1 : Int) := by rw [ex17]; exact wk_add (show (-2147483648) ≤ x11.toInt + (1 : Int) by omega) (show x11.toInt + (1 : Int) ≤ 2147483647 by omega)
          refine tk_ialdR hC hK hw hT kM_at12 rfl (show 0 ≤ x17.toInt by first | with_reducible assumption | omega) (show x17.toInt < 296 by first | with_reducible assumption | omega) dX12_isLifted_44 (fun x18 c19 Ex18 => ?_)
          have c19 : gi w0 12 (3 * v2_3.toInt + 157).toNat = x18 := (congrArg (gi w0 12) (congrArg Int.toNat (show 3 * v2_3.toInt + 157 = x17.toInt by first | exact Int.le_antisymm (by omega) (by omega) | omega))).trans c19
          refine lv_icmp_lt (tgt := 66) hx hb dX12_isLifted_45 (by decide) (fun c20 => ?_) (fun c20 => ?_)
          · have c20 : x16.toInt < x18.toInt := wk_lt.mp c20
            obtain ⟨x21, ex21⟩ : ∃ y : Int32, y = v2_3 + Int32.ofInt 1 := ⟨_, rfl⟩
            refine lv_iinc (v := x21) (lv' := [(3, .int x21), (4, .int x11), (0, .ref (ad 0)), (1, .int a1), (2, .int a2)]) hx hb dX12_isLifted_66 hl (k := 4) rfl ex21.symm (by decide) rfl (fun ls hl => ?_)
            have ex21 : x21.toInt = v2_3.toInt + 1 := by rw [ex21]; exact wk_add (y := 1) (show -2147483648 ≤ v2_3.toInt + 1 by omega) (show v2_3.toInt + 1 ≤ 2147483647 by omega)
            refine lv_goto (tgt := 2) hx hb dX12_isLifted_69 (by decide) ?_
            exact ih2 x21 H locs ls  (show 0 ≤ a1.toInt from r1) (show a1.toInt ≤ 11 from t2) (show 0 ≤ a2.toInt from r3) (show a2.toInt ≤ 1073741944 from t4) (show 0 ≤ x21.toInt by first | with_reducible assumption | omega) (show x21.toInt ≤ 4 by first | with_reducible assumption | omega) (show ∀ k : Int, 0 ≤ k → k < x21.toInt → ¬ mLf1 w0 k a1.toInt a2.toInt from all_step hcr2_0 (show ¬ mLf1 w0 v2_3.toInt a1.toInt a2.toInt by unfold mLf1; simp only [c8, c13, c19]; omega) (by omega)) (show (4 - x21.toInt).toNat < n2 by first | exact tn_lt hm2 (by omega) (by omega) | omega) hw   (lv_sub hl [2, 3, 4, 0] rfl)
          · have c20 : x18.toInt ≤ x16.toInt := wk_ltF c20
            refine lv_iload_n hx hb dX12_isLifted_48 rfl (lv_at hl 3 rfl) ?_
            refine lv_bipush (v := 24) hx hb dX12_isLifted_49 (by decide) ?_
            refine lv_irem hx hb dX12_isLifted_51 (by decide) ?_
            refine lv_topi (fun x22 ex22 => ?_)
            have ex22 : x22.toInt = a2.toInt % (24 : Int) := by rw [ex22]; exact wk_rem (show 0 ≤ a2.toInt from r3) (show 0 < (24 : Int) by decide)
            refine lv_aload_n hx hb dX12_isLifted_52 rfl (lv_at hl 1 rfl) ?_
            refine tk_getA hC hK hw hT hinX12 kM_at0 (by decide) rfl 26 (by decide) (List.mem_cons_of_mem _ uw_7_1) rfl rfl dX12_isLifted_53 ?_
            refine lv_iload hx hb dX12_isLifted_56 (lv_at hl 0 rfl) ?_
            refine lv_iconst (v := 2) hx hb dX12_isLifted_58 (by decide) ?_
            refine lv_iadd hx hb dX12_isLifted_59 ?_
            refine lv_topi (fun x23 ex23 => ?_)
            have ex23 : x23.toInt = x11.toInt + (2 : Int) := by rw [ex23]; exact wk_add (show (-2147483648) ≤ x11.toInt + (2 : Int) by omega) (show x11.toInt + (2 : Int) ≤ 2147483647 by omega)
            refine tk_ialdR hC hK hw hT kM_at12 rfl (show 0 ≤ x23.toInt by first | with_reducible assumption | omega) (show x23.toInt < 296 by first | with_reducible assumption | omega) dX12_isLifted_60 (fun x24 c25 Ex24 => ?_)
            have c25 : gi w0 12 (3 * v2_3.toInt + 158).toNat = x24 := (congrArg (gi w0 12) (congrArg Int.toNat (show 3 * v2_3.toInt + 158 = x23.toInt by first | exact Int.le_antisymm (by omega) (by omega) | omega))).trans c25
            refine lv_icmp_ge (tgt := 66) hx hb dX12_isLifted_61 (by decide) (fun c26 => ?_) (fun c26 => ?_)
            · have c26 : x24.toInt ≤ x22.toInt := wk_le.mp c26
              obtain ⟨x27, ex27⟩ : ∃ y : Int32, y = v2_3 + Int32.ofInt 1 := ⟨_, rfl⟩
              refine lv_iinc (v := x27) (lv' := [(3, .int x27), (4, .int x11), (0, .ref (ad 0)), (1, .int a1), (2, .int a2)]) hx hb dX12_isLifted_66 hl (k := 4) rfl ex27.symm (by decide) rfl (fun ls hl => ?_)
              have ex27 : x27.toInt = v2_3.toInt + 1 := by rw [ex27]; exact wk_add (y := 1) (show -2147483648 ≤ v2_3.toInt + 1 by omega) (show v2_3.toInt + 1 ≤ 2147483647 by omega)
              refine lv_goto (tgt := 2) hx hb dX12_isLifted_69 (by decide) ?_
              exact ih2 x27 H locs ls  (show 0 ≤ a1.toInt from r1) (show a1.toInt ≤ 11 from t2) (show 0 ≤ a2.toInt from r3) (show a2.toInt ≤ 1073741944 from t4) (show 0 ≤ x27.toInt by first | with_reducible assumption | omega) (show x27.toInt ≤ 4 by first | with_reducible assumption | omega) (show ∀ k : Int, 0 ≤ k → k < x27.toInt → ¬ mLf1 w0 k a1.toInt a2.toInt from all_step hcr2_0 (show ¬ mLf1 w0 v2_3.toInt a1.toInt a2.toInt by unfold mLf1; simp only [c8, c13, c19, c25]; omega) (by omega)) (show (4 - x27.toInt).toNat < n2 by first | exact tn_lt hm2 (by omega) (by omega) | omega) hw   (lv_sub hl [2, 3, 4, 0] rfl)
            · have c26 : x22.toInt < x24.toInt := wk_leF c26
              refine lv_iconst (v := 1) hx hb dX12_isLifted_64 (by decide) ?_
              exact tk_zret hC hr rfl hlocks hK ⟨rfl, (Or.inr ⟨rfl, ⟨x7, c8, (show 1 ≤ x7.toInt by first | with_reducible assumption | omega), (show x7.toInt ≤ 4 by first | with_reducible assumption | omega)⟩, (by exact ⟨v2_3.toInt, by omega, by simp only [c8, c13, c19, c25]; omega, by unfold mLf1; simp only [c8, c13, c19, c25]; omega⟩)⟩)⟩ hw dX12_isLifted_65
  refine lv_iconst (v := 0) hx hb dX12_isLifted_0 (by decide) ?_
  refine lv_istore_n (lv' := [(3, .int 0), (0, .ref (ad 0)), (1, .int a1), (2, .int a2)]) hx hb dX12_isLifted_1 rfl hl (by decide) rfl (fun ls hl => ?_)
  exact L2 ((4 - (0 : Int)).toNat + 1) 0 s.heap locs ls  (show 0 ≤ a1.toInt from ra1) (show a1.toInt ≤ 11 from ta1) (show 0 ≤ a2.toInt from ra2) (show a2.toInt ≤ 1073741944 from ta2) (by decide) (by decide) (show ∀ k : Int, 0 ≤ k → k < (0 : Int) → ¬ mLf1 w0 k a1.toInt a2.toInt from all_none) (Nat.lt_succ_self _) hw   (lv_sub hl [1, 2, 3, 0] rfl)
abbrev P_X12_isOpen_3 (ad : Nat → Nat) (cy : Nat → ClassId) (B : Int) (qr : Nat) (s1 : Int) (a1 : Int32) (a2 : Int32) (a3 : Int32) (w0 : va_W) : Int32 → va_W → Prop := fun r u => w0 = u ∧ ((r = 0 ∧ (¬ mOpen w0 a1.toInt a2.toInt a3.toInt)) ∨ (r = 0 ∧ gi u 12 (10 * a1.toInt + 10).toNat = a2 ∧ gi u 12 (10 * a1.toInt + 11).toNat = a2 ∧ (¬ mOpen w0 a1.toInt a2.toInt a3.toInt)) ∨ (r = 0 ∧ gi u 12 (10 * a1.toInt + 10).toNat = a2 ∧ (¬ mOpen w0 a1.toInt a2.toInt a3.toInt)) ∨ (r = 0 ∧ gi u 12 (10 * a1.toInt + 11).toNat = a2 ∧ (¬ mOpen w0 a1.toInt a2.toInt a3.toInt)) ∨ (r = 1 ∧ gi u 12 (10 * a1.toInt + 10).toNat = a2 ∧ gi u 12 (10 * a1.toInt + 11).toNat = a2 ∧ (mOpen w0 a1.toInt a2.toInt a3.toInt)) ∨ (r = 1 ∧ gi u 12 (10 * a1.toInt + 10).toNat = a2 ∧ (mOpen w0 a1.toInt a2.toInt a3.toInt)) ∨ (r = 1 ∧ gi u 12 (10 * a1.toInt + 11).toNat = a2 ∧ (mOpen w0 a1.toInt a2.toInt a3.toInt)))
set_option maxHeartbeats 4000000 in
set_option maxRecDepth 100000 in
theorem k_X12_isOpen_3 (l : Launch) (adK adV : Nat → Nat) (dC : Nat → ClassId) (dI : Nat → Nat → Nat) (cy : Nat → ClassId) (ad : Nat → Nat) (B : Int) (hB0 : 100000 ≤ B) (hB1 : B ≤ 1073741824) (qr : Nat) (s1 : Int)  (a1 : Int32) (ra1 : 0 ≤ a1.toInt) (ta1 : a1.toInt ≤ 11) (a2 : Int32) (ra2 : 0 ≤ a2.toInt) (ta2 : a2.toInt ≤ 9) (a3 : Int32) (ra3 : 0 ≤ a3.toInt) (ta3 : a3.toInt ≤ 1073741944) (w0 : va_W) (sz : Nat) (hT : TW ksM ad cy B qr 12 w0)  : Met l yX12_isOpen (wu yX12_isOpen cX12_isOpen 4 (some .boolean)) ({ frames := 4, cells := 0, slots := 0, locals := 80 }) (va_Pc [.ref (ad 0), .int a1, .int a2, .int a3] (wpreS adK adV dC dI cy sz w0)) (va_Qi (P_X12_isOpen_3 ad cy B qr s1 a1 a2 a3 w0) (fun u : va_W => wpost dC dI cy (va_A w0 sz) u) (va_A w0 sz)) 0 0 (va_A w0 sz) := by
  refine Met.ofW (cc := cX12_isOpen) (maxL := 4) (ret := (some .boolean)) (by decide) rfl ?_
  intro p e s m args below meth c s₁ Bk hml hv
  obtain ⟨rfl, ⟨hsz, hP, hK, hD0⟩, hE, hSR⟩ := hv
  have hx := Bk.exec
  have hb := Bk.bytes
  have hr := Bk.returns
  have hlocks := Bk.notSynchronized
  have hC : CallFix p m c cX12_isOpen 4 s _ (wu yX12_isOpen cX12_isOpen 4 (some .boolean)) RX12 := ⟨hx, hb, hml, findClass_of_methodNamed Bk.named, atoms_spec (ws := (wu yX12_isOpen cX12_isOpen 4 (some .boolean))) Bk.pre⟩
  subst hsz
  have hD := hD0.self (sz := s.heap.size)
  generalize hAe : va_A w0 s.heap.size = A at hD hE ⊢
  have hA : ∀ q : Nat, s.heap.size ≤ q → A q := fun q h => by rw [← hAe]; exact Or.inr h
  have hw : Wd dC dI A s.heap s.heap [] w0 := ⟨hP, hD, va_S.rf⟩
  have hF : FE ksM ([] : List (Nat × Nat × Nat)) w0 w0 := FE.rf
  have hl := lv_entry ([.ref (ad 0), .int a1, .int a2, .int a3]) (n := 4) (Nat.le_of_ble_eq_true rfl)
  rw [lg_entry_eq]
  generalize (lg_sl ([.ref (ad 0), .int a1, .int a2, .int a3]) ++ List.replicate (4 - (lg_sl ([.ref (ad 0), .int a1, .int a2, .int a3])).length) Slot.unset).toArray = ls at hl ⊢
  have hl : lv_has ls 4 [(0, .ref (ad 0)), (1, .int a1), (2, .int a2), (3, .int a3)] := hl
  generalize hloc : ([] : List Loc) = locs at hw ⊢
  refine lv_aload_n hx hb dX12_isOpen_0 rfl (lv_at hl 0 rfl) ?_
  refine lv_iload_n hx hb dX12_isOpen_1 rfl (lv_at hl 1 rfl) ?_
  refine lv_iload_n hx hb dX12_isOpen_2 rfl (lv_at hl 2 rfl) ?_
  refine tk_Vi hC hK hw hT hA hE hSR kM_at0 (by decide) rfl (k_X12_isAt_1 l adK adV dC dI cy ad B hB0 (Int.le_trans hB1 (by decide)) qr s1   a1 (show 0 ≤ a1.toInt from ra1) (show a1.toInt ≤ 11 from ta1) a2 (show 0 ≤ a2.toInt from ra2) (show a2.toInt ≤ 9 from ta2) w0 s.heap.size hT ) (cwV 2 hC.2.2.2.2 uV_RX12_314 rfl rfl rfl (by decide +kernel) ⟨Nat.le_of_ble_eq_true rfl, Nat.le_of_ble_eq_true rfl⟩) rfl hl.1 rfl (Nat.le_of_ble_eq_true rfl) dX12_isOpen_3 (fun r1 w3 H locs hp2 hw => ?_)
  obtain ⟨rfl, hg10⟩ := hp2
  rcases hg10 with ⟨rfl, hq5⟩ | ⟨rfl, c6, hq7⟩ | ⟨rfl, c8, hq9⟩
  · refine lv_if_eq (tgt := 35) hx hb dX12_isOpen_6 (by decide) (fun _ => ?_) (fun c => absurd (by decide) c)
    refine lv_iconst (v := 0) hx hb dX12_isOpen_35 (by decide) ?_
    exact tk_zret hC hr rfl hlocks hK ⟨rfl, (Or.inl ⟨rfl, (by unfold mOpen; first | exact ⟨by assumption, by assumption, by assumption⟩ | (rintro ⟨q1, q2, q3⟩; first | exact absurd q1 (by assumption) | exact absurd q2 (by assumption) | exact q3 (by assumption)))⟩)⟩ hw dX12_isOpen_36
  · refine lv_if_eq (tgt := 35) hx hb dX12_isOpen_6 (by decide) (fun c => absurd c (by decide)) (fun _ => ?_)
    refine lv_aload_n hx hb dX12_isOpen_9 rfl (lv_at hl 0 rfl) ?_
    refine lv_iload_n hx hb dX12_isOpen_10 rfl (lv_at hl 1 rfl) ?_
    refine lv_iload_n hx hb dX12_isOpen_11 rfl (lv_at hl 2 rfl) ?_
    refine lv_iload_n hx hb dX12_isOpen_12 rfl (lv_at hl 3 rfl) ?_
    refine lv_bipush (v := 24) hx hb dX12_isOpen_13 (by decide) ?_
    refine lv_idiv hx hb dX12_isOpen_15 (by decide) ?_
    refine lv_topi (fun x11 ex11 => ?_)
    have ex11 : x11.toInt = a3.toInt / (24 : Int) := by rw [ex11]; exact wk_div (show 0 ≤ a3.toInt from ra3) (show 0 < (24 : Int) by decide)
    refine tk_Vi hC hK hw hT hA hE hSR kM_at0 (by decide) rfl (k_X12_isDayFor_5 l adK adV dC dI cy ad B hB0 (Int.le_trans hB1 (by decide)) qr s1   a1 (show 0 ≤ a1.toInt from ra1) (show a1.toInt ≤ 11 from ta1) a2 (show 0 ≤ a2.toInt from ra2) (show a2.toInt ≤ 9 from ta2) x11 (show 0 ≤ x11.toInt by first | with_reducible assumption | omega) (show x11.toInt ≤ 44739247 by first | with_reducible assumption | omega) w0 H.size hT ) (cwV 3 hC.2.2.2.2 uV_RX12_317 rfl rfl rfl (by decide +kernel) ⟨Nat.le_of_ble_eq_true rfl, Nat.le_of_ble_eq_true rfl⟩) rfl hl.1 rfl (Nat.le_of_ble_eq_true rfl) dX12_isOpen_16 (fun r12 w14 H locs hp13 hw => ?_)
    obtain ⟨rfl, hg22⟩ := hp13
    rcases hg22 with ⟨rfl, hq16⟩ | ⟨rfl, c17, hq18⟩ | ⟨rfl, hq19⟩ | ⟨rfl, c20, hq21⟩
    · refine lv_if_eq (tgt := 35) hx hb dX12_isOpen_19 (by decide) (fun _ => ?_) (fun c => absurd (by decide) c)
      refine lv_iconst (v := 0) hx hb dX12_isOpen_35 (by decide) ?_
      exact tk_zret hC hr rfl hlocks hK ⟨rfl, (Or.inr (Or.inr (Or.inl ⟨rfl, c6, (by rw [show x11.toInt = a3.toInt / 24 by omega] at hq16; unfold mOpen; first | exact ⟨by assumption, by assumption, by assumption⟩ | (rintro ⟨q1, q2, q3⟩; first | exact absurd q1 (by assumption) | exact absurd q2 (by assumption) | exact q3 (by assumption)))⟩)))⟩ hw dX12_isOpen_36
    · refine lv_if_eq (tgt := 35) hx hb dX12_isOpen_19 (by decide) (fun _ => ?_) (fun c => absurd (by decide) c)
      refine lv_iconst (v := 0) hx hb dX12_isOpen_35 (by decide) ?_
      exact tk_zret hC hr rfl hlocks hK ⟨rfl, (Or.inr (Or.inr (Or.inl ⟨rfl, c6, (by rw [show x11.toInt = a3.toInt / 24 by omega] at hq18; unfold mOpen; first | exact ⟨by assumption, by assumption, by assumption⟩ | (rintro ⟨q1, q2, q3⟩; first | exact absurd q1 (by assumption) | exact absurd q2 (by assumption) | exact q3 (by assumption)))⟩)))⟩ hw dX12_isOpen_36
    · refine lv_if_eq (tgt := 35) hx hb dX12_isOpen_19 (by decide) (fun c => absurd c (by decide)) (fun _ => ?_)
      refine lv_aload_n hx hb dX12_isOpen_22 rfl (lv_at hl 0 rfl) ?_
      refine lv_iload_n hx hb dX12_isOpen_23 rfl (lv_at hl 1 rfl) ?_
      refine lv_iload_n hx hb dX12_isOpen_24 rfl (lv_at hl 3 rfl) ?_
      refine tk_Vi hC hK hw hT hA hE hSR kM_at0 (by decide) rfl (k_X12_isLifted_5 l adK adV dC dI cy ad B hB0 (Int.le_trans hB1 (by decide)) qr s1   a1 (show 0 ≤ a1.toInt from ra1) (show a1.toInt ≤ 11 from ta1) a3 (show 0 ≤ a3.toInt from ra3) (show a3.toInt ≤ 1073741944 from ta3) w0 H.size hT ) (cwV 2 hC.2.2.2.2 uV_RX12_320 rfl rfl rfl (by decide +kernel) ⟨Nat.le_of_ble_eq_true rfl, Nat.le_of_ble_eq_true rfl⟩) rfl hl.1 rfl (Nat.le_of_ble_eq_true rfl) dX12_isOpen_25 (fun r23 w25 H locs hp24 hw => ?_)
      obtain ⟨rfl, hg31⟩ := hp24
      rcases hg31 with ⟨rfl, hq27⟩ | ⟨rfl, ⟨x28, c29, rx28, tx28⟩, hq30⟩
      · refine lv_if_ne (tgt := 35) hx hb dX12_isOpen_28 (by decide) (fun c => absurd (by decide) c) (fun _ => ?_)
        refine lv_iconst (v := 1) hx hb dX12_isOpen_31 (by decide) ?_
        refine lv_goto (tgt := 36) hx hb dX12_isOpen_32 (by decide) ?_
        exact tk_zret hC hr rfl hlocks hK ⟨rfl, (Or.inr (Or.inr (Or.inr (Or.inr (Or.inr (Or.inl ⟨rfl, c6, (by rw [show x11.toInt = a3.toInt / 24 by omega] at hq19; unfold mOpen; first | exact ⟨by assumption, by assumption, by assumption⟩ | (rintro ⟨q1, q2, q3⟩; first | exact absurd q1 (by assumption) | exact absurd q2 (by assumption) | exact q3 (by assumption)))⟩))))))⟩ hw dX12_isOpen_36
      · refine lv_if_ne (tgt := 35) hx hb dX12_isOpen_28 (by decide) (fun _ => ?_) (fun c => absurd c (by decide))
        refine lv_iconst (v := 0) hx hb dX12_isOpen_35 (by decide) ?_
        exact tk_zret hC hr rfl hlocks hK ⟨rfl, (Or.inr (Or.inr (Or.inl ⟨rfl, c6, (by rw [show x11.toInt = a3.toInt / 24 by omega] at hq19; unfold mOpen; first | exact ⟨by assumption, by assumption, by assumption⟩ | (rintro ⟨q1, q2, q3⟩; first | exact absurd q1 (by assumption) | exact absurd q2 (by assumption) | exact q3 (by assumption)))⟩)))⟩ hw dX12_isOpen_36
    · refine lv_if_eq (tgt := 35) hx hb dX12_isOpen_19 (by decide) (fun c => absurd c (by decide)) (fun _ => ?_)
      refine lv_aload_n hx hb dX12_isOpen_22 rfl (lv_at hl 0 rfl) ?_
      refine lv_iload_n hx hb dX12_isOpen_23 rfl (lv_at hl 1 rfl) ?_
      refine lv_iload_n hx hb dX12_isOpen_24 rfl (lv_at hl 3 rfl) ?_
      refine tk_Vi hC hK hw hT hA hE hSR kM_at0 (by decide) rfl (k_X12_isLifted_5 l adK adV dC dI cy ad B hB0 (Int.le_trans hB1 (by decide)) qr s1   a1 (show 0 ≤ a1.toInt from ra1) (show a1.toInt ≤ 11 from ta1) a3 (show 0 ≤ a3.toInt from ra3) (show a3.toInt ≤ 1073741944 from ta3) w0 H.size hT ) (cwV 2 hC.2.2.2.2 uV_RX12_320 rfl rfl rfl (by decide +kernel) ⟨Nat.le_of_ble_eq_true rfl, Nat.le_of_ble_eq_true rfl⟩) rfl hl.1 rfl (Nat.le_of_ble_eq_true rfl) dX12_isOpen_25 (fun r32 w34 H locs hp33 hw => ?_)
      obtain ⟨rfl, hg40⟩ := hp33
      rcases hg40 with ⟨rfl, hq36⟩ | ⟨rfl, ⟨x37, c38, rx37, tx37⟩, hq39⟩
      · refine lv_if_ne (tgt := 35) hx hb dX12_isOpen_28 (by decide) (fun c => absurd (by decide) c) (fun _ => ?_)
        refine lv_iconst (v := 1) hx hb dX12_isOpen_31 (by decide) ?_
        refine lv_goto (tgt := 36) hx hb dX12_isOpen_32 (by decide) ?_
        exact tk_zret hC hr rfl hlocks hK ⟨rfl, (Or.inr (Or.inr (Or.inr (Or.inr (Or.inr (Or.inl ⟨rfl, c6, (by rw [show x11.toInt = a3.toInt / 24 by omega] at hq21; unfold mOpen; first | exact ⟨by assumption, by assumption, by assumption⟩ | (rintro ⟨q1, q2, q3⟩; first | exact absurd q1 (by assumption) | exact absurd q2 (by assumption) | exact q3 (by assumption)))⟩))))))⟩ hw dX12_isOpen_36
      · refine lv_if_ne (tgt := 35) hx hb dX12_isOpen_28 (by decide) (fun _ => ?_) (fun c => absurd c (by decide))
        refine lv_iconst (v := 0) hx hb dX12_isOpen_35 (by decide) ?_
        exact tk_zret hC hr rfl hlocks hK ⟨rfl, (Or.inr (Or.inr (Or.inl ⟨rfl, c6, (by rw [show x11.toInt = a3.toInt / 24 by omega] at hq21; unfold mOpen; first | exact ⟨by assumption, by assumption, by assumption⟩ | (rintro ⟨q1, q2, q3⟩; first | exact absurd q1 (by assumption) | exact absurd q2 (by assumption) | exact q3 (by assumption)))⟩)))⟩ hw dX12_isOpen_36
  · refine lv_if_eq (tgt := 35) hx hb dX12_isOpen_6 (by decide) (fun c => absurd c (by decide)) (fun _ => ?_)
    refine lv_aload_n hx hb dX12_isOpen_9 rfl (lv_at hl 0 rfl) ?_
    refine lv_iload_n hx hb dX12_isOpen_10 rfl (lv_at hl 1 rfl) ?_
    refine lv_iload_n hx hb dX12_isOpen_11 rfl (lv_at hl 2 rfl) ?_
    refine lv_iload_n hx hb dX12_isOpen_12 rfl (lv_at hl 3 rfl) ?_
    refine lv_bipush (v := 24) hx hb dX12_isOpen_13 (by decide) ?_
    refine lv_idiv hx hb dX12_isOpen_15 (by decide) ?_
    refine lv_topi (fun x41 ex41 => ?_)
    have ex41 : x41.toInt = a3.toInt / (24 : Int) := by rw [ex41]; exact wk_div (show 0 ≤ a3.toInt from ra3) (show 0 < (24 : Int) by decide)
    refine tk_Vi hC hK hw hT hA hE hSR kM_at0 (by decide) rfl (k_X12_isDayFor_5 l adK adV dC dI cy ad B hB0 (Int.le_trans hB1 (by decide)) qr s1   a1 (show 0 ≤ a1.toInt from ra1) (show a1.toInt ≤ 11 from ta1) a2 (show 0 ≤ a2.toInt from ra2) (show a2.toInt ≤ 9 from ta2) x41 (show 0 ≤ x41.toInt by first | with_reducible assumption | omega) (show x41.toInt ≤ 44739247 by first | with_reducible assumption | omega) w0 H.size hT ) (cwV 3 hC.2.2.2.2 uV_RX12_317 rfl rfl rfl (by decide +kernel) ⟨Nat.le_of_ble_eq_true rfl, Nat.le_of_ble_eq_true rfl⟩) rfl hl.1 rfl (Nat.le_of_ble_eq_true rfl) dX12_isOpen_16 (fun r42 w44 H locs hp43 hw => ?_)
    obtain ⟨rfl, hg52⟩ := hp43
    rcases hg52 with ⟨rfl, hq46⟩ | ⟨rfl, c47, hq48⟩ | ⟨rfl, hq49⟩ | ⟨rfl, c50, hq51⟩
    · refine lv_if_eq (tgt := 35) hx hb dX12_isOpen_19 (by decide) (fun _ => ?_) (fun c => absurd (by decide) c)
      refine lv_iconst (v := 0) hx hb dX12_isOpen_35 (by decide) ?_
      exact tk_zret hC hr rfl hlocks hK ⟨rfl, (Or.inr (Or.inr (Or.inr (Or.inl ⟨rfl, c8, (by rw [show x41.toInt = a3.toInt / 24 by omega] at hq46; unfold mOpen; first | exact ⟨by assumption, by assumption, by assumption⟩ | (rintro ⟨q1, q2, q3⟩; first | exact absurd q1 (by assumption) | exact absurd q2 (by assumption) | exact q3 (by assumption)))⟩))))⟩ hw dX12_isOpen_36
    · refine lv_if_eq (tgt := 35) hx hb dX12_isOpen_19 (by decide) (fun _ => ?_) (fun c => absurd (by decide) c)
      refine lv_iconst (v := 0) hx hb dX12_isOpen_35 (by decide) ?_
      exact tk_zret hC hr rfl hlocks hK ⟨rfl, (Or.inr (Or.inl ⟨rfl, c47, c8, (by rw [show x41.toInt = a3.toInt / 24 by omega] at hq48; unfold mOpen; first | exact ⟨by assumption, by assumption, by assumption⟩ | (rintro ⟨q1, q2, q3⟩; first | exact absurd q1 (by assumption) | exact absurd q2 (by assumption) | exact q3 (by assumption)))⟩))⟩ hw dX12_isOpen_36
    · refine lv_if_eq (tgt := 35) hx hb dX12_isOpen_19 (by decide) (fun c => absurd c (by decide)) (fun _ => ?_)
      refine lv_aload_n hx hb dX12_isOpen_22 rfl (lv_at hl 0 rfl) ?_
      refine lv_iload_n hx hb dX12_isOpen_23 rfl (lv_at hl 1 rfl) ?_
      refine lv_iload_n hx hb dX12_isOpen_24 rfl (lv_at hl 3 rfl) ?_
      refine tk_Vi hC hK hw hT hA hE hSR kM_at0 (by decide) rfl (k_X12_isLifted_5 l adK adV dC dI cy ad B hB0 (Int.le_trans hB1 (by decide)) qr s1   a1 (show 0 ≤ a1.toInt from ra1) (show a1.toInt ≤ 11 from ta1) a3 (show 0 ≤ a3.toInt from ra3) (show a3.toInt ≤ 1073741944 from ta3) w0 H.size hT ) (cwV 2 hC.2.2.2.2 uV_RX12_320 rfl rfl rfl (by decide +kernel) ⟨Nat.le_of_ble_eq_true rfl, Nat.le_of_ble_eq_true rfl⟩) rfl hl.1 rfl (Nat.le_of_ble_eq_true rfl) dX12_isOpen_25 (fun r53 w55 H locs hp54 hw => ?_)
      obtain ⟨rfl, hg61⟩ := hp54
      rcases hg61 with ⟨rfl, hq57⟩ | ⟨rfl, ⟨x58, c59, rx58, tx58⟩, hq60⟩
      · refine lv_if_ne (tgt := 35) hx hb dX12_isOpen_28 (by decide) (fun c => absurd (by decide) c) (fun _ => ?_)
        refine lv_iconst (v := 1) hx hb dX12_isOpen_31 (by decide) ?_
        refine lv_goto (tgt := 36) hx hb dX12_isOpen_32 (by decide) ?_
        exact tk_zret hC hr rfl hlocks hK ⟨rfl, (Or.inr (Or.inr (Or.inr (Or.inr (Or.inr (Or.inr ⟨rfl, c8, (by rw [show x41.toInt = a3.toInt / 24 by omega] at hq49; unfold mOpen; first | exact ⟨by assumption, by assumption, by assumption⟩ | (rintro ⟨q1, q2, q3⟩; first | exact absurd q1 (by assumption) | exact absurd q2 (by assumption) | exact q3 (by assumption)))⟩))))))⟩ hw dX12_isOpen_36
      · refine lv_if_ne (tgt := 35) hx hb dX12_isOpen_28 (by decide) (fun _ => ?_) (fun c => absurd c (by decide))
        refine lv_iconst (v := 0) hx hb dX12_isOpen_35 (by decide) ?_
        exact tk_zret hC hr rfl hlocks hK ⟨rfl, (Or.inr (Or.inr (Or.inr (Or.inl ⟨rfl, c8, (by rw [show x41.toInt = a3.toInt / 24 by omega] at hq49; unfold mOpen; first | exact ⟨by assumption, by assumption, by assumption⟩ | (rintro ⟨q1, q2, q3⟩; first | exact absurd q1 (by assumption) | exact absurd q2 (by assumption) | exact q3 (by assumption)))⟩))))⟩ hw dX12_isOpen_36
    · refine lv_if_eq (tgt := 35) hx hb dX12_isOpen_19 (by decide) (fun c => absurd c (by decide)) (fun _ => ?_)
      refine lv_aload_n hx hb dX12_isOpen_22 rfl (lv_at hl 0 rfl) ?_
      refine lv_iload_n hx hb dX12_isOpen_23 rfl (lv_at hl 1 rfl) ?_
      refine lv_iload_n hx hb dX12_isOpen_24 rfl (lv_at hl 3 rfl) ?_
      refine tk_Vi hC hK hw hT hA hE hSR kM_at0 (by decide) rfl (k_X12_isLifted_5 l adK adV dC dI cy ad B hB0 (Int.le_trans hB1 (by decide)) qr s1   a1 (show 0 ≤ a1.toInt from ra1) (show a1.toInt ≤ 11 from ta1) a3 (show 0 ≤ a3.toInt from ra3) (show a3.toInt ≤ 1073741944 from ta3) w0 H.size hT ) (cwV 2 hC.2.2.2.2 uV_RX12_320 rfl rfl rfl (by decide +kernel) ⟨Nat.le_of_ble_eq_true rfl, Nat.le_of_ble_eq_true rfl⟩) rfl hl.1 rfl (Nat.le_of_ble_eq_true rfl) dX12_isOpen_25 (fun r62 w64 H locs hp63 hw => ?_)
      obtain ⟨rfl, hg70⟩ := hp63
      rcases hg70 with ⟨rfl, hq66⟩ | ⟨rfl, ⟨x67, c68, rx67, tx67⟩, hq69⟩
      · refine lv_if_ne (tgt := 35) hx hb dX12_isOpen_28 (by decide) (fun c => absurd (by decide) c) (fun _ => ?_)
        refine lv_iconst (v := 1) hx hb dX12_isOpen_31 (by decide) ?_
        refine lv_goto (tgt := 36) hx hb dX12_isOpen_32 (by decide) ?_
        exact tk_zret hC hr rfl hlocks hK ⟨rfl, (Or.inr (Or.inr (Or.inr (Or.inr (Or.inl ⟨rfl, c50, c8, (by rw [show x41.toInt = a3.toInt / 24 by omega] at hq51; unfold mOpen; first | exact ⟨by assumption, by assumption, by assumption⟩ | (rintro ⟨q1, q2, q3⟩; first | exact absurd q1 (by assumption) | exact absurd q2 (by assumption) | exact q3 (by assumption)))⟩)))))⟩ hw dX12_isOpen_36
      · refine lv_if_ne (tgt := 35) hx hb dX12_isOpen_28 (by decide) (fun _ => ?_) (fun c => absurd c (by decide))
        refine lv_iconst (v := 0) hx hb dX12_isOpen_35 (by decide) ?_
        exact tk_zret hC hr rfl hlocks hK ⟨rfl, (Or.inr (Or.inl ⟨rfl, c50, c8, (by rw [show x41.toInt = a3.toInt / 24 by omega] at hq51; unfold mOpen; first | exact ⟨by assumption, by assumption, by assumption⟩ | (rintro ⟨q1, q2, q3⟩; first | exact absurd q1 (by assumption) | exact absurd q2 (by assumption) | exact q3 (by assumption)))⟩))⟩ hw dX12_isOpen_36
abbrev P_X12_leads_1 (ad : Nat → Nat) (cy : Nat → ClassId) (B : Int) (qr : Nat) (s1 : Int) (a1 : Int32) (a2 : Int32) (a3 : Int32) (a4 : Int32) (a6 : Int32) (w0 : va_W) : va_W → Prop := fun u => TW ksM ad cy B qr 12 u ∧ FE ksM [(72, 0, 12), (73, 0, 10), (76, 0, 2600)] w0 u ∧ ((True))
set_option maxHeartbeats 4000000 in
set_option maxRecDepth 100000 in
theorem k_X12_leads_1 (l : Launch) (adK adV : Nat → Nat) (dC : Nat → ClassId) (dI : Nat → Nat → Nat) (cy : Nat → ClassId) (ad : Nat → Nat) (B : Int) (hB0 : 100000 ≤ B) (hB1 : B ≤ 1073741824) (qr : Nat) (s1 : Int)  (a1 : Int32) (ra1 : 0 ≤ a1.toInt) (ta1 : a1.toInt ≤ 3) (a2 : Int32) (ra2 : 0 ≤ a2.toInt) (ta2 : a2.toInt ≤ 1073741824) (a3 : Int32) (ra3 : 0 ≤ a3.toInt) (ta3 : a3.toInt ≤ 120) (a4 : Int32) (ra4 : 0 ≤ a4.toInt) (ta4 : a4.toInt ≤ 9) (a6 : Int32) (ra6 : 0 ≤ a6.toInt) (ta6 : a6.toInt ≤ 120) (w0 : va_W) (sz : Nat) (hT : TW ksM ad cy B qr 12 w0)  : Met l yX12_leads (wu yX12_leads cX12_leads 12 none) ({ frames := 5, cells := 0, slots := 0, locals := 103 }) (va_Pc [.ref (ad 0), .int a1, .int a2, .int a3, .int a4, .int 0, .int a6] (wpreS adK adV dC dI cy sz w0)) (va_Qv (P_X12_leads_1 ad cy B qr s1 a1 a2 a3 a4 a6 w0) (fun u : va_W => wpost dC dI cy (va_A w0 sz) u) (va_A w0 sz)) 0 0 (va_A w0 sz) := by
  refine Met.ofW (cc := cX12_leads) (maxL := 12) (ret := none) (by decide) rfl ?_
  intro p e s m args below meth c s₁ Bk hml hv
  obtain ⟨rfl, ⟨hsz, hP, hK, hD0⟩, hE, hSR⟩ := hv
  have hx := Bk.exec
  have hb := Bk.bytes
  have hr := Bk.returns
  have hlocks := Bk.notSynchronized
  have hC : CallFix p m c cX12_leads 12 s _ (wu yX12_leads cX12_leads 12 none) RX12 := ⟨hx, hb, hml, findClass_of_methodNamed Bk.named, atoms_spec (ws := (wu yX12_leads cX12_leads 12 none)) Bk.pre⟩
  subst hsz
  have hD := hD0.self (sz := s.heap.size)
  generalize hAe : va_A w0 s.heap.size = A at hD hE ⊢
  have hA : ∀ q : Nat, s.heap.size ≤ q → A q := fun q h => by rw [← hAe]; exact Or.inr h
  have hw : Wd dC dI A s.heap s.heap [] w0 := ⟨hP, hD, va_S.rf⟩
  have hF : FE ksM [(72, 0, 12), (73, 0, 10), (76, 0, 2600)] w0 w0 := FE.rf
  have hl := lv_entry ([.ref (ad 0), .int a1, .int a2, .int a3, .int a4, .int 0, .int a6]) (n := 12) (Nat.le_of_ble_eq_true rfl)
  rw [lg_entry_eq]
  generalize (lg_sl ([.ref (ad 0), .int a1, .int a2, .int a3, .int a4, .int 0, .int a6]) ++ List.replicate (12 - (lg_sl ([.ref (ad 0), .int a1, .int a2, .int a3, .int a4, .int 0, .int a6])).length) Slot.unset).toArray = ls at hl ⊢
  have hl : lv_has ls 12 [(0, .ref (ad 0)), (1, .int a1), (2, .int a2), (3, .int a3), (4, .int a4), (5, .int 0), (6, .int a6)] := hl
  generalize hloc : ([] : List Loc) = locs at hw ⊢
  have hinX12 : ∀ w ∈ u_ws RX12 TX12 42, w ∈ (wu yX12_leads cX12_leads 12 none) := fun _ h => List.mem_cons_of_mem _ (up_71 h)
  have J41 : ∀ (v41_7 : Int32) (H : Heap) (locs : List Loc) (ls : Array Slot) (w1 : va_W), 0 ≤ a1.toInt → a1.toInt ≤ 3 → 0 ≤ a2.toInt → a2.toInt ≤ 1073741824 → 0 ≤ a3.toInt → a3.toInt ≤ 120 → 0 ≤ a4.toInt → a4.toInt ≤ 9 → 0 ≤ a6.toInt → a6.toInt ≤ 120 → Wd dC dI A s.heap H locs w1 → TW ksM ad cy B qr 12 w1 → FE ksM [(72, 0, 12), (73, 0, 10), (76, 0, 2600)] w0 w1 → lv_has ls 12 [(0, .ref (ad 0)), (1, .int a1), (2, .int a2), (3, .int a3), (4, .int a4), (5, .int 0), (6, .int a6), (7, .int v41_7)] → W p l e ({ frames := 5, cells := 0, slots := 0, locals := 103 }) s m (List.toArray [.ref (ad 0), .int a1, .int a2, .int a3, .int a4, .int 0, .int a6]) below meth c H locs 0 0 (MQ below (va_Qv (P_X12_leads_1 ad cy B qr s1 a1 a2 a3 a4 a6 w0) (fun u : va_W => wpost dC dI cy A u) A) (List.toArray [.ref (ad 0), .int a1, .int a2, .int a3, .int a4, .int 0, .int a6]) s 0 0 A) (F0 m 41 ls []) := by
    intro v41_7 H locs ls w1 r2 t3 r4 t5 r6 t7 r8 t9 r10 t11 hw hT hF hl
    exact tk_vret hC hr hlocks hK ⟨hT, hF, trivial⟩ hw dX12_leads_41
  have J181 : ∀ (v181_7 : Int32) (v181_8 : Int32) (v181_9 : Int32) (v181_10 : Int32) (f181_12__9_a1_toInt_217_toNat : Int32) (f181_12__9_a1_toInt_218_toNat : Int32) (H : Heap) (locs : List Loc) (ls : Array Slot) (w12 : va_W), 0 ≤ a1.toInt → a1.toInt ≤ 3 → 0 ≤ a2.toInt → a2.toInt ≤ 1073741824 → 0 ≤ a3.toInt → a3.toInt ≤ 120 → 0 ≤ a4.toInt → a4.toInt ≤ 9 → 0 ≤ a6.toInt → a6.toInt ≤ 120 → 0 ≤ v181_8.toInt → v181_8.toInt ≤ 1073741944 → 0 ≤ v181_9.toInt → v181_9.toInt ≤ 1 → (-1) ≤ v181_10.toInt → v181_10.toInt ≤ 11 → 0 ≤ f181_12__9_a1_toInt_217_toNat.toInt → f181_12__9_a1_toInt_217_toNat.toInt ≤ 9 → 0 ≤ f181_12__9_a1_toInt_218_toNat.toInt → f181_12__9_a1_toInt_218_toNat.toInt ≤ 3 → Wd dC dI A s.heap H locs w12 → TW ksM ad cy B qr 12 w12 → FE ksM [(72, 0, 12), (73, 0, 10), (76, 0, 2600)] w0 w12 → gi w12 12 (9 * a1.toInt + 217).toNat = f181_12__9_a1_toInt_217_toNat → gi w12 12 (9 * a1.toInt + 218).toNat = f181_12__9_a1_toInt_218_toNat → lv_has ls 12 [(0, .ref (ad 0)), (1, .int a1), (2, .int a2), (3, .int a3), (4, .int a4), (5, .int 0), (6, .int a6), (7, .int v181_7), (8, .int v181_8), (9, .int v181_9), (10, .int v181_10)] → W p l e ({ frames := 5, cells := 0, slots := 0, locals := 103 }) s m (List.toArray [.ref (ad 0), .int a1, .int a2, .int a3, .int a4, .int 0, .int a6]) below meth c H locs 0 0 (MQ below (va_Qv (P_X12_leads_1 ad cy B qr s1 a1 a2 a3 a4 a6 w0) (fun u : va_W => wpost dC dI cy A u) A) (List.toArray [.ref (ad 0), .int a1, .int a2, .int a3, .int a4, .int 0, .int a6]) s 0 0 A) (F0 m 181 ls []) := by
    intro v181_7 v181_8 v181_9 v181_10 f181_12__9_a1_toInt_217_toNat f181_12__9_a1_toInt_218_toNat H locs ls w12 r13 t14 r15 t16 r17 t18 r19 t20 r21 t22 r23 t24 r25 t26 r27 t28 r29 t30 r32 t33 hw hT hF c31 c34 hl
    exact tk_vret hC hr hlocks hK ⟨hT, hF, trivial⟩ hw dX12_leads_181
  have J241 : ∀ (v241_7 : Int32) (v241_8 : Int32) (v241_9 : Int32) (v241_10 : Int32) (v241_11 : Int32) (f241_12__9_a1_toInt_217_toNat : Int32) (f241_12__9_a1_toInt_218_toNat : Int32) (f241_12_1 : Int32) (H : Heap) (locs : List Loc) (ls : Array Slot) (w35 : va_W), 0 ≤ a1.toInt → a1.toInt ≤ 3 → 0 ≤ a2.toInt → a2.toInt ≤ 1073741824 → 0 ≤ a3.toInt → a3.toInt ≤ 120 → 0 ≤ a4.toInt → a4.toInt ≤ 9 → 0 ≤ a6.toInt → a6.toInt ≤ 120 → 0 ≤ v241_8.toInt → v241_8.toInt ≤ 1073741944 → 0 ≤ v241_9.toInt → v241_9.toInt ≤ 1 → 0 ≤ v241_10.toInt → v241_10.toInt ≤ 11 → 0 ≤ v241_11.toInt → v241_11.toInt ≤ 129 → 0 ≤ f241_12__9_a1_toInt_217_toNat.toInt → f241_12__9_a1_toInt_217_toNat.toInt ≤ 9 → 0 ≤ f241_12__9_a1_toInt_218_toNat.toInt → f241_12__9_a1_toInt_218_toNat.toInt ≤ 3 → 1 ≤ f241_12_1.toInt → f241_12_1.toInt ≤ 12 → Wd dC dI A s.heap H locs w35 → TW ksM ad cy B qr 12 w35 → FE ksM [(72, 0, 12), (73, 0, 10), (76, 0, 2600)] w0 w35 → gi w35 12 (9 * a1.toInt + 217).toNat = f241_12__9_a1_toInt_217_toNat → gi w35 12 (9 * a1.toInt + 218).toNat = f241_12__9_a1_toInt_218_toNat → gi w35 12 1 = f241_12_1 → lv_has ls 12 [(0, .ref (ad 0)), (1, .int a1), (2, .int a2), (3, .int a3), (4, .int a4), (5, .int 0), (6, .int a6), (7, .int v241_7), (8, .int v241_8), (9, .int v241_9), (10, .int v241_10), (11, .int v241_11)] → W p l e ({ frames := 5, cells := 0, slots := 0, locals := 103 }) s m (List.toArray [.ref (ad 0), .int a1, .int a2, .int a3, .int a4, .int 0, .int a6]) below meth c H locs 0 0 (MQ below (va_Qv (P_X12_leads_1 ad cy B qr s1 a1 a2 a3 a4 a6 w0) (fun u : va_W => wpost dC dI cy A u) A) (List.toArray [.ref (ad 0), .int a1, .int a2, .int a3, .int a4, .int 0, .int a6]) s 0 0 A) (F0 m 241 ls []) := by
    intro v241_7 v241_8 v241_9 v241_10 v241_11 f241_12__9_a1_toInt_217_toNat f241_12__9_a1_toInt_218_toNat f241_12_1 H locs ls w35 r36 t37 r38 t39 r40 t41 r42 t43 r44 t45 r46 t47 r48 t49 r50 t51 r52 t53 r54 t55 r57 t58 r60 t61 hw hT hF c56 c59 c62 hl
    exact tk_vret hC hr hlocks hK ⟨hT, hF, trivial⟩ hw dX12_leads_241
  have J145 : ∀ (v145_7 : Int32) (v145_8 : Int32) (v145_9 : Int32) (f145_12__9_a1_toInt_217_toNat : Int32) (f145_12__9_a1_toInt_218_toNat : Int32) (H : Heap) (locs : List Loc) (ls : Array Slot) (w63 : va_W), 0 ≤ a1.toInt → a1.toInt ≤ 3 → 0 ≤ a2.toInt → a2.toInt ≤ 1073741824 → 0 ≤ a3.toInt → a3.toInt ≤ 120 → 0 ≤ a4.toInt → a4.toInt ≤ 9 → 0 ≤ a6.toInt → a6.toInt ≤ 120 → 0 ≤ v145_8.toInt → v145_8.toInt ≤ 1073741944 → 0 ≤ v145_9.toInt → v145_9.toInt ≤ 1 → 0 ≤ f145_12__9_a1_toInt_217_toNat.toInt → f145_12__9_a1_toInt_217_toNat.toInt ≤ 9 → 0 ≤ f145_12__9_a1_toInt_218_toNat.toInt → f145_12__9_a1_toInt_218_toNat.toInt ≤ 3 → Wd dC dI A s.heap H locs w63 → TW ksM ad cy B qr 12 w63 → FE ksM [(72, 0, 12), (73, 0, 10), (76, 0, 2600)] w0 w63 → gi w63 12 (9 * a1.toInt + 217).toNat = f145_12__9_a1_toInt_217_toNat → gi w63 12 (9 * a1.toInt + 218).toNat = f145_12__9_a1_toInt_218_toNat → lv_has ls 12 [(0, .ref (ad 0)), (1, .int a1), (2, .int a2), (3, .int a3), (4, .int a4), (5, .int 0), (6, .int a6), (7, .int v145_7), (8, .int v145_8), (9, .int v145_9)] → W p l e ({ frames := 5, cells := 0, slots := 0, locals := 103 }) s m (List.toArray [.ref (ad 0), .int a1, .int a2, .int a3, .int a4, .int 0, .int a6]) below meth c H locs 0 0 (MQ below (va_Qv (P_X12_leads_1 ad cy B qr s1 a1 a2 a3 a4 a6 w0) (fun u : va_W => wpost dC dI cy A u) A) (List.toArray [.ref (ad 0), .int a1, .int a2, .int a3, .int a4, .int 0, .int a6]) s 0 0 A) (F0 m 145 ls []) := by
    intro v145_7 v145_8 v145_9 f145_12__9_a1_toInt_217_toNat f145_12__9_a1_toInt_218_toNat H locs ls w63 r64 t65 r66 t67 r68 t69 r70 t71 r72 t73 r74 t75 r76 t77 r78 t79 r81 t82 hw hT hF c80 c83 hl
    refine lv_aload_n hx hb dX12_leads_145 rfl (lv_at hl 0 rfl) ?_
    refine lv_aload_n hx hb dX12_leads_146 rfl (lv_at hl 0 rfl) ?_
    refine lv_iload_n hx hb dX12_leads_147 rfl (lv_at hl 1 rfl) ?_
    refine lv_iconst (v := 1) hx hb dX12_leads_148 (by decide) ?_
    refine tk_Vi hC hK hw hT hA hE hSR kM_at0 (by decide) rfl (k_X12_walkerOf_3 l adK adV dC dI cy ad B hB0 (Int.le_trans hB1 (by decide)) qr s1   a1 (show 0 ≤ a1.toInt from r64) (show a1.toInt ≤ 3 from t65) w63 H.size hT ) (cwV 2 hC.2.2.2.2 uV_RX12_372 rfl rfl rfl (by decide +kernel) ⟨Nat.le_of_ble_eq_true rfl, Nat.le_of_ble_eq_true rfl⟩) rfl hl.1 rfl (Nat.le_of_ble_eq_true rfl) dX12_leads_149 (fun r84 w86 H locs hp85 hw => ?_)
    obtain ⟨rfl, hg91⟩ := hp85
    obtain ⟨g88, g89, c90⟩ := hg91
    obtain rfl : f145_12__9_a1_toInt_217_toNat = r84 := c80.symm.trans c90
    refine tk_Vv hC hK hw hT hA hE hSR kM_at0 (by decide) rfl (k_X12_spreads_1 l adK adV dC dI cy ad B hB0 (Int.le_trans hB1 (by decide)) qr s1   f145_12__9_a1_toInt_217_toNat (show 0 ≤ f145_12__9_a1_toInt_217_toNat.toInt from r78) (show f145_12__9_a1_toInt_217_toNat.toInt ≤ 9 from t79) w63 H.size hT ) (cwV 1 hC.2.2.2.2 uV_RX12_354 rfl rfl rfl (by decide +kernel) ⟨Nat.le_of_ble_eq_true rfl, Nat.le_of_ble_eq_true rfl⟩) rfl hl.1 rfl (Nat.le_of_ble_eq_true rfl) dX12_leads_152 (fun w94 H locs hp93 hw => ?_)
    obtain ⟨hT, k95, hg96⟩ := hp93
    have hF := hF.tr k95 (by decide)
    have c97 := k95.gi kM_at12 rfl c80
    have c98 := k95.gi kM_at12 rfl c83
    clear hg96
    refine lv_aload_n hx hb dX12_leads_155 rfl (lv_at hl 0 rfl) ?_
    refine lv_iload hx hb dX12_leads_156 (lv_at hl 4 rfl) ?_
    refine tk_Vi hC hK hw hT hA hE hSR kM_at0 (by decide) rfl (k_X12_streetFrom_1 l adK adV dC dI cy ad B hB0 (Int.le_trans hB1 (by decide)) qr s1   a4 (show 0 ≤ a4.toInt from r70) (show a4.toInt ≤ 9 from t71) w94 H.size hT ) (cwV 1 hC.2.2.2.2 uV_RX12_357 rfl rfl rfl (by decide +kernel) ⟨Nat.le_of_ble_eq_true rfl, Nat.le_of_ble_eq_true rfl⟩) rfl hl.1 rfl (Nat.le_of_ble_eq_true rfl) dX12_leads_158 (fun r99 w101 H locs hp100 hw => ?_)
    obtain ⟨rfl, hg119⟩ := hp100
    rcases hg119 with ⟨g103, g104, ⟨x105, c106, rx105, tx105⟩, c107, c108⟩ | ⟨g109, g110, ⟨x111, c112, rx111, tx111⟩, c113⟩ | ⟨g114, g115, ⟨x116, c117, rx116, tx116⟩, c118⟩ | rfl
    · refine lv_istore (lv' := [(10, .int r99), (0, .ref (ad 0)), (1, .int a1), (2, .int a2), (3, .int a3), (4, .int a4), (5, .int 0), (6, .int a6), (7, .int v145_7), (8, .int v145_8), (9, .int v145_9)]) hx hb dX12_leads_161 hl (by decide) rfl (fun ls hl => ?_)
      refine lv_iload hx hb dX12_leads_163 (lv_at hl 0 rfl) ?_
      refine lv_if_lt (tgt := 181) hx hb dX12_leads_165 (by decide) (fun c => absurd c (fun h => absurd (show r99.toInt < (0 : Int) from wk_lt.mp h) (by omega))) (fun _ => ?_)
      refine lv_aload_n hx hb dX12_leads_168 rfl (lv_at hl 1 rfl) ?_
      refine lv_iload hx hb dX12_leads_169 (lv_at hl 0 rfl) ?_
      refine lv_iload hx hb dX12_leads_171 (lv_at hl 5 rfl) ?_
      refine lv_iload hx hb dX12_leads_173 (lv_at hl 9 rfl) ?_
      refine tk_Vi hC hK hw hT hA hE hSR kM_at0 (by decide) rfl (k_X12_isOpen_3 l adK adV dC dI cy ad B hB0 (Int.le_trans hB1 (by decide)) qr s1   r99 (show 0 ≤ r99.toInt by first | with_reducible assumption | omega) (show r99.toInt ≤ 11 by first | with_reducible assumption | omega) a4 (show 0 ≤ a4.toInt from r70) (show a4.toInt ≤ 9 from t71) v145_8 (show 0 ≤ v145_8.toInt from r74) (show v145_8.toInt ≤ 1073741944 from t75) w94 H.size hT ) (cwV 3 hC.2.2.2.2 uV_RX12_334 rfl rfl rfl (by decide +kernel) ⟨Nat.le_of_ble_eq_true rfl, Nat.le_of_ble_eq_true rfl⟩) rfl hl.1 rfl (Nat.le_of_ble_eq_true rfl) dX12_leads_175 (fun r120 w122 H locs hp121 hw => ?_)
      obtain ⟨rfl, hg139⟩ := hp121
      rcases hg139 with ⟨rfl, hq124⟩ | ⟨rfl, c125, c126, hq127⟩ | ⟨rfl, c128, hq129⟩ | ⟨rfl, c130, hq131⟩ | ⟨rfl, c132, c133, hq134⟩ | ⟨rfl, c135, hq136⟩ | ⟨rfl, c137, hq138⟩
      · refine lv_if_ne (tgt := 182) hx hb dX12_leads_178 (by decide) (fun c => absurd (by decide) c) (fun _ => ?_)
        exact J181 v145_7 v145_8 v145_9 r99 f145_12__9_a1_toInt_217_toNat f145_12__9_a1_toInt_218_toNat H locs ls w94 (show 0 ≤ a1.toInt from r64) (show a1.toInt ≤ 3 from t65) (show 0 ≤ a2.toInt from r66) (show a2.toInt ≤ 1073741824 from t67) (show 0 ≤ a3.toInt from r68) (show a3.toInt ≤ 120 from t69) (show 0 ≤ a4.toInt from r70) (show a4.toInt ≤ 9 from t71) (show 0 ≤ a6.toInt from r72) (show a6.toInt ≤ 120 from t73) (show 0 ≤ v145_8.toInt from r74) (show v145_8.toInt ≤ 1073741944 from t75) (show 0 ≤ v145_9.toInt from r76) (show v145_9.toInt ≤ 1 from t77) (show (-1) ≤ r99.toInt by first | with_reducible assumption | omega) (show r99.toInt ≤ 11 by first | with_reducible assumption | omega) (show 0 ≤ f145_12__9_a1_toInt_217_toNat.toInt from r78) (show f145_12__9_a1_toInt_217_toNat.toInt ≤ 9 from t79) (show 0 ≤ f145_12__9_a1_toInt_218_toNat.toInt from r81) (show f145_12__9_a1_toInt_218_toNat.toInt ≤ 3 from t82)  hw hT hF c97 c98 (lv_sub hl [1, 2, 3, 4, 5, 6, 7, 8, 9, 10, 0] rfl)
      · refine lv_if_ne (tgt := 182) hx hb dX12_leads_178 (by decide) (fun c => absurd (by decide) c) (fun _ => ?_)
        exact J181 v145_7 v145_8 v145_9 r99 f145_12__9_a1_toInt_217_toNat f145_12__9_a1_toInt_218_toNat H locs ls w94 (show 0 ≤ a1.toInt from r64) (show a1.toInt ≤ 3 from t65) (show 0 ≤ a2.toInt from r66) (show a2.toInt ≤ 1073741824 from t67) (show 0 ≤ a3.toInt from r68) (show a3.toInt ≤ 120 from t69) (show 0 ≤ a4.toInt from r70) (show a4.toInt ≤ 9 from t71) (show 0 ≤ a6.toInt from r72) (show a6.toInt ≤ 120 from t73) (show 0 ≤ v145_8.toInt from r74) (show v145_8.toInt ≤ 1073741944 from t75) (show 0 ≤ v145_9.toInt from r76) (show v145_9.toInt ≤ 1 from t77) (show (-1) ≤ r99.toInt by first | with_reducible assumption | omega) (show r99.toInt ≤ 11 by first | with_reducible assumption | omega) (show 0 ≤ f145_12__9_a1_toInt_217_toNat.toInt from r78) (show f145_12__9_a1_toInt_217_toNat.toInt ≤ 9 from t79) (show 0 ≤ f145_12__9_a1_toInt_218_toNat.toInt from r81) (show f145_12__9_a1_toInt_218_toNat.toInt ≤ 3 from t82)  hw hT hF c97 c98 (lv_sub hl [1, 2, 3, 4, 5, 6, 7, 8, 9, 10, 0] rfl)
      · refine lv_if_ne (tgt := 182) hx hb dX12_leads_178 (by decide) (fun c => absurd (by decide) c) (fun _ => ?_)
        exact J181 v145_7 v145_8 v145_9 r99 f145_12__9_a1_toInt_217_toNat f145_12__9_a1_toInt_218_toNat H locs ls w94 (show 0 ≤ a1.toInt from r64) (show a1.toInt ≤ 3 from t65) (show 0 ≤ a2.toInt from r66) (show a2.toInt ≤ 1073741824 from t67) (show 0 ≤ a3.toInt from r68) (show a3.toInt ≤ 120 from t69) (show 0 ≤ a4.toInt from r70) (show a4.toInt ≤ 9 from t71) (show 0 ≤ a6.toInt from r72) (show a6.toInt ≤ 120 from t73) (show 0 ≤ v145_8.toInt from r74) (show v145_8.toInt ≤ 1073741944 from t75) (show 0 ≤ v145_9.toInt from r76) (show v145_9.toInt ≤ 1 from t77) (show (-1) ≤ r99.toInt by first | with_reducible assumption | omega) (show r99.toInt ≤ 11 by first | with_reducible assumption | omega) (show 0 ≤ f145_12__9_a1_toInt_217_toNat.toInt from r78) (show f145_12__9_a1_toInt_217_toNat.toInt ≤ 9 from t79) (show 0 ≤ f145_12__9_a1_toInt_218_toNat.toInt from r81) (show f145_12__9_a1_toInt_218_toNat.toInt ≤ 3 from t82)  hw hT hF c97 c98 (lv_sub hl [1, 2, 3, 4, 5, 6, 7, 8, 9, 10, 0] rfl)
      · refine lv_if_ne (tgt := 182) hx hb dX12_leads_178 (by decide) (fun c => absurd (by decide) c) (fun _ => ?_)
        exact J181 v145_7 v145_8 v145_9 r99 f145_12__9_a1_toInt_217_toNat f145_12__9_a1_toInt_218_toNat H locs ls w94 (show 0 ≤ a1.toInt from r64) (show a1.toInt ≤ 3 from t65) (show 0 ≤ a2.toInt from r66) (show a2.toInt ≤ 1073741824 from t67) (show 0 ≤ a3.toInt from r68) (show a3.toInt ≤ 120 from t69) (show 0 ≤ a4.toInt from r70) (show a4.toInt ≤ 9 from t71) (show 0 ≤ a6.toInt from r72) (show a6.toInt ≤ 120 from t73) (show 0 ≤ v145_8.toInt from r74) (show v145_8.toInt ≤ 1073741944 from t75) (show 0 ≤ v145_9.toInt from r76) (show v145_9.toInt ≤ 1 from t77) (show (-1) ≤ r99.toInt by first | with_reducible assumption | omega) (show r99.toInt ≤ 11 by first | with_reducible assumption | omega) (show 0 ≤ f145_12__9_a1_toInt_217_toNat.toInt from r78) (show f145_12__9_a1_toInt_217_toNat.toInt ≤ 9 from t79) (show 0 ≤ f145_12__9_a1_toInt_218_toNat.toInt from r81) (show f145_12__9_a1_toInt_218_toNat.toInt ≤ 3 from t82)  hw hT hF c97 c98 (lv_sub hl [1, 2, 3, 4, 5, 6, 7, 8, 9, 10, 0] rfl)
      · refine lv_if_ne (tgt := 182) hx hb dX12_leads_178 (by decide) (fun _ => ?_) (fun c => absurd c (by decide))
        refine lv_iload_n hx hb dX12_leads_182 rfl (lv_at hl 4 rfl) ?_
        refine lv_aload_n hx hb dX12_leads_183 rfl (lv_at hl 1 rfl) ?_
        refine lv_iload hx hb dX12_leads_184 (lv_at hl 0 rfl) ?_
        refine lv_iconst (v := 2) hx hb dX12_leads_186 (by decide) ?_
        refine tk_Vi hC hK hw hT hA hE hSR kM_at0 (by decide) rfl (k_X12_streetOf_6 l adK adV dC dI cy ad B hB0 (Int.le_trans hB1 (by decide)) qr s1   r99 (show 0 ≤ r99.toInt by first | with_reducible assumption | omega) (show r99.toInt ≤ 11 by first | with_reducible assumption | omega) w94 H.size hT ) (cwV 2 hC.2.2.2.2 uV_RX12_300 rfl rfl rfl (by decide +kernel) ⟨Nat.le_of_ble_eq_true rfl, Nat.le_of_ble_eq_true rfl⟩) rfl hl.1 rfl (Nat.le_of_ble_eq_true rfl) dX12_leads_187 (fun r140 w142 H locs hp141 hw => ?_)
        obtain ⟨rfl, hg147⟩ := hp141
        obtain ⟨g144, g145, c146⟩ := hg147
        refine lv_iadd hx hb dX12_leads_190 ?_
        refine lv_topi (fun x148 ex148 => ?_)
        have ex148 : x148.toInt = a3.toInt + r140.toInt := by rw [ex148]; exact wk_add (show (-2147483648) ≤ a3.toInt + r140.toInt by omega) (show a3.toInt + r140.toInt ≤ 2147483647 by omega)
        refine lv_istore (lv' := [(11, .int x148), (10, .int r99), (0, .ref (ad 0)), (1, .int a1), (2, .int a2), (3, .int a3), (4, .int a4), (5, .int 0), (6, .int a6), (7, .int v145_7), (8, .int v145_8), (9, .int v145_9)]) hx hb dX12_leads_191 hl (by decide) rfl (fun ls hl => ?_)
        refine lv_iload hx hb dX12_leads_193 (lv_at hl 0 rfl) ?_
        refine lv_iload hx hb dX12_leads_195 (lv_at hl 8 rfl) ?_
        refine lv_icmp_gt (tgt := 241) hx hb dX12_leads_197 (by decide) (fun c149 => ?_) (fun c149 => ?_)
        · have c149 : a6.toInt < x148.toInt := wk_lt.mp c149
          exact J241 v145_7 v145_8 v145_9 r99 x148 f145_12__9_a1_toInt_217_toNat f145_12__9_a1_toInt_218_toNat x105 H locs ls w94 (show 0 ≤ a1.toInt from r64) (show a1.toInt ≤ 3 from t65) (show 0 ≤ a2.toInt from r66) (show a2.toInt ≤ 1073741824 from t67) (show 0 ≤ a3.toInt from r68) (show a3.toInt ≤ 120 from t69) (show 0 ≤ a4.toInt from r70) (show a4.toInt ≤ 9 from t71) (show 0 ≤ a6.toInt from r72) (show a6.toInt ≤ 120 from t73) (show 0 ≤ v145_8.toInt from r74) (show v145_8.toInt ≤ 1073741944 from t75) (show 0 ≤ v145_9.toInt from r76) (show v145_9.toInt ≤ 1 from t77) (show 0 ≤ r99.toInt by first | with_reducible assumption | omega) (show r99.toInt ≤ 11 by first | with_reducible assumption | omega) (show 0 ≤ x148.toInt by first | with_reducible assumption | omega) (show x148.toInt ≤ 129 by first | with_reducible assumption | omega) (show 0 ≤ f145_12__9_a1_toInt_217_toNat.toInt from r78) (show f145_12__9_a1_toInt_217_toNat.toInt ≤ 9 from t79) (show 0 ≤ f145_12__9_a1_toInt_218_toNat.toInt from r81) (show f145_12__9_a1_toInt_218_toNat.toInt ≤ 3 from t82) (show 1 ≤ x105.toInt by first | with_reducible assumption | omega) (show x105.toInt ≤ 12 by first | with_reducible assumption | omega)  hw hT hF c97 c98 c106 (lv_sub hl [2, 3, 4, 5, 6, 7, 8, 9, 10, 11, 1, 0] rfl)
        · have c149 : x148.toInt ≤ a6.toInt := wk_ltF c149
          refine lv_aload_n hx hb dX12_leads_200 rfl (lv_at hl 2 rfl) ?_
          refine lv_iload hx hb dX12_leads_201 (lv_at hl 0 rfl) ?_
          refine lv_aload_n hx hb dX12_leads_203 rfl (lv_at hl 2 rfl) ?_
          refine lv_iload hx hb dX12_leads_204 (lv_at hl 1 rfl) ?_
          refine lv_iload hx hb dX12_leads_206 (lv_at hl 6 rfl) ?_
          refine tk_Vi hC hK hw hT hA hE hSR kM_at0 (by decide) rfl (k_X12_otherOf_1 l adK adV dC dI cy ad B hB0 (Int.le_trans hB1 (by decide)) qr s1   r99 (show 0 ≤ r99.toInt by first | with_reducible assumption | omega) (show r99.toInt ≤ 11 by first | with_reducible assumption | omega) a4 (show 0 ≤ a4.toInt from r70) (show a4.toInt ≤ 9 from t71) w94 H.size hT ) (cwV 2 hC.2.2.2.2 uV_RX12_348 rfl rfl rfl (by decide +kernel) ⟨Nat.le_of_ble_eq_true rfl, Nat.le_of_ble_eq_true rfl⟩) rfl hl.1 rfl (Nat.le_of_ble_eq_true rfl) dX12_leads_208 (fun r150 w152 H locs hp151 hw => ?_)
          obtain ⟨rfl, hg159⟩ := hp151
          rcases hg159 with ⟨g154, g155⟩ | ⟨g156, g157, c158⟩
          · refine lv_iload hx hb dX12_leads_211 (lv_at hl 7 rfl) ?_
            refine lv_if_eq (tgt := 235) hx hb dX12_leads_213 (by decide) (fun _ => ?_) (fun c => absurd (by decide) c)
            refine lv_iconst (v := 0) hx hb dX12_leads_235 (by decide) ?_
            refine lv_iload hx hb dX12_leads_236 (lv_at hl 9 rfl) ?_
            refine tk_Vv hC hK hw hT hA hE hSR kM_at0 (by decide) rfl (k_X12_could_3 l adK adV dC dI cy ad B hB0 (Int.le_trans hB1 (by decide)) qr s1   x148 (show 0 ≤ x148.toInt by first | with_reducible assumption | omega) (show x148.toInt ≤ 120 by first | with_reducible assumption | omega) r150 (show 0 ≤ r150.toInt by first | with_reducible assumption | omega) (show r150.toInt ≤ 9 by first | with_reducible assumption | omega) v145_7 w94 H.size hT ) (cwV 4 hC.2.2.2.2 uV_RX12_439 rfl rfl rfl (by decide +kernel) ⟨Nat.le_of_ble_eq_true rfl, Nat.le_of_ble_eq_true rfl⟩) rfl hl.1 rfl (Nat.le_of_ble_eq_true rfl) dX12_leads_238 (fun w162 H locs hp161 hw => ?_)
            obtain ⟨hT, k163, hg164⟩ := hp161
            have hF := hF.tr k163 (by decide)
            have c165 := k163.gi kM_at12 rfl c97
            have c166 := k163.gi kM_at12 rfl c98
            have c167 := k163.gi kM_at12 (by decide) c106
            have c168 := k163.gi kM_at12 rfl c107
            have c169 := k163.gi kM_at12 rfl c108
            have c170 := k163.gi kM_at12 rfl c146
            clear hg164
            exact J241 v145_7 v145_8 v145_9 r99 x148 f145_12__9_a1_toInt_217_toNat f145_12__9_a1_toInt_218_toNat x105 H locs ls w162 (show 0 ≤ a1.toInt from r64) (show a1.toInt ≤ 3 from t65) (show 0 ≤ a2.toInt from r66) (show a2.toInt ≤ 1073741824 from t67) (show 0 ≤ a3.toInt from r68) (show a3.toInt ≤ 120 from t69) (show 0 ≤ a4.toInt from r70) (show a4.toInt ≤ 9 from t71) (show 0 ≤ a6.toInt from r72) (show a6.toInt ≤ 120 from t73) (show 0 ≤ v145_8.toInt from r74) (show v145_8.toInt ≤ 1073741944 from t75) (show 0 ≤ v145_9.toInt from r76) (show v145_9.toInt ≤ 1 from t77) (show 0 ≤ r99.toInt by first | with_reducible assumption | omega) (show r99.toInt ≤ 11 by first | with_reducible assumption | omega) (show 0 ≤ x148.toInt by first | with_reducible assumption | omega) (show x148.toInt ≤ 129 by first | with_reducible assumption | omega) (show 0 ≤ f145_12__9_a1_toInt_217_toNat.toInt from r78) (show f145_12__9_a1_toInt_217_toNat.toInt ≤ 9 from t79) (show 0 ≤ f145_12__9_a1_toInt_218_toNat.toInt from r81) (show f145_12__9_a1_toInt_218_toNat.toInt ≤ 3 from t82) (show 1 ≤ x105.toInt by first | with_reducible assumption | omega) (show x105.toInt ≤ 12 by first | with_reducible assumption | omega)  hw hT hF c165 c166 c167 (lv_sub hl [2, 3, 4, 5, 6, 7, 8, 9, 10, 11, 1, 0] rfl)
          · refine lv_iload hx hb dX12_leads_211 (lv_at hl 7 rfl) ?_
            refine lv_if_eq (tgt := 235) hx hb dX12_leads_213 (by decide) (fun _ => ?_) (fun c => absurd (by decide) c)
            refine lv_iconst (v := 0) hx hb dX12_leads_235 (by decide) ?_
            refine lv_iload hx hb dX12_leads_236 (lv_at hl 9 rfl) ?_
            refine tk_Vv hC hK hw hT hA hE hSR kM_at0 (by decide) rfl (k_X12_could_3 l adK adV dC dI cy ad B hB0 (Int.le_trans hB1 (by decide)) qr s1   x148 (show 0 ≤ x148.toInt by first | with_reducible assumption | omega) (show x148.toInt ≤ 120 by first | with_reducible assumption | omega) r150 (show 0 ≤ r150.toInt by first | with_reducible assumption | omega) (show r150.toInt ≤ 9 by first | with_reducible assumption | omega) v145_7 w94 H.size hT ) (cwV 4 hC.2.2.2.2 uV_RX12_439 rfl rfl rfl (by decide +kernel) ⟨Nat.le_of_ble_eq_true rfl, Nat.le_of_ble_eq_true rfl⟩) rfl hl.1 rfl (Nat.le_of_ble_eq_true rfl) dX12_leads_238 (fun w173 H locs hp172 hw => ?_)
            obtain ⟨hT, k174, hg175⟩ := hp172
            have hF := hF.tr k174 (by decide)
            have c176 := k174.gi kM_at12 rfl c97
            have c177 := k174.gi kM_at12 rfl c98
            have c178 := k174.gi kM_at12 (by decide) c106
            have c179 := k174.gi kM_at12 rfl c107
            have c180 := k174.gi kM_at12 rfl c108
            have c181 := k174.gi kM_at12 rfl c146
            clear hg175
            exact J241 v145_7 v145_8 v145_9 r99 x148 f145_12__9_a1_toInt_217_toNat f145_12__9_a1_toInt_218_toNat x105 H locs ls w173 (show 0 ≤ a1.toInt from r64) (show a1.toInt ≤ 3 from t65) (show 0 ≤ a2.toInt from r66) (show a2.toInt ≤ 1073741824 from t67) (show 0 ≤ a3.toInt from r68) (show a3.toInt ≤ 120 from t69) (show 0 ≤ a4.toInt from r70) (show a4.toInt ≤ 9 from t71) (show 0 ≤ a6.toInt from r72) (show a6.toInt ≤ 120 from t73) (show 0 ≤ v145_8.toInt from r74) (show v145_8.toInt ≤ 1073741944 from t75) (show 0 ≤ v145_9.toInt from r76) (show v145_9.toInt ≤ 1 from t77) (show 0 ≤ r99.toInt by first | with_reducible assumption | omega) (show r99.toInt ≤ 11 by first | with_reducible assumption | omega) (show 0 ≤ x148.toInt by first | with_reducible assumption | omega) (show x148.toInt ≤ 129 by first | with_reducible assumption | omega) (show 0 ≤ f145_12__9_a1_toInt_217_toNat.toInt from r78) (show f145_12__9_a1_toInt_217_toNat.toInt ≤ 9 from t79) (show 0 ≤ f145_12__9_a1_toInt_218_toNat.toInt from r81) (show f145_12__9_a1_toInt_218_toNat.toInt ≤ 3 from t82) (show 1 ≤ x105.toInt by first | with_reducible assumption | omega) (show x105.toInt ≤ 12 by first | with_reducible assumption | omega)  hw hT hF c176 c177 c178 (lv_sub hl [2, 3, 4, 5, 6, 7, 8, 9, 10, 11, 1, 0] rfl)
      · refine lv_if_ne (tgt := 182) hx hb dX12_leads_178 (by decide) (fun _ => ?_) (fun c => absurd c (by decide))
        refine lv_iload_n hx hb dX12_leads_182 rfl (lv_at hl 4 rfl) ?_
        refine lv_aload_n hx hb dX12_leads_183 rfl (lv_at hl 1 rfl) ?_
        refine lv_iload hx hb dX12_leads_184 (lv_at hl 0 rfl) ?_
        refine lv_iconst (v := 2) hx hb dX12_leads_186 (by decide) ?_
        refine tk_Vi hC hK hw hT hA hE hSR kM_at0 (by decide) rfl (k_X12_streetOf_6 l adK adV dC dI cy ad B hB0 (Int.le_trans hB1 (by decide)) qr s1   r99 (show 0 ≤ r99.toInt by first | with_reducible assumption | omega) (show r99.toInt ≤ 11 by first | with_reducible assumption | omega) w94 H.size hT ) (cwV 2 hC.2.2.2.2 uV_RX12_300 rfl rfl rfl (by decide +kernel) ⟨Nat.le_of_ble_eq_true rfl, Nat.le_of_ble_eq_true rfl⟩) rfl hl.1 rfl (Nat.le_of_ble_eq_true rfl) dX12_leads_187 (fun r182 w184 H locs hp183 hw => ?_)
        obtain ⟨rfl, hg189⟩ := hp183
        obtain ⟨g186, g187, c188⟩ := hg189
        refine lv_iadd hx hb dX12_leads_190 ?_
        refine lv_topi (fun x190 ex190 => ?_)
        have ex190 : x190.toInt = a3.toInt + r182.toInt := by rw [ex190]; exact wk_add (show (-2147483648) ≤ a3.toInt + r182.toInt by omega) (show a3.toInt + r182.toInt ≤ 2147483647 by omega)
        refine lv_istore (lv' := [(11, .int x190), (10, .int r99), (0, .ref (ad 0)), (1, .int a1), (2, .int a2), (3, .int a3), (4, .int a4), (5, .int 0), (6, .int a6), (7, .int v145_7), (8, .int v145_8), (9, .int v145_9)]) hx hb dX12_leads_191 hl (by decide) rfl (fun ls hl => ?_)
        refine lv_iload hx hb dX12_leads_193 (lv_at hl 0 rfl) ?_
        refine lv_iload hx hb dX12_leads_195 (lv_at hl 8 rfl) ?_
        refine lv_icmp_gt (tgt := 241) hx hb dX12_leads_197 (by decide) (fun c191 => ?_) (fun c191 => ?_)
        · have c191 : a6.toInt < x190.toInt := wk_lt.mp c191
          exact J241 v145_7 v145_8 v145_9 r99 x190 f145_12__9_a1_toInt_217_toNat f145_12__9_a1_toInt_218_toNat x105 H locs ls w94 (show 0 ≤ a1.toInt from r64) (show a1.toInt ≤ 3 from t65) (show 0 ≤ a2.toInt from r66) (show a2.toInt ≤ 1073741824 from t67) (show 0 ≤ a3.toInt from r68) (show a3.toInt ≤ 120 from t69) (show 0 ≤ a4.toInt from r70) (show a4.toInt ≤ 9 from t71) (show 0 ≤ a6.toInt from r72) (show a6.toInt ≤ 120 from t73) (show 0 ≤ v145_8.toInt from r74) (show v145_8.toInt ≤ 1073741944 from t75) (show 0 ≤ v145_9.toInt from r76) (show v145_9.toInt ≤ 1 from t77) (show 0 ≤ r99.toInt by first | with_reducible assumption | omega) (show r99.toInt ≤ 11 by first | with_reducible assumption | omega) (show 0 ≤ x190.toInt by first | with_reducible assumption | omega) (show x190.toInt ≤ 129 by first | with_reducible assumption | omega) (show 0 ≤ f145_12__9_a1_toInt_217_toNat.toInt from r78) (show f145_12__9_a1_toInt_217_toNat.toInt ≤ 9 from t79) (show 0 ≤ f145_12__9_a1_toInt_218_toNat.toInt from r81) (show f145_12__9_a1_toInt_218_toNat.toInt ≤ 3 from t82) (show 1 ≤ x105.toInt by first | with_reducible assumption | omega) (show x105.toInt ≤ 12 by first | with_reducible assumption | omega)  hw hT hF c97 c98 c106 (lv_sub hl [2, 3, 4, 5, 6, 7, 8, 9, 10, 11, 1, 0] rfl)
        · have c191 : x190.toInt ≤ a6.toInt := wk_ltF c191
          refine lv_aload_n hx hb dX12_leads_200 rfl (lv_at hl 2 rfl) ?_
          refine lv_iload hx hb dX12_leads_201 (lv_at hl 0 rfl) ?_
          refine lv_aload_n hx hb dX12_leads_203 rfl (lv_at hl 2 rfl) ?_
          refine lv_iload hx hb dX12_leads_204 (lv_at hl 1 rfl) ?_
          refine lv_iload hx hb dX12_leads_206 (lv_at hl 6 rfl) ?_
          refine tk_Vi hC hK hw hT hA hE hSR kM_at0 (by decide) rfl (k_X12_otherOf_1 l adK adV dC dI cy ad B hB0 (Int.le_trans hB1 (by decide)) qr s1   r99 (show 0 ≤ r99.toInt by first | with_reducible assumption | omega) (show r99.toInt ≤ 11 by first | with_reducible assumption | omega) a4 (show 0 ≤ a4.toInt from r70) (show a4.toInt ≤ 9 from t71) w94 H.size hT ) (cwV 2 hC.2.2.2.2 uV_RX12_348 rfl rfl rfl (by decide +kernel) ⟨Nat.le_of_ble_eq_true rfl, Nat.le_of_ble_eq_true rfl⟩) rfl hl.1 rfl (Nat.le_of_ble_eq_true rfl) dX12_leads_208 (fun r192 w194 H locs hp193 hw => ?_)
          obtain ⟨rfl, hg201⟩ := hp193
          rcases hg201 with ⟨g196, g197⟩ | ⟨g198, g199, c200⟩
          · refine lv_iload hx hb dX12_leads_211 (lv_at hl 7 rfl) ?_
            refine lv_if_eq (tgt := 235) hx hb dX12_leads_213 (by decide) (fun _ => ?_) (fun c => absurd (by decide) c)
            refine lv_iconst (v := 0) hx hb dX12_leads_235 (by decide) ?_
            refine lv_iload hx hb dX12_leads_236 (lv_at hl 9 rfl) ?_
            refine tk_Vv hC hK hw hT hA hE hSR kM_at0 (by decide) rfl (k_X12_could_3 l adK adV dC dI cy ad B hB0 (Int.le_trans hB1 (by decide)) qr s1   x190 (show 0 ≤ x190.toInt by first | with_reducible assumption | omega) (show x190.toInt ≤ 120 by first | with_reducible assumption | omega) r192 (show 0 ≤ r192.toInt by first | with_reducible assumption | omega) (show r192.toInt ≤ 9 by first | with_reducible assumption | omega) v145_7 w94 H.size hT ) (cwV 4 hC.2.2.2.2 uV_RX12_439 rfl rfl rfl (by decide +kernel) ⟨Nat.le_of_ble_eq_true rfl, Nat.le_of_ble_eq_true rfl⟩) rfl hl.1 rfl (Nat.le_of_ble_eq_true rfl) dX12_leads_238 (fun w204 H locs hp203 hw => ?_)
            obtain ⟨hT, k205, hg206⟩ := hp203
            have hF := hF.tr k205 (by decide)
            have c207 := k205.gi kM_at12 rfl c97
            have c208 := k205.gi kM_at12 rfl c98
            have c209 := k205.gi kM_at12 (by decide) c106
            have c210 := k205.gi kM_at12 rfl c107
            have c211 := k205.gi kM_at12 rfl c108
            have c212 := k205.gi kM_at12 rfl c188
            clear hg206
            exact J241 v145_7 v145_8 v145_9 r99 x190 f145_12__9_a1_toInt_217_toNat f145_12__9_a1_toInt_218_toNat x105 H locs ls w204 (show 0 ≤ a1.toInt from r64) (show a1.toInt ≤ 3 from t65) (show 0 ≤ a2.toInt from r66) (show a2.toInt ≤ 1073741824 from t67) (show 0 ≤ a3.toInt from r68) (show a3.toInt ≤ 120 from t69) (show 0 ≤ a4.toInt from r70) (show a4.toInt ≤ 9 from t71) (show 0 ≤ a6.toInt from r72) (show a6.toInt ≤ 120 from t73) (show 0 ≤ v145_8.toInt from r74) (show v145_8.toInt ≤ 1073741944 from t75) (show 0 ≤ v145_9.toInt from r76) (show v145_9.toInt ≤ 1 from t77) (show 0 ≤ r99.toInt by first | with_reducible assumption | omega) (show r99.toInt ≤ 11 by first | with_reducible assumption | omega) (show 0 ≤ x190.toInt by first | with_reducible assumption | omega) (show x190.toInt ≤ 129 by first | with_reducible assumption | omega) (show 0 ≤ f145_12__9_a1_toInt_217_toNat.toInt from r78) (show f145_12__9_a1_toInt_217_toNat.toInt ≤ 9 from t79) (show 0 ≤ f145_12__9_a1_toInt_218_toNat.toInt from r81) (show f145_12__9_a1_toInt_218_toNat.toInt ≤ 3 from t82) (show 1 ≤ x105.toInt by first | with_reducible assumption | omega) (show x105.toInt ≤ 12 by first | with_reducible assumption | omega)  hw hT hF c207 c208 c209 (lv_sub hl [2, 3, 4, 5, 6, 7, 8, 9, 10, 11, 1, 0] rfl)
          · refine lv_iload hx hb dX12_leads_211 (lv_at hl 7 rfl) ?_
            refine lv_if_eq (tgt := 235) hx hb dX12_leads_213 (by decide) (fun _ => ?_) (fun c => absurd (by decide) c)
            refine lv_iconst (v := 0) hx hb dX12_leads_235 (by decide) ?_
            refine lv_iload hx hb dX12_leads_236 (lv_at hl 9 rfl) ?_
            refine tk_Vv hC hK hw hT hA hE hSR kM_at0 (by decide) rfl (k_X12_could_3 l adK adV dC dI cy ad B hB0 (Int.le_trans hB1 (by decide)) qr s1   x190 (show 0 ≤ x190.toInt by first | with_reducible assumption | omega) (show x190.toInt ≤ 120 by first | with_reducible assumption | omega) r192 (show 0 ≤ r192.toInt by first | with_reducible assumption | omega) (show r192.toInt ≤ 9 by first | with_reducible assumption | omega) v145_7 w94 H.size hT ) (cwV 4 hC.2.2.2.2 uV_RX12_439 rfl rfl rfl (by decide +kernel) ⟨Nat.le_of_ble_eq_true rfl, Nat.le_of_ble_eq_true rfl⟩) rfl hl.1 rfl (Nat.le_of_ble_eq_true rfl) dX12_leads_238 (fun w215 H locs hp214 hw => ?_)
            obtain ⟨hT, k216, hg217⟩ := hp214
            have hF := hF.tr k216 (by decide)
            have c218 := k216.gi kM_at12 rfl c97
            have c219 := k216.gi kM_at12 rfl c98
            have c220 := k216.gi kM_at12 (by decide) c106
            have c221 := k216.gi kM_at12 rfl c107
            have c222 := k216.gi kM_at12 rfl c108
            have c223 := k216.gi kM_at12 rfl c188
            clear hg217
            exact J241 v145_7 v145_8 v145_9 r99 x190 f145_12__9_a1_toInt_217_toNat f145_12__9_a1_toInt_218_toNat x105 H locs ls w215 (show 0 ≤ a1.toInt from r64) (show a1.toInt ≤ 3 from t65) (show 0 ≤ a2.toInt from r66) (show a2.toInt ≤ 1073741824 from t67) (show 0 ≤ a3.toInt from r68) (show a3.toInt ≤ 120 from t69) (show 0 ≤ a4.toInt from r70) (show a4.toInt ≤ 9 from t71) (show 0 ≤ a6.toInt from r72) (show a6.toInt ≤ 120 from t73) (show 0 ≤ v145_8.toInt from r74) (show v145_8.toInt ≤ 1073741944 from t75) (show 0 ≤ v145_9.toInt from r76) (show v145_9.toInt ≤ 1 from t77) (show 0 ≤ r99.toInt by first | with_reducible assumption | omega) (show r99.toInt ≤ 11 by first | with_reducible assumption | omega) (show 0 ≤ x190.toInt by first | with_reducible assumption | omega) (show x190.toInt ≤ 129 by first | with_reducible assumption | omega) (show 0 ≤ f145_12__9_a1_toInt_217_toNat.toInt from r78) (show f145_12__9_a1_toInt_217_toNat.toInt ≤ 9 from t79) (show 0 ≤ f145_12__9_a1_toInt_218_toNat.toInt from r81) (show f145_12__9_a1_toInt_218_toNat.toInt ≤ 3 from t82) (show 1 ≤ x105.toInt by first | with_reducible assumption | omega) (show x105.toInt ≤ 12 by first | with_reducible assumption | omega)  hw hT hF c218 c219 c220 (lv_sub hl [2, 3, 4, 5, 6, 7, 8, 9, 10, 11, 1, 0] rfl)
      · refine lv_if_ne (tgt := 182) hx hb dX12_leads_178 (by decide) (fun _ => ?_) (fun c => absurd c (by decide))
        refine lv_iload_n hx hb dX12_leads_182 rfl (lv_at hl 4 rfl) ?_
        refine lv_aload_n hx hb dX12_leads_183 rfl (lv_at hl 1 rfl) ?_
        refine lv_iload hx hb dX12_leads_184 (lv_at hl 0 rfl) ?_
        refine lv_iconst (v := 2) hx hb dX12_leads_186 (by decide) ?_
        refine tk_Vi hC hK hw hT hA hE hSR kM_at0 (by decide) rfl (k_X12_streetOf_6 l adK adV dC dI cy ad B hB0 (Int.le_trans hB1 (by decide)) qr s1   r99 (show 0 ≤ r99.toInt by first | with_reducible assumption | omega) (show r99.toInt ≤ 11 by first | with_reducible assumption | omega) w94 H.size hT ) (cwV 2 hC.2.2.2.2 uV_RX12_300 rfl rfl rfl (by decide +kernel) ⟨Nat.le_of_ble_eq_true rfl, Nat.le_of_ble_eq_true rfl⟩) rfl hl.1 rfl (Nat.le_of_ble_eq_true rfl) dX12_leads_187 (fun r224 w226 H locs hp225 hw => ?_)
        obtain ⟨rfl, hg231⟩ := hp225
        obtain ⟨g228, g229, c230⟩ := hg231
        refine lv_iadd hx hb dX12_leads_190 ?_
        refine lv_topi (fun x232 ex232 => ?_)
        have ex232 : x232.toInt = a3.toInt + r224.toInt := by rw [ex232]; exact wk_add (show (-2147483648) ≤ a3.toInt + r224.toInt by omega) (show a3.toInt + r224.toInt ≤ 2147483647 by omega)
        refine lv_istore (lv' := [(11, .int x232), (10, .int r99), (0, .ref (ad 0)), (1, .int a1), (2, .int a2), (3, .int a3), (4, .int a4), (5, .int 0), (6, .int a6), (7, .int v145_7), (8, .int v145_8), (9, .int v145_9)]) hx hb dX12_leads_191 hl (by decide) rfl (fun ls hl => ?_)
        refine lv_iload hx hb dX12_leads_193 (lv_at hl 0 rfl) ?_
        refine lv_iload hx hb dX12_leads_195 (lv_at hl 8 rfl) ?_
        refine lv_icmp_gt (tgt := 241) hx hb dX12_leads_197 (by decide) (fun c233 => ?_) (fun c233 => ?_)
        · have c233 : a6.toInt < x232.toInt := wk_lt.mp c233
          exact J241 v145_7 v145_8 v145_9 r99 x232 f145_12__9_a1_toInt_217_toNat f145_12__9_a1_toInt_218_toNat x105 H locs ls w94 (show 0 ≤ a1.toInt from r64) (show a1.toInt ≤ 3 from t65) (show 0 ≤ a2.toInt from r66) (show a2.toInt ≤ 1073741824 from t67) (show 0 ≤ a3.toInt from r68) (show a3.toInt ≤ 120 from t69) (show 0 ≤ a4.toInt from r70) (show a4.toInt ≤ 9 from t71) (show 0 ≤ a6.toInt from r72) (show a6.toInt ≤ 120 from t73) (show 0 ≤ v145_8.toInt from r74) (show v145_8.toInt ≤ 1073741944 from t75) (show 0 ≤ v145_9.toInt from r76) (show v145_9.toInt ≤ 1 from t77) (show 0 ≤ r99.toInt by first | with_reducible assumption | omega) (show r99.toInt ≤ 11 by first | with_reducible assumption | omega) (show 0 ≤ x232.toInt by first | with_reducible assumption | omega) (show x232.toInt ≤ 129 by first | with_reducible assumption | omega) (show 0 ≤ f145_12__9_a1_toInt_217_toNat.toInt from r78) (show f145_12__9_a1_toInt_217_toNat.toInt ≤ 9 from t79) (show 0 ≤ f145_12__9_a1_toInt_218_toNat.toInt from r81) (show f145_12__9_a1_toInt_218_toNat.toInt ≤ 3 from t82) (show 1 ≤ x105.toInt by first | with_reducible assumption | omega) (show x105.toInt ≤ 12 by first | with_reducible assumption | omega)  hw hT hF c97 c98 c106 (lv_sub hl [2, 3, 4, 5, 6, 7, 8, 9, 10, 11, 1, 0] rfl)
        · have c233 : x232.toInt ≤ a6.toInt := wk_ltF c233
          refine lv_aload_n hx hb dX12_leads_200 rfl (lv_at hl 2 rfl) ?_
          refine lv_iload hx hb dX12_leads_201 (lv_at hl 0 rfl) ?_
          refine lv_aload_n hx hb dX12_leads_203 rfl (lv_at hl 2 rfl) ?_
          refine lv_iload hx hb dX12_leads_204 (lv_at hl 1 rfl) ?_
          refine lv_iload hx hb dX12_leads_206 (lv_at hl 6 rfl) ?_
          refine tk_Vi hC hK hw hT hA hE hSR kM_at0 (by decide) rfl (k_X12_otherOf_1 l adK adV dC dI cy ad B hB0 (Int.le_trans hB1 (by decide)) qr s1   r99 (show 0 ≤ r99.toInt by first | with_reducible assumption | omega) (show r99.toInt ≤ 11 by first | with_reducible assumption | omega) a4 (show 0 ≤ a4.toInt from r70) (show a4.toInt ≤ 9 from t71) w94 H.size hT ) (cwV 2 hC.2.2.2.2 uV_RX12_348 rfl rfl rfl (by decide +kernel) ⟨Nat.le_of_ble_eq_true rfl, Nat.le_of_ble_eq_true rfl⟩) rfl hl.1 rfl (Nat.le_of_ble_eq_true rfl) dX12_leads_208 (fun r234 w236 H locs hp235 hw => ?_)
          obtain ⟨rfl, hg243⟩ := hp235
          rcases hg243 with ⟨g238, g239⟩ | ⟨g240, g241, c242⟩
          · refine lv_iload hx hb dX12_leads_211 (lv_at hl 7 rfl) ?_
            refine lv_if_eq (tgt := 235) hx hb dX12_leads_213 (by decide) (fun _ => ?_) (fun c => absurd (by decide) c)
            refine lv_iconst (v := 0) hx hb dX12_leads_235 (by decide) ?_
            refine lv_iload hx hb dX12_leads_236 (lv_at hl 9 rfl) ?_
            refine tk_Vv hC hK hw hT hA hE hSR kM_at0 (by decide) rfl (k_X12_could_3 l adK adV dC dI cy ad B hB0 (Int.le_trans hB1 (by decide)) qr s1   x232 (show 0 ≤ x232.toInt by first | with_reducible assumption | omega) (show x232.toInt ≤ 120 by first | with_reducible assumption | omega) r234 (show 0 ≤ r234.toInt by first | with_reducible assumption | omega) (show r234.toInt ≤ 9 by first | with_reducible assumption | omega) v145_7 w94 H.size hT ) (cwV 4 hC.2.2.2.2 uV_RX12_439 rfl rfl rfl (by decide +kernel) ⟨Nat.le_of_ble_eq_true rfl, Nat.le_of_ble_eq_true rfl⟩) rfl hl.1 rfl (Nat.le_of_ble_eq_true rfl) dX12_leads_238 (fun w246 H locs hp245 hw => ?_)
            obtain ⟨hT, k247, hg248⟩ := hp245
            have hF := hF.tr k247 (by decide)
            have c249 := k247.gi kM_at12 rfl c97
            have c250 := k247.gi kM_at12 rfl c98
            have c251 := k247.gi kM_at12 (by decide) c106
            have c252 := k247.gi kM_at12 rfl c107
            have c253 := k247.gi kM_at12 rfl c108
            have c254 := k247.gi kM_at12 rfl c230
            clear hg248
            exact J241 v145_7 v145_8 v145_9 r99 x232 f145_12__9_a1_toInt_217_toNat f145_12__9_a1_toInt_218_toNat x105 H locs ls w246 (show 0 ≤ a1.toInt from r64) (show a1.toInt ≤ 3 from t65) (show 0 ≤ a2.toInt from r66) (show a2.toInt ≤ 1073741824 from t67) (show 0 ≤ a3.toInt from r68) (show a3.toInt ≤ 120 from t69) (show 0 ≤ a4.toInt from r70) (show a4.toInt ≤ 9 from t71) (show 0 ≤ a6.toInt from r72) (show a6.toInt ≤ 120 from t73) (show 0 ≤ v145_8.toInt from r74) (show v145_8.toInt ≤ 1073741944 from t75) (show 0 ≤ v145_9.toInt from r76) (show v145_9.toInt ≤ 1 from t77) (show 0 ≤ r99.toInt by first | with_reducible assumption | omega) (show r99.toInt ≤ 11 by first | with_reducible assumption | omega) (show 0 ≤ x232.toInt by first | with_reducible assumption | omega) (show x232.toInt ≤ 129 by first | with_reducible assumption | omega) (show 0 ≤ f145_12__9_a1_toInt_217_toNat.toInt from r78) (show f145_12__9_a1_toInt_217_toNat.toInt ≤ 9 from t79) (show 0 ≤ f145_12__9_a1_toInt_218_toNat.toInt from r81) (show f145_12__9_a1_toInt_218_toNat.toInt ≤ 3 from t82) (show 1 ≤ x105.toInt by first | with_reducible assumption | omega) (show x105.toInt ≤ 12 by first | with_reducible assumption | omega)  hw hT hF c249 c250 c251 (lv_sub hl [2, 3, 4, 5, 6, 7, 8, 9, 10, 11, 1, 0] rfl)
          · refine lv_iload hx hb dX12_leads_211 (lv_at hl 7 rfl) ?_
            refine lv_if_eq (tgt := 235) hx hb dX12_leads_213 (by decide) (fun _ => ?_) (fun c => absurd (by decide) c)
            refine lv_iconst (v := 0) hx hb dX12_leads_235 (by decide) ?_
            refine lv_iload hx hb dX12_leads_236 (lv_at hl 9 rfl) ?_
            refine tk_Vv hC hK hw hT hA hE hSR kM_at0 (by decide) rfl (k_X12_could_3 l adK adV dC dI cy ad B hB0 (Int.le_trans hB1 (by decide)) qr s1   x232 (show 0 ≤ x232.toInt by first | with_reducible assumption | omega) (show x232.toInt ≤ 120 by first | with_reducible assumption | omega) r234 (show 0 ≤ r234.toInt by first | with_reducible assumption | omega) (show r234.toInt ≤ 9 by first | with_reducible assumption | omega) v145_7 w94 H.size hT ) (cwV 4 hC.2.2.2.2 uV_RX12_439 rfl rfl rfl (by decide +kernel) ⟨Nat.le_of_ble_eq_true rfl, Nat.le_of_ble_eq_true rfl⟩) rfl hl.1 rfl (Nat.le_of_ble_eq_true rfl) dX12_leads_238 (fun w257 H locs hp256 hw => ?_)
            obtain ⟨hT, k258, hg259⟩ := hp256
            have hF := hF.tr k258 (by decide)
            have c260 := k258.gi kM_at12 rfl c97
            have c261 := k258.gi kM_at12 rfl c98
            have c262 := k258.gi kM_at12 (by decide) c106
            have c263 := k258.gi kM_at12 rfl c107
            have c264 := k258.gi kM_at12 rfl c108
            have c265 := k258.gi kM_at12 rfl c230
            clear hg259
            exact J241 v145_7 v145_8 v145_9 r99 x232 f145_12__9_a1_toInt_217_toNat f145_12__9_a1_toInt_218_toNat x105 H locs ls w257 (show 0 ≤ a1.toInt from r64) (show a1.toInt ≤ 3 from t65) (show 0 ≤ a2.toInt from r66) (show a2.toInt ≤ 1073741824 from t67) (show 0 ≤ a3.toInt from r68) (show a3.toInt ≤ 120 from t69) (show 0 ≤ a4.toInt from r70) (show a4.toInt ≤ 9 from t71) (show 0 ≤ a6.toInt from r72) (show a6.toInt ≤ 120 from t73) (show 0 ≤ v145_8.toInt from r74) (show v145_8.toInt ≤ 1073741944 from t75) (show 0 ≤ v145_9.toInt from r76) (show v145_9.toInt ≤ 1 from t77) (show 0 ≤ r99.toInt by first | with_reducible assumption | omega) (show r99.toInt ≤ 11 by first | with_reducible assumption | omega) (show 0 ≤ x232.toInt by first | with_reducible assumption | omega) (show x232.toInt ≤ 129 by first | with_reducible assumption | omega) (show 0 ≤ f145_12__9_a1_toInt_217_toNat.toInt from r78) (show f145_12__9_a1_toInt_217_toNat.toInt ≤ 9 from t79) (show 0 ≤ f145_12__9_a1_toInt_218_toNat.toInt from r81) (show f145_12__9_a1_toInt_218_toNat.toInt ≤ 3 from t82) (show 1 ≤ x105.toInt by first | with_reducible assumption | omega) (show x105.toInt ≤ 12 by first | with_reducible assumption | omega)  hw hT hF c260 c261 c262 (lv_sub hl [2, 3, 4, 5, 6, 7, 8, 9, 10, 11, 1, 0] rfl)
    · refine lv_istore (lv' := [(10, .int r99), (0, .ref (ad 0)), (1, .int a1), (2, .int a2), (3, .int a3), (4, .int a4), (5, .int 0), (6, .int a6), (7, .int v145_7), (8, .int v145_8), (9, .int v145_9)]) hx hb dX12_leads_161 hl (by decide) rfl (fun ls hl => ?_)
      refine lv_iload hx hb dX12_leads_163 (lv_at hl 0 rfl) ?_
      refine lv_if_lt (tgt := 181) hx hb dX12_leads_165 (by decide) (fun c => absurd c (fun h => absurd (show r99.toInt < (0 : Int) from wk_lt.mp h) (by omega))) (fun _ => ?_)
      refine lv_aload_n hx hb dX12_leads_168 rfl (lv_at hl 1 rfl) ?_
      refine lv_iload hx hb dX12_leads_169 (lv_at hl 0 rfl) ?_
      refine lv_iload hx hb dX12_leads_171 (lv_at hl 5 rfl) ?_
      refine lv_iload hx hb dX12_leads_173 (lv_at hl 9 rfl) ?_
      refine tk_Vi hC hK hw hT hA hE hSR kM_at0 (by decide) rfl (k_X12_isOpen_3 l adK adV dC dI cy ad B hB0 (Int.le_trans hB1 (by decide)) qr s1   r99 (show 0 ≤ r99.toInt by first | with_reducible assumption | omega) (show r99.toInt ≤ 11 by first | with_reducible assumption | omega) a4 (show 0 ≤ a4.toInt from r70) (show a4.toInt ≤ 9 from t71) v145_8 (show 0 ≤ v145_8.toInt from r74) (show v145_8.toInt ≤ 1073741944 from t75) w94 H.size hT ) (cwV 3 hC.2.2.2.2 uV_RX12_334 rfl rfl rfl (by decide +kernel) ⟨Nat.le_of_ble_eq_true rfl, Nat.le_of_ble_eq_true rfl⟩) rfl hl.1 rfl (Nat.le_of_ble_eq_true rfl) dX12_leads_175 (fun r266 w268 H locs hp267 hw => ?_)
      obtain ⟨rfl, hg285⟩ := hp267
      rcases hg285 with ⟨rfl, hq270⟩ | ⟨rfl, c271, c272, hq273⟩ | ⟨rfl, c274, hq275⟩ | ⟨rfl, c276, hq277⟩ | ⟨rfl, c278, c279, hq280⟩ | ⟨rfl, c281, hq282⟩ | ⟨rfl, c283, hq284⟩
      · refine lv_if_ne (tgt := 182) hx hb dX12_leads_178 (by decide) (fun c => absurd (by decide) c) (fun _ => ?_)
        exact J181 v145_7 v145_8 v145_9 r99 f145_12__9_a1_toInt_217_toNat f145_12__9_a1_toInt_218_toNat H locs ls w94 (show 0 ≤ a1.toInt from r64) (show a1.toInt ≤ 3 from t65) (show 0 ≤ a2.toInt from r66) (show a2.toInt ≤ 1073741824 from t67) (show 0 ≤ a3.toInt from r68) (show a3.toInt ≤ 120 from t69) (show 0 ≤ a4.toInt from r70) (show a4.toInt ≤ 9 from t71) (show 0 ≤ a6.toInt from r72) (show a6.toInt ≤ 120 from t73) (show 0 ≤ v145_8.toInt from r74) (show v145_8.toInt ≤ 1073741944 from t75) (show 0 ≤ v145_9.toInt from r76) (show v145_9.toInt ≤ 1 from t77) (show (-1) ≤ r99.toInt by first | with_reducible assumption | omega) (show r99.toInt ≤ 11 by first | with_reducible assumption | omega) (show 0 ≤ f145_12__9_a1_toInt_217_toNat.toInt from r78) (show f145_12__9_a1_toInt_217_toNat.toInt ≤ 9 from t79) (show 0 ≤ f145_12__9_a1_toInt_218_toNat.toInt from r81) (show f145_12__9_a1_toInt_218_toNat.toInt ≤ 3 from t82)  hw hT hF c97 c98 (lv_sub hl [1, 2, 3, 4, 5, 6, 7, 8, 9, 10, 0] rfl)
      · refine lv_if_ne (tgt := 182) hx hb dX12_leads_178 (by decide) (fun c => absurd (by decide) c) (fun _ => ?_)
        exact J181 v145_7 v145_8 v145_9 r99 f145_12__9_a1_toInt_217_toNat f145_12__9_a1_toInt_218_toNat H locs ls w94 (show 0 ≤ a1.toInt from r64) (show a1.toInt ≤ 3 from t65) (show 0 ≤ a2.toInt from r66) (show a2.toInt ≤ 1073741824 from t67) (show 0 ≤ a3.toInt from r68) (show a3.toInt ≤ 120 from t69) (show 0 ≤ a4.toInt from r70) (show a4.toInt ≤ 9 from t71) (show 0 ≤ a6.toInt from r72) (show a6.toInt ≤ 120 from t73) (show 0 ≤ v145_8.toInt from r74) (show v145_8.toInt ≤ 1073741944 from t75) (show 0 ≤ v145_9.toInt from r76) (show v145_9.toInt ≤ 1 from t77) (show (-1) ≤ r99.toInt by first | with_reducible assumption | omega) (show r99.toInt ≤ 11 by first | with_reducible assumption | omega) (show 0 ≤ f145_12__9_a1_toInt_217_toNat.toInt from r78) (show f145_12__9_a1_toInt_217_toNat.toInt ≤ 9 from t79) (show 0 ≤ f145_12__9_a1_toInt_218_toNat.toInt from r81) (show f145_12__9_a1_toInt_218_toNat.toInt ≤ 3 from t82)  hw hT hF c97 c98 (lv_sub hl [1, 2, 3, 4, 5, 6, 7, 8, 9, 10, 0] rfl)
      · refine lv_if_ne (tgt := 182) hx hb dX12_leads_178 (by decide) (fun c => absurd (by decide) c) (fun _ => ?_)
        exact J181 v145_7 v145_8 v145_9 r99 f145_12__9_a1_toInt_217_toNat f145_12__9_a1_toInt_218_toNat H locs ls w94 (show 0 ≤ a1.toInt from r64) (show a1.toInt ≤ 3 from t65) (show 0 ≤ a2.toInt from r66) (show a2.toInt ≤ 1073741824 from t67) (show 0 ≤ a3.toInt from r68) (show a3.toInt ≤ 120 from t69) (show 0 ≤ a4.toInt from r70) (show a4.toInt ≤ 9 from t71) (show 0 ≤ a6.toInt from r72) (show a6.toInt ≤ 120 from t73) (show 0 ≤ v145_8.toInt from r74) (show v145_8.toInt ≤ 1073741944 from t75) (show 0 ≤ v145_9.toInt from r76) (show v145_9.toInt ≤ 1 from t77) (show (-1) ≤ r99.toInt by first | with_reducible assumption | omega) (show r99.toInt ≤ 11 by first | with_reducible assumption | omega) (show 0 ≤ f145_12__9_a1_toInt_217_toNat.toInt from r78) (show f145_12__9_a1_toInt_217_toNat.toInt ≤ 9 from t79) (show 0 ≤ f145_12__9_a1_toInt_218_toNat.toInt from r81) (show f145_12__9_a1_toInt_218_toNat.toInt ≤ 3 from t82)  hw hT hF c97 c98 (lv_sub hl [1, 2, 3, 4, 5, 6, 7, 8, 9, 10, 0] rfl)
      · refine lv_if_ne (tgt := 182) hx hb dX12_leads_178 (by decide) (fun c => absurd (by decide) c) (fun _ => ?_)
        exact J181 v145_7 v145_8 v145_9 r99 f145_12__9_a1_toInt_217_toNat f145_12__9_a1_toInt_218_toNat H locs ls w94 (show 0 ≤ a1.toInt from r64) (show a1.toInt ≤ 3 from t65) (show 0 ≤ a2.toInt from r66) (show a2.toInt ≤ 1073741824 from t67) (show 0 ≤ a3.toInt from r68) (show a3.toInt ≤ 120 from t69) (show 0 ≤ a4.toInt from r70) (show a4.toInt ≤ 9 from t71) (show 0 ≤ a6.toInt from r72) (show a6.toInt ≤ 120 from t73) (show 0 ≤ v145_8.toInt from r74) (show v145_8.toInt ≤ 1073741944 from t75) (show 0 ≤ v145_9.toInt from r76) (show v145_9.toInt ≤ 1 from t77) (show (-1) ≤ r99.toInt by first | with_reducible assumption | omega) (show r99.toInt ≤ 11 by first | with_reducible assumption | omega) (show 0 ≤ f145_12__9_a1_toInt_217_toNat.toInt from r78) (show f145_12__9_a1_toInt_217_toNat.toInt ≤ 9 from t79) (show 0 ≤ f145_12__9_a1_toInt_218_toNat.toInt from r81) (show f145_12__9_a1_toInt_218_toNat.toInt ≤ 3 from t82)  hw hT hF c97 c98 (lv_sub hl [1, 2, 3, 4, 5, 6, 7, 8, 9, 10, 0] rfl)
      · refine lv_if_ne (tgt := 182) hx hb dX12_leads_178 (by decide) (fun _ => ?_) (fun c => absurd c (by decide))
        refine lv_iload_n hx hb dX12_leads_182 rfl (lv_at hl 4 rfl) ?_
        refine lv_aload_n hx hb dX12_leads_183 rfl (lv_at hl 1 rfl) ?_
        refine lv_iload hx hb dX12_leads_184 (lv_at hl 0 rfl) ?_
        refine lv_iconst (v := 2) hx hb dX12_leads_186 (by decide) ?_
        refine tk_Vi hC hK hw hT hA hE hSR kM_at0 (by decide) rfl (k_X12_streetOf_6 l adK adV dC dI cy ad B hB0 (Int.le_trans hB1 (by decide)) qr s1   r99 (show 0 ≤ r99.toInt by first | with_reducible assumption | omega) (show r99.toInt ≤ 11 by first | with_reducible assumption | omega) w94 H.size hT ) (cwV 2 hC.2.2.2.2 uV_RX12_300 rfl rfl rfl (by decide +kernel) ⟨Nat.le_of_ble_eq_true rfl, Nat.le_of_ble_eq_true rfl⟩) rfl hl.1 rfl (Nat.le_of_ble_eq_true rfl) dX12_leads_187 (fun r286 w288 H locs hp287 hw => ?_)
        obtain ⟨rfl, hg293⟩ := hp287
        obtain ⟨g290, g291, c292⟩ := hg293
        refine lv_iadd hx hb dX12_leads_190 ?_
        refine lv_topi (fun x294 ex294 => ?_)
        have ex294 : x294.toInt = a3.toInt + r286.toInt := by rw [ex294]; exact wk_add (show (-2147483648) ≤ a3.toInt + r286.toInt by omega) (show a3.toInt + r286.toInt ≤ 2147483647 by omega)
        refine lv_istore (lv' := [(11, .int x294), (10, .int r99), (0, .ref (ad 0)), (1, .int a1), (2, .int a2), (3, .int a3), (4, .int a4), (5, .int 0), (6, .int a6), (7, .int v145_7), (8, .int v145_8), (9, .int v145_9)]) hx hb dX12_leads_191 hl (by decide) rfl (fun ls hl => ?_)
        refine lv_iload hx hb dX12_leads_193 (lv_at hl 0 rfl) ?_
        refine lv_iload hx hb dX12_leads_195 (lv_at hl 8 rfl) ?_
        refine lv_icmp_gt (tgt := 241) hx hb dX12_leads_197 (by decide) (fun c295 => ?_) (fun c295 => ?_)
        · have c295 : a6.toInt < x294.toInt := wk_lt.mp c295
          exact J241 v145_7 v145_8 v145_9 r99 x294 f145_12__9_a1_toInt_217_toNat f145_12__9_a1_toInt_218_toNat x111 H locs ls w94 (show 0 ≤ a1.toInt from r64) (show a1.toInt ≤ 3 from t65) (show 0 ≤ a2.toInt from r66) (show a2.toInt ≤ 1073741824 from t67) (show 0 ≤ a3.toInt from r68) (show a3.toInt ≤ 120 from t69) (show 0 ≤ a4.toInt from r70) (show a4.toInt ≤ 9 from t71) (show 0 ≤ a6.toInt from r72) (show a6.toInt ≤ 120 from t73) (show 0 ≤ v145_8.toInt from r74) (show v145_8.toInt ≤ 1073741944 from t75) (show 0 ≤ v145_9.toInt from r76) (show v145_9.toInt ≤ 1 from t77) (show 0 ≤ r99.toInt by first | with_reducible assumption | omega) (show r99.toInt ≤ 11 by first | with_reducible assumption | omega) (show 0 ≤ x294.toInt by first | with_reducible assumption | omega) (show x294.toInt ≤ 129 by first | with_reducible assumption | omega) (show 0 ≤ f145_12__9_a1_toInt_217_toNat.toInt from r78) (show f145_12__9_a1_toInt_217_toNat.toInt ≤ 9 from t79) (show 0 ≤ f145_12__9_a1_toInt_218_toNat.toInt from r81) (show f145_12__9_a1_toInt_218_toNat.toInt ≤ 3 from t82) (show 1 ≤ x111.toInt by first | with_reducible assumption | omega) (show x111.toInt ≤ 12 by first | with_reducible assumption | omega)  hw hT hF c97 c98 c112 (lv_sub hl [2, 3, 4, 5, 6, 7, 8, 9, 10, 11, 1, 0] rfl)
        · have c295 : x294.toInt ≤ a6.toInt := wk_ltF c295
          refine lv_aload_n hx hb dX12_leads_200 rfl (lv_at hl 2 rfl) ?_
          refine lv_iload hx hb dX12_leads_201 (lv_at hl 0 rfl) ?_
          refine lv_aload_n hx hb dX12_leads_203 rfl (lv_at hl 2 rfl) ?_
          refine lv_iload hx hb dX12_leads_204 (lv_at hl 1 rfl) ?_
          refine lv_iload hx hb dX12_leads_206 (lv_at hl 6 rfl) ?_
          refine tk_Vi hC hK hw hT hA hE hSR kM_at0 (by decide) rfl (k_X12_otherOf_1 l adK adV dC dI cy ad B hB0 (Int.le_trans hB1 (by decide)) qr s1   r99 (show 0 ≤ r99.toInt by first | with_reducible assumption | omega) (show r99.toInt ≤ 11 by first | with_reducible assumption | omega) a4 (show 0 ≤ a4.toInt from r70) (show a4.toInt ≤ 9 from t71) w94 H.size hT ) (cwV 2 hC.2.2.2.2 uV_RX12_348 rfl rfl rfl (by decide +kernel) ⟨Nat.le_of_ble_eq_true rfl, Nat.le_of_ble_eq_true rfl⟩) rfl hl.1 rfl (Nat.le_of_ble_eq_true rfl) dX12_leads_208 (fun r296 w298 H locs hp297 hw => ?_)
          obtain ⟨rfl, hg305⟩ := hp297
          rcases hg305 with ⟨g300, g301⟩ | ⟨g302, g303, c304⟩
          · refine lv_iload hx hb dX12_leads_211 (lv_at hl 7 rfl) ?_
            refine lv_if_eq (tgt := 235) hx hb dX12_leads_213 (by decide) (fun _ => ?_) (fun c => absurd (by decide) c)
            refine lv_iconst (v := 0) hx hb dX12_leads_235 (by decide) ?_
            refine lv_iload hx hb dX12_leads_236 (lv_at hl 9 rfl) ?_
            refine tk_Vv hC hK hw hT hA hE hSR kM_at0 (by decide) rfl (k_X12_could_3 l adK adV dC dI cy ad B hB0 (Int.le_trans hB1 (by decide)) qr s1   x294 (show 0 ≤ x294.toInt by first | with_reducible assumption | omega) (show x294.toInt ≤ 120 by first | with_reducible assumption | omega) r296 (show 0 ≤ r296.toInt by first | with_reducible assumption | omega) (show r296.toInt ≤ 9 by first | with_reducible assumption | omega) v145_7 w94 H.size hT ) (cwV 4 hC.2.2.2.2 uV_RX12_439 rfl rfl rfl (by decide +kernel) ⟨Nat.le_of_ble_eq_true rfl, Nat.le_of_ble_eq_true rfl⟩) rfl hl.1 rfl (Nat.le_of_ble_eq_true rfl) dX12_leads_238 (fun w308 H locs hp307 hw => ?_)
            obtain ⟨hT, k309, hg310⟩ := hp307
            have hF := hF.tr k309 (by decide)
            have c311 := k309.gi kM_at12 rfl c97
            have c312 := k309.gi kM_at12 rfl c98
            have c313 := k309.gi kM_at12 (by decide) c112
            have c314 := k309.gi kM_at12 rfl c113
            have c315 := k309.gi kM_at12 rfl c279
            have c316 := k309.gi kM_at12 rfl c292
            clear hg310
            exact J241 v145_7 v145_8 v145_9 r99 x294 f145_12__9_a1_toInt_217_toNat f145_12__9_a1_toInt_218_toNat x111 H locs ls w308 (show 0 ≤ a1.toInt from r64) (show a1.toInt ≤ 3 from t65) (show 0 ≤ a2.toInt from r66) (show a2.toInt ≤ 1073741824 from t67) (show 0 ≤ a3.toInt from r68) (show a3.toInt ≤ 120 from t69) (show 0 ≤ a4.toInt from r70) (show a4.toInt ≤ 9 from t71) (show 0 ≤ a6.toInt from r72) (show a6.toInt ≤ 120 from t73) (show 0 ≤ v145_8.toInt from r74) (show v145_8.toInt ≤ 1073741944 from t75) (show 0 ≤ v145_9.toInt from r76) (show v145_9.toInt ≤ 1 from t77) (show 0 ≤ r99.toInt by first | with_reducible assumption | omega) (show r99.toInt ≤ 11 by first | with_reducible assumption | omega) (show 0 ≤ x294.toInt by first | with_reducible assumption | omega) (show x294.toInt ≤ 129 by first | with_reducible assumption | omega) (show 0 ≤ f145_12__9_a1_toInt_217_toNat.toInt from r78) (show f145_12__9_a1_toInt_217_toNat.toInt ≤ 9 from t79) (show 0 ≤ f145_12__9_a1_toInt_218_toNat.toInt from r81) (show f145_12__9_a1_toInt_218_toNat.toInt ≤ 3 from t82) (show 1 ≤ x111.toInt by first | with_reducible assumption | omega) (show x111.toInt ≤ 12 by first | with_reducible assumption | omega)  hw hT hF c311 c312 c313 (lv_sub hl [2, 3, 4, 5, 6, 7, 8, 9, 10, 11, 1, 0] rfl)
          · refine lv_iload hx hb dX12_leads_211 (lv_at hl 7 rfl) ?_
            refine lv_if_eq (tgt := 235) hx hb dX12_leads_213 (by decide) (fun _ => ?_) (fun c => absurd (by decide) c)
            refine lv_iconst (v := 0) hx hb dX12_leads_235 (by decide) ?_
            refine lv_iload hx hb dX12_leads_236 (lv_at hl 9 rfl) ?_
            refine tk_Vv hC hK hw hT hA hE hSR kM_at0 (by decide) rfl (k_X12_could_3 l adK adV dC dI cy ad B hB0 (Int.le_trans hB1 (by decide)) qr s1   x294 (show 0 ≤ x294.toInt by first | with_reducible assumption | omega) (show x294.toInt ≤ 120 by first | with_reducible assumption | omega) r296 (show 0 ≤ r296.toInt by first | with_reducible assumption | omega) (show r296.toInt ≤ 9 by first | with_reducible assumption | omega) v145_7 w94 H.size hT ) (cwV 4 hC.2.2.2.2 uV_RX12_439 rfl rfl rfl (by decide +kernel) ⟨Nat.le_of_ble_eq_true rfl, Nat.le_of_ble_eq_true rfl⟩) rfl hl.1 rfl (Nat.le_of_ble_eq_true rfl) dX12_leads_238 (fun w319 H locs hp318 hw => ?_)
            obtain ⟨hT, k320, hg321⟩ := hp318
            have hF := hF.tr k320 (by decide)
            have c322 := k320.gi kM_at12 rfl c97
            have c323 := k320.gi kM_at12 rfl c98
            have c324 := k320.gi kM_at12 (by decide) c112
            have c325 := k320.gi kM_at12 rfl c113
            have c326 := k320.gi kM_at12 rfl c279
            have c327 := k320.gi kM_at12 rfl c292
            clear hg321
            exact J241 v145_7 v145_8 v145_9 r99 x294 f145_12__9_a1_toInt_217_toNat f145_12__9_a1_toInt_218_toNat x111 H locs ls w319 (show 0 ≤ a1.toInt from r64) (show a1.toInt ≤ 3 from t65) (show 0 ≤ a2.toInt from r66) (show a2.toInt ≤ 1073741824 from t67) (show 0 ≤ a3.toInt from r68) (show a3.toInt ≤ 120 from t69) (show 0 ≤ a4.toInt from r70) (show a4.toInt ≤ 9 from t71) (show 0 ≤ a6.toInt from r72) (show a6.toInt ≤ 120 from t73) (show 0 ≤ v145_8.toInt from r74) (show v145_8.toInt ≤ 1073741944 from t75) (show 0 ≤ v145_9.toInt from r76) (show v145_9.toInt ≤ 1 from t77) (show 0 ≤ r99.toInt by first | with_reducible assumption | omega) (show r99.toInt ≤ 11 by first | with_reducible assumption | omega) (show 0 ≤ x294.toInt by first | with_reducible assumption | omega) (show x294.toInt ≤ 129 by first | with_reducible assumption | omega) (show 0 ≤ f145_12__9_a1_toInt_217_toNat.toInt from r78) (show f145_12__9_a1_toInt_217_toNat.toInt ≤ 9 from t79) (show 0 ≤ f145_12__9_a1_toInt_218_toNat.toInt from r81) (show f145_12__9_a1_toInt_218_toNat.toInt ≤ 3 from t82) (show 1 ≤ x111.toInt by first | with_reducible assumption | omega) (show x111.toInt ≤ 12 by first | with_reducible assumption | omega)  hw hT hF c322 c323 c324 (lv_sub hl [2, 3, 4, 5, 6, 7, 8, 9, 10, 11, 1, 0] rfl)
      · refine lv_if_ne (tgt := 182) hx hb dX12_leads_178 (by decide) (fun _ => ?_) (fun c => absurd c (by decide))
        refine lv_iload_n hx hb dX12_leads_182 rfl (lv_at hl 4 rfl) ?_
        refine lv_aload_n hx hb dX12_leads_183 rfl (lv_at hl 1 rfl) ?_
        refine lv_iload hx hb dX12_leads_184 (lv_at hl 0 rfl) ?_
        refine lv_iconst (v := 2) hx hb dX12_leads_186 (by decide) ?_
        refine tk_Vi hC hK hw hT hA hE hSR kM_at0 (by decide) rfl (k_X12_streetOf_6 l adK adV dC dI cy ad B hB0 (Int.le_trans hB1 (by decide)) qr s1   r99 (show 0 ≤ r99.toInt by first | with_reducible assumption | omega) (show r99.toInt ≤ 11 by first | with_reducible assumption | omega) w94 H.size hT ) (cwV 2 hC.2.2.2.2 uV_RX12_300 rfl rfl rfl (by decide +kernel) ⟨Nat.le_of_ble_eq_true rfl, Nat.le_of_ble_eq_true rfl⟩) rfl hl.1 rfl (Nat.le_of_ble_eq_true rfl) dX12_leads_187 (fun r328 w330 H locs hp329 hw => ?_)
        obtain ⟨rfl, hg335⟩ := hp329
        obtain ⟨g332, g333, c334⟩ := hg335
        refine lv_iadd hx hb dX12_leads_190 ?_
        refine lv_topi (fun x336 ex336 => ?_)
        have ex336 : x336.toInt = a3.toInt + r328.toInt := by rw [ex336]; exact wk_add (show (-2147483648) ≤ a3.toInt + r328.toInt by omega) (show a3.toInt + r328.toInt ≤ 2147483647 by omega)
        refine lv_istore (lv' := [(11, .int x336), (10, .int r99), (0, .ref (ad 0)), (1, .int a1), (2, .int a2), (3, .int a3), (4, .int a4), (5, .int 0), (6, .int a6), (7, .int v145_7), (8, .int v145_8), (9, .int v145_9)]) hx hb dX12_leads_191 hl (by decide) rfl (fun ls hl => ?_)
        refine lv_iload hx hb dX12_leads_193 (lv_at hl 0 rfl) ?_
        refine lv_iload hx hb dX12_leads_195 (lv_at hl 8 rfl) ?_
        refine lv_icmp_gt (tgt := 241) hx hb dX12_leads_197 (by decide) (fun c337 => ?_) (fun c337 => ?_)
        · have c337 : a6.toInt < x336.toInt := wk_lt.mp c337
          exact J241 v145_7 v145_8 v145_9 r99 x336 f145_12__9_a1_toInt_217_toNat f145_12__9_a1_toInt_218_toNat x111 H locs ls w94 (show 0 ≤ a1.toInt from r64) (show a1.toInt ≤ 3 from t65) (show 0 ≤ a2.toInt from r66) (show a2.toInt ≤ 1073741824 from t67) (show 0 ≤ a3.toInt from r68) (show a3.toInt ≤ 120 from t69) (show 0 ≤ a4.toInt from r70) (show a4.toInt ≤ 9 from t71) (show 0 ≤ a6.toInt from r72) (show a6.toInt ≤ 120 from t73) (show 0 ≤ v145_8.toInt from r74) (show v145_8.toInt ≤ 1073741944 from t75) (show 0 ≤ v145_9.toInt from r76) (show v145_9.toInt ≤ 1 from t77) (show 0 ≤ r99.toInt by first | with_reducible assumption | omega) (show r99.toInt ≤ 11 by first | with_reducible assumption | omega) (show 0 ≤ x336.toInt by first | with_reducible assumption | omega) (show x336.toInt ≤ 129 by first | with_reducible assumption | omega) (show 0 ≤ f145_12__9_a1_toInt_217_toNat.toInt from r78) (show f145_12__9_a1_toInt_217_toNat.toInt ≤ 9 from t79) (show 0 ≤ f145_12__9_a1_toInt_218_toNat.toInt from r81) (show f145_12__9_a1_toInt_218_toNat.toInt ≤ 3 from t82) (show 1 ≤ x111.toInt by first | with_reducible assumption | omega) (show x111.toInt ≤ 12 by first | with_reducible assumption | omega)  hw hT hF c97 c98 c112 (lv_sub hl [2, 3, 4, 5, 6, 7, 8, 9, 10, 11, 1, 0] rfl)
        · have c337 : x336.toInt ≤ a6.toInt := wk_ltF c337
          refine lv_aload_n hx hb dX12_leads_200 rfl (lv_at hl 2 rfl) ?_
          refine lv_iload hx hb dX12_leads_201 (lv_at hl 0 rfl) ?_
          refine lv_aload_n hx hb dX12_leads_203 rfl (lv_at hl 2 rfl) ?_
          refine lv_iload hx hb dX12_leads_204 (lv_at hl 1 rfl) ?_
          refine lv_iload hx hb dX12_leads_206 (lv_at hl 6 rfl) ?_
          refine tk_Vi hC hK hw hT hA hE hSR kM_at0 (by decide) rfl (k_X12_otherOf_1 l adK adV dC dI cy ad B hB0 (Int.le_trans hB1 (by decide)) qr s1   r99 (show 0 ≤ r99.toInt by first | with_reducible assumption | omega) (show r99.toInt ≤ 11 by first | with_reducible assumption | omega) a4 (show 0 ≤ a4.toInt from r70) (show a4.toInt ≤ 9 from t71) w94 H.size hT ) (cwV 2 hC.2.2.2.2 uV_RX12_348 rfl rfl rfl (by decide +kernel) ⟨Nat.le_of_ble_eq_true rfl, Nat.le_of_ble_eq_true rfl⟩) rfl hl.1 rfl (Nat.le_of_ble_eq_true rfl) dX12_leads_208 (fun r338 w340 H locs hp339 hw => ?_)
          obtain ⟨rfl, hg347⟩ := hp339
          rcases hg347 with ⟨g342, g343⟩ | ⟨g344, g345, c346⟩
          · refine lv_iload hx hb dX12_leads_211 (lv_at hl 7 rfl) ?_
            refine lv_if_eq (tgt := 235) hx hb dX12_leads_213 (by decide) (fun _ => ?_) (fun c => absurd (by decide) c)
            refine lv_iconst (v := 0) hx hb dX12_leads_235 (by decide) ?_
            refine lv_iload hx hb dX12_leads_236 (lv_at hl 9 rfl) ?_
            refine tk_Vv hC hK hw hT hA hE hSR kM_at0 (by decide) rfl (k_X12_could_3 l adK adV dC dI cy ad B hB0 (Int.le_trans hB1 (by decide)) qr s1   x336 (show 0 ≤ x336.toInt by first | with_reducible assumption | omega) (show x336.toInt ≤ 120 by first | with_reducible assumption | omega) r338 (show 0 ≤ r338.toInt by first | with_reducible assumption | omega) (show r338.toInt ≤ 9 by first | with_reducible assumption | omega) v145_7 w94 H.size hT ) (cwV 4 hC.2.2.2.2 uV_RX12_439 rfl rfl rfl (by decide +kernel) ⟨Nat.le_of_ble_eq_true rfl, Nat.le_of_ble_eq_true rfl⟩) rfl hl.1 rfl (Nat.le_of_ble_eq_true rfl) dX12_leads_238 (fun w350 H locs hp349 hw => ?_)
            obtain ⟨hT, k351, hg352⟩ := hp349
            have hF := hF.tr k351 (by decide)
            have c353 := k351.gi kM_at12 rfl c97
            have c354 := k351.gi kM_at12 rfl c98
            have c355 := k351.gi kM_at12 (by decide) c112
            have c356 := k351.gi kM_at12 rfl c113
            have c357 := k351.gi kM_at12 rfl c334
            clear hg352
            exact J241 v145_7 v145_8 v145_9 r99 x336 f145_12__9_a1_toInt_217_toNat f145_12__9_a1_toInt_218_toNat x111 H locs ls w350 (show 0 ≤ a1.toInt from r64) (show a1.toInt ≤ 3 from t65) (show 0 ≤ a2.toInt from r66) (show a2.toInt ≤ 1073741824 from t67) (show 0 ≤ a3.toInt from r68) (show a3.toInt ≤ 120 from t69) (show 0 ≤ a4.toInt from r70) (show a4.toInt ≤ 9 from t71) (show 0 ≤ a6.toInt from r72) (show a6.toInt ≤ 120 from t73) (show 0 ≤ v145_8.toInt from r74) (show v145_8.toInt ≤ 1073741944 from t75) (show 0 ≤ v145_9.toInt from r76) (show v145_9.toInt ≤ 1 from t77) (show 0 ≤ r99.toInt by first | with_reducible assumption | omega) (show r99.toInt ≤ 11 by first | with_reducible assumption | omega) (show 0 ≤ x336.toInt by first | with_reducible assumption | omega) (show x336.toInt ≤ 129 by first | with_reducible assumption | omega) (show 0 ≤ f145_12__9_a1_toInt_217_toNat.toInt from r78) (show f145_12__9_a1_toInt_217_toNat.toInt ≤ 9 from t79) (show 0 ≤ f145_12__9_a1_toInt_218_toNat.toInt from r81) (show f145_12__9_a1_toInt_218_toNat.toInt ≤ 3 from t82) (show 1 ≤ x111.toInt by first | with_reducible assumption | omega) (show x111.toInt ≤ 12 by first | with_reducible assumption | omega)  hw hT hF c353 c354 c355 (lv_sub hl [2, 3, 4, 5, 6, 7, 8, 9, 10, 11, 1, 0] rfl)
          · refine lv_iload hx hb dX12_leads_211 (lv_at hl 7 rfl) ?_
            refine lv_if_eq (tgt := 235) hx hb dX12_leads_213 (by decide) (fun _ => ?_) (fun c => absurd (by decide) c)
            refine lv_iconst (v := 0) hx hb dX12_leads_235 (by decide) ?_
            refine lv_iload hx hb dX12_leads_236 (lv_at hl 9 rfl) ?_
            refine tk_Vv hC hK hw hT hA hE hSR kM_at0 (by decide) rfl (k_X12_could_3 l adK adV dC dI cy ad B hB0 (Int.le_trans hB1 (by decide)) qr s1   x336 (show 0 ≤ x336.toInt by first | with_reducible assumption | omega) (show x336.toInt ≤ 120 by first | with_reducible assumption | omega) r338 (show 0 ≤ r338.toInt by first | with_reducible assumption | omega) (show r338.toInt ≤ 9 by first | with_reducible assumption | omega) v145_7 w94 H.size hT ) (cwV 4 hC.2.2.2.2 uV_RX12_439 rfl rfl rfl (by decide +kernel) ⟨Nat.le_of_ble_eq_true rfl, Nat.le_of_ble_eq_true rfl⟩) rfl hl.1 rfl (Nat.le_of_ble_eq_true rfl) dX12_leads_238 (fun w360 H locs hp359 hw => ?_)
            obtain ⟨hT, k361, hg362⟩ := hp359
            have hF := hF.tr k361 (by decide)
            have c363 := k361.gi kM_at12 rfl c97
            have c364 := k361.gi kM_at12 rfl c98
            have c365 := k361.gi kM_at12 (by decide) c112
            have c366 := k361.gi kM_at12 rfl c113
            have c367 := k361.gi kM_at12 rfl c334
            clear hg362
            exact J241 v145_7 v145_8 v145_9 r99 x336 f145_12__9_a1_toInt_217_toNat f145_12__9_a1_toInt_218_toNat x111 H locs ls w360 (show 0 ≤ a1.toInt from r64) (show a1.toInt ≤ 3 from t65) (show 0 ≤ a2.toInt from r66) (show a2.toInt ≤ 1073741824 from t67) (show 0 ≤ a3.toInt from r68) (show a3.toInt ≤ 120 from t69) (show 0 ≤ a4.toInt from r70) (show a4.toInt ≤ 9 from t71) (show 0 ≤ a6.toInt from r72) (show a6.toInt ≤ 120 from t73) (show 0 ≤ v145_8.toInt from r74) (show v145_8.toInt ≤ 1073741944 from t75) (show 0 ≤ v145_9.toInt from r76) (show v145_9.toInt ≤ 1 from t77) (show 0 ≤ r99.toInt by first | with_reducible assumption | omega) (show r99.toInt ≤ 11 by first | with_reducible assumption | omega) (show 0 ≤ x336.toInt by first | with_reducible assumption | omega) (show x336.toInt ≤ 129 by first | with_reducible assumption | omega) (show 0 ≤ f145_12__9_a1_toInt_217_toNat.toInt from r78) (show f145_12__9_a1_toInt_217_toNat.toInt ≤ 9 from t79) (show 0 ≤ f145_12__9_a1_toInt_218_toNat.toInt from r81) (show f145_12__9_a1_toInt_218_toNat.toInt ≤ 3 from t82) (show 1 ≤ x111.toInt by first | with_reducible assumption | omega) (show x111.toInt ≤ 12 by first | with_reducible assumption | omega)  hw hT hF c363 c364 c365 (lv_sub hl [2, 3, 4, 5, 6, 7, 8, 9, 10, 11, 1, 0] rfl)
      · refine lv_if_ne (tgt := 182) hx hb dX12_leads_178 (by decide) (fun _ => ?_) (fun c => absurd c (by decide))
        refine lv_iload_n hx hb dX12_leads_182 rfl (lv_at hl 4 rfl) ?_
        refine lv_aload_n hx hb dX12_leads_183 rfl (lv_at hl 1 rfl) ?_
        refine lv_iload hx hb dX12_leads_184 (lv_at hl 0 rfl) ?_
        refine lv_iconst (v := 2) hx hb dX12_leads_186 (by decide) ?_
        refine tk_Vi hC hK hw hT hA hE hSR kM_at0 (by decide) rfl (k_X12_streetOf_6 l adK adV dC dI cy ad B hB0 (Int.le_trans hB1 (by decide)) qr s1   r99 (show 0 ≤ r99.toInt by first | with_reducible assumption | omega) (show r99.toInt ≤ 11 by first | with_reducible assumption | omega) w94 H.size hT ) (cwV 2 hC.2.2.2.2 uV_RX12_300 rfl rfl rfl (by decide +kernel) ⟨Nat.le_of_ble_eq_true rfl, Nat.le_of_ble_eq_true rfl⟩) rfl hl.1 rfl (Nat.le_of_ble_eq_true rfl) dX12_leads_187 (fun r368 w370 H locs hp369 hw => ?_)
        obtain ⟨rfl, hg375⟩ := hp369
        obtain ⟨g372, g373, c374⟩ := hg375
        refine lv_iadd hx hb dX12_leads_190 ?_
        refine lv_topi (fun x376 ex376 => ?_)
        have ex376 : x376.toInt = a3.toInt + r368.toInt := by rw [ex376]; exact wk_add (show (-2147483648) ≤ a3.toInt + r368.toInt by omega) (show a3.toInt + r368.toInt ≤ 2147483647 by omega)
        refine lv_istore (lv' := [(11, .int x376), (10, .int r99), (0, .ref (ad 0)), (1, .int a1), (2, .int a2), (3, .int a3), (4, .int a4), (5, .int 0), (6, .int a6), (7, .int v145_7), (8, .int v145_8), (9, .int v145_9)]) hx hb dX12_leads_191 hl (by decide) rfl (fun ls hl => ?_)
        refine lv_iload hx hb dX12_leads_193 (lv_at hl 0 rfl) ?_
        refine lv_iload hx hb dX12_leads_195 (lv_at hl 8 rfl) ?_
        refine lv_icmp_gt (tgt := 241) hx hb dX12_leads_197 (by decide) (fun c377 => ?_) (fun c377 => ?_)
        · have c377 : a6.toInt < x376.toInt := wk_lt.mp c377
          exact J241 v145_7 v145_8 v145_9 r99 x376 f145_12__9_a1_toInt_217_toNat f145_12__9_a1_toInt_218_toNat x111 H locs ls w94 (show 0 ≤ a1.toInt from r64) (show a1.toInt ≤ 3 from t65) (show 0 ≤ a2.toInt from r66) (show a2.toInt ≤ 1073741824 from t67) (show 0 ≤ a3.toInt from r68) (show a3.toInt ≤ 120 from t69) (show 0 ≤ a4.toInt from r70) (show a4.toInt ≤ 9 from t71) (show 0 ≤ a6.toInt from r72) (show a6.toInt ≤ 120 from t73) (show 0 ≤ v145_8.toInt from r74) (show v145_8.toInt ≤ 1073741944 from t75) (show 0 ≤ v145_9.toInt from r76) (show v145_9.toInt ≤ 1 from t77) (show 0 ≤ r99.toInt by first | with_reducible assumption | omega) (show r99.toInt ≤ 11 by first | with_reducible assumption | omega) (show 0 ≤ x376.toInt by first | with_reducible assumption | omega) (show x376.toInt ≤ 129 by first | with_reducible assumption | omega) (show 0 ≤ f145_12__9_a1_toInt_217_toNat.toInt from r78) (show f145_12__9_a1_toInt_217_toNat.toInt ≤ 9 from t79) (show 0 ≤ f145_12__9_a1_toInt_218_toNat.toInt from r81) (show f145_12__9_a1_toInt_218_toNat.toInt ≤ 3 from t82) (show 1 ≤ x111.toInt by first | with_reducible assumption | omega) (show x111.toInt ≤ 12 by first | with_reducible assumption | omega)  hw hT hF c97 c98 c112 (lv_sub hl [2, 3, 4, 5, 6, 7, 8, 9, 10, 11, 1, 0] rfl)
        · have c377 : x376.toInt ≤ a6.toInt := wk_ltF c377
          refine lv_aload_n hx hb dX12_leads_200 rfl (lv_at hl 2 rfl) ?_
          refine lv_iload hx hb dX12_leads_201 (lv_at hl 0 rfl) ?_
          refine lv_aload_n hx hb dX12_leads_203 rfl (lv_at hl 2 rfl) ?_
          refine lv_iload hx hb dX12_leads_204 (lv_at hl 1 rfl) ?_
          refine lv_iload hx hb dX12_leads_206 (lv_at hl 6 rfl) ?_
          refine tk_Vi hC hK hw hT hA hE hSR kM_at0 (by decide) rfl (k_X12_otherOf_1 l adK adV dC dI cy ad B hB0 (Int.le_trans hB1 (by decide)) qr s1   r99 (show 0 ≤ r99.toInt by first | with_reducible assumption | omega) (show r99.toInt ≤ 11 by first | with_reducible assumption | omega) a4 (show 0 ≤ a4.toInt from r70) (show a4.toInt ≤ 9 from t71) w94 H.size hT ) (cwV 2 hC.2.2.2.2 uV_RX12_348 rfl rfl rfl (by decide +kernel) ⟨Nat.le_of_ble_eq_true rfl, Nat.le_of_ble_eq_true rfl⟩) rfl hl.1 rfl (Nat.le_of_ble_eq_true rfl) dX12_leads_208 (fun r378 w380 H locs hp379 hw => ?_)
          obtain ⟨rfl, hg387⟩ := hp379
          rcases hg387 with ⟨g382, g383⟩ | ⟨g384, g385, c386⟩
          · refine lv_iload hx hb dX12_leads_211 (lv_at hl 7 rfl) ?_
            refine lv_if_eq (tgt := 235) hx hb dX12_leads_213 (by decide) (fun _ => ?_) (fun c => absurd (by decide) c)
            refine lv_iconst (v := 0) hx hb dX12_leads_235 (by decide) ?_
            refine lv_iload hx hb dX12_leads_236 (lv_at hl 9 rfl) ?_
            refine tk_Vv hC hK hw hT hA hE hSR kM_at0 (by decide) rfl (k_X12_could_3 l adK adV dC dI cy ad B hB0 (Int.le_trans hB1 (by decide)) qr s1   x376 (show 0 ≤ x376.toInt by first | with_reducible assumption | omega) (show x376.toInt ≤ 120 by first | with_reducible assumption | omega) r378 (show 0 ≤ r378.toInt by first | with_reducible assumption | omega) (show r378.toInt ≤ 9 by first | with_reducible assumption | omega) v145_7 w94 H.size hT ) (cwV 4 hC.2.2.2.2 uV_RX12_439 rfl rfl rfl (by decide +kernel) ⟨Nat.le_of_ble_eq_true rfl, Nat.le_of_ble_eq_true rfl⟩) rfl hl.1 rfl (Nat.le_of_ble_eq_true rfl) dX12_leads_238 (fun w390 H locs hp389 hw => ?_)
            obtain ⟨hT, k391, hg392⟩ := hp389
            have hF := hF.tr k391 (by decide)
            have c393 := k391.gi kM_at12 rfl c97
            have c394 := k391.gi kM_at12 rfl c98
            have c395 := k391.gi kM_at12 (by decide) c112
            have c396 := k391.gi kM_at12 rfl c113
            have c397 := k391.gi kM_at12 rfl c283
            have c398 := k391.gi kM_at12 rfl c374
            clear hg392
            exact J241 v145_7 v145_8 v145_9 r99 x376 f145_12__9_a1_toInt_217_toNat f145_12__9_a1_toInt_218_toNat x111 H locs ls w390 (show 0 ≤ a1.toInt from r64) (show a1.toInt ≤ 3 from t65) (show 0 ≤ a2.toInt from r66) (show a2.toInt ≤ 1073741824 from t67) (show 0 ≤ a3.toInt from r68) (show a3.toInt ≤ 120 from t69) (show 0 ≤ a4.toInt from r70) (show a4.toInt ≤ 9 from t71) (show 0 ≤ a6.toInt from r72) (show a6.toInt ≤ 120 from t73) (show 0 ≤ v145_8.toInt from r74) (show v145_8.toInt ≤ 1073741944 from t75) (show 0 ≤ v145_9.toInt from r76) (show v145_9.toInt ≤ 1 from t77) (show 0 ≤ r99.toInt by first | with_reducible assumption | omega) (show r99.toInt ≤ 11 by first | with_reducible assumption | omega) (show 0 ≤ x376.toInt by first | with_reducible assumption | omega) (show x376.toInt ≤ 129 by first | with_reducible assumption | omega) (show 0 ≤ f145_12__9_a1_toInt_217_toNat.toInt from r78) (show f145_12__9_a1_toInt_217_toNat.toInt ≤ 9 from t79) (show 0 ≤ f145_12__9_a1_toInt_218_toNat.toInt from r81) (show f145_12__9_a1_toInt_218_toNat.toInt ≤ 3 from t82) (show 1 ≤ x111.toInt by first | with_reducible assumption | omega) (show x111.toInt ≤ 12 by first | with_reducible assumption | omega)  hw hT hF c393 c394 c395 (lv_sub hl [2, 3, 4, 5, 6, 7, 8, 9, 10, 11, 1, 0] rfl)
          · refine lv_iload hx hb dX12_leads_211 (lv_at hl 7 rfl) ?_
            refine lv_if_eq (tgt := 235) hx hb dX12_leads_213 (by decide) (fun _ => ?_) (fun c => absurd (by decide) c)
            refine lv_iconst (v := 0) hx hb dX12_leads_235 (by decide) ?_
            refine lv_iload hx hb dX12_leads_236 (lv_at hl 9 rfl) ?_
            refine tk_Vv hC hK hw hT hA hE hSR kM_at0 (by decide) rfl (k_X12_could_3 l adK adV dC dI cy ad B hB0 (Int.le_trans hB1 (by decide)) qr s1   x376 (show 0 ≤ x376.toInt by first | with_reducible assumption | omega) (show x376.toInt ≤ 120 by first | with_reducible assumption | omega) r378 (show 0 ≤ r378.toInt by first | with_reducible assumption | omega) (show r378.toInt ≤ 9 by first | with_reducible assumption | omega) v145_7 w94 H.size hT ) (cwV 4 hC.2.2.2.2 uV_RX12_439 rfl rfl rfl (by decide +kernel) ⟨Nat.le_of_ble_eq_true rfl, Nat.le_of_ble_eq_true rfl⟩) rfl hl.1 rfl (Nat.le_of_ble_eq_true rfl) dX12_leads_238 (fun w401 H locs hp400 hw => ?_)
            obtain ⟨hT, k402, hg403⟩ := hp400
            have hF := hF.tr k402 (by decide)
            have c404 := k402.gi kM_at12 rfl c97
            have c405 := k402.gi kM_at12 rfl c98
            have c406 := k402.gi kM_at12 (by decide) c112
            have c407 := k402.gi kM_at12 rfl c113
            have c408 := k402.gi kM_at12 rfl c283
            have c409 := k402.gi kM_at12 rfl c374
            clear hg403
            exact J241 v145_7 v145_8 v145_9 r99 x376 f145_12__9_a1_toInt_217_toNat f145_12__9_a1_toInt_218_toNat x111 H locs ls w401 (show 0 ≤ a1.toInt from r64) (show a1.toInt ≤ 3 from t65) (show 0 ≤ a2.toInt from r66) (show a2.toInt ≤ 1073741824 from t67) (show 0 ≤ a3.toInt from r68) (show a3.toInt ≤ 120 from t69) (show 0 ≤ a4.toInt from r70) (show a4.toInt ≤ 9 from t71) (show 0 ≤ a6.toInt from r72) (show a6.toInt ≤ 120 from t73) (show 0 ≤ v145_8.toInt from r74) (show v145_8.toInt ≤ 1073741944 from t75) (show 0 ≤ v145_9.toInt from r76) (show v145_9.toInt ≤ 1 from t77) (show 0 ≤ r99.toInt by first | with_reducible assumption | omega) (show r99.toInt ≤ 11 by first | with_reducible assumption | omega) (show 0 ≤ x376.toInt by first | with_reducible assumption | omega) (show x376.toInt ≤ 129 by first | with_reducible assumption | omega) (show 0 ≤ f145_12__9_a1_toInt_217_toNat.toInt from r78) (show f145_12__9_a1_toInt_217_toNat.toInt ≤ 9 from t79) (show 0 ≤ f145_12__9_a1_toInt_218_toNat.toInt from r81) (show f145_12__9_a1_toInt_218_toNat.toInt ≤ 3 from t82) (show 1 ≤ x111.toInt by first | with_reducible assumption | omega) (show x111.toInt ≤ 12 by first | with_reducible assumption | omega)  hw hT hF c404 c405 c406 (lv_sub hl [2, 3, 4, 5, 6, 7, 8, 9, 10, 11, 1, 0] rfl)
    · refine lv_istore (lv' := [(10, .int r99), (0, .ref (ad 0)), (1, .int a1), (2, .int a2), (3, .int a3), (4, .int a4), (5, .int 0), (6, .int a6), (7, .int v145_7), (8, .int v145_8), (9, .int v145_9)]) hx hb dX12_leads_161 hl (by decide) rfl (fun ls hl => ?_)
      refine lv_iload hx hb dX12_leads_163 (lv_at hl 0 rfl) ?_
      refine lv_if_lt (tgt := 181) hx hb dX12_leads_165 (by decide) (fun c => absurd c (fun h => absurd (show r99.toInt < (0 : Int) from wk_lt.mp h) (by omega))) (fun _ => ?_)
      refine lv_aload_n hx hb dX12_leads_168 rfl (lv_at hl 1 rfl) ?_
      refine lv_iload hx hb dX12_leads_169 (lv_at hl 0 rfl) ?_
      refine lv_iload hx hb dX12_leads_171 (lv_at hl 5 rfl) ?_
      refine lv_iload hx hb dX12_leads_173 (lv_at hl 9 rfl) ?_
      refine tk_Vi hC hK hw hT hA hE hSR kM_at0 (by decide) rfl (k_X12_isOpen_3 l adK adV dC dI cy ad B hB0 (Int.le_trans hB1 (by decide)) qr s1   r99 (show 0 ≤ r99.toInt by first | with_reducible assumption | omega) (show r99.toInt ≤ 11 by first | with_reducible assumption | omega) a4 (show 0 ≤ a4.toInt from r70) (show a4.toInt ≤ 9 from t71) v145_8 (show 0 ≤ v145_8.toInt from r74) (show v145_8.toInt ≤ 1073741944 from t75) w94 H.size hT ) (cwV 3 hC.2.2.2.2 uV_RX12_334 rfl rfl rfl (by decide +kernel) ⟨Nat.le_of_ble_eq_true rfl, Nat.le_of_ble_eq_true rfl⟩) rfl hl.1 rfl (Nat.le_of_ble_eq_true rfl) dX12_leads_175 (fun r410 w412 H locs hp411 hw => ?_)
      obtain ⟨rfl, hg429⟩ := hp411
      rcases hg429 with ⟨rfl, hq414⟩ | ⟨rfl, c415, c416, hq417⟩ | ⟨rfl, c418, hq419⟩ | ⟨rfl, c420, hq421⟩ | ⟨rfl, c422, c423, hq424⟩ | ⟨rfl, c425, hq426⟩ | ⟨rfl, c427, hq428⟩
      · refine lv_if_ne (tgt := 182) hx hb dX12_leads_178 (by decide) (fun c => absurd (by decide) c) (fun _ => ?_)
        exact J181 v145_7 v145_8 v145_9 r99 f145_12__9_a1_toInt_217_toNat f145_12__9_a1_toInt_218_toNat H locs ls w94 (show 0 ≤ a1.toInt from r64) (show a1.toInt ≤ 3 from t65) (show 0 ≤ a2.toInt from r66) (show a2.toInt ≤ 1073741824 from t67) (show 0 ≤ a3.toInt from r68) (show a3.toInt ≤ 120 from t69) (show 0 ≤ a4.toInt from r70) (show a4.toInt ≤ 9 from t71) (show 0 ≤ a6.toInt from r72) (show a6.toInt ≤ 120 from t73) (show 0 ≤ v145_8.toInt from r74) (show v145_8.toInt ≤ 1073741944 from t75) (show 0 ≤ v145_9.toInt from r76) (show v145_9.toInt ≤ 1 from t77) (show (-1) ≤ r99.toInt by first | with_reducible assumption | omega) (show r99.toInt ≤ 11 by first | with_reducible assumption | omega) (show 0 ≤ f145_12__9_a1_toInt_217_toNat.toInt from r78) (show f145_12__9_a1_toInt_217_toNat.toInt ≤ 9 from t79) (show 0 ≤ f145_12__9_a1_toInt_218_toNat.toInt from r81) (show f145_12__9_a1_toInt_218_toNat.toInt ≤ 3 from t82)  hw hT hF c97 c98 (lv_sub hl [1, 2, 3, 4, 5, 6, 7, 8, 9, 10, 0] rfl)
      · refine lv_if_ne (tgt := 182) hx hb dX12_leads_178 (by decide) (fun c => absurd (by decide) c) (fun _ => ?_)
        exact J181 v145_7 v145_8 v145_9 r99 f145_12__9_a1_toInt_217_toNat f145_12__9_a1_toInt_218_toNat H locs ls w94 (show 0 ≤ a1.toInt from r64) (show a1.toInt ≤ 3 from t65) (show 0 ≤ a2.toInt from r66) (show a2.toInt ≤ 1073741824 from t67) (show 0 ≤ a3.toInt from r68) (show a3.toInt ≤ 120 from t69) (show 0 ≤ a4.toInt from r70) (show a4.toInt ≤ 9 from t71) (show 0 ≤ a6.toInt from r72) (show a6.toInt ≤ 120 from t73) (show 0 ≤ v145_8.toInt from r74) (show v145_8.toInt ≤ 1073741944 from t75) (show 0 ≤ v145_9.toInt from r76) (show v145_9.toInt ≤ 1 from t77) (show (-1) ≤ r99.toInt by first | with_reducible assumption | omega) (show r99.toInt ≤ 11 by first | with_reducible assumption | omega) (show 0 ≤ f145_12__9_a1_toInt_217_toNat.toInt from r78) (show f145_12__9_a1_toInt_217_toNat.toInt ≤ 9 from t79) (show 0 ≤ f145_12__9_a1_toInt_218_toNat.toInt from r81) (show f145_12__9_a1_toInt_218_toNat.toInt ≤ 3 from t82)  hw hT hF c97 c98 (lv_sub hl [1, 2, 3, 4, 5, 6, 7, 8, 9, 10, 0] rfl)
      · refine lv_if_ne (tgt := 182) hx hb dX12_leads_178 (by decide) (fun c => absurd (by decide) c) (fun _ => ?_)
        exact J181 v145_7 v145_8 v145_9 r99 f145_12__9_a1_toInt_217_toNat f145_12__9_a1_toInt_218_toNat H locs ls w94 (show 0 ≤ a1.toInt from r64) (show a1.toInt ≤ 3 from t65) (show 0 ≤ a2.toInt from r66) (show a2.toInt ≤ 1073741824 from t67) (show 0 ≤ a3.toInt from r68) (show a3.toInt ≤ 120 from t69) (show 0 ≤ a4.toInt from r70) (show a4.toInt ≤ 9 from t71) (show 0 ≤ a6.toInt from r72) (show a6.toInt ≤ 120 from t73) (show 0 ≤ v145_8.toInt from r74) (show v145_8.toInt ≤ 1073741944 from t75) (show 0 ≤ v145_9.toInt from r76) (show v145_9.toInt ≤ 1 from t77) (show (-1) ≤ r99.toInt by first | with_reducible assumption | omega) (show r99.toInt ≤ 11 by first | with_reducible assumption | omega) (show 0 ≤ f145_12__9_a1_toInt_217_toNat.toInt from r78) (show f145_12__9_a1_toInt_217_toNat.toInt ≤ 9 from t79) (show 0 ≤ f145_12__9_a1_toInt_218_toNat.toInt from r81) (show f145_12__9_a1_toInt_218_toNat.toInt ≤ 3 from t82)  hw hT hF c97 c98 (lv_sub hl [1, 2, 3, 4, 5, 6, 7, 8, 9, 10, 0] rfl)
      · refine lv_if_ne (tgt := 182) hx hb dX12_leads_178 (by decide) (fun c => absurd (by decide) c) (fun _ => ?_)
        exact J181 v145_7 v145_8 v145_9 r99 f145_12__9_a1_toInt_217_toNat f145_12__9_a1_toInt_218_toNat H locs ls w94 (show 0 ≤ a1.toInt from r64) (show a1.toInt ≤ 3 from t65) (show 0 ≤ a2.toInt from r66) (show a2.toInt ≤ 1073741824 from t67) (show 0 ≤ a3.toInt from r68) (show a3.toInt ≤ 120 from t69) (show 0 ≤ a4.toInt from r70) (show a4.toInt ≤ 9 from t71) (show 0 ≤ a6.toInt from r72) (show a6.toInt ≤ 120 from t73) (show 0 ≤ v145_8.toInt from r74) (show v145_8.toInt ≤ 1073741944 from t75) (show 0 ≤ v145_9.toInt from r76) (show v145_9.toInt ≤ 1 from t77) (show (-1) ≤ r99.toInt by first | with_reducible assumption | omega) (show r99.toInt ≤ 11 by first | with_reducible assumption | omega) (show 0 ≤ f145_12__9_a1_toInt_217_toNat.toInt from r78) (show f145_12__9_a1_toInt_217_toNat.toInt ≤ 9 from t79) (show 0 ≤ f145_12__9_a1_toInt_218_toNat.toInt from r81) (show f145_12__9_a1_toInt_218_toNat.toInt ≤ 3 from t82)  hw hT hF c97 c98 (lv_sub hl [1, 2, 3, 4, 5, 6, 7, 8, 9, 10, 0] rfl)
      · refine lv_if_ne (tgt := 182) hx hb dX12_leads_178 (by decide) (fun _ => ?_) (fun c => absurd c (by decide))
        refine lv_iload_n hx hb dX12_leads_182 rfl (lv_at hl 4 rfl) ?_
        refine lv_aload_n hx hb dX12_leads_183 rfl (lv_at hl 1 rfl) ?_
        refine lv_iload hx hb dX12_leads_184 (lv_at hl 0 rfl) ?_
        refine lv_iconst (v := 2) hx hb dX12_leads_186 (by decide) ?_
        refine tk_Vi hC hK hw hT hA hE hSR kM_at0 (by decide) rfl (k_X12_streetOf_6 l adK adV dC dI cy ad B hB0 (Int.le_trans hB1 (by decide)) qr s1   r99 (show 0 ≤ r99.toInt by first | with_reducible assumption | omega) (show r99.toInt ≤ 11 by first | with_reducible assumption | omega) w94 H.size hT ) (cwV 2 hC.2.2.2.2 uV_RX12_300 rfl rfl rfl (by decide +kernel) ⟨Nat.le_of_ble_eq_true rfl, Nat.le_of_ble_eq_true rfl⟩) rfl hl.1 rfl (Nat.le_of_ble_eq_true rfl) dX12_leads_187 (fun r430 w432 H locs hp431 hw => ?_)
        obtain ⟨rfl, hg437⟩ := hp431
        obtain ⟨g434, g435, c436⟩ := hg437
        refine lv_iadd hx hb dX12_leads_190 ?_
        refine lv_topi (fun x438 ex438 => ?_)
        have ex438 : x438.toInt = a3.toInt + r430.toInt := by rw [ex438]; exact wk_add (show (-2147483648) ≤ a3.toInt + r430.toInt by omega) (show a3.toInt + r430.toInt ≤ 2147483647 by omega)
        refine lv_istore (lv' := [(11, .int x438), (10, .int r99), (0, .ref (ad 0)), (1, .int a1), (2, .int a2), (3, .int a3), (4, .int a4), (5, .int 0), (6, .int a6), (7, .int v145_7), (8, .int v145_8), (9, .int v145_9)]) hx hb dX12_leads_191 hl (by decide) rfl (fun ls hl => ?_)
        refine lv_iload hx hb dX12_leads_193 (lv_at hl 0 rfl) ?_
        refine lv_iload hx hb dX12_leads_195 (lv_at hl 8 rfl) ?_
        refine lv_icmp_gt (tgt := 241) hx hb dX12_leads_197 (by decide) (fun c439 => ?_) (fun c439 => ?_)
        · have c439 : a6.toInt < x438.toInt := wk_lt.mp c439
          exact J241 v145_7 v145_8 v145_9 r99 x438 f145_12__9_a1_toInt_217_toNat f145_12__9_a1_toInt_218_toNat x116 H locs ls w94 (show 0 ≤ a1.toInt from r64) (show a1.toInt ≤ 3 from t65) (show 0 ≤ a2.toInt from r66) (show a2.toInt ≤ 1073741824 from t67) (show 0 ≤ a3.toInt from r68) (show a3.toInt ≤ 120 from t69) (show 0 ≤ a4.toInt from r70) (show a4.toInt ≤ 9 from t71) (show 0 ≤ a6.toInt from r72) (show a6.toInt ≤ 120 from t73) (show 0 ≤ v145_8.toInt from r74) (show v145_8.toInt ≤ 1073741944 from t75) (show 0 ≤ v145_9.toInt from r76) (show v145_9.toInt ≤ 1 from t77) (show 0 ≤ r99.toInt by first | with_reducible assumption | omega) (show r99.toInt ≤ 11 by first | with_reducible assumption | omega) (show 0 ≤ x438.toInt by first | with_reducible assumption | omega) (show x438.toInt ≤ 129 by first | with_reducible assumption | omega) (show 0 ≤ f145_12__9_a1_toInt_217_toNat.toInt from r78) (show f145_12__9_a1_toInt_217_toNat.toInt ≤ 9 from t79) (show 0 ≤ f145_12__9_a1_toInt_218_toNat.toInt from r81) (show f145_12__9_a1_toInt_218_toNat.toInt ≤ 3 from t82) (show 1 ≤ x116.toInt by first | with_reducible assumption | omega) (show x116.toInt ≤ 12 by first | with_reducible assumption | omega)  hw hT hF c97 c98 c117 (lv_sub hl [2, 3, 4, 5, 6, 7, 8, 9, 10, 11, 1, 0] rfl)
        · have c439 : x438.toInt ≤ a6.toInt := wk_ltF c439
          refine lv_aload_n hx hb dX12_leads_200 rfl (lv_at hl 2 rfl) ?_
          refine lv_iload hx hb dX12_leads_201 (lv_at hl 0 rfl) ?_
          refine lv_aload_n hx hb dX12_leads_203 rfl (lv_at hl 2 rfl) ?_
          refine lv_iload hx hb dX12_leads_204 (lv_at hl 1 rfl) ?_
          refine lv_iload hx hb dX12_leads_206 (lv_at hl 6 rfl) ?_
          refine tk_Vi hC hK hw hT hA hE hSR kM_at0 (by decide) rfl (k_X12_otherOf_1 l adK adV dC dI cy ad B hB0 (Int.le_trans hB1 (by decide)) qr s1   r99 (show 0 ≤ r99.toInt by first | with_reducible assumption | omega) (show r99.toInt ≤ 11 by first | with_reducible assumption | omega) a4 (show 0 ≤ a4.toInt from r70) (show a4.toInt ≤ 9 from t71) w94 H.size hT ) (cwV 2 hC.2.2.2.2 uV_RX12_348 rfl rfl rfl (by decide +kernel) ⟨Nat.le_of_ble_eq_true rfl, Nat.le_of_ble_eq_true rfl⟩) rfl hl.1 rfl (Nat.le_of_ble_eq_true rfl) dX12_leads_208 (fun r440 w442 H locs hp441 hw => ?_)
          obtain ⟨rfl, hg449⟩ := hp441
          rcases hg449 with ⟨g444, g445⟩ | ⟨g446, g447, c448⟩
          · refine lv_iload hx hb dX12_leads_211 (lv_at hl 7 rfl) ?_
            refine lv_if_eq (tgt := 235) hx hb dX12_leads_213 (by decide) (fun _ => ?_) (fun c => absurd (by decide) c)
            refine lv_iconst (v := 0) hx hb dX12_leads_235 (by decide) ?_
            refine lv_iload hx hb dX12_leads_236 (lv_at hl 9 rfl) ?_
            refine tk_Vv hC hK hw hT hA hE hSR kM_at0 (by decide) rfl (k_X12_could_3 l adK adV dC dI cy ad B hB0 (Int.le_trans hB1 (by decide)) qr s1   x438 (show 0 ≤ x438.toInt by first | with_reducible assumption | omega) (show x438.toInt ≤ 120 by first | with_reducible assumption | omega) r440 (show 0 ≤ r440.toInt by first | with_reducible assumption | omega) (show r440.toInt ≤ 9 by first | with_reducible assumption | omega) v145_7 w94 H.size hT ) (cwV 4 hC.2.2.2.2 uV_RX12_439 rfl rfl rfl (by decide +kernel) ⟨Nat.le_of_ble_eq_true rfl, Nat.le_of_ble_eq_true rfl⟩) rfl hl.1 rfl (Nat.le_of_ble_eq_true rfl) dX12_leads_238 (fun w452 H locs hp451 hw => ?_)
            obtain ⟨hT, k453, hg454⟩ := hp451
            have hF := hF.tr k453 (by decide)
            have c455 := k453.gi kM_at12 rfl c97
            have c456 := k453.gi kM_at12 rfl c98
            have c457 := k453.gi kM_at12 (by decide) c117
            have c458 := k453.gi kM_at12 rfl c118
            have c459 := k453.gi kM_at12 rfl c422
            have c460 := k453.gi kM_at12 rfl c436
            clear hg454
            exact J241 v145_7 v145_8 v145_9 r99 x438 f145_12__9_a1_toInt_217_toNat f145_12__9_a1_toInt_218_toNat x116 H locs ls w452 (show 0 ≤ a1.toInt from r64) (show a1.toInt ≤ 3 from t65) (show 0 ≤ a2.toInt from r66) (show a2.toInt ≤ 1073741824 from t67) (show 0 ≤ a3.toInt from r68) (show a3.toInt ≤ 120 from t69) (show 0 ≤ a4.toInt from r70) (show a4.toInt ≤ 9 from t71) (show 0 ≤ a6.toInt from r72) (show a6.toInt ≤ 120 from t73) (show 0 ≤ v145_8.toInt from r74) (show v145_8.toInt ≤ 1073741944 from t75) (show 0 ≤ v145_9.toInt from r76) (show v145_9.toInt ≤ 1 from t77) (show 0 ≤ r99.toInt by first | with_reducible assumption | omega) (show r99.toInt ≤ 11 by first | with_reducible assumption | omega) (show 0 ≤ x438.toInt by first | with_reducible assumption | omega) (show x438.toInt ≤ 129 by first | with_reducible assumption | omega) (show 0 ≤ f145_12__9_a1_toInt_217_toNat.toInt from r78) (show f145_12__9_a1_toInt_217_toNat.toInt ≤ 9 from t79) (show 0 ≤ f145_12__9_a1_toInt_218_toNat.toInt from r81) (show f145_12__9_a1_toInt_218_toNat.toInt ≤ 3 from t82) (show 1 ≤ x116.toInt by first | with_reducible assumption | omega) (show x116.toInt ≤ 12 by first | with_reducible assumption | omega)  hw hT hF c455 c456 c457 (lv_sub hl [2, 3, 4, 5, 6, 7, 8, 9, 10, 11, 1, 0] rfl)
          · refine lv_iload hx hb dX12_leads_211 (lv_at hl 7 rfl) ?_
            refine lv_if_eq (tgt := 235) hx hb dX12_leads_213 (by decide) (fun _ => ?_) (fun c => absurd (by decide) c)
            refine lv_iconst (v := 0) hx hb dX12_leads_235 (by decide) ?_
            refine lv_iload hx hb dX12_leads_236 (lv_at hl 9 rfl) ?_
            refine tk_Vv hC hK hw hT hA hE hSR kM_at0 (by decide) rfl (k_X12_could_3 l adK adV dC dI cy ad B hB0 (Int.le_trans hB1 (by decide)) qr s1   x438 (show 0 ≤ x438.toInt by first | with_reducible assumption | omega) (show x438.toInt ≤ 120 by first | with_reducible assumption | omega) r440 (show 0 ≤ r440.toInt by first | with_reducible assumption | omega) (show r440.toInt ≤ 9 by first | with_reducible assumption | omega) v145_7 w94 H.size hT ) (cwV 4 hC.2.2.2.2 uV_RX12_439 rfl rfl rfl (by decide +kernel) ⟨Nat.le_of_ble_eq_true rfl, Nat.le_of_ble_eq_true rfl⟩) rfl hl.1 rfl (Nat.le_of_ble_eq_true rfl) dX12_leads_238 (fun w463 H locs hp462 hw => ?_)
            obtain ⟨hT, k464, hg465⟩ := hp462
            have hF := hF.tr k464 (by decide)
            have c466 := k464.gi kM_at12 rfl c97
            have c467 := k464.gi kM_at12 rfl c98
            have c468 := k464.gi kM_at12 (by decide) c117
            have c469 := k464.gi kM_at12 rfl c118
            have c470 := k464.gi kM_at12 rfl c422
            have c471 := k464.gi kM_at12 rfl c436
            clear hg465
            exact J241 v145_7 v145_8 v145_9 r99 x438 f145_12__9_a1_toInt_217_toNat f145_12__9_a1_toInt_218_toNat x116 H locs ls w463 (show 0 ≤ a1.toInt from r64) (show a1.toInt ≤ 3 from t65) (show 0 ≤ a2.toInt from r66) (show a2.toInt ≤ 1073741824 from t67) (show 0 ≤ a3.toInt from r68) (show a3.toInt ≤ 120 from t69) (show 0 ≤ a4.toInt from r70) (show a4.toInt ≤ 9 from t71) (show 0 ≤ a6.toInt from r72) (show a6.toInt ≤ 120 from t73) (show 0 ≤ v145_8.toInt from r74) (show v145_8.toInt ≤ 1073741944 from t75) (show 0 ≤ v145_9.toInt from r76) (show v145_9.toInt ≤ 1 from t77) (show 0 ≤ r99.toInt by first | with_reducible assumption | omega) (show r99.toInt ≤ 11 by first | with_reducible assumption | omega) (show 0 ≤ x438.toInt by first | with_reducible assumption | omega) (show x438.toInt ≤ 129 by first | with_reducible assumption | omega) (show 0 ≤ f145_12__9_a1_toInt_217_toNat.toInt from r78) (show f145_12__9_a1_toInt_217_toNat.toInt ≤ 9 from t79) (show 0 ≤ f145_12__9_a1_toInt_218_toNat.toInt from r81) (show f145_12__9_a1_toInt_218_toNat.toInt ≤ 3 from t82) (show 1 ≤ x116.toInt by first | with_reducible assumption | omega) (show x116.toInt ≤ 12 by first | with_reducible assumption | omega)  hw hT hF c466 c467 c468 (lv_sub hl [2, 3, 4, 5, 6, 7, 8, 9, 10, 11, 1, 0] rfl)
      · refine lv_if_ne (tgt := 182) hx hb dX12_leads_178 (by decide) (fun _ => ?_) (fun c => absurd c (by decide))
        refine lv_iload_n hx hb dX12_leads_182 rfl (lv_at hl 4 rfl) ?_
        refine lv_aload_n hx hb dX12_leads_183 rfl (lv_at hl 1 rfl) ?_
        refine lv_iload hx hb dX12_leads_184 (lv_at hl 0 rfl) ?_
        refine lv_iconst (v := 2) hx hb dX12_leads_186 (by decide) ?_
        refine tk_Vi hC hK hw hT hA hE hSR kM_at0 (by decide) rfl (k_X12_streetOf_6 l adK adV dC dI cy ad B hB0 (Int.le_trans hB1 (by decide)) qr s1   r99 (show 0 ≤ r99.toInt by first | with_reducible assumption | omega) (show r99.toInt ≤ 11 by first | with_reducible assumption | omega) w94 H.size hT ) (cwV 2 hC.2.2.2.2 uV_RX12_300 rfl rfl rfl (by decide +kernel) ⟨Nat.le_of_ble_eq_true rfl, Nat.le_of_ble_eq_true rfl⟩) rfl hl.1 rfl (Nat.le_of_ble_eq_true rfl) dX12_leads_187 (fun r472 w474 H locs hp473 hw => ?_)
        obtain ⟨rfl, hg479⟩ := hp473
        obtain ⟨g476, g477, c478⟩ := hg479
        refine lv_iadd hx hb dX12_leads_190 ?_
        refine lv_topi (fun x480 ex480 => ?_)
        have ex480 : x480.toInt = a3.toInt + r472.toInt := by rw [ex480]; exact wk_add (show (-2147483648) ≤ a3.toInt + r472.toInt by omega) (show a3.toInt + r472.toInt ≤ 2147483647 by omega)
        refine lv_istore (lv' := [(11, .int x480), (10, .int r99), (0, .ref (ad 0)), (1, .int a1), (2, .int a2), (3, .int a3), (4, .int a4), (5, .int 0), (6, .int a6), (7, .int v145_7), (8, .int v145_8), (9, .int v145_9)]) hx hb dX12_leads_191 hl (by decide) rfl (fun ls hl => ?_)
        refine lv_iload hx hb dX12_leads_193 (lv_at hl 0 rfl) ?_
        refine lv_iload hx hb dX12_leads_195 (lv_at hl 8 rfl) ?_
        refine lv_icmp_gt (tgt := 241) hx hb dX12_leads_197 (by decide) (fun c481 => ?_) (fun c481 => ?_)
        · have c481 : a6.toInt < x480.toInt := wk_lt.mp c481
          exact J241 v145_7 v145_8 v145_9 r99 x480 f145_12__9_a1_toInt_217_toNat f145_12__9_a1_toInt_218_toNat x116 H locs ls w94 (show 0 ≤ a1.toInt from r64) (show a1.toInt ≤ 3 from t65) (show 0 ≤ a2.toInt from r66) (show a2.toInt ≤ 1073741824 from t67) (show 0 ≤ a3.toInt from r68) (show a3.toInt ≤ 120 from t69) (show 0 ≤ a4.toInt from r70) (show a4.toInt ≤ 9 from t71) (show 0 ≤ a6.toInt from r72) (show a6.toInt ≤ 120 from t73) (show 0 ≤ v145_8.toInt from r74) (show v145_8.toInt ≤ 1073741944 from t75) (show 0 ≤ v145_9.toInt from r76) (show v145_9.toInt ≤ 1 from t77) (show 0 ≤ r99.toInt by first | with_reducible assumption | omega) (show r99.toInt ≤ 11 by first | with_reducible assumption | omega) (show 0 ≤ x480.toInt by first | with_reducible assumption | omega) (show x480.toInt ≤ 129 by first | with_reducible assumption | omega) (show 0 ≤ f145_12__9_a1_toInt_217_toNat.toInt from r78) (show f145_12__9_a1_toInt_217_toNat.toInt ≤ 9 from t79) (show 0 ≤ f145_12__9_a1_toInt_218_toNat.toInt from r81) (show f145_12__9_a1_toInt_218_toNat.toInt ≤ 3 from t82) (show 1 ≤ x116.toInt by first | with_reducible assumption | omega) (show x116.toInt ≤ 12 by first | with_reducible assumption | omega)  hw hT hF c97 c98 c117 (lv_sub hl [2, 3, 4, 5, 6, 7, 8, 9, 10, 11, 1, 0] rfl)
        · have c481 : x480.toInt ≤ a6.toInt := wk_ltF c481
          refine lv_aload_n hx hb dX12_leads_200 rfl (lv_at hl 2 rfl) ?_
          refine lv_iload hx hb dX12_leads_201 (lv_at hl 0 rfl) ?_
          refine lv_aload_n hx hb dX12_leads_203 rfl (lv_at hl 2 rfl) ?_
          refine lv_iload hx hb dX12_leads_204 (lv_at hl 1 rfl) ?_
          refine lv_iload hx hb dX12_leads_206 (lv_at hl 6 rfl) ?_
          refine tk_Vi hC hK hw hT hA hE hSR kM_at0 (by decide) rfl (k_X12_otherOf_1 l adK adV dC dI cy ad B hB0 (Int.le_trans hB1 (by decide)) qr s1   r99 (show 0 ≤ r99.toInt by first | with_reducible assumption | omega) (show r99.toInt ≤ 11 by first | with_reducible assumption | omega) a4 (show 0 ≤ a4.toInt from r70) (show a4.toInt ≤ 9 from t71) w94 H.size hT ) (cwV 2 hC.2.2.2.2 uV_RX12_348 rfl rfl rfl (by decide +kernel) ⟨Nat.le_of_ble_eq_true rfl, Nat.le_of_ble_eq_true rfl⟩) rfl hl.1 rfl (Nat.le_of_ble_eq_true rfl) dX12_leads_208 (fun r482 w484 H locs hp483 hw => ?_)
          obtain ⟨rfl, hg491⟩ := hp483
          rcases hg491 with ⟨g486, g487⟩ | ⟨g488, g489, c490⟩
          · refine lv_iload hx hb dX12_leads_211 (lv_at hl 7 rfl) ?_
            refine lv_if_eq (tgt := 235) hx hb dX12_leads_213 (by decide) (fun _ => ?_) (fun c => absurd (by decide) c)
            refine lv_iconst (v := 0) hx hb dX12_leads_235 (by decide) ?_
            refine lv_iload hx hb dX12_leads_236 (lv_at hl 9 rfl) ?_
            refine tk_Vv hC hK hw hT hA hE hSR kM_at0 (by decide) rfl (k_X12_could_3 l adK adV dC dI cy ad B hB0 (Int.le_trans hB1 (by decide)) qr s1   x480 (show 0 ≤ x480.toInt by first | with_reducible assumption | omega) (show x480.toInt ≤ 120 by first | with_reducible assumption | omega) r482 (show 0 ≤ r482.toInt by first | with_reducible assumption | omega) (show r482.toInt ≤ 9 by first | with_reducible assumption | omega) v145_7 w94 H.size hT ) (cwV 4 hC.2.2.2.2 uV_RX12_439 rfl rfl rfl (by decide +kernel) ⟨Nat.le_of_ble_eq_true rfl, Nat.le_of_ble_eq_true rfl⟩) rfl hl.1 rfl (Nat.le_of_ble_eq_true rfl) dX12_leads_238 (fun w494 H locs hp493 hw => ?_)
            obtain ⟨hT, k495, hg496⟩ := hp493
            have hF := hF.tr k495 (by decide)
            have c497 := k495.gi kM_at12 rfl c97
            have c498 := k495.gi kM_at12 rfl c98
            have c499 := k495.gi kM_at12 (by decide) c117
            have c500 := k495.gi kM_at12 rfl c118
            have c501 := k495.gi kM_at12 rfl c425
            have c502 := k495.gi kM_at12 rfl c478
            clear hg496
            exact J241 v145_7 v145_8 v145_9 r99 x480 f145_12__9_a1_toInt_217_toNat f145_12__9_a1_toInt_218_toNat x116 H locs ls w494 (show 0 ≤ a1.toInt from r64) (show a1.toInt ≤ 3 from t65) (show 0 ≤ a2.toInt from r66) (show a2.toInt ≤ 1073741824 from t67) (show 0 ≤ a3.toInt from r68) (show a3.toInt ≤ 120 from t69) (show 0 ≤ a4.toInt from r70) (show a4.toInt ≤ 9 from t71) (show 0 ≤ a6.toInt from r72) (show a6.toInt ≤ 120 from t73) (show 0 ≤ v145_8.toInt from r74) (show v145_8.toInt ≤ 1073741944 from t75) (show 0 ≤ v145_9.toInt from r76) (show v145_9.toInt ≤ 1 from t77) (show 0 ≤ r99.toInt by first | with_reducible assumption | omega) (show r99.toInt ≤ 11 by first | with_reducible assumption | omega) (show 0 ≤ x480.toInt by first | with_reducible assumption | omega) (show x480.toInt ≤ 129 by first | with_reducible assumption | omega) (show 0 ≤ f145_12__9_a1_toInt_217_toNat.toInt from r78) (show f145_12__9_a1_toInt_217_toNat.toInt ≤ 9 from t79) (show 0 ≤ f145_12__9_a1_toInt_218_toNat.toInt from r81) (show f145_12__9_a1_toInt_218_toNat.toInt ≤ 3 from t82) (show 1 ≤ x116.toInt by first | with_reducible assumption | omega) (show x116.toInt ≤ 12 by first | with_reducible assumption | omega)  hw hT hF c497 c498 c499 (lv_sub hl [2, 3, 4, 5, 6, 7, 8, 9, 10, 11, 1, 0] rfl)
          · refine lv_iload hx hb dX12_leads_211 (lv_at hl 7 rfl) ?_
            refine lv_if_eq (tgt := 235) hx hb dX12_leads_213 (by decide) (fun _ => ?_) (fun c => absurd (by decide) c)
            refine lv_iconst (v := 0) hx hb dX12_leads_235 (by decide) ?_
            refine lv_iload hx hb dX12_leads_236 (lv_at hl 9 rfl) ?_
            refine tk_Vv hC hK hw hT hA hE hSR kM_at0 (by decide) rfl (k_X12_could_3 l adK adV dC dI cy ad B hB0 (Int.le_trans hB1 (by decide)) qr s1   x480 (show 0 ≤ x480.toInt by first | with_reducible assumption | omega) (show x480.toInt ≤ 120 by first | with_reducible assumption | omega) r482 (show 0 ≤ r482.toInt by first | with_reducible assumption | omega) (show r482.toInt ≤ 9 by first | with_reducible assumption | omega) v145_7 w94 H.size hT ) (cwV 4 hC.2.2.2.2 uV_RX12_439 rfl rfl rfl (by decide +kernel) ⟨Nat.le_of_ble_eq_true rfl, Nat.le_of_ble_eq_true rfl⟩) rfl hl.1 rfl (Nat.le_of_ble_eq_true rfl) dX12_leads_238 (fun w505 H locs hp504 hw => ?_)
            obtain ⟨hT, k506, hg507⟩ := hp504
            have hF := hF.tr k506 (by decide)
            have c508 := k506.gi kM_at12 rfl c97
            have c509 := k506.gi kM_at12 rfl c98
            have c510 := k506.gi kM_at12 (by decide) c117
            have c511 := k506.gi kM_at12 rfl c118
            have c512 := k506.gi kM_at12 rfl c425
            have c513 := k506.gi kM_at12 rfl c478
            clear hg507
            exact J241 v145_7 v145_8 v145_9 r99 x480 f145_12__9_a1_toInt_217_toNat f145_12__9_a1_toInt_218_toNat x116 H locs ls w505 (show 0 ≤ a1.toInt from r64) (show a1.toInt ≤ 3 from t65) (show 0 ≤ a2.toInt from r66) (show a2.toInt ≤ 1073741824 from t67) (show 0 ≤ a3.toInt from r68) (show a3.toInt ≤ 120 from t69) (show 0 ≤ a4.toInt from r70) (show a4.toInt ≤ 9 from t71) (show 0 ≤ a6.toInt from r72) (show a6.toInt ≤ 120 from t73) (show 0 ≤ v145_8.toInt from r74) (show v145_8.toInt ≤ 1073741944 from t75) (show 0 ≤ v145_9.toInt from r76) (show v145_9.toInt ≤ 1 from t77) (show 0 ≤ r99.toInt by first | with_reducible assumption | omega) (show r99.toInt ≤ 11 by first | with_reducible assumption | omega) (show 0 ≤ x480.toInt by first | with_reducible assumption | omega) (show x480.toInt ≤ 129 by first | with_reducible assumption | omega) (show 0 ≤ f145_12__9_a1_toInt_217_toNat.toInt from r78) (show f145_12__9_a1_toInt_217_toNat.toInt ≤ 9 from t79) (show 0 ≤ f145_12__9_a1_toInt_218_toNat.toInt from r81) (show f145_12__9_a1_toInt_218_toNat.toInt ≤ 3 from t82) (show 1 ≤ x116.toInt by first | with_reducible assumption | omega) (show x116.toInt ≤ 12 by first | with_reducible assumption | omega)  hw hT hF c508 c509 c510 (lv_sub hl [2, 3, 4, 5, 6, 7, 8, 9, 10, 11, 1, 0] rfl)
      · refine lv_if_ne (tgt := 182) hx hb dX12_leads_178 (by decide) (fun _ => ?_) (fun c => absurd c (by decide))
        refine lv_iload_n hx hb dX12_leads_182 rfl (lv_at hl 4 rfl) ?_
        refine lv_aload_n hx hb dX12_leads_183 rfl (lv_at hl 1 rfl) ?_
        refine lv_iload hx hb dX12_leads_184 (lv_at hl 0 rfl) ?_
        refine lv_iconst (v := 2) hx hb dX12_leads_186 (by decide) ?_
        refine tk_Vi hC hK hw hT hA hE hSR kM_at0 (by decide) rfl (k_X12_streetOf_6 l adK adV dC dI cy ad B hB0 (Int.le_trans hB1 (by decide)) qr s1   r99 (show 0 ≤ r99.toInt by first | with_reducible assumption | omega) (show r99.toInt ≤ 11 by first | with_reducible assumption | omega) w94 H.size hT ) (cwV 2 hC.2.2.2.2 uV_RX12_300 rfl rfl rfl (by decide +kernel) ⟨Nat.le_of_ble_eq_true rfl, Nat.le_of_ble_eq_true rfl⟩) rfl hl.1 rfl (Nat.le_of_ble_eq_true rfl) dX12_leads_187 (fun r514 w516 H locs hp515 hw => ?_)
        obtain ⟨rfl, hg521⟩ := hp515
        obtain ⟨g518, g519, c520⟩ := hg521
        refine lv_iadd hx hb dX12_leads_190 ?_
        refine lv_topi (fun x522 ex522 => ?_)
        have ex522 : x522.toInt = a3.toInt + r514.toInt := by rw [ex522]; exact wk_add (show (-2147483648) ≤ a3.toInt + r514.toInt by omega) (show a3.toInt + r514.toInt ≤ 2147483647 by omega)
        refine lv_istore (lv' := [(11, .int x522), (10, .int r99), (0, .ref (ad 0)), (1, .int a1), (2, .int a2), (3, .int a3), (4, .int a4), (5, .int 0), (6, .int a6), (7, .int v145_7), (8, .int v145_8), (9, .int v145_9)]) hx hb dX12_leads_191 hl (by decide) rfl (fun ls hl => ?_)
        refine lv_iload hx hb dX12_leads_193 (lv_at hl 0 rfl) ?_
        refine lv_iload hx hb dX12_leads_195 (lv_at hl 8 rfl) ?_
        refine lv_icmp_gt (tgt := 241) hx hb dX12_leads_197 (by decide) (fun c523 => ?_) (fun c523 => ?_)
        · have c523 : a6.toInt < x522.toInt := wk_lt.mp c523
          exact J241 v145_7 v145_8 v145_9 r99 x522 f145_12__9_a1_toInt_217_toNat f145_12__9_a1_toInt_218_toNat x116 H locs ls w94 (show 0 ≤ a1.toInt from r64) (show a1.toInt ≤ 3 from t65) (show 0 ≤ a2.toInt from r66) (show a2.toInt ≤ 1073741824 from t67) (show 0 ≤ a3.toInt from r68) (show a3.toInt ≤ 120 from t69) (show 0 ≤ a4.toInt from r70) (show a4.toInt ≤ 9 from t71) (show 0 ≤ a6.toInt from r72) (show a6.toInt ≤ 120 from t73) (show 0 ≤ v145_8.toInt from r74) (show v145_8.toInt ≤ 1073741944 from t75) (show 0 ≤ v145_9.toInt from r76) (show v145_9.toInt ≤ 1 from t77) (show 0 ≤ r99.toInt by first | with_reducible assumption | omega) (show r99.toInt ≤ 11 by first | with_reducible assumption | omega) (show 0 ≤ x522.toInt by first | with_reducible assumption | omega) (show x522.toInt ≤ 129 by first | with_reducible assumption | omega) (show 0 ≤ f145_12__9_a1_toInt_217_toNat.toInt from r78) (show f145_12__9_a1_toInt_217_toNat.toInt ≤ 9 from t79) (show 0 ≤ f145_12__9_a1_toInt_218_toNat.toInt from r81) (show f145_12__9_a1_toInt_218_toNat.toInt ≤ 3 from t82) (show 1 ≤ x116.toInt by first | with_reducible assumption | omega) (show x116.toInt ≤ 12 by first | with_reducible assumption | omega)  hw hT hF c97 c98 c117 (lv_sub hl [2, 3, 4, 5, 6, 7, 8, 9, 10, 11, 1, 0] rfl)
        · have c523 : x522.toInt ≤ a6.toInt := wk_ltF c523
          refine lv_aload_n hx hb dX12_leads_200 rfl (lv_at hl 2 rfl) ?_
          refine lv_iload hx hb dX12_leads_201 (lv_at hl 0 rfl) ?_
          refine lv_aload_n hx hb dX12_leads_203 rfl (lv_at hl 2 rfl) ?_
          refine lv_iload hx hb dX12_leads_204 (lv_at hl 1 rfl) ?_
          refine lv_iload hx hb dX12_leads_206 (lv_at hl 6 rfl) ?_
          refine tk_Vi hC hK hw hT hA hE hSR kM_at0 (by decide) rfl (k_X12_otherOf_1 l adK adV dC dI cy ad B hB0 (Int.le_trans hB1 (by decide)) qr s1   r99 (show 0 ≤ r99.toInt by first | with_reducible assumption | omega) (show r99.toInt ≤ 11 by first | with_reducible assumption | omega) a4 (show 0 ≤ a4.toInt from r70) (show a4.toInt ≤ 9 from t71) w94 H.size hT ) (cwV 2 hC.2.2.2.2 uV_RX12_348 rfl rfl rfl (by decide +kernel) ⟨Nat.le_of_ble_eq_true rfl, Nat.le_of_ble_eq_true rfl⟩) rfl hl.1 rfl (Nat.le_of_ble_eq_true rfl) dX12_leads_208 (fun r524 w526 H locs hp525 hw => ?_)
          obtain ⟨rfl, hg533⟩ := hp525
          rcases hg533 with ⟨g528, g529⟩ | ⟨g530, g531, c532⟩
          · refine lv_iload hx hb dX12_leads_211 (lv_at hl 7 rfl) ?_
            refine lv_if_eq (tgt := 235) hx hb dX12_leads_213 (by decide) (fun _ => ?_) (fun c => absurd (by decide) c)
            refine lv_iconst (v := 0) hx hb dX12_leads_235 (by decide) ?_
            refine lv_iload hx hb dX12_leads_236 (lv_at hl 9 rfl) ?_
            refine tk_Vv hC hK hw hT hA hE hSR kM_at0 (by decide) rfl (k_X12_could_3 l adK adV dC dI cy ad B hB0 (Int.le_trans hB1 (by decide)) qr s1   x522 (show 0 ≤ x522.toInt by first | with_reducible assumption | omega) (show x522.toInt ≤ 120 by first | with_reducible assumption | omega) r524 (show 0 ≤ r524.toInt by first | with_reducible assumption | omega) (show r524.toInt ≤ 9 by first | with_reducible assumption | omega) v145_7 w94 H.size hT ) (cwV 4 hC.2.2.2.2 uV_RX12_439 rfl rfl rfl (by decide +kernel) ⟨Nat.le_of_ble_eq_true rfl, Nat.le_of_ble_eq_true rfl⟩) rfl hl.1 rfl (Nat.le_of_ble_eq_true rfl) dX12_leads_238 (fun w536 H locs hp535 hw => ?_)
            obtain ⟨hT, k537, hg538⟩ := hp535
            have hF := hF.tr k537 (by decide)
            have c539 := k537.gi kM_at12 rfl c97
            have c540 := k537.gi kM_at12 rfl c98
            have c541 := k537.gi kM_at12 (by decide) c117
            have c542 := k537.gi kM_at12 rfl c118
            have c543 := k537.gi kM_at12 rfl c520
            clear hg538
            exact J241 v145_7 v145_8 v145_9 r99 x522 f145_12__9_a1_toInt_217_toNat f145_12__9_a1_toInt_218_toNat x116 H locs ls w536 (show 0 ≤ a1.toInt from r64) (show a1.toInt ≤ 3 from t65) (show 0 ≤ a2.toInt from r66) (show a2.toInt ≤ 1073741824 from t67) (show 0 ≤ a3.toInt from r68) (show a3.toInt ≤ 120 from t69) (show 0 ≤ a4.toInt from r70) (show a4.toInt ≤ 9 from t71) (show 0 ≤ a6.toInt from r72) (show a6.toInt ≤ 120 from t73) (show 0 ≤ v145_8.toInt from r74) (show v145_8.toInt ≤ 1073741944 from t75) (show 0 ≤ v145_9.toInt from r76) (show v145_9.toInt ≤ 1 from t77) (show 0 ≤ r99.toInt by first | with_reducible assumption | omega) (show r99.toInt ≤ 11 by first | with_reducible assumption | omega) (show 0 ≤ x522.toInt by first | with_reducible assumption | omega) (show x522.toInt ≤ 129 by first | with_reducible assumption | omega) (show 0 ≤ f145_12__9_a1_toInt_217_toNat.toInt from r78) (show f145_12__9_a1_toInt_217_toNat.toInt ≤ 9 from t79) (show 0 ≤ f145_12__9_a1_toInt_218_toNat.toInt from r81) (show f145_12__9_a1_toInt_218_toNat.toInt ≤ 3 from t82) (show 1 ≤ x116.toInt by first | with_reducible assumption | omega) (show x116.toInt ≤ 12 by first | with_reducible assumption | omega)  hw hT hF c539 c540 c541 (lv_sub hl [2, 3, 4, 5, 6, 7, 8, 9, 10, 11, 1, 0] rfl)
          · refine lv_iload hx hb dX12_leads_211 (lv_at hl 7 rfl) ?_
            refine lv_if_eq (tgt := 235) hx hb dX12_leads_213 (by decide) (fun _ => ?_) (fun c => absurd (by decide) c)
            refine lv_iconst (v := 0) hx hb dX12_leads_235 (by decide) ?_
            refine lv_iload hx hb dX12_leads_236 (lv_at hl 9 rfl) ?_
            refine tk_Vv hC hK hw hT hA hE hSR kM_at0 (by decide) rfl (k_X12_could_3 l adK adV dC dI cy ad B hB0 (Int.le_trans hB1 (by decide)) qr s1   x522 (show 0 ≤ x522.toInt by first | with_reducible assumption | omega) (show x522.toInt ≤ 120 by first | with_reducible assumption | omega) r524 (show 0 ≤ r524.toInt by first | with_reducible assumption | omega) (show r524.toInt ≤ 9 by first | with_reducible assumption | omega) v145_7 w94 H.size hT ) (cwV 4 hC.2.2.2.2 uV_RX12_439 rfl rfl rfl (by decide +kernel) ⟨Nat.le_of_ble_eq_true rfl, Nat.le_of_ble_eq_true rfl⟩) rfl hl.1 rfl (Nat.le_of_ble_eq_true rfl) dX12_leads_238 (fun w546 H locs hp545 hw => ?_)
            obtain ⟨hT, k547, hg548⟩ := hp545
            have hF := hF.tr k547 (by decide)
            have c549 := k547.gi kM_at12 rfl c97
            have c550 := k547.gi kM_at12 rfl c98
            have c551 := k547.gi kM_at12 (by decide) c117
            have c552 := k547.gi kM_at12 rfl c118
            have c553 := k547.gi kM_at12 rfl c520
            have c554 := k547.gi kM_at12 rfl c532
            clear hg548
            exact J241 v145_7 v145_8 v145_9 r99 x522 f145_12__9_a1_toInt_217_toNat f145_12__9_a1_toInt_218_toNat x116 H locs ls w546 (show 0 ≤ a1.toInt from r64) (show a1.toInt ≤ 3 from t65) (show 0 ≤ a2.toInt from r66) (show a2.toInt ≤ 1073741824 from t67) (show 0 ≤ a3.toInt from r68) (show a3.toInt ≤ 120 from t69) (show 0 ≤ a4.toInt from r70) (show a4.toInt ≤ 9 from t71) (show 0 ≤ a6.toInt from r72) (show a6.toInt ≤ 120 from t73) (show 0 ≤ v145_8.toInt from r74) (show v145_8.toInt ≤ 1073741944 from t75) (show 0 ≤ v145_9.toInt from r76) (show v145_9.toInt ≤ 1 from t77) (show 0 ≤ r99.toInt by first | with_reducible assumption | omega) (show r99.toInt ≤ 11 by first | with_reducible assumption | omega) (show 0 ≤ x522.toInt by first | with_reducible assumption | omega) (show x522.toInt ≤ 129 by first | with_reducible assumption | omega) (show 0 ≤ f145_12__9_a1_toInt_217_toNat.toInt from r78) (show f145_12__9_a1_toInt_217_toNat.toInt ≤ 9 from t79) (show 0 ≤ f145_12__9_a1_toInt_218_toNat.toInt from r81) (show f145_12__9_a1_toInt_218_toNat.toInt ≤ 3 from t82) (show 1 ≤ x116.toInt by first | with_reducible assumption | omega) (show x116.toInt ≤ 12 by first | with_reducible assumption | omega)  hw hT hF c549 c550 c551 (lv_sub hl [2, 3, 4, 5, 6, 7, 8, 9, 10, 11, 1, 0] rfl)
    · refine lv_istore (lv' := [(10, .int (-1)), (0, .ref (ad 0)), (1, .int a1), (2, .int a2), (3, .int a3), (4, .int a4), (5, .int 0), (6, .int a6), (7, .int v145_7), (8, .int v145_8), (9, .int v145_9)]) hx hb dX12_leads_161 hl (by decide) rfl (fun ls hl => ?_)
      refine lv_iload hx hb dX12_leads_163 (lv_at hl 0 rfl) ?_
      refine lv_if_lt (tgt := 181) hx hb dX12_leads_165 (by decide) (fun _ => ?_) (fun c => absurd (by decide) c)
      exact J181 v145_7 v145_8 v145_9 (-1) f145_12__9_a1_toInt_217_toNat f145_12__9_a1_toInt_218_toNat H locs ls w94 (show 0 ≤ a1.toInt from r64) (show a1.toInt ≤ 3 from t65) (show 0 ≤ a2.toInt from r66) (show a2.toInt ≤ 1073741824 from t67) (show 0 ≤ a3.toInt from r68) (show a3.toInt ≤ 120 from t69) (show 0 ≤ a4.toInt from r70) (show a4.toInt ≤ 9 from t71) (show 0 ≤ a6.toInt from r72) (show a6.toInt ≤ 120 from t73) (show 0 ≤ v145_8.toInt from r74) (show v145_8.toInt ≤ 1073741944 from t75) (show 0 ≤ v145_9.toInt from r76) (show v145_9.toInt ≤ 1 from t77) (by decide) (by decide) (show 0 ≤ f145_12__9_a1_toInt_217_toNat.toInt from r78) (show f145_12__9_a1_toInt_217_toNat.toInt ≤ 9 from t79) (show 0 ≤ f145_12__9_a1_toInt_218_toNat.toInt from r81) (show f145_12__9_a1_toInt_218_toNat.toInt ≤ 3 from t82)  hw hT hF c97 c98 (lv_sub hl [1, 2, 3, 4, 5, 6, 7, 8, 9, 10, 0] rfl)
  have J115 : ∀ (v115_7 : Int32) (v115_8 : Int32) (v115_9 : Int32) (f115_12__9_a1_toInt_217_toNat : Int32) (H : Heap) (locs : List Loc) (ls : Array Slot) (w555 : va_W), 0 ≤ a1.toInt → a1.toInt ≤ 3 → 0 ≤ a2.toInt → a2.toInt ≤ 1073741824 → 0 ≤ a3.toInt → a3.toInt ≤ 120 → 0 ≤ a4.toInt → a4.toInt ≤ 9 → 0 ≤ a6.toInt → a6.toInt ≤ 120 → 0 ≤ v115_8.toInt → v115_8.toInt ≤ 1073741944 → 0 ≤ v115_9.toInt → v115_9.toInt ≤ 1 → 0 ≤ f115_12__9_a1_toInt_217_toNat.toInt → f115_12__9_a1_toInt_217_toNat.toInt ≤ 9 → Wd dC dI A s.heap H locs w555 → TW ksM ad cy B qr 12 w555 → FE ksM [(72, 0, 12), (73, 0, 10), (76, 0, 2600)] w0 w555 → gi w555 12 (9 * a1.toInt + 217).toNat = f115_12__9_a1_toInt_217_toNat → lv_has ls 12 [(0, .ref (ad 0)), (1, .int a1), (2, .int a2), (3, .int a3), (4, .int a4), (5, .int 0), (6, .int a6), (7, .int v115_7), (8, .int v115_8), (9, .int v115_9)] → W p l e ({ frames := 5, cells := 0, slots := 0, locals := 103 }) s m (List.toArray [.ref (ad 0), .int a1, .int a2, .int a3, .int a4, .int 0, .int a6]) below meth c H locs 0 0 (MQ below (va_Qv (P_X12_leads_1 ad cy B qr s1 a1 a2 a3 a4 a6 w0) (fun u : va_W => wpost dC dI cy A u) A) (List.toArray [.ref (ad 0), .int a1, .int a2, .int a3, .int a4, .int 0, .int a6]) s 0 0 A) (F0 m 115 ls []) := by
    intro v115_7 v115_8 v115_9 f115_12__9_a1_toInt_217_toNat H locs ls w555 r556 t557 r558 t559 r560 t561 r562 t563 r564 t565 r566 t567 r568 t569 r570 t571 hw hT hF c572 hl
    refine lv_iload hx hb dX12_leads_115 (lv_at hl 5 rfl) ?_
    refine lv_if_eq (tgt := 135) hx hb dX12_leads_117 (by decide) (fun _ => ?_) (fun c => absurd (by decide) c)
    refine lv_aload_n hx hb dX12_leads_135 rfl (lv_at hl 0 rfl) ?_
    refine lv_aload_n hx hb dX12_leads_136 rfl (lv_at hl 0 rfl) ?_
    refine lv_iload_n hx hb dX12_leads_137 rfl (lv_at hl 1 rfl) ?_
    refine lv_iconst (v := 2) hx hb dX12_leads_138 (by decide) ?_
    refine tk_Vi hC hK hw hT hA hE hSR kM_at0 (by decide) rfl (k_X12_walkerOf_10 l adK adV dC dI cy ad B hB0 (Int.le_trans hB1 (by decide)) qr s1   a1 (show 0 ≤ a1.toInt from r556) (show a1.toInt ≤ 3 from t557) w555 H.size hT ) (cwV 2 hC.2.2.2.2 uV_RX12_372 rfl rfl rfl (by decide +kernel) ⟨Nat.le_of_ble_eq_true rfl, Nat.le_of_ble_eq_true rfl⟩) rfl hl.1 rfl (Nat.le_of_ble_eq_true rfl) dX12_leads_139 (fun r573 w575 H locs hp574 hw => ?_)
    obtain ⟨rfl, hg580⟩ := hp574
    obtain ⟨g577, g578, c579⟩ := hg580
    refine tk_Vv hC hK hw hT hA hE hSR kM_at0 (by decide) rfl (k_X12_takesMap_1 l adK adV dC dI cy ad B hB0 (Int.le_trans hB1 (by decide)) qr s1   r573 (show 0 ≤ r573.toInt by first | with_reducible assumption | omega) (show r573.toInt ≤ 3 by first | with_reducible assumption | omega) w555 H.size hT ) (cwV 1 hC.2.2.2.2 uV_RX12_351 rfl rfl rfl (by decide +kernel) ⟨Nat.le_of_ble_eq_true rfl, Nat.le_of_ble_eq_true rfl⟩) rfl hl.1 rfl (Nat.le_of_ble_eq_true rfl) dX12_leads_142 (fun w583 H locs hp582 hw => ?_)
    obtain ⟨hT, k584, hg585⟩ := hp582
    have hF := hF.tr k584 (by decide)
    have c586 := k584.gi kM_at12 rfl c572
    have c587 := k584.gi kM_at12 rfl c579
    clear hg585
    exact J145 v115_7 v115_8 v115_9 f115_12__9_a1_toInt_217_toNat r573 H locs ls w583 (show 0 ≤ a1.toInt from r556) (show a1.toInt ≤ 3 from t557) (show 0 ≤ a2.toInt from r558) (show a2.toInt ≤ 1073741824 from t559) (show 0 ≤ a3.toInt from r560) (show a3.toInt ≤ 120 from t561) (show 0 ≤ a4.toInt from r562) (show a4.toInt ≤ 9 from t563) (show 0 ≤ a6.toInt from r564) (show a6.toInt ≤ 120 from t565) (show 0 ≤ v115_8.toInt from r566) (show v115_8.toInt ≤ 1073741944 from t567) (show 0 ≤ v115_9.toInt from r568) (show v115_9.toInt ≤ 1 from t569) (show 0 ≤ f115_12__9_a1_toInt_217_toNat.toInt from r570) (show f115_12__9_a1_toInt_217_toNat.toInt ≤ 9 from t571) (show 0 ≤ r573.toInt by first | with_reducible assumption | omega) (show r573.toInt ≤ 3 by first | with_reducible assumption | omega)  hw hT hF c586 c587 (lv_sub hl [0, 1, 2, 3, 4, 5, 6, 7, 8, 9] rfl)
  refine lv_aload_n hx hb dX12_leads_0 rfl (lv_at hl 0 rfl) ?_
  refine tk_getA hC hK hw hT hinX12 kM_at0 (by decide) rfl 34 (by decide) (List.mem_cons_of_mem _ uw_7_7) rfl rfl dX12_leads_1 ?_
  refine lv_aload_n hx hb dX12_leads_4 rfl (lv_at hl 0 rfl) ?_
  refine lv_iload_n hx hb dX12_leads_5 rfl (lv_at hl 3 rfl) ?_
  refine lv_iload hx hb dX12_leads_6 (lv_at hl 4 rfl) ?_
  refine lv_iload hx hb dX12_leads_8 (lv_at hl 5 rfl) ?_
  refine tk_Vi hC hK hw hT hA hE hSR kM_at0 (by decide) rfl (k_X12_placeAt_3 l adK adV dC dI cy ad B hB0 (Int.le_trans hB1 (by decide)) qr s1   a3 (show 0 ≤ a3.toInt from ra3) (show a3.toInt ≤ 120 from ta3) a4 (show 0 ≤ a4.toInt from ra4) (show a4.toInt ≤ 9 from ta4) w0 s.heap.size hT ) (cwV 3 hC.2.2.2.2 uV_RX12_435 rfl rfl rfl (by decide +kernel) ⟨Nat.le_of_ble_eq_true rfl, Nat.le_of_ble_eq_true rfl⟩) rfl hl.1 rfl (Nat.le_of_ble_eq_true rfl) dX12_leads_10 (fun r588 w590 H locs hp589 hw => ?_)
  obtain ⟨rfl, hg594⟩ := hp589
  obtain ⟨g592, g593⟩ := hg594
  refine tk_iald hC hK hw hT kM_at17 rfl rfl (show 0 ≤ r588.toInt by first | with_reducible assumption | omega) (show r588.toInt < 2600 by first | with_reducible assumption | omega) dX12_leads_13 (fun x595 c596 rx595 tx595 => ?_)
  refine lv_istore (lv' := [(7, .int x595), (0, .ref (ad 0)), (1, .int a1), (2, .int a2), (3, .int a3), (4, .int a4), (5, .int 0), (6, .int a6)]) hx hb dX12_leads_14 hl (by decide) rfl (fun ls hl => ?_)
  refine lv_iload hx hb dX12_leads_16 (lv_at hl 0 rfl) ?_
  refine lv_ldcw (v := 100000000) hx hb hC.2.2.2.1 (hC.2.2.2.2 _ (List.mem_cons_of_mem _ uw_38_2)) dX12_leads_18 ?_
  refine lv_icmp_eq (tgt := 41) hx hb dX12_leads_21 (by decide) (fun c597 => ?_) (fun c597 => ?_)
  · have c597 : x595.toInt = (100000000 : Int) := wk_eq.mp c597
    exact J41 x595 H locs ls w0 (show 0 ≤ a1.toInt from ra1) (show a1.toInt ≤ 3 from ta1) (show 0 ≤ a2.toInt from ra2) (show a2.toInt ≤ 1073741824 from ta2) (show 0 ≤ a3.toInt from ra3) (show a3.toInt ≤ 120 from ta3) (show 0 ≤ a4.toInt from ra4) (show a4.toInt ≤ 9 from ta4) (show 0 ≤ a6.toInt from ra6) (show a6.toInt ≤ 120 from ta6)  hw hT hF  (lv_sub hl [1, 2, 3, 4, 5, 6, 7, 0] rfl)
  · have c597 : ¬ x595.toInt = (100000000 : Int) := wk_eqF c597
    refine lv_iload_n hx hb dX12_leads_24 rfl (lv_at hl 4 rfl) ?_
    refine lv_iload hx hb dX12_leads_25 (lv_at hl 7 rfl) ?_
    refine lv_icmp_eq (tgt := 41) hx hb dX12_leads_27 (by decide) (fun c598 => ?_) (fun c598 => ?_)
    · have c598 : a3.toInt = a6.toInt := wk_eq.mp c598
      exact J41 x595 H locs ls w0 (show 0 ≤ a1.toInt from ra1) (show a1.toInt ≤ 3 from ta1) (show 0 ≤ a2.toInt from ra2) (show a2.toInt ≤ 1073741824 from ta2) (show 0 ≤ a3.toInt from ra3) (show a3.toInt ≤ 120 from ta3) (show 0 ≤ a4.toInt from ra4) (show a4.toInt ≤ 9 from ta4) (show 0 ≤ a6.toInt from ra6) (show a6.toInt ≤ 120 from ta6)  hw hT hF  (lv_sub hl [1, 2, 3, 4, 5, 6, 7, 0] rfl)
    · have c598 : ¬ a3.toInt = a6.toInt := wk_eqF c598
      refine lv_iload hx hb dX12_leads_30 (lv_at hl 5 rfl) ?_
      refine lv_aload_n hx hb dX12_leads_32 rfl (lv_at hl 1 rfl) ?_
      refine lv_iload_n hx hb dX12_leads_33 rfl (lv_at hl 2 rfl) ?_
      refine lv_iconst (v := 1) hx hb dX12_leads_34 (by decide) ?_
      refine tk_Vi hC hK hw hT hA hE hSR kM_at0 (by decide) rfl (k_X12_walkerOf_3 l adK adV dC dI cy ad B hB0 (Int.le_trans hB1 (by decide)) qr s1   a1 (show 0 ≤ a1.toInt from ra1) (show a1.toInt ≤ 3 from ta1) w0 H.size hT ) (cwV 2 hC.2.2.2.2 uV_RX12_372 rfl rfl rfl (by decide +kernel) ⟨Nat.le_of_ble_eq_true rfl, Nat.le_of_ble_eq_true rfl⟩) rfl hl.1 rfl (Nat.le_of_ble_eq_true rfl) dX12_leads_35 (fun r599 w601 H locs hp600 hw => ?_)
      obtain ⟨rfl, hg606⟩ := hp600
      obtain ⟨g603, g604, c605⟩ := hg606
      refine lv_icmp_ne (tgt := 42) hx hb dX12_leads_38 (by decide) (fun c607 => ?_) (fun c607 => ?_)
      · have c607 : ¬ a4.toInt = r599.toInt := wk_eqF c607
        refine lv_iload_n hx hb dX12_leads_42 rfl (lv_at hl 3 rfl) ?_
        refine lv_iload_n hx hb dX12_leads_43 rfl (lv_at hl 4 rfl) ?_
        refine lv_iadd hx hb dX12_leads_44 ?_
        refine lv_topi (fun x608 ex608 => ?_)
        have ex608 : x608.toInt = a2.toInt + a3.toInt := by rw [ex608]; exact wk_add (show (-2147483648) ≤ a2.toInt + a3.toInt by omega) (show a2.toInt + a3.toInt ≤ 2147483647 by omega)
        refine lv_istore (lv' := [(8, .int x608), (7, .int x595), (0, .ref (ad 0)), (1, .int a1), (2, .int a2), (3, .int a3), (4, .int a4), (5, .int 0), (6, .int a6)]) hx hb dX12_leads_45 hl (by decide) rfl (fun ls hl => ?_)
        refine lv_iload hx hb dX12_leads_47 (lv_at hl 0 rfl) ?_
        refine lv_iconst (v := 1) hx hb dX12_leads_49 (by decide) ?_
        refine lv_iadd hx hb dX12_leads_50 ?_
        refine lv_topi (fun x609 ex609 => ?_)
        have ex609 : x609.toInt = x608.toInt + (1 : Int) := by rw [ex609]; exact wk_add (show (-2147483648) ≤ x608.toInt + (1 : Int) by omega) (show x608.toInt + (1 : Int) ≤ 2147483647 by omega)
        refine lv_bipush (v := 24) hx hb dX12_leads_51 (by decide) ?_
        refine lv_idiv hx hb dX12_leads_53 (by decide) ?_
        refine lv_topi (fun x610 ex610 => ?_)
        have ex610 : x610.toInt = x609.toInt / (24 : Int) := by rw [ex610]; exact wk_div (show 0 ≤ x609.toInt by first | with_reducible assumption | omega) (show 0 < (24 : Int) by decide)
        refine lv_iload hx hb dX12_leads_54 (lv_at hl 0 rfl) ?_
        refine lv_bipush (v := 24) hx hb dX12_leads_56 (by decide) ?_
        refine lv_idiv hx hb dX12_leads_58 (by decide) ?_
        refine lv_topi (fun x611 ex611 => ?_)
        have ex611 : x611.toInt = x608.toInt / (24 : Int) := by rw [ex611]; exact wk_div (show 0 ≤ x608.toInt by first | with_reducible assumption | omega) (show 0 < (24 : Int) by decide)
        refine lv_icmp_ne (tgt := 66) hx hb dX12_leads_59 (by decide) (fun c612 => ?_) (fun c612 => ?_)
        · have c612 : ¬ x610.toInt = x611.toInt := wk_eqF c612
          refine lv_iconst (v := 0) hx hb dX12_leads_66 (by decide) ?_
          refine lv_istore (lv' := [(9, .int 0), (8, .int x608), (7, .int x595), (0, .ref (ad 0)), (1, .int a1), (2, .int a2), (3, .int a3), (4, .int a4), (5, .int 0), (6, .int a6)]) hx hb dX12_leads_67 hl (by decide) rfl (fun ls hl => ?_)
          refine lv_aload_n hx hb dX12_leads_69 rfl (lv_at hl 3 rfl) ?_
          refine lv_iload_n hx hb dX12_leads_70 rfl (lv_at hl 6 rfl) ?_
          refine lv_iconst (v := 1) hx hb dX12_leads_71 (by decide) ?_
          refine lv_iadd hx hb dX12_leads_72 ?_
          refine lv_topi (fun x613 ex613 => ?_)
          have ex613 : x613.toInt = a3.toInt + (1 : Int) := by rw [ex613]; exact wk_add (show (-2147483648) ≤ a3.toInt + (1 : Int) by omega) (show a3.toInt + (1 : Int) ≤ 2147483647 by omega)
          refine lv_iload hx hb dX12_leads_73 (lv_at hl 7 rfl) ?_
          refine lv_iload hx hb dX12_leads_75 (lv_at hl 8 rfl) ?_
          refine lv_if_eq (tgt := 89) hx hb dX12_leads_77 (by decide) (fun _ => ?_) (fun c => absurd (by decide) c)
          refine lv_iconst (v := 0) hx hb dX12_leads_89 (by decide) ?_
          refine lv_iload hx hb dX12_leads_90 (lv_at hl 2 rfl) ?_
          refine tk_Vv hC hK hw hT hA hE hSR kM_at0 (by decide) rfl (k_X12_could_4 l adK adV dC dI cy ad B hB0 (Int.le_trans hB1 (by decide)) qr s1   x613 (show 1 ≤ x613.toInt by first | with_reducible assumption | omega) (show x613.toInt ≤ 121 by first | with_reducible assumption | omega) a4 (show 0 ≤ a4.toInt from ra4) (show a4.toInt ≤ 9 from ta4) x595 w0 H.size hT ) (cwV 4 hC.2.2.2.2 uV_RX12_439 rfl rfl rfl (by decide +kernel) ⟨Nat.le_of_ble_eq_true rfl, Nat.le_of_ble_eq_true rfl⟩) rfl hl.1 rfl (Nat.le_of_ble_eq_true rfl) dX12_leads_92 (fun w616 H locs hp615 hw => ?_)
          obtain ⟨hT, k617, hg618⟩ := hp615
          have hF := hF.tr k617 (by decide)
          have c619 := k617.gi kM_at12 rfl c605
          clear hg618
          refine lv_iload hx hb dX12_leads_95 (lv_at hl 8 rfl) ?_
          refine lv_if_ne (tgt := 115) hx hb dX12_leads_97 (by decide) (fun c => absurd (by decide) c) (fun _ => ?_)
          refine lv_aload_n hx hb dX12_leads_100 rfl (lv_at hl 3 rfl) ?_
          refine lv_iload_n hx hb dX12_leads_101 rfl (lv_at hl 6 rfl) ?_
          refine lv_iconst (v := 1) hx hb dX12_leads_102 (by decide) ?_
          refine lv_iadd hx hb dX12_leads_103 ?_
          refine lv_topi (fun x620 ex620 => ?_)
          have ex620 : x620.toInt = a3.toInt + (1 : Int) := by rw [ex620]; exact wk_add (show (-2147483648) ≤ a3.toInt + (1 : Int) by omega) (show a3.toInt + (1 : Int) ≤ 2147483647 by omega)
          refine lv_iload hx hb dX12_leads_104 (lv_at hl 7 rfl) ?_
          refine lv_iload hx hb dX12_leads_106 (lv_at hl 0 rfl) ?_
          refine lv_iload hx hb dX12_leads_108 (lv_at hl 2 rfl) ?_
          refine lv_iconst (v := 1) hx hb dX12_leads_110 (by decide) ?_
          refine lv_iadd hx hb dX12_leads_111 ?_
          have nx621 := wk_i32 x595
          refine lv_topi (fun x622 ex622 => ?_)
          refine tk_Vv hC hK hw hT hA hE hSR kM_at0 (by decide) rfl (k_X12_could_4 l adK adV dC dI cy ad B hB0 (Int.le_trans hB1 (by decide)) qr s1   x620 (show 1 ≤ x620.toInt by first | with_reducible assumption | omega) (show x620.toInt ≤ 121 by first | with_reducible assumption | omega) a4 (show 0 ≤ a4.toInt from ra4) (show a4.toInt ≤ 9 from ta4) x622 w616 H.size hT ) (cwV 4 hC.2.2.2.2 uV_RX12_439 rfl rfl rfl (by decide +kernel) ⟨Nat.le_of_ble_eq_true rfl, Nat.le_of_ble_eq_true rfl⟩) rfl hl.1 rfl (Nat.le_of_ble_eq_true rfl) dX12_leads_112 (fun w625 H locs hp624 hw => ?_)
          obtain ⟨hT, k626, hg627⟩ := hp624
          have hF := hF.tr k626 (by decide)
          have c628 := k626.gi kM_at12 rfl c619
          clear hg627
          exact J115 x595 x608 0 r599 H locs ls w625 (show 0 ≤ a1.toInt from ra1) (show a1.toInt ≤ 3 from ta1) (show 0 ≤ a2.toInt from ra2) (show a2.toInt ≤ 1073741824 from ta2) (show 0 ≤ a3.toInt from ra3) (show a3.toInt ≤ 120 from ta3) (show 0 ≤ a4.toInt from ra4) (show a4.toInt ≤ 9 from ta4) (show 0 ≤ a6.toInt from ra6) (show a6.toInt ≤ 120 from ta6) (show 0 ≤ x608.toInt by first | with_reducible assumption | omega) (show x608.toInt ≤ 1073741944 by first | with_reducible assumption | omega) (by decide) (by decide) (show 0 ≤ r599.toInt by first | with_reducible assumption | omega) (show r599.toInt ≤ 9 by first | with_reducible assumption | omega)  hw hT hF c628 (lv_sub hl [3, 4, 5, 6, 7, 8, 9, 2, 1, 0] rfl)
        · have c612 : x610.toInt = x611.toInt := wk_eq.mp c612
          refine lv_iconst (v := 1) hx hb dX12_leads_62 (by decide) ?_
          refine lv_goto (tgt := 67) hx hb dX12_leads_63 (by decide) ?_
          refine lv_istore (lv' := [(9, .int 1), (8, .int x608), (7, .int x595), (0, .ref (ad 0)), (1, .int a1), (2, .int a2), (3, .int a3), (4, .int a4), (5, .int 0), (6, .int a6)]) hx hb dX12_leads_67 hl (by decide) rfl (fun ls hl => ?_)
          refine lv_aload_n hx hb dX12_leads_69 rfl (lv_at hl 3 rfl) ?_
          refine lv_iload_n hx hb dX12_leads_70 rfl (lv_at hl 6 rfl) ?_
          refine lv_iconst (v := 1) hx hb dX12_leads_71 (by decide) ?_
          refine lv_iadd hx hb dX12_leads_72 ?_
          refine lv_topi (fun x629 ex629 => ?_)
          have ex629 : x629.toInt = a3.toInt + (1 : Int) := by rw [ex629]; exact wk_add (show (-2147483648) ≤ a3.toInt + (1 : Int) by omega) (show a3.toInt + (1 : Int) ≤ 2147483647 by omega)
          refine lv_iload hx hb dX12_leads_73 (lv_at hl 7 rfl) ?_
          refine lv_iload hx hb dX12_leads_75 (lv_at hl 8 rfl) ?_
          refine lv_if_eq (tgt := 89) hx hb dX12_leads_77 (by decide) (fun _ => ?_) (fun c => absurd (by decide) c)
          refine lv_iconst (v := 0) hx hb dX12_leads_89 (by decide) ?_
          refine lv_iload hx hb dX12_leads_90 (lv_at hl 2 rfl) ?_
          refine tk_Vv hC hK hw hT hA hE hSR kM_at0 (by decide) rfl (k_X12_could_4 l adK adV dC dI cy ad B hB0 (Int.le_trans hB1 (by decide)) qr s1   x629 (show 1 ≤ x629.toInt by first | with_reducible assumption | omega) (show x629.toInt ≤ 121 by first | with_reducible assumption | omega) a4 (show 0 ≤ a4.toInt from ra4) (show a4.toInt ≤ 9 from ta4) x595 w0 H.size hT ) (cwV 4 hC.2.2.2.2 uV_RX12_439 rfl rfl rfl (by decide +kernel) ⟨Nat.le_of_ble_eq_true rfl, Nat.le_of_ble_eq_true rfl⟩) rfl hl.1 rfl (Nat.le_of_ble_eq_true rfl) dX12_leads_92 (fun w632 H locs hp631 hw => ?_)
          obtain ⟨hT, k633, hg634⟩ := hp631
          have hF := hF.tr k633 (by decide)
          have c635 := k633.gi kM_at12 rfl c605
          clear hg634
          refine lv_iload hx hb dX12_leads_95 (lv_at hl 8 rfl) ?_
          refine lv_if_ne (tgt := 115) hx hb dX12_leads_97 (by decide) (fun c => absurd (by decide) c) (fun _ => ?_)
          refine lv_aload_n hx hb dX12_leads_100 rfl (lv_at hl 3 rfl) ?_
          refine lv_iload_n hx hb dX12_leads_101 rfl (lv_at hl 6 rfl) ?_
          refine lv_iconst (v := 1) hx hb dX12_leads_102 (by decide) ?_
          refine lv_iadd hx hb dX12_leads_103 ?_
          refine lv_topi (fun x636 ex636 => ?_)
          have ex636 : x636.toInt = a3.toInt + (1 : Int) := by rw [ex636]; exact wk_add (show (-2147483648) ≤ a3.toInt + (1 : Int) by omega) (show a3.toInt + (1 : Int) ≤ 2147483647 by omega)
          refine lv_iload hx hb dX12_leads_104 (lv_at hl 7 rfl) ?_
          refine lv_iload hx hb dX12_leads_106 (lv_at hl 0 rfl) ?_
          refine lv_iload hx hb dX12_leads_108 (lv_at hl 2 rfl) ?_
          refine lv_iconst (v := 1) hx hb dX12_leads_110 (by decide) ?_
          refine lv_iadd hx hb dX12_leads_111 ?_
          have nx637 := wk_i32 x595
          refine lv_topi (fun x638 ex638 => ?_)
          refine tk_Vv hC hK hw hT hA hE hSR kM_at0 (by decide) rfl (k_X12_could_5 l adK adV dC dI cy ad B hB0 (Int.le_trans hB1 (by decide)) qr s1   x636 (show 1 ≤ x636.toInt by first | with_reducible assumption | omega) (show x636.toInt ≤ 121 by first | with_reducible assumption | omega) a4 (show 0 ≤ a4.toInt from ra4) (show a4.toInt ≤ 9 from ta4) x638 w632 H.size hT ) (cwV 4 hC.2.2.2.2 uV_RX12_439 rfl rfl rfl (by decide +kernel) ⟨Nat.le_of_ble_eq_true rfl, Nat.le_of_ble_eq_true rfl⟩) rfl hl.1 rfl (Nat.le_of_ble_eq_true rfl) dX12_leads_112 (fun w641 H locs hp640 hw => ?_)
          obtain ⟨hT, k642, hg643⟩ := hp640
          have hF := hF.tr k642 (by decide)
          have c644 := k642.gi kM_at12 rfl c635
          clear hg643
          exact J115 x595 x608 1 r599 H locs ls w641 (show 0 ≤ a1.toInt from ra1) (show a1.toInt ≤ 3 from ta1) (show 0 ≤ a2.toInt from ra2) (show a2.toInt ≤ 1073741824 from ta2) (show 0 ≤ a3.toInt from ra3) (show a3.toInt ≤ 120 from ta3) (show 0 ≤ a4.toInt from ra4) (show a4.toInt ≤ 9 from ta4) (show 0 ≤ a6.toInt from ra6) (show a6.toInt ≤ 120 from ta6) (show 0 ≤ x608.toInt by first | with_reducible assumption | omega) (show x608.toInt ≤ 1073741944 by first | with_reducible assumption | omega) (by decide) (by decide) (show 0 ≤ r599.toInt by first | with_reducible assumption | omega) (show r599.toInt ≤ 9 by first | with_reducible assumption | omega)  hw hT hF c644 (lv_sub hl [3, 4, 5, 6, 7, 8, 9, 2, 1, 0] rfl)
      · have c607 : a4.toInt = r599.toInt := wk_eq.mp c607
        exact J41 x595 H locs ls w0 (show 0 ≤ a1.toInt from ra1) (show a1.toInt ≤ 3 from ta1) (show 0 ≤ a2.toInt from ra2) (show a2.toInt ≤ 1073741824 from ta2) (show 0 ≤ a3.toInt from ra3) (show a3.toInt ≤ 120 from ta3) (show 0 ≤ a4.toInt from ra4) (show a4.toInt ≤ 9 from ta4) (show 0 ≤ a6.toInt from ra6) (show a6.toInt ≤ 120 from ta6)  hw hT hF  (lv_sub hl [1, 2, 3, 4, 5, 6, 7, 0] rfl)
