abbrev P_X12_placeAt_6 (ad : Nat → Nat) (cy : Nat → ClassId) (B : Int) (qr : Nat) (s1 : Int) (a1 : Int32) (a2 : Int32) (w0 : va_W) : Int32 → va_W → Prop := fun r u => w0 = u ∧ ((1 ≤ r.toInt ∧ r.toInt ≤ 2419))
set_option maxHeartbeats 4000000 in
set_option maxRecDepth 100000 in
theorem k_X12_placeAt_6 (l : Launch) (adK adV : Nat → Nat) (dC : Nat → ClassId) (dI : Nat → Nat → Nat) (cy : Nat → ClassId) (ad : Nat → Nat) (B : Int) (hB0 : 100000 ≤ B) (hB1 : B ≤ 1073741824) (qr : Nat) (s1 : Int)  (a1 : Int32) (ra1 : 0 ≤ a1.toInt) (ta1 : a1.toInt ≤ 120) (a2 : Int32) (ra2 : 0 ≤ a2.toInt) (ta2 : a2.toInt ≤ 9) (w0 : va_W) (sz : Nat) (hT : TW ksM ad cy B qr 12 w0)  : Met l yX12_placeAt (wu yX12_placeAt cX12_placeAt 4 (some .int)) ({ frames := 1, cells := 0, slots := 0, locals := 12 }) (va_Pc [.ref (ad 0), .int a1, .int a2, .int 1] (wpreS adK adV dC dI cy sz w0)) (va_Qi (P_X12_placeAt_6 ad cy B qr s1 a1 a2 w0) (fun u : va_W => wpost dC dI cy (va_A w0 sz) u) (va_A w0 sz)) 0 0 (va_A w0 sz) := by
  refine Met.ofW (cc := cX12_placeAt) (maxL := 4) (ret := (some .int)) (by decide) rfl ?_
  intro p e s m args below meth c s₁ Bk hml hv
  obtain ⟨rfl, ⟨hsz, hP, hK, hD0⟩, hE, hSR⟩ := hv
  have hx := Bk.exec
  have hb := Bk.bytes
  have hr := Bk.returns
  have hlocks := Bk.notSynchronized
  have hC : CallFix p m c cX12_placeAt 4 s _ (wu yX12_placeAt cX12_placeAt 4 (some .int)) RX12 := ⟨hx, hb, hml, findClass_of_methodNamed Bk.named, atoms_spec (ws := (wu yX12_placeAt cX12_placeAt 4 (some .int))) Bk.pre⟩
  subst hsz
  have hD := hD0.self (sz := s.heap.size)
  generalize hAe : va_A w0 s.heap.size = A at hD hE ⊢
  have hA : ∀ q : Nat, s.heap.size ≤ q → A q := fun q h => by rw [← hAe]; exact Or.inr h
  have hw : Wd dC dI A s.heap s.heap [] w0 := ⟨hP, hD, va_S.rf⟩
  have hF : FE ksM ([] : List (Nat × Nat × Nat)) w0 w0 := FE.rf
  have hl := lv_entry ([.ref (ad 0), .int a1, .int a2, .int 1]) (n := 4) (Nat.le_of_ble_eq_true rfl)
  rw [lg_entry_eq]
  generalize (lg_sl ([.ref (ad 0), .int a1, .int a2, .int 1]) ++ List.replicate (4 - (lg_sl ([.ref (ad 0), .int a1, .int a2, .int 1])).length) Slot.unset).toArray = ls at hl ⊢
  have hl : lv_has ls 4 [(0, .ref (ad 0)), (1, .int a1), (2, .int a2), (3, .int 1)] := hl
  generalize hloc : ([] : List Loc) = locs at hw ⊢
  refine lv_iload_n hx hb dX12_placeAt_0 rfl (lv_at hl 1 rfl) ?_
  refine lv_bipush (v := 10) hx hb dX12_placeAt_1 (by decide) ?_
  refine lv_imul hx hb dX12_placeAt_3 ?_
  refine lv_topi (fun x1 ex1 => ?_)
  have ex1 : x1.toInt = a1.toInt * (10 : Int) := by rw [ex1]; exact wk_mul (show (-2147483648) ≤ a1.toInt * (10 : Int) by omega) (show a1.toInt * (10 : Int) ≤ 2147483647 by omega)
  refine lv_iload_n hx hb dX12_placeAt_4 rfl (lv_at hl 2 rfl) ?_
  refine lv_iadd hx hb dX12_placeAt_5 ?_
  refine lv_topi (fun x2 ex2 => ?_)
  have ex2 : x2.toInt = x1.toInt + a2.toInt := by rw [ex2]; exact wk_add (show (-2147483648) ≤ x1.toInt + a2.toInt by omega) (show x1.toInt + a2.toInt ≤ 2147483647 by omega)
  refine lv_iconst (v := 2) hx hb dX12_placeAt_6 (by decide) ?_
  refine lv_imul hx hb dX12_placeAt_7 ?_
  refine lv_topi (fun x3 ex3 => ?_)
  have ex3 : x3.toInt = x2.toInt * (2 : Int) := by rw [ex3]; exact wk_mul (show (-2147483648) ≤ x2.toInt * (2 : Int) by omega) (show x2.toInt * (2 : Int) ≤ 2147483647 by omega)
  refine lv_iload_n hx hb dX12_placeAt_8 rfl (lv_at hl 3 rfl) ?_
  refine lv_if_eq (tgt := 16) hx hb dX12_placeAt_9 (by decide) (fun c => absurd c (by decide)) (fun _ => ?_)
  refine lv_iconst (v := 1) hx hb dX12_placeAt_12 (by decide) ?_
  refine lv_goto (tgt := 17) hx hb dX12_placeAt_13 (by decide) ?_
  refine lv_iadd hx hb dX12_placeAt_17 ?_
  refine lv_topi (fun x4 ex4 => ?_)
  have ex4 : x4.toInt = x3.toInt + (1 : Int) := by rw [ex4]; exact wk_add (show (-2147483648) ≤ x3.toInt + (1 : Int) by omega) (show x3.toInt + (1 : Int) ≤ 2147483647 by omega)
  exact tk_iret hC hr hlocks hK ⟨rfl, ⟨(show 1 ≤ x4.toInt by first | with_reducible assumption | omega), (show x4.toInt ≤ 2419 by first | with_reducible assumption | omega)⟩⟩ hw dX12_placeAt_18
abbrev P_X12_could_6 (ad : Nat → Nat) (cy : Nat → ClassId) (B : Int) (qr : Nat) (s1 : Int) (a1 : Int32) (a2 : Int32) (a4 : Int32) (w0 : va_W) : va_W → Prop := fun u => TW ksM ad cy B qr 12 u ∧ FE ksM [(76, 0, 2600)] w0 u ∧ ((True))
set_option maxHeartbeats 4000000 in
set_option maxRecDepth 100000 in
theorem k_X12_could_6 (l : Launch) (adK adV : Nat → Nat) (dC : Nat → ClassId) (dI : Nat → Nat → Nat) (cy : Nat → ClassId) (ad : Nat → Nat) (B : Int) (hB0 : 100000 ≤ B) (hB1 : B ≤ 1073741824) (qr : Nat) (s1 : Int)  (a1 : Int32) (ra1 : 0 ≤ a1.toInt) (ta1 : a1.toInt ≤ 120) (a2 : Int32) (ra2 : 0 ≤ a2.toInt) (ta2 : a2.toInt ≤ 9) (a4 : Int32) (w0 : va_W) (sz : Nat) (hT : TW ksM ad cy B qr 12 w0)  : Met l yX12_could (wu yX12_could cX12_could 6 none) ({ frames := 2, cells := 0, slots := 0, locals := 35 }) (va_Pc [.ref (ad 0), .int a1, .int a2, .int 1, .int a4] (wpreS adK adV dC dI cy sz w0)) (va_Qv (P_X12_could_6 ad cy B qr s1 a1 a2 a4 w0) (fun u : va_W => wpost dC dI cy (va_A w0 sz) u) (va_A w0 sz)) 0 0 (va_A w0 sz) := by
  refine Met.ofW (cc := cX12_could) (maxL := 6) (ret := none) (by decide) rfl ?_
  intro p e s m args below meth c s₁ Bk hml hv
  obtain ⟨rfl, ⟨hsz, hP, hK, hD0⟩, hE, hSR⟩ := hv
  have hx := Bk.exec
  have hb := Bk.bytes
  have hr := Bk.returns
  have hlocks := Bk.notSynchronized
  have hC : CallFix p m c cX12_could 6 s _ (wu yX12_could cX12_could 6 none) RX12 := ⟨hx, hb, hml, findClass_of_methodNamed Bk.named, atoms_spec (ws := (wu yX12_could cX12_could 6 none)) Bk.pre⟩
  subst hsz
  have hD := hD0.self (sz := s.heap.size)
  generalize hAe : va_A w0 s.heap.size = A at hD hE ⊢
  have hA : ∀ q : Nat, s.heap.size ≤ q → A q := fun q h => by rw [← hAe]; exact Or.inr h
  have hw : Wd dC dI A s.heap s.heap [] w0 := ⟨hP, hD, va_S.rf⟩
  have hF : FE ksM [(76, 0, 2600)] w0 w0 := FE.rf
  have hl := lv_entry ([.ref (ad 0), .int a1, .int a2, .int 1, .int a4]) (n := 6) (Nat.le_of_ble_eq_true rfl)
  rw [lg_entry_eq]
  generalize (lg_sl ([.ref (ad 0), .int a1, .int a2, .int 1, .int a4]) ++ List.replicate (6 - (lg_sl ([.ref (ad 0), .int a1, .int a2, .int 1, .int a4])).length) Slot.unset).toArray = ls at hl ⊢
  have hl : lv_has ls 6 [(0, .ref (ad 0)), (1, .int a1), (2, .int a2), (3, .int 1), (4, .int a4)] := hl
  generalize hloc : ([] : List Loc) = locs at hw ⊢
  have hinX12 : ∀ w ∈ u_ws RX12 TX12 42, w ∈ (wu yX12_could cX12_could 6 none) := fun _ h => List.mem_cons_of_mem _ (up_71 h)
  have J30 : ∀ (v30_5 : Int32) (H : Heap) (locs : List Loc) (ls : Array Slot) (w1 : va_W), 0 ≤ a1.toInt → a1.toInt ≤ 120 → 0 ≤ a2.toInt → a2.toInt ≤ 9 → 1 ≤ v30_5.toInt → v30_5.toInt ≤ 2419 → Wd dC dI A s.heap H locs w1 → TW ksM ad cy B qr 12 w1 → FE ksM [(76, 0, 2600)] w0 w1 → lv_has ls 6 [(0, .ref (ad 0)), (1, .int a1), (2, .int a2), (3, .int 1), (4, .int a4), (5, .int v30_5)] → W p l e ({ frames := 2, cells := 0, slots := 0, locals := 35 }) s m (List.toArray [.ref (ad 0), .int a1, .int a2, .int 1, .int a4]) below meth c H locs 0 0 (MQ below (va_Qv (P_X12_could_6 ad cy B qr s1 a1 a2 a4 w0) (fun u : va_W => wpost dC dI cy A u) A) (List.toArray [.ref (ad 0), .int a1, .int a2, .int 1, .int a4]) s 0 0 A) (F0 m 30 ls []) := by
    intro v30_5 H locs ls w1 r2 t3 r4 t5 r6 t7 hw hT hF hl
    exact tk_vret hC hr hlocks hK ⟨hT, hF, trivial⟩ hw dX12_could_30
  refine lv_aload_n hx hb dX12_could_0 rfl (lv_at hl 0 rfl) ?_
  refine lv_iload_n hx hb dX12_could_1 rfl (lv_at hl 1 rfl) ?_
  refine lv_iload_n hx hb dX12_could_2 rfl (lv_at hl 2 rfl) ?_
  refine lv_iload_n hx hb dX12_could_3 rfl (lv_at hl 3 rfl) ?_
  refine tk_Vi hC hK hw hT hA hE hSR kM_at0 (by decide) rfl (k_X12_placeAt_6 l adK adV dC dI cy ad B hB0 (Int.le_trans hB1 (by decide)) qr s1   a1 (show 0 ≤ a1.toInt from ra1) (show a1.toInt ≤ 120 from ta1) a2 (show 0 ≤ a2.toInt from ra2) (show a2.toInt ≤ 9 from ta2) w0 s.heap.size hT ) (cwV 3 hC.2.2.2.2 uV_RX12_435 rfl rfl rfl (by decide +kernel) ⟨Nat.le_of_ble_eq_true rfl, Nat.le_of_ble_eq_true rfl⟩) rfl hl.1 rfl (Nat.le_of_ble_eq_true rfl) dX12_could_4 (fun r8 w10 H locs hp9 hw => ?_)
  obtain ⟨rfl, hg14⟩ := hp9
  obtain ⟨g12, g13⟩ := hg14
  refine lv_istore (lv' := [(5, .int r8), (0, .ref (ad 0)), (1, .int a1), (2, .int a2), (3, .int 1), (4, .int a4)]) hx hb dX12_could_7 hl (by decide) rfl (fun ls hl => ?_)
  refine lv_iload hx hb dX12_could_9 (lv_at hl 5 rfl) ?_
  refine lv_aload_n hx hb dX12_could_11 rfl (lv_at hl 1 rfl) ?_
  refine tk_getA hC hK hw hT hinX12 kM_at0 (by decide) rfl 34 (by decide) (List.mem_cons_of_mem _ uw_7_7) rfl rfl dX12_could_12 ?_
  refine lv_iload hx hb dX12_could_15 (lv_at hl 0 rfl) ?_
  refine tk_iald hC hK hw hT kM_at17 rfl rfl (show 0 ≤ r8.toInt by first | with_reducible assumption | omega) (show r8.toInt < 2600 by first | with_reducible assumption | omega) dX12_could_17 (fun x15 c16 rx15 tx15 => ?_)
  refine lv_icmp_ge (tgt := 30) hx hb dX12_could_18 (by decide) (fun c17 => ?_) (fun c17 => ?_)
  · have c17 : x15.toInt ≤ a4.toInt := wk_le.mp c17
    exact J30 r8 H locs ls w0 (show 0 ≤ a1.toInt from ra1) (show a1.toInt ≤ 120 from ta1) (show 0 ≤ a2.toInt from ra2) (show a2.toInt ≤ 9 from ta2) (show 1 ≤ r8.toInt by first | with_reducible assumption | omega) (show r8.toInt ≤ 2419 by first | with_reducible assumption | omega)  hw hT hF  (lv_sub hl [1, 2, 3, 4, 5, 0] rfl)
  · have c17 : a4.toInt < x15.toInt := wk_leF c17
    refine lv_aload_n hx hb dX12_could_21 rfl (lv_at hl 1 rfl) ?_
    refine tk_getA hC hK hw hT hinX12 kM_at0 (by decide) rfl 34 (by decide) (List.mem_cons_of_mem _ uw_7_7) rfl rfl dX12_could_22 ?_
    refine lv_iload hx hb dX12_could_25 (lv_at hl 0 rfl) ?_
    refine lv_iload hx hb dX12_could_27 (lv_at hl 5 rfl) ?_
    refine tk_iast hC hK hw hT kM_at17 (by decide) rfl rfl (show 0 ≤ r8.toInt by first | with_reducible assumption | omega) (show r8.toInt < 2600 by first | with_reducible assumption | omega) (wk_i32 a4).1 (wk_i32 a4).2 dX12_could_29 (fun H locs w18 hw hT k20 c19 => ?_)
    have hF := hF.put kM_at17 (inE_of (a := 0) (b := 2600) (by decide) (show 0 ≤ r8.toInt.toNat by omega) (show r8.toInt.toNat ≤ 2600 by omega)) k20
    exact J30 r8 H locs ls w18 (show 0 ≤ a1.toInt from ra1) (show a1.toInt ≤ 120 from ta1) (show 0 ≤ a2.toInt from ra2) (show a2.toInt ≤ 9 from ta2) (show 1 ≤ r8.toInt by first | with_reducible assumption | omega) (show r8.toInt ≤ 2419 by first | with_reducible assumption | omega)  hw hT hF  (lv_sub hl [1, 2, 3, 4, 5, 0] rfl)
abbrev P_X12_leads_2 (ad : Nat → Nat) (cy : Nat → ClassId) (B : Int) (qr : Nat) (s1 : Int) (a1 : Int32) (a2 : Int32) (a3 : Int32) (a4 : Int32) (a6 : Int32) (w0 : va_W) : va_W → Prop := fun u => TW ksM ad cy B qr 12 u ∧ FE ksM [(72, 0, 12), (73, 0, 10), (76, 0, 2600)] w0 u ∧ ((True))
set_option maxHeartbeats 4000000 in
set_option maxRecDepth 100000 in
theorem k_X12_leads_2 (l : Launch) (adK adV : Nat → Nat) (dC : Nat → ClassId) (dI : Nat → Nat → Nat) (cy : Nat → ClassId) (ad : Nat → Nat) (B : Int) (hB0 : 100000 ≤ B) (hB1 : B ≤ 1073741824) (qr : Nat) (s1 : Int)  (a1 : Int32) (ra1 : 0 ≤ a1.toInt) (ta1 : a1.toInt ≤ 3) (a2 : Int32) (ra2 : 0 ≤ a2.toInt) (ta2 : a2.toInt ≤ 1073741824) (a3 : Int32) (ra3 : 0 ≤ a3.toInt) (ta3 : a3.toInt ≤ 120) (a4 : Int32) (ra4 : 0 ≤ a4.toInt) (ta4 : a4.toInt ≤ 9) (a6 : Int32) (ra6 : 0 ≤ a6.toInt) (ta6 : a6.toInt ≤ 120) (w0 : va_W) (sz : Nat) (hT : TW ksM ad cy B qr 12 w0)  : Met l yX12_leads (wu yX12_leads cX12_leads 12 none) ({ frames := 5, cells := 0, slots := 0, locals := 103 }) (va_Pc [.ref (ad 0), .int a1, .int a2, .int a3, .int a4, .int 1, .int a6] (wpreS adK adV dC dI cy sz w0)) (va_Qv (P_X12_leads_2 ad cy B qr s1 a1 a2 a3 a4 a6 w0) (fun u : va_W => wpost dC dI cy (va_A w0 sz) u) (va_A w0 sz)) 0 0 (va_A w0 sz) := by
  refine Met.ofW (cc := cX12_leads) (maxL := 12) (ret := none) (by decide) rfl ?_
  intro p e s m args below meth c s₁ Bk hml hv
  obtain ⟨rfl, ⟨hsz, hP, hK, hD0⟩, hE, hSR⟩ := hv
  have hx := Bk.exec
  have hb := Bk.bytes
  have hr := Bk.returns
  have hlocks := Bk.notSynchronized
  have hC : CallFix p m c cX12_leads 12 s _ (wu yX12_leads cX12_leads 12 none) RX12 := ⟨hx, hb, hml, findClass_of_methodNamed Bk.named, atoms_spec (ws := (wu yX12_leads cX12_leads 12 none)) Bk.pre⟩
  subst hsz
  have hD := hD0.self (sz := s.heap.size)
  generalize hAe : va_A w0 s.heap.size = A at hD hE ⊢
  have hA : ∀ q : Nat, s.heap.size ≤ q → A q := fun q h => by rw [← hAe]; exact Or.inr h
  have hw : Wd dC dI A s.heap s.heap [] w0 := ⟨hP, hD, va_S.rf⟩
  have hF : FE ksM [(72, 0, 12), (73, 0, 10), (76, 0, 2600)] w0 w0 := FE.rf
  have hl := lv_entry ([.ref (ad 0), .int a1, .int a2, .int a3, .int a4, .int 1, .int a6]) (n := 12) (Nat.le_of_ble_eq_true rfl)
  rw [lg_entry_eq]
  generalize (lg_sl ([.ref (ad 0), .int a1, .int a2, .int a3, .int a4, .int 1, .int a6]) ++ List.replicate (12 - (lg_sl ([.ref (ad 0), .int a1, .int a2, .int a3, .int a4, .int 1, .int a6])).length) Slot.unset).toArray = ls at hl ⊢
  have hl : lv_has ls 12 [(0, .ref (ad 0)), (1, .int a1), (2, .int a2), (3, .int a3), (4, .int a4), (5, .int 1), (6, .int a6)] := hl
  generalize hloc : ([] : List Loc) = locs at hw ⊢
  have hinX12 : ∀ w ∈ u_ws RX12 TX12 42, w ∈ (wu yX12_leads cX12_leads 12 none) := fun _ h => List.mem_cons_of_mem _ (up_71 h)
  have J41 : ∀ (v41_7 : Int32) (H : Heap) (locs : List Loc) (ls : Array Slot) (w1 : va_W), 0 ≤ a1.toInt → a1.toInt ≤ 3 → 0 ≤ a2.toInt → a2.toInt ≤ 1073741824 → 0 ≤ a3.toInt → a3.toInt ≤ 120 → 0 ≤ a4.toInt → a4.toInt ≤ 9 → 0 ≤ a6.toInt → a6.toInt ≤ 120 → Wd dC dI A s.heap H locs w1 → TW ksM ad cy B qr 12 w1 → FE ksM [(72, 0, 12), (73, 0, 10), (76, 0, 2600)] w0 w1 → lv_has ls 12 [(0, .ref (ad 0)), (1, .int a1), (2, .int a2), (3, .int a3), (4, .int a4), (5, .int 1), (6, .int a6), (7, .int v41_7)] → W p l e ({ frames := 5, cells := 0, slots := 0, locals := 103 }) s m (List.toArray [.ref (ad 0), .int a1, .int a2, .int a3, .int a4, .int 1, .int a6]) below meth c H locs 0 0 (MQ below (va_Qv (P_X12_leads_2 ad cy B qr s1 a1 a2 a3 a4 a6 w0) (fun u : va_W => wpost dC dI cy A u) A) (List.toArray [.ref (ad 0), .int a1, .int a2, .int a3, .int a4, .int 1, .int a6]) s 0 0 A) (F0 m 41 ls []) := by
    intro v41_7 H locs ls w1 r2 t3 r4 t5 r6 t7 r8 t9 r10 t11 hw hT hF hl
    exact tk_vret hC hr hlocks hK ⟨hT, hF, trivial⟩ hw dX12_leads_41
  have J181 : ∀ (v181_7 : Int32) (v181_8 : Int32) (v181_9 : Int32) (v181_10 : Int32) (f181_12__9_a1_toInt_217_toNat : Int32) (H : Heap) (locs : List Loc) (ls : Array Slot) (w12 : va_W), 0 ≤ a1.toInt → a1.toInt ≤ 3 → 0 ≤ a2.toInt → a2.toInt ≤ 1073741824 → 0 ≤ a3.toInt → a3.toInt ≤ 120 → 0 ≤ a4.toInt → a4.toInt ≤ 9 → 0 ≤ a6.toInt → a6.toInt ≤ 120 → 0 ≤ v181_8.toInt → v181_8.toInt ≤ 1073741944 → 0 ≤ v181_9.toInt → v181_9.toInt ≤ 1 → (-1) ≤ v181_10.toInt → v181_10.toInt ≤ 11 → 0 ≤ f181_12__9_a1_toInt_217_toNat.toInt → f181_12__9_a1_toInt_217_toNat.toInt ≤ 9 → Wd dC dI A s.heap H locs w12 → TW ksM ad cy B qr 12 w12 → FE ksM [(72, 0, 12), (73, 0, 10), (76, 0, 2600)] w0 w12 → gi w12 12 (9 * a1.toInt + 217).toNat = f181_12__9_a1_toInt_217_toNat → lv_has ls 12 [(0, .ref (ad 0)), (1, .int a1), (2, .int a2), (3, .int a3), (4, .int a4), (5, .int 1), (6, .int a6), (7, .int v181_7), (8, .int v181_8), (9, .int v181_9), (10, .int v181_10)] → W p l e ({ frames := 5, cells := 0, slots := 0, locals := 103 }) s m (List.toArray [.ref (ad 0), .int a1, .int a2, .int a3, .int a4, .int 1, .int a6]) below meth c H locs 0 0 (MQ below (va_Qv (P_X12_leads_2 ad cy B qr s1 a1 a2 a3 a4 a6 w0) (fun u : va_W => wpost dC dI cy A u) A) (List.toArray [.ref (ad 0), .int a1, .int a2, .int a3, .int a4, .int 1, .int a6]) s 0 0 A) (F0 m 181 ls []) := by
    intro v181_7 v181_8 v181_9 v181_10 f181_12__9_a1_toInt_217_toNat H locs ls w12 r13 t14 r15 t16 r17 t18 r19 t20 r21 t22 r23 t24 r25 t26 r27 t28 r29 t30 hw hT hF c31 hl
    exact tk_vret hC hr hlocks hK ⟨hT, hF, trivial⟩ hw dX12_leads_181
  have J241 : ∀ (v241_7 : Int32) (v241_8 : Int32) (v241_9 : Int32) (v241_10 : Int32) (v241_11 : Int32) (f241_12__9_a1_toInt_217_toNat : Int32) (f241_12_1 : Int32) (H : Heap) (locs : List Loc) (ls : Array Slot) (w32 : va_W), 0 ≤ a1.toInt → a1.toInt ≤ 3 → 0 ≤ a2.toInt → a2.toInt ≤ 1073741824 → 0 ≤ a3.toInt → a3.toInt ≤ 120 → 0 ≤ a4.toInt → a4.toInt ≤ 9 → 0 ≤ a6.toInt → a6.toInt ≤ 120 → 0 ≤ v241_8.toInt → v241_8.toInt ≤ 1073741944 → 0 ≤ v241_9.toInt → v241_9.toInt ≤ 1 → 0 ≤ v241_10.toInt → v241_10.toInt ≤ 11 → 0 ≤ v241_11.toInt → v241_11.toInt ≤ 129 → 0 ≤ f241_12__9_a1_toInt_217_toNat.toInt → f241_12__9_a1_toInt_217_toNat.toInt ≤ 9 → 1 ≤ f241_12_1.toInt → f241_12_1.toInt ≤ 12 → Wd dC dI A s.heap H locs w32 → TW ksM ad cy B qr 12 w32 → FE ksM [(72, 0, 12), (73, 0, 10), (76, 0, 2600)] w0 w32 → gi w32 12 (9 * a1.toInt + 217).toNat = f241_12__9_a1_toInt_217_toNat → gi w32 12 1 = f241_12_1 → lv_has ls 12 [(0, .ref (ad 0)), (1, .int a1), (2, .int a2), (3, .int a3), (4, .int a4), (5, .int 1), (6, .int a6), (7, .int v241_7), (8, .int v241_8), (9, .int v241_9), (10, .int v241_10), (11, .int v241_11)] → W p l e ({ frames := 5, cells := 0, slots := 0, locals := 103 }) s m (List.toArray [.ref (ad 0), .int a1, .int a2, .int a3, .int a4, .int 1, .int a6]) below meth c H locs 0 0 (MQ below (va_Qv (P_X12_leads_2 ad cy B qr s1 a1 a2 a3 a4 a6 w0) (fun u : va_W => wpost dC dI cy A u) A) (List.toArray [.ref (ad 0), .int a1, .int a2, .int a3, .int a4, .int 1, .int a6]) s 0 0 A) (F0 m 241 ls []) := by
    intro v241_7 v241_8 v241_9 v241_10 v241_11 f241_12__9_a1_toInt_217_toNat f241_12_1 H locs ls w32 r33 t34 r35 t36 r37 t38 r39 t40 r41 t42 r43 t44 r45 t46 r47 t48 r49 t50 r51 t52 r54 t55 hw hT hF c53 c56 hl
    exact tk_vret hC hr hlocks hK ⟨hT, hF, trivial⟩ hw dX12_leads_241
  have J145 : ∀ (v145_7 : Int32) (v145_8 : Int32) (v145_9 : Int32) (f145_12__9_a1_toInt_217_toNat : Int32) (H : Heap) (locs : List Loc) (ls : Array Slot) (w57 : va_W), 0 ≤ a1.toInt → a1.toInt ≤ 3 → 0 ≤ a2.toInt → a2.toInt ≤ 1073741824 → 0 ≤ a3.toInt → a3.toInt ≤ 120 → 0 ≤ a4.toInt → a4.toInt ≤ 9 → 0 ≤ a6.toInt → a6.toInt ≤ 120 → 0 ≤ v145_8.toInt → v145_8.toInt ≤ 1073741944 → 0 ≤ v145_9.toInt → v145_9.toInt ≤ 1 → 0 ≤ f145_12__9_a1_toInt_217_toNat.toInt → f145_12__9_a1_toInt_217_toNat.toInt ≤ 9 → Wd dC dI A s.heap H locs w57 → TW ksM ad cy B qr 12 w57 → FE ksM [(72, 0, 12), (73, 0, 10), (76, 0, 2600)] w0 w57 → gi w57 12 (9 * a1.toInt + 217).toNat = f145_12__9_a1_toInt_217_toNat → lv_has ls 12 [(0, .ref (ad 0)), (1, .int a1), (2, .int a2), (3, .int a3), (4, .int a4), (5, .int 1), (6, .int a6), (7, .int v145_7), (8, .int v145_8), (9, .int v145_9)] → W p l e ({ frames := 5, cells := 0, slots := 0, locals := 103 }) s m (List.toArray [.ref (ad 0), .int a1, .int a2, .int a3, .int a4, .int 1, .int a6]) below meth c H locs 0 0 (MQ below (va_Qv (P_X12_leads_2 ad cy B qr s1 a1 a2 a3 a4 a6 w0) (fun u : va_W => wpost dC dI cy A u) A) (List.toArray [.ref (ad 0), .int a1, .int a2, .int a3, .int a4, .int 1, .int a6]) s 0 0 A) (F0 m 145 ls []) := by
    intro v145_7 v145_8 v145_9 f145_12__9_a1_toInt_217_toNat H locs ls w57 r58 t59 r60 t61 r62 t63 r64 t65 r66 t67 r68 t69 r70 t71 r72 t73 hw hT hF c74 hl
    refine lv_aload_n hx hb dX12_leads_145 rfl (lv_at hl 0 rfl) ?_
    refine lv_aload_n hx hb dX12_leads_146 rfl (lv_at hl 0 rfl) ?_
    refine lv_iload_n hx hb dX12_leads_147 rfl (lv_at hl 1 rfl) ?_
    refine lv_iconst (v := 1) hx hb dX12_leads_148 (by decide) ?_
    refine tk_Vi hC hK hw hT hA hE hSR kM_at0 (by decide) rfl (k_X12_walkerOf_3 l adK adV dC dI cy ad B hB0 (Int.le_trans hB1 (by decide)) qr s1   a1 (show 0 ≤ a1.toInt from r58) (show a1.toInt ≤ 3 from t59) w57 H.size hT ) (cwV 2 hC.2.2.2.2 uV_RX12_372 rfl rfl rfl (by decide +kernel) ⟨Nat.le_of_ble_eq_true rfl, Nat.le_of_ble_eq_true rfl⟩) rfl hl.1 rfl (Nat.le_of_ble_eq_true rfl) dX12_leads_149 (fun r75 w77 H locs hp76 hw => ?_)
    obtain ⟨rfl, hg82⟩ := hp76
    obtain ⟨g79, g80, c81⟩ := hg82
    obtain rfl : f145_12__9_a1_toInt_217_toNat = r75 := c74.symm.trans c81
    refine tk_Vv hC hK hw hT hA hE hSR kM_at0 (by decide) rfl (k_X12_spreads_1 l adK adV dC dI cy ad B hB0 (Int.le_trans hB1 (by decide)) qr s1   f145_12__9_a1_toInt_217_toNat (show 0 ≤ f145_12__9_a1_toInt_217_toNat.toInt from r72) (show f145_12__9_a1_toInt_217_toNat.toInt ≤ 9 from t73) w57 H.size hT ) (cwV 1 hC.2.2.2.2 uV_RX12_354 rfl rfl rfl (by decide +kernel) ⟨Nat.le_of_ble_eq_true rfl, Nat.le_of_ble_eq_true rfl⟩) rfl hl.1 rfl (Nat.le_of_ble_eq_true rfl) dX12_leads_152 (fun w85 H locs hp84 hw => ?_)
    obtain ⟨hT, k86, hg87⟩ := hp84
    have hF := hF.tr k86 (by decide)
    have c88 := k86.gi kM_at12 rfl c74
    clear hg87
    refine lv_aload_n hx hb dX12_leads_155 rfl (lv_at hl 0 rfl) ?_
    refine lv_iload hx hb dX12_leads_156 (lv_at hl 4 rfl) ?_
    refine tk_Vi hC hK hw hT hA hE hSR kM_at0 (by decide) rfl (k_X12_streetFrom_1 l adK adV dC dI cy ad B hB0 (Int.le_trans hB1 (by decide)) qr s1   a4 (show 0 ≤ a4.toInt from r64) (show a4.toInt ≤ 9 from t65) w85 H.size hT ) (cwV 1 hC.2.2.2.2 uV_RX12_357 rfl rfl rfl (by decide +kernel) ⟨Nat.le_of_ble_eq_true rfl, Nat.le_of_ble_eq_true rfl⟩) rfl hl.1 rfl (Nat.le_of_ble_eq_true rfl) dX12_leads_158 (fun r89 w91 H locs hp90 hw => ?_)
    obtain ⟨rfl, hg109⟩ := hp90
    rcases hg109 with ⟨g93, g94, ⟨x95, c96, rx95, tx95⟩, c97, c98⟩ | ⟨g99, g100, ⟨x101, c102, rx101, tx101⟩, c103⟩ | ⟨g104, g105, ⟨x106, c107, rx106, tx106⟩, c108⟩ | rfl
    · refine lv_istore (lv' := [(10, .int r89), (0, .ref (ad 0)), (1, .int a1), (2, .int a2), (3, .int a3), (4, .int a4), (5, .int 1), (6, .int a6), (7, .int v145_7), (8, .int v145_8), (9, .int v145_9)]) hx hb dX12_leads_161 hl (by decide) rfl (fun ls hl => ?_)
      refine lv_iload hx hb dX12_leads_163 (lv_at hl 0 rfl) ?_
      refine lv_if_lt (tgt := 181) hx hb dX12_leads_165 (by decide) (fun c => absurd c (fun h => absurd (show r89.toInt < (0 : Int) from wk_lt.mp h) (by omega))) (fun _ => ?_)
      refine lv_aload_n hx hb dX12_leads_168 rfl (lv_at hl 1 rfl) ?_
      refine lv_iload hx hb dX12_leads_169 (lv_at hl 0 rfl) ?_
      refine lv_iload hx hb dX12_leads_171 (lv_at hl 5 rfl) ?_
      refine lv_iload hx hb dX12_leads_173 (lv_at hl 9 rfl) ?_
      refine tk_Vi hC hK hw hT hA hE hSR kM_at0 (by decide) rfl (k_X12_isOpen_3 l adK adV dC dI cy ad B hB0 (Int.le_trans hB1 (by decide)) qr s1   r89 (show 0 ≤ r89.toInt by first | with_reducible assumption | omega) (show r89.toInt ≤ 11 by first | with_reducible assumption | omega) a4 (show 0 ≤ a4.toInt from r64) (show a4.toInt ≤ 9 from t65) v145_8 (show 0 ≤ v145_8.toInt from r68) (show v145_8.toInt ≤ 1073741944 from t69) w85 H.size hT ) (cwV 3 hC.2.2.2.2 uV_RX12_334 rfl rfl rfl (by decide +kernel) ⟨Nat.le_of_ble_eq_true rfl, Nat.le_of_ble_eq_true rfl⟩) rfl hl.1 rfl (Nat.le_of_ble_eq_true rfl) dX12_leads_175 (fun r110 w112 H locs hp111 hw => ?_)
      obtain ⟨rfl, hg129⟩ := hp111
      rcases hg129 with ⟨rfl, hq114⟩ | ⟨rfl, c115, c116, hq117⟩ | ⟨rfl, c118, hq119⟩ | ⟨rfl, c120, hq121⟩ | ⟨rfl, c122, c123, hq124⟩ | ⟨rfl, c125, hq126⟩ | ⟨rfl, c127, hq128⟩
      · refine lv_if_ne (tgt := 182) hx hb dX12_leads_178 (by decide) (fun c => absurd (by decide) c) (fun _ => ?_)
        exact J181 v145_7 v145_8 v145_9 r89 f145_12__9_a1_toInt_217_toNat H locs ls w85 (show 0 ≤ a1.toInt from r58) (show a1.toInt ≤ 3 from t59) (show 0 ≤ a2.toInt from r60) (show a2.toInt ≤ 1073741824 from t61) (show 0 ≤ a3.toInt from r62) (show a3.toInt ≤ 120 from t63) (show 0 ≤ a4.toInt from r64) (show a4.toInt ≤ 9 from t65) (show 0 ≤ a6.toInt from r66) (show a6.toInt ≤ 120 from t67) (show 0 ≤ v145_8.toInt from r68) (show v145_8.toInt ≤ 1073741944 from t69) (show 0 ≤ v145_9.toInt from r70) (show v145_9.toInt ≤ 1 from t71) (show (-1) ≤ r89.toInt by first | with_reducible assumption | omega) (show r89.toInt ≤ 11 by first | with_reducible assumption | omega) (show 0 ≤ f145_12__9_a1_toInt_217_toNat.toInt from r72) (show f145_12__9_a1_toInt_217_toNat.toInt ≤ 9 from t73)  hw hT hF c88 (lv_sub hl [1, 2, 3, 4, 5, 6, 7, 8, 9, 10, 0] rfl)
      · refine lv_if_ne (tgt := 182) hx hb dX12_leads_178 (by decide) (fun c => absurd (by decide) c) (fun _ => ?_)
        exact J181 v145_7 v145_8 v145_9 r89 f145_12__9_a1_toInt_217_toNat H locs ls w85 (show 0 ≤ a1.toInt from r58) (show a1.toInt ≤ 3 from t59) (show 0 ≤ a2.toInt from r60) (show a2.toInt ≤ 1073741824 from t61) (show 0 ≤ a3.toInt from r62) (show a3.toInt ≤ 120 from t63) (show 0 ≤ a4.toInt from r64) (show a4.toInt ≤ 9 from t65) (show 0 ≤ a6.toInt from r66) (show a6.toInt ≤ 120 from t67) (show 0 ≤ v145_8.toInt from r68) (show v145_8.toInt ≤ 1073741944 from t69) (show 0 ≤ v145_9.toInt from r70) (show v145_9.toInt ≤ 1 from t71) (show (-1) ≤ r89.toInt by first | with_reducible assumption | omega) (show r89.toInt ≤ 11 by first | with_reducible assumption | omega) (show 0 ≤ f145_12__9_a1_toInt_217_toNat.toInt from r72) (show f145_12__9_a1_toInt_217_toNat.toInt ≤ 9 from t73)  hw hT hF c88 (lv_sub hl [1, 2, 3, 4, 5, 6, 7, 8, 9, 10, 0] rfl)
      · refine lv_if_ne (tgt := 182) hx hb dX12_leads_178 (by decide) (fun c => absurd (by decide) c) (fun _ => ?_)
        exact J181 v145_7 v145_8 v145_9 r89 f145_12__9_a1_toInt_217_toNat H locs ls w85 (show 0 ≤ a1.toInt from r58) (show a1.toInt ≤ 3 from t59) (show 0 ≤ a2.toInt from r60) (show a2.toInt ≤ 1073741824 from t61) (show 0 ≤ a3.toInt from r62) (show a3.toInt ≤ 120 from t63) (show 0 ≤ a4.toInt from r64) (show a4.toInt ≤ 9 from t65) (show 0 ≤ a6.toInt from r66) (show a6.toInt ≤ 120 from t67) (show 0 ≤ v145_8.toInt from r68) (show v145_8.toInt ≤ 1073741944 from t69) (show 0 ≤ v145_9.toInt from r70) (show v145_9.toInt ≤ 1 from t71) (show (-1) ≤ r89.toInt by first | with_reducible assumption | omega) (show r89.toInt ≤ 11 by first | with_reducible assumption | omega) (show 0 ≤ f145_12__9_a1_toInt_217_toNat.toInt from r72) (show f145_12__9_a1_toInt_217_toNat.toInt ≤ 9 from t73)  hw hT hF c88 (lv_sub hl [1, 2, 3, 4, 5, 6, 7, 8, 9, 10, 0] rfl)
      · refine lv_if_ne (tgt := 182) hx hb dX12_leads_178 (by decide) (fun c => absurd (by decide) c) (fun _ => ?_)
        exact J181 v145_7 v145_8 v145_9 r89 f145_12__9_a1_toInt_217_toNat H locs ls w85 (show 0 ≤ a1.toInt from r58) (show a1.toInt ≤ 3 from t59) (show 0 ≤ a2.toInt from r60) (show a2.toInt ≤ 1073741824 from t61) (show 0 ≤ a3.toInt from r62) (show a3.toInt ≤ 120 from t63) (show 0 ≤ a4.toInt from r64) (show a4.toInt ≤ 9 from t65) (show 0 ≤ a6.toInt from r66) (show a6.toInt ≤ 120 from t67) (show 0 ≤ v145_8.toInt from r68) (show v145_8.toInt ≤ 1073741944 from t69) (show 0 ≤ v145_9.toInt from r70) (show v145_9.toInt ≤ 1 from t71) (show (-1) ≤ r89.toInt by first | with_reducible assumption | omega) (show r89.toInt ≤ 11 by first | with_reducible assumption | omega) (show 0 ≤ f145_12__9_a1_toInt_217_toNat.toInt from r72) (show f145_12__9_a1_toInt_217_toNat.toInt ≤ 9 from t73)  hw hT hF c88 (lv_sub hl [1, 2, 3, 4, 5, 6, 7, 8, 9, 10, 0] rfl)
      · refine lv_if_ne (tgt := 182) hx hb dX12_leads_178 (by decide) (fun _ => ?_) (fun c => absurd c (by decide))
        refine lv_iload_n hx hb dX12_leads_182 rfl (lv_at hl 4 rfl) ?_
        refine lv_aload_n hx hb dX12_leads_183 rfl (lv_at hl 1 rfl) ?_
        refine lv_iload hx hb dX12_leads_184 (lv_at hl 0 rfl) ?_
        refine lv_iconst (v := 2) hx hb dX12_leads_186 (by decide) ?_
        refine tk_Vi hC hK hw hT hA hE hSR kM_at0 (by decide) rfl (k_X12_streetOf_6 l adK adV dC dI cy ad B hB0 (Int.le_trans hB1 (by decide)) qr s1   r89 (show 0 ≤ r89.toInt by first | with_reducible assumption | omega) (show r89.toInt ≤ 11 by first | with_reducible assumption | omega) w85 H.size hT ) (cwV 2 hC.2.2.2.2 uV_RX12_300 rfl rfl rfl (by decide +kernel) ⟨Nat.le_of_ble_eq_true rfl, Nat.le_of_ble_eq_true rfl⟩) rfl hl.1 rfl (Nat.le_of_ble_eq_true rfl) dX12_leads_187 (fun r130 w132 H locs hp131 hw => ?_)
        obtain ⟨rfl, hg137⟩ := hp131
        obtain ⟨g134, g135, c136⟩ := hg137
        refine lv_iadd hx hb dX12_leads_190 ?_
        refine lv_topi (fun x138 ex138 => ?_)
        have ex138 : x138.toInt = a3.toInt + r130.toInt := by rw [ex138]; exact wk_add (show (-2147483648) ≤ a3.toInt + r130.toInt by omega) (show a3.toInt + r130.toInt ≤ 2147483647 by omega)
        refine lv_istore (lv' := [(11, .int x138), (10, .int r89), (0, .ref (ad 0)), (1, .int a1), (2, .int a2), (3, .int a3), (4, .int a4), (5, .int 1), (6, .int a6), (7, .int v145_7), (8, .int v145_8), (9, .int v145_9)]) hx hb dX12_leads_191 hl (by decide) rfl (fun ls hl => ?_)
        refine lv_iload hx hb dX12_leads_193 (lv_at hl 0 rfl) ?_
        refine lv_iload hx hb dX12_leads_195 (lv_at hl 8 rfl) ?_
        refine lv_icmp_gt (tgt := 241) hx hb dX12_leads_197 (by decide) (fun c139 => ?_) (fun c139 => ?_)
        · have c139 : a6.toInt < x138.toInt := wk_lt.mp c139
          exact J241 v145_7 v145_8 v145_9 r89 x138 f145_12__9_a1_toInt_217_toNat x95 H locs ls w85 (show 0 ≤ a1.toInt from r58) (show a1.toInt ≤ 3 from t59) (show 0 ≤ a2.toInt from r60) (show a2.toInt ≤ 1073741824 from t61) (show 0 ≤ a3.toInt from r62) (show a3.toInt ≤ 120 from t63) (show 0 ≤ a4.toInt from r64) (show a4.toInt ≤ 9 from t65) (show 0 ≤ a6.toInt from r66) (show a6.toInt ≤ 120 from t67) (show 0 ≤ v145_8.toInt from r68) (show v145_8.toInt ≤ 1073741944 from t69) (show 0 ≤ v145_9.toInt from r70) (show v145_9.toInt ≤ 1 from t71) (show 0 ≤ r89.toInt by first | with_reducible assumption | omega) (show r89.toInt ≤ 11 by first | with_reducible assumption | omega) (show 0 ≤ x138.toInt by first | with_reducible assumption | omega) (show x138.toInt ≤ 129 by first | with_reducible assumption | omega) (show 0 ≤ f145_12__9_a1_toInt_217_toNat.toInt from r72) (show f145_12__9_a1_toInt_217_toNat.toInt ≤ 9 from t73) (show 1 ≤ x95.toInt by first | with_reducible assumption | omega) (show x95.toInt ≤ 12 by first | with_reducible assumption | omega)  hw hT hF c88 c96 (lv_sub hl [2, 3, 4, 5, 6, 7, 8, 9, 10, 11, 1, 0] rfl)
        · have c139 : x138.toInt ≤ a6.toInt := wk_ltF c139
          refine lv_aload_n hx hb dX12_leads_200 rfl (lv_at hl 2 rfl) ?_
          refine lv_iload hx hb dX12_leads_201 (lv_at hl 0 rfl) ?_
          refine lv_aload_n hx hb dX12_leads_203 rfl (lv_at hl 2 rfl) ?_
          refine lv_iload hx hb dX12_leads_204 (lv_at hl 1 rfl) ?_
          refine lv_iload hx hb dX12_leads_206 (lv_at hl 6 rfl) ?_
          refine tk_Vi hC hK hw hT hA hE hSR kM_at0 (by decide) rfl (k_X12_otherOf_1 l adK adV dC dI cy ad B hB0 (Int.le_trans hB1 (by decide)) qr s1   r89 (show 0 ≤ r89.toInt by first | with_reducible assumption | omega) (show r89.toInt ≤ 11 by first | with_reducible assumption | omega) a4 (show 0 ≤ a4.toInt from r64) (show a4.toInt ≤ 9 from t65) w85 H.size hT ) (cwV 2 hC.2.2.2.2 uV_RX12_348 rfl rfl rfl (by decide +kernel) ⟨Nat.le_of_ble_eq_true rfl, Nat.le_of_ble_eq_true rfl⟩) rfl hl.1 rfl (Nat.le_of_ble_eq_true rfl) dX12_leads_208 (fun r140 w142 H locs hp141 hw => ?_)
          obtain ⟨rfl, hg149⟩ := hp141
          rcases hg149 with ⟨g144, g145⟩ | ⟨g146, g147, c148⟩
          · refine lv_iload hx hb dX12_leads_211 (lv_at hl 7 rfl) ?_
            refine lv_if_eq (tgt := 235) hx hb dX12_leads_213 (by decide) (fun c => absurd c (by decide)) (fun _ => ?_)
            refine lv_iload_n hx hb dX12_leads_216 rfl (lv_at hl 4 rfl) ?_
            refine lv_iload hx hb dX12_leads_217 (lv_at hl 0 rfl) ?_
            refine lv_iadd hx hb dX12_leads_219 ?_
            refine lv_topi (fun x150 ex150 => ?_)
            have ex150 : x150.toInt = a2.toInt + x138.toInt := by rw [ex150]; exact wk_add (show (-2147483648) ≤ a2.toInt + x138.toInt by omega) (show a2.toInt + x138.toInt ≤ 2147483647 by omega)
            refine lv_bipush (v := 24) hx hb dX12_leads_220 (by decide) ?_
            refine lv_idiv hx hb dX12_leads_222 (by decide) ?_
            refine lv_topi (fun x151 ex151 => ?_)
            have ex151 : x151.toInt = x150.toInt / (24 : Int) := by rw [ex151]; exact wk_div (show 0 ≤ x150.toInt by first | with_reducible assumption | omega) (show 0 < (24 : Int) by decide)
            refine lv_iload hx hb dX12_leads_223 (lv_at hl 10 rfl) ?_
            refine lv_bipush (v := 24) hx hb dX12_leads_225 (by decide) ?_
            refine lv_idiv hx hb dX12_leads_227 (by decide) ?_
            refine lv_topi (fun x152 ex152 => ?_)
            have ex152 : x152.toInt = v145_8.toInt / (24 : Int) := by rw [ex152]; exact wk_div (show 0 ≤ v145_8.toInt from r68) (show 0 < (24 : Int) by decide)
            refine lv_icmp_ne (tgt := 235) hx hb dX12_leads_228 (by decide) (fun c153 => ?_) (fun c153 => ?_)
            · have c153 : ¬ x151.toInt = x152.toInt := wk_eqF c153
              refine lv_iconst (v := 0) hx hb dX12_leads_235 (by decide) ?_
              refine lv_iload hx hb dX12_leads_236 (lv_at hl 9 rfl) ?_
              refine tk_Vv hC hK hw hT hA hE hSR kM_at0 (by decide) rfl (k_X12_could_3 l adK adV dC dI cy ad B hB0 (Int.le_trans hB1 (by decide)) qr s1   x138 (show 0 ≤ x138.toInt by first | with_reducible assumption | omega) (show x138.toInt ≤ 120 by first | with_reducible assumption | omega) r140 (show 0 ≤ r140.toInt by first | with_reducible assumption | omega) (show r140.toInt ≤ 9 by first | with_reducible assumption | omega) v145_7 w85 H.size hT ) (cwV 4 hC.2.2.2.2 uV_RX12_439 rfl rfl rfl (by decide +kernel) ⟨Nat.le_of_ble_eq_true rfl, Nat.le_of_ble_eq_true rfl⟩) rfl hl.1 rfl (Nat.le_of_ble_eq_true rfl) dX12_leads_238 (fun w156 H locs hp155 hw => ?_)
              obtain ⟨hT, k157, hg158⟩ := hp155
              have hF := hF.tr k157 (by decide)
              have c159 := k157.gi kM_at12 rfl c88
              have c160 := k157.gi kM_at12 (by decide) c96
              have c161 := k157.gi kM_at12 rfl c97
              have c162 := k157.gi kM_at12 rfl c98
              have c163 := k157.gi kM_at12 rfl c136
              clear hg158
              exact J241 v145_7 v145_8 v145_9 r89 x138 f145_12__9_a1_toInt_217_toNat x95 H locs ls w156 (show 0 ≤ a1.toInt from r58) (show a1.toInt ≤ 3 from t59) (show 0 ≤ a2.toInt from r60) (show a2.toInt ≤ 1073741824 from t61) (show 0 ≤ a3.toInt from r62) (show a3.toInt ≤ 120 from t63) (show 0 ≤ a4.toInt from r64) (show a4.toInt ≤ 9 from t65) (show 0 ≤ a6.toInt from r66) (show a6.toInt ≤ 120 from t67) (show 0 ≤ v145_8.toInt from r68) (show v145_8.toInt ≤ 1073741944 from t69) (show 0 ≤ v145_9.toInt from r70) (show v145_9.toInt ≤ 1 from t71) (show 0 ≤ r89.toInt by first | with_reducible assumption | omega) (show r89.toInt ≤ 11 by first | with_reducible assumption | omega) (show 0 ≤ x138.toInt by first | with_reducible assumption | omega) (show x138.toInt ≤ 129 by first | with_reducible assumption | omega) (show 0 ≤ f145_12__9_a1_toInt_217_toNat.toInt from r72) (show f145_12__9_a1_toInt_217_toNat.toInt ≤ 9 from t73) (show 1 ≤ x95.toInt by first | with_reducible assumption | omega) (show x95.toInt ≤ 12 by first | with_reducible assumption | omega)  hw hT hF c159 c160 (lv_sub hl [2, 3, 4, 5, 6, 7, 8, 9, 10, 11, 1, 0] rfl)
            · have c153 : x151.toInt = x152.toInt := wk_eq.mp c153
              refine lv_iconst (v := 1) hx hb dX12_leads_231 (by decide) ?_
              refine lv_goto (tgt := 236) hx hb dX12_leads_232 (by decide) ?_
              refine lv_iload hx hb dX12_leads_236 (lv_at hl 9 rfl) ?_
              refine tk_Vv hC hK hw hT hA hE hSR kM_at0 (by decide) rfl (k_X12_could_6 l adK adV dC dI cy ad B hB0 (Int.le_trans hB1 (by decide)) qr s1   x138 (show 0 ≤ x138.toInt by first | with_reducible assumption | omega) (show x138.toInt ≤ 120 by first | with_reducible assumption | omega) r140 (show 0 ≤ r140.toInt by first | with_reducible assumption | omega) (show r140.toInt ≤ 9 by first | with_reducible assumption | omega) v145_7 w85 H.size hT ) (cwV 4 hC.2.2.2.2 uV_RX12_439 rfl rfl rfl (by decide +kernel) ⟨Nat.le_of_ble_eq_true rfl, Nat.le_of_ble_eq_true rfl⟩) rfl hl.1 rfl (Nat.le_of_ble_eq_true rfl) dX12_leads_238 (fun w166 H locs hp165 hw => ?_)
              obtain ⟨hT, k167, hg168⟩ := hp165
              have hF := hF.tr k167 (by decide)
              have c169 := k167.gi kM_at12 rfl c88
              have c170 := k167.gi kM_at12 (by decide) c96
              have c171 := k167.gi kM_at12 rfl c97
              have c172 := k167.gi kM_at12 rfl c98
              have c173 := k167.gi kM_at12 rfl c136
              clear hg168
              exact J241 v145_7 v145_8 v145_9 r89 x138 f145_12__9_a1_toInt_217_toNat x95 H locs ls w166 (show 0 ≤ a1.toInt from r58) (show a1.toInt ≤ 3 from t59) (show 0 ≤ a2.toInt from r60) (show a2.toInt ≤ 1073741824 from t61) (show 0 ≤ a3.toInt from r62) (show a3.toInt ≤ 120 from t63) (show 0 ≤ a4.toInt from r64) (show a4.toInt ≤ 9 from t65) (show 0 ≤ a6.toInt from r66) (show a6.toInt ≤ 120 from t67) (show 0 ≤ v145_8.toInt from r68) (show v145_8.toInt ≤ 1073741944 from t69) (show 0 ≤ v145_9.toInt from r70) (show v145_9.toInt ≤ 1 from t71) (show 0 ≤ r89.toInt by first | with_reducible assumption | omega) (show r89.toInt ≤ 11 by first | with_reducible assumption | omega) (show 0 ≤ x138.toInt by first | with_reducible assumption | omega) (show x138.toInt ≤ 129 by first | with_reducible assumption | omega) (show 0 ≤ f145_12__9_a1_toInt_217_toNat.toInt from r72) (show f145_12__9_a1_toInt_217_toNat.toInt ≤ 9 from t73) (show 1 ≤ x95.toInt by first | with_reducible assumption | omega) (show x95.toInt ≤ 12 by first | with_reducible assumption | omega)  hw hT hF c169 c170 (lv_sub hl [2, 3, 4, 5, 6, 7, 8, 9, 10, 11, 1, 0] rfl)
          · refine lv_iload hx hb dX12_leads_211 (lv_at hl 7 rfl) ?_
            refine lv_if_eq (tgt := 235) hx hb dX12_leads_213 (by decide) (fun c => absurd c (by decide)) (fun _ => ?_)
            refine lv_iload_n hx hb dX12_leads_216 rfl (lv_at hl 4 rfl) ?_
            refine lv_iload hx hb dX12_leads_217 (lv_at hl 0 rfl) ?_
            refine lv_iadd hx hb dX12_leads_219 ?_
            refine lv_topi (fun x174 ex174 => ?_)
            have ex174 : x174.toInt = a2.toInt + x138.toInt := by rw [ex174]; exact wk_add (show (-2147483648) ≤ a2.toInt + x138.toInt by omega) (show a2.toInt + x138.toInt ≤ 2147483647 by omega)
            refine lv_bipush (v := 24) hx hb dX12_leads_220 (by decide) ?_
            refine lv_idiv hx hb dX12_leads_222 (by decide) ?_
            refine lv_topi (fun x175 ex175 => ?_)
            have ex175 : x175.toInt = x174.toInt / (24 : Int) := by rw [ex175]; exact wk_div (show 0 ≤ x174.toInt by first | with_reducible assumption | omega) (show 0 < (24 : Int) by decide)
            refine lv_iload hx hb dX12_leads_223 (lv_at hl 10 rfl) ?_
            refine lv_bipush (v := 24) hx hb dX12_leads_225 (by decide) ?_
            refine lv_idiv hx hb dX12_leads_227 (by decide) ?_
            refine lv_topi (fun x176 ex176 => ?_)
            have ex176 : x176.toInt = v145_8.toInt / (24 : Int) := by rw [ex176]; exact wk_div (show 0 ≤ v145_8.toInt from r68) (show 0 < (24 : Int) by decide)
            refine lv_icmp_ne (tgt := 235) hx hb dX12_leads_228 (by decide) (fun c177 => ?_) (fun c177 => ?_)
            · have c177 : ¬ x175.toInt = x176.toInt := wk_eqF c177
              refine lv_iconst (v := 0) hx hb dX12_leads_235 (by decide) ?_
              refine lv_iload hx hb dX12_leads_236 (lv_at hl 9 rfl) ?_
              refine tk_Vv hC hK hw hT hA hE hSR kM_at0 (by decide) rfl (k_X12_could_3 l adK adV dC dI cy ad B hB0 (Int.le_trans hB1 (by decide)) qr s1   x138 (show 0 ≤ x138.toInt by first | with_reducible assumption | omega) (show x138.toInt ≤ 120 by first | with_reducible assumption | omega) r140 (show 0 ≤ r140.toInt by first | with_reducible assumption | omega) (show r140.toInt ≤ 9 by first | with_reducible assumption | omega) v145_7 w85 H.size hT ) (cwV 4 hC.2.2.2.2 uV_RX12_439 rfl rfl rfl (by decide +kernel) ⟨Nat.le_of_ble_eq_true rfl, Nat.le_of_ble_eq_true rfl⟩) rfl hl.1 rfl (Nat.le_of_ble_eq_true rfl) dX12_leads_238 (fun w180 H locs hp179 hw => ?_)
              obtain ⟨hT, k181, hg182⟩ := hp179
              have hF := hF.tr k181 (by decide)
              have c183 := k181.gi kM_at12 rfl c88
              have c184 := k181.gi kM_at12 (by decide) c96
              have c185 := k181.gi kM_at12 rfl c97
              have c186 := k181.gi kM_at12 rfl c98
              have c187 := k181.gi kM_at12 rfl c136
              clear hg182
              exact J241 v145_7 v145_8 v145_9 r89 x138 f145_12__9_a1_toInt_217_toNat x95 H locs ls w180 (show 0 ≤ a1.toInt from r58) (show a1.toInt ≤ 3 from t59) (show 0 ≤ a2.toInt from r60) (show a2.toInt ≤ 1073741824 from t61) (show 0 ≤ a3.toInt from r62) (show a3.toInt ≤ 120 from t63) (show 0 ≤ a4.toInt from r64) (show a4.toInt ≤ 9 from t65) (show 0 ≤ a6.toInt from r66) (show a6.toInt ≤ 120 from t67) (show 0 ≤ v145_8.toInt from r68) (show v145_8.toInt ≤ 1073741944 from t69) (show 0 ≤ v145_9.toInt from r70) (show v145_9.toInt ≤ 1 from t71) (show 0 ≤ r89.toInt by first | with_reducible assumption | omega) (show r89.toInt ≤ 11 by first | with_reducible assumption | omega) (show 0 ≤ x138.toInt by first | with_reducible assumption | omega) (show x138.toInt ≤ 129 by first | with_reducible assumption | omega) (show 0 ≤ f145_12__9_a1_toInt_217_toNat.toInt from r72) (show f145_12__9_a1_toInt_217_toNat.toInt ≤ 9 from t73) (show 1 ≤ x95.toInt by first | with_reducible assumption | omega) (show x95.toInt ≤ 12 by first | with_reducible assumption | omega)  hw hT hF c183 c184 (lv_sub hl [2, 3, 4, 5, 6, 7, 8, 9, 10, 11, 1, 0] rfl)
            · have c177 : x175.toInt = x176.toInt := wk_eq.mp c177
              refine lv_iconst (v := 1) hx hb dX12_leads_231 (by decide) ?_
              refine lv_goto (tgt := 236) hx hb dX12_leads_232 (by decide) ?_
              refine lv_iload hx hb dX12_leads_236 (lv_at hl 9 rfl) ?_
              refine tk_Vv hC hK hw hT hA hE hSR kM_at0 (by decide) rfl (k_X12_could_6 l adK adV dC dI cy ad B hB0 (Int.le_trans hB1 (by decide)) qr s1   x138 (show 0 ≤ x138.toInt by first | with_reducible assumption | omega) (show x138.toInt ≤ 120 by first | with_reducible assumption | omega) r140 (show 0 ≤ r140.toInt by first | with_reducible assumption | omega) (show r140.toInt ≤ 9 by first | with_reducible assumption | omega) v145_7 w85 H.size hT ) (cwV 4 hC.2.2.2.2 uV_RX12_439 rfl rfl rfl (by decide +kernel) ⟨Nat.le_of_ble_eq_true rfl, Nat.le_of_ble_eq_true rfl⟩) rfl hl.1 rfl (Nat.le_of_ble_eq_true rfl) dX12_leads_238 (fun w190 H locs hp189 hw => ?_)
              obtain ⟨hT, k191, hg192⟩ := hp189
              have hF := hF.tr k191 (by decide)
              have c193 := k191.gi kM_at12 rfl c88
              have c194 := k191.gi kM_at12 (by decide) c96
              have c195 := k191.gi kM_at12 rfl c97
              have c196 := k191.gi kM_at12 rfl c98
              have c197 := k191.gi kM_at12 rfl c136
              clear hg192
              exact J241 v145_7 v145_8 v145_9 r89 x138 f145_12__9_a1_toInt_217_toNat x95 H locs ls w190 (show 0 ≤ a1.toInt from r58) (show a1.toInt ≤ 3 from t59) (show 0 ≤ a2.toInt from r60) (show a2.toInt ≤ 1073741824 from t61) (show 0 ≤ a3.toInt from r62) (show a3.toInt ≤ 120 from t63) (show 0 ≤ a4.toInt from r64) (show a4.toInt ≤ 9 from t65) (show 0 ≤ a6.toInt from r66) (show a6.toInt ≤ 120 from t67) (show 0 ≤ v145_8.toInt from r68) (show v145_8.toInt ≤ 1073741944 from t69) (show 0 ≤ v145_9.toInt from r70) (show v145_9.toInt ≤ 1 from t71) (show 0 ≤ r89.toInt by first | with_reducible assumption | omega) (show r89.toInt ≤ 11 by first | with_reducible assumption | omega) (show 0 ≤ x138.toInt by first | with_reducible assumption | omega) (show x138.toInt ≤ 129 by first | with_reducible assumption | omega) (show 0 ≤ f145_12__9_a1_toInt_217_toNat.toInt from r72) (show f145_12__9_a1_toInt_217_toNat.toInt ≤ 9 from t73) (show 1 ≤ x95.toInt by first | with_reducible assumption | omega) (show x95.toInt ≤ 12 by first | with_reducible assumption | omega)  hw hT hF c193 c194 (lv_sub hl [2, 3, 4, 5, 6, 7, 8, 9, 10, 11, 1, 0] rfl)
      · refine lv_if_ne (tgt := 182) hx hb dX12_leads_178 (by decide) (fun _ => ?_) (fun c => absurd c (by decide))
        refine lv_iload_n hx hb dX12_leads_182 rfl (lv_at hl 4 rfl) ?_
        refine lv_aload_n hx hb dX12_leads_183 rfl (lv_at hl 1 rfl) ?_
        refine lv_iload hx hb dX12_leads_184 (lv_at hl 0 rfl) ?_
        refine lv_iconst (v := 2) hx hb dX12_leads_186 (by decide) ?_
        refine tk_Vi hC hK hw hT hA hE hSR kM_at0 (by decide) rfl (k_X12_streetOf_6 l adK adV dC dI cy ad B hB0 (Int.le_trans hB1 (by decide)) qr s1   r89 (show 0 ≤ r89.toInt by first | with_reducible assumption | omega) (show r89.toInt ≤ 11 by first | with_reducible assumption | omega) w85 H.size hT ) (cwV 2 hC.2.2.2.2 uV_RX12_300 rfl rfl rfl (by decide +kernel) ⟨Nat.le_of_ble_eq_true rfl, Nat.le_of_ble_eq_true rfl⟩) rfl hl.1 rfl (Nat.le_of_ble_eq_true rfl) dX12_leads_187 (fun r198 w200 H locs hp199 hw => ?_)
        obtain ⟨rfl, hg205⟩ := hp199
        obtain ⟨g202, g203, c204⟩ := hg205
        refine lv_iadd hx hb dX12_leads_190 ?_
        refine lv_topi (fun x206 ex206 => ?_)
        have ex206 : x206.toInt = a3.toInt + r198.toInt := by rw [ex206]; exact wk_add (show (-2147483648) ≤ a3.toInt + r198.toInt by omega) (show a3.toInt + r198.toInt ≤ 2147483647 by omega)
        refine lv_istore (lv' := [(11, .int x206), (10, .int r89), (0, .ref (ad 0)), (1, .int a1), (2, .int a2), (3, .int a3), (4, .int a4), (5, .int 1), (6, .int a6), (7, .int v145_7), (8, .int v145_8), (9, .int v145_9)]) hx hb dX12_leads_191 hl (by decide) rfl (fun ls hl => ?_)
        refine lv_iload hx hb dX12_leads_193 (lv_at hl 0 rfl) ?_
        refine lv_iload hx hb dX12_leads_195 (lv_at hl 8 rfl) ?_
        refine lv_icmp_gt (tgt := 241) hx hb dX12_leads_197 (by decide) (fun c207 => ?_) (fun c207 => ?_)
        · have c207 : a6.toInt < x206.toInt := wk_lt.mp c207
          exact J241 v145_7 v145_8 v145_9 r89 x206 f145_12__9_a1_toInt_217_toNat x95 H locs ls w85 (show 0 ≤ a1.toInt from r58) (show a1.toInt ≤ 3 from t59) (show 0 ≤ a2.toInt from r60) (show a2.toInt ≤ 1073741824 from t61) (show 0 ≤ a3.toInt from r62) (show a3.toInt ≤ 120 from t63) (show 0 ≤ a4.toInt from r64) (show a4.toInt ≤ 9 from t65) (show 0 ≤ a6.toInt from r66) (show a6.toInt ≤ 120 from t67) (show 0 ≤ v145_8.toInt from r68) (show v145_8.toInt ≤ 1073741944 from t69) (show 0 ≤ v145_9.toInt from r70) (show v145_9.toInt ≤ 1 from t71) (show 0 ≤ r89.toInt by first | with_reducible assumption | omega) (show r89.toInt ≤ 11 by first | with_reducible assumption | omega) (show 0 ≤ x206.toInt by first | with_reducible assumption | omega) (show x206.toInt ≤ 129 by first | with_reducible assumption | omega) (show 0 ≤ f145_12__9_a1_toInt_217_toNat.toInt from r72) (show f145_12__9_a1_toInt_217_toNat.toInt ≤ 9 from t73) (show 1 ≤ x95.toInt by first | with_reducible assumption | omega) (show x95.toInt ≤ 12 by first | with_reducible assumption | omega)  hw hT hF c88 c96 (lv_sub hl [2, 3, 4, 5, 6, 7, 8, 9, 10, 11, 1, 0] rfl)
        · have c207 : x206.toInt ≤ a6.toInt := wk_ltF c207
          refine lv_aload_n hx hb dX12_leads_200 rfl (lv_at hl 2 rfl) ?_
          refine lv_iload hx hb dX12_leads_201 (lv_at hl 0 rfl) ?_
          refine lv_aload_n hx hb dX12_leads_203 rfl (lv_at hl 2 rfl) ?_
          refine lv_iload hx hb dX12_leads_204 (lv_at hl 1 rfl) ?_
          refine lv_iload hx hb dX12_leads_206 (lv_at hl 6 rfl) ?_
          refine tk_Vi hC hK hw hT hA hE hSR kM_at0 (by decide) rfl (k_X12_otherOf_1 l adK adV dC dI cy ad B hB0 (Int.le_trans hB1 (by decide)) qr s1   r89 (show 0 ≤ r89.toInt by first | with_reducible assumption | omega) (show r89.toInt ≤ 11 by first | with_reducible assumption | omega) a4 (show 0 ≤ a4.toInt from r64) (show a4.toInt ≤ 9 from t65) w85 H.size hT ) (cwV 2 hC.2.2.2.2 uV_RX12_348 rfl rfl rfl (by decide +kernel) ⟨Nat.le_of_ble_eq_true rfl, Nat.le_of_ble_eq_true rfl⟩) rfl hl.1 rfl (Nat.le_of_ble_eq_true rfl) dX12_leads_208 (fun r208 w210 H locs hp209 hw => ?_)
          obtain ⟨rfl, hg217⟩ := hp209
          rcases hg217 with ⟨g212, g213⟩ | ⟨g214, g215, c216⟩
          · refine lv_iload hx hb dX12_leads_211 (lv_at hl 7 rfl) ?_
            refine lv_if_eq (tgt := 235) hx hb dX12_leads_213 (by decide) (fun c => absurd c (by decide)) (fun _ => ?_)
            refine lv_iload_n hx hb dX12_leads_216 rfl (lv_at hl 4 rfl) ?_
            refine lv_iload hx hb dX12_leads_217 (lv_at hl 0 rfl) ?_
            refine lv_iadd hx hb dX12_leads_219 ?_
            refine lv_topi (fun x218 ex218 => ?_)
            have ex218 : x218.toInt = a2.toInt + x206.toInt := by rw [ex218]; exact wk_add (show (-2147483648) ≤ a2.toInt + x206.toInt by omega) (show a2.toInt + x206.toInt ≤ 2147483647 by omega)
            refine lv_bipush (v := 24) hx hb dX12_leads_220 (by decide) ?_
            refine lv_idiv hx hb dX12_leads_222 (by decide) ?_
            refine lv_topi (fun x219 ex219 => ?_)
            have ex219 : x219.toInt = x218.toInt / (24 : Int) := by rw [ex219]; exact wk_div (show 0 ≤ x218.toInt by first | with_reducible assumption | omega) (show 0 < (24 : Int) by decide)
            refine lv_iload hx hb dX12_leads_223 (lv_at hl 10 rfl) ?_
            refine lv_bipush (v := 24) hx hb dX12_leads_225 (by decide) ?_
            refine lv_idiv hx hb dX12_leads_227 (by decide) ?_
            refine lv_topi (fun x220 ex220 => ?_)
            have ex220 : x220.toInt = v145_8.toInt / (24 : Int) := by rw [ex220]; exact wk_div (show 0 ≤ v145_8.toInt from r68) (show 0 < (24 : Int) by decide)
            refine lv_icmp_ne (tgt := 235) hx hb dX12_leads_228 (by decide) (fun c221 => ?_) (fun c221 => ?_)
            · have c221 : ¬ x219.toInt = x220.toInt := wk_eqF c221
              refine lv_iconst (v := 0) hx hb dX12_leads_235 (by decide) ?_
              refine lv_iload hx hb dX12_leads_236 (lv_at hl 9 rfl) ?_
              refine tk_Vv hC hK hw hT hA hE hSR kM_at0 (by decide) rfl (k_X12_could_3 l adK adV dC dI cy ad B hB0 (Int.le_trans hB1 (by decide)) qr s1   x206 (show 0 ≤ x206.toInt by first | with_reducible assumption | omega) (show x206.toInt ≤ 120 by first | with_reducible assumption | omega) r208 (show 0 ≤ r208.toInt by first | with_reducible assumption | omega) (show r208.toInt ≤ 9 by first | with_reducible assumption | omega) v145_7 w85 H.size hT ) (cwV 4 hC.2.2.2.2 uV_RX12_439 rfl rfl rfl (by decide +kernel) ⟨Nat.le_of_ble_eq_true rfl, Nat.le_of_ble_eq_true rfl⟩) rfl hl.1 rfl (Nat.le_of_ble_eq_true rfl) dX12_leads_238 (fun w224 H locs hp223 hw => ?_)
              obtain ⟨hT, k225, hg226⟩ := hp223
              have hF := hF.tr k225 (by decide)
              have c227 := k225.gi kM_at12 rfl c88
              have c228 := k225.gi kM_at12 (by decide) c96
              have c229 := k225.gi kM_at12 rfl c97
              have c230 := k225.gi kM_at12 rfl c98
              have c231 := k225.gi kM_at12 rfl c204
              clear hg226
              exact J241 v145_7 v145_8 v145_9 r89 x206 f145_12__9_a1_toInt_217_toNat x95 H locs ls w224 (show 0 ≤ a1.toInt from r58) (show a1.toInt ≤ 3 from t59) (show 0 ≤ a2.toInt from r60) (show a2.toInt ≤ 1073741824 from t61) (show 0 ≤ a3.toInt from r62) (show a3.toInt ≤ 120 from t63) (show 0 ≤ a4.toInt from r64) (show a4.toInt ≤ 9 from t65) (show 0 ≤ a6.toInt from r66) (show a6.toInt ≤ 120 from t67) (show 0 ≤ v145_8.toInt from r68) (show v145_8.toInt ≤ 1073741944 from t69) (show 0 ≤ v145_9.toInt from r70) (show v145_9.toInt ≤ 1 from t71) (show 0 ≤ r89.toInt by first | with_reducible assumption | omega) (show r89.toInt ≤ 11 by first | with_reducible assumption | omega) (show 0 ≤ x206.toInt by first | with_reducible assumption | omega) (show x206.toInt ≤ 129 by first | with_reducible assumption | omega) (show 0 ≤ f145_12__9_a1_toInt_217_toNat.toInt from r72) (show f145_12__9_a1_toInt_217_toNat.toInt ≤ 9 from t73) (show 1 ≤ x95.toInt by first | with_reducible assumption | omega) (show x95.toInt ≤ 12 by first | with_reducible assumption | omega)  hw hT hF c227 c228 (lv_sub hl [2, 3, 4, 5, 6, 7, 8, 9, 10, 11, 1, 0] rfl)
            · have c221 : x219.toInt = x220.toInt := wk_eq.mp c221
              refine lv_iconst (v := 1) hx hb dX12_leads_231 (by decide) ?_
              refine lv_goto (tgt := 236) hx hb dX12_leads_232 (by decide) ?_
              refine lv_iload hx hb dX12_leads_236 (lv_at hl 9 rfl) ?_
              refine tk_Vv hC hK hw hT hA hE hSR kM_at0 (by decide) rfl (k_X12_could_6 l adK adV dC dI cy ad B hB0 (Int.le_trans hB1 (by decide)) qr s1   x206 (show 0 ≤ x206.toInt by first | with_reducible assumption | omega) (show x206.toInt ≤ 120 by first | with_reducible assumption | omega) r208 (show 0 ≤ r208.toInt by first | with_reducible assumption | omega) (show r208.toInt ≤ 9 by first | with_reducible assumption | omega) v145_7 w85 H.size hT ) (cwV 4 hC.2.2.2.2 uV_RX12_439 rfl rfl rfl (by decide +kernel) ⟨Nat.le_of_ble_eq_true rfl, Nat.le_of_ble_eq_true rfl⟩) rfl hl.1 rfl (Nat.le_of_ble_eq_true rfl) dX12_leads_238 (fun w234 H locs hp233 hw => ?_)
              obtain ⟨hT, k235, hg236⟩ := hp233
              have hF := hF.tr k235 (by decide)
              have c237 := k235.gi kM_at12 rfl c88
              have c238 := k235.gi kM_at12 (by decide) c96
              have c239 := k235.gi kM_at12 rfl c97
              have c240 := k235.gi kM_at12 rfl c98
              have c241 := k235.gi kM_at12 rfl c204
              clear hg236
              exact J241 v145_7 v145_8 v145_9 r89 x206 f145_12__9_a1_toInt_217_toNat x95 H locs ls w234 (show 0 ≤ a1.toInt from r58) (show a1.toInt ≤ 3 from t59) (show 0 ≤ a2.toInt from r60) (show a2.toInt ≤ 1073741824 from t61) (show 0 ≤ a3.toInt from r62) (show a3.toInt ≤ 120 from t63) (show 0 ≤ a4.toInt from r64) (show a4.toInt ≤ 9 from t65) (show 0 ≤ a6.toInt from r66) (show a6.toInt ≤ 120 from t67) (show 0 ≤ v145_8.toInt from r68) (show v145_8.toInt ≤ 1073741944 from t69) (show 0 ≤ v145_9.toInt from r70) (show v145_9.toInt ≤ 1 from t71) (show 0 ≤ r89.toInt by first | with_reducible assumption | omega) (show r89.toInt ≤ 11 by first | with_reducible assumption | omega) (show 0 ≤ x206.toInt by first | with_reducible assumption | omega) (show x206.toInt ≤ 129 by first | with_reducible assumption | omega) (show 0 ≤ f145_12__9_a1_toInt_217_toNat.toInt from r72) (show f145_12__9_a1_toInt_217_toNat.toInt ≤ 9 from t73) (show 1 ≤ x95.toInt by first | with_reducible assumption | omega) (show x95.toInt ≤ 12 by first | with_reducible assumption | omega)  hw hT hF c237 c238 (lv_sub hl [2, 3, 4, 5, 6, 7, 8, 9, 10, 11, 1, 0] rfl)
          · refine lv_iload hx hb dX12_leads_211 (lv_at hl 7 rfl) ?_
            refine lv_if_eq (tgt := 235) hx hb dX12_leads_213 (by decide) (fun c => absurd c (by decide)) (fun _ => ?_)
            refine lv_iload_n hx hb dX12_leads_216 rfl (lv_at hl 4 rfl) ?_
            refine lv_iload hx hb dX12_leads_217 (lv_at hl 0 rfl) ?_
            refine lv_iadd hx hb dX12_leads_219 ?_
            refine lv_topi (fun x242 ex242 => ?_)
            have ex242 : x242.toInt = a2.toInt + x206.toInt := by rw [ex242]; exact wk_add (show (-2147483648) ≤ a2.toInt + x206.toInt by omega) (show a2.toInt + x206.toInt ≤ 2147483647 by omega)
            refine lv_bipush (v := 24) hx hb dX12_leads_220 (by decide) ?_
            refine lv_idiv hx hb dX12_leads_222 (by decide) ?_
            refine lv_topi (fun x243 ex243 => ?_)
            have ex243 : x243.toInt = x242.toInt / (24 : Int) := by rw [ex243]; exact wk_div (show 0 ≤ x242.toInt by first | with_reducible assumption | omega) (show 0 < (24 : Int) by decide)
            refine lv_iload hx hb dX12_leads_223 (lv_at hl 10 rfl) ?_
            refine lv_bipush (v := 24) hx hb dX12_leads_225 (by decide) ?_
            refine lv_idiv hx hb dX12_leads_227 (by decide) ?_
            refine lv_topi (fun x244 ex244 => ?_)
            have ex244 : x244.toInt = v145_8.toInt / (24 : Int) := by rw [ex244]; exact wk_div (show 0 ≤ v145_8.toInt from r68) (show 0 < (24 : Int) by decide)
            refine lv_icmp_ne (tgt := 235) hx hb dX12_leads_228 (by decide) (fun c245 => ?_) (fun c245 => ?_)
            · have c245 : ¬ x243.toInt = x244.toInt := wk_eqF c245
              refine lv_iconst (v := 0) hx hb dX12_leads_235 (by decide) ?_
              refine lv_iload hx hb dX12_leads_236 (lv_at hl 9 rfl) ?_
              refine tk_Vv hC hK hw hT hA hE hSR kM_at0 (by decide) rfl (k_X12_could_3 l adK adV dC dI cy ad B hB0 (Int.le_trans hB1 (by decide)) qr s1   x206 (show 0 ≤ x206.toInt by first | with_reducible assumption | omega) (show x206.toInt ≤ 120 by first | with_reducible assumption | omega) r208 (show 0 ≤ r208.toInt by first | with_reducible assumption | omega) (show r208.toInt ≤ 9 by first | with_reducible assumption | omega) v145_7 w85 H.size hT ) (cwV 4 hC.2.2.2.2 uV_RX12_439 rfl rfl rfl (by decide +kernel) ⟨Nat.le_of_ble_eq_true rfl, Nat.le_of_ble_eq_true rfl⟩) rfl hl.1 rfl (Nat.le_of_ble_eq_true rfl) dX12_leads_238 (fun w248 H locs hp247 hw => ?_)
              obtain ⟨hT, k249, hg250⟩ := hp247
              have hF := hF.tr k249 (by decide)
              have c251 := k249.gi kM_at12 rfl c88
              have c252 := k249.gi kM_at12 (by decide) c96
              have c253 := k249.gi kM_at12 rfl c97
              have c254 := k249.gi kM_at12 rfl c98
              have c255 := k249.gi kM_at12 rfl c204
              clear hg250
              exact J241 v145_7 v145_8 v145_9 r89 x206 f145_12__9_a1_toInt_217_toNat x95 H locs ls w248 (show 0 ≤ a1.toInt from r58) (show a1.toInt ≤ 3 from t59) (show 0 ≤ a2.toInt from r60) (show a2.toInt ≤ 1073741824 from t61) (show 0 ≤ a3.toInt from r62) (show a3.toInt ≤ 120 from t63) (show 0 ≤ a4.toInt from r64) (show a4.toInt ≤ 9 from t65) (show 0 ≤ a6.toInt from r66) (show a6.toInt ≤ 120 from t67) (show 0 ≤ v145_8.toInt from r68) (show v145_8.toInt ≤ 1073741944 from t69) (show 0 ≤ v145_9.toInt from r70) (show v145_9.toInt ≤ 1 from t71) (show 0 ≤ r89.toInt by first | with_reducible assumption | omega) (show r89.toInt ≤ 11 by first | with_reducible assumption | omega) (show 0 ≤ x206.toInt by first | with_reducible assumption | omega) (show x206.toInt ≤ 129 by first | with_reducible assumption | omega) (show 0 ≤ f145_12__9_a1_toInt_217_toNat.toInt from r72) (show f145_12__9_a1_toInt_217_toNat.toInt ≤ 9 from t73) (show 1 ≤ x95.toInt by first | with_reducible assumption | omega) (show x95.toInt ≤ 12 by first | with_reducible assumption | omega)  hw hT hF c251 c252 (lv_sub hl [2, 3, 4, 5, 6, 7, 8, 9, 10, 11, 1, 0] rfl)
            · have c245 : x243.toInt = x244.toInt := wk_eq.mp c245
              refine lv_iconst (v := 1) hx hb dX12_leads_231 (by decide) ?_
              refine lv_goto (tgt := 236) hx hb dX12_leads_232 (by decide) ?_
              refine lv_iload hx hb dX12_leads_236 (lv_at hl 9 rfl) ?_
              refine tk_Vv hC hK hw hT hA hE hSR kM_at0 (by decide) rfl (k_X12_could_6 l adK adV dC dI cy ad B hB0 (Int.le_trans hB1 (by decide)) qr s1   x206 (show 0 ≤ x206.toInt by first | with_reducible assumption | omega) (show x206.toInt ≤ 120 by first | with_reducible assumption | omega) r208 (show 0 ≤ r208.toInt by first | with_reducible assumption | omega) (show r208.toInt ≤ 9 by first | with_reducible assumption | omega) v145_7 w85 H.size hT ) (cwV 4 hC.2.2.2.2 uV_RX12_439 rfl rfl rfl (by decide +kernel) ⟨Nat.le_of_ble_eq_true rfl, Nat.le_of_ble_eq_true rfl⟩) rfl hl.1 rfl (Nat.le_of_ble_eq_true rfl) dX12_leads_238 (fun w258 H locs hp257 hw => ?_)
              obtain ⟨hT, k259, hg260⟩ := hp257
              have hF := hF.tr k259 (by decide)
              have c261 := k259.gi kM_at12 rfl c88
              have c262 := k259.gi kM_at12 (by decide) c96
              have c263 := k259.gi kM_at12 rfl c97
              have c264 := k259.gi kM_at12 rfl c98
              have c265 := k259.gi kM_at12 rfl c204
              clear hg260
              exact J241 v145_7 v145_8 v145_9 r89 x206 f145_12__9_a1_toInt_217_toNat x95 H locs ls w258 (show 0 ≤ a1.toInt from r58) (show a1.toInt ≤ 3 from t59) (show 0 ≤ a2.toInt from r60) (show a2.toInt ≤ 1073741824 from t61) (show 0 ≤ a3.toInt from r62) (show a3.toInt ≤ 120 from t63) (show 0 ≤ a4.toInt from r64) (show a4.toInt ≤ 9 from t65) (show 0 ≤ a6.toInt from r66) (show a6.toInt ≤ 120 from t67) (show 0 ≤ v145_8.toInt from r68) (show v145_8.toInt ≤ 1073741944 from t69) (show 0 ≤ v145_9.toInt from r70) (show v145_9.toInt ≤ 1 from t71) (show 0 ≤ r89.toInt by first | with_reducible assumption | omega) (show r89.toInt ≤ 11 by first | with_reducible assumption | omega) (show 0 ≤ x206.toInt by first | with_reducible assumption | omega) (show x206.toInt ≤ 129 by first | with_reducible assumption | omega) (show 0 ≤ f145_12__9_a1_toInt_217_toNat.toInt from r72) (show f145_12__9_a1_toInt_217_toNat.toInt ≤ 9 from t73) (show 1 ≤ x95.toInt by first | with_reducible assumption | omega) (show x95.toInt ≤ 12 by first | with_reducible assumption | omega)  hw hT hF c261 c262 (lv_sub hl [2, 3, 4, 5, 6, 7, 8, 9, 10, 11, 1, 0] rfl)
      · refine lv_if_ne (tgt := 182) hx hb dX12_leads_178 (by decide) (fun _ => ?_) (fun c => absurd c (by decide))
        refine lv_iload_n hx hb dX12_leads_182 rfl (lv_at hl 4 rfl) ?_
        refine lv_aload_n hx hb dX12_leads_183 rfl (lv_at hl 1 rfl) ?_
        refine lv_iload hx hb dX12_leads_184 (lv_at hl 0 rfl) ?_
        refine lv_iconst (v := 2) hx hb dX12_leads_186 (by decide) ?_
        refine tk_Vi hC hK hw hT hA hE hSR kM_at0 (by decide) rfl (k_X12_streetOf_6 l adK adV dC dI cy ad B hB0 (Int.le_trans hB1 (by decide)) qr s1   r89 (show 0 ≤ r89.toInt by first | with_reducible assumption | omega) (show r89.toInt ≤ 11 by first | with_reducible assumption | omega) w85 H.size hT ) (cwV 2 hC.2.2.2.2 uV_RX12_300 rfl rfl rfl (by decide +kernel) ⟨Nat.le_of_ble_eq_true rfl, Nat.le_of_ble_eq_true rfl⟩) rfl hl.1 rfl (Nat.le_of_ble_eq_true rfl) dX12_leads_187 (fun r266 w268 H locs hp267 hw => ?_)
        obtain ⟨rfl, hg273⟩ := hp267
        obtain ⟨g270, g271, c272⟩ := hg273
        refine lv_iadd hx hb dX12_leads_190 ?_
        refine lv_topi (fun x274 ex274 => ?_)
        have ex274 : x274.toInt = a3.toInt + r266.toInt := by rw [ex274]; exact wk_add (show (-2147483648) ≤ a3.toInt + r266.toInt by omega) (show a3.toInt + r266.toInt ≤ 2147483647 by omega)
        refine lv_istore (lv' := [(11, .int x274), (10, .int r89), (0, .ref (ad 0)), (1, .int a1), (2, .int a2), (3, .int a3), (4, .int a4), (5, .int 1), (6, .int a6), (7, .int v145_7), (8, .int v145_8), (9, .int v145_9)]) hx hb dX12_leads_191 hl (by decide) rfl (fun ls hl => ?_)
        refine lv_iload hx hb dX12_leads_193 (lv_at hl 0 rfl) ?_
        refine lv_iload hx hb dX12_leads_195 (lv_at hl 8 rfl) ?_
        refine lv_icmp_gt (tgt := 241) hx hb dX12_leads_197 (by decide) (fun c275 => ?_) (fun c275 => ?_)
        · have c275 : a6.toInt < x274.toInt := wk_lt.mp c275
          exact J241 v145_7 v145_8 v145_9 r89 x274 f145_12__9_a1_toInt_217_toNat x95 H locs ls w85 (show 0 ≤ a1.toInt from r58) (show a1.toInt ≤ 3 from t59) (show 0 ≤ a2.toInt from r60) (show a2.toInt ≤ 1073741824 from t61) (show 0 ≤ a3.toInt from r62) (show a3.toInt ≤ 120 from t63) (show 0 ≤ a4.toInt from r64) (show a4.toInt ≤ 9 from t65) (show 0 ≤ a6.toInt from r66) (show a6.toInt ≤ 120 from t67) (show 0 ≤ v145_8.toInt from r68) (show v145_8.toInt ≤ 1073741944 from t69) (show 0 ≤ v145_9.toInt from r70) (show v145_9.toInt ≤ 1 from t71) (show 0 ≤ r89.toInt by first | with_reducible assumption | omega) (show r89.toInt ≤ 11 by first | with_reducible assumption | omega) (show 0 ≤ x274.toInt by first | with_reducible assumption | omega) (show x274.toInt ≤ 129 by first | with_reducible assumption | omega) (show 0 ≤ f145_12__9_a1_toInt_217_toNat.toInt from r72) (show f145_12__9_a1_toInt_217_toNat.toInt ≤ 9 from t73) (show 1 ≤ x95.toInt by first | with_reducible assumption | omega) (show x95.toInt ≤ 12 by first | with_reducible assumption | omega)  hw hT hF c88 c96 (lv_sub hl [2, 3, 4, 5, 6, 7, 8, 9, 10, 11, 1, 0] rfl)
        · have c275 : x274.toInt ≤ a6.toInt := wk_ltF c275
          refine lv_aload_n hx hb dX12_leads_200 rfl (lv_at hl 2 rfl) ?_
          refine lv_iload hx hb dX12_leads_201 (lv_at hl 0 rfl) ?_
          refine lv_aload_n hx hb dX12_leads_203 rfl (lv_at hl 2 rfl) ?_
          refine lv_iload hx hb dX12_leads_204 (lv_at hl 1 rfl) ?_
          refine lv_iload hx hb dX12_leads_206 (lv_at hl 6 rfl) ?_
          refine tk_Vi hC hK hw hT hA hE hSR kM_at0 (by decide) rfl (k_X12_otherOf_1 l adK adV dC dI cy ad B hB0 (Int.le_trans hB1 (by decide)) qr s1   r89 (show 0 ≤ r89.toInt by first | with_reducible assumption | omega) (show r89.toInt ≤ 11 by first | with_reducible assumption | omega) a4 (show 0 ≤ a4.toInt from r64) (show a4.toInt ≤ 9 from t65) w85 H.size hT ) (cwV 2 hC.2.2.2.2 uV_RX12_348 rfl rfl rfl (by decide +kernel) ⟨Nat.le_of_ble_eq_true rfl, Nat.le_of_ble_eq_true rfl⟩) rfl hl.1 rfl (Nat.le_of_ble_eq_true rfl) dX12_leads_208 (fun r276 w278 H locs hp277 hw => ?_)
          obtain ⟨rfl, hg285⟩ := hp277
          rcases hg285 with ⟨g280, g281⟩ | ⟨g282, g283, c284⟩
          · refine lv_iload hx hb dX12_leads_211 (lv_at hl 7 rfl) ?_
            refine lv_if_eq (tgt := 235) hx hb dX12_leads_213 (by decide) (fun c => absurd c (by decide)) (fun _ => ?_)
            refine lv_iload_n hx hb dX12_leads_216 rfl (lv_at hl 4 rfl) ?_
            refine lv_iload hx hb dX12_leads_217 (lv_at hl 0 rfl) ?_
            refine lv_iadd hx hb dX12_leads_219 ?_
            refine lv_topi (fun x286 ex286 => ?_)
            have ex286 : x286.toInt = a2.toInt + x274.toInt := by rw [ex286]; exact wk_add (show (-2147483648) ≤ a2.toInt + x274.toInt by omega) (show a2.toInt + x274.toInt ≤ 2147483647 by omega)
            refine lv_bipush (v := 24) hx hb dX12_leads_220 (by decide) ?_
            refine lv_idiv hx hb dX12_leads_222 (by decide) ?_
            refine lv_topi (fun x287 ex287 => ?_)
            have ex287 : x287.toInt = x286.toInt / (24 : Int) := by rw [ex287]; exact wk_div (show 0 ≤ x286.toInt by first | with_reducible assumption | omega) (show 0 < (24 : Int) by decide)
            refine lv_iload hx hb dX12_leads_223 (lv_at hl 10 rfl) ?_
            refine lv_bipush (v := 24) hx hb dX12_leads_225 (by decide) ?_
            refine lv_idiv hx hb dX12_leads_227 (by decide) ?_
            refine lv_topi (fun x288 ex288 => ?_)
            have ex288 : x288.toInt = v145_8.toInt / (24 : Int) := by rw [ex288]; exact wk_div (show 0 ≤ v145_8.toInt from r68) (show 0 < (24 : Int) by decide)
            refine lv_icmp_ne (tgt := 235) hx hb dX12_leads_228 (by decide) (fun c289 => ?_) (fun c289 => ?_)
            · have c289 : ¬ x287.toInt = x288.toInt := wk_eqF c289
              refine lv_iconst (v := 0) hx hb dX12_leads_235 (by decide) ?_
              refine lv_iload hx hb dX12_leads_236 (lv_at hl 9 rfl) ?_
              refine tk_Vv hC hK hw hT hA hE hSR kM_at0 (by decide) rfl (k_X12_could_3 l adK adV dC dI cy ad B hB0 (Int.le_trans hB1 (by decide)) qr s1   x274 (show 0 ≤ x274.toInt by first | with_reducible assumption | omega) (show x274.toInt ≤ 120 by first | with_reducible assumption | omega) r276 (show 0 ≤ r276.toInt by first | with_reducible assumption | omega) (show r276.toInt ≤ 9 by first | with_reducible assumption | omega) v145_7 w85 H.size hT ) (cwV 4 hC.2.2.2.2 uV_RX12_439 rfl rfl rfl (by decide +kernel) ⟨Nat.le_of_ble_eq_true rfl, Nat.le_of_ble_eq_true rfl⟩) rfl hl.1 rfl (Nat.le_of_ble_eq_true rfl) dX12_leads_238 (fun w292 H locs hp291 hw => ?_)
              obtain ⟨hT, k293, hg294⟩ := hp291
              have hF := hF.tr k293 (by decide)
              have c295 := k293.gi kM_at12 rfl c88
              have c296 := k293.gi kM_at12 (by decide) c96
              have c297 := k293.gi kM_at12 rfl c97
              have c298 := k293.gi kM_at12 rfl c98
              have c299 := k293.gi kM_at12 rfl c272
              clear hg294
              exact J241 v145_7 v145_8 v145_9 r89 x274 f145_12__9_a1_toInt_217_toNat x95 H locs ls w292 (show 0 ≤ a1.toInt from r58) (show a1.toInt ≤ 3 from t59) (show 0 ≤ a2.toInt from r60) (show a2.toInt ≤ 1073741824 from t61) (show 0 ≤ a3.toInt from r62) (show a3.toInt ≤ 120 from t63) (show 0 ≤ a4.toInt from r64) (show a4.toInt ≤ 9 from t65) (show 0 ≤ a6.toInt from r66) (show a6.toInt ≤ 120 from t67) (show 0 ≤ v145_8.toInt from r68) (show v145_8.toInt ≤ 1073741944 from t69) (show 0 ≤ v145_9.toInt from r70) (show v145_9.toInt ≤ 1 from t71) (show 0 ≤ r89.toInt by first | with_reducible assumption | omega) (show r89.toInt ≤ 11 by first | with_reducible assumption | omega) (show 0 ≤ x274.toInt by first | with_reducible assumption | omega) (show x274.toInt ≤ 129 by first | with_reducible assumption | omega) (show 0 ≤ f145_12__9_a1_toInt_217_toNat.toInt from r72) (show f145_12__9_a1_toInt_217_toNat.toInt ≤ 9 from t73) (show 1 ≤ x95.toInt by first | with_reducible assumption | omega) (show x95.toInt ≤ 12 by first | with_reducible assumption | omega)  hw hT hF c295 c296 (lv_sub hl [2, 3, 4, 5, 6, 7, 8, 9, 10, 11, 1, 0] rfl)
            · have c289 : x287.toInt = x288.toInt := wk_eq.mp c289
              refine lv_iconst (v := 1) hx hb dX12_leads_231 (by decide) ?_
              refine lv_goto (tgt := 236) hx hb dX12_leads_232 (by decide) ?_
              refine lv_iload hx hb dX12_leads_236 (lv_at hl 9 rfl) ?_
              refine tk_Vv hC hK hw hT hA hE hSR kM_at0 (by decide) rfl (k_X12_could_6 l adK adV dC dI cy ad B hB0 (Int.le_trans hB1 (by decide)) qr s1   x274 (show 0 ≤ x274.toInt by first | with_reducible assumption | omega) (show x274.toInt ≤ 120 by first | with_reducible assumption | omega) r276 (show 0 ≤ r276.toInt by first | with_reducible assumption | omega) (show r276.toInt ≤ 9 by first | with_reducible assumption | omega) v145_7 w85 H.size hT ) (cwV 4 hC.2.2.2.2 uV_RX12_439 rfl rfl rfl (by decide +kernel) ⟨Nat.le_of_ble_eq_true rfl, Nat.le_of_ble_eq_true rfl⟩) rfl hl.1 rfl (Nat.le_of_ble_eq_true rfl) dX12_leads_238 (fun w302 H locs hp301 hw => ?_)
              obtain ⟨hT, k303, hg304⟩ := hp301
              have hF := hF.tr k303 (by decide)
              have c305 := k303.gi kM_at12 rfl c88
              have c306 := k303.gi kM_at12 (by decide) c96
              have c307 := k303.gi kM_at12 rfl c97
              have c308 := k303.gi kM_at12 rfl c98
              have c309 := k303.gi kM_at12 rfl c272
              clear hg304
              exact J241 v145_7 v145_8 v145_9 r89 x274 f145_12__9_a1_toInt_217_toNat x95 H locs ls w302 (show 0 ≤ a1.toInt from r58) (show a1.toInt ≤ 3 from t59) (show 0 ≤ a2.toInt from r60) (show a2.toInt ≤ 1073741824 from t61) (show 0 ≤ a3.toInt from r62) (show a3.toInt ≤ 120 from t63) (show 0 ≤ a4.toInt from r64) (show a4.toInt ≤ 9 from t65) (show 0 ≤ a6.toInt from r66) (show a6.toInt ≤ 120 from t67) (show 0 ≤ v145_8.toInt from r68) (show v145_8.toInt ≤ 1073741944 from t69) (show 0 ≤ v145_9.toInt from r70) (show v145_9.toInt ≤ 1 from t71) (show 0 ≤ r89.toInt by first | with_reducible assumption | omega) (show r89.toInt ≤ 11 by first | with_reducible assumption | omega) (show 0 ≤ x274.toInt by first | with_reducible assumption | omega) (show x274.toInt ≤ 129 by first | with_reducible assumption | omega) (show 0 ≤ f145_12__9_a1_toInt_217_toNat.toInt from r72) (show f145_12__9_a1_toInt_217_toNat.toInt ≤ 9 from t73) (show 1 ≤ x95.toInt by first | with_reducible assumption | omega) (show x95.toInt ≤ 12 by first | with_reducible assumption | omega)  hw hT hF c305 c306 (lv_sub hl [2, 3, 4, 5, 6, 7, 8, 9, 10, 11, 1, 0] rfl)
          · refine lv_iload hx hb dX12_leads_211 (lv_at hl 7 rfl) ?_
            refine lv_if_eq (tgt := 235) hx hb dX12_leads_213 (by decide) (fun c => absurd c (by decide)) (fun _ => ?_)
            refine lv_iload_n hx hb dX12_leads_216 rfl (lv_at hl 4 rfl) ?_
            refine lv_iload hx hb dX12_leads_217 (lv_at hl 0 rfl) ?_
            refine lv_iadd hx hb dX12_leads_219 ?_
            refine lv_topi (fun x310 ex310 => ?_)
            have ex310 : x310.toInt = a2.toInt + x274.toInt := by rw [ex310]; exact wk_add (show (-2147483648) ≤ a2.toInt + x274.toInt by omega) (show a2.toInt + x274.toInt ≤ 2147483647 by omega)
            refine lv_bipush (v := 24) hx hb dX12_leads_220 (by decide) ?_
            refine lv_idiv hx hb dX12_leads_222 (by decide) ?_
            refine lv_topi (fun x311 ex311 => ?_)
            have ex311 : x311.toInt = x310.toInt / (24 : Int) := by rw [ex311]; exact wk_div (show 0 ≤ x310.toInt by first | with_reducible assumption | omega) (show 0 < (24 : Int) by decide)
            refine lv_iload hx hb dX12_leads_223 (lv_at hl 10 rfl) ?_
            refine lv_bipush (v := 24) hx hb dX12_leads_225 (by decide) ?_
            refine lv_idiv hx hb dX12_leads_227 (by decide) ?_
            refine lv_topi (fun x312 ex312 => ?_)
            have ex312 : x312.toInt = v145_8.toInt / (24 : Int) := by rw [ex312]; exact wk_div (show 0 ≤ v145_8.toInt from r68) (show 0 < (24 : Int) by decide)
            refine lv_icmp_ne (tgt := 235) hx hb dX12_leads_228 (by decide) (fun c313 => ?_) (fun c313 => ?_)
            · have c313 : ¬ x311.toInt = x312.toInt := wk_eqF c313
              refine lv_iconst (v := 0) hx hb dX12_leads_235 (by decide) ?_
              refine lv_iload hx hb dX12_leads_236 (lv_at hl 9 rfl) ?_
              refine tk_Vv hC hK hw hT hA hE hSR kM_at0 (by decide) rfl (k_X12_could_3 l adK adV dC dI cy ad B hB0 (Int.le_trans hB1 (by decide)) qr s1   x274 (show 0 ≤ x274.toInt by first | with_reducible assumption | omega) (show x274.toInt ≤ 120 by first | with_reducible assumption | omega) r276 (show 0 ≤ r276.toInt by first | with_reducible assumption | omega) (show r276.toInt ≤ 9 by first | with_reducible assumption | omega) v145_7 w85 H.size hT ) (cwV 4 hC.2.2.2.2 uV_RX12_439 rfl rfl rfl (by decide +kernel) ⟨Nat.le_of_ble_eq_true rfl, Nat.le_of_ble_eq_true rfl⟩) rfl hl.1 rfl (Nat.le_of_ble_eq_true rfl) dX12_leads_238 (fun w316 H locs hp315 hw => ?_)
              obtain ⟨hT, k317, hg318⟩ := hp315
              have hF := hF.tr k317 (by decide)
              have c319 := k317.gi kM_at12 rfl c88
              have c320 := k317.gi kM_at12 (by decide) c96
              have c321 := k317.gi kM_at12 rfl c97
              have c322 := k317.gi kM_at12 rfl c98
              have c323 := k317.gi kM_at12 rfl c272
              clear hg318
              exact J241 v145_7 v145_8 v145_9 r89 x274 f145_12__9_a1_toInt_217_toNat x95 H locs ls w316 (show 0 ≤ a1.toInt from r58) (show a1.toInt ≤ 3 from t59) (show 0 ≤ a2.toInt from r60) (show a2.toInt ≤ 1073741824 from t61) (show 0 ≤ a3.toInt from r62) (show a3.toInt ≤ 120 from t63) (show 0 ≤ a4.toInt from r64) (show a4.toInt ≤ 9 from t65) (show 0 ≤ a6.toInt from r66) (show a6.toInt ≤ 120 from t67) (show 0 ≤ v145_8.toInt from r68) (show v145_8.toInt ≤ 1073741944 from t69) (show 0 ≤ v145_9.toInt from r70) (show v145_9.toInt ≤ 1 from t71) (show 0 ≤ r89.toInt by first | with_reducible assumption | omega) (show r89.toInt ≤ 11 by first | with_reducible assumption | omega) (show 0 ≤ x274.toInt by first | with_reducible assumption | omega) (show x274.toInt ≤ 129 by first | with_reducible assumption | omega) (show 0 ≤ f145_12__9_a1_toInt_217_toNat.toInt from r72) (show f145_12__9_a1_toInt_217_toNat.toInt ≤ 9 from t73) (show 1 ≤ x95.toInt by first | with_reducible assumption | omega) (show x95.toInt ≤ 12 by first | with_reducible assumption | omega)  hw hT hF c319 c320 (lv_sub hl [2, 3, 4, 5, 6, 7, 8, 9, 10, 11, 1, 0] rfl)
            · have c313 : x311.toInt = x312.toInt := wk_eq.mp c313
              refine lv_iconst (v := 1) hx hb dX12_leads_231 (by decide) ?_
              refine lv_goto (tgt := 236) hx hb dX12_leads_232 (by decide) ?_
              refine lv_iload hx hb dX12_leads_236 (lv_at hl 9 rfl) ?_
              refine tk_Vv hC hK hw hT hA hE hSR kM_at0 (by decide) rfl (k_X12_could_6 l adK adV dC dI cy ad B hB0 (Int.le_trans hB1 (by decide)) qr s1   x274 (show 0 ≤ x274.toInt by first | with_reducible assumption | omega) (show x274.toInt ≤ 120 by first | with_reducible assumption | omega) r276 (show 0 ≤ r276.toInt by first | with_reducible assumption | omega) (show r276.toInt ≤ 9 by first | with_reducible assumption | omega) v145_7 w85 H.size hT ) (cwV 4 hC.2.2.2.2 uV_RX12_439 rfl rfl rfl (by decide +kernel) ⟨Nat.le_of_ble_eq_true rfl, Nat.le_of_ble_eq_true rfl⟩) rfl hl.1 rfl (Nat.le_of_ble_eq_true rfl) dX12_leads_238 (fun w326 H locs hp325 hw => ?_)
              obtain ⟨hT, k327, hg328⟩ := hp325
              have hF := hF.tr k327 (by decide)
              have c329 := k327.gi kM_at12 rfl c88
              have c330 := k327.gi kM_at12 (by decide) c96
              have c331 := k327.gi kM_at12 rfl c97
              have c332 := k327.gi kM_at12 rfl c98
              have c333 := k327.gi kM_at12 rfl c272
              clear hg328
              exact J241 v145_7 v145_8 v145_9 r89 x274 f145_12__9_a1_toInt_217_toNat x95 H locs ls w326 (show 0 ≤ a1.toInt from r58) (show a1.toInt ≤ 3 from t59) (show 0 ≤ a2.toInt from r60) (show a2.toInt ≤ 1073741824 from t61) (show 0 ≤ a3.toInt from r62) (show a3.toInt ≤ 120 from t63) (show 0 ≤ a4.toInt from r64) (show a4.toInt ≤ 9 from t65) (show 0 ≤ a6.toInt from r66) (show a6.toInt ≤ 120 from t67) (show 0 ≤ v145_8.toInt from r68) (show v145_8.toInt ≤ 1073741944 from t69) (show 0 ≤ v145_9.toInt from r70) (show v145_9.toInt ≤ 1 from t71) (show 0 ≤ r89.toInt by first | with_reducible assumption | omega) (show r89.toInt ≤ 11 by first | with_reducible assumption | omega) (show 0 ≤ x274.toInt by first | with_reducible assumption | omega) (show x274.toInt ≤ 129 by first | with_reducible assumption | omega) (show 0 ≤ f145_12__9_a1_toInt_217_toNat.toInt from r72) (show f145_12__9_a1_toInt_217_toNat.toInt ≤ 9 from t73) (show 1 ≤ x95.toInt by first | with_reducible assumption | omega) (show x95.toInt ≤ 12 by first | with_reducible assumption | omega)  hw hT hF c329 c330 (lv_sub hl [2, 3, 4, 5, 6, 7, 8, 9, 10, 11, 1, 0] rfl)
    · refine lv_istore (lv' := [(10, .int r89), (0, .ref (ad 0)), (1, .int a1), (2, .int a2), (3, .int a3), (4, .int a4), (5, .int 1), (6, .int a6), (7, .int v145_7), (8, .int v145_8), (9, .int v145_9)]) hx hb dX12_leads_161 hl (by decide) rfl (fun ls hl => ?_)
      refine lv_iload hx hb dX12_leads_163 (lv_at hl 0 rfl) ?_
      refine lv_if_lt (tgt := 181) hx hb dX12_leads_165 (by decide) (fun c => absurd c (fun h => absurd (show r89.toInt < (0 : Int) from wk_lt.mp h) (by omega))) (fun _ => ?_)
      refine lv_aload_n hx hb dX12_leads_168 rfl (lv_at hl 1 rfl) ?_
      refine lv_iload hx hb dX12_leads_169 (lv_at hl 0 rfl) ?_
      refine lv_iload hx hb dX12_leads_171 (lv_at hl 5 rfl) ?_
      refine lv_iload hx hb dX12_leads_173 (lv_at hl 9 rfl) ?_
      refine tk_Vi hC hK hw hT hA hE hSR kM_at0 (by decide) rfl (k_X12_isOpen_3 l adK adV dC dI cy ad B hB0 (Int.le_trans hB1 (by decide)) qr s1   r89 (show 0 ≤ r89.toInt by first | with_reducible assumption | omega) (show r89.toInt ≤ 11 by first | with_reducible assumption | omega) a4 (show 0 ≤ a4.toInt from r64) (show a4.toInt ≤ 9 from t65) v145_8 (show 0 ≤ v145_8.toInt from r68) (show v145_8.toInt ≤ 1073741944 from t69) w85 H.size hT ) (cwV 3 hC.2.2.2.2 uV_RX12_334 rfl rfl rfl (by decide +kernel) ⟨Nat.le_of_ble_eq_true rfl, Nat.le_of_ble_eq_true rfl⟩) rfl hl.1 rfl (Nat.le_of_ble_eq_true rfl) dX12_leads_175 (fun r334 w336 H locs hp335 hw => ?_)
      obtain ⟨rfl, hg353⟩ := hp335
      rcases hg353 with ⟨rfl, hq338⟩ | ⟨rfl, c339, c340, hq341⟩ | ⟨rfl, c342, hq343⟩ | ⟨rfl, c344, hq345⟩ | ⟨rfl, c346, c347, hq348⟩ | ⟨rfl, c349, hq350⟩ | ⟨rfl, c351, hq352⟩
      · refine lv_if_ne (tgt := 182) hx hb dX12_leads_178 (by decide) (fun c => absurd (by decide) c) (fun _ => ?_)
        exact J181 v145_7 v145_8 v145_9 r89 f145_12__9_a1_toInt_217_toNat H locs ls w85 (show 0 ≤ a1.toInt from r58) (show a1.toInt ≤ 3 from t59) (show 0 ≤ a2.toInt from r60) (show a2.toInt ≤ 1073741824 from t61) (show 0 ≤ a3.toInt from r62) (show a3.toInt ≤ 120 from t63) (show 0 ≤ a4.toInt from r64) (show a4.toInt ≤ 9 from t65) (show 0 ≤ a6.toInt from r66) (show a6.toInt ≤ 120 from t67) (show 0 ≤ v145_8.toInt from r68) (show v145_8.toInt ≤ 1073741944 from t69) (show 0 ≤ v145_9.toInt from r70) (show v145_9.toInt ≤ 1 from t71) (show (-1) ≤ r89.toInt by first | with_reducible assumption | omega) (show r89.toInt ≤ 11 by first | with_reducible assumption | omega) (show 0 ≤ f145_12__9_a1_toInt_217_toNat.toInt from r72) (show f145_12__9_a1_toInt_217_toNat.toInt ≤ 9 from t73)  hw hT hF c88 (lv_sub hl [1, 2, 3, 4, 5, 6, 7, 8, 9, 10, 0] rfl)
      · refine lv_if_ne (tgt := 182) hx hb dX12_leads_178 (by decide) (fun c => absurd (by decide) c) (fun _ => ?_)
        exact J181 v145_7 v145_8 v145_9 r89 f145_12__9_a1_toInt_217_toNat H locs ls w85 (show 0 ≤ a1.toInt from r58) (show a1.toInt ≤ 3 from t59) (show 0 ≤ a2.toInt from r60) (show a2.toInt ≤ 1073741824 from t61) (show 0 ≤ a3.toInt from r62) (show a3.toInt ≤ 120 from t63) (show 0 ≤ a4.toInt from r64) (show a4.toInt ≤ 9 from t65) (show 0 ≤ a6.toInt from r66) (show a6.toInt ≤ 120 from t67) (show 0 ≤ v145_8.toInt from r68) (show v145_8.toInt ≤ 1073741944 from t69) (show 0 ≤ v145_9.toInt from r70) (show v145_9.toInt ≤ 1 from t71) (show (-1) ≤ r89.toInt by first | with_reducible assumption | omega) (show r89.toInt ≤ 11 by first | with_reducible assumption | omega) (show 0 ≤ f145_12__9_a1_toInt_217_toNat.toInt from r72) (show f145_12__9_a1_toInt_217_toNat.toInt ≤ 9 from t73)  hw hT hF c88 (lv_sub hl [1, 2, 3, 4, 5, 6, 7, 8, 9, 10, 0] rfl)
      · refine lv_if_ne (tgt := 182) hx hb dX12_leads_178 (by decide) (fun c => absurd (by decide) c) (fun _ => ?_)
        exact J181 v145_7 v145_8 v145_9 r89 f145_12__9_a1_toInt_217_toNat H locs ls w85 (show 0 ≤ a1.toInt from r58) (show a1.toInt ≤ 3 from t59) (show 0 ≤ a2.toInt from r60) (show a2.toInt ≤ 1073741824 from t61) (show 0 ≤ a3.toInt from r62) (show a3.toInt ≤ 120 from t63) (show 0 ≤ a4.toInt from r64) (show a4.toInt ≤ 9 from t65) (show 0 ≤ a6.toInt from r66) (show a6.toInt ≤ 120 from t67) (show 0 ≤ v145_8.toInt from r68) (show v145_8.toInt ≤ 1073741944 from t69) (show 0 ≤ v145_9.toInt from r70) (show v145_9.toInt ≤ 1 from t71) (show (-1) ≤ r89.toInt by first | with_reducible assumption | omega) (show r89.toInt ≤ 11 by first | with_reducible assumption | omega) (show 0 ≤ f145_12__9_a1_toInt_217_toNat.toInt from r72) (show f145_12__9_a1_toInt_217_toNat.toInt ≤ 9 from t73)  hw hT hF c88 (lv_sub hl [1, 2, 3, 4, 5, 6, 7, 8, 9, 10, 0] rfl)
      · refine lv_if_ne (tgt := 182) hx hb dX12_leads_178 (by decide) (fun c => absurd (by decide) c) (fun _ => ?_)
        exact J181 v145_7 v145_8 v145_9 r89 f145_12__9_a1_toInt_217_toNat H locs ls w85 (show 0 ≤ a1.toInt from r58) (show a1.toInt ≤ 3 from t59) (show 0 ≤ a2.toInt from r60) (show a2.toInt ≤ 1073741824 from t61) (show 0 ≤ a3.toInt from r62) (show a3.toInt ≤ 120 from t63) (show 0 ≤ a4.toInt from r64) (show a4.toInt ≤ 9 from t65) (show 0 ≤ a6.toInt from r66) (show a6.toInt ≤ 120 from t67) (show 0 ≤ v145_8.toInt from r68) (show v145_8.toInt ≤ 1073741944 from t69) (show 0 ≤ v145_9.toInt from r70) (show v145_9.toInt ≤ 1 from t71) (show (-1) ≤ r89.toInt by first | with_reducible assumption | omega) (show r89.toInt ≤ 11 by first | with_reducible assumption | omega) (show 0 ≤ f145_12__9_a1_toInt_217_toNat.toInt from r72) (show f145_12__9_a1_toInt_217_toNat.toInt ≤ 9 from t73)  hw hT hF c88 (lv_sub hl [1, 2, 3, 4, 5, 6, 7, 8, 9, 10, 0] rfl)
      · refine lv_if_ne (tgt := 182) hx hb dX12_leads_178 (by decide) (fun _ => ?_) (fun c => absurd c (by decide))
        refine lv_iload_n hx hb dX12_leads_182 rfl (lv_at hl 4 rfl) ?_
        refine lv_aload_n hx hb dX12_leads_183 rfl (lv_at hl 1 rfl) ?_
        refine lv_iload hx hb dX12_leads_184 (lv_at hl 0 rfl) ?_
        refine lv_iconst (v := 2) hx hb dX12_leads_186 (by decide) ?_
        refine tk_Vi hC hK hw hT hA hE hSR kM_at0 (by decide) rfl (k_X12_streetOf_6 l adK adV dC dI cy ad B hB0 (Int.le_trans hB1 (by decide)) qr s1   r89 (show 0 ≤ r89.toInt by first | with_reducible assumption | omega) (show r89.toInt ≤ 11 by first | with_reducible assumption | omega) w85 H.size hT ) (cwV 2 hC.2.2.2.2 uV_RX12_300 rfl rfl rfl (by decide +kernel) ⟨Nat.le_of_ble_eq_true rfl, Nat.le_of_ble_eq_true rfl⟩) rfl hl.1 rfl (Nat.le_of_ble_eq_true rfl) dX12_leads_187 (fun r354 w356 H locs hp355 hw => ?_)
        obtain ⟨rfl, hg361⟩ := hp355
        obtain ⟨g358, g359, c360⟩ := hg361
        refine lv_iadd hx hb dX12_leads_190 ?_
        refine lv_topi (fun x362 ex362 => ?_)
        have ex362 : x362.toInt = a3.toInt + r354.toInt := by rw [ex362]; exact wk_add (show (-2147483648) ≤ a3.toInt + r354.toInt by omega) (show a3.toInt + r354.toInt ≤ 2147483647 by omega)
        refine lv_istore (lv' := [(11, .int x362), (10, .int r89), (0, .ref (ad 0)), (1, .int a1), (2, .int a2), (3, .int a3), (4, .int a4), (5, .int 1), (6, .int a6), (7, .int v145_7), (8, .int v145_8), (9, .int v145_9)]) hx hb dX12_leads_191 hl (by decide) rfl (fun ls hl => ?_)
        refine lv_iload hx hb dX12_leads_193 (lv_at hl 0 rfl) ?_
        refine lv_iload hx hb dX12_leads_195 (lv_at hl 8 rfl) ?_
        refine lv_icmp_gt (tgt := 241) hx hb dX12_leads_197 (by decide) (fun c363 => ?_) (fun c363 => ?_)
        · have c363 : a6.toInt < x362.toInt := wk_lt.mp c363
          exact J241 v145_7 v145_8 v145_9 r89 x362 f145_12__9_a1_toInt_217_toNat x101 H locs ls w85 (show 0 ≤ a1.toInt from r58) (show a1.toInt ≤ 3 from t59) (show 0 ≤ a2.toInt from r60) (show a2.toInt ≤ 1073741824 from t61) (show 0 ≤ a3.toInt from r62) (show a3.toInt ≤ 120 from t63) (show 0 ≤ a4.toInt from r64) (show a4.toInt ≤ 9 from t65) (show 0 ≤ a6.toInt from r66) (show a6.toInt ≤ 120 from t67) (show 0 ≤ v145_8.toInt from r68) (show v145_8.toInt ≤ 1073741944 from t69) (show 0 ≤ v145_9.toInt from r70) (show v145_9.toInt ≤ 1 from t71) (show 0 ≤ r89.toInt by first | with_reducible assumption | omega) (show r89.toInt ≤ 11 by first | with_reducible assumption | omega) (show 0 ≤ x362.toInt by first | with_reducible assumption | omega) (show x362.toInt ≤ 129 by first | with_reducible assumption | omega) (show 0 ≤ f145_12__9_a1_toInt_217_toNat.toInt from r72) (show f145_12__9_a1_toInt_217_toNat.toInt ≤ 9 from t73) (show 1 ≤ x101.toInt by first | with_reducible assumption | omega) (show x101.toInt ≤ 12 by first | with_reducible assumption | omega)  hw hT hF c88 c102 (lv_sub hl [2, 3, 4, 5, 6, 7, 8, 9, 10, 11, 1, 0] rfl)
        · have c363 : x362.toInt ≤ a6.toInt := wk_ltF c363
          refine lv_aload_n hx hb dX12_leads_200 rfl (lv_at hl 2 rfl) ?_
          refine lv_iload hx hb dX12_leads_201 (lv_at hl 0 rfl) ?_
          refine lv_aload_n hx hb dX12_leads_203 rfl (lv_at hl 2 rfl) ?_
          refine lv_iload hx hb dX12_leads_204 (lv_at hl 1 rfl) ?_
          refine lv_iload hx hb dX12_leads_206 (lv_at hl 6 rfl) ?_
          refine tk_Vi hC hK hw hT hA hE hSR kM_at0 (by decide) rfl (k_X12_otherOf_1 l adK adV dC dI cy ad B hB0 (Int.le_trans hB1 (by decide)) qr s1   r89 (show 0 ≤ r89.toInt by first | with_reducible assumption | omega) (show r89.toInt ≤ 11 by first | with_reducible assumption | omega) a4 (show 0 ≤ a4.toInt from r64) (show a4.toInt ≤ 9 from t65) w85 H.size hT ) (cwV 2 hC.2.2.2.2 uV_RX12_348 rfl rfl rfl (by decide +kernel) ⟨Nat.le_of_ble_eq_true rfl, Nat.le_of_ble_eq_true rfl⟩) rfl hl.1 rfl (Nat.le_of_ble_eq_true rfl) dX12_leads_208 (fun r364 w366 H locs hp365 hw => ?_)
          obtain ⟨rfl, hg373⟩ := hp365
          rcases hg373 with ⟨g368, g369⟩ | ⟨g370, g371, c372⟩
          · refine lv_iload hx hb dX12_leads_211 (lv_at hl 7 rfl) ?_
            refine lv_if_eq (tgt := 235) hx hb dX12_leads_213 (by decide) (fun c => absurd c (by decide)) (fun _ => ?_)
            refine lv_iload_n hx hb dX12_leads_216 rfl (lv_at hl 4 rfl) ?_
            refine lv_iload hx hb dX12_leads_217 (lv_at hl 0 rfl) ?_
            refine lv_iadd hx hb dX12_leads_219 ?_
            refine lv_topi (fun x374 ex374 => ?_)
            have ex374 : x374.toInt = a2.toInt + x362.toInt := by rw [ex374]; exact wk_add (show (-2147483648) ≤ a2.toInt + x362.toInt by omega) (show a2.toInt + x362.toInt ≤ 2147483647 by omega)
            refine lv_bipush (v := 24) hx hb dX12_leads_220 (by decide) ?_
            refine lv_idiv hx hb dX12_leads_222 (by decide) ?_
            refine lv_topi (fun x375 ex375 => ?_)
            have ex375 : x375.toInt = x374.toInt / (24 : Int) := by rw [ex375]; exact wk_div (show 0 ≤ x374.toInt by first | with_reducible assumption | omega) (show 0 < (24 : Int) by decide)
            refine lv_iload hx hb dX12_leads_223 (lv_at hl 10 rfl) ?_
            refine lv_bipush (v := 24) hx hb dX12_leads_225 (by decide) ?_
            refine lv_idiv hx hb dX12_leads_227 (by decide) ?_
            refine lv_topi (fun x376 ex376 => ?_)
            have ex376 : x376.toInt = v145_8.toInt / (24 : Int) := by rw [ex376]; exact wk_div (show 0 ≤ v145_8.toInt from r68) (show 0 < (24 : Int) by decide)
            refine lv_icmp_ne (tgt := 235) hx hb dX12_leads_228 (by decide) (fun c377 => ?_) (fun c377 => ?_)
            · have c377 : ¬ x375.toInt = x376.toInt := wk_eqF c377
              refine lv_iconst (v := 0) hx hb dX12_leads_235 (by decide) ?_
              refine lv_iload hx hb dX12_leads_236 (lv_at hl 9 rfl) ?_
              refine tk_Vv hC hK hw hT hA hE hSR kM_at0 (by decide) rfl (k_X12_could_3 l adK adV dC dI cy ad B hB0 (Int.le_trans hB1 (by decide)) qr s1   x362 (show 0 ≤ x362.toInt by first | with_reducible assumption | omega) (show x362.toInt ≤ 120 by first | with_reducible assumption | omega) r364 (show 0 ≤ r364.toInt by first | with_reducible assumption | omega) (show r364.toInt ≤ 9 by first | with_reducible assumption | omega) v145_7 w85 H.size hT ) (cwV 4 hC.2.2.2.2 uV_RX12_439 rfl rfl rfl (by decide +kernel) ⟨Nat.le_of_ble_eq_true rfl, Nat.le_of_ble_eq_true rfl⟩) rfl hl.1 rfl (Nat.le_of_ble_eq_true rfl) dX12_leads_238 (fun w380 H locs hp379 hw => ?_)
              obtain ⟨hT, k381, hg382⟩ := hp379
              have hF := hF.tr k381 (by decide)
              have c383 := k381.gi kM_at12 rfl c88
              have c384 := k381.gi kM_at12 (by decide) c102
              have c385 := k381.gi kM_at12 rfl c103
              have c386 := k381.gi kM_at12 rfl c347
              have c387 := k381.gi kM_at12 rfl c360
              clear hg382
              exact J241 v145_7 v145_8 v145_9 r89 x362 f145_12__9_a1_toInt_217_toNat x101 H locs ls w380 (show 0 ≤ a1.toInt from r58) (show a1.toInt ≤ 3 from t59) (show 0 ≤ a2.toInt from r60) (show a2.toInt ≤ 1073741824 from t61) (show 0 ≤ a3.toInt from r62) (show a3.toInt ≤ 120 from t63) (show 0 ≤ a4.toInt from r64) (show a4.toInt ≤ 9 from t65) (show 0 ≤ a6.toInt from r66) (show a6.toInt ≤ 120 from t67) (show 0 ≤ v145_8.toInt from r68) (show v145_8.toInt ≤ 1073741944 from t69) (show 0 ≤ v145_9.toInt from r70) (show v145_9.toInt ≤ 1 from t71) (show 0 ≤ r89.toInt by first | with_reducible assumption | omega) (show r89.toInt ≤ 11 by first | with_reducible assumption | omega) (show 0 ≤ x362.toInt by first | with_reducible assumption | omega) (show x362.toInt ≤ 129 by first | with_reducible assumption | omega) (show 0 ≤ f145_12__9_a1_toInt_217_toNat.toInt from r72) (show f145_12__9_a1_toInt_217_toNat.toInt ≤ 9 from t73) (show 1 ≤ x101.toInt by first | with_reducible assumption | omega) (show x101.toInt ≤ 12 by first | with_reducible assumption | omega)  hw hT hF c383 c384 (lv_sub hl [2, 3, 4, 5, 6, 7, 8, 9, 10, 11, 1, 0] rfl)
            · have c377 : x375.toInt = x376.toInt := wk_eq.mp c377
              refine lv_iconst (v := 1) hx hb dX12_leads_231 (by decide) ?_
              refine lv_goto (tgt := 236) hx hb dX12_leads_232 (by decide) ?_
              refine lv_iload hx hb dX12_leads_236 (lv_at hl 9 rfl) ?_
              refine tk_Vv hC hK hw hT hA hE hSR kM_at0 (by decide) rfl (k_X12_could_6 l adK adV dC dI cy ad B hB0 (Int.le_trans hB1 (by decide)) qr s1   x362 (show 0 ≤ x362.toInt by first | with_reducible assumption | omega) (show x362.toInt ≤ 120 by first | with_reducible assumption | omega) r364 (show 0 ≤ r364.toInt by first | with_reducible assumption | omega) (show r364.toInt ≤ 9 by first | with_reducible assumption | omega) v145_7 w85 H.size hT ) (cwV 4 hC.2.2.2.2 uV_RX12_439 rfl rfl rfl (by decide +kernel) ⟨Nat.le_of_ble_eq_true rfl, Nat.le_of_ble_eq_true rfl⟩) rfl hl.1 rfl (Nat.le_of_ble_eq_true rfl) dX12_leads_238 (fun w390 H locs hp389 hw => ?_)
              obtain ⟨hT, k391, hg392⟩ := hp389
              have hF := hF.tr k391 (by decide)
              have c393 := k391.gi kM_at12 rfl c88
              have c394 := k391.gi kM_at12 (by decide) c102
              have c395 := k391.gi kM_at12 rfl c103
              have c396 := k391.gi kM_at12 rfl c347
              have c397 := k391.gi kM_at12 rfl c360
              clear hg392
              exact J241 v145_7 v145_8 v145_9 r89 x362 f145_12__9_a1_toInt_217_toNat x101 H locs ls w390 (show 0 ≤ a1.toInt from r58) (show a1.toInt ≤ 3 from t59) (show 0 ≤ a2.toInt from r60) (show a2.toInt ≤ 1073741824 from t61) (show 0 ≤ a3.toInt from r62) (show a3.toInt ≤ 120 from t63) (show 0 ≤ a4.toInt from r64) (show a4.toInt ≤ 9 from t65) (show 0 ≤ a6.toInt from r66) (show a6.toInt ≤ 120 from t67) (show 0 ≤ v145_8.toInt from r68) (show v145_8.toInt ≤ 1073741944 from t69) (show 0 ≤ v145_9.toInt from r70) (show v145_9.toInt ≤ 1 from t71) (show 0 ≤ r89.toInt by first | with_reducible assumption | omega) (show r89.toInt ≤ 11 by first | with_reducible assumption | omega) (show 0 ≤ x362.toInt by first | with_reducible assumption | omega) (show x362.toInt ≤ 129 by first | with_reducible assumption | omega) (show 0 ≤ f145_12__9_a1_toInt_217_toNat.toInt from r72) (show f145_12__9_a1_toInt_217_toNat.toInt ≤ 9 from t73) (show 1 ≤ x101.toInt by first | with_reducible assumption | omega) (show x101.toInt ≤ 12 by first | with_reducible assumption | omega)  hw hT hF c393 c394 (lv_sub hl [2, 3, 4, 5, 6, 7, 8, 9, 10, 11, 1, 0] rfl)
          · refine lv_iload hx hb dX12_leads_211 (lv_at hl 7 rfl) ?_
            refine lv_if_eq (tgt := 235) hx hb dX12_leads_213 (by decide) (fun c => absurd c (by decide)) (fun _ => ?_)
            refine lv_iload_n hx hb dX12_leads_216 rfl (lv_at hl 4 rfl) ?_
            refine lv_iload hx hb dX12_leads_217 (lv_at hl 0 rfl) ?_
            refine lv_iadd hx hb dX12_leads_219 ?_
            refine lv_topi (fun x398 ex398 => ?_)
            have ex398 : x398.toInt = a2.toInt + x362.toInt := by rw [ex398]; exact wk_add (show (-2147483648) ≤ a2.toInt + x362.toInt by omega) (show a2.toInt + x362.toInt ≤ 2147483647 by omega)
            refine lv_bipush (v := 24) hx hb dX12_leads_220 (by decide) ?_
            refine lv_idiv hx hb dX12_leads_222 (by decide) ?_
            refine lv_topi (fun x399 ex399 => ?_)
            have ex399 : x399.toInt = x398.toInt / (24 : Int) := by rw [ex399]; exact wk_div (show 0 ≤ x398.toInt by first | with_reducible assumption | omega) (show 0 < (24 : Int) by decide)
            refine lv_iload hx hb dX12_leads_223 (lv_at hl 10 rfl) ?_
            refine lv_bipush (v := 24) hx hb dX12_leads_225 (by decide) ?_
            refine lv_idiv hx hb dX12_leads_227 (by decide) ?_
            refine lv_topi (fun x400 ex400 => ?_)
            have ex400 : x400.toInt = v145_8.toInt / (24 : Int) := by rw [ex400]; exact wk_div (show 0 ≤ v145_8.toInt from r68) (show 0 < (24 : Int) by decide)
            refine lv_icmp_ne (tgt := 235) hx hb dX12_leads_228 (by decide) (fun c401 => ?_) (fun c401 => ?_)
            · have c401 : ¬ x399.toInt = x400.toInt := wk_eqF c401
              refine lv_iconst (v := 0) hx hb dX12_leads_235 (by decide) ?_
              refine lv_iload hx hb dX12_leads_236 (lv_at hl 9 rfl) ?_
              refine tk_Vv hC hK hw hT hA hE hSR kM_at0 (by decide) rfl (k_X12_could_3 l adK adV dC dI cy ad B hB0 (Int.le_trans hB1 (by decide)) qr s1   x362 (show 0 ≤ x362.toInt by first | with_reducible assumption | omega) (show x362.toInt ≤ 120 by first | with_reducible assumption | omega) r364 (show 0 ≤ r364.toInt by first | with_reducible assumption | omega) (show r364.toInt ≤ 9 by first | with_reducible assumption | omega) v145_7 w85 H.size hT ) (cwV 4 hC.2.2.2.2 uV_RX12_439 rfl rfl rfl (by decide +kernel) ⟨Nat.le_of_ble_eq_true rfl, Nat.le_of_ble_eq_true rfl⟩) rfl hl.1 rfl (Nat.le_of_ble_eq_true rfl) dX12_leads_238 (fun w404 H locs hp403 hw => ?_)
              obtain ⟨hT, k405, hg406⟩ := hp403
              have hF := hF.tr k405 (by decide)
              have c407 := k405.gi kM_at12 rfl c88
              have c408 := k405.gi kM_at12 (by decide) c102
              have c409 := k405.gi kM_at12 rfl c103
              have c410 := k405.gi kM_at12 rfl c347
              have c411 := k405.gi kM_at12 rfl c360
              clear hg406
              exact J241 v145_7 v145_8 v145_9 r89 x362 f145_12__9_a1_toInt_217_toNat x101 H locs ls w404 (show 0 ≤ a1.toInt from r58) (show a1.toInt ≤ 3 from t59) (show 0 ≤ a2.toInt from r60) (show a2.toInt ≤ 1073741824 from t61) (show 0 ≤ a3.toInt from r62) (show a3.toInt ≤ 120 from t63) (show 0 ≤ a4.toInt from r64) (show a4.toInt ≤ 9 from t65) (show 0 ≤ a6.toInt from r66) (show a6.toInt ≤ 120 from t67) (show 0 ≤ v145_8.toInt from r68) (show v145_8.toInt ≤ 1073741944 from t69) (show 0 ≤ v145_9.toInt from r70) (show v145_9.toInt ≤ 1 from t71) (show 0 ≤ r89.toInt by first | with_reducible assumption | omega) (show r89.toInt ≤ 11 by first | with_reducible assumption | omega) (show 0 ≤ x362.toInt by first | with_reducible assumption | omega) (show x362.toInt ≤ 129 by first | with_reducible assumption | omega) (show 0 ≤ f145_12__9_a1_toInt_217_toNat.toInt from r72) (show f145_12__9_a1_toInt_217_toNat.toInt ≤ 9 from t73) (show 1 ≤ x101.toInt by first | with_reducible assumption | omega) (show x101.toInt ≤ 12 by first | with_reducible assumption | omega)  hw hT hF c407 c408 (lv_sub hl [2, 3, 4, 5, 6, 7, 8, 9, 10, 11, 1, 0] rfl)
            · have c401 : x399.toInt = x400.toInt := wk_eq.mp c401
              refine lv_iconst (v := 1) hx hb dX12_leads_231 (by decide) ?_
              refine lv_goto (tgt := 236) hx hb dX12_leads_232 (by decide) ?_
              refine lv_iload hx hb dX12_leads_236 (lv_at hl 9 rfl) ?_
              refine tk_Vv hC hK hw hT hA hE hSR kM_at0 (by decide) rfl (k_X12_could_6 l adK adV dC dI cy ad B hB0 (Int.le_trans hB1 (by decide)) qr s1   x362 (show 0 ≤ x362.toInt by first | with_reducible assumption | omega) (show x362.toInt ≤ 120 by first | with_reducible assumption | omega) r364 (show 0 ≤ r364.toInt by first | with_reducible assumption | omega) (show r364.toInt ≤ 9 by first | with_reducible assumption | omega) v145_7 w85 H.size hT ) (cwV 4 hC.2.2.2.2 uV_RX12_439 rfl rfl rfl (by decide +kernel) ⟨Nat.le_of_ble_eq_true rfl, Nat.le_of_ble_eq_true rfl⟩) rfl hl.1 rfl (Nat.le_of_ble_eq_true rfl) dX12_leads_238 (fun w414 H locs hp413 hw => ?_)
              obtain ⟨hT, k415, hg416⟩ := hp413
              have hF := hF.tr k415 (by decide)
              have c417 := k415.gi kM_at12 rfl c88
              have c418 := k415.gi kM_at12 (by decide) c102
              have c419 := k415.gi kM_at12 rfl c103
              have c420 := k415.gi kM_at12 rfl c347
              have c421 := k415.gi kM_at12 rfl c360
              clear hg416
              exact J241 v145_7 v145_8 v145_9 r89 x362 f145_12__9_a1_toInt_217_toNat x101 H locs ls w414 (show 0 ≤ a1.toInt from r58) (show a1.toInt ≤ 3 from t59) (show 0 ≤ a2.toInt from r60) (show a2.toInt ≤ 1073741824 from t61) (show 0 ≤ a3.toInt from r62) (show a3.toInt ≤ 120 from t63) (show 0 ≤ a4.toInt from r64) (show a4.toInt ≤ 9 from t65) (show 0 ≤ a6.toInt from r66) (show a6.toInt ≤ 120 from t67) (show 0 ≤ v145_8.toInt from r68) (show v145_8.toInt ≤ 1073741944 from t69) (show 0 ≤ v145_9.toInt from r70) (show v145_9.toInt ≤ 1 from t71) (show 0 ≤ r89.toInt by first | with_reducible assumption | omega) (show r89.toInt ≤ 11 by first | with_reducible assumption | omega) (show 0 ≤ x362.toInt by first | with_reducible assumption | omega) (show x362.toInt ≤ 129 by first | with_reducible assumption | omega) (show 0 ≤ f145_12__9_a1_toInt_217_toNat.toInt from r72) (show f145_12__9_a1_toInt_217_toNat.toInt ≤ 9 from t73) (show 1 ≤ x101.toInt by first | with_reducible assumption | omega) (show x101.toInt ≤ 12 by first | with_reducible assumption | omega)  hw hT hF c417 c418 (lv_sub hl [2, 3, 4, 5, 6, 7, 8, 9, 10, 11, 1, 0] rfl)
      · refine lv_if_ne (tgt := 182) hx hb dX12_leads_178 (by decide) (fun _ => ?_) (fun c => absurd c (by decide))
        refine lv_iload_n hx hb dX12_leads_182 rfl (lv_at hl 4 rfl) ?_
        refine lv_aload_n hx hb dX12_leads_183 rfl (lv_at hl 1 rfl) ?_
        refine lv_iload hx hb dX12_leads_184 (lv_at hl 0 rfl) ?_
        refine lv_iconst (v := 2) hx hb dX12_leads_186 (by decide) ?_
        refine tk_Vi hC hK hw hT hA hE hSR kM_at0 (by decide) rfl (k_X12_streetOf_6 l adK adV dC dI cy ad B hB0 (Int.le_trans hB1 (by decide)) qr s1   r89 (show 0 ≤ r89.toInt by first | with_reducible assumption | omega) (show r89.toInt ≤ 11 by first | with_reducible assumption | omega) w85 H.size hT ) (cwV 2 hC.2.2.2.2 uV_RX12_300 rfl rfl rfl (by decide +kernel) ⟨Nat.le_of_ble_eq_true rfl, Nat.le_of_ble_eq_true rfl⟩) rfl hl.1 rfl (Nat.le_of_ble_eq_true rfl) dX12_leads_187 (fun r422 w424 H locs hp423 hw => ?_)
        obtain ⟨rfl, hg429⟩ := hp423
        obtain ⟨g426, g427, c428⟩ := hg429
        refine lv_iadd hx hb dX12_leads_190 ?_
        refine lv_topi (fun x430 ex430 => ?_)
        have ex430 : x430.toInt = a3.toInt + r422.toInt := by rw [ex430]; exact wk_add (show (-2147483648) ≤ a3.toInt + r422.toInt by omega) (show a3.toInt + r422.toInt ≤ 2147483647 by omega)
        refine lv_istore (lv' := [(11, .int x430), (10, .int r89), (0, .ref (ad 0)), (1, .int a1), (2, .int a2), (3, .int a3), (4, .int a4), (5, .int 1), (6, .int a6), (7, .int v145_7), (8, .int v145_8), (9, .int v145_9)]) hx hb dX12_leads_191 hl (by decide) rfl (fun ls hl => ?_)
        refine lv_iload hx hb dX12_leads_193 (lv_at hl 0 rfl) ?_
        refine lv_iload hx hb dX12_leads_195 (lv_at hl 8 rfl) ?_
        refine lv_icmp_gt (tgt := 241) hx hb dX12_leads_197 (by decide) (fun c431 => ?_) (fun c431 => ?_)
        · have c431 : a6.toInt < x430.toInt := wk_lt.mp c431
          exact J241 v145_7 v145_8 v145_9 r89 x430 f145_12__9_a1_toInt_217_toNat x101 H locs ls w85 (show 0 ≤ a1.toInt from r58) (show a1.toInt ≤ 3 from t59) (show 0 ≤ a2.toInt from r60) (show a2.toInt ≤ 1073741824 from t61) (show 0 ≤ a3.toInt from r62) (show a3.toInt ≤ 120 from t63) (show 0 ≤ a4.toInt from r64) (show a4.toInt ≤ 9 from t65) (show 0 ≤ a6.toInt from r66) (show a6.toInt ≤ 120 from t67) (show 0 ≤ v145_8.toInt from r68) (show v145_8.toInt ≤ 1073741944 from t69) (show 0 ≤ v145_9.toInt from r70) (show v145_9.toInt ≤ 1 from t71) (show 0 ≤ r89.toInt by first | with_reducible assumption | omega) (show r89.toInt ≤ 11 by first | with_reducible assumption | omega) (show 0 ≤ x430.toInt by first | with_reducible assumption | omega) (show x430.toInt ≤ 129 by first | with_reducible assumption | omega) (show 0 ≤ f145_12__9_a1_toInt_217_toNat.toInt from r72) (show f145_12__9_a1_toInt_217_toNat.toInt ≤ 9 from t73) (show 1 ≤ x101.toInt by first | with_reducible assumption | omega) (show x101.toInt ≤ 12 by first | with_reducible assumption | omega)  hw hT hF c88 c102 (lv_sub hl [2, 3, 4, 5, 6, 7, 8, 9, 10, 11, 1, 0] rfl)
        · have c431 : x430.toInt ≤ a6.toInt := wk_ltF c431
          refine lv_aload_n hx hb dX12_leads_200 rfl (lv_at hl 2 rfl) ?_
          refine lv_iload hx hb dX12_leads_201 (lv_at hl 0 rfl) ?_
          refine lv_aload_n hx hb dX12_leads_203 rfl (lv_at hl 2 rfl) ?_
          refine lv_iload hx hb dX12_leads_204 (lv_at hl 1 rfl) ?_
          refine lv_iload hx hb dX12_leads_206 (lv_at hl 6 rfl) ?_
          refine tk_Vi hC hK hw hT hA hE hSR kM_at0 (by decide) rfl (k_X12_otherOf_1 l adK adV dC dI cy ad B hB0 (Int.le_trans hB1 (by decide)) qr s1   r89 (show 0 ≤ r89.toInt by first | with_reducible assumption | omega) (show r89.toInt ≤ 11 by first | with_reducible assumption | omega) a4 (show 0 ≤ a4.toInt from r64) (show a4.toInt ≤ 9 from t65) w85 H.size hT ) (cwV 2 hC.2.2.2.2 uV_RX12_348 rfl rfl rfl (by decide +kernel) ⟨Nat.le_of_ble_eq_true rfl, Nat.le_of_ble_eq_true rfl⟩) rfl hl.1 rfl (Nat.le_of_ble_eq_true rfl) dX12_leads_208 (fun r432 w434 H locs hp433 hw => ?_)
          obtain ⟨rfl, hg441⟩ := hp433
          rcases hg441 with ⟨g436, g437⟩ | ⟨g438, g439, c440⟩
          · refine lv_iload hx hb dX12_leads_211 (lv_at hl 7 rfl) ?_
            refine lv_if_eq (tgt := 235) hx hb dX12_leads_213 (by decide) (fun c => absurd c (by decide)) (fun _ => ?_)
            refine lv_iload_n hx hb dX12_leads_216 rfl (lv_at hl 4 rfl) ?_
            refine lv_iload hx hb dX12_leads_217 (lv_at hl 0 rfl) ?_
            refine lv_iadd hx hb dX12_leads_219 ?_
            refine lv_topi (fun x442 ex442 => ?_)
            have ex442 : x442.toInt = a2.toInt + x430.toInt := by rw [ex442]; exact wk_add (show (-2147483648) ≤ a2.toInt + x430.toInt by omega) (show a2.toInt + x430.toInt ≤ 2147483647 by omega)
            refine lv_bipush (v := 24) hx hb dX12_leads_220 (by decide) ?_
            refine lv_idiv hx hb dX12_leads_222 (by decide) ?_
            refine lv_topi (fun x443 ex443 => ?_)
            have ex443 : x443.toInt = x442.toInt / (24 : Int) := by rw [ex443]; exact wk_div (show 0 ≤ x442.toInt by first | with_reducible assumption | omega) (show 0 < (24 : Int) by decide)
            refine lv_iload hx hb dX12_leads_223 (lv_at hl 10 rfl) ?_
            refine lv_bipush (v := 24) hx hb dX12_leads_225 (by decide) ?_
            refine lv_idiv hx hb dX12_leads_227 (by decide) ?_
            refine lv_topi (fun x444 ex444 => ?_)
            have ex444 : x444.toInt = v145_8.toInt / (24 : Int) := by rw [ex444]; exact wk_div (show 0 ≤ v145_8.toInt from r68) (show 0 < (24 : Int) by decide)
            refine lv_icmp_ne (tgt := 235) hx hb dX12_leads_228 (by decide) (fun c445 => ?_) (fun c445 => ?_)
            · have c445 : ¬ x443.toInt = x444.toInt := wk_eqF c445
              refine lv_iconst (v := 0) hx hb dX12_leads_235 (by decide) ?_
              refine lv_iload hx hb dX12_leads_236 (lv_at hl 9 rfl) ?_
              refine tk_Vv hC hK hw hT hA hE hSR kM_at0 (by decide) rfl (k_X12_could_3 l adK adV dC dI cy ad B hB0 (Int.le_trans hB1 (by decide)) qr s1   x430 (show 0 ≤ x430.toInt by first | with_reducible assumption | omega) (show x430.toInt ≤ 120 by first | with_reducible assumption | omega) r432 (show 0 ≤ r432.toInt by first | with_reducible assumption | omega) (show r432.toInt ≤ 9 by first | with_reducible assumption | omega) v145_7 w85 H.size hT ) (cwV 4 hC.2.2.2.2 uV_RX12_439 rfl rfl rfl (by decide +kernel) ⟨Nat.le_of_ble_eq_true rfl, Nat.le_of_ble_eq_true rfl⟩) rfl hl.1 rfl (Nat.le_of_ble_eq_true rfl) dX12_leads_238 (fun w448 H locs hp447 hw => ?_)
              obtain ⟨hT, k449, hg450⟩ := hp447
              have hF := hF.tr k449 (by decide)
              have c451 := k449.gi kM_at12 rfl c88
              have c452 := k449.gi kM_at12 (by decide) c102
              have c453 := k449.gi kM_at12 rfl c103
              have c454 := k449.gi kM_at12 rfl c428
              clear hg450
              exact J241 v145_7 v145_8 v145_9 r89 x430 f145_12__9_a1_toInt_217_toNat x101 H locs ls w448 (show 0 ≤ a1.toInt from r58) (show a1.toInt ≤ 3 from t59) (show 0 ≤ a2.toInt from r60) (show a2.toInt ≤ 1073741824 from t61) (show 0 ≤ a3.toInt from r62) (show a3.toInt ≤ 120 from t63) (show 0 ≤ a4.toInt from r64) (show a4.toInt ≤ 9 from t65) (show 0 ≤ a6.toInt from r66) (show a6.toInt ≤ 120 from t67) (show 0 ≤ v145_8.toInt from r68) (show v145_8.toInt ≤ 1073741944 from t69) (show 0 ≤ v145_9.toInt from r70) (show v145_9.toInt ≤ 1 from t71) (show 0 ≤ r89.toInt by first | with_reducible assumption | omega) (show r89.toInt ≤ 11 by first | with_reducible assumption | omega) (show 0 ≤ x430.toInt by first | with_reducible assumption | omega) (show x430.toInt ≤ 129 by first | with_reducible assumption | omega) (show 0 ≤ f145_12__9_a1_toInt_217_toNat.toInt from r72) (show f145_12__9_a1_toInt_217_toNat.toInt ≤ 9 from t73) (show 1 ≤ x101.toInt by first | with_reducible assumption | omega) (show x101.toInt ≤ 12 by first | with_reducible assumption | omega)  hw hT hF c451 c452 (lv_sub hl [2, 3, 4, 5, 6, 7, 8, 9, 10, 11, 1, 0] rfl)
            · have c445 : x443.toInt = x444.toInt := wk_eq.mp c445
              refine lv_iconst (v := 1) hx hb dX12_leads_231 (by decide) ?_
              refine lv_goto (tgt := 236) hx hb dX12_leads_232 (by decide) ?_
              refine lv_iload hx hb dX12_leads_236 (lv_at hl 9 rfl) ?_
              refine tk_Vv hC hK hw hT hA hE hSR kM_at0 (by decide) rfl (k_X12_could_6 l adK adV dC dI cy ad B hB0 (Int.le_trans hB1 (by decide)) qr s1   x430 (show 0 ≤ x430.toInt by first | with_reducible assumption | omega) (show x430.toInt ≤ 120 by first | with_reducible assumption | omega) r432 (show 0 ≤ r432.toInt by first | with_reducible assumption | omega) (show r432.toInt ≤ 9 by first | with_reducible assumption | omega) v145_7 w85 H.size hT ) (cwV 4 hC.2.2.2.2 uV_RX12_439 rfl rfl rfl (by decide +kernel) ⟨Nat.le_of_ble_eq_true rfl, Nat.le_of_ble_eq_true rfl⟩) rfl hl.1 rfl (Nat.le_of_ble_eq_true rfl) dX12_leads_238 (fun w457 H locs hp456 hw => ?_)
              obtain ⟨hT, k458, hg459⟩ := hp456
              have hF := hF.tr k458 (by decide)
              have c460 := k458.gi kM_at12 rfl c88
              have c461 := k458.gi kM_at12 (by decide) c102
              have c462 := k458.gi kM_at12 rfl c103
              have c463 := k458.gi kM_at12 rfl c428
              clear hg459
              exact J241 v145_7 v145_8 v145_9 r89 x430 f145_12__9_a1_toInt_217_toNat x101 H locs ls w457 (show 0 ≤ a1.toInt from r58) (show a1.toInt ≤ 3 from t59) (show 0 ≤ a2.toInt from r60) (show a2.toInt ≤ 1073741824 from t61) (show 0 ≤ a3.toInt from r62) (show a3.toInt ≤ 120 from t63) (show 0 ≤ a4.toInt from r64) (show a4.toInt ≤ 9 from t65) (show 0 ≤ a6.toInt from r66) (show a6.toInt ≤ 120 from t67) (show 0 ≤ v145_8.toInt from r68) (show v145_8.toInt ≤ 1073741944 from t69) (show 0 ≤ v145_9.toInt from r70) (show v145_9.toInt ≤ 1 from t71) (show 0 ≤ r89.toInt by first | with_reducible assumption | omega) (show r89.toInt ≤ 11 by first | with_reducible assumption | omega) (show 0 ≤ x430.toInt by first | with_reducible assumption | omega) (show x430.toInt ≤ 129 by first | with_reducible assumption | omega) (show 0 ≤ f145_12__9_a1_toInt_217_toNat.toInt from r72) (show f145_12__9_a1_toInt_217_toNat.toInt ≤ 9 from t73) (show 1 ≤ x101.toInt by first | with_reducible assumption | omega) (show x101.toInt ≤ 12 by first | with_reducible assumption | omega)  hw hT hF c460 c461 (lv_sub hl [2, 3, 4, 5, 6, 7, 8, 9, 10, 11, 1, 0] rfl)
          · refine lv_iload hx hb dX12_leads_211 (lv_at hl 7 rfl) ?_
            refine lv_if_eq (tgt := 235) hx hb dX12_leads_213 (by decide) (fun c => absurd c (by decide)) (fun _ => ?_)
            refine lv_iload_n hx hb dX12_leads_216 rfl (lv_at hl 4 rfl) ?_
            refine lv_iload hx hb dX12_leads_217 (lv_at hl 0 rfl) ?_
            refine lv_iadd hx hb dX12_leads_219 ?_
            refine lv_topi (fun x464 ex464 => ?_)
            have ex464 : x464.toInt = a2.toInt + x430.toInt := by rw [ex464]; exact wk_add (show (-2147483648) ≤ a2.toInt + x430.toInt by omega) (show a2.toInt + x430.toInt ≤ 2147483647 by omega)
            refine lv_bipush (v := 24) hx hb dX12_leads_220 (by decide) ?_
            refine lv_idiv hx hb dX12_leads_222 (by decide) ?_
            refine lv_topi (fun x465 ex465 => ?_)
            have ex465 : x465.toInt = x464.toInt / (24 : Int) := by rw [ex465]; exact wk_div (show 0 ≤ x464.toInt by first | with_reducible assumption | omega) (show 0 < (24 : Int) by decide)
            refine lv_iload hx hb dX12_leads_223 (lv_at hl 10 rfl) ?_
            refine lv_bipush (v := 24) hx hb dX12_leads_225 (by decide) ?_
            refine lv_idiv hx hb dX12_leads_227 (by decide) ?_
            refine lv_topi (fun x466 ex466 => ?_)
            have ex466 : x466.toInt = v145_8.toInt / (24 : Int) := by rw [ex466]; exact wk_div (show 0 ≤ v145_8.toInt from r68) (show 0 < (24 : Int) by decide)
            refine lv_icmp_ne (tgt := 235) hx hb dX12_leads_228 (by decide) (fun c467 => ?_) (fun c467 => ?_)
            · have c467 : ¬ x465.toInt = x466.toInt := wk_eqF c467
              refine lv_iconst (v := 0) hx hb dX12_leads_235 (by decide) ?_
              refine lv_iload hx hb dX12_leads_236 (lv_at hl 9 rfl) ?_
              refine tk_Vv hC hK hw hT hA hE hSR kM_at0 (by decide) rfl (k_X12_could_3 l adK adV dC dI cy ad B hB0 (Int.le_trans hB1 (by decide)) qr s1   x430 (show 0 ≤ x430.toInt by first | with_reducible assumption | omega) (show x430.toInt ≤ 120 by first | with_reducible assumption | omega) r432 (show 0 ≤ r432.toInt by first | with_reducible assumption | omega) (show r432.toInt ≤ 9 by first | with_reducible assumption | omega) v145_7 w85 H.size hT ) (cwV 4 hC.2.2.2.2 uV_RX12_439 rfl rfl rfl (by decide +kernel) ⟨Nat.le_of_ble_eq_true rfl, Nat.le_of_ble_eq_true rfl⟩) rfl hl.1 rfl (Nat.le_of_ble_eq_true rfl) dX12_leads_238 (fun w470 H locs hp469 hw => ?_)
              obtain ⟨hT, k471, hg472⟩ := hp469
              have hF := hF.tr k471 (by decide)
              have c473 := k471.gi kM_at12 rfl c88
              have c474 := k471.gi kM_at12 (by decide) c102
              have c475 := k471.gi kM_at12 rfl c103
              have c476 := k471.gi kM_at12 rfl c428
              clear hg472
              exact J241 v145_7 v145_8 v145_9 r89 x430 f145_12__9_a1_toInt_217_toNat x101 H locs ls w470 (show 0 ≤ a1.toInt from r58) (show a1.toInt ≤ 3 from t59) (show 0 ≤ a2.toInt from r60) (show a2.toInt ≤ 1073741824 from t61) (show 0 ≤ a3.toInt from r62) (show a3.toInt ≤ 120 from t63) (show 0 ≤ a4.toInt from r64) (show a4.toInt ≤ 9 from t65) (show 0 ≤ a6.toInt from r66) (show a6.toInt ≤ 120 from t67) (show 0 ≤ v145_8.toInt from r68) (show v145_8.toInt ≤ 1073741944 from t69) (show 0 ≤ v145_9.toInt from r70) (show v145_9.toInt ≤ 1 from t71) (show 0 ≤ r89.toInt by first | with_reducible assumption | omega) (show r89.toInt ≤ 11 by first | with_reducible assumption | omega) (show 0 ≤ x430.toInt by first | with_reducible assumption | omega) (show x430.toInt ≤ 129 by first | with_reducible assumption | omega) (show 0 ≤ f145_12__9_a1_toInt_217_toNat.toInt from r72) (show f145_12__9_a1_toInt_217_toNat.toInt ≤ 9 from t73) (show 1 ≤ x101.toInt by first | with_reducible assumption | omega) (show x101.toInt ≤ 12 by first | with_reducible assumption | omega)  hw hT hF c473 c474 (lv_sub hl [2, 3, 4, 5, 6, 7, 8, 9, 10, 11, 1, 0] rfl)
            · have c467 : x465.toInt = x466.toInt := wk_eq.mp c467
              refine lv_iconst (v := 1) hx hb dX12_leads_231 (by decide) ?_
              refine lv_goto (tgt := 236) hx hb dX12_leads_232 (by decide) ?_
              refine lv_iload hx hb dX12_leads_236 (lv_at hl 9 rfl) ?_
              refine tk_Vv hC hK hw hT hA hE hSR kM_at0 (by decide) rfl (k_X12_could_6 l adK adV dC dI cy ad B hB0 (Int.le_trans hB1 (by decide)) qr s1   x430 (show 0 ≤ x430.toInt by first | with_reducible assumption | omega) (show x430.toInt ≤ 120 by first | with_reducible assumption | omega) r432 (show 0 ≤ r432.toInt by first | with_reducible assumption | omega) (show r432.toInt ≤ 9 by first | with_reducible assumption | omega) v145_7 w85 H.size hT ) (cwV 4 hC.2.2.2.2 uV_RX12_439 rfl rfl rfl (by decide +kernel) ⟨Nat.le_of_ble_eq_true rfl, Nat.le_of_ble_eq_true rfl⟩) rfl hl.1 rfl (Nat.le_of_ble_eq_true rfl) dX12_leads_238 (fun w479 H locs hp478 hw => ?_)
              obtain ⟨hT, k480, hg481⟩ := hp478
              have hF := hF.tr k480 (by decide)
              have c482 := k480.gi kM_at12 rfl c88
              have c483 := k480.gi kM_at12 (by decide) c102
              have c484 := k480.gi kM_at12 rfl c103
              have c485 := k480.gi kM_at12 rfl c428
              clear hg481
              exact J241 v145_7 v145_8 v145_9 r89 x430 f145_12__9_a1_toInt_217_toNat x101 H locs ls w479 (show 0 ≤ a1.toInt from r58) (show a1.toInt ≤ 3 from t59) (show 0 ≤ a2.toInt from r60) (show a2.toInt ≤ 1073741824 from t61) (show 0 ≤ a3.toInt from r62) (show a3.toInt ≤ 120 from t63) (show 0 ≤ a4.toInt from r64) (show a4.toInt ≤ 9 from t65) (show 0 ≤ a6.toInt from r66) (show a6.toInt ≤ 120 from t67) (show 0 ≤ v145_8.toInt from r68) (show v145_8.toInt ≤ 1073741944 from t69) (show 0 ≤ v145_9.toInt from r70) (show v145_9.toInt ≤ 1 from t71) (show 0 ≤ r89.toInt by first | with_reducible assumption | omega) (show r89.toInt ≤ 11 by first | with_reducible assumption | omega) (show 0 ≤ x430.toInt by first | with_reducible assumption | omega) (show x430.toInt ≤ 129 by first | with_reducible assumption | omega) (show 0 ≤ f145_12__9_a1_toInt_217_toNat.toInt from r72) (show f145_12__9_a1_toInt_217_toNat.toInt ≤ 9 from t73) (show 1 ≤ x101.toInt by first | with_reducible assumption | omega) (show x101.toInt ≤ 12 by first | with_reducible assumption | omega)  hw hT hF c482 c483 (lv_sub hl [2, 3, 4, 5, 6, 7, 8, 9, 10, 11, 1, 0] rfl)
      · refine lv_if_ne (tgt := 182) hx hb dX12_leads_178 (by decide) (fun _ => ?_) (fun c => absurd c (by decide))
        refine lv_iload_n hx hb dX12_leads_182 rfl (lv_at hl 4 rfl) ?_
        refine lv_aload_n hx hb dX12_leads_183 rfl (lv_at hl 1 rfl) ?_
        refine lv_iload hx hb dX12_leads_184 (lv_at hl 0 rfl) ?_
        refine lv_iconst (v := 2) hx hb dX12_leads_186 (by decide) ?_
        refine tk_Vi hC hK hw hT hA hE hSR kM_at0 (by decide) rfl (k_X12_streetOf_6 l adK adV dC dI cy ad B hB0 (Int.le_trans hB1 (by decide)) qr s1   r89 (show 0 ≤ r89.toInt by first | with_reducible assumption | omega) (show r89.toInt ≤ 11 by first | with_reducible assumption | omega) w85 H.size hT ) (cwV 2 hC.2.2.2.2 uV_RX12_300 rfl rfl rfl (by decide +kernel) ⟨Nat.le_of_ble_eq_true rfl, Nat.le_of_ble_eq_true rfl⟩) rfl hl.1 rfl (Nat.le_of_ble_eq_true rfl) dX12_leads_187 (fun r486 w488 H locs hp487 hw => ?_)
        obtain ⟨rfl, hg493⟩ := hp487
        obtain ⟨g490, g491, c492⟩ := hg493
        refine lv_iadd hx hb dX12_leads_190 ?_
        refine lv_topi (fun x494 ex494 => ?_)
        have ex494 : x494.toInt = a3.toInt + r486.toInt := by rw [ex494]; exact wk_add (show (-2147483648) ≤ a3.toInt + r486.toInt by omega) (show a3.toInt + r486.toInt ≤ 2147483647 by omega)
        refine lv_istore (lv' := [(11, .int x494), (10, .int r89), (0, .ref (ad 0)), (1, .int a1), (2, .int a2), (3, .int a3), (4, .int a4), (5, .int 1), (6, .int a6), (7, .int v145_7), (8, .int v145_8), (9, .int v145_9)]) hx hb dX12_leads_191 hl (by decide) rfl (fun ls hl => ?_)
        refine lv_iload hx hb dX12_leads_193 (lv_at hl 0 rfl) ?_
        refine lv_iload hx hb dX12_leads_195 (lv_at hl 8 rfl) ?_
        refine lv_icmp_gt (tgt := 241) hx hb dX12_leads_197 (by decide) (fun c495 => ?_) (fun c495 => ?_)
        · have c495 : a6.toInt < x494.toInt := wk_lt.mp c495
          exact J241 v145_7 v145_8 v145_9 r89 x494 f145_12__9_a1_toInt_217_toNat x101 H locs ls w85 (show 0 ≤ a1.toInt from r58) (show a1.toInt ≤ 3 from t59) (show 0 ≤ a2.toInt from r60) (show a2.toInt ≤ 1073741824 from t61) (show 0 ≤ a3.toInt from r62) (show a3.toInt ≤ 120 from t63) (show 0 ≤ a4.toInt from r64) (show a4.toInt ≤ 9 from t65) (show 0 ≤ a6.toInt from r66) (show a6.toInt ≤ 120 from t67) (show 0 ≤ v145_8.toInt from r68) (show v145_8.toInt ≤ 1073741944 from t69) (show 0 ≤ v145_9.toInt from r70) (show v145_9.toInt ≤ 1 from t71) (show 0 ≤ r89.toInt by first | with_reducible assumption | omega) (show r89.toInt ≤ 11 by first | with_reducible assumption | omega) (show 0 ≤ x494.toInt by first | with_reducible assumption | omega) (show x494.toInt ≤ 129 by first | with_reducible assumption | omega) (show 0 ≤ f145_12__9_a1_toInt_217_toNat.toInt from r72) (show f145_12__9_a1_toInt_217_toNat.toInt ≤ 9 from t73) (show 1 ≤ x101.toInt by first | with_reducible assumption | omega) (show x101.toInt ≤ 12 by first | with_reducible assumption | omega)  hw hT hF c88 c102 (lv_sub hl [2, 3, 4, 5, 6, 7, 8, 9, 10, 11, 1, 0] rfl)
        · have c495 : x494.toInt ≤ a6.toInt := wk_ltF c495
          refine lv_aload_n hx hb dX12_leads_200 rfl (lv_at hl 2 rfl) ?_
          refine lv_iload hx hb dX12_leads_201 (lv_at hl 0 rfl) ?_
          refine lv_aload_n hx hb dX12_leads_203 rfl (lv_at hl 2 rfl) ?_
          refine lv_iload hx hb dX12_leads_204 (lv_at hl 1 rfl) ?_
          refine lv_iload hx hb dX12_leads_206 (lv_at hl 6 rfl) ?_
          refine tk_Vi hC hK hw hT hA hE hSR kM_at0 (by decide) rfl (k_X12_otherOf_1 l adK adV dC dI cy ad B hB0 (Int.le_trans hB1 (by decide)) qr s1   r89 (show 0 ≤ r89.toInt by first | with_reducible assumption | omega) (show r89.toInt ≤ 11 by first | with_reducible assumption | omega) a4 (show 0 ≤ a4.toInt from r64) (show a4.toInt ≤ 9 from t65) w85 H.size hT ) (cwV 2 hC.2.2.2.2 uV_RX12_348 rfl rfl rfl (by decide +kernel) ⟨Nat.le_of_ble_eq_true rfl, Nat.le_of_ble_eq_true rfl⟩) rfl hl.1 rfl (Nat.le_of_ble_eq_true rfl) dX12_leads_208 (fun r496 w498 H locs hp497 hw => ?_)
          obtain ⟨rfl, hg505⟩ := hp497
          rcases hg505 with ⟨g500, g501⟩ | ⟨g502, g503, c504⟩
          · refine lv_iload hx hb dX12_leads_211 (lv_at hl 7 rfl) ?_
            refine lv_if_eq (tgt := 235) hx hb dX12_leads_213 (by decide) (fun c => absurd c (by decide)) (fun _ => ?_)
            refine lv_iload_n hx hb dX12_leads_216 rfl (lv_at hl 4 rfl) ?_
            refine lv_iload hx hb dX12_leads_217 (lv_at hl 0 rfl) ?_
            refine lv_iadd hx hb dX12_leads_219 ?_
            refine lv_topi (fun x506 ex506 => ?_)
            have ex506 : x506.toInt = a2.toInt + x494.toInt := by rw [ex506]; exact wk_add (show (-2147483648) ≤ a2.toInt + x494.toInt by omega) (show a2.toInt + x494.toInt ≤ 2147483647 by omega)
            refine lv_bipush (v := 24) hx hb dX12_leads_220 (by decide) ?_
            refine lv_idiv hx hb dX12_leads_222 (by decide) ?_
            refine lv_topi (fun x507 ex507 => ?_)
            have ex507 : x507.toInt = x506.toInt / (24 : Int) := by rw [ex507]; exact wk_div (show 0 ≤ x506.toInt by first | with_reducible assumption | omega) (show 0 < (24 : Int) by decide)
            refine lv_iload hx hb dX12_leads_223 (lv_at hl 10 rfl) ?_
            refine lv_bipush (v := 24) hx hb dX12_leads_225 (by decide) ?_
            refine lv_idiv hx hb dX12_leads_227 (by decide) ?_
            refine lv_topi (fun x508 ex508 => ?_)
            have ex508 : x508.toInt = v145_8.toInt / (24 : Int) := by rw [ex508]; exact wk_div (show 0 ≤ v145_8.toInt from r68) (show 0 < (24 : Int) by decide)
            refine lv_icmp_ne (tgt := 235) hx hb dX12_leads_228 (by decide) (fun c509 => ?_) (fun c509 => ?_)
            · have c509 : ¬ x507.toInt = x508.toInt := wk_eqF c509
              refine lv_iconst (v := 0) hx hb dX12_leads_235 (by decide) ?_
              refine lv_iload hx hb dX12_leads_236 (lv_at hl 9 rfl) ?_
              refine tk_Vv hC hK hw hT hA hE hSR kM_at0 (by decide) rfl (k_X12_could_3 l adK adV dC dI cy ad B hB0 (Int.le_trans hB1 (by decide)) qr s1   x494 (show 0 ≤ x494.toInt by first | with_reducible assumption | omega) (show x494.toInt ≤ 120 by first | with_reducible assumption | omega) r496 (show 0 ≤ r496.toInt by first | with_reducible assumption | omega) (show r496.toInt ≤ 9 by first | with_reducible assumption | omega) v145_7 w85 H.size hT ) (cwV 4 hC.2.2.2.2 uV_RX12_439 rfl rfl rfl (by decide +kernel) ⟨Nat.le_of_ble_eq_true rfl, Nat.le_of_ble_eq_true rfl⟩) rfl hl.1 rfl (Nat.le_of_ble_eq_true rfl) dX12_leads_238 (fun w512 H locs hp511 hw => ?_)
              obtain ⟨hT, k513, hg514⟩ := hp511
              have hF := hF.tr k513 (by decide)
              have c515 := k513.gi kM_at12 rfl c88
              have c516 := k513.gi kM_at12 (by decide) c102
              have c517 := k513.gi kM_at12 rfl c103
              have c518 := k513.gi kM_at12 rfl c351
              have c519 := k513.gi kM_at12 rfl c492
              clear hg514
              exact J241 v145_7 v145_8 v145_9 r89 x494 f145_12__9_a1_toInt_217_toNat x101 H locs ls w512 (show 0 ≤ a1.toInt from r58) (show a1.toInt ≤ 3 from t59) (show 0 ≤ a2.toInt from r60) (show a2.toInt ≤ 1073741824 from t61) (show 0 ≤ a3.toInt from r62) (show a3.toInt ≤ 120 from t63) (show 0 ≤ a4.toInt from r64) (show a4.toInt ≤ 9 from t65) (show 0 ≤ a6.toInt from r66) (show a6.toInt ≤ 120 from t67) (show 0 ≤ v145_8.toInt from r68) (show v145_8.toInt ≤ 1073741944 from t69) (show 0 ≤ v145_9.toInt from r70) (show v145_9.toInt ≤ 1 from t71) (show 0 ≤ r89.toInt by first | with_reducible assumption | omega) (show r89.toInt ≤ 11 by first | with_reducible assumption | omega) (show 0 ≤ x494.toInt by first | with_reducible assumption | omega) (show x494.toInt ≤ 129 by first | with_reducible assumption | omega) (show 0 ≤ f145_12__9_a1_toInt_217_toNat.toInt from r72) (show f145_12__9_a1_toInt_217_toNat.toInt ≤ 9 from t73) (show 1 ≤ x101.toInt by first | with_reducible assumption | omega) (show x101.toInt ≤ 12 by first | with_reducible assumption | omega)  hw hT hF c515 c516 (lv_sub hl [2, 3, 4, 5, 6, 7, 8, 9, 10, 11, 1, 0] rfl)
            · have c509 : x507.toInt = x508.toInt := wk_eq.mp c509
              refine lv_iconst (v := 1) hx hb dX12_leads_231 (by decide) ?_
              refine lv_goto (tgt := 236) hx hb dX12_leads_232 (by decide) ?_
              refine lv_iload hx hb dX12_leads_236 (lv_at hl 9 rfl) ?_
              refine tk_Vv hC hK hw hT hA hE hSR kM_at0 (by decide) rfl (k_X12_could_6 l adK adV dC dI cy ad B hB0 (Int.le_trans hB1 (by decide)) qr s1   x494 (show 0 ≤ x494.toInt by first | with_reducible assumption | omega) (show x494.toInt ≤ 120 by first | with_reducible assumption | omega) r496 (show 0 ≤ r496.toInt by first | with_reducible assumption | omega) (show r496.toInt ≤ 9 by first | with_reducible assumption | omega) v145_7 w85 H.size hT ) (cwV 4 hC.2.2.2.2 uV_RX12_439 rfl rfl rfl (by decide +kernel) ⟨Nat.le_of_ble_eq_true rfl, Nat.le_of_ble_eq_true rfl⟩) rfl hl.1 rfl (Nat.le_of_ble_eq_true rfl) dX12_leads_238 (fun w522 H locs hp521 hw => ?_)
              obtain ⟨hT, k523, hg524⟩ := hp521
              have hF := hF.tr k523 (by decide)
              have c525 := k523.gi kM_at12 rfl c88
              have c526 := k523.gi kM_at12 (by decide) c102
              have c527 := k523.gi kM_at12 rfl c103
              have c528 := k523.gi kM_at12 rfl c351
              have c529 := k523.gi kM_at12 rfl c492
              clear hg524
              exact J241 v145_7 v145_8 v145_9 r89 x494 f145_12__9_a1_toInt_217_toNat x101 H locs ls w522 (show 0 ≤ a1.toInt from r58) (show a1.toInt ≤ 3 from t59) (show 0 ≤ a2.toInt from r60) (show a2.toInt ≤ 1073741824 from t61) (show 0 ≤ a3.toInt from r62) (show a3.toInt ≤ 120 from t63) (show 0 ≤ a4.toInt from r64) (show a4.toInt ≤ 9 from t65) (show 0 ≤ a6.toInt from r66) (show a6.toInt ≤ 120 from t67) (show 0 ≤ v145_8.toInt from r68) (show v145_8.toInt ≤ 1073741944 from t69) (show 0 ≤ v145_9.toInt from r70) (show v145_9.toInt ≤ 1 from t71) (show 0 ≤ r89.toInt by first | with_reducible assumption | omega) (show r89.toInt ≤ 11 by first | with_reducible assumption | omega) (show 0 ≤ x494.toInt by first | with_reducible assumption | omega) (show x494.toInt ≤ 129 by first | with_reducible assumption | omega) (show 0 ≤ f145_12__9_a1_toInt_217_toNat.toInt from r72) (show f145_12__9_a1_toInt_217_toNat.toInt ≤ 9 from t73) (show 1 ≤ x101.toInt by first | with_reducible assumption | omega) (show x101.toInt ≤ 12 by first | with_reducible assumption | omega)  hw hT hF c525 c526 (lv_sub hl [2, 3, 4, 5, 6, 7, 8, 9, 10, 11, 1, 0] rfl)
          · refine lv_iload hx hb dX12_leads_211 (lv_at hl 7 rfl) ?_
            refine lv_if_eq (tgt := 235) hx hb dX12_leads_213 (by decide) (fun c => absurd c (by decide)) (fun _ => ?_)
            refine lv_iload_n hx hb dX12_leads_216 rfl (lv_at hl 4 rfl) ?_
            refine lv_iload hx hb dX12_leads_217 (lv_at hl 0 rfl) ?_
            refine lv_iadd hx hb dX12_leads_219 ?_
            refine lv_topi (fun x530 ex530 => ?_)
            have ex530 : x530.toInt = a2.toInt + x494.toInt := by rw [ex530]; exact wk_add (show (-2147483648) ≤ a2.toInt + x494.toInt by omega) (show a2.toInt + x494.toInt ≤ 2147483647 by omega)
            refine lv_bipush (v := 24) hx hb dX12_leads_220 (by decide) ?_
            refine lv_idiv hx hb dX12_leads_222 (by decide) ?_
            refine lv_topi (fun x531 ex531 => ?_)
            have ex531 : x531.toInt = x530.toInt / (24 : Int) := by rw [ex531]; exact wk_div (show 0 ≤ x530.toInt by first | with_reducible assumption | omega) (show 0 < (24 : Int) by decide)
            refine lv_iload hx hb dX12_leads_223 (lv_at hl 10 rfl) ?_
            refine lv_bipush (v := 24) hx hb dX12_leads_225 (by decide) ?_
            refine lv_idiv hx hb dX12_leads_227 (by decide) ?_
            refine lv_topi (fun x532 ex532 => ?_)
            have ex532 : x532.toInt = v145_8.toInt / (24 : Int) := by rw [ex532]; exact wk_div (show 0 ≤ v145_8.toInt from r68) (show 0 < (24 : Int) by decide)
            refine lv_icmp_ne (tgt := 235) hx hb dX12_leads_228 (by decide) (fun c533 => ?_) (fun c533 => ?_)
            · have c533 : ¬ x531.toInt = x532.toInt := wk_eqF c533
              refine lv_iconst (v := 0) hx hb dX12_leads_235 (by decide) ?_
              refine lv_iload hx hb dX12_leads_236 (lv_at hl 9 rfl) ?_
              refine tk_Vv hC hK hw hT hA hE hSR kM_at0 (by decide) rfl (k_X12_could_3 l adK adV dC dI cy ad B hB0 (Int.le_trans hB1 (by decide)) qr s1   x494 (show 0 ≤ x494.toInt by first | with_reducible assumption | omega) (show x494.toInt ≤ 120 by first | with_reducible assumption | omega) r496 (show 0 ≤ r496.toInt by first | with_reducible assumption | omega) (show r496.toInt ≤ 9 by first | with_reducible assumption | omega) v145_7 w85 H.size hT ) (cwV 4 hC.2.2.2.2 uV_RX12_439 rfl rfl rfl (by decide +kernel) ⟨Nat.le_of_ble_eq_true rfl, Nat.le_of_ble_eq_true rfl⟩) rfl hl.1 rfl (Nat.le_of_ble_eq_true rfl) dX12_leads_238 (fun w536 H locs hp535 hw => ?_)
              obtain ⟨hT, k537, hg538⟩ := hp535
              have hF := hF.tr k537 (by decide)
              have c539 := k537.gi kM_at12 rfl c88
              have c540 := k537.gi kM_at12 (by decide) c102
              have c541 := k537.gi kM_at12 rfl c103
              have c542 := k537.gi kM_at12 rfl c351
              have c543 := k537.gi kM_at12 rfl c492
              clear hg538
              exact J241 v145_7 v145_8 v145_9 r89 x494 f145_12__9_a1_toInt_217_toNat x101 H locs ls w536 (show 0 ≤ a1.toInt from r58) (show a1.toInt ≤ 3 from t59) (show 0 ≤ a2.toInt from r60) (show a2.toInt ≤ 1073741824 from t61) (show 0 ≤ a3.toInt from r62) (show a3.toInt ≤ 120 from t63) (show 0 ≤ a4.toInt from r64) (show a4.toInt ≤ 9 from t65) (show 0 ≤ a6.toInt from r66) (show a6.toInt ≤ 120 from t67) (show 0 ≤ v145_8.toInt from r68) (show v145_8.toInt ≤ 1073741944 from t69) (show 0 ≤ v145_9.toInt from r70) (show v145_9.toInt ≤ 1 from t71) (show 0 ≤ r89.toInt by first | with_reducible assumption | omega) (show r89.toInt ≤ 11 by first | with_reducible assumption | omega) (show 0 ≤ x494.toInt by first | with_reducible assumption | omega) (show x494.toInt ≤ 129 by first | with_reducible assumption | omega) (show 0 ≤ f145_12__9_a1_toInt_217_toNat.toInt from r72) (show f145_12__9_a1_toInt_217_toNat.toInt ≤ 9 from t73) (show 1 ≤ x101.toInt by first | with_reducible assumption | omega) (show x101.toInt ≤ 12 by first | with_reducible assumption | omega)  hw hT hF c539 c540 (lv_sub hl [2, 3, 4, 5, 6, 7, 8, 9, 10, 11, 1, 0] rfl)
            · have c533 : x531.toInt = x532.toInt := wk_eq.mp c533
              refine lv_iconst (v := 1) hx hb dX12_leads_231 (by decide) ?_
              refine lv_goto (tgt := 236) hx hb dX12_leads_232 (by decide) ?_
              refine lv_iload hx hb dX12_leads_236 (lv_at hl 9 rfl) ?_
              refine tk_Vv hC hK hw hT hA hE hSR kM_at0 (by decide) rfl (k_X12_could_6 l adK adV dC dI cy ad B hB0 (Int.le_trans hB1 (by decide)) qr s1   x494 (show 0 ≤ x494.toInt by first | with_reducible assumption | omega) (show x494.toInt ≤ 120 by first | with_reducible assumption | omega) r496 (show 0 ≤ r496.toInt by first | with_reducible assumption | omega) (show r496.toInt ≤ 9 by first | with_reducible assumption | omega) v145_7 w85 H.size hT ) (cwV 4 hC.2.2.2.2 uV_RX12_439 rfl rfl rfl (by decide +kernel) ⟨Nat.le_of_ble_eq_true rfl, Nat.le_of_ble_eq_true rfl⟩) rfl hl.1 rfl (Nat.le_of_ble_eq_true rfl) dX12_leads_238 (fun w546 H locs hp545 hw => ?_)
              obtain ⟨hT, k547, hg548⟩ := hp545
              have hF := hF.tr k547 (by decide)
              have c549 := k547.gi kM_at12 rfl c88
              have c550 := k547.gi kM_at12 (by decide) c102
              have c551 := k547.gi kM_at12 rfl c103
              have c552 := k547.gi kM_at12 rfl c351
              have c553 := k547.gi kM_at12 rfl c492
              clear hg548
              exact J241 v145_7 v145_8 v145_9 r89 x494 f145_12__9_a1_toInt_217_toNat x101 H locs ls w546 (show 0 ≤ a1.toInt from r58) (show a1.toInt ≤ 3 from t59) (show 0 ≤ a2.toInt from r60) (show a2.toInt ≤ 1073741824 from t61) (show 0 ≤ a3.toInt from r62) (show a3.toInt ≤ 120 from t63) (show 0 ≤ a4.toInt from r64) (show a4.toInt ≤ 9 from t65) (show 0 ≤ a6.toInt from r66) (show a6.toInt ≤ 120 from t67) (show 0 ≤ v145_8.toInt from r68) (show v145_8.toInt ≤ 1073741944 from t69) (show 0 ≤ v145_9.toInt from r70) (show v145_9.toInt ≤ 1 from t71) (show 0 ≤ r89.toInt by first | with_reducible assumption | omega) (show r89.toInt ≤ 11 by first | with_reducible assumption | omega) (show 0 ≤ x494.toInt by first | with_reducible assumption | omega) (show x494.toInt ≤ 129 by first | with_reducible assumption | omega) (show 0 ≤ f145_12__9_a1_toInt_217_toNat.toInt from r72) (show f145_12__9_a1_toInt_217_toNat.toInt ≤ 9 from t73) (show 1 ≤ x101.toInt by first | with_reducible assumption | omega) (show x101.toInt ≤ 12 by first | with_reducible assumption | omega)  hw hT hF c549 c550 (lv_sub hl [2, 3, 4, 5, 6, 7, 8, 9, 10, 11, 1, 0] rfl)
    · refine lv_istore (lv' := [(10, .int r89), (0, .ref (ad 0)), (1, .int a1), (2, .int a2), (3, .int a3), (4, .int a4), (5, .int 1), (6, .int a6), (7, .int v145_7), (8, .int v145_8), (9, .int v145_9)]) hx hb dX12_leads_161 hl (by decide) rfl (fun ls hl => ?_)
      refine lv_iload hx hb dX12_leads_163 (lv_at hl 0 rfl) ?_
      refine lv_if_lt (tgt := 181) hx hb dX12_leads_165 (by decide) (fun c => absurd c (fun h => absurd (show r89.toInt < (0 : Int) from wk_lt.mp h) (by omega))) (fun _ => ?_)
      refine lv_aload_n hx hb dX12_leads_168 rfl (lv_at hl 1 rfl) ?_
      refine lv_iload hx hb dX12_leads_169 (lv_at hl 0 rfl) ?_
      refine lv_iload hx hb dX12_leads_171 (lv_at hl 5 rfl) ?_
      refine lv_iload hx hb dX12_leads_173 (lv_at hl 9 rfl) ?_
      refine tk_Vi hC hK hw hT hA hE hSR kM_at0 (by decide) rfl (k_X12_isOpen_3 l adK adV dC dI cy ad B hB0 (Int.le_trans hB1 (by decide)) qr s1   r89 (show 0 ≤ r89.toInt by first | with_reducible assumption | omega) (show r89.toInt ≤ 11 by first | with_reducible assumption | omega) a4 (show 0 ≤ a4.toInt from r64) (show a4.toInt ≤ 9 from t65) v145_8 (show 0 ≤ v145_8.toInt from r68) (show v145_8.toInt ≤ 1073741944 from t69) w85 H.size hT ) (cwV 3 hC.2.2.2.2 uV_RX12_334 rfl rfl rfl (by decide +kernel) ⟨Nat.le_of_ble_eq_true rfl, Nat.le_of_ble_eq_true rfl⟩) rfl hl.1 rfl (Nat.le_of_ble_eq_true rfl) dX12_leads_175 (fun r554 w556 H locs hp555 hw => ?_)
      obtain ⟨rfl, hg573⟩ := hp555
      rcases hg573 with ⟨rfl, hq558⟩ | ⟨rfl, c559, c560, hq561⟩ | ⟨rfl, c562, hq563⟩ | ⟨rfl, c564, hq565⟩ | ⟨rfl, c566, c567, hq568⟩ | ⟨rfl, c569, hq570⟩ | ⟨rfl, c571, hq572⟩
      · refine lv_if_ne (tgt := 182) hx hb dX12_leads_178 (by decide) (fun c => absurd (by decide) c) (fun _ => ?_)
        exact J181 v145_7 v145_8 v145_9 r89 f145_12__9_a1_toInt_217_toNat H locs ls w85 (show 0 ≤ a1.toInt from r58) (show a1.toInt ≤ 3 from t59) (show 0 ≤ a2.toInt from r60) (show a2.toInt ≤ 1073741824 from t61) (show 0 ≤ a3.toInt from r62) (show a3.toInt ≤ 120 from t63) (show 0 ≤ a4.toInt from r64) (show a4.toInt ≤ 9 from t65) (show 0 ≤ a6.toInt from r66) (show a6.toInt ≤ 120 from t67) (show 0 ≤ v145_8.toInt from r68) (show v145_8.toInt ≤ 1073741944 from t69) (show 0 ≤ v145_9.toInt from r70) (show v145_9.toInt ≤ 1 from t71) (show (-1) ≤ r89.toInt by first | with_reducible assumption | omega) (show r89.toInt ≤ 11 by first | with_reducible assumption | omega) (show 0 ≤ f145_12__9_a1_toInt_217_toNat.toInt from r72) (show f145_12__9_a1_toInt_217_toNat.toInt ≤ 9 from t73)  hw hT hF c88 (lv_sub hl [1, 2, 3, 4, 5, 6, 7, 8, 9, 10, 0] rfl)
      · refine lv_if_ne (tgt := 182) hx hb dX12_leads_178 (by decide) (fun c => absurd (by decide) c) (fun _ => ?_)
        exact J181 v145_7 v145_8 v145_9 r89 f145_12__9_a1_toInt_217_toNat H locs ls w85 (show 0 ≤ a1.toInt from r58) (show a1.toInt ≤ 3 from t59) (show 0 ≤ a2.toInt from r60) (show a2.toInt ≤ 1073741824 from t61) (show 0 ≤ a3.toInt from r62) (show a3.toInt ≤ 120 from t63) (show 0 ≤ a4.toInt from r64) (show a4.toInt ≤ 9 from t65) (show 0 ≤ a6.toInt from r66) (show a6.toInt ≤ 120 from t67) (show 0 ≤ v145_8.toInt from r68) (show v145_8.toInt ≤ 1073741944 from t69) (show 0 ≤ v145_9.toInt from r70) (show v145_9.toInt ≤ 1 from t71) (show (-1) ≤ r89.toInt by first | with_reducible assumption | omega) (show r89.toInt ≤ 11 by first | with_reducible assumption | omega) (show 0 ≤ f145_12__9_a1_toInt_217_toNat.toInt from r72) (show f145_12__9_a1_toInt_217_toNat.toInt ≤ 9 from t73)  hw hT hF c88 (lv_sub hl [1, 2, 3, 4, 5, 6, 7, 8, 9, 10, 0] rfl)
      · refine lv_if_ne (tgt := 182) hx hb dX12_leads_178 (by decide) (fun c => absurd (by decide) c) (fun _ => ?_)
        exact J181 v145_7 v145_8 v145_9 r89 f145_12__9_a1_toInt_217_toNat H locs ls w85 (show 0 ≤ a1.toInt from r58) (show a1.toInt ≤ 3 from t59) (show 0 ≤ a2.toInt from r60) (show a2.toInt ≤ 1073741824 from t61) (show 0 ≤ a3.toInt from r62) (show a3.toInt ≤ 120 from t63) (show 0 ≤ a4.toInt from r64) (show a4.toInt ≤ 9 from t65) (show 0 ≤ a6.toInt from r66) (show a6.toInt ≤ 120 from t67) (show 0 ≤ v145_8.toInt from r68) (show v145_8.toInt ≤ 1073741944 from t69) (show 0 ≤ v145_9.toInt from r70) (show v145_9.toInt ≤ 1 from t71) (show (-1) ≤ r89.toInt by first | with_reducible assumption | omega) (show r89.toInt ≤ 11 by first | with_reducible assumption | omega) (show 0 ≤ f145_12__9_a1_toInt_217_toNat.toInt from r72) (show f145_12__9_a1_toInt_217_toNat.toInt ≤ 9 from t73)  hw hT hF c88 (lv_sub hl [1, 2, 3, 4, 5, 6, 7, 8, 9, 10, 0] rfl)
      · refine lv_if_ne (tgt := 182) hx hb dX12_leads_178 (by decide) (fun c => absurd (by decide) c) (fun _ => ?_)
        exact J181 v145_7 v145_8 v145_9 r89 f145_12__9_a1_toInt_217_toNat H locs ls w85 (show 0 ≤ a1.toInt from r58) (show a1.toInt ≤ 3 from t59) (show 0 ≤ a2.toInt from r60) (show a2.toInt ≤ 1073741824 from t61) (show 0 ≤ a3.toInt from r62) (show a3.toInt ≤ 120 from t63) (show 0 ≤ a4.toInt from r64) (show a4.toInt ≤ 9 from t65) (show 0 ≤ a6.toInt from r66) (show a6.toInt ≤ 120 from t67) (show 0 ≤ v145_8.toInt from r68) (show v145_8.toInt ≤ 1073741944 from t69) (show 0 ≤ v145_9.toInt from r70) (show v145_9.toInt ≤ 1 from t71) (show (-1) ≤ r89.toInt by first | with_reducible assumption | omega) (show r89.toInt ≤ 11 by first | with_reducible assumption | omega) (show 0 ≤ f145_12__9_a1_toInt_217_toNat.toInt from r72) (show f145_12__9_a1_toInt_217_toNat.toInt ≤ 9 from t73)  hw hT hF c88 (lv_sub hl [1, 2, 3, 4, 5, 6, 7, 8, 9, 10, 0] rfl)
      · refine lv_if_ne (tgt := 182) hx hb dX12_leads_178 (by decide) (fun _ => ?_) (fun c => absurd c (by decide))
        refine lv_iload_n hx hb dX12_leads_182 rfl (lv_at hl 4 rfl) ?_
        refine lv_aload_n hx hb dX12_leads_183 rfl (lv_at hl 1 rfl) ?_
        refine lv_iload hx hb dX12_leads_184 (lv_at hl 0 rfl) ?_
        refine lv_iconst (v := 2) hx hb dX12_leads_186 (by decide) ?_
        refine tk_Vi hC hK hw hT hA hE hSR kM_at0 (by decide) rfl (k_X12_streetOf_6 l adK adV dC dI cy ad B hB0 (Int.le_trans hB1 (by decide)) qr s1   r89 (show 0 ≤ r89.toInt by first | with_reducible assumption | omega) (show r89.toInt ≤ 11 by first | with_reducible assumption | omega) w85 H.size hT ) (cwV 2 hC.2.2.2.2 uV_RX12_300 rfl rfl rfl (by decide +kernel) ⟨Nat.le_of_ble_eq_true rfl, Nat.le_of_ble_eq_true rfl⟩) rfl hl.1 rfl (Nat.le_of_ble_eq_true rfl) dX12_leads_187 (fun r574 w576 H locs hp575 hw => ?_)
        obtain ⟨rfl, hg581⟩ := hp575
        obtain ⟨g578, g579, c580⟩ := hg581
        refine lv_iadd hx hb dX12_leads_190 ?_
        refine lv_topi (fun x582 ex582 => ?_)
        have ex582 : x582.toInt = a3.toInt + r574.toInt := by rw [ex582]; exact wk_add (show (-2147483648) ≤ a3.toInt + r574.toInt by omega) (show a3.toInt + r574.toInt ≤ 2147483647 by omega)
        refine lv_istore (lv' := [(11, .int x582), (10, .int r89), (0, .ref (ad 0)), (1, .int a1), (2, .int a2), (3, .int a3), (4, .int a4), (5, .int 1), (6, .int a6), (7, .int v145_7), (8, .int v145_8), (9, .int v145_9)]) hx hb dX12_leads_191 hl (by decide) rfl (fun ls hl => ?_)
        refine lv_iload hx hb dX12_leads_193 (lv_at hl 0 rfl) ?_
        refine lv_iload hx hb dX12_leads_195 (lv_at hl 8 rfl) ?_
        refine lv_icmp_gt (tgt := 241) hx hb dX12_leads_197 (by decide) (fun c583 => ?_) (fun c583 => ?_)
        · have c583 : a6.toInt < x582.toInt := wk_lt.mp c583
          exact J241 v145_7 v145_8 v145_9 r89 x582 f145_12__9_a1_toInt_217_toNat x106 H locs ls w85 (show 0 ≤ a1.toInt from r58) (show a1.toInt ≤ 3 from t59) (show 0 ≤ a2.toInt from r60) (show a2.toInt ≤ 1073741824 from t61) (show 0 ≤ a3.toInt from r62) (show a3.toInt ≤ 120 from t63) (show 0 ≤ a4.toInt from r64) (show a4.toInt ≤ 9 from t65) (show 0 ≤ a6.toInt from r66) (show a6.toInt ≤ 120 from t67) (show 0 ≤ v145_8.toInt from r68) (show v145_8.toInt ≤ 1073741944 from t69) (show 0 ≤ v145_9.toInt from r70) (show v145_9.toInt ≤ 1 from t71) (show 0 ≤ r89.toInt by first | with_reducible assumption | omega) (show r89.toInt ≤ 11 by first | with_reducible assumption | omega) (show 0 ≤ x582.toInt by first | with_reducible assumption | omega) (show x582.toInt ≤ 129 by first | with_reducible assumption | omega) (show 0 ≤ f145_12__9_a1_toInt_217_toNat.toInt from r72) (show f145_12__9_a1_toInt_217_toNat.toInt ≤ 9 from t73) (show 1 ≤ x106.toInt by first | with_reducible assumption | omega) (show x106.toInt ≤ 12 by first | with_reducible assumption | omega)  hw hT hF c88 c107 (lv_sub hl [2, 3, 4, 5, 6, 7, 8, 9, 10, 11, 1, 0] rfl)
        · have c583 : x582.toInt ≤ a6.toInt := wk_ltF c583
          refine lv_aload_n hx hb dX12_leads_200 rfl (lv_at hl 2 rfl) ?_
          refine lv_iload hx hb dX12_leads_201 (lv_at hl 0 rfl) ?_
          refine lv_aload_n hx hb dX12_leads_203 rfl (lv_at hl 2 rfl) ?_
          refine lv_iload hx hb dX12_leads_204 (lv_at hl 1 rfl) ?_
          refine lv_iload hx hb dX12_leads_206 (lv_at hl 6 rfl) ?_
          refine tk_Vi hC hK hw hT hA hE hSR kM_at0 (by decide) rfl (k_X12_otherOf_1 l adK adV dC dI cy ad B hB0 (Int.le_trans hB1 (by decide)) qr s1   r89 (show 0 ≤ r89.toInt by first | with_reducible assumption | omega) (show r89.toInt ≤ 11 by first | with_reducible assumption | omega) a4 (show 0 ≤ a4.toInt from r64) (show a4.toInt ≤ 9 from t65) w85 H.size hT ) (cwV 2 hC.2.2.2.2 uV_RX12_348 rfl rfl rfl (by decide +kernel) ⟨Nat.le_of_ble_eq_true rfl, Nat.le_of_ble_eq_true rfl⟩) rfl hl.1 rfl (Nat.le_of_ble_eq_true rfl) dX12_leads_208 (fun r584 w586 H locs hp585 hw => ?_)
          obtain ⟨rfl, hg593⟩ := hp585
          rcases hg593 with ⟨g588, g589⟩ | ⟨g590, g591, c592⟩
          · refine lv_iload hx hb dX12_leads_211 (lv_at hl 7 rfl) ?_
            refine lv_if_eq (tgt := 235) hx hb dX12_leads_213 (by decide) (fun c => absurd c (by decide)) (fun _ => ?_)
            refine lv_iload_n hx hb dX12_leads_216 rfl (lv_at hl 4 rfl) ?_
            refine lv_iload hx hb dX12_leads_217 (lv_at hl 0 rfl) ?_
            refine lv_iadd hx hb dX12_leads_219 ?_
            refine lv_topi (fun x594 ex594 => ?_)
            have ex594 : x594.toInt = a2.toInt + x582.toInt := by rw [ex594]; exact wk_add (show (-2147483648) ≤ a2.toInt + x582.toInt by omega) (show a2.toInt + x582.toInt ≤ 2147483647 by omega)
            refine lv_bipush (v := 24) hx hb dX12_leads_220 (by decide) ?_
            refine lv_idiv hx hb dX12_leads_222 (by decide) ?_
            refine lv_topi (fun x595 ex595 => ?_)
            have ex595 : x595.toInt = x594.toInt / (24 : Int) := by rw [ex595]; exact wk_div (show 0 ≤ x594.toInt by first | with_reducible assumption | omega) (show 0 < (24 : Int) by decide)
            refine lv_iload hx hb dX12_leads_223 (lv_at hl 10 rfl) ?_
            refine lv_bipush (v := 24) hx hb dX12_leads_225 (by decide) ?_
            refine lv_idiv hx hb dX12_leads_227 (by decide) ?_
            refine lv_topi (fun x596 ex596 => ?_)
            have ex596 : x596.toInt = v145_8.toInt / (24 : Int) := by rw [ex596]; exact wk_div (show 0 ≤ v145_8.toInt from r68) (show 0 < (24 : Int) by decide)
            refine lv_icmp_ne (tgt := 235) hx hb dX12_leads_228 (by decide) (fun c597 => ?_) (fun c597 => ?_)
            · have c597 : ¬ x595.toInt = x596.toInt := wk_eqF c597
              refine lv_iconst (v := 0) hx hb dX12_leads_235 (by decide) ?_
              refine lv_iload hx hb dX12_leads_236 (lv_at hl 9 rfl) ?_
              refine tk_Vv hC hK hw hT hA hE hSR kM_at0 (by decide) rfl (k_X12_could_3 l adK adV dC dI cy ad B hB0 (Int.le_trans hB1 (by decide)) qr s1   x582 (show 0 ≤ x582.toInt by first | with_reducible assumption | omega) (show x582.toInt ≤ 120 by first | with_reducible assumption | omega) r584 (show 0 ≤ r584.toInt by first | with_reducible assumption | omega) (show r584.toInt ≤ 9 by first | with_reducible assumption | omega) v145_7 w85 H.size hT ) (cwV 4 hC.2.2.2.2 uV_RX12_439 rfl rfl rfl (by decide +kernel) ⟨Nat.le_of_ble_eq_true rfl, Nat.le_of_ble_eq_true rfl⟩) rfl hl.1 rfl (Nat.le_of_ble_eq_true rfl) dX12_leads_238 (fun w600 H locs hp599 hw => ?_)
              obtain ⟨hT, k601, hg602⟩ := hp599
              have hF := hF.tr k601 (by decide)
              have c603 := k601.gi kM_at12 rfl c88
              have c604 := k601.gi kM_at12 (by decide) c107
              have c605 := k601.gi kM_at12 rfl c108
              have c606 := k601.gi kM_at12 rfl c566
              have c607 := k601.gi kM_at12 rfl c580
              clear hg602
              exact J241 v145_7 v145_8 v145_9 r89 x582 f145_12__9_a1_toInt_217_toNat x106 H locs ls w600 (show 0 ≤ a1.toInt from r58) (show a1.toInt ≤ 3 from t59) (show 0 ≤ a2.toInt from r60) (show a2.toInt ≤ 1073741824 from t61) (show 0 ≤ a3.toInt from r62) (show a3.toInt ≤ 120 from t63) (show 0 ≤ a4.toInt from r64) (show a4.toInt ≤ 9 from t65) (show 0 ≤ a6.toInt from r66) (show a6.toInt ≤ 120 from t67) (show 0 ≤ v145_8.toInt from r68) (show v145_8.toInt ≤ 1073741944 from t69) (show 0 ≤ v145_9.toInt from r70) (show v145_9.toInt ≤ 1 from t71) (show 0 ≤ r89.toInt by first | with_reducible assumption | omega) (show r89.toInt ≤ 11 by first | with_reducible assumption | omega) (show 0 ≤ x582.toInt by first | with_reducible assumption | omega) (show x582.toInt ≤ 129 by first | with_reducible assumption | omega) (show 0 ≤ f145_12__9_a1_toInt_217_toNat.toInt from r72) (show f145_12__9_a1_toInt_217_toNat.toInt ≤ 9 from t73) (show 1 ≤ x106.toInt by first | with_reducible assumption | omega) (show x106.toInt ≤ 12 by first | with_reducible assumption | omega)  hw hT hF c603 c604 (lv_sub hl [2, 3, 4, 5, 6, 7, 8, 9, 10, 11, 1, 0] rfl)
            · have c597 : x595.toInt = x596.toInt := wk_eq.mp c597
              refine lv_iconst (v := 1) hx hb dX12_leads_231 (by decide) ?_
              refine lv_goto (tgt := 236) hx hb dX12_leads_232 (by decide) ?_
              refine lv_iload hx hb dX12_leads_236 (lv_at hl 9 rfl) ?_
              refine tk_Vv hC hK hw hT hA hE hSR kM_at0 (by decide) rfl (k_X12_could_6 l adK adV dC dI cy ad B hB0 (Int.le_trans hB1 (by decide)) qr s1   x582 (show 0 ≤ x582.toInt by first | with_reducible assumption | omega) (show x582.toInt ≤ 120 by first | with_reducible assumption | omega) r584 (show 0 ≤ r584.toInt by first | with_reducible assumption | omega) (show r584.toInt ≤ 9 by first | with_reducible assumption | omega) v145_7 w85 H.size hT ) (cwV 4 hC.2.2.2.2 uV_RX12_439 rfl rfl rfl (by decide +kernel) ⟨Nat.le_of_ble_eq_true rfl, Nat.le_of_ble_eq_true rfl⟩) rfl hl.1 rfl (Nat.le_of_ble_eq_true rfl) dX12_leads_238 (fun w610 H locs hp609 hw => ?_)
              obtain ⟨hT, k611, hg612⟩ := hp609
              have hF := hF.tr k611 (by decide)
              have c613 := k611.gi kM_at12 rfl c88
              have c614 := k611.gi kM_at12 (by decide) c107
              have c615 := k611.gi kM_at12 rfl c108
              have c616 := k611.gi kM_at12 rfl c566
              have c617 := k611.gi kM_at12 rfl c580
              clear hg612
              exact J241 v145_7 v145_8 v145_9 r89 x582 f145_12__9_a1_toInt_217_toNat x106 H locs ls w610 (show 0 ≤ a1.toInt from r58) (show a1.toInt ≤ 3 from t59) (show 0 ≤ a2.toInt from r60) (show a2.toInt ≤ 1073741824 from t61) (show 0 ≤ a3.toInt from r62) (show a3.toInt ≤ 120 from t63) (show 0 ≤ a4.toInt from r64) (show a4.toInt ≤ 9 from t65) (show 0 ≤ a6.toInt from r66) (show a6.toInt ≤ 120 from t67) (show 0 ≤ v145_8.toInt from r68) (show v145_8.toInt ≤ 1073741944 from t69) (show 0 ≤ v145_9.toInt from r70) (show v145_9.toInt ≤ 1 from t71) (show 0 ≤ r89.toInt by first | with_reducible assumption | omega) (show r89.toInt ≤ 11 by first | with_reducible assumption | omega) (show 0 ≤ x582.toInt by first | with_reducible assumption | omega) (show x582.toInt ≤ 129 by first | with_reducible assumption | omega) (show 0 ≤ f145_12__9_a1_toInt_217_toNat.toInt from r72) (show f145_12__9_a1_toInt_217_toNat.toInt ≤ 9 from t73) (show 1 ≤ x106.toInt by first | with_reducible assumption | omega) (show x106.toInt ≤ 12 by first | with_reducible assumption | omega)  hw hT hF c613 c614 (lv_sub hl [2, 3, 4, 5, 6, 7, 8, 9, 10, 11, 1, 0] rfl)
          · refine lv_iload hx hb dX12_leads_211 (lv_at hl 7 rfl) ?_
            refine lv_if_eq (tgt := 235) hx hb dX12_leads_213 (by decide) (fun c => absurd c (by decide)) (fun _ => ?_)
            refine lv_iload_n hx hb dX12_leads_216 rfl (lv_at hl 4 rfl) ?_
            refine lv_iload hx hb dX12_leads_217 (lv_at hl 0 rfl) ?_
            refine lv_iadd hx hb dX12_leads_219 ?_
            refine lv_topi (fun x618 ex618 => ?_)
            have ex618 : x618.toInt = a2.toInt + x582.toInt := by rw [ex618]; exact wk_add (show (-2147483648) ≤ a2.toInt + x582.toInt by omega) (show a2.toInt + x582.toInt ≤ 2147483647 by omega)
            refine lv_bipush (v := 24) hx hb dX12_leads_220 (by decide) ?_
            refine lv_idiv hx hb dX12_leads_222 (by decide) ?_
            refine lv_topi (fun x619 ex619 => ?_)
            have ex619 : x619.toInt = x618.toInt / (24 : Int) := by rw [ex619]; exact wk_div (show 0 ≤ x618.toInt by first | with_reducible assumption | omega) (show 0 < (24 : Int) by decide)
            refine lv_iload hx hb dX12_leads_223 (lv_at hl 10 rfl) ?_
            refine lv_bipush (v := 24) hx hb dX12_leads_225 (by decide) ?_
            refine lv_idiv hx hb dX12_leads_227 (by decide) ?_
            refine lv_topi (fun x620 ex620 => ?_)
            have ex620 : x620.toInt = v145_8.toInt / (24 : Int) := by rw [ex620]; exact wk_div (show 0 ≤ v145_8.toInt from r68) (show 0 < (24 : Int) by decide)
            refine lv_icmp_ne (tgt := 235) hx hb dX12_leads_228 (by decide) (fun c621 => ?_) (fun c621 => ?_)
            · have c621 : ¬ x619.toInt = x620.toInt := wk_eqF c621
              refine lv_iconst (v := 0) hx hb dX12_leads_235 (by decide) ?_
              refine lv_iload hx hb dX12_leads_236 (lv_at hl 9 rfl) ?_
              refine tk_Vv hC hK hw hT hA hE hSR kM_at0 (by decide) rfl (k_X12_could_3 l adK adV dC dI cy ad B hB0 (Int.le_trans hB1 (by decide)) qr s1   x582 (show 0 ≤ x582.toInt by first | with_reducible assumption | omega) (show x582.toInt ≤ 120 by first | with_reducible assumption | omega) r584 (show 0 ≤ r584.toInt by first | with_reducible assumption | omega) (show r584.toInt ≤ 9 by first | with_reducible assumption | omega) v145_7 w85 H.size hT ) (cwV 4 hC.2.2.2.2 uV_RX12_439 rfl rfl rfl (by decide +kernel) ⟨Nat.le_of_ble_eq_true rfl, Nat.le_of_ble_eq_true rfl⟩) rfl hl.1 rfl (Nat.le_of_ble_eq_true rfl) dX12_leads_238 (fun w624 H locs hp623 hw => ?_)
              obtain ⟨hT, k625, hg626⟩ := hp623
              have hF := hF.tr k625 (by decide)
              have c627 := k625.gi kM_at12 rfl c88
              have c628 := k625.gi kM_at12 (by decide) c107
              have c629 := k625.gi kM_at12 rfl c108
              have c630 := k625.gi kM_at12 rfl c566
              have c631 := k625.gi kM_at12 rfl c580
              clear hg626
              exact J241 v145_7 v145_8 v145_9 r89 x582 f145_12__9_a1_toInt_217_toNat x106 H locs ls w624 (show 0 ≤ a1.toInt from r58) (show a1.toInt ≤ 3 from t59) (show 0 ≤ a2.toInt from r60) (show a2.toInt ≤ 1073741824 from t61) (show 0 ≤ a3.toInt from r62) (show a3.toInt ≤ 120 from t63) (show 0 ≤ a4.toInt from r64) (show a4.toInt ≤ 9 from t65) (show 0 ≤ a6.toInt from r66) (show a6.toInt ≤ 120 from t67) (show 0 ≤ v145_8.toInt from r68) (show v145_8.toInt ≤ 1073741944 from t69) (show 0 ≤ v145_9.toInt from r70) (show v145_9.toInt ≤ 1 from t71) (show 0 ≤ r89.toInt by first | with_reducible assumption | omega) (show r89.toInt ≤ 11 by first | with_reducible assumption | omega) (show 0 ≤ x582.toInt by first | with_reducible assumption | omega) (show x582.toInt ≤ 129 by first | with_reducible assumption | omega) (show 0 ≤ f145_12__9_a1_toInt_217_toNat.toInt from r72) (show f145_12__9_a1_toInt_217_toNat.toInt ≤ 9 from t73) (show 1 ≤ x106.toInt by first | with_reducible assumption | omega) (show x106.toInt ≤ 12 by first | with_reducible assumption | omega)  hw hT hF c627 c628 (lv_sub hl [2, 3, 4, 5, 6, 7, 8, 9, 10, 11, 1, 0] rfl)
            · have c621 : x619.toInt = x620.toInt := wk_eq.mp c621
              refine lv_iconst (v := 1) hx hb dX12_leads_231 (by decide) ?_
              refine lv_goto (tgt := 236) hx hb dX12_leads_232 (by decide) ?_
              refine lv_iload hx hb dX12_leads_236 (lv_at hl 9 rfl) ?_
              refine tk_Vv hC hK hw hT hA hE hSR kM_at0 (by decide) rfl (k_X12_could_6 l adK adV dC dI cy ad B hB0 (Int.le_trans hB1 (by decide)) qr s1   x582 (show 0 ≤ x582.toInt by first | with_reducible assumption | omega) (show x582.toInt ≤ 120 by first | with_reducible assumption | omega) r584 (show 0 ≤ r584.toInt by first | with_reducible assumption | omega) (show r584.toInt ≤ 9 by first | with_reducible assumption | omega) v145_7 w85 H.size hT ) (cwV 4 hC.2.2.2.2 uV_RX12_439 rfl rfl rfl (by decide +kernel) ⟨Nat.le_of_ble_eq_true rfl, Nat.le_of_ble_eq_true rfl⟩) rfl hl.1 rfl (Nat.le_of_ble_eq_true rfl) dX12_leads_238 (fun w634 H locs hp633 hw => ?_)
              obtain ⟨hT, k635, hg636⟩ := hp633
              have hF := hF.tr k635 (by decide)
              have c637 := k635.gi kM_at12 rfl c88
              have c638 := k635.gi kM_at12 (by decide) c107
              have c639 := k635.gi kM_at12 rfl c108
              have c640 := k635.gi kM_at12 rfl c566
              have c641 := k635.gi kM_at12 rfl c580
              clear hg636
              exact J241 v145_7 v145_8 v145_9 r89 x582 f145_12__9_a1_toInt_217_toNat x106 H locs ls w634 (show 0 ≤ a1.toInt from r58) (show a1.toInt ≤ 3 from t59) (show 0 ≤ a2.toInt from r60) (show a2.toInt ≤ 1073741824 from t61) (show 0 ≤ a3.toInt from r62) (show a3.toInt ≤ 120 from t63) (show 0 ≤ a4.toInt from r64) (show a4.toInt ≤ 9 from t65) (show 0 ≤ a6.toInt from r66) (show a6.toInt ≤ 120 from t67) (show 0 ≤ v145_8.toInt from r68) (show v145_8.toInt ≤ 1073741944 from t69) (show 0 ≤ v145_9.toInt from r70) (show v145_9.toInt ≤ 1 from t71) (show 0 ≤ r89.toInt by first | with_reducible assumption | omega) (show r89.toInt ≤ 11 by first | with_reducible assumption | omega) (show 0 ≤ x582.toInt by first | with_reducible assumption | omega) (show x582.toInt ≤ 129 by first | with_reducible assumption | omega) (show 0 ≤ f145_12__9_a1_toInt_217_toNat.toInt from r72) (show f145_12__9_a1_toInt_217_toNat.toInt ≤ 9 from t73) (show 1 ≤ x106.toInt by first | with_reducible assumption | omega) (show x106.toInt ≤ 12 by first | with_reducible assumption | omega)  hw hT hF c637 c638 (lv_sub hl [2, 3, 4, 5, 6, 7, 8, 9, 10, 11, 1, 0] rfl)
      · refine lv_if_ne (tgt := 182) hx hb dX12_leads_178 (by decide) (fun _ => ?_) (fun c => absurd c (by decide))
        refine lv_iload_n hx hb dX12_leads_182 rfl (lv_at hl 4 rfl) ?_
        refine lv_aload_n hx hb dX12_leads_183 rfl (lv_at hl 1 rfl) ?_
        refine lv_iload hx hb dX12_leads_184 (lv_at hl 0 rfl) ?_
        refine lv_iconst (v := 2) hx hb dX12_leads_186 (by decide) ?_
        refine tk_Vi hC hK hw hT hA hE hSR kM_at0 (by decide) rfl (k_X12_streetOf_6 l adK adV dC dI cy ad B hB0 (Int.le_trans hB1 (by decide)) qr s1   r89 (show 0 ≤ r89.toInt by first | with_reducible assumption | omega) (show r89.toInt ≤ 11 by first | with_reducible assumption | omega) w85 H.size hT ) (cwV 2 hC.2.2.2.2 uV_RX12_300 rfl rfl rfl (by decide +kernel) ⟨Nat.le_of_ble_eq_true rfl, Nat.le_of_ble_eq_true rfl⟩) rfl hl.1 rfl (Nat.le_of_ble_eq_true rfl) dX12_leads_187 (fun r642 w644 H locs hp643 hw => ?_)
        obtain ⟨rfl, hg649⟩ := hp643
        obtain ⟨g646, g647, c648⟩ := hg649
        refine lv_iadd hx hb dX12_leads_190 ?_
        refine lv_topi (fun x650 ex650 => ?_)
        have ex650 : x650.toInt = a3.toInt + r642.toInt := by rw [ex650]; exact wk_add (show (-2147483648) ≤ a3.toInt + r642.toInt by omega) (show a3.toInt + r642.toInt ≤ 2147483647 by omega)
        refine lv_istore (lv' := [(11, .int x650), (10, .int r89), (0, .ref (ad 0)), (1, .int a1), (2, .int a2), (3, .int a3), (4, .int a4), (5, .int 1), (6, .int a6), (7, .int v145_7), (8, .int v145_8), (9, .int v145_9)]) hx hb dX12_leads_191 hl (by decide) rfl (fun ls hl => ?_)
        refine lv_iload hx hb dX12_leads_193 (lv_at hl 0 rfl) ?_
        refine lv_iload hx hb dX12_leads_195 (lv_at hl 8 rfl) ?_
        refine lv_icmp_gt (tgt := 241) hx hb dX12_leads_197 (by decide) (fun c651 => ?_) (fun c651 => ?_)
        · have c651 : a6.toInt < x650.toInt := wk_lt.mp c651
          exact J241 v145_7 v145_8 v145_9 r89 x650 f145_12__9_a1_toInt_217_toNat x106 H locs ls w85 (show 0 ≤ a1.toInt from r58) (show a1.toInt ≤ 3 from t59) (show 0 ≤ a2.toInt from r60) (show a2.toInt ≤ 1073741824 from t61) (show 0 ≤ a3.toInt from r62) (show a3.toInt ≤ 120 from t63) (show 0 ≤ a4.toInt from r64) (show a4.toInt ≤ 9 from t65) (show 0 ≤ a6.toInt from r66) (show a6.toInt ≤ 120 from t67) (show 0 ≤ v145_8.toInt from r68) (show v145_8.toInt ≤ 1073741944 from t69) (show 0 ≤ v145_9.toInt from r70) (show v145_9.toInt ≤ 1 from t71) (show 0 ≤ r89.toInt by first | with_reducible assumption | omega) (show r89.toInt ≤ 11 by first | with_reducible assumption | omega) (show 0 ≤ x650.toInt by first | with_reducible assumption | omega) (show x650.toInt ≤ 129 by first | with_reducible assumption | omega) (show 0 ≤ f145_12__9_a1_toInt_217_toNat.toInt from r72) (show f145_12__9_a1_toInt_217_toNat.toInt ≤ 9 from t73) (show 1 ≤ x106.toInt by first | with_reducible assumption | omega) (show x106.toInt ≤ 12 by first | with_reducible assumption | omega)  hw hT hF c88 c107 (lv_sub hl [2, 3, 4, 5, 6, 7, 8, 9, 10, 11, 1, 0] rfl)
        · have c651 : x650.toInt ≤ a6.toInt := wk_ltF c651
          refine lv_aload_n hx hb dX12_leads_200 rfl (lv_at hl 2 rfl) ?_
          refine lv_iload hx hb dX12_leads_201 (lv_at hl 0 rfl) ?_
          refine lv_aload_n hx hb dX12_leads_203 rfl (lv_at hl 2 rfl) ?_
          refine lv_iload hx hb dX12_leads_204 (lv_at hl 1 rfl) ?_
          refine lv_iload hx hb dX12_leads_206 (lv_at hl 6 rfl) ?_
          refine tk_Vi hC hK hw hT hA hE hSR kM_at0 (by decide) rfl (k_X12_otherOf_1 l adK adV dC dI cy ad B hB0 (Int.le_trans hB1 (by decide)) qr s1   r89 (show 0 ≤ r89.toInt by first | with_reducible assumption | omega) (show r89.toInt ≤ 11 by first | with_reducible assumption | omega) a4 (show 0 ≤ a4.toInt from r64) (show a4.toInt ≤ 9 from t65) w85 H.size hT ) (cwV 2 hC.2.2.2.2 uV_RX12_348 rfl rfl rfl (by decide +kernel) ⟨Nat.le_of_ble_eq_true rfl, Nat.le_of_ble_eq_true rfl⟩) rfl hl.1 rfl (Nat.le_of_ble_eq_true rfl) dX12_leads_208 (fun r652 w654 H locs hp653 hw => ?_)
          obtain ⟨rfl, hg661⟩ := hp653
          rcases hg661 with ⟨g656, g657⟩ | ⟨g658, g659, c660⟩
          · refine lv_iload hx hb dX12_leads_211 (lv_at hl 7 rfl) ?_
            refine lv_if_eq (tgt := 235) hx hb dX12_leads_213 (by decide) (fun c => absurd c (by decide)) (fun _ => ?_)
            refine lv_iload_n hx hb dX12_leads_216 rfl (lv_at hl 4 rfl) ?_
            refine lv_iload hx hb dX12_leads_217 (lv_at hl 0 rfl) ?_
            refine lv_iadd hx hb dX12_leads_219 ?_
            refine lv_topi (fun x662 ex662 => ?_)
            have ex662 : x662.toInt = a2.toInt + x650.toInt := by rw [ex662]; exact wk_add (show (-2147483648) ≤ a2.toInt + x650.toInt by omega) (show a2.toInt + x650.toInt ≤ 2147483647 by omega)
            refine lv_bipush (v := 24) hx hb dX12_leads_220 (by decide) ?_
            refine lv_idiv hx hb dX12_leads_222 (by decide) ?_
            refine lv_topi (fun x663 ex663 => ?_)
            have ex663 : x663.toInt = x662.toInt / (24 : Int) := by rw [ex663]; exact wk_div (show 0 ≤ x662.toInt by first | with_reducible assumption | omega) (show 0 < (24 : Int) by decide)
            refine lv_iload hx hb dX12_leads_223 (lv_at hl 10 rfl) ?_
            refine lv_bipush (v := 24) hx hb dX12_leads_225 (by decide) ?_
            refine lv_idiv hx hb dX12_leads_227 (by decide) ?_
            refine lv_topi (fun x664 ex664 => ?_)
            have ex664 : x664.toInt = v145_8.toInt / (24 : Int) := by rw [ex664]; exact wk_div (show 0 ≤ v145_8.toInt from r68) (show 0 < (24 : Int) by decide)
            refine lv_icmp_ne (tgt := 235) hx hb dX12_leads_228 (by decide) (fun c665 => ?_) (fun c665 => ?_)
            · have c665 : ¬ x663.toInt = x664.toInt := wk_eqF c665
              refine lv_iconst (v := 0) hx hb dX12_leads_235 (by decide) ?_
              refine lv_iload hx hb dX12_leads_236 (lv_at hl 9 rfl) ?_
              refine tk_Vv hC hK hw hT hA hE hSR kM_at0 (by decide) rfl (k_X12_could_3 l adK adV dC dI cy ad B hB0 (Int.le_trans hB1 (by decide)) qr s1   x650 (show 0 ≤ x650.toInt by first | with_reducible assumption | omega) (show x650.toInt ≤ 120 by first | with_reducible assumption | omega) r652 (show 0 ≤ r652.toInt by first | with_reducible assumption | omega) (show r652.toInt ≤ 9 by first | with_reducible assumption | omega) v145_7 w85 H.size hT ) (cwV 4 hC.2.2.2.2 uV_RX12_439 rfl rfl rfl (by decide +kernel) ⟨Nat.le_of_ble_eq_true rfl, Nat.le_of_ble_eq_true rfl⟩) rfl hl.1 rfl (Nat.le_of_ble_eq_true rfl) dX12_leads_238 (fun w668 H locs hp667 hw => ?_)
              obtain ⟨hT, k669, hg670⟩ := hp667
              have hF := hF.tr k669 (by decide)
              have c671 := k669.gi kM_at12 rfl c88
              have c672 := k669.gi kM_at12 (by decide) c107
              have c673 := k669.gi kM_at12 rfl c108
              have c674 := k669.gi kM_at12 rfl c569
              have c675 := k669.gi kM_at12 rfl c648
              clear hg670
              exact J241 v145_7 v145_8 v145_9 r89 x650 f145_12__9_a1_toInt_217_toNat x106 H locs ls w668 (show 0 ≤ a1.toInt from r58) (show a1.toInt ≤ 3 from t59) (show 0 ≤ a2.toInt from r60) (show a2.toInt ≤ 1073741824 from t61) (show 0 ≤ a3.toInt from r62) (show a3.toInt ≤ 120 from t63) (show 0 ≤ a4.toInt from r64) (show a4.toInt ≤ 9 from t65) (show 0 ≤ a6.toInt from r66) (show a6.toInt ≤ 120 from t67) (show 0 ≤ v145_8.toInt from r68) (show v145_8.toInt ≤ 1073741944 from t69) (show 0 ≤ v145_9.toInt from r70) (show v145_9.toInt ≤ 1 from t71) (show 0 ≤ r89.toInt by first | with_reducible assumption | omega) (show r89.toInt ≤ 11 by first | with_reducible assumption | omega) (show 0 ≤ x650.toInt by first | with_reducible assumption | omega) (show x650.toInt ≤ 129 by first | with_reducible assumption | omega) (show 0 ≤ f145_12__9_a1_toInt_217_toNat.toInt from r72) (show f145_12__9_a1_toInt_217_toNat.toInt ≤ 9 from t73) (show 1 ≤ x106.toInt by first | with_reducible assumption | omega) (show x106.toInt ≤ 12 by first | with_reducible assumption | omega)  hw hT hF c671 c672 (lv_sub hl [2, 3, 4, 5, 6, 7, 8, 9, 10, 11, 1, 0] rfl)
            · have c665 : x663.toInt = x664.toInt := wk_eq.mp c665
              refine lv_iconst (v := 1) hx hb dX12_leads_231 (by decide) ?_
              refine lv_goto (tgt := 236) hx hb dX12_leads_232 (by decide) ?_
              refine lv_iload hx hb dX12_leads_236 (lv_at hl 9 rfl) ?_
              refine tk_Vv hC hK hw hT hA hE hSR kM_at0 (by decide) rfl (k_X12_could_6 l adK adV dC dI cy ad B hB0 (Int.le_trans hB1 (by decide)) qr s1   x650 (show 0 ≤ x650.toInt by first | with_reducible assumption | omega) (show x650.toInt ≤ 120 by first | with_reducible assumption | omega) r652 (show 0 ≤ r652.toInt by first | with_reducible assumption | omega) (show r652.toInt ≤ 9 by first | with_reducible assumption | omega) v145_7 w85 H.size hT ) (cwV 4 hC.2.2.2.2 uV_RX12_439 rfl rfl rfl (by decide +kernel) ⟨Nat.le_of_ble_eq_true rfl, Nat.le_of_ble_eq_true rfl⟩) rfl hl.1 rfl (Nat.le_of_ble_eq_true rfl) dX12_leads_238 (fun w678 H locs hp677 hw => ?_)
              obtain ⟨hT, k679, hg680⟩ := hp677
              have hF := hF.tr k679 (by decide)
              have c681 := k679.gi kM_at12 rfl c88
              have c682 := k679.gi kM_at12 (by decide) c107
              have c683 := k679.gi kM_at12 rfl c108
              have c684 := k679.gi kM_at12 rfl c569
              have c685 := k679.gi kM_at12 rfl c648
              clear hg680
              exact J241 v145_7 v145_8 v145_9 r89 x650 f145_12__9_a1_toInt_217_toNat x106 H locs ls w678 (show 0 ≤ a1.toInt from r58) (show a1.toInt ≤ 3 from t59) (show 0 ≤ a2.toInt from r60) (show a2.toInt ≤ 1073741824 from t61) (show 0 ≤ a3.toInt from r62) (show a3.toInt ≤ 120 from t63) (show 0 ≤ a4.toInt from r64) (show a4.toInt ≤ 9 from t65) (show 0 ≤ a6.toInt from r66) (show a6.toInt ≤ 120 from t67) (show 0 ≤ v145_8.toInt from r68) (show v145_8.toInt ≤ 1073741944 from t69) (show 0 ≤ v145_9.toInt from r70) (show v145_9.toInt ≤ 1 from t71) (show 0 ≤ r89.toInt by first | with_reducible assumption | omega) (show r89.toInt ≤ 11 by first | with_reducible assumption | omega) (show 0 ≤ x650.toInt by first | with_reducible assumption | omega) (show x650.toInt ≤ 129 by first | with_reducible assumption | omega) (show 0 ≤ f145_12__9_a1_toInt_217_toNat.toInt from r72) (show f145_12__9_a1_toInt_217_toNat.toInt ≤ 9 from t73) (show 1 ≤ x106.toInt by first | with_reducible assumption | omega) (show x106.toInt ≤ 12 by first | with_reducible assumption | omega)  hw hT hF c681 c682 (lv_sub hl [2, 3, 4, 5, 6, 7, 8, 9, 10, 11, 1, 0] rfl)
          · refine lv_iload hx hb dX12_leads_211 (lv_at hl 7 rfl) ?_
            refine lv_if_eq (tgt := 235) hx hb dX12_leads_213 (by decide) (fun c => absurd c (by decide)) (fun _ => ?_)
            refine lv_iload_n hx hb dX12_leads_216 rfl (lv_at hl 4 rfl) ?_
            refine lv_iload hx hb dX12_leads_217 (lv_at hl 0 rfl) ?_
            refine lv_iadd hx hb dX12_leads_219 ?_
            refine lv_topi (fun x686 ex686 => ?_)
            have ex686 : x686.toInt = a2.toInt + x650.toInt := by rw [ex686]; exact wk_add (show (-2147483648) ≤ a2.toInt + x650.toInt by omega) (show a2.toInt + x650.toInt ≤ 2147483647 by omega)
            refine lv_bipush (v := 24) hx hb dX12_leads_220 (by decide) ?_
            refine lv_idiv hx hb dX12_leads_222 (by decide) ?_
            refine lv_topi (fun x687 ex687 => ?_)
            have ex687 : x687.toInt = x686.toInt / (24 : Int) := by rw [ex687]; exact wk_div (show 0 ≤ x686.toInt by first | with_reducible assumption | omega) (show 0 < (24 : Int) by decide)
            refine lv_iload hx hb dX12_leads_223 (lv_at hl 10 rfl) ?_
            refine lv_bipush (v := 24) hx hb dX12_leads_225 (by decide) ?_
            refine lv_idiv hx hb dX12_leads_227 (by decide) ?_
            refine lv_topi (fun x688 ex688 => ?_)
            have ex688 : x688.toInt = v145_8.toInt / (24 : Int) := by rw [ex688]; exact wk_div (show 0 ≤ v145_8.toInt from r68) (show 0 < (24 : Int) by decide)
            refine lv_icmp_ne (tgt := 235) hx hb dX12_leads_228 (by decide) (fun c689 => ?_) (fun c689 => ?_)
            · have c689 : ¬ x687.toInt = x688.toInt := wk_eqF c689
              refine lv_iconst (v := 0) hx hb dX12_leads_235 (by decide) ?_
              refine lv_iload hx hb dX12_leads_236 (lv_at hl 9 rfl) ?_
              refine tk_Vv hC hK hw hT hA hE hSR kM_at0 (by decide) rfl (k_X12_could_3 l adK adV dC dI cy ad B hB0 (Int.le_trans hB1 (by decide)) qr s1   x650 (show 0 ≤ x650.toInt by first | with_reducible assumption | omega) (show x650.toInt ≤ 120 by first | with_reducible assumption | omega) r652 (show 0 ≤ r652.toInt by first | with_reducible assumption | omega) (show r652.toInt ≤ 9 by first | with_reducible assumption | omega) v145_7 w85 H.size hT ) (cwV 4 hC.2.2.2.2 uV_RX12_439 rfl rfl rfl (by decide +kernel) ⟨Nat.le_of_ble_eq_true rfl, Nat.le_of_ble_eq_true rfl⟩) rfl hl.1 rfl (Nat.le_of_ble_eq_true rfl) dX12_leads_238 (fun w692 H locs hp691 hw => ?_)
              obtain ⟨hT, k693, hg694⟩ := hp691
              have hF := hF.tr k693 (by decide)
              have c695 := k693.gi kM_at12 rfl c88
              have c696 := k693.gi kM_at12 (by decide) c107
              have c697 := k693.gi kM_at12 rfl c108
              have c698 := k693.gi kM_at12 rfl c569
              have c699 := k693.gi kM_at12 rfl c648
              clear hg694
              exact J241 v145_7 v145_8 v145_9 r89 x650 f145_12__9_a1_toInt_217_toNat x106 H locs ls w692 (show 0 ≤ a1.toInt from r58) (show a1.toInt ≤ 3 from t59) (show 0 ≤ a2.toInt from r60) (show a2.toInt ≤ 1073741824 from t61) (show 0 ≤ a3.toInt from r62) (show a3.toInt ≤ 120 from t63) (show 0 ≤ a4.toInt from r64) (show a4.toInt ≤ 9 from t65) (show 0 ≤ a6.toInt from r66) (show a6.toInt ≤ 120 from t67) (show 0 ≤ v145_8.toInt from r68) (show v145_8.toInt ≤ 1073741944 from t69) (show 0 ≤ v145_9.toInt from r70) (show v145_9.toInt ≤ 1 from t71) (show 0 ≤ r89.toInt by first | with_reducible assumption | omega) (show r89.toInt ≤ 11 by first | with_reducible assumption | omega) (show 0 ≤ x650.toInt by first | with_reducible assumption | omega) (show x650.toInt ≤ 129 by first | with_reducible assumption | omega) (show 0 ≤ f145_12__9_a1_toInt_217_toNat.toInt from r72) (show f145_12__9_a1_toInt_217_toNat.toInt ≤ 9 from t73) (show 1 ≤ x106.toInt by first | with_reducible assumption | omega) (show x106.toInt ≤ 12 by first | with_reducible assumption | omega)  hw hT hF c695 c696 (lv_sub hl [2, 3, 4, 5, 6, 7, 8, 9, 10, 11, 1, 0] rfl)
            · have c689 : x687.toInt = x688.toInt := wk_eq.mp c689
              refine lv_iconst (v := 1) hx hb dX12_leads_231 (by decide) ?_
              refine lv_goto (tgt := 236) hx hb dX12_leads_232 (by decide) ?_
              refine lv_iload hx hb dX12_leads_236 (lv_at hl 9 rfl) ?_
              refine tk_Vv hC hK hw hT hA hE hSR kM_at0 (by decide) rfl (k_X12_could_6 l adK adV dC dI cy ad B hB0 (Int.le_trans hB1 (by decide)) qr s1   x650 (show 0 ≤ x650.toInt by first | with_reducible assumption | omega) (show x650.toInt ≤ 120 by first | with_reducible assumption | omega) r652 (show 0 ≤ r652.toInt by first | with_reducible assumption | omega) (show r652.toInt ≤ 9 by first | with_reducible assumption | omega) v145_7 w85 H.size hT ) (cwV 4 hC.2.2.2.2 uV_RX12_439 rfl rfl rfl (by decide +kernel) ⟨Nat.le_of_ble_eq_true rfl, Nat.le_of_ble_eq_true rfl⟩) rfl hl.1 rfl (Nat.le_of_ble_eq_true rfl) dX12_leads_238 (fun w702 H locs hp701 hw => ?_)
              obtain ⟨hT, k703, hg704⟩ := hp701
              have hF := hF.tr k703 (by decide)
              have c705 := k703.gi kM_at12 rfl c88
              have c706 := k703.gi kM_at12 (by decide) c107
              have c707 := k703.gi kM_at12 rfl c108
              have c708 := k703.gi kM_at12 rfl c569
              have c709 := k703.gi kM_at12 rfl c648
              clear hg704
              exact J241 v145_7 v145_8 v145_9 r89 x650 f145_12__9_a1_toInt_217_toNat x106 H locs ls w702 (show 0 ≤ a1.toInt from r58) (show a1.toInt ≤ 3 from t59) (show 0 ≤ a2.toInt from r60) (show a2.toInt ≤ 1073741824 from t61) (show 0 ≤ a3.toInt from r62) (show a3.toInt ≤ 120 from t63) (show 0 ≤ a4.toInt from r64) (show a4.toInt ≤ 9 from t65) (show 0 ≤ a6.toInt from r66) (show a6.toInt ≤ 120 from t67) (show 0 ≤ v145_8.toInt from r68) (show v145_8.toInt ≤ 1073741944 from t69) (show 0 ≤ v145_9.toInt from r70) (show v145_9.toInt ≤ 1 from t71) (show 0 ≤ r89.toInt by first | with_reducible assumption | omega) (show r89.toInt ≤ 11 by first | with_reducible assumption | omega) (show 0 ≤ x650.toInt by first | with_reducible assumption | omega) (show x650.toInt ≤ 129 by first | with_reducible assumption | omega) (show 0 ≤ f145_12__9_a1_toInt_217_toNat.toInt from r72) (show f145_12__9_a1_toInt_217_toNat.toInt ≤ 9 from t73) (show 1 ≤ x106.toInt by first | with_reducible assumption | omega) (show x106.toInt ≤ 12 by first | with_reducible assumption | omega)  hw hT hF c705 c706 (lv_sub hl [2, 3, 4, 5, 6, 7, 8, 9, 10, 11, 1, 0] rfl)
      · refine lv_if_ne (tgt := 182) hx hb dX12_leads_178 (by decide) (fun _ => ?_) (fun c => absurd c (by decide))
        refine lv_iload_n hx hb dX12_leads_182 rfl (lv_at hl 4 rfl) ?_
        refine lv_aload_n hx hb dX12_leads_183 rfl (lv_at hl 1 rfl) ?_
        refine lv_iload hx hb dX12_leads_184 (lv_at hl 0 rfl) ?_
        refine lv_iconst (v := 2) hx hb dX12_leads_186 (by decide) ?_
        refine tk_Vi hC hK hw hT hA hE hSR kM_at0 (by decide) rfl (k_X12_streetOf_6 l adK adV dC dI cy ad B hB0 (Int.le_trans hB1 (by decide)) qr s1   r89 (show 0 ≤ r89.toInt by first | with_reducible assumption | omega) (show r89.toInt ≤ 11 by first | with_reducible assumption | omega) w85 H.size hT ) (cwV 2 hC.2.2.2.2 uV_RX12_300 rfl rfl rfl (by decide +kernel) ⟨Nat.le_of_ble_eq_true rfl, Nat.le_of_ble_eq_true rfl⟩) rfl hl.1 rfl (Nat.le_of_ble_eq_true rfl) dX12_leads_187 (fun r710 w712 H locs hp711 hw => ?_)
        obtain ⟨rfl, hg717⟩ := hp711
        obtain ⟨g714, g715, c716⟩ := hg717
        refine lv_iadd hx hb dX12_leads_190 ?_
        refine lv_topi (fun x718 ex718 => ?_)
        have ex718 : x718.toInt = a3.toInt + r710.toInt := by rw [ex718]; exact wk_add (show (-2147483648) ≤ a3.toInt + r710.toInt by omega) (show a3.toInt + r710.toInt ≤ 2147483647 by omega)
        refine lv_istore (lv' := [(11, .int x718), (10, .int r89), (0, .ref (ad 0)), (1, .int a1), (2, .int a2), (3, .int a3), (4, .int a4), (5, .int 1), (6, .int a6), (7, .int v145_7), (8, .int v145_8), (9, .int v145_9)]) hx hb dX12_leads_191 hl (by decide) rfl (fun ls hl => ?_)
        refine lv_iload hx hb dX12_leads_193 (lv_at hl 0 rfl) ?_
        refine lv_iload hx hb dX12_leads_195 (lv_at hl 8 rfl) ?_
        refine lv_icmp_gt (tgt := 241) hx hb dX12_leads_197 (by decide) (fun c719 => ?_) (fun c719 => ?_)
        · have c719 : a6.toInt < x718.toInt := wk_lt.mp c719
          exact J241 v145_7 v145_8 v145_9 r89 x718 f145_12__9_a1_toInt_217_toNat x106 H locs ls w85 (show 0 ≤ a1.toInt from r58) (show a1.toInt ≤ 3 from t59) (show 0 ≤ a2.toInt from r60) (show a2.toInt ≤ 1073741824 from t61) (show 0 ≤ a3.toInt from r62) (show a3.toInt ≤ 120 from t63) (show 0 ≤ a4.toInt from r64) (show a4.toInt ≤ 9 from t65) (show 0 ≤ a6.toInt from r66) (show a6.toInt ≤ 120 from t67) (show 0 ≤ v145_8.toInt from r68) (show v145_8.toInt ≤ 1073741944 from t69) (show 0 ≤ v145_9.toInt from r70) (show v145_9.toInt ≤ 1 from t71) (show 0 ≤ r89.toInt by first | with_reducible assumption | omega) (show r89.toInt ≤ 11 by first | with_reducible assumption | omega) (show 0 ≤ x718.toInt by first | with_reducible assumption | omega) (show x718.toInt ≤ 129 by first | with_reducible assumption | omega) (show 0 ≤ f145_12__9_a1_toInt_217_toNat.toInt from r72) (show f145_12__9_a1_toInt_217_toNat.toInt ≤ 9 from t73) (show 1 ≤ x106.toInt by first | with_reducible assumption | omega) (show x106.toInt ≤ 12 by first | with_reducible assumption | omega)  hw hT hF c88 c107 (lv_sub hl [2, 3, 4, 5, 6, 7, 8, 9, 10, 11, 1, 0] rfl)
        · have c719 : x718.toInt ≤ a6.toInt := wk_ltF c719
          refine lv_aload_n hx hb dX12_leads_200 rfl (lv_at hl 2 rfl) ?_
          refine lv_iload hx hb dX12_leads_201 (lv_at hl 0 rfl) ?_
          refine lv_aload_n hx hb dX12_leads_203 rfl (lv_at hl 2 rfl) ?_
          refine lv_iload hx hb dX12_leads_204 (lv_at hl 1 rfl) ?_
          refine lv_iload hx hb dX12_leads_206 (lv_at hl 6 rfl) ?_
          refine tk_Vi hC hK hw hT hA hE hSR kM_at0 (by decide) rfl (k_X12_otherOf_1 l adK adV dC dI cy ad B hB0 (Int.le_trans hB1 (by decide)) qr s1   r89 (show 0 ≤ r89.toInt by first | with_reducible assumption | omega) (show r89.toInt ≤ 11 by first | with_reducible assumption | omega) a4 (show 0 ≤ a4.toInt from r64) (show a4.toInt ≤ 9 from t65) w85 H.size hT ) (cwV 2 hC.2.2.2.2 uV_RX12_348 rfl rfl rfl (by decide +kernel) ⟨Nat.le_of_ble_eq_true rfl, Nat.le_of_ble_eq_true rfl⟩) rfl hl.1 rfl (Nat.le_of_ble_eq_true rfl) dX12_leads_208 (fun r720 w722 H locs hp721 hw => ?_)
          obtain ⟨rfl, hg729⟩ := hp721
          rcases hg729 with ⟨g724, g725⟩ | ⟨g726, g727, c728⟩
          · refine lv_iload hx hb dX12_leads_211 (lv_at hl 7 rfl) ?_
            refine lv_if_eq (tgt := 235) hx hb dX12_leads_213 (by decide) (fun c => absurd c (by decide)) (fun _ => ?_)
            refine lv_iload_n hx hb dX12_leads_216 rfl (lv_at hl 4 rfl) ?_
            refine lv_iload hx hb dX12_leads_217 (lv_at hl 0 rfl) ?_
            refine lv_iadd hx hb dX12_leads_219 ?_
            refine lv_topi (fun x730 ex730 => ?_)
            have ex730 : x730.toInt = a2.toInt + x718.toInt := by rw [ex730]; exact wk_add (show (-2147483648) ≤ a2.toInt + x718.toInt by omega) (show a2.toInt + x718.toInt ≤ 2147483647 by omega)
            refine lv_bipush (v := 24) hx hb dX12_leads_220 (by decide) ?_
            refine lv_idiv hx hb dX12_leads_222 (by decide) ?_
            refine lv_topi (fun x731 ex731 => ?_)
            have ex731 : x731.toInt = x730.toInt / (24 : Int) := by rw [ex731]; exact wk_div (show 0 ≤ x730.toInt by first | with_reducible assumption | omega) (show 0 < (24 : Int) by decide)
            refine lv_iload hx hb dX12_leads_223 (lv_at hl 10 rfl) ?_
            refine lv_bipush (v := 24) hx hb dX12_leads_225 (by decide) ?_
            refine lv_idiv hx hb dX12_leads_227 (by decide) ?_
            refine lv_topi (fun x732 ex732 => ?_)
            have ex732 : x732.toInt = v145_8.toInt / (24 : Int) := by rw [ex732]; exact wk_div (show 0 ≤ v145_8.toInt from r68) (show 0 < (24 : Int) by decide)
            refine lv_icmp_ne (tgt := 235) hx hb dX12_leads_228 (by decide) (fun c733 => ?_) (fun c733 => ?_)
            · have c733 : ¬ x731.toInt = x732.toInt := wk_eqF c733
              refine lv_iconst (v := 0) hx hb dX12_leads_235 (by decide) ?_
              refine lv_iload hx hb dX12_leads_236 (lv_at hl 9 rfl) ?_
              refine tk_Vv hC hK hw hT hA hE hSR kM_at0 (by decide) rfl (k_X12_could_3 l adK adV dC dI cy ad B hB0 (Int.le_trans hB1 (by decide)) qr s1   x718 (show 0 ≤ x718.toInt by first | with_reducible assumption | omega) (show x718.toInt ≤ 120 by first | with_reducible assumption | omega) r720 (show 0 ≤ r720.toInt by first | with_reducible assumption | omega) (show r720.toInt ≤ 9 by first | with_reducible assumption | omega) v145_7 w85 H.size hT ) (cwV 4 hC.2.2.2.2 uV_RX12_439 rfl rfl rfl (by decide +kernel) ⟨Nat.le_of_ble_eq_true rfl, Nat.le_of_ble_eq_true rfl⟩) rfl hl.1 rfl (Nat.le_of_ble_eq_true rfl) dX12_leads_238 (fun w736 H locs hp735 hw => ?_)
              obtain ⟨hT, k737, hg738⟩ := hp735
              have hF := hF.tr k737 (by decide)
              have c739 := k737.gi kM_at12 rfl c88
              have c740 := k737.gi kM_at12 (by decide) c107
              have c741 := k737.gi kM_at12 rfl c108
              have c742 := k737.gi kM_at12 rfl c716
              clear hg738
              exact J241 v145_7 v145_8 v145_9 r89 x718 f145_12__9_a1_toInt_217_toNat x106 H locs ls w736 (show 0 ≤ a1.toInt from r58) (show a1.toInt ≤ 3 from t59) (show 0 ≤ a2.toInt from r60) (show a2.toInt ≤ 1073741824 from t61) (show 0 ≤ a3.toInt from r62) (show a3.toInt ≤ 120 from t63) (show 0 ≤ a4.toInt from r64) (show a4.toInt ≤ 9 from t65) (show 0 ≤ a6.toInt from r66) (show a6.toInt ≤ 120 from t67) (show 0 ≤ v145_8.toInt from r68) (show v145_8.toInt ≤ 1073741944 from t69) (show 0 ≤ v145_9.toInt from r70) (show v145_9.toInt ≤ 1 from t71) (show 0 ≤ r89.toInt by first | with_reducible assumption | omega) (show r89.toInt ≤ 11 by first | with_reducible assumption | omega) (show 0 ≤ x718.toInt by first | with_reducible assumption | omega) (show x718.toInt ≤ 129 by first | with_reducible assumption | omega) (show 0 ≤ f145_12__9_a1_toInt_217_toNat.toInt from r72) (show f145_12__9_a1_toInt_217_toNat.toInt ≤ 9 from t73) (show 1 ≤ x106.toInt by first | with_reducible assumption | omega) (show x106.toInt ≤ 12 by first | with_reducible assumption | omega)  hw hT hF c739 c740 (lv_sub hl [2, 3, 4, 5, 6, 7, 8, 9, 10, 11, 1, 0] rfl)
            · have c733 : x731.toInt = x732.toInt := wk_eq.mp c733
              refine lv_iconst (v := 1) hx hb dX12_leads_231 (by decide) ?_
              refine lv_goto (tgt := 236) hx hb dX12_leads_232 (by decide) ?_
              refine lv_iload hx hb dX12_leads_236 (lv_at hl 9 rfl) ?_
              refine tk_Vv hC hK hw hT hA hE hSR kM_at0 (by decide) rfl (k_X12_could_6 l adK adV dC dI cy ad B hB0 (Int.le_trans hB1 (by decide)) qr s1   x718 (show 0 ≤ x718.toInt by first | with_reducible assumption | omega) (show x718.toInt ≤ 120 by first | with_reducible assumption | omega) r720 (show 0 ≤ r720.toInt by first | with_reducible assumption | omega) (show r720.toInt ≤ 9 by first | with_reducible assumption | omega) v145_7 w85 H.size hT ) (cwV 4 hC.2.2.2.2 uV_RX12_439 rfl rfl rfl (by decide +kernel) ⟨Nat.le_of_ble_eq_true rfl, Nat.le_of_ble_eq_true rfl⟩) rfl hl.1 rfl (Nat.le_of_ble_eq_true rfl) dX12_leads_238 (fun w745 H locs hp744 hw => ?_)
              obtain ⟨hT, k746, hg747⟩ := hp744
              have hF := hF.tr k746 (by decide)
              have c748 := k746.gi kM_at12 rfl c88
              have c749 := k746.gi kM_at12 (by decide) c107
              have c750 := k746.gi kM_at12 rfl c108
              have c751 := k746.gi kM_at12 rfl c716
              clear hg747
              exact J241 v145_7 v145_8 v145_9 r89 x718 f145_12__9_a1_toInt_217_toNat x106 H locs ls w745 (show 0 ≤ a1.toInt from r58) (show a1.toInt ≤ 3 from t59) (show 0 ≤ a2.toInt from r60) (show a2.toInt ≤ 1073741824 from t61) (show 0 ≤ a3.toInt from r62) (show a3.toInt ≤ 120 from t63) (show 0 ≤ a4.toInt from r64) (show a4.toInt ≤ 9 from t65) (show 0 ≤ a6.toInt from r66) (show a6.toInt ≤ 120 from t67) (show 0 ≤ v145_8.toInt from r68) (show v145_8.toInt ≤ 1073741944 from t69) (show 0 ≤ v145_9.toInt from r70) (show v145_9.toInt ≤ 1 from t71) (show 0 ≤ r89.toInt by first | with_reducible assumption | omega) (show r89.toInt ≤ 11 by first | with_reducible assumption | omega) (show 0 ≤ x718.toInt by first | with_reducible assumption | omega) (show x718.toInt ≤ 129 by first | with_reducible assumption | omega) (show 0 ≤ f145_12__9_a1_toInt_217_toNat.toInt from r72) (show f145_12__9_a1_toInt_217_toNat.toInt ≤ 9 from t73) (show 1 ≤ x106.toInt by first | with_reducible assumption | omega) (show x106.toInt ≤ 12 by first | with_reducible assumption | omega)  hw hT hF c748 c749 (lv_sub hl [2, 3, 4, 5, 6, 7, 8, 9, 10, 11, 1, 0] rfl)
          · refine lv_iload hx hb dX12_leads_211 (lv_at hl 7 rfl) ?_
            refine lv_if_eq (tgt := 235) hx hb dX12_leads_213 (by decide) (fun c => absurd c (by decide)) (fun _ => ?_)
            refine lv_iload_n hx hb dX12_leads_216 rfl (lv_at hl 4 rfl) ?_
            refine lv_iload hx hb dX12_leads_217 (lv_at hl 0 rfl) ?_
            refine lv_iadd hx hb dX12_leads_219 ?_
            refine lv_topi (fun x752 ex752 => ?_)
            have ex752 : x752.toInt = a2.toInt + x718.toInt := by rw [ex752]; exact wk_add (show (-2147483648) ≤ a2.toInt + x718.toInt by omega) (show a2.toInt + x718.toInt ≤ 2147483647 by omega)
            refine lv_bipush (v := 24) hx hb dX12_leads_220 (by decide) ?_
            refine lv_idiv hx hb dX12_leads_222 (by decide) ?_
            refine lv_topi (fun x753 ex753 => ?_)
            have ex753 : x753.toInt = x752.toInt / (24 : Int) := by rw [ex753]; exact wk_div (show 0 ≤ x752.toInt by first | with_reducible assumption | omega) (show 0 < (24 : Int) by decide)
            refine lv_iload hx hb dX12_leads_223 (lv_at hl 10 rfl) ?_
            refine lv_bipush (v := 24) hx hb dX12_leads_225 (by decide) ?_
            refine lv_idiv hx hb dX12_leads_227 (by decide) ?_
            refine lv_topi (fun x754 ex754 => ?_)
            have ex754 : x754.toInt = v145_8.toInt / (24 : Int) := by rw [ex754]; exact wk_div (show 0 ≤ v145_8.toInt from r68) (show 0 < (24 : Int) by decide)
            refine lv_icmp_ne (tgt := 235) hx hb dX12_leads_228 (by decide) (fun c755 => ?_) (fun c755 => ?_)
            · have c755 : ¬ x753.toInt = x754.toInt := wk_eqF c755
              refine lv_iconst (v := 0) hx hb dX12_leads_235 (by decide) ?_
              refine lv_iload hx hb dX12_leads_236 (lv_at hl 9 rfl) ?_
              refine tk_Vv hC hK hw hT hA hE hSR kM_at0 (by decide) rfl (k_X12_could_3 l adK adV dC dI cy ad B hB0 (Int.le_trans hB1 (by decide)) qr s1   x718 (show 0 ≤ x718.toInt by first | with_reducible assumption | omega) (show x718.toInt ≤ 120 by first | with_reducible assumption | omega) r720 (show 0 ≤ r720.toInt by first | with_reducible assumption | omega) (show r720.toInt ≤ 9 by first | with_reducible assumption | omega) v145_7 w85 H.size hT ) (cwV 4 hC.2.2.2.2 uV_RX12_439 rfl rfl rfl (by decide +kernel) ⟨Nat.le_of_ble_eq_true rfl, Nat.le_of_ble_eq_true rfl⟩) rfl hl.1 rfl (Nat.le_of_ble_eq_true rfl) dX12_leads_238 (fun w758 H locs hp757 hw => ?_)
              obtain ⟨hT, k759, hg760⟩ := hp757
              have hF := hF.tr k759 (by decide)
              have c761 := k759.gi kM_at12 rfl c88
              have c762 := k759.gi kM_at12 (by decide) c107
              have c763 := k759.gi kM_at12 rfl c108
              have c764 := k759.gi kM_at12 rfl c716
              have c765 := k759.gi kM_at12 rfl c728
              clear hg760
              exact J241 v145_7 v145_8 v145_9 r89 x718 f145_12__9_a1_toInt_217_toNat x106 H locs ls w758 (show 0 ≤ a1.toInt from r58) (show a1.toInt ≤ 3 from t59) (show 0 ≤ a2.toInt from r60) (show a2.toInt ≤ 1073741824 from t61) (show 0 ≤ a3.toInt from r62) (show a3.toInt ≤ 120 from t63) (show 0 ≤ a4.toInt from r64) (show a4.toInt ≤ 9 from t65) (show 0 ≤ a6.toInt from r66) (show a6.toInt ≤ 120 from t67) (show 0 ≤ v145_8.toInt from r68) (show v145_8.toInt ≤ 1073741944 from t69) (show 0 ≤ v145_9.toInt from r70) (show v145_9.toInt ≤ 1 from t71) (show 0 ≤ r89.toInt by first | with_reducible assumption | omega) (show r89.toInt ≤ 11 by first | with_reducible assumption | omega) (show 0 ≤ x718.toInt by first | with_reducible assumption | omega) (show x718.toInt ≤ 129 by first | with_reducible assumption | omega) (show 0 ≤ f145_12__9_a1_toInt_217_toNat.toInt from r72) (show f145_12__9_a1_toInt_217_toNat.toInt ≤ 9 from t73) (show 1 ≤ x106.toInt by first | with_reducible assumption | omega) (show x106.toInt ≤ 12 by first | with_reducible assumption | omega)  hw hT hF c761 c762 (lv_sub hl [2, 3, 4, 5, 6, 7, 8, 9, 10, 11, 1, 0] rfl)
            · have c755 : x753.toInt = x754.toInt := wk_eq.mp c755
              refine lv_iconst (v := 1) hx hb dX12_leads_231 (by decide) ?_
              refine lv_goto (tgt := 236) hx hb dX12_leads_232 (by decide) ?_
              refine lv_iload hx hb dX12_leads_236 (lv_at hl 9 rfl) ?_
              refine tk_Vv hC hK hw hT hA hE hSR kM_at0 (by decide) rfl (k_X12_could_6 l adK adV dC dI cy ad B hB0 (Int.le_trans hB1 (by decide)) qr s1   x718 (show 0 ≤ x718.toInt by first | with_reducible assumption | omega) (show x718.toInt ≤ 120 by first | with_reducible assumption | omega) r720 (show 0 ≤ r720.toInt by first | with_reducible assumption | omega) (show r720.toInt ≤ 9 by first | with_reducible assumption | omega) v145_7 w85 H.size hT ) (cwV 4 hC.2.2.2.2 uV_RX12_439 rfl rfl rfl (by decide +kernel) ⟨Nat.le_of_ble_eq_true rfl, Nat.le_of_ble_eq_true rfl⟩) rfl hl.1 rfl (Nat.le_of_ble_eq_true rfl) dX12_leads_238 (fun w768 H locs hp767 hw => ?_)
              obtain ⟨hT, k769, hg770⟩ := hp767
              have hF := hF.tr k769 (by decide)
              have c771 := k769.gi kM_at12 rfl c88
              have c772 := k769.gi kM_at12 (by decide) c107
              have c773 := k769.gi kM_at12 rfl c108
              have c774 := k769.gi kM_at12 rfl c716
              have c775 := k769.gi kM_at12 rfl c728
              clear hg770
              exact J241 v145_7 v145_8 v145_9 r89 x718 f145_12__9_a1_toInt_217_toNat x106 H locs ls w768 (show 0 ≤ a1.toInt from r58) (show a1.toInt ≤ 3 from t59) (show 0 ≤ a2.toInt from r60) (show a2.toInt ≤ 1073741824 from t61) (show 0 ≤ a3.toInt from r62) (show a3.toInt ≤ 120 from t63) (show 0 ≤ a4.toInt from r64) (show a4.toInt ≤ 9 from t65) (show 0 ≤ a6.toInt from r66) (show a6.toInt ≤ 120 from t67) (show 0 ≤ v145_8.toInt from r68) (show v145_8.toInt ≤ 1073741944 from t69) (show 0 ≤ v145_9.toInt from r70) (show v145_9.toInt ≤ 1 from t71) (show 0 ≤ r89.toInt by first | with_reducible assumption | omega) (show r89.toInt ≤ 11 by first | with_reducible assumption | omega) (show 0 ≤ x718.toInt by first | with_reducible assumption | omega) (show x718.toInt ≤ 129 by first | with_reducible assumption | omega) (show 0 ≤ f145_12__9_a1_toInt_217_toNat.toInt from r72) (show f145_12__9_a1_toInt_217_toNat.toInt ≤ 9 from t73) (show 1 ≤ x106.toInt by first | with_reducible assumption | omega) (show x106.toInt ≤ 12 by first | with_reducible assumption | omega)  hw hT hF c771 c772 (lv_sub hl [2, 3, 4, 5, 6, 7, 8, 9, 10, 11, 1, 0] rfl)
    · refine lv_istore (lv' := [(10, .int (-1)), (0, .ref (ad 0)), (1, .int a1), (2, .int a2), (3, .int a3), (4, .int a4), (5, .int 1), (6, .int a6), (7, .int v145_7), (8, .int v145_8), (9, .int v145_9)]) hx hb dX12_leads_161 hl (by decide) rfl (fun ls hl => ?_)
      refine lv_iload hx hb dX12_leads_163 (lv_at hl 0 rfl) ?_
      refine lv_if_lt (tgt := 181) hx hb dX12_leads_165 (by decide) (fun _ => ?_) (fun c => absurd (by decide) c)
      exact J181 v145_7 v145_8 v145_9 (-1) f145_12__9_a1_toInt_217_toNat H locs ls w85 (show 0 ≤ a1.toInt from r58) (show a1.toInt ≤ 3 from t59) (show 0 ≤ a2.toInt from r60) (show a2.toInt ≤ 1073741824 from t61) (show 0 ≤ a3.toInt from r62) (show a3.toInt ≤ 120 from t63) (show 0 ≤ a4.toInt from r64) (show a4.toInt ≤ 9 from t65) (show 0 ≤ a6.toInt from r66) (show a6.toInt ≤ 120 from t67) (show 0 ≤ v145_8.toInt from r68) (show v145_8.toInt ≤ 1073741944 from t69) (show 0 ≤ v145_9.toInt from r70) (show v145_9.toInt ≤ 1 from t71) (by decide) (by decide) (show 0 ≤ f145_12__9_a1_toInt_217_toNat.toInt from r72) (show f145_12__9_a1_toInt_217_toNat.toInt ≤ 9 from t73)  hw hT hF c88 (lv_sub hl [1, 2, 3, 4, 5, 6, 7, 8, 9, 10, 0] rfl)
  have J115 : ∀ (v115_7 : Int32) (v115_8 : Int32) (v115_9 : Int32) (f115_12__9_a1_toInt_217_toNat : Int32) (H : Heap) (locs : List Loc) (ls : Array Slot) (w776 : va_W), 0 ≤ a1.toInt → a1.toInt ≤ 3 → 0 ≤ a2.toInt → a2.toInt ≤ 1073741824 → 0 ≤ a3.toInt → a3.toInt ≤ 120 → 0 ≤ a4.toInt → a4.toInt ≤ 9 → 0 ≤ a6.toInt → a6.toInt ≤ 120 → 0 ≤ v115_8.toInt → v115_8.toInt ≤ 1073741944 → 0 ≤ v115_9.toInt → v115_9.toInt ≤ 1 → 0 ≤ f115_12__9_a1_toInt_217_toNat.toInt → f115_12__9_a1_toInt_217_toNat.toInt ≤ 9 → Wd dC dI A s.heap H locs w776 → TW ksM ad cy B qr 12 w776 → FE ksM [(72, 0, 12), (73, 0, 10), (76, 0, 2600)] w0 w776 → gi w776 12 (9 * a1.toInt + 217).toNat = f115_12__9_a1_toInt_217_toNat → lv_has ls 12 [(0, .ref (ad 0)), (1, .int a1), (2, .int a2), (3, .int a3), (4, .int a4), (5, .int 1), (6, .int a6), (7, .int v115_7), (8, .int v115_8), (9, .int v115_9)] → W p l e ({ frames := 5, cells := 0, slots := 0, locals := 103 }) s m (List.toArray [.ref (ad 0), .int a1, .int a2, .int a3, .int a4, .int 1, .int a6]) below meth c H locs 0 0 (MQ below (va_Qv (P_X12_leads_2 ad cy B qr s1 a1 a2 a3 a4 a6 w0) (fun u : va_W => wpost dC dI cy A u) A) (List.toArray [.ref (ad 0), .int a1, .int a2, .int a3, .int a4, .int 1, .int a6]) s 0 0 A) (F0 m 115 ls []) := by
    intro v115_7 v115_8 v115_9 f115_12__9_a1_toInt_217_toNat H locs ls w776 r777 t778 r779 t780 r781 t782 r783 t784 r785 t786 r787 t788 r789 t790 r791 t792 hw hT hF c793 hl
    refine lv_iload hx hb dX12_leads_115 (lv_at hl 5 rfl) ?_
    refine lv_if_eq (tgt := 135) hx hb dX12_leads_117 (by decide) (fun c => absurd c (by decide)) (fun _ => ?_)
    refine lv_aload_n hx hb dX12_leads_120 rfl (lv_at hl 0 rfl) ?_
    refine lv_iload hx hb dX12_leads_121 (lv_at hl 8 rfl) ?_
    refine lv_bipush (v := 24) hx hb dX12_leads_123 (by decide) ?_
    refine lv_idiv hx hb dX12_leads_125 (by decide) ?_
    refine lv_topi (fun x794 ex794 => ?_)
    have ex794 : x794.toInt = v115_8.toInt / (24 : Int) := by rw [ex794]; exact wk_div (show 0 ≤ v115_8.toInt from r787) (show 0 < (24 : Int) by decide)
    refine lv_bipush (v := 7) hx hb dX12_leads_126 (by decide) ?_
    refine lv_irem hx hb dX12_leads_128 (by decide) ?_
    refine lv_topi (fun x795 ex795 => ?_)
    have ex795 : x795.toInt = x794.toInt % (7 : Int) := by rw [ex795]; exact wk_rem (show 0 ≤ x794.toInt by first | with_reducible assumption | omega) (show 0 < (7 : Int) by decide)
    refine tk_Vv hC hK hw hT hA hE hSR kM_at0 (by decide) rfl (k_X12_takesDay_1 l adK adV dC dI cy ad B hB0 (Int.le_trans hB1 (by decide)) qr s1   x795 (show 0 ≤ x795.toInt by first | with_reducible assumption | omega) (show x795.toInt ≤ 6 by first | with_reducible assumption | omega) w776 H.size hT ) (cwV 1 hC.2.2.2.2 uV_RX12_381 rfl rfl rfl (by decide +kernel) ⟨Nat.le_of_ble_eq_true rfl, Nat.le_of_ble_eq_true rfl⟩) rfl hl.1 rfl (Nat.le_of_ble_eq_true rfl) dX12_leads_129 (fun w798 H locs hp797 hw => ?_)
    obtain ⟨hT, k799, hg800⟩ := hp797
    have hF := hF.tr k799 (by decide)
    have c801 := k799.gi kM_at12 rfl c793
    clear hg800
    refine lv_goto (tgt := 145) hx hb dX12_leads_132 (by decide) ?_
    exact J145 v115_7 v115_8 v115_9 f115_12__9_a1_toInt_217_toNat H locs ls w798 (show 0 ≤ a1.toInt from r777) (show a1.toInt ≤ 3 from t778) (show 0 ≤ a2.toInt from r779) (show a2.toInt ≤ 1073741824 from t780) (show 0 ≤ a3.toInt from r781) (show a3.toInt ≤ 120 from t782) (show 0 ≤ a4.toInt from r783) (show a4.toInt ≤ 9 from t784) (show 0 ≤ a6.toInt from r785) (show a6.toInt ≤ 120 from t786) (show 0 ≤ v115_8.toInt from r787) (show v115_8.toInt ≤ 1073741944 from t788) (show 0 ≤ v115_9.toInt from r789) (show v115_9.toInt ≤ 1 from t790) (show 0 ≤ f115_12__9_a1_toInt_217_toNat.toInt from r791) (show f115_12__9_a1_toInt_217_toNat.toInt ≤ 9 from t792)  hw hT hF c801 (lv_sub hl [0, 1, 2, 3, 4, 5, 6, 7, 8, 9] rfl)
  refine lv_aload_n hx hb dX12_leads_0 rfl (lv_at hl 0 rfl) ?_
  refine tk_getA hC hK hw hT hinX12 kM_at0 (by decide) rfl 34 (by decide) (List.mem_cons_of_mem _ uw_7_7) rfl rfl dX12_leads_1 ?_
  refine lv_aload_n hx hb dX12_leads_4 rfl (lv_at hl 0 rfl) ?_
  refine lv_iload_n hx hb dX12_leads_5 rfl (lv_at hl 3 rfl) ?_
  refine lv_iload hx hb dX12_leads_6 (lv_at hl 4 rfl) ?_
  refine lv_iload hx hb dX12_leads_8 (lv_at hl 5 rfl) ?_
  refine tk_Vi hC hK hw hT hA hE hSR kM_at0 (by decide) rfl (k_X12_placeAt_6 l adK adV dC dI cy ad B hB0 (Int.le_trans hB1 (by decide)) qr s1   a3 (show 0 ≤ a3.toInt from ra3) (show a3.toInt ≤ 120 from ta3) a4 (show 0 ≤ a4.toInt from ra4) (show a4.toInt ≤ 9 from ta4) w0 s.heap.size hT ) (cwV 3 hC.2.2.2.2 uV_RX12_435 rfl rfl rfl (by decide +kernel) ⟨Nat.le_of_ble_eq_true rfl, Nat.le_of_ble_eq_true rfl⟩) rfl hl.1 rfl (Nat.le_of_ble_eq_true rfl) dX12_leads_10 (fun r802 w804 H locs hp803 hw => ?_)
  obtain ⟨rfl, hg808⟩ := hp803
  obtain ⟨g806, g807⟩ := hg808
  refine tk_iald hC hK hw hT kM_at17 rfl rfl (show 0 ≤ r802.toInt by first | with_reducible assumption | omega) (show r802.toInt < 2600 by first | with_reducible assumption | omega) dX12_leads_13 (fun x809 c810 rx809 tx809 => ?_)
  refine lv_istore (lv' := [(7, .int x809), (0, .ref (ad 0)), (1, .int a1), (2, .int a2), (3, .int a3), (4, .int a4), (5, .int 1), (6, .int a6)]) hx hb dX12_leads_14 hl (by decide) rfl (fun ls hl => ?_)
  refine lv_iload hx hb dX12_leads_16 (lv_at hl 0 rfl) ?_
  refine lv_ldcw (v := 100000000) hx hb hC.2.2.2.1 (hC.2.2.2.2 _ (List.mem_cons_of_mem _ uw_38_2)) dX12_leads_18 ?_
  refine lv_icmp_eq (tgt := 41) hx hb dX12_leads_21 (by decide) (fun c811 => ?_) (fun c811 => ?_)
  · have c811 : x809.toInt = (100000000 : Int) := wk_eq.mp c811
    exact J41 x809 H locs ls w0 (show 0 ≤ a1.toInt from ra1) (show a1.toInt ≤ 3 from ta1) (show 0 ≤ a2.toInt from ra2) (show a2.toInt ≤ 1073741824 from ta2) (show 0 ≤ a3.toInt from ra3) (show a3.toInt ≤ 120 from ta3) (show 0 ≤ a4.toInt from ra4) (show a4.toInt ≤ 9 from ta4) (show 0 ≤ a6.toInt from ra6) (show a6.toInt ≤ 120 from ta6)  hw hT hF  (lv_sub hl [1, 2, 3, 4, 5, 6, 7, 0] rfl)
  · have c811 : ¬ x809.toInt = (100000000 : Int) := wk_eqF c811
    refine lv_iload_n hx hb dX12_leads_24 rfl (lv_at hl 4 rfl) ?_
    refine lv_iload hx hb dX12_leads_25 (lv_at hl 7 rfl) ?_
    refine lv_icmp_eq (tgt := 41) hx hb dX12_leads_27 (by decide) (fun c812 => ?_) (fun c812 => ?_)
    · have c812 : a3.toInt = a6.toInt := wk_eq.mp c812
      exact J41 x809 H locs ls w0 (show 0 ≤ a1.toInt from ra1) (show a1.toInt ≤ 3 from ta1) (show 0 ≤ a2.toInt from ra2) (show a2.toInt ≤ 1073741824 from ta2) (show 0 ≤ a3.toInt from ra3) (show a3.toInt ≤ 120 from ta3) (show 0 ≤ a4.toInt from ra4) (show a4.toInt ≤ 9 from ta4) (show 0 ≤ a6.toInt from ra6) (show a6.toInt ≤ 120 from ta6)  hw hT hF  (lv_sub hl [1, 2, 3, 4, 5, 6, 7, 0] rfl)
    · have c812 : ¬ a3.toInt = a6.toInt := wk_eqF c812
      refine lv_iload hx hb dX12_leads_30 (lv_at hl 5 rfl) ?_
      refine lv_aload_n hx hb dX12_leads_32 rfl (lv_at hl 1 rfl) ?_
      refine lv_iload_n hx hb dX12_leads_33 rfl (lv_at hl 2 rfl) ?_
      refine lv_iconst (v := 1) hx hb dX12_leads_34 (by decide) ?_
      refine tk_Vi hC hK hw hT hA hE hSR kM_at0 (by decide) rfl (k_X12_walkerOf_3 l adK adV dC dI cy ad B hB0 (Int.le_trans hB1 (by decide)) qr s1   a1 (show 0 ≤ a1.toInt from ra1) (show a1.toInt ≤ 3 from ta1) w0 H.size hT ) (cwV 2 hC.2.2.2.2 uV_RX12_372 rfl rfl rfl (by decide +kernel) ⟨Nat.le_of_ble_eq_true rfl, Nat.le_of_ble_eq_true rfl⟩) rfl hl.1 rfl (Nat.le_of_ble_eq_true rfl) dX12_leads_35 (fun r813 w815 H locs hp814 hw => ?_)
      obtain ⟨rfl, hg820⟩ := hp814
      obtain ⟨g817, g818, c819⟩ := hg820
      refine lv_icmp_ne (tgt := 42) hx hb dX12_leads_38 (by decide) (fun c821 => ?_) (fun c821 => ?_)
      · have c821 : ¬ a4.toInt = r813.toInt := wk_eqF c821
        refine lv_iload_n hx hb dX12_leads_42 rfl (lv_at hl 3 rfl) ?_
        refine lv_iload_n hx hb dX12_leads_43 rfl (lv_at hl 4 rfl) ?_
        refine lv_iadd hx hb dX12_leads_44 ?_
        refine lv_topi (fun x822 ex822 => ?_)
        have ex822 : x822.toInt = a2.toInt + a3.toInt := by rw [ex822]; exact wk_add (show (-2147483648) ≤ a2.toInt + a3.toInt by omega) (show a2.toInt + a3.toInt ≤ 2147483647 by omega)
        refine lv_istore (lv' := [(8, .int x822), (7, .int x809), (0, .ref (ad 0)), (1, .int a1), (2, .int a2), (3, .int a3), (4, .int a4), (5, .int 1), (6, .int a6)]) hx hb dX12_leads_45 hl (by decide) rfl (fun ls hl => ?_)
        refine lv_iload hx hb dX12_leads_47 (lv_at hl 0 rfl) ?_
        refine lv_iconst (v := 1) hx hb dX12_leads_49 (by decide) ?_
        refine lv_iadd hx hb dX12_leads_50 ?_
        refine lv_topi (fun x823 ex823 => ?_)
        have ex823 : x823.toInt = x822.toInt + (1 : Int) := by rw [ex823]; exact wk_add (show (-2147483648) ≤ x822.toInt + (1 : Int) by omega) (show x822.toInt + (1 : Int) ≤ 2147483647 by omega)
        refine lv_bipush (v := 24) hx hb dX12_leads_51 (by decide) ?_
        refine lv_idiv hx hb dX12_leads_53 (by decide) ?_
        refine lv_topi (fun x824 ex824 => ?_)
        have ex824 : x824.toInt = x823.toInt / (24 : Int) := by rw [ex824]; exact wk_div (show 0 ≤ x823.toInt by first | with_reducible assumption | omega) (show 0 < (24 : Int) by decide)
        refine lv_iload hx hb dX12_leads_54 (lv_at hl 0 rfl) ?_
        refine lv_bipush (v := 24) hx hb dX12_leads_56 (by decide) ?_
        refine lv_idiv hx hb dX12_leads_58 (by decide) ?_
        refine lv_topi (fun x825 ex825 => ?_)
        have ex825 : x825.toInt = x822.toInt / (24 : Int) := by rw [ex825]; exact wk_div (show 0 ≤ x822.toInt by first | with_reducible assumption | omega) (show 0 < (24 : Int) by decide)
        refine lv_icmp_ne (tgt := 66) hx hb dX12_leads_59 (by decide) (fun c826 => ?_) (fun c826 => ?_)
        · have c826 : ¬ x824.toInt = x825.toInt := wk_eqF c826
          refine lv_iconst (v := 0) hx hb dX12_leads_66 (by decide) ?_
          refine lv_istore (lv' := [(9, .int 0), (8, .int x822), (7, .int x809), (0, .ref (ad 0)), (1, .int a1), (2, .int a2), (3, .int a3), (4, .int a4), (5, .int 1), (6, .int a6)]) hx hb dX12_leads_67 hl (by decide) rfl (fun ls hl => ?_)
          refine lv_aload_n hx hb dX12_leads_69 rfl (lv_at hl 3 rfl) ?_
          refine lv_iload_n hx hb dX12_leads_70 rfl (lv_at hl 6 rfl) ?_
          refine lv_iconst (v := 1) hx hb dX12_leads_71 (by decide) ?_
          refine lv_iadd hx hb dX12_leads_72 ?_
          refine lv_topi (fun x827 ex827 => ?_)
          have ex827 : x827.toInt = a3.toInt + (1 : Int) := by rw [ex827]; exact wk_add (show (-2147483648) ≤ a3.toInt + (1 : Int) by omega) (show a3.toInt + (1 : Int) ≤ 2147483647 by omega)
          refine lv_iload hx hb dX12_leads_73 (lv_at hl 7 rfl) ?_
          refine lv_iload hx hb dX12_leads_75 (lv_at hl 8 rfl) ?_
          refine lv_if_eq (tgt := 89) hx hb dX12_leads_77 (by decide) (fun c => absurd c (by decide)) (fun _ => ?_)
          refine lv_iload hx hb dX12_leads_80 (lv_at hl 0 rfl) ?_
          refine lv_if_eq (tgt := 89) hx hb dX12_leads_82 (by decide) (fun _ => ?_) (fun c => absurd (by decide) c)
          refine lv_iconst (v := 0) hx hb dX12_leads_89 (by decide) ?_
          refine lv_iload hx hb dX12_leads_90 (lv_at hl 2 rfl) ?_
          refine tk_Vv hC hK hw hT hA hE hSR kM_at0 (by decide) rfl (k_X12_could_4 l adK adV dC dI cy ad B hB0 (Int.le_trans hB1 (by decide)) qr s1   x827 (show 1 ≤ x827.toInt by first | with_reducible assumption | omega) (show x827.toInt ≤ 121 by first | with_reducible assumption | omega) a4 (show 0 ≤ a4.toInt from ra4) (show a4.toInt ≤ 9 from ta4) x809 w0 H.size hT ) (cwV 4 hC.2.2.2.2 uV_RX12_439 rfl rfl rfl (by decide +kernel) ⟨Nat.le_of_ble_eq_true rfl, Nat.le_of_ble_eq_true rfl⟩) rfl hl.1 rfl (Nat.le_of_ble_eq_true rfl) dX12_leads_92 (fun w830 H locs hp829 hw => ?_)
          obtain ⟨hT, k831, hg832⟩ := hp829
          have hF := hF.tr k831 (by decide)
          have c833 := k831.gi kM_at12 rfl c819
          clear hg832
          refine lv_iload hx hb dX12_leads_95 (lv_at hl 8 rfl) ?_
          refine lv_if_ne (tgt := 115) hx hb dX12_leads_97 (by decide) (fun _ => ?_) (fun c => absurd c (by decide))
          exact J115 x809 x822 0 r813 H locs ls w830 (show 0 ≤ a1.toInt from ra1) (show a1.toInt ≤ 3 from ta1) (show 0 ≤ a2.toInt from ra2) (show a2.toInt ≤ 1073741824 from ta2) (show 0 ≤ a3.toInt from ra3) (show a3.toInt ≤ 120 from ta3) (show 0 ≤ a4.toInt from ra4) (show a4.toInt ≤ 9 from ta4) (show 0 ≤ a6.toInt from ra6) (show a6.toInt ≤ 120 from ta6) (show 0 ≤ x822.toInt by first | with_reducible assumption | omega) (show x822.toInt ≤ 1073741944 by first | with_reducible assumption | omega) (by decide) (by decide) (show 0 ≤ r813.toInt by first | with_reducible assumption | omega) (show r813.toInt ≤ 9 by first | with_reducible assumption | omega)  hw hT hF c833 (lv_sub hl [3, 4, 5, 6, 7, 8, 9, 2, 1, 0] rfl)
        · have c826 : x824.toInt = x825.toInt := wk_eq.mp c826
          refine lv_iconst (v := 1) hx hb dX12_leads_62 (by decide) ?_
          refine lv_goto (tgt := 67) hx hb dX12_leads_63 (by decide) ?_
          refine lv_istore (lv' := [(9, .int 1), (8, .int x822), (7, .int x809), (0, .ref (ad 0)), (1, .int a1), (2, .int a2), (3, .int a3), (4, .int a4), (5, .int 1), (6, .int a6)]) hx hb dX12_leads_67 hl (by decide) rfl (fun ls hl => ?_)
          refine lv_aload_n hx hb dX12_leads_69 rfl (lv_at hl 3 rfl) ?_
          refine lv_iload_n hx hb dX12_leads_70 rfl (lv_at hl 6 rfl) ?_
          refine lv_iconst (v := 1) hx hb dX12_leads_71 (by decide) ?_
          refine lv_iadd hx hb dX12_leads_72 ?_
          refine lv_topi (fun x834 ex834 => ?_)
          have ex834 : x834.toInt = a3.toInt + (1 : Int) := by rw [ex834]; exact wk_add (show (-2147483648) ≤ a3.toInt + (1 : Int) by omega) (show a3.toInt + (1 : Int) ≤ 2147483647 by omega)
          refine lv_iload hx hb dX12_leads_73 (lv_at hl 7 rfl) ?_
          refine lv_iload hx hb dX12_leads_75 (lv_at hl 8 rfl) ?_
          refine lv_if_eq (tgt := 89) hx hb dX12_leads_77 (by decide) (fun c => absurd c (by decide)) (fun _ => ?_)
          refine lv_iload hx hb dX12_leads_80 (lv_at hl 0 rfl) ?_
          refine lv_if_eq (tgt := 89) hx hb dX12_leads_82 (by decide) (fun c => absurd c (by decide)) (fun _ => ?_)
          refine lv_iconst (v := 1) hx hb dX12_leads_85 (by decide) ?_
          refine lv_goto (tgt := 90) hx hb dX12_leads_86 (by decide) ?_
          refine lv_iload hx hb dX12_leads_90 (lv_at hl 2 rfl) ?_
          refine tk_Vv hC hK hw hT hA hE hSR kM_at0 (by decide) rfl (k_X12_could_5 l adK adV dC dI cy ad B hB0 (Int.le_trans hB1 (by decide)) qr s1   x834 (show 1 ≤ x834.toInt by first | with_reducible assumption | omega) (show x834.toInt ≤ 121 by first | with_reducible assumption | omega) a4 (show 0 ≤ a4.toInt from ra4) (show a4.toInt ≤ 9 from ta4) x809 w0 H.size hT ) (cwV 4 hC.2.2.2.2 uV_RX12_439 rfl rfl rfl (by decide +kernel) ⟨Nat.le_of_ble_eq_true rfl, Nat.le_of_ble_eq_true rfl⟩) rfl hl.1 rfl (Nat.le_of_ble_eq_true rfl) dX12_leads_92 (fun w837 H locs hp836 hw => ?_)
          obtain ⟨hT, k838, hg839⟩ := hp836
          have hF := hF.tr k838 (by decide)
          have c840 := k838.gi kM_at12 rfl c819
          clear hg839
          refine lv_iload hx hb dX12_leads_95 (lv_at hl 8 rfl) ?_
          refine lv_if_ne (tgt := 115) hx hb dX12_leads_97 (by decide) (fun _ => ?_) (fun c => absurd c (by decide))
          exact J115 x809 x822 1 r813 H locs ls w837 (show 0 ≤ a1.toInt from ra1) (show a1.toInt ≤ 3 from ta1) (show 0 ≤ a2.toInt from ra2) (show a2.toInt ≤ 1073741824 from ta2) (show 0 ≤ a3.toInt from ra3) (show a3.toInt ≤ 120 from ta3) (show 0 ≤ a4.toInt from ra4) (show a4.toInt ≤ 9 from ta4) (show 0 ≤ a6.toInt from ra6) (show a6.toInt ≤ 120 from ta6) (show 0 ≤ x822.toInt by first | with_reducible assumption | omega) (show x822.toInt ≤ 1073741944 by first | with_reducible assumption | omega) (by decide) (by decide) (show 0 ≤ r813.toInt by first | with_reducible assumption | omega) (show r813.toInt ≤ 9 by first | with_reducible assumption | omega)  hw hT hF c840 (lv_sub hl [3, 4, 5, 6, 7, 8, 9, 2, 1, 0] rfl)
      · have c821 : a4.toInt = r813.toInt := wk_eq.mp c821
        exact J41 x809 H locs ls w0 (show 0 ≤ a1.toInt from ra1) (show a1.toInt ≤ 3 from ta1) (show 0 ≤ a2.toInt from ra2) (show a2.toInt ≤ 1073741824 from ta2) (show 0 ≤ a3.toInt from ra3) (show a3.toInt ≤ 120 from ta3) (show 0 ≤ a4.toInt from ra4) (show a4.toInt ≤ 9 from ta4) (show 0 ≤ a6.toInt from ra6) (show a6.toInt ≤ 120 from ta6)  hw hT hF  (lv_sub hl [1, 2, 3, 4, 5, 6, 7, 0] rfl)
