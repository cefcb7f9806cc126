abbrev P_X12_placeAt_6 (ad : Nat → Nat) (cy : Nat → ClassId) (B : Int) (qr : Nat) (s1 : Int) (a1 : Int32) (a2 : Int32) (w0 : va_W) : Int32 → va_W → Prop := fun r u => w0 = u ∧ ((1 ≤ r.toInt ∧ r.toInt ≤ 2419))
set_option maxHeartbeats 4000000 in
set_option maxRecDepth 100000 in
theorem k_X12_placeAt_6 (l : Launch) (adK adV : Nat → Nat) (dC : Nat → ClassId) (dI : Nat → Nat → Nat) (cy : Nat → ClassId) (ad : Nat → Nat) (B : Int) (hB0 : 100000 ≤ B) (hB1 : B ≤ 1073741824) (qr : Nat) (s1 : Int)  (a1 : Int32) (ra1 : 0 ≤ a1.toInt) (ta1 : a1.toInt ≤ 120) (a2 : Int32) (ra2 : 0 ≤ a2.toInt) (ta2 : a2.toInt ≤ 9) (w0 : va_W) (sz : Nat) (hT : TW ksM ad cy B qr 12 w0)  : Met l yX12_placeAt wsX12_placeAt ({ frames := 1, cells := 0, slots := 0, locals := 12 }) (va_Pc [.ref (ad 0), .int a1, .int a2, .int 1] (wpreS adK adV dC dI cy sz w0)) (va_Qi (P_X12_placeAt_6 ad cy B qr s1 a1 a2 w0) (fun u : va_W => wpost dC dI cy (va_A w0 sz) u) (va_A w0 sz)) 0 0 (va_A w0 sz) := by
  refine Met.ofW (cc := cX12_placeAt) (maxL := 4) (ret := (some .int)) (by decide) rfl ?_
  intro p e s m args below meth c s₁ Bk hml hv
  obtain ⟨rfl, ⟨hsz, hP, hK, hD0⟩, hE, hSR⟩ := hv
  have hx := Bk.exec
  have hb := Bk.bytes
  have hr := Bk.returns
  have hlocks := Bk.notSynchronized
  have hC : CallFix p m c cX12_placeAt 4 s _ wsX12_placeAt RX12 := ⟨hx, hb, hml, findClass_of_methodNamed Bk.named, atoms_spec (ws := wsX12_placeAt) Bk.pre⟩
  subst hsz
  have hD := hD0.self (sz := s.heap.size)
  generalize hAe : va_A w0 s.heap.size = A at hD hE ⊢
  have hA : ∀ q : Nat, s.heap.size ≤ q → A q := fun q h => by rw [← hAe]; exact Or.inr h
  have hw : Wd dC dI A s.heap s.heap [] w0 := ⟨hP, hD, va_S.rf⟩
  have hF : FE ksM ([] : List (Nat × Nat × Nat)) w0 w0 := FE.rf
  have hl := lv_entry ([.ref (ad 0), .int a1, .int a2, .int 1]) (n := 4) (Nat.le_of_ble_eq_true rfl)
  rw [lg_entry_eq]
  generalize (lg_sl ([.ref (ad 0), .int a1, .int a2, .int 1]) ++ List.replicate (4 - (lg_sl ([.ref (ad 0), .int a1, .int a2, .int 1])).length) Slot.unset).toArray = ls at hl ⊢
  have hl : lv_has ls 4 [(0, .ref (ad 0)), (1, .int a1), (2, .int a2), (3, .int 1)] := hl
  generalize hloc : ([] : List Loc) = locs at hw ⊢
  refine lv_iload_n hx hb dX12_placeAt_0 rfl (lv_at hl 1 rfl) ?_
  refine lv_bipush (v := 10) hx hb dX12_placeAt_1 (by decide) ?_
  refine lv_imul hx hb dX12_placeAt_3 ?_
  refine lv_topi (fun x1 ex1 => ?_)
  have ex1 : x1.toInt = a1.toInt * (10 : Int) := by rw [ex1]; exact wk_mul (show (-2147483648) ≤ a1.toInt * (10 : Int) by omega) (show a1.toInt * (10 : Int) ≤ 2147483647 by omega)
  refine lv_iload_n hx hb dX12_placeAt_4 rfl (lv_at hl 2 rfl) ?_
  refine lv_iadd hx hb dX12_placeAt_5 ?_
  refine lv_topi (fun x2 ex2 => ?_)
  have ex2 : x2.toInt = x1.toInt + a2.toInt := by rw [ex2]; exact wk_add (show (-2147483648) ≤ x1.toInt + a2.toInt by omega) (show x1.toInt + a2.toInt ≤ 2147483647 by omega)
  refine lv_iconst (v := 2) hx hb dX12_placeAt_6 (by decide) ?_
  refine lv_imul hx hb dX12_placeAt_7 ?_
  refine lv_topi (fun x3 ex3 => ?_)
  have ex3 : x3.toInt = x2.toInt * (2 : Int) := by rw [ex3]; exact wk_mul (show (-2147483648) ≤ x2.toInt * (2 : Int) by omega) (show x2.toInt * (2 : Int) ≤ 2147483647 by omega)
  refine lv_iload_n hx hb dX12_placeAt_8 rfl (lv_at hl 3 rfl) ?_
  refine lv_if_eq (tgt := 16) hx hb dX12_placeAt_9 (by decide) (fun c => absurd c (by decide)) (fun _ => ?_)
  refine lv_iconst (v := 1) hx hb dX12_placeAt_12 (by decide) ?_
  refine lv_goto (tgt := 17) hx hb dX12_placeAt_13 (by decide) ?_
  refine lv_iadd hx hb dX12_placeAt_17 ?_
  refine lv_topi (fun x4 ex4 => ?_)
  have ex4 : x4.toInt = x3.toInt + (1 : Int) := by rw [ex4]; exact wk_add (show (-2147483648) ≤ x3.toInt + (1 : Int) by omega) (show x3.toInt + (1 : Int) ≤ 2147483647 by omega)
  exact tk_iret hC hr hlocks hK ⟨rfl, ⟨(show 1 ≤ x4.toInt by omega), (show x4.toInt ≤ 2419 by omega)⟩⟩ hw dX12_placeAt_18
abbrev P_X12_could_6 (ad : Nat → Nat) (cy : Nat → ClassId) (B : Int) (qr : Nat) (s1 : Int) (a1 : Int32) (a2 : Int32) (a4 : Int32) (w0 : va_W) : va_W → Prop := fun u => TW ksM ad cy B qr 12 u ∧ FE ksM [(76, 0, 2600)] w0 u ∧ ((True))
set_option maxHeartbeats 4000000 in
set_option maxRecDepth 100000 in
theorem k_X12_could_6 (l : Launch) (adK adV : Nat → Nat) (dC : Nat → ClassId) (dI : Nat → Nat → Nat) (cy : Nat → ClassId) (ad : Nat → Nat) (B : Int) (hB0 : 100000 ≤ B) (hB1 : B ≤ 1073741824) (qr : Nat) (s1 : Int)  (a1 : Int32) (ra1 : 0 ≤ a1.toInt) (ta1 : a1.toInt ≤ 120) (a2 : Int32) (ra2 : 0 ≤ a2.toInt) (ta2 : a2.toInt ≤ 9) (a4 : Int32) (w0 : va_W) (sz : Nat) (hT : TW ksM ad cy B qr 12 w0)  : Met l yX12_could wsX12_could ({ frames := 2, cells := 0, slots := 0, locals := 35 }) (va_Pc [.ref (ad 0), .int a1, .int a2, .int 1, .int a4] (wpreS adK adV dC dI cy sz w0)) (va_Qv (P_X12_could_6 ad cy B qr s1 a1 a2 a4 w0) (fun u : va_W => wpost dC dI cy (va_A w0 sz) u) (va_A w0 sz)) 0 0 (va_A w0 sz) := by
  refine Met.ofW (cc := cX12_could) (maxL := 6) (ret := none) (by decide) rfl ?_
  intro p e s m args below meth c s₁ Bk hml hv
  obtain ⟨rfl, ⟨hsz, hP, hK, hD0⟩, hE, hSR⟩ := hv
  have hx := Bk.exec
  have hb := Bk.bytes
  have hr := Bk.returns
  have hlocks := Bk.notSynchronized
  have hC : CallFix p m c cX12_could 6 s _ wsX12_could RX12 := ⟨hx, hb, hml, findClass_of_methodNamed Bk.named, atoms_spec (ws := wsX12_could) Bk.pre⟩
  subst hsz
  have hD := hD0.self (sz := s.heap.size)
  generalize hAe : va_A w0 s.heap.size = A at hD hE ⊢
  have hA : ∀ q : Nat, s.heap.size ≤ q → A q := fun q h => by rw [← hAe]; exact Or.inr h
  have hw : Wd dC dI A s.heap s.heap [] w0 := ⟨hP, hD, va_S.rf⟩
  have hF : FE ksM [(76, 0, 2600)] w0 w0 := FE.rf
  have hl := lv_entry ([.ref (ad 0), .int a1, .int a2, .int 1, .int a4]) (n := 6) (Nat.le_of_ble_eq_true rfl)
  rw [lg_entry_eq]
  generalize (lg_sl ([.ref (ad 0), .int a1, .int a2, .int 1, .int a4]) ++ List.replicate (6 - (lg_sl ([.ref (ad 0), .int a1, .int a2, .int 1, .int a4])).length) Slot.unset).toArray = ls at hl ⊢
  have hl : lv_has ls 6 [(0, .ref (ad 0)), (1, .int a1), (2, .int a2), (3, .int 1), (4, .int a4)] := hl
  generalize hloc : ([] : List Loc) = locs at hw ⊢
  have hinX12 : ∀ w ∈ u_ws RX12 TX12 42, w ∈ wsX12_could := fun _ h => List.mem_cons_of_mem _ (List.mem_append_right _ (h))
  have J30 : ∀ (v30_5 : Int32) (H : Heap) (locs : List Loc) (ls : Array Slot) (w1 : va_W), 0 ≤ a1.toInt → a1.toInt ≤ 120 → 0 ≤ a2.toInt → a2.toInt ≤ 9 → 1 ≤ v30_5.toInt → v30_5.toInt ≤ 2419 → Wd dC dI A s.heap H locs w1 → TW ksM ad cy B qr 12 w1 → FE ksM [(76, 0, 2600)] w0 w1 → lv_has ls 6 [(0, .ref (ad 0)), (1, .int a1), (2, .int a2), (3, .int 1), (4, .int a4), (5, .int v30_5)] → W p l e ({ frames := 2, cells := 0, slots := 0, locals := 35 }) s m (List.toArray [.ref (ad 0), .int a1, .int a2, .int 1, .int a4]) below meth c H locs 0 0 (MQ below (va_Qv (P_X12_could_6 ad cy B qr s1 a1 a2 a4 w0) (fun u : va_W => wpost dC dI cy A u) A) (List.toArray [.ref (ad 0), .int a1, .int a2, .int 1, .int a4]) s 0 0 A) (F0 m 30 ls []) := by
    intro v30_5 H locs ls w1 r2 t3 r4 t5 r6 t7 hw hT hF hl
    exact tk_vret hC hr hlocks hK ⟨hT, hF, trivial⟩ hw dX12_could_30
  refine lv_aload_n hx hb dX12_could_0 rfl (lv_at hl 0 rfl) ?_
  refine lv_iload_n hx hb dX12_could_1 rfl (lv_at hl 1 rfl) ?_
  refine lv_iload_n hx hb dX12_could_2 rfl (lv_at hl 2 rfl) ?_
  refine lv_iload_n hx hb dX12_could_3 rfl (lv_at hl 3 rfl) ?_
  refine tk_Vi hC hK hw hT hA hE hSR kM_at0 (by decide) rfl (k_X12_placeAt_6 l adK adV dC dI cy ad B (by omega) (by omega) qr s1   a1 (show 0 ≤ a1.toInt by omega) (show a1.toInt ≤ 120 by omega) a2 (show 0 ≤ a2.toInt by omega) (show a2.toInt ≤ 9 by omega) w0 s.heap.size hT ) (cwV 3 hC.2.2.2.2 gX12_could_X12_placeAt rfl rfl rfl (by decide +kernel) ⟨Nat.le_of_ble_eq_true rfl, Nat.le_of_ble_eq_true rfl⟩) rfl hl.1 rfl (Nat.le_of_ble_eq_true rfl) dX12_could_4 (fun r8 w10 H locs hp9 hw => ?_)
  obtain ⟨rfl, hg14⟩ := hp9
  obtain ⟨g12, g13⟩ := hg14
  refine lv_istore (lv' := [(5, .int r8), (0, .ref (ad 0)), (1, .int a1), (2, .int a2), (3, .int 1), (4, .int a4)]) hx hb dX12_could_7 hl (by decide) rfl (fun ls hl => ?_)
  refine lv_iload hx hb dX12_could_9 (lv_at hl 5 rfl) ?_
  refine lv_aload_n hx hb dX12_could_11 rfl (lv_at hl 1 rfl) ?_
  refine tk_getA hC hK hw hT hinX12 kM_at0 (by decide) rfl 34 (by decide) (List.mem_of_getElem? (i := 1) rfl) rfl rfl dX12_could_12 ?_
  refine lv_iload hx hb dX12_could_15 (lv_at hl 0 rfl) ?_
  refine tk_iald hC hK hw hT kM_at17 rfl rfl (show 0 ≤ r8.toInt by omega) (show r8.toInt < 2600 by omega) dX12_could_17 (fun x15 c16 rx15 tx15 => ?_)
  refine lv_icmp_ge (tgt := 30) hx hb dX12_could_18 (by decide) (fun c17 => ?_) (fun c17 => ?_)
  · have c17 : x15.toInt ≤ a4.toInt := wk_le.mp c17
    exact J30 r8 H locs ls w0 (show 0 ≤ a1.toInt by omega) (show a1.toInt ≤ 120 by omega) (show 0 ≤ a2.toInt by omega) (show a2.toInt ≤ 9 by omega) (show 1 ≤ r8.toInt by omega) (show r8.toInt ≤ 2419 by omega)  hw hT hF  (lv_sub hl [1, 2, 3, 4, 5, 0] rfl)
  · have c17 : a4.toInt < x15.toInt := wk_leF c17
    refine lv_aload_n hx hb dX12_could_21 rfl (lv_at hl 1 rfl) ?_
    refine tk_getA hC hK hw hT hinX12 kM_at0 (by decide) rfl 34 (by decide) (List.mem_of_getElem? (i := 1) rfl) rfl rfl dX12_could_22 ?_
    refine lv_iload hx hb dX12_could_25 (lv_at hl 0 rfl) ?_
    refine lv_iload hx hb dX12_could_27 (lv_at hl 5 rfl) ?_
    refine tk_iast hC hK hw hT kM_at17 (by decide) rfl rfl (show 0 ≤ r8.toInt by omega) (show r8.toInt < 2600 by omega) (wk_i32 a4).1 (wk_i32 a4).2 dX12_could_29 (fun H locs w18 hw hT k20 c19 => ?_)
    have hF := hF.put kM_at17 (inE_of (a := 0) (b := 2600) (by decide) (show 0 ≤ r8.toInt.toNat by omega) (show r8.toInt.toNat ≤ 2600 by omega)) k20
    exact J30 r8 H locs ls w18 (show 0 ≤ a1.toInt by omega) (show a1.toInt ≤ 120 by omega) (show 0 ≤ a2.toInt by omega) (show a2.toInt ≤ 9 by omega) (show 1 ≤ r8.toInt by omega) (show r8.toInt ≤ 2419 by omega)  hw hT hF  (lv_sub hl [1, 2, 3, 4, 5, 0] rfl)
abbrev P_X12_leads_2 (ad : Nat → Nat) (cy : Nat → ClassId) (B : Int) (qr : Nat) (s1 : Int) (a1 : Int32) (a2 : Int32) (a3 : Int32) (a4 : Int32) (a6 : Int32) (w0 : va_W) : va_W → Prop := fun u => TW ksM ad cy B qr 12 u ∧ FE ksM [(72, 0, 12), (73, 0, 10), (76, 0, 2600)] w0 u ∧ ((True))
set_option maxHeartbeats 4000000 in
set_option maxRecDepth 100000 in
theorem k_X12_leads_2 (l : Launch) (adK adV : Nat → Nat) (dC : Nat → ClassId) (dI : Nat → Nat → Nat) (cy : Nat → ClassId) (ad : Nat → Nat) (B : Int) (hB0 : 100000 ≤ B) (hB1 : B ≤ 1073741824) (qr : Nat) (s1 : Int)  (a1 : Int32) (ra1 : 0 ≤ a1.toInt) (ta1 : a1.toInt ≤ 3) (a2 : Int32) (ra2 : 0 ≤ a2.toInt) (ta2 : a2.toInt ≤ 1073741824) (a3 : Int32) (ra3 : 0 ≤ a3.toInt) (ta3 : a3.toInt ≤ 120) (a4 : Int32) (ra4 : 0 ≤ a4.toInt) (ta4 : a4.toInt ≤ 9) (a6 : Int32) (ra6 : 0 ≤ a6.toInt) (ta6 : a6.toInt ≤ 120) (w0 : va_W) (sz : Nat) (hT : TW ksM ad cy B qr 12 w0)  : Met l yX12_leads wsX12_leads ({ frames := 5, cells := 0, slots := 0, locals := 103 }) (va_Pc [.ref (ad 0), .int a1, .int a2, .int a3, .int a4, .int 1, .int a6] (wpreS adK adV dC dI cy sz w0)) (va_Qv (P_X12_leads_2 ad cy B qr s1 a1 a2 a3 a4 a6 w0) (fun u : va_W => wpost dC dI cy (va_A w0 sz) u) (va_A w0 sz)) 0 0 (va_A w0 sz) := by
  refine Met.ofW (cc := cX12_leads) (maxL := 12) (ret := none) (by decide) rfl ?_
  intro p e s m args below meth c s₁ Bk hml hv
  obtain ⟨rfl, ⟨hsz, hP, hK, hD0⟩, hE, hSR⟩ := hv
  have hx := Bk.exec
  have hb := Bk.bytes
  have hr := Bk.returns
  have hlocks := Bk.notSynchronized
  have hC : CallFix p m c cX12_leads 12 s _ wsX12_leads RX12 := ⟨hx, hb, hml, findClass_of_methodNamed Bk.named, atoms_spec (ws := wsX12_leads) Bk.pre⟩
  subst hsz
  have hD := hD0.self (sz := s.heap.size)
  generalize hAe : va_A w0 s.heap.size = A at hD hE ⊢
  have hA : ∀ q : Nat, s.heap.size ≤ q → A q := fun q h => by rw [← hAe]; exact Or.inr h
  have hw : Wd dC dI A s.heap s.heap [] w0 := ⟨hP, hD, va_S.rf⟩
  have hF : FE ksM [(72, 0, 12), (73, 0, 10), (76, 0, 2600)] w0 w0 := FE.rf
  have hl := lv_entry ([.ref (ad 0), .int a1, .int a2, .int a3, .int a4, .int 1, .int a6]) (n := 12) (Nat.le_of_ble_eq_true rfl)
  rw [lg_entry_eq]
  generalize (lg_sl ([.ref (ad 0), .int a1, .int a2, .int a3, .int a4, .int 1, .int a6]) ++ List.replicate (12 - (lg_sl ([.ref (ad 0), .int a1, .int a2, .int a3, .int a4, .int 1, .int a6])).length) Slot.unset).toArray = ls at hl ⊢
  have hl : lv_has ls 12 [(0, .ref (ad 0)), (1, .int a1), (2, .int a2), (3, .int a3), (4, .int a4), (5, .int 1), (6, .int a6)] := hl
  generalize hloc : ([] : List Loc) = locs at hw ⊢
  have hinX12 : ∀ w ∈ u_ws RX12 TX12 42, w ∈ wsX12_leads := fun _ h => List.mem_cons_of_mem _ (List.mem_append_right _ (h))
  have J41 : ∀ (v41_7 : Int32) (H : Heap) (locs : List Loc) (ls : Array Slot) (w1 : va_W), 0 ≤ a1.toInt → a1.toInt ≤ 3 → 0 ≤ a2.toInt → a2.toInt ≤ 1073741824 → 0 ≤ a3.toInt → a3.toInt ≤ 120 → 0 ≤ a4.toInt → a4.toInt ≤ 9 → 0 ≤ a6.toInt → a6.toInt ≤ 120 → Wd dC dI A s.heap H locs w1 → TW ksM ad cy B qr 12 w1 → FE ksM [(72, 0, 12), (73, 0, 10), (76, 0, 2600)] w0 w1 → lv_has ls 12 [(0, .ref (ad 0)), (1, .int a1), (2, .int a2), (3, .int a3), (4, .int a4), (5, .int 1), (6, .int a6), (7, .int v41_7)] → W p l e ({ frames := 5, cells := 0, slots := 0, locals := 103 }) s m (List.toArray [.ref (ad 0), .int a1, .int a2, .int a3, .int a4, .int 1, .int a6]) below meth c H locs 0 0 (MQ below (va_Qv (P_X12_leads_2 ad cy B qr s1 a1 a2 a3 a4 a6 w0) (fun u : va_W => wpost dC dI cy A u) A) (List.toArray [.ref (ad 0), .int a1, .int a2, .int a3, .int a4, .int 1, .int a6]) s 0 0 A) (F0 m 41 ls []) := by
    intro v41_7 H locs ls w1 r2 t3 r4 t5 r6 t7 r8 t9 r10 t11 hw hT hF hl
    exact tk_vret hC hr hlocks hK ⟨hT, hF, trivial⟩ hw dX12_leads_41
  have J181 : ∀ (v181_7 : Int32) (v181_8 : Int32) (v181_9 : Int32) (v181_10 : Int32) (f181_12__9_a1_toInt_217_toNat : Int32) (H : Heap) (locs : List Loc) (ls : Array Slot) (w12 : va_W), 0 ≤ a1.toInt → a1.toInt ≤ 3 → 0 ≤ a2.toInt → a2.toInt ≤ 1073741824 → 0 ≤ a3.toInt → a3.toInt ≤ 120 → 0 ≤ a4.toInt → a4.toInt ≤ 9 → 0 ≤ a6.toInt → a6.toInt ≤ 120 → 0 ≤ v181_8.toInt → v181_8.toInt ≤ 1073741944 → 0 ≤ v181_9.toInt → v181_9.toInt ≤ 1 → (-1) ≤ v181_10.toInt → v181_10.toInt ≤ 11 → 0 ≤ f181_12__9_a1_toInt_217_toNat.toInt → f181_12__9_a1_toInt_217_toNat.toInt ≤ 9 → Wd dC dI A s.heap H locs w12 → TW ksM ad cy B qr 12 w12 → FE ksM [(72, 0, 12), (73, 0, 10), (76, 0, 2600)] w0 w12 → gi w12 12 (9 * a1.toInt + 217).toNat = f181_12__9_a1_toInt_217_toNat → lv_has ls 12 [(0, .ref (ad 0)), (1, .int a1), (2, .int a2), (3, .int a3), (4, .int a4), (5, .int 1), (6, .int a6), (7, .int v181_7), (8, .int v181_8), (9, .int v181_9), (10, .int v181_10)] → W p l e ({ frames := 5, cells := 0, slots := 0, locals := 103 }) s m (List.toArray [.ref (ad 0), .int a1, .int a2, .int a3, .int a4, .int 1, .int a6]) below meth c H locs 0 0 (MQ below (va_Qv (P_X12_leads_2 ad cy B qr s1 a1 a2 a3 a4 a6 w0) (fun u : va_W => wpost dC dI cy A u) A) (List.toArray [.ref (ad 0), .int a1, .int a2, .int a3, .int a4, .int 1, .int a6]) s 0 0 A) (F0 m 181 ls []) := by
    intro v181_7 v181_8 v181_9 v181_10 f181_12__9_a1_toInt_217_toNat H locs ls w12 r13 t14 r15 t16 r17 t18 r19 t20 r21 t22 r23 t24 r25 t26 r27 t28 r29 t30 hw hT hF c31 hl
    exact tk_vret hC hr hlocks hK ⟨hT, hF, trivial⟩ hw dX12_leads_181
  have J241 : ∀ (v241_7 : Int32) (v241_8 : Int32) (v241_9 : Int32) (v241_10 : Int32) (v241_11 : Int32) (f241_12__9_a1_toInt_217_toNat : Int32) (f241_12_1 : Int32) (H : Heap) (locs : List Loc) (ls : Array Slot) (w32 : va_W), 0 ≤ a1.toInt → a1.toInt ≤ 3 → 0 ≤ a2.toInt → a2.toInt ≤ 1073741824 → 0 ≤ a3.toInt → a3.toInt ≤ 120 → 0 ≤ a4.toInt → a4.toInt ≤ 9 → 0 ≤ a6.toInt → a6.toInt ≤ 120 → 0 ≤ v241_8.toInt → v241_8.toInt ≤ 1073741944 → 0 ≤ v241_9.toInt → v241_9.toInt ≤ 1 → 0 ≤ v241_10.toInt → v241_10.toInt ≤ 11 → 0 ≤ v241_11.toInt → v241_11.toInt ≤ 129 → 0 ≤ f241_12__9_a1_toInt_217_toNat.toInt → f241_12__9_a1_toInt_217_toNat.toInt ≤ 9 → 1 ≤ f241_12_1.toInt → f241_12_1.toInt ≤ 12 → Wd dC dI A s.heap H locs w32 → TW ksM ad cy B qr 12 w32 → FE ksM [(72, 0, 12), (73, 0, 10), (76, 0, 2600)] w0 w32 → gi w32 12 (9 * a1.toInt + 217).toNat = f241_12__9_a1_toInt_217_toNat → gi w32 12 1 = f241_12_1 → lv_has ls 12 [(0, .ref (ad 0)), (1, .int a1), (2, .int a2), (3, .int a3), (4, .int a4), (5, .int 1), (6, .int a6), (7, .int v241_7), (8, .int v241_8), (9, .int v241_9), (10, .int v241_10), (11, .int v241_11)] → W p l e ({ frames := 5, cells := 0, slots := 0, locals := 103 }) s m (List.toArray [.ref (ad 0), .int a1, .int a2, .int a3, .int a4, .int 1, .int a6]) below meth c H locs 0 0 (MQ below (va_Qv (P_X12_leads_2 ad cy B qr s1 a1 a2 a3 a4 a6 w0) (fun u : va_W => wpost dC dI cy A u) A) (List.toArray [.ref (ad 0), .int a1, .int a2, .int a3, .int a4, .int 1, .int a6]) s 0 0 A) (F0 m 241 ls []) := by
    intro v241_7 v241_8 v241_9 v241_10 v241_11 f241_12__9_a1_toInt_217_toNat f241_12_1 H locs ls w32 r33 t34 r35 t36 r37 t38 r39 t40 r41 t42 r43 t44 r45 t46 r47 t48 r49 t50 r51 t52 r54 t55 hw hT hF c53 c56 hl
    exact tk_vret hC hr hlocks hK ⟨hT, hF, trivial⟩ hw dX12_leads_241
  have J145 : ∀ (v145_7 : Int32) (v145_8 : Int32) (v145_9 : Int32) (f145_12__9_a1_toInt_217_toNat : Int32) (H : Heap) (locs : List Loc) (ls : Array Slot) (w57 : va_W), 0 ≤ a1.toInt → a1.toInt ≤ 3 → 0 ≤ a2.toInt → a2.toInt ≤ 1073741824 → 0 ≤ a3.toInt → a3.toInt ≤ 120 → 0 ≤ a4.toInt → a4.toInt ≤ 9 → 0 ≤ a6.toInt → a6.toInt ≤ 120 → 0 ≤ v145_8.toInt → v145_8.toInt ≤ 1073741944 → 0 ≤ v145_9.toInt → v145_9.toInt ≤ 1 → 0 ≤ f145_12__9_a1_toInt_217_toNat.toInt → f145_12__9_a1_toInt_217_toNat.toInt ≤ 9 → Wd dC dI A s.heap H locs w57 → TW ksM ad cy B qr 12 w57 → FE ksM [(72, 0, 12), (73, 0, 10), (76, 0, 2600)] w0 w57 → gi w57 12 (9 * a1.toInt + 217).toNat = f145_12__9_a1_toInt_217_toNat → lv_has ls 12 [(0, .ref (ad 0)), (1, .int a1), (2, .int a2), (3, .int a3), (4, .int a4), (5, .int 1), (6, .int a6), (7, .int v145_7), (8, .int v145_8), (9, .int v145_9)] → W p l e ({ frames := 5, cells := 0, slots := 0, locals := 103 }) s m (List.toArray [.ref (ad 0), .int a1, .int a2, .int a3, .int a4, .int 1, .int a6]) below meth c H locs 0 0 (MQ below (va_Qv (P_X12_leads_2 ad cy B qr s1 a1 a2 a3 a4 a6 w0) (fun u : va_W => wpost dC dI cy A u) A) (List.toArray [.ref (ad 0), .int a1, .int a2, .int a3, .int a4, .int 1, .int a6]) s 0 0 A) (F0 m 145 ls []) := by
    intro v145_7 v145_8 v145_9 f145_12__9_a1_toInt_217_toNat H locs ls w57 r58 t59 r60 t61 r62 t63 r64 t65 r66 t67 r68 t69 r70 t71 r72 t73 hw hT hF c74 hl
    refine lv_aload_n hx hb dX12_leads_145 rfl (lv_at hl 0 rfl) ?_
    refine lv_aload_n hx hb dX12_leads_146 rfl (lv_at hl 0 rfl) ?_
    refine lv_iload_n hx hb dX12_leads_147 rfl (lv_at hl 1 rfl) ?_
    refine lv_iconst (v := 1) hx hb dX12_leads_148 (by decide) ?_
    refine tk_Vi hC hK hw hT hA hE hSR kM_at0 (by decide) rfl (k_X12_walkerOf_3 l adK adV dC dI cy ad B (by omega) (by omega) qr s1   a1 (show 0 ≤ a1.toInt by omega) (show a1.toInt ≤ 3 by omega) w57 H.size hT ) (cwV 2 hC.2.2.2.2 gX12_leads_X12_walkerOf rfl rfl rfl (by decide +kernel) ⟨Nat.le_of_ble_eq_true rfl, Nat.le_of_ble_eq_true rfl⟩) rfl hl.1 rfl (Nat.le_of_ble_eq_true rfl) dX12_leads_149 (fun r75 w77 H locs hp76 hw => ?_)
    obtain ⟨rfl, hg82⟩ := hp76
    obtain ⟨g79, g80, c81⟩ := hg82
    obtain rfl : f145_12__9_a1_toInt_217_toNat = r75 := c74.symm.trans c81
    refine tk_Vv hC hK hw hT hA hE hSR kM_at0 (by decide) rfl (k_X12_spreads_1 l adK adV dC dI cy ad B (by omega) (by omega) qr s1   f145_12__9_a1_toInt_217_toNat (show 0 ≤ f145_12__9_a1_toInt_217_toNat.toInt by omega) (show f145_12__9_a1_toInt_217_toNat.toInt ≤ 9 by omega) w57 H.size hT ) (cwV 1 hC.2.2.2.2 gX12_leads_X12_spreads rfl rfl rfl (by decide +kernel) ⟨Nat.le_of_ble_eq_true rfl, Nat.le_of_ble_eq_true rfl⟩) rfl hl.1 rfl (Nat.le_of_ble_eq_true rfl) dX12_leads_152 (fun w85 H locs hp84 hw => ?_)
    obtain ⟨hT, k86, hg87⟩ := hp84
    have hF := hF.tr k86 (by decide)
    have c88 := k86.gi kM_at12 rfl c74
    clear hg87
    refine lv_aload_n hx hb dX12_leads_155 rfl (lv_at hl 0 rfl) ?_
    refine lv_iload hx hb dX12_leads_156 (lv_at hl 4 rfl) ?_
    refine tk_Vi hC hK hw hT hA hE hSR kM_at0 (by decide) rfl (k_X12_streetFrom_1 l adK adV dC dI cy ad B (by omega) (by omega) qr s1   a4 (show 0 ≤ a4.toInt by omega) (show a4.toInt ≤ 9 by omega) w85 H.size hT ) (cwV 1 hC.2.2.2.2 gX12_leads_X12_streetFrom rfl rfl rfl (by decide +kernel) ⟨Nat.le_of_ble_eq_true rfl, Nat.le_of_ble_eq_true rfl⟩) rfl hl.1 rfl (Nat.le_of_ble_eq_true rfl) dX12_leads_158 (fun r89 w91 H locs hp90 hw => ?_)
    obtain ⟨rfl, hg109⟩ := hp90
    rcases hg109 with ⟨g93, g94, ⟨x95, c96, rx95, tx95⟩, c97, c98⟩ | ⟨g99, g100, ⟨x101, c102, rx101, tx101⟩, c103⟩ | ⟨g104, g105, ⟨x106, c107, rx106, tx106⟩, c108⟩ | rfl
    · refine lv_istore (lv' := [(10, .int r89), (0, .ref (ad 0)), (1, .int a1), (2, .int a2), (3, .int a3), (4, .int a4), (5, .int 1), (6, .int a6), (7, .int v145_7), (8, .int v145_8), (9, .int v145_9)]) hx hb dX12_leads_161 hl (by decide) rfl (fun ls hl => ?_)
      refine lv_iload hx hb dX12_leads_163 (lv_at hl 0 rfl) ?_
      refine lv_if_lt (tgt := 181) hx hb dX12_leads_165 (by decide) (fun c => absurd c (fun h => absurd (show r89.toInt < (0 : Int) from wk_lt.mp h) (by omega))) (fun _ => ?_)
      refine lv_aload_n hx hb dX12_leads_168 rfl (lv_at hl 1 rfl) ?_
      refine lv_iload hx hb dX12_leads_169 (lv_at hl 0 rfl) ?_
      refine lv_iload hx hb dX12_leads_171 (lv_at hl 5 rfl) ?_
      refine lv_iload hx hb dX12_leads_173 (lv_at hl 9 rfl) ?_
      refine tk_Vi hC hK hw hT hA hE hSR kM_at0 (by decide) rfl (k_X12_isOpen_3 l adK adV dC dI cy ad B (by omega) (by omega) qr s1   r89 (show 0 ≤ r89.toInt by omega) (show r89.toInt ≤ 11 by omega) a4 (show 0 ≤ a4.toInt by omega) (show a4.toInt ≤ 9 by omega) v145_8 (show 0 ≤ v145_8.toInt by omega) (show v145_8.toInt ≤ 1073741944 by omega) w85 H.size hT ) (cwV 3 hC.2.2.2.2 gX12_leads_X12_isOpen rfl rfl rfl (by decide +kernel) ⟨Nat.le_of_ble_eq_true rfl, Nat.le_of_ble_eq_true rfl⟩) rfl hl.1 rfl (Nat.le_of_ble_eq_true rfl) dX12_leads_175 (fun r110 w112 H locs hp111 hw => ?_)
      obtain ⟨rfl, hg129⟩ := hp111
      rcases hg129 with ⟨rfl, hq114⟩ | ⟨rfl, c115, c116, hq117⟩ | ⟨rfl, c118, hq119⟩ | ⟨rfl, c120, hq121⟩ | ⟨rfl, c122, c123, hq124⟩ | ⟨rfl, c125, hq126⟩ | ⟨rfl, c127, hq128⟩
      · refine lv_if_ne (tgt := 182) hx hb dX12_leads_178 (by decide) (fun c => absurd (by decide) c) (fun _ => ?_)
        exact J181 v145_7 v145_8 v145_9 r89 f145_12__9_a1_toInt_217_toNat H locs ls w85 (show 0 ≤ a1.toInt by omega) (show a1.toInt ≤ 3 by omega) (show 0 ≤ a2.toInt by omega) (show a2.toInt ≤ 1073741824 by omega) (show 0 ≤ a3.toInt by omega) (show a3.toInt ≤ 120 by omega) (show 0 ≤ a4.toInt by omega) (show a4.toInt ≤ 9 by omega) (show 0 ≤ a6.toInt by omega) (show a6.toInt ≤ 120 by omega) (show 0 ≤ v145_8.toInt by omega) (show v145_8.toInt ≤ 1073741944 by omega) (show 0 ≤ v145_9.toInt by omega) (show v145_9.toInt ≤ 1 by omega) (show (-1) ≤ r89.toInt by omega) (show r89.toInt ≤ 11 by omega) (show 0 ≤ f145_12__9_a1_toInt_217_toNat.toInt by omega) (show f145_12__9_a1_toInt_217_toNat.toInt ≤ 9 by omega)  hw hT hF c88 (lv_sub hl [1, 2, 3, 4, 5, 6, 7, 8, 9, 10, 0] rfl)
      · refine lv_if_ne (tgt := 182) hx hb dX12_leads_178 (by decide) (fun c => absurd (by decide) c) (fun _ => ?_)
        exact J181 v145_7 v145_8 v145_9 r89 f145_12__9_a1_toInt_217_toNat H locs ls w85 (show 0 ≤ a1.toInt by omega) (show a1.toInt ≤ 3 by omega) (show 0 ≤ a2.toInt by omega) (show a2.toInt ≤ 1073741824 by omega) (show 0 ≤ a3.toInt by omega) (show a3.toInt ≤ 120 by omega) (show 0 ≤ a4.toInt by omega) (show a4.toInt ≤ 9 by omega) (show 0 ≤ a6.toInt by omega) (show a6.toInt ≤ 120 by omega) (show 0 ≤ v145_8.toInt by omega) (show v145_8.toInt ≤ 1073741944 by omega) (show 0 ≤ v145_9.toInt by omega) (show v145_9.toInt ≤ 1 by omega) (show (-1) ≤ r89.toInt by omega) (show r89.toInt ≤ 11 by omega) (show 0 ≤ f145_12__9_a1_toInt_217_toNat.toInt by omega) (show f145_12__9_a1_toInt_217_toNat.toInt ≤ 9 by omega)  hw hT hF c88 (lv_sub hl [1, 2, 3, 4, 5, 6, 7, 8, 9, 10, 0] rfl)
      · refine lv_if_ne (tgt := 182) hx hb dX12_leads_178 (by decide) (fun c => absurd (by decide) c) (fun _ => ?_)
        exact J181 v145_7 v145_8 v145_9 r89 f145_12__9_a1_toInt_217_toNat H locs ls w85 (show 0 ≤ a1.toInt by omega) (show a1.toInt ≤ 3 by omega) (show 0 ≤ a2.toInt by omega) (show a2.toInt ≤ 1073741824 by omega) (show 0 ≤ a3.toInt by omega) (show a3.toInt ≤ 120 by omega) (show 0 ≤ a4.toInt by omega) (show a4.toInt ≤ 9 by omega) (show 0 ≤ a6.toInt by omega) (show a6.toInt ≤ 120 by omega) (show 0 ≤ v145_8.toInt by omega) (show v145_8.toInt ≤ 1073741944 by omega) (show 0 ≤ v145_9.toInt by omega) (show v145_9.toInt ≤ 1 by omega) (show (-1) ≤ r89.toInt by omega) (show r89.toInt ≤ 11 by omega) (show 0 ≤ f145_12__9_a1_toInt_217_toNat.toInt by omega) (show f145_12__9_a1_toInt_217_toNat.toInt ≤ 9 by omega)  hw hT hF c88 (lv_sub hl [1, 2, 3, 4, 5, 6, 7, 8, 9, 10, 0] rfl)
      · refine lv_if_ne (tgt := 182) hx hb dX12_leads_178 (by decide) (fun c => absurd (by decide) c) (fun _ => ?_)
        exact J181 v145_7 v145_8 v145_9 r89 f145_12__9_a1_toInt_217_toNat H locs ls w85 (show 0 ≤ a1.toInt by omega) (show a1.toInt ≤ 3 by omega) (show 0 ≤ a2.toInt by omega) (show a2.toInt ≤ 1073741824 by omega) (show 0 ≤ a3.toInt by omega) (show a3.toInt ≤ 120 by omega) (show 0 ≤ a4.toInt by omega) (show a4.toInt ≤ 9 by omega) (show 0 ≤ a6.toInt by omega) (show a6.toInt ≤ 120 by omega) (show 0 ≤ v145_8.toInt by omega) (show v145_8.toInt ≤ 1073741944 by omega) (show 0 ≤ v145_9.toInt by omega) (show v145_9.toInt ≤ 1 by omega) (show (-1) ≤ r89.toInt by omega) (show r89.toInt ≤ 11 by omega) (show 0 ≤ f145_12__9_a1_toInt_217_toNat.toInt by omega) (show f145_12__9_a1_toInt_217_toNat.toInt ≤ 9 by omega)  hw hT hF c88 (lv_sub hl [1, 2, 3, 4, 5, 6, 7, 8, 9, 10, 0] rfl)
      · refine lv_if_ne (tgt := 182) hx hb dX12_leads_178 (by decide) (fun _ => ?_) (fun c => absurd c (by decide))
        refine lv_iload_n hx hb dX12_leads_182 rfl (lv_at hl 4 rfl) ?_
        refine lv_aload_n hx hb dX12_leads_183 rfl (lv_at hl 1 rfl) ?_
        refine lv_iload hx hb dX12_leads_184 (lv_at hl 0 rfl) ?_
        refine lv_iconst (v := 2) hx hb dX12_leads_186 (by decide) ?_
        refine tk_Vi hC hK hw hT hA hE hSR kM_at0 (by decide) rfl (k_X12_streetOf_6 l adK adV dC dI cy ad B (by omega) (by omega) qr s1   r89 (show 0 ≤ r89.toInt by omega) (show r89.toInt ≤ 11 by omega) w85 H.size hT ) (cwV 2 hC.2.2.2.2 gX12_leads_X12_streetOf rfl rfl rfl (by decide +kernel) ⟨Nat.le_of_ble_eq_true rfl, Nat.le_of_ble_eq_true rfl⟩) rfl hl.1 rfl (Nat.le_of_ble_eq_true rfl) dX12_leads_187 (fun r130 w132 H locs hp131 hw => ?_)
        obtain ⟨rfl, hg137⟩ := hp131
        obtain ⟨g134, g135, c136⟩ := hg137
        refine lv_iadd hx hb dX12_leads_190 ?_
        refine lv_topi (fun x138 ex138 => ?_)
        have ex138 : x138.toInt = a3.toInt + r130.toInt := by rw [ex138]; exact wk_add (show (-2147483648) ≤ a3.toInt + r130.toInt by omega) (show a3.toInt + r130.toInt ≤ 2147483647 by omega)
        refine lv_istore (lv' := [(11, .int x138), (10, .int r89), (0, .ref (ad 0)), (1, .int a1), (2, .int a2), (3, .int a3), (4, .int a4), (5, .int 1), (6, .int a6), (7, .int v145_7), (8, .int v145_8), (9, .int v145_9)]) hx hb dX12_leads_191 hl (by decide) rfl (fun ls hl => ?_)
        refine lv_iload hx hb dX12_leads_193 (lv_at hl 0 rfl) ?_
        refine lv_iload hx hb dX12_leads_195 (lv_at hl 8 rfl) ?_
        refine lv_icmp_gt (tgt := 241) hx hb dX12_leads_197 (by decide) (fun c139 => ?_) (fun c139 => ?_)
        · have c139 : a6.toInt < x138.toInt := wk_lt.mp c139
          exact J241 v145_7 v145_8 v145_9 r89 x138 f145_12__9_a1_toInt_217_toNat x95 H locs ls w85 (show 0 ≤ a1.toInt by omega) (show a1.toInt ≤ 3 by omega) (show 0 ≤ a2.toInt by omega) (show a2.toInt ≤ 1073741824 by omega) (show 0 ≤ a3.toInt by omega) (show a3.toInt ≤ 120 by omega) (show 0 ≤ a4.toInt by omega) (show a4.toInt ≤ 9 by omega) (show 0 ≤ a6.toInt by omega) (show a6.toInt ≤ 120 by omega) (show 0 ≤ v145_8.toInt by omega) (show v145_8.toInt ≤ 1073741944 by omega) (show 0 ≤ v145_9.toInt by omega) (show v145_9.toInt ≤ 1 by omega) (show 0 ≤ r89.toInt by omega) (show r89.toInt ≤ 11 by omega) (show 0 ≤ x138.toInt by omega) (show x138.toInt ≤ 129 by omega) (show 0 ≤ f145_12__9_a1_toInt_217_toNat.toInt by omega) (show f145_12__9_a1_toInt_217_toNat.toInt ≤ 9 by omega) (show 1 ≤ x95.toInt by omega) (show x95.toInt ≤ 12 by omega)  hw hT hF c88 c96 (lv_sub hl [2, 3, 4, 5, 6, 7, 8, 9, 10, 11, 1, 0] rfl)
        · have c139 : x138.toInt ≤ a6.toInt := wk_ltF c139
          refine lv_aload_n hx hb dX12_leads_200 rfl (lv_at hl 2 rfl) ?_
          refine lv_iload hx hb dX12_leads_201 (lv_at hl 0 rfl) ?_
          refine lv_aload_n hx hb dX12_leads_203 rfl (lv_at hl 2 rfl) ?_
          refine lv_iload hx hb dX12_leads_204 (lv_at hl 1 rfl) ?_
          refine lv_iload hx hb dX12_leads_206 (lv_at hl 6 rfl) ?_
          refine tk_Vi hC hK hw hT hA hE hSR kM_at0 (by decide) rfl (k_X12_otherOf_1 l adK adV dC dI cy ad B (by omega) (by omega) qr s1   r89 (show 0 ≤ r89.toInt by omega) (show r89.toInt ≤ 11 by omega) a4 (show 0 ≤ a4.toInt by omega) (show a4.toInt ≤ 9 by omega) w85 H.size hT ) (cwV 2 hC.2.2.2.2 gX12_leads_X12_otherOf rfl rfl rfl (by decide +kernel) ⟨Nat.le_of_ble_eq_true rfl, Nat.le_of_ble_eq_true rfl⟩) rfl hl.1 rfl (Nat.le_of_ble_eq_true rfl) dX12_leads_208 (fun r140 w142 H locs hp141 hw => ?_)
          obtain ⟨rfl, hg149⟩ := hp141
          rcases hg149 with ⟨g144, g145⟩ | ⟨g146, g147, c148⟩
          · refine lv_iload hx hb dX12_leads_211 (lv_at hl 7 rfl) ?_
            refine lv_if_eq (tgt := 235) hx hb dX12_leads_213 (by decide) (fun c => absurd c (by decide)) (fun _ => ?_)
            refine lv_iload_n hx hb dX12_leads_216 rfl (lv_at hl 4 rfl) ?_
            refine lv_iload hx hb dX12_leads_217 (lv_at hl 0 rfl) ?_
            refine lv_iadd hx hb dX12_leads_219 ?_
            refine lv_topi (fun x150 ex150 => ?_)
            have ex150 : x150.toInt = a2.toInt + x138.toInt := by rw [ex150]; exact wk_add (show (-2147483648) ≤ a2.toInt + x138.toInt by omega) (show a2.toInt + x138.toInt ≤ 2147483647 by omega)
            refine lv_bipush (v := 24) hx hb dX12_leads_220 (by decide) ?_
            refine lv_idiv hx hb dX12_leads_222 (by decide) ?_
            refine lv_topi (fun x151 ex151 => ?_)
            have ex151 : x151.toInt = x150.toInt / (24 : Int) := by rw [ex151]; exact wk_div (show 0 ≤ x150.toInt by omega) (show 0 < (24 : Int) by decide)
            refine lv_iload hx hb dX12_leads_223 (lv_at hl 10 rfl) ?_
            refine lv_bipush (v := 24) hx hb dX12_leads_225 (by decide) ?_
            refine lv_idiv hx hb dX12_leads_227 (by decide) ?_
            refine lv_topi (fun x152 ex152 => ?_)
            have ex152 : x152.toInt = v145_8.toInt / (24 : Int) := by rw [ex152]; exact wk_div (show 0 ≤ v145_8.toInt by omega) (show 0 < (24 : Int) by decide)
            refine lv_icmp_ne (tgt := 235) hx hb dX12_leads_228 (by decide) (fun c153 => ?_) (fun c153 => ?_)
            · have c153 : ¬ x151.toInt = x152.toInt := wk_eqF c153
              refine lv_iconst (v := 0) hx hb dX12_leads_235 (by decide) ?_
              refine lv_iload hx hb dX12_leads_236 (lv_at hl 9 rfl) ?_
              refine tk_Vv hC hK hw hT hA hE hSR kM_at0 (by decide) rfl (k_X12_could_3 l adK adV dC dI cy ad B (by omega) (by omega) qr s1   x138 (show 0 ≤ x138.toInt by omega) (show x138.toInt ≤ 120 by omega) r140 (show 0 ≤ r140.toInt by omega) (show r140.toInt ≤ 9 by omega) v145_7 w85 H.size hT ) (cwV 4 hC.2.2.2.2 gX12_leads_X12_could rfl rfl rfl (by decide +kernel) ⟨Nat.le_of_ble_eq_true rfl, Nat.le_of_ble_eq_true rfl⟩) rfl hl.1 rfl (Nat.le_of_ble_eq_true rfl) dX12_leads_238 (fun w156 H locs hp155 hw => ?_)
              obtain ⟨hT, k157, hg158⟩ := hp155
              have hF := hF.tr k157 (by decide)
              have c159 := k157.gi kM_at12 rfl c88
              have c160 := k157.gi kM_at12 (by decide) c96
              have c161 := k157.gi kM_at12 rfl c97
              have c162 := k157.gi kM_at12 rfl c98
              have c163 := k157.gi kM_at12 rfl c136
              clear hg158
              exact J241 v145_7 v145_8 v145_9 r89 x138 f145_12__9_a1_toInt_217_toNat x95 H locs ls w156 (show 0 ≤ a1.toInt by omega) (show a1.toInt ≤ 3 by omega) (show 0 ≤ a2.toInt by omega) (show a2.toInt ≤ 1073741824 by omega) (show 0 ≤ a3.toInt by omega) (show a3.toInt ≤ 120 by omega) (show 0 ≤ a4.toInt by omega) (show a4.toInt ≤ 9 by omega) (show 0 ≤ a6.toInt by omega) (show a6.toInt ≤ 120 by omega) (show 0 ≤ v145_8.toInt by omega) (show v145_8.toInt ≤ 1073741944 by omega) (show 0 ≤ v145_9.toInt by omega) (show v145_9.toInt ≤ 1 by omega) (show 0 ≤ r89.toInt by omega) (show r89.toInt ≤ 11 by omega) (show 0 ≤ x138.toInt by omega) (show x138.toInt ≤ 129 by omega) (show 0 ≤ f145_12__9_a1_toInt_217_toNat.toInt by omega) (show f145_12__9_a1_toInt_217_toNat.toInt ≤ 9 by omega) (show 1 ≤ x95.toInt by omega) (show x95.toInt ≤ 12 by omega)  hw hT hF c159 c160 (lv_sub hl [2, 3, 4, 5, 6, 7, 8, 9, 10, 11, 1, 0] rfl)
            · have c153 : x151.toInt = x152.toInt := wk_eq.mp c153
              refine lv_iconst (v := 1) hx hb dX12_leads_231 (by decide) ?_
              refine lv_goto (tgt := 236) hx hb dX12_leads_232 (by decide) ?_
              refine lv_iload hx hb dX12_leads_236 (lv_at hl 9 rfl) ?_
              refine tk_Vv hC hK hw hT hA hE hSR kM_at0 (by decide) rfl (k_X12_could_6 l adK adV dC dI cy ad B (by omega) (by omega) qr s1   x138 (show 0 ≤ x138.toInt by omega) (show x138.toInt ≤ 120 by omega) r140 (show 0 ≤ r140.toInt by omega) (show r140.toInt ≤ 9 by omega) v145_7 w85 H.size hT ) (cwV 4 hC.2.2.2.2 gX12_leads_X12_could rfl rfl rfl (by decide +kernel) ⟨Nat.le_of_ble_eq_true rfl, Nat.le_of_ble_eq_true rfl⟩) rfl hl.1 rfl (Nat.le_of_ble_eq_true rfl) dX12_leads_238 (fun w166 H locs hp165 hw => ?_)
              obtain ⟨hT, k167, hg168⟩ := hp165
              have hF := hF.tr k167 (by decide)
              have c169 := k167.gi kM_at12 rfl c88
              have c170 := k167.gi kM_at12 (by decide) c96
              have c171 := k167.gi kM_at12 rfl c97
              have c172 := k167.gi kM_at12 rfl c98
              have c173 := k167.gi kM_at12 rfl c136
              clear hg168
              exact J241 v145_7 v145_8 v145_9 r89 x138 f145_12__9_a1_toInt_217_toNat x95 H locs ls w166 (show 0 ≤ a1.toInt by omega) (show a1.toInt ≤ 3 by omega) (show 0 ≤ a2.toInt by omega) (show a2.toInt ≤ 1073741824 by omega) (show 0 ≤ a3.toInt by omega) (show a3.toInt ≤ 120 by omega) (show 0 ≤ a4.toInt by omega) (show a4.toInt ≤ 9 by omega) (show 0 ≤ a6.toInt by omega) (show a6.toInt ≤ 120 by omega) (show 0 ≤ v145_8.toInt by omega) (show v145_8.toInt ≤ 1073741944 by omega) (show 0 ≤ v145_9.toInt by omega) (show v145_9.toInt ≤ 1 by omega) (show 0 ≤ r89.toInt by omega) (show r89.toInt ≤ 11 by omega) (show 0 ≤ x138.toInt by omega) (show x138.toInt ≤ 129 by omega) (show 0 ≤ f145_12__9_a1_toInt_217_toNat.toInt by omega) (show f145_12__9_a1_toInt_217_toNat.toInt ≤ 9 by omega) (show 1 ≤ x95.toInt by omega) (show x95.toInt ≤ 12 by omega)  hw hT hF c169 c170 (lv_sub hl [2, 3, 4, 5, 6, 7, 8, 9, 10, 11, 1, 0] rfl)
          · refine lv_iload hx hb dX12_leads_211 (lv_at hl 7 rfl) ?_
            refine lv_if_eq (tgt := 235) hx hb dX12_leads_213 (by decide) (fun c => absurd c (by decide)) (fun _ => ?_)
            refine lv_iload_n hx hb dX12_leads_216 rfl (lv_at hl 4 rfl) ?_
            refine lv_iload hx hb dX12_leads_217 (lv_at hl 0 rfl) ?_
            refine lv_iadd hx hb dX12_leads_219 ?_
            refine lv_topi (fun x174 ex174 => ?_)
            have ex174 : x174.toInt = a2.toInt + x138.toInt := by rw [ex174]; exact wk_add (show (-2147483648) ≤ a2.toInt + x138.toInt by omega) (show a2.toInt + x138.toInt ≤ 2147483647 by omega)
            refine lv_bipush (v := 24) hx hb dX12_leads_220 (by decide) ?_
            refine lv_idiv hx hb dX12_leads_222 (by decide) ?_
            refine lv_topi (fun x175 ex175 => ?_)
            have ex175 : x175.toInt = x174.toInt / (24 : Int) := by rw [ex175]; exact wk_div (show 0 ≤ x174.toInt by omega) (show 0 < (24 : Int) by decide)
            refine lv_iload hx hb dX12_leads_223 (lv_at hl 10 rfl) ?_
            refine lv_bipush (v := 24) hx hb dX12_leads_225 (by decide) ?_
            refine lv_idiv hx hb dX12_leads_227 (by decide) ?_
            refine lv_topi (fun x176 ex176 => ?_)
            have ex176 : x176.toInt = v145_8.toInt / (24 : Int) := by rw [ex176]; exact wk_div (show 0 ≤ v145_8.toInt by omega) (show 0 < (24 : Int) by decide)
            refine lv_icmp_ne (tgt := 235) hx hb dX12_leads_228 (by decide) (fun c177 => ?_) (fun c177 => ?_)
            · have c177 : ¬ x175.toInt = x176.toInt := wk_eqF c177
              refine lv_iconst (v := 0) hx hb dX12_leads_235 (by decide) ?_
              refine lv_iload hx hb dX12_leads_236 (lv_at hl 9 rfl) ?_
              refine tk_Vv hC hK hw hT hA hE hSR kM_at0 (by decide) rfl (k_X12_could_3 l adK adV dC dI cy ad B (by omega) (by omega) qr s1   x138 (show 0 ≤ x138.toInt by omega) (show x138.toInt ≤ 120 by omega) r140 (show 0 ≤ r140.toInt by omega) (show r140.toInt ≤ 9 by omega) v145_7 w85 H.size hT ) (cwV 4 hC.2.2.2.2 gX12_leads_X12_could rfl rfl rfl (by decide +kernel) ⟨Nat.le_of_ble_eq_true rfl, Nat.le_of_ble_eq_true rfl⟩) rfl hl.1 rfl (Nat.le_of_ble_eq_true rfl) dX12_leads_238 (fun w180 H locs hp179 hw => ?_)
              obtain ⟨hT, k181, hg182⟩ := hp179
              have hF := hF.tr k181 (by decide)
              have c183 := k181.gi kM_at12 rfl c88
              have c184 := k181.gi kM_at12 (by decide) c96
              have c185 := k181.gi kM_at12 rfl c97
              have c186 := k181.gi kM_at12 rfl c98
              have c187 := k181.gi kM_at12 rfl c136
              clear hg182
              exact J241 v145_7 v145_8 v145_9 r89 x138 f145_12__9_a1_toInt_217_toNat x95 H locs ls w180 (show 0 ≤ a1.toInt by omega) (show a1.toInt ≤ 3 by omega) (show 0 ≤ a2.toInt by omega) (show a2.toInt ≤ 1073741824 by omega) (show 0 ≤ a3.toInt by omega) (show a3.toInt ≤ 120 by omega) (show 0 ≤ a4.toInt by omega) (show a4.toInt ≤ 9 by omega) (show 0 ≤ a6.toInt by omega) (show a6.toInt ≤ 120 by omega) (show 0 ≤ v145_8.toInt by omega) (show v145_8.toInt ≤ 1073741944 by omega) (show 0 ≤ v145_9.toInt by omega) (show v145_9.toInt ≤ 1 by omega) (show 0 ≤ r89.toInt by omega) (show r89.toInt ≤ 11 by omega) (show 0 ≤ x138.toInt by omega) (show x138.toInt ≤ 129 by omega) (show 0 ≤ f145_12__9_a1_toInt_217_toNat.toInt by omega) (show f145_12__9_a1_toInt_217_toNat.toInt ≤ 9 by omega) (show 1 ≤ x95.toInt by omega) (show x95.toInt ≤ 12 by omega)  hw hT hF c183 c184 (lv_sub hl [2, 3, 4, 5, 6, 7, 8, 9, 10, 11, 1, 0] rfl)
            · have c177 : x175.toInt = x176.toInt := wk_eq.mp c177
              refine lv_iconst (v := 1) hx hb dX12_leads_231 (by decide) ?_
              refine lv_goto (tgt := 236) hx hb dX12_leads_232 (by decide) ?_
              refine lv_iload hx hb dX12_leads_236 (lv_at hl 9 rfl) ?_
              refine tk_Vv hC hK hw hT hA hE hSR kM_at0 (by decide) rfl (k_X12_could_6 l adK adV dC dI cy ad B (by omega) (by omega) qr s1   x138 (show 0 ≤ x138.toInt by omega) (show x138.toInt ≤ 120 by omega) r140 (show 0 ≤ r140.toInt by omega) (show r140.toInt ≤ 9 by omega) v145_7 w85 H.size hT ) (cwV 4 hC.2.2.2.2 gX12_leads_X12_could rfl rfl rfl (by decide +kernel) ⟨Nat.le_of_ble_eq_true rfl, Nat.le_of_ble_eq_true rfl⟩) rfl hl.1 rfl (Nat.le_of_ble_eq_true rfl) dX12_leads_238 (fun w190 H locs hp189 hw => ?_)
              obtain ⟨hT, k191, hg192⟩ := hp189
              have hF := hF.tr k191 (by decide)
              have c193 := k191.gi kM_at12 rfl c88
              have c194 := k191.gi kM_at12 (by decide) c96
              have c195 := k191.gi kM_at12 rfl c97
              have c196 := k191.gi kM_at12 rfl c98
              have c197 := k191.gi kM_at12 rfl c136
              clear hg192
              exact J241 v145_7 v145_8 v145_9 r89 x138 f145_12__9_a1_toInt_217_toNat x95 H locs ls w190 (show 0 ≤ a1.toInt by omega) (show a1.toInt ≤ 3 by omega) (show 0 ≤ a2.toInt by omega) (show a2.toInt ≤ 1073741824 by omega) (show 0 ≤ a3.toInt by omega) (show a3.toInt ≤ 120 by omega) (show 0 ≤ a4.toInt by omega) (show a4.toInt ≤ 9 by omega) (show 0 ≤ a6.toInt by omega) (show a6.toInt ≤ 120 by omega) (show 0 ≤ v145_8.toInt by omega) (show v145_8.toInt ≤ 1073741944 by omega) (show 0 ≤ v145_9.toInt by omega) (show v145_9.toInt ≤ 1 by omega) (show 0 ≤ r89.toInt by omega) (show r89.toInt ≤ 11 by omega) (show 0 ≤ x138.toInt by omega) (show x138.toInt ≤ 129 by omega) (show 0 ≤ f145_12__9_a1_toInt_217_toNat.toInt by omega) (show f145_12__9_a1_toInt_217_toNat.toInt ≤ 9 by omega) (show 1 ≤ x95.toInt by omega) (show x95.toInt ≤ 12 by omega)  hw hT hF c193 c194 (lv_sub hl [2, 3, 4, 5, 6, 7, 8, 9, 10, 11, 1, 0] rfl)
      · refine lv_if_ne (tgt := 182) hx hb dX12_leads_178 (by decide) (fun _ => ?_) (fun c => absurd c (by decide))
        refine lv_iload_n hx hb dX12_leads_182 rfl (lv_at hl 4 rfl) ?_
        refine lv_aload_n hx hb dX12_leads_183 rfl (lv_at hl 1 rfl) ?_
        refine lv_iload hx hb dX12_leads_184 (lv_at hl 0 rfl) ?_
        refine lv_iconst (v := 2) hx hb dX12_leads_186 (by decide) ?_
        refine tk_Vi hC hK hw hT hA hE hSR kM_at0 (by decide) rfl (k_X12_streetOf_6 l adK adV dC dI cy ad B (by omega) (by omega) qr s1   r89 (show 0 ≤ r89.toInt by omega) (show r89.toInt ≤ 11 by omega) w85 H.size hT ) (cwV 2 hC.2.2.2.2 gX12_leads_X12_streetOf rfl rfl rfl (by decide +kernel) ⟨Nat.le_of_ble_eq_true rfl, Nat.le_of_ble_eq_true rfl⟩) rfl hl.1 rfl (Nat.le_of_ble_eq_true rfl) dX12_leads_187 (fun r198 w200 H locs hp199 hw => ?_)
        obtain ⟨rfl, hg205⟩ := hp199
        obtain ⟨g202, g203, c204⟩ := hg205
        refine lv_iadd hx hb dX12_leads_190 ?_
        refine lv_topi (fun x206 ex206 => ?_)
        have ex206 : x206.toInt = a3.toInt + r198.toInt := by rw [ex206]; exact wk_add (show (-2147483648) ≤ a3.toInt + r198.toInt by omega) (show a3.toInt + r198.toInt ≤ 2147483647 by omega)
        refine lv_istore (lv' := [(11, .int x206), (10, .int r89), (0, .ref (ad 0)), (1, .int a1), (2, .int a2), (3, .int a3), (4, .int a4), (5, .int 1), (6, .int a6), (7, .int v145_7), (8, .int v145_8), (9, .int v145_9)]) hx hb dX12_leads_191 hl (by decide) rfl (fun ls hl => ?_)
        refine lv_iload hx hb dX12_leads_193 (lv_at hl 0 rfl) ?_
        refine lv_iload hx hb dX12_leads_195 (lv_at hl 8 rfl) ?_
        refine lv_icmp_gt (tgt := 241) hx hb dX12_leads_197 (by decide) (fun c207 => ?_) (fun c207 => ?_)
        · have c207 : a6.toInt < x206.toInt := wk_lt.mp c207
          exact J241 v145_7 v145_8 v145_9 r89 x206 f145_12__9_a1_toInt_217_toNat x95 H locs ls w85 (show 0 ≤ a1.toInt by omega) (show a1.toInt ≤ 3 by omega) (show 0 ≤ a2.toInt by omega) (show a2.toInt ≤ 1073741824 by omega) (show 0 ≤ a3.toInt by omega) (show a3.toInt ≤ 120 by omega) (show 0 ≤ a4.toInt by omega) (show a4.toInt ≤ 9 by omega) (show 0 ≤ a6.toInt by omega) (show a6.toInt ≤ 120 by omega) (show 0 ≤ v145_8.toInt by omega) (show v145_8.toInt ≤ 1073741944 by omega) (show 0 ≤ v145_9.toInt by omega) (show v145_9.toInt ≤ 1 by omega) (show 0 ≤ r89.toInt by omega) (show r89.toInt ≤ 11 by omega) (show 0 ≤ x206.toInt by omega) (show x206.toInt ≤ 129 by omega) (show 0 ≤ f145_12__9_a1_toInt_217_toNat.toInt by omega) (show f145_12__9_a1_toInt_217_toNat.toInt ≤ 9 by omega) (show 1 ≤ x95.toInt by omega) (show x95.toInt ≤ 12 by omega)  hw hT hF c88 c96 (lv_sub hl [2, 3, 4, 5, 6, 7, 8, 9, 10, 11, 1, 0] rfl)
        · have c207 : x206.toInt ≤ a6.toInt := wk_ltF c207
          refine lv_aload_n hx hb dX12_leads_200 rfl (lv_at hl 2 rfl) ?_
          refine lv_iload hx hb dX12_leads_201 (lv_at hl 0 rfl) ?_
          refine lv_aload_n hx hb dX12_leads_203 rfl (lv_at hl 2 rfl) ?_
          refine lv_iload hx hb dX12_leads_204 (lv_at hl 1 rfl) ?_
          refine lv_iload hx hb dX12_leads_206 (lv_at hl 6 rfl) ?_
          refine tk_Vi hC hK hw hT hA hE hSR kM_at0 (by decide) rfl (k_X12_otherOf_1 l adK adV dC dI cy ad B (by omega) (by omega) qr s1   r89 (show 0 ≤ r89.toInt by omega) (show r89.toInt ≤ 11 by omega) a4 (show 0 ≤ a4.toInt by omega) (show a4.toInt ≤ 9 by omega) w85 H.size hT ) (cwV 2 hC.2.2.2.2 gX12_leads_X12_otherOf rfl rfl rfl (by decide +kernel) ⟨Nat.le_of_ble_eq_true rfl, Nat.le_of_ble_eq_true rfl⟩) rfl hl.1 rfl (Nat.le_of_ble_eq_true rfl) dX12_leads_208 (fun r208 w210 H locs hp209 hw => ?_)
          obtain ⟨rfl, hg217⟩ := hp209
          rcases hg217 with ⟨g212, g213⟩ | ⟨g214, g215, c216⟩
          · refine lv_iload hx hb dX12_leads_211 (lv_at hl 7 rfl) ?_
            refine lv_if_eq (tgt := 235) hx hb dX12_leads_213 (by decide) (fun c => absurd c (by decide)) (fun _ => ?_)
            refine lv_iload_n hx hb dX12_leads_216 rfl (lv_at hl 4 rfl) ?_
            refine lv_iload hx hb dX12_leads_217 (lv_at hl 0 rfl) ?_
            refine lv_iadd hx hb dX12_leads_219 ?_
            refine lv_topi (fun x218 ex218 => ?_)
            have ex218 : x218.toInt = a2.toInt + x206.toInt := by rw [ex218]; exact wk_add (show (-2147483648) ≤ a2.toInt + x206.toInt by omega) (show a2.toInt + x206.toInt ≤ 2147483647 by omega)
            refine lv_bipush (v := 24) hx hb dX12_leads_220 (by decide) ?_
            refine lv_idiv hx hb dX12_leads_222 (by decide) ?_
            refine lv_topi (fun x219 ex219 => ?_)
            have ex219 : x219.toInt = x218.toInt / (24 : Int) := by rw [ex219]; exact wk_div (show 0 ≤ x218.toInt by omega) (show 0 < (24 : Int) by decide)
            refine lv_iload hx hb dX12_leads_223 (lv_at hl 10 rfl) ?_
            refine lv_bipush (v := 24) hx hb dX12_leads_225 (by decide) ?_
            refine lv_idiv hx hb dX12_leads_227 (by decide) ?_
            refine lv_topi (fun x220 ex220 => ?_)
            have ex220 : x220.toInt = v145_8.toInt / (24 : Int) := by rw [ex220]; exact wk_div (show 0 ≤ v145_8.toInt by omega) (show 0 < (24 : Int) by decide)
            refine lv_icmp_ne (tgt := 235) hx hb dX12_leads_228 (by decide) (fun c221 => ?_) (fun c221 => ?_)
            · have c221 : ¬ x219.toInt = x220.toInt := wk_eqF c221
              refine lv_iconst (v := 0) hx hb dX12_leads_235 (by decide) ?_
              refine lv_iload hx hb dX12_leads_236 (lv_at hl 9 rfl) ?_
              refine tk_Vv hC hK hw hT hA hE hSR kM_at0 (by decide) rfl (k_X12_could_3 l adK adV dC dI cy ad B (by omega) (by omega) qr s1   x206 (show 0 ≤ x206.toInt by omega) (show x206.toInt ≤ 120 by omega) r208 (show 0 ≤ r208.toInt by omega) (show r208.toInt ≤ 9 by omega) v145_7 w85 H.size hT ) (cwV 4 hC.2.2.2.2 gX12_leads_X12_could rfl rfl rfl (by decide +kernel) ⟨Nat.le_of_ble_eq_true rfl, Nat.le_of_ble_eq_true rfl⟩) rfl hl.1 rfl (Nat.le_of_ble_eq_true rfl) dX12_leads_238 (fun w224 H locs hp223 hw => ?_)
              obtain ⟨hT, k225, hg226⟩ := hp223
              have hF := hF.tr k225 (by decide)
              have c227 := k225.gi kM_at12 rfl c88
              have c228 := k225.gi kM_at12 (by decide) c96
              have c229 := k225.gi kM_at12 rfl c97
              have c230 := k225.gi kM_at12 rfl c98
              have c231 := k225.gi kM_at12 rfl c204
              clear hg226
              exact J241 v145_7 v145_8 v145_9 r89 x206 f145_12__9_a1_toInt_217_toNat x95 H locs ls w224 (show 0 ≤ a1.toInt by omega) (show a1.toInt ≤ 3 by omega) (show 0 ≤ a2.toInt by omega) (show a2.toInt ≤ 1073741824 by omega) (show 0 ≤ a3.toInt by omega) (show a3.toInt ≤ 120 by omega) (show 0 ≤ a4.toInt by omega) (show a4.toInt ≤ 9 by omega) (show 0 ≤ a6.toInt by omega) (show a6.toInt ≤ 120 by omega) (show 0 ≤ v145_8.toInt by omega) (show v145_8.toInt ≤ 1073741944 by omega) (show 0 ≤ v145_9.toInt by omega) (show v145_9.toInt ≤ 1 by omega) (show 0 ≤ r89.toInt by omega) (show r89.toInt ≤ 11 by omega) (show 0 ≤ x206.toInt by omega) (show x206.toInt ≤ 129 by omega) (show 0 ≤ f145_12__9_a1_toInt_217_toNat.toInt by omega) (show f145_12__9_a1_toInt_217_toNat.toInt ≤ 9 by omega) (show 1 ≤ x95.toInt by omega) (show x95.toInt ≤ 12 by omega)  hw hT hF c227 c228 (lv_sub hl [2, 3, 4, 5, 6, 7, 8, 9, 10, 11, 1, 0] rfl)
            · have c221 : x219.toInt = x220.toInt := wk_eq.mp c221
              refine lv_iconst (v := 1) hx hb dX12_leads_231 (by decide) ?_
              refine lv_goto (tgt := 236) hx hb dX12_leads_232 (by decide) ?_
              refine lv_iload hx hb dX12_leads_236 (lv_at hl 9 rfl) ?_
              refine tk_Vv hC hK hw hT hA hE hSR kM_at0 (by decide) rfl (k_X12_could_6 l adK adV dC dI cy ad B (by omega) (by omega) qr s1   x206 (show 0 ≤ x206.toInt by omega) (show x206.toInt ≤ 120 by omega) r208 (show 0 ≤ r208.toInt by omega) (show r208.toInt ≤ 9 by omega) v145_7 w85 H.size hT ) (cwV 4 hC.2.2.2.2 gX12_leads_X12_could rfl rfl rfl (by decide +kernel) ⟨Nat.le_of_ble_eq_true rfl, Nat.le_of_ble_eq_true rfl⟩) rfl hl.1 rfl (Nat.le_of_ble_eq_true rfl) dX12_leads_238 (fun w234 H locs hp233 hw => ?_)
              obtain ⟨hT, k235, hg236⟩ := hp233
              have hF := hF.tr k235 (by decide)
              have c237 := k235.gi kM_at12 rfl c88
              have c238 := k235.gi kM_at12 (by decide) c96
              have c239 := k235.gi kM_at12 rfl c97
              have c240 := k235.gi kM_at12 rfl c98
              have c241 := k235.gi kM_at12 rfl c204
              clear hg236
              exact J241 v145_7 v145_8 v145_9 r89 x206 f145_12__9_a1_toInt_217_toNat x95 H locs ls w234 (show 0 ≤ a1.toInt by omega) (show a1.toInt ≤ 3 by omega) (show 0 ≤ a2.toInt by omega) (show a2.toInt ≤ 1073741824 by omega) (show 0 ≤ a3.toInt by omega) (show a3.toInt ≤ 120 by omega) (show 0 ≤ a4.toInt by omega) (show a4.toInt ≤ 9 by omega) (show 0 ≤ a6.toInt by omega) (show a6.toInt ≤ 120 by omega) (show 0 ≤ v145_8.toInt by omega) (show v145_8.toInt ≤ 1073741944 by omega) (show 0 ≤ v145_9.toInt by omega) (show v145_9.toInt ≤ 1 by omega) (show 0 ≤ r89.toInt by omega) (show r89.toInt ≤ 11 by omega) (show 0 ≤ x206.toInt by omega) (show x206.toInt ≤ 129 by omega) (show 0 ≤ f145_12__9_a1_toInt_217_toNat.toInt by omega) (show f145_12__9_a1_toInt_217_toNat.toInt ≤ 9 by omega) (show 1 ≤ x95.toInt by omega) (show x95.toInt ≤ 12 by omega)  hw hT hF c237 c238 (lv_sub hl [2, 3, 4, 5, 6, 7, 8, 9, 10, 11, 1, 0] rfl)
          · refine lv_iload hx hb dX12_leads_211 (lv_at hl 7 rfl) ?_
            refine lv_if_eq (tgt := 235) hx hb dX12_leads_213 (by decide) (fun c => absurd c (by decide)) (fun _ => ?_)
            refine lv_iload_n hx hb dX12_leads_216 rfl (lv_at hl 4 rfl) ?_
            refine lv_iload hx hb dX12_leads_217 (lv_at hl 0 rfl) ?_
            refine lv_iadd hx hb dX12_leads_219 ?_
            refine lv_topi (fun x242 ex242 => ?_)
            have ex242 : x242.toInt = a2.toInt + x206.toInt := by rw [ex242]; exact wk_add (show (-2147483648) ≤ a2.toInt + x206.toInt by omega) (show a2.toInt + x206.toInt ≤ 2147483647 by omega)
            refine lv_bipush (v := 24) hx hb dX12_leads_220 (by decide) ?_
            refine lv_idiv hx hb dX12_leads_222 (by decide) ?_
            refine lv_topi (fun x243 ex243 => ?_)
            have ex243 : x243.toInt = x242.toInt / (24 : Int) := by rw [ex243]; exact wk_div (show 0 ≤ x242.toInt by omega) (show 0 < (24 : Int) by decide)
            refine lv_iload hx hb dX12_leads_223 (lv_at hl 10 rfl) ?_
            refine lv_bipush (v := 24) hx hb dX12_leads_225 (by decide) ?_
            refine lv_idiv hx hb dX12_leads_227 (by decide) ?_
            refine lv_topi (fun x244 ex244 => ?_)
            have ex244 : x244.toInt = v145_8.toInt / (24 : Int) := by rw [ex244]; exact wk_div (show 0 ≤ v145_8.toInt by omega) (show 0 < (24 : Int) by decide)
            refine lv_icmp_ne (tgt := 235) hx hb dX12_leads_228 (by decide) (fun c245 => ?_) (fun c245 => ?_)
            · have c245 : ¬ x243.toInt = x244.toInt := wk_eqF c245
              refine lv_iconst (v := 0) hx hb dX12_leads_235 (by decide) ?_
              refine lv_iload hx hb dX12_leads_236 (lv_at hl 9 rfl) ?_
              refine tk_Vv hC hK hw hT hA hE hSR kM_at0 (by decide) rfl (k_X12_could_3 l adK adV dC dI cy ad B (by omega) (by omega) qr s1   x206 (show 0 ≤ x206.toInt by omega) (show x206.toInt ≤ 120 by omega) r208 (show 0 ≤ r208.toInt by omega) (show r208.toInt ≤ 9 by omega) v145_7 w85 H.size hT ) (cwV 4 hC.2.2.2.2 gX12_leads_X12_could rfl rfl rfl (by decide +kernel) ⟨Nat.le_of_ble_eq_true rfl, Nat.le_of_ble_eq_true rfl⟩) rfl hl.1 rfl (Nat.le_of_ble_eq_true rfl) dX12_leads_238 (fun w248 H locs hp247 hw => ?_)
              obtain ⟨hT, k249, hg250⟩ := hp247
              have hF := hF.tr k249 (by decide)
              have c251 := k249.gi kM_at12 rfl c88
              have c252 := k249.gi kM_at12 (by decide) c96
              have c253 := k249.gi kM_at12 rfl c97
              have c254 := k249.gi kM_at12 rfl c98
              have c255 := k249.gi kM_at12 rfl c204
              clear hg250
              exact J241 v145_7 v145_8 v145_9 r89 x206 f145_12__9_a1_toInt_217_toNat x95 H locs ls w248 (show 0 ≤ a1.toInt by omega) (show a1.toInt ≤ 3 by omega) (show 0 ≤ a2.toInt by omega) (show a2.toInt ≤ 1073741824 by omega) (show 0 ≤ a3.toInt by omega) (show a3.toInt ≤ 120 by omega) (show 0 ≤ a4.toInt by omega) (show a4.toInt ≤ 9 by omega) (show 0 ≤ a6.toInt by omega) (show a6.toInt ≤ 120 by omega) (show 0 ≤ v145_8.toInt by omega) (show v145_8.toInt ≤ 1073741944 by omega) (show 0 ≤ v145_9.toInt by omega) (show v145_9.toInt ≤ 1 by omega) (show 0 ≤ r89.toInt by omega) (show r89.toInt ≤ 11 by omega) (show 0 ≤ x206.toInt by omega) (show x206.toInt ≤ 129 by omega) (show 0 ≤ f145_12__9_a1_toInt_217_toNat.toInt by omega) (show f145_12__9_a1_toInt_217_toNat.toInt ≤ 9 by omega) (show 1 ≤ x95.toInt by omega) (show x95.toInt ≤ 12 by omega)  hw hT hF c251 c252 (lv_sub hl [2, 3, 4, 5, 6, 7, 8, 9, 10, 11, 1, 0] rfl)
            · have c245 : x243.toInt = x244.toInt := wk_eq.mp c245
              refine lv_iconst (v := 1) hx hb dX12_leads_231 (by decide) ?_
              refine lv_goto (tgt := 236) hx hb dX12_leads_232 (by decide) ?_
              refine lv_iload hx hb dX12_leads_236 (lv_at hl 9 rfl) ?_
              refine tk_Vv hC hK hw hT hA hE hSR kM_at0 (by decide) rfl (k_X12_could_6 l adK adV dC dI cy ad B (by omega) (by omega) qr s1   x206 (show 0 ≤ x206.toInt by omega) (show x206.toInt ≤ 120 by omega) r208 (show 0 ≤ r208.toInt by omega) (show r208.toInt ≤ 9 by omega) v145_7 w85 H.size hT ) (cwV 4 hC.2.2.2.2 gX12_leads_X12_could rfl rfl rfl (by decide +kernel) ⟨Nat.le_of_ble_eq_true rfl, Nat.le_of_ble_eq_true rfl⟩) rfl hl.1 rfl (Nat.le_of_ble_eq_true rfl) dX12_leads_238 (fun w258 H locs hp257 hw => ?_)
              obtain ⟨hT, k259, hg260⟩ := hp257
              have hF := hF.tr k259 (by decide)
              have c261 := k259.gi kM_at12 rfl c88
              have c262 := k259.gi kM_at12 (by decide) c96
              have c263 := k259.gi kM_at12 rfl c97
              have c264 := k259.gi kM_at12 rfl c98
              have c265 := k259.gi kM_at12 rfl c204
              clear hg260
              exact J241 v145_7 v145_8 v145_9 r89 x206 f145_12__9_a1_toInt_217_toNat x95 H locs ls w258 (show 0 ≤ a1.toInt by omega) (show a1.toInt ≤ 3 by omega) (show 0 ≤ a2.toInt by omega) (show a2.toInt ≤ 1073741824 by omega) (show 0 ≤ a3.toInt by omega) (show a3.toInt ≤ 120 by omega) (show 0 ≤ a4.toInt by omega) (show a4.toInt ≤ 9 by omega) (show 0 ≤ a6.toInt by omega) (show a6.toInt ≤ 120 by omega) (show 0 ≤ v145_8.toInt by omega) (show v145_8.toInt ≤ 1073741944 by omega) (show 0 ≤ v145_9.toInt by omega) (show v145_9.toInt ≤ 1 by omega) (show 0 ≤ r89.toInt by omega) (show r89.toInt ≤ 11 by omega) (show 0 ≤ x206.toInt by omega) (show x206.toInt ≤ 129 by omega) (show 0 ≤ f145_12__9_a1_toInt_217_toNat.toInt by omega) (show f145_12__9_a1_toInt_217_toNat.toInt ≤ 9 by omega) (show 1 ≤ x95.toInt by omega) (show x95.toInt ≤ 12 by omega)  hw hT hF c261 c262 (lv_sub hl [2, 3, 4, 5, 6, 7, 8, 9, 10, 11, 1, 0] rfl)
      · refine lv_if_ne (tgt := 182) hx hb dX12_leads_178 (by decide) (fun _ => ?_) (fun c => absurd c (by decide))
        refine lv_iload_n hx hb dX12_leads_182 rfl (lv_at hl 4 rfl) ?_
        refine lv_aload_n hx hb dX12_leads_183 rfl (lv_at hl 1 rfl) ?_
        refine lv_iload hx hb dX12_leads_184 (lv_at hl 0 rfl) ?_
        refine lv_iconst (v := 2) hx hb dX12_leads_186 (by decide) ?_
        refine tk_Vi hC hK hw hT hA hE hSR kM_at0 (by decide) rfl (k_X12_streetOf_6 l adK adV dC dI cy ad B (by omega) (by omega) qr s1   r89 (show 0 ≤ r89.toInt by omega) (show r89.toInt ≤ 11 by omega) w85 H.size hT ) (cwV 2 hC.2.2.2.2 gX12_leads_X12_streetOf rfl rfl rfl (by decide +kernel) ⟨Nat.le_of_ble_eq_true rfl, Nat.le_of_ble_eq_true rfl⟩) rfl hl.1 rfl (Nat.le_of_ble_eq_true rfl) dX12_leads_187 (fun r266 w268 H locs hp267 hw => ?_)
        obtain ⟨rfl, hg273⟩ := hp267
        obtain ⟨g270, g271, c272⟩ := hg273
        refine lv_iadd hx hb dX12_leads_190 ?_
        refine lv_topi (fun x274 ex274 => ?_)
        have ex274 : x274.toInt = a3.toInt + r266.toInt := by rw [ex274]; exact wk_add (show (-2147483648) ≤ a3.toInt + r266.toInt by omega) (show a3.toInt + r266.toInt ≤ 2147483647 by omega)
        refine lv_istore (lv' := [(11, .int x274), (10, .int r89), (0, .ref (ad 0)), (1, .int a1), (2, .int a2), (3, .int a3), (4, .int a4), (5, .int 1), (6, .int a6), (7, .int v145_7), (8, .int v145_8), (9, .int v145_9)]) hx hb dX12_leads_191 hl (by decide) rfl (fun ls hl => ?_)
        refine lv_iload hx hb dX12_leads_193 (lv_at hl 0 rfl) ?_
        refine lv_iload hx hb dX12_leads_195 (lv_at hl 8 rfl) ?_
        refine lv_icmp_gt (tgt := 241) hx hb dX12_leads_197 (by decide) (fun c275 => ?_) (fun c275 => ?_)
        · have c275 : a6.toInt < x274.toInt := wk_lt.mp c275
          exact J241 v145_7 v145_8 v145_9 r89 x274 f145_12__9_a1_toInt_217_toNat x95 H locs ls w85 (show 0 ≤ a1.toInt by omega) (show a1.toInt ≤ 3 by omega) (show 0 ≤ a2.toInt by omega) (show a2.toInt ≤ 1073741824 by omega) (show 0 ≤ a3.toInt by omega) (show a3.toInt ≤ 120 by omega) (show 0 ≤ a4.toInt by omega) (show a4.toInt ≤ 9 by omega) (show 0 ≤ a6.toInt by omega) (show a6.toInt ≤ 120 by omega) (show 0 ≤ v145_8.toInt by omega) (show v145_8.toInt ≤ 1073741944 by omega) (show 0 ≤ v145_9.toInt by omega) (show v145_9.toInt ≤ 1 by omega) (show 0 ≤ r89.toInt by omega) (show r89.toInt ≤ 11 by omega) (show 0 ≤ x274.toInt by omega) (show x274.toInt ≤ 129 by omega) (show 0 ≤ f145_12__9_a1_toInt_217_toNat.toInt by omega) (show f145_12__9_a1_toInt_217_toNat.toInt ≤ 9 by omega) (show 1 ≤ x95.toInt by omega) (show x95.toInt ≤ 12 by omega)  hw hT hF c88 c96 (lv_sub hl [2, 3, 4, 5, 6, 7, 8, 9, 10, 11, 1, 0] rfl)
        · have c275 : x274.toInt ≤ a6.toInt := wk_ltF c275
          refine lv_aload_n hx hb dX12_leads_200 rfl (lv_at hl 2 rfl) ?_
          refine lv_iload hx hb dX12_leads_201 (lv_at hl 0 rfl) ?_
          refine lv_aload_n hx hb dX12_leads_203 rfl (lv_at hl 2 rfl) ?_
          refine lv_iload hx hb dX12_leads_204 (lv_at hl 1 rfl) ?_
          refine lv_iload hx hb dX12_leads_206 (lv_at hl 6 rfl) ?_
          refine tk_Vi hC hK hw hT hA hE hSR kM_at0 (by decide) rfl (k_X12_otherOf_1 l adK adV dC dI cy ad B (by omega) (by omega) qr s1   r89 (show 0 ≤ r89.toInt by omega) (show r89.toInt ≤ 11 by omega) a4 (show 0 ≤ a4.toInt by omega) (show a4.toInt ≤ 9 by omega) w85 H.size hT ) (cwV 2 hC.2.2.2.2 gX12_leads_X12_otherOf rfl rfl rfl (by decide +kernel) ⟨Nat.le_of_ble_eq_true rfl, Nat.le_of_ble_eq_true rfl⟩) rfl hl.1 rfl (Nat.le_of_ble_eq_true rfl) dX12_leads_208 (fun r276 w278 H locs hp277 hw => ?_)
          obtain ⟨rfl, hg285⟩ := hp277
          rcases hg285 with ⟨g280, g281⟩ | ⟨g282, g283, c284⟩
          · refine lv_iload hx hb dX12_leads_211 (lv_at hl 7 rfl) ?_
            refine lv_if_eq (tgt := 235) hx hb dX12_leads_213 (by decide) (fun c => absurd c (by decide)) (fun _ => ?_)
            refine lv_iload_n hx hb dX12_leads_216 rfl (lv_at hl 4 rfl) ?_
            refine lv_iload hx hb dX12_leads_217 (lv_at hl 0 rfl) ?_
            refine lv_iadd hx hb dX12_leads_219 ?_
            refine lv_topi (fun x286 ex286 => ?_)
            have ex286 : x286.toInt = a2.toInt + x274.toInt := by rw [ex286]; exact wk_add (show (-2147483648) ≤ a2.toInt + x274.toInt by omega) (show a2.toInt + x274.toInt ≤ 2147483647 by omega)
            refine lv_bipush (v := 24) hx hb dX12_leads_220 (by decide) ?_
            refine lv_idiv hx hb dX12_leads_222 (by decide) ?_
            refine lv_topi (fun x287 ex287 => ?_)
            have ex287 : x287.toInt = x286.toInt / (24 : Int) := by rw [ex287]; exact wk_div (show 0 ≤ x286.toInt by omega) (show 0 < (24 : Int) by decide)
            refine lv_iload hx hb dX12_leads_223 (lv_at hl 10 rfl) ?_
            refine lv_bipush (v := 24) hx hb dX12_leads_225 (by decide) ?_
            refine lv_idiv hx hb dX12_leads_227 (by decide) ?_
            refine lv_topi (fun x288 ex288 => ?_)
            have ex288 : x288.toInt = v145_8.toInt / (24 : Int) := by rw [ex288]; exact wk_div (show 0 ≤ v145_8.toInt by omega) (show 0 < (24 : Int) by decide)
            refine lv_icmp_ne (tgt := 235) hx hb dX12_leads_228 (by decide) (fun c289 => ?_) (fun c289 => ?_)
            · have c289 : ¬ x287.toInt = x288.toInt := wk_eqF c289
              refine lv_iconst (v := 0) hx hb dX12_leads_235 (by decide) ?_
              refine lv_iload hx hb dX12_leads_236 (lv_at hl 9 rfl) ?_
              refine tk_Vv hC hK hw hT hA hE hSR kM_at0 (by decide) rfl (k_X12_could_3 l adK adV dC dI cy ad B (by omega) (by omega) qr s1   x274 (show 0 ≤ x274.toInt by omega) (show x274.toInt ≤ 120 by omega) r276 (show 0 ≤ r276.toInt by omega) (show r276.toInt ≤ 9 by omega) v145_7 w85 H.size hT ) (cwV 4 hC.2.2.2.2 gX12_leads_X12_could rfl rfl rfl (by decide +kernel) ⟨Nat.le_of_ble_eq_true rfl, Nat.le_of_ble_eq_true rfl⟩) rfl hl.1 rfl (Nat.le_of_ble_eq_true rfl) dX12_leads_238 (fun w292 H locs hp291 hw => ?_)
              obtain ⟨hT, k293, hg294⟩ := hp291
              have hF := hF.tr k293 (by decide)
              have c295 := k293.gi kM_at12 rfl c88
              have c296 := k293.gi kM_at12 (by decide) c96
              have c297 := k293.gi kM_at12 rfl c97
              have c298 := k293.gi kM_at12 rfl c98
              have c299 := k293.gi kM_at12 rfl c272
              clear hg294
              exact J241 v145_7 v145_8 v145_9 r89 x274 f145_12__9_a1_toInt_217_toNat x95 H locs ls w292 (show 0 ≤ a1.toInt by omega) (show a1.toInt ≤ 3 by omega) (show 0 ≤ a2.toInt by omega) (show a2.toInt ≤ 1073741824 by omega) (show 0 ≤ a3.toInt by omega) (show a3.toInt ≤ 120 by omega) (show 0 ≤ a4.toInt by omega) (show a4.toInt ≤ 9 by omega) (show 0 ≤ a6.toInt by omega) (show a6.toInt ≤ 120 by omega) (show 0 ≤ v145_8.toInt by omega) (show v145_8.toInt ≤ 1073741944 by omega) (show 0 ≤ v145_9.toInt by omega) (show v145_9.toInt ≤ 1 by omega) (show 0 ≤ r89.toInt by omega) (show r89.toInt ≤ 11 by omega) (show 0 ≤ x274.toInt by omega) (show x274.toInt ≤ 129 by omega) (show 0 ≤ f145_12__9_a1_toInt_217_toNat.toInt by omega) (show f145_12__9_a1_toInt_217_toNat.toInt ≤ 9 by omega) (show 1 ≤ x95.toInt by omega) (show x95.toInt ≤ 12 by omega)  hw hT hF c295 c296 (lv_sub hl [2, 3, 4, 5, 6, 7, 8, 9, 10, 11, 1, 0] rfl)
            · have c289 : x287.toInt = x288.toInt := wk_eq.mp c289
              refine lv_iconst (v := 1) hx hb dX12_leads_231 (by decide) ?_
              refine lv_goto (tgt := 236) hx hb dX12_leads_232 (by decide) ?_
              refine lv_iload hx hb dX12_leads_236 (lv_at hl 9 rfl) ?_
              refine tk_Vv hC hK hw hT hA hE hSR kM_at0 (by decide) rfl (k_X12_could_6 l adK adV dC dI cy ad B (by omega) (by omega) qr s1   x274 (show 0 ≤ x274.toInt by omega) (show x274.toInt ≤ 120 by omega) r276 (show 0 ≤ r276.toInt by omega) (show r276.toInt ≤ 9 by omega) v145_7 w85 H.size hT ) (cwV 4 hC.2.2.2.2 gX12_leads_X12_could rfl rfl rfl (by decide +kernel) ⟨Nat.le_of_ble_eq_true rfl, Nat.le_of_ble_eq_true rfl⟩) rfl hl.1 rfl (Nat.le_of_ble_eq_true rfl) dX12_leads_238 (fun w302 H locs hp301 hw => ?_)
              obtain ⟨hT, k303, hg304⟩ := hp301
              have hF := hF.tr k303 (by decide)
              have c305 := k303.gi kM_at12 rfl c88
              have c306 := k303.gi kM_at12 (by decide) c96
              have c307 := k303.gi kM_at12 rfl c97
              have c308 := k303.gi kM_at12 rfl c98
              have c309 := k303.gi kM_at12 rfl c272
              clear hg304
              exact J241 v145_7 v145_8 v145_9 r89 x274 f145_12__9_a1_toInt_217_toNat x95 H locs ls w302 (show 0 ≤ a1.toInt by omega) (show a1.toInt ≤ 3 by omega) (show 0 ≤ a2.toInt by omega) (show a2.toInt ≤ 1073741824 by omega) (show 0 ≤ a3.toInt by omega) (show a3.toInt ≤ 120 by omega) (show 0 ≤ a4.toInt by omega) (show a4.toInt ≤ 9 by omega) (show 0 ≤ a6.toInt by omega) (show a6.toInt ≤ 120 by omega) (show 0 ≤ v145_8.toInt by omega) (show v145_8.toInt ≤ 1073741944 by omega) (show 0 ≤ v145_9.toInt by omega) (show v145_9.toInt ≤ 1 by omega) (show 0 ≤ r89.toInt by omega) (show r89.toInt ≤ 11 by omega) (show 0 ≤ x274.toInt by omega) (show x274.toInt ≤ 129 by omega) (show 0 ≤ f145_12__9_a1_toInt_217_toNat.toInt by omega) (show f145_12__9_a1_toInt_217_toNat.toInt ≤ 9 by omega) (show 1 ≤ x95.toInt by omega) (show x95.toInt ≤ 12 by omega)  hw hT hF c305 c306 (lv_sub hl [2, 3, 4, 5, 6, 7, 8, 9, 10, 11, 1, 0] rfl)
          · refine lv_iload hx hb dX12_leads_211 (lv_at hl 7 rfl) ?_
            refine lv_if_eq (tgt := 235) hx hb dX12_leads_213 (by decide) (fun c => absurd c (by decide)) (fun _ => ?_)
            refine lv_iload_n hx hb dX12_leads_216 rfl (lv_at hl 4 rfl) ?_
            refine lv_iload hx hb dX12_leads_217 (lv_at hl 0 rfl) ?_
            refine lv_iadd hx hb dX12_leads_219 ?_
            refine lv_topi (fun x310 ex310 => ?_)
            have ex310 : x310.toInt = a2.toInt + x274.toInt := by rw [ex310]; exact wk_add (show (-2147483648) ≤ a2.toInt + x274.toInt by omega) (show a2.toInt + x274.toInt ≤ 2147483647 by omega)
            refine lv_bipush (v := 24) hx hb dX12_leads_220 (by decide) ?_
            refine lv_idiv hx hb dX12_leads_222 (by decide) ?_
            refine lv_topi (fun x311 ex311 => ?_)
            have ex311 : x311.toInt = x310.toInt / (24 : Int) := by rw [ex311]; exact wk_div (show 0 ≤ x310.toInt by omega) (show 0 < (24 : Int) by decide)
            refine lv_iload hx hb dX12_leads_223 (lv_at hl 10 rfl) ?_
            refine lv_bipush (v := 24) hx hb dX12_leads_225 (by decide) ?_
            refine lv_idiv hx hb dX12_leads_227 (by decide) ?_
            refine lv_topi (fun x312 ex312 => ?_)
            have ex312 : x312.toInt = v145_8.toInt / (24 : Int) := by rw [ex312]; exact wk_div (show 0 ≤ v145_8.toInt by omega) (show 0 < (24 : Int) by decide)
            refine lv_icmp_ne (tgt := 235) hx hb dX12_leads_228 (by decide) (fun c313 => ?_) (fun c313 => ?_)
            · have c313 : ¬ x311.toInt = x312.toInt := wk_eqF c313
              refine lv_iconst (v := 0) hx hb dX12_leads_235 (by decide) ?_
              refine lv_iload hx hb dX12_leads_236 (lv_at hl 9 rfl) ?_
              refine tk_Vv hC hK hw hT hA hE hSR kM_at0 (by decide) rfl (k_X12_could_3 l adK adV dC dI cy ad B (by omega) (by omega) qr s1   x274 (show 0 ≤ x274.toInt by omega) (show x274.toInt ≤ 120 by omega) r276 (show 0 ≤ r276.toInt by omega) (show r276.toInt ≤ 9 by omega) v145_7 w85 H.size hT ) (cwV 4 hC.2.2.2.2 gX12_leads_X12_could rfl rfl rfl (by decide +kernel) ⟨Nat.le_of_ble_eq_true rfl, Nat.le_of_ble_eq_true rfl⟩) rfl hl.1 rfl (Nat.le_of_ble_eq_true rfl) dX12_leads_238 (fun w316 H locs hp315 hw => ?_)
              obtain ⟨hT, k317, hg318⟩ := hp315
              have hF := hF.tr k317 (by decide)
              have c319 := k317.gi kM_at12 rfl c88
              have c320 := k317.gi kM_at12 (by decide) c96
              have c321 := k317.gi kM_at12 rfl c97
              have c322 := k317.gi kM_at12 rfl c98
              have c323 := k317.gi kM_at12 rfl c272
              clear hg318
              exact J241 v145_7 v145_8 v145_9 r89 x274 f145_12__9_a1_toInt_217_toNat x95 H locs ls w316 (show 0 ≤ a1.toInt by omega) (show a1.toInt ≤ 3 by omega) (show 0 ≤ a2.toInt by omega) (show a2.toInt ≤ 1073741824 by omega) (show 0 ≤ a3.toInt by omega) (show a3.toInt ≤ 120 by omega) (show 0 ≤ a4.toInt by omega) (show a4.toInt ≤ 9 by omega) (show 0 ≤ a6.toInt by omega) (show a6.toInt ≤ 120 by omega) (show 0 ≤ v145_8.toInt by omega) (show v145_8.toInt ≤ 1073741944 by omega) (show 0 ≤ v145_9.toInt by omega) (show v145_9.toInt ≤ 1 by omega) (show 0 ≤ r89.toInt by omega) (show r89.toInt ≤ 11 by omega) (show 0 ≤ x274.toInt by omega) (show x274.toInt ≤ 129 by omega) (show 0 ≤ f145_12__9_a1_toInt_217_toNat.toInt by omega) (show f145_12__9_a1_toInt_217_toNat.toInt ≤ 9 by omega) (show 1 ≤ x95.toInt by omega) (show x95.toInt ≤ 12 by omega)  hw hT hF c319 c320 (lv_sub hl [2, 3, 4, 5, 6, 7, 8, 9, 10, 11, 1, 0] rfl)
            · have c313 : x311.toInt = x312.toInt := wk_eq.mp c313
              refine lv_iconst (v := 1) hx hb dX12_leads_231 (by decide) ?_
              refine lv_goto (tgt := 236) hx hb dX12_leads_232 (by decide) ?_
              refine lv_iload hx hb dX12_leads_236 (lv_at hl 9 rfl) ?_
              refine tk_Vv hC hK hw hT hA hE hSR kM_at0 (by decide) rfl (k_X12_could_6 l adK adV dC dI cy ad B (by omega) (by omega) qr s1   x274 (show 0 ≤ x274.toInt by omega) (show x274.toInt ≤ 120 by omega) r276 (show 0 ≤ r276.toInt by omega) (show r276.toInt ≤ 9 by omega) v145_7 w85 H.size hT ) (cwV 4 hC.2.2.2.2 gX12_leads_X12_could rfl rfl rfl (by decide +kernel) ⟨Nat.le_of_ble_eq_true rfl, Nat.le_of_ble_eq_true rfl⟩) rfl hl.1 rfl (Nat.le_of_ble_eq_true rfl) dX12_leads_238 (fun w326 H locs hp325 hw => ?_)
              obtain ⟨hT, k327, hg328⟩ := hp325
              have hF := hF.tr k327 (by decide)
              have c329 := k327.gi kM_at12 rfl c88
              have c330 := k327.gi kM_at12 (by decide) c96
              have c331 := k327.gi kM_at12 rfl c97
              have c332 := k327.gi kM_at12 rfl c98
              have c333 := k327.gi kM_at12 rfl c272
              clear hg328
              exact J241 v145_7 v145_8 v145_9 r89 x274 f145_12__9_a1_toInt_217_toNat x95 H locs ls w326 (show 0 ≤ a1.toInt by omega) (show a1.toInt ≤ 3 by omega) (show 0 ≤ a2.toInt by omega) (show a2.toInt ≤ 1073741824 by omega) (show 0 ≤ a3.toInt by omega) (show a3.toInt ≤ 120 by omega) (show 0 ≤ a4.toInt by omega) (show a4.toInt ≤ 9 by omega) (show 0 ≤ a6.toInt by omega) (show a6.toInt ≤ 120 by omega) (show 0 ≤ v145_8.toInt by omega) (show v145_8.toInt ≤ 1073741944 by omega) (show 0 ≤ v145_9.toInt by omega) (show v145_9.toInt ≤ 1 by omega) (show 0 ≤ r89.toInt by omega) (show r89.toInt ≤ 11 by omega) (show 0 ≤ x274.toInt by omega) (show x274.toInt ≤ 129 by omega) (show 0 ≤ f145_12__9_a1_toInt_217_toNat.toInt by omega) (show f145_12__9_a1_toInt_217_toNat.toInt ≤ 9 by omega) (show 1 ≤ x95.toInt by omega) (show x95.toInt ≤ 12 by omega)  hw hT hF c329 c330 (lv_sub hl [2, 3, 4, 5, 6, 7, 8, 9, 10, 11, 1, 0] rfl)
    · refine lv_istore (lv' := [(10, .int r89), (0, .ref (ad 0)), (1, .int a1), (2, .int a2), (3, .int a3), (4, .int a4), (5, .int 1), (6, .int a6), (7, .int v145_7), (8, .int v145_8), (9, .int v145_9)]) hx hb dX12_leads_161 hl (by decide) rfl (fun ls hl => ?_)
      refine lv_iload hx hb dX12_leads_163 (lv_at hl 0 rfl) ?_
      refine lv_if_lt (tgt := 181) hx hb dX12_leads_165 (by decide) (fun c => absurd c (fun h => absurd (show r89.toInt < (0 : Int) from wk_lt.mp h) (by omega))) (fun _ => ?_)
      refine lv_aload_n hx hb dX12_leads_168 rfl (lv_at hl 1 rfl) ?_
      refine lv_iload hx hb dX12_leads_169 (lv_at hl 0 rfl) ?_
      refine lv_iload hx hb dX12_leads_171 (lv_at hl 5 rfl) ?_
      refine lv_iload hx hb dX12_leads_173 (lv_at hl 9 rfl) ?_
      refine tk_Vi hC hK hw hT hA hE hSR kM_at0 (by decide) rfl (k_X12_isOpen_3 l adK adV dC dI cy ad B (by omega) (by omega) qr s1   r89 (show 0 ≤ r89.toInt by omega) (show r89.toInt ≤ 11 by omega) a4 (show 0 ≤ a4.toInt by omega) (show a4.toInt ≤ 9 by omega) v145_8 (show 0 ≤ v145_8.toInt by omega) (show v145_8.toInt ≤ 1073741944 by omega) w85 H.size hT ) (cwV 3 hC.2.2.2.2 gX12_leads_X12_isOpen rfl rfl rfl (by decide +kernel) ⟨Nat.le_of_ble_eq_true rfl, Nat.le_of_ble_eq_true rfl⟩) rfl hl.1 rfl (Nat.le_of_ble_eq_true rfl) dX12_leads_175 (fun r334 w336 H locs hp335 hw => ?_)
      obtain ⟨rfl, hg353⟩ := hp335
      rcases hg353 with ⟨rfl, hq338⟩ | ⟨rfl, c339, c340, hq341⟩ | ⟨rfl, c342, hq343⟩ | ⟨rfl, c344, hq345⟩ | ⟨rfl, c346, c347, hq348⟩ | ⟨rfl, c349, hq350⟩ | ⟨rfl, c351, hq352⟩
      · refine lv_if_ne (tgt := 182) hx hb dX12_leads_178 (by decide) (fun c => absurd (by decide) c) (fun _ => ?_)
        exact J181 v145_7 v145_8 v145_9 r89 f145_12__9_a1_toInt_217_toNat H locs ls w85 (show 0 ≤ a1.toInt by omega) (show a1.toInt ≤ 3 by omega) (show 0 ≤ a2.toInt by omega) (show a2.toInt ≤ 1073741824 by omega) (show 0 ≤ a3.toInt by omega) (show a3.toInt ≤ 120 by omega) (show 0 ≤ a4.toInt by omega) (show a4.toInt ≤ 9 by omega) (show 0 ≤ a6.toInt by omega) (show a6.toInt ≤ 120 by omega) (show 0 ≤ v145_8.toInt by omega) (show v145_8.toInt ≤ 1073741944 by omega) (show 0 ≤ v145_9.toInt by omega) (show v145_9.toInt ≤ 1 by omega) (show (-1) ≤ r89.toInt by omega) (show r89.toInt ≤ 11 by omega) (show 0 ≤ f145_12__9_a1_toInt_217_toNat.toInt by omega) (show f145_12__9_a1_toInt_217_toNat.toInt ≤ 9 by omega)  hw hT hF c88 (lv_sub hl [1, 2, 3, 4, 5, 6, 7, 8, 9, 10, 0] rfl)
      · refine lv_if_ne (tgt := 182) hx hb dX12_leads_178 (by decide) (fun c => absurd (by decide) c) (fun _ => ?_)
        exact J181 v145_7 v145_8 v145_9 r89 f145_12__9_a1_toInt_217_toNat H locs ls w85 (show 0 ≤ a1.toInt by omega) (show a1.toInt ≤ 3 by omega) (show 0 ≤ a2.toInt by omega) (show a2.toInt ≤ 1073741824 by omega) (show 0 ≤ a3.toInt by omega) (show a3.toInt ≤ 120 by omega) (show 0 ≤ a4.toInt by omega) (show a4.toInt ≤ 9 by omega) (show 0 ≤ a6.toInt by omega) (show a6.toInt ≤ 120 by omega) (show 0 ≤ v145_8.toInt by omega) (show v145_8.toInt ≤ 1073741944 by omega) (show 0 ≤ v145_9.toInt by omega) (show v145_9.toInt ≤ 1 by omega) (show (-1) ≤ r89.toInt by omega) (show r89.toInt ≤ 11 by omega) (show 0 ≤ f145_12__9_a1_toInt_217_toNat.toInt by omega) (show f145_12__9_a1_toInt_217_toNat.toInt ≤ 9 by omega)  hw hT hF c88 (lv_sub hl [1, 2, 3, 4, 5, 6, 7, 8, 9, 10, 0] rfl)
      · refine lv_if_ne (tgt := 182) hx hb dX12_leads_178 (by decide) (fun c => absurd (by decide) c) (fun _ => ?_)
        exact J181 v145_7 v145_8 v145_9 r89 f145_12__9_a1_toInt_217_toNat H locs ls w85 (show 0 ≤ a1.toInt by omega) (show a1.toInt ≤ 3 by omega) (show 0 ≤ a2.toInt by omega) (show a2.toInt ≤ 1073741824 by omega) (show 0 ≤ a3.toInt by omega) (show a3.toInt ≤ 120 by omega) (show 0 ≤ a4.toInt by omega) (show a4.toInt ≤ 9 by omega) (show 0 ≤ a6.toInt by omega) (show a6.toInt ≤ 120 by omega) (show 0 ≤ v145_8.toInt by omega) (show v145_8.toInt ≤ 1073741944 by omega) (show 0 ≤ v145_9.toInt by omega) (show v145_9.toInt ≤ 1 by omega) (show (-1) ≤ r89.toInt by omega) (show r89.toInt ≤ 11 by omega) (show 0 ≤ f145_12__9_a1_toInt_217_toNat.toInt by omega) (show f145_12__9_a1_toInt_217_toNat.toInt ≤ 9 by omega)  hw hT hF c88 (lv_sub hl [1, 2, 3, 4, 5, 6, 7, 8, 9, 10, 0] rfl)
      · refine lv_if_ne (tgt := 182) hx hb dX12_leads_178 (by decide) (fun c => absurd (by decide) c) (fun _ => ?_)
        exact J181 v145_7 v145_8 v145_9 r89 f145_12__9_a1_toInt_217_toNat H locs ls w85 (show 0 ≤ a1.toInt by omega) (show a1.toInt ≤ 3 by omega) (show 0 ≤ a2.toInt by omega) (show a2.toInt ≤ 1073741824 by omega) (show 0 ≤ a3.toInt by omega) (show a3.toInt ≤ 120 by omega) (show 0 ≤ a4.toInt by omega) (show a4.toInt ≤ 9 by omega) (show 0 ≤ a6.toInt by omega) (show a6.toInt ≤ 120 by omega) (show 0 ≤ v145_8.toInt by omega) (show v145_8.toInt ≤ 1073741944 by omega) (show 0 ≤ v145_9.toInt by omega) (show v145_9.toInt ≤ 1 by omega) (show (-1) ≤ r89.toInt by omega) (show r89.toInt ≤ 11 by omega) (show 0 ≤ f145_12__9_a1_toInt_217_toNat.toInt by omega) (show f145_12__9_a1_toInt_217_toNat.toInt ≤ 9 by omega)  hw hT hF c88 (lv_sub hl [1, 2, 3, 4, 5, 6, 7, 8, 9, 10, 0] rfl)
      · refine lv_if_ne (tgt := 182) hx hb dX12_leads_178 (by decide) (fun _ => ?_) (fun c => absurd c (by decide))
        refine lv_iload_n hx hb dX12_leads_182 rfl (lv_at hl 4 rfl) ?_
        refine lv_aload_n hx hb dX12_leads_183 rfl (lv_at hl 1 rfl) ?_
        refine lv_iload hx hb dX12_leads_184 (lv_at hl 0 rfl) ?_
        refine lv_iconst (v := 2) hx hb dX12_leads_186 (by decide) ?_
        refine tk_Vi hC hK hw hT hA hE hSR kM_at0 (by decide) rfl (k_X12_streetOf_6 l adK adV dC dI cy ad B (by omega) (by omega) qr s1   r89 (show 0 ≤ r89.toInt by omega) (show r89.toInt ≤ 11 by omega) w85 H.size hT ) (cwV 2 hC.2.2.2.2 gX12_leads_X12_streetOf rfl rfl rfl (by decide +kernel) ⟨Nat.le_of_ble_eq_true rfl, Nat.le_of_ble_eq_true rfl⟩) rfl hl.1 rfl (Nat.le_of_ble_eq_true rfl) dX12_leads_187 (fun r354 w356 H locs hp355 hw => ?_)
        obtain ⟨rfl, hg361⟩ := hp355
        obtain ⟨g358, g359, c360⟩ := hg361
        refine lv_iadd hx hb dX12_leads_190 ?_
        refine lv_topi (fun x362 ex362 => ?_)
        have ex362 : x362.toInt = a3.toInt + r354.toInt := by rw [ex362]; exact wk_add (show (-2147483648) ≤ a3.toInt + r354.toInt by omega) (show a3.toInt + r354.toInt ≤ 2147483647 by omega)
        refine lv_istore (lv' := [(11, .int x362), (10, .int r89), (0, .ref (ad 0)), (1, .int a1), (2, .int a2), (3, .int a3), (4, .int a4), (5, .int 1), (6, .int a6), (7, .int v145_7), (8, .int v145_8), (9, .int v145_9)]) hx hb dX12_leads_191 hl (by decide) rfl (fun ls hl => ?_)
        refine lv_iload hx hb dX12_leads_193 (lv_at hl 0 rfl) ?_
        refine lv_iload hx hb dX12_leads_195 (lv_at hl 8 rfl) ?_
        refine lv_icmp_gt (tgt := 241) hx hb dX12_leads_197 (by decide) (fun c363 => ?_) (fun c363 => ?_)
        · have c363 : a6.toInt < x362.toInt := wk_lt.mp c363
          exact J241 v145_7 v145_8 v145_9 r89 x362 f145_12__9_a1_toInt_217_toNat x101 H locs ls w85 (show 0 ≤ a1.toInt by omega) (show a1.toInt ≤ 3 by omega) (show 0 ≤ a2.toInt by omega) (show a2.toInt ≤ 1073741824 by omega) (show 0 ≤ a3.toInt by omega) (show a3.toInt ≤ 120 by omega) (show 0 ≤ a4.toInt by omega) (show a4.toInt ≤ 9 by omega) (show 0 ≤ a6.toInt by omega) (show a6.toInt ≤ 120 by omega) (show 0 ≤ v145_8.toInt by omega) (show v145_8.toInt ≤ 1073741944 by omega) (show 0 ≤ v145_9.toInt by omega) (show v145_9.toInt ≤ 1 by omega) (show 0 ≤ r89.toInt by omega) (show r89.toInt ≤ 11 by omega) (show 0 ≤ x362.toInt by omega) (show x362.toInt ≤ 129 by omega) (show 0 ≤ f145_12__9_a1_toInt_217_toNat.toInt by omega) (show f145_12__9_a1_toInt_217_toNat.toInt ≤ 9 by omega) (show 1 ≤ x101.toInt by omega) (show x101.toInt ≤ 12 by omega)  hw hT hF c88 c102 (lv_sub hl [2, 3, 4, 5, 6, 7, 8, 9, 10, 11, 1, 0] rfl)
        · have c363 : x362.toInt ≤ a6.toInt := wk_ltF c363
          refine lv_aload_n hx hb dX12_leads_200 rfl (lv_at hl 2 rfl) ?_
          refine lv_iload hx hb dX12_leads_201 (lv_at hl 0 rfl) ?_
          refine lv_aload_n hx hb dX12_leads_203 rfl (lv_at hl 2 rfl) ?_
          refine lv_iload hx hb dX12_leads_204 (lv_at hl 1 rfl) ?_
          refine lv_iload hx hb dX12_leads_206 (lv_at hl 6 rfl) ?_
          refine tk_Vi hC hK hw hT hA hE hSR kM_at0 (by decide) rfl (k_X12_otherOf_1 l adK adV dC dI cy ad B (by omega) (by omega) qr s1   r89 (show 0 ≤ r89.toInt by omega) (show r89.toInt ≤ 11 by omega) a4 (show 0 ≤ a4.toInt by omega) (show a4.toInt ≤ 9 by omega) w85 H.size hT ) (cwV 2 hC.2.2.2.2 gX12_leads_X12_otherOf rfl rfl rfl (by decide +kernel) ⟨Nat.le_of_ble_eq_true rfl, Nat.le_of_ble_eq_true rfl⟩) rfl hl.1 rfl (Nat.le_of_ble_eq_true rfl) dX12_leads_208 (fun r364 w366 H locs hp365 hw => ?_)
          obtain ⟨rfl, hg373⟩ := hp365
          rcases hg373 with ⟨g368, g369⟩ | ⟨g370, g371, c372⟩
          · refine lv_iload hx hb dX12_leads_211 (lv_at hl 7 rfl) ?_
            refine lv_if_eq (tgt := 235) hx hb dX12_leads_213 (by decide) (fun c => absurd c (by decide)) (fun _ => ?_)
            refine lv_iload_n hx hb dX12_leads_216 rfl (lv_at hl 4 rfl) ?_
            refine lv_iload hx hb dX12_leads_217 (lv_at hl 0 rfl) ?_
            refine lv_iadd hx hb dX12_leads_219 ?_
            refine lv_topi (fun x374 ex374 => ?_)
            have ex374 : x374.toInt = a2.toInt + x362.toInt := by rw [ex374]; exact wk_add (show (-2147483648) ≤ a2.toInt + x362.toInt by omega) (show a2.toInt + x362.toInt ≤ 2147483647 by omega)
            refine lv_bipush (v := 24) hx hb dX12_leads_220 (by decide) ?_
            refine lv_idiv hx hb dX12_leads_222 (by decide) ?_
            refine lv_topi (fun x375 ex375 => ?_)
            have ex375 : x375.toInt = x374.toInt / (24 : Int) := by rw [ex375]; exact wk_div (show 0 ≤ x374.toInt by omega) (show 0 < (24 : Int) by decide)
            refine lv_iload hx hb dX12_leads_223 (lv_at hl 10 rfl) ?_
            refine lv_bipush (v := 24) hx hb dX12_leads_225 (by decide) ?_
            refine lv_idiv hx hb dX12_leads_227 (by decide) ?_
            refine lv_topi (fun x376 ex376 => ?_)
            have ex376 : x376.toInt = v145_8.toInt / (24 : Int) := by rw [ex376]; exact wk_div (show 0 ≤ v145_8.toInt by omega) (show 0 < (24 : Int) by decide)
            refine lv_icmp_ne (tgt := 235) hx hb dX12_leads_228 (by decide) (fun c377 => ?_) (fun c377 => ?_)
            · have c377 : ¬ x375.toInt = x376.toInt := wk_eqF c377
              refine lv_iconst (v := 0) hx hb dX12_leads_235 (by decide) ?_
              refine lv_iload hx hb dX12_leads_236 (lv_at hl 9 rfl) ?_
              refine tk_Vv hC hK hw hT hA hE hSR kM_at0 (by decide) rfl (k_X12_could_3 l adK adV dC dI cy ad B (by omega) (by omega) qr s1   x362 (show 0 ≤ x362.toInt by omega) (show x362.toInt ≤ 120 by omega) r364 (show 0 ≤ r364.toInt by omega) (show r364.toInt ≤ 9 by omega) v145_7 w85 H.size hT ) (cwV 4 hC.2.2.2.2 gX12_leads_X12_could rfl rfl rfl (by decide +kernel) ⟨Nat.le_of_ble_eq_true rfl, Nat.le_of_ble_eq_true rfl⟩) rfl hl.1 rfl (Nat.le_of_ble_eq_true rfl) dX12_leads_238 (fun w380 H locs hp379 hw => ?_)
              obtain ⟨hT, k381, hg382⟩ := hp379
              have hF := hF.tr k381 (by decide)
              have c383 := k381.gi kM_at12 rfl c88
              have c384 := k381.gi kM_at12 (by decide) c102
              have c385 := k381.gi kM_at12 rfl c103
              have c386 := k381.gi kM_at12 rfl c347
              have c387 := k381.gi kM_at12 rfl c360
              clear hg382
              exact J241 v145_7 v145_8 v145_9 r89 x362 f145_12__9_a1_toInt_217_toNat x101 H locs ls w380 (show 0 ≤ a1.toInt by omega) (show a1.toInt ≤ 3 by omega) (show 0 ≤ a2.toInt by omega) (show a2.toInt ≤ 1073741824 by omega) (show 0 ≤ a3.toInt by omega) (show a3.toInt ≤ 120 by omega) (show 0 ≤ a4.toInt by omega) (show a4.toInt ≤ 9 by omega) (show 0 ≤ a6.toInt by omega) (show a6.toInt ≤ 120 by omega) (show 0 ≤ v145_8.toInt by omega) (show v145_8.toInt ≤ 1073741944 by omega) (show 0 ≤ v145_9.toInt by omega) (show v145_9.toInt ≤ 1 by omega) (show 0 ≤ r89.toInt by omega) (show r89.toInt ≤ 11 by omega) (show 0 ≤ x362.toInt by omega) (show x362.toInt ≤ 129 by omega) (show 0 ≤ f145_12__9_a1_toInt_217_toNat.toInt by omega) (show f145_12__9_a1_toInt_217_toNat.toInt ≤ 9 by omega) (show 1 ≤ x101.toInt by omega) (show x101.toInt ≤ 12 by omega)  hw hT hF c383 c384 (lv_sub hl [2, 3, 4, 5, 6, 7, 8, 9, 10, 11, 1, 0] rfl)
            · have c377 : x375.toInt = x376.toInt := wk_eq.mp c377
              refine lv_iconst (v := 1) hx hb dX12_leads_231 (by decide) ?_
              refine lv_goto (tgt := 236) hx hb dX12_leads_232 (by decide) ?_
              refine lv_iload hx hb dX12_leads_236 (lv_at hl 9 rfl) ?_
              refine tk_Vv hC hK hw hT hA hE hSR kM_at0 (by decide) rfl (k_X12_could_6 l adK adV dC dI cy ad B (by omega) (by omega) qr s1   x362 (show 0 ≤ x362.toInt by omega) (show x362.toInt ≤ 120 by omega) r364 (show 0 ≤ r364.toInt by omega) (show r364.toInt ≤ 9 by omega) v145_7 w85 H.size hT ) (cwV 4 hC.2.2.2.2 gX12_leads_X12_could rfl rfl rfl (by decide +kernel) ⟨Nat.le_of_ble_eq_true rfl, Nat.le_of_ble_eq_true rfl⟩) rfl hl.1 rfl (Nat.le_of_ble_eq_true rfl) dX12_leads_238 (fun w390 H locs hp389 hw => ?_)
              obtain ⟨hT, k391, hg392⟩ := hp389
              have hF := hF.tr k391 (by decide)
              have c393 := k391.gi kM_at12 rfl c88
              have c394 := k391.gi kM_at12 (by decide) c102
              have c395 := k391.gi kM_at12 rfl c103
              have c396 := k391.gi kM_at12 rfl c347
              have c397 := k391.gi kM_at12 rfl c360
              clear hg392
              exact J241 v145_7 v145_8 v145_9 r89 x362 f145_12__9_a1_toInt_217_toNat x101 H locs ls w390 (show 0 ≤ a1.toInt by omega) (show a1.toInt ≤ 3 by omega) (show 0 ≤ a2.toInt by omega) (show a2.toInt ≤ 1073741824 by omega) (show 0 ≤ a3.toInt by omega) (show a3.toInt ≤ 120 by omega) (show 0 ≤ a4.toInt by omega) (show a4.toInt ≤ 9 by omega) (show 0 ≤ a6.toInt by omega) (show a6.toInt ≤ 120 by omega) (show 0 ≤ v145_8.toInt by omega) (show v145_8.toInt ≤ 1073741944 by omega) (show 0 ≤ v145_9.toInt by omega) (show v145_9.toInt ≤ 1 by omega) (show 0 ≤ r89.toInt by omega) (show r89.toInt ≤ 11 by omega) (show 0 ≤ x362.toInt by omega) (show x362.toInt ≤ 129 by omega) (show 0 ≤ f145_12__9_a1_toInt_217_toNat.toInt by omega) (show f145_12__9_a1_toInt_217_toNat.toInt ≤ 9 by omega) (show 1 ≤ x101.toInt by omega) (show x101.toInt ≤ 12 by omega)  hw hT hF c393 c394 (lv_sub hl [2, 3, 4, 5, 6, 7, 8, 9, 10, 11, 1, 0] rfl)
          · refine lv_iload hx hb dX12_leads_211 (lv_at hl 7 rfl) ?_
            refine lv_if_eq (tgt := 235) hx hb dX12_leads_213 (by decide) (fun c => absurd c (by decide)) (fun _ => ?_)
            refine lv_iload_n hx hb dX12_leads_216 rfl (lv_at hl 4 rfl) ?_
            refine lv_iload hx hb dX12_leads_217 (lv_at hl 0 rfl) ?_
            refine lv_iadd hx hb dX12_leads_219 ?_
            refine lv_topi (fun x398 ex398 => ?_)
            have ex398 : x398.toInt = a2.toInt + x362.toInt := by rw [ex398]; exact wk_add (show (-2147483648) ≤ a2.toInt + x362.toInt by omega) (show a2.toInt + x362.toInt ≤ 2147483647 by omega)
            refine lv_bipush (v := 24) hx hb dX12_leads_220 (by decide) ?_
            refine lv_idiv hx hb dX12_leads_222 (by decide) ?_
            refine lv_topi (fun x399 ex399 => ?_)
            have ex399 : x399.toInt = x398.toInt / (24 : Int) := by rw [ex399]; exact wk_div (show 0 ≤ x398.toInt by omega) (show 0 < (24 : Int) by decide)
            refine lv_iload hx hb dX12_leads_223 (lv_at hl 10 rfl) ?_
            refine lv_bipush (v := 24) hx hb dX12_leads_225 (by decide) ?_
            refine lv_idiv hx hb dX12_leads_227 (by decide) ?_
            refine lv_topi (fun x400 ex400 => ?_)
            have ex400 : x400.toInt = v145_8.toInt / (24 : Int) := by rw [ex400]; exact wk_div (show 0 ≤ v145_8.toInt by omega) (show 0 < (24 : Int) by decide)
            refine lv_icmp_ne (tgt := 235) hx hb dX12_leads_228 (by decide) (fun c401 => ?_) (fun c401 => ?_)
            · have c401 : ¬ x399.toInt = x400.toInt := wk_eqF c401
              refine lv_iconst (v := 0) hx hb dX12_leads_235 (by decide) ?_
              refine lv_iload hx hb dX12_leads_236 (lv_at hl 9 rfl) ?_
              refine tk_Vv hC hK hw hT hA hE hSR kM_at0 (by decide) rfl (k_X12_could_3 l adK adV dC dI cy ad B (by omega) (by omega) qr s1   x362 (show 0 ≤ x362.toInt by omega) (show x362.toInt ≤ 120 by omega) r364 (show 0 ≤ r364.toInt by omega) (show r364.toInt ≤ 9 by omega) v145_7 w85 H.size hT ) (cwV 4 hC.2.2.2.2 gX12_leads_X12_could rfl rfl rfl (by decide +kernel) ⟨Nat.le_of_ble_eq_true rfl, Nat.le_of_ble_eq_true rfl⟩) rfl hl.1 rfl (Nat.le_of_ble_eq_true rfl) dX12_leads_238 (fun w404 H locs hp403 hw => ?_)
              obtain ⟨hT, k405, hg406⟩ := hp403
              have hF := hF.tr k405 (by decide)
              have c407 := k405.gi kM_at12 rfl c88
              have c408 := k405.gi kM_at12 (by decide) c102
              have c409 := k405.gi kM_at12 rfl c103
              have c410 := k405.gi kM_at12 rfl c347
              have c411 := k405.gi kM_at12 rfl c360
              clear hg406
              exact J241 v145_7 v145_8 v145_9 r89 x362 f145_12__9_a1_toInt_217_toNat x101 H locs ls w404 (show 0 ≤ a1.toInt by omega) (show a1.toInt ≤ 3 by omega) (show 0 ≤ a2.toInt by omega) (show a2.toInt ≤ 1073741824 by omega) (show 0 ≤ a3.toInt by omega) (show a3.toInt ≤ 120 by omega) (show 0 ≤ a4.toInt by omega) (show a4.toInt ≤ 9 by omega) (show 0 ≤ a6.toInt by omega) (show a6.toInt ≤ 120 by omega) (show 0 ≤ v145_8.toInt by omega) (show v145_8.toInt ≤ 1073741944 by omega) (show 0 ≤ v145_9.toInt by omega) (show v145_9.toInt ≤ 1 by omega) (show 0 ≤ r89.toInt by omega) (show r89.toInt ≤ 11 by omega) (show 0 ≤ x362.toInt by omega) (show x362.toInt ≤ 129 by omega) (show 0 ≤ f145_12__9_a1_toInt_217_toNat.toInt by omega) (show f145_12__9_a1_toInt_217_toNat.toInt ≤ 9 by omega) (show 1 ≤ x101.toInt by omega) (show x101.toInt ≤ 12 by omega)  hw hT hF c407 c408 (lv_sub hl [2, 3, 4, 5, 6, 7, 8, 9, 10, 11, 1, 0] rfl)
            · have c401 : x399.toInt = x400.toInt := wk_eq.mp c401
              refine lv_iconst (v := 1) hx hb dX12_leads_231 (by decide) ?_
              refine lv_goto (tgt := 236) hx hb dX12_leads_232 (by decide) ?_
              refine lv_iload hx hb dX12_leads_236 (lv_at hl 9 rfl) ?_
              refine tk_Vv hC hK hw hT hA hE hSR kM_at0 (by decide) rfl (k_X12_could_6 l adK adV dC dI cy ad B (by omega) (by omega) qr s1   x362 (show 0 ≤ x362.toInt by omega) (show x362.toInt ≤ 120 by omega) r364 (show 0 ≤ r364.toInt by omega) (show r364.toInt ≤ 9 by omega) v145_7 w85 H.size hT ) (cwV 4 hC.2.2.2.2 gX12_leads_X12_could rfl rfl rfl (by decide +kernel) ⟨Nat.le_of_ble_eq_true rfl, Nat.le_of_ble_eq_true rfl⟩) rfl hl.1 rfl (Nat.le_of_ble_eq_true rfl) dX12_leads_238 (fun w414 H locs hp413 hw => ?_)
              obtain ⟨hT, k415, hg416⟩ := hp413
              have hF := hF.tr k415 (by decide)
              have c417 := k415.gi kM_at12 rfl c88
              have c418 := k415.gi kM_at12 (by decide) c102
              have c419 := k415.gi kM_at12 rfl c103
              have c420 := k415.gi kM_at12 rfl c347
              have c421 := k415.gi kM_at12 rfl c360
              clear hg416
              exact J241 v145_7 v145_8 v145_9 r89 x362 f145_12__9_a1_toInt_217_toNat x101 H locs ls w414 (show 0 ≤ a1.toInt by omega) (show a1.toInt ≤ 3 by omega) (show 0 ≤ a2.toInt by omega) (show a2.toInt ≤ 1073741824 by omega) (show 0 ≤ a3.toInt by omega) (show a3.toInt ≤ 120 by omega) (show 0 ≤ a4.toInt by omega) (show a4.toInt ≤ 9 by omega) (show 0 ≤ a6.toInt by omega) (show a6.toInt ≤ 120 by omega) (show 0 ≤ v145_8.toInt by omega) (show v145_8.toInt ≤ 1073741944 by omega) (show 0 ≤ v145_9.toInt by omega) (show v145_9.toInt ≤ 1 by omega) (show 0 ≤ r89.toInt by omega) (show r89.toInt ≤ 11 by omega) (show 0 ≤ x362.toInt by omega) (show x362.toInt ≤ 129 by omega) (show 0 ≤ f145_12__9_a1_toInt_217_toNat.toInt by omega) (show f145_12__9_a1_toInt_217_toNat.toInt ≤ 9 by omega) (show 1 ≤ x101.toInt by omega) (show x101.toInt ≤ 12 by omega)  hw hT hF c417 c418 (lv_sub hl [2, 3, 4, 5, 6, 7, 8, 9, 10, 11, 1, 0] rfl)
      · refine lv_if_ne (tgt := 182) hx hb dX12_leads_178 (by decide) (fun _ => ?_) (fun c => absurd c (by decide))
        refine lv_iload_n hx hb dX12_leads_182 rfl (lv_at hl 4 rfl) ?_
        refine lv_aload_n hx hb dX12_leads_183 rfl (lv_at hl 1 rfl) ?_
        refine lv_iload hx hb dX12_leads_184 (lv_at hl 0 rfl) ?_
        refine lv_iconst (v := 2) hx hb dX12_leads_186 (by decide) ?_
        refine tk_Vi hC hK hw hT hA hE hSR kM_at0 (by decide) rfl (k_X12_streetOf_6 l adK adV dC dI cy ad B (by omega) (by omega) qr s1   r89 (show 0 ≤ r89.toInt by omega) (show r89.toInt ≤ 11 by omega) w85 H.size hT ) (cwV 2 hC.2.2.2.2 gX12_leads_X12_streetOf rfl rfl rfl (by decide +kernel) ⟨Nat.le_of_ble_eq_true rfl, Nat.le_of_ble_eq_true rfl⟩) rfl hl.1 rfl (Nat.le_of_ble_eq_true rfl) dX12_leads_187 (fun r422 w424 H locs hp423 hw => ?_)
        obtain ⟨rfl, hg429⟩ := hp423
        obtain ⟨g426, g427, c428⟩ := hg429
        refine lv_iadd hx hb dX12_leads_190 ?_
        refine lv_topi (fun x430 ex430 => ?_)
        have ex430 : x430.toInt = a3.toInt + r422.toInt := by rw [ex430]; exact wk_add (show (-2147483648) ≤ a3.toInt + r422.toInt by omega) (show a3.toInt + r422.toInt ≤ 2147483647 by omega)
        refine lv_istore (lv' := [(11, .int x430), (10, .int r89), (0, .ref (ad 0)), (1, .int a1), (2, .int a2), (3, .int a3), (4, .int a4), (5, .int 1), (6, .int a6), (7, .int v145_7), (8, .int v145_8), (9, .int v145_9)]) hx hb dX12_leads_191 hl (by decide) rfl (fun ls hl => ?_)
        refine lv_iload hx hb dX12_leads_193 (lv_at hl 0 rfl) ?_
        refine lv_iload hx hb dX12_leads_195 (lv_at hl 8 rfl) ?_
        refine lv_icmp_gt (tgt := 241) hx hb dX12_leads_197 (by decide) (fun c431 => ?_) (fun c431 => ?_)
        · have c431 : a6.toInt < x430.toInt := wk_lt.mp c431
          exact J241 v145_7 v145_8 v145_9 r89 x430 f145_12__9_a1_toInt_217_toNat x101 H locs ls w85 (show 0 ≤ a1.toInt by omega) (show a1.toInt ≤ 3 by omega) (show 0 ≤ a2.toInt by omega) (show a2.toInt ≤ 1073741824 by omega) (show 0 ≤ a3.toInt by omega) (show a3.toInt ≤ 120 by omega) (show 0 ≤ a4.toInt by omega) (show a4.toInt ≤ 9 by omega) (show 0 ≤ a6.toInt by omega) (show a6.toInt ≤ 120 by omega) (show 0 ≤ v145_8.toInt by omega) (show v145_8.toInt ≤ 1073741944 by omega) (show 0 ≤ v145_9.toInt by omega) (show v145_9.toInt ≤ 1 by omega) (show 0 ≤ r89.toInt by omega) (show r89.toInt ≤ 11 by omega) (show 0 ≤ x430.toInt by omega) (show x430.toInt ≤ 129 by omega) (show 0 ≤ f145_12__9_a1_toInt_217_toNat.toInt by omega) (show f145_12__9_a1_toInt_217_toNat.toInt ≤ 9 by omega) (show 1 ≤ x101.toInt by omega) (show x101.toInt ≤ 12 by omega)  hw hT hF c88 c102 (lv_sub hl [2, 3, 4, 5, 6, 7, 8, 9, 10, 11, 1, 0] rfl)
        · have c431 : x430.toInt ≤ a6.toInt := wk_ltF c431
          refine lv_aload_n hx hb dX12_leads_200 rfl (lv_at hl 2 rfl) ?_
          refine lv_iload hx hb dX12_leads_201 (lv_at hl 0 rfl) ?_
          refine lv_aload_n hx hb dX12_leads_203 rfl (lv_at hl 2 rfl) ?_
          refine lv_iload hx hb dX12_leads_204 (lv_at hl 1 rfl) ?_
          refine lv_iload hx hb dX12_leads_206 (lv_at hl 6 rfl) ?_
          refine tk_Vi hC hK hw hT hA hE hSR kM_at0 (by decide) rfl (k_X12_otherOf_1 l adK adV dC dI cy ad B (by omega) (by omega) qr s1   r89 (show 0 ≤ r89.toInt by omega) (show r89.toInt ≤ 11 by omega) a4 (show 0 ≤ a4.toInt by omega) (show a4.toInt ≤ 9 by omega) w85 H.size hT ) (cwV 2 hC.2.2.2.2 gX12_leads_X12_otherOf rfl rfl rfl (by decide +kernel) ⟨Nat.le_of_ble_eq_true rfl, Nat.le_of_ble_eq_true rfl⟩) rfl hl.1 rfl (Nat.le_of_ble_eq_true rfl) dX12_leads_208 (fun r432 w434 H locs hp433 hw => ?_)
          obtain ⟨rfl, hg441⟩ := hp433
          rcases hg441 with ⟨g436, g437⟩ | ⟨g438, g439, c440⟩
          · refine lv_iload hx hb dX12_leads_211 (lv_at hl 7 rfl) ?_
            refine lv_if_eq (tgt := 235) hx hb dX12_leads_213 (by decide) (fun c => absurd c (by decide)) (fun _ => ?_)
            refine lv_iload_n hx hb dX12_leads_216 rfl (lv_at hl 4 rfl) ?_
            refine lv_iload hx hb dX12_leads_217 (lv_at hl 0 rfl) ?_
            refine lv_iadd hx hb dX12_leads_219 ?_
            refine lv_topi (fun x442 ex442 => ?_)
            have ex442 : x442.toInt = a2.toInt + x430.toInt := by rw [ex442]; exact wk_add (show (-2147483648) ≤ a2.toInt + x430.toInt by omega) (show a2.toInt + x430.toInt ≤ 2147483647 by omega)
            refine lv_bipush (v := 24) hx hb dX12_leads_220 (by decide) ?_
            refine lv_idiv hx hb dX12_leads_222 (by decide) ?_
            refine lv_topi (fun x443 ex443 => ?_)
            have ex443 : x443.toInt = x442.toInt / (24 : Int) := by rw [ex443]; exact wk_div (show 0 ≤ x442.toInt by omega) (show 0 < (24 : Int) by decide)
            refine lv_iload hx hb dX12_leads_223 (lv_at hl 10 rfl) ?_
            refine lv_bipush (v := 24) hx hb dX12_leads_225 (by decide) ?_
            refine lv_idiv hx hb dX12_leads_227 (by decide) ?_
            refine lv_topi (fun x444 ex444 => ?_)
            have ex444 : x444.toInt = v145_8.toInt / (24 : Int) := by rw [ex444]; exact wk_div (show 0 ≤ v145_8.toInt by omega) (show 0 < (24 : Int) by decide)
            refine lv_icmp_ne (tgt := 235) hx hb dX12_leads_228 (by decide) (fun c445 => ?_) (fun c445 => ?_)
            · have c445 : ¬ x443.toInt = x444.toInt := wk_eqF c445
              refine lv_iconst (v := 0) hx hb dX12_leads_235 (by decide) ?_
              refine lv_iload hx hb dX12_leads_236 (lv_at hl 9 rfl) ?_
              refine tk_Vv hC hK hw hT hA hE hSR kM_at0 (by decide) rfl (k_X12_could_3 l adK adV dC dI cy ad B (by omega) (by omega) qr s1   x430 (show 0 ≤ x430.toInt by omega) (show x430.toInt ≤ 120 by omega) r432 (show 0 ≤ r432.toInt by omega) (show r432.toInt ≤ 9 by omega) v145_7 w85 H.size hT ) (cwV 4 hC.2.2.2.2 gX12_leads_X12_could rfl rfl rfl (by decide +kernel) ⟨Nat.le_of_ble_eq_true rfl, Nat.le_of_ble_eq_true rfl⟩) rfl hl.1 rfl (Nat.le_of_ble_eq_true rfl) dX12_leads_238 (fun w448 H locs hp447 hw => ?_)
              obtain ⟨hT, k449, hg450⟩ := hp447
              have hF := hF.tr k449 (by decide)
              have c451 := k449.gi kM_at12 rfl c88
              have c452 := k449.gi kM_at12 (by decide) c102
              have c453 := k449.gi kM_at12 rfl c103
              have c454 := k449.gi kM_at12 rfl c428
              clear hg450
              exact J241 v145_7 v145_8 v145_9 r89 x430 f145_12__9_a1_toInt_217_toNat x101 H locs ls w448 (show 0 ≤ a1.toInt by omega) (show a1.toInt ≤ 3 by omega) (show 0 ≤ a2.toInt by omega) (show a2.toInt ≤ 1073741824 by omega) (show 0 ≤ a3.toInt by omega) (show a3.toInt ≤ 120 by omega) (show 0 ≤ a4.toInt by omega) (show a4.toInt ≤ 9 by omega) (show 0 ≤ a6.toInt by omega) (show a6.toInt ≤ 120 by omega) (show 0 ≤ v145_8.toInt by omega) (show v145_8.toInt ≤ 1073741944 by omega) (show 0 ≤ v145_9.toInt by omega) (show v145_9.toInt ≤ 1 by omega) (show 0 ≤ r89.toInt by omega) (show r89.toInt ≤ 11 by omega) (show 0 ≤ x430.toInt by omega) (show x430.toInt ≤ 129 by omega) (show 0 ≤ f145_12__9_a1_toInt_217_toNat.toInt by omega) (show f145_12__9_a1_toInt_217_toNat.toInt ≤ 9 by omega) (show 1 ≤ x101.toInt by omega) (show x101.toInt ≤ 12 by omega)  hw hT hF c451 c452 (lv_sub hl [2, 3, 4, 5, 6, 7, 8, 9, 10, 11, 1, 0] rfl)
            · have c445 : x443.toInt = x444.toInt := wk_eq.mp c445
              refine lv_iconst (v := 1) hx hb dX12_leads_231 (by decide) ?_
              refine lv_goto (tgt := 236) hx hb dX12_leads_232 (by decide) ?_
              refine lv_iload hx hb dX12_leads_236 (lv_at hl 9 rfl) ?_
              refine tk_Vv hC hK hw hT hA hE hSR kM_at0 (by decide) rfl (k_X12_could_6 l adK adV dC dI cy ad B (by omega) (by omega) qr s1   x430 (show 0 ≤ x430.toInt by omega) (show x430.toInt ≤ 120 by omega) r432 (show 0 ≤ r432.toInt by omega) (show r432.toInt ≤ 9 by omega) v145_7 w85 H.size hT ) (cwV 4 hC.2.2.2.2 gX12_leads_X12_could rfl rfl rfl (by decide +kernel) ⟨Nat.le_of_ble_eq_true rfl, Nat.le_of_ble_eq_true rfl⟩) rfl hl.1 rfl (Nat.le_of_ble_eq_true rfl) dX12_leads_238 (fun w457 H locs hp456 hw => ?_)
              obtain ⟨hT, k458, hg459⟩ := hp456
              have hF := hF.tr k458 (by decide)
              have c460 := k458.gi kM_at12 rfl c88
              have c461 := k458.gi kM_at12 (by decide) c102
              have c462 := k458.gi kM_at12 rfl c103
              have c463 := k458.gi kM_at12 rfl c428
              clear hg459
              exact J241 v145_7 v145_8 v145_9 r89 x430 f145_12__9_a1_toInt_217_toNat x101 H locs ls w457 (show 0 ≤ a1.toInt by omega) (show a1.toInt ≤ 3 by omega) (show 0 ≤ a2.toInt by omega) (show a2.toInt ≤ 1073741824 by omega) (show 0 ≤ a3.toInt by omega) (show a3.toInt ≤ 120 by omega) (show 0 ≤ a4.toInt by omega) (show a4.toInt ≤ 9 by omega) (show 0 ≤ a6.toInt by omega) (show a6.toInt ≤ 120 by omega) (show 0 ≤ v145_8.toInt by omega) (show v145_8.toInt ≤ 1073741944 by omega) (show 0 ≤ v145_9.toInt by omega) (show v145_9.toInt ≤ 1 by omega) (show 0 ≤ r89.toInt by omega) (show r89.toInt ≤ 11 by omega) (show 0 ≤ x430.toInt by omega) (show x430.toInt ≤ 129 by omega) (show 0 ≤ f145_12__9_a1_toInt_217_toNat.toInt by omega) (show f145_12__9_a1_toInt_217_toNat.toInt ≤ 9 by omega) (show 1 ≤ x101.toInt by omega) (show x101.toInt ≤ 12 by omega)  hw hT hF c460 c461 (lv_sub hl [2, 3, 4, 5, 6, 7, 8, 9, 10, 11, 1, 0] rfl)
          · refine lv_iload hx hb dX12_leads_211 (lv_at hl 7 rfl) ?_
            refine lv_if_eq (tgt := 235) hx hb dX12_leads_213 (by decide) (fun c => absurd c (by decide)) (fun _ => ?_)
            refine lv_iload_n hx hb dX12_leads_216 rfl (lv_at hl 4 rfl) ?_
            refine lv_iload hx hb dX12_leads_217 (lv_at hl 0 rfl) ?_
            refine lv_iadd hx hb dX12_leads_219 ?_
            refine lv_topi (fun x464 ex464 => ?_)
            have ex464 : x464.toInt = a2.toInt + x430.toInt := by rw [ex464]; exact wk_add (show (-2147483648) ≤ a2.toInt + x430.toInt by omega) (show a2.toInt + x430.toInt ≤ 2147483647 by omega)
            refine lv_bipush (v := 24) hx hb dX12_leads_220 (by decide) ?_
            refine lv_idiv hx hb dX12_leads_222 (by decide) ?_
            refine lv_topi (fun x465 ex465 => ?_)
            have ex465 : x465.toInt = x464.toInt / (24 : Int) := by rw [ex465]; exact wk_div (show 0 ≤ x464.toInt by omega) (show 0 < (24 : Int) by decide)
            refine lv_iload hx hb dX12_leads_223 (lv_at hl 10 rfl) ?_
            refine lv_bipush (v := 24) hx hb dX12_leads_225 (by decide) ?_
            refine lv_idiv hx hb dX12_leads_227 (by decide) ?_
            refine lv_topi (fun x466 ex466 => ?_)
            have ex466 : x466.toInt = v145_8.toInt / (24 : Int) := by rw [ex466]; exact wk_div (show 0 ≤ v145_8.toInt by omega) (show 0 < (24 : Int) by decide)
            refine lv_icmp_ne (tgt := 235) hx hb dX12_leads_228 (by decide) (fun c467 => ?_) (fun c467 => ?_)
            · have c467 : ¬ x465.toInt = x466.toInt := wk_eqF c467
              refine lv_iconst (v := 0) hx hb dX12_leads_235 (by decide) ?_
              refine lv_iload hx hb dX12_leads_236 (lv_at hl 9 rfl) ?_
              refine tk_Vv hC hK hw hT hA hE hSR kM_at0 (by decide) rfl (k_X12_could_3 l adK adV dC dI cy ad B (by omega) (by omega) qr s1   x430 (show 0 ≤ x430.toInt by omega) (show x430.toInt ≤ 120 by omega) r432 (show 0 ≤ r432.toInt by omega) (show r432.toInt ≤ 9 by omega) v145_7 w85 H.size hT ) (cwV 4 hC.2.2.2.2 gX12_leads_X12_could rfl rfl rfl (by decide +kernel) ⟨Nat.le_of_ble_eq_true rfl, Nat.le_of_ble_eq_true rfl⟩) rfl hl.1 rfl (Nat.le_of_ble_eq_true rfl) dX12_leads_238 (fun w470 H locs hp469 hw => ?_)
              obtain ⟨hT, k471, hg472⟩ := hp469
              have hF := hF.tr k471 (by decide)
              have c473 := k471.gi kM_at12 rfl c88
              have c474 := k471.gi kM_at12 (by decide) c102
              have c475 := k471.gi kM_at12 rfl c103
              have c476 := k471.gi kM_at12 rfl c428
              clear hg472
              exact J241 v145_7 v145_8 v145_9 r89 x430 f145_12__9_a1_toInt_217_toNat x101 H locs ls w470 (show 0 ≤ a1.toInt by omega) (show a1.toInt ≤ 3 by omega) (show 0 ≤ a2.toInt by omega) (show a2.toInt ≤ 1073741824 by omega) (show 0 ≤ a3.toInt by omega) (show a3.toInt ≤ 120 by omega) (show 0 ≤ a4.toInt by omega) (show a4.toInt ≤ 9 by omega) (show 0 ≤ a6.toInt by omega) (show a6.toInt ≤ 120 by omega) (show 0 ≤ v145_8.toInt by omega) (show v145_8.toInt ≤ 1073741944 by omega) (show 0 ≤ v145_9.toInt by omega) (show v145_9.toInt ≤ 1 by omega) (show 0 ≤ r89.toInt by omega) (show r89.toInt ≤ 11 by omega) (show 0 ≤ x430.toInt by omega) (show x430.toInt ≤ 129 by omega) (show 0 ≤ f145_12__9_a1_toInt_217_toNat.toInt by omega) (show f145_12__9_a1_toInt_217_toNat.toInt ≤ 9 by omega) (show 1 ≤ x101.toInt by omega) (show x101.toInt ≤ 12 by omega)  hw hT hF c473 c474 (lv_sub hl [2, 3, 4, 5, 6, 7, 8, 9, 10, 11, 1, 0] rfl)
            · have c467 : x465.toInt = x466.toInt := wk_eq.mp c467
              refine lv_iconst (v := 1) hx hb dX12_leads_231 (by decide) ?_
              refine lv_goto (tgt := 236) hx hb dX12_leads_232 (by decide) ?_
              refine lv_iload hx hb dX12_leads_236 (lv_at hl 9 rfl) ?_
              refine tk_Vv hC hK hw hT hA hE hSR kM_at0 (by decide) rfl (k_X12_could_6 l adK adV dC dI cy ad B (by omega) (by omega) qr s1   x430 (show 0 ≤ x430.toInt by omega) (show x430.toInt ≤ 120 by omega) r432 (show 0 ≤ r432.toInt by omega) (show r432.toInt ≤ 9 by omega) v145_7 w85 H.size hT ) (cwV 4 hC.2.2.2.2 gX12_leads_X12_could rfl rfl rfl (by decide +kernel) ⟨Nat.le_of_ble_eq_true rfl, Nat.le_of_ble_eq_true rfl⟩) rfl hl.1 rfl (Nat.le_of_ble_eq_true rfl) dX12_leads_238 (fun w479 H locs hp478 hw => ?_)
              obtain ⟨hT, k480, hg481⟩ := hp478
              have hF := hF.tr k480 (by decide)
              have c482 := k480.gi kM_at12 rfl c88
              have c483 := k480.gi kM_at12 (by decide) c102
              have c484 := k480.gi kM_at12 rfl c103
              have c485 := k480.gi kM_at12 rfl c428
              clear hg481
              exact J241 v145_7 v145_8 v145_9 r89 x430 f145_12__9_a1_toInt_217_toNat x101 H locs ls w479 (show 0 ≤ a1.toInt by omega) (show a1.toInt ≤ 3 by omega) (show 0 ≤ a2.toInt by omega) (show a2.toInt ≤ 1073741824 by omega) (show 0 ≤ a3.toInt by omega) (show a3.toInt ≤ 120 by omega) (show 0 ≤ a4.toInt by omega) (show a4.toInt ≤ 9 by omega) (show 0 ≤ a6.toInt by omega) (show a6.toInt ≤ 120 by omega) (show 0 ≤ v145_8.toInt by omega) (show v145_8.toInt ≤ 1073741944 by omega) (show 0 ≤ v145_9.toInt by omega) (show v145_9.toInt ≤ 1 by omega) (show 0 ≤ r89.toInt by omega) (show r89.toInt ≤ 11 by omega) (show 0 ≤ x430.toInt by omega) (show x430.toInt ≤ 129 by omega) (show 0 ≤ f145_12__9_a1_toInt_217_toNat.toInt by omega) (show f145_12__9_a1_toInt_217_toNat.toInt ≤ 9 by omega) (show 1 ≤ x101.toInt by omega) (show x101.toInt ≤ 12 by omega)  hw hT hF c482 c483 (lv_sub hl [2, 3, 4, 5, 6, 7, 8, 9, 10, 11, 1, 0] rfl)
      · refine lv_if_ne (tgt := 182) hx hb dX12_leads_178 (by decide) (fun _ => ?_) (fun c => absurd c (by decide))
        refine lv_iload_n hx hb dX12_leads_182 rfl (lv_at hl 4 rfl) ?_
        refine lv_aload_n hx hb dX12_leads_183 rfl (lv_at hl 1 rfl) ?_
        refine lv_iload hx hb dX12_leads_184 (lv_at hl 0 rfl) ?_
        refine lv_iconst (v := 2) hx hb dX12_leads_186 (by decide) ?_
        refine tk_Vi hC hK hw hT hA hE hSR kM_at0 (by decide) rfl (k_X12_streetOf_6 l adK adV dC dI cy ad B (by omega) (by omega) qr s1   r89 (show 0 ≤ r89.toInt by omega) (show r89.toInt ≤ 11 by omega) w85 H.size hT ) (cwV 2 hC.2.2.2.2 gX12_leads_X12_streetOf rfl rfl rfl (by decide +kernel) ⟨Nat.le_of_ble_eq_true rfl, Nat.le_of_ble_eq_true rfl⟩) rfl hl.1 rfl (Nat.le_of_ble_eq_true rfl) dX12_leads_187 (fun r486 w488 H locs hp487 hw => ?_)
        obtain ⟨rfl, hg493⟩ := hp487
        obtain ⟨g490, g491, c492⟩ := hg493
        refine lv_iadd hx hb dX12_leads_190 ?_
        refine lv_topi (fun x494 ex494 => ?_)
        have ex494 : x494.toInt = a3.toInt + r486.toInt := by rw [ex494]; exact wk_add (show (-2147483648) ≤ a3.toInt + r486.toInt by omega) (show a3.toInt + r486.toInt ≤ 2147483647 by omega)
        refine lv_istore (lv' := [(11, .int x494), (10, .int r89), (0, .ref (ad 0)), (1, .int a1), (2, .int a2), (3, .int a3), (4, .int a4), (5, .int 1), (6, .int a6), (7, .int v145_7), (8, .int v145_8), (9, .int v145_9)]) hx hb dX12_leads_191 hl (by decide) rfl (fun ls hl => ?_)
        refine lv_iload hx hb dX12_leads_193 (lv_at hl 0 rfl) ?_
        refine lv_iload hx hb dX12_leads_195 (lv_at hl 8 rfl) ?_
        refine lv_icmp_gt (tgt := 241) hx hb dX12_leads_197 (by decide) (fun c495 => ?_) (fun c495 => ?_)
        · have c495 : a6.toInt < x494.toInt := wk_lt.mp c495
          exact J241 v145_7 v145_8 v145_9 r89 x494 f145_12__9_a1_toInt_217_toNat x101 H locs ls w85 (show 0 ≤ a1.toInt by omega) (show a1.toInt ≤ 3 by omega) (show 0 ≤ a2.toInt by omega) (show a2.toInt ≤ 1073741824 by omega) (show 0 ≤ a3.toInt by omega) (show a3.toInt ≤ 120 by omega) (show 0 ≤ a4.toInt by omega) (show a4.toInt ≤ 9 by omega) (show 0 ≤ a6.toInt by omega) (show a6.toInt ≤ 120 by omega) (show 0 ≤ v145_8.toInt by omega) (show v145_8.toInt ≤ 1073741944 by omega) (show 0 ≤ v145_9.toInt by omega) (show v145_9.toInt ≤ 1 by omega) (show 0 ≤ r89.toInt by omega) (show r89.toInt ≤ 11 by omega) (show 0 ≤ x494.toInt by omega) (show x494.toInt ≤ 129 by omega) (show 0 ≤ f145_12__9_a1_toInt_217_toNat.toInt by omega) (show f145_12__9_a1_toInt_217_toNat.toInt ≤ 9 by omega) (show 1 ≤ x101.toInt by omega) (show x101.toInt ≤ 12 by omega)  hw hT hF c88 c102 (lv_sub hl [2, 3, 4, 5, 6, 7, 8, 9, 10, 11, 1, 0] rfl)
        · have c495 : x494.toInt ≤ a6.toInt := wk_ltF c495
          refine lv_aload_n hx hb dX12_leads_200 rfl (lv_at hl 2 rfl) ?_
          refine lv_iload hx hb dX12_leads_201 (lv_at hl 0 rfl) ?_
          refine lv_aload_n hx hb dX12_leads_203 rfl (lv_at hl 2 rfl) ?_
          refine lv_iload hx hb dX12_leads_204 (lv_at hl 1 rfl) ?_
          refine lv_iload hx hb dX12_leads_206 (lv_at hl 6 rfl) ?_
          refine tk_Vi hC hK hw hT hA hE hSR kM_at0 (by decide) rfl (k_X12_otherOf_1 l adK adV dC dI cy ad B (by omega) (by omega) qr s1   r89 (show 0 ≤ r89.toInt by omega) (show r89.toInt ≤ 11 by omega) a4 (show 0 ≤ a4.toInt by omega) (show a4.toInt ≤ 9 by omega) w85 H.size hT ) (cwV 2 hC.2.2.2.2 gX12_leads_X12_otherOf rfl rfl rfl (by decide +kernel) ⟨Nat.le_of_ble_eq_true rfl, Nat.le_of_ble_eq_true rfl⟩) rfl hl.1 rfl (Nat.le_of_ble_eq_true rfl) dX12_leads_208 (fun r496 w498 H locs hp497 hw => ?_)
          obtain ⟨rfl, hg505⟩ := hp497
          rcases hg505 with ⟨g500, g501⟩ | ⟨g502, g503, c504⟩
          · refine lv_iload hx hb dX12_leads_211 (lv_at hl 7 rfl) ?_
            refine lv_if_eq (tgt := 235) hx hb dX12_leads_213 (by decide) (fun c => absurd c (by decide)) (fun _ => ?_)
            refine lv_iload_n hx hb dX12_leads_216 rfl (lv_at hl 4 rfl) ?_
            refine lv_iload hx hb dX12_leads_217 (lv_at hl 0 rfl) ?_
            refine lv_iadd hx hb dX12_leads_219 ?_
            refine lv_topi (fun x506 ex506 => ?_)
            have ex506 : x506.toInt = a2.toInt + x494.toInt := by rw [ex506]; exact wk_add (show (-2147483648) ≤ a2.toInt + x494.toInt by omega) (show a2.toInt + x494.toInt ≤ 2147483647 by omega)
            refine lv_bipush (v := 24) hx hb dX12_leads_220 (by decide) ?_
            refine lv_idiv hx hb dX12_leads_222 (by decide) ?_
            refine lv_topi (fun x507 ex507 => ?_)
            have ex507 : x507.toInt = x506.toInt / (24 : Int) := by rw [ex507]; exact wk_div (show 0 ≤ x506.toInt by omega) (show 0 < (24 : Int) by decide)
            refine lv_iload hx hb dX12_leads_223 (lv_at hl 10 rfl) ?_
            refine lv_bipush (v := 24) hx hb dX12_leads_225 (by decide) ?_
            refine lv_idiv hx hb dX12_leads_227 (by decide) ?_
            refine lv_topi (fun x508 ex508 => ?_)
            have ex508 : x508.toInt = v145_8.toInt / (24 : Int) := by rw [ex508]; exact wk_div (show 0 ≤ v145_8.toInt by omega) (show 0 < (24 : Int) by decide)
            refine lv_icmp_ne (tgt := 235) hx hb dX12_leads_228 (by decide) (fun c509 => ?_) (fun c509 => ?_)
            · have c509 : ¬ x507.toInt = x508.toInt := wk_eqF c509
              refine lv_iconst (v := 0) hx hb dX12_leads_235 (by decide) ?_
              refine lv_iload hx hb dX12_leads_236 (lv_at hl 9 rfl) ?_
              refine tk_Vv hC hK hw hT hA hE hSR kM_at0 (by decide) rfl (k_X12_could_3 l adK adV dC dI cy ad B (by omega) (by omega) qr s1   x494 (show 0 ≤ x494.toInt by omega) (show x494.toInt ≤ 120 by omega) r496 (show 0 ≤ r496.toInt by omega) (show r496.toInt ≤ 9 by omega) v145_7 w85 H.size hT ) (cwV 4 hC.2.2.2.2 gX12_leads_X12_could rfl rfl rfl (by decide +kernel) ⟨Nat.le_of_ble_eq_true rfl, Nat.le_of_ble_eq_true rfl⟩) rfl hl.1 rfl (Nat.le_of_ble_eq_true rfl) dX12_leads_238 (fun w512 H locs hp511 hw => ?_)
              obtain ⟨hT, k513, hg514⟩ := hp511
              have hF := hF.tr k513 (by decide)
              have c515 := k513.gi kM_at12 rfl c88
              have c516 := k513.gi kM_at12 (by decide) c102
              have c517 := k513.gi kM_at12 rfl c103
              have c518 := k513.gi kM_at12 rfl c351
              have c519 := k513.gi kM_at12 rfl c492
              clear hg514
              exact J241 v145_7 v145_8 v145_9 r89 x494 f145_12__9_a1_toInt_217_toNat x101 H locs ls w512 (show 0 ≤ a1.toInt by omega) (show a1.toInt ≤ 3 by omega) (show 0 ≤ a2.toInt by omega) (show a2.toInt ≤ 1073741824 by omega) (show 0 ≤ a3.toInt by omega) (show a3.toInt ≤ 120 by omega) (show 0 ≤ a4.toInt by omega) (show a4.toInt ≤ 9 by omega) (show 0 ≤ a6.toInt by omega) (show a6.toInt ≤ 120 by omega) (show 0 ≤ v145_8.toInt by omega) (show v145_8.toInt ≤ 1073741944 by omega) (show 0 ≤ v145_9.toInt by omega) (show v145_9.toInt ≤ 1 by omega) (show 0 ≤ r89.toInt by omega) (show r89.toInt ≤ 11 by omega) (show 0 ≤ x494.toInt by omega) (show x494.toInt ≤ 129 by omega) (show 0 ≤ f145_12__9_a1_toInt_217_toNat.toInt by omega) (show f145_12__9_a1_toInt_217_toNat.toInt ≤ 9 by omega) (show 1 ≤ x101.toInt by omega) (show x101.toInt ≤ 12 by omega)  hw hT hF c515 c516 (lv_sub hl [2, 3, 4, 5, 6, 7, 8, 9, 10, 11, 1, 0] rfl)
            · have c509 : x507.toInt = x508.toInt := wk_eq.mp c509
              refine lv_iconst (v := 1) hx hb dX12_leads_231 (by decide) ?_
              refine lv_goto (tgt := 236) hx hb dX12_leads_232 (by decide) ?_
              refine lv_iload hx hb dX12_leads_236 (lv_at hl 9 rfl) ?_
              refine tk_Vv hC hK hw hT hA hE hSR kM_at0 (by decide) rfl (k_X12_could_6 l adK adV dC dI cy ad B (by omega) (by omega) qr s1   x494 (show 0 ≤ x494.toInt by omega) (show x494.toInt ≤ 120 by omega) r496 (show 0 ≤ r496.toInt by omega) (show r496.toInt ≤ 9 by omega) v145_7 w85 H.size hT ) (cwV 4 hC.2.2.2.2 gX12_leads_X12_could rfl rfl rfl (by decide +kernel) ⟨Nat.le_of_ble_eq_true rfl, Nat.le_of_ble_eq_true rfl⟩) rfl hl.1 rfl (Nat.le_of_ble_eq_true rfl) dX12_leads_238 (fun w522 H locs hp521 hw => ?_)
              obtain ⟨hT, k523, hg524⟩ := hp521
              have hF := hF.tr k523 (by decide)
              have c525 := k523.gi kM_at12 rfl c88
              have c526 := k523.gi kM_at12 (by decide) c102
              have c527 := k523.gi kM_at12 rfl c103
              have c528 := k523.gi kM_at12 rfl c351
              have c529 := k523.gi kM_at12 rfl c492
              clear hg524
              exact J241 v145_7 v145_8 v145_9 r89 x494 f145_12__9_a1_toInt_217_toNat x101 H locs ls w522 (show 0 ≤ a1.toInt by omega) (show a1.toInt ≤ 3 by omega) (show 0 ≤ a2.toInt by omega) (show a2.toInt ≤ 1073741824 by omega) (show 0 ≤ a3.toInt by omega) (show a3.toInt ≤ 120 by omega) (show 0 ≤ a4.toInt by omega) (show a4.toInt ≤ 9 by omega) (show 0 ≤ a6.toInt by omega) (show a6.toInt ≤ 120 by omega) (show 0 ≤ v145_8.toInt by omega) (show v145_8.toInt ≤ 1073741944 by omega) (show 0 ≤ v145_9.toInt by omega) (show v145_9.toInt ≤ 1 by omega) (show 0 ≤ r89.toInt by omega) (show r89.toInt ≤ 11 by omega) (show 0 ≤ x494.toInt by omega) (show x494.toInt ≤ 129 by omega) (show 0 ≤ f145_12__9_a1_toInt_217_toNat.toInt by omega) (show f145_12__9_a1_toInt_217_toNat.toInt ≤ 9 by omega) (show 1 ≤ x101.toInt by omega) (show x101.toInt ≤ 12 by omega)  hw hT hF c525 c526 (lv_sub hl [2, 3, 4, 5, 6, 7, 8, 9, 10, 11, 1, 0] rfl)
          · refine lv_iload hx hb dX12_leads_211 (lv_at hl 7 rfl) ?_
            refine lv_if_eq (tgt := 235) hx hb dX12_leads_213 (by decide) (fun c => absurd c (by decide)) (fun _ => ?_)
            refine lv_iload_n hx hb dX12_leads_216 rfl (lv_at hl 4 rfl) ?_
            refine lv_iload hx hb dX12_leads_217 (lv_at hl 0 rfl) ?_
            refine lv_iadd hx hb dX12_leads_219 ?_
            refine lv_topi (fun x530 ex530 => ?_)
            have ex530 : x530.toInt = a2.toInt + x494.toInt := by rw [ex530]; exact wk_add (show (-2147483648) ≤ a2.toInt + x494.toInt by omega) (show a2.toInt + x494.toInt ≤ 2147483647 by omega)
            refine lv_bipush (v := 24) hx hb dX12_leads_220 (by decide) ?_
            refine lv_idiv hx hb dX12_leads_222 (by decide) ?_
            refine lv_topi (fun x531 ex531 => ?_)
            have ex531 : x531.toInt = x530.toInt / (24 : Int) := by rw [ex531]; exact wk_div (show 0 ≤ x530.toInt by omega) (show 0 < (24 : Int) by decide)
            refine lv_iload hx hb dX12_leads_223 (lv_at hl 10 rfl) ?_
            refine lv_bipush (v := 24) hx hb dX12_leads_225 (by decide) ?_
            refine lv_idiv hx hb dX12_leads_227 (by decide) ?_
            refine lv_topi (fun x532 ex532 => ?_)
            have ex532 : x532.toInt = v145_8.toInt / (24 : Int) := by rw [ex532]; exact wk_div (show 0 ≤ v145_8.toInt by omega) (show 0 < (24 : Int) by decide)
            refine lv_icmp_ne (tgt := 235) hx hb dX12_leads_228 (by decide) (fun c533 => ?_) (fun c533 => ?_)
            · have c533 : ¬ x531.toInt = x532.toInt := wk_eqF c533
              refine lv_iconst (v := 0) hx hb dX12_leads_235 (by decide) ?_
              refine lv_iload hx hb dX12_leads_236 (lv_at hl 9 rfl) ?_
              refine tk_Vv hC hK hw hT hA hE hSR kM_at0 (by decide) rfl (k_X12_could_3 l adK adV dC dI cy ad B (by omega) (by omega) qr s1   x494 (show 0 ≤ x494.toInt by omega) (show x494.toInt ≤ 120 by omega) r496 (show 0 ≤ r496.toInt by omega) (show r496.toInt ≤ 9 by omega) v145_7 w85 H.size hT ) (cwV 4 hC.2.2.2.2 gX12_leads_X12_could rfl rfl rfl (by decide +kernel) ⟨Nat.le_of_ble_eq_true rfl, Nat.le_of_ble_eq_true rfl⟩) rfl hl.1 rfl (Nat.le_of_ble_eq_true rfl) dX12_leads_238 (fun w536 H locs hp535 hw => ?_)
              obtain ⟨hT, k537, hg538⟩ := hp535
              have hF := hF.tr k537 (by decide)
              have c539 := k537.gi kM_at12 rfl c88
              have c540 := k537.gi kM_at12 (by decide) c102
              have c541 := k537.gi kM_at12 rfl c103
              have c542 := k537.gi kM_at12 rfl c351
              have c543 := k537.gi kM_at12 rfl c492
              clear hg538
              exact J241 v145_7 v145_8 v145_9 r89 x494 f145_12__9_a1_toInt_217_toNat x101 H locs ls w536 (show 0 ≤ a1.toInt by omega) (show a1.toInt ≤ 3 by omega) (show 0 ≤ a2.toInt by omega) (show a2.toInt ≤ 1073741824 by omega) (show 0 ≤ a3.toInt by omega) (show a3.toInt ≤ 120 by omega) (show 0 ≤ a4.toInt by omega) (show a4.toInt ≤ 9 by omega) (show 0 ≤ a6.toInt by omega) (show a6.toInt ≤ 120 by omega) (show 0 ≤ v145_8.toInt by omega) (show v145_8.toInt ≤ 1073741944 by omega) (show 0 ≤ v145_9.toInt by omega) (show v145_9.toInt ≤ 1 by omega) (show 0 ≤ r89.toInt by omega) (show r89.toInt ≤ 11 by omega) (show 0 ≤ x494.toInt by omega) (show x494.toInt ≤ 129 by omega) (show 0 ≤ f145_12__9_a1_toInt_217_toNat.toInt by omega) (show f145_12__9_a1_toInt_217_toNat.toInt ≤ 9 by omega) (show 1 ≤ x101.toInt by omega) (show x101.toInt ≤ 12 by omega)  hw hT hF c539 c540 (lv_sub hl [2, 3, 4, 5, 6, 7, 8, 9, 10, 11, 1, 0] rfl)
            · have c533 : x531.toInt = x532.toInt := wk_eq.mp c533
              refine lv_iconst (v := 1) hx hb dX12_leads_231 (by decide) ?_
              refine lv_goto (tgt := 236) hx hb dX12_leads_232 (by decide) ?_
              refine lv_iload hx hb dX12_leads_236 (lv_at hl 9 rfl) ?_
              refine tk_Vv hC hK hw hT hA hE hSR kM_at0 (by decide) rfl (k_X12_could_6 l adK adV dC dI cy ad B (by omega) (by omega) qr s1   x494 (show 0 ≤ x494.toInt by omega) (show x494.toInt ≤ 120 by omega) r496 (show 0 ≤ r496.toInt by omega) (show r496.toInt ≤ 9 by omega) v145_7 w85 H.size hT ) (cwV 4 hC.2.2.2.2 gX12_leads_X12_could rfl rfl rfl (by decide +kernel) ⟨Nat.le_of_ble_eq_true rfl, Nat.le_of_ble_eq_true rfl⟩) rfl hl.1 rfl (Nat.le_of_ble_eq_true rfl) dX12_leads_238 (fun w546 H locs hp545 hw => ?_)
              obtain ⟨hT, k547, hg548⟩ := hp545
              have hF := hF.tr k547 (by decide)
              have c549 := k547.gi kM_at12 rfl c88
              have c550 := k547.gi kM_at12 (by decide) c102
              have c551 := k547.gi kM_at12 rfl c103
              have c552 := k547.gi kM_at12 rfl c351
              have c553 := k547.gi kM_at12 rfl c492
              clear hg548
              exact J241 v145_7 v145_8 v145_9 r89 x494 f145_12__9_a1_toInt_217_toNat x101 H locs ls w546 (show 0 ≤ a1.toInt by omega) (show a1.toInt ≤ 3 by omega) (show 0 ≤ a2.toInt by omega) (show a2.toInt ≤ 1073741824 by omega) (show 0 ≤ a3.toInt by omega) (show a3.toInt ≤ 120 by omega) (show 0 ≤ a4.toInt by omega) (show a4.toInt ≤ 9 by omega) (show 0 ≤ a6.toInt by omega) (show a6.toInt ≤ 120 by omega) (show 0 ≤ v145_8.toInt by omega) (show v145_8.toInt ≤ 1073741944 by omega) (show 0 ≤ v145_9.toInt by omega) (show v145_9.toInt ≤ 1 by omega) (show 0 ≤ r89.toInt by omega) (show r89.toInt ≤ 11 by omega) (show 0 ≤ x494.toInt by omega) (show x494.toInt ≤ 129 by omega) (show 0 ≤ f145_12__9_a1_toInt_217_toNat.toInt by omega) (show f145_12__9_a1_toInt_217_toNat.toInt ≤ 9 by omega) (show 1 ≤ x101.toInt by omega) (show x101.toInt ≤ 12 by omega)  hw hT hF c549 c550 (lv_sub hl [2, 3, 4, 5, 6, 7, 8, 9, 10, 11, 1, 0] rfl)
    · refine lv_istore (lv' := [(10, .int r89), (0, .ref (ad 0)), (1, .int a1), (2, .int a2), (3, .int a3), (4, .int a4), (5, .int 1), (6, .int a6), (7, .int v145_7), (8, .int v145_8), (9, .int v145_9)]) hx hb dX12_leads_161 hl (by decide) rfl (fun ls hl => ?_)
      refine lv_iload hx hb dX12_leads_163 (lv_at hl 0 rfl) ?_
      refine lv_if_lt (tgt := 181) hx hb dX12_leads_165 (by decide) (fun c => absurd c (fun h => absurd (show r89.toInt < (0 : Int) from wk_lt.mp h) (by omega))) (fun _ => ?_)
      refine lv_aload_n hx hb dX12_leads_168 rfl (lv_at hl 1 rfl) ?_
      refine lv_iload hx hb dX12_leads_169 (lv_at hl 0 rfl) ?_
      refine lv_iload hx hb dX12_leads_171 (lv_at hl 5 rfl) ?_
      refine lv_iload hx hb dX12_leads_173 (lv_at hl 9 rfl) ?_
      refine tk_Vi hC hK hw hT hA hE hSR kM_at0 (by decide) rfl (k_X12_isOpen_3 l adK adV dC dI cy ad B (by omega) (by omega) qr s1   r89 (show 0 ≤ r89.toInt by omega) (show r89.toInt ≤ 11 by omega) a4 (show 0 ≤ a4.toInt by omega) (show a4.toInt ≤ 9 by omega) v145_8 (show 0 ≤ v145_8.toInt by omega) (show v145_8.toInt ≤ 1073741944 by omega) w85 H.size hT ) (cwV 3 hC.2.2.2.2 gX12_leads_X12_isOpen rfl rfl rfl (by decide +kernel) ⟨Nat.le_of_ble_eq_true rfl, Nat.le_of_ble_eq_true rfl⟩) rfl hl.1 rfl (Nat.le_of_ble_eq_true rfl) dX12_leads_175 (fun r554 w556 H locs hp555 hw => ?_)
      obtain ⟨rfl, hg573⟩ := hp555
      rcases hg573 with ⟨rfl, hq558⟩ | ⟨rfl, c559, c560, hq561⟩ | ⟨rfl, c562, hq563⟩ | ⟨rfl, c564, hq565⟩ | ⟨rfl, c566, c567, hq568⟩ | ⟨rfl, c569, hq570⟩ | ⟨rfl, c571, hq572⟩
      · refine lv_if_ne (tgt := 182) hx hb dX12_leads_178 (by decide) (fun c => absurd (by decide) c) (fun _ => ?_)
        exact J181 v145_7 v145_8 v145_9 r89 f145_12__9_a1_toInt_217_toNat H locs ls w85 (show 0 ≤ a1.toInt by omega) (show a1.toInt ≤ 3 by omega) (show 0 ≤ a2.toInt by omega) (show a2.toInt ≤ 1073741824 by omega) (show 0 ≤ a3.toInt by omega) (show a3.toInt ≤ 120 by omega) (show 0 ≤ a4.toInt by omega) (show a4.toInt ≤ 9 by omega) (show 0 ≤ a6.toInt by omega) (show a6.toInt ≤ 120 by omega) (show 0 ≤ v145_8.toInt by omega) (show v145_8.toInt ≤ 1073741944 by omega) (show 0 ≤ v145_9.toInt by omega) (show v145_9.toInt ≤ 1 by omega) (show (-1) ≤ r89.toInt by omega) (show r89.toInt ≤ 11 by omega) (show 0 ≤ f145_12__9_a1_toInt_217_toNat.toInt by omega) (show f145_12__9_a1_toInt_217_toNat.toInt ≤ 9 by omega)  hw hT hF c88 (lv_sub hl [1, 2, 3, 4, 5, 6, 7, 8, 9, 10, 0] rfl)
      · refine lv_if_ne (tgt := 182) hx hb dX12_leads_178 (by decide) (fun c => absurd (by decide) c) (fun _ => ?_)
        exact J181 v145_7 v145_8 v145_9 r89 f145_12__9_a1_toInt_217_toNat H locs ls w85 (show 0 ≤ a1.toInt by omega) (show a1.toInt ≤ 3 by omega) (show 0 ≤ a2.toInt by omega) (show a2.toInt ≤ 1073741824 by omega) (show 0 ≤ a3.toInt by omega) (show a3.toInt ≤ 120 by omega) (show 0 ≤ a4.toInt by omega) (show a4.toInt ≤ 9 by omega) (show 0 ≤ a6.toInt by omega) (show a6.toInt ≤ 120 by omega) (show 0 ≤ v145_8.toInt by omega) (show v145_8.toInt ≤ 1073741944 by omega) (show 0 ≤ v145_9.toInt by omega) (show v145_9.toInt ≤ 1 by omega) (show (-1) ≤ r89.toInt by omega) (show r89.toInt ≤ 11 by omega) (show 0 ≤ f145_12__9_a1_toInt_217_toNat.toInt by omega) (show f145_12__9_a1_toInt_217_toNat.toInt ≤ 9 by omega)  hw hT hF c88 (lv_sub hl [1, 2, 3, 4, 5, 6, 7, 8, 9, 10, 0] rfl)
      · refine lv_if_ne (tgt := 182) hx hb dX12_leads_178 (by decide) (fun c => absurd (by decide) c) (fun _ => ?_)
        exact J181 v145_7 v145_8 v145_9 r89 f145_12__9_a1_toInt_217_toNat H locs ls w85 (show 0 ≤ a1.toInt by omega) (show a1.toInt ≤ 3 by omega) (show 0 ≤ a2.toInt by omega) (show a2.toInt ≤ 1073741824 by omega) (show 0 ≤ a3.toInt by omega) (show a3.toInt ≤ 120 by omega) (show 0 ≤ a4.toInt by omega) (show a4.toInt ≤ 9 by omega) (show 0 ≤ a6.toInt by omega) (show a6.toInt ≤ 120 by omega) (show 0 ≤ v145_8.toInt by omega) (show v145_8.toInt ≤ 1073741944 by omega) (show 0 ≤ v145_9.toInt by omega) (show v145_9.toInt ≤ 1 by omega) (show (-1) ≤ r89.toInt by omega) (show r89.toInt ≤ 11 by omega) (show 0 ≤ f145_12__9_a1_toInt_217_toNat.toInt by omega) (show f145_12__9_a1_toInt_217_toNat.toInt ≤ 9 by omega)  hw hT hF c88 (lv_sub hl [1, 2, 3, 4, 5, 6, 7, 8, 9, 10, 0] rfl)
      · refine lv_if_ne (tgt := 182) hx hb dX12_leads_178 (by decide) (fun c => absurd (by decide) c) (fun _ => ?_)
        exact J181 v145_7 v145_8 v145_9 r89 f145_12__9_a1_toInt_217_toNat H locs ls w85 (show 0 ≤ a1.toInt by omega) (show a1.toInt ≤ 3 by omega) (show 0 ≤ a2.toInt by omega) (show a2.toInt ≤ 1073741824 by omega) (show 0 ≤ a3.toInt by omega) (show a3.toInt ≤ 120 by omega) (show 0 ≤ a4.toInt by omega) (show a4.toInt ≤ 9 by omega) (show 0 ≤ a6.toInt by omega) (show a6.toInt ≤ 120 by omega) (show 0 ≤ v145_8.toInt by omega) (show v145_8.toInt ≤ 1073741944 by omega) (show 0 ≤ v145_9.toInt by omega) (show v145_9.toInt ≤ 1 by omega) (show (-1) ≤ r89.toInt by omega) (show r89.toInt ≤ 11 by omega) (show 0 ≤ f145_12__9_a1_toInt_217_toNat.toInt by omega) (show f145_12__9_a1_toInt_217_toNat.toInt ≤ 9 by omega)  hw hT hF c88 (lv_sub hl [1, 2, 3, 4, 5, 6, 7, 8, 9, 10, 0] rfl)
      · refine lv_if_ne (tgt := 182) hx hb dX12_leads_178 (by decide) (fun _ => ?_) (fun c => absurd c (by decide))
        refine lv_iload_n hx hb dX12_leads_182 rfl (lv_at hl 4 rfl) ?_
        refine lv_aload_n hx hb dX12_leads_183 rfl (lv_at hl 1 rfl) ?_
        refine lv_iload hx hb dX12_leads_184 (lv_at hl 0 rfl) ?_
        refine lv_iconst (v := 2) hx hb dX12_leads_186 (by decide) ?_
        refine tk_Vi hC hK hw hT hA hE hSR kM_at0 (by decide) rfl (k_X12_streetOf_6 l adK adV dC dI cy ad B (by omega) (by omega) qr s1   r89 (show 0 ≤ r89.toInt by omega) (show r89.toInt ≤ 11 by omega) w85 H.size hT ) (cwV 2 hC.2.2.2.2 gX12_leads_X12_streetOf rfl rfl rfl (by decide +kernel) ⟨Nat.le_of_ble_eq_true rfl, Nat.le_of_ble_eq_true rfl⟩) rfl hl.1 rfl (Nat.le_of_ble_eq_true rfl) dX12_leads_187 (fun r574 w576 H locs hp575 hw => ?_)
        obtain ⟨rfl, hg581⟩ := hp575
        obtain ⟨g578, g579, c580⟩ := hg581
        refine lv_iadd hx hb dX12_leads_190 ?_
        refine lv_topi (fun x582 ex582 => ?_)
        have ex582 : x582.toInt = a3.toInt + r574.toInt := by rw [ex582]; exact wk_add (show (-2147483648) ≤ a3.toInt + r574.toInt by omega) (show a3.toInt + r574.toInt ≤ 2147483647 by omega)
        refine lv_istore (lv' := [(11, .int x582), (10, .int r89), (0, .ref (ad 0)), (1, .int a1), (2, .int a2), (3, .int a3), (4, .int a4), (5, .int 1), (6, .int a6), (7, .int v145_7), (8, .int v145_8), (9, .int v145_9)]) hx hb dX12_leads_191 hl (by decide) rfl (fun ls hl => ?_)
        refine lv_iload hx hb dX12_leads_193 (lv_at hl 0 rfl) ?_
        refine lv_iload hx hb dX12_leads_195 (lv_at hl 8 rfl) ?_
        refine lv_icmp_gt (tgt := 241) hx hb dX12_leads_197 (by decide) (fun c583 => ?_) (fun c583 => ?_)
        · have c583 : a6.toInt < x582.toInt := wk_lt.mp c583
          exact J241 v145_7 v145_8 v145_9 r89 x582 f145_12__9_a1_toInt_217_toNat x106 H locs ls w85 (show 0 ≤ a1.toInt by omega) (show a1.toInt ≤ 3 by omega) (show 0 ≤ a2.toInt by omega) (show a2.toInt ≤ 1073741824 by omega) (show 0 ≤ a3.toInt by omega) (show a3.toInt ≤ 120 by omega) (show 0 ≤ a4.toInt by omega) (show a4.toInt ≤ 9 by omega) (show 0 ≤ a6.toInt by omega) (show a6.toInt ≤ 120 by omega) (show 0 ≤ v145_8.toInt by omega) (show v145_8.toInt ≤ 1073741944 by omega) (show 0 ≤ v145_9.toInt by omega) (show v145_9.toInt ≤ 1 by omega) (show 0 ≤ r89.toInt by omega) (show r89.toInt ≤ 11 by omega) (show 0 ≤ x582.toInt by omega) (show x582.toInt ≤ 129 by omega) (show 0 ≤ f145_12__9_a1_toInt_217_toNat.toInt by omega) (show f145_12__9_a1_toInt_217_toNat.toInt ≤ 9 by omega) (show 1 ≤ x106.toInt by omega) (show x106.toInt ≤ 12 by omega)  hw hT hF c88 c107 (lv_sub hl [2, 3, 4, 5, 6, 7, 8, 9, 10, 11, 1, 0] rfl)
        · have c583 : x582.toInt ≤ a6.toInt := wk_ltF c583
          refine lv_aload_n hx hb dX12_leads_200 rfl (lv_at hl 2 rfl) ?_
          refine lv_iload hx hb dX12_leads_201 (lv_at hl 0 rfl) ?_
          refine lv_aload_n hx hb dX12_leads_203 rfl (lv_at hl 2 rfl) ?_
          refine lv_iload hx hb dX12_leads_204 (lv_at hl 1 rfl) ?_
          refine lv_iload hx hb dX12_leads_206 (lv_at hl 6 rfl) ?_
          refine tk_Vi hC hK hw hT hA hE hSR kM_at0 (by decide) rfl (k_X12_otherOf_1 l adK adV dC dI cy ad B (by omega) (by omega) qr s1   r89 (show 0 ≤ r89.toInt by omega) (show r89.toInt ≤ 11 by omega) a4 (show 0 ≤ a4.toInt by omega) (show a4.toInt ≤ 9 by omega) w85 H.size hT ) (cwV 2 hC.2.2.2.2 gX12_leads_X12_otherOf rfl rfl rfl (by decide +kernel) ⟨Nat.le_of_ble_eq_true rfl, Nat.le_of_ble_eq_true rfl⟩) rfl hl.1 rfl (Nat.le_of_ble_eq_true rfl) dX12_leads_208 (fun r584 w586 H locs hp585 hw => ?_)
          obtain ⟨rfl, hg593⟩ := hp585
          rcases hg593 with ⟨g588, g589⟩ | ⟨g590, g591, c592⟩
          · refine lv_iload hx hb dX12_leads_211 (lv_at hl 7 rfl) ?_
            refine lv_if_eq (tgt := 235) hx hb dX12_leads_213 (by decide) (fun c => absurd c (by decide)) (fun _ => ?_)
            refine lv_iload_n hx hb dX12_leads_216 rfl (lv_at hl 4 rfl) ?_
            refine lv_iload hx hb dX12_leads_217 (lv_at hl 0 rfl) ?_
            refine lv_iadd hx hb dX12_leads_219 ?_
            refine lv_topi (fun x594 ex594 => ?_)
            have ex594 : x594.toInt = a2.toInt + x582.toInt := by rw [ex594]; exact wk_add (show (-2147483648) ≤ a2.toInt + x582.toInt by omega) (show a2.toInt + x582.toInt ≤ 2147483647 by omega)
            refine lv_bipush (v := 24) hx hb dX12_leads_220 (by decide) ?_
            refine lv_idiv hx hb dX12_leads_222 (by decide) ?_
            refine lv_topi (fun x595 ex595 => ?_)
            have ex595 : x595.toInt = x594.toInt / (24 : Int) := by rw [ex595]; exact wk_div (show 0 ≤ x594.toInt by omega) (show 0 < (24 : Int) by decide)
            refine lv_iload hx hb dX12_leads_223 (lv_at hl 10 rfl) ?_
            refine lv_bipush (v := 24) hx hb dX12_leads_225 (by decide) ?_
            refine lv_idiv hx hb dX12_leads_227 (by decide) ?_
            refine lv_topi (fun x596 ex596 => ?_)
            have ex596 : x596.toInt = v145_8.toInt / (24 : Int) := by rw [ex596]; exact wk_div (show 0 ≤ v145_8.toInt by omega) (show 0 < (24 : Int) by decide)
            refine lv_icmp_ne (tgt := 235) hx hb dX12_leads_228 (by decide) (fun c597 => ?_) (fun c597 => ?_)
            · have c597 : ¬ x595.toInt = x596.toInt := wk_eqF c597
              refine lv_iconst (v := 0) hx hb dX12_leads_235 (by decide) ?_
              refine lv_iload hx hb dX12_leads_236 (lv_at hl 9 rfl) ?_
              refine tk_Vv hC hK hw hT hA hE hSR kM_at0 (by decide) rfl (k_X12_could_3 l adK adV dC dI cy ad B (by omega) (by omega) qr s1   x582 (show 0 ≤ x582.toInt by omega) (show x582.toInt ≤ 120 by omega) r584 (show 0 ≤ r584.toInt by omega) (show r584.toInt ≤ 9 by omega) v145_7 w85 H.size hT ) (cwV 4 hC.2.2.2.2 gX12_leads_X12_could rfl rfl rfl (by decide +kernel) ⟨Nat.le_of_ble_eq_true rfl, Nat.le_of_ble_eq_true rfl⟩) rfl hl.1 rfl (Nat.le_of_ble_eq_true rfl) dX12_leads_238 (fun w600 H locs hp599 hw => ?_)
              obtain ⟨hT, k601, hg602⟩ := hp599
              have hF := hF.tr k601 (by decide)
              have c603 := k601.gi kM_at12 rfl c88
              have c604 := k601.gi kM_at12 (by decide) c107
              have c605 := k601.gi kM_at12 rfl c108
              have c606 := k601.gi kM_at12 rfl c566
              have c607 := k601.gi kM_at12 rfl c580
              clear hg602
              exact J241 v145_7 v145_8 v145_9 r89 x582 f145_12__9_a1_toInt_217_toNat x106 H locs ls w600 (show 0 ≤ a1.toInt by omega) (show a1.toInt ≤ 3 by omega) (show 0 ≤ a2.toInt by omega) (show a2.toInt ≤ 1073741824 by omega) (show 0 ≤ a3.toInt by omega) (show a3.toInt ≤ 120 by omega) (show 0 ≤ a4.toInt by omega) (show a4.toInt ≤ 9 by omega) (show 0 ≤ a6.toInt by omega) (show a6.toInt ≤ 120 by omega) (show 0 ≤ v145_8.toInt by omega) (show v145_8.toInt ≤ 1073741944 by omega) (show 0 ≤ v145_9.toInt by omega) (show v145_9.toInt ≤ 1 by omega) (show 0 ≤ r89.toInt by omega) (show r89.toInt ≤ 11 by omega) (show 0 ≤ x582.toInt by omega) (show x582.toInt ≤ 129 by omega) (show 0 ≤ f145_12__9_a1_toInt_217_toNat.toInt by omega) (show f145_12__9_a1_toInt_217_toNat.toInt ≤ 9 by omega) (show 1 ≤ x106.toInt by omega) (show x106.toInt ≤ 12 by omega)  hw hT hF c603 c604 (lv_sub hl [2, 3, 4, 5, 6, 7, 8, 9, 10, 11, 1, 0] rfl)
            · have c597 : x595.toInt = x596.toInt := wk_eq.mp c597
              refine lv_iconst (v := 1) hx hb dX12_leads_231 (by decide) ?_
              refine lv_goto (tgt := 236) hx hb dX12_leads_232 (by decide) ?_
              refine lv_iload hx hb dX12_leads_236 (lv_at hl 9 rfl) ?_
              refine tk_Vv hC hK hw hT hA hE hSR kM_at0 (by decide) rfl (k_X12_could_6 l adK adV dC dI cy ad B (by omega) (by omega) qr s1   x582 (show 0 ≤ x582.toInt by omega) (show x582.toInt ≤ 120 by omega) r584 (show 0 ≤ r584.toInt by omega) (show r584.toInt ≤ 9 by omega) v145_7 w85 H.size hT ) (cwV 4 hC.2.2.2.2 gX12_leads_X12_could rfl rfl rfl (by decide +kernel) ⟨Nat.le_of_ble_eq_true rfl, Nat.le_of_ble_eq_true rfl⟩) rfl hl.1 rfl (Nat.le_of_ble_eq_true rfl) dX12_leads_238 (fun w610 H locs hp609 hw => ?_)
              obtain ⟨hT, k611, hg612⟩ := hp609
              have hF := hF.tr k611 (by decide)
              have c613 := k611.gi kM_at12 rfl c88
              have c614 := k611.gi kM_at12 (by decide) c107
              have c615 := k611.gi kM_at12 rfl c108
              have c616 := k611.gi kM_at12 rfl c566
              have c617 := k611.gi kM_at12 rfl c580
              clear hg612
              exact J241 v145_7 v145_8 v145_9 r89 x582 f145_12__9_a1_toInt_217_toNat x106 H locs ls w610 (show 0 ≤ a1.toInt by omega) (show a1.toInt ≤ 3 by omega) (show 0 ≤ a2.toInt by omega) (show a2.toInt ≤ 1073741824 by omega) (show 0 ≤ a3.toInt by omega) (show a3.toInt ≤ 120 by omega) (show 0 ≤ a4.toInt by omega) (show a4.toInt ≤ 9 by omega) (show 0 ≤ a6.toInt by omega) (show a6.toInt ≤ 120 by omega) (show 0 ≤ v145_8.toInt by omega) (show v145_8.toInt ≤ 1073741944 by omega) (show 0 ≤ v145_9.toInt by omega) (show v145_9.toInt ≤ 1 by omega) (show 0 ≤ r89.toInt by omega) (show r89.toInt ≤ 11 by omega) (show 0 ≤ x582.toInt by omega) (show x582.toInt ≤ 129 by omega) (show 0 ≤ f145_12__9_a1_toInt_217_toNat.toInt by omega) (show f145_12__9_a1_toInt_217_toNat.toInt ≤ 9 by omega) (show 1 ≤ x106.toInt by omega) (show x106.toInt ≤ 12 by omega)  hw hT hF c613 c614 (lv_sub hl [2, 3, 4, 5, 6, 7, 8, 9, 10, 11, 1, 0] rfl)
          · refine lv_iload hx hb dX12_leads_211 (lv_at hl 7 rfl) ?_
            refine lv_if_eq (tgt := 235) hx hb dX12_leads_213 (by decide) (fun c => absurd c (by decide)) (fun _ => ?_)
            refine lv_iload_n hx hb dX12_leads_216 rfl (lv_at hl 4 rfl) ?_
            refine lv_iload hx hb dX12_leads_217 (lv_at hl 0 rfl) ?_
            refine lv_iadd hx hb dX12_leads_219 ?_
            refine lv_topi (fun x618 ex618 => ?_)
            have ex618 : x618.toInt = a2.toInt + x582.toInt := by rw [ex618]; exact wk_add (show (-2147483648) ≤ a2.toInt + x582.toInt by omega) (show a2.toInt + x582.toInt ≤ 2147483647 by omega)
            refine lv_bipush (v := 24) hx hb dX12_leads_220 (by decide) ?_
            refine lv_idiv hx hb dX12_leads_222 (by decide) ?_
            refine lv_topi (fun x619 ex619 => ?_)
            have ex619 : x619.toInt = x618.toInt / (24 : Int) := by rw [ex619]; exact wk_div (show 0 ≤ x618.toInt by omega) (show 0 < (24 : Int) by decide)
            refine lv_iload hx hb dX12_leads_223 (lv_at hl 10 rfl) ?_
            refine lv_bipush (v := 24) hx hb dX12_leads_225 (by decide) ?_
            refine lv_idiv hx hb dX12_leads_227 (by decide) ?_
            refine lv_topi (fun x620 ex620 => ?_)
            have ex620 : x620.toInt = v145_8.toInt / (24 : Int) := by rw [ex620]; exact wk_div (show 0 ≤ v145_8.toInt by omega) (show 0 < (24 : Int) by decide)
            refine lv_icmp_ne (tgt := 235) hx hb dX12_leads_228 (by decide) (fun c621 => ?_) (fun c621 => ?_)
            · have c621 : ¬ x619.toInt = x620.toInt := wk_eqF c621
              refine lv_iconst (v := 0) hx hb dX12_leads_235 (by decide) ?_
              refine lv_iload hx hb dX12_leads_236 (lv_at hl 9 rfl) ?_
              refine tk_Vv hC hK hw hT hA hE hSR kM_at0 (by decide) rfl (k_X12_could_3 l adK adV dC dI cy ad B (by omega) (by omega) qr s1   x582 (show 0 ≤ x582.toInt by omega) (show x582.toInt ≤ 120 by omega) r584 (show 0 ≤ r584.toInt by omega) (show r584.toInt ≤ 9 by omega) v145_7 w85 H.size hT ) (cwV 4 hC.2.2.2.2 gX12_leads_X12_could rfl rfl rfl (by decide +kernel) ⟨Nat.le_of_ble_eq_true rfl, Nat.le_of_ble_eq_true rfl⟩) rfl hl.1 rfl (Nat.le_of_ble_eq_true rfl) dX12_leads_238 (fun w624 H locs hp623 hw => ?_)
              obtain ⟨hT, k625, hg626⟩ := hp623
              have hF := hF.tr k625 (by decide)
              have c627 := k625.gi kM_at12 rfl c88
              have c628 := k625.gi kM_at12 (by decide) c107
              have c629 := k625.gi kM_at12 rfl c108
              have c630 := k625.gi kM_at12 rfl c566
              have c631 := k625.gi kM_at12 rfl c580
              clear hg626
              exact J241 v145_7 v145_8 v145_9 r89 x582 f145_12__9_a1_toInt_217_toNat x106 H locs ls w624 (show 0 ≤ a1.toInt by omega) (show a1.toInt ≤ 3 by omega) (show 0 ≤ a2.toInt by omega) (show a2.toInt ≤ 1073741824 by omega) (show 0 ≤ a3.toInt by omega) (show a3.toInt ≤ 120 by omega) (show 0 ≤ a4.toInt by omega) (show a4.toInt ≤ 9 by omega) (show 0 ≤ a6.toInt by omega) (show a6.toInt ≤ 120 by omega) (show 0 ≤ v145_8.toInt by omega) (show v145_8.toInt ≤ 1073741944 by omega) (show 0 ≤ v145_9.toInt by omega) (show v145_9.toInt ≤ 1 by omega) (show 0 ≤ r89.toInt by omega) (show r89.toInt ≤ 11 by omega) (show 0 ≤ x582.toInt by omega) (show x582.toInt ≤ 129 by omega) (show 0 ≤ f145_12__9_a1_toInt_217_toNat.toInt by omega) (show f145_12__9_a1_toInt_217_toNat.toInt ≤ 9 by omega) (show 1 ≤ x106.toInt by omega) (show x106.toInt ≤ 12 by omega)  hw hT hF c627 c628 (lv_sub hl [2, 3, 4, 5, 6, 7, 8, 9, 10, 11, 1, 0] rfl)
            · have c621 : x619.toInt = x620.toInt := wk_eq.mp c621
              refine lv_iconst (v := 1) hx hb dX12_leads_231 (by decide) ?_
              refine lv_goto (tgt := 236) hx hb dX12_leads_232 (by decide) ?_
              refine lv_iload hx hb dX12_leads_236 (lv_at hl 9 rfl) ?_
              refine tk_Vv hC hK hw hT hA hE hSR kM_at0 (by decide) rfl (k_X12_could_6 l adK adV dC dI cy ad B (by omega) (by omega) qr s1   x582 (show 0 ≤ x582.toInt by omega) (show x582.toInt ≤ 120 by omega) r584 (show 0 ≤ r584.toInt by omega) (show r584.toInt ≤ 9 by omega) v145_7 w85 H.size hT ) (cwV 4 hC.2.2.2.2 gX12_leads_X12_could rfl rfl rfl (by decide +kernel) ⟨Nat.le_of_ble_eq_true rfl, Nat.le_of_ble_eq_true rfl⟩) rfl hl.1 rfl (Nat.le_of_ble_eq_true rfl) dX12_leads_238 (fun w634 H locs hp633 hw => ?_)
              obtain ⟨hT, k635, hg636⟩ := hp633
              have hF := hF.tr k635 (by decide)
              have c637 := k635.gi kM_at12 rfl c88
              have c638 := k635.gi kM_at12 (by decide) c107
              have c639 := k635.gi kM_at12 rfl c108
              have c640 := k635.gi kM_at12 rfl c566
              have c641 := k635.gi kM_at12 rfl c580
              clear hg636
              exact J241 v145_7 v145_8 v145_9 r89 x582 f145_12__9_a1_toInt_217_toNat x106 H locs ls w634 (show 0 ≤ a1.toInt by omega) (show a1.toInt ≤ 3 by omega) (show 0 ≤ a2.toInt by omega) (show a2.toInt ≤ 1073741824 by omega) (show 0 ≤ a3.toInt by omega) (show a3.toInt ≤ 120 by omega) (show 0 ≤ a4.toInt by omega) (show a4.toInt ≤ 9 by omega) (show 0 ≤ a6.toInt by omega) (show a6.toInt ≤ 120 by omega) (show 0 ≤ v145_8.toInt by omega) (show v145_8.toInt ≤ 1073741944 by omega) (show 0 ≤ v145_9.toInt by omega) (show v145_9.toInt ≤ 1 by omega) (show 0 ≤ r89.toInt by omega) (show r89.toInt ≤ 11 by omega) (show 0 ≤ x582.toInt by omega) (show x582.toInt ≤ 129 by omega) (show 0 ≤ f145_12__9_a1_toInt_217_toNat.toInt by omega) (show f145_12__9_a1_toInt_217_toNat.toInt ≤ 9 by omega) (show 1 ≤ x106.toInt by omega) (show x106.toInt ≤ 12 by omega)  hw hT hF c637 c638 (lv_sub hl [2, 3, 4, 5, 6, 7, 8, 9, 10, 11, 1, 0] rfl)
      · refine lv_if_ne (tgt := 182) hx hb dX12_leads_178 (by decide) (fun _ => ?_) (fun c => absurd c (by decide))
        refine lv_iload_n hx hb dX12_leads_182 rfl (lv_at hl 4 rfl) ?_
        refine lv_aload_n hx hb dX12_leads_183 rfl (lv_at hl 1 rfl) ?_
        refine lv_iload hx hb dX12_leads_184 (lv_at hl 0 rfl) ?_
        refine lv_iconst (v := 2) hx hb dX12_leads_186 (by decide) ?_
        refine tk_Vi hC hK hw hT hA hE hSR kM_at0 (by decide) rfl (k_X12_streetOf_6 l adK adV dC dI cy ad B (by omega) (by omega) qr s1   r89 (show 0 ≤ r89.toInt by omega) (show r89.toInt ≤ 11 by omega) w85 H.size hT ) (cwV 2 hC.2.2.2.2 gX12_leads_X12_streetOf rfl rfl rfl (by decide +kernel) ⟨Nat.le_of_ble_eq_true rfl, Nat.le_of_ble_eq_true rfl⟩) rfl hl.1 rfl (Nat.le_of_ble_eq_true rfl) dX12_leads_187 (fun r642 w644 H locs hp643 hw => ?_)
        obtain ⟨rfl, hg649⟩ := hp643
        obtain ⟨g646, g647, c648⟩ := hg649
        refine lv_iadd hx hb dX12_leads_190 ?_
        refine lv_topi (fun x650 ex650 => ?_)
        have ex650 : x650.toInt = a3.toInt + r642.toInt := by rw [ex650]; exact wk_add (show (-2147483648) ≤ a3.toInt + r642.toInt by omega) (show a3.toInt + r642.toInt ≤ 2147483647 by omega)
        refine lv_istore (lv' := [(11, .int x650), (10, .int r89), (0, .ref (ad 0)), (1, .int a1), (2, .int a2), (3, .int a3), (4, .int a4), (5, .int 1), (6, .int a6), (7, .int v145_7), (8, .int v145_8), (9, .int v145_9)]) hx hb dX12_leads_191 hl (by decide) rfl (fun ls hl => ?_)
        refine lv_iload hx hb dX12_leads_193 (lv_at hl 0 rfl) ?_
        refine lv_iload hx hb dX12_leads_195 (lv_at hl 8 rfl) ?_
        refine lv_icmp_gt (tgt := 241) hx hb dX12_leads_197 (by decide) (fun c651 => ?_) (fun c651 => ?_)
        · have c651 : a6.toInt < x650.toInt := wk_lt.mp c651
          exact J241 v145_7 v145_8 v145_9 r89 x650 f145_12__9_a1_toInt_217_toNat x106 H locs ls w85 (show 0 ≤ a1.toInt by omega) (show a1.toInt ≤ 3 by omega) (show 0 ≤ a2.toInt by omega) (show a2.toInt ≤ 1073741824 by omega) (show 0 ≤ a3.toInt by omega) (show a3.toInt ≤ 120 by omega) (show 0 ≤ a4.toInt by omega) (show a4.toInt ≤ 9 by omega) (show 0 ≤ a6.toInt by omega) (show a6.toInt ≤ 120 by omega) (show 0 ≤ v145_8.toInt by omega) (show v145_8.toInt ≤ 1073741944 by omega) (show 0 ≤ v145_9.toInt by omega) (show v145_9.toInt ≤ 1 by omega) (show 0 ≤ r89.toInt by omega) (show r89.toInt ≤ 11 by omega) (show 0 ≤ x650.toInt by omega) (show x650.toInt ≤ 129 by omega) (show 0 ≤ f145_12__9_a1_toInt_217_toNat.toInt by omega) (show f145_12__9_a1_toInt_217_toNat.toInt ≤ 9 by omega) (show 1 ≤ x106.toInt by omega) (show x106.toInt ≤ 12 by omega)  hw hT hF c88 c107 (lv_sub hl [2, 3, 4, 5, 6, 7, 8, 9, 10, 11, 1, 0] rfl)
        · have c651 : x650.toInt ≤ a6.toInt := wk_ltF c651
          refine lv_aload_n hx hb dX12_leads_200 rfl (lv_at hl 2 rfl) ?_
          refine lv_iload hx hb dX12_leads_201 (lv_at hl 0 rfl) ?_
          refine lv_aload_n hx hb dX12_leads_203 rfl (lv_at hl 2 rfl) ?_
          refine lv_iload hx hb dX12_leads_204 (lv_at hl 1 rfl) ?_
          refine lv_iload hx hb dX12_leads_206 (lv_at hl 6 rfl) ?_
          refine tk_Vi hC hK hw hT hA hE hSR kM_at0 (by decide) rfl (k_X12_otherOf_1 l adK adV dC dI cy ad B (by omega) (by omega) qr s1   r89 (show 0 ≤ r89.toInt by omega) (show r89.toInt ≤ 11 by omega) a4 (show 0 ≤ a4.toInt by omega) (show a4.toInt ≤ 9 by omega) w85 H.size hT ) (cwV 2 hC.2.2.2.2 gX12_leads_X12_otherOf rfl rfl rfl (by decide +kernel) ⟨Nat.le_of_ble_eq_true rfl, Nat.le_of_ble_eq_true rfl⟩) rfl hl.1 rfl (Nat.le_of_ble_eq_true rfl) dX12_leads_208 (fun r652 w654 H locs hp653 hw => ?_)
          obtain ⟨rfl, hg661⟩ := hp653
          rcases hg661 with ⟨g656, g657⟩ | ⟨g658, g659, c660⟩
          · refine lv_iload hx hb dX12_leads_211 (lv_at hl 7 rfl) ?_
            refine lv_if_eq (tgt := 235) hx hb dX12_leads_213 (by decide) (fun c => absurd c (by decide)) (fun _ => ?_)
            refine lv_iload_n hx hb dX12_leads_216 rfl (lv_at hl 4 rfl) ?_
            refine lv_iload hx hb dX12_leads_217 (lv_at hl 0 rfl) ?_
            refine lv_iadd hx hb dX12_leads_219 ?_
            refine lv_topi (fun x662 ex662 => ?_)
            have ex662 : x662.toInt = a2.toInt + x650.toInt := by rw [ex662]; exact wk_add (show (-2147483648) ≤ a2.toInt + x650.toInt by omega) (show a2.toInt + x650.toInt ≤ 2147483647 by omega)
            refine lv_bipush (v := 24) hx hb dX12_leads_220 (by decide) ?_
            refine lv_idiv hx hb dX12_leads_222 (by decide) ?_
            refine lv_topi (fun x663 ex663 => ?_)
            have ex663 : x663.toInt = x662.toInt / (24 : Int) := by rw [ex663]; exact wk_div (show 0 ≤ x662.toInt by omega) (show 0 < (24 : Int) by decide)
            refine lv_iload hx hb dX12_leads_223 (lv_at hl 10 rfl) ?_
            refine lv_bipush (v := 24) hx hb dX12_leads_225 (by decide) ?_
            refine lv_idiv hx hb dX12_leads_227 (by decide) ?_
            refine lv_topi (fun x664 ex664 => ?_)
            have ex664 : x664.toInt = v145_8.toInt / (24 : Int) := by rw [ex664]; exact wk_div (show 0 ≤ v145_8.toInt by omega) (show 0 < (24 : Int) by decide)
            refine lv_icmp_ne (tgt := 235) hx hb dX12_leads_228 (by decide) (fun c665 => ?_) (fun c665 => ?_)
            · have c665 : ¬ x663.toInt = x664.toInt := wk_eqF c665
              refine lv_iconst (v := 0) hx hb dX12_leads_235 (by decide) ?_
              refine lv_iload hx hb dX12_leads_236 (lv_at hl 9 rfl) ?_
              refine tk_Vv hC hK hw hT hA hE hSR kM_at0 (by decide) rfl (k_X12_could_3 l adK adV dC dI cy ad B (by omega) (by omega) qr s1   x650 (show 0 ≤ x650.toInt by omega) (show x650.toInt ≤ 120 by omega) r652 (show 0 ≤ r652.toInt by omega) (show r652.toInt ≤ 9 by omega) v145_7 w85 H.size hT ) (cwV 4 hC.2.2.2.2 gX12_leads_X12_could rfl rfl rfl (by decide +kernel) ⟨Nat.le_of_ble_eq_true rfl, Nat.le_of_ble_eq_true rfl⟩) rfl hl.1 rfl (Nat.le_of_ble_eq_true rfl) dX12_leads_238 (fun w668 H locs hp667 hw => ?_)
              obtain ⟨hT, k669, hg670⟩ := hp667
              have hF := hF.tr k669 (by decide)
              have c671 := k669.gi kM_at12 rfl c88
              have c672 := k669.gi kM_at12 (by decide) c107
              have c673 := k669.gi kM_at12 rfl c108
              have c674 := k669.gi kM_at12 rfl c569
              have c675 := k669.gi kM_at12 rfl c648
              clear hg670
              exact J241 v145_7 v145_8 v145_9 r89 x650 f145_12__9_a1_toInt_217_toNat x106 H locs ls w668 (show 0 ≤ a1.toInt by omega) (show a1.toInt ≤ 3 by omega) (show 0 ≤ a2.toInt by omega) (show a2.toInt ≤ 1073741824 by omega) (show 0 ≤ a3.toInt by omega) (show a3.toInt ≤ 120 by omega) (show 0 ≤ a4.toInt by omega) (show a4.toInt ≤ 9 by omega) (show 0 ≤ a6.toInt by omega) (show a6.toInt ≤ 120 by omega) (show 0 ≤ v145_8.toInt by omega) (show v145_8.toInt ≤ 1073741944 by omega) (show 0 ≤ v145_9.toInt by omega) (show v145_9.toInt ≤ 1 by omega) (show 0 ≤ r89.toInt by omega) (show r89.toInt ≤ 11 by omega) (show 0 ≤ x650.toInt by omega) (show x650.toInt ≤ 129 by omega) (show 0 ≤ f145_12__9_a1_toInt_217_toNat.toInt by omega) (show f145_12__9_a1_toInt_217_toNat.toInt ≤ 9 by omega) (show 1 ≤ x106.toInt by omega) (show x106.toInt ≤ 12 by omega)  hw hT hF c671 c672 (lv_sub hl [2, 3, 4, 5, 6, 7, 8, 9, 10, 11, 1, 0] rfl)
            · have c665 : x663.toInt = x664.toInt := wk_eq.mp c665
              refine lv_iconst (v := 1) hx hb dX12_leads_231 (by decide) ?_
              refine lv_goto (tgt := 236) hx hb dX12_leads_232 (by decide) ?_
              refine lv_iload hx hb dX12_leads_236 (lv_at hl 9 rfl) ?_
              refine tk_Vv hC hK hw hT hA hE hSR kM_at0 (by decide) rfl (k_X12_could_6 l adK adV dC dI cy ad B (by omega) (by omega) qr s1   x650 (show 0 ≤ x650.toInt by omega) (show x650.toInt ≤ 120 by omega) r652 (show 0 ≤ r652.toInt by omega) (show r652.toInt ≤ 9 by omega) v145_7 w85 H.size hT ) (cwV 4 hC.2.2.2.2 gX12_leads_X12_could rfl rfl rfl (by decide +kernel) ⟨Nat.le_of_ble_eq_true rfl, Nat.le_of_ble_eq_true rfl⟩) rfl hl.1 rfl (Nat.le_of_ble_eq_true rfl) dX12_leads_238 (fun w678 H locs hp677 hw => ?_)
              obtain ⟨hT, k679, hg680⟩ := hp677
              have hF := hF.tr k679 (by decide)
              have c681 := k679.gi kM_at12 rfl c88
              have c682 := k679.gi kM_at12 (by decide) c107
              have c683 := k679.gi kM_at12 rfl c108
              have c684 := k679.gi kM_at12 rfl c569
              have c685 := k679.gi kM_at12 rfl c648
              clear hg680
              exact J241 v145_7 v145_8 v145_9 r89 x650 f145_12__9_a1_toInt_217_toNat x106 H locs ls w678 (show 0 ≤ a1.toInt by omega) (show a1.toInt ≤ 3 by omega) (show 0 ≤ a2.toInt by omega) (show a2.toInt ≤ 1073741824 by omega) (show 0 ≤ a3.toInt by omega) (show a3.toInt ≤ 120 by omega) (show 0 ≤ a4.toInt by omega) (show a4.toInt ≤ 9 by omega) (show 0 ≤ a6.toInt by omega) (show a6.toInt ≤ 120 by omega) (show 0 ≤ v145_8.toInt by omega) (show v145_8.toInt ≤ 1073741944 by omega) (show 0 ≤ v145_9.toInt by omega) (show v145_9.toInt ≤ 1 by omega) (show 0 ≤ r89.toInt by omega) (show r89.toInt ≤ 11 by omega) (show 0 ≤ x650.toInt by omega) (show x650.toInt ≤ 129 by omega) (show 0 ≤ f145_12__9_a1_toInt_217_toNat.toInt by omega) (show f145_12__9_a1_toInt_217_toNat.toInt ≤ 9 by omega) (show 1 ≤ x106.toInt by omega) (show x106.toInt ≤ 12 by omega)  hw hT hF c681 c682 (lv_sub hl [2, 3, 4, 5, 6, 7, 8, 9, 10, 11, 1, 0] rfl)
          · refine lv_iload hx hb dX12_leads_211 (lv_at hl 7 rfl) ?_
            refine lv_if_eq (tgt := 235) hx hb dX12_leads_213 (by decide) (fun c => absurd c (by decide)) (fun _ => ?_)
            refine lv_iload_n hx hb dX12_leads_216 rfl (lv_at hl 4 rfl) ?_
            refine lv_iload hx hb dX12_leads_217 (lv_at hl 0 rfl) ?_
            refine lv_iadd hx hb dX12_leads_219 ?_
            refine lv_topi (fun x686 ex686 => ?_)
            have ex686 : x686.toInt = a2.toInt + x650.toInt := by rw [ex686]; exact wk_add (show (-2147483648) ≤ a2.toInt + x650.toInt by omega) (show a2.toInt + x650.toInt ≤ 2147483647 by omega)
            refine lv_bipush (v := 24) hx hb dX12_leads_220 (by decide) ?_
            refine lv_idiv hx hb dX12_leads_222 (by decide) ?_
            refine lv_topi (fun x687 ex687 => ?_)
            have ex687 : x687.toInt = x686.toInt / (24 : Int) := by rw [ex687]; exact wk_div (show 0 ≤ x686.toInt by omega) (show 0 < (24 : Int) by decide)
            refine lv_iload hx hb dX12_leads_223 (lv_at hl 10 rfl) ?_
            refine lv_bipush (v := 24) hx hb dX12_leads_225 (by decide) ?_
            refine lv_idiv hx hb dX12_leads_227 (by decide) ?_
            refine lv_topi (fun x688 ex688 => ?_)
            have ex688 : x688.toInt = v145_8.toInt / (24 : Int) := by rw [ex688]; exact wk_div (show 0 ≤ v145_8.toInt by omega) (show 0 < (24 : Int) by decide)
            refine lv_icmp_ne (tgt := 235) hx hb dX12_leads_228 (by decide) (fun c689 => ?_) (fun c689 => ?_)
            · have c689 : ¬ x687.toInt = x688.toInt := wk_eqF c689
              refine lv_iconst (v := 0) hx hb dX12_leads_235 (by decide) ?_
              refine lv_iload hx hb dX12_leads_236 (lv_at hl 9 rfl) ?_
              refine tk_Vv hC hK hw hT hA hE hSR kM_at0 (by decide) rfl (k_X12_could_3 l adK adV dC dI cy ad B (by omega) (by omega) qr s1   x650 (show 0 ≤ x650.toInt by omega) (show x650.toInt ≤ 120 by omega) r652 (show 0 ≤ r652.toInt by omega) (show r652.toInt ≤ 9 by omega) v145_7 w85 H.size hT ) (cwV 4 hC.2.2.2.2 gX12_leads_X12_could rfl rfl rfl (by decide +kernel) ⟨Nat.le_of_ble_eq_true rfl, Nat.le_of_ble_eq_true rfl⟩) rfl hl.1 rfl (Nat.le_of_ble_eq_true rfl) dX12_leads_238 (fun w692 H locs hp691 hw => ?_)
              obtain ⟨hT, k693, hg694⟩ := hp691
              have hF := hF.tr k693 (by decide)
              have c695 := k693.gi kM_at12 rfl c88
              have c696 := k693.gi kM_at12 (by decide) c107
              have c697 := k693.gi kM_at12 rfl c108
              have c698 := k693.gi kM_at12 rfl c569
              have c699 := k693.gi kM_at12 rfl c648
              clear hg694
              exact J241 v145_7 v145_8 v145_9 r89 x650 f145_12__9_a1_toInt_217_toNat x106 H locs ls w692 (show 0 ≤ a1.toInt by omega) (show a1.toInt ≤ 3 by omega) (show 0 ≤ a2.toInt by omega) (show a2.toInt ≤ 1073741824 by omega) (show 0 ≤ a3.toInt by omega) (show a3.toInt ≤ 120 by omega) (show 0 ≤ a4.toInt by omega) (show a4.toInt ≤ 9 by omega) (show 0 ≤ a6.toInt by omega) (show a6.toInt ≤ 120 by omega) (show 0 ≤ v145_8.toInt by omega) (show v145_8.toInt ≤ 1073741944 by omega) (show 0 ≤ v145_9.toInt by omega) (show v145_9.toInt ≤ 1 by omega) (show 0 ≤ r89.toInt by omega) (show r89.toInt ≤ 11 by omega) (show 0 ≤ x650.toInt by omega) (show x650.toInt ≤ 129 by omega) (show 0 ≤ f145_12__9_a1_toInt_217_toNat.toInt by omega) (show f145_12__9_a1_toInt_217_toNat.toInt ≤ 9 by omega) (show 1 ≤ x106.toInt by omega) (show x106.toInt ≤ 12 by omega)  hw hT hF c695 c696 (lv_sub hl [2, 3, 4, 5, 6, 7, 8, 9, 10, 11, 1, 0] rfl)
            · have c689 : x687.toInt = x688.toInt := wk_eq.mp c689
              refine lv_iconst (v := 1) hx hb dX12_leads_231 (by decide) ?_
              refine lv_goto (tgt := 236) hx hb dX12_leads_232 (by decide) ?_
              refine lv_iload hx hb dX12_leads_236 (lv_at hl 9 rfl) ?_
              refine tk_Vv hC hK hw hT hA hE hSR kM_at0 (by decide) rfl (k_X12_could_6 l adK adV dC dI cy ad B (by omega) (by omega) qr s1   x650 (show 0 ≤ x650.toInt by omega) (show x650.toInt ≤ 120 by omega) r652 (show 0 ≤ r652.toInt by omega) (show r652.toInt ≤ 9 by omega) v145_7 w85 H.size hT ) (cwV 4 hC.2.2.2.2 gX12_leads_X12_could rfl rfl rfl (by decide +kernel) ⟨Nat.le_of_ble_eq_true rfl, Nat.le_of_ble_eq_true rfl⟩) rfl hl.1 rfl (Nat.le_of_ble_eq_true rfl) dX12_leads_238 (fun w702 H locs hp701 hw => ?_)
              obtain ⟨hT, k703, hg704⟩ := hp701
              have hF := hF.tr k703 (by decide)
              have c705 := k703.gi kM_at12 rfl c88
              have c706 := k703.gi kM_at12 (by decide) c107
              have c707 := k703.gi kM_at12 rfl c108
              have c708 := k703.gi kM_at12 rfl c569
              have c709 := k703.gi kM_at12 rfl c648
              clear hg704
              exact J241 v145_7 v145_8 v145_9 r89 x650 f145_12__9_a1_toInt_217_toNat x106 H locs ls w702 (show 0 ≤ a1.toInt by omega) (show a1.toInt ≤ 3 by omega) (show 0 ≤ a2.toInt by omega) (show a2.toInt ≤ 1073741824 by omega) (show 0 ≤ a3.toInt by omega) (show a3.toInt ≤ 120 by omega) (show 0 ≤ a4.toInt by omega) (show a4.toInt ≤ 9 by omega) (show 0 ≤ a6.toInt by omega) (show a6.toInt ≤ 120 by omega) (show 0 ≤ v145_8.toInt by omega) (show v145_8.toInt ≤ 1073741944 by omega) (show 0 ≤ v145_9.toInt by omega) (show v145_9.toInt ≤ 1 by omega) (show 0 ≤ r89.toInt by omega) (show r89.toInt ≤ 11 by omega) (show 0 ≤ x650.toInt by omega) (show x650.toInt ≤ 129 by omega) (show 0 ≤ f145_12__9_a1_toInt_217_toNat.toInt by omega) (show f145_12__9_a1_toInt_217_toNat.toInt ≤ 9 by omega) (show 1 ≤ x106.toInt by omega) (show x106.toInt ≤ 12 by omega)  hw hT hF c705 c706 (lv_sub hl [2, 3, 4, 5, 6, 7, 8, 9, 10, 11, 1, 0] rfl)
      · refine lv_if_ne (tgt := 182) hx hb dX12_leads_178 (by decide) (fun _ => ?_) (fun c => absurd c (by decide))
        refine lv_iload_n hx hb dX12_leads_182 rfl (lv_at hl 4 rfl) ?_
        refine lv_aload_n hx hb dX12_leads_183 rfl (lv_at hl 1 rfl) ?_
        refine lv_iload hx hb dX12_leads_184 (lv_at hl 0 rfl) ?_
        refine lv_iconst (v := 2) hx hb dX12_leads_186 (by decide) ?_
        refine tk_Vi hC hK hw hT hA hE hSR kM_at0 (by decide) rfl (k_X12_streetOf_6 l adK adV dC dI cy ad B (by omega) (by omega) qr s1   r89 (show 0 ≤ r89.toInt by omega) (show r89.toInt ≤ 11 by omega) w85 H.size hT ) (cwV 2 hC.2.2.2.2 gX12_leads_X12_streetOf rfl rfl rfl (by decide +kernel) ⟨Nat.le_of_ble_eq_true rfl, Nat.le_of_ble_eq_true rfl⟩) rfl hl.1 rfl (Nat.le_of_ble_eq_true rfl) dX12_leads_187 (fun r710 w712 H locs hp711 hw => ?_)
        obtain ⟨rfl, hg717⟩ := hp711
        obtain ⟨g714, g715, c716⟩ := hg717
        refine lv_iadd hx hb dX12_leads_190 ?_
        refine lv_topi (fun x718 ex718 => ?_)
        have ex718 : x718.toInt = a3.toInt + r710.toInt := by rw [ex718]; exact wk_add (show (-2147483648) ≤ a3.toInt + r710.toInt by omega) (show a3.toInt + r710.toInt ≤ 2147483647 by omega)
        refine lv_istore (lv' := [(11, .int x718), (10, .int r89), (0, .ref (ad 0)), (1, .int a1), (2, .int a2), (3, .int a3), (4, .int a4), (5, .int 1), (6, .int a6), (7, .int v145_7), (8, .int v145_8), (9, .int v145_9)]) hx hb dX12_leads_191 hl (by decide) rfl (fun ls hl => ?_)
        refine lv_iload hx hb dX12_leads_193 (lv_at hl 0 rfl) ?_
        refine lv_iload hx hb dX12_leads_195 (lv_at hl 8 rfl) ?_
        refine lv_icmp_gt (tgt := 241) hx hb dX12_leads_197 (by decide) (fun c719 => ?_) (fun c719 => ?_)
        · have c719 : a6.toInt < x718.toInt := wk_lt.mp c719
          exact J241 v145_7 v145_8 v145_9 r89 x718 f145_12__9_a1_toInt_217_toNat x106 H locs ls w85 (show 0 ≤ a1.toInt by omega) (show a1.toInt ≤ 3 by omega) (show 0 ≤ a2.toInt by omega) (show a2.toInt ≤ 1073741824 by omega) (show 0 ≤ a3.toInt by omega) (show a3.toInt ≤ 120 by omega) (show 0 ≤ a4.toInt by omega) (show a4.toInt ≤ 9 by omega) (show 0 ≤ a6.toInt by omega) (show a6.toInt ≤ 120 by omega) (show 0 ≤ v145_8.toInt by omega) (show v145_8.toInt ≤ 1073741944 by omega) (show 0 ≤ v145_9.toInt by omega) (show v145_9.toInt ≤ 1 by omega) (show 0 ≤ r89.toInt by omega) (show r89.toInt ≤ 11 by omega) (show 0 ≤ x718.toInt by omega) (show x718.toInt ≤ 129 by omega) (show 0 ≤ f145_12__9_a1_toInt_217_toNat.toInt by omega) (show f145_12__9_a1_toInt_217_toNat.toInt ≤ 9 by omega) (show 1 ≤ x106.toInt by omega) (show x106.toInt ≤ 12 by omega)  hw hT hF c88 c107 (lv_sub hl [2, 3, 4, 5, 6, 7, 8, 9, 10, 11, 1, 0] rfl)
        · have c719 : x718.toInt ≤ a6.toInt := wk_ltF c719
          refine lv_aload_n hx hb dX12_leads_200 rfl (lv_at hl 2 rfl) ?_
          refine lv_iload hx hb dX12_leads_201 (lv_at hl 0 rfl) ?_
          refine lv_aload_n hx hb dX12_leads_203 rfl (lv_at hl 2 rfl) ?_
          refine lv_iload hx hb dX12_leads_204 (lv_at hl 1 rfl) ?_
          refine lv_iload hx hb dX12_leads_206 (lv_at hl 6 rfl) ?_
          refine tk_Vi hC hK hw hT hA hE hSR kM_at0 (by decide) rfl (k_X12_otherOf_1 l adK adV dC dI cy ad B (by omega) (by omega) qr s1   r89 (show 0 ≤ r89.toInt by omega) (show r89.toInt ≤ 11 by omega) a4 (show 0 ≤ a4.toInt by omega) (show a4.toInt ≤ 9 by omega) w85 H.size hT ) (cwV 2 hC.2.2.2.2 gX12_leads_X12_otherOf rfl rfl rfl (by decide +kernel) ⟨Nat.le_of_ble_eq_true rfl, Nat.le_of_ble_eq_true rfl⟩) rfl hl.1 rfl (Nat.le_of_ble_eq_true rfl) dX12_leads_208 (fun r720 w722 H locs hp721 hw => ?_)
          obtain ⟨rfl, hg729⟩ := hp721
          rcases hg729 with ⟨g724, g725⟩ | ⟨g726, g727, c728⟩
          · refine lv_iload hx hb dX12_leads_211 (lv_at hl 7 rfl) ?_
            refine lv_if_eq (tgt := 235) hx hb dX12_leads_213 (by decide) (fun c => absurd c (by decide)) (fun _ => ?_)
            refine lv_iload_n hx hb dX12_leads_216 rfl (lv_at hl 4 rfl) ?_
            refine lv_iload hx hb dX12_leads_217 (lv_at hl 0 rfl) ?_
            refine lv_iadd hx hb dX12_leads_219 ?_
            refine lv_topi (fun x730 ex730 => ?_)
            have ex730 : x730.toInt = a2.toInt + x718.toInt := by rw [ex730]; exact wk_add (show (-2147483648) ≤ a2.toInt + x718.toInt by omega) (show a2.toInt + x718.toInt ≤ 2147483647 by omega)
            refine lv_bipush (v := 24) hx hb dX12_leads_220 (by decide) ?_
            refine lv_idiv hx hb dX12_leads_222 (by decide) ?_
            refine lv_topi (fun x731 ex731 => ?_)
            have ex731 : x731.toInt = x730.toInt / (24 : Int) := by rw [ex731]; exact wk_div (show 0 ≤ x730.toInt by omega) (show 0 < (24 : Int) by decide)
            refine lv_iload hx hb dX12_leads_223 (lv_at hl 10 rfl) ?_
            refine lv_bipush (v := 24) hx hb dX12_leads_225 (by decide) ?_
            refine lv_idiv hx hb dX12_leads_227 (by decide) ?_
            refine lv_topi (fun x732 ex732 => ?_)
            have ex732 : x732.toInt = v145_8.toInt / (24 : Int) := by rw [ex732]; exact wk_div (show 0 ≤ v145_8.toInt by omega) (show 0 < (24 : Int) by decide)
            refine lv_icmp_ne (tgt := 235) hx hb dX12_leads_228 (by decide) (fun c733 => ?_) (fun c733 => ?_)
            · have c733 : ¬ x731.toInt = x732.toInt := wk_eqF c733
              refine lv_iconst (v := 0) hx hb dX12_leads_235 (by decide) ?_
              refine lv_iload hx hb dX12_leads_236 (lv_at hl 9 rfl) ?_
              refine tk_Vv hC hK hw hT hA hE hSR kM_at0 (by decide) rfl (k_X12_could_3 l adK adV dC dI cy ad B (by omega) (by omega) qr s1   x718 (show 0 ≤ x718.toInt by omega) (show x718.toInt ≤ 120 by omega) r720 (show 0 ≤ r720.toInt by omega) (show r720.toInt ≤ 9 by omega) v145_7 w85 H.size hT ) (cwV 4 hC.2.2.2.2 gX12_leads_X12_could rfl rfl rfl (by decide +kernel) ⟨Nat.le_of_ble_eq_true rfl, Nat.le_of_ble_eq_true rfl⟩) rfl hl.1 rfl (Nat.le_of_ble_eq_true rfl) dX12_leads_238 (fun w736 H locs hp735 hw => ?_)
              obtain ⟨hT, k737, hg738⟩ := hp735
              have hF := hF.tr k737 (by decide)
              have c739 := k737.gi kM_at12 rfl c88
              have c740 := k737.gi kM_at12 (by decide) c107
              have c741 := k737.gi kM_at12 rfl c108
              have c742 := k737.gi kM_at12 rfl c716
              clear hg738
              exact J241 v145_7 v145_8 v145_9 r89 x718 f145_12__9_a1_toInt_217_toNat x106 H locs ls w736 (show 0 ≤ a1.toInt by omega) (show a1.toInt ≤ 3 by omega) (show 0 ≤ a2.toInt by omega) (show a2.toInt ≤ 1073741824 by omega) (show 0 ≤ a3.toInt by omega) (show a3.toInt ≤ 120 by omega) (show 0 ≤ a4.toInt by omega) (show a4.toInt ≤ 9 by omega) (show 0 ≤ a6.toInt by omega) (show a6.toInt ≤ 120 by omega) (show 0 ≤ v145_8.toInt by omega) (show v145_8.toInt ≤ 1073741944 by omega) (show 0 ≤ v145_9.toInt by omega) (show v145_9.toInt ≤ 1 by omega) (show 0 ≤ r89.toInt by omega) (show r89.toInt ≤ 11 by omega) (show 0 ≤ x718.toInt by omega) (show x718.toInt ≤ 129 by omega) (show 0 ≤ f145_12__9_a1_toInt_217_toNat.toInt by omega) (show f145_12__9_a1_toInt_217_toNat.toInt ≤ 9 by omega) (show 1 ≤ x106.toInt by omega) (show x106.toInt ≤ 12 by omega)  hw hT hF c739 c740 (lv_sub hl [2, 3, 4, 5, 6, 7, 8, 9, 10, 11, 1, 0] rfl)
            · have c733 : x731.toInt = x732.toInt := wk_eq.mp c733
              refine lv_iconst (v := 1) hx hb dX12_leads_231 (by decide) ?_
              refine lv_goto (tgt := 236) hx hb dX12_leads_232 (by decide) ?_
              refine lv_iload hx hb dX12_leads_236 (lv_at hl 9 rfl) ?_
              refine tk_Vv hC hK hw hT hA hE hSR kM_at0 (by decide) rfl (k_X12_could_6 l adK adV dC dI cy ad B (by omega) (by omega) qr s1   x718 (show 0 ≤ x718.toInt by omega) (show x718.toInt ≤ 120 by omega) r720 (show 0 ≤ r720.toInt by omega) (show r720.toInt ≤ 9 by omega) v145_7 w85 H.size hT ) (cwV 4 hC.2.2.2.2 gX12_leads_X12_could rfl rfl rfl (by decide +kernel) ⟨Nat.le_of_ble_eq_true rfl, Nat.le_of_ble_eq_true rfl⟩) rfl hl.1 rfl (Nat.le_of_ble_eq_true rfl) dX12_leads_238 (fun w745 H locs hp744 hw => ?_)
              obtain ⟨hT, k746, hg747⟩ := hp744
              have hF := hF.tr k746 (by decide)
              have c748 := k746.gi kM_at12 rfl c88
              have c749 := k746.gi kM_at12 (by decide) c107
              have c750 := k746.gi kM_at12 rfl c108
              have c751 := k746.gi kM_at12 rfl c716
              clear hg747
              exact J241 v145_7 v145_8 v145_9 r89 x718 f145_12__9_a1_toInt_217_toNat x106 H locs ls w745 (show 0 ≤ a1.toInt by omega) (show a1.toInt ≤ 3 by omega) (show 0 ≤ a2.toInt by omega) (show a2.toInt ≤ 1073741824 by omega) (show 0 ≤ a3.toInt by omega) (show a3.toInt ≤ 120 by omega) (show 0 ≤ a4.toInt by omega) (show a4.toInt ≤ 9 by omega) (show 0 ≤ a6.toInt by omega) (show a6.toInt ≤ 120 by omega) (show 0 ≤ v145_8.toInt by omega) (show v145_8.toInt ≤ 1073741944 by omega) (show 0 ≤ v145_9.toInt by omega) (show v145_9.toInt ≤ 1 by omega) (show 0 ≤ r89.toInt by omega) (show r89.toInt ≤ 11 by omega) (show 0 ≤ x718.toInt by omega) (show x718.toInt ≤ 129 by omega) (show 0 ≤ f145_12__9_a1_toInt_217_toNat.toInt by omega) (show f145_12__9_a1_toInt_217_toNat.toInt ≤ 9 by omega) (show 1 ≤ x106.toInt by omega) (show x106.toInt ≤ 12 by omega)  hw hT hF c748 c749 (lv_sub hl [2, 3, 4, 5, 6, 7, 8, 9, 10, 11, 1, 0] rfl)
          · refine lv_iload hx hb dX12_leads_211 (lv_at hl 7 rfl) ?_
            refine lv_if_eq (tgt := 235) hx hb dX12_leads_213 (by decide) (fun c => absurd c (by decide)) (fun _ => ?_)
            refine lv_iload_n hx hb dX12_leads_216 rfl (lv_at hl 4 rfl) ?_
            refine lv_iload hx hb dX12_leads_217 (lv_at hl 0 rfl) ?_
            refine lv_iadd hx hb dX12_leads_219 ?_
            refine lv_topi (fun x752 ex752 => ?_)
            have ex752 : x752.toInt = a2.toInt + x718.toInt := by rw [ex752]; exact wk_add (show (-2147483648) ≤ a2.toInt + x718.toInt by omega) (show a2.toInt + x718.toInt ≤ 2147483647 by omega)
            refine lv_bipush (v := 24) hx hb dX12_leads_220 (by decide) ?_
            refine lv_idiv hx hb dX12_leads_222 (by decide) ?_
            refine lv_topi (fun x753 ex753 => ?_)
            have ex753 : x753.toInt = x752.toInt / (24 : Int) := by rw [ex753]; exact wk_div (show 0 ≤ x752.toInt by omega) (show 0 < (24 : Int) by decide)
            refine lv_iload hx hb dX12_leads_223 (lv_at hl 10 rfl) ?_
            refine lv_bipush (v := 24) hx hb dX12_leads_225 (by decide) ?_
            refine lv_idiv hx hb dX12_leads_227 (by decide) ?_
            refine lv_topi (fun x754 ex754 => ?_)
            have ex754 : x754.toInt = v145_8.toInt / (24 : Int) := by rw [ex754]; exact wk_div (show 0 ≤ v145_8.toInt by omega) (show 0 < (24 : Int) by decide)
            refine lv_icmp_ne (tgt := 235) hx hb dX12_leads_228 (by decide) (fun c755 => ?_) (fun c755 => ?_)
            · have c755 : ¬ x753.toInt = x754.toInt := wk_eqF c755
              refine lv_iconst (v := 0) hx hb dX12_leads_235 (by decide) ?_
              refine lv_iload hx hb dX12_leads_236 (lv_at hl 9 rfl) ?_
              refine tk_Vv hC hK hw hT hA hE hSR kM_at0 (by decide) rfl (k_X12_could_3 l adK adV dC dI cy ad B (by omega) (by omega) qr s1   x718 (show 0 ≤ x718.toInt by omega) (show x718.toInt ≤ 120 by omega) r720 (show 0 ≤ r720.toInt by omega) (show r720.toInt ≤ 9 by omega) v145_7 w85 H.size hT ) (cwV 4 hC.2.2.2.2 gX12_leads_X12_could rfl rfl rfl (by decide +kernel) ⟨Nat.le_of_ble_eq_true rfl, Nat.le_of_ble_eq_true rfl⟩) rfl hl.1 rfl (Nat.le_of_ble_eq_true rfl) dX12_leads_238 (fun w758 H locs hp757 hw => ?_)
              obtain ⟨hT, k759, hg760⟩ := hp757
              have hF := hF.tr k759 (by decide)
              have c761 := k759.gi kM_at12 rfl c88
              have c762 := k759.gi kM_at12 (by decide) c107
              have c763 := k759.gi kM_at12 rfl c108
              have c764 := k759.gi kM_at12 rfl c716
              have c765 := k759.gi kM_at12 rfl c728
              clear hg760
              exact J241 v145_7 v145_8 v145_9 r89 x718 f145_12__9_a1_toInt_217_toNat x106 H locs ls w758 (show 0 ≤ a1.toInt by omega) (show a1.toInt ≤ 3 by omega) (show 0 ≤ a2.toInt by omega) (show a2.toInt ≤ 1073741824 by omega) (show 0 ≤ a3.toInt by omega) (show a3.toInt ≤ 120 by omega) (show 0 ≤ a4.toInt by omega) (show a4.toInt ≤ 9 by omega) (show 0 ≤ a6.toInt by omega) (show a6.toInt ≤ 120 by omega) (show 0 ≤ v145_8.toInt by omega) (show v145_8.toInt ≤ 1073741944 by omega) (show 0 ≤ v145_9.toInt by omega) (show v145_9.toInt ≤ 1 by omega) (show 0 ≤ r89.toInt by omega) (show r89.toInt ≤ 11 by omega) (show 0 ≤ x718.toInt by omega) (show x718.toInt ≤ 129 by omega) (show 0 ≤ f145_12__9_a1_toInt_217_toNat.toInt by omega) (show f145_12__9_a1_toInt_217_toNat.toInt ≤ 9 by omega) (show 1 ≤ x106.toInt by omega) (show x106.toInt ≤ 12 by omega)  hw hT hF c761 c762 (lv_sub hl [2, 3, 4, 5, 6, 7, 8, 9, 10, 11, 1, 0] rfl)
            · have c755 : x753.toInt = x754.toInt := wk_eq.mp c755
              refine lv_iconst (v := 1) hx hb dX12_leads_231 (by decide) ?_
              refine lv_goto (tgt := 236) hx hb dX12_leads_232 (by decide) ?_
              refine lv_iload hx hb dX12_leads_236 (lv_at hl 9 rfl) ?_
              refine tk_Vv hC hK hw hT hA hE hSR kM_at0 (by decide) rfl (k_X12_could_6 l adK adV dC dI cy ad B (by omega) (by omega) qr s1   x718 (show 0 ≤ x718.toInt by omega) (show x718.toInt ≤ 120 by omega) r720 (show 0 ≤ r720.toInt by omega) (show r720.toInt ≤ 9 by omega) v145_7 w85 H.size hT ) (cwV 4 hC.2.2.2.2 gX12_leads_X12_could rfl rfl rfl (by decide +kernel) ⟨Nat.le_of_ble_eq_true rfl, Nat.le_of_ble_eq_true rfl⟩) rfl hl.1 rfl (Nat.le_of_ble_eq_true rfl) dX12_leads_238 (fun w768 H locs hp767 hw => ?_)
              obtain ⟨hT, k769, hg770⟩ := hp767
              have hF := hF.tr k769 (by decide)
              have c771 := k769.gi kM_at12 rfl c88
              have c772 := k769.gi kM_at12 (by decide) c107
              have c773 := k769.gi kM_at12 rfl c108
              have c774 := k769.gi kM_at12 rfl c716
              have c775 := k769.gi kM_at12 rfl c728
              clear hg770
              exact J241 v145_7 v145_8 v145_9 r89 x718 f145_12__9_a1_toInt_217_toNat x106 H locs ls w768 (show 0 ≤ a1.toInt by omega) (show a1.toInt ≤ 3 by omega) (show 0 ≤ a2.toInt by omega) (show a2.toInt ≤ 1073741824 by omega) (show 0 ≤ a3.toInt by omega) (show a3.toInt ≤ 120 by omega) (show 0 ≤ a4.toInt by omega) (show a4.toInt ≤ 9 by omega) (show 0 ≤ a6.toInt by omega) (show a6.toInt ≤ 120 by omega) (show 0 ≤ v145_8.toInt by omega) (show v145_8.toInt ≤ 1073741944 by omega) (show 0 ≤ v145_9.toInt by omega) (show v145_9.toInt ≤ 1 by omega) (show 0 ≤ r89.toInt by omega) (show r89.toInt ≤ 11 by omega) (show 0 ≤ x718.toInt by omega) (show x718.toInt ≤ 129 by omega) (show 0 ≤ f145_12__9_a1_toInt_217_toNat.toInt by omega) (show f145_12__9_a1_toInt_217_toNat.toInt ≤ 9 by omega) (show 1 ≤ x106.toInt by omega) (show x106.toInt ≤ 12 by omega)  hw hT hF c771 c772 (lv_sub hl [2, 3, 4, 5, 6, 7, 8, 9, 10, 11, 1, 0] rfl)
    · refine lv_istore (lv' := [(10, .int (-1)), (0, .ref (ad 0)), (1, .int a1), (2, .int a2), (3, .int a3), (4, .int a4), (5, .int 1), (6, .int a6), (7, .int v145_7), (8, .int v145_8), (9, .int v145_9)]) hx hb dX12_leads_161 hl (by decide) rfl (fun ls hl => ?_)
      refine lv_iload hx hb dX12_leads_163 (lv_at hl 0 rfl) ?_
      refine lv_if_lt (tgt := 181) hx hb dX12_leads_165 (by decide) (fun _ => ?_) (fun c => absurd (by decide) c)
      exact J181 v145_7 v145_8 v145_9 (-1) f145_12__9_a1_toInt_217_toNat H locs ls w85 (show 0 ≤ a1.toInt by omega) (show a1.toInt ≤ 3 by omega) (show 0 ≤ a2.toInt by omega) (show a2.toInt ≤ 1073741824 by omega) (show 0 ≤ a3.toInt by omega) (show a3.toInt ≤ 120 by omega) (show 0 ≤ a4.toInt by omega) (show a4.toInt ≤ 9 by omega) (show 0 ≤ a6.toInt by omega) (show a6.toInt ≤ 120 by omega) (show 0 ≤ v145_8.toInt by omega) (show v145_8.toInt ≤ 1073741944 by omega) (show 0 ≤ v145_9.toInt by omega) (show v145_9.toInt ≤ 1 by omega) (by decide) (by decide) (show 0 ≤ f145_12__9_a1_toInt_217_toNat.toInt by omega) (show f145_12__9_a1_toInt_217_toNat.toInt ≤ 9 by omega)  hw hT hF c88 (lv_sub hl [1, 2, 3, 4, 5, 6, 7, 8, 9, 10, 0] rfl)
  have J115 : ∀ (v115_7 : Int32) (v115_8 : Int32) (v115_9 : Int32) (f115_12__9_a1_toInt_217_toNat : Int32) (H : Heap) (locs : List Loc) (ls : Array Slot) (w776 : va_W), 0 ≤ a1.toInt → a1.toInt ≤ 3 → 0 ≤ a2.toInt → a2.toInt ≤ 1073741824 → 0 ≤ a3.toInt → a3.toInt ≤ 120 → 0 ≤ a4.toInt → a4.toInt ≤ 9 → 0 ≤ a6.toInt → a6.toInt ≤ 120 → 0 ≤ v115_8.toInt → v115_8.toInt ≤ 1073741944 → 0 ≤ v115_9.toInt → v115_9.toInt ≤ 1 → 0 ≤ f115_12__9_a1_toInt_217_toNat.toInt → f115_12__9_a1_toInt_217_toNat.toInt ≤ 9 → Wd dC dI A s.heap H locs w776 → TW ksM ad cy B qr 12 w776 → FE ksM [(72, 0, 12), (73, 0, 10), (76, 0, 2600)] w0 w776 → gi w776 12 (9 * a1.toInt + 217).toNat = f115_12__9_a1_toInt_217_toNat → lv_has ls 12 [(0, .ref (ad 0)), (1, .int a1), (2, .int a2), (3, .int a3), (4, .int a4), (5, .int 1), (6, .int a6), (7, .int v115_7), (8, .int v115_8), (9, .int v115_9)] → W p l e ({ frames := 5, cells := 0, slots := 0, locals := 103 }) s m (List.toArray [.ref (ad 0), .int a1, .int a2, .int a3, .int a4, .int 1, .int a6]) below meth c H locs 0 0 (MQ below (va_Qv (P_X12_leads_2 ad cy B qr s1 a1 a2 a3 a4 a6 w0) (fun u : va_W => wpost dC dI cy A u) A) (List.toArray [.ref (ad 0), .int a1, .int a2, .int a3, .int a4, .int 1, .int a6]) s 0 0 A) (F0 m 115 ls []) := by
    intro v115_7 v115_8 v115_9 f115_12__9_a1_toInt_217_toNat H locs ls w776 r777 t778 r779 t780 r781 t782 r783 t784 r785 t786 r787 t788 r789 t790 r791 t792 hw hT hF c793 hl
    refine lv_iload hx hb dX12_leads_115 (lv_at hl 5 rfl) ?_
    refine lv_if_eq (tgt := 135) hx hb dX12_leads_117 (by decide) (fun c => absurd c (by decide)) (fun _ => ?_)
    refine lv_aload_n hx hb dX12_leads_120 rfl (lv_at hl 0 rfl) ?_
    refine lv_iload hx hb dX12_leads_121 (lv_at hl 8 rfl) ?_
    refine lv_bipush (v := 24) hx hb dX12_leads_123 (by decide) ?_
    refine lv_idiv hx hb dX12_leads_125 (by decide) ?_
    refine lv_topi (fun x794 ex794 => ?_)
    have ex794 : x794.toInt = v115_8.toInt / (24 : Int) := by rw [ex794]; exact wk_div (show 0 ≤ v115_8.toInt by omega) (show 0 < (24 : Int) by decide)
    refine lv_bipush (v := 7) hx hb dX12_leads_126 (by decide) ?_
    refine lv_irem hx hb dX12_leads_128 (by decide) ?_
    refine lv_topi (fun x795 ex795 => ?_)
    have ex795 : x795.toInt = x794.toInt % (7 : Int) := by rw [ex795]; exact wk_rem (show 0 ≤ x794.toInt by omega) (show 0 < (7 : Int) by decide)
    refine tk_Vv hC hK hw hT hA hE hSR kM_at0 (by decide) rfl (k_X12_takesDay_1 l adK adV dC dI cy ad B (by omega) (by omega) qr s1   x795 (show 0 ≤ x795.toInt by omega) (show x795.toInt ≤ 6 by omega) w776 H.size hT ) (cwV 1 hC.2.2.2.2 gX12_leads_X12_takesDay rfl rfl rfl (by decide +kernel) ⟨Nat.le_of_ble_eq_true rfl, Nat.le_of_ble_eq_true rfl⟩) rfl hl.1 rfl (Nat.le_of_ble_eq_true rfl) dX12_leads_129 (fun w798 H locs hp797 hw => ?_)
    obtain ⟨hT, k799, hg800⟩ := hp797
    have hF := hF.tr k799 (by decide)
    have c801 := k799.gi kM_at12 rfl c793
    clear hg800
    refine lv_goto (tgt := 145) hx hb dX12_leads_132 (by decide) ?_
    exact J145 v115_7 v115_8 v115_9 f115_12__9_a1_toInt_217_toNat H locs ls w798 (show 0 ≤ a1.toInt by omega) (show a1.toInt ≤ 3 by omega) (show 0 ≤ a2.toInt by omega) (show a2.toInt ≤ 1073741824 by omega) (show 0 ≤ a3.toInt by omega) (show a3.toInt ≤ 120 by omega) (show 0 ≤ a4.toInt by omega) (show a4.toInt ≤ 9 by omega) (show 0 ≤ a6.toInt by omega) (show a6.toInt ≤ 120 by omega) (show 0 ≤ v115_8.toInt by omega) (show v115_8.toInt ≤ 1073741944 by omega) (show 0 ≤ v115_9.toInt by omega) (show v115_9.toInt ≤ 1 by omega) (show 0 ≤ f115_12__9_a1_toInt_217_toNat.toInt by omega) (show f115_12__9_a1_toInt_217_toNat.toInt ≤ 9 by omega)  hw hT hF c801 (lv_sub hl [0, 1, 2, 3, 4, 5, 6, 7, 8, 9] rfl)
  refine lv_aload_n hx hb dX12_leads_0 rfl (lv_at hl 0 rfl) ?_
  refine tk_getA hC hK hw hT hinX12 kM_at0 (by decide) rfl 34 (by decide) (List.mem_of_getElem? (i := 1) rfl) rfl rfl dX12_leads_1 ?_
  refine lv_aload_n hx hb dX12_leads_4 rfl (lv_at hl 0 rfl) ?_
  refine lv_iload_n hx hb dX12_leads_5 rfl (lv_at hl 3 rfl) ?_
  refine lv_iload hx hb dX12_leads_6 (lv_at hl 4 rfl) ?_
  refine lv_iload hx hb dX12_leads_8 (lv_at hl 5 rfl) ?_
  refine tk_Vi hC hK hw hT hA hE hSR kM_at0 (by decide) rfl (k_X12_placeAt_6 l adK adV dC dI cy ad B (by omega) (by omega) qr s1   a3 (show 0 ≤ a3.toInt by omega) (show a3.toInt ≤ 120 by omega) a4 (show 0 ≤ a4.toInt by omega) (show a4.toInt ≤ 9 by omega) w0 s.heap.size hT ) (cwV 3 hC.2.2.2.2 gX12_leads_X12_placeAt rfl rfl rfl (by decide +kernel) ⟨Nat.le_of_ble_eq_true rfl, Nat.le_of_ble_eq_true rfl⟩) rfl hl.1 rfl (Nat.le_of_ble_eq_true rfl) dX12_leads_10 (fun r802 w804 H locs hp803 hw => ?_)
  obtain ⟨rfl, hg808⟩ := hp803
  obtain ⟨g806, g807⟩ := hg808
  refine tk_iald hC hK hw hT kM_at17 rfl rfl (show 0 ≤ r802.toInt by omega) (show r802.toInt < 2600 by omega) dX12_leads_13 (fun x809 c810 rx809 tx809 => ?_)
  refine lv_istore (lv' := [(7, .int x809), (0, .ref (ad 0)), (1, .int a1), (2, .int a2), (3, .int a3), (4, .int a4), (5, .int 1), (6, .int a6)]) hx hb dX12_leads_14 hl (by decide) rfl (fun ls hl => ?_)
  refine lv_iload hx hb dX12_leads_16 (lv_at hl 0 rfl) ?_
  refine lv_ldcw (v := 100000000) hx hb hC.2.2.2.1 (hC.2.2.2.2 _ (List.mem_of_getElem? (i := 2) rfl)) dX12_leads_18 ?_
  refine lv_icmp_eq (tgt := 41) hx hb dX12_leads_21 (by decide) (fun c811 => ?_) (fun c811 => ?_)
  · have c811 : x809.toInt = (100000000 : Int) := wk_eq.mp c811
    exact J41 x809 H locs ls w0 (show 0 ≤ a1.toInt by omega) (show a1.toInt ≤ 3 by omega) (show 0 ≤ a2.toInt by omega) (show a2.toInt ≤ 1073741824 by omega) (show 0 ≤ a3.toInt by omega) (show a3.toInt ≤ 120 by omega) (show 0 ≤ a4.toInt by omega) (show a4.toInt ≤ 9 by omega) (show 0 ≤ a6.toInt by omega) (show a6.toInt ≤ 120 by omega)  hw hT hF  (lv_sub hl [1, 2, 3, 4, 5, 6, 7, 0] rfl)
  · have c811 : ¬ x809.toInt = (100000000 : Int) := wk_eqF c811
    refine lv_iload_n hx hb dX12_leads_24 rfl (lv_at hl 4 rfl) ?_
    refine lv_iload hx hb dX12_leads_25 (lv_at hl 7 rfl) ?_
    refine lv_icmp_eq (tgt := 41) hx hb dX12_leads_27 (by decide) (fun c812 => ?_) (fun c812 => ?_)
    · have c812 : a3.toInt = a6.toInt := wk_eq.mp c812
      exact J41 x809 H locs ls w0 (show 0 ≤ a1.toInt by omega) (show a1.toInt ≤ 3 by omega) (show 0 ≤ a2.toInt by omega) (show a2.toInt ≤ 1073741824 by omega) (show 0 ≤ a3.toInt by omega) (show a3.toInt ≤ 120 by omega) (show 0 ≤ a4.toInt by omega) (show a4.toInt ≤ 9 by omega) (show 0 ≤ a6.toInt by omega) (show a6.toInt ≤ 120 by omega)  hw hT hF  (lv_sub hl [1, 2, 3, 4, 5, 6, 7, 0] rfl)
    · have c812 : ¬ a3.toInt = a6.toInt := wk_eqF c812
      refine lv_iload hx hb dX12_leads_30 (lv_at hl 5 rfl) ?_
      refine lv_aload_n hx hb dX12_leads_32 rfl (lv_at hl 1 rfl) ?_
      refine lv_iload_n hx hb dX12_leads_33 rfl (lv_at hl 2 rfl) ?_
      refine lv_iconst (v := 1) hx hb dX12_leads_34 (by decide) ?_
      refine tk_Vi hC hK hw hT hA hE hSR kM_at0 (by decide) rfl (k_X12_walkerOf_3 l adK adV dC dI cy ad B (by omega) (by omega) qr s1   a1 (show 0 ≤ a1.toInt by omega) (show a1.toInt ≤ 3 by omega) w0 H.size hT ) (cwV 2 hC.2.2.2.2 gX12_leads_X12_walkerOf rfl rfl rfl (by decide +kernel) ⟨Nat.le_of_ble_eq_true rfl, Nat.le_of_ble_eq_true rfl⟩) rfl hl.1 rfl (Nat.le_of_ble_eq_true rfl) dX12_leads_35 (fun r813 w815 H locs hp814 hw => ?_)
      obtain ⟨rfl, hg820⟩ := hp814
      obtain ⟨g817, g818, c819⟩ := hg820
      refine lv_icmp_ne (tgt := 42) hx hb dX12_leads_38 (by decide) (fun c821 => ?_) (fun c821 => ?_)
      · have c821 : ¬ a4.toInt = r813.toInt := wk_eqF c821
        refine lv_iload_n hx hb dX12_leads_42 rfl (lv_at hl 3 rfl) ?_
        refine lv_iload_n hx hb dX12_leads_43 rfl (lv_at hl 4 rfl) ?_
        refine lv_iadd hx hb dX12_leads_44 ?_
        refine lv_topi (fun x822 ex822 => ?_)
        have ex822 : x822.toInt = a2.toInt + a3.toInt := by rw [ex822]; exact wk_add (show (-2147483648) ≤ a2.toInt + a3.toInt by omega) (show a2.toInt + a3.toInt ≤ 2147483647 by omega)
        refine lv_istore (lv' := [(8, .int x822), (7, .int x809), (0, .ref (ad 0)), (1, .int a1), (2, .int a2), (3, .int a3), (4, .int a4), (5, .int 1), (6, .int a6)]) hx hb dX12_leads_45 hl (by decide) rfl (fun ls hl => ?_)
        refine lv_iload hx hb dX12_leads_47 (lv_at hl 0 rfl) ?_
        refine lv_iconst (v := 1) hx hb dX12_leads_49 (by decide) ?_
        refine lv_iadd hx hb dX12_leads_50 ?_
        refine lv_topi (fun x823 ex823 => ?_)
        have ex823 : x823.toInt = x822.toInt + (1 : Int) := by rw [ex823]; exact wk_add (show (-2147483648) ≤ x822.toInt + (1 : Int) by omega) (show x822.toInt + (1 : Int) ≤ 2147483647 by omega)
        refine lv_bipush (v := 24) hx hb dX12_leads_51 (by decide) ?_
        refine lv_idiv hx hb dX12_leads_53 (by decide) ?_
        refine lv_topi (fun x824 ex824 => ?_)
        have ex824 : x824.toInt = x823.toInt / (24 : Int) := by rw [ex824]; exact wk_div (show 0 ≤ x823.toInt by omega) (show 0 < (24 : Int) by decide)
        refine lv_iload hx hb dX12_leads_54 (lv_at hl 0 rfl) ?_
        refine lv_bipush (v := 24) hx hb dX12_leads_56 (by decide) ?_
        refine lv_idiv hx hb dX12_leads_58 (by decide) ?_
        refine lv_topi (fun x825 ex825 => ?_)
        have ex825 : x825.toInt = x822.toInt / (24 : Int) := by rw [ex825]; exact wk_div (show 0 ≤ x822.toInt by omega) (show 0 < (24 : Int) by decide)
        refine lv_icmp_ne (tgt := 66) hx hb dX12_leads_59 (by decide) (fun c826 => ?_) (fun c826 => ?_)
        · have c826 : ¬ x824.toInt = x825.toInt := wk_eqF c826
          refine lv_iconst (v := 0) hx hb dX12_leads_66 (by decide) ?_
          refine lv_istore (lv' := [(9, .int 0), (8, .int x822), (7, .int x809), (0, .ref (ad 0)), (1, .int a1), (2, .int a2), (3, .int a3), (4, .int a4), (5, .int 1), (6, .int a6)]) hx hb dX12_leads_67 hl (by decide) rfl (fun ls hl => ?_)
          refine lv_aload_n hx hb dX12_leads_69 rfl (lv_at hl 3 rfl) ?_
          refine lv_iload_n hx hb dX12_leads_70 rfl (lv_at hl 6 rfl) ?_
          refine lv_iconst (v := 1) hx hb dX12_leads_71 (by decide) ?_
          refine lv_iadd hx hb dX12_leads_72 ?_
          refine lv_topi (fun x827 ex827 => ?_)
          have ex827 : x827.toInt = a3.toInt + (1 : Int) := by rw [ex827]; exact wk_add (show (-2147483648) ≤ a3.toInt + (1 : Int) by omega) (show a3.toInt + (1 : Int) ≤ 2147483647 by omega)
          refine lv_iload hx hb dX12_leads_73 (lv_at hl 7 rfl) ?_
          refine lv_iload hx hb dX12_leads_75 (lv_at hl 8 rfl) ?_
          refine lv_if_eq (tgt := 89) hx hb dX12_leads_77 (by decide) (fun c => absurd c (by decide)) (fun _ => ?_)
          refine lv_iload hx hb dX12_leads_80 (lv_at hl 0 rfl) ?_
          refine lv_if_eq (tgt := 89) hx hb dX12_leads_82 (by decide) (fun _ => ?_) (fun c => absurd (by decide) c)
          refine lv_iconst (v := 0) hx hb dX12_leads_89 (by decide) ?_
          refine lv_iload hx hb dX12_leads_90 (lv_at hl 2 rfl) ?_
          refine tk_Vv hC hK hw hT hA hE hSR kM_at0 (by decide) rfl (k_X12_could_4 l adK adV dC dI cy ad B (by omega) (by omega) qr s1   x827 (show 1 ≤ x827.toInt by omega) (show x827.toInt ≤ 121 by omega) a4 (show 0 ≤ a4.toInt by omega) (show a4.toInt ≤ 9 by omega) x809 w0 H.size hT ) (cwV 4 hC.2.2.2.2 gX12_leads_X12_could rfl rfl rfl (by decide +kernel) ⟨Nat.le_of_ble_eq_true rfl, Nat.le_of_ble_eq_true rfl⟩) rfl hl.1 rfl (Nat.le_of_ble_eq_true rfl) dX12_leads_92 (fun w830 H locs hp829 hw => ?_)
          obtain ⟨hT, k831, hg832⟩ := hp829
          have hF := hF.tr k831 (by decide)
          have c833 := k831.gi kM_at12 rfl c819
          clear hg832
          refine lv_iload hx hb dX12_leads_95 (lv_at hl 8 rfl) ?_
          refine lv_if_ne (tgt := 115) hx hb dX12_leads_97 (by decide) (fun _ => ?_) (fun c => absurd c (by decide))
          exact J115 x809 x822 0 r813 H locs ls w830 (show 0 ≤ a1.toInt by omega) (show a1.toInt ≤ 3 by omega) (show 0 ≤ a2.toInt by omega) (show a2.toInt ≤ 1073741824 by omega) (show 0 ≤ a3.toInt by omega) (show a3.toInt ≤ 120 by omega) (show 0 ≤ a4.toInt by omega) (show a4.toInt ≤ 9 by omega) (show 0 ≤ a6.toInt by omega) (show a6.toInt ≤ 120 by omega) (show 0 ≤ x822.toInt by omega) (show x822.toInt ≤ 1073741944 by omega) (by decide) (by decide) (show 0 ≤ r813.toInt by omega) (show r813.toInt ≤ 9 by omega)  hw hT hF c833 (lv_sub hl [3, 4, 5, 6, 7, 8, 9, 2, 1, 0] rfl)
        · have c826 : x824.toInt = x825.toInt := wk_eq.mp c826
          refine lv_iconst (v := 1) hx hb dX12_leads_62 (by decide) ?_
          refine lv_goto (tgt := 67) hx hb dX12_leads_63 (by decide) ?_
          refine lv_istore (lv' := [(9, .int 1), (8, .int x822), (7, .int x809), (0, .ref (ad 0)), (1, .int a1), (2, .int a2), (3, .int a3), (4, .int a4), (5, .int 1), (6, .int a6)]) hx hb dX12_leads_67 hl (by decide) rfl (fun ls hl => ?_)
          refine lv_aload_n hx hb dX12_leads_69 rfl (lv_at hl 3 rfl) ?_
          refine lv_iload_n hx hb dX12_leads_70 rfl (lv_at hl 6 rfl) ?_
          refine lv_iconst (v := 1) hx hb dX12_leads_71 (by decide) ?_
          refine lv_iadd hx hb dX12_leads_72 ?_
          refine lv_topi (fun x834 ex834 => ?_)
          have ex834 : x834.toInt = a3.toInt + (1 : Int) := by rw [ex834]; exact wk_add (show (-2147483648) ≤ a3.toInt + (1 : Int) by omega) (show a3.toInt + (1 : Int) ≤ 2147483647 by omega)
          refine lv_iload hx hb dX12_leads_73 (lv_at hl 7 rfl) ?_
          refine lv_iload hx hb dX12_leads_75 (lv_at hl 8 rfl) ?_
          refine lv_if_eq (tgt := 89) hx hb dX12_leads_77 (by decide) (fun c => absurd c (by decide)) (fun _ => ?_)
          refine lv_iload hx hb dX12_leads_80 (lv_at hl 0 rfl) ?_
          refine lv_if_eq (tgt := 89) hx hb dX12_leads_82 (by decide) (fun c => absurd c (by decide)) (fun _ => ?_)
          refine lv_iconst (v := 1) hx hb dX12_leads_85 (by decide) ?_
          refine lv_goto (tgt := 90) hx hb dX12_leads_86 (by decide) ?_
          refine lv_iload hx hb dX12_leads_90 (lv_at hl 2 rfl) ?_
          refine tk_Vv hC hK hw hT hA hE hSR kM_at0 (by decide) rfl (k_X12_could_5 l adK adV dC dI cy ad B (by omega) (by omega) qr s1   x834 (show 1 ≤ x834.toInt by omega) (show x834.toInt ≤ 121 by omega) a4 (show 0 ≤ a4.toInt by omega) (show a4.toInt ≤ 9 by omega) x809 w0 H.size hT ) (cwV 4 hC.2.2.2.2 gX12_leads_X12_could rfl rfl rfl (by decide +kernel) ⟨Nat.le_of_ble_eq_true rfl, Nat.le_of_ble_eq_true rfl⟩) rfl hl.1 rfl (Nat.le_of_ble_eq_true rfl) dX12_leads_92 (fun w837 H locs hp836 hw => ?_)
          obtain ⟨hT, k838, hg839⟩ := hp836
          have hF := hF.tr k838 (by decide)
          have c840 := k838.gi kM_at12 rfl c819
          clear hg839
          refine lv_iload hx hb dX12_leads_95 (lv_at hl 8 rfl) ?_
          refine lv_if_ne (tgt := 115) hx hb dX12_leads_97 (by decide) (fun _ => ?_) (fun c => absurd c (by decide))
          exact J115 x809 x822 1 r813 H locs ls w837 (show 0 ≤ a1.toInt by omega) (show a1.toInt ≤ 3 by omega) (show 0 ≤ a2.toInt by omega) (show a2.toInt ≤ 1073741824 by omega) (show 0 ≤ a3.toInt by omega) (show a3.toInt ≤ 120 by omega) (show 0 ≤ a4.toInt by omega) (show a4.toInt ≤ 9 by omega) (show 0 ≤ a6.toInt by omega) (show a6.toInt ≤ 120 by omega) (show 0 ≤ x822.toInt by omega) (show x822.toInt ≤ 1073741944 by omega) (by decide) (by decide) (show 0 ≤ r813.toInt by omega) (show r813.toInt ≤ 9 by omega)  hw hT hF c840 (lv_sub hl [3, 4, 5, 6, 7, 8, 9, 2, 1, 0] rfl)
      · have c821 : a4.toInt = r813.toInt := wk_eq.mp c821
        exact J41 x809 H locs ls w0 (show 0 ≤ a1.toInt by omega) (show a1.toInt ≤ 3 by omega) (show 0 ≤ a2.toInt by omega) (show a2.toInt ≤ 1073741824 by omega) (show 0 ≤ a3.toInt by omega) (show a3.toInt ≤ 120 by omega) (show 0 ≤ a4.toInt by omega) (show a4.toInt ≤ 9 by omega) (show 0 ≤ a6.toInt by omega) (show a6.toInt ≤ 120 by omega)  hw hT hF  (lv_sub hl [1, 2, 3, 4, 5, 6, 7, 0] rfl)
abbrev P_X12_questions_1 (ad : Nat → Nat) (cy : Nat → ClassId) (B : Int) (qr : Nat) (s1 : Int) (a1 : Int32) (a2 : Int32) (w0 : va_W) : Int32 → va_W → Prop := fun r u => TW ksM ad cy B qr 12 u ∧ FE ksM [(72, 0, 12), (73, 0, 10), (76, 0, 2600)] w0 u ∧ ((r.toInt ≤ 99999999 ∧ 0 ≤ a1.toInt ∧ a1.toInt ≤ 3 ∧ 0 ≤ a2.toInt ∧ a2.toInt ≤ 120 ∧ (∃ y : Int32, gi u 12 5 = y ∧ 1 ≤ y.toInt ∧ y.toInt ≤ 4)) ∨ (r = (-2) ∧ 0 ≤ a1.toInt ∧ a1.toInt ≤ 3 ∧ 0 ≤ a2.toInt ∧ a2.toInt ≤ 120 ∧ (∃ y : Int32, gi u 12 5 = y ∧ 1 ≤ y.toInt ∧ y.toInt ≤ 4)) ∨ (r = (-1)))
set_option maxHeartbeats 4000000 in
set_option maxRecDepth 100000 in
theorem k_X12_questions_1 (l : Launch) (adK adV : Nat → Nat) (dC : Nat → ClassId) (dI : Nat → Nat → Nat) (cy : Nat → ClassId) (ad : Nat → Nat) (B : Int) (hB0 : 100000 ≤ B) (hB1 : B ≤ 1073741824) (qr : Nat) (s1 : Int)  (a1 : Int32) (a2 : Int32) (w0 : va_W) (sz : Nat) (hT : TW ksM ad cy B qr 12 w0)  : Met l yX12_questions wsX12_questions ({ frames := 6, cells := 0, slots := 0, locals := 134 }) (va_Pc [.ref (ad 0), .int a1, .int a2] (wpreS adK adV dC dI cy sz w0)) (va_Qi (P_X12_questions_1 ad cy B qr s1 a1 a2 w0) (fun u : va_W => wpost dC dI cy (va_A w0 sz) u) (va_A w0 sz)) 0 0 (va_A w0 sz) := by
  refine Met.ofW (cc := cX12_questions) (maxL := 8) (ret := (some .int)) (by decide) rfl ?_
  intro p e s m args below meth c s₁ Bk hml hv
  obtain ⟨rfl, ⟨hsz, hP, hK, hD0⟩, hE, hSR⟩ := hv
  have hx := Bk.exec
  have hb := Bk.bytes
  have hr := Bk.returns
  have hlocks := Bk.notSynchronized
  have hC : CallFix p m c cX12_questions 8 s _ wsX12_questions RX12 := ⟨hx, hb, hml, findClass_of_methodNamed Bk.named, atoms_spec (ws := wsX12_questions) Bk.pre⟩
  subst hsz
  have hD := hD0.self (sz := s.heap.size)
  generalize hAe : va_A w0 s.heap.size = A at hD hE ⊢
  have hA : ∀ q : Nat, s.heap.size ≤ q → A q := fun q h => by rw [← hAe]; exact Or.inr h
  have hw : Wd dC dI A s.heap s.heap [] w0 := ⟨hP, hD, va_S.rf⟩
  have hF : FE ksM [(72, 0, 12), (73, 0, 10), (76, 0, 2600)] w0 w0 := FE.rf
  have hl := lv_entry ([.ref (ad 0), .int a1, .int a2]) (n := 8) (Nat.le_of_ble_eq_true rfl)
  rw [lg_entry_eq]
  generalize (lg_sl ([.ref (ad 0), .int a1, .int a2]) ++ List.replicate (8 - (lg_sl ([.ref (ad 0), .int a1, .int a2])).length) Slot.unset).toArray = ls at hl ⊢
  have hl : lv_has ls 8 [(0, .ref (ad 0)), (1, .int a1), (2, .int a2)] := hl
  generalize hloc : ([] : List Loc) = locs at hw ⊢
  have hinX12 : ∀ w ∈ u_ws RX12 TX12 42, w ∈ wsX12_questions := fun _ h => List.mem_cons_of_mem _ (List.mem_append_right _ (h))
  have J20 : ∀ (H : Heap) (locs : List Loc) (ls : Array Slot) (w1 : va_W), Wd dC dI A s.heap H locs w1 → TW ksM ad cy B qr 12 w1 → FE ksM [(72, 0, 12), (73, 0, 10), (76, 0, 2600)] w0 w1 → lv_has ls 8 [(0, .ref (ad 0)), (1, .int a1), (2, .int a2)] → W p l e ({ frames := 6, cells := 0, slots := 0, locals := 134 }) s m (List.toArray [.ref (ad 0), .int a1, .int a2]) below meth c H locs 0 0 (MQ below (va_Qi (P_X12_questions_1 ad cy B qr s1 a1 a2 w0) (fun u : va_W => wpost dC dI cy A u) A) (List.toArray [.ref (ad 0), .int a1, .int a2]) s 0 0 A) (F0 m 20 ls []) := by
    intro H locs ls w1 hw hT hF hl
    refine lv_iconst (v := (-1)) hx hb dX12_questions_20 (by decide) ?_
    exact tk_iret hC hr hlocks hK ⟨hT, hF, (Or.inr (Or.inr rfl))⟩ hw dX12_questions_21
  have L70 : ∀ (n70 : Nat) (v70_3 : Int32) (v70_4 : Int32) (f70_12__9_a1_toInt_216_toNat : Int32) (f70_12_5 : Int32) (H : Heap) (locs : List Loc) (ls : Array Slot) (w2 : va_W), 0 ≤ a1.toInt → a1.toInt ≤ 3 → 0 ≤ a2.toInt → a2.toInt ≤ 120 → v70_3.toInt ≤ 100000000 → 0 ≤ v70_4.toInt → v70_4.toInt ≤ 121 → 0 ≤ f70_12__9_a1_toInt_216_toNat.toInt → f70_12__9_a1_toInt_216_toNat.toInt ≤ 9 → 1 ≤ f70_12_5.toInt → f70_12_5.toInt ≤ 4 → (121 - v70_4.toInt).toNat < n70 → Wd dC dI A s.heap H locs w2 → TW ksM ad cy B qr 12 w2 → FE ksM [(72, 0, 12), (73, 0, 10), (76, 0, 2600)] w0 w2 → gi w2 12 (9 * a1.toInt + 216).toNat = f70_12__9_a1_toInt_216_toNat → gi w2 12 5 = f70_12_5 → lv_has ls 8 [(0, .ref (ad 0)), (1, .int a1), (2, .int a2), (3, .int v70_3), (4, .int v70_4)] → W p l e ({ frames := 6, cells := 0, slots := 0, locals := 134 }) s m (List.toArray [.ref (ad 0), .int a1, .int a2]) below meth c H locs 0 0 (MQ below (va_Qi (P_X12_questions_1 ad cy B qr s1 a1 a2 w0) (fun u : va_W => wpost dC dI cy A u) A) (List.toArray [.ref (ad 0), .int a1, .int a2]) s 0 0 A) (F0 m 70 ls []) := by
    intro n70
    induction n70 with
    | zero => intro v70_3 v70_4 f70_12__9_a1_toInt_216_toNat f70_12_5 H locs ls w2 r3 t4 r5 t6 t7 r8 t9 r10 t11 r13 t14 hm70 hw hT hF c12 c15 hl; omega
    | succ n70 ih70 =>
      intro v70_3 v70_4 f70_12__9_a1_toInt_216_toNat f70_12_5 H locs ls w2 r3 t4 r5 t6 t7 r8 t9 r10 t11 r13 t14 hm70 hw hT hF c12 c15 hl
      have L79 : ∀ (n79 : Nat) (v79_3 : Int32) (v79_5 : Int32) (H : Heap) (locs : List Loc) (ls : Array Slot) (w16 : va_W), 0 ≤ a1.toInt → a1.toInt ≤ 3 → 0 ≤ a2.toInt → a2.toInt ≤ 120 → v79_3.toInt ≤ 100000000 → 0 ≤ v70_4.toInt → v70_4.toInt ≤ 120 → 0 ≤ v79_5.toInt → v79_5.toInt ≤ 10 → 0 ≤ f70_12__9_a1_toInt_216_toNat.toInt → f70_12__9_a1_toInt_216_toNat.toInt ≤ 9 → 1 ≤ f70_12_5.toInt → f70_12_5.toInt ≤ 4 → (10 - v79_5.toInt).toNat < n79 → Wd dC dI A s.heap H locs w16 → TW ksM ad cy B qr 12 w16 → FE ksM [(72, 0, 12), (73, 0, 10), (76, 0, 2600)] w0 w16 → gi w16 12 (9 * a1.toInt + 216).toNat = f70_12__9_a1_toInt_216_toNat → gi w16 12 5 = f70_12_5 → lv_has ls 8 [(0, .ref (ad 0)), (1, .int a1), (2, .int a2), (3, .int v79_3), (4, .int v70_4), (5, .int v79_5)] → W p l e ({ frames := 6, cells := 0, slots := 0, locals := 134 }) s m (List.toArray [.ref (ad 0), .int a1, .int a2]) below meth c H locs 0 0 (MQ below (va_Qi (P_X12_questions_1 ad cy B qr s1 a1 a2 w0) (fun u : va_W => wpost dC dI cy A u) A) (List.toArray [.ref (ad 0), .int a1, .int a2]) s 0 0 A) (F0 m 79 ls []) := by
        intro n79
        induction n79 with
        | zero => intro v79_3 v79_5 H locs ls w16 r17 t18 r19 t20 t21 r22 t23 r24 t25 r26 t27 r29 t30 hm79 hw hT hF c28 c31 hl; omega
        | succ n79 ih79 =>
          intro v79_3 v79_5 H locs ls w16 r17 t18 r19 t20 t21 r22 t23 r24 t25 r26 t27 r29 t30 hm79 hw hT hF c28 c31 hl
          have L93 : ∀ (n93 : Nat) (v93_3 : Int32) (v93_6 : Int32) (f93_12_0 : Int32) (H : Heap) (locs : List Loc) (ls : Array Slot) (w32 : va_W), 0 ≤ a1.toInt → a1.toInt ≤ 3 → 0 ≤ a2.toInt → a2.toInt ≤ 120 → v93_3.toInt ≤ 100000000 → 0 ≤ v70_4.toInt → v70_4.toInt ≤ 120 → 0 ≤ v79_5.toInt → v79_5.toInt ≤ 9 → 0 ≤ v93_6.toInt → v93_6.toInt ≤ 2 → 0 ≤ f70_12__9_a1_toInt_216_toNat.toInt → f70_12__9_a1_toInt_216_toNat.toInt ≤ 9 → 1 ≤ f93_12_0.toInt → f93_12_0.toInt ≤ 10 → 1 ≤ f70_12_5.toInt → f70_12_5.toInt ≤ 4 → (2 - v93_6.toInt).toNat < n93 → Wd dC dI A s.heap H locs w32 → TW ksM ad cy B qr 12 w32 → FE ksM [(72, 0, 12), (73, 0, 10), (76, 0, 2600)] w0 w32 → gi w32 12 (9 * a1.toInt + 216).toNat = f70_12__9_a1_toInt_216_toNat → gi w32 12 0 = f93_12_0 → gi w32 12 5 = f70_12_5 → lv_has ls 8 [(0, .ref (ad 0)), (1, .int a1), (2, .int a2), (3, .int v93_3), (4, .int v70_4), (5, .int v79_5), (6, .int v93_6)] → W p l e ({ frames := 6, cells := 0, slots := 0, locals := 134 }) s m (List.toArray [.ref (ad 0), .int a1, .int a2]) below meth c H locs 0 0 (MQ below (va_Qi (P_X12_questions_1 ad cy B qr s1 a1 a2 w0) (fun u : va_W => wpost dC dI cy A u) A) (List.toArray [.ref (ad 0), .int a1, .int a2]) s 0 0 A) (F0 m 93 ls []) := by
            intro n93
            induction n93 with
            | zero => intro v93_3 v93_6 f93_12_0 H locs ls w32 r33 t34 r35 t36 t37 r38 t39 r40 t41 r42 t43 r44 t45 r47 t48 r50 t51 hm93 hw hT hF c46 c49 c52 hl; omega
            | succ n93 ih93 =>
              intro v93_3 v93_6 f93_12_0 H locs ls w32 r33 t34 r35 t36 t37 r38 t39 r40 t41 r42 t43 r44 t45 r47 t48 r50 t51 hm93 hw hT hF c46 c49 c52 hl
              have J174 : ∀ (v174_7 : Int32) (f174_12__9_a1_toInt_217_toNat : Int32) (H : Heap) (locs : List Loc) (ls : Array Slot) (w53 : va_W), 0 ≤ a1.toInt → a1.toInt ≤ 3 → 0 ≤ a2.toInt → a2.toInt ≤ 120 → v93_3.toInt ≤ 100000000 → 0 ≤ v70_4.toInt → v70_4.toInt ≤ 120 → 0 ≤ v79_5.toInt → v79_5.toInt ≤ 9 → 0 ≤ v93_6.toInt → v93_6.toInt ≤ 1 → 0 ≤ f70_12__9_a1_toInt_216_toNat.toInt → f70_12__9_a1_toInt_216_toNat.toInt ≤ 9 → 0 ≤ f174_12__9_a1_toInt_217_toNat.toInt → f174_12__9_a1_toInt_217_toNat.toInt ≤ 9 → 1 ≤ f93_12_0.toInt → f93_12_0.toInt ≤ 10 → 1 ≤ f70_12_5.toInt → f70_12_5.toInt ≤ 4 → Wd dC dI A s.heap H locs w53 → TW ksM ad cy B qr 12 w53 → FE ksM [(72, 0, 12), (73, 0, 10), (76, 0, 2600)] w0 w53 → gi w53 12 (9 * a1.toInt + 216).toNat = f70_12__9_a1_toInt_216_toNat → gi w53 12 (9 * a1.toInt + 217).toNat = f174_12__9_a1_toInt_217_toNat → gi w53 12 0 = f93_12_0 → gi w53 12 5 = f70_12_5 → lv_has ls 8 [(0, .ref (ad 0)), (1, .int a1), (2, .int a2), (3, .int v93_3), (4, .int v70_4), (5, .int v79_5), (6, .int v93_6), (7, .int v174_7)] → W p l e ({ frames := 6, cells := 0, slots := 0, locals := 134 }) s m (List.toArray [.ref (ad 0), .int a1, .int a2]) below meth c H locs 0 0 (MQ below (va_Qi (P_X12_questions_1 ad cy B qr s1 a1 a2 w0) (fun u : va_W => wpost dC dI cy A u) A) (List.toArray [.ref (ad 0), .int a1, .int a2]) s 0 0 A) (F0 m 174 ls []) := by
                intro v174_7 f174_12__9_a1_toInt_217_toNat H locs ls w53 r54 t55 r56 t57 t58 r59 t60 r61 t62 r63 t64 r65 t66 r68 t69 r71 t72 r74 t75 hw hT hF c67 c70 c73 c76 hl
                refine lv_iload_n hx hb dX12_questions_174 rfl (lv_at hl 3 rfl) ?_
                refine lv_istore_n (lv' := [(3, .int v93_3), (0, .ref (ad 0)), (1, .int a1), (2, .int a2), (4, .int v70_4), (5, .int v79_5), (6, .int v93_6), (7, .int v174_7)]) hx hb dX12_questions_175 rfl hl (by decide) rfl (fun ls hl => ?_)
                obtain ⟨x77, ex77⟩ : ∃ y : Int32, y = v93_6 + Int32.ofInt 1 := ⟨_, rfl⟩
                refine lv_iinc (v := x77) (lv' := [(6, .int x77), (3, .int v93_3), (0, .ref (ad 0)), (1, .int a1), (2, .int a2), (4, .int v70_4), (5, .int v79_5), (7, .int v174_7)]) hx hb dX12_questions_176 hl (k := 6) rfl ex77.symm (by decide) rfl (fun ls hl => ?_)
                have ex77 : x77.toInt = v93_6.toInt + 1 := by rw [ex77]; exact wk_add (y := 1) (show -2147483648 ≤ v93_6.toInt + 1 by omega) (show v93_6.toInt + 1 ≤ 2147483647 by omega)
                refine lv_goto (tgt := 93) hx hb dX12_questions_179 (by decide) ?_
                exact ih93 v93_3 x77 f93_12_0 H locs ls w53 (show 0 ≤ a1.toInt by omega) (show a1.toInt ≤ 3 by omega) (show 0 ≤ a2.toInt by omega) (show a2.toInt ≤ 120 by omega) (show v93_3.toInt ≤ 100000000 by omega) (show 0 ≤ v70_4.toInt by omega) (show v70_4.toInt ≤ 120 by omega) (show 0 ≤ v79_5.toInt by omega) (show v79_5.toInt ≤ 9 by omega) (show 0 ≤ x77.toInt by omega) (show x77.toInt ≤ 2 by omega) (show 0 ≤ f70_12__9_a1_toInt_216_toNat.toInt by omega) (show f70_12__9_a1_toInt_216_toNat.toInt ≤ 9 by omega) (show 1 ≤ f93_12_0.toInt by omega) (show f93_12_0.toInt ≤ 10 by omega) (show 1 ≤ f70_12_5.toInt by omega) (show f70_12_5.toInt ≤ 4 by omega) (show (2 - x77.toInt).toNat < n93 by omega) hw hT hF c67 c73 c76 (lv_sub hl [2, 3, 4, 1, 5, 6, 0] rfl)
              refine lv_iload hx hb dX12_questions_93 (lv_at hl 6 rfl) ?_
              refine lv_iconst (v := 2) hx hb dX12_questions_95 (by decide) ?_
              refine lv_icmp_ge (tgt := 182) hx hb dX12_questions_96 (by decide) (fun c78 => ?_) (fun c78 => ?_)
              · have c78 : (2 : Int) ≤ v93_6.toInt := wk_le.mp c78
                obtain ⟨x79, ex79⟩ : ∃ y : Int32, y = v79_5 + Int32.ofInt 1 := ⟨_, rfl⟩
                refine lv_iinc (v := x79) (lv' := [(5, .int x79), (0, .ref (ad 0)), (1, .int a1), (2, .int a2), (3, .int v93_3), (4, .int v70_4), (6, .int v93_6)]) hx hb dX12_questions_182 hl (k := 5) rfl ex79.symm (by decide) rfl (fun ls hl => ?_)
                have ex79 : x79.toInt = v79_5.toInt + 1 := by rw [ex79]; exact wk_add (y := 1) (show -2147483648 ≤ v79_5.toInt + 1 by omega) (show v79_5.toInt + 1 ≤ 2147483647 by omega)
                refine lv_goto (tgt := 79) hx hb dX12_questions_185 (by decide) ?_
                exact ih79 v93_3 x79 H locs ls w32 (show 0 ≤ a1.toInt by omega) (show a1.toInt ≤ 3 by omega) (show 0 ≤ a2.toInt by omega) (show a2.toInt ≤ 120 by omega) (show v93_3.toInt ≤ 100000000 by omega) (show 0 ≤ v70_4.toInt by omega) (show v70_4.toInt ≤ 120 by omega) (show 0 ≤ x79.toInt by omega) (show x79.toInt ≤ 10 by omega) (show 0 ≤ f70_12__9_a1_toInt_216_toNat.toInt by omega) (show f70_12__9_a1_toInt_216_toNat.toInt ≤ 9 by omega) (show 1 ≤ f70_12_5.toInt by omega) (show f70_12_5.toInt ≤ 4 by omega) (show (10 - x79.toInt).toNat < n79 by omega) hw hT hF c46 c52 (lv_sub hl [1, 2, 3, 4, 5, 0] rfl)
              · have c78 : v93_6.toInt < (2 : Int) := wk_leF c78
                refine lv_aload_n hx hb dX12_questions_99 rfl (lv_at hl 0 rfl) ?_
                refine lv_iload_n hx hb dX12_questions_100 rfl (lv_at hl 1 rfl) ?_
                refine lv_aload_n hx hb dX12_questions_101 rfl (lv_at hl 0 rfl) ?_
                refine lv_iload_n hx hb dX12_questions_102 rfl (lv_at hl 1 rfl) ?_
                refine lv_iconst (v := 4) hx hb dX12_questions_103 (by decide) ?_
                refine tk_Vi hC hK hw hT hA hE hSR kM_at0 (by decide) rfl (k_X12_walkerOf_4 l adK adV dC dI cy ad B (by omega) (by omega) qr s1   a1 (show 0 ≤ a1.toInt by omega) (show a1.toInt ≤ 3 by omega) w32 H.size hT ) (cwV 2 hC.2.2.2.2 gX12_questions_X12_walkerOf rfl rfl rfl (by decide +kernel) ⟨Nat.le_of_ble_eq_true rfl, Nat.le_of_ble_eq_true rfl⟩) rfl hl.1 rfl (Nat.le_of_ble_eq_true rfl) dX12_questions_104 (fun r80 w82 H locs hp81 hw => ?_)
                obtain ⟨rfl, hg87⟩ := hp81
                obtain ⟨g84, g85, c86⟩ := hg87
                refine lv_iload hx hb dX12_questions_107 (lv_at hl 4 rfl) ?_
                refine lv_iload hx hb dX12_questions_109 (lv_at hl 5 rfl) ?_
                refine lv_iload hx hb dX12_questions_111 (lv_at hl 6 rfl) ?_
                refine lv_iconst (v := 1) hx hb dX12_questions_113 (by decide) ?_
                refine lv_icmp_ne (tgt := 121) hx hb dX12_questions_114 (by decide) (fun c88 => ?_) (fun c88 => ?_)
                · have c88 : ¬ v93_6.toInt = (1 : Int) := wk_eqF c88
                  refine lv_iconst (v := 0) hx hb dX12_questions_121 (by decide) ?_
                  refine lv_iload_n hx hb dX12_questions_122 rfl (lv_at hl 2 rfl) ?_
                  refine tk_Vv hC hK hw hT hA hE hSR kM_at0 (by decide) rfl (k_X12_leads_1 l adK adV dC dI cy ad B (by omega) (by omega) qr s1   a1 (show 0 ≤ a1.toInt by omega) (show a1.toInt ≤ 3 by omega) r80 (show 0 ≤ r80.toInt by omega) (show r80.toInt ≤ 1073741824 by omega) v70_4 (show 0 ≤ v70_4.toInt by omega) (show v70_4.toInt ≤ 120 by omega) v79_5 (show 0 ≤ v79_5.toInt by omega) (show v79_5.toInt ≤ 9 by omega) a2 (show 0 ≤ a2.toInt by omega) (show a2.toInt ≤ 120 by omega) w32 H.size hT ) (cwV 6 hC.2.2.2.2 gX12_questions_X12_leads rfl rfl rfl (by decide +kernel) ⟨Nat.le_of_ble_eq_true rfl, Nat.le_of_ble_eq_true rfl⟩) rfl hl.1 rfl (Nat.le_of_ble_eq_true rfl) dX12_questions_123 (fun w91 H locs hp90 hw => ?_)
                  obtain ⟨hT, k92, hg93⟩ := hp90
                  have hF := hF.tr k92 (by decide)
                  have c94 := k92.gi kM_at12 rfl c46
                  have c95 := k92.gi kM_at12 (by decide) c49
                  have c96 := k92.gi kM_at12 (by decide) c52
                  clear hg93
                  refine lv_aload_n hx hb dX12_questions_126 rfl (lv_at hl 0 rfl) ?_
                  refine tk_getA hC hK hw hT hinX12 kM_at0 (by decide) rfl 34 (by decide) (List.mem_of_getElem? (i := 2) rfl) rfl rfl dX12_questions_127 ?_
                  refine lv_aload_n hx hb dX12_questions_130 rfl (lv_at hl 0 rfl) ?_
                  refine lv_iload hx hb dX12_questions_131 (lv_at hl 4 rfl) ?_
                  refine lv_iload hx hb dX12_questions_133 (lv_at hl 5 rfl) ?_
                  refine lv_iload hx hb dX12_questions_135 (lv_at hl 6 rfl) ?_
                  refine lv_iconst (v := 1) hx hb dX12_questions_137 (by decide) ?_
                  refine lv_icmp_ne (tgt := 145) hx hb dX12_questions_138 (by decide) (fun _ => ?_) (fun c => absurd (show v93_6.toInt = (1 : Int) from wk_eq.mp c) (by omega))
                  refine lv_iconst (v := 0) hx hb dX12_questions_145 (by decide) ?_
                  refine tk_Vi hC hK hw hT hA hE hSR kM_at0 (by decide) rfl (k_X12_placeAt_3 l adK adV dC dI cy ad B (by omega) (by omega) qr s1   v70_4 (show 0 ≤ v70_4.toInt by omega) (show v70_4.toInt ≤ 120 by omega) v79_5 (show 0 ≤ v79_5.toInt by omega) (show v79_5.toInt ≤ 9 by omega) w91 H.size hT ) (cwV 3 hC.2.2.2.2 gX12_questions_X12_placeAt rfl rfl rfl (by decide +kernel) ⟨Nat.le_of_ble_eq_true rfl, Nat.le_of_ble_eq_true rfl⟩) rfl hl.1 rfl (Nat.le_of_ble_eq_true rfl) dX12_questions_146 (fun r97 w99 H locs hp98 hw => ?_)
                  obtain ⟨rfl, hg103⟩ := hp98
                  obtain ⟨g101, g102⟩ := hg103
                  refine tk_iald hC hK hw hT kM_at17 rfl rfl (show 0 ≤ r97.toInt by omega) (show r97.toInt < 2600 by omega) dX12_questions_149 (fun x104 c105 rx104 tx104 => ?_)
                  refine lv_istore (lv' := [(7, .int x104), (0, .ref (ad 0)), (1, .int a1), (2, .int a2), (3, .int v93_3), (4, .int v70_4), (5, .int v79_5), (6, .int v93_6)]) hx hb dX12_questions_150 hl (by decide) rfl (fun ls hl => ?_)
                  refine lv_iload hx hb dX12_questions_152 (lv_at hl 6 rfl) ?_
                  refine lv_aload_n hx hb dX12_questions_154 rfl (lv_at hl 1 rfl) ?_
                  refine lv_iload_n hx hb dX12_questions_155 rfl (lv_at hl 2 rfl) ?_
                  refine lv_iconst (v := 1) hx hb dX12_questions_156 (by decide) ?_
                  refine tk_Vi hC hK hw hT hA hE hSR kM_at0 (by decide) rfl (k_X12_walkerOf_3 l adK adV dC dI cy ad B (by omega) (by omega) qr s1   a1 (show 0 ≤ a1.toInt by omega) (show a1.toInt ≤ 3 by omega) w91 H.size hT ) (cwV 2 hC.2.2.2.2 gX12_questions_X12_walkerOf rfl rfl rfl (by decide +kernel) ⟨Nat.le_of_ble_eq_true rfl, Nat.le_of_ble_eq_true rfl⟩) rfl hl.1 rfl (Nat.le_of_ble_eq_true rfl) dX12_questions_157 (fun r106 w108 H locs hp107 hw => ?_)
                  obtain ⟨rfl, hg113⟩ := hp107
                  obtain ⟨g110, g111, c112⟩ := hg113
                  refine lv_icmp_ne (tgt := 174) hx hb dX12_questions_160 (by decide) (fun c114 => ?_) (fun c114 => ?_)
                  · have c114 : ¬ v79_5.toInt = r106.toInt := wk_eqF c114
                    exact J174 x104 r106 H locs ls w91 (show 0 ≤ a1.toInt by omega) (show a1.toInt ≤ 3 by omega) (show 0 ≤ a2.toInt by omega) (show a2.toInt ≤ 120 by omega) (show v93_3.toInt ≤ 100000000 by omega) (show 0 ≤ v70_4.toInt by omega) (show v70_4.toInt ≤ 120 by omega) (show 0 ≤ v79_5.toInt by omega) (show v79_5.toInt ≤ 9 by omega) (show 0 ≤ v93_6.toInt by omega) (show v93_6.toInt ≤ 1 by omega) (show 0 ≤ f70_12__9_a1_toInt_216_toNat.toInt by omega) (show f70_12__9_a1_toInt_216_toNat.toInt ≤ 9 by omega) (show 0 ≤ r106.toInt by omega) (show r106.toInt ≤ 9 by omega) (show 1 ≤ f93_12_0.toInt by omega) (show f93_12_0.toInt ≤ 10 by omega) (show 1 ≤ f70_12_5.toInt by omega) (show f70_12_5.toInt ≤ 4 by omega)  hw hT hF c94 c112 c95 c96 (lv_sub hl [1, 2, 3, 4, 5, 6, 7, 0] rfl)
                  · have c114 : v79_5.toInt = r106.toInt := wk_eq.mp c114
                    refine lv_iload hx hb dX12_questions_163 (lv_at hl 0 rfl) ?_
                    refine lv_iload_n hx hb dX12_questions_165 rfl (lv_at hl 4 rfl) ?_
                    refine lv_icmp_ge (tgt := 174) hx hb dX12_questions_166 (by decide) (fun c115 => ?_) (fun c115 => ?_)
                    · have c115 : v93_3.toInt ≤ x104.toInt := wk_le.mp c115
                      exact J174 x104 r106 H locs ls w91 (show 0 ≤ a1.toInt by omega) (show a1.toInt ≤ 3 by omega) (show 0 ≤ a2.toInt by omega) (show a2.toInt ≤ 120 by omega) (show v93_3.toInt ≤ 100000000 by omega) (show 0 ≤ v70_4.toInt by omega) (show v70_4.toInt ≤ 120 by omega) (show 0 ≤ v79_5.toInt by omega) (show v79_5.toInt ≤ 9 by omega) (show 0 ≤ v93_6.toInt by omega) (show v93_6.toInt ≤ 1 by omega) (show 0 ≤ f70_12__9_a1_toInt_216_toNat.toInt by omega) (show f70_12__9_a1_toInt_216_toNat.toInt ≤ 9 by omega) (show 0 ≤ r106.toInt by omega) (show r106.toInt ≤ 9 by omega) (show 1 ≤ f93_12_0.toInt by omega) (show f93_12_0.toInt ≤ 10 by omega) (show 1 ≤ f70_12_5.toInt by omega) (show f70_12_5.toInt ≤ 4 by omega)  hw hT hF c94 c112 c95 c96 (lv_sub hl [1, 2, 3, 4, 5, 6, 7, 0] rfl)
                    · have c115 : x104.toInt < v93_3.toInt := wk_leF c115
                      refine lv_iload hx hb dX12_questions_169 (lv_at hl 0 rfl) ?_
                      refine lv_goto (tgt := 175) hx hb dX12_questions_171 (by decide) ?_
                      refine lv_istore_n (lv' := [(3, .int x104), (7, .int x104), (0, .ref (ad 0)), (1, .int a1), (2, .int a2), (4, .int v70_4), (5, .int v79_5), (6, .int v93_6)]) hx hb dX12_questions_175 rfl hl (by decide) rfl (fun ls hl => ?_)
                      obtain ⟨x116, ex116⟩ : ∃ y : Int32, y = v93_6 + Int32.ofInt 1 := ⟨_, rfl⟩
                      refine lv_iinc (v := x116) (lv' := [(6, .int x116), (3, .int x104), (7, .int x104), (0, .ref (ad 0)), (1, .int a1), (2, .int a2), (4, .int v70_4), (5, .int v79_5)]) hx hb dX12_questions_176 hl (k := 7) rfl ex116.symm (by decide) rfl (fun ls hl => ?_)
                      have ex116 : x116.toInt = v93_6.toInt + 1 := by rw [ex116]; exact wk_add (y := 1) (show -2147483648 ≤ v93_6.toInt + 1 by omega) (show v93_6.toInt + 1 ≤ 2147483647 by omega)
                      refine lv_goto (tgt := 93) hx hb dX12_questions_179 (by decide) ?_
                      exact ih93 x104 x116 f93_12_0 H locs ls w91 (show 0 ≤ a1.toInt by omega) (show a1.toInt ≤ 3 by omega) (show 0 ≤ a2.toInt by omega) (show a2.toInt ≤ 120 by omega) (show x104.toInt ≤ 100000000 by omega) (show 0 ≤ v70_4.toInt by omega) (show v70_4.toInt ≤ 120 by omega) (show 0 ≤ v79_5.toInt by omega) (show v79_5.toInt ≤ 9 by omega) (show 0 ≤ x116.toInt by omega) (show x116.toInt ≤ 2 by omega) (show 0 ≤ f70_12__9_a1_toInt_216_toNat.toInt by omega) (show f70_12__9_a1_toInt_216_toNat.toInt ≤ 9 by omega) (show 1 ≤ f93_12_0.toInt by omega) (show f93_12_0.toInt ≤ 10 by omega) (show 1 ≤ f70_12_5.toInt by omega) (show f70_12_5.toInt ≤ 4 by omega) (show (2 - x116.toInt).toNat < n93 by omega) hw hT hF c94 c95 c96 (lv_sub hl [3, 4, 5, 1, 6, 7, 0] rfl)
                · have c88 : v93_6.toInt = (1 : Int) := wk_eq.mp c88
                  refine lv_iconst (v := 1) hx hb dX12_questions_117 (by decide) ?_
                  refine lv_goto (tgt := 122) hx hb dX12_questions_118 (by decide) ?_
                  refine lv_iload_n hx hb dX12_questions_122 rfl (lv_at hl 2 rfl) ?_
                  refine tk_Vv hC hK hw hT hA hE hSR kM_at0 (by decide) rfl (k_X12_leads_2 l adK adV dC dI cy ad B (by omega) (by omega) qr s1   a1 (show 0 ≤ a1.toInt by omega) (show a1.toInt ≤ 3 by omega) r80 (show 0 ≤ r80.toInt by omega) (show r80.toInt ≤ 1073741824 by omega) v70_4 (show 0 ≤ v70_4.toInt by omega) (show v70_4.toInt ≤ 120 by omega) v79_5 (show 0 ≤ v79_5.toInt by omega) (show v79_5.toInt ≤ 9 by omega) a2 (show 0 ≤ a2.toInt by omega) (show a2.toInt ≤ 120 by omega) w32 H.size hT ) (cwV 6 hC.2.2.2.2 gX12_questions_X12_leads rfl rfl rfl (by decide +kernel) ⟨Nat.le_of_ble_eq_true rfl, Nat.le_of_ble_eq_true rfl⟩) rfl hl.1 rfl (Nat.le_of_ble_eq_true rfl) dX12_questions_123 (fun w119 H locs hp118 hw => ?_)
                  obtain ⟨hT, k120, hg121⟩ := hp118
                  have hF := hF.tr k120 (by decide)
                  have c122 := k120.gi kM_at12 rfl c46
                  have c123 := k120.gi kM_at12 (by decide) c49
                  have c124 := k120.gi kM_at12 (by decide) c52
                  clear hg121
                  refine lv_aload_n hx hb dX12_questions_126 rfl (lv_at hl 0 rfl) ?_
                  refine tk_getA hC hK hw hT hinX12 kM_at0 (by decide) rfl 34 (by decide) (List.mem_of_getElem? (i := 2) rfl) rfl rfl dX12_questions_127 ?_
                  refine lv_aload_n hx hb dX12_questions_130 rfl (lv_at hl 0 rfl) ?_
                  refine lv_iload hx hb dX12_questions_131 (lv_at hl 4 rfl) ?_
                  refine lv_iload hx hb dX12_questions_133 (lv_at hl 5 rfl) ?_
                  refine lv_iload hx hb dX12_questions_135 (lv_at hl 6 rfl) ?_
                  refine lv_iconst (v := 1) hx hb dX12_questions_137 (by decide) ?_
                  refine lv_icmp_ne (tgt := 145) hx hb dX12_questions_138 (by decide) (fun c => (c (wk_eq.mpr (show v93_6.toInt = (1 : Int) by omega))).elim) (fun _ => ?_)
                  refine lv_iconst (v := 1) hx hb dX12_questions_141 (by decide) ?_
                  refine lv_goto (tgt := 146) hx hb dX12_questions_142 (by decide) ?_
                  refine tk_Vi hC hK hw hT hA hE hSR kM_at0 (by decide) rfl (k_X12_placeAt_6 l adK adV dC dI cy ad B (by omega) (by omega) qr s1   v70_4 (show 0 ≤ v70_4.toInt by omega) (show v70_4.toInt ≤ 120 by omega) v79_5 (show 0 ≤ v79_5.toInt by omega) (show v79_5.toInt ≤ 9 by omega) w119 H.size hT ) (cwV 3 hC.2.2.2.2 gX12_questions_X12_placeAt rfl rfl rfl (by decide +kernel) ⟨Nat.le_of_ble_eq_true rfl, Nat.le_of_ble_eq_true rfl⟩) rfl hl.1 rfl (Nat.le_of_ble_eq_true rfl) dX12_questions_146 (fun r125 w127 H locs hp126 hw => ?_)
                  obtain ⟨rfl, hg131⟩ := hp126
                  obtain ⟨g129, g130⟩ := hg131
                  refine tk_iald hC hK hw hT kM_at17 rfl rfl (show 0 ≤ r125.toInt by omega) (show r125.toInt < 2600 by omega) dX12_questions_149 (fun x132 c133 rx132 tx132 => ?_)
                  refine lv_istore (lv' := [(7, .int x132), (0, .ref (ad 0)), (1, .int a1), (2, .int a2), (3, .int v93_3), (4, .int v70_4), (5, .int v79_5), (6, .int v93_6)]) hx hb dX12_questions_150 hl (by decide) rfl (fun ls hl => ?_)
                  refine lv_iload hx hb dX12_questions_152 (lv_at hl 6 rfl) ?_
                  refine lv_aload_n hx hb dX12_questions_154 rfl (lv_at hl 1 rfl) ?_
                  refine lv_iload_n hx hb dX12_questions_155 rfl (lv_at hl 2 rfl) ?_
                  refine lv_iconst (v := 1) hx hb dX12_questions_156 (by decide) ?_
                  refine tk_Vi hC hK hw hT hA hE hSR kM_at0 (by decide) rfl (k_X12_walkerOf_3 l adK adV dC dI cy ad B (by omega) (by omega) qr s1   a1 (show 0 ≤ a1.toInt by omega) (show a1.toInt ≤ 3 by omega) w119 H.size hT ) (cwV 2 hC.2.2.2.2 gX12_questions_X12_walkerOf rfl rfl rfl (by decide +kernel) ⟨Nat.le_of_ble_eq_true rfl, Nat.le_of_ble_eq_true rfl⟩) rfl hl.1 rfl (Nat.le_of_ble_eq_true rfl) dX12_questions_157 (fun r134 w136 H locs hp135 hw => ?_)
                  obtain ⟨rfl, hg141⟩ := hp135
                  obtain ⟨g138, g139, c140⟩ := hg141
                  refine lv_icmp_ne (tgt := 174) hx hb dX12_questions_160 (by decide) (fun c142 => ?_) (fun c142 => ?_)
                  · have c142 : ¬ v79_5.toInt = r134.toInt := wk_eqF c142
                    exact J174 x132 r134 H locs ls w119 (show 0 ≤ a1.toInt by omega) (show a1.toInt ≤ 3 by omega) (show 0 ≤ a2.toInt by omega) (show a2.toInt ≤ 120 by omega) (show v93_3.toInt ≤ 100000000 by omega) (show 0 ≤ v70_4.toInt by omega) (show v70_4.toInt ≤ 120 by omega) (show 0 ≤ v79_5.toInt by omega) (show v79_5.toInt ≤ 9 by omega) (show 0 ≤ v93_6.toInt by omega) (show v93_6.toInt ≤ 1 by omega) (show 0 ≤ f70_12__9_a1_toInt_216_toNat.toInt by omega) (show f70_12__9_a1_toInt_216_toNat.toInt ≤ 9 by omega) (show 0 ≤ r134.toInt by omega) (show r134.toInt ≤ 9 by omega) (show 1 ≤ f93_12_0.toInt by omega) (show f93_12_0.toInt ≤ 10 by omega) (show 1 ≤ f70_12_5.toInt by omega) (show f70_12_5.toInt ≤ 4 by omega)  hw hT hF c122 c140 c123 c124 (lv_sub hl [1, 2, 3, 4, 5, 6, 7, 0] rfl)
                  · have c142 : v79_5.toInt = r134.toInt := wk_eq.mp c142
                    refine lv_iload hx hb dX12_questions_163 (lv_at hl 0 rfl) ?_
                    refine lv_iload_n hx hb dX12_questions_165 rfl (lv_at hl 4 rfl) ?_
                    refine lv_icmp_ge (tgt := 174) hx hb dX12_questions_166 (by decide) (fun c143 => ?_) (fun c143 => ?_)
                    · have c143 : v93_3.toInt ≤ x132.toInt := wk_le.mp c143
                      exact J174 x132 r134 H locs ls w119 (show 0 ≤ a1.toInt by omega) (show a1.toInt ≤ 3 by omega) (show 0 ≤ a2.toInt by omega) (show a2.toInt ≤ 120 by omega) (show v93_3.toInt ≤ 100000000 by omega) (show 0 ≤ v70_4.toInt by omega) (show v70_4.toInt ≤ 120 by omega) (show 0 ≤ v79_5.toInt by omega) (show v79_5.toInt ≤ 9 by omega) (show 0 ≤ v93_6.toInt by omega) (show v93_6.toInt ≤ 1 by omega) (show 0 ≤ f70_12__9_a1_toInt_216_toNat.toInt by omega) (show f70_12__9_a1_toInt_216_toNat.toInt ≤ 9 by omega) (show 0 ≤ r134.toInt by omega) (show r134.toInt ≤ 9 by omega) (show 1 ≤ f93_12_0.toInt by omega) (show f93_12_0.toInt ≤ 10 by omega) (show 1 ≤ f70_12_5.toInt by omega) (show f70_12_5.toInt ≤ 4 by omega)  hw hT hF c122 c140 c123 c124 (lv_sub hl [1, 2, 3, 4, 5, 6, 7, 0] rfl)
                    · have c143 : x132.toInt < v93_3.toInt := wk_leF c143
                      refine lv_iload hx hb dX12_questions_169 (lv_at hl 0 rfl) ?_
                      refine lv_goto (tgt := 175) hx hb dX12_questions_171 (by decide) ?_
                      refine lv_istore_n (lv' := [(3, .int x132), (7, .int x132), (0, .ref (ad 0)), (1, .int a1), (2, .int a2), (4, .int v70_4), (5, .int v79_5), (6, .int v93_6)]) hx hb dX12_questions_175 rfl hl (by decide) rfl (fun ls hl => ?_)
                      obtain ⟨x144, ex144⟩ : ∃ y : Int32, y = v93_6 + Int32.ofInt 1 := ⟨_, rfl⟩
                      refine lv_iinc (v := x144) (lv' := [(6, .int x144), (3, .int x132), (7, .int x132), (0, .ref (ad 0)), (1, .int a1), (2, .int a2), (4, .int v70_4), (5, .int v79_5)]) hx hb dX12_questions_176 hl (k := 7) rfl ex144.symm (by decide) rfl (fun ls hl => ?_)
                      have ex144 : x144.toInt = v93_6.toInt + 1 := by rw [ex144]; exact wk_add (y := 1) (show -2147483648 ≤ v93_6.toInt + 1 by omega) (show v93_6.toInt + 1 ≤ 2147483647 by omega)
                      refine lv_goto (tgt := 93) hx hb dX12_questions_179 (by decide) ?_
                      exact ih93 x132 x144 f93_12_0 H locs ls w119 (show 0 ≤ a1.toInt by omega) (show a1.toInt ≤ 3 by omega) (show 0 ≤ a2.toInt by omega) (show a2.toInt ≤ 120 by omega) (show x132.toInt ≤ 100000000 by omega) (show 0 ≤ v70_4.toInt by omega) (show v70_4.toInt ≤ 120 by omega) (show 0 ≤ v79_5.toInt by omega) (show v79_5.toInt ≤ 9 by omega) (show 0 ≤ x144.toInt by omega) (show x144.toInt ≤ 2 by omega) (show 0 ≤ f70_12__9_a1_toInt_216_toNat.toInt by omega) (show f70_12__9_a1_toInt_216_toNat.toInt ≤ 9 by omega) (show 1 ≤ f93_12_0.toInt by omega) (show f93_12_0.toInt ≤ 10 by omega) (show 1 ≤ f70_12_5.toInt by omega) (show f70_12_5.toInt ≤ 4 by omega) (show (2 - x144.toInt).toNat < n93 by omega) hw hT hF c122 c123 c124 (lv_sub hl [3, 4, 5, 1, 6, 7, 0] rfl)
          refine lv_iload hx hb dX12_questions_79 (lv_at hl 5 rfl) ?_
          refine lv_aload_n hx hb dX12_questions_81 rfl (lv_at hl 0 rfl) ?_
          refine tk_getA hC hK hw hT hinX12 kM_at0 (by decide) rfl 26 (by decide) (List.mem_of_getElem? (i := 4) rfl) rfl rfl dX12_questions_82 ?_
          refine lv_iconst (v := 0) hx hb dX12_questions_85 (by decide) ?_
          refine tk_ialdR hC hK hw hT kM_at12 rfl (by decide) (by decide) dX12_questions_86 (fun x145 c146 Ex145 => ?_)
          have bx145 := tk_rgI rfl 0 1 1 0 10 (by decide +kernel) ⟨0, by decide, by decide⟩ Ex145
          have c146 : gi w16 12 0 = x145 := c146
          refine lv_icmp_ge (tgt := 188) hx hb dX12_questions_87 (by decide) (fun c147 => ?_) (fun c147 => ?_)
          · have c147 : x145.toInt ≤ v79_5.toInt := wk_le.mp c147
            obtain ⟨x148, ex148⟩ : ∃ y : Int32, y = v70_4 + Int32.ofInt 1 := ⟨_, rfl⟩
            refine lv_iinc (v := x148) (lv' := [(4, .int x148), (0, .ref (ad 0)), (1, .int a1), (2, .int a2), (3, .int v79_3), (5, .int v79_5)]) hx hb dX12_questions_188 hl (k := 4) rfl ex148.symm (by decide) rfl (fun ls hl => ?_)
            have ex148 : x148.toInt = v70_4.toInt + 1 := by rw [ex148]; exact wk_add (y := 1) (show -2147483648 ≤ v70_4.toInt + 1 by omega) (show v70_4.toInt + 1 ≤ 2147483647 by omega)
            refine lv_goto (tgt := 70) hx hb dX12_questions_191 (by decide) ?_
            exact ih70 v79_3 x148 f70_12__9_a1_toInt_216_toNat f70_12_5 H locs ls w16 (show 0 ≤ a1.toInt by omega) (show a1.toInt ≤ 3 by omega) (show 0 ≤ a2.toInt by omega) (show a2.toInt ≤ 120 by omega) (show v79_3.toInt ≤ 100000000 by omega) (show 0 ≤ x148.toInt by omega) (show x148.toInt ≤ 121 by omega) (show 0 ≤ f70_12__9_a1_toInt_216_toNat.toInt by omega) (show f70_12__9_a1_toInt_216_toNat.toInt ≤ 9 by omega) (show 1 ≤ f70_12_5.toInt by omega) (show f70_12_5.toInt ≤ 4 by omega) (show (121 - x148.toInt).toNat < n70 by omega) hw hT hF c28 c31 (lv_sub hl [1, 2, 3, 4, 0] rfl)
          · have c147 : v79_5.toInt < x145.toInt := wk_leF c147
            refine lv_iconst (v := 0) hx hb dX12_questions_90 (by decide) ?_
            refine lv_istore (lv' := [(6, .int 0), (0, .ref (ad 0)), (1, .int a1), (2, .int a2), (3, .int v79_3), (4, .int v70_4), (5, .int v79_5)]) hx hb dX12_questions_91 hl (by decide) rfl (fun ls hl => ?_)
            exact L93 ((2 - (0 : Int)).toNat + 1) v79_3 0 x145 H locs ls w16 (show 0 ≤ a1.toInt by omega) (show a1.toInt ≤ 3 by omega) (show 0 ≤ a2.toInt by omega) (show a2.toInt ≤ 120 by omega) (show v79_3.toInt ≤ 100000000 by omega) (show 0 ≤ v70_4.toInt by omega) (show v70_4.toInt ≤ 120 by omega) (show 0 ≤ v79_5.toInt by omega) (show v79_5.toInt ≤ 9 by omega) (by decide) (by decide) (show 0 ≤ f70_12__9_a1_toInt_216_toNat.toInt by omega) (show f70_12__9_a1_toInt_216_toNat.toInt ≤ 9 by omega) (show 1 ≤ x145.toInt by omega) (show x145.toInt ≤ 10 by omega) (show 1 ≤ f70_12_5.toInt by omega) (show f70_12_5.toInt ≤ 4 by omega) (Nat.lt_succ_self _) hw hT hF c28 c146 c31 (lv_sub hl [1, 2, 3, 4, 5, 6, 0] rfl)
      refine lv_iload hx hb dX12_questions_70 (lv_at hl 4 rfl) ?_
      refine lv_iload_n hx hb dX12_questions_72 rfl (lv_at hl 2 rfl) ?_
      refine lv_icmp_gt (tgt := 194) hx hb dX12_questions_73 (by decide) (fun c149 => ?_) (fun c149 => ?_)
      · have c149 : a2.toInt < v70_4.toInt := wk_lt.mp c149
        refine lv_iload_n hx hb dX12_questions_194 rfl (lv_at hl 3 rfl) ?_
        refine lv_ldcw (v := 100000000) hx hb hC.2.2.2.1 (hC.2.2.2.2 _ (List.mem_of_getElem? (i := 3) rfl)) dX12_questions_195 ?_
        refine lv_icmp_ne (tgt := 206) hx hb dX12_questions_198 (by decide) (fun c150 => ?_) (fun c150 => ?_)
        · have c150 : ¬ v70_3.toInt = (100000000 : Int) := wk_eqF c150
          refine lv_iload_n hx hb dX12_questions_206 rfl (lv_at hl 3 rfl) ?_
          exact tk_iret hC hr hlocks hK ⟨hT, hF, (Or.inl ⟨(show v70_3.toInt ≤ 99999999 by omega), (show 0 ≤ a1.toInt by omega), (show a1.toInt ≤ 3 by omega), (show 0 ≤ a2.toInt by omega), (show a2.toInt ≤ 120 by omega), ⟨f70_12_5, c15, (show 1 ≤ f70_12_5.toInt by omega), (show f70_12_5.toInt ≤ 4 by omega)⟩⟩)⟩ hw dX12_questions_207
        · have c150 : v70_3.toInt = (100000000 : Int) := wk_eq.mp c150
          refine lv_bipush (v := (-2)) hx hb dX12_questions_201 (by decide) ?_
          refine lv_goto (tgt := 207) hx hb dX12_questions_203 (by decide) ?_
          exact tk_iret hC hr hlocks hK ⟨hT, hF, (Or.inr (Or.inl ⟨rfl, (show 0 ≤ a1.toInt by omega), (show a1.toInt ≤ 3 by omega), (show 0 ≤ a2.toInt by omega), (show a2.toInt ≤ 120 by omega), ⟨f70_12_5, c15, (show 1 ≤ f70_12_5.toInt by omega), (show f70_12_5.toInt ≤ 4 by omega)⟩⟩))⟩ hw dX12_questions_207
      · have c149 : v70_4.toInt ≤ a2.toInt := wk_ltF c149
        refine lv_iconst (v := 0) hx hb dX12_questions_76 (by decide) ?_
        refine lv_istore (lv' := [(5, .int 0), (0, .ref (ad 0)), (1, .int a1), (2, .int a2), (3, .int v70_3), (4, .int v70_4)]) hx hb dX12_questions_77 hl (by decide) rfl (fun ls hl => ?_)
        exact L79 ((10 - (0 : Int)).toNat + 1) v70_3 0 H locs ls w2 (show 0 ≤ a1.toInt by omega) (show a1.toInt ≤ 3 by omega) (show 0 ≤ a2.toInt by omega) (show a2.toInt ≤ 120 by omega) (show v70_3.toInt ≤ 100000000 by omega) (show 0 ≤ v70_4.toInt by omega) (show v70_4.toInt ≤ 120 by omega) (by decide) (by decide) (show 0 ≤ f70_12__9_a1_toInt_216_toNat.toInt by omega) (show f70_12__9_a1_toInt_216_toNat.toInt ≤ 9 by omega) (show 1 ≤ f70_12_5.toInt by omega) (show f70_12_5.toInt ≤ 4 by omega) (Nat.lt_succ_self _) hw hT hF c12 c15 (lv_sub hl [1, 2, 3, 4, 5, 0] rfl)
  have L24 : ∀ (n24 : Nat) (v24_3 : Int32) (f24_12_5 : Int32) (H : Heap) (locs : List Loc) (ls : Array Slot) (w151 : va_W), 0 ≤ a1.toInt → a1.toInt ≤ 3 → 0 ≤ a2.toInt → a2.toInt ≤ 120 → 0 ≤ v24_3.toInt → v24_3.toInt ≤ 2600 → 1 ≤ f24_12_5.toInt → f24_12_5.toInt ≤ 4 → (2600 - v24_3.toInt).toNat < n24 → Wd dC dI A s.heap H locs w151 → TW ksM ad cy B qr 12 w151 → FE ksM [(72, 0, 12), (73, 0, 10), (76, 0, 2600)] w0 w151 → gi w151 12 5 = f24_12_5 → lv_has ls 8 [(0, .ref (ad 0)), (1, .int a1), (2, .int a2), (3, .int v24_3)] → W p l e ({ frames := 6, cells := 0, slots := 0, locals := 134 }) s m (List.toArray [.ref (ad 0), .int a1, .int a2]) below meth c H locs 0 0 (MQ below (va_Qi (P_X12_questions_1 ad cy B qr s1 a1 a2 w0) (fun u : va_W => wpost dC dI cy A u) A) (List.toArray [.ref (ad 0), .int a1, .int a2]) s 0 0 A) (F0 m 24 ls []) := by
    intro n24
    induction n24 with
    | zero => intro v24_3 f24_12_5 H locs ls w151 r152 t153 r154 t155 r156 t157 r158 t159 hm24 hw hT hF c160 hl; omega
    | succ n24 ih24 =>
      intro v24_3 f24_12_5 H locs ls w151 r152 t153 r154 t155 r156 t157 r158 t159 hm24 hw hT hF c160 hl
      refine lv_iload_n hx hb dX12_questions_24 rfl (lv_at hl 3 rfl) ?_
      refine lv_sipush (v := 2600) hx hb dX12_questions_25 (by decide) ?_
      refine lv_icmp_ge (tgt := 46) hx hb dX12_questions_28 (by decide) (fun c161 => ?_) (fun c161 => ?_)
      · have c161 : (2600 : Int) ≤ v24_3.toInt := wk_le.mp c161
        refine lv_aload_n hx hb dX12_questions_46 rfl (lv_at hl 0 rfl) ?_
        refine lv_iconst (v := 0) hx hb dX12_questions_47 (by decide) ?_
        refine lv_aload_n hx hb dX12_questions_48 rfl (lv_at hl 0 rfl) ?_
        refine lv_iload_n hx hb dX12_questions_49 rfl (lv_at hl 1 rfl) ?_
        refine lv_iconst (v := 0) hx hb dX12_questions_50 (by decide) ?_
        refine tk_Vi hC hK hw hT hA hE hSR kM_at0 (by decide) rfl (k_X12_walkerOf_2 l adK adV dC dI cy ad B (by omega) (by omega) qr s1   a1 (show 0 ≤ a1.toInt by omega) (show a1.toInt ≤ 3 by omega) w151 H.size hT ) (cwV 2 hC.2.2.2.2 gX12_questions_X12_walkerOf rfl rfl rfl (by decide +kernel) ⟨Nat.le_of_ble_eq_true rfl, Nat.le_of_ble_eq_true rfl⟩) rfl hl.1 rfl (Nat.le_of_ble_eq_true rfl) dX12_questions_51 (fun r162 w164 H locs hp163 hw => ?_)
        obtain ⟨rfl, hg169⟩ := hp163
        obtain ⟨g166, g167, c168⟩ := hg169
        refine lv_aload_n hx hb dX12_questions_54 rfl (lv_at hl 0 rfl) ?_
        refine lv_iload_n hx hb dX12_questions_55 rfl (lv_at hl 1 rfl) ?_
        refine tk_Vi hC hK hw hT hA hE hSR kM_at0 (by decide) rfl (k_X12_askedToday_1 l adK adV dC dI cy ad B (by omega) (by omega) qr s1   a1 (show 0 ≤ a1.toInt by omega) (show a1.toInt ≤ 3 by omega) w151 H.size hT ) (cwV 1 hC.2.2.2.2 gX12_questions_X12_askedToday rfl rfl rfl (by decide +kernel) ⟨Nat.le_of_ble_eq_true rfl, Nat.le_of_ble_eq_true rfl⟩) rfl hl.1 rfl (Nat.le_of_ble_eq_true rfl) dX12_questions_56 (fun r170 w172 H locs hp171 hw => ?_)
        obtain ⟨rfl, hg174⟩ := hp171
        rcases hg174 with rfl | rfl
        · refine lv_iconst (v := 0) hx hb dX12_questions_59 (by decide) ?_
          refine tk_Vv hC hK hw hT hA hE hSR kM_at0 (by decide) rfl (k_X12_could_1 l adK adV dC dI cy ad B (by omega) (by omega) qr s1   r162 (show 0 ≤ r162.toInt by omega) (show r162.toInt ≤ 9 by omega) w151 H.size hT ) (cwV 4 hC.2.2.2.2 gX12_questions_X12_could rfl rfl rfl (by decide +kernel) ⟨Nat.le_of_ble_eq_true rfl, Nat.le_of_ble_eq_true rfl⟩) rfl hl.1 rfl (Nat.le_of_ble_eq_true rfl) dX12_questions_60 (fun w177 H locs hp176 hw => ?_)
          obtain ⟨hT, k178, hg179⟩ := hp176
          have hF := hF.tr k178 (by decide)
          have c180 := k178.gi kM_at12 (by decide) c160
          have c181 := k178.gi kM_at12 rfl c168
          clear hg179
          refine lv_ldcw (v := 100000000) hx hb hC.2.2.2.1 (hC.2.2.2.2 _ (List.mem_of_getElem? (i := 3) rfl)) dX12_questions_63 ?_
          refine lv_istore_n (lv' := [(3, .int 100000000), (0, .ref (ad 0)), (1, .int a1), (2, .int a2)]) hx hb dX12_questions_66 rfl hl (by decide) rfl (fun ls hl => ?_)
          refine lv_iconst (v := 0) hx hb dX12_questions_67 (by decide) ?_
          refine lv_istore (lv' := [(4, .int 0), (3, .int 100000000), (0, .ref (ad 0)), (1, .int a1), (2, .int a2)]) hx hb dX12_questions_68 hl (by decide) rfl (fun ls hl => ?_)
          exact L70 ((121 - (0 : Int)).toNat + 1) 100000000 0 r162 f24_12_5 H locs ls w177 (show 0 ≤ a1.toInt by omega) (show a1.toInt ≤ 3 by omega) (show 0 ≤ a2.toInt by omega) (show a2.toInt ≤ 120 by omega) (by decide) (by decide) (by decide) (show 0 ≤ r162.toInt by omega) (show r162.toInt ≤ 9 by omega) (show 1 ≤ f24_12_5.toInt by omega) (show f24_12_5.toInt ≤ 4 by omega) (Nat.lt_succ_self _) hw hT hF c181 c180 (lv_sub hl [2, 3, 4, 1, 0] rfl)
        · refine lv_iconst (v := 0) hx hb dX12_questions_59 (by decide) ?_
          refine tk_Vv hC hK hw hT hA hE hSR kM_at0 (by decide) rfl (k_X12_could_2 l adK adV dC dI cy ad B (by omega) (by omega) qr s1   r162 (show 0 ≤ r162.toInt by omega) (show r162.toInt ≤ 9 by omega) w151 H.size hT ) (cwV 4 hC.2.2.2.2 gX12_questions_X12_could rfl rfl rfl (by decide +kernel) ⟨Nat.le_of_ble_eq_true rfl, Nat.le_of_ble_eq_true rfl⟩) rfl hl.1 rfl (Nat.le_of_ble_eq_true rfl) dX12_questions_60 (fun w184 H locs hp183 hw => ?_)
          obtain ⟨hT, k185, hg186⟩ := hp183
          have hF := hF.tr k185 (by decide)
          have c187 := k185.gi kM_at12 (by decide) c160
          have c188 := k185.gi kM_at12 rfl c168
          clear hg186
          refine lv_ldcw (v := 100000000) hx hb hC.2.2.2.1 (hC.2.2.2.2 _ (List.mem_of_getElem? (i := 3) rfl)) dX12_questions_63 ?_
          refine lv_istore_n (lv' := [(3, .int 100000000), (0, .ref (ad 0)), (1, .int a1), (2, .int a2)]) hx hb dX12_questions_66 rfl hl (by decide) rfl (fun ls hl => ?_)
          refine lv_iconst (v := 0) hx hb dX12_questions_67 (by decide) ?_
          refine lv_istore (lv' := [(4, .int 0), (3, .int 100000000), (0, .ref (ad 0)), (1, .int a1), (2, .int a2)]) hx hb dX12_questions_68 hl (by decide) rfl (fun ls hl => ?_)
          exact L70 ((121 - (0 : Int)).toNat + 1) 100000000 0 r162 f24_12_5 H locs ls w184 (show 0 ≤ a1.toInt by omega) (show a1.toInt ≤ 3 by omega) (show 0 ≤ a2.toInt by omega) (show a2.toInt ≤ 120 by omega) (by decide) (by decide) (by decide) (show 0 ≤ r162.toInt by omega) (show r162.toInt ≤ 9 by omega) (show 1 ≤ f24_12_5.toInt by omega) (show f24_12_5.toInt ≤ 4 by omega) (Nat.lt_succ_self _) hw hT hF c188 c187 (lv_sub hl [2, 3, 4, 1, 0] rfl)
      · have c161 : v24_3.toInt < (2600 : Int) := wk_leF c161
        refine lv_aload_n hx hb dX12_questions_31 rfl (lv_at hl 0 rfl) ?_
        refine tk_getA hC hK hw hT hinX12 kM_at0 (by decide) rfl 34 (by decide) (List.mem_of_getElem? (i := 2) rfl) rfl rfl dX12_questions_32 ?_
        refine lv_iload_n hx hb dX12_questions_35 rfl (lv_at hl 3 rfl) ?_
        refine lv_ldcw (v := 100000000) hx hb hC.2.2.2.1 (hC.2.2.2.2 _ (List.mem_of_getElem? (i := 3) rfl)) dX12_questions_36 ?_
        refine tk_iast hC hK hw hT kM_at17 (by decide) rfl rfl (show 0 ≤ v24_3.toInt by omega) (show v24_3.toInt < 2600 by omega) (by decide) (by decide) dX12_questions_39 (fun H locs w189 hw hT k191 c190 => ?_)
        have hF := hF.put kM_at17 (inE_of (a := 0) (b := 2600) (by decide) (show 0 ≤ v24_3.toInt.toNat by omega) (show v24_3.toInt.toNat ≤ 2600 by omega)) k191
        have c192 := k191.gi (Or.inl (tk_ne kM_at12 kM_at17 (by decide))) c160
        obtain ⟨x193, ex193⟩ : ∃ y : Int32, y = v24_3 + Int32.ofInt 1 := ⟨_, rfl⟩
        refine lv_iinc (v := x193) (lv' := [(3, .int x193), (0, .ref (ad 0)), (1, .int a1), (2, .int a2)]) hx hb dX12_questions_40 hl (k := 3) rfl ex193.symm (by decide) rfl (fun ls hl => ?_)
        have ex193 : x193.toInt = v24_3.toInt + 1 := by rw [ex193]; exact wk_add (y := 1) (show -2147483648 ≤ v24_3.toInt + 1 by omega) (show v24_3.toInt + 1 ≤ 2147483647 by omega)
        refine lv_goto (tgt := 24) hx hb dX12_questions_43 (by decide) ?_
        exact ih24 x193 f24_12_5 H locs ls w189 (show 0 ≤ a1.toInt by omega) (show a1.toInt ≤ 3 by omega) (show 0 ≤ a2.toInt by omega) (show a2.toInt ≤ 120 by omega) (show 0 ≤ x193.toInt by omega) (show x193.toInt ≤ 2600 by omega) (show 1 ≤ f24_12_5.toInt by omega) (show f24_12_5.toInt ≤ 4 by omega) (show (2600 - x193.toInt).toNat < n24 by omega) hw hT hF c192 (lv_sub hl [1, 2, 3, 0] rfl)
  refine lv_aload_n hx hb dX12_questions_0 rfl (lv_at hl 0 rfl) ?_
  refine lv_iload_n hx hb dX12_questions_1 rfl (lv_at hl 1 rfl) ?_
  refine tk_Vi hC hK hw hT hA hE hSR kM_at0 (by decide) rfl (k_X12_isWalker_1 l adK adV dC dI cy ad B (by omega) (by omega) qr s1   a1 w0 s.heap.size hT ) (cwV 1 hC.2.2.2.2 gX12_questions_X12_isWalker rfl rfl rfl (by decide +kernel) ⟨Nat.le_of_ble_eq_true rfl, Nat.le_of_ble_eq_true rfl⟩) rfl hl.1 rfl (Nat.le_of_ble_eq_true rfl) dX12_questions_2 (fun r194 w196 H locs hp195 hw => ?_)
  obtain ⟨rfl, hg202⟩ := hp195
  rcases hg202 with rfl | ⟨rfl, g198, g199, ⟨x200, c201, rx200, tx200⟩⟩
  · refine lv_if_eq (tgt := 20) hx hb dX12_questions_5 (by decide) (fun _ => ?_) (fun c => absurd (by decide) c)
    exact J20  H locs ls w0   hw hT hF  (lv_sub hl [0, 1, 2] rfl)
  · refine lv_if_eq (tgt := 20) hx hb dX12_questions_5 (by decide) (fun c => absurd c (by decide)) (fun _ => ?_)
    refine lv_iload_n hx hb dX12_questions_8 rfl (lv_at hl 2 rfl) ?_
    refine lv_i2l hx hb dX12_questions_9 rfl ?_
    refine lv_topl (fun x203 ex203 => ?_)
    have ex203 : x203.toInt = a2.toInt := by rw [ex203]; exact wk_i2l _
    have bx203 := wk_i32 a2
    refine lv_lconst (v := 0) hx hb dX12_questions_10 (by decide) ?_
    refine lv_ldc2 (v := 120) hx hb hC.2.2.2.1 (hC.2.2.2.2 _ (List.mem_of_getElem? (i := 1) rfl)) dX12_questions_11 ?_
    refine tk_Si hC hK hw hT hA hE hSR (k_X12_in_17 l adK adV dC dI cy ad B (by omega) (by omega) qr s1   x203 (show (-2147483648) ≤ x203.toInt by omega) (show x203.toInt ≤ 2147483647 by omega) w0 H.size hT ) (va_cwS 3 hC.2.2.2.2 gX12_questions_X12_in rfl rfl rfl (by decide +kernel) ⟨Nat.le_of_ble_eq_true rfl, Nat.le_of_ble_eq_true rfl⟩) rfl hl.1 rfl (Nat.le_of_ble_eq_true rfl) dX12_questions_14 (fun r204 w206 H locs hp205 hw => ?_)
    obtain ⟨rfl, hg210⟩ := hp205
    rcases hg210 with rfl | ⟨rfl, g208, g209⟩
    · refine lv_if_ne (tgt := 22) hx hb dX12_questions_17 (by decide) (fun c => absurd (by decide) c) (fun _ => ?_)
      exact J20  H locs ls w0   hw hT hF  (lv_sub hl [0, 1, 2] rfl)
    · refine lv_if_ne (tgt := 22) hx hb dX12_questions_17 (by decide) (fun _ => ?_) (fun c => absurd c (by decide))
      refine lv_iconst (v := 0) hx hb dX12_questions_22 (by decide) ?_
      refine lv_istore_n (lv' := [(3, .int 0), (0, .ref (ad 0)), (1, .int a1), (2, .int a2)]) hx hb dX12_questions_23 rfl hl (by decide) rfl (fun ls hl => ?_)
      exact L24 ((2600 - (0 : Int)).toNat + 1) 0 x200 H locs ls w0 (show 0 ≤ a1.toInt by omega) (show a1.toInt ≤ 3 by omega) (show 0 ≤ a2.toInt by omega) (show a2.toInt ≤ 120 by omega) (by decide) (by decide) (show 1 ≤ x200.toInt by omega) (show x200.toInt ≤ 4 by omega) (Nat.lt_succ_self _) hw hT hF c201 (lv_sub hl [1, 2, 3, 0] rfl)
abbrev P_X12_cheapOf_1 (ad : Nat → Nat) (cy : Nat → ClassId) (B : Int) (qr : Nat) (s1 : Int) (a1 : Int32) (w0 : va_W) : Int32 → va_W → Prop := fun r u => w0 = u ∧ ((0 ≤ r.toInt ∧ r.toInt ≤ 3))
set_option maxHeartbeats 4000000 in
set_option maxRecDepth 100000 in
theorem k_X12_cheapOf_1 (l : Launch) (adK adV : Nat → Nat) (dC : Nat → ClassId) (dI : Nat → Nat → Nat) (cy : Nat → ClassId) (ad : Nat → Nat) (B : Int) (hB0 : 100000 ≤ B) (hB1 : B ≤ 1073741824) (qr : Nat) (s1 : Int)  (a1 : Int32) (ra1 : 0 ≤ a1.toInt) (ta1 : a1.toInt ≤ 11) (w0 : va_W) (sz : Nat) (hT : TW ksM ad cy B qr 12 w0)  : Met l yX12_cheapOf wsX12_cheapOf ({ frames := 2, cells := 0, slots := 0, locals := 34 }) (va_Pc [.ref (ad 0), .int a1] (wpreS adK adV dC dI cy sz w0)) (va_Qi (P_X12_cheapOf_1 ad cy B qr s1 a1 w0) (fun u : va_W => wpost dC dI cy (va_A w0 sz) u) (va_A w0 sz)) 0 0 (va_A w0 sz) := by
  refine Met.ofW (cc := cX12_cheapOf) (maxL := 7) (ret := (some .int)) (by decide) rfl ?_
  intro p e s m args below meth c s₁ Bk hml hv
  obtain ⟨rfl, ⟨hsz, hP, hK, hD0⟩, hE, hSR⟩ := hv
  have hx := Bk.exec
  have hb := Bk.bytes
  have hr := Bk.returns
  have hlocks := Bk.notSynchronized
  have hC : CallFix p m c cX12_cheapOf 7 s _ wsX12_cheapOf RX12 := ⟨hx, hb, hml, findClass_of_methodNamed Bk.named, atoms_spec (ws := wsX12_cheapOf) Bk.pre⟩
  subst hsz
  have hD := hD0.self (sz := s.heap.size)
  generalize hAe : va_A w0 s.heap.size = A at hD hE ⊢
  have hA : ∀ q : Nat, s.heap.size ≤ q → A q := fun q h => by rw [← hAe]; exact Or.inr h
  have hw : Wd dC dI A s.heap s.heap [] w0 := ⟨hP, hD, va_S.rf⟩
  have hF : FE ksM ([] : List (Nat × Nat × Nat)) w0 w0 := FE.rf
  have hl := lv_entry ([.ref (ad 0), .int a1]) (n := 7) (Nat.le_of_ble_eq_true rfl)
  rw [lg_entry_eq]
  generalize (lg_sl ([.ref (ad 0), .int a1]) ++ List.replicate (7 - (lg_sl ([.ref (ad 0), .int a1])).length) Slot.unset).toArray = ls at hl ⊢
  have hl : lv_has ls 7 [(0, .ref (ad 0)), (1, .int a1)] := hl
  generalize hloc : ([] : List Loc) = locs at hw ⊢
  have L7 : ∀ (n7 : Nat) (v7_2 : Int32) (v7_3 : Int32) (v7_4 : Int32) (H : Heap) (locs : List Loc) (ls : Array Slot), 0 ≤ a1.toInt → a1.toInt ≤ 11 → 0 ≤ v7_2.toInt → v7_2.toInt ≤ 3 → (-1) ≤ v7_3.toInt → 0 ≤ v7_4.toInt → v7_4.toInt ≤ 4 → (4 - v7_4.toInt).toNat < n7 → Wd dC dI A s.heap H locs w0 → lv_has ls 7 [(0, .ref (ad 0)), (1, .int a1), (2, .int v7_2), (3, .int v7_3), (4, .int v7_4)] → W p l e ({ frames := 2, cells := 0, slots := 0, locals := 34 }) s m (List.toArray [.ref (ad 0), .int a1]) below meth c H locs 0 0 (MQ below (va_Qi (P_X12_cheapOf_1 ad cy B qr s1 a1 w0) (fun u : va_W => wpost dC dI cy A u) A) (List.toArray [.ref (ad 0), .int a1]) s 0 0 A) (F0 m 7 ls []) := by
    intro n7
    induction n7 with
    | zero => intro v7_2 v7_3 v7_4 H locs ls r1 t2 r3 t4 r5 r6 t7 hm7 hw hl; omega
    | succ n7 ih7 =>
      intro v7_2 v7_3 v7_4 H locs ls r1 t2 r3 t4 r5 r6 t7 hm7 hw hl
      have L19 : ∀ (n19 : Nat) (v19_5 : Int32) (v19_6 : Int32) (H : Heap) (locs : List Loc) (ls : Array Slot), 0 ≤ a1.toInt → a1.toInt ≤ 11 → 0 ≤ v7_2.toInt → v7_2.toInt ≤ 3 → (-1) ≤ v7_3.toInt → 0 ≤ v7_4.toInt → v7_4.toInt ≤ 3 → 0 ≤ v19_6.toInt → v19_6.toInt ≤ 7 → (7 - v19_6.toInt).toNat < n19 → Wd dC dI A s.heap H locs w0 → lv_has ls 7 [(0, .ref (ad 0)), (1, .int a1), (2, .int v7_2), (3, .int v7_3), (4, .int v7_4), (5, .int v19_5), (6, .int v19_6)] → W p l e ({ frames := 2, cells := 0, slots := 0, locals := 34 }) s m (List.toArray [.ref (ad 0), .int a1]) below meth c H locs 0 0 (MQ below (va_Qi (P_X12_cheapOf_1 ad cy B qr s1 a1 w0) (fun u : va_W => wpost dC dI cy A u) A) (List.toArray [.ref (ad 0), .int a1]) s 0 0 A) (F0 m 19 ls []) := by
        intro n19
        induction n19 with
        | zero => intro v19_5 v19_6 H locs ls r8 t9 r10 t11 r12 r13 t14 r15 t16 hm19 hw hl; omega
        | succ n19 ih19 =>
          intro v19_5 v19_6 H locs ls r8 t9 r10 t11 r12 r13 t14 r15 t16 hm19 hw hl
          refine lv_iload hx hb dX12_cheapOf_19 (lv_at hl 6 rfl) ?_
          refine lv_bipush (v := 7) hx hb dX12_cheapOf_21 (by decide) ?_
          refine lv_icmp_ge (tgt := 56) hx hb dX12_cheapOf_23 (by decide) (fun c17 => ?_) (fun c17 => ?_)
          · have c17 : (7 : Int) ≤ v19_6.toInt := wk_le.mp c17
            refine lv_iload hx hb dX12_cheapOf_56 (lv_at hl 5 rfl) ?_
            refine lv_iload_n hx hb dX12_cheapOf_58 rfl (lv_at hl 3 rfl) ?_
            refine lv_icmp_le (tgt := 67) hx hb dX12_cheapOf_59 (by decide) (fun c18 => ?_) (fun c18 => ?_)
            · have c18 : v19_5.toInt ≤ v7_3.toInt := wk_le.mp c18
              refine lv_iload_n hx hb dX12_cheapOf_67 rfl (lv_at hl 2 rfl) ?_
              refine lv_istore_n (lv' := [(2, .int v7_2), (0, .ref (ad 0)), (1, .int a1), (3, .int v7_3), (4, .int v7_4), (5, .int v19_5), (6, .int v19_6)]) hx hb dX12_cheapOf_68 rfl hl (by decide) rfl (fun ls hl => ?_)
              refine lv_iload hx hb dX12_cheapOf_69 (lv_at hl 5 rfl) ?_
              refine lv_iload_n hx hb dX12_cheapOf_71 rfl (lv_at hl 3 rfl) ?_
              refine lv_icmp_le (tgt := 80) hx hb dX12_cheapOf_72 (by decide) (fun c19 => ?_) (fun c19 => ?_)
              · have c19 : v19_5.toInt ≤ v7_3.toInt := wk_le.mp c19
                refine lv_iload_n hx hb dX12_cheapOf_80 rfl (lv_at hl 3 rfl) ?_
                refine lv_istore_n (lv' := [(3, .int v7_3), (2, .int v7_2), (0, .ref (ad 0)), (1, .int a1), (4, .int v7_4), (5, .int v19_5), (6, .int v19_6)]) hx hb dX12_cheapOf_81 rfl hl (by decide) rfl (fun ls hl => ?_)
                obtain ⟨x20, ex20⟩ : ∃ y : Int32, y = v7_4 + Int32.ofInt 1 := ⟨_, rfl⟩
                refine lv_iinc (v := x20) (lv' := [(4, .int x20), (3, .int v7_3), (2, .int v7_2), (0, .ref (ad 0)), (1, .int a1), (5, .int v19_5), (6, .int v19_6)]) hx hb dX12_cheapOf_82 hl (k := 4) rfl ex20.symm (by decide) rfl (fun ls hl => ?_)
                have ex20 : x20.toInt = v7_4.toInt + 1 := by rw [ex20]; exact wk_add (y := 1) (show -2147483648 ≤ v7_4.toInt + 1 by omega) (show v7_4.toInt + 1 ≤ 2147483647 by omega)
                refine lv_goto (tgt := 7) hx hb dX12_cheapOf_85 (by decide) ?_
                exact ih7 v7_2 v7_3 x20 H locs ls  (show 0 ≤ a1.toInt by omega) (show a1.toInt ≤ 11 by omega) (show 0 ≤ v7_2.toInt by omega) (show v7_2.toInt ≤ 3 by omega) (show (-1) ≤ v7_3.toInt by omega) (show 0 ≤ x20.toInt by omega) (show x20.toInt ≤ 4 by omega) (show (4 - x20.toInt).toNat < n7 by omega) hw   (lv_sub hl [3, 4, 2, 1, 0] rfl)
              · have c19 : v7_3.toInt < v19_5.toInt := wk_leF c19
                refine lv_iload hx hb dX12_cheapOf_75 (lv_at hl 5 rfl) ?_
                refine lv_goto (tgt := 81) hx hb dX12_cheapOf_77 (by decide) ?_
                refine lv_istore_n (lv' := [(3, .int v19_5), (2, .int v7_2), (0, .ref (ad 0)), (1, .int a1), (4, .int v7_4), (5, .int v19_5), (6, .int v19_6)]) hx hb dX12_cheapOf_81 rfl hl (by decide) rfl (fun ls hl => ?_)
                obtain ⟨x21, ex21⟩ : ∃ y : Int32, y = v7_4 + Int32.ofInt 1 := ⟨_, rfl⟩
                refine lv_iinc (v := x21) (lv' := [(4, .int x21), (3, .int v19_5), (2, .int v7_2), (0, .ref (ad 0)), (1, .int a1), (5, .int v19_5), (6, .int v19_6)]) hx hb dX12_cheapOf_82 hl (k := 4) rfl ex21.symm (by decide) rfl (fun ls hl => ?_)
                have ex21 : x21.toInt = v7_4.toInt + 1 := by rw [ex21]; exact wk_add (y := 1) (show -2147483648 ≤ v7_4.toInt + 1 by omega) (show v7_4.toInt + 1 ≤ 2147483647 by omega)
                refine lv_goto (tgt := 7) hx hb dX12_cheapOf_85 (by decide) ?_
                exact ih7 v7_2 v19_5 x21 H locs ls  (show 0 ≤ a1.toInt by omega) (show a1.toInt ≤ 11 by omega) (show 0 ≤ v7_2.toInt by omega) (show v7_2.toInt ≤ 3 by omega) (show (-1) ≤ v19_5.toInt by omega) (show 0 ≤ x21.toInt by omega) (show x21.toInt ≤ 4 by omega) (show (4 - x21.toInt).toNat < n7 by omega) hw   (lv_sub hl [3, 4, 2, 1, 0] rfl)
            · have c18 : v7_3.toInt < v19_5.toInt := wk_leF c18
              refine lv_iload hx hb dX12_cheapOf_62 (lv_at hl 4 rfl) ?_
              refine lv_goto (tgt := 68) hx hb dX12_cheapOf_64 (by decide) ?_
              refine lv_istore_n (lv' := [(2, .int v7_4), (0, .ref (ad 0)), (1, .int a1), (3, .int v7_3), (4, .int v7_4), (5, .int v19_5), (6, .int v19_6)]) hx hb dX12_cheapOf_68 rfl hl (by decide) rfl (fun ls hl => ?_)
              refine lv_iload hx hb dX12_cheapOf_69 (lv_at hl 5 rfl) ?_
              refine lv_iload_n hx hb dX12_cheapOf_71 rfl (lv_at hl 3 rfl) ?_
              refine lv_icmp_le (tgt := 80) hx hb dX12_cheapOf_72 (by decide) (fun c22 => ?_) (fun c22 => ?_)
              · have c22 : v19_5.toInt ≤ v7_3.toInt := wk_le.mp c22
                refine lv_iload_n hx hb dX12_cheapOf_80 rfl (lv_at hl 3 rfl) ?_
                refine lv_istore_n (lv' := [(3, .int v7_3), (2, .int v7_4), (0, .ref (ad 0)), (1, .int a1), (4, .int v7_4), (5, .int v19_5), (6, .int v19_6)]) hx hb dX12_cheapOf_81 rfl hl (by decide) rfl (fun ls hl => ?_)
                obtain ⟨x23, ex23⟩ : ∃ y : Int32, y = v7_4 + Int32.ofInt 1 := ⟨_, rfl⟩
                refine lv_iinc (v := x23) (lv' := [(4, .int x23), (3, .int v7_3), (2, .int v7_4), (0, .ref (ad 0)), (1, .int a1), (5, .int v19_5), (6, .int v19_6)]) hx hb dX12_cheapOf_82 hl (k := 4) rfl ex23.symm (by decide) rfl (fun ls hl => ?_)
                have ex23 : x23.toInt = v7_4.toInt + 1 := by rw [ex23]; exact wk_add (y := 1) (show -2147483648 ≤ v7_4.toInt + 1 by omega) (show v7_4.toInt + 1 ≤ 2147483647 by omega)
                refine lv_goto (tgt := 7) hx hb dX12_cheapOf_85 (by decide) ?_
                exact ih7 v7_4 v7_3 x23 H locs ls  (show 0 ≤ a1.toInt by omega) (show a1.toInt ≤ 11 by omega) (show 0 ≤ v7_4.toInt by omega) (show v7_4.toInt ≤ 3 by omega) (show (-1) ≤ v7_3.toInt by omega) (show 0 ≤ x23.toInt by omega) (show x23.toInt ≤ 4 by omega) (show (4 - x23.toInt).toNat < n7 by omega) hw   (lv_sub hl [3, 4, 2, 1, 0] rfl)
              · have c22 : v7_3.toInt < v19_5.toInt := wk_leF c22
                refine lv_iload hx hb dX12_cheapOf_75 (lv_at hl 5 rfl) ?_
                refine lv_goto (tgt := 81) hx hb dX12_cheapOf_77 (by decide) ?_
                refine lv_istore_n (lv' := [(3, .int v19_5), (2, .int v7_4), (0, .ref (ad 0)), (1, .int a1), (4, .int v7_4), (5, .int v19_5), (6, .int v19_6)]) hx hb dX12_cheapOf_81 rfl hl (by decide) rfl (fun ls hl => ?_)
                obtain ⟨x24, ex24⟩ : ∃ y : Int32, y = v7_4 + Int32.ofInt 1 := ⟨_, rfl⟩
                refine lv_iinc (v := x24) (lv' := [(4, .int x24), (3, .int v19_5), (2, .int v7_4), (0, .ref (ad 0)), (1, .int a1), (5, .int v19_5), (6, .int v19_6)]) hx hb dX12_cheapOf_82 hl (k := 4) rfl ex24.symm (by decide) rfl (fun ls hl => ?_)
                have ex24 : x24.toInt = v7_4.toInt + 1 := by rw [ex24]; exact wk_add (y := 1) (show -2147483648 ≤ v7_4.toInt + 1 by omega) (show v7_4.toInt + 1 ≤ 2147483647 by omega)
                refine lv_goto (tgt := 7) hx hb dX12_cheapOf_85 (by decide) ?_
                exact ih7 v7_4 v19_5 x24 H locs ls  (show 0 ≤ a1.toInt by omega) (show a1.toInt ≤ 11 by omega) (show 0 ≤ v7_4.toInt by omega) (show v7_4.toInt ≤ 3 by omega) (show (-1) ≤ v19_5.toInt by omega) (show 0 ≤ x24.toInt by omega) (show x24.toInt ≤ 4 by omega) (show (4 - x24.toInt).toNat < n7 by omega) hw   (lv_sub hl [3, 4, 2, 1, 0] rfl)
          · have c17 : v19_6.toInt < (7 : Int) := wk_leF c17
            refine lv_iload hx hb dX12_cheapOf_26 (lv_at hl 5 rfl) ?_
            refine lv_aload_n hx hb dX12_cheapOf_28 rfl (lv_at hl 0 rfl) ?_
            refine lv_iload_n hx hb dX12_cheapOf_29 rfl (lv_at hl 1 rfl) ?_
            refine lv_iconst (v := 3) hx hb dX12_cheapOf_30 (by decide) ?_
            refine lv_iload hx hb dX12_cheapOf_31 (lv_at hl 6 rfl) ?_
            refine lv_iadd hx hb dX12_cheapOf_33 ?_
            refine lv_topi (fun x25 ex25 => ?_)
            have ex25 : x25.toInt = (3 : Int) + v19_6.toInt := by rw [ex25]; exact wk_add (show (-2147483648) ≤ (3 : Int) + v19_6.toInt by omega) (show (3 : Int) + v19_6.toInt ≤ 2147483647 by omega)
            refine tk_Vi hC hK hw hT hA hE hSR kM_at0 (by decide) rfl (k_X12_streetOf_4 l adK adV dC dI cy ad B (by omega) (by omega) qr s1   a1 (show 0 ≤ a1.toInt by omega) (show a1.toInt ≤ 11 by omega) x25 (show 3 ≤ x25.toInt by omega) (show x25.toInt ≤ 9 by omega) w0 H.size hT ) (cwV 2 hC.2.2.2.2 gX12_cheapOf_X12_streetOf rfl rfl rfl (by decide +kernel) ⟨Nat.le_of_ble_eq_true rfl, Nat.le_of_ble_eq_true rfl⟩) rfl hl.1 rfl (Nat.le_of_ble_eq_true rfl) dX12_cheapOf_34 (fun r26 w28 H locs hp27 hw => ?_)
            obtain ⟨rfl, hg33⟩ := hp27
            obtain ⟨g30, g31, c32⟩ := hg33
            refine lv_iload hx hb dX12_cheapOf_37 (lv_at hl 4 rfl) ?_
            refine lv_icmp_ne (tgt := 46) hx hb dX12_cheapOf_39 (by decide) (fun c34 => ?_) (fun c34 => ?_)
            · have c34 : ¬ r26.toInt = v7_4.toInt := wk_eqF c34
              refine lv_iconst (v := 0) hx hb dX12_cheapOf_46 (by decide) ?_
              refine lv_iadd hx hb dX12_cheapOf_47 ?_
              have nx35 := wk_i32 v19_5
              refine lv_topi (fun x36 ex36 => ?_)
              have ex36 : x36.toInt = v19_5.toInt + (0 : Int) := by rw [ex36]; exact wk_add (show (-2147483648) ≤ v19_5.toInt + (0 : Int) by omega) (show v19_5.toInt + (0 : Int) ≤ 2147483647 by omega)
              refine lv_istore (lv' := [(5, .int x36), (0, .ref (ad 0)), (1, .int a1), (2, .int v7_2), (3, .int v7_3), (4, .int v7_4), (6, .int v19_6)]) hx hb dX12_cheapOf_48 hl (by decide) rfl (fun ls hl => ?_)
              obtain ⟨x37, ex37⟩ : ∃ y : Int32, y = v19_6 + Int32.ofInt 1 := ⟨_, rfl⟩
              refine lv_iinc (v := x37) (lv' := [(6, .int x37), (5, .int x36), (0, .ref (ad 0)), (1, .int a1), (2, .int v7_2), (3, .int v7_3), (4, .int v7_4)]) hx hb dX12_cheapOf_50 hl (k := 6) rfl ex37.symm (by decide) rfl (fun ls hl => ?_)
              have ex37 : x37.toInt = v19_6.toInt + 1 := by rw [ex37]; exact wk_add (y := 1) (show -2147483648 ≤ v19_6.toInt + 1 by omega) (show v19_6.toInt + 1 ≤ 2147483647 by omega)
              refine lv_goto (tgt := 19) hx hb dX12_cheapOf_53 (by decide) ?_
              exact ih19 x36 x37 H locs ls  (show 0 ≤ a1.toInt by omega) (show a1.toInt ≤ 11 by omega) (show 0 ≤ v7_2.toInt by omega) (show v7_2.toInt ≤ 3 by omega) (show (-1) ≤ v7_3.toInt by omega) (show 0 ≤ v7_4.toInt by omega) (show v7_4.toInt ≤ 3 by omega) (show 0 ≤ x37.toInt by omega) (show x37.toInt ≤ 7 by omega) (show (7 - x37.toInt).toNat < n19 by omega) hw   (lv_sub hl [2, 3, 4, 5, 6, 1, 0] rfl)
            · have c34 : r26.toInt = v7_4.toInt := wk_eq.mp c34
              refine lv_iconst (v := 1) hx hb dX12_cheapOf_42 (by decide) ?_
              refine lv_goto (tgt := 47) hx hb dX12_cheapOf_43 (by decide) ?_
              refine lv_iadd hx hb dX12_cheapOf_47 ?_
              have nx38 := wk_i32 v19_5
              refine lv_topi (fun x39 ex39 => ?_)
              refine lv_istore (lv' := [(5, .int x39), (0, .ref (ad 0)), (1, .int a1), (2, .int v7_2), (3, .int v7_3), (4, .int v7_4), (6, .int v19_6)]) hx hb dX12_cheapOf_48 hl (by decide) rfl (fun ls hl => ?_)
              obtain ⟨x40, ex40⟩ : ∃ y : Int32, y = v19_6 + Int32.ofInt 1 := ⟨_, rfl⟩
              refine lv_iinc (v := x40) (lv' := [(6, .int x40), (5, .int x39), (0, .ref (ad 0)), (1, .int a1), (2, .int v7_2), (3, .int v7_3), (4, .int v7_4)]) hx hb dX12_cheapOf_50 hl (k := 6) rfl ex40.symm (by decide) rfl (fun ls hl => ?_)
              have ex40 : x40.toInt = v19_6.toInt + 1 := by rw [ex40]; exact wk_add (y := 1) (show -2147483648 ≤ v19_6.toInt + 1 by omega) (show v19_6.toInt + 1 ≤ 2147483647 by omega)
              refine lv_goto (tgt := 19) hx hb dX12_cheapOf_53 (by decide) ?_
              exact ih19 x39 x40 H locs ls  (show 0 ≤ a1.toInt by omega) (show a1.toInt ≤ 11 by omega) (show 0 ≤ v7_2.toInt by omega) (show v7_2.toInt ≤ 3 by omega) (show (-1) ≤ v7_3.toInt by omega) (show 0 ≤ v7_4.toInt by omega) (show v7_4.toInt ≤ 3 by omega) (show 0 ≤ x40.toInt by omega) (show x40.toInt ≤ 7 by omega) (show (7 - x40.toInt).toNat < n19 by omega) hw   (lv_sub hl [2, 3, 4, 5, 6, 1, 0] rfl)
      refine lv_iload hx hb dX12_cheapOf_7 (lv_at hl 4 rfl) ?_
      refine lv_iconst (v := 4) hx hb dX12_cheapOf_9 (by decide) ?_
      refine lv_icmp_ge (tgt := 88) hx hb dX12_cheapOf_10 (by decide) (fun c41 => ?_) (fun c41 => ?_)
      · have c41 : (4 : Int) ≤ v7_4.toInt := wk_le.mp c41
        refine lv_iload_n hx hb dX12_cheapOf_88 rfl (lv_at hl 2 rfl) ?_
        exact tk_iret hC hr hlocks hK ⟨rfl, ⟨(show 0 ≤ v7_2.toInt by omega), (show v7_2.toInt ≤ 3 by omega)⟩⟩ hw dX12_cheapOf_89
      · have c41 : v7_4.toInt < (4 : Int) := wk_leF c41
        refine lv_iconst (v := 0) hx hb dX12_cheapOf_13 (by decide) ?_
        refine lv_istore (lv' := [(5, .int 0), (0, .ref (ad 0)), (1, .int a1), (2, .int v7_2), (3, .int v7_3), (4, .int v7_4)]) hx hb dX12_cheapOf_14 hl (by decide) rfl (fun ls hl => ?_)
        refine lv_iconst (v := 0) hx hb dX12_cheapOf_16 (by decide) ?_
        refine lv_istore (lv' := [(6, .int 0), (5, .int 0), (0, .ref (ad 0)), (1, .int a1), (2, .int v7_2), (3, .int v7_3), (4, .int v7_4)]) hx hb dX12_cheapOf_17 hl (by decide) rfl (fun ls hl => ?_)
        exact L19 ((7 - (0 : Int)).toNat + 1) 0 0 H locs ls  (show 0 ≤ a1.toInt by omega) (show a1.toInt ≤ 11 by omega) (show 0 ≤ v7_2.toInt by omega) (show v7_2.toInt ≤ 3 by omega) (show (-1) ≤ v7_3.toInt by omega) (show 0 ≤ v7_4.toInt by omega) (show v7_4.toInt ≤ 3 by omega) (by decide) (by decide) (Nat.lt_succ_self _) hw   (lv_sub hl [2, 3, 4, 5, 6, 1, 0] rfl)
  refine lv_iconst (v := 0) hx hb dX12_cheapOf_0 (by decide) ?_
  refine lv_istore_n (lv' := [(2, .int 0), (0, .ref (ad 0)), (1, .int a1)]) hx hb dX12_cheapOf_1 rfl hl (by decide) rfl (fun ls hl => ?_)
  refine lv_iconst (v := (-1)) hx hb dX12_cheapOf_2 (by decide) ?_
  refine lv_istore_n (lv' := [(3, .int (-1)), (2, .int 0), (0, .ref (ad 0)), (1, .int a1)]) hx hb dX12_cheapOf_3 rfl hl (by decide) rfl (fun ls hl => ?_)
  refine lv_iconst (v := 0) hx hb dX12_cheapOf_4 (by decide) ?_
  refine lv_istore (lv' := [(4, .int 0), (3, .int (-1)), (2, .int 0), (0, .ref (ad 0)), (1, .int a1)]) hx hb dX12_cheapOf_5 hl (by decide) rfl (fun ls hl => ?_)
  exact L7 ((4 - (0 : Int)).toNat + 1) 0 (-1) 0 s.heap locs ls  (show 0 ≤ a1.toInt by omega) (show a1.toInt ≤ 11 by omega) (by decide) (by decide) (by decide) (by decide) (by decide) (Nat.lt_succ_self _) hw   (lv_sub hl [3, 4, 2, 1, 0] rfl)
abbrev P_X12_cheap_1 (ad : Nat → Nat) (cy : Nat → ClassId) (B : Int) (qr : Nat) (s1 : Int) (a1 : Int32) (w0 : va_W) : Int32 → va_W → Prop := fun r u => w0 = u ∧ ((0 ≤ r.toInt ∧ r.toInt ≤ 3 ∧ 0 ≤ a1.toInt ∧ a1.toInt ≤ 11 ∧ (∃ y : Int32, gi u 12 1 = y ∧ 1 ≤ y.toInt ∧ y.toInt ≤ 12)) ∨ (r = (-1)))
set_option maxHeartbeats 4000000 in
set_option maxRecDepth 100000 in
theorem k_X12_cheap_1 (l : Launch) (adK adV : Nat → Nat) (dC : Nat → ClassId) (dI : Nat → Nat → Nat) (cy : Nat → ClassId) (ad : Nat → Nat) (B : Int) (hB0 : 100000 ≤ B) (hB1 : B ≤ 1073741824) (qr : Nat) (s1 : Int)  (a1 : Int32) (w0 : va_W) (sz : Nat) (hT : TW ksM ad cy B qr 12 w0)  : Met l yX12_cheap wsX12_cheap ({ frames := 3, cells := 0, slots := 0, locals := 60 }) (va_Pc [.ref (ad 0), .int a1] (wpreS adK adV dC dI cy sz w0)) (va_Qi (P_X12_cheap_1 ad cy B qr s1 a1 w0) (fun u : va_W => wpost dC dI cy (va_A w0 sz) u) (va_A w0 sz)) 0 0 (va_A w0 sz) := by
  refine Met.ofW (cc := cX12_cheap) (maxL := 2) (ret := (some .int)) (by decide) rfl ?_
  intro p e s m args below meth c s₁ Bk hml hv
  obtain ⟨rfl, ⟨hsz, hP, hK, hD0⟩, hE, hSR⟩ := hv
  have hx := Bk.exec
  have hb := Bk.bytes
  have hr := Bk.returns
  have hlocks := Bk.notSynchronized
  have hC : CallFix p m c cX12_cheap 2 s _ wsX12_cheap RX12 := ⟨hx, hb, hml, findClass_of_methodNamed Bk.named, atoms_spec (ws := wsX12_cheap) Bk.pre⟩
  subst hsz
  have hD := hD0.self (sz := s.heap.size)
  generalize hAe : va_A w0 s.heap.size = A at hD hE ⊢
  have hA : ∀ q : Nat, s.heap.size ≤ q → A q := fun q h => by rw [← hAe]; exact Or.inr h
  have hw : Wd dC dI A s.heap s.heap [] w0 := ⟨hP, hD, va_S.rf⟩
  have hF : FE ksM ([] : List (Nat × Nat × Nat)) w0 w0 := FE.rf
  have hl := lv_entry ([.ref (ad 0), .int a1]) (n := 2) (Nat.le_of_ble_eq_true rfl)
  rw [lg_entry_eq]
  generalize (lg_sl ([.ref (ad 0), .int a1]) ++ List.replicate (2 - (lg_sl ([.ref (ad 0), .int a1])).length) Slot.unset).toArray = ls at hl ⊢
  have hl : lv_has ls 2 [(0, .ref (ad 0)), (1, .int a1)] := hl
  generalize hloc : ([] : List Loc) = locs at hw ⊢
  refine lv_aload_n hx hb dX12_cheap_0 rfl (lv_at hl 0 rfl) ?_
  refine lv_iload_n hx hb dX12_cheap_1 rfl (lv_at hl 1 rfl) ?_
  refine tk_Vi hC hK hw hT hA hE hSR kM_at0 (by decide) rfl (k_X12_isStreet_1 l adK adV dC dI cy ad B (by omega) (by omega) qr s1   a1 w0 s.heap.size hT ) (cwV 1 hC.2.2.2.2 gX12_cheap_X12_isStreet rfl rfl rfl (by decide +kernel) ⟨Nat.le_of_ble_eq_true rfl, Nat.le_of_ble_eq_true rfl⟩) rfl hl.1 rfl (Nat.le_of_ble_eq_true rfl) dX12_cheap_2 (fun r1 w3 H locs hp2 hw => ?_)
  obtain ⟨rfl, hg9⟩ := hp2
  rcases hg9 with rfl | ⟨rfl, g5, g6, ⟨x7, c8, rx7, tx7⟩⟩
  · refine lv_if_eq (tgt := 16) hx hb dX12_cheap_5 (by decide) (fun _ => ?_) (fun c => absurd (by decide) c)
    refine lv_iconst (v := (-1)) hx hb dX12_cheap_16 (by decide) ?_
    exact tk_iret hC hr hlocks hK ⟨rfl, (Or.inr rfl)⟩ hw dX12_cheap_17
  · refine lv_if_eq (tgt := 16) hx hb dX12_cheap_5 (by decide) (fun c => absurd c (by decide)) (fun _ => ?_)
    refine lv_aload_n hx hb dX12_cheap_8 rfl (lv_at hl 0 rfl) ?_
    refine lv_iload_n hx hb dX12_cheap_9 rfl (lv_at hl 1 rfl) ?_
    refine tk_Vi hC hK hw hT hA hE hSR kM_at0 (by decide) rfl (k_X12_cheapOf_1 l adK adV dC dI cy ad B (by omega) (by omega) qr s1   a1 (show 0 ≤ a1.toInt by omega) (show a1.toInt ≤ 11 by omega) w0 H.size hT ) (cwV 1 hC.2.2.2.2 gX12_cheap_X12_cheapOf rfl rfl rfl (by decide +kernel) ⟨Nat.le_of_ble_eq_true rfl, Nat.le_of_ble_eq_true rfl⟩) rfl hl.1 rfl (Nat.le_of_ble_eq_true rfl) dX12_cheap_10 (fun r10 w12 H locs hp11 hw => ?_)
    obtain ⟨rfl, hg16⟩ := hp11
    obtain ⟨g14, g15⟩ := hg16
    refine lv_goto (tgt := 17) hx hb dX12_cheap_13 (by decide) ?_
    exact tk_iret hC hr hlocks hK ⟨rfl, (Or.inl ⟨(show 0 ≤ r10.toInt by omega), (show r10.toInt ≤ 3 by omega), (show 0 ≤ a1.toInt by omega), (show a1.toInt ≤ 11 by omega), ⟨x7, c8, (show 1 ≤ x7.toInt by omega), (show x7.toInt ≤ 12 by omega)⟩⟩)⟩ hw dX12_cheap_17
abbrev P_X12_wrong_1 (ad : Nat → Nat) (cy : Nat → ClassId) (B : Int) (qr : Nat) (s1 : Int) (a1 : Int32) (w0 : va_W) : Int32 → va_W → Prop := fun r u => w0 = u ∧ ((0 ≤ a1.toInt ∧ a1.toInt ≤ 7 ∧ (∃ y : Int32, gi u 12 0 = y ∧ 1 ≤ y.toInt ∧ y.toInt ≤ 10)) ∨ (r = (-1)))
set_option maxHeartbeats 4000000 in
set_option maxRecDepth 100000 in
theorem k_X12_wrong_1 (l : Launch) (adK adV : Nat → Nat) (dC : Nat → ClassId) (dI : Nat → Nat → Nat) (cy : Nat → ClassId) (ad : Nat → Nat) (B : Int) (hB0 : 100000 ≤ B) (hB1 : B ≤ 1073741824) (qr : Nat) (s1 : Int)  (a1 : Int32) (w0 : va_W) (sz : Nat) (hT : TW ksM ad cy B qr 12 w0)  : Met l yX12_wrong wsX12_wrong ({ frames := 3, cells := 0, slots := 0, locals := 60 }) (va_Pc [.ref (ad 0), .int a1] (wpreS adK adV dC dI cy sz w0)) (va_Qi (P_X12_wrong_1 ad cy B qr s1 a1 w0) (fun u : va_W => wpost dC dI cy (va_A w0 sz) u) (va_A w0 sz)) 0 0 (va_A w0 sz) := by
  refine Met.ofW (cc := cX12_wrong) (maxL := 5) (ret := (some .int)) (by decide) rfl ?_
  intro p e s m args below meth c s₁ Bk hml hv
  obtain ⟨rfl, ⟨hsz, hP, hK, hD0⟩, hE, hSR⟩ := hv
  have hx := Bk.exec
  have hb := Bk.bytes
  have hr := Bk.returns
  have hlocks := Bk.notSynchronized
  have hC : CallFix p m c cX12_wrong 5 s _ wsX12_wrong RX12 := ⟨hx, hb, hml, findClass_of_methodNamed Bk.named, atoms_spec (ws := wsX12_wrong) Bk.pre⟩
  subst hsz
  have hD := hD0.self (sz := s.heap.size)
  generalize hAe : va_A w0 s.heap.size = A at hD hE ⊢
  have hA : ∀ q : Nat, s.heap.size ≤ q → A q := fun q h => by rw [← hAe]; exact Or.inr h
  have hw : Wd dC dI A s.heap s.heap [] w0 := ⟨hP, hD, va_S.rf⟩
  have hF : FE ksM ([] : List (Nat × Nat × Nat)) w0 w0 := FE.rf
  have hl := lv_entry ([.ref (ad 0), .int a1]) (n := 5) (Nat.le_of_ble_eq_true rfl)
  rw [lg_entry_eq]
  generalize (lg_sl ([.ref (ad 0), .int a1]) ++ List.replicate (5 - (lg_sl ([.ref (ad 0), .int a1])).length) Slot.unset).toArray = ls at hl ⊢
  have hl : lv_has ls 5 [(0, .ref (ad 0)), (1, .int a1)] := hl
  generalize hloc : ([] : List Loc) = locs at hw ⊢
  have hinX12 : ∀ w ∈ u_ws RX12 TX12 42, w ∈ wsX12_wrong := fun _ h => List.mem_cons_of_mem _ (List.mem_append_right _ (h))
  have J19 : ∀ (f19_12_0 : Int32) (H : Heap) (locs : List Loc) (ls : Array Slot), 0 ≤ f19_12_0.toInt → f19_12_0.toInt ≤ 10 → Wd dC dI A s.heap H locs w0 → gi w0 12 0 = f19_12_0 → lv_has ls 5 [(0, .ref (ad 0)), (1, .int a1)] → W p l e ({ frames := 3, cells := 0, slots := 0, locals := 60 }) s m (List.toArray [.ref (ad 0), .int a1]) below meth c H locs 0 0 (MQ below (va_Qi (P_X12_wrong_1 ad cy B qr s1 a1 w0) (fun u : va_W => wpost dC dI cy A u) A) (List.toArray [.ref (ad 0), .int a1]) s 0 0 A) (F0 m 19 ls []) := by
    intro f19_12_0 H locs ls r1 t2 hw c3 hl
    refine lv_iconst (v := (-1)) hx hb dX12_wrong_19 (by decide) ?_
    exact tk_iret hC hr hlocks hK ⟨rfl, (Or.inr rfl)⟩ hw dX12_wrong_20
  have L25 : ∀ (n25 : Nat) (v25_2 : Int32) (v25_3 : Int32) (f25_12_0 : Int32) (H : Heap) (locs : List Loc) (ls : Array Slot), 0 ≤ a1.toInt → a1.toInt ≤ 7 → 0 ≤ v25_3.toInt → v25_3.toInt ≤ 12 → 1 ≤ f25_12_0.toInt → f25_12_0.toInt ≤ 10 → (12 - v25_3.toInt).toNat < n25 → Wd dC dI A s.heap H locs w0 → gi w0 12 0 = f25_12_0 → lv_has ls 5 [(0, .ref (ad 0)), (1, .int a1), (2, .int v25_2), (3, .int v25_3)] → W p l e ({ frames := 3, cells := 0, slots := 0, locals := 60 }) s m (List.toArray [.ref (ad 0), .int a1]) below meth c H locs 0 0 (MQ below (va_Qi (P_X12_wrong_1 ad cy B qr s1 a1 w0) (fun u : va_W => wpost dC dI cy A u) A) (List.toArray [.ref (ad 0), .int a1]) s 0 0 A) (F0 m 25 ls []) := by
    intro n25
    induction n25 with
    | zero => intro v25_2 v25_3 f25_12_0 H locs ls r4 t5 r6 t7 r8 t9 hm25 hw c10 hl; omega
    | succ n25 ih25 =>
      intro v25_2 v25_3 f25_12_0 H locs ls r4 t5 r6 t7 r8 t9 hm25 hw c10 hl
      have L38 : ∀ (n38 : Nat) (v38_2 : Int32) (v38_4 : Int32) (f38_12_1 : Int32) (H : Heap) (locs : List Loc) (ls : Array Slot), 0 ≤ a1.toInt → a1.toInt ≤ 7 → 0 ≤ v25_3.toInt → v25_3.toInt ≤ 11 → 0 ≤ v38_4.toInt → v38_4.toInt ≤ 7 → 1 ≤ f25_12_0.toInt → f25_12_0.toInt ≤ 10 → 1 ≤ f38_12_1.toInt → f38_12_1.toInt ≤ 12 → (7 - v38_4.toInt).toNat < n38 → Wd dC dI A s.heap H locs w0 → gi w0 12 0 = f25_12_0 → gi w0 12 1 = f38_12_1 → lv_has ls 5 [(0, .ref (ad 0)), (1, .int a1), (2, .int v38_2), (3, .int v25_3), (4, .int v38_4)] → W p l e ({ frames := 3, cells := 0, slots := 0, locals := 60 }) s m (List.toArray [.ref (ad 0), .int a1]) below meth c H locs 0 0 (MQ below (va_Qi (P_X12_wrong_1 ad cy B qr s1 a1 w0) (fun u : va_W => wpost dC dI cy A u) A) (List.toArray [.ref (ad 0), .int a1]) s 0 0 A) (F0 m 38 ls []) := by
        intro n38
        induction n38 with
        | zero => intro v38_2 v38_4 f38_12_1 H locs ls r11 t12 r13 t14 r15 t16 r17 t18 r20 t21 hm38 hw c19 c22 hl; omega
        | succ n38 ih38 =>
          intro v38_2 v38_4 f38_12_1 H locs ls r11 t12 r13 t14 r15 t16 r17 t18 r20 t21 hm38 hw c19 c22 hl
          refine lv_iload hx hb dX12_wrong_38 (lv_at hl 4 rfl) ?_
          refine lv_bipush (v := 7) hx hb dX12_wrong_40 (by decide) ?_
          refine lv_icmp_ge (tgt := 88) hx hb dX12_wrong_42 (by decide) (fun c23 => ?_) (fun c23 => ?_)
          · have c23 : (7 : Int) ≤ v38_4.toInt := wk_le.mp c23
            obtain ⟨x24, ex24⟩ : ∃ y : Int32, y = v25_3 + Int32.ofInt 1 := ⟨_, rfl⟩
            refine lv_iinc (v := x24) (lv' := [(3, .int x24), (0, .ref (ad 0)), (1, .int a1), (2, .int v38_2), (4, .int v38_4)]) hx hb dX12_wrong_88 hl (k := 3) rfl ex24.symm (by decide) rfl (fun ls hl => ?_)
            have ex24 : x24.toInt = v25_3.toInt + 1 := by rw [ex24]; exact wk_add (y := 1) (show -2147483648 ≤ v25_3.toInt + 1 by omega) (show v25_3.toInt + 1 ≤ 2147483647 by omega)
            refine lv_goto (tgt := 25) hx hb dX12_wrong_91 (by decide) ?_
            exact ih25 v38_2 x24 f25_12_0 H locs ls  (show 0 ≤ a1.toInt by omega) (show a1.toInt ≤ 7 by omega) (show 0 ≤ x24.toInt by omega) (show x24.toInt ≤ 12 by omega) (show 1 ≤ f25_12_0.toInt by omega) (show f25_12_0.toInt ≤ 10 by omega) (show (12 - x24.toInt).toNat < n25 by omega) hw  c19 (lv_sub hl [1, 2, 3, 0] rfl)
          · have c23 : v38_4.toInt < (7 : Int) := wk_leF c23
            refine lv_iload_n hx hb dX12_wrong_45 rfl (lv_at hl 2 rfl) ?_
            refine lv_iload_n hx hb dX12_wrong_46 rfl (lv_at hl 1 rfl) ?_
            refine lv_bipush (v := 7) hx hb dX12_wrong_47 (by decide) ?_
            refine lv_icmp_eq (tgt := 58) hx hb dX12_wrong_49 (by decide) (fun c25 => ?_) (fun c25 => ?_)
            · have c25 : a1.toInt = (7 : Int) := wk_eq.mp c25
              refine lv_aload_n hx hb dX12_wrong_58 rfl (lv_at hl 0 rfl) ?_
              refine lv_iload_n hx hb dX12_wrong_59 rfl (lv_at hl 3 rfl) ?_
              refine lv_iconst (v := 3) hx hb dX12_wrong_60 (by decide) ?_
              refine lv_iload hx hb dX12_wrong_61 (lv_at hl 4 rfl) ?_
              refine lv_iadd hx hb dX12_wrong_63 ?_
              refine lv_topi (fun x26 ex26 => ?_)
              have ex26 : x26.toInt = (3 : Int) + v38_4.toInt := by rw [ex26]; exact wk_add (show (-2147483648) ≤ (3 : Int) + v38_4.toInt by omega) (show (3 : Int) + v38_4.toInt ≤ 2147483647 by omega)
              refine tk_Vi hC hK hw hT hA hE hSR kM_at0 (by decide) rfl (k_X12_streetOf_4 l adK adV dC dI cy ad B (by omega) (by omega) qr s1   v25_3 (show 0 ≤ v25_3.toInt by omega) (show v25_3.toInt ≤ 11 by omega) x26 (show 3 ≤ x26.toInt by omega) (show x26.toInt ≤ 9 by omega) w0 H.size hT ) (cwV 2 hC.2.2.2.2 gX12_wrong_X12_streetOf rfl rfl rfl (by decide +kernel) ⟨Nat.le_of_ble_eq_true rfl, Nat.le_of_ble_eq_true rfl⟩) rfl hl.1 rfl (Nat.le_of_ble_eq_true rfl) dX12_wrong_64 (fun r27 w29 H locs hp28 hw => ?_)
              obtain ⟨rfl, hg34⟩ := hp28
              obtain ⟨g31, g32, c33⟩ := hg34
              refine lv_aload_n hx hb dX12_wrong_67 rfl (lv_at hl 0 rfl) ?_
              refine lv_iload_n hx hb dX12_wrong_68 rfl (lv_at hl 3 rfl) ?_
              refine tk_Vi hC hK hw hT hA hE hSR kM_at0 (by decide) rfl (k_X12_cheapOf_1 l adK adV dC dI cy ad B (by omega) (by omega) qr s1   v25_3 (show 0 ≤ v25_3.toInt by omega) (show v25_3.toInt ≤ 11 by omega) w0 H.size hT ) (cwV 1 hC.2.2.2.2 gX12_wrong_X12_cheapOf rfl rfl rfl (by decide +kernel) ⟨Nat.le_of_ble_eq_true rfl, Nat.le_of_ble_eq_true rfl⟩) rfl hl.1 rfl (Nat.le_of_ble_eq_true rfl) dX12_wrong_69 (fun r35 w37 H locs hp36 hw => ?_)
              obtain ⟨rfl, hg41⟩ := hp36
              obtain ⟨g39, g40⟩ := hg41
              refine lv_icmp_eq (tgt := 79) hx hb dX12_wrong_72 (by decide) (fun c42 => ?_) (fun c42 => ?_)
              · have c42 : r27.toInt = r35.toInt := wk_eq.mp c42
                refine lv_iconst (v := 0) hx hb dX12_wrong_79 (by decide) ?_
                refine lv_iadd hx hb dX12_wrong_80 ?_
                have nx43 := wk_i32 v38_2
                refine lv_topi (fun x44 ex44 => ?_)
                have ex44 : x44.toInt = v38_2.toInt + (0 : Int) := by rw [ex44]; exact wk_add (show (-2147483648) ≤ v38_2.toInt + (0 : Int) by omega) (show v38_2.toInt + (0 : Int) ≤ 2147483647 by omega)
                refine lv_istore_n (lv' := [(2, .int x44), (0, .ref (ad 0)), (1, .int a1), (3, .int v25_3), (4, .int v38_4)]) hx hb dX12_wrong_81 rfl hl (by decide) rfl (fun ls hl => ?_)
                obtain ⟨x45, ex45⟩ : ∃ y : Int32, y = v38_4 + Int32.ofInt 1 := ⟨_, rfl⟩
                refine lv_iinc (v := x45) (lv' := [(4, .int x45), (2, .int x44), (0, .ref (ad 0)), (1, .int a1), (3, .int v25_3)]) hx hb dX12_wrong_82 hl (k := 4) rfl ex45.symm (by decide) rfl (fun ls hl => ?_)
                have ex45 : x45.toInt = v38_4.toInt + 1 := by rw [ex45]; exact wk_add (y := 1) (show -2147483648 ≤ v38_4.toInt + 1 by omega) (show v38_4.toInt + 1 ≤ 2147483647 by omega)
                refine lv_goto (tgt := 38) hx hb dX12_wrong_85 (by decide) ?_
                exact ih38 x44 x45 f38_12_1 H locs ls  (show 0 ≤ a1.toInt by omega) (show a1.toInt ≤ 7 by omega) (show 0 ≤ v25_3.toInt by omega) (show v25_3.toInt ≤ 11 by omega) (show 0 ≤ x45.toInt by omega) (show x45.toInt ≤ 7 by omega) (show 1 ≤ f25_12_0.toInt by omega) (show f25_12_0.toInt ≤ 10 by omega) (show 1 ≤ f38_12_1.toInt by omega) (show f38_12_1.toInt ≤ 12 by omega) (show (7 - x45.toInt).toNat < n38 by omega) hw  c19 c22 (lv_sub hl [2, 3, 1, 4, 0] rfl)
              · have c42 : ¬ r27.toInt = r35.toInt := wk_eqF c42
                refine lv_iconst (v := 1) hx hb dX12_wrong_75 (by decide) ?_
                refine lv_goto (tgt := 80) hx hb dX12_wrong_76 (by decide) ?_
                refine lv_iadd hx hb dX12_wrong_80 ?_
                have nx46 := wk_i32 v38_2
                refine lv_topi (fun x47 ex47 => ?_)
                refine lv_istore_n (lv' := [(2, .int x47), (0, .ref (ad 0)), (1, .int a1), (3, .int v25_3), (4, .int v38_4)]) hx hb dX12_wrong_81 rfl hl (by decide) rfl (fun ls hl => ?_)
                obtain ⟨x48, ex48⟩ : ∃ y : Int32, y = v38_4 + Int32.ofInt 1 := ⟨_, rfl⟩
                refine lv_iinc (v := x48) (lv' := [(4, .int x48), (2, .int x47), (0, .ref (ad 0)), (1, .int a1), (3, .int v25_3)]) hx hb dX12_wrong_82 hl (k := 4) rfl ex48.symm (by decide) rfl (fun ls hl => ?_)
                have ex48 : x48.toInt = v38_4.toInt + 1 := by rw [ex48]; exact wk_add (y := 1) (show -2147483648 ≤ v38_4.toInt + 1 by omega) (show v38_4.toInt + 1 ≤ 2147483647 by omega)
                refine lv_goto (tgt := 38) hx hb dX12_wrong_85 (by decide) ?_
                exact ih38 x47 x48 f38_12_1 H locs ls  (show 0 ≤ a1.toInt by omega) (show a1.toInt ≤ 7 by omega) (show 0 ≤ v25_3.toInt by omega) (show v25_3.toInt ≤ 11 by omega) (show 0 ≤ x48.toInt by omega) (show x48.toInt ≤ 7 by omega) (show 1 ≤ f25_12_0.toInt by omega) (show f25_12_0.toInt ≤ 10 by omega) (show 1 ≤ f38_12_1.toInt by omega) (show f38_12_1.toInt ≤ 12 by omega) (show (7 - x48.toInt).toNat < n38 by omega) hw  c19 c22 (lv_sub hl [2, 3, 1, 4, 0] rfl)
            · have c25 : ¬ a1.toInt = (7 : Int) := wk_eqF c25
              refine lv_iload_n hx hb dX12_wrong_52 rfl (lv_at hl 1 rfl) ?_
              refine lv_iload hx hb dX12_wrong_53 (lv_at hl 4 rfl) ?_
              refine lv_icmp_ne (tgt := 79) hx hb dX12_wrong_55 (by decide) (fun c49 => ?_) (fun c49 => ?_)
              · have c49 : ¬ a1.toInt = v38_4.toInt := wk_eqF c49
                refine lv_iconst (v := 0) hx hb dX12_wrong_79 (by decide) ?_
                refine lv_iadd hx hb dX12_wrong_80 ?_
                have nx50 := wk_i32 v38_2
                refine lv_topi (fun x51 ex51 => ?_)
                have ex51 : x51.toInt = v38_2.toInt + (0 : Int) := by rw [ex51]; exact wk_add (show (-2147483648) ≤ v38_2.toInt + (0 : Int) by omega) (show v38_2.toInt + (0 : Int) ≤ 2147483647 by omega)
                refine lv_istore_n (lv' := [(2, .int x51), (0, .ref (ad 0)), (1, .int a1), (3, .int v25_3), (4, .int v38_4)]) hx hb dX12_wrong_81 rfl hl (by decide) rfl (fun ls hl => ?_)
                obtain ⟨x52, ex52⟩ : ∃ y : Int32, y = v38_4 + Int32.ofInt 1 := ⟨_, rfl⟩
                refine lv_iinc (v := x52) (lv' := [(4, .int x52), (2, .int x51), (0, .ref (ad 0)), (1, .int a1), (3, .int v25_3)]) hx hb dX12_wrong_82 hl (k := 4) rfl ex52.symm (by decide) rfl (fun ls hl => ?_)
                have ex52 : x52.toInt = v38_4.toInt + 1 := by rw [ex52]; exact wk_add (y := 1) (show -2147483648 ≤ v38_4.toInt + 1 by omega) (show v38_4.toInt + 1 ≤ 2147483647 by omega)
                refine lv_goto (tgt := 38) hx hb dX12_wrong_85 (by decide) ?_
                exact ih38 x51 x52 f38_12_1 H locs ls  (show 0 ≤ a1.toInt by omega) (show a1.toInt ≤ 7 by omega) (show 0 ≤ v25_3.toInt by omega) (show v25_3.toInt ≤ 11 by omega) (show 0 ≤ x52.toInt by omega) (show x52.toInt ≤ 7 by omega) (show 1 ≤ f25_12_0.toInt by omega) (show f25_12_0.toInt ≤ 10 by omega) (show 1 ≤ f38_12_1.toInt by omega) (show f38_12_1.toInt ≤ 12 by omega) (show (7 - x52.toInt).toNat < n38 by omega) hw  c19 c22 (lv_sub hl [2, 3, 1, 4, 0] rfl)
              · have c49 : a1.toInt = v38_4.toInt := wk_eq.mp c49
                refine lv_aload_n hx hb dX12_wrong_58 rfl (lv_at hl 0 rfl) ?_
                refine lv_iload_n hx hb dX12_wrong_59 rfl (lv_at hl 3 rfl) ?_
                refine lv_iconst (v := 3) hx hb dX12_wrong_60 (by decide) ?_
                refine lv_iload hx hb dX12_wrong_61 (lv_at hl 4 rfl) ?_
                refine lv_iadd hx hb dX12_wrong_63 ?_
                refine lv_topi (fun x53 ex53 => ?_)
                have ex53 : x53.toInt = (3 : Int) + v38_4.toInt := by rw [ex53]; exact wk_add (show (-2147483648) ≤ (3 : Int) + v38_4.toInt by omega) (show (3 : Int) + v38_4.toInt ≤ 2147483647 by omega)
                refine tk_Vi hC hK hw hT hA hE hSR kM_at0 (by decide) rfl (k_X12_streetOf_4 l adK adV dC dI cy ad B (by omega) (by omega) qr s1   v25_3 (show 0 ≤ v25_3.toInt by omega) (show v25_3.toInt ≤ 11 by omega) x53 (show 3 ≤ x53.toInt by omega) (show x53.toInt ≤ 9 by omega) w0 H.size hT ) (cwV 2 hC.2.2.2.2 gX12_wrong_X12_streetOf rfl rfl rfl (by decide +kernel) ⟨Nat.le_of_ble_eq_true rfl, Nat.le_of_ble_eq_true rfl⟩) rfl hl.1 rfl (Nat.le_of_ble_eq_true rfl) dX12_wrong_64 (fun r54 w56 H locs hp55 hw => ?_)
                obtain ⟨rfl, hg61⟩ := hp55
                obtain ⟨g58, g59, c60⟩ := hg61
                refine lv_aload_n hx hb dX12_wrong_67 rfl (lv_at hl 0 rfl) ?_
                refine lv_iload_n hx hb dX12_wrong_68 rfl (lv_at hl 3 rfl) ?_
                refine tk_Vi hC hK hw hT hA hE hSR kM_at0 (by decide) rfl (k_X12_cheapOf_1 l adK adV dC dI cy ad B (by omega) (by omega) qr s1   v25_3 (show 0 ≤ v25_3.toInt by omega) (show v25_3.toInt ≤ 11 by omega) w0 H.size hT ) (cwV 1 hC.2.2.2.2 gX12_wrong_X12_cheapOf rfl rfl rfl (by decide +kernel) ⟨Nat.le_of_ble_eq_true rfl, Nat.le_of_ble_eq_true rfl⟩) rfl hl.1 rfl (Nat.le_of_ble_eq_true rfl) dX12_wrong_69 (fun r62 w64 H locs hp63 hw => ?_)
                obtain ⟨rfl, hg68⟩ := hp63
                obtain ⟨g66, g67⟩ := hg68
                refine lv_icmp_eq (tgt := 79) hx hb dX12_wrong_72 (by decide) (fun c69 => ?_) (fun c69 => ?_)
                · have c69 : r54.toInt = r62.toInt := wk_eq.mp c69
                  refine lv_iconst (v := 0) hx hb dX12_wrong_79 (by decide) ?_
                  refine lv_iadd hx hb dX12_wrong_80 ?_
                  have nx70 := wk_i32 v38_2
                  refine lv_topi (fun x71 ex71 => ?_)
                  have ex71 : x71.toInt = v38_2.toInt + (0 : Int) := by rw [ex71]; exact wk_add (show (-2147483648) ≤ v38_2.toInt + (0 : Int) by omega) (show v38_2.toInt + (0 : Int) ≤ 2147483647 by omega)
                  refine lv_istore_n (lv' := [(2, .int x71), (0, .ref (ad 0)), (1, .int a1), (3, .int v25_3), (4, .int v38_4)]) hx hb dX12_wrong_81 rfl hl (by decide) rfl (fun ls hl => ?_)
                  obtain ⟨x72, ex72⟩ : ∃ y : Int32, y = v38_4 + Int32.ofInt 1 := ⟨_, rfl⟩
                  refine lv_iinc (v := x72) (lv' := [(4, .int x72), (2, .int x71), (0, .ref (ad 0)), (1, .int a1), (3, .int v25_3)]) hx hb dX12_wrong_82 hl (k := 4) rfl ex72.symm (by decide) rfl (fun ls hl => ?_)
                  have ex72 : x72.toInt = v38_4.toInt + 1 := by rw [ex72]; exact wk_add (y := 1) (show -2147483648 ≤ v38_4.toInt + 1 by omega) (show v38_4.toInt + 1 ≤ 2147483647 by omega)
                  refine lv_goto (tgt := 38) hx hb dX12_wrong_85 (by decide) ?_
                  exact ih38 x71 x72 f38_12_1 H locs ls  (show 0 ≤ a1.toInt by omega) (show a1.toInt ≤ 7 by omega) (show 0 ≤ v25_3.toInt by omega) (show v25_3.toInt ≤ 11 by omega) (show 0 ≤ x72.toInt by omega) (show x72.toInt ≤ 7 by omega) (show 1 ≤ f25_12_0.toInt by omega) (show f25_12_0.toInt ≤ 10 by omega) (show 1 ≤ f38_12_1.toInt by omega) (show f38_12_1.toInt ≤ 12 by omega) (show (7 - x72.toInt).toNat < n38 by omega) hw  c19 c22 (lv_sub hl [2, 3, 1, 4, 0] rfl)
                · have c69 : ¬ r54.toInt = r62.toInt := wk_eqF c69
                  refine lv_iconst (v := 1) hx hb dX12_wrong_75 (by decide) ?_
                  refine lv_goto (tgt := 80) hx hb dX12_wrong_76 (by decide) ?_
                  refine lv_iadd hx hb dX12_wrong_80 ?_
                  have nx73 := wk_i32 v38_2
                  refine lv_topi (fun x74 ex74 => ?_)
                  refine lv_istore_n (lv' := [(2, .int x74), (0, .ref (ad 0)), (1, .int a1), (3, .int v25_3), (4, .int v38_4)]) hx hb dX12_wrong_81 rfl hl (by decide) rfl (fun ls hl => ?_)
                  obtain ⟨x75, ex75⟩ : ∃ y : Int32, y = v38_4 + Int32.ofInt 1 := ⟨_, rfl⟩
                  refine lv_iinc (v := x75) (lv' := [(4, .int x75), (2, .int x74), (0, .ref (ad 0)), (1, .int a1), (3, .int v25_3)]) hx hb dX12_wrong_82 hl (k := 4) rfl ex75.symm (by decide) rfl (fun ls hl => ?_)
                  have ex75 : x75.toInt = v38_4.toInt + 1 := by rw [ex75]; exact wk_add (y := 1) (show -2147483648 ≤ v38_4.toInt + 1 by omega) (show v38_4.toInt + 1 ≤ 2147483647 by omega)
                  refine lv_goto (tgt := 38) hx hb dX12_wrong_85 (by decide) ?_
                  exact ih38 x74 x75 f38_12_1 H locs ls  (show 0 ≤ a1.toInt by omega) (show a1.toInt ≤ 7 by omega) (show 0 ≤ v25_3.toInt by omega) (show v25_3.toInt ≤ 11 by omega) (show 0 ≤ x75.toInt by omega) (show x75.toInt ≤ 7 by omega) (show 1 ≤ f25_12_0.toInt by omega) (show f25_12_0.toInt ≤ 10 by omega) (show 1 ≤ f38_12_1.toInt by omega) (show f38_12_1.toInt ≤ 12 by omega) (show (7 - x75.toInt).toNat < n38 by omega) hw  c19 c22 (lv_sub hl [2, 3, 1, 4, 0] rfl)
      refine lv_iload_n hx hb dX12_wrong_25 rfl (lv_at hl 3 rfl) ?_
      refine lv_aload_n hx hb dX12_wrong_26 rfl (lv_at hl 0 rfl) ?_
      refine tk_getA hC hK hw hT hinX12 kM_at0 (by decide) rfl 26 (by decide) (List.mem_of_getElem? (i := 2) rfl) rfl rfl dX12_wrong_27 ?_
      refine lv_iconst (v := 1) hx hb dX12_wrong_30 (by decide) ?_
      refine tk_ialdR hC hK hw hT kM_at12 rfl (by decide) (by decide) dX12_wrong_31 (fun x76 c77 Ex76 => ?_)
      have bx76 : 0 ≤ x76.toInt ∧ x76.toInt ≤ 12 := (tk_rg1 rfl).mp Ex76
      have c77 : gi w0 12 1 = x76 := c77
      refine lv_icmp_ge (tgt := 94) hx hb dX12_wrong_32 (by decide) (fun c78 => ?_) (fun c78 => ?_)
      · have c78 : x76.toInt ≤ v25_3.toInt := wk_le.mp c78
        refine lv_iload_n hx hb dX12_wrong_94 rfl (lv_at hl 2 rfl) ?_
        exact tk_iret hC hr hlocks hK ⟨rfl, (Or.inl ⟨(show 0 ≤ a1.toInt by omega), (show a1.toInt ≤ 7 by omega), ⟨f25_12_0, c10, (show 1 ≤ f25_12_0.toInt by omega), (show f25_12_0.toInt ≤ 10 by omega)⟩⟩)⟩ hw dX12_wrong_95
      · have c78 : v25_3.toInt < x76.toInt := wk_leF c78
        refine lv_iconst (v := 0) hx hb dX12_wrong_35 (by decide) ?_
        refine lv_istore (lv' := [(4, .int 0), (0, .ref (ad 0)), (1, .int a1), (2, .int v25_2), (3, .int v25_3)]) hx hb dX12_wrong_36 hl (by decide) rfl (fun ls hl => ?_)
        exact L38 ((7 - (0 : Int)).toNat + 1) v25_2 0 x76 H locs ls  (show 0 ≤ a1.toInt by omega) (show a1.toInt ≤ 7 by omega) (show 0 ≤ v25_3.toInt by omega) (show v25_3.toInt ≤ 11 by omega) (by decide) (by decide) (show 1 ≤ f25_12_0.toInt by omega) (show f25_12_0.toInt ≤ 10 by omega) (show 1 ≤ x76.toInt by omega) (show x76.toInt ≤ 12 by omega) (Nat.lt_succ_self _) hw  c10 c77 (lv_sub hl [1, 2, 3, 4, 0] rfl)
  refine lv_aload_n hx hb dX12_wrong_0 rfl (lv_at hl 0 rfl) ?_
  refine tk_Vi hC hK hw hT hA hE hSR kM_at0 (by decide) rfl (k_X12_isTown_1 l adK adV dC dI cy ad B (by omega) (by omega) qr s1    w0 s.heap.size hT ) (cwV 0 hC.2.2.2.2 gX12_wrong_X12_isTown rfl rfl rfl (by decide +kernel) ⟨Nat.le_of_ble_eq_true rfl, Nat.le_of_ble_eq_true rfl⟩) rfl hl.1 rfl (Nat.le_of_ble_eq_true rfl) dX12_wrong_1 (fun r79 w81 H locs hp80 hw => ?_)
  obtain ⟨rfl, hg87⟩ := hp80
  rcases hg87 with ⟨rfl, ⟨x83, c84, rx83, tx83⟩⟩ | ⟨rfl, ⟨x85, c86, rx85, tx85⟩⟩
  · refine lv_if_eq (tgt := 19) hx hb dX12_wrong_4 (by decide) (fun _ => ?_) (fun c => absurd (by decide) c)
    exact J19 x83 H locs ls  (show 0 ≤ x83.toInt by omega) (show x83.toInt ≤ 10 by omega)  hw  c84 (lv_sub hl [0, 1] rfl)
  · refine lv_if_eq (tgt := 19) hx hb dX12_wrong_4 (by decide) (fun c => absurd c (by decide)) (fun _ => ?_)
    refine lv_iload_n hx hb dX12_wrong_7 rfl (lv_at hl 1 rfl) ?_
    refine lv_i2l hx hb dX12_wrong_8 rfl ?_
    refine lv_topl (fun x88 ex88 => ?_)
    have ex88 : x88.toInt = a1.toInt := by rw [ex88]; exact wk_i2l _
    have bx88 := wk_i32 a1
    refine lv_lconst (v := 0) hx hb dX12_wrong_9 (by decide) ?_
    refine lv_ldc2 (v := 7) hx hb hC.2.2.2.1 (hC.2.2.2.2 _ (List.mem_of_getElem? (i := 1) rfl)) dX12_wrong_10 ?_
    refine tk_Si hC hK hw hT hA hE hSR (k_X12_in_13 l adK adV dC dI cy ad B (by omega) (by omega) qr s1   x88 (show (-2147483648) ≤ x88.toInt by omega) (show x88.toInt ≤ 2147483647 by omega) w0 H.size hT ) (va_cwS 3 hC.2.2.2.2 gX12_wrong_X12_in rfl rfl rfl (by decide +kernel) ⟨Nat.le_of_ble_eq_true rfl, Nat.le_of_ble_eq_true rfl⟩) rfl hl.1 rfl (Nat.le_of_ble_eq_true rfl) dX12_wrong_13 (fun r89 w91 H locs hp90 hw => ?_)
    obtain ⟨rfl, hg95⟩ := hp90
    rcases hg95 with rfl | ⟨rfl, g93, g94⟩
    · refine lv_if_ne (tgt := 21) hx hb dX12_wrong_16 (by decide) (fun c => absurd (by decide) c) (fun _ => ?_)
      exact J19 x85 H locs ls  (show 0 ≤ x85.toInt by omega) (show x85.toInt ≤ 10 by omega)  hw  c86 (lv_sub hl [0, 1] rfl)
    · refine lv_if_ne (tgt := 21) hx hb dX12_wrong_16 (by decide) (fun _ => ?_) (fun c => absurd c (by decide))
      refine lv_iconst (v := 0) hx hb dX12_wrong_21 (by decide) ?_
      refine lv_istore_n (lv' := [(2, .int 0), (0, .ref (ad 0)), (1, .int a1)]) hx hb dX12_wrong_22 rfl hl (by decide) rfl (fun ls hl => ?_)
      refine lv_iconst (v := 0) hx hb dX12_wrong_23 (by decide) ?_
      refine lv_istore_n (lv' := [(3, .int 0), (2, .int 0), (0, .ref (ad 0)), (1, .int a1)]) hx hb dX12_wrong_24 rfl hl (by decide) rfl (fun ls hl => ?_)
      exact L25 ((12 - (0 : Int)).toNat + 1) 0 0 x85 H locs ls  (show 0 ≤ a1.toInt by omega) (show a1.toInt ≤ 7 by omega) (by decide) (by decide) (show 1 ≤ x85.toInt by omega) (show x85.toInt ≤ 10 by omega) (Nat.lt_succ_self _) hw  c86 (lv_sub hl [2, 3, 1, 0] rfl)
abbrev P_X12_errand_1 (ad : Nat → Nat) (cy : Nat → ClassId) (B : Int) (qr : Nat) (s1 : Int) (a1 : Int32) (a2 : Int32) (w0 : va_W) : Int32 → va_W → Prop := fun r u => TW ksM ad cy B qr 12 u ∧ FE ksM [(71, 6, 6), (71, 252, 262), (71, 253, 263)] w0 u ∧ ((r = (-2)) ∨ (0 ≤ r.toInt ∧ r.toInt ≤ 6 ∧ (-1) ≤ a1.toInt ∧ a1.toInt ≤ 9 ∧ (∃ y : Int32, gi u 12 6 = y ∧ 0 ≤ y.toInt ∧ y.toInt ≤ 6)))
set_option maxHeartbeats 4000000 in
set_option maxRecDepth 100000 in
theorem k_X12_errand_1 (l : Launch) (adK adV : Nat → Nat) (dC : Nat → ClassId) (dI : Nat → Nat → Nat) (cy : Nat → ClassId) (ad : Nat → Nat) (B : Int) (hB0 : 100000 ≤ B) (hB1 : B ≤ 1073741824) (qr : Nat) (s1 : Int)  (a1 : Int32) (a2 : Int32) (w0 : va_W) (sz : Nat) (hT : TW ksM ad cy B qr 12 w0)  : Met l yX12_errand wsX12_errand ({ frames := 2, cells := 0, slots := 0, locals := 33 }) (va_Pc [.ref (ad 0), .int a1, .int a2] (wpreS adK adV dC dI cy sz w0)) (va_Qi (P_X12_errand_1 ad cy B qr s1 a1 a2 w0) (fun u : va_W => wpost dC dI cy (va_A w0 sz) u) (va_A w0 sz)) 0 0 (va_A w0 sz) := by
  refine Met.ofW (cc := cX12_errand) (maxL := 3) (ret := (some .int)) (by decide) rfl ?_
  intro p e s m args below meth c s₁ Bk hml hv
  obtain ⟨rfl, ⟨hsz, hP, hK, hD0⟩, hE, hSR⟩ := hv
  have hx := Bk.exec
  have hb := Bk.bytes
  have hr := Bk.returns
  have hlocks := Bk.notSynchronized
  have hC : CallFix p m c cX12_errand 3 s _ wsX12_errand RX12 := ⟨hx, hb, hml, findClass_of_methodNamed Bk.named, atoms_spec (ws := wsX12_errand) Bk.pre⟩
  subst hsz
  have hD := hD0.self (sz := s.heap.size)
  generalize hAe : va_A w0 s.heap.size = A at hD hE ⊢
  have hA : ∀ q : Nat, s.heap.size ≤ q → A q := fun q h => by rw [← hAe]; exact Or.inr h
  have hw : Wd dC dI A s.heap s.heap [] w0 := ⟨hP, hD, va_S.rf⟩
  have hF : FE ksM [(71, 6, 6), (71, 252, 262), (71, 253, 263)] w0 w0 := FE.rf
  have hl := lv_entry ([.ref (ad 0), .int a1, .int a2]) (n := 3) (Nat.le_of_ble_eq_true rfl)
  rw [lg_entry_eq]
  generalize (lg_sl ([.ref (ad 0), .int a1, .int a2]) ++ List.replicate (3 - (lg_sl ([.ref (ad 0), .int a1, .int a2])).length) Slot.unset).toArray = ls at hl ⊢
  have hl : lv_has ls 3 [(0, .ref (ad 0)), (1, .int a1), (2, .int a2)] := hl
  generalize hloc : ([] : List Loc) = locs at hw ⊢
  have hinX12 : ∀ w ∈ u_ws RX12 TX12 42, w ∈ wsX12_errand := fun _ h => List.mem_cons_of_mem _ (List.mem_append_right _ (h))
  have J48 : ∀ (H : Heap) (locs : List Loc) (ls : Array Slot) (w1 : va_W), Wd dC dI A s.heap H locs w1 → TW ksM ad cy B qr 12 w1 → FE ksM [(71, 6, 6), (71, 252, 262), (71, 253, 263)] w0 w1 → lv_has ls 3 [(0, .ref (ad 0)), (1, .int a1), (2, .int a2)] → W p l e ({ frames := 2, cells := 0, slots := 0, locals := 33 }) s m (List.toArray [.ref (ad 0), .int a1, .int a2]) below meth c H locs 0 0 (MQ below (va_Qi (P_X12_errand_1 ad cy B qr s1 a1 a2 w0) (fun u : va_W => wpost dC dI cy A u) A) (List.toArray [.ref (ad 0), .int a1, .int a2]) s 0 0 A) (F0 m 48 ls []) := by
    intro H locs ls w1 hw hT hF hl
    refine lv_bipush (v := (-2)) hx hb dX12_errand_48 (by decide) ?_
    exact tk_iret hC hr hlocks hK ⟨hT, hF, (Or.inl rfl)⟩ hw dX12_errand_50
  refine lv_iload_n hx hb dX12_errand_0 rfl (lv_at hl 1 rfl) ?_
  refine lv_iconst (v := (-1)) hx hb dX12_errand_1 (by decide) ?_
  refine lv_icmp_ne (tgt := 15) hx hb dX12_errand_2 (by decide) (fun c2 => ?_) (fun c2 => ?_)
  · have c2 : ¬ a1.toInt = (-1 : Int) := wk_eqF c2
    refine lv_aload_n hx hb dX12_errand_15 rfl (lv_at hl 0 rfl) ?_
    refine lv_iload_n hx hb dX12_errand_16 rfl (lv_at hl 1 rfl) ?_
    refine tk_Vi hC hK hw hT hA hE hSR kM_at0 (by decide) rfl (k_X12_isCorner_1 l adK adV dC dI cy ad B (by omega) (by omega) qr s1   a1 w0 s.heap.size hT ) (cwV 1 hC.2.2.2.2 gX12_errand_X12_isCorner rfl rfl rfl (by decide +kernel) ⟨Nat.le_of_ble_eq_true rfl, Nat.le_of_ble_eq_true rfl⟩) rfl hl.1 rfl (Nat.le_of_ble_eq_true rfl) dX12_errand_17 (fun r3 w5 H locs hp4 hw => ?_)
    obtain ⟨rfl, hg11⟩ := hp4
    rcases hg11 with rfl | ⟨rfl, g7, g8, ⟨x9, c10, rx9, tx9⟩⟩
    · refine lv_if_eq (tgt := 48) hx hb dX12_errand_20 (by decide) (fun _ => ?_) (fun c => absurd (by decide) c)
      exact J48  H locs ls w0   hw hT hF  (lv_sub hl [0, 1, 2] rfl)
    · refine lv_if_eq (tgt := 48) hx hb dX12_errand_20 (by decide) (fun c => absurd c (by decide)) (fun _ => ?_)
      refine lv_aload_n hx hb dX12_errand_23 rfl (lv_at hl 0 rfl) ?_
      refine lv_iload_n hx hb dX12_errand_24 rfl (lv_at hl 2 rfl) ?_
      refine tk_Vi hC hK hw hT hA hE hSR kM_at0 (by decide) rfl (k_X12_isCorner_1 l adK adV dC dI cy ad B (by omega) (by omega) qr s1   a2 w0 H.size hT ) (cwV 1 hC.2.2.2.2 gX12_errand_X12_isCorner rfl rfl rfl (by decide +kernel) ⟨Nat.le_of_ble_eq_true rfl, Nat.le_of_ble_eq_true rfl⟩) rfl hl.1 rfl (Nat.le_of_ble_eq_true rfl) dX12_errand_25 (fun r12 w14 H locs hp13 hw => ?_)
      obtain ⟨rfl, hg20⟩ := hp13
      rcases hg20 with rfl | ⟨rfl, g16, g17, ⟨x18, c19, rx18, tx18⟩⟩
      · refine lv_if_eq (tgt := 48) hx hb dX12_errand_28 (by decide) (fun _ => ?_) (fun c => absurd (by decide) c)
        exact J48  H locs ls w0   hw hT hF  (lv_sub hl [0, 1, 2] rfl)
      · have ex18 : x18.toInt = x9.toInt := by rw [← c10.symm.trans c19]
        refine lv_if_eq (tgt := 48) hx hb dX12_errand_28 (by decide) (fun c => absurd c (by decide)) (fun _ => ?_)
        refine lv_iload_n hx hb dX12_errand_31 rfl (lv_at hl 1 rfl) ?_
        refine lv_iload_n hx hb dX12_errand_32 rfl (lv_at hl 2 rfl) ?_
        refine lv_icmp_eq (tgt := 48) hx hb dX12_errand_33 (by decide) (fun c21 => ?_) (fun c21 => ?_)
        · have c21 : a1.toInt = a2.toInt := wk_eq.mp c21
          exact J48  H locs ls w0   hw hT hF  (lv_sub hl [0, 1, 2] rfl)
        · have c21 : ¬ a1.toInt = a2.toInt := wk_eqF c21
          refine lv_aload_n hx hb dX12_errand_36 rfl (lv_at hl 0 rfl) ?_
          refine tk_getA hC hK hw hT hinX12 kM_at0 (by decide) rfl 26 (by decide) (List.mem_of_getElem? (i := 1) rfl) rfl rfl dX12_errand_37 ?_
          refine lv_bipush (v := 6) hx hb dX12_errand_40 (by decide) ?_
          refine tk_ialdR hC hK hw hT kM_at12 rfl (by decide) (by decide) dX12_errand_42 (fun x22 c23 Ex22 => ?_)
          have bx22 := tk_rgI rfl 6 1 1 0 6 (by decide +kernel) ⟨0, by decide, by decide⟩ Ex22
          have c23 : gi w0 12 6 = x22 := c23
          refine lv_bipush (v := 6) hx hb dX12_errand_43 (by decide) ?_
          refine lv_icmp_ne (tgt := 51) hx hb dX12_errand_45 (by decide) (fun c24 => ?_) (fun c24 => ?_)
          · have c24 : ¬ x22.toInt = (6 : Int) := wk_eqF c24
            refine lv_aload_n hx hb dX12_errand_51 rfl (lv_at hl 0 rfl) ?_
            refine tk_getA hC hK hw hT hinX12 kM_at0 (by decide) rfl 26 (by decide) (List.mem_of_getElem? (i := 1) rfl) rfl rfl dX12_errand_52 ?_
            refine lv_sipush (v := 252) hx hb dX12_errand_55 (by decide) ?_
            refine lv_iconst (v := 2) hx hb dX12_errand_58 (by decide) ?_
            refine lv_aload_n hx hb dX12_errand_59 rfl (lv_at hl 0 rfl) ?_
            refine tk_getA hC hK hw hT hinX12 kM_at0 (by decide) rfl 26 (by decide) (List.mem_of_getElem? (i := 1) rfl) rfl rfl dX12_errand_60 ?_
            refine lv_bipush (v := 6) hx hb dX12_errand_63 (by decide) ?_
            refine tk_ialdR hC hK hw hT kM_at12 rfl (by decide) (by decide) dX12_errand_65 (fun x25 c26 Ex25 => ?_)
            refine wk_top x22 (c26.symm.trans c23) ?_
            refine lv_imul hx hb dX12_errand_66 ?_
            refine lv_topi (fun x27 ex27 => ?_)
            have ex27 : x27.toInt = (2 : Int) * x22.toInt := by rw [ex27]; exact wk_mul (show (-2147483648) ≤ (2 : Int) * x22.toInt by omega) (show (2 : Int) * x22.toInt ≤ 2147483647 by omega)
            refine lv_iadd hx hb dX12_errand_67 ?_
            refine lv_topi (fun x28 ex28 => ?_)
            have ex28 : x28.toInt = (252 : Int) + x27.toInt := by rw [ex28]; exact wk_add (show (-2147483648) ≤ (252 : Int) + x27.toInt by omega) (show (252 : Int) + x27.toInt ≤ 2147483647 by omega)
            refine lv_iload_n hx hb dX12_errand_68 rfl (lv_at hl 1 rfl) ?_
            refine tk_iastR hC hK hw hT kM_at12 (by decide) rfl (show 0 ≤ x28.toInt by omega) (show x28.toInt < 296 by omega) (tk_rgS rfl 252 2 6 0 9 (by decide +kernel) ⟨(x22.toInt - 0).toNat, by omega, show x28.toInt.toNat = 252 + 2 * (x22.toInt - 0).toNat by omega⟩ (show 0 ≤ a1.toInt by omega) (show a1.toInt ≤ 9 by omega)) dX12_errand_69 (fun H locs w29 hw hT k31 c30 => ?_)
            have hF := hF.put kM_at12 (inE_of (a := 252) (b := 262) (by decide) (show 252 ≤ x28.toInt.toNat by omega) (show x28.toInt.toNat ≤ 262 by omega)) k31
            have c32 := k31.gi (Or.inr (show 0 ≠ x28.toInt.toNat by omega)) c10
            have c33 := k31.gi (Or.inr (show 6 ≠ x28.toInt.toNat by omega)) c23
            refine lv_aload_n hx hb dX12_errand_70 rfl (lv_at hl 0 rfl) ?_
            refine tk_getA hC hK hw hT hinX12 kM_at0 (by decide) rfl 26 (by decide) (List.mem_of_getElem? (i := 1) rfl) rfl rfl dX12_errand_71 ?_
            refine lv_sipush (v := 252) hx hb dX12_errand_74 (by decide) ?_
            refine lv_iconst (v := 2) hx hb dX12_errand_77 (by decide) ?_
            refine lv_aload_n hx hb dX12_errand_78 rfl (lv_at hl 0 rfl) ?_
            refine tk_getA hC hK hw hT hinX12 kM_at0 (by decide) rfl 26 (by decide) (List.mem_of_getElem? (i := 1) rfl) rfl rfl dX12_errand_79 ?_
            refine lv_bipush (v := 6) hx hb dX12_errand_82 (by decide) ?_
            refine tk_ialdR hC hK hw hT kM_at12 rfl (by decide) (by decide) dX12_errand_84 (fun x34 c35 Ex34 => ?_)
            refine wk_top x22 (c35.symm.trans c33) ?_
            refine lv_imul hx hb dX12_errand_85 ?_
            refine lv_topi (fun x36 ex36 => ?_)
            have ex36 : x36.toInt = (2 : Int) * x22.toInt := by rw [ex36]; exact wk_mul (show (-2147483648) ≤ (2 : Int) * x22.toInt by omega) (show (2 : Int) * x22.toInt ≤ 2147483647 by omega)
            refine lv_iadd hx hb dX12_errand_86 ?_
            refine lv_topi (fun x37 ex37 => ?_)
            have ex37 : x37.toInt = (252 : Int) + x36.toInt := by rw [ex37]; exact wk_add (show (-2147483648) ≤ (252 : Int) + x36.toInt by omega) (show (252 : Int) + x36.toInt ≤ 2147483647 by omega)
            refine lv_iconst (v := 1) hx hb dX12_errand_87 (by decide) ?_
            refine lv_iadd hx hb dX12_errand_88 ?_
            refine lv_topi (fun x38 ex38 => ?_)
            have ex38 : x38.toInt = x37.toInt + (1 : Int) := by rw [ex38]; exact wk_add (show (-2147483648) ≤ x37.toInt + (1 : Int) by omega) (show x37.toInt + (1 : Int) ≤ 2147483647 by omega)
            refine lv_iload_n hx hb dX12_errand_89 rfl (lv_at hl 2 rfl) ?_
            refine tk_iastR hC hK hw hT kM_at12 (by decide) rfl (show 0 ≤ x38.toInt by omega) (show x38.toInt < 296 by omega) (tk_rgS rfl 253 2 6 0 9 (by decide +kernel) ⟨(x22.toInt - 0).toNat, by omega, show x38.toInt.toNat = 253 + 2 * (x22.toInt - 0).toNat by omega⟩ (show 0 ≤ a2.toInt by omega) (show a2.toInt ≤ 9 by omega)) dX12_errand_90 (fun H locs w39 hw hT k41 c40 => ?_)
            have hF := hF.put kM_at12 (inE_of (a := 253) (b := 263) (by decide) (show 253 ≤ x38.toInt.toNat by omega) (show x38.toInt.toNat ≤ 263 by omega)) k41
            have c42 := k41.gi (Or.inr (show 0 ≠ x38.toInt.toNat by omega)) c32
            have c43 := k41.gi (Or.inr (show 6 ≠ x38.toInt.toNat by omega)) c33
            refine lv_aload_n hx hb dX12_errand_91 rfl (lv_at hl 0 rfl) ?_
            refine tk_getA hC hK hw hT hinX12 kM_at0 (by decide) rfl 26 (by decide) (List.mem_of_getElem? (i := 1) rfl) rfl rfl dX12_errand_92 ?_
            refine lv_bipush (v := 6) hx hb dX12_errand_95 (by decide) ?_
            refine lv_dup2_11 hx hb dX12_errand_97 rfl rfl ?_
            refine tk_ialdR hC hK hw hT kM_at12 rfl (by decide) (by decide) dX12_errand_98 (fun x44 c45 Ex44 => ?_)
            refine wk_top x22 (c45.symm.trans c43) ?_
            refine lv_iconst (v := 1) hx hb dX12_errand_99 (by decide) ?_
            refine lv_iadd hx hb dX12_errand_100 ?_
            refine lv_topi (fun x46 ex46 => ?_)
            have ex46 : x46.toInt = x22.toInt + (1 : Int) := by rw [ex46]; exact wk_add (show (-2147483648) ≤ x22.toInt + (1 : Int) by omega) (show x22.toInt + (1 : Int) ≤ 2147483647 by omega)
            refine tk_iastR hC hK hw hT kM_at12 (by decide) rfl (by decide) (by decide) (tk_rgS rfl 6 1 1 1 6 (by decide +kernel) ⟨0, by decide, by decide⟩ (show 1 ≤ x46.toInt by omega) (show x46.toInt ≤ 6 by omega)) dX12_errand_101 (fun H locs w47 hw hT k49 c48 => ?_)
            have hF := hF.put kM_at12 (inE_of (a := 6) (b := 6) (by decide) (by decide) (by decide)) k49
            have c50 := k49.gi (Or.inr (by decide)) c42
            have c48 : gi w47 12 6 = x46 := c48
            refine lv_aload_n hx hb dX12_errand_102 rfl (lv_at hl 0 rfl) ?_
            refine tk_getA hC hK hw hT hinX12 kM_at0 (by decide) rfl 26 (by decide) (List.mem_of_getElem? (i := 1) rfl) rfl rfl dX12_errand_103 ?_
            refine lv_bipush (v := 6) hx hb dX12_errand_106 (by decide) ?_
            refine tk_ialdR hC hK hw hT kM_at12 rfl (by decide) (by decide) dX12_errand_108 (fun x51 c52 Ex51 => ?_)
            refine wk_top x46 (c52.symm.trans c48) ?_
            exact tk_iret hC hr hlocks hK ⟨hT, hF, (Or.inr ⟨(show 0 ≤ x46.toInt by omega), (show x46.toInt ≤ 6 by omega), (show (-1) ≤ a1.toInt by omega), (show a1.toInt ≤ 9 by omega), ⟨x46, c48, (show 0 ≤ x46.toInt by omega), (show x46.toInt ≤ 6 by omega)⟩⟩)⟩ hw dX12_errand_109
          · have c24 : x22.toInt = (6 : Int) := wk_eq.mp c24
            exact J48  H locs ls w0   hw hT hF  (lv_sub hl [0, 1, 2] rfl)
  · have c2 : a1.toInt = (-1 : Int) := wk_eq.mp c2
    refine lv_aload_n hx hb dX12_errand_5 rfl (lv_at hl 0 rfl) ?_
    refine tk_getA hC hK hw hT hinX12 kM_at0 (by decide) rfl 26 (by decide) (List.mem_of_getElem? (i := 1) rfl) rfl rfl dX12_errand_6 ?_
    refine lv_bipush (v := 6) hx hb dX12_errand_9 (by decide) ?_
    refine lv_iconst (v := 0) hx hb dX12_errand_11 (by decide) ?_
    refine tk_iastR hC hK hw hT kM_at12 (by decide) rfl (by decide) (by decide) (tk_rg0 rfl (show 0 ≤ B by omega) (by decide)) dX12_errand_12 (fun H locs w53 hw hT k55 c54 => ?_)
    have hF := hF.put kM_at12 (inE_of (a := 6) (b := 6) (by decide) (by decide) (by decide)) k55
    have c54 : gi w53 12 6 = 0 := c54
    refine lv_iconst (v := 0) hx hb dX12_errand_13 (by decide) ?_
    exact tk_iret hC hr hlocks hK ⟨hT, hF, (Or.inr ⟨(by decide), (by decide), (show (-1) ≤ a1.toInt by omega), (show a1.toInt ≤ 9 by omega), ⟨0, c54, (by decide), (by decide)⟩⟩)⟩ hw dX12_errand_14
abbrev P_X12_bits_1 (ad : Nat → Nat) (cy : Nat → ClassId) (B : Int) (qr : Nat) (s1 : Int) (a0 : Int32) (w0 : va_W) : Int32 → va_W → Prop := fun r u => w0 = u ∧ ((True))
set_option maxHeartbeats 4000000 in
set_option maxRecDepth 100000 in
theorem k_X12_bits_1 (l : Launch) (adK adV : Nat → Nat) (dC : Nat → ClassId) (dI : Nat → Nat → Nat) (cy : Nat → ClassId) (ad : Nat → Nat) (B : Int) (hB0 : 100000 ≤ B) (hB1 : B ≤ 1073741824) (qr : Nat) (s1 : Int)  (a0 : Int32) (ra0 : 0 ≤ a0.toInt) (ta0 : a0.toInt ≤ 63) (w0 : va_W) (sz : Nat) (hT : TW ksM ad cy B qr 12 w0)  : Met l yX12_bits wsX12_bits ({ frames := 1, cells := 0, slots := 0, locals := 12 }) (va_Pc [.int a0] (wpreS adK adV dC dI cy sz w0)) (va_Qi (P_X12_bits_1 ad cy B qr s1 a0 w0) (fun u : va_W => wpost dC dI cy (va_A w0 sz) u) (va_A w0 sz)) 0 0 (va_A w0 sz) := by
  refine Met.ofW (cc := cX12_bits) (maxL := 3) (ret := (some .int)) (by decide) rfl ?_
  intro p e s m args below meth c s₁ Bk hml hv
  obtain ⟨rfl, ⟨hsz, hP, hK, hD0⟩, hE, hSR⟩ := hv
  have hx := Bk.exec
  have hb := Bk.bytes
  have hr := Bk.returns
  have hlocks := Bk.notSynchronized
  have hC : CallFix p m c cX12_bits 3 s _ wsX12_bits RX12 := ⟨hx, hb, hml, findClass_of_methodNamed Bk.named, atoms_spec (ws := wsX12_bits) Bk.pre⟩
  subst hsz
  have hD := hD0.self (sz := s.heap.size)
  generalize hAe : va_A w0 s.heap.size = A at hD hE ⊢
  have hA : ∀ q : Nat, s.heap.size ≤ q → A q := fun q h => by rw [← hAe]; exact Or.inr h
  have hw : Wd dC dI A s.heap s.heap [] w0 := ⟨hP, hD, va_S.rf⟩
  have hF : FE ksM ([] : List (Nat × Nat × Nat)) w0 w0 := FE.rf
  have hl := lv_entry ([.int a0]) (n := 3) (Nat.le_of_ble_eq_true rfl)
  rw [lg_entry_eq]
  generalize (lg_sl ([.int a0]) ++ List.replicate (3 - (lg_sl ([.int a0])).length) Slot.unset).toArray = ls at hl ⊢
  have hl : lv_has ls 3 [(0, .int a0)] := hl
  generalize hloc : ([] : List Loc) = locs at hw ⊢
  have L4 : ∀ (n4 : Nat) (v4_1 : Int32) (v4_2 : Int32) (H : Heap) (locs : List Loc) (ls : Array Slot), 0 ≤ a0.toInt → a0.toInt ≤ 63 → 0 ≤ v4_2.toInt → v4_2.toInt ≤ 63 → (v4_2.toInt - 0).toNat < n4 → Wd dC dI A s.heap H locs w0 → lv_has ls 3 [(0, .int a0), (1, .int v4_1), (2, .int v4_2)] → W p l e ({ frames := 1, cells := 0, slots := 0, locals := 12 }) s m (List.toArray [.int a0]) below meth c H locs 0 0 (MQ below (va_Qi (P_X12_bits_1 ad cy B qr s1 a0 w0) (fun u : va_W => wpost dC dI cy A u) A) (List.toArray [.int a0]) s 0 0 A) (F0 m 4 ls []) := by
    intro n4
    induction n4 with
    | zero => intro v4_1 v4_2 H locs ls r1 t2 r3 t4 hm4 hw hl; omega
    | succ n4 ih4 =>
      intro v4_1 v4_2 H locs ls r1 t2 r3 t4 hm4 hw hl
      refine lv_iload_n hx hb dX12_bits_4 rfl (lv_at hl 2 rfl) ?_
      refine lv_if_eq (tgt := 20) hx hb dX12_bits_5 (by decide) (fun c5 => ?_) (fun c5 => ?_)
      · have c5 : v4_2.toInt = (0 : Int) := wk_eq.mp c5
        refine lv_iload_n hx hb dX12_bits_20 rfl (lv_at hl 1 rfl) ?_
        exact tk_iret hC hr hlocks hK ⟨rfl, trivial⟩ hw dX12_bits_21
      · have c5 : ¬ v4_2.toInt = (0 : Int) := wk_eqF c5
        have nx7 := wk_i32 v4_1
        obtain ⟨x6, ex6⟩ : ∃ y : Int32, y = v4_1 + Int32.ofInt 1 := ⟨_, rfl⟩
        refine lv_iinc (v := x6) (lv' := [(1, .int x6), (0, .int a0), (2, .int v4_2)]) hx hb dX12_bits_8 hl (k := 1) rfl ex6.symm (by decide) rfl (fun ls hl => ?_)
        refine lv_iload_n hx hb dX12_bits_11 rfl (lv_at hl 2 rfl) ?_
        refine lv_iload_n hx hb dX12_bits_12 rfl (lv_at hl 2 rfl) ?_
        refine lv_iconst (v := 1) hx hb dX12_bits_13 (by decide) ?_
        refine lv_isub hx hb dX12_bits_14 ?_
        refine lv_topi (fun x8 ex8 => ?_)
        have ex8 : x8.toInt = v4_2.toInt - (1 : Int) := by rw [ex8]; exact wk_sub (show (-2147483648) ≤ v4_2.toInt - (1 : Int) by omega) (show v4_2.toInt - (1 : Int) ≤ 2147483647 by omega)
        refine lv_iand hx hb dX12_bits_15 ?_
        refine lv_topi (fun x9 ex9 => ?_)
        have bx9 : 0 ≤ x9.toInt ∧ x9.toInt ≤ x8.toInt := by rw [ex9]; exact wk_and (by omega)
        refine lv_istore_n (lv' := [(2, .int x9), (1, .int x6), (0, .int a0)]) hx hb dX12_bits_16 rfl hl (by decide) rfl (fun ls hl => ?_)
        refine lv_goto (tgt := 4) hx hb dX12_bits_17 (by decide) ?_
        exact ih4 x6 x9 H locs ls  (show 0 ≤ a0.toInt by omega) (show a0.toInt ≤ 63 by omega) (show 0 ≤ x9.toInt by omega) (show x9.toInt ≤ 63 by omega) (show (x9.toInt - 0).toNat < n4 by omega) hw   (lv_sub hl [2, 1, 0] rfl)
  refine lv_iconst (v := 0) hx hb dX12_bits_0 (by decide) ?_
  refine lv_istore_n (lv' := [(1, .int 0), (0, .int a0)]) hx hb dX12_bits_1 rfl hl (by decide) rfl (fun ls hl => ?_)
  refine lv_iload_n hx hb dX12_bits_2 rfl (lv_at hl 1 rfl) ?_
  refine lv_istore_n (lv' := [(2, .int a0), (1, .int 0), (0, .int a0)]) hx hb dX12_bits_3 rfl hl (by decide) rfl (fun ls hl => ?_)
  exact L4 ((a0.toInt - 0).toNat + 1) 0 a0 s.heap locs ls  (show 0 ≤ a0.toInt by omega) (show a0.toInt ≤ 63 by omega) (show 0 ≤ a0.toInt by omega) (show a0.toInt ≤ 63 by omega) (Nat.lt_succ_self _) hw   (lv_sub hl [2, 1, 0] rfl)
abbrev P_X12_bits_2 (ad : Nat → Nat) (cy : Nat → ClassId) (B : Int) (qr : Nat) (s1 : Int) (a0 : Int32) (w0 : va_W) : Int32 → va_W → Prop := fun r u => w0 = u ∧ ((True))
set_option maxHeartbeats 4000000 in
set_option maxRecDepth 100000 in
theorem k_X12_bits_2 (l : Launch) (adK adV : Nat → Nat) (dC : Nat → ClassId) (dI : Nat → Nat → Nat) (cy : Nat → ClassId) (ad : Nat → Nat) (B : Int) (hB0 : 100000 ≤ B) (hB1 : B ≤ 1073741824) (qr : Nat) (s1 : Int)  (a0 : Int32) (ra0 : 1 ≤ a0.toInt) (ta0 : a0.toInt ≤ 63) (w0 : va_W) (sz : Nat) (hT : TW ksM ad cy B qr 12 w0)  : Met l yX12_bits wsX12_bits ({ frames := 1, cells := 0, slots := 0, locals := 12 }) (va_Pc [.int a0] (wpreS adK adV dC dI cy sz w0)) (va_Qi (P_X12_bits_2 ad cy B qr s1 a0 w0) (fun u : va_W => wpost dC dI cy (va_A w0 sz) u) (va_A w0 sz)) 0 0 (va_A w0 sz) := by
  refine Met.ofW (cc := cX12_bits) (maxL := 3) (ret := (some .int)) (by decide) rfl ?_
  intro p e s m args below meth c s₁ Bk hml hv
  obtain ⟨rfl, ⟨hsz, hP, hK, hD0⟩, hE, hSR⟩ := hv
  have hx := Bk.exec
  have hb := Bk.bytes
  have hr := Bk.returns
  have hlocks := Bk.notSynchronized
  have hC : CallFix p m c cX12_bits 3 s _ wsX12_bits RX12 := ⟨hx, hb, hml, findClass_of_methodNamed Bk.named, atoms_spec (ws := wsX12_bits) Bk.pre⟩
  subst hsz
  have hD := hD0.self (sz := s.heap.size)
  generalize hAe : va_A w0 s.heap.size = A at hD hE ⊢
  have hA : ∀ q : Nat, s.heap.size ≤ q → A q := fun q h => by rw [← hAe]; exact Or.inr h
  have hw : Wd dC dI A s.heap s.heap [] w0 := ⟨hP, hD, va_S.rf⟩
  have hF : FE ksM ([] : List (Nat × Nat × Nat)) w0 w0 := FE.rf
  have hl := lv_entry ([.int a0]) (n := 3) (Nat.le_of_ble_eq_true rfl)
  rw [lg_entry_eq]
  generalize (lg_sl ([.int a0]) ++ List.replicate (3 - (lg_sl ([.int a0])).length) Slot.unset).toArray = ls at hl ⊢
  have hl : lv_has ls 3 [(0, .int a0)] := hl
  generalize hloc : ([] : List Loc) = locs at hw ⊢
  have L4 : ∀ (n4 : Nat) (v4_1 : Int32) (v4_2 : Int32) (H : Heap) (locs : List Loc) (ls : Array Slot), 1 ≤ a0.toInt → a0.toInt ≤ 63 → 0 ≤ v4_2.toInt → v4_2.toInt ≤ 63 → (v4_2.toInt - 0).toNat < n4 → Wd dC dI A s.heap H locs w0 → lv_has ls 3 [(0, .int a0), (1, .int v4_1), (2, .int v4_2)] → W p l e ({ frames := 1, cells := 0, slots := 0, locals := 12 }) s m (List.toArray [.int a0]) below meth c H locs 0 0 (MQ below (va_Qi (P_X12_bits_2 ad cy B qr s1 a0 w0) (fun u : va_W => wpost dC dI cy A u) A) (List.toArray [.int a0]) s 0 0 A) (F0 m 4 ls []) := by
    intro n4
    induction n4 with
    | zero => intro v4_1 v4_2 H locs ls r1 t2 r3 t4 hm4 hw hl; omega
    | succ n4 ih4 =>
      intro v4_1 v4_2 H locs ls r1 t2 r3 t4 hm4 hw hl
      refine lv_iload_n hx hb dX12_bits_4 rfl (lv_at hl 2 rfl) ?_
      refine lv_if_eq (tgt := 20) hx hb dX12_bits_5 (by decide) (fun c5 => ?_) (fun c5 => ?_)
      · have c5 : v4_2.toInt = (0 : Int) := wk_eq.mp c5
        refine lv_iload_n hx hb dX12_bits_20 rfl (lv_at hl 1 rfl) ?_
        exact tk_iret hC hr hlocks hK ⟨rfl, trivial⟩ hw dX12_bits_21
      · have c5 : ¬ v4_2.toInt = (0 : Int) := wk_eqF c5
        have nx7 := wk_i32 v4_1
        obtain ⟨x6, ex6⟩ : ∃ y : Int32, y = v4_1 + Int32.ofInt 1 := ⟨_, rfl⟩
        refine lv_iinc (v := x6) (lv' := [(1, .int x6), (0, .int a0), (2, .int v4_2)]) hx hb dX12_bits_8 hl (k := 1) rfl ex6.symm (by decide) rfl (fun ls hl => ?_)
        refine lv_iload_n hx hb dX12_bits_11 rfl (lv_at hl 2 rfl) ?_
        refine lv_iload_n hx hb dX12_bits_12 rfl (lv_at hl 2 rfl) ?_
        refine lv_iconst (v := 1) hx hb dX12_bits_13 (by decide) ?_
        refine lv_isub hx hb dX12_bits_14 ?_
        refine lv_topi (fun x8 ex8 => ?_)
        have ex8 : x8.toInt = v4_2.toInt - (1 : Int) := by rw [ex8]; exact wk_sub (show (-2147483648) ≤ v4_2.toInt - (1 : Int) by omega) (show v4_2.toInt - (1 : Int) ≤ 2147483647 by omega)
        refine lv_iand hx hb dX12_bits_15 ?_
        refine lv_topi (fun x9 ex9 => ?_)
        have bx9 : 0 ≤ x9.toInt ∧ x9.toInt ≤ x8.toInt := by rw [ex9]; exact wk_and (by omega)
        refine lv_istore_n (lv' := [(2, .int x9), (1, .int x6), (0, .int a0)]) hx hb dX12_bits_16 rfl hl (by decide) rfl (fun ls hl => ?_)
        refine lv_goto (tgt := 4) hx hb dX12_bits_17 (by decide) ?_
        exact ih4 x6 x9 H locs ls  (show 1 ≤ a0.toInt by omega) (show a0.toInt ≤ 63 by omega) (show 0 ≤ x9.toInt by omega) (show x9.toInt ≤ 63 by omega) (show (x9.toInt - 0).toNat < n4 by omega) hw   (lv_sub hl [2, 1, 0] rfl)
  refine lv_iconst (v := 0) hx hb dX12_bits_0 (by decide) ?_
  refine lv_istore_n (lv' := [(1, .int 0), (0, .int a0)]) hx hb dX12_bits_1 rfl hl (by decide) rfl (fun ls hl => ?_)
  refine lv_iload_n hx hb dX12_bits_2 rfl (lv_at hl 1 rfl) ?_
  refine lv_istore_n (lv' := [(2, .int a0), (1, .int 0), (0, .int a0)]) hx hb dX12_bits_3 rfl hl (by decide) rfl (fun ls hl => ?_)
  exact L4 ((a0.toInt - 0).toNat + 1) 0 a0 s.heap locs ls  (show 1 ≤ a0.toInt by omega) (show a0.toInt ≤ 63 by omega) (show 0 ≤ a0.toInt by omega) (show a0.toInt ≤ 63 by omega) (Nat.lt_succ_self _) hw   (lv_sub hl [2, 1, 0] rfl)
abbrev P_X12_isOf_6 (ad : Nat → Nat) (cy : Nat → ClassId) (B : Int) (qr : Nat) (s1 : Int) (a0 : Int32) (a1 : Int32) (w0 : va_W) : Int32 → va_W → Prop := fun r u => w0 = u ∧ ((r = 0 ∧ (¬ mOf a0 a1)) ∨ (r = 1 ∧ (mOf a0 a1)))
set_option maxHeartbeats 4000000 in
set_option maxRecDepth 100000 in
theorem k_X12_isOf_6 (l : Launch) (adK adV : Nat → Nat) (dC : Nat → ClassId) (dI : Nat → Nat → Nat) (cy : Nat → ClassId) (ad : Nat → Nat) (B : Int) (hB0 : 100000 ≤ B) (hB1 : B ≤ 1073741824) (qr : Nat) (s1 : Int)  (a0 : Int32) (ra0 : 0 ≤ a0.toInt) (ta0 : a0.toInt ≤ 4095) (a1 : Int32) (w0 : va_W) (sz : Nat) (hT : TW ksM ad cy B qr 12 w0)  : Met l yX12_isOf wsX12_isOf ({ frames := 1, cells := 0, slots := 0, locals := 12 }) (va_Pc [.int a0, .int a1] (wpreS adK adV dC dI cy sz w0)) (va_Qi (P_X12_isOf_6 ad cy B qr s1 a0 a1 w0) (fun u : va_W => wpost dC dI cy (va_A w0 sz) u) (va_A w0 sz)) 0 0 (va_A w0 sz) := by
  refine Met.ofW (cc := cX12_isOf) (maxL := 2) (ret := (some .boolean)) (by decide) rfl ?_
  intro p e s m args below meth c s₁ Bk hml hv
  obtain ⟨rfl, ⟨hsz, hP, hK, hD0⟩, hE, hSR⟩ := hv
  have hx := Bk.exec
  have hb := Bk.bytes
  have hr := Bk.returns
  have hlocks := Bk.notSynchronized
  have hC : CallFix p m c cX12_isOf 2 s _ wsX12_isOf RX12 := ⟨hx, hb, hml, findClass_of_methodNamed Bk.named, atoms_spec (ws := wsX12_isOf) Bk.pre⟩
  subst hsz
  have hD := hD0.self (sz := s.heap.size)
  generalize hAe : va_A w0 s.heap.size = A at hD hE ⊢
  have hA : ∀ q : Nat, s.heap.size ≤ q → A q := fun q h => by rw [← hAe]; exact Or.inr h
  have hw : Wd dC dI A s.heap s.heap [] w0 := ⟨hP, hD, va_S.rf⟩
  have hF : FE ksM ([] : List (Nat × Nat × Nat)) w0 w0 := FE.rf
  have hl := lv_entry ([.int a0, .int a1]) (n := 2) (Nat.le_of_ble_eq_true rfl)
  rw [lg_entry_eq]
  generalize (lg_sl ([.int a0, .int a1]) ++ List.replicate (2 - (lg_sl ([.int a0, .int a1])).length) Slot.unset).toArray = ls at hl ⊢
  have hl : lv_has ls 2 [(0, .int a0), (1, .int a1)] := hl
  generalize hloc : ([] : List Loc) = locs at hw ⊢
  refine lv_iload_n hx hb dX12_isOf_0 rfl (lv_at hl 0 rfl) ?_
  refine lv_iload_n hx hb dX12_isOf_1 rfl (lv_at hl 1 rfl) ?_
  refine lv_ishr hx hb dX12_isOf_2 ?_
  refine lv_topi (fun x1 ex1 => ?_)
  have bx1 : 0 ≤ x1.toInt ∧ x1.toInt ≤ a0.toInt := by rw [ex1]; exact wk_shr (by omega)
  refine lv_iconst (v := 1) hx hb dX12_isOf_3 (by decide) ?_
  refine lv_iand hx hb dX12_isOf_4 ?_
  refine lv_topi (fun x2 ex2 => ?_)
  have bx2 : 0 ≤ x2.toInt ∧ x2.toInt ≤ (1 : Int) := by rw [ex2]; exact wk_and (by decide)
  refine lv_iconst (v := 1) hx hb dX12_isOf_5 (by decide) ?_
  refine lv_icmp_ne (tgt := 13) hx hb dX12_isOf_6 (by decide) (fun c3 => ?_) (fun c3 => ?_)
  · have c3 : ¬ x2.toInt = (1 : Int) := wk_eqF c3
    refine lv_iconst (v := 0) hx hb dX12_isOf_13 (by decide) ?_
    exact tk_zret hC hr rfl hlocks hK ⟨rfl, (Or.inl ⟨rfl, (by unfold mOf; rw [← ex1, ← ex2]; omega)⟩)⟩ hw dX12_isOf_14
  · have c3 : x2.toInt = (1 : Int) := wk_eq.mp c3
    refine lv_iconst (v := 1) hx hb dX12_isOf_9 (by decide) ?_
    refine lv_goto (tgt := 14) hx hb dX12_isOf_10 (by decide) ?_
    exact tk_zret hC hr rfl hlocks hK ⟨rfl, (Or.inr ⟨rfl, (by unfold mOf; rw [← ex1, ← ex2]; omega)⟩)⟩ hw dX12_isOf_14
abbrev P_X12_isOf_7 (ad : Nat → Nat) (cy : Nat → ClassId) (B : Int) (qr : Nat) (s1 : Int) (a0 : Int32) (a1 : Int32) (w0 : va_W) : Int32 → va_W → Prop := fun r u => w0 = u ∧ ((r = 0 ∧ (¬ mOf a0 a1)) ∨ (r = 1 ∧ (mOf a0 a1)))
set_option maxHeartbeats 4000000 in
set_option maxRecDepth 100000 in
theorem k_X12_isOf_7 (l : Launch) (adK adV : Nat → Nat) (dC : Nat → ClassId) (dI : Nat → Nat → Nat) (cy : Nat → ClassId) (ad : Nat → Nat) (B : Int) (hB0 : 100000 ≤ B) (hB1 : B ≤ 1073741824) (qr : Nat) (s1 : Int)  (a0 : Int32) (ra0 : 1 ≤ a0.toInt) (ta0 : a0.toInt ≤ 1023) (a1 : Int32) (ra1 : 0 ≤ a1.toInt) (ta1 : a1.toInt ≤ 9) (w0 : va_W) (sz : Nat) (hT : TW ksM ad cy B qr 12 w0)  : Met l yX12_isOf wsX12_isOf ({ frames := 1, cells := 0, slots := 0, locals := 12 }) (va_Pc [.int a0, .int a1] (wpreS adK adV dC dI cy sz w0)) (va_Qi (P_X12_isOf_7 ad cy B qr s1 a0 a1 w0) (fun u : va_W => wpost dC dI cy (va_A w0 sz) u) (va_A w0 sz)) 0 0 (va_A w0 sz) := by
  refine Met.ofW (cc := cX12_isOf) (maxL := 2) (ret := (some .boolean)) (by decide) rfl ?_
  intro p e s m args below meth c s₁ Bk hml hv
  obtain ⟨rfl, ⟨hsz, hP, hK, hD0⟩, hE, hSR⟩ := hv
  have hx := Bk.exec
  have hb := Bk.bytes
  have hr := Bk.returns
  have hlocks := Bk.notSynchronized
  have hC : CallFix p m c cX12_isOf 2 s _ wsX12_isOf RX12 := ⟨hx, hb, hml, findClass_of_methodNamed Bk.named, atoms_spec (ws := wsX12_isOf) Bk.pre⟩
  subst hsz
  have hD := hD0.self (sz := s.heap.size)
  generalize hAe : va_A w0 s.heap.size = A at hD hE ⊢
  have hA : ∀ q : Nat, s.heap.size ≤ q → A q := fun q h => by rw [← hAe]; exact Or.inr h
  have hw : Wd dC dI A s.heap s.heap [] w0 := ⟨hP, hD, va_S.rf⟩
  have hF : FE ksM ([] : List (Nat × Nat × Nat)) w0 w0 := FE.rf
  have hl := lv_entry ([.int a0, .int a1]) (n := 2) (Nat.le_of_ble_eq_true rfl)
  rw [lg_entry_eq]
  generalize (lg_sl ([.int a0, .int a1]) ++ List.replicate (2 - (lg_sl ([.int a0, .int a1])).length) Slot.unset).toArray = ls at hl ⊢
  have hl : lv_has ls 2 [(0, .int a0), (1, .int a1)] := hl
  generalize hloc : ([] : List Loc) = locs at hw ⊢
  refine lv_iload_n hx hb dX12_isOf_0 rfl (lv_at hl 0 rfl) ?_
  refine lv_iload_n hx hb dX12_isOf_1 rfl (lv_at hl 1 rfl) ?_
  refine lv_ishr hx hb dX12_isOf_2 ?_
  refine lv_topi (fun x1 ex1 => ?_)
  have bx1 : 0 ≤ x1.toInt ∧ x1.toInt ≤ a0.toInt := by rw [ex1]; exact wk_shr (by omega)
  refine lv_iconst (v := 1) hx hb dX12_isOf_3 (by decide) ?_
  refine lv_iand hx hb dX12_isOf_4 ?_
  refine lv_topi (fun x2 ex2 => ?_)
  have bx2 : 0 ≤ x2.toInt ∧ x2.toInt ≤ (1 : Int) := by rw [ex2]; exact wk_and (by decide)
  refine lv_iconst (v := 1) hx hb dX12_isOf_5 (by decide) ?_
  refine lv_icmp_ne (tgt := 13) hx hb dX12_isOf_6 (by decide) (fun c3 => ?_) (fun c3 => ?_)
  · have c3 : ¬ x2.toInt = (1 : Int) := wk_eqF c3
    refine lv_iconst (v := 0) hx hb dX12_isOf_13 (by decide) ?_
    exact tk_zret hC hr rfl hlocks hK ⟨rfl, (Or.inl ⟨rfl, (by unfold mOf; rw [← ex1, ← ex2]; omega)⟩)⟩ hw dX12_isOf_14
  · have c3 : x2.toInt = (1 : Int) := wk_eq.mp c3
    refine lv_iconst (v := 1) hx hb dX12_isOf_9 (by decide) ?_
    refine lv_goto (tgt := 14) hx hb dX12_isOf_10 (by decide) ?_
    exact tk_zret hC hr rfl hlocks hK ⟨rfl, (Or.inr ⟨rfl, (by unfold mOf; rw [← ex1, ← ex2]; omega)⟩)⟩ hw dX12_isOf_14
abbrev P_X12_comesTo_1 (ad : Nat → Nat) (cy : Nat → ClassId) (B : Int) (qr : Nat) (s1 : Int) (a1 : Int32) (a2 : Int32) (a3 : Int32) (w0 : va_W) : Int32 → va_W → Prop := fun r u => w0 = u ∧ ((1 ≤ r.toInt ∧ r.toInt ≤ 1023))
set_option maxHeartbeats 4000000 in
set_option maxRecDepth 100000 in
theorem k_X12_comesTo_1 (l : Launch) (adK adV : Nat → Nat) (dC : Nat → ClassId) (dI : Nat → Nat → Nat) (cy : Nat → ClassId) (ad : Nat → Nat) (B : Int) (hB0 : 100000 ≤ B) (hB1 : B ≤ 1073741824) (qr : Nat) (s1 : Int)  (a1 : Int32) (ra1 : 0 ≤ a1.toInt) (ta1 : a1.toInt ≤ 6) (a2 : Int32) (ra2 : 0 ≤ a2.toInt) (ta2 : a2.toInt ≤ 4095) (a3 : Int32) (ra3 : 0 ≤ a3.toInt) (ta3 : a3.toInt ≤ 9) (w0 : va_W) (sz : Nat) (hT : TW ksM ad cy B qr 12 w0)  : Met l yX12_comesTo wsX12_comesTo ({ frames := 2, cells := 0, slots := 0, locals := 34 }) (va_Pc [.ref (ad 0), .int a1, .int a2, .int a3] (wpreS adK adV dC dI cy sz w0)) (va_Qi (P_X12_comesTo_1 ad cy B qr s1 a1 a2 a3 w0) (fun u : va_W => wpost dC dI cy (va_A w0 sz) u) (va_A w0 sz)) 0 0 (va_A w0 sz) := by
  refine Met.ofW (cc := cX12_comesTo) (maxL := 9) (ret := (some .int)) (by decide) rfl ?_
  intro p e s m args below meth c s₁ Bk hml hv
  obtain ⟨rfl, ⟨hsz, hP, hK, hD0⟩, hE, hSR⟩ := hv
  have hx := Bk.exec
  have hb := Bk.bytes
  have hr := Bk.returns
  have hlocks := Bk.notSynchronized
  have hC : CallFix p m c cX12_comesTo 9 s _ wsX12_comesTo RX12 := ⟨hx, hb, hml, findClass_of_methodNamed Bk.named, atoms_spec (ws := wsX12_comesTo) Bk.pre⟩
  subst hsz
  have hD := hD0.self (sz := s.heap.size)
  generalize hAe : va_A w0 s.heap.size = A at hD hE ⊢
  have hA : ∀ q : Nat, s.heap.size ≤ q → A q := fun q h => by rw [← hAe]; exact Or.inr h
  have hw : Wd dC dI A s.heap s.heap [] w0 := ⟨hP, hD, va_S.rf⟩
  have hF : FE ksM ([] : List (Nat × Nat × Nat)) w0 w0 := FE.rf
  have hl := lv_entry ([.ref (ad 0), .int a1, .int a2, .int a3]) (n := 9) (Nat.le_of_ble_eq_true rfl)
  rw [lg_entry_eq]
  generalize (lg_sl ([.ref (ad 0), .int a1, .int a2, .int a3]) ++ List.replicate (9 - (lg_sl ([.ref (ad 0), .int a1, .int a2, .int a3])).length) Slot.unset).toArray = ls at hl ⊢
  have hl : lv_has ls 9 [(0, .ref (ad 0)), (1, .int a1), (2, .int a2), (3, .int a3)] := hl
  generalize hloc : ([] : List Loc) = locs at hw ⊢
  have hinX12 : ∀ w ∈ u_ws RX12 TX12 42, w ∈ wsX12_comesTo := fun _ h => List.mem_cons_of_mem _ (List.mem_append_right _ (h))
  have L8 : ∀ (n8 : Nat) (v8_4 : Int32) (v8_5 : Int32) (H : Heap) (locs : List Loc) (ls : Array Slot), 0 ≤ a1.toInt → a1.toInt ≤ 6 → 0 ≤ a2.toInt → a2.toInt ≤ 4095 → 0 ≤ a3.toInt → a3.toInt ≤ 9 → 1 ≤ v8_4.toInt → v8_4.toInt ≤ 1023 → 0 ≤ v8_5.toInt → v8_5.toInt ≤ 1023 → v8_5.toInt ≤ v8_4.toInt + 0 → (1023 - v8_5.toInt).toNat < n8 → Wd dC dI A s.heap H locs w0 → lv_has ls 9 [(0, .ref (ad 0)), (1, .int a1), (2, .int a2), (3, .int a3), (4, .int v8_4), (5, .int v8_5)] → W p l e ({ frames := 2, cells := 0, slots := 0, locals := 34 }) s m (List.toArray [.ref (ad 0), .int a1, .int a2, .int a3]) below meth c H locs 0 0 (MQ below (va_Qi (P_X12_comesTo_1 ad cy B qr s1 a1 a2 a3 w0) (fun u : va_W => wpost dC dI cy A u) A) (List.toArray [.ref (ad 0), .int a1, .int a2, .int a3]) s 0 0 A) (F0 m 8 ls []) := by
    intro n8
    induction n8 with
    | zero => intro v8_4 v8_5 H locs ls r1 t2 r3 t4 r5 t6 r7 t8 r9 t10 i11 hm8 hw hl; omega
    | succ n8 ih8 =>
      intro v8_4 v8_5 H locs ls r1 t2 r3 t4 r5 t6 r7 t8 r9 t10 i11 hm8 hw hl
      have L25 : ∀ (n25 : Nat) (v25_4 : Int32) (v25_6 : Int32) (v25_7 : Int32) (H : Heap) (locs : List Loc) (ls : Array Slot), 0 ≤ a1.toInt → a1.toInt ≤ 6 → 0 ≤ a2.toInt → a2.toInt ≤ 4095 → 0 ≤ a3.toInt → a3.toInt ≤ 9 → 1 ≤ v25_4.toInt → v25_4.toInt ≤ 1023 → 1 ≤ v8_4.toInt → v8_4.toInt ≤ 1023 → 0 ≤ v25_7.toInt → v25_7.toInt ≤ 12 → v8_4.toInt ≤ v25_4.toInt + 0 → (v8_5.toInt < v8_4.toInt) → (12 - v25_7.toInt).toNat < n25 → Wd dC dI A s.heap H locs w0 → lv_has ls 9 [(0, .ref (ad 0)), (1, .int a1), (2, .int a2), (3, .int a3), (4, .int v25_4), (5, .int v8_4), (6, .int v25_6), (7, .int v25_7)] → W p l e ({ frames := 2, cells := 0, slots := 0, locals := 34 }) s m (List.toArray [.ref (ad 0), .int a1, .int a2, .int a3]) below meth c H locs 0 0 (MQ below (va_Qi (P_X12_comesTo_1 ad cy B qr s1 a1 a2 a3 w0) (fun u : va_W => wpost dC dI cy A u) A) (List.toArray [.ref (ad 0), .int a1, .int a2, .int a3]) s 0 0 A) (F0 m 25 ls []) := by
        intro n25
        induction n25 with
        | zero => intro v25_4 v25_6 v25_7 H locs ls r12 t13 r14 t15 r16 t17 r18 t19 r20 t21 r22 t23 i24 hcr25_0 hm25 hw hl; omega
        | succ n25 ih25 =>
          intro v25_4 v25_6 v25_7 H locs ls r12 t13 r14 t15 r16 t17 r18 t19 r20 t21 r22 t23 i24 hcr25_0 hm25 hw hl
          have J107 : ∀ (v107_4 : Int32) (v107_6 : Int32) (f107_12_1 : Int32) (H : Heap) (locs : List Loc) (ls : Array Slot), 0 ≤ a1.toInt → a1.toInt ≤ 6 → 0 ≤ a2.toInt → a2.toInt ≤ 4095 → 0 ≤ a3.toInt → a3.toInt ≤ 9 → 1 ≤ v107_4.toInt → v107_4.toInt ≤ 1023 → 1 ≤ v8_4.toInt → v8_4.toInt ≤ 1023 → 0 ≤ v25_7.toInt → v25_7.toInt ≤ 11 → 1 ≤ f107_12_1.toInt → f107_12_1.toInt ≤ 12 → v8_4.toInt ≤ v107_4.toInt + 0 → Wd dC dI A s.heap H locs w0 → gi w0 12 1 = f107_12_1 → lv_has ls 9 [(0, .ref (ad 0)), (1, .int a1), (2, .int a2), (3, .int a3), (4, .int v107_4), (5, .int v8_4), (6, .int v107_6), (7, .int v25_7)] → W p l e ({ frames := 2, cells := 0, slots := 0, locals := 34 }) s m (List.toArray [.ref (ad 0), .int a1, .int a2, .int a3]) below meth c H locs 0 0 (MQ below (va_Qi (P_X12_comesTo_1 ad cy B qr s1 a1 a2 a3 w0) (fun u : va_W => wpost dC dI cy A u) A) (List.toArray [.ref (ad 0), .int a1, .int a2, .int a3]) s 0 0 A) (F0 m 107 ls []) := by
            intro v107_4 v107_6 f107_12_1 H locs ls r25 t26 r27 t28 r29 t30 r31 t32 r33 t34 r35 t36 r37 t38 i40 hw c39 hl
            obtain ⟨x41, ex41⟩ : ∃ y : Int32, y = v25_7 + Int32.ofInt 1 := ⟨_, rfl⟩
            refine lv_iinc (v := x41) (lv' := [(7, .int x41), (0, .ref (ad 0)), (1, .int a1), (2, .int a2), (3, .int a3), (4, .int v107_4), (5, .int v8_4), (6, .int v107_6)]) hx hb dX12_comesTo_107 hl (k := 7) rfl ex41.symm (by decide) rfl (fun ls hl => ?_)
            have ex41 : x41.toInt = v25_7.toInt + 1 := by rw [ex41]; exact wk_add (y := 1) (show -2147483648 ≤ v25_7.toInt + 1 by omega) (show v25_7.toInt + 1 ≤ 2147483647 by omega)
            refine lv_goto (tgt := 25) hx hb dX12_comesTo_110 (by decide) ?_
            exact ih25 v107_4 v107_6 x41 H locs ls  (show 0 ≤ a1.toInt by omega) (show a1.toInt ≤ 6 by omega) (show 0 ≤ a2.toInt by omega) (show a2.toInt ≤ 4095 by omega) (show 0 ≤ a3.toInt by omega) (show a3.toInt ≤ 9 by omega) (show 1 ≤ v107_4.toInt by omega) (show v107_4.toInt ≤ 1023 by omega) (show 1 ≤ v8_4.toInt by omega) (show v8_4.toInt ≤ 1023 by omega) (show 0 ≤ x41.toInt by omega) (show x41.toInt ≤ 12 by omega) (show v8_4.toInt ≤ v107_4.toInt + 0 by omega) (show v8_5.toInt < v8_4.toInt by omega) (show (12 - x41.toInt).toNat < n25 by omega) hw   (lv_sub hl [1, 2, 3, 4, 5, 6, 7, 0] rfl)
          refine lv_iload hx hb dX12_comesTo_25 (lv_at hl 7 rfl) ?_
          refine lv_aload_n hx hb dX12_comesTo_27 rfl (lv_at hl 0 rfl) ?_
          refine tk_getA hC hK hw hT hinX12 kM_at0 (by decide) rfl 26 (by decide) (List.mem_of_getElem? (i := 1) rfl) rfl rfl dX12_comesTo_28 ?_
          refine lv_iconst (v := 1) hx hb dX12_comesTo_31 (by decide) ?_
          refine tk_ialdR hC hK hw hT kM_at12 rfl (by decide) (by decide) dX12_comesTo_32 (fun x42 c43 Ex42 => ?_)
          have bx42 : 0 ≤ x42.toInt ∧ x42.toInt ≤ 12 := (tk_rg1 rfl).mp Ex42
          have c43 : gi w0 12 1 = x42 := c43
          refine lv_icmp_ge (tgt := 113) hx hb dX12_comesTo_33 (by decide) (fun c44 => ?_) (fun c44 => ?_)
          · have c44 : x42.toInt ≤ v25_7.toInt := wk_le.mp c44
            refine lv_goto (tgt := 8) hx hb dX12_comesTo_113 (by decide) ?_
            exact ih8 v25_4 v8_4 H locs ls  (show 0 ≤ a1.toInt by omega) (show a1.toInt ≤ 6 by omega) (show 0 ≤ a2.toInt by omega) (show a2.toInt ≤ 4095 by omega) (show 0 ≤ a3.toInt by omega) (show a3.toInt ≤ 9 by omega) (show 1 ≤ v25_4.toInt by omega) (show v25_4.toInt ≤ 1023 by omega) (show 0 ≤ v8_4.toInt by omega) (show v8_4.toInt ≤ 1023 by omega) (show v8_4.toInt ≤ v25_4.toInt + 0 by omega) (show (1023 - v8_4.toInt).toNat < n8 by omega) hw   (lv_sub hl [0, 1, 2, 3, 4, 5] rfl)
          · have c44 : v25_7.toInt < x42.toInt := wk_leF c44
            refine lv_aload_n hx hb dX12_comesTo_36 rfl (lv_at hl 0 rfl) ?_
            refine lv_iload hx hb dX12_comesTo_37 (lv_at hl 7 rfl) ?_
            refine lv_iconst (v := 3) hx hb dX12_comesTo_39 (by decide) ?_
            refine lv_iload_n hx hb dX12_comesTo_40 rfl (lv_at hl 1 rfl) ?_
            refine lv_iadd hx hb dX12_comesTo_41 ?_
            refine lv_topi (fun x45 ex45 => ?_)
            have ex45 : x45.toInt = (3 : Int) + a1.toInt := by rw [ex45]; exact wk_add (show (-2147483648) ≤ (3 : Int) + a1.toInt by omega) (show (3 : Int) + a1.toInt ≤ 2147483647 by omega)
            refine tk_Vi hC hK hw hT hA hE hSR kM_at0 (by decide) rfl (k_X12_streetOf_4 l adK adV dC dI cy ad B (by omega) (by omega) qr s1   v25_7 (show 0 ≤ v25_7.toInt by omega) (show v25_7.toInt ≤ 11 by omega) x45 (show 3 ≤ x45.toInt by omega) (show x45.toInt ≤ 9 by omega) w0 H.size hT ) (cwV 2 hC.2.2.2.2 gX12_comesTo_X12_streetOf rfl rfl rfl (by decide +kernel) ⟨Nat.le_of_ble_eq_true rfl, Nat.le_of_ble_eq_true rfl⟩) rfl hl.1 rfl (Nat.le_of_ble_eq_true rfl) dX12_comesTo_42 (fun r46 w48 H locs hp47 hw => ?_)
            obtain ⟨rfl, hg53⟩ := hp47
            obtain ⟨g50, g51, c52⟩ := hg53
            refine lv_if_ne (tgt := 51) hx hb dX12_comesTo_45 (by decide) (fun c54 => ?_) (fun c54 => ?_)
            · have c54 : ¬ r46.toInt = (0 : Int) := wk_eqF c54
              refine lv_iload_n hx hb dX12_comesTo_51 rfl (lv_at hl 2 rfl) ?_
              refine lv_iload hx hb dX12_comesTo_52 (lv_at hl 6 rfl) ?_
              refine tk_Si hC hK hw hT hA hE hSR (k_X12_isOf_6 l adK adV dC dI cy ad B (by omega) (by omega) qr s1   a2 (show 0 ≤ a2.toInt by omega) (show a2.toInt ≤ 4095 by omega) v25_6 w0 H.size hT ) (va_cwS 2 hC.2.2.2.2 gX12_comesTo_X12_isOf rfl rfl rfl (by decide +kernel) ⟨Nat.le_of_ble_eq_true rfl, Nat.le_of_ble_eq_true rfl⟩) rfl hl.1 rfl (Nat.le_of_ble_eq_true rfl) dX12_comesTo_54 (fun r55 w57 H locs hp56 hw => ?_)
              obtain ⟨rfl, hg61⟩ := hp56
              rcases hg61 with ⟨rfl, hq59⟩ | ⟨rfl, hq60⟩
              · refine lv_if_eq (tgt := 64) hx hb dX12_comesTo_57 (by decide) (fun _ => ?_) (fun c => absurd (by decide) c)
                refine lv_iconst (v := 0) hx hb dX12_comesTo_64 (by decide) ?_
                refine lv_istore (lv' := [(8, .int 0), (0, .ref (ad 0)), (1, .int a1), (2, .int a2), (3, .int a3), (4, .int v25_4), (5, .int v8_4), (6, .int v25_6), (7, .int v25_7)]) hx hb dX12_comesTo_65 hl (by decide) rfl (fun ls hl => ?_)
                refine lv_iload hx hb dX12_comesTo_67 (lv_at hl 5 rfl) ?_
                refine lv_iload hx hb dX12_comesTo_69 (lv_at hl 5 rfl) ?_
                refine lv_aload_n hx hb dX12_comesTo_71 rfl (lv_at hl 1 rfl) ?_
                refine lv_iload hx hb dX12_comesTo_72 (lv_at hl 8 rfl) ?_
                refine lv_iload hx hb dX12_comesTo_74 (lv_at hl 0 rfl) ?_
                refine tk_Vi hC hK hw hT hA hE hSR kM_at0 (by decide) rfl (k_X12_streetOf_2 l adK adV dC dI cy ad B (by omega) (by omega) qr s1   v25_7 (show 0 ≤ v25_7.toInt by omega) (show v25_7.toInt ≤ 11 by omega) w0 H.size hT ) (cwV 2 hC.2.2.2.2 gX12_comesTo_X12_streetOf rfl rfl rfl (by decide +kernel) ⟨Nat.le_of_ble_eq_true rfl, Nat.le_of_ble_eq_true rfl⟩) rfl hl.1 rfl (Nat.le_of_ble_eq_true rfl) dX12_comesTo_76 (fun r62 w64 H locs hp63 hw => ?_)
                obtain ⟨rfl, hg69⟩ := hp63
                obtain ⟨g66, g67, c68⟩ := hg69
                refine tk_Si hC hK hw hT hA hE hSR (k_X12_isOf_7 l adK adV dC dI cy ad B (by omega) (by omega) qr s1   v25_4 (show 1 ≤ v25_4.toInt by omega) (show v25_4.toInt ≤ 1023 by omega) r62 (show 0 ≤ r62.toInt by omega) (show r62.toInt ≤ 9 by omega) w0 H.size hT ) (va_cwS 2 hC.2.2.2.2 gX12_comesTo_X12_isOf rfl rfl rfl (by decide +kernel) ⟨Nat.le_of_ble_eq_true rfl, Nat.le_of_ble_eq_true rfl⟩) rfl hl.1 rfl (Nat.le_of_ble_eq_true rfl) dX12_comesTo_79 (fun r70 w72 H locs hp71 hw => ?_)
                obtain ⟨rfl, hg76⟩ := hp71
                rcases hg76 with ⟨rfl, hq74⟩ | ⟨rfl, hq75⟩
                · refine lv_if_eq (tgt := 100) hx hb dX12_comesTo_82 (by decide) (fun _ => ?_) (fun c => absurd (by decide) c)
                  refine lv_iconst (v := 0) hx hb dX12_comesTo_100 (by decide) ?_
                  refine lv_ior hx hb dX12_comesTo_101 ?_
                  refine lv_topi (fun x77 ex77 => ?_)
                  have bx77 : 0 ≤ x77.toInt ∧ x77.toInt < 1024 := by rw [ex77]; exact wk_or 10 (by decide) (by omega) (by omega) (by decide) (by decide)
                  have mx77 : v25_4.toInt ≤ x77.toInt ∧ (0 : Int) ≤ x77.toInt := by rw [ex77]; exact wk_orL 10 (by decide) (by omega) (by omega) (by decide) (by decide)
                  refine lv_istore (lv' := [(4, .int x77), (8, .int 0), (0, .ref (ad 0)), (1, .int a1), (2, .int a2), (3, .int a3), (5, .int v8_4), (6, .int v25_6), (7, .int v25_7)]) hx hb dX12_comesTo_102 hl (by decide) rfl (fun ls hl => ?_)
                  have nx79 := wk_i32 v25_6
                  obtain ⟨x78, ex78⟩ : ∃ y : Int32, y = v25_6 + Int32.ofInt 1 := ⟨_, rfl⟩
                  refine lv_iinc (v := x78) (lv' := [(6, .int x78), (4, .int x77), (8, .int 0), (0, .ref (ad 0)), (1, .int a1), (2, .int a2), (3, .int a3), (5, .int v8_4), (7, .int v25_7)]) hx hb dX12_comesTo_104 hl (k := 7) rfl ex78.symm (by decide) rfl (fun ls hl => ?_)
                  exact J107 x77 x78 x42 H locs ls  (show 0 ≤ a1.toInt by omega) (show a1.toInt ≤ 6 by omega) (show 0 ≤ a2.toInt by omega) (show a2.toInt ≤ 4095 by omega) (show 0 ≤ a3.toInt by omega) (show a3.toInt ≤ 9 by omega) (show 1 ≤ x77.toInt by omega) (show x77.toInt ≤ 1023 by omega) (show 1 ≤ v8_4.toInt by omega) (show v8_4.toInt ≤ 1023 by omega) (show 0 ≤ v25_7.toInt by omega) (show v25_7.toInt ≤ 11 by omega) (show 1 ≤ x42.toInt by omega) (show x42.toInt ≤ 12 by omega) (show v8_4.toInt ≤ x77.toInt + 0 by omega)  hw  c43 (lv_sub hl [3, 4, 5, 6, 1, 7, 0, 8] rfl)
                · refine lv_if_eq (tgt := 100) hx hb dX12_comesTo_82 (by decide) (fun c => absurd c (by decide)) (fun _ => ?_)
                  refine lv_iconst (v := 1) hx hb dX12_comesTo_85 (by decide) ?_
                  refine lv_aload_n hx hb dX12_comesTo_86 rfl (lv_at hl 1 rfl) ?_
                  refine lv_iload hx hb dX12_comesTo_87 (lv_at hl 8 rfl) ?_
                  refine lv_iconst (v := 1) hx hb dX12_comesTo_89 (by decide) ?_
                  refine lv_iload hx hb dX12_comesTo_90 (lv_at hl 0 rfl) ?_
                  refine lv_isub hx hb dX12_comesTo_92 ?_
                  refine wk_top 1 (by decide) ?_
                  refine tk_Vi hC hK hw hT hA hE hSR kM_at0 (by decide) rfl (k_X12_streetOf_3 l adK adV dC dI cy ad B (by omega) (by omega) qr s1   v25_7 (show 0 ≤ v25_7.toInt by omega) (show v25_7.toInt ≤ 11 by omega) w0 H.size hT ) (cwV 2 hC.2.2.2.2 gX12_comesTo_X12_streetOf rfl rfl rfl (by decide +kernel) ⟨Nat.le_of_ble_eq_true rfl, Nat.le_of_ble_eq_true rfl⟩) rfl hl.1 rfl (Nat.le_of_ble_eq_true rfl) dX12_comesTo_93 (fun r80 w82 H locs hp81 hw => ?_)
                  obtain ⟨rfl, hg87⟩ := hp81
                  obtain ⟨g84, g85, c86⟩ := hg87
                  refine lv_ishl hx hb dX12_comesTo_96 ?_
                  refine lv_topi (fun x88 ex88 => ?_)
                  have bx88 : 1 ≤ x88.toInt ∧ x88.toInt ≤ 512 := by rw [ex88]; exact wk_shl1 9 (by decide) (by omega) (by omega)
                  refine lv_goto (tgt := 101) hx hb dX12_comesTo_97 (by decide) ?_
                  refine lv_ior hx hb dX12_comesTo_101 ?_
                  refine lv_topi (fun x89 ex89 => ?_)
                  have bx89 : 0 ≤ x89.toInt ∧ x89.toInt < 1024 := by rw [ex89]; exact wk_or 10 (by decide) (by omega) (by omega) (by omega) (by omega)
                  have mx89 : v25_4.toInt ≤ x89.toInt ∧ x88.toInt ≤ x89.toInt := by rw [ex89]; exact wk_orL 10 (by decide) (by omega) (by omega) (by omega) (by omega)
                  refine lv_istore (lv' := [(4, .int x89), (8, .int 0), (0, .ref (ad 0)), (1, .int a1), (2, .int a2), (3, .int a3), (5, .int v8_4), (6, .int v25_6), (7, .int v25_7)]) hx hb dX12_comesTo_102 hl (by decide) rfl (fun ls hl => ?_)
                  have nx91 := wk_i32 v25_6
                  obtain ⟨x90, ex90⟩ : ∃ y : Int32, y = v25_6 + Int32.ofInt 1 := ⟨_, rfl⟩
                  refine lv_iinc (v := x90) (lv' := [(6, .int x90), (4, .int x89), (8, .int 0), (0, .ref (ad 0)), (1, .int a1), (2, .int a2), (3, .int a3), (5, .int v8_4), (7, .int v25_7)]) hx hb dX12_comesTo_104 hl (k := 7) rfl ex90.symm (by decide) rfl (fun ls hl => ?_)
                  exact J107 x89 x90 x42 H locs ls  (show 0 ≤ a1.toInt by omega) (show a1.toInt ≤ 6 by omega) (show 0 ≤ a2.toInt by omega) (show a2.toInt ≤ 4095 by omega) (show 0 ≤ a3.toInt by omega) (show a3.toInt ≤ 9 by omega) (show 1 ≤ x89.toInt by omega) (show x89.toInt ≤ 1023 by omega) (show 1 ≤ v8_4.toInt by omega) (show v8_4.toInt ≤ 1023 by omega) (show 0 ≤ v25_7.toInt by omega) (show v25_7.toInt ≤ 11 by omega) (show 1 ≤ x42.toInt by omega) (show x42.toInt ≤ 12 by omega) (show v8_4.toInt ≤ x89.toInt + 0 by omega)  hw  c43 (lv_sub hl [3, 4, 5, 6, 1, 7, 0, 8] rfl)
              · refine lv_if_eq (tgt := 64) hx hb dX12_comesTo_57 (by decide) (fun c => absurd c (by decide)) (fun _ => ?_)
                refine lv_iconst (v := 1) hx hb dX12_comesTo_60 (by decide) ?_
                refine lv_goto (tgt := 65) hx hb dX12_comesTo_61 (by decide) ?_
                refine lv_istore (lv' := [(8, .int 1), (0, .ref (ad 0)), (1, .int a1), (2, .int a2), (3, .int a3), (4, .int v25_4), (5, .int v8_4), (6, .int v25_6), (7, .int v25_7)]) hx hb dX12_comesTo_65 hl (by decide) rfl (fun ls hl => ?_)
                refine lv_iload hx hb dX12_comesTo_67 (lv_at hl 5 rfl) ?_
                refine lv_iload hx hb dX12_comesTo_69 (lv_at hl 5 rfl) ?_
                refine lv_aload_n hx hb dX12_comesTo_71 rfl (lv_at hl 1 rfl) ?_
                refine lv_iload hx hb dX12_comesTo_72 (lv_at hl 8 rfl) ?_
                refine lv_iload hx hb dX12_comesTo_74 (lv_at hl 0 rfl) ?_
                refine tk_Vi hC hK hw hT hA hE hSR kM_at0 (by decide) rfl (k_X12_streetOf_3 l adK adV dC dI cy ad B (by omega) (by omega) qr s1   v25_7 (show 0 ≤ v25_7.toInt by omega) (show v25_7.toInt ≤ 11 by omega) w0 H.size hT ) (cwV 2 hC.2.2.2.2 gX12_comesTo_X12_streetOf rfl rfl rfl (by decide +kernel) ⟨Nat.le_of_ble_eq_true rfl, Nat.le_of_ble_eq_true rfl⟩) rfl hl.1 rfl (Nat.le_of_ble_eq_true rfl) dX12_comesTo_76 (fun r92 w94 H locs hp93 hw => ?_)
                obtain ⟨rfl, hg99⟩ := hp93
                obtain ⟨g96, g97, c98⟩ := hg99
                refine tk_Si hC hK hw hT hA hE hSR (k_X12_isOf_7 l adK adV dC dI cy ad B (by omega) (by omega) qr s1   v25_4 (show 1 ≤ v25_4.toInt by omega) (show v25_4.toInt ≤ 1023 by omega) r92 (show 0 ≤ r92.toInt by omega) (show r92.toInt ≤ 9 by omega) w0 H.size hT ) (va_cwS 2 hC.2.2.2.2 gX12_comesTo_X12_isOf rfl rfl rfl (by decide +kernel) ⟨Nat.le_of_ble_eq_true rfl, Nat.le_of_ble_eq_true rfl⟩) rfl hl.1 rfl (Nat.le_of_ble_eq_true rfl) dX12_comesTo_79 (fun r100 w102 H locs hp101 hw => ?_)
                obtain ⟨rfl, hg106⟩ := hp101
                rcases hg106 with ⟨rfl, hq104⟩ | ⟨rfl, hq105⟩
                · refine lv_if_eq (tgt := 100) hx hb dX12_comesTo_82 (by decide) (fun _ => ?_) (fun c => absurd (by decide) c)
                  refine lv_iconst (v := 0) hx hb dX12_comesTo_100 (by decide) ?_
                  refine lv_ior hx hb dX12_comesTo_101 ?_
                  refine lv_topi (fun x107 ex107 => ?_)
                  have bx107 : 0 ≤ x107.toInt ∧ x107.toInt < 1024 := by rw [ex107]; exact wk_or 10 (by decide) (by omega) (by omega) (by decide) (by decide)
                  have mx107 : v25_4.toInt ≤ x107.toInt ∧ (0 : Int) ≤ x107.toInt := by rw [ex107]; exact wk_orL 10 (by decide) (by omega) (by omega) (by decide) (by decide)
                  refine lv_istore (lv' := [(4, .int x107), (8, .int 1), (0, .ref (ad 0)), (1, .int a1), (2, .int a2), (3, .int a3), (5, .int v8_4), (6, .int v25_6), (7, .int v25_7)]) hx hb dX12_comesTo_102 hl (by decide) rfl (fun ls hl => ?_)
                  have nx109 := wk_i32 v25_6
                  obtain ⟨x108, ex108⟩ : ∃ y : Int32, y = v25_6 + Int32.ofInt 1 := ⟨_, rfl⟩
                  refine lv_iinc (v := x108) (lv' := [(6, .int x108), (4, .int x107), (8, .int 1), (0, .ref (ad 0)), (1, .int a1), (2, .int a2), (3, .int a3), (5, .int v8_4), (7, .int v25_7)]) hx hb dX12_comesTo_104 hl (k := 7) rfl ex108.symm (by decide) rfl (fun ls hl => ?_)
                  exact J107 x107 x108 x42 H locs ls  (show 0 ≤ a1.toInt by omega) (show a1.toInt ≤ 6 by omega) (show 0 ≤ a2.toInt by omega) (show a2.toInt ≤ 4095 by omega) (show 0 ≤ a3.toInt by omega) (show a3.toInt ≤ 9 by omega) (show 1 ≤ x107.toInt by omega) (show x107.toInt ≤ 1023 by omega) (show 1 ≤ v8_4.toInt by omega) (show v8_4.toInt ≤ 1023 by omega) (show 0 ≤ v25_7.toInt by omega) (show v25_7.toInt ≤ 11 by omega) (show 1 ≤ x42.toInt by omega) (show x42.toInt ≤ 12 by omega) (show v8_4.toInt ≤ x107.toInt + 0 by omega)  hw  c43 (lv_sub hl [3, 4, 5, 6, 1, 7, 0, 8] rfl)
                · refine lv_if_eq (tgt := 100) hx hb dX12_comesTo_82 (by decide) (fun c => absurd c (by decide)) (fun _ => ?_)
                  refine lv_iconst (v := 1) hx hb dX12_comesTo_85 (by decide) ?_
                  refine lv_aload_n hx hb dX12_comesTo_86 rfl (lv_at hl 1 rfl) ?_
                  refine lv_iload hx hb dX12_comesTo_87 (lv_at hl 8 rfl) ?_
                  refine lv_iconst (v := 1) hx hb dX12_comesTo_89 (by decide) ?_
                  refine lv_iload hx hb dX12_comesTo_90 (lv_at hl 0 rfl) ?_
                  refine lv_isub hx hb dX12_comesTo_92 ?_
                  refine wk_top 0 (by decide) ?_
                  refine tk_Vi hC hK hw hT hA hE hSR kM_at0 (by decide) rfl (k_X12_streetOf_2 l adK adV dC dI cy ad B (by omega) (by omega) qr s1   v25_7 (show 0 ≤ v25_7.toInt by omega) (show v25_7.toInt ≤ 11 by omega) w0 H.size hT ) (cwV 2 hC.2.2.2.2 gX12_comesTo_X12_streetOf rfl rfl rfl (by decide +kernel) ⟨Nat.le_of_ble_eq_true rfl, Nat.le_of_ble_eq_true rfl⟩) rfl hl.1 rfl (Nat.le_of_ble_eq_true rfl) dX12_comesTo_93 (fun r110 w112 H locs hp111 hw => ?_)
                  obtain ⟨rfl, hg117⟩ := hp111
                  obtain ⟨g114, g115, c116⟩ := hg117
                  refine lv_ishl hx hb dX12_comesTo_96 ?_
                  refine lv_topi (fun x118 ex118 => ?_)
                  have bx118 : 1 ≤ x118.toInt ∧ x118.toInt ≤ 512 := by rw [ex118]; exact wk_shl1 9 (by decide) (by omega) (by omega)
                  refine lv_goto (tgt := 101) hx hb dX12_comesTo_97 (by decide) ?_
                  refine lv_ior hx hb dX12_comesTo_101 ?_
                  refine lv_topi (fun x119 ex119 => ?_)
                  have bx119 : 0 ≤ x119.toInt ∧ x119.toInt < 1024 := by rw [ex119]; exact wk_or 10 (by decide) (by omega) (by omega) (by omega) (by omega)
                  have mx119 : v25_4.toInt ≤ x119.toInt ∧ x118.toInt ≤ x119.toInt := by rw [ex119]; exact wk_orL 10 (by decide) (by omega) (by omega) (by omega) (by omega)
                  refine lv_istore (lv' := [(4, .int x119), (8, .int 1), (0, .ref (ad 0)), (1, .int a1), (2, .int a2), (3, .int a3), (5, .int v8_4), (6, .int v25_6), (7, .int v25_7)]) hx hb dX12_comesTo_102 hl (by decide) rfl (fun ls hl => ?_)
                  have nx121 := wk_i32 v25_6
                  obtain ⟨x120, ex120⟩ : ∃ y : Int32, y = v25_6 + Int32.ofInt 1 := ⟨_, rfl⟩
                  refine lv_iinc (v := x120) (lv' := [(6, .int x120), (4, .int x119), (8, .int 1), (0, .ref (ad 0)), (1, .int a1), (2, .int a2), (3, .int a3), (5, .int v8_4), (7, .int v25_7)]) hx hb dX12_comesTo_104 hl (k := 7) rfl ex120.symm (by decide) rfl (fun ls hl => ?_)
                  exact J107 x119 x120 x42 H locs ls  (show 0 ≤ a1.toInt by omega) (show a1.toInt ≤ 6 by omega) (show 0 ≤ a2.toInt by omega) (show a2.toInt ≤ 4095 by omega) (show 0 ≤ a3.toInt by omega) (show a3.toInt ≤ 9 by omega) (show 1 ≤ x119.toInt by omega) (show x119.toInt ≤ 1023 by omega) (show 1 ≤ v8_4.toInt by omega) (show v8_4.toInt ≤ 1023 by omega) (show 0 ≤ v25_7.toInt by omega) (show v25_7.toInt ≤ 11 by omega) (show 1 ≤ x42.toInt by omega) (show x42.toInt ≤ 12 by omega) (show v8_4.toInt ≤ x119.toInt + 0 by omega)  hw  c43 (lv_sub hl [3, 4, 5, 6, 1, 7, 0, 8] rfl)
            · have c54 : r46.toInt = (0 : Int) := wk_eq.mp c54
              refine lv_goto (tgt := 107) hx hb dX12_comesTo_48 (by decide) ?_
              exact J107 v25_4 v25_6 x42 H locs ls  (show 0 ≤ a1.toInt by omega) (show a1.toInt ≤ 6 by omega) (show 0 ≤ a2.toInt by omega) (show a2.toInt ≤ 4095 by omega) (show 0 ≤ a3.toInt by omega) (show a3.toInt ≤ 9 by omega) (show 1 ≤ v25_4.toInt by omega) (show v25_4.toInt ≤ 1023 by omega) (show 1 ≤ v8_4.toInt by omega) (show v8_4.toInt ≤ 1023 by omega) (show 0 ≤ v25_7.toInt by omega) (show v25_7.toInt ≤ 11 by omega) (show 1 ≤ x42.toInt by omega) (show x42.toInt ≤ 12 by omega) (show v8_4.toInt ≤ v25_4.toInt + 0 by omega)  hw  c43 (lv_sub hl [0, 1, 2, 3, 4, 5, 6, 7] rfl)
      refine lv_iload hx hb dX12_comesTo_8 (lv_at hl 4 rfl) ?_
      refine lv_iload hx hb dX12_comesTo_10 (lv_at hl 5 rfl) ?_
      refine lv_icmp_eq (tgt := 116) hx hb dX12_comesTo_12 (by decide) (fun c122 => ?_) (fun c122 => ?_)
      · have c122 : v8_4.toInt = v8_5.toInt := wk_eq.mp c122
        refine lv_iload hx hb dX12_comesTo_116 (lv_at hl 4 rfl) ?_
        exact tk_iret hC hr hlocks hK ⟨rfl, ⟨(show 1 ≤ v8_4.toInt by omega), (show v8_4.toInt ≤ 1023 by omega)⟩⟩ hw dX12_comesTo_118
      · have c122 : ¬ v8_4.toInt = v8_5.toInt := wk_eqF c122
        refine lv_iload hx hb dX12_comesTo_15 (lv_at hl 4 rfl) ?_
        refine lv_istore (lv' := [(5, .int v8_4), (0, .ref (ad 0)), (1, .int a1), (2, .int a2), (3, .int a3), (4, .int v8_4)]) hx hb dX12_comesTo_17 hl (by decide) rfl (fun ls hl => ?_)
        refine lv_iconst (v := 0) hx hb dX12_comesTo_19 (by decide) ?_
        refine lv_istore (lv' := [(6, .int 0), (5, .int v8_4), (0, .ref (ad 0)), (1, .int a1), (2, .int a2), (3, .int a3), (4, .int v8_4)]) hx hb dX12_comesTo_20 hl (by decide) rfl (fun ls hl => ?_)
        refine lv_iconst (v := 0) hx hb dX12_comesTo_22 (by decide) ?_
        refine lv_istore (lv' := [(7, .int 0), (6, .int 0), (5, .int v8_4), (0, .ref (ad 0)), (1, .int a1), (2, .int a2), (3, .int a3), (4, .int v8_4)]) hx hb dX12_comesTo_23 hl (by decide) rfl (fun ls hl => ?_)
        exact L25 ((12 - (0 : Int)).toNat + 1) v8_4 0 0 H locs ls  (show 0 ≤ a1.toInt by omega) (show a1.toInt ≤ 6 by omega) (show 0 ≤ a2.toInt by omega) (show a2.toInt ≤ 4095 by omega) (show 0 ≤ a3.toInt by omega) (show a3.toInt ≤ 9 by omega) (show 1 ≤ v8_4.toInt by omega) (show v8_4.toInt ≤ 1023 by omega) (show 1 ≤ v8_4.toInt by omega) (show v8_4.toInt ≤ 1023 by omega) (by decide) (by decide) (show v8_4.toInt ≤ v8_4.toInt + 0 by omega) (show v8_5.toInt < v8_4.toInt by omega) (Nat.lt_succ_self _) hw   (lv_sub hl [3, 4, 5, 6, 7, 2, 1, 0] rfl)
  refine lv_iconst (v := 1) hx hb dX12_comesTo_0 (by decide) ?_
  refine lv_iload_n hx hb dX12_comesTo_1 rfl (lv_at hl 3 rfl) ?_
  refine lv_ishl hx hb dX12_comesTo_2 ?_
  refine lv_topi (fun x123 ex123 => ?_)
  have bx123 : 1 ≤ x123.toInt ∧ x123.toInt ≤ 512 := by rw [ex123]; exact wk_shl1 9 (by decide) (by omega) (by omega)
  refine lv_istore (lv' := [(4, .int x123), (0, .ref (ad 0)), (1, .int a1), (2, .int a2), (3, .int a3)]) hx hb dX12_comesTo_3 hl (by decide) rfl (fun ls hl => ?_)
  refine lv_iconst (v := 0) hx hb dX12_comesTo_5 (by decide) ?_
  refine lv_istore (lv' := [(5, .int 0), (4, .int x123), (0, .ref (ad 0)), (1, .int a1), (2, .int a2), (3, .int a3)]) hx hb dX12_comesTo_6 hl (by decide) rfl (fun ls hl => ?_)
  exact L8 ((1023 - (0 : Int)).toNat + 1) x123 0 s.heap locs ls  (show 0 ≤ a1.toInt by omega) (show a1.toInt ≤ 6 by omega) (show 0 ≤ a2.toInt by omega) (show a2.toInt ≤ 4095 by omega) (show 0 ≤ a3.toInt by omega) (show a3.toInt ≤ 9 by omega) (show 1 ≤ x123.toInt by omega) (show x123.toInt ≤ 1023 by omega) (by decide) (by decide) (show (0 : Int) ≤ x123.toInt + 0 by omega) (Nat.lt_succ_self _) hw   (lv_sub hl [2, 3, 4, 5, 1, 0] rfl)
abbrev P_X12_doneBy_1 (ad : Nat → Nat) (cy : Nat → ClassId) (B : Int) (qr : Nat) (s1 : Int) (a1 : Int32) (a2 : Int32) (w0 : va_W) : Int32 → va_W → Prop := fun r u => w0 = u ∧ ((0 ≤ r.toInt ∧ r.toInt ≤ 63))
set_option maxHeartbeats 4000000 in
set_option maxRecDepth 100000 in
theorem k_X12_doneBy_1 (l : Launch) (adK adV : Nat → Nat) (dC : Nat → ClassId) (dI : Nat → Nat → Nat) (cy : Nat → ClassId) (ad : Nat → Nat) (B : Int) (hB0 : 100000 ≤ B) (hB1 : B ≤ 1073741824) (qr : Nat) (s1 : Int)  (a1 : Int32) (ra1 : 0 ≤ a1.toInt) (ta1 : a1.toInt ≤ 6) (a2 : Int32) (ra2 : 0 ≤ a2.toInt) (ta2 : a2.toInt ≤ 4095) (w0 : va_W) (sz : Nat) (hT : TW ksM ad cy B qr 12 w0)  : Met l yX12_doneBy wsX12_doneBy ({ frames := 3, cells := 0, slots := 0, locals := 62 }) (va_Pc [.ref (ad 0), .int a1, .int a2] (wpreS adK adV dC dI cy sz w0)) (va_Qi (P_X12_doneBy_1 ad cy B qr s1 a1 a2 w0) (fun u : va_W => wpost dC dI cy (va_A w0 sz) u) (va_A w0 sz)) 0 0 (va_A w0 sz) := by
  refine Met.ofW (cc := cX12_doneBy) (maxL := 5) (ret := (some .int)) (by decide) rfl ?_
  intro p e s m args below meth c s₁ Bk hml hv
  obtain ⟨rfl, ⟨hsz, hP, hK, hD0⟩, hE, hSR⟩ := hv
  have hx := Bk.exec
  have hb := Bk.bytes
  have hr := Bk.returns
  have hlocks := Bk.notSynchronized
  have hC : CallFix p m c cX12_doneBy 5 s _ wsX12_doneBy RX12 := ⟨hx, hb, hml, findClass_of_methodNamed Bk.named, atoms_spec (ws := wsX12_doneBy) Bk.pre⟩
  subst hsz
  have hD := hD0.self (sz := s.heap.size)
  generalize hAe : va_A w0 s.heap.size = A at hD hE ⊢
  have hA : ∀ q : Nat, s.heap.size ≤ q → A q := fun q h => by rw [← hAe]; exact Or.inr h
  have hw : Wd dC dI A s.heap s.heap [] w0 := ⟨hP, hD, va_S.rf⟩
  have hF : FE ksM ([] : List (Nat × Nat × Nat)) w0 w0 := FE.rf
  have hl := lv_entry ([.ref (ad 0), .int a1, .int a2]) (n := 5) (Nat.le_of_ble_eq_true rfl)
  rw [lg_entry_eq]
  generalize (lg_sl ([.ref (ad 0), .int a1, .int a2]) ++ List.replicate (5 - (lg_sl ([.ref (ad 0), .int a1, .int a2])).length) Slot.unset).toArray = ls at hl ⊢
  have hl : lv_has ls 5 [(0, .ref (ad 0)), (1, .int a1), (2, .int a2)] := hl
  generalize hloc : ([] : List Loc) = locs at hw ⊢
  have hinX12 : ∀ w ∈ u_ws RX12 TX12 42, w ∈ wsX12_doneBy := fun _ h => List.mem_cons_of_mem _ (List.mem_append_right _ (h))
  have L5 : ∀ (n5 : Nat) (v5_3 : Int32) (v5_4 : Int32) (H : Heap) (locs : List Loc) (ls : Array Slot), 0 ≤ a1.toInt → a1.toInt ≤ 6 → 0 ≤ a2.toInt → a2.toInt ≤ 4095 → 0 ≤ v5_3.toInt → v5_3.toInt ≤ 63 → 0 ≤ v5_4.toInt → v5_4.toInt ≤ 6 → (6 - v5_4.toInt).toNat < n5 → Wd dC dI A s.heap H locs w0 → lv_has ls 5 [(0, .ref (ad 0)), (1, .int a1), (2, .int a2), (3, .int v5_3), (4, .int v5_4)] → W p l e ({ frames := 3, cells := 0, slots := 0, locals := 62 }) s m (List.toArray [.ref (ad 0), .int a1, .int a2]) below meth c H locs 0 0 (MQ below (va_Qi (P_X12_doneBy_1 ad cy B qr s1 a1 a2 w0) (fun u : va_W => wpost dC dI cy A u) A) (List.toArray [.ref (ad 0), .int a1, .int a2]) s 0 0 A) (F0 m 5 ls []) := by
    intro n5
    induction n5 with
    | zero => intro v5_3 v5_4 H locs ls r1 t2 r3 t4 r5 t6 r7 t8 hm5 hw hl; omega
    | succ n5 ih5 =>
      intro v5_3 v5_4 H locs ls r1 t2 r3 t4 r5 t6 r7 t8 hm5 hw hl
      refine lv_iload hx hb dX12_doneBy_5 (lv_at hl 4 rfl) ?_
      refine lv_aload_n hx hb dX12_doneBy_7 rfl (lv_at hl 0 rfl) ?_
      refine tk_getA hC hK hw hT hinX12 kM_at0 (by decide) rfl 26 (by decide) (List.mem_of_getElem? (i := 1) rfl) rfl rfl dX12_doneBy_8 ?_
      refine lv_bipush (v := 6) hx hb dX12_doneBy_11 (by decide) ?_
      refine tk_ialdR hC hK hw hT kM_at12 rfl (by decide) (by decide) dX12_doneBy_13 (fun x9 c10 Ex9 => ?_)
      have bx9 := tk_rgI rfl 6 1 1 0 6 (by decide +kernel) ⟨0, by decide, by decide⟩ Ex9
      have c10 : gi w0 12 6 = x9 := c10
      refine lv_icmp_ge (tgt := 74) hx hb dX12_doneBy_14 (by decide) (fun c11 => ?_) (fun c11 => ?_)
      · have c11 : x9.toInt ≤ v5_4.toInt := wk_le.mp c11
        refine lv_iload_n hx hb dX12_doneBy_74 rfl (lv_at hl 3 rfl) ?_
        exact tk_iret hC hr hlocks hK ⟨rfl, ⟨(show 0 ≤ v5_3.toInt by omega), (show v5_3.toInt ≤ 63 by omega)⟩⟩ hw dX12_doneBy_75
      · have c11 : v5_4.toInt < x9.toInt := wk_leF c11
        refine lv_iload_n hx hb dX12_doneBy_17 rfl (lv_at hl 3 rfl) ?_
        refine lv_aload_n hx hb dX12_doneBy_18 rfl (lv_at hl 0 rfl) ?_
        refine lv_iload_n hx hb dX12_doneBy_19 rfl (lv_at hl 1 rfl) ?_
        refine lv_iload_n hx hb dX12_doneBy_20 rfl (lv_at hl 2 rfl) ?_
        refine lv_aload_n hx hb dX12_doneBy_21 rfl (lv_at hl 0 rfl) ?_
        refine tk_getA hC hK hw hT hinX12 kM_at0 (by decide) rfl 26 (by decide) (List.mem_of_getElem? (i := 1) rfl) rfl rfl dX12_doneBy_22 ?_
        refine lv_sipush (v := 252) hx hb dX12_doneBy_25 (by decide) ?_
        refine lv_iconst (v := 2) hx hb dX12_doneBy_28 (by decide) ?_
        refine lv_iload hx hb dX12_doneBy_29 (lv_at hl 4 rfl) ?_
        refine lv_imul hx hb dX12_doneBy_31 ?_
        refine lv_topi (fun x12 ex12 => ?_)
        have ex12 : x12.toInt = (2 : Int) * v5_4.toInt := by rw [ex12]; exact wk_mul (show (-2147483648) ≤ (2 : Int) * v5_4.toInt by omega) (show (2 : Int) * v5_4.toInt ≤ 2147483647 by omega)
        refine lv_iadd hx hb dX12_doneBy_32 ?_
        refine lv_topi (fun x13 ex13 => ?_)
        have ex13 : x13.toInt = (252 : Int) + x12.toInt := by rw [ex13]; exact wk_add (show (-2147483648) ≤ (252 : Int) + x12.toInt by omega) (show (252 : Int) + x12.toInt ≤ 2147483647 by omega)
        refine tk_ialdR hC hK hw hT kM_at12 rfl (show 0 ≤ x13.toInt by omega) (show x13.toInt < 296 by omega) dX12_doneBy_33 (fun x14 c15 Ex14 => ?_)
        have c15 : gi w0 12 (2 * v5_4.toInt + 252).toNat = x14 := (congrArg (gi w0 12) (congrArg Int.toNat (show 2 * v5_4.toInt + 252 = x13.toInt by omega))).trans c15
        have bx14 := tk_rgI rfl 252 2 6 0 9 (by decide +kernel) ⟨(v5_4.toInt - 0).toNat, by omega, show x13.toInt.toNat = 252 + 2 * (v5_4.toInt - 0).toNat by omega⟩ Ex14
        refine tk_Vi hC hK hw hT hA hE hSR kM_at0 (by decide) rfl (k_X12_comesTo_1 l adK adV dC dI cy ad B (by omega) (by omega) qr s1   a1 (show 0 ≤ a1.toInt by omega) (show a1.toInt ≤ 6 by omega) a2 (show 0 ≤ a2.toInt by omega) (show a2.toInt ≤ 4095 by omega) x14 (show 0 ≤ x14.toInt by omega) (show x14.toInt ≤ 9 by omega) w0 H.size hT ) (cwV 3 hC.2.2.2.2 gX12_doneBy_X12_comesTo rfl rfl rfl (by decide +kernel) ⟨Nat.le_of_ble_eq_true rfl, Nat.le_of_ble_eq_true rfl⟩) rfl hl.1 rfl (Nat.le_of_ble_eq_true rfl) dX12_doneBy_34 (fun r16 w18 H locs hp17 hw => ?_)
        obtain ⟨rfl, hg22⟩ := hp17
        obtain ⟨g20, g21⟩ := hg22
        refine lv_aload_n hx hb dX12_doneBy_37 rfl (lv_at hl 0 rfl) ?_
        refine tk_getA hC hK hw hT hinX12 kM_at0 (by decide) rfl 26 (by decide) (List.mem_of_getElem? (i := 1) rfl) rfl rfl dX12_doneBy_38 ?_
        refine lv_sipush (v := 252) hx hb dX12_doneBy_41 (by decide) ?_
        refine lv_iconst (v := 2) hx hb dX12_doneBy_44 (by decide) ?_
        refine lv_iload hx hb dX12_doneBy_45 (lv_at hl 4 rfl) ?_
        refine lv_imul hx hb dX12_doneBy_47 ?_
        refine lv_topi (fun x23 ex23 => ?_)
        have ex23 : x23.toInt = (2 : Int) * v5_4.toInt := by rw [ex23]; exact wk_mul (show (-2147483648) ≤ (2 : Int) * v5_4.toInt by omega) (show (2 : Int) * v5_4.toInt ≤ 2147483647 by omega)
        refine lv_iadd hx hb dX12_doneBy_48 ?_
        refine lv_topi (fun x24 ex24 => ?_)
        have ex24 : x24.toInt = (252 : Int) + x23.toInt := by rw [ex24]; exact wk_add (show (-2147483648) ≤ (252 : Int) + x23.toInt by omega) (show (252 : Int) + x23.toInt ≤ 2147483647 by omega)
        refine lv_iconst (v := 1) hx hb dX12_doneBy_49 (by decide) ?_
        refine lv_iadd hx hb dX12_doneBy_50 ?_
        refine lv_topi (fun x25 ex25 => ?_)
        have ex25 : x25.toInt = x24.toInt + (1 : Int) := by rw [ex25]; exact wk_add (show (-2147483648) ≤ x24.toInt + (1 : Int) by omega) (show x24.toInt + (1 : Int) ≤ 2147483647 by omega)
        refine tk_ialdR hC hK hw hT kM_at12 rfl (show 0 ≤ x25.toInt by omega) (show x25.toInt < 296 by omega) dX12_doneBy_51 (fun x26 c27 Ex26 => ?_)
        have c27 : gi w0 12 (2 * v5_4.toInt + 253).toNat = x26 := (congrArg (gi w0 12) (congrArg Int.toNat (show 2 * v5_4.toInt + 253 = x25.toInt by omega))).trans c27
        have bx26 := tk_rgI rfl 253 2 6 0 9 (by decide +kernel) ⟨(v5_4.toInt - 0).toNat, by omega, show x25.toInt.toNat = 253 + 2 * (v5_4.toInt - 0).toNat by omega⟩ Ex26
        refine tk_Si hC hK hw hT hA hE hSR (k_X12_isOf_7 l adK adV dC dI cy ad B (by omega) (by omega) qr s1   r16 (show 1 ≤ r16.toInt by omega) (show r16.toInt ≤ 1023 by omega) x26 (show 0 ≤ x26.toInt by omega) (show x26.toInt ≤ 9 by omega) w0 H.size hT ) (va_cwS 2 hC.2.2.2.2 gX12_doneBy_X12_isOf rfl rfl rfl (by decide +kernel) ⟨Nat.le_of_ble_eq_true rfl, Nat.le_of_ble_eq_true rfl⟩) rfl hl.1 rfl (Nat.le_of_ble_eq_true rfl) dX12_doneBy_52 (fun r28 w30 H locs hp29 hw => ?_)
        obtain ⟨rfl, hg34⟩ := hp29
        rcases hg34 with ⟨rfl, hq32⟩ | ⟨rfl, hq33⟩
        · refine lv_if_eq (tgt := 65) hx hb dX12_doneBy_55 (by decide) (fun _ => ?_) (fun c => absurd (by decide) c)
          refine lv_iconst (v := 0) hx hb dX12_doneBy_65 (by decide) ?_
          refine lv_ior hx hb dX12_doneBy_66 ?_
          refine lv_topi (fun x35 ex35 => ?_)
          have bx35 : 0 ≤ x35.toInt ∧ x35.toInt < 64 := by rw [ex35]; exact wk_or 6 (by decide) (by omega) (by omega) (by decide) (by decide)
          have mx35 : v5_3.toInt ≤ x35.toInt ∧ (0 : Int) ≤ x35.toInt := by rw [ex35]; exact wk_orL 6 (by decide) (by omega) (by omega) (by decide) (by decide)
          refine lv_istore_n (lv' := [(3, .int x35), (0, .ref (ad 0)), (1, .int a1), (2, .int a2), (4, .int v5_4)]) hx hb dX12_doneBy_67 rfl hl (by decide) rfl (fun ls hl => ?_)
          obtain ⟨x36, ex36⟩ : ∃ y : Int32, y = v5_4 + Int32.ofInt 1 := ⟨_, rfl⟩
          refine lv_iinc (v := x36) (lv' := [(4, .int x36), (3, .int x35), (0, .ref (ad 0)), (1, .int a1), (2, .int a2)]) hx hb dX12_doneBy_68 hl (k := 4) rfl ex36.symm (by decide) rfl (fun ls hl => ?_)
          have ex36 : x36.toInt = v5_4.toInt + 1 := by rw [ex36]; exact wk_add (y := 1) (show -2147483648 ≤ v5_4.toInt + 1 by omega) (show v5_4.toInt + 1 ≤ 2147483647 by omega)
          refine lv_goto (tgt := 5) hx hb dX12_doneBy_71 (by decide) ?_
          exact ih5 x35 x36 H locs ls  (show 0 ≤ a1.toInt by omega) (show a1.toInt ≤ 6 by omega) (show 0 ≤ a2.toInt by omega) (show a2.toInt ≤ 4095 by omega) (show 0 ≤ x35.toInt by omega) (show x35.toInt ≤ 63 by omega) (show 0 ≤ x36.toInt by omega) (show x36.toInt ≤ 6 by omega) (show (6 - x36.toInt).toNat < n5 by omega) hw   (lv_sub hl [2, 3, 4, 1, 0] rfl)
        · refine lv_if_eq (tgt := 65) hx hb dX12_doneBy_55 (by decide) (fun c => absurd c (by decide)) (fun _ => ?_)
          refine lv_iconst (v := 1) hx hb dX12_doneBy_58 (by decide) ?_
          refine lv_iload hx hb dX12_doneBy_59 (lv_at hl 4 rfl) ?_
          refine lv_ishl hx hb dX12_doneBy_61 ?_
          refine lv_topi (fun x37 ex37 => ?_)
          have bx37 : 1 ≤ x37.toInt ∧ x37.toInt ≤ 32 := by rw [ex37]; exact wk_shl1 5 (by decide) (by omega) (by omega)
          refine lv_goto (tgt := 66) hx hb dX12_doneBy_62 (by decide) ?_
          refine lv_ior hx hb dX12_doneBy_66 ?_
          refine lv_topi (fun x38 ex38 => ?_)
          have bx38 : 0 ≤ x38.toInt ∧ x38.toInt < 64 := by rw [ex38]; exact wk_or 6 (by decide) (by omega) (by omega) (by omega) (by omega)
          have mx38 : v5_3.toInt ≤ x38.toInt ∧ x37.toInt ≤ x38.toInt := by rw [ex38]; exact wk_orL 6 (by decide) (by omega) (by omega) (by omega) (by omega)
          refine lv_istore_n (lv' := [(3, .int x38), (0, .ref (ad 0)), (1, .int a1), (2, .int a2), (4, .int v5_4)]) hx hb dX12_doneBy_67 rfl hl (by decide) rfl (fun ls hl => ?_)
          obtain ⟨x39, ex39⟩ : ∃ y : Int32, y = v5_4 + Int32.ofInt 1 := ⟨_, rfl⟩
          refine lv_iinc (v := x39) (lv' := [(4, .int x39), (3, .int x38), (0, .ref (ad 0)), (1, .int a1), (2, .int a2)]) hx hb dX12_doneBy_68 hl (k := 4) rfl ex39.symm (by decide) rfl (fun ls hl => ?_)
          have ex39 : x39.toInt = v5_4.toInt + 1 := by rw [ex39]; exact wk_add (y := 1) (show -2147483648 ≤ v5_4.toInt + 1 by omega) (show v5_4.toInt + 1 ≤ 2147483647 by omega)
          refine lv_goto (tgt := 5) hx hb dX12_doneBy_71 (by decide) ?_
          exact ih5 x38 x39 H locs ls  (show 0 ≤ a1.toInt by omega) (show a1.toInt ≤ 6 by omega) (show 0 ≤ a2.toInt by omega) (show a2.toInt ≤ 4095 by omega) (show 0 ≤ x38.toInt by omega) (show x38.toInt ≤ 63 by omega) (show 0 ≤ x39.toInt by omega) (show x39.toInt ≤ 6 by omega) (show (6 - x39.toInt).toNat < n5 by omega) hw   (lv_sub hl [2, 3, 4, 1, 0] rfl)
  refine lv_iconst (v := 0) hx hb dX12_doneBy_0 (by decide) ?_
  refine lv_istore_n (lv' := [(3, .int 0), (0, .ref (ad 0)), (1, .int a1), (2, .int a2)]) hx hb dX12_doneBy_1 rfl hl (by decide) rfl (fun ls hl => ?_)
  refine lv_iconst (v := 0) hx hb dX12_doneBy_2 (by decide) ?_
  refine lv_istore (lv' := [(4, .int 0), (3, .int 0), (0, .ref (ad 0)), (1, .int a1), (2, .int a2)]) hx hb dX12_doneBy_3 hl (by decide) rfl (fun ls hl => ?_)
  exact L5 ((6 - (0 : Int)).toNat + 1) 0 0 s.heap locs ls  (show 0 ≤ a1.toInt by omega) (show a1.toInt ≤ 6 by omega) (show 0 ≤ a2.toInt by omega) (show a2.toInt ≤ 4095 by omega) (by decide) (by decide) (by decide) (by decide) (Nat.lt_succ_self _) hw   (lv_sub hl [2, 3, 4, 1, 0] rfl)
abbrev P_X12_isClash_1 (ad : Nat → Nat) (cy : Nat → ClassId) (B : Int) (qr : Nat) (s1 : Int) (a1 : Int32) (a2 : Int32) (w0 : va_W) : Int32 → va_W → Prop := fun r u => w0 = u ∧ ((r = 0) ∨ (r = 1))
set_option maxHeartbeats 4000000 in
set_option maxRecDepth 100000 in
theorem k_X12_isClash_1 (l : Launch) (adK adV : Nat → Nat) (dC : Nat → ClassId) (dI : Nat → Nat → Nat) (cy : Nat → ClassId) (ad : Nat → Nat) (B : Int) (hB0 : 100000 ≤ B) (hB1 : B ≤ 1073741824) (qr : Nat) (s1 : Int)  (a1 : Int32) (ra1 : 1 ≤ a1.toInt) (ta1 : a1.toInt ≤ 63) (a2 : Int32) (ra2 : 0 ≤ a2.toInt) (ta2 : a2.toInt ≤ 63) (w0 : va_W) (sz : Nat) (hT : TW ksM ad cy B qr 12 w0)  : Met l yX12_isClash wsX12_isClash ({ frames := 1, cells := 0, slots := 0, locals := 12 }) (va_Pc [.ref (ad 0), .int a1, .int a2] (wpreS adK adV dC dI cy sz w0)) (va_Qi (P_X12_isClash_1 ad cy B qr s1 a1 a2 w0) (fun u : va_W => wpost dC dI cy (va_A w0 sz) u) (va_A w0 sz)) 0 0 (va_A w0 sz) := by
  refine Met.ofW (cc := cX12_isClash) (maxL := 4) (ret := (some .boolean)) (by decide) rfl ?_
  intro p e s m args below meth c s₁ Bk hml hv
  obtain ⟨rfl, ⟨hsz, hP, hK, hD0⟩, hE, hSR⟩ := hv
  have hx := Bk.exec
  have hb := Bk.bytes
  have hr := Bk.returns
  have hlocks := Bk.notSynchronized
  have hC : CallFix p m c cX12_isClash 4 s _ wsX12_isClash RX12 := ⟨hx, hb, hml, findClass_of_methodNamed Bk.named, atoms_spec (ws := wsX12_isClash) Bk.pre⟩
  subst hsz
  have hD := hD0.self (sz := s.heap.size)
  generalize hAe : va_A w0 s.heap.size = A at hD hE ⊢
  have hA : ∀ q : Nat, s.heap.size ≤ q → A q := fun q h => by rw [← hAe]; exact Or.inr h
  have hw : Wd dC dI A s.heap s.heap [] w0 := ⟨hP, hD, va_S.rf⟩
  have hF : FE ksM ([] : List (Nat × Nat × Nat)) w0 w0 := FE.rf
  have hl := lv_entry ([.ref (ad 0), .int a1, .int a2]) (n := 4) (Nat.le_of_ble_eq_true rfl)
  rw [lg_entry_eq]
  generalize (lg_sl ([.ref (ad 0), .int a1, .int a2]) ++ List.replicate (4 - (lg_sl ([.ref (ad 0), .int a1, .int a2])).length) Slot.unset).toArray = ls at hl ⊢
  have hl : lv_has ls 4 [(0, .ref (ad 0)), (1, .int a1), (2, .int a2)] := hl
  generalize hloc : ([] : List Loc) = locs at hw ⊢
  have hinX12 : ∀ w ∈ u_ws RX12 TX12 42, w ∈ wsX12_isClash := fun _ h => List.mem_cons_of_mem _ (List.mem_append_right _ (h))
  have L2 : ∀ (n2 : Nat) (v2_3 : Int32) (H : Heap) (locs : List Loc) (ls : Array Slot), 1 ≤ a1.toInt → a1.toInt ≤ 63 → 0 ≤ a2.toInt → a2.toInt ≤ 63 → 0 ≤ v2_3.toInt → v2_3.toInt ≤ 64 → (64 - v2_3.toInt).toNat < n2 → Wd dC dI A s.heap H locs w0 → lv_has ls 4 [(0, .ref (ad 0)), (1, .int a1), (2, .int a2), (3, .int v2_3)] → W p l e ({ frames := 1, cells := 0, slots := 0, locals := 12 }) s m (List.toArray [.ref (ad 0), .int a1, .int a2]) below meth c H locs 0 0 (MQ below (va_Qi (P_X12_isClash_1 ad cy B qr s1 a1 a2 w0) (fun u : va_W => wpost dC dI cy A u) A) (List.toArray [.ref (ad 0), .int a1, .int a2]) s 0 0 A) (F0 m 2 ls []) := by
    intro n2
    induction n2 with
    | zero => intro v2_3 H locs ls r1 t2 r3 t4 r5 t6 hm2 hw hl; omega
    | succ n2 ih2 =>
      intro v2_3 H locs ls r1 t2 r3 t4 r5 t6 hm2 hw hl
      have J25 : ∀ (H : Heap) (locs : List Loc) (ls : Array Slot), 1 ≤ a1.toInt → a1.toInt ≤ 63 → 0 ≤ a2.toInt → a2.toInt ≤ 63 → 0 ≤ v2_3.toInt → v2_3.toInt ≤ 63 → Wd dC dI A s.heap H locs w0 → lv_has ls 4 [(0, .ref (ad 0)), (1, .int a1), (2, .int a2), (3, .int v2_3)] → W p l e ({ frames := 1, cells := 0, slots := 0, locals := 12 }) s m (List.toArray [.ref (ad 0), .int a1, .int a2]) below meth c H locs 0 0 (MQ below (va_Qi (P_X12_isClash_1 ad cy B qr s1 a1 a2 w0) (fun u : va_W => wpost dC dI cy A u) A) (List.toArray [.ref (ad 0), .int a1, .int a2]) s 0 0 A) (F0 m 25 ls []) := by
        intro H locs ls r7 t8 r9 t10 r11 t12 hw hl
        obtain ⟨x13, ex13⟩ : ∃ y : Int32, y = v2_3 + Int32.ofInt 1 := ⟨_, rfl⟩
        refine lv_iinc (v := x13) (lv' := [(3, .int x13), (0, .ref (ad 0)), (1, .int a1), (2, .int a2)]) hx hb dX12_isClash_25 hl (k := 3) rfl ex13.symm (by decide) rfl (fun ls hl => ?_)
        have ex13 : x13.toInt = v2_3.toInt + 1 := by rw [ex13]; exact wk_add (y := 1) (show -2147483648 ≤ v2_3.toInt + 1 by omega) (show v2_3.toInt + 1 ≤ 2147483647 by omega)
        refine lv_goto (tgt := 2) hx hb dX12_isClash_28 (by decide) ?_
        exact ih2 x13 H locs ls  (show 1 ≤ a1.toInt by omega) (show a1.toInt ≤ 63 by omega) (show 0 ≤ a2.toInt by omega) (show a2.toInt ≤ 63 by omega) (show 0 ≤ x13.toInt by omega) (show x13.toInt ≤ 64 by omega) (show (64 - x13.toInt).toNat < n2 by omega) hw   (lv_sub hl [1, 2, 3, 0] rfl)
      refine lv_iload_n hx hb dX12_isClash_2 rfl (lv_at hl 3 rfl) ?_
      refine lv_iload_n hx hb dX12_isClash_3 rfl (lv_at hl 2 rfl) ?_
      refine lv_icmp_gt (tgt := 31) hx hb dX12_isClash_4 (by decide) (fun c14 => ?_) (fun c14 => ?_)
      · have c14 : a2.toInt < v2_3.toInt := wk_lt.mp c14
        refine lv_iconst (v := 1) hx hb dX12_isClash_31 (by decide) ?_
        exact tk_zret hC hr rfl hlocks hK ⟨rfl, (Or.inr rfl)⟩ hw dX12_isClash_32
      · have c14 : v2_3.toInt ≤ a2.toInt := wk_ltF c14
        refine lv_aload_n hx hb dX12_isClash_7 rfl (lv_at hl 0 rfl) ?_
        refine tk_getA hC hK hw hT hinX12 kM_at0 (by decide) rfl 38 (by decide) (List.mem_of_getElem? (i := 1) rfl) rfl rfl dX12_isClash_8 ?_
        refine lv_iload_n hx hb dX12_isClash_11 rfl (lv_at hl 3 rfl) ?_
        refine tk_zald hC hK hw hT kM_at20 rfl rfl (show 0 ≤ v2_3.toInt by omega) (show v2_3.toInt < 64 by omega) dX12_isClash_12 (fun x15 c16 rx15 tx15 => ?_)
        refine lv_if_eq (tgt := 25) hx hb dX12_isClash_13 (by decide) (fun c17 => ?_) (fun c17 => ?_)
        · have c17 : x15.toInt = (0 : Int) := wk_eq.mp c17
          exact J25  H locs ls  (show 1 ≤ a1.toInt by omega) (show a1.toInt ≤ 63 by omega) (show 0 ≤ a2.toInt by omega) (show a2.toInt ≤ 63 by omega) (show 0 ≤ v2_3.toInt by omega) (show v2_3.toInt ≤ 63 by omega)  hw   (lv_sub hl [0, 1, 2, 3] rfl)
        · have c17 : ¬ x15.toInt = (0 : Int) := wk_eqF c17
          refine lv_iload_n hx hb dX12_isClash_16 rfl (lv_at hl 3 rfl) ?_
          refine lv_iload_n hx hb dX12_isClash_17 rfl (lv_at hl 1 rfl) ?_
          refine lv_iand hx hb dX12_isClash_18 ?_
          refine lv_topi (fun x18 ex18 => ?_)
          have bx18 : 0 ≤ x18.toInt ∧ x18.toInt ≤ a1.toInt := by rw [ex18]; exact wk_and (by omega)
          refine lv_iload_n hx hb dX12_isClash_19 rfl (lv_at hl 1 rfl) ?_
          refine lv_icmp_ne (tgt := 25) hx hb dX12_isClash_20 (by decide) (fun c19 => ?_) (fun c19 => ?_)
          · have c19 : ¬ x18.toInt = a1.toInt := wk_eqF c19
            exact J25  H locs ls  (show 1 ≤ a1.toInt by omega) (show a1.toInt ≤ 63 by omega) (show 0 ≤ a2.toInt by omega) (show a2.toInt ≤ 63 by omega) (show 0 ≤ v2_3.toInt by omega) (show v2_3.toInt ≤ 63 by omega)  hw   (lv_sub hl [0, 1, 2, 3] rfl)
          · have c19 : x18.toInt = a1.toInt := wk_eq.mp c19
            refine lv_iconst (v := 0) hx hb dX12_isClash_23 (by decide) ?_
            exact tk_zret hC hr rfl hlocks hK ⟨rfl, (Or.inl rfl)⟩ hw dX12_isClash_24
  refine lv_iconst (v := 0) hx hb dX12_isClash_0 (by decide) ?_
  refine lv_istore_n (lv' := [(3, .int 0), (0, .ref (ad 0)), (1, .int a1), (2, .int a2)]) hx hb dX12_isClash_1 rfl hl (by decide) rfl (fun ls hl => ?_)
  exact L2 ((64 - (0 : Int)).toNat + 1) 0 s.heap locs ls  (show 1 ≤ a1.toInt by omega) (show a1.toInt ≤ 63 by omega) (show 0 ≤ a2.toInt by omega) (show a2.toInt ≤ 63 by omega) (by decide) (by decide) (Nat.lt_succ_self _) hw   (lv_sub hl [1, 2, 3, 0] rfl)
abbrev P_X12_ways_1 (ad : Nat → Nat) (cy : Nat → ClassId) (B : Int) (qr : Nat) (s1 : Int) (a1 : Int32) (a2 : Int32) (w0 : va_W) : Int32 → va_W → Prop := fun r u => TW ksM ad cy B qr 12 u ∧ FE ksM [(79, 0, 64)] w0 u ∧ ((r = (-2) ∧ 0 ≤ a1.toInt ∧ a1.toInt ≤ 6 ∧ 0 ≤ a2.toInt ∧ a2.toInt ≤ 0 ∧ (∃ y : Int32, gi u 12 0 = y ∧ 1 ≤ y.toInt ∧ y.toInt ≤ 10)) ∨ (0 ≤ r.toInt ∧ r.toInt ≤ 4095 ∧ 0 ≤ a1.toInt ∧ a1.toInt ≤ 6 ∧ (∃ y : Int32, gi u 12 0 = y ∧ 1 ≤ y.toInt ∧ y.toInt ≤ 10)) ∨ (r = (-1)))
set_option maxHeartbeats 4000000 in
set_option maxRecDepth 100000 in
theorem k_X12_ways_1 (l : Launch) (adK adV : Nat → Nat) (dC : Nat → ClassId) (dI : Nat → Nat → Nat) (cy : Nat → ClassId) (ad : Nat → Nat) (B : Int) (hB0 : 100000 ≤ B) (hB1 : B ≤ 1073741824) (qr : Nat) (s1 : Int)  (a1 : Int32) (a2 : Int32) (w0 : va_W) (sz : Nat) (hT : TW ksM ad cy B qr 12 w0)  : Met l yX12_ways wsX12_ways ({ frames := 4, cells := 0, slots := 0, locals := 86 }) (va_Pc [.ref (ad 0), .int a1, .int a2] (wpreS adK adV dC dI cy sz w0)) (va_Qi (P_X12_ways_1 ad cy B qr s1 a1 a2 w0) (fun u : va_W => wpost dC dI cy (va_A w0 sz) u) (va_A w0 sz)) 0 0 (va_A w0 sz) := by
  refine Met.ofW (cc := cX12_ways) (maxL := 7) (ret := (some .int)) (by decide) rfl ?_
  intro p e s m args below meth c s₁ Bk hml hv
  obtain ⟨rfl, ⟨hsz, hP, hK, hD0⟩, hE, hSR⟩ := hv
  have hx := Bk.exec
  have hb := Bk.bytes
  have hr := Bk.returns
  have hlocks := Bk.notSynchronized
  have hC : CallFix p m c cX12_ways 7 s _ wsX12_ways RX12 := ⟨hx, hb, hml, findClass_of_methodNamed Bk.named, atoms_spec (ws := wsX12_ways) Bk.pre⟩
  subst hsz
  have hD := hD0.self (sz := s.heap.size)
  generalize hAe : va_A w0 s.heap.size = A at hD hE ⊢
  have hA : ∀ q : Nat, s.heap.size ≤ q → A q := fun q h => by rw [← hAe]; exact Or.inr h
  have hw : Wd dC dI A s.heap s.heap [] w0 := ⟨hP, hD, va_S.rf⟩
  have hF : FE ksM [(79, 0, 64)] w0 w0 := FE.rf
  have hl := lv_entry ([.ref (ad 0), .int a1, .int a2]) (n := 7) (Nat.le_of_ble_eq_true rfl)
  rw [lg_entry_eq]
  generalize (lg_sl ([.ref (ad 0), .int a1, .int a2]) ++ List.replicate (7 - (lg_sl ([.ref (ad 0), .int a1, .int a2])).length) Slot.unset).toArray = ls at hl ⊢
  have hl : lv_has ls 7 [(0, .ref (ad 0)), (1, .int a1), (2, .int a2)] := hl
  generalize hloc : ([] : List Loc) = locs at hw ⊢
  have hinX12 : ∀ w ∈ u_ws RX12 TX12 42, w ∈ wsX12_ways := fun _ h => List.mem_cons_of_mem _ (List.mem_append_right _ (h))
  have J29 : ∀ (f29_12_0 : Int32) (H : Heap) (locs : List Loc) (ls : Array Slot) (w1 : va_W), 0 ≤ f29_12_0.toInt → f29_12_0.toInt ≤ 10 → Wd dC dI A s.heap H locs w1 → TW ksM ad cy B qr 12 w1 → FE ksM [(79, 0, 64)] w0 w1 → gi w1 12 0 = f29_12_0 → lv_has ls 7 [(0, .ref (ad 0)), (1, .int a1), (2, .int a2)] → W p l e ({ frames := 4, cells := 0, slots := 0, locals := 86 }) s m (List.toArray [.ref (ad 0), .int a1, .int a2]) below meth c H locs 0 0 (MQ below (va_Qi (P_X12_ways_1 ad cy B qr s1 a1 a2 w0) (fun u : va_W => wpost dC dI cy A u) A) (List.toArray [.ref (ad 0), .int a1, .int a2]) s 0 0 A) (F0 m 29 ls []) := by
    intro f29_12_0 H locs ls w1 r2 t3 hw hT hF c4 hl
    refine lv_iconst (v := (-1)) hx hb dX12_ways_29 (by decide) ?_
    exact tk_iret hC hr hlocks hK ⟨hT, hF, (Or.inr (Or.inr rfl))⟩ hw dX12_ways_30
  have L177 : ∀ (n177 : Nat) (v177_3 : Int32) (v177_4 : Int32) (v177_5 : Int32) (v177_6 : Int32) (f177_12_0 : Int32) (f177_12_1 : Int32) (f177_12_6 : Int32) (H : Heap) (locs : List Loc) (ls : Array Slot) (w5 : va_W), 0 ≤ a1.toInt → a1.toInt ≤ 6 → 0 ≤ v177_3.toInt → v177_3.toInt ≤ 12 → 0 ≤ v177_4.toInt → v177_4.toInt ≤ 63 → 0 ≤ v177_5.toInt → v177_5.toInt ≤ 63 → 0 ≤ v177_6.toInt → v177_6.toInt ≤ 63 → 1 ≤ f177_12_0.toInt → f177_12_0.toInt ≤ 10 → 0 ≤ f177_12_1.toInt → f177_12_1.toInt ≤ 12 → 0 ≤ f177_12_6.toInt → f177_12_6.toInt ≤ 6 → (v177_6.toInt - 0).toNat < n177 → Wd dC dI A s.heap H locs w5 → TW ksM ad cy B qr 12 w5 → FE ksM [(79, 0, 64)] w0 w5 → gi w5 12 0 = f177_12_0 → gi w5 12 1 = f177_12_1 → gi w5 12 6 = f177_12_6 → lv_has ls 7 [(0, .ref (ad 0)), (1, .int a1), (2, .int 1), (3, .int v177_3), (4, .int v177_4), (5, .int v177_5), (6, .int v177_6)] → W p l e ({ frames := 4, cells := 0, slots := 0, locals := 86 }) s m (List.toArray [.ref (ad 0), .int a1, .int a2]) below meth c H locs 0 0 (MQ below (va_Qi (P_X12_ways_1 ad cy B qr s1 a1 a2 w0) (fun u : va_W => wpost dC dI cy A u) A) (List.toArray [.ref (ad 0), .int a1, .int a2]) s 0 0 A) (F0 m 177 ls []) := by
    intro n177
    induction n177 with
    | zero => intro v177_3 v177_4 v177_5 v177_6 f177_12_0 f177_12_1 f177_12_6 H locs ls w5 r6 t7 r8 t9 r10 t11 r12 t13 r14 t15 r16 t17 r19 t20 r22 t23 hm177 hw hT hF c18 c21 c24 hl; omega
    | succ n177 ih177 =>
      intro v177_3 v177_4 v177_5 v177_6 f177_12_0 f177_12_1 f177_12_6 H locs ls w5 r6 t7 r8 t9 r10 t11 r12 t13 r14 t15 r16 t17 r19 t20 r22 t23 hm177 hw hT hF c18 c21 c24 hl
      have J210 : ∀ (v210_5 : Int32) (H : Heap) (locs : List Loc) (ls : Array Slot) (w25 : va_W), 0 ≤ a1.toInt → a1.toInt ≤ 6 → 0 ≤ v177_3.toInt → v177_3.toInt ≤ 12 → 0 ≤ v177_4.toInt → v177_4.toInt ≤ 63 → 0 ≤ v210_5.toInt → v210_5.toInt ≤ 63 → 1 ≤ v177_6.toInt → v177_6.toInt ≤ 63 → 1 ≤ f177_12_0.toInt → f177_12_0.toInt ≤ 10 → 0 ≤ f177_12_1.toInt → f177_12_1.toInt ≤ 12 → 0 ≤ f177_12_6.toInt → f177_12_6.toInt ≤ 6 → Wd dC dI A s.heap H locs w25 → TW ksM ad cy B qr 12 w25 → FE ksM [(79, 0, 64)] w0 w25 → gi w25 12 0 = f177_12_0 → gi w25 12 1 = f177_12_1 → gi w25 12 6 = f177_12_6 → lv_has ls 7 [(0, .ref (ad 0)), (1, .int a1), (2, .int 1), (3, .int v177_3), (4, .int v177_4), (5, .int v210_5), (6, .int v177_6)] → W p l e ({ frames := 4, cells := 0, slots := 0, locals := 86 }) s m (List.toArray [.ref (ad 0), .int a1, .int a2]) below meth c H locs 0 0 (MQ below (va_Qi (P_X12_ways_1 ad cy B qr s1 a1 a2 w0) (fun u : va_W => wpost dC dI cy A u) A) (List.toArray [.ref (ad 0), .int a1, .int a2]) s 0 0 A) (F0 m 210 ls []) := by
        intro v210_5 H locs ls w25 r26 t27 r28 t29 r30 t31 r32 t33 r34 t35 r36 t37 r39 t40 r42 t43 hw hT hF c38 c41 c44 hl
        obtain ⟨x45, ex45⟩ : ∃ y : Int32, y = v177_6 + Int32.ofInt (-1) := ⟨_, rfl⟩
        refine lv_iinc (v := x45) (lv' := [(6, .int x45), (0, .ref (ad 0)), (1, .int a1), (2, .int 1), (3, .int v177_3), (4, .int v177_4), (5, .int v210_5)]) hx hb dX12_ways_210 hl (k := 6) rfl ex45.symm (by decide) rfl (fun ls hl => ?_)
        have ex45 : x45.toInt = v177_6.toInt + (-1) := by rw [ex45]; exact wk_add (y := (-1)) (show -2147483648 ≤ v177_6.toInt + (-1) by omega) (show v177_6.toInt + (-1) ≤ 2147483647 by omega)
        refine lv_goto (tgt := 177) hx hb dX12_ways_213 (by decide) ?_
        exact ih177 v177_3 v177_4 v210_5 x45 f177_12_0 f177_12_1 f177_12_6 H locs ls w25 (show 0 ≤ a1.toInt by omega) (show a1.toInt ≤ 6 by omega) (show 0 ≤ v177_3.toInt by omega) (show v177_3.toInt ≤ 12 by omega) (show 0 ≤ v177_4.toInt by omega) (show v177_4.toInt ≤ 63 by omega) (show 0 ≤ v210_5.toInt by omega) (show v210_5.toInt ≤ 63 by omega) (show 0 ≤ x45.toInt by omega) (show x45.toInt ≤ 63 by omega) (show 1 ≤ f177_12_0.toInt by omega) (show f177_12_0.toInt ≤ 10 by omega) (show 0 ≤ f177_12_1.toInt by omega) (show f177_12_1.toInt ≤ 12 by omega) (show 0 ≤ f177_12_6.toInt by omega) (show f177_12_6.toInt ≤ 6 by omega) (show (x45.toInt - 0).toNat < n177 by omega) hw hT hF c38 c41 c44 (lv_sub hl [1, 2, 3, 4, 5, 6, 0] rfl)
      refine lv_iload hx hb dX12_ways_177 (lv_at hl 6 rfl) ?_
      refine lv_if_le (tgt := 216) hx hb dX12_ways_179 (by decide) (fun c46 => ?_) (fun c46 => ?_)
      · have c46 : v177_6.toInt ≤ (0 : Int) := wk_le.mp c46
        refine lv_iload hx hb dX12_ways_216 (lv_at hl 5 rfl) ?_
        exact tk_iret hC hr hlocks hK ⟨hT, hF, (Or.inr (Or.inl ⟨(show 0 ≤ v177_5.toInt by omega), (show v177_5.toInt ≤ 4095 by omega), (show 0 ≤ a1.toInt by omega), (show a1.toInt ≤ 6 by omega), ⟨f177_12_0, c18, (show 1 ≤ f177_12_0.toInt by omega), (show f177_12_0.toInt ≤ 10 by omega)⟩⟩))⟩ hw dX12_ways_218
      · have c46 : (0 : Int) < v177_6.toInt := wk_leF c46
        refine lv_aload_n hx hb dX12_ways_182 rfl (lv_at hl 0 rfl) ?_
        refine lv_iload hx hb dX12_ways_183 (lv_at hl 6 rfl) ?_
        refine lv_iload hx hb dX12_ways_185 (lv_at hl 4 rfl) ?_
        refine tk_Vi hC hK hw hT hA hE hSR kM_at0 (by decide) rfl (k_X12_isClash_1 l adK adV dC dI cy ad B (by omega) (by omega) qr s1   v177_6 (show 1 ≤ v177_6.toInt by omega) (show v177_6.toInt ≤ 63 by omega) v177_4 (show 0 ≤ v177_4.toInt by omega) (show v177_4.toInt ≤ 63 by omega) w5 H.size hT ) (cwV 2 hC.2.2.2.2 gX12_ways_X12_isClash rfl rfl rfl (by decide +kernel) ⟨Nat.le_of_ble_eq_true rfl, Nat.le_of_ble_eq_true rfl⟩) rfl hl.1 rfl (Nat.le_of_ble_eq_true rfl) dX12_ways_187 (fun r47 w49 H locs hp48 hw => ?_)
        obtain ⟨rfl, hg51⟩ := hp48
        rcases hg51 with rfl | rfl
        · refine lv_if_eq (tgt := 210) hx hb dX12_ways_190 (by decide) (fun _ => ?_) (fun c => absurd (by decide) c)
          exact J210 v177_5 H locs ls w5 (show 0 ≤ a1.toInt by omega) (show a1.toInt ≤ 6 by omega) (show 0 ≤ v177_3.toInt by omega) (show v177_3.toInt ≤ 12 by omega) (show 0 ≤ v177_4.toInt by omega) (show v177_4.toInt ≤ 63 by omega) (show 0 ≤ v177_5.toInt by omega) (show v177_5.toInt ≤ 63 by omega) (show 1 ≤ v177_6.toInt by omega) (show v177_6.toInt ≤ 63 by omega) (show 1 ≤ f177_12_0.toInt by omega) (show f177_12_0.toInt ≤ 10 by omega) (show 0 ≤ f177_12_1.toInt by omega) (show f177_12_1.toInt ≤ 12 by omega) (show 0 ≤ f177_12_6.toInt by omega) (show f177_12_6.toInt ≤ 6 by omega)  hw hT hF c18 c21 c24 (lv_sub hl [0, 1, 2, 3, 4, 5, 6] rfl)
        · refine lv_if_eq (tgt := 210) hx hb dX12_ways_190 (by decide) (fun c => absurd c (by decide)) (fun _ => ?_)
          refine lv_iload hx hb dX12_ways_193 (lv_at hl 6 rfl) ?_
          refine tk_Si hC hK hw hT hA hE hSR (k_X12_bits_2 l adK adV dC dI cy ad B (by omega) (by omega) qr s1   v177_6 (show 1 ≤ v177_6.toInt by omega) (show v177_6.toInt ≤ 63 by omega) w5 H.size hT ) (va_cwS 1 hC.2.2.2.2 gX12_ways_X12_bits rfl rfl rfl (by decide +kernel) ⟨Nat.le_of_ble_eq_true rfl, Nat.le_of_ble_eq_true rfl⟩) rfl hl.1 rfl (Nat.le_of_ble_eq_true rfl) dX12_ways_195 (fun r52 w54 H locs hp53 hw => ?_)
          obtain ⟨rfl, hg56⟩ := hp53
          clear hg56
          refine lv_iload hx hb dX12_ways_198 (lv_at hl 5 rfl) ?_
          refine tk_Si hC hK hw hT hA hE hSR (k_X12_bits_1 l adK adV dC dI cy ad B (by omega) (by omega) qr s1   v177_5 (show 0 ≤ v177_5.toInt by omega) (show v177_5.toInt ≤ 63 by omega) w5 H.size hT ) (va_cwS 1 hC.2.2.2.2 gX12_ways_X12_bits rfl rfl rfl (by decide +kernel) ⟨Nat.le_of_ble_eq_true rfl, Nat.le_of_ble_eq_true rfl⟩) rfl hl.1 rfl (Nat.le_of_ble_eq_true rfl) dX12_ways_200 (fun r57 w59 H locs hp58 hw => ?_)
          obtain ⟨rfl, hg61⟩ := hp58
          clear hg61
          refine lv_icmp_gt (tgt := 210) hx hb dX12_ways_203 (by decide) (fun c62 => ?_) (fun c62 => ?_)
          · have c62 : r57.toInt < r52.toInt := wk_lt.mp c62
            exact J210 v177_5 H locs ls w5 (show 0 ≤ a1.toInt by omega) (show a1.toInt ≤ 6 by omega) (show 0 ≤ v177_3.toInt by omega) (show v177_3.toInt ≤ 12 by omega) (show 0 ≤ v177_4.toInt by omega) (show v177_4.toInt ≤ 63 by omega) (show 0 ≤ v177_5.toInt by omega) (show v177_5.toInt ≤ 63 by omega) (show 1 ≤ v177_6.toInt by omega) (show v177_6.toInt ≤ 63 by omega) (show 1 ≤ f177_12_0.toInt by omega) (show f177_12_0.toInt ≤ 10 by omega) (show 0 ≤ f177_12_1.toInt by omega) (show f177_12_1.toInt ≤ 12 by omega) (show 0 ≤ f177_12_6.toInt by omega) (show f177_12_6.toInt ≤ 6 by omega)  hw hT hF c18 c21 c24 (lv_sub hl [0, 1, 2, 3, 4, 5, 6] rfl)
          · have c62 : r52.toInt ≤ r57.toInt := wk_ltF c62
            refine lv_iload hx hb dX12_ways_206 (lv_at hl 6 rfl) ?_
            refine lv_istore (lv' := [(5, .int v177_6), (0, .ref (ad 0)), (1, .int a1), (2, .int 1), (3, .int v177_3), (4, .int v177_4), (6, .int v177_6)]) hx hb dX12_ways_208 hl (by decide) rfl (fun ls hl => ?_)
            exact J210 v177_6 H locs ls w5 (show 0 ≤ a1.toInt by omega) (show a1.toInt ≤ 6 by omega) (show 0 ≤ v177_3.toInt by omega) (show v177_3.toInt ≤ 12 by omega) (show 0 ≤ v177_4.toInt by omega) (show v177_4.toInt ≤ 63 by omega) (show 0 ≤ v177_6.toInt by omega) (show v177_6.toInt ≤ 63 by omega) (show 1 ≤ v177_6.toInt by omega) (show v177_6.toInt ≤ 63 by omega) (show 1 ≤ f177_12_0.toInt by omega) (show f177_12_0.toInt ≤ 10 by omega) (show 0 ≤ f177_12_1.toInt by omega) (show f177_12_1.toInt ≤ 12 by omega) (show 0 ≤ f177_12_6.toInt by omega) (show f177_12_6.toInt ≤ 6 by omega)  hw hT hF c18 c21 c24 (lv_sub hl [1, 2, 3, 4, 5, 0, 6] rfl)
  have L113 : ∀ (n113 : Nat) (v113_3 : Int32) (v113_4 : Int32) (v113_5 : Int32) (f113_12_0 : Int32) (f113_12_1 : Int32) (f113_12_6 : Int32) (H : Heap) (locs : List Loc) (ls : Array Slot) (w63 : va_W), 0 ≤ a1.toInt → a1.toInt ≤ 6 → 0 ≤ a2.toInt → a2.toInt ≤ 1 → 0 ≤ v113_3.toInt → v113_3.toInt ≤ 12 → 0 ≤ v113_4.toInt → v113_4.toInt ≤ 63 → 0 ≤ v113_5.toInt → v113_5.toInt ≤ 4096 → 1 ≤ f113_12_0.toInt → f113_12_0.toInt ≤ 10 → 0 ≤ f113_12_1.toInt → f113_12_1.toInt ≤ 12 → 0 ≤ f113_12_6.toInt → f113_12_6.toInt ≤ 6 → (4096 - v113_5.toInt).toNat < n113 → Wd dC dI A s.heap H locs w63 → TW ksM ad cy B qr 12 w63 → FE ksM [(79, 0, 64)] w0 w63 → gi w63 12 0 = f113_12_0 → gi w63 12 1 = f113_12_1 → gi w63 12 6 = f113_12_6 → lv_has ls 7 [(0, .ref (ad 0)), (1, .int a1), (2, .int a2), (3, .int v113_3), (4, .int v113_4), (5, .int v113_5)] → W p l e ({ frames := 4, cells := 0, slots := 0, locals := 86 }) s m (List.toArray [.ref (ad 0), .int a1, .int a2]) below meth c H locs 0 0 (MQ below (va_Qi (P_X12_ways_1 ad cy B qr s1 a1 a2 w0) (fun u : va_W => wpost dC dI cy A u) A) (List.toArray [.ref (ad 0), .int a1, .int a2]) s 0 0 A) (F0 m 113 ls []) := by
    intro n113
    induction n113 with
    | zero => intro v113_3 v113_4 v113_5 f113_12_0 f113_12_1 f113_12_6 H locs ls w63 r64 t65 r66 t67 r68 t69 r70 t71 r72 t73 r74 t75 r77 t78 r80 t81 hm113 hw hT hF c76 c79 c82 hl; omega
    | succ n113 ih113 =>
      intro v113_3 v113_4 v113_5 f113_12_0 f113_12_1 f113_12_6 H locs ls w63 r64 t65 r66 t67 r68 t69 r70 t71 r72 t73 r74 t75 r77 t78 r80 t81 hm113 hw hT hF c76 c79 c82 hl
      refine lv_iload hx hb dX12_ways_113 (lv_at hl 5 rfl) ?_
      refine lv_iconst (v := 1) hx hb dX12_ways_115 (by decide) ?_
      refine lv_iload_n hx hb dX12_ways_116 rfl (lv_at hl 3 rfl) ?_
      refine lv_ishl hx hb dX12_ways_117 ?_
      refine lv_topi (fun x83 ex83 => ?_)
      have bx83 : 1 ≤ x83.toInt ∧ x83.toInt ≤ 4096 := by rw [ex83]; exact wk_shl1 12 (by decide) (by omega) (by omega)
      refine lv_icmp_ge (tgt := 162) hx hb dX12_ways_118 (by decide) (fun c84 => ?_) (fun c84 => ?_)
      · have c84 : x83.toInt ≤ v113_5.toInt := wk_le.mp c84
        refine lv_iload_n hx hb dX12_ways_162 rfl (lv_at hl 2 rfl) ?_
        refine lv_if_ne (tgt := 169) hx hb dX12_ways_163 (by decide) (fun c85 => ?_) (fun c85 => ?_)
        · have c85 : ¬ a2.toInt = (0 : Int) := wk_eqF c85
          refine lv_iload hx hb dX12_ways_169 (lv_at hl 4 rfl) ?_
          refine lv_istore (lv' := [(5, .int v113_4), (0, .ref (ad 0)), (1, .int a1), (2, .int a2), (3, .int v113_3), (4, .int v113_4)]) hx hb dX12_ways_171 hl (by decide) rfl (fun ls hl => ?_)
          refine lv_iload hx hb dX12_ways_173 (lv_at hl 5 rfl) ?_
          refine lv_istore (lv' := [(6, .int v113_4), (5, .int v113_4), (0, .ref (ad 0)), (1, .int a1), (2, .int a2), (3, .int v113_3), (4, .int v113_4)]) hx hb dX12_ways_175 hl (by decide) rfl (fun ls hl => ?_)
          obtain rfl : a2 = 1 := wk_eq.mpr (show a2.toInt = 1 by omega)
          exact L177 ((v113_4.toInt - 0).toNat + 1) v113_3 v113_4 v113_4 v113_4 f113_12_0 f113_12_1 f113_12_6 H locs ls w63 (show 0 ≤ a1.toInt by omega) (show a1.toInt ≤ 6 by omega) (show 0 ≤ v113_3.toInt by omega) (show v113_3.toInt ≤ 12 by omega) (show 0 ≤ v113_4.toInt by omega) (show v113_4.toInt ≤ 63 by omega) (show 0 ≤ v113_4.toInt by omega) (show v113_4.toInt ≤ 63 by omega) (show 0 ≤ v113_4.toInt by omega) (show v113_4.toInt ≤ 63 by omega) (show 1 ≤ f113_12_0.toInt by omega) (show f113_12_0.toInt ≤ 10 by omega) (show 0 ≤ f113_12_1.toInt by omega) (show f113_12_1.toInt ≤ 12 by omega) (show 0 ≤ f113_12_6.toInt by omega) (show f113_12_6.toInt ≤ 6 by omega) (Nat.lt_succ_self _) hw hT hF c76 c79 c82 (lv_sub hl [2, 3, 4, 5, 6, 1, 0] rfl)
        · have c85 : a2.toInt = (0 : Int) := wk_eq.mp c85
          refine lv_bipush (v := (-2)) hx hb dX12_ways_166 (by decide) ?_
          exact tk_iret hC hr hlocks hK ⟨hT, hF, (Or.inl ⟨rfl, (show 0 ≤ a1.toInt by omega), (show a1.toInt ≤ 6 by omega), (show 0 ≤ a2.toInt by omega), (show a2.toInt ≤ 0 by omega), ⟨f113_12_0, c76, (show 1 ≤ f113_12_0.toInt by omega), (show f113_12_0.toInt ≤ 10 by omega)⟩⟩)⟩ hw dX12_ways_168
      · have c84 : v113_5.toInt < x83.toInt := wk_leF c84
        refine lv_aload_n hx hb dX12_ways_121 rfl (lv_at hl 0 rfl) ?_
        refine lv_iload_n hx hb dX12_ways_122 rfl (lv_at hl 1 rfl) ?_
        refine lv_iload hx hb dX12_ways_123 (lv_at hl 5 rfl) ?_
        refine tk_Vi hC hK hw hT hA hE hSR kM_at0 (by decide) rfl (k_X12_doneBy_1 l adK adV dC dI cy ad B (by omega) (by omega) qr s1   a1 (show 0 ≤ a1.toInt by omega) (show a1.toInt ≤ 6 by omega) v113_5 (show 0 ≤ v113_5.toInt by omega) (show v113_5.toInt ≤ 4095 by omega) w63 H.size hT ) (cwV 2 hC.2.2.2.2 gX12_ways_X12_doneBy rfl rfl rfl (by decide +kernel) ⟨Nat.le_of_ble_eq_true rfl, Nat.le_of_ble_eq_true rfl⟩) rfl hl.1 rfl (Nat.le_of_ble_eq_true rfl) dX12_ways_125 (fun r86 w88 H locs hp87 hw => ?_)
        obtain ⟨rfl, hg92⟩ := hp87
        obtain ⟨g90, g91⟩ := hg92
        refine lv_istore (lv' := [(6, .int r86), (0, .ref (ad 0)), (1, .int a1), (2, .int a2), (3, .int v113_3), (4, .int v113_4), (5, .int v113_5)]) hx hb dX12_ways_128 hl (by decide) rfl (fun ls hl => ?_)
        refine lv_iload hx hb dX12_ways_130 (lv_at hl 0 rfl) ?_
        refine lv_iload hx hb dX12_ways_132 (lv_at hl 5 rfl) ?_
        refine lv_icmp_ne (tgt := 148) hx hb dX12_ways_134 (by decide) (fun c93 => ?_) (fun c93 => ?_)
        · have c93 : ¬ r86.toInt = v113_4.toInt := wk_eqF c93
          refine lv_aload_n hx hb dX12_ways_148 rfl (lv_at hl 1 rfl) ?_
          refine tk_getA hC hK hw hT hinX12 kM_at0 (by decide) rfl 38 (by decide) (List.mem_of_getElem? (i := 3) rfl) rfl rfl dX12_ways_149 ?_
          refine lv_iload hx hb dX12_ways_152 (lv_at hl 0 rfl) ?_
          refine lv_iconst (v := 1) hx hb dX12_ways_154 (by decide) ?_
          refine tk_zast hC hK hw hT kM_at20 (by decide) rfl rfl (show 0 ≤ r86.toInt by omega) (show r86.toInt < 64 by omega) (by decide) (by decide) dX12_ways_155 (fun H locs w94 hw hT k96 c95 => ?_)
          have hF := hF.put kM_at20 (inE_of (a := 0) (b := 64) (by decide) (show 0 ≤ r86.toInt.toNat by omega) (show r86.toInt.toNat ≤ 64 by omega)) k96
          have c97 := k96.gi (Or.inl (tk_ne kM_at12 kM_at20 (by decide))) c76
          have c98 := k96.gi (Or.inl (tk_ne kM_at12 kM_at20 (by decide))) c79
          have c99 := k96.gi (Or.inl (tk_ne kM_at12 kM_at20 (by decide))) c82
          obtain ⟨x100, ex100⟩ : ∃ y : Int32, y = v113_5 + Int32.ofInt 1 := ⟨_, rfl⟩
          refine lv_iinc (v := x100) (lv' := [(5, .int x100), (6, .int r86), (0, .ref (ad 0)), (1, .int a1), (2, .int a2), (3, .int v113_3), (4, .int v113_4)]) hx hb dX12_ways_156 hl (k := 6) rfl ex100.symm (by decide) rfl (fun ls hl => ?_)
          have ex100 : x100.toInt = v113_5.toInt + 1 := by rw [ex100]; exact wk_add (y := 1) (show -2147483648 ≤ v113_5.toInt + 1 by omega) (show v113_5.toInt + 1 ≤ 2147483647 by omega)
          refine lv_goto (tgt := 113) hx hb dX12_ways_159 (by decide) ?_
          exact ih113 v113_3 v113_4 x100 f113_12_0 f113_12_1 f113_12_6 H locs ls w94 (show 0 ≤ a1.toInt by omega) (show a1.toInt ≤ 6 by omega) (show 0 ≤ a2.toInt by omega) (show a2.toInt ≤ 1 by omega) (show 0 ≤ v113_3.toInt by omega) (show v113_3.toInt ≤ 12 by omega) (show 0 ≤ v113_4.toInt by omega) (show v113_4.toInt ≤ 63 by omega) (show 0 ≤ x100.toInt by omega) (show x100.toInt ≤ 4096 by omega) (show 1 ≤ f113_12_0.toInt by omega) (show f113_12_0.toInt ≤ 10 by omega) (show 0 ≤ f113_12_1.toInt by omega) (show f113_12_1.toInt ≤ 12 by omega) (show 0 ≤ f113_12_6.toInt by omega) (show f113_12_6.toInt ≤ 6 by omega) (show (4096 - x100.toInt).toNat < n113 by omega) hw hT hF c97 c98 c99 (lv_sub hl [2, 3, 4, 5, 6, 0] rfl)
        · have c93 : r86.toInt = v113_4.toInt := wk_eq.mp c93
          refine lv_iload_n hx hb dX12_ways_137 rfl (lv_at hl 3 rfl) ?_
          refine lv_if_ne (tgt := 146) hx hb dX12_ways_138 (by decide) (fun c101 => ?_) (fun c101 => ?_)
          · have c101 : ¬ a2.toInt = (0 : Int) := wk_eqF c101
            refine lv_iconst (v := 0) hx hb dX12_ways_146 (by decide) ?_
            exact tk_iret hC hr hlocks hK ⟨hT, hF, (Or.inr (Or.inl ⟨(by decide), (by decide), (show 0 ≤ a1.toInt by omega), (show a1.toInt ≤ 6 by omega), ⟨f113_12_0, c76, (show 1 ≤ f113_12_0.toInt by omega), (show f113_12_0.toInt ≤ 10 by omega)⟩⟩))⟩ hw dX12_ways_147
          · have c101 : a2.toInt = (0 : Int) := wk_eq.mp c101
            refine lv_iload hx hb dX12_ways_141 (lv_at hl 6 rfl) ?_
            refine lv_goto (tgt := 147) hx hb dX12_ways_143 (by decide) ?_
            exact tk_iret hC hr hlocks hK ⟨hT, hF, (Or.inr (Or.inl ⟨(show 0 ≤ v113_5.toInt by omega), (show v113_5.toInt ≤ 4095 by omega), (show 0 ≤ a1.toInt by omega), (show a1.toInt ≤ 6 by omega), ⟨f113_12_0, c76, (show 1 ≤ f113_12_0.toInt by omega), (show f113_12_0.toInt ≤ 10 by omega)⟩⟩))⟩ hw dX12_ways_147
  have L89 : ∀ (n89 : Nat) (v89_3 : Int32) (v89_4 : Int32) (v89_5 : Int32) (f89_12_0 : Int32) (f89_12_1 : Int32) (f89_12_6 : Int32) (H : Heap) (locs : List Loc) (ls : Array Slot) (w102 : va_W), 0 ≤ a1.toInt → a1.toInt ≤ 6 → 0 ≤ a2.toInt → a2.toInt ≤ 1 → 0 ≤ v89_3.toInt → v89_3.toInt ≤ 12 → 0 ≤ v89_4.toInt → v89_4.toInt ≤ 63 → 0 ≤ v89_5.toInt → v89_5.toInt ≤ 64 → 1 ≤ f89_12_0.toInt → f89_12_0.toInt ≤ 10 → 0 ≤ f89_12_1.toInt → f89_12_1.toInt ≤ 12 → 0 ≤ f89_12_6.toInt → f89_12_6.toInt ≤ 6 → (64 - v89_5.toInt).toNat < n89 → Wd dC dI A s.heap H locs w102 → TW ksM ad cy B qr 12 w102 → FE ksM [(79, 0, 64)] w0 w102 → gi w102 12 0 = f89_12_0 → gi w102 12 1 = f89_12_1 → gi w102 12 6 = f89_12_6 → lv_has ls 7 [(0, .ref (ad 0)), (1, .int a1), (2, .int a2), (3, .int v89_3), (4, .int v89_4), (5, .int v89_5)] → W p l e ({ frames := 4, cells := 0, slots := 0, locals := 86 }) s m (List.toArray [.ref (ad 0), .int a1, .int a2]) below meth c H locs 0 0 (MQ below (va_Qi (P_X12_ways_1 ad cy B qr s1 a1 a2 w0) (fun u : va_W => wpost dC dI cy A u) A) (List.toArray [.ref (ad 0), .int a1, .int a2]) s 0 0 A) (F0 m 89 ls []) := by
    intro n89
    induction n89 with
    | zero => intro v89_3 v89_4 v89_5 f89_12_0 f89_12_1 f89_12_6 H locs ls w102 r103 t104 r105 t106 r107 t108 r109 t110 r111 t112 r113 t114 r116 t117 r119 t120 hm89 hw hT hF c115 c118 c121 hl; omega
    | succ n89 ih89 =>
      intro v89_3 v89_4 v89_5 f89_12_0 f89_12_1 f89_12_6 H locs ls w102 r103 t104 r105 t106 r107 t108 r109 t110 r111 t112 r113 t114 r116 t117 r119 t120 hm89 hw hT hF c115 c118 c121 hl
      refine lv_iload hx hb dX12_ways_89 (lv_at hl 5 rfl) ?_
      refine lv_bipush (v := 64) hx hb dX12_ways_91 (by decide) ?_
      refine lv_icmp_ge (tgt := 110) hx hb dX12_ways_93 (by decide) (fun c122 => ?_) (fun c122 => ?_)
      · have c122 : (64 : Int) ≤ v89_5.toInt := wk_le.mp c122
        refine lv_iconst (v := 0) hx hb dX12_ways_110 (by decide) ?_
        refine lv_istore (lv' := [(5, .int 0), (0, .ref (ad 0)), (1, .int a1), (2, .int a2), (3, .int v89_3), (4, .int v89_4)]) hx hb dX12_ways_111 hl (by decide) rfl (fun ls hl => ?_)
        exact L113 ((4096 - (0 : Int)).toNat + 1) v89_3 v89_4 0 f89_12_0 f89_12_1 f89_12_6 H locs ls w102 (show 0 ≤ a1.toInt by omega) (show a1.toInt ≤ 6 by omega) (show 0 ≤ a2.toInt by omega) (show a2.toInt ≤ 1 by omega) (show 0 ≤ v89_3.toInt by omega) (show v89_3.toInt ≤ 12 by omega) (show 0 ≤ v89_4.toInt by omega) (show v89_4.toInt ≤ 63 by omega) (by decide) (by decide) (show 1 ≤ f89_12_0.toInt by omega) (show f89_12_0.toInt ≤ 10 by omega) (show 0 ≤ f89_12_1.toInt by omega) (show f89_12_1.toInt ≤ 12 by omega) (show 0 ≤ f89_12_6.toInt by omega) (show f89_12_6.toInt ≤ 6 by omega) (Nat.lt_succ_self _) hw hT hF c115 c118 c121 (lv_sub hl [1, 2, 3, 4, 5, 0] rfl)
      · have c122 : v89_5.toInt < (64 : Int) := wk_leF c122
        refine lv_aload_n hx hb dX12_ways_96 rfl (lv_at hl 0 rfl) ?_
        refine tk_getA hC hK hw hT hinX12 kM_at0 (by decide) rfl 38 (by decide) (List.mem_of_getElem? (i := 3) rfl) rfl rfl dX12_ways_97 ?_
        refine lv_iload hx hb dX12_ways_100 (lv_at hl 5 rfl) ?_
        refine lv_iconst (v := 0) hx hb dX12_ways_102 (by decide) ?_
        refine tk_zast hC hK hw hT kM_at20 (by decide) rfl rfl (show 0 ≤ v89_5.toInt by omega) (show v89_5.toInt < 64 by omega) (by decide) (by decide) dX12_ways_103 (fun H locs w123 hw hT k125 c124 => ?_)
        have hF := hF.put kM_at20 (inE_of (a := 0) (b := 64) (by decide) (show 0 ≤ v89_5.toInt.toNat by omega) (show v89_5.toInt.toNat ≤ 64 by omega)) k125
        have c126 := k125.gi (Or.inl (tk_ne kM_at12 kM_at20 (by decide))) c115
        have c127 := k125.gi (Or.inl (tk_ne kM_at12 kM_at20 (by decide))) c118
        have c128 := k125.gi (Or.inl (tk_ne kM_at12 kM_at20 (by decide))) c121
        obtain ⟨x129, ex129⟩ : ∃ y : Int32, y = v89_5 + Int32.ofInt 1 := ⟨_, rfl⟩
        refine lv_iinc (v := x129) (lv' := [(5, .int x129), (0, .ref (ad 0)), (1, .int a1), (2, .int a2), (3, .int v89_3), (4, .int v89_4)]) hx hb dX12_ways_104 hl (k := 5) rfl ex129.symm (by decide) rfl (fun ls hl => ?_)
        have ex129 : x129.toInt = v89_5.toInt + 1 := by rw [ex129]; exact wk_add (y := 1) (show -2147483648 ≤ v89_5.toInt + 1 by omega) (show v89_5.toInt + 1 ≤ 2147483647 by omega)
        refine lv_goto (tgt := 89) hx hb dX12_ways_107 (by decide) ?_
        exact ih89 v89_3 v89_4 x129 f89_12_0 f89_12_1 f89_12_6 H locs ls w123 (show 0 ≤ a1.toInt by omega) (show a1.toInt ≤ 6 by omega) (show 0 ≤ a2.toInt by omega) (show a2.toInt ≤ 1 by omega) (show 0 ≤ v89_3.toInt by omega) (show v89_3.toInt ≤ 12 by omega) (show 0 ≤ v89_4.toInt by omega) (show v89_4.toInt ≤ 63 by omega) (show 0 ≤ x129.toInt by omega) (show x129.toInt ≤ 64 by omega) (show 1 ≤ f89_12_0.toInt by omega) (show f89_12_0.toInt ≤ 10 by omega) (show 0 ≤ f89_12_1.toInt by omega) (show f89_12_1.toInt ≤ 12 by omega) (show 0 ≤ f89_12_6.toInt by omega) (show f89_12_6.toInt ≤ 6 by omega) (show (64 - x129.toInt).toNat < n89 by omega) hw hT hF c126 c127 c128 (lv_sub hl [1, 2, 3, 4, 5, 0] rfl)
  have L36 : ∀ (n36 : Nat) (v36_3 : Int32) (v36_4 : Int32) (f36_12_0 : Int32) (H : Heap) (locs : List Loc) (ls : Array Slot) (w130 : va_W), 0 ≤ a1.toInt → a1.toInt ≤ 6 → 0 ≤ a2.toInt → a2.toInt ≤ 1 → 0 ≤ v36_3.toInt → v36_3.toInt ≤ 12 → 0 ≤ v36_4.toInt → v36_4.toInt ≤ 12 → 1 ≤ f36_12_0.toInt → f36_12_0.toInt ≤ 10 → v36_3.toInt ≤ v36_4.toInt + 0 → (12 - v36_4.toInt).toNat < n36 → Wd dC dI A s.heap H locs w130 → TW ksM ad cy B qr 12 w130 → FE ksM [(79, 0, 64)] w0 w130 → gi w130 12 0 = f36_12_0 → lv_has ls 7 [(0, .ref (ad 0)), (1, .int a1), (2, .int a2), (3, .int v36_3), (4, .int v36_4)] → W p l e ({ frames := 4, cells := 0, slots := 0, locals := 86 }) s m (List.toArray [.ref (ad 0), .int a1, .int a2]) below meth c H locs 0 0 (MQ below (va_Qi (P_X12_ways_1 ad cy B qr s1 a1 a2 w0) (fun u : va_W => wpost dC dI cy A u) A) (List.toArray [.ref (ad 0), .int a1, .int a2]) s 0 0 A) (F0 m 36 ls []) := by
    intro n36
    induction n36 with
    | zero => intro v36_3 v36_4 f36_12_0 H locs ls w130 r131 t132 r133 t134 r135 t136 r137 t138 r139 t140 i142 hm36 hw hT hF c141 hl; omega
    | succ n36 ih36 =>
      intro v36_3 v36_4 f36_12_0 H locs ls w130 r131 t132 r133 t134 r135 t136 r137 t138 r139 t140 i142 hm36 hw hT hF c141 hl
      refine lv_iload hx hb dX12_ways_36 (lv_at hl 4 rfl) ?_
      refine lv_aload_n hx hb dX12_ways_38 rfl (lv_at hl 0 rfl) ?_
      refine tk_getA hC hK hw hT hinX12 kM_at0 (by decide) rfl 26 (by decide) (List.mem_of_getElem? (i := 2) rfl) rfl rfl dX12_ways_39 ?_
      refine lv_iconst (v := 1) hx hb dX12_ways_42 (by decide) ?_
      refine tk_ialdR hC hK hw hT kM_at12 rfl (by decide) (by decide) dX12_ways_43 (fun x143 c144 Ex143 => ?_)
      have bx143 : 0 ≤ x143.toInt ∧ x143.toInt ≤ 12 := (tk_rg1 rfl).mp Ex143
      have c144 : gi w130 12 1 = x143 := c144
      refine lv_icmp_ge (tgt := 73) hx hb dX12_ways_44 (by decide) (fun c145 => ?_) (fun c145 => ?_)
      · have c145 : x143.toInt ≤ v36_4.toInt := wk_le.mp c145
        refine lv_iconst (v := 1) hx hb dX12_ways_73 (by decide) ?_
        refine lv_aload_n hx hb dX12_ways_74 rfl (lv_at hl 0 rfl) ?_
        refine tk_getA hC hK hw hT hinX12 kM_at0 (by decide) rfl 26 (by decide) (List.mem_of_getElem? (i := 2) rfl) rfl rfl dX12_ways_75 ?_
        refine lv_bipush (v := 6) hx hb dX12_ways_78 (by decide) ?_
        refine tk_ialdR hC hK hw hT kM_at12 rfl (by decide) (by decide) dX12_ways_80 (fun x146 c147 Ex146 => ?_)
        have bx146 := tk_rgI rfl 6 1 1 0 6 (by decide +kernel) ⟨0, by decide, by decide⟩ Ex146
        have c147 : gi w130 12 6 = x146 := c147
        refine lv_ishl hx hb dX12_ways_81 ?_
        refine lv_topi (fun x148 ex148 => ?_)
        have bx148 : 1 ≤ x148.toInt ∧ x148.toInt ≤ 64 := by rw [ex148]; exact wk_shl1 6 (by decide) (by omega) (by omega)
        refine lv_iconst (v := 1) hx hb dX12_ways_82 (by decide) ?_
        refine lv_isub hx hb dX12_ways_83 ?_
        refine lv_topi (fun x149 ex149 => ?_)
        have ex149 : x149.toInt = x148.toInt - (1 : Int) := by rw [ex149]; exact wk_sub (show (-2147483648) ≤ x148.toInt - (1 : Int) by omega) (show x148.toInt - (1 : Int) ≤ 2147483647 by omega)
        refine lv_istore (lv' := [(4, .int x149), (0, .ref (ad 0)), (1, .int a1), (2, .int a2), (3, .int v36_3)]) hx hb dX12_ways_84 hl (by decide) rfl (fun ls hl => ?_)
        refine lv_iconst (v := 0) hx hb dX12_ways_86 (by decide) ?_
        refine lv_istore (lv' := [(5, .int 0), (4, .int x149), (0, .ref (ad 0)), (1, .int a1), (2, .int a2), (3, .int v36_3)]) hx hb dX12_ways_87 hl (by decide) rfl (fun ls hl => ?_)
        exact L89 ((64 - (0 : Int)).toNat + 1) v36_3 x149 0 f36_12_0 x143 x146 H locs ls w130 (show 0 ≤ a1.toInt by omega) (show a1.toInt ≤ 6 by omega) (show 0 ≤ a2.toInt by omega) (show a2.toInt ≤ 1 by omega) (show 0 ≤ v36_3.toInt by omega) (show v36_3.toInt ≤ 12 by omega) (show 0 ≤ x149.toInt by omega) (show x149.toInt ≤ 63 by omega) (by decide) (by decide) (show 1 ≤ f36_12_0.toInt by omega) (show f36_12_0.toInt ≤ 10 by omega) (show 0 ≤ x143.toInt by omega) (show x143.toInt ≤ 12 by omega) (show 0 ≤ x146.toInt by omega) (show x146.toInt ≤ 6 by omega) (Nat.lt_succ_self _) hw hT hF c141 c144 c147 (lv_sub hl [2, 3, 4, 5, 1, 0] rfl)
      · have c145 : v36_4.toInt < x143.toInt := wk_leF c145
        refine lv_iload_n hx hb dX12_ways_47 rfl (lv_at hl 3 rfl) ?_
        refine lv_aload_n hx hb dX12_ways_48 rfl (lv_at hl 0 rfl) ?_
        refine lv_iload hx hb dX12_ways_49 (lv_at hl 4 rfl) ?_
        refine lv_iconst (v := 3) hx hb dX12_ways_51 (by decide) ?_
        refine lv_iload_n hx hb dX12_ways_52 rfl (lv_at hl 1 rfl) ?_
        refine lv_iadd hx hb dX12_ways_53 ?_
        refine lv_topi (fun x150 ex150 => ?_)
        have ex150 : x150.toInt = (3 : Int) + a1.toInt := by rw [ex150]; exact wk_add (show (-2147483648) ≤ (3 : Int) + a1.toInt by omega) (show (3 : Int) + a1.toInt ≤ 2147483647 by omega)
        refine tk_Vi hC hK hw hT hA hE hSR kM_at0 (by decide) rfl (k_X12_streetOf_4 l adK adV dC dI cy ad B (by omega) (by omega) qr s1   v36_4 (show 0 ≤ v36_4.toInt by omega) (show v36_4.toInt ≤ 11 by omega) x150 (show 3 ≤ x150.toInt by omega) (show x150.toInt ≤ 9 by omega) w130 H.size hT ) (cwV 2 hC.2.2.2.2 gX12_ways_X12_streetOf rfl rfl rfl (by decide +kernel) ⟨Nat.le_of_ble_eq_true rfl, Nat.le_of_ble_eq_true rfl⟩) rfl hl.1 rfl (Nat.le_of_ble_eq_true rfl) dX12_ways_54 (fun r151 w153 H locs hp152 hw => ?_)
        obtain ⟨rfl, hg158⟩ := hp152
        obtain ⟨g155, g156, c157⟩ := hg158
        refine lv_if_ne (tgt := 64) hx hb dX12_ways_57 (by decide) (fun c159 => ?_) (fun c159 => ?_)
        · have c159 : ¬ r151.toInt = (0 : Int) := wk_eqF c159
          refine lv_iconst (v := 1) hx hb dX12_ways_64 (by decide) ?_
          refine lv_iadd hx hb dX12_ways_65 ?_
          refine lv_topi (fun x160 ex160 => ?_)
          have ex160 : x160.toInt = v36_3.toInt + (1 : Int) := by rw [ex160]; exact wk_add (show (-2147483648) ≤ v36_3.toInt + (1 : Int) by omega) (show v36_3.toInt + (1 : Int) ≤ 2147483647 by omega)
          refine lv_istore_n (lv' := [(3, .int x160), (0, .ref (ad 0)), (1, .int a1), (2, .int a2), (4, .int v36_4)]) hx hb dX12_ways_66 rfl hl (by decide) rfl (fun ls hl => ?_)
          obtain ⟨x161, ex161⟩ : ∃ y : Int32, y = v36_4 + Int32.ofInt 1 := ⟨_, rfl⟩
          refine lv_iinc (v := x161) (lv' := [(4, .int x161), (3, .int x160), (0, .ref (ad 0)), (1, .int a1), (2, .int a2)]) hx hb dX12_ways_67 hl (k := 4) rfl ex161.symm (by decide) rfl (fun ls hl => ?_)
          have ex161 : x161.toInt = v36_4.toInt + 1 := by rw [ex161]; exact wk_add (y := 1) (show -2147483648 ≤ v36_4.toInt + 1 by omega) (show v36_4.toInt + 1 ≤ 2147483647 by omega)
          refine lv_goto (tgt := 36) hx hb dX12_ways_70 (by decide) ?_
          exact ih36 x160 x161 f36_12_0 H locs ls w130 (show 0 ≤ a1.toInt by omega) (show a1.toInt ≤ 6 by omega) (show 0 ≤ a2.toInt by omega) (show a2.toInt ≤ 1 by omega) (show 0 ≤ x160.toInt by omega) (show x160.toInt ≤ 12 by omega) (show 0 ≤ x161.toInt by omega) (show x161.toInt ≤ 12 by omega) (show 1 ≤ f36_12_0.toInt by omega) (show f36_12_0.toInt ≤ 10 by omega) (show x160.toInt ≤ x161.toInt + 0 by omega) (show (12 - x161.toInt).toNat < n36 by omega) hw hT hF c141 (lv_sub hl [2, 3, 4, 1, 0] rfl)
        · have c159 : r151.toInt = (0 : Int) := wk_eq.mp c159
          refine lv_iconst (v := 0) hx hb dX12_ways_60 (by decide) ?_
          refine lv_goto (tgt := 65) hx hb dX12_ways_61 (by decide) ?_
          refine lv_iadd hx hb dX12_ways_65 ?_
          refine lv_topi (fun x162 ex162 => ?_)
          have ex162 : x162.toInt = v36_3.toInt + (0 : Int) := by rw [ex162]; exact wk_add (show (-2147483648) ≤ v36_3.toInt + (0 : Int) by omega) (show v36_3.toInt + (0 : Int) ≤ 2147483647 by omega)
          refine lv_istore_n (lv' := [(3, .int x162), (0, .ref (ad 0)), (1, .int a1), (2, .int a2), (4, .int v36_4)]) hx hb dX12_ways_66 rfl hl (by decide) rfl (fun ls hl => ?_)
          obtain ⟨x163, ex163⟩ : ∃ y : Int32, y = v36_4 + Int32.ofInt 1 := ⟨_, rfl⟩
          refine lv_iinc (v := x163) (lv' := [(4, .int x163), (3, .int x162), (0, .ref (ad 0)), (1, .int a1), (2, .int a2)]) hx hb dX12_ways_67 hl (k := 4) rfl ex163.symm (by decide) rfl (fun ls hl => ?_)
          have ex163 : x163.toInt = v36_4.toInt + 1 := by rw [ex163]; exact wk_add (y := 1) (show -2147483648 ≤ v36_4.toInt + 1 by omega) (show v36_4.toInt + 1 ≤ 2147483647 by omega)
          refine lv_goto (tgt := 36) hx hb dX12_ways_70 (by decide) ?_
          exact ih36 x162 x163 f36_12_0 H locs ls w130 (show 0 ≤ a1.toInt by omega) (show a1.toInt ≤ 6 by omega) (show 0 ≤ a2.toInt by omega) (show a2.toInt ≤ 1 by omega) (show 0 ≤ x162.toInt by omega) (show x162.toInt ≤ 12 by omega) (show 0 ≤ x163.toInt by omega) (show x163.toInt ≤ 12 by omega) (show 1 ≤ f36_12_0.toInt by omega) (show f36_12_0.toInt ≤ 10 by omega) (show x162.toInt ≤ x163.toInt + 0 by omega) (show (12 - x163.toInt).toNat < n36 by omega) hw hT hF c141 (lv_sub hl [2, 3, 4, 1, 0] rfl)
  refine lv_aload_n hx hb dX12_ways_0 rfl (lv_at hl 0 rfl) ?_
  refine tk_Vi hC hK hw hT hA hE hSR kM_at0 (by decide) rfl (k_X12_isTown_1 l adK adV dC dI cy ad B (by omega) (by omega) qr s1    w0 s.heap.size hT ) (cwV 0 hC.2.2.2.2 gX12_ways_X12_isTown rfl rfl rfl (by decide +kernel) ⟨Nat.le_of_ble_eq_true rfl, Nat.le_of_ble_eq_true rfl⟩) rfl hl.1 rfl (Nat.le_of_ble_eq_true rfl) dX12_ways_1 (fun r164 w166 H locs hp165 hw => ?_)
  obtain ⟨rfl, hg172⟩ := hp165
  rcases hg172 with ⟨rfl, ⟨x168, c169, rx168, tx168⟩⟩ | ⟨rfl, ⟨x170, c171, rx170, tx170⟩⟩
  · refine lv_if_eq (tgt := 29) hx hb dX12_ways_4 (by decide) (fun _ => ?_) (fun c => absurd (by decide) c)
    exact J29 x168 H locs ls w0 (show 0 ≤ x168.toInt by omega) (show x168.toInt ≤ 10 by omega)  hw hT hF c169 (lv_sub hl [0, 1, 2] rfl)
  · refine lv_if_eq (tgt := 29) hx hb dX12_ways_4 (by decide) (fun c => absurd c (by decide)) (fun _ => ?_)
    refine lv_iload_n hx hb dX12_ways_7 rfl (lv_at hl 1 rfl) ?_
    refine lv_i2l hx hb dX12_ways_8 rfl ?_
    refine lv_topl (fun x173 ex173 => ?_)
    have ex173 : x173.toInt = a1.toInt := by rw [ex173]; exact wk_i2l _
    have bx173 := wk_i32 a1
    refine lv_lconst (v := 0) hx hb dX12_ways_9 (by decide) ?_
    refine lv_ldc2 (v := 6) hx hb hC.2.2.2.1 (hC.2.2.2.2 _ (List.mem_of_getElem? (i := 1) rfl)) dX12_ways_10 ?_
    refine tk_Si hC hK hw hT hA hE hSR (k_X12_in_10 l adK adV dC dI cy ad B (by omega) (by omega) qr s1   x173 (show (-2147483648) ≤ x173.toInt by omega) (show x173.toInt ≤ 2147483647 by omega) w0 H.size hT ) (va_cwS 3 hC.2.2.2.2 gX12_ways_X12_in rfl rfl rfl (by decide +kernel) ⟨Nat.le_of_ble_eq_true rfl, Nat.le_of_ble_eq_true rfl⟩) rfl hl.1 rfl (Nat.le_of_ble_eq_true rfl) dX12_ways_13 (fun r174 w176 H locs hp175 hw => ?_)
    obtain ⟨rfl, hg180⟩ := hp175
    rcases hg180 with rfl | ⟨rfl, g178, g179⟩
    · refine lv_if_eq (tgt := 29) hx hb dX12_ways_16 (by decide) (fun _ => ?_) (fun c => absurd (by decide) c)
      exact J29 x170 H locs ls w0 (show 0 ≤ x170.toInt by omega) (show x170.toInt ≤ 10 by omega)  hw hT hF c171 (lv_sub hl [0, 1, 2] rfl)
    · refine lv_if_eq (tgt := 29) hx hb dX12_ways_16 (by decide) (fun c => absurd c (by decide)) (fun _ => ?_)
      refine lv_iload_n hx hb dX12_ways_19 rfl (lv_at hl 2 rfl) ?_
      refine lv_i2l hx hb dX12_ways_20 rfl ?_
      refine lv_topl (fun x181 ex181 => ?_)
      have ex181 : x181.toInt = a2.toInt := by rw [ex181]; exact wk_i2l _
      have bx181 := wk_i32 a2
      refine lv_lconst (v := 0) hx hb dX12_ways_21 (by decide) ?_
      refine lv_lconst (v := 1) hx hb dX12_ways_22 (by decide) ?_
      refine tk_Si hC hK hw hT hA hE hSR (k_X12_in_12 l adK adV dC dI cy ad B (by omega) (by omega) qr s1   x181 (show (-2147483648) ≤ x181.toInt by omega) (show x181.toInt ≤ 2147483647 by omega) w0 H.size hT ) (va_cwS 3 hC.2.2.2.2 gX12_ways_X12_in rfl rfl rfl (by decide +kernel) ⟨Nat.le_of_ble_eq_true rfl, Nat.le_of_ble_eq_true rfl⟩) rfl hl.1 rfl (Nat.le_of_ble_eq_true rfl) dX12_ways_23 (fun r182 w184 H locs hp183 hw => ?_)
      obtain ⟨rfl, hg188⟩ := hp183
      rcases hg188 with rfl | ⟨rfl, g186, g187⟩
      · refine lv_if_ne (tgt := 31) hx hb dX12_ways_26 (by decide) (fun c => absurd (by decide) c) (fun _ => ?_)
        exact J29 x170 H locs ls w0 (show 0 ≤ x170.toInt by omega) (show x170.toInt ≤ 10 by omega)  hw hT hF c171 (lv_sub hl [0, 1, 2] rfl)
      · refine lv_if_ne (tgt := 31) hx hb dX12_ways_26 (by decide) (fun _ => ?_) (fun c => absurd c (by decide))
        refine lv_iconst (v := 0) hx hb dX12_ways_31 (by decide) ?_
        refine lv_istore_n (lv' := [(3, .int 0), (0, .ref (ad 0)), (1, .int a1), (2, .int a2)]) hx hb dX12_ways_32 rfl hl (by decide) rfl (fun ls hl => ?_)
        refine lv_iconst (v := 0) hx hb dX12_ways_33 (by decide) ?_
        refine lv_istore (lv' := [(4, .int 0), (3, .int 0), (0, .ref (ad 0)), (1, .int a1), (2, .int a2)]) hx hb dX12_ways_34 hl (by decide) rfl (fun ls hl => ?_)
        exact L36 ((12 - (0 : Int)).toNat + 1) 0 0 x170 H locs ls w0 (show 0 ≤ a1.toInt by omega) (show a1.toInt ≤ 6 by omega) (show 0 ≤ a2.toInt by omega) (show a2.toInt ≤ 1 by omega) (by decide) (by decide) (by decide) (by decide) (show 1 ≤ x170.toInt by omega) (show x170.toInt ≤ 10 by omega) (show (0 : Int) ≤ (0 : Int) + 0 by omega) (Nat.lt_succ_self _) hw hT hF c171 (lv_sub hl [2, 3, 4, 1, 0] rfl)
