abbrev P_X12_placeAt_1 (ad : Nat → Nat) (cy : Nat → ClassId) (B : Int) (qr : Nat) (s1 : Int) (a1 : Int32) (a2 : Int32) (w0 : va_W) : Int32 → va_W → Prop := fun r u => w0 = u ∧ ((0 ≤ r.toInt ∧ r.toInt ≤ 2418))
set_option maxHeartbeats 4000000 in
set_option maxRecDepth 100000 in
theorem k_X12_placeAt_1 (l : Launch) (adK adV : Nat → Nat) (dC : Nat → ClassId) (dI : Nat → Nat → Nat) (cy : Nat → ClassId) (ad : Nat → Nat) (B : Int) (hB0 : 100000 ≤ B) (hB1 : B ≤ 1073741824) (qr : Nat) (s1 : Int)  (a1 : Int32) (ra1 : 0 ≤ a1.toInt) (ta1 : a1.toInt ≤ 120) (a2 : Int32) (ra2 : 0 ≤ a2.toInt) (ta2 : a2.toInt ≤ 9) (w0 : va_W) (sz : Nat) (hT : TW ksM ad cy B qr 12 w0)  : Met l yX12_placeAt wsX12_placeAt ({ frames := 1, cells := 0, slots := 0, locals := 12 }) (va_Pc [.ref (ad 0), .int a1, .int a2, .int 0] (wpreS adK adV dC dI cy sz w0)) (va_Qi (P_X12_placeAt_1 ad cy B qr s1 a1 a2 w0) (fun u : va_W => wpost dC dI cy (va_A w0 sz) u) (va_A w0 sz)) 0 0 (va_A w0 sz) := by
  refine Met.ofW (cc := cX12_placeAt) (maxL := 4) (ret := (some .int)) (by decide) rfl ?_
  intro p e s m args below meth c s₁ Bk hml hv
  obtain ⟨rfl, ⟨hsz, hP, hK, hD0⟩, hE, hSR⟩ := hv
  have hx := Bk.exec
  have hb := Bk.bytes
  have hr := Bk.returns
  have hlocks := Bk.notSynchronized
  have hC : CallFix p m c cX12_placeAt 4 s _ wsX12_placeAt RX12 := ⟨hx, hb, hml, findClass_of_methodNamed Bk.named, atoms_spec (ws := wsX12_placeAt) Bk.pre⟩
  subst hsz
  have hD := hD0.self (sz := s.heap.size)
  generalize hAe : va_A w0 s.heap.size = A at hD hE ⊢
  have hA : ∀ q : Nat, s.heap.size ≤ q → A q := fun q h => by rw [← hAe]; exact Or.inr h
  have hw : Wd dC dI A s.heap s.heap [] w0 := ⟨hP, hD, va_S.rf⟩
  have hF : FE ksM ([] : List (Nat × Nat × Nat)) w0 w0 := FE.rf
  have hl := lv_entry ([.ref (ad 0), .int a1, .int a2, .int 0]) (n := 4) (Nat.le_of_ble_eq_true rfl)
  rw [lg_entry_eq]
  generalize (lg_sl ([.ref (ad 0), .int a1, .int a2, .int 0]) ++ List.replicate (4 - (lg_sl ([.ref (ad 0), .int a1, .int a2, .int 0])).length) Slot.unset).toArray = ls at hl ⊢
  have hl : lv_has ls 4 [(0, .ref (ad 0)), (1, .int a1), (2, .int a2), (3, .int 0)] := hl
  generalize hloc : ([] : List Loc) = locs at hw ⊢
  refine lv_iload_n hx hb dX12_placeAt_0 rfl (lv_at hl 1 rfl) ?_
  refine lv_bipush (v := 10) hx hb dX12_placeAt_1 (by decide) ?_
  refine lv_imul hx hb dX12_placeAt_3 ?_
  refine lv_topi (fun x1 ex1 => ?_)
  have ex1 : x1.toInt = a1.toInt * (10 : Int) := by rw [ex1]; exact wk_mul (show (-2147483648) ≤ a1.toInt * (10 : Int) by omega) (show a1.toInt * (10 : Int) ≤ 2147483647 by omega)
  refine lv_iload_n hx hb dX12_placeAt_4 rfl (lv_at hl 2 rfl) ?_
  refine lv_iadd hx hb dX12_placeAt_5 ?_
  refine lv_topi (fun x2 ex2 => ?_)
  have ex2 : x2.toInt = x1.toInt + a2.toInt := by rw [ex2]; exact wk_add (show (-2147483648) ≤ x1.toInt + a2.toInt by omega) (show x1.toInt + a2.toInt ≤ 2147483647 by omega)
  refine lv_iconst (v := 2) hx hb dX12_placeAt_6 (by decide) ?_
  refine lv_imul hx hb dX12_placeAt_7 ?_
  refine lv_topi (fun x3 ex3 => ?_)
  have ex3 : x3.toInt = x2.toInt * (2 : Int) := by rw [ex3]; exact wk_mul (show (-2147483648) ≤ x2.toInt * (2 : Int) by omega) (show x2.toInt * (2 : Int) ≤ 2147483647 by omega)
  refine lv_iload_n hx hb dX12_placeAt_8 rfl (lv_at hl 3 rfl) ?_
  refine lv_if_eq (tgt := 16) hx hb dX12_placeAt_9 (by decide) (fun _ => ?_) (fun c => absurd (by decide) c)
  refine lv_iconst (v := 0) hx hb dX12_placeAt_16 (by decide) ?_
  refine lv_iadd hx hb dX12_placeAt_17 ?_
  refine lv_topi (fun x4 ex4 => ?_)
  have ex4 : x4.toInt = x3.toInt + (0 : Int) := by rw [ex4]; exact wk_add (show (-2147483648) ≤ x3.toInt + (0 : Int) by omega) (show x3.toInt + (0 : Int) ≤ 2147483647 by omega)
  exact tk_iret hC hr hlocks hK ⟨rfl, ⟨(show 0 ≤ x4.toInt by omega), (show x4.toInt ≤ 2418 by omega)⟩⟩ hw dX12_placeAt_18
abbrev P_X12_could_1 (ad : Nat → Nat) (cy : Nat → ClassId) (B : Int) (qr : Nat) (s1 : Int) (a1 : Int32) (a2 : Int32) (a4 : Int32) (w0 : va_W) : va_W → Prop := fun u => TW ksM ad cy B qr 12 u ∧ FE ksM [(76, 0, 2600)] w0 u ∧ ((True))
set_option maxHeartbeats 4000000 in
set_option maxRecDepth 100000 in
theorem k_X12_could_1 (l : Launch) (adK adV : Nat → Nat) (dC : Nat → ClassId) (dI : Nat → Nat → Nat) (cy : Nat → ClassId) (ad : Nat → Nat) (B : Int) (hB0 : 100000 ≤ B) (hB1 : B ≤ 1073741824) (qr : Nat) (s1 : Int)  (a1 : Int32) (ra1 : 0 ≤ a1.toInt) (ta1 : a1.toInt ≤ 120) (a2 : Int32) (ra2 : 0 ≤ a2.toInt) (ta2 : a2.toInt ≤ 9) (a4 : Int32) (w0 : va_W) (sz : Nat) (hT : TW ksM ad cy B qr 12 w0)  : Met l yX12_could wsX12_could ({ frames := 2, cells := 0, slots := 0, locals := 35 }) (va_Pc [.ref (ad 0), .int a1, .int a2, .int 0, .int a4] (wpreS adK adV dC dI cy sz w0)) (va_Qv (P_X12_could_1 ad cy B qr s1 a1 a2 a4 w0) (fun u : va_W => wpost dC dI cy (va_A w0 sz) u) (va_A w0 sz)) 0 0 (va_A w0 sz) := by
  refine Met.ofW (cc := cX12_could) (maxL := 6) (ret := none) (by decide) rfl ?_
  intro p e s m args below meth c s₁ Bk hml hv
  obtain ⟨rfl, ⟨hsz, hP, hK, hD0⟩, hE, hSR⟩ := hv
  have hx := Bk.exec
  have hb := Bk.bytes
  have hr := Bk.returns
  have hlocks := Bk.notSynchronized
  have hC : CallFix p m c cX12_could 6 s _ wsX12_could RX12 := ⟨hx, hb, hml, findClass_of_methodNamed Bk.named, atoms_spec (ws := wsX12_could) Bk.pre⟩
  subst hsz
  have hD := hD0.self (sz := s.heap.size)
  generalize hAe : va_A w0 s.heap.size = A at hD hE ⊢
  have hA : ∀ q : Nat, s.heap.size ≤ q → A q := fun q h => by rw [← hAe]; exact Or.inr h
  have hw : Wd dC dI A s.heap s.heap [] w0 := ⟨hP, hD, va_S.rf⟩
  have hF : FE ksM [(76, 0, 2600)] w0 w0 := FE.rf
  have hl := lv_entry ([.ref (ad 0), .int a1, .int a2, .int 0, .int a4]) (n := 6) (Nat.le_of_ble_eq_true rfl)
  rw [lg_entry_eq]
  generalize (lg_sl ([.ref (ad 0), .int a1, .int a2, .int 0, .int a4]) ++ List.replicate (6 - (lg_sl ([.ref (ad 0), .int a1, .int a2, .int 0, .int a4])).length) Slot.unset).toArray = ls at hl ⊢
  have hl : lv_has ls 6 [(0, .ref (ad 0)), (1, .int a1), (2, .int a2), (3, .int 0), (4, .int a4)] := hl
  generalize hloc : ([] : List Loc) = locs at hw ⊢
  have hinX12 : ∀ w ∈ u_ws RX12 TX12 42, w ∈ wsX12_could := fun _ h => List.mem_cons_of_mem _ (List.mem_append_right _ (h))
  have J30 : ∀ (v30_5 : Int32) (H : Heap) (locs : List Loc) (ls : Array Slot) (w1 : va_W), 0 ≤ a1.toInt → a1.toInt ≤ 120 → 0 ≤ a2.toInt → a2.toInt ≤ 9 → 0 ≤ v30_5.toInt → v30_5.toInt ≤ 2418 → Wd dC dI A s.heap H locs w1 → TW ksM ad cy B qr 12 w1 → FE ksM [(76, 0, 2600)] w0 w1 → lv_has ls 6 [(0, .ref (ad 0)), (1, .int a1), (2, .int a2), (3, .int 0), (4, .int a4), (5, .int v30_5)] → W p l e ({ frames := 2, cells := 0, slots := 0, locals := 35 }) s m (List.toArray [.ref (ad 0), .int a1, .int a2, .int 0, .int a4]) below meth c H locs 0 0 (MQ below (va_Qv (P_X12_could_1 ad cy B qr s1 a1 a2 a4 w0) (fun u : va_W => wpost dC dI cy A u) A) (List.toArray [.ref (ad 0), .int a1, .int a2, .int 0, .int a4]) s 0 0 A) (F0 m 30 ls []) := by
    intro v30_5 H locs ls w1 r2 t3 r4 t5 r6 t7 hw hT hF hl
    exact tk_vret hC hr hlocks hK ⟨hT, hF, trivial⟩ hw dX12_could_30
  refine lv_aload_n hx hb dX12_could_0 rfl (lv_at hl 0 rfl) ?_
  refine lv_iload_n hx hb dX12_could_1 rfl (lv_at hl 1 rfl) ?_
  refine lv_iload_n hx hb dX12_could_2 rfl (lv_at hl 2 rfl) ?_
  refine lv_iload_n hx hb dX12_could_3 rfl (lv_at hl 3 rfl) ?_
  refine tk_Vi hC hK hw hT hA hE hSR kM_at0 (by decide) rfl (k_X12_placeAt_1 l adK adV dC dI cy ad B (by omega) (by omega) qr s1   a1 (show 0 ≤ a1.toInt by omega) (show a1.toInt ≤ 120 by omega) a2 (show 0 ≤ a2.toInt by omega) (show a2.toInt ≤ 9 by omega) w0 s.heap.size hT ) (cwV 3 hC.2.2.2.2 gX12_could_X12_placeAt rfl rfl rfl (by decide +kernel) ⟨Nat.le_of_ble_eq_true rfl, Nat.le_of_ble_eq_true rfl⟩) rfl hl.1 rfl (Nat.le_of_ble_eq_true rfl) dX12_could_4 (fun r8 w10 H locs hp9 hw => ?_)
  obtain ⟨rfl, hg14⟩ := hp9
  obtain ⟨g12, g13⟩ := hg14
  refine lv_istore (lv' := [(5, .int r8), (0, .ref (ad 0)), (1, .int a1), (2, .int a2), (3, .int 0), (4, .int a4)]) hx hb dX12_could_7 hl (by decide) rfl (fun ls hl => ?_)
  refine lv_iload hx hb dX12_could_9 (lv_at hl 5 rfl) ?_
  refine lv_aload_n hx hb dX12_could_11 rfl (lv_at hl 1 rfl) ?_
  refine tk_getA hC hK hw hT hinX12 kM_at0 (by decide) rfl 34 (by decide) (List.mem_of_getElem? (i := 1) rfl) rfl rfl dX12_could_12 ?_
  refine lv_iload hx hb dX12_could_15 (lv_at hl 0 rfl) ?_
  refine tk_iald hC hK hw hT kM_at17 rfl rfl (show 0 ≤ r8.toInt by omega) (show r8.toInt < 2600 by omega) dX12_could_17 (fun x15 c16 rx15 tx15 => ?_)
  refine lv_icmp_ge (tgt := 30) hx hb dX12_could_18 (by decide) (fun c17 => ?_) (fun c17 => ?_)
  · have c17 : x15.toInt ≤ a4.toInt := wk_le.mp c17
    exact J30 r8 H locs ls w0 (show 0 ≤ a1.toInt by omega) (show a1.toInt ≤ 120 by omega) (show 0 ≤ a2.toInt by omega) (show a2.toInt ≤ 9 by omega) (show 0 ≤ r8.toInt by omega) (show r8.toInt ≤ 2418 by omega)  hw hT hF  (lv_sub hl [1, 2, 3, 4, 5, 0] rfl)
  · have c17 : a4.toInt < x15.toInt := wk_leF c17
    refine lv_aload_n hx hb dX12_could_21 rfl (lv_at hl 1 rfl) ?_
    refine tk_getA hC hK hw hT hinX12 kM_at0 (by decide) rfl 34 (by decide) (List.mem_of_getElem? (i := 1) rfl) rfl rfl dX12_could_22 ?_
    refine lv_iload hx hb dX12_could_25 (lv_at hl 0 rfl) ?_
    refine lv_iload hx hb dX12_could_27 (lv_at hl 5 rfl) ?_
    refine tk_iast hC hK hw hT kM_at17 (by decide) rfl rfl (show 0 ≤ r8.toInt by omega) (show r8.toInt < 2600 by omega) (wk_i32 a4).1 (wk_i32 a4).2 dX12_could_29 (fun H locs w18 hw hT k20 c19 => ?_)
    have hF := hF.put kM_at17 (inE_of (a := 0) (b := 2600) (by decide) (show 0 ≤ r8.toInt.toNat by omega) (show r8.toInt.toNat ≤ 2600 by omega)) k20
    exact J30 r8 H locs ls w18 (show 0 ≤ a1.toInt by omega) (show a1.toInt ≤ 120 by omega) (show 0 ≤ a2.toInt by omega) (show a2.toInt ≤ 9 by omega) (show 0 ≤ r8.toInt by omega) (show r8.toInt ≤ 2418 by omega)  hw hT hF  (lv_sub hl [1, 2, 3, 4, 5, 0] rfl)
abbrev P_X12_walkerOf_4 (ad : Nat → Nat) (cy : Nat → ClassId) (B : Int) (qr : Nat) (s1 : Int) (a1 : Int32) (w0 : va_W) : Int32 → va_W → Prop := fun r u => w0 = u ∧ ((0 ≤ r.toInt ∧ r.toInt ≤ 3 ∧ gi u 12 (9 * a1.toInt + 218).toNat = r))
set_option maxHeartbeats 4000000 in
set_option maxRecDepth 100000 in
theorem k_X12_walkerOf_4 (l : Launch) (adK adV : Nat → Nat) (dC : Nat → ClassId) (dI : Nat → Nat → Nat) (cy : Nat → ClassId) (ad : Nat → Nat) (B : Int) (hB0 : 100000 ≤ B) (hB1 : B ≤ 1073741824) (qr : Nat) (s1 : Int)  (a1 : Int32) (ra1 : 0 ≤ a1.toInt) (ta1 : a1.toInt ≤ 3) (w0 : va_W) (sz : Nat) (hT : TW ksM ad cy B qr 12 w0)  : Met l yX12_walkerOf wsX12_walkerOf ({ frames := 1, cells := 0, slots := 0, locals := 12 }) (va_Pc [.ref (ad 0), .int a1, .int 2] (wpreS adK adV dC dI cy sz w0)) (va_Qi (P_X12_walkerOf_4 ad cy B qr s1 a1 w0) (fun u : va_W => wpost dC dI cy (va_A w0 sz) u) (va_A w0 sz)) 0 0 (va_A w0 sz) := by
  refine Met.ofW (cc := cX12_walkerOf) (maxL := 3) (ret := (some .int)) (by decide) rfl ?_
  intro p e s m args below meth c s₁ Bk hml hv
  obtain ⟨rfl, ⟨hsz, hP, hK, hD0⟩, hE, hSR⟩ := hv
  have hx := Bk.exec
  have hb := Bk.bytes
  have hr := Bk.returns
  have hlocks := Bk.notSynchronized
  have hC : CallFix p m c cX12_walkerOf 3 s _ wsX12_walkerOf RX12 := ⟨hx, hb, hml, findClass_of_methodNamed Bk.named, atoms_spec (ws := wsX12_walkerOf) Bk.pre⟩
  subst hsz
  have hD := hD0.self (sz := s.heap.size)
  generalize hAe : va_A w0 s.heap.size = A at hD hE ⊢
  have hA : ∀ q : Nat, s.heap.size ≤ q → A q := fun q h => by rw [← hAe]; exact Or.inr h
  have hw : Wd dC dI A s.heap s.heap [] w0 := ⟨hP, hD, va_S.rf⟩
  have hF : FE ksM ([] : List (Nat × Nat × Nat)) w0 w0 := FE.rf
  have hl := lv_entry ([.ref (ad 0), .int a1, .int 2]) (n := 3) (Nat.le_of_ble_eq_true rfl)
  rw [lg_entry_eq]
  generalize (lg_sl ([.ref (ad 0), .int a1, .int 2]) ++ List.replicate (3 - (lg_sl ([.ref (ad 0), .int a1, .int 2])).length) Slot.unset).toArray = ls at hl ⊢
  have hl : lv_has ls 3 [(0, .ref (ad 0)), (1, .int a1), (2, .int 2)] := hl
  generalize hloc : ([] : List Loc) = locs at hw ⊢
  have hinX12 : ∀ w ∈ u_ws RX12 TX12 42, w ∈ wsX12_walkerOf := fun _ h => List.mem_cons_of_mem _ (List.mem_append_right _ (h))
  refine lv_aload_n hx hb dX12_walkerOf_0 rfl (lv_at hl 0 rfl) ?_
  refine tk_getA hC hK hw hT hinX12 kM_at0 (by decide) rfl 26 (by decide) (List.mem_of_getElem? (i := 1) rfl) rfl rfl dX12_walkerOf_1 ?_
  refine lv_sipush (v := 216) hx hb dX12_walkerOf_4 (by decide) ?_
  refine lv_bipush (v := 9) hx hb dX12_walkerOf_7 (by decide) ?_
  refine lv_iload_n hx hb dX12_walkerOf_9 rfl (lv_at hl 1 rfl) ?_
  refine lv_imul hx hb dX12_walkerOf_10 ?_
  refine lv_topi (fun x1 ex1 => ?_)
  have ex1 : x1.toInt = (9 : Int) * a1.toInt := by rw [ex1]; exact wk_mul (show (-2147483648) ≤ (9 : Int) * a1.toInt by omega) (show (9 : Int) * a1.toInt ≤ 2147483647 by omega)
  refine lv_iadd hx hb dX12_walkerOf_11 ?_
  refine lv_topi (fun x2 ex2 => ?_)
  have ex2 : x2.toInt = (216 : Int) + x1.toInt := by rw [ex2]; exact wk_add (show (-2147483648) ≤ (216 : Int) + x1.toInt by omega) (show (216 : Int) + x1.toInt ≤ 2147483647 by omega)
  refine lv_iload_n hx hb dX12_walkerOf_12 rfl (lv_at hl 2 rfl) ?_
  refine lv_iadd hx hb dX12_walkerOf_13 ?_
  refine lv_topi (fun x3 ex3 => ?_)
  have ex3 : x3.toInt = x2.toInt + (2 : Int) := by rw [ex3]; exact wk_add (show (-2147483648) ≤ x2.toInt + (2 : Int) by omega) (show x2.toInt + (2 : Int) ≤ 2147483647 by omega)
  refine tk_ialdR hC hK hw hT kM_at12 rfl (show 0 ≤ x3.toInt by omega) (show x3.toInt < 296 by omega) dX12_walkerOf_14 (fun x4 c5 Ex4 => ?_)
  have c5 : gi w0 12 (9 * a1.toInt + 218).toNat = x4 := (congrArg (gi w0 12) (congrArg Int.toNat (show 9 * a1.toInt + 218 = x3.toInt by omega))).trans c5
  have bx4 := tk_rgI rfl 218 9 4 0 3 (by decide +kernel) ⟨(a1.toInt - 0).toNat, by omega, show x3.toInt.toNat = 218 + 9 * (a1.toInt - 0).toNat by omega⟩ Ex4
  exact tk_iret hC hr hlocks hK ⟨rfl, ⟨(show 0 ≤ x4.toInt by omega), (show x4.toInt ≤ 3 by omega), c5⟩⟩ hw dX12_walkerOf_15
abbrev P_X12_placeAt_2 (ad : Nat → Nat) (cy : Nat → ClassId) (B : Int) (qr : Nat) (s1 : Int) (a1 : Int32) (a2 : Int32) (w0 : va_W) : Int32 → va_W → Prop := fun r u => w0 = u ∧ ((20 ≤ r.toInt ∧ r.toInt ≤ 2438))
set_option maxHeartbeats 4000000 in
set_option maxRecDepth 100000 in
theorem k_X12_placeAt_2 (l : Launch) (adK adV : Nat → Nat) (dC : Nat → ClassId) (dI : Nat → Nat → Nat) (cy : Nat → ClassId) (ad : Nat → Nat) (B : Int) (hB0 : 100000 ≤ B) (hB1 : B ≤ 1073741824) (qr : Nat) (s1 : Int)  (a1 : Int32) (ra1 : 1 ≤ a1.toInt) (ta1 : a1.toInt ≤ 121) (a2 : Int32) (ra2 : 0 ≤ a2.toInt) (ta2 : a2.toInt ≤ 9) (w0 : va_W) (sz : Nat) (hT : TW ksM ad cy B qr 12 w0)  : Met l yX12_placeAt wsX12_placeAt ({ frames := 1, cells := 0, slots := 0, locals := 12 }) (va_Pc [.ref (ad 0), .int a1, .int a2, .int 0] (wpreS adK adV dC dI cy sz w0)) (va_Qi (P_X12_placeAt_2 ad cy B qr s1 a1 a2 w0) (fun u : va_W => wpost dC dI cy (va_A w0 sz) u) (va_A w0 sz)) 0 0 (va_A w0 sz) := by
  refine Met.ofW (cc := cX12_placeAt) (maxL := 4) (ret := (some .int)) (by decide) rfl ?_
  intro p e s m args below meth c s₁ Bk hml hv
  obtain ⟨rfl, ⟨hsz, hP, hK, hD0⟩, hE, hSR⟩ := hv
  have hx := Bk.exec
  have hb := Bk.bytes
  have hr := Bk.returns
  have hlocks := Bk.notSynchronized
  have hC : CallFix p m c cX12_placeAt 4 s _ wsX12_placeAt RX12 := ⟨hx, hb, hml, findClass_of_methodNamed Bk.named, atoms_spec (ws := wsX12_placeAt) Bk.pre⟩
  subst hsz
  have hD := hD0.self (sz := s.heap.size)
  generalize hAe : va_A w0 s.heap.size = A at hD hE ⊢
  have hA : ∀ q : Nat, s.heap.size ≤ q → A q := fun q h => by rw [← hAe]; exact Or.inr h
  have hw : Wd dC dI A s.heap s.heap [] w0 := ⟨hP, hD, va_S.rf⟩
  have hF : FE ksM ([] : List (Nat × Nat × Nat)) w0 w0 := FE.rf
  have hl := lv_entry ([.ref (ad 0), .int a1, .int a2, .int 0]) (n := 4) (Nat.le_of_ble_eq_true rfl)
  rw [lg_entry_eq]
  generalize (lg_sl ([.ref (ad 0), .int a1, .int a2, .int 0]) ++ List.replicate (4 - (lg_sl ([.ref (ad 0), .int a1, .int a2, .int 0])).length) Slot.unset).toArray = ls at hl ⊢
  have hl : lv_has ls 4 [(0, .ref (ad 0)), (1, .int a1), (2, .int a2), (3, .int 0)] := hl
  generalize hloc : ([] : List Loc) = locs at hw ⊢
  refine lv_iload_n hx hb dX12_placeAt_0 rfl (lv_at hl 1 rfl) ?_
  refine lv_bipush (v := 10) hx hb dX12_placeAt_1 (by decide) ?_
  refine lv_imul hx hb dX12_placeAt_3 ?_
  refine lv_topi (fun x1 ex1 => ?_)
  have ex1 : x1.toInt = a1.toInt * (10 : Int) := by rw [ex1]; exact wk_mul (show (-2147483648) ≤ a1.toInt * (10 : Int) by omega) (show a1.toInt * (10 : Int) ≤ 2147483647 by omega)
  refine lv_iload_n hx hb dX12_placeAt_4 rfl (lv_at hl 2 rfl) ?_
  refine lv_iadd hx hb dX12_placeAt_5 ?_
  refine lv_topi (fun x2 ex2 => ?_)
  have ex2 : x2.toInt = x1.toInt + a2.toInt := by rw [ex2]; exact wk_add (show (-2147483648) ≤ x1.toInt + a2.toInt by omega) (show x1.toInt + a2.toInt ≤ 2147483647 by omega)
  refine lv_iconst (v := 2) hx hb dX12_placeAt_6 (by decide) ?_
  refine lv_imul hx hb dX12_placeAt_7 ?_
  refine lv_topi (fun x3 ex3 => ?_)
  have ex3 : x3.toInt = x2.toInt * (2 : Int) := by rw [ex3]; exact wk_mul (show (-2147483648) ≤ x2.toInt * (2 : Int) by omega) (show x2.toInt * (2 : Int) ≤ 2147483647 by omega)
  refine lv_iload_n hx hb dX12_placeAt_8 rfl (lv_at hl 3 rfl) ?_
  refine lv_if_eq (tgt := 16) hx hb dX12_placeAt_9 (by decide) (fun _ => ?_) (fun c => absurd (by decide) c)
  refine lv_iconst (v := 0) hx hb dX12_placeAt_16 (by decide) ?_
  refine lv_iadd hx hb dX12_placeAt_17 ?_
  refine lv_topi (fun x4 ex4 => ?_)
  have ex4 : x4.toInt = x3.toInt + (0 : Int) := by rw [ex4]; exact wk_add (show (-2147483648) ≤ x3.toInt + (0 : Int) by omega) (show x3.toInt + (0 : Int) ≤ 2147483647 by omega)
  exact tk_iret hC hr hlocks hK ⟨rfl, ⟨(show 20 ≤ x4.toInt by omega), (show x4.toInt ≤ 2438 by omega)⟩⟩ hw dX12_placeAt_18
abbrev P_X12_could_2 (ad : Nat → Nat) (cy : Nat → ClassId) (B : Int) (qr : Nat) (s1 : Int) (a1 : Int32) (a2 : Int32) (a4 : Int32) (w0 : va_W) : va_W → Prop := fun u => TW ksM ad cy B qr 12 u ∧ FE ksM [(76, 0, 2600)] w0 u ∧ ((True))
set_option maxHeartbeats 4000000 in
set_option maxRecDepth 100000 in
theorem k_X12_could_2 (l : Launch) (adK adV : Nat → Nat) (dC : Nat → ClassId) (dI : Nat → Nat → Nat) (cy : Nat → ClassId) (ad : Nat → Nat) (B : Int) (hB0 : 100000 ≤ B) (hB1 : B ≤ 1073741824) (qr : Nat) (s1 : Int)  (a1 : Int32) (ra1 : 1 ≤ a1.toInt) (ta1 : a1.toInt ≤ 121) (a2 : Int32) (ra2 : 0 ≤ a2.toInt) (ta2 : a2.toInt ≤ 9) (a4 : Int32) (w0 : va_W) (sz : Nat) (hT : TW ksM ad cy B qr 12 w0)  : Met l yX12_could wsX12_could ({ frames := 2, cells := 0, slots := 0, locals := 35 }) (va_Pc [.ref (ad 0), .int a1, .int a2, .int 0, .int a4] (wpreS adK adV dC dI cy sz w0)) (va_Qv (P_X12_could_2 ad cy B qr s1 a1 a2 a4 w0) (fun u : va_W => wpost dC dI cy (va_A w0 sz) u) (va_A w0 sz)) 0 0 (va_A w0 sz) := by
  refine Met.ofW (cc := cX12_could) (maxL := 6) (ret := none) (by decide) rfl ?_
  intro p e s m args below meth c s₁ Bk hml hv
  obtain ⟨rfl, ⟨hsz, hP, hK, hD0⟩, hE, hSR⟩ := hv
  have hx := Bk.exec
  have hb := Bk.bytes
  have hr := Bk.returns
  have hlocks := Bk.notSynchronized
  have hC : CallFix p m c cX12_could 6 s _ wsX12_could RX12 := ⟨hx, hb, hml, findClass_of_methodNamed Bk.named, atoms_spec (ws := wsX12_could) Bk.pre⟩
  subst hsz
  have hD := hD0.self (sz := s.heap.size)
  generalize hAe : va_A w0 s.heap.size = A at hD hE ⊢
  have hA : ∀ q : Nat, s.heap.size ≤ q → A q := fun q h => by rw [← hAe]; exact Or.inr h
  have hw : Wd dC dI A s.heap s.heap [] w0 := ⟨hP, hD, va_S.rf⟩
  have hF : FE ksM [(76, 0, 2600)] w0 w0 := FE.rf
  have hl := lv_entry ([.ref (ad 0), .int a1, .int a2, .int 0, .int a4]) (n := 6) (Nat.le_of_ble_eq_true rfl)
  rw [lg_entry_eq]
  generalize (lg_sl ([.ref (ad 0), .int a1, .int a2, .int 0, .int a4]) ++ List.replicate (6 - (lg_sl ([.ref (ad 0), .int a1, .int a2, .int 0, .int a4])).length) Slot.unset).toArray = ls at hl ⊢
  have hl : lv_has ls 6 [(0, .ref (ad 0)), (1, .int a1), (2, .int a2), (3, .int 0), (4, .int a4)] := hl
  generalize hloc : ([] : List Loc) = locs at hw ⊢
  have hinX12 : ∀ w ∈ u_ws RX12 TX12 42, w ∈ wsX12_could := fun _ h => List.mem_cons_of_mem _ (List.mem_append_right _ (h))
  have J30 : ∀ (v30_5 : Int32) (H : Heap) (locs : List Loc) (ls : Array Slot) (w1 : va_W), 1 ≤ a1.toInt → a1.toInt ≤ 121 → 0 ≤ a2.toInt → a2.toInt ≤ 9 → 20 ≤ v30_5.toInt → v30_5.toInt ≤ 2438 → Wd dC dI A s.heap H locs w1 → TW ksM ad cy B qr 12 w1 → FE ksM [(76, 0, 2600)] w0 w1 → lv_has ls 6 [(0, .ref (ad 0)), (1, .int a1), (2, .int a2), (3, .int 0), (4, .int a4), (5, .int v30_5)] → W p l e ({ frames := 2, cells := 0, slots := 0, locals := 35 }) s m (List.toArray [.ref (ad 0), .int a1, .int a2, .int 0, .int a4]) below meth c H locs 0 0 (MQ below (va_Qv (P_X12_could_2 ad cy B qr s1 a1 a2 a4 w0) (fun u : va_W => wpost dC dI cy A u) A) (List.toArray [.ref (ad 0), .int a1, .int a2, .int 0, .int a4]) s 0 0 A) (F0 m 30 ls []) := by
    intro v30_5 H locs ls w1 r2 t3 r4 t5 r6 t7 hw hT hF hl
    exact tk_vret hC hr hlocks hK ⟨hT, hF, trivial⟩ hw dX12_could_30
  refine lv_aload_n hx hb dX12_could_0 rfl (lv_at hl 0 rfl) ?_
  refine lv_iload_n hx hb dX12_could_1 rfl (lv_at hl 1 rfl) ?_
  refine lv_iload_n hx hb dX12_could_2 rfl (lv_at hl 2 rfl) ?_
  refine lv_iload_n hx hb dX12_could_3 rfl (lv_at hl 3 rfl) ?_
  refine tk_Vi hC hK hw hT hA hE hSR kM_at0 (by decide) rfl (k_X12_placeAt_2 l adK adV dC dI cy ad B (by omega) (by omega) qr s1   a1 (show 1 ≤ a1.toInt by omega) (show a1.toInt ≤ 121 by omega) a2 (show 0 ≤ a2.toInt by omega) (show a2.toInt ≤ 9 by omega) w0 s.heap.size hT ) (cwV 3 hC.2.2.2.2 gX12_could_X12_placeAt rfl rfl rfl (by decide +kernel) ⟨Nat.le_of_ble_eq_true rfl, Nat.le_of_ble_eq_true rfl⟩) rfl hl.1 rfl (Nat.le_of_ble_eq_true rfl) dX12_could_4 (fun r8 w10 H locs hp9 hw => ?_)
  obtain ⟨rfl, hg14⟩ := hp9
  obtain ⟨g12, g13⟩ := hg14
  refine lv_istore (lv' := [(5, .int r8), (0, .ref (ad 0)), (1, .int a1), (2, .int a2), (3, .int 0), (4, .int a4)]) hx hb dX12_could_7 hl (by decide) rfl (fun ls hl => ?_)
  refine lv_iload hx hb dX12_could_9 (lv_at hl 5 rfl) ?_
  refine lv_aload_n hx hb dX12_could_11 rfl (lv_at hl 1 rfl) ?_
  refine tk_getA hC hK hw hT hinX12 kM_at0 (by decide) rfl 34 (by decide) (List.mem_of_getElem? (i := 1) rfl) rfl rfl dX12_could_12 ?_
  refine lv_iload hx hb dX12_could_15 (lv_at hl 0 rfl) ?_
  refine tk_iald hC hK hw hT kM_at17 rfl rfl (show 0 ≤ r8.toInt by omega) (show r8.toInt < 2600 by omega) dX12_could_17 (fun x15 c16 rx15 tx15 => ?_)
  refine lv_icmp_ge (tgt := 30) hx hb dX12_could_18 (by decide) (fun c17 => ?_) (fun c17 => ?_)
  · have c17 : x15.toInt ≤ a4.toInt := wk_le.mp c17
    exact J30 r8 H locs ls w0 (show 1 ≤ a1.toInt by omega) (show a1.toInt ≤ 121 by omega) (show 0 ≤ a2.toInt by omega) (show a2.toInt ≤ 9 by omega) (show 20 ≤ r8.toInt by omega) (show r8.toInt ≤ 2438 by omega)  hw hT hF  (lv_sub hl [1, 2, 3, 4, 5, 0] rfl)
  · have c17 : a4.toInt < x15.toInt := wk_leF c17
    refine lv_aload_n hx hb dX12_could_21 rfl (lv_at hl 1 rfl) ?_
    refine tk_getA hC hK hw hT hinX12 kM_at0 (by decide) rfl 34 (by decide) (List.mem_of_getElem? (i := 1) rfl) rfl rfl dX12_could_22 ?_
    refine lv_iload hx hb dX12_could_25 (lv_at hl 0 rfl) ?_
    refine lv_iload hx hb dX12_could_27 (lv_at hl 5 rfl) ?_
    refine tk_iast hC hK hw hT kM_at17 (by decide) rfl rfl (show 0 ≤ r8.toInt by omega) (show r8.toInt < 2600 by omega) (wk_i32 a4).1 (wk_i32 a4).2 dX12_could_29 (fun H locs w18 hw hT k20 c19 => ?_)
    have hF := hF.put kM_at17 (inE_of (a := 0) (b := 2600) (by decide) (show 0 ≤ r8.toInt.toNat by omega) (show r8.toInt.toNat ≤ 2600 by omega)) k20
    exact J30 r8 H locs ls w18 (show 1 ≤ a1.toInt by omega) (show a1.toInt ≤ 121 by omega) (show 0 ≤ a2.toInt by omega) (show a2.toInt ≤ 9 by omega) (show 20 ≤ r8.toInt by omega) (show r8.toInt ≤ 2438 by omega)  hw hT hF  (lv_sub hl [1, 2, 3, 4, 5, 0] rfl)
abbrev P_X12_placeAt_3 (ad : Nat → Nat) (cy : Nat → ClassId) (B : Int) (qr : Nat) (s1 : Int) (a1 : Int32) (a2 : Int32) (w0 : va_W) : Int32 → va_W → Prop := fun r u => w0 = u ∧ ((21 ≤ r.toInt ∧ r.toInt ≤ 2439))
set_option maxHeartbeats 4000000 in
set_option maxRecDepth 100000 in
theorem k_X12_placeAt_3 (l : Launch) (adK adV : Nat → Nat) (dC : Nat → ClassId) (dI : Nat → Nat → Nat) (cy : Nat → ClassId) (ad : Nat → Nat) (B : Int) (hB0 : 100000 ≤ B) (hB1 : B ≤ 1073741824) (qr : Nat) (s1 : Int)  (a1 : Int32) (ra1 : 1 ≤ a1.toInt) (ta1 : a1.toInt ≤ 121) (a2 : Int32) (ra2 : 0 ≤ a2.toInt) (ta2 : a2.toInt ≤ 9) (w0 : va_W) (sz : Nat) (hT : TW ksM ad cy B qr 12 w0)  : Met l yX12_placeAt wsX12_placeAt ({ frames := 1, cells := 0, slots := 0, locals := 12 }) (va_Pc [.ref (ad 0), .int a1, .int a2, .int 1] (wpreS adK adV dC dI cy sz w0)) (va_Qi (P_X12_placeAt_3 ad cy B qr s1 a1 a2 w0) (fun u : va_W => wpost dC dI cy (va_A w0 sz) u) (va_A w0 sz)) 0 0 (va_A w0 sz) := by
  refine Met.ofW (cc := cX12_placeAt) (maxL := 4) (ret := (some .int)) (by decide) rfl ?_
  intro p e s m args below meth c s₁ Bk hml hv
  obtain ⟨rfl, ⟨hsz, hP, hK, hD0⟩, hE, hSR⟩ := hv
  have hx := Bk.exec
  have hb := Bk.bytes
  have hr := Bk.returns
  have hlocks := Bk.notSynchronized
  have hC : CallFix p m c cX12_placeAt 4 s _ wsX12_placeAt RX12 := ⟨hx, hb, hml, findClass_of_methodNamed Bk.named, atoms_spec (ws := wsX12_placeAt) Bk.pre⟩
  subst hsz
  have hD := hD0.self (sz := s.heap.size)
  generalize hAe : va_A w0 s.heap.size = A at hD hE ⊢
  have hA : ∀ q : Nat, s.heap.size ≤ q → A q := fun q h => by rw [← hAe]; exact Or.inr h
  have hw : Wd dC dI A s.heap s.heap [] w0 := ⟨hP, hD, va_S.rf⟩
  have hF : FE ksM ([] : List (Nat × Nat × Nat)) w0 w0 := FE.rf
  have hl := lv_entry ([.ref (ad 0), .int a1, .int a2, .int 1]) (n := 4) (Nat.le_of_ble_eq_true rfl)
  rw [lg_entry_eq]
  generalize (lg_sl ([.ref (ad 0), .int a1, .int a2, .int 1]) ++ List.replicate (4 - (lg_sl ([.ref (ad 0), .int a1, .int a2, .int 1])).length) Slot.unset).toArray = ls at hl ⊢
  have hl : lv_has ls 4 [(0, .ref (ad 0)), (1, .int a1), (2, .int a2), (3, .int 1)] := hl
  generalize hloc : ([] : List Loc) = locs at hw ⊢
  refine lv_iload_n hx hb dX12_placeAt_0 rfl (lv_at hl 1 rfl) ?_
  refine lv_bipush (v := 10) hx hb dX12_placeAt_1 (by decide) ?_
  refine lv_imul hx hb dX12_placeAt_3 ?_
  refine lv_topi (fun x1 ex1 => ?_)
  have ex1 : x1.toInt = a1.toInt * (10 : Int) := by rw [ex1]; exact wk_mul (show (-2147483648) ≤ a1.toInt * (10 : Int) by omega) (show a1.toInt * (10 : Int) ≤ 2147483647 by omega)
  refine lv_iload_n hx hb dX12_placeAt_4 rfl (lv_at hl 2 rfl) ?_
  refine lv_iadd hx hb dX12_placeAt_5 ?_
  refine lv_topi (fun x2 ex2 => ?_)
  have ex2 : x2.toInt = x1.toInt + a2.toInt := by rw [ex2]; exact wk_add (show (-2147483648) ≤ x1.toInt + a2.toInt by omega) (show x1.toInt + a2.toInt ≤ 2147483647 by omega)
  refine lv_iconst (v := 2) hx hb dX12_placeAt_6 (by decide) ?_
  refine lv_imul hx hb dX12_placeAt_7 ?_
  refine lv_topi (fun x3 ex3 => ?_)
  have ex3 : x3.toInt = x2.toInt * (2 : Int) := by rw [ex3]; exact wk_mul (show (-2147483648) ≤ x2.toInt * (2 : Int) by omega) (show x2.toInt * (2 : Int) ≤ 2147483647 by omega)
  refine lv_iload_n hx hb dX12_placeAt_8 rfl (lv_at hl 3 rfl) ?_
  refine lv_if_eq (tgt := 16) hx hb dX12_placeAt_9 (by decide) (fun c => absurd c (by decide)) (fun _ => ?_)
  refine lv_iconst (v := 1) hx hb dX12_placeAt_12 (by decide) ?_
  refine lv_goto (tgt := 17) hx hb dX12_placeAt_13 (by decide) ?_
  refine lv_iadd hx hb dX12_placeAt_17 ?_
  refine lv_topi (fun x4 ex4 => ?_)
  have ex4 : x4.toInt = x3.toInt + (1 : Int) := by rw [ex4]; exact wk_add (show (-2147483648) ≤ x3.toInt + (1 : Int) by omega) (show x3.toInt + (1 : Int) ≤ 2147483647 by omega)
  exact tk_iret hC hr hlocks hK ⟨rfl, ⟨(show 21 ≤ x4.toInt by omega), (show x4.toInt ≤ 2439 by omega)⟩⟩ hw dX12_placeAt_18
abbrev P_X12_could_3 (ad : Nat → Nat) (cy : Nat → ClassId) (B : Int) (qr : Nat) (s1 : Int) (a1 : Int32) (a2 : Int32) (a4 : Int32) (w0 : va_W) : va_W → Prop := fun u => TW ksM ad cy B qr 12 u ∧ FE ksM [(76, 0, 2600)] w0 u ∧ ((True))
set_option maxHeartbeats 4000000 in
set_option maxRecDepth 100000 in
theorem k_X12_could_3 (l : Launch) (adK adV : Nat → Nat) (dC : Nat → ClassId) (dI : Nat → Nat → Nat) (cy : Nat → ClassId) (ad : Nat → Nat) (B : Int) (hB0 : 100000 ≤ B) (hB1 : B ≤ 1073741824) (qr : Nat) (s1 : Int)  (a1 : Int32) (ra1 : 1 ≤ a1.toInt) (ta1 : a1.toInt ≤ 121) (a2 : Int32) (ra2 : 0 ≤ a2.toInt) (ta2 : a2.toInt ≤ 9) (a4 : Int32) (w0 : va_W) (sz : Nat) (hT : TW ksM ad cy B qr 12 w0)  : Met l yX12_could wsX12_could ({ frames := 2, cells := 0, slots := 0, locals := 35 }) (va_Pc [.ref (ad 0), .int a1, .int a2, .int 1, .int a4] (wpreS adK adV dC dI cy sz w0)) (va_Qv (P_X12_could_3 ad cy B qr s1 a1 a2 a4 w0) (fun u : va_W => wpost dC dI cy (va_A w0 sz) u) (va_A w0 sz)) 0 0 (va_A w0 sz) := by
  refine Met.ofW (cc := cX12_could) (maxL := 6) (ret := none) (by decide) rfl ?_
  intro p e s m args below meth c s₁ Bk hml hv
  obtain ⟨rfl, ⟨hsz, hP, hK, hD0⟩, hE, hSR⟩ := hv
  have hx := Bk.exec
  have hb := Bk.bytes
  have hr := Bk.returns
  have hlocks := Bk.notSynchronized
  have hC : CallFix p m c cX12_could 6 s _ wsX12_could RX12 := ⟨hx, hb, hml, findClass_of_methodNamed Bk.named, atoms_spec (ws := wsX12_could) Bk.pre⟩
  subst hsz
  have hD := hD0.self (sz := s.heap.size)
  generalize hAe : va_A w0 s.heap.size = A at hD hE ⊢
  have hA : ∀ q : Nat, s.heap.size ≤ q → A q := fun q h => by rw [← hAe]; exact Or.inr h
  have hw : Wd dC dI A s.heap s.heap [] w0 := ⟨hP, hD, va_S.rf⟩
  have hF : FE ksM [(76, 0, 2600)] w0 w0 := FE.rf
  have hl := lv_entry ([.ref (ad 0), .int a1, .int a2, .int 1, .int a4]) (n := 6) (Nat.le_of_ble_eq_true rfl)
  rw [lg_entry_eq]
  generalize (lg_sl ([.ref (ad 0), .int a1, .int a2, .int 1, .int a4]) ++ List.replicate (6 - (lg_sl ([.ref (ad 0), .int a1, .int a2, .int 1, .int a4])).length) Slot.unset).toArray = ls at hl ⊢
  have hl : lv_has ls 6 [(0, .ref (ad 0)), (1, .int a1), (2, .int a2), (3, .int 1), (4, .int a4)] := hl
  generalize hloc : ([] : List Loc) = locs at hw ⊢
  have hinX12 : ∀ w ∈ u_ws RX12 TX12 42, w ∈ wsX12_could := fun _ h => List.mem_cons_of_mem _ (List.mem_append_right _ (h))
  have J30 : ∀ (v30_5 : Int32) (H : Heap) (locs : List Loc) (ls : Array Slot) (w1 : va_W), 1 ≤ a1.toInt → a1.toInt ≤ 121 → 0 ≤ a2.toInt → a2.toInt ≤ 9 → 21 ≤ v30_5.toInt → v30_5.toInt ≤ 2439 → Wd dC dI A s.heap H locs w1 → TW ksM ad cy B qr 12 w1 → FE ksM [(76, 0, 2600)] w0 w1 → lv_has ls 6 [(0, .ref (ad 0)), (1, .int a1), (2, .int a2), (3, .int 1), (4, .int a4), (5, .int v30_5)] → W p l e ({ frames := 2, cells := 0, slots := 0, locals := 35 }) s m (List.toArray [.ref (ad 0), .int a1, .int a2, .int 1, .int a4]) below meth c H locs 0 0 (MQ below (va_Qv (P_X12_could_3 ad cy B qr s1 a1 a2 a4 w0) (fun u : va_W => wpost dC dI cy A u) A) (List.toArray [.ref (ad 0), .int a1, .int a2, .int 1, .int a4]) s 0 0 A) (F0 m 30 ls []) := by
    intro v30_5 H locs ls w1 r2 t3 r4 t5 r6 t7 hw hT hF hl
    exact tk_vret hC hr hlocks hK ⟨hT, hF, trivial⟩ hw dX12_could_30
  refine lv_aload_n hx hb dX12_could_0 rfl (lv_at hl 0 rfl) ?_
  refine lv_iload_n hx hb dX12_could_1 rfl (lv_at hl 1 rfl) ?_
  refine lv_iload_n hx hb dX12_could_2 rfl (lv_at hl 2 rfl) ?_
  refine lv_iload_n hx hb dX12_could_3 rfl (lv_at hl 3 rfl) ?_
  refine tk_Vi hC hK hw hT hA hE hSR kM_at0 (by decide) rfl (k_X12_placeAt_3 l adK adV dC dI cy ad B (by omega) (by omega) qr s1   a1 (show 1 ≤ a1.toInt by omega) (show a1.toInt ≤ 121 by omega) a2 (show 0 ≤ a2.toInt by omega) (show a2.toInt ≤ 9 by omega) w0 s.heap.size hT ) (cwV 3 hC.2.2.2.2 gX12_could_X12_placeAt rfl rfl rfl (by decide +kernel) ⟨Nat.le_of_ble_eq_true rfl, Nat.le_of_ble_eq_true rfl⟩) rfl hl.1 rfl (Nat.le_of_ble_eq_true rfl) dX12_could_4 (fun r8 w10 H locs hp9 hw => ?_)
  obtain ⟨rfl, hg14⟩ := hp9
  obtain ⟨g12, g13⟩ := hg14
  refine lv_istore (lv' := [(5, .int r8), (0, .ref (ad 0)), (1, .int a1), (2, .int a2), (3, .int 1), (4, .int a4)]) hx hb dX12_could_7 hl (by decide) rfl (fun ls hl => ?_)
  refine lv_iload hx hb dX12_could_9 (lv_at hl 5 rfl) ?_
  refine lv_aload_n hx hb dX12_could_11 rfl (lv_at hl 1 rfl) ?_
  refine tk_getA hC hK hw hT hinX12 kM_at0 (by decide) rfl 34 (by decide) (List.mem_of_getElem? (i := 1) rfl) rfl rfl dX12_could_12 ?_
  refine lv_iload hx hb dX12_could_15 (lv_at hl 0 rfl) ?_
  refine tk_iald hC hK hw hT kM_at17 rfl rfl (show 0 ≤ r8.toInt by omega) (show r8.toInt < 2600 by omega) dX12_could_17 (fun x15 c16 rx15 tx15 => ?_)
  refine lv_icmp_ge (tgt := 30) hx hb dX12_could_18 (by decide) (fun c17 => ?_) (fun c17 => ?_)
  · have c17 : x15.toInt ≤ a4.toInt := wk_le.mp c17
    exact J30 r8 H locs ls w0 (show 1 ≤ a1.toInt by omega) (show a1.toInt ≤ 121 by omega) (show 0 ≤ a2.toInt by omega) (show a2.toInt ≤ 9 by omega) (show 21 ≤ r8.toInt by omega) (show r8.toInt ≤ 2439 by omega)  hw hT hF  (lv_sub hl [1, 2, 3, 4, 5, 0] rfl)
  · have c17 : a4.toInt < x15.toInt := wk_leF c17
    refine lv_aload_n hx hb dX12_could_21 rfl (lv_at hl 1 rfl) ?_
    refine tk_getA hC hK hw hT hinX12 kM_at0 (by decide) rfl 34 (by decide) (List.mem_of_getElem? (i := 1) rfl) rfl rfl dX12_could_22 ?_
    refine lv_iload hx hb dX12_could_25 (lv_at hl 0 rfl) ?_
    refine lv_iload hx hb dX12_could_27 (lv_at hl 5 rfl) ?_
    refine tk_iast hC hK hw hT kM_at17 (by decide) rfl rfl (show 0 ≤ r8.toInt by omega) (show r8.toInt < 2600 by omega) (wk_i32 a4).1 (wk_i32 a4).2 dX12_could_29 (fun H locs w18 hw hT k20 c19 => ?_)
    have hF := hF.put kM_at17 (inE_of (a := 0) (b := 2600) (by decide) (show 0 ≤ r8.toInt.toNat by omega) (show r8.toInt.toNat ≤ 2600 by omega)) k20
    exact J30 r8 H locs ls w18 (show 1 ≤ a1.toInt by omega) (show a1.toInt ≤ 121 by omega) (show 0 ≤ a2.toInt by omega) (show a2.toInt ≤ 9 by omega) (show 21 ≤ r8.toInt by omega) (show r8.toInt ≤ 2439 by omega)  hw hT hF  (lv_sub hl [1, 2, 3, 4, 5, 0] rfl)
abbrev P_X12_leads_1 (ad : Nat → Nat) (cy : Nat → ClassId) (B : Int) (qr : Nat) (s1 : Int) (a1 : Int32) (a2 : Int32) (a3 : Int32) (a4 : Int32) (a6 : Int32) (w0 : va_W) : va_W → Prop := fun u => TW ksM ad cy B qr 12 u ∧ FE ksM [(72, 0, 12), (73, 0, 10), (76, 0, 2600)] w0 u ∧ ((True))
set_option maxHeartbeats 4000000 in
set_option maxRecDepth 100000 in
theorem k_X12_leads_1 (l : Launch) (adK adV : Nat → Nat) (dC : Nat → ClassId) (dI : Nat → Nat → Nat) (cy : Nat → ClassId) (ad : Nat → Nat) (B : Int) (hB0 : 100000 ≤ B) (hB1 : B ≤ 1073741824) (qr : Nat) (s1 : Int)  (a1 : Int32) (ra1 : 0 ≤ a1.toInt) (ta1 : a1.toInt ≤ 3) (a2 : Int32) (ra2 : 0 ≤ a2.toInt) (ta2 : a2.toInt ≤ 1073741824) (a3 : Int32) (ra3 : 0 ≤ a3.toInt) (ta3 : a3.toInt ≤ 120) (a4 : Int32) (ra4 : 0 ≤ a4.toInt) (ta4 : a4.toInt ≤ 9) (a6 : Int32) (ra6 : 0 ≤ a6.toInt) (ta6 : a6.toInt ≤ 120) (w0 : va_W) (sz : Nat) (hT : TW ksM ad cy B qr 12 w0)  : Met l yX12_leads wsX12_leads ({ frames := 5, cells := 0, slots := 0, locals := 103 }) (va_Pc [.ref (ad 0), .int a1, .int a2, .int a3, .int a4, .int 0, .int a6] (wpreS adK adV dC dI cy sz w0)) (va_Qv (P_X12_leads_1 ad cy B qr s1 a1 a2 a3 a4 a6 w0) (fun u : va_W => wpost dC dI cy (va_A w0 sz) u) (va_A w0 sz)) 0 0 (va_A w0 sz) := by
  refine Met.ofW (cc := cX12_leads) (maxL := 12) (ret := none) (by decide) rfl ?_
  intro p e s m args below meth c s₁ Bk hml hv
  obtain ⟨rfl, ⟨hsz, hP, hK, hD0⟩, hE, hSR⟩ := hv
  have hx := Bk.exec
  have hb := Bk.bytes
  have hr := Bk.returns
  have hlocks := Bk.notSynchronized
  have hC : CallFix p m c cX12_leads 12 s _ wsX12_leads RX12 := ⟨hx, hb, hml, findClass_of_methodNamed Bk.named, atoms_spec (ws := wsX12_leads) Bk.pre⟩
  subst hsz
  have hD := hD0.self (sz := s.heap.size)
  generalize hAe : va_A w0 s.heap.size = A at hD hE ⊢
  have hA : ∀ q : Nat, s.heap.size ≤ q → A q := fun q h => by rw [← hAe]; exact Or.inr h
  have hw : Wd dC dI A s.heap s.heap [] w0 := ⟨hP, hD, va_S.rf⟩
  have hF : FE ksM [(72, 0, 12), (73, 0, 10), (76, 0, 2600)] w0 w0 := FE.rf
  have hl := lv_entry ([.ref (ad 0), .int a1, .int a2, .int a3, .int a4, .int 0, .int a6]) (n := 12) (Nat.le_of_ble_eq_true rfl)
  rw [lg_entry_eq]
  generalize (lg_sl ([.ref (ad 0), .int a1, .int a2, .int a3, .int a4, .int 0, .int a6]) ++ List.replicate (12 - (lg_sl ([.ref (ad 0), .int a1, .int a2, .int a3, .int a4, .int 0, .int a6])).length) Slot.unset).toArray = ls at hl ⊢
  have hl : lv_has ls 12 [(0, .ref (ad 0)), (1, .int a1), (2, .int a2), (3, .int a3), (4, .int a4), (5, .int 0), (6, .int a6)] := hl
  generalize hloc : ([] : List Loc) = locs at hw ⊢
  have hinX12 : ∀ w ∈ u_ws RX12 TX12 42, w ∈ wsX12_leads := fun _ h => List.mem_cons_of_mem _ (List.mem_append_right _ (h))
  have J41 : ∀ (v41_7 : Int32) (H : Heap) (locs : List Loc) (ls : Array Slot) (w1 : va_W), 0 ≤ a1.toInt → a1.toInt ≤ 3 → 0 ≤ a2.toInt → a2.toInt ≤ 1073741824 → 0 ≤ a3.toInt → a3.toInt ≤ 120 → 0 ≤ a4.toInt → a4.toInt ≤ 9 → 0 ≤ a6.toInt → a6.toInt ≤ 120 → Wd dC dI A s.heap H locs w1 → TW ksM ad cy B qr 12 w1 → FE ksM [(72, 0, 12), (73, 0, 10), (76, 0, 2600)] w0 w1 → lv_has ls 12 [(0, .ref (ad 0)), (1, .int a1), (2, .int a2), (3, .int a3), (4, .int a4), (5, .int 0), (6, .int a6), (7, .int v41_7)] → W p l e ({ frames := 5, cells := 0, slots := 0, locals := 103 }) s m (List.toArray [.ref (ad 0), .int a1, .int a2, .int a3, .int a4, .int 0, .int a6]) below meth c H locs 0 0 (MQ below (va_Qv (P_X12_leads_1 ad cy B qr s1 a1 a2 a3 a4 a6 w0) (fun u : va_W => wpost dC dI cy A u) A) (List.toArray [.ref (ad 0), .int a1, .int a2, .int a3, .int a4, .int 0, .int a6]) s 0 0 A) (F0 m 41 ls []) := by
    intro v41_7 H locs ls w1 r2 t3 r4 t5 r6 t7 r8 t9 r10 t11 hw hT hF hl
    exact tk_vret hC hr hlocks hK ⟨hT, hF, trivial⟩ hw dX12_leads_41
  have J181 : ∀ (v181_7 : Int32) (v181_8 : Int32) (v181_9 : Int32) (v181_10 : Int32) (f181_12__9_a1_toInt_217_toNat : Int32) (f181_12__9_a1_toInt_218_toNat : Int32) (H : Heap) (locs : List Loc) (ls : Array Slot) (w12 : va_W), 0 ≤ a1.toInt → a1.toInt ≤ 3 → 0 ≤ a2.toInt → a2.toInt ≤ 1073741824 → 0 ≤ a3.toInt → a3.toInt ≤ 120 → 0 ≤ a4.toInt → a4.toInt ≤ 9 → 0 ≤ a6.toInt → a6.toInt ≤ 120 → 0 ≤ v181_8.toInt → v181_8.toInt ≤ 1073741944 → 0 ≤ v181_9.toInt → v181_9.toInt ≤ 1 → (-1) ≤ v181_10.toInt → v181_10.toInt ≤ 11 → 0 ≤ f181_12__9_a1_toInt_217_toNat.toInt → f181_12__9_a1_toInt_217_toNat.toInt ≤ 9 → 0 ≤ f181_12__9_a1_toInt_218_toNat.toInt → f181_12__9_a1_toInt_218_toNat.toInt ≤ 3 → Wd dC dI A s.heap H locs w12 → TW ksM ad cy B qr 12 w12 → FE ksM [(72, 0, 12), (73, 0, 10), (76, 0, 2600)] w0 w12 → gi w12 12 (9 * a1.toInt + 217).toNat = f181_12__9_a1_toInt_217_toNat → gi w12 12 (9 * a1.toInt + 218).toNat = f181_12__9_a1_toInt_218_toNat → lv_has ls 12 [(0, .ref (ad 0)), (1, .int a1), (2, .int a2), (3, .int a3), (4, .int a4), (5, .int 0), (6, .int a6), (7, .int v181_7), (8, .int v181_8), (9, .int v181_9), (10, .int v181_10)] → W p l e ({ frames := 5, cells := 0, slots := 0, locals := 103 }) s m (List.toArray [.ref (ad 0), .int a1, .int a2, .int a3, .int a4, .int 0, .int a6]) below meth c H locs 0 0 (MQ below (va_Qv (P_X12_leads_1 ad cy B qr s1 a1 a2 a3 a4 a6 w0) (fun u : va_W => wpost dC dI cy A u) A) (List.toArray [.ref (ad 0), .int a1, .int a2, .int a3, .int a4, .int 0, .int a6]) s 0 0 A) (F0 m 181 ls []) := by
    intro v181_7 v181_8 v181_9 v181_10 f181_12__9_a1_toInt_217_toNat f181_12__9_a1_toInt_218_toNat H locs ls w12 r13 t14 r15 t16 r17 t18 r19 t20 r21 t22 r23 t24 r25 t26 r27 t28 r29 t30 r32 t33 hw hT hF c31 c34 hl
    exact tk_vret hC hr hlocks hK ⟨hT, hF, trivial⟩ hw dX12_leads_181
  have J241 : ∀ (v241_7 : Int32) (v241_8 : Int32) (v241_9 : Int32) (v241_10 : Int32) (v241_11 : Int32) (f241_12__9_a1_toInt_217_toNat : Int32) (f241_12__9_a1_toInt_218_toNat : Int32) (f241_12_1 : Int32) (H : Heap) (locs : List Loc) (ls : Array Slot) (w35 : va_W), 0 ≤ a1.toInt → a1.toInt ≤ 3 → 0 ≤ a2.toInt → a2.toInt ≤ 1073741824 → 0 ≤ a3.toInt → a3.toInt ≤ 120 → 0 ≤ a4.toInt → a4.toInt ≤ 9 → 0 ≤ a6.toInt → a6.toInt ≤ 120 → 0 ≤ v241_8.toInt → v241_8.toInt ≤ 1073741944 → 0 ≤ v241_9.toInt → v241_9.toInt ≤ 1 → 0 ≤ v241_10.toInt → v241_10.toInt ≤ 11 → 0 ≤ v241_11.toInt → v241_11.toInt ≤ 129 → 0 ≤ f241_12__9_a1_toInt_217_toNat.toInt → f241_12__9_a1_toInt_217_toNat.toInt ≤ 9 → 0 ≤ f241_12__9_a1_toInt_218_toNat.toInt → f241_12__9_a1_toInt_218_toNat.toInt ≤ 3 → 1 ≤ f241_12_1.toInt → f241_12_1.toInt ≤ 12 → Wd dC dI A s.heap H locs w35 → TW ksM ad cy B qr 12 w35 → FE ksM [(72, 0, 12), (73, 0, 10), (76, 0, 2600)] w0 w35 → gi w35 12 (9 * a1.toInt + 217).toNat = f241_12__9_a1_toInt_217_toNat → gi w35 12 (9 * a1.toInt + 218).toNat = f241_12__9_a1_toInt_218_toNat → gi w35 12 1 = f241_12_1 → lv_has ls 12 [(0, .ref (ad 0)), (1, .int a1), (2, .int a2), (3, .int a3), (4, .int a4), (5, .int 0), (6, .int a6), (7, .int v241_7), (8, .int v241_8), (9, .int v241_9), (10, .int v241_10), (11, .int v241_11)] → W p l e ({ frames := 5, cells := 0, slots := 0, locals := 103 }) s m (List.toArray [.ref (ad 0), .int a1, .int a2, .int a3, .int a4, .int 0, .int a6]) below meth c H locs 0 0 (MQ below (va_Qv (P_X12_leads_1 ad cy B qr s1 a1 a2 a3 a4 a6 w0) (fun u : va_W => wpost dC dI cy A u) A) (List.toArray [.ref (ad 0), .int a1, .int a2, .int a3, .int a4, .int 0, .int a6]) s 0 0 A) (F0 m 241 ls []) := by
    intro v241_7 v241_8 v241_9 v241_10 v241_11 f241_12__9_a1_toInt_217_toNat f241_12__9_a1_toInt_218_toNat f241_12_1 H locs ls w35 r36 t37 r38 t39 r40 t41 r42 t43 r44 t45 r46 t47 r48 t49 r50 t51 r52 t53 r54 t55 r57 t58 r60 t61 hw hT hF c56 c59 c62 hl
    exact tk_vret hC hr hlocks hK ⟨hT, hF, trivial⟩ hw dX12_leads_241
  have J145 : ∀ (v145_7 : Int32) (v145_8 : Int32) (v145_9 : Int32) (f145_12__9_a1_toInt_217_toNat : Int32) (f145_12__9_a1_toInt_218_toNat : Int32) (H : Heap) (locs : List Loc) (ls : Array Slot) (w63 : va_W), 0 ≤ a1.toInt → a1.toInt ≤ 3 → 0 ≤ a2.toInt → a2.toInt ≤ 1073741824 → 0 ≤ a3.toInt → a3.toInt ≤ 120 → 0 ≤ a4.toInt → a4.toInt ≤ 9 → 0 ≤ a6.toInt → a6.toInt ≤ 120 → 0 ≤ v145_8.toInt → v145_8.toInt ≤ 1073741944 → 0 ≤ v145_9.toInt → v145_9.toInt ≤ 1 → 0 ≤ f145_12__9_a1_toInt_217_toNat.toInt → f145_12__9_a1_toInt_217_toNat.toInt ≤ 9 → 0 ≤ f145_12__9_a1_toInt_218_toNat.toInt → f145_12__9_a1_toInt_218_toNat.toInt ≤ 3 → Wd dC dI A s.heap H locs w63 → TW ksM ad cy B qr 12 w63 → FE ksM [(72, 0, 12), (73, 0, 10), (76, 0, 2600)] w0 w63 → gi w63 12 (9 * a1.toInt + 217).toNat = f145_12__9_a1_toInt_217_toNat → gi w63 12 (9 * a1.toInt + 218).toNat = f145_12__9_a1_toInt_218_toNat → lv_has ls 12 [(0, .ref (ad 0)), (1, .int a1), (2, .int a2), (3, .int a3), (4, .int a4), (5, .int 0), (6, .int a6), (7, .int v145_7), (8, .int v145_8), (9, .int v145_9)] → W p l e ({ frames := 5, cells := 0, slots := 0, locals := 103 }) s m (List.toArray [.ref (ad 0), .int a1, .int a2, .int a3, .int a4, .int 0, .int a6]) below meth c H locs 0 0 (MQ below (va_Qv (P_X12_leads_1 ad cy B qr s1 a1 a2 a3 a4 a6 w0) (fun u : va_W => wpost dC dI cy A u) A) (List.toArray [.ref (ad 0), .int a1, .int a2, .int a3, .int a4, .int 0, .int a6]) s 0 0 A) (F0 m 145 ls []) := by
    intro v145_7 v145_8 v145_9 f145_12__9_a1_toInt_217_toNat f145_12__9_a1_toInt_218_toNat H locs ls w63 r64 t65 r66 t67 r68 t69 r70 t71 r72 t73 r74 t75 r76 t77 r78 t79 r81 t82 hw hT hF c80 c83 hl
    refine lv_aload_n hx hb dX12_leads_145 rfl (lv_at hl 0 rfl) ?_
    refine lv_aload_n hx hb dX12_leads_146 rfl (lv_at hl 0 rfl) ?_
    refine lv_iload_n hx hb dX12_leads_147 rfl (lv_at hl 1 rfl) ?_
    refine lv_iconst (v := 1) hx hb dX12_leads_148 (by decide) ?_
    refine tk_Vi hC hK hw hT hA hE hSR kM_at0 (by decide) rfl (k_X12_walkerOf_3 l adK adV dC dI cy ad B (by omega) (by omega) qr s1   a1 (show 0 ≤ a1.toInt by omega) (show a1.toInt ≤ 3 by omega) w63 H.size hT ) (cwV 2 hC.2.2.2.2 gX12_leads_X12_walkerOf rfl rfl rfl (by decide +kernel) ⟨Nat.le_of_ble_eq_true rfl, Nat.le_of_ble_eq_true rfl⟩) rfl hl.1 rfl (Nat.le_of_ble_eq_true rfl) dX12_leads_149 (fun r84 w86 H locs hp85 hw => ?_)
    obtain ⟨rfl, hg91⟩ := hp85
    obtain ⟨g88, g89, c90⟩ := hg91
    obtain rfl : r84 = f145_12__9_a1_toInt_217_toNat := c90.symm.trans c80
    refine tk_Vv hC hK hw hT hA hE hSR kM_at0 (by decide) rfl (k_X12_spreads_1 l adK adV dC dI cy ad B (by omega) (by omega) qr s1   f145_12__9_a1_toInt_217_toNat (show 0 ≤ f145_12__9_a1_toInt_217_toNat.toInt by omega) (show f145_12__9_a1_toInt_217_toNat.toInt ≤ 9 by omega) w63 H.size hT ) (cwV 1 hC.2.2.2.2 gX12_leads_X12_spreads rfl rfl rfl (by decide +kernel) ⟨Nat.le_of_ble_eq_true rfl, Nat.le_of_ble_eq_true rfl⟩) rfl hl.1 rfl (Nat.le_of_ble_eq_true rfl) dX12_leads_152 (fun w94 H locs hp93 hw => ?_)
    obtain ⟨hT, k95, hg96⟩ := hp93
    have hF := hF.tr k95 (by decide)
    have c97 := k95.gi kM_at12 rfl c80
    have c98 := k95.gi kM_at12 rfl c83
    clear hg96
    refine lv_aload_n hx hb dX12_leads_155 rfl (lv_at hl 0 rfl) ?_
    refine lv_iload hx hb dX12_leads_156 (lv_at hl 4 rfl) ?_
    refine tk_Vi hC hK hw hT hA hE hSR kM_at0 (by decide) rfl (k_X12_streetFrom_1 l adK adV dC dI cy ad B (by omega) (by omega) qr s1   a4 (show 0 ≤ a4.toInt by omega) (show a4.toInt ≤ 9 by omega) w94 H.size hT ) (cwV 1 hC.2.2.2.2 gX12_leads_X12_streetFrom rfl rfl rfl (by decide +kernel) ⟨Nat.le_of_ble_eq_true rfl, Nat.le_of_ble_eq_true rfl⟩) rfl hl.1 rfl (Nat.le_of_ble_eq_true rfl) dX12_leads_158 (fun r99 w101 H locs hp100 hw => ?_)
    obtain ⟨rfl, hg112⟩ := hp100
    rcases hg112 with ⟨g103, g104, ⟨x105, c106, rx105, tx105⟩⟩ | ⟨g107, g108, ⟨x109, c110, rx109, tx109⟩, c111⟩ | rfl
    · refine lv_istore (lv' := [(10, .int r99), (0, .ref (ad 0)), (1, .int a1), (2, .int a2), (3, .int a3), (4, .int a4), (5, .int 0), (6, .int a6), (7, .int v145_7), (8, .int v145_8), (9, .int v145_9)]) hx hb dX12_leads_161 hl (by decide) rfl (fun ls hl => ?_)
      refine lv_iload hx hb dX12_leads_163 (lv_at hl 0 rfl) ?_
      refine lv_if_lt (tgt := 181) hx hb dX12_leads_165 (by decide) (fun c => absurd c (fun h => absurd (show r99.toInt < (0 : Int) from wk_lt.mp h) (by omega))) (fun _ => ?_)
      refine lv_aload_n hx hb dX12_leads_168 rfl (lv_at hl 1 rfl) ?_
      refine lv_iload hx hb dX12_leads_169 (lv_at hl 0 rfl) ?_
      refine lv_iload hx hb dX12_leads_171 (lv_at hl 5 rfl) ?_
      refine lv_iload hx hb dX12_leads_173 (lv_at hl 9 rfl) ?_
      refine tk_Vi hC hK hw hT hA hE hSR kM_at0 (by decide) rfl (k_X12_isOpen_2 l adK adV dC dI cy ad B (by omega) (by omega) qr s1   r99 (show 0 ≤ r99.toInt by omega) (show r99.toInt ≤ 11 by omega) a4 (show 0 ≤ a4.toInt by omega) (show a4.toInt ≤ 9 by omega) v145_8 (show 0 ≤ v145_8.toInt by omega) (show v145_8.toInt ≤ 1073741944 by omega) w94 H.size hT ) (cwV 3 hC.2.2.2.2 gX12_leads_X12_isOpen rfl rfl rfl (by decide +kernel) ⟨Nat.le_of_ble_eq_true rfl, Nat.le_of_ble_eq_true rfl⟩) rfl hl.1 rfl (Nat.le_of_ble_eq_true rfl) dX12_leads_175 (fun r113 w115 H locs hp114 hw => ?_)
      obtain ⟨rfl, hg118⟩ := hp114
      rcases hg118 with rfl | rfl | ⟨rfl, c117⟩
      · refine lv_if_ne (tgt := 182) hx hb dX12_leads_178 (by decide) (fun c => absurd (by decide) c) (fun _ => ?_)
        exact J181 v145_7 v145_8 v145_9 r99 f145_12__9_a1_toInt_217_toNat f145_12__9_a1_toInt_218_toNat H locs ls w94 (show 0 ≤ a1.toInt by omega) (show a1.toInt ≤ 3 by omega) (show 0 ≤ a2.toInt by omega) (show a2.toInt ≤ 1073741824 by omega) (show 0 ≤ a3.toInt by omega) (show a3.toInt ≤ 120 by omega) (show 0 ≤ a4.toInt by omega) (show a4.toInt ≤ 9 by omega) (show 0 ≤ a6.toInt by omega) (show a6.toInt ≤ 120 by omega) (show 0 ≤ v145_8.toInt by omega) (show v145_8.toInt ≤ 1073741944 by omega) (show 0 ≤ v145_9.toInt by omega) (show v145_9.toInt ≤ 1 by omega) (show (-1) ≤ r99.toInt by omega) (show r99.toInt ≤ 11 by omega) (show 0 ≤ f145_12__9_a1_toInt_217_toNat.toInt by omega) (show f145_12__9_a1_toInt_217_toNat.toInt ≤ 9 by omega) (show 0 ≤ f145_12__9_a1_toInt_218_toNat.toInt by omega) (show f145_12__9_a1_toInt_218_toNat.toInt ≤ 3 by omega)  hw hT hF c97 c98 (lv_sub hl [1, 2, 3, 4, 5, 6, 7, 8, 9, 10, 0] rfl)
      · refine lv_if_ne (tgt := 182) hx hb dX12_leads_178 (by decide) (fun _ => ?_) (fun c => absurd c (by decide))
        refine lv_iload_n hx hb dX12_leads_182 rfl (lv_at hl 4 rfl) ?_
        refine lv_aload_n hx hb dX12_leads_183 rfl (lv_at hl 1 rfl) ?_
        refine lv_iload hx hb dX12_leads_184 (lv_at hl 0 rfl) ?_
        refine lv_iconst (v := 2) hx hb dX12_leads_186 (by decide) ?_
        refine tk_Vi hC hK hw hT hA hE hSR kM_at0 (by decide) rfl (k_X12_streetOf_6 l adK adV dC dI cy ad B (by omega) (by omega) qr s1   r99 (show 0 ≤ r99.toInt by omega) (show r99.toInt ≤ 11 by omega) w94 H.size hT ) (cwV 2 hC.2.2.2.2 gX12_leads_X12_streetOf rfl rfl rfl (by decide +kernel) ⟨Nat.le_of_ble_eq_true rfl, Nat.le_of_ble_eq_true rfl⟩) rfl hl.1 rfl (Nat.le_of_ble_eq_true rfl) dX12_leads_187 (fun r119 w121 H locs hp120 hw => ?_)
        obtain ⟨rfl, hg126⟩ := hp120
        obtain ⟨g123, g124, c125⟩ := hg126
        refine lv_iadd hx hb dX12_leads_190 ?_
        refine lv_topi (fun x127 ex127 => ?_)
        have ex127 : x127.toInt = a3.toInt + r119.toInt := by rw [ex127]; exact wk_add (show (-2147483648) ≤ a3.toInt + r119.toInt by omega) (show a3.toInt + r119.toInt ≤ 2147483647 by omega)
        refine lv_istore (lv' := [(11, .int x127), (10, .int r99), (0, .ref (ad 0)), (1, .int a1), (2, .int a2), (3, .int a3), (4, .int a4), (5, .int 0), (6, .int a6), (7, .int v145_7), (8, .int v145_8), (9, .int v145_9)]) hx hb dX12_leads_191 hl (by decide) rfl (fun ls hl => ?_)
        refine lv_iload hx hb dX12_leads_193 (lv_at hl 0 rfl) ?_
        refine lv_iload hx hb dX12_leads_195 (lv_at hl 8 rfl) ?_
        refine lv_icmp_gt (tgt := 241) hx hb dX12_leads_197 (by decide) (fun c128 => ?_) (fun c128 => ?_)
        · have c128 : a6.toInt < x127.toInt := wk_lt.mp c128
          exact J241 v145_7 v145_8 v145_9 r99 x127 f145_12__9_a1_toInt_217_toNat f145_12__9_a1_toInt_218_toNat x105 H locs ls w94 (show 0 ≤ a1.toInt by omega) (show a1.toInt ≤ 3 by omega) (show 0 ≤ a2.toInt by omega) (show a2.toInt ≤ 1073741824 by omega) (show 0 ≤ a3.toInt by omega) (show a3.toInt ≤ 120 by omega) (show 0 ≤ a4.toInt by omega) (show a4.toInt ≤ 9 by omega) (show 0 ≤ a6.toInt by omega) (show a6.toInt ≤ 120 by omega) (show 0 ≤ v145_8.toInt by omega) (show v145_8.toInt ≤ 1073741944 by omega) (show 0 ≤ v145_9.toInt by omega) (show v145_9.toInt ≤ 1 by omega) (show 0 ≤ r99.toInt by omega) (show r99.toInt ≤ 11 by omega) (show 0 ≤ x127.toInt by omega) (show x127.toInt ≤ 129 by omega) (show 0 ≤ f145_12__9_a1_toInt_217_toNat.toInt by omega) (show f145_12__9_a1_toInt_217_toNat.toInt ≤ 9 by omega) (show 0 ≤ f145_12__9_a1_toInt_218_toNat.toInt by omega) (show f145_12__9_a1_toInt_218_toNat.toInt ≤ 3 by omega) (show 1 ≤ x105.toInt by omega) (show x105.toInt ≤ 12 by omega)  hw hT hF c97 c98 c106 (lv_sub hl [2, 3, 4, 5, 6, 7, 8, 9, 10, 11, 1, 0] rfl)
        · have c128 : x127.toInt ≤ a6.toInt := wk_ltF c128
          refine lv_aload_n hx hb dX12_leads_200 rfl (lv_at hl 2 rfl) ?_
          refine lv_iload hx hb dX12_leads_201 (lv_at hl 0 rfl) ?_
          refine lv_aload_n hx hb dX12_leads_203 rfl (lv_at hl 2 rfl) ?_
          refine lv_iload hx hb dX12_leads_204 (lv_at hl 1 rfl) ?_
          refine lv_iload hx hb dX12_leads_206 (lv_at hl 6 rfl) ?_
          refine tk_Vi hC hK hw hT hA hE hSR kM_at0 (by decide) rfl (k_X12_otherOf_1 l adK adV dC dI cy ad B (by omega) (by omega) qr s1   r99 (show 0 ≤ r99.toInt by omega) (show r99.toInt ≤ 11 by omega) a4 (show 0 ≤ a4.toInt by omega) (show a4.toInt ≤ 9 by omega) w94 H.size hT ) (cwV 2 hC.2.2.2.2 gX12_leads_X12_otherOf rfl rfl rfl (by decide +kernel) ⟨Nat.le_of_ble_eq_true rfl, Nat.le_of_ble_eq_true rfl⟩) rfl hl.1 rfl (Nat.le_of_ble_eq_true rfl) dX12_leads_208 (fun r129 w131 H locs hp130 hw => ?_)
          obtain ⟨rfl, hg138⟩ := hp130
          rcases hg138 with ⟨g133, g134⟩ | ⟨g135, g136, c137⟩
          · refine lv_iload hx hb dX12_leads_211 (lv_at hl 7 rfl) ?_
            refine lv_if_eq (tgt := 235) hx hb dX12_leads_213 (by decide) (fun _ => ?_) (fun c => absurd (by decide) c)
            refine lv_iconst (v := 0) hx hb dX12_leads_235 (by decide) ?_
            refine lv_iload hx hb dX12_leads_236 (lv_at hl 9 rfl) ?_
            refine tk_Vv hC hK hw hT hA hE hSR kM_at0 (by decide) rfl (k_X12_could_1 l adK adV dC dI cy ad B (by omega) (by omega) qr s1   x127 (show 0 ≤ x127.toInt by omega) (show x127.toInt ≤ 120 by omega) r129 (show 0 ≤ r129.toInt by omega) (show r129.toInt ≤ 9 by omega) v145_7 w94 H.size hT ) (cwV 4 hC.2.2.2.2 gX12_leads_X12_could rfl rfl rfl (by decide +kernel) ⟨Nat.le_of_ble_eq_true rfl, Nat.le_of_ble_eq_true rfl⟩) rfl hl.1 rfl (Nat.le_of_ble_eq_true rfl) dX12_leads_238 (fun w141 H locs hp140 hw => ?_)
            obtain ⟨hT, k142, hg143⟩ := hp140
            have hF := hF.tr k142 (by decide)
            have c144 := k142.gi kM_at12 rfl c97
            have c145 := k142.gi kM_at12 rfl c98
            have c146 := k142.gi kM_at12 (by decide) c106
            have c147 := k142.gi kM_at12 rfl c125
            clear hg143
            exact J241 v145_7 v145_8 v145_9 r99 x127 f145_12__9_a1_toInt_217_toNat f145_12__9_a1_toInt_218_toNat x105 H locs ls w141 (show 0 ≤ a1.toInt by omega) (show a1.toInt ≤ 3 by omega) (show 0 ≤ a2.toInt by omega) (show a2.toInt ≤ 1073741824 by omega) (show 0 ≤ a3.toInt by omega) (show a3.toInt ≤ 120 by omega) (show 0 ≤ a4.toInt by omega) (show a4.toInt ≤ 9 by omega) (show 0 ≤ a6.toInt by omega) (show a6.toInt ≤ 120 by omega) (show 0 ≤ v145_8.toInt by omega) (show v145_8.toInt ≤ 1073741944 by omega) (show 0 ≤ v145_9.toInt by omega) (show v145_9.toInt ≤ 1 by omega) (show 0 ≤ r99.toInt by omega) (show r99.toInt ≤ 11 by omega) (show 0 ≤ x127.toInt by omega) (show x127.toInt ≤ 129 by omega) (show 0 ≤ f145_12__9_a1_toInt_217_toNat.toInt by omega) (show f145_12__9_a1_toInt_217_toNat.toInt ≤ 9 by omega) (show 0 ≤ f145_12__9_a1_toInt_218_toNat.toInt by omega) (show f145_12__9_a1_toInt_218_toNat.toInt ≤ 3 by omega) (show 1 ≤ x105.toInt by omega) (show x105.toInt ≤ 12 by omega)  hw hT hF c144 c145 c146 (lv_sub hl [2, 3, 4, 5, 6, 7, 8, 9, 10, 11, 1, 0] rfl)
          · refine lv_iload hx hb dX12_leads_211 (lv_at hl 7 rfl) ?_
            refine lv_if_eq (tgt := 235) hx hb dX12_leads_213 (by decide) (fun _ => ?_) (fun c => absurd (by decide) c)
            refine lv_iconst (v := 0) hx hb dX12_leads_235 (by decide) ?_
            refine lv_iload hx hb dX12_leads_236 (lv_at hl 9 rfl) ?_
            refine tk_Vv hC hK hw hT hA hE hSR kM_at0 (by decide) rfl (k_X12_could_1 l adK adV dC dI cy ad B (by omega) (by omega) qr s1   x127 (show 0 ≤ x127.toInt by omega) (show x127.toInt ≤ 120 by omega) r129 (show 0 ≤ r129.toInt by omega) (show r129.toInt ≤ 9 by omega) v145_7 w94 H.size hT ) (cwV 4 hC.2.2.2.2 gX12_leads_X12_could rfl rfl rfl (by decide +kernel) ⟨Nat.le_of_ble_eq_true rfl, Nat.le_of_ble_eq_true rfl⟩) rfl hl.1 rfl (Nat.le_of_ble_eq_true rfl) dX12_leads_238 (fun w150 H locs hp149 hw => ?_)
            obtain ⟨hT, k151, hg152⟩ := hp149
            have hF := hF.tr k151 (by decide)
            have c153 := k151.gi kM_at12 rfl c97
            have c154 := k151.gi kM_at12 rfl c98
            have c155 := k151.gi kM_at12 (by decide) c106
            have c156 := k151.gi kM_at12 rfl c125
            have c157 := k151.gi kM_at12 rfl c137
            clear hg152
            exact J241 v145_7 v145_8 v145_9 r99 x127 f145_12__9_a1_toInt_217_toNat f145_12__9_a1_toInt_218_toNat x105 H locs ls w150 (show 0 ≤ a1.toInt by omega) (show a1.toInt ≤ 3 by omega) (show 0 ≤ a2.toInt by omega) (show a2.toInt ≤ 1073741824 by omega) (show 0 ≤ a3.toInt by omega) (show a3.toInt ≤ 120 by omega) (show 0 ≤ a4.toInt by omega) (show a4.toInt ≤ 9 by omega) (show 0 ≤ a6.toInt by omega) (show a6.toInt ≤ 120 by omega) (show 0 ≤ v145_8.toInt by omega) (show v145_8.toInt ≤ 1073741944 by omega) (show 0 ≤ v145_9.toInt by omega) (show v145_9.toInt ≤ 1 by omega) (show 0 ≤ r99.toInt by omega) (show r99.toInt ≤ 11 by omega) (show 0 ≤ x127.toInt by omega) (show x127.toInt ≤ 129 by omega) (show 0 ≤ f145_12__9_a1_toInt_217_toNat.toInt by omega) (show f145_12__9_a1_toInt_217_toNat.toInt ≤ 9 by omega) (show 0 ≤ f145_12__9_a1_toInt_218_toNat.toInt by omega) (show f145_12__9_a1_toInt_218_toNat.toInt ≤ 3 by omega) (show 1 ≤ x105.toInt by omega) (show x105.toInt ≤ 12 by omega)  hw hT hF c153 c154 c155 (lv_sub hl [2, 3, 4, 5, 6, 7, 8, 9, 10, 11, 1, 0] rfl)
      · refine lv_if_ne (tgt := 182) hx hb dX12_leads_178 (by decide) (fun _ => ?_) (fun c => absurd c (by decide))
        refine lv_iload_n hx hb dX12_leads_182 rfl (lv_at hl 4 rfl) ?_
        refine lv_aload_n hx hb dX12_leads_183 rfl (lv_at hl 1 rfl) ?_
        refine lv_iload hx hb dX12_leads_184 (lv_at hl 0 rfl) ?_
        refine lv_iconst (v := 2) hx hb dX12_leads_186 (by decide) ?_
        refine tk_Vi hC hK hw hT hA hE hSR kM_at0 (by decide) rfl (k_X12_streetOf_6 l adK adV dC dI cy ad B (by omega) (by omega) qr s1   r99 (show 0 ≤ r99.toInt by omega) (show r99.toInt ≤ 11 by omega) w94 H.size hT ) (cwV 2 hC.2.2.2.2 gX12_leads_X12_streetOf rfl rfl rfl (by decide +kernel) ⟨Nat.le_of_ble_eq_true rfl, Nat.le_of_ble_eq_true rfl⟩) rfl hl.1 rfl (Nat.le_of_ble_eq_true rfl) dX12_leads_187 (fun r158 w160 H locs hp159 hw => ?_)
        obtain ⟨rfl, hg165⟩ := hp159
        obtain ⟨g162, g163, c164⟩ := hg165
        refine lv_iadd hx hb dX12_leads_190 ?_
        refine lv_topi (fun x166 ex166 => ?_)
        have ex166 : x166.toInt = a3.toInt + r158.toInt := by rw [ex166]; exact wk_add (show (-2147483648) ≤ a3.toInt + r158.toInt by omega) (show a3.toInt + r158.toInt ≤ 2147483647 by omega)
        refine lv_istore (lv' := [(11, .int x166), (10, .int r99), (0, .ref (ad 0)), (1, .int a1), (2, .int a2), (3, .int a3), (4, .int a4), (5, .int 0), (6, .int a6), (7, .int v145_7), (8, .int v145_8), (9, .int v145_9)]) hx hb dX12_leads_191 hl (by decide) rfl (fun ls hl => ?_)
        refine lv_iload hx hb dX12_leads_193 (lv_at hl 0 rfl) ?_
        refine lv_iload hx hb dX12_leads_195 (lv_at hl 8 rfl) ?_
        refine lv_icmp_gt (tgt := 241) hx hb dX12_leads_197 (by decide) (fun c167 => ?_) (fun c167 => ?_)
        · have c167 : a6.toInt < x166.toInt := wk_lt.mp c167
          exact J241 v145_7 v145_8 v145_9 r99 x166 f145_12__9_a1_toInt_217_toNat f145_12__9_a1_toInt_218_toNat x105 H locs ls w94 (show 0 ≤ a1.toInt by omega) (show a1.toInt ≤ 3 by omega) (show 0 ≤ a2.toInt by omega) (show a2.toInt ≤ 1073741824 by omega) (show 0 ≤ a3.toInt by omega) (show a3.toInt ≤ 120 by omega) (show 0 ≤ a4.toInt by omega) (show a4.toInt ≤ 9 by omega) (show 0 ≤ a6.toInt by omega) (show a6.toInt ≤ 120 by omega) (show 0 ≤ v145_8.toInt by omega) (show v145_8.toInt ≤ 1073741944 by omega) (show 0 ≤ v145_9.toInt by omega) (show v145_9.toInt ≤ 1 by omega) (show 0 ≤ r99.toInt by omega) (show r99.toInt ≤ 11 by omega) (show 0 ≤ x166.toInt by omega) (show x166.toInt ≤ 129 by omega) (show 0 ≤ f145_12__9_a1_toInt_217_toNat.toInt by omega) (show f145_12__9_a1_toInt_217_toNat.toInt ≤ 9 by omega) (show 0 ≤ f145_12__9_a1_toInt_218_toNat.toInt by omega) (show f145_12__9_a1_toInt_218_toNat.toInt ≤ 3 by omega) (show 1 ≤ x105.toInt by omega) (show x105.toInt ≤ 12 by omega)  hw hT hF c97 c98 c106 (lv_sub hl [2, 3, 4, 5, 6, 7, 8, 9, 10, 11, 1, 0] rfl)
        · have c167 : x166.toInt ≤ a6.toInt := wk_ltF c167
          refine lv_aload_n hx hb dX12_leads_200 rfl (lv_at hl 2 rfl) ?_
          refine lv_iload hx hb dX12_leads_201 (lv_at hl 0 rfl) ?_
          refine lv_aload_n hx hb dX12_leads_203 rfl (lv_at hl 2 rfl) ?_
          refine lv_iload hx hb dX12_leads_204 (lv_at hl 1 rfl) ?_
          refine lv_iload hx hb dX12_leads_206 (lv_at hl 6 rfl) ?_
          refine tk_Vi hC hK hw hT hA hE hSR kM_at0 (by decide) rfl (k_X12_otherOf_1 l adK adV dC dI cy ad B (by omega) (by omega) qr s1   r99 (show 0 ≤ r99.toInt by omega) (show r99.toInt ≤ 11 by omega) a4 (show 0 ≤ a4.toInt by omega) (show a4.toInt ≤ 9 by omega) w94 H.size hT ) (cwV 2 hC.2.2.2.2 gX12_leads_X12_otherOf rfl rfl rfl (by decide +kernel) ⟨Nat.le_of_ble_eq_true rfl, Nat.le_of_ble_eq_true rfl⟩) rfl hl.1 rfl (Nat.le_of_ble_eq_true rfl) dX12_leads_208 (fun r168 w170 H locs hp169 hw => ?_)
          obtain ⟨rfl, hg177⟩ := hp169
          rcases hg177 with ⟨g172, g173⟩ | ⟨g174, g175, c176⟩
          · refine lv_iload hx hb dX12_leads_211 (lv_at hl 7 rfl) ?_
            refine lv_if_eq (tgt := 235) hx hb dX12_leads_213 (by decide) (fun _ => ?_) (fun c => absurd (by decide) c)
            refine lv_iconst (v := 0) hx hb dX12_leads_235 (by decide) ?_
            refine lv_iload hx hb dX12_leads_236 (lv_at hl 9 rfl) ?_
            refine tk_Vv hC hK hw hT hA hE hSR kM_at0 (by decide) rfl (k_X12_could_1 l adK adV dC dI cy ad B (by omega) (by omega) qr s1   x166 (show 0 ≤ x166.toInt by omega) (show x166.toInt ≤ 120 by omega) r168 (show 0 ≤ r168.toInt by omega) (show r168.toInt ≤ 9 by omega) v145_7 w94 H.size hT ) (cwV 4 hC.2.2.2.2 gX12_leads_X12_could rfl rfl rfl (by decide +kernel) ⟨Nat.le_of_ble_eq_true rfl, Nat.le_of_ble_eq_true rfl⟩) rfl hl.1 rfl (Nat.le_of_ble_eq_true rfl) dX12_leads_238 (fun w180 H locs hp179 hw => ?_)
            obtain ⟨hT, k181, hg182⟩ := hp179
            have hF := hF.tr k181 (by decide)
            have c183 := k181.gi kM_at12 rfl c97
            have c184 := k181.gi kM_at12 rfl c98
            have c185 := k181.gi kM_at12 (by decide) c106
            have c186 := k181.gi kM_at12 rfl c117
            have c187 := k181.gi kM_at12 rfl c164
            clear hg182
            exact J241 v145_7 v145_8 v145_9 r99 x166 f145_12__9_a1_toInt_217_toNat f145_12__9_a1_toInt_218_toNat x105 H locs ls w180 (show 0 ≤ a1.toInt by omega) (show a1.toInt ≤ 3 by omega) (show 0 ≤ a2.toInt by omega) (show a2.toInt ≤ 1073741824 by omega) (show 0 ≤ a3.toInt by omega) (show a3.toInt ≤ 120 by omega) (show 0 ≤ a4.toInt by omega) (show a4.toInt ≤ 9 by omega) (show 0 ≤ a6.toInt by omega) (show a6.toInt ≤ 120 by omega) (show 0 ≤ v145_8.toInt by omega) (show v145_8.toInt ≤ 1073741944 by omega) (show 0 ≤ v145_9.toInt by omega) (show v145_9.toInt ≤ 1 by omega) (show 0 ≤ r99.toInt by omega) (show r99.toInt ≤ 11 by omega) (show 0 ≤ x166.toInt by omega) (show x166.toInt ≤ 129 by omega) (show 0 ≤ f145_12__9_a1_toInt_217_toNat.toInt by omega) (show f145_12__9_a1_toInt_217_toNat.toInt ≤ 9 by omega) (show 0 ≤ f145_12__9_a1_toInt_218_toNat.toInt by omega) (show f145_12__9_a1_toInt_218_toNat.toInt ≤ 3 by omega) (show 1 ≤ x105.toInt by omega) (show x105.toInt ≤ 12 by omega)  hw hT hF c183 c184 c185 (lv_sub hl [2, 3, 4, 5, 6, 7, 8, 9, 10, 11, 1, 0] rfl)
          · refine lv_iload hx hb dX12_leads_211 (lv_at hl 7 rfl) ?_
            refine lv_if_eq (tgt := 235) hx hb dX12_leads_213 (by decide) (fun _ => ?_) (fun c => absurd (by decide) c)
            refine lv_iconst (v := 0) hx hb dX12_leads_235 (by decide) ?_
            refine lv_iload hx hb dX12_leads_236 (lv_at hl 9 rfl) ?_
            refine tk_Vv hC hK hw hT hA hE hSR kM_at0 (by decide) rfl (k_X12_could_1 l adK adV dC dI cy ad B (by omega) (by omega) qr s1   x166 (show 0 ≤ x166.toInt by omega) (show x166.toInt ≤ 120 by omega) r168 (show 0 ≤ r168.toInt by omega) (show r168.toInt ≤ 9 by omega) v145_7 w94 H.size hT ) (cwV 4 hC.2.2.2.2 gX12_leads_X12_could rfl rfl rfl (by decide +kernel) ⟨Nat.le_of_ble_eq_true rfl, Nat.le_of_ble_eq_true rfl⟩) rfl hl.1 rfl (Nat.le_of_ble_eq_true rfl) dX12_leads_238 (fun w190 H locs hp189 hw => ?_)
            obtain ⟨hT, k191, hg192⟩ := hp189
            have hF := hF.tr k191 (by decide)
            have c193 := k191.gi kM_at12 rfl c97
            have c194 := k191.gi kM_at12 rfl c98
            have c195 := k191.gi kM_at12 (by decide) c106
            have c196 := k191.gi kM_at12 rfl c117
            have c197 := k191.gi kM_at12 rfl c164
            clear hg192
            exact J241 v145_7 v145_8 v145_9 r99 x166 f145_12__9_a1_toInt_217_toNat f145_12__9_a1_toInt_218_toNat x105 H locs ls w190 (show 0 ≤ a1.toInt by omega) (show a1.toInt ≤ 3 by omega) (show 0 ≤ a2.toInt by omega) (show a2.toInt ≤ 1073741824 by omega) (show 0 ≤ a3.toInt by omega) (show a3.toInt ≤ 120 by omega) (show 0 ≤ a4.toInt by omega) (show a4.toInt ≤ 9 by omega) (show 0 ≤ a6.toInt by omega) (show a6.toInt ≤ 120 by omega) (show 0 ≤ v145_8.toInt by omega) (show v145_8.toInt ≤ 1073741944 by omega) (show 0 ≤ v145_9.toInt by omega) (show v145_9.toInt ≤ 1 by omega) (show 0 ≤ r99.toInt by omega) (show r99.toInt ≤ 11 by omega) (show 0 ≤ x166.toInt by omega) (show x166.toInt ≤ 129 by omega) (show 0 ≤ f145_12__9_a1_toInt_217_toNat.toInt by omega) (show f145_12__9_a1_toInt_217_toNat.toInt ≤ 9 by omega) (show 0 ≤ f145_12__9_a1_toInt_218_toNat.toInt by omega) (show f145_12__9_a1_toInt_218_toNat.toInt ≤ 3 by omega) (show 1 ≤ x105.toInt by omega) (show x105.toInt ≤ 12 by omega)  hw hT hF c193 c194 c195 (lv_sub hl [2, 3, 4, 5, 6, 7, 8, 9, 10, 11, 1, 0] rfl)
    · refine lv_istore (lv' := [(10, .int r99), (0, .ref (ad 0)), (1, .int a1), (2, .int a2), (3, .int a3), (4, .int a4), (5, .int 0), (6, .int a6), (7, .int v145_7), (8, .int v145_8), (9, .int v145_9)]) hx hb dX12_leads_161 hl (by decide) rfl (fun ls hl => ?_)
      refine lv_iload hx hb dX12_leads_163 (lv_at hl 0 rfl) ?_
      refine lv_if_lt (tgt := 181) hx hb dX12_leads_165 (by decide) (fun c => absurd c (fun h => absurd (show r99.toInt < (0 : Int) from wk_lt.mp h) (by omega))) (fun _ => ?_)
      refine lv_aload_n hx hb dX12_leads_168 rfl (lv_at hl 1 rfl) ?_
      refine lv_iload hx hb dX12_leads_169 (lv_at hl 0 rfl) ?_
      refine lv_iload hx hb dX12_leads_171 (lv_at hl 5 rfl) ?_
      refine lv_iload hx hb dX12_leads_173 (lv_at hl 9 rfl) ?_
      refine tk_Vi hC hK hw hT hA hE hSR kM_at0 (by decide) rfl (k_X12_isOpen_2 l adK adV dC dI cy ad B (by omega) (by omega) qr s1   r99 (show 0 ≤ r99.toInt by omega) (show r99.toInt ≤ 11 by omega) a4 (show 0 ≤ a4.toInt by omega) (show a4.toInt ≤ 9 by omega) v145_8 (show 0 ≤ v145_8.toInt by omega) (show v145_8.toInt ≤ 1073741944 by omega) w94 H.size hT ) (cwV 3 hC.2.2.2.2 gX12_leads_X12_isOpen rfl rfl rfl (by decide +kernel) ⟨Nat.le_of_ble_eq_true rfl, Nat.le_of_ble_eq_true rfl⟩) rfl hl.1 rfl (Nat.le_of_ble_eq_true rfl) dX12_leads_175 (fun r198 w200 H locs hp199 hw => ?_)
      obtain ⟨rfl, hg203⟩ := hp199
      rcases hg203 with rfl | rfl | ⟨rfl, c202⟩
      · refine lv_if_ne (tgt := 182) hx hb dX12_leads_178 (by decide) (fun c => absurd (by decide) c) (fun _ => ?_)
        exact J181 v145_7 v145_8 v145_9 r99 f145_12__9_a1_toInt_217_toNat f145_12__9_a1_toInt_218_toNat H locs ls w94 (show 0 ≤ a1.toInt by omega) (show a1.toInt ≤ 3 by omega) (show 0 ≤ a2.toInt by omega) (show a2.toInt ≤ 1073741824 by omega) (show 0 ≤ a3.toInt by omega) (show a3.toInt ≤ 120 by omega) (show 0 ≤ a4.toInt by omega) (show a4.toInt ≤ 9 by omega) (show 0 ≤ a6.toInt by omega) (show a6.toInt ≤ 120 by omega) (show 0 ≤ v145_8.toInt by omega) (show v145_8.toInt ≤ 1073741944 by omega) (show 0 ≤ v145_9.toInt by omega) (show v145_9.toInt ≤ 1 by omega) (show (-1) ≤ r99.toInt by omega) (show r99.toInt ≤ 11 by omega) (show 0 ≤ f145_12__9_a1_toInt_217_toNat.toInt by omega) (show f145_12__9_a1_toInt_217_toNat.toInt ≤ 9 by omega) (show 0 ≤ f145_12__9_a1_toInt_218_toNat.toInt by omega) (show f145_12__9_a1_toInt_218_toNat.toInt ≤ 3 by omega)  hw hT hF c97 c98 (lv_sub hl [1, 2, 3, 4, 5, 6, 7, 8, 9, 10, 0] rfl)
      · refine lv_if_ne (tgt := 182) hx hb dX12_leads_178 (by decide) (fun _ => ?_) (fun c => absurd c (by decide))
        refine lv_iload_n hx hb dX12_leads_182 rfl (lv_at hl 4 rfl) ?_
        refine lv_aload_n hx hb dX12_leads_183 rfl (lv_at hl 1 rfl) ?_
        refine lv_iload hx hb dX12_leads_184 (lv_at hl 0 rfl) ?_
        refine lv_iconst (v := 2) hx hb dX12_leads_186 (by decide) ?_
        refine tk_Vi hC hK hw hT hA hE hSR kM_at0 (by decide) rfl (k_X12_streetOf_6 l adK adV dC dI cy ad B (by omega) (by omega) qr s1   r99 (show 0 ≤ r99.toInt by omega) (show r99.toInt ≤ 11 by omega) w94 H.size hT ) (cwV 2 hC.2.2.2.2 gX12_leads_X12_streetOf rfl rfl rfl (by decide +kernel) ⟨Nat.le_of_ble_eq_true rfl, Nat.le_of_ble_eq_true rfl⟩) rfl hl.1 rfl (Nat.le_of_ble_eq_true rfl) dX12_leads_187 (fun r204 w206 H locs hp205 hw => ?_)
        obtain ⟨rfl, hg211⟩ := hp205
        obtain ⟨g208, g209, c210⟩ := hg211
        refine lv_iadd hx hb dX12_leads_190 ?_
        refine lv_topi (fun x212 ex212 => ?_)
        have ex212 : x212.toInt = a3.toInt + r204.toInt := by rw [ex212]; exact wk_add (show (-2147483648) ≤ a3.toInt + r204.toInt by omega) (show a3.toInt + r204.toInt ≤ 2147483647 by omega)
        refine lv_istore (lv' := [(11, .int x212), (10, .int r99), (0, .ref (ad 0)), (1, .int a1), (2, .int a2), (3, .int a3), (4, .int a4), (5, .int 0), (6, .int a6), (7, .int v145_7), (8, .int v145_8), (9, .int v145_9)]) hx hb dX12_leads_191 hl (by decide) rfl (fun ls hl => ?_)
        refine lv_iload hx hb dX12_leads_193 (lv_at hl 0 rfl) ?_
        refine lv_iload hx hb dX12_leads_195 (lv_at hl 8 rfl) ?_
        refine lv_icmp_gt (tgt := 241) hx hb dX12_leads_197 (by decide) (fun c213 => ?_) (fun c213 => ?_)
        · have c213 : a6.toInt < x212.toInt := wk_lt.mp c213
          exact J241 v145_7 v145_8 v145_9 r99 x212 f145_12__9_a1_toInt_217_toNat f145_12__9_a1_toInt_218_toNat x109 H locs ls w94 (show 0 ≤ a1.toInt by omega) (show a1.toInt ≤ 3 by omega) (show 0 ≤ a2.toInt by omega) (show a2.toInt ≤ 1073741824 by omega) (show 0 ≤ a3.toInt by omega) (show a3.toInt ≤ 120 by omega) (show 0 ≤ a4.toInt by omega) (show a4.toInt ≤ 9 by omega) (show 0 ≤ a6.toInt by omega) (show a6.toInt ≤ 120 by omega) (show 0 ≤ v145_8.toInt by omega) (show v145_8.toInt ≤ 1073741944 by omega) (show 0 ≤ v145_9.toInt by omega) (show v145_9.toInt ≤ 1 by omega) (show 0 ≤ r99.toInt by omega) (show r99.toInt ≤ 11 by omega) (show 0 ≤ x212.toInt by omega) (show x212.toInt ≤ 129 by omega) (show 0 ≤ f145_12__9_a1_toInt_217_toNat.toInt by omega) (show f145_12__9_a1_toInt_217_toNat.toInt ≤ 9 by omega) (show 0 ≤ f145_12__9_a1_toInt_218_toNat.toInt by omega) (show f145_12__9_a1_toInt_218_toNat.toInt ≤ 3 by omega) (show 1 ≤ x109.toInt by omega) (show x109.toInt ≤ 12 by omega)  hw hT hF c97 c98 c110 (lv_sub hl [2, 3, 4, 5, 6, 7, 8, 9, 10, 11, 1, 0] rfl)
        · have c213 : x212.toInt ≤ a6.toInt := wk_ltF c213
          refine lv_aload_n hx hb dX12_leads_200 rfl (lv_at hl 2 rfl) ?_
          refine lv_iload hx hb dX12_leads_201 (lv_at hl 0 rfl) ?_
          refine lv_aload_n hx hb dX12_leads_203 rfl (lv_at hl 2 rfl) ?_
          refine lv_iload hx hb dX12_leads_204 (lv_at hl 1 rfl) ?_
          refine lv_iload hx hb dX12_leads_206 (lv_at hl 6 rfl) ?_
          refine tk_Vi hC hK hw hT hA hE hSR kM_at0 (by decide) rfl (k_X12_otherOf_1 l adK adV dC dI cy ad B (by omega) (by omega) qr s1   r99 (show 0 ≤ r99.toInt by omega) (show r99.toInt ≤ 11 by omega) a4 (show 0 ≤ a4.toInt by omega) (show a4.toInt ≤ 9 by omega) w94 H.size hT ) (cwV 2 hC.2.2.2.2 gX12_leads_X12_otherOf rfl rfl rfl (by decide +kernel) ⟨Nat.le_of_ble_eq_true rfl, Nat.le_of_ble_eq_true rfl⟩) rfl hl.1 rfl (Nat.le_of_ble_eq_true rfl) dX12_leads_208 (fun r214 w216 H locs hp215 hw => ?_)
          obtain ⟨rfl, hg223⟩ := hp215
          rcases hg223 with ⟨g218, g219⟩ | ⟨g220, g221, c222⟩
          · refine lv_iload hx hb dX12_leads_211 (lv_at hl 7 rfl) ?_
            refine lv_if_eq (tgt := 235) hx hb dX12_leads_213 (by decide) (fun _ => ?_) (fun c => absurd (by decide) c)
            refine lv_iconst (v := 0) hx hb dX12_leads_235 (by decide) ?_
            refine lv_iload hx hb dX12_leads_236 (lv_at hl 9 rfl) ?_
            refine tk_Vv hC hK hw hT hA hE hSR kM_at0 (by decide) rfl (k_X12_could_1 l adK adV dC dI cy ad B (by omega) (by omega) qr s1   x212 (show 0 ≤ x212.toInt by omega) (show x212.toInt ≤ 120 by omega) r214 (show 0 ≤ r214.toInt by omega) (show r214.toInt ≤ 9 by omega) v145_7 w94 H.size hT ) (cwV 4 hC.2.2.2.2 gX12_leads_X12_could rfl rfl rfl (by decide +kernel) ⟨Nat.le_of_ble_eq_true rfl, Nat.le_of_ble_eq_true rfl⟩) rfl hl.1 rfl (Nat.le_of_ble_eq_true rfl) dX12_leads_238 (fun w226 H locs hp225 hw => ?_)
            obtain ⟨hT, k227, hg228⟩ := hp225
            have hF := hF.tr k227 (by decide)
            have c229 := k227.gi kM_at12 rfl c97
            have c230 := k227.gi kM_at12 rfl c98
            have c231 := k227.gi kM_at12 (by decide) c110
            have c232 := k227.gi kM_at12 rfl c111
            have c233 := k227.gi kM_at12 rfl c210
            clear hg228
            exact J241 v145_7 v145_8 v145_9 r99 x212 f145_12__9_a1_toInt_217_toNat f145_12__9_a1_toInt_218_toNat x109 H locs ls w226 (show 0 ≤ a1.toInt by omega) (show a1.toInt ≤ 3 by omega) (show 0 ≤ a2.toInt by omega) (show a2.toInt ≤ 1073741824 by omega) (show 0 ≤ a3.toInt by omega) (show a3.toInt ≤ 120 by omega) (show 0 ≤ a4.toInt by omega) (show a4.toInt ≤ 9 by omega) (show 0 ≤ a6.toInt by omega) (show a6.toInt ≤ 120 by omega) (show 0 ≤ v145_8.toInt by omega) (show v145_8.toInt ≤ 1073741944 by omega) (show 0 ≤ v145_9.toInt by omega) (show v145_9.toInt ≤ 1 by omega) (show 0 ≤ r99.toInt by omega) (show r99.toInt ≤ 11 by omega) (show 0 ≤ x212.toInt by omega) (show x212.toInt ≤ 129 by omega) (show 0 ≤ f145_12__9_a1_toInt_217_toNat.toInt by omega) (show f145_12__9_a1_toInt_217_toNat.toInt ≤ 9 by omega) (show 0 ≤ f145_12__9_a1_toInt_218_toNat.toInt by omega) (show f145_12__9_a1_toInt_218_toNat.toInt ≤ 3 by omega) (show 1 ≤ x109.toInt by omega) (show x109.toInt ≤ 12 by omega)  hw hT hF c229 c230 c231 (lv_sub hl [2, 3, 4, 5, 6, 7, 8, 9, 10, 11, 1, 0] rfl)
          · refine lv_iload hx hb dX12_leads_211 (lv_at hl 7 rfl) ?_
            refine lv_if_eq (tgt := 235) hx hb dX12_leads_213 (by decide) (fun _ => ?_) (fun c => absurd (by decide) c)
            refine lv_iconst (v := 0) hx hb dX12_leads_235 (by decide) ?_
            refine lv_iload hx hb dX12_leads_236 (lv_at hl 9 rfl) ?_
            refine tk_Vv hC hK hw hT hA hE hSR kM_at0 (by decide) rfl (k_X12_could_1 l adK adV dC dI cy ad B (by omega) (by omega) qr s1   x212 (show 0 ≤ x212.toInt by omega) (show x212.toInt ≤ 120 by omega) r214 (show 0 ≤ r214.toInt by omega) (show r214.toInt ≤ 9 by omega) v145_7 w94 H.size hT ) (cwV 4 hC.2.2.2.2 gX12_leads_X12_could rfl rfl rfl (by decide +kernel) ⟨Nat.le_of_ble_eq_true rfl, Nat.le_of_ble_eq_true rfl⟩) rfl hl.1 rfl (Nat.le_of_ble_eq_true rfl) dX12_leads_238 (fun w236 H locs hp235 hw => ?_)
            obtain ⟨hT, k237, hg238⟩ := hp235
            have hF := hF.tr k237 (by decide)
            have c239 := k237.gi kM_at12 rfl c97
            have c240 := k237.gi kM_at12 rfl c98
            have c241 := k237.gi kM_at12 (by decide) c110
            have c242 := k237.gi kM_at12 rfl c111
            have c243 := k237.gi kM_at12 rfl c210
            clear hg238
            exact J241 v145_7 v145_8 v145_9 r99 x212 f145_12__9_a1_toInt_217_toNat f145_12__9_a1_toInt_218_toNat x109 H locs ls w236 (show 0 ≤ a1.toInt by omega) (show a1.toInt ≤ 3 by omega) (show 0 ≤ a2.toInt by omega) (show a2.toInt ≤ 1073741824 by omega) (show 0 ≤ a3.toInt by omega) (show a3.toInt ≤ 120 by omega) (show 0 ≤ a4.toInt by omega) (show a4.toInt ≤ 9 by omega) (show 0 ≤ a6.toInt by omega) (show a6.toInt ≤ 120 by omega) (show 0 ≤ v145_8.toInt by omega) (show v145_8.toInt ≤ 1073741944 by omega) (show 0 ≤ v145_9.toInt by omega) (show v145_9.toInt ≤ 1 by omega) (show 0 ≤ r99.toInt by omega) (show r99.toInt ≤ 11 by omega) (show 0 ≤ x212.toInt by omega) (show x212.toInt ≤ 129 by omega) (show 0 ≤ f145_12__9_a1_toInt_217_toNat.toInt by omega) (show f145_12__9_a1_toInt_217_toNat.toInt ≤ 9 by omega) (show 0 ≤ f145_12__9_a1_toInt_218_toNat.toInt by omega) (show f145_12__9_a1_toInt_218_toNat.toInt ≤ 3 by omega) (show 1 ≤ x109.toInt by omega) (show x109.toInt ≤ 12 by omega)  hw hT hF c239 c240 c241 (lv_sub hl [2, 3, 4, 5, 6, 7, 8, 9, 10, 11, 1, 0] rfl)
      · refine lv_if_ne (tgt := 182) hx hb dX12_leads_178 (by decide) (fun _ => ?_) (fun c => absurd c (by decide))
        refine lv_iload_n hx hb dX12_leads_182 rfl (lv_at hl 4 rfl) ?_
        refine lv_aload_n hx hb dX12_leads_183 rfl (lv_at hl 1 rfl) ?_
        refine lv_iload hx hb dX12_leads_184 (lv_at hl 0 rfl) ?_
        refine lv_iconst (v := 2) hx hb dX12_leads_186 (by decide) ?_
        refine tk_Vi hC hK hw hT hA hE hSR kM_at0 (by decide) rfl (k_X12_streetOf_6 l adK adV dC dI cy ad B (by omega) (by omega) qr s1   r99 (show 0 ≤ r99.toInt by omega) (show r99.toInt ≤ 11 by omega) w94 H.size hT ) (cwV 2 hC.2.2.2.2 gX12_leads_X12_streetOf rfl rfl rfl (by decide +kernel) ⟨Nat.le_of_ble_eq_true rfl, Nat.le_of_ble_eq_true rfl⟩) rfl hl.1 rfl (Nat.le_of_ble_eq_true rfl) dX12_leads_187 (fun r244 w246 H locs hp245 hw => ?_)
        obtain ⟨rfl, hg251⟩ := hp245
        obtain ⟨g248, g249, c250⟩ := hg251
        refine lv_iadd hx hb dX12_leads_190 ?_
        refine lv_topi (fun x252 ex252 => ?_)
        have ex252 : x252.toInt = a3.toInt + r244.toInt := by rw [ex252]; exact wk_add (show (-2147483648) ≤ a3.toInt + r244.toInt by omega) (show a3.toInt + r244.toInt ≤ 2147483647 by omega)
        refine lv_istore (lv' := [(11, .int x252), (10, .int r99), (0, .ref (ad 0)), (1, .int a1), (2, .int a2), (3, .int a3), (4, .int a4), (5, .int 0), (6, .int a6), (7, .int v145_7), (8, .int v145_8), (9, .int v145_9)]) hx hb dX12_leads_191 hl (by decide) rfl (fun ls hl => ?_)
        refine lv_iload hx hb dX12_leads_193 (lv_at hl 0 rfl) ?_
        refine lv_iload hx hb dX12_leads_195 (lv_at hl 8 rfl) ?_
        refine lv_icmp_gt (tgt := 241) hx hb dX12_leads_197 (by decide) (fun c253 => ?_) (fun c253 => ?_)
        · have c253 : a6.toInt < x252.toInt := wk_lt.mp c253
          exact J241 v145_7 v145_8 v145_9 r99 x252 f145_12__9_a1_toInt_217_toNat f145_12__9_a1_toInt_218_toNat x109 H locs ls w94 (show 0 ≤ a1.toInt by omega) (show a1.toInt ≤ 3 by omega) (show 0 ≤ a2.toInt by omega) (show a2.toInt ≤ 1073741824 by omega) (show 0 ≤ a3.toInt by omega) (show a3.toInt ≤ 120 by omega) (show 0 ≤ a4.toInt by omega) (show a4.toInt ≤ 9 by omega) (show 0 ≤ a6.toInt by omega) (show a6.toInt ≤ 120 by omega) (show 0 ≤ v145_8.toInt by omega) (show v145_8.toInt ≤ 1073741944 by omega) (show 0 ≤ v145_9.toInt by omega) (show v145_9.toInt ≤ 1 by omega) (show 0 ≤ r99.toInt by omega) (show r99.toInt ≤ 11 by omega) (show 0 ≤ x252.toInt by omega) (show x252.toInt ≤ 129 by omega) (show 0 ≤ f145_12__9_a1_toInt_217_toNat.toInt by omega) (show f145_12__9_a1_toInt_217_toNat.toInt ≤ 9 by omega) (show 0 ≤ f145_12__9_a1_toInt_218_toNat.toInt by omega) (show f145_12__9_a1_toInt_218_toNat.toInt ≤ 3 by omega) (show 1 ≤ x109.toInt by omega) (show x109.toInt ≤ 12 by omega)  hw hT hF c97 c98 c110 (lv_sub hl [2, 3, 4, 5, 6, 7, 8, 9, 10, 11, 1, 0] rfl)
        · have c253 : x252.toInt ≤ a6.toInt := wk_ltF c253
          refine lv_aload_n hx hb dX12_leads_200 rfl (lv_at hl 2 rfl) ?_
          refine lv_iload hx hb dX12_leads_201 (lv_at hl 0 rfl) ?_
          refine lv_aload_n hx hb dX12_leads_203 rfl (lv_at hl 2 rfl) ?_
          refine lv_iload hx hb dX12_leads_204 (lv_at hl 1 rfl) ?_
          refine lv_iload hx hb dX12_leads_206 (lv_at hl 6 rfl) ?_
          refine tk_Vi hC hK hw hT hA hE hSR kM_at0 (by decide) rfl (k_X12_otherOf_1 l adK adV dC dI cy ad B (by omega) (by omega) qr s1   r99 (show 0 ≤ r99.toInt by omega) (show r99.toInt ≤ 11 by omega) a4 (show 0 ≤ a4.toInt by omega) (show a4.toInt ≤ 9 by omega) w94 H.size hT ) (cwV 2 hC.2.2.2.2 gX12_leads_X12_otherOf rfl rfl rfl (by decide +kernel) ⟨Nat.le_of_ble_eq_true rfl, Nat.le_of_ble_eq_true rfl⟩) rfl hl.1 rfl (Nat.le_of_ble_eq_true rfl) dX12_leads_208 (fun r254 w256 H locs hp255 hw => ?_)
          obtain ⟨rfl, hg263⟩ := hp255
          rcases hg263 with ⟨g258, g259⟩ | ⟨g260, g261, c262⟩
          · refine lv_iload hx hb dX12_leads_211 (lv_at hl 7 rfl) ?_
            refine lv_if_eq (tgt := 235) hx hb dX12_leads_213 (by decide) (fun _ => ?_) (fun c => absurd (by decide) c)
            refine lv_iconst (v := 0) hx hb dX12_leads_235 (by decide) ?_
            refine lv_iload hx hb dX12_leads_236 (lv_at hl 9 rfl) ?_
            refine tk_Vv hC hK hw hT hA hE hSR kM_at0 (by decide) rfl (k_X12_could_1 l adK adV dC dI cy ad B (by omega) (by omega) qr s1   x252 (show 0 ≤ x252.toInt by omega) (show x252.toInt ≤ 120 by omega) r254 (show 0 ≤ r254.toInt by omega) (show r254.toInt ≤ 9 by omega) v145_7 w94 H.size hT ) (cwV 4 hC.2.2.2.2 gX12_leads_X12_could rfl rfl rfl (by decide +kernel) ⟨Nat.le_of_ble_eq_true rfl, Nat.le_of_ble_eq_true rfl⟩) rfl hl.1 rfl (Nat.le_of_ble_eq_true rfl) dX12_leads_238 (fun w266 H locs hp265 hw => ?_)
            obtain ⟨hT, k267, hg268⟩ := hp265
            have hF := hF.tr k267 (by decide)
            have c269 := k267.gi kM_at12 rfl c97
            have c270 := k267.gi kM_at12 rfl c98
            have c271 := k267.gi kM_at12 (by decide) c110
            have c272 := k267.gi kM_at12 rfl c111
            have c273 := k267.gi kM_at12 rfl c250
            clear hg268
            exact J241 v145_7 v145_8 v145_9 r99 x252 f145_12__9_a1_toInt_217_toNat f145_12__9_a1_toInt_218_toNat x109 H locs ls w266 (show 0 ≤ a1.toInt by omega) (show a1.toInt ≤ 3 by omega) (show 0 ≤ a2.toInt by omega) (show a2.toInt ≤ 1073741824 by omega) (show 0 ≤ a3.toInt by omega) (show a3.toInt ≤ 120 by omega) (show 0 ≤ a4.toInt by omega) (show a4.toInt ≤ 9 by omega) (show 0 ≤ a6.toInt by omega) (show a6.toInt ≤ 120 by omega) (show 0 ≤ v145_8.toInt by omega) (show v145_8.toInt ≤ 1073741944 by omega) (show 0 ≤ v145_9.toInt by omega) (show v145_9.toInt ≤ 1 by omega) (show 0 ≤ r99.toInt by omega) (show r99.toInt ≤ 11 by omega) (show 0 ≤ x252.toInt by omega) (show x252.toInt ≤ 129 by omega) (show 0 ≤ f145_12__9_a1_toInt_217_toNat.toInt by omega) (show f145_12__9_a1_toInt_217_toNat.toInt ≤ 9 by omega) (show 0 ≤ f145_12__9_a1_toInt_218_toNat.toInt by omega) (show f145_12__9_a1_toInt_218_toNat.toInt ≤ 3 by omega) (show 1 ≤ x109.toInt by omega) (show x109.toInt ≤ 12 by omega)  hw hT hF c269 c270 c271 (lv_sub hl [2, 3, 4, 5, 6, 7, 8, 9, 10, 11, 1, 0] rfl)
          · refine lv_iload hx hb dX12_leads_211 (lv_at hl 7 rfl) ?_
            refine lv_if_eq (tgt := 235) hx hb dX12_leads_213 (by decide) (fun _ => ?_) (fun c => absurd (by decide) c)
            refine lv_iconst (v := 0) hx hb dX12_leads_235 (by decide) ?_
            refine lv_iload hx hb dX12_leads_236 (lv_at hl 9 rfl) ?_
            refine tk_Vv hC hK hw hT hA hE hSR kM_at0 (by decide) rfl (k_X12_could_1 l adK adV dC dI cy ad B (by omega) (by omega) qr s1   x252 (show 0 ≤ x252.toInt by omega) (show x252.toInt ≤ 120 by omega) r254 (show 0 ≤ r254.toInt by omega) (show r254.toInt ≤ 9 by omega) v145_7 w94 H.size hT ) (cwV 4 hC.2.2.2.2 gX12_leads_X12_could rfl rfl rfl (by decide +kernel) ⟨Nat.le_of_ble_eq_true rfl, Nat.le_of_ble_eq_true rfl⟩) rfl hl.1 rfl (Nat.le_of_ble_eq_true rfl) dX12_leads_238 (fun w276 H locs hp275 hw => ?_)
            obtain ⟨hT, k277, hg278⟩ := hp275
            have hF := hF.tr k277 (by decide)
            have c279 := k277.gi kM_at12 rfl c97
            have c280 := k277.gi kM_at12 rfl c98
            have c281 := k277.gi kM_at12 (by decide) c110
            have c282 := k277.gi kM_at12 rfl c111
            have c283 := k277.gi kM_at12 rfl c250
            clear hg278
            exact J241 v145_7 v145_8 v145_9 r99 x252 f145_12__9_a1_toInt_217_toNat f145_12__9_a1_toInt_218_toNat x109 H locs ls w276 (show 0 ≤ a1.toInt by omega) (show a1.toInt ≤ 3 by omega) (show 0 ≤ a2.toInt by omega) (show a2.toInt ≤ 1073741824 by omega) (show 0 ≤ a3.toInt by omega) (show a3.toInt ≤ 120 by omega) (show 0 ≤ a4.toInt by omega) (show a4.toInt ≤ 9 by omega) (show 0 ≤ a6.toInt by omega) (show a6.toInt ≤ 120 by omega) (show 0 ≤ v145_8.toInt by omega) (show v145_8.toInt ≤ 1073741944 by omega) (show 0 ≤ v145_9.toInt by omega) (show v145_9.toInt ≤ 1 by omega) (show 0 ≤ r99.toInt by omega) (show r99.toInt ≤ 11 by omega) (show 0 ≤ x252.toInt by omega) (show x252.toInt ≤ 129 by omega) (show 0 ≤ f145_12__9_a1_toInt_217_toNat.toInt by omega) (show f145_12__9_a1_toInt_217_toNat.toInt ≤ 9 by omega) (show 0 ≤ f145_12__9_a1_toInt_218_toNat.toInt by omega) (show f145_12__9_a1_toInt_218_toNat.toInt ≤ 3 by omega) (show 1 ≤ x109.toInt by omega) (show x109.toInt ≤ 12 by omega)  hw hT hF c279 c280 c281 (lv_sub hl [2, 3, 4, 5, 6, 7, 8, 9, 10, 11, 1, 0] rfl)
    · refine lv_istore (lv' := [(10, .int (-1)), (0, .ref (ad 0)), (1, .int a1), (2, .int a2), (3, .int a3), (4, .int a4), (5, .int 0), (6, .int a6), (7, .int v145_7), (8, .int v145_8), (9, .int v145_9)]) hx hb dX12_leads_161 hl (by decide) rfl (fun ls hl => ?_)
      refine lv_iload hx hb dX12_leads_163 (lv_at hl 0 rfl) ?_
      refine lv_if_lt (tgt := 181) hx hb dX12_leads_165 (by decide) (fun _ => ?_) (fun c => absurd (by decide) c)
      exact J181 v145_7 v145_8 v145_9 (-1) f145_12__9_a1_toInt_217_toNat f145_12__9_a1_toInt_218_toNat H locs ls w94 (show 0 ≤ a1.toInt by omega) (show a1.toInt ≤ 3 by omega) (show 0 ≤ a2.toInt by omega) (show a2.toInt ≤ 1073741824 by omega) (show 0 ≤ a3.toInt by omega) (show a3.toInt ≤ 120 by omega) (show 0 ≤ a4.toInt by omega) (show a4.toInt ≤ 9 by omega) (show 0 ≤ a6.toInt by omega) (show a6.toInt ≤ 120 by omega) (show 0 ≤ v145_8.toInt by omega) (show v145_8.toInt ≤ 1073741944 by omega) (show 0 ≤ v145_9.toInt by omega) (show v145_9.toInt ≤ 1 by omega) (by decide) (by decide) (show 0 ≤ f145_12__9_a1_toInt_217_toNat.toInt by omega) (show f145_12__9_a1_toInt_217_toNat.toInt ≤ 9 by omega) (show 0 ≤ f145_12__9_a1_toInt_218_toNat.toInt by omega) (show f145_12__9_a1_toInt_218_toNat.toInt ≤ 3 by omega)  hw hT hF c97 c98 (lv_sub hl [1, 2, 3, 4, 5, 6, 7, 8, 9, 10, 0] rfl)
  have J115 : ∀ (v115_7 : Int32) (v115_8 : Int32) (v115_9 : Int32) (f115_12__9_a1_toInt_217_toNat : Int32) (H : Heap) (locs : List Loc) (ls : Array Slot) (w284 : va_W), 0 ≤ a1.toInt → a1.toInt ≤ 3 → 0 ≤ a2.toInt → a2.toInt ≤ 1073741824 → 0 ≤ a3.toInt → a3.toInt ≤ 120 → 0 ≤ a4.toInt → a4.toInt ≤ 9 → 0 ≤ a6.toInt → a6.toInt ≤ 120 → 0 ≤ v115_8.toInt → v115_8.toInt ≤ 1073741944 → 0 ≤ v115_9.toInt → v115_9.toInt ≤ 1 → 0 ≤ f115_12__9_a1_toInt_217_toNat.toInt → f115_12__9_a1_toInt_217_toNat.toInt ≤ 9 → Wd dC dI A s.heap H locs w284 → TW ksM ad cy B qr 12 w284 → FE ksM [(72, 0, 12), (73, 0, 10), (76, 0, 2600)] w0 w284 → gi w284 12 (9 * a1.toInt + 217).toNat = f115_12__9_a1_toInt_217_toNat → lv_has ls 12 [(0, .ref (ad 0)), (1, .int a1), (2, .int a2), (3, .int a3), (4, .int a4), (5, .int 0), (6, .int a6), (7, .int v115_7), (8, .int v115_8), (9, .int v115_9)] → W p l e ({ frames := 5, cells := 0, slots := 0, locals := 103 }) s m (List.toArray [.ref (ad 0), .int a1, .int a2, .int a3, .int a4, .int 0, .int a6]) below meth c H locs 0 0 (MQ below (va_Qv (P_X12_leads_1 ad cy B qr s1 a1 a2 a3 a4 a6 w0) (fun u : va_W => wpost dC dI cy A u) A) (List.toArray [.ref (ad 0), .int a1, .int a2, .int a3, .int a4, .int 0, .int a6]) s 0 0 A) (F0 m 115 ls []) := by
    intro v115_7 v115_8 v115_9 f115_12__9_a1_toInt_217_toNat H locs ls w284 r285 t286 r287 t288 r289 t290 r291 t292 r293 t294 r295 t296 r297 t298 r299 t300 hw hT hF c301 hl
    refine lv_iload hx hb dX12_leads_115 (lv_at hl 5 rfl) ?_
    refine lv_if_eq (tgt := 135) hx hb dX12_leads_117 (by decide) (fun _ => ?_) (fun c => absurd (by decide) c)
    refine lv_aload_n hx hb dX12_leads_135 rfl (lv_at hl 0 rfl) ?_
    refine lv_aload_n hx hb dX12_leads_136 rfl (lv_at hl 0 rfl) ?_
    refine lv_iload_n hx hb dX12_leads_137 rfl (lv_at hl 1 rfl) ?_
    refine lv_iconst (v := 2) hx hb dX12_leads_138 (by decide) ?_
    refine tk_Vi hC hK hw hT hA hE hSR kM_at0 (by decide) rfl (k_X12_walkerOf_4 l adK adV dC dI cy ad B (by omega) (by omega) qr s1   a1 (show 0 ≤ a1.toInt by omega) (show a1.toInt ≤ 3 by omega) w284 H.size hT ) (cwV 2 hC.2.2.2.2 gX12_leads_X12_walkerOf rfl rfl rfl (by decide +kernel) ⟨Nat.le_of_ble_eq_true rfl, Nat.le_of_ble_eq_true rfl⟩) rfl hl.1 rfl (Nat.le_of_ble_eq_true rfl) dX12_leads_139 (fun r302 w304 H locs hp303 hw => ?_)
    obtain ⟨rfl, hg309⟩ := hp303
    obtain ⟨g306, g307, c308⟩ := hg309
    refine tk_Vv hC hK hw hT hA hE hSR kM_at0 (by decide) rfl (k_X12_takesMap_1 l adK adV dC dI cy ad B (by omega) (by omega) qr s1   r302 (show 0 ≤ r302.toInt by omega) (show r302.toInt ≤ 3 by omega) w284 H.size hT ) (cwV 1 hC.2.2.2.2 gX12_leads_X12_takesMap rfl rfl rfl (by decide +kernel) ⟨Nat.le_of_ble_eq_true rfl, Nat.le_of_ble_eq_true rfl⟩) rfl hl.1 rfl (Nat.le_of_ble_eq_true rfl) dX12_leads_142 (fun w312 H locs hp311 hw => ?_)
    obtain ⟨hT, k313, hg314⟩ := hp311
    have hF := hF.tr k313 (by decide)
    have c315 := k313.gi kM_at12 rfl c301
    have c316 := k313.gi kM_at12 rfl c308
    clear hg314
    exact J145 v115_7 v115_8 v115_9 f115_12__9_a1_toInt_217_toNat r302 H locs ls w312 (show 0 ≤ a1.toInt by omega) (show a1.toInt ≤ 3 by omega) (show 0 ≤ a2.toInt by omega) (show a2.toInt ≤ 1073741824 by omega) (show 0 ≤ a3.toInt by omega) (show a3.toInt ≤ 120 by omega) (show 0 ≤ a4.toInt by omega) (show a4.toInt ≤ 9 by omega) (show 0 ≤ a6.toInt by omega) (show a6.toInt ≤ 120 by omega) (show 0 ≤ v115_8.toInt by omega) (show v115_8.toInt ≤ 1073741944 by omega) (show 0 ≤ v115_9.toInt by omega) (show v115_9.toInt ≤ 1 by omega) (show 0 ≤ f115_12__9_a1_toInt_217_toNat.toInt by omega) (show f115_12__9_a1_toInt_217_toNat.toInt ≤ 9 by omega) (show 0 ≤ r302.toInt by omega) (show r302.toInt ≤ 3 by omega)  hw hT hF c315 c316 (lv_sub hl [0, 1, 2, 3, 4, 5, 6, 7, 8, 9] rfl)
  refine lv_aload_n hx hb dX12_leads_0 rfl (lv_at hl 0 rfl) ?_
  refine tk_getA hC hK hw hT hinX12 kM_at0 (by decide) rfl 34 (by decide) (List.mem_of_getElem? (i := 1) rfl) rfl rfl dX12_leads_1 ?_
  refine lv_aload_n hx hb dX12_leads_4 rfl (lv_at hl 0 rfl) ?_
  refine lv_iload_n hx hb dX12_leads_5 rfl (lv_at hl 3 rfl) ?_
  refine lv_iload hx hb dX12_leads_6 (lv_at hl 4 rfl) ?_
  refine lv_iload hx hb dX12_leads_8 (lv_at hl 5 rfl) ?_
  refine tk_Vi hC hK hw hT hA hE hSR kM_at0 (by decide) rfl (k_X12_placeAt_1 l adK adV dC dI cy ad B (by omega) (by omega) qr s1   a3 (show 0 ≤ a3.toInt by omega) (show a3.toInt ≤ 120 by omega) a4 (show 0 ≤ a4.toInt by omega) (show a4.toInt ≤ 9 by omega) w0 s.heap.size hT ) (cwV 3 hC.2.2.2.2 gX12_leads_X12_placeAt rfl rfl rfl (by decide +kernel) ⟨Nat.le_of_ble_eq_true rfl, Nat.le_of_ble_eq_true rfl⟩) rfl hl.1 rfl (Nat.le_of_ble_eq_true rfl) dX12_leads_10 (fun r317 w319 H locs hp318 hw => ?_)
  obtain ⟨rfl, hg323⟩ := hp318
  obtain ⟨g321, g322⟩ := hg323
  refine tk_iald hC hK hw hT kM_at17 rfl rfl (show 0 ≤ r317.toInt by omega) (show r317.toInt < 2600 by omega) dX12_leads_13 (fun x324 c325 rx324 tx324 => ?_)
  refine lv_istore (lv' := [(7, .int x324), (0, .ref (ad 0)), (1, .int a1), (2, .int a2), (3, .int a3), (4, .int a4), (5, .int 0), (6, .int a6)]) hx hb dX12_leads_14 hl (by decide) rfl (fun ls hl => ?_)
  refine lv_iload hx hb dX12_leads_16 (lv_at hl 0 rfl) ?_
  refine lv_ldcw (v := 100000000) hx hb hC.2.2.2.1 (hC.2.2.2.2 _ (List.mem_of_getElem? (i := 2) rfl)) dX12_leads_18 ?_
  refine lv_icmp_eq (tgt := 41) hx hb dX12_leads_21 (by decide) (fun c326 => ?_) (fun c326 => ?_)
  · have c326 : x324.toInt = (100000000 : Int) := wk_eq.mp c326
    exact J41 x324 H locs ls w0 (show 0 ≤ a1.toInt by omega) (show a1.toInt ≤ 3 by omega) (show 0 ≤ a2.toInt by omega) (show a2.toInt ≤ 1073741824 by omega) (show 0 ≤ a3.toInt by omega) (show a3.toInt ≤ 120 by omega) (show 0 ≤ a4.toInt by omega) (show a4.toInt ≤ 9 by omega) (show 0 ≤ a6.toInt by omega) (show a6.toInt ≤ 120 by omega)  hw hT hF  (lv_sub hl [1, 2, 3, 4, 5, 6, 7, 0] rfl)
  · have c326 : ¬ x324.toInt = (100000000 : Int) := wk_eqF c326
    refine lv_iload_n hx hb dX12_leads_24 rfl (lv_at hl 4 rfl) ?_
    refine lv_iload hx hb dX12_leads_25 (lv_at hl 7 rfl) ?_
    refine lv_icmp_eq (tgt := 41) hx hb dX12_leads_27 (by decide) (fun c327 => ?_) (fun c327 => ?_)
    · have c327 : a3.toInt = a6.toInt := wk_eq.mp c327
      exact J41 x324 H locs ls w0 (show 0 ≤ a1.toInt by omega) (show a1.toInt ≤ 3 by omega) (show 0 ≤ a2.toInt by omega) (show a2.toInt ≤ 1073741824 by omega) (show 0 ≤ a3.toInt by omega) (show a3.toInt ≤ 120 by omega) (show 0 ≤ a4.toInt by omega) (show a4.toInt ≤ 9 by omega) (show 0 ≤ a6.toInt by omega) (show a6.toInt ≤ 120 by omega)  hw hT hF  (lv_sub hl [1, 2, 3, 4, 5, 6, 7, 0] rfl)
    · have c327 : ¬ a3.toInt = a6.toInt := wk_eqF c327
      refine lv_iload hx hb dX12_leads_30 (lv_at hl 5 rfl) ?_
      refine lv_aload_n hx hb dX12_leads_32 rfl (lv_at hl 1 rfl) ?_
      refine lv_iload_n hx hb dX12_leads_33 rfl (lv_at hl 2 rfl) ?_
      refine lv_iconst (v := 1) hx hb dX12_leads_34 (by decide) ?_
      refine tk_Vi hC hK hw hT hA hE hSR kM_at0 (by decide) rfl (k_X12_walkerOf_3 l adK adV dC dI cy ad B (by omega) (by omega) qr s1   a1 (show 0 ≤ a1.toInt by omega) (show a1.toInt ≤ 3 by omega) w0 H.size hT ) (cwV 2 hC.2.2.2.2 gX12_leads_X12_walkerOf rfl rfl rfl (by decide +kernel) ⟨Nat.le_of_ble_eq_true rfl, Nat.le_of_ble_eq_true rfl⟩) rfl hl.1 rfl (Nat.le_of_ble_eq_true rfl) dX12_leads_35 (fun r328 w330 H locs hp329 hw => ?_)
      obtain ⟨rfl, hg335⟩ := hp329
      obtain ⟨g332, g333, c334⟩ := hg335
      refine lv_icmp_ne (tgt := 42) hx hb dX12_leads_38 (by decide) (fun c336 => ?_) (fun c336 => ?_)
      · have c336 : ¬ a4.toInt = r328.toInt := wk_eqF c336
        refine lv_iload_n hx hb dX12_leads_42 rfl (lv_at hl 3 rfl) ?_
        refine lv_iload_n hx hb dX12_leads_43 rfl (lv_at hl 4 rfl) ?_
        refine lv_iadd hx hb dX12_leads_44 ?_
        refine lv_topi (fun x337 ex337 => ?_)
        have ex337 : x337.toInt = a2.toInt + a3.toInt := by rw [ex337]; exact wk_add (show (-2147483648) ≤ a2.toInt + a3.toInt by omega) (show a2.toInt + a3.toInt ≤ 2147483647 by omega)
        refine lv_istore (lv' := [(8, .int x337), (7, .int x324), (0, .ref (ad 0)), (1, .int a1), (2, .int a2), (3, .int a3), (4, .int a4), (5, .int 0), (6, .int a6)]) hx hb dX12_leads_45 hl (by decide) rfl (fun ls hl => ?_)
        refine lv_iload hx hb dX12_leads_47 (lv_at hl 0 rfl) ?_
        refine lv_iconst (v := 1) hx hb dX12_leads_49 (by decide) ?_
        refine lv_iadd hx hb dX12_leads_50 ?_
        refine lv_topi (fun x338 ex338 => ?_)
        have ex338 : x338.toInt = x337.toInt + (1 : Int) := by rw [ex338]; exact wk_add (show (-2147483648) ≤ x337.toInt + (1 : Int) by omega) (show x337.toInt + (1 : Int) ≤ 2147483647 by omega)
        refine lv_bipush (v := 24) hx hb dX12_leads_51 (by decide) ?_
        refine lv_idiv hx hb dX12_leads_53 (by decide) ?_
        refine lv_topi (fun x339 ex339 => ?_)
        have ex339 : x339.toInt = x338.toInt / (24 : Int) := by rw [ex339]; exact wk_div (show 0 ≤ x338.toInt by omega) (show 0 < (24 : Int) by decide)
        refine lv_iload hx hb dX12_leads_54 (lv_at hl 0 rfl) ?_
        refine lv_bipush (v := 24) hx hb dX12_leads_56 (by decide) ?_
        refine lv_idiv hx hb dX12_leads_58 (by decide) ?_
        refine lv_topi (fun x340 ex340 => ?_)
        have ex340 : x340.toInt = x337.toInt / (24 : Int) := by rw [ex340]; exact wk_div (show 0 ≤ x337.toInt by omega) (show 0 < (24 : Int) by decide)
        refine lv_icmp_ne (tgt := 66) hx hb dX12_leads_59 (by decide) (fun c341 => ?_) (fun c341 => ?_)
        · have c341 : ¬ x339.toInt = x340.toInt := wk_eqF c341
          refine lv_iconst (v := 0) hx hb dX12_leads_66 (by decide) ?_
          refine lv_istore (lv' := [(9, .int 0), (8, .int x337), (7, .int x324), (0, .ref (ad 0)), (1, .int a1), (2, .int a2), (3, .int a3), (4, .int a4), (5, .int 0), (6, .int a6)]) hx hb dX12_leads_67 hl (by decide) rfl (fun ls hl => ?_)
          refine lv_aload_n hx hb dX12_leads_69 rfl (lv_at hl 3 rfl) ?_
          refine lv_iload_n hx hb dX12_leads_70 rfl (lv_at hl 6 rfl) ?_
          refine lv_iconst (v := 1) hx hb dX12_leads_71 (by decide) ?_
          refine lv_iadd hx hb dX12_leads_72 ?_
          refine lv_topi (fun x342 ex342 => ?_)
          have ex342 : x342.toInt = a3.toInt + (1 : Int) := by rw [ex342]; exact wk_add (show (-2147483648) ≤ a3.toInt + (1 : Int) by omega) (show a3.toInt + (1 : Int) ≤ 2147483647 by omega)
          refine lv_iload hx hb dX12_leads_73 (lv_at hl 7 rfl) ?_
          refine lv_iload hx hb dX12_leads_75 (lv_at hl 8 rfl) ?_
          refine lv_if_eq (tgt := 89) hx hb dX12_leads_77 (by decide) (fun _ => ?_) (fun c => absurd (by decide) c)
          refine lv_iconst (v := 0) hx hb dX12_leads_89 (by decide) ?_
          refine lv_iload hx hb dX12_leads_90 (lv_at hl 2 rfl) ?_
          refine tk_Vv hC hK hw hT hA hE hSR kM_at0 (by decide) rfl (k_X12_could_2 l adK adV dC dI cy ad B (by omega) (by omega) qr s1   x342 (show 1 ≤ x342.toInt by omega) (show x342.toInt ≤ 121 by omega) a4 (show 0 ≤ a4.toInt by omega) (show a4.toInt ≤ 9 by omega) x324 w0 H.size hT ) (cwV 4 hC.2.2.2.2 gX12_leads_X12_could rfl rfl rfl (by decide +kernel) ⟨Nat.le_of_ble_eq_true rfl, Nat.le_of_ble_eq_true rfl⟩) rfl hl.1 rfl (Nat.le_of_ble_eq_true rfl) dX12_leads_92 (fun w345 H locs hp344 hw => ?_)
          obtain ⟨hT, k346, hg347⟩ := hp344
          have hF := hF.tr k346 (by decide)
          have c348 := k346.gi kM_at12 rfl c334
          clear hg347
          refine lv_iload hx hb dX12_leads_95 (lv_at hl 8 rfl) ?_
          refine lv_if_ne (tgt := 115) hx hb dX12_leads_97 (by decide) (fun c => absurd (by decide) c) (fun _ => ?_)
          refine lv_aload_n hx hb dX12_leads_100 rfl (lv_at hl 3 rfl) ?_
          refine lv_iload_n hx hb dX12_leads_101 rfl (lv_at hl 6 rfl) ?_
          refine lv_iconst (v := 1) hx hb dX12_leads_102 (by decide) ?_
          refine lv_iadd hx hb dX12_leads_103 ?_
          refine lv_topi (fun x349 ex349 => ?_)
          have ex349 : x349.toInt = a3.toInt + (1 : Int) := by rw [ex349]; exact wk_add (show (-2147483648) ≤ a3.toInt + (1 : Int) by omega) (show a3.toInt + (1 : Int) ≤ 2147483647 by omega)
          refine lv_iload hx hb dX12_leads_104 (lv_at hl 7 rfl) ?_
          refine lv_iload hx hb dX12_leads_106 (lv_at hl 0 rfl) ?_
          refine lv_iload hx hb dX12_leads_108 (lv_at hl 2 rfl) ?_
          refine lv_iconst (v := 1) hx hb dX12_leads_110 (by decide) ?_
          refine lv_iadd hx hb dX12_leads_111 ?_
          have nx350 := wk_i32 x324
          refine lv_topi (fun x351 ex351 => ?_)
          refine tk_Vv hC hK hw hT hA hE hSR kM_at0 (by decide) rfl (k_X12_could_2 l adK adV dC dI cy ad B (by omega) (by omega) qr s1   x349 (show 1 ≤ x349.toInt by omega) (show x349.toInt ≤ 121 by omega) a4 (show 0 ≤ a4.toInt by omega) (show a4.toInt ≤ 9 by omega) x351 w345 H.size hT ) (cwV 4 hC.2.2.2.2 gX12_leads_X12_could rfl rfl rfl (by decide +kernel) ⟨Nat.le_of_ble_eq_true rfl, Nat.le_of_ble_eq_true rfl⟩) rfl hl.1 rfl (Nat.le_of_ble_eq_true rfl) dX12_leads_112 (fun w354 H locs hp353 hw => ?_)
          obtain ⟨hT, k355, hg356⟩ := hp353
          have hF := hF.tr k355 (by decide)
          have c357 := k355.gi kM_at12 rfl c348
          clear hg356
          exact J115 x324 x337 0 r328 H locs ls w354 (show 0 ≤ a1.toInt by omega) (show a1.toInt ≤ 3 by omega) (show 0 ≤ a2.toInt by omega) (show a2.toInt ≤ 1073741824 by omega) (show 0 ≤ a3.toInt by omega) (show a3.toInt ≤ 120 by omega) (show 0 ≤ a4.toInt by omega) (show a4.toInt ≤ 9 by omega) (show 0 ≤ a6.toInt by omega) (show a6.toInt ≤ 120 by omega) (show 0 ≤ x337.toInt by omega) (show x337.toInt ≤ 1073741944 by omega) (by decide) (by decide) (show 0 ≤ r328.toInt by omega) (show r328.toInt ≤ 9 by omega)  hw hT hF c357 (lv_sub hl [3, 4, 5, 6, 7, 8, 9, 2, 1, 0] rfl)
        · have c341 : x339.toInt = x340.toInt := wk_eq.mp c341
          refine lv_iconst (v := 1) hx hb dX12_leads_62 (by decide) ?_
          refine lv_goto (tgt := 67) hx hb dX12_leads_63 (by decide) ?_
          refine lv_istore (lv' := [(9, .int 1), (8, .int x337), (7, .int x324), (0, .ref (ad 0)), (1, .int a1), (2, .int a2), (3, .int a3), (4, .int a4), (5, .int 0), (6, .int a6)]) hx hb dX12_leads_67 hl (by decide) rfl (fun ls hl => ?_)
          refine lv_aload_n hx hb dX12_leads_69 rfl (lv_at hl 3 rfl) ?_
          refine lv_iload_n hx hb dX12_leads_70 rfl (lv_at hl 6 rfl) ?_
          refine lv_iconst (v := 1) hx hb dX12_leads_71 (by decide) ?_
          refine lv_iadd hx hb dX12_leads_72 ?_
          refine lv_topi (fun x358 ex358 => ?_)
          have ex358 : x358.toInt = a3.toInt + (1 : Int) := by rw [ex358]; exact wk_add (show (-2147483648) ≤ a3.toInt + (1 : Int) by omega) (show a3.toInt + (1 : Int) ≤ 2147483647 by omega)
          refine lv_iload hx hb dX12_leads_73 (lv_at hl 7 rfl) ?_
          refine lv_iload hx hb dX12_leads_75 (lv_at hl 8 rfl) ?_
          refine lv_if_eq (tgt := 89) hx hb dX12_leads_77 (by decide) (fun _ => ?_) (fun c => absurd (by decide) c)
          refine lv_iconst (v := 0) hx hb dX12_leads_89 (by decide) ?_
          refine lv_iload hx hb dX12_leads_90 (lv_at hl 2 rfl) ?_
          refine tk_Vv hC hK hw hT hA hE hSR kM_at0 (by decide) rfl (k_X12_could_2 l adK adV dC dI cy ad B (by omega) (by omega) qr s1   x358 (show 1 ≤ x358.toInt by omega) (show x358.toInt ≤ 121 by omega) a4 (show 0 ≤ a4.toInt by omega) (show a4.toInt ≤ 9 by omega) x324 w0 H.size hT ) (cwV 4 hC.2.2.2.2 gX12_leads_X12_could rfl rfl rfl (by decide +kernel) ⟨Nat.le_of_ble_eq_true rfl, Nat.le_of_ble_eq_true rfl⟩) rfl hl.1 rfl (Nat.le_of_ble_eq_true rfl) dX12_leads_92 (fun w361 H locs hp360 hw => ?_)
          obtain ⟨hT, k362, hg363⟩ := hp360
          have hF := hF.tr k362 (by decide)
          have c364 := k362.gi kM_at12 rfl c334
          clear hg363
          refine lv_iload hx hb dX12_leads_95 (lv_at hl 8 rfl) ?_
          refine lv_if_ne (tgt := 115) hx hb dX12_leads_97 (by decide) (fun c => absurd (by decide) c) (fun _ => ?_)
          refine lv_aload_n hx hb dX12_leads_100 rfl (lv_at hl 3 rfl) ?_
          refine lv_iload_n hx hb dX12_leads_101 rfl (lv_at hl 6 rfl) ?_
          refine lv_iconst (v := 1) hx hb dX12_leads_102 (by decide) ?_
          refine lv_iadd hx hb dX12_leads_103 ?_
          refine lv_topi (fun x365 ex365 => ?_)
          have ex365 : x365.toInt = a3.toInt + (1 : Int) := by rw [ex365]; exact wk_add (show (-2147483648) ≤ a3.toInt + (1 : Int) by omega) (show a3.toInt + (1 : Int) ≤ 2147483647 by omega)
          refine lv_iload hx hb dX12_leads_104 (lv_at hl 7 rfl) ?_
          refine lv_iload hx hb dX12_leads_106 (lv_at hl 0 rfl) ?_
          refine lv_iload hx hb dX12_leads_108 (lv_at hl 2 rfl) ?_
          refine lv_iconst (v := 1) hx hb dX12_leads_110 (by decide) ?_
          refine lv_iadd hx hb dX12_leads_111 ?_
          have nx366 := wk_i32 x324
          refine lv_topi (fun x367 ex367 => ?_)
          refine tk_Vv hC hK hw hT hA hE hSR kM_at0 (by decide) rfl (k_X12_could_3 l adK adV dC dI cy ad B (by omega) (by omega) qr s1   x365 (show 1 ≤ x365.toInt by omega) (show x365.toInt ≤ 121 by omega) a4 (show 0 ≤ a4.toInt by omega) (show a4.toInt ≤ 9 by omega) x367 w361 H.size hT ) (cwV 4 hC.2.2.2.2 gX12_leads_X12_could rfl rfl rfl (by decide +kernel) ⟨Nat.le_of_ble_eq_true rfl, Nat.le_of_ble_eq_true rfl⟩) rfl hl.1 rfl (Nat.le_of_ble_eq_true rfl) dX12_leads_112 (fun w370 H locs hp369 hw => ?_)
          obtain ⟨hT, k371, hg372⟩ := hp369
          have hF := hF.tr k371 (by decide)
          have c373 := k371.gi kM_at12 rfl c364
          clear hg372
          exact J115 x324 x337 1 r328 H locs ls w370 (show 0 ≤ a1.toInt by omega) (show a1.toInt ≤ 3 by omega) (show 0 ≤ a2.toInt by omega) (show a2.toInt ≤ 1073741824 by omega) (show 0 ≤ a3.toInt by omega) (show a3.toInt ≤ 120 by omega) (show 0 ≤ a4.toInt by omega) (show a4.toInt ≤ 9 by omega) (show 0 ≤ a6.toInt by omega) (show a6.toInt ≤ 120 by omega) (show 0 ≤ x337.toInt by omega) (show x337.toInt ≤ 1073741944 by omega) (by decide) (by decide) (show 0 ≤ r328.toInt by omega) (show r328.toInt ≤ 9 by omega)  hw hT hF c373 (lv_sub hl [3, 4, 5, 6, 7, 8, 9, 2, 1, 0] rfl)
      · have c336 : a4.toInt = r328.toInt := wk_eq.mp c336
        exact J41 x324 H locs ls w0 (show 0 ≤ a1.toInt by omega) (show a1.toInt ≤ 3 by omega) (show 0 ≤ a2.toInt by omega) (show a2.toInt ≤ 1073741824 by omega) (show 0 ≤ a3.toInt by omega) (show a3.toInt ≤ 120 by omega) (show 0 ≤ a4.toInt by omega) (show a4.toInt ≤ 9 by omega) (show 0 ≤ a6.toInt by omega) (show a6.toInt ≤ 120 by omega)  hw hT hF  (lv_sub hl [1, 2, 3, 4, 5, 6, 7, 0] rfl)
abbrev P_X12_placeAt_4 (ad : Nat → Nat) (cy : Nat → ClassId) (B : Int) (qr : Nat) (s1 : Int) (a1 : Int32) (a2 : Int32) (w0 : va_W) : Int32 → va_W → Prop := fun r u => w0 = u ∧ ((1 ≤ r.toInt ∧ r.toInt ≤ 2419))
set_option maxHeartbeats 4000000 in
set_option maxRecDepth 100000 in
theorem k_X12_placeAt_4 (l : Launch) (adK adV : Nat → Nat) (dC : Nat → ClassId) (dI : Nat → Nat → Nat) (cy : Nat → ClassId) (ad : Nat → Nat) (B : Int) (hB0 : 100000 ≤ B) (hB1 : B ≤ 1073741824) (qr : Nat) (s1 : Int)  (a1 : Int32) (ra1 : 0 ≤ a1.toInt) (ta1 : a1.toInt ≤ 120) (a2 : Int32) (ra2 : 0 ≤ a2.toInt) (ta2 : a2.toInt ≤ 9) (w0 : va_W) (sz : Nat) (hT : TW ksM ad cy B qr 12 w0)  : Met l yX12_placeAt wsX12_placeAt ({ frames := 1, cells := 0, slots := 0, locals := 12 }) (va_Pc [.ref (ad 0), .int a1, .int a2, .int 1] (wpreS adK adV dC dI cy sz w0)) (va_Qi (P_X12_placeAt_4 ad cy B qr s1 a1 a2 w0) (fun u : va_W => wpost dC dI cy (va_A w0 sz) u) (va_A w0 sz)) 0 0 (va_A w0 sz) := by
  refine Met.ofW (cc := cX12_placeAt) (maxL := 4) (ret := (some .int)) (by decide) rfl ?_
  intro p e s m args below meth c s₁ Bk hml hv
  obtain ⟨rfl, ⟨hsz, hP, hK, hD0⟩, hE, hSR⟩ := hv
  have hx := Bk.exec
  have hb := Bk.bytes
  have hr := Bk.returns
  have hlocks := Bk.notSynchronized
  have hC : CallFix p m c cX12_placeAt 4 s _ wsX12_placeAt RX12 := ⟨hx, hb, hml, findClass_of_methodNamed Bk.named, atoms_spec (ws := wsX12_placeAt) Bk.pre⟩
  subst hsz
  have hD := hD0.self (sz := s.heap.size)
  generalize hAe : va_A w0 s.heap.size = A at hD hE ⊢
  have hA : ∀ q : Nat, s.heap.size ≤ q → A q := fun q h => by rw [← hAe]; exact Or.inr h
  have hw : Wd dC dI A s.heap s.heap [] w0 := ⟨hP, hD, va_S.rf⟩
  have hF : FE ksM ([] : List (Nat × Nat × Nat)) w0 w0 := FE.rf
  have hl := lv_entry ([.ref (ad 0), .int a1, .int a2, .int 1]) (n := 4) (Nat.le_of_ble_eq_true rfl)
  rw [lg_entry_eq]
  generalize (lg_sl ([.ref (ad 0), .int a1, .int a2, .int 1]) ++ List.replicate (4 - (lg_sl ([.ref (ad 0), .int a1, .int a2, .int 1])).length) Slot.unset).toArray = ls at hl ⊢
  have hl : lv_has ls 4 [(0, .ref (ad 0)), (1, .int a1), (2, .int a2), (3, .int 1)] := hl
  generalize hloc : ([] : List Loc) = locs at hw ⊢
  refine lv_iload_n hx hb dX12_placeAt_0 rfl (lv_at hl 1 rfl) ?_
  refine lv_bipush (v := 10) hx hb dX12_placeAt_1 (by decide) ?_
  refine lv_imul hx hb dX12_placeAt_3 ?_
  refine lv_topi (fun x1 ex1 => ?_)
  have ex1 : x1.toInt = a1.toInt * (10 : Int) := by rw [ex1]; exact wk_mul (show (-2147483648) ≤ a1.toInt * (10 : Int) by omega) (show a1.toInt * (10 : Int) ≤ 2147483647 by omega)
  refine lv_iload_n hx hb dX12_placeAt_4 rfl (lv_at hl 2 rfl) ?_
  refine lv_iadd hx hb dX12_placeAt_5 ?_
  refine lv_topi (fun x2 ex2 => ?_)
  have ex2 : x2.toInt = x1.toInt + a2.toInt := by rw [ex2]; exact wk_add (show (-2147483648) ≤ x1.toInt + a2.toInt by omega) (show x1.toInt + a2.toInt ≤ 2147483647 by omega)
  refine lv_iconst (v := 2) hx hb dX12_placeAt_6 (by decide) ?_
  refine lv_imul hx hb dX12_placeAt_7 ?_
  refine lv_topi (fun x3 ex3 => ?_)
  have ex3 : x3.toInt = x2.toInt * (2 : Int) := by rw [ex3]; exact wk_mul (show (-2147483648) ≤ x2.toInt * (2 : Int) by omega) (show x2.toInt * (2 : Int) ≤ 2147483647 by omega)
  refine lv_iload_n hx hb dX12_placeAt_8 rfl (lv_at hl 3 rfl) ?_
  refine lv_if_eq (tgt := 16) hx hb dX12_placeAt_9 (by decide) (fun c => absurd c (by decide)) (fun _ => ?_)
  refine lv_iconst (v := 1) hx hb dX12_placeAt_12 (by decide) ?_
  refine lv_goto (tgt := 17) hx hb dX12_placeAt_13 (by decide) ?_
  refine lv_iadd hx hb dX12_placeAt_17 ?_
  refine lv_topi (fun x4 ex4 => ?_)
  have ex4 : x4.toInt = x3.toInt + (1 : Int) := by rw [ex4]; exact wk_add (show (-2147483648) ≤ x3.toInt + (1 : Int) by omega) (show x3.toInt + (1 : Int) ≤ 2147483647 by omega)
  exact tk_iret hC hr hlocks hK ⟨rfl, ⟨(show 1 ≤ x4.toInt by omega), (show x4.toInt ≤ 2419 by omega)⟩⟩ hw dX12_placeAt_18
abbrev P_X12_could_4 (ad : Nat → Nat) (cy : Nat → ClassId) (B : Int) (qr : Nat) (s1 : Int) (a1 : Int32) (a2 : Int32) (a4 : Int32) (w0 : va_W) : va_W → Prop := fun u => TW ksM ad cy B qr 12 u ∧ FE ksM [(76, 0, 2600)] w0 u ∧ ((True))
set_option maxHeartbeats 4000000 in
set_option maxRecDepth 100000 in
theorem k_X12_could_4 (l : Launch) (adK adV : Nat → Nat) (dC : Nat → ClassId) (dI : Nat → Nat → Nat) (cy : Nat → ClassId) (ad : Nat → Nat) (B : Int) (hB0 : 100000 ≤ B) (hB1 : B ≤ 1073741824) (qr : Nat) (s1 : Int)  (a1 : Int32) (ra1 : 0 ≤ a1.toInt) (ta1 : a1.toInt ≤ 120) (a2 : Int32) (ra2 : 0 ≤ a2.toInt) (ta2 : a2.toInt ≤ 9) (a4 : Int32) (w0 : va_W) (sz : Nat) (hT : TW ksM ad cy B qr 12 w0)  : Met l yX12_could wsX12_could ({ frames := 2, cells := 0, slots := 0, locals := 35 }) (va_Pc [.ref (ad 0), .int a1, .int a2, .int 1, .int a4] (wpreS adK adV dC dI cy sz w0)) (va_Qv (P_X12_could_4 ad cy B qr s1 a1 a2 a4 w0) (fun u : va_W => wpost dC dI cy (va_A w0 sz) u) (va_A w0 sz)) 0 0 (va_A w0 sz) := by
  refine Met.ofW (cc := cX12_could) (maxL := 6) (ret := none) (by decide) rfl ?_
  intro p e s m args below meth c s₁ Bk hml hv
  obtain ⟨rfl, ⟨hsz, hP, hK, hD0⟩, hE, hSR⟩ := hv
  have hx := Bk.exec
  have hb := Bk.bytes
  have hr := Bk.returns
  have hlocks := Bk.notSynchronized
  have hC : CallFix p m c cX12_could 6 s _ wsX12_could RX12 := ⟨hx, hb, hml, findClass_of_methodNamed Bk.named, atoms_spec (ws := wsX12_could) Bk.pre⟩
  subst hsz
  have hD := hD0.self (sz := s.heap.size)
  generalize hAe : va_A w0 s.heap.size = A at hD hE ⊢
  have hA : ∀ q : Nat, s.heap.size ≤ q → A q := fun q h => by rw [← hAe]; exact Or.inr h
  have hw : Wd dC dI A s.heap s.heap [] w0 := ⟨hP, hD, va_S.rf⟩
  have hF : FE ksM [(76, 0, 2600)] w0 w0 := FE.rf
  have hl := lv_entry ([.ref (ad 0), .int a1, .int a2, .int 1, .int a4]) (n := 6) (Nat.le_of_ble_eq_true rfl)
  rw [lg_entry_eq]
  generalize (lg_sl ([.ref (ad 0), .int a1, .int a2, .int 1, .int a4]) ++ List.replicate (6 - (lg_sl ([.ref (ad 0), .int a1, .int a2, .int 1, .int a4])).length) Slot.unset).toArray = ls at hl ⊢
  have hl : lv_has ls 6 [(0, .ref (ad 0)), (1, .int a1), (2, .int a2), (3, .int 1), (4, .int a4)] := hl
  generalize hloc : ([] : List Loc) = locs at hw ⊢
  have hinX12 : ∀ w ∈ u_ws RX12 TX12 42, w ∈ wsX12_could := fun _ h => List.mem_cons_of_mem _ (List.mem_append_right _ (h))
  have J30 : ∀ (v30_5 : Int32) (H : Heap) (locs : List Loc) (ls : Array Slot) (w1 : va_W), 0 ≤ a1.toInt → a1.toInt ≤ 120 → 0 ≤ a2.toInt → a2.toInt ≤ 9 → 1 ≤ v30_5.toInt → v30_5.toInt ≤ 2419 → Wd dC dI A s.heap H locs w1 → TW ksM ad cy B qr 12 w1 → FE ksM [(76, 0, 2600)] w0 w1 → lv_has ls 6 [(0, .ref (ad 0)), (1, .int a1), (2, .int a2), (3, .int 1), (4, .int a4), (5, .int v30_5)] → W p l e ({ frames := 2, cells := 0, slots := 0, locals := 35 }) s m (List.toArray [.ref (ad 0), .int a1, .int a2, .int 1, .int a4]) below meth c H locs 0 0 (MQ below (va_Qv (P_X12_could_4 ad cy B qr s1 a1 a2 a4 w0) (fun u : va_W => wpost dC dI cy A u) A) (List.toArray [.ref (ad 0), .int a1, .int a2, .int 1, .int a4]) s 0 0 A) (F0 m 30 ls []) := by
    intro v30_5 H locs ls w1 r2 t3 r4 t5 r6 t7 hw hT hF hl
    exact tk_vret hC hr hlocks hK ⟨hT, hF, trivial⟩ hw dX12_could_30
  refine lv_aload_n hx hb dX12_could_0 rfl (lv_at hl 0 rfl) ?_
  refine lv_iload_n hx hb dX12_could_1 rfl (lv_at hl 1 rfl) ?_
  refine lv_iload_n hx hb dX12_could_2 rfl (lv_at hl 2 rfl) ?_
  refine lv_iload_n hx hb dX12_could_3 rfl (lv_at hl 3 rfl) ?_
  refine tk_Vi hC hK hw hT hA hE hSR kM_at0 (by decide) rfl (k_X12_placeAt_4 l adK adV dC dI cy ad B (by omega) (by omega) qr s1   a1 (show 0 ≤ a1.toInt by omega) (show a1.toInt ≤ 120 by omega) a2 (show 0 ≤ a2.toInt by omega) (show a2.toInt ≤ 9 by omega) w0 s.heap.size hT ) (cwV 3 hC.2.2.2.2 gX12_could_X12_placeAt rfl rfl rfl (by decide +kernel) ⟨Nat.le_of_ble_eq_true rfl, Nat.le_of_ble_eq_true rfl⟩) rfl hl.1 rfl (Nat.le_of_ble_eq_true rfl) dX12_could_4 (fun r8 w10 H locs hp9 hw => ?_)
  obtain ⟨rfl, hg14⟩ := hp9
  obtain ⟨g12, g13⟩ := hg14
  refine lv_istore (lv' := [(5, .int r8), (0, .ref (ad 0)), (1, .int a1), (2, .int a2), (3, .int 1), (4, .int a4)]) hx hb dX12_could_7 hl (by decide) rfl (fun ls hl => ?_)
  refine lv_iload hx hb dX12_could_9 (lv_at hl 5 rfl) ?_
  refine lv_aload_n hx hb dX12_could_11 rfl (lv_at hl 1 rfl) ?_
  refine tk_getA hC hK hw hT hinX12 kM_at0 (by decide) rfl 34 (by decide) (List.mem_of_getElem? (i := 1) rfl) rfl rfl dX12_could_12 ?_
  refine lv_iload hx hb dX12_could_15 (lv_at hl 0 rfl) ?_
  refine tk_iald hC hK hw hT kM_at17 rfl rfl (show 0 ≤ r8.toInt by omega) (show r8.toInt < 2600 by omega) dX12_could_17 (fun x15 c16 rx15 tx15 => ?_)
  refine lv_icmp_ge (tgt := 30) hx hb dX12_could_18 (by decide) (fun c17 => ?_) (fun c17 => ?_)
  · have c17 : x15.toInt ≤ a4.toInt := wk_le.mp c17
    exact J30 r8 H locs ls w0 (show 0 ≤ a1.toInt by omega) (show a1.toInt ≤ 120 by omega) (show 0 ≤ a2.toInt by omega) (show a2.toInt ≤ 9 by omega) (show 1 ≤ r8.toInt by omega) (show r8.toInt ≤ 2419 by omega)  hw hT hF  (lv_sub hl [1, 2, 3, 4, 5, 0] rfl)
  · have c17 : a4.toInt < x15.toInt := wk_leF c17
    refine lv_aload_n hx hb dX12_could_21 rfl (lv_at hl 1 rfl) ?_
    refine tk_getA hC hK hw hT hinX12 kM_at0 (by decide) rfl 34 (by decide) (List.mem_of_getElem? (i := 1) rfl) rfl rfl dX12_could_22 ?_
    refine lv_iload hx hb dX12_could_25 (lv_at hl 0 rfl) ?_
    refine lv_iload hx hb dX12_could_27 (lv_at hl 5 rfl) ?_
    refine tk_iast hC hK hw hT kM_at17 (by decide) rfl rfl (show 0 ≤ r8.toInt by omega) (show r8.toInt < 2600 by omega) (wk_i32 a4).1 (wk_i32 a4).2 dX12_could_29 (fun H locs w18 hw hT k20 c19 => ?_)
    have hF := hF.put kM_at17 (inE_of (a := 0) (b := 2600) (by decide) (show 0 ≤ r8.toInt.toNat by omega) (show r8.toInt.toNat ≤ 2600 by omega)) k20
    exact J30 r8 H locs ls w18 (show 0 ≤ a1.toInt by omega) (show a1.toInt ≤ 120 by omega) (show 0 ≤ a2.toInt by omega) (show a2.toInt ≤ 9 by omega) (show 1 ≤ r8.toInt by omega) (show r8.toInt ≤ 2419 by omega)  hw hT hF  (lv_sub hl [1, 2, 3, 4, 5, 0] rfl)
abbrev P_X12_takesDay_1 (ad : Nat → Nat) (cy : Nat → ClassId) (B : Int) (qr : Nat) (s1 : Int) (a1 : Int32) (w0 : va_W) : va_W → Prop := fun u => TW ksM ad cy B qr 12 u ∧ FE ksM [(72, 0, 12)] w0 u ∧ ((True))
set_option maxHeartbeats 4000000 in
set_option maxRecDepth 100000 in
theorem k_X12_takesDay_1 (l : Launch) (adK adV : Nat → Nat) (dC : Nat → ClassId) (dI : Nat → Nat → Nat) (cy : Nat → ClassId) (ad : Nat → Nat) (B : Int) (hB0 : 100000 ≤ B) (hB1 : B ≤ 1073741824) (qr : Nat) (s1 : Int)  (a1 : Int32) (ra1 : 0 ≤ a1.toInt) (ta1 : a1.toInt ≤ 6) (w0 : va_W) (sz : Nat) (hT : TW ksM ad cy B qr 12 w0)  : Met l yX12_takesDay wsX12_takesDay ({ frames := 2, cells := 0, slots := 0, locals := 34 }) (va_Pc [.ref (ad 0), .int a1] (wpreS adK adV dC dI cy sz w0)) (va_Qv (P_X12_takesDay_1 ad cy B qr s1 a1 w0) (fun u : va_W => wpost dC dI cy (va_A w0 sz) u) (va_A w0 sz)) 0 0 (va_A w0 sz) := by
  refine Met.ofW (cc := cX12_takesDay) (maxL := 3) (ret := none) (by decide) rfl ?_
  intro p e s m args below meth c s₁ Bk hml hv
  obtain ⟨rfl, ⟨hsz, hP, hK, hD0⟩, hE, hSR⟩ := hv
  have hx := Bk.exec
  have hb := Bk.bytes
  have hr := Bk.returns
  have hlocks := Bk.notSynchronized
  have hC : CallFix p m c cX12_takesDay 3 s _ wsX12_takesDay RX12 := ⟨hx, hb, hml, findClass_of_methodNamed Bk.named, atoms_spec (ws := wsX12_takesDay) Bk.pre⟩
  subst hsz
  have hD := hD0.self (sz := s.heap.size)
  generalize hAe : va_A w0 s.heap.size = A at hD hE ⊢
  have hA : ∀ q : Nat, s.heap.size ≤ q → A q := fun q h => by rw [← hAe]; exact Or.inr h
  have hw : Wd dC dI A s.heap s.heap [] w0 := ⟨hP, hD, va_S.rf⟩
  have hF : FE ksM [(72, 0, 12)] w0 w0 := FE.rf
  have hl := lv_entry ([.ref (ad 0), .int a1]) (n := 3) (Nat.le_of_ble_eq_true rfl)
  rw [lg_entry_eq]
  generalize (lg_sl ([.ref (ad 0), .int a1]) ++ List.replicate (3 - (lg_sl ([.ref (ad 0), .int a1])).length) Slot.unset).toArray = ls at hl ⊢
  have hl : lv_has ls 3 [(0, .ref (ad 0)), (1, .int a1)] := hl
  generalize hloc : ([] : List Loc) = locs at hw ⊢
  have hinX12 : ∀ w ∈ u_ws RX12 TX12 42, w ∈ wsX12_takesDay := fun _ h => List.mem_cons_of_mem _ (List.mem_append_right _ (h))
  have L2 : ∀ (n2 : Nat) (v2_2 : Int32) (H : Heap) (locs : List Loc) (ls : Array Slot) (w1 : va_W), 0 ≤ a1.toInt → a1.toInt ≤ 6 → 0 ≤ v2_2.toInt → v2_2.toInt ≤ 12 → (12 - v2_2.toInt).toNat < n2 → Wd dC dI A s.heap H locs w1 → TW ksM ad cy B qr 12 w1 → FE ksM [(72, 0, 12)] w0 w1 → lv_has ls 3 [(0, .ref (ad 0)), (1, .int a1), (2, .int v2_2)] → W p l e ({ frames := 2, cells := 0, slots := 0, locals := 34 }) s m (List.toArray [.ref (ad 0), .int a1]) below meth c H locs 0 0 (MQ below (va_Qv (P_X12_takesDay_1 ad cy B qr s1 a1 w0) (fun u : va_W => wpost dC dI cy A u) A) (List.toArray [.ref (ad 0), .int a1]) s 0 0 A) (F0 m 2 ls []) := by
    intro n2
    induction n2 with
    | zero => intro v2_2 H locs ls w1 r2 t3 r4 t5 hm2 hw hT hF hl; omega
    | succ n2 ih2 =>
      intro v2_2 H locs ls w1 r2 t3 r4 t5 hm2 hw hT hF hl
      refine lv_iload_n hx hb dX12_takesDay_2 rfl (lv_at hl 2 rfl) ?_
      refine lv_aload_n hx hb dX12_takesDay_3 rfl (lv_at hl 0 rfl) ?_
      refine tk_getA hC hK hw hT hinX12 kM_at0 (by decide) rfl 26 (by decide) (List.mem_of_getElem? (i := 1) rfl) rfl rfl dX12_takesDay_4 ?_
      refine lv_iconst (v := 1) hx hb dX12_takesDay_7 (by decide) ?_
      refine tk_ialdR hC hK hw hT kM_at12 rfl (by decide) (by decide) dX12_takesDay_8 (fun x6 c7 Ex6 => ?_)
      have bx6 : 0 ≤ x6.toInt ∧ x6.toInt ≤ 12 := (tk_rg1 rfl).mp Ex6
      have c7 : gi w1 12 1 = x6 := c7
      refine lv_icmp_ge (tgt := 32) hx hb dX12_takesDay_9 (by decide) (fun c8 => ?_) (fun c8 => ?_)
      · have c8 : x6.toInt ≤ v2_2.toInt := wk_le.mp c8
        exact tk_vret hC hr hlocks hK ⟨hT, hF, trivial⟩ hw dX12_takesDay_32
      · have c8 : v2_2.toInt < x6.toInt := wk_leF c8
        refine lv_aload_n hx hb dX12_takesDay_12 rfl (lv_at hl 0 rfl) ?_
        refine tk_getA hC hK hw hT hinX12 kM_at0 (by decide) rfl 28 (by decide) (List.mem_of_getElem? (i := 2) rfl) rfl rfl dX12_takesDay_13 ?_
        refine lv_iload_n hx hb dX12_takesDay_16 rfl (lv_at hl 2 rfl) ?_
        refine lv_aload_n hx hb dX12_takesDay_17 rfl (lv_at hl 0 rfl) ?_
        refine lv_iload_n hx hb dX12_takesDay_18 rfl (lv_at hl 2 rfl) ?_
        refine lv_iconst (v := 3) hx hb dX12_takesDay_19 (by decide) ?_
        refine lv_iload_n hx hb dX12_takesDay_20 rfl (lv_at hl 1 rfl) ?_
        refine lv_iadd hx hb dX12_takesDay_21 ?_
        refine lv_topi (fun x9 ex9 => ?_)
        have ex9 : x9.toInt = (3 : Int) + a1.toInt := by rw [ex9]; exact wk_add (show (-2147483648) ≤ (3 : Int) + a1.toInt by omega) (show (3 : Int) + a1.toInt ≤ 2147483647 by omega)
        refine tk_Vi hC hK hw hT hA hE hSR kM_at0 (by decide) rfl (k_X12_streetOf_4 l adK adV dC dI cy ad B (by omega) (by omega) qr s1   v2_2 (show 0 ≤ v2_2.toInt by omega) (show v2_2.toInt ≤ 11 by omega) x9 (show 3 ≤ x9.toInt by omega) (show x9.toInt ≤ 9 by omega) w1 H.size hT ) (cwV 2 hC.2.2.2.2 gX12_takesDay_X12_streetOf rfl rfl rfl (by decide +kernel) ⟨Nat.le_of_ble_eq_true rfl, Nat.le_of_ble_eq_true rfl⟩) rfl hl.1 rfl (Nat.le_of_ble_eq_true rfl) dX12_takesDay_22 (fun r10 w12 H locs hp11 hw => ?_)
        obtain ⟨rfl, hg16⟩ := hp11
        obtain ⟨g14, g15⟩ := hg16
        refine tk_iast hC hK hw hT kM_at13 (by decide) rfl rfl (show 0 ≤ v2_2.toInt by omega) (show v2_2.toInt < 12 by omega) (wk_i32 r10).1 (wk_i32 r10).2 dX12_takesDay_25 (fun H locs w17 hw hT k19 c18 => ?_)
        have hF := hF.put kM_at13 (inE_of (a := 0) (b := 12) (by decide) (show 0 ≤ v2_2.toInt.toNat by omega) (show v2_2.toInt.toNat ≤ 12 by omega)) k19
        have c20 := k19.gi (Or.inl (tk_ne kM_at12 kM_at13 (by decide))) c7
        obtain ⟨x21, ex21⟩ : ∃ y : Int32, y = v2_2 + Int32.ofInt 1 := ⟨_, rfl⟩
        refine lv_iinc (v := x21) (lv' := [(2, .int x21), (0, .ref (ad 0)), (1, .int a1)]) hx hb dX12_takesDay_26 hl (k := 2) rfl ex21.symm (by decide) rfl (fun ls hl => ?_)
        have ex21 : x21.toInt = v2_2.toInt + 1 := by rw [ex21]; exact wk_add (y := 1) (show -2147483648 ≤ v2_2.toInt + 1 by omega) (show v2_2.toInt + 1 ≤ 2147483647 by omega)
        refine lv_goto (tgt := 2) hx hb dX12_takesDay_29 (by decide) ?_
        exact ih2 x21 H locs ls w17 (show 0 ≤ a1.toInt by omega) (show a1.toInt ≤ 6 by omega) (show 0 ≤ x21.toInt by omega) (show x21.toInt ≤ 12 by omega) (show (12 - x21.toInt).toNat < n2 by omega) hw hT hF  (lv_sub hl [1, 2, 0] rfl)
  refine lv_iconst (v := 0) hx hb dX12_takesDay_0 (by decide) ?_
  refine lv_istore_n (lv' := [(2, .int 0), (0, .ref (ad 0)), (1, .int a1)]) hx hb dX12_takesDay_1 rfl hl (by decide) rfl (fun ls hl => ?_)
  exact L2 ((12 - (0 : Int)).toNat + 1) 0 s.heap locs ls w0 (show 0 ≤ a1.toInt by omega) (show a1.toInt ≤ 6 by omega) (by decide) (by decide) (Nat.lt_succ_self _) hw hT hF  (lv_sub hl [1, 2, 0] rfl)
abbrev P_X12_leads_2 (ad : Nat → Nat) (cy : Nat → ClassId) (B : Int) (qr : Nat) (s1 : Int) (a1 : Int32) (a2 : Int32) (a3 : Int32) (a4 : Int32) (a6 : Int32) (w0 : va_W) : va_W → Prop := fun u => TW ksM ad cy B qr 12 u ∧ FE ksM [(72, 0, 12), (73, 0, 10), (76, 0, 2600)] w0 u ∧ ((True))
set_option maxHeartbeats 4000000 in
set_option maxRecDepth 100000 in
theorem k_X12_leads_2 (l : Launch) (adK adV : Nat → Nat) (dC : Nat → ClassId) (dI : Nat → Nat → Nat) (cy : Nat → ClassId) (ad : Nat → Nat) (B : Int) (hB0 : 100000 ≤ B) (hB1 : B ≤ 1073741824) (qr : Nat) (s1 : Int)  (a1 : Int32) (ra1 : 0 ≤ a1.toInt) (ta1 : a1.toInt ≤ 3) (a2 : Int32) (ra2 : 0 ≤ a2.toInt) (ta2 : a2.toInt ≤ 1073741824) (a3 : Int32) (ra3 : 0 ≤ a3.toInt) (ta3 : a3.toInt ≤ 120) (a4 : Int32) (ra4 : 0 ≤ a4.toInt) (ta4 : a4.toInt ≤ 9) (a6 : Int32) (ra6 : 0 ≤ a6.toInt) (ta6 : a6.toInt ≤ 120) (w0 : va_W) (sz : Nat) (hT : TW ksM ad cy B qr 12 w0)  : Met l yX12_leads wsX12_leads ({ frames := 5, cells := 0, slots := 0, locals := 103 }) (va_Pc [.ref (ad 0), .int a1, .int a2, .int a3, .int a4, .int 1, .int a6] (wpreS adK adV dC dI cy sz w0)) (va_Qv (P_X12_leads_2 ad cy B qr s1 a1 a2 a3 a4 a6 w0) (fun u : va_W => wpost dC dI cy (va_A w0 sz) u) (va_A w0 sz)) 0 0 (va_A w0 sz) := by
  refine Met.ofW (cc := cX12_leads) (maxL := 12) (ret := none) (by decide) rfl ?_
  intro p e s m args below meth c s₁ Bk hml hv
  obtain ⟨rfl, ⟨hsz, hP, hK, hD0⟩, hE, hSR⟩ := hv
  have hx := Bk.exec
  have hb := Bk.bytes
  have hr := Bk.returns
  have hlocks := Bk.notSynchronized
  have hC : CallFix p m c cX12_leads 12 s _ wsX12_leads RX12 := ⟨hx, hb, hml, findClass_of_methodNamed Bk.named, atoms_spec (ws := wsX12_leads) Bk.pre⟩
  subst hsz
  have hD := hD0.self (sz := s.heap.size)
  generalize hAe : va_A w0 s.heap.size = A at hD hE ⊢
  have hA : ∀ q : Nat, s.heap.size ≤ q → A q := fun q h => by rw [← hAe]; exact Or.inr h
  have hw : Wd dC dI A s.heap s.heap [] w0 := ⟨hP, hD, va_S.rf⟩
  have hF : FE ksM [(72, 0, 12), (73, 0, 10), (76, 0, 2600)] w0 w0 := FE.rf
  have hl := lv_entry ([.ref (ad 0), .int a1, .int a2, .int a3, .int a4, .int 1, .int a6]) (n := 12) (Nat.le_of_ble_eq_true rfl)
  rw [lg_entry_eq]
  generalize (lg_sl ([.ref (ad 0), .int a1, .int a2, .int a3, .int a4, .int 1, .int a6]) ++ List.replicate (12 - (lg_sl ([.ref (ad 0), .int a1, .int a2, .int a3, .int a4, .int 1, .int a6])).length) Slot.unset).toArray = ls at hl ⊢
  have hl : lv_has ls 12 [(0, .ref (ad 0)), (1, .int a1), (2, .int a2), (3, .int a3), (4, .int a4), (5, .int 1), (6, .int a6)] := hl
  generalize hloc : ([] : List Loc) = locs at hw ⊢
  have hinX12 : ∀ w ∈ u_ws RX12 TX12 42, w ∈ wsX12_leads := fun _ h => List.mem_cons_of_mem _ (List.mem_append_right _ (h))
  have J41 : ∀ (v41_7 : Int32) (H : Heap) (locs : List Loc) (ls : Array Slot) (w1 : va_W), 0 ≤ a1.toInt → a1.toInt ≤ 3 → 0 ≤ a2.toInt → a2.toInt ≤ 1073741824 → 0 ≤ a3.toInt → a3.toInt ≤ 120 → 0 ≤ a4.toInt → a4.toInt ≤ 9 → 0 ≤ a6.toInt → a6.toInt ≤ 120 → Wd dC dI A s.heap H locs w1 → TW ksM ad cy B qr 12 w1 → FE ksM [(72, 0, 12), (73, 0, 10), (76, 0, 2600)] w0 w1 → lv_has ls 12 [(0, .ref (ad 0)), (1, .int a1), (2, .int a2), (3, .int a3), (4, .int a4), (5, .int 1), (6, .int a6), (7, .int v41_7)] → W p l e ({ frames := 5, cells := 0, slots := 0, locals := 103 }) s m (List.toArray [.ref (ad 0), .int a1, .int a2, .int a3, .int a4, .int 1, .int a6]) below meth c H locs 0 0 (MQ below (va_Qv (P_X12_leads_2 ad cy B qr s1 a1 a2 a3 a4 a6 w0) (fun u : va_W => wpost dC dI cy A u) A) (List.toArray [.ref (ad 0), .int a1, .int a2, .int a3, .int a4, .int 1, .int a6]) s 0 0 A) (F0 m 41 ls []) := by
    intro v41_7 H locs ls w1 r2 t3 r4 t5 r6 t7 r8 t9 r10 t11 hw hT hF hl
    exact tk_vret hC hr hlocks hK ⟨hT, hF, trivial⟩ hw dX12_leads_41
  have J181 : ∀ (v181_7 : Int32) (v181_8 : Int32) (v181_9 : Int32) (v181_10 : Int32) (f181_12__9_a1_toInt_217_toNat : Int32) (H : Heap) (locs : List Loc) (ls : Array Slot) (w12 : va_W), 0 ≤ a1.toInt → a1.toInt ≤ 3 → 0 ≤ a2.toInt → a2.toInt ≤ 1073741824 → 0 ≤ a3.toInt → a3.toInt ≤ 120 → 0 ≤ a4.toInt → a4.toInt ≤ 9 → 0 ≤ a6.toInt → a6.toInt ≤ 120 → 0 ≤ v181_8.toInt → v181_8.toInt ≤ 1073741944 → 0 ≤ v181_9.toInt → v181_9.toInt ≤ 1 → (-1) ≤ v181_10.toInt → v181_10.toInt ≤ 11 → 0 ≤ f181_12__9_a1_toInt_217_toNat.toInt → f181_12__9_a1_toInt_217_toNat.toInt ≤ 9 → Wd dC dI A s.heap H locs w12 → TW ksM ad cy B qr 12 w12 → FE ksM [(72, 0, 12), (73, 0, 10), (76, 0, 2600)] w0 w12 → gi w12 12 (9 * a1.toInt + 217).toNat = f181_12__9_a1_toInt_217_toNat → lv_has ls 12 [(0, .ref (ad 0)), (1, .int a1), (2, .int a2), (3, .int a3), (4, .int a4), (5, .int 1), (6, .int a6), (7, .int v181_7), (8, .int v181_8), (9, .int v181_9), (10, .int v181_10)] → W p l e ({ frames := 5, cells := 0, slots := 0, locals := 103 }) s m (List.toArray [.ref (ad 0), .int a1, .int a2, .int a3, .int a4, .int 1, .int a6]) below meth c H locs 0 0 (MQ below (va_Qv (P_X12_leads_2 ad cy B qr s1 a1 a2 a3 a4 a6 w0) (fun u : va_W => wpost dC dI cy A u) A) (List.toArray [.ref (ad 0), .int a1, .int a2, .int a3, .int a4, .int 1, .int a6]) s 0 0 A) (F0 m 181 ls []) := by
    intro v181_7 v181_8 v181_9 v181_10 f181_12__9_a1_toInt_217_toNat H locs ls w12 r13 t14 r15 t16 r17 t18 r19 t20 r21 t22 r23 t24 r25 t26 r27 t28 r29 t30 hw hT hF c31 hl
    exact tk_vret hC hr hlocks hK ⟨hT, hF, trivial⟩ hw dX12_leads_181
  have J241 : ∀ (v241_7 : Int32) (v241_8 : Int32) (v241_9 : Int32) (v241_10 : Int32) (v241_11 : Int32) (f241_12__9_a1_toInt_217_toNat : Int32) (f241_12_1 : Int32) (H : Heap) (locs : List Loc) (ls : Array Slot) (w32 : va_W), 0 ≤ a1.toInt → a1.toInt ≤ 3 → 0 ≤ a2.toInt → a2.toInt ≤ 1073741824 → 0 ≤ a3.toInt → a3.toInt ≤ 120 → 0 ≤ a4.toInt → a4.toInt ≤ 9 → 0 ≤ a6.toInt → a6.toInt ≤ 120 → 0 ≤ v241_8.toInt → v241_8.toInt ≤ 1073741944 → 0 ≤ v241_9.toInt → v241_9.toInt ≤ 1 → 0 ≤ v241_10.toInt → v241_10.toInt ≤ 11 → 0 ≤ v241_11.toInt → v241_11.toInt ≤ 129 → 0 ≤ f241_12__9_a1_toInt_217_toNat.toInt → f241_12__9_a1_toInt_217_toNat.toInt ≤ 9 → 1 ≤ f241_12_1.toInt → f241_12_1.toInt ≤ 12 → Wd dC dI A s.heap H locs w32 → TW ksM ad cy B qr 12 w32 → FE ksM [(72, 0, 12), (73, 0, 10), (76, 0, 2600)] w0 w32 → gi w32 12 (9 * a1.toInt + 217).toNat = f241_12__9_a1_toInt_217_toNat → gi w32 12 1 = f241_12_1 → lv_has ls 12 [(0, .ref (ad 0)), (1, .int a1), (2, .int a2), (3, .int a3), (4, .int a4), (5, .int 1), (6, .int a6), (7, .int v241_7), (8, .int v241_8), (9, .int v241_9), (10, .int v241_10), (11, .int v241_11)] → W p l e ({ frames := 5, cells := 0, slots := 0, locals := 103 }) s m (List.toArray [.ref (ad 0), .int a1, .int a2, .int a3, .int a4, .int 1, .int a6]) below meth c H locs 0 0 (MQ below (va_Qv (P_X12_leads_2 ad cy B qr s1 a1 a2 a3 a4 a6 w0) (fun u : va_W => wpost dC dI cy A u) A) (List.toArray [.ref (ad 0), .int a1, .int a2, .int a3, .int a4, .int 1, .int a6]) s 0 0 A) (F0 m 241 ls []) := by
    intro v241_7 v241_8 v241_9 v241_10 v241_11 f241_12__9_a1_toInt_217_toNat f241_12_1 H locs ls w32 r33 t34 r35 t36 r37 t38 r39 t40 r41 t42 r43 t44 r45 t46 r47 t48 r49 t50 r51 t52 r54 t55 hw hT hF c53 c56 hl
    exact tk_vret hC hr hlocks hK ⟨hT, hF, trivial⟩ hw dX12_leads_241
  have J145 : ∀ (v145_7 : Int32) (v145_8 : Int32) (v145_9 : Int32) (f145_12__9_a1_toInt_217_toNat : Int32) (H : Heap) (locs : List Loc) (ls : Array Slot) (w57 : va_W), 0 ≤ a1.toInt → a1.toInt ≤ 3 → 0 ≤ a2.toInt → a2.toInt ≤ 1073741824 → 0 ≤ a3.toInt → a3.toInt ≤ 120 → 0 ≤ a4.toInt → a4.toInt ≤ 9 → 0 ≤ a6.toInt → a6.toInt ≤ 120 → 0 ≤ v145_8.toInt → v145_8.toInt ≤ 1073741944 → 0 ≤ v145_9.toInt → v145_9.toInt ≤ 1 → 0 ≤ f145_12__9_a1_toInt_217_toNat.toInt → f145_12__9_a1_toInt_217_toNat.toInt ≤ 9 → Wd dC dI A s.heap H locs w57 → TW ksM ad cy B qr 12 w57 → FE ksM [(72, 0, 12), (73, 0, 10), (76, 0, 2600)] w0 w57 → gi w57 12 (9 * a1.toInt + 217).toNat = f145_12__9_a1_toInt_217_toNat → lv_has ls 12 [(0, .ref (ad 0)), (1, .int a1), (2, .int a2), (3, .int a3), (4, .int a4), (5, .int 1), (6, .int a6), (7, .int v145_7), (8, .int v145_8), (9, .int v145_9)] → W p l e ({ frames := 5, cells := 0, slots := 0, locals := 103 }) s m (List.toArray [.ref (ad 0), .int a1, .int a2, .int a3, .int a4, .int 1, .int a6]) below meth c H locs 0 0 (MQ below (va_Qv (P_X12_leads_2 ad cy B qr s1 a1 a2 a3 a4 a6 w0) (fun u : va_W => wpost dC dI cy A u) A) (List.toArray [.ref (ad 0), .int a1, .int a2, .int a3, .int a4, .int 1, .int a6]) s 0 0 A) (F0 m 145 ls []) := by
    intro v145_7 v145_8 v145_9 f145_12__9_a1_toInt_217_toNat H locs ls w57 r58 t59 r60 t61 r62 t63 r64 t65 r66 t67 r68 t69 r70 t71 r72 t73 hw hT hF c74 hl
    refine lv_aload_n hx hb dX12_leads_145 rfl (lv_at hl 0 rfl) ?_
    refine lv_aload_n hx hb dX12_leads_146 rfl (lv_at hl 0 rfl) ?_
    refine lv_iload_n hx hb dX12_leads_147 rfl (lv_at hl 1 rfl) ?_
    refine lv_iconst (v := 1) hx hb dX12_leads_148 (by decide) ?_
    refine tk_Vi hC hK hw hT hA hE hSR kM_at0 (by decide) rfl (k_X12_walkerOf_3 l adK adV dC dI cy ad B (by omega) (by omega) qr s1   a1 (show 0 ≤ a1.toInt by omega) (show a1.toInt ≤ 3 by omega) w57 H.size hT ) (cwV 2 hC.2.2.2.2 gX12_leads_X12_walkerOf rfl rfl rfl (by decide +kernel) ⟨Nat.le_of_ble_eq_true rfl, Nat.le_of_ble_eq_true rfl⟩) rfl hl.1 rfl (Nat.le_of_ble_eq_true rfl) dX12_leads_149 (fun r75 w77 H locs hp76 hw => ?_)
    obtain ⟨rfl, hg82⟩ := hp76
    obtain ⟨g79, g80, c81⟩ := hg82
    obtain rfl : r75 = f145_12__9_a1_toInt_217_toNat := c81.symm.trans c74
    refine tk_Vv hC hK hw hT hA hE hSR kM_at0 (by decide) rfl (k_X12_spreads_1 l adK adV dC dI cy ad B (by omega) (by omega) qr s1   f145_12__9_a1_toInt_217_toNat (show 0 ≤ f145_12__9_a1_toInt_217_toNat.toInt by omega) (show f145_12__9_a1_toInt_217_toNat.toInt ≤ 9 by omega) w57 H.size hT ) (cwV 1 hC.2.2.2.2 gX12_leads_X12_spreads rfl rfl rfl (by decide +kernel) ⟨Nat.le_of_ble_eq_true rfl, Nat.le_of_ble_eq_true rfl⟩) rfl hl.1 rfl (Nat.le_of_ble_eq_true rfl) dX12_leads_152 (fun w85 H locs hp84 hw => ?_)
    obtain ⟨hT, k86, hg87⟩ := hp84
    have hF := hF.tr k86 (by decide)
    have c88 := k86.gi kM_at12 rfl c74
    clear hg87
    refine lv_aload_n hx hb dX12_leads_155 rfl (lv_at hl 0 rfl) ?_
    refine lv_iload hx hb dX12_leads_156 (lv_at hl 4 rfl) ?_
    refine tk_Vi hC hK hw hT hA hE hSR kM_at0 (by decide) rfl (k_X12_streetFrom_1 l adK adV dC dI cy ad B (by omega) (by omega) qr s1   a4 (show 0 ≤ a4.toInt by omega) (show a4.toInt ≤ 9 by omega) w85 H.size hT ) (cwV 1 hC.2.2.2.2 gX12_leads_X12_streetFrom rfl rfl rfl (by decide +kernel) ⟨Nat.le_of_ble_eq_true rfl, Nat.le_of_ble_eq_true rfl⟩) rfl hl.1 rfl (Nat.le_of_ble_eq_true rfl) dX12_leads_158 (fun r89 w91 H locs hp90 hw => ?_)
    obtain ⟨rfl, hg102⟩ := hp90
    rcases hg102 with ⟨g93, g94, ⟨x95, c96, rx95, tx95⟩⟩ | ⟨g97, g98, ⟨x99, c100, rx99, tx99⟩, c101⟩ | rfl
    · refine lv_istore (lv' := [(10, .int r89), (0, .ref (ad 0)), (1, .int a1), (2, .int a2), (3, .int a3), (4, .int a4), (5, .int 1), (6, .int a6), (7, .int v145_7), (8, .int v145_8), (9, .int v145_9)]) hx hb dX12_leads_161 hl (by decide) rfl (fun ls hl => ?_)
      refine lv_iload hx hb dX12_leads_163 (lv_at hl 0 rfl) ?_
      refine lv_if_lt (tgt := 181) hx hb dX12_leads_165 (by decide) (fun c => absurd c (fun h => absurd (show r89.toInt < (0 : Int) from wk_lt.mp h) (by omega))) (fun _ => ?_)
      refine lv_aload_n hx hb dX12_leads_168 rfl (lv_at hl 1 rfl) ?_
      refine lv_iload hx hb dX12_leads_169 (lv_at hl 0 rfl) ?_
      refine lv_iload hx hb dX12_leads_171 (lv_at hl 5 rfl) ?_
      refine lv_iload hx hb dX12_leads_173 (lv_at hl 9 rfl) ?_
      refine tk_Vi hC hK hw hT hA hE hSR kM_at0 (by decide) rfl (k_X12_isOpen_2 l adK adV dC dI cy ad B (by omega) (by omega) qr s1   r89 (show 0 ≤ r89.toInt by omega) (show r89.toInt ≤ 11 by omega) a4 (show 0 ≤ a4.toInt by omega) (show a4.toInt ≤ 9 by omega) v145_8 (show 0 ≤ v145_8.toInt by omega) (show v145_8.toInt ≤ 1073741944 by omega) w85 H.size hT ) (cwV 3 hC.2.2.2.2 gX12_leads_X12_isOpen rfl rfl rfl (by decide +kernel) ⟨Nat.le_of_ble_eq_true rfl, Nat.le_of_ble_eq_true rfl⟩) rfl hl.1 rfl (Nat.le_of_ble_eq_true rfl) dX12_leads_175 (fun r103 w105 H locs hp104 hw => ?_)
      obtain ⟨rfl, hg108⟩ := hp104
      rcases hg108 with rfl | rfl | ⟨rfl, c107⟩
      · refine lv_if_ne (tgt := 182) hx hb dX12_leads_178 (by decide) (fun c => absurd (by decide) c) (fun _ => ?_)
        exact J181 v145_7 v145_8 v145_9 r89 f145_12__9_a1_toInt_217_toNat H locs ls w85 (show 0 ≤ a1.toInt by omega) (show a1.toInt ≤ 3 by omega) (show 0 ≤ a2.toInt by omega) (show a2.toInt ≤ 1073741824 by omega) (show 0 ≤ a3.toInt by omega) (show a3.toInt ≤ 120 by omega) (show 0 ≤ a4.toInt by omega) (show a4.toInt ≤ 9 by omega) (show 0 ≤ a6.toInt by omega) (show a6.toInt ≤ 120 by omega) (show 0 ≤ v145_8.toInt by omega) (show v145_8.toInt ≤ 1073741944 by omega) (show 0 ≤ v145_9.toInt by omega) (show v145_9.toInt ≤ 1 by omega) (show (-1) ≤ r89.toInt by omega) (show r89.toInt ≤ 11 by omega) (show 0 ≤ f145_12__9_a1_toInt_217_toNat.toInt by omega) (show f145_12__9_a1_toInt_217_toNat.toInt ≤ 9 by omega)  hw hT hF c88 (lv_sub hl [1, 2, 3, 4, 5, 6, 7, 8, 9, 10, 0] rfl)
      · refine lv_if_ne (tgt := 182) hx hb dX12_leads_178 (by decide) (fun _ => ?_) (fun c => absurd c (by decide))
        refine lv_iload_n hx hb dX12_leads_182 rfl (lv_at hl 4 rfl) ?_
        refine lv_aload_n hx hb dX12_leads_183 rfl (lv_at hl 1 rfl) ?_
        refine lv_iload hx hb dX12_leads_184 (lv_at hl 0 rfl) ?_
        refine lv_iconst (v := 2) hx hb dX12_leads_186 (by decide) ?_
        refine tk_Vi hC hK hw hT hA hE hSR kM_at0 (by decide) rfl (k_X12_streetOf_6 l adK adV dC dI cy ad B (by omega) (by omega) qr s1   r89 (show 0 ≤ r89.toInt by omega) (show r89.toInt ≤ 11 by omega) w85 H.size hT ) (cwV 2 hC.2.2.2.2 gX12_leads_X12_streetOf rfl rfl rfl (by decide +kernel) ⟨Nat.le_of_ble_eq_true rfl, Nat.le_of_ble_eq_true rfl⟩) rfl hl.1 rfl (Nat.le_of_ble_eq_true rfl) dX12_leads_187 (fun r109 w111 H locs hp110 hw => ?_)
        obtain ⟨rfl, hg116⟩ := hp110
        obtain ⟨g113, g114, c115⟩ := hg116
        refine lv_iadd hx hb dX12_leads_190 ?_
        refine lv_topi (fun x117 ex117 => ?_)
        have ex117 : x117.toInt = a3.toInt + r109.toInt := by rw [ex117]; exact wk_add (show (-2147483648) ≤ a3.toInt + r109.toInt by omega) (show a3.toInt + r109.toInt ≤ 2147483647 by omega)
        refine lv_istore (lv' := [(11, .int x117), (10, .int r89), (0, .ref (ad 0)), (1, .int a1), (2, .int a2), (3, .int a3), (4, .int a4), (5, .int 1), (6, .int a6), (7, .int v145_7), (8, .int v145_8), (9, .int v145_9)]) hx hb dX12_leads_191 hl (by decide) rfl (fun ls hl => ?_)
        refine lv_iload hx hb dX12_leads_193 (lv_at hl 0 rfl) ?_
        refine lv_iload hx hb dX12_leads_195 (lv_at hl 8 rfl) ?_
        refine lv_icmp_gt (tgt := 241) hx hb dX12_leads_197 (by decide) (fun c118 => ?_) (fun c118 => ?_)
        · have c118 : a6.toInt < x117.toInt := wk_lt.mp c118
          exact J241 v145_7 v145_8 v145_9 r89 x117 f145_12__9_a1_toInt_217_toNat x95 H locs ls w85 (show 0 ≤ a1.toInt by omega) (show a1.toInt ≤ 3 by omega) (show 0 ≤ a2.toInt by omega) (show a2.toInt ≤ 1073741824 by omega) (show 0 ≤ a3.toInt by omega) (show a3.toInt ≤ 120 by omega) (show 0 ≤ a4.toInt by omega) (show a4.toInt ≤ 9 by omega) (show 0 ≤ a6.toInt by omega) (show a6.toInt ≤ 120 by omega) (show 0 ≤ v145_8.toInt by omega) (show v145_8.toInt ≤ 1073741944 by omega) (show 0 ≤ v145_9.toInt by omega) (show v145_9.toInt ≤ 1 by omega) (show 0 ≤ r89.toInt by omega) (show r89.toInt ≤ 11 by omega) (show 0 ≤ x117.toInt by omega) (show x117.toInt ≤ 129 by omega) (show 0 ≤ f145_12__9_a1_toInt_217_toNat.toInt by omega) (show f145_12__9_a1_toInt_217_toNat.toInt ≤ 9 by omega) (show 1 ≤ x95.toInt by omega) (show x95.toInt ≤ 12 by omega)  hw hT hF c88 c96 (lv_sub hl [2, 3, 4, 5, 6, 7, 8, 9, 10, 11, 1, 0] rfl)
        · have c118 : x117.toInt ≤ a6.toInt := wk_ltF c118
          refine lv_aload_n hx hb dX12_leads_200 rfl (lv_at hl 2 rfl) ?_
          refine lv_iload hx hb dX12_leads_201 (lv_at hl 0 rfl) ?_
          refine lv_aload_n hx hb dX12_leads_203 rfl (lv_at hl 2 rfl) ?_
          refine lv_iload hx hb dX12_leads_204 (lv_at hl 1 rfl) ?_
          refine lv_iload hx hb dX12_leads_206 (lv_at hl 6 rfl) ?_
          refine tk_Vi hC hK hw hT hA hE hSR kM_at0 (by decide) rfl (k_X12_otherOf_1 l adK adV dC dI cy ad B (by omega) (by omega) qr s1   r89 (show 0 ≤ r89.toInt by omega) (show r89.toInt ≤ 11 by omega) a4 (show 0 ≤ a4.toInt by omega) (show a4.toInt ≤ 9 by omega) w85 H.size hT ) (cwV 2 hC.2.2.2.2 gX12_leads_X12_otherOf rfl rfl rfl (by decide +kernel) ⟨Nat.le_of_ble_eq_true rfl, Nat.le_of_ble_eq_true rfl⟩) rfl hl.1 rfl (Nat.le_of_ble_eq_true rfl) dX12_leads_208 (fun r119 w121 H locs hp120 hw => ?_)
          obtain ⟨rfl, hg128⟩ := hp120
          rcases hg128 with ⟨g123, g124⟩ | ⟨g125, g126, c127⟩
          · refine lv_iload hx hb dX12_leads_211 (lv_at hl 7 rfl) ?_
            refine lv_if_eq (tgt := 235) hx hb dX12_leads_213 (by decide) (fun c => absurd c (by decide)) (fun _ => ?_)
            refine lv_iload_n hx hb dX12_leads_216 rfl (lv_at hl 4 rfl) ?_
            refine lv_iload hx hb dX12_leads_217 (lv_at hl 0 rfl) ?_
            refine lv_iadd hx hb dX12_leads_219 ?_
            refine lv_topi (fun x129 ex129 => ?_)
            have ex129 : x129.toInt = a2.toInt + x117.toInt := by rw [ex129]; exact wk_add (show (-2147483648) ≤ a2.toInt + x117.toInt by omega) (show a2.toInt + x117.toInt ≤ 2147483647 by omega)
            refine lv_bipush (v := 24) hx hb dX12_leads_220 (by decide) ?_
            refine lv_idiv hx hb dX12_leads_222 (by decide) ?_
            refine lv_topi (fun x130 ex130 => ?_)
            have ex130 : x130.toInt = x129.toInt / (24 : Int) := by rw [ex130]; exact wk_div (show 0 ≤ x129.toInt by omega) (show 0 < (24 : Int) by decide)
            refine lv_iload hx hb dX12_leads_223 (lv_at hl 10 rfl) ?_
            refine lv_bipush (v := 24) hx hb dX12_leads_225 (by decide) ?_
            refine lv_idiv hx hb dX12_leads_227 (by decide) ?_
            refine lv_topi (fun x131 ex131 => ?_)
            have ex131 : x131.toInt = v145_8.toInt / (24 : Int) := by rw [ex131]; exact wk_div (show 0 ≤ v145_8.toInt by omega) (show 0 < (24 : Int) by decide)
            refine lv_icmp_ne (tgt := 235) hx hb dX12_leads_228 (by decide) (fun c132 => ?_) (fun c132 => ?_)
            · have c132 : ¬ x130.toInt = x131.toInt := wk_eqF c132
              refine lv_iconst (v := 0) hx hb dX12_leads_235 (by decide) ?_
              refine lv_iload hx hb dX12_leads_236 (lv_at hl 9 rfl) ?_
              refine tk_Vv hC hK hw hT hA hE hSR kM_at0 (by decide) rfl (k_X12_could_1 l adK adV dC dI cy ad B (by omega) (by omega) qr s1   x117 (show 0 ≤ x117.toInt by omega) (show x117.toInt ≤ 120 by omega) r119 (show 0 ≤ r119.toInt by omega) (show r119.toInt ≤ 9 by omega) v145_7 w85 H.size hT ) (cwV 4 hC.2.2.2.2 gX12_leads_X12_could rfl rfl rfl (by decide +kernel) ⟨Nat.le_of_ble_eq_true rfl, Nat.le_of_ble_eq_true rfl⟩) rfl hl.1 rfl (Nat.le_of_ble_eq_true rfl) dX12_leads_238 (fun w135 H locs hp134 hw => ?_)
              obtain ⟨hT, k136, hg137⟩ := hp134
              have hF := hF.tr k136 (by decide)
              have c138 := k136.gi kM_at12 rfl c88
              have c139 := k136.gi kM_at12 (by decide) c96
              have c140 := k136.gi kM_at12 rfl c115
              clear hg137
              exact J241 v145_7 v145_8 v145_9 r89 x117 f145_12__9_a1_toInt_217_toNat x95 H locs ls w135 (show 0 ≤ a1.toInt by omega) (show a1.toInt ≤ 3 by omega) (show 0 ≤ a2.toInt by omega) (show a2.toInt ≤ 1073741824 by omega) (show 0 ≤ a3.toInt by omega) (show a3.toInt ≤ 120 by omega) (show 0 ≤ a4.toInt by omega) (show a4.toInt ≤ 9 by omega) (show 0 ≤ a6.toInt by omega) (show a6.toInt ≤ 120 by omega) (show 0 ≤ v145_8.toInt by omega) (show v145_8.toInt ≤ 1073741944 by omega) (show 0 ≤ v145_9.toInt by omega) (show v145_9.toInt ≤ 1 by omega) (show 0 ≤ r89.toInt by omega) (show r89.toInt ≤ 11 by omega) (show 0 ≤ x117.toInt by omega) (show x117.toInt ≤ 129 by omega) (show 0 ≤ f145_12__9_a1_toInt_217_toNat.toInt by omega) (show f145_12__9_a1_toInt_217_toNat.toInt ≤ 9 by omega) (show 1 ≤ x95.toInt by omega) (show x95.toInt ≤ 12 by omega)  hw hT hF c138 c139 (lv_sub hl [2, 3, 4, 5, 6, 7, 8, 9, 10, 11, 1, 0] rfl)
            · have c132 : x130.toInt = x131.toInt := wk_eq.mp c132
              refine lv_iconst (v := 1) hx hb dX12_leads_231 (by decide) ?_
              refine lv_goto (tgt := 236) hx hb dX12_leads_232 (by decide) ?_
              refine lv_iload hx hb dX12_leads_236 (lv_at hl 9 rfl) ?_
              refine tk_Vv hC hK hw hT hA hE hSR kM_at0 (by decide) rfl (k_X12_could_4 l adK adV dC dI cy ad B (by omega) (by omega) qr s1   x117 (show 0 ≤ x117.toInt by omega) (show x117.toInt ≤ 120 by omega) r119 (show 0 ≤ r119.toInt by omega) (show r119.toInt ≤ 9 by omega) v145_7 w85 H.size hT ) (cwV 4 hC.2.2.2.2 gX12_leads_X12_could rfl rfl rfl (by decide +kernel) ⟨Nat.le_of_ble_eq_true rfl, Nat.le_of_ble_eq_true rfl⟩) rfl hl.1 rfl (Nat.le_of_ble_eq_true rfl) dX12_leads_238 (fun w143 H locs hp142 hw => ?_)
              obtain ⟨hT, k144, hg145⟩ := hp142
              have hF := hF.tr k144 (by decide)
              have c146 := k144.gi kM_at12 rfl c88
              have c147 := k144.gi kM_at12 (by decide) c96
              have c148 := k144.gi kM_at12 rfl c115
              clear hg145
              exact J241 v145_7 v145_8 v145_9 r89 x117 f145_12__9_a1_toInt_217_toNat x95 H locs ls w143 (show 0 ≤ a1.toInt by omega) (show a1.toInt ≤ 3 by omega) (show 0 ≤ a2.toInt by omega) (show a2.toInt ≤ 1073741824 by omega) (show 0 ≤ a3.toInt by omega) (show a3.toInt ≤ 120 by omega) (show 0 ≤ a4.toInt by omega) (show a4.toInt ≤ 9 by omega) (show 0 ≤ a6.toInt by omega) (show a6.toInt ≤ 120 by omega) (show 0 ≤ v145_8.toInt by omega) (show v145_8.toInt ≤ 1073741944 by omega) (show 0 ≤ v145_9.toInt by omega) (show v145_9.toInt ≤ 1 by omega) (show 0 ≤ r89.toInt by omega) (show r89.toInt ≤ 11 by omega) (show 0 ≤ x117.toInt by omega) (show x117.toInt ≤ 129 by omega) (show 0 ≤ f145_12__9_a1_toInt_217_toNat.toInt by omega) (show f145_12__9_a1_toInt_217_toNat.toInt ≤ 9 by omega) (show 1 ≤ x95.toInt by omega) (show x95.toInt ≤ 12 by omega)  hw hT hF c146 c147 (lv_sub hl [2, 3, 4, 5, 6, 7, 8, 9, 10, 11, 1, 0] rfl)
          · refine lv_iload hx hb dX12_leads_211 (lv_at hl 7 rfl) ?_
            refine lv_if_eq (tgt := 235) hx hb dX12_leads_213 (by decide) (fun c => absurd c (by decide)) (fun _ => ?_)
            refine lv_iload_n hx hb dX12_leads_216 rfl (lv_at hl 4 rfl) ?_
            refine lv_iload hx hb dX12_leads_217 (lv_at hl 0 rfl) ?_
            refine lv_iadd hx hb dX12_leads_219 ?_
            refine lv_topi (fun x149 ex149 => ?_)
            have ex149 : x149.toInt = a2.toInt + x117.toInt := by rw [ex149]; exact wk_add (show (-2147483648) ≤ a2.toInt + x117.toInt by omega) (show a2.toInt + x117.toInt ≤ 2147483647 by omega)
            refine lv_bipush (v := 24) hx hb dX12_leads_220 (by decide) ?_
            refine lv_idiv hx hb dX12_leads_222 (by decide) ?_
            refine lv_topi (fun x150 ex150 => ?_)
            have ex150 : x150.toInt = x149.toInt / (24 : Int) := by rw [ex150]; exact wk_div (show 0 ≤ x149.toInt by omega) (show 0 < (24 : Int) by decide)
            refine lv_iload hx hb dX12_leads_223 (lv_at hl 10 rfl) ?_
            refine lv_bipush (v := 24) hx hb dX12_leads_225 (by decide) ?_
            refine lv_idiv hx hb dX12_leads_227 (by decide) ?_
            refine lv_topi (fun x151 ex151 => ?_)
            have ex151 : x151.toInt = v145_8.toInt / (24 : Int) := by rw [ex151]; exact wk_div (show 0 ≤ v145_8.toInt by omega) (show 0 < (24 : Int) by decide)
            refine lv_icmp_ne (tgt := 235) hx hb dX12_leads_228 (by decide) (fun c152 => ?_) (fun c152 => ?_)
            · have c152 : ¬ x150.toInt = x151.toInt := wk_eqF c152
              refine lv_iconst (v := 0) hx hb dX12_leads_235 (by decide) ?_
              refine lv_iload hx hb dX12_leads_236 (lv_at hl 9 rfl) ?_
              refine tk_Vv hC hK hw hT hA hE hSR kM_at0 (by decide) rfl (k_X12_could_1 l adK adV dC dI cy ad B (by omega) (by omega) qr s1   x117 (show 0 ≤ x117.toInt by omega) (show x117.toInt ≤ 120 by omega) r119 (show 0 ≤ r119.toInt by omega) (show r119.toInt ≤ 9 by omega) v145_7 w85 H.size hT ) (cwV 4 hC.2.2.2.2 gX12_leads_X12_could rfl rfl rfl (by decide +kernel) ⟨Nat.le_of_ble_eq_true rfl, Nat.le_of_ble_eq_true rfl⟩) rfl hl.1 rfl (Nat.le_of_ble_eq_true rfl) dX12_leads_238 (fun w155 H locs hp154 hw => ?_)
              obtain ⟨hT, k156, hg157⟩ := hp154
              have hF := hF.tr k156 (by decide)
              have c158 := k156.gi kM_at12 rfl c88
              have c159 := k156.gi kM_at12 (by decide) c96
              have c160 := k156.gi kM_at12 rfl c115
              have c161 := k156.gi kM_at12 rfl c127
              clear hg157
              exact J241 v145_7 v145_8 v145_9 r89 x117 f145_12__9_a1_toInt_217_toNat x95 H locs ls w155 (show 0 ≤ a1.toInt by omega) (show a1.toInt ≤ 3 by omega) (show 0 ≤ a2.toInt by omega) (show a2.toInt ≤ 1073741824 by omega) (show 0 ≤ a3.toInt by omega) (show a3.toInt ≤ 120 by omega) (show 0 ≤ a4.toInt by omega) (show a4.toInt ≤ 9 by omega) (show 0 ≤ a6.toInt by omega) (show a6.toInt ≤ 120 by omega) (show 0 ≤ v145_8.toInt by omega) (show v145_8.toInt ≤ 1073741944 by omega) (show 0 ≤ v145_9.toInt by omega) (show v145_9.toInt ≤ 1 by omega) (show 0 ≤ r89.toInt by omega) (show r89.toInt ≤ 11 by omega) (show 0 ≤ x117.toInt by omega) (show x117.toInt ≤ 129 by omega) (show 0 ≤ f145_12__9_a1_toInt_217_toNat.toInt by omega) (show f145_12__9_a1_toInt_217_toNat.toInt ≤ 9 by omega) (show 1 ≤ x95.toInt by omega) (show x95.toInt ≤ 12 by omega)  hw hT hF c158 c159 (lv_sub hl [2, 3, 4, 5, 6, 7, 8, 9, 10, 11, 1, 0] rfl)
            · have c152 : x150.toInt = x151.toInt := wk_eq.mp c152
              refine lv_iconst (v := 1) hx hb dX12_leads_231 (by decide) ?_
              refine lv_goto (tgt := 236) hx hb dX12_leads_232 (by decide) ?_
              refine lv_iload hx hb dX12_leads_236 (lv_at hl 9 rfl) ?_
              refine tk_Vv hC hK hw hT hA hE hSR kM_at0 (by decide) rfl (k_X12_could_4 l adK adV dC dI cy ad B (by omega) (by omega) qr s1   x117 (show 0 ≤ x117.toInt by omega) (show x117.toInt ≤ 120 by omega) r119 (show 0 ≤ r119.toInt by omega) (show r119.toInt ≤ 9 by omega) v145_7 w85 H.size hT ) (cwV 4 hC.2.2.2.2 gX12_leads_X12_could rfl rfl rfl (by decide +kernel) ⟨Nat.le_of_ble_eq_true rfl, Nat.le_of_ble_eq_true rfl⟩) rfl hl.1 rfl (Nat.le_of_ble_eq_true rfl) dX12_leads_238 (fun w164 H locs hp163 hw => ?_)
              obtain ⟨hT, k165, hg166⟩ := hp163
              have hF := hF.tr k165 (by decide)
              have c167 := k165.gi kM_at12 rfl c88
              have c168 := k165.gi kM_at12 (by decide) c96
              have c169 := k165.gi kM_at12 rfl c115
              have c170 := k165.gi kM_at12 rfl c127
              clear hg166
              exact J241 v145_7 v145_8 v145_9 r89 x117 f145_12__9_a1_toInt_217_toNat x95 H locs ls w164 (show 0 ≤ a1.toInt by omega) (show a1.toInt ≤ 3 by omega) (show 0 ≤ a2.toInt by omega) (show a2.toInt ≤ 1073741824 by omega) (show 0 ≤ a3.toInt by omega) (show a3.toInt ≤ 120 by omega) (show 0 ≤ a4.toInt by omega) (show a4.toInt ≤ 9 by omega) (show 0 ≤ a6.toInt by omega) (show a6.toInt ≤ 120 by omega) (show 0 ≤ v145_8.toInt by omega) (show v145_8.toInt ≤ 1073741944 by omega) (show 0 ≤ v145_9.toInt by omega) (show v145_9.toInt ≤ 1 by omega) (show 0 ≤ r89.toInt by omega) (show r89.toInt ≤ 11 by omega) (show 0 ≤ x117.toInt by omega) (show x117.toInt ≤ 129 by omega) (show 0 ≤ f145_12__9_a1_toInt_217_toNat.toInt by omega) (show f145_12__9_a1_toInt_217_toNat.toInt ≤ 9 by omega) (show 1 ≤ x95.toInt by omega) (show x95.toInt ≤ 12 by omega)  hw hT hF c167 c168 (lv_sub hl [2, 3, 4, 5, 6, 7, 8, 9, 10, 11, 1, 0] rfl)
      · refine lv_if_ne (tgt := 182) hx hb dX12_leads_178 (by decide) (fun _ => ?_) (fun c => absurd c (by decide))
        refine lv_iload_n hx hb dX12_leads_182 rfl (lv_at hl 4 rfl) ?_
        refine lv_aload_n hx hb dX12_leads_183 rfl (lv_at hl 1 rfl) ?_
        refine lv_iload hx hb dX12_leads_184 (lv_at hl 0 rfl) ?_
        refine lv_iconst (v := 2) hx hb dX12_leads_186 (by decide) ?_
        refine tk_Vi hC hK hw hT hA hE hSR kM_at0 (by decide) rfl (k_X12_streetOf_6 l adK adV dC dI cy ad B (by omega) (by omega) qr s1   r89 (show 0 ≤ r89.toInt by omega) (show r89.toInt ≤ 11 by omega) w85 H.size hT ) (cwV 2 hC.2.2.2.2 gX12_leads_X12_streetOf rfl rfl rfl (by decide +kernel) ⟨Nat.le_of_ble_eq_true rfl, Nat.le_of_ble_eq_true rfl⟩) rfl hl.1 rfl (Nat.le_of_ble_eq_true rfl) dX12_leads_187 (fun r171 w173 H locs hp172 hw => ?_)
        obtain ⟨rfl, hg178⟩ := hp172
        obtain ⟨g175, g176, c177⟩ := hg178
        refine lv_iadd hx hb dX12_leads_190 ?_
        refine lv_topi (fun x179 ex179 => ?_)
        have ex179 : x179.toInt = a3.toInt + r171.toInt := by rw [ex179]; exact wk_add (show (-2147483648) ≤ a3.toInt + r171.toInt by omega) (show a3.toInt + r171.toInt ≤ 2147483647 by omega)
        refine lv_istore (lv' := [(11, .int x179), (10, .int r89), (0, .ref (ad 0)), (1, .int a1), (2, .int a2), (3, .int a3), (4, .int a4), (5, .int 1), (6, .int a6), (7, .int v145_7), (8, .int v145_8), (9, .int v145_9)]) hx hb dX12_leads_191 hl (by decide) rfl (fun ls hl => ?_)
        refine lv_iload hx hb dX12_leads_193 (lv_at hl 0 rfl) ?_
        refine lv_iload hx hb dX12_leads_195 (lv_at hl 8 rfl) ?_
        refine lv_icmp_gt (tgt := 241) hx hb dX12_leads_197 (by decide) (fun c180 => ?_) (fun c180 => ?_)
        · have c180 : a6.toInt < x179.toInt := wk_lt.mp c180
          exact J241 v145_7 v145_8 v145_9 r89 x179 f145_12__9_a1_toInt_217_toNat x95 H locs ls w85 (show 0 ≤ a1.toInt by omega) (show a1.toInt ≤ 3 by omega) (show 0 ≤ a2.toInt by omega) (show a2.toInt ≤ 1073741824 by omega) (show 0 ≤ a3.toInt by omega) (show a3.toInt ≤ 120 by omega) (show 0 ≤ a4.toInt by omega) (show a4.toInt ≤ 9 by omega) (show 0 ≤ a6.toInt by omega) (show a6.toInt ≤ 120 by omega) (show 0 ≤ v145_8.toInt by omega) (show v145_8.toInt ≤ 1073741944 by omega) (show 0 ≤ v145_9.toInt by omega) (show v145_9.toInt ≤ 1 by omega) (show 0 ≤ r89.toInt by omega) (show r89.toInt ≤ 11 by omega) (show 0 ≤ x179.toInt by omega) (show x179.toInt ≤ 129 by omega) (show 0 ≤ f145_12__9_a1_toInt_217_toNat.toInt by omega) (show f145_12__9_a1_toInt_217_toNat.toInt ≤ 9 by omega) (show 1 ≤ x95.toInt by omega) (show x95.toInt ≤ 12 by omega)  hw hT hF c88 c96 (lv_sub hl [2, 3, 4, 5, 6, 7, 8, 9, 10, 11, 1, 0] rfl)
        · have c180 : x179.toInt ≤ a6.toInt := wk_ltF c180
          refine lv_aload_n hx hb dX12_leads_200 rfl (lv_at hl 2 rfl) ?_
          refine lv_iload hx hb dX12_leads_201 (lv_at hl 0 rfl) ?_
          refine lv_aload_n hx hb dX12_leads_203 rfl (lv_at hl 2 rfl) ?_
          refine lv_iload hx hb dX12_leads_204 (lv_at hl 1 rfl) ?_
          refine lv_iload hx hb dX12_leads_206 (lv_at hl 6 rfl) ?_
          refine tk_Vi hC hK hw hT hA hE hSR kM_at0 (by decide) rfl (k_X12_otherOf_1 l adK adV dC dI cy ad B (by omega) (by omega) qr s1   r89 (show 0 ≤ r89.toInt by omega) (show r89.toInt ≤ 11 by omega) a4 (show 0 ≤ a4.toInt by omega) (show a4.toInt ≤ 9 by omega) w85 H.size hT ) (cwV 2 hC.2.2.2.2 gX12_leads_X12_otherOf rfl rfl rfl (by decide +kernel) ⟨Nat.le_of_ble_eq_true rfl, Nat.le_of_ble_eq_true rfl⟩) rfl hl.1 rfl (Nat.le_of_ble_eq_true rfl) dX12_leads_208 (fun r181 w183 H locs hp182 hw => ?_)
          obtain ⟨rfl, hg190⟩ := hp182
          rcases hg190 with ⟨g185, g186⟩ | ⟨g187, g188, c189⟩
          · refine lv_iload hx hb dX12_leads_211 (lv_at hl 7 rfl) ?_
            refine lv_if_eq (tgt := 235) hx hb dX12_leads_213 (by decide) (fun c => absurd c (by decide)) (fun _ => ?_)
            refine lv_iload_n hx hb dX12_leads_216 rfl (lv_at hl 4 rfl) ?_
            refine lv_iload hx hb dX12_leads_217 (lv_at hl 0 rfl) ?_
            refine lv_iadd hx hb dX12_leads_219 ?_
            refine lv_topi (fun x191 ex191 => ?_)
            have ex191 : x191.toInt = a2.toInt + x179.toInt := by rw [ex191]; exact wk_add (show (-2147483648) ≤ a2.toInt + x179.toInt by omega) (show a2.toInt + x179.toInt ≤ 2147483647 by omega)
            refine lv_bipush (v := 24) hx hb dX12_leads_220 (by decide) ?_
            refine lv_idiv hx hb dX12_leads_222 (by decide) ?_
            refine lv_topi (fun x192 ex192 => ?_)
            have ex192 : x192.toInt = x191.toInt / (24 : Int) := by rw [ex192]; exact wk_div (show 0 ≤ x191.toInt by omega) (show 0 < (24 : Int) by decide)
            refine lv_iload hx hb dX12_leads_223 (lv_at hl 10 rfl) ?_
            refine lv_bipush (v := 24) hx hb dX12_leads_225 (by decide) ?_
            refine lv_idiv hx hb dX12_leads_227 (by decide) ?_
            refine lv_topi (fun x193 ex193 => ?_)
            have ex193 : x193.toInt = v145_8.toInt / (24 : Int) := by rw [ex193]; exact wk_div (show 0 ≤ v145_8.toInt by omega) (show 0 < (24 : Int) by decide)
            refine lv_icmp_ne (tgt := 235) hx hb dX12_leads_228 (by decide) (fun c194 => ?_) (fun c194 => ?_)
            · have c194 : ¬ x192.toInt = x193.toInt := wk_eqF c194
              refine lv_iconst (v := 0) hx hb dX12_leads_235 (by decide) ?_
              refine lv_iload hx hb dX12_leads_236 (lv_at hl 9 rfl) ?_
              refine tk_Vv hC hK hw hT hA hE hSR kM_at0 (by decide) rfl (k_X12_could_1 l adK adV dC dI cy ad B (by omega) (by omega) qr s1   x179 (show 0 ≤ x179.toInt by omega) (show x179.toInt ≤ 120 by omega) r181 (show 0 ≤ r181.toInt by omega) (show r181.toInt ≤ 9 by omega) v145_7 w85 H.size hT ) (cwV 4 hC.2.2.2.2 gX12_leads_X12_could rfl rfl rfl (by decide +kernel) ⟨Nat.le_of_ble_eq_true rfl, Nat.le_of_ble_eq_true rfl⟩) rfl hl.1 rfl (Nat.le_of_ble_eq_true rfl) dX12_leads_238 (fun w197 H locs hp196 hw => ?_)
              obtain ⟨hT, k198, hg199⟩ := hp196
              have hF := hF.tr k198 (by decide)
              have c200 := k198.gi kM_at12 rfl c88
              have c201 := k198.gi kM_at12 (by decide) c96
              have c202 := k198.gi kM_at12 rfl c107
              have c203 := k198.gi kM_at12 rfl c177
              clear hg199
              exact J241 v145_7 v145_8 v145_9 r89 x179 f145_12__9_a1_toInt_217_toNat x95 H locs ls w197 (show 0 ≤ a1.toInt by omega) (show a1.toInt ≤ 3 by omega) (show 0 ≤ a2.toInt by omega) (show a2.toInt ≤ 1073741824 by omega) (show 0 ≤ a3.toInt by omega) (show a3.toInt ≤ 120 by omega) (show 0 ≤ a4.toInt by omega) (show a4.toInt ≤ 9 by omega) (show 0 ≤ a6.toInt by omega) (show a6.toInt ≤ 120 by omega) (show 0 ≤ v145_8.toInt by omega) (show v145_8.toInt ≤ 1073741944 by omega) (show 0 ≤ v145_9.toInt by omega) (show v145_9.toInt ≤ 1 by omega) (show 0 ≤ r89.toInt by omega) (show r89.toInt ≤ 11 by omega) (show 0 ≤ x179.toInt by omega) (show x179.toInt ≤ 129 by omega) (show 0 ≤ f145_12__9_a1_toInt_217_toNat.toInt by omega) (show f145_12__9_a1_toInt_217_toNat.toInt ≤ 9 by omega) (show 1 ≤ x95.toInt by omega) (show x95.toInt ≤ 12 by omega)  hw hT hF c200 c201 (lv_sub hl [2, 3, 4, 5, 6, 7, 8, 9, 10, 11, 1, 0] rfl)
            · have c194 : x192.toInt = x193.toInt := wk_eq.mp c194
              refine lv_iconst (v := 1) hx hb dX12_leads_231 (by decide) ?_
              refine lv_goto (tgt := 236) hx hb dX12_leads_232 (by decide) ?_
              refine lv_iload hx hb dX12_leads_236 (lv_at hl 9 rfl) ?_
              refine tk_Vv hC hK hw hT hA hE hSR kM_at0 (by decide) rfl (k_X12_could_4 l adK adV dC dI cy ad B (by omega) (by omega) qr s1   x179 (show 0 ≤ x179.toInt by omega) (show x179.toInt ≤ 120 by omega) r181 (show 0 ≤ r181.toInt by omega) (show r181.toInt ≤ 9 by omega) v145_7 w85 H.size hT ) (cwV 4 hC.2.2.2.2 gX12_leads_X12_could rfl rfl rfl (by decide +kernel) ⟨Nat.le_of_ble_eq_true rfl, Nat.le_of_ble_eq_true rfl⟩) rfl hl.1 rfl (Nat.le_of_ble_eq_true rfl) dX12_leads_238 (fun w206 H locs hp205 hw => ?_)
              obtain ⟨hT, k207, hg208⟩ := hp205
              have hF := hF.tr k207 (by decide)
              have c209 := k207.gi kM_at12 rfl c88
              have c210 := k207.gi kM_at12 (by decide) c96
              have c211 := k207.gi kM_at12 rfl c107
              have c212 := k207.gi kM_at12 rfl c177
              clear hg208
              exact J241 v145_7 v145_8 v145_9 r89 x179 f145_12__9_a1_toInt_217_toNat x95 H locs ls w206 (show 0 ≤ a1.toInt by omega) (show a1.toInt ≤ 3 by omega) (show 0 ≤ a2.toInt by omega) (show a2.toInt ≤ 1073741824 by omega) (show 0 ≤ a3.toInt by omega) (show a3.toInt ≤ 120 by omega) (show 0 ≤ a4.toInt by omega) (show a4.toInt ≤ 9 by omega) (show 0 ≤ a6.toInt by omega) (show a6.toInt ≤ 120 by omega) (show 0 ≤ v145_8.toInt by omega) (show v145_8.toInt ≤ 1073741944 by omega) (show 0 ≤ v145_9.toInt by omega) (show v145_9.toInt ≤ 1 by omega) (show 0 ≤ r89.toInt by omega) (show r89.toInt ≤ 11 by omega) (show 0 ≤ x179.toInt by omega) (show x179.toInt ≤ 129 by omega) (show 0 ≤ f145_12__9_a1_toInt_217_toNat.toInt by omega) (show f145_12__9_a1_toInt_217_toNat.toInt ≤ 9 by omega) (show 1 ≤ x95.toInt by omega) (show x95.toInt ≤ 12 by omega)  hw hT hF c209 c210 (lv_sub hl [2, 3, 4, 5, 6, 7, 8, 9, 10, 11, 1, 0] rfl)
          · refine lv_iload hx hb dX12_leads_211 (lv_at hl 7 rfl) ?_
            refine lv_if_eq (tgt := 235) hx hb dX12_leads_213 (by decide) (fun c => absurd c (by decide)) (fun _ => ?_)
            refine lv_iload_n hx hb dX12_leads_216 rfl (lv_at hl 4 rfl) ?_
            refine lv_iload hx hb dX12_leads_217 (lv_at hl 0 rfl) ?_
            refine lv_iadd hx hb dX12_leads_219 ?_
            refine lv_topi (fun x213 ex213 => ?_)
            have ex213 : x213.toInt = a2.toInt + x179.toInt := by rw [ex213]; exact wk_add (show (-2147483648) ≤ a2.toInt + x179.toInt by omega) (show a2.toInt + x179.toInt ≤ 2147483647 by omega)
            refine lv_bipush (v := 24) hx hb dX12_leads_220 (by decide) ?_
            refine lv_idiv hx hb dX12_leads_222 (by decide) ?_
            refine lv_topi (fun x214 ex214 => ?_)
            have ex214 : x214.toInt = x213.toInt / (24 : Int) := by rw [ex214]; exact wk_div (show 0 ≤ x213.toInt by omega) (show 0 < (24 : Int) by decide)
            refine lv_iload hx hb dX12_leads_223 (lv_at hl 10 rfl) ?_
            refine lv_bipush (v := 24) hx hb dX12_leads_225 (by decide) ?_
            refine lv_idiv hx hb dX12_leads_227 (by decide) ?_
            refine lv_topi (fun x215 ex215 => ?_)
            have ex215 : x215.toInt = v145_8.toInt / (24 : Int) := by rw [ex215]; exact wk_div (show 0 ≤ v145_8.toInt by omega) (show 0 < (24 : Int) by decide)
            refine lv_icmp_ne (tgt := 235) hx hb dX12_leads_228 (by decide) (fun c216 => ?_) (fun c216 => ?_)
            · have c216 : ¬ x214.toInt = x215.toInt := wk_eqF c216
              refine lv_iconst (v := 0) hx hb dX12_leads_235 (by decide) ?_
              refine lv_iload hx hb dX12_leads_236 (lv_at hl 9 rfl) ?_
              refine tk_Vv hC hK hw hT hA hE hSR kM_at0 (by decide) rfl (k_X12_could_1 l adK adV dC dI cy ad B (by omega) (by omega) qr s1   x179 (show 0 ≤ x179.toInt by omega) (show x179.toInt ≤ 120 by omega) r181 (show 0 ≤ r181.toInt by omega) (show r181.toInt ≤ 9 by omega) v145_7 w85 H.size hT ) (cwV 4 hC.2.2.2.2 gX12_leads_X12_could rfl rfl rfl (by decide +kernel) ⟨Nat.le_of_ble_eq_true rfl, Nat.le_of_ble_eq_true rfl⟩) rfl hl.1 rfl (Nat.le_of_ble_eq_true rfl) dX12_leads_238 (fun w219 H locs hp218 hw => ?_)
              obtain ⟨hT, k220, hg221⟩ := hp218
              have hF := hF.tr k220 (by decide)
              have c222 := k220.gi kM_at12 rfl c88
              have c223 := k220.gi kM_at12 (by decide) c96
              have c224 := k220.gi kM_at12 rfl c107
              have c225 := k220.gi kM_at12 rfl c177
              clear hg221
              exact J241 v145_7 v145_8 v145_9 r89 x179 f145_12__9_a1_toInt_217_toNat x95 H locs ls w219 (show 0 ≤ a1.toInt by omega) (show a1.toInt ≤ 3 by omega) (show 0 ≤ a2.toInt by omega) (show a2.toInt ≤ 1073741824 by omega) (show 0 ≤ a3.toInt by omega) (show a3.toInt ≤ 120 by omega) (show 0 ≤ a4.toInt by omega) (show a4.toInt ≤ 9 by omega) (show 0 ≤ a6.toInt by omega) (show a6.toInt ≤ 120 by omega) (show 0 ≤ v145_8.toInt by omega) (show v145_8.toInt ≤ 1073741944 by omega) (show 0 ≤ v145_9.toInt by omega) (show v145_9.toInt ≤ 1 by omega) (show 0 ≤ r89.toInt by omega) (show r89.toInt ≤ 11 by omega) (show 0 ≤ x179.toInt by omega) (show x179.toInt ≤ 129 by omega) (show 0 ≤ f145_12__9_a1_toInt_217_toNat.toInt by omega) (show f145_12__9_a1_toInt_217_toNat.toInt ≤ 9 by omega) (show 1 ≤ x95.toInt by omega) (show x95.toInt ≤ 12 by omega)  hw hT hF c222 c223 (lv_sub hl [2, 3, 4, 5, 6, 7, 8, 9, 10, 11, 1, 0] rfl)
            · have c216 : x214.toInt = x215.toInt := wk_eq.mp c216
              refine lv_iconst (v := 1) hx hb dX12_leads_231 (by decide) ?_
              refine lv_goto (tgt := 236) hx hb dX12_leads_232 (by decide) ?_
              refine lv_iload hx hb dX12_leads_236 (lv_at hl 9 rfl) ?_
              refine tk_Vv hC hK hw hT hA hE hSR kM_at0 (by decide) rfl (k_X12_could_4 l adK adV dC dI cy ad B (by omega) (by omega) qr s1   x179 (show 0 ≤ x179.toInt by omega) (show x179.toInt ≤ 120 by omega) r181 (show 0 ≤ r181.toInt by omega) (show r181.toInt ≤ 9 by omega) v145_7 w85 H.size hT ) (cwV 4 hC.2.2.2.2 gX12_leads_X12_could rfl rfl rfl (by decide +kernel) ⟨Nat.le_of_ble_eq_true rfl, Nat.le_of_ble_eq_true rfl⟩) rfl hl.1 rfl (Nat.le_of_ble_eq_true rfl) dX12_leads_238 (fun w228 H locs hp227 hw => ?_)
              obtain ⟨hT, k229, hg230⟩ := hp227
              have hF := hF.tr k229 (by decide)
              have c231 := k229.gi kM_at12 rfl c88
              have c232 := k229.gi kM_at12 (by decide) c96
              have c233 := k229.gi kM_at12 rfl c107
              have c234 := k229.gi kM_at12 rfl c177
              clear hg230
              exact J241 v145_7 v145_8 v145_9 r89 x179 f145_12__9_a1_toInt_217_toNat x95 H locs ls w228 (show 0 ≤ a1.toInt by omega) (show a1.toInt ≤ 3 by omega) (show 0 ≤ a2.toInt by omega) (show a2.toInt ≤ 1073741824 by omega) (show 0 ≤ a3.toInt by omega) (show a3.toInt ≤ 120 by omega) (show 0 ≤ a4.toInt by omega) (show a4.toInt ≤ 9 by omega) (show 0 ≤ a6.toInt by omega) (show a6.toInt ≤ 120 by omega) (show 0 ≤ v145_8.toInt by omega) (show v145_8.toInt ≤ 1073741944 by omega) (show 0 ≤ v145_9.toInt by omega) (show v145_9.toInt ≤ 1 by omega) (show 0 ≤ r89.toInt by omega) (show r89.toInt ≤ 11 by omega) (show 0 ≤ x179.toInt by omega) (show x179.toInt ≤ 129 by omega) (show 0 ≤ f145_12__9_a1_toInt_217_toNat.toInt by omega) (show f145_12__9_a1_toInt_217_toNat.toInt ≤ 9 by omega) (show 1 ≤ x95.toInt by omega) (show x95.toInt ≤ 12 by omega)  hw hT hF c231 c232 (lv_sub hl [2, 3, 4, 5, 6, 7, 8, 9, 10, 11, 1, 0] rfl)
    · refine lv_istore (lv' := [(10, .int r89), (0, .ref (ad 0)), (1, .int a1), (2, .int a2), (3, .int a3), (4, .int a4), (5, .int 1), (6, .int a6), (7, .int v145_7), (8, .int v145_8), (9, .int v145_9)]) hx hb dX12_leads_161 hl (by decide) rfl (fun ls hl => ?_)
      refine lv_iload hx hb dX12_leads_163 (lv_at hl 0 rfl) ?_
      refine lv_if_lt (tgt := 181) hx hb dX12_leads_165 (by decide) (fun c => absurd c (fun h => absurd (show r89.toInt < (0 : Int) from wk_lt.mp h) (by omega))) (fun _ => ?_)
      refine lv_aload_n hx hb dX12_leads_168 rfl (lv_at hl 1 rfl) ?_
      refine lv_iload hx hb dX12_leads_169 (lv_at hl 0 rfl) ?_
      refine lv_iload hx hb dX12_leads_171 (lv_at hl 5 rfl) ?_
      refine lv_iload hx hb dX12_leads_173 (lv_at hl 9 rfl) ?_
      refine tk_Vi hC hK hw hT hA hE hSR kM_at0 (by decide) rfl (k_X12_isOpen_2 l adK adV dC dI cy ad B (by omega) (by omega) qr s1   r89 (show 0 ≤ r89.toInt by omega) (show r89.toInt ≤ 11 by omega) a4 (show 0 ≤ a4.toInt by omega) (show a4.toInt ≤ 9 by omega) v145_8 (show 0 ≤ v145_8.toInt by omega) (show v145_8.toInt ≤ 1073741944 by omega) w85 H.size hT ) (cwV 3 hC.2.2.2.2 gX12_leads_X12_isOpen rfl rfl rfl (by decide +kernel) ⟨Nat.le_of_ble_eq_true rfl, Nat.le_of_ble_eq_true rfl⟩) rfl hl.1 rfl (Nat.le_of_ble_eq_true rfl) dX12_leads_175 (fun r235 w237 H locs hp236 hw => ?_)
      obtain ⟨rfl, hg240⟩ := hp236
      rcases hg240 with rfl | rfl | ⟨rfl, c239⟩
      · refine lv_if_ne (tgt := 182) hx hb dX12_leads_178 (by decide) (fun c => absurd (by decide) c) (fun _ => ?_)
        exact J181 v145_7 v145_8 v145_9 r89 f145_12__9_a1_toInt_217_toNat H locs ls w85 (show 0 ≤ a1.toInt by omega) (show a1.toInt ≤ 3 by omega) (show 0 ≤ a2.toInt by omega) (show a2.toInt ≤ 1073741824 by omega) (show 0 ≤ a3.toInt by omega) (show a3.toInt ≤ 120 by omega) (show 0 ≤ a4.toInt by omega) (show a4.toInt ≤ 9 by omega) (show 0 ≤ a6.toInt by omega) (show a6.toInt ≤ 120 by omega) (show 0 ≤ v145_8.toInt by omega) (show v145_8.toInt ≤ 1073741944 by omega) (show 0 ≤ v145_9.toInt by omega) (show v145_9.toInt ≤ 1 by omega) (show (-1) ≤ r89.toInt by omega) (show r89.toInt ≤ 11 by omega) (show 0 ≤ f145_12__9_a1_toInt_217_toNat.toInt by omega) (show f145_12__9_a1_toInt_217_toNat.toInt ≤ 9 by omega)  hw hT hF c88 (lv_sub hl [1, 2, 3, 4, 5, 6, 7, 8, 9, 10, 0] rfl)
      · refine lv_if_ne (tgt := 182) hx hb dX12_leads_178 (by decide) (fun _ => ?_) (fun c => absurd c (by decide))
        refine lv_iload_n hx hb dX12_leads_182 rfl (lv_at hl 4 rfl) ?_
        refine lv_aload_n hx hb dX12_leads_183 rfl (lv_at hl 1 rfl) ?_
        refine lv_iload hx hb dX12_leads_184 (lv_at hl 0 rfl) ?_
        refine lv_iconst (v := 2) hx hb dX12_leads_186 (by decide) ?_
        refine tk_Vi hC hK hw hT hA hE hSR kM_at0 (by decide) rfl (k_X12_streetOf_6 l adK adV dC dI cy ad B (by omega) (by omega) qr s1   r89 (show 0 ≤ r89.toInt by omega) (show r89.toInt ≤ 11 by omega) w85 H.size hT ) (cwV 2 hC.2.2.2.2 gX12_leads_X12_streetOf rfl rfl rfl (by decide +kernel) ⟨Nat.le_of_ble_eq_true rfl, Nat.le_of_ble_eq_true rfl⟩) rfl hl.1 rfl (Nat.le_of_ble_eq_true rfl) dX12_leads_187 (fun r241 w243 H locs hp242 hw => ?_)
        obtain ⟨rfl, hg248⟩ := hp242
        obtain ⟨g245, g246, c247⟩ := hg248
        refine lv_iadd hx hb dX12_leads_190 ?_
        refine lv_topi (fun x249 ex249 => ?_)
        have ex249 : x249.toInt = a3.toInt + r241.toInt := by rw [ex249]; exact wk_add (show (-2147483648) ≤ a3.toInt + r241.toInt by omega) (show a3.toInt + r241.toInt ≤ 2147483647 by omega)
        refine lv_istore (lv' := [(11, .int x249), (10, .int r89), (0, .ref (ad 0)), (1, .int a1), (2, .int a2), (3, .int a3), (4, .int a4), (5, .int 1), (6, .int a6), (7, .int v145_7), (8, .int v145_8), (9, .int v145_9)]) hx hb dX12_leads_191 hl (by decide) rfl (fun ls hl => ?_)
        refine lv_iload hx hb dX12_leads_193 (lv_at hl 0 rfl) ?_
        refine lv_iload hx hb dX12_leads_195 (lv_at hl 8 rfl) ?_
        refine lv_icmp_gt (tgt := 241) hx hb dX12_leads_197 (by decide) (fun c250 => ?_) (fun c250 => ?_)
        · have c250 : a6.toInt < x249.toInt := wk_lt.mp c250
          exact J241 v145_7 v145_8 v145_9 r89 x249 f145_12__9_a1_toInt_217_toNat x99 H locs ls w85 (show 0 ≤ a1.toInt by omega) (show a1.toInt ≤ 3 by omega) (show 0 ≤ a2.toInt by omega) (show a2.toInt ≤ 1073741824 by omega) (show 0 ≤ a3.toInt by omega) (show a3.toInt ≤ 120 by omega) (show 0 ≤ a4.toInt by omega) (show a4.toInt ≤ 9 by omega) (show 0 ≤ a6.toInt by omega) (show a6.toInt ≤ 120 by omega) (show 0 ≤ v145_8.toInt by omega) (show v145_8.toInt ≤ 1073741944 by omega) (show 0 ≤ v145_9.toInt by omega) (show v145_9.toInt ≤ 1 by omega) (show 0 ≤ r89.toInt by omega) (show r89.toInt ≤ 11 by omega) (show 0 ≤ x249.toInt by omega) (show x249.toInt ≤ 129 by omega) (show 0 ≤ f145_12__9_a1_toInt_217_toNat.toInt by omega) (show f145_12__9_a1_toInt_217_toNat.toInt ≤ 9 by omega) (show 1 ≤ x99.toInt by omega) (show x99.toInt ≤ 12 by omega)  hw hT hF c88 c100 (lv_sub hl [2, 3, 4, 5, 6, 7, 8, 9, 10, 11, 1, 0] rfl)
        · have c250 : x249.toInt ≤ a6.toInt := wk_ltF c250
          refine lv_aload_n hx hb dX12_leads_200 rfl (lv_at hl 2 rfl) ?_
          refine lv_iload hx hb dX12_leads_201 (lv_at hl 0 rfl) ?_
          refine lv_aload_n hx hb dX12_leads_203 rfl (lv_at hl 2 rfl) ?_
          refine lv_iload hx hb dX12_leads_204 (lv_at hl 1 rfl) ?_
          refine lv_iload hx hb dX12_leads_206 (lv_at hl 6 rfl) ?_
          refine tk_Vi hC hK hw hT hA hE hSR kM_at0 (by decide) rfl (k_X12_otherOf_1 l adK adV dC dI cy ad B (by omega) (by omega) qr s1   r89 (show 0 ≤ r89.toInt by omega) (show r89.toInt ≤ 11 by omega) a4 (show 0 ≤ a4.toInt by omega) (show a4.toInt ≤ 9 by omega) w85 H.size hT ) (cwV 2 hC.2.2.2.2 gX12_leads_X12_otherOf rfl rfl rfl (by decide +kernel) ⟨Nat.le_of_ble_eq_true rfl, Nat.le_of_ble_eq_true rfl⟩) rfl hl.1 rfl (Nat.le_of_ble_eq_true rfl) dX12_leads_208 (fun r251 w253 H locs hp252 hw => ?_)
          obtain ⟨rfl, hg260⟩ := hp252
          rcases hg260 with ⟨g255, g256⟩ | ⟨g257, g258, c259⟩
          · refine lv_iload hx hb dX12_leads_211 (lv_at hl 7 rfl) ?_
            refine lv_if_eq (tgt := 235) hx hb dX12_leads_213 (by decide) (fun c => absurd c (by decide)) (fun _ => ?_)
            refine lv_iload_n hx hb dX12_leads_216 rfl (lv_at hl 4 rfl) ?_
            refine lv_iload hx hb dX12_leads_217 (lv_at hl 0 rfl) ?_
            refine lv_iadd hx hb dX12_leads_219 ?_
            refine lv_topi (fun x261 ex261 => ?_)
            have ex261 : x261.toInt = a2.toInt + x249.toInt := by rw [ex261]; exact wk_add (show (-2147483648) ≤ a2.toInt + x249.toInt by omega) (show a2.toInt + x249.toInt ≤ 2147483647 by omega)
            refine lv_bipush (v := 24) hx hb dX12_leads_220 (by decide) ?_
            refine lv_idiv hx hb dX12_leads_222 (by decide) ?_
            refine lv_topi (fun x262 ex262 => ?_)
            have ex262 : x262.toInt = x261.toInt / (24 : Int) := by rw [ex262]; exact wk_div (show 0 ≤ x261.toInt by omega) (show 0 < (24 : Int) by decide)
            refine lv_iload hx hb dX12_leads_223 (lv_at hl 10 rfl) ?_
            refine lv_bipush (v := 24) hx hb dX12_leads_225 (by decide) ?_
            refine lv_idiv hx hb dX12_leads_227 (by decide) ?_
            refine lv_topi (fun x263 ex263 => ?_)
            have ex263 : x263.toInt = v145_8.toInt / (24 : Int) := by rw [ex263]; exact wk_div (show 0 ≤ v145_8.toInt by omega) (show 0 < (24 : Int) by decide)
            refine lv_icmp_ne (tgt := 235) hx hb dX12_leads_228 (by decide) (fun c264 => ?_) (fun c264 => ?_)
            · have c264 : ¬ x262.toInt = x263.toInt := wk_eqF c264
              refine lv_iconst (v := 0) hx hb dX12_leads_235 (by decide) ?_
              refine lv_iload hx hb dX12_leads_236 (lv_at hl 9 rfl) ?_
              refine tk_Vv hC hK hw hT hA hE hSR kM_at0 (by decide) rfl (k_X12_could_1 l adK adV dC dI cy ad B (by omega) (by omega) qr s1   x249 (show 0 ≤ x249.toInt by omega) (show x249.toInt ≤ 120 by omega) r251 (show 0 ≤ r251.toInt by omega) (show r251.toInt ≤ 9 by omega) v145_7 w85 H.size hT ) (cwV 4 hC.2.2.2.2 gX12_leads_X12_could rfl rfl rfl (by decide +kernel) ⟨Nat.le_of_ble_eq_true rfl, Nat.le_of_ble_eq_true rfl⟩) rfl hl.1 rfl (Nat.le_of_ble_eq_true rfl) dX12_leads_238 (fun w267 H locs hp266 hw => ?_)
              obtain ⟨hT, k268, hg269⟩ := hp266
              have hF := hF.tr k268 (by decide)
              have c270 := k268.gi kM_at12 rfl c88
              have c271 := k268.gi kM_at12 (by decide) c100
              have c272 := k268.gi kM_at12 rfl c101
              have c273 := k268.gi kM_at12 rfl c247
              clear hg269
              exact J241 v145_7 v145_8 v145_9 r89 x249 f145_12__9_a1_toInt_217_toNat x99 H locs ls w267 (show 0 ≤ a1.toInt by omega) (show a1.toInt ≤ 3 by omega) (show 0 ≤ a2.toInt by omega) (show a2.toInt ≤ 1073741824 by omega) (show 0 ≤ a3.toInt by omega) (show a3.toInt ≤ 120 by omega) (show 0 ≤ a4.toInt by omega) (show a4.toInt ≤ 9 by omega) (show 0 ≤ a6.toInt by omega) (show a6.toInt ≤ 120 by omega) (show 0 ≤ v145_8.toInt by omega) (show v145_8.toInt ≤ 1073741944 by omega) (show 0 ≤ v145_9.toInt by omega) (show v145_9.toInt ≤ 1 by omega) (show 0 ≤ r89.toInt by omega) (show r89.toInt ≤ 11 by omega) (show 0 ≤ x249.toInt by omega) (show x249.toInt ≤ 129 by omega) (show 0 ≤ f145_12__9_a1_toInt_217_toNat.toInt by omega) (show f145_12__9_a1_toInt_217_toNat.toInt ≤ 9 by omega) (show 1 ≤ x99.toInt by omega) (show x99.toInt ≤ 12 by omega)  hw hT hF c270 c271 (lv_sub hl [2, 3, 4, 5, 6, 7, 8, 9, 10, 11, 1, 0] rfl)
            · have c264 : x262.toInt = x263.toInt := wk_eq.mp c264
              refine lv_iconst (v := 1) hx hb dX12_leads_231 (by decide) ?_
              refine lv_goto (tgt := 236) hx hb dX12_leads_232 (by decide) ?_
              refine lv_iload hx hb dX12_leads_236 (lv_at hl 9 rfl) ?_
              refine tk_Vv hC hK hw hT hA hE hSR kM_at0 (by decide) rfl (k_X12_could_4 l adK adV dC dI cy ad B (by omega) (by omega) qr s1   x249 (show 0 ≤ x249.toInt by omega) (show x249.toInt ≤ 120 by omega) r251 (show 0 ≤ r251.toInt by omega) (show r251.toInt ≤ 9 by omega) v145_7 w85 H.size hT ) (cwV 4 hC.2.2.2.2 gX12_leads_X12_could rfl rfl rfl (by decide +kernel) ⟨Nat.le_of_ble_eq_true rfl, Nat.le_of_ble_eq_true rfl⟩) rfl hl.1 rfl (Nat.le_of_ble_eq_true rfl) dX12_leads_238 (fun w276 H locs hp275 hw => ?_)
              obtain ⟨hT, k277, hg278⟩ := hp275
              have hF := hF.tr k277 (by decide)
              have c279 := k277.gi kM_at12 rfl c88
              have c280 := k277.gi kM_at12 (by decide) c100
              have c281 := k277.gi kM_at12 rfl c101
              have c282 := k277.gi kM_at12 rfl c247
              clear hg278
              exact J241 v145_7 v145_8 v145_9 r89 x249 f145_12__9_a1_toInt_217_toNat x99 H locs ls w276 (show 0 ≤ a1.toInt by omega) (show a1.toInt ≤ 3 by omega) (show 0 ≤ a2.toInt by omega) (show a2.toInt ≤ 1073741824 by omega) (show 0 ≤ a3.toInt by omega) (show a3.toInt ≤ 120 by omega) (show 0 ≤ a4.toInt by omega) (show a4.toInt ≤ 9 by omega) (show 0 ≤ a6.toInt by omega) (show a6.toInt ≤ 120 by omega) (show 0 ≤ v145_8.toInt by omega) (show v145_8.toInt ≤ 1073741944 by omega) (show 0 ≤ v145_9.toInt by omega) (show v145_9.toInt ≤ 1 by omega) (show 0 ≤ r89.toInt by omega) (show r89.toInt ≤ 11 by omega) (show 0 ≤ x249.toInt by omega) (show x249.toInt ≤ 129 by omega) (show 0 ≤ f145_12__9_a1_toInt_217_toNat.toInt by omega) (show f145_12__9_a1_toInt_217_toNat.toInt ≤ 9 by omega) (show 1 ≤ x99.toInt by omega) (show x99.toInt ≤ 12 by omega)  hw hT hF c279 c280 (lv_sub hl [2, 3, 4, 5, 6, 7, 8, 9, 10, 11, 1, 0] rfl)
          · refine lv_iload hx hb dX12_leads_211 (lv_at hl 7 rfl) ?_
            refine lv_if_eq (tgt := 235) hx hb dX12_leads_213 (by decide) (fun c => absurd c (by decide)) (fun _ => ?_)
            refine lv_iload_n hx hb dX12_leads_216 rfl (lv_at hl 4 rfl) ?_
            refine lv_iload hx hb dX12_leads_217 (lv_at hl 0 rfl) ?_
            refine lv_iadd hx hb dX12_leads_219 ?_
            refine lv_topi (fun x283 ex283 => ?_)
            have ex283 : x283.toInt = a2.toInt + x249.toInt := by rw [ex283]; exact wk_add (show (-2147483648) ≤ a2.toInt + x249.toInt by omega) (show a2.toInt + x249.toInt ≤ 2147483647 by omega)
            refine lv_bipush (v := 24) hx hb dX12_leads_220 (by decide) ?_
            refine lv_idiv hx hb dX12_leads_222 (by decide) ?_
            refine lv_topi (fun x284 ex284 => ?_)
            have ex284 : x284.toInt = x283.toInt / (24 : Int) := by rw [ex284]; exact wk_div (show 0 ≤ x283.toInt by omega) (show 0 < (24 : Int) by decide)
            refine lv_iload hx hb dX12_leads_223 (lv_at hl 10 rfl) ?_
            refine lv_bipush (v := 24) hx hb dX12_leads_225 (by decide) ?_
            refine lv_idiv hx hb dX12_leads_227 (by decide) ?_
            refine lv_topi (fun x285 ex285 => ?_)
            have ex285 : x285.toInt = v145_8.toInt / (24 : Int) := by rw [ex285]; exact wk_div (show 0 ≤ v145_8.toInt by omega) (show 0 < (24 : Int) by decide)
            refine lv_icmp_ne (tgt := 235) hx hb dX12_leads_228 (by decide) (fun c286 => ?_) (fun c286 => ?_)
            · have c286 : ¬ x284.toInt = x285.toInt := wk_eqF c286
              refine lv_iconst (v := 0) hx hb dX12_leads_235 (by decide) ?_
              refine lv_iload hx hb dX12_leads_236 (lv_at hl 9 rfl) ?_
              refine tk_Vv hC hK hw hT hA hE hSR kM_at0 (by decide) rfl (k_X12_could_1 l adK adV dC dI cy ad B (by omega) (by omega) qr s1   x249 (show 0 ≤ x249.toInt by omega) (show x249.toInt ≤ 120 by omega) r251 (show 0 ≤ r251.toInt by omega) (show r251.toInt ≤ 9 by omega) v145_7 w85 H.size hT ) (cwV 4 hC.2.2.2.2 gX12_leads_X12_could rfl rfl rfl (by decide +kernel) ⟨Nat.le_of_ble_eq_true rfl, Nat.le_of_ble_eq_true rfl⟩) rfl hl.1 rfl (Nat.le_of_ble_eq_true rfl) dX12_leads_238 (fun w289 H locs hp288 hw => ?_)
              obtain ⟨hT, k290, hg291⟩ := hp288
              have hF := hF.tr k290 (by decide)
              have c292 := k290.gi kM_at12 rfl c88
              have c293 := k290.gi kM_at12 (by decide) c100
              have c294 := k290.gi kM_at12 rfl c101
              have c295 := k290.gi kM_at12 rfl c247
              clear hg291
              exact J241 v145_7 v145_8 v145_9 r89 x249 f145_12__9_a1_toInt_217_toNat x99 H locs ls w289 (show 0 ≤ a1.toInt by omega) (show a1.toInt ≤ 3 by omega) (show 0 ≤ a2.toInt by omega) (show a2.toInt ≤ 1073741824 by omega) (show 0 ≤ a3.toInt by omega) (show a3.toInt ≤ 120 by omega) (show 0 ≤ a4.toInt by omega) (show a4.toInt ≤ 9 by omega) (show 0 ≤ a6.toInt by omega) (show a6.toInt ≤ 120 by omega) (show 0 ≤ v145_8.toInt by omega) (show v145_8.toInt ≤ 1073741944 by omega) (show 0 ≤ v145_9.toInt by omega) (show v145_9.toInt ≤ 1 by omega) (show 0 ≤ r89.toInt by omega) (show r89.toInt ≤ 11 by omega) (show 0 ≤ x249.toInt by omega) (show x249.toInt ≤ 129 by omega) (show 0 ≤ f145_12__9_a1_toInt_217_toNat.toInt by omega) (show f145_12__9_a1_toInt_217_toNat.toInt ≤ 9 by omega) (show 1 ≤ x99.toInt by omega) (show x99.toInt ≤ 12 by omega)  hw hT hF c292 c293 (lv_sub hl [2, 3, 4, 5, 6, 7, 8, 9, 10, 11, 1, 0] rfl)
            · have c286 : x284.toInt = x285.toInt := wk_eq.mp c286
              refine lv_iconst (v := 1) hx hb dX12_leads_231 (by decide) ?_
              refine lv_goto (tgt := 236) hx hb dX12_leads_232 (by decide) ?_
              refine lv_iload hx hb dX12_leads_236 (lv_at hl 9 rfl) ?_
              refine tk_Vv hC hK hw hT hA hE hSR kM_at0 (by decide) rfl (k_X12_could_4 l adK adV dC dI cy ad B (by omega) (by omega) qr s1   x249 (show 0 ≤ x249.toInt by omega) (show x249.toInt ≤ 120 by omega) r251 (show 0 ≤ r251.toInt by omega) (show r251.toInt ≤ 9 by omega) v145_7 w85 H.size hT ) (cwV 4 hC.2.2.2.2 gX12_leads_X12_could rfl rfl rfl (by decide +kernel) ⟨Nat.le_of_ble_eq_true rfl, Nat.le_of_ble_eq_true rfl⟩) rfl hl.1 rfl (Nat.le_of_ble_eq_true rfl) dX12_leads_238 (fun w298 H locs hp297 hw => ?_)
              obtain ⟨hT, k299, hg300⟩ := hp297
              have hF := hF.tr k299 (by decide)
              have c301 := k299.gi kM_at12 rfl c88
              have c302 := k299.gi kM_at12 (by decide) c100
              have c303 := k299.gi kM_at12 rfl c101
              have c304 := k299.gi kM_at12 rfl c247
              clear hg300
              exact J241 v145_7 v145_8 v145_9 r89 x249 f145_12__9_a1_toInt_217_toNat x99 H locs ls w298 (show 0 ≤ a1.toInt by omega) (show a1.toInt ≤ 3 by omega) (show 0 ≤ a2.toInt by omega) (show a2.toInt ≤ 1073741824 by omega) (show 0 ≤ a3.toInt by omega) (show a3.toInt ≤ 120 by omega) (show 0 ≤ a4.toInt by omega) (show a4.toInt ≤ 9 by omega) (show 0 ≤ a6.toInt by omega) (show a6.toInt ≤ 120 by omega) (show 0 ≤ v145_8.toInt by omega) (show v145_8.toInt ≤ 1073741944 by omega) (show 0 ≤ v145_9.toInt by omega) (show v145_9.toInt ≤ 1 by omega) (show 0 ≤ r89.toInt by omega) (show r89.toInt ≤ 11 by omega) (show 0 ≤ x249.toInt by omega) (show x249.toInt ≤ 129 by omega) (show 0 ≤ f145_12__9_a1_toInt_217_toNat.toInt by omega) (show f145_12__9_a1_toInt_217_toNat.toInt ≤ 9 by omega) (show 1 ≤ x99.toInt by omega) (show x99.toInt ≤ 12 by omega)  hw hT hF c301 c302 (lv_sub hl [2, 3, 4, 5, 6, 7, 8, 9, 10, 11, 1, 0] rfl)
      · refine lv_if_ne (tgt := 182) hx hb dX12_leads_178 (by decide) (fun _ => ?_) (fun c => absurd c (by decide))
        refine lv_iload_n hx hb dX12_leads_182 rfl (lv_at hl 4 rfl) ?_
        refine lv_aload_n hx hb dX12_leads_183 rfl (lv_at hl 1 rfl) ?_
        refine lv_iload hx hb dX12_leads_184 (lv_at hl 0 rfl) ?_
        refine lv_iconst (v := 2) hx hb dX12_leads_186 (by decide) ?_
        refine tk_Vi hC hK hw hT hA hE hSR kM_at0 (by decide) rfl (k_X12_streetOf_6 l adK adV dC dI cy ad B (by omega) (by omega) qr s1   r89 (show 0 ≤ r89.toInt by omega) (show r89.toInt ≤ 11 by omega) w85 H.size hT ) (cwV 2 hC.2.2.2.2 gX12_leads_X12_streetOf rfl rfl rfl (by decide +kernel) ⟨Nat.le_of_ble_eq_true rfl, Nat.le_of_ble_eq_true rfl⟩) rfl hl.1 rfl (Nat.le_of_ble_eq_true rfl) dX12_leads_187 (fun r305 w307 H locs hp306 hw => ?_)
        obtain ⟨rfl, hg312⟩ := hp306
        obtain ⟨g309, g310, c311⟩ := hg312
        refine lv_iadd hx hb dX12_leads_190 ?_
        refine lv_topi (fun x313 ex313 => ?_)
        have ex313 : x313.toInt = a3.toInt + r305.toInt := by rw [ex313]; exact wk_add (show (-2147483648) ≤ a3.toInt + r305.toInt by omega) (show a3.toInt + r305.toInt ≤ 2147483647 by omega)
        refine lv_istore (lv' := [(11, .int x313), (10, .int r89), (0, .ref (ad 0)), (1, .int a1), (2, .int a2), (3, .int a3), (4, .int a4), (5, .int 1), (6, .int a6), (7, .int v145_7), (8, .int v145_8), (9, .int v145_9)]) hx hb dX12_leads_191 hl (by decide) rfl (fun ls hl => ?_)
        refine lv_iload hx hb dX12_leads_193 (lv_at hl 0 rfl) ?_
        refine lv_iload hx hb dX12_leads_195 (lv_at hl 8 rfl) ?_
        refine lv_icmp_gt (tgt := 241) hx hb dX12_leads_197 (by decide) (fun c314 => ?_) (fun c314 => ?_)
        · have c314 : a6.toInt < x313.toInt := wk_lt.mp c314
          exact J241 v145_7 v145_8 v145_9 r89 x313 f145_12__9_a1_toInt_217_toNat x99 H locs ls w85 (show 0 ≤ a1.toInt by omega) (show a1.toInt ≤ 3 by omega) (show 0 ≤ a2.toInt by omega) (show a2.toInt ≤ 1073741824 by omega) (show 0 ≤ a3.toInt by omega) (show a3.toInt ≤ 120 by omega) (show 0 ≤ a4.toInt by omega) (show a4.toInt ≤ 9 by omega) (show 0 ≤ a6.toInt by omega) (show a6.toInt ≤ 120 by omega) (show 0 ≤ v145_8.toInt by omega) (show v145_8.toInt ≤ 1073741944 by omega) (show 0 ≤ v145_9.toInt by omega) (show v145_9.toInt ≤ 1 by omega) (show 0 ≤ r89.toInt by omega) (show r89.toInt ≤ 11 by omega) (show 0 ≤ x313.toInt by omega) (show x313.toInt ≤ 129 by omega) (show 0 ≤ f145_12__9_a1_toInt_217_toNat.toInt by omega) (show f145_12__9_a1_toInt_217_toNat.toInt ≤ 9 by omega) (show 1 ≤ x99.toInt by omega) (show x99.toInt ≤ 12 by omega)  hw hT hF c88 c100 (lv_sub hl [2, 3, 4, 5, 6, 7, 8, 9, 10, 11, 1, 0] rfl)
        · have c314 : x313.toInt ≤ a6.toInt := wk_ltF c314
          refine lv_aload_n hx hb dX12_leads_200 rfl (lv_at hl 2 rfl) ?_
          refine lv_iload hx hb dX12_leads_201 (lv_at hl 0 rfl) ?_
          refine lv_aload_n hx hb dX12_leads_203 rfl (lv_at hl 2 rfl) ?_
          refine lv_iload hx hb dX12_leads_204 (lv_at hl 1 rfl) ?_
          refine lv_iload hx hb dX12_leads_206 (lv_at hl 6 rfl) ?_
          refine tk_Vi hC hK hw hT hA hE hSR kM_at0 (by decide) rfl (k_X12_otherOf_1 l adK adV dC dI cy ad B (by omega) (by omega) qr s1   r89 (show 0 ≤ r89.toInt by omega) (show r89.toInt ≤ 11 by omega) a4 (show 0 ≤ a4.toInt by omega) (show a4.toInt ≤ 9 by omega) w85 H.size hT ) (cwV 2 hC.2.2.2.2 gX12_leads_X12_otherOf rfl rfl rfl (by decide +kernel) ⟨Nat.le_of_ble_eq_true rfl, Nat.le_of_ble_eq_true rfl⟩) rfl hl.1 rfl (Nat.le_of_ble_eq_true rfl) dX12_leads_208 (fun r315 w317 H locs hp316 hw => ?_)
          obtain ⟨rfl, hg324⟩ := hp316
          rcases hg324 with ⟨g319, g320⟩ | ⟨g321, g322, c323⟩
          · refine lv_iload hx hb dX12_leads_211 (lv_at hl 7 rfl) ?_
            refine lv_if_eq (tgt := 235) hx hb dX12_leads_213 (by decide) (fun c => absurd c (by decide)) (fun _ => ?_)
            refine lv_iload_n hx hb dX12_leads_216 rfl (lv_at hl 4 rfl) ?_
            refine lv_iload hx hb dX12_leads_217 (lv_at hl 0 rfl) ?_
            refine lv_iadd hx hb dX12_leads_219 ?_
            refine lv_topi (fun x325 ex325 => ?_)
            have ex325 : x325.toInt = a2.toInt + x313.toInt := by rw [ex325]; exact wk_add (show (-2147483648) ≤ a2.toInt + x313.toInt by omega) (show a2.toInt + x313.toInt ≤ 2147483647 by omega)
            refine lv_bipush (v := 24) hx hb dX12_leads_220 (by decide) ?_
            refine lv_idiv hx hb dX12_leads_222 (by decide) ?_
            refine lv_topi (fun x326 ex326 => ?_)
            have ex326 : x326.toInt = x325.toInt / (24 : Int) := by rw [ex326]; exact wk_div (show 0 ≤ x325.toInt by omega) (show 0 < (24 : Int) by decide)
            refine lv_iload hx hb dX12_leads_223 (lv_at hl 10 rfl) ?_
            refine lv_bipush (v := 24) hx hb dX12_leads_225 (by decide) ?_
            refine lv_idiv hx hb dX12_leads_227 (by decide) ?_
            refine lv_topi (fun x327 ex327 => ?_)
            have ex327 : x327.toInt = v145_8.toInt / (24 : Int) := by rw [ex327]; exact wk_div (show 0 ≤ v145_8.toInt by omega) (show 0 < (24 : Int) by decide)
            refine lv_icmp_ne (tgt := 235) hx hb dX12_leads_228 (by decide) (fun c328 => ?_) (fun c328 => ?_)
            · have c328 : ¬ x326.toInt = x327.toInt := wk_eqF c328
              refine lv_iconst (v := 0) hx hb dX12_leads_235 (by decide) ?_
              refine lv_iload hx hb dX12_leads_236 (lv_at hl 9 rfl) ?_
              refine tk_Vv hC hK hw hT hA hE hSR kM_at0 (by decide) rfl (k_X12_could_1 l adK adV dC dI cy ad B (by omega) (by omega) qr s1   x313 (show 0 ≤ x313.toInt by omega) (show x313.toInt ≤ 120 by omega) r315 (show 0 ≤ r315.toInt by omega) (show r315.toInt ≤ 9 by omega) v145_7 w85 H.size hT ) (cwV 4 hC.2.2.2.2 gX12_leads_X12_could rfl rfl rfl (by decide +kernel) ⟨Nat.le_of_ble_eq_true rfl, Nat.le_of_ble_eq_true rfl⟩) rfl hl.1 rfl (Nat.le_of_ble_eq_true rfl) dX12_leads_238 (fun w331 H locs hp330 hw => ?_)
              obtain ⟨hT, k332, hg333⟩ := hp330
              have hF := hF.tr k332 (by decide)
              have c334 := k332.gi kM_at12 rfl c88
              have c335 := k332.gi kM_at12 (by decide) c100
              have c336 := k332.gi kM_at12 rfl c101
              have c337 := k332.gi kM_at12 rfl c311
              clear hg333
              exact J241 v145_7 v145_8 v145_9 r89 x313 f145_12__9_a1_toInt_217_toNat x99 H locs ls w331 (show 0 ≤ a1.toInt by omega) (show a1.toInt ≤ 3 by omega) (show 0 ≤ a2.toInt by omega) (show a2.toInt ≤ 1073741824 by omega) (show 0 ≤ a3.toInt by omega) (show a3.toInt ≤ 120 by omega) (show 0 ≤ a4.toInt by omega) (show a4.toInt ≤ 9 by omega) (show 0 ≤ a6.toInt by omega) (show a6.toInt ≤ 120 by omega) (show 0 ≤ v145_8.toInt by omega) (show v145_8.toInt ≤ 1073741944 by omega) (show 0 ≤ v145_9.toInt by omega) (show v145_9.toInt ≤ 1 by omega) (show 0 ≤ r89.toInt by omega) (show r89.toInt ≤ 11 by omega) (show 0 ≤ x313.toInt by omega) (show x313.toInt ≤ 129 by omega) (show 0 ≤ f145_12__9_a1_toInt_217_toNat.toInt by omega) (show f145_12__9_a1_toInt_217_toNat.toInt ≤ 9 by omega) (show 1 ≤ x99.toInt by omega) (show x99.toInt ≤ 12 by omega)  hw hT hF c334 c335 (lv_sub hl [2, 3, 4, 5, 6, 7, 8, 9, 10, 11, 1, 0] rfl)
            · have c328 : x326.toInt = x327.toInt := wk_eq.mp c328
              refine lv_iconst (v := 1) hx hb dX12_leads_231 (by decide) ?_
              refine lv_goto (tgt := 236) hx hb dX12_leads_232 (by decide) ?_
              refine lv_iload hx hb dX12_leads_236 (lv_at hl 9 rfl) ?_
              refine tk_Vv hC hK hw hT hA hE hSR kM_at0 (by decide) rfl (k_X12_could_4 l adK adV dC dI cy ad B (by omega) (by omega) qr s1   x313 (show 0 ≤ x313.toInt by omega) (show x313.toInt ≤ 120 by omega) r315 (show 0 ≤ r315.toInt by omega) (show r315.toInt ≤ 9 by omega) v145_7 w85 H.size hT ) (cwV 4 hC.2.2.2.2 gX12_leads_X12_could rfl rfl rfl (by decide +kernel) ⟨Nat.le_of_ble_eq_true rfl, Nat.le_of_ble_eq_true rfl⟩) rfl hl.1 rfl (Nat.le_of_ble_eq_true rfl) dX12_leads_238 (fun w340 H locs hp339 hw => ?_)
              obtain ⟨hT, k341, hg342⟩ := hp339
              have hF := hF.tr k341 (by decide)
              have c343 := k341.gi kM_at12 rfl c88
              have c344 := k341.gi kM_at12 (by decide) c100
              have c345 := k341.gi kM_at12 rfl c101
              have c346 := k341.gi kM_at12 rfl c311
              clear hg342
              exact J241 v145_7 v145_8 v145_9 r89 x313 f145_12__9_a1_toInt_217_toNat x99 H locs ls w340 (show 0 ≤ a1.toInt by omega) (show a1.toInt ≤ 3 by omega) (show 0 ≤ a2.toInt by omega) (show a2.toInt ≤ 1073741824 by omega) (show 0 ≤ a3.toInt by omega) (show a3.toInt ≤ 120 by omega) (show 0 ≤ a4.toInt by omega) (show a4.toInt ≤ 9 by omega) (show 0 ≤ a6.toInt by omega) (show a6.toInt ≤ 120 by omega) (show 0 ≤ v145_8.toInt by omega) (show v145_8.toInt ≤ 1073741944 by omega) (show 0 ≤ v145_9.toInt by omega) (show v145_9.toInt ≤ 1 by omega) (show 0 ≤ r89.toInt by omega) (show r89.toInt ≤ 11 by omega) (show 0 ≤ x313.toInt by omega) (show x313.toInt ≤ 129 by omega) (show 0 ≤ f145_12__9_a1_toInt_217_toNat.toInt by omega) (show f145_12__9_a1_toInt_217_toNat.toInt ≤ 9 by omega) (show 1 ≤ x99.toInt by omega) (show x99.toInt ≤ 12 by omega)  hw hT hF c343 c344 (lv_sub hl [2, 3, 4, 5, 6, 7, 8, 9, 10, 11, 1, 0] rfl)
          · refine lv_iload hx hb dX12_leads_211 (lv_at hl 7 rfl) ?_
            refine lv_if_eq (tgt := 235) hx hb dX12_leads_213 (by decide) (fun c => absurd c (by decide)) (fun _ => ?_)
            refine lv_iload_n hx hb dX12_leads_216 rfl (lv_at hl 4 rfl) ?_
            refine lv_iload hx hb dX12_leads_217 (lv_at hl 0 rfl) ?_
            refine lv_iadd hx hb dX12_leads_219 ?_
            refine lv_topi (fun x347 ex347 => ?_)
            have ex347 : x347.toInt = a2.toInt + x313.toInt := by rw [ex347]; exact wk_add (show (-2147483648) ≤ a2.toInt + x313.toInt by omega) (show a2.toInt + x313.toInt ≤ 2147483647 by omega)
            refine lv_bipush (v := 24) hx hb dX12_leads_220 (by decide) ?_
            refine lv_idiv hx hb dX12_leads_222 (by decide) ?_
            refine lv_topi (fun x348 ex348 => ?_)
            have ex348 : x348.toInt = x347.toInt / (24 : Int) := by rw [ex348]; exact wk_div (show 0 ≤ x347.toInt by omega) (show 0 < (24 : Int) by decide)
            refine lv_iload hx hb dX12_leads_223 (lv_at hl 10 rfl) ?_
            refine lv_bipush (v := 24) hx hb dX12_leads_225 (by decide) ?_
            refine lv_idiv hx hb dX12_leads_227 (by decide) ?_
            refine lv_topi (fun x349 ex349 => ?_)
            have ex349 : x349.toInt = v145_8.toInt / (24 : Int) := by rw [ex349]; exact wk_div (show 0 ≤ v145_8.toInt by omega) (show 0 < (24 : Int) by decide)
            refine lv_icmp_ne (tgt := 235) hx hb dX12_leads_228 (by decide) (fun c350 => ?_) (fun c350 => ?_)
            · have c350 : ¬ x348.toInt = x349.toInt := wk_eqF c350
              refine lv_iconst (v := 0) hx hb dX12_leads_235 (by decide) ?_
              refine lv_iload hx hb dX12_leads_236 (lv_at hl 9 rfl) ?_
              refine tk_Vv hC hK hw hT hA hE hSR kM_at0 (by decide) rfl (k_X12_could_1 l adK adV dC dI cy ad B (by omega) (by omega) qr s1   x313 (show 0 ≤ x313.toInt by omega) (show x313.toInt ≤ 120 by omega) r315 (show 0 ≤ r315.toInt by omega) (show r315.toInt ≤ 9 by omega) v145_7 w85 H.size hT ) (cwV 4 hC.2.2.2.2 gX12_leads_X12_could rfl rfl rfl (by decide +kernel) ⟨Nat.le_of_ble_eq_true rfl, Nat.le_of_ble_eq_true rfl⟩) rfl hl.1 rfl (Nat.le_of_ble_eq_true rfl) dX12_leads_238 (fun w353 H locs hp352 hw => ?_)
              obtain ⟨hT, k354, hg355⟩ := hp352
              have hF := hF.tr k354 (by decide)
              have c356 := k354.gi kM_at12 rfl c88
              have c357 := k354.gi kM_at12 (by decide) c100
              have c358 := k354.gi kM_at12 rfl c101
              have c359 := k354.gi kM_at12 rfl c311
              clear hg355
              exact J241 v145_7 v145_8 v145_9 r89 x313 f145_12__9_a1_toInt_217_toNat x99 H locs ls w353 (show 0 ≤ a1.toInt by omega) (show a1.toInt ≤ 3 by omega) (show 0 ≤ a2.toInt by omega) (show a2.toInt ≤ 1073741824 by omega) (show 0 ≤ a3.toInt by omega) (show a3.toInt ≤ 120 by omega) (show 0 ≤ a4.toInt by omega) (show a4.toInt ≤ 9 by omega) (show 0 ≤ a6.toInt by omega) (show a6.toInt ≤ 120 by omega) (show 0 ≤ v145_8.toInt by omega) (show v145_8.toInt ≤ 1073741944 by omega) (show 0 ≤ v145_9.toInt by omega) (show v145_9.toInt ≤ 1 by omega) (show 0 ≤ r89.toInt by omega) (show r89.toInt ≤ 11 by omega) (show 0 ≤ x313.toInt by omega) (show x313.toInt ≤ 129 by omega) (show 0 ≤ f145_12__9_a1_toInt_217_toNat.toInt by omega) (show f145_12__9_a1_toInt_217_toNat.toInt ≤ 9 by omega) (show 1 ≤ x99.toInt by omega) (show x99.toInt ≤ 12 by omega)  hw hT hF c356 c357 (lv_sub hl [2, 3, 4, 5, 6, 7, 8, 9, 10, 11, 1, 0] rfl)
            · have c350 : x348.toInt = x349.toInt := wk_eq.mp c350
              refine lv_iconst (v := 1) hx hb dX12_leads_231 (by decide) ?_
              refine lv_goto (tgt := 236) hx hb dX12_leads_232 (by decide) ?_
              refine lv_iload hx hb dX12_leads_236 (lv_at hl 9 rfl) ?_
              refine tk_Vv hC hK hw hT hA hE hSR kM_at0 (by decide) rfl (k_X12_could_4 l adK adV dC dI cy ad B (by omega) (by omega) qr s1   x313 (show 0 ≤ x313.toInt by omega) (show x313.toInt ≤ 120 by omega) r315 (show 0 ≤ r315.toInt by omega) (show r315.toInt ≤ 9 by omega) v145_7 w85 H.size hT ) (cwV 4 hC.2.2.2.2 gX12_leads_X12_could rfl rfl rfl (by decide +kernel) ⟨Nat.le_of_ble_eq_true rfl, Nat.le_of_ble_eq_true rfl⟩) rfl hl.1 rfl (Nat.le_of_ble_eq_true rfl) dX12_leads_238 (fun w362 H locs hp361 hw => ?_)
              obtain ⟨hT, k363, hg364⟩ := hp361
              have hF := hF.tr k363 (by decide)
              have c365 := k363.gi kM_at12 rfl c88
              have c366 := k363.gi kM_at12 (by decide) c100
              have c367 := k363.gi kM_at12 rfl c101
              have c368 := k363.gi kM_at12 rfl c311
              clear hg364
              exact J241 v145_7 v145_8 v145_9 r89 x313 f145_12__9_a1_toInt_217_toNat x99 H locs ls w362 (show 0 ≤ a1.toInt by omega) (show a1.toInt ≤ 3 by omega) (show 0 ≤ a2.toInt by omega) (show a2.toInt ≤ 1073741824 by omega) (show 0 ≤ a3.toInt by omega) (show a3.toInt ≤ 120 by omega) (show 0 ≤ a4.toInt by omega) (show a4.toInt ≤ 9 by omega) (show 0 ≤ a6.toInt by omega) (show a6.toInt ≤ 120 by omega) (show 0 ≤ v145_8.toInt by omega) (show v145_8.toInt ≤ 1073741944 by omega) (show 0 ≤ v145_9.toInt by omega) (show v145_9.toInt ≤ 1 by omega) (show 0 ≤ r89.toInt by omega) (show r89.toInt ≤ 11 by omega) (show 0 ≤ x313.toInt by omega) (show x313.toInt ≤ 129 by omega) (show 0 ≤ f145_12__9_a1_toInt_217_toNat.toInt by omega) (show f145_12__9_a1_toInt_217_toNat.toInt ≤ 9 by omega) (show 1 ≤ x99.toInt by omega) (show x99.toInt ≤ 12 by omega)  hw hT hF c365 c366 (lv_sub hl [2, 3, 4, 5, 6, 7, 8, 9, 10, 11, 1, 0] rfl)
    · refine lv_istore (lv' := [(10, .int (-1)), (0, .ref (ad 0)), (1, .int a1), (2, .int a2), (3, .int a3), (4, .int a4), (5, .int 1), (6, .int a6), (7, .int v145_7), (8, .int v145_8), (9, .int v145_9)]) hx hb dX12_leads_161 hl (by decide) rfl (fun ls hl => ?_)
      refine lv_iload hx hb dX12_leads_163 (lv_at hl 0 rfl) ?_
      refine lv_if_lt (tgt := 181) hx hb dX12_leads_165 (by decide) (fun _ => ?_) (fun c => absurd (by decide) c)
      exact J181 v145_7 v145_8 v145_9 (-1) f145_12__9_a1_toInt_217_toNat H locs ls w85 (show 0 ≤ a1.toInt by omega) (show a1.toInt ≤ 3 by omega) (show 0 ≤ a2.toInt by omega) (show a2.toInt ≤ 1073741824 by omega) (show 0 ≤ a3.toInt by omega) (show a3.toInt ≤ 120 by omega) (show 0 ≤ a4.toInt by omega) (show a4.toInt ≤ 9 by omega) (show 0 ≤ a6.toInt by omega) (show a6.toInt ≤ 120 by omega) (show 0 ≤ v145_8.toInt by omega) (show v145_8.toInt ≤ 1073741944 by omega) (show 0 ≤ v145_9.toInt by omega) (show v145_9.toInt ≤ 1 by omega) (by decide) (by decide) (show 0 ≤ f145_12__9_a1_toInt_217_toNat.toInt by omega) (show f145_12__9_a1_toInt_217_toNat.toInt ≤ 9 by omega)  hw hT hF c88 (lv_sub hl [1, 2, 3, 4, 5, 6, 7, 8, 9, 10, 0] rfl)
  have J115 : ∀ (v115_7 : Int32) (v115_8 : Int32) (v115_9 : Int32) (f115_12__9_a1_toInt_217_toNat : Int32) (H : Heap) (locs : List Loc) (ls : Array Slot) (w369 : va_W), 0 ≤ a1.toInt → a1.toInt ≤ 3 → 0 ≤ a2.toInt → a2.toInt ≤ 1073741824 → 0 ≤ a3.toInt → a3.toInt ≤ 120 → 0 ≤ a4.toInt → a4.toInt ≤ 9 → 0 ≤ a6.toInt → a6.toInt ≤ 120 → 0 ≤ v115_8.toInt → v115_8.toInt ≤ 1073741944 → 0 ≤ v115_9.toInt → v115_9.toInt ≤ 1 → 0 ≤ f115_12__9_a1_toInt_217_toNat.toInt → f115_12__9_a1_toInt_217_toNat.toInt ≤ 9 → Wd dC dI A s.heap H locs w369 → TW ksM ad cy B qr 12 w369 → FE ksM [(72, 0, 12), (73, 0, 10), (76, 0, 2600)] w0 w369 → gi w369 12 (9 * a1.toInt + 217).toNat = f115_12__9_a1_toInt_217_toNat → lv_has ls 12 [(0, .ref (ad 0)), (1, .int a1), (2, .int a2), (3, .int a3), (4, .int a4), (5, .int 1), (6, .int a6), (7, .int v115_7), (8, .int v115_8), (9, .int v115_9)] → W p l e ({ frames := 5, cells := 0, slots := 0, locals := 103 }) s m (List.toArray [.ref (ad 0), .int a1, .int a2, .int a3, .int a4, .int 1, .int a6]) below meth c H locs 0 0 (MQ below (va_Qv (P_X12_leads_2 ad cy B qr s1 a1 a2 a3 a4 a6 w0) (fun u : va_W => wpost dC dI cy A u) A) (List.toArray [.ref (ad 0), .int a1, .int a2, .int a3, .int a4, .int 1, .int a6]) s 0 0 A) (F0 m 115 ls []) := by
    intro v115_7 v115_8 v115_9 f115_12__9_a1_toInt_217_toNat H locs ls w369 r370 t371 r372 t373 r374 t375 r376 t377 r378 t379 r380 t381 r382 t383 r384 t385 hw hT hF c386 hl
    refine lv_iload hx hb dX12_leads_115 (lv_at hl 5 rfl) ?_
    refine lv_if_eq (tgt := 135) hx hb dX12_leads_117 (by decide) (fun c => absurd c (by decide)) (fun _ => ?_)
    refine lv_aload_n hx hb dX12_leads_120 rfl (lv_at hl 0 rfl) ?_
    refine lv_iload hx hb dX12_leads_121 (lv_at hl 8 rfl) ?_
    refine lv_bipush (v := 24) hx hb dX12_leads_123 (by decide) ?_
    refine lv_idiv hx hb dX12_leads_125 (by decide) ?_
    refine lv_topi (fun x387 ex387 => ?_)
    have ex387 : x387.toInt = v115_8.toInt / (24 : Int) := by rw [ex387]; exact wk_div (show 0 ≤ v115_8.toInt by omega) (show 0 < (24 : Int) by decide)
    refine lv_bipush (v := 7) hx hb dX12_leads_126 (by decide) ?_
    refine lv_irem hx hb dX12_leads_128 (by decide) ?_
    refine lv_topi (fun x388 ex388 => ?_)
    have ex388 : x388.toInt = x387.toInt % (7 : Int) := by rw [ex388]; exact wk_rem (show 0 ≤ x387.toInt by omega) (show 0 < (7 : Int) by decide)
    refine tk_Vv hC hK hw hT hA hE hSR kM_at0 (by decide) rfl (k_X12_takesDay_1 l adK adV dC dI cy ad B (by omega) (by omega) qr s1   x388 (show 0 ≤ x388.toInt by omega) (show x388.toInt ≤ 6 by omega) w369 H.size hT ) (cwV 1 hC.2.2.2.2 gX12_leads_X12_takesDay rfl rfl rfl (by decide +kernel) ⟨Nat.le_of_ble_eq_true rfl, Nat.le_of_ble_eq_true rfl⟩) rfl hl.1 rfl (Nat.le_of_ble_eq_true rfl) dX12_leads_129 (fun w391 H locs hp390 hw => ?_)
    obtain ⟨hT, k392, hg393⟩ := hp390
    have hF := hF.tr k392 (by decide)
    have c394 := k392.gi kM_at12 rfl c386
    clear hg393
    refine lv_goto (tgt := 145) hx hb dX12_leads_132 (by decide) ?_
    exact J145 v115_7 v115_8 v115_9 f115_12__9_a1_toInt_217_toNat H locs ls w391 (show 0 ≤ a1.toInt by omega) (show a1.toInt ≤ 3 by omega) (show 0 ≤ a2.toInt by omega) (show a2.toInt ≤ 1073741824 by omega) (show 0 ≤ a3.toInt by omega) (show a3.toInt ≤ 120 by omega) (show 0 ≤ a4.toInt by omega) (show a4.toInt ≤ 9 by omega) (show 0 ≤ a6.toInt by omega) (show a6.toInt ≤ 120 by omega) (show 0 ≤ v115_8.toInt by omega) (show v115_8.toInt ≤ 1073741944 by omega) (show 0 ≤ v115_9.toInt by omega) (show v115_9.toInt ≤ 1 by omega) (show 0 ≤ f115_12__9_a1_toInt_217_toNat.toInt by omega) (show f115_12__9_a1_toInt_217_toNat.toInt ≤ 9 by omega)  hw hT hF c394 (lv_sub hl [0, 1, 2, 3, 4, 5, 6, 7, 8, 9] rfl)
  refine lv_aload_n hx hb dX12_leads_0 rfl (lv_at hl 0 rfl) ?_
  refine tk_getA hC hK hw hT hinX12 kM_at0 (by decide) rfl 34 (by decide) (List.mem_of_getElem? (i := 1) rfl) rfl rfl dX12_leads_1 ?_
  refine lv_aload_n hx hb dX12_leads_4 rfl (lv_at hl 0 rfl) ?_
  refine lv_iload_n hx hb dX12_leads_5 rfl (lv_at hl 3 rfl) ?_
  refine lv_iload hx hb dX12_leads_6 (lv_at hl 4 rfl) ?_
  refine lv_iload hx hb dX12_leads_8 (lv_at hl 5 rfl) ?_
  refine tk_Vi hC hK hw hT hA hE hSR kM_at0 (by decide) rfl (k_X12_placeAt_4 l adK adV dC dI cy ad B (by omega) (by omega) qr s1   a3 (show 0 ≤ a3.toInt by omega) (show a3.toInt ≤ 120 by omega) a4 (show 0 ≤ a4.toInt by omega) (show a4.toInt ≤ 9 by omega) w0 s.heap.size hT ) (cwV 3 hC.2.2.2.2 gX12_leads_X12_placeAt rfl rfl rfl (by decide +kernel) ⟨Nat.le_of_ble_eq_true rfl, Nat.le_of_ble_eq_true rfl⟩) rfl hl.1 rfl (Nat.le_of_ble_eq_true rfl) dX12_leads_10 (fun r395 w397 H locs hp396 hw => ?_)
  obtain ⟨rfl, hg401⟩ := hp396
  obtain ⟨g399, g400⟩ := hg401
  refine tk_iald hC hK hw hT kM_at17 rfl rfl (show 0 ≤ r395.toInt by omega) (show r395.toInt < 2600 by omega) dX12_leads_13 (fun x402 c403 rx402 tx402 => ?_)
  refine lv_istore (lv' := [(7, .int x402), (0, .ref (ad 0)), (1, .int a1), (2, .int a2), (3, .int a3), (4, .int a4), (5, .int 1), (6, .int a6)]) hx hb dX12_leads_14 hl (by decide) rfl (fun ls hl => ?_)
  refine lv_iload hx hb dX12_leads_16 (lv_at hl 0 rfl) ?_
  refine lv_ldcw (v := 100000000) hx hb hC.2.2.2.1 (hC.2.2.2.2 _ (List.mem_of_getElem? (i := 2) rfl)) dX12_leads_18 ?_
  refine lv_icmp_eq (tgt := 41) hx hb dX12_leads_21 (by decide) (fun c404 => ?_) (fun c404 => ?_)
  · have c404 : x402.toInt = (100000000 : Int) := wk_eq.mp c404
    exact J41 x402 H locs ls w0 (show 0 ≤ a1.toInt by omega) (show a1.toInt ≤ 3 by omega) (show 0 ≤ a2.toInt by omega) (show a2.toInt ≤ 1073741824 by omega) (show 0 ≤ a3.toInt by omega) (show a3.toInt ≤ 120 by omega) (show 0 ≤ a4.toInt by omega) (show a4.toInt ≤ 9 by omega) (show 0 ≤ a6.toInt by omega) (show a6.toInt ≤ 120 by omega)  hw hT hF  (lv_sub hl [1, 2, 3, 4, 5, 6, 7, 0] rfl)
  · have c404 : ¬ x402.toInt = (100000000 : Int) := wk_eqF c404
    refine lv_iload_n hx hb dX12_leads_24 rfl (lv_at hl 4 rfl) ?_
    refine lv_iload hx hb dX12_leads_25 (lv_at hl 7 rfl) ?_
    refine lv_icmp_eq (tgt := 41) hx hb dX12_leads_27 (by decide) (fun c405 => ?_) (fun c405 => ?_)
    · have c405 : a3.toInt = a6.toInt := wk_eq.mp c405
      exact J41 x402 H locs ls w0 (show 0 ≤ a1.toInt by omega) (show a1.toInt ≤ 3 by omega) (show 0 ≤ a2.toInt by omega) (show a2.toInt ≤ 1073741824 by omega) (show 0 ≤ a3.toInt by omega) (show a3.toInt ≤ 120 by omega) (show 0 ≤ a4.toInt by omega) (show a4.toInt ≤ 9 by omega) (show 0 ≤ a6.toInt by omega) (show a6.toInt ≤ 120 by omega)  hw hT hF  (lv_sub hl [1, 2, 3, 4, 5, 6, 7, 0] rfl)
    · have c405 : ¬ a3.toInt = a6.toInt := wk_eqF c405
      refine lv_iload hx hb dX12_leads_30 (lv_at hl 5 rfl) ?_
      refine lv_aload_n hx hb dX12_leads_32 rfl (lv_at hl 1 rfl) ?_
      refine lv_iload_n hx hb dX12_leads_33 rfl (lv_at hl 2 rfl) ?_
      refine lv_iconst (v := 1) hx hb dX12_leads_34 (by decide) ?_
      refine tk_Vi hC hK hw hT hA hE hSR kM_at0 (by decide) rfl (k_X12_walkerOf_3 l adK adV dC dI cy ad B (by omega) (by omega) qr s1   a1 (show 0 ≤ a1.toInt by omega) (show a1.toInt ≤ 3 by omega) w0 H.size hT ) (cwV 2 hC.2.2.2.2 gX12_leads_X12_walkerOf rfl rfl rfl (by decide +kernel) ⟨Nat.le_of_ble_eq_true rfl, Nat.le_of_ble_eq_true rfl⟩) rfl hl.1 rfl (Nat.le_of_ble_eq_true rfl) dX12_leads_35 (fun r406 w408 H locs hp407 hw => ?_)
      obtain ⟨rfl, hg413⟩ := hp407
      obtain ⟨g410, g411, c412⟩ := hg413
      refine lv_icmp_ne (tgt := 42) hx hb dX12_leads_38 (by decide) (fun c414 => ?_) (fun c414 => ?_)
      · have c414 : ¬ a4.toInt = r406.toInt := wk_eqF c414
        refine lv_iload_n hx hb dX12_leads_42 rfl (lv_at hl 3 rfl) ?_
        refine lv_iload_n hx hb dX12_leads_43 rfl (lv_at hl 4 rfl) ?_
        refine lv_iadd hx hb dX12_leads_44 ?_
        refine lv_topi (fun x415 ex415 => ?_)
        have ex415 : x415.toInt = a2.toInt + a3.toInt := by rw [ex415]; exact wk_add (show (-2147483648) ≤ a2.toInt + a3.toInt by omega) (show a2.toInt + a3.toInt ≤ 2147483647 by omega)
        refine lv_istore (lv' := [(8, .int x415), (7, .int x402), (0, .ref (ad 0)), (1, .int a1), (2, .int a2), (3, .int a3), (4, .int a4), (5, .int 1), (6, .int a6)]) hx hb dX12_leads_45 hl (by decide) rfl (fun ls hl => ?_)
        refine lv_iload hx hb dX12_leads_47 (lv_at hl 0 rfl) ?_
        refine lv_iconst (v := 1) hx hb dX12_leads_49 (by decide) ?_
        refine lv_iadd hx hb dX12_leads_50 ?_
        refine lv_topi (fun x416 ex416 => ?_)
        have ex416 : x416.toInt = x415.toInt + (1 : Int) := by rw [ex416]; exact wk_add (show (-2147483648) ≤ x415.toInt + (1 : Int) by omega) (show x415.toInt + (1 : Int) ≤ 2147483647 by omega)
        refine lv_bipush (v := 24) hx hb dX12_leads_51 (by decide) ?_
        refine lv_idiv hx hb dX12_leads_53 (by decide) ?_
        refine lv_topi (fun x417 ex417 => ?_)
        have ex417 : x417.toInt = x416.toInt / (24 : Int) := by rw [ex417]; exact wk_div (show 0 ≤ x416.toInt by omega) (show 0 < (24 : Int) by decide)
        refine lv_iload hx hb dX12_leads_54 (lv_at hl 0 rfl) ?_
        refine lv_bipush (v := 24) hx hb dX12_leads_56 (by decide) ?_
        refine lv_idiv hx hb dX12_leads_58 (by decide) ?_
        refine lv_topi (fun x418 ex418 => ?_)
        have ex418 : x418.toInt = x415.toInt / (24 : Int) := by rw [ex418]; exact wk_div (show 0 ≤ x415.toInt by omega) (show 0 < (24 : Int) by decide)
        refine lv_icmp_ne (tgt := 66) hx hb dX12_leads_59 (by decide) (fun c419 => ?_) (fun c419 => ?_)
        · have c419 : ¬ x417.toInt = x418.toInt := wk_eqF c419
          refine lv_iconst (v := 0) hx hb dX12_leads_66 (by decide) ?_
          refine lv_istore (lv' := [(9, .int 0), (8, .int x415), (7, .int x402), (0, .ref (ad 0)), (1, .int a1), (2, .int a2), (3, .int a3), (4, .int a4), (5, .int 1), (6, .int a6)]) hx hb dX12_leads_67 hl (by decide) rfl (fun ls hl => ?_)
          refine lv_aload_n hx hb dX12_leads_69 rfl (lv_at hl 3 rfl) ?_
          refine lv_iload_n hx hb dX12_leads_70 rfl (lv_at hl 6 rfl) ?_
          refine lv_iconst (v := 1) hx hb dX12_leads_71 (by decide) ?_
          refine lv_iadd hx hb dX12_leads_72 ?_
          refine lv_topi (fun x420 ex420 => ?_)
          have ex420 : x420.toInt = a3.toInt + (1 : Int) := by rw [ex420]; exact wk_add (show (-2147483648) ≤ a3.toInt + (1 : Int) by omega) (show a3.toInt + (1 : Int) ≤ 2147483647 by omega)
          refine lv_iload hx hb dX12_leads_73 (lv_at hl 7 rfl) ?_
          refine lv_iload hx hb dX12_leads_75 (lv_at hl 8 rfl) ?_
          refine lv_if_eq (tgt := 89) hx hb dX12_leads_77 (by decide) (fun c => absurd c (by decide)) (fun _ => ?_)
          refine lv_iload hx hb dX12_leads_80 (lv_at hl 0 rfl) ?_
          refine lv_if_eq (tgt := 89) hx hb dX12_leads_82 (by decide) (fun _ => ?_) (fun c => absurd (by decide) c)
          refine lv_iconst (v := 0) hx hb dX12_leads_89 (by decide) ?_
          refine lv_iload hx hb dX12_leads_90 (lv_at hl 2 rfl) ?_
          refine tk_Vv hC hK hw hT hA hE hSR kM_at0 (by decide) rfl (k_X12_could_2 l adK adV dC dI cy ad B (by omega) (by omega) qr s1   x420 (show 1 ≤ x420.toInt by omega) (show x420.toInt ≤ 121 by omega) a4 (show 0 ≤ a4.toInt by omega) (show a4.toInt ≤ 9 by omega) x402 w0 H.size hT ) (cwV 4 hC.2.2.2.2 gX12_leads_X12_could rfl rfl rfl (by decide +kernel) ⟨Nat.le_of_ble_eq_true rfl, Nat.le_of_ble_eq_true rfl⟩) rfl hl.1 rfl (Nat.le_of_ble_eq_true rfl) dX12_leads_92 (fun w423 H locs hp422 hw => ?_)
          obtain ⟨hT, k424, hg425⟩ := hp422
          have hF := hF.tr k424 (by decide)
          have c426 := k424.gi kM_at12 rfl c412
          clear hg425
          refine lv_iload hx hb dX12_leads_95 (lv_at hl 8 rfl) ?_
          refine lv_if_ne (tgt := 115) hx hb dX12_leads_97 (by decide) (fun _ => ?_) (fun c => absurd c (by decide))
          exact J115 x402 x415 0 r406 H locs ls w423 (show 0 ≤ a1.toInt by omega) (show a1.toInt ≤ 3 by omega) (show 0 ≤ a2.toInt by omega) (show a2.toInt ≤ 1073741824 by omega) (show 0 ≤ a3.toInt by omega) (show a3.toInt ≤ 120 by omega) (show 0 ≤ a4.toInt by omega) (show a4.toInt ≤ 9 by omega) (show 0 ≤ a6.toInt by omega) (show a6.toInt ≤ 120 by omega) (show 0 ≤ x415.toInt by omega) (show x415.toInt ≤ 1073741944 by omega) (by decide) (by decide) (show 0 ≤ r406.toInt by omega) (show r406.toInt ≤ 9 by omega)  hw hT hF c426 (lv_sub hl [3, 4, 5, 6, 7, 8, 9, 2, 1, 0] rfl)
        · have c419 : x417.toInt = x418.toInt := wk_eq.mp c419
          refine lv_iconst (v := 1) hx hb dX12_leads_62 (by decide) ?_
          refine lv_goto (tgt := 67) hx hb dX12_leads_63 (by decide) ?_
          refine lv_istore (lv' := [(9, .int 1), (8, .int x415), (7, .int x402), (0, .ref (ad 0)), (1, .int a1), (2, .int a2), (3, .int a3), (4, .int a4), (5, .int 1), (6, .int a6)]) hx hb dX12_leads_67 hl (by decide) rfl (fun ls hl => ?_)
          refine lv_aload_n hx hb dX12_leads_69 rfl (lv_at hl 3 rfl) ?_
          refine lv_iload_n hx hb dX12_leads_70 rfl (lv_at hl 6 rfl) ?_
          refine lv_iconst (v := 1) hx hb dX12_leads_71 (by decide) ?_
          refine lv_iadd hx hb dX12_leads_72 ?_
          refine lv_topi (fun x427 ex427 => ?_)
          have ex427 : x427.toInt = a3.toInt + (1 : Int) := by rw [ex427]; exact wk_add (show (-2147483648) ≤ a3.toInt + (1 : Int) by omega) (show a3.toInt + (1 : Int) ≤ 2147483647 by omega)
          refine lv_iload hx hb dX12_leads_73 (lv_at hl 7 rfl) ?_
          refine lv_iload hx hb dX12_leads_75 (lv_at hl 8 rfl) ?_
          refine lv_if_eq (tgt := 89) hx hb dX12_leads_77 (by decide) (fun c => absurd c (by decide)) (fun _ => ?_)
          refine lv_iload hx hb dX12_leads_80 (lv_at hl 0 rfl) ?_
          refine lv_if_eq (tgt := 89) hx hb dX12_leads_82 (by decide) (fun c => absurd c (by decide)) (fun _ => ?_)
          refine lv_iconst (v := 1) hx hb dX12_leads_85 (by decide) ?_
          refine lv_goto (tgt := 90) hx hb dX12_leads_86 (by decide) ?_
          refine lv_iload hx hb dX12_leads_90 (lv_at hl 2 rfl) ?_
          refine tk_Vv hC hK hw hT hA hE hSR kM_at0 (by decide) rfl (k_X12_could_3 l adK adV dC dI cy ad B (by omega) (by omega) qr s1   x427 (show 1 ≤ x427.toInt by omega) (show x427.toInt ≤ 121 by omega) a4 (show 0 ≤ a4.toInt by omega) (show a4.toInt ≤ 9 by omega) x402 w0 H.size hT ) (cwV 4 hC.2.2.2.2 gX12_leads_X12_could rfl rfl rfl (by decide +kernel) ⟨Nat.le_of_ble_eq_true rfl, Nat.le_of_ble_eq_true rfl⟩) rfl hl.1 rfl (Nat.le_of_ble_eq_true rfl) dX12_leads_92 (fun w430 H locs hp429 hw => ?_)
          obtain ⟨hT, k431, hg432⟩ := hp429
          have hF := hF.tr k431 (by decide)
          have c433 := k431.gi kM_at12 rfl c412
          clear hg432
          refine lv_iload hx hb dX12_leads_95 (lv_at hl 8 rfl) ?_
          refine lv_if_ne (tgt := 115) hx hb dX12_leads_97 (by decide) (fun _ => ?_) (fun c => absurd c (by decide))
          exact J115 x402 x415 1 r406 H locs ls w430 (show 0 ≤ a1.toInt by omega) (show a1.toInt ≤ 3 by omega) (show 0 ≤ a2.toInt by omega) (show a2.toInt ≤ 1073741824 by omega) (show 0 ≤ a3.toInt by omega) (show a3.toInt ≤ 120 by omega) (show 0 ≤ a4.toInt by omega) (show a4.toInt ≤ 9 by omega) (show 0 ≤ a6.toInt by omega) (show a6.toInt ≤ 120 by omega) (show 0 ≤ x415.toInt by omega) (show x415.toInt ≤ 1073741944 by omega) (by decide) (by decide) (show 0 ≤ r406.toInt by omega) (show r406.toInt ≤ 9 by omega)  hw hT hF c433 (lv_sub hl [3, 4, 5, 6, 7, 8, 9, 2, 1, 0] rfl)
      · have c414 : a4.toInt = r406.toInt := wk_eq.mp c414
        exact J41 x402 H locs ls w0 (show 0 ≤ a1.toInt by omega) (show a1.toInt ≤ 3 by omega) (show 0 ≤ a2.toInt by omega) (show a2.toInt ≤ 1073741824 by omega) (show 0 ≤ a3.toInt by omega) (show a3.toInt ≤ 120 by omega) (show 0 ≤ a4.toInt by omega) (show a4.toInt ≤ 9 by omega) (show 0 ≤ a6.toInt by omega) (show a6.toInt ≤ 120 by omega)  hw hT hF  (lv_sub hl [1, 2, 3, 4, 5, 6, 7, 0] rfl)
abbrev P_X12_walkerOf_5 (ad : Nat → Nat) (cy : Nat → ClassId) (B : Int) (qr : Nat) (s1 : Int) (a1 : Int32) (w0 : va_W) : Int32 → va_W → Prop := fun r u => w0 = u ∧ ((0 ≤ r.toInt ∧ r.toInt ≤ 9 ∧ gi u 12 (9 * a1.toInt + 216).toNat = r))
set_option maxHeartbeats 4000000 in
set_option maxRecDepth 100000 in
theorem k_X12_walkerOf_5 (l : Launch) (adK adV : Nat → Nat) (dC : Nat → ClassId) (dI : Nat → Nat → Nat) (cy : Nat → ClassId) (ad : Nat → Nat) (B : Int) (hB0 : 100000 ≤ B) (hB1 : B ≤ 1073741824) (qr : Nat) (s1 : Int)  (a1 : Int32) (ra1 : 0 ≤ a1.toInt) (ta1 : a1.toInt ≤ 3) (w0 : va_W) (sz : Nat) (hT : TW ksM ad cy B qr 12 w0)  : Met l yX12_walkerOf wsX12_walkerOf ({ frames := 1, cells := 0, slots := 0, locals := 12 }) (va_Pc [.ref (ad 0), .int a1, .int 0] (wpreS adK adV dC dI cy sz w0)) (va_Qi (P_X12_walkerOf_5 ad cy B qr s1 a1 w0) (fun u : va_W => wpost dC dI cy (va_A w0 sz) u) (va_A w0 sz)) 0 0 (va_A w0 sz) := by
  refine Met.ofW (cc := cX12_walkerOf) (maxL := 3) (ret := (some .int)) (by decide) rfl ?_
  intro p e s m args below meth c s₁ Bk hml hv
  obtain ⟨rfl, ⟨hsz, hP, hK, hD0⟩, hE, hSR⟩ := hv
  have hx := Bk.exec
  have hb := Bk.bytes
  have hr := Bk.returns
  have hlocks := Bk.notSynchronized
  have hC : CallFix p m c cX12_walkerOf 3 s _ wsX12_walkerOf RX12 := ⟨hx, hb, hml, findClass_of_methodNamed Bk.named, atoms_spec (ws := wsX12_walkerOf) Bk.pre⟩
  subst hsz
  have hD := hD0.self (sz := s.heap.size)
  generalize hAe : va_A w0 s.heap.size = A at hD hE ⊢
  have hA : ∀ q : Nat, s.heap.size ≤ q → A q := fun q h => by rw [← hAe]; exact Or.inr h
  have hw : Wd dC dI A s.heap s.heap [] w0 := ⟨hP, hD, va_S.rf⟩
  have hF : FE ksM ([] : List (Nat × Nat × Nat)) w0 w0 := FE.rf
  have hl := lv_entry ([.ref (ad 0), .int a1, .int 0]) (n := 3) (Nat.le_of_ble_eq_true rfl)
  rw [lg_entry_eq]
  generalize (lg_sl ([.ref (ad 0), .int a1, .int 0]) ++ List.replicate (3 - (lg_sl ([.ref (ad 0), .int a1, .int 0])).length) Slot.unset).toArray = ls at hl ⊢
  have hl : lv_has ls 3 [(0, .ref (ad 0)), (1, .int a1), (2, .int 0)] := hl
  generalize hloc : ([] : List Loc) = locs at hw ⊢
  have hinX12 : ∀ w ∈ u_ws RX12 TX12 42, w ∈ wsX12_walkerOf := fun _ h => List.mem_cons_of_mem _ (List.mem_append_right _ (h))
  refine lv_aload_n hx hb dX12_walkerOf_0 rfl (lv_at hl 0 rfl) ?_
  refine tk_getA hC hK hw hT hinX12 kM_at0 (by decide) rfl 26 (by decide) (List.mem_of_getElem? (i := 1) rfl) rfl rfl dX12_walkerOf_1 ?_
  refine lv_sipush (v := 216) hx hb dX12_walkerOf_4 (by decide) ?_
  refine lv_bipush (v := 9) hx hb dX12_walkerOf_7 (by decide) ?_
  refine lv_iload_n hx hb dX12_walkerOf_9 rfl (lv_at hl 1 rfl) ?_
  refine lv_imul hx hb dX12_walkerOf_10 ?_
  refine lv_topi (fun x1 ex1 => ?_)
  have ex1 : x1.toInt = (9 : Int) * a1.toInt := by rw [ex1]; exact wk_mul (show (-2147483648) ≤ (9 : Int) * a1.toInt by omega) (show (9 : Int) * a1.toInt ≤ 2147483647 by omega)
  refine lv_iadd hx hb dX12_walkerOf_11 ?_
  refine lv_topi (fun x2 ex2 => ?_)
  have ex2 : x2.toInt = (216 : Int) + x1.toInt := by rw [ex2]; exact wk_add (show (-2147483648) ≤ (216 : Int) + x1.toInt by omega) (show (216 : Int) + x1.toInt ≤ 2147483647 by omega)
  refine lv_iload_n hx hb dX12_walkerOf_12 rfl (lv_at hl 2 rfl) ?_
  refine lv_iadd hx hb dX12_walkerOf_13 ?_
  refine lv_topi (fun x3 ex3 => ?_)
  have ex3 : x3.toInt = x2.toInt + (0 : Int) := by rw [ex3]; exact wk_add (show (-2147483648) ≤ x2.toInt + (0 : Int) by omega) (show x2.toInt + (0 : Int) ≤ 2147483647 by omega)
  refine tk_ialdR hC hK hw hT kM_at12 rfl (show 0 ≤ x3.toInt by omega) (show x3.toInt < 296 by omega) dX12_walkerOf_14 (fun x4 c5 Ex4 => ?_)
  have c5 : gi w0 12 (9 * a1.toInt + 216).toNat = x4 := (congrArg (gi w0 12) (congrArg Int.toNat (show 9 * a1.toInt + 216 = x3.toInt by omega))).trans c5
  have bx4 := tk_rgI rfl 216 9 4 0 9 (by decide +kernel) ⟨(a1.toInt - 0).toNat, by omega, show x3.toInt.toNat = 216 + 9 * (a1.toInt - 0).toNat by omega⟩ Ex4
  exact tk_iret hC hr hlocks hK ⟨rfl, ⟨(show 0 ≤ x4.toInt by omega), (show x4.toInt ≤ 9 by omega), c5⟩⟩ hw dX12_walkerOf_15
abbrev P_X12_walkerOf_6 (ad : Nat → Nat) (cy : Nat → ClassId) (B : Int) (qr : Nat) (s1 : Int) (a1 : Int32) (w0 : va_W) : Int32 → va_W → Prop := fun r u => w0 = u ∧ ((gi u 12 (9 * a1.toInt + 224).toNat = r))
set_option maxHeartbeats 4000000 in
set_option maxRecDepth 100000 in
theorem k_X12_walkerOf_6 (l : Launch) (adK adV : Nat → Nat) (dC : Nat → ClassId) (dI : Nat → Nat → Nat) (cy : Nat → ClassId) (ad : Nat → Nat) (B : Int) (hB0 : 100000 ≤ B) (hB1 : B ≤ 1073741824) (qr : Nat) (s1 : Int)  (a1 : Int32) (ra1 : 0 ≤ a1.toInt) (ta1 : a1.toInt ≤ 3) (w0 : va_W) (sz : Nat) (hT : TW ksM ad cy B qr 12 w0)  : Met l yX12_walkerOf wsX12_walkerOf ({ frames := 1, cells := 0, slots := 0, locals := 12 }) (va_Pc [.ref (ad 0), .int a1, .int 8] (wpreS adK adV dC dI cy sz w0)) (va_Qi (P_X12_walkerOf_6 ad cy B qr s1 a1 w0) (fun u : va_W => wpost dC dI cy (va_A w0 sz) u) (va_A w0 sz)) 0 0 (va_A w0 sz) := by
  refine Met.ofW (cc := cX12_walkerOf) (maxL := 3) (ret := (some .int)) (by decide) rfl ?_
  intro p e s m args below meth c s₁ Bk hml hv
  obtain ⟨rfl, ⟨hsz, hP, hK, hD0⟩, hE, hSR⟩ := hv
  have hx := Bk.exec
  have hb := Bk.bytes
  have hr := Bk.returns
  have hlocks := Bk.notSynchronized
  have hC : CallFix p m c cX12_walkerOf 3 s _ wsX12_walkerOf RX12 := ⟨hx, hb, hml, findClass_of_methodNamed Bk.named, atoms_spec (ws := wsX12_walkerOf) Bk.pre⟩
  subst hsz
  have hD := hD0.self (sz := s.heap.size)
  generalize hAe : va_A w0 s.heap.size = A at hD hE ⊢
  have hA : ∀ q : Nat, s.heap.size ≤ q → A q := fun q h => by rw [← hAe]; exact Or.inr h
  have hw : Wd dC dI A s.heap s.heap [] w0 := ⟨hP, hD, va_S.rf⟩
  have hF : FE ksM ([] : List (Nat × Nat × Nat)) w0 w0 := FE.rf
  have hl := lv_entry ([.ref (ad 0), .int a1, .int 8]) (n := 3) (Nat.le_of_ble_eq_true rfl)
  rw [lg_entry_eq]
  generalize (lg_sl ([.ref (ad 0), .int a1, .int 8]) ++ List.replicate (3 - (lg_sl ([.ref (ad 0), .int a1, .int 8])).length) Slot.unset).toArray = ls at hl ⊢
  have hl : lv_has ls 3 [(0, .ref (ad 0)), (1, .int a1), (2, .int 8)] := hl
  generalize hloc : ([] : List Loc) = locs at hw ⊢
  have hinX12 : ∀ w ∈ u_ws RX12 TX12 42, w ∈ wsX12_walkerOf := fun _ h => List.mem_cons_of_mem _ (List.mem_append_right _ (h))
  refine lv_aload_n hx hb dX12_walkerOf_0 rfl (lv_at hl 0 rfl) ?_
  refine tk_getA hC hK hw hT hinX12 kM_at0 (by decide) rfl 26 (by decide) (List.mem_of_getElem? (i := 1) rfl) rfl rfl dX12_walkerOf_1 ?_
  refine lv_sipush (v := 216) hx hb dX12_walkerOf_4 (by decide) ?_
  refine lv_bipush (v := 9) hx hb dX12_walkerOf_7 (by decide) ?_
  refine lv_iload_n hx hb dX12_walkerOf_9 rfl (lv_at hl 1 rfl) ?_
  refine lv_imul hx hb dX12_walkerOf_10 ?_
  refine lv_topi (fun x1 ex1 => ?_)
  have ex1 : x1.toInt = (9 : Int) * a1.toInt := by rw [ex1]; exact wk_mul (show (-2147483648) ≤ (9 : Int) * a1.toInt by omega) (show (9 : Int) * a1.toInt ≤ 2147483647 by omega)
  refine lv_iadd hx hb dX12_walkerOf_11 ?_
  refine lv_topi (fun x2 ex2 => ?_)
  have ex2 : x2.toInt = (216 : Int) + x1.toInt := by rw [ex2]; exact wk_add (show (-2147483648) ≤ (216 : Int) + x1.toInt by omega) (show (216 : Int) + x1.toInt ≤ 2147483647 by omega)
  refine lv_iload_n hx hb dX12_walkerOf_12 rfl (lv_at hl 2 rfl) ?_
  refine lv_iadd hx hb dX12_walkerOf_13 ?_
  refine lv_topi (fun x3 ex3 => ?_)
  have ex3 : x3.toInt = x2.toInt + (8 : Int) := by rw [ex3]; exact wk_add (show (-2147483648) ≤ x2.toInt + (8 : Int) by omega) (show x2.toInt + (8 : Int) ≤ 2147483647 by omega)
  refine tk_ialdR hC hK hw hT kM_at12 rfl (show 0 ≤ x3.toInt by omega) (show x3.toInt < 296 by omega) dX12_walkerOf_14 (fun x4 c5 Ex4 => ?_)
  have c5 : gi w0 12 (9 * a1.toInt + 224).toNat = x4 := (congrArg (gi w0 12) (congrArg Int.toNat (show 9 * a1.toInt + 224 = x3.toInt by omega))).trans c5
  exact tk_iret hC hr hlocks hK ⟨rfl, c5⟩ hw dX12_walkerOf_15
abbrev P_X12_askedToday_1 (ad : Nat → Nat) (cy : Nat → ClassId) (B : Int) (qr : Nat) (s1 : Int) (a1 : Int32) (w0 : va_W) : Int32 → va_W → Prop := fun r u => w0 = u ∧ ((r = 0) ∨ (r = 1))
set_option maxHeartbeats 4000000 in
set_option maxRecDepth 100000 in
theorem k_X12_askedToday_1 (l : Launch) (adK adV : Nat → Nat) (dC : Nat → ClassId) (dI : Nat → Nat → Nat) (cy : Nat → ClassId) (ad : Nat → Nat) (B : Int) (hB0 : 100000 ≤ B) (hB1 : B ≤ 1073741824) (qr : Nat) (s1 : Int)  (a1 : Int32) (ra1 : 0 ≤ a1.toInt) (ta1 : a1.toInt ≤ 3) (w0 : va_W) (sz : Nat) (hT : TW ksM ad cy B qr 12 w0)  : Met l yX12_askedToday wsX12_askedToday ({ frames := 2, cells := 0, slots := 0, locals := 34 }) (va_Pc [.ref (ad 0), .int a1] (wpreS adK adV dC dI cy sz w0)) (va_Qi (P_X12_askedToday_1 ad cy B qr s1 a1 w0) (fun u : va_W => wpost dC dI cy (va_A w0 sz) u) (va_A w0 sz)) 0 0 (va_A w0 sz) := by
  refine Met.ofW (cc := cX12_askedToday) (maxL := 2) (ret := (some .boolean)) (by decide) rfl ?_
  intro p e s m args below meth c s₁ Bk hml hv
  obtain ⟨rfl, ⟨hsz, hP, hK, hD0⟩, hE, hSR⟩ := hv
  have hx := Bk.exec
  have hb := Bk.bytes
  have hr := Bk.returns
  have hlocks := Bk.notSynchronized
  have hC : CallFix p m c cX12_askedToday 2 s _ wsX12_askedToday RX12 := ⟨hx, hb, hml, findClass_of_methodNamed Bk.named, atoms_spec (ws := wsX12_askedToday) Bk.pre⟩
  subst hsz
  have hD := hD0.self (sz := s.heap.size)
  generalize hAe : va_A w0 s.heap.size = A at hD hE ⊢
  have hA : ∀ q : Nat, s.heap.size ≤ q → A q := fun q h => by rw [← hAe]; exact Or.inr h
  have hw : Wd dC dI A s.heap s.heap [] w0 := ⟨hP, hD, va_S.rf⟩
  have hF : FE ksM ([] : List (Nat × Nat × Nat)) w0 w0 := FE.rf
  have hl := lv_entry ([.ref (ad 0), .int a1]) (n := 2) (Nat.le_of_ble_eq_true rfl)
  rw [lg_entry_eq]
  generalize (lg_sl ([.ref (ad 0), .int a1]) ++ List.replicate (2 - (lg_sl ([.ref (ad 0), .int a1])).length) Slot.unset).toArray = ls at hl ⊢
  have hl : lv_has ls 2 [(0, .ref (ad 0)), (1, .int a1)] := hl
  generalize hloc : ([] : List Loc) = locs at hw ⊢
  refine lv_aload_n hx hb dX12_askedToday_0 rfl (lv_at hl 0 rfl) ?_
  refine lv_iload_n hx hb dX12_askedToday_1 rfl (lv_at hl 1 rfl) ?_
  refine lv_bipush (v := 8) hx hb dX12_askedToday_2 (by decide) ?_
  refine tk_Vi hC hK hw hT hA hE hSR kM_at0 (by decide) rfl (k_X12_walkerOf_6 l adK adV dC dI cy ad B (by omega) (by omega) qr s1   a1 (show 0 ≤ a1.toInt by omega) (show a1.toInt ≤ 3 by omega) w0 s.heap.size hT ) (cwV 2 hC.2.2.2.2 gX12_askedToday_X12_walkerOf rfl rfl rfl (by decide +kernel) ⟨Nat.le_of_ble_eq_true rfl, Nat.le_of_ble_eq_true rfl⟩) rfl hl.1 rfl (Nat.le_of_ble_eq_true rfl) dX12_askedToday_4 (fun r1 w3 H locs hp2 hw => ?_)
  obtain ⟨rfl, hg6⟩ := hp2
  obtain c5 := hg6
  refine lv_aload_n hx hb dX12_askedToday_7 rfl (lv_at hl 0 rfl) ?_
  refine lv_iload_n hx hb dX12_askedToday_8 rfl (lv_at hl 1 rfl) ?_
  refine lv_iconst (v := 4) hx hb dX12_askedToday_9 (by decide) ?_
  refine tk_Vi hC hK hw hT hA hE hSR kM_at0 (by decide) rfl (k_X12_walkerOf_2 l adK adV dC dI cy ad B (by omega) (by omega) qr s1   a1 (show 0 ≤ a1.toInt by omega) (show a1.toInt ≤ 3 by omega) w0 H.size hT ) (cwV 2 hC.2.2.2.2 gX12_askedToday_X12_walkerOf rfl rfl rfl (by decide +kernel) ⟨Nat.le_of_ble_eq_true rfl, Nat.le_of_ble_eq_true rfl⟩) rfl hl.1 rfl (Nat.le_of_ble_eq_true rfl) dX12_askedToday_10 (fun r7 w9 H locs hp8 hw => ?_)
  obtain ⟨rfl, hg13⟩ := hp8
  obtain ⟨g11, g12⟩ := hg13
  refine lv_bipush (v := 24) hx hb dX12_askedToday_13 (by decide) ?_
  refine lv_idiv hx hb dX12_askedToday_15 (by decide) ?_
  refine lv_topi (fun x14 ex14 => ?_)
  have ex14 : x14.toInt = r7.toInt / (24 : Int) := by rw [ex14]; exact wk_div (show 0 ≤ r7.toInt by omega) (show 0 < (24 : Int) by decide)
  refine lv_icmp_ne (tgt := 23) hx hb dX12_askedToday_16 (by decide) (fun c15 => ?_) (fun c15 => ?_)
  · have c15 : ¬ r1.toInt = x14.toInt := wk_eqF c15
    refine lv_iconst (v := 0) hx hb dX12_askedToday_23 (by decide) ?_
    exact tk_zret hC hr rfl hlocks hK ⟨rfl, (Or.inl rfl)⟩ hw dX12_askedToday_24
  · have c15 : r1.toInt = x14.toInt := wk_eq.mp c15
    refine lv_iconst (v := 1) hx hb dX12_askedToday_19 (by decide) ?_
    refine lv_goto (tgt := 24) hx hb dX12_askedToday_20 (by decide) ?_
    exact tk_zret hC hr rfl hlocks hK ⟨rfl, (Or.inr rfl)⟩ hw dX12_askedToday_24
abbrev P_X12_placeAt_5 (ad : Nat → Nat) (cy : Nat → ClassId) (B : Int) (qr : Nat) (s1 : Int) (a2 : Int32) (w0 : va_W) : Int32 → va_W → Prop := fun r u => w0 = u ∧ ((0 ≤ r.toInt ∧ r.toInt ≤ 18))
set_option maxHeartbeats 4000000 in
set_option maxRecDepth 100000 in
theorem k_X12_placeAt_5 (l : Launch) (adK adV : Nat → Nat) (dC : Nat → ClassId) (dI : Nat → Nat → Nat) (cy : Nat → ClassId) (ad : Nat → Nat) (B : Int) (hB0 : 100000 ≤ B) (hB1 : B ≤ 1073741824) (qr : Nat) (s1 : Int)  (a2 : Int32) (ra2 : 0 ≤ a2.toInt) (ta2 : a2.toInt ≤ 9) (w0 : va_W) (sz : Nat) (hT : TW ksM ad cy B qr 12 w0)  : Met l yX12_placeAt wsX12_placeAt ({ frames := 1, cells := 0, slots := 0, locals := 12 }) (va_Pc [.ref (ad 0), .int 0, .int a2, .int 0] (wpreS adK adV dC dI cy sz w0)) (va_Qi (P_X12_placeAt_5 ad cy B qr s1 a2 w0) (fun u : va_W => wpost dC dI cy (va_A w0 sz) u) (va_A w0 sz)) 0 0 (va_A w0 sz) := by
  refine Met.ofW (cc := cX12_placeAt) (maxL := 4) (ret := (some .int)) (by decide) rfl ?_
  intro p e s m args below meth c s₁ Bk hml hv
  obtain ⟨rfl, ⟨hsz, hP, hK, hD0⟩, hE, hSR⟩ := hv
  have hx := Bk.exec
  have hb := Bk.bytes
  have hr := Bk.returns
  have hlocks := Bk.notSynchronized
  have hC : CallFix p m c cX12_placeAt 4 s _ wsX12_placeAt RX12 := ⟨hx, hb, hml, findClass_of_methodNamed Bk.named, atoms_spec (ws := wsX12_placeAt) Bk.pre⟩
  subst hsz
  have hD := hD0.self (sz := s.heap.size)
  generalize hAe : va_A w0 s.heap.size = A at hD hE ⊢
  have hA : ∀ q : Nat, s.heap.size ≤ q → A q := fun q h => by rw [← hAe]; exact Or.inr h
  have hw : Wd dC dI A s.heap s.heap [] w0 := ⟨hP, hD, va_S.rf⟩
  have hF : FE ksM ([] : List (Nat × Nat × Nat)) w0 w0 := FE.rf
  have hl := lv_entry ([.ref (ad 0), .int 0, .int a2, .int 0]) (n := 4) (Nat.le_of_ble_eq_true rfl)
  rw [lg_entry_eq]
  generalize (lg_sl ([.ref (ad 0), .int 0, .int a2, .int 0]) ++ List.replicate (4 - (lg_sl ([.ref (ad 0), .int 0, .int a2, .int 0])).length) Slot.unset).toArray = ls at hl ⊢
  have hl : lv_has ls 4 [(0, .ref (ad 0)), (1, .int 0), (2, .int a2), (3, .int 0)] := hl
  generalize hloc : ([] : List Loc) = locs at hw ⊢
  refine lv_iload_n hx hb dX12_placeAt_0 rfl (lv_at hl 1 rfl) ?_
  refine lv_bipush (v := 10) hx hb dX12_placeAt_1 (by decide) ?_
  refine lv_imul hx hb dX12_placeAt_3 ?_
  refine wk_top 0 (by decide) ?_
  refine lv_iload_n hx hb dX12_placeAt_4 rfl (lv_at hl 2 rfl) ?_
  refine lv_iadd hx hb dX12_placeAt_5 ?_
  refine lv_topi (fun x1 ex1 => ?_)
  have ex1 : x1.toInt = (0 : Int) + a2.toInt := by rw [ex1]; exact wk_add (show (-2147483648) ≤ (0 : Int) + a2.toInt by omega) (show (0 : Int) + a2.toInt ≤ 2147483647 by omega)
  refine lv_iconst (v := 2) hx hb dX12_placeAt_6 (by decide) ?_
  refine lv_imul hx hb dX12_placeAt_7 ?_
  refine lv_topi (fun x2 ex2 => ?_)
  have ex2 : x2.toInt = x1.toInt * (2 : Int) := by rw [ex2]; exact wk_mul (show (-2147483648) ≤ x1.toInt * (2 : Int) by omega) (show x1.toInt * (2 : Int) ≤ 2147483647 by omega)
  refine lv_iload_n hx hb dX12_placeAt_8 rfl (lv_at hl 3 rfl) ?_
  refine lv_if_eq (tgt := 16) hx hb dX12_placeAt_9 (by decide) (fun _ => ?_) (fun c => absurd (by decide) c)
  refine lv_iconst (v := 0) hx hb dX12_placeAt_16 (by decide) ?_
  refine lv_iadd hx hb dX12_placeAt_17 ?_
  refine lv_topi (fun x3 ex3 => ?_)
  have ex3 : x3.toInt = x2.toInt + (0 : Int) := by rw [ex3]; exact wk_add (show (-2147483648) ≤ x2.toInt + (0 : Int) by omega) (show x2.toInt + (0 : Int) ≤ 2147483647 by omega)
  exact tk_iret hC hr hlocks hK ⟨rfl, ⟨(show 0 ≤ x3.toInt by omega), (show x3.toInt ≤ 18 by omega)⟩⟩ hw dX12_placeAt_18
abbrev P_X12_could_5 (ad : Nat → Nat) (cy : Nat → ClassId) (B : Int) (qr : Nat) (s1 : Int) (a2 : Int32) (w0 : va_W) : va_W → Prop := fun u => TW ksM ad cy B qr 12 u ∧ FE ksM [(76, 0, 2600)] w0 u ∧ ((True))
set_option maxHeartbeats 4000000 in
set_option maxRecDepth 100000 in
theorem k_X12_could_5 (l : Launch) (adK adV : Nat → Nat) (dC : Nat → ClassId) (dI : Nat → Nat → Nat) (cy : Nat → ClassId) (ad : Nat → Nat) (B : Int) (hB0 : 100000 ≤ B) (hB1 : B ≤ 1073741824) (qr : Nat) (s1 : Int)  (a2 : Int32) (ra2 : 0 ≤ a2.toInt) (ta2 : a2.toInt ≤ 9) (w0 : va_W) (sz : Nat) (hT : TW ksM ad cy B qr 12 w0)  : Met l yX12_could wsX12_could ({ frames := 2, cells := 0, slots := 0, locals := 35 }) (va_Pc [.ref (ad 0), .int 0, .int a2, .int 0, .int 0] (wpreS adK adV dC dI cy sz w0)) (va_Qv (P_X12_could_5 ad cy B qr s1 a2 w0) (fun u : va_W => wpost dC dI cy (va_A w0 sz) u) (va_A w0 sz)) 0 0 (va_A w0 sz) := by
  refine Met.ofW (cc := cX12_could) (maxL := 6) (ret := none) (by decide) rfl ?_
  intro p e s m args below meth c s₁ Bk hml hv
  obtain ⟨rfl, ⟨hsz, hP, hK, hD0⟩, hE, hSR⟩ := hv
  have hx := Bk.exec
  have hb := Bk.bytes
  have hr := Bk.returns
  have hlocks := Bk.notSynchronized
  have hC : CallFix p m c cX12_could 6 s _ wsX12_could RX12 := ⟨hx, hb, hml, findClass_of_methodNamed Bk.named, atoms_spec (ws := wsX12_could) Bk.pre⟩
  subst hsz
  have hD := hD0.self (sz := s.heap.size)
  generalize hAe : va_A w0 s.heap.size = A at hD hE ⊢
  have hA : ∀ q : Nat, s.heap.size ≤ q → A q := fun q h => by rw [← hAe]; exact Or.inr h
  have hw : Wd dC dI A s.heap s.heap [] w0 := ⟨hP, hD, va_S.rf⟩
  have hF : FE ksM [(76, 0, 2600)] w0 w0 := FE.rf
  have hl := lv_entry ([.ref (ad 0), .int 0, .int a2, .int 0, .int 0]) (n := 6) (Nat.le_of_ble_eq_true rfl)
  rw [lg_entry_eq]
  generalize (lg_sl ([.ref (ad 0), .int 0, .int a2, .int 0, .int 0]) ++ List.replicate (6 - (lg_sl ([.ref (ad 0), .int 0, .int a2, .int 0, .int 0])).length) Slot.unset).toArray = ls at hl ⊢
  have hl : lv_has ls 6 [(0, .ref (ad 0)), (1, .int 0), (2, .int a2), (3, .int 0), (4, .int 0)] := hl
  generalize hloc : ([] : List Loc) = locs at hw ⊢
  have hinX12 : ∀ w ∈ u_ws RX12 TX12 42, w ∈ wsX12_could := fun _ h => List.mem_cons_of_mem _ (List.mem_append_right _ (h))
  have J30 : ∀ (v30_5 : Int32) (H : Heap) (locs : List Loc) (ls : Array Slot) (w1 : va_W), 0 ≤ a2.toInt → a2.toInt ≤ 9 → 0 ≤ v30_5.toInt → v30_5.toInt ≤ 18 → Wd dC dI A s.heap H locs w1 → TW ksM ad cy B qr 12 w1 → FE ksM [(76, 0, 2600)] w0 w1 → lv_has ls 6 [(0, .ref (ad 0)), (1, .int 0), (2, .int a2), (3, .int 0), (4, .int 0), (5, .int v30_5)] → W p l e ({ frames := 2, cells := 0, slots := 0, locals := 35 }) s m (List.toArray [.ref (ad 0), .int 0, .int a2, .int 0, .int 0]) below meth c H locs 0 0 (MQ below (va_Qv (P_X12_could_5 ad cy B qr s1 a2 w0) (fun u : va_W => wpost dC dI cy A u) A) (List.toArray [.ref (ad 0), .int 0, .int a2, .int 0, .int 0]) s 0 0 A) (F0 m 30 ls []) := by
    intro v30_5 H locs ls w1 r2 t3 r4 t5 hw hT hF hl
    exact tk_vret hC hr hlocks hK ⟨hT, hF, trivial⟩ hw dX12_could_30
  refine lv_aload_n hx hb dX12_could_0 rfl (lv_at hl 0 rfl) ?_
  refine lv_iload_n hx hb dX12_could_1 rfl (lv_at hl 1 rfl) ?_
  refine lv_iload_n hx hb dX12_could_2 rfl (lv_at hl 2 rfl) ?_
  refine lv_iload_n hx hb dX12_could_3 rfl (lv_at hl 3 rfl) ?_
  refine tk_Vi hC hK hw hT hA hE hSR kM_at0 (by decide) rfl (k_X12_placeAt_5 l adK adV dC dI cy ad B (by omega) (by omega) qr s1   a2 (show 0 ≤ a2.toInt by omega) (show a2.toInt ≤ 9 by omega) w0 s.heap.size hT ) (cwV 3 hC.2.2.2.2 gX12_could_X12_placeAt rfl rfl rfl (by decide +kernel) ⟨Nat.le_of_ble_eq_true rfl, Nat.le_of_ble_eq_true rfl⟩) rfl hl.1 rfl (Nat.le_of_ble_eq_true rfl) dX12_could_4 (fun r6 w8 H locs hp7 hw => ?_)
  obtain ⟨rfl, hg12⟩ := hp7
  obtain ⟨g10, g11⟩ := hg12
  refine lv_istore (lv' := [(5, .int r6), (0, .ref (ad 0)), (1, .int 0), (2, .int a2), (3, .int 0), (4, .int 0)]) hx hb dX12_could_7 hl (by decide) rfl (fun ls hl => ?_)
  refine lv_iload hx hb dX12_could_9 (lv_at hl 5 rfl) ?_
  refine lv_aload_n hx hb dX12_could_11 rfl (lv_at hl 1 rfl) ?_
  refine tk_getA hC hK hw hT hinX12 kM_at0 (by decide) rfl 34 (by decide) (List.mem_of_getElem? (i := 1) rfl) rfl rfl dX12_could_12 ?_
  refine lv_iload hx hb dX12_could_15 (lv_at hl 0 rfl) ?_
  refine tk_iald hC hK hw hT kM_at17 rfl rfl (show 0 ≤ r6.toInt by omega) (show r6.toInt < 2600 by omega) dX12_could_17 (fun x13 c14 rx13 tx13 => ?_)
  refine lv_icmp_ge (tgt := 30) hx hb dX12_could_18 (by decide) (fun c15 => ?_) (fun c15 => ?_)
  · have c15 : x13.toInt ≤ (0 : Int) := wk_le.mp c15
    exact J30 r6 H locs ls w0 (show 0 ≤ a2.toInt by omega) (show a2.toInt ≤ 9 by omega) (show 0 ≤ r6.toInt by omega) (show r6.toInt ≤ 18 by omega)  hw hT hF  (lv_sub hl [1, 2, 3, 4, 5, 0] rfl)
  · have c15 : (0 : Int) < x13.toInt := wk_leF c15
    refine lv_aload_n hx hb dX12_could_21 rfl (lv_at hl 1 rfl) ?_
    refine tk_getA hC hK hw hT hinX12 kM_at0 (by decide) rfl 34 (by decide) (List.mem_of_getElem? (i := 1) rfl) rfl rfl dX12_could_22 ?_
    refine lv_iload hx hb dX12_could_25 (lv_at hl 0 rfl) ?_
    refine lv_iload hx hb dX12_could_27 (lv_at hl 5 rfl) ?_
    refine tk_iast hC hK hw hT kM_at17 (by decide) rfl rfl (show 0 ≤ r6.toInt by omega) (show r6.toInt < 2600 by omega) (by decide) (by decide) dX12_could_29 (fun H locs w16 hw hT k18 c17 => ?_)
    have hF := hF.put kM_at17 (inE_of (a := 0) (b := 2600) (by decide) (show 0 ≤ r6.toInt.toNat by omega) (show r6.toInt.toNat ≤ 2600 by omega)) k18
    exact J30 r6 H locs ls w16 (show 0 ≤ a2.toInt by omega) (show a2.toInt ≤ 9 by omega) (show 0 ≤ r6.toInt by omega) (show r6.toInt ≤ 18 by omega)  hw hT hF  (lv_sub hl [1, 2, 3, 4, 5, 0] rfl)
abbrev P_X12_placeAt_6 (ad : Nat → Nat) (cy : Nat → ClassId) (B : Int) (qr : Nat) (s1 : Int) (a2 : Int32) (w0 : va_W) : Int32 → va_W → Prop := fun r u => w0 = u ∧ ((1 ≤ r.toInt ∧ r.toInt ≤ 19))
set_option maxHeartbeats 4000000 in
set_option maxRecDepth 100000 in
theorem k_X12_placeAt_6 (l : Launch) (adK adV : Nat → Nat) (dC : Nat → ClassId) (dI : Nat → Nat → Nat) (cy : Nat → ClassId) (ad : Nat → Nat) (B : Int) (hB0 : 100000 ≤ B) (hB1 : B ≤ 1073741824) (qr : Nat) (s1 : Int)  (a2 : Int32) (ra2 : 0 ≤ a2.toInt) (ta2 : a2.toInt ≤ 9) (w0 : va_W) (sz : Nat) (hT : TW ksM ad cy B qr 12 w0)  : Met l yX12_placeAt wsX12_placeAt ({ frames := 1, cells := 0, slots := 0, locals := 12 }) (va_Pc [.ref (ad 0), .int 0, .int a2, .int 1] (wpreS adK adV dC dI cy sz w0)) (va_Qi (P_X12_placeAt_6 ad cy B qr s1 a2 w0) (fun u : va_W => wpost dC dI cy (va_A w0 sz) u) (va_A w0 sz)) 0 0 (va_A w0 sz) := by
  refine Met.ofW (cc := cX12_placeAt) (maxL := 4) (ret := (some .int)) (by decide) rfl ?_
  intro p e s m args below meth c s₁ Bk hml hv
  obtain ⟨rfl, ⟨hsz, hP, hK, hD0⟩, hE, hSR⟩ := hv
  have hx := Bk.exec
  have hb := Bk.bytes
  have hr := Bk.returns
  have hlocks := Bk.notSynchronized
  have hC : CallFix p m c cX12_placeAt 4 s _ wsX12_placeAt RX12 := ⟨hx, hb, hml, findClass_of_methodNamed Bk.named, atoms_spec (ws := wsX12_placeAt) Bk.pre⟩
  subst hsz
  have hD := hD0.self (sz := s.heap.size)
  generalize hAe : va_A w0 s.heap.size = A at hD hE ⊢
  have hA : ∀ q : Nat, s.heap.size ≤ q → A q := fun q h => by rw [← hAe]; exact Or.inr h
  have hw : Wd dC dI A s.heap s.heap [] w0 := ⟨hP, hD, va_S.rf⟩
  have hF : FE ksM ([] : List (Nat × Nat × Nat)) w0 w0 := FE.rf
  have hl := lv_entry ([.ref (ad 0), .int 0, .int a2, .int 1]) (n := 4) (Nat.le_of_ble_eq_true rfl)
  rw [lg_entry_eq]
  generalize (lg_sl ([.ref (ad 0), .int 0, .int a2, .int 1]) ++ List.replicate (4 - (lg_sl ([.ref (ad 0), .int 0, .int a2, .int 1])).length) Slot.unset).toArray = ls at hl ⊢
  have hl : lv_has ls 4 [(0, .ref (ad 0)), (1, .int 0), (2, .int a2), (3, .int 1)] := hl
  generalize hloc : ([] : List Loc) = locs at hw ⊢
  refine lv_iload_n hx hb dX12_placeAt_0 rfl (lv_at hl 1 rfl) ?_
  refine lv_bipush (v := 10) hx hb dX12_placeAt_1 (by decide) ?_
  refine lv_imul hx hb dX12_placeAt_3 ?_
  refine wk_top 0 (by decide) ?_
  refine lv_iload_n hx hb dX12_placeAt_4 rfl (lv_at hl 2 rfl) ?_
  refine lv_iadd hx hb dX12_placeAt_5 ?_
  refine lv_topi (fun x1 ex1 => ?_)
  have ex1 : x1.toInt = (0 : Int) + a2.toInt := by rw [ex1]; exact wk_add (show (-2147483648) ≤ (0 : Int) + a2.toInt by omega) (show (0 : Int) + a2.toInt ≤ 2147483647 by omega)
  refine lv_iconst (v := 2) hx hb dX12_placeAt_6 (by decide) ?_
  refine lv_imul hx hb dX12_placeAt_7 ?_
  refine lv_topi (fun x2 ex2 => ?_)
  have ex2 : x2.toInt = x1.toInt * (2 : Int) := by rw [ex2]; exact wk_mul (show (-2147483648) ≤ x1.toInt * (2 : Int) by omega) (show x1.toInt * (2 : Int) ≤ 2147483647 by omega)
  refine lv_iload_n hx hb dX12_placeAt_8 rfl (lv_at hl 3 rfl) ?_
  refine lv_if_eq (tgt := 16) hx hb dX12_placeAt_9 (by decide) (fun c => absurd c (by decide)) (fun _ => ?_)
  refine lv_iconst (v := 1) hx hb dX12_placeAt_12 (by decide) ?_
  refine lv_goto (tgt := 17) hx hb dX12_placeAt_13 (by decide) ?_
  refine lv_iadd hx hb dX12_placeAt_17 ?_
  refine lv_topi (fun x3 ex3 => ?_)
  have ex3 : x3.toInt = x2.toInt + (1 : Int) := by rw [ex3]; exact wk_add (show (-2147483648) ≤ x2.toInt + (1 : Int) by omega) (show x2.toInt + (1 : Int) ≤ 2147483647 by omega)
  exact tk_iret hC hr hlocks hK ⟨rfl, ⟨(show 1 ≤ x3.toInt by omega), (show x3.toInt ≤ 19 by omega)⟩⟩ hw dX12_placeAt_18
abbrev P_X12_could_6 (ad : Nat → Nat) (cy : Nat → ClassId) (B : Int) (qr : Nat) (s1 : Int) (a2 : Int32) (w0 : va_W) : va_W → Prop := fun u => TW ksM ad cy B qr 12 u ∧ FE ksM [(76, 0, 2600)] w0 u ∧ ((True))
set_option maxHeartbeats 4000000 in
set_option maxRecDepth 100000 in
theorem k_X12_could_6 (l : Launch) (adK adV : Nat → Nat) (dC : Nat → ClassId) (dI : Nat → Nat → Nat) (cy : Nat → ClassId) (ad : Nat → Nat) (B : Int) (hB0 : 100000 ≤ B) (hB1 : B ≤ 1073741824) (qr : Nat) (s1 : Int)  (a2 : Int32) (ra2 : 0 ≤ a2.toInt) (ta2 : a2.toInt ≤ 9) (w0 : va_W) (sz : Nat) (hT : TW ksM ad cy B qr 12 w0)  : Met l yX12_could wsX12_could ({ frames := 2, cells := 0, slots := 0, locals := 35 }) (va_Pc [.ref (ad 0), .int 0, .int a2, .int 1, .int 0] (wpreS adK adV dC dI cy sz w0)) (va_Qv (P_X12_could_6 ad cy B qr s1 a2 w0) (fun u : va_W => wpost dC dI cy (va_A w0 sz) u) (va_A w0 sz)) 0 0 (va_A w0 sz) := by
  refine Met.ofW (cc := cX12_could) (maxL := 6) (ret := none) (by decide) rfl ?_
  intro p e s m args below meth c s₁ Bk hml hv
  obtain ⟨rfl, ⟨hsz, hP, hK, hD0⟩, hE, hSR⟩ := hv
  have hx := Bk.exec
  have hb := Bk.bytes
  have hr := Bk.returns
  have hlocks := Bk.notSynchronized
  have hC : CallFix p m c cX12_could 6 s _ wsX12_could RX12 := ⟨hx, hb, hml, findClass_of_methodNamed Bk.named, atoms_spec (ws := wsX12_could) Bk.pre⟩
  subst hsz
  have hD := hD0.self (sz := s.heap.size)
  generalize hAe : va_A w0 s.heap.size = A at hD hE ⊢
  have hA : ∀ q : Nat, s.heap.size ≤ q → A q := fun q h => by rw [← hAe]; exact Or.inr h
  have hw : Wd dC dI A s.heap s.heap [] w0 := ⟨hP, hD, va_S.rf⟩
  have hF : FE ksM [(76, 0, 2600)] w0 w0 := FE.rf
  have hl := lv_entry ([.ref (ad 0), .int 0, .int a2, .int 1, .int 0]) (n := 6) (Nat.le_of_ble_eq_true rfl)
  rw [lg_entry_eq]
  generalize (lg_sl ([.ref (ad 0), .int 0, .int a2, .int 1, .int 0]) ++ List.replicate (6 - (lg_sl ([.ref (ad 0), .int 0, .int a2, .int 1, .int 0])).length) Slot.unset).toArray = ls at hl ⊢
  have hl : lv_has ls 6 [(0, .ref (ad 0)), (1, .int 0), (2, .int a2), (3, .int 1), (4, .int 0)] := hl
  generalize hloc : ([] : List Loc) = locs at hw ⊢
  have hinX12 : ∀ w ∈ u_ws RX12 TX12 42, w ∈ wsX12_could := fun _ h => List.mem_cons_of_mem _ (List.mem_append_right _ (h))
  have J30 : ∀ (v30_5 : Int32) (H : Heap) (locs : List Loc) (ls : Array Slot) (w1 : va_W), 0 ≤ a2.toInt → a2.toInt ≤ 9 → 1 ≤ v30_5.toInt → v30_5.toInt ≤ 19 → Wd dC dI A s.heap H locs w1 → TW ksM ad cy B qr 12 w1 → FE ksM [(76, 0, 2600)] w0 w1 → lv_has ls 6 [(0, .ref (ad 0)), (1, .int 0), (2, .int a2), (3, .int 1), (4, .int 0), (5, .int v30_5)] → W p l e ({ frames := 2, cells := 0, slots := 0, locals := 35 }) s m (List.toArray [.ref (ad 0), .int 0, .int a2, .int 1, .int 0]) below meth c H locs 0 0 (MQ below (va_Qv (P_X12_could_6 ad cy B qr s1 a2 w0) (fun u : va_W => wpost dC dI cy A u) A) (List.toArray [.ref (ad 0), .int 0, .int a2, .int 1, .int 0]) s 0 0 A) (F0 m 30 ls []) := by
    intro v30_5 H locs ls w1 r2 t3 r4 t5 hw hT hF hl
    exact tk_vret hC hr hlocks hK ⟨hT, hF, trivial⟩ hw dX12_could_30
  refine lv_aload_n hx hb dX12_could_0 rfl (lv_at hl 0 rfl) ?_
  refine lv_iload_n hx hb dX12_could_1 rfl (lv_at hl 1 rfl) ?_
  refine lv_iload_n hx hb dX12_could_2 rfl (lv_at hl 2 rfl) ?_
  refine lv_iload_n hx hb dX12_could_3 rfl (lv_at hl 3 rfl) ?_
  refine tk_Vi hC hK hw hT hA hE hSR kM_at0 (by decide) rfl (k_X12_placeAt_6 l adK adV dC dI cy ad B (by omega) (by omega) qr s1   a2 (show 0 ≤ a2.toInt by omega) (show a2.toInt ≤ 9 by omega) w0 s.heap.size hT ) (cwV 3 hC.2.2.2.2 gX12_could_X12_placeAt rfl rfl rfl (by decide +kernel) ⟨Nat.le_of_ble_eq_true rfl, Nat.le_of_ble_eq_true rfl⟩) rfl hl.1 rfl (Nat.le_of_ble_eq_true rfl) dX12_could_4 (fun r6 w8 H locs hp7 hw => ?_)
  obtain ⟨rfl, hg12⟩ := hp7
  obtain ⟨g10, g11⟩ := hg12
  refine lv_istore (lv' := [(5, .int r6), (0, .ref (ad 0)), (1, .int 0), (2, .int a2), (3, .int 1), (4, .int 0)]) hx hb dX12_could_7 hl (by decide) rfl (fun ls hl => ?_)
  refine lv_iload hx hb dX12_could_9 (lv_at hl 5 rfl) ?_
  refine lv_aload_n hx hb dX12_could_11 rfl (lv_at hl 1 rfl) ?_
  refine tk_getA hC hK hw hT hinX12 kM_at0 (by decide) rfl 34 (by decide) (List.mem_of_getElem? (i := 1) rfl) rfl rfl dX12_could_12 ?_
  refine lv_iload hx hb dX12_could_15 (lv_at hl 0 rfl) ?_
  refine tk_iald hC hK hw hT kM_at17 rfl rfl (show 0 ≤ r6.toInt by omega) (show r6.toInt < 2600 by omega) dX12_could_17 (fun x13 c14 rx13 tx13 => ?_)
  refine lv_icmp_ge (tgt := 30) hx hb dX12_could_18 (by decide) (fun c15 => ?_) (fun c15 => ?_)
  · have c15 : x13.toInt ≤ (0 : Int) := wk_le.mp c15
    exact J30 r6 H locs ls w0 (show 0 ≤ a2.toInt by omega) (show a2.toInt ≤ 9 by omega) (show 1 ≤ r6.toInt by omega) (show r6.toInt ≤ 19 by omega)  hw hT hF  (lv_sub hl [1, 2, 3, 4, 5, 0] rfl)
  · have c15 : (0 : Int) < x13.toInt := wk_leF c15
    refine lv_aload_n hx hb dX12_could_21 rfl (lv_at hl 1 rfl) ?_
    refine tk_getA hC hK hw hT hinX12 kM_at0 (by decide) rfl 34 (by decide) (List.mem_of_getElem? (i := 1) rfl) rfl rfl dX12_could_22 ?_
    refine lv_iload hx hb dX12_could_25 (lv_at hl 0 rfl) ?_
    refine lv_iload hx hb dX12_could_27 (lv_at hl 5 rfl) ?_
    refine tk_iast hC hK hw hT kM_at17 (by decide) rfl rfl (show 0 ≤ r6.toInt by omega) (show r6.toInt < 2600 by omega) (by decide) (by decide) dX12_could_29 (fun H locs w16 hw hT k18 c17 => ?_)
    have hF := hF.put kM_at17 (inE_of (a := 0) (b := 2600) (by decide) (show 0 ≤ r6.toInt.toNat by omega) (show r6.toInt.toNat ≤ 2600 by omega)) k18
    exact J30 r6 H locs ls w16 (show 0 ≤ a2.toInt by omega) (show a2.toInt ≤ 9 by omega) (show 1 ≤ r6.toInt by omega) (show r6.toInt ≤ 19 by omega)  hw hT hF  (lv_sub hl [1, 2, 3, 4, 5, 0] rfl)
abbrev P_X12_in_14 (ad : Nat → Nat) (cy : Nat → ClassId) (B : Int) (qr : Nat) (s1 : Int) (a0 : Int64) (w0 : va_W) : Int32 → va_W → Prop := fun r u => w0 = u ∧ ((r = 0) ∨ (r = 1 ∧ 0 ≤ a0.toInt ∧ a0.toInt ≤ 120))
set_option maxHeartbeats 4000000 in
set_option maxRecDepth 100000 in
theorem k_X12_in_14 (l : Launch) (adK adV : Nat → Nat) (dC : Nat → ClassId) (dI : Nat → Nat → Nat) (cy : Nat → ClassId) (ad : Nat → Nat) (B : Int) (hB0 : 100000 ≤ B) (hB1 : B ≤ 1073741824) (qr : Nat) (s1 : Int)  (a0 : Int64) (ra0 : (-2147483648) ≤ a0.toInt) (ta0 : a0.toInt ≤ 2147483647) (w0 : va_W) (sz : Nat) (hT : TW ksM ad cy B qr 12 w0)  : Met l yX12_in wsX12_in ({ frames := 1, cells := 0, slots := 0, locals := 12 }) (va_Pc [.long a0, .long 0, .long 120] (wpreS adK adV dC dI cy sz w0)) (va_Qi (P_X12_in_14 ad cy B qr s1 a0 w0) (fun u : va_W => wpost dC dI cy (va_A w0 sz) u) (va_A w0 sz)) 0 0 (va_A w0 sz) := by
  refine Met.ofW (cc := cX12_in) (maxL := 6) (ret := (some .boolean)) (by decide) rfl ?_
  intro p e s m args below meth c s₁ Bk hml hv
  obtain ⟨rfl, ⟨hsz, hP, hK, hD0⟩, hE, hSR⟩ := hv
  have hx := Bk.exec
  have hb := Bk.bytes
  have hr := Bk.returns
  have hlocks := Bk.notSynchronized
  have hC : CallFix p m c cX12_in 6 s _ wsX12_in RX12 := ⟨hx, hb, hml, findClass_of_methodNamed Bk.named, atoms_spec (ws := wsX12_in) Bk.pre⟩
  subst hsz
  have hD := hD0.self (sz := s.heap.size)
  generalize hAe : va_A w0 s.heap.size = A at hD hE ⊢
  have hA : ∀ q : Nat, s.heap.size ≤ q → A q := fun q h => by rw [← hAe]; exact Or.inr h
  have hw : Wd dC dI A s.heap s.heap [] w0 := ⟨hP, hD, va_S.rf⟩
  have hF : FE ksM ([] : List (Nat × Nat × Nat)) w0 w0 := FE.rf
  have hl := lv_entry ([.long a0, .long 0, .long 120]) (n := 6) (Nat.le_of_ble_eq_true rfl)
  rw [lg_entry_eq]
  generalize (lg_sl ([.long a0, .long 0, .long 120]) ++ List.replicate (6 - (lg_sl ([.long a0, .long 0, .long 120])).length) Slot.unset).toArray = ls at hl ⊢
  have hl : lv_has ls 6 [(0, .long a0), (2, .long 0), (4, .long 120)] := hl
  generalize hloc : ([] : List Loc) = locs at hw ⊢
  have J17 : ∀ (H : Heap) (locs : List Loc) (ls : Array Slot), (-2147483648) ≤ a0.toInt → a0.toInt ≤ 2147483647 → Wd dC dI A s.heap H locs w0 → lv_has ls 6 [(0, .long a0), (2, .long 0), (4, .long 120)] → W p l e ({ frames := 1, cells := 0, slots := 0, locals := 12 }) s m (List.toArray [.long a0, .long 0, .long 120]) below meth c H locs 0 0 (MQ below (va_Qi (P_X12_in_14 ad cy B qr s1 a0 w0) (fun u : va_W => wpost dC dI cy A u) A) (List.toArray [.long a0, .long 0, .long 120]) s 0 0 A) (F0 m 17 ls []) := by
    intro H locs ls r1 t2 hw hl
    refine lv_iconst (v := 0) hx hb dX12_in_17 (by decide) ?_
    exact tk_zret hC hr rfl hlocks hK ⟨rfl, (Or.inl rfl)⟩ hw dX12_in_18
  refine lv_lload_n hx hb dX12_in_0 rfl (lv_at hl 0 rfl) ?_
  refine lv_lload_n hx hb dX12_in_1 rfl (lv_at hl 1 rfl) ?_
  refine W.lcmp hx hb dX12_in_2 ?_
  refine lv_if_lt (tgt := 17) hx hb dX12_in_3 (by decide) (fun c3 => ?_) (fun c3 => ?_)
  · have c3 : a0.toInt < (0 : Int) := wk_cltT c3
    exact J17  s.heap locs ls  (show (-2147483648) ≤ a0.toInt by omega) (show a0.toInt ≤ 2147483647 by omega)  hw   (lv_sub hl [0, 1, 2] rfl)
  · have c3 : (0 : Int) ≤ a0.toInt := wk_cltF c3
    refine lv_lload_n hx hb dX12_in_6 rfl (lv_at hl 0 rfl) ?_
    refine lv_lload hx hb dX12_in_7 (lv_at hl 2 rfl) ?_
    refine W.lcmp hx hb dX12_in_9 ?_
    refine lv_if_gt (tgt := 17) hx hb dX12_in_10 (by decide) (fun c4 => ?_) (fun c4 => ?_)
    · have c4 : (120 : Int) < a0.toInt := wk_cgtT c4
      exact J17  s.heap locs ls  (show (-2147483648) ≤ a0.toInt by omega) (show a0.toInt ≤ 2147483647 by omega)  hw   (lv_sub hl [0, 1, 2] rfl)
    · have c4 : a0.toInt ≤ (120 : Int) := wk_cgtF c4
      refine lv_iconst (v := 1) hx hb dX12_in_13 (by decide) ?_
      refine lv_goto (tgt := 18) hx hb dX12_in_14 (by decide) ?_
      exact tk_zret hC hr rfl hlocks hK ⟨rfl, (Or.inr ⟨rfl, (show 0 ≤ a0.toInt by omega), (show a0.toInt ≤ 120 by omega)⟩)⟩ hw dX12_in_18
abbrev P_X12_questions_1 (ad : Nat → Nat) (cy : Nat → ClassId) (B : Int) (qr : Nat) (s1 : Int) (a1 : Int32) (a2 : Int32) (w0 : va_W) : Int32 → va_W → Prop := fun r u => TW ksM ad cy B qr 12 u ∧ FE ksM [(72, 0, 12), (73, 0, 10), (76, 0, 2600)] w0 u ∧ ((r.toInt ≤ 99999999 ∧ 0 ≤ a1.toInt ∧ a1.toInt ≤ 3 ∧ 0 ≤ a2.toInt ∧ a2.toInt ≤ 120 ∧ (∃ y : Int32, gi u 12 5 = y ∧ 1 ≤ y.toInt ∧ y.toInt ≤ 4)) ∨ (r = (-2) ∧ 0 ≤ a1.toInt ∧ a1.toInt ≤ 3 ∧ 0 ≤ a2.toInt ∧ a2.toInt ≤ 120 ∧ (∃ y : Int32, gi u 12 5 = y ∧ 1 ≤ y.toInt ∧ y.toInt ≤ 4)) ∨ (r = (-1)))
set_option maxHeartbeats 4000000 in
set_option maxRecDepth 100000 in
theorem k_X12_questions_1 (l : Launch) (adK adV : Nat → Nat) (dC : Nat → ClassId) (dI : Nat → Nat → Nat) (cy : Nat → ClassId) (ad : Nat → Nat) (B : Int) (hB0 : 100000 ≤ B) (hB1 : B ≤ 1073741824) (qr : Nat) (s1 : Int)  (a1 : Int32) (a2 : Int32) (w0 : va_W) (sz : Nat) (hT : TW ksM ad cy B qr 12 w0)  : Met l yX12_questions wsX12_questions ({ frames := 6, cells := 0, slots := 0, locals := 134 }) (va_Pc [.ref (ad 0), .int a1, .int a2] (wpreS adK adV dC dI cy sz w0)) (va_Qi (P_X12_questions_1 ad cy B qr s1 a1 a2 w0) (fun u : va_W => wpost dC dI cy (va_A w0 sz) u) (va_A w0 sz)) 0 0 (va_A w0 sz) := by
  refine Met.ofW (cc := cX12_questions) (maxL := 8) (ret := (some .int)) (by decide) rfl ?_
  intro p e s m args below meth c s₁ Bk hml hv
  obtain ⟨rfl, ⟨hsz, hP, hK, hD0⟩, hE, hSR⟩ := hv
  have hx := Bk.exec
  have hb := Bk.bytes
  have hr := Bk.returns
  have hlocks := Bk.notSynchronized
  have hC : CallFix p m c cX12_questions 8 s _ wsX12_questions RX12 := ⟨hx, hb, hml, findClass_of_methodNamed Bk.named, atoms_spec (ws := wsX12_questions) Bk.pre⟩
  subst hsz
  have hD := hD0.self (sz := s.heap.size)
  generalize hAe : va_A w0 s.heap.size = A at hD hE ⊢
  have hA : ∀ q : Nat, s.heap.size ≤ q → A q := fun q h => by rw [← hAe]; exact Or.inr h
  have hw : Wd dC dI A s.heap s.heap [] w0 := ⟨hP, hD, va_S.rf⟩
  have hF : FE ksM [(72, 0, 12), (73, 0, 10), (76, 0, 2600)] w0 w0 := FE.rf
  have hl := lv_entry ([.ref (ad 0), .int a1, .int a2]) (n := 8) (Nat.le_of_ble_eq_true rfl)
  rw [lg_entry_eq]
  generalize (lg_sl ([.ref (ad 0), .int a1, .int a2]) ++ List.replicate (8 - (lg_sl ([.ref (ad 0), .int a1, .int a2])).length) Slot.unset).toArray = ls at hl ⊢
  have hl : lv_has ls 8 [(0, .ref (ad 0)), (1, .int a1), (2, .int a2)] := hl
  generalize hloc : ([] : List Loc) = locs at hw ⊢
  have hinX12 : ∀ w ∈ u_ws RX12 TX12 42, w ∈ wsX12_questions := fun _ h => List.mem_cons_of_mem _ (List.mem_append_right _ (h))
  have J20 : ∀ (H : Heap) (locs : List Loc) (ls : Array Slot) (w1 : va_W), Wd dC dI A s.heap H locs w1 → TW ksM ad cy B qr 12 w1 → FE ksM [(72, 0, 12), (73, 0, 10), (76, 0, 2600)] w0 w1 → lv_has ls 8 [(0, .ref (ad 0)), (1, .int a1), (2, .int a2)] → W p l e ({ frames := 6, cells := 0, slots := 0, locals := 134 }) s m (List.toArray [.ref (ad 0), .int a1, .int a2]) below meth c H locs 0 0 (MQ below (va_Qi (P_X12_questions_1 ad cy B qr s1 a1 a2 w0) (fun u : va_W => wpost dC dI cy A u) A) (List.toArray [.ref (ad 0), .int a1, .int a2]) s 0 0 A) (F0 m 20 ls []) := by
    intro H locs ls w1 hw hT hF hl
    refine lv_iconst (v := (-1)) hx hb dX12_questions_20 (by decide) ?_
    exact tk_iret hC hr hlocks hK ⟨hT, hF, (Or.inr (Or.inr rfl))⟩ hw dX12_questions_21
  have L70 : ∀ (n70 : Nat) (v70_3 : Int32) (v70_4 : Int32) (f70_12__9_a1_toInt_216_toNat : Int32) (f70_12_5 : Int32) (H : Heap) (locs : List Loc) (ls : Array Slot) (w2 : va_W), 0 ≤ a1.toInt → a1.toInt ≤ 3 → 0 ≤ a2.toInt → a2.toInt ≤ 120 → v70_3.toInt ≤ 100000000 → 0 ≤ v70_4.toInt → v70_4.toInt ≤ 121 → 0 ≤ f70_12__9_a1_toInt_216_toNat.toInt → f70_12__9_a1_toInt_216_toNat.toInt ≤ 9 → 1 ≤ f70_12_5.toInt → f70_12_5.toInt ≤ 4 → (121 - v70_4.toInt).toNat < n70 → Wd dC dI A s.heap H locs w2 → TW ksM ad cy B qr 12 w2 → FE ksM [(72, 0, 12), (73, 0, 10), (76, 0, 2600)] w0 w2 → gi w2 12 (9 * a1.toInt + 216).toNat = f70_12__9_a1_toInt_216_toNat → gi w2 12 5 = f70_12_5 → lv_has ls 8 [(0, .ref (ad 0)), (1, .int a1), (2, .int a2), (3, .int v70_3), (4, .int v70_4)] → W p l e ({ frames := 6, cells := 0, slots := 0, locals := 134 }) s m (List.toArray [.ref (ad 0), .int a1, .int a2]) below meth c H locs 0 0 (MQ below (va_Qi (P_X12_questions_1 ad cy B qr s1 a1 a2 w0) (fun u : va_W => wpost dC dI cy A u) A) (List.toArray [.ref (ad 0), .int a1, .int a2]) s 0 0 A) (F0 m 70 ls []) := by
    intro n70
    induction n70 with
    | zero => intro v70_3 v70_4 f70_12__9_a1_toInt_216_toNat f70_12_5 H locs ls w2 r3 t4 r5 t6 t7 r8 t9 r10 t11 r13 t14 hm70 hw hT hF c12 c15 hl; omega
    | succ n70 ih70 =>
      intro v70_3 v70_4 f70_12__9_a1_toInt_216_toNat f70_12_5 H locs ls w2 r3 t4 r5 t6 t7 r8 t9 r10 t11 r13 t14 hm70 hw hT hF c12 c15 hl
      have L79 : ∀ (n79 : Nat) (v79_3 : Int32) (v79_5 : Int32) (H : Heap) (locs : List Loc) (ls : Array Slot) (w16 : va_W), 0 ≤ a1.toInt → a1.toInt ≤ 3 → 0 ≤ a2.toInt → a2.toInt ≤ 120 → v79_3.toInt ≤ 100000000 → 0 ≤ v70_4.toInt → v70_4.toInt ≤ 120 → 0 ≤ v79_5.toInt → v79_5.toInt ≤ 10 → 0 ≤ f70_12__9_a1_toInt_216_toNat.toInt → f70_12__9_a1_toInt_216_toNat.toInt ≤ 9 → 1 ≤ f70_12_5.toInt → f70_12_5.toInt ≤ 4 → (10 - v79_5.toInt).toNat < n79 → Wd dC dI A s.heap H locs w16 → TW ksM ad cy B qr 12 w16 → FE ksM [(72, 0, 12), (73, 0, 10), (76, 0, 2600)] w0 w16 → gi w16 12 (9 * a1.toInt + 216).toNat = f70_12__9_a1_toInt_216_toNat → gi w16 12 5 = f70_12_5 → lv_has ls 8 [(0, .ref (ad 0)), (1, .int a1), (2, .int a2), (3, .int v79_3), (4, .int v70_4), (5, .int v79_5)] → W p l e ({ frames := 6, cells := 0, slots := 0, locals := 134 }) s m (List.toArray [.ref (ad 0), .int a1, .int a2]) below meth c H locs 0 0 (MQ below (va_Qi (P_X12_questions_1 ad cy B qr s1 a1 a2 w0) (fun u : va_W => wpost dC dI cy A u) A) (List.toArray [.ref (ad 0), .int a1, .int a2]) s 0 0 A) (F0 m 79 ls []) := by
        intro n79
        induction n79 with
        | zero => intro v79_3 v79_5 H locs ls w16 r17 t18 r19 t20 t21 r22 t23 r24 t25 r26 t27 r29 t30 hm79 hw hT hF c28 c31 hl; omega
        | succ n79 ih79 =>
          intro v79_3 v79_5 H locs ls w16 r17 t18 r19 t20 t21 r22 t23 r24 t25 r26 t27 r29 t30 hm79 hw hT hF c28 c31 hl
          have L93 : ∀ (n93 : Nat) (v93_3 : Int32) (v93_6 : Int32) (f93_12_0 : Int32) (H : Heap) (locs : List Loc) (ls : Array Slot) (w32 : va_W), 0 ≤ a1.toInt → a1.toInt ≤ 3 → 0 ≤ a2.toInt → a2.toInt ≤ 120 → v93_3.toInt ≤ 100000000 → 0 ≤ v70_4.toInt → v70_4.toInt ≤ 120 → 0 ≤ v79_5.toInt → v79_5.toInt ≤ 9 → 0 ≤ v93_6.toInt → v93_6.toInt ≤ 2 → 0 ≤ f70_12__9_a1_toInt_216_toNat.toInt → f70_12__9_a1_toInt_216_toNat.toInt ≤ 9 → 1 ≤ f93_12_0.toInt → f93_12_0.toInt ≤ 10 → 1 ≤ f70_12_5.toInt → f70_12_5.toInt ≤ 4 → (2 - v93_6.toInt).toNat < n93 → Wd dC dI A s.heap H locs w32 → TW ksM ad cy B qr 12 w32 → FE ksM [(72, 0, 12), (73, 0, 10), (76, 0, 2600)] w0 w32 → gi w32 12 (9 * a1.toInt + 216).toNat = f70_12__9_a1_toInt_216_toNat → gi w32 12 0 = f93_12_0 → gi w32 12 5 = f70_12_5 → lv_has ls 8 [(0, .ref (ad 0)), (1, .int a1), (2, .int a2), (3, .int v93_3), (4, .int v70_4), (5, .int v79_5), (6, .int v93_6)] → W p l e ({ frames := 6, cells := 0, slots := 0, locals := 134 }) s m (List.toArray [.ref (ad 0), .int a1, .int a2]) below meth c H locs 0 0 (MQ below (va_Qi (P_X12_questions_1 ad cy B qr s1 a1 a2 w0) (fun u : va_W => wpost dC dI cy A u) A) (List.toArray [.ref (ad 0), .int a1, .int a2]) s 0 0 A) (F0 m 93 ls []) := by
            intro n93
            induction n93 with
            | zero => intro v93_3 v93_6 f93_12_0 H locs ls w32 r33 t34 r35 t36 t37 r38 t39 r40 t41 r42 t43 r44 t45 r47 t48 r50 t51 hm93 hw hT hF c46 c49 c52 hl; omega
            | succ n93 ih93 =>
              intro v93_3 v93_6 f93_12_0 H locs ls w32 r33 t34 r35 t36 t37 r38 t39 r40 t41 r42 t43 r44 t45 r47 t48 r50 t51 hm93 hw hT hF c46 c49 c52 hl
              have J174 : ∀ (v174_7 : Int32) (f174_12__9_a1_toInt_217_toNat : Int32) (H : Heap) (locs : List Loc) (ls : Array Slot) (w53 : va_W), 0 ≤ a1.toInt → a1.toInt ≤ 3 → 0 ≤ a2.toInt → a2.toInt ≤ 120 → v93_3.toInt ≤ 100000000 → 0 ≤ v70_4.toInt → v70_4.toInt ≤ 120 → 0 ≤ v79_5.toInt → v79_5.toInt ≤ 9 → 0 ≤ v93_6.toInt → v93_6.toInt ≤ 1 → 0 ≤ f70_12__9_a1_toInt_216_toNat.toInt → f70_12__9_a1_toInt_216_toNat.toInt ≤ 9 → 0 ≤ f174_12__9_a1_toInt_217_toNat.toInt → f174_12__9_a1_toInt_217_toNat.toInt ≤ 9 → 1 ≤ f93_12_0.toInt → f93_12_0.toInt ≤ 10 → 1 ≤ f70_12_5.toInt → f70_12_5.toInt ≤ 4 → Wd dC dI A s.heap H locs w53 → TW ksM ad cy B qr 12 w53 → FE ksM [(72, 0, 12), (73, 0, 10), (76, 0, 2600)] w0 w53 → gi w53 12 (9 * a1.toInt + 216).toNat = f70_12__9_a1_toInt_216_toNat → gi w53 12 (9 * a1.toInt + 217).toNat = f174_12__9_a1_toInt_217_toNat → gi w53 12 0 = f93_12_0 → gi w53 12 5 = f70_12_5 → lv_has ls 8 [(0, .ref (ad 0)), (1, .int a1), (2, .int a2), (3, .int v93_3), (4, .int v70_4), (5, .int v79_5), (6, .int v93_6), (7, .int v174_7)] → W p l e ({ frames := 6, cells := 0, slots := 0, locals := 134 }) s m (List.toArray [.ref (ad 0), .int a1, .int a2]) below meth c H locs 0 0 (MQ below (va_Qi (P_X12_questions_1 ad cy B qr s1 a1 a2 w0) (fun u : va_W => wpost dC dI cy A u) A) (List.toArray [.ref (ad 0), .int a1, .int a2]) s 0 0 A) (F0 m 174 ls []) := by
                intro v174_7 f174_12__9_a1_toInt_217_toNat H locs ls w53 r54 t55 r56 t57 t58 r59 t60 r61 t62 r63 t64 r65 t66 r68 t69 r71 t72 r74 t75 hw hT hF c67 c70 c73 c76 hl
                refine lv_iload_n hx hb dX12_questions_174 rfl (lv_at hl 3 rfl) ?_
                refine lv_istore_n (lv' := [(3, .int v93_3), (0, .ref (ad 0)), (1, .int a1), (2, .int a2), (4, .int v70_4), (5, .int v79_5), (6, .int v93_6), (7, .int v174_7)]) hx hb dX12_questions_175 rfl hl (by decide) rfl (fun ls hl => ?_)
                obtain ⟨x77, ex77⟩ : ∃ y : Int32, y = v93_6 + Int32.ofInt 1 := ⟨_, rfl⟩
                refine lv_iinc (v := x77) (lv' := [(6, .int x77), (3, .int v93_3), (0, .ref (ad 0)), (1, .int a1), (2, .int a2), (4, .int v70_4), (5, .int v79_5), (7, .int v174_7)]) hx hb dX12_questions_176 hl (k := 6) rfl ex77.symm (by decide) rfl (fun ls hl => ?_)
                have ex77 : x77.toInt = v93_6.toInt + 1 := by rw [ex77]; exact wk_add (y := 1) (show -2147483648 ≤ v93_6.toInt + 1 by omega) (show v93_6.toInt + 1 ≤ 2147483647 by omega)
                refine lv_goto (tgt := 93) hx hb dX12_questions_179 (by decide) ?_
                exact ih93 v93_3 x77 f93_12_0 H locs ls w53 (show 0 ≤ a1.toInt by omega) (show a1.toInt ≤ 3 by omega) (show 0 ≤ a2.toInt by omega) (show a2.toInt ≤ 120 by omega) (show v93_3.toInt ≤ 100000000 by omega) (show 0 ≤ v70_4.toInt by omega) (show v70_4.toInt ≤ 120 by omega) (show 0 ≤ v79_5.toInt by omega) (show v79_5.toInt ≤ 9 by omega) (show 0 ≤ x77.toInt by omega) (show x77.toInt ≤ 2 by omega) (show 0 ≤ f70_12__9_a1_toInt_216_toNat.toInt by omega) (show f70_12__9_a1_toInt_216_toNat.toInt ≤ 9 by omega) (show 1 ≤ f93_12_0.toInt by omega) (show f93_12_0.toInt ≤ 10 by omega) (show 1 ≤ f70_12_5.toInt by omega) (show f70_12_5.toInt ≤ 4 by omega) (show (2 - x77.toInt).toNat < n93 by omega) hw hT hF c67 c73 c76 (lv_sub hl [2, 3, 4, 1, 5, 6, 0] rfl)
              refine lv_iload hx hb dX12_questions_93 (lv_at hl 6 rfl) ?_
              refine lv_iconst (v := 2) hx hb dX12_questions_95 (by decide) ?_
              refine lv_icmp_ge (tgt := 182) hx hb dX12_questions_96 (by decide) (fun c78 => ?_) (fun c78 => ?_)
              · have c78 : (2 : Int) ≤ v93_6.toInt := wk_le.mp c78
                obtain ⟨x79, ex79⟩ : ∃ y : Int32, y = v79_5 + Int32.ofInt 1 := ⟨_, rfl⟩
                refine lv_iinc (v := x79) (lv' := [(5, .int x79), (0, .ref (ad 0)), (1, .int a1), (2, .int a2), (3, .int v93_3), (4, .int v70_4), (6, .int v93_6)]) hx hb dX12_questions_182 hl (k := 5) rfl ex79.symm (by decide) rfl (fun ls hl => ?_)
                have ex79 : x79.toInt = v79_5.toInt + 1 := by rw [ex79]; exact wk_add (y := 1) (show -2147483648 ≤ v79_5.toInt + 1 by omega) (show v79_5.toInt + 1 ≤ 2147483647 by omega)
                refine lv_goto (tgt := 79) hx hb dX12_questions_185 (by decide) ?_
                exact ih79 v93_3 x79 H locs ls w32 (show 0 ≤ a1.toInt by omega) (show a1.toInt ≤ 3 by omega) (show 0 ≤ a2.toInt by omega) (show a2.toInt ≤ 120 by omega) (show v93_3.toInt ≤ 100000000 by omega) (show 0 ≤ v70_4.toInt by omega) (show v70_4.toInt ≤ 120 by omega) (show 0 ≤ x79.toInt by omega) (show x79.toInt ≤ 10 by omega) (show 0 ≤ f70_12__9_a1_toInt_216_toNat.toInt by omega) (show f70_12__9_a1_toInt_216_toNat.toInt ≤ 9 by omega) (show 1 ≤ f70_12_5.toInt by omega) (show f70_12_5.toInt ≤ 4 by omega) (show (10 - x79.toInt).toNat < n79 by omega) hw hT hF c46 c52 (lv_sub hl [1, 2, 3, 4, 5, 0] rfl)
              · have c78 : v93_6.toInt < (2 : Int) := wk_leF c78
                refine lv_aload_n hx hb dX12_questions_99 rfl (lv_at hl 0 rfl) ?_
                refine lv_iload_n hx hb dX12_questions_100 rfl (lv_at hl 1 rfl) ?_
                refine lv_aload_n hx hb dX12_questions_101 rfl (lv_at hl 0 rfl) ?_
                refine lv_iload_n hx hb dX12_questions_102 rfl (lv_at hl 1 rfl) ?_
                refine lv_iconst (v := 4) hx hb dX12_questions_103 (by decide) ?_
                refine tk_Vi hC hK hw hT hA hE hSR kM_at0 (by decide) rfl (k_X12_walkerOf_2 l adK adV dC dI cy ad B (by omega) (by omega) qr s1   a1 (show 0 ≤ a1.toInt by omega) (show a1.toInt ≤ 3 by omega) w32 H.size hT ) (cwV 2 hC.2.2.2.2 gX12_questions_X12_walkerOf rfl rfl rfl (by decide +kernel) ⟨Nat.le_of_ble_eq_true rfl, Nat.le_of_ble_eq_true rfl⟩) rfl hl.1 rfl (Nat.le_of_ble_eq_true rfl) dX12_questions_104 (fun r80 w82 H locs hp81 hw => ?_)
                obtain ⟨rfl, hg86⟩ := hp81
                obtain ⟨g84, g85⟩ := hg86
                refine lv_iload hx hb dX12_questions_107 (lv_at hl 4 rfl) ?_
                refine lv_iload hx hb dX12_questions_109 (lv_at hl 5 rfl) ?_
                refine lv_iload hx hb dX12_questions_111 (lv_at hl 6 rfl) ?_
                refine lv_iconst (v := 1) hx hb dX12_questions_113 (by decide) ?_
                refine lv_icmp_ne (tgt := 121) hx hb dX12_questions_114 (by decide) (fun c87 => ?_) (fun c87 => ?_)
                · have c87 : ¬ v93_6.toInt = (1 : Int) := wk_eqF c87
                  refine lv_iconst (v := 0) hx hb dX12_questions_121 (by decide) ?_
                  refine lv_iload_n hx hb dX12_questions_122 rfl (lv_at hl 2 rfl) ?_
                  refine tk_Vv hC hK hw hT hA hE hSR kM_at0 (by decide) rfl (k_X12_leads_1 l adK adV dC dI cy ad B (by omega) (by omega) qr s1   a1 (show 0 ≤ a1.toInt by omega) (show a1.toInt ≤ 3 by omega) r80 (show 0 ≤ r80.toInt by omega) (show r80.toInt ≤ 1073741824 by omega) v70_4 (show 0 ≤ v70_4.toInt by omega) (show v70_4.toInt ≤ 120 by omega) v79_5 (show 0 ≤ v79_5.toInt by omega) (show v79_5.toInt ≤ 9 by omega) a2 (show 0 ≤ a2.toInt by omega) (show a2.toInt ≤ 120 by omega) w32 H.size hT ) (cwV 6 hC.2.2.2.2 gX12_questions_X12_leads rfl rfl rfl (by decide +kernel) ⟨Nat.le_of_ble_eq_true rfl, Nat.le_of_ble_eq_true rfl⟩) rfl hl.1 rfl (Nat.le_of_ble_eq_true rfl) dX12_questions_123 (fun w90 H locs hp89 hw => ?_)
                  obtain ⟨hT, k91, hg92⟩ := hp89
                  have hF := hF.tr k91 (by decide)
                  have c93 := k91.gi kM_at12 rfl c46
                  have c94 := k91.gi kM_at12 (by decide) c49
                  have c95 := k91.gi kM_at12 (by decide) c52
                  clear hg92
                  refine lv_aload_n hx hb dX12_questions_126 rfl (lv_at hl 0 rfl) ?_
                  refine tk_getA hC hK hw hT hinX12 kM_at0 (by decide) rfl 34 (by decide) (List.mem_of_getElem? (i := 2) rfl) rfl rfl dX12_questions_127 ?_
                  refine lv_aload_n hx hb dX12_questions_130 rfl (lv_at hl 0 rfl) ?_
                  refine lv_iload hx hb dX12_questions_131 (lv_at hl 4 rfl) ?_
                  refine lv_iload hx hb dX12_questions_133 (lv_at hl 5 rfl) ?_
                  refine lv_iload hx hb dX12_questions_135 (lv_at hl 6 rfl) ?_
                  refine lv_iconst (v := 1) hx hb dX12_questions_137 (by decide) ?_
                  refine lv_icmp_ne (tgt := 145) hx hb dX12_questions_138 (by decide) (fun _ => ?_) (fun c => absurd (show v93_6.toInt = (1 : Int) from wk_eq.mp c) (by omega))
                  refine lv_iconst (v := 0) hx hb dX12_questions_145 (by decide) ?_
                  refine tk_Vi hC hK hw hT hA hE hSR kM_at0 (by decide) rfl (k_X12_placeAt_1 l adK adV dC dI cy ad B (by omega) (by omega) qr s1   v70_4 (show 0 ≤ v70_4.toInt by omega) (show v70_4.toInt ≤ 120 by omega) v79_5 (show 0 ≤ v79_5.toInt by omega) (show v79_5.toInt ≤ 9 by omega) w90 H.size hT ) (cwV 3 hC.2.2.2.2 gX12_questions_X12_placeAt rfl rfl rfl (by decide +kernel) ⟨Nat.le_of_ble_eq_true rfl, Nat.le_of_ble_eq_true rfl⟩) rfl hl.1 rfl (Nat.le_of_ble_eq_true rfl) dX12_questions_146 (fun r96 w98 H locs hp97 hw => ?_)
                  obtain ⟨rfl, hg102⟩ := hp97
                  obtain ⟨g100, g101⟩ := hg102
                  refine tk_iald hC hK hw hT kM_at17 rfl rfl (show 0 ≤ r96.toInt by omega) (show r96.toInt < 2600 by omega) dX12_questions_149 (fun x103 c104 rx103 tx103 => ?_)
                  refine lv_istore (lv' := [(7, .int x103), (0, .ref (ad 0)), (1, .int a1), (2, .int a2), (3, .int v93_3), (4, .int v70_4), (5, .int v79_5), (6, .int v93_6)]) hx hb dX12_questions_150 hl (by decide) rfl (fun ls hl => ?_)
                  refine lv_iload hx hb dX12_questions_152 (lv_at hl 6 rfl) ?_
                  refine lv_aload_n hx hb dX12_questions_154 rfl (lv_at hl 1 rfl) ?_
                  refine lv_iload_n hx hb dX12_questions_155 rfl (lv_at hl 2 rfl) ?_
                  refine lv_iconst (v := 1) hx hb dX12_questions_156 (by decide) ?_
                  refine tk_Vi hC hK hw hT hA hE hSR kM_at0 (by decide) rfl (k_X12_walkerOf_3 l adK adV dC dI cy ad B (by omega) (by omega) qr s1   a1 (show 0 ≤ a1.toInt by omega) (show a1.toInt ≤ 3 by omega) w90 H.size hT ) (cwV 2 hC.2.2.2.2 gX12_questions_X12_walkerOf rfl rfl rfl (by decide +kernel) ⟨Nat.le_of_ble_eq_true rfl, Nat.le_of_ble_eq_true rfl⟩) rfl hl.1 rfl (Nat.le_of_ble_eq_true rfl) dX12_questions_157 (fun r105 w107 H locs hp106 hw => ?_)
                  obtain ⟨rfl, hg112⟩ := hp106
                  obtain ⟨g109, g110, c111⟩ := hg112
                  refine lv_icmp_ne (tgt := 174) hx hb dX12_questions_160 (by decide) (fun c113 => ?_) (fun c113 => ?_)
                  · have c113 : ¬ v79_5.toInt = r105.toInt := wk_eqF c113
                    exact J174 x103 r105 H locs ls w90 (show 0 ≤ a1.toInt by omega) (show a1.toInt ≤ 3 by omega) (show 0 ≤ a2.toInt by omega) (show a2.toInt ≤ 120 by omega) (show v93_3.toInt ≤ 100000000 by omega) (show 0 ≤ v70_4.toInt by omega) (show v70_4.toInt ≤ 120 by omega) (show 0 ≤ v79_5.toInt by omega) (show v79_5.toInt ≤ 9 by omega) (show 0 ≤ v93_6.toInt by omega) (show v93_6.toInt ≤ 1 by omega) (show 0 ≤ f70_12__9_a1_toInt_216_toNat.toInt by omega) (show f70_12__9_a1_toInt_216_toNat.toInt ≤ 9 by omega) (show 0 ≤ r105.toInt by omega) (show r105.toInt ≤ 9 by omega) (show 1 ≤ f93_12_0.toInt by omega) (show f93_12_0.toInt ≤ 10 by omega) (show 1 ≤ f70_12_5.toInt by omega) (show f70_12_5.toInt ≤ 4 by omega)  hw hT hF c93 c111 c94 c95 (lv_sub hl [1, 2, 3, 4, 5, 6, 7, 0] rfl)
                  · have c113 : v79_5.toInt = r105.toInt := wk_eq.mp c113
                    refine lv_iload hx hb dX12_questions_163 (lv_at hl 0 rfl) ?_
                    refine lv_iload_n hx hb dX12_questions_165 rfl (lv_at hl 4 rfl) ?_
                    refine lv_icmp_ge (tgt := 174) hx hb dX12_questions_166 (by decide) (fun c114 => ?_) (fun c114 => ?_)
                    · have c114 : v93_3.toInt ≤ x103.toInt := wk_le.mp c114
                      exact J174 x103 r105 H locs ls w90 (show 0 ≤ a1.toInt by omega) (show a1.toInt ≤ 3 by omega) (show 0 ≤ a2.toInt by omega) (show a2.toInt ≤ 120 by omega) (show v93_3.toInt ≤ 100000000 by omega) (show 0 ≤ v70_4.toInt by omega) (show v70_4.toInt ≤ 120 by omega) (show 0 ≤ v79_5.toInt by omega) (show v79_5.toInt ≤ 9 by omega) (show 0 ≤ v93_6.toInt by omega) (show v93_6.toInt ≤ 1 by omega) (show 0 ≤ f70_12__9_a1_toInt_216_toNat.toInt by omega) (show f70_12__9_a1_toInt_216_toNat.toInt ≤ 9 by omega) (show 0 ≤ r105.toInt by omega) (show r105.toInt ≤ 9 by omega) (show 1 ≤ f93_12_0.toInt by omega) (show f93_12_0.toInt ≤ 10 by omega) (show 1 ≤ f70_12_5.toInt by omega) (show f70_12_5.toInt ≤ 4 by omega)  hw hT hF c93 c111 c94 c95 (lv_sub hl [1, 2, 3, 4, 5, 6, 7, 0] rfl)
                    · have c114 : x103.toInt < v93_3.toInt := wk_leF c114
                      refine lv_iload hx hb dX12_questions_169 (lv_at hl 0 rfl) ?_
                      refine lv_goto (tgt := 175) hx hb dX12_questions_171 (by decide) ?_
                      refine lv_istore_n (lv' := [(3, .int x103), (7, .int x103), (0, .ref (ad 0)), (1, .int a1), (2, .int a2), (4, .int v70_4), (5, .int v79_5), (6, .int v93_6)]) hx hb dX12_questions_175 rfl hl (by decide) rfl (fun ls hl => ?_)
                      obtain ⟨x115, ex115⟩ : ∃ y : Int32, y = v93_6 + Int32.ofInt 1 := ⟨_, rfl⟩
                      refine lv_iinc (v := x115) (lv' := [(6, .int x115), (3, .int x103), (7, .int x103), (0, .ref (ad 0)), (1, .int a1), (2, .int a2), (4, .int v70_4), (5, .int v79_5)]) hx hb dX12_questions_176 hl (k := 7) rfl ex115.symm (by decide) rfl (fun ls hl => ?_)
                      have ex115 : x115.toInt = v93_6.toInt + 1 := by rw [ex115]; exact wk_add (y := 1) (show -2147483648 ≤ v93_6.toInt + 1 by omega) (show v93_6.toInt + 1 ≤ 2147483647 by omega)
                      refine lv_goto (tgt := 93) hx hb dX12_questions_179 (by decide) ?_
                      exact ih93 x103 x115 f93_12_0 H locs ls w90 (show 0 ≤ a1.toInt by omega) (show a1.toInt ≤ 3 by omega) (show 0 ≤ a2.toInt by omega) (show a2.toInt ≤ 120 by omega) (show x103.toInt ≤ 100000000 by omega) (show 0 ≤ v70_4.toInt by omega) (show v70_4.toInt ≤ 120 by omega) (show 0 ≤ v79_5.toInt by omega) (show v79_5.toInt ≤ 9 by omega) (show 0 ≤ x115.toInt by omega) (show x115.toInt ≤ 2 by omega) (show 0 ≤ f70_12__9_a1_toInt_216_toNat.toInt by omega) (show f70_12__9_a1_toInt_216_toNat.toInt ≤ 9 by omega) (show 1 ≤ f93_12_0.toInt by omega) (show f93_12_0.toInt ≤ 10 by omega) (show 1 ≤ f70_12_5.toInt by omega) (show f70_12_5.toInt ≤ 4 by omega) (show (2 - x115.toInt).toNat < n93 by omega) hw hT hF c93 c94 c95 (lv_sub hl [3, 4, 5, 1, 6, 7, 0] rfl)
                · have c87 : v93_6.toInt = (1 : Int) := wk_eq.mp c87
                  refine lv_iconst (v := 1) hx hb dX12_questions_117 (by decide) ?_
                  refine lv_goto (tgt := 122) hx hb dX12_questions_118 (by decide) ?_
                  refine lv_iload_n hx hb dX12_questions_122 rfl (lv_at hl 2 rfl) ?_
                  refine tk_Vv hC hK hw hT hA hE hSR kM_at0 (by decide) rfl (k_X12_leads_2 l adK adV dC dI cy ad B (by omega) (by omega) qr s1   a1 (show 0 ≤ a1.toInt by omega) (show a1.toInt ≤ 3 by omega) r80 (show 0 ≤ r80.toInt by omega) (show r80.toInt ≤ 1073741824 by omega) v70_4 (show 0 ≤ v70_4.toInt by omega) (show v70_4.toInt ≤ 120 by omega) v79_5 (show 0 ≤ v79_5.toInt by omega) (show v79_5.toInt ≤ 9 by omega) a2 (show 0 ≤ a2.toInt by omega) (show a2.toInt ≤ 120 by omega) w32 H.size hT ) (cwV 6 hC.2.2.2.2 gX12_questions_X12_leads rfl rfl rfl (by decide +kernel) ⟨Nat.le_of_ble_eq_true rfl, Nat.le_of_ble_eq_true rfl⟩) rfl hl.1 rfl (Nat.le_of_ble_eq_true rfl) dX12_questions_123 (fun w118 H locs hp117 hw => ?_)
                  obtain ⟨hT, k119, hg120⟩ := hp117
                  have hF := hF.tr k119 (by decide)
                  have c121 := k119.gi kM_at12 rfl c46
                  have c122 := k119.gi kM_at12 (by decide) c49
                  have c123 := k119.gi kM_at12 (by decide) c52
                  clear hg120
                  refine lv_aload_n hx hb dX12_questions_126 rfl (lv_at hl 0 rfl) ?_
                  refine tk_getA hC hK hw hT hinX12 kM_at0 (by decide) rfl 34 (by decide) (List.mem_of_getElem? (i := 2) rfl) rfl rfl dX12_questions_127 ?_
                  refine lv_aload_n hx hb dX12_questions_130 rfl (lv_at hl 0 rfl) ?_
                  refine lv_iload hx hb dX12_questions_131 (lv_at hl 4 rfl) ?_
                  refine lv_iload hx hb dX12_questions_133 (lv_at hl 5 rfl) ?_
                  refine lv_iload hx hb dX12_questions_135 (lv_at hl 6 rfl) ?_
                  refine lv_iconst (v := 1) hx hb dX12_questions_137 (by decide) ?_
                  refine lv_icmp_ne (tgt := 145) hx hb dX12_questions_138 (by decide) (fun c => (c (wk_eq.mpr (show v93_6.toInt = (1 : Int) by omega))).elim) (fun _ => ?_)
                  refine lv_iconst (v := 1) hx hb dX12_questions_141 (by decide) ?_
                  refine lv_goto (tgt := 146) hx hb dX12_questions_142 (by decide) ?_
                  refine tk_Vi hC hK hw hT hA hE hSR kM_at0 (by decide) rfl (k_X12_placeAt_4 l adK adV dC dI cy ad B (by omega) (by omega) qr s1   v70_4 (show 0 ≤ v70_4.toInt by omega) (show v70_4.toInt ≤ 120 by omega) v79_5 (show 0 ≤ v79_5.toInt by omega) (show v79_5.toInt ≤ 9 by omega) w118 H.size hT ) (cwV 3 hC.2.2.2.2 gX12_questions_X12_placeAt rfl rfl rfl (by decide +kernel) ⟨Nat.le_of_ble_eq_true rfl, Nat.le_of_ble_eq_true rfl⟩) rfl hl.1 rfl (Nat.le_of_ble_eq_true rfl) dX12_questions_146 (fun r124 w126 H locs hp125 hw => ?_)
                  obtain ⟨rfl, hg130⟩ := hp125
                  obtain ⟨g128, g129⟩ := hg130
                  refine tk_iald hC hK hw hT kM_at17 rfl rfl (show 0 ≤ r124.toInt by omega) (show r124.toInt < 2600 by omega) dX12_questions_149 (fun x131 c132 rx131 tx131 => ?_)
                  refine lv_istore (lv' := [(7, .int x131), (0, .ref (ad 0)), (1, .int a1), (2, .int a2), (3, .int v93_3), (4, .int v70_4), (5, .int v79_5), (6, .int v93_6)]) hx hb dX12_questions_150 hl (by decide) rfl (fun ls hl => ?_)
                  refine lv_iload hx hb dX12_questions_152 (lv_at hl 6 rfl) ?_
                  refine lv_aload_n hx hb dX12_questions_154 rfl (lv_at hl 1 rfl) ?_
                  refine lv_iload_n hx hb dX12_questions_155 rfl (lv_at hl 2 rfl) ?_
                  refine lv_iconst (v := 1) hx hb dX12_questions_156 (by decide) ?_
                  refine tk_Vi hC hK hw hT hA hE hSR kM_at0 (by decide) rfl (k_X12_walkerOf_3 l adK adV dC dI cy ad B (by omega) (by omega) qr s1   a1 (show 0 ≤ a1.toInt by omega) (show a1.toInt ≤ 3 by omega) w118 H.size hT ) (cwV 2 hC.2.2.2.2 gX12_questions_X12_walkerOf rfl rfl rfl (by decide +kernel) ⟨Nat.le_of_ble_eq_true rfl, Nat.le_of_ble_eq_true rfl⟩) rfl hl.1 rfl (Nat.le_of_ble_eq_true rfl) dX12_questions_157 (fun r133 w135 H locs hp134 hw => ?_)
                  obtain ⟨rfl, hg140⟩ := hp134
                  obtain ⟨g137, g138, c139⟩ := hg140
                  refine lv_icmp_ne (tgt := 174) hx hb dX12_questions_160 (by decide) (fun c141 => ?_) (fun c141 => ?_)
                  · have c141 : ¬ v79_5.toInt = r133.toInt := wk_eqF c141
                    exact J174 x131 r133 H locs ls w118 (show 0 ≤ a1.toInt by omega) (show a1.toInt ≤ 3 by omega) (show 0 ≤ a2.toInt by omega) (show a2.toInt ≤ 120 by omega) (show v93_3.toInt ≤ 100000000 by omega) (show 0 ≤ v70_4.toInt by omega) (show v70_4.toInt ≤ 120 by omega) (show 0 ≤ v79_5.toInt by omega) (show v79_5.toInt ≤ 9 by omega) (show 0 ≤ v93_6.toInt by omega) (show v93_6.toInt ≤ 1 by omega) (show 0 ≤ f70_12__9_a1_toInt_216_toNat.toInt by omega) (show f70_12__9_a1_toInt_216_toNat.toInt ≤ 9 by omega) (show 0 ≤ r133.toInt by omega) (show r133.toInt ≤ 9 by omega) (show 1 ≤ f93_12_0.toInt by omega) (show f93_12_0.toInt ≤ 10 by omega) (show 1 ≤ f70_12_5.toInt by omega) (show f70_12_5.toInt ≤ 4 by omega)  hw hT hF c121 c139 c122 c123 (lv_sub hl [1, 2, 3, 4, 5, 6, 7, 0] rfl)
                  · have c141 : v79_5.toInt = r133.toInt := wk_eq.mp c141
                    refine lv_iload hx hb dX12_questions_163 (lv_at hl 0 rfl) ?_
                    refine lv_iload_n hx hb dX12_questions_165 rfl (lv_at hl 4 rfl) ?_
                    refine lv_icmp_ge (tgt := 174) hx hb dX12_questions_166 (by decide) (fun c142 => ?_) (fun c142 => ?_)
                    · have c142 : v93_3.toInt ≤ x131.toInt := wk_le.mp c142
                      exact J174 x131 r133 H locs ls w118 (show 0 ≤ a1.toInt by omega) (show a1.toInt ≤ 3 by omega) (show 0 ≤ a2.toInt by omega) (show a2.toInt ≤ 120 by omega) (show v93_3.toInt ≤ 100000000 by omega) (show 0 ≤ v70_4.toInt by omega) (show v70_4.toInt ≤ 120 by omega) (show 0 ≤ v79_5.toInt by omega) (show v79_5.toInt ≤ 9 by omega) (show 0 ≤ v93_6.toInt by omega) (show v93_6.toInt ≤ 1 by omega) (show 0 ≤ f70_12__9_a1_toInt_216_toNat.toInt by omega) (show f70_12__9_a1_toInt_216_toNat.toInt ≤ 9 by omega) (show 0 ≤ r133.toInt by omega) (show r133.toInt ≤ 9 by omega) (show 1 ≤ f93_12_0.toInt by omega) (show f93_12_0.toInt ≤ 10 by omega) (show 1 ≤ f70_12_5.toInt by omega) (show f70_12_5.toInt ≤ 4 by omega)  hw hT hF c121 c139 c122 c123 (lv_sub hl [1, 2, 3, 4, 5, 6, 7, 0] rfl)
                    · have c142 : x131.toInt < v93_3.toInt := wk_leF c142
                      refine lv_iload hx hb dX12_questions_169 (lv_at hl 0 rfl) ?_
                      refine lv_goto (tgt := 175) hx hb dX12_questions_171 (by decide) ?_
                      refine lv_istore_n (lv' := [(3, .int x131), (7, .int x131), (0, .ref (ad 0)), (1, .int a1), (2, .int a2), (4, .int v70_4), (5, .int v79_5), (6, .int v93_6)]) hx hb dX12_questions_175 rfl hl (by decide) rfl (fun ls hl => ?_)
                      obtain ⟨x143, ex143⟩ : ∃ y : Int32, y = v93_6 + Int32.ofInt 1 := ⟨_, rfl⟩
                      refine lv_iinc (v := x143) (lv' := [(6, .int x143), (3, .int x131), (7, .int x131), (0, .ref (ad 0)), (1, .int a1), (2, .int a2), (4, .int v70_4), (5, .int v79_5)]) hx hb dX12_questions_176 hl (k := 7) rfl ex143.symm (by decide) rfl (fun ls hl => ?_)
                      have ex143 : x143.toInt = v93_6.toInt + 1 := by rw [ex143]; exact wk_add (y := 1) (show -2147483648 ≤ v93_6.toInt + 1 by omega) (show v93_6.toInt + 1 ≤ 2147483647 by omega)
                      refine lv_goto (tgt := 93) hx hb dX12_questions_179 (by decide) ?_
                      exact ih93 x131 x143 f93_12_0 H locs ls w118 (show 0 ≤ a1.toInt by omega) (show a1.toInt ≤ 3 by omega) (show 0 ≤ a2.toInt by omega) (show a2.toInt ≤ 120 by omega) (show x131.toInt ≤ 100000000 by omega) (show 0 ≤ v70_4.toInt by omega) (show v70_4.toInt ≤ 120 by omega) (show 0 ≤ v79_5.toInt by omega) (show v79_5.toInt ≤ 9 by omega) (show 0 ≤ x143.toInt by omega) (show x143.toInt ≤ 2 by omega) (show 0 ≤ f70_12__9_a1_toInt_216_toNat.toInt by omega) (show f70_12__9_a1_toInt_216_toNat.toInt ≤ 9 by omega) (show 1 ≤ f93_12_0.toInt by omega) (show f93_12_0.toInt ≤ 10 by omega) (show 1 ≤ f70_12_5.toInt by omega) (show f70_12_5.toInt ≤ 4 by omega) (show (2 - x143.toInt).toNat < n93 by omega) hw hT hF c121 c122 c123 (lv_sub hl [3, 4, 5, 1, 6, 7, 0] rfl)
          refine lv_iload hx hb dX12_questions_79 (lv_at hl 5 rfl) ?_
          refine lv_aload_n hx hb dX12_questions_81 rfl (lv_at hl 0 rfl) ?_
          refine tk_getA hC hK hw hT hinX12 kM_at0 (by decide) rfl 26 (by decide) (List.mem_of_getElem? (i := 4) rfl) rfl rfl dX12_questions_82 ?_
          refine lv_iconst (v := 0) hx hb dX12_questions_85 (by decide) ?_
          refine tk_ialdR hC hK hw hT kM_at12 rfl (by decide) (by decide) dX12_questions_86 (fun x144 c145 Ex144 => ?_)
          have bx144 := tk_rgI rfl 0 1 1 0 10 (by decide +kernel) ⟨0, by decide, by decide⟩ Ex144
          have c145 : gi w16 12 0 = x144 := c145
          refine lv_icmp_ge (tgt := 188) hx hb dX12_questions_87 (by decide) (fun c146 => ?_) (fun c146 => ?_)
          · have c146 : x144.toInt ≤ v79_5.toInt := wk_le.mp c146
            obtain ⟨x147, ex147⟩ : ∃ y : Int32, y = v70_4 + Int32.ofInt 1 := ⟨_, rfl⟩
            refine lv_iinc (v := x147) (lv' := [(4, .int x147), (0, .ref (ad 0)), (1, .int a1), (2, .int a2), (3, .int v79_3), (5, .int v79_5)]) hx hb dX12_questions_188 hl (k := 4) rfl ex147.symm (by decide) rfl (fun ls hl => ?_)
            have ex147 : x147.toInt = v70_4.toInt + 1 := by rw [ex147]; exact wk_add (y := 1) (show -2147483648 ≤ v70_4.toInt + 1 by omega) (show v70_4.toInt + 1 ≤ 2147483647 by omega)
            refine lv_goto (tgt := 70) hx hb dX12_questions_191 (by decide) ?_
            exact ih70 v79_3 x147 f70_12__9_a1_toInt_216_toNat f70_12_5 H locs ls w16 (show 0 ≤ a1.toInt by omega) (show a1.toInt ≤ 3 by omega) (show 0 ≤ a2.toInt by omega) (show a2.toInt ≤ 120 by omega) (show v79_3.toInt ≤ 100000000 by omega) (show 0 ≤ x147.toInt by omega) (show x147.toInt ≤ 121 by omega) (show 0 ≤ f70_12__9_a1_toInt_216_toNat.toInt by omega) (show f70_12__9_a1_toInt_216_toNat.toInt ≤ 9 by omega) (show 1 ≤ f70_12_5.toInt by omega) (show f70_12_5.toInt ≤ 4 by omega) (show (121 - x147.toInt).toNat < n70 by omega) hw hT hF c28 c31 (lv_sub hl [1, 2, 3, 4, 0] rfl)
          · have c146 : v79_5.toInt < x144.toInt := wk_leF c146
            refine lv_iconst (v := 0) hx hb dX12_questions_90 (by decide) ?_
            refine lv_istore (lv' := [(6, .int 0), (0, .ref (ad 0)), (1, .int a1), (2, .int a2), (3, .int v79_3), (4, .int v70_4), (5, .int v79_5)]) hx hb dX12_questions_91 hl (by decide) rfl (fun ls hl => ?_)
            exact L93 ((2 - (0 : Int)).toNat + 1) v79_3 0 x144 H locs ls w16 (show 0 ≤ a1.toInt by omega) (show a1.toInt ≤ 3 by omega) (show 0 ≤ a2.toInt by omega) (show a2.toInt ≤ 120 by omega) (show v79_3.toInt ≤ 100000000 by omega) (show 0 ≤ v70_4.toInt by omega) (show v70_4.toInt ≤ 120 by omega) (show 0 ≤ v79_5.toInt by omega) (show v79_5.toInt ≤ 9 by omega) (by decide) (by decide) (show 0 ≤ f70_12__9_a1_toInt_216_toNat.toInt by omega) (show f70_12__9_a1_toInt_216_toNat.toInt ≤ 9 by omega) (show 1 ≤ x144.toInt by omega) (show x144.toInt ≤ 10 by omega) (show 1 ≤ f70_12_5.toInt by omega) (show f70_12_5.toInt ≤ 4 by omega) (Nat.lt_succ_self _) hw hT hF c28 c145 c31 (lv_sub hl [1, 2, 3, 4, 5, 6, 0] rfl)
      refine lv_iload hx hb dX12_questions_70 (lv_at hl 4 rfl) ?_
      refine lv_iload_n hx hb dX12_questions_72 rfl (lv_at hl 2 rfl) ?_
      refine lv_icmp_gt (tgt := 194) hx hb dX12_questions_73 (by decide) (fun c148 => ?_) (fun c148 => ?_)
      · have c148 : a2.toInt < v70_4.toInt := wk_lt.mp c148
        refine lv_iload_n hx hb dX12_questions_194 rfl (lv_at hl 3 rfl) ?_
        refine lv_ldcw (v := 100000000) hx hb hC.2.2.2.1 (hC.2.2.2.2 _ (List.mem_of_getElem? (i := 3) rfl)) dX12_questions_195 ?_
        refine lv_icmp_ne (tgt := 206) hx hb dX12_questions_198 (by decide) (fun c149 => ?_) (fun c149 => ?_)
        · have c149 : ¬ v70_3.toInt = (100000000 : Int) := wk_eqF c149
          refine lv_iload_n hx hb dX12_questions_206 rfl (lv_at hl 3 rfl) ?_
          exact tk_iret hC hr hlocks hK ⟨hT, hF, (Or.inl ⟨(show v70_3.toInt ≤ 99999999 by omega), (show 0 ≤ a1.toInt by omega), (show a1.toInt ≤ 3 by omega), (show 0 ≤ a2.toInt by omega), (show a2.toInt ≤ 120 by omega), ⟨f70_12_5, c15, (show 1 ≤ f70_12_5.toInt by omega), (show f70_12_5.toInt ≤ 4 by omega)⟩⟩)⟩ hw dX12_questions_207
        · have c149 : v70_3.toInt = (100000000 : Int) := wk_eq.mp c149
          refine lv_bipush (v := (-2)) hx hb dX12_questions_201 (by decide) ?_
          refine lv_goto (tgt := 207) hx hb dX12_questions_203 (by decide) ?_
          exact tk_iret hC hr hlocks hK ⟨hT, hF, (Or.inr (Or.inl ⟨rfl, (show 0 ≤ a1.toInt by omega), (show a1.toInt ≤ 3 by omega), (show 0 ≤ a2.toInt by omega), (show a2.toInt ≤ 120 by omega), ⟨f70_12_5, c15, (show 1 ≤ f70_12_5.toInt by omega), (show f70_12_5.toInt ≤ 4 by omega)⟩⟩))⟩ hw dX12_questions_207
      · have c148 : v70_4.toInt ≤ a2.toInt := wk_ltF c148
        refine lv_iconst (v := 0) hx hb dX12_questions_76 (by decide) ?_
        refine lv_istore (lv' := [(5, .int 0), (0, .ref (ad 0)), (1, .int a1), (2, .int a2), (3, .int v70_3), (4, .int v70_4)]) hx hb dX12_questions_77 hl (by decide) rfl (fun ls hl => ?_)
        exact L79 ((10 - (0 : Int)).toNat + 1) v70_3 0 H locs ls w2 (show 0 ≤ a1.toInt by omega) (show a1.toInt ≤ 3 by omega) (show 0 ≤ a2.toInt by omega) (show a2.toInt ≤ 120 by omega) (show v70_3.toInt ≤ 100000000 by omega) (show 0 ≤ v70_4.toInt by omega) (show v70_4.toInt ≤ 120 by omega) (by decide) (by decide) (show 0 ≤ f70_12__9_a1_toInt_216_toNat.toInt by omega) (show f70_12__9_a1_toInt_216_toNat.toInt ≤ 9 by omega) (show 1 ≤ f70_12_5.toInt by omega) (show f70_12_5.toInt ≤ 4 by omega) (Nat.lt_succ_self _) hw hT hF c12 c15 (lv_sub hl [1, 2, 3, 4, 5, 0] rfl)
  have L24 : ∀ (n24 : Nat) (v24_3 : Int32) (f24_12_5 : Int32) (H : Heap) (locs : List Loc) (ls : Array Slot) (w150 : va_W), 0 ≤ a1.toInt → a1.toInt ≤ 3 → 0 ≤ a2.toInt → a2.toInt ≤ 120 → 0 ≤ v24_3.toInt → v24_3.toInt ≤ 2600 → 1 ≤ f24_12_5.toInt → f24_12_5.toInt ≤ 4 → (2600 - v24_3.toInt).toNat < n24 → Wd dC dI A s.heap H locs w150 → TW ksM ad cy B qr 12 w150 → FE ksM [(72, 0, 12), (73, 0, 10), (76, 0, 2600)] w0 w150 → gi w150 12 5 = f24_12_5 → lv_has ls 8 [(0, .ref (ad 0)), (1, .int a1), (2, .int a2), (3, .int v24_3)] → W p l e ({ frames := 6, cells := 0, slots := 0, locals := 134 }) s m (List.toArray [.ref (ad 0), .int a1, .int a2]) below meth c H locs 0 0 (MQ below (va_Qi (P_X12_questions_1 ad cy B qr s1 a1 a2 w0) (fun u : va_W => wpost dC dI cy A u) A) (List.toArray [.ref (ad 0), .int a1, .int a2]) s 0 0 A) (F0 m 24 ls []) := by
    intro n24
    induction n24 with
    | zero => intro v24_3 f24_12_5 H locs ls w150 r151 t152 r153 t154 r155 t156 r157 t158 hm24 hw hT hF c159 hl; omega
    | succ n24 ih24 =>
      intro v24_3 f24_12_5 H locs ls w150 r151 t152 r153 t154 r155 t156 r157 t158 hm24 hw hT hF c159 hl
      refine lv_iload_n hx hb dX12_questions_24 rfl (lv_at hl 3 rfl) ?_
      refine lv_sipush (v := 2600) hx hb dX12_questions_25 (by decide) ?_
      refine lv_icmp_ge (tgt := 46) hx hb dX12_questions_28 (by decide) (fun c160 => ?_) (fun c160 => ?_)
      · have c160 : (2600 : Int) ≤ v24_3.toInt := wk_le.mp c160
        refine lv_aload_n hx hb dX12_questions_46 rfl (lv_at hl 0 rfl) ?_
        refine lv_iconst (v := 0) hx hb dX12_questions_47 (by decide) ?_
        refine lv_aload_n hx hb dX12_questions_48 rfl (lv_at hl 0 rfl) ?_
        refine lv_iload_n hx hb dX12_questions_49 rfl (lv_at hl 1 rfl) ?_
        refine lv_iconst (v := 0) hx hb dX12_questions_50 (by decide) ?_
        refine tk_Vi hC hK hw hT hA hE hSR kM_at0 (by decide) rfl (k_X12_walkerOf_5 l adK adV dC dI cy ad B (by omega) (by omega) qr s1   a1 (show 0 ≤ a1.toInt by omega) (show a1.toInt ≤ 3 by omega) w150 H.size hT ) (cwV 2 hC.2.2.2.2 gX12_questions_X12_walkerOf rfl rfl rfl (by decide +kernel) ⟨Nat.le_of_ble_eq_true rfl, Nat.le_of_ble_eq_true rfl⟩) rfl hl.1 rfl (Nat.le_of_ble_eq_true rfl) dX12_questions_51 (fun r161 w163 H locs hp162 hw => ?_)
        obtain ⟨rfl, hg168⟩ := hp162
        obtain ⟨g165, g166, c167⟩ := hg168
        refine lv_aload_n hx hb dX12_questions_54 rfl (lv_at hl 0 rfl) ?_
        refine lv_iload_n hx hb dX12_questions_55 rfl (lv_at hl 1 rfl) ?_
        refine tk_Vi hC hK hw hT hA hE hSR kM_at0 (by decide) rfl (k_X12_askedToday_1 l adK adV dC dI cy ad B (by omega) (by omega) qr s1   a1 (show 0 ≤ a1.toInt by omega) (show a1.toInt ≤ 3 by omega) w150 H.size hT ) (cwV 1 hC.2.2.2.2 gX12_questions_X12_askedToday rfl rfl rfl (by decide +kernel) ⟨Nat.le_of_ble_eq_true rfl, Nat.le_of_ble_eq_true rfl⟩) rfl hl.1 rfl (Nat.le_of_ble_eq_true rfl) dX12_questions_56 (fun r169 w171 H locs hp170 hw => ?_)
        obtain ⟨rfl, hg173⟩ := hp170
        rcases hg173 with rfl | rfl
        · refine lv_iconst (v := 0) hx hb dX12_questions_59 (by decide) ?_
          refine tk_Vv hC hK hw hT hA hE hSR kM_at0 (by decide) rfl (k_X12_could_5 l adK adV dC dI cy ad B (by omega) (by omega) qr s1   r161 (show 0 ≤ r161.toInt by omega) (show r161.toInt ≤ 9 by omega) w150 H.size hT ) (cwV 4 hC.2.2.2.2 gX12_questions_X12_could rfl rfl rfl (by decide +kernel) ⟨Nat.le_of_ble_eq_true rfl, Nat.le_of_ble_eq_true rfl⟩) rfl hl.1 rfl (Nat.le_of_ble_eq_true rfl) dX12_questions_60 (fun w176 H locs hp175 hw => ?_)
          obtain ⟨hT, k177, hg178⟩ := hp175
          have hF := hF.tr k177 (by decide)
          have c179 := k177.gi kM_at12 (by decide) c159
          have c180 := k177.gi kM_at12 rfl c167
          clear hg178
          refine lv_ldcw (v := 100000000) hx hb hC.2.2.2.1 (hC.2.2.2.2 _ (List.mem_of_getElem? (i := 3) rfl)) dX12_questions_63 ?_
          refine lv_istore_n (lv' := [(3, .int 100000000), (0, .ref (ad 0)), (1, .int a1), (2, .int a2)]) hx hb dX12_questions_66 rfl hl (by decide) rfl (fun ls hl => ?_)
          refine lv_iconst (v := 0) hx hb dX12_questions_67 (by decide) ?_
          refine lv_istore (lv' := [(4, .int 0), (3, .int 100000000), (0, .ref (ad 0)), (1, .int a1), (2, .int a2)]) hx hb dX12_questions_68 hl (by decide) rfl (fun ls hl => ?_)
          exact L70 ((121 - (0 : Int)).toNat + 1) 100000000 0 r161 f24_12_5 H locs ls w176 (show 0 ≤ a1.toInt by omega) (show a1.toInt ≤ 3 by omega) (show 0 ≤ a2.toInt by omega) (show a2.toInt ≤ 120 by omega) (by decide) (by decide) (by decide) (show 0 ≤ r161.toInt by omega) (show r161.toInt ≤ 9 by omega) (show 1 ≤ f24_12_5.toInt by omega) (show f24_12_5.toInt ≤ 4 by omega) (Nat.lt_succ_self _) hw hT hF c180 c179 (lv_sub hl [2, 3, 4, 1, 0] rfl)
        · refine lv_iconst (v := 0) hx hb dX12_questions_59 (by decide) ?_
          refine tk_Vv hC hK hw hT hA hE hSR kM_at0 (by decide) rfl (k_X12_could_6 l adK adV dC dI cy ad B (by omega) (by omega) qr s1   r161 (show 0 ≤ r161.toInt by omega) (show r161.toInt ≤ 9 by omega) w150 H.size hT ) (cwV 4 hC.2.2.2.2 gX12_questions_X12_could rfl rfl rfl (by decide +kernel) ⟨Nat.le_of_ble_eq_true rfl, Nat.le_of_ble_eq_true rfl⟩) rfl hl.1 rfl (Nat.le_of_ble_eq_true rfl) dX12_questions_60 (fun w183 H locs hp182 hw => ?_)
          obtain ⟨hT, k184, hg185⟩ := hp182
          have hF := hF.tr k184 (by decide)
          have c186 := k184.gi kM_at12 (by decide) c159
          have c187 := k184.gi kM_at12 rfl c167
          clear hg185
          refine lv_ldcw (v := 100000000) hx hb hC.2.2.2.1 (hC.2.2.2.2 _ (List.mem_of_getElem? (i := 3) rfl)) dX12_questions_63 ?_
          refine lv_istore_n (lv' := [(3, .int 100000000), (0, .ref (ad 0)), (1, .int a1), (2, .int a2)]) hx hb dX12_questions_66 rfl hl (by decide) rfl (fun ls hl => ?_)
          refine lv_iconst (v := 0) hx hb dX12_questions_67 (by decide) ?_
          refine lv_istore (lv' := [(4, .int 0), (3, .int 100000000), (0, .ref (ad 0)), (1, .int a1), (2, .int a2)]) hx hb dX12_questions_68 hl (by decide) rfl (fun ls hl => ?_)
          exact L70 ((121 - (0 : Int)).toNat + 1) 100000000 0 r161 f24_12_5 H locs ls w183 (show 0 ≤ a1.toInt by omega) (show a1.toInt ≤ 3 by omega) (show 0 ≤ a2.toInt by omega) (show a2.toInt ≤ 120 by omega) (by decide) (by decide) (by decide) (show 0 ≤ r161.toInt by omega) (show r161.toInt ≤ 9 by omega) (show 1 ≤ f24_12_5.toInt by omega) (show f24_12_5.toInt ≤ 4 by omega) (Nat.lt_succ_self _) hw hT hF c187 c186 (lv_sub hl [2, 3, 4, 1, 0] rfl)
      · have c160 : v24_3.toInt < (2600 : Int) := wk_leF c160
        refine lv_aload_n hx hb dX12_questions_31 rfl (lv_at hl 0 rfl) ?_
        refine tk_getA hC hK hw hT hinX12 kM_at0 (by decide) rfl 34 (by decide) (List.mem_of_getElem? (i := 2) rfl) rfl rfl dX12_questions_32 ?_
        refine lv_iload_n hx hb dX12_questions_35 rfl (lv_at hl 3 rfl) ?_
        refine lv_ldcw (v := 100000000) hx hb hC.2.2.2.1 (hC.2.2.2.2 _ (List.mem_of_getElem? (i := 3) rfl)) dX12_questions_36 ?_
        refine tk_iast hC hK hw hT kM_at17 (by decide) rfl rfl (show 0 ≤ v24_3.toInt by omega) (show v24_3.toInt < 2600 by omega) (by decide) (by decide) dX12_questions_39 (fun H locs w188 hw hT k190 c189 => ?_)
        have hF := hF.put kM_at17 (inE_of (a := 0) (b := 2600) (by decide) (show 0 ≤ v24_3.toInt.toNat by omega) (show v24_3.toInt.toNat ≤ 2600 by omega)) k190
        have c191 := k190.gi (Or.inl (tk_ne kM_at12 kM_at17 (by decide))) c159
        obtain ⟨x192, ex192⟩ : ∃ y : Int32, y = v24_3 + Int32.ofInt 1 := ⟨_, rfl⟩
        refine lv_iinc (v := x192) (lv' := [(3, .int x192), (0, .ref (ad 0)), (1, .int a1), (2, .int a2)]) hx hb dX12_questions_40 hl (k := 3) rfl ex192.symm (by decide) rfl (fun ls hl => ?_)
        have ex192 : x192.toInt = v24_3.toInt + 1 := by rw [ex192]; exact wk_add (y := 1) (show -2147483648 ≤ v24_3.toInt + 1 by omega) (show v24_3.toInt + 1 ≤ 2147483647 by omega)
        refine lv_goto (tgt := 24) hx hb dX12_questions_43 (by decide) ?_
        exact ih24 x192 f24_12_5 H locs ls w188 (show 0 ≤ a1.toInt by omega) (show a1.toInt ≤ 3 by omega) (show 0 ≤ a2.toInt by omega) (show a2.toInt ≤ 120 by omega) (show 0 ≤ x192.toInt by omega) (show x192.toInt ≤ 2600 by omega) (show 1 ≤ f24_12_5.toInt by omega) (show f24_12_5.toInt ≤ 4 by omega) (show (2600 - x192.toInt).toNat < n24 by omega) hw hT hF c191 (lv_sub hl [1, 2, 3, 0] rfl)
  refine lv_aload_n hx hb dX12_questions_0 rfl (lv_at hl 0 rfl) ?_
  refine lv_iload_n hx hb dX12_questions_1 rfl (lv_at hl 1 rfl) ?_
  refine tk_Vi hC hK hw hT hA hE hSR kM_at0 (by decide) rfl (k_X12_isWalker_1 l adK adV dC dI cy ad B (by omega) (by omega) qr s1   a1 w0 s.heap.size hT ) (cwV 1 hC.2.2.2.2 gX12_questions_X12_isWalker rfl rfl rfl (by decide +kernel) ⟨Nat.le_of_ble_eq_true rfl, Nat.le_of_ble_eq_true rfl⟩) rfl hl.1 rfl (Nat.le_of_ble_eq_true rfl) dX12_questions_2 (fun r193 w195 H locs hp194 hw => ?_)
  obtain ⟨rfl, hg201⟩ := hp194
  rcases hg201 with rfl | ⟨rfl, g197, g198, ⟨x199, c200, rx199, tx199⟩⟩
  · refine lv_if_eq (tgt := 20) hx hb dX12_questions_5 (by decide) (fun _ => ?_) (fun c => absurd (by decide) c)
    exact J20  H locs ls w0   hw hT hF  (lv_sub hl [0, 1, 2] rfl)
  · refine lv_if_eq (tgt := 20) hx hb dX12_questions_5 (by decide) (fun c => absurd c (by decide)) (fun _ => ?_)
    refine lv_iload_n hx hb dX12_questions_8 rfl (lv_at hl 2 rfl) ?_
    refine lv_i2l hx hb dX12_questions_9 rfl ?_
    refine lv_topl (fun x202 ex202 => ?_)
    have ex202 : x202.toInt = a2.toInt := by rw [ex202]; exact wk_i2l _
    have bx202 := wk_i32 a2
    refine lv_lconst (v := 0) hx hb dX12_questions_10 (by decide) ?_
    refine lv_ldc2 (v := 120) hx hb hC.2.2.2.1 (hC.2.2.2.2 _ (List.mem_of_getElem? (i := 1) rfl)) dX12_questions_11 ?_
    refine tk_Si hC hK hw hT hA hE hSR (k_X12_in_14 l adK adV dC dI cy ad B (by omega) (by omega) qr s1   x202 (show (-2147483648) ≤ x202.toInt by omega) (show x202.toInt ≤ 2147483647 by omega) w0 H.size hT ) (va_cwS 3 hC.2.2.2.2 gX12_questions_X12_in rfl rfl rfl (by decide +kernel) ⟨Nat.le_of_ble_eq_true rfl, Nat.le_of_ble_eq_true rfl⟩) rfl hl.1 rfl (Nat.le_of_ble_eq_true rfl) dX12_questions_14 (fun r203 w205 H locs hp204 hw => ?_)
    obtain ⟨rfl, hg209⟩ := hp204
    rcases hg209 with rfl | ⟨rfl, g207, g208⟩
    · refine lv_if_ne (tgt := 22) hx hb dX12_questions_17 (by decide) (fun c => absurd (by decide) c) (fun _ => ?_)
      exact J20  H locs ls w0   hw hT hF  (lv_sub hl [0, 1, 2] rfl)
    · refine lv_if_ne (tgt := 22) hx hb dX12_questions_17 (by decide) (fun _ => ?_) (fun c => absurd c (by decide))
      refine lv_iconst (v := 0) hx hb dX12_questions_22 (by decide) ?_
      refine lv_istore_n (lv' := [(3, .int 0), (0, .ref (ad 0)), (1, .int a1), (2, .int a2)]) hx hb dX12_questions_23 rfl hl (by decide) rfl (fun ls hl => ?_)
      exact L24 ((2600 - (0 : Int)).toNat + 1) 0 x199 H locs ls w0 (show 0 ≤ a1.toInt by omega) (show a1.toInt ≤ 3 by omega) (show 0 ≤ a2.toInt by omega) (show a2.toInt ≤ 120 by omega) (by decide) (by decide) (show 1 ≤ x199.toInt by omega) (show x199.toInt ≤ 4 by omega) (Nat.lt_succ_self _) hw hT hF c200 (lv_sub hl [1, 2, 3, 0] rfl)
abbrev P_X12_cheapOf_1 (ad : Nat → Nat) (cy : Nat → ClassId) (B : Int) (qr : Nat) (s1 : Int) (a1 : Int32) (w0 : va_W) : Int32 → va_W → Prop := fun r u => w0 = u ∧ ((0 ≤ r.toInt ∧ r.toInt ≤ 3))
set_option maxHeartbeats 4000000 in
set_option maxRecDepth 100000 in
theorem k_X12_cheapOf_1 (l : Launch) (adK adV : Nat → Nat) (dC : Nat → ClassId) (dI : Nat → Nat → Nat) (cy : Nat → ClassId) (ad : Nat → Nat) (B : Int) (hB0 : 100000 ≤ B) (hB1 : B ≤ 1073741824) (qr : Nat) (s1 : Int)  (a1 : Int32) (ra1 : 0 ≤ a1.toInt) (ta1 : a1.toInt ≤ 11) (w0 : va_W) (sz : Nat) (hT : TW ksM ad cy B qr 12 w0)  : Met l yX12_cheapOf wsX12_cheapOf ({ frames := 2, cells := 0, slots := 0, locals := 34 }) (va_Pc [.ref (ad 0), .int a1] (wpreS adK adV dC dI cy sz w0)) (va_Qi (P_X12_cheapOf_1 ad cy B qr s1 a1 w0) (fun u : va_W => wpost dC dI cy (va_A w0 sz) u) (va_A w0 sz)) 0 0 (va_A w0 sz) := by
  refine Met.ofW (cc := cX12_cheapOf) (maxL := 7) (ret := (some .int)) (by decide) rfl ?_
  intro p e s m args below meth c s₁ Bk hml hv
  obtain ⟨rfl, ⟨hsz, hP, hK, hD0⟩, hE, hSR⟩ := hv
  have hx := Bk.exec
  have hb := Bk.bytes
  have hr := Bk.returns
  have hlocks := Bk.notSynchronized
  have hC : CallFix p m c cX12_cheapOf 7 s _ wsX12_cheapOf RX12 := ⟨hx, hb, hml, findClass_of_methodNamed Bk.named, atoms_spec (ws := wsX12_cheapOf) Bk.pre⟩
  subst hsz
  have hD := hD0.self (sz := s.heap.size)
  generalize hAe : va_A w0 s.heap.size = A at hD hE ⊢
  have hA : ∀ q : Nat, s.heap.size ≤ q → A q := fun q h => by rw [← hAe]; exact Or.inr h
  have hw : Wd dC dI A s.heap s.heap [] w0 := ⟨hP, hD, va_S.rf⟩
  have hF : FE ksM ([] : List (Nat × Nat × Nat)) w0 w0 := FE.rf
  have hl := lv_entry ([.ref (ad 0), .int a1]) (n := 7) (Nat.le_of_ble_eq_true rfl)
  rw [lg_entry_eq]
  generalize (lg_sl ([.ref (ad 0), .int a1]) ++ List.replicate (7 - (lg_sl ([.ref (ad 0), .int a1])).length) Slot.unset).toArray = ls at hl ⊢
  have hl : lv_has ls 7 [(0, .ref (ad 0)), (1, .int a1)] := hl
  generalize hloc : ([] : List Loc) = locs at hw ⊢
  have L7 : ∀ (n7 : Nat) (v7_2 : Int32) (v7_3 : Int32) (v7_4 : Int32) (H : Heap) (locs : List Loc) (ls : Array Slot), 0 ≤ a1.toInt → a1.toInt ≤ 11 → 0 ≤ v7_2.toInt → v7_2.toInt ≤ 3 → (-1) ≤ v7_3.toInt → 0 ≤ v7_4.toInt → v7_4.toInt ≤ 4 → (4 - v7_4.toInt).toNat < n7 → Wd dC dI A s.heap H locs w0 → lv_has ls 7 [(0, .ref (ad 0)), (1, .int a1), (2, .int v7_2), (3, .int v7_3), (4, .int v7_4)] → W p l e ({ frames := 2, cells := 0, slots := 0, locals := 34 }) s m (List.toArray [.ref (ad 0), .int a1]) below meth c H locs 0 0 (MQ below (va_Qi (P_X12_cheapOf_1 ad cy B qr s1 a1 w0) (fun u : va_W => wpost dC dI cy A u) A) (List.toArray [.ref (ad 0), .int a1]) s 0 0 A) (F0 m 7 ls []) := by
    intro n7
    induction n7 with
    | zero => intro v7_2 v7_3 v7_4 H locs ls r1 t2 r3 t4 r5 r6 t7 hm7 hw hl; omega
    | succ n7 ih7 =>
      intro v7_2 v7_3 v7_4 H locs ls r1 t2 r3 t4 r5 r6 t7 hm7 hw hl
      have L19 : ∀ (n19 : Nat) (v19_5 : Int32) (v19_6 : Int32) (H : Heap) (locs : List Loc) (ls : Array Slot), 0 ≤ a1.toInt → a1.toInt ≤ 11 → 0 ≤ v7_2.toInt → v7_2.toInt ≤ 3 → (-1) ≤ v7_3.toInt → 0 ≤ v7_4.toInt → v7_4.toInt ≤ 3 → 0 ≤ v19_6.toInt → v19_6.toInt ≤ 7 → (7 - v19_6.toInt).toNat < n19 → Wd dC dI A s.heap H locs w0 → lv_has ls 7 [(0, .ref (ad 0)), (1, .int a1), (2, .int v7_2), (3, .int v7_3), (4, .int v7_4), (5, .int v19_5), (6, .int v19_6)] → W p l e ({ frames := 2, cells := 0, slots := 0, locals := 34 }) s m (List.toArray [.ref (ad 0), .int a1]) below meth c H locs 0 0 (MQ below (va_Qi (P_X12_cheapOf_1 ad cy B qr s1 a1 w0) (fun u : va_W => wpost dC dI cy A u) A) (List.toArray [.ref (ad 0), .int a1]) s 0 0 A) (F0 m 19 ls []) := by
        intro n19
        induction n19 with
        | zero => intro v19_5 v19_6 H locs ls r8 t9 r10 t11 r12 r13 t14 r15 t16 hm19 hw hl; omega
        | succ n19 ih19 =>
          intro v19_5 v19_6 H locs ls r8 t9 r10 t11 r12 r13 t14 r15 t16 hm19 hw hl
          refine lv_iload hx hb dX12_cheapOf_19 (lv_at hl 6 rfl) ?_
          refine lv_bipush (v := 7) hx hb dX12_cheapOf_21 (by decide) ?_
          refine lv_icmp_ge (tgt := 56) hx hb dX12_cheapOf_23 (by decide) (fun c17 => ?_) (fun c17 => ?_)
          · have c17 : (7 : Int) ≤ v19_6.toInt := wk_le.mp c17
            refine lv_iload hx hb dX12_cheapOf_56 (lv_at hl 5 rfl) ?_
            refine lv_iload_n hx hb dX12_cheapOf_58 rfl (lv_at hl 3 rfl) ?_
            refine lv_icmp_le (tgt := 67) hx hb dX12_cheapOf_59 (by decide) (fun c18 => ?_) (fun c18 => ?_)
            · have c18 : v19_5.toInt ≤ v7_3.toInt := wk_le.mp c18
              refine lv_iload_n hx hb dX12_cheapOf_67 rfl (lv_at hl 2 rfl) ?_
              refine lv_istore_n (lv' := [(2, .int v7_2), (0, .ref (ad 0)), (1, .int a1), (3, .int v7_3), (4, .int v7_4), (5, .int v19_5), (6, .int v19_6)]) hx hb dX12_cheapOf_68 rfl hl (by decide) rfl (fun ls hl => ?_)
              refine lv_iload hx hb dX12_cheapOf_69 (lv_at hl 5 rfl) ?_
              refine lv_iload_n hx hb dX12_cheapOf_71 rfl (lv_at hl 3 rfl) ?_
              refine lv_icmp_le (tgt := 80) hx hb dX12_cheapOf_72 (by decide) (fun c19 => ?_) (fun c19 => ?_)
              · have c19 : v19_5.toInt ≤ v7_3.toInt := wk_le.mp c19
                refine lv_iload_n hx hb dX12_cheapOf_80 rfl (lv_at hl 3 rfl) ?_
                refine lv_istore_n (lv' := [(3, .int v7_3), (2, .int v7_2), (0, .ref (ad 0)), (1, .int a1), (4, .int v7_4), (5, .int v19_5), (6, .int v19_6)]) hx hb dX12_cheapOf_81 rfl hl (by decide) rfl (fun ls hl => ?_)
                obtain ⟨x20, ex20⟩ : ∃ y : Int32, y = v7_4 + Int32.ofInt 1 := ⟨_, rfl⟩
                refine lv_iinc (v := x20) (lv' := [(4, .int x20), (3, .int v7_3), (2, .int v7_2), (0, .ref (ad 0)), (1, .int a1), (5, .int v19_5), (6, .int v19_6)]) hx hb dX12_cheapOf_82 hl (k := 4) rfl ex20.symm (by decide) rfl (fun ls hl => ?_)
                have ex20 : x20.toInt = v7_4.toInt + 1 := by rw [ex20]; exact wk_add (y := 1) (show -2147483648 ≤ v7_4.toInt + 1 by omega) (show v7_4.toInt + 1 ≤ 2147483647 by omega)
                refine lv_goto (tgt := 7) hx hb dX12_cheapOf_85 (by decide) ?_
                exact ih7 v7_2 v7_3 x20 H locs ls  (show 0 ≤ a1.toInt by omega) (show a1.toInt ≤ 11 by omega) (show 0 ≤ v7_2.toInt by omega) (show v7_2.toInt ≤ 3 by omega) (show (-1) ≤ v7_3.toInt by omega) (show 0 ≤ x20.toInt by omega) (show x20.toInt ≤ 4 by omega) (show (4 - x20.toInt).toNat < n7 by omega) hw   (lv_sub hl [3, 4, 2, 1, 0] rfl)
              · have c19 : v7_3.toInt < v19_5.toInt := wk_leF c19
                refine lv_iload hx hb dX12_cheapOf_75 (lv_at hl 5 rfl) ?_
                refine lv_goto (tgt := 81) hx hb dX12_cheapOf_77 (by decide) ?_
                refine lv_istore_n (lv' := [(3, .int v19_5), (2, .int v7_2), (0, .ref (ad 0)), (1, .int a1), (4, .int v7_4), (5, .int v19_5), (6, .int v19_6)]) hx hb dX12_cheapOf_81 rfl hl (by decide) rfl (fun ls hl => ?_)
                obtain ⟨x21, ex21⟩ : ∃ y : Int32, y = v7_4 + Int32.ofInt 1 := ⟨_, rfl⟩
                refine lv_iinc (v := x21) (lv' := [(4, .int x21), (3, .int v19_5), (2, .int v7_2), (0, .ref (ad 0)), (1, .int a1), (5, .int v19_5), (6, .int v19_6)]) hx hb dX12_cheapOf_82 hl (k := 4) rfl ex21.symm (by decide) rfl (fun ls hl => ?_)
                have ex21 : x21.toInt = v7_4.toInt + 1 := by rw [ex21]; exact wk_add (y := 1) (show -2147483648 ≤ v7_4.toInt + 1 by omega) (show v7_4.toInt + 1 ≤ 2147483647 by omega)
                refine lv_goto (tgt := 7) hx hb dX12_cheapOf_85 (by decide) ?_
                exact ih7 v7_2 v19_5 x21 H locs ls  (show 0 ≤ a1.toInt by omega) (show a1.toInt ≤ 11 by omega) (show 0 ≤ v7_2.toInt by omega) (show v7_2.toInt ≤ 3 by omega) (show (-1) ≤ v19_5.toInt by omega) (show 0 ≤ x21.toInt by omega) (show x21.toInt ≤ 4 by omega) (show (4 - x21.toInt).toNat < n7 by omega) hw   (lv_sub hl [3, 4, 2, 1, 0] rfl)
            · have c18 : v7_3.toInt < v19_5.toInt := wk_leF c18
              refine lv_iload hx hb dX12_cheapOf_62 (lv_at hl 4 rfl) ?_
              refine lv_goto (tgt := 68) hx hb dX12_cheapOf_64 (by decide) ?_
              refine lv_istore_n (lv' := [(2, .int v7_4), (0, .ref (ad 0)), (1, .int a1), (3, .int v7_3), (4, .int v7_4), (5, .int v19_5), (6, .int v19_6)]) hx hb dX12_cheapOf_68 rfl hl (by decide) rfl (fun ls hl => ?_)
              refine lv_iload hx hb dX12_cheapOf_69 (lv_at hl 5 rfl) ?_
              refine lv_iload_n hx hb dX12_cheapOf_71 rfl (lv_at hl 3 rfl) ?_
              refine lv_icmp_le (tgt := 80) hx hb dX12_cheapOf_72 (by decide) (fun c22 => ?_) (fun c22 => ?_)
              · have c22 : v19_5.toInt ≤ v7_3.toInt := wk_le.mp c22
                refine lv_iload_n hx hb dX12_cheapOf_80 rfl (lv_at hl 3 rfl) ?_
                refine lv_istore_n (lv' := [(3, .int v7_3), (2, .int v7_4), (0, .ref (ad 0)), (1, .int a1), (4, .int v7_4), (5, .int v19_5), (6, .int v19_6)]) hx hb dX12_cheapOf_81 rfl hl (by decide) rfl (fun ls hl => ?_)
                obtain ⟨x23, ex23⟩ : ∃ y : Int32, y = v7_4 + Int32.ofInt 1 := ⟨_, rfl⟩
                refine lv_iinc (v := x23) (lv' := [(4, .int x23), (3, .int v7_3), (2, .int v7_4), (0, .ref (ad 0)), (1, .int a1), (5, .int v19_5), (6, .int v19_6)]) hx hb dX12_cheapOf_82 hl (k := 4) rfl ex23.symm (by decide) rfl (fun ls hl => ?_)
                have ex23 : x23.toInt = v7_4.toInt + 1 := by rw [ex23]; exact wk_add (y := 1) (show -2147483648 ≤ v7_4.toInt + 1 by omega) (show v7_4.toInt + 1 ≤ 2147483647 by omega)
                refine lv_goto (tgt := 7) hx hb dX12_cheapOf_85 (by decide) ?_
                exact ih7 v7_4 v7_3 x23 H locs ls  (show 0 ≤ a1.toInt by omega) (show a1.toInt ≤ 11 by omega) (show 0 ≤ v7_4.toInt by omega) (show v7_4.toInt ≤ 3 by omega) (show (-1) ≤ v7_3.toInt by omega) (show 0 ≤ x23.toInt by omega) (show x23.toInt ≤ 4 by omega) (show (4 - x23.toInt).toNat < n7 by omega) hw   (lv_sub hl [3, 4, 2, 1, 0] rfl)
              · have c22 : v7_3.toInt < v19_5.toInt := wk_leF c22
                refine lv_iload hx hb dX12_cheapOf_75 (lv_at hl 5 rfl) ?_
                refine lv_goto (tgt := 81) hx hb dX12_cheapOf_77 (by decide) ?_
                refine lv_istore_n (lv' := [(3, .int v19_5), (2, .int v7_4), (0, .ref (ad 0)), (1, .int a1), (4, .int v7_4), (5, .int v19_5), (6, .int v19_6)]) hx hb dX12_cheapOf_81 rfl hl (by decide) rfl (fun ls hl => ?_)
                obtain ⟨x24, ex24⟩ : ∃ y : Int32, y = v7_4 + Int32.ofInt 1 := ⟨_, rfl⟩
                refine lv_iinc (v := x24) (lv' := [(4, .int x24), (3, .int v19_5), (2, .int v7_4), (0, .ref (ad 0)), (1, .int a1), (5, .int v19_5), (6, .int v19_6)]) hx hb dX12_cheapOf_82 hl (k := 4) rfl ex24.symm (by decide) rfl (fun ls hl => ?_)
                have ex24 : x24.toInt = v7_4.toInt + 1 := by rw [ex24]; exact wk_add (y := 1) (show -2147483648 ≤ v7_4.toInt + 1 by omega) (show v7_4.toInt + 1 ≤ 2147483647 by omega)
                refine lv_goto (tgt := 7) hx hb dX12_cheapOf_85 (by decide) ?_
                exact ih7 v7_4 v19_5 x24 H locs ls  (show 0 ≤ a1.toInt by omega) (show a1.toInt ≤ 11 by omega) (show 0 ≤ v7_4.toInt by omega) (show v7_4.toInt ≤ 3 by omega) (show (-1) ≤ v19_5.toInt by omega) (show 0 ≤ x24.toInt by omega) (show x24.toInt ≤ 4 by omega) (show (4 - x24.toInt).toNat < n7 by omega) hw   (lv_sub hl [3, 4, 2, 1, 0] rfl)
          · have c17 : v19_6.toInt < (7 : Int) := wk_leF c17
            refine lv_iload hx hb dX12_cheapOf_26 (lv_at hl 5 rfl) ?_
            refine lv_aload_n hx hb dX12_cheapOf_28 rfl (lv_at hl 0 rfl) ?_
            refine lv_iload_n hx hb dX12_cheapOf_29 rfl (lv_at hl 1 rfl) ?_
            refine lv_iconst (v := 3) hx hb dX12_cheapOf_30 (by decide) ?_
            refine lv_iload hx hb dX12_cheapOf_31 (lv_at hl 6 rfl) ?_
            refine lv_iadd hx hb dX12_cheapOf_33 ?_
            refine lv_topi (fun x25 ex25 => ?_)
            have ex25 : x25.toInt = (3 : Int) + v19_6.toInt := by rw [ex25]; exact wk_add (show (-2147483648) ≤ (3 : Int) + v19_6.toInt by omega) (show (3 : Int) + v19_6.toInt ≤ 2147483647 by omega)
            refine tk_Vi hC hK hw hT hA hE hSR kM_at0 (by decide) rfl (k_X12_streetOf_4 l adK adV dC dI cy ad B (by omega) (by omega) qr s1   a1 (show 0 ≤ a1.toInt by omega) (show a1.toInt ≤ 11 by omega) x25 (show 3 ≤ x25.toInt by omega) (show x25.toInt ≤ 9 by omega) w0 H.size hT ) (cwV 2 hC.2.2.2.2 gX12_cheapOf_X12_streetOf rfl rfl rfl (by decide +kernel) ⟨Nat.le_of_ble_eq_true rfl, Nat.le_of_ble_eq_true rfl⟩) rfl hl.1 rfl (Nat.le_of_ble_eq_true rfl) dX12_cheapOf_34 (fun r26 w28 H locs hp27 hw => ?_)
            obtain ⟨rfl, hg32⟩ := hp27
            obtain ⟨g30, g31⟩ := hg32
            refine lv_iload hx hb dX12_cheapOf_37 (lv_at hl 4 rfl) ?_
            refine lv_icmp_ne (tgt := 46) hx hb dX12_cheapOf_39 (by decide) (fun c33 => ?_) (fun c33 => ?_)
            · have c33 : ¬ r26.toInt = v7_4.toInt := wk_eqF c33
              refine lv_iconst (v := 0) hx hb dX12_cheapOf_46 (by decide) ?_
              refine lv_iadd hx hb dX12_cheapOf_47 ?_
              have nx34 := wk_i32 v19_5
              refine lv_topi (fun x35 ex35 => ?_)
              have ex35 : x35.toInt = v19_5.toInt + (0 : Int) := by rw [ex35]; exact wk_add (show (-2147483648) ≤ v19_5.toInt + (0 : Int) by omega) (show v19_5.toInt + (0 : Int) ≤ 2147483647 by omega)
              refine lv_istore (lv' := [(5, .int x35), (0, .ref (ad 0)), (1, .int a1), (2, .int v7_2), (3, .int v7_3), (4, .int v7_4), (6, .int v19_6)]) hx hb dX12_cheapOf_48 hl (by decide) rfl (fun ls hl => ?_)
              obtain ⟨x36, ex36⟩ : ∃ y : Int32, y = v19_6 + Int32.ofInt 1 := ⟨_, rfl⟩
              refine lv_iinc (v := x36) (lv' := [(6, .int x36), (5, .int x35), (0, .ref (ad 0)), (1, .int a1), (2, .int v7_2), (3, .int v7_3), (4, .int v7_4)]) hx hb dX12_cheapOf_50 hl (k := 6) rfl ex36.symm (by decide) rfl (fun ls hl => ?_)
              have ex36 : x36.toInt = v19_6.toInt + 1 := by rw [ex36]; exact wk_add (y := 1) (show -2147483648 ≤ v19_6.toInt + 1 by omega) (show v19_6.toInt + 1 ≤ 2147483647 by omega)
              refine lv_goto (tgt := 19) hx hb dX12_cheapOf_53 (by decide) ?_
              exact ih19 x35 x36 H locs ls  (show 0 ≤ a1.toInt by omega) (show a1.toInt ≤ 11 by omega) (show 0 ≤ v7_2.toInt by omega) (show v7_2.toInt ≤ 3 by omega) (show (-1) ≤ v7_3.toInt by omega) (show 0 ≤ v7_4.toInt by omega) (show v7_4.toInt ≤ 3 by omega) (show 0 ≤ x36.toInt by omega) (show x36.toInt ≤ 7 by omega) (show (7 - x36.toInt).toNat < n19 by omega) hw   (lv_sub hl [2, 3, 4, 5, 6, 1, 0] rfl)
            · have c33 : r26.toInt = v7_4.toInt := wk_eq.mp c33
              refine lv_iconst (v := 1) hx hb dX12_cheapOf_42 (by decide) ?_
              refine lv_goto (tgt := 47) hx hb dX12_cheapOf_43 (by decide) ?_
              refine lv_iadd hx hb dX12_cheapOf_47 ?_
              have nx37 := wk_i32 v19_5
              refine lv_topi (fun x38 ex38 => ?_)
              refine lv_istore (lv' := [(5, .int x38), (0, .ref (ad 0)), (1, .int a1), (2, .int v7_2), (3, .int v7_3), (4, .int v7_4), (6, .int v19_6)]) hx hb dX12_cheapOf_48 hl (by decide) rfl (fun ls hl => ?_)
              obtain ⟨x39, ex39⟩ : ∃ y : Int32, y = v19_6 + Int32.ofInt 1 := ⟨_, rfl⟩
              refine lv_iinc (v := x39) (lv' := [(6, .int x39), (5, .int x38), (0, .ref (ad 0)), (1, .int a1), (2, .int v7_2), (3, .int v7_3), (4, .int v7_4)]) hx hb dX12_cheapOf_50 hl (k := 6) rfl ex39.symm (by decide) rfl (fun ls hl => ?_)
              have ex39 : x39.toInt = v19_6.toInt + 1 := by rw [ex39]; exact wk_add (y := 1) (show -2147483648 ≤ v19_6.toInt + 1 by omega) (show v19_6.toInt + 1 ≤ 2147483647 by omega)
              refine lv_goto (tgt := 19) hx hb dX12_cheapOf_53 (by decide) ?_
              exact ih19 x38 x39 H locs ls  (show 0 ≤ a1.toInt by omega) (show a1.toInt ≤ 11 by omega) (show 0 ≤ v7_2.toInt by omega) (show v7_2.toInt ≤ 3 by omega) (show (-1) ≤ v7_3.toInt by omega) (show 0 ≤ v7_4.toInt by omega) (show v7_4.toInt ≤ 3 by omega) (show 0 ≤ x39.toInt by omega) (show x39.toInt ≤ 7 by omega) (show (7 - x39.toInt).toNat < n19 by omega) hw   (lv_sub hl [2, 3, 4, 5, 6, 1, 0] rfl)
      refine lv_iload hx hb dX12_cheapOf_7 (lv_at hl 4 rfl) ?_
      refine lv_iconst (v := 4) hx hb dX12_cheapOf_9 (by decide) ?_
      refine lv_icmp_ge (tgt := 88) hx hb dX12_cheapOf_10 (by decide) (fun c40 => ?_) (fun c40 => ?_)
      · have c40 : (4 : Int) ≤ v7_4.toInt := wk_le.mp c40
        refine lv_iload_n hx hb dX12_cheapOf_88 rfl (lv_at hl 2 rfl) ?_
        exact tk_iret hC hr hlocks hK ⟨rfl, ⟨(show 0 ≤ v7_2.toInt by omega), (show v7_2.toInt ≤ 3 by omega)⟩⟩ hw dX12_cheapOf_89
      · have c40 : v7_4.toInt < (4 : Int) := wk_leF c40
        refine lv_iconst (v := 0) hx hb dX12_cheapOf_13 (by decide) ?_
        refine lv_istore (lv' := [(5, .int 0), (0, .ref (ad 0)), (1, .int a1), (2, .int v7_2), (3, .int v7_3), (4, .int v7_4)]) hx hb dX12_cheapOf_14 hl (by decide) rfl (fun ls hl => ?_)
        refine lv_iconst (v := 0) hx hb dX12_cheapOf_16 (by decide) ?_
        refine lv_istore (lv' := [(6, .int 0), (5, .int 0), (0, .ref (ad 0)), (1, .int a1), (2, .int v7_2), (3, .int v7_3), (4, .int v7_4)]) hx hb dX12_cheapOf_17 hl (by decide) rfl (fun ls hl => ?_)
        exact L19 ((7 - (0 : Int)).toNat + 1) 0 0 H locs ls  (show 0 ≤ a1.toInt by omega) (show a1.toInt ≤ 11 by omega) (show 0 ≤ v7_2.toInt by omega) (show v7_2.toInt ≤ 3 by omega) (show (-1) ≤ v7_3.toInt by omega) (show 0 ≤ v7_4.toInt by omega) (show v7_4.toInt ≤ 3 by omega) (by decide) (by decide) (Nat.lt_succ_self _) hw   (lv_sub hl [2, 3, 4, 5, 6, 1, 0] rfl)
  refine lv_iconst (v := 0) hx hb dX12_cheapOf_0 (by decide) ?_
  refine lv_istore_n (lv' := [(2, .int 0), (0, .ref (ad 0)), (1, .int a1)]) hx hb dX12_cheapOf_1 rfl hl (by decide) rfl (fun ls hl => ?_)
  refine lv_iconst (v := (-1)) hx hb dX12_cheapOf_2 (by decide) ?_
  refine lv_istore_n (lv' := [(3, .int (-1)), (2, .int 0), (0, .ref (ad 0)), (1, .int a1)]) hx hb dX12_cheapOf_3 rfl hl (by decide) rfl (fun ls hl => ?_)
  refine lv_iconst (v := 0) hx hb dX12_cheapOf_4 (by decide) ?_
  refine lv_istore (lv' := [(4, .int 0), (3, .int (-1)), (2, .int 0), (0, .ref (ad 0)), (1, .int a1)]) hx hb dX12_cheapOf_5 hl (by decide) rfl (fun ls hl => ?_)
  exact L7 ((4 - (0 : Int)).toNat + 1) 0 (-1) 0 s.heap locs ls  (show 0 ≤ a1.toInt by omega) (show a1.toInt ≤ 11 by omega) (by decide) (by decide) (by decide) (by decide) (by decide) (Nat.lt_succ_self _) hw   (lv_sub hl [3, 4, 2, 1, 0] rfl)
abbrev P_X12_cheap_1 (ad : Nat → Nat) (cy : Nat → ClassId) (B : Int) (qr : Nat) (s1 : Int) (a1 : Int32) (w0 : va_W) : Int32 → va_W → Prop := fun r u => w0 = u ∧ ((0 ≤ r.toInt ∧ r.toInt ≤ 3 ∧ 0 ≤ a1.toInt ∧ a1.toInt ≤ 11 ∧ (∃ y : Int32, gi u 12 1 = y ∧ 1 ≤ y.toInt ∧ y.toInt ≤ 12)) ∨ (r = (-1)))
set_option maxHeartbeats 4000000 in
set_option maxRecDepth 100000 in
theorem k_X12_cheap_1 (l : Launch) (adK adV : Nat → Nat) (dC : Nat → ClassId) (dI : Nat → Nat → Nat) (cy : Nat → ClassId) (ad : Nat → Nat) (B : Int) (hB0 : 100000 ≤ B) (hB1 : B ≤ 1073741824) (qr : Nat) (s1 : Int)  (a1 : Int32) (w0 : va_W) (sz : Nat) (hT : TW ksM ad cy B qr 12 w0)  : Met l yX12_cheap wsX12_cheap ({ frames := 3, cells := 0, slots := 0, locals := 60 }) (va_Pc [.ref (ad 0), .int a1] (wpreS adK adV dC dI cy sz w0)) (va_Qi (P_X12_cheap_1 ad cy B qr s1 a1 w0) (fun u : va_W => wpost dC dI cy (va_A w0 sz) u) (va_A w0 sz)) 0 0 (va_A w0 sz) := by
  refine Met.ofW (cc := cX12_cheap) (maxL := 2) (ret := (some .int)) (by decide) rfl ?_
  intro p e s m args below meth c s₁ Bk hml hv
  obtain ⟨rfl, ⟨hsz, hP, hK, hD0⟩, hE, hSR⟩ := hv
  have hx := Bk.exec
  have hb := Bk.bytes
  have hr := Bk.returns
  have hlocks := Bk.notSynchronized
  have hC : CallFix p m c cX12_cheap 2 s _ wsX12_cheap RX12 := ⟨hx, hb, hml, findClass_of_methodNamed Bk.named, atoms_spec (ws := wsX12_cheap) Bk.pre⟩
  subst hsz
  have hD := hD0.self (sz := s.heap.size)
  generalize hAe : va_A w0 s.heap.size = A at hD hE ⊢
  have hA : ∀ q : Nat, s.heap.size ≤ q → A q := fun q h => by rw [← hAe]; exact Or.inr h
  have hw : Wd dC dI A s.heap s.heap [] w0 := ⟨hP, hD, va_S.rf⟩
  have hF : FE ksM ([] : List (Nat × Nat × Nat)) w0 w0 := FE.rf
  have hl := lv_entry ([.ref (ad 0), .int a1]) (n := 2) (Nat.le_of_ble_eq_true rfl)
  rw [lg_entry_eq]
  generalize (lg_sl ([.ref (ad 0), .int a1]) ++ List.replicate (2 - (lg_sl ([.ref (ad 0), .int a1])).length) Slot.unset).toArray = ls at hl ⊢
  have hl : lv_has ls 2 [(0, .ref (ad 0)), (1, .int a1)] := hl
  generalize hloc : ([] : List Loc) = locs at hw ⊢
  refine lv_aload_n hx hb dX12_cheap_0 rfl (lv_at hl 0 rfl) ?_
  refine lv_iload_n hx hb dX12_cheap_1 rfl (lv_at hl 1 rfl) ?_
  refine tk_Vi hC hK hw hT hA hE hSR kM_at0 (by decide) rfl (k_X12_isStreet_1 l adK adV dC dI cy ad B (by omega) (by omega) qr s1   a1 w0 s.heap.size hT ) (cwV 1 hC.2.2.2.2 gX12_cheap_X12_isStreet rfl rfl rfl (by decide +kernel) ⟨Nat.le_of_ble_eq_true rfl, Nat.le_of_ble_eq_true rfl⟩) rfl hl.1 rfl (Nat.le_of_ble_eq_true rfl) dX12_cheap_2 (fun r1 w3 H locs hp2 hw => ?_)
  obtain ⟨rfl, hg9⟩ := hp2
  rcases hg9 with rfl | ⟨rfl, g5, g6, ⟨x7, c8, rx7, tx7⟩⟩
  · refine lv_if_eq (tgt := 16) hx hb dX12_cheap_5 (by decide) (fun _ => ?_) (fun c => absurd (by decide) c)
    refine lv_iconst (v := (-1)) hx hb dX12_cheap_16 (by decide) ?_
    exact tk_iret hC hr hlocks hK ⟨rfl, (Or.inr rfl)⟩ hw dX12_cheap_17
  · refine lv_if_eq (tgt := 16) hx hb dX12_cheap_5 (by decide) (fun c => absurd c (by decide)) (fun _ => ?_)
    refine lv_aload_n hx hb dX12_cheap_8 rfl (lv_at hl 0 rfl) ?_
    refine lv_iload_n hx hb dX12_cheap_9 rfl (lv_at hl 1 rfl) ?_
    refine tk_Vi hC hK hw hT hA hE hSR kM_at0 (by decide) rfl (k_X12_cheapOf_1 l adK adV dC dI cy ad B (by omega) (by omega) qr s1   a1 (show 0 ≤ a1.toInt by omega) (show a1.toInt ≤ 11 by omega) w0 H.size hT ) (cwV 1 hC.2.2.2.2 gX12_cheap_X12_cheapOf rfl rfl rfl (by decide +kernel) ⟨Nat.le_of_ble_eq_true rfl, Nat.le_of_ble_eq_true rfl⟩) rfl hl.1 rfl (Nat.le_of_ble_eq_true rfl) dX12_cheap_10 (fun r10 w12 H locs hp11 hw => ?_)
    obtain ⟨rfl, hg16⟩ := hp11
    obtain ⟨g14, g15⟩ := hg16
    refine lv_goto (tgt := 17) hx hb dX12_cheap_13 (by decide) ?_
    exact tk_iret hC hr hlocks hK ⟨rfl, (Or.inl ⟨(show 0 ≤ r10.toInt by omega), (show r10.toInt ≤ 3 by omega), (show 0 ≤ a1.toInt by omega), (show a1.toInt ≤ 11 by omega), ⟨x7, c8, (show 1 ≤ x7.toInt by omega), (show x7.toInt ≤ 12 by omega)⟩⟩)⟩ hw dX12_cheap_17
abbrev P_X12_wrong_1 (ad : Nat → Nat) (cy : Nat → ClassId) (B : Int) (qr : Nat) (s1 : Int) (a1 : Int32) (w0 : va_W) : Int32 → va_W → Prop := fun r u => w0 = u ∧ ((0 ≤ a1.toInt ∧ a1.toInt ≤ 7 ∧ (∃ y : Int32, gi u 12 0 = y ∧ 1 ≤ y.toInt ∧ y.toInt ≤ 10)) ∨ (r = (-1)))
set_option maxHeartbeats 4000000 in
set_option maxRecDepth 100000 in
theorem k_X12_wrong_1 (l : Launch) (adK adV : Nat → Nat) (dC : Nat → ClassId) (dI : Nat → Nat → Nat) (cy : Nat → ClassId) (ad : Nat → Nat) (B : Int) (hB0 : 100000 ≤ B) (hB1 : B ≤ 1073741824) (qr : Nat) (s1 : Int)  (a1 : Int32) (w0 : va_W) (sz : Nat) (hT : TW ksM ad cy B qr 12 w0)  : Met l yX12_wrong wsX12_wrong ({ frames := 3, cells := 0, slots := 0, locals := 60 }) (va_Pc [.ref (ad 0), .int a1] (wpreS adK adV dC dI cy sz w0)) (va_Qi (P_X12_wrong_1 ad cy B qr s1 a1 w0) (fun u : va_W => wpost dC dI cy (va_A w0 sz) u) (va_A w0 sz)) 0 0 (va_A w0 sz) := by
  refine Met.ofW (cc := cX12_wrong) (maxL := 5) (ret := (some .int)) (by decide) rfl ?_
  intro p e s m args below meth c s₁ Bk hml hv
  obtain ⟨rfl, ⟨hsz, hP, hK, hD0⟩, hE, hSR⟩ := hv
  have hx := Bk.exec
  have hb := Bk.bytes
  have hr := Bk.returns
  have hlocks := Bk.notSynchronized
  have hC : CallFix p m c cX12_wrong 5 s _ wsX12_wrong RX12 := ⟨hx, hb, hml, findClass_of_methodNamed Bk.named, atoms_spec (ws := wsX12_wrong) Bk.pre⟩
  subst hsz
  have hD := hD0.self (sz := s.heap.size)
  generalize hAe : va_A w0 s.heap.size = A at hD hE ⊢
  have hA : ∀ q : Nat, s.heap.size ≤ q → A q := fun q h => by rw [← hAe]; exact Or.inr h
  have hw : Wd dC dI A s.heap s.heap [] w0 := ⟨hP, hD, va_S.rf⟩
  have hF : FE ksM ([] : List (Nat × Nat × Nat)) w0 w0 := FE.rf
  have hl := lv_entry ([.ref (ad 0), .int a1]) (n := 5) (Nat.le_of_ble_eq_true rfl)
  rw [lg_entry_eq]
  generalize (lg_sl ([.ref (ad 0), .int a1]) ++ List.replicate (5 - (lg_sl ([.ref (ad 0), .int a1])).length) Slot.unset).toArray = ls at hl ⊢
  have hl : lv_has ls 5 [(0, .ref (ad 0)), (1, .int a1)] := hl
  generalize hloc : ([] : List Loc) = locs at hw ⊢
  have hinX12 : ∀ w ∈ u_ws RX12 TX12 42, w ∈ wsX12_wrong := fun _ h => List.mem_cons_of_mem _ (List.mem_append_right _ (h))
  have J19 : ∀ (f19_12_0 : Int32) (H : Heap) (locs : List Loc) (ls : Array Slot), 0 ≤ f19_12_0.toInt → f19_12_0.toInt ≤ 10 → Wd dC dI A s.heap H locs w0 → gi w0 12 0 = f19_12_0 → lv_has ls 5 [(0, .ref (ad 0)), (1, .int a1)] → W p l e ({ frames := 3, cells := 0, slots := 0, locals := 60 }) s m (List.toArray [.ref (ad 0), .int a1]) below meth c H locs 0 0 (MQ below (va_Qi (P_X12_wrong_1 ad cy B qr s1 a1 w0) (fun u : va_W => wpost dC dI cy A u) A) (List.toArray [.ref (ad 0), .int a1]) s 0 0 A) (F0 m 19 ls []) := by
    intro f19_12_0 H locs ls r1 t2 hw c3 hl
    refine lv_iconst (v := (-1)) hx hb dX12_wrong_19 (by decide) ?_
    exact tk_iret hC hr hlocks hK ⟨rfl, (Or.inr rfl)⟩ hw dX12_wrong_20
  have L25 : ∀ (n25 : Nat) (v25_2 : Int32) (v25_3 : Int32) (f25_12_0 : Int32) (H : Heap) (locs : List Loc) (ls : Array Slot), 0 ≤ a1.toInt → a1.toInt ≤ 7 → 0 ≤ v25_3.toInt → v25_3.toInt ≤ 12 → 1 ≤ f25_12_0.toInt → f25_12_0.toInt ≤ 10 → (12 - v25_3.toInt).toNat < n25 → Wd dC dI A s.heap H locs w0 → gi w0 12 0 = f25_12_0 → lv_has ls 5 [(0, .ref (ad 0)), (1, .int a1), (2, .int v25_2), (3, .int v25_3)] → W p l e ({ frames := 3, cells := 0, slots := 0, locals := 60 }) s m (List.toArray [.ref (ad 0), .int a1]) below meth c H locs 0 0 (MQ below (va_Qi (P_X12_wrong_1 ad cy B qr s1 a1 w0) (fun u : va_W => wpost dC dI cy A u) A) (List.toArray [.ref (ad 0), .int a1]) s 0 0 A) (F0 m 25 ls []) := by
    intro n25
    induction n25 with
    | zero => intro v25_2 v25_3 f25_12_0 H locs ls r4 t5 r6 t7 r8 t9 hm25 hw c10 hl; omega
    | succ n25 ih25 =>
      intro v25_2 v25_3 f25_12_0 H locs ls r4 t5 r6 t7 r8 t9 hm25 hw c10 hl
      have L38 : ∀ (n38 : Nat) (v38_2 : Int32) (v38_4 : Int32) (f38_12_1 : Int32) (H : Heap) (locs : List Loc) (ls : Array Slot), 0 ≤ a1.toInt → a1.toInt ≤ 7 → 0 ≤ v25_3.toInt → v25_3.toInt ≤ 11 → 0 ≤ v38_4.toInt → v38_4.toInt ≤ 7 → 1 ≤ f25_12_0.toInt → f25_12_0.toInt ≤ 10 → 1 ≤ f38_12_1.toInt → f38_12_1.toInt ≤ 12 → (7 - v38_4.toInt).toNat < n38 → Wd dC dI A s.heap H locs w0 → gi w0 12 0 = f25_12_0 → gi w0 12 1 = f38_12_1 → lv_has ls 5 [(0, .ref (ad 0)), (1, .int a1), (2, .int v38_2), (3, .int v25_3), (4, .int v38_4)] → W p l e ({ frames := 3, cells := 0, slots := 0, locals := 60 }) s m (List.toArray [.ref (ad 0), .int a1]) below meth c H locs 0 0 (MQ below (va_Qi (P_X12_wrong_1 ad cy B qr s1 a1 w0) (fun u : va_W => wpost dC dI cy A u) A) (List.toArray [.ref (ad 0), .int a1]) s 0 0 A) (F0 m 38 ls []) := by
        intro n38
        induction n38 with
        | zero => intro v38_2 v38_4 f38_12_1 H locs ls r11 t12 r13 t14 r15 t16 r17 t18 r20 t21 hm38 hw c19 c22 hl; omega
        | succ n38 ih38 =>
          intro v38_2 v38_4 f38_12_1 H locs ls r11 t12 r13 t14 r15 t16 r17 t18 r20 t21 hm38 hw c19 c22 hl
          refine lv_iload hx hb dX12_wrong_38 (lv_at hl 4 rfl) ?_
          refine lv_bipush (v := 7) hx hb dX12_wrong_40 (by decide) ?_
          refine lv_icmp_ge (tgt := 88) hx hb dX12_wrong_42 (by decide) (fun c23 => ?_) (fun c23 => ?_)
          · have c23 : (7 : Int) ≤ v38_4.toInt := wk_le.mp c23
            obtain ⟨x24, ex24⟩ : ∃ y : Int32, y = v25_3 + Int32.ofInt 1 := ⟨_, rfl⟩
            refine lv_iinc (v := x24) (lv' := [(3, .int x24), (0, .ref (ad 0)), (1, .int a1), (2, .int v38_2), (4, .int v38_4)]) hx hb dX12_wrong_88 hl (k := 3) rfl ex24.symm (by decide) rfl (fun ls hl => ?_)
            have ex24 : x24.toInt = v25_3.toInt + 1 := by rw [ex24]; exact wk_add (y := 1) (show -2147483648 ≤ v25_3.toInt + 1 by omega) (show v25_3.toInt + 1 ≤ 2147483647 by omega)
            refine lv_goto (tgt := 25) hx hb dX12_wrong_91 (by decide) ?_
            exact ih25 v38_2 x24 f25_12_0 H locs ls  (show 0 ≤ a1.toInt by omega) (show a1.toInt ≤ 7 by omega) (show 0 ≤ x24.toInt by omega) (show x24.toInt ≤ 12 by omega) (show 1 ≤ f25_12_0.toInt by omega) (show f25_12_0.toInt ≤ 10 by omega) (show (12 - x24.toInt).toNat < n25 by omega) hw  c19 (lv_sub hl [1, 2, 3, 0] rfl)
          · have c23 : v38_4.toInt < (7 : Int) := wk_leF c23
            refine lv_iload_n hx hb dX12_wrong_45 rfl (lv_at hl 2 rfl) ?_
            refine lv_iload_n hx hb dX12_wrong_46 rfl (lv_at hl 1 rfl) ?_
            refine lv_bipush (v := 7) hx hb dX12_wrong_47 (by decide) ?_
            refine lv_icmp_eq (tgt := 58) hx hb dX12_wrong_49 (by decide) (fun c25 => ?_) (fun c25 => ?_)
            · have c25 : a1.toInt = (7 : Int) := wk_eq.mp c25
              refine lv_aload_n hx hb dX12_wrong_58 rfl (lv_at hl 0 rfl) ?_
              refine lv_iload_n hx hb dX12_wrong_59 rfl (lv_at hl 3 rfl) ?_
              refine lv_iconst (v := 3) hx hb dX12_wrong_60 (by decide) ?_
              refine lv_iload hx hb dX12_wrong_61 (lv_at hl 4 rfl) ?_
              refine lv_iadd hx hb dX12_wrong_63 ?_
              refine lv_topi (fun x26 ex26 => ?_)
              have ex26 : x26.toInt = (3 : Int) + v38_4.toInt := by rw [ex26]; exact wk_add (show (-2147483648) ≤ (3 : Int) + v38_4.toInt by omega) (show (3 : Int) + v38_4.toInt ≤ 2147483647 by omega)
              refine tk_Vi hC hK hw hT hA hE hSR kM_at0 (by decide) rfl (k_X12_streetOf_4 l adK adV dC dI cy ad B (by omega) (by omega) qr s1   v25_3 (show 0 ≤ v25_3.toInt by omega) (show v25_3.toInt ≤ 11 by omega) x26 (show 3 ≤ x26.toInt by omega) (show x26.toInt ≤ 9 by omega) w0 H.size hT ) (cwV 2 hC.2.2.2.2 gX12_wrong_X12_streetOf rfl rfl rfl (by decide +kernel) ⟨Nat.le_of_ble_eq_true rfl, Nat.le_of_ble_eq_true rfl⟩) rfl hl.1 rfl (Nat.le_of_ble_eq_true rfl) dX12_wrong_64 (fun r27 w29 H locs hp28 hw => ?_)
              obtain ⟨rfl, hg33⟩ := hp28
              obtain ⟨g31, g32⟩ := hg33
              refine lv_aload_n hx hb dX12_wrong_67 rfl (lv_at hl 0 rfl) ?_
              refine lv_iload_n hx hb dX12_wrong_68 rfl (lv_at hl 3 rfl) ?_
              refine tk_Vi hC hK hw hT hA hE hSR kM_at0 (by decide) rfl (k_X12_cheapOf_1 l adK adV dC dI cy ad B (by omega) (by omega) qr s1   v25_3 (show 0 ≤ v25_3.toInt by omega) (show v25_3.toInt ≤ 11 by omega) w0 H.size hT ) (cwV 1 hC.2.2.2.2 gX12_wrong_X12_cheapOf rfl rfl rfl (by decide +kernel) ⟨Nat.le_of_ble_eq_true rfl, Nat.le_of_ble_eq_true rfl⟩) rfl hl.1 rfl (Nat.le_of_ble_eq_true rfl) dX12_wrong_69 (fun r34 w36 H locs hp35 hw => ?_)
              obtain ⟨rfl, hg40⟩ := hp35
              obtain ⟨g38, g39⟩ := hg40
              refine lv_icmp_eq (tgt := 79) hx hb dX12_wrong_72 (by decide) (fun c41 => ?_) (fun c41 => ?_)
              · have c41 : r27.toInt = r34.toInt := wk_eq.mp c41
                refine lv_iconst (v := 0) hx hb dX12_wrong_79 (by decide) ?_
                refine lv_iadd hx hb dX12_wrong_80 ?_
                have nx42 := wk_i32 v38_2
                refine lv_topi (fun x43 ex43 => ?_)
                have ex43 : x43.toInt = v38_2.toInt + (0 : Int) := by rw [ex43]; exact wk_add (show (-2147483648) ≤ v38_2.toInt + (0 : Int) by omega) (show v38_2.toInt + (0 : Int) ≤ 2147483647 by omega)
                refine lv_istore_n (lv' := [(2, .int x43), (0, .ref (ad 0)), (1, .int a1), (3, .int v25_3), (4, .int v38_4)]) hx hb dX12_wrong_81 rfl hl (by decide) rfl (fun ls hl => ?_)
                obtain ⟨x44, ex44⟩ : ∃ y : Int32, y = v38_4 + Int32.ofInt 1 := ⟨_, rfl⟩
                refine lv_iinc (v := x44) (lv' := [(4, .int x44), (2, .int x43), (0, .ref (ad 0)), (1, .int a1), (3, .int v25_3)]) hx hb dX12_wrong_82 hl (k := 4) rfl ex44.symm (by decide) rfl (fun ls hl => ?_)
                have ex44 : x44.toInt = v38_4.toInt + 1 := by rw [ex44]; exact wk_add (y := 1) (show -2147483648 ≤ v38_4.toInt + 1 by omega) (show v38_4.toInt + 1 ≤ 2147483647 by omega)
                refine lv_goto (tgt := 38) hx hb dX12_wrong_85 (by decide) ?_
                exact ih38 x43 x44 f38_12_1 H locs ls  (show 0 ≤ a1.toInt by omega) (show a1.toInt ≤ 7 by omega) (show 0 ≤ v25_3.toInt by omega) (show v25_3.toInt ≤ 11 by omega) (show 0 ≤ x44.toInt by omega) (show x44.toInt ≤ 7 by omega) (show 1 ≤ f25_12_0.toInt by omega) (show f25_12_0.toInt ≤ 10 by omega) (show 1 ≤ f38_12_1.toInt by omega) (show f38_12_1.toInt ≤ 12 by omega) (show (7 - x44.toInt).toNat < n38 by omega) hw  c19 c22 (lv_sub hl [2, 3, 1, 4, 0] rfl)
              · have c41 : ¬ r27.toInt = r34.toInt := wk_eqF c41
                refine lv_iconst (v := 1) hx hb dX12_wrong_75 (by decide) ?_
                refine lv_goto (tgt := 80) hx hb dX12_wrong_76 (by decide) ?_
                refine lv_iadd hx hb dX12_wrong_80 ?_
                have nx45 := wk_i32 v38_2
                refine lv_topi (fun x46 ex46 => ?_)
                refine lv_istore_n (lv' := [(2, .int x46), (0, .ref (ad 0)), (1, .int a1), (3, .int v25_3), (4, .int v38_4)]) hx hb dX12_wrong_81 rfl hl (by decide) rfl (fun ls hl => ?_)
                obtain ⟨x47, ex47⟩ : ∃ y : Int32, y = v38_4 + Int32.ofInt 1 := ⟨_, rfl⟩
                refine lv_iinc (v := x47) (lv' := [(4, .int x47), (2, .int x46), (0, .ref (ad 0)), (1, .int a1), (3, .int v25_3)]) hx hb dX12_wrong_82 hl (k := 4) rfl ex47.symm (by decide) rfl (fun ls hl => ?_)
                have ex47 : x47.toInt = v38_4.toInt + 1 := by rw [ex47]; exact wk_add (y := 1) (show -2147483648 ≤ v38_4.toInt + 1 by omega) (show v38_4.toInt + 1 ≤ 2147483647 by omega)
                refine lv_goto (tgt := 38) hx hb dX12_wrong_85 (by decide) ?_
                exact ih38 x46 x47 f38_12_1 H locs ls  (show 0 ≤ a1.toInt by omega) (show a1.toInt ≤ 7 by omega) (show 0 ≤ v25_3.toInt by omega) (show v25_3.toInt ≤ 11 by omega) (show 0 ≤ x47.toInt by omega) (show x47.toInt ≤ 7 by omega) (show 1 ≤ f25_12_0.toInt by omega) (show f25_12_0.toInt ≤ 10 by omega) (show 1 ≤ f38_12_1.toInt by omega) (show f38_12_1.toInt ≤ 12 by omega) (show (7 - x47.toInt).toNat < n38 by omega) hw  c19 c22 (lv_sub hl [2, 3, 1, 4, 0] rfl)
            · have c25 : ¬ a1.toInt = (7 : Int) := wk_eqF c25
              refine lv_iload_n hx hb dX12_wrong_52 rfl (lv_at hl 1 rfl) ?_
              refine lv_iload hx hb dX12_wrong_53 (lv_at hl 4 rfl) ?_
              refine lv_icmp_ne (tgt := 79) hx hb dX12_wrong_55 (by decide) (fun c48 => ?_) (fun c48 => ?_)
              · have c48 : ¬ a1.toInt = v38_4.toInt := wk_eqF c48
                refine lv_iconst (v := 0) hx hb dX12_wrong_79 (by decide) ?_
                refine lv_iadd hx hb dX12_wrong_80 ?_
                have nx49 := wk_i32 v38_2
                refine lv_topi (fun x50 ex50 => ?_)
                have ex50 : x50.toInt = v38_2.toInt + (0 : Int) := by rw [ex50]; exact wk_add (show (-2147483648) ≤ v38_2.toInt + (0 : Int) by omega) (show v38_2.toInt + (0 : Int) ≤ 2147483647 by omega)
                refine lv_istore_n (lv' := [(2, .int x50), (0, .ref (ad 0)), (1, .int a1), (3, .int v25_3), (4, .int v38_4)]) hx hb dX12_wrong_81 rfl hl (by decide) rfl (fun ls hl => ?_)
                obtain ⟨x51, ex51⟩ : ∃ y : Int32, y = v38_4 + Int32.ofInt 1 := ⟨_, rfl⟩
                refine lv_iinc (v := x51) (lv' := [(4, .int x51), (2, .int x50), (0, .ref (ad 0)), (1, .int a1), (3, .int v25_3)]) hx hb dX12_wrong_82 hl (k := 4) rfl ex51.symm (by decide) rfl (fun ls hl => ?_)
                have ex51 : x51.toInt = v38_4.toInt + 1 := by rw [ex51]; exact wk_add (y := 1) (show -2147483648 ≤ v38_4.toInt + 1 by omega) (show v38_4.toInt + 1 ≤ 2147483647 by omega)
                refine lv_goto (tgt := 38) hx hb dX12_wrong_85 (by decide) ?_
                exact ih38 x50 x51 f38_12_1 H locs ls  (show 0 ≤ a1.toInt by omega) (show a1.toInt ≤ 7 by omega) (show 0 ≤ v25_3.toInt by omega) (show v25_3.toInt ≤ 11 by omega) (show 0 ≤ x51.toInt by omega) (show x51.toInt ≤ 7 by omega) (show 1 ≤ f25_12_0.toInt by omega) (show f25_12_0.toInt ≤ 10 by omega) (show 1 ≤ f38_12_1.toInt by omega) (show f38_12_1.toInt ≤ 12 by omega) (show (7 - x51.toInt).toNat < n38 by omega) hw  c19 c22 (lv_sub hl [2, 3, 1, 4, 0] rfl)
              · have c48 : a1.toInt = v38_4.toInt := wk_eq.mp c48
                refine lv_aload_n hx hb dX12_wrong_58 rfl (lv_at hl 0 rfl) ?_
                refine lv_iload_n hx hb dX12_wrong_59 rfl (lv_at hl 3 rfl) ?_
                refine lv_iconst (v := 3) hx hb dX12_wrong_60 (by decide) ?_
                refine lv_iload hx hb dX12_wrong_61 (lv_at hl 4 rfl) ?_
                refine lv_iadd hx hb dX12_wrong_63 ?_
                refine lv_topi (fun x52 ex52 => ?_)
                have ex52 : x52.toInt = (3 : Int) + v38_4.toInt := by rw [ex52]; exact wk_add (show (-2147483648) ≤ (3 : Int) + v38_4.toInt by omega) (show (3 : Int) + v38_4.toInt ≤ 2147483647 by omega)
                refine tk_Vi hC hK hw hT hA hE hSR kM_at0 (by decide) rfl (k_X12_streetOf_4 l adK adV dC dI cy ad B (by omega) (by omega) qr s1   v25_3 (show 0 ≤ v25_3.toInt by omega) (show v25_3.toInt ≤ 11 by omega) x52 (show 3 ≤ x52.toInt by omega) (show x52.toInt ≤ 9 by omega) w0 H.size hT ) (cwV 2 hC.2.2.2.2 gX12_wrong_X12_streetOf rfl rfl rfl (by decide +kernel) ⟨Nat.le_of_ble_eq_true rfl, Nat.le_of_ble_eq_true rfl⟩) rfl hl.1 rfl (Nat.le_of_ble_eq_true rfl) dX12_wrong_64 (fun r53 w55 H locs hp54 hw => ?_)
                obtain ⟨rfl, hg59⟩ := hp54
                obtain ⟨g57, g58⟩ := hg59
                refine lv_aload_n hx hb dX12_wrong_67 rfl (lv_at hl 0 rfl) ?_
                refine lv_iload_n hx hb dX12_wrong_68 rfl (lv_at hl 3 rfl) ?_
                refine tk_Vi hC hK hw hT hA hE hSR kM_at0 (by decide) rfl (k_X12_cheapOf_1 l adK adV dC dI cy ad B (by omega) (by omega) qr s1   v25_3 (show 0 ≤ v25_3.toInt by omega) (show v25_3.toInt ≤ 11 by omega) w0 H.size hT ) (cwV 1 hC.2.2.2.2 gX12_wrong_X12_cheapOf rfl rfl rfl (by decide +kernel) ⟨Nat.le_of_ble_eq_true rfl, Nat.le_of_ble_eq_true rfl⟩) rfl hl.1 rfl (Nat.le_of_ble_eq_true rfl) dX12_wrong_69 (fun r60 w62 H locs hp61 hw => ?_)
                obtain ⟨rfl, hg66⟩ := hp61
                obtain ⟨g64, g65⟩ := hg66
                refine lv_icmp_eq (tgt := 79) hx hb dX12_wrong_72 (by decide) (fun c67 => ?_) (fun c67 => ?_)
                · have c67 : r53.toInt = r60.toInt := wk_eq.mp c67
                  refine lv_iconst (v := 0) hx hb dX12_wrong_79 (by decide) ?_
                  refine lv_iadd hx hb dX12_wrong_80 ?_
                  have nx68 := wk_i32 v38_2
                  refine lv_topi (fun x69 ex69 => ?_)
                  have ex69 : x69.toInt = v38_2.toInt + (0 : Int) := by rw [ex69]; exact wk_add (show (-2147483648) ≤ v38_2.toInt + (0 : Int) by omega) (show v38_2.toInt + (0 : Int) ≤ 2147483647 by omega)
                  refine lv_istore_n (lv' := [(2, .int x69), (0, .ref (ad 0)), (1, .int a1), (3, .int v25_3), (4, .int v38_4)]) hx hb dX12_wrong_81 rfl hl (by decide) rfl (fun ls hl => ?_)
                  obtain ⟨x70, ex70⟩ : ∃ y : Int32, y = v38_4 + Int32.ofInt 1 := ⟨_, rfl⟩
                  refine lv_iinc (v := x70) (lv' := [(4, .int x70), (2, .int x69), (0, .ref (ad 0)), (1, .int a1), (3, .int v25_3)]) hx hb dX12_wrong_82 hl (k := 4) rfl ex70.symm (by decide) rfl (fun ls hl => ?_)
                  have ex70 : x70.toInt = v38_4.toInt + 1 := by rw [ex70]; exact wk_add (y := 1) (show -2147483648 ≤ v38_4.toInt + 1 by omega) (show v38_4.toInt + 1 ≤ 2147483647 by omega)
                  refine lv_goto (tgt := 38) hx hb dX12_wrong_85 (by decide) ?_
                  exact ih38 x69 x70 f38_12_1 H locs ls  (show 0 ≤ a1.toInt by omega) (show a1.toInt ≤ 7 by omega) (show 0 ≤ v25_3.toInt by omega) (show v25_3.toInt ≤ 11 by omega) (show 0 ≤ x70.toInt by omega) (show x70.toInt ≤ 7 by omega) (show 1 ≤ f25_12_0.toInt by omega) (show f25_12_0.toInt ≤ 10 by omega) (show 1 ≤ f38_12_1.toInt by omega) (show f38_12_1.toInt ≤ 12 by omega) (show (7 - x70.toInt).toNat < n38 by omega) hw  c19 c22 (lv_sub hl [2, 3, 1, 4, 0] rfl)
                · have c67 : ¬ r53.toInt = r60.toInt := wk_eqF c67
                  refine lv_iconst (v := 1) hx hb dX12_wrong_75 (by decide) ?_
                  refine lv_goto (tgt := 80) hx hb dX12_wrong_76 (by decide) ?_
                  refine lv_iadd hx hb dX12_wrong_80 ?_
                  have nx71 := wk_i32 v38_2
                  refine lv_topi (fun x72 ex72 => ?_)
                  refine lv_istore_n (lv' := [(2, .int x72), (0, .ref (ad 0)), (1, .int a1), (3, .int v25_3), (4, .int v38_4)]) hx hb dX12_wrong_81 rfl hl (by decide) rfl (fun ls hl => ?_)
                  obtain ⟨x73, ex73⟩ : ∃ y : Int32, y = v38_4 + Int32.ofInt 1 := ⟨_, rfl⟩
                  refine lv_iinc (v := x73) (lv' := [(4, .int x73), (2, .int x72), (0, .ref (ad 0)), (1, .int a1), (3, .int v25_3)]) hx hb dX12_wrong_82 hl (k := 4) rfl ex73.symm (by decide) rfl (fun ls hl => ?_)
                  have ex73 : x73.toInt = v38_4.toInt + 1 := by rw [ex73]; exact wk_add (y := 1) (show -2147483648 ≤ v38_4.toInt + 1 by omega) (show v38_4.toInt + 1 ≤ 2147483647 by omega)
                  refine lv_goto (tgt := 38) hx hb dX12_wrong_85 (by decide) ?_
                  exact ih38 x72 x73 f38_12_1 H locs ls  (show 0 ≤ a1.toInt by omega) (show a1.toInt ≤ 7 by omega) (show 0 ≤ v25_3.toInt by omega) (show v25_3.toInt ≤ 11 by omega) (show 0 ≤ x73.toInt by omega) (show x73.toInt ≤ 7 by omega) (show 1 ≤ f25_12_0.toInt by omega) (show f25_12_0.toInt ≤ 10 by omega) (show 1 ≤ f38_12_1.toInt by omega) (show f38_12_1.toInt ≤ 12 by omega) (show (7 - x73.toInt).toNat < n38 by omega) hw  c19 c22 (lv_sub hl [2, 3, 1, 4, 0] rfl)
      refine lv_iload_n hx hb dX12_wrong_25 rfl (lv_at hl 3 rfl) ?_
      refine lv_aload_n hx hb dX12_wrong_26 rfl (lv_at hl 0 rfl) ?_
      refine tk_getA hC hK hw hT hinX12 kM_at0 (by decide) rfl 26 (by decide) (List.mem_of_getElem? (i := 2) rfl) rfl rfl dX12_wrong_27 ?_
      refine lv_iconst (v := 1) hx hb dX12_wrong_30 (by decide) ?_
      refine tk_ialdR hC hK hw hT kM_at12 rfl (by decide) (by decide) dX12_wrong_31 (fun x74 c75 Ex74 => ?_)
      have bx74 : 0 ≤ x74.toInt ∧ x74.toInt ≤ 12 := (tk_rg1 rfl).mp Ex74
      have c75 : gi w0 12 1 = x74 := c75
      refine lv_icmp_ge (tgt := 94) hx hb dX12_wrong_32 (by decide) (fun c76 => ?_) (fun c76 => ?_)
      · have c76 : x74.toInt ≤ v25_3.toInt := wk_le.mp c76
        refine lv_iload_n hx hb dX12_wrong_94 rfl (lv_at hl 2 rfl) ?_
        exact tk_iret hC hr hlocks hK ⟨rfl, (Or.inl ⟨(show 0 ≤ a1.toInt by omega), (show a1.toInt ≤ 7 by omega), ⟨f25_12_0, c10, (show 1 ≤ f25_12_0.toInt by omega), (show f25_12_0.toInt ≤ 10 by omega)⟩⟩)⟩ hw dX12_wrong_95
      · have c76 : v25_3.toInt < x74.toInt := wk_leF c76
        refine lv_iconst (v := 0) hx hb dX12_wrong_35 (by decide) ?_
        refine lv_istore (lv' := [(4, .int 0), (0, .ref (ad 0)), (1, .int a1), (2, .int v25_2), (3, .int v25_3)]) hx hb dX12_wrong_36 hl (by decide) rfl (fun ls hl => ?_)
        exact L38 ((7 - (0 : Int)).toNat + 1) v25_2 0 x74 H locs ls  (show 0 ≤ a1.toInt by omega) (show a1.toInt ≤ 7 by omega) (show 0 ≤ v25_3.toInt by omega) (show v25_3.toInt ≤ 11 by omega) (by decide) (by decide) (show 1 ≤ f25_12_0.toInt by omega) (show f25_12_0.toInt ≤ 10 by omega) (show 1 ≤ x74.toInt by omega) (show x74.toInt ≤ 12 by omega) (Nat.lt_succ_self _) hw  c10 c75 (lv_sub hl [1, 2, 3, 4, 0] rfl)
  refine lv_aload_n hx hb dX12_wrong_0 rfl (lv_at hl 0 rfl) ?_
  refine tk_Vi hC hK hw hT hA hE hSR kM_at0 (by decide) rfl (k_X12_isTown_1 l adK adV dC dI cy ad B (by omega) (by omega) qr s1    w0 s.heap.size hT ) (cwV 0 hC.2.2.2.2 gX12_wrong_X12_isTown rfl rfl rfl (by decide +kernel) ⟨Nat.le_of_ble_eq_true rfl, Nat.le_of_ble_eq_true rfl⟩) rfl hl.1 rfl (Nat.le_of_ble_eq_true rfl) dX12_wrong_1 (fun r77 w79 H locs hp78 hw => ?_)
  obtain ⟨rfl, hg85⟩ := hp78
  rcases hg85 with ⟨rfl, ⟨x81, c82, rx81, tx81⟩⟩ | ⟨rfl, ⟨x83, c84, rx83, tx83⟩⟩
  · refine lv_if_eq (tgt := 19) hx hb dX12_wrong_4 (by decide) (fun _ => ?_) (fun c => absurd (by decide) c)
    exact J19 x81 H locs ls  (show 0 ≤ x81.toInt by omega) (show x81.toInt ≤ 10 by omega)  hw  c82 (lv_sub hl [0, 1] rfl)
  · refine lv_if_eq (tgt := 19) hx hb dX12_wrong_4 (by decide) (fun c => absurd c (by decide)) (fun _ => ?_)
    refine lv_iload_n hx hb dX12_wrong_7 rfl (lv_at hl 1 rfl) ?_
    refine lv_i2l hx hb dX12_wrong_8 rfl ?_
    refine lv_topl (fun x86 ex86 => ?_)
    have ex86 : x86.toInt = a1.toInt := by rw [ex86]; exact wk_i2l _
    have bx86 := wk_i32 a1
    refine lv_lconst (v := 0) hx hb dX12_wrong_9 (by decide) ?_
    refine lv_ldc2 (v := 7) hx hb hC.2.2.2.1 (hC.2.2.2.2 _ (List.mem_of_getElem? (i := 1) rfl)) dX12_wrong_10 ?_
    refine tk_Si hC hK hw hT hA hE hSR (k_X12_in_13 l adK adV dC dI cy ad B (by omega) (by omega) qr s1   x86 (show (-2147483648) ≤ x86.toInt by omega) (show x86.toInt ≤ 2147483647 by omega) w0 H.size hT ) (va_cwS 3 hC.2.2.2.2 gX12_wrong_X12_in rfl rfl rfl (by decide +kernel) ⟨Nat.le_of_ble_eq_true rfl, Nat.le_of_ble_eq_true rfl⟩) rfl hl.1 rfl (Nat.le_of_ble_eq_true rfl) dX12_wrong_13 (fun r87 w89 H locs hp88 hw => ?_)
    obtain ⟨rfl, hg93⟩ := hp88
    rcases hg93 with rfl | ⟨rfl, g91, g92⟩
    · refine lv_if_ne (tgt := 21) hx hb dX12_wrong_16 (by decide) (fun c => absurd (by decide) c) (fun _ => ?_)
      exact J19 x83 H locs ls  (show 0 ≤ x83.toInt by omega) (show x83.toInt ≤ 10 by omega)  hw  c84 (lv_sub hl [0, 1] rfl)
    · refine lv_if_ne (tgt := 21) hx hb dX12_wrong_16 (by decide) (fun _ => ?_) (fun c => absurd c (by decide))
      refine lv_iconst (v := 0) hx hb dX12_wrong_21 (by decide) ?_
      refine lv_istore_n (lv' := [(2, .int 0), (0, .ref (ad 0)), (1, .int a1)]) hx hb dX12_wrong_22 rfl hl (by decide) rfl (fun ls hl => ?_)
      refine lv_iconst (v := 0) hx hb dX12_wrong_23 (by decide) ?_
      refine lv_istore_n (lv' := [(3, .int 0), (2, .int 0), (0, .ref (ad 0)), (1, .int a1)]) hx hb dX12_wrong_24 rfl hl (by decide) rfl (fun ls hl => ?_)
      exact L25 ((12 - (0 : Int)).toNat + 1) 0 0 x83 H locs ls  (show 0 ≤ a1.toInt by omega) (show a1.toInt ≤ 7 by omega) (by decide) (by decide) (show 1 ≤ x83.toInt by omega) (show x83.toInt ≤ 10 by omega) (Nat.lt_succ_self _) hw  c84 (lv_sub hl [2, 3, 1, 0] rfl)
abbrev P_X12_errand_1 (ad : Nat → Nat) (cy : Nat → ClassId) (B : Int) (qr : Nat) (s1 : Int) (a1 : Int32) (a2 : Int32) (w0 : va_W) : Int32 → va_W → Prop := fun r u => TW ksM ad cy B qr 12 u ∧ FE ksM [(71, 6, 6), (71, 252, 262), (71, 253, 263)] w0 u ∧ ((r = (-2)) ∨ (0 ≤ r.toInt ∧ r.toInt ≤ 6 ∧ (-1) ≤ a1.toInt ∧ a1.toInt ≤ 9 ∧ (∃ y : Int32, gi u 12 6 = y ∧ 0 ≤ y.toInt ∧ y.toInt ≤ 6)))
set_option maxHeartbeats 4000000 in
set_option maxRecDepth 100000 in
theorem k_X12_errand_1 (l : Launch) (adK adV : Nat → Nat) (dC : Nat → ClassId) (dI : Nat → Nat → Nat) (cy : Nat → ClassId) (ad : Nat → Nat) (B : Int) (hB0 : 100000 ≤ B) (hB1 : B ≤ 1073741824) (qr : Nat) (s1 : Int)  (a1 : Int32) (a2 : Int32) (w0 : va_W) (sz : Nat) (hT : TW ksM ad cy B qr 12 w0)  : Met l yX12_errand wsX12_errand ({ frames := 2, cells := 0, slots := 0, locals := 33 }) (va_Pc [.ref (ad 0), .int a1, .int a2] (wpreS adK adV dC dI cy sz w0)) (va_Qi (P_X12_errand_1 ad cy B qr s1 a1 a2 w0) (fun u : va_W => wpost dC dI cy (va_A w0 sz) u) (va_A w0 sz)) 0 0 (va_A w0 sz) := by
  refine Met.ofW (cc := cX12_errand) (maxL := 3) (ret := (some .int)) (by decide) rfl ?_
  intro p e s m args below meth c s₁ Bk hml hv
  obtain ⟨rfl, ⟨hsz, hP, hK, hD0⟩, hE, hSR⟩ := hv
  have hx := Bk.exec
  have hb := Bk.bytes
  have hr := Bk.returns
  have hlocks := Bk.notSynchronized
  have hC : CallFix p m c cX12_errand 3 s _ wsX12_errand RX12 := ⟨hx, hb, hml, findClass_of_methodNamed Bk.named, atoms_spec (ws := wsX12_errand) Bk.pre⟩
  subst hsz
  have hD := hD0.self (sz := s.heap.size)
  generalize hAe : va_A w0 s.heap.size = A at hD hE ⊢
  have hA : ∀ q : Nat, s.heap.size ≤ q → A q := fun q h => by rw [← hAe]; exact Or.inr h
  have hw : Wd dC dI A s.heap s.heap [] w0 := ⟨hP, hD, va_S.rf⟩
  have hF : FE ksM [(71, 6, 6), (71, 252, 262), (71, 253, 263)] w0 w0 := FE.rf
  have hl := lv_entry ([.ref (ad 0), .int a1, .int a2]) (n := 3) (Nat.le_of_ble_eq_true rfl)
  rw [lg_entry_eq]
  generalize (lg_sl ([.ref (ad 0), .int a1, .int a2]) ++ List.replicate (3 - (lg_sl ([.ref (ad 0), .int a1, .int a2])).length) Slot.unset).toArray = ls at hl ⊢
  have hl : lv_has ls 3 [(0, .ref (ad 0)), (1, .int a1), (2, .int a2)] := hl
  generalize hloc : ([] : List Loc) = locs at hw ⊢
  have hinX12 : ∀ w ∈ u_ws RX12 TX12 42, w ∈ wsX12_errand := fun _ h => List.mem_cons_of_mem _ (List.mem_append_right _ (h))
  have J48 : ∀ (H : Heap) (locs : List Loc) (ls : Array Slot) (w1 : va_W), Wd dC dI A s.heap H locs w1 → TW ksM ad cy B qr 12 w1 → FE ksM [(71, 6, 6), (71, 252, 262), (71, 253, 263)] w0 w1 → lv_has ls 3 [(0, .ref (ad 0)), (1, .int a1), (2, .int a2)] → W p l e ({ frames := 2, cells := 0, slots := 0, locals := 33 }) s m (List.toArray [.ref (ad 0), .int a1, .int a2]) below meth c H locs 0 0 (MQ below (va_Qi (P_X12_errand_1 ad cy B qr s1 a1 a2 w0) (fun u : va_W => wpost dC dI cy A u) A) (List.toArray [.ref (ad 0), .int a1, .int a2]) s 0 0 A) (F0 m 48 ls []) := by
    intro H locs ls w1 hw hT hF hl
    refine lv_bipush (v := (-2)) hx hb dX12_errand_48 (by decide) ?_
    exact tk_iret hC hr hlocks hK ⟨hT, hF, (Or.inl rfl)⟩ hw dX12_errand_50
  refine lv_iload_n hx hb dX12_errand_0 rfl (lv_at hl 1 rfl) ?_
  refine lv_iconst (v := (-1)) hx hb dX12_errand_1 (by decide) ?_
  refine lv_icmp_ne (tgt := 15) hx hb dX12_errand_2 (by decide) (fun c2 => ?_) (fun c2 => ?_)
  · have c2 : ¬ a1.toInt = (-1 : Int) := wk_eqF c2
    refine lv_aload_n hx hb dX12_errand_15 rfl (lv_at hl 0 rfl) ?_
    refine lv_iload_n hx hb dX12_errand_16 rfl (lv_at hl 1 rfl) ?_
    refine tk_Vi hC hK hw hT hA hE hSR kM_at0 (by decide) rfl (k_X12_isCorner_1 l adK adV dC dI cy ad B (by omega) (by omega) qr s1   a1 w0 s.heap.size hT ) (cwV 1 hC.2.2.2.2 gX12_errand_X12_isCorner rfl rfl rfl (by decide +kernel) ⟨Nat.le_of_ble_eq_true rfl, Nat.le_of_ble_eq_true rfl⟩) rfl hl.1 rfl (Nat.le_of_ble_eq_true rfl) dX12_errand_17 (fun r3 w5 H locs hp4 hw => ?_)
    obtain ⟨rfl, hg11⟩ := hp4
    rcases hg11 with rfl | ⟨rfl, g7, g8, ⟨x9, c10, rx9, tx9⟩⟩
    · refine lv_if_eq (tgt := 48) hx hb dX12_errand_20 (by decide) (fun _ => ?_) (fun c => absurd (by decide) c)
      exact J48  H locs ls w0   hw hT hF  (lv_sub hl [0, 1, 2] rfl)
    · refine lv_if_eq (tgt := 48) hx hb dX12_errand_20 (by decide) (fun c => absurd c (by decide)) (fun _ => ?_)
      refine lv_aload_n hx hb dX12_errand_23 rfl (lv_at hl 0 rfl) ?_
      refine lv_iload_n hx hb dX12_errand_24 rfl (lv_at hl 2 rfl) ?_
      refine tk_Vi hC hK hw hT hA hE hSR kM_at0 (by decide) rfl (k_X12_isCorner_1 l adK adV dC dI cy ad B (by omega) (by omega) qr s1   a2 w0 H.size hT ) (cwV 1 hC.2.2.2.2 gX12_errand_X12_isCorner rfl rfl rfl (by decide +kernel) ⟨Nat.le_of_ble_eq_true rfl, Nat.le_of_ble_eq_true rfl⟩) rfl hl.1 rfl (Nat.le_of_ble_eq_true rfl) dX12_errand_25 (fun r12 w14 H locs hp13 hw => ?_)
      obtain ⟨rfl, hg20⟩ := hp13
      rcases hg20 with rfl | ⟨rfl, g16, g17, ⟨x18, c19, rx18, tx18⟩⟩
      · refine lv_if_eq (tgt := 48) hx hb dX12_errand_28 (by decide) (fun _ => ?_) (fun c => absurd (by decide) c)
        exact J48  H locs ls w0   hw hT hF  (lv_sub hl [0, 1, 2] rfl)
      · have ex18 : x18.toInt = x9.toInt := by rw [← c10.symm.trans c19]
        refine lv_if_eq (tgt := 48) hx hb dX12_errand_28 (by decide) (fun c => absurd c (by decide)) (fun _ => ?_)
        refine lv_iload_n hx hb dX12_errand_31 rfl (lv_at hl 1 rfl) ?_
        refine lv_iload_n hx hb dX12_errand_32 rfl (lv_at hl 2 rfl) ?_
        refine lv_icmp_eq (tgt := 48) hx hb dX12_errand_33 (by decide) (fun c21 => ?_) (fun c21 => ?_)
        · have c21 : a1.toInt = a2.toInt := wk_eq.mp c21
          exact J48  H locs ls w0   hw hT hF  (lv_sub hl [0, 1, 2] rfl)
        · have c21 : ¬ a1.toInt = a2.toInt := wk_eqF c21
          refine lv_aload_n hx hb dX12_errand_36 rfl (lv_at hl 0 rfl) ?_
          refine tk_getA hC hK hw hT hinX12 kM_at0 (by decide) rfl 26 (by decide) (List.mem_of_getElem? (i := 1) rfl) rfl rfl dX12_errand_37 ?_
          refine lv_bipush (v := 6) hx hb dX12_errand_40 (by decide) ?_
          refine tk_ialdR hC hK hw hT kM_at12 rfl (by decide) (by decide) dX12_errand_42 (fun x22 c23 Ex22 => ?_)
          have bx22 := tk_rgI rfl 6 1 1 0 6 (by decide +kernel) ⟨0, by decide, by decide⟩ Ex22
          have c23 : gi w0 12 6 = x22 := c23
          refine lv_bipush (v := 6) hx hb dX12_errand_43 (by decide) ?_
          refine lv_icmp_ne (tgt := 51) hx hb dX12_errand_45 (by decide) (fun c24 => ?_) (fun c24 => ?_)
          · have c24 : ¬ x22.toInt = (6 : Int) := wk_eqF c24
            refine lv_aload_n hx hb dX12_errand_51 rfl (lv_at hl 0 rfl) ?_
            refine tk_getA hC hK hw hT hinX12 kM_at0 (by decide) rfl 26 (by decide) (List.mem_of_getElem? (i := 1) rfl) rfl rfl dX12_errand_52 ?_
            refine lv_sipush (v := 252) hx hb dX12_errand_55 (by decide) ?_
            refine lv_iconst (v := 2) hx hb dX12_errand_58 (by decide) ?_
            refine lv_aload_n hx hb dX12_errand_59 rfl (lv_at hl 0 rfl) ?_
            refine tk_getA hC hK hw hT hinX12 kM_at0 (by decide) rfl 26 (by decide) (List.mem_of_getElem? (i := 1) rfl) rfl rfl dX12_errand_60 ?_
            refine lv_bipush (v := 6) hx hb dX12_errand_63 (by decide) ?_
            refine tk_ialdR hC hK hw hT kM_at12 rfl (by decide) (by decide) dX12_errand_65 (fun x25 c26 Ex25 => ?_)
            refine wk_top x22 (c26.symm.trans c23) ?_
            refine lv_imul hx hb dX12_errand_66 ?_
            refine lv_topi (fun x27 ex27 => ?_)
            have ex27 : x27.toInt = (2 : Int) * x22.toInt := by rw [ex27]; exact wk_mul (show (-2147483648) ≤ (2 : Int) * x22.toInt by omega) (show (2 : Int) * x22.toInt ≤ 2147483647 by omega)
            refine lv_iadd hx hb dX12_errand_67 ?_
            refine lv_topi (fun x28 ex28 => ?_)
            have ex28 : x28.toInt = (252 : Int) + x27.toInt := by rw [ex28]; exact wk_add (show (-2147483648) ≤ (252 : Int) + x27.toInt by omega) (show (252 : Int) + x27.toInt ≤ 2147483647 by omega)
            refine lv_iload_n hx hb dX12_errand_68 rfl (lv_at hl 1 rfl) ?_
            refine tk_iastR hC hK hw hT kM_at12 (by decide) rfl (show 0 ≤ x28.toInt by omega) (show x28.toInt < 296 by omega) (tk_rgS rfl 252 2 6 0 9 (by decide +kernel) ⟨(x22.toInt - 0).toNat, by omega, show x28.toInt.toNat = 252 + 2 * (x22.toInt - 0).toNat by omega⟩ (show 0 ≤ a1.toInt by omega) (show a1.toInt ≤ 9 by omega)) dX12_errand_69 (fun H locs w29 hw hT k31 c30 => ?_)
            have hF := hF.put kM_at12 (inE_of (a := 252) (b := 262) (by decide) (show 252 ≤ x28.toInt.toNat by omega) (show x28.toInt.toNat ≤ 262 by omega)) k31
            have c32 := k31.gi (Or.inr (show 0 ≠ x28.toInt.toNat by omega)) c10
            have c33 := k31.gi (Or.inr (show 6 ≠ x28.toInt.toNat by omega)) c23
            refine lv_aload_n hx hb dX12_errand_70 rfl (lv_at hl 0 rfl) ?_
            refine tk_getA hC hK hw hT hinX12 kM_at0 (by decide) rfl 26 (by decide) (List.mem_of_getElem? (i := 1) rfl) rfl rfl dX12_errand_71 ?_
            refine lv_sipush (v := 252) hx hb dX12_errand_74 (by decide) ?_
            refine lv_iconst (v := 2) hx hb dX12_errand_77 (by decide) ?_
            refine lv_aload_n hx hb dX12_errand_78 rfl (lv_at hl 0 rfl) ?_
            refine tk_getA hC hK hw hT hinX12 kM_at0 (by decide) rfl 26 (by decide) (List.mem_of_getElem? (i := 1) rfl) rfl rfl dX12_errand_79 ?_
            refine lv_bipush (v := 6) hx hb dX12_errand_82 (by decide) ?_
            refine tk_ialdR hC hK hw hT kM_at12 rfl (by decide) (by decide) dX12_errand_84 (fun x34 c35 Ex34 => ?_)
            refine wk_top x22 (c35.symm.trans c33) ?_
            refine lv_imul hx hb dX12_errand_85 ?_
            refine lv_topi (fun x36 ex36 => ?_)
            have ex36 : x36.toInt = (2 : Int) * x22.toInt := by rw [ex36]; exact wk_mul (show (-2147483648) ≤ (2 : Int) * x22.toInt by omega) (show (2 : Int) * x22.toInt ≤ 2147483647 by omega)
            refine lv_iadd hx hb dX12_errand_86 ?_
            refine lv_topi (fun x37 ex37 => ?_)
            have ex37 : x37.toInt = (252 : Int) + x36.toInt := by rw [ex37]; exact wk_add (show (-2147483648) ≤ (252 : Int) + x36.toInt by omega) (show (252 : Int) + x36.toInt ≤ 2147483647 by omega)
            refine lv_iconst (v := 1) hx hb dX12_errand_87 (by decide) ?_
            refine lv_iadd hx hb dX12_errand_88 ?_
            refine lv_topi (fun x38 ex38 => ?_)
            have ex38 : x38.toInt = x37.toInt + (1 : Int) := by rw [ex38]; exact wk_add (show (-2147483648) ≤ x37.toInt + (1 : Int) by omega) (show x37.toInt + (1 : Int) ≤ 2147483647 by omega)
            refine lv_iload_n hx hb dX12_errand_89 rfl (lv_at hl 2 rfl) ?_
            refine tk_iastR hC hK hw hT kM_at12 (by decide) rfl (show 0 ≤ x38.toInt by omega) (show x38.toInt < 296 by omega) (tk_rgS rfl 253 2 6 0 9 (by decide +kernel) ⟨(x22.toInt - 0).toNat, by omega, show x38.toInt.toNat = 253 + 2 * (x22.toInt - 0).toNat by omega⟩ (show 0 ≤ a2.toInt by omega) (show a2.toInt ≤ 9 by omega)) dX12_errand_90 (fun H locs w39 hw hT k41 c40 => ?_)
            have hF := hF.put kM_at12 (inE_of (a := 253) (b := 263) (by decide) (show 253 ≤ x38.toInt.toNat by omega) (show x38.toInt.toNat ≤ 263 by omega)) k41
            have c42 := k41.gi (Or.inr (show 0 ≠ x38.toInt.toNat by omega)) c32
            have c43 := k41.gi (Or.inr (show 6 ≠ x38.toInt.toNat by omega)) c33
            refine lv_aload_n hx hb dX12_errand_91 rfl (lv_at hl 0 rfl) ?_
            refine tk_getA hC hK hw hT hinX12 kM_at0 (by decide) rfl 26 (by decide) (List.mem_of_getElem? (i := 1) rfl) rfl rfl dX12_errand_92 ?_
            refine lv_bipush (v := 6) hx hb dX12_errand_95 (by decide) ?_
            refine lv_dup2_11 hx hb dX12_errand_97 rfl rfl ?_
            refine tk_ialdR hC hK hw hT kM_at12 rfl (by decide) (by decide) dX12_errand_98 (fun x44 c45 Ex44 => ?_)
            refine wk_top x22 (c45.symm.trans c43) ?_
            refine lv_iconst (v := 1) hx hb dX12_errand_99 (by decide) ?_
            refine lv_iadd hx hb dX12_errand_100 ?_
            refine lv_topi (fun x46 ex46 => ?_)
            have ex46 : x46.toInt = x22.toInt + (1 : Int) := by rw [ex46]; exact wk_add (show (-2147483648) ≤ x22.toInt + (1 : Int) by omega) (show x22.toInt + (1 : Int) ≤ 2147483647 by omega)
            refine tk_iastR hC hK hw hT kM_at12 (by decide) rfl (by decide) (by decide) (tk_rgS rfl 6 1 1 1 6 (by decide +kernel) ⟨0, by decide, by decide⟩ (show 1 ≤ x46.toInt by omega) (show x46.toInt ≤ 6 by omega)) dX12_errand_101 (fun H locs w47 hw hT k49 c48 => ?_)
            have hF := hF.put kM_at12 (inE_of (a := 6) (b := 6) (by decide) (by decide) (by decide)) k49
            have c50 := k49.gi (Or.inr (by decide)) c42
            have c48 : gi w47 12 6 = x46 := c48
            refine lv_aload_n hx hb dX12_errand_102 rfl (lv_at hl 0 rfl) ?_
            refine tk_getA hC hK hw hT hinX12 kM_at0 (by decide) rfl 26 (by decide) (List.mem_of_getElem? (i := 1) rfl) rfl rfl dX12_errand_103 ?_
            refine lv_bipush (v := 6) hx hb dX12_errand_106 (by decide) ?_
            refine tk_ialdR hC hK hw hT kM_at12 rfl (by decide) (by decide) dX12_errand_108 (fun x51 c52 Ex51 => ?_)
            refine wk_top x46 (c52.symm.trans c48) ?_
            exact tk_iret hC hr hlocks hK ⟨hT, hF, (Or.inr ⟨(show 0 ≤ x46.toInt by omega), (show x46.toInt ≤ 6 by omega), (show (-1) ≤ a1.toInt by omega), (show a1.toInt ≤ 9 by omega), ⟨x46, c48, (show 0 ≤ x46.toInt by omega), (show x46.toInt ≤ 6 by omega)⟩⟩)⟩ hw dX12_errand_109
          · have c24 : x22.toInt = (6 : Int) := wk_eq.mp c24
            exact J48  H locs ls w0   hw hT hF  (lv_sub hl [0, 1, 2] rfl)
  · have c2 : a1.toInt = (-1 : Int) := wk_eq.mp c2
    refine lv_aload_n hx hb dX12_errand_5 rfl (lv_at hl 0 rfl) ?_
    refine tk_getA hC hK hw hT hinX12 kM_at0 (by decide) rfl 26 (by decide) (List.mem_of_getElem? (i := 1) rfl) rfl rfl dX12_errand_6 ?_
    refine lv_bipush (v := 6) hx hb dX12_errand_9 (by decide) ?_
    refine lv_iconst (v := 0) hx hb dX12_errand_11 (by decide) ?_
    refine tk_iastR hC hK hw hT kM_at12 (by decide) rfl (by decide) (by decide) (tk_rg0 rfl (show 0 ≤ B by omega) (by decide)) dX12_errand_12 (fun H locs w53 hw hT k55 c54 => ?_)
    have hF := hF.put kM_at12 (inE_of (a := 6) (b := 6) (by decide) (by decide) (by decide)) k55
    have c54 : gi w53 12 6 = 0 := c54
    refine lv_iconst (v := 0) hx hb dX12_errand_13 (by decide) ?_
    exact tk_iret hC hr hlocks hK ⟨hT, hF, (Or.inr ⟨(by decide), (by decide), (show (-1) ≤ a1.toInt by omega), (show a1.toInt ≤ 9 by omega), ⟨0, c54, (by decide), (by decide)⟩⟩)⟩ hw dX12_errand_14
abbrev P_X12_isClash_1 (ad : Nat → Nat) (cy : Nat → ClassId) (B : Int) (qr : Nat) (s1 : Int) (a1 : Int32) (a2 : Int32) (w0 : va_W) : Int32 → va_W → Prop := fun r u => w0 = u ∧ ((r = 0) ∨ (r = 1))
set_option maxHeartbeats 4000000 in
set_option maxRecDepth 100000 in
theorem k_X12_isClash_1 (l : Launch) (adK adV : Nat → Nat) (dC : Nat → ClassId) (dI : Nat → Nat → Nat) (cy : Nat → ClassId) (ad : Nat → Nat) (B : Int) (hB0 : 100000 ≤ B) (hB1 : B ≤ 1073741824) (qr : Nat) (s1 : Int)  (a1 : Int32) (ra1 : 1 ≤ a1.toInt) (ta1 : a1.toInt ≤ 63) (a2 : Int32) (ra2 : 0 ≤ a2.toInt) (ta2 : a2.toInt ≤ 63) (w0 : va_W) (sz : Nat) (hT : TW ksM ad cy B qr 12 w0)  : Met l yX12_isClash wsX12_isClash ({ frames := 1, cells := 0, slots := 0, locals := 12 }) (va_Pc [.ref (ad 0), .int a1, .int a2] (wpreS adK adV dC dI cy sz w0)) (va_Qi (P_X12_isClash_1 ad cy B qr s1 a1 a2 w0) (fun u : va_W => wpost dC dI cy (va_A w0 sz) u) (va_A w0 sz)) 0 0 (va_A w0 sz) := by
  refine Met.ofW (cc := cX12_isClash) (maxL := 4) (ret := (some .boolean)) (by decide) rfl ?_
  intro p e s m args below meth c s₁ Bk hml hv
  obtain ⟨rfl, ⟨hsz, hP, hK, hD0⟩, hE, hSR⟩ := hv
  have hx := Bk.exec
  have hb := Bk.bytes
  have hr := Bk.returns
  have hlocks := Bk.notSynchronized
  have hC : CallFix p m c cX12_isClash 4 s _ wsX12_isClash RX12 := ⟨hx, hb, hml, findClass_of_methodNamed Bk.named, atoms_spec (ws := wsX12_isClash) Bk.pre⟩
  subst hsz
  have hD := hD0.self (sz := s.heap.size)
  generalize hAe : va_A w0 s.heap.size = A at hD hE ⊢
  have hA : ∀ q : Nat, s.heap.size ≤ q → A q := fun q h => by rw [← hAe]; exact Or.inr h
  have hw : Wd dC dI A s.heap s.heap [] w0 := ⟨hP, hD, va_S.rf⟩
  have hF : FE ksM ([] : List (Nat × Nat × Nat)) w0 w0 := FE.rf
  have hl := lv_entry ([.ref (ad 0), .int a1, .int a2]) (n := 4) (Nat.le_of_ble_eq_true rfl)
  rw [lg_entry_eq]
  generalize (lg_sl ([.ref (ad 0), .int a1, .int a2]) ++ List.replicate (4 - (lg_sl ([.ref (ad 0), .int a1, .int a2])).length) Slot.unset).toArray = ls at hl ⊢
  have hl : lv_has ls 4 [(0, .ref (ad 0)), (1, .int a1), (2, .int a2)] := hl
  generalize hloc : ([] : List Loc) = locs at hw ⊢
  have hinX12 : ∀ w ∈ u_ws RX12 TX12 42, w ∈ wsX12_isClash := fun _ h => List.mem_cons_of_mem _ (List.mem_append_right _ (h))
  have L2 : ∀ (n2 : Nat) (v2_3 : Int32) (H : Heap) (locs : List Loc) (ls : Array Slot), 1 ≤ a1.toInt → a1.toInt ≤ 63 → 0 ≤ a2.toInt → a2.toInt ≤ 63 → 0 ≤ v2_3.toInt → v2_3.toInt ≤ 64 → (64 - v2_3.toInt).toNat < n2 → Wd dC dI A s.heap H locs w0 → lv_has ls 4 [(0, .ref (ad 0)), (1, .int a1), (2, .int a2), (3, .int v2_3)] → W p l e ({ frames := 1, cells := 0, slots := 0, locals := 12 }) s m (List.toArray [.ref (ad 0), .int a1, .int a2]) below meth c H locs 0 0 (MQ below (va_Qi (P_X12_isClash_1 ad cy B qr s1 a1 a2 w0) (fun u : va_W => wpost dC dI cy A u) A) (List.toArray [.ref (ad 0), .int a1, .int a2]) s 0 0 A) (F0 m 2 ls []) := by
    intro n2
    induction n2 with
    | zero => intro v2_3 H locs ls r1 t2 r3 t4 r5 t6 hm2 hw hl; omega
    | succ n2 ih2 =>
      intro v2_3 H locs ls r1 t2 r3 t4 r5 t6 hm2 hw hl
      have J25 : ∀ (H : Heap) (locs : List Loc) (ls : Array Slot), 1 ≤ a1.toInt → a1.toInt ≤ 63 → 0 ≤ a2.toInt → a2.toInt ≤ 63 → 0 ≤ v2_3.toInt → v2_3.toInt ≤ 63 → Wd dC dI A s.heap H locs w0 → lv_has ls 4 [(0, .ref (ad 0)), (1, .int a1), (2, .int a2), (3, .int v2_3)] → W p l e ({ frames := 1, cells := 0, slots := 0, locals := 12 }) s m (List.toArray [.ref (ad 0), .int a1, .int a2]) below meth c H locs 0 0 (MQ below (va_Qi (P_X12_isClash_1 ad cy B qr s1 a1 a2 w0) (fun u : va_W => wpost dC dI cy A u) A) (List.toArray [.ref (ad 0), .int a1, .int a2]) s 0 0 A) (F0 m 25 ls []) := by
        intro H locs ls r7 t8 r9 t10 r11 t12 hw hl
        obtain ⟨x13, ex13⟩ : ∃ y : Int32, y = v2_3 + Int32.ofInt 1 := ⟨_, rfl⟩
        refine lv_iinc (v := x13) (lv' := [(3, .int x13), (0, .ref (ad 0)), (1, .int a1), (2, .int a2)]) hx hb dX12_isClash_25 hl (k := 3) rfl ex13.symm (by decide) rfl (fun ls hl => ?_)
        have ex13 : x13.toInt = v2_3.toInt + 1 := by rw [ex13]; exact wk_add (y := 1) (show -2147483648 ≤ v2_3.toInt + 1 by omega) (show v2_3.toInt + 1 ≤ 2147483647 by omega)
        refine lv_goto (tgt := 2) hx hb dX12_isClash_28 (by decide) ?_
        exact ih2 x13 H locs ls  (show 1 ≤ a1.toInt by omega) (show a1.toInt ≤ 63 by omega) (show 0 ≤ a2.toInt by omega) (show a2.toInt ≤ 63 by omega) (show 0 ≤ x13.toInt by omega) (show x13.toInt ≤ 64 by omega) (show (64 - x13.toInt).toNat < n2 by omega) hw   (lv_sub hl [1, 2, 3, 0] rfl)
      refine lv_iload_n hx hb dX12_isClash_2 rfl (lv_at hl 3 rfl) ?_
      refine lv_iload_n hx hb dX12_isClash_3 rfl (lv_at hl 2 rfl) ?_
      refine lv_icmp_gt (tgt := 31) hx hb dX12_isClash_4 (by decide) (fun c14 => ?_) (fun c14 => ?_)
      · have c14 : a2.toInt < v2_3.toInt := wk_lt.mp c14
        refine lv_iconst (v := 1) hx hb dX12_isClash_31 (by decide) ?_
        exact tk_zret hC hr rfl hlocks hK ⟨rfl, (Or.inr rfl)⟩ hw dX12_isClash_32
      · have c14 : v2_3.toInt ≤ a2.toInt := wk_ltF c14
        refine lv_aload_n hx hb dX12_isClash_7 rfl (lv_at hl 0 rfl) ?_
        refine tk_getA hC hK hw hT hinX12 kM_at0 (by decide) rfl 38 (by decide) (List.mem_of_getElem? (i := 1) rfl) rfl rfl dX12_isClash_8 ?_
        refine lv_iload_n hx hb dX12_isClash_11 rfl (lv_at hl 3 rfl) ?_
        refine tk_zald hC hK hw hT kM_at20 rfl rfl (show 0 ≤ v2_3.toInt by omega) (show v2_3.toInt < 64 by omega) dX12_isClash_12 (fun x15 c16 rx15 tx15 => ?_)
        refine lv_if_eq (tgt := 25) hx hb dX12_isClash_13 (by decide) (fun c17 => ?_) (fun c17 => ?_)
        · have c17 : x15.toInt = (0 : Int) := wk_eq.mp c17
          exact J25  H locs ls  (show 1 ≤ a1.toInt by omega) (show a1.toInt ≤ 63 by omega) (show 0 ≤ a2.toInt by omega) (show a2.toInt ≤ 63 by omega) (show 0 ≤ v2_3.toInt by omega) (show v2_3.toInt ≤ 63 by omega)  hw   (lv_sub hl [0, 1, 2, 3] rfl)
        · have c17 : ¬ x15.toInt = (0 : Int) := wk_eqF c17
          refine lv_iload_n hx hb dX12_isClash_16 rfl (lv_at hl 3 rfl) ?_
          refine lv_iload_n hx hb dX12_isClash_17 rfl (lv_at hl 1 rfl) ?_
          refine lv_iand hx hb dX12_isClash_18 ?_
          refine lv_topi (fun x18 ex18 => ?_)
          have bx18 : 0 ≤ x18.toInt ∧ x18.toInt ≤ a1.toInt := by rw [ex18]; exact wk_and (by omega)
          refine lv_iload_n hx hb dX12_isClash_19 rfl (lv_at hl 1 rfl) ?_
          refine lv_icmp_ne (tgt := 25) hx hb dX12_isClash_20 (by decide) (fun c19 => ?_) (fun c19 => ?_)
          · have c19 : ¬ x18.toInt = a1.toInt := wk_eqF c19
            exact J25  H locs ls  (show 1 ≤ a1.toInt by omega) (show a1.toInt ≤ 63 by omega) (show 0 ≤ a2.toInt by omega) (show a2.toInt ≤ 63 by omega) (show 0 ≤ v2_3.toInt by omega) (show v2_3.toInt ≤ 63 by omega)  hw   (lv_sub hl [0, 1, 2, 3] rfl)
          · have c19 : x18.toInt = a1.toInt := wk_eq.mp c19
            refine lv_iconst (v := 0) hx hb dX12_isClash_23 (by decide) ?_
            exact tk_zret hC hr rfl hlocks hK ⟨rfl, (Or.inl rfl)⟩ hw dX12_isClash_24
  refine lv_iconst (v := 0) hx hb dX12_isClash_0 (by decide) ?_
  refine lv_istore_n (lv' := [(3, .int 0), (0, .ref (ad 0)), (1, .int a1), (2, .int a2)]) hx hb dX12_isClash_1 rfl hl (by decide) rfl (fun ls hl => ?_)
  exact L2 ((64 - (0 : Int)).toNat + 1) 0 s.heap locs ls  (show 1 ≤ a1.toInt by omega) (show a1.toInt ≤ 63 by omega) (show 0 ≤ a2.toInt by omega) (show a2.toInt ≤ 63 by omega) (by decide) (by decide) (Nat.lt_succ_self _) hw   (lv_sub hl [1, 2, 3, 0] rfl)
abbrev P_X12_bits_1 (ad : Nat → Nat) (cy : Nat → ClassId) (B : Int) (qr : Nat) (s1 : Int) (a0 : Int32) (w0 : va_W) : Int32 → va_W → Prop := fun r u => w0 = u ∧ ((True))
set_option maxHeartbeats 4000000 in
set_option maxRecDepth 100000 in
theorem k_X12_bits_1 (l : Launch) (adK adV : Nat → Nat) (dC : Nat → ClassId) (dI : Nat → Nat → Nat) (cy : Nat → ClassId) (ad : Nat → Nat) (B : Int) (hB0 : 100000 ≤ B) (hB1 : B ≤ 1073741824) (qr : Nat) (s1 : Int)  (a0 : Int32) (ra0 : 1 ≤ a0.toInt) (ta0 : a0.toInt ≤ 63) (w0 : va_W) (sz : Nat) (hT : TW ksM ad cy B qr 12 w0)  : Met l yX12_bits wsX12_bits ({ frames := 1, cells := 0, slots := 0, locals := 12 }) (va_Pc [.int a0] (wpreS adK adV dC dI cy sz w0)) (va_Qi (P_X12_bits_1 ad cy B qr s1 a0 w0) (fun u : va_W => wpost dC dI cy (va_A w0 sz) u) (va_A w0 sz)) 0 0 (va_A w0 sz) := by
  refine Met.ofW (cc := cX12_bits) (maxL := 3) (ret := (some .int)) (by decide) rfl ?_
  intro p e s m args below meth c s₁ Bk hml hv
  obtain ⟨rfl, ⟨hsz, hP, hK, hD0⟩, hE, hSR⟩ := hv
  have hx := Bk.exec
  have hb := Bk.bytes
  have hr := Bk.returns
  have hlocks := Bk.notSynchronized
  have hC : CallFix p m c cX12_bits 3 s _ wsX12_bits RX12 := ⟨hx, hb, hml, findClass_of_methodNamed Bk.named, atoms_spec (ws := wsX12_bits) Bk.pre⟩
  subst hsz
  have hD := hD0.self (sz := s.heap.size)
  generalize hAe : va_A w0 s.heap.size = A at hD hE ⊢
  have hA : ∀ q : Nat, s.heap.size ≤ q → A q := fun q h => by rw [← hAe]; exact Or.inr h
  have hw : Wd dC dI A s.heap s.heap [] w0 := ⟨hP, hD, va_S.rf⟩
  have hF : FE ksM ([] : List (Nat × Nat × Nat)) w0 w0 := FE.rf
  have hl := lv_entry ([.int a0]) (n := 3) (Nat.le_of_ble_eq_true rfl)
  rw [lg_entry_eq]
  generalize (lg_sl ([.int a0]) ++ List.replicate (3 - (lg_sl ([.int a0])).length) Slot.unset).toArray = ls at hl ⊢
  have hl : lv_has ls 3 [(0, .int a0)] := hl
  generalize hloc : ([] : List Loc) = locs at hw ⊢
  have L4 : ∀ (n4 : Nat) (v4_1 : Int32) (v4_2 : Int32) (H : Heap) (locs : List Loc) (ls : Array Slot), 1 ≤ a0.toInt → a0.toInt ≤ 63 → 0 ≤ v4_2.toInt → v4_2.toInt ≤ 63 → (v4_2.toInt - 0).toNat < n4 → Wd dC dI A s.heap H locs w0 → lv_has ls 3 [(0, .int a0), (1, .int v4_1), (2, .int v4_2)] → W p l e ({ frames := 1, cells := 0, slots := 0, locals := 12 }) s m (List.toArray [.int a0]) below meth c H locs 0 0 (MQ below (va_Qi (P_X12_bits_1 ad cy B qr s1 a0 w0) (fun u : va_W => wpost dC dI cy A u) A) (List.toArray [.int a0]) s 0 0 A) (F0 m 4 ls []) := by
    intro n4
    induction n4 with
    | zero => intro v4_1 v4_2 H locs ls r1 t2 r3 t4 hm4 hw hl; omega
    | succ n4 ih4 =>
      intro v4_1 v4_2 H locs ls r1 t2 r3 t4 hm4 hw hl
      refine lv_iload_n hx hb dX12_bits_4 rfl (lv_at hl 2 rfl) ?_
      refine lv_if_eq (tgt := 20) hx hb dX12_bits_5 (by decide) (fun c5 => ?_) (fun c5 => ?_)
      · have c5 : v4_2.toInt = (0 : Int) := wk_eq.mp c5
        refine lv_iload_n hx hb dX12_bits_20 rfl (lv_at hl 1 rfl) ?_
        exact tk_iret hC hr hlocks hK ⟨rfl, trivial⟩ hw dX12_bits_21
      · have c5 : ¬ v4_2.toInt = (0 : Int) := wk_eqF c5
        have nx7 := wk_i32 v4_1
        obtain ⟨x6, ex6⟩ : ∃ y : Int32, y = v4_1 + Int32.ofInt 1 := ⟨_, rfl⟩
        refine lv_iinc (v := x6) (lv' := [(1, .int x6), (0, .int a0), (2, .int v4_2)]) hx hb dX12_bits_8 hl (k := 1) rfl ex6.symm (by decide) rfl (fun ls hl => ?_)
        refine lv_iload_n hx hb dX12_bits_11 rfl (lv_at hl 2 rfl) ?_
        refine lv_iload_n hx hb dX12_bits_12 rfl (lv_at hl 2 rfl) ?_
        refine lv_iconst (v := 1) hx hb dX12_bits_13 (by decide) ?_
        refine lv_isub hx hb dX12_bits_14 ?_
        refine lv_topi (fun x8 ex8 => ?_)
        have ex8 : x8.toInt = v4_2.toInt - (1 : Int) := by rw [ex8]; exact wk_sub (show (-2147483648) ≤ v4_2.toInt - (1 : Int) by omega) (show v4_2.toInt - (1 : Int) ≤ 2147483647 by omega)
        refine lv_iand hx hb dX12_bits_15 ?_
        refine lv_topi (fun x9 ex9 => ?_)
        have bx9 : 0 ≤ x9.toInt ∧ x9.toInt ≤ x8.toInt := by rw [ex9]; exact wk_and (by omega)
        refine lv_istore_n (lv' := [(2, .int x9), (1, .int x6), (0, .int a0)]) hx hb dX12_bits_16 rfl hl (by decide) rfl (fun ls hl => ?_)
        refine lv_goto (tgt := 4) hx hb dX12_bits_17 (by decide) ?_
        exact ih4 x6 x9 H locs ls  (show 1 ≤ a0.toInt by omega) (show a0.toInt ≤ 63 by omega) (show 0 ≤ x9.toInt by omega) (show x9.toInt ≤ 63 by omega) (show (x9.toInt - 0).toNat < n4 by omega) hw   (lv_sub hl [2, 1, 0] rfl)
  refine lv_iconst (v := 0) hx hb dX12_bits_0 (by decide) ?_
  refine lv_istore_n (lv' := [(1, .int 0), (0, .int a0)]) hx hb dX12_bits_1 rfl hl (by decide) rfl (fun ls hl => ?_)
  refine lv_iload_n hx hb dX12_bits_2 rfl (lv_at hl 1 rfl) ?_
  refine lv_istore_n (lv' := [(2, .int a0), (1, .int 0), (0, .int a0)]) hx hb dX12_bits_3 rfl hl (by decide) rfl (fun ls hl => ?_)
  exact L4 ((a0.toInt - 0).toNat + 1) 0 a0 s.heap locs ls  (show 1 ≤ a0.toInt by omega) (show a0.toInt ≤ 63 by omega) (show 0 ≤ a0.toInt by omega) (show a0.toInt ≤ 63 by omega) (Nat.lt_succ_self _) hw   (lv_sub hl [2, 1, 0] rfl)
abbrev P_X12_bits_2 (ad : Nat → Nat) (cy : Nat → ClassId) (B : Int) (qr : Nat) (s1 : Int) (a0 : Int32) (w0 : va_W) : Int32 → va_W → Prop := fun r u => w0 = u ∧ ((True))
set_option maxHeartbeats 4000000 in
set_option maxRecDepth 100000 in
theorem k_X12_bits_2 (l : Launch) (adK adV : Nat → Nat) (dC : Nat → ClassId) (dI : Nat → Nat → Nat) (cy : Nat → ClassId) (ad : Nat → Nat) (B : Int) (hB0 : 100000 ≤ B) (hB1 : B ≤ 1073741824) (qr : Nat) (s1 : Int)  (a0 : Int32) (ra0 : 0 ≤ a0.toInt) (ta0 : a0.toInt ≤ 63) (w0 : va_W) (sz : Nat) (hT : TW ksM ad cy B qr 12 w0)  : Met l yX12_bits wsX12_bits ({ frames := 1, cells := 0, slots := 0, locals := 12 }) (va_Pc [.int a0] (wpreS adK adV dC dI cy sz w0)) (va_Qi (P_X12_bits_2 ad cy B qr s1 a0 w0) (fun u : va_W => wpost dC dI cy (va_A w0 sz) u) (va_A w0 sz)) 0 0 (va_A w0 sz) := by
  refine Met.ofW (cc := cX12_bits) (maxL := 3) (ret := (some .int)) (by decide) rfl ?_
  intro p e s m args below meth c s₁ Bk hml hv
  obtain ⟨rfl, ⟨hsz, hP, hK, hD0⟩, hE, hSR⟩ := hv
  have hx := Bk.exec
  have hb := Bk.bytes
  have hr := Bk.returns
  have hlocks := Bk.notSynchronized
  have hC : CallFix p m c cX12_bits 3 s _ wsX12_bits RX12 := ⟨hx, hb, hml, findClass_of_methodNamed Bk.named, atoms_spec (ws := wsX12_bits) Bk.pre⟩
  subst hsz
  have hD := hD0.self (sz := s.heap.size)
  generalize hAe : va_A w0 s.heap.size = A at hD hE ⊢
  have hA : ∀ q : Nat, s.heap.size ≤ q → A q := fun q h => by rw [← hAe]; exact Or.inr h
  have hw : Wd dC dI A s.heap s.heap [] w0 := ⟨hP, hD, va_S.rf⟩
  have hF : FE ksM ([] : List (Nat × Nat × Nat)) w0 w0 := FE.rf
  have hl := lv_entry ([.int a0]) (n := 3) (Nat.le_of_ble_eq_true rfl)
  rw [lg_entry_eq]
  generalize (lg_sl ([.int a0]) ++ List.replicate (3 - (lg_sl ([.int a0])).length) Slot.unset).toArray = ls at hl ⊢
  have hl : lv_has ls 3 [(0, .int a0)] := hl
  generalize hloc : ([] : List Loc) = locs at hw ⊢
  have L4 : ∀ (n4 : Nat) (v4_1 : Int32) (v4_2 : Int32) (H : Heap) (locs : List Loc) (ls : Array Slot), 0 ≤ a0.toInt → a0.toInt ≤ 63 → 0 ≤ v4_2.toInt → v4_2.toInt ≤ 63 → (v4_2.toInt - 0).toNat < n4 → Wd dC dI A s.heap H locs w0 → lv_has ls 3 [(0, .int a0), (1, .int v4_1), (2, .int v4_2)] → W p l e ({ frames := 1, cells := 0, slots := 0, locals := 12 }) s m (List.toArray [.int a0]) below meth c H locs 0 0 (MQ below (va_Qi (P_X12_bits_2 ad cy B qr s1 a0 w0) (fun u : va_W => wpost dC dI cy A u) A) (List.toArray [.int a0]) s 0 0 A) (F0 m 4 ls []) := by
    intro n4
    induction n4 with
    | zero => intro v4_1 v4_2 H locs ls r1 t2 r3 t4 hm4 hw hl; omega
    | succ n4 ih4 =>
      intro v4_1 v4_2 H locs ls r1 t2 r3 t4 hm4 hw hl
      refine lv_iload_n hx hb dX12_bits_4 rfl (lv_at hl 2 rfl) ?_
      refine lv_if_eq (tgt := 20) hx hb dX12_bits_5 (by decide) (fun c5 => ?_) (fun c5 => ?_)
      · have c5 : v4_2.toInt = (0 : Int) := wk_eq.mp c5
        refine lv_iload_n hx hb dX12_bits_20 rfl (lv_at hl 1 rfl) ?_
        exact tk_iret hC hr hlocks hK ⟨rfl, trivial⟩ hw dX12_bits_21
      · have c5 : ¬ v4_2.toInt = (0 : Int) := wk_eqF c5
        have nx7 := wk_i32 v4_1
        obtain ⟨x6, ex6⟩ : ∃ y : Int32, y = v4_1 + Int32.ofInt 1 := ⟨_, rfl⟩
        refine lv_iinc (v := x6) (lv' := [(1, .int x6), (0, .int a0), (2, .int v4_2)]) hx hb dX12_bits_8 hl (k := 1) rfl ex6.symm (by decide) rfl (fun ls hl => ?_)
        refine lv_iload_n hx hb dX12_bits_11 rfl (lv_at hl 2 rfl) ?_
        refine lv_iload_n hx hb dX12_bits_12 rfl (lv_at hl 2 rfl) ?_
        refine lv_iconst (v := 1) hx hb dX12_bits_13 (by decide) ?_
        refine lv_isub hx hb dX12_bits_14 ?_
        refine lv_topi (fun x8 ex8 => ?_)
        have ex8 : x8.toInt = v4_2.toInt - (1 : Int) := by rw [ex8]; exact wk_sub (show (-2147483648) ≤ v4_2.toInt - (1 : Int) by omega) (show v4_2.toInt - (1 : Int) ≤ 2147483647 by omega)
        refine lv_iand hx hb dX12_bits_15 ?_
        refine lv_topi (fun x9 ex9 => ?_)
        have bx9 : 0 ≤ x9.toInt ∧ x9.toInt ≤ x8.toInt := by rw [ex9]; exact wk_and (by omega)
        refine lv_istore_n (lv' := [(2, .int x9), (1, .int x6), (0, .int a0)]) hx hb dX12_bits_16 rfl hl (by decide) rfl (fun ls hl => ?_)
        refine lv_goto (tgt := 4) hx hb dX12_bits_17 (by decide) ?_
        exact ih4 x6 x9 H locs ls  (show 0 ≤ a0.toInt by omega) (show a0.toInt ≤ 63 by omega) (show 0 ≤ x9.toInt by omega) (show x9.toInt ≤ 63 by omega) (show (x9.toInt - 0).toNat < n4 by omega) hw   (lv_sub hl [2, 1, 0] rfl)
  refine lv_iconst (v := 0) hx hb dX12_bits_0 (by decide) ?_
  refine lv_istore_n (lv' := [(1, .int 0), (0, .int a0)]) hx hb dX12_bits_1 rfl hl (by decide) rfl (fun ls hl => ?_)
  refine lv_iload_n hx hb dX12_bits_2 rfl (lv_at hl 1 rfl) ?_
  refine lv_istore_n (lv' := [(2, .int a0), (1, .int 0), (0, .int a0)]) hx hb dX12_bits_3 rfl hl (by decide) rfl (fun ls hl => ?_)
  exact L4 ((a0.toInt - 0).toNat + 1) 0 a0 s.heap locs ls  (show 0 ≤ a0.toInt by omega) (show a0.toInt ≤ 63 by omega) (show 0 ≤ a0.toInt by omega) (show a0.toInt ≤ 63 by omega) (Nat.lt_succ_self _) hw   (lv_sub hl [2, 1, 0] rfl)
abbrev P_X12_isOf_6 (ad : Nat → Nat) (cy : Nat → ClassId) (B : Int) (qr : Nat) (s1 : Int) (a0 : Int32) (a1 : Int32) (w0 : va_W) : Int32 → va_W → Prop := fun r u => w0 = u ∧ ((r = 0) ∨ (r = 1))
set_option maxHeartbeats 4000000 in
set_option maxRecDepth 100000 in
theorem k_X12_isOf_6 (l : Launch) (adK adV : Nat → Nat) (dC : Nat → ClassId) (dI : Nat → Nat → Nat) (cy : Nat → ClassId) (ad : Nat → Nat) (B : Int) (hB0 : 100000 ≤ B) (hB1 : B ≤ 1073741824) (qr : Nat) (s1 : Int)  (a0 : Int32) (ra0 : 0 ≤ a0.toInt) (ta0 : a0.toInt ≤ 4095) (a1 : Int32) (w0 : va_W) (sz : Nat) (hT : TW ksM ad cy B qr 12 w0)  : Met l yX12_isOf wsX12_isOf ({ frames := 1, cells := 0, slots := 0, locals := 12 }) (va_Pc [.int a0, .int a1] (wpreS adK adV dC dI cy sz w0)) (va_Qi (P_X12_isOf_6 ad cy B qr s1 a0 a1 w0) (fun u : va_W => wpost dC dI cy (va_A w0 sz) u) (va_A w0 sz)) 0 0 (va_A w0 sz) := by
  refine Met.ofW (cc := cX12_isOf) (maxL := 2) (ret := (some .boolean)) (by decide) rfl ?_
  intro p e s m args below meth c s₁ Bk hml hv
  obtain ⟨rfl, ⟨hsz, hP, hK, hD0⟩, hE, hSR⟩ := hv
  have hx := Bk.exec
  have hb := Bk.bytes
  have hr := Bk.returns
  have hlocks := Bk.notSynchronized
  have hC : CallFix p m c cX12_isOf 2 s _ wsX12_isOf RX12 := ⟨hx, hb, hml, findClass_of_methodNamed Bk.named, atoms_spec (ws := wsX12_isOf) Bk.pre⟩
  subst hsz
  have hD := hD0.self (sz := s.heap.size)
  generalize hAe : va_A w0 s.heap.size = A at hD hE ⊢
  have hA : ∀ q : Nat, s.heap.size ≤ q → A q := fun q h => by rw [← hAe]; exact Or.inr h
  have hw : Wd dC dI A s.heap s.heap [] w0 := ⟨hP, hD, va_S.rf⟩
  have hF : FE ksM ([] : List (Nat × Nat × Nat)) w0 w0 := FE.rf
  have hl := lv_entry ([.int a0, .int a1]) (n := 2) (Nat.le_of_ble_eq_true rfl)
  rw [lg_entry_eq]
  generalize (lg_sl ([.int a0, .int a1]) ++ List.replicate (2 - (lg_sl ([.int a0, .int a1])).length) Slot.unset).toArray = ls at hl ⊢
  have hl : lv_has ls 2 [(0, .int a0), (1, .int a1)] := hl
  generalize hloc : ([] : List Loc) = locs at hw ⊢
  refine lv_iload_n hx hb dX12_isOf_0 rfl (lv_at hl 0 rfl) ?_
  refine lv_iload_n hx hb dX12_isOf_1 rfl (lv_at hl 1 rfl) ?_
  refine lv_ishr hx hb dX12_isOf_2 ?_
  refine lv_topi (fun x1 ex1 => ?_)
  have bx1 : 0 ≤ x1.toInt ∧ x1.toInt ≤ a0.toInt := by rw [ex1]; exact wk_shr (by omega)
  refine lv_iconst (v := 1) hx hb dX12_isOf_3 (by decide) ?_
  refine lv_iand hx hb dX12_isOf_4 ?_
  refine lv_topi (fun x2 ex2 => ?_)
  have bx2 : 0 ≤ x2.toInt ∧ x2.toInt ≤ (1 : Int) := by rw [ex2]; exact wk_and (by decide)
  refine lv_iconst (v := 1) hx hb dX12_isOf_5 (by decide) ?_
  refine lv_icmp_ne (tgt := 13) hx hb dX12_isOf_6 (by decide) (fun c3 => ?_) (fun c3 => ?_)
  · have c3 : ¬ x2.toInt = (1 : Int) := wk_eqF c3
    refine lv_iconst (v := 0) hx hb dX12_isOf_13 (by decide) ?_
    exact tk_zret hC hr rfl hlocks hK ⟨rfl, (Or.inl rfl)⟩ hw dX12_isOf_14
  · have c3 : x2.toInt = (1 : Int) := wk_eq.mp c3
    refine lv_iconst (v := 1) hx hb dX12_isOf_9 (by decide) ?_
    refine lv_goto (tgt := 14) hx hb dX12_isOf_10 (by decide) ?_
    exact tk_zret hC hr rfl hlocks hK ⟨rfl, (Or.inr rfl)⟩ hw dX12_isOf_14
abbrev P_X12_isOf_7 (ad : Nat → Nat) (cy : Nat → ClassId) (B : Int) (qr : Nat) (s1 : Int) (a0 : Int32) (a1 : Int32) (w0 : va_W) : Int32 → va_W → Prop := fun r u => w0 = u ∧ ((r = 0) ∨ (r = 1))
set_option maxHeartbeats 4000000 in
set_option maxRecDepth 100000 in
theorem k_X12_isOf_7 (l : Launch) (adK adV : Nat → Nat) (dC : Nat → ClassId) (dI : Nat → Nat → Nat) (cy : Nat → ClassId) (ad : Nat → Nat) (B : Int) (hB0 : 100000 ≤ B) (hB1 : B ≤ 1073741824) (qr : Nat) (s1 : Int)  (a0 : Int32) (ra0 : 1 ≤ a0.toInt) (ta0 : a0.toInt ≤ 1023) (a1 : Int32) (ra1 : 0 ≤ a1.toInt) (ta1 : a1.toInt ≤ 9) (w0 : va_W) (sz : Nat) (hT : TW ksM ad cy B qr 12 w0)  : Met l yX12_isOf wsX12_isOf ({ frames := 1, cells := 0, slots := 0, locals := 12 }) (va_Pc [.int a0, .int a1] (wpreS adK adV dC dI cy sz w0)) (va_Qi (P_X12_isOf_7 ad cy B qr s1 a0 a1 w0) (fun u : va_W => wpost dC dI cy (va_A w0 sz) u) (va_A w0 sz)) 0 0 (va_A w0 sz) := by
  refine Met.ofW (cc := cX12_isOf) (maxL := 2) (ret := (some .boolean)) (by decide) rfl ?_
  intro p e s m args below meth c s₁ Bk hml hv
  obtain ⟨rfl, ⟨hsz, hP, hK, hD0⟩, hE, hSR⟩ := hv
  have hx := Bk.exec
  have hb := Bk.bytes
  have hr := Bk.returns
  have hlocks := Bk.notSynchronized
  have hC : CallFix p m c cX12_isOf 2 s _ wsX12_isOf RX12 := ⟨hx, hb, hml, findClass_of_methodNamed Bk.named, atoms_spec (ws := wsX12_isOf) Bk.pre⟩
  subst hsz
  have hD := hD0.self (sz := s.heap.size)
  generalize hAe : va_A w0 s.heap.size = A at hD hE ⊢
  have hA : ∀ q : Nat, s.heap.size ≤ q → A q := fun q h => by rw [← hAe]; exact Or.inr h
  have hw : Wd dC dI A s.heap s.heap [] w0 := ⟨hP, hD, va_S.rf⟩
  have hF : FE ksM ([] : List (Nat × Nat × Nat)) w0 w0 := FE.rf
  have hl := lv_entry ([.int a0, .int a1]) (n := 2) (Nat.le_of_ble_eq_true rfl)
  rw [lg_entry_eq]
  generalize (lg_sl ([.int a0, .int a1]) ++ List.replicate (2 - (lg_sl ([.int a0, .int a1])).length) Slot.unset).toArray = ls at hl ⊢
  have hl : lv_has ls 2 [(0, .int a0), (1, .int a1)] := hl
  generalize hloc : ([] : List Loc) = locs at hw ⊢
  refine lv_iload_n hx hb dX12_isOf_0 rfl (lv_at hl 0 rfl) ?_
  refine lv_iload_n hx hb dX12_isOf_1 rfl (lv_at hl 1 rfl) ?_
  refine lv_ishr hx hb dX12_isOf_2 ?_
  refine lv_topi (fun x1 ex1 => ?_)
  have bx1 : 0 ≤ x1.toInt ∧ x1.toInt ≤ a0.toInt := by rw [ex1]; exact wk_shr (by omega)
  refine lv_iconst (v := 1) hx hb dX12_isOf_3 (by decide) ?_
  refine lv_iand hx hb dX12_isOf_4 ?_
  refine lv_topi (fun x2 ex2 => ?_)
  have bx2 : 0 ≤ x2.toInt ∧ x2.toInt ≤ (1 : Int) := by rw [ex2]; exact wk_and (by decide)
  refine lv_iconst (v := 1) hx hb dX12_isOf_5 (by decide) ?_
  refine lv_icmp_ne (tgt := 13) hx hb dX12_isOf_6 (by decide) (fun c3 => ?_) (fun c3 => ?_)
  · have c3 : ¬ x2.toInt = (1 : Int) := wk_eqF c3
    refine lv_iconst (v := 0) hx hb dX12_isOf_13 (by decide) ?_
    exact tk_zret hC hr rfl hlocks hK ⟨rfl, (Or.inl rfl)⟩ hw dX12_isOf_14
  · have c3 : x2.toInt = (1 : Int) := wk_eq.mp c3
    refine lv_iconst (v := 1) hx hb dX12_isOf_9 (by decide) ?_
    refine lv_goto (tgt := 14) hx hb dX12_isOf_10 (by decide) ?_
    exact tk_zret hC hr rfl hlocks hK ⟨rfl, (Or.inr rfl)⟩ hw dX12_isOf_14
abbrev P_X12_comesTo_1 (ad : Nat → Nat) (cy : Nat → ClassId) (B : Int) (qr : Nat) (s1 : Int) (a1 : Int32) (a2 : Int32) (a3 : Int32) (w0 : va_W) : Int32 → va_W → Prop := fun r u => w0 = u ∧ ((1 ≤ r.toInt ∧ r.toInt ≤ 1023))
set_option maxHeartbeats 4000000 in
set_option maxRecDepth 100000 in
theorem k_X12_comesTo_1 (l : Launch) (adK adV : Nat → Nat) (dC : Nat → ClassId) (dI : Nat → Nat → Nat) (cy : Nat → ClassId) (ad : Nat → Nat) (B : Int) (hB0 : 100000 ≤ B) (hB1 : B ≤ 1073741824) (qr : Nat) (s1 : Int)  (a1 : Int32) (ra1 : 0 ≤ a1.toInt) (ta1 : a1.toInt ≤ 6) (a2 : Int32) (ra2 : 0 ≤ a2.toInt) (ta2 : a2.toInt ≤ 4095) (a3 : Int32) (ra3 : 0 ≤ a3.toInt) (ta3 : a3.toInt ≤ 9) (w0 : va_W) (sz : Nat) (hT : TW ksM ad cy B qr 12 w0)  : Met l yX12_comesTo wsX12_comesTo ({ frames := 2, cells := 0, slots := 0, locals := 34 }) (va_Pc [.ref (ad 0), .int a1, .int a2, .int a3] (wpreS adK adV dC dI cy sz w0)) (va_Qi (P_X12_comesTo_1 ad cy B qr s1 a1 a2 a3 w0) (fun u : va_W => wpost dC dI cy (va_A w0 sz) u) (va_A w0 sz)) 0 0 (va_A w0 sz) := by
  refine Met.ofW (cc := cX12_comesTo) (maxL := 9) (ret := (some .int)) (by decide) rfl ?_
  intro p e s m args below meth c s₁ Bk hml hv
  obtain ⟨rfl, ⟨hsz, hP, hK, hD0⟩, hE, hSR⟩ := hv
  have hx := Bk.exec
  have hb := Bk.bytes
  have hr := Bk.returns
  have hlocks := Bk.notSynchronized
  have hC : CallFix p m c cX12_comesTo 9 s _ wsX12_comesTo RX12 := ⟨hx, hb, hml, findClass_of_methodNamed Bk.named, atoms_spec (ws := wsX12_comesTo) Bk.pre⟩
  subst hsz
  have hD := hD0.self (sz := s.heap.size)
  generalize hAe : va_A w0 s.heap.size = A at hD hE ⊢
  have hA : ∀ q : Nat, s.heap.size ≤ q → A q := fun q h => by rw [← hAe]; exact Or.inr h
  have hw : Wd dC dI A s.heap s.heap [] w0 := ⟨hP, hD, va_S.rf⟩
  have hF : FE ksM ([] : List (Nat × Nat × Nat)) w0 w0 := FE.rf
  have hl := lv_entry ([.ref (ad 0), .int a1, .int a2, .int a3]) (n := 9) (Nat.le_of_ble_eq_true rfl)
  rw [lg_entry_eq]
  generalize (lg_sl ([.ref (ad 0), .int a1, .int a2, .int a3]) ++ List.replicate (9 - (lg_sl ([.ref (ad 0), .int a1, .int a2, .int a3])).length) Slot.unset).toArray = ls at hl ⊢
  have hl : lv_has ls 9 [(0, .ref (ad 0)), (1, .int a1), (2, .int a2), (3, .int a3)] := hl
  generalize hloc : ([] : List Loc) = locs at hw ⊢
  have hinX12 : ∀ w ∈ u_ws RX12 TX12 42, w ∈ wsX12_comesTo := fun _ h => List.mem_cons_of_mem _ (List.mem_append_right _ (h))
  have L8 : ∀ (n8 : Nat) (v8_4 : Int32) (v8_5 : Int32) (H : Heap) (locs : List Loc) (ls : Array Slot), 0 ≤ a1.toInt → a1.toInt ≤ 6 → 0 ≤ a2.toInt → a2.toInt ≤ 4095 → 0 ≤ a3.toInt → a3.toInt ≤ 9 → 1 ≤ v8_4.toInt → v8_4.toInt ≤ 1023 → 0 ≤ v8_5.toInt → v8_5.toInt ≤ 1023 → v8_5.toInt ≤ v8_4.toInt + 0 → (1023 - v8_5.toInt).toNat < n8 → Wd dC dI A s.heap H locs w0 → lv_has ls 9 [(0, .ref (ad 0)), (1, .int a1), (2, .int a2), (3, .int a3), (4, .int v8_4), (5, .int v8_5)] → W p l e ({ frames := 2, cells := 0, slots := 0, locals := 34 }) s m (List.toArray [.ref (ad 0), .int a1, .int a2, .int a3]) below meth c H locs 0 0 (MQ below (va_Qi (P_X12_comesTo_1 ad cy B qr s1 a1 a2 a3 w0) (fun u : va_W => wpost dC dI cy A u) A) (List.toArray [.ref (ad 0), .int a1, .int a2, .int a3]) s 0 0 A) (F0 m 8 ls []) := by
    intro n8
    induction n8 with
    | zero => intro v8_4 v8_5 H locs ls r1 t2 r3 t4 r5 t6 r7 t8 r9 t10 i11 hm8 hw hl; omega
    | succ n8 ih8 =>
      intro v8_4 v8_5 H locs ls r1 t2 r3 t4 r5 t6 r7 t8 r9 t10 i11 hm8 hw hl
      have L25 : ∀ (n25 : Nat) (v25_4 : Int32) (v25_6 : Int32) (v25_7 : Int32) (H : Heap) (locs : List Loc) (ls : Array Slot), 0 ≤ a1.toInt → a1.toInt ≤ 6 → 0 ≤ a2.toInt → a2.toInt ≤ 4095 → 0 ≤ a3.toInt → a3.toInt ≤ 9 → 1 ≤ v25_4.toInt → v25_4.toInt ≤ 1023 → 1 ≤ v8_4.toInt → v8_4.toInt ≤ 1023 → 0 ≤ v25_7.toInt → v25_7.toInt ≤ 12 → v8_4.toInt ≤ v25_4.toInt + 0 → (12 - v25_7.toInt).toNat < n25 → Wd dC dI A s.heap H locs w0 → lv_has ls 9 [(0, .ref (ad 0)), (1, .int a1), (2, .int a2), (3, .int a3), (4, .int v25_4), (5, .int v8_4), (6, .int v25_6), (7, .int v25_7)] → W p l e ({ frames := 2, cells := 0, slots := 0, locals := 34 }) s m (List.toArray [.ref (ad 0), .int a1, .int a2, .int a3]) below meth c H locs 0 0 (MQ below (va_Qi (P_X12_comesTo_1 ad cy B qr s1 a1 a2 a3 w0) (fun u : va_W => wpost dC dI cy A u) A) (List.toArray [.ref (ad 0), .int a1, .int a2, .int a3]) s 0 0 A) (F0 m 25 ls []) := by
        intro n25
        induction n25 with
        | zero => intro v25_4 v25_6 v25_7 H locs ls r12 t13 r14 t15 r16 t17 r18 t19 r20 t21 r22 t23 i24 hm25 hw hl; omega
        | succ n25 ih25 =>
          intro v25_4 v25_6 v25_7 H locs ls r12 t13 r14 t15 r16 t17 r18 t19 r20 t21 r22 t23 i24 hm25 hw hl
          have J107 : ∀ (v107_4 : Int32) (v107_6 : Int32) (f107_12_1 : Int32) (H : Heap) (locs : List Loc) (ls : Array Slot), 0 ≤ a1.toInt → a1.toInt ≤ 6 → 0 ≤ a2.toInt → a2.toInt ≤ 4095 → 0 ≤ a3.toInt → a3.toInt ≤ 9 → 1 ≤ v107_4.toInt → v107_4.toInt ≤ 1023 → 1 ≤ v8_4.toInt → v8_4.toInt ≤ 1023 → 0 ≤ v25_7.toInt → v25_7.toInt ≤ 11 → 1 ≤ f107_12_1.toInt → f107_12_1.toInt ≤ 12 → v8_4.toInt ≤ v107_4.toInt + 0 → Wd dC dI A s.heap H locs w0 → gi w0 12 1 = f107_12_1 → lv_has ls 9 [(0, .ref (ad 0)), (1, .int a1), (2, .int a2), (3, .int a3), (4, .int v107_4), (5, .int v8_4), (6, .int v107_6), (7, .int v25_7)] → W p l e ({ frames := 2, cells := 0, slots := 0, locals := 34 }) s m (List.toArray [.ref (ad 0), .int a1, .int a2, .int a3]) below meth c H locs 0 0 (MQ below (va_Qi (P_X12_comesTo_1 ad cy B qr s1 a1 a2 a3 w0) (fun u : va_W => wpost dC dI cy A u) A) (List.toArray [.ref (ad 0), .int a1, .int a2, .int a3]) s 0 0 A) (F0 m 107 ls []) := by
            intro v107_4 v107_6 f107_12_1 H locs ls r25 t26 r27 t28 r29 t30 r31 t32 r33 t34 r35 t36 r37 t38 i40 hw c39 hl
            obtain ⟨x41, ex41⟩ : ∃ y : Int32, y = v25_7 + Int32.ofInt 1 := ⟨_, rfl⟩
            refine lv_iinc (v := x41) (lv' := [(7, .int x41), (0, .ref (ad 0)), (1, .int a1), (2, .int a2), (3, .int a3), (4, .int v107_4), (5, .int v8_4), (6, .int v107_6)]) hx hb dX12_comesTo_107 hl (k := 7) rfl ex41.symm (by decide) rfl (fun ls hl => ?_)
            have ex41 : x41.toInt = v25_7.toInt + 1 := by rw [ex41]; exact wk_add (y := 1) (show -2147483648 ≤ v25_7.toInt + 1 by omega) (show v25_7.toInt + 1 ≤ 2147483647 by omega)
            refine lv_goto (tgt := 25) hx hb dX12_comesTo_110 (by decide) ?_
            exact ih25 v107_4 v107_6 x41 H locs ls  (show 0 ≤ a1.toInt by omega) (show a1.toInt ≤ 6 by omega) (show 0 ≤ a2.toInt by omega) (show a2.toInt ≤ 4095 by omega) (show 0 ≤ a3.toInt by omega) (show a3.toInt ≤ 9 by omega) (show 1 ≤ v107_4.toInt by omega) (show v107_4.toInt ≤ 1023 by omega) (show 1 ≤ v8_4.toInt by omega) (show v8_4.toInt ≤ 1023 by omega) (show 0 ≤ x41.toInt by omega) (show x41.toInt ≤ 12 by omega) (show v8_4.toInt ≤ v107_4.toInt + 0 by omega) (show (12 - x41.toInt).toNat < n25 by omega) hw   (lv_sub hl [1, 2, 3, 4, 5, 6, 7, 0] rfl)
          refine lv_iload hx hb dX12_comesTo_25 (lv_at hl 7 rfl) ?_
          refine lv_aload_n hx hb dX12_comesTo_27 rfl (lv_at hl 0 rfl) ?_
          refine tk_getA hC hK hw hT hinX12 kM_at0 (by decide) rfl 26 (by decide) (List.mem_of_getElem? (i := 1) rfl) rfl rfl dX12_comesTo_28 ?_
          refine lv_iconst (v := 1) hx hb dX12_comesTo_31 (by decide) ?_
          refine tk_ialdR hC hK hw hT kM_at12 rfl (by decide) (by decide) dX12_comesTo_32 (fun x42 c43 Ex42 => ?_)
          have bx42 : 0 ≤ x42.toInt ∧ x42.toInt ≤ 12 := (tk_rg1 rfl).mp Ex42
          have c43 : gi w0 12 1 = x42 := c43
          refine lv_icmp_ge (tgt := 113) hx hb dX12_comesTo_33 (by decide) (fun c44 => ?_) (fun c44 => ?_)
          · have c44 : x42.toInt ≤ v25_7.toInt := wk_le.mp c44
            refine lv_goto (tgt := 8) hx hb dX12_comesTo_113 (by decide) ?_
            exact ih8 v25_4 v8_4 H locs ls  (show 0 ≤ a1.toInt by omega) (show a1.toInt ≤ 6 by omega) (show 0 ≤ a2.toInt by omega) (show a2.toInt ≤ 4095 by omega) (show 0 ≤ a3.toInt by omega) (show a3.toInt ≤ 9 by omega) (show 1 ≤ v25_4.toInt by omega) (show v25_4.toInt ≤ 1023 by omega) (show 0 ≤ v8_4.toInt by omega) (show v8_4.toInt ≤ 1023 by omega) (show v8_4.toInt ≤ v25_4.toInt + 0 by omega) (show (1023 - v8_4.toInt).toNat < n8 by omega) hw   (lv_sub hl [0, 1, 2, 3, 4, 5] rfl)
          · have c44 : v25_7.toInt < x42.toInt := wk_leF c44
            refine lv_aload_n hx hb dX12_comesTo_36 rfl (lv_at hl 0 rfl) ?_
            refine lv_iload hx hb dX12_comesTo_37 (lv_at hl 7 rfl) ?_
            refine lv_iconst (v := 3) hx hb dX12_comesTo_39 (by decide) ?_
            refine lv_iload_n hx hb dX12_comesTo_40 rfl (lv_at hl 1 rfl) ?_
            refine lv_iadd hx hb dX12_comesTo_41 ?_
            refine lv_topi (fun x45 ex45 => ?_)
            have ex45 : x45.toInt = (3 : Int) + a1.toInt := by rw [ex45]; exact wk_add (show (-2147483648) ≤ (3 : Int) + a1.toInt by omega) (show (3 : Int) + a1.toInt ≤ 2147483647 by omega)
            refine tk_Vi hC hK hw hT hA hE hSR kM_at0 (by decide) rfl (k_X12_streetOf_4 l adK adV dC dI cy ad B (by omega) (by omega) qr s1   v25_7 (show 0 ≤ v25_7.toInt by omega) (show v25_7.toInt ≤ 11 by omega) x45 (show 3 ≤ x45.toInt by omega) (show x45.toInt ≤ 9 by omega) w0 H.size hT ) (cwV 2 hC.2.2.2.2 gX12_comesTo_X12_streetOf rfl rfl rfl (by decide +kernel) ⟨Nat.le_of_ble_eq_true rfl, Nat.le_of_ble_eq_true rfl⟩) rfl hl.1 rfl (Nat.le_of_ble_eq_true rfl) dX12_comesTo_42 (fun r46 w48 H locs hp47 hw => ?_)
            obtain ⟨rfl, hg52⟩ := hp47
            obtain ⟨g50, g51⟩ := hg52
            refine lv_if_ne (tgt := 51) hx hb dX12_comesTo_45 (by decide) (fun c53 => ?_) (fun c53 => ?_)
            · have c53 : ¬ r46.toInt = (0 : Int) := wk_eqF c53
              refine lv_iload_n hx hb dX12_comesTo_51 rfl (lv_at hl 2 rfl) ?_
              refine lv_iload hx hb dX12_comesTo_52 (lv_at hl 6 rfl) ?_
              refine tk_Si hC hK hw hT hA hE hSR (k_X12_isOf_6 l adK adV dC dI cy ad B (by omega) (by omega) qr s1   a2 (show 0 ≤ a2.toInt by omega) (show a2.toInt ≤ 4095 by omega) v25_6 w0 H.size hT ) (va_cwS 2 hC.2.2.2.2 gX12_comesTo_X12_isOf rfl rfl rfl (by decide +kernel) ⟨Nat.le_of_ble_eq_true rfl, Nat.le_of_ble_eq_true rfl⟩) rfl hl.1 rfl (Nat.le_of_ble_eq_true rfl) dX12_comesTo_54 (fun r54 w56 H locs hp55 hw => ?_)
              obtain ⟨rfl, hg58⟩ := hp55
              rcases hg58 with rfl | rfl
              · refine lv_if_eq (tgt := 64) hx hb dX12_comesTo_57 (by decide) (fun _ => ?_) (fun c => absurd (by decide) c)
                refine lv_iconst (v := 0) hx hb dX12_comesTo_64 (by decide) ?_
                refine lv_istore (lv' := [(8, .int 0), (0, .ref (ad 0)), (1, .int a1), (2, .int a2), (3, .int a3), (4, .int v25_4), (5, .int v8_4), (6, .int v25_6), (7, .int v25_7)]) hx hb dX12_comesTo_65 hl (by decide) rfl (fun ls hl => ?_)
                refine lv_iload hx hb dX12_comesTo_67 (lv_at hl 5 rfl) ?_
                refine lv_iload hx hb dX12_comesTo_69 (lv_at hl 5 rfl) ?_
                refine lv_aload_n hx hb dX12_comesTo_71 rfl (lv_at hl 1 rfl) ?_
                refine lv_iload hx hb dX12_comesTo_72 (lv_at hl 8 rfl) ?_
                refine lv_iload hx hb dX12_comesTo_74 (lv_at hl 0 rfl) ?_
                refine tk_Vi hC hK hw hT hA hE hSR kM_at0 (by decide) rfl (k_X12_streetOf_2 l adK adV dC dI cy ad B (by omega) (by omega) qr s1   v25_7 (show 0 ≤ v25_7.toInt by omega) (show v25_7.toInt ≤ 11 by omega) w0 H.size hT ) (cwV 2 hC.2.2.2.2 gX12_comesTo_X12_streetOf rfl rfl rfl (by decide +kernel) ⟨Nat.le_of_ble_eq_true rfl, Nat.le_of_ble_eq_true rfl⟩) rfl hl.1 rfl (Nat.le_of_ble_eq_true rfl) dX12_comesTo_76 (fun r59 w61 H locs hp60 hw => ?_)
                obtain ⟨rfl, hg66⟩ := hp60
                obtain ⟨g63, g64, c65⟩ := hg66
                refine tk_Si hC hK hw hT hA hE hSR (k_X12_isOf_7 l adK adV dC dI cy ad B (by omega) (by omega) qr s1   v25_4 (show 1 ≤ v25_4.toInt by omega) (show v25_4.toInt ≤ 1023 by omega) r59 (show 0 ≤ r59.toInt by omega) (show r59.toInt ≤ 9 by omega) w0 H.size hT ) (va_cwS 2 hC.2.2.2.2 gX12_comesTo_X12_isOf rfl rfl rfl (by decide +kernel) ⟨Nat.le_of_ble_eq_true rfl, Nat.le_of_ble_eq_true rfl⟩) rfl hl.1 rfl (Nat.le_of_ble_eq_true rfl) dX12_comesTo_79 (fun r67 w69 H locs hp68 hw => ?_)
                obtain ⟨rfl, hg71⟩ := hp68
                rcases hg71 with rfl | rfl
                · refine lv_if_eq (tgt := 100) hx hb dX12_comesTo_82 (by decide) (fun _ => ?_) (fun c => absurd (by decide) c)
                  refine lv_iconst (v := 0) hx hb dX12_comesTo_100 (by decide) ?_
                  refine lv_ior hx hb dX12_comesTo_101 ?_
                  refine lv_topi (fun x72 ex72 => ?_)
                  have bx72 : 0 ≤ x72.toInt ∧ x72.toInt < 1024 := by rw [ex72]; exact wk_or 10 (by decide) (by omega) (by omega) (by decide) (by decide)
                  have mx72 : v25_4.toInt ≤ x72.toInt ∧ (0 : Int) ≤ x72.toInt := by rw [ex72]; exact wk_orL 10 (by decide) (by omega) (by omega) (by decide) (by decide)
                  refine lv_istore (lv' := [(4, .int x72), (8, .int 0), (0, .ref (ad 0)), (1, .int a1), (2, .int a2), (3, .int a3), (5, .int v8_4), (6, .int v25_6), (7, .int v25_7)]) hx hb dX12_comesTo_102 hl (by decide) rfl (fun ls hl => ?_)
                  have nx74 := wk_i32 v25_6
                  obtain ⟨x73, ex73⟩ : ∃ y : Int32, y = v25_6 + Int32.ofInt 1 := ⟨_, rfl⟩
                  refine lv_iinc (v := x73) (lv' := [(6, .int x73), (4, .int x72), (8, .int 0), (0, .ref (ad 0)), (1, .int a1), (2, .int a2), (3, .int a3), (5, .int v8_4), (7, .int v25_7)]) hx hb dX12_comesTo_104 hl (k := 7) rfl ex73.symm (by decide) rfl (fun ls hl => ?_)
                  exact J107 x72 x73 x42 H locs ls  (show 0 ≤ a1.toInt by omega) (show a1.toInt ≤ 6 by omega) (show 0 ≤ a2.toInt by omega) (show a2.toInt ≤ 4095 by omega) (show 0 ≤ a3.toInt by omega) (show a3.toInt ≤ 9 by omega) (show 1 ≤ x72.toInt by omega) (show x72.toInt ≤ 1023 by omega) (show 1 ≤ v8_4.toInt by omega) (show v8_4.toInt ≤ 1023 by omega) (show 0 ≤ v25_7.toInt by omega) (show v25_7.toInt ≤ 11 by omega) (show 1 ≤ x42.toInt by omega) (show x42.toInt ≤ 12 by omega) (show v8_4.toInt ≤ x72.toInt + 0 by omega)  hw  c43 (lv_sub hl [3, 4, 5, 6, 1, 7, 0, 8] rfl)
                · refine lv_if_eq (tgt := 100) hx hb dX12_comesTo_82 (by decide) (fun c => absurd c (by decide)) (fun _ => ?_)
                  refine lv_iconst (v := 1) hx hb dX12_comesTo_85 (by decide) ?_
                  refine lv_aload_n hx hb dX12_comesTo_86 rfl (lv_at hl 1 rfl) ?_
                  refine lv_iload hx hb dX12_comesTo_87 (lv_at hl 8 rfl) ?_
                  refine lv_iconst (v := 1) hx hb dX12_comesTo_89 (by decide) ?_
                  refine lv_iload hx hb dX12_comesTo_90 (lv_at hl 0 rfl) ?_
                  refine lv_isub hx hb dX12_comesTo_92 ?_
                  refine wk_top 1 (by decide) ?_
                  refine tk_Vi hC hK hw hT hA hE hSR kM_at0 (by decide) rfl (k_X12_streetOf_3 l adK adV dC dI cy ad B (by omega) (by omega) qr s1   v25_7 (show 0 ≤ v25_7.toInt by omega) (show v25_7.toInt ≤ 11 by omega) w0 H.size hT ) (cwV 2 hC.2.2.2.2 gX12_comesTo_X12_streetOf rfl rfl rfl (by decide +kernel) ⟨Nat.le_of_ble_eq_true rfl, Nat.le_of_ble_eq_true rfl⟩) rfl hl.1 rfl (Nat.le_of_ble_eq_true rfl) dX12_comesTo_93 (fun r75 w77 H locs hp76 hw => ?_)
                  obtain ⟨rfl, hg82⟩ := hp76
                  obtain ⟨g79, g80, c81⟩ := hg82
                  refine lv_ishl hx hb dX12_comesTo_96 ?_
                  refine lv_topi (fun x83 ex83 => ?_)
                  have bx83 : 1 ≤ x83.toInt ∧ x83.toInt ≤ 512 := by rw [ex83]; exact wk_shl1 9 (by decide) (by omega) (by omega)
                  refine lv_goto (tgt := 101) hx hb dX12_comesTo_97 (by decide) ?_
                  refine lv_ior hx hb dX12_comesTo_101 ?_
                  refine lv_topi (fun x84 ex84 => ?_)
                  have bx84 : 0 ≤ x84.toInt ∧ x84.toInt < 1024 := by rw [ex84]; exact wk_or 10 (by decide) (by omega) (by omega) (by omega) (by omega)
                  have mx84 : v25_4.toInt ≤ x84.toInt ∧ x83.toInt ≤ x84.toInt := by rw [ex84]; exact wk_orL 10 (by decide) (by omega) (by omega) (by omega) (by omega)
                  refine lv_istore (lv' := [(4, .int x84), (8, .int 0), (0, .ref (ad 0)), (1, .int a1), (2, .int a2), (3, .int a3), (5, .int v8_4), (6, .int v25_6), (7, .int v25_7)]) hx hb dX12_comesTo_102 hl (by decide) rfl (fun ls hl => ?_)
                  have nx86 := wk_i32 v25_6
                  obtain ⟨x85, ex85⟩ : ∃ y : Int32, y = v25_6 + Int32.ofInt 1 := ⟨_, rfl⟩
                  refine lv_iinc (v := x85) (lv' := [(6, .int x85), (4, .int x84), (8, .int 0), (0, .ref (ad 0)), (1, .int a1), (2, .int a2), (3, .int a3), (5, .int v8_4), (7, .int v25_7)]) hx hb dX12_comesTo_104 hl (k := 7) rfl ex85.symm (by decide) rfl (fun ls hl => ?_)
                  exact J107 x84 x85 x42 H locs ls  (show 0 ≤ a1.toInt by omega) (show a1.toInt ≤ 6 by omega) (show 0 ≤ a2.toInt by omega) (show a2.toInt ≤ 4095 by omega) (show 0 ≤ a3.toInt by omega) (show a3.toInt ≤ 9 by omega) (show 1 ≤ x84.toInt by omega) (show x84.toInt ≤ 1023 by omega) (show 1 ≤ v8_4.toInt by omega) (show v8_4.toInt ≤ 1023 by omega) (show 0 ≤ v25_7.toInt by omega) (show v25_7.toInt ≤ 11 by omega) (show 1 ≤ x42.toInt by omega) (show x42.toInt ≤ 12 by omega) (show v8_4.toInt ≤ x84.toInt + 0 by omega)  hw  c43 (lv_sub hl [3, 4, 5, 6, 1, 7, 0, 8] rfl)
              · refine lv_if_eq (tgt := 64) hx hb dX12_comesTo_57 (by decide) (fun c => absurd c (by decide)) (fun _ => ?_)
                refine lv_iconst (v := 1) hx hb dX12_comesTo_60 (by decide) ?_
                refine lv_goto (tgt := 65) hx hb dX12_comesTo_61 (by decide) ?_
                refine lv_istore (lv' := [(8, .int 1), (0, .ref (ad 0)), (1, .int a1), (2, .int a2), (3, .int a3), (4, .int v25_4), (5, .int v8_4), (6, .int v25_6), (7, .int v25_7)]) hx hb dX12_comesTo_65 hl (by decide) rfl (fun ls hl => ?_)
                refine lv_iload hx hb dX12_comesTo_67 (lv_at hl 5 rfl) ?_
                refine lv_iload hx hb dX12_comesTo_69 (lv_at hl 5 rfl) ?_
                refine lv_aload_n hx hb dX12_comesTo_71 rfl (lv_at hl 1 rfl) ?_
                refine lv_iload hx hb dX12_comesTo_72 (lv_at hl 8 rfl) ?_
                refine lv_iload hx hb dX12_comesTo_74 (lv_at hl 0 rfl) ?_
                refine tk_Vi hC hK hw hT hA hE hSR kM_at0 (by decide) rfl (k_X12_streetOf_3 l adK adV dC dI cy ad B (by omega) (by omega) qr s1   v25_7 (show 0 ≤ v25_7.toInt by omega) (show v25_7.toInt ≤ 11 by omega) w0 H.size hT ) (cwV 2 hC.2.2.2.2 gX12_comesTo_X12_streetOf rfl rfl rfl (by decide +kernel) ⟨Nat.le_of_ble_eq_true rfl, Nat.le_of_ble_eq_true rfl⟩) rfl hl.1 rfl (Nat.le_of_ble_eq_true rfl) dX12_comesTo_76 (fun r87 w89 H locs hp88 hw => ?_)
                obtain ⟨rfl, hg94⟩ := hp88
                obtain ⟨g91, g92, c93⟩ := hg94
                refine tk_Si hC hK hw hT hA hE hSR (k_X12_isOf_7 l adK adV dC dI cy ad B (by omega) (by omega) qr s1   v25_4 (show 1 ≤ v25_4.toInt by omega) (show v25_4.toInt ≤ 1023 by omega) r87 (show 0 ≤ r87.toInt by omega) (show r87.toInt ≤ 9 by omega) w0 H.size hT ) (va_cwS 2 hC.2.2.2.2 gX12_comesTo_X12_isOf rfl rfl rfl (by decide +kernel) ⟨Nat.le_of_ble_eq_true rfl, Nat.le_of_ble_eq_true rfl⟩) rfl hl.1 rfl (Nat.le_of_ble_eq_true rfl) dX12_comesTo_79 (fun r95 w97 H locs hp96 hw => ?_)
                obtain ⟨rfl, hg99⟩ := hp96
                rcases hg99 with rfl | rfl
                · refine lv_if_eq (tgt := 100) hx hb dX12_comesTo_82 (by decide) (fun _ => ?_) (fun c => absurd (by decide) c)
                  refine lv_iconst (v := 0) hx hb dX12_comesTo_100 (by decide) ?_
                  refine lv_ior hx hb dX12_comesTo_101 ?_
                  refine lv_topi (fun x100 ex100 => ?_)
                  have bx100 : 0 ≤ x100.toInt ∧ x100.toInt < 1024 := by rw [ex100]; exact wk_or 10 (by decide) (by omega) (by omega) (by decide) (by decide)
                  have mx100 : v25_4.toInt ≤ x100.toInt ∧ (0 : Int) ≤ x100.toInt := by rw [ex100]; exact wk_orL 10 (by decide) (by omega) (by omega) (by decide) (by decide)
                  refine lv_istore (lv' := [(4, .int x100), (8, .int 1), (0, .ref (ad 0)), (1, .int a1), (2, .int a2), (3, .int a3), (5, .int v8_4), (6, .int v25_6), (7, .int v25_7)]) hx hb dX12_comesTo_102 hl (by decide) rfl (fun ls hl => ?_)
                  have nx102 := wk_i32 v25_6
                  obtain ⟨x101, ex101⟩ : ∃ y : Int32, y = v25_6 + Int32.ofInt 1 := ⟨_, rfl⟩
                  refine lv_iinc (v := x101) (lv' := [(6, .int x101), (4, .int x100), (8, .int 1), (0, .ref (ad 0)), (1, .int a1), (2, .int a2), (3, .int a3), (5, .int v8_4), (7, .int v25_7)]) hx hb dX12_comesTo_104 hl (k := 7) rfl ex101.symm (by decide) rfl (fun ls hl => ?_)
                  exact J107 x100 x101 x42 H locs ls  (show 0 ≤ a1.toInt by omega) (show a1.toInt ≤ 6 by omega) (show 0 ≤ a2.toInt by omega) (show a2.toInt ≤ 4095 by omega) (show 0 ≤ a3.toInt by omega) (show a3.toInt ≤ 9 by omega) (show 1 ≤ x100.toInt by omega) (show x100.toInt ≤ 1023 by omega) (show 1 ≤ v8_4.toInt by omega) (show v8_4.toInt ≤ 1023 by omega) (show 0 ≤ v25_7.toInt by omega) (show v25_7.toInt ≤ 11 by omega) (show 1 ≤ x42.toInt by omega) (show x42.toInt ≤ 12 by omega) (show v8_4.toInt ≤ x100.toInt + 0 by omega)  hw  c43 (lv_sub hl [3, 4, 5, 6, 1, 7, 0, 8] rfl)
                · refine lv_if_eq (tgt := 100) hx hb dX12_comesTo_82 (by decide) (fun c => absurd c (by decide)) (fun _ => ?_)
                  refine lv_iconst (v := 1) hx hb dX12_comesTo_85 (by decide) ?_
                  refine lv_aload_n hx hb dX12_comesTo_86 rfl (lv_at hl 1 rfl) ?_
                  refine lv_iload hx hb dX12_comesTo_87 (lv_at hl 8 rfl) ?_
                  refine lv_iconst (v := 1) hx hb dX12_comesTo_89 (by decide) ?_
                  refine lv_iload hx hb dX12_comesTo_90 (lv_at hl 0 rfl) ?_
                  refine lv_isub hx hb dX12_comesTo_92 ?_
                  refine wk_top 0 (by decide) ?_
                  refine tk_Vi hC hK hw hT hA hE hSR kM_at0 (by decide) rfl (k_X12_streetOf_2 l adK adV dC dI cy ad B (by omega) (by omega) qr s1   v25_7 (show 0 ≤ v25_7.toInt by omega) (show v25_7.toInt ≤ 11 by omega) w0 H.size hT ) (cwV 2 hC.2.2.2.2 gX12_comesTo_X12_streetOf rfl rfl rfl (by decide +kernel) ⟨Nat.le_of_ble_eq_true rfl, Nat.le_of_ble_eq_true rfl⟩) rfl hl.1 rfl (Nat.le_of_ble_eq_true rfl) dX12_comesTo_93 (fun r103 w105 H locs hp104 hw => ?_)
                  obtain ⟨rfl, hg110⟩ := hp104
                  obtain ⟨g107, g108, c109⟩ := hg110
                  refine lv_ishl hx hb dX12_comesTo_96 ?_
                  refine lv_topi (fun x111 ex111 => ?_)
                  have bx111 : 1 ≤ x111.toInt ∧ x111.toInt ≤ 512 := by rw [ex111]; exact wk_shl1 9 (by decide) (by omega) (by omega)
                  refine lv_goto (tgt := 101) hx hb dX12_comesTo_97 (by decide) ?_
                  refine lv_ior hx hb dX12_comesTo_101 ?_
                  refine lv_topi (fun x112 ex112 => ?_)
                  have bx112 : 0 ≤ x112.toInt ∧ x112.toInt < 1024 := by rw [ex112]; exact wk_or 10 (by decide) (by omega) (by omega) (by omega) (by omega)
                  have mx112 : v25_4.toInt ≤ x112.toInt ∧ x111.toInt ≤ x112.toInt := by rw [ex112]; exact wk_orL 10 (by decide) (by omega) (by omega) (by omega) (by omega)
                  refine lv_istore (lv' := [(4, .int x112), (8, .int 1), (0, .ref (ad 0)), (1, .int a1), (2, .int a2), (3, .int a3), (5, .int v8_4), (6, .int v25_6), (7, .int v25_7)]) hx hb dX12_comesTo_102 hl (by decide) rfl (fun ls hl => ?_)
                  have nx114 := wk_i32 v25_6
                  obtain ⟨x113, ex113⟩ : ∃ y : Int32, y = v25_6 + Int32.ofInt 1 := ⟨_, rfl⟩
                  refine lv_iinc (v := x113) (lv' := [(6, .int x113), (4, .int x112), (8, .int 1), (0, .ref (ad 0)), (1, .int a1), (2, .int a2), (3, .int a3), (5, .int v8_4), (7, .int v25_7)]) hx hb dX12_comesTo_104 hl (k := 7) rfl ex113.symm (by decide) rfl (fun ls hl => ?_)
                  exact J107 x112 x113 x42 H locs ls  (show 0 ≤ a1.toInt by omega) (show a1.toInt ≤ 6 by omega) (show 0 ≤ a2.toInt by omega) (show a2.toInt ≤ 4095 by omega) (show 0 ≤ a3.toInt by omega) (show a3.toInt ≤ 9 by omega) (show 1 ≤ x112.toInt by omega) (show x112.toInt ≤ 1023 by omega) (show 1 ≤ v8_4.toInt by omega) (show v8_4.toInt ≤ 1023 by omega) (show 0 ≤ v25_7.toInt by omega) (show v25_7.toInt ≤ 11 by omega) (show 1 ≤ x42.toInt by omega) (show x42.toInt ≤ 12 by omega) (show v8_4.toInt ≤ x112.toInt + 0 by omega)  hw  c43 (lv_sub hl [3, 4, 5, 6, 1, 7, 0, 8] rfl)
            · have c53 : r46.toInt = (0 : Int) := wk_eq.mp c53
              refine lv_goto (tgt := 107) hx hb dX12_comesTo_48 (by decide) ?_
              exact J107 v25_4 v25_6 x42 H locs ls  (show 0 ≤ a1.toInt by omega) (show a1.toInt ≤ 6 by omega) (show 0 ≤ a2.toInt by omega) (show a2.toInt ≤ 4095 by omega) (show 0 ≤ a3.toInt by omega) (show a3.toInt ≤ 9 by omega) (show 1 ≤ v25_4.toInt by omega) (show v25_4.toInt ≤ 1023 by omega) (show 1 ≤ v8_4.toInt by omega) (show v8_4.toInt ≤ 1023 by omega) (show 0 ≤ v25_7.toInt by omega) (show v25_7.toInt ≤ 11 by omega) (show 1 ≤ x42.toInt by omega) (show x42.toInt ≤ 12 by omega) (show v8_4.toInt ≤ v25_4.toInt + 0 by omega)  hw  c43 (lv_sub hl [0, 1, 2, 3, 4, 5, 6, 7] rfl)
      refine lv_iload hx hb dX12_comesTo_8 (lv_at hl 4 rfl) ?_
      refine lv_iload hx hb dX12_comesTo_10 (lv_at hl 5 rfl) ?_
      refine lv_icmp_eq (tgt := 116) hx hb dX12_comesTo_12 (by decide) (fun c115 => ?_) (fun c115 => ?_)
      · have c115 : v8_4.toInt = v8_5.toInt := wk_eq.mp c115
        refine lv_iload hx hb dX12_comesTo_116 (lv_at hl 4 rfl) ?_
        exact tk_iret hC hr hlocks hK ⟨rfl, ⟨(show 1 ≤ v8_4.toInt by omega), (show v8_4.toInt ≤ 1023 by omega)⟩⟩ hw dX12_comesTo_118
      · have c115 : ¬ v8_4.toInt = v8_5.toInt := wk_eqF c115
        refine lv_iload hx hb dX12_comesTo_15 (lv_at hl 4 rfl) ?_
        refine lv_istore (lv' := [(5, .int v8_4), (0, .ref (ad 0)), (1, .int a1), (2, .int a2), (3, .int a3), (4, .int v8_4)]) hx hb dX12_comesTo_17 hl (by decide) rfl (fun ls hl => ?_)
        refine lv_iconst (v := 0) hx hb dX12_comesTo_19 (by decide) ?_
        refine lv_istore (lv' := [(6, .int 0), (5, .int v8_4), (0, .ref (ad 0)), (1, .int a1), (2, .int a2), (3, .int a3), (4, .int v8_4)]) hx hb dX12_comesTo_20 hl (by decide) rfl (fun ls hl => ?_)
        refine lv_iconst (v := 0) hx hb dX12_comesTo_22 (by decide) ?_
        refine lv_istore (lv' := [(7, .int 0), (6, .int 0), (5, .int v8_4), (0, .ref (ad 0)), (1, .int a1), (2, .int a2), (3, .int a3), (4, .int v8_4)]) hx hb dX12_comesTo_23 hl (by decide) rfl (fun ls hl => ?_)
        exact L25 ((12 - (0 : Int)).toNat + 1) v8_4 0 0 H locs ls  (show 0 ≤ a1.toInt by omega) (show a1.toInt ≤ 6 by omega) (show 0 ≤ a2.toInt by omega) (show a2.toInt ≤ 4095 by omega) (show 0 ≤ a3.toInt by omega) (show a3.toInt ≤ 9 by omega) (show 1 ≤ v8_4.toInt by omega) (show v8_4.toInt ≤ 1023 by omega) (show 1 ≤ v8_4.toInt by omega) (show v8_4.toInt ≤ 1023 by omega) (by decide) (by decide) (show v8_4.toInt ≤ v8_4.toInt + 0 by omega) (Nat.lt_succ_self _) hw   (lv_sub hl [3, 4, 5, 6, 7, 2, 1, 0] rfl)
  refine lv_iconst (v := 1) hx hb dX12_comesTo_0 (by decide) ?_
  refine lv_iload_n hx hb dX12_comesTo_1 rfl (lv_at hl 3 rfl) ?_
  refine lv_ishl hx hb dX12_comesTo_2 ?_
  refine lv_topi (fun x116 ex116 => ?_)
  have bx116 : 1 ≤ x116.toInt ∧ x116.toInt ≤ 512 := by rw [ex116]; exact wk_shl1 9 (by decide) (by omega) (by omega)
  refine lv_istore (lv' := [(4, .int x116), (0, .ref (ad 0)), (1, .int a1), (2, .int a2), (3, .int a3)]) hx hb dX12_comesTo_3 hl (by decide) rfl (fun ls hl => ?_)
  refine lv_iconst (v := 0) hx hb dX12_comesTo_5 (by decide) ?_
  refine lv_istore (lv' := [(5, .int 0), (4, .int x116), (0, .ref (ad 0)), (1, .int a1), (2, .int a2), (3, .int a3)]) hx hb dX12_comesTo_6 hl (by decide) rfl (fun ls hl => ?_)
  exact L8 ((1023 - (0 : Int)).toNat + 1) x116 0 s.heap locs ls  (show 0 ≤ a1.toInt by omega) (show a1.toInt ≤ 6 by omega) (show 0 ≤ a2.toInt by omega) (show a2.toInt ≤ 4095 by omega) (show 0 ≤ a3.toInt by omega) (show a3.toInt ≤ 9 by omega) (show 1 ≤ x116.toInt by omega) (show x116.toInt ≤ 1023 by omega) (by decide) (by decide) (show (0 : Int) ≤ x116.toInt + 0 by omega) (Nat.lt_succ_self _) hw   (lv_sub hl [2, 3, 4, 5, 1, 0] rfl)
