abbrev Pz_X0_refresh_1 (ad : Nat → Nat) (cy : Nat → ClassId) (B : Int) (qr : Nat) (s1 : Int) (a1 : Int32) (w0 : va_W) : va_W → Prop := fun u => TW ksC ad cy B qr s1 u ∧ FE ksC [(42, 0, 1100), (43, 0, 1100), (44, 0, 11)] w0 u ∧ Ev (fun n => m_X0_refresh n 145 a1.toInt (sI w0)) (0, sI u) ∧ ((True))
set_option maxHeartbeats 4000000 in
set_option maxRecDepth 100000 in
theorem kz_X0_refresh_1 (l : Launch) (adK adV : Nat → Nat) (dC : Nat → ClassId) (dI : Nat → Nat → Nat) (cy : Nat → ClassId) (ad : Nat → Nat) (B : Int) (hB0 : 2147483648 ≤ B) (hB1 : B ≤ 1152921504606846976) (qr : Nat) (s1 : Int)  (a1 : Int32) (ra1 : 0 ≤ a1.toInt) (ta1 : a1.toInt ≤ 3) (w0 : va_W) (sz : Nat) (hT : TW ksC ad cy B qr s1 w0)  : Met l yX0_refresh (wu yX0_refresh cX0_refresh 2 none) ({ frames := 4, cells := 0, slots := 0, locals := 88 }) (va_Pc [.ref (ad 145), .int a1] (wpreS adK adV dC dI cy sz w0)) (va_Qv (Pz_X0_refresh_1 ad cy B qr s1 a1 w0) (fun u : va_W => wpost dC dI cy (va_A w0 sz) u) (va_A w0 sz)) 0 0 (va_A w0 sz) := by
  refine Met.ofW (cc := cX0_refresh) (maxL := 2) (ret := none) (by decide) rfl ?_
  intro p e s m args below meth c s₁ Bk hml hv
  obtain ⟨rfl, ⟨hsz, hP, hK, hD0⟩, hE, hSR⟩ := hv
  have hx := Bk.exec
  have hb := Bk.bytes
  have hr := Bk.returns
  have hlocks := Bk.notSynchronized
  have hC : CallFix p m c cX0_refresh 2 s _ (wu yX0_refresh cX0_refresh 2 none) RX0 := ⟨hx, hb, hml, findClass_of_methodNamed Bk.named, atoms_spec (ws := (wu yX0_refresh cX0_refresh 2 none)) Bk.pre⟩
  subst hsz
  have hD := hD0.self (sz := s.heap.size)
  generalize hAe : va_A w0 s.heap.size = A at hD hE ⊢
  have hA : ∀ q : Nat, s.heap.size ≤ q → A q := fun q h => by rw [← hAe]; exact Or.inr h
  have hw : Wd dC dI A s.heap s.heap [] w0 := ⟨hP, hD, va_S.rf⟩
  have hF : FE ksC [(42, 0, 1100), (43, 0, 1100), (44, 0, 11)] w0 w0 := FE.rf
  have hl := lv_entry ([.ref (ad 145), .int a1]) (n := 2) (Nat.le_of_ble_eq_true rfl)
  rw [lg_entry_eq]
  generalize (lg_sl ([.ref (ad 145), .int a1]) ++ List.replicate (2 - (lg_sl ([.ref (ad 145), .int a1])).length) Slot.unset).toArray = ls at hl ⊢
  have hl : lv_has ls 2 [(0, .ref (ad 145)), (1, .int a1)] := hl
  generalize hloc : ([] : List Loc) = locs at hw ⊢
  have hinX0 : ∀ w ∈ u_ws RX0 TX0 4, w ∈ (wu yX0_refresh cX0_refresh 2 none) := fun _ h => List.mem_cons_of_mem _ (up_77 h)
  have J31 : ∀ (H : Heap) (locs : List Loc) (ls : Array Slot) (w1 : va_W), 0 ≤ a1.toInt → a1.toInt ≤ 3 → Wd dC dI A s.heap H locs w1 → TW ksC ad cy B qr s1 w1 → FE ksC [(42, 0, 1100), (43, 0, 1100), (44, 0, 11)] w0 w1 → TT (fun n => m_X0_refresh n 145 a1.toInt (sI w0)) (fun n => b_X0_refresh_31 n 145 (sI w1)) → lv_has ls 2 [(0, .ref (ad 145)), (1, .int a1)] → W p l e ({ frames := 4, cells := 0, slots := 0, locals := 88 }) s m (List.toArray [.ref (ad 145), .int a1]) below meth c H locs 0 0 (MQ below (va_Qv (Pz_X0_refresh_1 ad cy B qr s1 a1 w0) (fun u : va_W => wpost dC dI cy A u) A) (List.toArray [.ref (ad 145), .int a1]) s 0 0 A) (F0 m 31 ls []) := by
    intro H locs ls w1 r2 t3 hw hT hF hM hl
    exact tk_vret hC hr hlocks hK ⟨hT, hF, hM.ret rfl, trivial⟩ hw dX0_refresh_31
  have hM : TT (fun n => m_X0_refresh n 145 a1.toInt (sI w0)) (fun n => m_X0_refresh n 145 a1.toInt (sI w0)) := TT.rf
  refine lv_aload_n hx hb dX0_refresh_0 rfl (lv_at hl 0 rfl) ?_
  refine tk_getA hC hK hw hT hinX0 kC_at145 (by decide) rfl 3 (by decide) (List.mem_cons_of_mem _ uw_4_16) rfl rfl dX0_refresh_1 ?_
  refine lv_iload_n hx hb dX0_refresh_4 rfl (lv_at hl 1 rfl) ?_
  refine tk_zald hC hK hw hT kC_at148 rfl rfl (show 0 ≤ a1.toInt from ra1) (show a1.toInt < 11 from Int.lt_of_le_of_lt ta1 (by decide)) dX0_refresh_5 (fun x4 c5 rx4 tx4 => ?_)
  have hox4 := c5
  replace hM := hM.rd (sI_at hox4)
  refine lv_if_ne (tgt := 31) hx hb dX0_refresh_6 (by decide) (fun c6 => ?_) (fun c6 => ?_)
  · have c6 : ¬ x4.toInt = (0 : Int) := wk_eqF c6
    replace hM := hM.pos c6
    exact J31  s.heap locs ls w0 (show 0 ≤ a1.toInt from ra1) (show a1.toInt ≤ 3 from ta1)  hw hT hF hM (lv_sub hl [0, 1] rfl)
  · have c6 : x4.toInt = (0 : Int) := wk_eq.mp c6
    replace hM := hM.neg (fun q => q c6)
    refine lv_aload_n hx hb dX0_refresh_9 rfl (lv_at hl 0 rfl) ?_
    refine lv_iload_n hx hb dX0_refresh_10 rfl (lv_at hl 1 rfl) ?_
    refine tk_Vv hC hK hw hT hA hE hSR kC_at145 (by decide) rfl (kz_X0_drawStreets_1 l adK adV dC dI cy ad B hB0 (Int.le_trans hB1 (by decide)) qr s1   a1 (show 0 ≤ a1.toInt from ra1) (show a1.toInt ≤ 3 from ta1) w0 s.heap.size hT ) (cwV 1 hC.2.2.2.2 uV_RX0_38 rfl rfl rfl (by decide +kernel) ⟨Nat.le_of_ble_eq_true rfl, Nat.le_of_ble_eq_true rfl⟩) rfl hl.1 rfl (Nat.le_of_ble_eq_true rfl) dX0_refresh_11 (fun w9 H locs hp8 hw => ?_)
    obtain ⟨hT, k10, hv12, hg11⟩ := hp8
    have hF := hF.tr k10 (by decide)
    clear hg11
    replace hM := hM.call hv12 rfl
    refine lv_aload_n hx hb dX0_refresh_14 rfl (lv_at hl 0 rfl) ?_
    refine lv_iload_n hx hb dX0_refresh_15 rfl (lv_at hl 1 rfl) ?_
    refine tk_Vv hC hK hw hT hA hE hSR kC_at145 (by decide) rfl (kz_X0_drawHours_1 l adK adV dC dI cy ad B hB0 (Int.le_trans hB1 (by decide)) qr s1   a1 (show 0 ≤ a1.toInt from ra1) (show a1.toInt ≤ 3 from ta1) w9 H.size hT ) (cwV 1 hC.2.2.2.2 uV_RX0_41 rfl rfl rfl (by decide +kernel) ⟨Nat.le_of_ble_eq_true rfl, Nat.le_of_ble_eq_true rfl⟩) rfl hl.1 rfl (Nat.le_of_ble_eq_true rfl) dX0_refresh_16 (fun w15 H locs hp14 hw => ?_)
    obtain ⟨hT, k16, hv18, hg17⟩ := hp14
    have hF := hF.tr k16 (by decide)
    clear hg17
    replace hM := hM.call hv18 rfl
    refine lv_aload_n hx hb dX0_refresh_19 rfl (lv_at hl 0 rfl) ?_
    refine lv_iload_n hx hb dX0_refresh_20 rfl (lv_at hl 1 rfl) ?_
    refine tk_Vv hC hK hw hT hA hE hSR kC_at145 (by decide) rfl (kz_X0_drawFirst_1 l adK adV dC dI cy ad B hB0 (Int.le_trans hB1 (by decide)) qr s1   a1 (show 0 ≤ a1.toInt from ra1) (show a1.toInt ≤ 3 from ta1) w15 H.size hT ) (cwV 1 hC.2.2.2.2 uV_RX0_44 rfl rfl rfl (by decide +kernel) ⟨Nat.le_of_ble_eq_true rfl, Nat.le_of_ble_eq_true rfl⟩) rfl hl.1 rfl (Nat.le_of_ble_eq_true rfl) dX0_refresh_21 (fun w21 H locs hp20 hw => ?_)
    obtain ⟨hT, k22, hv24, hg23⟩ := hp20
    have hF := hF.tr k22 (by decide)
    clear hg23
    replace hM := hM.call hv24 rfl
    refine lv_aload_n hx hb dX0_refresh_24 rfl (lv_at hl 0 rfl) ?_
    refine tk_getA hC hK hw hT hinX0 kC_at145 (by decide) rfl 3 (by decide) (List.mem_cons_of_mem _ uw_4_16) rfl rfl dX0_refresh_25 ?_
    refine lv_iload_n hx hb dX0_refresh_28 rfl (lv_at hl 1 rfl) ?_
    refine lv_iconst (v := 1) hx hb dX0_refresh_29 (by decide) ?_
    refine tk_zast hC hK hw hT kC_at148 (by decide) rfl rfl (show 0 ≤ a1.toInt from ra1) (show a1.toInt < 11 from Int.lt_of_le_of_lt ta1 (by decide)) (by decide) (by decide) dX0_refresh_30 (fun H locs w25 hw hT k27 c26 => ?_)
    replace hM := hM.wr (sI_upc k27 c26 (by decide))
    have hF := hF.put kC_at148 (inE_of (a := 0) (b := 11) (by decide) (show 0 ≤ a1.toInt.toNat by omega) (show a1.toInt.toNat ≤ 11 by omega)) k27
    exact J31  H locs ls w25 (show 0 ≤ a1.toInt from ra1) (show a1.toInt ≤ 3 from ta1)  hw hT hF hM (lv_sub hl [0, 1] rfl)
abbrev Pz_X0_streetBy_1 (ad : Nat → Nat) (cy : Nat → ClassId) (B : Int) (qr : Nat) (s1 : Int) (a1 : Int32) (a2 : Int32) (a3 : Int32) (w0 : va_W) : Int32 → va_W → Prop := fun r u => TW ksC ad cy B qr s1 u ∧ FE ksC ([] : List (Nat × Nat × Nat)) w0 u ∧ Ev (fun n => m_X0_streetBy n 145 a1.toInt a2.toInt a3.toInt (sI w0)) (r.toInt, sI u) ∧ (((-1) ≤ r.toInt ∧ r.toInt ≤ 11))
set_option maxHeartbeats 4000000 in
set_option maxRecDepth 100000 in
theorem kz_X0_streetBy_1 (l : Launch) (adK adV : Nat → Nat) (dC : Nat → ClassId) (dI : Nat → Nat → Nat) (cy : Nat → ClassId) (ad : Nat → Nat) (B : Int) (hB0 : 2147483648 ≤ B) (hB1 : B ≤ 1152921504606846976) (qr : Nat) (s1 : Int)  (a1 : Int32) (ra1 : 0 ≤ a1.toInt) (ta1 : a1.toInt ≤ 3) (a2 : Int32) (ra2 : 0 ≤ a2.toInt) (ta2 : a2.toInt ≤ 9) (a3 : Int32) (ra3 : 0 ≤ a3.toInt) (ta3 : a3.toInt ≤ 9) (w0 : va_W) (sz : Nat) (hT : TW ksC ad cy B qr s1 w0)  : Met l yX0_streetBy (wu yX0_streetBy cX0_streetBy 4 (some .int)) ({ frames := 2, cells := 0, slots := 0, locals := 34 }) (va_Pc [.ref (ad 145), .int a1, .int a2, .int a3] (wpreS adK adV dC dI cy sz w0)) (va_Qi (Pz_X0_streetBy_1 ad cy B qr s1 a1 a2 a3 w0) (fun u : va_W => wpost dC dI cy (va_A w0 sz) u) (va_A w0 sz)) 0 0 (va_A w0 sz) := by
  refine Met.ofW (cc := cX0_streetBy) (maxL := 4) (ret := (some .int)) (by decide) rfl ?_
  intro p e s m args below meth c s₁ Bk hml hv
  obtain ⟨rfl, ⟨hsz, hP, hK, hD0⟩, hE, hSR⟩ := hv
  have hx := Bk.exec
  have hb := Bk.bytes
  have hr := Bk.returns
  have hlocks := Bk.notSynchronized
  have hC : CallFix p m c cX0_streetBy 4 s _ (wu yX0_streetBy cX0_streetBy 4 (some .int)) RX0 := ⟨hx, hb, hml, findClass_of_methodNamed Bk.named, atoms_spec (ws := (wu yX0_streetBy cX0_streetBy 4 (some .int))) Bk.pre⟩
  subst hsz
  have hD := hD0.self (sz := s.heap.size)
  generalize hAe : va_A w0 s.heap.size = A at hD hE ⊢
  have hA : ∀ q : Nat, s.heap.size ≤ q → A q := fun q h => by rw [← hAe]; exact Or.inr h
  have hw : Wd dC dI A s.heap s.heap [] w0 := ⟨hP, hD, va_S.rf⟩
  have hF : FE ksC ([] : List (Nat × Nat × Nat)) w0 w0 := FE.rf
  have hl := lv_entry ([.ref (ad 145), .int a1, .int a2, .int a3]) (n := 4) (Nat.le_of_ble_eq_true rfl)
  rw [lg_entry_eq]
  generalize (lg_sl ([.ref (ad 145), .int a1, .int a2, .int a3]) ++ List.replicate (4 - (lg_sl ([.ref (ad 145), .int a1, .int a2, .int a3])).length) Slot.unset).toArray = ls at hl ⊢
  have hl : lv_has ls 4 [(0, .ref (ad 145)), (1, .int a1), (2, .int a2), (3, .int a3)] := hl
  generalize hloc : ([] : List Loc) = locs at hw ⊢
  have hinX0 : ∀ w ∈ u_ws RX0 TX0 4, w ∈ (wu yX0_streetBy cX0_streetBy 4 (some .int)) := fun _ h => List.mem_cons_of_mem _ (up_77 h)
  have hM : TT (fun n => m_X0_streetBy n 145 a1.toInt a2.toInt a3.toInt (sI w0)) (fun n => m_X0_streetBy n 145 a1.toInt a2.toInt a3.toInt (sI w0)) := TT.rf
  refine lv_aload_n hx hb dX0_streetBy_0 rfl (lv_at hl 0 rfl) ?_
  refine tk_getA hC hK hw hT hinX0 kC_at145 (by decide) rfl 2 (by decide) (List.mem_cons_of_mem _ uw_4_15) rfl rfl dX0_streetBy_1 ?_
  refine lv_iload_n hx hb dX0_streetBy_4 rfl (lv_at hl 1 rfl) ?_
  refine lv_iload_n hx hb dX0_streetBy_5 rfl (lv_at hl 2 rfl) ?_
  refine lv_iload_n hx hb dX0_streetBy_6 rfl (lv_at hl 3 rfl) ?_
  refine tk_Si hC hK hw hT hA hE hSR (kz_X0_spot_1 l adK adV dC dI cy ad B hB0 (Int.le_trans hB1 (by decide)) qr s1   a1 (show 0 ≤ a1.toInt from ra1) (show a1.toInt ≤ 3 from ta1) a2 (show 0 ≤ a2.toInt from ra2) (show a2.toInt ≤ 9 from ta2) a3 (show 0 ≤ a3.toInt from ra3) (show a3.toInt ≤ 9 from ta3) w0 s.heap.size hT ) (va_cwS 3 hC.2.2.2.2 uS_RX0_47 rfl rfl rfl (by decide +kernel) ⟨Nat.le_of_ble_eq_true rfl, Nat.le_of_ble_eq_true rfl⟩) rfl hl.1 rfl (Nat.le_of_ble_eq_true rfl) dX0_streetBy_7 (fun r1 w3 H locs hp2 hw => ?_)
  obtain ⟨hT, k4, hv8, hg7⟩ := hp2
  have hF := hF.tr k4 (by decide)
  obtain ⟨g5, g6⟩ := hg7
  replace hM := hM.call hv8 rfl
  refine tk_iald hC hK hw hT kC_at147 rfl rfl (show 0 ≤ r1.toInt by first | with_reducible assumption | omega) (show r1.toInt < 1100 by first | with_reducible assumption | omega) dX0_streetBy_10 (fun x9 c10 rx9 tx9 => ?_)
  have hox9 := c10
  replace hM := hM.rd (sI_at hox9)
  exact tk_iret hC hr hlocks hK ⟨hT, hF, hM.ret rfl, ⟨(show (-1) ≤ x9.toInt from rx9), (show x9.toInt ≤ 11 from tx9)⟩⟩ hw dX0_streetBy_11
abbrev Pz_X0_hoursBy_1 (ad : Nat → Nat) (cy : Nat → ClassId) (B : Int) (qr : Nat) (s1 : Int) (a1 : Int32) (a2 : Int32) (a3 : Int32) (w0 : va_W) : Int32 → va_W → Prop := fun r u => TW ksC ad cy B qr s1 u ∧ FE ksC ([] : List (Nat × Nat × Nat)) w0 u ∧ Ev (fun n => m_X0_hoursBy n 145 a1.toInt a2.toInt a3.toInt (sI w0)) (r.toInt, sI u) ∧ ((0 ≤ r.toInt ∧ r.toInt ≤ 999999) ∨ (r = (-1)))
set_option maxHeartbeats 4000000 in
set_option maxRecDepth 100000 in
theorem kz_X0_hoursBy_1 (l : Launch) (adK adV : Nat → Nat) (dC : Nat → ClassId) (dI : Nat → Nat → Nat) (cy : Nat → ClassId) (ad : Nat → Nat) (B : Int) (hB0 : 2147483648 ≤ B) (hB1 : B ≤ 1152921504606846976) (qr : Nat) (s1 : Int)  (a1 : Int32) (ra1 : 0 ≤ a1.toInt) (ta1 : a1.toInt ≤ 3) (a2 : Int32) (ra2 : 0 ≤ a2.toInt) (ta2 : a2.toInt ≤ 9) (a3 : Int32) (ra3 : 0 ≤ a3.toInt) (ta3 : a3.toInt ≤ 9) (w0 : va_W) (sz : Nat) (hT : TW ksC ad cy B qr s1 w0)  : Met l yX0_hoursBy (wu yX0_hoursBy cX0_hoursBy 5 (some .int)) ({ frames := 2, cells := 0, slots := 0, locals := 34 }) (va_Pc [.ref (ad 145), .int a1, .int a2, .int a3] (wpreS adK adV dC dI cy sz w0)) (va_Qi (Pz_X0_hoursBy_1 ad cy B qr s1 a1 a2 a3 w0) (fun u : va_W => wpost dC dI cy (va_A w0 sz) u) (va_A w0 sz)) 0 0 (va_A w0 sz) := by
  refine Met.ofW (cc := cX0_hoursBy) (maxL := 5) (ret := (some .int)) (by decide) rfl ?_
  intro p e s m args below meth c s₁ Bk hml hv
  obtain ⟨rfl, ⟨hsz, hP, hK, hD0⟩, hE, hSR⟩ := hv
  have hx := Bk.exec
  have hb := Bk.bytes
  have hr := Bk.returns
  have hlocks := Bk.notSynchronized
  have hC : CallFix p m c cX0_hoursBy 5 s _ (wu yX0_hoursBy cX0_hoursBy 5 (some .int)) RX0 := ⟨hx, hb, hml, findClass_of_methodNamed Bk.named, atoms_spec (ws := (wu yX0_hoursBy cX0_hoursBy 5 (some .int))) Bk.pre⟩
  subst hsz
  have hD := hD0.self (sz := s.heap.size)
  generalize hAe : va_A w0 s.heap.size = A at hD hE ⊢
  have hA : ∀ q : Nat, s.heap.size ≤ q → A q := fun q h => by rw [← hAe]; exact Or.inr h
  have hw : Wd dC dI A s.heap s.heap [] w0 := ⟨hP, hD, va_S.rf⟩
  have hF : FE ksC ([] : List (Nat × Nat × Nat)) w0 w0 := FE.rf
  have hl := lv_entry ([.ref (ad 145), .int a1, .int a2, .int a3]) (n := 5) (Nat.le_of_ble_eq_true rfl)
  rw [lg_entry_eq]
  generalize (lg_sl ([.ref (ad 145), .int a1, .int a2, .int a3]) ++ List.replicate (5 - (lg_sl ([.ref (ad 145), .int a1, .int a2, .int a3])).length) Slot.unset).toArray = ls at hl ⊢
  have hl : lv_has ls 5 [(0, .ref (ad 145)), (1, .int a1), (2, .int a2), (3, .int a3)] := hl
  generalize hloc : ([] : List Loc) = locs at hw ⊢
  have hinX0 : ∀ w ∈ u_ws RX0 TX0 4, w ∈ (wu yX0_hoursBy cX0_hoursBy 5 (some .int)) := fun _ h => List.mem_cons_of_mem _ (up_77 h)
  have hM : TT (fun n => m_X0_hoursBy n 145 a1.toInt a2.toInt a3.toInt (sI w0)) (fun n => m_X0_hoursBy n 145 a1.toInt a2.toInt a3.toInt (sI w0)) := TT.rf
  refine lv_aload_n hx hb dX0_hoursBy_0 rfl (lv_at hl 0 rfl) ?_
  refine tk_getA hC hK hw hT hinX0 kC_at145 (by decide) rfl 1 (by decide) (List.mem_cons_of_mem _ uw_4_14) rfl rfl dX0_hoursBy_1 ?_
  refine lv_iload_n hx hb dX0_hoursBy_4 rfl (lv_at hl 1 rfl) ?_
  refine lv_iload_n hx hb dX0_hoursBy_5 rfl (lv_at hl 2 rfl) ?_
  refine lv_iload_n hx hb dX0_hoursBy_6 rfl (lv_at hl 3 rfl) ?_
  refine tk_Si hC hK hw hT hA hE hSR (kz_X0_spot_1 l adK adV dC dI cy ad B hB0 (Int.le_trans hB1 (by decide)) qr s1   a1 (show 0 ≤ a1.toInt from ra1) (show a1.toInt ≤ 3 from ta1) a2 (show 0 ≤ a2.toInt from ra2) (show a2.toInt ≤ 9 from ta2) a3 (show 0 ≤ a3.toInt from ra3) (show a3.toInt ≤ 9 from ta3) w0 s.heap.size hT ) (va_cwS 3 hC.2.2.2.2 uS_RX0_47 rfl rfl rfl (by decide +kernel) ⟨Nat.le_of_ble_eq_true rfl, Nat.le_of_ble_eq_true rfl⟩) rfl hl.1 rfl (Nat.le_of_ble_eq_true rfl) dX0_hoursBy_7 (fun r1 w3 H locs hp2 hw => ?_)
  obtain ⟨hT, k4, hv8, hg7⟩ := hp2
  have hF := hF.tr k4 (by decide)
  obtain ⟨g5, g6⟩ := hg7
  replace hM := hM.call hv8 rfl
  refine tk_iald hC hK hw hT kC_at146 rfl rfl (show 0 ≤ r1.toInt by first | with_reducible assumption | omega) (show r1.toInt < 1100 by first | with_reducible assumption | omega) dX0_hoursBy_10 (fun x9 c10 rx9 tx9 => ?_)
  have hox9 := c10
  replace hM := hM.rd (sI_at hox9)
  refine lv_istore (lv' := [(4, .int x9), (0, .ref (ad 145)), (1, .int a1), (2, .int a2), (3, .int a3)]) hx hb dX0_hoursBy_11 hl (by decide) rfl (fun ls hl => ?_)
  refine lv_iload hx hb dX0_hoursBy_13 (lv_at hl 0 rfl) ?_
  refine lv_ldc (v := 1000000) hx hb hC.2.2.2.1 (hC.2.2.2.2 _ (List.mem_cons_of_mem _ uw_36_8)) dX0_hoursBy_15 ?_
  refine lv_icmp_lt (tgt := 24) hx hb dX0_hoursBy_17 (by decide) (fun c11 => ?_) (fun c11 => ?_)
  · have c11 : x9.toInt < (1000000 : Int) := wk_lt.mp c11
    replace hM := hM.pos c11
    refine lv_iload hx hb dX0_hoursBy_24 (lv_at hl 0 rfl) ?_
    exact tk_iret hC hr hlocks hK ⟨hT, hF, hM.ret rfl, (Or.inl ⟨(show 0 ≤ x9.toInt from rx9), (show x9.toInt ≤ 999999 by first | with_reducible assumption | omega)⟩)⟩ hw dX0_hoursBy_26
  · have c11 : (1000000 : Int) ≤ x9.toInt := wk_ltF c11
    replace hM := hM.neg (Int.not_lt.mpr c11)
    refine lv_iconst (v := (-1)) hx hb dX0_hoursBy_20 (by decide) ?_
    refine lv_goto (tgt := 26) hx hb dX0_hoursBy_21 (by decide) ?_
    exact tk_iret hC hr hlocks hK ⟨hT, hF, hM.ret (by decide), (Or.inr rfl)⟩ hw dX0_hoursBy_26
abbrev Pz_X11_by_1 (ad : Nat → Nat) (cy : Nat → ClassId) (B : Int) (qr : Nat) (s1 : Int) (a1 : Int32) (a2 : Int32) (a3 : Int32) (a4 : Int32) (w0 : va_W) : Int32 → va_W → Prop := fun r u => TW ksC ad cy B qr s1 u ∧ FE ksC [(42, 0, 1100), (43, 0, 1100), (44, 0, 11)] w0 u ∧ Ev (fun n => m_X11_by n 0 a1.toInt a2.toInt a3.toInt a4.toInt (sI w0)) (r.toInt, sI u) ∧ ((r = (-2) ∧ 0 ≤ a1.toInt ∧ a1.toInt ≤ 3 ∧ 0 ≤ a2.toInt ∧ a2.toInt ≤ 9 ∧ 0 ≤ a3.toInt ∧ a3.toInt ≤ 9 ∧ 0 ≤ a4.toInt ∧ a4.toInt ≤ 1 ∧ (∃ y : Int32, gi u 38 8 = y ∧ 1 ≤ y.toInt ∧ y.toInt ≤ 4) ∧ (∃ y : Int32, gi u 39 8 = y ∧ 1 ≤ y.toInt ∧ y.toInt ≤ 10)) ∨ (0 ≤ r.toInt ∧ r.toInt ≤ 999999 ∧ 0 ≤ a1.toInt ∧ a1.toInt ≤ 3 ∧ 0 ≤ a2.toInt ∧ a2.toInt ≤ 9 ∧ 0 ≤ a3.toInt ∧ a3.toInt ≤ 9 ∧ 0 ≤ a4.toInt ∧ a4.toInt ≤ 1 ∧ (∃ y : Int32, gi u 38 8 = y ∧ 1 ≤ y.toInt ∧ y.toInt ≤ 4) ∧ (∃ y : Int32, gi u 39 8 = y ∧ 1 ≤ y.toInt ∧ y.toInt ≤ 10)) ∨ (r = (-1)))
set_option maxHeartbeats 4000000 in
set_option maxRecDepth 100000 in
theorem kz_X11_by_1 (l : Launch) (adK adV : Nat → Nat) (dC : Nat → ClassId) (dI : Nat → Nat → Nat) (cy : Nat → ClassId) (ad : Nat → Nat) (B : Int) (hB0 : 2147483648 ≤ B) (hB1 : B ≤ 1152921504606846976) (qr : Nat) (s1 : Int)  (a1 : Int32) (a2 : Int32) (a3 : Int32) (a4 : Int32) (w0 : va_W) (sz : Nat) (hT : TW ksC ad cy B qr s1 w0)  : Met l yX11_by (wu yX11_by cX11_by 6 (some .int)) ({ frames := 5, cells := 0, slots := 0, locals := 109 }) (va_Pc [.ref (ad 0), .int a1, .int a2, .int a3, .int a4] (wpreS adK adV dC dI cy sz w0)) (va_Qi (Pz_X11_by_1 ad cy B qr s1 a1 a2 a3 a4 w0) (fun u : va_W => wpost dC dI cy (va_A w0 sz) u) (va_A w0 sz)) 0 0 (va_A w0 sz) := by
  refine Met.ofW (cc := cX11_by) (maxL := 6) (ret := (some .int)) (by decide) rfl ?_
  intro p e s m args below meth c s₁ Bk hml hv
  obtain ⟨rfl, ⟨hsz, hP, hK, hD0⟩, hE, hSR⟩ := hv
  have hx := Bk.exec
  have hb := Bk.bytes
  have hr := Bk.returns
  have hlocks := Bk.notSynchronized
  have hC : CallFix p m c cX11_by 6 s _ (wu yX11_by cX11_by 6 (some .int)) RX11 := ⟨hx, hb, hml, findClass_of_methodNamed Bk.named, atoms_spec (ws := (wu yX11_by cX11_by 6 (some .int))) Bk.pre⟩
  subst hsz
  have hD := hD0.self (sz := s.heap.size)
  generalize hAe : va_A w0 s.heap.size = A at hD hE ⊢
  have hA : ∀ q : Nat, s.heap.size ≤ q → A q := fun q h => by rw [← hAe]; exact Or.inr h
  have hw : Wd dC dI A s.heap s.heap [] w0 := ⟨hP, hD, va_S.rf⟩
  have hF : FE ksC [(42, 0, 1100), (43, 0, 1100), (44, 0, 11)] w0 w0 := FE.rf
  have hl := lv_entry ([.ref (ad 0), .int a1, .int a2, .int a3, .int a4]) (n := 6) (Nat.le_of_ble_eq_true rfl)
  rw [lg_entry_eq]
  generalize (lg_sl ([.ref (ad 0), .int a1, .int a2, .int a3, .int a4]) ++ List.replicate (6 - (lg_sl ([.ref (ad 0), .int a1, .int a2, .int a3, .int a4])).length) Slot.unset).toArray = ls at hl ⊢
  have hl : lv_has ls 6 [(0, .ref (ad 0)), (1, .int a1), (2, .int a2), (3, .int a3), (4, .int a4)] := hl
  generalize hloc : ([] : List Loc) = locs at hw ⊢
  have hinX11 : ∀ w ∈ u_ws RX11 TX11 13, w ∈ (wu yX11_by cX11_by 6 (some .int)) := fun _ h => List.mem_cons_of_mem _ (up_70 h)
  have J35 : ∀ (H : Heap) (locs : List Loc) (ls : Array Slot) (w1 : va_W), Wd dC dI A s.heap H locs w1 → TW ksC ad cy B qr s1 w1 → FE ksC [(42, 0, 1100), (43, 0, 1100), (44, 0, 11)] w0 w1 → TT (fun n => m_X11_by n 0 a1.toInt a2.toInt a3.toInt a4.toInt (sI w0)) (fun n => b_X11_by_35 n 0 (sI w1)) → lv_has ls 6 [(0, .ref (ad 0)), (1, .int a1), (2, .int a2), (3, .int a3), (4, .int a4)] → W p l e ({ frames := 5, cells := 0, slots := 0, locals := 109 }) s m (List.toArray [.ref (ad 0), .int a1, .int a2, .int a3, .int a4]) below meth c H locs 0 0 (MQ below (va_Qi (Pz_X11_by_1 ad cy B qr s1 a1 a2 a3 a4 w0) (fun u : va_W => wpost dC dI cy A u) A) (List.toArray [.ref (ad 0), .int a1, .int a2, .int a3, .int a4]) s 0 0 A) (F0 m 35 ls []) := by
    intro H locs ls w1 hw hT hF hM hl
    refine lv_iconst (v := (-1)) hx hb dX11_by_35 (by decide) ?_
    exact tk_iret hC hr hlocks hK ⟨hT, hF, hM.ret (by decide), (Or.inr (Or.inr rfl))⟩ hw dX11_by_36
  have hM : TT (fun n => m_X11_by n 0 a1.toInt a2.toInt a3.toInt a4.toInt (sI w0)) (fun n => m_X11_by n 0 a1.toInt a2.toInt a3.toInt a4.toInt (sI w0)) := TT.rf
  refine lv_aload_n hx hb dX11_by_0 rfl (lv_at hl 0 rfl) ?_
  refine lv_iload_n hx hb dX11_by_1 rfl (lv_at hl 1 rfl) ?_
  refine tk_Vi hC hK hw hT hA hE hSR kC_at0 (by decide) rfl (kz_X11_hasMap_1 l adK adV dC dI cy ad B hB0 (Int.le_trans hB1 (by decide)) qr s1   a1 w0 s.heap.size hT ) (cwV 1 hC.2.2.2.2 uV_RX11_170 rfl rfl rfl (by decide +kernel) ⟨Nat.le_of_ble_eq_true rfl, Nat.le_of_ble_eq_true rfl⟩) rfl hl.1 rfl (Nat.le_of_ble_eq_true rfl) dX11_by_2 (fun r2 w4 H locs hp3 hw => ?_)
  obtain ⟨hT, k5, hv11, hg10⟩ := hp3
  have hF := hF.tr k5 (by decide)
  rcases hg10 with rfl | ⟨rfl, g6, g7, ⟨x8, c9, rx8, tx8⟩⟩
  · replace hM := hM.call (r' := 0) hv11 (by decide)
    refine lv_if_eq (tgt := 35) hx hb dX11_by_5 (by decide) (fun _ => ?_) (fun c => absurd (by decide) c)
    replace hM := hM.pos (by decide)
    exact J35  H locs ls w4   hw hT hF hM (lv_sub hl [0, 1, 2, 3, 4] rfl)
  · replace hM := hM.call (r' := 1) hv11 (by decide)
    refine lv_if_eq (tgt := 35) hx hb dX11_by_5 (by decide) (fun c => absurd c (by decide)) (fun _ => ?_)
    replace hM := hM.neg (by decide)
    refine lv_aload_n hx hb dX11_by_8 rfl (lv_at hl 0 rfl) ?_
    refine lv_iload_n hx hb dX11_by_9 rfl (lv_at hl 2 rfl) ?_
    refine tk_Vi hC hK hw hT hA hE hSR kC_at0 (by decide) rfl (kz_X11_hasCorner_1 l adK adV dC dI cy ad B hB0 (Int.le_trans hB1 (by decide)) qr s1   a2 w4 H.size hT ) (cwV 1 hC.2.2.2.2 uV_RX11_176 rfl rfl rfl (by decide +kernel) ⟨Nat.le_of_ble_eq_true rfl, Nat.le_of_ble_eq_true rfl⟩) rfl hl.1 rfl (Nat.le_of_ble_eq_true rfl) dX11_by_10 (fun r12 w14 H locs hp13 hw => ?_)
    obtain ⟨hT, k15, hv21, hg20⟩ := hp13
    have hF := hF.tr k15 (by decide)
    have c22 := k15.gi kC_at38 (by decide) c9
    rcases hg20 with rfl | ⟨rfl, g16, g17, ⟨x18, c19, rx18, tx18⟩⟩
    · replace hM := hM.call (r' := 0) hv21 (by decide)
      refine lv_if_eq (tgt := 35) hx hb dX11_by_13 (by decide) (fun _ => ?_) (fun c => absurd (by decide) c)
      replace hM := hM.pos (by decide)
      exact J35  H locs ls w14   hw hT hF hM (lv_sub hl [0, 1, 2, 3, 4] rfl)
    · replace hM := hM.call (r' := 1) hv21 (by decide)
      refine lv_if_eq (tgt := 35) hx hb dX11_by_13 (by decide) (fun c => absurd c (by decide)) (fun _ => ?_)
      replace hM := hM.neg (by decide)
      refine lv_aload_n hx hb dX11_by_16 rfl (lv_at hl 0 rfl) ?_
      refine lv_iload_n hx hb dX11_by_17 rfl (lv_at hl 3 rfl) ?_
      refine tk_Vi hC hK hw hT hA hE hSR kC_at0 (by decide) rfl (kz_X11_hasCorner_1 l adK adV dC dI cy ad B hB0 (Int.le_trans hB1 (by decide)) qr s1   a3 w14 H.size hT ) (cwV 1 hC.2.2.2.2 uV_RX11_176 rfl rfl rfl (by decide +kernel) ⟨Nat.le_of_ble_eq_true rfl, Nat.le_of_ble_eq_true rfl⟩) rfl hl.1 rfl (Nat.le_of_ble_eq_true rfl) dX11_by_18 (fun r23 w25 H locs hp24 hw => ?_)
      obtain ⟨hT, k26, hv32, hg31⟩ := hp24
      have hF := hF.tr k26 (by decide)
      have c33 := k26.gi kC_at38 (by decide) c22
      have c34 := k26.gi kC_at39 (by decide) c19
      rcases hg31 with rfl | ⟨rfl, g27, g28, ⟨x29, c30, rx29, tx29⟩⟩
      · replace hM := hM.call (r' := 0) hv32 (by decide)
        refine lv_if_eq (tgt := 35) hx hb dX11_by_21 (by decide) (fun _ => ?_) (fun c => absurd (by decide) c)
        replace hM := hM.pos (by decide)
        exact J35  H locs ls w25   hw hT hF hM (lv_sub hl [0, 1, 2, 3, 4] rfl)
      · replace hM := hM.call (r' := 1) hv32 (by decide)
        have ex29 : x29.toInt = x18.toInt := by rw [← c34.symm.trans c30]
        refine lv_if_eq (tgt := 35) hx hb dX11_by_21 (by decide) (fun c => absurd c (by decide)) (fun _ => ?_)
        replace hM := hM.neg (by decide)
        refine lv_iload hx hb dX11_by_24 (lv_at hl 4 rfl) ?_
        refine lv_if_lt (tgt := 35) hx hb dX11_by_26 (by decide) (fun c35 => ?_) (fun c35 => ?_)
        · have c35 : a4.toInt < (0 : Int) := wk_lt.mp c35
          replace hM := hM.pos c35
          exact J35  H locs ls w25   hw hT hF hM (lv_sub hl [0, 1, 2, 3, 4] rfl)
        · have c35 : (0 : Int) ≤ a4.toInt := wk_ltF c35
          replace hM := hM.neg (Int.not_lt.mpr c35)
          refine lv_iload hx hb dX11_by_29 (lv_at hl 4 rfl) ?_
          refine lv_iconst (v := 1) hx hb dX11_by_31 (by decide) ?_
          refine lv_icmp_le (tgt := 37) hx hb dX11_by_32 (by decide) (fun c36 => ?_) (fun c36 => ?_)
          · have c36 : a4.toInt ≤ (1 : Int) := wk_le.mp c36
            replace hM := hM.pos c36
            refine lv_aload_n hx hb dX11_by_37 rfl (lv_at hl 0 rfl) ?_
            refine tk_getA hC hK hw hT hinX11 kC_at0 (by decide) rfl 7 (by decide) (List.mem_cons_of_mem _ uw_1_14) rfl rfl dX11_by_38 ?_
            refine lv_iload_n hx hb dX11_by_41 rfl (lv_at hl 1 rfl) ?_
            refine tk_Vv hC hK hw hT hA hE hSR kC_at145 (by decide) rfl (kz_X0_refresh_1 l adK adV dC dI cy ad B hB0 (Int.le_trans hB1 (by decide)) qr s1   a1 (show 0 ≤ a1.toInt by first | with_reducible assumption | omega) (show a1.toInt ≤ 3 by first | with_reducible assumption | omega) w25 H.size hT ) (cwV 1 hC.2.2.2.2 uV_RX11_179 rfl rfl rfl (by decide +kernel) ⟨Nat.le_of_ble_eq_true rfl, Nat.le_of_ble_eq_true rfl⟩) rfl hl.1 rfl (Nat.le_of_ble_eq_true rfl) dX11_by_42 (fun w39 H locs hp38 hw => ?_)
            obtain ⟨hT, k40, hv42, hg41⟩ := hp38
            have hF := hF.tr k40 (by decide)
            have c43 := k40.gi kC_at38 (by decide) c33
            have c44 := k40.gi kC_at39 (by decide) c34
            clear hg41
            replace hM := hM.call hv42 rfl
            refine lv_iload hx hb dX11_by_45 (lv_at hl 4 rfl) ?_
            refine lv_if_ne (tgt := 63) hx hb dX11_by_47 (by decide) (fun c45 => ?_) (fun c45 => ?_)
            · have c45 : ¬ a4.toInt = (0 : Int) := wk_eqF c45
              replace hM := hM.pos c45
              refine lv_aload_n hx hb dX11_by_63 rfl (lv_at hl 0 rfl) ?_
              refine tk_getA hC hK hw hT hinX11 kC_at0 (by decide) rfl 7 (by decide) (List.mem_cons_of_mem _ uw_1_14) rfl rfl dX11_by_64 ?_
              refine lv_iload_n hx hb dX11_by_67 rfl (lv_at hl 1 rfl) ?_
              refine lv_iload_n hx hb dX11_by_68 rfl (lv_at hl 2 rfl) ?_
              refine lv_iload_n hx hb dX11_by_69 rfl (lv_at hl 3 rfl) ?_
              refine tk_Vi hC hK hw hT hA hE hSR kC_at145 (by decide) rfl (kz_X0_streetBy_1 l adK adV dC dI cy ad B hB0 (Int.le_trans hB1 (by decide)) qr s1   a1 (show 0 ≤ a1.toInt by first | with_reducible assumption | omega) (show a1.toInt ≤ 3 by first | with_reducible assumption | omega) a2 (show 0 ≤ a2.toInt by first | with_reducible assumption | omega) (show a2.toInt ≤ 9 by first | with_reducible assumption | omega) a3 (show 0 ≤ a3.toInt by first | with_reducible assumption | omega) (show a3.toInt ≤ 9 by first | with_reducible assumption | omega) w39 H.size hT ) (cwV 3 hC.2.2.2.2 uV_RX11_186 rfl rfl rfl (by decide +kernel) ⟨Nat.le_of_ble_eq_true rfl, Nat.le_of_ble_eq_true rfl⟩) rfl hl.1 rfl (Nat.le_of_ble_eq_true rfl) dX11_by_70 (fun r46 w48 H locs hp47 hw => ?_)
              obtain ⟨hT, k49, hv53, hg52⟩ := hp47
              have hF := hF.tr k49 (by decide)
              have c54 := k49.gi kC_at38 (by decide) c43
              have c55 := k49.gi kC_at39 (by decide) c44
              obtain ⟨g50, g51⟩ := hg52
              replace hM := hM.call hv53 rfl
              refine lv_istore (lv' := [(5, .int r46), (0, .ref (ad 0)), (1, .int a1), (2, .int a2), (3, .int a3), (4, .int a4)]) hx hb dX11_by_73 hl (by decide) rfl (fun ls hl => ?_)
              refine lv_iload hx hb dX11_by_75 (lv_at hl 0 rfl) ?_
              refine lv_iconst (v := (-1)) hx hb dX11_by_77 (by decide) ?_
              refine lv_icmp_ne (tgt := 86) hx hb dX11_by_78 (by decide) (fun c56 => ?_) (fun c56 => ?_)
              · have c56 : ¬ r46.toInt = (-1 : Int) := wk_eqF c56
                replace hM := hM.pos c56
                refine lv_iload hx hb dX11_by_86 (lv_at hl 0 rfl) ?_
                exact tk_iret hC hr hlocks hK ⟨hT, hF, hM.ret rfl, (Or.inr (Or.inl ⟨(show 0 ≤ r46.toInt by first | with_reducible assumption | omega), (show r46.toInt ≤ 999999 by first | with_reducible assumption | omega), (show 0 ≤ a1.toInt by first | with_reducible assumption | omega), (show a1.toInt ≤ 3 by first | with_reducible assumption | omega), (show 0 ≤ a2.toInt by first | with_reducible assumption | omega), (show a2.toInt ≤ 9 by first | with_reducible assumption | omega), (show 0 ≤ a3.toInt by first | with_reducible assumption | omega), (show a3.toInt ≤ 9 by first | with_reducible assumption | omega), (show 0 ≤ a4.toInt by first | with_reducible assumption | omega), (show a4.toInt ≤ 1 by first | with_reducible assumption | omega), ⟨x8, c54, (show 1 ≤ x8.toInt by first | with_reducible assumption | omega), (show x8.toInt ≤ 4 by first | with_reducible assumption | omega)⟩, ⟨x18, c55, (show 1 ≤ x18.toInt by first | with_reducible assumption | omega), (show x18.toInt ≤ 10 by first | with_reducible assumption | omega)⟩⟩))⟩ hw dX11_by_88
              · have c56 : r46.toInt = (-1 : Int) := wk_eq.mp c56
                replace hM := hM.neg (fun q => q c56)
                refine lv_bipush (v := (-2)) hx hb dX11_by_81 (by decide) ?_
                refine lv_goto (tgt := 88) hx hb dX11_by_83 (by decide) ?_
                exact tk_iret hC hr hlocks hK ⟨hT, hF, hM.ret (by decide), (Or.inl ⟨rfl, (show 0 ≤ a1.toInt by first | with_reducible assumption | omega), (show a1.toInt ≤ 3 by first | with_reducible assumption | omega), (show 0 ≤ a2.toInt by first | with_reducible assumption | omega), (show a2.toInt ≤ 9 by first | with_reducible assumption | omega), (show 0 ≤ a3.toInt by first | with_reducible assumption | omega), (show a3.toInt ≤ 9 by first | with_reducible assumption | omega), (show 0 ≤ a4.toInt by first | with_reducible assumption | omega), (show a4.toInt ≤ 1 by first | with_reducible assumption | omega), ⟨x8, c54, (show 1 ≤ x8.toInt by first | with_reducible assumption | omega), (show x8.toInt ≤ 4 by first | with_reducible assumption | omega)⟩, ⟨x18, c55, (show 1 ≤ x18.toInt by first | with_reducible assumption | omega), (show x18.toInt ≤ 10 by first | with_reducible assumption | omega)⟩⟩)⟩ hw dX11_by_88
            · have c45 : a4.toInt = (0 : Int) := wk_eq.mp c45
              replace hM := hM.neg (fun q => q c45)
              refine lv_aload_n hx hb dX11_by_50 rfl (lv_at hl 0 rfl) ?_
              refine tk_getA hC hK hw hT hinX11 kC_at0 (by decide) rfl 7 (by decide) (List.mem_cons_of_mem _ uw_1_14) rfl rfl dX11_by_51 ?_
              refine lv_iload_n hx hb dX11_by_54 rfl (lv_at hl 1 rfl) ?_
              refine lv_iload_n hx hb dX11_by_55 rfl (lv_at hl 2 rfl) ?_
              refine lv_iload_n hx hb dX11_by_56 rfl (lv_at hl 3 rfl) ?_
              refine tk_Vi hC hK hw hT hA hE hSR kC_at145 (by decide) rfl (kz_X0_hoursBy_1 l adK adV dC dI cy ad B hB0 (Int.le_trans hB1 (by decide)) qr s1   a1 (show 0 ≤ a1.toInt by first | with_reducible assumption | omega) (show a1.toInt ≤ 3 by first | with_reducible assumption | omega) a2 (show 0 ≤ a2.toInt by first | with_reducible assumption | omega) (show a2.toInt ≤ 9 by first | with_reducible assumption | omega) a3 (show 0 ≤ a3.toInt by first | with_reducible assumption | omega) (show a3.toInt ≤ 9 by first | with_reducible assumption | omega) w39 H.size hT ) (cwV 3 hC.2.2.2.2 uV_RX11_182 rfl rfl rfl (by decide +kernel) ⟨Nat.le_of_ble_eq_true rfl, Nat.le_of_ble_eq_true rfl⟩) rfl hl.1 rfl (Nat.le_of_ble_eq_true rfl) dX11_by_57 (fun r57 w59 H locs hp58 hw => ?_)
              obtain ⟨hT, k60, hv64, hg63⟩ := hp58
              have hF := hF.tr k60 (by decide)
              have c65 := k60.gi kC_at38 (by decide) c43
              have c66 := k60.gi kC_at39 (by decide) c44
              rcases hg63 with ⟨g61, g62⟩ | rfl
              · replace hM := hM.call hv64 rfl
                refine lv_goto (tgt := 73) hx hb dX11_by_60 (by decide) ?_
                refine lv_istore (lv' := [(5, .int r57), (0, .ref (ad 0)), (1, .int a1), (2, .int a2), (3, .int a3), (4, .int a4)]) hx hb dX11_by_73 hl (by decide) rfl (fun ls hl => ?_)
                refine lv_iload hx hb dX11_by_75 (lv_at hl 0 rfl) ?_
                refine lv_iconst (v := (-1)) hx hb dX11_by_77 (by decide) ?_
                refine lv_icmp_ne (tgt := 86) hx hb dX11_by_78 (by decide) (fun _ => ?_) (fun c => absurd (show r57.toInt = (-1 : Int) from wk_eq.mp c) (by omega))
                replace hM := hM.pos (by omega)
                refine lv_iload hx hb dX11_by_86 (lv_at hl 0 rfl) ?_
                exact tk_iret hC hr hlocks hK ⟨hT, hF, hM.ret rfl, (Or.inr (Or.inl ⟨(show 0 ≤ r57.toInt by first | with_reducible assumption | omega), (show r57.toInt ≤ 999999 by first | with_reducible assumption | omega), (show 0 ≤ a1.toInt by first | with_reducible assumption | omega), (show a1.toInt ≤ 3 by first | with_reducible assumption | omega), (show 0 ≤ a2.toInt by first | with_reducible assumption | omega), (show a2.toInt ≤ 9 by first | with_reducible assumption | omega), (show 0 ≤ a3.toInt by first | with_reducible assumption | omega), (show a3.toInt ≤ 9 by first | with_reducible assumption | omega), (show 0 ≤ a4.toInt by first | with_reducible assumption | omega), (show a4.toInt ≤ 1 by first | with_reducible assumption | omega), ⟨x8, c65, (show 1 ≤ x8.toInt by first | with_reducible assumption | omega), (show x8.toInt ≤ 4 by first | with_reducible assumption | omega)⟩, ⟨x18, c66, (show 1 ≤ x18.toInt by first | with_reducible assumption | omega), (show x18.toInt ≤ 10 by first | with_reducible assumption | omega)⟩⟩))⟩ hw dX11_by_88
              · replace hM := hM.call (r' := (-1)) hv64 (by decide)
                refine lv_goto (tgt := 73) hx hb dX11_by_60 (by decide) ?_
                refine lv_istore (lv' := [(5, .int (-1)), (0, .ref (ad 0)), (1, .int a1), (2, .int a2), (3, .int a3), (4, .int a4)]) hx hb dX11_by_73 hl (by decide) rfl (fun ls hl => ?_)
                refine lv_iload hx hb dX11_by_75 (lv_at hl 0 rfl) ?_
                refine lv_iconst (v := (-1)) hx hb dX11_by_77 (by decide) ?_
                refine lv_icmp_ne (tgt := 86) hx hb dX11_by_78 (by decide) (fun c => absurd (by decide) c) (fun _ => ?_)
                replace hM := hM.neg (by decide)
                refine lv_bipush (v := (-2)) hx hb dX11_by_81 (by decide) ?_
                refine lv_goto (tgt := 88) hx hb dX11_by_83 (by decide) ?_
                exact tk_iret hC hr hlocks hK ⟨hT, hF, hM.ret (by decide), (Or.inl ⟨rfl, (show 0 ≤ a1.toInt by first | with_reducible assumption | omega), (show a1.toInt ≤ 3 by first | with_reducible assumption | omega), (show 0 ≤ a2.toInt by first | with_reducible assumption | omega), (show a2.toInt ≤ 9 by first | with_reducible assumption | omega), (show 0 ≤ a3.toInt by first | with_reducible assumption | omega), (show a3.toInt ≤ 9 by first | with_reducible assumption | omega), (show 0 ≤ a4.toInt by first | with_reducible assumption | omega), (show a4.toInt ≤ 1 by first | with_reducible assumption | omega), ⟨x8, c65, (show 1 ≤ x8.toInt by first | with_reducible assumption | omega), (show x8.toInt ≤ 4 by first | with_reducible assumption | omega)⟩, ⟨x18, c66, (show 1 ≤ x18.toInt by first | with_reducible assumption | omega), (show x18.toInt ≤ 10 by first | with_reducible assumption | omega)⟩⟩)⟩ hw dX11_by_88
          · have c36 : (1 : Int) < a4.toInt := wk_leF c36
            replace hM := hM.neg (Int.not_le.mpr c36)
            exact J35  H locs ls w25   hw hT hF hM (lv_sub hl [0, 1, 2, 3, 4] rfl)
abbrev Pz_X11_seed_1 (ad : Nat → Nat) (cy : Nat → ClassId) (B : Int) (qr : Nat) (s1 : Int) (a1 : Int32) (w0 : va_W) : Int32 → va_W → Prop := fun r u => TW ksC ad cy B qr s1 u ∧ FE ksC [(5, 13, 13)] w0 u ∧ Ev (fun n => m_X11_seed n 0 a1.toInt (sI w0)) (r.toInt, sI u) ∧ ((0 ≤ r.toInt ∧ 0 ≤ a1.toInt) ∨ (r = (-1) ∧ a1.toInt ≤ (-1)))
set_option maxHeartbeats 4000000 in
set_option maxRecDepth 100000 in
theorem kz_X11_seed_1 (l : Launch) (adK adV : Nat → Nat) (dC : Nat → ClassId) (dI : Nat → Nat → Nat) (cy : Nat → ClassId) (ad : Nat → Nat) (B : Int) (hB0 : 2147483648 ≤ B) (hB1 : B ≤ 1152921504606846976) (qr : Nat) (s1 : Int)  (a1 : Int32) (w0 : va_W) (sz : Nat) (hT : TW ksC ad cy B qr s1 w0)  : Met l yX11_seed (wu yX11_seed cX11_seed 3 (some .int)) ({ frames := 1, cells := 0, slots := 0, locals := 12 }) (va_Pc [.ref (ad 0), .int a1] (wpreS adK adV dC dI cy sz w0)) (va_Qi (Pz_X11_seed_1 ad cy B qr s1 a1 w0) (fun u : va_W => wpost dC dI cy (va_A w0 sz) u) (va_A w0 sz)) 0 0 (va_A w0 sz) := by
  refine Met.ofW (cc := cX11_seed) (maxL := 3) (ret := (some .int)) (by decide) rfl ?_
  intro p e s m args below meth c s₁ Bk hml hv
  obtain ⟨rfl, ⟨hsz, hP, hK, hD0⟩, hE, hSR⟩ := hv
  have hx := Bk.exec
  have hb := Bk.bytes
  have hr := Bk.returns
  have hlocks := Bk.notSynchronized
  have hC : CallFix p m c cX11_seed 3 s _ (wu yX11_seed cX11_seed 3 (some .int)) RX11 := ⟨hx, hb, hml, findClass_of_methodNamed Bk.named, atoms_spec (ws := (wu yX11_seed cX11_seed 3 (some .int))) Bk.pre⟩
  subst hsz
  have hD := hD0.self (sz := s.heap.size)
  generalize hAe : va_A w0 s.heap.size = A at hD hE ⊢
  have hA : ∀ q : Nat, s.heap.size ≤ q → A q := fun q h => by rw [← hAe]; exact Or.inr h
  have hw : Wd dC dI A s.heap s.heap [] w0 := ⟨hP, hD, va_S.rf⟩
  have hF : FE ksC [(5, 13, 13)] w0 w0 := FE.rf
  have hl := lv_entry ([.ref (ad 0), .int a1]) (n := 3) (Nat.le_of_ble_eq_true rfl)
  rw [lg_entry_eq]
  generalize (lg_sl ([.ref (ad 0), .int a1]) ++ List.replicate (3 - (lg_sl ([.ref (ad 0), .int a1])).length) Slot.unset).toArray = ls at hl ⊢
  have hl : lv_has ls 3 [(0, .ref (ad 0)), (1, .int a1)] := hl
  generalize hloc : ([] : List Loc) = locs at hw ⊢
  have hinX11 : ∀ w ∈ u_ws RX11 TX11 13, w ∈ (wu yX11_seed cX11_seed 3 (some .int)) := fun _ h => List.mem_cons_of_mem _ (up_70 h)
  have hinX5 : ∀ w ∈ u_ws RX5 TX5 14, w ∈ (wu yX11_seed cX11_seed 3 (some .int)) := fun _ h => List.mem_cons_of_mem _ (up_76 h)
  have hM : TT (fun n => m_X11_seed n 0 a1.toInt (sI w0)) (fun n => m_X11_seed n 0 a1.toInt (sI w0)) := TT.rf
  refine lv_iload_n hx hb dX11_seed_0 rfl (lv_at hl 1 rfl) ?_
  refine lv_if_ge (tgt := 6) hx hb dX11_seed_1 (by decide) (fun c1 => ?_) (fun c1 => ?_)
  · have c1 : (0 : Int) ≤ a1.toInt := wk_le.mp c1
    replace hM := hM.pos c1
    refine lv_aload_n hx hb dX11_seed_6 rfl (lv_at hl 0 rfl) ?_
    refine tk_getA hC hK hw hT hinX11 kC_at0 (by decide) rfl 4 (by decide) (List.mem_cons_of_mem _ uw_1_7) rfl rfl dX11_seed_7 ?_
    refine tk_geti hC hK hw hT hinX5 kC_at38 (by decide) rfl 13 (by decide) (List.mem_cons_of_mem _ uw_67_0) rfl rfl dX11_seed_10 (fun x2 c3 rx2 tx2 => ?_)
    replace hM := hM.rd (sI_at c3)
    refine lv_istore_n (lv' := [(2, .int x2), (0, .ref (ad 0)), (1, .int a1)]) hx hb dX11_seed_13 rfl hl (by decide) rfl (fun ls hl => ?_)
    refine lv_aload_n hx hb dX11_seed_14 rfl (lv_at hl 1 rfl) ?_
    refine tk_getA hC hK hw hT hinX11 kC_at0 (by decide) rfl 4 (by decide) (List.mem_cons_of_mem _ uw_1_7) rfl rfl dX11_seed_15 ?_
    refine lv_iload_n hx hb dX11_seed_18 rfl (lv_at hl 2 rfl) ?_
    refine tk_puti hC hK hw hT hinX5 tyX5_ok nmX5 kC_at38 (by decide) rfl rfl 13 (by decide) (List.mem_cons_of_mem _ uw_67_0) rfl rfl rfl rfl (show 0 ≤ a1.toInt by first | with_reducible assumption | omega) (wk_i32 a1).2 dX11_seed_19 (fun H locs w4 hw hT k6 c5 => ?_)
    replace hM := hM.wr (sI_up k6 c5)
    have hF := hF.put kC_at38 (k := 13) (by decide) k6
    refine lv_iload_n hx hb dX11_seed_22 rfl (lv_at hl 0 rfl) ?_
    exact tk_iret hC hr hlocks hK ⟨hT, hF, hM.ret rfl, (Or.inl ⟨(show 0 ≤ x2.toInt from rx2), (show 0 ≤ a1.toInt by first | with_reducible assumption | omega)⟩)⟩ hw dX11_seed_23
  · have c1 : a1.toInt < (0 : Int) := wk_leF c1
    replace hM := hM.neg (Int.not_le.mpr c1)
    refine lv_iconst (v := (-1)) hx hb dX11_seed_4 (by decide) ?_
    exact tk_iret hC hr hlocks hK ⟨hT, hF, hM.ret (by decide), (Or.inr ⟨rfl, (show a1.toInt ≤ (-1) by first | with_reducible assumption | omega)⟩)⟩ hw dX11_seed_5
abbrev Pz_X12_four_1 (ad : Nat → Nat) (cy : Nat → ClassId) (B : Int) (qr : Nat) (s1 : Int) (a1 : Int32) (w0 : va_W) : va_W → Prop := fun u => TW ksM ad cy B qr 12 u ∧ FE ksM [(12, 1, 1), (60, 0, 400)] w0 u ∧ Ev (fun n => m_X12_four n 0 a1.toInt (sI w0)) (0, sI u) ∧ (((∃ y : Int32, gi u 0 1 = y ∧ 4 ≤ y.toInt ∧ y.toInt ≤ 384)))
set_option maxHeartbeats 4000000 in
set_option maxRecDepth 100000 in
theorem kz_X12_four_1 (l : Launch) (adK adV : Nat → Nat) (dC : Nat → ClassId) (dI : Nat → Nat → Nat) (cy : Nat → ClassId) (ad : Nat → Nat) (B : Int) (hB0 : 100000 ≤ B) (hB1 : B ≤ 1073741824) (qr : Nat) (s1 : Int)  (a1 : Int32) (w0 : va_W) (sz : Nat) (hT : TW ksM ad cy B qr 12 w0) (f0_ : Int32) (cf0_ : gi w0 0 1 = f0_) (rf0_ : 0 ≤ f0_.toInt) (tf0_ : f0_.toInt ≤ 380) : Met l yX12_four (wu yX12_four cX12_four 3 none) ({ frames := 1, cells := 0, slots := 0, locals := 12 }) (va_Pc [.ref (ad 0), .int a1] (wpreS adK adV dC dI cy sz w0)) (va_Qv (Pz_X12_four_1 ad cy B qr s1 a1 w0) (fun u : va_W => wpost dC dI cy (va_A w0 sz) u) (va_A w0 sz)) 0 0 (va_A w0 sz) := by
  refine Met.ofW (cc := cX12_four) (maxL := 3) (ret := none) (by decide) rfl ?_
  intro p e s m args below meth c s₁ Bk hml hv
  obtain ⟨rfl, ⟨hsz, hP, hK, hD0⟩, hE, hSR⟩ := hv
  have hx := Bk.exec
  have hb := Bk.bytes
  have hr := Bk.returns
  have hlocks := Bk.notSynchronized
  have hC : CallFix p m c cX12_four 3 s _ (wu yX12_four cX12_four 3 none) RX12 := ⟨hx, hb, hml, findClass_of_methodNamed Bk.named, atoms_spec (ws := (wu yX12_four cX12_four 3 none)) Bk.pre⟩
  subst hsz
  have hD := hD0.self (sz := s.heap.size)
  generalize hAe : va_A w0 s.heap.size = A at hD hE ⊢
  have hA : ∀ q : Nat, s.heap.size ≤ q → A q := fun q h => by rw [← hAe]; exact Or.inr h
  have hw : Wd dC dI A s.heap s.heap [] w0 := ⟨hP, hD, va_S.rf⟩
  have hF : FE ksM [(12, 1, 1), (60, 0, 400)] w0 w0 := FE.rf
  have hl := lv_entry ([.ref (ad 0), .int a1]) (n := 3) (Nat.le_of_ble_eq_true rfl)
  rw [lg_entry_eq]
  generalize (lg_sl ([.ref (ad 0), .int a1]) ++ List.replicate (3 - (lg_sl ([.ref (ad 0), .int a1])).length) Slot.unset).toArray = ls at hl ⊢
  have hl : lv_has ls 3 [(0, .ref (ad 0)), (1, .int a1)] := hl
  generalize hloc : ([] : List Loc) = locs at hw ⊢
  have hinX12 : ∀ w ∈ u_ws RX12 TX12 42, w ∈ (wu yX12_four cX12_four 3 none) := fun _ h => List.mem_cons_of_mem _ (up_71 h)
  have hM : TT (fun n => m_X12_four n 0 a1.toInt (sI w0)) (fun n => m_X12_four n 0 a1.toInt (sI w0)) := TT.rf
  refine lv_bipush (v := 24) hx hb dX12_four_0 (by decide) ?_
  refine lv_istore_n (lv' := [(2, .int 24), (0, .ref (ad 0)), (1, .int a1)]) hx hb dX12_four_2 rfl hl (by decide) rfl (fun ls hl => ?_)
  refine lv_iload_n hx hb dX12_four_3 rfl (lv_at hl 0 rfl) ?_
  refine lv_if_lt (tgt := 36) hx hb dX12_four_4 (by decide) (fun c => absurd c (by decide)) (fun _ => ?_)
  refine lv_aload_n hx hb dX12_four_7 rfl (lv_at hl 1 rfl) ?_
  refine tk_getA hC hK hw hT hinX12 kM_at0 (by decide) rfl 0 (by decide) (List.mem_cons_of_mem _ uw_6_14) rfl rfl dX12_four_8 ?_
  refine lv_aload_n hx hb dX12_four_11 rfl (lv_at hl 1 rfl) ?_
  refine tk_geti hC hK hw hT hinX12 kM_at0 (by decide) rfl 1 (by decide) (List.mem_cons_of_mem _ uw_8_7) rfl rfl dX12_four_12 (fun x1 c2 rx1 tx1 => ?_)
  refine wk_top f0_ (c2.symm.trans cf0_) ?_
  replace hM := hM.rd (sI_at cf0_)
  refine lv_iload_n hx hb dX12_four_15 rfl (lv_at hl 2 rfl) ?_
  refine lv_iload_n hx hb dX12_four_16 rfl (lv_at hl 0 rfl) ?_
  refine lv_ishr hx hb dX12_four_17 ?_
  refine lv_topi (fun x3 ex3 => ?_)
  have ezx3 := ex3
  replace hM := hM.lt (o32_e (f := fun x y => x >>> (y &&& 31)) ezx3 rfl (by decide))
  refine lv_i2b hx hb dX12_four_18 rfl ?_
  refine lv_topi (fun x4 ex4 => ?_)
  replace hM := hM.lt (mB_e ex4)
  refine tk_bastv hC hK hw hT kM_at1 (by decide) rfl rfl (show 0 ≤ f0_.toInt from rf0_) (show f0_.toInt < 400 from Int.lt_of_le_of_lt tf0_ (by decide)) dX12_four_19 (fun H locs w5 hw hT k7 c6 => ?_)
  obtain ⟨z8, ez8⟩ : ∃ z : Int32, z = x4.toInt8.toInt32 := ⟨_, rfl⟩
  have c6 := c6.trans ez8.symm
  replace hM := hM.lt (mB_e ez8)
  replace hM := hM.wr (sI_up k7 c6)
  have hF := hF.put kM_at1 (inE_of (a := 0) (b := 400) (by decide) (show 0 ≤ f0_.toInt.toNat by omega) (show f0_.toInt.toNat ≤ 400 by omega)) k7
  have c9 := k7.gi (Or.inl (tk_ne kM_at0 kM_at1 (by decide))) cf0_
  refine lv_aload_n hx hb dX12_four_20 rfl (lv_at hl 1 rfl) ?_
  refine lv_dup hx hb dX12_four_21 rfl ?_
  refine tk_geti hC hK hw hT hinX12 kM_at0 (by decide) rfl 1 (by decide) (List.mem_cons_of_mem _ uw_8_7) rfl rfl dX12_four_22 (fun x10 c11 rx10 tx10 => ?_)
  refine wk_top f0_ (c11.symm.trans c9) ?_
  replace hM := hM.rd (sI_at c9)
  refine lv_iconst (v := 1) hx hb dX12_four_25 (by decide) ?_
  refine lv_iadd hx hb dX12_four_26 ?_
  refine lv_topi (fun x12 ex12 => ?_)
  have ezx12 := ex12
  have ex12 : x12.toInt = f0_.toInt + (1 : Int) := by rw [ex12]; exact wk_add (show (-2147483648) ≤ f0_.toInt + (1 : Int) by omega) (show f0_.toInt + (1 : Int) ≤ 2147483647 by omega)
  replace hM := hM.lt ex12.symm
  refine tk_puti hC hK hw hT hinX12 tyX12_ok nmX12 kM_at0 (by decide) rfl rfl 1 (by decide) (List.mem_cons_of_mem _ uw_8_7) rfl rfl rfl rfl (show 0 ≤ x12.toInt by first | with_reducible assumption | omega) (show x12.toInt ≤ 400 by first | with_reducible assumption | omega) dX12_four_27 (fun H locs w13 hw hT k15 c14 => ?_)
  replace hM := hM.wr (sI_up k15 c14)
  have hF := hF.put kM_at0 (k := 1) (by decide) k15
  refine lv_iinc (v := 16) (lv' := [(2, .int 16), (0, .ref (ad 0)), (1, .int a1)]) hx hb dX12_four_30 hl (k := 0) rfl (by decide) (by decide) rfl (fun ls hl => ?_)
  refine lv_goto (tgt := 3) hx hb dX12_four_33 (by decide) ?_
  refine lv_iload_n hx hb dX12_four_3 rfl (lv_at hl 0 rfl) ?_
  refine lv_if_lt (tgt := 36) hx hb dX12_four_4 (by decide) (fun c => absurd c (by decide)) (fun _ => ?_)
  refine lv_aload_n hx hb dX12_four_7 rfl (lv_at hl 1 rfl) ?_
  refine tk_getA hC hK hw hT hinX12 kM_at0 (by decide) rfl 0 (by decide) (List.mem_cons_of_mem _ uw_6_14) rfl rfl dX12_four_8 ?_
  refine lv_aload_n hx hb dX12_four_11 rfl (lv_at hl 1 rfl) ?_
  refine tk_geti hC hK hw hT hinX12 kM_at0 (by decide) rfl 1 (by decide) (List.mem_cons_of_mem _ uw_8_7) rfl rfl dX12_four_12 (fun x16 c17 rx16 tx16 => ?_)
  refine wk_top x12 (c17.symm.trans c14) ?_
  replace hM := hM.rd (sI_at c14)
  refine lv_iload_n hx hb dX12_four_15 rfl (lv_at hl 2 rfl) ?_
  refine lv_iload_n hx hb dX12_four_16 rfl (lv_at hl 0 rfl) ?_
  refine lv_ishr hx hb dX12_four_17 ?_
  refine lv_topi (fun x18 ex18 => ?_)
  have ezx18 := ex18
  replace hM := hM.lt (o32_e (f := fun x y => x >>> (y &&& 31)) ezx18 rfl (by decide))
  refine lv_i2b hx hb dX12_four_18 rfl ?_
  refine lv_topi (fun x19 ex19 => ?_)
  replace hM := hM.lt (mB_e ex19)
  refine tk_bastv hC hK hw hT kM_at1 (by decide) rfl rfl (show 0 ≤ x12.toInt by first | with_reducible assumption | omega) (show x12.toInt < 400 by first | with_reducible assumption | omega) dX12_four_19 (fun H locs w20 hw hT k22 c21 => ?_)
  obtain ⟨z23, ez23⟩ : ∃ z : Int32, z = x19.toInt8.toInt32 := ⟨_, rfl⟩
  have c21 := c21.trans ez23.symm
  replace hM := hM.lt (mB_e ez23)
  replace hM := hM.wr (sI_up k22 c21)
  have hF := hF.put kM_at1 (inE_of (a := 0) (b := 400) (by decide) (show 0 ≤ x12.toInt.toNat by omega) (show x12.toInt.toNat ≤ 400 by omega)) k22
  have c24 := k22.gi (Or.inl (tk_ne kM_at0 kM_at1 (by decide))) c14
  refine lv_aload_n hx hb dX12_four_20 rfl (lv_at hl 1 rfl) ?_
  refine lv_dup hx hb dX12_four_21 rfl ?_
  refine tk_geti hC hK hw hT hinX12 kM_at0 (by decide) rfl 1 (by decide) (List.mem_cons_of_mem _ uw_8_7) rfl rfl dX12_four_22 (fun x25 c26 rx25 tx25 => ?_)
  refine wk_top x12 (c26.symm.trans c24) ?_
  replace hM := hM.rd (sI_at c24)
  refine lv_iconst (v := 1) hx hb dX12_four_25 (by decide) ?_
  refine lv_iadd hx hb dX12_four_26 ?_
  refine lv_topi (fun x27 ex27 => ?_)
  have ezx27 := ex27
  have ex27 : x27.toInt = x12.toInt + (1 : Int) := by rw [ex27]; exact wk_add (show (-2147483648) ≤ x12.toInt + (1 : Int) by omega) (show x12.toInt + (1 : Int) ≤ 2147483647 by omega)
  replace hM := hM.lt ex27.symm
  refine tk_puti hC hK hw hT hinX12 tyX12_ok nmX12 kM_at0 (by decide) rfl rfl 1 (by decide) (List.mem_cons_of_mem _ uw_8_7) rfl rfl rfl rfl (show 0 ≤ x27.toInt by first | with_reducible assumption | omega) (show x27.toInt ≤ 400 by first | with_reducible assumption | omega) dX12_four_27 (fun H locs w28 hw hT k30 c29 => ?_)
  replace hM := hM.wr (sI_up k30 c29)
  have hF := hF.put kM_at0 (k := 1) (by decide) k30
  refine lv_iinc (v := 8) (lv' := [(2, .int 8), (0, .ref (ad 0)), (1, .int a1)]) hx hb dX12_four_30 hl (k := 0) rfl (by decide) (by decide) rfl (fun ls hl => ?_)
  refine lv_goto (tgt := 3) hx hb dX12_four_33 (by decide) ?_
  refine lv_iload_n hx hb dX12_four_3 rfl (lv_at hl 0 rfl) ?_
  refine lv_if_lt (tgt := 36) hx hb dX12_four_4 (by decide) (fun c => absurd c (by decide)) (fun _ => ?_)
  refine lv_aload_n hx hb dX12_four_7 rfl (lv_at hl 1 rfl) ?_
  refine tk_getA hC hK hw hT hinX12 kM_at0 (by decide) rfl 0 (by decide) (List.mem_cons_of_mem _ uw_6_14) rfl rfl dX12_four_8 ?_
  refine lv_aload_n hx hb dX12_four_11 rfl (lv_at hl 1 rfl) ?_
  refine tk_geti hC hK hw hT hinX12 kM_at0 (by decide) rfl 1 (by decide) (List.mem_cons_of_mem _ uw_8_7) rfl rfl dX12_four_12 (fun x31 c32 rx31 tx31 => ?_)
  refine wk_top x27 (c32.symm.trans c29) ?_
  replace hM := hM.rd (sI_at c29)
  refine lv_iload_n hx hb dX12_four_15 rfl (lv_at hl 2 rfl) ?_
  refine lv_iload_n hx hb dX12_four_16 rfl (lv_at hl 0 rfl) ?_
  refine lv_ishr hx hb dX12_four_17 ?_
  refine lv_topi (fun x33 ex33 => ?_)
  have ezx33 := ex33
  replace hM := hM.lt (o32_e (f := fun x y => x >>> (y &&& 31)) ezx33 rfl (by decide))
  refine lv_i2b hx hb dX12_four_18 rfl ?_
  refine lv_topi (fun x34 ex34 => ?_)
  replace hM := hM.lt (mB_e ex34)
  refine tk_bastv hC hK hw hT kM_at1 (by decide) rfl rfl (show 0 ≤ x27.toInt by first | with_reducible assumption | omega) (show x27.toInt < 400 by first | with_reducible assumption | omega) dX12_four_19 (fun H locs w35 hw hT k37 c36 => ?_)
  obtain ⟨z38, ez38⟩ : ∃ z : Int32, z = x34.toInt8.toInt32 := ⟨_, rfl⟩
  have c36 := c36.trans ez38.symm
  replace hM := hM.lt (mB_e ez38)
  replace hM := hM.wr (sI_up k37 c36)
  have hF := hF.put kM_at1 (inE_of (a := 0) (b := 400) (by decide) (show 0 ≤ x27.toInt.toNat by omega) (show x27.toInt.toNat ≤ 400 by omega)) k37
  have c39 := k37.gi (Or.inl (tk_ne kM_at0 kM_at1 (by decide))) c29
  refine lv_aload_n hx hb dX12_four_20 rfl (lv_at hl 1 rfl) ?_
  refine lv_dup hx hb dX12_four_21 rfl ?_
  refine tk_geti hC hK hw hT hinX12 kM_at0 (by decide) rfl 1 (by decide) (List.mem_cons_of_mem _ uw_8_7) rfl rfl dX12_four_22 (fun x40 c41 rx40 tx40 => ?_)
  refine wk_top x27 (c41.symm.trans c39) ?_
  replace hM := hM.rd (sI_at c39)
  refine lv_iconst (v := 1) hx hb dX12_four_25 (by decide) ?_
  refine lv_iadd hx hb dX12_four_26 ?_
  refine lv_topi (fun x42 ex42 => ?_)
  have ezx42 := ex42
  have ex42 : x42.toInt = x27.toInt + (1 : Int) := by rw [ex42]; exact wk_add (show (-2147483648) ≤ x27.toInt + (1 : Int) by omega) (show x27.toInt + (1 : Int) ≤ 2147483647 by omega)
  replace hM := hM.lt ex42.symm
  refine tk_puti hC hK hw hT hinX12 tyX12_ok nmX12 kM_at0 (by decide) rfl rfl 1 (by decide) (List.mem_cons_of_mem _ uw_8_7) rfl rfl rfl rfl (show 0 ≤ x42.toInt by first | with_reducible assumption | omega) (show x42.toInt ≤ 400 by first | with_reducible assumption | omega) dX12_four_27 (fun H locs w43 hw hT k45 c44 => ?_)
  replace hM := hM.wr (sI_up k45 c44)
  have hF := hF.put kM_at0 (k := 1) (by decide) k45
  refine lv_iinc (v := 0) (lv' := [(2, .int 0), (0, .ref (ad 0)), (1, .int a1)]) hx hb dX12_four_30 hl (k := 0) rfl (by decide) (by decide) rfl (fun ls hl => ?_)
  refine lv_goto (tgt := 3) hx hb dX12_four_33 (by decide) ?_
  refine lv_iload_n hx hb dX12_four_3 rfl (lv_at hl 0 rfl) ?_
  refine lv_if_lt (tgt := 36) hx hb dX12_four_4 (by decide) (fun c => absurd c (by decide)) (fun _ => ?_)
  refine lv_aload_n hx hb dX12_four_7 rfl (lv_at hl 1 rfl) ?_
  refine tk_getA hC hK hw hT hinX12 kM_at0 (by decide) rfl 0 (by decide) (List.mem_cons_of_mem _ uw_6_14) rfl rfl dX12_four_8 ?_
  refine lv_aload_n hx hb dX12_four_11 rfl (lv_at hl 1 rfl) ?_
  refine tk_geti hC hK hw hT hinX12 kM_at0 (by decide) rfl 1 (by decide) (List.mem_cons_of_mem _ uw_8_7) rfl rfl dX12_four_12 (fun x46 c47 rx46 tx46 => ?_)
  refine wk_top x42 (c47.symm.trans c44) ?_
  replace hM := hM.rd (sI_at c44)
  refine lv_iload_n hx hb dX12_four_15 rfl (lv_at hl 2 rfl) ?_
  refine lv_iload_n hx hb dX12_four_16 rfl (lv_at hl 0 rfl) ?_
  refine lv_ishr hx hb dX12_four_17 ?_
  refine lv_topi (fun x48 ex48 => ?_)
  have ezx48 := ex48
  replace hM := hM.lt (o32_e (f := fun x y => x >>> (y &&& 31)) ezx48 rfl (by decide))
  refine lv_i2b hx hb dX12_four_18 rfl ?_
  refine lv_topi (fun x49 ex49 => ?_)
  replace hM := hM.lt (mB_e ex49)
  refine tk_bastv hC hK hw hT kM_at1 (by decide) rfl rfl (show 0 ≤ x42.toInt by first | with_reducible assumption | omega) (show x42.toInt < 400 by first | with_reducible assumption | omega) dX12_four_19 (fun H locs w50 hw hT k52 c51 => ?_)
  obtain ⟨z53, ez53⟩ : ∃ z : Int32, z = x49.toInt8.toInt32 := ⟨_, rfl⟩
  have c51 := c51.trans ez53.symm
  replace hM := hM.lt (mB_e ez53)
  replace hM := hM.wr (sI_up k52 c51)
  have hF := hF.put kM_at1 (inE_of (a := 0) (b := 400) (by decide) (show 0 ≤ x42.toInt.toNat by omega) (show x42.toInt.toNat ≤ 400 by omega)) k52
  have c54 := k52.gi (Or.inl (tk_ne kM_at0 kM_at1 (by decide))) c44
  refine lv_aload_n hx hb dX12_four_20 rfl (lv_at hl 1 rfl) ?_
  refine lv_dup hx hb dX12_four_21 rfl ?_
  refine tk_geti hC hK hw hT hinX12 kM_at0 (by decide) rfl 1 (by decide) (List.mem_cons_of_mem _ uw_8_7) rfl rfl dX12_four_22 (fun x55 c56 rx55 tx55 => ?_)
  refine wk_top x42 (c56.symm.trans c54) ?_
  replace hM := hM.rd (sI_at c54)
  refine lv_iconst (v := 1) hx hb dX12_four_25 (by decide) ?_
  refine lv_iadd hx hb dX12_four_26 ?_
  refine lv_topi (fun x57 ex57 => ?_)
  have ezx57 := ex57
  have ex57 : x57.toInt = x42.toInt + (1 : Int) := by rw [ex57]; exact wk_add (show (-2147483648) ≤ x42.toInt + (1 : Int) by omega) (show x42.toInt + (1 : Int) ≤ 2147483647 by omega)
  replace hM := hM.lt ex57.symm
  refine tk_puti hC hK hw hT hinX12 tyX12_ok nmX12 kM_at0 (by decide) rfl rfl 1 (by decide) (List.mem_cons_of_mem _ uw_8_7) rfl rfl rfl rfl (show 0 ≤ x57.toInt by first | with_reducible assumption | omega) (show x57.toInt ≤ 400 by first | with_reducible assumption | omega) dX12_four_27 (fun H locs w58 hw hT k60 c59 => ?_)
  replace hM := hM.wr (sI_up k60 c59)
  have hF := hF.put kM_at0 (k := 1) (by decide) k60
  refine lv_iinc (v := (-8)) (lv' := [(2, .int (-8)), (0, .ref (ad 0)), (1, .int a1)]) hx hb dX12_four_30 hl (k := 0) rfl (by decide) (by decide) rfl (fun ls hl => ?_)
  refine lv_goto (tgt := 3) hx hb dX12_four_33 (by decide) ?_
  refine lv_iload_n hx hb dX12_four_3 rfl (lv_at hl 0 rfl) ?_
  refine lv_if_lt (tgt := 36) hx hb dX12_four_4 (by decide) (fun _ => ?_) (fun c => absurd (by decide) c)
  exact tk_vret hC hr hlocks hK ⟨hT, hF, hM.ret rfl, ⟨x57, c59, (show 4 ≤ x57.toInt by first | with_reducible assumption | omega), (show x57.toInt ≤ 384 by first | with_reducible assumption | omega)⟩⟩ hw dX12_four_36
abbrev Pz_X12_four_2 (ad : Nat → Nat) (cy : Nat → ClassId) (B : Int) (qr : Nat) (s1 : Int) (a1 : Int32) (w0 : va_W) : va_W → Prop := fun u => TW ksM ad cy B qr 12 u ∧ FE ksM [(12, 1, 1), (60, 0, 400)] w0 u ∧ Ev (fun n => m_X12_four n 0 a1.toInt (sI w0)) (0, sI u) ∧ (((∃ y : Int32, gi u 0 1 = y ∧ 8 ≤ y.toInt ∧ y.toInt ≤ 388)))
set_option maxHeartbeats 4000000 in
set_option maxRecDepth 100000 in
theorem kz_X12_four_2 (l : Launch) (adK adV : Nat → Nat) (dC : Nat → ClassId) (dI : Nat → Nat → Nat) (cy : Nat → ClassId) (ad : Nat → Nat) (B : Int) (hB0 : 100000 ≤ B) (hB1 : B ≤ 1073741824) (qr : Nat) (s1 : Int)  (a1 : Int32) (w0 : va_W) (sz : Nat) (hT : TW ksM ad cy B qr 12 w0) (f0_ : Int32) (cf0_ : gi w0 0 1 = f0_) (rf0_ : 4 ≤ f0_.toInt) (tf0_ : f0_.toInt ≤ 384) : Met l yX12_four (wu yX12_four cX12_four 3 none) ({ frames := 1, cells := 0, slots := 0, locals := 12 }) (va_Pc [.ref (ad 0), .int a1] (wpreS adK adV dC dI cy sz w0)) (va_Qv (Pz_X12_four_2 ad cy B qr s1 a1 w0) (fun u : va_W => wpost dC dI cy (va_A w0 sz) u) (va_A w0 sz)) 0 0 (va_A w0 sz) := by
  refine Met.ofW (cc := cX12_four) (maxL := 3) (ret := none) (by decide) rfl ?_
  intro p e s m args below meth c s₁ Bk hml hv
  obtain ⟨rfl, ⟨hsz, hP, hK, hD0⟩, hE, hSR⟩ := hv
  have hx := Bk.exec
  have hb := Bk.bytes
  have hr := Bk.returns
  have hlocks := Bk.notSynchronized
  have hC : CallFix p m c cX12_four 3 s _ (wu yX12_four cX12_four 3 none) RX12 := ⟨hx, hb, hml, findClass_of_methodNamed Bk.named, atoms_spec (ws := (wu yX12_four cX12_four 3 none)) Bk.pre⟩
  subst hsz
  have hD := hD0.self (sz := s.heap.size)
  generalize hAe : va_A w0 s.heap.size = A at hD hE ⊢
  have hA : ∀ q : Nat, s.heap.size ≤ q → A q := fun q h => by rw [← hAe]; exact Or.inr h
  have hw : Wd dC dI A s.heap s.heap [] w0 := ⟨hP, hD, va_S.rf⟩
  have hF : FE ksM [(12, 1, 1), (60, 0, 400)] w0 w0 := FE.rf
  have hl := lv_entry ([.ref (ad 0), .int a1]) (n := 3) (Nat.le_of_ble_eq_true rfl)
  rw [lg_entry_eq]
  generalize (lg_sl ([.ref (ad 0), .int a1]) ++ List.replicate (3 - (lg_sl ([.ref (ad 0), .int a1])).length) Slot.unset).toArray = ls at hl ⊢
  have hl : lv_has ls 3 [(0, .ref (ad 0)), (1, .int a1)] := hl
  generalize hloc : ([] : List Loc) = locs at hw ⊢
  have hinX12 : ∀ w ∈ u_ws RX12 TX12 42, w ∈ (wu yX12_four cX12_four 3 none) := fun _ h => List.mem_cons_of_mem _ (up_71 h)
  have hM : TT (fun n => m_X12_four n 0 a1.toInt (sI w0)) (fun n => m_X12_four n 0 a1.toInt (sI w0)) := TT.rf
  refine lv_bipush (v := 24) hx hb dX12_four_0 (by decide) ?_
  refine lv_istore_n (lv' := [(2, .int 24), (0, .ref (ad 0)), (1, .int a1)]) hx hb dX12_four_2 rfl hl (by decide) rfl (fun ls hl => ?_)
  refine lv_iload_n hx hb dX12_four_3 rfl (lv_at hl 0 rfl) ?_
  refine lv_if_lt (tgt := 36) hx hb dX12_four_4 (by decide) (fun c => absurd c (by decide)) (fun _ => ?_)
  refine lv_aload_n hx hb dX12_four_7 rfl (lv_at hl 1 rfl) ?_
  refine tk_getA hC hK hw hT hinX12 kM_at0 (by decide) rfl 0 (by decide) (List.mem_cons_of_mem _ uw_6_14) rfl rfl dX12_four_8 ?_
  refine lv_aload_n hx hb dX12_four_11 rfl (lv_at hl 1 rfl) ?_
  refine tk_geti hC hK hw hT hinX12 kM_at0 (by decide) rfl 1 (by decide) (List.mem_cons_of_mem _ uw_8_7) rfl rfl dX12_four_12 (fun x1 c2 rx1 tx1 => ?_)
  refine wk_top f0_ (c2.symm.trans cf0_) ?_
  replace hM := hM.rd (sI_at cf0_)
  refine lv_iload_n hx hb dX12_four_15 rfl (lv_at hl 2 rfl) ?_
  refine lv_iload_n hx hb dX12_four_16 rfl (lv_at hl 0 rfl) ?_
  refine lv_ishr hx hb dX12_four_17 ?_
  refine lv_topi (fun x3 ex3 => ?_)
  have ezx3 := ex3
  replace hM := hM.lt (o32_e (f := fun x y => x >>> (y &&& 31)) ezx3 rfl (by decide))
  refine lv_i2b hx hb dX12_four_18 rfl ?_
  refine lv_topi (fun x4 ex4 => ?_)
  replace hM := hM.lt (mB_e ex4)
  refine tk_bastv hC hK hw hT kM_at1 (by decide) rfl rfl (show 0 ≤ f0_.toInt from Int.le_trans (by decide) rf0_) (show f0_.toInt < 400 from Int.lt_of_le_of_lt tf0_ (by decide)) dX12_four_19 (fun H locs w5 hw hT k7 c6 => ?_)
  obtain ⟨z8, ez8⟩ : ∃ z : Int32, z = x4.toInt8.toInt32 := ⟨_, rfl⟩
  have c6 := c6.trans ez8.symm
  replace hM := hM.lt (mB_e ez8)
  replace hM := hM.wr (sI_up k7 c6)
  have hF := hF.put kM_at1 (inE_of (a := 0) (b := 400) (by decide) (show 0 ≤ f0_.toInt.toNat by omega) (show f0_.toInt.toNat ≤ 400 by omega)) k7
  have c9 := k7.gi (Or.inl (tk_ne kM_at0 kM_at1 (by decide))) cf0_
  refine lv_aload_n hx hb dX12_four_20 rfl (lv_at hl 1 rfl) ?_
  refine lv_dup hx hb dX12_four_21 rfl ?_
  refine tk_geti hC hK hw hT hinX12 kM_at0 (by decide) rfl 1 (by decide) (List.mem_cons_of_mem _ uw_8_7) rfl rfl dX12_four_22 (fun x10 c11 rx10 tx10 => ?_)
  refine wk_top f0_ (c11.symm.trans c9) ?_
  replace hM := hM.rd (sI_at c9)
  refine lv_iconst (v := 1) hx hb dX12_four_25 (by decide) ?_
  refine lv_iadd hx hb dX12_four_26 ?_
  refine lv_topi (fun x12 ex12 => ?_)
  have ezx12 := ex12
  have ex12 : x12.toInt = f0_.toInt + (1 : Int) := by rw [ex12]; exact wk_add (show (-2147483648) ≤ f0_.toInt + (1 : Int) by omega) (show f0_.toInt + (1 : Int) ≤ 2147483647 by omega)
  replace hM := hM.lt ex12.symm
  refine tk_puti hC hK hw hT hinX12 tyX12_ok nmX12 kM_at0 (by decide) rfl rfl 1 (by decide) (List.mem_cons_of_mem _ uw_8_7) rfl rfl rfl rfl (show 0 ≤ x12.toInt by first | with_reducible assumption | omega) (show x12.toInt ≤ 400 by first | with_reducible assumption | omega) dX12_four_27 (fun H locs w13 hw hT k15 c14 => ?_)
  replace hM := hM.wr (sI_up k15 c14)
  have hF := hF.put kM_at0 (k := 1) (by decide) k15
  refine lv_iinc (v := 16) (lv' := [(2, .int 16), (0, .ref (ad 0)), (1, .int a1)]) hx hb dX12_four_30 hl (k := 0) rfl (by decide) (by decide) rfl (fun ls hl => ?_)
  refine lv_goto (tgt := 3) hx hb dX12_four_33 (by decide) ?_
  refine lv_iload_n hx hb dX12_four_3 rfl (lv_at hl 0 rfl) ?_
  refine lv_if_lt (tgt := 36) hx hb dX12_four_4 (by decide) (fun c => absurd c (by decide)) (fun _ => ?_)
  refine lv_aload_n hx hb dX12_four_7 rfl (lv_at hl 1 rfl) ?_
  refine tk_getA hC hK hw hT hinX12 kM_at0 (by decide) rfl 0 (by decide) (List.mem_cons_of_mem _ uw_6_14) rfl rfl dX12_four_8 ?_
  refine lv_aload_n hx hb dX12_four_11 rfl (lv_at hl 1 rfl) ?_
  refine tk_geti hC hK hw hT hinX12 kM_at0 (by decide) rfl 1 (by decide) (List.mem_cons_of_mem _ uw_8_7) rfl rfl dX12_four_12 (fun x16 c17 rx16 tx16 => ?_)
  refine wk_top x12 (c17.symm.trans c14) ?_
  replace hM := hM.rd (sI_at c14)
  refine lv_iload_n hx hb dX12_four_15 rfl (lv_at hl 2 rfl) ?_
  refine lv_iload_n hx hb dX12_four_16 rfl (lv_at hl 0 rfl) ?_
  refine lv_ishr hx hb dX12_four_17 ?_
  refine lv_topi (fun x18 ex18 => ?_)
  have ezx18 := ex18
  replace hM := hM.lt (o32_e (f := fun x y => x >>> (y &&& 31)) ezx18 rfl (by decide))
  refine lv_i2b hx hb dX12_four_18 rfl ?_
  refine lv_topi (fun x19 ex19 => ?_)
  replace hM := hM.lt (mB_e ex19)
  refine tk_bastv hC hK hw hT kM_at1 (by decide) rfl rfl (show 0 ≤ x12.toInt by first | with_reducible assumption | omega) (show x12.toInt < 400 by first | with_reducible assumption | omega) dX12_four_19 (fun H locs w20 hw hT k22 c21 => ?_)
  obtain ⟨z23, ez23⟩ : ∃ z : Int32, z = x19.toInt8.toInt32 := ⟨_, rfl⟩
  have c21 := c21.trans ez23.symm
  replace hM := hM.lt (mB_e ez23)
  replace hM := hM.wr (sI_up k22 c21)
  have hF := hF.put kM_at1 (inE_of (a := 0) (b := 400) (by decide) (show 0 ≤ x12.toInt.toNat by omega) (show x12.toInt.toNat ≤ 400 by omega)) k22
  have c24 := k22.gi (Or.inl (tk_ne kM_at0 kM_at1 (by decide))) c14
  refine lv_aload_n hx hb dX12_four_20 rfl (lv_at hl 1 rfl) ?_
  refine lv_dup hx hb dX12_four_21 rfl ?_
  refine tk_geti hC hK hw hT hinX12 kM_at0 (by decide) rfl 1 (by decide) (List.mem_cons_of_mem _ uw_8_7) rfl rfl dX12_four_22 (fun x25 c26 rx25 tx25 => ?_)
  refine wk_top x12 (c26.symm.trans c24) ?_
  replace hM := hM.rd (sI_at c24)
  refine lv_iconst (v := 1) hx hb dX12_four_25 (by decide) ?_
  refine lv_iadd hx hb dX12_four_26 ?_
  refine lv_topi (fun x27 ex27 => ?_)
  have ezx27 := ex27
  have ex27 : x27.toInt = x12.toInt + (1 : Int) := by rw [ex27]; exact wk_add (show (-2147483648) ≤ x12.toInt + (1 : Int) by omega) (show x12.toInt + (1 : Int) ≤ 2147483647 by omega)
  replace hM := hM.lt ex27.symm
  refine tk_puti hC hK hw hT hinX12 tyX12_ok nmX12 kM_at0 (by decide) rfl rfl 1 (by decide) (List.mem_cons_of_mem _ uw_8_7) rfl rfl rfl rfl (show 0 ≤ x27.toInt by first | with_reducible assumption | omega) (show x27.toInt ≤ 400 by first | with_reducible assumption | omega) dX12_four_27 (fun H locs w28 hw hT k30 c29 => ?_)
  replace hM := hM.wr (sI_up k30 c29)
  have hF := hF.put kM_at0 (k := 1) (by decide) k30
  refine lv_iinc (v := 8) (lv' := [(2, .int 8), (0, .ref (ad 0)), (1, .int a1)]) hx hb dX12_four_30 hl (k := 0) rfl (by decide) (by decide) rfl (fun ls hl => ?_)
  refine lv_goto (tgt := 3) hx hb dX12_four_33 (by decide) ?_
  refine lv_iload_n hx hb dX12_four_3 rfl (lv_at hl 0 rfl) ?_
  refine lv_if_lt (tgt := 36) hx hb dX12_four_4 (by decide) (fun c => absurd c (by decide)) (fun _ => ?_)
  refine lv_aload_n hx hb dX12_four_7 rfl (lv_at hl 1 rfl) ?_
  refine tk_getA hC hK hw hT hinX12 kM_at0 (by decide) rfl 0 (by decide) (List.mem_cons_of_mem _ uw_6_14) rfl rfl dX12_four_8 ?_
  refine lv_aload_n hx hb dX12_four_11 rfl (lv_at hl 1 rfl) ?_
  refine tk_geti hC hK hw hT hinX12 kM_at0 (by decide) rfl 1 (by decide) (List.mem_cons_of_mem _ uw_8_7) rfl rfl dX12_four_12 (fun x31 c32 rx31 tx31 => ?_)
  refine wk_top x27 (c32.symm.trans c29) ?_
  replace hM := hM.rd (sI_at c29)
  refine lv_iload_n hx hb dX12_four_15 rfl (lv_at hl 2 rfl) ?_
  refine lv_iload_n hx hb dX12_four_16 rfl (lv_at hl 0 rfl) ?_
  refine lv_ishr hx hb dX12_four_17 ?_
  refine lv_topi (fun x33 ex33 => ?_)
  have ezx33 := ex33
  replace hM := hM.lt (o32_e (f := fun x y => x >>> (y &&& 31)) ezx33 rfl (by decide))
  refine lv_i2b hx hb dX12_four_18 rfl ?_
  refine lv_topi (fun x34 ex34 => ?_)
  replace hM := hM.lt (mB_e ex34)
  refine tk_bastv hC hK hw hT kM_at1 (by decide) rfl rfl (show 0 ≤ x27.toInt by first | with_reducible assumption | omega) (show x27.toInt < 400 by first | with_reducible assumption | omega) dX12_four_19 (fun H locs w35 hw hT k37 c36 => ?_)
  obtain ⟨z38, ez38⟩ : ∃ z : Int32, z = x34.toInt8.toInt32 := ⟨_, rfl⟩
  have c36 := c36.trans ez38.symm
  replace hM := hM.lt (mB_e ez38)
  replace hM := hM.wr (sI_up k37 c36)
  have hF := hF.put kM_at1 (inE_of (a := 0) (b := 400) (by decide) (show 0 ≤ x27.toInt.toNat by omega) (show x27.toInt.toNat ≤ 400 by omega)) k37
  have c39 := k37.gi (Or.inl (tk_ne kM_at0 kM_at1 (by decide))) c29
  refine lv_aload_n hx hb dX12_four_20 rfl (lv_at hl 1 rfl) ?_
  refine lv_dup hx hb dX12_four_21 rfl ?_
  refine tk_geti hC hK hw hT hinX12 kM_at0 (by decide) rfl 1 (by decide) (List.mem_cons_of_mem _ uw_8_7) rfl rfl dX12_four_22 (fun x40 c41 rx40 tx40 => ?_)
  refine wk_top x27 (c41.symm.trans c39) ?_
  replace hM := hM.rd (sI_at c39)
  refine lv_iconst (v := 1) hx hb dX12_four_25 (by decide) ?_
  refine lv_iadd hx hb dX12_four_26 ?_
  refine lv_topi (fun x42 ex42 => ?_)
  have ezx42 := ex42
  have ex42 : x42.toInt = x27.toInt + (1 : Int) := by rw [ex42]; exact wk_add (show (-2147483648) ≤ x27.toInt + (1 : Int) by omega) (show x27.toInt + (1 : Int) ≤ 2147483647 by omega)
  replace hM := hM.lt ex42.symm
  refine tk_puti hC hK hw hT hinX12 tyX12_ok nmX12 kM_at0 (by decide) rfl rfl 1 (by decide) (List.mem_cons_of_mem _ uw_8_7) rfl rfl rfl rfl (show 0 ≤ x42.toInt by first | with_reducible assumption | omega) (show x42.toInt ≤ 400 by first | with_reducible assumption | omega) dX12_four_27 (fun H locs w43 hw hT k45 c44 => ?_)
  replace hM := hM.wr (sI_up k45 c44)
  have hF := hF.put kM_at0 (k := 1) (by decide) k45
  refine lv_iinc (v := 0) (lv' := [(2, .int 0), (0, .ref (ad 0)), (1, .int a1)]) hx hb dX12_four_30 hl (k := 0) rfl (by decide) (by decide) rfl (fun ls hl => ?_)
  refine lv_goto (tgt := 3) hx hb dX12_four_33 (by decide) ?_
  refine lv_iload_n hx hb dX12_four_3 rfl (lv_at hl 0 rfl) ?_
  refine lv_if_lt (tgt := 36) hx hb dX12_four_4 (by decide) (fun c => absurd c (by decide)) (fun _ => ?_)
  refine lv_aload_n hx hb dX12_four_7 rfl (lv_at hl 1 rfl) ?_
  refine tk_getA hC hK hw hT hinX12 kM_at0 (by decide) rfl 0 (by decide) (List.mem_cons_of_mem _ uw_6_14) rfl rfl dX12_four_8 ?_
  refine lv_aload_n hx hb dX12_four_11 rfl (lv_at hl 1 rfl) ?_
  refine tk_geti hC hK hw hT hinX12 kM_at0 (by decide) rfl 1 (by decide) (List.mem_cons_of_mem _ uw_8_7) rfl rfl dX12_four_12 (fun x46 c47 rx46 tx46 => ?_)
  refine wk_top x42 (c47.symm.trans c44) ?_
  replace hM := hM.rd (sI_at c44)
  refine lv_iload_n hx hb dX12_four_15 rfl (lv_at hl 2 rfl) ?_
  refine lv_iload_n hx hb dX12_four_16 rfl (lv_at hl 0 rfl) ?_
  refine lv_ishr hx hb dX12_four_17 ?_
  refine lv_topi (fun x48 ex48 => ?_)
  have ezx48 := ex48
  replace hM := hM.lt (o32_e (f := fun x y => x >>> (y &&& 31)) ezx48 rfl (by decide))
  refine lv_i2b hx hb dX12_four_18 rfl ?_
  refine lv_topi (fun x49 ex49 => ?_)
  replace hM := hM.lt (mB_e ex49)
  refine tk_bastv hC hK hw hT kM_at1 (by decide) rfl rfl (show 0 ≤ x42.toInt by first | with_reducible assumption | omega) (show x42.toInt < 400 by first | with_reducible assumption | omega) dX12_four_19 (fun H locs w50 hw hT k52 c51 => ?_)
  obtain ⟨z53, ez53⟩ : ∃ z : Int32, z = x49.toInt8.toInt32 := ⟨_, rfl⟩
  have c51 := c51.trans ez53.symm
  replace hM := hM.lt (mB_e ez53)
  replace hM := hM.wr (sI_up k52 c51)
  have hF := hF.put kM_at1 (inE_of (a := 0) (b := 400) (by decide) (show 0 ≤ x42.toInt.toNat by omega) (show x42.toInt.toNat ≤ 400 by omega)) k52
  have c54 := k52.gi (Or.inl (tk_ne kM_at0 kM_at1 (by decide))) c44
  refine lv_aload_n hx hb dX12_four_20 rfl (lv_at hl 1 rfl) ?_
  refine lv_dup hx hb dX12_four_21 rfl ?_
  refine tk_geti hC hK hw hT hinX12 kM_at0 (by decide) rfl 1 (by decide) (List.mem_cons_of_mem _ uw_8_7) rfl rfl dX12_four_22 (fun x55 c56 rx55 tx55 => ?_)
  refine wk_top x42 (c56.symm.trans c54) ?_
  replace hM := hM.rd (sI_at c54)
  refine lv_iconst (v := 1) hx hb dX12_four_25 (by decide) ?_
  refine lv_iadd hx hb dX12_four_26 ?_
  refine lv_topi (fun x57 ex57 => ?_)
  have ezx57 := ex57
  have ex57 : x57.toInt = x42.toInt + (1 : Int) := by rw [ex57]; exact wk_add (show (-2147483648) ≤ x42.toInt + (1 : Int) by omega) (show x42.toInt + (1 : Int) ≤ 2147483647 by omega)
  replace hM := hM.lt ex57.symm
  refine tk_puti hC hK hw hT hinX12 tyX12_ok nmX12 kM_at0 (by decide) rfl rfl 1 (by decide) (List.mem_cons_of_mem _ uw_8_7) rfl rfl rfl rfl (show 0 ≤ x57.toInt by first | with_reducible assumption | omega) (show x57.toInt ≤ 400 by first | with_reducible assumption | omega) dX12_four_27 (fun H locs w58 hw hT k60 c59 => ?_)
  replace hM := hM.wr (sI_up k60 c59)
  have hF := hF.put kM_at0 (k := 1) (by decide) k60
  refine lv_iinc (v := (-8)) (lv' := [(2, .int (-8)), (0, .ref (ad 0)), (1, .int a1)]) hx hb dX12_four_30 hl (k := 0) rfl (by decide) (by decide) rfl (fun ls hl => ?_)
  refine lv_goto (tgt := 3) hx hb dX12_four_33 (by decide) ?_
  refine lv_iload_n hx hb dX12_four_3 rfl (lv_at hl 0 rfl) ?_
  refine lv_if_lt (tgt := 36) hx hb dX12_four_4 (by decide) (fun _ => ?_) (fun c => absurd (by decide) c)
  exact tk_vret hC hr hlocks hK ⟨hT, hF, hM.ret rfl, ⟨x57, c59, (show 8 ≤ x57.toInt by first | with_reducible assumption | omega), (show x57.toInt ≤ 388 by first | with_reducible assumption | omega)⟩⟩ hw dX12_four_36
abbrev Pz_X12_four_3 (ad : Nat → Nat) (cy : Nat → ClassId) (B : Int) (qr : Nat) (s1 : Int) (a1 : Int32) (w0 : va_W) : va_W → Prop := fun u => TW ksM ad cy B qr 12 u ∧ FE ksM [(12, 1, 1), (60, 0, 400)] w0 u ∧ Ev (fun n => m_X12_four n 0 a1.toInt (sI w0)) (0, sI u) ∧ (((∃ y : Int32, gi u 0 1 = y ∧ 12 ≤ y.toInt ∧ y.toInt ≤ 392)))
set_option maxHeartbeats 4000000 in
set_option maxRecDepth 100000 in
theorem kz_X12_four_3 (l : Launch) (adK adV : Nat → Nat) (dC : Nat → ClassId) (dI : Nat → Nat → Nat) (cy : Nat → ClassId) (ad : Nat → Nat) (B : Int) (hB0 : 100000 ≤ B) (hB1 : B ≤ 1073741824) (qr : Nat) (s1 : Int)  (a1 : Int32) (w0 : va_W) (sz : Nat) (hT : TW ksM ad cy B qr 12 w0) (f0_ : Int32) (cf0_ : gi w0 0 1 = f0_) (rf0_ : 8 ≤ f0_.toInt) (tf0_ : f0_.toInt ≤ 388) : Met l yX12_four (wu yX12_four cX12_four 3 none) ({ frames := 1, cells := 0, slots := 0, locals := 12 }) (va_Pc [.ref (ad 0), .int a1] (wpreS adK adV dC dI cy sz w0)) (va_Qv (Pz_X12_four_3 ad cy B qr s1 a1 w0) (fun u : va_W => wpost dC dI cy (va_A w0 sz) u) (va_A w0 sz)) 0 0 (va_A w0 sz) := by
  refine Met.ofW (cc := cX12_four) (maxL := 3) (ret := none) (by decide) rfl ?_
  intro p e s m args below meth c s₁ Bk hml hv
  obtain ⟨rfl, ⟨hsz, hP, hK, hD0⟩, hE, hSR⟩ := hv
  have hx := Bk.exec
  have hb := Bk.bytes
  have hr := Bk.returns
  have hlocks := Bk.notSynchronized
  have hC : CallFix p m c cX12_four 3 s _ (wu yX12_four cX12_four 3 none) RX12 := ⟨hx, hb, hml, findClass_of_methodNamed Bk.named, atoms_spec (ws := (wu yX12_four cX12_four 3 none)) Bk.pre⟩
  subst hsz
  have hD := hD0.self (sz := s.heap.size)
  generalize hAe : va_A w0 s.heap.size = A at hD hE ⊢
  have hA : ∀ q : Nat, s.heap.size ≤ q → A q := fun q h => by rw [← hAe]; exact Or.inr h
  have hw : Wd dC dI A s.heap s.heap [] w0 := ⟨hP, hD, va_S.rf⟩
  have hF : FE ksM [(12, 1, 1), (60, 0, 400)] w0 w0 := FE.rf
  have hl := lv_entry ([.ref (ad 0), .int a1]) (n := 3) (Nat.le_of_ble_eq_true rfl)
  rw [lg_entry_eq]
  generalize (lg_sl ([.ref (ad 0), .int a1]) ++ List.replicate (3 - (lg_sl ([.ref (ad 0), .int a1])).length) Slot.unset).toArray = ls at hl ⊢
  have hl : lv_has ls 3 [(0, .ref (ad 0)), (1, .int a1)] := hl
  generalize hloc : ([] : List Loc) = locs at hw ⊢
  have hinX12 : ∀ w ∈ u_ws RX12 TX12 42, w ∈ (wu yX12_four cX12_four 3 none) := fun _ h => List.mem_cons_of_mem _ (up_71 h)
  have hM : TT (fun n => m_X12_four n 0 a1.toInt (sI w0)) (fun n => m_X12_four n 0 a1.toInt (sI w0)) := TT.rf
  refine lv_bipush (v := 24) hx hb dX12_four_0 (by decide) ?_
  refine lv_istore_n (lv' := [(2, .int 24), (0, .ref (ad 0)), (1, .int a1)]) hx hb dX12_four_2 rfl hl (by decide) rfl (fun ls hl => ?_)
  refine lv_iload_n hx hb dX12_four_3 rfl (lv_at hl 0 rfl) ?_
  refine lv_if_lt (tgt := 36) hx hb dX12_four_4 (by decide) (fun c => absurd c (by decide)) (fun _ => ?_)
  refine lv_aload_n hx hb dX12_four_7 rfl (lv_at hl 1 rfl) ?_
  refine tk_getA hC hK hw hT hinX12 kM_at0 (by decide) rfl 0 (by decide) (List.mem_cons_of_mem _ uw_6_14) rfl rfl dX12_four_8 ?_
  refine lv_aload_n hx hb dX12_four_11 rfl (lv_at hl 1 rfl) ?_
  refine tk_geti hC hK hw hT hinX12 kM_at0 (by decide) rfl 1 (by decide) (List.mem_cons_of_mem _ uw_8_7) rfl rfl dX12_four_12 (fun x1 c2 rx1 tx1 => ?_)
  refine wk_top f0_ (c2.symm.trans cf0_) ?_
  replace hM := hM.rd (sI_at cf0_)
  refine lv_iload_n hx hb dX12_four_15 rfl (lv_at hl 2 rfl) ?_
  refine lv_iload_n hx hb dX12_four_16 rfl (lv_at hl 0 rfl) ?_
  refine lv_ishr hx hb dX12_four_17 ?_
  refine lv_topi (fun x3 ex3 => ?_)
  have ezx3 := ex3
  replace hM := hM.lt (o32_e (f := fun x y => x >>> (y &&& 31)) ezx3 rfl (by decide))
  refine lv_i2b hx hb dX12_four_18 rfl ?_
  refine lv_topi (fun x4 ex4 => ?_)
  replace hM := hM.lt (mB_e ex4)
  refine tk_bastv hC hK hw hT kM_at1 (by decide) rfl rfl (show 0 ≤ f0_.toInt from Int.le_trans (by decide) rf0_) (show f0_.toInt < 400 from Int.lt_of_le_of_lt tf0_ (by decide)) dX12_four_19 (fun H locs w5 hw hT k7 c6 => ?_)
  obtain ⟨z8, ez8⟩ : ∃ z : Int32, z = x4.toInt8.toInt32 := ⟨_, rfl⟩
  have c6 := c6.trans ez8.symm
  replace hM := hM.lt (mB_e ez8)
  replace hM := hM.wr (sI_up k7 c6)
  have hF := hF.put kM_at1 (inE_of (a := 0) (b := 400) (by decide) (show 0 ≤ f0_.toInt.toNat by omega) (show f0_.toInt.toNat ≤ 400 by omega)) k7
  have c9 := k7.gi (Or.inl (tk_ne kM_at0 kM_at1 (by decide))) cf0_
  refine lv_aload_n hx hb dX12_four_20 rfl (lv_at hl 1 rfl) ?_
  refine lv_dup hx hb dX12_four_21 rfl ?_
  refine tk_geti hC hK hw hT hinX12 kM_at0 (by decide) rfl 1 (by decide) (List.mem_cons_of_mem _ uw_8_7) rfl rfl dX12_four_22 (fun x10 c11 rx10 tx10 => ?_)
  refine wk_top f0_ (c11.symm.trans c9) ?_
  replace hM := hM.rd (sI_at c9)
  refine lv_iconst (v := 1) hx hb dX12_four_25 (by decide) ?_
  refine lv_iadd hx hb dX12_four_26 ?_
  refine lv_topi (fun x12 ex12 => ?_)
  have ezx12 := ex12
  have ex12 : x12.toInt = f0_.toInt + (1 : Int) := by rw [ex12]; exact wk_add (show (-2147483648) ≤ f0_.toInt + (1 : Int) by omega) (show f0_.toInt + (1 : Int) ≤ 2147483647 by omega)
  replace hM := hM.lt ex12.symm
  refine tk_puti hC hK hw hT hinX12 tyX12_ok nmX12 kM_at0 (by decide) rfl rfl 1 (by decide) (List.mem_cons_of_mem _ uw_8_7) rfl rfl rfl rfl (show 0 ≤ x12.toInt by first | with_reducible assumption | omega) (show x12.toInt ≤ 400 by first | with_reducible assumption | omega) dX12_four_27 (fun H locs w13 hw hT k15 c14 => ?_)
  replace hM := hM.wr (sI_up k15 c14)
  have hF := hF.put kM_at0 (k := 1) (by decide) k15
  refine lv_iinc (v := 16) (lv' := [(2, .int 16), (0, .ref (ad 0)), (1, .int a1)]) hx hb dX12_four_30 hl (k := 0) rfl (by decide) (by decide) rfl (fun ls hl => ?_)
  refine lv_goto (tgt := 3) hx hb dX12_four_33 (by decide) ?_
  refine lv_iload_n hx hb dX12_four_3 rfl (lv_at hl 0 rfl) ?_
  refine lv_if_lt (tgt := 36) hx hb dX12_four_4 (by decide) (fun c => absurd c (by decide)) (fun _ => ?_)
  refine lv_aload_n hx hb dX12_four_7 rfl (lv_at hl 1 rfl) ?_
  refine tk_getA hC hK hw hT hinX12 kM_at0 (by decide) rfl 0 (by decide) (List.mem_cons_of_mem _ uw_6_14) rfl rfl dX12_four_8 ?_
  refine lv_aload_n hx hb dX12_four_11 rfl (lv_at hl 1 rfl) ?_
  refine tk_geti hC hK hw hT hinX12 kM_at0 (by decide) rfl 1 (by decide) (List.mem_cons_of_mem _ uw_8_7) rfl rfl dX12_four_12 (fun x16 c17 rx16 tx16 => ?_)
  refine wk_top x12 (c17.symm.trans c14) ?_
  replace hM := hM.rd (sI_at c14)
  refine lv_iload_n hx hb dX12_four_15 rfl (lv_at hl 2 rfl) ?_
  refine lv_iload_n hx hb dX12_four_16 rfl (lv_at hl 0 rfl) ?_
  refine lv_ishr hx hb dX12_four_17 ?_
  refine lv_topi (fun x18 ex18 => ?_)
  have ezx18 := ex18
  replace hM := hM.lt (o32_e (f := fun x y => x >>> (y &&& 31)) ezx18 rfl (by decide))
  refine lv_i2b hx hb dX12_four_18 rfl ?_
  refine lv_topi (fun x19 ex19 => ?_)
  replace hM := hM.lt (mB_e ex19)
  refine tk_bastv hC hK hw hT kM_at1 (by decide) rfl rfl (show 0 ≤ x12.toInt by first | with_reducible assumption | omega) (show x12.toInt < 400 by first | with_reducible assumption | omega) dX12_four_19 (fun H locs w20 hw hT k22 c21 => ?_)
  obtain ⟨z23, ez23⟩ : ∃ z : Int32, z = x19.toInt8.toInt32 := ⟨_, rfl⟩
  have c21 := c21.trans ez23.symm
  replace hM := hM.lt (mB_e ez23)
  replace hM := hM.wr (sI_up k22 c21)
  have hF := hF.put kM_at1 (inE_of (a := 0) (b := 400) (by decide) (show 0 ≤ x12.toInt.toNat by omega) (show x12.toInt.toNat ≤ 400 by omega)) k22
  have c24 := k22.gi (Or.inl (tk_ne kM_at0 kM_at1 (by decide))) c14
  refine lv_aload_n hx hb dX12_four_20 rfl (lv_at hl 1 rfl) ?_
  refine lv_dup hx hb dX12_four_21 rfl ?_
  refine tk_geti hC hK hw hT hinX12 kM_at0 (by decide) rfl 1 (by decide) (List.mem_cons_of_mem _ uw_8_7) rfl rfl dX12_four_22 (fun x25 c26 rx25 tx25 => ?_)
  refine wk_top x12 (c26.symm.trans c24) ?_
  replace hM := hM.rd (sI_at c24)
  refine lv_iconst (v := 1) hx hb dX12_four_25 (by decide) ?_
  refine lv_iadd hx hb dX12_four_26 ?_
  refine lv_topi (fun x27 ex27 => ?_)
  have ezx27 := ex27
  have ex27 : x27.toInt = x12.toInt + (1 : Int) := by rw [ex27]; exact wk_add (show (-2147483648) ≤ x12.toInt + (1 : Int) by omega) (show x12.toInt + (1 : Int) ≤ 2147483647 by omega)
  replace hM := hM.lt ex27.symm
  refine tk_puti hC hK hw hT hinX12 tyX12_ok nmX12 kM_at0 (by decide) rfl rfl 1 (by decide) (List.mem_cons_of_mem _ uw_8_7) rfl rfl rfl rfl (show 0 ≤ x27.toInt by first | with_reducible assumption | omega) (show x27.toInt ≤ 400 by first | with_reducible assumption | omega) dX12_four_27 (fun H locs w28 hw hT k30 c29 => ?_)
  replace hM := hM.wr (sI_up k30 c29)
  have hF := hF.put kM_at0 (k := 1) (by decide) k30
  refine lv_iinc (v := 8) (lv' := [(2, .int 8), (0, .ref (ad 0)), (1, .int a1)]) hx hb dX12_four_30 hl (k := 0) rfl (by decide) (by decide) rfl (fun ls hl => ?_)
  refine lv_goto (tgt := 3) hx hb dX12_four_33 (by decide) ?_
  refine lv_iload_n hx hb dX12_four_3 rfl (lv_at hl 0 rfl) ?_
  refine lv_if_lt (tgt := 36) hx hb dX12_four_4 (by decide) (fun c => absurd c (by decide)) (fun _ => ?_)
  refine lv_aload_n hx hb dX12_four_7 rfl (lv_at hl 1 rfl) ?_
  refine tk_getA hC hK hw hT hinX12 kM_at0 (by decide) rfl 0 (by decide) (List.mem_cons_of_mem _ uw_6_14) rfl rfl dX12_four_8 ?_
  refine lv_aload_n hx hb dX12_four_11 rfl (lv_at hl 1 rfl) ?_
  refine tk_geti hC hK hw hT hinX12 kM_at0 (by decide) rfl 1 (by decide) (List.mem_cons_of_mem _ uw_8_7) rfl rfl dX12_four_12 (fun x31 c32 rx31 tx31 => ?_)
  refine wk_top x27 (c32.symm.trans c29) ?_
  replace hM := hM.rd (sI_at c29)
  refine lv_iload_n hx hb dX12_four_15 rfl (lv_at hl 2 rfl) ?_
  refine lv_iload_n hx hb dX12_four_16 rfl (lv_at hl 0 rfl) ?_
  refine lv_ishr hx hb dX12_four_17 ?_
  refine lv_topi (fun x33 ex33 => ?_)
  have ezx33 := ex33
  replace hM := hM.lt (o32_e (f := fun x y => x >>> (y &&& 31)) ezx33 rfl (by decide))
  refine lv_i2b hx hb dX12_four_18 rfl ?_
  refine lv_topi (fun x34 ex34 => ?_)
  replace hM := hM.lt (mB_e ex34)
  refine tk_bastv hC hK hw hT kM_at1 (by decide) rfl rfl (show 0 ≤ x27.toInt by first | with_reducible assumption | omega) (show x27.toInt < 400 by first | with_reducible assumption | omega) dX12_four_19 (fun H locs w35 hw hT k37 c36 => ?_)
  obtain ⟨z38, ez38⟩ : ∃ z : Int32, z = x34.toInt8.toInt32 := ⟨_, rfl⟩
  have c36 := c36.trans ez38.symm
  replace hM := hM.lt (mB_e ez38)
  replace hM := hM.wr (sI_up k37 c36)
  have hF := hF.put kM_at1 (inE_of (a := 0) (b := 400) (by decide) (show 0 ≤ x27.toInt.toNat by omega) (show x27.toInt.toNat ≤ 400 by omega)) k37
  have c39 := k37.gi (Or.inl (tk_ne kM_at0 kM_at1 (by decide))) c29
  refine lv_aload_n hx hb dX12_four_20 rfl (lv_at hl 1 rfl) ?_
  refine lv_dup hx hb dX12_four_21 rfl ?_
  refine tk_geti hC hK hw hT hinX12 kM_at0 (by decide) rfl 1 (by decide) (List.mem_cons_of_mem _ uw_8_7) rfl rfl dX12_four_22 (fun x40 c41 rx40 tx40 => ?_)
  refine wk_top x27 (c41.symm.trans c39) ?_
  replace hM := hM.rd (sI_at c39)
  refine lv_iconst (v := 1) hx hb dX12_four_25 (by decide) ?_
  refine lv_iadd hx hb dX12_four_26 ?_
  refine lv_topi (fun x42 ex42 => ?_)
  have ezx42 := ex42
  have ex42 : x42.toInt = x27.toInt + (1 : Int) := by rw [ex42]; exact wk_add (show (-2147483648) ≤ x27.toInt + (1 : Int) by omega) (show x27.toInt + (1 : Int) ≤ 2147483647 by omega)
  replace hM := hM.lt ex42.symm
  refine tk_puti hC hK hw hT hinX12 tyX12_ok nmX12 kM_at0 (by decide) rfl rfl 1 (by decide) (List.mem_cons_of_mem _ uw_8_7) rfl rfl rfl rfl (show 0 ≤ x42.toInt by first | with_reducible assumption | omega) (show x42.toInt ≤ 400 by first | with_reducible assumption | omega) dX12_four_27 (fun H locs w43 hw hT k45 c44 => ?_)
  replace hM := hM.wr (sI_up k45 c44)
  have hF := hF.put kM_at0 (k := 1) (by decide) k45
  refine lv_iinc (v := 0) (lv' := [(2, .int 0), (0, .ref (ad 0)), (1, .int a1)]) hx hb dX12_four_30 hl (k := 0) rfl (by decide) (by decide) rfl (fun ls hl => ?_)
  refine lv_goto (tgt := 3) hx hb dX12_four_33 (by decide) ?_
  refine lv_iload_n hx hb dX12_four_3 rfl (lv_at hl 0 rfl) ?_
  refine lv_if_lt (tgt := 36) hx hb dX12_four_4 (by decide) (fun c => absurd c (by decide)) (fun _ => ?_)
  refine lv_aload_n hx hb dX12_four_7 rfl (lv_at hl 1 rfl) ?_
  refine tk_getA hC hK hw hT hinX12 kM_at0 (by decide) rfl 0 (by decide) (List.mem_cons_of_mem _ uw_6_14) rfl rfl dX12_four_8 ?_
  refine lv_aload_n hx hb dX12_four_11 rfl (lv_at hl 1 rfl) ?_
  refine tk_geti hC hK hw hT hinX12 kM_at0 (by decide) rfl 1 (by decide) (List.mem_cons_of_mem _ uw_8_7) rfl rfl dX12_four_12 (fun x46 c47 rx46 tx46 => ?_)
  refine wk_top x42 (c47.symm.trans c44) ?_
  replace hM := hM.rd (sI_at c44)
  refine lv_iload_n hx hb dX12_four_15 rfl (lv_at hl 2 rfl) ?_
  refine lv_iload_n hx hb dX12_four_16 rfl (lv_at hl 0 rfl) ?_
  refine lv_ishr hx hb dX12_four_17 ?_
  refine lv_topi (fun x48 ex48 => ?_)
  have ezx48 := ex48
  replace hM := hM.lt (o32_e (f := fun x y => x >>> (y &&& 31)) ezx48 rfl (by decide))
  refine lv_i2b hx hb dX12_four_18 rfl ?_
  refine lv_topi (fun x49 ex49 => ?_)
  replace hM := hM.lt (mB_e ex49)
  refine tk_bastv hC hK hw hT kM_at1 (by decide) rfl rfl (show 0 ≤ x42.toInt by first | with_reducible assumption | omega) (show x42.toInt < 400 by first | with_reducible assumption | omega) dX12_four_19 (fun H locs w50 hw hT k52 c51 => ?_)
  obtain ⟨z53, ez53⟩ : ∃ z : Int32, z = x49.toInt8.toInt32 := ⟨_, rfl⟩
  have c51 := c51.trans ez53.symm
  replace hM := hM.lt (mB_e ez53)
  replace hM := hM.wr (sI_up k52 c51)
  have hF := hF.put kM_at1 (inE_of (a := 0) (b := 400) (by decide) (show 0 ≤ x42.toInt.toNat by omega) (show x42.toInt.toNat ≤ 400 by omega)) k52
  have c54 := k52.gi (Or.inl (tk_ne kM_at0 kM_at1 (by decide))) c44
  refine lv_aload_n hx hb dX12_four_20 rfl (lv_at hl 1 rfl) ?_
  refine lv_dup hx hb dX12_four_21 rfl ?_
  refine tk_geti hC hK hw hT hinX12 kM_at0 (by decide) rfl 1 (by decide) (List.mem_cons_of_mem _ uw_8_7) rfl rfl dX12_four_22 (fun x55 c56 rx55 tx55 => ?_)
  refine wk_top x42 (c56.symm.trans c54) ?_
  replace hM := hM.rd (sI_at c54)
  refine lv_iconst (v := 1) hx hb dX12_four_25 (by decide) ?_
  refine lv_iadd hx hb dX12_four_26 ?_
  refine lv_topi (fun x57 ex57 => ?_)
  have ezx57 := ex57
  have ex57 : x57.toInt = x42.toInt + (1 : Int) := by rw [ex57]; exact wk_add (show (-2147483648) ≤ x42.toInt + (1 : Int) by omega) (show x42.toInt + (1 : Int) ≤ 2147483647 by omega)
  replace hM := hM.lt ex57.symm
  refine tk_puti hC hK hw hT hinX12 tyX12_ok nmX12 kM_at0 (by decide) rfl rfl 1 (by decide) (List.mem_cons_of_mem _ uw_8_7) rfl rfl rfl rfl (show 0 ≤ x57.toInt by first | with_reducible assumption | omega) (show x57.toInt ≤ 400 by first | with_reducible assumption | omega) dX12_four_27 (fun H locs w58 hw hT k60 c59 => ?_)
  replace hM := hM.wr (sI_up k60 c59)
  have hF := hF.put kM_at0 (k := 1) (by decide) k60
  refine lv_iinc (v := (-8)) (lv' := [(2, .int (-8)), (0, .ref (ad 0)), (1, .int a1)]) hx hb dX12_four_30 hl (k := 0) rfl (by decide) (by decide) rfl (fun ls hl => ?_)
  refine lv_goto (tgt := 3) hx hb dX12_four_33 (by decide) ?_
  refine lv_iload_n hx hb dX12_four_3 rfl (lv_at hl 0 rfl) ?_
  refine lv_if_lt (tgt := 36) hx hb dX12_four_4 (by decide) (fun _ => ?_) (fun c => absurd (by decide) c)
  exact tk_vret hC hr hlocks hK ⟨hT, hF, hM.ret rfl, ⟨x57, c59, (show 12 ≤ x57.toInt by first | with_reducible assumption | omega), (show x57.toInt ≤ 392 by first | with_reducible assumption | omega)⟩⟩ hw dX12_four_36
abbrev Pz_X12_four_4 (ad : Nat → Nat) (cy : Nat → ClassId) (B : Int) (qr : Nat) (s1 : Int) (a1 : Int32) (w0 : va_W) : va_W → Prop := fun u => TW ksM ad cy B qr 12 u ∧ FE ksM [(12, 1, 1), (60, 0, 400)] w0 u ∧ Ev (fun n => m_X12_four n 0 a1.toInt (sI w0)) (0, sI u) ∧ (((∃ y : Int32, gi u 0 1 = y ∧ 16 ≤ y.toInt ∧ y.toInt ≤ 396)))
set_option maxHeartbeats 4000000 in
set_option maxRecDepth 100000 in
theorem kz_X12_four_4 (l : Launch) (adK adV : Nat → Nat) (dC : Nat → ClassId) (dI : Nat → Nat → Nat) (cy : Nat → ClassId) (ad : Nat → Nat) (B : Int) (hB0 : 100000 ≤ B) (hB1 : B ≤ 1073741824) (qr : Nat) (s1 : Int)  (a1 : Int32) (w0 : va_W) (sz : Nat) (hT : TW ksM ad cy B qr 12 w0) (f0_ : Int32) (cf0_ : gi w0 0 1 = f0_) (rf0_ : 12 ≤ f0_.toInt) (tf0_ : f0_.toInt ≤ 392) : Met l yX12_four (wu yX12_four cX12_four 3 none) ({ frames := 1, cells := 0, slots := 0, locals := 12 }) (va_Pc [.ref (ad 0), .int a1] (wpreS adK adV dC dI cy sz w0)) (va_Qv (Pz_X12_four_4 ad cy B qr s1 a1 w0) (fun u : va_W => wpost dC dI cy (va_A w0 sz) u) (va_A w0 sz)) 0 0 (va_A w0 sz) := by
  refine Met.ofW (cc := cX12_four) (maxL := 3) (ret := none) (by decide) rfl ?_
  intro p e s m args below meth c s₁ Bk hml hv
  obtain ⟨rfl, ⟨hsz, hP, hK, hD0⟩, hE, hSR⟩ := hv
  have hx := Bk.exec
  have hb := Bk.bytes
  have hr := Bk.returns
  have hlocks := Bk.notSynchronized
  have hC : CallFix p m c cX12_four 3 s _ (wu yX12_four cX12_four 3 none) RX12 := ⟨hx, hb, hml, findClass_of_methodNamed Bk.named, atoms_spec (ws := (wu yX12_four cX12_four 3 none)) Bk.pre⟩
  subst hsz
  have hD := hD0.self (sz := s.heap.size)
  generalize hAe : va_A w0 s.heap.size = A at hD hE ⊢
  have hA : ∀ q : Nat, s.heap.size ≤ q → A q := fun q h => by rw [← hAe]; exact Or.inr h
  have hw : Wd dC dI A s.heap s.heap [] w0 := ⟨hP, hD, va_S.rf⟩
  have hF : FE ksM [(12, 1, 1), (60, 0, 400)] w0 w0 := FE.rf
  have hl := lv_entry ([.ref (ad 0), .int a1]) (n := 3) (Nat.le_of_ble_eq_true rfl)
  rw [lg_entry_eq]
  generalize (lg_sl ([.ref (ad 0), .int a1]) ++ List.replicate (3 - (lg_sl ([.ref (ad 0), .int a1])).length) Slot.unset).toArray = ls at hl ⊢
  have hl : lv_has ls 3 [(0, .ref (ad 0)), (1, .int a1)] := hl
  generalize hloc : ([] : List Loc) = locs at hw ⊢
  have hinX12 : ∀ w ∈ u_ws RX12 TX12 42, w ∈ (wu yX12_four cX12_four 3 none) := fun _ h => List.mem_cons_of_mem _ (up_71 h)
  have hM : TT (fun n => m_X12_four n 0 a1.toInt (sI w0)) (fun n => m_X12_four n 0 a1.toInt (sI w0)) := TT.rf
  refine lv_bipush (v := 24) hx hb dX12_four_0 (by decide) ?_
  refine lv_istore_n (lv' := [(2, .int 24), (0, .ref (ad 0)), (1, .int a1)]) hx hb dX12_four_2 rfl hl (by decide) rfl (fun ls hl => ?_)
  refine lv_iload_n hx hb dX12_four_3 rfl (lv_at hl 0 rfl) ?_
  refine lv_if_lt (tgt := 36) hx hb dX12_four_4 (by decide) (fun c => absurd c (by decide)) (fun _ => ?_)
  refine lv_aload_n hx hb dX12_four_7 rfl (lv_at hl 1 rfl) ?_
  refine tk_getA hC hK hw hT hinX12 kM_at0 (by decide) rfl 0 (by decide) (List.mem_cons_of_mem _ uw_6_14) rfl rfl dX12_four_8 ?_
  refine lv_aload_n hx hb dX12_four_11 rfl (lv_at hl 1 rfl) ?_
  refine tk_geti hC hK hw hT hinX12 kM_at0 (by decide) rfl 1 (by decide) (List.mem_cons_of_mem _ uw_8_7) rfl rfl dX12_four_12 (fun x1 c2 rx1 tx1 => ?_)
  refine wk_top f0_ (c2.symm.trans cf0_) ?_
  replace hM := hM.rd (sI_at cf0_)
  refine lv_iload_n hx hb dX12_four_15 rfl (lv_at hl 2 rfl) ?_
  refine lv_iload_n hx hb dX12_four_16 rfl (lv_at hl 0 rfl) ?_
  refine lv_ishr hx hb dX12_four_17 ?_
  refine lv_topi (fun x3 ex3 => ?_)
  have ezx3 := ex3
  replace hM := hM.lt (o32_e (f := fun x y => x >>> (y &&& 31)) ezx3 rfl (by decide))
  refine lv_i2b hx hb dX12_four_18 rfl ?_
  refine lv_topi (fun x4 ex4 => ?_)
  replace hM := hM.lt (mB_e ex4)
  refine tk_bastv hC hK hw hT kM_at1 (by decide) rfl rfl (show 0 ≤ f0_.toInt from Int.le_trans (by decide) rf0_) (show f0_.toInt < 400 from Int.lt_of_le_of_lt tf0_ (by decide)) dX12_four_19 (fun H locs w5 hw hT k7 c6 => ?_)
  obtain ⟨z8, ez8⟩ : ∃ z : Int32, z = x4.toInt8.toInt32 := ⟨_, rfl⟩
  have c6 := c6.trans ez8.symm
  replace hM := hM.lt (mB_e ez8)
  replace hM := hM.wr (sI_up k7 c6)
  have hF := hF.put kM_at1 (inE_of (a := 0) (b := 400) (by decide) (show 0 ≤ f0_.toInt.toNat by omega) (show f0_.toInt.toNat ≤ 400 by omega)) k7
  have c9 := k7.gi (Or.inl (tk_ne kM_at0 kM_at1 (by decide))) cf0_
  refine lv_aload_n hx hb dX12_four_20 rfl (lv_at hl 1 rfl) ?_
  refine lv_dup hx hb dX12_four_21 rfl ?_
  refine tk_geti hC hK hw hT hinX12 kM_at0 (by decide) rfl 1 (by decide) (List.mem_cons_of_mem _ uw_8_7) rfl rfl dX12_four_22 (fun x10 c11 rx10 tx10 => ?_)
  refine wk_top f0_ (c11.symm.trans c9) ?_
  replace hM := hM.rd (sI_at c9)
  refine lv_iconst (v := 1) hx hb dX12_four_25 (by decide) ?_
  refine lv_iadd hx hb dX12_four_26 ?_
  refine lv_topi (fun x12 ex12 => ?_)
  have ezx12 := ex12
  have ex12 : x12.toInt = f0_.toInt + (1 : Int) := by rw [ex12]; exact wk_add (show (-2147483648) ≤ f0_.toInt + (1 : Int) by omega) (show f0_.toInt + (1 : Int) ≤ 2147483647 by omega)
  replace hM := hM.lt ex12.symm
  refine tk_puti hC hK hw hT hinX12 tyX12_ok nmX12 kM_at0 (by decide) rfl rfl 1 (by decide) (List.mem_cons_of_mem _ uw_8_7) rfl rfl rfl rfl (show 0 ≤ x12.toInt by first | with_reducible assumption | omega) (show x12.toInt ≤ 400 by first | with_reducible assumption | omega) dX12_four_27 (fun H locs w13 hw hT k15 c14 => ?_)
  replace hM := hM.wr (sI_up k15 c14)
  have hF := hF.put kM_at0 (k := 1) (by decide) k15
  refine lv_iinc (v := 16) (lv' := [(2, .int 16), (0, .ref (ad 0)), (1, .int a1)]) hx hb dX12_four_30 hl (k := 0) rfl (by decide) (by decide) rfl (fun ls hl => ?_)
  refine lv_goto (tgt := 3) hx hb dX12_four_33 (by decide) ?_
  refine lv_iload_n hx hb dX12_four_3 rfl (lv_at hl 0 rfl) ?_
  refine lv_if_lt (tgt := 36) hx hb dX12_four_4 (by decide) (fun c => absurd c (by decide)) (fun _ => ?_)
  refine lv_aload_n hx hb dX12_four_7 rfl (lv_at hl 1 rfl) ?_
  refine tk_getA hC hK hw hT hinX12 kM_at0 (by decide) rfl 0 (by decide) (List.mem_cons_of_mem _ uw_6_14) rfl rfl dX12_four_8 ?_
  refine lv_aload_n hx hb dX12_four_11 rfl (lv_at hl 1 rfl) ?_
  refine tk_geti hC hK hw hT hinX12 kM_at0 (by decide) rfl 1 (by decide) (List.mem_cons_of_mem _ uw_8_7) rfl rfl dX12_four_12 (fun x16 c17 rx16 tx16 => ?_)
  refine wk_top x12 (c17.symm.trans c14) ?_
  replace hM := hM.rd (sI_at c14)
  refine lv_iload_n hx hb dX12_four_15 rfl (lv_at hl 2 rfl) ?_
  refine lv_iload_n hx hb dX12_four_16 rfl (lv_at hl 0 rfl) ?_
  refine lv_ishr hx hb dX12_four_17 ?_
  refine lv_topi (fun x18 ex18 => ?_)
  have ezx18 := ex18
  replace hM := hM.lt (o32_e (f := fun x y => x >>> (y &&& 31)) ezx18 rfl (by decide))
  refine lv_i2b hx hb dX12_four_18 rfl ?_
  refine lv_topi (fun x19 ex19 => ?_)
  replace hM := hM.lt (mB_e ex19)
  refine tk_bastv hC hK hw hT kM_at1 (by decide) rfl rfl (show 0 ≤ x12.toInt by first | with_reducible assumption | omega) (show x12.toInt < 400 by first | with_reducible assumption | omega) dX12_four_19 (fun H locs w20 hw hT k22 c21 => ?_)
  obtain ⟨z23, ez23⟩ : ∃ z : Int32, z = x19.toInt8.toInt32 := ⟨_, rfl⟩
  have c21 := c21.trans ez23.symm
  replace hM := hM.lt (mB_e ez23)
  replace hM := hM.wr (sI_up k22 c21)
  have hF := hF.put kM_at1 (inE_of (a := 0) (b := 400) (by decide) (show 0 ≤ x12.toInt.toNat by omega) (show x12.toInt.toNat ≤ 400 by omega)) k22
  have c24 := k22.gi (Or.inl (tk_ne kM_at0 kM_at1 (by decide))) c14
  refine lv_aload_n hx hb dX12_four_20 rfl (lv_at hl 1 rfl) ?_
  refine lv_dup hx hb dX12_four_21 rfl ?_
  refine tk_geti hC hK hw hT hinX12 kM_at0 (by decide) rfl 1 (by decide) (List.mem_cons_of_mem _ uw_8_7) rfl rfl dX12_four_22 (fun x25 c26 rx25 tx25 => ?_)
  refine wk_top x12 (c26.symm.trans c24) ?_
  replace hM := hM.rd (sI_at c24)
  refine lv_iconst (v := 1) hx hb dX12_four_25 (by decide) ?_
  refine lv_iadd hx hb dX12_four_26 ?_
  refine lv_topi (fun x27 ex27 => ?_)
  have ezx27 := ex27
  have ex27 : x27.toInt = x12.toInt + (1 : Int) := by rw [ex27]; exact wk_add (show (-2147483648) ≤ x12.toInt + (1 : Int) by omega) (show x12.toInt + (1 : Int) ≤ 2147483647 by omega)
  replace hM := hM.lt ex27.symm
  refine tk_puti hC hK hw hT hinX12 tyX12_ok nmX12 kM_at0 (by decide) rfl rfl 1 (by decide) (List.mem_cons_of_mem _ uw_8_7) rfl rfl rfl rfl (show 0 ≤ x27.toInt by first | with_reducible assumption | omega) (show x27.toInt ≤ 400 by first | with_reducible assumption | omega) dX12_four_27 (fun H locs w28 hw hT k30 c29 => ?_)
  replace hM := hM.wr (sI_up k30 c29)
  have hF := hF.put kM_at0 (k := 1) (by decide) k30
  refine lv_iinc (v := 8) (lv' := [(2, .int 8), (0, .ref (ad 0)), (1, .int a1)]) hx hb dX12_four_30 hl (k := 0) rfl (by decide) (by decide) rfl (fun ls hl => ?_)
  refine lv_goto (tgt := 3) hx hb dX12_four_33 (by decide) ?_
  refine lv_iload_n hx hb dX12_four_3 rfl (lv_at hl 0 rfl) ?_
  refine lv_if_lt (tgt := 36) hx hb dX12_four_4 (by decide) (fun c => absurd c (by decide)) (fun _ => ?_)
  refine lv_aload_n hx hb dX12_four_7 rfl (lv_at hl 1 rfl) ?_
  refine tk_getA hC hK hw hT hinX12 kM_at0 (by decide) rfl 0 (by decide) (List.mem_cons_of_mem _ uw_6_14) rfl rfl dX12_four_8 ?_
  refine lv_aload_n hx hb dX12_four_11 rfl (lv_at hl 1 rfl) ?_
  refine tk_geti hC hK hw hT hinX12 kM_at0 (by decide) rfl 1 (by decide) (List.mem_cons_of_mem _ uw_8_7) rfl rfl dX12_four_12 (fun x31 c32 rx31 tx31 => ?_)
  refine wk_top x27 (c32.symm.trans c29) ?_
  replace hM := hM.rd (sI_at c29)
  refine lv_iload_n hx hb dX12_four_15 rfl (lv_at hl 2 rfl) ?_
  refine lv_iload_n hx hb dX12_four_16 rfl (lv_at hl 0 rfl) ?_
  refine lv_ishr hx hb dX12_four_17 ?_
  refine lv_topi (fun x33 ex33 => ?_)
  have ezx33 := ex33
  replace hM := hM.lt (o32_e (f := fun x y => x >>> (y &&& 31)) ezx33 rfl (by decide))
  refine lv_i2b hx hb dX12_four_18 rfl ?_
  refine lv_topi (fun x34 ex34 => ?_)
  replace hM := hM.lt (mB_e ex34)
  refine tk_bastv hC hK hw hT kM_at1 (by decide) rfl rfl (show 0 ≤ x27.toInt by first | with_reducible assumption | omega) (show x27.toInt < 400 by first | with_reducible assumption | omega) dX12_four_19 (fun H locs w35 hw hT k37 c36 => ?_)
  obtain ⟨z38, ez38⟩ : ∃ z : Int32, z = x34.toInt8.toInt32 := ⟨_, rfl⟩
  have c36 := c36.trans ez38.symm
  replace hM := hM.lt (mB_e ez38)
  replace hM := hM.wr (sI_up k37 c36)
  have hF := hF.put kM_at1 (inE_of (a := 0) (b := 400) (by decide) (show 0 ≤ x27.toInt.toNat by omega) (show x27.toInt.toNat ≤ 400 by omega)) k37
  have c39 := k37.gi (Or.inl (tk_ne kM_at0 kM_at1 (by decide))) c29
  refine lv_aload_n hx hb dX12_four_20 rfl (lv_at hl 1 rfl) ?_
  refine lv_dup hx hb dX12_four_21 rfl ?_
  refine tk_geti hC hK hw hT hinX12 kM_at0 (by decide) rfl 1 (by decide) (List.mem_cons_of_mem _ uw_8_7) rfl rfl dX12_four_22 (fun x40 c41 rx40 tx40 => ?_)
  refine wk_top x27 (c41.symm.trans c39) ?_
  replace hM := hM.rd (sI_at c39)
  refine lv_iconst (v := 1) hx hb dX12_four_25 (by decide) ?_
  refine lv_iadd hx hb dX12_four_26 ?_
  refine lv_topi (fun x42 ex42 => ?_)
  have ezx42 := ex42
  have ex42 : x42.toInt = x27.toInt + (1 : Int) := by rw [ex42]; exact wk_add (show (-2147483648) ≤ x27.toInt + (1 : Int) by omega) (show x27.toInt + (1 : Int) ≤ 2147483647 by omega)
  replace hM := hM.lt ex42.symm
  refine tk_puti hC hK hw hT hinX12 tyX12_ok nmX12 kM_at0 (by decide) rfl rfl 1 (by decide) (List.mem_cons_of_mem _ uw_8_7) rfl rfl rfl rfl (show 0 ≤ x42.toInt by first | with_reducible assumption | omega) (show x42.toInt ≤ 400 by first | with_reducible assumption | omega) dX12_four_27 (fun H locs w43 hw hT k45 c44 => ?_)
  replace hM := hM.wr (sI_up k45 c44)
  have hF := hF.put kM_at0 (k := 1) (by decide) k45
  refine lv_iinc (v := 0) (lv' := [(2, .int 0), (0, .ref (ad 0)), (1, .int a1)]) hx hb dX12_four_30 hl (k := 0) rfl (by decide) (by decide) rfl (fun ls hl => ?_)
  refine lv_goto (tgt := 3) hx hb dX12_four_33 (by decide) ?_
  refine lv_iload_n hx hb dX12_four_3 rfl (lv_at hl 0 rfl) ?_
  refine lv_if_lt (tgt := 36) hx hb dX12_four_4 (by decide) (fun c => absurd c (by decide)) (fun _ => ?_)
  refine lv_aload_n hx hb dX12_four_7 rfl (lv_at hl 1 rfl) ?_
  refine tk_getA hC hK hw hT hinX12 kM_at0 (by decide) rfl 0 (by decide) (List.mem_cons_of_mem _ uw_6_14) rfl rfl dX12_four_8 ?_
  refine lv_aload_n hx hb dX12_four_11 rfl (lv_at hl 1 rfl) ?_
  refine tk_geti hC hK hw hT hinX12 kM_at0 (by decide) rfl 1 (by decide) (List.mem_cons_of_mem _ uw_8_7) rfl rfl dX12_four_12 (fun x46 c47 rx46 tx46 => ?_)
  refine wk_top x42 (c47.symm.trans c44) ?_
  replace hM := hM.rd (sI_at c44)
  refine lv_iload_n hx hb dX12_four_15 rfl (lv_at hl 2 rfl) ?_
  refine lv_iload_n hx hb dX12_four_16 rfl (lv_at hl 0 rfl) ?_
  refine lv_ishr hx hb dX12_four_17 ?_
  refine lv_topi (fun x48 ex48 => ?_)
  have ezx48 := ex48
  replace hM := hM.lt (o32_e (f := fun x y => x >>> (y &&& 31)) ezx48 rfl (by decide))
  refine lv_i2b hx hb dX12_four_18 rfl ?_
  refine lv_topi (fun x49 ex49 => ?_)
  replace hM := hM.lt (mB_e ex49)
  refine tk_bastv hC hK hw hT kM_at1 (by decide) rfl rfl (show 0 ≤ x42.toInt by first | with_reducible assumption | omega) (show x42.toInt < 400 by first | with_reducible assumption | omega) dX12_four_19 (fun H locs w50 hw hT k52 c51 => ?_)
  obtain ⟨z53, ez53⟩ : ∃ z : Int32, z = x49.toInt8.toInt32 := ⟨_, rfl⟩
  have c51 := c51.trans ez53.symm
  replace hM := hM.lt (mB_e ez53)
  replace hM := hM.wr (sI_up k52 c51)
  have hF := hF.put kM_at1 (inE_of (a := 0) (b := 400) (by decide) (show 0 ≤ x42.toInt.toNat by omega) (show x42.toInt.toNat ≤ 400 by omega)) k52
  have c54 := k52.gi (Or.inl (tk_ne kM_at0 kM_at1 (by decide))) c44
  refine lv_aload_n hx hb dX12_four_20 rfl (lv_at hl 1 rfl) ?_
  refine lv_dup hx hb dX12_four_21 rfl ?_
  refine tk_geti hC hK hw hT hinX12 kM_at0 (by decide) rfl 1 (by decide) (List.mem_cons_of_mem _ uw_8_7) rfl rfl dX12_four_22 (fun x55 c56 rx55 tx55 => ?_)
  refine wk_top x42 (c56.symm.trans c54) ?_
  replace hM := hM.rd (sI_at c54)
  refine lv_iconst (v := 1) hx hb dX12_four_25 (by decide) ?_
  refine lv_iadd hx hb dX12_four_26 ?_
  refine lv_topi (fun x57 ex57 => ?_)
  have ezx57 := ex57
  have ex57 : x57.toInt = x42.toInt + (1 : Int) := by rw [ex57]; exact wk_add (show (-2147483648) ≤ x42.toInt + (1 : Int) by omega) (show x42.toInt + (1 : Int) ≤ 2147483647 by omega)
  replace hM := hM.lt ex57.symm
  refine tk_puti hC hK hw hT hinX12 tyX12_ok nmX12 kM_at0 (by decide) rfl rfl 1 (by decide) (List.mem_cons_of_mem _ uw_8_7) rfl rfl rfl rfl (show 0 ≤ x57.toInt by first | with_reducible assumption | omega) (show x57.toInt ≤ 400 by first | with_reducible assumption | omega) dX12_four_27 (fun H locs w58 hw hT k60 c59 => ?_)
  replace hM := hM.wr (sI_up k60 c59)
  have hF := hF.put kM_at0 (k := 1) (by decide) k60
  refine lv_iinc (v := (-8)) (lv' := [(2, .int (-8)), (0, .ref (ad 0)), (1, .int a1)]) hx hb dX12_four_30 hl (k := 0) rfl (by decide) (by decide) rfl (fun ls hl => ?_)
  refine lv_goto (tgt := 3) hx hb dX12_four_33 (by decide) ?_
  refine lv_iload_n hx hb dX12_four_3 rfl (lv_at hl 0 rfl) ?_
  refine lv_if_lt (tgt := 36) hx hb dX12_four_4 (by decide) (fun _ => ?_) (fun c => absurd (by decide) c)
  exact tk_vret hC hr hlocks hK ⟨hT, hF, hM.ret rfl, ⟨x57, c59, (show 16 ≤ x57.toInt by first | with_reducible assumption | omega), (show x57.toInt ≤ 396 by first | with_reducible assumption | omega)⟩⟩ hw dX12_four_36
abbrev Pz_X12_four_5 (ad : Nat → Nat) (cy : Nat → ClassId) (B : Int) (qr : Nat) (s1 : Int) (a1 : Int32) (w0 : va_W) : va_W → Prop := fun u => TW ksM ad cy B qr 12 u ∧ FE ksM [(12, 1, 1), (60, 0, 400)] w0 u ∧ Ev (fun n => m_X12_four n 0 a1.toInt (sI w0)) (0, sI u) ∧ (((∃ y : Int32, gi u 0 1 = y ∧ 20 ≤ y.toInt ∧ y.toInt ≤ 400)))
set_option maxHeartbeats 4000000 in
set_option maxRecDepth 100000 in
theorem kz_X12_four_5 (l : Launch) (adK adV : Nat → Nat) (dC : Nat → ClassId) (dI : Nat → Nat → Nat) (cy : Nat → ClassId) (ad : Nat → Nat) (B : Int) (hB0 : 100000 ≤ B) (hB1 : B ≤ 1073741824) (qr : Nat) (s1 : Int)  (a1 : Int32) (w0 : va_W) (sz : Nat) (hT : TW ksM ad cy B qr 12 w0) (f0_ : Int32) (cf0_ : gi w0 0 1 = f0_) (rf0_ : 16 ≤ f0_.toInt) (tf0_ : f0_.toInt ≤ 396) : Met l yX12_four (wu yX12_four cX12_four 3 none) ({ frames := 1, cells := 0, slots := 0, locals := 12 }) (va_Pc [.ref (ad 0), .int a1] (wpreS adK adV dC dI cy sz w0)) (va_Qv (Pz_X12_four_5 ad cy B qr s1 a1 w0) (fun u : va_W => wpost dC dI cy (va_A w0 sz) u) (va_A w0 sz)) 0 0 (va_A w0 sz) := by
  refine Met.ofW (cc := cX12_four) (maxL := 3) (ret := none) (by decide) rfl ?_
  intro p e s m args below meth c s₁ Bk hml hv
  obtain ⟨rfl, ⟨hsz, hP, hK, hD0⟩, hE, hSR⟩ := hv
  have hx := Bk.exec
  have hb := Bk.bytes
  have hr := Bk.returns
  have hlocks := Bk.notSynchronized
  have hC : CallFix p m c cX12_four 3 s _ (wu yX12_four cX12_four 3 none) RX12 := ⟨hx, hb, hml, findClass_of_methodNamed Bk.named, atoms_spec (ws := (wu yX12_four cX12_four 3 none)) Bk.pre⟩
  subst hsz
  have hD := hD0.self (sz := s.heap.size)
  generalize hAe : va_A w0 s.heap.size = A at hD hE ⊢
  have hA : ∀ q : Nat, s.heap.size ≤ q → A q := fun q h => by rw [← hAe]; exact Or.inr h
  have hw : Wd dC dI A s.heap s.heap [] w0 := ⟨hP, hD, va_S.rf⟩
  have hF : FE ksM [(12, 1, 1), (60, 0, 400)] w0 w0 := FE.rf
  have hl := lv_entry ([.ref (ad 0), .int a1]) (n := 3) (Nat.le_of_ble_eq_true rfl)
  rw [lg_entry_eq]
  generalize (lg_sl ([.ref (ad 0), .int a1]) ++ List.replicate (3 - (lg_sl ([.ref (ad 0), .int a1])).length) Slot.unset).toArray = ls at hl ⊢
  have hl : lv_has ls 3 [(0, .ref (ad 0)), (1, .int a1)] := hl
  generalize hloc : ([] : List Loc) = locs at hw ⊢
  have hinX12 : ∀ w ∈ u_ws RX12 TX12 42, w ∈ (wu yX12_four cX12_four 3 none) := fun _ h => List.mem_cons_of_mem _ (up_71 h)
  have hM : TT (fun n => m_X12_four n 0 a1.toInt (sI w0)) (fun n => m_X12_four n 0 a1.toInt (sI w0)) := TT.rf
  refine lv_bipush (v := 24) hx hb dX12_four_0 (by decide) ?_
  refine lv_istore_n (lv' := [(2, .int 24), (0, .ref (ad 0)), (1, .int a1)]) hx hb dX12_four_2 rfl hl (by decide) rfl (fun ls hl => ?_)
  refine lv_iload_n hx hb dX12_four_3 rfl (lv_at hl 0 rfl) ?_
  refine lv_if_lt (tgt := 36) hx hb dX12_four_4 (by decide) (fun c => absurd c (by decide)) (fun _ => ?_)
  refine lv_aload_n hx hb dX12_four_7 rfl (lv_at hl 1 rfl) ?_
  refine tk_getA hC hK hw hT hinX12 kM_at0 (by decide) rfl 0 (by decide) (List.mem_cons_of_mem _ uw_6_14) rfl rfl dX12_four_8 ?_
  refine lv_aload_n hx hb dX12_four_11 rfl (lv_at hl 1 rfl) ?_
  refine tk_geti hC hK hw hT hinX12 kM_at0 (by decide) rfl 1 (by decide) (List.mem_cons_of_mem _ uw_8_7) rfl rfl dX12_four_12 (fun x1 c2 rx1 tx1 => ?_)
  refine wk_top f0_ (c2.symm.trans cf0_) ?_
  replace hM := hM.rd (sI_at cf0_)
  refine lv_iload_n hx hb dX12_four_15 rfl (lv_at hl 2 rfl) ?_
  refine lv_iload_n hx hb dX12_four_16 rfl (lv_at hl 0 rfl) ?_
  refine lv_ishr hx hb dX12_four_17 ?_
  refine lv_topi (fun x3 ex3 => ?_)
  have ezx3 := ex3
  replace hM := hM.lt (o32_e (f := fun x y => x >>> (y &&& 31)) ezx3 rfl (by decide))
  refine lv_i2b hx hb dX12_four_18 rfl ?_
  refine lv_topi (fun x4 ex4 => ?_)
  replace hM := hM.lt (mB_e ex4)
  refine tk_bastv hC hK hw hT kM_at1 (by decide) rfl rfl (show 0 ≤ f0_.toInt from Int.le_trans (by decide) rf0_) (show f0_.toInt < 400 from Int.lt_of_le_of_lt tf0_ (by decide)) dX12_four_19 (fun H locs w5 hw hT k7 c6 => ?_)
  obtain ⟨z8, ez8⟩ : ∃ z : Int32, z = x4.toInt8.toInt32 := ⟨_, rfl⟩
  have c6 := c6.trans ez8.symm
  replace hM := hM.lt (mB_e ez8)
  replace hM := hM.wr (sI_up k7 c6)
  have hF := hF.put kM_at1 (inE_of (a := 0) (b := 400) (by decide) (show 0 ≤ f0_.toInt.toNat by omega) (show f0_.toInt.toNat ≤ 400 by omega)) k7
  have c9 := k7.gi (Or.inl (tk_ne kM_at0 kM_at1 (by decide))) cf0_
  refine lv_aload_n hx hb dX12_four_20 rfl (lv_at hl 1 rfl) ?_
  refine lv_dup hx hb dX12_four_21 rfl ?_
  refine tk_geti hC hK hw hT hinX12 kM_at0 (by decide) rfl 1 (by decide) (List.mem_cons_of_mem _ uw_8_7) rfl rfl dX12_four_22 (fun x10 c11 rx10 tx10 => ?_)
  refine wk_top f0_ (c11.symm.trans c9) ?_
  replace hM := hM.rd (sI_at c9)
  refine lv_iconst (v := 1) hx hb dX12_four_25 (by decide) ?_
  refine lv_iadd hx hb dX12_four_26 ?_
  refine lv_topi (fun x12 ex12 => ?_)
  have ezx12 := ex12
  have ex12 : x12.toInt = f0_.toInt + (1 : Int) := by rw [ex12]; exact wk_add (show (-2147483648) ≤ f0_.toInt + (1 : Int) by omega) (show f0_.toInt + (1 : Int) ≤ 2147483647 by omega)
  replace hM := hM.lt ex12.symm
  refine tk_puti hC hK hw hT hinX12 tyX12_ok nmX12 kM_at0 (by decide) rfl rfl 1 (by decide) (List.mem_cons_of_mem _ uw_8_7) rfl rfl rfl rfl (show 0 ≤ x12.toInt by first | with_reducible assumption | omega) (show x12.toInt ≤ 400 by first | with_reducible assumption | omega) dX12_four_27 (fun H locs w13 hw hT k15 c14 => ?_)
  replace hM := hM.wr (sI_up k15 c14)
  have hF := hF.put kM_at0 (k := 1) (by decide) k15
  refine lv_iinc (v := 16) (lv' := [(2, .int 16), (0, .ref (ad 0)), (1, .int a1)]) hx hb dX12_four_30 hl (k := 0) rfl (by decide) (by decide) rfl (fun ls hl => ?_)
  refine lv_goto (tgt := 3) hx hb dX12_four_33 (by decide) ?_
  refine lv_iload_n hx hb dX12_four_3 rfl (lv_at hl 0 rfl) ?_
  refine lv_if_lt (tgt := 36) hx hb dX12_four_4 (by decide) (fun c => absurd c (by decide)) (fun _ => ?_)
  refine lv_aload_n hx hb dX12_four_7 rfl (lv_at hl 1 rfl) ?_
  refine tk_getA hC hK hw hT hinX12 kM_at0 (by decide) rfl 0 (by decide) (List.mem_cons_of_mem _ uw_6_14) rfl rfl dX12_four_8 ?_
  refine lv_aload_n hx hb dX12_four_11 rfl (lv_at hl 1 rfl) ?_
  refine tk_geti hC hK hw hT hinX12 kM_at0 (by decide) rfl 1 (by decide) (List.mem_cons_of_mem _ uw_8_7) rfl rfl dX12_four_12 (fun x16 c17 rx16 tx16 => ?_)
  refine wk_top x12 (c17.symm.trans c14) ?_
  replace hM := hM.rd (sI_at c14)
  refine lv_iload_n hx hb dX12_four_15 rfl (lv_at hl 2 rfl) ?_
  refine lv_iload_n hx hb dX12_four_16 rfl (lv_at hl 0 rfl) ?_
  refine lv_ishr hx hb dX12_four_17 ?_
  refine lv_topi (fun x18 ex18 => ?_)
  have ezx18 := ex18
  replace hM := hM.lt (o32_e (f := fun x y => x >>> (y &&& 31)) ezx18 rfl (by decide))
  refine lv_i2b hx hb dX12_four_18 rfl ?_
  refine lv_topi (fun x19 ex19 => ?_)
  replace hM := hM.lt (mB_e ex19)
  refine tk_bastv hC hK hw hT kM_at1 (by decide) rfl rfl (show 0 ≤ x12.toInt by first | with_reducible assumption | omega) (show x12.toInt < 400 by first | with_reducible assumption | omega) dX12_four_19 (fun H locs w20 hw hT k22 c21 => ?_)
  obtain ⟨z23, ez23⟩ : ∃ z : Int32, z = x19.toInt8.toInt32 := ⟨_, rfl⟩
  have c21 := c21.trans ez23.symm
  replace hM := hM.lt (mB_e ez23)
  replace hM := hM.wr (sI_up k22 c21)
  have hF := hF.put kM_at1 (inE_of (a := 0) (b := 400) (by decide) (show 0 ≤ x12.toInt.toNat by omega) (show x12.toInt.toNat ≤ 400 by omega)) k22
  have c24 := k22.gi (Or.inl (tk_ne kM_at0 kM_at1 (by decide))) c14
  refine lv_aload_n hx hb dX12_four_20 rfl (lv_at hl 1 rfl) ?_
  refine lv_dup hx hb dX12_four_21 rfl ?_
  refine tk_geti hC hK hw hT hinX12 kM_at0 (by decide) rfl 1 (by decide) (List.mem_cons_of_mem _ uw_8_7) rfl rfl dX12_four_22 (fun x25 c26 rx25 tx25 => ?_)
  refine wk_top x12 (c26.symm.trans c24) ?_
  replace hM := hM.rd (sI_at c24)
  refine lv_iconst (v := 1) hx hb dX12_four_25 (by decide) ?_
  refine lv_iadd hx hb dX12_four_26 ?_
  refine lv_topi (fun x27 ex27 => ?_)
  have ezx27 := ex27
  have ex27 : x27.toInt = x12.toInt + (1 : Int) := by rw [ex27]; exact wk_add (show (-2147483648) ≤ x12.toInt + (1 : Int) by omega) (show x12.toInt + (1 : Int) ≤ 2147483647 by omega)
  replace hM := hM.lt ex27.symm
  refine tk_puti hC hK hw hT hinX12 tyX12_ok nmX12 kM_at0 (by decide) rfl rfl 1 (by decide) (List.mem_cons_of_mem _ uw_8_7) rfl rfl rfl rfl (show 0 ≤ x27.toInt by first | with_reducible assumption | omega) (show x27.toInt ≤ 400 by first | with_reducible assumption | omega) dX12_four_27 (fun H locs w28 hw hT k30 c29 => ?_)
  replace hM := hM.wr (sI_up k30 c29)
  have hF := hF.put kM_at0 (k := 1) (by decide) k30
  refine lv_iinc (v := 8) (lv' := [(2, .int 8), (0, .ref (ad 0)), (1, .int a1)]) hx hb dX12_four_30 hl (k := 0) rfl (by decide) (by decide) rfl (fun ls hl => ?_)
  refine lv_goto (tgt := 3) hx hb dX12_four_33 (by decide) ?_
  refine lv_iload_n hx hb dX12_four_3 rfl (lv_at hl 0 rfl) ?_
  refine lv_if_lt (tgt := 36) hx hb dX12_four_4 (by decide) (fun c => absurd c (by decide)) (fun _ => ?_)
  refine lv_aload_n hx hb dX12_four_7 rfl (lv_at hl 1 rfl) ?_
  refine tk_getA hC hK hw hT hinX12 kM_at0 (by decide) rfl 0 (by decide) (List.mem_cons_of_mem _ uw_6_14) rfl rfl dX12_four_8 ?_
  refine lv_aload_n hx hb dX12_four_11 rfl (lv_at hl 1 rfl) ?_
  refine tk_geti hC hK hw hT hinX12 kM_at0 (by decide) rfl 1 (by decide) (List.mem_cons_of_mem _ uw_8_7) rfl rfl dX12_four_12 (fun x31 c32 rx31 tx31 => ?_)
  refine wk_top x27 (c32.symm.trans c29) ?_
  replace hM := hM.rd (sI_at c29)
  refine lv_iload_n hx hb dX12_four_15 rfl (lv_at hl 2 rfl) ?_
  refine lv_iload_n hx hb dX12_four_16 rfl (lv_at hl 0 rfl) ?_
  refine lv_ishr hx hb dX12_four_17 ?_
  refine lv_topi (fun x33 ex33 => ?_)
  have ezx33 := ex33
  replace hM := hM.lt (o32_e (f := fun x y => x >>> (y &&& 31)) ezx33 rfl (by decide))
  refine lv_i2b hx hb dX12_four_18 rfl ?_
  refine lv_topi (fun x34 ex34 => ?_)
  replace hM := hM.lt (mB_e ex34)
  refine tk_bastv hC hK hw hT kM_at1 (by decide) rfl rfl (show 0 ≤ x27.toInt by first | with_reducible assumption | omega) (show x27.toInt < 400 by first | with_reducible assumption | omega) dX12_four_19 (fun H locs w35 hw hT k37 c36 => ?_)
  obtain ⟨z38, ez38⟩ : ∃ z : Int32, z = x34.toInt8.toInt32 := ⟨_, rfl⟩
  have c36 := c36.trans ez38.symm
  replace hM := hM.lt (mB_e ez38)
  replace hM := hM.wr (sI_up k37 c36)
  have hF := hF.put kM_at1 (inE_of (a := 0) (b := 400) (by decide) (show 0 ≤ x27.toInt.toNat by omega) (show x27.toInt.toNat ≤ 400 by omega)) k37
  have c39 := k37.gi (Or.inl (tk_ne kM_at0 kM_at1 (by decide))) c29
  refine lv_aload_n hx hb dX12_four_20 rfl (lv_at hl 1 rfl) ?_
  refine lv_dup hx hb dX12_four_21 rfl ?_
  refine tk_geti hC hK hw hT hinX12 kM_at0 (by decide) rfl 1 (by decide) (List.mem_cons_of_mem _ uw_8_7) rfl rfl dX12_four_22 (fun x40 c41 rx40 tx40 => ?_)
  refine wk_top x27 (c41.symm.trans c39) ?_
  replace hM := hM.rd (sI_at c39)
  refine lv_iconst (v := 1) hx hb dX12_four_25 (by decide) ?_
  refine lv_iadd hx hb dX12_four_26 ?_
  refine lv_topi (fun x42 ex42 => ?_)
  have ezx42 := ex42
  have ex42 : x42.toInt = x27.toInt + (1 : Int) := by rw [ex42]; exact wk_add (show (-2147483648) ≤ x27.toInt + (1 : Int) by omega) (show x27.toInt + (1 : Int) ≤ 2147483647 by omega)
  replace hM := hM.lt ex42.symm
  refine tk_puti hC hK hw hT hinX12 tyX12_ok nmX12 kM_at0 (by decide) rfl rfl 1 (by decide) (List.mem_cons_of_mem _ uw_8_7) rfl rfl rfl rfl (show 0 ≤ x42.toInt by first | with_reducible assumption | omega) (show x42.toInt ≤ 400 by first | with_reducible assumption | omega) dX12_four_27 (fun H locs w43 hw hT k45 c44 => ?_)
  replace hM := hM.wr (sI_up k45 c44)
  have hF := hF.put kM_at0 (k := 1) (by decide) k45
  refine lv_iinc (v := 0) (lv' := [(2, .int 0), (0, .ref (ad 0)), (1, .int a1)]) hx hb dX12_four_30 hl (k := 0) rfl (by decide) (by decide) rfl (fun ls hl => ?_)
  refine lv_goto (tgt := 3) hx hb dX12_four_33 (by decide) ?_
  refine lv_iload_n hx hb dX12_four_3 rfl (lv_at hl 0 rfl) ?_
  refine lv_if_lt (tgt := 36) hx hb dX12_four_4 (by decide) (fun c => absurd c (by decide)) (fun _ => ?_)
  refine lv_aload_n hx hb dX12_four_7 rfl (lv_at hl 1 rfl) ?_
  refine tk_getA hC hK hw hT hinX12 kM_at0 (by decide) rfl 0 (by decide) (List.mem_cons_of_mem _ uw_6_14) rfl rfl dX12_four_8 ?_
  refine lv_aload_n hx hb dX12_four_11 rfl (lv_at hl 1 rfl) ?_
  refine tk_geti hC hK hw hT hinX12 kM_at0 (by decide) rfl 1 (by decide) (List.mem_cons_of_mem _ uw_8_7) rfl rfl dX12_four_12 (fun x46 c47 rx46 tx46 => ?_)
  refine wk_top x42 (c47.symm.trans c44) ?_
  replace hM := hM.rd (sI_at c44)
  refine lv_iload_n hx hb dX12_four_15 rfl (lv_at hl 2 rfl) ?_
  refine lv_iload_n hx hb dX12_four_16 rfl (lv_at hl 0 rfl) ?_
  refine lv_ishr hx hb dX12_four_17 ?_
  refine lv_topi (fun x48 ex48 => ?_)
  have ezx48 := ex48
  replace hM := hM.lt (o32_e (f := fun x y => x >>> (y &&& 31)) ezx48 rfl (by decide))
  refine lv_i2b hx hb dX12_four_18 rfl ?_
  refine lv_topi (fun x49 ex49 => ?_)
  replace hM := hM.lt (mB_e ex49)
  refine tk_bastv hC hK hw hT kM_at1 (by decide) rfl rfl (show 0 ≤ x42.toInt by first | with_reducible assumption | omega) (show x42.toInt < 400 by first | with_reducible assumption | omega) dX12_four_19 (fun H locs w50 hw hT k52 c51 => ?_)
  obtain ⟨z53, ez53⟩ : ∃ z : Int32, z = x49.toInt8.toInt32 := ⟨_, rfl⟩
  have c51 := c51.trans ez53.symm
  replace hM := hM.lt (mB_e ez53)
  replace hM := hM.wr (sI_up k52 c51)
  have hF := hF.put kM_at1 (inE_of (a := 0) (b := 400) (by decide) (show 0 ≤ x42.toInt.toNat by omega) (show x42.toInt.toNat ≤ 400 by omega)) k52
  have c54 := k52.gi (Or.inl (tk_ne kM_at0 kM_at1 (by decide))) c44
  refine lv_aload_n hx hb dX12_four_20 rfl (lv_at hl 1 rfl) ?_
  refine lv_dup hx hb dX12_four_21 rfl ?_
  refine tk_geti hC hK hw hT hinX12 kM_at0 (by decide) rfl 1 (by decide) (List.mem_cons_of_mem _ uw_8_7) rfl rfl dX12_four_22 (fun x55 c56 rx55 tx55 => ?_)
  refine wk_top x42 (c56.symm.trans c54) ?_
  replace hM := hM.rd (sI_at c54)
  refine lv_iconst (v := 1) hx hb dX12_four_25 (by decide) ?_
  refine lv_iadd hx hb dX12_four_26 ?_
  refine lv_topi (fun x57 ex57 => ?_)
  have ezx57 := ex57
  have ex57 : x57.toInt = x42.toInt + (1 : Int) := by rw [ex57]; exact wk_add (show (-2147483648) ≤ x42.toInt + (1 : Int) by omega) (show x42.toInt + (1 : Int) ≤ 2147483647 by omega)
  replace hM := hM.lt ex57.symm
  refine tk_puti hC hK hw hT hinX12 tyX12_ok nmX12 kM_at0 (by decide) rfl rfl 1 (by decide) (List.mem_cons_of_mem _ uw_8_7) rfl rfl rfl rfl (show 0 ≤ x57.toInt by first | with_reducible assumption | omega) (show x57.toInt ≤ 400 by first | with_reducible assumption | omega) dX12_four_27 (fun H locs w58 hw hT k60 c59 => ?_)
  replace hM := hM.wr (sI_up k60 c59)
  have hF := hF.put kM_at0 (k := 1) (by decide) k60
  refine lv_iinc (v := (-8)) (lv' := [(2, .int (-8)), (0, .ref (ad 0)), (1, .int a1)]) hx hb dX12_four_30 hl (k := 0) rfl (by decide) (by decide) rfl (fun ls hl => ?_)
  refine lv_goto (tgt := 3) hx hb dX12_four_33 (by decide) ?_
  refine lv_iload_n hx hb dX12_four_3 rfl (lv_at hl 0 rfl) ?_
  refine lv_if_lt (tgt := 36) hx hb dX12_four_4 (by decide) (fun _ => ?_) (fun c => absurd (by decide) c)
  exact tk_vret hC hr hlocks hK ⟨hT, hF, hM.ret rfl, ⟨x57, c59, (show 20 ≤ x57.toInt by first | with_reducible assumption | omega), (show x57.toInt ≤ 400 by first | with_reducible assumption | omega)⟩⟩ hw dX12_four_36
abbrev Pz_X12_feed_1 (ad : Nat → Nat) (cy : Nat → ClassId) (B : Int) (qr : Nat) (s1 : Int) (a1 : Int32) (a2 : Int32) (a3 : Int32) (a4 : Int32) (a5 : Int32) (w0 : va_W) : Int32 → va_W → Prop := fun r u => TW ksM ad cy B qr 12 u ∧ FE ksM [(12, 1, 1), (60, 0, 400)] w0 u ∧ Ev (fun n => m_X12_feed n 0 a1.toInt a2.toInt a3.toInt a4.toInt a5.toInt (sI w0)) (r.toInt, sI u) ∧ ((20 ≤ r.toInt ∧ r.toInt ≤ 400 ∧ (∃ y : Int32, gi u 0 1 = y ∧ 20 ≤ y.toInt ∧ y.toInt ≤ 400)) ∨ (r = (-1) ∧ (∃ y : Int32, gi u 0 1 = y ∧ 381 ≤ y.toInt ∧ y.toInt ≤ 400)))
set_option maxHeartbeats 4000000 in
set_option maxRecDepth 100000 in
theorem kz_X12_feed_1 (l : Launch) (adK adV : Nat → Nat) (dC : Nat → ClassId) (dI : Nat → Nat → Nat) (cy : Nat → ClassId) (ad : Nat → Nat) (B : Int) (hB0 : 100000 ≤ B) (hB1 : B ≤ 1073741824) (qr : Nat) (s1 : Int)  (a1 : Int32) (a2 : Int32) (a3 : Int32) (a4 : Int32) (a5 : Int32) (w0 : va_W) (sz : Nat) (hT : TW ksM ad cy B qr 12 w0)  : Met l yX12_feed (wu yX12_feed cX12_feed 6 (some .int)) ({ frames := 2, cells := 0, slots := 0, locals := 34 }) (va_Pc [.ref (ad 0), .int a1, .int a2, .int a3, .int a4, .int a5] (wpreS adK adV dC dI cy sz w0)) (va_Qi (Pz_X12_feed_1 ad cy B qr s1 a1 a2 a3 a4 a5 w0) (fun u : va_W => wpost dC dI cy (va_A w0 sz) u) (va_A w0 sz)) 0 0 (va_A w0 sz) := by
  refine Met.ofW (cc := cX12_feed) (maxL := 6) (ret := (some .int)) (by decide) rfl ?_
  intro p e s m args below meth c s₁ Bk hml hv
  obtain ⟨rfl, ⟨hsz, hP, hK, hD0⟩, hE, hSR⟩ := hv
  have hx := Bk.exec
  have hb := Bk.bytes
  have hr := Bk.returns
  have hlocks := Bk.notSynchronized
  have hC : CallFix p m c cX12_feed 6 s _ (wu yX12_feed cX12_feed 6 (some .int)) RX12 := ⟨hx, hb, hml, findClass_of_methodNamed Bk.named, atoms_spec (ws := (wu yX12_feed cX12_feed 6 (some .int))) Bk.pre⟩
  subst hsz
  have hD := hD0.self (sz := s.heap.size)
  generalize hAe : va_A w0 s.heap.size = A at hD hE ⊢
  have hA : ∀ q : Nat, s.heap.size ≤ q → A q := fun q h => by rw [← hAe]; exact Or.inr h
  have hw : Wd dC dI A s.heap s.heap [] w0 := ⟨hP, hD, va_S.rf⟩
  have hF : FE ksM [(12, 1, 1), (60, 0, 400)] w0 w0 := FE.rf
  have hl := lv_entry ([.ref (ad 0), .int a1, .int a2, .int a3, .int a4, .int a5]) (n := 6) (Nat.le_of_ble_eq_true rfl)
  rw [lg_entry_eq]
  generalize (lg_sl ([.ref (ad 0), .int a1, .int a2, .int a3, .int a4, .int a5]) ++ List.replicate (6 - (lg_sl ([.ref (ad 0), .int a1, .int a2, .int a3, .int a4, .int a5])).length) Slot.unset).toArray = ls at hl ⊢
  have hl : lv_has ls 6 [(0, .ref (ad 0)), (1, .int a1), (2, .int a2), (3, .int a3), (4, .int a4), (5, .int a5)] := hl
  generalize hloc : ([] : List Loc) = locs at hw ⊢
  have hinX12 : ∀ w ∈ u_ws RX12 TX12 42, w ∈ (wu yX12_feed cX12_feed 6 (some .int)) := fun _ h => List.mem_cons_of_mem _ (up_71 h)
  have hM : TT (fun n => m_X12_feed n 0 a1.toInt a2.toInt a3.toInt a4.toInt a5.toInt (sI w0)) (fun n => m_X12_feed n 0 a1.toInt a2.toInt a3.toInt a4.toInt a5.toInt (sI w0)) := TT.rf
  refine lv_aload_n hx hb dX12_feed_0 rfl (lv_at hl 0 rfl) ?_
  refine tk_geti hC hK hw hT hinX12 kM_at0 (by decide) rfl 1 (by decide) (List.mem_cons_of_mem _ uw_8_7) rfl rfl dX12_feed_1 (fun x1 c2 rx1 tx1 => ?_)
  replace hM := hM.rd (sI_at c2)
  refine lv_bipush (v := 20) hx hb dX12_feed_4 (by decide) ?_
  refine lv_iadd hx hb dX12_feed_6 ?_
  refine lv_topi (fun x3 ex3 => ?_)
  have ezx3 := ex3
  have ex3 : x3.toInt = x1.toInt + (20 : Int) := by rw [ex3]; exact wk_add (show (-2147483648) ≤ x1.toInt + (20 : Int) by omega) (show x1.toInt + (20 : Int) ≤ 2147483647 by omega)
  replace hM := hM.lt ex3.symm
  refine lv_sipush (v := 400) hx hb dX12_feed_7 (by decide) ?_
  refine lv_icmp_le (tgt := 15) hx hb dX12_feed_10 (by decide) (fun c4 => ?_) (fun c4 => ?_)
  · have c4 : x3.toInt ≤ (400 : Int) := wk_le.mp c4
    replace hM := hM.pos c4
    refine lv_aload_n hx hb dX12_feed_15 rfl (lv_at hl 0 rfl) ?_
    refine lv_iload_n hx hb dX12_feed_16 rfl (lv_at hl 1 rfl) ?_
    refine tk_Vv hC hK hw hT hA hE hSR kM_at0 (by decide) rfl (kz_X12_four_1 l adK adV dC dI cy ad B hB0 (Int.le_trans hB1 (by decide)) qr s1   a1 w0 s.heap.size hT x1 c2 (show 0 ≤ x1.toInt from rx1) (show x1.toInt ≤ 380 by first | with_reducible assumption | omega)) (cwV 1 hC.2.2.2.2 uV_RX12_87 rfl rfl rfl (by decide +kernel) ⟨Nat.le_of_ble_eq_true rfl, Nat.le_of_ble_eq_true rfl⟩) rfl hl.1 rfl (Nat.le_of_ble_eq_true rfl) dX12_feed_17 (fun w7 H locs hp6 hw => ?_)
    obtain ⟨hT, k8, hv12, hg11⟩ := hp6
    have hF := hF.tr k8 (by decide)
    obtain ⟨x9, c10, rx9, tx9⟩ := hg11
    replace hM := hM.call hv12 rfl
    refine lv_aload_n hx hb dX12_feed_20 rfl (lv_at hl 0 rfl) ?_
    refine lv_iload_n hx hb dX12_feed_21 rfl (lv_at hl 2 rfl) ?_
    refine tk_Vv hC hK hw hT hA hE hSR kM_at0 (by decide) rfl (kz_X12_four_2 l adK adV dC dI cy ad B hB0 (Int.le_trans hB1 (by decide)) qr s1   a2 w7 H.size hT x9 c10 (show 4 ≤ x9.toInt by first | with_reducible assumption | omega) (show x9.toInt ≤ 384 by first | with_reducible assumption | omega)) (cwV 1 hC.2.2.2.2 uV_RX12_87 rfl rfl rfl (by decide +kernel) ⟨Nat.le_of_ble_eq_true rfl, Nat.le_of_ble_eq_true rfl⟩) rfl hl.1 rfl (Nat.le_of_ble_eq_true rfl) dX12_feed_22 (fun w15 H locs hp14 hw => ?_)
    obtain ⟨hT, k16, hv20, hg19⟩ := hp14
    have hF := hF.tr k16 (by decide)
    obtain ⟨x17, c18, rx17, tx17⟩ := hg19
    replace hM := hM.call hv20 rfl
    refine lv_aload_n hx hb dX12_feed_25 rfl (lv_at hl 0 rfl) ?_
    refine lv_iload_n hx hb dX12_feed_26 rfl (lv_at hl 3 rfl) ?_
    refine tk_Vv hC hK hw hT hA hE hSR kM_at0 (by decide) rfl (kz_X12_four_3 l adK adV dC dI cy ad B hB0 (Int.le_trans hB1 (by decide)) qr s1   a3 w15 H.size hT x17 c18 (show 8 ≤ x17.toInt by first | with_reducible assumption | omega) (show x17.toInt ≤ 388 by first | with_reducible assumption | omega)) (cwV 1 hC.2.2.2.2 uV_RX12_87 rfl rfl rfl (by decide +kernel) ⟨Nat.le_of_ble_eq_true rfl, Nat.le_of_ble_eq_true rfl⟩) rfl hl.1 rfl (Nat.le_of_ble_eq_true rfl) dX12_feed_27 (fun w23 H locs hp22 hw => ?_)
    obtain ⟨hT, k24, hv28, hg27⟩ := hp22
    have hF := hF.tr k24 (by decide)
    obtain ⟨x25, c26, rx25, tx25⟩ := hg27
    replace hM := hM.call hv28 rfl
    refine lv_aload_n hx hb dX12_feed_30 rfl (lv_at hl 0 rfl) ?_
    refine lv_iload hx hb dX12_feed_31 (lv_at hl 4 rfl) ?_
    refine tk_Vv hC hK hw hT hA hE hSR kM_at0 (by decide) rfl (kz_X12_four_4 l adK adV dC dI cy ad B hB0 (Int.le_trans hB1 (by decide)) qr s1   a4 w23 H.size hT x25 c26 (show 12 ≤ x25.toInt by first | with_reducible assumption | omega) (show x25.toInt ≤ 392 by first | with_reducible assumption | omega)) (cwV 1 hC.2.2.2.2 uV_RX12_87 rfl rfl rfl (by decide +kernel) ⟨Nat.le_of_ble_eq_true rfl, Nat.le_of_ble_eq_true rfl⟩) rfl hl.1 rfl (Nat.le_of_ble_eq_true rfl) dX12_feed_33 (fun w31 H locs hp30 hw => ?_)
    obtain ⟨hT, k32, hv36, hg35⟩ := hp30
    have hF := hF.tr k32 (by decide)
    obtain ⟨x33, c34, rx33, tx33⟩ := hg35
    replace hM := hM.call hv36 rfl
    refine lv_aload_n hx hb dX12_feed_36 rfl (lv_at hl 0 rfl) ?_
    refine lv_iload hx hb dX12_feed_37 (lv_at hl 5 rfl) ?_
    refine tk_Vv hC hK hw hT hA hE hSR kM_at0 (by decide) rfl (kz_X12_four_5 l adK adV dC dI cy ad B hB0 (Int.le_trans hB1 (by decide)) qr s1   a5 w31 H.size hT x33 c34 (show 16 ≤ x33.toInt by first | with_reducible assumption | omega) (show x33.toInt ≤ 396 by first | with_reducible assumption | omega)) (cwV 1 hC.2.2.2.2 uV_RX12_87 rfl rfl rfl (by decide +kernel) ⟨Nat.le_of_ble_eq_true rfl, Nat.le_of_ble_eq_true rfl⟩) rfl hl.1 rfl (Nat.le_of_ble_eq_true rfl) dX12_feed_39 (fun w39 H locs hp38 hw => ?_)
    obtain ⟨hT, k40, hv44, hg43⟩ := hp38
    have hF := hF.tr k40 (by decide)
    obtain ⟨x41, c42, rx41, tx41⟩ := hg43
    replace hM := hM.call hv44 rfl
    refine lv_aload_n hx hb dX12_feed_42 rfl (lv_at hl 0 rfl) ?_
    refine tk_geti hC hK hw hT hinX12 kM_at0 (by decide) rfl 1 (by decide) (List.mem_cons_of_mem _ uw_8_7) rfl rfl dX12_feed_43 (fun x45 c46 rx45 tx45 => ?_)
    refine wk_top x41 (c46.symm.trans c42) ?_
    replace hM := hM.rd (sI_at c42)
    exact tk_iret hC hr hlocks hK ⟨hT, hF, hM.ret rfl, (Or.inl ⟨(show 20 ≤ x41.toInt by first | with_reducible assumption | omega), (show x41.toInt ≤ 400 by first | with_reducible assumption | omega), ⟨x41, c42, (show 20 ≤ x41.toInt by first | with_reducible assumption | omega), (show x41.toInt ≤ 400 by first | with_reducible assumption | omega)⟩⟩)⟩ hw dX12_feed_46
  · have c4 : (400 : Int) < x3.toInt := wk_leF c4
    replace hM := hM.neg (Int.not_le.mpr c4)
    refine lv_iconst (v := (-1)) hx hb dX12_feed_13 (by decide) ?_
    exact tk_iret hC hr hlocks hK ⟨hT, hF, hM.ret (by decide), (Or.inr ⟨rfl, ⟨x1, c2, (show 381 ≤ x1.toInt by first | with_reducible assumption | omega), (show x1.toInt ≤ 400 from tx1)⟩⟩)⟩ hw dX12_feed_14
abbrev Pz_X12_end_1 (ad : Nat → Nat) (cy : Nat → ClassId) (B : Int) (qr : Nat) (s1 : Int) (a1 : Int32) (w0 : va_W) : Int32 → va_W → Prop := fun r u => TW ksM ad cy B qr 12 u ∧ FE ksM [(12, 1, 1)] w0 u ∧ Ev (fun n => m_X12_end n 0 a1.toInt (sI w0)) (r.toInt, sI u) ∧ ((0 ≤ r.toInt ∧ r.toInt ≤ 400 ∧ 0 ≤ a1.toInt ∧ a1.toInt ≤ 400 ∧ (∃ y : Int32, gi u 0 1 = y ∧ 0 ≤ y.toInt ∧ y.toInt ≤ 400)) ∨ (r = (-1)))
set_option maxHeartbeats 4000000 in
set_option maxRecDepth 100000 in
theorem kz_X12_end_1 (l : Launch) (adK adV : Nat → Nat) (dC : Nat → ClassId) (dI : Nat → Nat → Nat) (cy : Nat → ClassId) (ad : Nat → Nat) (B : Int) (hB0 : 100000 ≤ B) (hB1 : B ≤ 1073741824) (qr : Nat) (s1 : Int)  (a1 : Int32) (w0 : va_W) (sz : Nat) (hT : TW ksM ad cy B qr 12 w0)  : Met l yX12_end (wu yX12_end cX12_end 2 (some .int)) ({ frames := 1, cells := 0, slots := 0, locals := 12 }) (va_Pc [.ref (ad 0), .int a1] (wpreS adK adV dC dI cy sz w0)) (va_Qi (Pz_X12_end_1 ad cy B qr s1 a1 w0) (fun u : va_W => wpost dC dI cy (va_A w0 sz) u) (va_A w0 sz)) 0 0 (va_A w0 sz) := by
  refine Met.ofW (cc := cX12_end) (maxL := 2) (ret := (some .int)) (by decide) rfl ?_
  intro p e s m args below meth c s₁ Bk hml hv
  obtain ⟨rfl, ⟨hsz, hP, hK, hD0⟩, hE, hSR⟩ := hv
  have hx := Bk.exec
  have hb := Bk.bytes
  have hr := Bk.returns
  have hlocks := Bk.notSynchronized
  have hC : CallFix p m c cX12_end 2 s _ (wu yX12_end cX12_end 2 (some .int)) RX12 := ⟨hx, hb, hml, findClass_of_methodNamed Bk.named, atoms_spec (ws := (wu yX12_end cX12_end 2 (some .int))) Bk.pre⟩
  subst hsz
  have hD := hD0.self (sz := s.heap.size)
  generalize hAe : va_A w0 s.heap.size = A at hD hE ⊢
  have hA : ∀ q : Nat, s.heap.size ≤ q → A q := fun q h => by rw [← hAe]; exact Or.inr h
  have hw : Wd dC dI A s.heap s.heap [] w0 := ⟨hP, hD, va_S.rf⟩
  have hF : FE ksM [(12, 1, 1)] w0 w0 := FE.rf
  have hl := lv_entry ([.ref (ad 0), .int a1]) (n := 2) (Nat.le_of_ble_eq_true rfl)
  rw [lg_entry_eq]
  generalize (lg_sl ([.ref (ad 0), .int a1]) ++ List.replicate (2 - (lg_sl ([.ref (ad 0), .int a1])).length) Slot.unset).toArray = ls at hl ⊢
  have hl : lv_has ls 2 [(0, .ref (ad 0)), (1, .int a1)] := hl
  generalize hloc : ([] : List Loc) = locs at hw ⊢
  have hinX12 : ∀ w ∈ u_ws RX12 TX12 42, w ∈ (wu yX12_end cX12_end 2 (some .int)) := fun _ h => List.mem_cons_of_mem _ (up_71 h)
  have J12 : ∀ (H : Heap) (locs : List Loc) (ls : Array Slot) (w1 : va_W), Wd dC dI A s.heap H locs w1 → TW ksM ad cy B qr 12 w1 → FE ksM [(12, 1, 1)] w0 w1 → TT (fun n => m_X12_end n 0 a1.toInt (sI w0)) (fun n => b_X12_end_12 n 0 (sI w1)) → lv_has ls 2 [(0, .ref (ad 0)), (1, .int a1)] → W p l e ({ frames := 1, cells := 0, slots := 0, locals := 12 }) s m (List.toArray [.ref (ad 0), .int a1]) below meth c H locs 0 0 (MQ below (va_Qi (Pz_X12_end_1 ad cy B qr s1 a1 w0) (fun u : va_W => wpost dC dI cy A u) A) (List.toArray [.ref (ad 0), .int a1]) s 0 0 A) (F0 m 12 ls []) := by
    intro H locs ls w1 hw hT hF hM hl
    refine lv_iconst (v := (-1)) hx hb dX12_end_12 (by decide) ?_
    exact tk_iret hC hr hlocks hK ⟨hT, hF, hM.ret (by decide), (Or.inr rfl)⟩ hw dX12_end_13
  have hM : TT (fun n => m_X12_end n 0 a1.toInt (sI w0)) (fun n => m_X12_end n 0 a1.toInt (sI w0)) := TT.rf
  refine lv_iload_n hx hb dX12_end_0 rfl (lv_at hl 1 rfl) ?_
  refine lv_if_lt (tgt := 12) hx hb dX12_end_1 (by decide) (fun c2 => ?_) (fun c2 => ?_)
  · have c2 : a1.toInt < (0 : Int) := wk_lt.mp c2
    replace hM := hM.pos c2
    exact J12  s.heap locs ls w0   hw hT hF hM (lv_sub hl [0, 1] rfl)
  · have c2 : (0 : Int) ≤ a1.toInt := wk_ltF c2
    replace hM := hM.neg (Int.not_lt.mpr c2)
    refine lv_iload_n hx hb dX12_end_4 rfl (lv_at hl 1 rfl) ?_
    refine lv_aload_n hx hb dX12_end_5 rfl (lv_at hl 0 rfl) ?_
    refine tk_geti hC hK hw hT hinX12 kM_at0 (by decide) rfl 1 (by decide) (List.mem_cons_of_mem _ uw_8_7) rfl rfl dX12_end_6 (fun x3 c4 rx3 tx3 => ?_)
    replace hM := hM.rd (sI_at c4)
    refine lv_icmp_le (tgt := 14) hx hb dX12_end_9 (by decide) (fun c5 => ?_) (fun c5 => ?_)
    · have c5 : a1.toInt ≤ x3.toInt := wk_le.mp c5
      replace hM := hM.pos c5
      refine lv_aload_n hx hb dX12_end_14 rfl (lv_at hl 0 rfl) ?_
      refine lv_iload_n hx hb dX12_end_15 rfl (lv_at hl 1 rfl) ?_
      refine tk_puti hC hK hw hT hinX12 tyX12_ok nmX12 kM_at0 (by decide) rfl rfl 1 (by decide) (List.mem_cons_of_mem _ uw_8_7) rfl rfl rfl rfl (show 0 ≤ a1.toInt by first | with_reducible assumption | omega) (show a1.toInt ≤ 400 by first | with_reducible assumption | omega) dX12_end_16 (fun H locs w6 hw hT k8 c7 => ?_)
      replace hM := hM.wr (sI_up k8 c7)
      have hF := hF.put kM_at0 (k := 1) (by decide) k8
      refine lv_iload_n hx hb dX12_end_19 rfl (lv_at hl 1 rfl) ?_
      exact tk_iret hC hr hlocks hK ⟨hT, hF, hM.ret rfl, (Or.inl ⟨(show 0 ≤ a1.toInt by first | with_reducible assumption | omega), (show a1.toInt ≤ 400 by first | with_reducible assumption | omega), (show 0 ≤ a1.toInt by first | with_reducible assumption | omega), (show a1.toInt ≤ 400 by first | with_reducible assumption | omega), ⟨a1, c7, (show 0 ≤ a1.toInt by first | with_reducible assumption | omega), (show a1.toInt ≤ 400 by first | with_reducible assumption | omega)⟩⟩)⟩ hw dX12_end_20
    · have c5 : x3.toInt < a1.toInt := wk_leF c5
      replace hM := hM.neg (Int.not_le.mpr c5)
      exact J12  s.heap locs ls w0   hw hT hF hM (lv_sub hl [0, 1] rfl)
abbrev Pz_X12_see_1 (ad : Nat → Nat) (cy : Nat → ClassId) (B : Int) (qr : Nat) (s1 : Int)  (w0 : va_W) : Int32 → va_W → Prop := fun r u => TW ksM ad cy B qr 12 u ∧ FE ksM [(12, 14, 14)] w0 u ∧ Ev (fun n => m_X12_see n 0 (sI w0)) (r.toInt, sI u) ∧ ((0 ≤ r.toInt ∧ r.toInt ≤ 255 ∧ (∃ y : Int32, gi u 0 1 = y ∧ 1 ≤ y.toInt ∧ y.toInt ≤ 400) ∧ (∃ y : Int32, gi u 0 14 = y ∧ 0 ≤ y.toInt ∧ y.toInt ≤ 399) ∧ ((gi u 1 ((gi u 0 14).toInt).toNat).toInt ≠ 32) ∧ (((gi u 0 14).toInt = (gi w0 0 14).toInt ∨ (gi w0 1 ((gi w0 0 14).toInt).toNat).toInt = 32))) ∨ (r = (-1) ∧ (∃ y : Int32, gi u 0 1 = y ∧ 1 ≤ y.toInt ∧ y.toInt ≤ 399) ∧ (∃ y : Int32, gi u 0 14 = y ∧ 1 ≤ y.toInt ∧ y.toInt ≤ 399) ∧ (((gi u 0 14).toInt = (gi w0 0 14).toInt ∨ (gi w0 1 ((gi w0 0 14).toInt).toNat).toInt = 32))) ∨ (r = (-1) ∧ (∃ y : Int32, gi u 0 1 = y ∧ 0 ≤ y.toInt ∧ y.toInt ≤ 400) ∧ (((gi u 0 14).toInt = (gi w0 0 14).toInt ∨ (gi w0 1 ((gi w0 0 14).toInt).toNat).toInt = 32))))
set_option maxHeartbeats 4000000 in
set_option maxRecDepth 100000 in
theorem kz_X12_see_1 (l : Launch) (adK adV : Nat → Nat) (dC : Nat → ClassId) (dI : Nat → Nat → Nat) (cy : Nat → ClassId) (ad : Nat → Nat) (B : Int) (hB0 : 100000 ≤ B) (hB1 : B ≤ 1073741824) (qr : Nat) (s1 : Int)   (w0 : va_W) (sz : Nat) (hT : TW ksM ad cy B qr 12 w0) (f0_ : Int32) (cf0_ : gi w0 0 14 = f0_) (rf0_ : 0 ≤ f0_.toInt) (tf0_ : f0_.toInt ≤ 400) : Met l yX12_see (wu yX12_see cX12_see 1 (some .int)) ({ frames := 1, cells := 0, slots := 0, locals := 12 }) (va_Pc [.ref (ad 0)] (wpreS adK adV dC dI cy sz w0)) (va_Qi (Pz_X12_see_1 ad cy B qr s1  w0) (fun u : va_W => wpost dC dI cy (va_A w0 sz) u) (va_A w0 sz)) 0 0 (va_A w0 sz) := by
  refine Met.ofW (cc := cX12_see) (maxL := 1) (ret := (some .int)) (by decide) rfl ?_
  intro p e s m args below meth c s₁ Bk hml hv
  obtain ⟨rfl, ⟨hsz, hP, hK, hD0⟩, hE, hSR⟩ := hv
  have hx := Bk.exec
  have hb := Bk.bytes
  have hr := Bk.returns
  have hlocks := Bk.notSynchronized
  have hC : CallFix p m c cX12_see 1 s _ (wu yX12_see cX12_see 1 (some .int)) RX12 := ⟨hx, hb, hml, findClass_of_methodNamed Bk.named, atoms_spec (ws := (wu yX12_see cX12_see 1 (some .int))) Bk.pre⟩
  subst hsz
  have hD := hD0.self (sz := s.heap.size)
  generalize hAe : va_A w0 s.heap.size = A at hD hE ⊢
  have hA : ∀ q : Nat, s.heap.size ≤ q → A q := fun q h => by rw [← hAe]; exact Or.inr h
  have hw : Wd dC dI A s.heap s.heap [] w0 := ⟨hP, hD, va_S.rf⟩
  have hF : FE ksM [(12, 14, 14)] w0 w0 := FE.rf
  have hl := lv_entry ([.ref (ad 0)]) (n := 1) (Nat.le_of_ble_eq_true rfl)
  rw [lg_entry_eq]
  generalize (lg_sl ([.ref (ad 0)]) ++ List.replicate (1 - (lg_sl ([.ref (ad 0)])).length) Slot.unset).toArray = ls at hl ⊢
  have hl : lv_has ls 1 [(0, .ref (ad 0))] := hl
  generalize hloc : ([] : List Loc) = locs at hw ⊢
  have hinX12 : ∀ w ∈ u_ws RX12 TX12 42, w ∈ (wu yX12_see cX12_see 1 (some .int)) := fun _ h => List.mem_cons_of_mem _ (up_71 h)
  have L0 : ∀ (n0 : Nat) (f0_0_14 : Int32) (H : Heap) (locs : List Loc) (ls : Array Slot) (w1 : va_W), 0 ≤ f0_0_14.toInt → f0_0_14.toInt ≤ 400 → ((f0_0_14.toInt = f0_.toInt ∨ (gi w0 1 (f0_.toInt).toNat).toInt = 32)) → (400 - f0_0_14.toInt).toNat < n0 → Wd dC dI A s.heap H locs w1 → TW ksM ad cy B qr 12 w1 → FE ksM [(12, 14, 14)] w0 w1 → gi w1 0 14 = f0_0_14 → TT (fun n => m_X12_see n 0 (sI w0)) (fun n => j_X12_see 0 n 0 [] (sI w1)) → lv_has ls 1 [(0, .ref (ad 0))] → W p l e ({ frames := 1, cells := 0, slots := 0, locals := 12 }) s m (List.toArray [.ref (ad 0)]) below meth c H locs 0 0 (MQ below (va_Qi (Pz_X12_see_1 ad cy B qr s1  w0) (fun u : va_W => wpost dC dI cy A u) A) (List.toArray [.ref (ad 0)]) s 0 0 A) (F0 m 0 ls []) := by
    intro n0
    induction n0 with
    | zero => intro f0_0_14 H locs ls w1 r2 t3 hcr0_0 hm0 hw hT hF c4 hM hl; omega
    | succ n0 ih0 =>
      intro f0_0_14 H locs ls w1 r2 t3 hcr0_0 hm0 hw hT hF c4 hM hl
      replace hM := hM.suc (fun _ => e_X12_see_0)
      refine lv_aload_n hx hb dX12_see_0 rfl (lv_at hl 0 rfl) ?_
      refine tk_geti hC hK hw hT hinX12 kM_at0 (by decide) rfl 14 (by decide) (List.mem_cons_of_mem _ uw_19_18) rfl rfl dX12_see_1 (fun x5 c6 rx5 tx5 => ?_)
      refine wk_top f0_0_14 (c6.symm.trans c4) ?_
      replace hM := hM.rd (sI_at c4)
      refine lv_aload_n hx hb dX12_see_4 rfl (lv_at hl 0 rfl) ?_
      refine tk_geti hC hK hw hT hinX12 kM_at0 (by decide) rfl 1 (by decide) (List.mem_cons_of_mem _ uw_8_7) rfl rfl dX12_see_5 (fun x7 c8 rx7 tx7 => ?_)
      replace hM := hM.rd (sI_at c8)
      refine lv_icmp_ge (tgt := 38) hx hb dX12_see_8 (by decide) (fun c9 => ?_) (fun c9 => ?_)
      · have c9 : x7.toInt ≤ f0_0_14.toInt := wk_le.mp c9
        replace hM := hM.pos c9
        refine lv_aload_n hx hb dX12_see_38 rfl (lv_at hl 0 rfl) ?_
        refine tk_geti hC hK hw hT hinX12 kM_at0 (by decide) rfl 14 (by decide) (List.mem_cons_of_mem _ uw_19_18) rfl rfl dX12_see_39 (fun x10 c11 rx10 tx10 => ?_)
        refine wk_top f0_0_14 (c11.symm.trans c4) ?_
        replace hM := hM.rd (sI_at c4)
        refine lv_aload_n hx hb dX12_see_42 rfl (lv_at hl 0 rfl) ?_
        refine tk_geti hC hK hw hT hinX12 kM_at0 (by decide) rfl 1 (by decide) (List.mem_cons_of_mem _ uw_8_7) rfl rfl dX12_see_43 (fun x12 c13 rx12 tx12 => ?_)
        refine wk_top x7 (c13.symm.trans c8) ?_
        replace hM := hM.rd (sI_at c8)
        refine lv_icmp_ge (tgt := 65) hx hb dX12_see_46 (by decide) (fun c14 => ?_) (fun c14 => ?_)
        · have c14 : x7.toInt ≤ f0_0_14.toInt := wk_le.mp c14
          replace hM := hM.pos c14
          refine lv_iconst (v := (-1)) hx hb dX12_see_65 (by decide) ?_
          exact tk_iret hC hr hlocks hK ⟨hT, hF, hM.ret (by decide), (Or.inr (Or.inr ⟨rfl, ⟨x7, c8, (show 0 ≤ x7.toInt from rx7), (show x7.toInt ≤ 400 from tx7)⟩, (by simp only [cf0_, c4]; omega)⟩))⟩ hw dX12_see_66
        · have c14 : f0_0_14.toInt < x7.toInt := wk_leF c14
          replace hM := hM.neg (Int.not_le.mpr c14)
          refine lv_aload_n hx hb dX12_see_49 rfl (lv_at hl 0 rfl) ?_
          refine tk_getA hC hK hw hT hinX12 kM_at0 (by decide) rfl 0 (by decide) (List.mem_cons_of_mem _ uw_6_14) rfl rfl dX12_see_50 ?_
          refine lv_aload_n hx hb dX12_see_53 rfl (lv_at hl 0 rfl) ?_
          refine tk_geti hC hK hw hT hinX12 kM_at0 (by decide) rfl 14 (by decide) (List.mem_cons_of_mem _ uw_19_18) rfl rfl dX12_see_54 (fun x15 c16 rx15 tx15 => ?_)
          refine wk_top f0_0_14 (c16.symm.trans c4) ?_
          replace hM := hM.rd (sI_at c4)
          refine tk_bald hC hK hw hT kM_at1 rfl rfl (show 0 ≤ f0_0_14.toInt from r2) (show f0_0_14.toInt < 400 by first | with_reducible assumption | omega) dX12_see_57 (fun x17 c18 rx17 tx17 => ?_)
          have hox17 := c18
          replace hM := hM.rd (sI_at hox17)
          have c18 : gi w1 1 (f0_0_14.toInt).toNat = x17 := (congrArg (gi w1 1) (congrArg Int.toNat (show f0_0_14.toInt = f0_0_14.toInt from rfl))).trans c18
          refine lv_sipush (v := 255) hx hb dX12_see_58 (by decide) ?_
          refine lv_iand hx hb dX12_see_61 ?_
          refine lv_topi (fun x19 ex19 => ?_)
          have ezx19 := ex19
          have bx19 : 0 ≤ x19.toInt ∧ x19.toInt ≤ (255 : Int) := by rw [ex19]; exact wk_and (by decide)
          replace hM := hM.lt (o32_e (f := fun x y => x &&& y) ezx19 rfl (by decide))
          refine lv_goto (tgt := 66) hx hb dX12_see_62 (by decide) ?_
          exact tk_iret hC hr hlocks hK ⟨hT, hF, hM.ret rfl, (Or.inl ⟨(show 0 ≤ x19.toInt by first | with_reducible assumption | omega), (show x19.toInt ≤ 255 by first | with_reducible assumption | omega), ⟨x7, c8, (show 1 ≤ x7.toInt by first | with_reducible assumption | omega), (show x7.toInt ≤ 400 from tx7)⟩, ⟨f0_0_14, c4, (show 0 ≤ f0_0_14.toInt from r2), (show f0_0_14.toInt ≤ 399 by first | with_reducible assumption | omega)⟩, (by simp only [c4, c18]; omega), (by simp only [cf0_, c4, c18]; omega)⟩)⟩ hw dX12_see_66
      · have c9 : f0_0_14.toInt < x7.toInt := wk_leF c9
        replace hM := hM.neg (Int.not_le.mpr c9)
        refine lv_aload_n hx hb dX12_see_11 rfl (lv_at hl 0 rfl) ?_
        refine tk_getA hC hK hw hT hinX12 kM_at0 (by decide) rfl 0 (by decide) (List.mem_cons_of_mem _ uw_6_14) rfl rfl dX12_see_12 ?_
        refine lv_aload_n hx hb dX12_see_15 rfl (lv_at hl 0 rfl) ?_
        refine tk_geti hC hK hw hT hinX12 kM_at0 (by decide) rfl 14 (by decide) (List.mem_cons_of_mem _ uw_19_18) rfl rfl dX12_see_16 (fun x20 c21 rx20 tx20 => ?_)
        refine wk_top f0_0_14 (c21.symm.trans c4) ?_
        replace hM := hM.rd (sI_at c4)
        refine tk_bald hC hK hw hT kM_at1 rfl rfl (show 0 ≤ f0_0_14.toInt from r2) (show f0_0_14.toInt < 400 by first | with_reducible assumption | omega) dX12_see_19 (fun x22 c23 rx22 tx22 => ?_)
        have hox22 := c23
        replace hM := hM.rd (sI_at hox22)
        have c23 : gi w1 1 (f0_0_14.toInt).toNat = x22 := (congrArg (gi w1 1) (congrArg Int.toNat (show f0_0_14.toInt = f0_0_14.toInt from rfl))).trans c23
        refine lv_bipush (v := 32) hx hb dX12_see_20 (by decide) ?_
        refine lv_icmp_ne (tgt := 38) hx hb dX12_see_22 (by decide) (fun c24 => ?_) (fun c24 => ?_)
        · have c24 : ¬ x22.toInt = (32 : Int) := wk_eqF c24
          replace hM := hM.pos c24
          refine lv_aload_n hx hb dX12_see_38 rfl (lv_at hl 0 rfl) ?_
          refine tk_geti hC hK hw hT hinX12 kM_at0 (by decide) rfl 14 (by decide) (List.mem_cons_of_mem _ uw_19_18) rfl rfl dX12_see_39 (fun x25 c26 rx25 tx25 => ?_)
          refine wk_top f0_0_14 (c26.symm.trans c4) ?_
          replace hM := hM.rd (sI_at c4)
          refine lv_aload_n hx hb dX12_see_42 rfl (lv_at hl 0 rfl) ?_
          refine tk_geti hC hK hw hT hinX12 kM_at0 (by decide) rfl 1 (by decide) (List.mem_cons_of_mem _ uw_8_7) rfl rfl dX12_see_43 (fun x27 c28 rx27 tx27 => ?_)
          refine wk_top x7 (c28.symm.trans c8) ?_
          replace hM := hM.rd (sI_at c8)
          refine lv_icmp_ge (tgt := 65) hx hb dX12_see_46 (by decide) (fun c29 => ?_) (fun c29 => ?_)
          · have c29 : x7.toInt ≤ f0_0_14.toInt := wk_le.mp c29
            replace hM := hM.pos c29
            refine lv_iconst (v := (-1)) hx hb dX12_see_65 (by decide) ?_
            exact tk_iret hC hr hlocks hK ⟨hT, hF, hM.ret (by decide), (Or.inr (Or.inl ⟨rfl, ⟨x7, c8, (show 1 ≤ x7.toInt by first | with_reducible assumption | omega), (show x7.toInt ≤ 399 by first | with_reducible assumption | omega)⟩, ⟨f0_0_14, c4, (show 1 ≤ f0_0_14.toInt by first | with_reducible assumption | omega), (show f0_0_14.toInt ≤ 399 by first | with_reducible assumption | omega)⟩, (by simp only [cf0_, c4, c23]; omega)⟩))⟩ hw dX12_see_66
          · have c29 : f0_0_14.toInt < x7.toInt := wk_leF c29
            replace hM := hM.neg (Int.not_le.mpr c29)
            refine lv_aload_n hx hb dX12_see_49 rfl (lv_at hl 0 rfl) ?_
            refine tk_getA hC hK hw hT hinX12 kM_at0 (by decide) rfl 0 (by decide) (List.mem_cons_of_mem _ uw_6_14) rfl rfl dX12_see_50 ?_
            refine lv_aload_n hx hb dX12_see_53 rfl (lv_at hl 0 rfl) ?_
            refine tk_geti hC hK hw hT hinX12 kM_at0 (by decide) rfl 14 (by decide) (List.mem_cons_of_mem _ uw_19_18) rfl rfl dX12_see_54 (fun x30 c31 rx30 tx30 => ?_)
            refine wk_top f0_0_14 (c31.symm.trans c4) ?_
            replace hM := hM.rd (sI_at c4)
            refine tk_bald hC hK hw hT kM_at1 rfl rfl (show 0 ≤ f0_0_14.toInt from r2) (show f0_0_14.toInt < 400 by first | with_reducible assumption | omega) dX12_see_57 (fun x32 c33 rx32 tx32 => ?_)
            have hox32 := c33
            have c33 : gi w1 1 (f0_0_14.toInt).toNat = x32 := (congrArg (gi w1 1) (congrArg Int.toNat (show f0_0_14.toInt = f0_0_14.toInt from rfl))).trans c33
            refine wk_top x22 (c33.symm.trans c23) ?_
            replace hM := hM.rd ((sI_at hox32).trans (congrArg Int32.toInt (c33.symm.trans c23)))
            refine lv_sipush (v := 255) hx hb dX12_see_58 (by decide) ?_
            refine lv_iand hx hb dX12_see_61 ?_
            refine lv_topi (fun x34 ex34 => ?_)
            have ezx34 := ex34
            have bx34 : 0 ≤ x34.toInt ∧ x34.toInt ≤ (255 : Int) := by rw [ex34]; exact wk_and (by decide)
            replace hM := hM.lt (o32_e (f := fun x y => x &&& y) ezx34 rfl (by decide))
            refine lv_goto (tgt := 66) hx hb dX12_see_62 (by decide) ?_
            exact tk_iret hC hr hlocks hK ⟨hT, hF, hM.ret rfl, (Or.inl ⟨(show 0 ≤ x34.toInt by first | with_reducible assumption | omega), (show x34.toInt ≤ 255 by first | with_reducible assumption | omega), ⟨x7, c8, (show 1 ≤ x7.toInt by first | with_reducible assumption | omega), (show x7.toInt ≤ 400 from tx7)⟩, ⟨f0_0_14, c4, (show 0 ≤ f0_0_14.toInt from r2), (show f0_0_14.toInt ≤ 399 by first | with_reducible assumption | omega)⟩, (by simp only [c4, c23]; omega), (by simp only [cf0_, c4, c23]; omega)⟩)⟩ hw dX12_see_66
        · have c24 : x22.toInt = (32 : Int) := wk_eq.mp c24
          replace hM := hM.neg (fun q => q c24)
          refine lv_aload_n hx hb dX12_see_25 rfl (lv_at hl 0 rfl) ?_
          refine lv_dup hx hb dX12_see_26 rfl ?_
          refine tk_geti hC hK hw hT hinX12 kM_at0 (by decide) rfl 14 (by decide) (List.mem_cons_of_mem _ uw_19_18) rfl rfl dX12_see_27 (fun x35 c36 rx35 tx35 => ?_)
          refine wk_top f0_0_14 (c36.symm.trans c4) ?_
          replace hM := hM.rd (sI_at c4)
          refine lv_iconst (v := 1) hx hb dX12_see_30 (by decide) ?_
          refine lv_iadd hx hb dX12_see_31 ?_
          refine lv_topi (fun x37 ex37 => ?_)
          have ezx37 := ex37
          have ex37 : x37.toInt = f0_0_14.toInt + (1 : Int) := by rw [ex37]; exact wk_add (show (-2147483648) ≤ f0_0_14.toInt + (1 : Int) by omega) (show f0_0_14.toInt + (1 : Int) ≤ 2147483647 by omega)
          replace hM := hM.lt ex37.symm
          refine tk_puti hC hK hw hT hinX12 tyX12_ok nmX12 kM_at0 (by decide) rfl rfl 14 (by decide) (List.mem_cons_of_mem _ uw_19_18) rfl rfl rfl rfl (show 0 ≤ x37.toInt by first | with_reducible assumption | omega) (show x37.toInt ≤ 400 by first | with_reducible assumption | omega) dX12_see_32 (fun H locs w38 hw hT k40 c39 => ?_)
          replace hM := hM.wr (sI_up k40 c39)
          have hF := hF.put kM_at0 (k := 14) (by decide) k40
          have c41 := k40.gi (Or.inr (by decide)) c8
          have c42 := k40.gi (Or.inl (tk_ne kM_at1 kM_at0 (by decide))) c23
          refine lv_goto (tgt := 0) hx hb dX12_see_35 (by decide) ?_
          exact ih0 x37 H locs ls w38 (show 0 ≤ x37.toInt by first | with_reducible assumption | omega) (show x37.toInt ≤ 400 by first | with_reducible assumption | omega) (show (x37.toInt = f0_.toInt ∨ (gi w0 1 (f0_.toInt).toNat).toInt = 32) by first | omega | assumption | (left; omega) | (left; decide) | (right; assumption) | (right; rw [c42]; omega) | (right; rw [c42]; decide) | (right; rcases hcr0_0 with hx1 | hx1 <;> first | exact hx1 | (rw [← hx1]; exact (congrArg Int32.toInt ((hF.gi kM_at1 rfl rfl).symm.trans c42)).trans (by omega)))) (show (400 - x37.toInt).toNat < n0 by first | exact tn_lt hm0 (by omega) (by omega) | omega) hw hT hF c39 hM (lv_sub hl [0] rfl)
  have hM : TT (fun n => m_X12_see n 0 (sI w0)) (fun n => j_X12_see 0 n 0 [] (sI w0)) := TT.rf
  exact L0 ((400 - f0_.toInt).toNat + 1) f0_ s.heap locs ls w0 (show 0 ≤ f0_.toInt from rf0_) (show f0_.toInt ≤ 400 from tf0_) (show (f0_.toInt = f0_.toInt ∨ (gi w0 1 (f0_.toInt).toNat).toInt = 32) by first | omega | assumption | (left; omega) | (left; decide) | (right; assumption)) (Nat.lt_succ_self _) hw hT hF cf0_ hM (lv_sub hl [0] rfl)
