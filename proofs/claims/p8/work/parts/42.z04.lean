abbrev Pz_X11_back_1 (ad : Nat → Nat) (cy : Nat → ClassId) (B : Int) (qr : Nat) (s1 : Int) (a1 : Int32) (w0 : va_W) : Int32 → va_W → Prop := fun r u => TW ksC ad cy B qr s1 u ∧ FE ksC [(5, 8, 8), (5, 9, 9), (5, 10, 10), (5, 11, 11), (5, 12, 12), (5, 13, 13), (7, 8, 8), (7, 9, 9), (7, 10, 10), (7, 11, 11), (9, 0, 0), (9, 1, 1), (9, 2, 2), (9, 3, 3), (9, 4, 4), (9, 5, 5), (9, 6, 6), (9, 7, 7), (9, 8, 8), (24, 0, 100000), (25, 0, 100000), (26, 0, 100000), (27, 0, 100000), (28, 0, 100000), (29, 0, 100000), (30, 0, 100000), (31, 0, 100000), (32, 0, 100000), (34, 0, 100000), (35, 0, 100000), (36, 0, 100000), (37, 0, 100000), (38, 0, 100000), (44, 0, 11)] w0 u ∧ Ev (fun n => m_X11_back n 0 a1.toInt (sI w0)) (r.toInt, sI u) ∧ ((0 ≤ r.toInt ∧ r.toInt ≤ 4 ∧ 0 ≤ a1.toInt ∧ a1.toInt ≤ 3) ∨ (r = (-1)))
set_option maxHeartbeats 4000000 in
set_option maxRecDepth 100000 in
theorem kz_X11_back_1 (l : Launch) (adK adV : Nat → Nat) (dC : Nat → ClassId) (dI : Nat → Nat → Nat) (cy : Nat → ClassId) (ad : Nat → Nat) (B : Int) (hB0 : 2147483648 ≤ B) (hB1 : B ≤ 1152921504606846976) (qr : Nat) (s1 : Int)  (a1 : Int32) (w0 : va_W) (sz : Nat) (hT : TW ksC ad cy B qr s1 w0)  : Met l yX11_back (wu yX11_back cX11_back 2 (some .int)) ({ frames := 4, cells := 0, slots := 0, locals := 124 }) (va_Pc [.ref (ad 0), .int a1] (wpreS adK adV dC dI cy sz w0)) (va_Qi (Pz_X11_back_1 ad cy B qr s1 a1 w0) (fun u : va_W => wpost dC dI cy (va_A w0 sz) u) (va_A w0 sz)) 0 0 (va_A w0 sz) := by
  refine Met.ofW (cc := cX11_back) (maxL := 2) (ret := (some .int)) (by decide) rfl ?_
  intro p e s m args below meth c s₁ Bk hml hv
  obtain ⟨rfl, ⟨hsz, hP, hK, hD0⟩, hE, hSR⟩ := hv
  have hx := Bk.exec
  have hb := Bk.bytes
  have hr := Bk.returns
  have hlocks := Bk.notSynchronized
  have hC : CallFix p m c cX11_back 2 s _ (wu yX11_back cX11_back 2 (some .int)) RX11 := ⟨hx, hb, hml, findClass_of_methodNamed Bk.named, atoms_spec (ws := (wu yX11_back cX11_back 2 (some .int))) Bk.pre⟩
  subst hsz
  have hD := hD0.self (sz := s.heap.size)
  generalize hAe : va_A w0 s.heap.size = A at hD hE ⊢
  have hA : ∀ q : Nat, s.heap.size ≤ q → A q := fun q h => by rw [← hAe]; exact Or.inr h
  have hw : Wd dC dI A s.heap s.heap [] w0 := ⟨hP, hD, va_S.rf⟩
  have hF : FE ksC [(5, 8, 8), (5, 9, 9), (5, 10, 10), (5, 11, 11), (5, 12, 12), (5, 13, 13), (7, 8, 8), (7, 9, 9), (7, 10, 10), (7, 11, 11), (9, 0, 0), (9, 1, 1), (9, 2, 2), (9, 3, 3), (9, 4, 4), (9, 5, 5), (9, 6, 6), (9, 7, 7), (9, 8, 8), (24, 0, 100000), (25, 0, 100000), (26, 0, 100000), (27, 0, 100000), (28, 0, 100000), (29, 0, 100000), (30, 0, 100000), (31, 0, 100000), (32, 0, 100000), (34, 0, 100000), (35, 0, 100000), (36, 0, 100000), (37, 0, 100000), (38, 0, 100000), (44, 0, 11)] w0 w0 := FE.rf
  have hl := lv_entry ([.ref (ad 0), .int a1]) (n := 2) (Nat.le_of_ble_eq_true rfl)
  rw [lg_entry_eq]
  generalize (lg_sl ([.ref (ad 0), .int a1]) ++ List.replicate (2 - (lg_sl ([.ref (ad 0), .int a1])).length) Slot.unset).toArray = ls at hl ⊢
  have hl : lv_has ls 2 [(0, .ref (ad 0)), (1, .int a1)] := hl
  generalize hloc : ([] : List Loc) = locs at hw ⊢
  have hinX11 : ∀ w ∈ u_ws RX11 TX11 13, w ∈ (wu yX11_back cX11_back 2 (some .int)) := fun _ h => List.mem_cons_of_mem _ (up_70 h)
  have hinX5 : ∀ w ∈ u_ws RX5 TX5 14, w ∈ (wu yX11_back cX11_back 2 (some .int)) := fun _ h => List.mem_cons_of_mem _ (up_76 h)
  have J18 : ∀ (H : Heap) (locs : List Loc) (ls : Array Slot) (w1 : va_W), Wd dC dI A s.heap H locs w1 → TW ksC ad cy B qr s1 w1 → FE ksC [(5, 8, 8), (5, 9, 9), (5, 10, 10), (5, 11, 11), (5, 12, 12), (5, 13, 13), (7, 8, 8), (7, 9, 9), (7, 10, 10), (7, 11, 11), (9, 0, 0), (9, 1, 1), (9, 2, 2), (9, 3, 3), (9, 4, 4), (9, 5, 5), (9, 6, 6), (9, 7, 7), (9, 8, 8), (24, 0, 100000), (25, 0, 100000), (26, 0, 100000), (27, 0, 100000), (28, 0, 100000), (29, 0, 100000), (30, 0, 100000), (31, 0, 100000), (32, 0, 100000), (34, 0, 100000), (35, 0, 100000), (36, 0, 100000), (37, 0, 100000), (38, 0, 100000), (44, 0, 11)] w0 w1 → TT (fun n => m_X11_back n 0 a1.toInt (sI w0)) (fun n => b_X11_back_18 n 0 (sI w1)) → lv_has ls 2 [(0, .ref (ad 0)), (1, .int a1)] → W p l e ({ frames := 4, cells := 0, slots := 0, locals := 124 }) s m (List.toArray [.ref (ad 0), .int a1]) below meth c H locs 0 0 (MQ below (va_Qi (Pz_X11_back_1 ad cy B qr s1 a1 w0) (fun u : va_W => wpost dC dI cy A u) A) (List.toArray [.ref (ad 0), .int a1]) s 0 0 A) (F0 m 18 ls []) := by
    intro H locs ls w1 hw hT hF hM hl
    refine lv_iconst (v := (-1)) hx hb dX11_back_18 (by decide) ?_
    exact tk_iret hC hr hlocks hK ⟨hT, hF, hM.ret (by decide), (Or.inr rfl)⟩ hw dX11_back_19
  have hM : TT (fun n => m_X11_back n 0 a1.toInt (sI w0)) (fun n => m_X11_back n 0 a1.toInt (sI w0)) := TT.rf
  refine lv_iload_n hx hb dX11_back_0 rfl (lv_at hl 1 rfl) ?_
  refine lv_if_lt (tgt := 18) hx hb dX11_back_1 (by decide) (fun c2 => ?_) (fun c2 => ?_)
  · have c2 : a1.toInt < (0 : Int) := wk_lt.mp c2
    replace hM := hM.pos c2
    exact J18  s.heap locs ls w0   hw hT hF hM (lv_sub hl [0, 1] rfl)
  · have c2 : (0 : Int) ≤ a1.toInt := wk_ltF c2
    replace hM := hM.neg (Int.not_lt.mpr c2)
    refine lv_iload_n hx hb dX11_back_4 rfl (lv_at hl 1 rfl) ?_
    refine lv_iconst (v := 4) hx hb dX11_back_5 (by decide) ?_
    refine lv_icmp_ge (tgt := 18) hx hb dX11_back_6 (by decide) (fun c3 => ?_) (fun c3 => ?_)
    · have c3 : (4 : Int) ≤ a1.toInt := wk_le.mp c3
      replace hM := hM.pos c3
      exact J18  s.heap locs ls w0   hw hT hF hM (lv_sub hl [0, 1] rfl)
    · have c3 : a1.toInt < (4 : Int) := wk_leF c3
      replace hM := hM.neg (Int.not_le.mpr c3)
      refine lv_aload_n hx hb dX11_back_9 rfl (lv_at hl 0 rfl) ?_
      refine tk_getA hC hK hw hT hinX11 kC_at0 (by decide) rfl 6 (by decide) (List.mem_cons_of_mem _ uw_1_10) rfl rfl dX11_back_10 ?_
      refine lv_iload_n hx hb dX11_back_13 rfl (lv_at hl 1 rfl) ?_
      refine tk_zald hC hK hw hT kC_at144 rfl rfl (show 0 ≤ a1.toInt by omega) (show a1.toInt < 4 by omega) dX11_back_14 (fun x4 c5 rx4 tx4 => ?_)
      have hox4 := c5
      replace hM := hM.rd (sI_at hox4)
      refine lv_if_ne (tgt := 20) hx hb dX11_back_15 (by decide) (fun c6 => ?_) (fun c6 => ?_)
      · have c6 : ¬ x4.toInt = (0 : Int) := wk_eqF c6
        replace hM := hM.pos c6
        refine lv_aload_n hx hb dX11_back_20 rfl (lv_at hl 0 rfl) ?_
        refine tk_getA hC hK hw hT hinX11 kC_at0 (by decide) rfl 4 (by decide) (List.mem_cons_of_mem _ uw_1_7) rfl rfl dX11_back_21 ?_
        refine lv_aload_n hx hb dX11_back_24 rfl (lv_at hl 0 rfl) ?_
        refine tk_getA hC hK hw hT hinX11 kC_at0 (by decide) rfl 5 (by decide) (List.mem_cons_of_mem _ uw_1_8) rfl rfl dX11_back_25 ?_
        refine lv_iload_n hx hb dX11_back_28 rfl (lv_at hl 1 rfl) ?_
        refine tk_aald hC hK hw hT kC_at59 rfl (by decide) rfl (show 0 ≤ a1.toInt by omega) (show a1.toInt < 4 by omega) dX11_back_29 (fun j7 hj7 gj7 => ?_)
        replace hM := hM.ix gj7
        refine tk_Vv hC hK hw hT hA hE hSR kC_at38 (by decide) rfl (kz_X5_copyFrom_2 l adK adV dC dI cy ad B (by omega) (by omega) qr s1   (el 40 59 j7) (kC_el40 kC_at59 hj7) w0 s.heap.size hT ) (cwV 1 hC.2.2.2.2 uV_RX11_310 rfl rfl rfl (by decide +kernel) ⟨Nat.le_of_ble_eq_true rfl, Nat.le_of_ble_eq_true rfl⟩) rfl hl.1 rfl (Nat.le_of_ble_eq_true rfl) dX11_back_30 (fun w10 H locs hp9 hw => ?_)
        obtain ⟨hT, k11, hv13, hg12⟩ := hp9
        have hF := hF.tr k11 (by decide)
        clear hg12
        replace hM := hM.call hv13 rfl
        refine lv_aload_n hx hb dX11_back_33 rfl (lv_at hl 0 rfl) ?_
        refine tk_getA hC hK hw hT hinX11 kC_at0 (by decide) rfl 7 (by decide) (List.mem_cons_of_mem _ uw_1_14) rfl rfl dX11_back_34 ?_
        refine tk_Vv hC hK hw hT hA hE hSR kC_at145 (by decide) rfl (kz_X0_forgetAll_1 l adK adV dC dI cy ad B (by omega) (by omega) qr s1    w10 H.size hT ) (cwV 0 hC.2.2.2.2 uV_RX11_117 rfl rfl rfl (by decide +kernel) ⟨Nat.le_of_ble_eq_true rfl, Nat.le_of_ble_eq_true rfl⟩) rfl hl.1 rfl (Nat.le_of_ble_eq_true rfl) dX11_back_37 (fun w16 H locs hp15 hw => ?_)
        obtain ⟨hT, k17, hv19, hg18⟩ := hp15
        have hF := hF.tr k17 (by decide)
        clear hg18
        replace hM := hM.call hv19 rfl
        refine lv_aload_n hx hb dX11_back_40 rfl (lv_at hl 0 rfl) ?_
        refine tk_getA hC hK hw hT hinX11 kC_at0 (by decide) rfl 4 (by decide) (List.mem_cons_of_mem _ uw_1_7) rfl rfl dX11_back_41 ?_
        refine tk_geti hC hK hw hT hinX5 kC_at38 (by decide) rfl 9 (by decide) (List.mem_cons_of_mem _ uw_38_23) rfl rfl dX11_back_44 (fun x20 c21 rx20 tx20 => ?_)
        replace hM := hM.rd (sI_at c21)
        exact tk_iret hC hr hlocks hK ⟨hT, hF, hM.ret rfl, (Or.inl ⟨(show 0 ≤ x20.toInt from rx20), (show x20.toInt ≤ 4 from tx20), (show 0 ≤ a1.toInt by omega), (show a1.toInt ≤ 3 by omega)⟩)⟩ hw dX11_back_47
      · have c6 : x4.toInt = (0 : Int) := wk_eq.mp c6
        replace hM := hM.neg (fun q => q c6)
        exact J18  s.heap locs ls w0   hw hT hF hM (lv_sub hl [0, 1] rfl)
abbrev Pz_X7_hasStreet_1 (ad : Nat → Nat) (cy : Nat → ClassId) (B : Int) (qr : Nat) (s1 : Int) (a1 : Int32) (w0 : va_W) : Int32 → va_W → Prop := fun r u => TW ksC ad cy B qr s1 u ∧ FE ksC ([] : List (Nat × Nat × Nat)) w0 u ∧ Ev (fun n => m_X7_hasStreet n 39 a1.toInt (sI w0)) (r.toInt, sI u) ∧ ((r = 0) ∨ (r = 1 ∧ 0 ≤ a1.toInt ∧ a1.toInt ≤ 11 ∧ (∃ y : Int32, gi u 39 9 = y ∧ 1 ≤ y.toInt ∧ y.toInt ≤ 12)))
set_option maxHeartbeats 4000000 in
set_option maxRecDepth 100000 in
theorem kz_X7_hasStreet_1 (l : Launch) (adK adV : Nat → Nat) (dC : Nat → ClassId) (dI : Nat → Nat → Nat) (cy : Nat → ClassId) (ad : Nat → Nat) (B : Int) (hB0 : 2147483648 ≤ B) (hB1 : B ≤ 1152921504606846976) (qr : Nat) (s1 : Int)  (a1 : Int32) (w0 : va_W) (sz : Nat) (hT : TW ksC ad cy B qr s1 w0)  : Met l yX7_hasStreet (wu yX7_hasStreet cX7_hasStreet 2 (some .boolean)) ({ frames := 1, cells := 0, slots := 0, locals := 12 }) (va_Pc [.ref (ad 39), .int a1] (wpreS adK adV dC dI cy sz w0)) (va_Qi (Pz_X7_hasStreet_1 ad cy B qr s1 a1 w0) (fun u : va_W => wpost dC dI cy (va_A w0 sz) u) (va_A w0 sz)) 0 0 (va_A w0 sz) := by
  refine Met.ofW (cc := cX7_hasStreet) (maxL := 2) (ret := (some .boolean)) (by decide) rfl ?_
  intro p e s m args below meth c s₁ Bk hml hv
  obtain ⟨rfl, ⟨hsz, hP, hK, hD0⟩, hE, hSR⟩ := hv
  have hx := Bk.exec
  have hb := Bk.bytes
  have hr := Bk.returns
  have hlocks := Bk.notSynchronized
  have hC : CallFix p m c cX7_hasStreet 2 s _ (wu yX7_hasStreet cX7_hasStreet 2 (some .boolean)) RX7 := ⟨hx, hb, hml, findClass_of_methodNamed Bk.named, atoms_spec (ws := (wu yX7_hasStreet cX7_hasStreet 2 (some .boolean))) Bk.pre⟩
  subst hsz
  have hD := hD0.self (sz := s.heap.size)
  generalize hAe : va_A w0 s.heap.size = A at hD hE ⊢
  have hA : ∀ q : Nat, s.heap.size ≤ q → A q := fun q h => by rw [← hAe]; exact Or.inr h
  have hw : Wd dC dI A s.heap s.heap [] w0 := ⟨hP, hD, va_S.rf⟩
  have hF : FE ksC ([] : List (Nat × Nat × Nat)) w0 w0 := FE.rf
  have hl := lv_entry ([.ref (ad 39), .int a1]) (n := 2) (Nat.le_of_ble_eq_true rfl)
  rw [lg_entry_eq]
  generalize (lg_sl ([.ref (ad 39), .int a1]) ++ List.replicate (2 - (lg_sl ([.ref (ad 39), .int a1])).length) Slot.unset).toArray = ls at hl ⊢
  have hl : lv_has ls 2 [(0, .ref (ad 39)), (1, .int a1)] := hl
  generalize hloc : ([] : List Loc) = locs at hw ⊢
  have hinX7 : ∀ w ∈ u_ws RX7 TX7 12, w ∈ (wu yX7_hasStreet cX7_hasStreet 2 (some .boolean)) := fun _ h => List.mem_cons_of_mem _ (up_73 h)
  have J16 : ∀ (H : Heap) (locs : List Loc) (ls : Array Slot) (w1 : va_W), Wd dC dI A s.heap H locs w1 → TW ksC ad cy B qr s1 w1 → FE ksC ([] : List (Nat × Nat × Nat)) w0 w1 → TT (fun n => m_X7_hasStreet n 39 a1.toInt (sI w0)) (fun n => b_X7_hasStreet_16 n 39 (sI w1)) → lv_has ls 2 [(0, .ref (ad 39)), (1, .int a1)] → W p l e ({ frames := 1, cells := 0, slots := 0, locals := 12 }) s m (List.toArray [.ref (ad 39), .int a1]) below meth c H locs 0 0 (MQ below (va_Qi (Pz_X7_hasStreet_1 ad cy B qr s1 a1 w0) (fun u : va_W => wpost dC dI cy A u) A) (List.toArray [.ref (ad 39), .int a1]) s 0 0 A) (F0 m 16 ls []) := by
    intro H locs ls w1 hw hT hF hM hl
    refine lv_iconst (v := 0) hx hb dX7_hasStreet_16 (by decide) ?_
    exact tk_zret hC hr rfl hlocks hK ⟨hT, hF, hM.ret (by decide), (Or.inl rfl)⟩ hw dX7_hasStreet_17
  have hM : TT (fun n => m_X7_hasStreet n 39 a1.toInt (sI w0)) (fun n => m_X7_hasStreet n 39 a1.toInt (sI w0)) := TT.rf
  refine lv_iload_n hx hb dX7_hasStreet_0 rfl (lv_at hl 1 rfl) ?_
  refine lv_if_lt (tgt := 16) hx hb dX7_hasStreet_1 (by decide) (fun c2 => ?_) (fun c2 => ?_)
  · have c2 : a1.toInt < (0 : Int) := wk_lt.mp c2
    replace hM := hM.pos c2
    exact J16  s.heap locs ls w0   hw hT hF hM (lv_sub hl [0, 1] rfl)
  · have c2 : (0 : Int) ≤ a1.toInt := wk_ltF c2
    replace hM := hM.neg (Int.not_lt.mpr c2)
    refine lv_iload_n hx hb dX7_hasStreet_4 rfl (lv_at hl 1 rfl) ?_
    refine lv_aload_n hx hb dX7_hasStreet_5 rfl (lv_at hl 0 rfl) ?_
    refine tk_geti hC hK hw hT hinX7 kC_at39 (by decide) rfl 9 (by decide) (List.mem_cons_of_mem _ uw_9_8) rfl rfl dX7_hasStreet_6 (fun x3 c4 rx3 tx3 => ?_)
    replace hM := hM.rd (sI_at c4)
    refine lv_icmp_ge (tgt := 16) hx hb dX7_hasStreet_9 (by decide) (fun c5 => ?_) (fun c5 => ?_)
    · have c5 : x3.toInt ≤ a1.toInt := wk_le.mp c5
      replace hM := hM.pos c5
      exact J16  s.heap locs ls w0   hw hT hF hM (lv_sub hl [0, 1] rfl)
    · have c5 : a1.toInt < x3.toInt := wk_leF c5
      replace hM := hM.neg (Int.not_le.mpr c5)
      refine lv_iconst (v := 1) hx hb dX7_hasStreet_12 (by decide) ?_
      refine lv_goto (tgt := 17) hx hb dX7_hasStreet_13 (by decide) ?_
      exact tk_zret hC hr rfl hlocks hK ⟨hT, hF, hM.ret (by decide), (Or.inr ⟨rfl, (show 0 ≤ a1.toInt by omega), (show a1.toInt ≤ 11 by omega), ⟨x3, c4, (show 1 ≤ x3.toInt by omega), (show x3.toInt ≤ 12 from tx3)⟩⟩)⟩ hw dX7_hasStreet_17
abbrev Pz_X7_signOn_1 (ad : Nat → Nat) (cy : Nat → ClassId) (B : Int) (qr : Nat) (s1 : Int) (a1 : Int32) (a2 : Int32) (w0 : va_W) : Int32 → va_W → Prop := fun r u => TW ksC ad cy B qr s1 u ∧ FE ksC ([] : List (Nat × Nat × Nat)) w0 u ∧ Ev (fun n => m_X7_signOn n 39 a1.toInt a2.toInt (sI w0)) (r.toInt, sI u) ∧ ((0 ≤ r.toInt ∧ r.toInt ≤ 3))
set_option maxHeartbeats 4000000 in
set_option maxRecDepth 100000 in
theorem kz_X7_signOn_1 (l : Launch) (adK adV : Nat → Nat) (dC : Nat → ClassId) (dI : Nat → Nat → Nat) (cy : Nat → ClassId) (ad : Nat → Nat) (B : Int) (hB0 : 2147483648 ≤ B) (hB1 : B ≤ 1152921504606846976) (qr : Nat) (s1 : Int)  (a1 : Int32) (ra1 : 0 ≤ a1.toInt) (ta1 : a1.toInt ≤ 11) (a2 : Int32) (ra2 : 0 ≤ a2.toInt) (ta2 : a2.toInt ≤ 6) (w0 : va_W) (sz : Nat) (hT : TW ksC ad cy B qr s1 w0)  : Met l yX7_signOn (wu yX7_signOn cX7_signOn 3 (some .int)) ({ frames := 1, cells := 0, slots := 0, locals := 12 }) (va_Pc [.ref (ad 39), .int a1, .int a2] (wpreS adK adV dC dI cy sz w0)) (va_Qi (Pz_X7_signOn_1 ad cy B qr s1 a1 a2 w0) (fun u : va_W => wpost dC dI cy (va_A w0 sz) u) (va_A w0 sz)) 0 0 (va_A w0 sz) := by
  refine Met.ofW (cc := cX7_signOn) (maxL := 3) (ret := (some .int)) (by decide) rfl ?_
  intro p e s m args below meth c s₁ Bk hml hv
  obtain ⟨rfl, ⟨hsz, hP, hK, hD0⟩, hE, hSR⟩ := hv
  have hx := Bk.exec
  have hb := Bk.bytes
  have hr := Bk.returns
  have hlocks := Bk.notSynchronized
  have hC : CallFix p m c cX7_signOn 3 s _ (wu yX7_signOn cX7_signOn 3 (some .int)) RX7 := ⟨hx, hb, hml, findClass_of_methodNamed Bk.named, atoms_spec (ws := (wu yX7_signOn cX7_signOn 3 (some .int))) Bk.pre⟩
  subst hsz
  have hD := hD0.self (sz := s.heap.size)
  generalize hAe : va_A w0 s.heap.size = A at hD hE ⊢
  have hA : ∀ q : Nat, s.heap.size ≤ q → A q := fun q h => by rw [← hAe]; exact Or.inr h
  have hw : Wd dC dI A s.heap s.heap [] w0 := ⟨hP, hD, va_S.rf⟩
  have hF : FE ksC ([] : List (Nat × Nat × Nat)) w0 w0 := FE.rf
  have hl := lv_entry ([.ref (ad 39), .int a1, .int a2]) (n := 3) (Nat.le_of_ble_eq_true rfl)
  rw [lg_entry_eq]
  generalize (lg_sl ([.ref (ad 39), .int a1, .int a2]) ++ List.replicate (3 - (lg_sl ([.ref (ad 39), .int a1, .int a2])).length) Slot.unset).toArray = ls at hl ⊢
  have hl : lv_has ls 3 [(0, .ref (ad 39)), (1, .int a1), (2, .int a2)] := hl
  generalize hloc : ([] : List Loc) = locs at hw ⊢
  have hinX7 : ∀ w ∈ u_ws RX7 TX7 12, w ∈ (wu yX7_signOn cX7_signOn 3 (some .int)) := fun _ h => List.mem_cons_of_mem _ (up_73 h)
  have hM : TT (fun n => m_X7_signOn n 39 a1.toInt a2.toInt (sI w0)) (fun n => m_X7_signOn n 39 a1.toInt a2.toInt (sI w0)) := TT.rf
  refine lv_aload_n hx hb dX7_signOn_0 rfl (lv_at hl 0 rfl) ?_
  refine tk_getO hC hK hw hT hinX7 kC_at39 (by decide) rfl 2 (by decide) (List.mem_cons_of_mem _ uw_2_19) rfl rfl dX7_signOn_1 ?_
  refine lv_bipush (v := 7) hx hb dX7_signOn_4 (by decide) ?_
  refine lv_iload_n hx hb dX7_signOn_6 rfl (lv_at hl 1 rfl) ?_
  refine lv_imul hx hb dX7_signOn_7 ?_
  refine lv_topi (fun x1 ex1 => ?_)
  have ezx1 := ex1
  have ex1 : x1.toInt = (7 : Int) * a1.toInt := by rw [ex1]; exact wk_mul (show (-2147483648) ≤ (7 : Int) * a1.toInt by omega) (show (7 : Int) * a1.toInt ≤ 2147483647 by omega)
  replace hM := hM.lt ex1.symm
  refine lv_iload_n hx hb dX7_signOn_8 rfl (lv_at hl 2 rfl) ?_
  refine lv_iadd hx hb dX7_signOn_9 ?_
  refine lv_topi (fun x2 ex2 => ?_)
  have ezx2 := ex2
  have ex2 : x2.toInt = x1.toInt + a2.toInt := by rw [ex2]; exact wk_add (show (-2147483648) ≤ x1.toInt + a2.toInt by omega) (show x1.toInt + a2.toInt ≤ 2147483647 by omega)
  replace hM := hM.lt ex2.symm
  refine tk_iald hC hK hw hT kC_at42 rfl rfl (show 0 ≤ x2.toInt by omega) (show x2.toInt < 91 by omega) dX7_signOn_10 (fun x3 c4 rx3 tx3 => ?_)
  have hox3 := c4
  replace hM := hM.rd (sI_at hox3)
  exact tk_iret hC hr hlocks hK ⟨hT, hF, hM.ret rfl, ⟨(show 0 ≤ x3.toInt from rx3), (show x3.toInt ≤ 3 from tx3)⟩⟩ hw dX7_signOn_11
abbrev Pz_X11_street_1 (ad : Nat → Nat) (cy : Nat → ClassId) (B : Int) (qr : Nat) (s1 : Int) (a1 : Int32) (a2 : Int32) (w0 : va_W) : Int32 → va_W → Prop := fun r u => TW ksC ad cy B qr s1 u ∧ FE ksC ([] : List (Nat × Nat × Nat)) w0 u ∧ Ev (fun n => m_X11_street n 0 a1.toInt a2.toInt (sI w0)) (r.toInt, sI u) ∧ ((0 ≤ r.toInt ∧ r.toInt ≤ 9 ∧ 0 ≤ a1.toInt ∧ a1.toInt ≤ 11 ∧ 0 ≤ a2.toInt ∧ a2.toInt ≤ 9 ∧ (∃ y : Int32, gi u 39 9 = y ∧ 1 ≤ y.toInt ∧ y.toInt ≤ 12)) ∨ (r = (-1)))
set_option maxHeartbeats 4000000 in
set_option maxRecDepth 100000 in
theorem kz_X11_street_1 (l : Launch) (adK adV : Nat → Nat) (dC : Nat → ClassId) (dI : Nat → Nat → Nat) (cy : Nat → ClassId) (ad : Nat → Nat) (B : Int) (hB0 : 2147483648 ≤ B) (hB1 : B ≤ 1152921504606846976) (qr : Nat) (s1 : Int)  (a1 : Int32) (a2 : Int32) (w0 : va_W) (sz : Nat) (hT : TW ksC ad cy B qr s1 w0)  : Met l yX11_street (wu yX11_street cX11_street 4 (some .int)) ({ frames := 2, cells := 0, slots := 0, locals := 34 }) (va_Pc [.ref (ad 0), .int a1, .int a2] (wpreS adK adV dC dI cy sz w0)) (va_Qi (Pz_X11_street_1 ad cy B qr s1 a1 a2 w0) (fun u : va_W => wpost dC dI cy (va_A w0 sz) u) (va_A w0 sz)) 0 0 (va_A w0 sz) := by
  refine Met.ofW (cc := cX11_street) (maxL := 4) (ret := (some .int)) (by decide) rfl ?_
  intro p e s m args below meth c s₁ Bk hml hv
  obtain ⟨rfl, ⟨hsz, hP, hK, hD0⟩, hE, hSR⟩ := hv
  have hx := Bk.exec
  have hb := Bk.bytes
  have hr := Bk.returns
  have hlocks := Bk.notSynchronized
  have hC : CallFix p m c cX11_street 4 s _ (wu yX11_street cX11_street 4 (some .int)) RX11 := ⟨hx, hb, hml, findClass_of_methodNamed Bk.named, atoms_spec (ws := (wu yX11_street cX11_street 4 (some .int))) Bk.pre⟩
  subst hsz
  have hD := hD0.self (sz := s.heap.size)
  generalize hAe : va_A w0 s.heap.size = A at hD hE ⊢
  have hA : ∀ q : Nat, s.heap.size ≤ q → A q := fun q h => by rw [← hAe]; exact Or.inr h
  have hw : Wd dC dI A s.heap s.heap [] w0 := ⟨hP, hD, va_S.rf⟩
  have hF : FE ksC ([] : List (Nat × Nat × Nat)) w0 w0 := FE.rf
  have hl := lv_entry ([.ref (ad 0), .int a1, .int a2]) (n := 4) (Nat.le_of_ble_eq_true rfl)
  rw [lg_entry_eq]
  generalize (lg_sl ([.ref (ad 0), .int a1, .int a2]) ++ List.replicate (4 - (lg_sl ([.ref (ad 0), .int a1, .int a2])).length) Slot.unset).toArray = ls at hl ⊢
  have hl : lv_has ls 4 [(0, .ref (ad 0)), (1, .int a1), (2, .int a2)] := hl
  generalize hloc : ([] : List Loc) = locs at hw ⊢
  have hinX11 : ∀ w ∈ u_ws RX11 TX11 13, w ∈ (wu yX11_street cX11_street 4 (some .int)) := fun _ h => List.mem_cons_of_mem _ (up_70 h)
  have hinX5 : ∀ w ∈ u_ws RX5 TX5 14, w ∈ (wu yX11_street cX11_street 4 (some .int)) := fun _ h => List.mem_cons_of_mem _ (up_76 h)
  have hinX7 : ∀ w ∈ u_ws RX7 TX7 12, w ∈ (wu yX11_street cX11_street 4 (some .int)) := fun _ h => List.mem_cons_of_mem _ (up_73 h)
  have J26 : ∀ (H : Heap) (locs : List Loc) (ls : Array Slot) (w1 : va_W), Wd dC dI A s.heap H locs w1 → TW ksC ad cy B qr s1 w1 → FE ksC ([] : List (Nat × Nat × Nat)) w0 w1 → TT (fun n => m_X11_street n 0 a1.toInt a2.toInt (sI w0)) (fun n => b_X11_street_26 n 0 (sI w1)) → lv_has ls 4 [(0, .ref (ad 0)), (1, .int a1), (2, .int a2), (3, .ref (ad 39))] → W p l e ({ frames := 2, cells := 0, slots := 0, locals := 34 }) s m (List.toArray [.ref (ad 0), .int a1, .int a2]) below meth c H locs 0 0 (MQ below (va_Qi (Pz_X11_street_1 ad cy B qr s1 a1 a2 w0) (fun u : va_W => wpost dC dI cy A u) A) (List.toArray [.ref (ad 0), .int a1, .int a2]) s 0 0 A) (F0 m 26 ls []) := by
    intro H locs ls w1 hw hT hF hM hl
    refine lv_iconst (v := (-1)) hx hb dX11_street_26 (by decide) ?_
    exact tk_iret hC hr hlocks hK ⟨hT, hF, hM.ret (by decide), (Or.inr rfl)⟩ hw dX11_street_27
  have hM : TT (fun n => m_X11_street n 0 a1.toInt a2.toInt (sI w0)) (fun n => m_X11_street n 0 a1.toInt a2.toInt (sI w0)) := TT.rf
  refine lv_aload_n hx hb dX11_street_0 rfl (lv_at hl 0 rfl) ?_
  refine tk_getA hC hK hw hT hinX11 kC_at0 (by decide) rfl 4 (by decide) (List.mem_cons_of_mem _ uw_1_7) rfl rfl dX11_street_1 ?_
  refine tk_getO hC hK hw hT hinX5 kC_at38 (by decide) rfl 0 (by decide) (List.mem_cons_of_mem _ uw_9_1) rfl rfl dX11_street_4 ?_
  refine lv_astore_n (lv' := [(3, .ref (ad 39)), (0, .ref (ad 0)), (1, .int a1), (2, .int a2)]) hx hb dX11_street_7 rfl hl (by decide) rfl (fun ls hl => ?_)
  refine lv_aload_n hx hb dX11_street_8 rfl (lv_at hl 0 rfl) ?_
  refine lv_iload_n hx hb dX11_street_9 rfl (lv_at hl 2 rfl) ?_
  refine tk_Vi hC hK hw hT hA hE hSR kC_at39 (by decide) rfl (kz_X7_hasStreet_1 l adK adV dC dI cy ad B (by omega) (by omega) qr s1   a1 w0 s.heap.size hT ) (cwV 1 hC.2.2.2.2 uV_RX11_133 rfl rfl rfl (by decide +kernel) ⟨Nat.le_of_ble_eq_true rfl, Nat.le_of_ble_eq_true rfl⟩) rfl hl.1 rfl (Nat.le_of_ble_eq_true rfl) dX11_street_10 (fun r2 w4 H locs hp3 hw => ?_)
  obtain ⟨hT, k5, hv11, hg10⟩ := hp3
  have hF := hF.tr k5 (by decide)
  rcases hg10 with rfl | ⟨rfl, g6, g7, ⟨x8, c9, rx8, tx8⟩⟩
  · replace hM := hM.call (r' := 0) hv11 (by decide)
    refine lv_if_eq (tgt := 26) hx hb dX11_street_13 (by decide) (fun _ => ?_) (fun c => absurd (by decide) c)
    replace hM := hM.pos (by decide)
    exact J26  H locs ls w4   hw hT hF hM (lv_sub hl [1, 2, 3, 0] rfl)
  · replace hM := hM.call (r' := 1) hv11 (by decide)
    refine lv_if_eq (tgt := 26) hx hb dX11_street_13 (by decide) (fun c => absurd c (by decide)) (fun _ => ?_)
    replace hM := hM.neg (by decide)
    refine lv_iload_n hx hb dX11_street_16 rfl (lv_at hl 3 rfl) ?_
    refine lv_if_lt (tgt := 26) hx hb dX11_street_17 (by decide) (fun c12 => ?_) (fun c12 => ?_)
    · have c12 : a2.toInt < (0 : Int) := wk_lt.mp c12
      replace hM := hM.pos c12
      exact J26  H locs ls w4   hw hT hF hM (lv_sub hl [1, 2, 3, 0] rfl)
    · have c12 : (0 : Int) ≤ a2.toInt := wk_ltF c12
      replace hM := hM.neg (Int.not_lt.mpr c12)
      refine lv_iload_n hx hb dX11_street_20 rfl (lv_at hl 3 rfl) ?_
      refine lv_bipush (v := 9) hx hb dX11_street_21 (by decide) ?_
      refine lv_icmp_le (tgt := 28) hx hb dX11_street_23 (by decide) (fun c13 => ?_) (fun c13 => ?_)
      · have c13 : a2.toInt ≤ (9 : Int) := wk_le.mp c13
        replace hM := hM.pos c13
        refine lv_iload_n hx hb dX11_street_28 rfl (lv_at hl 3 rfl) ?_
        refine lv_iconst (v := 2) hx hb dX11_street_29 (by decide) ?_
        refine lv_icmp_ge (tgt := 44) hx hb dX11_street_30 (by decide) (fun c14 => ?_) (fun c14 => ?_)
        · have c14 : (2 : Int) ≤ a2.toInt := wk_le.mp c14
          replace hM := hM.pos c14
          refine lv_iload_n hx hb dX11_street_44 rfl (lv_at hl 3 rfl) ?_
          refine lv_iconst (v := 2) hx hb dX11_street_45 (by decide) ?_
          refine lv_icmp_ne (tgt := 58) hx hb dX11_street_46 (by decide) (fun c15 => ?_) (fun c15 => ?_)
          · have c15 : ¬ a2.toInt = (2 : Int) := wk_eqF c15
            replace hM := hM.pos c15
            refine lv_aload_n hx hb dX11_street_58 rfl (lv_at hl 0 rfl) ?_
            refine lv_iload_n hx hb dX11_street_59 rfl (lv_at hl 2 rfl) ?_
            refine lv_iload_n hx hb dX11_street_60 rfl (lv_at hl 3 rfl) ?_
            refine lv_iconst (v := 3) hx hb dX11_street_61 (by decide) ?_
            refine lv_isub hx hb dX11_street_62 ?_
            refine lv_topi (fun x16 ex16 => ?_)
            have ezx16 := ex16
            have ex16 : x16.toInt = a2.toInt - (3 : Int) := by rw [ex16]; exact wk_sub (show (-2147483648) ≤ a2.toInt - (3 : Int) by omega) (show a2.toInt - (3 : Int) ≤ 2147483647 by omega)
            replace hM := hM.lt ex16.symm
            refine tk_Vi hC hK hw hT hA hE hSR kC_at39 (by decide) rfl (kz_X7_signOn_1 l adK adV dC dI cy ad B (by omega) (by omega) qr s1   a1 (show 0 ≤ a1.toInt by omega) (show a1.toInt ≤ 11 by omega) x16 (show 0 ≤ x16.toInt by omega) (show x16.toInt ≤ 6 by omega) w4 H.size hT ) (cwV 2 hC.2.2.2.2 uV_RX11_144 rfl rfl rfl (by decide +kernel) ⟨Nat.le_of_ble_eq_true rfl, Nat.le_of_ble_eq_true rfl⟩) rfl hl.1 rfl (Nat.le_of_ble_eq_true rfl) dX11_street_63 (fun r17 w19 H locs hp18 hw => ?_)
            obtain ⟨hT, k20, hv24, hg23⟩ := hp18
            have hF := hF.tr k20 (by decide)
            have c25 := k20.gi kC_at39 (by decide) c9
            obtain ⟨g21, g22⟩ := hg23
            replace hM := hM.call hv24 rfl
            exact tk_iret hC hr hlocks hK ⟨hT, hF, hM.ret rfl, (Or.inl ⟨(show 0 ≤ r17.toInt by omega), (show r17.toInt ≤ 9 by omega), (show 0 ≤ a1.toInt by omega), (show a1.toInt ≤ 11 by omega), (show 0 ≤ a2.toInt by omega), (show a2.toInt ≤ 9 by omega), ⟨x8, c25, (show 1 ≤ x8.toInt by omega), (show x8.toInt ≤ 12 by omega)⟩⟩)⟩ hw dX11_street_66
          · have c15 : a2.toInt = (2 : Int) := wk_eq.mp c15
            replace hM := hM.neg (fun q => q c15)
            refine lv_aload_n hx hb dX11_street_49 rfl (lv_at hl 0 rfl) ?_
            refine tk_getO hC hK hw hT hinX7 kC_at39 (by decide) rfl 1 (by decide) (List.mem_cons_of_mem _ uw_30_3) rfl rfl dX11_street_50 ?_
            refine lv_iload_n hx hb dX11_street_53 rfl (lv_at hl 2 rfl) ?_
            refine tk_iald hC hK hw hT kC_at41 rfl rfl (show 0 ≤ a1.toInt by omega) (show a1.toInt < 13 by omega) dX11_street_54 (fun x26 c27 rx26 tx26 => ?_)
            have hox26 := c27
            replace hM := hM.rd (sI_at hox26)
            refine lv_goto (tgt := 66) hx hb dX11_street_55 (by decide) ?_
            exact tk_iret hC hr hlocks hK ⟨hT, hF, hM.ret rfl, (Or.inl ⟨(show 0 ≤ x26.toInt from rx26), (show x26.toInt ≤ 9 from tx26), (show 0 ≤ a1.toInt by omega), (show a1.toInt ≤ 11 by omega), (show 0 ≤ a2.toInt by omega), (show a2.toInt ≤ 9 by omega), ⟨x8, c9, (show 1 ≤ x8.toInt by omega), (show x8.toInt ≤ 12 by omega)⟩⟩)⟩ hw dX11_street_66
        · have c14 : a2.toInt < (2 : Int) := wk_leF c14
          replace hM := hM.neg (Int.not_le.mpr c14)
          refine lv_aload_n hx hb dX11_street_33 rfl (lv_at hl 0 rfl) ?_
          refine tk_getO hC hK hw hT hinX7 kC_at39 (by decide) rfl 0 (by decide) (List.mem_cons_of_mem _ uw_30_2) rfl rfl dX11_street_34 ?_
          refine lv_iconst (v := 2) hx hb dX11_street_37 (by decide) ?_
          refine lv_iload_n hx hb dX11_street_38 rfl (lv_at hl 2 rfl) ?_
          refine lv_imul hx hb dX11_street_39 ?_
          refine lv_topi (fun x28 ex28 => ?_)
          have ezx28 := ex28
          have ex28 : x28.toInt = (2 : Int) * a1.toInt := by rw [ex28]; exact wk_mul (show (-2147483648) ≤ (2 : Int) * a1.toInt by omega) (show (2 : Int) * a1.toInt ≤ 2147483647 by omega)
          replace hM := hM.lt ex28.symm
          refine lv_iload_n hx hb dX11_street_40 rfl (lv_at hl 3 rfl) ?_
          refine lv_iadd hx hb dX11_street_41 ?_
          refine lv_topi (fun x29 ex29 => ?_)
          have ezx29 := ex29
          have ex29 : x29.toInt = x28.toInt + a2.toInt := by rw [ex29]; exact wk_add (show (-2147483648) ≤ x28.toInt + a2.toInt by omega) (show x28.toInt + a2.toInt ≤ 2147483647 by omega)
          replace hM := hM.lt ex29.symm
          refine tk_iald hC hK hw hT kC_at40 rfl rfl (show 0 ≤ x29.toInt by omega) (show x29.toInt < 26 by omega) dX11_street_42 (fun x30 c31 rx30 tx30 => ?_)
          have hox30 := c31
          replace hM := hM.rd (sI_at hox30)
          have c31 : gi w4 40 (1 * x29.toInt + 0).toNat = x30 := (congrArg (gi w4 40) (congrArg Int.toNat (show 1 * x29.toInt + 0 = x29.toInt by omega))).trans c31
          exact tk_iret hC hr hlocks hK ⟨hT, hF, hM.ret rfl, (Or.inl ⟨(show 0 ≤ x30.toInt from rx30), (show x30.toInt ≤ 9 from tx30), (show 0 ≤ a1.toInt by omega), (show a1.toInt ≤ 11 by omega), (show 0 ≤ a2.toInt by omega), (show a2.toInt ≤ 9 by omega), ⟨x8, c9, (show 1 ≤ x8.toInt by omega), (show x8.toInt ≤ 12 by omega)⟩⟩)⟩ hw dX11_street_43
      · have c13 : (9 : Int) < a2.toInt := wk_leF c13
        replace hM := hM.neg (Int.not_le.mpr c13)
        exact J26  H locs ls w4   hw hT hF hM (lv_sub hl [1, 2, 3, 0] rfl)
abbrev Pz_X0_forget_1 (ad : Nat → Nat) (cy : Nat → ClassId) (B : Int) (qr : Nat) (s1 : Int) (a1 : Int32) (w0 : va_W) : va_W → Prop := fun u => TW ksC ad cy B qr s1 u ∧ FE ksC [(44, 0, 11)] w0 u ∧ Ev (fun n => m_X0_forget n 145 a1.toInt (sI w0)) (0, sI u) ∧ ((True))
set_option maxHeartbeats 4000000 in
set_option maxRecDepth 100000 in
theorem kz_X0_forget_1 (l : Launch) (adK adV : Nat → Nat) (dC : Nat → ClassId) (dI : Nat → Nat → Nat) (cy : Nat → ClassId) (ad : Nat → Nat) (B : Int) (hB0 : 2147483648 ≤ B) (hB1 : B ≤ 1152921504606846976) (qr : Nat) (s1 : Int)  (a1 : Int32) (ra1 : 0 ≤ a1.toInt) (ta1 : a1.toInt ≤ 3) (w0 : va_W) (sz : Nat) (hT : TW ksC ad cy B qr s1 w0)  : Met l yX0_forget (wu yX0_forget cX0_forget 2 none) ({ frames := 1, cells := 0, slots := 0, locals := 12 }) (va_Pc [.ref (ad 145), .int a1] (wpreS adK adV dC dI cy sz w0)) (va_Qv (Pz_X0_forget_1 ad cy B qr s1 a1 w0) (fun u : va_W => wpost dC dI cy (va_A w0 sz) u) (va_A w0 sz)) 0 0 (va_A w0 sz) := by
  refine Met.ofW (cc := cX0_forget) (maxL := 2) (ret := none) (by decide) rfl ?_
  intro p e s m args below meth c s₁ Bk hml hv
  obtain ⟨rfl, ⟨hsz, hP, hK, hD0⟩, hE, hSR⟩ := hv
  have hx := Bk.exec
  have hb := Bk.bytes
  have hr := Bk.returns
  have hlocks := Bk.notSynchronized
  have hC : CallFix p m c cX0_forget 2 s _ (wu yX0_forget cX0_forget 2 none) RX0 := ⟨hx, hb, hml, findClass_of_methodNamed Bk.named, atoms_spec (ws := (wu yX0_forget cX0_forget 2 none)) Bk.pre⟩
  subst hsz
  have hD := hD0.self (sz := s.heap.size)
  generalize hAe : va_A w0 s.heap.size = A at hD hE ⊢
  have hA : ∀ q : Nat, s.heap.size ≤ q → A q := fun q h => by rw [← hAe]; exact Or.inr h
  have hw : Wd dC dI A s.heap s.heap [] w0 := ⟨hP, hD, va_S.rf⟩
  have hF : FE ksC [(44, 0, 11)] w0 w0 := FE.rf
  have hl := lv_entry ([.ref (ad 145), .int a1]) (n := 2) (Nat.le_of_ble_eq_true rfl)
  rw [lg_entry_eq]
  generalize (lg_sl ([.ref (ad 145), .int a1]) ++ List.replicate (2 - (lg_sl ([.ref (ad 145), .int a1])).length) Slot.unset).toArray = ls at hl ⊢
  have hl : lv_has ls 2 [(0, .ref (ad 145)), (1, .int a1)] := hl
  generalize hloc : ([] : List Loc) = locs at hw ⊢
  have hinX0 : ∀ w ∈ u_ws RX0 TX0 4, w ∈ (wu yX0_forget cX0_forget 2 none) := fun _ h => List.mem_cons_of_mem _ (up_77 h)
  have hM : TT (fun n => m_X0_forget n 145 a1.toInt (sI w0)) (fun n => m_X0_forget n 145 a1.toInt (sI w0)) := TT.rf
  refine lv_aload_n hx hb dX0_forget_0 rfl (lv_at hl 0 rfl) ?_
  refine tk_getA hC hK hw hT hinX0 kC_at145 (by decide) rfl 3 (by decide) (List.mem_cons_of_mem _ uw_4_16) rfl rfl dX0_forget_1 ?_
  refine lv_iload_n hx hb dX0_forget_4 rfl (lv_at hl 1 rfl) ?_
  refine lv_iconst (v := 0) hx hb dX0_forget_5 (by decide) ?_
  refine tk_zast hC hK hw hT kC_at148 (by decide) rfl rfl (show 0 ≤ a1.toInt from ra1) (show a1.toInt < 11 from Int.lt_of_le_of_lt ta1 (by decide)) (by decide) (by decide) dX0_forget_6 (fun H locs w1 hw hT k3 c2 => ?_)
  replace hM := hM.wr (sI_upc k3 c2 (by decide))
  have hF := hF.put kC_at148 (inE_of (a := 0) (b := 11) (by decide) (show 0 ≤ a1.toInt.toNat by omega) (show a1.toInt.toNat ≤ 11 by omega)) k3
  exact tk_vret hC hr hlocks hK ⟨hT, hF, hM.ret rfl, trivial⟩ hw dX0_forget_7
abbrev Pz_X11_isWeekday_1 (ad : Nat → Nat) (cy : Nat → ClassId) (B : Int) (qr : Nat) (s1 : Int) (a0 : Int32) (w0 : va_W) : Int32 → va_W → Prop := fun r u => TW ksC ad cy B qr s1 u ∧ FE ksC ([] : List (Nat × Nat × Nat)) w0 u ∧ Ev (fun n => m_X11_isWeekday n a0.toInt (sI w0)) (r.toInt, sI u) ∧ ((r = 0) ∨ (r = 1 ∧ 0 ≤ a0.toInt ∧ a0.toInt ≤ 6))
set_option maxHeartbeats 4000000 in
set_option maxRecDepth 100000 in
theorem kz_X11_isWeekday_1 (l : Launch) (adK adV : Nat → Nat) (dC : Nat → ClassId) (dI : Nat → Nat → Nat) (cy : Nat → ClassId) (ad : Nat → Nat) (B : Int) (hB0 : 2147483648 ≤ B) (hB1 : B ≤ 1152921504606846976) (qr : Nat) (s1 : Int)  (a0 : Int32) (w0 : va_W) (sz : Nat) (hT : TW ksC ad cy B qr s1 w0)  : Met l yX11_isWeekday (wu yX11_isWeekday cX11_isWeekday 1 (some .boolean)) ({ frames := 1, cells := 0, slots := 0, locals := 12 }) (va_Pc [.int a0] (wpreS adK adV dC dI cy sz w0)) (va_Qi (Pz_X11_isWeekday_1 ad cy B qr s1 a0 w0) (fun u : va_W => wpost dC dI cy (va_A w0 sz) u) (va_A w0 sz)) 0 0 (va_A w0 sz) := by
  refine Met.ofW (cc := cX11_isWeekday) (maxL := 1) (ret := (some .boolean)) (by decide) rfl ?_
  intro p e s m args below meth c s₁ Bk hml hv
  obtain ⟨rfl, ⟨hsz, hP, hK, hD0⟩, hE, hSR⟩ := hv
  have hx := Bk.exec
  have hb := Bk.bytes
  have hr := Bk.returns
  have hlocks := Bk.notSynchronized
  have hC : CallFix p m c cX11_isWeekday 1 s _ (wu yX11_isWeekday cX11_isWeekday 1 (some .boolean)) RX11 := ⟨hx, hb, hml, findClass_of_methodNamed Bk.named, atoms_spec (ws := (wu yX11_isWeekday cX11_isWeekday 1 (some .boolean))) Bk.pre⟩
  subst hsz
  have hD := hD0.self (sz := s.heap.size)
  generalize hAe : va_A w0 s.heap.size = A at hD hE ⊢
  have hA : ∀ q : Nat, s.heap.size ≤ q → A q := fun q h => by rw [← hAe]; exact Or.inr h
  have hw : Wd dC dI A s.heap s.heap [] w0 := ⟨hP, hD, va_S.rf⟩
  have hF : FE ksC ([] : List (Nat × Nat × Nat)) w0 w0 := FE.rf
  have hl := lv_entry ([.int a0]) (n := 1) (Nat.le_of_ble_eq_true rfl)
  rw [lg_entry_eq]
  generalize (lg_sl ([.int a0]) ++ List.replicate (1 - (lg_sl ([.int a0])).length) Slot.unset).toArray = ls at hl ⊢
  have hl : lv_has ls 1 [(0, .int a0)] := hl
  generalize hloc : ([] : List Loc) = locs at hw ⊢
  have J14 : ∀ (H : Heap) (locs : List Loc) (ls : Array Slot) (w1 : va_W), Wd dC dI A s.heap H locs w1 → TW ksC ad cy B qr s1 w1 → FE ksC ([] : List (Nat × Nat × Nat)) w0 w1 → TT (fun n => m_X11_isWeekday n a0.toInt (sI w0)) (fun n => b_X11_isWeekday_14 n (sI w1)) → lv_has ls 1 [(0, .int a0)] → W p l e ({ frames := 1, cells := 0, slots := 0, locals := 12 }) s m (List.toArray [.int a0]) below meth c H locs 0 0 (MQ below (va_Qi (Pz_X11_isWeekday_1 ad cy B qr s1 a0 w0) (fun u : va_W => wpost dC dI cy A u) A) (List.toArray [.int a0]) s 0 0 A) (F0 m 14 ls []) := by
    intro H locs ls w1 hw hT hF hM hl
    refine lv_iconst (v := 0) hx hb dX11_isWeekday_14 (by decide) ?_
    exact tk_zret hC hr rfl hlocks hK ⟨hT, hF, hM.ret (by decide), (Or.inl rfl)⟩ hw dX11_isWeekday_15
  have hM : TT (fun n => m_X11_isWeekday n a0.toInt (sI w0)) (fun n => m_X11_isWeekday n a0.toInt (sI w0)) := TT.rf
  refine lv_iload_n hx hb dX11_isWeekday_0 rfl (lv_at hl 0 rfl) ?_
  refine lv_if_lt (tgt := 14) hx hb dX11_isWeekday_1 (by decide) (fun c2 => ?_) (fun c2 => ?_)
  · have c2 : a0.toInt < (0 : Int) := wk_lt.mp c2
    replace hM := hM.pos c2
    exact J14  s.heap locs ls w0   hw hT hF hM (lv_sub hl [0] rfl)
  · have c2 : (0 : Int) ≤ a0.toInt := wk_ltF c2
    replace hM := hM.neg (Int.not_lt.mpr c2)
    refine lv_iload_n hx hb dX11_isWeekday_4 rfl (lv_at hl 0 rfl) ?_
    refine lv_bipush (v := 7) hx hb dX11_isWeekday_5 (by decide) ?_
    refine lv_icmp_ge (tgt := 14) hx hb dX11_isWeekday_7 (by decide) (fun c3 => ?_) (fun c3 => ?_)
    · have c3 : (7 : Int) ≤ a0.toInt := wk_le.mp c3
      replace hM := hM.pos c3
      exact J14  s.heap locs ls w0   hw hT hF hM (lv_sub hl [0] rfl)
    · have c3 : a0.toInt < (7 : Int) := wk_leF c3
      replace hM := hM.neg (Int.not_le.mpr c3)
      refine lv_iconst (v := 1) hx hb dX11_isWeekday_10 (by decide) ?_
      refine lv_goto (tgt := 15) hx hb dX11_isWeekday_11 (by decide) ?_
      exact tk_zret hC hr rfl hlocks hK ⟨hT, hF, hM.ret (by decide), (Or.inr ⟨rfl, (show 0 ≤ a0.toInt by omega), (show a0.toInt ≤ 6 by omega)⟩)⟩ hw dX11_isWeekday_15
abbrev Pz_X5_hasTown_1 (ad : Nat → Nat) (cy : Nat → ClassId) (B : Int) (qr : Nat) (s1 : Int)  (w0 : va_W) : Int32 → va_W → Prop := fun r u => TW ksC ad cy B qr s1 u ∧ FE ksC ([] : List (Nat × Nat × Nat)) w0 u ∧ Ev (fun n => m_X5_hasTown n 38 (sI w0)) (r.toInt, sI u) ∧ ((r = 0 ∧ (∃ y : Int32, gi u 39 8 = y ∧ (-1) ≤ y.toInt ∧ y.toInt ≤ 0)) ∨ (r = 1 ∧ (∃ y : Int32, gi u 39 8 = y ∧ 1 ≤ y.toInt ∧ y.toInt ≤ 10)))
set_option maxHeartbeats 4000000 in
set_option maxRecDepth 100000 in
theorem kz_X5_hasTown_1 (l : Launch) (adK adV : Nat → Nat) (dC : Nat → ClassId) (dI : Nat → Nat → Nat) (cy : Nat → ClassId) (ad : Nat → Nat) (B : Int) (hB0 : 2147483648 ≤ B) (hB1 : B ≤ 1152921504606846976) (qr : Nat) (s1 : Int)   (w0 : va_W) (sz : Nat) (hT : TW ksC ad cy B qr s1 w0)  : Met l yX5_hasTown (wu yX5_hasTown cX5_hasTown 1 (some .boolean)) ({ frames := 1, cells := 0, slots := 0, locals := 12 }) (va_Pc [.ref (ad 38)] (wpreS adK adV dC dI cy sz w0)) (va_Qi (Pz_X5_hasTown_1 ad cy B qr s1  w0) (fun u : va_W => wpost dC dI cy (va_A w0 sz) u) (va_A w0 sz)) 0 0 (va_A w0 sz) := by
  refine Met.ofW (cc := cX5_hasTown) (maxL := 1) (ret := (some .boolean)) (by decide) rfl ?_
  intro p e s m args below meth c s₁ Bk hml hv
  obtain ⟨rfl, ⟨hsz, hP, hK, hD0⟩, hE, hSR⟩ := hv
  have hx := Bk.exec
  have hb := Bk.bytes
  have hr := Bk.returns
  have hlocks := Bk.notSynchronized
  have hC : CallFix p m c cX5_hasTown 1 s _ (wu yX5_hasTown cX5_hasTown 1 (some .boolean)) RX5 := ⟨hx, hb, hml, findClass_of_methodNamed Bk.named, atoms_spec (ws := (wu yX5_hasTown cX5_hasTown 1 (some .boolean))) Bk.pre⟩
  subst hsz
  have hD := hD0.self (sz := s.heap.size)
  generalize hAe : va_A w0 s.heap.size = A at hD hE ⊢
  have hA : ∀ q : Nat, s.heap.size ≤ q → A q := fun q h => by rw [← hAe]; exact Or.inr h
  have hw : Wd dC dI A s.heap s.heap [] w0 := ⟨hP, hD, va_S.rf⟩
  have hF : FE ksC ([] : List (Nat × Nat × Nat)) w0 w0 := FE.rf
  have hl := lv_entry ([.ref (ad 38)]) (n := 1) (Nat.le_of_ble_eq_true rfl)
  rw [lg_entry_eq]
  generalize (lg_sl ([.ref (ad 38)]) ++ List.replicate (1 - (lg_sl ([.ref (ad 38)])).length) Slot.unset).toArray = ls at hl ⊢
  have hl : lv_has ls 1 [(0, .ref (ad 38))] := hl
  generalize hloc : ([] : List Loc) = locs at hw ⊢
  have hinX5 : ∀ w ∈ u_ws RX5 TX5 14, w ∈ (wu yX5_hasTown cX5_hasTown 1 (some .boolean)) := fun _ h => List.mem_cons_of_mem _ (up_76 h)
  have hinX7 : ∀ w ∈ u_ws RX7 TX7 12, w ∈ (wu yX5_hasTown cX5_hasTown 1 (some .boolean)) := fun _ h => List.mem_cons_of_mem _ (up_73 h)
  have hM : TT (fun n => m_X5_hasTown n 38 (sI w0)) (fun n => m_X5_hasTown n 38 (sI w0)) := TT.rf
  refine lv_aload_n hx hb dX5_hasTown_0 rfl (lv_at hl 0 rfl) ?_
  refine tk_getO hC hK hw hT hinX5 kC_at38 (by decide) rfl 0 (by decide) (List.mem_cons_of_mem _ uw_3_18) rfl rfl dX5_hasTown_1 ?_
  refine tk_geti hC hK hw hT hinX7 kC_at39 (by decide) rfl 8 (by decide) (List.mem_cons_of_mem _ uw_33_21) rfl rfl dX5_hasTown_4 (fun x1 c2 rx1 tx1 => ?_)
  replace hM := hM.rd (sI_at c2)
  refine lv_if_le (tgt := 14) hx hb dX5_hasTown_7 (by decide) (fun c3 => ?_) (fun c3 => ?_)
  · have c3 : x1.toInt ≤ (0 : Int) := wk_le.mp c3
    replace hM := hM.pos c3
    refine lv_iconst (v := 0) hx hb dX5_hasTown_14 (by decide) ?_
    exact tk_zret hC hr rfl hlocks hK ⟨hT, hF, hM.ret (by decide), (Or.inl ⟨rfl, ⟨x1, c2, (show (-1) ≤ x1.toInt from rx1), (show x1.toInt ≤ 0 by omega)⟩⟩)⟩ hw dX5_hasTown_15
  · have c3 : (0 : Int) < x1.toInt := wk_leF c3
    replace hM := hM.neg (Int.not_le.mpr c3)
    refine lv_iconst (v := 1) hx hb dX5_hasTown_10 (by decide) ?_
    refine lv_goto (tgt := 15) hx hb dX5_hasTown_11 (by decide) ?_
    exact tk_zret hC hr rfl hlocks hK ⟨hT, hF, hM.ret (by decide), (Or.inr ⟨rfl, ⟨x1, c2, (show 1 ≤ x1.toInt by omega), (show x1.toInt ≤ 10 from tx1)⟩⟩)⟩ hw dX5_hasTown_15
abbrev Pz_X11_print_1 (ad : Nat → Nat) (cy : Nat → ClassId) (B : Int) (qr : Nat) (s1 : Int) (a1 : Int32) (w0 : va_W) : Int32 → va_W → Prop := fun r u => TW ksC ad cy B qr s1 u ∧ FE ksC [(5, 8, 8), (32, 0, 48), (44, 0, 11)] w0 u ∧ Ev (fun n => m_X11_print n 0 a1.toInt (sI w0)) (r.toInt, sI u) ∧ ((r = (-2)) ∨ (0 ≤ r.toInt ∧ r.toInt ≤ 3 ∧ 0 ≤ a1.toInt ∧ a1.toInt ≤ 6 ∧ (∃ y : Int32, gi u 38 8 = y ∧ 1 ≤ y.toInt ∧ y.toInt ≤ 4) ∧ (∃ y : Int32, gi u 39 8 = y ∧ 1 ≤ y.toInt ∧ y.toInt ≤ 10)))
set_option maxHeartbeats 4000000 in
set_option maxRecDepth 100000 in
theorem kz_X11_print_1 (l : Launch) (adK adV : Nat → Nat) (dC : Nat → ClassId) (dI : Nat → Nat → Nat) (cy : Nat → ClassId) (ad : Nat → Nat) (B : Int) (hB0 : 2147483648 ≤ B) (hB1 : B ≤ 1152921504606846976) (qr : Nat) (s1 : Int)  (a1 : Int32) (w0 : va_W) (sz : Nat) (hT : TW ksC ad cy B qr s1 w0)  : Met l yX11_print (wu yX11_print cX11_print 4 (some .int)) ({ frames := 2, cells := 0, slots := 0, locals := 34 }) (va_Pc [.ref (ad 0), .int a1] (wpreS adK adV dC dI cy sz w0)) (va_Qi (Pz_X11_print_1 ad cy B qr s1 a1 w0) (fun u : va_W => wpost dC dI cy (va_A w0 sz) u) (va_A w0 sz)) 0 0 (va_A w0 sz) := by
  refine Met.ofW (cc := cX11_print) (maxL := 4) (ret := (some .int)) (by decide) rfl ?_
  intro p e s m args below meth c s₁ Bk hml hv
  obtain ⟨rfl, ⟨hsz, hP, hK, hD0⟩, hE, hSR⟩ := hv
  have hx := Bk.exec
  have hb := Bk.bytes
  have hr := Bk.returns
  have hlocks := Bk.notSynchronized
  have hC : CallFix p m c cX11_print 4 s _ (wu yX11_print cX11_print 4 (some .int)) RX11 := ⟨hx, hb, hml, findClass_of_methodNamed Bk.named, atoms_spec (ws := (wu yX11_print cX11_print 4 (some .int))) Bk.pre⟩
  subst hsz
  have hD := hD0.self (sz := s.heap.size)
  generalize hAe : va_A w0 s.heap.size = A at hD hE ⊢
  have hA : ∀ q : Nat, s.heap.size ≤ q → A q := fun q h => by rw [← hAe]; exact Or.inr h
  have hw : Wd dC dI A s.heap s.heap [] w0 := ⟨hP, hD, va_S.rf⟩
  have hF : FE ksC [(5, 8, 8), (32, 0, 48), (44, 0, 11)] w0 w0 := FE.rf
  have hl := lv_entry ([.ref (ad 0), .int a1]) (n := 4) (Nat.le_of_ble_eq_true rfl)
  rw [lg_entry_eq]
  generalize (lg_sl ([.ref (ad 0), .int a1]) ++ List.replicate (4 - (lg_sl ([.ref (ad 0), .int a1])).length) Slot.unset).toArray = ls at hl ⊢
  have hl : lv_has ls 4 [(0, .ref (ad 0)), (1, .int a1)] := hl
  generalize hloc : ([] : List Loc) = locs at hw ⊢
  have hinX11 : ∀ w ∈ u_ws RX11 TX11 13, w ∈ (wu yX11_print cX11_print 4 (some .int)) := fun _ h => List.mem_cons_of_mem _ (up_70 h)
  have hinX5 : ∀ w ∈ u_ws RX5 TX5 14, w ∈ (wu yX11_print cX11_print 4 (some .int)) := fun _ h => List.mem_cons_of_mem _ (up_76 h)
  have hinX7 : ∀ w ∈ u_ws RX7 TX7 12, w ∈ (wu yX11_print cX11_print 4 (some .int)) := fun _ h => List.mem_cons_of_mem _ (up_73 h)
  have J28 : ∀ (H : Heap) (locs : List Loc) (ls : Array Slot) (w1 : va_W), Wd dC dI A s.heap H locs w1 → TW ksC ad cy B qr s1 w1 → FE ksC [(5, 8, 8), (32, 0, 48), (44, 0, 11)] w0 w1 → TT (fun n => m_X11_print n 0 a1.toInt (sI w0)) (fun n => b_X11_print_28 (j_X11_print 0 n) n 0 (sI w1)) → lv_has ls 4 [(0, .ref (ad 0)), (1, .int a1)] → W p l e ({ frames := 2, cells := 0, slots := 0, locals := 34 }) s m (List.toArray [.ref (ad 0), .int a1]) below meth c H locs 0 0 (MQ below (va_Qi (Pz_X11_print_1 ad cy B qr s1 a1 w0) (fun u : va_W => wpost dC dI cy A u) A) (List.toArray [.ref (ad 0), .int a1]) s 0 0 A) (F0 m 28 ls []) := by
    intro H locs ls w1 hw hT hF hM hl
    refine lv_bipush (v := (-2)) hx hb dX11_print_28 (by decide) ?_
    exact tk_iret hC hr hlocks hK ⟨hT, hF, hM.ret (by decide), (Or.inl rfl)⟩ hw dX11_print_30
  have L41 : ∀ (n41 : Nat) (v41_2 : Int32) (v41_3 : Int32) (f41_38_8 : Int32) (f41_39_8 : Int32) (H : Heap) (locs : List Loc) (ls : Array Slot) (w2 : va_W), 0 ≤ a1.toInt → a1.toInt ≤ 6 → 0 ≤ v41_2.toInt → v41_2.toInt ≤ 3 → 0 ≤ v41_3.toInt → v41_3.toInt ≤ 12 → 0 ≤ f41_38_8.toInt → f41_38_8.toInt ≤ 3 → 1 ≤ f41_39_8.toInt → f41_39_8.toInt ≤ 10 → (12 - v41_3.toInt).toNat < n41 → Wd dC dI A s.heap H locs w2 → TW ksC ad cy B qr s1 w2 → FE ksC [(5, 8, 8), (32, 0, 48), (44, 0, 11)] w0 w2 → gi w2 38 8 = f41_38_8 → gi w2 39 8 = f41_39_8 → TT (fun n => m_X11_print n 0 a1.toInt (sI w0)) (fun n => j_X11_print 0 n 41 [a1.toInt, v41_2.toInt, v41_3.toInt] (sI w2)) → lv_has ls 4 [(0, .ref (ad 0)), (1, .int a1), (2, .int v41_2), (3, .int v41_3)] → W p l e ({ frames := 2, cells := 0, slots := 0, locals := 34 }) s m (List.toArray [.ref (ad 0), .int a1]) below meth c H locs 0 0 (MQ below (va_Qi (Pz_X11_print_1 ad cy B qr s1 a1 w0) (fun u : va_W => wpost dC dI cy A u) A) (List.toArray [.ref (ad 0), .int a1]) s 0 0 A) (F0 m 41 ls []) := by
    intro n41
    induction n41 with
    | zero => intro v41_2 v41_3 f41_38_8 f41_39_8 H locs ls w2 r3 t4 r5 t6 r7 t8 r9 t10 r12 t13 hm41 hw hT hF c11 c14 hM hl; omega
    | succ n41 ih41 =>
      intro v41_2 v41_3 f41_38_8 f41_39_8 H locs ls w2 r3 t4 r5 t6 r7 t8 r9 t10 r12 t13 hm41 hw hT hF c11 c14 hM hl
      replace hM := hM.suc (fun _ => e_X11_print_41)
      refine lv_iload_n hx hb dX11_print_41 rfl (lv_at hl 3 rfl) ?_
      refine lv_aload_n hx hb dX11_print_42 rfl (lv_at hl 0 rfl) ?_
      refine tk_getA hC hK hw hT hinX11 kC_at0 (by decide) rfl 4 (by decide) (List.mem_cons_of_mem _ uw_1_7) rfl rfl dX11_print_43 ?_
      refine tk_getO hC hK hw hT hinX5 kC_at38 (by decide) rfl 0 (by decide) (List.mem_cons_of_mem _ uw_9_1) rfl rfl dX11_print_46 ?_
      refine tk_geti hC hK hw hT hinX7 kC_at39 (by decide) rfl 9 (by decide) (List.mem_cons_of_mem _ uw_9_2) rfl rfl dX11_print_49 (fun x15 c16 rx15 tx15 => ?_)
      replace hM := hM.rd (sI_at c16)
      refine lv_icmp_ge (tgt := 87) hx hb dX11_print_52 (by decide) (fun c17 => ?_) (fun c17 => ?_)
      · have c17 : x15.toInt ≤ v41_3.toInt := wk_le.mp c17
        replace hM := hM.pos c17
        refine lv_aload_n hx hb dX11_print_87 rfl (lv_at hl 0 rfl) ?_
        refine tk_getA hC hK hw hT hinX11 kC_at0 (by decide) rfl 4 (by decide) (List.mem_cons_of_mem _ uw_1_7) rfl rfl dX11_print_88 ?_
        refine lv_dup hx hb dX11_print_91 rfl ?_
        refine tk_geti hC hK hw hT hinX5 kC_at38 (by decide) rfl 8 (by decide) (List.mem_cons_of_mem _ uw_33_12) rfl rfl dX11_print_92 (fun x18 c19 rx18 tx18 => ?_)
        refine wk_top f41_38_8 (c19.symm.trans c11) ?_
        replace hM := hM.rd (sI_at c11)
        refine lv_iconst (v := 1) hx hb dX11_print_95 (by decide) ?_
        refine lv_iadd hx hb dX11_print_96 ?_
        refine lv_topi (fun x20 ex20 => ?_)
        have ezx20 := ex20
        have ex20 : x20.toInt = f41_38_8.toInt + (1 : Int) := by rw [ex20]; exact wk_add (show (-2147483648) ≤ f41_38_8.toInt + (1 : Int) by omega) (show f41_38_8.toInt + (1 : Int) ≤ 2147483647 by omega)
        replace hM := hM.lt ex20.symm
        refine tk_puti hC hK hw hT hinX5 tyX5_ok nmX5 kC_at38 (by decide) rfl rfl 8 (by decide) (List.mem_cons_of_mem _ uw_33_12) rfl rfl rfl rfl (show 0 ≤ x20.toInt by omega) (show x20.toInt ≤ 4 by omega) dX11_print_97 (fun H locs w21 hw hT k23 c22 => ?_)
        replace hM := hM.wr (sI_up k23 c22)
        have hF := hF.put kC_at38 (k := 8) (by decide) k23
        have c24 := k23.gi (Or.inl (tk_ne kC_at39 kC_at38 (by decide))) c14
        have c25 := k23.gi (Or.inr (by decide)) c16
        refine lv_aload_n hx hb dX11_print_100 rfl (lv_at hl 0 rfl) ?_
        refine tk_getA hC hK hw hT hinX11 kC_at0 (by decide) rfl 7 (by decide) (List.mem_cons_of_mem _ uw_1_14) rfl rfl dX11_print_101 ?_
        refine lv_iload_n hx hb dX11_print_104 rfl (lv_at hl 2 rfl) ?_
        refine tk_Vv hC hK hw hT hA hE hSR kC_at145 (by decide) rfl (kz_X0_forget_1 l adK adV dC dI cy ad B (by omega) (by omega) qr s1   v41_2 (show 0 ≤ v41_2.toInt from r5) (show v41_2.toInt ≤ 3 from t6) w21 H.size hT ) (cwV 1 hC.2.2.2.2 uV_RX11_167 rfl rfl rfl (by decide +kernel) ⟨Nat.le_of_ble_eq_true rfl, Nat.le_of_ble_eq_true rfl⟩) rfl hl.1 rfl (Nat.le_of_ble_eq_true rfl) dX11_print_105 (fun w28 H locs hp27 hw => ?_)
        obtain ⟨hT, k29, hv31, hg30⟩ := hp27
        have hF := hF.tr k29 (by decide)
        have c32 := k29.gi kC_at39 (by decide) c24
        have c33 := k29.gi kC_at39 (by decide) c25
        have c34 := k29.gi kC_at38 (by decide) c22
        clear hg30
        replace hM := hM.call hv31 rfl
        refine lv_iload_n hx hb dX11_print_108 rfl (lv_at hl 2 rfl) ?_
        exact tk_iret hC hr hlocks hK ⟨hT, hF, hM.ret rfl, (Or.inr ⟨(show 0 ≤ v41_2.toInt from r5), (show v41_2.toInt ≤ 3 from t6), (show 0 ≤ a1.toInt from r3), (show a1.toInt ≤ 6 from t4), ⟨x20, c34, (show 1 ≤ x20.toInt by omega), (show x20.toInt ≤ 4 by omega)⟩, ⟨f41_39_8, c32, (show 1 ≤ f41_39_8.toInt from r12), (show f41_39_8.toInt ≤ 10 from t13)⟩⟩)⟩ hw dX11_print_109
      · have c17 : v41_3.toInt < x15.toInt := wk_leF c17
        replace hM := hM.neg (Int.not_le.mpr c17)
        refine lv_aload_n hx hb dX11_print_55 rfl (lv_at hl 0 rfl) ?_
        refine tk_getA hC hK hw hT hinX11 kC_at0 (by decide) rfl 4 (by decide) (List.mem_cons_of_mem _ uw_1_7) rfl rfl dX11_print_56 ?_
        refine tk_getO hC hK hw hT hinX5 kC_at38 (by decide) rfl 1 (by decide) (List.mem_cons_of_mem _ uw_33_13) rfl rfl dX11_print_59 ?_
        refine lv_iload_n hx hb dX11_print_62 rfl (lv_at hl 2 rfl) ?_
        refine lv_bipush (v := 12) hx hb dX11_print_63 (by decide) ?_
        refine lv_imul hx hb dX11_print_65 ?_
        refine lv_topi (fun x35 ex35 => ?_)
        have ezx35 := ex35
        have ex35 : x35.toInt = v41_2.toInt * (12 : Int) := by rw [ex35]; exact wk_mul (show (-2147483648) ≤ v41_2.toInt * (12 : Int) by omega) (show v41_2.toInt * (12 : Int) ≤ 2147483647 by omega)
        replace hM := hM.lt ex35.symm
        refine lv_iload_n hx hb dX11_print_66 rfl (lv_at hl 3 rfl) ?_
        refine lv_iadd hx hb dX11_print_67 ?_
        refine lv_topi (fun x36 ex36 => ?_)
        have ezx36 := ex36
        have ex36 : x36.toInt = x35.toInt + v41_3.toInt := by rw [ex36]; exact wk_add (show (-2147483648) ≤ x35.toInt + v41_3.toInt by omega) (show x35.toInt + v41_3.toInt ≤ 2147483647 by omega)
        replace hM := hM.lt ex36.symm
        refine lv_aload_n hx hb dX11_print_68 rfl (lv_at hl 0 rfl) ?_
        refine tk_getA hC hK hw hT hinX11 kC_at0 (by decide) rfl 4 (by decide) (List.mem_cons_of_mem _ uw_1_7) rfl rfl dX11_print_69 ?_
        refine tk_getO hC hK hw hT hinX5 kC_at38 (by decide) rfl 0 (by decide) (List.mem_cons_of_mem _ uw_9_1) rfl rfl dX11_print_72 ?_
        refine lv_iload_n hx hb dX11_print_75 rfl (lv_at hl 3 rfl) ?_
        refine lv_iload_n hx hb dX11_print_76 rfl (lv_at hl 1 rfl) ?_
        refine tk_Vi hC hK hw hT hA hE hSR kC_at39 (by decide) rfl (kz_X7_signOn_1 l adK adV dC dI cy ad B (by omega) (by omega) qr s1   v41_3 (show 0 ≤ v41_3.toInt from r7) (show v41_3.toInt ≤ 11 by omega) a1 (show 0 ≤ a1.toInt from r3) (show a1.toInt ≤ 6 from t4) w2 H.size hT ) (cwV 2 hC.2.2.2.2 uV_RX11_144 rfl rfl rfl (by decide +kernel) ⟨Nat.le_of_ble_eq_true rfl, Nat.le_of_ble_eq_true rfl⟩) rfl hl.1 rfl (Nat.le_of_ble_eq_true rfl) dX11_print_77 (fun r37 w39 H locs hp38 hw => ?_)
        obtain ⟨hT, k40, hv44, hg43⟩ := hp38
        have hF := hF.tr k40 (by decide)
        have c45 := k40.gi kC_at38 (by decide) c11
        have c46 := k40.gi kC_at39 (by decide) c14
        have c47 := k40.gi kC_at39 (by decide) c16
        obtain ⟨g41, g42⟩ := hg43
        replace hM := hM.call hv44 rfl
        refine tk_iast hC hK hw hT kC_at48 (by decide) rfl rfl (show 0 ≤ x36.toInt by omega) (show x36.toInt < 48 by omega) (wk_i32 r37).1 (wk_i32 r37).2 dX11_print_80 (fun H locs w48 hw hT k50 c49 => ?_)
        replace hM := hM.wr (sI_up k50 c49)
        have hF := hF.put kC_at48 (inE_of (a := 0) (b := 48) (by decide) (show 0 ≤ x36.toInt.toNat by omega) (show x36.toInt.toNat ≤ 48 by omega)) k50
        have c51 := k50.gi (Or.inl (tk_ne kC_at38 kC_at48 (by decide))) c45
        have c52 := k50.gi (Or.inl (tk_ne kC_at39 kC_at48 (by decide))) c46
        have c53 := k50.gi (Or.inl (tk_ne kC_at39 kC_at48 (by decide))) c47
        obtain ⟨x54, ex54⟩ : ∃ y : Int32, y = v41_3 + Int32.ofInt 1 := ⟨_, rfl⟩
        have erx54 := ex54
        refine lv_iinc (v := x54) (lv' := [(3, .int x54), (0, .ref (ad 0)), (1, .int a1), (2, .int v41_2)]) hx hb dX11_print_81 hl (k := 3) rfl ex54.symm (by decide) rfl (fun ls hl => ?_)
        have ex54 : x54.toInt = v41_3.toInt + 1 := by rw [ex54]; exact wk_add (y := 1) (show -2147483648 ≤ v41_3.toInt + 1 by omega) (show v41_3.toInt + 1 ≤ 2147483647 by omega)
        replace hM := hM.lt ex54.symm
        refine lv_goto (tgt := 41) hx hb dX11_print_84 (by decide) ?_
        exact ih41 v41_2 x54 f41_38_8 f41_39_8 H locs ls w48 (show 0 ≤ a1.toInt from r3) (show a1.toInt ≤ 6 from t4) (show 0 ≤ v41_2.toInt from r5) (show v41_2.toInt ≤ 3 from t6) (show 0 ≤ x54.toInt by omega) (show x54.toInt ≤ 12 by omega) (show 0 ≤ f41_38_8.toInt from r9) (show f41_38_8.toInt ≤ 3 from t10) (show 1 ≤ f41_39_8.toInt from r12) (show f41_39_8.toInt ≤ 10 from t13) (show (12 - x54.toInt).toNat < n41 by omega) hw hT hF c51 c52 hM (lv_sub hl [1, 2, 3, 0] rfl)
  have hM : TT (fun n => m_X11_print n 0 a1.toInt (sI w0)) (fun n => m_X11_print n 0 a1.toInt (sI w0)) := TT.rf
  refine lv_iload_n hx hb dX11_print_0 rfl (lv_at hl 1 rfl) ?_
  refine tk_Si hC hK hw hT hA hE hSR (kz_X11_isWeekday_1 l adK adV dC dI cy ad B (by omega) (by omega) qr s1   a1 w0 s.heap.size hT ) (va_cwS 1 hC.2.2.2.2 uS_RX11_155 rfl rfl rfl (by decide +kernel) ⟨Nat.le_of_ble_eq_true rfl, Nat.le_of_ble_eq_true rfl⟩) rfl hl.1 rfl (Nat.le_of_ble_eq_true rfl) dX11_print_1 (fun r55 w57 H locs hp56 hw => ?_)
  obtain ⟨hT, k58, hv62, hg61⟩ := hp56
  have hF := hF.tr k58 (by decide)
  rcases hg61 with rfl | ⟨rfl, g59, g60⟩
  · replace hM := hM.call (r' := 0) hv62 (by decide)
    refine lv_if_eq (tgt := 28) hx hb dX11_print_4 (by decide) (fun _ => ?_) (fun c => absurd (by decide) c)
    replace hM := hM.pos (by decide)
    exact J28  H locs ls w57   hw hT hF hM (lv_sub hl [0, 1] rfl)
  · replace hM := hM.call (r' := 1) hv62 (by decide)
    refine lv_if_eq (tgt := 28) hx hb dX11_print_4 (by decide) (fun c => absurd c (by decide)) (fun _ => ?_)
    replace hM := hM.neg (by decide)
    refine lv_aload_n hx hb dX11_print_7 rfl (lv_at hl 0 rfl) ?_
    refine tk_getA hC hK hw hT hinX11 kC_at0 (by decide) rfl 4 (by decide) (List.mem_cons_of_mem _ uw_1_7) rfl rfl dX11_print_8 ?_
    refine tk_Vi hC hK hw hT hA hE hSR kC_at38 (by decide) rfl (kz_X5_hasTown_1 l adK adV dC dI cy ad B (by omega) (by omega) qr s1    w57 H.size hT ) (cwV 0 hC.2.2.2.2 uV_RX11_158 rfl rfl rfl (by decide +kernel) ⟨Nat.le_of_ble_eq_true rfl, Nat.le_of_ble_eq_true rfl⟩) rfl hl.1 rfl (Nat.le_of_ble_eq_true rfl) dX11_print_11 (fun r63 w65 H locs hp64 hw => ?_)
    obtain ⟨hT, k66, hv72, hg71⟩ := hp64
    have hF := hF.tr k66 (by decide)
    rcases hg71 with ⟨rfl, ⟨x67, c68, rx67, tx67⟩⟩ | ⟨rfl, ⟨x69, c70, rx69, tx69⟩⟩
    · replace hM := hM.call (r' := 0) hv72 (by decide)
      refine lv_if_eq (tgt := 28) hx hb dX11_print_14 (by decide) (fun _ => ?_) (fun c => absurd (by decide) c)
      replace hM := hM.pos (by decide)
      exact J28  H locs ls w65   hw hT hF hM (lv_sub hl [0, 1] rfl)
    · replace hM := hM.call (r' := 1) hv72 (by decide)
      refine lv_if_eq (tgt := 28) hx hb dX11_print_14 (by decide) (fun c => absurd c (by decide)) (fun _ => ?_)
      replace hM := hM.neg (by decide)
      refine lv_aload_n hx hb dX11_print_17 rfl (lv_at hl 0 rfl) ?_
      refine tk_getA hC hK hw hT hinX11 kC_at0 (by decide) rfl 4 (by decide) (List.mem_cons_of_mem _ uw_1_7) rfl rfl dX11_print_18 ?_
      refine tk_geti hC hK hw hT hinX5 kC_at38 (by decide) rfl 8 (by decide) (List.mem_cons_of_mem _ uw_33_12) rfl rfl dX11_print_21 (fun x73 c74 rx73 tx73 => ?_)
      replace hM := hM.rd (sI_at c74)
      refine lv_iconst (v := 4) hx hb dX11_print_24 (by decide) ?_
      refine lv_icmp_lt (tgt := 31) hx hb dX11_print_25 (by decide) (fun c75 => ?_) (fun c75 => ?_)
      · have c75 : x73.toInt < (4 : Int) := wk_lt.mp c75
        replace hM := hM.pos c75
        refine lv_aload_n hx hb dX11_print_31 rfl (lv_at hl 0 rfl) ?_
        refine tk_getA hC hK hw hT hinX11 kC_at0 (by decide) rfl 4 (by decide) (List.mem_cons_of_mem _ uw_1_7) rfl rfl dX11_print_32 ?_
        refine tk_geti hC hK hw hT hinX5 kC_at38 (by decide) rfl 8 (by decide) (List.mem_cons_of_mem _ uw_33_12) rfl rfl dX11_print_35 (fun x76 c77 rx76 tx76 => ?_)
        refine wk_top x73 (c77.symm.trans c74) ?_
        replace hM := hM.rd (sI_at c74)
        refine lv_istore_n (lv' := [(2, .int x73), (0, .ref (ad 0)), (1, .int a1)]) hx hb dX11_print_38 rfl hl (by decide) rfl (fun ls hl => ?_)
        refine lv_iconst (v := 0) hx hb dX11_print_39 (by decide) ?_
        refine lv_istore_n (lv' := [(3, .int 0), (2, .int x73), (0, .ref (ad 0)), (1, .int a1)]) hx hb dX11_print_40 rfl hl (by decide) rfl (fun ls hl => ?_)
        exact L41 ((12 - (0 : Int)).toNat + 1) x73 0 x73 x69 H locs ls w65 (show 0 ≤ a1.toInt by omega) (show a1.toInt ≤ 6 by omega) (show 0 ≤ x73.toInt from rx73) (show x73.toInt ≤ 3 by omega) (by decide) (by decide) (show 0 ≤ x73.toInt from rx73) (show x73.toInt ≤ 3 by omega) (show 1 ≤ x69.toInt by omega) (show x69.toInt ≤ 10 by omega) (Nat.lt_succ_self _) hw hT hF c74 c70 hM (lv_sub hl [2, 3, 1, 0] rfl)
      · have c75 : (4 : Int) ≤ x73.toInt := wk_ltF c75
        replace hM := hM.neg (Int.not_lt.mpr c75)
        exact J28  H locs ls w65   hw hT hF hM (lv_sub hl [0, 1] rfl)
abbrev Pz_X11_hasMap_1 (ad : Nat → Nat) (cy : Nat → ClassId) (B : Int) (qr : Nat) (s1 : Int) (a1 : Int32) (w0 : va_W) : Int32 → va_W → Prop := fun r u => TW ksC ad cy B qr s1 u ∧ FE ksC ([] : List (Nat × Nat × Nat)) w0 u ∧ Ev (fun n => m_X11_hasMap n 0 a1.toInt (sI w0)) (r.toInt, sI u) ∧ ((r = 0) ∨ (r = 1 ∧ 0 ≤ a1.toInt ∧ a1.toInt ≤ 3 ∧ (∃ y : Int32, gi u 38 8 = y ∧ 1 ≤ y.toInt ∧ y.toInt ≤ 4)))
set_option maxHeartbeats 4000000 in
set_option maxRecDepth 100000 in
theorem kz_X11_hasMap_1 (l : Launch) (adK adV : Nat → Nat) (dC : Nat → ClassId) (dI : Nat → Nat → Nat) (cy : Nat → ClassId) (ad : Nat → Nat) (B : Int) (hB0 : 2147483648 ≤ B) (hB1 : B ≤ 1152921504606846976) (qr : Nat) (s1 : Int)  (a1 : Int32) (w0 : va_W) (sz : Nat) (hT : TW ksC ad cy B qr s1 w0)  : Met l yX11_hasMap (wu yX11_hasMap cX11_hasMap 2 (some .boolean)) ({ frames := 1, cells := 0, slots := 0, locals := 12 }) (va_Pc [.ref (ad 0), .int a1] (wpreS adK adV dC dI cy sz w0)) (va_Qi (Pz_X11_hasMap_1 ad cy B qr s1 a1 w0) (fun u : va_W => wpost dC dI cy (va_A w0 sz) u) (va_A w0 sz)) 0 0 (va_A w0 sz) := by
  refine Met.ofW (cc := cX11_hasMap) (maxL := 2) (ret := (some .boolean)) (by decide) rfl ?_
  intro p e s m args below meth c s₁ Bk hml hv
  obtain ⟨rfl, ⟨hsz, hP, hK, hD0⟩, hE, hSR⟩ := hv
  have hx := Bk.exec
  have hb := Bk.bytes
  have hr := Bk.returns
  have hlocks := Bk.notSynchronized
  have hC : CallFix p m c cX11_hasMap 2 s _ (wu yX11_hasMap cX11_hasMap 2 (some .boolean)) RX11 := ⟨hx, hb, hml, findClass_of_methodNamed Bk.named, atoms_spec (ws := (wu yX11_hasMap cX11_hasMap 2 (some .boolean))) Bk.pre⟩
  subst hsz
  have hD := hD0.self (sz := s.heap.size)
  generalize hAe : va_A w0 s.heap.size = A at hD hE ⊢
  have hA : ∀ q : Nat, s.heap.size ≤ q → A q := fun q h => by rw [← hAe]; exact Or.inr h
  have hw : Wd dC dI A s.heap s.heap [] w0 := ⟨hP, hD, va_S.rf⟩
  have hF : FE ksC ([] : List (Nat × Nat × Nat)) w0 w0 := FE.rf
  have hl := lv_entry ([.ref (ad 0), .int a1]) (n := 2) (Nat.le_of_ble_eq_true rfl)
  rw [lg_entry_eq]
  generalize (lg_sl ([.ref (ad 0), .int a1]) ++ List.replicate (2 - (lg_sl ([.ref (ad 0), .int a1])).length) Slot.unset).toArray = ls at hl ⊢
  have hl : lv_has ls 2 [(0, .ref (ad 0)), (1, .int a1)] := hl
  generalize hloc : ([] : List Loc) = locs at hw ⊢
  have hinX11 : ∀ w ∈ u_ws RX11 TX11 13, w ∈ (wu yX11_hasMap cX11_hasMap 2 (some .boolean)) := fun _ h => List.mem_cons_of_mem _ (up_70 h)
  have hinX5 : ∀ w ∈ u_ws RX5 TX5 14, w ∈ (wu yX11_hasMap cX11_hasMap 2 (some .boolean)) := fun _ h => List.mem_cons_of_mem _ (up_76 h)
  have J19 : ∀ (H : Heap) (locs : List Loc) (ls : Array Slot) (w1 : va_W), Wd dC dI A s.heap H locs w1 → TW ksC ad cy B qr s1 w1 → FE ksC ([] : List (Nat × Nat × Nat)) w0 w1 → TT (fun n => m_X11_hasMap n 0 a1.toInt (sI w0)) (fun n => b_X11_hasMap_19 n 0 (sI w1)) → lv_has ls 2 [(0, .ref (ad 0)), (1, .int a1)] → W p l e ({ frames := 1, cells := 0, slots := 0, locals := 12 }) s m (List.toArray [.ref (ad 0), .int a1]) below meth c H locs 0 0 (MQ below (va_Qi (Pz_X11_hasMap_1 ad cy B qr s1 a1 w0) (fun u : va_W => wpost dC dI cy A u) A) (List.toArray [.ref (ad 0), .int a1]) s 0 0 A) (F0 m 19 ls []) := by
    intro H locs ls w1 hw hT hF hM hl
    refine lv_iconst (v := 0) hx hb dX11_hasMap_19 (by decide) ?_
    exact tk_zret hC hr rfl hlocks hK ⟨hT, hF, hM.ret (by decide), (Or.inl rfl)⟩ hw dX11_hasMap_20
  have hM : TT (fun n => m_X11_hasMap n 0 a1.toInt (sI w0)) (fun n => m_X11_hasMap n 0 a1.toInt (sI w0)) := TT.rf
  refine lv_iload_n hx hb dX11_hasMap_0 rfl (lv_at hl 1 rfl) ?_
  refine lv_if_lt (tgt := 19) hx hb dX11_hasMap_1 (by decide) (fun c2 => ?_) (fun c2 => ?_)
  · have c2 : a1.toInt < (0 : Int) := wk_lt.mp c2
    replace hM := hM.pos c2
    exact J19  s.heap locs ls w0   hw hT hF hM (lv_sub hl [0, 1] rfl)
  · have c2 : (0 : Int) ≤ a1.toInt := wk_ltF c2
    replace hM := hM.neg (Int.not_lt.mpr c2)
    refine lv_iload_n hx hb dX11_hasMap_4 rfl (lv_at hl 1 rfl) ?_
    refine lv_aload_n hx hb dX11_hasMap_5 rfl (lv_at hl 0 rfl) ?_
    refine tk_getA hC hK hw hT hinX11 kC_at0 (by decide) rfl 4 (by decide) (List.mem_cons_of_mem _ uw_1_7) rfl rfl dX11_hasMap_6 ?_
    refine tk_geti hC hK hw hT hinX5 kC_at38 (by decide) rfl 8 (by decide) (List.mem_cons_of_mem _ uw_33_12) rfl rfl dX11_hasMap_9 (fun x3 c4 rx3 tx3 => ?_)
    replace hM := hM.rd (sI_at c4)
    refine lv_icmp_ge (tgt := 19) hx hb dX11_hasMap_12 (by decide) (fun c5 => ?_) (fun c5 => ?_)
    · have c5 : x3.toInt ≤ a1.toInt := wk_le.mp c5
      replace hM := hM.pos c5
      exact J19  s.heap locs ls w0   hw hT hF hM (lv_sub hl [0, 1] rfl)
    · have c5 : a1.toInt < x3.toInt := wk_leF c5
      replace hM := hM.neg (Int.not_le.mpr c5)
      refine lv_iconst (v := 1) hx hb dX11_hasMap_15 (by decide) ?_
      refine lv_goto (tgt := 20) hx hb dX11_hasMap_16 (by decide) ?_
      exact tk_zret hC hr rfl hlocks hK ⟨hT, hF, hM.ret (by decide), (Or.inr ⟨rfl, (show 0 ≤ a1.toInt by omega), (show a1.toInt ≤ 3 by omega), ⟨x3, c4, (show 1 ≤ x3.toInt by omega), (show x3.toInt ≤ 4 from tx3)⟩⟩)⟩ hw dX11_hasMap_20
abbrev Pz_X11_isSign_1 (ad : Nat → Nat) (cy : Nat → ClassId) (B : Int) (qr : Nat) (s1 : Int) (a0 : Int32) (w0 : va_W) : Int32 → va_W → Prop := fun r u => TW ksC ad cy B qr s1 u ∧ FE ksC ([] : List (Nat × Nat × Nat)) w0 u ∧ Ev (fun n => m_X11_isSign n a0.toInt (sI w0)) (r.toInt, sI u) ∧ ((r = 0) ∨ (r = 1 ∧ 0 ≤ a0.toInt ∧ a0.toInt ≤ 3))
set_option maxHeartbeats 4000000 in
set_option maxRecDepth 100000 in
theorem kz_X11_isSign_1 (l : Launch) (adK adV : Nat → Nat) (dC : Nat → ClassId) (dI : Nat → Nat → Nat) (cy : Nat → ClassId) (ad : Nat → Nat) (B : Int) (hB0 : 2147483648 ≤ B) (hB1 : B ≤ 1152921504606846976) (qr : Nat) (s1 : Int)  (a0 : Int32) (w0 : va_W) (sz : Nat) (hT : TW ksC ad cy B qr s1 w0)  : Met l yX11_isSign (wu yX11_isSign cX11_isSign 1 (some .boolean)) ({ frames := 1, cells := 0, slots := 0, locals := 12 }) (va_Pc [.int a0] (wpreS adK adV dC dI cy sz w0)) (va_Qi (Pz_X11_isSign_1 ad cy B qr s1 a0 w0) (fun u : va_W => wpost dC dI cy (va_A w0 sz) u) (va_A w0 sz)) 0 0 (va_A w0 sz) := by
  refine Met.ofW (cc := cX11_isSign) (maxL := 1) (ret := (some .boolean)) (by decide) rfl ?_
  intro p e s m args below meth c s₁ Bk hml hv
  obtain ⟨rfl, ⟨hsz, hP, hK, hD0⟩, hE, hSR⟩ := hv
  have hx := Bk.exec
  have hb := Bk.bytes
  have hr := Bk.returns
  have hlocks := Bk.notSynchronized
  have hC : CallFix p m c cX11_isSign 1 s _ (wu yX11_isSign cX11_isSign 1 (some .boolean)) RX11 := ⟨hx, hb, hml, findClass_of_methodNamed Bk.named, atoms_spec (ws := (wu yX11_isSign cX11_isSign 1 (some .boolean))) Bk.pre⟩
  subst hsz
  have hD := hD0.self (sz := s.heap.size)
  generalize hAe : va_A w0 s.heap.size = A at hD hE ⊢
  have hA : ∀ q : Nat, s.heap.size ≤ q → A q := fun q h => by rw [← hAe]; exact Or.inr h
  have hw : Wd dC dI A s.heap s.heap [] w0 := ⟨hP, hD, va_S.rf⟩
  have hF : FE ksC ([] : List (Nat × Nat × Nat)) w0 w0 := FE.rf
  have hl := lv_entry ([.int a0]) (n := 1) (Nat.le_of_ble_eq_true rfl)
  rw [lg_entry_eq]
  generalize (lg_sl ([.int a0]) ++ List.replicate (1 - (lg_sl ([.int a0])).length) Slot.unset).toArray = ls at hl ⊢
  have hl : lv_has ls 1 [(0, .int a0)] := hl
  generalize hloc : ([] : List Loc) = locs at hw ⊢
  have J13 : ∀ (H : Heap) (locs : List Loc) (ls : Array Slot) (w1 : va_W), Wd dC dI A s.heap H locs w1 → TW ksC ad cy B qr s1 w1 → FE ksC ([] : List (Nat × Nat × Nat)) w0 w1 → TT (fun n => m_X11_isSign n a0.toInt (sI w0)) (fun n => b_X11_isSign_13 n (sI w1)) → lv_has ls 1 [(0, .int a0)] → W p l e ({ frames := 1, cells := 0, slots := 0, locals := 12 }) s m (List.toArray [.int a0]) below meth c H locs 0 0 (MQ below (va_Qi (Pz_X11_isSign_1 ad cy B qr s1 a0 w0) (fun u : va_W => wpost dC dI cy A u) A) (List.toArray [.int a0]) s 0 0 A) (F0 m 13 ls []) := by
    intro H locs ls w1 hw hT hF hM hl
    refine lv_iconst (v := 0) hx hb dX11_isSign_13 (by decide) ?_
    exact tk_zret hC hr rfl hlocks hK ⟨hT, hF, hM.ret (by decide), (Or.inl rfl)⟩ hw dX11_isSign_14
  have hM : TT (fun n => m_X11_isSign n a0.toInt (sI w0)) (fun n => m_X11_isSign n a0.toInt (sI w0)) := TT.rf
  refine lv_iload_n hx hb dX11_isSign_0 rfl (lv_at hl 0 rfl) ?_
  refine lv_if_lt (tgt := 13) hx hb dX11_isSign_1 (by decide) (fun c2 => ?_) (fun c2 => ?_)
  · have c2 : a0.toInt < (0 : Int) := wk_lt.mp c2
    replace hM := hM.pos c2
    exact J13  s.heap locs ls w0   hw hT hF hM (lv_sub hl [0] rfl)
  · have c2 : (0 : Int) ≤ a0.toInt := wk_ltF c2
    replace hM := hM.neg (Int.not_lt.mpr c2)
    refine lv_iload_n hx hb dX11_isSign_4 rfl (lv_at hl 0 rfl) ?_
    refine lv_iconst (v := 3) hx hb dX11_isSign_5 (by decide) ?_
    refine lv_icmp_gt (tgt := 13) hx hb dX11_isSign_6 (by decide) (fun c3 => ?_) (fun c3 => ?_)
    · have c3 : (3 : Int) < a0.toInt := wk_lt.mp c3
      replace hM := hM.pos c3
      exact J13  s.heap locs ls w0   hw hT hF hM (lv_sub hl [0] rfl)
    · have c3 : a0.toInt ≤ (3 : Int) := wk_ltF c3
      replace hM := hM.neg (Int.not_lt.mpr c3)
      refine lv_iconst (v := 1) hx hb dX11_isSign_9 (by decide) ?_
      refine lv_goto (tgt := 14) hx hb dX11_isSign_10 (by decide) ?_
      exact tk_zret hC hr rfl hlocks hK ⟨hT, hF, hM.ret (by decide), (Or.inr ⟨rfl, (show 0 ≤ a0.toInt by omega), (show a0.toInt ≤ 3 by omega)⟩)⟩ hw dX11_isSign_14
abbrev Pz_X11_misprint_1 (ad : Nat → Nat) (cy : Nat → ClassId) (B : Int) (qr : Nat) (s1 : Int) (a1 : Int32) (a2 : Int32) (a3 : Int32) (w0 : va_W) : Int32 → va_W → Prop := fun r u => TW ksC ad cy B qr s1 u ∧ FE ksC [(32, 0, 48), (44, 0, 11)] w0 u ∧ Ev (fun n => m_X11_misprint n 0 a1.toInt a2.toInt a3.toInt (sI w0)) (r.toInt, sI u) ∧ ((0 ≤ a1.toInt ∧ a1.toInt ≤ 3 ∧ 0 ≤ a2.toInt ∧ a2.toInt ≤ 11 ∧ 0 ≤ a3.toInt ∧ a3.toInt ≤ 3 ∧ (∃ y : Int32, gi u 38 8 = y ∧ 1 ≤ y.toInt ∧ y.toInt ≤ 4) ∧ (∃ y : Int32, gi u 39 9 = y ∧ 1 ≤ y.toInt ∧ y.toInt ≤ 12)) ∨ (r = (-1)))
set_option maxHeartbeats 4000000 in
set_option maxRecDepth 100000 in
theorem kz_X11_misprint_1 (l : Launch) (adK adV : Nat → Nat) (dC : Nat → ClassId) (dI : Nat → Nat → Nat) (cy : Nat → ClassId) (ad : Nat → Nat) (B : Int) (hB0 : 2147483648 ≤ B) (hB1 : B ≤ 1152921504606846976) (qr : Nat) (s1 : Int)  (a1 : Int32) (a2 : Int32) (a3 : Int32) (w0 : va_W) (sz : Nat) (hT : TW ksC ad cy B qr s1 w0)  : Met l yX11_misprint (wu yX11_misprint cX11_misprint 6 (some .int)) ({ frames := 2, cells := 0, slots := 0, locals := 33 }) (va_Pc [.ref (ad 0), .int a1, .int a2, .int a3] (wpreS adK adV dC dI cy sz w0)) (va_Qi (Pz_X11_misprint_1 ad cy B qr s1 a1 a2 a3 w0) (fun u : va_W => wpost dC dI cy (va_A w0 sz) u) (va_A w0 sz)) 0 0 (va_A w0 sz) := by
  refine Met.ofW (cc := cX11_misprint) (maxL := 6) (ret := (some .int)) (by decide) rfl ?_
  intro p e s m args below meth c s₁ Bk hml hv
  obtain ⟨rfl, ⟨hsz, hP, hK, hD0⟩, hE, hSR⟩ := hv
  have hx := Bk.exec
  have hb := Bk.bytes
  have hr := Bk.returns
  have hlocks := Bk.notSynchronized
  have hC : CallFix p m c cX11_misprint 6 s _ (wu yX11_misprint cX11_misprint 6 (some .int)) RX11 := ⟨hx, hb, hml, findClass_of_methodNamed Bk.named, atoms_spec (ws := (wu yX11_misprint cX11_misprint 6 (some .int))) Bk.pre⟩
  subst hsz
  have hD := hD0.self (sz := s.heap.size)
  generalize hAe : va_A w0 s.heap.size = A at hD hE ⊢
  have hA : ∀ q : Nat, s.heap.size ≤ q → A q := fun q h => by rw [← hAe]; exact Or.inr h
  have hw : Wd dC dI A s.heap s.heap [] w0 := ⟨hP, hD, va_S.rf⟩
  have hF : FE ksC [(32, 0, 48), (44, 0, 11)] w0 w0 := FE.rf
  have hl := lv_entry ([.ref (ad 0), .int a1, .int a2, .int a3]) (n := 6) (Nat.le_of_ble_eq_true rfl)
  rw [lg_entry_eq]
  generalize (lg_sl ([.ref (ad 0), .int a1, .int a2, .int a3]) ++ List.replicate (6 - (lg_sl ([.ref (ad 0), .int a1, .int a2, .int a3])).length) Slot.unset).toArray = ls at hl ⊢
  have hl : lv_has ls 6 [(0, .ref (ad 0)), (1, .int a1), (2, .int a2), (3, .int a3)] := hl
  generalize hloc : ([] : List Loc) = locs at hw ⊢
  have hinX11 : ∀ w ∈ u_ws RX11 TX11 13, w ∈ (wu yX11_misprint cX11_misprint 6 (some .int)) := fun _ h => List.mem_cons_of_mem _ (up_70 h)
  have hinX5 : ∀ w ∈ u_ws RX5 TX5 14, w ∈ (wu yX11_misprint cX11_misprint 6 (some .int)) := fun _ h => List.mem_cons_of_mem _ (up_76 h)
  have J29 : ∀ (H : Heap) (locs : List Loc) (ls : Array Slot) (w1 : va_W), Wd dC dI A s.heap H locs w1 → TW ksC ad cy B qr s1 w1 → FE ksC [(32, 0, 48), (44, 0, 11)] w0 w1 → TT (fun n => m_X11_misprint n 0 a1.toInt a2.toInt a3.toInt (sI w0)) (fun n => b_X11_misprint_29 n 0 (sI w1)) → lv_has ls 6 [(0, .ref (ad 0)), (1, .int a1), (2, .int a2), (3, .int a3)] → W p l e ({ frames := 2, cells := 0, slots := 0, locals := 33 }) s m (List.toArray [.ref (ad 0), .int a1, .int a2, .int a3]) below meth c H locs 0 0 (MQ below (va_Qi (Pz_X11_misprint_1 ad cy B qr s1 a1 a2 a3 w0) (fun u : va_W => wpost dC dI cy A u) A) (List.toArray [.ref (ad 0), .int a1, .int a2, .int a3]) s 0 0 A) (F0 m 29 ls []) := by
    intro H locs ls w1 hw hT hF hM hl
    refine lv_iconst (v := (-1)) hx hb dX11_misprint_29 (by decide) ?_
    exact tk_iret hC hr hlocks hK ⟨hT, hF, hM.ret (by decide), (Or.inr rfl)⟩ hw dX11_misprint_30
  have hM : TT (fun n => m_X11_misprint n 0 a1.toInt a2.toInt a3.toInt (sI w0)) (fun n => m_X11_misprint n 0 a1.toInt a2.toInt a3.toInt (sI w0)) := TT.rf
  refine lv_aload_n hx hb dX11_misprint_0 rfl (lv_at hl 0 rfl) ?_
  refine lv_iload_n hx hb dX11_misprint_1 rfl (lv_at hl 1 rfl) ?_
  refine tk_Vi hC hK hw hT hA hE hSR kC_at0 (by decide) rfl (kz_X11_hasMap_1 l adK adV dC dI cy ad B (by omega) (by omega) qr s1   a1 w0 s.heap.size hT ) (cwV 1 hC.2.2.2.2 uV_RX11_170 rfl rfl rfl (by decide +kernel) ⟨Nat.le_of_ble_eq_true rfl, Nat.le_of_ble_eq_true rfl⟩) rfl hl.1 rfl (Nat.le_of_ble_eq_true rfl) dX11_misprint_2 (fun r2 w4 H locs hp3 hw => ?_)
  obtain ⟨hT, k5, hv11, hg10⟩ := hp3
  have hF := hF.tr k5 (by decide)
  rcases hg10 with rfl | ⟨rfl, g6, g7, ⟨x8, c9, rx8, tx8⟩⟩
  · replace hM := hM.call (r' := 0) hv11 (by decide)
    refine lv_if_eq (tgt := 29) hx hb dX11_misprint_5 (by decide) (fun _ => ?_) (fun c => absurd (by decide) c)
    replace hM := hM.pos (by decide)
    exact J29  H locs ls w4   hw hT hF hM (lv_sub hl [0, 1, 2, 3] rfl)
  · replace hM := hM.call (r' := 1) hv11 (by decide)
    refine lv_if_eq (tgt := 29) hx hb dX11_misprint_5 (by decide) (fun c => absurd c (by decide)) (fun _ => ?_)
    replace hM := hM.neg (by decide)
    refine lv_aload_n hx hb dX11_misprint_8 rfl (lv_at hl 0 rfl) ?_
    refine tk_getA hC hK hw hT hinX11 kC_at0 (by decide) rfl 4 (by decide) (List.mem_cons_of_mem _ uw_1_7) rfl rfl dX11_misprint_9 ?_
    refine tk_getO hC hK hw hT hinX5 kC_at38 (by decide) rfl 0 (by decide) (List.mem_cons_of_mem _ uw_9_1) rfl rfl dX11_misprint_12 ?_
    refine lv_iload_n hx hb dX11_misprint_15 rfl (lv_at hl 2 rfl) ?_
    refine tk_Vi hC hK hw hT hA hE hSR kC_at39 (by decide) rfl (kz_X7_hasStreet_1 l adK adV dC dI cy ad B (by omega) (by omega) qr s1   a2 w4 H.size hT ) (cwV 1 hC.2.2.2.2 uV_RX11_133 rfl rfl rfl (by decide +kernel) ⟨Nat.le_of_ble_eq_true rfl, Nat.le_of_ble_eq_true rfl⟩) rfl hl.1 rfl (Nat.le_of_ble_eq_true rfl) dX11_misprint_16 (fun r12 w14 H locs hp13 hw => ?_)
    obtain ⟨hT, k15, hv21, hg20⟩ := hp13
    have hF := hF.tr k15 (by decide)
    have c22 := k15.gi kC_at38 (by decide) c9
    rcases hg20 with rfl | ⟨rfl, g16, g17, ⟨x18, c19, rx18, tx18⟩⟩
    · replace hM := hM.call (r' := 0) hv21 (by decide)
      refine lv_if_eq (tgt := 29) hx hb dX11_misprint_19 (by decide) (fun _ => ?_) (fun c => absurd (by decide) c)
      replace hM := hM.pos (by decide)
      exact J29  H locs ls w14   hw hT hF hM (lv_sub hl [0, 1, 2, 3] rfl)
    · replace hM := hM.call (r' := 1) hv21 (by decide)
      refine lv_if_eq (tgt := 29) hx hb dX11_misprint_19 (by decide) (fun c => absurd c (by decide)) (fun _ => ?_)
      replace hM := hM.neg (by decide)
      refine lv_iload_n hx hb dX11_misprint_22 rfl (lv_at hl 3 rfl) ?_
      refine tk_Si hC hK hw hT hA hE hSR (kz_X11_isSign_1 l adK adV dC dI cy ad B (by omega) (by omega) qr s1   a3 w14 H.size hT ) (va_cwS 1 hC.2.2.2.2 uS_RX11_173 rfl rfl rfl (by decide +kernel) ⟨Nat.le_of_ble_eq_true rfl, Nat.le_of_ble_eq_true rfl⟩) rfl hl.1 rfl (Nat.le_of_ble_eq_true rfl) dX11_misprint_23 (fun r23 w25 H locs hp24 hw => ?_)
      obtain ⟨hT, k26, hv30, hg29⟩ := hp24
      have hF := hF.tr k26 (by decide)
      have c31 := k26.gi kC_at38 (by decide) c22
      have c32 := k26.gi kC_at39 (by decide) c19
      rcases hg29 with rfl | ⟨rfl, g27, g28⟩
      · replace hM := hM.call (r' := 0) hv30 (by decide)
        refine lv_if_ne (tgt := 31) hx hb dX11_misprint_26 (by decide) (fun c => absurd (by decide) c) (fun _ => ?_)
        replace hM := hM.neg (by decide)
        exact J29  H locs ls w25   hw hT hF hM (lv_sub hl [0, 1, 2, 3] rfl)
      · replace hM := hM.call (r' := 1) hv30 (by decide)
        refine lv_if_ne (tgt := 31) hx hb dX11_misprint_26 (by decide) (fun _ => ?_) (fun c => absurd c (by decide))
        replace hM := hM.pos (by decide)
        refine lv_iload_n hx hb dX11_misprint_31 rfl (lv_at hl 1 rfl) ?_
        refine lv_bipush (v := 12) hx hb dX11_misprint_32 (by decide) ?_
        refine lv_imul hx hb dX11_misprint_34 ?_
        refine lv_topi (fun x33 ex33 => ?_)
        have ezx33 := ex33
        have ex33 : x33.toInt = a1.toInt * (12 : Int) := by rw [ex33]; exact wk_mul (show (-2147483648) ≤ a1.toInt * (12 : Int) by omega) (show a1.toInt * (12 : Int) ≤ 2147483647 by omega)
        replace hM := hM.lt ex33.symm
        refine lv_iload_n hx hb dX11_misprint_35 rfl (lv_at hl 2 rfl) ?_
        refine lv_iadd hx hb dX11_misprint_36 ?_
        refine lv_topi (fun x34 ex34 => ?_)
        have ezx34 := ex34
        have ex34 : x34.toInt = x33.toInt + a2.toInt := by rw [ex34]; exact wk_add (show (-2147483648) ≤ x33.toInt + a2.toInt by omega) (show x33.toInt + a2.toInt ≤ 2147483647 by omega)
        replace hM := hM.lt ex34.symm
        refine lv_istore (lv' := [(4, .int x34), (0, .ref (ad 0)), (1, .int a1), (2, .int a2), (3, .int a3)]) hx hb dX11_misprint_37 hl (by decide) rfl (fun ls hl => ?_)
        refine lv_aload_n hx hb dX11_misprint_39 rfl (lv_at hl 1 rfl) ?_
        refine tk_getA hC hK hw hT hinX11 kC_at0 (by decide) rfl 4 (by decide) (List.mem_cons_of_mem _ uw_1_7) rfl rfl dX11_misprint_40 ?_
        refine tk_getO hC hK hw hT hinX5 kC_at38 (by decide) rfl 1 (by decide) (List.mem_cons_of_mem _ uw_33_13) rfl rfl dX11_misprint_43 ?_
        refine lv_iload hx hb dX11_misprint_46 (lv_at hl 0 rfl) ?_
        refine tk_iald hC hK hw hT kC_at48 rfl rfl (show 0 ≤ x34.toInt by omega) (show x34.toInt < 48 by omega) dX11_misprint_48 (fun x35 c36 rx35 tx35 => ?_)
        have hox35 := c36
        replace hM := hM.rd (sI_at hox35)
        refine lv_istore (lv' := [(5, .int x35), (4, .int x34), (0, .ref (ad 0)), (1, .int a1), (2, .int a2), (3, .int a3)]) hx hb dX11_misprint_49 hl (by decide) rfl (fun ls hl => ?_)
        refine lv_aload_n hx hb dX11_misprint_51 rfl (lv_at hl 2 rfl) ?_
        refine tk_getA hC hK hw hT hinX11 kC_at0 (by decide) rfl 4 (by decide) (List.mem_cons_of_mem _ uw_1_7) rfl rfl dX11_misprint_52 ?_
        refine tk_getO hC hK hw hT hinX5 kC_at38 (by decide) rfl 1 (by decide) (List.mem_cons_of_mem _ uw_33_13) rfl rfl dX11_misprint_55 ?_
        refine lv_iload hx hb dX11_misprint_58 (lv_at hl 1 rfl) ?_
        refine lv_iload_n hx hb dX11_misprint_60 rfl (lv_at hl 5 rfl) ?_
        refine tk_iast hC hK hw hT kC_at48 (by decide) rfl rfl (show 0 ≤ x34.toInt by omega) (show x34.toInt < 48 by omega) (wk_i32 a3).1 (wk_i32 a3).2 dX11_misprint_61 (fun H locs w37 hw hT k39 c38 => ?_)
        replace hM := hM.wr (sI_up k39 c38)
        have hF := hF.put kC_at48 (inE_of (a := 0) (b := 48) (by decide) (show 0 ≤ x34.toInt.toNat by omega) (show x34.toInt.toNat ≤ 48 by omega)) k39
        have c40 := k39.gi (Or.inl (tk_ne kC_at38 kC_at48 (by decide))) c31
        have c41 := k39.gi (Or.inl (tk_ne kC_at39 kC_at48 (by decide))) c32
        refine lv_aload_n hx hb dX11_misprint_62 rfl (lv_at hl 2 rfl) ?_
        refine tk_getA hC hK hw hT hinX11 kC_at0 (by decide) rfl 7 (by decide) (List.mem_cons_of_mem _ uw_1_14) rfl rfl dX11_misprint_63 ?_
        refine lv_iload_n hx hb dX11_misprint_66 rfl (lv_at hl 3 rfl) ?_
        refine tk_Vv hC hK hw hT hA hE hSR kC_at145 (by decide) rfl (kz_X0_forget_1 l adK adV dC dI cy ad B (by omega) (by omega) qr s1   a1 (show 0 ≤ a1.toInt by omega) (show a1.toInt ≤ 3 by omega) w37 H.size hT ) (cwV 1 hC.2.2.2.2 uV_RX11_167 rfl rfl rfl (by decide +kernel) ⟨Nat.le_of_ble_eq_true rfl, Nat.le_of_ble_eq_true rfl⟩) rfl hl.1 rfl (Nat.le_of_ble_eq_true rfl) dX11_misprint_67 (fun w44 H locs hp43 hw => ?_)
        obtain ⟨hT, k45, hv47, hg46⟩ := hp43
        have hF := hF.tr k45 (by decide)
        have c48 := k45.gi kC_at38 (by decide) c40
        have c49 := k45.gi kC_at39 (by decide) c41
        clear hg46
        replace hM := hM.call hv47 rfl
        refine lv_iload hx hb dX11_misprint_70 (lv_at hl 0 rfl) ?_
        exact tk_iret hC hr hlocks hK ⟨hT, hF, hM.ret rfl, (Or.inl ⟨(show 0 ≤ a1.toInt by omega), (show a1.toInt ≤ 3 by omega), (show 0 ≤ a2.toInt by omega), (show a2.toInt ≤ 11 by omega), (show 0 ≤ a3.toInt by omega), (show a3.toInt ≤ 3 by omega), ⟨x8, c48, (show 1 ≤ x8.toInt by omega), (show x8.toInt ≤ 4 by omega)⟩, ⟨x18, c49, (show 1 ≤ x18.toInt by omega), (show x18.toInt ≤ 12 by omega)⟩⟩)⟩ hw dX11_misprint_72
abbrev Pz_X11_shown_1 (ad : Nat → Nat) (cy : Nat → ClassId) (B : Int) (qr : Nat) (s1 : Int) (a1 : Int32) (a2 : Int32) (w0 : va_W) : Int32 → va_W → Prop := fun r u => TW ksC ad cy B qr s1 u ∧ FE ksC ([] : List (Nat × Nat × Nat)) w0 u ∧ Ev (fun n => m_X11_shown n 0 a1.toInt a2.toInt (sI w0)) (r.toInt, sI u) ∧ ((0 ≤ a1.toInt ∧ a1.toInt ≤ 3 ∧ 0 ≤ a2.toInt ∧ a2.toInt ≤ 11 ∧ (∃ y : Int32, gi u 38 8 = y ∧ 1 ≤ y.toInt ∧ y.toInt ≤ 4) ∧ (∃ y : Int32, gi u 39 9 = y ∧ 1 ≤ y.toInt ∧ y.toInt ≤ 12)) ∨ (r = (-1)))
set_option maxHeartbeats 4000000 in
set_option maxRecDepth 100000 in
theorem kz_X11_shown_1 (l : Launch) (adK adV : Nat → Nat) (dC : Nat → ClassId) (dI : Nat → Nat → Nat) (cy : Nat → ClassId) (ad : Nat → Nat) (B : Int) (hB0 : 2147483648 ≤ B) (hB1 : B ≤ 1152921504606846976) (qr : Nat) (s1 : Int)  (a1 : Int32) (a2 : Int32) (w0 : va_W) (sz : Nat) (hT : TW ksC ad cy B qr s1 w0)  : Met l yX11_shown (wu yX11_shown cX11_shown 3 (some .int)) ({ frames := 2, cells := 0, slots := 0, locals := 33 }) (va_Pc [.ref (ad 0), .int a1, .int a2] (wpreS adK adV dC dI cy sz w0)) (va_Qi (Pz_X11_shown_1 ad cy B qr s1 a1 a2 w0) (fun u : va_W => wpost dC dI cy (va_A w0 sz) u) (va_A w0 sz)) 0 0 (va_A w0 sz) := by
  refine Met.ofW (cc := cX11_shown) (maxL := 3) (ret := (some .int)) (by decide) rfl ?_
  intro p e s m args below meth c s₁ Bk hml hv
  obtain ⟨rfl, ⟨hsz, hP, hK, hD0⟩, hE, hSR⟩ := hv
  have hx := Bk.exec
  have hb := Bk.bytes
  have hr := Bk.returns
  have hlocks := Bk.notSynchronized
  have hC : CallFix p m c cX11_shown 3 s _ (wu yX11_shown cX11_shown 3 (some .int)) RX11 := ⟨hx, hb, hml, findClass_of_methodNamed Bk.named, atoms_spec (ws := (wu yX11_shown cX11_shown 3 (some .int))) Bk.pre⟩
  subst hsz
  have hD := hD0.self (sz := s.heap.size)
  generalize hAe : va_A w0 s.heap.size = A at hD hE ⊢
  have hA : ∀ q : Nat, s.heap.size ≤ q → A q := fun q h => by rw [← hAe]; exact Or.inr h
  have hw : Wd dC dI A s.heap s.heap [] w0 := ⟨hP, hD, va_S.rf⟩
  have hF : FE ksC ([] : List (Nat × Nat × Nat)) w0 w0 := FE.rf
  have hl := lv_entry ([.ref (ad 0), .int a1, .int a2]) (n := 3) (Nat.le_of_ble_eq_true rfl)
  rw [lg_entry_eq]
  generalize (lg_sl ([.ref (ad 0), .int a1, .int a2]) ++ List.replicate (3 - (lg_sl ([.ref (ad 0), .int a1, .int a2])).length) Slot.unset).toArray = ls at hl ⊢
  have hl : lv_has ls 3 [(0, .ref (ad 0)), (1, .int a1), (2, .int a2)] := hl
  generalize hloc : ([] : List Loc) = locs at hw ⊢
  have hinX11 : ∀ w ∈ u_ws RX11 TX11 13, w ∈ (wu yX11_shown cX11_shown 3 (some .int)) := fun _ h => List.mem_cons_of_mem _ (up_70 h)
  have hinX5 : ∀ w ∈ u_ws RX5 TX5 14, w ∈ (wu yX11_shown cX11_shown 3 (some .int)) := fun _ h => List.mem_cons_of_mem _ (up_76 h)
  have J22 : ∀ (H : Heap) (locs : List Loc) (ls : Array Slot) (w1 : va_W), Wd dC dI A s.heap H locs w1 → TW ksC ad cy B qr s1 w1 → FE ksC ([] : List (Nat × Nat × Nat)) w0 w1 → TT (fun n => m_X11_shown n 0 a1.toInt a2.toInt (sI w0)) (fun n => b_X11_shown_22 n 0 (sI w1)) → lv_has ls 3 [(0, .ref (ad 0)), (1, .int a1), (2, .int a2)] → W p l e ({ frames := 2, cells := 0, slots := 0, locals := 33 }) s m (List.toArray [.ref (ad 0), .int a1, .int a2]) below meth c H locs 0 0 (MQ below (va_Qi (Pz_X11_shown_1 ad cy B qr s1 a1 a2 w0) (fun u : va_W => wpost dC dI cy A u) A) (List.toArray [.ref (ad 0), .int a1, .int a2]) s 0 0 A) (F0 m 22 ls []) := by
    intro H locs ls w1 hw hT hF hM hl
    refine lv_iconst (v := (-1)) hx hb dX11_shown_22 (by decide) ?_
    exact tk_iret hC hr hlocks hK ⟨hT, hF, hM.ret (by decide), (Or.inr rfl)⟩ hw dX11_shown_23
  have hM : TT (fun n => m_X11_shown n 0 a1.toInt a2.toInt (sI w0)) (fun n => m_X11_shown n 0 a1.toInt a2.toInt (sI w0)) := TT.rf
  refine lv_aload_n hx hb dX11_shown_0 rfl (lv_at hl 0 rfl) ?_
  refine lv_iload_n hx hb dX11_shown_1 rfl (lv_at hl 1 rfl) ?_
  refine tk_Vi hC hK hw hT hA hE hSR kC_at0 (by decide) rfl (kz_X11_hasMap_1 l adK adV dC dI cy ad B (by omega) (by omega) qr s1   a1 w0 s.heap.size hT ) (cwV 1 hC.2.2.2.2 uV_RX11_170 rfl rfl rfl (by decide +kernel) ⟨Nat.le_of_ble_eq_true rfl, Nat.le_of_ble_eq_true rfl⟩) rfl hl.1 rfl (Nat.le_of_ble_eq_true rfl) dX11_shown_2 (fun r2 w4 H locs hp3 hw => ?_)
  obtain ⟨hT, k5, hv11, hg10⟩ := hp3
  have hF := hF.tr k5 (by decide)
  rcases hg10 with rfl | ⟨rfl, g6, g7, ⟨x8, c9, rx8, tx8⟩⟩
  · replace hM := hM.call (r' := 0) hv11 (by decide)
    refine lv_if_eq (tgt := 22) hx hb dX11_shown_5 (by decide) (fun _ => ?_) (fun c => absurd (by decide) c)
    replace hM := hM.pos (by decide)
    exact J22  H locs ls w4   hw hT hF hM (lv_sub hl [0, 1, 2] rfl)
  · replace hM := hM.call (r' := 1) hv11 (by decide)
    refine lv_if_eq (tgt := 22) hx hb dX11_shown_5 (by decide) (fun c => absurd c (by decide)) (fun _ => ?_)
    replace hM := hM.neg (by decide)
    refine lv_aload_n hx hb dX11_shown_8 rfl (lv_at hl 0 rfl) ?_
    refine tk_getA hC hK hw hT hinX11 kC_at0 (by decide) rfl 4 (by decide) (List.mem_cons_of_mem _ uw_1_7) rfl rfl dX11_shown_9 ?_
    refine tk_getO hC hK hw hT hinX5 kC_at38 (by decide) rfl 0 (by decide) (List.mem_cons_of_mem _ uw_9_1) rfl rfl dX11_shown_12 ?_
    refine lv_iload_n hx hb dX11_shown_15 rfl (lv_at hl 2 rfl) ?_
    refine tk_Vi hC hK hw hT hA hE hSR kC_at39 (by decide) rfl (kz_X7_hasStreet_1 l adK adV dC dI cy ad B (by omega) (by omega) qr s1   a2 w4 H.size hT ) (cwV 1 hC.2.2.2.2 uV_RX11_133 rfl rfl rfl (by decide +kernel) ⟨Nat.le_of_ble_eq_true rfl, Nat.le_of_ble_eq_true rfl⟩) rfl hl.1 rfl (Nat.le_of_ble_eq_true rfl) dX11_shown_16 (fun r12 w14 H locs hp13 hw => ?_)
    obtain ⟨hT, k15, hv21, hg20⟩ := hp13
    have hF := hF.tr k15 (by decide)
    have c22 := k15.gi kC_at38 (by decide) c9
    rcases hg20 with rfl | ⟨rfl, g16, g17, ⟨x18, c19, rx18, tx18⟩⟩
    · replace hM := hM.call (r' := 0) hv21 (by decide)
      refine lv_if_ne (tgt := 24) hx hb dX11_shown_19 (by decide) (fun c => absurd (by decide) c) (fun _ => ?_)
      replace hM := hM.neg (by decide)
      exact J22  H locs ls w14   hw hT hF hM (lv_sub hl [0, 1, 2] rfl)
    · replace hM := hM.call (r' := 1) hv21 (by decide)
      refine lv_if_ne (tgt := 24) hx hb dX11_shown_19 (by decide) (fun _ => ?_) (fun c => absurd c (by decide))
      replace hM := hM.pos (by decide)
      refine lv_aload_n hx hb dX11_shown_24 rfl (lv_at hl 0 rfl) ?_
      refine tk_getA hC hK hw hT hinX11 kC_at0 (by decide) rfl 4 (by decide) (List.mem_cons_of_mem _ uw_1_7) rfl rfl dX11_shown_25 ?_
      refine tk_getO hC hK hw hT hinX5 kC_at38 (by decide) rfl 1 (by decide) (List.mem_cons_of_mem _ uw_33_13) rfl rfl dX11_shown_28 ?_
      refine lv_iload_n hx hb dX11_shown_31 rfl (lv_at hl 1 rfl) ?_
      refine lv_bipush (v := 12) hx hb dX11_shown_32 (by decide) ?_
      refine lv_imul hx hb dX11_shown_34 ?_
      refine lv_topi (fun x23 ex23 => ?_)
      have ezx23 := ex23
      have ex23 : x23.toInt = a1.toInt * (12 : Int) := by rw [ex23]; exact wk_mul (show (-2147483648) ≤ a1.toInt * (12 : Int) by omega) (show a1.toInt * (12 : Int) ≤ 2147483647 by omega)
      replace hM := hM.lt ex23.symm
      refine lv_iload_n hx hb dX11_shown_35 rfl (lv_at hl 2 rfl) ?_
      refine lv_iadd hx hb dX11_shown_36 ?_
      refine lv_topi (fun x24 ex24 => ?_)
      have ezx24 := ex24
      have ex24 : x24.toInt = x23.toInt + a2.toInt := by rw [ex24]; exact wk_add (show (-2147483648) ≤ x23.toInt + a2.toInt by omega) (show x23.toInt + a2.toInt ≤ 2147483647 by omega)
      replace hM := hM.lt ex24.symm
      refine tk_iald hC hK hw hT kC_at48 rfl rfl (show 0 ≤ x24.toInt by omega) (show x24.toInt < 48 by omega) dX11_shown_37 (fun x25 c26 rx25 tx25 => ?_)
      have hox25 := c26
      replace hM := hM.rd (sI_at hox25)
      exact tk_iret hC hr hlocks hK ⟨hT, hF, hM.ret rfl, (Or.inl ⟨(show 0 ≤ a1.toInt by omega), (show a1.toInt ≤ 3 by omega), (show 0 ≤ a2.toInt by omega), (show a2.toInt ≤ 11 by omega), ⟨x8, c22, (show 1 ≤ x8.toInt by omega), (show x8.toInt ≤ 4 by omega)⟩, ⟨x18, c19, (show 1 ≤ x18.toInt by omega), (show x18.toInt ≤ 12 by omega)⟩⟩)⟩ hw dX11_shown_38
abbrev Pz_X11_hasCorner_1 (ad : Nat → Nat) (cy : Nat → ClassId) (B : Int) (qr : Nat) (s1 : Int) (a1 : Int32) (w0 : va_W) : Int32 → va_W → Prop := fun r u => TW ksC ad cy B qr s1 u ∧ FE ksC ([] : List (Nat × Nat × Nat)) w0 u ∧ Ev (fun n => m_X11_hasCorner n 0 a1.toInt (sI w0)) (r.toInt, sI u) ∧ ((r = 0) ∨ (r = 1 ∧ 0 ≤ a1.toInt ∧ a1.toInt ≤ 9 ∧ (∃ y : Int32, gi u 39 8 = y ∧ 1 ≤ y.toInt ∧ y.toInt ≤ 10)))
set_option maxHeartbeats 4000000 in
set_option maxRecDepth 100000 in
theorem kz_X11_hasCorner_1 (l : Launch) (adK adV : Nat → Nat) (dC : Nat → ClassId) (dI : Nat → Nat → Nat) (cy : Nat → ClassId) (ad : Nat → Nat) (B : Int) (hB0 : 2147483648 ≤ B) (hB1 : B ≤ 1152921504606846976) (qr : Nat) (s1 : Int)  (a1 : Int32) (w0 : va_W) (sz : Nat) (hT : TW ksC ad cy B qr s1 w0)  : Met l yX11_hasCorner (wu yX11_hasCorner cX11_hasCorner 2 (some .boolean)) ({ frames := 1, cells := 0, slots := 0, locals := 12 }) (va_Pc [.ref (ad 0), .int a1] (wpreS adK adV dC dI cy sz w0)) (va_Qi (Pz_X11_hasCorner_1 ad cy B qr s1 a1 w0) (fun u : va_W => wpost dC dI cy (va_A w0 sz) u) (va_A w0 sz)) 0 0 (va_A w0 sz) := by
  refine Met.ofW (cc := cX11_hasCorner) (maxL := 2) (ret := (some .boolean)) (by decide) rfl ?_
  intro p e s m args below meth c s₁ Bk hml hv
  obtain ⟨rfl, ⟨hsz, hP, hK, hD0⟩, hE, hSR⟩ := hv
  have hx := Bk.exec
  have hb := Bk.bytes
  have hr := Bk.returns
  have hlocks := Bk.notSynchronized
  have hC : CallFix p m c cX11_hasCorner 2 s _ (wu yX11_hasCorner cX11_hasCorner 2 (some .boolean)) RX11 := ⟨hx, hb, hml, findClass_of_methodNamed Bk.named, atoms_spec (ws := (wu yX11_hasCorner cX11_hasCorner 2 (some .boolean))) Bk.pre⟩
  subst hsz
  have hD := hD0.self (sz := s.heap.size)
  generalize hAe : va_A w0 s.heap.size = A at hD hE ⊢
  have hA : ∀ q : Nat, s.heap.size ≤ q → A q := fun q h => by rw [← hAe]; exact Or.inr h
  have hw : Wd dC dI A s.heap s.heap [] w0 := ⟨hP, hD, va_S.rf⟩
  have hF : FE ksC ([] : List (Nat × Nat × Nat)) w0 w0 := FE.rf
  have hl := lv_entry ([.ref (ad 0), .int a1]) (n := 2) (Nat.le_of_ble_eq_true rfl)
  rw [lg_entry_eq]
  generalize (lg_sl ([.ref (ad 0), .int a1]) ++ List.replicate (2 - (lg_sl ([.ref (ad 0), .int a1])).length) Slot.unset).toArray = ls at hl ⊢
  have hl : lv_has ls 2 [(0, .ref (ad 0)), (1, .int a1)] := hl
  generalize hloc : ([] : List Loc) = locs at hw ⊢
  have hinX11 : ∀ w ∈ u_ws RX11 TX11 13, w ∈ (wu yX11_hasCorner cX11_hasCorner 2 (some .boolean)) := fun _ h => List.mem_cons_of_mem _ (up_70 h)
  have hinX5 : ∀ w ∈ u_ws RX5 TX5 14, w ∈ (wu yX11_hasCorner cX11_hasCorner 2 (some .boolean)) := fun _ h => List.mem_cons_of_mem _ (up_76 h)
  have hinX7 : ∀ w ∈ u_ws RX7 TX7 12, w ∈ (wu yX11_hasCorner cX11_hasCorner 2 (some .boolean)) := fun _ h => List.mem_cons_of_mem _ (up_73 h)
  have J22 : ∀ (H : Heap) (locs : List Loc) (ls : Array Slot) (w1 : va_W), Wd dC dI A s.heap H locs w1 → TW ksC ad cy B qr s1 w1 → FE ksC ([] : List (Nat × Nat × Nat)) w0 w1 → TT (fun n => m_X11_hasCorner n 0 a1.toInt (sI w0)) (fun n => b_X11_hasCorner_22 n 0 (sI w1)) → lv_has ls 2 [(0, .ref (ad 0)), (1, .int a1)] → W p l e ({ frames := 1, cells := 0, slots := 0, locals := 12 }) s m (List.toArray [.ref (ad 0), .int a1]) below meth c H locs 0 0 (MQ below (va_Qi (Pz_X11_hasCorner_1 ad cy B qr s1 a1 w0) (fun u : va_W => wpost dC dI cy A u) A) (List.toArray [.ref (ad 0), .int a1]) s 0 0 A) (F0 m 22 ls []) := by
    intro H locs ls w1 hw hT hF hM hl
    refine lv_iconst (v := 0) hx hb dX11_hasCorner_22 (by decide) ?_
    exact tk_zret hC hr rfl hlocks hK ⟨hT, hF, hM.ret (by decide), (Or.inl rfl)⟩ hw dX11_hasCorner_23
  have hM : TT (fun n => m_X11_hasCorner n 0 a1.toInt (sI w0)) (fun n => m_X11_hasCorner n 0 a1.toInt (sI w0)) := TT.rf
  refine lv_iload_n hx hb dX11_hasCorner_0 rfl (lv_at hl 1 rfl) ?_
  refine lv_if_lt (tgt := 22) hx hb dX11_hasCorner_1 (by decide) (fun c2 => ?_) (fun c2 => ?_)
  · have c2 : a1.toInt < (0 : Int) := wk_lt.mp c2
    replace hM := hM.pos c2
    exact J22  s.heap locs ls w0   hw hT hF hM (lv_sub hl [0, 1] rfl)
  · have c2 : (0 : Int) ≤ a1.toInt := wk_ltF c2
    replace hM := hM.neg (Int.not_lt.mpr c2)
    refine lv_iload_n hx hb dX11_hasCorner_4 rfl (lv_at hl 1 rfl) ?_
    refine lv_aload_n hx hb dX11_hasCorner_5 rfl (lv_at hl 0 rfl) ?_
    refine tk_getA hC hK hw hT hinX11 kC_at0 (by decide) rfl 4 (by decide) (List.mem_cons_of_mem _ uw_1_7) rfl rfl dX11_hasCorner_6 ?_
    refine tk_getO hC hK hw hT hinX5 kC_at38 (by decide) rfl 0 (by decide) (List.mem_cons_of_mem _ uw_9_1) rfl rfl dX11_hasCorner_9 ?_
    refine tk_geti hC hK hw hT hinX7 kC_at39 (by decide) rfl 8 (by decide) (List.mem_cons_of_mem _ uw_35_23) rfl rfl dX11_hasCorner_12 (fun x3 c4 rx3 tx3 => ?_)
    replace hM := hM.rd (sI_at c4)
    refine lv_icmp_ge (tgt := 22) hx hb dX11_hasCorner_15 (by decide) (fun c5 => ?_) (fun c5 => ?_)
    · have c5 : x3.toInt ≤ a1.toInt := wk_le.mp c5
      replace hM := hM.pos c5
      exact J22  s.heap locs ls w0   hw hT hF hM (lv_sub hl [0, 1] rfl)
    · have c5 : a1.toInt < x3.toInt := wk_leF c5
      replace hM := hM.neg (Int.not_le.mpr c5)
      refine lv_iconst (v := 1) hx hb dX11_hasCorner_18 (by decide) ?_
      refine lv_goto (tgt := 23) hx hb dX11_hasCorner_19 (by decide) ?_
      exact tk_zret hC hr rfl hlocks hK ⟨hT, hF, hM.ret (by decide), (Or.inr ⟨rfl, (show 0 ≤ a1.toInt by omega), (show a1.toInt ≤ 9 by omega), ⟨x3, c4, (show 1 ≤ x3.toInt by omega), (show x3.toInt ≤ 10 from tx3)⟩⟩)⟩ hw dX11_hasCorner_23
abbrev Pz_X11_errand_1 (ad : Nat → Nat) (cy : Nat → ClassId) (B : Int) (qr : Nat) (s1 : Int) (a1 : Int32) (a2 : Int32) (w0 : va_W) : Int32 → va_W → Prop := fun r u => TW ksC ad cy B qr s1 u ∧ FE ksC [(5, 10, 10), (34, 0, 6), (35, 0, 6)] w0 u ∧ Ev (fun n => m_X11_errand n 0 a1.toInt a2.toInt (sI w0)) (r.toInt, sI u) ∧ ((r = (-2)) ∨ (0 ≤ r.toInt ∧ r.toInt ≤ 6 ∧ (-1) ≤ a1.toInt ∧ a1.toInt ≤ 9 ∧ (∃ y : Int32, gi u 38 10 = y ∧ 0 ≤ y.toInt ∧ y.toInt ≤ 6)))
set_option maxHeartbeats 4000000 in
set_option maxRecDepth 100000 in
theorem kz_X11_errand_1 (l : Launch) (adK adV : Nat → Nat) (dC : Nat → ClassId) (dI : Nat → Nat → Nat) (cy : Nat → ClassId) (ad : Nat → Nat) (B : Int) (hB0 : 2147483648 ≤ B) (hB1 : B ≤ 1152921504606846976) (qr : Nat) (s1 : Int)  (a1 : Int32) (a2 : Int32) (w0 : va_W) (sz : Nat) (hT : TW ksC ad cy B qr s1 w0)  : Met l yX11_errand (wu yX11_errand cX11_errand 3 (some .int)) ({ frames := 2, cells := 0, slots := 0, locals := 33 }) (va_Pc [.ref (ad 0), .int a1, .int a2] (wpreS adK adV dC dI cy sz w0)) (va_Qi (Pz_X11_errand_1 ad cy B qr s1 a1 a2 w0) (fun u : va_W => wpost dC dI cy (va_A w0 sz) u) (va_A w0 sz)) 0 0 (va_A w0 sz) := by
  refine Met.ofW (cc := cX11_errand) (maxL := 3) (ret := (some .int)) (by decide) rfl ?_
  intro p e s m args below meth c s₁ Bk hml hv
  obtain ⟨rfl, ⟨hsz, hP, hK, hD0⟩, hE, hSR⟩ := hv
  have hx := Bk.exec
  have hb := Bk.bytes
  have hr := Bk.returns
  have hlocks := Bk.notSynchronized
  have hC : CallFix p m c cX11_errand 3 s _ (wu yX11_errand cX11_errand 3 (some .int)) RX11 := ⟨hx, hb, hml, findClass_of_methodNamed Bk.named, atoms_spec (ws := (wu yX11_errand cX11_errand 3 (some .int))) Bk.pre⟩
  subst hsz
  have hD := hD0.self (sz := s.heap.size)
  generalize hAe : va_A w0 s.heap.size = A at hD hE ⊢
  have hA : ∀ q : Nat, s.heap.size ≤ q → A q := fun q h => by rw [← hAe]; exact Or.inr h
  have hw : Wd dC dI A s.heap s.heap [] w0 := ⟨hP, hD, va_S.rf⟩
  have hF : FE ksC [(5, 10, 10), (34, 0, 6), (35, 0, 6)] w0 w0 := FE.rf
  have hl := lv_entry ([.ref (ad 0), .int a1, .int a2]) (n := 3) (Nat.le_of_ble_eq_true rfl)
  rw [lg_entry_eq]
  generalize (lg_sl ([.ref (ad 0), .int a1, .int a2]) ++ List.replicate (3 - (lg_sl ([.ref (ad 0), .int a1, .int a2])).length) Slot.unset).toArray = ls at hl ⊢
  have hl : lv_has ls 3 [(0, .ref (ad 0)), (1, .int a1), (2, .int a2)] := hl
  generalize hloc : ([] : List Loc) = locs at hw ⊢
  have hinX11 : ∀ w ∈ u_ws RX11 TX11 13, w ∈ (wu yX11_errand cX11_errand 3 (some .int)) := fun _ h => List.mem_cons_of_mem _ (up_70 h)
  have hinX5 : ∀ w ∈ u_ws RX5 TX5 14, w ∈ (wu yX11_errand cX11_errand 3 (some .int)) := fun _ h => List.mem_cons_of_mem _ (up_76 h)
  have J48 : ∀ (H : Heap) (locs : List Loc) (ls : Array Slot) (w1 : va_W), Wd dC dI A s.heap H locs w1 → TW ksC ad cy B qr s1 w1 → FE ksC [(5, 10, 10), (34, 0, 6), (35, 0, 6)] w0 w1 → TT (fun n => m_X11_errand n 0 a1.toInt a2.toInt (sI w0)) (fun n => b_X11_errand_48 n 0 (sI w1)) → lv_has ls 3 [(0, .ref (ad 0)), (1, .int a1), (2, .int a2)] → W p l e ({ frames := 2, cells := 0, slots := 0, locals := 33 }) s m (List.toArray [.ref (ad 0), .int a1, .int a2]) below meth c H locs 0 0 (MQ below (va_Qi (Pz_X11_errand_1 ad cy B qr s1 a1 a2 w0) (fun u : va_W => wpost dC dI cy A u) A) (List.toArray [.ref (ad 0), .int a1, .int a2]) s 0 0 A) (F0 m 48 ls []) := by
    intro H locs ls w1 hw hT hF hM hl
    refine lv_bipush (v := (-2)) hx hb dX11_errand_48 (by decide) ?_
    exact tk_iret hC hr hlocks hK ⟨hT, hF, hM.ret (by decide), (Or.inl rfl)⟩ hw dX11_errand_50
  have hM : TT (fun n => m_X11_errand n 0 a1.toInt a2.toInt (sI w0)) (fun n => m_X11_errand n 0 a1.toInt a2.toInt (sI w0)) := TT.rf
  refine lv_iload_n hx hb dX11_errand_0 rfl (lv_at hl 1 rfl) ?_
  refine lv_iconst (v := (-1)) hx hb dX11_errand_1 (by decide) ?_
  refine lv_icmp_ne (tgt := 15) hx hb dX11_errand_2 (by decide) (fun c2 => ?_) (fun c2 => ?_)
  · have c2 : ¬ a1.toInt = (-1 : Int) := wk_eqF c2
    replace hM := hM.pos c2
    refine lv_aload_n hx hb dX11_errand_15 rfl (lv_at hl 0 rfl) ?_
    refine lv_iload_n hx hb dX11_errand_16 rfl (lv_at hl 1 rfl) ?_
    refine tk_Vi hC hK hw hT hA hE hSR kC_at0 (by decide) rfl (kz_X11_hasCorner_1 l adK adV dC dI cy ad B (by omega) (by omega) qr s1   a1 w0 s.heap.size hT ) (cwV 1 hC.2.2.2.2 uV_RX11_176 rfl rfl rfl (by decide +kernel) ⟨Nat.le_of_ble_eq_true rfl, Nat.le_of_ble_eq_true rfl⟩) rfl hl.1 rfl (Nat.le_of_ble_eq_true rfl) dX11_errand_17 (fun r3 w5 H locs hp4 hw => ?_)
    obtain ⟨hT, k6, hv12, hg11⟩ := hp4
    have hF := hF.tr k6 (by decide)
    rcases hg11 with rfl | ⟨rfl, g7, g8, ⟨x9, c10, rx9, tx9⟩⟩
    · replace hM := hM.call (r' := 0) hv12 (by decide)
      refine lv_if_eq (tgt := 48) hx hb dX11_errand_20 (by decide) (fun _ => ?_) (fun c => absurd (by decide) c)
      replace hM := hM.pos (by decide)
      exact J48  H locs ls w5   hw hT hF hM (lv_sub hl [0, 1, 2] rfl)
    · replace hM := hM.call (r' := 1) hv12 (by decide)
      refine lv_if_eq (tgt := 48) hx hb dX11_errand_20 (by decide) (fun c => absurd c (by decide)) (fun _ => ?_)
      replace hM := hM.neg (by decide)
      refine lv_aload_n hx hb dX11_errand_23 rfl (lv_at hl 0 rfl) ?_
      refine lv_iload_n hx hb dX11_errand_24 rfl (lv_at hl 2 rfl) ?_
      refine tk_Vi hC hK hw hT hA hE hSR kC_at0 (by decide) rfl (kz_X11_hasCorner_1 l adK adV dC dI cy ad B (by omega) (by omega) qr s1   a2 w5 H.size hT ) (cwV 1 hC.2.2.2.2 uV_RX11_176 rfl rfl rfl (by decide +kernel) ⟨Nat.le_of_ble_eq_true rfl, Nat.le_of_ble_eq_true rfl⟩) rfl hl.1 rfl (Nat.le_of_ble_eq_true rfl) dX11_errand_25 (fun r13 w15 H locs hp14 hw => ?_)
      obtain ⟨hT, k16, hv22, hg21⟩ := hp14
      have hF := hF.tr k16 (by decide)
      have c23 := k16.gi kC_at39 (by decide) c10
      rcases hg21 with rfl | ⟨rfl, g17, g18, ⟨x19, c20, rx19, tx19⟩⟩
      · replace hM := hM.call (r' := 0) hv22 (by decide)
        refine lv_if_eq (tgt := 48) hx hb dX11_errand_28 (by decide) (fun _ => ?_) (fun c => absurd (by decide) c)
        replace hM := hM.pos (by decide)
        exact J48  H locs ls w15   hw hT hF hM (lv_sub hl [0, 1, 2] rfl)
      · replace hM := hM.call (r' := 1) hv22 (by decide)
        have ex19 : x19.toInt = x9.toInt := by rw [← c23.symm.trans c20]
        refine lv_if_eq (tgt := 48) hx hb dX11_errand_28 (by decide) (fun c => absurd c (by decide)) (fun _ => ?_)
        replace hM := hM.neg (by decide)
        refine lv_iload_n hx hb dX11_errand_31 rfl (lv_at hl 1 rfl) ?_
        refine lv_iload_n hx hb dX11_errand_32 rfl (lv_at hl 2 rfl) ?_
        refine lv_icmp_eq (tgt := 48) hx hb dX11_errand_33 (by decide) (fun c24 => ?_) (fun c24 => ?_)
        · have c24 : a1.toInt = a2.toInt := wk_eq.mp c24
          replace hM := hM.pos c24
          exact J48  H locs ls w15   hw hT hF hM (lv_sub hl [0, 1, 2] rfl)
        · have c24 : ¬ a1.toInt = a2.toInt := wk_eqF c24
          replace hM := hM.neg c24
          refine lv_aload_n hx hb dX11_errand_36 rfl (lv_at hl 0 rfl) ?_
          refine tk_getA hC hK hw hT hinX11 kC_at0 (by decide) rfl 4 (by decide) (List.mem_cons_of_mem _ uw_1_7) rfl rfl dX11_errand_37 ?_
          refine tk_geti hC hK hw hT hinX5 kC_at38 (by decide) rfl 10 (by decide) (List.mem_cons_of_mem _ uw_59_8) rfl rfl dX11_errand_40 (fun x25 c26 rx25 tx25 => ?_)
          replace hM := hM.rd (sI_at c26)
          refine lv_bipush (v := 6) hx hb dX11_errand_43 (by decide) ?_
          refine lv_icmp_lt (tgt := 51) hx hb dX11_errand_45 (by decide) (fun c27 => ?_) (fun c27 => ?_)
          · have c27 : x25.toInt < (6 : Int) := wk_lt.mp c27
            replace hM := hM.pos c27
            refine lv_aload_n hx hb dX11_errand_51 rfl (lv_at hl 0 rfl) ?_
            refine tk_getA hC hK hw hT hinX11 kC_at0 (by decide) rfl 4 (by decide) (List.mem_cons_of_mem _ uw_1_7) rfl rfl dX11_errand_52 ?_
            refine tk_getO hC hK hw hT hinX5 kC_at38 (by decide) rfl 3 (by decide) (List.mem_cons_of_mem _ uw_59_9) rfl rfl dX11_errand_55 ?_
            refine lv_aload_n hx hb dX11_errand_58 rfl (lv_at hl 0 rfl) ?_
            refine tk_getA hC hK hw hT hinX11 kC_at0 (by decide) rfl 4 (by decide) (List.mem_cons_of_mem _ uw_1_7) rfl rfl dX11_errand_59 ?_
            refine tk_geti hC hK hw hT hinX5 kC_at38 (by decide) rfl 10 (by decide) (List.mem_cons_of_mem _ uw_59_8) rfl rfl dX11_errand_62 (fun x28 c29 rx28 tx28 => ?_)
            refine wk_top x25 (c29.symm.trans c26) ?_
            replace hM := hM.rd (sI_at c26)
            refine lv_iload_n hx hb dX11_errand_65 rfl (lv_at hl 1 rfl) ?_
            refine tk_iast hC hK hw hT kC_at50 (by decide) rfl rfl (show 0 ≤ x25.toInt from rx25) (show x25.toInt < 6 by omega) (show 0 ≤ a1.toInt by omega) (show a1.toInt ≤ 9 by omega) dX11_errand_66 (fun H locs w30 hw hT k32 c31 => ?_)
            replace hM := hM.wr (sI_up k32 c31)
            have hF := hF.put kC_at50 (inE_of (a := 0) (b := 6) (by decide) (show 0 ≤ x25.toInt.toNat by omega) (show x25.toInt.toNat ≤ 6 by omega)) k32
            have c33 := k32.gi (Or.inl (tk_ne kC_at39 kC_at50 (by decide))) c23
            have c34 := k32.gi (Or.inl (tk_ne kC_at38 kC_at50 (by decide))) c26
            refine lv_aload_n hx hb dX11_errand_67 rfl (lv_at hl 0 rfl) ?_
            refine tk_getA hC hK hw hT hinX11 kC_at0 (by decide) rfl 4 (by decide) (List.mem_cons_of_mem _ uw_1_7) rfl rfl dX11_errand_68 ?_
            refine tk_getO hC hK hw hT hinX5 kC_at38 (by decide) rfl 4 (by decide) (List.mem_cons_of_mem _ uw_59_10) rfl rfl dX11_errand_71 ?_
            refine lv_aload_n hx hb dX11_errand_74 rfl (lv_at hl 0 rfl) ?_
            refine tk_getA hC hK hw hT hinX11 kC_at0 (by decide) rfl 4 (by decide) (List.mem_cons_of_mem _ uw_1_7) rfl rfl dX11_errand_75 ?_
            refine tk_geti hC hK hw hT hinX5 kC_at38 (by decide) rfl 10 (by decide) (List.mem_cons_of_mem _ uw_59_8) rfl rfl dX11_errand_78 (fun x35 c36 rx35 tx35 => ?_)
            refine wk_top x25 (c36.symm.trans c34) ?_
            replace hM := hM.rd (sI_at c34)
            refine lv_iload_n hx hb dX11_errand_81 rfl (lv_at hl 2 rfl) ?_
            refine tk_iast hC hK hw hT kC_at51 (by decide) rfl rfl (show 0 ≤ x25.toInt from rx25) (show x25.toInt < 6 by omega) (show 0 ≤ a2.toInt by omega) (show a2.toInt ≤ 9 by omega) dX11_errand_82 (fun H locs w37 hw hT k39 c38 => ?_)
            replace hM := hM.wr (sI_up k39 c38)
            have hF := hF.put kC_at51 (inE_of (a := 0) (b := 6) (by decide) (show 0 ≤ x25.toInt.toNat by omega) (show x25.toInt.toNat ≤ 6 by omega)) k39
            have c40 := k39.gi (Or.inl (tk_ne kC_at39 kC_at51 (by decide))) c33
            have c41 := k39.gi (Or.inl (tk_ne kC_at38 kC_at51 (by decide))) c34
            refine lv_aload_n hx hb dX11_errand_83 rfl (lv_at hl 0 rfl) ?_
            refine tk_getA hC hK hw hT hinX11 kC_at0 (by decide) rfl 4 (by decide) (List.mem_cons_of_mem _ uw_1_7) rfl rfl dX11_errand_84 ?_
            refine lv_dup hx hb dX11_errand_87 rfl ?_
            refine tk_geti hC hK hw hT hinX5 kC_at38 (by decide) rfl 10 (by decide) (List.mem_cons_of_mem _ uw_59_8) rfl rfl dX11_errand_88 (fun x42 c43 rx42 tx42 => ?_)
            refine wk_top x25 (c43.symm.trans c41) ?_
            replace hM := hM.rd (sI_at c41)
            refine lv_iconst (v := 1) hx hb dX11_errand_91 (by decide) ?_
            refine lv_iadd hx hb dX11_errand_92 ?_
            refine lv_topi (fun x44 ex44 => ?_)
            have ezx44 := ex44
            have ex44 : x44.toInt = x25.toInt + (1 : Int) := by rw [ex44]; exact wk_add (show (-2147483648) ≤ x25.toInt + (1 : Int) by omega) (show x25.toInt + (1 : Int) ≤ 2147483647 by omega)
            replace hM := hM.lt ex44.symm
            refine tk_puti hC hK hw hT hinX5 tyX5_ok nmX5 kC_at38 (by decide) rfl rfl 10 (by decide) (List.mem_cons_of_mem _ uw_59_8) rfl rfl rfl rfl (show 0 ≤ x44.toInt by omega) (show x44.toInt ≤ 6 by omega) dX11_errand_93 (fun H locs w45 hw hT k47 c46 => ?_)
            replace hM := hM.wr (sI_up k47 c46)
            have hF := hF.put kC_at38 (k := 10) (by decide) k47
            have c48 := k47.gi (Or.inr (by decide)) c40
            refine lv_aload_n hx hb dX11_errand_96 rfl (lv_at hl 0 rfl) ?_
            refine tk_getA hC hK hw hT hinX11 kC_at0 (by decide) rfl 4 (by decide) (List.mem_cons_of_mem _ uw_1_7) rfl rfl dX11_errand_97 ?_
            refine tk_geti hC hK hw hT hinX5 kC_at38 (by decide) rfl 10 (by decide) (List.mem_cons_of_mem _ uw_59_8) rfl rfl dX11_errand_100 (fun x49 c50 rx49 tx49 => ?_)
            refine wk_top x44 (c50.symm.trans c46) ?_
            replace hM := hM.rd (sI_at c46)
            exact tk_iret hC hr hlocks hK ⟨hT, hF, hM.ret rfl, (Or.inr ⟨(show 0 ≤ x44.toInt by omega), (show x44.toInt ≤ 6 by omega), (show (-1) ≤ a1.toInt by omega), (show a1.toInt ≤ 9 by omega), ⟨x44, c46, (show 0 ≤ x44.toInt by omega), (show x44.toInt ≤ 6 by omega)⟩⟩)⟩ hw dX11_errand_103
          · have c27 : (6 : Int) ≤ x25.toInt := wk_ltF c27
            replace hM := hM.neg (Int.not_lt.mpr c27)
            exact J48  H locs ls w15   hw hT hF hM (lv_sub hl [0, 1, 2] rfl)
  · have c2 : a1.toInt = (-1 : Int) := wk_eq.mp c2
    replace hM := hM.neg (fun q => q c2)
    refine lv_aload_n hx hb dX11_errand_5 rfl (lv_at hl 0 rfl) ?_
    refine tk_getA hC hK hw hT hinX11 kC_at0 (by decide) rfl 4 (by decide) (List.mem_cons_of_mem _ uw_1_7) rfl rfl dX11_errand_6 ?_
    refine lv_iconst (v := 0) hx hb dX11_errand_9 (by decide) ?_
    refine tk_puti hC hK hw hT hinX5 tyX5_ok nmX5 kC_at38 (by decide) rfl rfl 10 (by decide) (List.mem_cons_of_mem _ uw_59_8) rfl rfl rfl rfl (by decide) (by decide) dX11_errand_10 (fun H locs w51 hw hT k53 c52 => ?_)
    replace hM := hM.wr (sI_upc k53 c52 (by decide))
    have hF := hF.put kC_at38 (k := 10) (by decide) k53
    refine lv_iconst (v := 0) hx hb dX11_errand_13 (by decide) ?_
    exact tk_iret hC hr hlocks hK ⟨hT, hF, hM.ret (by decide), (Or.inr ⟨(by decide), (by decide), (show (-1) ≤ a1.toInt by omega), (show a1.toInt ≤ 9 by omega), ⟨0, c52, (by decide), (by decide)⟩⟩)⟩ hw dX11_errand_14
abbrev Pz_X11_sight_1 (ad : Nat → Nat) (cy : Nat → ClassId) (B : Int) (qr : Nat) (s1 : Int) (a1 : Int32) (a2 : Int32) (w0 : va_W) : Int32 → va_W → Prop := fun r u => TW ksC ad cy B qr s1 u ∧ FE ksC [(5, 11, 11), (36, 0, 12), (37, 0, 12)] w0 u ∧ Ev (fun n => m_X11_sight n 0 a1.toInt a2.toInt (sI w0)) (r.toInt, sI u) ∧ ((r = (-2)) ∨ (0 ≤ r.toInt ∧ r.toInt ≤ 12 ∧ (-1) ≤ a1.toInt ∧ a1.toInt ≤ 11 ∧ (∃ y : Int32, gi u 38 11 = y ∧ 0 ≤ y.toInt ∧ y.toInt ≤ 12)))
set_option maxHeartbeats 4000000 in
set_option maxRecDepth 100000 in
theorem kz_X11_sight_1 (l : Launch) (adK adV : Nat → Nat) (dC : Nat → ClassId) (dI : Nat → Nat → Nat) (cy : Nat → ClassId) (ad : Nat → Nat) (B : Int) (hB0 : 2147483648 ≤ B) (hB1 : B ≤ 1152921504606846976) (qr : Nat) (s1 : Int)  (a1 : Int32) (a2 : Int32) (w0 : va_W) (sz : Nat) (hT : TW ksC ad cy B qr s1 w0)  : Met l yX11_sight (wu yX11_sight cX11_sight 3 (some .int)) ({ frames := 2, cells := 0, slots := 0, locals := 33 }) (va_Pc [.ref (ad 0), .int a1, .int a2] (wpreS adK adV dC dI cy sz w0)) (va_Qi (Pz_X11_sight_1 ad cy B qr s1 a1 a2 w0) (fun u : va_W => wpost dC dI cy (va_A w0 sz) u) (va_A w0 sz)) 0 0 (va_A w0 sz) := by
  refine Met.ofW (cc := cX11_sight) (maxL := 3) (ret := (some .int)) (by decide) rfl ?_
  intro p e s m args below meth c s₁ Bk hml hv
  obtain ⟨rfl, ⟨hsz, hP, hK, hD0⟩, hE, hSR⟩ := hv
  have hx := Bk.exec
  have hb := Bk.bytes
  have hr := Bk.returns
  have hlocks := Bk.notSynchronized
  have hC : CallFix p m c cX11_sight 3 s _ (wu yX11_sight cX11_sight 3 (some .int)) RX11 := ⟨hx, hb, hml, findClass_of_methodNamed Bk.named, atoms_spec (ws := (wu yX11_sight cX11_sight 3 (some .int))) Bk.pre⟩
  subst hsz
  have hD := hD0.self (sz := s.heap.size)
  generalize hAe : va_A w0 s.heap.size = A at hD hE ⊢
  have hA : ∀ q : Nat, s.heap.size ≤ q → A q := fun q h => by rw [← hAe]; exact Or.inr h
  have hw : Wd dC dI A s.heap s.heap [] w0 := ⟨hP, hD, va_S.rf⟩
  have hF : FE ksC [(5, 11, 11), (36, 0, 12), (37, 0, 12)] w0 w0 := FE.rf
  have hl := lv_entry ([.ref (ad 0), .int a1, .int a2]) (n := 3) (Nat.le_of_ble_eq_true rfl)
  rw [lg_entry_eq]
  generalize (lg_sl ([.ref (ad 0), .int a1, .int a2]) ++ List.replicate (3 - (lg_sl ([.ref (ad 0), .int a1, .int a2])).length) Slot.unset).toArray = ls at hl ⊢
  have hl : lv_has ls 3 [(0, .ref (ad 0)), (1, .int a1), (2, .int a2)] := hl
  generalize hloc : ([] : List Loc) = locs at hw ⊢
  have hinX11 : ∀ w ∈ u_ws RX11 TX11 13, w ∈ (wu yX11_sight cX11_sight 3 (some .int)) := fun _ h => List.mem_cons_of_mem _ (up_70 h)
  have hinX5 : ∀ w ∈ u_ws RX5 TX5 14, w ∈ (wu yX11_sight cX11_sight 3 (some .int)) := fun _ h => List.mem_cons_of_mem _ (up_76 h)
  have J48 : ∀ (H : Heap) (locs : List Loc) (ls : Array Slot) (w1 : va_W), Wd dC dI A s.heap H locs w1 → TW ksC ad cy B qr s1 w1 → FE ksC [(5, 11, 11), (36, 0, 12), (37, 0, 12)] w0 w1 → TT (fun n => m_X11_sight n 0 a1.toInt a2.toInt (sI w0)) (fun n => b_X11_sight_48 n 0 (sI w1)) → lv_has ls 3 [(0, .ref (ad 0)), (1, .int a1), (2, .int a2)] → W p l e ({ frames := 2, cells := 0, slots := 0, locals := 33 }) s m (List.toArray [.ref (ad 0), .int a1, .int a2]) below meth c H locs 0 0 (MQ below (va_Qi (Pz_X11_sight_1 ad cy B qr s1 a1 a2 w0) (fun u : va_W => wpost dC dI cy A u) A) (List.toArray [.ref (ad 0), .int a1, .int a2]) s 0 0 A) (F0 m 48 ls []) := by
    intro H locs ls w1 hw hT hF hM hl
    refine lv_bipush (v := (-2)) hx hb dX11_sight_48 (by decide) ?_
    exact tk_iret hC hr hlocks hK ⟨hT, hF, hM.ret (by decide), (Or.inl rfl)⟩ hw dX11_sight_50
  have hM : TT (fun n => m_X11_sight n 0 a1.toInt a2.toInt (sI w0)) (fun n => m_X11_sight n 0 a1.toInt a2.toInt (sI w0)) := TT.rf
  refine lv_iload_n hx hb dX11_sight_0 rfl (lv_at hl 1 rfl) ?_
  refine lv_iconst (v := (-1)) hx hb dX11_sight_1 (by decide) ?_
  refine lv_icmp_ne (tgt := 15) hx hb dX11_sight_2 (by decide) (fun c2 => ?_) (fun c2 => ?_)
  · have c2 : ¬ a1.toInt = (-1 : Int) := wk_eqF c2
    replace hM := hM.pos c2
    refine lv_aload_n hx hb dX11_sight_15 rfl (lv_at hl 0 rfl) ?_
    refine tk_getA hC hK hw hT hinX11 kC_at0 (by decide) rfl 4 (by decide) (List.mem_cons_of_mem _ uw_1_7) rfl rfl dX11_sight_16 ?_
    refine tk_getO hC hK hw hT hinX5 kC_at38 (by decide) rfl 0 (by decide) (List.mem_cons_of_mem _ uw_9_1) rfl rfl dX11_sight_19 ?_
    refine lv_iload_n hx hb dX11_sight_22 rfl (lv_at hl 1 rfl) ?_
    refine tk_Vi hC hK hw hT hA hE hSR kC_at39 (by decide) rfl (kz_X7_hasStreet_1 l adK adV dC dI cy ad B (by omega) (by omega) qr s1   a1 w0 s.heap.size hT ) (cwV 1 hC.2.2.2.2 uV_RX11_133 rfl rfl rfl (by decide +kernel) ⟨Nat.le_of_ble_eq_true rfl, Nat.le_of_ble_eq_true rfl⟩) rfl hl.1 rfl (Nat.le_of_ble_eq_true rfl) dX11_sight_23 (fun r3 w5 H locs hp4 hw => ?_)
    obtain ⟨hT, k6, hv12, hg11⟩ := hp4
    have hF := hF.tr k6 (by decide)
    rcases hg11 with rfl | ⟨rfl, g7, g8, ⟨x9, c10, rx9, tx9⟩⟩
    · replace hM := hM.call (r' := 0) hv12 (by decide)
      refine lv_if_eq (tgt := 48) hx hb dX11_sight_26 (by decide) (fun _ => ?_) (fun c => absurd (by decide) c)
      replace hM := hM.pos (by decide)
      exact J48  H locs ls w5   hw hT hF hM (lv_sub hl [0, 1, 2] rfl)
    · replace hM := hM.call (r' := 1) hv12 (by decide)
      refine lv_if_eq (tgt := 48) hx hb dX11_sight_26 (by decide) (fun c => absurd c (by decide)) (fun _ => ?_)
      replace hM := hM.neg (by decide)
      refine lv_iload_n hx hb dX11_sight_29 rfl (lv_at hl 2 rfl) ?_
      refine tk_Si hC hK hw hT hA hE hSR (kz_X11_isSign_1 l adK adV dC dI cy ad B (by omega) (by omega) qr s1   a2 w5 H.size hT ) (va_cwS 1 hC.2.2.2.2 uS_RX11_173 rfl rfl rfl (by decide +kernel) ⟨Nat.le_of_ble_eq_true rfl, Nat.le_of_ble_eq_true rfl⟩) rfl hl.1 rfl (Nat.le_of_ble_eq_true rfl) dX11_sight_30 (fun r13 w15 H locs hp14 hw => ?_)
      obtain ⟨hT, k16, hv20, hg19⟩ := hp14
      have hF := hF.tr k16 (by decide)
      have c21 := k16.gi kC_at39 (by decide) c10
      rcases hg19 with rfl | ⟨rfl, g17, g18⟩
      · replace hM := hM.call (r' := 0) hv20 (by decide)
        refine lv_if_eq (tgt := 48) hx hb dX11_sight_33 (by decide) (fun _ => ?_) (fun c => absurd (by decide) c)
        replace hM := hM.pos (by decide)
        exact J48  H locs ls w15   hw hT hF hM (lv_sub hl [0, 1, 2] rfl)
      · replace hM := hM.call (r' := 1) hv20 (by decide)
        refine lv_if_eq (tgt := 48) hx hb dX11_sight_33 (by decide) (fun c => absurd c (by decide)) (fun _ => ?_)
        replace hM := hM.neg (by decide)
        refine lv_aload_n hx hb dX11_sight_36 rfl (lv_at hl 0 rfl) ?_
        refine tk_getA hC hK hw hT hinX11 kC_at0 (by decide) rfl 4 (by decide) (List.mem_cons_of_mem _ uw_1_7) rfl rfl dX11_sight_37 ?_
        refine tk_geti hC hK hw hT hinX5 kC_at38 (by decide) rfl 11 (by decide) (List.mem_cons_of_mem _ uw_62_14) rfl rfl dX11_sight_40 (fun x22 c23 rx22 tx22 => ?_)
        replace hM := hM.rd (sI_at c23)
        refine lv_bipush (v := 12) hx hb dX11_sight_43 (by decide) ?_
        refine lv_icmp_lt (tgt := 51) hx hb dX11_sight_45 (by decide) (fun c24 => ?_) (fun c24 => ?_)
        · have c24 : x22.toInt < (12 : Int) := wk_lt.mp c24
          replace hM := hM.pos c24
          refine lv_aload_n hx hb dX11_sight_51 rfl (lv_at hl 0 rfl) ?_
          refine tk_getA hC hK hw hT hinX11 kC_at0 (by decide) rfl 4 (by decide) (List.mem_cons_of_mem _ uw_1_7) rfl rfl dX11_sight_52 ?_
          refine tk_getO hC hK hw hT hinX5 kC_at38 (by decide) rfl 5 (by decide) (List.mem_cons_of_mem _ uw_62_15) rfl rfl dX11_sight_55 ?_
          refine lv_aload_n hx hb dX11_sight_58 rfl (lv_at hl 0 rfl) ?_
          refine tk_getA hC hK hw hT hinX11 kC_at0 (by decide) rfl 4 (by decide) (List.mem_cons_of_mem _ uw_1_7) rfl rfl dX11_sight_59 ?_
          refine tk_geti hC hK hw hT hinX5 kC_at38 (by decide) rfl 11 (by decide) (List.mem_cons_of_mem _ uw_62_14) rfl rfl dX11_sight_62 (fun x25 c26 rx25 tx25 => ?_)
          refine wk_top x22 (c26.symm.trans c23) ?_
          replace hM := hM.rd (sI_at c23)
          refine lv_iload_n hx hb dX11_sight_65 rfl (lv_at hl 1 rfl) ?_
          refine tk_iast hC hK hw hT kC_at52 (by decide) rfl rfl (show 0 ≤ x22.toInt from rx22) (show x22.toInt < 12 by omega) (show 0 ≤ a1.toInt by omega) (show a1.toInt ≤ 11 by omega) dX11_sight_66 (fun H locs w27 hw hT k29 c28 => ?_)
          replace hM := hM.wr (sI_up k29 c28)
          have hF := hF.put kC_at52 (inE_of (a := 0) (b := 12) (by decide) (show 0 ≤ x22.toInt.toNat by omega) (show x22.toInt.toNat ≤ 12 by omega)) k29
          have c30 := k29.gi (Or.inl (tk_ne kC_at39 kC_at52 (by decide))) c21
          have c31 := k29.gi (Or.inl (tk_ne kC_at38 kC_at52 (by decide))) c23
          refine lv_aload_n hx hb dX11_sight_67 rfl (lv_at hl 0 rfl) ?_
          refine tk_getA hC hK hw hT hinX11 kC_at0 (by decide) rfl 4 (by decide) (List.mem_cons_of_mem _ uw_1_7) rfl rfl dX11_sight_68 ?_
          refine tk_getO hC hK hw hT hinX5 kC_at38 (by decide) rfl 6 (by decide) (List.mem_cons_of_mem _ uw_62_16) rfl rfl dX11_sight_71 ?_
          refine lv_aload_n hx hb dX11_sight_74 rfl (lv_at hl 0 rfl) ?_
          refine tk_getA hC hK hw hT hinX11 kC_at0 (by decide) rfl 4 (by decide) (List.mem_cons_of_mem _ uw_1_7) rfl rfl dX11_sight_75 ?_
          refine tk_geti hC hK hw hT hinX5 kC_at38 (by decide) rfl 11 (by decide) (List.mem_cons_of_mem _ uw_62_14) rfl rfl dX11_sight_78 (fun x32 c33 rx32 tx32 => ?_)
          refine wk_top x22 (c33.symm.trans c31) ?_
          replace hM := hM.rd (sI_at c31)
          refine lv_iload_n hx hb dX11_sight_81 rfl (lv_at hl 2 rfl) ?_
          refine tk_iast hC hK hw hT kC_at53 (by decide) rfl rfl (show 0 ≤ x22.toInt from rx22) (show x22.toInt < 12 by omega) (wk_i32 a2).1 (wk_i32 a2).2 dX11_sight_82 (fun H locs w34 hw hT k36 c35 => ?_)
          replace hM := hM.wr (sI_up k36 c35)
          have hF := hF.put kC_at53 (inE_of (a := 0) (b := 12) (by decide) (show 0 ≤ x22.toInt.toNat by omega) (show x22.toInt.toNat ≤ 12 by omega)) k36
          have c37 := k36.gi (Or.inl (tk_ne kC_at39 kC_at53 (by decide))) c30
          have c38 := k36.gi (Or.inl (tk_ne kC_at38 kC_at53 (by decide))) c31
          refine lv_aload_n hx hb dX11_sight_83 rfl (lv_at hl 0 rfl) ?_
          refine tk_getA hC hK hw hT hinX11 kC_at0 (by decide) rfl 4 (by decide) (List.mem_cons_of_mem _ uw_1_7) rfl rfl dX11_sight_84 ?_
          refine lv_dup hx hb dX11_sight_87 rfl ?_
          refine tk_geti hC hK hw hT hinX5 kC_at38 (by decide) rfl 11 (by decide) (List.mem_cons_of_mem _ uw_62_14) rfl rfl dX11_sight_88 (fun x39 c40 rx39 tx39 => ?_)
          refine wk_top x22 (c40.symm.trans c38) ?_
          replace hM := hM.rd (sI_at c38)
          refine lv_iconst (v := 1) hx hb dX11_sight_91 (by decide) ?_
          refine lv_iadd hx hb dX11_sight_92 ?_
          refine lv_topi (fun x41 ex41 => ?_)
          have ezx41 := ex41
          have ex41 : x41.toInt = x22.toInt + (1 : Int) := by rw [ex41]; exact wk_add (show (-2147483648) ≤ x22.toInt + (1 : Int) by omega) (show x22.toInt + (1 : Int) ≤ 2147483647 by omega)
          replace hM := hM.lt ex41.symm
          refine tk_puti hC hK hw hT hinX5 tyX5_ok nmX5 kC_at38 (by decide) rfl rfl 11 (by decide) (List.mem_cons_of_mem _ uw_62_14) rfl rfl rfl rfl (show 0 ≤ x41.toInt by omega) (show x41.toInt ≤ 12 by omega) dX11_sight_93 (fun H locs w42 hw hT k44 c43 => ?_)
          replace hM := hM.wr (sI_up k44 c43)
          have hF := hF.put kC_at38 (k := 11) (by decide) k44
          have c45 := k44.gi (Or.inr (by decide)) c37
          refine lv_aload_n hx hb dX11_sight_96 rfl (lv_at hl 0 rfl) ?_
          refine tk_getA hC hK hw hT hinX11 kC_at0 (by decide) rfl 4 (by decide) (List.mem_cons_of_mem _ uw_1_7) rfl rfl dX11_sight_97 ?_
          refine tk_geti hC hK hw hT hinX5 kC_at38 (by decide) rfl 11 (by decide) (List.mem_cons_of_mem _ uw_62_14) rfl rfl dX11_sight_100 (fun x46 c47 rx46 tx46 => ?_)
          refine wk_top x41 (c47.symm.trans c43) ?_
          replace hM := hM.rd (sI_at c43)
          exact tk_iret hC hr hlocks hK ⟨hT, hF, hM.ret rfl, (Or.inr ⟨(show 0 ≤ x41.toInt by omega), (show x41.toInt ≤ 12 by omega), (show (-1) ≤ a1.toInt by omega), (show a1.toInt ≤ 11 by omega), ⟨x41, c43, (show 0 ≤ x41.toInt by omega), (show x41.toInt ≤ 12 by omega)⟩⟩)⟩ hw dX11_sight_103
        · have c24 : (12 : Int) ≤ x22.toInt := wk_ltF c24
          replace hM := hM.neg (Int.not_lt.mpr c24)
          exact J48  H locs ls w15   hw hT hF hM (lv_sub hl [0, 1, 2] rfl)
  · have c2 : a1.toInt = (-1 : Int) := wk_eq.mp c2
    replace hM := hM.neg (fun q => q c2)
    refine lv_aload_n hx hb dX11_sight_5 rfl (lv_at hl 0 rfl) ?_
    refine tk_getA hC hK hw hT hinX11 kC_at0 (by decide) rfl 4 (by decide) (List.mem_cons_of_mem _ uw_1_7) rfl rfl dX11_sight_6 ?_
    refine lv_iconst (v := 0) hx hb dX11_sight_9 (by decide) ?_
    refine tk_puti hC hK hw hT hinX5 tyX5_ok nmX5 kC_at38 (by decide) rfl rfl 11 (by decide) (List.mem_cons_of_mem _ uw_62_14) rfl rfl rfl rfl (by decide) (by decide) dX11_sight_10 (fun H locs w48 hw hT k50 c49 => ?_)
    replace hM := hM.wr (sI_upc k50 c49 (by decide))
    have hF := hF.put kC_at38 (k := 11) (by decide) k50
    refine lv_iconst (v := 0) hx hb dX11_sight_13 (by decide) ?_
    exact tk_iret hC hr hlocks hK ⟨hT, hF, hM.ret (by decide), (Or.inr ⟨(by decide), (by decide), (show (-1) ≤ a1.toInt by omega), (show a1.toInt ≤ 11 by omega), ⟨0, c49, (by decide), (by decide)⟩⟩)⟩ hw dX11_sight_14
abbrev Pz_X11_came_1 (ad : Nat → Nat) (cy : Nat → ClassId) (B : Int) (qr : Nat) (s1 : Int) (a1 : Int32) (w0 : va_W) : Int32 → va_W → Prop := fun r u => TW ksC ad cy B qr s1 u ∧ FE ksC [(5, 12, 12), (38, 0, 8)] w0 u ∧ Ev (fun n => m_X11_came n 0 a1.toInt (sI w0)) (r.toInt, sI u) ∧ ((r = (-2)) ∨ (0 ≤ r.toInt ∧ r.toInt ≤ 8 ∧ (-1) ≤ a1.toInt ∧ a1.toInt ≤ 9 ∧ (∃ y : Int32, gi u 38 12 = y ∧ 0 ≤ y.toInt ∧ y.toInt ≤ 8)))
set_option maxHeartbeats 4000000 in
set_option maxRecDepth 100000 in
theorem kz_X11_came_1 (l : Launch) (adK adV : Nat → Nat) (dC : Nat → ClassId) (dI : Nat → Nat → Nat) (cy : Nat → ClassId) (ad : Nat → Nat) (B : Int) (hB0 : 2147483648 ≤ B) (hB1 : B ≤ 1152921504606846976) (qr : Nat) (s1 : Int)  (a1 : Int32) (w0 : va_W) (sz : Nat) (hT : TW ksC ad cy B qr s1 w0)  : Met l yX11_came (wu yX11_came cX11_came 2 (some .int)) ({ frames := 2, cells := 0, slots := 0, locals := 33 }) (va_Pc [.ref (ad 0), .int a1] (wpreS adK adV dC dI cy sz w0)) (va_Qi (Pz_X11_came_1 ad cy B qr s1 a1 w0) (fun u : va_W => wpost dC dI cy (va_A w0 sz) u) (va_A w0 sz)) 0 0 (va_A w0 sz) := by
  refine Met.ofW (cc := cX11_came) (maxL := 2) (ret := (some .int)) (by decide) rfl ?_
  intro p e s m args below meth c s₁ Bk hml hv
  obtain ⟨rfl, ⟨hsz, hP, hK, hD0⟩, hE, hSR⟩ := hv
  have hx := Bk.exec
  have hb := Bk.bytes
  have hr := Bk.returns
  have hlocks := Bk.notSynchronized
  have hC : CallFix p m c cX11_came 2 s _ (wu yX11_came cX11_came 2 (some .int)) RX11 := ⟨hx, hb, hml, findClass_of_methodNamed Bk.named, atoms_spec (ws := (wu yX11_came cX11_came 2 (some .int))) Bk.pre⟩
  subst hsz
  have hD := hD0.self (sz := s.heap.size)
  generalize hAe : va_A w0 s.heap.size = A at hD hE ⊢
  have hA : ∀ q : Nat, s.heap.size ≤ q → A q := fun q h => by rw [← hAe]; exact Or.inr h
  have hw : Wd dC dI A s.heap s.heap [] w0 := ⟨hP, hD, va_S.rf⟩
  have hF : FE ksC [(5, 12, 12), (38, 0, 8)] w0 w0 := FE.rf
  have hl := lv_entry ([.ref (ad 0), .int a1]) (n := 2) (Nat.le_of_ble_eq_true rfl)
  rw [lg_entry_eq]
  generalize (lg_sl ([.ref (ad 0), .int a1]) ++ List.replicate (2 - (lg_sl ([.ref (ad 0), .int a1])).length) Slot.unset).toArray = ls at hl ⊢
  have hl : lv_has ls 2 [(0, .ref (ad 0)), (1, .int a1)] := hl
  generalize hloc : ([] : List Loc) = locs at hw ⊢
  have hinX11 : ∀ w ∈ u_ws RX11 TX11 13, w ∈ (wu yX11_came cX11_came 2 (some .int)) := fun _ h => List.mem_cons_of_mem _ (up_70 h)
  have hinX5 : ∀ w ∈ u_ws RX5 TX5 14, w ∈ (wu yX11_came cX11_came 2 (some .int)) := fun _ h => List.mem_cons_of_mem _ (up_76 h)
  have J35 : ∀ (H : Heap) (locs : List Loc) (ls : Array Slot) (w1 : va_W), Wd dC dI A s.heap H locs w1 → TW ksC ad cy B qr s1 w1 → FE ksC [(5, 12, 12), (38, 0, 8)] w0 w1 → TT (fun n => m_X11_came n 0 a1.toInt (sI w0)) (fun n => b_X11_came_35 n 0 (sI w1)) → lv_has ls 2 [(0, .ref (ad 0)), (1, .int a1)] → W p l e ({ frames := 2, cells := 0, slots := 0, locals := 33 }) s m (List.toArray [.ref (ad 0), .int a1]) below meth c H locs 0 0 (MQ below (va_Qi (Pz_X11_came_1 ad cy B qr s1 a1 w0) (fun u : va_W => wpost dC dI cy A u) A) (List.toArray [.ref (ad 0), .int a1]) s 0 0 A) (F0 m 35 ls []) := by
    intro H locs ls w1 hw hT hF hM hl
    refine lv_bipush (v := (-2)) hx hb dX11_came_35 (by decide) ?_
    exact tk_iret hC hr hlocks hK ⟨hT, hF, hM.ret (by decide), (Or.inl rfl)⟩ hw dX11_came_37
  have hM : TT (fun n => m_X11_came n 0 a1.toInt (sI w0)) (fun n => m_X11_came n 0 a1.toInt (sI w0)) := TT.rf
  refine lv_iload_n hx hb dX11_came_0 rfl (lv_at hl 1 rfl) ?_
  refine lv_iconst (v := (-1)) hx hb dX11_came_1 (by decide) ?_
  refine lv_icmp_ne (tgt := 15) hx hb dX11_came_2 (by decide) (fun c2 => ?_) (fun c2 => ?_)
  · have c2 : ¬ a1.toInt = (-1 : Int) := wk_eqF c2
    replace hM := hM.pos c2
    refine lv_aload_n hx hb dX11_came_15 rfl (lv_at hl 0 rfl) ?_
    refine lv_iload_n hx hb dX11_came_16 rfl (lv_at hl 1 rfl) ?_
    refine tk_Vi hC hK hw hT hA hE hSR kC_at0 (by decide) rfl (kz_X11_hasCorner_1 l adK adV dC dI cy ad B (by omega) (by omega) qr s1   a1 w0 s.heap.size hT ) (cwV 1 hC.2.2.2.2 uV_RX11_176 rfl rfl rfl (by decide +kernel) ⟨Nat.le_of_ble_eq_true rfl, Nat.le_of_ble_eq_true rfl⟩) rfl hl.1 rfl (Nat.le_of_ble_eq_true rfl) dX11_came_17 (fun r3 w5 H locs hp4 hw => ?_)
    obtain ⟨hT, k6, hv12, hg11⟩ := hp4
    have hF := hF.tr k6 (by decide)
    rcases hg11 with rfl | ⟨rfl, g7, g8, ⟨x9, c10, rx9, tx9⟩⟩
    · replace hM := hM.call (r' := 0) hv12 (by decide)
      refine lv_if_eq (tgt := 35) hx hb dX11_came_20 (by decide) (fun _ => ?_) (fun c => absurd (by decide) c)
      replace hM := hM.pos (by decide)
      exact J35  H locs ls w5   hw hT hF hM (lv_sub hl [0, 1] rfl)
    · replace hM := hM.call (r' := 1) hv12 (by decide)
      refine lv_if_eq (tgt := 35) hx hb dX11_came_20 (by decide) (fun c => absurd c (by decide)) (fun _ => ?_)
      replace hM := hM.neg (by decide)
      refine lv_aload_n hx hb dX11_came_23 rfl (lv_at hl 0 rfl) ?_
      refine tk_getA hC hK hw hT hinX11 kC_at0 (by decide) rfl 4 (by decide) (List.mem_cons_of_mem _ uw_1_7) rfl rfl dX11_came_24 ?_
      refine tk_geti hC hK hw hT hinX5 kC_at38 (by decide) rfl 12 (by decide) (List.mem_cons_of_mem _ uw_64_12) rfl rfl dX11_came_27 (fun x13 c14 rx13 tx13 => ?_)
      replace hM := hM.rd (sI_at c14)
      refine lv_bipush (v := 8) hx hb dX11_came_30 (by decide) ?_
      refine lv_icmp_lt (tgt := 38) hx hb dX11_came_32 (by decide) (fun c15 => ?_) (fun c15 => ?_)
      · have c15 : x13.toInt < (8 : Int) := wk_lt.mp c15
        replace hM := hM.pos c15
        refine lv_aload_n hx hb dX11_came_38 rfl (lv_at hl 0 rfl) ?_
        refine tk_getA hC hK hw hT hinX11 kC_at0 (by decide) rfl 4 (by decide) (List.mem_cons_of_mem _ uw_1_7) rfl rfl dX11_came_39 ?_
        refine tk_getO hC hK hw hT hinX5 kC_at38 (by decide) rfl 7 (by decide) (List.mem_cons_of_mem _ uw_64_13) rfl rfl dX11_came_42 ?_
        refine lv_aload_n hx hb dX11_came_45 rfl (lv_at hl 0 rfl) ?_
        refine tk_getA hC hK hw hT hinX11 kC_at0 (by decide) rfl 4 (by decide) (List.mem_cons_of_mem _ uw_1_7) rfl rfl dX11_came_46 ?_
        refine tk_geti hC hK hw hT hinX5 kC_at38 (by decide) rfl 12 (by decide) (List.mem_cons_of_mem _ uw_64_12) rfl rfl dX11_came_49 (fun x16 c17 rx16 tx16 => ?_)
        refine wk_top x13 (c17.symm.trans c14) ?_
        replace hM := hM.rd (sI_at c14)
        refine lv_iload_n hx hb dX11_came_52 rfl (lv_at hl 1 rfl) ?_
        refine tk_iast hC hK hw hT kC_at54 (by decide) rfl rfl (show 0 ≤ x13.toInt from rx13) (show x13.toInt < 8 by omega) (wk_i32 a1).1 (wk_i32 a1).2 dX11_came_53 (fun H locs w18 hw hT k20 c19 => ?_)
        replace hM := hM.wr (sI_up k20 c19)
        have hF := hF.put kC_at54 (inE_of (a := 0) (b := 8) (by decide) (show 0 ≤ x13.toInt.toNat by omega) (show x13.toInt.toNat ≤ 8 by omega)) k20
        have c21 := k20.gi (Or.inl (tk_ne kC_at39 kC_at54 (by decide))) c10
        have c22 := k20.gi (Or.inl (tk_ne kC_at38 kC_at54 (by decide))) c14
        refine lv_aload_n hx hb dX11_came_54 rfl (lv_at hl 0 rfl) ?_
        refine tk_getA hC hK hw hT hinX11 kC_at0 (by decide) rfl 4 (by decide) (List.mem_cons_of_mem _ uw_1_7) rfl rfl dX11_came_55 ?_
        refine lv_dup hx hb dX11_came_58 rfl ?_
        refine tk_geti hC hK hw hT hinX5 kC_at38 (by decide) rfl 12 (by decide) (List.mem_cons_of_mem _ uw_64_12) rfl rfl dX11_came_59 (fun x23 c24 rx23 tx23 => ?_)
        refine wk_top x13 (c24.symm.trans c22) ?_
        replace hM := hM.rd (sI_at c22)
        refine lv_iconst (v := 1) hx hb dX11_came_62 (by decide) ?_
        refine lv_iadd hx hb dX11_came_63 ?_
        refine lv_topi (fun x25 ex25 => ?_)
        have ezx25 := ex25
        have ex25 : x25.toInt = x13.toInt + (1 : Int) := by rw [ex25]; exact wk_add (show (-2147483648) ≤ x13.toInt + (1 : Int) by omega) (show x13.toInt + (1 : Int) ≤ 2147483647 by omega)
        replace hM := hM.lt ex25.symm
        refine tk_puti hC hK hw hT hinX5 tyX5_ok nmX5 kC_at38 (by decide) rfl rfl 12 (by decide) (List.mem_cons_of_mem _ uw_64_12) rfl rfl rfl rfl (show 0 ≤ x25.toInt by omega) (show x25.toInt ≤ 8 by omega) dX11_came_64 (fun H locs w26 hw hT k28 c27 => ?_)
        replace hM := hM.wr (sI_up k28 c27)
        have hF := hF.put kC_at38 (k := 12) (by decide) k28
        have c29 := k28.gi (Or.inr (by decide)) c21
        refine lv_aload_n hx hb dX11_came_67 rfl (lv_at hl 0 rfl) ?_
        refine tk_getA hC hK hw hT hinX11 kC_at0 (by decide) rfl 4 (by decide) (List.mem_cons_of_mem _ uw_1_7) rfl rfl dX11_came_68 ?_
        refine tk_geti hC hK hw hT hinX5 kC_at38 (by decide) rfl 12 (by decide) (List.mem_cons_of_mem _ uw_64_12) rfl rfl dX11_came_71 (fun x30 c31 rx30 tx30 => ?_)
        refine wk_top x25 (c31.symm.trans c27) ?_
        replace hM := hM.rd (sI_at c27)
        exact tk_iret hC hr hlocks hK ⟨hT, hF, hM.ret rfl, (Or.inr ⟨(show 0 ≤ x25.toInt by omega), (show x25.toInt ≤ 8 by omega), (show (-1) ≤ a1.toInt by omega), (show a1.toInt ≤ 9 by omega), ⟨x25, c27, (show 0 ≤ x25.toInt by omega), (show x25.toInt ≤ 8 by omega)⟩⟩)⟩ hw dX11_came_74
      · have c15 : (8 : Int) ≤ x13.toInt := wk_ltF c15
        replace hM := hM.neg (Int.not_lt.mpr c15)
        exact J35  H locs ls w5   hw hT hF hM (lv_sub hl [0, 1] rfl)
  · have c2 : a1.toInt = (-1 : Int) := wk_eq.mp c2
    replace hM := hM.neg (fun q => q c2)
    refine lv_aload_n hx hb dX11_came_5 rfl (lv_at hl 0 rfl) ?_
    refine tk_getA hC hK hw hT hinX11 kC_at0 (by decide) rfl 4 (by decide) (List.mem_cons_of_mem _ uw_1_7) rfl rfl dX11_came_6 ?_
    refine lv_iconst (v := 0) hx hb dX11_came_9 (by decide) ?_
    refine tk_puti hC hK hw hT hinX5 tyX5_ok nmX5 kC_at38 (by decide) rfl rfl 12 (by decide) (List.mem_cons_of_mem _ uw_64_12) rfl rfl rfl rfl (by decide) (by decide) dX11_came_10 (fun H locs w32 hw hT k34 c33 => ?_)
    replace hM := hM.wr (sI_upc k34 c33 (by decide))
    have hF := hF.put kC_at38 (k := 12) (by decide) k34
    refine lv_iconst (v := 0) hx hb dX11_came_13 (by decide) ?_
    exact tk_iret hC hr hlocks hK ⟨hT, hF, hM.ret (by decide), (Or.inr ⟨(by decide), (by decide), (show (-1) ≤ a1.toInt by omega), (show a1.toInt ≤ 9 by omega), ⟨0, c33, (by decide), (by decide)⟩⟩)⟩ hw dX11_came_14
abbrev Pz_X7_daysWith_1 (ad : Nat → Nat) (cy : Nat → ClassId) (B : Int) (qr : Nat) (s1 : Int) (a1 : Int32) (a2 : Int32) (w0 : va_W) : Int32 → va_W → Prop := fun r u => TW ksC ad cy B qr s1 u ∧ FE ksC ([] : List (Nat × Nat × Nat)) w0 u ∧ Ev (fun n => m_X7_daysWith n 39 a1.toInt a2.toInt (sI w0)) (r.toInt, sI u) ∧ ((True))
set_option maxHeartbeats 4000000 in
set_option maxRecDepth 100000 in
theorem kz_X7_daysWith_1 (l : Launch) (adK adV : Nat → Nat) (dC : Nat → ClassId) (dI : Nat → Nat → Nat) (cy : Nat → ClassId) (ad : Nat → Nat) (B : Int) (hB0 : 2147483648 ≤ B) (hB1 : B ≤ 1152921504606846976) (qr : Nat) (s1 : Int)  (a1 : Int32) (ra1 : 0 ≤ a1.toInt) (ta1 : a1.toInt ≤ 11) (a2 : Int32) (ra2 : 1 ≤ a2.toInt) (ta2 : a2.toInt ≤ 3) (w0 : va_W) (sz : Nat) (hT : TW ksC ad cy B qr s1 w0)  : Met l yX7_daysWith (wu yX7_daysWith cX7_daysWith 5 (some .int)) ({ frames := 2, cells := 0, slots := 0, locals := 34 }) (va_Pc [.ref (ad 39), .int a1, .int a2] (wpreS adK adV dC dI cy sz w0)) (va_Qi (Pz_X7_daysWith_1 ad cy B qr s1 a1 a2 w0) (fun u : va_W => wpost dC dI cy (va_A w0 sz) u) (va_A w0 sz)) 0 0 (va_A w0 sz) := by
  refine Met.ofW (cc := cX7_daysWith) (maxL := 5) (ret := (some .int)) (by decide) rfl ?_
  intro p e s m args below meth c s₁ Bk hml hv
  obtain ⟨rfl, ⟨hsz, hP, hK, hD0⟩, hE, hSR⟩ := hv
  have hx := Bk.exec
  have hb := Bk.bytes
  have hr := Bk.returns
  have hlocks := Bk.notSynchronized
  have hC : CallFix p m c cX7_daysWith 5 s _ (wu yX7_daysWith cX7_daysWith 5 (some .int)) RX7 := ⟨hx, hb, hml, findClass_of_methodNamed Bk.named, atoms_spec (ws := (wu yX7_daysWith cX7_daysWith 5 (some .int))) Bk.pre⟩
  subst hsz
  have hD := hD0.self (sz := s.heap.size)
  generalize hAe : va_A w0 s.heap.size = A at hD hE ⊢
  have hA : ∀ q : Nat, s.heap.size ≤ q → A q := fun q h => by rw [← hAe]; exact Or.inr h
  have hw : Wd dC dI A s.heap s.heap [] w0 := ⟨hP, hD, va_S.rf⟩
  have hF : FE ksC ([] : List (Nat × Nat × Nat)) w0 w0 := FE.rf
  have hl := lv_entry ([.ref (ad 39), .int a1, .int a2]) (n := 5) (Nat.le_of_ble_eq_true rfl)
  rw [lg_entry_eq]
  generalize (lg_sl ([.ref (ad 39), .int a1, .int a2]) ++ List.replicate (5 - (lg_sl ([.ref (ad 39), .int a1, .int a2])).length) Slot.unset).toArray = ls at hl ⊢
  have hl : lv_has ls 5 [(0, .ref (ad 39)), (1, .int a1), (2, .int a2)] := hl
  generalize hloc : ([] : List Loc) = locs at hw ⊢
  have L5 : ∀ (n5 : Nat) (v5_3 : Int32) (v5_4 : Int32) (H : Heap) (locs : List Loc) (ls : Array Slot) (w1 : va_W), 0 ≤ a1.toInt → a1.toInt ≤ 11 → 1 ≤ a2.toInt → a2.toInt ≤ 3 → 0 ≤ v5_4.toInt → v5_4.toInt ≤ 7 → (7 - v5_4.toInt).toNat < n5 → Wd dC dI A s.heap H locs w1 → TW ksC ad cy B qr s1 w1 → FE ksC ([] : List (Nat × Nat × Nat)) w0 w1 → TT (fun n => m_X7_daysWith n 39 a1.toInt a2.toInt (sI w0)) (fun n => j_X7_daysWith 39 n 5 [a1.toInt, a2.toInt, v5_3.toInt, v5_4.toInt] (sI w1)) → lv_has ls 5 [(0, .ref (ad 39)), (1, .int a1), (2, .int a2), (3, .int v5_3), (4, .int v5_4)] → W p l e ({ frames := 2, cells := 0, slots := 0, locals := 34 }) s m (List.toArray [.ref (ad 39), .int a1, .int a2]) below meth c H locs 0 0 (MQ below (va_Qi (Pz_X7_daysWith_1 ad cy B qr s1 a1 a2 w0) (fun u : va_W => wpost dC dI cy A u) A) (List.toArray [.ref (ad 39), .int a1, .int a2]) s 0 0 A) (F0 m 5 ls []) := by
    intro n5
    induction n5 with
    | zero => intro v5_3 v5_4 H locs ls w1 r2 t3 r4 t5 r6 t7 hm5 hw hT hF hM hl; omega
    | succ n5 ih5 =>
      intro v5_3 v5_4 H locs ls w1 r2 t3 r4 t5 r6 t7 hm5 hw hT hF hM hl
      have J26 : ∀ (v26_3 : Int32) (H : Heap) (locs : List Loc) (ls : Array Slot) (w8 : va_W), 0 ≤ a1.toInt → a1.toInt ≤ 11 → 1 ≤ a2.toInt → a2.toInt ≤ 3 → 0 ≤ v5_4.toInt → v5_4.toInt ≤ 6 → Wd dC dI A s.heap H locs w8 → TW ksC ad cy B qr s1 w8 → FE ksC ([] : List (Nat × Nat × Nat)) w0 w8 → TT (fun n => m_X7_daysWith n 39 a1.toInt a2.toInt (sI w0)) (fun n => b_X7_daysWith_26 (j_X7_daysWith 39 n) n 39 (a1.toInt) (a2.toInt) (v26_3.toInt) (v5_4.toInt) (sI w8)) → lv_has ls 5 [(0, .ref (ad 39)), (1, .int a1), (2, .int a2), (3, .int v26_3), (4, .int v5_4)] → W p l e ({ frames := 2, cells := 0, slots := 0, locals := 34 }) s m (List.toArray [.ref (ad 39), .int a1, .int a2]) below meth c H locs 0 0 (MQ below (va_Qi (Pz_X7_daysWith_1 ad cy B qr s1 a1 a2 w0) (fun u : va_W => wpost dC dI cy A u) A) (List.toArray [.ref (ad 39), .int a1, .int a2]) s 0 0 A) (F0 m 26 ls []) := by
        intro v26_3 H locs ls w8 r9 t10 r11 t12 r13 t14 hw hT hF hM hl
        obtain ⟨x15, ex15⟩ : ∃ y : Int32, y = v5_4 + Int32.ofInt 1 := ⟨_, rfl⟩
        have erx15 := ex15
        refine lv_iinc (v := x15) (lv' := [(4, .int x15), (0, .ref (ad 39)), (1, .int a1), (2, .int a2), (3, .int v26_3)]) hx hb dX7_daysWith_26 hl (k := 4) rfl ex15.symm (by decide) rfl (fun ls hl => ?_)
        have ex15 : x15.toInt = v5_4.toInt + 1 := by rw [ex15]; exact wk_add (y := 1) (show -2147483648 ≤ v5_4.toInt + 1 by omega) (show v5_4.toInt + 1 ≤ 2147483647 by omega)
        replace hM := hM.lt ex15.symm
        refine lv_goto (tgt := 5) hx hb dX7_daysWith_29 (by decide) ?_
        exact ih5 v26_3 x15 H locs ls w8 (show 0 ≤ a1.toInt from r9) (show a1.toInt ≤ 11 from t10) (show 1 ≤ a2.toInt from r11) (show a2.toInt ≤ 3 from t12) (show 0 ≤ x15.toInt by omega) (show x15.toInt ≤ 7 by omega) (show (7 - x15.toInt).toNat < n5 by omega) hw hT hF hM (lv_sub hl [1, 2, 3, 4, 0] rfl)
      replace hM := hM.suc (fun _ => e_X7_daysWith_5)
      refine lv_iload hx hb dX7_daysWith_5 (lv_at hl 4 rfl) ?_
      refine lv_bipush (v := 7) hx hb dX7_daysWith_7 (by decide) ?_
      refine lv_icmp_ge (tgt := 32) hx hb dX7_daysWith_9 (by decide) (fun c16 => ?_) (fun c16 => ?_)
      · have c16 : (7 : Int) ≤ v5_4.toInt := wk_le.mp c16
        replace hM := hM.pos c16
        refine lv_iload_n hx hb dX7_daysWith_32 rfl (lv_at hl 3 rfl) ?_
        exact tk_iret hC hr hlocks hK ⟨hT, hF, hM.ret rfl, trivial⟩ hw dX7_daysWith_33
      · have c16 : v5_4.toInt < (7 : Int) := wk_leF c16
        replace hM := hM.neg (Int.not_le.mpr c16)
        refine lv_aload_n hx hb dX7_daysWith_12 rfl (lv_at hl 0 rfl) ?_
        refine lv_iload_n hx hb dX7_daysWith_13 rfl (lv_at hl 1 rfl) ?_
        refine lv_iload hx hb dX7_daysWith_14 (lv_at hl 4 rfl) ?_
        refine tk_Vi hC hK hw hT hA hE hSR kC_at39 (by decide) rfl (kz_X7_signOn_1 l adK adV dC dI cy ad B (by omega) (by omega) qr s1   a1 (show 0 ≤ a1.toInt from r2) (show a1.toInt ≤ 11 from t3) v5_4 (show 0 ≤ v5_4.toInt from r6) (show v5_4.toInt ≤ 6 by omega) w1 H.size hT ) (cwV 2 hC.2.2.2.2 uV_RX7_155 rfl rfl rfl (by decide +kernel) ⟨Nat.le_of_ble_eq_true rfl, Nat.le_of_ble_eq_true rfl⟩) rfl hl.1 rfl (Nat.le_of_ble_eq_true rfl) dX7_daysWith_16 (fun r17 w19 H locs hp18 hw => ?_)
        obtain ⟨hT, k20, hv24, hg23⟩ := hp18
        have hF := hF.tr k20 (by decide)
        obtain ⟨g21, g22⟩ := hg23
        replace hM := hM.call hv24 rfl
        refine lv_iload_n hx hb dX7_daysWith_19 rfl (lv_at hl 2 rfl) ?_
        refine lv_icmp_ne (tgt := 26) hx hb dX7_daysWith_20 (by decide) (fun c25 => ?_) (fun c25 => ?_)
        · have c25 : ¬ r17.toInt = a2.toInt := wk_eqF c25
          replace hM := hM.pos c25
          exact J26 v5_3 H locs ls w19 (show 0 ≤ a1.toInt from r2) (show a1.toInt ≤ 11 from t3) (show 1 ≤ a2.toInt from r4) (show a2.toInt ≤ 3 from t5) (show 0 ≤ v5_4.toInt from r6) (show v5_4.toInt ≤ 6 by omega)  hw hT hF hM (lv_sub hl [0, 1, 2, 3, 4] rfl)
        · have c25 : r17.toInt = a2.toInt := wk_eq.mp c25
          replace hM := hM.neg (fun q => q c25)
          have nx27 := wk_i32 v5_3
          obtain ⟨x26, ex26⟩ : ∃ y : Int32, y = v5_3 + Int32.ofInt 1 := ⟨_, rfl⟩
          have erx26 := ex26
          refine lv_iinc (v := x26) (lv' := [(3, .int x26), (0, .ref (ad 39)), (1, .int a1), (2, .int a2), (4, .int v5_4)]) hx hb dX7_daysWith_23 hl (k := 3) rfl ex26.symm (by decide) rfl (fun ls hl => ?_)
          replace hM := hM.lt (o32_e (f := fun x y => x + y) erx26 rfl (by decide))
          exact J26 x26 H locs ls w19 (show 0 ≤ a1.toInt from r2) (show a1.toInt ≤ 11 from t3) (show 1 ≤ a2.toInt from r4) (show a2.toInt ≤ 3 from t5) (show 0 ≤ v5_4.toInt from r6) (show v5_4.toInt ≤ 6 by omega)  hw hT hF hM (lv_sub hl [1, 2, 3, 0, 4] rfl)
  have hM : TT (fun n => m_X7_daysWith n 39 a1.toInt a2.toInt (sI w0)) (fun n => m_X7_daysWith n 39 a1.toInt a2.toInt (sI w0)) := TT.rf
  refine lv_iconst (v := 0) hx hb dX7_daysWith_0 (by decide) ?_
  refine lv_istore_n (lv' := [(3, .int 0), (0, .ref (ad 39)), (1, .int a1), (2, .int a2)]) hx hb dX7_daysWith_1 rfl hl (by decide) rfl (fun ls hl => ?_)
  refine lv_iconst (v := 0) hx hb dX7_daysWith_2 (by decide) ?_
  refine lv_istore (lv' := [(4, .int 0), (3, .int 0), (0, .ref (ad 39)), (1, .int a1), (2, .int a2)]) hx hb dX7_daysWith_3 hl (by decide) rfl (fun ls hl => ?_)
  exact L5 ((7 - (0 : Int)).toNat + 1) 0 0 s.heap locs ls w0 (show 0 ≤ a1.toInt from ra1) (show a1.toInt ≤ 11 from ta1) (show 1 ≤ a2.toInt from ra2) (show a2.toInt ≤ 3 from ta2) (by decide) (by decide) (Nat.lt_succ_self _) hw hT hF hM (lv_sub hl [2, 3, 4, 1, 0] rfl)
abbrev Pz_X7_daysWith_2 (ad : Nat → Nat) (cy : Nat → ClassId) (B : Int) (qr : Nat) (s1 : Int) (a1 : Int32) (a2 : Int32) (w0 : va_W) : Int32 → va_W → Prop := fun r u => TW ksC ad cy B qr s1 u ∧ FE ksC ([] : List (Nat × Nat × Nat)) w0 u ∧ Ev (fun n => m_X7_daysWith n 39 a1.toInt a2.toInt (sI w0)) (r.toInt, sI u) ∧ ((True))
set_option maxHeartbeats 4000000 in
set_option maxRecDepth 100000 in
theorem kz_X7_daysWith_2 (l : Launch) (adK adV : Nat → Nat) (dC : Nat → ClassId) (dI : Nat → Nat → Nat) (cy : Nat → ClassId) (ad : Nat → Nat) (B : Int) (hB0 : 2147483648 ≤ B) (hB1 : B ≤ 1152921504606846976) (qr : Nat) (s1 : Int)  (a1 : Int32) (ra1 : 0 ≤ a1.toInt) (ta1 : a1.toInt ≤ 11) (a2 : Int32) (ra2 : 0 ≤ a2.toInt) (ta2 : a2.toInt ≤ 3) (w0 : va_W) (sz : Nat) (hT : TW ksC ad cy B qr s1 w0)  : Met l yX7_daysWith (wu yX7_daysWith cX7_daysWith 5 (some .int)) ({ frames := 2, cells := 0, slots := 0, locals := 34 }) (va_Pc [.ref (ad 39), .int a1, .int a2] (wpreS adK adV dC dI cy sz w0)) (va_Qi (Pz_X7_daysWith_2 ad cy B qr s1 a1 a2 w0) (fun u : va_W => wpost dC dI cy (va_A w0 sz) u) (va_A w0 sz)) 0 0 (va_A w0 sz) := by
  refine Met.ofW (cc := cX7_daysWith) (maxL := 5) (ret := (some .int)) (by decide) rfl ?_
  intro p e s m args below meth c s₁ Bk hml hv
  obtain ⟨rfl, ⟨hsz, hP, hK, hD0⟩, hE, hSR⟩ := hv
  have hx := Bk.exec
  have hb := Bk.bytes
  have hr := Bk.returns
  have hlocks := Bk.notSynchronized
  have hC : CallFix p m c cX7_daysWith 5 s _ (wu yX7_daysWith cX7_daysWith 5 (some .int)) RX7 := ⟨hx, hb, hml, findClass_of_methodNamed Bk.named, atoms_spec (ws := (wu yX7_daysWith cX7_daysWith 5 (some .int))) Bk.pre⟩
  subst hsz
  have hD := hD0.self (sz := s.heap.size)
  generalize hAe : va_A w0 s.heap.size = A at hD hE ⊢
  have hA : ∀ q : Nat, s.heap.size ≤ q → A q := fun q h => by rw [← hAe]; exact Or.inr h
  have hw : Wd dC dI A s.heap s.heap [] w0 := ⟨hP, hD, va_S.rf⟩
  have hF : FE ksC ([] : List (Nat × Nat × Nat)) w0 w0 := FE.rf
  have hl := lv_entry ([.ref (ad 39), .int a1, .int a2]) (n := 5) (Nat.le_of_ble_eq_true rfl)
  rw [lg_entry_eq]
  generalize (lg_sl ([.ref (ad 39), .int a1, .int a2]) ++ List.replicate (5 - (lg_sl ([.ref (ad 39), .int a1, .int a2])).length) Slot.unset).toArray = ls at hl ⊢
  have hl : lv_has ls 5 [(0, .ref (ad 39)), (1, .int a1), (2, .int a2)] := hl
  generalize hloc : ([] : List Loc) = locs at hw ⊢
  have L5 : ∀ (n5 : Nat) (v5_3 : Int32) (v5_4 : Int32) (H : Heap) (locs : List Loc) (ls : Array Slot) (w1 : va_W), 0 ≤ a1.toInt → a1.toInt ≤ 11 → 0 ≤ a2.toInt → a2.toInt ≤ 3 → 0 ≤ v5_4.toInt → v5_4.toInt ≤ 7 → (7 - v5_4.toInt).toNat < n5 → Wd dC dI A s.heap H locs w1 → TW ksC ad cy B qr s1 w1 → FE ksC ([] : List (Nat × Nat × Nat)) w0 w1 → TT (fun n => m_X7_daysWith n 39 a1.toInt a2.toInt (sI w0)) (fun n => j_X7_daysWith 39 n 5 [a1.toInt, a2.toInt, v5_3.toInt, v5_4.toInt] (sI w1)) → lv_has ls 5 [(0, .ref (ad 39)), (1, .int a1), (2, .int a2), (3, .int v5_3), (4, .int v5_4)] → W p l e ({ frames := 2, cells := 0, slots := 0, locals := 34 }) s m (List.toArray [.ref (ad 39), .int a1, .int a2]) below meth c H locs 0 0 (MQ below (va_Qi (Pz_X7_daysWith_2 ad cy B qr s1 a1 a2 w0) (fun u : va_W => wpost dC dI cy A u) A) (List.toArray [.ref (ad 39), .int a1, .int a2]) s 0 0 A) (F0 m 5 ls []) := by
    intro n5
    induction n5 with
    | zero => intro v5_3 v5_4 H locs ls w1 r2 t3 r4 t5 r6 t7 hm5 hw hT hF hM hl; omega
    | succ n5 ih5 =>
      intro v5_3 v5_4 H locs ls w1 r2 t3 r4 t5 r6 t7 hm5 hw hT hF hM hl
      have J26 : ∀ (v26_3 : Int32) (H : Heap) (locs : List Loc) (ls : Array Slot) (w8 : va_W), 0 ≤ a1.toInt → a1.toInt ≤ 11 → 0 ≤ a2.toInt → a2.toInt ≤ 3 → 0 ≤ v5_4.toInt → v5_4.toInt ≤ 6 → Wd dC dI A s.heap H locs w8 → TW ksC ad cy B qr s1 w8 → FE ksC ([] : List (Nat × Nat × Nat)) w0 w8 → TT (fun n => m_X7_daysWith n 39 a1.toInt a2.toInt (sI w0)) (fun n => b_X7_daysWith_26 (j_X7_daysWith 39 n) n 39 (a1.toInt) (a2.toInt) (v26_3.toInt) (v5_4.toInt) (sI w8)) → lv_has ls 5 [(0, .ref (ad 39)), (1, .int a1), (2, .int a2), (3, .int v26_3), (4, .int v5_4)] → W p l e ({ frames := 2, cells := 0, slots := 0, locals := 34 }) s m (List.toArray [.ref (ad 39), .int a1, .int a2]) below meth c H locs 0 0 (MQ below (va_Qi (Pz_X7_daysWith_2 ad cy B qr s1 a1 a2 w0) (fun u : va_W => wpost dC dI cy A u) A) (List.toArray [.ref (ad 39), .int a1, .int a2]) s 0 0 A) (F0 m 26 ls []) := by
        intro v26_3 H locs ls w8 r9 t10 r11 t12 r13 t14 hw hT hF hM hl
        obtain ⟨x15, ex15⟩ : ∃ y : Int32, y = v5_4 + Int32.ofInt 1 := ⟨_, rfl⟩
        have erx15 := ex15
        refine lv_iinc (v := x15) (lv' := [(4, .int x15), (0, .ref (ad 39)), (1, .int a1), (2, .int a2), (3, .int v26_3)]) hx hb dX7_daysWith_26 hl (k := 4) rfl ex15.symm (by decide) rfl (fun ls hl => ?_)
        have ex15 : x15.toInt = v5_4.toInt + 1 := by rw [ex15]; exact wk_add (y := 1) (show -2147483648 ≤ v5_4.toInt + 1 by omega) (show v5_4.toInt + 1 ≤ 2147483647 by omega)
        replace hM := hM.lt ex15.symm
        refine lv_goto (tgt := 5) hx hb dX7_daysWith_29 (by decide) ?_
        exact ih5 v26_3 x15 H locs ls w8 (show 0 ≤ a1.toInt from r9) (show a1.toInt ≤ 11 from t10) (show 0 ≤ a2.toInt from r11) (show a2.toInt ≤ 3 from t12) (show 0 ≤ x15.toInt by omega) (show x15.toInt ≤ 7 by omega) (show (7 - x15.toInt).toNat < n5 by omega) hw hT hF hM (lv_sub hl [1, 2, 3, 4, 0] rfl)
      replace hM := hM.suc (fun _ => e_X7_daysWith_5)
      refine lv_iload hx hb dX7_daysWith_5 (lv_at hl 4 rfl) ?_
      refine lv_bipush (v := 7) hx hb dX7_daysWith_7 (by decide) ?_
      refine lv_icmp_ge (tgt := 32) hx hb dX7_daysWith_9 (by decide) (fun c16 => ?_) (fun c16 => ?_)
      · have c16 : (7 : Int) ≤ v5_4.toInt := wk_le.mp c16
        replace hM := hM.pos c16
        refine lv_iload_n hx hb dX7_daysWith_32 rfl (lv_at hl 3 rfl) ?_
        exact tk_iret hC hr hlocks hK ⟨hT, hF, hM.ret rfl, trivial⟩ hw dX7_daysWith_33
      · have c16 : v5_4.toInt < (7 : Int) := wk_leF c16
        replace hM := hM.neg (Int.not_le.mpr c16)
        refine lv_aload_n hx hb dX7_daysWith_12 rfl (lv_at hl 0 rfl) ?_
        refine lv_iload_n hx hb dX7_daysWith_13 rfl (lv_at hl 1 rfl) ?_
        refine lv_iload hx hb dX7_daysWith_14 (lv_at hl 4 rfl) ?_
        refine tk_Vi hC hK hw hT hA hE hSR kC_at39 (by decide) rfl (kz_X7_signOn_1 l adK adV dC dI cy ad B (by omega) (by omega) qr s1   a1 (show 0 ≤ a1.toInt from r2) (show a1.toInt ≤ 11 from t3) v5_4 (show 0 ≤ v5_4.toInt from r6) (show v5_4.toInt ≤ 6 by omega) w1 H.size hT ) (cwV 2 hC.2.2.2.2 uV_RX7_155 rfl rfl rfl (by decide +kernel) ⟨Nat.le_of_ble_eq_true rfl, Nat.le_of_ble_eq_true rfl⟩) rfl hl.1 rfl (Nat.le_of_ble_eq_true rfl) dX7_daysWith_16 (fun r17 w19 H locs hp18 hw => ?_)
        obtain ⟨hT, k20, hv24, hg23⟩ := hp18
        have hF := hF.tr k20 (by decide)
        obtain ⟨g21, g22⟩ := hg23
        replace hM := hM.call hv24 rfl
        refine lv_iload_n hx hb dX7_daysWith_19 rfl (lv_at hl 2 rfl) ?_
        refine lv_icmp_ne (tgt := 26) hx hb dX7_daysWith_20 (by decide) (fun c25 => ?_) (fun c25 => ?_)
        · have c25 : ¬ r17.toInt = a2.toInt := wk_eqF c25
          replace hM := hM.pos c25
          exact J26 v5_3 H locs ls w19 (show 0 ≤ a1.toInt from r2) (show a1.toInt ≤ 11 from t3) (show 0 ≤ a2.toInt from r4) (show a2.toInt ≤ 3 from t5) (show 0 ≤ v5_4.toInt from r6) (show v5_4.toInt ≤ 6 by omega)  hw hT hF hM (lv_sub hl [0, 1, 2, 3, 4] rfl)
        · have c25 : r17.toInt = a2.toInt := wk_eq.mp c25
          replace hM := hM.neg (fun q => q c25)
          have nx27 := wk_i32 v5_3
          obtain ⟨x26, ex26⟩ : ∃ y : Int32, y = v5_3 + Int32.ofInt 1 := ⟨_, rfl⟩
          have erx26 := ex26
          refine lv_iinc (v := x26) (lv' := [(3, .int x26), (0, .ref (ad 39)), (1, .int a1), (2, .int a2), (4, .int v5_4)]) hx hb dX7_daysWith_23 hl (k := 3) rfl ex26.symm (by decide) rfl (fun ls hl => ?_)
          replace hM := hM.lt (o32_e (f := fun x y => x + y) erx26 rfl (by decide))
          exact J26 x26 H locs ls w19 (show 0 ≤ a1.toInt from r2) (show a1.toInt ≤ 11 from t3) (show 0 ≤ a2.toInt from r4) (show a2.toInt ≤ 3 from t5) (show 0 ≤ v5_4.toInt from r6) (show v5_4.toInt ≤ 6 by omega)  hw hT hF hM (lv_sub hl [1, 2, 3, 0, 4] rfl)
  have hM : TT (fun n => m_X7_daysWith n 39 a1.toInt a2.toInt (sI w0)) (fun n => m_X7_daysWith n 39 a1.toInt a2.toInt (sI w0)) := TT.rf
  refine lv_iconst (v := 0) hx hb dX7_daysWith_0 (by decide) ?_
  refine lv_istore_n (lv' := [(3, .int 0), (0, .ref (ad 39)), (1, .int a1), (2, .int a2)]) hx hb dX7_daysWith_1 rfl hl (by decide) rfl (fun ls hl => ?_)
  refine lv_iconst (v := 0) hx hb dX7_daysWith_2 (by decide) ?_
  refine lv_istore (lv' := [(4, .int 0), (3, .int 0), (0, .ref (ad 39)), (1, .int a1), (2, .int a2)]) hx hb dX7_daysWith_3 hl (by decide) rfl (fun ls hl => ?_)
  exact L5 ((7 - (0 : Int)).toNat + 1) 0 0 s.heap locs ls w0 (show 0 ≤ a1.toInt from ra1) (show a1.toInt ≤ 11 from ta1) (show 0 ≤ a2.toInt from ra2) (show a2.toInt ≤ 3 from ta2) (by decide) (by decide) (Nat.lt_succ_self _) hw hT hF hM (lv_sub hl [2, 3, 4, 1, 0] rfl)
abbrev Pz_X7_commonSign_1 (ad : Nat → Nat) (cy : Nat → ClassId) (B : Int) (qr : Nat) (s1 : Int) (a1 : Int32) (w0 : va_W) : Int32 → va_W → Prop := fun r u => TW ksC ad cy B qr s1 u ∧ FE ksC ([] : List (Nat × Nat × Nat)) w0 u ∧ Ev (fun n => m_X7_commonSign n 39 a1.toInt (sI w0)) (r.toInt, sI u) ∧ ((0 ≤ r.toInt ∧ r.toInt ≤ 3))
set_option maxHeartbeats 4000000 in
set_option maxRecDepth 100000 in
theorem kz_X7_commonSign_1 (l : Launch) (adK adV : Nat → Nat) (dC : Nat → ClassId) (dI : Nat → Nat → Nat) (cy : Nat → ClassId) (ad : Nat → Nat) (B : Int) (hB0 : 2147483648 ≤ B) (hB1 : B ≤ 1152921504606846976) (qr : Nat) (s1 : Int)  (a1 : Int32) (ra1 : 0 ≤ a1.toInt) (ta1 : a1.toInt ≤ 11) (w0 : va_W) (sz : Nat) (hT : TW ksC ad cy B qr s1 w0)  : Met l yX7_commonSign (wu yX7_commonSign cX7_commonSign 4 (some .int)) ({ frames := 3, cells := 0, slots := 0, locals := 58 }) (va_Pc [.ref (ad 39), .int a1] (wpreS adK adV dC dI cy sz w0)) (va_Qi (Pz_X7_commonSign_1 ad cy B qr s1 a1 w0) (fun u : va_W => wpost dC dI cy (va_A w0 sz) u) (va_A w0 sz)) 0 0 (va_A w0 sz) := by
  refine Met.ofW (cc := cX7_commonSign) (maxL := 4) (ret := (some .int)) (by decide) rfl ?_
  intro p e s m args below meth c s₁ Bk hml hv
  obtain ⟨rfl, ⟨hsz, hP, hK, hD0⟩, hE, hSR⟩ := hv
  have hx := Bk.exec
  have hb := Bk.bytes
  have hr := Bk.returns
  have hlocks := Bk.notSynchronized
  have hC : CallFix p m c cX7_commonSign 4 s _ (wu yX7_commonSign cX7_commonSign 4 (some .int)) RX7 := ⟨hx, hb, hml, findClass_of_methodNamed Bk.named, atoms_spec (ws := (wu yX7_commonSign cX7_commonSign 4 (some .int))) Bk.pre⟩
  subst hsz
  have hD := hD0.self (sz := s.heap.size)
  generalize hAe : va_A w0 s.heap.size = A at hD hE ⊢
  have hA : ∀ q : Nat, s.heap.size ≤ q → A q := fun q h => by rw [← hAe]; exact Or.inr h
  have hw : Wd dC dI A s.heap s.heap [] w0 := ⟨hP, hD, va_S.rf⟩
  have hF : FE ksC ([] : List (Nat × Nat × Nat)) w0 w0 := FE.rf
  have hl := lv_entry ([.ref (ad 39), .int a1]) (n := 4) (Nat.le_of_ble_eq_true rfl)
  rw [lg_entry_eq]
  generalize (lg_sl ([.ref (ad 39), .int a1]) ++ List.replicate (4 - (lg_sl ([.ref (ad 39), .int a1])).length) Slot.unset).toArray = ls at hl ⊢
  have hl : lv_has ls 4 [(0, .ref (ad 39)), (1, .int a1)] := hl
  generalize hloc : ([] : List Loc) = locs at hw ⊢
  have L4 : ∀ (n4 : Nat) (v4_2 : Int32) (v4_3 : Int32) (H : Heap) (locs : List Loc) (ls : Array Slot) (w1 : va_W), 0 ≤ a1.toInt → a1.toInt ≤ 11 → 0 ≤ v4_2.toInt → v4_2.toInt ≤ 3 → 1 ≤ v4_3.toInt → v4_3.toInt ≤ 4 → (4 - v4_3.toInt).toNat < n4 → Wd dC dI A s.heap H locs w1 → TW ksC ad cy B qr s1 w1 → FE ksC ([] : List (Nat × Nat × Nat)) w0 w1 → TT (fun n => m_X7_commonSign n 39 a1.toInt (sI w0)) (fun n => j_X7_commonSign 39 n 4 [a1.toInt, v4_2.toInt, v4_3.toInt] (sI w1)) → lv_has ls 4 [(0, .ref (ad 39)), (1, .int a1), (2, .int v4_2), (3, .int v4_3)] → W p l e ({ frames := 3, cells := 0, slots := 0, locals := 58 }) s m (List.toArray [.ref (ad 39), .int a1]) below meth c H locs 0 0 (MQ below (va_Qi (Pz_X7_commonSign_1 ad cy B qr s1 a1 w0) (fun u : va_W => wpost dC dI cy A u) A) (List.toArray [.ref (ad 39), .int a1]) s 0 0 A) (F0 m 4 ls []) := by
    intro n4
    induction n4 with
    | zero => intro v4_2 v4_3 H locs ls w1 r2 t3 r4 t5 r6 t7 hm4 hw hT hF hM hl; omega
    | succ n4 ih4 =>
      intro v4_2 v4_3 H locs ls w1 r2 t3 r4 t5 r6 t7 hm4 hw hT hF hM hl
      have J26 : ∀ (v26_2 : Int32) (H : Heap) (locs : List Loc) (ls : Array Slot) (w8 : va_W), 0 ≤ a1.toInt → a1.toInt ≤ 11 → 0 ≤ v26_2.toInt → v26_2.toInt ≤ 3 → 1 ≤ v4_3.toInt → v4_3.toInt ≤ 3 → Wd dC dI A s.heap H locs w8 → TW ksC ad cy B qr s1 w8 → FE ksC ([] : List (Nat × Nat × Nat)) w0 w8 → TT (fun n => m_X7_commonSign n 39 a1.toInt (sI w0)) (fun n => b_X7_commonSign_26 (j_X7_commonSign 39 n) n 39 (a1.toInt) (v26_2.toInt) (v4_3.toInt) (sI w8)) → lv_has ls 4 [(0, .ref (ad 39)), (1, .int a1), (2, .int v26_2), (3, .int v4_3)] → W p l e ({ frames := 3, cells := 0, slots := 0, locals := 58 }) s m (List.toArray [.ref (ad 39), .int a1]) below meth c H locs 0 0 (MQ below (va_Qi (Pz_X7_commonSign_1 ad cy B qr s1 a1 w0) (fun u : va_W => wpost dC dI cy A u) A) (List.toArray [.ref (ad 39), .int a1]) s 0 0 A) (F0 m 26 ls []) := by
        intro v26_2 H locs ls w8 r9 t10 r11 t12 r13 t14 hw hT hF hM hl
        obtain ⟨x15, ex15⟩ : ∃ y : Int32, y = v4_3 + Int32.ofInt 1 := ⟨_, rfl⟩
        have erx15 := ex15
        refine lv_iinc (v := x15) (lv' := [(3, .int x15), (0, .ref (ad 39)), (1, .int a1), (2, .int v26_2)]) hx hb dX7_commonSign_26 hl (k := 3) rfl ex15.symm (by decide) rfl (fun ls hl => ?_)
        have ex15 : x15.toInt = v4_3.toInt + 1 := by rw [ex15]; exact wk_add (y := 1) (show -2147483648 ≤ v4_3.toInt + 1 by omega) (show v4_3.toInt + 1 ≤ 2147483647 by omega)
        replace hM := hM.lt ex15.symm
        refine lv_goto (tgt := 4) hx hb dX7_commonSign_29 (by decide) ?_
        exact ih4 v26_2 x15 H locs ls w8 (show 0 ≤ a1.toInt from r9) (show a1.toInt ≤ 11 from t10) (show 0 ≤ v26_2.toInt from r11) (show v26_2.toInt ≤ 3 from t12) (show 1 ≤ x15.toInt by omega) (show x15.toInt ≤ 4 by omega) (show (4 - x15.toInt).toNat < n4 by omega) hw hT hF hM (lv_sub hl [1, 2, 3, 0] rfl)
      replace hM := hM.suc (fun _ => e_X7_commonSign_4)
      refine lv_iload_n hx hb dX7_commonSign_4 rfl (lv_at hl 3 rfl) ?_
      refine lv_iconst (v := 3) hx hb dX7_commonSign_5 (by decide) ?_
      refine lv_icmp_gt (tgt := 32) hx hb dX7_commonSign_6 (by decide) (fun c16 => ?_) (fun c16 => ?_)
      · have c16 : (3 : Int) < v4_3.toInt := wk_lt.mp c16
        replace hM := hM.pos c16
        refine lv_iload_n hx hb dX7_commonSign_32 rfl (lv_at hl 2 rfl) ?_
        exact tk_iret hC hr hlocks hK ⟨hT, hF, hM.ret rfl, ⟨(show 0 ≤ v4_2.toInt from r4), (show v4_2.toInt ≤ 3 from t5)⟩⟩ hw dX7_commonSign_33
      · have c16 : v4_3.toInt ≤ (3 : Int) := wk_ltF c16
        replace hM := hM.neg (Int.not_lt.mpr c16)
        refine lv_aload_n hx hb dX7_commonSign_9 rfl (lv_at hl 0 rfl) ?_
        refine lv_iload_n hx hb dX7_commonSign_10 rfl (lv_at hl 1 rfl) ?_
        refine lv_iload_n hx hb dX7_commonSign_11 rfl (lv_at hl 3 rfl) ?_
        refine tk_Vi hC hK hw hT hA hE hSR kC_at39 (by decide) rfl (kz_X7_daysWith_1 l adK adV dC dI cy ad B (by omega) (by omega) qr s1   a1 (show 0 ≤ a1.toInt from r2) (show a1.toInt ≤ 11 from t3) v4_3 (show 1 ≤ v4_3.toInt from r6) (show v4_3.toInt ≤ 3 by omega) w1 H.size hT ) (cwV 2 hC.2.2.2.2 uV_RX7_158 rfl rfl rfl (by decide +kernel) ⟨Nat.le_of_ble_eq_true rfl, Nat.le_of_ble_eq_true rfl⟩) rfl hl.1 rfl (Nat.le_of_ble_eq_true rfl) dX7_commonSign_12 (fun r17 w19 H locs hp18 hw => ?_)
        obtain ⟨hT, k20, hv22, hg21⟩ := hp18
        have hF := hF.tr k20 (by decide)
        clear hg21
        replace hM := hM.call hv22 rfl
        refine lv_aload_n hx hb dX7_commonSign_15 rfl (lv_at hl 0 rfl) ?_
        refine lv_iload_n hx hb dX7_commonSign_16 rfl (lv_at hl 1 rfl) ?_
        refine lv_iload_n hx hb dX7_commonSign_17 rfl (lv_at hl 2 rfl) ?_
        refine tk_Vi hC hK hw hT hA hE hSR kC_at39 (by decide) rfl (kz_X7_daysWith_2 l adK adV dC dI cy ad B (by omega) (by omega) qr s1   a1 (show 0 ≤ a1.toInt from r2) (show a1.toInt ≤ 11 from t3) v4_2 (show 0 ≤ v4_2.toInt from r4) (show v4_2.toInt ≤ 3 from t5) w19 H.size hT ) (cwV 2 hC.2.2.2.2 uV_RX7_158 rfl rfl rfl (by decide +kernel) ⟨Nat.le_of_ble_eq_true rfl, Nat.le_of_ble_eq_true rfl⟩) rfl hl.1 rfl (Nat.le_of_ble_eq_true rfl) dX7_commonSign_18 (fun r23 w25 H locs hp24 hw => ?_)
        obtain ⟨hT, k26, hv28, hg27⟩ := hp24
        have hF := hF.tr k26 (by decide)
        clear hg27
        replace hM := hM.call hv28 rfl
        refine lv_icmp_le (tgt := 26) hx hb dX7_commonSign_21 (by decide) (fun c29 => ?_) (fun c29 => ?_)
        · have c29 : r17.toInt ≤ r23.toInt := wk_le.mp c29
          replace hM := hM.pos c29
          exact J26 v4_2 H locs ls w25 (show 0 ≤ a1.toInt from r2) (show a1.toInt ≤ 11 from t3) (show 0 ≤ v4_2.toInt from r4) (show v4_2.toInt ≤ 3 from t5) (show 1 ≤ v4_3.toInt from r6) (show v4_3.toInt ≤ 3 by omega)  hw hT hF hM (lv_sub hl [0, 1, 2, 3] rfl)
        · have c29 : r23.toInt < r17.toInt := wk_leF c29
          replace hM := hM.neg (Int.not_le.mpr c29)
          refine lv_iload_n hx hb dX7_commonSign_24 rfl (lv_at hl 3 rfl) ?_
          refine lv_istore_n (lv' := [(2, .int v4_3), (0, .ref (ad 39)), (1, .int a1), (3, .int v4_3)]) hx hb dX7_commonSign_25 rfl hl (by decide) rfl (fun ls hl => ?_)
          exact J26 v4_3 H locs ls w25 (show 0 ≤ a1.toInt from r2) (show a1.toInt ≤ 11 from t3) (show 0 ≤ v4_3.toInt from Int.le_trans (by decide) r6) (show v4_3.toInt ≤ 3 by omega) (show 1 ≤ v4_3.toInt from r6) (show v4_3.toInt ≤ 3 by omega)  hw hT hF hM (lv_sub hl [1, 2, 0, 3] rfl)
  have hM : TT (fun n => m_X7_commonSign n 39 a1.toInt (sI w0)) (fun n => m_X7_commonSign n 39 a1.toInt (sI w0)) := TT.rf
  refine lv_iconst (v := 0) hx hb dX7_commonSign_0 (by decide) ?_
  refine lv_istore_n (lv' := [(2, .int 0), (0, .ref (ad 39)), (1, .int a1)]) hx hb dX7_commonSign_1 rfl hl (by decide) rfl (fun ls hl => ?_)
  refine lv_iconst (v := 1) hx hb dX7_commonSign_2 (by decide) ?_
  refine lv_istore_n (lv' := [(3, .int 1), (2, .int 0), (0, .ref (ad 39)), (1, .int a1)]) hx hb dX7_commonSign_3 rfl hl (by decide) rfl (fun ls hl => ?_)
  exact L4 ((4 - (1 : Int)).toNat + 1) 0 1 s.heap locs ls w0 (show 0 ≤ a1.toInt from ra1) (show a1.toInt ≤ 11 from ta1) (by decide) (by decide) (by decide) (by decide) (Nat.lt_succ_self _) hw hT hF hM (lv_sub hl [2, 3, 1, 0] rfl)
abbrev Pz_X11_cheap_1 (ad : Nat → Nat) (cy : Nat → ClassId) (B : Int) (qr : Nat) (s1 : Int) (a1 : Int32) (w0 : va_W) : Int32 → va_W → Prop := fun r u => TW ksC ad cy B qr s1 u ∧ FE ksC ([] : List (Nat × Nat × Nat)) w0 u ∧ Ev (fun n => m_X11_cheap n 0 a1.toInt (sI w0)) (r.toInt, sI u) ∧ ((0 ≤ r.toInt ∧ r.toInt ≤ 3 ∧ 0 ≤ a1.toInt ∧ a1.toInt ≤ 11 ∧ (∃ y : Int32, gi u 39 9 = y ∧ 1 ≤ y.toInt ∧ y.toInt ≤ 12)) ∨ (r = (-1)))
set_option maxHeartbeats 4000000 in
set_option maxRecDepth 100000 in
theorem kz_X11_cheap_1 (l : Launch) (adK adV : Nat → Nat) (dC : Nat → ClassId) (dI : Nat → Nat → Nat) (cy : Nat → ClassId) (ad : Nat → Nat) (B : Int) (hB0 : 2147483648 ≤ B) (hB1 : B ≤ 1152921504606846976) (qr : Nat) (s1 : Int)  (a1 : Int32) (w0 : va_W) (sz : Nat) (hT : TW ksC ad cy B qr s1 w0)  : Met l yX11_cheap (wu yX11_cheap cX11_cheap 2 (some .int)) ({ frames := 4, cells := 0, slots := 0, locals := 81 }) (va_Pc [.ref (ad 0), .int a1] (wpreS adK adV dC dI cy sz w0)) (va_Qi (Pz_X11_cheap_1 ad cy B qr s1 a1 w0) (fun u : va_W => wpost dC dI cy (va_A w0 sz) u) (va_A w0 sz)) 0 0 (va_A w0 sz) := by
  refine Met.ofW (cc := cX11_cheap) (maxL := 2) (ret := (some .int)) (by decide) rfl ?_
  intro p e s m args below meth c s₁ Bk hml hv
  obtain ⟨rfl, ⟨hsz, hP, hK, hD0⟩, hE, hSR⟩ := hv
  have hx := Bk.exec
  have hb := Bk.bytes
  have hr := Bk.returns
  have hlocks := Bk.notSynchronized
  have hC : CallFix p m c cX11_cheap 2 s _ (wu yX11_cheap cX11_cheap 2 (some .int)) RX11 := ⟨hx, hb, hml, findClass_of_methodNamed Bk.named, atoms_spec (ws := (wu yX11_cheap cX11_cheap 2 (some .int))) Bk.pre⟩
  subst hsz
  have hD := hD0.self (sz := s.heap.size)
  generalize hAe : va_A w0 s.heap.size = A at hD hE ⊢
  have hA : ∀ q : Nat, s.heap.size ≤ q → A q := fun q h => by rw [← hAe]; exact Or.inr h
  have hw : Wd dC dI A s.heap s.heap [] w0 := ⟨hP, hD, va_S.rf⟩
  have hF : FE ksC ([] : List (Nat × Nat × Nat)) w0 w0 := FE.rf
  have hl := lv_entry ([.ref (ad 0), .int a1]) (n := 2) (Nat.le_of_ble_eq_true rfl)
  rw [lg_entry_eq]
  generalize (lg_sl ([.ref (ad 0), .int a1]) ++ List.replicate (2 - (lg_sl ([.ref (ad 0), .int a1])).length) Slot.unset).toArray = ls at hl ⊢
  have hl : lv_has ls 2 [(0, .ref (ad 0)), (1, .int a1)] := hl
  generalize hloc : ([] : List Loc) = locs at hw ⊢
  have hinX11 : ∀ w ∈ u_ws RX11 TX11 13, w ∈ (wu yX11_cheap cX11_cheap 2 (some .int)) := fun _ h => List.mem_cons_of_mem _ (up_70 h)
  have hinX5 : ∀ w ∈ u_ws RX5 TX5 14, w ∈ (wu yX11_cheap cX11_cheap 2 (some .int)) := fun _ h => List.mem_cons_of_mem _ (up_76 h)
  have hM : TT (fun n => m_X11_cheap n 0 a1.toInt (sI w0)) (fun n => m_X11_cheap n 0 a1.toInt (sI w0)) := TT.rf
  refine lv_aload_n hx hb dX11_cheap_0 rfl (lv_at hl 0 rfl) ?_
  refine tk_getA hC hK hw hT hinX11 kC_at0 (by decide) rfl 4 (by decide) (List.mem_cons_of_mem _ uw_1_7) rfl rfl dX11_cheap_1 ?_
  refine tk_getO hC hK hw hT hinX5 kC_at38 (by decide) rfl 0 (by decide) (List.mem_cons_of_mem _ uw_9_1) rfl rfl dX11_cheap_4 ?_
  refine lv_iload_n hx hb dX11_cheap_7 rfl (lv_at hl 1 rfl) ?_
  refine tk_Vi hC hK hw hT hA hE hSR kC_at39 (by decide) rfl (kz_X7_hasStreet_1 l adK adV dC dI cy ad B (by omega) (by omega) qr s1   a1 w0 s.heap.size hT ) (cwV 1 hC.2.2.2.2 uV_RX11_133 rfl rfl rfl (by decide +kernel) ⟨Nat.le_of_ble_eq_true rfl, Nat.le_of_ble_eq_true rfl⟩) rfl hl.1 rfl (Nat.le_of_ble_eq_true rfl) dX11_cheap_8 (fun r1 w3 H locs hp2 hw => ?_)
  obtain ⟨hT, k4, hv10, hg9⟩ := hp2
  have hF := hF.tr k4 (by decide)
  rcases hg9 with rfl | ⟨rfl, g5, g6, ⟨x7, c8, rx7, tx7⟩⟩
  · replace hM := hM.call (r' := 0) hv10 (by decide)
    refine lv_if_eq (tgt := 28) hx hb dX11_cheap_11 (by decide) (fun _ => ?_) (fun c => absurd (by decide) c)
    replace hM := hM.pos (by decide)
    refine lv_iconst (v := (-1)) hx hb dX11_cheap_28 (by decide) ?_
    exact tk_iret hC hr hlocks hK ⟨hT, hF, hM.ret (by decide), (Or.inr rfl)⟩ hw dX11_cheap_29
  · replace hM := hM.call (r' := 1) hv10 (by decide)
    refine lv_if_eq (tgt := 28) hx hb dX11_cheap_11 (by decide) (fun c => absurd c (by decide)) (fun _ => ?_)
    replace hM := hM.neg (by decide)
    refine lv_aload_n hx hb dX11_cheap_14 rfl (lv_at hl 0 rfl) ?_
    refine tk_getA hC hK hw hT hinX11 kC_at0 (by decide) rfl 4 (by decide) (List.mem_cons_of_mem _ uw_1_7) rfl rfl dX11_cheap_15 ?_
    refine tk_getO hC hK hw hT hinX5 kC_at38 (by decide) rfl 0 (by decide) (List.mem_cons_of_mem _ uw_9_1) rfl rfl dX11_cheap_18 ?_
    refine lv_iload_n hx hb dX11_cheap_21 rfl (lv_at hl 1 rfl) ?_
    refine tk_Vi hC hK hw hT hA hE hSR kC_at39 (by decide) rfl (kz_X7_commonSign_1 l adK adV dC dI cy ad B (by omega) (by omega) qr s1   a1 (show 0 ≤ a1.toInt by omega) (show a1.toInt ≤ 11 by omega) w3 H.size hT ) (cwV 1 hC.2.2.2.2 uV_RX11_242 rfl rfl rfl (by decide +kernel) ⟨Nat.le_of_ble_eq_true rfl, Nat.le_of_ble_eq_true rfl⟩) rfl hl.1 rfl (Nat.le_of_ble_eq_true rfl) dX11_cheap_22 (fun r11 w13 H locs hp12 hw => ?_)
    obtain ⟨hT, k14, hv18, hg17⟩ := hp12
    have hF := hF.tr k14 (by decide)
    have c19 := k14.gi kC_at39 (by decide) c8
    obtain ⟨g15, g16⟩ := hg17
    replace hM := hM.call hv18 rfl
    refine lv_goto (tgt := 29) hx hb dX11_cheap_25 (by decide) ?_
    exact tk_iret hC hr hlocks hK ⟨hT, hF, hM.ret rfl, (Or.inl ⟨(show 0 ≤ r11.toInt by omega), (show r11.toInt ≤ 3 by omega), (show 0 ≤ a1.toInt by omega), (show a1.toInt ≤ 11 by omega), ⟨x7, c19, (show 1 ≤ x7.toInt by omega), (show x7.toInt ≤ 12 by omega)⟩⟩)⟩ hw dX11_cheap_29
abbrev Pz_X7_commonSignWrong_1 (ad : Nat → Nat) (cy : Nat → ClassId) (B : Int) (qr : Nat) (s1 : Int) (a1 : Int32) (a2 : Int32) (w0 : va_W) : Int32 → va_W → Prop := fun r u => TW ksC ad cy B qr s1 u ∧ FE ksC ([] : List (Nat × Nat × Nat)) w0 u ∧ Ev (fun n => m_X7_commonSignWrong n 39 a1.toInt a2.toInt (sI w0)) (r.toInt, sI u) ∧ ((7 ≤ a2.toInt) ∨ (0 ≤ r.toInt ∧ r.toInt ≤ 1 ∧ a2.toInt ≤ 6))
set_option maxHeartbeats 4000000 in
set_option maxRecDepth 100000 in
theorem kz_X7_commonSignWrong_1 (l : Launch) (adK adV : Nat → Nat) (dC : Nat → ClassId) (dI : Nat → Nat → Nat) (cy : Nat → ClassId) (ad : Nat → Nat) (B : Int) (hB0 : 2147483648 ≤ B) (hB1 : B ≤ 1152921504606846976) (qr : Nat) (s1 : Int)  (a1 : Int32) (ra1 : 0 ≤ a1.toInt) (ta1 : a1.toInt ≤ 11) (a2 : Int32) (ra2 : 0 ≤ a2.toInt) (ta2 : a2.toInt ≤ 7) (w0 : va_W) (sz : Nat) (hT : TW ksC ad cy B qr s1 w0)  : Met l yX7_commonSignWrong (wu yX7_commonSignWrong cX7_commonSignWrong 4 (some .int)) ({ frames := 4, cells := 0, slots := 0, locals := 81 }) (va_Pc [.ref (ad 39), .int a1, .int a2] (wpreS adK adV dC dI cy sz w0)) (va_Qi (Pz_X7_commonSignWrong_1 ad cy B qr s1 a1 a2 w0) (fun u : va_W => wpost dC dI cy (va_A w0 sz) u) (va_A w0 sz)) 0 0 (va_A w0 sz) := by
  refine Met.ofW (cc := cX7_commonSignWrong) (maxL := 4) (ret := (some .int)) (by decide) rfl ?_
  intro p e s m args below meth c s₁ Bk hml hv
  obtain ⟨rfl, ⟨hsz, hP, hK, hD0⟩, hE, hSR⟩ := hv
  have hx := Bk.exec
  have hb := Bk.bytes
  have hr := Bk.returns
  have hlocks := Bk.notSynchronized
  have hC : CallFix p m c cX7_commonSignWrong 4 s _ (wu yX7_commonSignWrong cX7_commonSignWrong 4 (some .int)) RX7 := ⟨hx, hb, hml, findClass_of_methodNamed Bk.named, atoms_spec (ws := (wu yX7_commonSignWrong cX7_commonSignWrong 4 (some .int))) Bk.pre⟩
  subst hsz
  have hD := hD0.self (sz := s.heap.size)
  generalize hAe : va_A w0 s.heap.size = A at hD hE ⊢
  have hA : ∀ q : Nat, s.heap.size ≤ q → A q := fun q h => by rw [← hAe]; exact Or.inr h
  have hw : Wd dC dI A s.heap s.heap [] w0 := ⟨hP, hD, va_S.rf⟩
  have hF : FE ksC ([] : List (Nat × Nat × Nat)) w0 w0 := FE.rf
  have hl := lv_entry ([.ref (ad 39), .int a1, .int a2]) (n := 4) (Nat.le_of_ble_eq_true rfl)
  rw [lg_entry_eq]
  generalize (lg_sl ([.ref (ad 39), .int a1, .int a2]) ++ List.replicate (4 - (lg_sl ([.ref (ad 39), .int a1, .int a2])).length) Slot.unset).toArray = ls at hl ⊢
  have hl : lv_has ls 4 [(0, .ref (ad 39)), (1, .int a1), (2, .int a2)] := hl
  generalize hloc : ([] : List Loc) = locs at hw ⊢
  have hM : TT (fun n => m_X7_commonSignWrong n 39 a1.toInt a2.toInt (sI w0)) (fun n => m_X7_commonSignWrong n 39 a1.toInt a2.toInt (sI w0)) := TT.rf
  refine lv_aload_n hx hb dX7_commonSignWrong_0 rfl (lv_at hl 0 rfl) ?_
  refine lv_iload_n hx hb dX7_commonSignWrong_1 rfl (lv_at hl 1 rfl) ?_
  refine tk_Vi hC hK hw hT hA hE hSR kC_at39 (by decide) rfl (kz_X7_commonSign_1 l adK adV dC dI cy ad B (by omega) (by omega) qr s1   a1 (show 0 ≤ a1.toInt from ra1) (show a1.toInt ≤ 11 from ta1) w0 s.heap.size hT ) (cwV 1 hC.2.2.2.2 uV_RX7_161 rfl rfl rfl (by decide +kernel) ⟨Nat.le_of_ble_eq_true rfl, Nat.le_of_ble_eq_true rfl⟩) rfl hl.1 rfl (Nat.le_of_ble_eq_true rfl) dX7_commonSignWrong_2 (fun r1 w3 H locs hp2 hw => ?_)
  obtain ⟨hT, k4, hv8, hg7⟩ := hp2
  have hF := hF.tr k4 (by decide)
  obtain ⟨g5, g6⟩ := hg7
  replace hM := hM.call hv8 rfl
  refine lv_istore_n (lv' := [(3, .int r1), (0, .ref (ad 39)), (1, .int a1), (2, .int a2)]) hx hb dX7_commonSignWrong_5 rfl hl (by decide) rfl (fun ls hl => ?_)
  refine lv_iload_n hx hb dX7_commonSignWrong_6 rfl (lv_at hl 3 rfl) ?_
  refine lv_bipush (v := 7) hx hb dX7_commonSignWrong_7 (by decide) ?_
  refine lv_icmp_ne (tgt := 22) hx hb dX7_commonSignWrong_9 (by decide) (fun c9 => ?_) (fun c9 => ?_)
  · have c9 : ¬ a2.toInt = (7 : Int) := wk_eqF c9
    replace hM := hM.pos c9
    refine lv_aload_n hx hb dX7_commonSignWrong_22 rfl (lv_at hl 1 rfl) ?_
    refine lv_iload_n hx hb dX7_commonSignWrong_23 rfl (lv_at hl 2 rfl) ?_
    refine lv_iload_n hx hb dX7_commonSignWrong_24 rfl (lv_at hl 3 rfl) ?_
    refine tk_Vi hC hK hw hT hA hE hSR kC_at39 (by decide) rfl (kz_X7_signOn_1 l adK adV dC dI cy ad B (by omega) (by omega) qr s1   a1 (show 0 ≤ a1.toInt from ra1) (show a1.toInt ≤ 11 from ta1) a2 (show 0 ≤ a2.toInt from ra2) (show a2.toInt ≤ 6 by omega) w3 H.size hT ) (cwV 2 hC.2.2.2.2 uV_RX7_155 rfl rfl rfl (by decide +kernel) ⟨Nat.le_of_ble_eq_true rfl, Nat.le_of_ble_eq_true rfl⟩) rfl hl.1 rfl (Nat.le_of_ble_eq_true rfl) dX7_commonSignWrong_25 (fun r10 w12 H locs hp11 hw => ?_)
    obtain ⟨hT, k13, hv17, hg16⟩ := hp11
    have hF := hF.tr k13 (by decide)
    obtain ⟨g14, g15⟩ := hg16
    replace hM := hM.call hv17 rfl
    refine lv_iload_n hx hb dX7_commonSignWrong_28 rfl (lv_at hl 0 rfl) ?_
    refine lv_icmp_ne (tgt := 36) hx hb dX7_commonSignWrong_29 (by decide) (fun c18 => ?_) (fun c18 => ?_)
    · have c18 : ¬ r10.toInt = r1.toInt := wk_eqF c18
      replace hM := hM.pos c18
      refine lv_iconst (v := 1) hx hb dX7_commonSignWrong_36 (by decide) ?_
      exact tk_iret hC hr hlocks hK ⟨hT, hF, hM.ret (by decide), (Or.inr ⟨(by decide), (by decide), (show a2.toInt ≤ 6 by omega)⟩)⟩ hw dX7_commonSignWrong_37
    · have c18 : r10.toInt = r1.toInt := wk_eq.mp c18
      replace hM := hM.neg (fun q => q c18)
      refine lv_iconst (v := 0) hx hb dX7_commonSignWrong_32 (by decide) ?_
      refine lv_goto (tgt := 37) hx hb dX7_commonSignWrong_33 (by decide) ?_
      exact tk_iret hC hr hlocks hK ⟨hT, hF, hM.ret (by decide), (Or.inr ⟨(by decide), (by decide), (show a2.toInt ≤ 6 by omega)⟩)⟩ hw dX7_commonSignWrong_37
  · have c9 : a2.toInt = (7 : Int) := wk_eq.mp c9
    replace hM := hM.neg (fun q => q c9)
    refine lv_bipush (v := 7) hx hb dX7_commonSignWrong_12 (by decide) ?_
    refine lv_aload_n hx hb dX7_commonSignWrong_14 rfl (lv_at hl 1 rfl) ?_
    refine lv_iload_n hx hb dX7_commonSignWrong_15 rfl (lv_at hl 2 rfl) ?_
    refine lv_iload_n hx hb dX7_commonSignWrong_16 rfl (lv_at hl 0 rfl) ?_
    refine tk_Vi hC hK hw hT hA hE hSR kC_at39 (by decide) rfl (kz_X7_daysWith_2 l adK adV dC dI cy ad B (by omega) (by omega) qr s1   a1 (show 0 ≤ a1.toInt from ra1) (show a1.toInt ≤ 11 from ta1) r1 (show 0 ≤ r1.toInt by omega) (show r1.toInt ≤ 3 by omega) w3 H.size hT ) (cwV 2 hC.2.2.2.2 uV_RX7_158 rfl rfl rfl (by decide +kernel) ⟨Nat.le_of_ble_eq_true rfl, Nat.le_of_ble_eq_true rfl⟩) rfl hl.1 rfl (Nat.le_of_ble_eq_true rfl) dX7_commonSignWrong_17 (fun r19 w21 H locs hp20 hw => ?_)
    obtain ⟨hT, k22, hv24, hg23⟩ := hp20
    have hF := hF.tr k22 (by decide)
    clear hg23
    replace hM := hM.call hv24 rfl
    refine lv_isub hx hb dX7_commonSignWrong_20 ?_
    have nx25 := wk_i32 r19
    refine lv_topi (fun x26 ex26 => ?_)
    have ezx26 := ex26
    replace hM := hM.lt (o32_e (f := fun x y => x - y) ezx26 (by decide) rfl)
    exact tk_iret hC hr hlocks hK ⟨hT, hF, hM.ret rfl, (Or.inl (show 7 ≤ a2.toInt by omega))⟩ hw dX7_commonSignWrong_21
abbrev Pz_X11_wrong_1 (ad : Nat → Nat) (cy : Nat → ClassId) (B : Int) (qr : Nat) (s1 : Int) (a1 : Int32) (w0 : va_W) : Int32 → va_W → Prop := fun r u => TW ksC ad cy B qr s1 u ∧ FE ksC ([] : List (Nat × Nat × Nat)) w0 u ∧ Ev (fun n => m_X11_wrong n 0 a1.toInt (sI w0)) (r.toInt, sI u) ∧ ((0 ≤ a1.toInt ∧ a1.toInt ≤ 7 ∧ (∃ y : Int32, gi u 39 8 = y ∧ 1 ≤ y.toInt ∧ y.toInt ≤ 10)) ∨ (r = (-1)))
set_option maxHeartbeats 4000000 in
set_option maxRecDepth 100000 in
theorem kz_X11_wrong_1 (l : Launch) (adK adV : Nat → Nat) (dC : Nat → ClassId) (dI : Nat → Nat → Nat) (cy : Nat → ClassId) (ad : Nat → Nat) (B : Int) (hB0 : 2147483648 ≤ B) (hB1 : B ≤ 1152921504606846976) (qr : Nat) (s1 : Int)  (a1 : Int32) (w0 : va_W) (sz : Nat) (hT : TW ksC ad cy B qr s1 w0)  : Met l yX11_wrong (wu yX11_wrong cX11_wrong 4 (some .int)) ({ frames := 5, cells := 0, slots := 0, locals := 104 }) (va_Pc [.ref (ad 0), .int a1] (wpreS adK adV dC dI cy sz w0)) (va_Qi (Pz_X11_wrong_1 ad cy B qr s1 a1 w0) (fun u : va_W => wpost dC dI cy (va_A w0 sz) u) (va_A w0 sz)) 0 0 (va_A w0 sz) := by
  refine Met.ofW (cc := cX11_wrong) (maxL := 4) (ret := (some .int)) (by decide) rfl ?_
  intro p e s m args below meth c s₁ Bk hml hv
  obtain ⟨rfl, ⟨hsz, hP, hK, hD0⟩, hE, hSR⟩ := hv
  have hx := Bk.exec
  have hb := Bk.bytes
  have hr := Bk.returns
  have hlocks := Bk.notSynchronized
  have hC : CallFix p m c cX11_wrong 4 s _ (wu yX11_wrong cX11_wrong 4 (some .int)) RX11 := ⟨hx, hb, hml, findClass_of_methodNamed Bk.named, atoms_spec (ws := (wu yX11_wrong cX11_wrong 4 (some .int))) Bk.pre⟩
  subst hsz
  have hD := hD0.self (sz := s.heap.size)
  generalize hAe : va_A w0 s.heap.size = A at hD hE ⊢
  have hA : ∀ q : Nat, s.heap.size ≤ q → A q := fun q h => by rw [← hAe]; exact Or.inr h
  have hw : Wd dC dI A s.heap s.heap [] w0 := ⟨hP, hD, va_S.rf⟩
  have hF : FE ksC ([] : List (Nat × Nat × Nat)) w0 w0 := FE.rf
  have hl := lv_entry ([.ref (ad 0), .int a1]) (n := 4) (Nat.le_of_ble_eq_true rfl)
  rw [lg_entry_eq]
  generalize (lg_sl ([.ref (ad 0), .int a1]) ++ List.replicate (4 - (lg_sl ([.ref (ad 0), .int a1])).length) Slot.unset).toArray = ls at hl ⊢
  have hl : lv_has ls 4 [(0, .ref (ad 0)), (1, .int a1)] := hl
  generalize hloc : ([] : List Loc) = locs at hw ⊢
  have hinX11 : ∀ w ∈ u_ws RX11 TX11 13, w ∈ (wu yX11_wrong cX11_wrong 4 (some .int)) := fun _ h => List.mem_cons_of_mem _ (up_70 h)
  have hinX5 : ∀ w ∈ u_ws RX5 TX5 14, w ∈ (wu yX11_wrong cX11_wrong 4 (some .int)) := fun _ h => List.mem_cons_of_mem _ (up_76 h)
  have hinX7 : ∀ w ∈ u_ws RX7 TX7 12, w ∈ (wu yX11_wrong cX11_wrong 4 (some .int)) := fun _ h => List.mem_cons_of_mem _ (up_73 h)
  have J20 : ∀ (f20_39_8 : Int32) (H : Heap) (locs : List Loc) (ls : Array Slot) (w1 : va_W), (-1) ≤ f20_39_8.toInt → f20_39_8.toInt ≤ 10 → Wd dC dI A s.heap H locs w1 → TW ksC ad cy B qr s1 w1 → FE ksC ([] : List (Nat × Nat × Nat)) w0 w1 → gi w1 39 8 = f20_39_8 → TT (fun n => m_X11_wrong n 0 a1.toInt (sI w0)) (fun n => b_X11_wrong_20 (j_X11_wrong 0 n) n 0 (sI w1)) → lv_has ls 4 [(0, .ref (ad 0)), (1, .int a1)] → W p l e ({ frames := 5, cells := 0, slots := 0, locals := 104 }) s m (List.toArray [.ref (ad 0), .int a1]) below meth c H locs 0 0 (MQ below (va_Qi (Pz_X11_wrong_1 ad cy B qr s1 a1 w0) (fun u : va_W => wpost dC dI cy A u) A) (List.toArray [.ref (ad 0), .int a1]) s 0 0 A) (F0 m 20 ls []) := by
    intro f20_39_8 H locs ls w1 r2 t3 hw hT hF c4 hM hl
    refine lv_iconst (v := (-1)) hx hb dX11_wrong_20 (by decide) ?_
    exact tk_iret hC hr hlocks hK ⟨hT, hF, hM.ret (by decide), (Or.inr rfl)⟩ hw dX11_wrong_21
  have L26 : ∀ (n26 : Nat) (v26_2 : Int32) (v26_3 : Int32) (f26_39_8 : Int32) (H : Heap) (locs : List Loc) (ls : Array Slot) (w5 : va_W), 0 ≤ a1.toInt → a1.toInt ≤ 7 → 0 ≤ v26_3.toInt → v26_3.toInt ≤ 12 → 1 ≤ f26_39_8.toInt → f26_39_8.toInt ≤ 10 → (12 - v26_3.toInt).toNat < n26 → Wd dC dI A s.heap H locs w5 → TW ksC ad cy B qr s1 w5 → FE ksC ([] : List (Nat × Nat × Nat)) w0 w5 → gi w5 39 8 = f26_39_8 → TT (fun n => m_X11_wrong n 0 a1.toInt (sI w0)) (fun n => j_X11_wrong 0 n 26 [a1.toInt, v26_2.toInt, v26_3.toInt] (sI w5)) → lv_has ls 4 [(0, .ref (ad 0)), (1, .int a1), (2, .int v26_2), (3, .int v26_3)] → W p l e ({ frames := 5, cells := 0, slots := 0, locals := 104 }) s m (List.toArray [.ref (ad 0), .int a1]) below meth c H locs 0 0 (MQ below (va_Qi (Pz_X11_wrong_1 ad cy B qr s1 a1 w0) (fun u : va_W => wpost dC dI cy A u) A) (List.toArray [.ref (ad 0), .int a1]) s 0 0 A) (F0 m 26 ls []) := by
    intro n26
    induction n26 with
    | zero => intro v26_2 v26_3 f26_39_8 H locs ls w5 r6 t7 r8 t9 r10 t11 hm26 hw hT hF c12 hM hl; omega
    | succ n26 ih26 =>
      intro v26_2 v26_3 f26_39_8 H locs ls w5 r6 t7 r8 t9 r10 t11 hm26 hw hT hF c12 hM hl
      replace hM := hM.suc (fun _ => e_X11_wrong_26)
      refine lv_iload_n hx hb dX11_wrong_26 rfl (lv_at hl 3 rfl) ?_
      refine lv_aload_n hx hb dX11_wrong_27 rfl (lv_at hl 0 rfl) ?_
      refine tk_getA hC hK hw hT hinX11 kC_at0 (by decide) rfl 4 (by decide) (List.mem_cons_of_mem _ uw_1_7) rfl rfl dX11_wrong_28 ?_
      refine tk_getO hC hK hw hT hinX5 kC_at38 (by decide) rfl 0 (by decide) (List.mem_cons_of_mem _ uw_9_1) rfl rfl dX11_wrong_31 ?_
      refine tk_geti hC hK hw hT hinX7 kC_at39 (by decide) rfl 9 (by decide) (List.mem_cons_of_mem _ uw_9_2) rfl rfl dX11_wrong_34 (fun x13 c14 rx13 tx13 => ?_)
      replace hM := hM.rd (sI_at c14)
      refine lv_icmp_ge (tgt := 61) hx hb dX11_wrong_37 (by decide) (fun c15 => ?_) (fun c15 => ?_)
      · have c15 : x13.toInt ≤ v26_3.toInt := wk_le.mp c15
        replace hM := hM.pos c15
        refine lv_iload_n hx hb dX11_wrong_61 rfl (lv_at hl 2 rfl) ?_
        exact tk_iret hC hr hlocks hK ⟨hT, hF, hM.ret rfl, (Or.inl ⟨(show 0 ≤ a1.toInt from r6), (show a1.toInt ≤ 7 from t7), ⟨f26_39_8, c12, (show 1 ≤ f26_39_8.toInt from r10), (show f26_39_8.toInt ≤ 10 from t11)⟩⟩)⟩ hw dX11_wrong_62
      · have c15 : v26_3.toInt < x13.toInt := wk_leF c15
        replace hM := hM.neg (Int.not_le.mpr c15)
        refine lv_iload_n hx hb dX11_wrong_40 rfl (lv_at hl 2 rfl) ?_
        refine lv_aload_n hx hb dX11_wrong_41 rfl (lv_at hl 0 rfl) ?_
        refine tk_getA hC hK hw hT hinX11 kC_at0 (by decide) rfl 4 (by decide) (List.mem_cons_of_mem _ uw_1_7) rfl rfl dX11_wrong_42 ?_
        refine tk_getO hC hK hw hT hinX5 kC_at38 (by decide) rfl 0 (by decide) (List.mem_cons_of_mem _ uw_9_1) rfl rfl dX11_wrong_45 ?_
        refine lv_iload_n hx hb dX11_wrong_48 rfl (lv_at hl 3 rfl) ?_
        refine lv_iload_n hx hb dX11_wrong_49 rfl (lv_at hl 1 rfl) ?_
        refine tk_Vi hC hK hw hT hA hE hSR kC_at39 (by decide) rfl (kz_X7_commonSignWrong_1 l adK adV dC dI cy ad B (by omega) (by omega) qr s1   v26_3 (show 0 ≤ v26_3.toInt from r8) (show v26_3.toInt ≤ 11 by omega) a1 (show 0 ≤ a1.toInt from r6) (show a1.toInt ≤ 7 from t7) w5 H.size hT ) (cwV 2 hC.2.2.2.2 uV_RX11_245 rfl rfl rfl (by decide +kernel) ⟨Nat.le_of_ble_eq_true rfl, Nat.le_of_ble_eq_true rfl⟩) rfl hl.1 rfl (Nat.le_of_ble_eq_true rfl) dX11_wrong_50 (fun r16 w18 H locs hp17 hw => ?_)
        obtain ⟨hT, k19, hv25, hg24⟩ := hp17
        have hF := hF.tr k19 (by decide)
        have c26 := k19.gi kC_at39 (by decide) c12
        have c27 := k19.gi kC_at39 (by decide) c14
        rcases hg24 with g20 | ⟨g21, g22, g23⟩
        · replace hM := hM.call hv25 rfl
          refine lv_iadd hx hb dX11_wrong_53 ?_
          have nx28 := wk_i32 v26_2
          have nx29 := wk_i32 r16
          refine lv_topi (fun x30 ex30 => ?_)
          have ezx30 := ex30
          replace hM := hM.lt (o32_e (f := fun x y => x + y) ezx30 rfl rfl)
          refine lv_istore_n (lv' := [(2, .int x30), (0, .ref (ad 0)), (1, .int a1), (3, .int v26_3)]) hx hb dX11_wrong_54 rfl hl (by decide) rfl (fun ls hl => ?_)
          obtain ⟨x31, ex31⟩ : ∃ y : Int32, y = v26_3 + Int32.ofInt 1 := ⟨_, rfl⟩
          have erx31 := ex31
          refine lv_iinc (v := x31) (lv' := [(3, .int x31), (2, .int x30), (0, .ref (ad 0)), (1, .int a1)]) hx hb dX11_wrong_55 hl (k := 3) rfl ex31.symm (by decide) rfl (fun ls hl => ?_)
          have ex31 : x31.toInt = v26_3.toInt + 1 := by rw [ex31]; exact wk_add (y := 1) (show -2147483648 ≤ v26_3.toInt + 1 by omega) (show v26_3.toInt + 1 ≤ 2147483647 by omega)
          replace hM := hM.lt ex31.symm
          refine lv_goto (tgt := 26) hx hb dX11_wrong_58 (by decide) ?_
          exact ih26 x30 x31 f26_39_8 H locs ls w18 (show 0 ≤ a1.toInt from r6) (show a1.toInt ≤ 7 from t7) (show 0 ≤ x31.toInt by omega) (show x31.toInt ≤ 12 by omega) (show 1 ≤ f26_39_8.toInt from r10) (show f26_39_8.toInt ≤ 10 from t11) (show (12 - x31.toInt).toNat < n26 by omega) hw hT hF c26 hM (lv_sub hl [2, 3, 1, 0] rfl)
        · replace hM := hM.call hv25 rfl
          refine lv_iadd hx hb dX11_wrong_53 ?_
          have nx32 := wk_i32 v26_2
          refine lv_topi (fun x33 ex33 => ?_)
          have ezx33 := ex33
          replace hM := hM.lt (o32_e (f := fun x y => x + y) ezx33 rfl rfl)
          refine lv_istore_n (lv' := [(2, .int x33), (0, .ref (ad 0)), (1, .int a1), (3, .int v26_3)]) hx hb dX11_wrong_54 rfl hl (by decide) rfl (fun ls hl => ?_)
          obtain ⟨x34, ex34⟩ : ∃ y : Int32, y = v26_3 + Int32.ofInt 1 := ⟨_, rfl⟩
          have erx34 := ex34
          refine lv_iinc (v := x34) (lv' := [(3, .int x34), (2, .int x33), (0, .ref (ad 0)), (1, .int a1)]) hx hb dX11_wrong_55 hl (k := 3) rfl ex34.symm (by decide) rfl (fun ls hl => ?_)
          have ex34 : x34.toInt = v26_3.toInt + 1 := by rw [ex34]; exact wk_add (y := 1) (show -2147483648 ≤ v26_3.toInt + 1 by omega) (show v26_3.toInt + 1 ≤ 2147483647 by omega)
          replace hM := hM.lt ex34.symm
          refine lv_goto (tgt := 26) hx hb dX11_wrong_58 (by decide) ?_
          exact ih26 x33 x34 f26_39_8 H locs ls w18 (show 0 ≤ a1.toInt from r6) (show a1.toInt ≤ 7 from t7) (show 0 ≤ x34.toInt by omega) (show x34.toInt ≤ 12 by omega) (show 1 ≤ f26_39_8.toInt from r10) (show f26_39_8.toInt ≤ 10 from t11) (show (12 - x34.toInt).toNat < n26 by omega) hw hT hF c26 hM (lv_sub hl [2, 3, 1, 0] rfl)
  have hM : TT (fun n => m_X11_wrong n 0 a1.toInt (sI w0)) (fun n => m_X11_wrong n 0 a1.toInt (sI w0)) := TT.rf
  refine lv_aload_n hx hb dX11_wrong_0 rfl (lv_at hl 0 rfl) ?_
  refine tk_getA hC hK hw hT hinX11 kC_at0 (by decide) rfl 4 (by decide) (List.mem_cons_of_mem _ uw_1_7) rfl rfl dX11_wrong_1 ?_
  refine tk_Vi hC hK hw hT hA hE hSR kC_at38 (by decide) rfl (kz_X5_hasTown_1 l adK adV dC dI cy ad B (by omega) (by omega) qr s1    w0 s.heap.size hT ) (cwV 0 hC.2.2.2.2 uV_RX11_158 rfl rfl rfl (by decide +kernel) ⟨Nat.le_of_ble_eq_true rfl, Nat.le_of_ble_eq_true rfl⟩) rfl hl.1 rfl (Nat.le_of_ble_eq_true rfl) dX11_wrong_4 (fun r35 w37 H locs hp36 hw => ?_)
  obtain ⟨hT, k38, hv44, hg43⟩ := hp36
  have hF := hF.tr k38 (by decide)
  rcases hg43 with ⟨rfl, ⟨x39, c40, rx39, tx39⟩⟩ | ⟨rfl, ⟨x41, c42, rx41, tx41⟩⟩
  · replace hM := hM.call (r' := 0) hv44 (by decide)
    refine lv_if_eq (tgt := 20) hx hb dX11_wrong_7 (by decide) (fun _ => ?_) (fun c => absurd (by decide) c)
    replace hM := hM.pos (by decide)
    exact J20 x39 H locs ls w37 (show (-1) ≤ x39.toInt by omega) (show x39.toInt ≤ 10 by omega)  hw hT hF c40 hM (lv_sub hl [0, 1] rfl)
  · replace hM := hM.call (r' := 1) hv44 (by decide)
    refine lv_if_eq (tgt := 20) hx hb dX11_wrong_7 (by decide) (fun c => absurd c (by decide)) (fun _ => ?_)
    replace hM := hM.neg (by decide)
    refine lv_iload_n hx hb dX11_wrong_10 rfl (lv_at hl 1 rfl) ?_
    refine lv_if_lt (tgt := 20) hx hb dX11_wrong_11 (by decide) (fun c45 => ?_) (fun c45 => ?_)
    · have c45 : a1.toInt < (0 : Int) := wk_lt.mp c45
      replace hM := hM.pos c45
      exact J20 x41 H locs ls w37 (show (-1) ≤ x41.toInt by omega) (show x41.toInt ≤ 10 by omega)  hw hT hF c42 hM (lv_sub hl [0, 1] rfl)
    · have c45 : (0 : Int) ≤ a1.toInt := wk_ltF c45
      replace hM := hM.neg (Int.not_lt.mpr c45)
      refine lv_iload_n hx hb dX11_wrong_14 rfl (lv_at hl 1 rfl) ?_
      refine lv_bipush (v := 7) hx hb dX11_wrong_15 (by decide) ?_
      refine lv_icmp_le (tgt := 22) hx hb dX11_wrong_17 (by decide) (fun c46 => ?_) (fun c46 => ?_)
      · have c46 : a1.toInt ≤ (7 : Int) := wk_le.mp c46
        replace hM := hM.pos c46
        refine lv_iconst (v := 0) hx hb dX11_wrong_22 (by decide) ?_
        refine lv_istore_n (lv' := [(2, .int 0), (0, .ref (ad 0)), (1, .int a1)]) hx hb dX11_wrong_23 rfl hl (by decide) rfl (fun ls hl => ?_)
        refine lv_iconst (v := 0) hx hb dX11_wrong_24 (by decide) ?_
        refine lv_istore_n (lv' := [(3, .int 0), (2, .int 0), (0, .ref (ad 0)), (1, .int a1)]) hx hb dX11_wrong_25 rfl hl (by decide) rfl (fun ls hl => ?_)
        exact L26 ((12 - (0 : Int)).toNat + 1) 0 0 x41 H locs ls w37 (show 0 ≤ a1.toInt by omega) (show a1.toInt ≤ 7 by omega) (by decide) (by decide) (show 1 ≤ x41.toInt by omega) (show x41.toInt ≤ 10 by omega) (Nat.lt_succ_self _) hw hT hF c42 hM (lv_sub hl [2, 3, 1, 0] rfl)
      · have c46 : (7 : Int) < a1.toInt := wk_leF c46
        replace hM := hM.neg (Int.not_le.mpr c46)
        exact J20 x41 H locs ls w37 (show (-1) ≤ x41.toInt by omega) (show x41.toInt ≤ 10 by omega)  hw hT hF c42 hM (lv_sub hl [0, 1] rfl)
abbrev Pz_X11_isAskedHour_1 (ad : Nat → Nat) (cy : Nat → ClassId) (B : Int) (qr : Nat) (s1 : Int) (a0 : Int32) (w0 : va_W) : Int32 → va_W → Prop := fun r u => TW ksC ad cy B qr s1 u ∧ FE ksC ([] : List (Nat × Nat × Nat)) w0 u ∧ Ev (fun n => m_X11_isAskedHour n a0.toInt (sI w0)) (r.toInt, sI u) ∧ ((r = 0) ∨ (r = 1 ∧ 0 ≤ a0.toInt ∧ a0.toInt ≤ 99999))
set_option maxHeartbeats 4000000 in
set_option maxRecDepth 100000 in
theorem kz_X11_isAskedHour_1 (l : Launch) (adK adV : Nat → Nat) (dC : Nat → ClassId) (dI : Nat → Nat → Nat) (cy : Nat → ClassId) (ad : Nat → Nat) (B : Int) (hB0 : 2147483648 ≤ B) (hB1 : B ≤ 1152921504606846976) (qr : Nat) (s1 : Int)  (a0 : Int32) (w0 : va_W) (sz : Nat) (hT : TW ksC ad cy B qr s1 w0)  : Met l yX11_isAskedHour (wu yX11_isAskedHour cX11_isAskedHour 1 (some .boolean)) ({ frames := 1, cells := 0, slots := 0, locals := 12 }) (va_Pc [.int a0] (wpreS adK adV dC dI cy sz w0)) (va_Qi (Pz_X11_isAskedHour_1 ad cy B qr s1 a0 w0) (fun u : va_W => wpost dC dI cy (va_A w0 sz) u) (va_A w0 sz)) 0 0 (va_A w0 sz) := by
  refine Met.ofW (cc := cX11_isAskedHour) (maxL := 1) (ret := (some .boolean)) (by decide) rfl ?_
  intro p e s m args below meth c s₁ Bk hml hv
  obtain ⟨rfl, ⟨hsz, hP, hK, hD0⟩, hE, hSR⟩ := hv
  have hx := Bk.exec
  have hb := Bk.bytes
  have hr := Bk.returns
  have hlocks := Bk.notSynchronized
  have hC : CallFix p m c cX11_isAskedHour 1 s _ (wu yX11_isAskedHour cX11_isAskedHour 1 (some .boolean)) RX11 := ⟨hx, hb, hml, findClass_of_methodNamed Bk.named, atoms_spec (ws := (wu yX11_isAskedHour cX11_isAskedHour 1 (some .boolean))) Bk.pre⟩
  subst hsz
  have hD := hD0.self (sz := s.heap.size)
  generalize hAe : va_A w0 s.heap.size = A at hD hE ⊢
  have hA : ∀ q : Nat, s.heap.size ≤ q → A q := fun q h => by rw [← hAe]; exact Or.inr h
  have hw : Wd dC dI A s.heap s.heap [] w0 := ⟨hP, hD, va_S.rf⟩
  have hF : FE ksC ([] : List (Nat × Nat × Nat)) w0 w0 := FE.rf
  have hl := lv_entry ([.int a0]) (n := 1) (Nat.le_of_ble_eq_true rfl)
  rw [lg_entry_eq]
  generalize (lg_sl ([.int a0]) ++ List.replicate (1 - (lg_sl ([.int a0])).length) Slot.unset).toArray = ls at hl ⊢
  have hl : lv_has ls 1 [(0, .int a0)] := hl
  generalize hloc : ([] : List Loc) = locs at hw ⊢
  have J15 : ∀ (H : Heap) (locs : List Loc) (ls : Array Slot) (w1 : va_W), Wd dC dI A s.heap H locs w1 → TW ksC ad cy B qr s1 w1 → FE ksC ([] : List (Nat × Nat × Nat)) w0 w1 → TT (fun n => m_X11_isAskedHour n a0.toInt (sI w0)) (fun n => b_X11_isAskedHour_15 n (sI w1)) → lv_has ls 1 [(0, .int a0)] → W p l e ({ frames := 1, cells := 0, slots := 0, locals := 12 }) s m (List.toArray [.int a0]) below meth c H locs 0 0 (MQ below (va_Qi (Pz_X11_isAskedHour_1 ad cy B qr s1 a0 w0) (fun u : va_W => wpost dC dI cy A u) A) (List.toArray [.int a0]) s 0 0 A) (F0 m 15 ls []) := by
    intro H locs ls w1 hw hT hF hM hl
    refine lv_iconst (v := 0) hx hb dX11_isAskedHour_15 (by decide) ?_
    exact tk_zret hC hr rfl hlocks hK ⟨hT, hF, hM.ret (by decide), (Or.inl rfl)⟩ hw dX11_isAskedHour_16
  have hM : TT (fun n => m_X11_isAskedHour n a0.toInt (sI w0)) (fun n => m_X11_isAskedHour n a0.toInt (sI w0)) := TT.rf
  refine lv_iload_n hx hb dX11_isAskedHour_0 rfl (lv_at hl 0 rfl) ?_
  refine lv_if_lt (tgt := 15) hx hb dX11_isAskedHour_1 (by decide) (fun c2 => ?_) (fun c2 => ?_)
  · have c2 : a0.toInt < (0 : Int) := wk_lt.mp c2
    replace hM := hM.pos c2
    exact J15  s.heap locs ls w0   hw hT hF hM (lv_sub hl [0] rfl)
  · have c2 : (0 : Int) ≤ a0.toInt := wk_ltF c2
    replace hM := hM.neg (Int.not_lt.mpr c2)
    refine lv_iload_n hx hb dX11_isAskedHour_4 rfl (lv_at hl 0 rfl) ?_
    refine lv_ldcw (v := 99999) hx hb hC.2.2.2.1 (hC.2.2.2.2 _ (List.mem_cons_of_mem _ uw_49_13)) dX11_isAskedHour_5 ?_
    refine lv_icmp_gt (tgt := 15) hx hb dX11_isAskedHour_8 (by decide) (fun c3 => ?_) (fun c3 => ?_)
    · have c3 : (99999 : Int) < a0.toInt := wk_lt.mp c3
      replace hM := hM.pos c3
      exact J15  s.heap locs ls w0   hw hT hF hM (lv_sub hl [0] rfl)
    · have c3 : a0.toInt ≤ (99999 : Int) := wk_ltF c3
      replace hM := hM.neg (Int.not_lt.mpr c3)
      refine lv_iconst (v := 1) hx hb dX11_isAskedHour_11 (by decide) ?_
      refine lv_goto (tgt := 16) hx hb dX11_isAskedHour_12 (by decide) ?_
      exact tk_zret hC hr rfl hlocks hK ⟨hT, hF, hM.ret (by decide), (Or.inr ⟨rfl, (show 0 ≤ a0.toInt by omega), (show a0.toInt ≤ 99999 by omega)⟩)⟩ hw dX11_isAskedHour_16
abbrev Pz_X7_sideOf_2 (ad : Nat → Nat) (cy : Nat → ClassId) (B : Int) (qr : Nat) (s1 : Int) (a1 : Int32) (a2 : Int32) (w0 : va_W) : Int32 → va_W → Prop := fun r u => TW ksC ad cy B qr s1 u ∧ FE ksC ([] : List (Nat × Nat × Nat)) w0 u ∧ Ev (fun n => m_X7_sideOf n 39 a1.toInt a2.toInt (sI w0)) (r.toInt, sI u) ∧ ((r = (-1)) ∨ (r = 0 ∧ 0 ≤ a2.toInt ∧ a2.toInt ≤ 9 ∧ gi u 40 (2 * a1.toInt + 0).toNat = a2) ∨ (r = 1 ∧ 0 ≤ a2.toInt ∧ a2.toInt ≤ 9 ∧ gi u 40 (2 * a1.toInt + 1).toNat = a2))
set_option maxHeartbeats 4000000 in
set_option maxRecDepth 100000 in
theorem kz_X7_sideOf_2 (l : Launch) (adK adV : Nat → Nat) (dC : Nat → ClassId) (dI : Nat → Nat → Nat) (cy : Nat → ClassId) (ad : Nat → Nat) (B : Int) (hB0 : 2147483648 ≤ B) (hB1 : B ≤ 1152921504606846976) (qr : Nat) (s1 : Int)  (a1 : Int32) (ra1 : 0 ≤ a1.toInt) (ta1 : a1.toInt ≤ 12) (a2 : Int32) (w0 : va_W) (sz : Nat) (hT : TW ksC ad cy B qr s1 w0)  : Met l yX7_sideOf (wu yX7_sideOf cX7_sideOf 3 (some .int)) ({ frames := 1, cells := 0, slots := 0, locals := 12 }) (va_Pc [.ref (ad 39), .int a1, .int a2] (wpreS adK adV dC dI cy sz w0)) (va_Qi (Pz_X7_sideOf_2 ad cy B qr s1 a1 a2 w0) (fun u : va_W => wpost dC dI cy (va_A w0 sz) u) (va_A w0 sz)) 0 0 (va_A w0 sz) := by
  refine Met.ofW (cc := cX7_sideOf) (maxL := 3) (ret := (some .int)) (by decide) rfl ?_
  intro p e s m args below meth c s₁ Bk hml hv
  obtain ⟨rfl, ⟨hsz, hP, hK, hD0⟩, hE, hSR⟩ := hv
  have hx := Bk.exec
  have hb := Bk.bytes
  have hr := Bk.returns
  have hlocks := Bk.notSynchronized
  have hC : CallFix p m c cX7_sideOf 3 s _ (wu yX7_sideOf cX7_sideOf 3 (some .int)) RX7 := ⟨hx, hb, hml, findClass_of_methodNamed Bk.named, atoms_spec (ws := (wu yX7_sideOf cX7_sideOf 3 (some .int))) Bk.pre⟩
  subst hsz
  have hD := hD0.self (sz := s.heap.size)
  generalize hAe : va_A w0 s.heap.size = A at hD hE ⊢
  have hA : ∀ q : Nat, s.heap.size ≤ q → A q := fun q h => by rw [← hAe]; exact Or.inr h
  have hw : Wd dC dI A s.heap s.heap [] w0 := ⟨hP, hD, va_S.rf⟩
  have hF : FE ksC ([] : List (Nat × Nat × Nat)) w0 w0 := FE.rf
  have hl := lv_entry ([.ref (ad 39), .int a1, .int a2]) (n := 3) (Nat.le_of_ble_eq_true rfl)
  rw [lg_entry_eq]
  generalize (lg_sl ([.ref (ad 39), .int a1, .int a2]) ++ List.replicate (3 - (lg_sl ([.ref (ad 39), .int a1, .int a2])).length) Slot.unset).toArray = ls at hl ⊢
  have hl : lv_has ls 3 [(0, .ref (ad 39)), (1, .int a1), (2, .int a2)] := hl
  generalize hloc : ([] : List Loc) = locs at hw ⊢
  have hinX7 : ∀ w ∈ u_ws RX7 TX7 12, w ∈ (wu yX7_sideOf cX7_sideOf 3 (some .int)) := fun _ h => List.mem_cons_of_mem _ (up_73 h)
  have hM : TT (fun n => m_X7_sideOf n 39 a1.toInt a2.toInt (sI w0)) (fun n => m_X7_sideOf n 39 a1.toInt a2.toInt (sI w0)) := TT.rf
  refine lv_aload_n hx hb dX7_sideOf_0 rfl (lv_at hl 0 rfl) ?_
  refine tk_getO hC hK hw hT hinX7 kC_at39 (by decide) rfl 0 (by decide) (List.mem_cons_of_mem _ uw_2_17) rfl rfl dX7_sideOf_1 ?_
  refine lv_iconst (v := 2) hx hb dX7_sideOf_4 (by decide) ?_
  refine lv_iload_n hx hb dX7_sideOf_5 rfl (lv_at hl 1 rfl) ?_
  refine lv_imul hx hb dX7_sideOf_6 ?_
  refine lv_topi (fun x1 ex1 => ?_)
  have ezx1 := ex1
  have ex1 : x1.toInt = (2 : Int) * a1.toInt := by rw [ex1]; exact wk_mul (show (-2147483648) ≤ (2 : Int) * a1.toInt by omega) (show (2 : Int) * a1.toInt ≤ 2147483647 by omega)
  replace hM := hM.lt ex1.symm
  refine tk_iald hC hK hw hT kC_at40 rfl rfl (show 0 ≤ x1.toInt by omega) (show x1.toInt < 26 by omega) dX7_sideOf_7 (fun x2 c3 rx2 tx2 => ?_)
  have hox2 := c3
  replace hM := hM.rd (sI_at hox2)
  have c3 : gi w0 40 (2 * a1.toInt + 0).toNat = x2 := (congrArg (gi w0 40) (congrArg Int.toNat (show 2 * a1.toInt + 0 = x1.toInt by omega))).trans c3
  refine lv_iload_n hx hb dX7_sideOf_8 rfl (lv_at hl 2 rfl) ?_
  refine lv_icmp_ne (tgt := 14) hx hb dX7_sideOf_9 (by decide) (fun c4 => ?_) (fun c4 => ?_)
  · have c4 : ¬ x2.toInt = a2.toInt := wk_eqF c4
    replace hM := hM.pos c4
    refine lv_aload_n hx hb dX7_sideOf_14 rfl (lv_at hl 0 rfl) ?_
    refine tk_getO hC hK hw hT hinX7 kC_at39 (by decide) rfl 0 (by decide) (List.mem_cons_of_mem _ uw_2_17) rfl rfl dX7_sideOf_15 ?_
    refine lv_iconst (v := 2) hx hb dX7_sideOf_18 (by decide) ?_
    refine lv_iload_n hx hb dX7_sideOf_19 rfl (lv_at hl 1 rfl) ?_
    refine lv_imul hx hb dX7_sideOf_20 ?_
    refine lv_topi (fun x5 ex5 => ?_)
    have ezx5 := ex5
    have ex5 : x5.toInt = (2 : Int) * a1.toInt := by rw [ex5]; exact wk_mul (show (-2147483648) ≤ (2 : Int) * a1.toInt by omega) (show (2 : Int) * a1.toInt ≤ 2147483647 by omega)
    replace hM := hM.lt ex5.symm
    refine lv_iconst (v := 1) hx hb dX7_sideOf_21 (by decide) ?_
    refine lv_iadd hx hb dX7_sideOf_22 ?_
    refine lv_topi (fun x6 ex6 => ?_)
    have ezx6 := ex6
    have ex6 : x6.toInt = x5.toInt + (1 : Int) := by rw [ex6]; exact wk_add (show (-2147483648) ≤ x5.toInt + (1 : Int) by omega) (show x5.toInt + (1 : Int) ≤ 2147483647 by omega)
    replace hM := hM.lt ex6.symm
    refine tk_iald hC hK hw hT kC_at40 rfl rfl (show 0 ≤ x6.toInt by omega) (show x6.toInt < 26 by omega) dX7_sideOf_23 (fun x7 c8 rx7 tx7 => ?_)
    have hox7 := c8
    replace hM := hM.rd (sI_at hox7)
    have c8 : gi w0 40 (2 * a1.toInt + 1).toNat = x7 := (congrArg (gi w0 40) (congrArg Int.toNat (show 2 * a1.toInt + 1 = x6.toInt by omega))).trans c8
    refine lv_iload_n hx hb dX7_sideOf_24 rfl (lv_at hl 2 rfl) ?_
    refine lv_icmp_ne (tgt := 32) hx hb dX7_sideOf_25 (by decide) (fun c9 => ?_) (fun c9 => ?_)
    · have c9 : ¬ x7.toInt = a2.toInt := wk_eqF c9
      replace hM := hM.pos c9
      refine lv_iconst (v := (-1)) hx hb dX7_sideOf_32 (by decide) ?_
      exact tk_iret hC hr hlocks hK ⟨hT, hF, hM.ret (by decide), (Or.inl rfl)⟩ hw dX7_sideOf_33
    · have c9 : x7.toInt = a2.toInt := wk_eq.mp c9
      replace hM := hM.neg (fun q => q c9)
      refine lv_iconst (v := 1) hx hb dX7_sideOf_28 (by decide) ?_
      refine lv_goto (tgt := 33) hx hb dX7_sideOf_29 (by decide) ?_
      exact tk_iret hC hr hlocks hK ⟨hT, hF, hM.ret (by decide), (Or.inr (Or.inr ⟨rfl, (show 0 ≤ a2.toInt by omega), (show a2.toInt ≤ 9 by omega), (c8.trans (wk_eq.mpr (show x7.toInt = a2.toInt by omega)))⟩))⟩ hw dX7_sideOf_33
  · have c4 : x2.toInt = a2.toInt := wk_eq.mp c4
    replace hM := hM.neg (fun q => q c4)
    refine lv_iconst (v := 0) hx hb dX7_sideOf_12 (by decide) ?_
    exact tk_iret hC hr hlocks hK ⟨hT, hF, hM.ret (by decide), (Or.inr (Or.inl ⟨rfl, (show 0 ≤ a2.toInt by omega), (show a2.toInt ≤ 9 by omega), (c3.trans (wk_eq.mpr (show x2.toInt = a2.toInt by omega)))⟩))⟩ hw dX7_sideOf_13
abbrev Pz_X7_findSaints_2 (ad : Nat → Nat) (cy : Nat → ClassId) (B : Int) (qr : Nat) (s1 : Int) (a1 : Int32) (w0 : va_W) : va_W → Prop := fun u => TW ksC ad cy B qr s1 u ∧ FE ksC [(31, 0, 13)] w0 u ∧ Ev (fun n => m_X7_findSaints n 39 a1.toInt (sI w0)) (0, sI u) ∧ ((True))
set_option maxHeartbeats 4000000 in
set_option maxRecDepth 100000 in
theorem kz_X7_findSaints_2 (l : Launch) (adK adV : Nat → Nat) (dC : Nat → ClassId) (dI : Nat → Nat → Nat) (cy : Nat → ClassId) (ad : Nat → Nat) (B : Int) (hB0 : 2147483648 ≤ B) (hB1 : B ≤ 1152921504606846976) (qr : Nat) (s1 : Int)  (a1 : Int32) (ra1 : 0 ≤ a1.toInt) (ta1 : a1.toInt ≤ 12) (w0 : va_W) (sz : Nat) (hT : TW ksC ad cy B qr s1 w0)  : Met l yX7_findSaints (wu yX7_findSaints cX7_findSaints 3 none) ({ frames := 2, cells := 0, slots := 0, locals := 34 }) (va_Pc [.ref (ad 39), .int a1] (wpreS adK adV dC dI cy sz w0)) (va_Qv (Pz_X7_findSaints_2 ad cy B qr s1 a1 w0) (fun u : va_W => wpost dC dI cy (va_A w0 sz) u) (va_A w0 sz)) 0 0 (va_A w0 sz) := by
  refine Met.ofW (cc := cX7_findSaints) (maxL := 3) (ret := none) (by decide) rfl ?_
  intro p e s m args below meth c s₁ Bk hml hv
  obtain ⟨rfl, ⟨hsz, hP, hK, hD0⟩, hE, hSR⟩ := hv
  have hx := Bk.exec
  have hb := Bk.bytes
  have hr := Bk.returns
  have hlocks := Bk.notSynchronized
  have hC : CallFix p m c cX7_findSaints 3 s _ (wu yX7_findSaints cX7_findSaints 3 none) RX7 := ⟨hx, hb, hml, findClass_of_methodNamed Bk.named, atoms_spec (ws := (wu yX7_findSaints cX7_findSaints 3 none)) Bk.pre⟩
  subst hsz
  have hD := hD0.self (sz := s.heap.size)
  generalize hAe : va_A w0 s.heap.size = A at hD hE ⊢
  have hA : ∀ q : Nat, s.heap.size ≤ q → A q := fun q h => by rw [← hAe]; exact Or.inr h
  have hw : Wd dC dI A s.heap s.heap [] w0 := ⟨hP, hD, va_S.rf⟩
  have hF : FE ksC [(31, 0, 13)] w0 w0 := FE.rf
  have hl := lv_entry ([.ref (ad 39), .int a1]) (n := 3) (Nat.le_of_ble_eq_true rfl)
  rw [lg_entry_eq]
  generalize (lg_sl ([.ref (ad 39), .int a1]) ++ List.replicate (3 - (lg_sl ([.ref (ad 39), .int a1])).length) Slot.unset).toArray = ls at hl ⊢
  have hl : lv_has ls 3 [(0, .ref (ad 39)), (1, .int a1)] := hl
  generalize hloc : ([] : List Loc) = locs at hw ⊢
  have hinX7 : ∀ w ∈ u_ws RX7 TX7 12, w ∈ (wu yX7_findSaints cX7_findSaints 3 none) := fun _ h => List.mem_cons_of_mem _ (up_73 h)
  have L9 : ∀ (n9 : Nat) (v9_2 : Int32) (H : Heap) (locs : List Loc) (ls : Array Slot) (w1 : va_W), 0 ≤ a1.toInt → a1.toInt ≤ 12 → 0 ≤ v9_2.toInt → v9_2.toInt ≤ 8 → (8 - v9_2.toInt).toNat < n9 → Wd dC dI A s.heap H locs w1 → TW ksC ad cy B qr s1 w1 → FE ksC [(31, 0, 13)] w0 w1 → TT (fun n => m_X7_findSaints n 39 a1.toInt (sI w0)) (fun n => j_X7_findSaints 39 n 9 [a1.toInt, v9_2.toInt] (sI w1)) → lv_has ls 3 [(0, .ref (ad 39)), (1, .int a1), (2, .int v9_2)] → W p l e ({ frames := 2, cells := 0, slots := 0, locals := 34 }) s m (List.toArray [.ref (ad 39), .int a1]) below meth c H locs 0 0 (MQ below (va_Qv (Pz_X7_findSaints_2 ad cy B qr s1 a1 w0) (fun u : va_W => wpost dC dI cy A u) A) (List.toArray [.ref (ad 39), .int a1]) s 0 0 A) (F0 m 9 ls []) := by
    intro n9
    induction n9 with
    | zero => intro v9_2 H locs ls w1 r2 t3 r4 t5 hm9 hw hT hF hM hl; omega
    | succ n9 ih9 =>
      intro v9_2 H locs ls w1 r2 t3 r4 t5 hm9 hw hT hF hM hl
      have J44 : ∀ (f44_39_10 : Int32) (H : Heap) (locs : List Loc) (ls : Array Slot) (w6 : va_W), 0 ≤ a1.toInt → a1.toInt ≤ 12 → 0 ≤ v9_2.toInt → v9_2.toInt ≤ 7 → 1 ≤ f44_39_10.toInt → f44_39_10.toInt ≤ 8 → Wd dC dI A s.heap H locs w6 → TW ksC ad cy B qr s1 w6 → FE ksC [(31, 0, 13)] w0 w6 → gi w6 39 10 = f44_39_10 → TT (fun n => m_X7_findSaints n 39 a1.toInt (sI w0)) (fun n => b_X7_findSaints_44 (j_X7_findSaints 39 n) n 39 (a1.toInt) (v9_2.toInt) (sI w6)) → lv_has ls 3 [(0, .ref (ad 39)), (1, .int a1), (2, .int v9_2)] → W p l e ({ frames := 2, cells := 0, slots := 0, locals := 34 }) s m (List.toArray [.ref (ad 39), .int a1]) below meth c H locs 0 0 (MQ below (va_Qv (Pz_X7_findSaints_2 ad cy B qr s1 a1 w0) (fun u : va_W => wpost dC dI cy A u) A) (List.toArray [.ref (ad 39), .int a1]) s 0 0 A) (F0 m 44 ls []) := by
        intro f44_39_10 H locs ls w6 r7 t8 r9 t10 r11 t12 hw hT hF c13 hM hl
        obtain ⟨x14, ex14⟩ : ∃ y : Int32, y = v9_2 + Int32.ofInt 1 := ⟨_, rfl⟩
        have erx14 := ex14
        refine lv_iinc (v := x14) (lv' := [(2, .int x14), (0, .ref (ad 39)), (1, .int a1)]) hx hb dX7_findSaints_44 hl (k := 2) rfl ex14.symm (by decide) rfl (fun ls hl => ?_)
        have ex14 : x14.toInt = v9_2.toInt + 1 := by rw [ex14]; exact wk_add (y := 1) (show -2147483648 ≤ v9_2.toInt + 1 by omega) (show v9_2.toInt + 1 ≤ 2147483647 by omega)
        replace hM := hM.lt ex14.symm
        refine lv_goto (tgt := 9) hx hb dX7_findSaints_47 (by decide) ?_
        exact ih9 x14 H locs ls w6 (show 0 ≤ a1.toInt from r7) (show a1.toInt ≤ 12 from t8) (show 0 ≤ x14.toInt by omega) (show x14.toInt ≤ 8 by omega) (show (8 - x14.toInt).toNat < n9 by omega) hw hT hF hM (lv_sub hl [1, 2, 0] rfl)
      replace hM := hM.suc (fun _ => e_X7_findSaints_9)
      refine lv_iload_n hx hb dX7_findSaints_9 rfl (lv_at hl 2 rfl) ?_
      refine lv_aload_n hx hb dX7_findSaints_10 rfl (lv_at hl 0 rfl) ?_
      refine tk_geti hC hK hw hT hinX7 kC_at39 (by decide) rfl 10 (by decide) (List.mem_cons_of_mem _ uw_9_9) rfl rfl dX7_findSaints_11 (fun x15 c16 rx15 tx15 => ?_)
      replace hM := hM.rd (sI_at c16)
      refine lv_icmp_ge (tgt := 50) hx hb dX7_findSaints_14 (by decide) (fun c17 => ?_) (fun c17 => ?_)
      · have c17 : x15.toInt ≤ v9_2.toInt := wk_le.mp c17
        replace hM := hM.pos c17
        exact tk_vret hC hr hlocks hK ⟨hT, hF, hM.ret rfl, trivial⟩ hw dX7_findSaints_50
      · have c17 : v9_2.toInt < x15.toInt := wk_leF c17
        replace hM := hM.neg (Int.not_le.mpr c17)
        refine lv_aload_n hx hb dX7_findSaints_17 rfl (lv_at hl 0 rfl) ?_
        refine lv_iload_n hx hb dX7_findSaints_18 rfl (lv_at hl 1 rfl) ?_
        refine lv_aload_n hx hb dX7_findSaints_19 rfl (lv_at hl 0 rfl) ?_
        refine tk_getO hC hK hw hT hinX7 kC_at39 (by decide) rfl 5 (by decide) (List.mem_cons_of_mem _ uw_2_22) rfl rfl dX7_findSaints_20 ?_
        refine lv_iload_n hx hb dX7_findSaints_23 rfl (lv_at hl 2 rfl) ?_
        refine tk_iald hC hK hw hT kC_at45 rfl rfl (show 0 ≤ v9_2.toInt from r4) (show v9_2.toInt < 8 by omega) dX7_findSaints_24 (fun x18 c19 rx18 tx18 => ?_)
        have hox18 := c19
        replace hM := hM.rd (sI_at hox18)
        refine tk_Vi hC hK hw hT hA hE hSR kC_at39 (by decide) rfl (kz_X7_sideOf_2 l adK adV dC dI cy ad B (by omega) (by omega) qr s1   a1 (show 0 ≤ a1.toInt from r2) (show a1.toInt ≤ 12 from t3) x18 w1 H.size hT ) (cwV 2 hC.2.2.2.2 uV_RX7_138 rfl rfl rfl (by decide +kernel) ⟨Nat.le_of_ble_eq_true rfl, Nat.le_of_ble_eq_true rfl⟩) rfl hl.1 rfl (Nat.le_of_ble_eq_true rfl) dX7_findSaints_25 (fun r20 w22 H locs hp21 hw => ?_)
        obtain ⟨hT, k23, hv31, hg30⟩ := hp21
        have hF := hF.tr k23 (by decide)
        have c32 := k23.gi kC_at39 (by decide) c16
        rcases hg30 with rfl | ⟨rfl, g24, g25, c26⟩ | ⟨rfl, g27, g28, c29⟩
        · replace hM := hM.call (r' := (-1)) hv31 (by decide)
          refine lv_iconst (v := (-1)) hx hb dX7_findSaints_28 (by decide) ?_
          refine lv_icmp_eq (tgt := 44) hx hb dX7_findSaints_29 (by decide) (fun _ => ?_) (fun c => absurd (by decide) c)
          replace hM := hM.pos (by decide)
          exact J44 x15 H locs ls w22 (show 0 ≤ a1.toInt from r2) (show a1.toInt ≤ 12 from t3) (show 0 ≤ v9_2.toInt from r4) (show v9_2.toInt ≤ 7 by omega) (show 1 ≤ x15.toInt by omega) (show x15.toInt ≤ 8 from tx15)  hw hT hF c32 hM (lv_sub hl [0, 1, 2] rfl)
        · replace hM := hM.call (r' := 0) hv31 (by decide)
          refine lv_iconst (v := (-1)) hx hb dX7_findSaints_28 (by decide) ?_
          refine lv_icmp_eq (tgt := 44) hx hb dX7_findSaints_29 (by decide) (fun c => absurd c (by decide)) (fun _ => ?_)
          replace hM := hM.neg (by decide)
          refine lv_aload_n hx hb dX7_findSaints_32 rfl (lv_at hl 0 rfl) ?_
          refine tk_getO hC hK hw hT hinX7 kC_at39 (by decide) rfl 7 (by decide) (List.mem_cons_of_mem _ uw_3_0) rfl rfl dX7_findSaints_33 ?_
          refine lv_iload_n hx hb dX7_findSaints_36 rfl (lv_at hl 1 rfl) ?_
          refine lv_dup2_11 hx hb dX7_findSaints_37 rfl rfl ?_
          refine tk_iald hC hK hw hT kC_at47 rfl rfl (show 0 ≤ a1.toInt from r2) (show a1.toInt < 13 from Int.lt_of_le_of_lt t3 (by decide)) dX7_findSaints_38 (fun x33 c34 rx33 tx33 => ?_)
          have hox33 := c34
          replace hM := hM.rd (sI_at hox33)
          refine lv_iconst (v := 1) hx hb dX7_findSaints_39 (by decide) ?_
          refine lv_iload_n hx hb dX7_findSaints_40 rfl (lv_at hl 2 rfl) ?_
          refine lv_ishl hx hb dX7_findSaints_41 ?_
          refine lv_topi (fun x35 ex35 => ?_)
          have ezx35 := ex35
          have bx35 : 1 ≤ x35.toInt ∧ x35.toInt ≤ 128 := by rw [ex35]; exact wk_shl1 7 (by decide) (by omega) (by omega)
          replace hM := hM.lt (o32_e (f := fun x y => x <<< (y &&& 31)) ezx35 (by decide) rfl)
          refine lv_ior hx hb dX7_findSaints_42 ?_
          refine lv_topi (fun x36 ex36 => ?_)
          have ezx36 := ex36
          replace hM := hM.lt (o32_e (f := fun x y => x ||| y) ezx36 rfl rfl)
          refine tk_iast hC hK hw hT kC_at47 (by decide) rfl rfl (show 0 ≤ a1.toInt from r2) (show a1.toInt < 13 from Int.lt_of_le_of_lt t3 (by decide)) (wk_i32 x36).1 (wk_i32 x36).2 dX7_findSaints_43 (fun H locs w37 hw hT k39 c38 => ?_)
          replace hM := hM.wr (sI_up k39 c38)
          have hF := hF.put kC_at47 (inE_of (a := 0) (b := 13) (by decide) (show 0 ≤ a1.toInt.toNat by omega) (show a1.toInt.toNat ≤ 13 by omega)) k39
          have c40 := k39.gi (Or.inl (tk_ne kC_at39 kC_at47 (by decide))) c32
          have c41 := k39.gi (Or.inl (tk_ne kC_at40 kC_at47 (by decide))) c26
          exact J44 x15 H locs ls w37 (show 0 ≤ a1.toInt from r2) (show a1.toInt ≤ 12 from t3) (show 0 ≤ v9_2.toInt from r4) (show v9_2.toInt ≤ 7 by omega) (show 1 ≤ x15.toInt by omega) (show x15.toInt ≤ 8 from tx15)  hw hT hF c40 hM (lv_sub hl [0, 1, 2] rfl)
        · replace hM := hM.call (r' := 1) hv31 (by decide)
          refine lv_iconst (v := (-1)) hx hb dX7_findSaints_28 (by decide) ?_
          refine lv_icmp_eq (tgt := 44) hx hb dX7_findSaints_29 (by decide) (fun c => absurd c (by decide)) (fun _ => ?_)
          replace hM := hM.neg (by decide)
          refine lv_aload_n hx hb dX7_findSaints_32 rfl (lv_at hl 0 rfl) ?_
          refine tk_getO hC hK hw hT hinX7 kC_at39 (by decide) rfl 7 (by decide) (List.mem_cons_of_mem _ uw_3_0) rfl rfl dX7_findSaints_33 ?_
          refine lv_iload_n hx hb dX7_findSaints_36 rfl (lv_at hl 1 rfl) ?_
          refine lv_dup2_11 hx hb dX7_findSaints_37 rfl rfl ?_
          refine tk_iald hC hK hw hT kC_at47 rfl rfl (show 0 ≤ a1.toInt from r2) (show a1.toInt < 13 from Int.lt_of_le_of_lt t3 (by decide)) dX7_findSaints_38 (fun x42 c43 rx42 tx42 => ?_)
          have hox42 := c43
          replace hM := hM.rd (sI_at hox42)
          refine lv_iconst (v := 1) hx hb dX7_findSaints_39 (by decide) ?_
          refine lv_iload_n hx hb dX7_findSaints_40 rfl (lv_at hl 2 rfl) ?_
          refine lv_ishl hx hb dX7_findSaints_41 ?_
          refine lv_topi (fun x44 ex44 => ?_)
          have ezx44 := ex44
          have bx44 : 1 ≤ x44.toInt ∧ x44.toInt ≤ 128 := by rw [ex44]; exact wk_shl1 7 (by decide) (by omega) (by omega)
          replace hM := hM.lt (o32_e (f := fun x y => x <<< (y &&& 31)) ezx44 (by decide) rfl)
          refine lv_ior hx hb dX7_findSaints_42 ?_
          refine lv_topi (fun x45 ex45 => ?_)
          have ezx45 := ex45
          replace hM := hM.lt (o32_e (f := fun x y => x ||| y) ezx45 rfl rfl)
          refine tk_iast hC hK hw hT kC_at47 (by decide) rfl rfl (show 0 ≤ a1.toInt from r2) (show a1.toInt < 13 from Int.lt_of_le_of_lt t3 (by decide)) (wk_i32 x45).1 (wk_i32 x45).2 dX7_findSaints_43 (fun H locs w46 hw hT k48 c47 => ?_)
          replace hM := hM.wr (sI_up k48 c47)
          have hF := hF.put kC_at47 (inE_of (a := 0) (b := 13) (by decide) (show 0 ≤ a1.toInt.toNat by omega) (show a1.toInt.toNat ≤ 13 by omega)) k48
          have c49 := k48.gi (Or.inl (tk_ne kC_at39 kC_at47 (by decide))) c32
          have c50 := k48.gi (Or.inl (tk_ne kC_at40 kC_at47 (by decide))) c29
          exact J44 x15 H locs ls w46 (show 0 ≤ a1.toInt from r2) (show a1.toInt ≤ 12 from t3) (show 0 ≤ v9_2.toInt from r4) (show v9_2.toInt ≤ 7 by omega) (show 1 ≤ x15.toInt by omega) (show x15.toInt ≤ 8 from tx15)  hw hT hF c49 hM (lv_sub hl [0, 1, 2] rfl)
  have hM : TT (fun n => m_X7_findSaints n 39 a1.toInt (sI w0)) (fun n => m_X7_findSaints n 39 a1.toInt (sI w0)) := TT.rf
  refine lv_aload_n hx hb dX7_findSaints_0 rfl (lv_at hl 0 rfl) ?_
  refine tk_getO hC hK hw hT hinX7 kC_at39 (by decide) rfl 7 (by decide) (List.mem_cons_of_mem _ uw_3_0) rfl rfl dX7_findSaints_1 ?_
  refine lv_iload_n hx hb dX7_findSaints_4 rfl (lv_at hl 1 rfl) ?_
  refine lv_iconst (v := 0) hx hb dX7_findSaints_5 (by decide) ?_
  refine tk_iast hC hK hw hT kC_at47 (by decide) rfl rfl (show 0 ≤ a1.toInt from ra1) (show a1.toInt < 13 from Int.lt_of_le_of_lt ta1 (by decide)) (by decide) (by decide) dX7_findSaints_6 (fun H locs w51 hw hT k53 c52 => ?_)
  replace hM := hM.wr (sI_upc k53 c52 (by decide))
  have hF := hF.put kC_at47 (inE_of (a := 0) (b := 13) (by decide) (show 0 ≤ a1.toInt.toNat by omega) (show a1.toInt.toNat ≤ 13 by omega)) k53
  refine lv_iconst (v := 0) hx hb dX7_findSaints_7 (by decide) ?_
  refine lv_istore_n (lv' := [(2, .int 0), (0, .ref (ad 39)), (1, .int a1)]) hx hb dX7_findSaints_8 rfl hl (by decide) rfl (fun ls hl => ?_)
  exact L9 ((8 - (0 : Int)).toNat + 1) 0 H locs ls w51 (show 0 ≤ a1.toInt from ra1) (show a1.toInt ≤ 12 from ta1) (by decide) (by decide) (Nat.lt_succ_self _) hw hT hF hM (lv_sub hl [1, 2, 0] rfl)
abbrev Pz_X7_placeSign_2 (ad : Nat → Nat) (cy : Nat → ClassId) (B : Int) (qr : Nat) (s1 : Int) (a1 : Int32) (a2 : Int32) (w0 : va_W) : va_W → Prop := fun u => TW ksC ad cy B qr s1 u ∧ FE ksC [(26, 0, 91), (28, 0, 26)] w0 u ∧ Ev (fun n => m_X7_placeSign n 39 a1.toInt a2.toInt 3 (sI w0)) (0, sI u) ∧ ((True))
set_option maxHeartbeats 4000000 in
set_option maxRecDepth 100000 in
theorem kz_X7_placeSign_2 (l : Launch) (adK adV : Nat → Nat) (dC : Nat → ClassId) (dI : Nat → Nat → Nat) (cy : Nat → ClassId) (ad : Nat → Nat) (B : Int) (hB0 : 2147483648 ≤ B) (hB1 : B ≤ 1152921504606846976) (qr : Nat) (s1 : Int)  (a1 : Int32) (ra1 : 0 ≤ a1.toInt) (ta1 : a1.toInt ≤ 12) (a2 : Int32) (ra2 : 0 ≤ a2.toInt) (ta2 : a2.toInt ≤ 6) (w0 : va_W) (sz : Nat) (hT : TW ksC ad cy B qr s1 w0)  : Met l yX7_placeSign (wu yX7_placeSign cX7_placeSign 4 none) ({ frames := 1, cells := 0, slots := 0, locals := 12 }) (va_Pc [.ref (ad 39), .int a1, .int a2, .int 3] (wpreS adK adV dC dI cy sz w0)) (va_Qv (Pz_X7_placeSign_2 ad cy B qr s1 a1 a2 w0) (fun u : va_W => wpost dC dI cy (va_A w0 sz) u) (va_A w0 sz)) 0 0 (va_A w0 sz) := by
  refine Met.ofW (cc := cX7_placeSign) (maxL := 4) (ret := none) (by decide) rfl ?_
  intro p e s m args below meth c s₁ Bk hml hv
  obtain ⟨rfl, ⟨hsz, hP, hK, hD0⟩, hE, hSR⟩ := hv
  have hx := Bk.exec
  have hb := Bk.bytes
  have hr := Bk.returns
  have hlocks := Bk.notSynchronized
  have hC : CallFix p m c cX7_placeSign 4 s _ (wu yX7_placeSign cX7_placeSign 4 none) RX7 := ⟨hx, hb, hml, findClass_of_methodNamed Bk.named, atoms_spec (ws := (wu yX7_placeSign cX7_placeSign 4 none)) Bk.pre⟩
  subst hsz
  have hD := hD0.self (sz := s.heap.size)
  generalize hAe : va_A w0 s.heap.size = A at hD hE ⊢
  have hA : ∀ q : Nat, s.heap.size ≤ q → A q := fun q h => by rw [← hAe]; exact Or.inr h
  have hw : Wd dC dI A s.heap s.heap [] w0 := ⟨hP, hD, va_S.rf⟩
  have hF : FE ksC [(26, 0, 91), (28, 0, 26)] w0 w0 := FE.rf
  have hl := lv_entry ([.ref (ad 39), .int a1, .int a2, .int 3]) (n := 4) (Nat.le_of_ble_eq_true rfl)
  rw [lg_entry_eq]
  generalize (lg_sl ([.ref (ad 39), .int a1, .int a2, .int 3]) ++ List.replicate (4 - (lg_sl ([.ref (ad 39), .int a1, .int a2, .int 3])).length) Slot.unset).toArray = ls at hl ⊢
  have hl : lv_has ls 4 [(0, .ref (ad 39)), (1, .int a1), (2, .int a2), (3, .int 3)] := hl
  generalize hloc : ([] : List Loc) = locs at hw ⊢
  have hinX7 : ∀ w ∈ u_ws RX7 TX7 12, w ∈ (wu yX7_placeSign cX7_placeSign 4 none) := fun _ h => List.mem_cons_of_mem _ (up_73 h)
  have hM : TT (fun n => m_X7_placeSign n 39 a1.toInt a2.toInt 3 (sI w0)) (fun n => m_X7_placeSign n 39 a1.toInt a2.toInt 3 (sI w0)) := TT.rf
  refine lv_aload_n hx hb dX7_placeSign_0 rfl (lv_at hl 0 rfl) ?_
  refine tk_getO hC hK hw hT hinX7 kC_at39 (by decide) rfl 2 (by decide) (List.mem_cons_of_mem _ uw_2_19) rfl rfl dX7_placeSign_1 ?_
  refine lv_bipush (v := 7) hx hb dX7_placeSign_4 (by decide) ?_
  refine lv_iload_n hx hb dX7_placeSign_6 rfl (lv_at hl 1 rfl) ?_
  refine lv_imul hx hb dX7_placeSign_7 ?_
  refine lv_topi (fun x1 ex1 => ?_)
  have ezx1 := ex1
  have ex1 : x1.toInt = (7 : Int) * a1.toInt := by rw [ex1]; exact wk_mul (show (-2147483648) ≤ (7 : Int) * a1.toInt by omega) (show (7 : Int) * a1.toInt ≤ 2147483647 by omega)
  replace hM := hM.lt ex1.symm
  refine lv_iload_n hx hb dX7_placeSign_8 rfl (lv_at hl 2 rfl) ?_
  refine lv_iadd hx hb dX7_placeSign_9 ?_
  refine lv_topi (fun x2 ex2 => ?_)
  have ezx2 := ex2
  have ex2 : x2.toInt = x1.toInt + a2.toInt := by rw [ex2]; exact wk_add (show (-2147483648) ≤ x1.toInt + a2.toInt by omega) (show x1.toInt + a2.toInt ≤ 2147483647 by omega)
  replace hM := hM.lt ex2.symm
  refine lv_iload_n hx hb dX7_placeSign_10 rfl (lv_at hl 3 rfl) ?_
  refine tk_iast hC hK hw hT kC_at42 (by decide) rfl rfl (show 0 ≤ x2.toInt by omega) (show x2.toInt < 91 by omega) (by decide) (by decide) dX7_placeSign_11 (fun H locs w3 hw hT k5 c4 => ?_)
  replace hM := hM.wr (sI_upc k5 c4 (by decide))
  have hF := hF.put kC_at42 (inE_of (a := 0) (b := 91) (by decide) (show 0 ≤ x2.toInt.toNat by omega) (show x2.toInt.toNat ≤ 91 by omega)) k5
  refine lv_aload_n hx hb dX7_placeSign_12 rfl (lv_at hl 0 rfl) ?_
  refine tk_getO hC hK hw hT hinX7 kC_at39 (by decide) rfl 4 (by decide) (List.mem_cons_of_mem _ uw_2_21) rfl rfl dX7_placeSign_13 ?_
  refine lv_iconst (v := 2) hx hb dX7_placeSign_16 (by decide) ?_
  refine lv_iload_n hx hb dX7_placeSign_17 rfl (lv_at hl 1 rfl) ?_
  refine lv_imul hx hb dX7_placeSign_18 ?_
  refine lv_topi (fun x6 ex6 => ?_)
  have ezx6 := ex6
  have ex6 : x6.toInt = (2 : Int) * a1.toInt := by rw [ex6]; exact wk_mul (show (-2147483648) ≤ (2 : Int) * a1.toInt by omega) (show (2 : Int) * a1.toInt ≤ 2147483647 by omega)
  replace hM := hM.lt ex6.symm
  refine lv_dup2_11 hx hb dX7_placeSign_19 rfl rfl ?_
  refine tk_iald hC hK hw hT kC_at44 rfl rfl (show 0 ≤ x6.toInt by omega) (show x6.toInt < 26 by omega) dX7_placeSign_20 (fun x7 c8 rx7 tx7 => ?_)
  have hox7 := c8
  replace hM := hM.rd (sI_at hox7)
  refine lv_iload_n hx hb dX7_placeSign_21 rfl (lv_at hl 3 rfl) ?_
  refine lv_iconst (v := 1) hx hb dX7_placeSign_22 (by decide) ?_
  refine lv_iand hx hb dX7_placeSign_23 ?_
  refine wk_top 1 (by decide) ?_
  replace hM := hM.lt (v := 1) (by decide)
  refine lv_iload_n hx hb dX7_placeSign_24 rfl (lv_at hl 2 rfl) ?_
  refine lv_ishl hx hb dX7_placeSign_25 ?_
  refine lv_topi (fun x9 ex9 => ?_)
  have ezx9 := ex9
  have bx9 : 1 ≤ x9.toInt ∧ x9.toInt ≤ 64 := by rw [ex9]; exact wk_shl1 6 (by decide) (by omega) (by omega)
  replace hM := hM.lt (o32_e (f := fun x y => x <<< (y &&& 31)) ezx9 (by decide) rfl)
  refine lv_ior hx hb dX7_placeSign_26 ?_
  refine lv_topi (fun x10 ex10 => ?_)
  have ezx10 := ex10
  replace hM := hM.lt (o32_e (f := fun x y => x ||| y) ezx10 rfl rfl)
  refine tk_iast hC hK hw hT kC_at44 (by decide) rfl rfl (show 0 ≤ x6.toInt by omega) (show x6.toInt < 26 by omega) (wk_i32 x10).1 (wk_i32 x10).2 dX7_placeSign_27 (fun H locs w11 hw hT k13 c12 => ?_)
  replace hM := hM.wr (sI_up k13 c12)
  have hF := hF.put kC_at44 (inE_of (a := 0) (b := 26) (by decide) (show 0 ≤ x6.toInt.toNat by omega) (show x6.toInt.toNat ≤ 26 by omega)) k13
  refine lv_aload_n hx hb dX7_placeSign_28 rfl (lv_at hl 0 rfl) ?_
  refine tk_getO hC hK hw hT hinX7 kC_at39 (by decide) rfl 4 (by decide) (List.mem_cons_of_mem _ uw_2_21) rfl rfl dX7_placeSign_29 ?_
  refine lv_iconst (v := 2) hx hb dX7_placeSign_32 (by decide) ?_
  refine lv_iload_n hx hb dX7_placeSign_33 rfl (lv_at hl 1 rfl) ?_
  refine lv_imul hx hb dX7_placeSign_34 ?_
  refine lv_topi (fun x14 ex14 => ?_)
  have ezx14 := ex14
  have ex14 : x14.toInt = (2 : Int) * a1.toInt := by rw [ex14]; exact wk_mul (show (-2147483648) ≤ (2 : Int) * a1.toInt by omega) (show (2 : Int) * a1.toInt ≤ 2147483647 by omega)
  replace hM := hM.lt ex14.symm
  refine lv_iconst (v := 1) hx hb dX7_placeSign_35 (by decide) ?_
  refine lv_iadd hx hb dX7_placeSign_36 ?_
  refine lv_topi (fun x15 ex15 => ?_)
  have ezx15 := ex15
  have ex15 : x15.toInt = x14.toInt + (1 : Int) := by rw [ex15]; exact wk_add (show (-2147483648) ≤ x14.toInt + (1 : Int) by omega) (show x14.toInt + (1 : Int) ≤ 2147483647 by omega)
  replace hM := hM.lt ex15.symm
  refine lv_dup2_11 hx hb dX7_placeSign_37 rfl rfl ?_
  refine tk_iald hC hK hw hT kC_at44 rfl rfl (show 0 ≤ x15.toInt by omega) (show x15.toInt < 26 by omega) dX7_placeSign_38 (fun x16 c17 rx16 tx16 => ?_)
  have hox16 := c17
  replace hM := hM.rd (sI_at hox16)
  refine lv_iload_n hx hb dX7_placeSign_39 rfl (lv_at hl 3 rfl) ?_
  refine lv_iconst (v := 1) hx hb dX7_placeSign_40 (by decide) ?_
  refine lv_ishr hx hb dX7_placeSign_41 ?_
  refine wk_top 1 (by decide) ?_
  replace hM := hM.lt (v := 1) (by decide)
  refine lv_iload_n hx hb dX7_placeSign_42 rfl (lv_at hl 2 rfl) ?_
  refine lv_ishl hx hb dX7_placeSign_43 ?_
  refine lv_topi (fun x18 ex18 => ?_)
  have ezx18 := ex18
  have bx18 : 1 ≤ x18.toInt ∧ x18.toInt ≤ 64 := by rw [ex18]; exact wk_shl1 6 (by decide) (by omega) (by omega)
  replace hM := hM.lt (o32_e (f := fun x y => x <<< (y &&& 31)) ezx18 (by decide) rfl)
  refine lv_ior hx hb dX7_placeSign_44 ?_
  refine lv_topi (fun x19 ex19 => ?_)
  have ezx19 := ex19
  replace hM := hM.lt (o32_e (f := fun x y => x ||| y) ezx19 rfl rfl)
  refine tk_iast hC hK hw hT kC_at44 (by decide) rfl rfl (show 0 ≤ x15.toInt by omega) (show x15.toInt < 26 by omega) (wk_i32 x19).1 (wk_i32 x19).2 dX7_placeSign_45 (fun H locs w20 hw hT k22 c21 => ?_)
  replace hM := hM.wr (sI_up k22 c21)
  have hF := hF.put kC_at44 (inE_of (a := 0) (b := 26) (by decide) (show 0 ≤ x15.toInt.toNat by omega) (show x15.toInt.toNat ≤ 26 by omega)) k22
  exact tk_vret hC hr hlocks hK ⟨hT, hF, hM.ret rfl, trivial⟩ hw dX7_placeSign_46
abbrev Pz_X7_placeStreet_2 (ad : Nat → Nat) (cy : Nat → ClassId) (B : Int) (qr : Nat) (s1 : Int) (a1 : Int32) (a2 : Int32) (a3 : Int32) (a4 : Int32) (w0 : va_W) : va_W → Prop := fun u => TW ksC ad cy B qr s1 u ∧ FE ksC [(24, 0, 26), (25, 0, 13), (27, 0, 13), (28, 0, 26)] w0 u ∧ Ev (fun n => m_X7_placeStreet n 39 a1.toInt a2.toInt a3.toInt a4.toInt (sI w0)) (0, sI u) ∧ ((True))
set_option maxHeartbeats 4000000 in
set_option maxRecDepth 100000 in
theorem kz_X7_placeStreet_2 (l : Launch) (adK adV : Nat → Nat) (dC : Nat → ClassId) (dI : Nat → Nat → Nat) (cy : Nat → ClassId) (ad : Nat → Nat) (B : Int) (hB0 : 2147483648 ≤ B) (hB1 : B ≤ 1152921504606846976) (qr : Nat) (s1 : Int)  (a1 : Int32) (ra1 : 0 ≤ a1.toInt) (ta1 : a1.toInt ≤ 12) (a2 : Int32) (ra2 : 0 ≤ a2.toInt) (ta2 : a2.toInt ≤ 9) (a3 : Int32) (ra3 : 1 ≤ a3.toInt) (ta3 : a3.toInt ≤ 9) (a4 : Int32) (ra4 : 1 ≤ a4.toInt) (ta4 : a4.toInt ≤ 9) (w0 : va_W) (sz : Nat) (hT : TW ksC ad cy B qr s1 w0)  : Met l yX7_placeStreet (wu yX7_placeStreet cX7_placeStreet 5 none) ({ frames := 1, cells := 0, slots := 0, locals := 12 }) (va_Pc [.ref (ad 39), .int a1, .int a2, .int a3, .int a4] (wpreS adK adV dC dI cy sz w0)) (va_Qv (Pz_X7_placeStreet_2 ad cy B qr s1 a1 a2 a3 a4 w0) (fun u : va_W => wpost dC dI cy (va_A w0 sz) u) (va_A w0 sz)) 0 0 (va_A w0 sz) := by
  refine Met.ofW (cc := cX7_placeStreet) (maxL := 5) (ret := none) (by decide) rfl ?_
  intro p e s m args below meth c s₁ Bk hml hv
  obtain ⟨rfl, ⟨hsz, hP, hK, hD0⟩, hE, hSR⟩ := hv
  have hx := Bk.exec
  have hb := Bk.bytes
  have hr := Bk.returns
  have hlocks := Bk.notSynchronized
  have hC : CallFix p m c cX7_placeStreet 5 s _ (wu yX7_placeStreet cX7_placeStreet 5 none) RX7 := ⟨hx, hb, hml, findClass_of_methodNamed Bk.named, atoms_spec (ws := (wu yX7_placeStreet cX7_placeStreet 5 none)) Bk.pre⟩
  subst hsz
  have hD := hD0.self (sz := s.heap.size)
  generalize hAe : va_A w0 s.heap.size = A at hD hE ⊢
  have hA : ∀ q : Nat, s.heap.size ≤ q → A q := fun q h => by rw [← hAe]; exact Or.inr h
  have hw : Wd dC dI A s.heap s.heap [] w0 := ⟨hP, hD, va_S.rf⟩
  have hF : FE ksC [(24, 0, 26), (25, 0, 13), (27, 0, 13), (28, 0, 26)] w0 w0 := FE.rf
  have hl := lv_entry ([.ref (ad 39), .int a1, .int a2, .int a3, .int a4]) (n := 5) (Nat.le_of_ble_eq_true rfl)
  rw [lg_entry_eq]
  generalize (lg_sl ([.ref (ad 39), .int a1, .int a2, .int a3, .int a4]) ++ List.replicate (5 - (lg_sl ([.ref (ad 39), .int a1, .int a2, .int a3, .int a4])).length) Slot.unset).toArray = ls at hl ⊢
  have hl : lv_has ls 5 [(0, .ref (ad 39)), (1, .int a1), (2, .int a2), (3, .int a3), (4, .int a4)] := hl
  generalize hloc : ([] : List Loc) = locs at hw ⊢
  have hinX7 : ∀ w ∈ u_ws RX7 TX7 12, w ∈ (wu yX7_placeStreet cX7_placeStreet 5 none) := fun _ h => List.mem_cons_of_mem _ (up_73 h)
  have hM : TT (fun n => m_X7_placeStreet n 39 a1.toInt a2.toInt a3.toInt a4.toInt (sI w0)) (fun n => m_X7_placeStreet n 39 a1.toInt a2.toInt a3.toInt a4.toInt (sI w0)) := TT.rf
  refine lv_aload_n hx hb dX7_placeStreet_0 rfl (lv_at hl 0 rfl) ?_
  refine tk_getO hC hK hw hT hinX7 kC_at39 (by decide) rfl 0 (by decide) (List.mem_cons_of_mem _ uw_2_17) rfl rfl dX7_placeStreet_1 ?_
  refine lv_iconst (v := 2) hx hb dX7_placeStreet_4 (by decide) ?_
  refine lv_iload_n hx hb dX7_placeStreet_5 rfl (lv_at hl 1 rfl) ?_
  refine lv_imul hx hb dX7_placeStreet_6 ?_
  refine lv_topi (fun x1 ex1 => ?_)
  have ezx1 := ex1
  have ex1 : x1.toInt = (2 : Int) * a1.toInt := by rw [ex1]; exact wk_mul (show (-2147483648) ≤ (2 : Int) * a1.toInt by omega) (show (2 : Int) * a1.toInt ≤ 2147483647 by omega)
  replace hM := hM.lt ex1.symm
  refine lv_iload_n hx hb dX7_placeStreet_7 rfl (lv_at hl 2 rfl) ?_
  refine tk_iast hC hK hw hT kC_at40 (by decide) rfl rfl (show 0 ≤ x1.toInt by omega) (show x1.toInt < 26 by omega) (show 0 ≤ a2.toInt from ra2) (show a2.toInt ≤ 9 from ta2) dX7_placeStreet_8 (fun H locs w2 hw hT k4 c3 => ?_)
  replace hM := hM.wr (sI_up k4 c3)
  have hF := hF.put kC_at40 (inE_of (a := 0) (b := 26) (by decide) (show 0 ≤ x1.toInt.toNat by omega) (show x1.toInt.toNat ≤ 26 by omega)) k4
  refine lv_aload_n hx hb dX7_placeStreet_9 rfl (lv_at hl 0 rfl) ?_
  refine tk_getO hC hK hw hT hinX7 kC_at39 (by decide) rfl 0 (by decide) (List.mem_cons_of_mem _ uw_2_17) rfl rfl dX7_placeStreet_10 ?_
  refine lv_iconst (v := 2) hx hb dX7_placeStreet_13 (by decide) ?_
  refine lv_iload_n hx hb dX7_placeStreet_14 rfl (lv_at hl 1 rfl) ?_
  refine lv_imul hx hb dX7_placeStreet_15 ?_
  refine lv_topi (fun x5 ex5 => ?_)
  have ezx5 := ex5
  have ex5 : x5.toInt = (2 : Int) * a1.toInt := by rw [ex5]; exact wk_mul (show (-2147483648) ≤ (2 : Int) * a1.toInt by omega) (show (2 : Int) * a1.toInt ≤ 2147483647 by omega)
  replace hM := hM.lt ex5.symm
  refine lv_iconst (v := 1) hx hb dX7_placeStreet_16 (by decide) ?_
  refine lv_iadd hx hb dX7_placeStreet_17 ?_
  refine lv_topi (fun x6 ex6 => ?_)
  have ezx6 := ex6
  have ex6 : x6.toInt = x5.toInt + (1 : Int) := by rw [ex6]; exact wk_add (show (-2147483648) ≤ x5.toInt + (1 : Int) by omega) (show x5.toInt + (1 : Int) ≤ 2147483647 by omega)
  replace hM := hM.lt ex6.symm
  refine lv_iload_n hx hb dX7_placeStreet_18 rfl (lv_at hl 3 rfl) ?_
  refine tk_iast hC hK hw hT kC_at40 (by decide) rfl rfl (show 0 ≤ x6.toInt by omega) (show x6.toInt < 26 by omega) (show 0 ≤ a3.toInt from Int.le_trans (by decide) ra3) (show a3.toInt ≤ 9 from ta3) dX7_placeStreet_19 (fun H locs w7 hw hT k9 c8 => ?_)
  replace hM := hM.wr (sI_up k9 c8)
  have hF := hF.put kC_at40 (inE_of (a := 0) (b := 26) (by decide) (show 0 ≤ x6.toInt.toNat by omega) (show x6.toInt.toNat ≤ 26 by omega)) k9
  refine lv_aload_n hx hb dX7_placeStreet_20 rfl (lv_at hl 0 rfl) ?_
  refine tk_getO hC hK hw hT hinX7 kC_at39 (by decide) rfl 1 (by decide) (List.mem_cons_of_mem _ uw_2_18) rfl rfl dX7_placeStreet_21 ?_
  refine lv_iload_n hx hb dX7_placeStreet_24 rfl (lv_at hl 1 rfl) ?_
  refine lv_iload hx hb dX7_placeStreet_25 (lv_at hl 4 rfl) ?_
  refine tk_iast hC hK hw hT kC_at41 (by decide) rfl rfl (show 0 ≤ a1.toInt from ra1) (show a1.toInt < 13 from Int.lt_of_le_of_lt ta1 (by decide)) (show 0 ≤ a4.toInt from Int.le_trans (by decide) ra4) (show a4.toInt ≤ 9 from ta4) dX7_placeStreet_27 (fun H locs w10 hw hT k12 c11 => ?_)
  replace hM := hM.wr (sI_up k12 c11)
  have hF := hF.put kC_at41 (inE_of (a := 0) (b := 13) (by decide) (show 0 ≤ a1.toInt.toNat by omega) (show a1.toInt.toNat ≤ 13 by omega)) k12
  refine lv_aload_n hx hb dX7_placeStreet_28 rfl (lv_at hl 0 rfl) ?_
  refine tk_getO hC hK hw hT hinX7 kC_at39 (by decide) rfl 3 (by decide) (List.mem_cons_of_mem _ uw_2_20) rfl rfl dX7_placeStreet_29 ?_
  refine lv_iload_n hx hb dX7_placeStreet_32 rfl (lv_at hl 1 rfl) ?_
  refine lv_iconst (v := 0) hx hb dX7_placeStreet_33 (by decide) ?_
  refine tk_iast hC hK hw hT kC_at43 (by decide) rfl rfl (show 0 ≤ a1.toInt from ra1) (show a1.toInt < 13 from Int.lt_of_le_of_lt ta1 (by decide)) (by decide) (by decide) dX7_placeStreet_34 (fun H locs w13 hw hT k15 c14 => ?_)
  replace hM := hM.wr (sI_upc k15 c14 (by decide))
  have hF := hF.put kC_at43 (inE_of (a := 0) (b := 13) (by decide) (show 0 ≤ a1.toInt.toNat by omega) (show a1.toInt.toNat ≤ 13 by omega)) k15
  refine lv_aload_n hx hb dX7_placeStreet_35 rfl (lv_at hl 0 rfl) ?_
  refine tk_getO hC hK hw hT hinX7 kC_at39 (by decide) rfl 4 (by decide) (List.mem_cons_of_mem _ uw_2_21) rfl rfl dX7_placeStreet_36 ?_
  refine lv_iconst (v := 2) hx hb dX7_placeStreet_39 (by decide) ?_
  refine lv_iload_n hx hb dX7_placeStreet_40 rfl (lv_at hl 1 rfl) ?_
  refine lv_imul hx hb dX7_placeStreet_41 ?_
  refine lv_topi (fun x16 ex16 => ?_)
  have ezx16 := ex16
  have ex16 : x16.toInt = (2 : Int) * a1.toInt := by rw [ex16]; exact wk_mul (show (-2147483648) ≤ (2 : Int) * a1.toInt by omega) (show (2 : Int) * a1.toInt ≤ 2147483647 by omega)
  replace hM := hM.lt ex16.symm
  refine lv_iconst (v := 0) hx hb dX7_placeStreet_42 (by decide) ?_
  refine tk_iast hC hK hw hT kC_at44 (by decide) rfl rfl (show 0 ≤ x16.toInt by omega) (show x16.toInt < 26 by omega) (by decide) (by decide) dX7_placeStreet_43 (fun H locs w17 hw hT k19 c18 => ?_)
  replace hM := hM.wr (sI_upc k19 c18 (by decide))
  have hF := hF.put kC_at44 (inE_of (a := 0) (b := 26) (by decide) (show 0 ≤ x16.toInt.toNat by omega) (show x16.toInt.toNat ≤ 26 by omega)) k19
  refine lv_aload_n hx hb dX7_placeStreet_44 rfl (lv_at hl 0 rfl) ?_
  refine tk_getO hC hK hw hT hinX7 kC_at39 (by decide) rfl 4 (by decide) (List.mem_cons_of_mem _ uw_2_21) rfl rfl dX7_placeStreet_45 ?_
  refine lv_iconst (v := 2) hx hb dX7_placeStreet_48 (by decide) ?_
  refine lv_iload_n hx hb dX7_placeStreet_49 rfl (lv_at hl 1 rfl) ?_
  refine lv_imul hx hb dX7_placeStreet_50 ?_
  refine lv_topi (fun x20 ex20 => ?_)
  have ezx20 := ex20
  have ex20 : x20.toInt = (2 : Int) * a1.toInt := by rw [ex20]; exact wk_mul (show (-2147483648) ≤ (2 : Int) * a1.toInt by omega) (show (2 : Int) * a1.toInt ≤ 2147483647 by omega)
  replace hM := hM.lt ex20.symm
  refine lv_iconst (v := 1) hx hb dX7_placeStreet_51 (by decide) ?_
  refine lv_iadd hx hb dX7_placeStreet_52 ?_
  refine lv_topi (fun x21 ex21 => ?_)
  have ezx21 := ex21
  have ex21 : x21.toInt = x20.toInt + (1 : Int) := by rw [ex21]; exact wk_add (show (-2147483648) ≤ x20.toInt + (1 : Int) by omega) (show x20.toInt + (1 : Int) ≤ 2147483647 by omega)
  replace hM := hM.lt ex21.symm
  refine lv_iconst (v := 0) hx hb dX7_placeStreet_53 (by decide) ?_
  refine tk_iast hC hK hw hT kC_at44 (by decide) rfl rfl (show 0 ≤ x21.toInt by omega) (show x21.toInt < 26 by omega) (by decide) (by decide) dX7_placeStreet_54 (fun H locs w22 hw hT k24 c23 => ?_)
  replace hM := hM.wr (sI_upc k24 c23 (by decide))
  have hF := hF.put kC_at44 (inE_of (a := 0) (b := 26) (by decide) (show 0 ≤ x21.toInt.toNat by omega) (show x21.toInt.toNat ≤ 26 by omega)) k24
  exact tk_vret hC hr hlocks hK ⟨hT, hF, hM.ret rfl, trivial⟩ hw dX7_placeStreet_55
abbrev Pz_X7_tryStreet_1 (ad : Nat → Nat) (cy : Nat → ClassId) (B : Int) (qr : Nat) (s1 : Int) (a1 : Int32) (a2 : Int32) (a3 : Int32) (w0 : va_W) : va_W → Prop := fun u => TW ksC ad cy B qr s1 u ∧ FE ksC [(24, 0, 26), (25, 0, 13), (26, 0, 91), (27, 0, 13), (28, 0, 26), (31, 0, 13)] w0 u ∧ Ev (fun n => m_X7_tryStreet n 39 a1.toInt a2.toInt a3.toInt (sI w0)) (0, sI u) ∧ ((True))
set_option maxHeartbeats 4000000 in
set_option maxRecDepth 100000 in
theorem kz_X7_tryStreet_1 (l : Launch) (adK adV : Nat → Nat) (dC : Nat → ClassId) (dI : Nat → Nat → Nat) (cy : Nat → ClassId) (ad : Nat → Nat) (B : Int) (hB0 : 2147483648 ≤ B) (hB1 : B ≤ 1152921504606846976) (qr : Nat) (s1 : Int)  (a1 : Int32) (ra1 : 0 ≤ a1.toInt) (ta1 : a1.toInt ≤ 9) (a2 : Int32) (ra2 : 1 ≤ a2.toInt) (ta2 : a2.toInt ≤ 9) (a3 : Int32) (ra3 : 1 ≤ a3.toInt) (ta3 : a3.toInt ≤ 9) (w0 : va_W) (sz : Nat) (hT : TW ksC ad cy B qr s1 w0)  : Met l yX7_tryStreet (wu yX7_tryStreet cX7_tryStreet 5 none) ({ frames := 3, cells := 0, slots := 0, locals := 56 }) (va_Pc [.ref (ad 39), .int a1, .int a2, .int a3] (wpreS adK adV dC dI cy sz w0)) (va_Qv (Pz_X7_tryStreet_1 ad cy B qr s1 a1 a2 a3 w0) (fun u : va_W => wpost dC dI cy (va_A w0 sz) u) (va_A w0 sz)) 0 0 (va_A w0 sz) := by
  refine Met.ofW (cc := cX7_tryStreet) (maxL := 5) (ret := none) (by decide) rfl ?_
  intro p e s m args below meth c s₁ Bk hml hv
  obtain ⟨rfl, ⟨hsz, hP, hK, hD0⟩, hE, hSR⟩ := hv
  have hx := Bk.exec
  have hb := Bk.bytes
  have hr := Bk.returns
  have hlocks := Bk.notSynchronized
  have hC : CallFix p m c cX7_tryStreet 5 s _ (wu yX7_tryStreet cX7_tryStreet 5 none) RX7 := ⟨hx, hb, hml, findClass_of_methodNamed Bk.named, atoms_spec (ws := (wu yX7_tryStreet cX7_tryStreet 5 none)) Bk.pre⟩
  subst hsz
  have hD := hD0.self (sz := s.heap.size)
  generalize hAe : va_A w0 s.heap.size = A at hD hE ⊢
  have hA : ∀ q : Nat, s.heap.size ≤ q → A q := fun q h => by rw [← hAe]; exact Or.inr h
  have hw : Wd dC dI A s.heap s.heap [] w0 := ⟨hP, hD, va_S.rf⟩
  have hF : FE ksC [(24, 0, 26), (25, 0, 13), (26, 0, 91), (27, 0, 13), (28, 0, 26), (31, 0, 13)] w0 w0 := FE.rf
  have hl := lv_entry ([.ref (ad 39), .int a1, .int a2, .int a3]) (n := 5) (Nat.le_of_ble_eq_true rfl)
  rw [lg_entry_eq]
  generalize (lg_sl ([.ref (ad 39), .int a1, .int a2, .int a3]) ++ List.replicate (5 - (lg_sl ([.ref (ad 39), .int a1, .int a2, .int a3])).length) Slot.unset).toArray = ls at hl ⊢
  have hl : lv_has ls 5 [(0, .ref (ad 39)), (1, .int a1), (2, .int a2), (3, .int a3)] := hl
  generalize hloc : ([] : List Loc) = locs at hw ⊢
  have hinX7 : ∀ w ∈ u_ws RX7 TX7 12, w ∈ (wu yX7_tryStreet cX7_tryStreet 5 none) := fun _ h => List.mem_cons_of_mem _ (up_73 h)
  have L14 : ∀ (n14 : Nat) (v14_4 : Int32) (f14_39_9 : Int32) (H : Heap) (locs : List Loc) (ls : Array Slot) (w1 : va_W), 0 ≤ a1.toInt → a1.toInt ≤ 9 → 1 ≤ a2.toInt → a2.toInt ≤ 9 → 1 ≤ a3.toInt → a3.toInt ≤ 9 → 0 ≤ v14_4.toInt → v14_4.toInt ≤ 7 → 0 ≤ f14_39_9.toInt → f14_39_9.toInt ≤ 12 → (7 - v14_4.toInt).toNat < n14 → Wd dC dI A s.heap H locs w1 → TW ksC ad cy B qr s1 w1 → FE ksC [(24, 0, 26), (25, 0, 13), (26, 0, 91), (27, 0, 13), (28, 0, 26), (31, 0, 13)] w0 w1 → gi w1 39 9 = f14_39_9 → TT (fun n => m_X7_tryStreet n 39 a1.toInt a2.toInt a3.toInt (sI w0)) (fun n => j_X7_tryStreet 39 n 14 [v14_4.toInt] (sI w1)) → lv_has ls 5 [(0, .ref (ad 39)), (1, .int a1), (2, .int a2), (3, .int a3), (4, .int v14_4)] → W p l e ({ frames := 3, cells := 0, slots := 0, locals := 56 }) s m (List.toArray [.ref (ad 39), .int a1, .int a2, .int a3]) below meth c H locs 0 0 (MQ below (va_Qv (Pz_X7_tryStreet_1 ad cy B qr s1 a1 a2 a3 w0) (fun u : va_W => wpost dC dI cy A u) A) (List.toArray [.ref (ad 39), .int a1, .int a2, .int a3]) s 0 0 A) (F0 m 14 ls []) := by
    intro n14
    induction n14 with
    | zero => intro v14_4 f14_39_9 H locs ls w1 r2 t3 r4 t5 r6 t7 r8 t9 r10 t11 hm14 hw hT hF c12 hM hl; omega
    | succ n14 ih14 =>
      intro v14_4 f14_39_9 H locs ls w1 r2 t3 r4 t5 r6 t7 r8 t9 r10 t11 hm14 hw hT hF c12 hM hl
      replace hM := hM.suc (fun _ => e_X7_tryStreet_14)
      refine lv_iload hx hb dX7_tryStreet_14 (lv_at hl 4 rfl) ?_
      refine lv_bipush (v := 7) hx hb dX7_tryStreet_16 (by decide) ?_
      refine lv_icmp_ge (tgt := 38) hx hb dX7_tryStreet_18 (by decide) (fun c13 => ?_) (fun c13 => ?_)
      · have c13 : (7 : Int) ≤ v14_4.toInt := wk_le.mp c13
        replace hM := hM.pos c13
        refine lv_aload_n hx hb dX7_tryStreet_38 rfl (lv_at hl 0 rfl) ?_
        refine lv_aload_n hx hb dX7_tryStreet_39 rfl (lv_at hl 0 rfl) ?_
        refine tk_geti hC hK hw hT hinX7 kC_at39 (by decide) rfl 9 (by decide) (List.mem_cons_of_mem _ uw_9_8) rfl rfl dX7_tryStreet_40 (fun x14 c15 rx14 tx14 => ?_)
        refine wk_top f14_39_9 (c15.symm.trans c12) ?_
        replace hM := hM.rd (sI_at c12)
        refine tk_Vv hC hK hw hT hA hE hSR kC_at39 (by decide) rfl (kz_X7_findSaints_2 l adK adV dC dI cy ad B (by omega) (by omega) qr s1   f14_39_9 (show 0 ≤ f14_39_9.toInt from r10) (show f14_39_9.toInt ≤ 12 from t11) w1 H.size hT ) (cwV 1 hC.2.2.2.2 uV_RX7_85 rfl rfl rfl (by decide +kernel) ⟨Nat.le_of_ble_eq_true rfl, Nat.le_of_ble_eq_true rfl⟩) rfl hl.1 rfl (Nat.le_of_ble_eq_true rfl) dX7_tryStreet_43 (fun w18 H locs hp17 hw => ?_)
        obtain ⟨hT, k19, hv21, hg20⟩ := hp17
        have hF := hF.tr k19 (by decide)
        have c22 := k19.gi kC_at39 (by decide) c12
        clear hg20
        replace hM := hM.call hv21 rfl
        exact tk_vret hC hr hlocks hK ⟨hT, hF, hM.ret rfl, trivial⟩ hw dX7_tryStreet_46
      · have c13 : v14_4.toInt < (7 : Int) := wk_leF c13
        replace hM := hM.neg (Int.not_le.mpr c13)
        refine lv_aload_n hx hb dX7_tryStreet_21 rfl (lv_at hl 0 rfl) ?_
        refine lv_aload_n hx hb dX7_tryStreet_22 rfl (lv_at hl 0 rfl) ?_
        refine tk_geti hC hK hw hT hinX7 kC_at39 (by decide) rfl 9 (by decide) (List.mem_cons_of_mem _ uw_9_8) rfl rfl dX7_tryStreet_23 (fun x23 c24 rx23 tx23 => ?_)
        refine wk_top f14_39_9 (c24.symm.trans c12) ?_
        replace hM := hM.rd (sI_at c12)
        refine lv_iload hx hb dX7_tryStreet_26 (lv_at hl 4 rfl) ?_
        refine lv_iconst (v := 3) hx hb dX7_tryStreet_28 (by decide) ?_
        refine tk_Vv hC hK hw hT hA hE hSR kC_at39 (by decide) rfl (kz_X7_placeSign_2 l adK adV dC dI cy ad B (by omega) (by omega) qr s1   f14_39_9 (show 0 ≤ f14_39_9.toInt from r10) (show f14_39_9.toInt ≤ 12 from t11) v14_4 (show 0 ≤ v14_4.toInt from r8) (show v14_4.toInt ≤ 6 by omega) w1 H.size hT ) (cwV 3 hC.2.2.2.2 uV_RX7_134 rfl rfl rfl (by decide +kernel) ⟨Nat.le_of_ble_eq_true rfl, Nat.le_of_ble_eq_true rfl⟩) rfl hl.1 rfl (Nat.le_of_ble_eq_true rfl) dX7_tryStreet_29 (fun w27 H locs hp26 hw => ?_)
        obtain ⟨hT, k28, hv30, hg29⟩ := hp26
        have hF := hF.tr k28 (by decide)
        have c31 := k28.gi kC_at39 (by decide) c12
        clear hg29
        replace hM := hM.call hv30 rfl
        obtain ⟨x32, ex32⟩ : ∃ y : Int32, y = v14_4 + Int32.ofInt 1 := ⟨_, rfl⟩
        have erx32 := ex32
        refine lv_iinc (v := x32) (lv' := [(4, .int x32), (0, .ref (ad 39)), (1, .int a1), (2, .int a2), (3, .int a3)]) hx hb dX7_tryStreet_32 hl (k := 4) rfl ex32.symm (by decide) rfl (fun ls hl => ?_)
        have ex32 : x32.toInt = v14_4.toInt + 1 := by rw [ex32]; exact wk_add (y := 1) (show -2147483648 ≤ v14_4.toInt + 1 by omega) (show v14_4.toInt + 1 ≤ 2147483647 by omega)
        replace hM := hM.lt ex32.symm
        refine lv_goto (tgt := 14) hx hb dX7_tryStreet_35 (by decide) ?_
        exact ih14 x32 f14_39_9 H locs ls w27 (show 0 ≤ a1.toInt from r2) (show a1.toInt ≤ 9 from t3) (show 1 ≤ a2.toInt from r4) (show a2.toInt ≤ 9 from t5) (show 1 ≤ a3.toInt from r6) (show a3.toInt ≤ 9 from t7) (show 0 ≤ x32.toInt by omega) (show x32.toInt ≤ 7 by omega) (show 0 ≤ f14_39_9.toInt from r10) (show f14_39_9.toInt ≤ 12 from t11) (show (7 - x32.toInt).toNat < n14 by omega) hw hT hF c31 hM (lv_sub hl [1, 2, 3, 4, 0] rfl)
  have hM : TT (fun n => m_X7_tryStreet n 39 a1.toInt a2.toInt a3.toInt (sI w0)) (fun n => m_X7_tryStreet n 39 a1.toInt a2.toInt a3.toInt (sI w0)) := TT.rf
  refine lv_aload_n hx hb dX7_tryStreet_0 rfl (lv_at hl 0 rfl) ?_
  refine lv_aload_n hx hb dX7_tryStreet_1 rfl (lv_at hl 0 rfl) ?_
  refine tk_geti hC hK hw hT hinX7 kC_at39 (by decide) rfl 9 (by decide) (List.mem_cons_of_mem _ uw_9_8) rfl rfl dX7_tryStreet_2 (fun x33 c34 rx33 tx33 => ?_)
  replace hM := hM.rd (sI_at c34)
  refine lv_iload_n hx hb dX7_tryStreet_5 rfl (lv_at hl 1 rfl) ?_
  refine lv_iload_n hx hb dX7_tryStreet_6 rfl (lv_at hl 2 rfl) ?_
  refine lv_iload_n hx hb dX7_tryStreet_7 rfl (lv_at hl 3 rfl) ?_
  refine tk_Vv hC hK hw hT hA hE hSR kC_at39 (by decide) rfl (kz_X7_placeStreet_2 l adK adV dC dI cy ad B (by omega) (by omega) qr s1   x33 (show 0 ≤ x33.toInt from rx33) (show x33.toInt ≤ 12 from tx33) a1 (show 0 ≤ a1.toInt from ra1) (show a1.toInt ≤ 9 from ta1) a2 (show 1 ≤ a2.toInt from ra2) (show a2.toInt ≤ 9 from ta2) a3 (show 1 ≤ a3.toInt from ra3) (show a3.toInt ≤ 9 from ta3) w0 s.heap.size hT ) (cwV 4 hC.2.2.2.2 uV_RX7_106 rfl rfl rfl (by decide +kernel) ⟨Nat.le_of_ble_eq_true rfl, Nat.le_of_ble_eq_true rfl⟩) rfl hl.1 rfl (Nat.le_of_ble_eq_true rfl) dX7_tryStreet_8 (fun w37 H locs hp36 hw => ?_)
  obtain ⟨hT, k38, hv40, hg39⟩ := hp36
  have hF := hF.tr k38 (by decide)
  have c41 := k38.gi kC_at39 (by decide) c34
  clear hg39
  replace hM := hM.call hv40 rfl
  refine lv_iconst (v := 0) hx hb dX7_tryStreet_11 (by decide) ?_
  refine lv_istore (lv' := [(4, .int 0), (0, .ref (ad 39)), (1, .int a1), (2, .int a2), (3, .int a3)]) hx hb dX7_tryStreet_12 hl (by decide) rfl (fun ls hl => ?_)
  exact L14 ((7 - (0 : Int)).toNat + 1) 0 x33 H locs ls w37 (show 0 ≤ a1.toInt from ra1) (show a1.toInt ≤ 9 from ta1) (show 1 ≤ a2.toInt from ra2) (show a2.toInt ≤ 9 from ta2) (show 1 ≤ a3.toInt from ra3) (show a3.toInt ≤ 9 from ta3) (by decide) (by decide) (show 0 ≤ x33.toInt from rx33) (show x33.toInt ≤ 12 from tx33) (Nat.lt_succ_self _) hw hT hF c41 hM (lv_sub hl [1, 2, 3, 4, 0] rfl)
abbrev Pz_X7_sideOf_3 (ad : Nat → Nat) (cy : Nat → ClassId) (B : Int) (qr : Nat) (s1 : Int) (a1 : Int32) (a2 : Int32) (w0 : va_W) : Int32 → va_W → Prop := fun r u => TW ksC ad cy B qr s1 u ∧ FE ksC ([] : List (Nat × Nat × Nat)) w0 u ∧ Ev (fun n => m_X7_sideOf n 39 a1.toInt a2.toInt (sI w0)) (r.toInt, sI u) ∧ ((r = (-1)) ∨ (r = 0 ∧ gi u 40 (2 * a1.toInt + 0).toNat = a2) ∨ (r = 1 ∧ gi u 40 (2 * a1.toInt + 1).toNat = a2))
set_option maxHeartbeats 4000000 in
set_option maxRecDepth 100000 in
theorem kz_X7_sideOf_3 (l : Launch) (adK adV : Nat → Nat) (dC : Nat → ClassId) (dI : Nat → Nat → Nat) (cy : Nat → ClassId) (ad : Nat → Nat) (B : Int) (hB0 : 2147483648 ≤ B) (hB1 : B ≤ 1152921504606846976) (qr : Nat) (s1 : Int)  (a1 : Int32) (ra1 : 0 ≤ a1.toInt) (ta1 : a1.toInt ≤ 12) (a2 : Int32) (ra2 : 0 ≤ a2.toInt) (ta2 : a2.toInt ≤ 9) (w0 : va_W) (sz : Nat) (hT : TW ksC ad cy B qr s1 w0)  : Met l yX7_sideOf (wu yX7_sideOf cX7_sideOf 3 (some .int)) ({ frames := 1, cells := 0, slots := 0, locals := 12 }) (va_Pc [.ref (ad 39), .int a1, .int a2] (wpreS adK adV dC dI cy sz w0)) (va_Qi (Pz_X7_sideOf_3 ad cy B qr s1 a1 a2 w0) (fun u : va_W => wpost dC dI cy (va_A w0 sz) u) (va_A w0 sz)) 0 0 (va_A w0 sz) := by
  refine Met.ofW (cc := cX7_sideOf) (maxL := 3) (ret := (some .int)) (by decide) rfl ?_
  intro p e s m args below meth c s₁ Bk hml hv
  obtain ⟨rfl, ⟨hsz, hP, hK, hD0⟩, hE, hSR⟩ := hv
  have hx := Bk.exec
  have hb := Bk.bytes
  have hr := Bk.returns
  have hlocks := Bk.notSynchronized
  have hC : CallFix p m c cX7_sideOf 3 s _ (wu yX7_sideOf cX7_sideOf 3 (some .int)) RX7 := ⟨hx, hb, hml, findClass_of_methodNamed Bk.named, atoms_spec (ws := (wu yX7_sideOf cX7_sideOf 3 (some .int))) Bk.pre⟩
  subst hsz
  have hD := hD0.self (sz := s.heap.size)
  generalize hAe : va_A w0 s.heap.size = A at hD hE ⊢
  have hA : ∀ q : Nat, s.heap.size ≤ q → A q := fun q h => by rw [← hAe]; exact Or.inr h
  have hw : Wd dC dI A s.heap s.heap [] w0 := ⟨hP, hD, va_S.rf⟩
  have hF : FE ksC ([] : List (Nat × Nat × Nat)) w0 w0 := FE.rf
  have hl := lv_entry ([.ref (ad 39), .int a1, .int a2]) (n := 3) (Nat.le_of_ble_eq_true rfl)
  rw [lg_entry_eq]
  generalize (lg_sl ([.ref (ad 39), .int a1, .int a2]) ++ List.replicate (3 - (lg_sl ([.ref (ad 39), .int a1, .int a2])).length) Slot.unset).toArray = ls at hl ⊢
  have hl : lv_has ls 3 [(0, .ref (ad 39)), (1, .int a1), (2, .int a2)] := hl
  generalize hloc : ([] : List Loc) = locs at hw ⊢
  have hinX7 : ∀ w ∈ u_ws RX7 TX7 12, w ∈ (wu yX7_sideOf cX7_sideOf 3 (some .int)) := fun _ h => List.mem_cons_of_mem _ (up_73 h)
  have hM : TT (fun n => m_X7_sideOf n 39 a1.toInt a2.toInt (sI w0)) (fun n => m_X7_sideOf n 39 a1.toInt a2.toInt (sI w0)) := TT.rf
  refine lv_aload_n hx hb dX7_sideOf_0 rfl (lv_at hl 0 rfl) ?_
  refine tk_getO hC hK hw hT hinX7 kC_at39 (by decide) rfl 0 (by decide) (List.mem_cons_of_mem _ uw_2_17) rfl rfl dX7_sideOf_1 ?_
  refine lv_iconst (v := 2) hx hb dX7_sideOf_4 (by decide) ?_
  refine lv_iload_n hx hb dX7_sideOf_5 rfl (lv_at hl 1 rfl) ?_
  refine lv_imul hx hb dX7_sideOf_6 ?_
  refine lv_topi (fun x1 ex1 => ?_)
  have ezx1 := ex1
  have ex1 : x1.toInt = (2 : Int) * a1.toInt := by rw [ex1]; exact wk_mul (show (-2147483648) ≤ (2 : Int) * a1.toInt by omega) (show (2 : Int) * a1.toInt ≤ 2147483647 by omega)
  replace hM := hM.lt ex1.symm
  refine tk_iald hC hK hw hT kC_at40 rfl rfl (show 0 ≤ x1.toInt by omega) (show x1.toInt < 26 by omega) dX7_sideOf_7 (fun x2 c3 rx2 tx2 => ?_)
  have hox2 := c3
  replace hM := hM.rd (sI_at hox2)
  have c3 : gi w0 40 (2 * a1.toInt + 0).toNat = x2 := (congrArg (gi w0 40) (congrArg Int.toNat (show 2 * a1.toInt + 0 = x1.toInt by omega))).trans c3
  refine lv_iload_n hx hb dX7_sideOf_8 rfl (lv_at hl 2 rfl) ?_
  refine lv_icmp_ne (tgt := 14) hx hb dX7_sideOf_9 (by decide) (fun c4 => ?_) (fun c4 => ?_)
  · have c4 : ¬ x2.toInt = a2.toInt := wk_eqF c4
    replace hM := hM.pos c4
    refine lv_aload_n hx hb dX7_sideOf_14 rfl (lv_at hl 0 rfl) ?_
    refine tk_getO hC hK hw hT hinX7 kC_at39 (by decide) rfl 0 (by decide) (List.mem_cons_of_mem _ uw_2_17) rfl rfl dX7_sideOf_15 ?_
    refine lv_iconst (v := 2) hx hb dX7_sideOf_18 (by decide) ?_
    refine lv_iload_n hx hb dX7_sideOf_19 rfl (lv_at hl 1 rfl) ?_
    refine lv_imul hx hb dX7_sideOf_20 ?_
    refine lv_topi (fun x5 ex5 => ?_)
    have ezx5 := ex5
    have ex5 : x5.toInt = (2 : Int) * a1.toInt := by rw [ex5]; exact wk_mul (show (-2147483648) ≤ (2 : Int) * a1.toInt by omega) (show (2 : Int) * a1.toInt ≤ 2147483647 by omega)
    replace hM := hM.lt ex5.symm
    refine lv_iconst (v := 1) hx hb dX7_sideOf_21 (by decide) ?_
    refine lv_iadd hx hb dX7_sideOf_22 ?_
    refine lv_topi (fun x6 ex6 => ?_)
    have ezx6 := ex6
    have ex6 : x6.toInt = x5.toInt + (1 : Int) := by rw [ex6]; exact wk_add (show (-2147483648) ≤ x5.toInt + (1 : Int) by omega) (show x5.toInt + (1 : Int) ≤ 2147483647 by omega)
    replace hM := hM.lt ex6.symm
    refine tk_iald hC hK hw hT kC_at40 rfl rfl (show 0 ≤ x6.toInt by omega) (show x6.toInt < 26 by omega) dX7_sideOf_23 (fun x7 c8 rx7 tx7 => ?_)
    have hox7 := c8
    replace hM := hM.rd (sI_at hox7)
    have c8 : gi w0 40 (2 * a1.toInt + 1).toNat = x7 := (congrArg (gi w0 40) (congrArg Int.toNat (show 2 * a1.toInt + 1 = x6.toInt by omega))).trans c8
    refine lv_iload_n hx hb dX7_sideOf_24 rfl (lv_at hl 2 rfl) ?_
    refine lv_icmp_ne (tgt := 32) hx hb dX7_sideOf_25 (by decide) (fun c9 => ?_) (fun c9 => ?_)
    · have c9 : ¬ x7.toInt = a2.toInt := wk_eqF c9
      replace hM := hM.pos c9
      refine lv_iconst (v := (-1)) hx hb dX7_sideOf_32 (by decide) ?_
      exact tk_iret hC hr hlocks hK ⟨hT, hF, hM.ret (by decide), (Or.inl rfl)⟩ hw dX7_sideOf_33
    · have c9 : x7.toInt = a2.toInt := wk_eq.mp c9
      replace hM := hM.neg (fun q => q c9)
      refine lv_iconst (v := 1) hx hb dX7_sideOf_28 (by decide) ?_
      refine lv_goto (tgt := 33) hx hb dX7_sideOf_29 (by decide) ?_
      exact tk_iret hC hr hlocks hK ⟨hT, hF, hM.ret (by decide), (Or.inr (Or.inr ⟨rfl, (c8.trans (wk_eq.mpr (show x7.toInt = a2.toInt by omega)))⟩))⟩ hw dX7_sideOf_33
  · have c4 : x2.toInt = a2.toInt := wk_eq.mp c4
    replace hM := hM.neg (fun q => q c4)
    refine lv_iconst (v := 0) hx hb dX7_sideOf_12 (by decide) ?_
    exact tk_iret hC hr hlocks hK ⟨hT, hF, hM.ret (by decide), (Or.inr (Or.inl ⟨rfl, (c3.trans (wk_eq.mpr (show x2.toInt = a2.toInt by omega)))⟩))⟩ hw dX7_sideOf_13
abbrev Pz_X7_cornerAcross_1 (ad : Nat → Nat) (cy : Nat → ClassId) (B : Int) (qr : Nat) (s1 : Int) (a1 : Int32) (w0 : va_W) : Int32 → va_W → Prop := fun r u => TW ksC ad cy B qr s1 u ∧ FE ksC ([] : List (Nat × Nat × Nat)) w0 u ∧ Ev (fun n => m_X7_cornerAcross n 39 a1.toInt 0 (sI w0)) (r.toInt, sI u) ∧ ((0 ≤ r.toInt ∧ r.toInt ≤ 9))
set_option maxHeartbeats 4000000 in
set_option maxRecDepth 100000 in
theorem kz_X7_cornerAcross_1 (l : Launch) (adK adV : Nat → Nat) (dC : Nat → ClassId) (dI : Nat → Nat → Nat) (cy : Nat → ClassId) (ad : Nat → Nat) (B : Int) (hB0 : 2147483648 ≤ B) (hB1 : B ≤ 1152921504606846976) (qr : Nat) (s1 : Int)  (a1 : Int32) (ra1 : 0 ≤ a1.toInt) (ta1 : a1.toInt ≤ 12) (w0 : va_W) (sz : Nat) (hT : TW ksC ad cy B qr s1 w0)  : Met l yX7_cornerAcross (wu yX7_cornerAcross cX7_cornerAcross 3 (some .int)) ({ frames := 1, cells := 0, slots := 0, locals := 12 }) (va_Pc [.ref (ad 39), .int a1, .int 0] (wpreS adK adV dC dI cy sz w0)) (va_Qi (Pz_X7_cornerAcross_1 ad cy B qr s1 a1 w0) (fun u : va_W => wpost dC dI cy (va_A w0 sz) u) (va_A w0 sz)) 0 0 (va_A w0 sz) := by
  refine Met.ofW (cc := cX7_cornerAcross) (maxL := 3) (ret := (some .int)) (by decide) rfl ?_
  intro p e s m args below meth c s₁ Bk hml hv
  obtain ⟨rfl, ⟨hsz, hP, hK, hD0⟩, hE, hSR⟩ := hv
  have hx := Bk.exec
  have hb := Bk.bytes
  have hr := Bk.returns
  have hlocks := Bk.notSynchronized
  have hC : CallFix p m c cX7_cornerAcross 3 s _ (wu yX7_cornerAcross cX7_cornerAcross 3 (some .int)) RX7 := ⟨hx, hb, hml, findClass_of_methodNamed Bk.named, atoms_spec (ws := (wu yX7_cornerAcross cX7_cornerAcross 3 (some .int))) Bk.pre⟩
  subst hsz
  have hD := hD0.self (sz := s.heap.size)
  generalize hAe : va_A w0 s.heap.size = A at hD hE ⊢
  have hA : ∀ q : Nat, s.heap.size ≤ q → A q := fun q h => by rw [← hAe]; exact Or.inr h
  have hw : Wd dC dI A s.heap s.heap [] w0 := ⟨hP, hD, va_S.rf⟩
  have hF : FE ksC ([] : List (Nat × Nat × Nat)) w0 w0 := FE.rf
  have hl := lv_entry ([.ref (ad 39), .int a1, .int 0]) (n := 3) (Nat.le_of_ble_eq_true rfl)
  rw [lg_entry_eq]
  generalize (lg_sl ([.ref (ad 39), .int a1, .int 0]) ++ List.replicate (3 - (lg_sl ([.ref (ad 39), .int a1, .int 0])).length) Slot.unset).toArray = ls at hl ⊢
  have hl : lv_has ls 3 [(0, .ref (ad 39)), (1, .int a1), (2, .int 0)] := hl
  generalize hloc : ([] : List Loc) = locs at hw ⊢
  have hinX7 : ∀ w ∈ u_ws RX7 TX7 12, w ∈ (wu yX7_cornerAcross cX7_cornerAcross 3 (some .int)) := fun _ h => List.mem_cons_of_mem _ (up_73 h)
  have hM : TT (fun n => m_X7_cornerAcross n 39 a1.toInt 0 (sI w0)) (fun n => m_X7_cornerAcross n 39 a1.toInt 0 (sI w0)) := TT.rf
  refine lv_aload_n hx hb dX7_cornerAcross_0 rfl (lv_at hl 0 rfl) ?_
  refine tk_getO hC hK hw hT hinX7 kC_at39 (by decide) rfl 0 (by decide) (List.mem_cons_of_mem _ uw_2_17) rfl rfl dX7_cornerAcross_1 ?_
  refine lv_iconst (v := 2) hx hb dX7_cornerAcross_4 (by decide) ?_
  refine lv_iload_n hx hb dX7_cornerAcross_5 rfl (lv_at hl 1 rfl) ?_
  refine lv_imul hx hb dX7_cornerAcross_6 ?_
  refine lv_topi (fun x1 ex1 => ?_)
  have ezx1 := ex1
  have ex1 : x1.toInt = (2 : Int) * a1.toInt := by rw [ex1]; exact wk_mul (show (-2147483648) ≤ (2 : Int) * a1.toInt by omega) (show (2 : Int) * a1.toInt ≤ 2147483647 by omega)
  replace hM := hM.lt ex1.symm
  refine lv_iconst (v := 1) hx hb dX7_cornerAcross_7 (by decide) ?_
  refine lv_iadd hx hb dX7_cornerAcross_8 ?_
  refine lv_topi (fun x2 ex2 => ?_)
  have ezx2 := ex2
  have ex2 : x2.toInt = x1.toInt + (1 : Int) := by rw [ex2]; exact wk_add (show (-2147483648) ≤ x1.toInt + (1 : Int) by omega) (show x1.toInt + (1 : Int) ≤ 2147483647 by omega)
  replace hM := hM.lt ex2.symm
  refine lv_iload_n hx hb dX7_cornerAcross_9 rfl (lv_at hl 2 rfl) ?_
  refine lv_isub hx hb dX7_cornerAcross_10 ?_
  refine lv_topi (fun x3 ex3 => ?_)
  have ezx3 := ex3
  have ex3 : x3.toInt = x2.toInt - (0 : Int) := by rw [ex3]; exact wk_sub (show (-2147483648) ≤ x2.toInt - (0 : Int) by omega) (show x2.toInt - (0 : Int) ≤ 2147483647 by omega)
  replace hM := hM.lt ex3.symm
  refine tk_iald hC hK hw hT kC_at40 rfl rfl (show 0 ≤ x3.toInt by omega) (show x3.toInt < 26 by omega) dX7_cornerAcross_11 (fun x4 c5 rx4 tx4 => ?_)
  have hox4 := c5
  replace hM := hM.rd (sI_at hox4)
  have c5 : gi w0 40 (2 * a1.toInt + 1).toNat = x4 := (congrArg (gi w0 40) (congrArg Int.toNat (show 2 * a1.toInt + 1 = x3.toInt by omega))).trans c5
  exact tk_iret hC hr hlocks hK ⟨hT, hF, hM.ret rfl, ⟨(show 0 ≤ x4.toInt from rx4), (show x4.toInt ≤ 9 from tx4)⟩⟩ hw dX7_cornerAcross_12
abbrev Pz_X7_openHours_1 (ad : Nat → Nat) (cy : Nat → ClassId) (B : Int) (qr : Nat) (s1 : Int) (a1 : Int32) (a3 : Int64) (w0 : va_W) : Int32 → va_W → Prop := fun r u => TW ksC ad cy B qr s1 u ∧ FE ksC ([] : List (Nat × Nat × Nat)) w0 u ∧ Ev (fun n => m_X7_openHours n 39 a1.toInt 0 a3.toInt 1 (sI w0)) (r.toInt, sI u) ∧ ((0 ≤ r.toInt ∧ r.toInt ≤ 16777215))
set_option maxHeartbeats 4000000 in
set_option maxRecDepth 100000 in
theorem kz_X7_openHours_1 (l : Launch) (adK adV : Nat → Nat) (dC : Nat → ClassId) (dI : Nat → Nat → Nat) (cy : Nat → ClassId) (ad : Nat → Nat) (B : Int) (hB0 : 2147483648 ≤ B) (hB1 : B ≤ 1152921504606846976) (qr : Nat) (s1 : Int)  (a1 : Int32) (ra1 : 0 ≤ a1.toInt) (ta1 : a1.toInt ≤ 12) (a3 : Int64) (ra3 : 0 ≤ a3.toInt) (ta3 : a3.toInt ≤ 4249) (w0 : va_W) (sz : Nat) (hT : TW ksC ad cy B qr s1 w0)  : Met l yX7_openHours (wu yX7_openHours cX7_openHours 8 (some .int)) ({ frames := 1, cells := 0, slots := 0, locals := 12 }) (va_Pc [.ref (ad 39), .int a1, .int 0, .long a3, .int 1] (wpreS adK adV dC dI cy sz w0)) (va_Qi (Pz_X7_openHours_1 ad cy B qr s1 a1 a3 w0) (fun u : va_W => wpost dC dI cy (va_A w0 sz) u) (va_A w0 sz)) 0 0 (va_A w0 sz) := by
  refine Met.ofW (cc := cX7_openHours) (maxL := 8) (ret := (some .int)) (by decide) rfl ?_
  intro p e s m args below meth c s₁ Bk hml hv
  obtain ⟨rfl, ⟨hsz, hP, hK, hD0⟩, hE, hSR⟩ := hv
  have hx := Bk.exec
  have hb := Bk.bytes
  have hr := Bk.returns
  have hlocks := Bk.notSynchronized
  have hC : CallFix p m c cX7_openHours 8 s _ (wu yX7_openHours cX7_openHours 8 (some .int)) RX7 := ⟨hx, hb, hml, findClass_of_methodNamed Bk.named, atoms_spec (ws := (wu yX7_openHours cX7_openHours 8 (some .int))) Bk.pre⟩
  subst hsz
  have hD := hD0.self (sz := s.heap.size)
  generalize hAe : va_A w0 s.heap.size = A at hD hE ⊢
  have hA : ∀ q : Nat, s.heap.size ≤ q → A q := fun q h => by rw [← hAe]; exact Or.inr h
  have hw : Wd dC dI A s.heap s.heap [] w0 := ⟨hP, hD, va_S.rf⟩
  have hF : FE ksC ([] : List (Nat × Nat × Nat)) w0 w0 := FE.rf
  have hl := lv_entry ([.ref (ad 39), .int a1, .int 0, .long a3, .int 1]) (n := 8) (Nat.le_of_ble_eq_true rfl)
  rw [lg_entry_eq]
  generalize (lg_sl ([.ref (ad 39), .int a1, .int 0, .long a3, .int 1]) ++ List.replicate (8 - (lg_sl ([.ref (ad 39), .int a1, .int 0, .long a3, .int 1])).length) Slot.unset).toArray = ls at hl ⊢
  have hl : lv_has ls 8 [(0, .ref (ad 39)), (1, .int a1), (2, .int 0), (3, .long a3), (5, .int 1)] := hl
  generalize hloc : ([] : List Loc) = locs at hw ⊢
  have hinX7 : ∀ w ∈ u_ws RX7 TX7 12, w ∈ (wu yX7_openHours cX7_openHours 8 (some .int)) := fun _ h => List.mem_cons_of_mem _ (up_73 h)
  have J93 : ∀ (v93_6 : Int32) (v93_7 : Int32) (H : Heap) (locs : List Loc) (ls : Array Slot) (w1 : va_W), 0 ≤ a1.toInt → a1.toInt ≤ 12 → 0 ≤ a3.toInt → a3.toInt ≤ 4249 → 0 ≤ v93_7.toInt → v93_7.toInt ≤ 8 → Wd dC dI A s.heap H locs w1 → TW ksC ad cy B qr s1 w1 → FE ksC ([] : List (Nat × Nat × Nat)) w0 w1 → TT (fun n => m_X7_openHours n 39 a1.toInt 0 a3.toInt 1 (sI w0)) (fun n => b_X7_openHours_93 (j_X7_openHours 39 n) n 39 (a1.toInt) (sI w1)) → lv_has ls 8 [(0, .ref (ad 39)), (1, .int a1), (2, .int 0), (3, .long a3), (5, .int 1), (6, .int v93_6), (7, .int v93_7)] → W p l e ({ frames := 1, cells := 0, slots := 0, locals := 12 }) s m (List.toArray [.ref (ad 39), .int a1, .int 0, .long a3, .int 1]) below meth c H locs 0 0 (MQ below (va_Qi (Pz_X7_openHours_1 ad cy B qr s1 a1 a3 w0) (fun u : va_W => wpost dC dI cy A u) A) (List.toArray [.ref (ad 39), .int a1, .int 0, .long a3, .int 1]) s 0 0 A) (F0 m 93 ls []) := by
    intro v93_6 v93_7 H locs ls w1 r2 t3 r4 t5 r6 t7 hw hT hF hM hl
    refine lv_ldc (v := 16777215) hx hb hC.2.2.2.1 (hC.2.2.2.2 _ (List.mem_cons_of_mem _ uw_31_17)) dX7_openHours_93 ?_
    refine lv_aload_n hx hb dX7_openHours_95 rfl (lv_at hl 0 rfl) ?_
    refine tk_getO hC hK hw hT hinX7 kC_at39 (by decide) rfl 3 (by decide) (List.mem_cons_of_mem _ uw_2_20) rfl rfl dX7_openHours_96 ?_
    refine lv_iload_n hx hb dX7_openHours_99 rfl (lv_at hl 1 rfl) ?_
    refine tk_iald hC hK hw hT kC_at43 rfl rfl (show 0 ≤ a1.toInt from r2) (show a1.toInt < 13 from Int.lt_of_le_of_lt t3 (by decide)) dX7_openHours_100 (fun x8 c9 rx8 tx8 => ?_)
    have hox8 := c9
    replace hM := hM.rd (sI_at hox8)
    refine lv_iconst (v := (-1)) hx hb dX7_openHours_101 (by decide) ?_
    refine lv_ixor hx hb dX7_openHours_102 ?_
    refine lv_topi (fun x10 ex10 => ?_)
    have ezx10 := ex10
    replace hM := hM.lt (o32_e (f := fun x y => x ^^^ y) ezx10 rfl (by decide))
    refine lv_iand hx hb dX7_openHours_103 ?_
    refine lv_topi (fun x11 ex11 => ?_)
    have ezx11 := ex11
    have bx11 : 0 ≤ x11.toInt ∧ x11.toInt ≤ (16777215 : Int) := by rw [ex11]; exact wk_andC (by decide)
    replace hM := hM.lt (o32_e (f := fun x y => x &&& y) ezx11 (by decide) rfl)
    exact tk_iret hC hr hlocks hK ⟨hT, hF, hM.ret rfl, ⟨(show 0 ≤ x11.toInt by omega), (show x11.toInt ≤ 16777215 by omega)⟩⟩ hw dX7_openHours_104
  have L44 : ∀ (n44 : Nat) (v44_6 : Int32) (v44_7 : Int32) (H : Heap) (locs : List Loc) (ls : Array Slot) (w12 : va_W), 0 ≤ a1.toInt → a1.toInt ≤ 12 → 0 ≤ a3.toInt → a3.toInt ≤ 4249 → 0 ≤ v44_7.toInt → v44_7.toInt ≤ 8 → (8 - v44_7.toInt).toNat < n44 → Wd dC dI A s.heap H locs w12 → TW ksC ad cy B qr s1 w12 → FE ksC ([] : List (Nat × Nat × Nat)) w0 w12 → TT (fun n => m_X7_openHours n 39 a1.toInt 0 a3.toInt 1 (sI w0)) (fun n => j_X7_openHours 39 n 44 [a1.toInt, a3.toInt, v44_6.toInt, v44_7.toInt] (sI w12)) → lv_has ls 8 [(0, .ref (ad 39)), (1, .int a1), (2, .int 0), (3, .long a3), (5, .int 1), (6, .int v44_6), (7, .int v44_7)] → W p l e ({ frames := 1, cells := 0, slots := 0, locals := 12 }) s m (List.toArray [.ref (ad 39), .int a1, .int 0, .long a3, .int 1]) below meth c H locs 0 0 (MQ below (va_Qi (Pz_X7_openHours_1 ad cy B qr s1 a1 a3 w0) (fun u : va_W => wpost dC dI cy A u) A) (List.toArray [.ref (ad 39), .int a1, .int 0, .long a3, .int 1]) s 0 0 A) (F0 m 44 ls []) := by
    intro n44
    induction n44 with
    | zero => intro v44_6 v44_7 H locs ls w12 r13 t14 r15 t16 r17 t18 hm44 hw hT hF hM hl; omega
    | succ n44 ih44 =>
      intro v44_6 v44_7 H locs ls w12 r13 t14 r15 t16 r17 t18 hm44 hw hT hF hM hl
      have J81 : ∀ (H : Heap) (locs : List Loc) (ls : Array Slot) (w19 : va_W), 0 ≤ a1.toInt → a1.toInt ≤ 12 → 0 ≤ a3.toInt → a3.toInt ≤ 4249 → 0 ≤ v44_7.toInt → v44_7.toInt ≤ 7 → Wd dC dI A s.heap H locs w19 → TW ksC ad cy B qr s1 w19 → FE ksC ([] : List (Nat × Nat × Nat)) w0 w19 → TT (fun n => m_X7_openHours n 39 a1.toInt 0 a3.toInt 1 (sI w0)) (fun n => b_X7_openHours_81 (j_X7_openHours 39 n) n 39 (a1.toInt) (a3.toInt) (v44_6.toInt) (v44_7.toInt) (sI w19)) → lv_has ls 8 [(0, .ref (ad 39)), (1, .int a1), (2, .int 0), (3, .long a3), (5, .int 1), (6, .int v44_6), (7, .int v44_7)] → W p l e ({ frames := 1, cells := 0, slots := 0, locals := 12 }) s m (List.toArray [.ref (ad 39), .int a1, .int 0, .long a3, .int 1]) below meth c H locs 0 0 (MQ below (va_Qi (Pz_X7_openHours_1 ad cy B qr s1 a1 a3 w0) (fun u : va_W => wpost dC dI cy A u) A) (List.toArray [.ref (ad 39), .int a1, .int 0, .long a3, .int 1]) s 0 0 A) (F0 m 81 ls []) := by
        intro H locs ls w19 r20 t21 r22 t23 r24 t25 hw hT hF hM hl
        refine lv_iload hx hb dX7_openHours_81 (lv_at hl 5 rfl) ?_
        refine lv_iconst (v := 1) hx hb dX7_openHours_83 (by decide) ?_
        refine lv_ishr hx hb dX7_openHours_84 ?_
        refine lv_topi (fun x26 ex26 => ?_)
        have ezx26 := ex26
        replace hM := hM.lt (o32_e (f := fun x y => x >>> (y &&& 31)) ezx26 rfl (by decide))
        refine lv_istore (lv' := [(6, .int x26), (0, .ref (ad 39)), (1, .int a1), (2, .int 0), (3, .long a3), (5, .int 1), (7, .int v44_7)]) hx hb dX7_openHours_85 hl (by decide) rfl (fun ls hl => ?_)
        obtain ⟨x27, ex27⟩ : ∃ y : Int32, y = v44_7 + Int32.ofInt 1 := ⟨_, rfl⟩
        have erx27 := ex27
        refine lv_iinc (v := x27) (lv' := [(7, .int x27), (6, .int x26), (0, .ref (ad 39)), (1, .int a1), (2, .int 0), (3, .long a3), (5, .int 1)]) hx hb dX7_openHours_87 hl (k := 6) rfl ex27.symm (by decide) rfl (fun ls hl => ?_)
        have ex27 : x27.toInt = v44_7.toInt + 1 := by rw [ex27]; exact wk_add (y := 1) (show -2147483648 ≤ v44_7.toInt + 1 by omega) (show v44_7.toInt + 1 ≤ 2147483647 by omega)
        replace hM := hM.lt ex27.symm
        refine lv_goto (tgt := 44) hx hb dX7_openHours_90 (by decide) ?_
        exact ih44 x26 x27 H locs ls w19 (show 0 ≤ a1.toInt from r20) (show a1.toInt ≤ 12 from t21) (show 0 ≤ a3.toInt from r22) (show a3.toInt ≤ 4249 from t23) (show 0 ≤ x27.toInt by omega) (show x27.toInt ≤ 8 by omega) (show (8 - x27.toInt).toNat < n44 by omega) hw hT hF hM (lv_sub hl [2, 3, 4, 5, 6, 1, 0] rfl)
      replace hM := hM.suc (fun _ => e_X7_openHours_44)
      refine lv_iload hx hb dX7_openHours_44 (lv_at hl 5 rfl) ?_
      refine lv_if_eq (tgt := 93) hx hb dX7_openHours_46 (by decide) (fun c28 => ?_) (fun c28 => ?_)
      · have c28 : v44_6.toInt = (0 : Int) := wk_eq.mp c28
        replace hM := hM.pos c28
        exact J93 v44_6 v44_7 H locs ls w12 (show 0 ≤ a1.toInt from r13) (show a1.toInt ≤ 12 from t14) (show 0 ≤ a3.toInt from r15) (show a3.toInt ≤ 4249 from t16) (show 0 ≤ v44_7.toInt from r17) (show v44_7.toInt ≤ 8 from t18)  hw hT hF hM (lv_sub hl [0, 1, 2, 3, 4, 5, 6] rfl)
      · have c28 : ¬ v44_6.toInt = (0 : Int) := wk_eqF c28
        replace hM := hM.neg c28
        refine lv_iload hx hb dX7_openHours_49 (lv_at hl 6 rfl) ?_
        refine lv_bipush (v := 8) hx hb dX7_openHours_51 (by decide) ?_
        refine lv_icmp_ge (tgt := 93) hx hb dX7_openHours_53 (by decide) (fun c29 => ?_) (fun c29 => ?_)
        · have c29 : (8 : Int) ≤ v44_7.toInt := wk_le.mp c29
          replace hM := hM.pos c29
          exact J93 v44_6 v44_7 H locs ls w12 (show 0 ≤ a1.toInt from r13) (show a1.toInt ≤ 12 from t14) (show 0 ≤ a3.toInt from r15) (show a3.toInt ≤ 4249 from t16) (show 0 ≤ v44_7.toInt from r17) (show v44_7.toInt ≤ 8 from t18)  hw hT hF hM (lv_sub hl [0, 1, 2, 3, 4, 5, 6] rfl)
        · have c29 : v44_7.toInt < (8 : Int) := wk_leF c29
          replace hM := hM.neg (Int.not_le.mpr c29)
          refine lv_iload hx hb dX7_openHours_56 (lv_at hl 5 rfl) ?_
          refine lv_iconst (v := 1) hx hb dX7_openHours_58 (by decide) ?_
          refine lv_iand hx hb dX7_openHours_59 ?_
          refine lv_topi (fun x30 ex30 => ?_)
          have ezx30 := ex30
          have bx30 : 0 ≤ x30.toInt ∧ x30.toInt ≤ (1 : Int) := by rw [ex30]; exact wk_and (by decide)
          replace hM := hM.lt (o32_e (f := fun x y => x &&& y) ezx30 rfl (by decide))
          refine lv_if_eq (tgt := 81) hx hb dX7_openHours_60 (by decide) (fun c31 => ?_) (fun c31 => ?_)
          · have c31 : x30.toInt = (0 : Int) := wk_eq.mp c31
            replace hM := hM.pos c31
            exact J81  H locs ls w12 (show 0 ≤ a1.toInt from r13) (show a1.toInt ≤ 12 from t14) (show 0 ≤ a3.toInt from r15) (show a3.toInt ≤ 4249 from t16) (show 0 ≤ v44_7.toInt from r17) (show v44_7.toInt ≤ 7 by omega)  hw hT hF hM (lv_sub hl [0, 1, 2, 3, 4, 5, 6] rfl)
          · have c31 : ¬ x30.toInt = (0 : Int) := wk_eqF c31
            replace hM := hM.neg c31
            refine lv_aload_n hx hb dX7_openHours_63 rfl (lv_at hl 0 rfl) ?_
            refine tk_getO hC hK hw hT hinX7 kC_at39 (by decide) rfl 6 (by decide) (List.mem_cons_of_mem _ uw_2_23) rfl rfl dX7_openHours_64 ?_
            refine lv_iload hx hb dX7_openHours_67 (lv_at hl 6 rfl) ?_
            refine tk_iald hC hK hw hT kC_at46 rfl rfl (show 0 ≤ v44_7.toInt from r17) (show v44_7.toInt < 8 by omega) dX7_openHours_69 (fun x32 c33 rx32 tx32 => ?_)
            have hox32 := c33
            replace hM := hM.rd (sI_at hox32)
            refine lv_lload_n hx hb dX7_openHours_70 rfl (lv_at hl 3 rfl) ?_
            refine lv_ldc2 (v := 360) hx hb hC.2.2.2.1 (hC.2.2.2.2 _ (List.mem_cons_of_mem _ uw_31_16)) dX7_openHours_71 ?_
            refine lv_lrem hx hb dX7_openHours_74 (by decide) ?_
            refine lv_topl (fun x34 ex34 => ?_)
            have ezx34 := ex34
            have ex34 : x34.toInt = a3.toInt % (360 : Int) := by rw [ex34]; exact wk_reml (show 0 ≤ a3.toInt from r15) (show 0 < (360 : Int) by decide)
            replace hM := hM.lt ex34.symm
            refine lv_l2i hx hb dX7_openHours_75 rfl ?_
            refine lv_topi (fun x35 ex35 => ?_)
            have ex35 : x35.toInt = x34.toInt := by rw [ex35]; exact wk_l2i (by omega) (by omega)
            replace hM := hM.lt ex35.symm
            refine lv_icmp_ne (tgt := 81) hx hb dX7_openHours_76 (by decide) (fun c36 => ?_) (fun c36 => ?_)
            · have c36 : ¬ x32.toInt = x35.toInt := wk_eqF c36
              replace hM := hM.pos c36
              exact J81  H locs ls w12 (show 0 ≤ a1.toInt from r13) (show a1.toInt ≤ 12 from t14) (show 0 ≤ a3.toInt from r15) (show a3.toInt ≤ 4249 from t16) (show 0 ≤ v44_7.toInt from r17) (show v44_7.toInt ≤ 7 by omega)  hw hT hF hM (lv_sub hl [0, 1, 2, 3, 4, 5, 6] rfl)
            · have c36 : x32.toInt = x35.toInt := wk_eq.mp c36
              replace hM := hM.neg (fun q => q c36)
              refine lv_iconst (v := 0) hx hb dX7_openHours_79 (by decide) ?_
              exact tk_iret hC hr hlocks hK ⟨hT, hF, hM.ret (by decide), ⟨(by decide), (by decide)⟩⟩ hw dX7_openHours_80
  have hM : TT (fun n => m_X7_openHours n 39 a1.toInt 0 a3.toInt 1 (sI w0)) (fun n => m_X7_openHours n 39 a1.toInt 0 a3.toInt 1 (sI w0)) := TT.rf
  refine lv_aload_n hx hb dX7_openHours_0 rfl (lv_at hl 0 rfl) ?_
  refine tk_getO hC hK hw hT hinX7 kC_at39 (by decide) rfl 4 (by decide) (List.mem_cons_of_mem _ uw_2_21) rfl rfl dX7_openHours_1 ?_
  refine lv_iconst (v := 2) hx hb dX7_openHours_4 (by decide) ?_
  refine lv_iload_n hx hb dX7_openHours_5 rfl (lv_at hl 1 rfl) ?_
  refine lv_imul hx hb dX7_openHours_6 ?_
  refine lv_topi (fun x37 ex37 => ?_)
  have ezx37 := ex37
  have ex37 : x37.toInt = (2 : Int) * a1.toInt := by rw [ex37]; exact wk_mul (show (-2147483648) ≤ (2 : Int) * a1.toInt by omega) (show (2 : Int) * a1.toInt ≤ 2147483647 by omega)
  replace hM := hM.lt ex37.symm
  refine lv_iload_n hx hb dX7_openHours_7 rfl (lv_at hl 2 rfl) ?_
  refine lv_iadd hx hb dX7_openHours_8 ?_
  refine lv_topi (fun x38 ex38 => ?_)
  have ezx38 := ex38
  have ex38 : x38.toInt = x37.toInt + (0 : Int) := by rw [ex38]; exact wk_add (show (-2147483648) ≤ x37.toInt + (0 : Int) by omega) (show x37.toInt + (0 : Int) ≤ 2147483647 by omega)
  replace hM := hM.lt ex38.symm
  refine tk_iald hC hK hw hT kC_at44 rfl rfl (show 0 ≤ x38.toInt by omega) (show x38.toInt < 26 by omega) dX7_openHours_9 (fun x39 c40 rx39 tx39 => ?_)
  have hox39 := c40
  replace hM := hM.rd (sI_at hox39)
  refine lv_lload_n hx hb dX7_openHours_10 rfl (lv_at hl 3 rfl) ?_
  refine lv_ldc2 (v := 7) hx hb hC.2.2.2.1 (hC.2.2.2.2 _ (List.mem_cons_of_mem _ uw_31_15)) dX7_openHours_11 ?_
  refine lv_lrem hx hb dX7_openHours_14 (by decide) ?_
  refine lv_topl (fun x41 ex41 => ?_)
  have ezx41 := ex41
  have ex41 : x41.toInt = a3.toInt % (7 : Int) := by rw [ex41]; exact wk_reml (show 0 ≤ a3.toInt from ra3) (show 0 < (7 : Int) by decide)
  replace hM := hM.lt ex41.symm
  refine lv_l2i hx hb dX7_openHours_15 rfl ?_
  refine lv_topi (fun x42 ex42 => ?_)
  have ex42 : x42.toInt = x41.toInt := by rw [ex42]; exact wk_l2i (by omega) (by omega)
  replace hM := hM.lt ex42.symm
  refine lv_ishr hx hb dX7_openHours_16 ?_
  refine lv_topi (fun x43 ex43 => ?_)
  have ezx43 := ex43
  replace hM := hM.lt (o32_e (f := fun x y => x >>> (y &&& 31)) ezx43 rfl rfl)
  refine lv_iconst (v := 1) hx hb dX7_openHours_17 (by decide) ?_
  refine lv_iand hx hb dX7_openHours_18 ?_
  refine lv_topi (fun x44 ex44 => ?_)
  have ezx44 := ex44
  have bx44 : 0 ≤ x44.toInt ∧ x44.toInt ≤ (1 : Int) := by rw [ex44]; exact wk_and (by decide)
  replace hM := hM.lt (o32_e (f := fun x y => x &&& y) ezx44 rfl (by decide))
  refine lv_if_ne (tgt := 24) hx hb dX7_openHours_19 (by decide) (fun c45 => ?_) (fun c45 => ?_)
  · have c45 : ¬ x44.toInt = (0 : Int) := wk_eqF c45
    replace hM := hM.pos c45
    refine lv_iload hx hb dX7_openHours_24 (lv_at hl 4 rfl) ?_
    refine lv_if_eq (tgt := 38) hx hb dX7_openHours_26 (by decide) (fun c => absurd c (by decide)) (fun _ => ?_)
    replace hM := hM.neg (by decide)
    refine lv_aload_n hx hb dX7_openHours_29 rfl (lv_at hl 0 rfl) ?_
    refine tk_getO hC hK hw hT hinX7 kC_at39 (by decide) rfl 7 (by decide) (List.mem_cons_of_mem _ uw_3_0) rfl rfl dX7_openHours_30 ?_
    refine lv_iload_n hx hb dX7_openHours_33 rfl (lv_at hl 1 rfl) ?_
    refine tk_iald hC hK hw hT kC_at47 rfl rfl (show 0 ≤ a1.toInt from ra1) (show a1.toInt < 13 from Int.lt_of_le_of_lt ta1 (by decide)) dX7_openHours_34 (fun x46 c47 rx46 tx46 => ?_)
    have hox46 := c47
    replace hM := hM.rd (sI_at hox46)
    refine lv_goto (tgt := 39) hx hb dX7_openHours_35 (by decide) ?_
    refine lv_istore (lv' := [(6, .int x46), (0, .ref (ad 39)), (1, .int a1), (2, .int 0), (3, .long a3), (5, .int 1)]) hx hb dX7_openHours_39 hl (by decide) rfl (fun ls hl => ?_)
    refine lv_iconst (v := 0) hx hb dX7_openHours_41 (by decide) ?_
    refine lv_istore (lv' := [(7, .int 0), (6, .int x46), (0, .ref (ad 39)), (1, .int a1), (2, .int 0), (3, .long a3), (5, .int 1)]) hx hb dX7_openHours_42 hl (by decide) rfl (fun ls hl => ?_)
    exact L44 ((8 - (0 : Int)).toNat + 1) x46 0 s.heap locs ls w0 (show 0 ≤ a1.toInt from ra1) (show a1.toInt ≤ 12 from ta1) (show 0 ≤ a3.toInt from ra3) (show a3.toInt ≤ 4249 from ta3) (by decide) (by decide) (Nat.lt_succ_self _) hw hT hF hM (lv_sub hl [2, 3, 4, 5, 6, 1, 0] rfl)
  · have c45 : x44.toInt = (0 : Int) := wk_eq.mp c45
    replace hM := hM.neg (fun q => q c45)
    refine lv_iconst (v := 0) hx hb dX7_openHours_22 (by decide) ?_
    exact tk_iret hC hr hlocks hK ⟨hT, hF, hM.ret (by decide), ⟨(by decide), (by decide)⟩⟩ hw dX7_openHours_23
abbrev Pz_X7_isNeverOpen_1 (ad : Nat → Nat) (cy : Nat → ClassId) (B : Int) (qr : Nat) (s1 : Int) (a1 : Int32) (w0 : va_W) : Int32 → va_W → Prop := fun r u => TW ksC ad cy B qr s1 u ∧ FE ksC ([] : List (Nat × Nat × Nat)) w0 u ∧ Ev (fun n => m_X7_isNeverOpen n 39 a1.toInt 0 (sI w0)) (r.toInt, sI u) ∧ ((r = 0) ∨ (r = 1))
set_option maxHeartbeats 4000000 in
set_option maxRecDepth 100000 in
theorem kz_X7_isNeverOpen_1 (l : Launch) (adK adV : Nat → Nat) (dC : Nat → ClassId) (dI : Nat → Nat → Nat) (cy : Nat → ClassId) (ad : Nat → Nat) (B : Int) (hB0 : 2147483648 ≤ B) (hB1 : B ≤ 1152921504606846976) (qr : Nat) (s1 : Int)  (a1 : Int32) (ra1 : 0 ≤ a1.toInt) (ta1 : a1.toInt ≤ 12) (w0 : va_W) (sz : Nat) (hT : TW ksC ad cy B qr s1 w0)  : Met l yX7_isNeverOpen (wu yX7_isNeverOpen cX7_isNeverOpen 3 (some .boolean)) ({ frames := 1, cells := 0, slots := 0, locals := 12 }) (va_Pc [.ref (ad 39), .int a1, .int 0] (wpreS adK adV dC dI cy sz w0)) (va_Qi (Pz_X7_isNeverOpen_1 ad cy B qr s1 a1 w0) (fun u : va_W => wpost dC dI cy (va_A w0 sz) u) (va_A w0 sz)) 0 0 (va_A w0 sz) := by
  refine Met.ofW (cc := cX7_isNeverOpen) (maxL := 3) (ret := (some .boolean)) (by decide) rfl ?_
  intro p e s m args below meth c s₁ Bk hml hv
  obtain ⟨rfl, ⟨hsz, hP, hK, hD0⟩, hE, hSR⟩ := hv
  have hx := Bk.exec
  have hb := Bk.bytes
  have hr := Bk.returns
  have hlocks := Bk.notSynchronized
  have hC : CallFix p m c cX7_isNeverOpen 3 s _ (wu yX7_isNeverOpen cX7_isNeverOpen 3 (some .boolean)) RX7 := ⟨hx, hb, hml, findClass_of_methodNamed Bk.named, atoms_spec (ws := (wu yX7_isNeverOpen cX7_isNeverOpen 3 (some .boolean))) Bk.pre⟩
  subst hsz
  have hD := hD0.self (sz := s.heap.size)
  generalize hAe : va_A w0 s.heap.size = A at hD hE ⊢
  have hA : ∀ q : Nat, s.heap.size ≤ q → A q := fun q h => by rw [← hAe]; exact Or.inr h
  have hw : Wd dC dI A s.heap s.heap [] w0 := ⟨hP, hD, va_S.rf⟩
  have hF : FE ksC ([] : List (Nat × Nat × Nat)) w0 w0 := FE.rf
  have hl := lv_entry ([.ref (ad 39), .int a1, .int 0]) (n := 3) (Nat.le_of_ble_eq_true rfl)
  rw [lg_entry_eq]
  generalize (lg_sl ([.ref (ad 39), .int a1, .int 0]) ++ List.replicate (3 - (lg_sl ([.ref (ad 39), .int a1, .int 0])).length) Slot.unset).toArray = ls at hl ⊢
  have hl : lv_has ls 3 [(0, .ref (ad 39)), (1, .int a1), (2, .int 0)] := hl
  generalize hloc : ([] : List Loc) = locs at hw ⊢
  have hinX7 : ∀ w ∈ u_ws RX7 TX7 12, w ∈ (wu yX7_isNeverOpen cX7_isNeverOpen 3 (some .boolean)) := fun _ h => List.mem_cons_of_mem _ (up_73 h)
  have J24 : ∀ (H : Heap) (locs : List Loc) (ls : Array Slot) (w1 : va_W), 0 ≤ a1.toInt → a1.toInt ≤ 12 → Wd dC dI A s.heap H locs w1 → TW ksC ad cy B qr s1 w1 → FE ksC ([] : List (Nat × Nat × Nat)) w0 w1 → TT (fun n => m_X7_isNeverOpen n 39 a1.toInt 0 (sI w0)) (fun n => b_X7_isNeverOpen_24 n 39 (sI w1)) → lv_has ls 3 [(0, .ref (ad 39)), (1, .int a1), (2, .int 0)] → W p l e ({ frames := 1, cells := 0, slots := 0, locals := 12 }) s m (List.toArray [.ref (ad 39), .int a1, .int 0]) below meth c H locs 0 0 (MQ below (va_Qi (Pz_X7_isNeverOpen_1 ad cy B qr s1 a1 w0) (fun u : va_W => wpost dC dI cy A u) A) (List.toArray [.ref (ad 39), .int a1, .int 0]) s 0 0 A) (F0 m 24 ls []) := by
    intro H locs ls w1 r2 t3 hw hT hF hM hl
    refine lv_iconst (v := 1) hx hb dX7_isNeverOpen_24 (by decide) ?_
    refine lv_goto (tgt := 29) hx hb dX7_isNeverOpen_25 (by decide) ?_
    exact tk_zret hC hr rfl hlocks hK ⟨hT, hF, hM.ret (by decide), (Or.inr rfl)⟩ hw dX7_isNeverOpen_29
  have hM : TT (fun n => m_X7_isNeverOpen n 39 a1.toInt 0 (sI w0)) (fun n => m_X7_isNeverOpen n 39 a1.toInt 0 (sI w0)) := TT.rf
  refine lv_aload_n hx hb dX7_isNeverOpen_0 rfl (lv_at hl 0 rfl) ?_
  refine tk_getO hC hK hw hT hinX7 kC_at39 (by decide) rfl 4 (by decide) (List.mem_cons_of_mem _ uw_2_21) rfl rfl dX7_isNeverOpen_1 ?_
  refine lv_iconst (v := 2) hx hb dX7_isNeverOpen_4 (by decide) ?_
  refine lv_iload_n hx hb dX7_isNeverOpen_5 rfl (lv_at hl 1 rfl) ?_
  refine lv_imul hx hb dX7_isNeverOpen_6 ?_
  refine lv_topi (fun x4 ex4 => ?_)
  have ezx4 := ex4
  have ex4 : x4.toInt = (2 : Int) * a1.toInt := by rw [ex4]; exact wk_mul (show (-2147483648) ≤ (2 : Int) * a1.toInt by omega) (show (2 : Int) * a1.toInt ≤ 2147483647 by omega)
  replace hM := hM.lt ex4.symm
  refine lv_iload_n hx hb dX7_isNeverOpen_7 rfl (lv_at hl 2 rfl) ?_
  refine lv_iadd hx hb dX7_isNeverOpen_8 ?_
  refine lv_topi (fun x5 ex5 => ?_)
  have ezx5 := ex5
  have ex5 : x5.toInt = x4.toInt + (0 : Int) := by rw [ex5]; exact wk_add (show (-2147483648) ≤ x4.toInt + (0 : Int) by omega) (show x4.toInt + (0 : Int) ≤ 2147483647 by omega)
  replace hM := hM.lt ex5.symm
  refine tk_iald hC hK hw hT kC_at44 rfl rfl (show 0 ≤ x5.toInt by omega) (show x5.toInt < 26 by omega) dX7_isNeverOpen_9 (fun x6 c7 rx6 tx6 => ?_)
  have hox6 := c7
  replace hM := hM.rd (sI_at hox6)
  refine lv_if_eq (tgt := 24) hx hb dX7_isNeverOpen_10 (by decide) (fun c8 => ?_) (fun c8 => ?_)
  · have c8 : x6.toInt = (0 : Int) := wk_eq.mp c8
    replace hM := hM.pos c8
    exact J24  s.heap locs ls w0 (show 0 ≤ a1.toInt from ra1) (show a1.toInt ≤ 12 from ta1)  hw hT hF hM (lv_sub hl [0, 1, 2] rfl)
  · have c8 : ¬ x6.toInt = (0 : Int) := wk_eqF c8
    replace hM := hM.neg c8
    refine lv_aload_n hx hb dX7_isNeverOpen_13 rfl (lv_at hl 0 rfl) ?_
    refine tk_getO hC hK hw hT hinX7 kC_at39 (by decide) rfl 3 (by decide) (List.mem_cons_of_mem _ uw_2_20) rfl rfl dX7_isNeverOpen_14 ?_
    refine lv_iload_n hx hb dX7_isNeverOpen_17 rfl (lv_at hl 1 rfl) ?_
    refine tk_iald hC hK hw hT kC_at43 rfl rfl (show 0 ≤ a1.toInt from ra1) (show a1.toInt < 13 from Int.lt_of_le_of_lt ta1 (by decide)) dX7_isNeverOpen_18 (fun x9 c10 rx9 tx9 => ?_)
    have hox9 := c10
    replace hM := hM.rd (sI_at hox9)
    refine lv_ldc (v := 16777215) hx hb hC.2.2.2.1 (hC.2.2.2.2 _ (List.mem_cons_of_mem _ uw_31_17)) dX7_isNeverOpen_19 ?_
    refine lv_icmp_ne (tgt := 28) hx hb dX7_isNeverOpen_21 (by decide) (fun c11 => ?_) (fun c11 => ?_)
    · have c11 : ¬ x9.toInt = (16777215 : Int) := wk_eqF c11
      replace hM := hM.pos c11
      refine lv_iconst (v := 0) hx hb dX7_isNeverOpen_28 (by decide) ?_
      exact tk_zret hC hr rfl hlocks hK ⟨hT, hF, hM.ret (by decide), (Or.inl rfl)⟩ hw dX7_isNeverOpen_29
    · have c11 : x9.toInt = (16777215 : Int) := wk_eq.mp c11
      replace hM := hM.neg (fun q => q c11)
      exact J24  s.heap locs ls w0 (show 0 ≤ a1.toInt from ra1) (show a1.toInt ≤ 12 from ta1)  hw hT hF hM (lv_sub hl [0, 1, 2] rfl)
abbrev Pz_X7_firstOpen_1 (ad : Nat → Nat) (cy : Nat → ClassId) (B : Int) (qr : Nat) (s1 : Int) (a1 : Int32) (a3 : Int32) (a4 : Int32) (w0 : va_W) : Int32 → va_W → Prop := fun r u => TW ksC ad cy B qr s1 u ∧ FE ksC ([] : List (Nat × Nat × Nat)) w0 u ∧ Ev (fun n => m_X7_firstOpen n 39 a1.toInt 0 a3.toInt a4.toInt (sI w0)) (r.toInt, sI u) ∧ ((0 ≤ r.toInt ∧ r.toInt ≤ 101999) ∨ (r = (-1)))
set_option maxHeartbeats 4000000 in
set_option maxRecDepth 100000 in
theorem kz_X7_firstOpen_1 (l : Launch) (adK adV : Nat → Nat) (dC : Nat → ClassId) (dI : Nat → Nat → Nat) (cy : Nat → ClassId) (ad : Nat → Nat) (B : Int) (hB0 : 2147483648 ≤ B) (hB1 : B ≤ 1152921504606846976) (qr : Nat) (s1 : Int)  (a1 : Int32) (ra1 : 0 ≤ a1.toInt) (ta1 : a1.toInt ≤ 12) (a3 : Int32) (ra3 : (-1) ≤ a3.toInt) (ta3 : a3.toInt ≤ 102119) (a4 : Int32) (ra4 : 1991 ≤ a4.toInt) (ta4 : a4.toInt ≤ 101999) (w0 : va_W) (sz : Nat) (hT : TW ksC ad cy B qr s1 w0)  : Met l yX7_firstOpen (wu yX7_firstOpen cX7_firstOpen 10 (some .int)) ({ frames := 2, cells := 0, slots := 0, locals := 39 }) (va_Pc [.ref (ad 39), .int a1, .int 0, .int a3, .int a4] (wpreS adK adV dC dI cy sz w0)) (va_Qi (Pz_X7_firstOpen_1 ad cy B qr s1 a1 a3 a4 w0) (fun u : va_W => wpost dC dI cy (va_A w0 sz) u) (va_A w0 sz)) 0 0 (va_A w0 sz) := by
  refine Met.ofW (cc := cX7_firstOpen) (maxL := 10) (ret := (some .int)) (by decide) rfl ?_
  intro p e s m args below meth c s₁ Bk hml hv
  obtain ⟨rfl, ⟨hsz, hP, hK, hD0⟩, hE, hSR⟩ := hv
  have hx := Bk.exec
  have hb := Bk.bytes
  have hr := Bk.returns
  have hlocks := Bk.notSynchronized
  have hC : CallFix p m c cX7_firstOpen 10 s _ (wu yX7_firstOpen cX7_firstOpen 10 (some .int)) RX7 := ⟨hx, hb, hml, findClass_of_methodNamed Bk.named, atoms_spec (ws := (wu yX7_firstOpen cX7_firstOpen 10 (some .int))) Bk.pre⟩
  subst hsz
  have hD := hD0.self (sz := s.heap.size)
  generalize hAe : va_A w0 s.heap.size = A at hD hE ⊢
  have hA : ∀ q : Nat, s.heap.size ≤ q → A q := fun q h => by rw [← hAe]; exact Or.inr h
  have hw : Wd dC dI A s.heap s.heap [] w0 := ⟨hP, hD, va_S.rf⟩
  have hF : FE ksC ([] : List (Nat × Nat × Nat)) w0 w0 := FE.rf
  have hl := lv_entry ([.ref (ad 39), .int a1, .int 0, .int a3, .int a4]) (n := 10) (Nat.le_of_ble_eq_true rfl)
  rw [lg_entry_eq]
  generalize (lg_sl ([.ref (ad 39), .int a1, .int 0, .int a3, .int a4]) ++ List.replicate (10 - (lg_sl ([.ref (ad 39), .int a1, .int 0, .int a3, .int a4])).length) Slot.unset).toArray = ls at hl ⊢
  have hl : lv_has ls 10 [(0, .ref (ad 39)), (1, .int a1), (2, .int 0), (3, .int a3), (4, .int a4)] := hl
  generalize hloc : ([] : List Loc) = locs at hw ⊢
  have L25 : ∀ (n25 : Nat) (v25_5 : Int32) (v25_6 : Int32) (H : Heap) (locs : List Loc) (ls : Array Slot) (w1 : va_W), 0 ≤ a1.toInt → a1.toInt ≤ 12 → (-1) ≤ a3.toInt → a3.toInt ≤ 102119 → 1991 ≤ a4.toInt → a4.toInt ≤ 101999 → 0 ≤ v25_6.toInt → v25_6.toInt ≤ 4254 → (4254 - v25_6.toInt).toNat < n25 → Wd dC dI A s.heap H locs w1 → TW ksC ad cy B qr s1 w1 → FE ksC ([] : List (Nat × Nat × Nat)) w0 w1 → TT (fun n => m_X7_firstOpen n 39 a1.toInt 0 a3.toInt a4.toInt (sI w0)) (fun n => j_X7_firstOpen 39 n 25 [a1.toInt, (0 : Int), a4.toInt, v25_5.toInt, v25_6.toInt] (sI w1)) → lv_has ls 10 [(0, .ref (ad 39)), (1, .int a1), (2, .int 0), (3, .int a3), (4, .int a4), (5, .int v25_5), (6, .int v25_6)] → W p l e ({ frames := 2, cells := 0, slots := 0, locals := 39 }) s m (List.toArray [.ref (ad 39), .int a1, .int 0, .int a3, .int a4]) below meth c H locs 0 0 (MQ below (va_Qi (Pz_X7_firstOpen_1 ad cy B qr s1 a1 a3 a4 w0) (fun u : va_W => wpost dC dI cy A u) A) (List.toArray [.ref (ad 39), .int a1, .int 0, .int a3, .int a4]) s 0 0 A) (F0 m 25 ls []) := by
    intro n25
    induction n25 with
    | zero => intro v25_5 v25_6 H locs ls w1 r2 t3 r4 t5 r6 t7 r8 t9 hm25 hw hT hF hM hl; omega
    | succ n25 ih25 =>
      intro v25_5 v25_6 H locs ls w1 r2 t3 r4 t5 r6 t7 r8 t9 hm25 hw hT hF hM hl
      have J108 : ∀ (v108_7 : Int32) (v108_8 : Int32) (H : Heap) (locs : List Loc) (ls : Array Slot) (w10 : va_W), 0 ≤ a1.toInt → a1.toInt ≤ 12 → (-1) ≤ a3.toInt → a3.toInt ≤ 102119 → 1991 ≤ a4.toInt → a4.toInt ≤ 101999 → 0 ≤ v25_6.toInt → v25_6.toInt ≤ 4249 → 0 ≤ v108_7.toInt → v108_7.toInt ≤ 16777215 → 0 ≤ v108_8.toInt → v108_8.toInt ≤ 24 → Wd dC dI A s.heap H locs w10 → TW ksC ad cy B qr s1 w10 → FE ksC ([] : List (Nat × Nat × Nat)) w0 w10 → TT (fun n => m_X7_firstOpen n 39 a1.toInt 0 a3.toInt a4.toInt (sI w0)) (fun n => b_X7_firstOpen_108 (j_X7_firstOpen 39 n) n 39 (a1.toInt) (0 : Int) (a4.toInt) (-1 : Int) (v25_6.toInt) (sI w10)) → lv_has ls 10 [(0, .ref (ad 39)), (1, .int a1), (2, .int 0), (3, .int a3), (4, .int a4), (5, .int (-1)), (6, .int v25_6), (7, .int v108_7), (8, .int v108_8)] → W p l e ({ frames := 2, cells := 0, slots := 0, locals := 39 }) s m (List.toArray [.ref (ad 39), .int a1, .int 0, .int a3, .int a4]) below meth c H locs 0 0 (MQ below (va_Qi (Pz_X7_firstOpen_1 ad cy B qr s1 a1 a3 a4 w0) (fun u : va_W => wpost dC dI cy A u) A) (List.toArray [.ref (ad 39), .int a1, .int 0, .int a3, .int a4]) s 0 0 A) (F0 m 108 ls []) := by
        intro v108_7 v108_8 H locs ls w10 r11 t12 r13 t14 r15 t16 r17 t18 r19 t20 r21 t22 hw hT hF hM hl
        obtain ⟨x23, ex23⟩ : ∃ y : Int32, y = v25_6 + Int32.ofInt 1 := ⟨_, rfl⟩
        have erx23 := ex23
        refine lv_iinc (v := x23) (lv' := [(6, .int x23), (0, .ref (ad 39)), (1, .int a1), (2, .int 0), (3, .int a3), (4, .int a4), (5, .int (-1)), (7, .int v108_7), (8, .int v108_8)]) hx hb dX7_firstOpen_108 hl (k := 6) rfl ex23.symm (by decide) rfl (fun ls hl => ?_)
        have ex23 : x23.toInt = v25_6.toInt + 1 := by rw [ex23]; exact wk_add (y := 1) (show -2147483648 ≤ v25_6.toInt + 1 by omega) (show v25_6.toInt + 1 ≤ 2147483647 by omega)
        replace hM := hM.lt ex23.symm
        refine lv_goto (tgt := 25) hx hb dX7_firstOpen_111 (by decide) ?_
        exact ih25 (-1) x23 H locs ls w10 (show 0 ≤ a1.toInt from r11) (show a1.toInt ≤ 12 from t12) (show (-1) ≤ a3.toInt from r13) (show a3.toInt ≤ 102119 from t14) (show 1991 ≤ a4.toInt from r15) (show a4.toInt ≤ 101999 from t16) (show 0 ≤ x23.toInt by omega) (show x23.toInt ≤ 4254 by omega) (show (4254 - x23.toInt).toNat < n25 by omega) hw hT hF hM (lv_sub hl [1, 2, 3, 4, 5, 6, 0] rfl)
      have L56 : ∀ (n56 : Nat) (v56_7 : Int32) (v56_8 : Int32) (H : Heap) (locs : List Loc) (ls : Array Slot) (w24 : va_W), 0 ≤ a1.toInt → a1.toInt ≤ 12 → (-1) ≤ a3.toInt → a3.toInt ≤ 102119 → 1991 ≤ a4.toInt → a4.toInt ≤ 101999 → 0 ≤ v25_6.toInt → v25_6.toInt ≤ 4249 → 0 ≤ v56_7.toInt → v56_7.toInt ≤ 16777215 → 0 ≤ v56_8.toInt → v56_8.toInt ≤ 24 → (24 - v56_8.toInt).toNat < n56 → Wd dC dI A s.heap H locs w24 → TW ksC ad cy B qr s1 w24 → FE ksC ([] : List (Nat × Nat × Nat)) w0 w24 → TT (fun n => m_X7_firstOpen n 39 a1.toInt 0 a3.toInt a4.toInt (sI w0)) (fun n => j_X7_firstOpen 39 n 56 [a1.toInt, (0 : Int), a4.toInt, (-1 : Int), v25_6.toInt, v56_7.toInt, v56_8.toInt] (sI w24)) → lv_has ls 10 [(0, .ref (ad 39)), (1, .int a1), (2, .int 0), (3, .int a3), (4, .int a4), (5, .int (-1)), (6, .int v25_6), (7, .int v56_7), (8, .int v56_8)] → W p l e ({ frames := 2, cells := 0, slots := 0, locals := 39 }) s m (List.toArray [.ref (ad 39), .int a1, .int 0, .int a3, .int a4]) below meth c H locs 0 0 (MQ below (va_Qi (Pz_X7_firstOpen_1 ad cy B qr s1 a1 a3 a4 w0) (fun u : va_W => wpost dC dI cy A u) A) (List.toArray [.ref (ad 39), .int a1, .int 0, .int a3, .int a4]) s 0 0 A) (F0 m 56 ls []) := by
        intro n56
        induction n56 with
        | zero => intro v56_7 v56_8 H locs ls w24 r25 t26 r27 t28 r29 t30 r31 t32 r33 t34 r35 t36 hm56 hw hT hF hM hl; omega
        | succ n56 ih56 =>
          intro v56_7 v56_8 H locs ls w24 r25 t26 r27 t28 r29 t30 r31 t32 r33 t34 r35 t36 hm56 hw hT hF hM hl
          replace hM := hM.suc (fun _ => e_X7_firstOpen_56)
          refine lv_iload hx hb dX7_firstOpen_56 (lv_at hl 7 rfl) ?_
          refine lv_if_eq (tgt := 108) hx hb dX7_firstOpen_58 (by decide) (fun c37 => ?_) (fun c37 => ?_)
          · have c37 : v56_7.toInt = (0 : Int) := wk_eq.mp c37
            replace hM := hM.pos c37
            exact J108 v56_7 v56_8 H locs ls w24 (show 0 ≤ a1.toInt from r25) (show a1.toInt ≤ 12 from t26) (show (-1) ≤ a3.toInt from r27) (show a3.toInt ≤ 102119 from t28) (show 1991 ≤ a4.toInt from r29) (show a4.toInt ≤ 101999 from t30) (show 0 ≤ v25_6.toInt from r31) (show v25_6.toInt ≤ 4249 from t32) (show 0 ≤ v56_7.toInt from r33) (show v56_7.toInt ≤ 16777215 from t34) (show 0 ≤ v56_8.toInt from r35) (show v56_8.toInt ≤ 24 from t36)  hw hT hF hM (lv_sub hl [0, 1, 2, 3, 4, 5, 6, 7, 8] rfl)
          · have c37 : ¬ v56_7.toInt = (0 : Int) := wk_eqF c37
            replace hM := hM.neg c37
            refine lv_iload hx hb dX7_firstOpen_61 (lv_at hl 8 rfl) ?_
            refine lv_bipush (v := 24) hx hb dX7_firstOpen_63 (by decide) ?_
            refine lv_icmp_ge (tgt := 108) hx hb dX7_firstOpen_65 (by decide) (fun c38 => ?_) (fun c38 => ?_)
            · have c38 : (24 : Int) ≤ v56_8.toInt := wk_le.mp c38
              replace hM := hM.pos c38
              exact J108 v56_7 v56_8 H locs ls w24 (show 0 ≤ a1.toInt from r25) (show a1.toInt ≤ 12 from t26) (show (-1) ≤ a3.toInt from r27) (show a3.toInt ≤ 102119 from t28) (show 1991 ≤ a4.toInt from r29) (show a4.toInt ≤ 101999 from t30) (show 0 ≤ v25_6.toInt from r31) (show v25_6.toInt ≤ 4249 from t32) (show 0 ≤ v56_7.toInt from r33) (show v56_7.toInt ≤ 16777215 from t34) (show 0 ≤ v56_8.toInt from r35) (show v56_8.toInt ≤ 24 from t36)  hw hT hF hM (lv_sub hl [0, 1, 2, 3, 4, 5, 6, 7, 8] rfl)
            · have c38 : v56_8.toInt < (24 : Int) := wk_leF c38
              replace hM := hM.neg (Int.not_le.mpr c38)
              refine lv_iload hx hb dX7_firstOpen_68 (lv_at hl 7 rfl) ?_
              refine lv_iload hx hb dX7_firstOpen_70 (lv_at hl 8 rfl) ?_
              refine lv_ishr hx hb dX7_firstOpen_72 ?_
              refine lv_topi (fun x39 ex39 => ?_)
              have ezx39 := ex39
              have bx39 : 0 ≤ x39.toInt ∧ x39.toInt ≤ v56_7.toInt := by rw [ex39]; exact wk_shr (by omega)
              replace hM := hM.lt (o32_e (f := fun x y => x >>> (y &&& 31)) ezx39 rfl rfl)
              refine lv_iconst (v := 1) hx hb dX7_firstOpen_73 (by decide) ?_
              refine lv_iand hx hb dX7_firstOpen_74 ?_
              refine lv_topi (fun x40 ex40 => ?_)
              have ezx40 := ex40
              have bx40 : 0 ≤ x40.toInt ∧ x40.toInt ≤ (1 : Int) := by rw [ex40]; exact wk_and (by decide)
              replace hM := hM.lt (o32_e (f := fun x y => x &&& y) ezx40 rfl (by decide))
              refine lv_if_eq (tgt := 102) hx hb dX7_firstOpen_75 (by decide) (fun c41 => ?_) (fun c41 => ?_)
              · have c41 : x40.toInt = (0 : Int) := wk_eq.mp c41
                replace hM := hM.pos c41
                obtain ⟨x42, ex42⟩ : ∃ y : Int32, y = v56_8 + Int32.ofInt 1 := ⟨_, rfl⟩
                have erx42 := ex42
                refine lv_iinc (v := x42) (lv' := [(8, .int x42), (0, .ref (ad 39)), (1, .int a1), (2, .int 0), (3, .int a3), (4, .int a4), (5, .int (-1)), (6, .int v25_6), (7, .int v56_7)]) hx hb dX7_firstOpen_102 hl (k := 8) rfl ex42.symm (by decide) rfl (fun ls hl => ?_)
                have ex42 : x42.toInt = v56_8.toInt + 1 := by rw [ex42]; exact wk_add (y := 1) (show -2147483648 ≤ v56_8.toInt + 1 by omega) (show v56_8.toInt + 1 ≤ 2147483647 by omega)
                replace hM := hM.lt ex42.symm
                refine lv_goto (tgt := 56) hx hb dX7_firstOpen_105 (by decide) ?_
                exact ih56 v56_7 x42 H locs ls w24 (show 0 ≤ a1.toInt from r25) (show a1.toInt ≤ 12 from t26) (show (-1) ≤ a3.toInt from r27) (show a3.toInt ≤ 102119 from t28) (show 1991 ≤ a4.toInt from r29) (show a4.toInt ≤ 101999 from t30) (show 0 ≤ v25_6.toInt from r31) (show v25_6.toInt ≤ 4249 from t32) (show 0 ≤ v56_7.toInt from r33) (show v56_7.toInt ≤ 16777215 from t34) (show 0 ≤ x42.toInt by omega) (show x42.toInt ≤ 24 by omega) (show (24 - x42.toInt).toNat < n56 by omega) hw hT hF hM (lv_sub hl [1, 2, 3, 4, 5, 6, 7, 8, 0] rfl)
              · have c41 : ¬ x40.toInt = (0 : Int) := wk_eqF c41
                replace hM := hM.neg c41
                refine lv_iload hx hb dX7_firstOpen_78 (lv_at hl 6 rfl) ?_
                refine lv_bipush (v := 24) hx hb dX7_firstOpen_80 (by decide) ?_
                refine lv_imul hx hb dX7_firstOpen_82 ?_
                refine lv_topi (fun x43 ex43 => ?_)
                have ezx43 := ex43
                have ex43 : x43.toInt = v25_6.toInt * (24 : Int) := by rw [ex43]; exact wk_mul (show (-2147483648) ≤ v25_6.toInt * (24 : Int) by omega) (show v25_6.toInt * (24 : Int) ≤ 2147483647 by omega)
                replace hM := hM.lt ex43.symm
                refine lv_iload hx hb dX7_firstOpen_83 (lv_at hl 8 rfl) ?_
                refine lv_iadd hx hb dX7_firstOpen_85 ?_
                refine lv_topi (fun x44 ex44 => ?_)
                have ezx44 := ex44
                have ex44 : x44.toInt = x43.toInt + v56_8.toInt := by rw [ex44]; exact wk_add (show (-2147483648) ≤ x43.toInt + v56_8.toInt by omega) (show x43.toInt + v56_8.toInt ≤ 2147483647 by omega)
                replace hM := hM.lt ex44.symm
                refine lv_istore (lv' := [(9, .int x44), (0, .ref (ad 39)), (1, .int a1), (2, .int 0), (3, .int a3), (4, .int a4), (5, .int (-1)), (6, .int v25_6), (7, .int v56_7), (8, .int v56_8)]) hx hb dX7_firstOpen_86 hl (by decide) rfl (fun ls hl => ?_)
                refine lv_iload hx hb dX7_firstOpen_88 (lv_at hl 0 rfl) ?_
                refine lv_iload hx hb dX7_firstOpen_90 (lv_at hl 5 rfl) ?_
                refine lv_icmp_gt (tgt := 100) hx hb dX7_firstOpen_92 (by decide) (fun c45 => ?_) (fun c45 => ?_)
                · have c45 : a4.toInt < x44.toInt := wk_lt.mp c45
                  replace hM := hM.pos c45
                  refine lv_iconst (v := (-1)) hx hb dX7_firstOpen_100 (by decide) ?_
                  exact tk_iret hC hr hlocks hK ⟨hT, hF, hM.ret (by decide), (Or.inr rfl)⟩ hw dX7_firstOpen_101
                · have c45 : x44.toInt ≤ a4.toInt := wk_ltF c45
                  replace hM := hM.neg (Int.not_lt.mpr c45)
                  refine lv_iload hx hb dX7_firstOpen_95 (lv_at hl 0 rfl) ?_
                  refine lv_goto (tgt := 101) hx hb dX7_firstOpen_97 (by decide) ?_
                  exact tk_iret hC hr hlocks hK ⟨hT, hF, hM.ret rfl, (Or.inl ⟨(show 0 ≤ x44.toInt by omega), (show x44.toInt ≤ 101999 by omega)⟩)⟩ hw dX7_firstOpen_101
      replace hM := hM.suc (fun _ => e_X7_firstOpen_25)
      refine lv_iload hx hb dX7_firstOpen_25 (lv_at hl 6 rfl) ?_
      refine lv_bipush (v := 24) hx hb dX7_firstOpen_27 (by decide) ?_
      refine lv_imul hx hb dX7_firstOpen_29 ?_
      refine lv_topi (fun x46 ex46 => ?_)
      have ezx46 := ex46
      have ex46 : x46.toInt = v25_6.toInt * (24 : Int) := by rw [ex46]; exact wk_mul (show (-2147483648) ≤ v25_6.toInt * (24 : Int) by omega) (show v25_6.toInt * (24 : Int) ≤ 2147483647 by omega)
      replace hM := hM.lt ex46.symm
      refine lv_iload hx hb dX7_firstOpen_30 (lv_at hl 4 rfl) ?_
      refine lv_icmp_gt (tgt := 114) hx hb dX7_firstOpen_32 (by decide) (fun c47 => ?_) (fun c47 => ?_)
      · have c47 : a4.toInt < x46.toInt := wk_lt.mp c47
        replace hM := hM.pos c47
        refine lv_iconst (v := (-1)) hx hb dX7_firstOpen_114 (by decide) ?_
        exact tk_iret hC hr hlocks hK ⟨hT, hF, hM.ret (by decide), (Or.inr rfl)⟩ hw dX7_firstOpen_115
      · have c47 : x46.toInt ≤ a4.toInt := wk_ltF c47
        replace hM := hM.neg (Int.not_lt.mpr c47)
        refine lv_aload_n hx hb dX7_firstOpen_35 rfl (lv_at hl 0 rfl) ?_
        refine lv_iload_n hx hb dX7_firstOpen_36 rfl (lv_at hl 1 rfl) ?_
        refine lv_iload_n hx hb dX7_firstOpen_37 rfl (lv_at hl 2 rfl) ?_
        refine lv_iload hx hb dX7_firstOpen_38 (lv_at hl 6 rfl) ?_
        refine lv_i2l hx hb dX7_firstOpen_40 rfl ?_
        refine lv_topl (fun x48 ex48 => ?_)
        have ex48 : x48.toInt = v25_6.toInt := by rw [ex48]; exact wk_i2l _
        have bx48 := wk_i32 v25_6
        replace hM := hM.lt ex48.symm
        refine lv_iconst (v := 1) hx hb dX7_firstOpen_41 (by decide) ?_
        refine tk_Vi hC hK hw hT hA hE hSR kC_at39 (by decide) rfl (kz_X7_openHours_1 l adK adV dC dI cy ad B (by omega) (by omega) qr s1   a1 (show 0 ≤ a1.toInt from r2) (show a1.toInt ≤ 12 from t3) x48 (show 0 ≤ x48.toInt by omega) (show x48.toInt ≤ 4249 by omega) w1 H.size hT ) (cwV 4 hC.2.2.2.2 uV_RX7_148 rfl rfl rfl (by decide +kernel) ⟨Nat.le_of_ble_eq_true rfl, Nat.le_of_ble_eq_true rfl⟩) rfl hl.1 rfl (Nat.le_of_ble_eq_true rfl) dX7_firstOpen_42 (fun r49 w51 H locs hp50 hw => ?_)
        obtain ⟨hT, k52, hv56, hg55⟩ := hp50
        have hF := hF.tr k52 (by decide)
        obtain ⟨g53, g54⟩ := hg55
        replace hM := hM.call hv56 rfl
        refine lv_iload hx hb dX7_firstOpen_45 (lv_at hl 5 rfl) ?_
        refine lv_iand hx hb dX7_firstOpen_47 ?_
        refine lv_topi (fun x57 ex57 => ?_)
        have ezx57 := ex57
        have bx57 : 0 ≤ x57.toInt ∧ x57.toInt ≤ r49.toInt := by rw [ex57]; exact wk_andC (by omega)
        replace hM := hM.lt (o32_e (f := fun x y => x &&& y) ezx57 rfl rfl)
        refine lv_istore (lv' := [(7, .int x57), (0, .ref (ad 39)), (1, .int a1), (2, .int 0), (3, .int a3), (4, .int a4), (5, .int v25_5), (6, .int v25_6)]) hx hb dX7_firstOpen_48 hl (by decide) rfl (fun ls hl => ?_)
        refine lv_iconst (v := (-1)) hx hb dX7_firstOpen_50 (by decide) ?_
        refine lv_istore (lv' := [(5, .int (-1)), (7, .int x57), (0, .ref (ad 39)), (1, .int a1), (2, .int 0), (3, .int a3), (4, .int a4), (6, .int v25_6)]) hx hb dX7_firstOpen_51 hl (by decide) rfl (fun ls hl => ?_)
        refine lv_iconst (v := 0) hx hb dX7_firstOpen_53 (by decide) ?_
        refine lv_istore (lv' := [(8, .int 0), (5, .int (-1)), (7, .int x57), (0, .ref (ad 39)), (1, .int a1), (2, .int 0), (3, .int a3), (4, .int a4), (6, .int v25_6)]) hx hb dX7_firstOpen_54 hl (by decide) rfl (fun ls hl => ?_)
        exact L56 ((24 - (0 : Int)).toNat + 1) x57 0 H locs ls w51 (show 0 ≤ a1.toInt from r2) (show a1.toInt ≤ 12 from t3) (show (-1) ≤ a3.toInt from r4) (show a3.toInt ≤ 102119 from t5) (show 1991 ≤ a4.toInt from r6) (show a4.toInt ≤ 101999 from t7) (show 0 ≤ v25_6.toInt from r8) (show v25_6.toInt ≤ 4249 by omega) (show 0 ≤ x57.toInt by omega) (show x57.toInt ≤ 16777215 by omega) (by decide) (by decide) (Nat.lt_succ_self _) hw hT hF hM (lv_sub hl [3, 4, 5, 6, 7, 1, 8, 2, 0] rfl)
  have hM : TT (fun n => m_X7_firstOpen n 39 a1.toInt 0 a3.toInt a4.toInt (sI w0)) (fun n => m_X7_firstOpen n 39 a1.toInt 0 a3.toInt a4.toInt (sI w0)) := TT.rf
  refine lv_aload_n hx hb dX7_firstOpen_0 rfl (lv_at hl 0 rfl) ?_
  refine lv_iload_n hx hb dX7_firstOpen_1 rfl (lv_at hl 1 rfl) ?_
  refine lv_iload_n hx hb dX7_firstOpen_2 rfl (lv_at hl 2 rfl) ?_
  refine tk_Vi hC hK hw hT hA hE hSR kC_at39 (by decide) rfl (kz_X7_isNeverOpen_1 l adK adV dC dI cy ad B (by omega) (by omega) qr s1   a1 (show 0 ≤ a1.toInt from ra1) (show a1.toInt ≤ 12 from ta1) w0 s.heap.size hT ) (cwV 2 hC.2.2.2.2 uV_RX7_152 rfl rfl rfl (by decide +kernel) ⟨Nat.le_of_ble_eq_true rfl, Nat.le_of_ble_eq_true rfl⟩) rfl hl.1 rfl (Nat.le_of_ble_eq_true rfl) dX7_firstOpen_3 (fun r58 w60 H locs hp59 hw => ?_)
  obtain ⟨hT, k61, hv63, hg62⟩ := hp59
  have hF := hF.tr k61 (by decide)
  rcases hg62 with rfl | rfl
  · replace hM := hM.call (r' := 0) hv63 (by decide)
    refine lv_if_eq (tgt := 11) hx hb dX7_firstOpen_6 (by decide) (fun _ => ?_) (fun c => absurd (by decide) c)
    replace hM := hM.pos (by decide)
    refine lv_iconst (v := (-1)) hx hb dX7_firstOpen_11 (by decide) ?_
    refine lv_iload_n hx hb dX7_firstOpen_12 rfl (lv_at hl 3 rfl) ?_
    refine lv_bipush (v := 24) hx hb dX7_firstOpen_13 (by decide) ?_
    refine lv_irem hx hb dX7_firstOpen_15 (by decide) ?_
    refine lv_topi (fun x64 ex64 => ?_)
    have ezx64 := ex64
    replace hM := hM.lt (o32_e (f := fun x y => x - x / y * y) ezx64 rfl (by decide))
    refine lv_ishl hx hb dX7_firstOpen_16 ?_
    refine lv_topi (fun x65 ex65 => ?_)
    have ezx65 := ex65
    replace hM := hM.lt (o32_e (f := fun x y => x <<< (y &&& 31)) ezx65 (by decide) rfl)
    refine lv_istore (lv' := [(5, .int x65), (0, .ref (ad 39)), (1, .int a1), (2, .int 0), (3, .int a3), (4, .int a4)]) hx hb dX7_firstOpen_17 hl (by decide) rfl (fun ls hl => ?_)
    refine lv_iload_n hx hb dX7_firstOpen_19 rfl (lv_at hl 4 rfl) ?_
    refine lv_bipush (v := 24) hx hb dX7_firstOpen_20 (by decide) ?_
    refine lv_idiv hx hb dX7_firstOpen_22 (by decide) ?_
    refine lv_topi (fun x66 ex66 => ?_)
    have ezx66 := ex66
    have bx66 : -(1 / (24 : Int)) ≤ x66.toInt ∧ x66.toInt ≤ 102119 / (24 : Int) := by rw [ex66]; exact wk_divB (m := 1) (n := 102119) (show 0 < (24 : Int) by decide) (by decide) (by decide) (by omega) (by omega)
    replace hM := hM.lt (o32_e (f := fun x y => x / y) ezx66 rfl (by decide))
    refine lv_istore (lv' := [(6, .int x66), (5, .int x65), (0, .ref (ad 39)), (1, .int a1), (2, .int 0), (3, .int a3), (4, .int a4)]) hx hb dX7_firstOpen_23 hl (by decide) rfl (fun ls hl => ?_)
    exact L25 ((4254 - x66.toInt).toNat + 1) x65 x66 H locs ls w60 (show 0 ≤ a1.toInt from ra1) (show a1.toInt ≤ 12 from ta1) (show (-1) ≤ a3.toInt from ra3) (show a3.toInt ≤ 102119 from ta3) (show 1991 ≤ a4.toInt from ra4) (show a4.toInt ≤ 101999 from ta4) (show 0 ≤ x66.toInt by omega) (show x66.toInt ≤ 4254 by omega) (Nat.lt_succ_self _) hw hT hF hM (lv_sub hl [2, 3, 4, 5, 6, 1, 0] rfl)
  · replace hM := hM.call (r' := 1) hv63 (by decide)
    refine lv_if_eq (tgt := 11) hx hb dX7_firstOpen_6 (by decide) (fun c => absurd c (by decide)) (fun _ => ?_)
    replace hM := hM.neg (by decide)
    refine lv_iconst (v := (-1)) hx hb dX7_firstOpen_9 (by decide) ?_
    exact tk_iret hC hr hlocks hK ⟨hT, hF, hM.ret (by decide), (Or.inr rfl)⟩ hw dX7_firstOpen_10
abbrev Pz_X7_cornerAcross_2 (ad : Nat → Nat) (cy : Nat → ClassId) (B : Int) (qr : Nat) (s1 : Int) (a1 : Int32) (w0 : va_W) : Int32 → va_W → Prop := fun r u => TW ksC ad cy B qr s1 u ∧ FE ksC ([] : List (Nat × Nat × Nat)) w0 u ∧ Ev (fun n => m_X7_cornerAcross n 39 a1.toInt 1 (sI w0)) (r.toInt, sI u) ∧ ((0 ≤ r.toInt ∧ r.toInt ≤ 9))
set_option maxHeartbeats 4000000 in
set_option maxRecDepth 100000 in
theorem kz_X7_cornerAcross_2 (l : Launch) (adK adV : Nat → Nat) (dC : Nat → ClassId) (dI : Nat → Nat → Nat) (cy : Nat → ClassId) (ad : Nat → Nat) (B : Int) (hB0 : 2147483648 ≤ B) (hB1 : B ≤ 1152921504606846976) (qr : Nat) (s1 : Int)  (a1 : Int32) (ra1 : 0 ≤ a1.toInt) (ta1 : a1.toInt ≤ 12) (w0 : va_W) (sz : Nat) (hT : TW ksC ad cy B qr s1 w0)  : Met l yX7_cornerAcross (wu yX7_cornerAcross cX7_cornerAcross 3 (some .int)) ({ frames := 1, cells := 0, slots := 0, locals := 12 }) (va_Pc [.ref (ad 39), .int a1, .int 1] (wpreS adK adV dC dI cy sz w0)) (va_Qi (Pz_X7_cornerAcross_2 ad cy B qr s1 a1 w0) (fun u : va_W => wpost dC dI cy (va_A w0 sz) u) (va_A w0 sz)) 0 0 (va_A w0 sz) := by
  refine Met.ofW (cc := cX7_cornerAcross) (maxL := 3) (ret := (some .int)) (by decide) rfl ?_
  intro p e s m args below meth c s₁ Bk hml hv
  obtain ⟨rfl, ⟨hsz, hP, hK, hD0⟩, hE, hSR⟩ := hv
  have hx := Bk.exec
  have hb := Bk.bytes
  have hr := Bk.returns
  have hlocks := Bk.notSynchronized
  have hC : CallFix p m c cX7_cornerAcross 3 s _ (wu yX7_cornerAcross cX7_cornerAcross 3 (some .int)) RX7 := ⟨hx, hb, hml, findClass_of_methodNamed Bk.named, atoms_spec (ws := (wu yX7_cornerAcross cX7_cornerAcross 3 (some .int))) Bk.pre⟩
  subst hsz
  have hD := hD0.self (sz := s.heap.size)
  generalize hAe : va_A w0 s.heap.size = A at hD hE ⊢
  have hA : ∀ q : Nat, s.heap.size ≤ q → A q := fun q h => by rw [← hAe]; exact Or.inr h
  have hw : Wd dC dI A s.heap s.heap [] w0 := ⟨hP, hD, va_S.rf⟩
  have hF : FE ksC ([] : List (Nat × Nat × Nat)) w0 w0 := FE.rf
  have hl := lv_entry ([.ref (ad 39), .int a1, .int 1]) (n := 3) (Nat.le_of_ble_eq_true rfl)
  rw [lg_entry_eq]
  generalize (lg_sl ([.ref (ad 39), .int a1, .int 1]) ++ List.replicate (3 - (lg_sl ([.ref (ad 39), .int a1, .int 1])).length) Slot.unset).toArray = ls at hl ⊢
  have hl : lv_has ls 3 [(0, .ref (ad 39)), (1, .int a1), (2, .int 1)] := hl
  generalize hloc : ([] : List Loc) = locs at hw ⊢
  have hinX7 : ∀ w ∈ u_ws RX7 TX7 12, w ∈ (wu yX7_cornerAcross cX7_cornerAcross 3 (some .int)) := fun _ h => List.mem_cons_of_mem _ (up_73 h)
  have hM : TT (fun n => m_X7_cornerAcross n 39 a1.toInt 1 (sI w0)) (fun n => m_X7_cornerAcross n 39 a1.toInt 1 (sI w0)) := TT.rf
  refine lv_aload_n hx hb dX7_cornerAcross_0 rfl (lv_at hl 0 rfl) ?_
  refine tk_getO hC hK hw hT hinX7 kC_at39 (by decide) rfl 0 (by decide) (List.mem_cons_of_mem _ uw_2_17) rfl rfl dX7_cornerAcross_1 ?_
  refine lv_iconst (v := 2) hx hb dX7_cornerAcross_4 (by decide) ?_
  refine lv_iload_n hx hb dX7_cornerAcross_5 rfl (lv_at hl 1 rfl) ?_
  refine lv_imul hx hb dX7_cornerAcross_6 ?_
  refine lv_topi (fun x1 ex1 => ?_)
  have ezx1 := ex1
  have ex1 : x1.toInt = (2 : Int) * a1.toInt := by rw [ex1]; exact wk_mul (show (-2147483648) ≤ (2 : Int) * a1.toInt by omega) (show (2 : Int) * a1.toInt ≤ 2147483647 by omega)
  replace hM := hM.lt ex1.symm
  refine lv_iconst (v := 1) hx hb dX7_cornerAcross_7 (by decide) ?_
  refine lv_iadd hx hb dX7_cornerAcross_8 ?_
  refine lv_topi (fun x2 ex2 => ?_)
  have ezx2 := ex2
  have ex2 : x2.toInt = x1.toInt + (1 : Int) := by rw [ex2]; exact wk_add (show (-2147483648) ≤ x1.toInt + (1 : Int) by omega) (show x1.toInt + (1 : Int) ≤ 2147483647 by omega)
  replace hM := hM.lt ex2.symm
  refine lv_iload_n hx hb dX7_cornerAcross_9 rfl (lv_at hl 2 rfl) ?_
  refine lv_isub hx hb dX7_cornerAcross_10 ?_
  refine lv_topi (fun x3 ex3 => ?_)
  have ezx3 := ex3
  have ex3 : x3.toInt = x2.toInt - (1 : Int) := by rw [ex3]; exact wk_sub (show (-2147483648) ≤ x2.toInt - (1 : Int) by omega) (show x2.toInt - (1 : Int) ≤ 2147483647 by omega)
  replace hM := hM.lt ex3.symm
  refine tk_iald hC hK hw hT kC_at40 rfl rfl (show 0 ≤ x3.toInt by omega) (show x3.toInt < 26 by omega) dX7_cornerAcross_11 (fun x4 c5 rx4 tx4 => ?_)
  have hox4 := c5
  replace hM := hM.rd (sI_at hox4)
  have c5 : gi w0 40 (2 * a1.toInt + 0).toNat = x4 := (congrArg (gi w0 40) (congrArg Int.toNat (show 2 * a1.toInt + 0 = x3.toInt by omega))).trans c5
  exact tk_iret hC hr hlocks hK ⟨hT, hF, hM.ret rfl, ⟨(show 0 ≤ x4.toInt from rx4), (show x4.toInt ≤ 9 from tx4)⟩⟩ hw dX7_cornerAcross_12
abbrev Pz_X7_openHours_2 (ad : Nat → Nat) (cy : Nat → ClassId) (B : Int) (qr : Nat) (s1 : Int) (a1 : Int32) (a3 : Int64) (w0 : va_W) : Int32 → va_W → Prop := fun r u => TW ksC ad cy B qr s1 u ∧ FE ksC ([] : List (Nat × Nat × Nat)) w0 u ∧ Ev (fun n => m_X7_openHours n 39 a1.toInt 1 a3.toInt 1 (sI w0)) (r.toInt, sI u) ∧ ((0 ≤ r.toInt ∧ r.toInt ≤ 16777215))
set_option maxHeartbeats 4000000 in
set_option maxRecDepth 100000 in
theorem kz_X7_openHours_2 (l : Launch) (adK adV : Nat → Nat) (dC : Nat → ClassId) (dI : Nat → Nat → Nat) (cy : Nat → ClassId) (ad : Nat → Nat) (B : Int) (hB0 : 2147483648 ≤ B) (hB1 : B ≤ 1152921504606846976) (qr : Nat) (s1 : Int)  (a1 : Int32) (ra1 : 0 ≤ a1.toInt) (ta1 : a1.toInt ≤ 12) (a3 : Int64) (ra3 : 0 ≤ a3.toInt) (ta3 : a3.toInt ≤ 4249) (w0 : va_W) (sz : Nat) (hT : TW ksC ad cy B qr s1 w0)  : Met l yX7_openHours (wu yX7_openHours cX7_openHours 8 (some .int)) ({ frames := 1, cells := 0, slots := 0, locals := 12 }) (va_Pc [.ref (ad 39), .int a1, .int 1, .long a3, .int 1] (wpreS adK adV dC dI cy sz w0)) (va_Qi (Pz_X7_openHours_2 ad cy B qr s1 a1 a3 w0) (fun u : va_W => wpost dC dI cy (va_A w0 sz) u) (va_A w0 sz)) 0 0 (va_A w0 sz) := by
  refine Met.ofW (cc := cX7_openHours) (maxL := 8) (ret := (some .int)) (by decide) rfl ?_
  intro p e s m args below meth c s₁ Bk hml hv
  obtain ⟨rfl, ⟨hsz, hP, hK, hD0⟩, hE, hSR⟩ := hv
  have hx := Bk.exec
  have hb := Bk.bytes
  have hr := Bk.returns
  have hlocks := Bk.notSynchronized
  have hC : CallFix p m c cX7_openHours 8 s _ (wu yX7_openHours cX7_openHours 8 (some .int)) RX7 := ⟨hx, hb, hml, findClass_of_methodNamed Bk.named, atoms_spec (ws := (wu yX7_openHours cX7_openHours 8 (some .int))) Bk.pre⟩
  subst hsz
  have hD := hD0.self (sz := s.heap.size)
  generalize hAe : va_A w0 s.heap.size = A at hD hE ⊢
  have hA : ∀ q : Nat, s.heap.size ≤ q → A q := fun q h => by rw [← hAe]; exact Or.inr h
  have hw : Wd dC dI A s.heap s.heap [] w0 := ⟨hP, hD, va_S.rf⟩
  have hF : FE ksC ([] : List (Nat × Nat × Nat)) w0 w0 := FE.rf
  have hl := lv_entry ([.ref (ad 39), .int a1, .int 1, .long a3, .int 1]) (n := 8) (Nat.le_of_ble_eq_true rfl)
  rw [lg_entry_eq]
  generalize (lg_sl ([.ref (ad 39), .int a1, .int 1, .long a3, .int 1]) ++ List.replicate (8 - (lg_sl ([.ref (ad 39), .int a1, .int 1, .long a3, .int 1])).length) Slot.unset).toArray = ls at hl ⊢
  have hl : lv_has ls 8 [(0, .ref (ad 39)), (1, .int a1), (2, .int 1), (3, .long a3), (5, .int 1)] := hl
  generalize hloc : ([] : List Loc) = locs at hw ⊢
  have hinX7 : ∀ w ∈ u_ws RX7 TX7 12, w ∈ (wu yX7_openHours cX7_openHours 8 (some .int)) := fun _ h => List.mem_cons_of_mem _ (up_73 h)
  have J93 : ∀ (v93_6 : Int32) (v93_7 : Int32) (H : Heap) (locs : List Loc) (ls : Array Slot) (w1 : va_W), 0 ≤ a1.toInt → a1.toInt ≤ 12 → 0 ≤ a3.toInt → a3.toInt ≤ 4249 → 0 ≤ v93_7.toInt → v93_7.toInt ≤ 8 → Wd dC dI A s.heap H locs w1 → TW ksC ad cy B qr s1 w1 → FE ksC ([] : List (Nat × Nat × Nat)) w0 w1 → TT (fun n => m_X7_openHours n 39 a1.toInt 1 a3.toInt 1 (sI w0)) (fun n => b_X7_openHours_93 (j_X7_openHours 39 n) n 39 (a1.toInt) (sI w1)) → lv_has ls 8 [(0, .ref (ad 39)), (1, .int a1), (2, .int 1), (3, .long a3), (5, .int 1), (6, .int v93_6), (7, .int v93_7)] → W p l e ({ frames := 1, cells := 0, slots := 0, locals := 12 }) s m (List.toArray [.ref (ad 39), .int a1, .int 1, .long a3, .int 1]) below meth c H locs 0 0 (MQ below (va_Qi (Pz_X7_openHours_2 ad cy B qr s1 a1 a3 w0) (fun u : va_W => wpost dC dI cy A u) A) (List.toArray [.ref (ad 39), .int a1, .int 1, .long a3, .int 1]) s 0 0 A) (F0 m 93 ls []) := by
    intro v93_6 v93_7 H locs ls w1 r2 t3 r4 t5 r6 t7 hw hT hF hM hl
    refine lv_ldc (v := 16777215) hx hb hC.2.2.2.1 (hC.2.2.2.2 _ (List.mem_cons_of_mem _ uw_31_17)) dX7_openHours_93 ?_
    refine lv_aload_n hx hb dX7_openHours_95 rfl (lv_at hl 0 rfl) ?_
    refine tk_getO hC hK hw hT hinX7 kC_at39 (by decide) rfl 3 (by decide) (List.mem_cons_of_mem _ uw_2_20) rfl rfl dX7_openHours_96 ?_
    refine lv_iload_n hx hb dX7_openHours_99 rfl (lv_at hl 1 rfl) ?_
    refine tk_iald hC hK hw hT kC_at43 rfl rfl (show 0 ≤ a1.toInt from r2) (show a1.toInt < 13 from Int.lt_of_le_of_lt t3 (by decide)) dX7_openHours_100 (fun x8 c9 rx8 tx8 => ?_)
    have hox8 := c9
    replace hM := hM.rd (sI_at hox8)
    refine lv_iconst (v := (-1)) hx hb dX7_openHours_101 (by decide) ?_
    refine lv_ixor hx hb dX7_openHours_102 ?_
    refine lv_topi (fun x10 ex10 => ?_)
    have ezx10 := ex10
    replace hM := hM.lt (o32_e (f := fun x y => x ^^^ y) ezx10 rfl (by decide))
    refine lv_iand hx hb dX7_openHours_103 ?_
    refine lv_topi (fun x11 ex11 => ?_)
    have ezx11 := ex11
    have bx11 : 0 ≤ x11.toInt ∧ x11.toInt ≤ (16777215 : Int) := by rw [ex11]; exact wk_andC (by decide)
    replace hM := hM.lt (o32_e (f := fun x y => x &&& y) ezx11 (by decide) rfl)
    exact tk_iret hC hr hlocks hK ⟨hT, hF, hM.ret rfl, ⟨(show 0 ≤ x11.toInt by omega), (show x11.toInt ≤ 16777215 by omega)⟩⟩ hw dX7_openHours_104
  have L44 : ∀ (n44 : Nat) (v44_6 : Int32) (v44_7 : Int32) (H : Heap) (locs : List Loc) (ls : Array Slot) (w12 : va_W), 0 ≤ a1.toInt → a1.toInt ≤ 12 → 0 ≤ a3.toInt → a3.toInt ≤ 4249 → 0 ≤ v44_7.toInt → v44_7.toInt ≤ 8 → (8 - v44_7.toInt).toNat < n44 → Wd dC dI A s.heap H locs w12 → TW ksC ad cy B qr s1 w12 → FE ksC ([] : List (Nat × Nat × Nat)) w0 w12 → TT (fun n => m_X7_openHours n 39 a1.toInt 1 a3.toInt 1 (sI w0)) (fun n => j_X7_openHours 39 n 44 [a1.toInt, a3.toInt, v44_6.toInt, v44_7.toInt] (sI w12)) → lv_has ls 8 [(0, .ref (ad 39)), (1, .int a1), (2, .int 1), (3, .long a3), (5, .int 1), (6, .int v44_6), (7, .int v44_7)] → W p l e ({ frames := 1, cells := 0, slots := 0, locals := 12 }) s m (List.toArray [.ref (ad 39), .int a1, .int 1, .long a3, .int 1]) below meth c H locs 0 0 (MQ below (va_Qi (Pz_X7_openHours_2 ad cy B qr s1 a1 a3 w0) (fun u : va_W => wpost dC dI cy A u) A) (List.toArray [.ref (ad 39), .int a1, .int 1, .long a3, .int 1]) s 0 0 A) (F0 m 44 ls []) := by
    intro n44
    induction n44 with
    | zero => intro v44_6 v44_7 H locs ls w12 r13 t14 r15 t16 r17 t18 hm44 hw hT hF hM hl; omega
    | succ n44 ih44 =>
      intro v44_6 v44_7 H locs ls w12 r13 t14 r15 t16 r17 t18 hm44 hw hT hF hM hl
      have J81 : ∀ (H : Heap) (locs : List Loc) (ls : Array Slot) (w19 : va_W), 0 ≤ a1.toInt → a1.toInt ≤ 12 → 0 ≤ a3.toInt → a3.toInt ≤ 4249 → 0 ≤ v44_7.toInt → v44_7.toInt ≤ 7 → Wd dC dI A s.heap H locs w19 → TW ksC ad cy B qr s1 w19 → FE ksC ([] : List (Nat × Nat × Nat)) w0 w19 → TT (fun n => m_X7_openHours n 39 a1.toInt 1 a3.toInt 1 (sI w0)) (fun n => b_X7_openHours_81 (j_X7_openHours 39 n) n 39 (a1.toInt) (a3.toInt) (v44_6.toInt) (v44_7.toInt) (sI w19)) → lv_has ls 8 [(0, .ref (ad 39)), (1, .int a1), (2, .int 1), (3, .long a3), (5, .int 1), (6, .int v44_6), (7, .int v44_7)] → W p l e ({ frames := 1, cells := 0, slots := 0, locals := 12 }) s m (List.toArray [.ref (ad 39), .int a1, .int 1, .long a3, .int 1]) below meth c H locs 0 0 (MQ below (va_Qi (Pz_X7_openHours_2 ad cy B qr s1 a1 a3 w0) (fun u : va_W => wpost dC dI cy A u) A) (List.toArray [.ref (ad 39), .int a1, .int 1, .long a3, .int 1]) s 0 0 A) (F0 m 81 ls []) := by
        intro H locs ls w19 r20 t21 r22 t23 r24 t25 hw hT hF hM hl
        refine lv_iload hx hb dX7_openHours_81 (lv_at hl 5 rfl) ?_
        refine lv_iconst (v := 1) hx hb dX7_openHours_83 (by decide) ?_
        refine lv_ishr hx hb dX7_openHours_84 ?_
        refine lv_topi (fun x26 ex26 => ?_)
        have ezx26 := ex26
        replace hM := hM.lt (o32_e (f := fun x y => x >>> (y &&& 31)) ezx26 rfl (by decide))
        refine lv_istore (lv' := [(6, .int x26), (0, .ref (ad 39)), (1, .int a1), (2, .int 1), (3, .long a3), (5, .int 1), (7, .int v44_7)]) hx hb dX7_openHours_85 hl (by decide) rfl (fun ls hl => ?_)
        obtain ⟨x27, ex27⟩ : ∃ y : Int32, y = v44_7 + Int32.ofInt 1 := ⟨_, rfl⟩
        have erx27 := ex27
        refine lv_iinc (v := x27) (lv' := [(7, .int x27), (6, .int x26), (0, .ref (ad 39)), (1, .int a1), (2, .int 1), (3, .long a3), (5, .int 1)]) hx hb dX7_openHours_87 hl (k := 6) rfl ex27.symm (by decide) rfl (fun ls hl => ?_)
        have ex27 : x27.toInt = v44_7.toInt + 1 := by rw [ex27]; exact wk_add (y := 1) (show -2147483648 ≤ v44_7.toInt + 1 by omega) (show v44_7.toInt + 1 ≤ 2147483647 by omega)
        replace hM := hM.lt ex27.symm
        refine lv_goto (tgt := 44) hx hb dX7_openHours_90 (by decide) ?_
        exact ih44 x26 x27 H locs ls w19 (show 0 ≤ a1.toInt from r20) (show a1.toInt ≤ 12 from t21) (show 0 ≤ a3.toInt from r22) (show a3.toInt ≤ 4249 from t23) (show 0 ≤ x27.toInt by omega) (show x27.toInt ≤ 8 by omega) (show (8 - x27.toInt).toNat < n44 by omega) hw hT hF hM (lv_sub hl [2, 3, 4, 5, 6, 1, 0] rfl)
      replace hM := hM.suc (fun _ => e_X7_openHours_44)
      refine lv_iload hx hb dX7_openHours_44 (lv_at hl 5 rfl) ?_
      refine lv_if_eq (tgt := 93) hx hb dX7_openHours_46 (by decide) (fun c28 => ?_) (fun c28 => ?_)
      · have c28 : v44_6.toInt = (0 : Int) := wk_eq.mp c28
        replace hM := hM.pos c28
        exact J93 v44_6 v44_7 H locs ls w12 (show 0 ≤ a1.toInt from r13) (show a1.toInt ≤ 12 from t14) (show 0 ≤ a3.toInt from r15) (show a3.toInt ≤ 4249 from t16) (show 0 ≤ v44_7.toInt from r17) (show v44_7.toInt ≤ 8 from t18)  hw hT hF hM (lv_sub hl [0, 1, 2, 3, 4, 5, 6] rfl)
      · have c28 : ¬ v44_6.toInt = (0 : Int) := wk_eqF c28
        replace hM := hM.neg c28
        refine lv_iload hx hb dX7_openHours_49 (lv_at hl 6 rfl) ?_
        refine lv_bipush (v := 8) hx hb dX7_openHours_51 (by decide) ?_
        refine lv_icmp_ge (tgt := 93) hx hb dX7_openHours_53 (by decide) (fun c29 => ?_) (fun c29 => ?_)
        · have c29 : (8 : Int) ≤ v44_7.toInt := wk_le.mp c29
          replace hM := hM.pos c29
          exact J93 v44_6 v44_7 H locs ls w12 (show 0 ≤ a1.toInt from r13) (show a1.toInt ≤ 12 from t14) (show 0 ≤ a3.toInt from r15) (show a3.toInt ≤ 4249 from t16) (show 0 ≤ v44_7.toInt from r17) (show v44_7.toInt ≤ 8 from t18)  hw hT hF hM (lv_sub hl [0, 1, 2, 3, 4, 5, 6] rfl)
        · have c29 : v44_7.toInt < (8 : Int) := wk_leF c29
          replace hM := hM.neg (Int.not_le.mpr c29)
          refine lv_iload hx hb dX7_openHours_56 (lv_at hl 5 rfl) ?_
          refine lv_iconst (v := 1) hx hb dX7_openHours_58 (by decide) ?_
          refine lv_iand hx hb dX7_openHours_59 ?_
          refine lv_topi (fun x30 ex30 => ?_)
          have ezx30 := ex30
          have bx30 : 0 ≤ x30.toInt ∧ x30.toInt ≤ (1 : Int) := by rw [ex30]; exact wk_and (by decide)
          replace hM := hM.lt (o32_e (f := fun x y => x &&& y) ezx30 rfl (by decide))
          refine lv_if_eq (tgt := 81) hx hb dX7_openHours_60 (by decide) (fun c31 => ?_) (fun c31 => ?_)
          · have c31 : x30.toInt = (0 : Int) := wk_eq.mp c31
            replace hM := hM.pos c31
            exact J81  H locs ls w12 (show 0 ≤ a1.toInt from r13) (show a1.toInt ≤ 12 from t14) (show 0 ≤ a3.toInt from r15) (show a3.toInt ≤ 4249 from t16) (show 0 ≤ v44_7.toInt from r17) (show v44_7.toInt ≤ 7 by omega)  hw hT hF hM (lv_sub hl [0, 1, 2, 3, 4, 5, 6] rfl)
          · have c31 : ¬ x30.toInt = (0 : Int) := wk_eqF c31
            replace hM := hM.neg c31
            refine lv_aload_n hx hb dX7_openHours_63 rfl (lv_at hl 0 rfl) ?_
            refine tk_getO hC hK hw hT hinX7 kC_at39 (by decide) rfl 6 (by decide) (List.mem_cons_of_mem _ uw_2_23) rfl rfl dX7_openHours_64 ?_
            refine lv_iload hx hb dX7_openHours_67 (lv_at hl 6 rfl) ?_
            refine tk_iald hC hK hw hT kC_at46 rfl rfl (show 0 ≤ v44_7.toInt from r17) (show v44_7.toInt < 8 by omega) dX7_openHours_69 (fun x32 c33 rx32 tx32 => ?_)
            have hox32 := c33
            replace hM := hM.rd (sI_at hox32)
            refine lv_lload_n hx hb dX7_openHours_70 rfl (lv_at hl 3 rfl) ?_
            refine lv_ldc2 (v := 360) hx hb hC.2.2.2.1 (hC.2.2.2.2 _ (List.mem_cons_of_mem _ uw_31_16)) dX7_openHours_71 ?_
            refine lv_lrem hx hb dX7_openHours_74 (by decide) ?_
            refine lv_topl (fun x34 ex34 => ?_)
            have ezx34 := ex34
            have ex34 : x34.toInt = a3.toInt % (360 : Int) := by rw [ex34]; exact wk_reml (show 0 ≤ a3.toInt from r15) (show 0 < (360 : Int) by decide)
            replace hM := hM.lt ex34.symm
            refine lv_l2i hx hb dX7_openHours_75 rfl ?_
            refine lv_topi (fun x35 ex35 => ?_)
            have ex35 : x35.toInt = x34.toInt := by rw [ex35]; exact wk_l2i (by omega) (by omega)
            replace hM := hM.lt ex35.symm
            refine lv_icmp_ne (tgt := 81) hx hb dX7_openHours_76 (by decide) (fun c36 => ?_) (fun c36 => ?_)
            · have c36 : ¬ x32.toInt = x35.toInt := wk_eqF c36
              replace hM := hM.pos c36
              exact J81  H locs ls w12 (show 0 ≤ a1.toInt from r13) (show a1.toInt ≤ 12 from t14) (show 0 ≤ a3.toInt from r15) (show a3.toInt ≤ 4249 from t16) (show 0 ≤ v44_7.toInt from r17) (show v44_7.toInt ≤ 7 by omega)  hw hT hF hM (lv_sub hl [0, 1, 2, 3, 4, 5, 6] rfl)
            · have c36 : x32.toInt = x35.toInt := wk_eq.mp c36
              replace hM := hM.neg (fun q => q c36)
              refine lv_iconst (v := 0) hx hb dX7_openHours_79 (by decide) ?_
              exact tk_iret hC hr hlocks hK ⟨hT, hF, hM.ret (by decide), ⟨(by decide), (by decide)⟩⟩ hw dX7_openHours_80
  have hM : TT (fun n => m_X7_openHours n 39 a1.toInt 1 a3.toInt 1 (sI w0)) (fun n => m_X7_openHours n 39 a1.toInt 1 a3.toInt 1 (sI w0)) := TT.rf
  refine lv_aload_n hx hb dX7_openHours_0 rfl (lv_at hl 0 rfl) ?_
  refine tk_getO hC hK hw hT hinX7 kC_at39 (by decide) rfl 4 (by decide) (List.mem_cons_of_mem _ uw_2_21) rfl rfl dX7_openHours_1 ?_
  refine lv_iconst (v := 2) hx hb dX7_openHours_4 (by decide) ?_
  refine lv_iload_n hx hb dX7_openHours_5 rfl (lv_at hl 1 rfl) ?_
  refine lv_imul hx hb dX7_openHours_6 ?_
  refine lv_topi (fun x37 ex37 => ?_)
  have ezx37 := ex37
  have ex37 : x37.toInt = (2 : Int) * a1.toInt := by rw [ex37]; exact wk_mul (show (-2147483648) ≤ (2 : Int) * a1.toInt by omega) (show (2 : Int) * a1.toInt ≤ 2147483647 by omega)
  replace hM := hM.lt ex37.symm
  refine lv_iload_n hx hb dX7_openHours_7 rfl (lv_at hl 2 rfl) ?_
  refine lv_iadd hx hb dX7_openHours_8 ?_
  refine lv_topi (fun x38 ex38 => ?_)
  have ezx38 := ex38
  have ex38 : x38.toInt = x37.toInt + (1 : Int) := by rw [ex38]; exact wk_add (show (-2147483648) ≤ x37.toInt + (1 : Int) by omega) (show x37.toInt + (1 : Int) ≤ 2147483647 by omega)
  replace hM := hM.lt ex38.symm
  refine tk_iald hC hK hw hT kC_at44 rfl rfl (show 0 ≤ x38.toInt by omega) (show x38.toInt < 26 by omega) dX7_openHours_9 (fun x39 c40 rx39 tx39 => ?_)
  have hox39 := c40
  replace hM := hM.rd (sI_at hox39)
  refine lv_lload_n hx hb dX7_openHours_10 rfl (lv_at hl 3 rfl) ?_
  refine lv_ldc2 (v := 7) hx hb hC.2.2.2.1 (hC.2.2.2.2 _ (List.mem_cons_of_mem _ uw_31_15)) dX7_openHours_11 ?_
  refine lv_lrem hx hb dX7_openHours_14 (by decide) ?_
  refine lv_topl (fun x41 ex41 => ?_)
  have ezx41 := ex41
  have ex41 : x41.toInt = a3.toInt % (7 : Int) := by rw [ex41]; exact wk_reml (show 0 ≤ a3.toInt from ra3) (show 0 < (7 : Int) by decide)
  replace hM := hM.lt ex41.symm
  refine lv_l2i hx hb dX7_openHours_15 rfl ?_
  refine lv_topi (fun x42 ex42 => ?_)
  have ex42 : x42.toInt = x41.toInt := by rw [ex42]; exact wk_l2i (by omega) (by omega)
  replace hM := hM.lt ex42.symm
  refine lv_ishr hx hb dX7_openHours_16 ?_
  refine lv_topi (fun x43 ex43 => ?_)
  have ezx43 := ex43
  replace hM := hM.lt (o32_e (f := fun x y => x >>> (y &&& 31)) ezx43 rfl rfl)
  refine lv_iconst (v := 1) hx hb dX7_openHours_17 (by decide) ?_
  refine lv_iand hx hb dX7_openHours_18 ?_
  refine lv_topi (fun x44 ex44 => ?_)
  have ezx44 := ex44
  have bx44 : 0 ≤ x44.toInt ∧ x44.toInt ≤ (1 : Int) := by rw [ex44]; exact wk_and (by decide)
  replace hM := hM.lt (o32_e (f := fun x y => x &&& y) ezx44 rfl (by decide))
  refine lv_if_ne (tgt := 24) hx hb dX7_openHours_19 (by decide) (fun c45 => ?_) (fun c45 => ?_)
  · have c45 : ¬ x44.toInt = (0 : Int) := wk_eqF c45
    replace hM := hM.pos c45
    refine lv_iload hx hb dX7_openHours_24 (lv_at hl 4 rfl) ?_
    refine lv_if_eq (tgt := 38) hx hb dX7_openHours_26 (by decide) (fun c => absurd c (by decide)) (fun _ => ?_)
    replace hM := hM.neg (by decide)
    refine lv_aload_n hx hb dX7_openHours_29 rfl (lv_at hl 0 rfl) ?_
    refine tk_getO hC hK hw hT hinX7 kC_at39 (by decide) rfl 7 (by decide) (List.mem_cons_of_mem _ uw_3_0) rfl rfl dX7_openHours_30 ?_
    refine lv_iload_n hx hb dX7_openHours_33 rfl (lv_at hl 1 rfl) ?_
    refine tk_iald hC hK hw hT kC_at47 rfl rfl (show 0 ≤ a1.toInt from ra1) (show a1.toInt < 13 from Int.lt_of_le_of_lt ta1 (by decide)) dX7_openHours_34 (fun x46 c47 rx46 tx46 => ?_)
    have hox46 := c47
    replace hM := hM.rd (sI_at hox46)
    refine lv_goto (tgt := 39) hx hb dX7_openHours_35 (by decide) ?_
    refine lv_istore (lv' := [(6, .int x46), (0, .ref (ad 39)), (1, .int a1), (2, .int 1), (3, .long a3), (5, .int 1)]) hx hb dX7_openHours_39 hl (by decide) rfl (fun ls hl => ?_)
    refine lv_iconst (v := 0) hx hb dX7_openHours_41 (by decide) ?_
    refine lv_istore (lv' := [(7, .int 0), (6, .int x46), (0, .ref (ad 39)), (1, .int a1), (2, .int 1), (3, .long a3), (5, .int 1)]) hx hb dX7_openHours_42 hl (by decide) rfl (fun ls hl => ?_)
    exact L44 ((8 - (0 : Int)).toNat + 1) x46 0 s.heap locs ls w0 (show 0 ≤ a1.toInt from ra1) (show a1.toInt ≤ 12 from ta1) (show 0 ≤ a3.toInt from ra3) (show a3.toInt ≤ 4249 from ta3) (by decide) (by decide) (Nat.lt_succ_self _) hw hT hF hM (lv_sub hl [2, 3, 4, 5, 6, 1, 0] rfl)
  · have c45 : x44.toInt = (0 : Int) := wk_eq.mp c45
    replace hM := hM.neg (fun q => q c45)
    refine lv_iconst (v := 0) hx hb dX7_openHours_22 (by decide) ?_
    exact tk_iret hC hr hlocks hK ⟨hT, hF, hM.ret (by decide), ⟨(by decide), (by decide)⟩⟩ hw dX7_openHours_23
abbrev Pz_X7_isNeverOpen_2 (ad : Nat → Nat) (cy : Nat → ClassId) (B : Int) (qr : Nat) (s1 : Int) (a1 : Int32) (w0 : va_W) : Int32 → va_W → Prop := fun r u => TW ksC ad cy B qr s1 u ∧ FE ksC ([] : List (Nat × Nat × Nat)) w0 u ∧ Ev (fun n => m_X7_isNeverOpen n 39 a1.toInt 1 (sI w0)) (r.toInt, sI u) ∧ ((r = 0) ∨ (r = 1))
set_option maxHeartbeats 4000000 in
set_option maxRecDepth 100000 in
theorem kz_X7_isNeverOpen_2 (l : Launch) (adK adV : Nat → Nat) (dC : Nat → ClassId) (dI : Nat → Nat → Nat) (cy : Nat → ClassId) (ad : Nat → Nat) (B : Int) (hB0 : 2147483648 ≤ B) (hB1 : B ≤ 1152921504606846976) (qr : Nat) (s1 : Int)  (a1 : Int32) (ra1 : 0 ≤ a1.toInt) (ta1 : a1.toInt ≤ 12) (w0 : va_W) (sz : Nat) (hT : TW ksC ad cy B qr s1 w0)  : Met l yX7_isNeverOpen (wu yX7_isNeverOpen cX7_isNeverOpen 3 (some .boolean)) ({ frames := 1, cells := 0, slots := 0, locals := 12 }) (va_Pc [.ref (ad 39), .int a1, .int 1] (wpreS adK adV dC dI cy sz w0)) (va_Qi (Pz_X7_isNeverOpen_2 ad cy B qr s1 a1 w0) (fun u : va_W => wpost dC dI cy (va_A w0 sz) u) (va_A w0 sz)) 0 0 (va_A w0 sz) := by
  refine Met.ofW (cc := cX7_isNeverOpen) (maxL := 3) (ret := (some .boolean)) (by decide) rfl ?_
  intro p e s m args below meth c s₁ Bk hml hv
  obtain ⟨rfl, ⟨hsz, hP, hK, hD0⟩, hE, hSR⟩ := hv
  have hx := Bk.exec
  have hb := Bk.bytes
  have hr := Bk.returns
  have hlocks := Bk.notSynchronized
  have hC : CallFix p m c cX7_isNeverOpen 3 s _ (wu yX7_isNeverOpen cX7_isNeverOpen 3 (some .boolean)) RX7 := ⟨hx, hb, hml, findClass_of_methodNamed Bk.named, atoms_spec (ws := (wu yX7_isNeverOpen cX7_isNeverOpen 3 (some .boolean))) Bk.pre⟩
  subst hsz
  have hD := hD0.self (sz := s.heap.size)
  generalize hAe : va_A w0 s.heap.size = A at hD hE ⊢
  have hA : ∀ q : Nat, s.heap.size ≤ q → A q := fun q h => by rw [← hAe]; exact Or.inr h
  have hw : Wd dC dI A s.heap s.heap [] w0 := ⟨hP, hD, va_S.rf⟩
  have hF : FE ksC ([] : List (Nat × Nat × Nat)) w0 w0 := FE.rf
  have hl := lv_entry ([.ref (ad 39), .int a1, .int 1]) (n := 3) (Nat.le_of_ble_eq_true rfl)
  rw [lg_entry_eq]
  generalize (lg_sl ([.ref (ad 39), .int a1, .int 1]) ++ List.replicate (3 - (lg_sl ([.ref (ad 39), .int a1, .int 1])).length) Slot.unset).toArray = ls at hl ⊢
  have hl : lv_has ls 3 [(0, .ref (ad 39)), (1, .int a1), (2, .int 1)] := hl
  generalize hloc : ([] : List Loc) = locs at hw ⊢
  have hinX7 : ∀ w ∈ u_ws RX7 TX7 12, w ∈ (wu yX7_isNeverOpen cX7_isNeverOpen 3 (some .boolean)) := fun _ h => List.mem_cons_of_mem _ (up_73 h)
  have J24 : ∀ (H : Heap) (locs : List Loc) (ls : Array Slot) (w1 : va_W), 0 ≤ a1.toInt → a1.toInt ≤ 12 → Wd dC dI A s.heap H locs w1 → TW ksC ad cy B qr s1 w1 → FE ksC ([] : List (Nat × Nat × Nat)) w0 w1 → TT (fun n => m_X7_isNeverOpen n 39 a1.toInt 1 (sI w0)) (fun n => b_X7_isNeverOpen_24 n 39 (sI w1)) → lv_has ls 3 [(0, .ref (ad 39)), (1, .int a1), (2, .int 1)] → W p l e ({ frames := 1, cells := 0, slots := 0, locals := 12 }) s m (List.toArray [.ref (ad 39), .int a1, .int 1]) below meth c H locs 0 0 (MQ below (va_Qi (Pz_X7_isNeverOpen_2 ad cy B qr s1 a1 w0) (fun u : va_W => wpost dC dI cy A u) A) (List.toArray [.ref (ad 39), .int a1, .int 1]) s 0 0 A) (F0 m 24 ls []) := by
    intro H locs ls w1 r2 t3 hw hT hF hM hl
    refine lv_iconst (v := 1) hx hb dX7_isNeverOpen_24 (by decide) ?_
    refine lv_goto (tgt := 29) hx hb dX7_isNeverOpen_25 (by decide) ?_
    exact tk_zret hC hr rfl hlocks hK ⟨hT, hF, hM.ret (by decide), (Or.inr rfl)⟩ hw dX7_isNeverOpen_29
  have hM : TT (fun n => m_X7_isNeverOpen n 39 a1.toInt 1 (sI w0)) (fun n => m_X7_isNeverOpen n 39 a1.toInt 1 (sI w0)) := TT.rf
  refine lv_aload_n hx hb dX7_isNeverOpen_0 rfl (lv_at hl 0 rfl) ?_
  refine tk_getO hC hK hw hT hinX7 kC_at39 (by decide) rfl 4 (by decide) (List.mem_cons_of_mem _ uw_2_21) rfl rfl dX7_isNeverOpen_1 ?_
  refine lv_iconst (v := 2) hx hb dX7_isNeverOpen_4 (by decide) ?_
  refine lv_iload_n hx hb dX7_isNeverOpen_5 rfl (lv_at hl 1 rfl) ?_
  refine lv_imul hx hb dX7_isNeverOpen_6 ?_
  refine lv_topi (fun x4 ex4 => ?_)
  have ezx4 := ex4
  have ex4 : x4.toInt = (2 : Int) * a1.toInt := by rw [ex4]; exact wk_mul (show (-2147483648) ≤ (2 : Int) * a1.toInt by omega) (show (2 : Int) * a1.toInt ≤ 2147483647 by omega)
  replace hM := hM.lt ex4.symm
  refine lv_iload_n hx hb dX7_isNeverOpen_7 rfl (lv_at hl 2 rfl) ?_
  refine lv_iadd hx hb dX7_isNeverOpen_8 ?_
  refine lv_topi (fun x5 ex5 => ?_)
  have ezx5 := ex5
  have ex5 : x5.toInt = x4.toInt + (1 : Int) := by rw [ex5]; exact wk_add (show (-2147483648) ≤ x4.toInt + (1 : Int) by omega) (show x4.toInt + (1 : Int) ≤ 2147483647 by omega)
  replace hM := hM.lt ex5.symm
  refine tk_iald hC hK hw hT kC_at44 rfl rfl (show 0 ≤ x5.toInt by omega) (show x5.toInt < 26 by omega) dX7_isNeverOpen_9 (fun x6 c7 rx6 tx6 => ?_)
  have hox6 := c7
  replace hM := hM.rd (sI_at hox6)
  refine lv_if_eq (tgt := 24) hx hb dX7_isNeverOpen_10 (by decide) (fun c8 => ?_) (fun c8 => ?_)
  · have c8 : x6.toInt = (0 : Int) := wk_eq.mp c8
    replace hM := hM.pos c8
    exact J24  s.heap locs ls w0 (show 0 ≤ a1.toInt from ra1) (show a1.toInt ≤ 12 from ta1)  hw hT hF hM (lv_sub hl [0, 1, 2] rfl)
  · have c8 : ¬ x6.toInt = (0 : Int) := wk_eqF c8
    replace hM := hM.neg c8
    refine lv_aload_n hx hb dX7_isNeverOpen_13 rfl (lv_at hl 0 rfl) ?_
    refine tk_getO hC hK hw hT hinX7 kC_at39 (by decide) rfl 3 (by decide) (List.mem_cons_of_mem _ uw_2_20) rfl rfl dX7_isNeverOpen_14 ?_
    refine lv_iload_n hx hb dX7_isNeverOpen_17 rfl (lv_at hl 1 rfl) ?_
    refine tk_iald hC hK hw hT kC_at43 rfl rfl (show 0 ≤ a1.toInt from ra1) (show a1.toInt < 13 from Int.lt_of_le_of_lt ta1 (by decide)) dX7_isNeverOpen_18 (fun x9 c10 rx9 tx9 => ?_)
    have hox9 := c10
    replace hM := hM.rd (sI_at hox9)
    refine lv_ldc (v := 16777215) hx hb hC.2.2.2.1 (hC.2.2.2.2 _ (List.mem_cons_of_mem _ uw_31_17)) dX7_isNeverOpen_19 ?_
    refine lv_icmp_ne (tgt := 28) hx hb dX7_isNeverOpen_21 (by decide) (fun c11 => ?_) (fun c11 => ?_)
    · have c11 : ¬ x9.toInt = (16777215 : Int) := wk_eqF c11
      replace hM := hM.pos c11
      refine lv_iconst (v := 0) hx hb dX7_isNeverOpen_28 (by decide) ?_
      exact tk_zret hC hr rfl hlocks hK ⟨hT, hF, hM.ret (by decide), (Or.inl rfl)⟩ hw dX7_isNeverOpen_29
    · have c11 : x9.toInt = (16777215 : Int) := wk_eq.mp c11
      replace hM := hM.neg (fun q => q c11)
      exact J24  s.heap locs ls w0 (show 0 ≤ a1.toInt from ra1) (show a1.toInt ≤ 12 from ta1)  hw hT hF hM (lv_sub hl [0, 1, 2] rfl)
abbrev Pz_X7_firstOpen_2 (ad : Nat → Nat) (cy : Nat → ClassId) (B : Int) (qr : Nat) (s1 : Int) (a1 : Int32) (a3 : Int32) (a4 : Int32) (w0 : va_W) : Int32 → va_W → Prop := fun r u => TW ksC ad cy B qr s1 u ∧ FE ksC ([] : List (Nat × Nat × Nat)) w0 u ∧ Ev (fun n => m_X7_firstOpen n 39 a1.toInt 1 a3.toInt a4.toInt (sI w0)) (r.toInt, sI u) ∧ ((0 ≤ r.toInt ∧ r.toInt ≤ 101999) ∨ (r = (-1)))
set_option maxHeartbeats 4000000 in
set_option maxRecDepth 100000 in
theorem kz_X7_firstOpen_2 (l : Launch) (adK adV : Nat → Nat) (dC : Nat → ClassId) (dI : Nat → Nat → Nat) (cy : Nat → ClassId) (ad : Nat → Nat) (B : Int) (hB0 : 2147483648 ≤ B) (hB1 : B ≤ 1152921504606846976) (qr : Nat) (s1 : Int)  (a1 : Int32) (ra1 : 0 ≤ a1.toInt) (ta1 : a1.toInt ≤ 12) (a3 : Int32) (ra3 : (-1) ≤ a3.toInt) (ta3 : a3.toInt ≤ 102119) (a4 : Int32) (ra4 : 1991 ≤ a4.toInt) (ta4 : a4.toInt ≤ 101999) (w0 : va_W) (sz : Nat) (hT : TW ksC ad cy B qr s1 w0)  : Met l yX7_firstOpen (wu yX7_firstOpen cX7_firstOpen 10 (some .int)) ({ frames := 2, cells := 0, slots := 0, locals := 39 }) (va_Pc [.ref (ad 39), .int a1, .int 1, .int a3, .int a4] (wpreS adK adV dC dI cy sz w0)) (va_Qi (Pz_X7_firstOpen_2 ad cy B qr s1 a1 a3 a4 w0) (fun u : va_W => wpost dC dI cy (va_A w0 sz) u) (va_A w0 sz)) 0 0 (va_A w0 sz) := by
  refine Met.ofW (cc := cX7_firstOpen) (maxL := 10) (ret := (some .int)) (by decide) rfl ?_
  intro p e s m args below meth c s₁ Bk hml hv
  obtain ⟨rfl, ⟨hsz, hP, hK, hD0⟩, hE, hSR⟩ := hv
  have hx := Bk.exec
  have hb := Bk.bytes
  have hr := Bk.returns
  have hlocks := Bk.notSynchronized
  have hC : CallFix p m c cX7_firstOpen 10 s _ (wu yX7_firstOpen cX7_firstOpen 10 (some .int)) RX7 := ⟨hx, hb, hml, findClass_of_methodNamed Bk.named, atoms_spec (ws := (wu yX7_firstOpen cX7_firstOpen 10 (some .int))) Bk.pre⟩
  subst hsz
  have hD := hD0.self (sz := s.heap.size)
  generalize hAe : va_A w0 s.heap.size = A at hD hE ⊢
  have hA : ∀ q : Nat, s.heap.size ≤ q → A q := fun q h => by rw [← hAe]; exact Or.inr h
  have hw : Wd dC dI A s.heap s.heap [] w0 := ⟨hP, hD, va_S.rf⟩
  have hF : FE ksC ([] : List (Nat × Nat × Nat)) w0 w0 := FE.rf
  have hl := lv_entry ([.ref (ad 39), .int a1, .int 1, .int a3, .int a4]) (n := 10) (Nat.le_of_ble_eq_true rfl)
  rw [lg_entry_eq]
  generalize (lg_sl ([.ref (ad 39), .int a1, .int 1, .int a3, .int a4]) ++ List.replicate (10 - (lg_sl ([.ref (ad 39), .int a1, .int 1, .int a3, .int a4])).length) Slot.unset).toArray = ls at hl ⊢
  have hl : lv_has ls 10 [(0, .ref (ad 39)), (1, .int a1), (2, .int 1), (3, .int a3), (4, .int a4)] := hl
  generalize hloc : ([] : List Loc) = locs at hw ⊢
  have L25 : ∀ (n25 : Nat) (v25_5 : Int32) (v25_6 : Int32) (H : Heap) (locs : List Loc) (ls : Array Slot) (w1 : va_W), 0 ≤ a1.toInt → a1.toInt ≤ 12 → (-1) ≤ a3.toInt → a3.toInt ≤ 102119 → 1991 ≤ a4.toInt → a4.toInt ≤ 101999 → 0 ≤ v25_6.toInt → v25_6.toInt ≤ 4254 → (4254 - v25_6.toInt).toNat < n25 → Wd dC dI A s.heap H locs w1 → TW ksC ad cy B qr s1 w1 → FE ksC ([] : List (Nat × Nat × Nat)) w0 w1 → TT (fun n => m_X7_firstOpen n 39 a1.toInt 1 a3.toInt a4.toInt (sI w0)) (fun n => j_X7_firstOpen 39 n 25 [a1.toInt, (1 : Int), a4.toInt, v25_5.toInt, v25_6.toInt] (sI w1)) → lv_has ls 10 [(0, .ref (ad 39)), (1, .int a1), (2, .int 1), (3, .int a3), (4, .int a4), (5, .int v25_5), (6, .int v25_6)] → W p l e ({ frames := 2, cells := 0, slots := 0, locals := 39 }) s m (List.toArray [.ref (ad 39), .int a1, .int 1, .int a3, .int a4]) below meth c H locs 0 0 (MQ below (va_Qi (Pz_X7_firstOpen_2 ad cy B qr s1 a1 a3 a4 w0) (fun u : va_W => wpost dC dI cy A u) A) (List.toArray [.ref (ad 39), .int a1, .int 1, .int a3, .int a4]) s 0 0 A) (F0 m 25 ls []) := by
    intro n25
    induction n25 with
    | zero => intro v25_5 v25_6 H locs ls w1 r2 t3 r4 t5 r6 t7 r8 t9 hm25 hw hT hF hM hl; omega
    | succ n25 ih25 =>
      intro v25_5 v25_6 H locs ls w1 r2 t3 r4 t5 r6 t7 r8 t9 hm25 hw hT hF hM hl
      have J108 : ∀ (v108_7 : Int32) (v108_8 : Int32) (H : Heap) (locs : List Loc) (ls : Array Slot) (w10 : va_W), 0 ≤ a1.toInt → a1.toInt ≤ 12 → (-1) ≤ a3.toInt → a3.toInt ≤ 102119 → 1991 ≤ a4.toInt → a4.toInt ≤ 101999 → 0 ≤ v25_6.toInt → v25_6.toInt ≤ 4249 → 0 ≤ v108_7.toInt → v108_7.toInt ≤ 16777215 → 0 ≤ v108_8.toInt → v108_8.toInt ≤ 24 → Wd dC dI A s.heap H locs w10 → TW ksC ad cy B qr s1 w10 → FE ksC ([] : List (Nat × Nat × Nat)) w0 w10 → TT (fun n => m_X7_firstOpen n 39 a1.toInt 1 a3.toInt a4.toInt (sI w0)) (fun n => b_X7_firstOpen_108 (j_X7_firstOpen 39 n) n 39 (a1.toInt) (1 : Int) (a4.toInt) (-1 : Int) (v25_6.toInt) (sI w10)) → lv_has ls 10 [(0, .ref (ad 39)), (1, .int a1), (2, .int 1), (3, .int a3), (4, .int a4), (5, .int (-1)), (6, .int v25_6), (7, .int v108_7), (8, .int v108_8)] → W p l e ({ frames := 2, cells := 0, slots := 0, locals := 39 }) s m (List.toArray [.ref (ad 39), .int a1, .int 1, .int a3, .int a4]) below meth c H locs 0 0 (MQ below (va_Qi (Pz_X7_firstOpen_2 ad cy B qr s1 a1 a3 a4 w0) (fun u : va_W => wpost dC dI cy A u) A) (List.toArray [.ref (ad 39), .int a1, .int 1, .int a3, .int a4]) s 0 0 A) (F0 m 108 ls []) := by
        intro v108_7 v108_8 H locs ls w10 r11 t12 r13 t14 r15 t16 r17 t18 r19 t20 r21 t22 hw hT hF hM hl
        obtain ⟨x23, ex23⟩ : ∃ y : Int32, y = v25_6 + Int32.ofInt 1 := ⟨_, rfl⟩
        have erx23 := ex23
        refine lv_iinc (v := x23) (lv' := [(6, .int x23), (0, .ref (ad 39)), (1, .int a1), (2, .int 1), (3, .int a3), (4, .int a4), (5, .int (-1)), (7, .int v108_7), (8, .int v108_8)]) hx hb dX7_firstOpen_108 hl (k := 6) rfl ex23.symm (by decide) rfl (fun ls hl => ?_)
        have ex23 : x23.toInt = v25_6.toInt + 1 := by rw [ex23]; exact wk_add (y := 1) (show -2147483648 ≤ v25_6.toInt + 1 by omega) (show v25_6.toInt + 1 ≤ 2147483647 by omega)
        replace hM := hM.lt ex23.symm
        refine lv_goto (tgt := 25) hx hb dX7_firstOpen_111 (by decide) ?_
        exact ih25 (-1) x23 H locs ls w10 (show 0 ≤ a1.toInt from r11) (show a1.toInt ≤ 12 from t12) (show (-1) ≤ a3.toInt from r13) (show a3.toInt ≤ 102119 from t14) (show 1991 ≤ a4.toInt from r15) (show a4.toInt ≤ 101999 from t16) (show 0 ≤ x23.toInt by omega) (show x23.toInt ≤ 4254 by omega) (show (4254 - x23.toInt).toNat < n25 by omega) hw hT hF hM (lv_sub hl [1, 2, 3, 4, 5, 6, 0] rfl)
      have L56 : ∀ (n56 : Nat) (v56_7 : Int32) (v56_8 : Int32) (H : Heap) (locs : List Loc) (ls : Array Slot) (w24 : va_W), 0 ≤ a1.toInt → a1.toInt ≤ 12 → (-1) ≤ a3.toInt → a3.toInt ≤ 102119 → 1991 ≤ a4.toInt → a4.toInt ≤ 101999 → 0 ≤ v25_6.toInt → v25_6.toInt ≤ 4249 → 0 ≤ v56_7.toInt → v56_7.toInt ≤ 16777215 → 0 ≤ v56_8.toInt → v56_8.toInt ≤ 24 → (24 - v56_8.toInt).toNat < n56 → Wd dC dI A s.heap H locs w24 → TW ksC ad cy B qr s1 w24 → FE ksC ([] : List (Nat × Nat × Nat)) w0 w24 → TT (fun n => m_X7_firstOpen n 39 a1.toInt 1 a3.toInt a4.toInt (sI w0)) (fun n => j_X7_firstOpen 39 n 56 [a1.toInt, (1 : Int), a4.toInt, (-1 : Int), v25_6.toInt, v56_7.toInt, v56_8.toInt] (sI w24)) → lv_has ls 10 [(0, .ref (ad 39)), (1, .int a1), (2, .int 1), (3, .int a3), (4, .int a4), (5, .int (-1)), (6, .int v25_6), (7, .int v56_7), (8, .int v56_8)] → W p l e ({ frames := 2, cells := 0, slots := 0, locals := 39 }) s m (List.toArray [.ref (ad 39), .int a1, .int 1, .int a3, .int a4]) below meth c H locs 0 0 (MQ below (va_Qi (Pz_X7_firstOpen_2 ad cy B qr s1 a1 a3 a4 w0) (fun u : va_W => wpost dC dI cy A u) A) (List.toArray [.ref (ad 39), .int a1, .int 1, .int a3, .int a4]) s 0 0 A) (F0 m 56 ls []) := by
        intro n56
        induction n56 with
        | zero => intro v56_7 v56_8 H locs ls w24 r25 t26 r27 t28 r29 t30 r31 t32 r33 t34 r35 t36 hm56 hw hT hF hM hl; omega
        | succ n56 ih56 =>
          intro v56_7 v56_8 H locs ls w24 r25 t26 r27 t28 r29 t30 r31 t32 r33 t34 r35 t36 hm56 hw hT hF hM hl
          replace hM := hM.suc (fun _ => e_X7_firstOpen_56)
          refine lv_iload hx hb dX7_firstOpen_56 (lv_at hl 7 rfl) ?_
          refine lv_if_eq (tgt := 108) hx hb dX7_firstOpen_58 (by decide) (fun c37 => ?_) (fun c37 => ?_)
          · have c37 : v56_7.toInt = (0 : Int) := wk_eq.mp c37
            replace hM := hM.pos c37
            exact J108 v56_7 v56_8 H locs ls w24 (show 0 ≤ a1.toInt from r25) (show a1.toInt ≤ 12 from t26) (show (-1) ≤ a3.toInt from r27) (show a3.toInt ≤ 102119 from t28) (show 1991 ≤ a4.toInt from r29) (show a4.toInt ≤ 101999 from t30) (show 0 ≤ v25_6.toInt from r31) (show v25_6.toInt ≤ 4249 from t32) (show 0 ≤ v56_7.toInt from r33) (show v56_7.toInt ≤ 16777215 from t34) (show 0 ≤ v56_8.toInt from r35) (show v56_8.toInt ≤ 24 from t36)  hw hT hF hM (lv_sub hl [0, 1, 2, 3, 4, 5, 6, 7, 8] rfl)
          · have c37 : ¬ v56_7.toInt = (0 : Int) := wk_eqF c37
            replace hM := hM.neg c37
            refine lv_iload hx hb dX7_firstOpen_61 (lv_at hl 8 rfl) ?_
            refine lv_bipush (v := 24) hx hb dX7_firstOpen_63 (by decide) ?_
            refine lv_icmp_ge (tgt := 108) hx hb dX7_firstOpen_65 (by decide) (fun c38 => ?_) (fun c38 => ?_)
            · have c38 : (24 : Int) ≤ v56_8.toInt := wk_le.mp c38
              replace hM := hM.pos c38
              exact J108 v56_7 v56_8 H locs ls w24 (show 0 ≤ a1.toInt from r25) (show a1.toInt ≤ 12 from t26) (show (-1) ≤ a3.toInt from r27) (show a3.toInt ≤ 102119 from t28) (show 1991 ≤ a4.toInt from r29) (show a4.toInt ≤ 101999 from t30) (show 0 ≤ v25_6.toInt from r31) (show v25_6.toInt ≤ 4249 from t32) (show 0 ≤ v56_7.toInt from r33) (show v56_7.toInt ≤ 16777215 from t34) (show 0 ≤ v56_8.toInt from r35) (show v56_8.toInt ≤ 24 from t36)  hw hT hF hM (lv_sub hl [0, 1, 2, 3, 4, 5, 6, 7, 8] rfl)
            · have c38 : v56_8.toInt < (24 : Int) := wk_leF c38
              replace hM := hM.neg (Int.not_le.mpr c38)
              refine lv_iload hx hb dX7_firstOpen_68 (lv_at hl 7 rfl) ?_
              refine lv_iload hx hb dX7_firstOpen_70 (lv_at hl 8 rfl) ?_
              refine lv_ishr hx hb dX7_firstOpen_72 ?_
              refine lv_topi (fun x39 ex39 => ?_)
              have ezx39 := ex39
              have bx39 : 0 ≤ x39.toInt ∧ x39.toInt ≤ v56_7.toInt := by rw [ex39]; exact wk_shr (by omega)
              replace hM := hM.lt (o32_e (f := fun x y => x >>> (y &&& 31)) ezx39 rfl rfl)
              refine lv_iconst (v := 1) hx hb dX7_firstOpen_73 (by decide) ?_
              refine lv_iand hx hb dX7_firstOpen_74 ?_
              refine lv_topi (fun x40 ex40 => ?_)
              have ezx40 := ex40
              have bx40 : 0 ≤ x40.toInt ∧ x40.toInt ≤ (1 : Int) := by rw [ex40]; exact wk_and (by decide)
              replace hM := hM.lt (o32_e (f := fun x y => x &&& y) ezx40 rfl (by decide))
              refine lv_if_eq (tgt := 102) hx hb dX7_firstOpen_75 (by decide) (fun c41 => ?_) (fun c41 => ?_)
              · have c41 : x40.toInt = (0 : Int) := wk_eq.mp c41
                replace hM := hM.pos c41
                obtain ⟨x42, ex42⟩ : ∃ y : Int32, y = v56_8 + Int32.ofInt 1 := ⟨_, rfl⟩
                have erx42 := ex42
                refine lv_iinc (v := x42) (lv' := [(8, .int x42), (0, .ref (ad 39)), (1, .int a1), (2, .int 1), (3, .int a3), (4, .int a4), (5, .int (-1)), (6, .int v25_6), (7, .int v56_7)]) hx hb dX7_firstOpen_102 hl (k := 8) rfl ex42.symm (by decide) rfl (fun ls hl => ?_)
                have ex42 : x42.toInt = v56_8.toInt + 1 := by rw [ex42]; exact wk_add (y := 1) (show -2147483648 ≤ v56_8.toInt + 1 by omega) (show v56_8.toInt + 1 ≤ 2147483647 by omega)
                replace hM := hM.lt ex42.symm
                refine lv_goto (tgt := 56) hx hb dX7_firstOpen_105 (by decide) ?_
                exact ih56 v56_7 x42 H locs ls w24 (show 0 ≤ a1.toInt from r25) (show a1.toInt ≤ 12 from t26) (show (-1) ≤ a3.toInt from r27) (show a3.toInt ≤ 102119 from t28) (show 1991 ≤ a4.toInt from r29) (show a4.toInt ≤ 101999 from t30) (show 0 ≤ v25_6.toInt from r31) (show v25_6.toInt ≤ 4249 from t32) (show 0 ≤ v56_7.toInt from r33) (show v56_7.toInt ≤ 16777215 from t34) (show 0 ≤ x42.toInt by omega) (show x42.toInt ≤ 24 by omega) (show (24 - x42.toInt).toNat < n56 by omega) hw hT hF hM (lv_sub hl [1, 2, 3, 4, 5, 6, 7, 8, 0] rfl)
              · have c41 : ¬ x40.toInt = (0 : Int) := wk_eqF c41
                replace hM := hM.neg c41
                refine lv_iload hx hb dX7_firstOpen_78 (lv_at hl 6 rfl) ?_
                refine lv_bipush (v := 24) hx hb dX7_firstOpen_80 (by decide) ?_
                refine lv_imul hx hb dX7_firstOpen_82 ?_
                refine lv_topi (fun x43 ex43 => ?_)
                have ezx43 := ex43
                have ex43 : x43.toInt = v25_6.toInt * (24 : Int) := by rw [ex43]; exact wk_mul (show (-2147483648) ≤ v25_6.toInt * (24 : Int) by omega) (show v25_6.toInt * (24 : Int) ≤ 2147483647 by omega)
                replace hM := hM.lt ex43.symm
                refine lv_iload hx hb dX7_firstOpen_83 (lv_at hl 8 rfl) ?_
                refine lv_iadd hx hb dX7_firstOpen_85 ?_
                refine lv_topi (fun x44 ex44 => ?_)
                have ezx44 := ex44
                have ex44 : x44.toInt = x43.toInt + v56_8.toInt := by rw [ex44]; exact wk_add (show (-2147483648) ≤ x43.toInt + v56_8.toInt by omega) (show x43.toInt + v56_8.toInt ≤ 2147483647 by omega)
                replace hM := hM.lt ex44.symm
                refine lv_istore (lv' := [(9, .int x44), (0, .ref (ad 39)), (1, .int a1), (2, .int 1), (3, .int a3), (4, .int a4), (5, .int (-1)), (6, .int v25_6), (7, .int v56_7), (8, .int v56_8)]) hx hb dX7_firstOpen_86 hl (by decide) rfl (fun ls hl => ?_)
                refine lv_iload hx hb dX7_firstOpen_88 (lv_at hl 0 rfl) ?_
                refine lv_iload hx hb dX7_firstOpen_90 (lv_at hl 5 rfl) ?_
                refine lv_icmp_gt (tgt := 100) hx hb dX7_firstOpen_92 (by decide) (fun c45 => ?_) (fun c45 => ?_)
                · have c45 : a4.toInt < x44.toInt := wk_lt.mp c45
                  replace hM := hM.pos c45
                  refine lv_iconst (v := (-1)) hx hb dX7_firstOpen_100 (by decide) ?_
                  exact tk_iret hC hr hlocks hK ⟨hT, hF, hM.ret (by decide), (Or.inr rfl)⟩ hw dX7_firstOpen_101
                · have c45 : x44.toInt ≤ a4.toInt := wk_ltF c45
                  replace hM := hM.neg (Int.not_lt.mpr c45)
                  refine lv_iload hx hb dX7_firstOpen_95 (lv_at hl 0 rfl) ?_
                  refine lv_goto (tgt := 101) hx hb dX7_firstOpen_97 (by decide) ?_
                  exact tk_iret hC hr hlocks hK ⟨hT, hF, hM.ret rfl, (Or.inl ⟨(show 0 ≤ x44.toInt by omega), (show x44.toInt ≤ 101999 by omega)⟩)⟩ hw dX7_firstOpen_101
      replace hM := hM.suc (fun _ => e_X7_firstOpen_25)
      refine lv_iload hx hb dX7_firstOpen_25 (lv_at hl 6 rfl) ?_
      refine lv_bipush (v := 24) hx hb dX7_firstOpen_27 (by decide) ?_
      refine lv_imul hx hb dX7_firstOpen_29 ?_
      refine lv_topi (fun x46 ex46 => ?_)
      have ezx46 := ex46
      have ex46 : x46.toInt = v25_6.toInt * (24 : Int) := by rw [ex46]; exact wk_mul (show (-2147483648) ≤ v25_6.toInt * (24 : Int) by omega) (show v25_6.toInt * (24 : Int) ≤ 2147483647 by omega)
      replace hM := hM.lt ex46.symm
      refine lv_iload hx hb dX7_firstOpen_30 (lv_at hl 4 rfl) ?_
      refine lv_icmp_gt (tgt := 114) hx hb dX7_firstOpen_32 (by decide) (fun c47 => ?_) (fun c47 => ?_)
      · have c47 : a4.toInt < x46.toInt := wk_lt.mp c47
        replace hM := hM.pos c47
        refine lv_iconst (v := (-1)) hx hb dX7_firstOpen_114 (by decide) ?_
        exact tk_iret hC hr hlocks hK ⟨hT, hF, hM.ret (by decide), (Or.inr rfl)⟩ hw dX7_firstOpen_115
      · have c47 : x46.toInt ≤ a4.toInt := wk_ltF c47
        replace hM := hM.neg (Int.not_lt.mpr c47)
        refine lv_aload_n hx hb dX7_firstOpen_35 rfl (lv_at hl 0 rfl) ?_
        refine lv_iload_n hx hb dX7_firstOpen_36 rfl (lv_at hl 1 rfl) ?_
        refine lv_iload_n hx hb dX7_firstOpen_37 rfl (lv_at hl 2 rfl) ?_
        refine lv_iload hx hb dX7_firstOpen_38 (lv_at hl 6 rfl) ?_
        refine lv_i2l hx hb dX7_firstOpen_40 rfl ?_
        refine lv_topl (fun x48 ex48 => ?_)
        have ex48 : x48.toInt = v25_6.toInt := by rw [ex48]; exact wk_i2l _
        have bx48 := wk_i32 v25_6
        replace hM := hM.lt ex48.symm
        refine lv_iconst (v := 1) hx hb dX7_firstOpen_41 (by decide) ?_
        refine tk_Vi hC hK hw hT hA hE hSR kC_at39 (by decide) rfl (kz_X7_openHours_2 l adK adV dC dI cy ad B (by omega) (by omega) qr s1   a1 (show 0 ≤ a1.toInt from r2) (show a1.toInt ≤ 12 from t3) x48 (show 0 ≤ x48.toInt by omega) (show x48.toInt ≤ 4249 by omega) w1 H.size hT ) (cwV 4 hC.2.2.2.2 uV_RX7_148 rfl rfl rfl (by decide +kernel) ⟨Nat.le_of_ble_eq_true rfl, Nat.le_of_ble_eq_true rfl⟩) rfl hl.1 rfl (Nat.le_of_ble_eq_true rfl) dX7_firstOpen_42 (fun r49 w51 H locs hp50 hw => ?_)
        obtain ⟨hT, k52, hv56, hg55⟩ := hp50
        have hF := hF.tr k52 (by decide)
        obtain ⟨g53, g54⟩ := hg55
        replace hM := hM.call hv56 rfl
        refine lv_iload hx hb dX7_firstOpen_45 (lv_at hl 5 rfl) ?_
        refine lv_iand hx hb dX7_firstOpen_47 ?_
        refine lv_topi (fun x57 ex57 => ?_)
        have ezx57 := ex57
        have bx57 : 0 ≤ x57.toInt ∧ x57.toInt ≤ r49.toInt := by rw [ex57]; exact wk_andC (by omega)
        replace hM := hM.lt (o32_e (f := fun x y => x &&& y) ezx57 rfl rfl)
        refine lv_istore (lv' := [(7, .int x57), (0, .ref (ad 39)), (1, .int a1), (2, .int 1), (3, .int a3), (4, .int a4), (5, .int v25_5), (6, .int v25_6)]) hx hb dX7_firstOpen_48 hl (by decide) rfl (fun ls hl => ?_)
        refine lv_iconst (v := (-1)) hx hb dX7_firstOpen_50 (by decide) ?_
        refine lv_istore (lv' := [(5, .int (-1)), (7, .int x57), (0, .ref (ad 39)), (1, .int a1), (2, .int 1), (3, .int a3), (4, .int a4), (6, .int v25_6)]) hx hb dX7_firstOpen_51 hl (by decide) rfl (fun ls hl => ?_)
        refine lv_iconst (v := 0) hx hb dX7_firstOpen_53 (by decide) ?_
        refine lv_istore (lv' := [(8, .int 0), (5, .int (-1)), (7, .int x57), (0, .ref (ad 39)), (1, .int a1), (2, .int 1), (3, .int a3), (4, .int a4), (6, .int v25_6)]) hx hb dX7_firstOpen_54 hl (by decide) rfl (fun ls hl => ?_)
        exact L56 ((24 - (0 : Int)).toNat + 1) x57 0 H locs ls w51 (show 0 ≤ a1.toInt from r2) (show a1.toInt ≤ 12 from t3) (show (-1) ≤ a3.toInt from r4) (show a3.toInt ≤ 102119 from t5) (show 1991 ≤ a4.toInt from r6) (show a4.toInt ≤ 101999 from t7) (show 0 ≤ v25_6.toInt from r8) (show v25_6.toInt ≤ 4249 by omega) (show 0 ≤ x57.toInt by omega) (show x57.toInt ≤ 16777215 by omega) (by decide) (by decide) (Nat.lt_succ_self _) hw hT hF hM (lv_sub hl [3, 4, 5, 6, 7, 1, 8, 2, 0] rfl)
  have hM : TT (fun n => m_X7_firstOpen n 39 a1.toInt 1 a3.toInt a4.toInt (sI w0)) (fun n => m_X7_firstOpen n 39 a1.toInt 1 a3.toInt a4.toInt (sI w0)) := TT.rf
  refine lv_aload_n hx hb dX7_firstOpen_0 rfl (lv_at hl 0 rfl) ?_
  refine lv_iload_n hx hb dX7_firstOpen_1 rfl (lv_at hl 1 rfl) ?_
  refine lv_iload_n hx hb dX7_firstOpen_2 rfl (lv_at hl 2 rfl) ?_
  refine tk_Vi hC hK hw hT hA hE hSR kC_at39 (by decide) rfl (kz_X7_isNeverOpen_2 l adK adV dC dI cy ad B (by omega) (by omega) qr s1   a1 (show 0 ≤ a1.toInt from ra1) (show a1.toInt ≤ 12 from ta1) w0 s.heap.size hT ) (cwV 2 hC.2.2.2.2 uV_RX7_152 rfl rfl rfl (by decide +kernel) ⟨Nat.le_of_ble_eq_true rfl, Nat.le_of_ble_eq_true rfl⟩) rfl hl.1 rfl (Nat.le_of_ble_eq_true rfl) dX7_firstOpen_3 (fun r58 w60 H locs hp59 hw => ?_)
  obtain ⟨hT, k61, hv63, hg62⟩ := hp59
  have hF := hF.tr k61 (by decide)
  rcases hg62 with rfl | rfl
  · replace hM := hM.call (r' := 0) hv63 (by decide)
    refine lv_if_eq (tgt := 11) hx hb dX7_firstOpen_6 (by decide) (fun _ => ?_) (fun c => absurd (by decide) c)
    replace hM := hM.pos (by decide)
    refine lv_iconst (v := (-1)) hx hb dX7_firstOpen_11 (by decide) ?_
    refine lv_iload_n hx hb dX7_firstOpen_12 rfl (lv_at hl 3 rfl) ?_
    refine lv_bipush (v := 24) hx hb dX7_firstOpen_13 (by decide) ?_
    refine lv_irem hx hb dX7_firstOpen_15 (by decide) ?_
    refine lv_topi (fun x64 ex64 => ?_)
    have ezx64 := ex64
    replace hM := hM.lt (o32_e (f := fun x y => x - x / y * y) ezx64 rfl (by decide))
    refine lv_ishl hx hb dX7_firstOpen_16 ?_
    refine lv_topi (fun x65 ex65 => ?_)
    have ezx65 := ex65
    replace hM := hM.lt (o32_e (f := fun x y => x <<< (y &&& 31)) ezx65 (by decide) rfl)
    refine lv_istore (lv' := [(5, .int x65), (0, .ref (ad 39)), (1, .int a1), (2, .int 1), (3, .int a3), (4, .int a4)]) hx hb dX7_firstOpen_17 hl (by decide) rfl (fun ls hl => ?_)
    refine lv_iload_n hx hb dX7_firstOpen_19 rfl (lv_at hl 4 rfl) ?_
    refine lv_bipush (v := 24) hx hb dX7_firstOpen_20 (by decide) ?_
    refine lv_idiv hx hb dX7_firstOpen_22 (by decide) ?_
    refine lv_topi (fun x66 ex66 => ?_)
    have ezx66 := ex66
    have bx66 : -(1 / (24 : Int)) ≤ x66.toInt ∧ x66.toInt ≤ 102119 / (24 : Int) := by rw [ex66]; exact wk_divB (m := 1) (n := 102119) (show 0 < (24 : Int) by decide) (by decide) (by decide) (by omega) (by omega)
    replace hM := hM.lt (o32_e (f := fun x y => x / y) ezx66 rfl (by decide))
    refine lv_istore (lv' := [(6, .int x66), (5, .int x65), (0, .ref (ad 39)), (1, .int a1), (2, .int 1), (3, .int a3), (4, .int a4)]) hx hb dX7_firstOpen_23 hl (by decide) rfl (fun ls hl => ?_)
    exact L25 ((4254 - x66.toInt).toNat + 1) x65 x66 H locs ls w60 (show 0 ≤ a1.toInt from ra1) (show a1.toInt ≤ 12 from ta1) (show (-1) ≤ a3.toInt from ra3) (show a3.toInt ≤ 102119 from ta3) (show 1991 ≤ a4.toInt from ra4) (show a4.toInt ≤ 101999 from ta4) (show 0 ≤ x66.toInt by omega) (show x66.toInt ≤ 4254 by omega) (Nat.lt_succ_self _) hw hT hF hM (lv_sub hl [2, 3, 4, 5, 6, 1, 0] rfl)
  · replace hM := hM.call (r' := 1) hv63 (by decide)
    refine lv_if_eq (tgt := 11) hx hb dX7_firstOpen_6 (by decide) (fun c => absurd c (by decide)) (fun _ => ?_)
    replace hM := hM.neg (by decide)
    refine lv_iconst (v := (-1)) hx hb dX7_firstOpen_9 (by decide) ?_
    exact tk_iret hC hr hlocks hK ⟨hT, hF, hM.ret (by decide), (Or.inr rfl)⟩ hw dX7_firstOpen_10
abbrev Pz_X4_reachBy_1 (ad : Nat → Nat) (cy : Nat → ClassId) (B : Int) (qr : Nat) (s1 : Int) (a1 : Int32) (a2 : Int32) (a3 : Int32) (w0 : va_W) : va_W → Prop := fun u => TW ksC ad cy B qr s1 u ∧ FE ksC [(48, 0, 10)] w0 u ∧ Ev (fun n => m_X4_reachBy n 155 a1.toInt a2.toInt a3.toInt (sI w0)) (0, sI u) ∧ ((True))
set_option maxHeartbeats 4000000 in
set_option maxRecDepth 100000 in
theorem kz_X4_reachBy_1 (l : Launch) (adK adV : Nat → Nat) (dC : Nat → ClassId) (dI : Nat → Nat → Nat) (cy : Nat → ClassId) (ad : Nat → Nat) (B : Int) (hB0 : 2147483648 ≤ B) (hB1 : B ≤ 1152921504606846976) (qr : Nat) (s1 : Int)  (a1 : Int32) (ra1 : 0 ≤ a1.toInt) (ta1 : a1.toInt ≤ 12) (a2 : Int32) (ra2 : 0 ≤ a2.toInt) (ta2 : a2.toInt ≤ 9) (a3 : Int32) (ra3 : 2000 ≤ a3.toInt) (ta3 : a3.toInt ≤ 101999) (w0 : va_W) (sz : Nat) (hT : TW ksC ad cy B qr s1 w0)  : Met l yX4_reachBy (wu yX4_reachBy cX4_reachBy 8 none) ({ frames := 3, cells := 0, slots := 0, locals := 68 }) (va_Pc [.ref (ad 155), .int a1, .int a2, .int a3] (wpreS adK adV dC dI cy sz w0)) (va_Qv (Pz_X4_reachBy_1 ad cy B qr s1 a1 a2 a3 w0) (fun u : va_W => wpost dC dI cy (va_A w0 sz) u) (va_A w0 sz)) 0 0 (va_A w0 sz) := by
  refine Met.ofW (cc := cX4_reachBy) (maxL := 8) (ret := none) (by decide) rfl ?_
  intro p e s m args below meth c s₁ Bk hml hv
  obtain ⟨rfl, ⟨hsz, hP, hK, hD0⟩, hE, hSR⟩ := hv
  have hx := Bk.exec
  have hb := Bk.bytes
  have hr := Bk.returns
  have hlocks := Bk.notSynchronized
  have hC : CallFix p m c cX4_reachBy 8 s _ (wu yX4_reachBy cX4_reachBy 8 none) RX4 := ⟨hx, hb, hml, findClass_of_methodNamed Bk.named, atoms_spec (ws := (wu yX4_reachBy cX4_reachBy 8 none)) Bk.pre⟩
  subst hsz
  have hD := hD0.self (sz := s.heap.size)
  generalize hAe : va_A w0 s.heap.size = A at hD hE ⊢
  have hA : ∀ q : Nat, s.heap.size ≤ q → A q := fun q h => by rw [← hAe]; exact Or.inr h
  have hw : Wd dC dI A s.heap s.heap [] w0 := ⟨hP, hD, va_S.rf⟩
  have hF : FE ksC [(48, 0, 10)] w0 w0 := FE.rf
  have hl := lv_entry ([.ref (ad 155), .int a1, .int a2, .int a3]) (n := 8) (Nat.le_of_ble_eq_true rfl)
  rw [lg_entry_eq]
  generalize (lg_sl ([.ref (ad 155), .int a1, .int a2, .int a3]) ++ List.replicate (8 - (lg_sl ([.ref (ad 155), .int a1, .int a2, .int a3])).length) Slot.unset).toArray = ls at hl ⊢
  have hl : lv_has ls 8 [(0, .ref (ad 155)), (1, .int a1), (2, .int a2), (3, .int a3)] := hl
  generalize hloc : ([] : List Loc) = locs at hw ⊢
  have hinX4 : ∀ w ∈ u_ws RX4 TX4 4, w ∈ (wu yX4_reachBy cX4_reachBy 8 none) := fun _ h => List.mem_cons_of_mem _ (up_80 h)
  have hinX7 : ∀ w ∈ u_ws RX7 TX7 12, w ∈ (wu yX4_reachBy cX4_reachBy 8 none) := fun _ h => List.mem_cons_of_mem _ (up_73 h)
  have J35 : ∀ (v35_4 : Int32) (H : Heap) (locs : List Loc) (ls : Array Slot) (w1 : va_W), 0 ≤ a1.toInt → a1.toInt ≤ 12 → 0 ≤ a2.toInt → a2.toInt ≤ 9 → 2000 ≤ a3.toInt → a3.toInt ≤ 101999 → (-1) ≤ v35_4.toInt → v35_4.toInt ≤ 1 → Wd dC dI A s.heap H locs w1 → TW ksC ad cy B qr s1 w1 → FE ksC [(48, 0, 10)] w0 w1 → TT (fun n => m_X4_reachBy n 155 a1.toInt a2.toInt a3.toInt (sI w0)) (fun n => b_X4_reachBy_35 n 155 (sI w1)) → lv_has ls 8 [(0, .ref (ad 155)), (1, .int a1), (2, .int a2), (3, .int a3), (4, .int v35_4)] → W p l e ({ frames := 3, cells := 0, slots := 0, locals := 68 }) s m (List.toArray [.ref (ad 155), .int a1, .int a2, .int a3]) below meth c H locs 0 0 (MQ below (va_Qv (Pz_X4_reachBy_1 ad cy B qr s1 a1 a2 a3 w0) (fun u : va_W => wpost dC dI cy A u) A) (List.toArray [.ref (ad 155), .int a1, .int a2, .int a3]) s 0 0 A) (F0 m 35 ls []) := by
    intro v35_4 H locs ls w1 r2 t3 r4 t5 r6 t7 r8 t9 hw hT hF hM hl
    exact tk_vret hC hr hlocks hK ⟨hT, hF, hM.ret rfl, trivial⟩ hw dX4_reachBy_35
  have J125 : ∀ (v125_4 : Int32) (v125_5 : Int32) (v125_6 : Int32) (v125_7 : Int32) (H : Heap) (locs : List Loc) (ls : Array Slot) (w10 : va_W), 0 ≤ a1.toInt → a1.toInt ≤ 12 → 0 ≤ a2.toInt → a2.toInt ≤ 9 → 2000 ≤ a3.toInt → a3.toInt ≤ 101999 → 0 ≤ v125_4.toInt → v125_4.toInt ≤ 1 → 0 ≤ v125_5.toInt → v125_5.toInt ≤ 9 → 0 ≤ v125_6.toInt → v125_6.toInt ≤ 9 → (-1) ≤ v125_7.toInt → v125_7.toInt ≤ 101999 → Wd dC dI A s.heap H locs w10 → TW ksC ad cy B qr s1 w10 → FE ksC [(48, 0, 10)] w0 w10 → TT (fun n => m_X4_reachBy n 155 a1.toInt a2.toInt a3.toInt (sI w0)) (fun n => b_X4_reachBy_125 n 155 (sI w10)) → lv_has ls 8 [(0, .ref (ad 155)), (1, .int a1), (2, .int a2), (3, .int a3), (4, .int v125_4), (5, .int v125_5), (6, .int v125_6), (7, .int v125_7)] → W p l e ({ frames := 3, cells := 0, slots := 0, locals := 68 }) s m (List.toArray [.ref (ad 155), .int a1, .int a2, .int a3]) below meth c H locs 0 0 (MQ below (va_Qv (Pz_X4_reachBy_1 ad cy B qr s1 a1 a2 a3 w0) (fun u : va_W => wpost dC dI cy A u) A) (List.toArray [.ref (ad 155), .int a1, .int a2, .int a3]) s 0 0 A) (F0 m 125 ls []) := by
    intro v125_4 v125_5 v125_6 v125_7 H locs ls w10 r11 t12 r13 t14 r15 t16 r17 t18 r19 t20 r21 t22 r23 t24 hw hT hF hM hl
    exact tk_vret hC hr hlocks hK ⟨hT, hF, hM.ret rfl, trivial⟩ hw dX4_reachBy_125
  have J113 : ∀ (v113_4 : Int32) (v113_5 : Int32) (v113_6 : Int32) (v113_7 : Int32) (H : Heap) (locs : List Loc) (ls : Array Slot) (w25 : va_W), 0 ≤ a1.toInt → a1.toInt ≤ 12 → 0 ≤ a2.toInt → a2.toInt ≤ 9 → 2000 ≤ a3.toInt → a3.toInt ≤ 101999 → 0 ≤ v113_4.toInt → v113_4.toInt ≤ 1 → 0 ≤ v113_5.toInt → v113_5.toInt ≤ 9 → 0 ≤ v113_6.toInt → v113_6.toInt ≤ 9 → 0 ≤ v113_7.toInt → v113_7.toInt ≤ 101999 → Wd dC dI A s.heap H locs w25 → TW ksC ad cy B qr s1 w25 → FE ksC [(48, 0, 10)] w0 w25 → TT (fun n => m_X4_reachBy n 155 a1.toInt a2.toInt a3.toInt (sI w0)) (fun n => b_X4_reachBy_113 n 155 (v113_5.toInt) (v113_6.toInt) (v113_7.toInt) (sI w25)) → lv_has ls 8 [(0, .ref (ad 155)), (1, .int a1), (2, .int a2), (3, .int a3), (4, .int v113_4), (5, .int v113_5), (6, .int v113_6), (7, .int v113_7)] → W p l e ({ frames := 3, cells := 0, slots := 0, locals := 68 }) s m (List.toArray [.ref (ad 155), .int a1, .int a2, .int a3]) below meth c H locs 0 0 (MQ below (va_Qv (Pz_X4_reachBy_1 ad cy B qr s1 a1 a2 a3 w0) (fun u : va_W => wpost dC dI cy A u) A) (List.toArray [.ref (ad 155), .int a1, .int a2, .int a3]) s 0 0 A) (F0 m 113 ls []) := by
    intro v113_4 v113_5 v113_6 v113_7 H locs ls w25 r26 t27 r28 t29 r30 t31 r32 t33 r34 t35 r36 t37 r38 t39 hw hT hF hM hl
    refine lv_aload_n hx hb dX4_reachBy_113 rfl (lv_at hl 0 rfl) ?_
    refine tk_getA hC hK hw hT hinX4 kC_at155 (by decide) rfl 2 (by decide) (List.mem_cons_of_mem _ uw_5_19) rfl rfl dX4_reachBy_114 ?_
    refine lv_iload hx hb dX4_reachBy_117 (lv_at hl 5 rfl) ?_
    refine lv_iload hx hb dX4_reachBy_119 (lv_at hl 7 rfl) ?_
    refine lv_iload hx hb dX4_reachBy_121 (lv_at hl 6 rfl) ?_
    refine lv_iadd hx hb dX4_reachBy_123 ?_
    refine lv_topi (fun x40 ex40 => ?_)
    have ezx40 := ex40
    have ex40 : x40.toInt = v113_7.toInt + v113_6.toInt := by rw [ex40]; exact wk_add (show (-2147483648) ≤ v113_7.toInt + v113_6.toInt by omega) (show v113_7.toInt + v113_6.toInt ≤ 2147483647 by omega)
    replace hM := hM.lt ex40.symm
    refine tk_iast hC hK hw hT kC_at156 (by decide) rfl rfl (show 0 ≤ v113_5.toInt from r34) (show v113_5.toInt < 10 from Int.lt_of_le_of_lt t35 (by decide)) (show (-1) ≤ x40.toInt by omega) (show x40.toInt ≤ 102119 by omega) dX4_reachBy_124 (fun H locs w41 hw hT k43 c42 => ?_)
    replace hM := hM.wr (sI_up k43 c42)
    have hF := hF.put kC_at156 (inE_of (a := 0) (b := 10) (by decide) (show 0 ≤ v113_5.toInt.toNat by omega) (show v113_5.toInt.toNat ≤ 10 by omega)) k43
    exact J125 v113_4 v113_5 v113_6 v113_7 H locs ls w41 (show 0 ≤ a1.toInt from r26) (show a1.toInt ≤ 12 from t27) (show 0 ≤ a2.toInt from r28) (show a2.toInt ≤ 9 from t29) (show 2000 ≤ a3.toInt from r30) (show a3.toInt ≤ 101999 from t31) (show 0 ≤ v113_4.toInt from r32) (show v113_4.toInt ≤ 1 from t33) (show 0 ≤ v113_5.toInt from r34) (show v113_5.toInt ≤ 9 from t35) (show 0 ≤ v113_6.toInt from r36) (show v113_6.toInt ≤ 9 from t37) (show (-1) ≤ v113_7.toInt from Int.le_trans (by decide) r38) (show v113_7.toInt ≤ 101999 from t39)  hw hT hF hM (lv_sub hl [0, 1, 2, 3, 4, 5, 6, 7] rfl)
  have hM : TT (fun n => m_X4_reachBy n 155 a1.toInt a2.toInt a3.toInt (sI w0)) (fun n => m_X4_reachBy n 155 a1.toInt a2.toInt a3.toInt (sI w0)) := TT.rf
  refine lv_aload_n hx hb dX4_reachBy_0 rfl (lv_at hl 0 rfl) ?_
  refine tk_getA hC hK hw hT hinX4 kC_at155 (by decide) rfl 1 (by decide) (List.mem_cons_of_mem _ uw_5_23) rfl rfl dX4_reachBy_1 ?_
  refine lv_iload_n hx hb dX4_reachBy_4 rfl (lv_at hl 1 rfl) ?_
  refine lv_iload_n hx hb dX4_reachBy_5 rfl (lv_at hl 2 rfl) ?_
  refine tk_Vi hC hK hw hT hA hE hSR kC_at39 (by decide) rfl (kz_X7_sideOf_3 l adK adV dC dI cy ad B (by omega) (by omega) qr s1   a1 (show 0 ≤ a1.toInt from ra1) (show a1.toInt ≤ 12 from ta1) a2 (show 0 ≤ a2.toInt from ra2) (show a2.toInt ≤ 9 from ta2) w0 s.heap.size hT ) (cwV 2 hC.2.2.2.2 uV_RX4_47 rfl rfl rfl (by decide +kernel) ⟨Nat.le_of_ble_eq_true rfl, Nat.le_of_ble_eq_true rfl⟩) rfl hl.1 rfl (Nat.le_of_ble_eq_true rfl) dX4_reachBy_6 (fun r44 w46 H locs hp45 hw => ?_)
  obtain ⟨hT, k47, hv51, hg50⟩ := hp45
  have hF := hF.tr k47 (by decide)
  rcases hg50 with rfl | ⟨rfl, c48⟩ | ⟨rfl, c49⟩
  · replace hM := hM.call (r' := (-1)) hv51 (by decide)
    refine lv_istore (lv' := [(4, .int (-1)), (0, .ref (ad 155)), (1, .int a1), (2, .int a2), (3, .int a3)]) hx hb dX4_reachBy_9 hl (by decide) rfl (fun ls hl => ?_)
    refine lv_iload hx hb dX4_reachBy_11 (lv_at hl 0 rfl) ?_
    refine lv_iconst (v := (-1)) hx hb dX4_reachBy_13 (by decide) ?_
    refine lv_icmp_eq (tgt := 35) hx hb dX4_reachBy_14 (by decide) (fun _ => ?_) (fun c => absurd (by decide) c)
    replace hM := hM.pos (by decide)
    exact J35 (-1) H locs ls w46 (show 0 ≤ a1.toInt from ra1) (show a1.toInt ≤ 12 from ta1) (show 0 ≤ a2.toInt from ra2) (show a2.toInt ≤ 9 from ta2) (show 2000 ≤ a3.toInt from ra3) (show a3.toInt ≤ 101999 from ta3) (by decide) (by decide)  hw hT hF hM (lv_sub hl [1, 2, 3, 4, 0] rfl)
  · replace hM := hM.call (r' := 0) hv51 (by decide)
    refine lv_istore (lv' := [(4, .int 0), (0, .ref (ad 155)), (1, .int a1), (2, .int a2), (3, .int a3)]) hx hb dX4_reachBy_9 hl (by decide) rfl (fun ls hl => ?_)
    refine lv_iload hx hb dX4_reachBy_11 (lv_at hl 0 rfl) ?_
    refine lv_iconst (v := (-1)) hx hb dX4_reachBy_13 (by decide) ?_
    refine lv_icmp_eq (tgt := 35) hx hb dX4_reachBy_14 (by decide) (fun c => absurd c (by decide)) (fun _ => ?_)
    replace hM := hM.neg (by decide)
    refine lv_aload_n hx hb dX4_reachBy_17 rfl (lv_at hl 1 rfl) ?_
    refine tk_getA hC hK hw hT hinX4 kC_at155 (by decide) rfl 3 (by decide) (List.mem_cons_of_mem _ uw_5_20) rfl rfl dX4_reachBy_18 ?_
    refine lv_aload_n hx hb dX4_reachBy_21 rfl (lv_at hl 1 rfl) ?_
    refine tk_getA hC hK hw hT hinX4 kC_at155 (by decide) rfl 1 (by decide) (List.mem_cons_of_mem _ uw_5_23) rfl rfl dX4_reachBy_22 ?_
    refine lv_iload_n hx hb dX4_reachBy_25 rfl (lv_at hl 2 rfl) ?_
    refine lv_iload hx hb dX4_reachBy_26 (lv_at hl 0 rfl) ?_
    refine tk_Vi hC hK hw hT hA hE hSR kC_at39 (by decide) rfl (kz_X7_cornerAcross_1 l adK adV dC dI cy ad B (by omega) (by omega) qr s1   a1 (show 0 ≤ a1.toInt from ra1) (show a1.toInt ≤ 12 from ta1) w46 H.size hT ) (cwV 2 hC.2.2.2.2 uV_RX4_51 rfl rfl rfl (by decide +kernel) ⟨Nat.le_of_ble_eq_true rfl, Nat.le_of_ble_eq_true rfl⟩) rfl hl.1 rfl (Nat.le_of_ble_eq_true rfl) dX4_reachBy_28 (fun r52 w54 H locs hp53 hw => ?_)
    obtain ⟨hT, k55, hv59, hg58⟩ := hp53
    have hF := hF.tr k55 (by decide)
    have c60 := k55.gi kC_at40 rfl c48
    obtain ⟨g56, g57⟩ := hg58
    replace hM := hM.call hv59 rfl
    refine tk_zald hC hK hw hT kC_at157 rfl rfl (show 0 ≤ r52.toInt by omega) (show r52.toInt < 10 by omega) dX4_reachBy_31 (fun x61 c62 rx61 tx61 => ?_)
    have hox61 := c62
    replace hM := hM.rd (sI_at hox61)
    refine lv_if_eq (tgt := 36) hx hb dX4_reachBy_32 (by decide) (fun c63 => ?_) (fun c63 => ?_)
    · have c63 : x61.toInt = (0 : Int) := wk_eq.mp c63
      replace hM := hM.pos c63
      refine lv_aload_n hx hb dX4_reachBy_36 rfl (lv_at hl 1 rfl) ?_
      refine tk_getA hC hK hw hT hinX4 kC_at155 (by decide) rfl 1 (by decide) (List.mem_cons_of_mem _ uw_5_23) rfl rfl dX4_reachBy_37 ?_
      refine lv_iload_n hx hb dX4_reachBy_40 rfl (lv_at hl 2 rfl) ?_
      refine lv_iload hx hb dX4_reachBy_41 (lv_at hl 0 rfl) ?_
      refine tk_Vi hC hK hw hT hA hE hSR kC_at39 (by decide) rfl (kz_X7_cornerAcross_1 l adK adV dC dI cy ad B (by omega) (by omega) qr s1   a1 (show 0 ≤ a1.toInt from ra1) (show a1.toInt ≤ 12 from ta1) w54 H.size hT ) (cwV 2 hC.2.2.2.2 uV_RX4_51 rfl rfl rfl (by decide +kernel) ⟨Nat.le_of_ble_eq_true rfl, Nat.le_of_ble_eq_true rfl⟩) rfl hl.1 rfl (Nat.le_of_ble_eq_true rfl) dX4_reachBy_43 (fun r64 w66 H locs hp65 hw => ?_)
      obtain ⟨hT, k67, hv71, hg70⟩ := hp65
      have hF := hF.tr k67 (by decide)
      have c72 := k67.gi kC_at40 rfl c60
      obtain ⟨g68, g69⟩ := hg70
      replace hM := hM.call hv71 rfl
      refine lv_istore (lv' := [(5, .int r64), (4, .int 0), (0, .ref (ad 155)), (1, .int a1), (2, .int a2), (3, .int a3)]) hx hb dX4_reachBy_46 hl (by decide) rfl (fun ls hl => ?_)
      refine lv_aload_n hx hb dX4_reachBy_48 rfl (lv_at hl 2 rfl) ?_
      refine tk_getA hC hK hw hT hinX4 kC_at155 (by decide) rfl 1 (by decide) (List.mem_cons_of_mem _ uw_5_23) rfl rfl dX4_reachBy_49 ?_
      refine tk_getO hC hK hw hT hinX7 kC_at39 (by decide) rfl 1 (by decide) (List.mem_cons_of_mem _ uw_50_7) rfl rfl dX4_reachBy_52 ?_
      refine lv_iload_n hx hb dX4_reachBy_55 rfl (lv_at hl 3 rfl) ?_
      refine tk_iald hC hK hw hT kC_at41 rfl rfl (show 0 ≤ a1.toInt from ra1) (show a1.toInt < 13 from Int.lt_of_le_of_lt ta1 (by decide)) dX4_reachBy_56 (fun x73 c74 rx73 tx73 => ?_)
      have hox73 := c74
      replace hM := hM.rd (sI_at hox73)
      refine lv_istore (lv' := [(6, .int x73), (5, .int r64), (4, .int 0), (0, .ref (ad 155)), (1, .int a1), (2, .int a2), (3, .int a3)]) hx hb dX4_reachBy_57 hl (by decide) rfl (fun ls hl => ?_)
      refine lv_aload_n hx hb dX4_reachBy_59 rfl (lv_at hl 3 rfl) ?_
      refine tk_getA hC hK hw hT hinX4 kC_at155 (by decide) rfl 1 (by decide) (List.mem_cons_of_mem _ uw_5_23) rfl rfl dX4_reachBy_60 ?_
      refine lv_iload_n hx hb dX4_reachBy_63 rfl (lv_at hl 4 rfl) ?_
      refine lv_iload hx hb dX4_reachBy_64 (lv_at hl 2 rfl) ?_
      refine lv_aload_n hx hb dX4_reachBy_66 rfl (lv_at hl 3 rfl) ?_
      refine tk_getA hC hK hw hT hinX4 kC_at155 (by decide) rfl 2 (by decide) (List.mem_cons_of_mem _ uw_5_19) rfl rfl dX4_reachBy_67 ?_
      refine lv_iload_n hx hb dX4_reachBy_70 rfl (lv_at hl 5 rfl) ?_
      refine tk_iald hC hK hw hT kC_at156 rfl rfl (show 0 ≤ a2.toInt from ra2) (show a2.toInt < 10 from Int.lt_of_le_of_lt ta2 (by decide)) dX4_reachBy_71 (fun x75 c76 rx75 tx75 => ?_)
      have hox75 := c76
      replace hM := hM.rd (sI_at hox75)
      refine lv_iload_n hx hb dX4_reachBy_72 rfl (lv_at hl 6 rfl) ?_
      refine lv_iload hx hb dX4_reachBy_73 (lv_at hl 0 rfl) ?_
      refine lv_isub hx hb dX4_reachBy_75 ?_
      refine lv_topi (fun x77 ex77 => ?_)
      have ezx77 := ex77
      have ex77 : x77.toInt = a3.toInt - x73.toInt := by rw [ex77]; exact wk_sub (show (-2147483648) ≤ a3.toInt - x73.toInt by omega) (show a3.toInt - x73.toInt ≤ 2147483647 by omega)
      replace hM := hM.lt ex77.symm
      refine tk_Vi hC hK hw hT hA hE hSR kC_at39 (by decide) rfl (kz_X7_firstOpen_1 l adK adV dC dI cy ad B (by omega) (by omega) qr s1   a1 (show 0 ≤ a1.toInt from ra1) (show a1.toInt ≤ 12 from ta1) x75 (show (-1) ≤ x75.toInt from rx75) (show x75.toInt ≤ 102119 from tx75) x77 (show 1991 ≤ x77.toInt by omega) (show x77.toInt ≤ 101999 by omega) w66 H.size hT ) (cwV 4 hC.2.2.2.2 uV_RX4_57 rfl rfl rfl (by decide +kernel) ⟨Nat.le_of_ble_eq_true rfl, Nat.le_of_ble_eq_true rfl⟩) rfl hl.1 rfl (Nat.le_of_ble_eq_true rfl) dX4_reachBy_76 (fun r78 w80 H locs hp79 hw => ?_)
      obtain ⟨hT, k81, hv85, hg84⟩ := hp79
      have hF := hF.tr k81 (by decide)
      have c86 := k81.gi kC_at40 rfl c72
      rcases hg84 with ⟨g82, g83⟩ | rfl
      · replace hM := hM.call hv85 rfl
        refine lv_istore (lv' := [(7, .int r78), (6, .int x73), (5, .int r64), (4, .int 0), (0, .ref (ad 155)), (1, .int a1), (2, .int a2), (3, .int a3)]) hx hb dX4_reachBy_79 hl (by decide) rfl (fun ls hl => ?_)
        refine lv_iload hx hb dX4_reachBy_81 (lv_at hl 0 rfl) ?_
        refine lv_iconst (v := (-1)) hx hb dX4_reachBy_83 (by decide) ?_
        refine lv_icmp_eq (tgt := 125) hx hb dX4_reachBy_84 (by decide) (fun c => absurd c (fun h => absurd (show r78.toInt = (-1 : Int) from wk_eq.mp h) (by omega))) (fun _ => ?_)
        replace hM := hM.neg (by omega)
        refine lv_aload_n hx hb dX4_reachBy_87 rfl (lv_at hl 4 rfl) ?_
        refine tk_getA hC hK hw hT hinX4 kC_at155 (by decide) rfl 2 (by decide) (List.mem_cons_of_mem _ uw_5_19) rfl rfl dX4_reachBy_88 ?_
        refine lv_iload hx hb dX4_reachBy_91 (lv_at hl 2 rfl) ?_
        refine tk_iald hC hK hw hT kC_at156 rfl rfl (show 0 ≤ r64.toInt by omega) (show r64.toInt < 10 by omega) dX4_reachBy_93 (fun x87 c88 rx87 tx87 => ?_)
        have hox87 := c88
        replace hM := hM.rd (sI_at hox87)
        refine lv_iconst (v := (-1)) hx hb dX4_reachBy_94 (by decide) ?_
        refine lv_icmp_eq (tgt := 113) hx hb dX4_reachBy_95 (by decide) (fun c89 => ?_) (fun c89 => ?_)
        · have c89 : x87.toInt = (-1 : Int) := wk_eq.mp c89
          replace hM := hM.pos c89
          exact J113 0 r64 x73 r78 H locs ls w80 (show 0 ≤ a1.toInt from ra1) (show a1.toInt ≤ 12 from ta1) (show 0 ≤ a2.toInt from ra2) (show a2.toInt ≤ 9 from ta2) (show 2000 ≤ a3.toInt from ra3) (show a3.toInt ≤ 101999 from ta3) (by decide) (by decide) (show 0 ≤ r64.toInt by omega) (show r64.toInt ≤ 9 by omega) (show 0 ≤ x73.toInt from rx73) (show x73.toInt ≤ 9 from tx73) (show 0 ≤ r78.toInt by omega) (show r78.toInt ≤ 101999 by omega)  hw hT hF hM (lv_sub hl [4, 5, 6, 7, 3, 2, 1, 0] rfl)
        · have c89 : ¬ x87.toInt = (-1 : Int) := wk_eqF c89
          replace hM := hM.neg c89
          refine lv_iload hx hb dX4_reachBy_98 (lv_at hl 0 rfl) ?_
          refine lv_iload hx hb dX4_reachBy_100 (lv_at hl 1 rfl) ?_
          refine lv_iadd hx hb dX4_reachBy_102 ?_
          refine lv_topi (fun x90 ex90 => ?_)
          have ezx90 := ex90
          have ex90 : x90.toInt = r78.toInt + x73.toInt := by rw [ex90]; exact wk_add (show (-2147483648) ≤ r78.toInt + x73.toInt by omega) (show r78.toInt + x73.toInt ≤ 2147483647 by omega)
          replace hM := hM.lt ex90.symm
          refine lv_aload_n hx hb dX4_reachBy_103 rfl (lv_at hl 4 rfl) ?_
          refine tk_getA hC hK hw hT hinX4 kC_at155 (by decide) rfl 2 (by decide) (List.mem_cons_of_mem _ uw_5_19) rfl rfl dX4_reachBy_104 ?_
          refine lv_iload hx hb dX4_reachBy_107 (lv_at hl 2 rfl) ?_
          refine tk_iald hC hK hw hT kC_at156 rfl rfl (show 0 ≤ r64.toInt by omega) (show r64.toInt < 10 by omega) dX4_reachBy_109 (fun x91 c92 rx91 tx91 => ?_)
          have hox91 := c92
          replace hM := hM.rd (sI_at hox91)
          refine lv_icmp_ge (tgt := 125) hx hb dX4_reachBy_110 (by decide) (fun c93 => ?_) (fun c93 => ?_)
          · have c93 : x91.toInt ≤ x90.toInt := wk_le.mp c93
            replace hM := hM.pos c93
            exact J125 0 r64 x73 r78 H locs ls w80 (show 0 ≤ a1.toInt from ra1) (show a1.toInt ≤ 12 from ta1) (show 0 ≤ a2.toInt from ra2) (show a2.toInt ≤ 9 from ta2) (show 2000 ≤ a3.toInt from ra3) (show a3.toInt ≤ 101999 from ta3) (by decide) (by decide) (show 0 ≤ r64.toInt by omega) (show r64.toInt ≤ 9 by omega) (show 0 ≤ x73.toInt from rx73) (show x73.toInt ≤ 9 from tx73) (show (-1) ≤ r78.toInt by omega) (show r78.toInt ≤ 101999 by omega)  hw hT hF hM (lv_sub hl [4, 5, 6, 7, 3, 2, 1, 0] rfl)
          · have c93 : x90.toInt < x91.toInt := wk_leF c93
            replace hM := hM.neg (Int.not_le.mpr c93)
            exact J113 0 r64 x73 r78 H locs ls w80 (show 0 ≤ a1.toInt from ra1) (show a1.toInt ≤ 12 from ta1) (show 0 ≤ a2.toInt from ra2) (show a2.toInt ≤ 9 from ta2) (show 2000 ≤ a3.toInt from ra3) (show a3.toInt ≤ 101999 from ta3) (by decide) (by decide) (show 0 ≤ r64.toInt by omega) (show r64.toInt ≤ 9 by omega) (show 0 ≤ x73.toInt from rx73) (show x73.toInt ≤ 9 from tx73) (show 0 ≤ r78.toInt by omega) (show r78.toInt ≤ 101999 by omega)  hw hT hF hM (lv_sub hl [4, 5, 6, 7, 3, 2, 1, 0] rfl)
      · replace hM := hM.call (r' := (-1)) hv85 (by decide)
        refine lv_istore (lv' := [(7, .int (-1)), (6, .int x73), (5, .int r64), (4, .int 0), (0, .ref (ad 155)), (1, .int a1), (2, .int a2), (3, .int a3)]) hx hb dX4_reachBy_79 hl (by decide) rfl (fun ls hl => ?_)
        refine lv_iload hx hb dX4_reachBy_81 (lv_at hl 0 rfl) ?_
        refine lv_iconst (v := (-1)) hx hb dX4_reachBy_83 (by decide) ?_
        refine lv_icmp_eq (tgt := 125) hx hb dX4_reachBy_84 (by decide) (fun _ => ?_) (fun c => absurd (by decide) c)
        replace hM := hM.pos (by decide)
        exact J125 0 r64 x73 (-1) H locs ls w80 (show 0 ≤ a1.toInt from ra1) (show a1.toInt ≤ 12 from ta1) (show 0 ≤ a2.toInt from ra2) (show a2.toInt ≤ 9 from ta2) (show 2000 ≤ a3.toInt from ra3) (show a3.toInt ≤ 101999 from ta3) (by decide) (by decide) (show 0 ≤ r64.toInt by omega) (show r64.toInt ≤ 9 by omega) (show 0 ≤ x73.toInt from rx73) (show x73.toInt ≤ 9 from tx73) (by decide) (by decide)  hw hT hF hM (lv_sub hl [4, 5, 6, 7, 3, 2, 1, 0] rfl)
    · have c63 : ¬ x61.toInt = (0 : Int) := wk_eqF c63
      replace hM := hM.neg c63
      exact J35 0 H locs ls w54 (show 0 ≤ a1.toInt from ra1) (show a1.toInt ≤ 12 from ta1) (show 0 ≤ a2.toInt from ra2) (show a2.toInt ≤ 9 from ta2) (show 2000 ≤ a3.toInt from ra3) (show a3.toInt ≤ 101999 from ta3) (by decide) (by decide)  hw hT hF hM (lv_sub hl [1, 2, 3, 4, 0] rfl)
  · replace hM := hM.call (r' := 1) hv51 (by decide)
    refine lv_istore (lv' := [(4, .int 1), (0, .ref (ad 155)), (1, .int a1), (2, .int a2), (3, .int a3)]) hx hb dX4_reachBy_9 hl (by decide) rfl (fun ls hl => ?_)
    refine lv_iload hx hb dX4_reachBy_11 (lv_at hl 0 rfl) ?_
    refine lv_iconst (v := (-1)) hx hb dX4_reachBy_13 (by decide) ?_
    refine lv_icmp_eq (tgt := 35) hx hb dX4_reachBy_14 (by decide) (fun c => absurd c (by decide)) (fun _ => ?_)
    replace hM := hM.neg (by decide)
    refine lv_aload_n hx hb dX4_reachBy_17 rfl (lv_at hl 1 rfl) ?_
    refine tk_getA hC hK hw hT hinX4 kC_at155 (by decide) rfl 3 (by decide) (List.mem_cons_of_mem _ uw_5_20) rfl rfl dX4_reachBy_18 ?_
    refine lv_aload_n hx hb dX4_reachBy_21 rfl (lv_at hl 1 rfl) ?_
    refine tk_getA hC hK hw hT hinX4 kC_at155 (by decide) rfl 1 (by decide) (List.mem_cons_of_mem _ uw_5_23) rfl rfl dX4_reachBy_22 ?_
    refine lv_iload_n hx hb dX4_reachBy_25 rfl (lv_at hl 2 rfl) ?_
    refine lv_iload hx hb dX4_reachBy_26 (lv_at hl 0 rfl) ?_
    refine tk_Vi hC hK hw hT hA hE hSR kC_at39 (by decide) rfl (kz_X7_cornerAcross_2 l adK adV dC dI cy ad B (by omega) (by omega) qr s1   a1 (show 0 ≤ a1.toInt from ra1) (show a1.toInt ≤ 12 from ta1) w46 H.size hT ) (cwV 2 hC.2.2.2.2 uV_RX4_51 rfl rfl rfl (by decide +kernel) ⟨Nat.le_of_ble_eq_true rfl, Nat.le_of_ble_eq_true rfl⟩) rfl hl.1 rfl (Nat.le_of_ble_eq_true rfl) dX4_reachBy_28 (fun r94 w96 H locs hp95 hw => ?_)
    obtain ⟨hT, k97, hv101, hg100⟩ := hp95
    have hF := hF.tr k97 (by decide)
    have c102 := k97.gi kC_at40 rfl c49
    obtain ⟨g98, g99⟩ := hg100
    replace hM := hM.call hv101 rfl
    refine tk_zald hC hK hw hT kC_at157 rfl rfl (show 0 ≤ r94.toInt by omega) (show r94.toInt < 10 by omega) dX4_reachBy_31 (fun x103 c104 rx103 tx103 => ?_)
    have hox103 := c104
    replace hM := hM.rd (sI_at hox103)
    refine lv_if_eq (tgt := 36) hx hb dX4_reachBy_32 (by decide) (fun c105 => ?_) (fun c105 => ?_)
    · have c105 : x103.toInt = (0 : Int) := wk_eq.mp c105
      replace hM := hM.pos c105
      refine lv_aload_n hx hb dX4_reachBy_36 rfl (lv_at hl 1 rfl) ?_
      refine tk_getA hC hK hw hT hinX4 kC_at155 (by decide) rfl 1 (by decide) (List.mem_cons_of_mem _ uw_5_23) rfl rfl dX4_reachBy_37 ?_
      refine lv_iload_n hx hb dX4_reachBy_40 rfl (lv_at hl 2 rfl) ?_
      refine lv_iload hx hb dX4_reachBy_41 (lv_at hl 0 rfl) ?_
      refine tk_Vi hC hK hw hT hA hE hSR kC_at39 (by decide) rfl (kz_X7_cornerAcross_2 l adK adV dC dI cy ad B (by omega) (by omega) qr s1   a1 (show 0 ≤ a1.toInt from ra1) (show a1.toInt ≤ 12 from ta1) w96 H.size hT ) (cwV 2 hC.2.2.2.2 uV_RX4_51 rfl rfl rfl (by decide +kernel) ⟨Nat.le_of_ble_eq_true rfl, Nat.le_of_ble_eq_true rfl⟩) rfl hl.1 rfl (Nat.le_of_ble_eq_true rfl) dX4_reachBy_43 (fun r106 w108 H locs hp107 hw => ?_)
      obtain ⟨hT, k109, hv113, hg112⟩ := hp107
      have hF := hF.tr k109 (by decide)
      have c114 := k109.gi kC_at40 rfl c102
      obtain ⟨g110, g111⟩ := hg112
      replace hM := hM.call hv113 rfl
      refine lv_istore (lv' := [(5, .int r106), (4, .int 1), (0, .ref (ad 155)), (1, .int a1), (2, .int a2), (3, .int a3)]) hx hb dX4_reachBy_46 hl (by decide) rfl (fun ls hl => ?_)
      refine lv_aload_n hx hb dX4_reachBy_48 rfl (lv_at hl 2 rfl) ?_
      refine tk_getA hC hK hw hT hinX4 kC_at155 (by decide) rfl 1 (by decide) (List.mem_cons_of_mem _ uw_5_23) rfl rfl dX4_reachBy_49 ?_
      refine tk_getO hC hK hw hT hinX7 kC_at39 (by decide) rfl 1 (by decide) (List.mem_cons_of_mem _ uw_50_7) rfl rfl dX4_reachBy_52 ?_
      refine lv_iload_n hx hb dX4_reachBy_55 rfl (lv_at hl 3 rfl) ?_
      refine tk_iald hC hK hw hT kC_at41 rfl rfl (show 0 ≤ a1.toInt from ra1) (show a1.toInt < 13 from Int.lt_of_le_of_lt ta1 (by decide)) dX4_reachBy_56 (fun x115 c116 rx115 tx115 => ?_)
      have hox115 := c116
      replace hM := hM.rd (sI_at hox115)
      refine lv_istore (lv' := [(6, .int x115), (5, .int r106), (4, .int 1), (0, .ref (ad 155)), (1, .int a1), (2, .int a2), (3, .int a3)]) hx hb dX4_reachBy_57 hl (by decide) rfl (fun ls hl => ?_)
      refine lv_aload_n hx hb dX4_reachBy_59 rfl (lv_at hl 3 rfl) ?_
      refine tk_getA hC hK hw hT hinX4 kC_at155 (by decide) rfl 1 (by decide) (List.mem_cons_of_mem _ uw_5_23) rfl rfl dX4_reachBy_60 ?_
      refine lv_iload_n hx hb dX4_reachBy_63 rfl (lv_at hl 4 rfl) ?_
      refine lv_iload hx hb dX4_reachBy_64 (lv_at hl 2 rfl) ?_
      refine lv_aload_n hx hb dX4_reachBy_66 rfl (lv_at hl 3 rfl) ?_
      refine tk_getA hC hK hw hT hinX4 kC_at155 (by decide) rfl 2 (by decide) (List.mem_cons_of_mem _ uw_5_19) rfl rfl dX4_reachBy_67 ?_
      refine lv_iload_n hx hb dX4_reachBy_70 rfl (lv_at hl 5 rfl) ?_
      refine tk_iald hC hK hw hT kC_at156 rfl rfl (show 0 ≤ a2.toInt from ra2) (show a2.toInt < 10 from Int.lt_of_le_of_lt ta2 (by decide)) dX4_reachBy_71 (fun x117 c118 rx117 tx117 => ?_)
      have hox117 := c118
      replace hM := hM.rd (sI_at hox117)
      refine lv_iload_n hx hb dX4_reachBy_72 rfl (lv_at hl 6 rfl) ?_
      refine lv_iload hx hb dX4_reachBy_73 (lv_at hl 0 rfl) ?_
      refine lv_isub hx hb dX4_reachBy_75 ?_
      refine lv_topi (fun x119 ex119 => ?_)
      have ezx119 := ex119
      have ex119 : x119.toInt = a3.toInt - x115.toInt := by rw [ex119]; exact wk_sub (show (-2147483648) ≤ a3.toInt - x115.toInt by omega) (show a3.toInt - x115.toInt ≤ 2147483647 by omega)
      replace hM := hM.lt ex119.symm
      refine tk_Vi hC hK hw hT hA hE hSR kC_at39 (by decide) rfl (kz_X7_firstOpen_2 l adK adV dC dI cy ad B (by omega) (by omega) qr s1   a1 (show 0 ≤ a1.toInt from ra1) (show a1.toInt ≤ 12 from ta1) x117 (show (-1) ≤ x117.toInt from rx117) (show x117.toInt ≤ 102119 from tx117) x119 (show 1991 ≤ x119.toInt by omega) (show x119.toInt ≤ 101999 by omega) w108 H.size hT ) (cwV 4 hC.2.2.2.2 uV_RX4_57 rfl rfl rfl (by decide +kernel) ⟨Nat.le_of_ble_eq_true rfl, Nat.le_of_ble_eq_true rfl⟩) rfl hl.1 rfl (Nat.le_of_ble_eq_true rfl) dX4_reachBy_76 (fun r120 w122 H locs hp121 hw => ?_)
      obtain ⟨hT, k123, hv127, hg126⟩ := hp121
      have hF := hF.tr k123 (by decide)
      have c128 := k123.gi kC_at40 rfl c114
      rcases hg126 with ⟨g124, g125⟩ | rfl
      · replace hM := hM.call hv127 rfl
        refine lv_istore (lv' := [(7, .int r120), (6, .int x115), (5, .int r106), (4, .int 1), (0, .ref (ad 155)), (1, .int a1), (2, .int a2), (3, .int a3)]) hx hb dX4_reachBy_79 hl (by decide) rfl (fun ls hl => ?_)
        refine lv_iload hx hb dX4_reachBy_81 (lv_at hl 0 rfl) ?_
        refine lv_iconst (v := (-1)) hx hb dX4_reachBy_83 (by decide) ?_
        refine lv_icmp_eq (tgt := 125) hx hb dX4_reachBy_84 (by decide) (fun c => absurd c (fun h => absurd (show r120.toInt = (-1 : Int) from wk_eq.mp h) (by omega))) (fun _ => ?_)
        replace hM := hM.neg (by omega)
        refine lv_aload_n hx hb dX4_reachBy_87 rfl (lv_at hl 4 rfl) ?_
        refine tk_getA hC hK hw hT hinX4 kC_at155 (by decide) rfl 2 (by decide) (List.mem_cons_of_mem _ uw_5_19) rfl rfl dX4_reachBy_88 ?_
        refine lv_iload hx hb dX4_reachBy_91 (lv_at hl 2 rfl) ?_
        refine tk_iald hC hK hw hT kC_at156 rfl rfl (show 0 ≤ r106.toInt by omega) (show r106.toInt < 10 by omega) dX4_reachBy_93 (fun x129 c130 rx129 tx129 => ?_)
        have hox129 := c130
        replace hM := hM.rd (sI_at hox129)
        refine lv_iconst (v := (-1)) hx hb dX4_reachBy_94 (by decide) ?_
        refine lv_icmp_eq (tgt := 113) hx hb dX4_reachBy_95 (by decide) (fun c131 => ?_) (fun c131 => ?_)
        · have c131 : x129.toInt = (-1 : Int) := wk_eq.mp c131
          replace hM := hM.pos c131
          exact J113 1 r106 x115 r120 H locs ls w122 (show 0 ≤ a1.toInt from ra1) (show a1.toInt ≤ 12 from ta1) (show 0 ≤ a2.toInt from ra2) (show a2.toInt ≤ 9 from ta2) (show 2000 ≤ a3.toInt from ra3) (show a3.toInt ≤ 101999 from ta3) (by decide) (by decide) (show 0 ≤ r106.toInt by omega) (show r106.toInt ≤ 9 by omega) (show 0 ≤ x115.toInt from rx115) (show x115.toInt ≤ 9 from tx115) (show 0 ≤ r120.toInt by omega) (show r120.toInt ≤ 101999 by omega)  hw hT hF hM (lv_sub hl [4, 5, 6, 7, 3, 2, 1, 0] rfl)
        · have c131 : ¬ x129.toInt = (-1 : Int) := wk_eqF c131
          replace hM := hM.neg c131
          refine lv_iload hx hb dX4_reachBy_98 (lv_at hl 0 rfl) ?_
          refine lv_iload hx hb dX4_reachBy_100 (lv_at hl 1 rfl) ?_
          refine lv_iadd hx hb dX4_reachBy_102 ?_
          refine lv_topi (fun x132 ex132 => ?_)
          have ezx132 := ex132
          have ex132 : x132.toInt = r120.toInt + x115.toInt := by rw [ex132]; exact wk_add (show (-2147483648) ≤ r120.toInt + x115.toInt by omega) (show r120.toInt + x115.toInt ≤ 2147483647 by omega)
          replace hM := hM.lt ex132.symm
          refine lv_aload_n hx hb dX4_reachBy_103 rfl (lv_at hl 4 rfl) ?_
          refine tk_getA hC hK hw hT hinX4 kC_at155 (by decide) rfl 2 (by decide) (List.mem_cons_of_mem _ uw_5_19) rfl rfl dX4_reachBy_104 ?_
          refine lv_iload hx hb dX4_reachBy_107 (lv_at hl 2 rfl) ?_
          refine tk_iald hC hK hw hT kC_at156 rfl rfl (show 0 ≤ r106.toInt by omega) (show r106.toInt < 10 by omega) dX4_reachBy_109 (fun x133 c134 rx133 tx133 => ?_)
          have hox133 := c134
          replace hM := hM.rd (sI_at hox133)
          refine lv_icmp_ge (tgt := 125) hx hb dX4_reachBy_110 (by decide) (fun c135 => ?_) (fun c135 => ?_)
          · have c135 : x133.toInt ≤ x132.toInt := wk_le.mp c135
            replace hM := hM.pos c135
            exact J125 1 r106 x115 r120 H locs ls w122 (show 0 ≤ a1.toInt from ra1) (show a1.toInt ≤ 12 from ta1) (show 0 ≤ a2.toInt from ra2) (show a2.toInt ≤ 9 from ta2) (show 2000 ≤ a3.toInt from ra3) (show a3.toInt ≤ 101999 from ta3) (by decide) (by decide) (show 0 ≤ r106.toInt by omega) (show r106.toInt ≤ 9 by omega) (show 0 ≤ x115.toInt from rx115) (show x115.toInt ≤ 9 from tx115) (show (-1) ≤ r120.toInt by omega) (show r120.toInt ≤ 101999 by omega)  hw hT hF hM (lv_sub hl [4, 5, 6, 7, 3, 2, 1, 0] rfl)
          · have c135 : x132.toInt < x133.toInt := wk_leF c135
            replace hM := hM.neg (Int.not_le.mpr c135)
            exact J113 1 r106 x115 r120 H locs ls w122 (show 0 ≤ a1.toInt from ra1) (show a1.toInt ≤ 12 from ta1) (show 0 ≤ a2.toInt from ra2) (show a2.toInt ≤ 9 from ta2) (show 2000 ≤ a3.toInt from ra3) (show a3.toInt ≤ 101999 from ta3) (by decide) (by decide) (show 0 ≤ r106.toInt by omega) (show r106.toInt ≤ 9 by omega) (show 0 ≤ x115.toInt from rx115) (show x115.toInt ≤ 9 from tx115) (show 0 ≤ r120.toInt by omega) (show r120.toInt ≤ 101999 by omega)  hw hT hF hM (lv_sub hl [4, 5, 6, 7, 3, 2, 1, 0] rfl)
      · replace hM := hM.call (r' := (-1)) hv127 (by decide)
        refine lv_istore (lv' := [(7, .int (-1)), (6, .int x115), (5, .int r106), (4, .int 1), (0, .ref (ad 155)), (1, .int a1), (2, .int a2), (3, .int a3)]) hx hb dX4_reachBy_79 hl (by decide) rfl (fun ls hl => ?_)
        refine lv_iload hx hb dX4_reachBy_81 (lv_at hl 0 rfl) ?_
        refine lv_iconst (v := (-1)) hx hb dX4_reachBy_83 (by decide) ?_
        refine lv_icmp_eq (tgt := 125) hx hb dX4_reachBy_84 (by decide) (fun _ => ?_) (fun c => absurd (by decide) c)
        replace hM := hM.pos (by decide)
        exact J125 1 r106 x115 (-1) H locs ls w122 (show 0 ≤ a1.toInt from ra1) (show a1.toInt ≤ 12 from ta1) (show 0 ≤ a2.toInt from ra2) (show a2.toInt ≤ 9 from ta2) (show 2000 ≤ a3.toInt from ra3) (show a3.toInt ≤ 101999 from ta3) (by decide) (by decide) (show 0 ≤ r106.toInt by omega) (show r106.toInt ≤ 9 by omega) (show 0 ≤ x115.toInt from rx115) (show x115.toInt ≤ 9 from tx115) (by decide) (by decide)  hw hT hF hM (lv_sub hl [4, 5, 6, 7, 3, 2, 1, 0] rfl)
    · have c105 : ¬ x103.toInt = (0 : Int) := wk_eqF c105
      replace hM := hM.neg c105
      exact J35 1 H locs ls w96 (show 0 ≤ a1.toInt from ra1) (show a1.toInt ≤ 12 from ta1) (show 0 ≤ a2.toInt from ra2) (show a2.toInt ≤ 9 from ta2) (show 2000 ≤ a3.toInt from ra3) (show a3.toInt ≤ 101999 from ta3) (by decide) (by decide)  hw hT hF hM (lv_sub hl [1, 2, 3, 4, 0] rfl)
abbrev Pz_X4_earliestUnsettled_1 (ad : Nat → Nat) (cy : Nat → ClassId) (B : Int) (qr : Nat) (s1 : Int)  (w0 : va_W) : Int32 → va_W → Prop := fun r u => TW ksC ad cy B qr s1 u ∧ FE ksC ([] : List (Nat × Nat × Nat)) w0 u ∧ Ev (fun n => m_X4_earliestUnsettled n 155 (sI w0)) (r.toInt, sI u) ∧ (((-1) ≤ r.toInt ∧ r.toInt ≤ 9))
set_option maxHeartbeats 4000000 in
set_option maxRecDepth 100000 in
theorem kz_X4_earliestUnsettled_1 (l : Launch) (adK adV : Nat → Nat) (dC : Nat → ClassId) (dI : Nat → Nat → Nat) (cy : Nat → ClassId) (ad : Nat → Nat) (B : Int) (hB0 : 2147483648 ≤ B) (hB1 : B ≤ 1152921504606846976) (qr : Nat) (s1 : Int)   (w0 : va_W) (sz : Nat) (hT : TW ksC ad cy B qr s1 w0)  : Met l yX4_earliestUnsettled (wu yX4_earliestUnsettled cX4_earliestUnsettled 3 (some .int)) ({ frames := 1, cells := 0, slots := 0, locals := 12 }) (va_Pc [.ref (ad 155)] (wpreS adK adV dC dI cy sz w0)) (va_Qi (Pz_X4_earliestUnsettled_1 ad cy B qr s1  w0) (fun u : va_W => wpost dC dI cy (va_A w0 sz) u) (va_A w0 sz)) 0 0 (va_A w0 sz) := by
  refine Met.ofW (cc := cX4_earliestUnsettled) (maxL := 3) (ret := (some .int)) (by decide) rfl ?_
  intro p e s m args below meth c s₁ Bk hml hv
  obtain ⟨rfl, ⟨hsz, hP, hK, hD0⟩, hE, hSR⟩ := hv
  have hx := Bk.exec
  have hb := Bk.bytes
  have hr := Bk.returns
  have hlocks := Bk.notSynchronized
  have hC : CallFix p m c cX4_earliestUnsettled 3 s _ (wu yX4_earliestUnsettled cX4_earliestUnsettled 3 (some .int)) RX4 := ⟨hx, hb, hml, findClass_of_methodNamed Bk.named, atoms_spec (ws := (wu yX4_earliestUnsettled cX4_earliestUnsettled 3 (some .int))) Bk.pre⟩
  subst hsz
  have hD := hD0.self (sz := s.heap.size)
  generalize hAe : va_A w0 s.heap.size = A at hD hE ⊢
  have hA : ∀ q : Nat, s.heap.size ≤ q → A q := fun q h => by rw [← hAe]; exact Or.inr h
  have hw : Wd dC dI A s.heap s.heap [] w0 := ⟨hP, hD, va_S.rf⟩
  have hF : FE ksC ([] : List (Nat × Nat × Nat)) w0 w0 := FE.rf
  have hl := lv_entry ([.ref (ad 155)]) (n := 3) (Nat.le_of_ble_eq_true rfl)
  rw [lg_entry_eq]
  generalize (lg_sl ([.ref (ad 155)]) ++ List.replicate (3 - (lg_sl ([.ref (ad 155)])).length) Slot.unset).toArray = ls at hl ⊢
  have hl : lv_has ls 3 [(0, .ref (ad 155))] := hl
  generalize hloc : ([] : List Loc) = locs at hw ⊢
  have hinX4 : ∀ w ∈ u_ws RX4 TX4 4, w ∈ (wu yX4_earliestUnsettled cX4_earliestUnsettled 3 (some .int)) := fun _ h => List.mem_cons_of_mem _ (up_80 h)
  have hinX7 : ∀ w ∈ u_ws RX7 TX7 12, w ∈ (wu yX4_earliestUnsettled cX4_earliestUnsettled 3 (some .int)) := fun _ h => List.mem_cons_of_mem _ (up_73 h)
  have L4 : ∀ (n4 : Nat) (v4_1 : Int32) (v4_2 : Int32) (H : Heap) (locs : List Loc) (ls : Array Slot) (w1 : va_W), (-1) ≤ v4_1.toInt → v4_1.toInt ≤ 9 → 0 ≤ v4_2.toInt → v4_2.toInt ≤ 10 → (10 - v4_2.toInt).toNat < n4 → Wd dC dI A s.heap H locs w1 → TW ksC ad cy B qr s1 w1 → FE ksC ([] : List (Nat × Nat × Nat)) w0 w1 → TT (fun n => m_X4_earliestUnsettled n 155 (sI w0)) (fun n => j_X4_earliestUnsettled 155 n 4 [v4_1.toInt, v4_2.toInt] (sI w1)) → lv_has ls 3 [(0, .ref (ad 155)), (1, .int v4_1), (2, .int v4_2)] → W p l e ({ frames := 1, cells := 0, slots := 0, locals := 12 }) s m (List.toArray [.ref (ad 155)]) below meth c H locs 0 0 (MQ below (va_Qi (Pz_X4_earliestUnsettled_1 ad cy B qr s1  w0) (fun u : va_W => wpost dC dI cy A u) A) (List.toArray [.ref (ad 155)]) s 0 0 A) (F0 m 4 ls []) := by
    intro n4
    induction n4 with
    | zero => intro v4_1 v4_2 H locs ls w1 r2 t3 r4 t5 hm4 hw hT hF hM hl; omega
    | succ n4 ih4 =>
      intro v4_1 v4_2 H locs ls w1 r2 t3 r4 t5 hm4 hw hT hF hM hl
      have J56 : ∀ (v56_1 : Int32) (f56_39_8 : Int32) (H : Heap) (locs : List Loc) (ls : Array Slot) (w6 : va_W), (-1) ≤ v56_1.toInt → v56_1.toInt ≤ 9 → 0 ≤ v4_2.toInt → v4_2.toInt ≤ 9 → 1 ≤ f56_39_8.toInt → f56_39_8.toInt ≤ 10 → Wd dC dI A s.heap H locs w6 → TW ksC ad cy B qr s1 w6 → FE ksC ([] : List (Nat × Nat × Nat)) w0 w6 → gi w6 39 8 = f56_39_8 → TT (fun n => m_X4_earliestUnsettled n 155 (sI w0)) (fun n => b_X4_earliestUnsettled_56 (j_X4_earliestUnsettled 155 n) n 155 (v56_1.toInt) (v4_2.toInt) (sI w6)) → lv_has ls 3 [(0, .ref (ad 155)), (1, .int v56_1), (2, .int v4_2)] → W p l e ({ frames := 1, cells := 0, slots := 0, locals := 12 }) s m (List.toArray [.ref (ad 155)]) below meth c H locs 0 0 (MQ below (va_Qi (Pz_X4_earliestUnsettled_1 ad cy B qr s1  w0) (fun u : va_W => wpost dC dI cy A u) A) (List.toArray [.ref (ad 155)]) s 0 0 A) (F0 m 56 ls []) := by
        intro v56_1 f56_39_8 H locs ls w6 r7 t8 r9 t10 r11 t12 hw hT hF c13 hM hl
        obtain ⟨x14, ex14⟩ : ∃ y : Int32, y = v4_2 + Int32.ofInt 1 := ⟨_, rfl⟩
        have erx14 := ex14
        refine lv_iinc (v := x14) (lv' := [(2, .int x14), (0, .ref (ad 155)), (1, .int v56_1)]) hx hb dX4_earliestUnsettled_56 hl (k := 2) rfl ex14.symm (by decide) rfl (fun ls hl => ?_)
        have ex14 : x14.toInt = v4_2.toInt + 1 := by rw [ex14]; exact wk_add (y := 1) (show -2147483648 ≤ v4_2.toInt + 1 by omega) (show v4_2.toInt + 1 ≤ 2147483647 by omega)
        replace hM := hM.lt ex14.symm
        refine lv_goto (tgt := 4) hx hb dX4_earliestUnsettled_59 (by decide) ?_
        exact ih4 v56_1 x14 H locs ls w6 (show (-1) ≤ v56_1.toInt from r7) (show v56_1.toInt ≤ 9 from t8) (show 0 ≤ x14.toInt by omega) (show x14.toInt ≤ 10 by omega) (show (10 - x14.toInt).toNat < n4 by omega) hw hT hF hM (lv_sub hl [1, 2, 0] rfl)
      have J54 : ∀ (f54_39_8 : Int32) (H : Heap) (locs : List Loc) (ls : Array Slot) (w15 : va_W), (-1) ≤ v4_1.toInt → v4_1.toInt ≤ 9 → 0 ≤ v4_2.toInt → v4_2.toInt ≤ 9 → 1 ≤ f54_39_8.toInt → f54_39_8.toInt ≤ 10 → Wd dC dI A s.heap H locs w15 → TW ksC ad cy B qr s1 w15 → FE ksC ([] : List (Nat × Nat × Nat)) w0 w15 → gi w15 39 8 = f54_39_8 → TT (fun n => m_X4_earliestUnsettled n 155 (sI w0)) (fun n => b_X4_earliestUnsettled_54 (j_X4_earliestUnsettled 155 n) n 155 (v4_2.toInt) (sI w15)) → lv_has ls 3 [(0, .ref (ad 155)), (1, .int v4_1), (2, .int v4_2)] → W p l e ({ frames := 1, cells := 0, slots := 0, locals := 12 }) s m (List.toArray [.ref (ad 155)]) below meth c H locs 0 0 (MQ below (va_Qi (Pz_X4_earliestUnsettled_1 ad cy B qr s1  w0) (fun u : va_W => wpost dC dI cy A u) A) (List.toArray [.ref (ad 155)]) s 0 0 A) (F0 m 54 ls []) := by
        intro f54_39_8 H locs ls w15 r16 t17 r18 t19 r20 t21 hw hT hF c22 hM hl
        have hM : TT (fun n => m_X4_earliestUnsettled n 155 (sI w0)) (fun n => b_X4_earliestUnsettled_56 (j_X4_earliestUnsettled 155 n) n 155 (v4_2.toInt) (v4_2.toInt) (sI w15)) := hM
        refine lv_iload_n hx hb dX4_earliestUnsettled_54 rfl (lv_at hl 2 rfl) ?_
        refine lv_istore_n (lv' := [(1, .int v4_2), (0, .ref (ad 155)), (2, .int v4_2)]) hx hb dX4_earliestUnsettled_55 rfl hl (by decide) rfl (fun ls hl => ?_)
        exact J56 v4_2 f54_39_8 H locs ls w15 (show (-1) ≤ v4_2.toInt from Int.le_trans (by decide) r18) (show v4_2.toInt ≤ 9 from t19) (show 0 ≤ v4_2.toInt from r18) (show v4_2.toInt ≤ 9 from t19) (show 1 ≤ f54_39_8.toInt from r20) (show f54_39_8.toInt ≤ 10 from t21)  hw hT hF c22 hM (lv_sub hl [1, 0, 2] rfl)
      replace hM := hM.suc (fun _ => e_X4_earliestUnsettled_4)
      refine lv_iload_n hx hb dX4_earliestUnsettled_4 rfl (lv_at hl 2 rfl) ?_
      refine lv_aload_n hx hb dX4_earliestUnsettled_5 rfl (lv_at hl 0 rfl) ?_
      refine tk_getA hC hK hw hT hinX4 kC_at155 (by decide) rfl 1 (by decide) (List.mem_cons_of_mem _ uw_5_23) rfl rfl dX4_earliestUnsettled_6 ?_
      refine tk_geti hC hK hw hT hinX7 kC_at39 (by decide) rfl 8 (by decide) (List.mem_cons_of_mem _ uw_49_18) rfl rfl dX4_earliestUnsettled_9 (fun x23 c24 rx23 tx23 => ?_)
      replace hM := hM.rd (sI_at c24)
      refine lv_icmp_ge (tgt := 62) hx hb dX4_earliestUnsettled_12 (by decide) (fun c25 => ?_) (fun c25 => ?_)
      · have c25 : x23.toInt ≤ v4_2.toInt := wk_le.mp c25
        replace hM := hM.pos c25
        refine lv_iload_n hx hb dX4_earliestUnsettled_62 rfl (lv_at hl 1 rfl) ?_
        exact tk_iret hC hr hlocks hK ⟨hT, hF, hM.ret rfl, ⟨(show (-1) ≤ v4_1.toInt from r2), (show v4_1.toInt ≤ 9 from t3)⟩⟩ hw dX4_earliestUnsettled_63
      · have c25 : v4_2.toInt < x23.toInt := wk_leF c25
        replace hM := hM.neg (Int.not_le.mpr c25)
        refine lv_aload_n hx hb dX4_earliestUnsettled_15 rfl (lv_at hl 0 rfl) ?_
        refine tk_getA hC hK hw hT hinX4 kC_at155 (by decide) rfl 3 (by decide) (List.mem_cons_of_mem _ uw_5_20) rfl rfl dX4_earliestUnsettled_16 ?_
        refine lv_iload_n hx hb dX4_earliestUnsettled_19 rfl (lv_at hl 2 rfl) ?_
        refine tk_zald hC hK hw hT kC_at157 rfl rfl (show 0 ≤ v4_2.toInt from r4) (show v4_2.toInt < 10 by omega) dX4_earliestUnsettled_20 (fun x26 c27 rx26 tx26 => ?_)
        have hox26 := c27
        replace hM := hM.rd (sI_at hox26)
        refine lv_if_ne (tgt := 56) hx hb dX4_earliestUnsettled_21 (by decide) (fun c28 => ?_) (fun c28 => ?_)
        · have c28 : ¬ x26.toInt = (0 : Int) := wk_eqF c28
          replace hM := hM.pos c28
          exact J56 v4_1 x23 H locs ls w1 (show (-1) ≤ v4_1.toInt from r2) (show v4_1.toInt ≤ 9 from t3) (show 0 ≤ v4_2.toInt from r4) (show v4_2.toInt ≤ 9 by omega) (show 1 ≤ x23.toInt by omega) (show x23.toInt ≤ 10 from tx23)  hw hT hF c24 hM (lv_sub hl [0, 1, 2] rfl)
        · have c28 : x26.toInt = (0 : Int) := wk_eq.mp c28
          replace hM := hM.neg (fun q => q c28)
          refine lv_aload_n hx hb dX4_earliestUnsettled_24 rfl (lv_at hl 0 rfl) ?_
          refine tk_getA hC hK hw hT hinX4 kC_at155 (by decide) rfl 2 (by decide) (List.mem_cons_of_mem _ uw_5_19) rfl rfl dX4_earliestUnsettled_25 ?_
          refine lv_iload_n hx hb dX4_earliestUnsettled_28 rfl (lv_at hl 2 rfl) ?_
          refine tk_iald hC hK hw hT kC_at156 rfl rfl (show 0 ≤ v4_2.toInt from r4) (show v4_2.toInt < 10 by omega) dX4_earliestUnsettled_29 (fun x29 c30 rx29 tx29 => ?_)
          have hox29 := c30
          replace hM := hM.rd (sI_at hox29)
          refine lv_iconst (v := (-1)) hx hb dX4_earliestUnsettled_30 (by decide) ?_
          refine lv_icmp_eq (tgt := 56) hx hb dX4_earliestUnsettled_31 (by decide) (fun c31 => ?_) (fun c31 => ?_)
          · have c31 : x29.toInt = (-1 : Int) := wk_eq.mp c31
            replace hM := hM.pos c31
            exact J56 v4_1 x23 H locs ls w1 (show (-1) ≤ v4_1.toInt from r2) (show v4_1.toInt ≤ 9 from t3) (show 0 ≤ v4_2.toInt from r4) (show v4_2.toInt ≤ 9 by omega) (show 1 ≤ x23.toInt by omega) (show x23.toInt ≤ 10 from tx23)  hw hT hF c24 hM (lv_sub hl [0, 1, 2] rfl)
          · have c31 : ¬ x29.toInt = (-1 : Int) := wk_eqF c31
            replace hM := hM.neg c31
            refine lv_iload_n hx hb dX4_earliestUnsettled_34 rfl (lv_at hl 1 rfl) ?_
            refine lv_iconst (v := (-1)) hx hb dX4_earliestUnsettled_35 (by decide) ?_
            refine lv_icmp_eq (tgt := 54) hx hb dX4_earliestUnsettled_36 (by decide) (fun c32 => ?_) (fun c32 => ?_)
            · have c32 : v4_1.toInt = (-1 : Int) := wk_eq.mp c32
              replace hM := hM.pos c32
              exact J54 x23 H locs ls w1 (show (-1) ≤ v4_1.toInt from r2) (show v4_1.toInt ≤ 9 from t3) (show 0 ≤ v4_2.toInt from r4) (show v4_2.toInt ≤ 9 by omega) (show 1 ≤ x23.toInt by omega) (show x23.toInt ≤ 10 from tx23)  hw hT hF c24 hM (lv_sub hl [0, 1, 2] rfl)
            · have c32 : ¬ v4_1.toInt = (-1 : Int) := wk_eqF c32
              replace hM := hM.neg c32
              refine lv_aload_n hx hb dX4_earliestUnsettled_39 rfl (lv_at hl 0 rfl) ?_
              refine tk_getA hC hK hw hT hinX4 kC_at155 (by decide) rfl 2 (by decide) (List.mem_cons_of_mem _ uw_5_19) rfl rfl dX4_earliestUnsettled_40 ?_
              refine lv_iload_n hx hb dX4_earliestUnsettled_43 rfl (lv_at hl 2 rfl) ?_
              refine tk_iald hC hK hw hT kC_at156 rfl rfl (show 0 ≤ v4_2.toInt from r4) (show v4_2.toInt < 10 by omega) dX4_earliestUnsettled_44 (fun x33 c34 rx33 tx33 => ?_)
              have hox33 := c34
              replace hM := hM.rd (sI_at hox33)
              refine lv_aload_n hx hb dX4_earliestUnsettled_45 rfl (lv_at hl 0 rfl) ?_
              refine tk_getA hC hK hw hT hinX4 kC_at155 (by decide) rfl 2 (by decide) (List.mem_cons_of_mem _ uw_5_19) rfl rfl dX4_earliestUnsettled_46 ?_
              refine lv_iload_n hx hb dX4_earliestUnsettled_49 rfl (lv_at hl 1 rfl) ?_
              refine tk_iald hC hK hw hT kC_at156 rfl rfl (show 0 ≤ v4_1.toInt by omega) (show v4_1.toInt < 10 from Int.lt_of_le_of_lt t3 (by decide)) dX4_earliestUnsettled_50 (fun x35 c36 rx35 tx35 => ?_)
              have hox35 := c36
              replace hM := hM.rd (sI_at hox35)
              refine lv_icmp_ge (tgt := 56) hx hb dX4_earliestUnsettled_51 (by decide) (fun c37 => ?_) (fun c37 => ?_)
              · have c37 : x35.toInt ≤ x33.toInt := wk_le.mp c37
                replace hM := hM.pos c37
                exact J56 v4_1 x23 H locs ls w1 (show (-1) ≤ v4_1.toInt from r2) (show v4_1.toInt ≤ 9 from t3) (show 0 ≤ v4_2.toInt from r4) (show v4_2.toInt ≤ 9 by omega) (show 1 ≤ x23.toInt by omega) (show x23.toInt ≤ 10 from tx23)  hw hT hF c24 hM (lv_sub hl [0, 1, 2] rfl)
              · have c37 : x33.toInt < x35.toInt := wk_leF c37
                replace hM := hM.neg (Int.not_le.mpr c37)
                exact J54 x23 H locs ls w1 (show (-1) ≤ v4_1.toInt from r2) (show v4_1.toInt ≤ 9 from t3) (show 0 ≤ v4_2.toInt from r4) (show v4_2.toInt ≤ 9 by omega) (show 1 ≤ x23.toInt by omega) (show x23.toInt ≤ 10 from tx23)  hw hT hF c24 hM (lv_sub hl [0, 1, 2] rfl)
  have hM : TT (fun n => m_X4_earliestUnsettled n 155 (sI w0)) (fun n => m_X4_earliestUnsettled n 155 (sI w0)) := TT.rf
  refine lv_iconst (v := (-1)) hx hb dX4_earliestUnsettled_0 (by decide) ?_
  refine lv_istore_n (lv' := [(1, .int (-1)), (0, .ref (ad 155))]) hx hb dX4_earliestUnsettled_1 rfl hl (by decide) rfl (fun ls hl => ?_)
  refine lv_iconst (v := 0) hx hb dX4_earliestUnsettled_2 (by decide) ?_
  refine lv_istore_n (lv' := [(2, .int 0), (1, .int (-1)), (0, .ref (ad 155))]) hx hb dX4_earliestUnsettled_3 rfl hl (by decide) rfl (fun ls hl => ?_)
  exact L4 ((10 - (0 : Int)).toNat + 1) (-1) 0 s.heap locs ls w0 (by decide) (by decide) (by decide) (by decide) (Nat.lt_succ_self _) hw hT hF hM (lv_sub hl [2, 1, 0] rfl)
abbrev Pz_X4_clear_1 (ad : Nat → Nat) (cy : Nat → ClassId) (B : Int) (qr : Nat) (s1 : Int)  (w0 : va_W) : va_W → Prop := fun u => TW ksC ad cy B qr s1 u ∧ FE ksC [(48, 0, 10), (49, 0, 10)] w0 u ∧ Ev (fun n => m_X4_clear n 155 (sI w0)) (0, sI u) ∧ ((True))
set_option maxHeartbeats 4000000 in
set_option maxRecDepth 100000 in
theorem kz_X4_clear_1 (l : Launch) (adK adV : Nat → Nat) (dC : Nat → ClassId) (dI : Nat → Nat → Nat) (cy : Nat → ClassId) (ad : Nat → Nat) (B : Int) (hB0 : 2147483648 ≤ B) (hB1 : B ≤ 1152921504606846976) (qr : Nat) (s1 : Int)   (w0 : va_W) (sz : Nat) (hT : TW ksC ad cy B qr s1 w0)  : Met l yX4_clear (wu yX4_clear cX4_clear 2 none) ({ frames := 1, cells := 0, slots := 0, locals := 12 }) (va_Pc [.ref (ad 155)] (wpreS adK adV dC dI cy sz w0)) (va_Qv (Pz_X4_clear_1 ad cy B qr s1  w0) (fun u : va_W => wpost dC dI cy (va_A w0 sz) u) (va_A w0 sz)) 0 0 (va_A w0 sz) := by
  refine Met.ofW (cc := cX4_clear) (maxL := 2) (ret := none) (by decide) rfl ?_
  intro p e s m args below meth c s₁ Bk hml hv
  obtain ⟨rfl, ⟨hsz, hP, hK, hD0⟩, hE, hSR⟩ := hv
  have hx := Bk.exec
  have hb := Bk.bytes
  have hr := Bk.returns
  have hlocks := Bk.notSynchronized
  have hC : CallFix p m c cX4_clear 2 s _ (wu yX4_clear cX4_clear 2 none) RX4 := ⟨hx, hb, hml, findClass_of_methodNamed Bk.named, atoms_spec (ws := (wu yX4_clear cX4_clear 2 none)) Bk.pre⟩
  subst hsz
  have hD := hD0.self (sz := s.heap.size)
  generalize hAe : va_A w0 s.heap.size = A at hD hE ⊢
  have hA : ∀ q : Nat, s.heap.size ≤ q → A q := fun q h => by rw [← hAe]; exact Or.inr h
  have hw : Wd dC dI A s.heap s.heap [] w0 := ⟨hP, hD, va_S.rf⟩
  have hF : FE ksC [(48, 0, 10), (49, 0, 10)] w0 w0 := FE.rf
  have hl := lv_entry ([.ref (ad 155)]) (n := 2) (Nat.le_of_ble_eq_true rfl)
  rw [lg_entry_eq]
  generalize (lg_sl ([.ref (ad 155)]) ++ List.replicate (2 - (lg_sl ([.ref (ad 155)])).length) Slot.unset).toArray = ls at hl ⊢
  have hl : lv_has ls 2 [(0, .ref (ad 155))] := hl
  generalize hloc : ([] : List Loc) = locs at hw ⊢
  have hinX4 : ∀ w ∈ u_ws RX4 TX4 4, w ∈ (wu yX4_clear cX4_clear 2 none) := fun _ h => List.mem_cons_of_mem _ (up_80 h)
  have L2 : ∀ (n2 : Nat) (v2_1 : Int32) (H : Heap) (locs : List Loc) (ls : Array Slot) (w1 : va_W), 0 ≤ v2_1.toInt → v2_1.toInt ≤ 10 → (10 - v2_1.toInt).toNat < n2 → Wd dC dI A s.heap H locs w1 → TW ksC ad cy B qr s1 w1 → FE ksC [(48, 0, 10), (49, 0, 10)] w0 w1 → TT (fun n => m_X4_clear n 155 (sI w0)) (fun n => j_X4_clear 155 n 2 [v2_1.toInt] (sI w1)) → lv_has ls 2 [(0, .ref (ad 155)), (1, .int v2_1)] → W p l e ({ frames := 1, cells := 0, slots := 0, locals := 12 }) s m (List.toArray [.ref (ad 155)]) below meth c H locs 0 0 (MQ below (va_Qv (Pz_X4_clear_1 ad cy B qr s1  w0) (fun u : va_W => wpost dC dI cy A u) A) (List.toArray [.ref (ad 155)]) s 0 0 A) (F0 m 2 ls []) := by
    intro n2
    induction n2 with
    | zero => intro v2_1 H locs ls w1 r2 t3 hm2 hw hT hF hM hl; omega
    | succ n2 ih2 =>
      intro v2_1 H locs ls w1 r2 t3 hm2 hw hT hF hM hl
      replace hM := hM.suc (fun _ => e_X4_clear_2)
      refine lv_iload_n hx hb dX4_clear_2 rfl (lv_at hl 1 rfl) ?_
      refine lv_bipush (v := 10) hx hb dX4_clear_3 (by decide) ?_
      refine lv_icmp_ge (tgt := 28) hx hb dX4_clear_5 (by decide) (fun c4 => ?_) (fun c4 => ?_)
      · have c4 : (10 : Int) ≤ v2_1.toInt := wk_le.mp c4
        replace hM := hM.pos c4
        exact tk_vret hC hr hlocks hK ⟨hT, hF, hM.ret rfl, trivial⟩ hw dX4_clear_28
      · have c4 : v2_1.toInt < (10 : Int) := wk_leF c4
        replace hM := hM.neg (Int.not_le.mpr c4)
        refine lv_aload_n hx hb dX4_clear_8 rfl (lv_at hl 0 rfl) ?_
        refine tk_getA hC hK hw hT hinX4 kC_at155 (by decide) rfl 2 (by decide) (List.mem_cons_of_mem _ uw_5_19) rfl rfl dX4_clear_9 ?_
        refine lv_iload_n hx hb dX4_clear_12 rfl (lv_at hl 1 rfl) ?_
        refine lv_iconst (v := (-1)) hx hb dX4_clear_13 (by decide) ?_
        refine tk_iast hC hK hw hT kC_at156 (by decide) rfl rfl (show 0 ≤ v2_1.toInt from r2) (show v2_1.toInt < 10 by omega) (by decide) (by decide) dX4_clear_14 (fun H locs w5 hw hT k7 c6 => ?_)
        replace hM := hM.wr (sI_upc k7 c6 (by decide))
        have hF := hF.put kC_at156 (inE_of (a := 0) (b := 10) (by decide) (show 0 ≤ v2_1.toInt.toNat by omega) (show v2_1.toInt.toNat ≤ 10 by omega)) k7
        refine lv_aload_n hx hb dX4_clear_15 rfl (lv_at hl 0 rfl) ?_
        refine tk_getA hC hK hw hT hinX4 kC_at155 (by decide) rfl 3 (by decide) (List.mem_cons_of_mem _ uw_5_20) rfl rfl dX4_clear_16 ?_
        refine lv_iload_n hx hb dX4_clear_19 rfl (lv_at hl 1 rfl) ?_
        refine lv_iconst (v := 0) hx hb dX4_clear_20 (by decide) ?_
        refine tk_zast hC hK hw hT kC_at157 (by decide) rfl rfl (show 0 ≤ v2_1.toInt from r2) (show v2_1.toInt < 10 by omega) (by decide) (by decide) dX4_clear_21 (fun H locs w8 hw hT k10 c9 => ?_)
        replace hM := hM.wr (sI_upc k10 c9 (by decide))
        have hF := hF.put kC_at157 (inE_of (a := 0) (b := 10) (by decide) (show 0 ≤ v2_1.toInt.toNat by omega) (show v2_1.toInt.toNat ≤ 10 by omega)) k10
        obtain ⟨x11, ex11⟩ : ∃ y : Int32, y = v2_1 + Int32.ofInt 1 := ⟨_, rfl⟩
        have erx11 := ex11
        refine lv_iinc (v := x11) (lv' := [(1, .int x11), (0, .ref (ad 155))]) hx hb dX4_clear_22 hl (k := 1) rfl ex11.symm (by decide) rfl (fun ls hl => ?_)
        have ex11 : x11.toInt = v2_1.toInt + 1 := by rw [ex11]; exact wk_add (y := 1) (show -2147483648 ≤ v2_1.toInt + 1 by omega) (show v2_1.toInt + 1 ≤ 2147483647 by omega)
        replace hM := hM.lt ex11.symm
        refine lv_goto (tgt := 2) hx hb dX4_clear_25 (by decide) ?_
        exact ih2 x11 H locs ls w8 (show 0 ≤ x11.toInt by omega) (show x11.toInt ≤ 10 by omega) (show (10 - x11.toInt).toNat < n2 by omega) hw hT hF hM (lv_sub hl [1, 0] rfl)
  have hM : TT (fun n => m_X4_clear n 155 (sI w0)) (fun n => m_X4_clear n 155 (sI w0)) := TT.rf
  refine lv_iconst (v := 0) hx hb dX4_clear_0 (by decide) ?_
  refine lv_istore_n (lv' := [(1, .int 0), (0, .ref (ad 155))]) hx hb dX4_clear_1 rfl hl (by decide) rfl (fun ls hl => ?_)
  exact L2 ((10 - (0 : Int)).toNat + 1) 0 s.heap locs ls w0 (by decide) (by decide) (Nat.lt_succ_self _) hw hT hF hM (lv_sub hl [1, 0] rfl)
abbrev Pz_X4_firstArrival_1 (ad : Nat → Nat) (cy : Nat → ClassId) (B : Int) (qr : Nat) (s1 : Int) (a1 : Int32) (a2 : Int32) (a3 : Int32) (a4 : Int32) (w0 : va_W) : Int32 → va_W → Prop := fun r u => TW ksC ad cy B qr s1 u ∧ FE ksC [(48, 0, 10), (49, 0, 10)] w0 u ∧ Ev (fun n => m_X4_firstArrival n 155 a1.toInt a2.toInt a3.toInt a4.toInt (sI w0)) (r.toInt, sI u) ∧ (((-1) ≤ r.toInt ∧ r.toInt ≤ 102119 ∧ (∃ y : Int32, gi u 39 8 = y ∧ 1 ≤ y.toInt ∧ y.toInt ≤ 10)) ∨ (r = (-1)))
set_option maxHeartbeats 4000000 in
set_option maxRecDepth 100000 in
theorem kz_X4_firstArrival_1 (l : Launch) (adK adV : Nat → Nat) (dC : Nat → ClassId) (dI : Nat → Nat → Nat) (cy : Nat → ClassId) (ad : Nat → Nat) (B : Int) (hB0 : 2147483648 ≤ B) (hB1 : B ≤ 1152921504606846976) (qr : Nat) (s1 : Int)  (a1 : Int32) (ra1 : 1 ≤ a1.toInt) (ta1 : a1.toInt ≤ 13) (a2 : Int32) (ra2 : 0 ≤ a2.toInt) (ta2 : a2.toInt ≤ 9) (a3 : Int32) (ra3 : 0 ≤ a3.toInt) (ta3 : a3.toInt ≤ 9) (a4 : Int32) (ra4 : 0 ≤ a4.toInt) (ta4 : a4.toInt ≤ 99999) (w0 : va_W) (sz : Nat) (hT : TW ksC ad cy B qr s1 w0)  : Met l yX4_firstArrival (wu yX4_firstArrival cX4_firstArrival 8 (some .int)) ({ frames := 4, cells := 0, slots := 0, locals := 95 }) (va_Pc [.ref (ad 155), .int a1, .int a2, .int a3, .int a4] (wpreS adK adV dC dI cy sz w0)) (va_Qi (Pz_X4_firstArrival_1 ad cy B qr s1 a1 a2 a3 a4 w0) (fun u : va_W => wpost dC dI cy (va_A w0 sz) u) (va_A w0 sz)) 0 0 (va_A w0 sz) := by
  refine Met.ofW (cc := cX4_firstArrival) (maxL := 8) (ret := (some .int)) (by decide) rfl ?_
  intro p e s m args below meth c s₁ Bk hml hv
  obtain ⟨rfl, ⟨hsz, hP, hK, hD0⟩, hE, hSR⟩ := hv
  have hx := Bk.exec
  have hb := Bk.bytes
  have hr := Bk.returns
  have hlocks := Bk.notSynchronized
  have hC : CallFix p m c cX4_firstArrival 8 s _ (wu yX4_firstArrival cX4_firstArrival 8 (some .int)) RX4 := ⟨hx, hb, hml, findClass_of_methodNamed Bk.named, atoms_spec (ws := (wu yX4_firstArrival cX4_firstArrival 8 (some .int))) Bk.pre⟩
  subst hsz
  have hD := hD0.self (sz := s.heap.size)
  generalize hAe : va_A w0 s.heap.size = A at hD hE ⊢
  have hA : ∀ q : Nat, s.heap.size ≤ q → A q := fun q h => by rw [← hAe]; exact Or.inr h
  have hw : Wd dC dI A s.heap s.heap [] w0 := ⟨hP, hD, va_S.rf⟩
  have hF : FE ksC [(48, 0, 10), (49, 0, 10)] w0 w0 := FE.rf
  have hl := lv_entry ([.ref (ad 155), .int a1, .int a2, .int a3, .int a4]) (n := 8) (Nat.le_of_ble_eq_true rfl)
  rw [lg_entry_eq]
  generalize (lg_sl ([.ref (ad 155), .int a1, .int a2, .int a3, .int a4]) ++ List.replicate (8 - (lg_sl ([.ref (ad 155), .int a1, .int a2, .int a3, .int a4])).length) Slot.unset).toArray = ls at hl ⊢
  have hl : lv_has ls 8 [(0, .ref (ad 155)), (1, .int a1), (2, .int a2), (3, .int a3), (4, .int a4)] := hl
  generalize hloc : ([] : List Loc) = locs at hw ⊢
  have hinX4 : ∀ w ∈ u_ws RX4 TX4 4, w ∈ (wu yX4_firstArrival cX4_firstArrival 8 (some .int)) := fun _ h => List.mem_cons_of_mem _ (up_80 h)
  have hinX7 : ∀ w ∈ u_ws RX7 TX7 12, w ∈ (wu yX4_firstArrival cX4_firstArrival 8 (some .int)) := fun _ h => List.mem_cons_of_mem _ (up_73 h)
  have L15 : ∀ (n15 : Nat) (v15_5 : Int32) (H : Heap) (locs : List Loc) (ls : Array Slot) (w1 : va_W), 1 ≤ a1.toInt → a1.toInt ≤ 13 → 0 ≤ a2.toInt → a2.toInt ≤ 9 → 0 ≤ a3.toInt → a3.toInt ≤ 9 → 0 ≤ a4.toInt → a4.toInt ≤ 99999 → 0 ≤ v15_5.toInt → v15_5.toInt ≤ 10 → (10 - v15_5.toInt).toNat < n15 → Wd dC dI A s.heap H locs w1 → TW ksC ad cy B qr s1 w1 → FE ksC [(48, 0, 10), (49, 0, 10)] w0 w1 → TT (fun n => m_X4_firstArrival n 155 a1.toInt a2.toInt a3.toInt a4.toInt (sI w0)) (fun n => j_X4_firstArrival 155 n 15 [a1.toInt, a3.toInt, a4.toInt, v15_5.toInt] (sI w1)) → lv_has ls 8 [(0, .ref (ad 155)), (1, .int a1), (2, .int a2), (3, .int a3), (4, .int a4), (5, .int v15_5)] → W p l e ({ frames := 4, cells := 0, slots := 0, locals := 95 }) s m (List.toArray [.ref (ad 155), .int a1, .int a2, .int a3, .int a4]) below meth c H locs 0 0 (MQ below (va_Qi (Pz_X4_firstArrival_1 ad cy B qr s1 a1 a2 a3 a4 w0) (fun u : va_W => wpost dC dI cy A u) A) (List.toArray [.ref (ad 155), .int a1, .int a2, .int a3, .int a4]) s 0 0 A) (F0 m 15 ls []) := by
    intro n15
    induction n15 with
    | zero => intro v15_5 H locs ls w1 r2 t3 r4 t5 r6 t7 r8 t9 r10 t11 hm15 hw hT hF hM hl; omega
    | succ n15 ih15 =>
      intro v15_5 H locs ls w1 r2 t3 r4 t5 r6 t7 r8 t9 r10 t11 hm15 hw hT hF hM hl
      have L65 : ∀ (n65 : Nat) (v65_6 : Int32) (v65_7 : Int32) (f65_39_8 : Int32) (H : Heap) (locs : List Loc) (ls : Array Slot) (w12 : va_W), 1 ≤ a1.toInt → a1.toInt ≤ 13 → 0 ≤ a2.toInt → a2.toInt ≤ 9 → 0 ≤ a3.toInt → a3.toInt ≤ 9 → 0 ≤ a4.toInt → a4.toInt ≤ 99999 → 0 ≤ v15_5.toInt → v15_5.toInt ≤ 9 → 0 ≤ v65_6.toInt → v65_6.toInt ≤ 9 → 0 ≤ v65_7.toInt → v65_7.toInt ≤ 13 → 1 ≤ f65_39_8.toInt → f65_39_8.toInt ≤ 10 → (13 - v65_7.toInt).toNat < n65 → Wd dC dI A s.heap H locs w12 → TW ksC ad cy B qr s1 w12 → FE ksC [(48, 0, 10), (49, 0, 10)] w0 w12 → gi w12 39 8 = f65_39_8 → TT (fun n => m_X4_firstArrival n 155 a1.toInt a2.toInt a3.toInt a4.toInt (sI w0)) (fun n => j_X4_firstArrival 155 n 65 [a1.toInt, a3.toInt, a4.toInt, v15_5.toInt, v65_6.toInt, v65_7.toInt] (sI w12)) → lv_has ls 8 [(0, .ref (ad 155)), (1, .int a1), (2, .int a2), (3, .int a3), (4, .int a4), (5, .int v15_5), (6, .int v65_6), (7, .int v65_7)] → W p l e ({ frames := 4, cells := 0, slots := 0, locals := 95 }) s m (List.toArray [.ref (ad 155), .int a1, .int a2, .int a3, .int a4]) below meth c H locs 0 0 (MQ below (va_Qi (Pz_X4_firstArrival_1 ad cy B qr s1 a1 a2 a3 a4 w0) (fun u : va_W => wpost dC dI cy A u) A) (List.toArray [.ref (ad 155), .int a1, .int a2, .int a3, .int a4]) s 0 0 A) (F0 m 65 ls []) := by
        intro n65
        induction n65 with
        | zero => intro v65_6 v65_7 f65_39_8 H locs ls w12 r13 t14 r15 t16 r17 t18 r19 t20 r21 t22 r23 t24 r25 t26 r27 t28 hm65 hw hT hF c29 hM hl; omega
        | succ n65 ih65 =>
          intro v65_6 v65_7 f65_39_8 H locs ls w12 r13 t14 r15 t16 r17 t18 r19 t20 r21 t22 r23 t24 r25 t26 r27 t28 hm65 hw hT hF c29 hM hl
          replace hM := hM.suc (fun _ => e_X4_firstArrival_65)
          refine lv_iload hx hb dX4_firstArrival_65 (lv_at hl 7 rfl) ?_
          refine lv_iload_n hx hb dX4_firstArrival_67 rfl (lv_at hl 1 rfl) ?_
          refine lv_icmp_ge (tgt := 91) hx hb dX4_firstArrival_68 (by decide) (fun c30 => ?_) (fun c30 => ?_)
          · have c30 : a1.toInt ≤ v65_7.toInt := wk_le.mp c30
            replace hM := hM.pos c30
            obtain ⟨x31, ex31⟩ : ∃ y : Int32, y = v15_5 + Int32.ofInt 1 := ⟨_, rfl⟩
            have erx31 := ex31
            refine lv_iinc (v := x31) (lv' := [(5, .int x31), (0, .ref (ad 155)), (1, .int a1), (2, .int a2), (3, .int a3), (4, .int a4), (6, .int v65_6), (7, .int v65_7)]) hx hb dX4_firstArrival_91 hl (k := 5) rfl ex31.symm (by decide) rfl (fun ls hl => ?_)
            have ex31 : x31.toInt = v15_5.toInt + 1 := by rw [ex31]; exact wk_add (y := 1) (show -2147483648 ≤ v15_5.toInt + 1 by omega) (show v15_5.toInt + 1 ≤ 2147483647 by omega)
            replace hM := hM.lt ex31.symm
            refine lv_goto (tgt := 15) hx hb dX4_firstArrival_94 (by decide) ?_
            exact ih15 x31 H locs ls w12 (show 1 ≤ a1.toInt from r13) (show a1.toInt ≤ 13 from t14) (show 0 ≤ a2.toInt from r15) (show a2.toInt ≤ 9 from t16) (show 0 ≤ a3.toInt from r17) (show a3.toInt ≤ 9 from t18) (show 0 ≤ a4.toInt from r19) (show a4.toInt ≤ 99999 from t20) (show 0 ≤ x31.toInt by omega) (show x31.toInt ≤ 10 by omega) (show (10 - x31.toInt).toNat < n15 by omega) hw hT hF hM (lv_sub hl [1, 2, 3, 4, 5, 0] rfl)
          · have c30 : v65_7.toInt < a1.toInt := wk_leF c30
            replace hM := hM.neg (Int.not_le.mpr c30)
            refine lv_aload_n hx hb dX4_firstArrival_71 rfl (lv_at hl 0 rfl) ?_
            refine lv_iload hx hb dX4_firstArrival_72 (lv_at hl 7 rfl) ?_
            refine lv_iload hx hb dX4_firstArrival_74 (lv_at hl 6 rfl) ?_
            refine lv_iload hx hb dX4_firstArrival_76 (lv_at hl 4 rfl) ?_
            refine lv_sipush (v := 2000) hx hb dX4_firstArrival_78 (by decide) ?_
            refine lv_iadd hx hb dX4_firstArrival_81 ?_
            refine lv_topi (fun x32 ex32 => ?_)
            have ezx32 := ex32
            have ex32 : x32.toInt = a4.toInt + (2000 : Int) := by rw [ex32]; exact wk_add (show (-2147483648) ≤ a4.toInt + (2000 : Int) by omega) (show a4.toInt + (2000 : Int) ≤ 2147483647 by omega)
            replace hM := hM.lt ex32.symm
            refine tk_Vv hC hK hw hT hA hE hSR kC_at155 (by decide) rfl (kz_X4_reachBy_1 l adK adV dC dI cy ad B (by omega) (by omega) qr s1   v65_7 (show 0 ≤ v65_7.toInt from r25) (show v65_7.toInt ≤ 12 by omega) v65_6 (show 0 ≤ v65_6.toInt from r23) (show v65_6.toInt ≤ 9 from t24) x32 (show 2000 ≤ x32.toInt by omega) (show x32.toInt ≤ 101999 by omega) w12 H.size hT ) (cwV 3 hC.2.2.2.2 uV_RX4_43 rfl rfl rfl (by decide +kernel) ⟨Nat.le_of_ble_eq_true rfl, Nat.le_of_ble_eq_true rfl⟩) rfl hl.1 rfl (Nat.le_of_ble_eq_true rfl) dX4_firstArrival_82 (fun w35 H locs hp34 hw => ?_)
            obtain ⟨hT, k36, hv38, hg37⟩ := hp34
            have hF := hF.tr k36 (by decide)
            have c39 := k36.gi kC_at39 (by decide) c29
            clear hg37
            replace hM := hM.call hv38 rfl
            obtain ⟨x40, ex40⟩ : ∃ y : Int32, y = v65_7 + Int32.ofInt 1 := ⟨_, rfl⟩
            have erx40 := ex40
            refine lv_iinc (v := x40) (lv' := [(7, .int x40), (0, .ref (ad 155)), (1, .int a1), (2, .int a2), (3, .int a3), (4, .int a4), (5, .int v15_5), (6, .int v65_6)]) hx hb dX4_firstArrival_85 hl (k := 7) rfl ex40.symm (by decide) rfl (fun ls hl => ?_)
            have ex40 : x40.toInt = v65_7.toInt + 1 := by rw [ex40]; exact wk_add (y := 1) (show -2147483648 ≤ v65_7.toInt + 1 by omega) (show v65_7.toInt + 1 ≤ 2147483647 by omega)
            replace hM := hM.lt ex40.symm
            refine lv_goto (tgt := 65) hx hb dX4_firstArrival_88 (by decide) ?_
            exact ih65 v65_6 x40 f65_39_8 H locs ls w35 (show 1 ≤ a1.toInt from r13) (show a1.toInt ≤ 13 from t14) (show 0 ≤ a2.toInt from r15) (show a2.toInt ≤ 9 from t16) (show 0 ≤ a3.toInt from r17) (show a3.toInt ≤ 9 from t18) (show 0 ≤ a4.toInt from r19) (show a4.toInt ≤ 99999 from t20) (show 0 ≤ v15_5.toInt from r21) (show v15_5.toInt ≤ 9 from t22) (show 0 ≤ v65_6.toInt from r23) (show v65_6.toInt ≤ 9 from t24) (show 0 ≤ x40.toInt by omega) (show x40.toInt ≤ 13 by omega) (show 1 ≤ f65_39_8.toInt from r27) (show f65_39_8.toInt ≤ 10 from t28) (show (13 - x40.toInt).toNat < n65 by omega) hw hT hF c39 hM (lv_sub hl [1, 2, 3, 4, 5, 6, 7, 0] rfl)
      replace hM := hM.suc (fun _ => e_X4_firstArrival_15)
      refine lv_iload hx hb dX4_firstArrival_15 (lv_at hl 5 rfl) ?_
      refine lv_aload_n hx hb dX4_firstArrival_17 rfl (lv_at hl 0 rfl) ?_
      refine tk_getA hC hK hw hT hinX4 kC_at155 (by decide) rfl 1 (by decide) (List.mem_cons_of_mem _ uw_5_23) rfl rfl dX4_firstArrival_18 ?_
      refine tk_geti hC hK hw hT hinX7 kC_at39 (by decide) rfl 8 (by decide) (List.mem_cons_of_mem _ uw_49_18) rfl rfl dX4_firstArrival_21 (fun x41 c42 rx41 tx41 => ?_)
      replace hM := hM.rd (sI_at c42)
      refine lv_icmp_ge (tgt := 97) hx hb dX4_firstArrival_24 (by decide) (fun c43 => ?_) (fun c43 => ?_)
      · have c43 : x41.toInt ≤ v15_5.toInt := wk_le.mp c43
        replace hM := hM.pos c43
        refine lv_iconst (v := (-1)) hx hb dX4_firstArrival_97 (by decide) ?_
        exact tk_iret hC hr hlocks hK ⟨hT, hF, hM.ret (by decide), (Or.inr rfl)⟩ hw dX4_firstArrival_98
      · have c43 : v15_5.toInt < x41.toInt := wk_leF c43
        replace hM := hM.neg (Int.not_le.mpr c43)
        refine lv_aload_n hx hb dX4_firstArrival_27 rfl (lv_at hl 0 rfl) ?_
        refine tk_Vi hC hK hw hT hA hE hSR kC_at155 (by decide) rfl (kz_X4_earliestUnsettled_1 l adK adV dC dI cy ad B (by omega) (by omega) qr s1    w1 H.size hT ) (cwV 0 hC.2.2.2.2 uV_RX4_39 rfl rfl rfl (by decide +kernel) ⟨Nat.le_of_ble_eq_true rfl, Nat.le_of_ble_eq_true rfl⟩) rfl hl.1 rfl (Nat.le_of_ble_eq_true rfl) dX4_firstArrival_28 (fun r44 w46 H locs hp45 hw => ?_)
        obtain ⟨hT, k47, hv51, hg50⟩ := hp45
        have hF := hF.tr k47 (by decide)
        have c52 := k47.gi kC_at39 (by decide) c42
        obtain ⟨g48, g49⟩ := hg50
        replace hM := hM.call hv51 rfl
        refine lv_istore (lv' := [(6, .int r44), (0, .ref (ad 155)), (1, .int a1), (2, .int a2), (3, .int a3), (4, .int a4), (5, .int v15_5)]) hx hb dX4_firstArrival_31 hl (by decide) rfl (fun ls hl => ?_)
        refine lv_iload hx hb dX4_firstArrival_33 (lv_at hl 0 rfl) ?_
        refine lv_iconst (v := (-1)) hx hb dX4_firstArrival_35 (by decide) ?_
        refine lv_icmp_ne (tgt := 41) hx hb dX4_firstArrival_36 (by decide) (fun c53 => ?_) (fun c53 => ?_)
        · have c53 : ¬ r44.toInt = (-1 : Int) := wk_eqF c53
          replace hM := hM.pos c53
          refine lv_iload hx hb dX4_firstArrival_41 (lv_at hl 0 rfl) ?_
          refine lv_iload_n hx hb dX4_firstArrival_43 rfl (lv_at hl 4 rfl) ?_
          refine lv_icmp_ne (tgt := 54) hx hb dX4_firstArrival_44 (by decide) (fun c54 => ?_) (fun c54 => ?_)
          · have c54 : ¬ r44.toInt = a3.toInt := wk_eqF c54
            replace hM := hM.pos c54
            refine lv_aload_n hx hb dX4_firstArrival_54 rfl (lv_at hl 1 rfl) ?_
            refine tk_getA hC hK hw hT hinX4 kC_at155 (by decide) rfl 3 (by decide) (List.mem_cons_of_mem _ uw_5_20) rfl rfl dX4_firstArrival_55 ?_
            refine lv_iload hx hb dX4_firstArrival_58 (lv_at hl 0 rfl) ?_
            refine lv_iconst (v := 1) hx hb dX4_firstArrival_60 (by decide) ?_
            refine tk_zast hC hK hw hT kC_at157 (by decide) rfl rfl (show 0 ≤ r44.toInt by omega) (show r44.toInt < 10 by omega) (by decide) (by decide) dX4_firstArrival_61 (fun H locs w55 hw hT k57 c56 => ?_)
            replace hM := hM.wr (sI_upc k57 c56 (by decide))
            have hF := hF.put kC_at157 (inE_of (a := 0) (b := 10) (by decide) (show 0 ≤ r44.toInt.toNat by omega) (show r44.toInt.toNat ≤ 10 by omega)) k57
            have c58 := k57.gi (Or.inl (tk_ne kC_at39 kC_at157 (by decide))) c52
            refine lv_iconst (v := 0) hx hb dX4_firstArrival_62 (by decide) ?_
            refine lv_istore (lv' := [(7, .int 0), (6, .int r44), (0, .ref (ad 155)), (1, .int a1), (2, .int a2), (3, .int a3), (4, .int a4), (5, .int v15_5)]) hx hb dX4_firstArrival_63 hl (by decide) rfl (fun ls hl => ?_)
            exact L65 ((13 - (0 : Int)).toNat + 1) r44 0 x41 H locs ls w55 (show 1 ≤ a1.toInt from r2) (show a1.toInt ≤ 13 from t3) (show 0 ≤ a2.toInt from r4) (show a2.toInt ≤ 9 from t5) (show 0 ≤ a3.toInt from r6) (show a3.toInt ≤ 9 from t7) (show 0 ≤ a4.toInt from r8) (show a4.toInt ≤ 99999 from t9) (show 0 ≤ v15_5.toInt from r10) (show v15_5.toInt ≤ 9 by omega) (show 0 ≤ r44.toInt by omega) (show r44.toInt ≤ 9 by omega) (by decide) (by decide) (show 1 ≤ x41.toInt by omega) (show x41.toInt ≤ 10 from tx41) (Nat.lt_succ_self _) hw hT hF c58 hM (lv_sub hl [2, 3, 4, 5, 6, 7, 1, 0] rfl)
          · have c54 : r44.toInt = a3.toInt := wk_eq.mp c54
            replace hM := hM.neg (fun q => q c54)
            refine lv_aload_n hx hb dX4_firstArrival_47 rfl (lv_at hl 1 rfl) ?_
            refine tk_getA hC hK hw hT hinX4 kC_at155 (by decide) rfl 2 (by decide) (List.mem_cons_of_mem _ uw_5_19) rfl rfl dX4_firstArrival_48 ?_
            refine lv_iload_n hx hb dX4_firstArrival_51 rfl (lv_at hl 4 rfl) ?_
            refine tk_iald hC hK hw hT kC_at156 rfl rfl (show 0 ≤ a3.toInt from r6) (show a3.toInt < 10 from Int.lt_of_le_of_lt t7 (by decide)) dX4_firstArrival_52 (fun x59 c60 rx59 tx59 => ?_)
            have hox59 := c60
            replace hM := hM.rd (sI_at hox59)
            exact tk_iret hC hr hlocks hK ⟨hT, hF, hM.ret rfl, (Or.inl ⟨(show (-1) ≤ x59.toInt from rx59), (show x59.toInt ≤ 102119 from tx59), ⟨x41, c52, (show 1 ≤ x41.toInt by omega), (show x41.toInt ≤ 10 from tx41)⟩⟩)⟩ hw dX4_firstArrival_53
        · have c53 : r44.toInt = (-1 : Int) := wk_eq.mp c53
          replace hM := hM.neg (fun q => q c53)
          refine lv_iconst (v := (-1)) hx hb dX4_firstArrival_39 (by decide) ?_
          exact tk_iret hC hr hlocks hK ⟨hT, hF, hM.ret (by decide), (Or.inr rfl)⟩ hw dX4_firstArrival_40
  have hM : TT (fun n => m_X4_firstArrival n 155 a1.toInt a2.toInt a3.toInt a4.toInt (sI w0)) (fun n => m_X4_firstArrival n 155 a1.toInt a2.toInt a3.toInt a4.toInt (sI w0)) := TT.rf
  refine lv_aload_n hx hb dX4_firstArrival_0 rfl (lv_at hl 0 rfl) ?_
  refine tk_Vv hC hK hw hT hA hE hSR kC_at155 (by decide) rfl (kz_X4_clear_1 l adK adV dC dI cy ad B (by omega) (by omega) qr s1    w0 s.heap.size hT ) (cwV 0 hC.2.2.2.2 uV_RX4_30 rfl rfl rfl (by decide +kernel) ⟨Nat.le_of_ble_eq_true rfl, Nat.le_of_ble_eq_true rfl⟩) rfl hl.1 rfl (Nat.le_of_ble_eq_true rfl) dX4_firstArrival_1 (fun w63 H locs hp62 hw => ?_)
  obtain ⟨hT, k64, hv66, hg65⟩ := hp62
  have hF := hF.tr k64 (by decide)
  clear hg65
  replace hM := hM.call hv66 rfl
  refine lv_aload_n hx hb dX4_firstArrival_4 rfl (lv_at hl 0 rfl) ?_
  refine tk_getA hC hK hw hT hinX4 kC_at155 (by decide) rfl 2 (by decide) (List.mem_cons_of_mem _ uw_5_19) rfl rfl dX4_firstArrival_5 ?_
  refine lv_iload_n hx hb dX4_firstArrival_8 rfl (lv_at hl 2 rfl) ?_
  refine lv_iload hx hb dX4_firstArrival_9 (lv_at hl 4 rfl) ?_
  refine tk_iast hC hK hw hT kC_at156 (by decide) rfl rfl (show 0 ≤ a2.toInt from ra2) (show a2.toInt < 10 from Int.lt_of_le_of_lt ta2 (by decide)) (show (-1) ≤ a4.toInt from Int.le_trans (by decide) ra4) (show a4.toInt ≤ 102119 from Int.le_trans ta4 (by decide)) dX4_firstArrival_11 (fun H locs w67 hw hT k69 c68 => ?_)
  replace hM := hM.wr (sI_up k69 c68)
  have hF := hF.put kC_at156 (inE_of (a := 0) (b := 10) (by decide) (show 0 ≤ a2.toInt.toNat by omega) (show a2.toInt.toNat ≤ 10 by omega)) k69
  refine lv_iconst (v := 0) hx hb dX4_firstArrival_12 (by decide) ?_
  refine lv_istore (lv' := [(5, .int 0), (0, .ref (ad 155)), (1, .int a1), (2, .int a2), (3, .int a3), (4, .int a4)]) hx hb dX4_firstArrival_13 hl (by decide) rfl (fun ls hl => ?_)
  exact L15 ((10 - (0 : Int)).toNat + 1) 0 H locs ls w67 (show 1 ≤ a1.toInt from ra1) (show a1.toInt ≤ 13 from ta1) (show 0 ≤ a2.toInt from ra2) (show a2.toInt ≤ 9 from ta2) (show 0 ≤ a3.toInt from ra3) (show a3.toInt ≤ 9 from ta3) (show 0 ≤ a4.toInt from ra4) (show a4.toInt ≤ 99999 from ta4) (by decide) (by decide) (Nat.lt_succ_self _) hw hT hF hM (lv_sub hl [1, 2, 3, 4, 5, 0] rfl)
