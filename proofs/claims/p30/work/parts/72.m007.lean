abbrev P_X1_takeSteps_2 (ad : Nat → Nat) (cy : Nat → ClassId) (B : Int) (qr : Nat) (s1 : Int) (a2 : Int32) (w0 : va_W) : Int32 → va_W → Prop := fun r u => TW ksC ad cy (B + 3600) qr s1 u ∧ FE ksC [(1, 4, 4), (1, 5, 5), (1, 6, 6), (1, 7, 7), (1, 8, 8), (9, 0, 0), (9, 4, 4), (9, 5, 5), (9, 6, 6), (9, 7, 7), (9, 8, 8), (45, 0, 64)] w0 u ∧ ((0 ≤ r.toInt ∧ r.toInt ≤ 400))
set_option maxHeartbeats 4000000 in
set_option maxRecDepth 100000 in
theorem k_X1_takeSteps_2 (l : Launch) (adK adV : Nat → Nat) (dC : Nat → ClassId) (dI : Nat → Nat → Nat) (cy : Nat → ClassId) (ad : Nat → Nat) (B : Int) (hB0 : 2147483648 ≤ B) (hB1 : B ≤ 1152921504606843385) (qr : Nat) (s1 : Int)  (a2 : Int32) (ra2 : 0 ≤ a2.toInt) (ta2 : a2.toInt ≤ 400) (w0 : va_W) (sz : Nat) (hT : TW ksC ad cy B qr s1 w0)  : Met l yX1_takeSteps (wu yX1_takeSteps cX1_takeSteps 4 (some .int)) ({ frames := 6, cells := 0, slots := 0, locals := 135 }) (va_Pc [.ref (ad 149), .ref (ad 152), .int a2] (wpreS adK adV dC dI cy sz w0)) (va_Qi (P_X1_takeSteps_2 ad cy B qr s1 a2 w0) (fun u : va_W => wpost dC dI cy (va_A w0 sz) u) (va_A w0 sz)) 0 0 (va_A w0 sz) := by
  refine Met.ofW (cc := cX1_takeSteps) (maxL := 4) (ret := (some .int)) (by decide) rfl ?_
  intro p e s m args below meth c s₁ Bk hml hv
  obtain ⟨rfl, ⟨hsz, hP, hK, hD0⟩, hE, hSR⟩ := hv
  have hx := Bk.exec
  have hb := Bk.bytes
  have hr := Bk.returns
  have hlocks := Bk.notSynchronized
  have hC : CallFix p m c cX1_takeSteps 4 s _ (wu yX1_takeSteps cX1_takeSteps 4 (some .int)) RX1 := ⟨hx, hb, hml, findClass_of_methodNamed Bk.named, atoms_spec (ws := (wu yX1_takeSteps cX1_takeSteps 4 (some .int))) Bk.pre⟩
  subst hsz
  have hD := hD0.self (sz := s.heap.size)
  generalize hAe : va_A w0 s.heap.size = A at hD hE ⊢
  have hA : ∀ q : Nat, s.heap.size ≤ q → A q := fun q h => by rw [← hAe]; exact Or.inr h
  have hw : Wd dC dI A s.heap s.heap [] w0 := ⟨hP, hD, va_S.rf⟩
  have hF : FE ksC [(1, 4, 4), (1, 5, 5), (1, 6, 6), (1, 7, 7), (1, 8, 8), (9, 0, 0), (9, 4, 4), (9, 5, 5), (9, 6, 6), (9, 7, 7), (9, 8, 8), (45, 0, 64)] w0 w0 := FE.rf
  have hl := lv_entry ([.ref (ad 149), .ref (ad 152), .int a2]) (n := 4) (Nat.le_of_ble_eq_true rfl)
  rw [lg_entry_eq]
  generalize (lg_sl ([.ref (ad 149), .ref (ad 152), .int a2]) ++ List.replicate (4 - (lg_sl ([.ref (ad 149), .ref (ad 152), .int a2])).length) Slot.unset).toArray = ls at hl ⊢
  have hl : lv_has ls 4 [(0, .ref (ad 149)), (1, .ref (ad 152)), (2, .int a2)] := hl
  generalize hloc : ([] : List Loc) = locs at hw ⊢
  have L2 : ∀ (n2 : Nat) (v2_3 : Int32) (H : Heap) (locs : List Loc) (ls : Array Slot) (w1 : va_W), 0 ≤ a2.toInt → a2.toInt ≤ 400 → 0 ≤ v2_3.toInt → v2_3.toInt ≤ 400 → (400 - v2_3.toInt).toNat < n2 → Wd dC dI A s.heap H locs w1 → TW ksC ad cy (B + 0 + 9 * v2_3.toInt) qr s1 w1 → FE ksC [(1, 4, 4), (1, 5, 5), (1, 6, 6), (1, 7, 7), (1, 8, 8), (9, 0, 0), (9, 4, 4), (9, 5, 5), (9, 6, 6), (9, 7, 7), (9, 8, 8), (45, 0, 64)] w0 w1 → lv_has ls 4 [(0, .ref (ad 149)), (1, .ref (ad 152)), (2, .int a2), (3, .int v2_3)] → W p l e ({ frames := 6, cells := 0, slots := 0, locals := 135 }) s m (List.toArray [.ref (ad 149), .ref (ad 152), .int a2]) below meth c H locs 0 0 (MQ below (va_Qi (P_X1_takeSteps_2 ad cy B qr s1 a2 w0) (fun u : va_W => wpost dC dI cy A u) A) (List.toArray [.ref (ad 149), .ref (ad 152), .int a2]) s 0 0 A) (F0 m 2 ls []) := by
    intro n2
    induction n2 with
    | zero => intro v2_3 H locs ls w1 r2 t3 r4 t5 hm2 hw hT hF hl; omega
    | succ n2 ih2 =>
      intro v2_3 H locs ls w1 r2 t3 r4 t5 hm2 hw hT hF hl
      refine lv_iload_n hx hb dX1_takeSteps_2 rfl (lv_at hl 3 rfl) ?_
      refine lv_iload_n hx hb dX1_takeSteps_3 rfl (lv_at hl 2 rfl) ?_
      refine lv_icmp_ge (tgt := 24) hx hb dX1_takeSteps_4 (by decide) (fun c6 => ?_) (fun c6 => ?_)
      · have c6 : a2.toInt ≤ v2_3.toInt := wk_le.mp c6
        refine lv_iload_n hx hb dX1_takeSteps_24 rfl (lv_at hl 2 rfl) ?_
        exact tk_iret hC hr hlocks hK ⟨(hT.up (show (B + 0 + 9 * v2_3.toInt) ≤ (B + 3600) by omega)), hF, ⟨(show 0 ≤ a2.toInt from r2), (show a2.toInt ≤ 400 from t3)⟩⟩ hw dX1_takeSteps_25
      · have c6 : v2_3.toInt < a2.toInt := wk_leF c6
        refine lv_aload_n hx hb dX1_takeSteps_7 rfl (lv_at hl 0 rfl) ?_
        refine lv_aload_n hx hb dX1_takeSteps_8 rfl (lv_at hl 1 rfl) ?_
        refine tk_Vi hC hK hw hT hA hE hSR kC_at149 (by decide) rfl (k_X1_takeStep_2 l adK adV dC dI cy ad (B + 0 + 9 * v2_3.toInt) (by omega) (by omega) qr s1    w1 H.size hT ) (cwV 1 hC.2.2.2.2 uV_RX1_27 rfl rfl rfl (by decide +kernel) ⟨Nat.le_of_ble_eq_true rfl, Nat.le_of_ble_eq_true rfl⟩) rfl hl.1 rfl (Nat.le_of_ble_eq_true rfl) dX1_takeSteps_9 (fun r7 w9 H locs hp8 hw => ?_)
        obtain ⟨hT, k10, hg13⟩ := hp8
        have hT := hT.up (B' := (B + 9 + 9 * v2_3.toInt)) (by omega)
        have hF := hF.tr k10 (by decide)
        rcases hg13 with ⟨x11, c12, rx11, tx11⟩ | rfl
        · refine lv_iconst (v := 4) hx hb dX1_takeSteps_12 (by decide) ?_
          refine lv_icmp_ne (tgt := 18) hx hb dX1_takeSteps_13 (by decide) (fun c14 => ?_) (fun c14 => ?_)
          · have c14 : ¬ r7.toInt = (4 : Int) := wk_eqF c14
            obtain ⟨x15, ex15⟩ : ∃ y : Int32, y = v2_3 + Int32.ofInt 1 := ⟨_, rfl⟩
            refine lv_iinc (v := x15) (lv' := [(3, .int x15), (0, .ref (ad 149)), (1, .ref (ad 152)), (2, .int a2)]) hx hb dX1_takeSteps_18 hl (k := 3) rfl ex15.symm (by decide) rfl (fun ls hl => ?_)
            have ex15 : x15.toInt = v2_3.toInt + 1 := by rw [ex15]; exact wk_add (y := 1) (show -2147483648 ≤ v2_3.toInt + 1 by omega) (show v2_3.toInt + 1 ≤ 2147483647 by omega)
            refine lv_goto (tgt := 2) hx hb dX1_takeSteps_21 (by decide) ?_
            exact ih2 x15 H locs ls w9 (show 0 ≤ a2.toInt from r2) (show a2.toInt ≤ 400 from t3) (show 0 ≤ x15.toInt by first | with_reducible assumption | omega) (show x15.toInt ≤ 400 by first | with_reducible assumption | omega) (show (400 - x15.toInt).toNat < n2 by first | exact tn_lt hm2 (by omega) (by omega) | omega) hw (hT.up (show (B + 9 + 9 * v2_3.toInt) ≤ (B + 0 + 9 * x15.toInt) by omega)) hF  (lv_sub hl [1, 2, 3, 0] rfl)
          · have c14 : r7.toInt = (4 : Int) := wk_eq.mp c14
            refine lv_iload_n hx hb dX1_takeSteps_16 rfl (lv_at hl 3 rfl) ?_
            exact tk_iret hC hr hlocks hK ⟨(hT.up (show (B + 9 + 9 * v2_3.toInt) ≤ (B + 3600) by omega)), hF, ⟨(show 0 ≤ v2_3.toInt from r4), (show v2_3.toInt ≤ 400 from t5)⟩⟩ hw dX1_takeSteps_17
        · refine lv_iconst (v := 4) hx hb dX1_takeSteps_12 (by decide) ?_
          refine lv_icmp_ne (tgt := 18) hx hb dX1_takeSteps_13 (by decide) (fun c => absurd (by decide) c) (fun _ => ?_)
          refine lv_iload_n hx hb dX1_takeSteps_16 rfl (lv_at hl 3 rfl) ?_
          exact tk_iret hC hr hlocks hK ⟨(hT.up (show (B + 9 + 9 * v2_3.toInt) ≤ (B + 3600) by omega)), hF, ⟨(show 0 ≤ v2_3.toInt from r4), (show v2_3.toInt ≤ 400 from t5)⟩⟩ hw dX1_takeSteps_17
  refine lv_iconst (v := 0) hx hb dX1_takeSteps_0 (by decide) ?_
  refine lv_istore_n (lv' := [(3, .int 0), (0, .ref (ad 149)), (1, .ref (ad 152)), (2, .int a2)]) hx hb dX1_takeSteps_1 rfl hl (by decide) rfl (fun ls hl => ?_)
  exact L2 ((400 - (0 : Int)).toNat + 1) 0 s.heap locs ls w0 (show 0 ≤ a2.toInt from ra2) (show a2.toInt ≤ 400 from ta2) (by decide) (by decide) (Nat.lt_succ_self _) hw (hT.up (show B ≤ (B + 0 + 9 * (0 : Int32).toInt) by rw [show (0 : Int32).toInt = 0 by decide]; omega)) hF  (lv_sub hl [1, 2, 3, 0] rfl)
abbrev P_X8_tellComing_1 (ad : Nat → Nat) (cy : Nat → ClassId) (B : Int) (qr : Nat) (s1 : Int) (q1_ : Nat) (a2 : Int32) (a3 : Int32) (w0 : va_W) : Int32 → va_W → Prop := fun r u => TW ksC ad cy (B + 3600) qr s1 u ∧ FE ksC [(1, 4, 4), (1, 5, 5), (1, 6, 6), (1, 7, 7), (1, 8, 8), (9, 0, 0), (9, 1, 1), (9, 2, 2), (9, 3, 3), (9, 4, 4), (9, 5, 5), (9, 6, 6), (9, 7, 7), (9, 8, 8), (45, 0, 64)] w0 u ∧ ((True) ∨ (r = (-2) ∧ a3.toInt ≤ 0) ∨ (0 ≤ r.toInt ∧ r.toInt ≤ 400 ∧ 1 ≤ a3.toInt ∧ a3.toInt ≤ 1))
set_option maxHeartbeats 4000000 in
set_option maxRecDepth 100000 in
theorem k_X8_tellComing_1 (l : Launch) (adK adV : Nat → Nat) (dC : Nat → ClassId) (dI : Nat → Nat → Nat) (cy : Nat → ClassId) (ad : Nat → Nat) (B : Int) (hB0 : 2147483648 ≤ B) (hB1 : B ≤ 1152921504606843376) (qr : Nat) (s1 : Int)  (q1_ : Nat) (hkq1_ : ksC[q1_]? = some 9) (a2 : Int32) (ra2 : 0 ≤ a2.toInt) (ta2 : a2.toInt ≤ 400) (a3 : Int32) (ra3 : 0 ≤ a3.toInt) (ta3 : a3.toInt ≤ 2) (w0 : va_W) (sz : Nat) (hT : TW ksC ad cy B qr s1 w0)  : Met l yX8_tellComing (wu yX8_tellComing cX8_tellComing 5 (some .int)) ({ frames := 7, cells := 0, slots := 0, locals := 158 }) (va_Pc [.ref (ad 151), .ref (ad q1_), .int a2, .int a3] (wpreS adK adV dC dI cy sz w0)) (va_Qi (P_X8_tellComing_1 ad cy B qr s1 q1_ a2 a3 w0) (fun u : va_W => wpost dC dI cy (va_A w0 sz) u) (va_A w0 sz)) 0 0 (va_A w0 sz) := by
  refine Met.ofW (cc := cX8_tellComing) (maxL := 5) (ret := (some .int)) (by decide) rfl ?_
  intro p e s m args below meth c s₁ Bk hml hv
  obtain ⟨rfl, ⟨hsz, hP, hK, hD0⟩, hE, hSR⟩ := hv
  have hx := Bk.exec
  have hb := Bk.bytes
  have hr := Bk.returns
  have hlocks := Bk.notSynchronized
  have hC : CallFix p m c cX8_tellComing 5 s _ (wu yX8_tellComing cX8_tellComing 5 (some .int)) RX8 := ⟨hx, hb, hml, findClass_of_methodNamed Bk.named, atoms_spec (ws := (wu yX8_tellComing cX8_tellComing 5 (some .int))) Bk.pre⟩
  subst hsz
  have hD := hD0.self (sz := s.heap.size)
  generalize hAe : va_A w0 s.heap.size = A at hD hE ⊢
  have hA : ∀ q : Nat, s.heap.size ≤ q → A q := fun q h => by rw [← hAe]; exact Or.inr h
  have hw : Wd dC dI A s.heap s.heap [] w0 := ⟨hP, hD, va_S.rf⟩
  have hF : FE ksC [(1, 4, 4), (1, 5, 5), (1, 6, 6), (1, 7, 7), (1, 8, 8), (9, 0, 0), (9, 1, 1), (9, 2, 2), (9, 3, 3), (9, 4, 4), (9, 5, 5), (9, 6, 6), (9, 7, 7), (9, 8, 8), (45, 0, 64)] w0 w0 := FE.rf
  have hl := lv_entry ([.ref (ad 151), .ref (ad q1_), .int a2, .int a3]) (n := 5) (Nat.le_of_ble_eq_true rfl)
  rw [lg_entry_eq]
  generalize (lg_sl ([.ref (ad 151), .ref (ad q1_), .int a2, .int a3]) ++ List.replicate (5 - (lg_sl ([.ref (ad 151), .ref (ad q1_), .int a2, .int a3])).length) Slot.unset).toArray = ls at hl ⊢
  have hl : lv_has ls 5 [(0, .ref (ad 151)), (1, .ref (ad q1_)), (2, .int a2), (3, .int a3)] := hl
  generalize hloc : ([] : List Loc) = locs at hw ⊢
  have hinX8 : ∀ w ∈ u_ws RX8 TX8 8, w ∈ (wu yX8_tellComing cX8_tellComing 5 (some .int)) := fun _ h => List.mem_cons_of_mem _ (up_79 h)
  have hinX9 : ∀ w ∈ u_ws RX9 TX9 9, w ∈ (wu yX8_tellComing cX8_tellComing 5 (some .int)) := fun _ h => List.mem_cons_of_mem _ (up_82 h)
  refine lv_aload_n hx hb dX8_tellComing_0 rfl (lv_at hl 0 rfl) ?_
  refine tk_getA hC hK hw hT hinX8 kC_at151 (by decide) rfl 3 (by decide) (List.mem_cons_of_mem _ uw_5_8) rfl rfl dX8_tellComing_1 ?_
  refine lv_aload_n hx hb dX8_tellComing_4 rfl (lv_at hl 1 rfl) ?_
  refine tk_Vv hC hK hw hT hA hE hSR kC_at152 (by decide) rfl (k_X9_copyFrom_1 l adK adV dC dI cy ad B hB0 (Int.le_trans hB1 (by decide)) qr s1   q1_ hkq1_ w0 s.heap.size hT ) (cwV 1 hC.2.2.2.2 uV_RX8_37 rfl rfl rfl (by decide +kernel) ⟨Nat.le_of_ble_eq_true rfl, Nat.le_of_ble_eq_true rfl⟩) rfl hl.1 rfl (Nat.le_of_ble_eq_true rfl) dX8_tellComing_5 (fun w3 H locs hp2 hw => ?_)
  obtain ⟨hT, k4, hg5⟩ := hp2
  have hF := hF.tr k4 (by decide)
  clear hg5
  refine lv_aload_n hx hb dX8_tellComing_8 rfl (lv_at hl 0 rfl) ?_
  refine tk_getA hC hK hw hT hinX8 kC_at151 (by decide) rfl 2 (by decide) (List.mem_cons_of_mem _ uw_5_13) rfl rfl dX8_tellComing_9 ?_
  refine lv_aload_n hx hb dX8_tellComing_12 rfl (lv_at hl 0 rfl) ?_
  refine tk_getA hC hK hw hT hinX8 kC_at151 (by decide) rfl 3 (by decide) (List.mem_cons_of_mem _ uw_5_8) rfl rfl dX8_tellComing_13 ?_
  refine lv_iload_n hx hb dX8_tellComing_16 rfl (lv_at hl 2 rfl) ?_
  refine tk_Vi hC hK hw hT hA hE hSR kC_at149 (by decide) rfl (k_X1_takeSteps_2 l adK adV dC dI cy ad B hB0 (Int.le_trans hB1 (by decide)) qr s1   a2 (show 0 ≤ a2.toInt from ra2) (show a2.toInt ≤ 400 from ta2) w3 H.size hT ) (cwV 2 hC.2.2.2.2 uV_RX8_41 rfl rfl rfl (by decide +kernel) ⟨Nat.le_of_ble_eq_true rfl, Nat.le_of_ble_eq_true rfl⟩) rfl hl.1 rfl (Nat.le_of_ble_eq_true rfl) dX8_tellComing_17 (fun r6 w8 H locs hp7 hw => ?_)
  obtain ⟨hT, k9, hg12⟩ := hp7
  have hF := hF.tr k9 (by decide)
  obtain ⟨g10, g11⟩ := hg12
  refine lv_istore (lv' := [(4, .int r6), (0, .ref (ad 151)), (1, .ref (ad q1_)), (2, .int a2), (3, .int a3)]) hx hb dX8_tellComing_20 hl (by decide) rfl (fun ls hl => ?_)
  refine lv_iload_n hx hb dX8_tellComing_22 rfl (lv_at hl 4 rfl) ?_
  refine lv_if_ne (tgt := 50) hx hb dX8_tellComing_23 (by decide) (fun c13 => ?_) (fun c13 => ?_)
  · have c13 : ¬ a3.toInt = (0 : Int) := wk_eqF c13
    refine lv_iload_n hx hb dX8_tellComing_50 rfl (lv_at hl 4 rfl) ?_
    refine lv_iconst (v := 1) hx hb dX8_tellComing_51 (by decide) ?_
    refine lv_icmp_ne (tgt := 60) hx hb dX8_tellComing_52 (by decide) (fun c14 => ?_) (fun c14 => ?_)
    · have c14 : ¬ a3.toInt = (1 : Int) := wk_eqF c14
      refine lv_aload_n hx hb dX8_tellComing_60 rfl (lv_at hl 1 rfl) ?_
      refine tk_getA hC hK hw hT hinX8 kC_at151 (by decide) rfl 3 (by decide) (List.mem_cons_of_mem _ uw_5_8) rfl rfl dX8_tellComing_61 ?_
      refine tk_geti hC hK hw hT hinX9 kC_at152 (by decide) rfl 6 (by decide) (List.mem_cons_of_mem _ uw_53_11) rfl rfl dX8_tellComing_64 (fun x15 c16 rx15 tx15 => ?_)
      refine lv_aload_n hx hb dX8_tellComing_67 rfl (lv_at hl 2 rfl) ?_
      refine tk_geti hC hK hw hT hinX9 hkq1_ (by decide) rfl 6 (by decide) (List.mem_cons_of_mem _ uw_53_11) rfl rfl dX8_tellComing_68 (fun x17 c18 rx17 tx17 => ?_)
      refine lv_isub hx hb dX8_tellComing_71 ?_
      have nx19 := wk_i32 x15
      have nx20 := wk_i32 x17
      refine lv_topi (fun x21 ex21 => ?_)
      exact tk_iret hC hr hlocks hK ⟨hT, hF, (Or.inl trivial)⟩ hw dX8_tellComing_72
    · have c14 : a3.toInt = (1 : Int) := wk_eq.mp c14
      refine lv_iload hx hb dX8_tellComing_55 (lv_at hl 0 rfl) ?_
      refine lv_goto (tgt := 72) hx hb dX8_tellComing_57 (by decide) ?_
      exact tk_iret hC hr hlocks hK ⟨hT, hF, (Or.inr (Or.inr ⟨(show 0 ≤ r6.toInt by first | with_reducible assumption | omega), (show r6.toInt ≤ 400 by first | with_reducible assumption | omega), (show 1 ≤ a3.toInt by first | with_reducible assumption | omega), (show a3.toInt ≤ 1 by first | with_reducible assumption | omega)⟩))⟩ hw dX8_tellComing_72
  · have c13 : a3.toInt = (0 : Int) := wk_eq.mp c13
    refine lv_aload_n hx hb dX8_tellComing_26 rfl (lv_at hl 1 rfl) ?_
    refine tk_getA hC hK hw hT hinX8 kC_at151 (by decide) rfl 3 (by decide) (List.mem_cons_of_mem _ uw_5_8) rfl rfl dX8_tellComing_27 ?_
    refine tk_Vi hC hK hw hT hA hE hSR kC_at152 (by decide) rfl (k_X9_isAtGoal_2 l adK adV dC dI cy ad (B + 3600) (by omega) (by omega) qr s1    w8 H.size hT ) (cwV 0 hC.2.2.2.2 uV_RX8_47 rfl rfl rfl (by decide +kernel) ⟨Nat.le_of_ble_eq_true rfl, Nat.le_of_ble_eq_true rfl⟩) rfl hl.1 rfl (Nat.le_of_ble_eq_true rfl) dX8_tellComing_30 (fun r22 w24 H locs hp23 hw => ?_)
    obtain ⟨hT, k25, hg26⟩ := hp23
    have hF := hF.tr k25 (by decide)
    rcases hg26 with rfl | rfl
    · refine lv_if_eq (tgt := 47) hx hb dX8_tellComing_33 (by decide) (fun _ => ?_) (fun c => absurd (by decide) c)
      refine lv_bipush (v := (-2)) hx hb dX8_tellComing_47 (by decide) ?_
      exact tk_iret hC hr hlocks hK ⟨hT, hF, (Or.inr (Or.inl ⟨rfl, (show a3.toInt ≤ 0 by first | with_reducible assumption | omega)⟩))⟩ hw dX8_tellComing_49
    · refine lv_if_eq (tgt := 47) hx hb dX8_tellComing_33 (by decide) (fun c => absurd c (by decide)) (fun _ => ?_)
      refine lv_aload_n hx hb dX8_tellComing_36 rfl (lv_at hl 1 rfl) ?_
      refine tk_getA hC hK hw hT hinX8 kC_at151 (by decide) rfl 3 (by decide) (List.mem_cons_of_mem _ uw_5_8) rfl rfl dX8_tellComing_37 ?_
      refine tk_getB hC hK hw hT hinX9 kC_at152 (by decide) rfl 4 (by decide) (List.mem_cons_of_mem _ uw_53_10) rfl rfl dX8_tellComing_40 (fun x27 c28 rx27 tx27 => ?_)
      refine lv_l2i hx hb dX8_tellComing_43 rfl ?_
      refine lv_topi (fun x29 ex29 => ?_)
      refine lv_goto (tgt := 49) hx hb dX8_tellComing_44 (by decide) ?_
      exact tk_iret hC hr hlocks hK ⟨hT, hF, (Or.inl trivial)⟩ hw dX8_tellComing_49
abbrev P_X11_comes_1 (ad : Nat → Nat) (cy : Nat → ClassId) (B : Int) (qr : Nat) (s1 : Int) (a1 : Int32) (a2 : Int32) (a3 : Int32) (w0 : va_W) : Int32 → va_W → Prop := fun r u => TW ksC ad cy (B + 3600) qr s1 u ∧ FA ksC [(1, 4, 4), (1, 5, 5), (1, 6, 6), (1, 7, 7), (1, 8, 8), (9, 0, 0), (9, 1, 1), (9, 2, 2), (9, 3, 3), (9, 4, 4), (9, 5, 5), (9, 6, 6), (9, 7, 7), (9, 8, 8), (42, 0, 1100), (43, 0, 1100), (44, 0, 11), (45, 0, 64)] w0 u ∧ ((0 ≤ a1.toInt ∧ a1.toInt ≤ 3 ∧ 0 ≤ a2.toInt ∧ a2.toInt ≤ 400 ∧ 0 ≤ a3.toInt ∧ a3.toInt ≤ 2 ∧ (∃ y : Int32, gi u 38 9 = y ∧ 1 ≤ y.toInt ∧ y.toInt ≤ 4)) ∨ (r = (-2) ∧ 0 ≤ a1.toInt ∧ a1.toInt ≤ 3 ∧ 0 ≤ a2.toInt ∧ a2.toInt ≤ 400 ∧ 0 ≤ a3.toInt ∧ a3.toInt ≤ 0 ∧ (∃ y : Int32, gi u 38 9 = y ∧ 1 ≤ y.toInt ∧ y.toInt ≤ 4)) ∨ (0 ≤ r.toInt ∧ r.toInt ≤ 400 ∧ 0 ≤ a1.toInt ∧ a1.toInt ≤ 3 ∧ 0 ≤ a2.toInt ∧ a2.toInt ≤ 400 ∧ 1 ≤ a3.toInt ∧ a3.toInt ≤ 1 ∧ (∃ y : Int32, gi u 38 9 = y ∧ 1 ≤ y.toInt ∧ y.toInt ≤ 4)) ∨ (r = (-1)))
set_option maxHeartbeats 4000000 in
set_option maxRecDepth 100000 in
theorem k_X11_comes_1 (l : Launch) (adK adV : Nat → Nat) (dC : Nat → ClassId) (dI : Nat → Nat → Nat) (cy : Nat → ClassId) (ad : Nat → Nat) (B : Int) (hB0 : 2147483648 ≤ B) (hB1 : B ≤ 1152921504606843376) (qr : Nat) (s1 : Int)  (a1 : Int32) (a2 : Int32) (a3 : Int32) (w0 : va_W) (sz : Nat) (hT : TW ksC ad cy B qr s1 w0)  : Met l yX11_comes (wu yX11_comes cX11_comes 4 (some .int)) ({ frames := 8, cells := 0, slots := 0, locals := 182 }) (va_Pc [.ref (ad 0), .int a1, .int a2, .int a3] (wpreS adK adV dC dI cy sz w0)) (va_Qi (P_X11_comes_1 ad cy B qr s1 a1 a2 a3 w0) (fun u : va_W => wpost dC dI cy (va_A w0 sz) u) (va_A w0 sz)) 0 0 (va_A w0 sz) := by
  refine Met.ofW (cc := cX11_comes) (maxL := 4) (ret := (some .int)) (by decide) rfl ?_
  intro p e s m args below meth c s₁ Bk hml hv
  obtain ⟨rfl, ⟨hsz, hP, hK, hD0⟩, hE, hSR⟩ := hv
  have hx := Bk.exec
  have hb := Bk.bytes
  have hr := Bk.returns
  have hlocks := Bk.notSynchronized
  have hC : CallFix p m c cX11_comes 4 s _ (wu yX11_comes cX11_comes 4 (some .int)) RX11 := ⟨hx, hb, hml, findClass_of_methodNamed Bk.named, atoms_spec (ws := (wu yX11_comes cX11_comes 4 (some .int))) Bk.pre⟩
  subst hsz
  have hD := hD0.self (sz := s.heap.size)
  generalize hAe : va_A w0 s.heap.size = A at hD hE ⊢
  have hA : ∀ q : Nat, s.heap.size ≤ q → A q := fun q h => by rw [← hAe]; exact Or.inr h
  have hw : Wd dC dI A s.heap s.heap [] w0 := ⟨hP, hD, va_S.rf⟩
  have hF : FA ksC [(1, 4, 4), (1, 5, 5), (1, 6, 6), (1, 7, 7), (1, 8, 8), (9, 0, 0), (9, 1, 1), (9, 2, 2), (9, 3, 3), (9, 4, 4), (9, 5, 5), (9, 6, 6), (9, 7, 7), (9, 8, 8), (42, 0, 1100), (43, 0, 1100), (44, 0, 11), (45, 0, 64)] w0 w0 := FA.rf
  have hl := lv_entry ([.ref (ad 0), .int a1, .int a2, .int a3]) (n := 4) (Nat.le_of_ble_eq_true rfl)
  rw [lg_entry_eq]
  generalize (lg_sl ([.ref (ad 0), .int a1, .int a2, .int a3]) ++ List.replicate (4 - (lg_sl ([.ref (ad 0), .int a1, .int a2, .int a3])).length) Slot.unset).toArray = ls at hl ⊢
  have hl : lv_has ls 4 [(0, .ref (ad 0)), (1, .int a1), (2, .int a2), (3, .int a3)] := hl
  generalize hloc : ([] : List Loc) = locs at hw ⊢
  have hinX11 : ∀ w ∈ u_ws RX11 TX11 13, w ∈ (wu yX11_comes cX11_comes 4 (some .int)) := fun _ h => List.mem_cons_of_mem _ (up_70 h)
  have hinX5 : ∀ w ∈ u_ws RX5 TX5 14, w ∈ (wu yX11_comes cX11_comes 4 (some .int)) := fun _ h => List.mem_cons_of_mem _ (up_76 h)
  have J28 : ∀ (H : Heap) (locs : List Loc) (ls : Array Slot) (w1 : va_W), Wd dC dI A s.heap H locs w1 → TW ksC ad cy B qr s1 w1 → FA ksC [(1, 4, 4), (1, 5, 5), (1, 6, 6), (1, 7, 7), (1, 8, 8), (9, 0, 0), (9, 1, 1), (9, 2, 2), (9, 3, 3), (9, 4, 4), (9, 5, 5), (9, 6, 6), (9, 7, 7), (9, 8, 8), (42, 0, 1100), (43, 0, 1100), (44, 0, 11), (45, 0, 64)] w0 w1 → lv_has ls 4 [(0, .ref (ad 0)), (1, .int a1), (2, .int a2), (3, .int a3)] → W p l e ({ frames := 8, cells := 0, slots := 0, locals := 182 }) s m (List.toArray [.ref (ad 0), .int a1, .int a2, .int a3]) below meth c H locs 0 0 (MQ below (va_Qi (P_X11_comes_1 ad cy B qr s1 a1 a2 a3 w0) (fun u : va_W => wpost dC dI cy A u) A) (List.toArray [.ref (ad 0), .int a1, .int a2, .int a3]) s 0 0 A) (F0 m 28 ls []) := by
    intro H locs ls w1 hw hT hF hl
    refine lv_iconst (v := (-1)) hx hb dX11_comes_28 (by decide) ?_
    exact tk_iret hC hr hlocks hK ⟨(hT.up (show B ≤ (B + 3600) by omega)), hF, (Or.inr (Or.inr (Or.inr rfl)))⟩ hw dX11_comes_29
  refine lv_aload_n hx hb dX11_comes_0 rfl (lv_at hl 0 rfl) ?_
  refine lv_iload_n hx hb dX11_comes_1 rfl (lv_at hl 1 rfl) ?_
  refine tk_Vi hC hK hw hT hA hE hSR kC_at0 (by decide) rfl (k_X11_hasWalker_1 l adK adV dC dI cy ad B hB0 (Int.le_trans hB1 (by decide)) qr s1   a1 w0 s.heap.size hT ) (cwV 1 hC.2.2.2.2 uV_RX11_205 rfl rfl rfl (by decide +kernel) ⟨Nat.le_of_ble_eq_true rfl, Nat.le_of_ble_eq_true rfl⟩) rfl hl.1 rfl (Nat.le_of_ble_eq_true rfl) dX11_comes_2 (fun r2 w4 H locs hp3 hw => ?_)
  obtain ⟨hT, k5, hg10⟩ := hp3
  have hF := hF.tr k5 (by decide)
  rcases hg10 with rfl | ⟨rfl, g6, g7, ⟨x8, c9, rx8, tx8⟩⟩
  · refine lv_if_eq (tgt := 28) hx hb dX11_comes_5 (by decide) (fun _ => ?_) (fun c => absurd (by decide) c)
    exact J28  H locs ls w4   hw hT hF  (lv_sub hl [0, 1, 2, 3] rfl)
  · refine lv_if_eq (tgt := 28) hx hb dX11_comes_5 (by decide) (fun c => absurd c (by decide)) (fun _ => ?_)
    refine lv_iload_n hx hb dX11_comes_8 rfl (lv_at hl 2 rfl) ?_
    refine lv_if_lt (tgt := 28) hx hb dX11_comes_9 (by decide) (fun c11 => ?_) (fun c11 => ?_)
    · have c11 : a2.toInt < (0 : Int) := wk_lt.mp c11
      exact J28  H locs ls w4   hw hT hF  (lv_sub hl [0, 1, 2, 3] rfl)
    · have c11 : (0 : Int) ≤ a2.toInt := wk_ltF c11
      refine lv_iload_n hx hb dX11_comes_12 rfl (lv_at hl 2 rfl) ?_
      refine lv_sipush (v := 400) hx hb dX11_comes_13 (by decide) ?_
      refine lv_icmp_gt (tgt := 28) hx hb dX11_comes_16 (by decide) (fun c12 => ?_) (fun c12 => ?_)
      · have c12 : (400 : Int) < a2.toInt := wk_lt.mp c12
        exact J28  H locs ls w4   hw hT hF  (lv_sub hl [0, 1, 2, 3] rfl)
      · have c12 : a2.toInt ≤ (400 : Int) := wk_ltF c12
        refine lv_iload_n hx hb dX11_comes_19 rfl (lv_at hl 3 rfl) ?_
        refine lv_if_lt (tgt := 28) hx hb dX11_comes_20 (by decide) (fun c13 => ?_) (fun c13 => ?_)
        · have c13 : a3.toInt < (0 : Int) := wk_lt.mp c13
          exact J28  H locs ls w4   hw hT hF  (lv_sub hl [0, 1, 2, 3] rfl)
        · have c13 : (0 : Int) ≤ a3.toInt := wk_ltF c13
          refine lv_iload_n hx hb dX11_comes_23 rfl (lv_at hl 3 rfl) ?_
          refine lv_iconst (v := 2) hx hb dX11_comes_24 (by decide) ?_
          refine lv_icmp_le (tgt := 30) hx hb dX11_comes_25 (by decide) (fun c14 => ?_) (fun c14 => ?_)
          · have c14 : a3.toInt ≤ (2 : Int) := wk_le.mp c14
            refine lv_aload_n hx hb dX11_comes_30 rfl (lv_at hl 0 rfl) ?_
            refine tk_getA hC hK hw hT hinX11 kC_at0 (by decide) rfl 7 (by decide) (List.mem_cons_of_mem _ uw_1_14) rfl rfl dX11_comes_31 ?_
            refine tk_Vv hC hK hw hT hA hE hSR kC_at145 (by decide) rfl (kz_X0_refreshAll_1 l adK adV dC dI cy ad B hB0 (Int.le_trans hB1 (by decide)) qr s1    w4 H.size hT ) (cwV 0 hC.2.2.2.2 uV_RX11_212 rfl rfl rfl (by decide +kernel) ⟨Nat.le_of_ble_eq_true rfl, Nat.le_of_ble_eq_true rfl⟩) rfl hl.1 rfl (Nat.le_of_ble_eq_true rfl) dX11_comes_34 (fun w17 H locs hp16 hw => ?_)
            obtain ⟨hT, k18, hev, hg19⟩ := hp16
            have hF := hF.ra k18 hev (by decide)
            have c20 := k18.gi kC_at38 (by decide) c9
            clear hg19
            refine lv_aload_n hx hb dX11_comes_37 rfl (lv_at hl 0 rfl) ?_
            refine tk_getA hC hK hw hT hinX11 kC_at0 (by decide) rfl 9 (by decide) (List.mem_cons_of_mem _ uw_1_22) rfl rfl dX11_comes_38 ?_
            refine lv_aload_n hx hb dX11_comes_41 rfl (lv_at hl 0 rfl) ?_
            refine tk_getA hC hK hw hT hinX11 kC_at0 (by decide) rfl 4 (by decide) (List.mem_cons_of_mem _ uw_1_7) rfl rfl dX11_comes_42 ?_
            refine tk_getO hC hK hw hT hinX5 kC_at38 (by decide) rfl 2 (by decide) (List.mem_cons_of_mem _ uw_39_0) rfl rfl dX11_comes_45 ?_
            refine lv_iload_n hx hb dX11_comes_48 rfl (lv_at hl 1 rfl) ?_
            refine tk_aald hC hK hw hT kC_at49 rfl (by decide) rfl (show 0 ≤ a1.toInt by first | with_reducible assumption | omega) (show a1.toInt < 4 by first | with_reducible assumption | omega) dX11_comes_49 (fun j21 hj21 gj21 => ?_)
            refine lv_iload_n hx hb dX11_comes_50 rfl (lv_at hl 2 rfl) ?_
            refine lv_iload_n hx hb dX11_comes_51 rfl (lv_at hl 3 rfl) ?_
            refine tk_Vi hC hK hw hT hA hE hSR kC_at151 (by decide) rfl (k_X8_tellComing_1 l adK adV dC dI cy ad B hB0 (Int.le_trans hB1 (by decide)) qr s1   (el 33 49 j21) (kC_el33 kC_at49 hj21) a2 (show 0 ≤ a2.toInt from c11) (show a2.toInt ≤ 400 from c12) a3 (show 0 ≤ a3.toInt from c13) (show a3.toInt ≤ 2 from c14) w17 H.size hT ) (cwV 3 hC.2.2.2.2 uV_RX11_232 rfl rfl rfl (by decide +kernel) ⟨Nat.le_of_ble_eq_true rfl, Nat.le_of_ble_eq_true rfl⟩) rfl hl.1 rfl (Nat.le_of_ble_eq_true rfl) dX11_comes_52 (fun r22 w24 H locs hp23 hw => ?_)
            obtain ⟨hT, k25, hg31⟩ := hp23
            have hF := hF.tr k25 (by decide)
            have c32 := k25.gi kC_at38 (by decide) c20
            rcases hg31 with - | ⟨rfl, g26⟩ | ⟨g27, g28, g29, g30⟩
            · exact tk_iret hC hr hlocks hK ⟨hT, hF, (Or.inl ⟨(show 0 ≤ a1.toInt by first | with_reducible assumption | omega), (show a1.toInt ≤ 3 by first | with_reducible assumption | omega), (show 0 ≤ a2.toInt from c11), (show a2.toInt ≤ 400 from c12), (show 0 ≤ a3.toInt from c13), (show a3.toInt ≤ 2 from c14), ⟨x8, c32, (show 1 ≤ x8.toInt by first | with_reducible assumption | omega), (show x8.toInt ≤ 4 by first | with_reducible assumption | omega)⟩⟩)⟩ hw dX11_comes_55
            · exact tk_iret hC hr hlocks hK ⟨hT, hF, (Or.inr (Or.inl ⟨rfl, (show 0 ≤ a1.toInt by first | with_reducible assumption | omega), (show a1.toInt ≤ 3 by first | with_reducible assumption | omega), (show 0 ≤ a2.toInt from c11), (show a2.toInt ≤ 400 from c12), (show 0 ≤ a3.toInt from c13), (show a3.toInt ≤ 0 by first | with_reducible assumption | omega), ⟨x8, c32, (show 1 ≤ x8.toInt by first | with_reducible assumption | omega), (show x8.toInt ≤ 4 by first | with_reducible assumption | omega)⟩⟩))⟩ hw dX11_comes_55
            · exact tk_iret hC hr hlocks hK ⟨hT, hF, (Or.inr (Or.inr (Or.inl ⟨(show 0 ≤ r22.toInt by first | with_reducible assumption | omega), (show r22.toInt ≤ 400 by first | with_reducible assumption | omega), (show 0 ≤ a1.toInt by first | with_reducible assumption | omega), (show a1.toInt ≤ 3 by first | with_reducible assumption | omega), (show 0 ≤ a2.toInt from c11), (show a2.toInt ≤ 400 from c12), (show 1 ≤ a3.toInt by first | with_reducible assumption | omega), (show a3.toInt ≤ 1 by first | with_reducible assumption | omega), ⟨x8, c32, (show 1 ≤ x8.toInt by first | with_reducible assumption | omega), (show x8.toInt ≤ 4 by first | with_reducible assumption | omega)⟩⟩)))⟩ hw dX11_comes_55
          · have c14 : (2 : Int) < a3.toInt := wk_leF c14
            exact J28  H locs ls w4   hw hT hF  (lv_sub hl [0, 1, 2, 3] rfl)
abbrev P_X8_ghostKey_1 (ad : Nat → Nat) (cy : Nat → ClassId) (B : Int) (qr : Nat) (s1 : Int)  (w0 : va_W) : Int32 → va_W → Prop := fun r u => TW ksC ad cy B qr s1 u ∧ FE ksC ([] : List (Nat × Nat × Nat)) w0 u ∧ ((0 ≤ r.toInt ∧ r.toInt ≤ 18479))
set_option maxHeartbeats 4000000 in
set_option maxRecDepth 100000 in
theorem k_X8_ghostKey_1 (l : Launch) (adK adV : Nat → Nat) (dC : Nat → ClassId) (dI : Nat → Nat → Nat) (cy : Nat → ClassId) (ad : Nat → Nat) (B : Int) (hB0 : 2147483648 ≤ B) (hB1 : B ≤ 1152921504606846976) (qr : Nat) (s1 : Int)   (w0 : va_W) (sz : Nat) (hT : TW ksC ad cy B qr s1 w0)  : Met l yX8_ghostKey (wu yX8_ghostKey cX8_ghostKey 2 (some .int)) ({ frames := 1, cells := 0, slots := 0, locals := 12 }) (va_Pc [.ref (ad 151)] (wpreS adK adV dC dI cy sz w0)) (va_Qi (P_X8_ghostKey_1 ad cy B qr s1  w0) (fun u : va_W => wpost dC dI cy (va_A w0 sz) u) (va_A w0 sz)) 0 0 (va_A w0 sz) := by
  refine Met.ofW (cc := cX8_ghostKey) (maxL := 2) (ret := (some .int)) (by decide) rfl ?_
  intro p e s m args below meth c s₁ Bk hml hv
  obtain ⟨rfl, ⟨hsz, hP, hK, hD0⟩, hE, hSR⟩ := hv
  have hx := Bk.exec
  have hb := Bk.bytes
  have hr := Bk.returns
  have hlocks := Bk.notSynchronized
  have hC : CallFix p m c cX8_ghostKey 2 s _ (wu yX8_ghostKey cX8_ghostKey 2 (some .int)) RX8 := ⟨hx, hb, hml, findClass_of_methodNamed Bk.named, atoms_spec (ws := (wu yX8_ghostKey cX8_ghostKey 2 (some .int))) Bk.pre⟩
  subst hsz
  have hD := hD0.self (sz := s.heap.size)
  generalize hAe : va_A w0 s.heap.size = A at hD hE ⊢
  have hA : ∀ q : Nat, s.heap.size ≤ q → A q := fun q h => by rw [← hAe]; exact Or.inr h
  have hw : Wd dC dI A s.heap s.heap [] w0 := ⟨hP, hD, va_S.rf⟩
  have hF : FE ksC ([] : List (Nat × Nat × Nat)) w0 w0 := FE.rf
  have hl := lv_entry ([.ref (ad 151)]) (n := 2) (Nat.le_of_ble_eq_true rfl)
  rw [lg_entry_eq]
  generalize (lg_sl ([.ref (ad 151)]) ++ List.replicate (2 - (lg_sl ([.ref (ad 151)])).length) Slot.unset).toArray = ls at hl ⊢
  have hl : lv_has ls 2 [(0, .ref (ad 151))] := hl
  generalize hloc : ([] : List Loc) = locs at hw ⊢
  have hinX8 : ∀ w ∈ u_ws RX8 TX8 8, w ∈ (wu yX8_ghostKey cX8_ghostKey 2 (some .int)) := fun _ h => List.mem_cons_of_mem _ (up_79 h)
  have hinX9 : ∀ w ∈ u_ws RX9 TX9 9, w ∈ (wu yX8_ghostKey cX8_ghostKey 2 (some .int)) := fun _ h => List.mem_cons_of_mem _ (up_82 h)
  refine lv_aload_n hx hb dX8_ghostKey_0 rfl (lv_at hl 0 rfl) ?_
  refine tk_getA hC hK hw hT hinX8 kC_at151 (by decide) rfl 3 (by decide) (List.mem_cons_of_mem _ uw_5_8) rfl rfl dX8_ghostKey_1 ?_
  refine tk_getB hC hK hw hT hinX9 kC_at152 (by decide) rfl 4 (by decide) (List.mem_cons_of_mem _ uw_53_10) rfl rfl dX8_ghostKey_4 (fun x1 c2 rx1 tx1 => ?_)
  refine lv_ldc2 (v := 168) hx hb hC.2.2.2.1 (hC.2.2.2.2 _ (List.mem_cons_of_mem _ uw_55_2)) dX8_ghostKey_7 ?_
  refine lv_lrem hx hb dX8_ghostKey_10 (by decide) ?_
  refine lv_topl (fun x3 ex3 => ?_)
  have ex3 : x3.toInt = x1.toInt % (168 : Int) := by rw [ex3]; exact wk_reml (show 0 ≤ x1.toInt by first | with_reducible assumption | omega) (show 0 < (168 : Int) by decide)
  refine lv_l2i hx hb dX8_ghostKey_11 rfl ?_
  refine lv_topi (fun x4 ex4 => ?_)
  have ex4 : x4.toInt = x3.toInt := by rw [ex4]; exact wk_l2i (by omega) (by omega)
  refine lv_istore_n (lv' := [(1, .int x4), (0, .ref (ad 151))]) hx hb dX8_ghostKey_12 rfl hl (by decide) rfl (fun ls hl => ?_)
  refine lv_iload_n hx hb dX8_ghostKey_13 rfl (lv_at hl 0 rfl) ?_
  refine lv_bipush (v := 10) hx hb dX8_ghostKey_14 (by decide) ?_
  refine lv_imul hx hb dX8_ghostKey_16 ?_
  refine lv_topi (fun x5 ex5 => ?_)
  have ex5 : x5.toInt = x4.toInt * (10 : Int) := by rw [ex5]; exact wk_mul (show (-2147483648) ≤ x4.toInt * (10 : Int) by omega) (show x4.toInt * (10 : Int) ≤ 2147483647 by omega)
  refine lv_aload_n hx hb dX8_ghostKey_17 rfl (lv_at hl 1 rfl) ?_
  refine tk_getA hC hK hw hT hinX8 kC_at151 (by decide) rfl 3 (by decide) (List.mem_cons_of_mem _ uw_5_8) rfl rfl dX8_ghostKey_18 ?_
  refine tk_geti hC hK hw hT hinX9 kC_at152 (by decide) rfl 0 (by decide) (List.mem_cons_of_mem _ uw_55_3) rfl rfl dX8_ghostKey_21 (fun x6 c7 rx6 tx6 => ?_)
  refine lv_iadd hx hb dX8_ghostKey_24 ?_
  refine lv_topi (fun x8 ex8 => ?_)
  have ex8 : x8.toInt = x5.toInt + x6.toInt := by rw [ex8]; exact wk_add (show (-2147483648) ≤ x5.toInt + x6.toInt by omega) (show x5.toInt + x6.toInt ≤ 2147483647 by omega)
  refine lv_bipush (v := 11) hx hb dX8_ghostKey_25 (by decide) ?_
  refine lv_imul hx hb dX8_ghostKey_27 ?_
  refine lv_topi (fun x9 ex9 => ?_)
  have ex9 : x9.toInt = x8.toInt * (11 : Int) := by rw [ex9]; exact wk_mul (show (-2147483648) ≤ x8.toInt * (11 : Int) by omega) (show x8.toInt * (11 : Int) ≤ 2147483647 by omega)
  refine lv_aload_n hx hb dX8_ghostKey_28 rfl (lv_at hl 1 rfl) ?_
  refine tk_getA hC hK hw hT hinX8 kC_at151 (by decide) rfl 3 (by decide) (List.mem_cons_of_mem _ uw_5_8) rfl rfl dX8_ghostKey_29 ?_
  refine tk_geti hC hK hw hT hinX9 kC_at152 (by decide) rfl 7 (by decide) (List.mem_cons_of_mem _ uw_55_4) rfl rfl dX8_ghostKey_32 (fun x10 c11 rx10 tx10 => ?_)
  refine lv_iadd hx hb dX8_ghostKey_35 ?_
  refine lv_topi (fun x12 ex12 => ?_)
  have ex12 : x12.toInt = x9.toInt + x10.toInt := by rw [ex12]; exact wk_add (show (-2147483648) ≤ x9.toInt + x10.toInt by omega) (show x9.toInt + x10.toInt ≤ 2147483647 by omega)
  refine lv_iconst (v := 1) hx hb dX8_ghostKey_36 (by decide) ?_
  refine lv_iadd hx hb dX8_ghostKey_37 ?_
  refine lv_topi (fun x13 ex13 => ?_)
  have ex13 : x13.toInt = x12.toInt + (1 : Int) := by rw [ex13]; exact wk_add (show (-2147483648) ≤ x12.toInt + (1 : Int) by omega) (show x12.toInt + (1 : Int) ≤ 2147483647 by omega)
  exact tk_iret hC hr hlocks hK ⟨hT, hF, ⟨(show 0 ≤ x13.toInt by first | with_reducible assumption | omega), (show x13.toInt ≤ 18479 by first | with_reducible assumption | omega)⟩⟩ hw dX8_ghostKey_38
abbrev P_X8_findCircle_1 (ad : Nat → Nat) (cy : Nat → ClassId) (B : Int) (qr : Nat) (s1 : Int) (a1 : Int32) (w0 : va_W) : Int32 → va_W → Prop := fun r u => TW ksC ad cy (B + 2709) qr s1 u ∧ FE ksC [(1, 4, 4), (1, 5, 5), (1, 6, 6), (1, 7, 7), (1, 8, 8), (9, 0, 0), (9, 4, 4), (9, 5, 5), (9, 6, 6), (9, 7, 7), (9, 8, 8), (45, 0, 64), (46, 0, 301)] w0 u ∧ (((-298) ≤ r.toInt ∧ r.toInt ≤ 300 ∧ 1 ≤ a1.toInt) ∨ (r = (-2)) ∨ (0 ≤ r.toInt ∧ r.toInt ≤ 299 ∧ a1.toInt ≤ 0))
set_option maxHeartbeats 4000000 in
set_option maxRecDepth 100000 in
theorem k_X8_findCircle_1 (l : Launch) (adK adV : Nat → Nat) (dC : Nat → ClassId) (dI : Nat → Nat → Nat) (cy : Nat → ClassId) (ad : Nat → Nat) (B : Int) (hB0 : 2147483648 ≤ B) (hB1 : B ≤ 1152921504606844267) (qr : Nat) (s1 : Int)  (a1 : Int32) (ra1 : 0 ≤ a1.toInt) (ta1 : a1.toInt ≤ 1) (w0 : va_W) (sz : Nat) (hT : TW ksC ad cy B qr s1 w0)  : Met l yX8_findCircle (wu yX8_findCircle cX8_findCircle 4 (some .int)) ({ frames := 6, cells := 0, slots := 0, locals := 135 }) (va_Pc [.ref (ad 151), .int a1] (wpreS adK adV dC dI cy sz w0)) (va_Qi (P_X8_findCircle_1 ad cy B qr s1 a1 w0) (fun u : va_W => wpost dC dI cy (va_A w0 sz) u) (va_A w0 sz)) 0 0 (va_A w0 sz) := by
  refine Met.ofW (cc := cX8_findCircle) (maxL := 4) (ret := (some .int)) (by decide) rfl ?_
  intro p e s m args below meth c s₁ Bk hml hv
  obtain ⟨rfl, ⟨hsz, hP, hK, hD0⟩, hE, hSR⟩ := hv
  have hx := Bk.exec
  have hb := Bk.bytes
  have hr := Bk.returns
  have hlocks := Bk.notSynchronized
  have hC : CallFix p m c cX8_findCircle 4 s _ (wu yX8_findCircle cX8_findCircle 4 (some .int)) RX8 := ⟨hx, hb, hml, findClass_of_methodNamed Bk.named, atoms_spec (ws := (wu yX8_findCircle cX8_findCircle 4 (some .int))) Bk.pre⟩
  subst hsz
  have hD := hD0.self (sz := s.heap.size)
  generalize hAe : va_A w0 s.heap.size = A at hD hE ⊢
  have hA : ∀ q : Nat, s.heap.size ≤ q → A q := fun q h => by rw [← hAe]; exact Or.inr h
  have hw : Wd dC dI A s.heap s.heap [] w0 := ⟨hP, hD, va_S.rf⟩
  have hF : FE ksC [(1, 4, 4), (1, 5, 5), (1, 6, 6), (1, 7, 7), (1, 8, 8), (9, 0, 0), (9, 4, 4), (9, 5, 5), (9, 6, 6), (9, 7, 7), (9, 8, 8), (45, 0, 64), (46, 0, 301)] w0 w0 := FE.rf
  have hl := lv_entry ([.ref (ad 151), .int a1]) (n := 4) (Nat.le_of_ble_eq_true rfl)
  rw [lg_entry_eq]
  generalize (lg_sl ([.ref (ad 151), .int a1]) ++ List.replicate (4 - (lg_sl ([.ref (ad 151), .int a1])).length) Slot.unset).toArray = ls at hl ⊢
  have hl : lv_has ls 4 [(0, .ref (ad 151)), (1, .int a1)] := hl
  generalize hloc : ([] : List Loc) = locs at hw ⊢
  have hinX8 : ∀ w ∈ u_ws RX8 TX8 8, w ∈ (wu yX8_findCircle cX8_findCircle 4 (some .int)) := fun _ h => List.mem_cons_of_mem _ (up_79 h)
  have L12 : ∀ (n12 : Nat) (v12_2 : Int32) (f12_153_0 : Int32) (H : Heap) (locs : List Loc) (ls : Array Slot) (w1 : va_W), 0 ≤ a1.toInt → a1.toInt ≤ 1 → 1 ≤ v12_2.toInt → v12_2.toInt ≤ 301 → 0 ≤ f12_153_0.toInt → f12_153_0.toInt ≤ 18479 → (301 - v12_2.toInt).toNat < n12 → Wd dC dI A s.heap H locs w1 → TW ksC ad cy (B + 0 + 9 * v12_2.toInt) qr s1 w1 → FE ksC [(1, 4, 4), (1, 5, 5), (1, 6, 6), (1, 7, 7), (1, 8, 8), (9, 0, 0), (9, 4, 4), (9, 5, 5), (9, 6, 6), (9, 7, 7), (9, 8, 8), (45, 0, 64), (46, 0, 301)] w0 w1 → gi w1 153 0 = f12_153_0 → lv_has ls 4 [(0, .ref (ad 151)), (1, .int a1), (2, .int v12_2)] → W p l e ({ frames := 6, cells := 0, slots := 0, locals := 135 }) s m (List.toArray [.ref (ad 151), .int a1]) below meth c H locs 0 0 (MQ below (va_Qi (P_X8_findCircle_1 ad cy B qr s1 a1 w0) (fun u : va_W => wpost dC dI cy A u) A) (List.toArray [.ref (ad 151), .int a1]) s 0 0 A) (F0 m 12 ls []) := by
    intro n12
    induction n12 with
    | zero => intro v12_2 f12_153_0 H locs ls w1 r2 t3 r4 t5 r6 t7 hm12 hw hT hF c8 hl; omega
    | succ n12 ih12 =>
      intro v12_2 f12_153_0 H locs ls w1 r2 t3 r4 t5 r6 t7 hm12 hw hT hF c8 hl
      have L56 : ∀ (n56 : Nat) (v56_3 : Int32) (H : Heap) (locs : List Loc) (ls : Array Slot) (w9 : va_W), 0 ≤ a1.toInt → a1.toInt ≤ 1 → 1 ≤ v12_2.toInt → v12_2.toInt ≤ 300 → 0 ≤ v56_3.toInt → v56_3.toInt ≤ 300 → 0 ≤ f12_153_0.toInt → f12_153_0.toInt ≤ 18479 → (300 - v56_3.toInt).toNat < n56 → Wd dC dI A s.heap H locs w9 → TW ksC ad cy (B + 9 + 9 * v12_2.toInt) qr s1 w9 → FE ksC [(1, 4, 4), (1, 5, 5), (1, 6, 6), (1, 7, 7), (1, 8, 8), (9, 0, 0), (9, 4, 4), (9, 5, 5), (9, 6, 6), (9, 7, 7), (9, 8, 8), (45, 0, 64), (46, 0, 301)] w0 w9 → gi w9 153 0 = f12_153_0 → lv_has ls 4 [(0, .ref (ad 151)), (1, .int a1), (2, .int v12_2), (3, .int v56_3)] → W p l e ({ frames := 6, cells := 0, slots := 0, locals := 135 }) s m (List.toArray [.ref (ad 151), .int a1]) below meth c H locs 0 0 (MQ below (va_Qi (P_X8_findCircle_1 ad cy B qr s1 a1 w0) (fun u : va_W => wpost dC dI cy A u) A) (List.toArray [.ref (ad 151), .int a1]) s 0 0 A) (F0 m 56 ls []) := by
        intro n56
        induction n56 with
        | zero => intro v56_3 H locs ls w9 r10 t11 r12 t13 r14 t15 r16 t17 hm56 hw hT hF c18 hl; omega
        | succ n56 ih56 =>
          intro v56_3 H locs ls w9 r10 t11 r12 t13 r14 t15 r16 t17 hm56 hw hT hF c18 hl
          refine lv_iload_n hx hb dX8_findCircle_56 rfl (lv_at hl 3 rfl) ?_
          refine lv_iload_n hx hb dX8_findCircle_57 rfl (lv_at hl 2 rfl) ?_
          refine lv_icmp_ge (tgt := 94) hx hb dX8_findCircle_58 (by decide) (fun c19 => ?_) (fun c19 => ?_)
          · have c19 : v12_2.toInt ≤ v56_3.toInt := wk_le.mp c19
            obtain ⟨x20, ex20⟩ : ∃ y : Int32, y = v12_2 + Int32.ofInt 1 := ⟨_, rfl⟩
            refine lv_iinc (v := x20) (lv' := [(2, .int x20), (0, .ref (ad 151)), (1, .int a1), (3, .int v56_3)]) hx hb dX8_findCircle_94 hl (k := 2) rfl ex20.symm (by decide) rfl (fun ls hl => ?_)
            have ex20 : x20.toInt = v12_2.toInt + 1 := by rw [ex20]; exact wk_add (y := 1) (show -2147483648 ≤ v12_2.toInt + 1 by omega) (show v12_2.toInt + 1 ≤ 2147483647 by omega)
            refine lv_goto (tgt := 12) hx hb dX8_findCircle_97 (by decide) ?_
            exact ih12 x20 f12_153_0 H locs ls w9 (show 0 ≤ a1.toInt from r10) (show a1.toInt ≤ 1 from t11) (show 1 ≤ x20.toInt by first | with_reducible assumption | omega) (show x20.toInt ≤ 301 by first | with_reducible assumption | omega) (show 0 ≤ f12_153_0.toInt from r16) (show f12_153_0.toInt ≤ 18479 from t17) (show (301 - x20.toInt).toNat < n12 by first | exact tn_lt hm12 (by omega) (by omega) | omega) hw (hT.up (show (B + 9 + 9 * v12_2.toInt) ≤ (B + 0 + 9 * x20.toInt) by omega)) hF c18 (lv_sub hl [1, 2, 0] rfl)
          · have c19 : v56_3.toInt < v12_2.toInt := wk_leF c19
            refine lv_aload_n hx hb dX8_findCircle_61 rfl (lv_at hl 0 rfl) ?_
            refine tk_getA hC hK hw hT hinX8 kC_at151 (by decide) rfl 4 (by decide) (List.mem_cons_of_mem _ uw_5_9) rfl rfl dX8_findCircle_62 ?_
            refine lv_iload_n hx hb dX8_findCircle_65 rfl (lv_at hl 3 rfl) ?_
            refine tk_iald hC hK hw hT kC_at153 rfl rfl (show 0 ≤ v56_3.toInt from r14) (show v56_3.toInt < 301 from Int.lt_of_le_of_lt t15 (by decide)) dX8_findCircle_66 (fun x21 c22 rx21 tx21 => ?_)
            refine lv_aload_n hx hb dX8_findCircle_67 rfl (lv_at hl 0 rfl) ?_
            refine tk_getA hC hK hw hT hinX8 kC_at151 (by decide) rfl 4 (by decide) (List.mem_cons_of_mem _ uw_5_9) rfl rfl dX8_findCircle_68 ?_
            refine lv_iload_n hx hb dX8_findCircle_71 rfl (lv_at hl 2 rfl) ?_
            refine tk_iald hC hK hw hT kC_at153 rfl rfl (show 0 ≤ v12_2.toInt from Int.le_trans (by decide) r12) (show v12_2.toInt < 301 from Int.lt_of_le_of_lt t13 (by decide)) dX8_findCircle_72 (fun x23 c24 rx23 tx23 => ?_)
            refine lv_icmp_ne (tgt := 88) hx hb dX8_findCircle_73 (by decide) (fun c25 => ?_) (fun c25 => ?_)
            · have c25 : ¬ x21.toInt = x23.toInt := wk_eqF c25
              obtain ⟨x26, ex26⟩ : ∃ y : Int32, y = v56_3 + Int32.ofInt 1 := ⟨_, rfl⟩
              refine lv_iinc (v := x26) (lv' := [(3, .int x26), (0, .ref (ad 151)), (1, .int a1), (2, .int v12_2)]) hx hb dX8_findCircle_88 hl (k := 3) rfl ex26.symm (by decide) rfl (fun ls hl => ?_)
              have ex26 : x26.toInt = v56_3.toInt + 1 := by rw [ex26]; exact wk_add (y := 1) (show -2147483648 ≤ v56_3.toInt + 1 by omega) (show v56_3.toInt + 1 ≤ 2147483647 by omega)
              refine lv_goto (tgt := 56) hx hb dX8_findCircle_91 (by decide) ?_
              exact ih56 x26 H locs ls w9 (show 0 ≤ a1.toInt from r10) (show a1.toInt ≤ 1 from t11) (show 1 ≤ v12_2.toInt from r12) (show v12_2.toInt ≤ 300 from t13) (show 0 ≤ x26.toInt by first | with_reducible assumption | omega) (show x26.toInt ≤ 300 by first | with_reducible assumption | omega) (show 0 ≤ f12_153_0.toInt from r16) (show f12_153_0.toInt ≤ 18479 from t17) (show (300 - x26.toInt).toNat < n56 by first | exact tn_lt hm56 (by omega) (by omega) | omega) hw hT hF c18 (lv_sub hl [1, 2, 3, 0] rfl)
            · have c25 : x21.toInt = x23.toInt := wk_eq.mp c25
              refine lv_iload_n hx hb dX8_findCircle_76 rfl (lv_at hl 1 rfl) ?_
              refine lv_if_ne (tgt := 84) hx hb dX8_findCircle_77 (by decide) (fun c27 => ?_) (fun c27 => ?_)
              · have c27 : ¬ a1.toInt = (0 : Int) := wk_eqF c27
                refine lv_iload_n hx hb dX8_findCircle_84 rfl (lv_at hl 2 rfl) ?_
                refine lv_iload_n hx hb dX8_findCircle_85 rfl (lv_at hl 3 rfl) ?_
                refine lv_isub hx hb dX8_findCircle_86 ?_
                refine lv_topi (fun x28 ex28 => ?_)
                have ex28 : x28.toInt = v12_2.toInt - v56_3.toInt := by rw [ex28]; exact wk_sub (show (-2147483648) ≤ v12_2.toInt - v56_3.toInt by omega) (show v12_2.toInt - v56_3.toInt ≤ 2147483647 by omega)
                exact tk_iret hC hr hlocks hK ⟨(hT.up (show (B + 9 + 9 * v12_2.toInt) ≤ (B + 2709) by omega)), hF, (Or.inl ⟨(show (-298) ≤ x28.toInt by first | with_reducible assumption | omega), (show x28.toInt ≤ 300 by first | with_reducible assumption | omega), (show 1 ≤ a1.toInt by first | with_reducible assumption | omega)⟩)⟩ hw dX8_findCircle_87
              · have c27 : a1.toInt = (0 : Int) := wk_eq.mp c27
                refine lv_iload_n hx hb dX8_findCircle_80 rfl (lv_at hl 3 rfl) ?_
                refine lv_goto (tgt := 87) hx hb dX8_findCircle_81 (by decide) ?_
                exact tk_iret hC hr hlocks hK ⟨(hT.up (show (B + 9 + 9 * v12_2.toInt) ≤ (B + 2709) by omega)), hF, (Or.inr (Or.inr ⟨(show 0 ≤ v56_3.toInt from r14), (show v56_3.toInt ≤ 299 by first | with_reducible assumption | omega), (show a1.toInt ≤ 0 by first | with_reducible assumption | omega)⟩))⟩ hw dX8_findCircle_87
      refine lv_iload_n hx hb dX8_findCircle_12 rfl (lv_at hl 2 rfl) ?_
      refine lv_sipush (v := 300) hx hb dX8_findCircle_13 (by decide) ?_
      refine lv_icmp_gt (tgt := 100) hx hb dX8_findCircle_16 (by decide) (fun c29 => ?_) (fun c29 => ?_)
      · have c29 : (300 : Int) < v12_2.toInt := wk_lt.mp c29
        refine lv_bipush (v := (-2)) hx hb dX8_findCircle_100 (by decide) ?_
        exact tk_iret hC hr hlocks hK ⟨(hT.up (show (B + 0 + 9 * v12_2.toInt) ≤ (B + 2709) by omega)), hF, (Or.inr (Or.inl rfl))⟩ hw dX8_findCircle_102
      · have c29 : v12_2.toInt ≤ (300 : Int) := wk_ltF c29
        refine lv_aload_n hx hb dX8_findCircle_19 rfl (lv_at hl 0 rfl) ?_
        refine tk_getA hC hK hw hT hinX8 kC_at151 (by decide) rfl 2 (by decide) (List.mem_cons_of_mem _ uw_5_13) rfl rfl dX8_findCircle_20 ?_
        refine lv_aload_n hx hb dX8_findCircle_23 rfl (lv_at hl 0 rfl) ?_
        refine tk_getA hC hK hw hT hinX8 kC_at151 (by decide) rfl 3 (by decide) (List.mem_cons_of_mem _ uw_5_8) rfl rfl dX8_findCircle_24 ?_
        refine tk_Vi hC hK hw hT hA hE hSR kC_at149 (by decide) rfl (k_X1_takeStep_2 l adK adV dC dI cy ad (B + 0 + 9 * v12_2.toInt) (by omega) (by omega) qr s1    w1 H.size hT ) (cwV 1 hC.2.2.2.2 uV_RX8_71 rfl rfl rfl (by decide +kernel) ⟨Nat.le_of_ble_eq_true rfl, Nat.le_of_ble_eq_true rfl⟩) rfl hl.1 rfl (Nat.le_of_ble_eq_true rfl) dX8_findCircle_27 (fun r30 w32 H locs hp31 hw => ?_)
        obtain ⟨hT, k33, hg36⟩ := hp31
        have hT := hT.up (B' := (B + 9 + 9 * v12_2.toInt)) (by omega)
        have hF := hF.tr k33 (by decide)
        have c37 := k33.gi kC_at153 (by decide) c8
        rcases hg36 with ⟨x34, c35, rx34, tx34⟩ | rfl
        · refine lv_pop hx hb dX8_findCircle_30 rfl ?_
          refine lv_aload_n hx hb dX8_findCircle_31 rfl (lv_at hl 0 rfl) ?_
          refine tk_getA hC hK hw hT hinX8 kC_at151 (by decide) rfl 3 (by decide) (List.mem_cons_of_mem _ uw_5_8) rfl rfl dX8_findCircle_32 ?_
          refine tk_Vi hC hK hw hT hA hE hSR kC_at152 (by decide) rfl (k_X9_isAtGoal_2 l adK adV dC dI cy ad (B + 9 + 9 * v12_2.toInt) (by omega) (by omega) qr s1    w32 H.size hT ) (cwV 0 hC.2.2.2.2 uV_RX8_47 rfl rfl rfl (by decide +kernel) ⟨Nat.le_of_ble_eq_true rfl, Nat.le_of_ble_eq_true rfl⟩) rfl hl.1 rfl (Nat.le_of_ble_eq_true rfl) dX8_findCircle_35 (fun r38 w40 H locs hp39 hw => ?_)
          obtain ⟨hT, k41, hg42⟩ := hp39
          have hF := hF.tr k41 (by decide)
          have c43 := k41.gi kC_at153 (by decide) c37
          have c44 := k41.gi kC_at149 (by decide) c35
          rcases hg42 with rfl | rfl
          · refine lv_if_eq (tgt := 44) hx hb dX8_findCircle_38 (by decide) (fun _ => ?_) (fun c => absurd (by decide) c)
            refine lv_aload_n hx hb dX8_findCircle_44 rfl (lv_at hl 0 rfl) ?_
            refine tk_getA hC hK hw hT hinX8 kC_at151 (by decide) rfl 4 (by decide) (List.mem_cons_of_mem _ uw_5_9) rfl rfl dX8_findCircle_45 ?_
            refine lv_iload_n hx hb dX8_findCircle_48 rfl (lv_at hl 2 rfl) ?_
            refine lv_aload_n hx hb dX8_findCircle_49 rfl (lv_at hl 0 rfl) ?_
            refine tk_Vi hC hK hw hT hA hE hSR kC_at151 (by decide) rfl (k_X8_ghostKey_1 l adK adV dC dI cy ad (B + 9 + 9 * v12_2.toInt) (by omega) (by omega) qr s1    w40 H.size hT ) (cwV 0 hC.2.2.2.2 uV_RX8_67 rfl rfl rfl (by decide +kernel) ⟨Nat.le_of_ble_eq_true rfl, Nat.le_of_ble_eq_true rfl⟩) rfl hl.1 rfl (Nat.le_of_ble_eq_true rfl) dX8_findCircle_50 (fun r45 w47 H locs hp46 hw => ?_)
            obtain ⟨hT, k48, hg51⟩ := hp46
            have hF := hF.tr k48 (by decide)
            have c52 := k48.gi kC_at153 (by decide) c43
            have c53 := k48.gi kC_at149 (by decide) c44
            obtain ⟨g49, g50⟩ := hg51
            refine tk_iast hC hK hw hT kC_at153 (by decide) rfl rfl (show 0 ≤ v12_2.toInt from Int.le_trans (by decide) r4) (show v12_2.toInt < 301 from Int.lt_of_le_of_lt c29 (by decide)) (wk_i32 r45).1 (wk_i32 r45).2 dX8_findCircle_53 (fun H locs w54 hw hT k56 c55 => ?_)
            have hF := hF.put kC_at153 (inE_of (a := 0) (b := 301) (by decide) (show 0 ≤ v12_2.toInt.toNat by omega) (show v12_2.toInt.toNat ≤ 301 by omega)) k56
            have c57 := k56.gi (Or.inr (show 0 ≠ v12_2.toInt.toNat by omega)) c52
            have c58 := k56.gi (Or.inl (tk_ne kC_at149 kC_at153 (by decide))) c53
            refine lv_iconst (v := 0) hx hb dX8_findCircle_54 (by decide) ?_
            refine lv_istore_n (lv' := [(3, .int 0), (0, .ref (ad 151)), (1, .int a1), (2, .int v12_2)]) hx hb dX8_findCircle_55 rfl hl (by decide) rfl (fun ls hl => ?_)
            exact L56 ((300 - (0 : Int)).toNat + 1) 0 H locs ls w54 (show 0 ≤ a1.toInt from r2) (show a1.toInt ≤ 1 from t3) (show 1 ≤ v12_2.toInt from r4) (show v12_2.toInt ≤ 300 from c29) (by decide) (by decide) (show 0 ≤ f12_153_0.toInt from r6) (show f12_153_0.toInt ≤ 18479 from t7) (Nat.lt_succ_self _) hw hT hF c57 (lv_sub hl [1, 2, 3, 0] rfl)
          · refine lv_if_eq (tgt := 44) hx hb dX8_findCircle_38 (by decide) (fun c => absurd c (by decide)) (fun _ => ?_)
            refine lv_bipush (v := (-2)) hx hb dX8_findCircle_41 (by decide) ?_
            exact tk_iret hC hr hlocks hK ⟨(hT.up (show (B + 9 + 9 * v12_2.toInt) ≤ (B + 2709) by omega)), hF, (Or.inr (Or.inl rfl))⟩ hw dX8_findCircle_43
        · refine lv_pop hx hb dX8_findCircle_30 rfl ?_
          refine lv_aload_n hx hb dX8_findCircle_31 rfl (lv_at hl 0 rfl) ?_
          refine tk_getA hC hK hw hT hinX8 kC_at151 (by decide) rfl 3 (by decide) (List.mem_cons_of_mem _ uw_5_8) rfl rfl dX8_findCircle_32 ?_
          refine tk_Vi hC hK hw hT hA hE hSR kC_at152 (by decide) rfl (k_X9_isAtGoal_2 l adK adV dC dI cy ad (B + 9 + 9 * v12_2.toInt) (by omega) (by omega) qr s1    w32 H.size hT ) (cwV 0 hC.2.2.2.2 uV_RX8_47 rfl rfl rfl (by decide +kernel) ⟨Nat.le_of_ble_eq_true rfl, Nat.le_of_ble_eq_true rfl⟩) rfl hl.1 rfl (Nat.le_of_ble_eq_true rfl) dX8_findCircle_35 (fun r59 w61 H locs hp60 hw => ?_)
          obtain ⟨hT, k62, hg63⟩ := hp60
          have hF := hF.tr k62 (by decide)
          have c64 := k62.gi kC_at153 (by decide) c37
          rcases hg63 with rfl | rfl
          · refine lv_if_eq (tgt := 44) hx hb dX8_findCircle_38 (by decide) (fun _ => ?_) (fun c => absurd (by decide) c)
            refine lv_aload_n hx hb dX8_findCircle_44 rfl (lv_at hl 0 rfl) ?_
            refine tk_getA hC hK hw hT hinX8 kC_at151 (by decide) rfl 4 (by decide) (List.mem_cons_of_mem _ uw_5_9) rfl rfl dX8_findCircle_45 ?_
            refine lv_iload_n hx hb dX8_findCircle_48 rfl (lv_at hl 2 rfl) ?_
            refine lv_aload_n hx hb dX8_findCircle_49 rfl (lv_at hl 0 rfl) ?_
            refine tk_Vi hC hK hw hT hA hE hSR kC_at151 (by decide) rfl (k_X8_ghostKey_1 l adK adV dC dI cy ad (B + 9 + 9 * v12_2.toInt) (by omega) (by omega) qr s1    w61 H.size hT ) (cwV 0 hC.2.2.2.2 uV_RX8_67 rfl rfl rfl (by decide +kernel) ⟨Nat.le_of_ble_eq_true rfl, Nat.le_of_ble_eq_true rfl⟩) rfl hl.1 rfl (Nat.le_of_ble_eq_true rfl) dX8_findCircle_50 (fun r65 w67 H locs hp66 hw => ?_)
            obtain ⟨hT, k68, hg71⟩ := hp66
            have hF := hF.tr k68 (by decide)
            have c72 := k68.gi kC_at153 (by decide) c64
            obtain ⟨g69, g70⟩ := hg71
            refine tk_iast hC hK hw hT kC_at153 (by decide) rfl rfl (show 0 ≤ v12_2.toInt from Int.le_trans (by decide) r4) (show v12_2.toInt < 301 from Int.lt_of_le_of_lt c29 (by decide)) (wk_i32 r65).1 (wk_i32 r65).2 dX8_findCircle_53 (fun H locs w73 hw hT k75 c74 => ?_)
            have hF := hF.put kC_at153 (inE_of (a := 0) (b := 301) (by decide) (show 0 ≤ v12_2.toInt.toNat by omega) (show v12_2.toInt.toNat ≤ 301 by omega)) k75
            have c76 := k75.gi (Or.inr (show 0 ≠ v12_2.toInt.toNat by omega)) c72
            refine lv_iconst (v := 0) hx hb dX8_findCircle_54 (by decide) ?_
            refine lv_istore_n (lv' := [(3, .int 0), (0, .ref (ad 151)), (1, .int a1), (2, .int v12_2)]) hx hb dX8_findCircle_55 rfl hl (by decide) rfl (fun ls hl => ?_)
            exact L56 ((300 - (0 : Int)).toNat + 1) 0 H locs ls w73 (show 0 ≤ a1.toInt from r2) (show a1.toInt ≤ 1 from t3) (show 1 ≤ v12_2.toInt from r4) (show v12_2.toInt ≤ 300 from c29) (by decide) (by decide) (show 0 ≤ f12_153_0.toInt from r6) (show f12_153_0.toInt ≤ 18479 from t7) (Nat.lt_succ_self _) hw hT hF c76 (lv_sub hl [1, 2, 3, 0] rfl)
          · refine lv_if_eq (tgt := 44) hx hb dX8_findCircle_38 (by decide) (fun c => absurd c (by decide)) (fun _ => ?_)
            refine lv_bipush (v := (-2)) hx hb dX8_findCircle_41 (by decide) ?_
            exact tk_iret hC hr hlocks hK ⟨(hT.up (show (B + 9 + 9 * v12_2.toInt) ≤ (B + 2709) by omega)), hF, (Or.inr (Or.inl rfl))⟩ hw dX8_findCircle_43
  refine lv_aload_n hx hb dX8_findCircle_0 rfl (lv_at hl 0 rfl) ?_
  refine tk_getA hC hK hw hT hinX8 kC_at151 (by decide) rfl 4 (by decide) (List.mem_cons_of_mem _ uw_5_9) rfl rfl dX8_findCircle_1 ?_
  refine lv_iconst (v := 0) hx hb dX8_findCircle_4 (by decide) ?_
  refine lv_aload_n hx hb dX8_findCircle_5 rfl (lv_at hl 0 rfl) ?_
  refine tk_Vi hC hK hw hT hA hE hSR kC_at151 (by decide) rfl (k_X8_ghostKey_1 l adK adV dC dI cy ad B hB0 (Int.le_trans hB1 (by decide)) qr s1    w0 s.heap.size hT ) (cwV 0 hC.2.2.2.2 uV_RX8_67 rfl rfl rfl (by decide +kernel) ⟨Nat.le_of_ble_eq_true rfl, Nat.le_of_ble_eq_true rfl⟩) rfl hl.1 rfl (Nat.le_of_ble_eq_true rfl) dX8_findCircle_6 (fun r77 w79 H locs hp78 hw => ?_)
  obtain ⟨hT, k80, hg83⟩ := hp78
  have hF := hF.tr k80 (by decide)
  obtain ⟨g81, g82⟩ := hg83
  refine tk_iast hC hK hw hT kC_at153 (by decide) rfl rfl (by decide) (by decide) (wk_i32 r77).1 (wk_i32 r77).2 dX8_findCircle_9 (fun H locs w84 hw hT k86 c85 => ?_)
  have hF := hF.put kC_at153 (inE_of (a := 0) (b := 301) (by decide) (by decide) (by decide)) k86
  have c85 : gi w84 153 0 = r77 := c85
  refine lv_iconst (v := 1) hx hb dX8_findCircle_10 (by decide) ?_
  refine lv_istore_n (lv' := [(2, .int 1), (0, .ref (ad 151)), (1, .int a1)]) hx hb dX8_findCircle_11 rfl hl (by decide) rfl (fun ls hl => ?_)
  exact L12 ((301 - (1 : Int)).toNat + 1) 1 r77 H locs ls w84 (show 0 ≤ a1.toInt from ra1) (show a1.toInt ≤ 1 from ta1) (by decide) (by decide) (show 0 ≤ r77.toInt by first | with_reducible assumption | omega) (show r77.toInt ≤ 18479 by first | with_reducible assumption | omega) (Nat.lt_succ_self _) hw (hT.up (show B ≤ (B + 0 + 9 * (1 : Int32).toInt) by rw [show (1 : Int32).toInt = 1 by decide]; omega)) hF c85 (lv_sub hl [1, 2, 0] rfl)
abbrev P_X8_tellCircle_1 (ad : Nat → Nat) (cy : Nat → ClassId) (B : Int) (qr : Nat) (s1 : Int) (q1_ : Nat) (a2 : Int32) (w0 : va_W) : Int32 → va_W → Prop := fun r u => TW ksC ad cy (B + 2709) qr s1 u ∧ FE ksC [(1, 4, 4), (1, 5, 5), (1, 6, 6), (1, 7, 7), (1, 8, 8), (1, 9, 9), (9, 0, 0), (9, 1, 1), (9, 2, 2), (9, 3, 3), (9, 4, 4), (9, 5, 5), (9, 6, 6), (9, 7, 7), (9, 8, 8), (45, 0, 64), (46, 0, 301)] w0 u ∧ (((-298) ≤ r.toInt ∧ r.toInt ≤ 300 ∧ 1 ≤ a2.toInt ∧ (∃ y : Int32, gi u 149 9 = y ∧ 0 ≤ y.toInt ∧ y.toInt ≤ 0)) ∨ (r = (-2) ∧ (∃ y : Int32, gi u 149 9 = y ∧ 0 ≤ y.toInt ∧ y.toInt ≤ 0)) ∨ (0 ≤ r.toInt ∧ r.toInt ≤ 299 ∧ a2.toInt ≤ 0 ∧ (∃ y : Int32, gi u 149 9 = y ∧ 0 ≤ y.toInt ∧ y.toInt ≤ 0)))
set_option maxHeartbeats 4000000 in
set_option maxRecDepth 100000 in
theorem k_X8_tellCircle_1 (l : Launch) (adK adV : Nat → Nat) (dC : Nat → ClassId) (dI : Nat → Nat → Nat) (cy : Nat → ClassId) (ad : Nat → Nat) (B : Int) (hB0 : 2147483648 ≤ B) (hB1 : B ≤ 1152921504606844267) (qr : Nat) (s1 : Int)  (q1_ : Nat) (hkq1_ : ksC[q1_]? = some 9) (a2 : Int32) (ra2 : 0 ≤ a2.toInt) (ta2 : a2.toInt ≤ 1) (w0 : va_W) (sz : Nat) (hT : TW ksC ad cy B qr s1 w0)  : Met l yX8_tellCircle (wu yX8_tellCircle cX8_tellCircle 4 (some .int)) ({ frames := 7, cells := 0, slots := 0, locals := 158 }) (va_Pc [.ref (ad 151), .ref (ad q1_), .int a2] (wpreS adK adV dC dI cy sz w0)) (va_Qi (P_X8_tellCircle_1 ad cy B qr s1 q1_ a2 w0) (fun u : va_W => wpost dC dI cy (va_A w0 sz) u) (va_A w0 sz)) 0 0 (va_A w0 sz) := by
  refine Met.ofW (cc := cX8_tellCircle) (maxL := 4) (ret := (some .int)) (by decide) rfl ?_
  intro p e s m args below meth c s₁ Bk hml hv
  obtain ⟨rfl, ⟨hsz, hP, hK, hD0⟩, hE, hSR⟩ := hv
  have hx := Bk.exec
  have hb := Bk.bytes
  have hr := Bk.returns
  have hlocks := Bk.notSynchronized
  have hC : CallFix p m c cX8_tellCircle 4 s _ (wu yX8_tellCircle cX8_tellCircle 4 (some .int)) RX8 := ⟨hx, hb, hml, findClass_of_methodNamed Bk.named, atoms_spec (ws := (wu yX8_tellCircle cX8_tellCircle 4 (some .int))) Bk.pre⟩
  subst hsz
  have hD := hD0.self (sz := s.heap.size)
  generalize hAe : va_A w0 s.heap.size = A at hD hE ⊢
  have hA : ∀ q : Nat, s.heap.size ≤ q → A q := fun q h => by rw [← hAe]; exact Or.inr h
  have hw : Wd dC dI A s.heap s.heap [] w0 := ⟨hP, hD, va_S.rf⟩
  have hF : FE ksC [(1, 4, 4), (1, 5, 5), (1, 6, 6), (1, 7, 7), (1, 8, 8), (1, 9, 9), (9, 0, 0), (9, 1, 1), (9, 2, 2), (9, 3, 3), (9, 4, 4), (9, 5, 5), (9, 6, 6), (9, 7, 7), (9, 8, 8), (45, 0, 64), (46, 0, 301)] w0 w0 := FE.rf
  have hl := lv_entry ([.ref (ad 151), .ref (ad q1_), .int a2]) (n := 4) (Nat.le_of_ble_eq_true rfl)
  rw [lg_entry_eq]
  generalize (lg_sl ([.ref (ad 151), .ref (ad q1_), .int a2]) ++ List.replicate (4 - (lg_sl ([.ref (ad 151), .ref (ad q1_), .int a2])).length) Slot.unset).toArray = ls at hl ⊢
  have hl : lv_has ls 4 [(0, .ref (ad 151)), (1, .ref (ad q1_)), (2, .int a2)] := hl
  generalize hloc : ([] : List Loc) = locs at hw ⊢
  have hinX8 : ∀ w ∈ u_ws RX8 TX8 8, w ∈ (wu yX8_tellCircle cX8_tellCircle 4 (some .int)) := fun _ h => List.mem_cons_of_mem _ (up_79 h)
  have hinX1 : ∀ w ∈ u_ws RX1 TX1 10, w ∈ (wu yX8_tellCircle cX8_tellCircle 4 (some .int)) := fun _ h => List.mem_cons_of_mem _ (up_78 h)
  refine lv_aload_n hx hb dX8_tellCircle_0 rfl (lv_at hl 0 rfl) ?_
  refine tk_getA hC hK hw hT hinX8 kC_at151 (by decide) rfl 3 (by decide) (List.mem_cons_of_mem _ uw_5_8) rfl rfl dX8_tellCircle_1 ?_
  refine lv_aload_n hx hb dX8_tellCircle_4 rfl (lv_at hl 1 rfl) ?_
  refine tk_Vv hC hK hw hT hA hE hSR kC_at152 (by decide) rfl (k_X9_copyFrom_1 l adK adV dC dI cy ad B hB0 (Int.le_trans hB1 (by decide)) qr s1   q1_ hkq1_ w0 s.heap.size hT ) (cwV 1 hC.2.2.2.2 uV_RX8_37 rfl rfl rfl (by decide +kernel) ⟨Nat.le_of_ble_eq_true rfl, Nat.le_of_ble_eq_true rfl⟩) rfl hl.1 rfl (Nat.le_of_ble_eq_true rfl) dX8_tellCircle_5 (fun w3 H locs hp2 hw => ?_)
  obtain ⟨hT, k4, hg5⟩ := hp2
  have hF := hF.tr k4 (by decide)
  clear hg5
  refine lv_aload_n hx hb dX8_tellCircle_8 rfl (lv_at hl 0 rfl) ?_
  refine tk_getA hC hK hw hT hinX8 kC_at151 (by decide) rfl 2 (by decide) (List.mem_cons_of_mem _ uw_5_13) rfl rfl dX8_tellCircle_9 ?_
  refine lv_iconst (v := 1) hx hb dX8_tellCircle_12 (by decide) ?_
  refine tk_putz hC hK hw hT hinX1 tyX1_ok nmX1 kC_at149 (by decide) rfl rfl 9 (by decide) (List.mem_cons_of_mem _ uw_54_17) rfl rfl rfl rfl (by decide) (by decide) dX8_tellCircle_13 (fun H locs w6 hw hT k8 c7 => ?_)
  have hF := hF.put kC_at149 (k := 9) (by decide) k8
  refine lv_aload_n hx hb dX8_tellCircle_16 rfl (lv_at hl 0 rfl) ?_
  refine lv_iload_n hx hb dX8_tellCircle_17 rfl (lv_at hl 2 rfl) ?_
  refine tk_Vi hC hK hw hT hA hE hSR kC_at151 (by decide) rfl (k_X8_findCircle_1 l adK adV dC dI cy ad B hB0 (Int.le_trans hB1 (by decide)) qr s1   a2 (show 0 ≤ a2.toInt from ra2) (show a2.toInt ≤ 1 from ta2) w6 H.size hT ) (cwV 1 hC.2.2.2.2 uV_RX8_63 rfl rfl rfl (by decide +kernel) ⟨Nat.le_of_ble_eq_true rfl, Nat.le_of_ble_eq_true rfl⟩) rfl hl.1 rfl (Nat.le_of_ble_eq_true rfl) dX8_tellCircle_18 (fun r9 w11 H locs hp10 hw => ?_)
  obtain ⟨hT, k12, hg19⟩ := hp10
  have hF := hF.tr k12 (by decide)
  have c20 := k12.gi kC_at149 (by decide) c7
  rcases hg19 with ⟨g13, g14, g15⟩ | rfl | ⟨g16, g17, g18⟩
  · refine lv_istore_n (lv' := [(3, .int r9), (0, .ref (ad 151)), (1, .ref (ad q1_)), (2, .int a2)]) hx hb dX8_tellCircle_21 rfl hl (by decide) rfl (fun ls hl => ?_)
    refine lv_aload_n hx hb dX8_tellCircle_22 rfl (lv_at hl 1 rfl) ?_
    refine tk_getA hC hK hw hT hinX8 kC_at151 (by decide) rfl 2 (by decide) (List.mem_cons_of_mem _ uw_5_13) rfl rfl dX8_tellCircle_23 ?_
    refine lv_iconst (v := 0) hx hb dX8_tellCircle_26 (by decide) ?_
    refine tk_putz hC hK hw hT hinX1 tyX1_ok nmX1 kC_at149 (by decide) rfl rfl 9 (by decide) (List.mem_cons_of_mem _ uw_54_17) rfl rfl rfl rfl (by decide) (by decide) dX8_tellCircle_27 (fun H locs w21 hw hT k23 c22 => ?_)
    have hF := hF.put kC_at149 (k := 9) (by decide) k23
    refine lv_iload_n hx hb dX8_tellCircle_30 rfl (lv_at hl 0 rfl) ?_
    exact tk_iret hC hr hlocks hK ⟨hT, hF, (Or.inl ⟨(show (-298) ≤ r9.toInt by first | with_reducible assumption | omega), (show r9.toInt ≤ 300 by first | with_reducible assumption | omega), (show 1 ≤ a2.toInt by first | with_reducible assumption | omega), ⟨0, c22, (by decide), (by decide)⟩⟩)⟩ hw dX8_tellCircle_31
  · refine lv_istore_n (lv' := [(3, .int (-2)), (0, .ref (ad 151)), (1, .ref (ad q1_)), (2, .int a2)]) hx hb dX8_tellCircle_21 rfl hl (by decide) rfl (fun ls hl => ?_)
    refine lv_aload_n hx hb dX8_tellCircle_22 rfl (lv_at hl 1 rfl) ?_
    refine tk_getA hC hK hw hT hinX8 kC_at151 (by decide) rfl 2 (by decide) (List.mem_cons_of_mem _ uw_5_13) rfl rfl dX8_tellCircle_23 ?_
    refine lv_iconst (v := 0) hx hb dX8_tellCircle_26 (by decide) ?_
    refine tk_putz hC hK hw hT hinX1 tyX1_ok nmX1 kC_at149 (by decide) rfl rfl 9 (by decide) (List.mem_cons_of_mem _ uw_54_17) rfl rfl rfl rfl (by decide) (by decide) dX8_tellCircle_27 (fun H locs w24 hw hT k26 c25 => ?_)
    have hF := hF.put kC_at149 (k := 9) (by decide) k26
    refine lv_iload_n hx hb dX8_tellCircle_30 rfl (lv_at hl 0 rfl) ?_
    exact tk_iret hC hr hlocks hK ⟨hT, hF, (Or.inr (Or.inl ⟨rfl, ⟨0, c25, (by decide), (by decide)⟩⟩))⟩ hw dX8_tellCircle_31
  · refine lv_istore_n (lv' := [(3, .int r9), (0, .ref (ad 151)), (1, .ref (ad q1_)), (2, .int a2)]) hx hb dX8_tellCircle_21 rfl hl (by decide) rfl (fun ls hl => ?_)
    refine lv_aload_n hx hb dX8_tellCircle_22 rfl (lv_at hl 1 rfl) ?_
    refine tk_getA hC hK hw hT hinX8 kC_at151 (by decide) rfl 2 (by decide) (List.mem_cons_of_mem _ uw_5_13) rfl rfl dX8_tellCircle_23 ?_
    refine lv_iconst (v := 0) hx hb dX8_tellCircle_26 (by decide) ?_
    refine tk_putz hC hK hw hT hinX1 tyX1_ok nmX1 kC_at149 (by decide) rfl rfl 9 (by decide) (List.mem_cons_of_mem _ uw_54_17) rfl rfl rfl rfl (by decide) (by decide) dX8_tellCircle_27 (fun H locs w27 hw hT k29 c28 => ?_)
    have hF := hF.put kC_at149 (k := 9) (by decide) k29
    refine lv_iload_n hx hb dX8_tellCircle_30 rfl (lv_at hl 0 rfl) ?_
    exact tk_iret hC hr hlocks hK ⟨hT, hF, (Or.inr (Or.inr ⟨(show 0 ≤ r9.toInt by first | with_reducible assumption | omega), (show r9.toInt ≤ 299 by first | with_reducible assumption | omega), (show a2.toInt ≤ 0 by first | with_reducible assumption | omega), ⟨0, c28, (by decide), (by decide)⟩⟩))⟩ hw dX8_tellCircle_31
abbrev P_X8_note_1 (ad : Nat → Nat) (cy : Nat → ClassId) (B : Int) (qr : Nat) (s1 : Int) (a1 : Int64) (a2 : Int32) (a3 : Int32) (a4 : Int32) (a5 : Int32) (w0 : va_W) : va_W → Prop := fun u => TW ksC ad cy B qr s1 u ∧ FE ksC [(47, 0, 2420)] w0 u ∧ ((True))
set_option maxHeartbeats 4000000 in
set_option maxRecDepth 100000 in
theorem k_X8_note_1 (l : Launch) (adK adV : Nat → Nat) (dC : Nat → ClassId) (dI : Nat → Nat → Nat) (cy : Nat → ClassId) (ad : Nat → Nat) (B : Int) (hB0 : 2147483648 ≤ B) (hB1 : B ≤ 1152921504606846976) (qr : Nat) (s1 : Int)  (a1 : Int64) (ra1 : 0 ≤ a1.toInt) (ta1 : a1.toInt ≤ 2305843009213693952) (a2 : Int32) (ra2 : 0 ≤ a2.toInt) (ta2 : a2.toInt ≤ 120) (a3 : Int32) (ra3 : 0 ≤ a3.toInt) (ta3 : a3.toInt ≤ 9) (a4 : Int32) (ra4 : 0 ≤ a4.toInt) (ta4 : a4.toInt ≤ 18) (a5 : Int32) (ra5 : 0 ≤ a5.toInt) (ta5 : a5.toInt ≤ 999999) (w0 : va_W) (sz : Nat) (hT : TW ksC ad cy B qr s1 w0)  : Met l yX8_note (wu yX8_note cX8_note 9 none) ({ frames := 1, cells := 0, slots := 0, locals := 21 }) (va_Pc [.ref (ad 151), .long a1, .int a2, .int a3, .int a4, .int a5] (wpreS adK adV dC dI cy sz w0)) (va_Qv (P_X8_note_1 ad cy B qr s1 a1 a2 a3 a4 a5 w0) (fun u : va_W => wpost dC dI cy (va_A w0 sz) u) (va_A w0 sz)) 0 0 (va_A w0 sz) := by
  refine Met.ofW (cc := cX8_note) (maxL := 9) (ret := none) (by decide) rfl ?_
  intro p e s m args below meth c s₁ Bk hml hv
  obtain ⟨rfl, ⟨hsz, hP, hK, hD0⟩, hE, hSR⟩ := hv
  have hx := Bk.exec
  have hb := Bk.bytes
  have hr := Bk.returns
  have hlocks := Bk.notSynchronized
  have hC : CallFix p m c cX8_note 9 s _ (wu yX8_note cX8_note 9 none) RX8 := ⟨hx, hb, hml, findClass_of_methodNamed Bk.named, atoms_spec (ws := (wu yX8_note cX8_note 9 none)) Bk.pre⟩
  subst hsz
  have hD := hD0.self (sz := s.heap.size)
  generalize hAe : va_A w0 s.heap.size = A at hD hE ⊢
  have hA : ∀ q : Nat, s.heap.size ≤ q → A q := fun q h => by rw [← hAe]; exact Or.inr h
  have hw : Wd dC dI A s.heap s.heap [] w0 := ⟨hP, hD, va_S.rf⟩
  have hF : FE ksC [(47, 0, 2420)] w0 w0 := FE.rf
  have hl := lv_entry ([.ref (ad 151), .long a1, .int a2, .int a3, .int a4, .int a5]) (n := 9) (Nat.le_of_ble_eq_true rfl)
  rw [lg_entry_eq]
  generalize (lg_sl ([.ref (ad 151), .long a1, .int a2, .int a3, .int a4, .int a5]) ++ List.replicate (9 - (lg_sl ([.ref (ad 151), .long a1, .int a2, .int a3, .int a4, .int a5])).length) Slot.unset).toArray = ls at hl ⊢
  have hl : lv_has ls 9 [(0, .ref (ad 151)), (1, .long a1), (3, .int a2), (4, .int a3), (5, .int a4), (6, .int a5)] := hl
  generalize hloc : ([] : List Loc) = locs at hw ⊢
  have hinX8 : ∀ w ∈ u_ws RX8 TX8 8, w ∈ (wu yX8_note cX8_note 9 none) := fun _ h => List.mem_cons_of_mem _ (up_79 h)
  refine lv_iload_n hx hb dX8_note_0 rfl (lv_at hl 2 rfl) ?_
  refine lv_iload hx hb dX8_note_1 (lv_at hl 3 rfl) ?_
  refine lv_iadd hx hb dX8_note_3 ?_
  refine lv_topi (fun x1 ex1 => ?_)
  have ex1 : x1.toInt = a2.toInt + a3.toInt := by rw [ex1]; exact wk_add (show (-2147483648) ≤ a2.toInt + a3.toInt by omega) (show a2.toInt + a3.toInt ≤ 2147483647 by omega)
  refine lv_aload_n hx hb dX8_note_4 rfl (lv_at hl 0 rfl) ?_
  refine tk_geti hC hK hw hT hinX8 kC_at151 (by decide) rfl 6 (by decide) (List.mem_cons_of_mem _ uw_55_22) rfl rfl dX8_note_5 (fun x2 c3 rx2 tx2 => ?_)
  refine lv_icmp_le (tgt := 12) hx hb dX8_note_8 (by decide) (fun c4 => ?_) (fun c4 => ?_)
  · have c4 : x1.toInt ≤ x2.toInt := wk_le.mp c4
    refine lv_lload_n hx hb dX8_note_12 rfl (lv_at hl 1 rfl) ?_
    refine lv_ldc2 (v := 24) hx hb hC.2.2.2.1 (hC.2.2.2.2 _ (List.mem_cons_of_mem _ uw_56_12)) dX8_note_13 ?_
    refine lv_ldiv hx hb dX8_note_16 (by decide) ?_
    refine lv_topl (fun x5 ex5 => ?_)
    have ex5 : x5.toInt = a1.toInt / (24 : Int) := by rw [ex5]; exact wk_divl (show 0 ≤ a1.toInt from ra1) (show 0 < (24 : Int) by decide)
    refine lv_lload_n hx hb dX8_note_17 rfl (lv_at hl 1 rfl) ?_
    refine lv_iload hx hb dX8_note_18 (lv_at hl 3 rfl) ?_
    refine lv_i2l hx hb dX8_note_20 rfl ?_
    refine lv_topl (fun x6 ex6 => ?_)
    have ex6 : x6.toInt = a3.toInt := by rw [ex6]; exact wk_i2l _
    have bx6 := wk_i32 a3
    refine lv_ladd hx hb dX8_note_21 ?_
    refine lv_topl (fun x7 ex7 => ?_)
    have ex7 : x7.toInt = a1.toInt + x6.toInt := by rw [ex7]; exact wk_addl (show (-9223372036854775808) ≤ a1.toInt + x6.toInt by omega) (show a1.toInt + x6.toInt ≤ 9223372036854775807 by omega)
    refine lv_ldc2 (v := 24) hx hb hC.2.2.2.1 (hC.2.2.2.2 _ (List.mem_cons_of_mem _ uw_56_12)) dX8_note_22 ?_
    refine lv_ldiv hx hb dX8_note_25 (by decide) ?_
    refine lv_topl (fun x8 ex8 => ?_)
    have ex8 : x8.toInt = x7.toInt / (24 : Int) := by rw [ex8]; exact wk_divl (show 0 ≤ x7.toInt by first | with_reducible assumption | omega) (show 0 < (24 : Int) by decide)
    refine W.lcmp hx hb dX8_note_26 ?_
    refine lv_if_ne (tgt := 34) hx hb dX8_note_27 (by decide) (fun c9 => ?_) (fun c9 => ?_)
    · have c9 : ¬ x5.toInt = x8.toInt := wk_ceF c9
      refine lv_iconst (v := 0) hx hb dX8_note_34 (by decide) ?_
      refine lv_istore (lv' := [(7, .int 0), (0, .ref (ad 151)), (1, .long a1), (3, .int a2), (4, .int a3), (5, .int a4), (6, .int a5)]) hx hb dX8_note_35 hl (by decide) rfl (fun ls hl => ?_)
      refine lv_iload_n hx hb dX8_note_37 rfl (lv_at hl 3 rfl) ?_
      refine lv_iload hx hb dX8_note_38 (lv_at hl 4 rfl) ?_
      refine lv_iadd hx hb dX8_note_40 ?_
      refine lv_topi (fun x10 ex10 => ?_)
      have ex10 : x10.toInt = a2.toInt + a3.toInt := by rw [ex10]; exact wk_add (show (-2147483648) ≤ a2.toInt + a3.toInt by omega) (show a2.toInt + a3.toInt ≤ 2147483647 by omega)
      refine lv_bipush (v := 20) hx hb dX8_note_41 (by decide) ?_
      refine lv_imul hx hb dX8_note_43 ?_
      refine lv_topi (fun x11 ex11 => ?_)
      have ex11 : x11.toInt = x10.toInt * (20 : Int) := by rw [ex11]; exact wk_mul (show (-2147483648) ≤ x10.toInt * (20 : Int) by omega) (show x10.toInt * (20 : Int) ≤ 2147483647 by omega)
      refine lv_iload hx hb dX8_note_44 (lv_at hl 0 rfl) ?_
      refine lv_if_eq (tgt := 54) hx hb dX8_note_46 (by decide) (fun _ => ?_) (fun c => absurd (by decide) c)
      refine lv_iload hx hb dX8_note_54 (lv_at hl 5 rfl) ?_
      refine lv_iload hx hb dX8_note_56 (lv_at hl 5 rfl) ?_
      refine lv_iconst (v := 2) hx hb dX8_note_58 (by decide) ?_
      refine lv_irem hx hb dX8_note_59 (by decide) ?_
      refine lv_topi (fun x12 ex12 => ?_)
      have ex12 : x12.toInt = a4.toInt % (2 : Int) := by rw [ex12]; exact wk_rem (show 0 ≤ a4.toInt from ra4) (show 0 < (2 : Int) by decide)
      refine lv_isub hx hb dX8_note_60 ?_
      refine lv_topi (fun x13 ex13 => ?_)
      have ex13 : x13.toInt = a4.toInt - x12.toInt := by rw [ex13]; exact wk_sub (show (-2147483648) ≤ a4.toInt - x12.toInt by omega) (show a4.toInt - x12.toInt ≤ 2147483647 by omega)
      refine lv_iadd hx hb dX8_note_61 ?_
      refine lv_topi (fun x14 ex14 => ?_)
      have ex14 : x14.toInt = x11.toInt + x13.toInt := by rw [ex14]; exact wk_add (show (-2147483648) ≤ x11.toInt + x13.toInt by omega) (show x11.toInt + x13.toInt ≤ 2147483647 by omega)
      refine lv_istore (lv' := [(8, .int x14), (7, .int 0), (0, .ref (ad 151)), (1, .long a1), (3, .int a2), (4, .int a3), (5, .int a4), (6, .int a5)]) hx hb dX8_note_62 hl (by decide) rfl (fun ls hl => ?_)
      refine lv_aload_n hx hb dX8_note_64 rfl (lv_at hl 2 rfl) ?_
      refine tk_getA hC hK hw hT hinX8 kC_at151 (by decide) rfl 5 (by decide) (List.mem_cons_of_mem _ uw_5_10) rfl rfl dX8_note_65 ?_
      refine lv_iload hx hb dX8_note_68 (lv_at hl 0 rfl) ?_
      refine lv_aload_n hx hb dX8_note_70 rfl (lv_at hl 2 rfl) ?_
      refine tk_getA hC hK hw hT hinX8 kC_at151 (by decide) rfl 5 (by decide) (List.mem_cons_of_mem _ uw_5_10) rfl rfl dX8_note_71 ?_
      refine lv_iload hx hb dX8_note_74 (lv_at hl 0 rfl) ?_
      refine tk_iald hC hK hw hT kC_at154 rfl rfl (show 0 ≤ x14.toInt by first | with_reducible assumption | omega) (show x14.toInt < 2420 by first | with_reducible assumption | omega) dX8_note_76 (fun x15 c16 rx15 tx15 => ?_)
      refine lv_iload hx hb dX8_note_77 (lv_at hl 7 rfl) ?_
      refine va_mmin hx hb (hC.2.2.1.trans hl.1.symm) hC.2.2.2.1 (hC.2.2.2.2 _ (List.mem_cons_of_mem _ uw_56_19)) (hC.2.2.2.2 _ (List.mem_cons_of_mem _ uw_14_19)) (hC.2.2.2.2 _ (List.mem_cons_of_mem _ uw_14_16)) (hC.2.2.2.2 _ (List.mem_cons_of_mem _ uw_14_20)) (Nat.le_of_ble_eq_true rfl) (Nat.le_of_ble_eq_true rfl) (Nat.zero_le _) (Nat.zero_le _) dX8_note_79 ?_
      refine lv_topi (fun x17 ex17 => ?_)
      have bx17 : (x17.toInt = x15.toInt ∧ x15.toInt ≤ a5.toInt) ∨ (x17.toInt = a5.toInt ∧ a5.toInt < x15.toInt) := by rw [ex17]; exact wk_min
      refine tk_iast hC hK hw hT kC_at154 (by decide) rfl rfl (show 0 ≤ x14.toInt by first | with_reducible assumption | omega) (show x14.toInt < 2420 by first | with_reducible assumption | omega) (show 0 ≤ x17.toInt by first | with_reducible assumption | omega) (show x17.toInt ≤ 1000000 by first | with_reducible assumption | omega) dX8_note_82 (fun H locs w18 hw hT k20 c19 => ?_)
      have hF := hF.put kC_at154 (inE_of (a := 0) (b := 2420) (by decide) (show 0 ≤ x14.toInt.toNat by omega) (show x14.toInt.toNat ≤ 2420 by omega)) k20
      have c21 := k20.gi (Or.inl (tk_ne kC_at151 kC_at154 (by decide))) c3
      exact tk_vret hC hr hlocks hK ⟨hT, hF, trivial⟩ hw dX8_note_83
    · have c9 : x5.toInt = x8.toInt := wk_ceT c9
      refine lv_iconst (v := 1) hx hb dX8_note_30 (by decide) ?_
      refine lv_goto (tgt := 35) hx hb dX8_note_31 (by decide) ?_
      refine lv_istore (lv' := [(7, .int 1), (0, .ref (ad 151)), (1, .long a1), (3, .int a2), (4, .int a3), (5, .int a4), (6, .int a5)]) hx hb dX8_note_35 hl (by decide) rfl (fun ls hl => ?_)
      refine lv_iload_n hx hb dX8_note_37 rfl (lv_at hl 3 rfl) ?_
      refine lv_iload hx hb dX8_note_38 (lv_at hl 4 rfl) ?_
      refine lv_iadd hx hb dX8_note_40 ?_
      refine lv_topi (fun x22 ex22 => ?_)
      have ex22 : x22.toInt = a2.toInt + a3.toInt := by rw [ex22]; exact wk_add (show (-2147483648) ≤ a2.toInt + a3.toInt by omega) (show a2.toInt + a3.toInt ≤ 2147483647 by omega)
      refine lv_bipush (v := 20) hx hb dX8_note_41 (by decide) ?_
      refine lv_imul hx hb dX8_note_43 ?_
      refine lv_topi (fun x23 ex23 => ?_)
      have ex23 : x23.toInt = x22.toInt * (20 : Int) := by rw [ex23]; exact wk_mul (show (-2147483648) ≤ x22.toInt * (20 : Int) by omega) (show x22.toInt * (20 : Int) ≤ 2147483647 by omega)
      refine lv_iload hx hb dX8_note_44 (lv_at hl 0 rfl) ?_
      refine lv_if_eq (tgt := 54) hx hb dX8_note_46 (by decide) (fun c => absurd c (by decide)) (fun _ => ?_)
      refine lv_iload hx hb dX8_note_49 (lv_at hl 5 rfl) ?_
      refine lv_goto (tgt := 61) hx hb dX8_note_51 (by decide) ?_
      refine lv_iadd hx hb dX8_note_61 ?_
      refine lv_topi (fun x24 ex24 => ?_)
      have ex24 : x24.toInt = x23.toInt + a4.toInt := by rw [ex24]; exact wk_add (show (-2147483648) ≤ x23.toInt + a4.toInt by omega) (show x23.toInt + a4.toInt ≤ 2147483647 by omega)
      refine lv_istore (lv' := [(8, .int x24), (7, .int 1), (0, .ref (ad 151)), (1, .long a1), (3, .int a2), (4, .int a3), (5, .int a4), (6, .int a5)]) hx hb dX8_note_62 hl (by decide) rfl (fun ls hl => ?_)
      refine lv_aload_n hx hb dX8_note_64 rfl (lv_at hl 2 rfl) ?_
      refine tk_getA hC hK hw hT hinX8 kC_at151 (by decide) rfl 5 (by decide) (List.mem_cons_of_mem _ uw_5_10) rfl rfl dX8_note_65 ?_
      refine lv_iload hx hb dX8_note_68 (lv_at hl 0 rfl) ?_
      refine lv_aload_n hx hb dX8_note_70 rfl (lv_at hl 2 rfl) ?_
      refine tk_getA hC hK hw hT hinX8 kC_at151 (by decide) rfl 5 (by decide) (List.mem_cons_of_mem _ uw_5_10) rfl rfl dX8_note_71 ?_
      refine lv_iload hx hb dX8_note_74 (lv_at hl 0 rfl) ?_
      refine tk_iald hC hK hw hT kC_at154 rfl rfl (show 0 ≤ x24.toInt by first | with_reducible assumption | omega) (show x24.toInt < 2420 by first | with_reducible assumption | omega) dX8_note_76 (fun x25 c26 rx25 tx25 => ?_)
      refine lv_iload hx hb dX8_note_77 (lv_at hl 7 rfl) ?_
      refine va_mmin hx hb (hC.2.2.1.trans hl.1.symm) hC.2.2.2.1 (hC.2.2.2.2 _ (List.mem_cons_of_mem _ uw_56_19)) (hC.2.2.2.2 _ (List.mem_cons_of_mem _ uw_14_19)) (hC.2.2.2.2 _ (List.mem_cons_of_mem _ uw_14_16)) (hC.2.2.2.2 _ (List.mem_cons_of_mem _ uw_14_20)) (Nat.le_of_ble_eq_true rfl) (Nat.le_of_ble_eq_true rfl) (Nat.zero_le _) (Nat.zero_le _) dX8_note_79 ?_
      refine lv_topi (fun x27 ex27 => ?_)
      have bx27 : (x27.toInt = x25.toInt ∧ x25.toInt ≤ a5.toInt) ∨ (x27.toInt = a5.toInt ∧ a5.toInt < x25.toInt) := by rw [ex27]; exact wk_min
      refine tk_iast hC hK hw hT kC_at154 (by decide) rfl rfl (show 0 ≤ x24.toInt by first | with_reducible assumption | omega) (show x24.toInt < 2420 by first | with_reducible assumption | omega) (show 0 ≤ x27.toInt by first | with_reducible assumption | omega) (show x27.toInt ≤ 1000000 by first | with_reducible assumption | omega) dX8_note_82 (fun H locs w28 hw hT k30 c29 => ?_)
      have hF := hF.put kC_at154 (inE_of (a := 0) (b := 2420) (by decide) (show 0 ≤ x24.toInt.toNat by omega) (show x24.toInt.toNat ≤ 2420 by omega)) k30
      have c31 := k30.gi (Or.inl (tk_ne kC_at151 kC_at154 (by decide))) c3
      exact tk_vret hC hr hlocks hK ⟨hT, hF, trivial⟩ hw dX8_note_83
  · have c4 : x2.toInt < x1.toInt := wk_leF c4
    exact tk_vret hC hr hlocks hK ⟨hT, hF, trivial⟩ hw dX8_note_11
abbrev P_X8_note_2 (ad : Nat → Nat) (cy : Nat → ClassId) (B : Int) (qr : Nat) (s1 : Int) (a1 : Int64) (a2 : Int32) (a3 : Int32) (a4 : Int32) (a5 : Int32) (w0 : va_W) : va_W → Prop := fun u => TW ksC ad cy B qr s1 u ∧ FE ksC [(47, 0, 2420)] w0 u ∧ ((True))
set_option maxHeartbeats 4000000 in
set_option maxRecDepth 100000 in
theorem k_X8_note_2 (l : Launch) (adK adV : Nat → Nat) (dC : Nat → ClassId) (dI : Nat → Nat → Nat) (cy : Nat → ClassId) (ad : Nat → Nat) (B : Int) (hB0 : 2147483648 ≤ B) (hB1 : B ≤ 1152921504606846976) (qr : Nat) (s1 : Int)  (a1 : Int64) (ra1 : 0 ≤ a1.toInt) (ta1 : a1.toInt ≤ 2305843009213693952) (a2 : Int32) (ra2 : 0 ≤ a2.toInt) (ta2 : a2.toInt ≤ 120) (a3 : Int32) (ra3 : 0 ≤ a3.toInt) (ta3 : a3.toInt ≤ 9) (a4 : Int32) (ra4 : 1 ≤ a4.toInt) (ta4 : a4.toInt ≤ 19) (a5 : Int32) (ra5 : 0 ≤ a5.toInt) (ta5 : a5.toInt ≤ 999999) (w0 : va_W) (sz : Nat) (hT : TW ksC ad cy B qr s1 w0)  : Met l yX8_note (wu yX8_note cX8_note 9 none) ({ frames := 1, cells := 0, slots := 0, locals := 21 }) (va_Pc [.ref (ad 151), .long a1, .int a2, .int a3, .int a4, .int a5] (wpreS adK adV dC dI cy sz w0)) (va_Qv (P_X8_note_2 ad cy B qr s1 a1 a2 a3 a4 a5 w0) (fun u : va_W => wpost dC dI cy (va_A w0 sz) u) (va_A w0 sz)) 0 0 (va_A w0 sz) := by
  refine Met.ofW (cc := cX8_note) (maxL := 9) (ret := none) (by decide) rfl ?_
  intro p e s m args below meth c s₁ Bk hml hv
  obtain ⟨rfl, ⟨hsz, hP, hK, hD0⟩, hE, hSR⟩ := hv
  have hx := Bk.exec
  have hb := Bk.bytes
  have hr := Bk.returns
  have hlocks := Bk.notSynchronized
  have hC : CallFix p m c cX8_note 9 s _ (wu yX8_note cX8_note 9 none) RX8 := ⟨hx, hb, hml, findClass_of_methodNamed Bk.named, atoms_spec (ws := (wu yX8_note cX8_note 9 none)) Bk.pre⟩
  subst hsz
  have hD := hD0.self (sz := s.heap.size)
  generalize hAe : va_A w0 s.heap.size = A at hD hE ⊢
  have hA : ∀ q : Nat, s.heap.size ≤ q → A q := fun q h => by rw [← hAe]; exact Or.inr h
  have hw : Wd dC dI A s.heap s.heap [] w0 := ⟨hP, hD, va_S.rf⟩
  have hF : FE ksC [(47, 0, 2420)] w0 w0 := FE.rf
  have hl := lv_entry ([.ref (ad 151), .long a1, .int a2, .int a3, .int a4, .int a5]) (n := 9) (Nat.le_of_ble_eq_true rfl)
  rw [lg_entry_eq]
  generalize (lg_sl ([.ref (ad 151), .long a1, .int a2, .int a3, .int a4, .int a5]) ++ List.replicate (9 - (lg_sl ([.ref (ad 151), .long a1, .int a2, .int a3, .int a4, .int a5])).length) Slot.unset).toArray = ls at hl ⊢
  have hl : lv_has ls 9 [(0, .ref (ad 151)), (1, .long a1), (3, .int a2), (4, .int a3), (5, .int a4), (6, .int a5)] := hl
  generalize hloc : ([] : List Loc) = locs at hw ⊢
  have hinX8 : ∀ w ∈ u_ws RX8 TX8 8, w ∈ (wu yX8_note cX8_note 9 none) := fun _ h => List.mem_cons_of_mem _ (up_79 h)
  refine lv_iload_n hx hb dX8_note_0 rfl (lv_at hl 2 rfl) ?_
  refine lv_iload hx hb dX8_note_1 (lv_at hl 3 rfl) ?_
  refine lv_iadd hx hb dX8_note_3 ?_
  refine lv_topi (fun x1 ex1 => ?_)
  have ex1 : x1.toInt = a2.toInt + a3.toInt := by rw [ex1]; exact wk_add (show (-2147483648) ≤ a2.toInt + a3.toInt by omega) (show a2.toInt + a3.toInt ≤ 2147483647 by omega)
  refine lv_aload_n hx hb dX8_note_4 rfl (lv_at hl 0 rfl) ?_
  refine tk_geti hC hK hw hT hinX8 kC_at151 (by decide) rfl 6 (by decide) (List.mem_cons_of_mem _ uw_55_22) rfl rfl dX8_note_5 (fun x2 c3 rx2 tx2 => ?_)
  refine lv_icmp_le (tgt := 12) hx hb dX8_note_8 (by decide) (fun c4 => ?_) (fun c4 => ?_)
  · have c4 : x1.toInt ≤ x2.toInt := wk_le.mp c4
    refine lv_lload_n hx hb dX8_note_12 rfl (lv_at hl 1 rfl) ?_
    refine lv_ldc2 (v := 24) hx hb hC.2.2.2.1 (hC.2.2.2.2 _ (List.mem_cons_of_mem _ uw_56_12)) dX8_note_13 ?_
    refine lv_ldiv hx hb dX8_note_16 (by decide) ?_
    refine lv_topl (fun x5 ex5 => ?_)
    have ex5 : x5.toInt = a1.toInt / (24 : Int) := by rw [ex5]; exact wk_divl (show 0 ≤ a1.toInt from ra1) (show 0 < (24 : Int) by decide)
    refine lv_lload_n hx hb dX8_note_17 rfl (lv_at hl 1 rfl) ?_
    refine lv_iload hx hb dX8_note_18 (lv_at hl 3 rfl) ?_
    refine lv_i2l hx hb dX8_note_20 rfl ?_
    refine lv_topl (fun x6 ex6 => ?_)
    have ex6 : x6.toInt = a3.toInt := by rw [ex6]; exact wk_i2l _
    have bx6 := wk_i32 a3
    refine lv_ladd hx hb dX8_note_21 ?_
    refine lv_topl (fun x7 ex7 => ?_)
    have ex7 : x7.toInt = a1.toInt + x6.toInt := by rw [ex7]; exact wk_addl (show (-9223372036854775808) ≤ a1.toInt + x6.toInt by omega) (show a1.toInt + x6.toInt ≤ 9223372036854775807 by omega)
    refine lv_ldc2 (v := 24) hx hb hC.2.2.2.1 (hC.2.2.2.2 _ (List.mem_cons_of_mem _ uw_56_12)) dX8_note_22 ?_
    refine lv_ldiv hx hb dX8_note_25 (by decide) ?_
    refine lv_topl (fun x8 ex8 => ?_)
    have ex8 : x8.toInt = x7.toInt / (24 : Int) := by rw [ex8]; exact wk_divl (show 0 ≤ x7.toInt by first | with_reducible assumption | omega) (show 0 < (24 : Int) by decide)
    refine W.lcmp hx hb dX8_note_26 ?_
    refine lv_if_ne (tgt := 34) hx hb dX8_note_27 (by decide) (fun c9 => ?_) (fun c9 => ?_)
    · have c9 : ¬ x5.toInt = x8.toInt := wk_ceF c9
      refine lv_iconst (v := 0) hx hb dX8_note_34 (by decide) ?_
      refine lv_istore (lv' := [(7, .int 0), (0, .ref (ad 151)), (1, .long a1), (3, .int a2), (4, .int a3), (5, .int a4), (6, .int a5)]) hx hb dX8_note_35 hl (by decide) rfl (fun ls hl => ?_)
      refine lv_iload_n hx hb dX8_note_37 rfl (lv_at hl 3 rfl) ?_
      refine lv_iload hx hb dX8_note_38 (lv_at hl 4 rfl) ?_
      refine lv_iadd hx hb dX8_note_40 ?_
      refine lv_topi (fun x10 ex10 => ?_)
      have ex10 : x10.toInt = a2.toInt + a3.toInt := by rw [ex10]; exact wk_add (show (-2147483648) ≤ a2.toInt + a3.toInt by omega) (show a2.toInt + a3.toInt ≤ 2147483647 by omega)
      refine lv_bipush (v := 20) hx hb dX8_note_41 (by decide) ?_
      refine lv_imul hx hb dX8_note_43 ?_
      refine lv_topi (fun x11 ex11 => ?_)
      have ex11 : x11.toInt = x10.toInt * (20 : Int) := by rw [ex11]; exact wk_mul (show (-2147483648) ≤ x10.toInt * (20 : Int) by omega) (show x10.toInt * (20 : Int) ≤ 2147483647 by omega)
      refine lv_iload hx hb dX8_note_44 (lv_at hl 0 rfl) ?_
      refine lv_if_eq (tgt := 54) hx hb dX8_note_46 (by decide) (fun _ => ?_) (fun c => absurd (by decide) c)
      refine lv_iload hx hb dX8_note_54 (lv_at hl 5 rfl) ?_
      refine lv_iload hx hb dX8_note_56 (lv_at hl 5 rfl) ?_
      refine lv_iconst (v := 2) hx hb dX8_note_58 (by decide) ?_
      refine lv_irem hx hb dX8_note_59 (by decide) ?_
      refine lv_topi (fun x12 ex12 => ?_)
      have ex12 : x12.toInt = a4.toInt % (2 : Int) := by rw [ex12]; exact wk_rem (show 0 ≤ a4.toInt from Int.le_trans (by decide) ra4) (show 0 < (2 : Int) by decide)
      refine lv_isub hx hb dX8_note_60 ?_
      refine lv_topi (fun x13 ex13 => ?_)
      have ex13 : x13.toInt = a4.toInt - x12.toInt := by rw [ex13]; exact wk_sub (show (-2147483648) ≤ a4.toInt - x12.toInt by omega) (show a4.toInt - x12.toInt ≤ 2147483647 by omega)
      refine lv_iadd hx hb dX8_note_61 ?_
      refine lv_topi (fun x14 ex14 => ?_)
      have ex14 : x14.toInt = x11.toInt + x13.toInt := by rw [ex14]; exact wk_add (show (-2147483648) ≤ x11.toInt + x13.toInt by omega) (show x11.toInt + x13.toInt ≤ 2147483647 by omega)
      refine lv_istore (lv' := [(8, .int x14), (7, .int 0), (0, .ref (ad 151)), (1, .long a1), (3, .int a2), (4, .int a3), (5, .int a4), (6, .int a5)]) hx hb dX8_note_62 hl (by decide) rfl (fun ls hl => ?_)
      refine lv_aload_n hx hb dX8_note_64 rfl (lv_at hl 2 rfl) ?_
      refine tk_getA hC hK hw hT hinX8 kC_at151 (by decide) rfl 5 (by decide) (List.mem_cons_of_mem _ uw_5_10) rfl rfl dX8_note_65 ?_
      refine lv_iload hx hb dX8_note_68 (lv_at hl 0 rfl) ?_
      refine lv_aload_n hx hb dX8_note_70 rfl (lv_at hl 2 rfl) ?_
      refine tk_getA hC hK hw hT hinX8 kC_at151 (by decide) rfl 5 (by decide) (List.mem_cons_of_mem _ uw_5_10) rfl rfl dX8_note_71 ?_
      refine lv_iload hx hb dX8_note_74 (lv_at hl 0 rfl) ?_
      refine tk_iald hC hK hw hT kC_at154 rfl rfl (show 0 ≤ x14.toInt by first | with_reducible assumption | omega) (show x14.toInt < 2420 by first | with_reducible assumption | omega) dX8_note_76 (fun x15 c16 rx15 tx15 => ?_)
      refine lv_iload hx hb dX8_note_77 (lv_at hl 7 rfl) ?_
      refine va_mmin hx hb (hC.2.2.1.trans hl.1.symm) hC.2.2.2.1 (hC.2.2.2.2 _ (List.mem_cons_of_mem _ uw_56_19)) (hC.2.2.2.2 _ (List.mem_cons_of_mem _ uw_14_19)) (hC.2.2.2.2 _ (List.mem_cons_of_mem _ uw_14_16)) (hC.2.2.2.2 _ (List.mem_cons_of_mem _ uw_14_20)) (Nat.le_of_ble_eq_true rfl) (Nat.le_of_ble_eq_true rfl) (Nat.zero_le _) (Nat.zero_le _) dX8_note_79 ?_
      refine lv_topi (fun x17 ex17 => ?_)
      have bx17 : (x17.toInt = x15.toInt ∧ x15.toInt ≤ a5.toInt) ∨ (x17.toInt = a5.toInt ∧ a5.toInt < x15.toInt) := by rw [ex17]; exact wk_min
      refine tk_iast hC hK hw hT kC_at154 (by decide) rfl rfl (show 0 ≤ x14.toInt by first | with_reducible assumption | omega) (show x14.toInt < 2420 by first | with_reducible assumption | omega) (show 0 ≤ x17.toInt by first | with_reducible assumption | omega) (show x17.toInt ≤ 1000000 by first | with_reducible assumption | omega) dX8_note_82 (fun H locs w18 hw hT k20 c19 => ?_)
      have hF := hF.put kC_at154 (inE_of (a := 0) (b := 2420) (by decide) (show 0 ≤ x14.toInt.toNat by omega) (show x14.toInt.toNat ≤ 2420 by omega)) k20
      have c21 := k20.gi (Or.inl (tk_ne kC_at151 kC_at154 (by decide))) c3
      exact tk_vret hC hr hlocks hK ⟨hT, hF, trivial⟩ hw dX8_note_83
    · have c9 : x5.toInt = x8.toInt := wk_ceT c9
      refine lv_iconst (v := 1) hx hb dX8_note_30 (by decide) ?_
      refine lv_goto (tgt := 35) hx hb dX8_note_31 (by decide) ?_
      refine lv_istore (lv' := [(7, .int 1), (0, .ref (ad 151)), (1, .long a1), (3, .int a2), (4, .int a3), (5, .int a4), (6, .int a5)]) hx hb dX8_note_35 hl (by decide) rfl (fun ls hl => ?_)
      refine lv_iload_n hx hb dX8_note_37 rfl (lv_at hl 3 rfl) ?_
      refine lv_iload hx hb dX8_note_38 (lv_at hl 4 rfl) ?_
      refine lv_iadd hx hb dX8_note_40 ?_
      refine lv_topi (fun x22 ex22 => ?_)
      have ex22 : x22.toInt = a2.toInt + a3.toInt := by rw [ex22]; exact wk_add (show (-2147483648) ≤ a2.toInt + a3.toInt by omega) (show a2.toInt + a3.toInt ≤ 2147483647 by omega)
      refine lv_bipush (v := 20) hx hb dX8_note_41 (by decide) ?_
      refine lv_imul hx hb dX8_note_43 ?_
      refine lv_topi (fun x23 ex23 => ?_)
      have ex23 : x23.toInt = x22.toInt * (20 : Int) := by rw [ex23]; exact wk_mul (show (-2147483648) ≤ x22.toInt * (20 : Int) by omega) (show x22.toInt * (20 : Int) ≤ 2147483647 by omega)
      refine lv_iload hx hb dX8_note_44 (lv_at hl 0 rfl) ?_
      refine lv_if_eq (tgt := 54) hx hb dX8_note_46 (by decide) (fun c => absurd c (by decide)) (fun _ => ?_)
      refine lv_iload hx hb dX8_note_49 (lv_at hl 5 rfl) ?_
      refine lv_goto (tgt := 61) hx hb dX8_note_51 (by decide) ?_
      refine lv_iadd hx hb dX8_note_61 ?_
      refine lv_topi (fun x24 ex24 => ?_)
      have ex24 : x24.toInt = x23.toInt + a4.toInt := by rw [ex24]; exact wk_add (show (-2147483648) ≤ x23.toInt + a4.toInt by omega) (show x23.toInt + a4.toInt ≤ 2147483647 by omega)
      refine lv_istore (lv' := [(8, .int x24), (7, .int 1), (0, .ref (ad 151)), (1, .long a1), (3, .int a2), (4, .int a3), (5, .int a4), (6, .int a5)]) hx hb dX8_note_62 hl (by decide) rfl (fun ls hl => ?_)
      refine lv_aload_n hx hb dX8_note_64 rfl (lv_at hl 2 rfl) ?_
      refine tk_getA hC hK hw hT hinX8 kC_at151 (by decide) rfl 5 (by decide) (List.mem_cons_of_mem _ uw_5_10) rfl rfl dX8_note_65 ?_
      refine lv_iload hx hb dX8_note_68 (lv_at hl 0 rfl) ?_
      refine lv_aload_n hx hb dX8_note_70 rfl (lv_at hl 2 rfl) ?_
      refine tk_getA hC hK hw hT hinX8 kC_at151 (by decide) rfl 5 (by decide) (List.mem_cons_of_mem _ uw_5_10) rfl rfl dX8_note_71 ?_
      refine lv_iload hx hb dX8_note_74 (lv_at hl 0 rfl) ?_
      refine tk_iald hC hK hw hT kC_at154 rfl rfl (show 0 ≤ x24.toInt by first | with_reducible assumption | omega) (show x24.toInt < 2420 by first | with_reducible assumption | omega) dX8_note_76 (fun x25 c26 rx25 tx25 => ?_)
      refine lv_iload hx hb dX8_note_77 (lv_at hl 7 rfl) ?_
      refine va_mmin hx hb (hC.2.2.1.trans hl.1.symm) hC.2.2.2.1 (hC.2.2.2.2 _ (List.mem_cons_of_mem _ uw_56_19)) (hC.2.2.2.2 _ (List.mem_cons_of_mem _ uw_14_19)) (hC.2.2.2.2 _ (List.mem_cons_of_mem _ uw_14_16)) (hC.2.2.2.2 _ (List.mem_cons_of_mem _ uw_14_20)) (Nat.le_of_ble_eq_true rfl) (Nat.le_of_ble_eq_true rfl) (Nat.zero_le _) (Nat.zero_le _) dX8_note_79 ?_
      refine lv_topi (fun x27 ex27 => ?_)
      have bx27 : (x27.toInt = x25.toInt ∧ x25.toInt ≤ a5.toInt) ∨ (x27.toInt = a5.toInt ∧ a5.toInt < x25.toInt) := by rw [ex27]; exact wk_min
      refine tk_iast hC hK hw hT kC_at154 (by decide) rfl rfl (show 0 ≤ x24.toInt by first | with_reducible assumption | omega) (show x24.toInt < 2420 by first | with_reducible assumption | omega) (show 0 ≤ x27.toInt by first | with_reducible assumption | omega) (show x27.toInt ≤ 1000000 by first | with_reducible assumption | omega) dX8_note_82 (fun H locs w28 hw hT k30 c29 => ?_)
      have hF := hF.put kC_at154 (inE_of (a := 0) (b := 2420) (by decide) (show 0 ≤ x24.toInt.toNat by omega) (show x24.toInt.toNat ≤ 2420 by omega)) k30
      have c31 := k30.gi (Or.inl (tk_ne kC_at151 kC_at154 (by decide))) c3
      exact tk_vret hC hr hlocks hK ⟨hT, hF, trivial⟩ hw dX8_note_83
  · have c4 : x2.toInt < x1.toInt := wk_leF c4
    exact tk_vret hC hr hlocks hK ⟨hT, hF, trivial⟩ hw dX8_note_11
abbrev P_X8_note_3 (ad : Nat → Nat) (cy : Nat → ClassId) (B : Int) (qr : Nat) (s1 : Int) (a1 : Int64) (a2 : Int32) (a4 : Int32) (a5 : Int32) (w0 : va_W) : va_W → Prop := fun u => TW ksC ad cy B qr s1 u ∧ FE ksC [(47, 0, 2420)] w0 u ∧ ((True))
set_option maxHeartbeats 4000000 in
set_option maxRecDepth 100000 in
theorem k_X8_note_3 (l : Launch) (adK adV : Nat → Nat) (dC : Nat → ClassId) (dI : Nat → Nat → Nat) (cy : Nat → ClassId) (ad : Nat → Nat) (B : Int) (hB0 : 2147483648 ≤ B) (hB1 : B ≤ 1152921504606846976) (qr : Nat) (s1 : Int)  (a1 : Int64) (ra1 : 0 ≤ a1.toInt) (ta1 : a1.toInt ≤ 2305843009213694072) (a2 : Int32) (ra2 : 0 ≤ a2.toInt) (ta2 : a2.toInt ≤ 120) (a4 : Int32) (ra4 : 0 ≤ a4.toInt) (ta4 : a4.toInt ≤ 19) (a5 : Int32) (ra5 : 0 ≤ a5.toInt) (ta5 : a5.toInt ≤ 999999) (w0 : va_W) (sz : Nat) (hT : TW ksC ad cy B qr s1 w0)  : Met l yX8_note (wu yX8_note cX8_note 9 none) ({ frames := 1, cells := 0, slots := 0, locals := 21 }) (va_Pc [.ref (ad 151), .long a1, .int a2, .int 1, .int a4, .int a5] (wpreS adK adV dC dI cy sz w0)) (va_Qv (P_X8_note_3 ad cy B qr s1 a1 a2 a4 a5 w0) (fun u : va_W => wpost dC dI cy (va_A w0 sz) u) (va_A w0 sz)) 0 0 (va_A w0 sz) := by
  refine Met.ofW (cc := cX8_note) (maxL := 9) (ret := none) (by decide) rfl ?_
  intro p e s m args below meth c s₁ Bk hml hv
  obtain ⟨rfl, ⟨hsz, hP, hK, hD0⟩, hE, hSR⟩ := hv
  have hx := Bk.exec
  have hb := Bk.bytes
  have hr := Bk.returns
  have hlocks := Bk.notSynchronized
  have hC : CallFix p m c cX8_note 9 s _ (wu yX8_note cX8_note 9 none) RX8 := ⟨hx, hb, hml, findClass_of_methodNamed Bk.named, atoms_spec (ws := (wu yX8_note cX8_note 9 none)) Bk.pre⟩
  subst hsz
  have hD := hD0.self (sz := s.heap.size)
  generalize hAe : va_A w0 s.heap.size = A at hD hE ⊢
  have hA : ∀ q : Nat, s.heap.size ≤ q → A q := fun q h => by rw [← hAe]; exact Or.inr h
  have hw : Wd dC dI A s.heap s.heap [] w0 := ⟨hP, hD, va_S.rf⟩
  have hF : FE ksC [(47, 0, 2420)] w0 w0 := FE.rf
  have hl := lv_entry ([.ref (ad 151), .long a1, .int a2, .int 1, .int a4, .int a5]) (n := 9) (Nat.le_of_ble_eq_true rfl)
  rw [lg_entry_eq]
  generalize (lg_sl ([.ref (ad 151), .long a1, .int a2, .int 1, .int a4, .int a5]) ++ List.replicate (9 - (lg_sl ([.ref (ad 151), .long a1, .int a2, .int 1, .int a4, .int a5])).length) Slot.unset).toArray = ls at hl ⊢
  have hl : lv_has ls 9 [(0, .ref (ad 151)), (1, .long a1), (3, .int a2), (4, .int 1), (5, .int a4), (6, .int a5)] := hl
  generalize hloc : ([] : List Loc) = locs at hw ⊢
  have hinX8 : ∀ w ∈ u_ws RX8 TX8 8, w ∈ (wu yX8_note cX8_note 9 none) := fun _ h => List.mem_cons_of_mem _ (up_79 h)
  refine lv_iload_n hx hb dX8_note_0 rfl (lv_at hl 2 rfl) ?_
  refine lv_iload hx hb dX8_note_1 (lv_at hl 3 rfl) ?_
  refine lv_iadd hx hb dX8_note_3 ?_
  refine lv_topi (fun x1 ex1 => ?_)
  have ex1 : x1.toInt = a2.toInt + (1 : Int) := by rw [ex1]; exact wk_add (show (-2147483648) ≤ a2.toInt + (1 : Int) by omega) (show a2.toInt + (1 : Int) ≤ 2147483647 by omega)
  refine lv_aload_n hx hb dX8_note_4 rfl (lv_at hl 0 rfl) ?_
  refine tk_geti hC hK hw hT hinX8 kC_at151 (by decide) rfl 6 (by decide) (List.mem_cons_of_mem _ uw_55_22) rfl rfl dX8_note_5 (fun x2 c3 rx2 tx2 => ?_)
  refine lv_icmp_le (tgt := 12) hx hb dX8_note_8 (by decide) (fun c4 => ?_) (fun c4 => ?_)
  · have c4 : x1.toInt ≤ x2.toInt := wk_le.mp c4
    refine lv_lload_n hx hb dX8_note_12 rfl (lv_at hl 1 rfl) ?_
    refine lv_ldc2 (v := 24) hx hb hC.2.2.2.1 (hC.2.2.2.2 _ (List.mem_cons_of_mem _ uw_56_12)) dX8_note_13 ?_
    refine lv_ldiv hx hb dX8_note_16 (by decide) ?_
    refine lv_topl (fun x5 ex5 => ?_)
    have ex5 : x5.toInt = a1.toInt / (24 : Int) := by rw [ex5]; exact wk_divl (show 0 ≤ a1.toInt from ra1) (show 0 < (24 : Int) by decide)
    refine lv_lload_n hx hb dX8_note_17 rfl (lv_at hl 1 rfl) ?_
    refine lv_iload hx hb dX8_note_18 (lv_at hl 3 rfl) ?_
    refine lv_i2l hx hb dX8_note_20 rfl ?_
    refine wk_topl 1 (by decide) ?_
    refine lv_ladd hx hb dX8_note_21 ?_
    refine lv_topl (fun x6 ex6 => ?_)
    have ex6 : x6.toInt = a1.toInt + (1 : Int) := by rw [ex6]; exact wk_addl (show (-9223372036854775808) ≤ a1.toInt + (1 : Int) by omega) (show a1.toInt + (1 : Int) ≤ 9223372036854775807 by omega)
    refine lv_ldc2 (v := 24) hx hb hC.2.2.2.1 (hC.2.2.2.2 _ (List.mem_cons_of_mem _ uw_56_12)) dX8_note_22 ?_
    refine lv_ldiv hx hb dX8_note_25 (by decide) ?_
    refine lv_topl (fun x7 ex7 => ?_)
    have ex7 : x7.toInt = x6.toInt / (24 : Int) := by rw [ex7]; exact wk_divl (show 0 ≤ x6.toInt by first | with_reducible assumption | omega) (show 0 < (24 : Int) by decide)
    refine W.lcmp hx hb dX8_note_26 ?_
    refine lv_if_ne (tgt := 34) hx hb dX8_note_27 (by decide) (fun c8 => ?_) (fun c8 => ?_)
    · have c8 : ¬ x5.toInt = x7.toInt := wk_ceF c8
      refine lv_iconst (v := 0) hx hb dX8_note_34 (by decide) ?_
      refine lv_istore (lv' := [(7, .int 0), (0, .ref (ad 151)), (1, .long a1), (3, .int a2), (4, .int 1), (5, .int a4), (6, .int a5)]) hx hb dX8_note_35 hl (by decide) rfl (fun ls hl => ?_)
      refine lv_iload_n hx hb dX8_note_37 rfl (lv_at hl 3 rfl) ?_
      refine lv_iload hx hb dX8_note_38 (lv_at hl 4 rfl) ?_
      refine lv_iadd hx hb dX8_note_40 ?_
      refine lv_topi (fun x9 ex9 => ?_)
      have ex9 : x9.toInt = a2.toInt + (1 : Int) := by rw [ex9]; exact wk_add (show (-2147483648) ≤ a2.toInt + (1 : Int) by omega) (show a2.toInt + (1 : Int) ≤ 2147483647 by omega)
      refine lv_bipush (v := 20) hx hb dX8_note_41 (by decide) ?_
      refine lv_imul hx hb dX8_note_43 ?_
      refine lv_topi (fun x10 ex10 => ?_)
      have ex10 : x10.toInt = x9.toInt * (20 : Int) := by rw [ex10]; exact wk_mul (show (-2147483648) ≤ x9.toInt * (20 : Int) by omega) (show x9.toInt * (20 : Int) ≤ 2147483647 by omega)
      refine lv_iload hx hb dX8_note_44 (lv_at hl 0 rfl) ?_
      refine lv_if_eq (tgt := 54) hx hb dX8_note_46 (by decide) (fun _ => ?_) (fun c => absurd (by decide) c)
      refine lv_iload hx hb dX8_note_54 (lv_at hl 5 rfl) ?_
      refine lv_iload hx hb dX8_note_56 (lv_at hl 5 rfl) ?_
      refine lv_iconst (v := 2) hx hb dX8_note_58 (by decide) ?_
      refine lv_irem hx hb dX8_note_59 (by decide) ?_
      refine lv_topi (fun x11 ex11 => ?_)
      have ex11 : x11.toInt = a4.toInt % (2 : Int) := by rw [ex11]; exact wk_rem (show 0 ≤ a4.toInt from ra4) (show 0 < (2 : Int) by decide)
      refine lv_isub hx hb dX8_note_60 ?_
      refine lv_topi (fun x12 ex12 => ?_)
      have ex12 : x12.toInt = a4.toInt - x11.toInt := by rw [ex12]; exact wk_sub (show (-2147483648) ≤ a4.toInt - x11.toInt by omega) (show a4.toInt - x11.toInt ≤ 2147483647 by omega)
      refine lv_iadd hx hb dX8_note_61 ?_
      refine lv_topi (fun x13 ex13 => ?_)
      have ex13 : x13.toInt = x10.toInt + x12.toInt := by rw [ex13]; exact wk_add (show (-2147483648) ≤ x10.toInt + x12.toInt by omega) (show x10.toInt + x12.toInt ≤ 2147483647 by omega)
      refine lv_istore (lv' := [(8, .int x13), (7, .int 0), (0, .ref (ad 151)), (1, .long a1), (3, .int a2), (4, .int 1), (5, .int a4), (6, .int a5)]) hx hb dX8_note_62 hl (by decide) rfl (fun ls hl => ?_)
      refine lv_aload_n hx hb dX8_note_64 rfl (lv_at hl 2 rfl) ?_
      refine tk_getA hC hK hw hT hinX8 kC_at151 (by decide) rfl 5 (by decide) (List.mem_cons_of_mem _ uw_5_10) rfl rfl dX8_note_65 ?_
      refine lv_iload hx hb dX8_note_68 (lv_at hl 0 rfl) ?_
      refine lv_aload_n hx hb dX8_note_70 rfl (lv_at hl 2 rfl) ?_
      refine tk_getA hC hK hw hT hinX8 kC_at151 (by decide) rfl 5 (by decide) (List.mem_cons_of_mem _ uw_5_10) rfl rfl dX8_note_71 ?_
      refine lv_iload hx hb dX8_note_74 (lv_at hl 0 rfl) ?_
      refine tk_iald hC hK hw hT kC_at154 rfl rfl (show 0 ≤ x13.toInt by first | with_reducible assumption | omega) (show x13.toInt < 2420 by first | with_reducible assumption | omega) dX8_note_76 (fun x14 c15 rx14 tx14 => ?_)
      refine lv_iload hx hb dX8_note_77 (lv_at hl 7 rfl) ?_
      refine va_mmin hx hb (hC.2.2.1.trans hl.1.symm) hC.2.2.2.1 (hC.2.2.2.2 _ (List.mem_cons_of_mem _ uw_56_19)) (hC.2.2.2.2 _ (List.mem_cons_of_mem _ uw_14_19)) (hC.2.2.2.2 _ (List.mem_cons_of_mem _ uw_14_16)) (hC.2.2.2.2 _ (List.mem_cons_of_mem _ uw_14_20)) (Nat.le_of_ble_eq_true rfl) (Nat.le_of_ble_eq_true rfl) (Nat.zero_le _) (Nat.zero_le _) dX8_note_79 ?_
      refine lv_topi (fun x16 ex16 => ?_)
      have bx16 : (x16.toInt = x14.toInt ∧ x14.toInt ≤ a5.toInt) ∨ (x16.toInt = a5.toInt ∧ a5.toInt < x14.toInt) := by rw [ex16]; exact wk_min
      refine tk_iast hC hK hw hT kC_at154 (by decide) rfl rfl (show 0 ≤ x13.toInt by first | with_reducible assumption | omega) (show x13.toInt < 2420 by first | with_reducible assumption | omega) (show 0 ≤ x16.toInt by first | with_reducible assumption | omega) (show x16.toInt ≤ 1000000 by first | with_reducible assumption | omega) dX8_note_82 (fun H locs w17 hw hT k19 c18 => ?_)
      have hF := hF.put kC_at154 (inE_of (a := 0) (b := 2420) (by decide) (show 0 ≤ x13.toInt.toNat by omega) (show x13.toInt.toNat ≤ 2420 by omega)) k19
      have c20 := k19.gi (Or.inl (tk_ne kC_at151 kC_at154 (by decide))) c3
      exact tk_vret hC hr hlocks hK ⟨hT, hF, trivial⟩ hw dX8_note_83
    · have c8 : x5.toInt = x7.toInt := wk_ceT c8
      refine lv_iconst (v := 1) hx hb dX8_note_30 (by decide) ?_
      refine lv_goto (tgt := 35) hx hb dX8_note_31 (by decide) ?_
      refine lv_istore (lv' := [(7, .int 1), (0, .ref (ad 151)), (1, .long a1), (3, .int a2), (4, .int 1), (5, .int a4), (6, .int a5)]) hx hb dX8_note_35 hl (by decide) rfl (fun ls hl => ?_)
      refine lv_iload_n hx hb dX8_note_37 rfl (lv_at hl 3 rfl) ?_
      refine lv_iload hx hb dX8_note_38 (lv_at hl 4 rfl) ?_
      refine lv_iadd hx hb dX8_note_40 ?_
      refine lv_topi (fun x21 ex21 => ?_)
      have ex21 : x21.toInt = a2.toInt + (1 : Int) := by rw [ex21]; exact wk_add (show (-2147483648) ≤ a2.toInt + (1 : Int) by omega) (show a2.toInt + (1 : Int) ≤ 2147483647 by omega)
      refine lv_bipush (v := 20) hx hb dX8_note_41 (by decide) ?_
      refine lv_imul hx hb dX8_note_43 ?_
      refine lv_topi (fun x22 ex22 => ?_)
      have ex22 : x22.toInt = x21.toInt * (20 : Int) := by rw [ex22]; exact wk_mul (show (-2147483648) ≤ x21.toInt * (20 : Int) by omega) (show x21.toInt * (20 : Int) ≤ 2147483647 by omega)
      refine lv_iload hx hb dX8_note_44 (lv_at hl 0 rfl) ?_
      refine lv_if_eq (tgt := 54) hx hb dX8_note_46 (by decide) (fun c => absurd c (by decide)) (fun _ => ?_)
      refine lv_iload hx hb dX8_note_49 (lv_at hl 5 rfl) ?_
      refine lv_goto (tgt := 61) hx hb dX8_note_51 (by decide) ?_
      refine lv_iadd hx hb dX8_note_61 ?_
      refine lv_topi (fun x23 ex23 => ?_)
      have ex23 : x23.toInt = x22.toInt + a4.toInt := by rw [ex23]; exact wk_add (show (-2147483648) ≤ x22.toInt + a4.toInt by omega) (show x22.toInt + a4.toInt ≤ 2147483647 by omega)
      refine lv_istore (lv' := [(8, .int x23), (7, .int 1), (0, .ref (ad 151)), (1, .long a1), (3, .int a2), (4, .int 1), (5, .int a4), (6, .int a5)]) hx hb dX8_note_62 hl (by decide) rfl (fun ls hl => ?_)
      refine lv_aload_n hx hb dX8_note_64 rfl (lv_at hl 2 rfl) ?_
      refine tk_getA hC hK hw hT hinX8 kC_at151 (by decide) rfl 5 (by decide) (List.mem_cons_of_mem _ uw_5_10) rfl rfl dX8_note_65 ?_
      refine lv_iload hx hb dX8_note_68 (lv_at hl 0 rfl) ?_
      refine lv_aload_n hx hb dX8_note_70 rfl (lv_at hl 2 rfl) ?_
      refine tk_getA hC hK hw hT hinX8 kC_at151 (by decide) rfl 5 (by decide) (List.mem_cons_of_mem _ uw_5_10) rfl rfl dX8_note_71 ?_
      refine lv_iload hx hb dX8_note_74 (lv_at hl 0 rfl) ?_
      refine tk_iald hC hK hw hT kC_at154 rfl rfl (show 0 ≤ x23.toInt by first | with_reducible assumption | omega) (show x23.toInt < 2420 by first | with_reducible assumption | omega) dX8_note_76 (fun x24 c25 rx24 tx24 => ?_)
      refine lv_iload hx hb dX8_note_77 (lv_at hl 7 rfl) ?_
      refine va_mmin hx hb (hC.2.2.1.trans hl.1.symm) hC.2.2.2.1 (hC.2.2.2.2 _ (List.mem_cons_of_mem _ uw_56_19)) (hC.2.2.2.2 _ (List.mem_cons_of_mem _ uw_14_19)) (hC.2.2.2.2 _ (List.mem_cons_of_mem _ uw_14_16)) (hC.2.2.2.2 _ (List.mem_cons_of_mem _ uw_14_20)) (Nat.le_of_ble_eq_true rfl) (Nat.le_of_ble_eq_true rfl) (Nat.zero_le _) (Nat.zero_le _) dX8_note_79 ?_
      refine lv_topi (fun x26 ex26 => ?_)
      have bx26 : (x26.toInt = x24.toInt ∧ x24.toInt ≤ a5.toInt) ∨ (x26.toInt = a5.toInt ∧ a5.toInt < x24.toInt) := by rw [ex26]; exact wk_min
      refine tk_iast hC hK hw hT kC_at154 (by decide) rfl rfl (show 0 ≤ x23.toInt by first | with_reducible assumption | omega) (show x23.toInt < 2420 by first | with_reducible assumption | omega) (show 0 ≤ x26.toInt by first | with_reducible assumption | omega) (show x26.toInt ≤ 1000000 by first | with_reducible assumption | omega) dX8_note_82 (fun H locs w27 hw hT k29 c28 => ?_)
      have hF := hF.put kC_at154 (inE_of (a := 0) (b := 2420) (by decide) (show 0 ≤ x23.toInt.toNat by omega) (show x23.toInt.toNat ≤ 2420 by omega)) k29
      have c30 := k29.gi (Or.inl (tk_ne kC_at151 kC_at154 (by decide))) c3
      exact tk_vret hC hr hlocks hK ⟨hT, hF, trivial⟩ hw dX8_note_83
  · have c4 : x2.toInt < x1.toInt := wk_leF c4
    exact tk_vret hC hr hlocks hK ⟨hT, hF, trivial⟩ hw dX8_note_11
abbrev P_X8_note_4 (ad : Nat → Nat) (cy : Nat → ClassId) (B : Int) (qr : Nat) (s1 : Int) (a1 : Int64) (a2 : Int32) (a4 : Int32) (a5 : Int32) (w0 : va_W) : va_W → Prop := fun u => TW ksC ad cy B qr s1 u ∧ FE ksC [(47, 0, 2420)] w0 u ∧ ((True))
set_option maxHeartbeats 4000000 in
set_option maxRecDepth 100000 in
theorem k_X8_note_4 (l : Launch) (adK adV : Nat → Nat) (dC : Nat → ClassId) (dI : Nat → Nat → Nat) (cy : Nat → ClassId) (ad : Nat → Nat) (B : Int) (hB0 : 2147483648 ≤ B) (hB1 : B ≤ 1152921504606846976) (qr : Nat) (s1 : Int)  (a1 : Int64) (ra1 : 0 ≤ a1.toInt) (ta1 : a1.toInt ≤ 2305843009213694072) (a2 : Int32) (ra2 : 0 ≤ a2.toInt) (ta2 : a2.toInt ≤ 120) (a4 : Int32) (ra4 : 1 ≤ a4.toInt) (ta4 : a4.toInt ≤ 19) (a5 : Int32) (ra5 : 1 ≤ a5.toInt) (ta5 : a5.toInt ≤ 1000000) (w0 : va_W) (sz : Nat) (hT : TW ksC ad cy B qr s1 w0)  : Met l yX8_note (wu yX8_note cX8_note 9 none) ({ frames := 1, cells := 0, slots := 0, locals := 21 }) (va_Pc [.ref (ad 151), .long a1, .int a2, .int 1, .int a4, .int a5] (wpreS adK adV dC dI cy sz w0)) (va_Qv (P_X8_note_4 ad cy B qr s1 a1 a2 a4 a5 w0) (fun u : va_W => wpost dC dI cy (va_A w0 sz) u) (va_A w0 sz)) 0 0 (va_A w0 sz) := by
  refine Met.ofW (cc := cX8_note) (maxL := 9) (ret := none) (by decide) rfl ?_
  intro p e s m args below meth c s₁ Bk hml hv
  obtain ⟨rfl, ⟨hsz, hP, hK, hD0⟩, hE, hSR⟩ := hv
  have hx := Bk.exec
  have hb := Bk.bytes
  have hr := Bk.returns
  have hlocks := Bk.notSynchronized
  have hC : CallFix p m c cX8_note 9 s _ (wu yX8_note cX8_note 9 none) RX8 := ⟨hx, hb, hml, findClass_of_methodNamed Bk.named, atoms_spec (ws := (wu yX8_note cX8_note 9 none)) Bk.pre⟩
  subst hsz
  have hD := hD0.self (sz := s.heap.size)
  generalize hAe : va_A w0 s.heap.size = A at hD hE ⊢
  have hA : ∀ q : Nat, s.heap.size ≤ q → A q := fun q h => by rw [← hAe]; exact Or.inr h
  have hw : Wd dC dI A s.heap s.heap [] w0 := ⟨hP, hD, va_S.rf⟩
  have hF : FE ksC [(47, 0, 2420)] w0 w0 := FE.rf
  have hl := lv_entry ([.ref (ad 151), .long a1, .int a2, .int 1, .int a4, .int a5]) (n := 9) (Nat.le_of_ble_eq_true rfl)
  rw [lg_entry_eq]
  generalize (lg_sl ([.ref (ad 151), .long a1, .int a2, .int 1, .int a4, .int a5]) ++ List.replicate (9 - (lg_sl ([.ref (ad 151), .long a1, .int a2, .int 1, .int a4, .int a5])).length) Slot.unset).toArray = ls at hl ⊢
  have hl : lv_has ls 9 [(0, .ref (ad 151)), (1, .long a1), (3, .int a2), (4, .int 1), (5, .int a4), (6, .int a5)] := hl
  generalize hloc : ([] : List Loc) = locs at hw ⊢
  have hinX8 : ∀ w ∈ u_ws RX8 TX8 8, w ∈ (wu yX8_note cX8_note 9 none) := fun _ h => List.mem_cons_of_mem _ (up_79 h)
  refine lv_iload_n hx hb dX8_note_0 rfl (lv_at hl 2 rfl) ?_
  refine lv_iload hx hb dX8_note_1 (lv_at hl 3 rfl) ?_
  refine lv_iadd hx hb dX8_note_3 ?_
  refine lv_topi (fun x1 ex1 => ?_)
  have ex1 : x1.toInt = a2.toInt + (1 : Int) := by rw [ex1]; exact wk_add (show (-2147483648) ≤ a2.toInt + (1 : Int) by omega) (show a2.toInt + (1 : Int) ≤ 2147483647 by omega)
  refine lv_aload_n hx hb dX8_note_4 rfl (lv_at hl 0 rfl) ?_
  refine tk_geti hC hK hw hT hinX8 kC_at151 (by decide) rfl 6 (by decide) (List.mem_cons_of_mem _ uw_55_22) rfl rfl dX8_note_5 (fun x2 c3 rx2 tx2 => ?_)
  refine lv_icmp_le (tgt := 12) hx hb dX8_note_8 (by decide) (fun c4 => ?_) (fun c4 => ?_)
  · have c4 : x1.toInt ≤ x2.toInt := wk_le.mp c4
    refine lv_lload_n hx hb dX8_note_12 rfl (lv_at hl 1 rfl) ?_
    refine lv_ldc2 (v := 24) hx hb hC.2.2.2.1 (hC.2.2.2.2 _ (List.mem_cons_of_mem _ uw_56_12)) dX8_note_13 ?_
    refine lv_ldiv hx hb dX8_note_16 (by decide) ?_
    refine lv_topl (fun x5 ex5 => ?_)
    have ex5 : x5.toInt = a1.toInt / (24 : Int) := by rw [ex5]; exact wk_divl (show 0 ≤ a1.toInt from ra1) (show 0 < (24 : Int) by decide)
    refine lv_lload_n hx hb dX8_note_17 rfl (lv_at hl 1 rfl) ?_
    refine lv_iload hx hb dX8_note_18 (lv_at hl 3 rfl) ?_
    refine lv_i2l hx hb dX8_note_20 rfl ?_
    refine wk_topl 1 (by decide) ?_
    refine lv_ladd hx hb dX8_note_21 ?_
    refine lv_topl (fun x6 ex6 => ?_)
    have ex6 : x6.toInt = a1.toInt + (1 : Int) := by rw [ex6]; exact wk_addl (show (-9223372036854775808) ≤ a1.toInt + (1 : Int) by omega) (show a1.toInt + (1 : Int) ≤ 9223372036854775807 by omega)
    refine lv_ldc2 (v := 24) hx hb hC.2.2.2.1 (hC.2.2.2.2 _ (List.mem_cons_of_mem _ uw_56_12)) dX8_note_22 ?_
    refine lv_ldiv hx hb dX8_note_25 (by decide) ?_
    refine lv_topl (fun x7 ex7 => ?_)
    have ex7 : x7.toInt = x6.toInt / (24 : Int) := by rw [ex7]; exact wk_divl (show 0 ≤ x6.toInt by first | with_reducible assumption | omega) (show 0 < (24 : Int) by decide)
    refine W.lcmp hx hb dX8_note_26 ?_
    refine lv_if_ne (tgt := 34) hx hb dX8_note_27 (by decide) (fun c8 => ?_) (fun c8 => ?_)
    · have c8 : ¬ x5.toInt = x7.toInt := wk_ceF c8
      refine lv_iconst (v := 0) hx hb dX8_note_34 (by decide) ?_
      refine lv_istore (lv' := [(7, .int 0), (0, .ref (ad 151)), (1, .long a1), (3, .int a2), (4, .int 1), (5, .int a4), (6, .int a5)]) hx hb dX8_note_35 hl (by decide) rfl (fun ls hl => ?_)
      refine lv_iload_n hx hb dX8_note_37 rfl (lv_at hl 3 rfl) ?_
      refine lv_iload hx hb dX8_note_38 (lv_at hl 4 rfl) ?_
      refine lv_iadd hx hb dX8_note_40 ?_
      refine lv_topi (fun x9 ex9 => ?_)
      have ex9 : x9.toInt = a2.toInt + (1 : Int) := by rw [ex9]; exact wk_add (show (-2147483648) ≤ a2.toInt + (1 : Int) by omega) (show a2.toInt + (1 : Int) ≤ 2147483647 by omega)
      refine lv_bipush (v := 20) hx hb dX8_note_41 (by decide) ?_
      refine lv_imul hx hb dX8_note_43 ?_
      refine lv_topi (fun x10 ex10 => ?_)
      have ex10 : x10.toInt = x9.toInt * (20 : Int) := by rw [ex10]; exact wk_mul (show (-2147483648) ≤ x9.toInt * (20 : Int) by omega) (show x9.toInt * (20 : Int) ≤ 2147483647 by omega)
      refine lv_iload hx hb dX8_note_44 (lv_at hl 0 rfl) ?_
      refine lv_if_eq (tgt := 54) hx hb dX8_note_46 (by decide) (fun _ => ?_) (fun c => absurd (by decide) c)
      refine lv_iload hx hb dX8_note_54 (lv_at hl 5 rfl) ?_
      refine lv_iload hx hb dX8_note_56 (lv_at hl 5 rfl) ?_
      refine lv_iconst (v := 2) hx hb dX8_note_58 (by decide) ?_
      refine lv_irem hx hb dX8_note_59 (by decide) ?_
      refine lv_topi (fun x11 ex11 => ?_)
      have ex11 : x11.toInt = a4.toInt % (2 : Int) := by rw [ex11]; exact wk_rem (show 0 ≤ a4.toInt from Int.le_trans (by decide) ra4) (show 0 < (2 : Int) by decide)
      refine lv_isub hx hb dX8_note_60 ?_
      refine lv_topi (fun x12 ex12 => ?_)
      have ex12 : x12.toInt = a4.toInt - x11.toInt := by rw [ex12]; exact wk_sub (show (-2147483648) ≤ a4.toInt - x11.toInt by omega) (show a4.toInt - x11.toInt ≤ 2147483647 by omega)
      refine lv_iadd hx hb dX8_note_61 ?_
      refine lv_topi (fun x13 ex13 => ?_)
      have ex13 : x13.toInt = x10.toInt + x12.toInt := by rw [ex13]; exact wk_add (show (-2147483648) ≤ x10.toInt + x12.toInt by omega) (show x10.toInt + x12.toInt ≤ 2147483647 by omega)
      refine lv_istore (lv' := [(8, .int x13), (7, .int 0), (0, .ref (ad 151)), (1, .long a1), (3, .int a2), (4, .int 1), (5, .int a4), (6, .int a5)]) hx hb dX8_note_62 hl (by decide) rfl (fun ls hl => ?_)
      refine lv_aload_n hx hb dX8_note_64 rfl (lv_at hl 2 rfl) ?_
      refine tk_getA hC hK hw hT hinX8 kC_at151 (by decide) rfl 5 (by decide) (List.mem_cons_of_mem _ uw_5_10) rfl rfl dX8_note_65 ?_
      refine lv_iload hx hb dX8_note_68 (lv_at hl 0 rfl) ?_
      refine lv_aload_n hx hb dX8_note_70 rfl (lv_at hl 2 rfl) ?_
      refine tk_getA hC hK hw hT hinX8 kC_at151 (by decide) rfl 5 (by decide) (List.mem_cons_of_mem _ uw_5_10) rfl rfl dX8_note_71 ?_
      refine lv_iload hx hb dX8_note_74 (lv_at hl 0 rfl) ?_
      refine tk_iald hC hK hw hT kC_at154 rfl rfl (show 0 ≤ x13.toInt by first | with_reducible assumption | omega) (show x13.toInt < 2420 by first | with_reducible assumption | omega) dX8_note_76 (fun x14 c15 rx14 tx14 => ?_)
      refine lv_iload hx hb dX8_note_77 (lv_at hl 7 rfl) ?_
      refine va_mmin hx hb (hC.2.2.1.trans hl.1.symm) hC.2.2.2.1 (hC.2.2.2.2 _ (List.mem_cons_of_mem _ uw_56_19)) (hC.2.2.2.2 _ (List.mem_cons_of_mem _ uw_14_19)) (hC.2.2.2.2 _ (List.mem_cons_of_mem _ uw_14_16)) (hC.2.2.2.2 _ (List.mem_cons_of_mem _ uw_14_20)) (Nat.le_of_ble_eq_true rfl) (Nat.le_of_ble_eq_true rfl) (Nat.zero_le _) (Nat.zero_le _) dX8_note_79 ?_
      refine lv_topi (fun x16 ex16 => ?_)
      have bx16 : (x16.toInt = x14.toInt ∧ x14.toInt ≤ a5.toInt) ∨ (x16.toInt = a5.toInt ∧ a5.toInt < x14.toInt) := by rw [ex16]; exact wk_min
      refine tk_iast hC hK hw hT kC_at154 (by decide) rfl rfl (show 0 ≤ x13.toInt by first | with_reducible assumption | omega) (show x13.toInt < 2420 by first | with_reducible assumption | omega) (show 0 ≤ x16.toInt by first | with_reducible assumption | omega) (show x16.toInt ≤ 1000000 by first | with_reducible assumption | omega) dX8_note_82 (fun H locs w17 hw hT k19 c18 => ?_)
      have hF := hF.put kC_at154 (inE_of (a := 0) (b := 2420) (by decide) (show 0 ≤ x13.toInt.toNat by omega) (show x13.toInt.toNat ≤ 2420 by omega)) k19
      have c20 := k19.gi (Or.inl (tk_ne kC_at151 kC_at154 (by decide))) c3
      exact tk_vret hC hr hlocks hK ⟨hT, hF, trivial⟩ hw dX8_note_83
    · have c8 : x5.toInt = x7.toInt := wk_ceT c8
      refine lv_iconst (v := 1) hx hb dX8_note_30 (by decide) ?_
      refine lv_goto (tgt := 35) hx hb dX8_note_31 (by decide) ?_
      refine lv_istore (lv' := [(7, .int 1), (0, .ref (ad 151)), (1, .long a1), (3, .int a2), (4, .int 1), (5, .int a4), (6, .int a5)]) hx hb dX8_note_35 hl (by decide) rfl (fun ls hl => ?_)
      refine lv_iload_n hx hb dX8_note_37 rfl (lv_at hl 3 rfl) ?_
      refine lv_iload hx hb dX8_note_38 (lv_at hl 4 rfl) ?_
      refine lv_iadd hx hb dX8_note_40 ?_
      refine lv_topi (fun x21 ex21 => ?_)
      have ex21 : x21.toInt = a2.toInt + (1 : Int) := by rw [ex21]; exact wk_add (show (-2147483648) ≤ a2.toInt + (1 : Int) by omega) (show a2.toInt + (1 : Int) ≤ 2147483647 by omega)
      refine lv_bipush (v := 20) hx hb dX8_note_41 (by decide) ?_
      refine lv_imul hx hb dX8_note_43 ?_
      refine lv_topi (fun x22 ex22 => ?_)
      have ex22 : x22.toInt = x21.toInt * (20 : Int) := by rw [ex22]; exact wk_mul (show (-2147483648) ≤ x21.toInt * (20 : Int) by omega) (show x21.toInt * (20 : Int) ≤ 2147483647 by omega)
      refine lv_iload hx hb dX8_note_44 (lv_at hl 0 rfl) ?_
      refine lv_if_eq (tgt := 54) hx hb dX8_note_46 (by decide) (fun c => absurd c (by decide)) (fun _ => ?_)
      refine lv_iload hx hb dX8_note_49 (lv_at hl 5 rfl) ?_
      refine lv_goto (tgt := 61) hx hb dX8_note_51 (by decide) ?_
      refine lv_iadd hx hb dX8_note_61 ?_
      refine lv_topi (fun x23 ex23 => ?_)
      have ex23 : x23.toInt = x22.toInt + a4.toInt := by rw [ex23]; exact wk_add (show (-2147483648) ≤ x22.toInt + a4.toInt by omega) (show x22.toInt + a4.toInt ≤ 2147483647 by omega)
      refine lv_istore (lv' := [(8, .int x23), (7, .int 1), (0, .ref (ad 151)), (1, .long a1), (3, .int a2), (4, .int 1), (5, .int a4), (6, .int a5)]) hx hb dX8_note_62 hl (by decide) rfl (fun ls hl => ?_)
      refine lv_aload_n hx hb dX8_note_64 rfl (lv_at hl 2 rfl) ?_
      refine tk_getA hC hK hw hT hinX8 kC_at151 (by decide) rfl 5 (by decide) (List.mem_cons_of_mem _ uw_5_10) rfl rfl dX8_note_65 ?_
      refine lv_iload hx hb dX8_note_68 (lv_at hl 0 rfl) ?_
      refine lv_aload_n hx hb dX8_note_70 rfl (lv_at hl 2 rfl) ?_
      refine tk_getA hC hK hw hT hinX8 kC_at151 (by decide) rfl 5 (by decide) (List.mem_cons_of_mem _ uw_5_10) rfl rfl dX8_note_71 ?_
      refine lv_iload hx hb dX8_note_74 (lv_at hl 0 rfl) ?_
      refine tk_iald hC hK hw hT kC_at154 rfl rfl (show 0 ≤ x23.toInt by first | with_reducible assumption | omega) (show x23.toInt < 2420 by first | with_reducible assumption | omega) dX8_note_76 (fun x24 c25 rx24 tx24 => ?_)
      refine lv_iload hx hb dX8_note_77 (lv_at hl 7 rfl) ?_
      refine va_mmin hx hb (hC.2.2.1.trans hl.1.symm) hC.2.2.2.1 (hC.2.2.2.2 _ (List.mem_cons_of_mem _ uw_56_19)) (hC.2.2.2.2 _ (List.mem_cons_of_mem _ uw_14_19)) (hC.2.2.2.2 _ (List.mem_cons_of_mem _ uw_14_16)) (hC.2.2.2.2 _ (List.mem_cons_of_mem _ uw_14_20)) (Nat.le_of_ble_eq_true rfl) (Nat.le_of_ble_eq_true rfl) (Nat.zero_le _) (Nat.zero_le _) dX8_note_79 ?_
      refine lv_topi (fun x26 ex26 => ?_)
      have bx26 : (x26.toInt = x24.toInt ∧ x24.toInt ≤ a5.toInt) ∨ (x26.toInt = a5.toInt ∧ a5.toInt < x24.toInt) := by rw [ex26]; exact wk_min
      refine tk_iast hC hK hw hT kC_at154 (by decide) rfl rfl (show 0 ≤ x23.toInt by first | with_reducible assumption | omega) (show x23.toInt < 2420 by first | with_reducible assumption | omega) (show 0 ≤ x26.toInt by first | with_reducible assumption | omega) (show x26.toInt ≤ 1000000 by first | with_reducible assumption | omega) dX8_note_82 (fun H locs w27 hw hT k29 c28 => ?_)
      have hF := hF.put kC_at154 (inE_of (a := 0) (b := 2420) (by decide) (show 0 ≤ x23.toInt.toNat by omega) (show x23.toInt.toNat ≤ 2420 by omega)) k29
      have c30 := k29.gi (Or.inl (tk_ne kC_at151 kC_at154 (by decide))) c3
      exact tk_vret hC hr hlocks hK ⟨hT, hF, trivial⟩ hw dX8_note_83
  · have c4 : x2.toInt < x1.toInt := wk_leF c4
    exact tk_vret hC hr hlocks hK ⟨hT, hF, trivial⟩ hw dX8_note_11
abbrev P_X8_spread_1 (ad : Nat → Nat) (cy : Nat → ClassId) (B : Int) (qr : Nat) (s1 : Int) (q1_ : Nat) (a2 : Int32) (a3 : Int32) (a4 : Int32) (w0 : va_W) : va_W → Prop := fun u => TW ksC ad cy B qr s1 u ∧ FE ksC [(47, 0, 2420)] w0 u ∧ ((True))
set_option maxHeartbeats 4000000 in
set_option maxRecDepth 100000 in
theorem k_X8_spread_1 (l : Launch) (adK adV : Nat → Nat) (dC : Nat → ClassId) (dI : Nat → Nat → Nat) (cy : Nat → ClassId) (ad : Nat → Nat) (B : Int) (hB0 : 2147483648 ≤ B) (hB1 : B ≤ 1152921504606846976) (qr : Nat) (s1 : Int)  (q1_ : Nat) (hkq1_ : ksC[q1_]? = some 9) (a2 : Int32) (ra2 : 0 ≤ a2.toInt) (ta2 : a2.toInt ≤ 120) (a3 : Int32) (ra3 : 0 ≤ a3.toInt) (ta3 : a3.toInt ≤ 19) (a4 : Int32) (ra4 : 0 ≤ a4.toInt) (ta4 : a4.toInt ≤ 999999) (w0 : va_W) (sz : Nat) (hT : TW ksC ad cy B qr s1 w0)  : Met l yX8_spread (wu yX8_spread cX8_spread 13 none) ({ frames := 3, cells := 0, slots := 0, locals := 65 }) (va_Pc [.ref (ad 151), .ref (ad q1_), .int a2, .int a3, .int a4] (wpreS adK adV dC dI cy sz w0)) (va_Qv (P_X8_spread_1 ad cy B qr s1 q1_ a2 a3 a4 w0) (fun u : va_W => wpost dC dI cy (va_A w0 sz) u) (va_A w0 sz)) 0 0 (va_A w0 sz) := by
  refine Met.ofW (cc := cX8_spread) (maxL := 13) (ret := none) (by decide) rfl ?_
  intro p e s m args below meth c s₁ Bk hml hv
  obtain ⟨rfl, ⟨hsz, hP, hK, hD0⟩, hE, hSR⟩ := hv
  have hx := Bk.exec
  have hb := Bk.bytes
  have hr := Bk.returns
  have hlocks := Bk.notSynchronized
  have hC : CallFix p m c cX8_spread 13 s _ (wu yX8_spread cX8_spread 13 none) RX8 := ⟨hx, hb, hml, findClass_of_methodNamed Bk.named, atoms_spec (ws := (wu yX8_spread cX8_spread 13 none)) Bk.pre⟩
  subst hsz
  have hD := hD0.self (sz := s.heap.size)
  generalize hAe : va_A w0 s.heap.size = A at hD hE ⊢
  have hA : ∀ q : Nat, s.heap.size ≤ q → A q := fun q h => by rw [← hAe]; exact Or.inr h
  have hw : Wd dC dI A s.heap s.heap [] w0 := ⟨hP, hD, va_S.rf⟩
  have hF : FE ksC [(47, 0, 2420)] w0 w0 := FE.rf
  have hl := lv_entry ([.ref (ad 151), .ref (ad q1_), .int a2, .int a3, .int a4]) (n := 13) (Nat.le_of_ble_eq_true rfl)
  rw [lg_entry_eq]
  generalize (lg_sl ([.ref (ad 151), .ref (ad q1_), .int a2, .int a3, .int a4]) ++ List.replicate (13 - (lg_sl ([.ref (ad 151), .ref (ad q1_), .int a2, .int a3, .int a4])).length) Slot.unset).toArray = ls at hl ⊢
  have hl : lv_has ls 13 [(0, .ref (ad 151)), (1, .ref (ad q1_)), (2, .int a2), (3, .int a3), (4, .int a4)] := hl
  generalize hloc : ([] : List Loc) = locs at hw ⊢
  have hinX9 : ∀ w ∈ u_ws RX9 TX9 9, w ∈ (wu yX8_spread cX8_spread 13 none) := fun _ h => List.mem_cons_of_mem _ (up_82 h)
  have hinX8 : ∀ w ∈ u_ws RX8 TX8 8, w ∈ (wu yX8_spread cX8_spread 13 none) := fun _ h => List.mem_cons_of_mem _ (up_79 h)
  have hinX5 : ∀ w ∈ u_ws RX5 TX5 14, w ∈ (wu yX8_spread cX8_spread 13 none) := fun _ h => List.mem_cons_of_mem _ (up_76 h)
  have hinX7 : ∀ w ∈ u_ws RX7 TX7 12, w ∈ (wu yX8_spread cX8_spread 13 none) := fun _ h => List.mem_cons_of_mem _ (up_73 h)
  have J185 : ∀ (v185_5 : Int32) (v185_6 : Int32) (v185_7 : Int64) (v185_9 : Int32) (v185_10 : Int32) (v185_11 : Int32) (f185_q1__1 : Int32) (H : Heap) (locs : List Loc) (ls : Array Slot) (w1 : va_W), 0 ≤ a2.toInt → a2.toInt ≤ 120 → 0 ≤ a3.toInt → a3.toInt ≤ 19 → 0 ≤ a4.toInt → a4.toInt ≤ 999999 → 0 ≤ v185_5.toInt → v185_5.toInt ≤ 9 → 0 ≤ v185_6.toInt → v185_6.toInt ≤ 1 → 0 ≤ v185_7.toInt → v185_7.toInt ≤ 2305843009213693952 → 0 ≤ v185_9.toInt → v185_9.toInt ≤ 10 → 0 ≤ v185_10.toInt → v185_10.toInt ≤ 11 → (-1) ≤ v185_11.toInt → v185_11.toInt ≤ 1 → 0 ≤ f185_q1__1.toInt → f185_q1__1.toInt ≤ 9 → Wd dC dI A s.heap H locs w1 → TW ksC ad cy B qr s1 w1 → FE ksC [(47, 0, 2420)] w0 w1 → gi w1 q1_ 1 = f185_q1__1 → lv_has ls 13 [(0, .ref (ad 151)), (1, .ref (ad q1_)), (2, .int a2), (3, .int a3), (4, .int a4), (5, .int v185_5), (6, .int v185_6), (7, .long v185_7), (9, .int v185_9), (10, .int v185_10), (11, .int v185_11)] → W p l e ({ frames := 3, cells := 0, slots := 0, locals := 65 }) s m (List.toArray [.ref (ad 151), .ref (ad q1_), .int a2, .int a3, .int a4]) below meth c H locs 0 0 (MQ below (va_Qv (P_X8_spread_1 ad cy B qr s1 q1_ a2 a3 a4 w0) (fun u : va_W => wpost dC dI cy A u) A) (List.toArray [.ref (ad 151), .ref (ad q1_), .int a2, .int a3, .int a4]) s 0 0 A) (F0 m 185 ls []) := by
    intro v185_5 v185_6 v185_7 v185_9 v185_10 v185_11 f185_q1__1 H locs ls w1 r2 t3 r4 t5 r6 t7 r8 t9 r10 t11 r12 t13 r14 t15 r16 t17 r18 t19 r20 t21 hw hT hF c22 hl
    exact tk_vret hC hr hlocks hK ⟨hT, hF, trivial⟩ hw dX8_spread_185
  have J50 : ∀ (v50_5 : Int32) (v50_6 : Int32) (v50_7 : Int64) (H : Heap) (locs : List Loc) (ls : Array Slot) (w23 : va_W), 0 ≤ a2.toInt → a2.toInt ≤ 120 → 0 ≤ a3.toInt → a3.toInt ≤ 19 → 0 ≤ a4.toInt → a4.toInt ≤ 999999 → 0 ≤ v50_5.toInt → v50_5.toInt ≤ 9 → 0 ≤ v50_6.toInt → v50_6.toInt ≤ 1 → 0 ≤ v50_7.toInt → v50_7.toInt ≤ 2305843009213693952 → Wd dC dI A s.heap H locs w23 → TW ksC ad cy B qr s1 w23 → FE ksC [(47, 0, 2420)] w0 w23 → lv_has ls 13 [(0, .ref (ad 151)), (1, .ref (ad q1_)), (2, .int a2), (3, .int a3), (4, .int a4), (5, .int v50_5), (6, .int v50_6), (7, .long v50_7)] → W p l e ({ frames := 3, cells := 0, slots := 0, locals := 65 }) s m (List.toArray [.ref (ad 151), .ref (ad q1_), .int a2, .int a3, .int a4]) below meth c H locs 0 0 (MQ below (va_Qv (P_X8_spread_1 ad cy B qr s1 q1_ a2 a3 a4 w0) (fun u : va_W => wpost dC dI cy A u) A) (List.toArray [.ref (ad 151), .ref (ad q1_), .int a2, .int a3, .int a4]) s 0 0 A) (F0 m 50 ls []) := by
    intro v50_5 v50_6 v50_7 H locs ls w23 r24 t25 r26 t27 r28 t29 r30 t31 r32 t33 r34 t35 hw hT hF hl
    refine lv_iload hx hb dX8_spread_50 (lv_at hl 6 rfl) ?_
    refine lv_iconst (v := 1) hx hb dX8_spread_52 (by decide) ?_
    refine lv_icmp_ne (tgt := 68) hx hb dX8_spread_53 (by decide) (fun c36 => ?_) (fun c36 => ?_)
    · have c36 : ¬ v50_6.toInt = (1 : Int) := wk_eqF c36
      refine lv_aload_n hx hb dX8_spread_68 rfl (lv_at hl 1 rfl) ?_
      refine tk_geti hC hK hw hT hinX9 hkq1_ (by decide) rfl 2 (by decide) (List.mem_cons_of_mem _ uw_56_13) rfl rfl dX8_spread_69 (fun x37 c38 rx37 tx37 => ?_)
      refine lv_istore (lv' := [(9, .int x37), (0, .ref (ad 151)), (1, .ref (ad q1_)), (2, .int a2), (3, .int a3), (4, .int a4), (5, .int v50_5), (6, .int v50_6), (7, .long v50_7)]) hx hb dX8_spread_72 hl (by decide) rfl (fun ls hl => ?_)
      refine lv_aload_n hx hb dX8_spread_74 rfl (lv_at hl 1 rfl) ?_
      refine tk_getA hC hK hw hT hinX8 kC_at151 (by decide) rfl 1 (by decide) (List.mem_cons_of_mem _ uw_5_12) rfl rfl dX8_spread_75 ?_
      refine lv_iload hx hb dX8_spread_78 (lv_at hl 0 rfl) ?_
      refine lv_iload hx hb dX8_spread_80 (lv_at hl 6 rfl) ?_
      refine lv_aload_n hx hb dX8_spread_82 rfl (lv_at hl 2 rfl) ?_
      refine tk_geti hC hK hw hT hinX9 hkq1_ (by decide) rfl 1 (by decide) (List.mem_cons_of_mem _ uw_56_2) rfl rfl dX8_spread_83 (fun x39 c40 rx39 tx39 => ?_)
      refine tk_Vi hC hK hw hT hA hE hSR kC_at145 (by decide) rfl (k_X0_streetBy_1 l adK adV dC dI cy ad B hB0 (Int.le_trans hB1 (by decide)) qr s1   x37 (show 0 ≤ x37.toInt by first | with_reducible assumption | omega) (show x37.toInt ≤ 3 by first | with_reducible assumption | omega) v50_5 (show 0 ≤ v50_5.toInt from r30) (show v50_5.toInt ≤ 9 from t31) x39 (show 0 ≤ x39.toInt by first | with_reducible assumption | omega) (show x39.toInt ≤ 9 by first | with_reducible assumption | omega) w23 H.size hT ) (cwV 3 hC.2.2.2.2 uV_RX8_129 rfl rfl rfl (by decide +kernel) ⟨Nat.le_of_ble_eq_true rfl, Nat.le_of_ble_eq_true rfl⟩) rfl hl.1 rfl (Nat.le_of_ble_eq_true rfl) dX8_spread_86 (fun r41 w43 H locs hp42 hw => ?_)
      obtain ⟨hT, k44, hg47⟩ := hp42
      have hF := hF.tr k44 (by decide)
      have c48 := k44.gi hkq1_ (by decide) c38
      have c49 := k44.gi hkq1_ (by decide) c40
      obtain ⟨g45, g46⟩ := hg47
      refine lv_istore (lv' := [(10, .int r41), (9, .int x37), (0, .ref (ad 151)), (1, .ref (ad q1_)), (2, .int a2), (3, .int a3), (4, .int a4), (5, .int v50_5), (6, .int v50_6), (7, .long v50_7)]) hx hb dX8_spread_89 hl (by decide) rfl (fun ls hl => ?_)
      refine lv_iload hx hb dX8_spread_91 (lv_at hl 0 rfl) ?_
      refine lv_iconst (v := (-1)) hx hb dX8_spread_93 (by decide) ?_
      refine lv_icmp_ne (tgt := 98) hx hb dX8_spread_94 (by decide) (fun c50 => ?_) (fun c50 => ?_)
      · have c50 : ¬ r41.toInt = (-1 : Int) := wk_eqF c50
        refine lv_aload_n hx hb dX8_spread_98 rfl (lv_at hl 2 rfl) ?_
        refine tk_getA hC hK hw hT hinX8 kC_at151 (by decide) rfl 0 (by decide) (List.mem_cons_of_mem _ uw_5_11) rfl rfl dX8_spread_99 ?_
        refine tk_getO hC hK hw hT hinX5 kC_at38 (by decide) rfl 0 (by decide) (List.mem_cons_of_mem _ uw_56_0) rfl rfl dX8_spread_102 ?_
        refine lv_iload hx hb dX8_spread_105 (lv_at hl 0 rfl) ?_
        refine lv_iload hx hb dX8_spread_107 (lv_at hl 7 rfl) ?_
        refine tk_Vi hC hK hw hT hA hE hSR kC_at39 (by decide) rfl (k_X7_sideOf_2 l adK adV dC dI cy ad B hB0 (Int.le_trans hB1 (by decide)) qr s1   r41 (show 0 ≤ r41.toInt by first | with_reducible assumption | omega) (show r41.toInt ≤ 11 by first | with_reducible assumption | omega) v50_5 (show 0 ≤ v50_5.toInt from r30) (show v50_5.toInt ≤ 9 from t31) w43 H.size hT ) (cwV 2 hC.2.2.2.2 uV_RX8_133 rfl rfl rfl (by decide +kernel) ⟨Nat.le_of_ble_eq_true rfl, Nat.le_of_ble_eq_true rfl⟩) rfl hl.1 rfl (Nat.le_of_ble_eq_true rfl) dX8_spread_109 (fun r51 w53 H locs hp52 hw => ?_)
        obtain ⟨hT, k54, hg57⟩ := hp52
        have hF := hF.tr k54 (by decide)
        have c58 := k54.gi hkq1_ (by decide) c48
        have c59 := k54.gi hkq1_ (by decide) c49
        rcases hg57 with rfl | ⟨rfl, c55⟩ | ⟨rfl, c56⟩
        · refine lv_istore (lv' := [(11, .int (-1)), (10, .int r41), (9, .int x37), (0, .ref (ad 151)), (1, .ref (ad q1_)), (2, .int a2), (3, .int a3), (4, .int a4), (5, .int v50_5), (6, .int v50_6), (7, .long v50_7)]) hx hb dX8_spread_112 hl (by decide) rfl (fun ls hl => ?_)
          refine lv_iload hx hb dX8_spread_114 (lv_at hl 0 rfl) ?_
          refine lv_iconst (v := (-1)) hx hb dX8_spread_116 (by decide) ?_
          refine lv_icmp_eq (tgt := 185) hx hb dX8_spread_117 (by decide) (fun _ => ?_) (fun c => absurd (by decide) c)
          exact J185 v50_5 v50_6 v50_7 x37 r41 (-1) x39 H locs ls w53 (show 0 ≤ a2.toInt from r24) (show a2.toInt ≤ 120 from t25) (show 0 ≤ a3.toInt from r26) (show a3.toInt ≤ 19 from t27) (show 0 ≤ a4.toInt from r28) (show a4.toInt ≤ 999999 from t29) (show 0 ≤ v50_5.toInt from r30) (show v50_5.toInt ≤ 9 from t31) (show 0 ≤ v50_6.toInt from r32) (show v50_6.toInt ≤ 1 from t33) (show 0 ≤ v50_7.toInt from r34) (show v50_7.toInt ≤ 2305843009213693952 from t35) (show 0 ≤ x37.toInt by first | with_reducible assumption | omega) (show x37.toInt ≤ 10 by first | with_reducible assumption | omega) (show 0 ≤ r41.toInt by first | with_reducible assumption | omega) (show r41.toInt ≤ 11 by first | with_reducible assumption | omega) (by decide) (by decide) (show 0 ≤ x39.toInt by first | with_reducible assumption | omega) (show x39.toInt ≤ 9 by first | with_reducible assumption | omega)  hw hT hF c59 (lv_sub hl [3, 4, 5, 6, 7, 8, 9, 10, 2, 1, 0] rfl)
        · refine lv_istore (lv' := [(11, .int 0), (10, .int r41), (9, .int x37), (0, .ref (ad 151)), (1, .ref (ad q1_)), (2, .int a2), (3, .int a3), (4, .int a4), (5, .int v50_5), (6, .int v50_6), (7, .long v50_7)]) hx hb dX8_spread_112 hl (by decide) rfl (fun ls hl => ?_)
          refine lv_iload hx hb dX8_spread_114 (lv_at hl 0 rfl) ?_
          refine lv_iconst (v := (-1)) hx hb dX8_spread_116 (by decide) ?_
          refine lv_icmp_eq (tgt := 185) hx hb dX8_spread_117 (by decide) (fun c => absurd c (by decide)) (fun _ => ?_)
          refine lv_aload_n hx hb dX8_spread_120 rfl (lv_at hl 3 rfl) ?_
          refine tk_getA hC hK hw hT hinX8 kC_at151 (by decide) rfl 0 (by decide) (List.mem_cons_of_mem _ uw_5_11) rfl rfl dX8_spread_121 ?_
          refine tk_getO hC hK hw hT hinX5 kC_at38 (by decide) rfl 0 (by decide) (List.mem_cons_of_mem _ uw_56_0) rfl rfl dX8_spread_124 ?_
          refine lv_iload hx hb dX8_spread_127 (lv_at hl 1 rfl) ?_
          refine lv_iload hx hb dX8_spread_129 (lv_at hl 0 rfl) ?_
          refine lv_lload hx hb dX8_spread_131 (lv_at hl 10 rfl) ?_
          refine lv_iconst (v := 1) hx hb dX8_spread_133 (by decide) ?_
          refine tk_Vi hC hK hw hT hA hE hSR kC_at39 (by decide) rfl (k_X7_isOpen_4 l adK adV dC dI cy ad B hB0 (Int.le_trans hB1 (by decide)) qr s1   r41 (show 0 ≤ r41.toInt by first | with_reducible assumption | omega) (show r41.toInt ≤ 11 by first | with_reducible assumption | omega) v50_7 (show 0 ≤ v50_7.toInt from r34) (show v50_7.toInt ≤ 2305843009213693952 from t35) w53 H.size hT ) (cwV 4 hC.2.2.2.2 uV_RX8_137 rfl rfl rfl (by decide +kernel) ⟨Nat.le_of_ble_eq_true rfl, Nat.le_of_ble_eq_true rfl⟩) rfl hl.1 rfl (Nat.le_of_ble_eq_true rfl) dX8_spread_134 (fun r60 w62 H locs hp61 hw => ?_)
          obtain ⟨hT, k63, hg64⟩ := hp61
          have hF := hF.tr k63 (by decide)
          have c65 := k63.gi hkq1_ (by decide) c58
          have c66 := k63.gi hkq1_ (by decide) c59
          have c67 := k63.gi kC_at40 rfl c55
          rcases hg64 with rfl | rfl
          · refine lv_if_eq (tgt := 185) hx hb dX8_spread_137 (by decide) (fun _ => ?_) (fun c => absurd (by decide) c)
            exact J185 v50_5 v50_6 v50_7 x37 r41 0 x39 H locs ls w62 (show 0 ≤ a2.toInt from r24) (show a2.toInt ≤ 120 from t25) (show 0 ≤ a3.toInt from r26) (show a3.toInt ≤ 19 from t27) (show 0 ≤ a4.toInt from r28) (show a4.toInt ≤ 999999 from t29) (show 0 ≤ v50_5.toInt from r30) (show v50_5.toInt ≤ 9 from t31) (show 0 ≤ v50_6.toInt from r32) (show v50_6.toInt ≤ 1 from t33) (show 0 ≤ v50_7.toInt from r34) (show v50_7.toInt ≤ 2305843009213693952 from t35) (show 0 ≤ x37.toInt by first | with_reducible assumption | omega) (show x37.toInt ≤ 10 by first | with_reducible assumption | omega) (show 0 ≤ r41.toInt by first | with_reducible assumption | omega) (show r41.toInt ≤ 11 by first | with_reducible assumption | omega) (by decide) (by decide) (show 0 ≤ x39.toInt by first | with_reducible assumption | omega) (show x39.toInt ≤ 9 by first | with_reducible assumption | omega)  hw hT hF c66 (lv_sub hl [3, 4, 5, 6, 7, 8, 9, 10, 2, 1, 0] rfl)
          · refine lv_if_eq (tgt := 185) hx hb dX8_spread_137 (by decide) (fun c => absurd c (by decide)) (fun _ => ?_)
            refine lv_iconst (v := 2) hx hb dX8_spread_140 (by decide) ?_
            refine lv_aload_n hx hb dX8_spread_141 rfl (lv_at hl 3 rfl) ?_
            refine tk_getA hC hK hw hT hinX8 kC_at151 (by decide) rfl 0 (by decide) (List.mem_cons_of_mem _ uw_5_11) rfl rfl dX8_spread_142 ?_
            refine tk_getO hC hK hw hT hinX5 kC_at38 (by decide) rfl 0 (by decide) (List.mem_cons_of_mem _ uw_56_0) rfl rfl dX8_spread_145 ?_
            refine lv_iload hx hb dX8_spread_148 (lv_at hl 1 rfl) ?_
            refine lv_iload hx hb dX8_spread_150 (lv_at hl 0 rfl) ?_
            refine tk_Vi hC hK hw hT hA hE hSR kC_at39 (by decide) rfl (k_X7_cornerAcross_2 l adK adV dC dI cy ad B hB0 (Int.le_trans hB1 (by decide)) qr s1   r41 (show 0 ≤ r41.toInt by first | with_reducible assumption | omega) (show r41.toInt ≤ 11 by first | with_reducible assumption | omega) w62 H.size hT ) (cwV 2 hC.2.2.2.2 uV_RX8_141 rfl rfl rfl (by decide +kernel) ⟨Nat.le_of_ble_eq_true rfl, Nat.le_of_ble_eq_true rfl⟩) rfl hl.1 rfl (Nat.le_of_ble_eq_true rfl) dX8_spread_152 (fun r68 w70 H locs hp69 hw => ?_)
            obtain ⟨hT, k71, hg74⟩ := hp69
            have hF := hF.tr k71 (by decide)
            have c75 := k71.gi hkq1_ (by decide) c65
            have c76 := k71.gi hkq1_ (by decide) c66
            have c77 := k71.gi kC_at40 rfl c67
            obtain ⟨g72, g73⟩ := hg74
            refine lv_imul hx hb dX8_spread_155 ?_
            refine lv_topi (fun x78 ex78 => ?_)
            have ex78 : x78.toInt = (2 : Int) * r68.toInt := by rw [ex78]; exact wk_mul (show (-2147483648) ≤ (2 : Int) * r68.toInt by omega) (show (2 : Int) * r68.toInt ≤ 2147483647 by omega)
            refine lv_iload hx hb dX8_spread_156 (lv_at hl 9 rfl) ?_
            refine lv_iadd hx hb dX8_spread_158 ?_
            refine lv_topi (fun x79 ex79 => ?_)
            have ex79 : x79.toInt = x78.toInt + v50_6.toInt := by rw [ex79]; exact wk_add (show (-2147483648) ≤ x78.toInt + v50_6.toInt by omega) (show x78.toInt + v50_6.toInt ≤ 2147483647 by omega)
            refine lv_istore (lv' := [(12, .int x79), (11, .int 0), (10, .int r41), (9, .int x37), (0, .ref (ad 151)), (1, .ref (ad q1_)), (2, .int a2), (3, .int a3), (4, .int a4), (5, .int v50_5), (6, .int v50_6), (7, .long v50_7)]) hx hb dX8_spread_159 hl (by decide) rfl (fun ls hl => ?_)
            refine lv_aload_n hx hb dX8_spread_161 rfl (lv_at hl 4 rfl) ?_
            refine lv_lload hx hb dX8_spread_162 (lv_at hl 11 rfl) ?_
            refine lv_iload_n hx hb dX8_spread_164 rfl (lv_at hl 6 rfl) ?_
            refine lv_aload_n hx hb dX8_spread_165 rfl (lv_at hl 4 rfl) ?_
            refine tk_getA hC hK hw hT hinX8 kC_at151 (by decide) rfl 0 (by decide) (List.mem_cons_of_mem _ uw_5_11) rfl rfl dX8_spread_166 ?_
            refine tk_getO hC hK hw hT hinX5 kC_at38 (by decide) rfl 0 (by decide) (List.mem_cons_of_mem _ uw_56_0) rfl rfl dX8_spread_169 ?_
            refine tk_getO hC hK hw hT hinX7 kC_at39 (by decide) rfl 1 (by decide) (List.mem_cons_of_mem _ uw_56_14) rfl rfl dX8_spread_172 ?_
            refine lv_iload hx hb dX8_spread_175 (lv_at hl 2 rfl) ?_
            refine tk_iald hC hK hw hT kC_at41 rfl rfl (show 0 ≤ r41.toInt by first | with_reducible assumption | omega) (show r41.toInt < 13 by first | with_reducible assumption | omega) dX8_spread_177 (fun x80 c81 rx80 tx80 => ?_)
            refine lv_iload hx hb dX8_spread_178 (lv_at hl 0 rfl) ?_
            refine lv_iload hx hb dX8_spread_180 (lv_at hl 8 rfl) ?_
            refine tk_Vv hC hK hw hT hA hE hSR kC_at151 (by decide) rfl (k_X8_note_1 l adK adV dC dI cy ad B hB0 (Int.le_trans hB1 (by decide)) qr s1   v50_7 (show 0 ≤ v50_7.toInt from r34) (show v50_7.toInt ≤ 2305843009213693952 from t35) a2 (show 0 ≤ a2.toInt from r24) (show a2.toInt ≤ 120 from t25) x80 (show 0 ≤ x80.toInt from rx80) (show x80.toInt ≤ 9 from tx80) x79 (show 0 ≤ x79.toInt by first | with_reducible assumption | omega) (show x79.toInt ≤ 18 by first | with_reducible assumption | omega) a4 (show 0 ≤ a4.toInt from r28) (show a4.toInt ≤ 999999 from t29) w70 H.size hT ) (cwV 5 hC.2.2.2.2 uV_RX8_114 rfl rfl rfl (by decide +kernel) ⟨Nat.le_of_ble_eq_true rfl, Nat.le_of_ble_eq_true rfl⟩) rfl hl.1 rfl (Nat.le_of_ble_eq_true rfl) dX8_spread_182 (fun w84 H locs hp83 hw => ?_)
            obtain ⟨hT, k85, hg86⟩ := hp83
            have hF := hF.tr k85 (by decide)
            have c87 := k85.gi hkq1_ (by decide) c75
            have c88 := k85.gi hkq1_ (by decide) c76
            have c89 := k85.gi kC_at40 rfl c77
            clear hg86
            exact J185 v50_5 v50_6 v50_7 x37 r41 0 x39 H locs ls w84 (show 0 ≤ a2.toInt from r24) (show a2.toInt ≤ 120 from t25) (show 0 ≤ a3.toInt from r26) (show a3.toInt ≤ 19 from t27) (show 0 ≤ a4.toInt from r28) (show a4.toInt ≤ 999999 from t29) (show 0 ≤ v50_5.toInt from r30) (show v50_5.toInt ≤ 9 from t31) (show 0 ≤ v50_6.toInt from r32) (show v50_6.toInt ≤ 1 from t33) (show 0 ≤ v50_7.toInt from r34) (show v50_7.toInt ≤ 2305843009213693952 from t35) (show 0 ≤ x37.toInt by first | with_reducible assumption | omega) (show x37.toInt ≤ 10 by first | with_reducible assumption | omega) (show 0 ≤ r41.toInt by first | with_reducible assumption | omega) (show r41.toInt ≤ 11 by first | with_reducible assumption | omega) (by decide) (by decide) (show 0 ≤ x39.toInt by first | with_reducible assumption | omega) (show x39.toInt ≤ 9 by first | with_reducible assumption | omega)  hw hT hF c88 (lv_sub hl [4, 5, 6, 7, 8, 9, 10, 11, 3, 2, 1] rfl)
        · refine lv_istore (lv' := [(11, .int 1), (10, .int r41), (9, .int x37), (0, .ref (ad 151)), (1, .ref (ad q1_)), (2, .int a2), (3, .int a3), (4, .int a4), (5, .int v50_5), (6, .int v50_6), (7, .long v50_7)]) hx hb dX8_spread_112 hl (by decide) rfl (fun ls hl => ?_)
          refine lv_iload hx hb dX8_spread_114 (lv_at hl 0 rfl) ?_
          refine lv_iconst (v := (-1)) hx hb dX8_spread_116 (by decide) ?_
          refine lv_icmp_eq (tgt := 185) hx hb dX8_spread_117 (by decide) (fun c => absurd c (by decide)) (fun _ => ?_)
          refine lv_aload_n hx hb dX8_spread_120 rfl (lv_at hl 3 rfl) ?_
          refine tk_getA hC hK hw hT hinX8 kC_at151 (by decide) rfl 0 (by decide) (List.mem_cons_of_mem _ uw_5_11) rfl rfl dX8_spread_121 ?_
          refine tk_getO hC hK hw hT hinX5 kC_at38 (by decide) rfl 0 (by decide) (List.mem_cons_of_mem _ uw_56_0) rfl rfl dX8_spread_124 ?_
          refine lv_iload hx hb dX8_spread_127 (lv_at hl 1 rfl) ?_
          refine lv_iload hx hb dX8_spread_129 (lv_at hl 0 rfl) ?_
          refine lv_lload hx hb dX8_spread_131 (lv_at hl 10 rfl) ?_
          refine lv_iconst (v := 1) hx hb dX8_spread_133 (by decide) ?_
          refine tk_Vi hC hK hw hT hA hE hSR kC_at39 (by decide) rfl (k_X7_isOpen_6 l adK adV dC dI cy ad B hB0 (Int.le_trans hB1 (by decide)) qr s1   r41 (show 0 ≤ r41.toInt by first | with_reducible assumption | omega) (show r41.toInt ≤ 11 by first | with_reducible assumption | omega) v50_7 (show 0 ≤ v50_7.toInt from r34) (show v50_7.toInt ≤ 2305843009213693952 from t35) w53 H.size hT ) (cwV 4 hC.2.2.2.2 uV_RX8_137 rfl rfl rfl (by decide +kernel) ⟨Nat.le_of_ble_eq_true rfl, Nat.le_of_ble_eq_true rfl⟩) rfl hl.1 rfl (Nat.le_of_ble_eq_true rfl) dX8_spread_134 (fun r90 w92 H locs hp91 hw => ?_)
          obtain ⟨hT, k93, hg94⟩ := hp91
          have hF := hF.tr k93 (by decide)
          have c95 := k93.gi hkq1_ (by decide) c58
          have c96 := k93.gi hkq1_ (by decide) c59
          have c97 := k93.gi kC_at40 rfl c56
          rcases hg94 with rfl | rfl
          · refine lv_if_eq (tgt := 185) hx hb dX8_spread_137 (by decide) (fun _ => ?_) (fun c => absurd (by decide) c)
            exact J185 v50_5 v50_6 v50_7 x37 r41 1 x39 H locs ls w92 (show 0 ≤ a2.toInt from r24) (show a2.toInt ≤ 120 from t25) (show 0 ≤ a3.toInt from r26) (show a3.toInt ≤ 19 from t27) (show 0 ≤ a4.toInt from r28) (show a4.toInt ≤ 999999 from t29) (show 0 ≤ v50_5.toInt from r30) (show v50_5.toInt ≤ 9 from t31) (show 0 ≤ v50_6.toInt from r32) (show v50_6.toInt ≤ 1 from t33) (show 0 ≤ v50_7.toInt from r34) (show v50_7.toInt ≤ 2305843009213693952 from t35) (show 0 ≤ x37.toInt by first | with_reducible assumption | omega) (show x37.toInt ≤ 10 by first | with_reducible assumption | omega) (show 0 ≤ r41.toInt by first | with_reducible assumption | omega) (show r41.toInt ≤ 11 by first | with_reducible assumption | omega) (by decide) (by decide) (show 0 ≤ x39.toInt by first | with_reducible assumption | omega) (show x39.toInt ≤ 9 by first | with_reducible assumption | omega)  hw hT hF c96 (lv_sub hl [3, 4, 5, 6, 7, 8, 9, 10, 2, 1, 0] rfl)
          · refine lv_if_eq (tgt := 185) hx hb dX8_spread_137 (by decide) (fun c => absurd c (by decide)) (fun _ => ?_)
            refine lv_iconst (v := 2) hx hb dX8_spread_140 (by decide) ?_
            refine lv_aload_n hx hb dX8_spread_141 rfl (lv_at hl 3 rfl) ?_
            refine tk_getA hC hK hw hT hinX8 kC_at151 (by decide) rfl 0 (by decide) (List.mem_cons_of_mem _ uw_5_11) rfl rfl dX8_spread_142 ?_
            refine tk_getO hC hK hw hT hinX5 kC_at38 (by decide) rfl 0 (by decide) (List.mem_cons_of_mem _ uw_56_0) rfl rfl dX8_spread_145 ?_
            refine lv_iload hx hb dX8_spread_148 (lv_at hl 1 rfl) ?_
            refine lv_iload hx hb dX8_spread_150 (lv_at hl 0 rfl) ?_
            refine tk_Vi hC hK hw hT hA hE hSR kC_at39 (by decide) rfl (k_X7_cornerAcross_3 l adK adV dC dI cy ad B hB0 (Int.le_trans hB1 (by decide)) qr s1   r41 (show 0 ≤ r41.toInt by first | with_reducible assumption | omega) (show r41.toInt ≤ 11 by first | with_reducible assumption | omega) w92 H.size hT ) (cwV 2 hC.2.2.2.2 uV_RX8_141 rfl rfl rfl (by decide +kernel) ⟨Nat.le_of_ble_eq_true rfl, Nat.le_of_ble_eq_true rfl⟩) rfl hl.1 rfl (Nat.le_of_ble_eq_true rfl) dX8_spread_152 (fun r98 w100 H locs hp99 hw => ?_)
            obtain ⟨hT, k101, hg104⟩ := hp99
            have hF := hF.tr k101 (by decide)
            have c105 := k101.gi hkq1_ (by decide) c95
            have c106 := k101.gi hkq1_ (by decide) c96
            have c107 := k101.gi kC_at40 rfl c97
            obtain ⟨g102, g103⟩ := hg104
            refine lv_imul hx hb dX8_spread_155 ?_
            refine lv_topi (fun x108 ex108 => ?_)
            have ex108 : x108.toInt = (2 : Int) * r98.toInt := by rw [ex108]; exact wk_mul (show (-2147483648) ≤ (2 : Int) * r98.toInt by omega) (show (2 : Int) * r98.toInt ≤ 2147483647 by omega)
            refine lv_iload hx hb dX8_spread_156 (lv_at hl 9 rfl) ?_
            refine lv_iadd hx hb dX8_spread_158 ?_
            refine lv_topi (fun x109 ex109 => ?_)
            have ex109 : x109.toInt = x108.toInt + v50_6.toInt := by rw [ex109]; exact wk_add (show (-2147483648) ≤ x108.toInt + v50_6.toInt by omega) (show x108.toInt + v50_6.toInt ≤ 2147483647 by omega)
            refine lv_istore (lv' := [(12, .int x109), (11, .int 1), (10, .int r41), (9, .int x37), (0, .ref (ad 151)), (1, .ref (ad q1_)), (2, .int a2), (3, .int a3), (4, .int a4), (5, .int v50_5), (6, .int v50_6), (7, .long v50_7)]) hx hb dX8_spread_159 hl (by decide) rfl (fun ls hl => ?_)
            refine lv_aload_n hx hb dX8_spread_161 rfl (lv_at hl 4 rfl) ?_
            refine lv_lload hx hb dX8_spread_162 (lv_at hl 11 rfl) ?_
            refine lv_iload_n hx hb dX8_spread_164 rfl (lv_at hl 6 rfl) ?_
            refine lv_aload_n hx hb dX8_spread_165 rfl (lv_at hl 4 rfl) ?_
            refine tk_getA hC hK hw hT hinX8 kC_at151 (by decide) rfl 0 (by decide) (List.mem_cons_of_mem _ uw_5_11) rfl rfl dX8_spread_166 ?_
            refine tk_getO hC hK hw hT hinX5 kC_at38 (by decide) rfl 0 (by decide) (List.mem_cons_of_mem _ uw_56_0) rfl rfl dX8_spread_169 ?_
            refine tk_getO hC hK hw hT hinX7 kC_at39 (by decide) rfl 1 (by decide) (List.mem_cons_of_mem _ uw_56_14) rfl rfl dX8_spread_172 ?_
            refine lv_iload hx hb dX8_spread_175 (lv_at hl 2 rfl) ?_
            refine tk_iald hC hK hw hT kC_at41 rfl rfl (show 0 ≤ r41.toInt by first | with_reducible assumption | omega) (show r41.toInt < 13 by first | with_reducible assumption | omega) dX8_spread_177 (fun x110 c111 rx110 tx110 => ?_)
            refine lv_iload hx hb dX8_spread_178 (lv_at hl 0 rfl) ?_
            refine lv_iload hx hb dX8_spread_180 (lv_at hl 8 rfl) ?_
            refine tk_Vv hC hK hw hT hA hE hSR kC_at151 (by decide) rfl (k_X8_note_1 l adK adV dC dI cy ad B hB0 (Int.le_trans hB1 (by decide)) qr s1   v50_7 (show 0 ≤ v50_7.toInt from r34) (show v50_7.toInt ≤ 2305843009213693952 from t35) a2 (show 0 ≤ a2.toInt from r24) (show a2.toInt ≤ 120 from t25) x110 (show 0 ≤ x110.toInt from rx110) (show x110.toInt ≤ 9 from tx110) x109 (show 0 ≤ x109.toInt by first | with_reducible assumption | omega) (show x109.toInt ≤ 18 by first | with_reducible assumption | omega) a4 (show 0 ≤ a4.toInt from r28) (show a4.toInt ≤ 999999 from t29) w100 H.size hT ) (cwV 5 hC.2.2.2.2 uV_RX8_114 rfl rfl rfl (by decide +kernel) ⟨Nat.le_of_ble_eq_true rfl, Nat.le_of_ble_eq_true rfl⟩) rfl hl.1 rfl (Nat.le_of_ble_eq_true rfl) dX8_spread_182 (fun w114 H locs hp113 hw => ?_)
            obtain ⟨hT, k115, hg116⟩ := hp113
            have hF := hF.tr k115 (by decide)
            have c117 := k115.gi hkq1_ (by decide) c105
            have c118 := k115.gi hkq1_ (by decide) c106
            have c119 := k115.gi kC_at40 rfl c107
            clear hg116
            exact J185 v50_5 v50_6 v50_7 x37 r41 1 x39 H locs ls w114 (show 0 ≤ a2.toInt from r24) (show a2.toInt ≤ 120 from t25) (show 0 ≤ a3.toInt from r26) (show a3.toInt ≤ 19 from t27) (show 0 ≤ a4.toInt from r28) (show a4.toInt ≤ 999999 from t29) (show 0 ≤ v50_5.toInt from r30) (show v50_5.toInt ≤ 9 from t31) (show 0 ≤ v50_6.toInt from r32) (show v50_6.toInt ≤ 1 from t33) (show 0 ≤ v50_7.toInt from r34) (show v50_7.toInt ≤ 2305843009213693952 from t35) (show 0 ≤ x37.toInt by first | with_reducible assumption | omega) (show x37.toInt ≤ 10 by first | with_reducible assumption | omega) (show 0 ≤ r41.toInt by first | with_reducible assumption | omega) (show r41.toInt ≤ 11 by first | with_reducible assumption | omega) (by decide) (by decide) (show 0 ≤ x39.toInt by first | with_reducible assumption | omega) (show x39.toInt ≤ 9 by first | with_reducible assumption | omega)  hw hT hF c118 (lv_sub hl [4, 5, 6, 7, 8, 9, 10, 11, 3, 2, 1] rfl)
      · have c50 : r41.toInt = (-1 : Int) := wk_eq.mp c50
        exact tk_vret hC hr hlocks hK ⟨hT, hF, trivial⟩ hw dX8_spread_97
    · have c36 : v50_6.toInt = (1 : Int) := wk_eq.mp c36
      refine lv_lload hx hb dX8_spread_56 (lv_at hl 7 rfl) ?_
      refine lv_ldc2 (v := 24) hx hb hC.2.2.2.1 (hC.2.2.2.2 _ (List.mem_cons_of_mem _ uw_56_12)) dX8_spread_58 ?_
      refine lv_ldiv hx hb dX8_spread_61 (by decide) ?_
      refine lv_topl (fun x120 ex120 => ?_)
      have ex120 : x120.toInt = v50_7.toInt / (24 : Int) := by rw [ex120]; exact wk_divl (show 0 ≤ v50_7.toInt from r34) (show 0 < (24 : Int) by decide)
      refine tk_Si hC hK hw hT hA hE hSR (k_X0_ofWeekday_1 l adK adV dC dI cy ad B hB0 (Int.le_trans hB1 (by decide)) qr s1   x120 (show 0 ≤ x120.toInt by first | with_reducible assumption | omega) (show x120.toInt ≤ 96076792050570581 by first | with_reducible assumption | omega) w23 H.size hT ) (va_cwS 1 hC.2.2.2.2 uS_RX8_120 rfl rfl rfl (by decide +kernel) ⟨Nat.le_of_ble_eq_true rfl, Nat.le_of_ble_eq_true rfl⟩) rfl hl.1 rfl (Nat.le_of_ble_eq_true rfl) dX8_spread_62 (fun r121 w123 H locs hp122 hw => ?_)
      obtain ⟨hT, k124, hg127⟩ := hp122
      have hF := hF.tr k124 (by decide)
      obtain ⟨g125, g126⟩ := hg127
      refine lv_goto (tgt := 72) hx hb dX8_spread_65 (by decide) ?_
      refine lv_istore (lv' := [(9, .int r121), (0, .ref (ad 151)), (1, .ref (ad q1_)), (2, .int a2), (3, .int a3), (4, .int a4), (5, .int v50_5), (6, .int v50_6), (7, .long v50_7)]) hx hb dX8_spread_72 hl (by decide) rfl (fun ls hl => ?_)
      refine lv_aload_n hx hb dX8_spread_74 rfl (lv_at hl 1 rfl) ?_
      refine tk_getA hC hK hw hT hinX8 kC_at151 (by decide) rfl 1 (by decide) (List.mem_cons_of_mem _ uw_5_12) rfl rfl dX8_spread_75 ?_
      refine lv_iload hx hb dX8_spread_78 (lv_at hl 0 rfl) ?_
      refine lv_iload hx hb dX8_spread_80 (lv_at hl 6 rfl) ?_
      refine lv_aload_n hx hb dX8_spread_82 rfl (lv_at hl 2 rfl) ?_
      refine tk_geti hC hK hw hT hinX9 hkq1_ (by decide) rfl 1 (by decide) (List.mem_cons_of_mem _ uw_56_2) rfl rfl dX8_spread_83 (fun x128 c129 rx128 tx128 => ?_)
      refine tk_Vi hC hK hw hT hA hE hSR kC_at145 (by decide) rfl (k_X0_streetBy_2 l adK adV dC dI cy ad B hB0 (Int.le_trans hB1 (by decide)) qr s1   r121 (show 4 ≤ r121.toInt by first | with_reducible assumption | omega) (show r121.toInt ≤ 10 by first | with_reducible assumption | omega) v50_5 (show 0 ≤ v50_5.toInt from r30) (show v50_5.toInt ≤ 9 from t31) x128 (show 0 ≤ x128.toInt by first | with_reducible assumption | omega) (show x128.toInt ≤ 9 by first | with_reducible assumption | omega) w123 H.size hT ) (cwV 3 hC.2.2.2.2 uV_RX8_129 rfl rfl rfl (by decide +kernel) ⟨Nat.le_of_ble_eq_true rfl, Nat.le_of_ble_eq_true rfl⟩) rfl hl.1 rfl (Nat.le_of_ble_eq_true rfl) dX8_spread_86 (fun r130 w132 H locs hp131 hw => ?_)
      obtain ⟨hT, k133, hg136⟩ := hp131
      have hF := hF.tr k133 (by decide)
      have c137 := k133.gi hkq1_ (by decide) c129
      obtain ⟨g134, g135⟩ := hg136
      refine lv_istore (lv' := [(10, .int r130), (9, .int r121), (0, .ref (ad 151)), (1, .ref (ad q1_)), (2, .int a2), (3, .int a3), (4, .int a4), (5, .int v50_5), (6, .int v50_6), (7, .long v50_7)]) hx hb dX8_spread_89 hl (by decide) rfl (fun ls hl => ?_)
      refine lv_iload hx hb dX8_spread_91 (lv_at hl 0 rfl) ?_
      refine lv_iconst (v := (-1)) hx hb dX8_spread_93 (by decide) ?_
      refine lv_icmp_ne (tgt := 98) hx hb dX8_spread_94 (by decide) (fun c138 => ?_) (fun c138 => ?_)
      · have c138 : ¬ r130.toInt = (-1 : Int) := wk_eqF c138
        refine lv_aload_n hx hb dX8_spread_98 rfl (lv_at hl 2 rfl) ?_
        refine tk_getA hC hK hw hT hinX8 kC_at151 (by decide) rfl 0 (by decide) (List.mem_cons_of_mem _ uw_5_11) rfl rfl dX8_spread_99 ?_
        refine tk_getO hC hK hw hT hinX5 kC_at38 (by decide) rfl 0 (by decide) (List.mem_cons_of_mem _ uw_56_0) rfl rfl dX8_spread_102 ?_
        refine lv_iload hx hb dX8_spread_105 (lv_at hl 0 rfl) ?_
        refine lv_iload hx hb dX8_spread_107 (lv_at hl 7 rfl) ?_
        refine tk_Vi hC hK hw hT hA hE hSR kC_at39 (by decide) rfl (k_X7_sideOf_2 l adK adV dC dI cy ad B hB0 (Int.le_trans hB1 (by decide)) qr s1   r130 (show 0 ≤ r130.toInt by first | with_reducible assumption | omega) (show r130.toInt ≤ 11 by first | with_reducible assumption | omega) v50_5 (show 0 ≤ v50_5.toInt from r30) (show v50_5.toInt ≤ 9 from t31) w132 H.size hT ) (cwV 2 hC.2.2.2.2 uV_RX8_133 rfl rfl rfl (by decide +kernel) ⟨Nat.le_of_ble_eq_true rfl, Nat.le_of_ble_eq_true rfl⟩) rfl hl.1 rfl (Nat.le_of_ble_eq_true rfl) dX8_spread_109 (fun r139 w141 H locs hp140 hw => ?_)
        obtain ⟨hT, k142, hg145⟩ := hp140
        have hF := hF.tr k142 (by decide)
        have c146 := k142.gi hkq1_ (by decide) c137
        rcases hg145 with rfl | ⟨rfl, c143⟩ | ⟨rfl, c144⟩
        · refine lv_istore (lv' := [(11, .int (-1)), (10, .int r130), (9, .int r121), (0, .ref (ad 151)), (1, .ref (ad q1_)), (2, .int a2), (3, .int a3), (4, .int a4), (5, .int v50_5), (6, .int v50_6), (7, .long v50_7)]) hx hb dX8_spread_112 hl (by decide) rfl (fun ls hl => ?_)
          refine lv_iload hx hb dX8_spread_114 (lv_at hl 0 rfl) ?_
          refine lv_iconst (v := (-1)) hx hb dX8_spread_116 (by decide) ?_
          refine lv_icmp_eq (tgt := 185) hx hb dX8_spread_117 (by decide) (fun _ => ?_) (fun c => absurd (by decide) c)
          exact J185 v50_5 v50_6 v50_7 r121 r130 (-1) x128 H locs ls w141 (show 0 ≤ a2.toInt from r24) (show a2.toInt ≤ 120 from t25) (show 0 ≤ a3.toInt from r26) (show a3.toInt ≤ 19 from t27) (show 0 ≤ a4.toInt from r28) (show a4.toInt ≤ 999999 from t29) (show 0 ≤ v50_5.toInt from r30) (show v50_5.toInt ≤ 9 from t31) (show 0 ≤ v50_6.toInt from r32) (show v50_6.toInt ≤ 1 from t33) (show 0 ≤ v50_7.toInt from r34) (show v50_7.toInt ≤ 2305843009213693952 from t35) (show 0 ≤ r121.toInt by first | with_reducible assumption | omega) (show r121.toInt ≤ 10 by first | with_reducible assumption | omega) (show 0 ≤ r130.toInt by first | with_reducible assumption | omega) (show r130.toInt ≤ 11 by first | with_reducible assumption | omega) (by decide) (by decide) (show 0 ≤ x128.toInt by first | with_reducible assumption | omega) (show x128.toInt ≤ 9 by first | with_reducible assumption | omega)  hw hT hF c146 (lv_sub hl [3, 4, 5, 6, 7, 8, 9, 10, 2, 1, 0] rfl)
        · refine lv_istore (lv' := [(11, .int 0), (10, .int r130), (9, .int r121), (0, .ref (ad 151)), (1, .ref (ad q1_)), (2, .int a2), (3, .int a3), (4, .int a4), (5, .int v50_5), (6, .int v50_6), (7, .long v50_7)]) hx hb dX8_spread_112 hl (by decide) rfl (fun ls hl => ?_)
          refine lv_iload hx hb dX8_spread_114 (lv_at hl 0 rfl) ?_
          refine lv_iconst (v := (-1)) hx hb dX8_spread_116 (by decide) ?_
          refine lv_icmp_eq (tgt := 185) hx hb dX8_spread_117 (by decide) (fun c => absurd c (by decide)) (fun _ => ?_)
          refine lv_aload_n hx hb dX8_spread_120 rfl (lv_at hl 3 rfl) ?_
          refine tk_getA hC hK hw hT hinX8 kC_at151 (by decide) rfl 0 (by decide) (List.mem_cons_of_mem _ uw_5_11) rfl rfl dX8_spread_121 ?_
          refine tk_getO hC hK hw hT hinX5 kC_at38 (by decide) rfl 0 (by decide) (List.mem_cons_of_mem _ uw_56_0) rfl rfl dX8_spread_124 ?_
          refine lv_iload hx hb dX8_spread_127 (lv_at hl 1 rfl) ?_
          refine lv_iload hx hb dX8_spread_129 (lv_at hl 0 rfl) ?_
          refine lv_lload hx hb dX8_spread_131 (lv_at hl 10 rfl) ?_
          refine lv_iconst (v := 1) hx hb dX8_spread_133 (by decide) ?_
          refine tk_Vi hC hK hw hT hA hE hSR kC_at39 (by decide) rfl (k_X7_isOpen_4 l adK adV dC dI cy ad B hB0 (Int.le_trans hB1 (by decide)) qr s1   r130 (show 0 ≤ r130.toInt by first | with_reducible assumption | omega) (show r130.toInt ≤ 11 by first | with_reducible assumption | omega) v50_7 (show 0 ≤ v50_7.toInt from r34) (show v50_7.toInt ≤ 2305843009213693952 from t35) w141 H.size hT ) (cwV 4 hC.2.2.2.2 uV_RX8_137 rfl rfl rfl (by decide +kernel) ⟨Nat.le_of_ble_eq_true rfl, Nat.le_of_ble_eq_true rfl⟩) rfl hl.1 rfl (Nat.le_of_ble_eq_true rfl) dX8_spread_134 (fun r147 w149 H locs hp148 hw => ?_)
          obtain ⟨hT, k150, hg151⟩ := hp148
          have hF := hF.tr k150 (by decide)
          have c152 := k150.gi hkq1_ (by decide) c146
          have c153 := k150.gi kC_at40 rfl c143
          rcases hg151 with rfl | rfl
          · refine lv_if_eq (tgt := 185) hx hb dX8_spread_137 (by decide) (fun _ => ?_) (fun c => absurd (by decide) c)
            exact J185 v50_5 v50_6 v50_7 r121 r130 0 x128 H locs ls w149 (show 0 ≤ a2.toInt from r24) (show a2.toInt ≤ 120 from t25) (show 0 ≤ a3.toInt from r26) (show a3.toInt ≤ 19 from t27) (show 0 ≤ a4.toInt from r28) (show a4.toInt ≤ 999999 from t29) (show 0 ≤ v50_5.toInt from r30) (show v50_5.toInt ≤ 9 from t31) (show 0 ≤ v50_6.toInt from r32) (show v50_6.toInt ≤ 1 from t33) (show 0 ≤ v50_7.toInt from r34) (show v50_7.toInt ≤ 2305843009213693952 from t35) (show 0 ≤ r121.toInt by first | with_reducible assumption | omega) (show r121.toInt ≤ 10 by first | with_reducible assumption | omega) (show 0 ≤ r130.toInt by first | with_reducible assumption | omega) (show r130.toInt ≤ 11 by first | with_reducible assumption | omega) (by decide) (by decide) (show 0 ≤ x128.toInt by first | with_reducible assumption | omega) (show x128.toInt ≤ 9 by first | with_reducible assumption | omega)  hw hT hF c152 (lv_sub hl [3, 4, 5, 6, 7, 8, 9, 10, 2, 1, 0] rfl)
          · refine lv_if_eq (tgt := 185) hx hb dX8_spread_137 (by decide) (fun c => absurd c (by decide)) (fun _ => ?_)
            refine lv_iconst (v := 2) hx hb dX8_spread_140 (by decide) ?_
            refine lv_aload_n hx hb dX8_spread_141 rfl (lv_at hl 3 rfl) ?_
            refine tk_getA hC hK hw hT hinX8 kC_at151 (by decide) rfl 0 (by decide) (List.mem_cons_of_mem _ uw_5_11) rfl rfl dX8_spread_142 ?_
            refine tk_getO hC hK hw hT hinX5 kC_at38 (by decide) rfl 0 (by decide) (List.mem_cons_of_mem _ uw_56_0) rfl rfl dX8_spread_145 ?_
            refine lv_iload hx hb dX8_spread_148 (lv_at hl 1 rfl) ?_
            refine lv_iload hx hb dX8_spread_150 (lv_at hl 0 rfl) ?_
            refine tk_Vi hC hK hw hT hA hE hSR kC_at39 (by decide) rfl (k_X7_cornerAcross_2 l adK adV dC dI cy ad B hB0 (Int.le_trans hB1 (by decide)) qr s1   r130 (show 0 ≤ r130.toInt by first | with_reducible assumption | omega) (show r130.toInt ≤ 11 by first | with_reducible assumption | omega) w149 H.size hT ) (cwV 2 hC.2.2.2.2 uV_RX8_141 rfl rfl rfl (by decide +kernel) ⟨Nat.le_of_ble_eq_true rfl, Nat.le_of_ble_eq_true rfl⟩) rfl hl.1 rfl (Nat.le_of_ble_eq_true rfl) dX8_spread_152 (fun r154 w156 H locs hp155 hw => ?_)
            obtain ⟨hT, k157, hg160⟩ := hp155
            have hF := hF.tr k157 (by decide)
            have c161 := k157.gi hkq1_ (by decide) c152
            have c162 := k157.gi kC_at40 rfl c153
            obtain ⟨g158, g159⟩ := hg160
            refine lv_imul hx hb dX8_spread_155 ?_
            refine lv_topi (fun x163 ex163 => ?_)
            have ex163 : x163.toInt = (2 : Int) * r154.toInt := by rw [ex163]; exact wk_mul (show (-2147483648) ≤ (2 : Int) * r154.toInt by omega) (show (2 : Int) * r154.toInt ≤ 2147483647 by omega)
            refine lv_iload hx hb dX8_spread_156 (lv_at hl 9 rfl) ?_
            refine lv_iadd hx hb dX8_spread_158 ?_
            refine lv_topi (fun x164 ex164 => ?_)
            have ex164 : x164.toInt = x163.toInt + v50_6.toInt := by rw [ex164]; exact wk_add (show (-2147483648) ≤ x163.toInt + v50_6.toInt by omega) (show x163.toInt + v50_6.toInt ≤ 2147483647 by omega)
            refine lv_istore (lv' := [(12, .int x164), (11, .int 0), (10, .int r130), (9, .int r121), (0, .ref (ad 151)), (1, .ref (ad q1_)), (2, .int a2), (3, .int a3), (4, .int a4), (5, .int v50_5), (6, .int v50_6), (7, .long v50_7)]) hx hb dX8_spread_159 hl (by decide) rfl (fun ls hl => ?_)
            refine lv_aload_n hx hb dX8_spread_161 rfl (lv_at hl 4 rfl) ?_
            refine lv_lload hx hb dX8_spread_162 (lv_at hl 11 rfl) ?_
            refine lv_iload_n hx hb dX8_spread_164 rfl (lv_at hl 6 rfl) ?_
            refine lv_aload_n hx hb dX8_spread_165 rfl (lv_at hl 4 rfl) ?_
            refine tk_getA hC hK hw hT hinX8 kC_at151 (by decide) rfl 0 (by decide) (List.mem_cons_of_mem _ uw_5_11) rfl rfl dX8_spread_166 ?_
            refine tk_getO hC hK hw hT hinX5 kC_at38 (by decide) rfl 0 (by decide) (List.mem_cons_of_mem _ uw_56_0) rfl rfl dX8_spread_169 ?_
            refine tk_getO hC hK hw hT hinX7 kC_at39 (by decide) rfl 1 (by decide) (List.mem_cons_of_mem _ uw_56_14) rfl rfl dX8_spread_172 ?_
            refine lv_iload hx hb dX8_spread_175 (lv_at hl 2 rfl) ?_
            refine tk_iald hC hK hw hT kC_at41 rfl rfl (show 0 ≤ r130.toInt by first | with_reducible assumption | omega) (show r130.toInt < 13 by first | with_reducible assumption | omega) dX8_spread_177 (fun x165 c166 rx165 tx165 => ?_)
            refine lv_iload hx hb dX8_spread_178 (lv_at hl 0 rfl) ?_
            refine lv_iload hx hb dX8_spread_180 (lv_at hl 8 rfl) ?_
            refine tk_Vv hC hK hw hT hA hE hSR kC_at151 (by decide) rfl (k_X8_note_2 l adK adV dC dI cy ad B hB0 (Int.le_trans hB1 (by decide)) qr s1   v50_7 (show 0 ≤ v50_7.toInt from r34) (show v50_7.toInt ≤ 2305843009213693952 from t35) a2 (show 0 ≤ a2.toInt from r24) (show a2.toInt ≤ 120 from t25) x165 (show 0 ≤ x165.toInt from rx165) (show x165.toInt ≤ 9 from tx165) x164 (show 1 ≤ x164.toInt by first | with_reducible assumption | omega) (show x164.toInt ≤ 19 by first | with_reducible assumption | omega) a4 (show 0 ≤ a4.toInt from r28) (show a4.toInt ≤ 999999 from t29) w156 H.size hT ) (cwV 5 hC.2.2.2.2 uV_RX8_114 rfl rfl rfl (by decide +kernel) ⟨Nat.le_of_ble_eq_true rfl, Nat.le_of_ble_eq_true rfl⟩) rfl hl.1 rfl (Nat.le_of_ble_eq_true rfl) dX8_spread_182 (fun w169 H locs hp168 hw => ?_)
            obtain ⟨hT, k170, hg171⟩ := hp168
            have hF := hF.tr k170 (by decide)
            have c172 := k170.gi hkq1_ (by decide) c161
            have c173 := k170.gi kC_at40 rfl c162
            clear hg171
            exact J185 v50_5 v50_6 v50_7 r121 r130 0 x128 H locs ls w169 (show 0 ≤ a2.toInt from r24) (show a2.toInt ≤ 120 from t25) (show 0 ≤ a3.toInt from r26) (show a3.toInt ≤ 19 from t27) (show 0 ≤ a4.toInt from r28) (show a4.toInt ≤ 999999 from t29) (show 0 ≤ v50_5.toInt from r30) (show v50_5.toInt ≤ 9 from t31) (show 0 ≤ v50_6.toInt from r32) (show v50_6.toInt ≤ 1 from t33) (show 0 ≤ v50_7.toInt from r34) (show v50_7.toInt ≤ 2305843009213693952 from t35) (show 0 ≤ r121.toInt by first | with_reducible assumption | omega) (show r121.toInt ≤ 10 by first | with_reducible assumption | omega) (show 0 ≤ r130.toInt by first | with_reducible assumption | omega) (show r130.toInt ≤ 11 by first | with_reducible assumption | omega) (by decide) (by decide) (show 0 ≤ x128.toInt by first | with_reducible assumption | omega) (show x128.toInt ≤ 9 by first | with_reducible assumption | omega)  hw hT hF c172 (lv_sub hl [4, 5, 6, 7, 8, 9, 10, 11, 3, 2, 1] rfl)
        · refine lv_istore (lv' := [(11, .int 1), (10, .int r130), (9, .int r121), (0, .ref (ad 151)), (1, .ref (ad q1_)), (2, .int a2), (3, .int a3), (4, .int a4), (5, .int v50_5), (6, .int v50_6), (7, .long v50_7)]) hx hb dX8_spread_112 hl (by decide) rfl (fun ls hl => ?_)
          refine lv_iload hx hb dX8_spread_114 (lv_at hl 0 rfl) ?_
          refine lv_iconst (v := (-1)) hx hb dX8_spread_116 (by decide) ?_
          refine lv_icmp_eq (tgt := 185) hx hb dX8_spread_117 (by decide) (fun c => absurd c (by decide)) (fun _ => ?_)
          refine lv_aload_n hx hb dX8_spread_120 rfl (lv_at hl 3 rfl) ?_
          refine tk_getA hC hK hw hT hinX8 kC_at151 (by decide) rfl 0 (by decide) (List.mem_cons_of_mem _ uw_5_11) rfl rfl dX8_spread_121 ?_
          refine tk_getO hC hK hw hT hinX5 kC_at38 (by decide) rfl 0 (by decide) (List.mem_cons_of_mem _ uw_56_0) rfl rfl dX8_spread_124 ?_
          refine lv_iload hx hb dX8_spread_127 (lv_at hl 1 rfl) ?_
          refine lv_iload hx hb dX8_spread_129 (lv_at hl 0 rfl) ?_
          refine lv_lload hx hb dX8_spread_131 (lv_at hl 10 rfl) ?_
          refine lv_iconst (v := 1) hx hb dX8_spread_133 (by decide) ?_
          refine tk_Vi hC hK hw hT hA hE hSR kC_at39 (by decide) rfl (k_X7_isOpen_6 l adK adV dC dI cy ad B hB0 (Int.le_trans hB1 (by decide)) qr s1   r130 (show 0 ≤ r130.toInt by first | with_reducible assumption | omega) (show r130.toInt ≤ 11 by first | with_reducible assumption | omega) v50_7 (show 0 ≤ v50_7.toInt from r34) (show v50_7.toInt ≤ 2305843009213693952 from t35) w141 H.size hT ) (cwV 4 hC.2.2.2.2 uV_RX8_137 rfl rfl rfl (by decide +kernel) ⟨Nat.le_of_ble_eq_true rfl, Nat.le_of_ble_eq_true rfl⟩) rfl hl.1 rfl (Nat.le_of_ble_eq_true rfl) dX8_spread_134 (fun r174 w176 H locs hp175 hw => ?_)
          obtain ⟨hT, k177, hg178⟩ := hp175
          have hF := hF.tr k177 (by decide)
          have c179 := k177.gi hkq1_ (by decide) c146
          have c180 := k177.gi kC_at40 rfl c144
          rcases hg178 with rfl | rfl
          · refine lv_if_eq (tgt := 185) hx hb dX8_spread_137 (by decide) (fun _ => ?_) (fun c => absurd (by decide) c)
            exact J185 v50_5 v50_6 v50_7 r121 r130 1 x128 H locs ls w176 (show 0 ≤ a2.toInt from r24) (show a2.toInt ≤ 120 from t25) (show 0 ≤ a3.toInt from r26) (show a3.toInt ≤ 19 from t27) (show 0 ≤ a4.toInt from r28) (show a4.toInt ≤ 999999 from t29) (show 0 ≤ v50_5.toInt from r30) (show v50_5.toInt ≤ 9 from t31) (show 0 ≤ v50_6.toInt from r32) (show v50_6.toInt ≤ 1 from t33) (show 0 ≤ v50_7.toInt from r34) (show v50_7.toInt ≤ 2305843009213693952 from t35) (show 0 ≤ r121.toInt by first | with_reducible assumption | omega) (show r121.toInt ≤ 10 by first | with_reducible assumption | omega) (show 0 ≤ r130.toInt by first | with_reducible assumption | omega) (show r130.toInt ≤ 11 by first | with_reducible assumption | omega) (by decide) (by decide) (show 0 ≤ x128.toInt by first | with_reducible assumption | omega) (show x128.toInt ≤ 9 by first | with_reducible assumption | omega)  hw hT hF c179 (lv_sub hl [3, 4, 5, 6, 7, 8, 9, 10, 2, 1, 0] rfl)
          · refine lv_if_eq (tgt := 185) hx hb dX8_spread_137 (by decide) (fun c => absurd c (by decide)) (fun _ => ?_)
            refine lv_iconst (v := 2) hx hb dX8_spread_140 (by decide) ?_
            refine lv_aload_n hx hb dX8_spread_141 rfl (lv_at hl 3 rfl) ?_
            refine tk_getA hC hK hw hT hinX8 kC_at151 (by decide) rfl 0 (by decide) (List.mem_cons_of_mem _ uw_5_11) rfl rfl dX8_spread_142 ?_
            refine tk_getO hC hK hw hT hinX5 kC_at38 (by decide) rfl 0 (by decide) (List.mem_cons_of_mem _ uw_56_0) rfl rfl dX8_spread_145 ?_
            refine lv_iload hx hb dX8_spread_148 (lv_at hl 1 rfl) ?_
            refine lv_iload hx hb dX8_spread_150 (lv_at hl 0 rfl) ?_
            refine tk_Vi hC hK hw hT hA hE hSR kC_at39 (by decide) rfl (k_X7_cornerAcross_3 l adK adV dC dI cy ad B hB0 (Int.le_trans hB1 (by decide)) qr s1   r130 (show 0 ≤ r130.toInt by first | with_reducible assumption | omega) (show r130.toInt ≤ 11 by first | with_reducible assumption | omega) w176 H.size hT ) (cwV 2 hC.2.2.2.2 uV_RX8_141 rfl rfl rfl (by decide +kernel) ⟨Nat.le_of_ble_eq_true rfl, Nat.le_of_ble_eq_true rfl⟩) rfl hl.1 rfl (Nat.le_of_ble_eq_true rfl) dX8_spread_152 (fun r181 w183 H locs hp182 hw => ?_)
            obtain ⟨hT, k184, hg187⟩ := hp182
            have hF := hF.tr k184 (by decide)
            have c188 := k184.gi hkq1_ (by decide) c179
            have c189 := k184.gi kC_at40 rfl c180
            obtain ⟨g185, g186⟩ := hg187
            refine lv_imul hx hb dX8_spread_155 ?_
            refine lv_topi (fun x190 ex190 => ?_)
            have ex190 : x190.toInt = (2 : Int) * r181.toInt := by rw [ex190]; exact wk_mul (show (-2147483648) ≤ (2 : Int) * r181.toInt by omega) (show (2 : Int) * r181.toInt ≤ 2147483647 by omega)
            refine lv_iload hx hb dX8_spread_156 (lv_at hl 9 rfl) ?_
            refine lv_iadd hx hb dX8_spread_158 ?_
            refine lv_topi (fun x191 ex191 => ?_)
            have ex191 : x191.toInt = x190.toInt + v50_6.toInt := by rw [ex191]; exact wk_add (show (-2147483648) ≤ x190.toInt + v50_6.toInt by omega) (show x190.toInt + v50_6.toInt ≤ 2147483647 by omega)
            refine lv_istore (lv' := [(12, .int x191), (11, .int 1), (10, .int r130), (9, .int r121), (0, .ref (ad 151)), (1, .ref (ad q1_)), (2, .int a2), (3, .int a3), (4, .int a4), (5, .int v50_5), (6, .int v50_6), (7, .long v50_7)]) hx hb dX8_spread_159 hl (by decide) rfl (fun ls hl => ?_)
            refine lv_aload_n hx hb dX8_spread_161 rfl (lv_at hl 4 rfl) ?_
            refine lv_lload hx hb dX8_spread_162 (lv_at hl 11 rfl) ?_
            refine lv_iload_n hx hb dX8_spread_164 rfl (lv_at hl 6 rfl) ?_
            refine lv_aload_n hx hb dX8_spread_165 rfl (lv_at hl 4 rfl) ?_
            refine tk_getA hC hK hw hT hinX8 kC_at151 (by decide) rfl 0 (by decide) (List.mem_cons_of_mem _ uw_5_11) rfl rfl dX8_spread_166 ?_
            refine tk_getO hC hK hw hT hinX5 kC_at38 (by decide) rfl 0 (by decide) (List.mem_cons_of_mem _ uw_56_0) rfl rfl dX8_spread_169 ?_
            refine tk_getO hC hK hw hT hinX7 kC_at39 (by decide) rfl 1 (by decide) (List.mem_cons_of_mem _ uw_56_14) rfl rfl dX8_spread_172 ?_
            refine lv_iload hx hb dX8_spread_175 (lv_at hl 2 rfl) ?_
            refine tk_iald hC hK hw hT kC_at41 rfl rfl (show 0 ≤ r130.toInt by first | with_reducible assumption | omega) (show r130.toInt < 13 by first | with_reducible assumption | omega) dX8_spread_177 (fun x192 c193 rx192 tx192 => ?_)
            refine lv_iload hx hb dX8_spread_178 (lv_at hl 0 rfl) ?_
            refine lv_iload hx hb dX8_spread_180 (lv_at hl 8 rfl) ?_
            refine tk_Vv hC hK hw hT hA hE hSR kC_at151 (by decide) rfl (k_X8_note_2 l adK adV dC dI cy ad B hB0 (Int.le_trans hB1 (by decide)) qr s1   v50_7 (show 0 ≤ v50_7.toInt from r34) (show v50_7.toInt ≤ 2305843009213693952 from t35) a2 (show 0 ≤ a2.toInt from r24) (show a2.toInt ≤ 120 from t25) x192 (show 0 ≤ x192.toInt from rx192) (show x192.toInt ≤ 9 from tx192) x191 (show 1 ≤ x191.toInt by first | with_reducible assumption | omega) (show x191.toInt ≤ 19 by first | with_reducible assumption | omega) a4 (show 0 ≤ a4.toInt from r28) (show a4.toInt ≤ 999999 from t29) w183 H.size hT ) (cwV 5 hC.2.2.2.2 uV_RX8_114 rfl rfl rfl (by decide +kernel) ⟨Nat.le_of_ble_eq_true rfl, Nat.le_of_ble_eq_true rfl⟩) rfl hl.1 rfl (Nat.le_of_ble_eq_true rfl) dX8_spread_182 (fun w196 H locs hp195 hw => ?_)
            obtain ⟨hT, k197, hg198⟩ := hp195
            have hF := hF.tr k197 (by decide)
            have c199 := k197.gi hkq1_ (by decide) c188
            have c200 := k197.gi kC_at40 rfl c189
            clear hg198
            exact J185 v50_5 v50_6 v50_7 r121 r130 1 x128 H locs ls w196 (show 0 ≤ a2.toInt from r24) (show a2.toInt ≤ 120 from t25) (show 0 ≤ a3.toInt from r26) (show a3.toInt ≤ 19 from t27) (show 0 ≤ a4.toInt from r28) (show a4.toInt ≤ 999999 from t29) (show 0 ≤ v50_5.toInt from r30) (show v50_5.toInt ≤ 9 from t31) (show 0 ≤ v50_6.toInt from r32) (show v50_6.toInt ≤ 1 from t33) (show 0 ≤ v50_7.toInt from r34) (show v50_7.toInt ≤ 2305843009213693952 from t35) (show 0 ≤ r121.toInt by first | with_reducible assumption | omega) (show r121.toInt ≤ 10 by first | with_reducible assumption | omega) (show 0 ≤ r130.toInt by first | with_reducible assumption | omega) (show r130.toInt ≤ 11 by first | with_reducible assumption | omega) (by decide) (by decide) (show 0 ≤ x128.toInt by first | with_reducible assumption | omega) (show x128.toInt ≤ 9 by first | with_reducible assumption | omega)  hw hT hF c199 (lv_sub hl [4, 5, 6, 7, 8, 9, 10, 11, 3, 2, 1] rfl)
      · have c138 : r130.toInt = (-1 : Int) := wk_eq.mp c138
        exact tk_vret hC hr hlocks hK ⟨hT, hF, trivial⟩ hw dX8_spread_97
  refine lv_iload_n hx hb dX8_spread_0 rfl (lv_at hl 3 rfl) ?_
  refine lv_iconst (v := 2) hx hb dX8_spread_1 (by decide) ?_
  refine lv_idiv hx hb dX8_spread_2 (by decide) ?_
  refine lv_topi (fun x201 ex201 => ?_)
  have ex201 : x201.toInt = a3.toInt / (2 : Int) := by rw [ex201]; exact wk_div (show 0 ≤ a3.toInt from ra3) (show 0 < (2 : Int) by decide)
  refine lv_istore (lv' := [(5, .int x201), (0, .ref (ad 151)), (1, .ref (ad q1_)), (2, .int a2), (3, .int a3), (4, .int a4)]) hx hb dX8_spread_3 hl (by decide) rfl (fun ls hl => ?_)
  refine lv_iload_n hx hb dX8_spread_5 rfl (lv_at hl 4 rfl) ?_
  refine lv_iconst (v := 2) hx hb dX8_spread_6 (by decide) ?_
  refine lv_irem hx hb dX8_spread_7 (by decide) ?_
  refine lv_topi (fun x202 ex202 => ?_)
  have ex202 : x202.toInt = a3.toInt % (2 : Int) := by rw [ex202]; exact wk_rem (show 0 ≤ a3.toInt from ra3) (show 0 < (2 : Int) by decide)
  refine lv_istore (lv' := [(6, .int x202), (5, .int x201), (0, .ref (ad 151)), (1, .ref (ad q1_)), (2, .int a2), (3, .int a3), (4, .int a4)]) hx hb dX8_spread_8 hl (by decide) rfl (fun ls hl => ?_)
  refine lv_aload_n hx hb dX8_spread_10 rfl (lv_at hl 3 rfl) ?_
  refine tk_getB hC hK hw hT hinX9 hkq1_ (by decide) rfl 4 (by decide) (List.mem_cons_of_mem _ uw_53_10) rfl rfl dX8_spread_11 (fun x203 c204 rx203 tx203 => ?_)
  refine lv_iload_n hx hb dX8_spread_14 rfl (lv_at hl 4 rfl) ?_
  refine lv_i2l hx hb dX8_spread_15 rfl ?_
  refine lv_topl (fun x205 ex205 => ?_)
  have ex205 : x205.toInt = a2.toInt := by rw [ex205]; exact wk_i2l _
  have bx205 := wk_i32 a2
  refine lv_ladd hx hb dX8_spread_16 ?_
  refine lv_topl (fun x206 ex206 => ?_)
  have ex206 : x206.toInt = x203.toInt + x205.toInt := by rw [ex206]; exact wk_addl (show (-9223372036854775808) ≤ x203.toInt + x205.toInt by omega) (show x203.toInt + x205.toInt ≤ 9223372036854775807 by omega)
  refine lv_lstore (lv' := [(7, .long x206), (6, .int x202), (5, .int x201), (0, .ref (ad 151)), (1, .ref (ad q1_)), (2, .int a2), (3, .int a3), (4, .int a4)]) hx hb dX8_spread_17 hl (by decide) rfl (fun ls hl => ?_)
  refine lv_aload_n hx hb dX8_spread_19 rfl (lv_at hl 3 rfl) ?_
  refine lv_lload hx hb dX8_spread_20 (lv_at hl 0 rfl) ?_
  refine lv_iload_n hx hb dX8_spread_22 rfl (lv_at hl 5 rfl) ?_
  refine lv_iconst (v := 1) hx hb dX8_spread_23 (by decide) ?_
  refine lv_iload_n hx hb dX8_spread_24 rfl (lv_at hl 6 rfl) ?_
  refine lv_iload hx hb dX8_spread_25 (lv_at hl 7 rfl) ?_
  refine tk_Vv hC hK hw hT hA hE hSR kC_at151 (by decide) rfl (k_X8_note_3 l adK adV dC dI cy ad B hB0 (Int.le_trans hB1 (by decide)) qr s1   x206 (show 0 ≤ x206.toInt by first | with_reducible assumption | omega) (show x206.toInt ≤ 2305843009213694072 by first | with_reducible assumption | omega) a2 (show 0 ≤ a2.toInt from ra2) (show a2.toInt ≤ 120 from ta2) a3 (show 0 ≤ a3.toInt from ra3) (show a3.toInt ≤ 19 from ta3) a4 (show 0 ≤ a4.toInt from ra4) (show a4.toInt ≤ 999999 from ta4) w0 s.heap.size hT ) (cwV 5 hC.2.2.2.2 uV_RX8_114 rfl rfl rfl (by decide +kernel) ⟨Nat.le_of_ble_eq_true rfl, Nat.le_of_ble_eq_true rfl⟩) rfl hl.1 rfl (Nat.le_of_ble_eq_true rfl) dX8_spread_27 (fun w209 H locs hp208 hw => ?_)
  obtain ⟨hT, k210, hg211⟩ := hp208
  have hF := hF.tr k210 (by decide)
  have c212 := k210.gl hkq1_ (by decide) c204
  clear hg211
  refine lv_iload hx hb dX8_spread_30 (lv_at hl 1 rfl) ?_
  refine lv_if_ne (tgt := 50) hx hb dX8_spread_32 (by decide) (fun c213 => ?_) (fun c213 => ?_)
  · have c213 : ¬ x202.toInt = (0 : Int) := wk_eqF c213
    exact J50 x201 x202 x206 H locs ls w209 (show 0 ≤ a2.toInt from ra2) (show a2.toInt ≤ 120 from ta2) (show 0 ≤ a3.toInt from ra3) (show a3.toInt ≤ 19 from ta3) (show 0 ≤ a4.toInt from ra4) (show a4.toInt ≤ 999999 from ta4) (show 0 ≤ x201.toInt by first | with_reducible assumption | omega) (show x201.toInt ≤ 9 by first | with_reducible assumption | omega) (show 0 ≤ x202.toInt by first | with_reducible assumption | omega) (show x202.toInt ≤ 1 by first | with_reducible assumption | omega) (show 0 ≤ x206.toInt by first | with_reducible assumption | omega) (show x206.toInt ≤ 2305843009213693952 by first | with_reducible assumption | omega)  hw hT hF  (lv_sub hl [3, 4, 5, 6, 7, 2, 1, 0] rfl)
  · have c213 : x202.toInt = (0 : Int) := wk_eq.mp c213
    refine lv_aload_n hx hb dX8_spread_35 rfl (lv_at hl 3 rfl) ?_
    refine lv_lload hx hb dX8_spread_36 (lv_at hl 0 rfl) ?_
    refine lv_iload_n hx hb dX8_spread_38 rfl (lv_at hl 5 rfl) ?_
    refine lv_iconst (v := 1) hx hb dX8_spread_39 (by decide) ?_
    refine lv_iload_n hx hb dX8_spread_40 rfl (lv_at hl 6 rfl) ?_
    refine lv_iconst (v := 1) hx hb dX8_spread_41 (by decide) ?_
    refine lv_iadd hx hb dX8_spread_42 ?_
    refine lv_topi (fun x214 ex214 => ?_)
    have ex214 : x214.toInt = a3.toInt + (1 : Int) := by rw [ex214]; exact wk_add (show (-2147483648) ≤ a3.toInt + (1 : Int) by omega) (show a3.toInt + (1 : Int) ≤ 2147483647 by omega)
    refine lv_iload hx hb dX8_spread_43 (lv_at hl 7 rfl) ?_
    refine lv_iconst (v := 1) hx hb dX8_spread_45 (by decide) ?_
    refine lv_iadd hx hb dX8_spread_46 ?_
    refine lv_topi (fun x215 ex215 => ?_)
    have ex215 : x215.toInt = a4.toInt + (1 : Int) := by rw [ex215]; exact wk_add (show (-2147483648) ≤ a4.toInt + (1 : Int) by omega) (show a4.toInt + (1 : Int) ≤ 2147483647 by omega)
    refine tk_Vv hC hK hw hT hA hE hSR kC_at151 (by decide) rfl (k_X8_note_4 l adK adV dC dI cy ad B hB0 (Int.le_trans hB1 (by decide)) qr s1   x206 (show 0 ≤ x206.toInt by first | with_reducible assumption | omega) (show x206.toInt ≤ 2305843009213694072 by first | with_reducible assumption | omega) a2 (show 0 ≤ a2.toInt from ra2) (show a2.toInt ≤ 120 from ta2) x214 (show 1 ≤ x214.toInt by first | with_reducible assumption | omega) (show x214.toInt ≤ 19 by first | with_reducible assumption | omega) x215 (show 1 ≤ x215.toInt by first | with_reducible assumption | omega) (show x215.toInt ≤ 1000000 by first | with_reducible assumption | omega) w209 H.size hT ) (cwV 5 hC.2.2.2.2 uV_RX8_114 rfl rfl rfl (by decide +kernel) ⟨Nat.le_of_ble_eq_true rfl, Nat.le_of_ble_eq_true rfl⟩) rfl hl.1 rfl (Nat.le_of_ble_eq_true rfl) dX8_spread_47 (fun w218 H locs hp217 hw => ?_)
    obtain ⟨hT, k219, hg220⟩ := hp217
    have hF := hF.tr k219 (by decide)
    have c221 := k219.gl hkq1_ (by decide) c212
    clear hg220
    exact J50 x201 x202 x206 H locs ls w218 (show 0 ≤ a2.toInt from ra2) (show a2.toInt ≤ 120 from ta2) (show 0 ≤ a3.toInt from ra3) (show a3.toInt ≤ 19 from ta3) (show 0 ≤ a4.toInt from ra4) (show a4.toInt ≤ 999999 from ta4) (show 0 ≤ x201.toInt by first | with_reducible assumption | omega) (show x201.toInt ≤ 9 by first | with_reducible assumption | omega) (show 0 ≤ x202.toInt by first | with_reducible assumption | omega) (show x202.toInt ≤ 1 by first | with_reducible assumption | omega) (show 0 ≤ x206.toInt by first | with_reducible assumption | omega) (show x206.toInt ≤ 2305843009213693952 by first | with_reducible assumption | omega)  hw hT hF  (lv_sub hl [3, 4, 5, 6, 7, 2, 1, 0] rfl)
