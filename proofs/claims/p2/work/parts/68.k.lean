abbrev P_X5_moveTo_2 (ad : Nat → Nat) (cy : Nat → ClassId) (B : Int) (qr : Nat) (s1 : Int) (q1_ : Nat) (w0 : va_W) : va_W → Prop := fun u => TW ksC ad cy B qr s1 u ∧ FE ksC [(5, 8, 8), (5, 9, 9), (5, 10, 10), (5, 11, 11), (5, 12, 12), (7, 8, 8), (7, 9, 9), (7, 10, 10), (7, 11, 11), (24, 0, 100000), (25, 0, 100000), (26, 0, 100000), (27, 0, 100000), (28, 0, 100000), (29, 0, 100000), (30, 0, 100000), (31, 0, 100000)] w0 u ∧ (((∃ y : Int32, gi u 38 8 = y ∧ 0 ≤ y.toInt ∧ y.toInt ≤ 0) ∧ (∃ y : Int32, gi u 38 9 = y ∧ 0 ≤ y.toInt ∧ y.toInt ≤ 0) ∧ (∃ y : Int32, gi u 38 10 = y ∧ 0 ≤ y.toInt ∧ y.toInt ≤ 0) ∧ (∃ y : Int32, gi u 38 11 = y ∧ 0 ≤ y.toInt ∧ y.toInt ≤ 0) ∧ (∃ y : Int32, gi u 38 12 = y ∧ 0 ≤ y.toInt ∧ y.toInt ≤ 0)))
set_option maxHeartbeats 4000000 in
set_option maxRecDepth 100000 in
theorem k_X5_moveTo_2 (l : Launch) (adK adV : Nat → Nat) (dC : Nat → ClassId) (dI : Nat → Nat → Nat) (cy : Nat → ClassId) (ad : Nat → Nat) (B : Int) (hB0 : 2147483648 ≤ B) (hB1 : B ≤ 1152921504606846976) (qr : Nat) (s1 : Int)  (q1_ : Nat) (hkq1_ : ksC[q1_]? = some 7) (w0 : va_W) (sz : Nat) (hT : TW ksC ad cy B qr s1 w0)  : Met l yX5_moveTo wsX5_moveTo ({ frames := 2, cells := 0, slots := 0, locals := 81 }) (va_Pc [.ref (ad 38), .ref (ad q1_)] (wpreS adK adV dC dI cy sz w0)) (va_Qv (P_X5_moveTo_2 ad cy B qr s1 q1_ w0) (fun u : va_W => wpost dC dI cy (va_A w0 sz) u) (va_A w0 sz)) 0 0 (va_A w0 sz) := by
  refine Met.ofW (cc := cX5_moveTo) (maxL := 2) (ret := none) (by decide) rfl ?_
  intro p e s m args below meth c s₁ Bk hml hv
  obtain ⟨rfl, ⟨hsz, hP, hK, hD0⟩, hE, hSR⟩ := hv
  have hx := Bk.exec
  have hb := Bk.bytes
  have hr := Bk.returns
  have hlocks := Bk.notSynchronized
  have hC : CallFix p m c cX5_moveTo 2 s _ wsX5_moveTo RX5 := ⟨hx, hb, hml, findClass_of_methodNamed Bk.named, atoms_spec (ws := wsX5_moveTo) Bk.pre⟩
  subst hsz
  have hD := hD0.self (sz := s.heap.size)
  generalize hAe : va_A w0 s.heap.size = A at hD hE ⊢
  have hA : ∀ q : Nat, s.heap.size ≤ q → A q := fun q h => by rw [← hAe]; exact Or.inr h
  have hw : Wd dC dI A s.heap s.heap [] w0 := ⟨hP, hD, va_S.rf⟩
  have hF : FE ksC [(5, 8, 8), (5, 9, 9), (5, 10, 10), (5, 11, 11), (5, 12, 12), (7, 8, 8), (7, 9, 9), (7, 10, 10), (7, 11, 11), (24, 0, 100000), (25, 0, 100000), (26, 0, 100000), (27, 0, 100000), (28, 0, 100000), (29, 0, 100000), (30, 0, 100000), (31, 0, 100000)] w0 w0 := FE.rf
  have hl := lv_entry ([.ref (ad 38), .ref (ad q1_)]) (n := 2) (Nat.le_of_ble_eq_true rfl)
  rw [lg_entry_eq]
  generalize (lg_sl ([.ref (ad 38), .ref (ad q1_)]) ++ List.replicate (2 - (lg_sl ([.ref (ad 38), .ref (ad q1_)])).length) Slot.unset).toArray = ls at hl ⊢
  have hl : lv_has ls 2 [(0, .ref (ad 38)), (1, .ref (ad q1_))] := hl
  generalize hloc : ([] : List Loc) = locs at hw ⊢
  have hinX5 : ∀ w ∈ u_ws RX5 TX5 14, w ∈ wsX5_moveTo := fun _ h => List.mem_cons_of_mem _ (List.mem_append_left _ (List.mem_append_right _ (h)))
  refine lv_aload_n hx hb dX5_moveTo_0 rfl (lv_at hl 0 rfl) ?_
  refine tk_getO hC hK hw hT hinX5 kC_at38 (by decide) rfl 0 (by decide) (List.mem_of_getElem? (i := 1) rfl) rfl rfl dX5_moveTo_1 ?_
  refine lv_aload_n hx hb dX5_moveTo_4 rfl (lv_at hl 1 rfl) ?_
  refine tk_Vv hC hK hw hT hA hE hSR kC_at39 (by decide) rfl (k_X7_copyFrom_2 l adK adV dC dI cy ad B (by omega) (by omega) qr s1   q1_ hkq1_ w0 s.heap.size hT ) (cwV 1 hC.2.2.2.2 gX5_moveTo_X7_copyFrom rfl rfl rfl (by decide +kernel) ⟨Nat.le_of_ble_eq_true rfl, Nat.le_of_ble_eq_true rfl⟩) rfl hl.1 rfl (Nat.le_of_ble_eq_true rfl) dX5_moveTo_5 (fun w3 H locs hp2 hw => ?_)
  obtain ⟨hT, k4, hg5⟩ := hp2
  have hF := hF.tr k4 (by decide)
  clear hg5
  refine lv_aload_n hx hb dX5_moveTo_8 rfl (lv_at hl 0 rfl) ?_
  refine lv_iconst (v := 0) hx hb dX5_moveTo_9 (by decide) ?_
  refine tk_puti hC hK hw hT hinX5 tyX5_ok nmX5 kC_at38 (by decide) rfl rfl 8 (by decide) (List.mem_of_getElem? (i := 2) rfl) rfl rfl rfl rfl (by decide) (by decide) dX5_moveTo_10 (fun H locs w6 hw hT k8 c7 => ?_)
  have hF := hF.put kC_at38 (k := 8) (by decide) k8
  refine lv_aload_n hx hb dX5_moveTo_13 rfl (lv_at hl 0 rfl) ?_
  refine lv_iconst (v := 0) hx hb dX5_moveTo_14 (by decide) ?_
  refine tk_puti hC hK hw hT hinX5 tyX5_ok nmX5 kC_at38 (by decide) rfl rfl 9 (by decide) (List.mem_of_getElem? (i := 3) rfl) rfl rfl rfl rfl (by decide) (by decide) dX5_moveTo_15 (fun H locs w9 hw hT k11 c10 => ?_)
  have hF := hF.put kC_at38 (k := 9) (by decide) k11
  have c12 := k11.gi (Or.inr (by decide)) c7
  refine lv_aload_n hx hb dX5_moveTo_18 rfl (lv_at hl 0 rfl) ?_
  refine lv_iconst (v := 0) hx hb dX5_moveTo_19 (by decide) ?_
  refine tk_puti hC hK hw hT hinX5 tyX5_ok nmX5 kC_at38 (by decide) rfl rfl 10 (by decide) (List.mem_of_getElem? (i := 4) rfl) rfl rfl rfl rfl (by decide) (by decide) dX5_moveTo_20 (fun H locs w13 hw hT k15 c14 => ?_)
  have hF := hF.put kC_at38 (k := 10) (by decide) k15
  have c16 := k15.gi (Or.inr (by decide)) c12
  have c17 := k15.gi (Or.inr (by decide)) c10
  refine lv_aload_n hx hb dX5_moveTo_23 rfl (lv_at hl 0 rfl) ?_
  refine lv_iconst (v := 0) hx hb dX5_moveTo_24 (by decide) ?_
  refine tk_puti hC hK hw hT hinX5 tyX5_ok nmX5 kC_at38 (by decide) rfl rfl 11 (by decide) (List.mem_of_getElem? (i := 5) rfl) rfl rfl rfl rfl (by decide) (by decide) dX5_moveTo_25 (fun H locs w18 hw hT k20 c19 => ?_)
  have hF := hF.put kC_at38 (k := 11) (by decide) k20
  have c21 := k20.gi (Or.inr (by decide)) c16
  have c22 := k20.gi (Or.inr (by decide)) c17
  have c23 := k20.gi (Or.inr (by decide)) c14
  refine lv_aload_n hx hb dX5_moveTo_28 rfl (lv_at hl 0 rfl) ?_
  refine lv_iconst (v := 0) hx hb dX5_moveTo_29 (by decide) ?_
  refine tk_puti hC hK hw hT hinX5 tyX5_ok nmX5 kC_at38 (by decide) rfl rfl 12 (by decide) (List.mem_of_getElem? (i := 6) rfl) rfl rfl rfl rfl (by decide) (by decide) dX5_moveTo_30 (fun H locs w24 hw hT k26 c25 => ?_)
  have hF := hF.put kC_at38 (k := 12) (by decide) k26
  have c27 := k26.gi (Or.inr (by decide)) c21
  have c28 := k26.gi (Or.inr (by decide)) c22
  have c29 := k26.gi (Or.inr (by decide)) c23
  have c30 := k26.gi (Or.inr (by decide)) c19
  exact tk_vret hC hr hlocks hK ⟨hT, hF, ⟨⟨0, c27, (by decide), (by decide)⟩, ⟨0, c28, (by decide), (by decide)⟩, ⟨0, c29, (by decide), (by decide)⟩, ⟨0, c30, (by decide), (by decide)⟩, ⟨0, c25, (by decide), (by decide)⟩⟩⟩ hw dX5_moveTo_33
abbrev P_X5_copyFrom_2 (ad : Nat → Nat) (cy : Nat → ClassId) (B : Int) (qr : Nat) (s1 : Int) (q1_ : Nat) (w0 : va_W) : va_W → Prop := fun u => TW ksC ad cy B qr s1 u ∧ FE ksC [(5, 8, 8), (5, 9, 9), (5, 10, 10), (5, 11, 11), (5, 12, 12), (5, 13, 13), (7, 8, 8), (7, 9, 9), (7, 10, 10), (7, 11, 11), (9, 0, 0), (9, 1, 1), (9, 2, 2), (9, 3, 3), (9, 4, 4), (9, 5, 5), (9, 6, 6), (9, 7, 7), (9, 8, 8), (24, 0, 100000), (25, 0, 100000), (26, 0, 100000), (27, 0, 100000), (28, 0, 100000), (29, 0, 100000), (30, 0, 100000), (31, 0, 100000), (32, 0, 100000), (34, 0, 100000), (35, 0, 100000), (36, 0, 100000), (37, 0, 100000), (38, 0, 100000)] w0 u ∧ ((True))
set_option maxHeartbeats 4000000 in
set_option maxRecDepth 100000 in
theorem k_X5_copyFrom_2 (l : Launch) (adK adV : Nat → Nat) (dC : Nat → ClassId) (dI : Nat → Nat → Nat) (cy : Nat → ClassId) (ad : Nat → Nat) (B : Int) (hB0 : 2147483648 ≤ B) (hB1 : B ≤ 1152921504606846976) (qr : Nat) (s1 : Int)  (q1_ : Nat) (hkq1_ : ksC[q1_]? = some 5) (w0 : va_W) (sz : Nat) (hT : TW ksC ad cy B qr s1 w0)  : Met l yX5_copyFrom wsX5_copyFrom ({ frames := 3, cells := 0, slots := 0, locals := 102 }) (va_Pc [.ref (ad 38), .ref (ad q1_)] (wpreS adK adV dC dI cy sz w0)) (va_Qv (P_X5_copyFrom_2 ad cy B qr s1 q1_ w0) (fun u : va_W => wpost dC dI cy (va_A w0 sz) u) (va_A w0 sz)) 0 0 (va_A w0 sz) := by
  refine Met.ofW (cc := cX5_copyFrom) (maxL := 3) (ret := none) (by decide) rfl ?_
  intro p e s m args below meth c s₁ Bk hml hv
  obtain ⟨rfl, ⟨hsz, hP, hK, hD0⟩, hE, hSR⟩ := hv
  have hx := Bk.exec
  have hb := Bk.bytes
  have hr := Bk.returns
  have hlocks := Bk.notSynchronized
  have hC : CallFix p m c cX5_copyFrom 3 s _ wsX5_copyFrom RX5 := ⟨hx, hb, hml, findClass_of_methodNamed Bk.named, atoms_spec (ws := wsX5_copyFrom) Bk.pre⟩
  subst hsz
  have hD := hD0.self (sz := s.heap.size)
  generalize hAe : va_A w0 s.heap.size = A at hD hE ⊢
  have hA : ∀ q : Nat, s.heap.size ≤ q → A q := fun q h => by rw [← hAe]; exact Or.inr h
  have hw : Wd dC dI A s.heap s.heap [] w0 := ⟨hP, hD, va_S.rf⟩
  have hF : FE ksC [(5, 8, 8), (5, 9, 9), (5, 10, 10), (5, 11, 11), (5, 12, 12), (5, 13, 13), (7, 8, 8), (7, 9, 9), (7, 10, 10), (7, 11, 11), (9, 0, 0), (9, 1, 1), (9, 2, 2), (9, 3, 3), (9, 4, 4), (9, 5, 5), (9, 6, 6), (9, 7, 7), (9, 8, 8), (24, 0, 100000), (25, 0, 100000), (26, 0, 100000), (27, 0, 100000), (28, 0, 100000), (29, 0, 100000), (30, 0, 100000), (31, 0, 100000), (32, 0, 100000), (34, 0, 100000), (35, 0, 100000), (36, 0, 100000), (37, 0, 100000), (38, 0, 100000)] w0 w0 := FE.rf
  have hl := lv_entry ([.ref (ad 38), .ref (ad q1_)]) (n := 3) (Nat.le_of_ble_eq_true rfl)
  rw [lg_entry_eq]
  generalize (lg_sl ([.ref (ad 38), .ref (ad q1_)]) ++ List.replicate (3 - (lg_sl ([.ref (ad 38), .ref (ad q1_)])).length) Slot.unset).toArray = ls at hl ⊢
  have hl : lv_has ls 3 [(0, .ref (ad 38)), (1, .ref (ad q1_))] := hl
  generalize hloc : ([] : List Loc) = locs at hw ⊢
  have hinX5 : ∀ w ∈ u_ws RX5 TX5 14, w ∈ wsX5_copyFrom := fun _ h => List.mem_cons_of_mem _ (List.mem_append_left _ (List.mem_append_left _ (List.mem_append_right _ (h))))
  have L28 : ∀ (n28 : Nat) (v28_2 : Int32) (H : Heap) (locs : List Loc) (ls : Array Slot) (w1 : va_W), 0 ≤ v28_2.toInt → v28_2.toInt ≤ 4 → (4 - v28_2.toInt).toNat < n28 → Wd dC dI A s.heap H locs w1 → TW ksC ad cy B qr s1 w1 → FE ksC [(5, 8, 8), (5, 9, 9), (5, 10, 10), (5, 11, 11), (5, 12, 12), (5, 13, 13), (7, 8, 8), (7, 9, 9), (7, 10, 10), (7, 11, 11), (9, 0, 0), (9, 1, 1), (9, 2, 2), (9, 3, 3), (9, 4, 4), (9, 5, 5), (9, 6, 6), (9, 7, 7), (9, 8, 8), (24, 0, 100000), (25, 0, 100000), (26, 0, 100000), (27, 0, 100000), (28, 0, 100000), (29, 0, 100000), (30, 0, 100000), (31, 0, 100000), (32, 0, 100000), (34, 0, 100000), (35, 0, 100000), (36, 0, 100000), (37, 0, 100000), (38, 0, 100000)] w0 w1 → gi w1 38 10 = 0 → gi w1 38 11 = 0 → gi w1 38 12 = 0 → gi w1 38 8 = 0 → gi w1 38 9 = 0 → lv_has ls 3 [(0, .ref (ad 38)), (1, .ref (ad q1_)), (2, .int v28_2)] → W p l e ({ frames := 3, cells := 0, slots := 0, locals := 102 }) s m (List.toArray [.ref (ad 38), .ref (ad q1_)]) below meth c H locs 0 0 (MQ below (va_Qv (P_X5_copyFrom_2 ad cy B qr s1 q1_ w0) (fun u : va_W => wpost dC dI cy A u) A) (List.toArray [.ref (ad 38), .ref (ad q1_)]) s 0 0 A) (F0 m 28 ls []) := by
    intro n28
    induction n28 with
    | zero => intro v28_2 H locs ls w1 r2 t3 hm28 hw hT hF c4 c5 c6 c7 c8 hl; omega
    | succ n28 ih28 =>
      intro v28_2 H locs ls w1 r2 t3 hm28 hw hT hF c4 c5 c6 c7 c8 hl
      refine lv_iload_n hx hb dX5_copyFrom_28 rfl (lv_at hl 2 rfl) ?_
      refine lv_iconst (v := 4) hx hb dX5_copyFrom_29 (by decide) ?_
      refine lv_icmp_ge (tgt := 54) hx hb dX5_copyFrom_30 (by decide) (fun c9 => ?_) (fun c9 => ?_)
      · have c9 : (4 : Int) ≤ v28_2.toInt := wk_le.mp c9
        refine lv_aload_n hx hb dX5_copyFrom_54 rfl (lv_at hl 1 rfl) ?_
        refine tk_getO hC hK hw hT hinX5 hkq1_ (by decide) rfl 3 (by decide) (List.mem_of_getElem? (i := 8) rfl) rfl rfl dX5_copyFrom_55 ?_
        refine lv_iconst (v := 0) hx hb dX5_copyFrom_58 (by decide) ?_
        refine lv_aload_n hx hb dX5_copyFrom_59 rfl (lv_at hl 0 rfl) ?_
        refine tk_getO hC hK hw hT hinX5 kC_at38 (by decide) rfl 3 (by decide) (List.mem_of_getElem? (i := 8) rfl) rfl rfl dX5_copyFrom_60 ?_
        refine lv_iconst (v := 0) hx hb dX5_copyFrom_63 (by decide) ?_
        refine lv_bipush (v := 6) hx hb dX5_copyFrom_64 (by decide) ?_
        refine tk_copy hC hK hw hT hl.1 (List.mem_of_getElem? (i := 3) rfl) (List.mem_of_getElem? (i := 4) rfl) (List.mem_of_getElem? (i := 5) rfl) (List.mem_of_getElem? (i := 6) rfl) (kC_5_12 hkq1_) kC_at50 (by decide) rfl rfl rfl rfl (by decide) (by decide) (by decide) (by decide) (by decide) (by decide) (by decide) (by decide) (Nat.le_of_ble_eq_true rfl) (by decide +kernel) dX5_copyFrom_66 (fun H locs w10 hw hT k11 => ?_)
        have hF := hF.tr k11 (by decide)
        have c12 := k11.gi kC_at38 (by decide) c4
        have c13 := k11.gi kC_at38 (by decide) c5
        have c14 := k11.gi kC_at38 (by decide) c6
        have c15 := k11.gi kC_at38 (by decide) c7
        have c16 := k11.gi kC_at38 (by decide) c8
        refine lv_aload_n hx hb dX5_copyFrom_69 rfl (lv_at hl 1 rfl) ?_
        refine tk_getO hC hK hw hT hinX5 hkq1_ (by decide) rfl 4 (by decide) (List.mem_of_getElem? (i := 9) rfl) rfl rfl dX5_copyFrom_70 ?_
        refine lv_iconst (v := 0) hx hb dX5_copyFrom_73 (by decide) ?_
        refine lv_aload_n hx hb dX5_copyFrom_74 rfl (lv_at hl 0 rfl) ?_
        refine tk_getO hC hK hw hT hinX5 kC_at38 (by decide) rfl 4 (by decide) (List.mem_of_getElem? (i := 9) rfl) rfl rfl dX5_copyFrom_75 ?_
        refine lv_iconst (v := 0) hx hb dX5_copyFrom_78 (by decide) ?_
        refine lv_bipush (v := 6) hx hb dX5_copyFrom_79 (by decide) ?_
        refine tk_copy hC hK hw hT hl.1 (List.mem_of_getElem? (i := 3) rfl) (List.mem_of_getElem? (i := 4) rfl) (List.mem_of_getElem? (i := 5) rfl) (List.mem_of_getElem? (i := 6) rfl) (kC_5_13 hkq1_) kC_at51 (by decide) rfl rfl rfl rfl (by decide) (by decide) (by decide) (by decide) (by decide) (by decide) (by decide) (by decide) (Nat.le_of_ble_eq_true rfl) (by decide +kernel) dX5_copyFrom_81 (fun H locs w17 hw hT k18 => ?_)
        have hF := hF.tr k18 (by decide)
        have c19 := k18.gi kC_at38 (by decide) c12
        have c20 := k18.gi kC_at38 (by decide) c13
        have c21 := k18.gi kC_at38 (by decide) c14
        have c22 := k18.gi kC_at38 (by decide) c15
        have c23 := k18.gi kC_at38 (by decide) c16
        refine lv_aload_n hx hb dX5_copyFrom_84 rfl (lv_at hl 1 rfl) ?_
        refine tk_getO hC hK hw hT hinX5 hkq1_ (by decide) rfl 5 (by decide) (List.mem_of_getElem? (i := 10) rfl) rfl rfl dX5_copyFrom_85 ?_
        refine lv_iconst (v := 0) hx hb dX5_copyFrom_88 (by decide) ?_
        refine lv_aload_n hx hb dX5_copyFrom_89 rfl (lv_at hl 0 rfl) ?_
        refine tk_getO hC hK hw hT hinX5 kC_at38 (by decide) rfl 5 (by decide) (List.mem_of_getElem? (i := 10) rfl) rfl rfl dX5_copyFrom_90 ?_
        refine lv_iconst (v := 0) hx hb dX5_copyFrom_93 (by decide) ?_
        refine lv_bipush (v := 12) hx hb dX5_copyFrom_94 (by decide) ?_
        refine tk_copy hC hK hw hT hl.1 (List.mem_of_getElem? (i := 3) rfl) (List.mem_of_getElem? (i := 4) rfl) (List.mem_of_getElem? (i := 5) rfl) (List.mem_of_getElem? (i := 6) rfl) (kC_5_14 hkq1_) kC_at52 (by decide) rfl rfl rfl rfl (by decide) (by decide) (by decide) (by decide) (by decide) (by decide) (by decide) (by decide) (Nat.le_of_ble_eq_true rfl) (by decide +kernel) dX5_copyFrom_96 (fun H locs w24 hw hT k25 => ?_)
        have hF := hF.tr k25 (by decide)
        have c26 := k25.gi kC_at38 (by decide) c19
        have c27 := k25.gi kC_at38 (by decide) c20
        have c28 := k25.gi kC_at38 (by decide) c21
        have c29 := k25.gi kC_at38 (by decide) c22
        have c30 := k25.gi kC_at38 (by decide) c23
        refine lv_aload_n hx hb dX5_copyFrom_99 rfl (lv_at hl 1 rfl) ?_
        refine tk_getO hC hK hw hT hinX5 hkq1_ (by decide) rfl 6 (by decide) (List.mem_of_getElem? (i := 11) rfl) rfl rfl dX5_copyFrom_100 ?_
        refine lv_iconst (v := 0) hx hb dX5_copyFrom_103 (by decide) ?_
        refine lv_aload_n hx hb dX5_copyFrom_104 rfl (lv_at hl 0 rfl) ?_
        refine tk_getO hC hK hw hT hinX5 kC_at38 (by decide) rfl 6 (by decide) (List.mem_of_getElem? (i := 11) rfl) rfl rfl dX5_copyFrom_105 ?_
        refine lv_iconst (v := 0) hx hb dX5_copyFrom_108 (by decide) ?_
        refine lv_bipush (v := 12) hx hb dX5_copyFrom_109 (by decide) ?_
        refine tk_copy hC hK hw hT hl.1 (List.mem_of_getElem? (i := 3) rfl) (List.mem_of_getElem? (i := 4) rfl) (List.mem_of_getElem? (i := 5) rfl) (List.mem_of_getElem? (i := 6) rfl) (kC_5_15 hkq1_) kC_at53 (by decide) rfl rfl rfl rfl (by decide) (by decide) (by decide) (by decide) (by decide) (by decide) (by decide) (by decide) (Nat.le_of_ble_eq_true rfl) (by decide +kernel) dX5_copyFrom_111 (fun H locs w31 hw hT k32 => ?_)
        have hF := hF.tr k32 (by decide)
        have c33 := k32.gi kC_at38 (by decide) c26
        have c34 := k32.gi kC_at38 (by decide) c27
        have c35 := k32.gi kC_at38 (by decide) c28
        have c36 := k32.gi kC_at38 (by decide) c29
        have c37 := k32.gi kC_at38 (by decide) c30
        refine lv_aload_n hx hb dX5_copyFrom_114 rfl (lv_at hl 1 rfl) ?_
        refine tk_getO hC hK hw hT hinX5 hkq1_ (by decide) rfl 7 (by decide) (List.mem_of_getElem? (i := 12) rfl) rfl rfl dX5_copyFrom_115 ?_
        refine lv_iconst (v := 0) hx hb dX5_copyFrom_118 (by decide) ?_
        refine lv_aload_n hx hb dX5_copyFrom_119 rfl (lv_at hl 0 rfl) ?_
        refine tk_getO hC hK hw hT hinX5 kC_at38 (by decide) rfl 7 (by decide) (List.mem_of_getElem? (i := 12) rfl) rfl rfl dX5_copyFrom_120 ?_
        refine lv_iconst (v := 0) hx hb dX5_copyFrom_123 (by decide) ?_
        refine lv_bipush (v := 8) hx hb dX5_copyFrom_124 (by decide) ?_
        refine tk_copy hC hK hw hT hl.1 (List.mem_of_getElem? (i := 3) rfl) (List.mem_of_getElem? (i := 4) rfl) (List.mem_of_getElem? (i := 5) rfl) (List.mem_of_getElem? (i := 6) rfl) (kC_5_16 hkq1_) kC_at54 (by decide) rfl rfl rfl rfl (by decide) (by decide) (by decide) (by decide) (by decide) (by decide) (by decide) (by decide) (Nat.le_of_ble_eq_true rfl) (by decide +kernel) dX5_copyFrom_126 (fun H locs w38 hw hT k39 => ?_)
        have hF := hF.tr k39 (by decide)
        have c40 := k39.gi kC_at38 (by decide) c33
        have c41 := k39.gi kC_at38 (by decide) c34
        have c42 := k39.gi kC_at38 (by decide) c35
        have c43 := k39.gi kC_at38 (by decide) c36
        have c44 := k39.gi kC_at38 (by decide) c37
        refine lv_aload_n hx hb dX5_copyFrom_129 rfl (lv_at hl 0 rfl) ?_
        refine lv_aload_n hx hb dX5_copyFrom_130 rfl (lv_at hl 1 rfl) ?_
        refine tk_geti hC hK hw hT hinX5 hkq1_ (by decide) rfl 8 (by decide) (List.mem_of_getElem? (i := 13) rfl) rfl rfl dX5_copyFrom_131 (fun x45 c46 rx45 tx45 => ?_)
        refine tk_puti hC hK hw hT hinX5 tyX5_ok nmX5 kC_at38 (by decide) rfl rfl 8 (by decide) (List.mem_of_getElem? (i := 13) rfl) rfl rfl rfl rfl (show 0 ≤ x45.toInt by omega) (show x45.toInt ≤ 4 by omega) dX5_copyFrom_134 (fun H locs w47 hw hT k49 c48 => ?_)
        have hF := hF.put kC_at38 (k := 8) (by decide) k49
        have c50 := k49.gi (Or.inr (by decide)) c40
        have c51 := k49.gi (Or.inr (by decide)) c41
        have c52 := k49.gi (Or.inr (by decide)) c42
        have c53 := k49.gi (Or.inr (by decide)) c44
        refine lv_aload_n hx hb dX5_copyFrom_137 rfl (lv_at hl 0 rfl) ?_
        refine lv_aload_n hx hb dX5_copyFrom_138 rfl (lv_at hl 1 rfl) ?_
        refine tk_geti hC hK hw hT hinX5 hkq1_ (by decide) rfl 9 (by decide) (List.mem_of_getElem? (i := 14) rfl) rfl rfl dX5_copyFrom_139 (fun x54 c55 rx54 tx54 => ?_)
        refine tk_puti hC hK hw hT hinX5 tyX5_ok nmX5 kC_at38 (by decide) rfl rfl 9 (by decide) (List.mem_of_getElem? (i := 14) rfl) rfl rfl rfl rfl (show 0 ≤ x54.toInt by omega) (show x54.toInt ≤ 4 by omega) dX5_copyFrom_142 (fun H locs w56 hw hT k58 c57 => ?_)
        have hF := hF.put kC_at38 (k := 9) (by decide) k58
        have c59 := k58.gi (Or.inr (by decide)) c50
        have c60 := k58.gi (Or.inr (by decide)) c51
        have c61 := k58.gi (Or.inr (by decide)) c52
        have c62 := k58.gi (Or.inr (by decide)) c48
        refine lv_aload_n hx hb dX5_copyFrom_145 rfl (lv_at hl 0 rfl) ?_
        refine lv_aload_n hx hb dX5_copyFrom_146 rfl (lv_at hl 1 rfl) ?_
        refine tk_geti hC hK hw hT hinX5 hkq1_ (by decide) rfl 10 (by decide) (List.mem_of_getElem? (i := 15) rfl) rfl rfl dX5_copyFrom_147 (fun x63 c64 rx63 tx63 => ?_)
        refine tk_puti hC hK hw hT hinX5 tyX5_ok nmX5 kC_at38 (by decide) rfl rfl 10 (by decide) (List.mem_of_getElem? (i := 15) rfl) rfl rfl rfl rfl (show 0 ≤ x63.toInt by omega) (show x63.toInt ≤ 6 by omega) dX5_copyFrom_150 (fun H locs w65 hw hT k67 c66 => ?_)
        have hF := hF.put kC_at38 (k := 10) (by decide) k67
        have c68 := k67.gi (Or.inr (by decide)) c60
        have c69 := k67.gi (Or.inr (by decide)) c61
        have c70 := k67.gi (Or.inr (by decide)) c62
        have c71 := k67.gi (Or.inr (by decide)) c57
        refine lv_aload_n hx hb dX5_copyFrom_153 rfl (lv_at hl 0 rfl) ?_
        refine lv_aload_n hx hb dX5_copyFrom_154 rfl (lv_at hl 1 rfl) ?_
        refine tk_geti hC hK hw hT hinX5 hkq1_ (by decide) rfl 11 (by decide) (List.mem_of_getElem? (i := 16) rfl) rfl rfl dX5_copyFrom_155 (fun x72 c73 rx72 tx72 => ?_)
        refine tk_puti hC hK hw hT hinX5 tyX5_ok nmX5 kC_at38 (by decide) rfl rfl 11 (by decide) (List.mem_of_getElem? (i := 16) rfl) rfl rfl rfl rfl (show 0 ≤ x72.toInt by omega) (show x72.toInt ≤ 12 by omega) dX5_copyFrom_158 (fun H locs w74 hw hT k76 c75 => ?_)
        have hF := hF.put kC_at38 (k := 11) (by decide) k76
        have c77 := k76.gi (Or.inr (by decide)) c69
        have c78 := k76.gi (Or.inr (by decide)) c70
        have c79 := k76.gi (Or.inr (by decide)) c71
        have c80 := k76.gi (Or.inr (by decide)) c66
        refine lv_aload_n hx hb dX5_copyFrom_161 rfl (lv_at hl 0 rfl) ?_
        refine lv_aload_n hx hb dX5_copyFrom_162 rfl (lv_at hl 1 rfl) ?_
        refine tk_geti hC hK hw hT hinX5 hkq1_ (by decide) rfl 12 (by decide) (List.mem_of_getElem? (i := 17) rfl) rfl rfl dX5_copyFrom_163 (fun x81 c82 rx81 tx81 => ?_)
        refine tk_puti hC hK hw hT hinX5 tyX5_ok nmX5 kC_at38 (by decide) rfl rfl 12 (by decide) (List.mem_of_getElem? (i := 17) rfl) rfl rfl rfl rfl (show 0 ≤ x81.toInt by omega) (show x81.toInt ≤ 8 by omega) dX5_copyFrom_166 (fun H locs w83 hw hT k85 c84 => ?_)
        have hF := hF.put kC_at38 (k := 12) (by decide) k85
        have c86 := k85.gi (Or.inr (by decide)) c78
        have c87 := k85.gi (Or.inr (by decide)) c79
        have c88 := k85.gi (Or.inr (by decide)) c80
        have c89 := k85.gi (Or.inr (by decide)) c75
        refine lv_aload_n hx hb dX5_copyFrom_169 rfl (lv_at hl 0 rfl) ?_
        refine lv_aload_n hx hb dX5_copyFrom_170 rfl (lv_at hl 1 rfl) ?_
        refine tk_geti hC hK hw hT hinX5 hkq1_ (by decide) rfl 13 (by decide) (List.mem_of_getElem? (i := 18) rfl) rfl rfl dX5_copyFrom_171 (fun x90 c91 rx90 tx90 => ?_)
        refine tk_puti hC hK hw hT hinX5 tyX5_ok nmX5 kC_at38 (by decide) rfl rfl 13 (by decide) (List.mem_of_getElem? (i := 18) rfl) rfl rfl rfl rfl (show 0 ≤ x90.toInt by omega) (wk_i32 x90).2 dX5_copyFrom_174 (fun H locs w92 hw hT k94 c93 => ?_)
        have hF := hF.put kC_at38 (k := 13) (by decide) k94
        have c95 := k94.gi (Or.inr (by decide)) c86
        have c96 := k94.gi (Or.inr (by decide)) c87
        have c97 := k94.gi (Or.inr (by decide)) c88
        have c98 := k94.gi (Or.inr (by decide)) c89
        have c99 := k94.gi (Or.inr (by decide)) c84
        exact tk_vret hC hr hlocks hK ⟨hT, hF, trivial⟩ hw dX5_copyFrom_177
      · have c9 : v28_2.toInt < (4 : Int) := wk_leF c9
        refine lv_aload_n hx hb dX5_copyFrom_33 rfl (lv_at hl 0 rfl) ?_
        refine tk_getO hC hK hw hT hinX5 kC_at38 (by decide) rfl 2 (by decide) (List.mem_of_getElem? (i := 7) rfl) rfl rfl dX5_copyFrom_34 ?_
        refine lv_iload_n hx hb dX5_copyFrom_37 rfl (lv_at hl 2 rfl) ?_
        refine tk_aald hC hK hw hT kC_at49 rfl (by decide) rfl (show 0 ≤ v28_2.toInt by omega) (show v28_2.toInt < 4 by omega) dX5_copyFrom_38 (fun j100 hj100 gj100 => ?_)
        refine lv_aload_n hx hb dX5_copyFrom_39 rfl (lv_at hl 1 rfl) ?_
        refine tk_getO hC hK hw hT hinX5 hkq1_ (by decide) rfl 2 (by decide) (List.mem_of_getElem? (i := 7) rfl) rfl rfl dX5_copyFrom_40 ?_
        refine lv_iload_n hx hb dX5_copyFrom_43 rfl (lv_at hl 2 rfl) ?_
        refine tk_aald hC hK hw hT (kC_5_11 hkq1_) rfl (by decide) rfl (show 0 ≤ v28_2.toInt by omega) (show v28_2.toInt < 4 by omega) dX5_copyFrom_44 (fun j101 hj101 gj101 => ?_)
        refine tk_Vv hC hK hw hT hA hE hSR (kC_el33 kC_at49 hj100) (by decide) rfl (k_X9_copyFrom_2 l adK adV dC dI cy ad B (by omega) (by omega) qr s1   (el 33 49 j100) (kC_el33 kC_at49 hj100) (el 33 (q1_ + 11) j101) (kC_el33 (kC_5_11 hkq1_) hj101) w1 H.size hT ) (cwV 1 hC.2.2.2.2 gX5_copyFrom_X9_copyFrom rfl rfl rfl (by decide +kernel) ⟨Nat.le_of_ble_eq_true rfl, Nat.le_of_ble_eq_true rfl⟩) rfl hl.1 rfl (Nat.le_of_ble_eq_true rfl) dX5_copyFrom_45 (fun w104 H locs hp103 hw => ?_)
        obtain ⟨hT, k105, hg106⟩ := hp103
        have hF := hF.tr k105 (by decide)
        have c107 := k105.gi kC_at38 (by decide) c4
        have c108 := k105.gi kC_at38 (by decide) c5
        have c109 := k105.gi kC_at38 (by decide) c6
        have c110 := k105.gi kC_at38 (by decide) c7
        have c111 := k105.gi kC_at38 (by decide) c8
        clear hg106
        obtain ⟨x112, ex112⟩ : ∃ y : Int32, y = v28_2 + Int32.ofInt 1 := ⟨_, rfl⟩
        refine lv_iinc (v := x112) (lv' := [(2, .int x112), (0, .ref (ad 38)), (1, .ref (ad q1_))]) hx hb dX5_copyFrom_48 hl (k := 2) rfl ex112.symm (by decide) rfl (fun ls hl => ?_)
        have ex112 : x112.toInt = v28_2.toInt + 1 := by rw [ex112]; exact wk_add (y := 1) (show -2147483648 ≤ v28_2.toInt + 1 by omega) (show v28_2.toInt + 1 ≤ 2147483647 by omega)
        refine lv_goto (tgt := 28) hx hb dX5_copyFrom_51 (by decide) ?_
        exact ih28 x112 H locs ls w104 (show 0 ≤ x112.toInt by omega) (show x112.toInt ≤ 4 by omega) (show (4 - x112.toInt).toNat < n28 by omega) hw hT hF c107 c108 c109 c110 c111 (lv_sub hl [1, 2, 0] rfl)
  refine lv_aload_n hx hb dX5_copyFrom_0 rfl (lv_at hl 0 rfl) ?_
  refine lv_aload_n hx hb dX5_copyFrom_1 rfl (lv_at hl 1 rfl) ?_
  refine tk_getO hC hK hw hT hinX5 hkq1_ (by decide) rfl 0 (by decide) (List.mem_of_getElem? (i := 1) rfl) rfl rfl dX5_copyFrom_2 ?_
  refine tk_Vv hC hK hw hT hA hE hSR kC_at38 (by decide) rfl (k_X5_moveTo_2 l adK adV dC dI cy ad B (by omega) (by omega) qr s1   (q1_ + 1) (kC_5_1 hkq1_) w0 s.heap.size hT ) (cwV 1 hC.2.2.2.2 gX5_copyFrom_X5_moveTo rfl rfl rfl (by decide +kernel) ⟨Nat.le_of_ble_eq_true rfl, Nat.le_of_ble_eq_true rfl⟩) rfl hl.1 rfl (Nat.le_of_ble_eq_true rfl) dX5_copyFrom_5 (fun w115 H locs hp114 hw => ?_)
  obtain ⟨hT, k116, hg127⟩ := hp114
  have hF := hF.tr k116 (by decide)
  obtain ⟨⟨x117, c118, rx117, tx117⟩, ⟨x119, c120, rx119, tx119⟩, ⟨x121, c122, rx121, tx121⟩, ⟨x123, c124, rx123, tx123⟩, ⟨x125, c126, rx125, tx125⟩⟩ := hg127
  refine lv_aload_n hx hb dX5_copyFrom_8 rfl (lv_at hl 1 rfl) ?_
  refine tk_getO hC hK hw hT hinX5 hkq1_ (by decide) rfl 1 (by decide) (List.mem_of_getElem? (i := 2) rfl) rfl rfl dX5_copyFrom_9 ?_
  refine lv_iconst (v := 0) hx hb dX5_copyFrom_12 (by decide) ?_
  refine lv_aload_n hx hb dX5_copyFrom_13 rfl (lv_at hl 0 rfl) ?_
  refine tk_getO hC hK hw hT hinX5 kC_at38 (by decide) rfl 1 (by decide) (List.mem_of_getElem? (i := 2) rfl) rfl rfl dX5_copyFrom_14 ?_
  refine lv_iconst (v := 0) hx hb dX5_copyFrom_17 (by decide) ?_
  refine lv_aload_n hx hb dX5_copyFrom_18 rfl (lv_at hl 0 rfl) ?_
  refine tk_getO hC hK hw hT hinX5 kC_at38 (by decide) rfl 1 (by decide) (List.mem_of_getElem? (i := 2) rfl) rfl rfl dX5_copyFrom_19 ?_
  refine tk_alen (v := 48) hC hK hw hT kC_at48 rfl (by decide) rfl (by decide) dX5_copyFrom_22 ?_
  refine tk_copy hC hK hw hT hl.1 (List.mem_of_getElem? (i := 3) rfl) (List.mem_of_getElem? (i := 4) rfl) (List.mem_of_getElem? (i := 5) rfl) (List.mem_of_getElem? (i := 6) rfl) (kC_5_10 hkq1_) kC_at48 (by decide) rfl rfl rfl rfl (by decide) (by decide) (by decide) (by decide) (by decide) (by decide) (by decide) (by decide) (Nat.le_of_ble_eq_true rfl) (by decide +kernel) dX5_copyFrom_23 (fun H locs w128 hw hT k129 => ?_)
  have hF := hF.tr k129 (by decide)
  have c130 := k129.gi kC_at38 (by decide) c118
  have c131 := k129.gi kC_at38 (by decide) c120
  have c132 := k129.gi kC_at38 (by decide) c122
  have c133 := k129.gi kC_at38 (by decide) c124
  have c134 := k129.gi kC_at38 (by decide) c126
  refine lv_iconst (v := 0) hx hb dX5_copyFrom_26 (by decide) ?_
  refine lv_istore_n (lv' := [(2, .int 0), (0, .ref (ad 38)), (1, .ref (ad q1_))]) hx hb dX5_copyFrom_27 rfl hl (by decide) rfl (fun ls hl => ?_)
  obtain rfl : x121 = 0 := wk_eq.mpr (show x121.toInt = 0 by omega)
  obtain rfl : x123 = 0 := wk_eq.mpr (show x123.toInt = 0 by omega)
  obtain rfl : x125 = 0 := wk_eq.mpr (show x125.toInt = 0 by omega)
  obtain rfl : x117 = 0 := wk_eq.mpr (show x117.toInt = 0 by omega)
  obtain rfl : x119 = 0 := wk_eq.mpr (show x119.toInt = 0 by omega)
  exact L28 ((4 - (0 : Int)).toNat + 1) 0 H locs ls w128 (by decide) (by decide) (Nat.lt_succ_self _) hw hT hF c132 c133 c134 c130 c131 (lv_sub hl [1, 2, 0] rfl)
abbrev P_X0_forgetAll_1 (ad : Nat → Nat) (cy : Nat → ClassId) (B : Int) (qr : Nat) (s1 : Int)  (w0 : va_W) : va_W → Prop := fun u => TW ksC ad cy B qr s1 u ∧ FE ksC [(44, 0, 11)] w0 u ∧ ((True))
set_option maxHeartbeats 4000000 in
set_option maxRecDepth 100000 in
theorem k_X0_forgetAll_1 (l : Launch) (adK adV : Nat → Nat) (dC : Nat → ClassId) (dI : Nat → Nat → Nat) (cy : Nat → ClassId) (ad : Nat → Nat) (B : Int) (hB0 : 2147483648 ≤ B) (hB1 : B ≤ 1152921504606846976) (qr : Nat) (s1 : Int)   (w0 : va_W) (sz : Nat) (hT : TW ksC ad cy B qr s1 w0)  : Met l yX0_forgetAll wsX0_forgetAll ({ frames := 1, cells := 0, slots := 0, locals := 12 }) (va_Pc [.ref (ad 145)] (wpreS adK adV dC dI cy sz w0)) (va_Qv (P_X0_forgetAll_1 ad cy B qr s1  w0) (fun u : va_W => wpost dC dI cy (va_A w0 sz) u) (va_A w0 sz)) 0 0 (va_A w0 sz) := by
  refine Met.ofW (cc := cX0_forgetAll) (maxL := 2) (ret := none) (by decide) rfl ?_
  intro p e s m args below meth c s₁ Bk hml hv
  obtain ⟨rfl, ⟨hsz, hP, hK, hD0⟩, hE, hSR⟩ := hv
  have hx := Bk.exec
  have hb := Bk.bytes
  have hr := Bk.returns
  have hlocks := Bk.notSynchronized
  have hC : CallFix p m c cX0_forgetAll 2 s _ wsX0_forgetAll RX0 := ⟨hx, hb, hml, findClass_of_methodNamed Bk.named, atoms_spec (ws := wsX0_forgetAll) Bk.pre⟩
  subst hsz
  have hD := hD0.self (sz := s.heap.size)
  generalize hAe : va_A w0 s.heap.size = A at hD hE ⊢
  have hA : ∀ q : Nat, s.heap.size ≤ q → A q := fun q h => by rw [← hAe]; exact Or.inr h
  have hw : Wd dC dI A s.heap s.heap [] w0 := ⟨hP, hD, va_S.rf⟩
  have hF : FE ksC [(44, 0, 11)] w0 w0 := FE.rf
  have hl := lv_entry ([.ref (ad 145)]) (n := 2) (Nat.le_of_ble_eq_true rfl)
  rw [lg_entry_eq]
  generalize (lg_sl ([.ref (ad 145)]) ++ List.replicate (2 - (lg_sl ([.ref (ad 145)])).length) Slot.unset).toArray = ls at hl ⊢
  have hl : lv_has ls 2 [(0, .ref (ad 145))] := hl
  generalize hloc : ([] : List Loc) = locs at hw ⊢
  have hinX0 : ∀ w ∈ u_ws RX0 TX0 4, w ∈ wsX0_forgetAll := fun _ h => List.mem_cons_of_mem _ (List.mem_append_right _ (h))
  have L2 : ∀ (n2 : Nat) (v2_1 : Int32) (H : Heap) (locs : List Loc) (ls : Array Slot) (w1 : va_W), 0 ≤ v2_1.toInt → v2_1.toInt ≤ 11 → (11 - v2_1.toInt).toNat < n2 → Wd dC dI A s.heap H locs w1 → TW ksC ad cy B qr s1 w1 → FE ksC [(44, 0, 11)] w0 w1 → lv_has ls 2 [(0, .ref (ad 145)), (1, .int v2_1)] → W p l e ({ frames := 1, cells := 0, slots := 0, locals := 12 }) s m (List.toArray [.ref (ad 145)]) below meth c H locs 0 0 (MQ below (va_Qv (P_X0_forgetAll_1 ad cy B qr s1  w0) (fun u : va_W => wpost dC dI cy A u) A) (List.toArray [.ref (ad 145)]) s 0 0 A) (F0 m 2 ls []) := by
    intro n2
    induction n2 with
    | zero => intro v2_1 H locs ls w1 r2 t3 hm2 hw hT hF hl; omega
    | succ n2 ih2 =>
      intro v2_1 H locs ls w1 r2 t3 hm2 hw hT hF hl
      refine lv_iload_n hx hb dX0_forgetAll_2 rfl (lv_at hl 1 rfl) ?_
      refine lv_bipush (v := 11) hx hb dX0_forgetAll_3 (by decide) ?_
      refine lv_icmp_ge (tgt := 21) hx hb dX0_forgetAll_5 (by decide) (fun c4 => ?_) (fun c4 => ?_)
      · have c4 : (11 : Int) ≤ v2_1.toInt := wk_le.mp c4
        exact tk_vret hC hr hlocks hK ⟨hT, hF, trivial⟩ hw dX0_forgetAll_21
      · have c4 : v2_1.toInt < (11 : Int) := wk_leF c4
        refine lv_aload_n hx hb dX0_forgetAll_8 rfl (lv_at hl 0 rfl) ?_
        refine tk_getA hC hK hw hT hinX0 kC_at145 (by decide) rfl 3 (by decide) (List.mem_of_getElem? (i := 1) rfl) rfl rfl dX0_forgetAll_9 ?_
        refine lv_iload_n hx hb dX0_forgetAll_12 rfl (lv_at hl 1 rfl) ?_
        refine lv_iconst (v := 0) hx hb dX0_forgetAll_13 (by decide) ?_
        refine tk_zast hC hK hw hT kC_at148 (by decide) rfl rfl (show 0 ≤ v2_1.toInt by omega) (show v2_1.toInt < 11 by omega) (by decide) (by decide) dX0_forgetAll_14 (fun H locs w5 hw hT k7 c6 => ?_)
        have hF := hF.put kC_at148 (inE_of (a := 0) (b := 11) (by decide) (show 0 ≤ v2_1.toInt.toNat by omega) (show v2_1.toInt.toNat ≤ 11 by omega)) k7
        obtain ⟨x8, ex8⟩ : ∃ y : Int32, y = v2_1 + Int32.ofInt 1 := ⟨_, rfl⟩
        refine lv_iinc (v := x8) (lv' := [(1, .int x8), (0, .ref (ad 145))]) hx hb dX0_forgetAll_15 hl (k := 1) rfl ex8.symm (by decide) rfl (fun ls hl => ?_)
        have ex8 : x8.toInt = v2_1.toInt + 1 := by rw [ex8]; exact wk_add (y := 1) (show -2147483648 ≤ v2_1.toInt + 1 by omega) (show v2_1.toInt + 1 ≤ 2147483647 by omega)
        refine lv_goto (tgt := 2) hx hb dX0_forgetAll_18 (by decide) ?_
        exact ih2 x8 H locs ls w5 (show 0 ≤ x8.toInt by omega) (show x8.toInt ≤ 11 by omega) (show (11 - x8.toInt).toNat < n2 by omega) hw hT hF  (lv_sub hl [1, 0] rfl)
  refine lv_iconst (v := 0) hx hb dX0_forgetAll_0 (by decide) ?_
  refine lv_istore_n (lv' := [(1, .int 0), (0, .ref (ad 145))]) hx hb dX0_forgetAll_1 rfl hl (by decide) rfl (fun ls hl => ?_)
  exact L2 ((11 - (0 : Int)).toNat + 1) 0 s.heap locs ls w0 (by decide) (by decide) (Nat.lt_succ_self _) hw hT hF  (lv_sub hl [1, 0] rfl)
abbrev P_X11_back_1 (ad : Nat → Nat) (cy : Nat → ClassId) (B : Int) (qr : Nat) (s1 : Int) (a1 : Int32) (w0 : va_W) : Int32 → va_W → Prop := fun r u => TW ksC ad cy B qr s1 u ∧ FE ksC [(5, 8, 8), (5, 9, 9), (5, 10, 10), (5, 11, 11), (5, 12, 12), (5, 13, 13), (7, 8, 8), (7, 9, 9), (7, 10, 10), (7, 11, 11), (9, 0, 0), (9, 1, 1), (9, 2, 2), (9, 3, 3), (9, 4, 4), (9, 5, 5), (9, 6, 6), (9, 7, 7), (9, 8, 8), (24, 0, 100000), (25, 0, 100000), (26, 0, 100000), (27, 0, 100000), (28, 0, 100000), (29, 0, 100000), (30, 0, 100000), (31, 0, 100000), (32, 0, 100000), (34, 0, 100000), (35, 0, 100000), (36, 0, 100000), (37, 0, 100000), (38, 0, 100000), (44, 0, 11)] w0 u ∧ ((0 ≤ r.toInt ∧ r.toInt ≤ 4 ∧ 0 ≤ a1.toInt ∧ a1.toInt ≤ 3) ∨ (r = (-1)))
set_option maxHeartbeats 4000000 in
set_option maxRecDepth 100000 in
theorem k_X11_back_1 (l : Launch) (adK adV : Nat → Nat) (dC : Nat → ClassId) (dI : Nat → Nat → Nat) (cy : Nat → ClassId) (ad : Nat → Nat) (B : Int) (hB0 : 2147483648 ≤ B) (hB1 : B ≤ 1152921504606846976) (qr : Nat) (s1 : Int)  (a1 : Int32) (w0 : va_W) (sz : Nat) (hT : TW ksC ad cy B qr s1 w0)  : Met l yX11_back wsX11_back ({ frames := 4, cells := 0, slots := 0, locals := 124 }) (va_Pc [.ref (ad 0), .int a1] (wpreS adK adV dC dI cy sz w0)) (va_Qi (P_X11_back_1 ad cy B qr s1 a1 w0) (fun u : va_W => wpost dC dI cy (va_A w0 sz) u) (va_A w0 sz)) 0 0 (va_A w0 sz) := by
  refine Met.ofW (cc := cX11_back) (maxL := 2) (ret := (some .int)) (by decide) rfl ?_
  intro p e s m args below meth c s₁ Bk hml hv
  obtain ⟨rfl, ⟨hsz, hP, hK, hD0⟩, hE, hSR⟩ := hv
  have hx := Bk.exec
  have hb := Bk.bytes
  have hr := Bk.returns
  have hlocks := Bk.notSynchronized
  have hC : CallFix p m c cX11_back 2 s _ wsX11_back RX11 := ⟨hx, hb, hml, findClass_of_methodNamed Bk.named, atoms_spec (ws := wsX11_back) Bk.pre⟩
  subst hsz
  have hD := hD0.self (sz := s.heap.size)
  generalize hAe : va_A w0 s.heap.size = A at hD hE ⊢
  have hA : ∀ q : Nat, s.heap.size ≤ q → A q := fun q h => by rw [← hAe]; exact Or.inr h
  have hw : Wd dC dI A s.heap s.heap [] w0 := ⟨hP, hD, va_S.rf⟩
  have hF : FE ksC [(5, 8, 8), (5, 9, 9), (5, 10, 10), (5, 11, 11), (5, 12, 12), (5, 13, 13), (7, 8, 8), (7, 9, 9), (7, 10, 10), (7, 11, 11), (9, 0, 0), (9, 1, 1), (9, 2, 2), (9, 3, 3), (9, 4, 4), (9, 5, 5), (9, 6, 6), (9, 7, 7), (9, 8, 8), (24, 0, 100000), (25, 0, 100000), (26, 0, 100000), (27, 0, 100000), (28, 0, 100000), (29, 0, 100000), (30, 0, 100000), (31, 0, 100000), (32, 0, 100000), (34, 0, 100000), (35, 0, 100000), (36, 0, 100000), (37, 0, 100000), (38, 0, 100000), (44, 0, 11)] w0 w0 := FE.rf
  have hl := lv_entry ([.ref (ad 0), .int a1]) (n := 2) (Nat.le_of_ble_eq_true rfl)
  rw [lg_entry_eq]
  generalize (lg_sl ([.ref (ad 0), .int a1]) ++ List.replicate (2 - (lg_sl ([.ref (ad 0), .int a1])).length) Slot.unset).toArray = ls at hl ⊢
  have hl : lv_has ls 2 [(0, .ref (ad 0)), (1, .int a1)] := hl
  generalize hloc : ([] : List Loc) = locs at hw ⊢
  have hinX11 : ∀ w ∈ u_ws RX11 TX11 13, w ∈ wsX11_back := fun _ h => List.mem_cons_of_mem _ (List.mem_append_left _ (List.mem_append_left _ (List.mem_append_left _ (List.mem_append_left _ (List.mem_append_right _ (h))))))
  have hinX5 : ∀ w ∈ u_ws RX5 TX5 14, w ∈ wsX11_back := fun _ h => List.mem_cons_of_mem _ (List.mem_append_left _ (List.mem_append_left _ (List.mem_append_left _ (List.mem_append_right _ (h)))))
  have J18 : ∀ (H : Heap) (locs : List Loc) (ls : Array Slot) (w1 : va_W), Wd dC dI A s.heap H locs w1 → TW ksC ad cy B qr s1 w1 → FE ksC [(5, 8, 8), (5, 9, 9), (5, 10, 10), (5, 11, 11), (5, 12, 12), (5, 13, 13), (7, 8, 8), (7, 9, 9), (7, 10, 10), (7, 11, 11), (9, 0, 0), (9, 1, 1), (9, 2, 2), (9, 3, 3), (9, 4, 4), (9, 5, 5), (9, 6, 6), (9, 7, 7), (9, 8, 8), (24, 0, 100000), (25, 0, 100000), (26, 0, 100000), (27, 0, 100000), (28, 0, 100000), (29, 0, 100000), (30, 0, 100000), (31, 0, 100000), (32, 0, 100000), (34, 0, 100000), (35, 0, 100000), (36, 0, 100000), (37, 0, 100000), (38, 0, 100000), (44, 0, 11)] w0 w1 → lv_has ls 2 [(0, .ref (ad 0)), (1, .int a1)] → W p l e ({ frames := 4, cells := 0, slots := 0, locals := 124 }) s m (List.toArray [.ref (ad 0), .int a1]) below meth c H locs 0 0 (MQ below (va_Qi (P_X11_back_1 ad cy B qr s1 a1 w0) (fun u : va_W => wpost dC dI cy A u) A) (List.toArray [.ref (ad 0), .int a1]) s 0 0 A) (F0 m 18 ls []) := by
    intro H locs ls w1 hw hT hF hl
    refine lv_iconst (v := (-1)) hx hb dX11_back_18 (by decide) ?_
    exact tk_iret hC hr hlocks hK ⟨hT, hF, (Or.inr rfl)⟩ hw dX11_back_19
  refine lv_iload_n hx hb dX11_back_0 rfl (lv_at hl 1 rfl) ?_
  refine lv_if_lt (tgt := 18) hx hb dX11_back_1 (by decide) (fun c2 => ?_) (fun c2 => ?_)
  · have c2 : a1.toInt < (0 : Int) := wk_lt.mp c2
    exact J18  s.heap locs ls w0   hw hT hF  (lv_sub hl [0, 1] rfl)
  · have c2 : (0 : Int) ≤ a1.toInt := wk_ltF c2
    refine lv_iload_n hx hb dX11_back_4 rfl (lv_at hl 1 rfl) ?_
    refine lv_iconst (v := 4) hx hb dX11_back_5 (by decide) ?_
    refine lv_icmp_ge (tgt := 18) hx hb dX11_back_6 (by decide) (fun c3 => ?_) (fun c3 => ?_)
    · have c3 : (4 : Int) ≤ a1.toInt := wk_le.mp c3
      exact J18  s.heap locs ls w0   hw hT hF  (lv_sub hl [0, 1] rfl)
    · have c3 : a1.toInt < (4 : Int) := wk_leF c3
      refine lv_aload_n hx hb dX11_back_9 rfl (lv_at hl 0 rfl) ?_
      refine tk_getA hC hK hw hT hinX11 kC_at0 (by decide) rfl 6 (by decide) (List.mem_of_getElem? (i := 1) rfl) rfl rfl dX11_back_10 ?_
      refine lv_iload_n hx hb dX11_back_13 rfl (lv_at hl 1 rfl) ?_
      refine tk_zald hC hK hw hT kC_at144 rfl rfl (show 0 ≤ a1.toInt by omega) (show a1.toInt < 4 by omega) dX11_back_14 (fun x4 c5 rx4 tx4 => ?_)
      refine lv_if_ne (tgt := 20) hx hb dX11_back_15 (by decide) (fun c6 => ?_) (fun c6 => ?_)
      · have c6 : ¬ x4.toInt = (0 : Int) := wk_eqF c6
        refine lv_aload_n hx hb dX11_back_20 rfl (lv_at hl 0 rfl) ?_
        refine tk_getA hC hK hw hT hinX11 kC_at0 (by decide) rfl 4 (by decide) (List.mem_of_getElem? (i := 2) rfl) rfl rfl dX11_back_21 ?_
        refine lv_aload_n hx hb dX11_back_24 rfl (lv_at hl 0 rfl) ?_
        refine tk_getA hC hK hw hT hinX11 kC_at0 (by decide) rfl 5 (by decide) (List.mem_of_getElem? (i := 3) rfl) rfl rfl dX11_back_25 ?_
        refine lv_iload_n hx hb dX11_back_28 rfl (lv_at hl 1 rfl) ?_
        refine tk_aald hC hK hw hT kC_at59 rfl (by decide) rfl (show 0 ≤ a1.toInt by omega) (show a1.toInt < 4 by omega) dX11_back_29 (fun j7 hj7 gj7 => ?_)
        refine tk_Vv hC hK hw hT hA hE hSR kC_at38 (by decide) rfl (k_X5_copyFrom_2 l adK adV dC dI cy ad B (by omega) (by omega) qr s1   (el 40 59 j7) (kC_el40 kC_at59 hj7) w0 s.heap.size hT ) (cwV 1 hC.2.2.2.2 gX11_back_X5_copyFrom rfl rfl rfl (by decide +kernel) ⟨Nat.le_of_ble_eq_true rfl, Nat.le_of_ble_eq_true rfl⟩) rfl hl.1 rfl (Nat.le_of_ble_eq_true rfl) dX11_back_30 (fun w10 H locs hp9 hw => ?_)
        obtain ⟨hT, k11, hg12⟩ := hp9
        have hF := hF.tr k11 (by decide)
        clear hg12
        refine lv_aload_n hx hb dX11_back_33 rfl (lv_at hl 0 rfl) ?_
        refine tk_getA hC hK hw hT hinX11 kC_at0 (by decide) rfl 7 (by decide) (List.mem_of_getElem? (i := 4) rfl) rfl rfl dX11_back_34 ?_
        refine tk_Vv hC hK hw hT hA hE hSR kC_at145 (by decide) rfl (k_X0_forgetAll_1 l adK adV dC dI cy ad B (by omega) (by omega) qr s1    w10 H.size hT ) (cwV 0 hC.2.2.2.2 gX11_back_X0_forgetAll rfl rfl rfl (by decide +kernel) ⟨Nat.le_of_ble_eq_true rfl, Nat.le_of_ble_eq_true rfl⟩) rfl hl.1 rfl (Nat.le_of_ble_eq_true rfl) dX11_back_37 (fun w15 H locs hp14 hw => ?_)
        obtain ⟨hT, k16, hg17⟩ := hp14
        have hF := hF.tr k16 (by decide)
        clear hg17
        refine lv_aload_n hx hb dX11_back_40 rfl (lv_at hl 0 rfl) ?_
        refine tk_getA hC hK hw hT hinX11 kC_at0 (by decide) rfl 4 (by decide) (List.mem_of_getElem? (i := 2) rfl) rfl rfl dX11_back_41 ?_
        refine tk_geti hC hK hw hT hinX5 kC_at38 (by decide) rfl 9 (by decide) (List.mem_of_getElem? (i := 5) rfl) rfl rfl dX11_back_44 (fun x18 c19 rx18 tx18 => ?_)
        exact tk_iret hC hr hlocks hK ⟨hT, hF, (Or.inl ⟨(show 0 ≤ x18.toInt by omega), (show x18.toInt ≤ 4 by omega), (show 0 ≤ a1.toInt by omega), (show a1.toInt ≤ 3 by omega)⟩)⟩ hw dX11_back_47
      · have c6 : x4.toInt = (0 : Int) := wk_eq.mp c6
        exact J18  s.heap locs ls w0   hw hT hF  (lv_sub hl [0, 1] rfl)
