abbrev P_X3_readTest_3 (ad : Nat → Nat) (cy : Nat → ClassId) (B : Int) (qr : Nat) (s1 : Int)  (w0 : va_W) : va_W → Prop := fun u => TW ksC ad cy B qr s1 u ∧ FE ksC [(2, 3, 3), (3, 2, 2), (6, 1, 1), (6, 3, 3), (6, 4, 4), (22, 0, 13), (23, 0, 400)] w0 u ∧ (((∃ y : Int32, gi u 1 4 = y ∧ 0 ≤ y.toInt ∧ y.toInt ≤ 3204)))
set_option maxHeartbeats 4000000 in
set_option maxRecDepth 100000 in
theorem k_X3_readTest_3 (l : Launch) (adK adV : Nat → Nat) (dC : Nat → ClassId) (dI : Nat → Nat → Nat) (cy : Nat → ClassId) (ad : Nat → Nat) (B : Int) (hB0 : 2147483648 ≤ B) (hB1 : B ≤ 1152921504606846976) (qr : Nat) (s1 : Int) (hqr : ksC[qr]? = some 2)  (w0 : va_W) (sz : Nat) (hT : TW ksC ad cy B qr s1 w0) (cf0_ : gi w0 1 4 = 0) : Met l yX3_readTest wsX3_readTest ({ frames := 25, cells := 0, slots := 0, locals := 611 }) (va_Pc [.ref (ad 3), .int 2] (wpreS adK adV dC dI cy sz w0)) (va_Qv (P_X3_readTest_3 ad cy B qr s1  w0) (fun u : va_W => wpost dC dI cy (va_A w0 sz) u) (va_A w0 sz)) 0 0 (va_A w0 sz) := by
  refine Met.ofW (cc := cX3_readTest) (maxL := 4) (ret := none) (by decide) rfl ?_
  intro p e s m args below meth c s₁ Bk hml hv
  obtain ⟨rfl, ⟨hsz, hP, hK, hD0⟩, hE, hSR⟩ := hv
  have hx := Bk.exec
  have hb := Bk.bytes
  have hr := Bk.returns
  have hlocks := Bk.notSynchronized
  have hC : CallFix p m c cX3_readTest 4 s _ wsX3_readTest RX3 := ⟨hx, hb, hml, findClass_of_methodNamed Bk.named, atoms_spec (ws := wsX3_readTest) Bk.pre⟩
  subst hsz
  have hD := hD0.self (sz := s.heap.size)
  generalize hAe : va_A w0 s.heap.size = A at hD hE ⊢
  have hA : ∀ q : Nat, s.heap.size ≤ q → A q := fun q h => by rw [← hAe]; exact Or.inr h
  have hw : Wd dC dI A s.heap s.heap [] w0 := ⟨hP, hD, va_S.rf⟩
  have hF : FE ksC [(2, 3, 3), (3, 2, 2), (6, 1, 1), (6, 3, 3), (6, 4, 4), (22, 0, 13), (23, 0, 400)] w0 w0 := FE.rf
  have hl := lv_entry ([.ref (ad 3), .int 2]) (n := 4) (Nat.le_of_ble_eq_true rfl)
  rw [lg_entry_eq]
  generalize (lg_sl ([.ref (ad 3), .int 2]) ++ List.replicate (4 - (lg_sl ([.ref (ad 3), .int 2])).length) Slot.unset).toArray = ls at hl ⊢
  have hl : lv_has ls 4 [(0, .ref (ad 3)), (1, .int 2)] := hl
  generalize hloc : ([] : List Loc) = locs at hw ⊢
  have hinX3 : ∀ w ∈ u_ws RX3 TX3 3, w ∈ wsX3_readTest := fun _ h => List.mem_cons_of_mem _ (List.mem_append_left _ (List.mem_append_left _ (List.mem_append_right _ (h))))
  have J86 : ∀ (v86_2 : Int32) (v86_3 : Int32) (f86_1_4 : Int32) (H : Heap) (locs : List Loc) (ls : Array Slot) (w1 : va_W), (-1) ≤ v86_2.toInt → v86_2.toInt ≤ 21 → 0 ≤ v86_3.toInt → v86_3.toInt ≤ 400 → 0 ≤ f86_1_4.toInt → f86_1_4.toInt ≤ 3204 → Wd dC dI A s.heap H locs w1 → TW ksC ad cy B qr s1 w1 → FE ksC [(2, 3, 3), (3, 2, 2), (6, 1, 1), (6, 3, 3), (6, 4, 4), (22, 0, 13), (23, 0, 400)] w0 w1 → gi w1 1 4 = f86_1_4 → lv_has ls 4 [(0, .ref (ad 3)), (1, .int 2), (2, .int v86_2), (3, .int v86_3)] → W p l e ({ frames := 25, cells := 0, slots := 0, locals := 611 }) s m (List.toArray [.ref (ad 3), .int 2]) below meth c H locs 0 0 (MQ below (va_Qv (P_X3_readTest_3 ad cy B qr s1  w0) (fun u : va_W => wpost dC dI cy A u) A) (List.toArray [.ref (ad 3), .int 2]) s 0 0 A) (F0 m 86 ls []) := by
    intro v86_2 v86_3 f86_1_4 H locs ls w1 r2 t3 r4 t5 r6 t7 hw hT hF c8 hl
    refine lv_aload_n hx hb dX3_readTest_86 rfl (lv_at hl 0 rfl) ?_
    refine lv_iload_n hx hb dX3_readTest_87 rfl (lv_at hl 2 rfl) ?_
    refine tk_Vv hC hK hw hT hA hE hSR kC_at3 (by decide) rfl (k_X3_addWaiting_1 l adK adV dC dI cy ad B (by omega) (by omega) qr s1 hqr  v86_2 (show (-1) ≤ v86_2.toInt by omega) (show v86_2.toInt ≤ 21 by omega) w1 H.size hT ) (cwV 1 hC.2.2.2.2 gX3_readTest_X3_addWaiting rfl rfl rfl (by decide +kernel) ⟨Nat.le_of_ble_eq_true rfl, Nat.le_of_ble_eq_true rfl⟩) rfl hl.1 rfl (Nat.le_of_ble_eq_true rfl) dX3_readTest_88 (fun w11 H locs hp10 hw => ?_)
    obtain ⟨hT, k12, hg13⟩ := hp10
    have hF := hF.tr k12 (by decide)
    have c14 := k12.gi kC_at1 (by decide) c8
    clear hg13
    exact tk_vret hC hr hlocks hK ⟨hT, hF, ⟨f86_1_4, c14, (show 0 ≤ f86_1_4.toInt by omega), (show f86_1_4.toInt ≤ 3204 by omega)⟩⟩ hw dX3_readTest_91
  have L9 : ∀ (n9 : Nat) (v9_2 : Int32) (v9_3 : Int32) (f9_1_4 : Int32) (H : Heap) (locs : List Loc) (ls : Array Slot) (w15 : va_W), (-1) ≤ v9_2.toInt → v9_2.toInt ≤ 21 → 0 ≤ v9_3.toInt → v9_3.toInt ≤ 400 → 0 ≤ f9_1_4.toInt → f9_1_4.toInt ≤ 3204 → (400 - v9_3.toInt).toNat < n9 → Wd dC dI A s.heap H locs w15 → TW ksC ad cy B qr s1 w15 → FE ksC [(2, 3, 3), (3, 2, 2), (6, 1, 1), (6, 3, 3), (6, 4, 4), (22, 0, 13), (23, 0, 400)] w0 w15 → gi w15 1 4 = f9_1_4 → lv_has ls 4 [(0, .ref (ad 3)), (1, .int 2), (2, .int v9_2), (3, .int v9_3)] → W p l e ({ frames := 25, cells := 0, slots := 0, locals := 611 }) s m (List.toArray [.ref (ad 3), .int 2]) below meth c H locs 0 0 (MQ below (va_Qv (P_X3_readTest_3 ad cy B qr s1  w0) (fun u : va_W => wpost dC dI cy A u) A) (List.toArray [.ref (ad 3), .int 2]) s 0 0 A) (F0 m 9 ls []) := by
    intro n9
    induction n9 with
    | zero => intro v9_2 v9_3 f9_1_4 H locs ls w15 r16 t17 r18 t19 r20 t21 hm9 hw hT hF c22 hl; omega
    | succ n9 ih9 =>
      intro v9_2 v9_3 f9_1_4 H locs ls w15 r16 t17 r18 t19 r20 t21 hm9 hw hT hF c22 hl
      have J80 : ∀ (v80_2 : Int32) (f80_1_4 : Int32) (H : Heap) (locs : List Loc) (ls : Array Slot) (w23 : va_W), (-1) ≤ v80_2.toInt → v80_2.toInt ≤ 21 → 0 ≤ v9_3.toInt → v9_3.toInt ≤ 399 → 0 ≤ f80_1_4.toInt → f80_1_4.toInt ≤ 3204 → Wd dC dI A s.heap H locs w23 → TW ksC ad cy B qr s1 w23 → FE ksC [(2, 3, 3), (3, 2, 2), (6, 1, 1), (6, 3, 3), (6, 4, 4), (22, 0, 13), (23, 0, 400)] w0 w23 → gi w23 1 4 = f80_1_4 → lv_has ls 4 [(0, .ref (ad 3)), (1, .int 2), (2, .int v80_2), (3, .int v9_3)] → W p l e ({ frames := 25, cells := 0, slots := 0, locals := 611 }) s m (List.toArray [.ref (ad 3), .int 2]) below meth c H locs 0 0 (MQ below (va_Qv (P_X3_readTest_3 ad cy B qr s1  w0) (fun u : va_W => wpost dC dI cy A u) A) (List.toArray [.ref (ad 3), .int 2]) s 0 0 A) (F0 m 80 ls []) := by
        intro v80_2 f80_1_4 H locs ls w23 r24 t25 r26 t27 r28 t29 hw hT hF c30 hl
        obtain ⟨x31, ex31⟩ : ∃ y : Int32, y = v9_3 + Int32.ofInt 1 := ⟨_, rfl⟩
        refine lv_iinc (v := x31) (lv' := [(3, .int x31), (0, .ref (ad 3)), (1, .int 2), (2, .int v80_2)]) hx hb dX3_readTest_80 hl (k := 3) rfl ex31.symm (by decide) rfl (fun ls hl => ?_)
        have ex31 : x31.toInt = v9_3.toInt + 1 := by rw [ex31]; exact wk_add (y := 1) (show -2147483648 ≤ v9_3.toInt + 1 by omega) (show v9_3.toInt + 1 ≤ 2147483647 by omega)
        refine lv_goto (tgt := 9) hx hb dX3_readTest_83 (by decide) ?_
        exact ih9 v80_2 x31 f80_1_4 H locs ls w23 (show (-1) ≤ v80_2.toInt by omega) (show v80_2.toInt ≤ 21 by omega) (show 0 ≤ x31.toInt by omega) (show x31.toInt ≤ 400 by omega) (show 0 ≤ f80_1_4.toInt by omega) (show f80_1_4.toInt ≤ 3204 by omega) (show (400 - x31.toInt).toNat < n9 by omega) hw hT hF c30 (lv_sub hl [1, 2, 3, 0] rfl)
      refine lv_iload_n hx hb dX3_readTest_9 rfl (lv_at hl 3 rfl) ?_
      refine lv_sipush (v := 400) hx hb dX3_readTest_10 (by decide) ?_
      refine lv_icmp_ge (tgt := 86) hx hb dX3_readTest_13 (by decide) (fun c32 => ?_) (fun c32 => ?_)
      · have c32 : (400 : Int) ≤ v9_3.toInt := wk_le.mp c32
        exact J86 v9_2 v9_3 f9_1_4 H locs ls w15 (show (-1) ≤ v9_2.toInt by omega) (show v9_2.toInt ≤ 21 by omega) (show 0 ≤ v9_3.toInt by omega) (show v9_3.toInt ≤ 400 by omega) (show 0 ≤ f9_1_4.toInt by omega) (show f9_1_4.toInt ≤ 3204 by omega)  hw hT hF c22 (lv_sub hl [0, 1, 2, 3] rfl)
      · have c32 : v9_3.toInt < (400 : Int) := wk_leF c32
        refine lv_aload_n hx hb dX3_readTest_16 rfl (lv_at hl 0 rfl) ?_
        refine tk_getA hC hK hw hT hinX3 kC_at3 (by decide) rfl 0 (by decide) (List.mem_of_getElem? (i := 1) rfl) rfl rfl dX3_readTest_17 ?_
        refine tk_Vi hC hK hw hT hA hE hSR kC_at1 (by decide) rfl (k_X6_isFaulty_2 l adK adV dC dI cy ad B (by omega) (by omega) qr s1    w15 H.size hT f9_1_4 c22 (show 0 ≤ f9_1_4.toInt by omega) (show f9_1_4.toInt ≤ 3204 by omega)) (cwV 0 hC.2.2.2.2 gX3_readTest_X6_isFaulty rfl rfl rfl (by decide +kernel) ⟨Nat.le_of_ble_eq_true rfl, Nat.le_of_ble_eq_true rfl⟩) rfl hl.1 rfl (Nat.le_of_ble_eq_true rfl) dX3_readTest_20 (fun r33 w35 H locs hp34 hw => ?_)
        obtain ⟨hT, k36, hg41⟩ := hp34
        have hF := hF.tr k36 (by decide)
        have c42 := k36.gi kC_at1 (by decide) c22
        rcases hg41 with ⟨rfl, ⟨x37, c38, rx37, tx37⟩⟩ | ⟨rfl, ⟨x39, c40, rx39, tx39⟩⟩
        · have ex37 : x37.toInt = f9_1_4.toInt := by rw [← c42.symm.trans c38]
          refine lv_if_ne (tgt := 86) hx hb dX3_readTest_23 (by decide) (fun c => absurd (by decide) c) (fun _ => ?_)
          refine lv_aload_n hx hb dX3_readTest_26 rfl (lv_at hl 0 rfl) ?_
          refine tk_getA hC hK hw hT hinX3 kC_at3 (by decide) rfl 0 (by decide) (List.mem_of_getElem? (i := 1) rfl) rfl rfl dX3_readTest_27 ?_
          refine va_ldcS hx hb hC.2.2.2.1 hSR.2.2.2.2.2.2.1 dX3_readTest_30 ?_
          refine tk_Vi hC hK hw hT hA hE hSR kC_at1 (by decide) rfl (k_X6_takeWord_2 l adK adV dC dI cy ad B (by omega) (by omega) qr s1    w35 H.size hT ) (cwV 1 hC.2.2.2.2 gX3_readTest_X6_takeWord rfl rfl rfl (by decide +kernel) ⟨Nat.le_of_ble_eq_true rfl, Nat.le_of_ble_eq_true rfl⟩) rfl hl.1 rfl (Nat.le_of_ble_eq_true rfl) dX3_readTest_32 (fun r43 w45 H locs hp44 hw => ?_)
          obtain ⟨hT, k46, hg49⟩ := hp44
          have hF := hF.tr k46 (by decide)
          have c50 := k46.gi kC_at1 (by decide) c42
          rcases hg49 with rfl | ⟨rfl, ⟨x47, c48, rx47, tx47⟩⟩
          · refine lv_if_eq (tgt := 55) hx hb dX3_readTest_35 (by decide) (fun _ => ?_) (fun c => absurd (by decide) c)
            refine lv_aload_n hx hb dX3_readTest_55 rfl (lv_at hl 0 rfl) ?_
            refine tk_getA hC hK hw hT hinX3 kC_at3 (by decide) rfl 0 (by decide) (List.mem_of_getElem? (i := 1) rfl) rfl rfl dX3_readTest_56 ?_
            refine va_ldcS hx hb hC.2.2.2.1 hSR.2.2.2.2.2.2.2 dX3_readTest_59 ?_
            refine tk_Vi hC hK hw hT hA hE hSR kC_at1 (by decide) rfl (k_X6_takeWord_3 l adK adV dC dI cy ad B (by omega) (by omega) qr s1    w45 H.size hT ) (cwV 1 hC.2.2.2.2 gX3_readTest_X6_takeWord rfl rfl rfl (by decide +kernel) ⟨Nat.le_of_ble_eq_true rfl, Nat.le_of_ble_eq_true rfl⟩) rfl hl.1 rfl (Nat.le_of_ble_eq_true rfl) dX3_readTest_61 (fun r51 w53 H locs hp52 hw => ?_)
            obtain ⟨hT, k54, hg57⟩ := hp52
            have hF := hF.tr k54 (by decide)
            have c58 := k54.gi kC_at1 (by decide) c50
            rcases hg57 with rfl | ⟨rfl, ⟨x55, c56, rx55, tx55⟩⟩
            · refine lv_if_eq (tgt := 86) hx hb dX3_readTest_64 (by decide) (fun _ => ?_) (fun c => absurd (by decide) c)
              exact J86 v9_2 v9_3 f9_1_4 H locs ls w53 (show (-1) ≤ v9_2.toInt by omega) (show v9_2.toInt ≤ 21 by omega) (show 0 ≤ v9_3.toInt by omega) (show v9_3.toInt ≤ 400 by omega) (show 0 ≤ f9_1_4.toInt by omega) (show f9_1_4.toInt ≤ 3204 by omega)  hw hT hF c58 (lv_sub hl [0, 1, 2, 3] rfl)
            · refine lv_if_eq (tgt := 86) hx hb dX3_readTest_64 (by decide) (fun c => absurd c (by decide)) (fun _ => ?_)
              refine lv_aload_n hx hb dX3_readTest_67 rfl (lv_at hl 0 rfl) ?_
              refine lv_iload_n hx hb dX3_readTest_68 rfl (lv_at hl 2 rfl) ?_
              refine tk_Vv hC hK hw hT hA hE hSR kC_at3 (by decide) rfl (k_X3_addWaiting_1 l adK adV dC dI cy ad B (by omega) (by omega) qr s1 hqr  v9_2 (show (-1) ≤ v9_2.toInt by omega) (show v9_2.toInt ≤ 21 by omega) w53 H.size hT ) (cwV 1 hC.2.2.2.2 gX3_readTest_X3_addWaiting rfl rfl rfl (by decide +kernel) ⟨Nat.le_of_ble_eq_true rfl, Nat.le_of_ble_eq_true rfl⟩) rfl hl.1 rfl (Nat.le_of_ble_eq_true rfl) dX3_readTest_69 (fun w61 H locs hp60 hw => ?_)
              obtain ⟨hT, k62, hg63⟩ := hp60
              have hF := hF.tr k62 (by decide)
              have c64 := k62.gi kC_at1 (by decide) c58
              have c65 := k62.gi kC_at1 (by decide) c56
              clear hg63
              refine lv_bipush (v := 21) hx hb dX3_readTest_72 (by decide) ?_
              refine lv_istore_n (lv' := [(2, .int 21), (0, .ref (ad 3)), (1, .int 2), (3, .int v9_3)]) hx hb dX3_readTest_74 rfl hl (by decide) rfl (fun ls hl => ?_)
              refine lv_aload_n hx hb dX3_readTest_75 rfl (lv_at hl 1 rfl) ?_
              refine lv_iload_n hx hb dX3_readTest_76 rfl (lv_at hl 2 rfl) ?_
              refine tk_Vv hC hK hw hT hA hE hSR kC_at3 (by decide) rfl (k_X3_readFact_3 l adK adV dC dI cy ad B (by omega) (by omega) qr s1 hqr   w61 H.size hT (c64.trans (wk_eq.mpr (show f9_1_4.toInt = 0 by omega)))) (cwV 1 hC.2.2.2.2 gX3_readTest_X3_readFact rfl rfl rfl (by decide +kernel) ⟨Nat.le_of_ble_eq_true rfl, Nat.le_of_ble_eq_true rfl⟩) rfl hl.1 rfl (Nat.le_of_ble_eq_true rfl) dX3_readTest_77 (fun w68 H locs hp67 hw => ?_)
              obtain ⟨hT, k69, hg72⟩ := hp67
              have hF := hF.tr k69 (by decide)
              obtain ⟨x70, c71, rx70, tx70⟩ := hg72
              exact J80 21 x70 H locs ls w68 (by decide) (by decide) (show 0 ≤ v9_3.toInt by omega) (show v9_3.toInt ≤ 399 by omega) (show 0 ≤ x70.toInt by omega) (show x70.toInt ≤ 3204 by omega)  hw hT hF c71 (lv_sub hl [1, 2, 0, 3] rfl)
          · refine lv_if_eq (tgt := 55) hx hb dX3_readTest_35 (by decide) (fun c => absurd c (by decide)) (fun _ => ?_)
            refine lv_aload_n hx hb dX3_readTest_38 rfl (lv_at hl 0 rfl) ?_
            refine lv_iload_n hx hb dX3_readTest_39 rfl (lv_at hl 1 rfl) ?_
            refine tk_Vv hC hK hw hT hA hE hSR kC_at3 (by decide) rfl (k_X3_readFact_3 l adK adV dC dI cy ad B (by omega) (by omega) qr s1 hqr   w45 H.size hT (c50.trans (wk_eq.mpr (show f9_1_4.toInt = 0 by omega)))) (cwV 1 hC.2.2.2.2 gX3_readTest_X3_readFact rfl rfl rfl (by decide +kernel) ⟨Nat.le_of_ble_eq_true rfl, Nat.le_of_ble_eq_true rfl⟩) rfl hl.1 rfl (Nat.le_of_ble_eq_true rfl) dX3_readTest_40 (fun w75 H locs hp74 hw => ?_)
            obtain ⟨hT, k76, hg79⟩ := hp74
            have hF := hF.tr k76 (by decide)
            obtain ⟨x77, c78, rx77, tx77⟩ := hg79
            refine lv_aload_n hx hb dX3_readTest_43 rfl (lv_at hl 0 rfl) ?_
            refine tk_getQ hC hK hw hT hqr (by decide) hinX3 kC_at3 (by decide) rfl 1 (by decide) (List.mem_of_getElem? (i := 2) rfl) rfl rfl dX3_readTest_44 ?_
            refine lv_bipush (v := 20) hx hb dX3_readTest_47 (by decide) ?_
            refine tk_Vv hC hK hw hT hA hE hSR hqr (by decide) rfl (k_X2_addToken_10 l adK adV dC dI cy ad B (by omega) (by omega) qr s1   qr hqr w75 H.size hT ) (cwV 1 hC.2.2.2.2 gX3_readTest_X2_addToken rfl rfl rfl (by decide +kernel) ⟨Nat.le_of_ble_eq_true rfl, Nat.le_of_ble_eq_true rfl⟩) rfl hl.1 rfl (Nat.le_of_ble_eq_true rfl) dX3_readTest_49 (fun w82 H locs hp81 hw => ?_)
            obtain ⟨hT, k83, hg86⟩ := hp81
            have hF := hF.tr k83 (by decide)
            have c87 := k83.gi kC_at1 (by decide) c78
            obtain ⟨x84, c85, rx84, tx84⟩ := hg86
            refine lv_goto (tgt := 80) hx hb dX3_readTest_52 (by decide) ?_
            exact J80 v9_2 x77 H locs ls w82 (show (-1) ≤ v9_2.toInt by omega) (show v9_2.toInt ≤ 21 by omega) (show 0 ≤ v9_3.toInt by omega) (show v9_3.toInt ≤ 399 by omega) (show 0 ≤ x77.toInt by omega) (show x77.toInt ≤ 3204 by omega)  hw hT hF c87 (lv_sub hl [0, 1, 2, 3] rfl)
        · have ex39 : x39.toInt = f9_1_4.toInt := by rw [← c42.symm.trans c40]
          refine lv_if_ne (tgt := 86) hx hb dX3_readTest_23 (by decide) (fun _ => ?_) (fun c => absurd c (by decide))
          exact J86 v9_2 v9_3 f9_1_4 H locs ls w35 (show (-1) ≤ v9_2.toInt by omega) (show v9_2.toInt ≤ 21 by omega) (show 0 ≤ v9_3.toInt by omega) (show v9_3.toInt ≤ 400 by omega) (show 0 ≤ f9_1_4.toInt by omega) (show f9_1_4.toInt ≤ 3204 by omega)  hw hT hF c42 (lv_sub hl [0, 1, 2, 3] rfl)
  refine lv_aload_n hx hb dX3_readTest_0 rfl (lv_at hl 0 rfl) ?_
  refine lv_iload_n hx hb dX3_readTest_1 rfl (lv_at hl 1 rfl) ?_
  refine tk_Vv hC hK hw hT hA hE hSR kC_at3 (by decide) rfl (k_X3_readFact_3 l adK adV dC dI cy ad B (by omega) (by omega) qr s1 hqr   w0 s.heap.size hT cf0_) (cwV 1 hC.2.2.2.2 gX3_readTest_X3_readFact rfl rfl rfl (by decide +kernel) ⟨Nat.le_of_ble_eq_true rfl, Nat.le_of_ble_eq_true rfl⟩) rfl hl.1 rfl (Nat.le_of_ble_eq_true rfl) dX3_readTest_2 (fun w90 H locs hp89 hw => ?_)
  obtain ⟨hT, k91, hg94⟩ := hp89
  have hF := hF.tr k91 (by decide)
  obtain ⟨x92, c93, rx92, tx92⟩ := hg94
  refine lv_iconst (v := (-1)) hx hb dX3_readTest_5 (by decide) ?_
  refine lv_istore_n (lv' := [(2, .int (-1)), (0, .ref (ad 3)), (1, .int 2)]) hx hb dX3_readTest_6 rfl hl (by decide) rfl (fun ls hl => ?_)
  refine lv_iconst (v := 0) hx hb dX3_readTest_7 (by decide) ?_
  refine lv_istore_n (lv' := [(3, .int 0), (2, .int (-1)), (0, .ref (ad 3)), (1, .int 2)]) hx hb dX3_readTest_8 rfl hl (by decide) rfl (fun ls hl => ?_)
  exact L9 ((400 - (0 : Int)).toNat + 1) (-1) 0 x92 H locs ls w90 (by decide) (by decide) (by decide) (by decide) (show 0 ≤ x92.toInt by omega) (show x92.toInt ≤ 3204 by omega) (Nat.lt_succ_self _) hw hT hF c93 (lv_sub hl [2, 3, 1, 0] rfl)
abbrev P_X3_readFact_2 (ad : Nat → Nat) (cy : Nat → ClassId) (B : Int) (qr : Nat) (s1 : Int)  (w0 : va_W) : va_W → Prop := fun u => TW ksC ad cy B qr s1 u ∧ FE ksC [(2, 3, 3), (3, 2, 2), (6, 1, 1), (6, 3, 3), (6, 4, 4), (22, 0, 13), (23, 0, 400)] w0 u ∧ (((∃ y : Int32, gi u 1 4 = y ∧ 0 ≤ y.toInt ∧ y.toInt ≤ 3204)))
set_option maxHeartbeats 4000000 in
set_option maxRecDepth 100000 in
theorem k_X3_readFact_2 (l : Launch) (adK adV : Nat → Nat) (dC : Nat → ClassId) (dI : Nat → Nat → Nat) (cy : Nat → ClassId) (ad : Nat → Nat) (B : Int) (hB0 : 2147483648 ≤ B) (hB1 : B ≤ 1152921504606846976) (qr : Nat) (s1 : Int) (hqr : ksC[qr]? = some 2)  (w0 : va_W) (sz : Nat) (hT : TW ksC ad cy B qr s1 w0) (cf0_ : gi w0 1 4 = 0) : Met l yX3_readFact wsX3_readFact ({ frames := 26, cells := 0, slots := 0, locals := 634 }) (va_Pc [.ref (ad 3), .int 1] (wpreS adK adV dC dI cy sz w0)) (va_Qv (P_X3_readFact_2 ad cy B qr s1  w0) (fun u : va_W => wpost dC dI cy (va_A w0 sz) u) (va_A w0 sz)) 0 0 (va_A w0 sz) := by
  refine Met.ofW (cc := cX3_readFact) (maxL := 5) (ret := none) (by decide) rfl ?_
  intro p e s m args below meth c s₁ Bk hml hv
  obtain ⟨rfl, ⟨hsz, hP, hK, hD0⟩, hE, hSR⟩ := hv
  have hx := Bk.exec
  have hb := Bk.bytes
  have hr := Bk.returns
  have hlocks := Bk.notSynchronized
  have hC : CallFix p m c cX3_readFact 5 s _ wsX3_readFact RX3 := ⟨hx, hb, hml, findClass_of_methodNamed Bk.named, atoms_spec (ws := wsX3_readFact) Bk.pre⟩
  subst hsz
  have hD := hD0.self (sz := s.heap.size)
  generalize hAe : va_A w0 s.heap.size = A at hD hE ⊢
  have hA : ∀ q : Nat, s.heap.size ≤ q → A q := fun q h => by rw [← hAe]; exact Or.inr h
  have hw : Wd dC dI A s.heap s.heap [] w0 := ⟨hP, hD, va_S.rf⟩
  have hF : FE ksC [(2, 3, 3), (3, 2, 2), (6, 1, 1), (6, 3, 3), (6, 4, 4), (22, 0, 13), (23, 0, 400)] w0 w0 := FE.rf
  have hl := lv_entry ([.ref (ad 3), .int 1]) (n := 5) (Nat.le_of_ble_eq_true rfl)
  rw [lg_entry_eq]
  generalize (lg_sl ([.ref (ad 3), .int 1]) ++ List.replicate (5 - (lg_sl ([.ref (ad 3), .int 1])).length) Slot.unset).toArray = ls at hl ⊢
  have hl : lv_has ls 5 [(0, .ref (ad 3)), (1, .int 1)] := hl
  generalize hloc : ([] : List Loc) = locs at hw ⊢
  have hinX3 : ∀ w ∈ u_ws RX3 TX3 3, w ∈ wsX3_readFact := fun _ h => List.mem_cons_of_mem _ (List.mem_append_left _ (List.mem_append_left _ (List.mem_append_right _ (h))))
  have J160 : ∀ (v160_2 : Int32) (v160_3 : Int32) (f160_1_4 : Int32) (H : Heap) (locs : List Loc) (ls : Array Slot) (w1 : va_W), 0 ≤ v160_2.toInt → v160_2.toInt ≤ 1 → 0 ≤ v160_3.toInt → v160_3.toInt ≤ 1 → 0 ≤ f160_1_4.toInt → f160_1_4.toInt ≤ 3204 → Wd dC dI A s.heap H locs w1 → TW ksC ad cy B qr s1 w1 → FE ksC [(2, 3, 3), (3, 2, 2), (6, 1, 1), (6, 3, 3), (6, 4, 4), (22, 0, 13), (23, 0, 400)] w0 w1 → gi w1 1 4 = f160_1_4 → lv_has ls 5 [(0, .ref (ad 3)), (1, .int 1), (2, .int v160_2), (3, .int v160_3)] → W p l e ({ frames := 26, cells := 0, slots := 0, locals := 634 }) s m (List.toArray [.ref (ad 3), .int 1]) below meth c H locs 0 0 (MQ below (va_Qv (P_X3_readFact_2 ad cy B qr s1  w0) (fun u : va_W => wpost dC dI cy A u) A) (List.toArray [.ref (ad 3), .int 1]) s 0 0 A) (F0 m 160 ls []) := by
    intro v160_2 v160_3 f160_1_4 H locs ls w1 r2 t3 r4 t5 r6 t7 hw hT hF c8 hl
    exact tk_vret hC hr hlocks hK ⟨hT, hF, ⟨f160_1_4, c8, (show 0 ≤ f160_1_4.toInt by omega), (show f160_1_4.toInt ≤ 3204 by omega)⟩⟩ hw dX3_readFact_160
  have J77 : ∀ (v77_2 : Int32) (v77_3 : Int32) (H : Heap) (locs : List Loc) (ls : Array Slot) (w9 : va_W), 0 ≤ v77_2.toInt → v77_2.toInt ≤ 1 → 0 ≤ v77_3.toInt → v77_3.toInt ≤ 1 → Wd dC dI A s.heap H locs w9 → TW ksC ad cy B qr s1 w9 → FE ksC [(2, 3, 3), (3, 2, 2), (6, 1, 1), (6, 3, 3), (6, 4, 4), (22, 0, 13), (23, 0, 400)] w0 w9 → gi w9 1 4 = 0 → lv_has ls 5 [(0, .ref (ad 3)), (1, .int 1), (2, .int v77_2), (3, .int v77_3)] → W p l e ({ frames := 26, cells := 0, slots := 0, locals := 634 }) s m (List.toArray [.ref (ad 3), .int 1]) below meth c H locs 0 0 (MQ below (va_Qv (P_X3_readFact_2 ad cy B qr s1  w0) (fun u : va_W => wpost dC dI cy A u) A) (List.toArray [.ref (ad 3), .int 1]) s 0 0 A) (F0 m 77 ls []) := by
    intro v77_2 v77_3 H locs ls w9 r10 t11 r12 t13 hw hT hF c14 hl
    refine lv_iload_n hx hb dX3_readFact_77 rfl (lv_at hl 1 rfl) ?_
    refine lv_bipush (v := 10) hx hb dX3_readFact_78 (by decide) ?_
    refine lv_icmp_lt (tgt := 101) hx hb dX3_readFact_80 (by decide) (fun _ => ?_) (fun c => absurd (by decide) c)
    refine lv_iload_n hx hb dX3_readFact_101 rfl (lv_at hl 2 rfl) ?_
    refine lv_if_eq (tgt := 124) hx hb dX3_readFact_102 (by decide) (fun c15 => ?_) (fun c15 => ?_)
    · have c15 : v77_2.toInt = (0 : Int) := wk_eq.mp c15
      refine lv_aload_n hx hb dX3_readFact_124 rfl (lv_at hl 0 rfl) ?_
      refine lv_iload_n hx hb dX3_readFact_125 rfl (lv_at hl 1 rfl) ?_
      refine lv_iconst (v := 1) hx hb dX3_readFact_126 (by decide) ?_
      refine lv_iadd hx hb dX3_readFact_127 ?_
      refine wk_top 2 (by decide) ?_
      refine tk_Vv hC hK hw hT hA hE hSR kC_at3 (by decide) rfl (k_X3_readTest_3 l adK adV dC dI cy ad B (by omega) (by omega) qr s1 hqr   w9 H.size hT c14) (cwV 1 hC.2.2.2.2 gX3_readFact_X3_readTest rfl rfl rfl (by decide +kernel) ⟨Nat.le_of_ble_eq_true rfl, Nat.le_of_ble_eq_true rfl⟩) rfl hl.1 rfl (Nat.le_of_ble_eq_true rfl) dX3_readFact_128 (fun w18 H locs hp17 hw => ?_)
      obtain ⟨hT, k19, hg22⟩ := hp17
      have hF := hF.tr k19 (by decide)
      obtain ⟨x20, c21, rx20, tx20⟩ := hg22
      refine lv_aload_n hx hb dX3_readFact_131 rfl (lv_at hl 0 rfl) ?_
      refine tk_getA hC hK hw hT hinX3 kC_at3 (by decide) rfl 0 (by decide) (List.mem_of_getElem? (i := 1) rfl) rfl rfl dX3_readFact_132 ?_
      refine tk_Vi hC hK hw hT hA hE hSR kC_at1 (by decide) rfl (k_X6_isFaulty_2 l adK adV dC dI cy ad B (by omega) (by omega) qr s1    w18 H.size hT x20 c21 (show 0 ≤ x20.toInt by omega) (show x20.toInt ≤ 3204 by omega)) (cwV 0 hC.2.2.2.2 gX3_readFact_X6_isFaulty rfl rfl rfl (by decide +kernel) ⟨Nat.le_of_ble_eq_true rfl, Nat.le_of_ble_eq_true rfl⟩) rfl hl.1 rfl (Nat.le_of_ble_eq_true rfl) dX3_readFact_135 (fun r23 w25 H locs hp24 hw => ?_)
      obtain ⟨hT, k26, hg31⟩ := hp24
      have hF := hF.tr k26 (by decide)
      have c32 := k26.gi kC_at1 (by decide) c21
      rcases hg31 with ⟨rfl, ⟨x27, c28, rx27, tx27⟩⟩ | ⟨rfl, ⟨x29, c30, rx29, tx29⟩⟩
      · have ex27 : x27.toInt = x20.toInt := by rw [← c32.symm.trans c28]
        refine lv_if_ne (tgt := 160) hx hb dX3_readFact_138 (by decide) (fun c => absurd (by decide) c) (fun _ => ?_)
        refine lv_aload_n hx hb dX3_readFact_141 rfl (lv_at hl 0 rfl) ?_
        refine tk_getA hC hK hw hT hinX3 kC_at3 (by decide) rfl 0 (by decide) (List.mem_of_getElem? (i := 1) rfl) rfl rfl dX3_readFact_142 ?_
        refine lv_bipush (v := 93) hx hb dX3_readFact_145 (by decide) ?_
        refine tk_Vi hC hK hw hT hA hE hSR kC_at1 (by decide) rfl (k_X6_takeByte_3 l adK adV dC dI cy ad B (by omega) (by omega) qr s1    w25 H.size hT ) (cwV 1 hC.2.2.2.2 gX3_readFact_X6_takeByte rfl rfl rfl (by decide +kernel) ⟨Nat.le_of_ble_eq_true rfl, Nat.le_of_ble_eq_true rfl⟩) rfl hl.1 rfl (Nat.le_of_ble_eq_true rfl) dX3_readFact_147 (fun r33 w35 H locs hp34 hw => ?_)
        obtain ⟨hT, k36, hg41⟩ := hp34
        have hF := hF.tr k36 (by decide)
        have c42 := k36.gi kC_at1 (by decide) c32
        rcases hg41 with rfl | ⟨rfl, ⟨x37, c38, rx37, tx37⟩, ⟨x39, c40, rx39, tx39⟩⟩
        · refine lv_if_ne (tgt := 160) hx hb dX3_readFact_150 (by decide) (fun c => absurd (by decide) c) (fun _ => ?_)
          refine lv_aload_n hx hb dX3_readFact_153 rfl (lv_at hl 0 rfl) ?_
          refine tk_getA hC hK hw hT hinX3 kC_at3 (by decide) rfl 0 (by decide) (List.mem_of_getElem? (i := 1) rfl) rfl rfl dX3_readFact_154 ?_
          refine tk_Vv hC hK hw hT hA hE hSR kC_at1 (by decide) rfl (k_X6_blameHere_1 l adK adV dC dI cy ad B (by omega) (by omega) qr s1    w35 H.size hT (c42.trans (wk_eq.mpr (show x20.toInt = 0 by omega)))) (cwV 0 hC.2.2.2.2 gX3_readFact_X6_blameHere rfl rfl rfl (by decide +kernel) ⟨Nat.le_of_ble_eq_true rfl, Nat.le_of_ble_eq_true rfl⟩) rfl hl.1 rfl (Nat.le_of_ble_eq_true rfl) dX3_readFact_157 (fun w45 H locs hp44 hw => ?_)
          obtain ⟨hT, k46, hg49⟩ := hp44
          have hF := hF.tr k46 (by decide)
          obtain ⟨x47, c48, rx47, tx47⟩ := hg49
          exact J160 v77_2 v77_3 x47 H locs ls w45 (show 0 ≤ v77_2.toInt by omega) (show v77_2.toInt ≤ 1 by omega) (show 0 ≤ v77_3.toInt by omega) (show v77_3.toInt ≤ 1 by omega) (show 0 ≤ x47.toInt by omega) (show x47.toInt ≤ 3204 by omega)  hw hT hF c48 (lv_sub hl [0, 1, 2, 3] rfl)
        · refine lv_if_ne (tgt := 160) hx hb dX3_readFact_150 (by decide) (fun _ => ?_) (fun c => absurd c (by decide))
          exact J160 v77_2 v77_3 x20 H locs ls w35 (show 0 ≤ v77_2.toInt by omega) (show v77_2.toInt ≤ 1 by omega) (show 0 ≤ v77_3.toInt by omega) (show v77_3.toInt ≤ 1 by omega) (show 0 ≤ x20.toInt by omega) (show x20.toInt ≤ 3204 by omega)  hw hT hF c42 (lv_sub hl [0, 1, 2, 3] rfl)
      · have ex29 : x29.toInt = x20.toInt := by rw [← c32.symm.trans c30]
        refine lv_if_ne (tgt := 160) hx hb dX3_readFact_138 (by decide) (fun _ => ?_) (fun c => absurd c (by decide))
        exact J160 v77_2 v77_3 x20 H locs ls w25 (show 0 ≤ v77_2.toInt by omega) (show v77_2.toInt ≤ 1 by omega) (show 0 ≤ v77_3.toInt by omega) (show v77_3.toInt ≤ 1 by omega) (show 0 ≤ x20.toInt by omega) (show x20.toInt ≤ 3204 by omega)  hw hT hF c32 (lv_sub hl [0, 1, 2, 3] rfl)
    · have c15 : ¬ v77_2.toInt = (0 : Int) := wk_eqF c15
      refine lv_aload_n hx hb dX3_readFact_105 rfl (lv_at hl 0 rfl) ?_
      refine lv_iload_n hx hb dX3_readFact_106 rfl (lv_at hl 1 rfl) ?_
      refine lv_iconst (v := 1) hx hb dX3_readFact_107 (by decide) ?_
      refine lv_iadd hx hb dX3_readFact_108 ?_
      refine wk_top 2 (by decide) ?_
      refine tk_Vv hC hK hw hT hA hE hSR kC_at3 (by decide) rfl (k_X3_readFact_3 l adK adV dC dI cy ad B (by omega) (by omega) qr s1 hqr   w9 H.size hT c14) (cwV 1 hC.2.2.2.2 gX3_readFact_X3_readFact rfl rfl rfl (by decide +kernel) ⟨Nat.le_of_ble_eq_true rfl, Nat.le_of_ble_eq_true rfl⟩) rfl hl.1 rfl (Nat.le_of_ble_eq_true rfl) dX3_readFact_109 (fun w52 H locs hp51 hw => ?_)
      obtain ⟨hT, k53, hg56⟩ := hp51
      have hF := hF.tr k53 (by decide)
      obtain ⟨x54, c55, rx54, tx54⟩ := hg56
      refine lv_aload_n hx hb dX3_readFact_112 rfl (lv_at hl 0 rfl) ?_
      refine tk_getQ hC hK hw hT hqr (by decide) hinX3 kC_at3 (by decide) rfl 1 (by decide) (List.mem_of_getElem? (i := 2) rfl) rfl rfl dX3_readFact_113 ?_
      refine lv_bipush (v := 19) hx hb dX3_readFact_116 (by decide) ?_
      refine tk_Vv hC hK hw hT hA hE hSR hqr (by decide) rfl (k_X2_addToken_11 l adK adV dC dI cy ad B (by omega) (by omega) qr s1   qr hqr w52 H.size hT ) (cwV 1 hC.2.2.2.2 gX3_readFact_X2_addToken rfl rfl rfl (by decide +kernel) ⟨Nat.le_of_ble_eq_true rfl, Nat.le_of_ble_eq_true rfl⟩) rfl hl.1 rfl (Nat.le_of_ble_eq_true rfl) dX3_readFact_118 (fun w59 H locs hp58 hw => ?_)
      obtain ⟨hT, k60, hg63⟩ := hp58
      have hF := hF.tr k60 (by decide)
      have c64 := k60.gi kC_at1 (by decide) c55
      obtain ⟨x61, c62, rx61, tx61⟩ := hg63
      refine lv_goto (tgt := 160) hx hb dX3_readFact_121 (by decide) ?_
      exact J160 v77_2 v77_3 x54 H locs ls w59 (show 0 ≤ v77_2.toInt by omega) (show v77_2.toInt ≤ 1 by omega) (show 0 ≤ v77_3.toInt by omega) (show v77_3.toInt ≤ 1 by omega) (show 0 ≤ x54.toInt by omega) (show x54.toInt ≤ 3204 by omega)  hw hT hF c64 (lv_sub hl [0, 1, 2, 3] rfl)
  have J41 : ∀ (v41_2 : Int32) (H : Heap) (locs : List Loc) (ls : Array Slot) (w65 : va_W), 0 ≤ v41_2.toInt → v41_2.toInt ≤ 1 → Wd dC dI A s.heap H locs w65 → TW ksC ad cy B qr s1 w65 → FE ksC [(2, 3, 3), (3, 2, 2), (6, 1, 1), (6, 3, 3), (6, 4, 4), (22, 0, 13), (23, 0, 400)] w0 w65 → gi w65 1 4 = 0 → lv_has ls 5 [(0, .ref (ad 3)), (1, .int 1), (2, .int v41_2)] → W p l e ({ frames := 26, cells := 0, slots := 0, locals := 634 }) s m (List.toArray [.ref (ad 3), .int 1]) below meth c H locs 0 0 (MQ below (va_Qv (P_X3_readFact_2 ad cy B qr s1  w0) (fun u : va_W => wpost dC dI cy A u) A) (List.toArray [.ref (ad 3), .int 1]) s 0 0 A) (F0 m 41 ls []) := by
    intro v41_2 H locs ls w65 r66 t67 hw hT hF c68 hl
    refine lv_iconst (v := 0) hx hb dX3_readFact_41 (by decide) ?_
    refine lv_istore_n (lv' := [(3, .int 0), (0, .ref (ad 3)), (1, .int 1), (2, .int v41_2)]) hx hb dX3_readFact_42 rfl hl (by decide) rfl (fun ls hl => ?_)
    refine lv_iload_n hx hb dX3_readFact_43 rfl (lv_at hl 3 rfl) ?_
    refine lv_if_ne (tgt := 77) hx hb dX3_readFact_44 (by decide) (fun c69 => ?_) (fun c69 => ?_)
    · have c69 : ¬ v41_2.toInt = (0 : Int) := wk_eqF c69
      exact J77 v41_2 0 H locs ls w65 (show 0 ≤ v41_2.toInt by omega) (show v41_2.toInt ≤ 1 by omega) (by decide) (by decide)  hw hT hF c68 (lv_sub hl [1, 2, 3, 0] rfl)
    · have c69 : v41_2.toInt = (0 : Int) := wk_eq.mp c69
      refine lv_iload_n hx hb dX3_readFact_47 rfl (lv_at hl 0 rfl) ?_
      refine lv_if_ne (tgt := 77) hx hb dX3_readFact_48 (by decide) (fun c => absurd (by decide) c) (fun _ => ?_)
      refine lv_aload_n hx hb dX3_readFact_51 rfl (lv_at hl 1 rfl) ?_
      refine tk_Vv hC hK hw hT hA hE hSR kC_at3 (by decide) rfl (k_X3_readSum_1 l adK adV dC dI cy ad B (by omega) (by omega) qr s1 hqr   w65 H.size hT c68) (cwV 0 hC.2.2.2.2 gX3_readFact_X3_readSum rfl rfl rfl (by decide +kernel) ⟨Nat.le_of_ble_eq_true rfl, Nat.le_of_ble_eq_true rfl⟩) rfl hl.1 rfl (Nat.le_of_ble_eq_true rfl) dX3_readFact_52 (fun w72 H locs hp71 hw => ?_)
      obtain ⟨hT, k73, hg76⟩ := hp71
      have hF := hF.tr k73 (by decide)
      obtain ⟨x74, c75, rx74, tx74⟩ := hg76
      refine lv_aload_n hx hb dX3_readFact_55 rfl (lv_at hl 1 rfl) ?_
      refine tk_Vi hC hK hw hT hA hE hSR kC_at3 (by decide) rfl (k_X3_readSign_1 l adK adV dC dI cy ad B (by omega) (by omega) qr s1    w72 H.size hT x74 c75 (show 0 ≤ x74.toInt by omega) (show x74.toInt ≤ 3204 by omega)) (cwV 0 hC.2.2.2.2 gX3_readFact_X3_readSign rfl rfl rfl (by decide +kernel) ⟨Nat.le_of_ble_eq_true rfl, Nat.le_of_ble_eq_true rfl⟩) rfl hl.1 rfl (Nat.le_of_ble_eq_true rfl) dX3_readFact_56 (fun r77 w79 H locs hp78 hw => ?_)
      obtain ⟨hT, k80, hg91⟩ := hp78
      have hF := hF.tr k80 (by decide)
      rcases hg91 with ⟨rfl, ⟨x81, c82, rx81, tx81⟩⟩ | ⟨g83, g84, ⟨x85, c86, rx85, tx85⟩, ⟨x87, c88, rx87, tx87⟩, ⟨x89, c90, rx89, tx89⟩⟩
      · refine lv_istore (lv' := [(4, .int 16), (3, .int 0), (0, .ref (ad 3)), (1, .int 1), (2, .int v41_2)]) hx hb dX3_readFact_59 hl (by decide) rfl (fun ls hl => ?_)
        refine lv_aload_n hx hb dX3_readFact_61 rfl (lv_at hl 2 rfl) ?_
        refine tk_Vv hC hK hw hT hA hE hSR kC_at3 (by decide) rfl (k_X3_readSum_2 l adK adV dC dI cy ad B (by omega) (by omega) qr s1 hqr   w79 H.size hT x81 c82 (show 1 ≤ x81.toInt by omega) (show x81.toInt ≤ 3204 by omega)) (cwV 0 hC.2.2.2.2 gX3_readFact_X3_readSum rfl rfl rfl (by decide +kernel) ⟨Nat.le_of_ble_eq_true rfl, Nat.le_of_ble_eq_true rfl⟩) rfl hl.1 rfl (Nat.le_of_ble_eq_true rfl) dX3_readFact_62 (fun w94 H locs hp93 hw => ?_)
        obtain ⟨hT, k95, hg98⟩ := hp93
        have hF := hF.tr k95 (by decide)
        have c99 := k95.gi kC_at1 (by decide) c82
        obtain ⟨x96, c97, rx96, tx96⟩ := hg98
        have ex96 : x96.toInt = x81.toInt := by rw [← c99.symm.trans c97]
        refine lv_aload_n hx hb dX3_readFact_65 rfl (lv_at hl 2 rfl) ?_
        refine tk_getQ hC hK hw hT hqr (by decide) hinX3 kC_at3 (by decide) rfl 1 (by decide) (List.mem_of_getElem? (i := 2) rfl) rfl rfl dX3_readFact_66 ?_
        refine lv_iload hx hb dX3_readFact_69 (lv_at hl 0 rfl) ?_
        refine tk_Vv hC hK hw hT hA hE hSR hqr (by decide) rfl (k_X2_addToken_8 l adK adV dC dI cy ad B (by omega) (by omega) qr s1   qr hqr w94 H.size hT ) (cwV 1 hC.2.2.2.2 gX3_readFact_X2_addToken rfl rfl rfl (by decide +kernel) ⟨Nat.le_of_ble_eq_true rfl, Nat.le_of_ble_eq_true rfl⟩) rfl hl.1 rfl (Nat.le_of_ble_eq_true rfl) dX3_readFact_71 (fun w102 H locs hp101 hw => ?_)
        obtain ⟨hT, k103, hg106⟩ := hp101
        have hF := hF.tr k103 (by decide)
        have c107 := k103.gi kC_at1 (by decide) c99
        obtain ⟨x104, c105, rx104, tx104⟩ := hg106
        refine lv_goto (tgt := 160) hx hb dX3_readFact_74 (by decide) ?_
        exact J160 v41_2 0 x81 H locs ls w102 (show 0 ≤ v41_2.toInt by omega) (show v41_2.toInt ≤ 1 by omega) (by decide) (by decide) (show 0 ≤ x81.toInt by omega) (show x81.toInt ≤ 3204 by omega)  hw hT hF c107 (lv_sub hl [2, 3, 4, 1] rfl)
      · refine lv_istore (lv' := [(4, .int r77), (3, .int 0), (0, .ref (ad 3)), (1, .int 1), (2, .int v41_2)]) hx hb dX3_readFact_59 hl (by decide) rfl (fun ls hl => ?_)
        refine lv_aload_n hx hb dX3_readFact_61 rfl (lv_at hl 2 rfl) ?_
        refine tk_Vv hC hK hw hT hA hE hSR kC_at3 (by decide) rfl (k_X3_readSum_3 l adK adV dC dI cy ad B (by omega) (by omega) qr s1 hqr   w79 H.size hT x89 c90 (show 0 ≤ x89.toInt by omega) (show x89.toInt ≤ 3204 by omega)) (cwV 0 hC.2.2.2.2 gX3_readFact_X3_readSum rfl rfl rfl (by decide +kernel) ⟨Nat.le_of_ble_eq_true rfl, Nat.le_of_ble_eq_true rfl⟩) rfl hl.1 rfl (Nat.le_of_ble_eq_true rfl) dX3_readFact_62 (fun w110 H locs hp109 hw => ?_)
        obtain ⟨hT, k111, hg114⟩ := hp109
        have hF := hF.tr k111 (by decide)
        have c115 := k111.gi kC_at1 (by decide) c86
        obtain ⟨x112, c113, rx112, tx112⟩ := hg114
        refine lv_aload_n hx hb dX3_readFact_65 rfl (lv_at hl 2 rfl) ?_
        refine tk_getQ hC hK hw hT hqr (by decide) hinX3 kC_at3 (by decide) rfl 1 (by decide) (List.mem_of_getElem? (i := 2) rfl) rfl rfl dX3_readFact_66 ?_
        refine lv_iload hx hb dX3_readFact_69 (lv_at hl 0 rfl) ?_
        refine tk_Vv hC hK hw hT hA hE hSR hqr (by decide) rfl (k_X2_addToken_9 l adK adV dC dI cy ad B (by omega) (by omega) qr s1   qr hqr r77 (show 14 ≤ r77.toInt by omega) (show r77.toInt ≤ 18 by omega) w110 H.size hT ) (cwV 1 hC.2.2.2.2 gX3_readFact_X2_addToken rfl rfl rfl (by decide +kernel) ⟨Nat.le_of_ble_eq_true rfl, Nat.le_of_ble_eq_true rfl⟩) rfl hl.1 rfl (Nat.le_of_ble_eq_true rfl) dX3_readFact_71 (fun w118 H locs hp117 hw => ?_)
        obtain ⟨hT, k119, hg122⟩ := hp117
        have hF := hF.tr k119 (by decide)
        have c123 := k119.gi kC_at1 (by decide) c115
        have c124 := k119.gi kC_at1 (by decide) c113
        obtain ⟨x120, c121, rx120, tx120⟩ := hg122
        refine lv_goto (tgt := 160) hx hb dX3_readFact_74 (by decide) ?_
        exact J160 v41_2 0 x112 H locs ls w118 (show 0 ≤ v41_2.toInt by omega) (show v41_2.toInt ≤ 1 by omega) (by decide) (by decide) (show 0 ≤ x112.toInt by omega) (show x112.toInt ≤ 3204 by omega)  hw hT hF c124 (lv_sub hl [2, 3, 4, 1] rfl)
  refine lv_aload_n hx hb dX3_readFact_0 rfl (lv_at hl 0 rfl) ?_
  refine tk_getA hC hK hw hT hinX3 kC_at3 (by decide) rfl 0 (by decide) (List.mem_of_getElem? (i := 1) rfl) rfl rfl dX3_readFact_1 ?_
  refine tk_Vi hC hK hw hT hA hE hSR kC_at1 (by decide) rfl (k_X6_isFaulty_3 l adK adV dC dI cy ad B (by omega) (by omega) qr s1    w0 s.heap.size hT cf0_) (cwV 0 hC.2.2.2.2 gX3_readFact_X6_isFaulty rfl rfl rfl (by decide +kernel) ⟨Nat.le_of_ble_eq_true rfl, Nat.le_of_ble_eq_true rfl⟩) rfl hl.1 rfl (Nat.le_of_ble_eq_true rfl) dX3_readFact_4 (fun r125 w127 H locs hp126 hw => ?_)
  obtain ⟨hT, k128, hg131⟩ := hp126
  have hF := hF.tr k128 (by decide)
  have c132 := k128.gi kC_at1 (by decide) cf0_
  obtain ⟨rfl, ⟨x129, c130, rx129, tx129⟩⟩ := hg131
  have ex129 : x129.toInt = (0 : Int) := by rw [show x129 = 0 from c130.symm.trans c132]; decide
  refine lv_if_eq (tgt := 11) hx hb dX3_readFact_7 (by decide) (fun _ => ?_) (fun c => absurd (by decide) c)
  refine lv_aload_n hx hb dX3_readFact_11 rfl (lv_at hl 0 rfl) ?_
  refine tk_getA hC hK hw hT hinX3 kC_at3 (by decide) rfl 0 (by decide) (List.mem_of_getElem? (i := 1) rfl) rfl rfl dX3_readFact_12 ?_
  refine va_ldcS hx hb hC.2.2.2.1 hSR.2.2.2.2.1 dX3_readFact_15 ?_
  refine tk_Vi hC hK hw hT hA hE hSR kC_at1 (by decide) rfl (k_X6_takeWord_4 l adK adV dC dI cy ad B (by omega) (by omega) qr s1    w127 H.size hT ) (cwV 1 hC.2.2.2.2 gX3_readFact_X6_takeWord rfl rfl rfl (by decide +kernel) ⟨Nat.le_of_ble_eq_true rfl, Nat.le_of_ble_eq_true rfl⟩) rfl hl.1 rfl (Nat.le_of_ble_eq_true rfl) dX3_readFact_17 (fun r133 w135 H locs hp134 hw => ?_)
  obtain ⟨hT, k136, hg139⟩ := hp134
  have hF := hF.tr k136 (by decide)
  have c140 := k136.gi kC_at1 (by decide) c132
  rcases hg139 with rfl | ⟨rfl, ⟨x137, c138, rx137, tx137⟩⟩
  · refine lv_istore_n (lv' := [(2, .int 0), (0, .ref (ad 3)), (1, .int 1)]) hx hb dX3_readFact_20 rfl hl (by decide) rfl (fun ls hl => ?_)
    refine lv_iload_n hx hb dX3_readFact_21 rfl (lv_at hl 0 rfl) ?_
    refine lv_if_ne (tgt := 41) hx hb dX3_readFact_22 (by decide) (fun c => absurd (by decide) c) (fun _ => ?_)
    refine lv_aload_n hx hb dX3_readFact_25 rfl (lv_at hl 1 rfl) ?_
    refine tk_getA hC hK hw hT hinX3 kC_at3 (by decide) rfl 0 (by decide) (List.mem_of_getElem? (i := 1) rfl) rfl rfl dX3_readFact_26 ?_
    refine lv_bipush (v := 91) hx hb dX3_readFact_29 (by decide) ?_
    refine tk_Vi hC hK hw hT hA hE hSR kC_at1 (by decide) rfl (k_X6_takeByte_2 l adK adV dC dI cy ad B (by omega) (by omega) qr s1    w135 H.size hT ) (cwV 1 hC.2.2.2.2 gX3_readFact_X6_takeByte rfl rfl rfl (by decide +kernel) ⟨Nat.le_of_ble_eq_true rfl, Nat.le_of_ble_eq_true rfl⟩) rfl hl.1 rfl (Nat.le_of_ble_eq_true rfl) dX3_readFact_31 (fun r141 w143 H locs hp142 hw => ?_)
    obtain ⟨hT, k144, hg149⟩ := hp142
    have hF := hF.tr k144 (by decide)
    have c150 := k144.gi kC_at1 (by decide) c140
    rcases hg149 with rfl | ⟨rfl, ⟨x145, c146, rx145, tx145⟩, ⟨x147, c148, rx147, tx147⟩⟩
    · refine lv_if_eq (tgt := 41) hx hb dX3_readFact_34 (by decide) (fun _ => ?_) (fun c => absurd (by decide) c)
      exact J41 0 H locs ls w143 (by decide) (by decide)  hw hT hF c150 (lv_sub hl [1, 2, 0] rfl)
    · refine lv_if_eq (tgt := 41) hx hb dX3_readFact_34 (by decide) (fun c => absurd c (by decide)) (fun _ => ?_)
      refine lv_iconst (v := 1) hx hb dX3_readFact_37 (by decide) ?_
      refine lv_goto (tgt := 42) hx hb dX3_readFact_38 (by decide) ?_
      refine lv_istore_n (lv' := [(3, .int 1), (2, .int 0), (0, .ref (ad 3)), (1, .int 1)]) hx hb dX3_readFact_42 rfl hl (by decide) rfl (fun ls hl => ?_)
      refine lv_iload_n hx hb dX3_readFact_43 rfl (lv_at hl 1 rfl) ?_
      refine lv_if_ne (tgt := 77) hx hb dX3_readFact_44 (by decide) (fun c => absurd (by decide) c) (fun _ => ?_)
      refine lv_iload_n hx hb dX3_readFact_47 rfl (lv_at hl 0 rfl) ?_
      refine lv_if_ne (tgt := 77) hx hb dX3_readFact_48 (by decide) (fun _ => ?_) (fun c => absurd c (by decide))
      exact J77 0 1 H locs ls w143 (by decide) (by decide) (by decide) (by decide)  hw hT hF c150 (lv_sub hl [2, 3, 1, 0] rfl)
  · refine lv_istore_n (lv' := [(2, .int 1), (0, .ref (ad 3)), (1, .int 1)]) hx hb dX3_readFact_20 rfl hl (by decide) rfl (fun ls hl => ?_)
    refine lv_iload_n hx hb dX3_readFact_21 rfl (lv_at hl 0 rfl) ?_
    refine lv_if_ne (tgt := 41) hx hb dX3_readFact_22 (by decide) (fun _ => ?_) (fun c => absurd c (by decide))
    exact J41 1 H locs ls w135 (by decide) (by decide)  hw hT hF c140 (lv_sub hl [1, 2, 0] rfl)
abbrev P_X3_readTest_2 (ad : Nat → Nat) (cy : Nat → ClassId) (B : Int) (qr : Nat) (s1 : Int)  (w0 : va_W) : va_W → Prop := fun u => TW ksC ad cy B qr s1 u ∧ FE ksC [(2, 3, 3), (3, 2, 2), (6, 1, 1), (6, 3, 3), (6, 4, 4), (22, 0, 13), (23, 0, 400)] w0 u ∧ (((∃ y : Int32, gi u 1 4 = y ∧ 0 ≤ y.toInt ∧ y.toInt ≤ 3204)))
set_option maxHeartbeats 4000000 in
set_option maxRecDepth 100000 in
theorem k_X3_readTest_2 (l : Launch) (adK adV : Nat → Nat) (dC : Nat → ClassId) (dI : Nat → Nat → Nat) (cy : Nat → ClassId) (ad : Nat → Nat) (B : Int) (hB0 : 2147483648 ≤ B) (hB1 : B ≤ 1152921504606846976) (qr : Nat) (s1 : Int) (hqr : ksC[qr]? = some 2)  (w0 : va_W) (sz : Nat) (hT : TW ksC ad cy B qr s1 w0) (cf0_ : gi w0 1 4 = 0) : Met l yX3_readTest wsX3_readTest ({ frames := 27, cells := 0, slots := 0, locals := 658 }) (va_Pc [.ref (ad 3), .int 1] (wpreS adK adV dC dI cy sz w0)) (va_Qv (P_X3_readTest_2 ad cy B qr s1  w0) (fun u : va_W => wpost dC dI cy (va_A w0 sz) u) (va_A w0 sz)) 0 0 (va_A w0 sz) := by
  refine Met.ofW (cc := cX3_readTest) (maxL := 4) (ret := none) (by decide) rfl ?_
  intro p e s m args below meth c s₁ Bk hml hv
  obtain ⟨rfl, ⟨hsz, hP, hK, hD0⟩, hE, hSR⟩ := hv
  have hx := Bk.exec
  have hb := Bk.bytes
  have hr := Bk.returns
  have hlocks := Bk.notSynchronized
  have hC : CallFix p m c cX3_readTest 4 s _ wsX3_readTest RX3 := ⟨hx, hb, hml, findClass_of_methodNamed Bk.named, atoms_spec (ws := wsX3_readTest) Bk.pre⟩
  subst hsz
  have hD := hD0.self (sz := s.heap.size)
  generalize hAe : va_A w0 s.heap.size = A at hD hE ⊢
  have hA : ∀ q : Nat, s.heap.size ≤ q → A q := fun q h => by rw [← hAe]; exact Or.inr h
  have hw : Wd dC dI A s.heap s.heap [] w0 := ⟨hP, hD, va_S.rf⟩
  have hF : FE ksC [(2, 3, 3), (3, 2, 2), (6, 1, 1), (6, 3, 3), (6, 4, 4), (22, 0, 13), (23, 0, 400)] w0 w0 := FE.rf
  have hl := lv_entry ([.ref (ad 3), .int 1]) (n := 4) (Nat.le_of_ble_eq_true rfl)
  rw [lg_entry_eq]
  generalize (lg_sl ([.ref (ad 3), .int 1]) ++ List.replicate (4 - (lg_sl ([.ref (ad 3), .int 1])).length) Slot.unset).toArray = ls at hl ⊢
  have hl : lv_has ls 4 [(0, .ref (ad 3)), (1, .int 1)] := hl
  generalize hloc : ([] : List Loc) = locs at hw ⊢
  have hinX3 : ∀ w ∈ u_ws RX3 TX3 3, w ∈ wsX3_readTest := fun _ h => List.mem_cons_of_mem _ (List.mem_append_left _ (List.mem_append_left _ (List.mem_append_right _ (h))))
  have J86 : ∀ (v86_2 : Int32) (v86_3 : Int32) (f86_1_4 : Int32) (H : Heap) (locs : List Loc) (ls : Array Slot) (w1 : va_W), (-1) ≤ v86_2.toInt → v86_2.toInt ≤ 21 → 0 ≤ v86_3.toInt → v86_3.toInt ≤ 400 → 0 ≤ f86_1_4.toInt → f86_1_4.toInt ≤ 3204 → Wd dC dI A s.heap H locs w1 → TW ksC ad cy B qr s1 w1 → FE ksC [(2, 3, 3), (3, 2, 2), (6, 1, 1), (6, 3, 3), (6, 4, 4), (22, 0, 13), (23, 0, 400)] w0 w1 → gi w1 1 4 = f86_1_4 → lv_has ls 4 [(0, .ref (ad 3)), (1, .int 1), (2, .int v86_2), (3, .int v86_3)] → W p l e ({ frames := 27, cells := 0, slots := 0, locals := 658 }) s m (List.toArray [.ref (ad 3), .int 1]) below meth c H locs 0 0 (MQ below (va_Qv (P_X3_readTest_2 ad cy B qr s1  w0) (fun u : va_W => wpost dC dI cy A u) A) (List.toArray [.ref (ad 3), .int 1]) s 0 0 A) (F0 m 86 ls []) := by
    intro v86_2 v86_3 f86_1_4 H locs ls w1 r2 t3 r4 t5 r6 t7 hw hT hF c8 hl
    refine lv_aload_n hx hb dX3_readTest_86 rfl (lv_at hl 0 rfl) ?_
    refine lv_iload_n hx hb dX3_readTest_87 rfl (lv_at hl 2 rfl) ?_
    refine tk_Vv hC hK hw hT hA hE hSR kC_at3 (by decide) rfl (k_X3_addWaiting_1 l adK adV dC dI cy ad B (by omega) (by omega) qr s1 hqr  v86_2 (show (-1) ≤ v86_2.toInt by omega) (show v86_2.toInt ≤ 21 by omega) w1 H.size hT ) (cwV 1 hC.2.2.2.2 gX3_readTest_X3_addWaiting rfl rfl rfl (by decide +kernel) ⟨Nat.le_of_ble_eq_true rfl, Nat.le_of_ble_eq_true rfl⟩) rfl hl.1 rfl (Nat.le_of_ble_eq_true rfl) dX3_readTest_88 (fun w11 H locs hp10 hw => ?_)
    obtain ⟨hT, k12, hg13⟩ := hp10
    have hF := hF.tr k12 (by decide)
    have c14 := k12.gi kC_at1 (by decide) c8
    clear hg13
    exact tk_vret hC hr hlocks hK ⟨hT, hF, ⟨f86_1_4, c14, (show 0 ≤ f86_1_4.toInt by omega), (show f86_1_4.toInt ≤ 3204 by omega)⟩⟩ hw dX3_readTest_91
  have L9 : ∀ (n9 : Nat) (v9_2 : Int32) (v9_3 : Int32) (f9_1_4 : Int32) (H : Heap) (locs : List Loc) (ls : Array Slot) (w15 : va_W), (-1) ≤ v9_2.toInt → v9_2.toInt ≤ 21 → 0 ≤ v9_3.toInt → v9_3.toInt ≤ 400 → 0 ≤ f9_1_4.toInt → f9_1_4.toInt ≤ 3204 → (400 - v9_3.toInt).toNat < n9 → Wd dC dI A s.heap H locs w15 → TW ksC ad cy B qr s1 w15 → FE ksC [(2, 3, 3), (3, 2, 2), (6, 1, 1), (6, 3, 3), (6, 4, 4), (22, 0, 13), (23, 0, 400)] w0 w15 → gi w15 1 4 = f9_1_4 → lv_has ls 4 [(0, .ref (ad 3)), (1, .int 1), (2, .int v9_2), (3, .int v9_3)] → W p l e ({ frames := 27, cells := 0, slots := 0, locals := 658 }) s m (List.toArray [.ref (ad 3), .int 1]) below meth c H locs 0 0 (MQ below (va_Qv (P_X3_readTest_2 ad cy B qr s1  w0) (fun u : va_W => wpost dC dI cy A u) A) (List.toArray [.ref (ad 3), .int 1]) s 0 0 A) (F0 m 9 ls []) := by
    intro n9
    induction n9 with
    | zero => intro v9_2 v9_3 f9_1_4 H locs ls w15 r16 t17 r18 t19 r20 t21 hm9 hw hT hF c22 hl; omega
    | succ n9 ih9 =>
      intro v9_2 v9_3 f9_1_4 H locs ls w15 r16 t17 r18 t19 r20 t21 hm9 hw hT hF c22 hl
      have J80 : ∀ (v80_2 : Int32) (f80_1_4 : Int32) (H : Heap) (locs : List Loc) (ls : Array Slot) (w23 : va_W), (-1) ≤ v80_2.toInt → v80_2.toInt ≤ 21 → 0 ≤ v9_3.toInt → v9_3.toInt ≤ 399 → 0 ≤ f80_1_4.toInt → f80_1_4.toInt ≤ 3204 → Wd dC dI A s.heap H locs w23 → TW ksC ad cy B qr s1 w23 → FE ksC [(2, 3, 3), (3, 2, 2), (6, 1, 1), (6, 3, 3), (6, 4, 4), (22, 0, 13), (23, 0, 400)] w0 w23 → gi w23 1 4 = f80_1_4 → lv_has ls 4 [(0, .ref (ad 3)), (1, .int 1), (2, .int v80_2), (3, .int v9_3)] → W p l e ({ frames := 27, cells := 0, slots := 0, locals := 658 }) s m (List.toArray [.ref (ad 3), .int 1]) below meth c H locs 0 0 (MQ below (va_Qv (P_X3_readTest_2 ad cy B qr s1  w0) (fun u : va_W => wpost dC dI cy A u) A) (List.toArray [.ref (ad 3), .int 1]) s 0 0 A) (F0 m 80 ls []) := by
        intro v80_2 f80_1_4 H locs ls w23 r24 t25 r26 t27 r28 t29 hw hT hF c30 hl
        obtain ⟨x31, ex31⟩ : ∃ y : Int32, y = v9_3 + Int32.ofInt 1 := ⟨_, rfl⟩
        refine lv_iinc (v := x31) (lv' := [(3, .int x31), (0, .ref (ad 3)), (1, .int 1), (2, .int v80_2)]) hx hb dX3_readTest_80 hl (k := 3) rfl ex31.symm (by decide) rfl (fun ls hl => ?_)
        have ex31 : x31.toInt = v9_3.toInt + 1 := by rw [ex31]; exact wk_add (y := 1) (show -2147483648 ≤ v9_3.toInt + 1 by omega) (show v9_3.toInt + 1 ≤ 2147483647 by omega)
        refine lv_goto (tgt := 9) hx hb dX3_readTest_83 (by decide) ?_
        exact ih9 v80_2 x31 f80_1_4 H locs ls w23 (show (-1) ≤ v80_2.toInt by omega) (show v80_2.toInt ≤ 21 by omega) (show 0 ≤ x31.toInt by omega) (show x31.toInt ≤ 400 by omega) (show 0 ≤ f80_1_4.toInt by omega) (show f80_1_4.toInt ≤ 3204 by omega) (show (400 - x31.toInt).toNat < n9 by omega) hw hT hF c30 (lv_sub hl [1, 2, 3, 0] rfl)
      refine lv_iload_n hx hb dX3_readTest_9 rfl (lv_at hl 3 rfl) ?_
      refine lv_sipush (v := 400) hx hb dX3_readTest_10 (by decide) ?_
      refine lv_icmp_ge (tgt := 86) hx hb dX3_readTest_13 (by decide) (fun c32 => ?_) (fun c32 => ?_)
      · have c32 : (400 : Int) ≤ v9_3.toInt := wk_le.mp c32
        exact J86 v9_2 v9_3 f9_1_4 H locs ls w15 (show (-1) ≤ v9_2.toInt by omega) (show v9_2.toInt ≤ 21 by omega) (show 0 ≤ v9_3.toInt by omega) (show v9_3.toInt ≤ 400 by omega) (show 0 ≤ f9_1_4.toInt by omega) (show f9_1_4.toInt ≤ 3204 by omega)  hw hT hF c22 (lv_sub hl [0, 1, 2, 3] rfl)
      · have c32 : v9_3.toInt < (400 : Int) := wk_leF c32
        refine lv_aload_n hx hb dX3_readTest_16 rfl (lv_at hl 0 rfl) ?_
        refine tk_getA hC hK hw hT hinX3 kC_at3 (by decide) rfl 0 (by decide) (List.mem_of_getElem? (i := 1) rfl) rfl rfl dX3_readTest_17 ?_
        refine tk_Vi hC hK hw hT hA hE hSR kC_at1 (by decide) rfl (k_X6_isFaulty_2 l adK adV dC dI cy ad B (by omega) (by omega) qr s1    w15 H.size hT f9_1_4 c22 (show 0 ≤ f9_1_4.toInt by omega) (show f9_1_4.toInt ≤ 3204 by omega)) (cwV 0 hC.2.2.2.2 gX3_readTest_X6_isFaulty rfl rfl rfl (by decide +kernel) ⟨Nat.le_of_ble_eq_true rfl, Nat.le_of_ble_eq_true rfl⟩) rfl hl.1 rfl (Nat.le_of_ble_eq_true rfl) dX3_readTest_20 (fun r33 w35 H locs hp34 hw => ?_)
        obtain ⟨hT, k36, hg41⟩ := hp34
        have hF := hF.tr k36 (by decide)
        have c42 := k36.gi kC_at1 (by decide) c22
        rcases hg41 with ⟨rfl, ⟨x37, c38, rx37, tx37⟩⟩ | ⟨rfl, ⟨x39, c40, rx39, tx39⟩⟩
        · have ex37 : x37.toInt = f9_1_4.toInt := by rw [← c42.symm.trans c38]
          refine lv_if_ne (tgt := 86) hx hb dX3_readTest_23 (by decide) (fun c => absurd (by decide) c) (fun _ => ?_)
          refine lv_aload_n hx hb dX3_readTest_26 rfl (lv_at hl 0 rfl) ?_
          refine tk_getA hC hK hw hT hinX3 kC_at3 (by decide) rfl 0 (by decide) (List.mem_of_getElem? (i := 1) rfl) rfl rfl dX3_readTest_27 ?_
          refine va_ldcS hx hb hC.2.2.2.1 hSR.2.2.2.2.2.2.1 dX3_readTest_30 ?_
          refine tk_Vi hC hK hw hT hA hE hSR kC_at1 (by decide) rfl (k_X6_takeWord_2 l adK adV dC dI cy ad B (by omega) (by omega) qr s1    w35 H.size hT ) (cwV 1 hC.2.2.2.2 gX3_readTest_X6_takeWord rfl rfl rfl (by decide +kernel) ⟨Nat.le_of_ble_eq_true rfl, Nat.le_of_ble_eq_true rfl⟩) rfl hl.1 rfl (Nat.le_of_ble_eq_true rfl) dX3_readTest_32 (fun r43 w45 H locs hp44 hw => ?_)
          obtain ⟨hT, k46, hg49⟩ := hp44
          have hF := hF.tr k46 (by decide)
          have c50 := k46.gi kC_at1 (by decide) c42
          rcases hg49 with rfl | ⟨rfl, ⟨x47, c48, rx47, tx47⟩⟩
          · refine lv_if_eq (tgt := 55) hx hb dX3_readTest_35 (by decide) (fun _ => ?_) (fun c => absurd (by decide) c)
            refine lv_aload_n hx hb dX3_readTest_55 rfl (lv_at hl 0 rfl) ?_
            refine tk_getA hC hK hw hT hinX3 kC_at3 (by decide) rfl 0 (by decide) (List.mem_of_getElem? (i := 1) rfl) rfl rfl dX3_readTest_56 ?_
            refine va_ldcS hx hb hC.2.2.2.1 hSR.2.2.2.2.2.2.2 dX3_readTest_59 ?_
            refine tk_Vi hC hK hw hT hA hE hSR kC_at1 (by decide) rfl (k_X6_takeWord_3 l adK adV dC dI cy ad B (by omega) (by omega) qr s1    w45 H.size hT ) (cwV 1 hC.2.2.2.2 gX3_readTest_X6_takeWord rfl rfl rfl (by decide +kernel) ⟨Nat.le_of_ble_eq_true rfl, Nat.le_of_ble_eq_true rfl⟩) rfl hl.1 rfl (Nat.le_of_ble_eq_true rfl) dX3_readTest_61 (fun r51 w53 H locs hp52 hw => ?_)
            obtain ⟨hT, k54, hg57⟩ := hp52
            have hF := hF.tr k54 (by decide)
            have c58 := k54.gi kC_at1 (by decide) c50
            rcases hg57 with rfl | ⟨rfl, ⟨x55, c56, rx55, tx55⟩⟩
            · refine lv_if_eq (tgt := 86) hx hb dX3_readTest_64 (by decide) (fun _ => ?_) (fun c => absurd (by decide) c)
              exact J86 v9_2 v9_3 f9_1_4 H locs ls w53 (show (-1) ≤ v9_2.toInt by omega) (show v9_2.toInt ≤ 21 by omega) (show 0 ≤ v9_3.toInt by omega) (show v9_3.toInt ≤ 400 by omega) (show 0 ≤ f9_1_4.toInt by omega) (show f9_1_4.toInt ≤ 3204 by omega)  hw hT hF c58 (lv_sub hl [0, 1, 2, 3] rfl)
            · refine lv_if_eq (tgt := 86) hx hb dX3_readTest_64 (by decide) (fun c => absurd c (by decide)) (fun _ => ?_)
              refine lv_aload_n hx hb dX3_readTest_67 rfl (lv_at hl 0 rfl) ?_
              refine lv_iload_n hx hb dX3_readTest_68 rfl (lv_at hl 2 rfl) ?_
              refine tk_Vv hC hK hw hT hA hE hSR kC_at3 (by decide) rfl (k_X3_addWaiting_1 l adK adV dC dI cy ad B (by omega) (by omega) qr s1 hqr  v9_2 (show (-1) ≤ v9_2.toInt by omega) (show v9_2.toInt ≤ 21 by omega) w53 H.size hT ) (cwV 1 hC.2.2.2.2 gX3_readTest_X3_addWaiting rfl rfl rfl (by decide +kernel) ⟨Nat.le_of_ble_eq_true rfl, Nat.le_of_ble_eq_true rfl⟩) rfl hl.1 rfl (Nat.le_of_ble_eq_true rfl) dX3_readTest_69 (fun w61 H locs hp60 hw => ?_)
              obtain ⟨hT, k62, hg63⟩ := hp60
              have hF := hF.tr k62 (by decide)
              have c64 := k62.gi kC_at1 (by decide) c58
              have c65 := k62.gi kC_at1 (by decide) c56
              clear hg63
              refine lv_bipush (v := 21) hx hb dX3_readTest_72 (by decide) ?_
              refine lv_istore_n (lv' := [(2, .int 21), (0, .ref (ad 3)), (1, .int 1), (3, .int v9_3)]) hx hb dX3_readTest_74 rfl hl (by decide) rfl (fun ls hl => ?_)
              refine lv_aload_n hx hb dX3_readTest_75 rfl (lv_at hl 1 rfl) ?_
              refine lv_iload_n hx hb dX3_readTest_76 rfl (lv_at hl 2 rfl) ?_
              refine tk_Vv hC hK hw hT hA hE hSR kC_at3 (by decide) rfl (k_X3_readFact_2 l adK adV dC dI cy ad B (by omega) (by omega) qr s1 hqr   w61 H.size hT (c64.trans (wk_eq.mpr (show f9_1_4.toInt = 0 by omega)))) (cwV 1 hC.2.2.2.2 gX3_readTest_X3_readFact rfl rfl rfl (by decide +kernel) ⟨Nat.le_of_ble_eq_true rfl, Nat.le_of_ble_eq_true rfl⟩) rfl hl.1 rfl (Nat.le_of_ble_eq_true rfl) dX3_readTest_77 (fun w68 H locs hp67 hw => ?_)
              obtain ⟨hT, k69, hg72⟩ := hp67
              have hF := hF.tr k69 (by decide)
              obtain ⟨x70, c71, rx70, tx70⟩ := hg72
              exact J80 21 x70 H locs ls w68 (by decide) (by decide) (show 0 ≤ v9_3.toInt by omega) (show v9_3.toInt ≤ 399 by omega) (show 0 ≤ x70.toInt by omega) (show x70.toInt ≤ 3204 by omega)  hw hT hF c71 (lv_sub hl [1, 2, 0, 3] rfl)
          · refine lv_if_eq (tgt := 55) hx hb dX3_readTest_35 (by decide) (fun c => absurd c (by decide)) (fun _ => ?_)
            refine lv_aload_n hx hb dX3_readTest_38 rfl (lv_at hl 0 rfl) ?_
            refine lv_iload_n hx hb dX3_readTest_39 rfl (lv_at hl 1 rfl) ?_
            refine tk_Vv hC hK hw hT hA hE hSR kC_at3 (by decide) rfl (k_X3_readFact_2 l adK adV dC dI cy ad B (by omega) (by omega) qr s1 hqr   w45 H.size hT (c50.trans (wk_eq.mpr (show f9_1_4.toInt = 0 by omega)))) (cwV 1 hC.2.2.2.2 gX3_readTest_X3_readFact rfl rfl rfl (by decide +kernel) ⟨Nat.le_of_ble_eq_true rfl, Nat.le_of_ble_eq_true rfl⟩) rfl hl.1 rfl (Nat.le_of_ble_eq_true rfl) dX3_readTest_40 (fun w75 H locs hp74 hw => ?_)
            obtain ⟨hT, k76, hg79⟩ := hp74
            have hF := hF.tr k76 (by decide)
            obtain ⟨x77, c78, rx77, tx77⟩ := hg79
            refine lv_aload_n hx hb dX3_readTest_43 rfl (lv_at hl 0 rfl) ?_
            refine tk_getQ hC hK hw hT hqr (by decide) hinX3 kC_at3 (by decide) rfl 1 (by decide) (List.mem_of_getElem? (i := 2) rfl) rfl rfl dX3_readTest_44 ?_
            refine lv_bipush (v := 20) hx hb dX3_readTest_47 (by decide) ?_
            refine tk_Vv hC hK hw hT hA hE hSR hqr (by decide) rfl (k_X2_addToken_10 l adK adV dC dI cy ad B (by omega) (by omega) qr s1   qr hqr w75 H.size hT ) (cwV 1 hC.2.2.2.2 gX3_readTest_X2_addToken rfl rfl rfl (by decide +kernel) ⟨Nat.le_of_ble_eq_true rfl, Nat.le_of_ble_eq_true rfl⟩) rfl hl.1 rfl (Nat.le_of_ble_eq_true rfl) dX3_readTest_49 (fun w82 H locs hp81 hw => ?_)
            obtain ⟨hT, k83, hg86⟩ := hp81
            have hF := hF.tr k83 (by decide)
            have c87 := k83.gi kC_at1 (by decide) c78
            obtain ⟨x84, c85, rx84, tx84⟩ := hg86
            refine lv_goto (tgt := 80) hx hb dX3_readTest_52 (by decide) ?_
            exact J80 v9_2 x77 H locs ls w82 (show (-1) ≤ v9_2.toInt by omega) (show v9_2.toInt ≤ 21 by omega) (show 0 ≤ v9_3.toInt by omega) (show v9_3.toInt ≤ 399 by omega) (show 0 ≤ x77.toInt by omega) (show x77.toInt ≤ 3204 by omega)  hw hT hF c87 (lv_sub hl [0, 1, 2, 3] rfl)
        · have ex39 : x39.toInt = f9_1_4.toInt := by rw [← c42.symm.trans c40]
          refine lv_if_ne (tgt := 86) hx hb dX3_readTest_23 (by decide) (fun _ => ?_) (fun c => absurd c (by decide))
          exact J86 v9_2 v9_3 f9_1_4 H locs ls w35 (show (-1) ≤ v9_2.toInt by omega) (show v9_2.toInt ≤ 21 by omega) (show 0 ≤ v9_3.toInt by omega) (show v9_3.toInt ≤ 400 by omega) (show 0 ≤ f9_1_4.toInt by omega) (show f9_1_4.toInt ≤ 3204 by omega)  hw hT hF c42 (lv_sub hl [0, 1, 2, 3] rfl)
  refine lv_aload_n hx hb dX3_readTest_0 rfl (lv_at hl 0 rfl) ?_
  refine lv_iload_n hx hb dX3_readTest_1 rfl (lv_at hl 1 rfl) ?_
  refine tk_Vv hC hK hw hT hA hE hSR kC_at3 (by decide) rfl (k_X3_readFact_2 l adK adV dC dI cy ad B (by omega) (by omega) qr s1 hqr   w0 s.heap.size hT cf0_) (cwV 1 hC.2.2.2.2 gX3_readTest_X3_readFact rfl rfl rfl (by decide +kernel) ⟨Nat.le_of_ble_eq_true rfl, Nat.le_of_ble_eq_true rfl⟩) rfl hl.1 rfl (Nat.le_of_ble_eq_true rfl) dX3_readTest_2 (fun w90 H locs hp89 hw => ?_)
  obtain ⟨hT, k91, hg94⟩ := hp89
  have hF := hF.tr k91 (by decide)
  obtain ⟨x92, c93, rx92, tx92⟩ := hg94
  refine lv_iconst (v := (-1)) hx hb dX3_readTest_5 (by decide) ?_
  refine lv_istore_n (lv' := [(2, .int (-1)), (0, .ref (ad 3)), (1, .int 1)]) hx hb dX3_readTest_6 rfl hl (by decide) rfl (fun ls hl => ?_)
  refine lv_iconst (v := 0) hx hb dX3_readTest_7 (by decide) ?_
  refine lv_istore_n (lv' := [(3, .int 0), (2, .int (-1)), (0, .ref (ad 3)), (1, .int 1)]) hx hb dX3_readTest_8 rfl hl (by decide) rfl (fun ls hl => ?_)
  exact L9 ((400 - (0 : Int)).toNat + 1) (-1) 0 x92 H locs ls w90 (by decide) (by decide) (by decide) (by decide) (show 0 ≤ x92.toInt by omega) (show x92.toInt ≤ 3204 by omega) (Nat.lt_succ_self _) hw hT hF c93 (lv_sub hl [2, 3, 1, 0] rfl)
abbrev P_X3_readFact_1 (ad : Nat → Nat) (cy : Nat → ClassId) (B : Int) (qr : Nat) (s1 : Int)  (w0 : va_W) : va_W → Prop := fun u => TW ksC ad cy B qr s1 u ∧ FE ksC [(2, 3, 3), (3, 2, 2), (6, 1, 1), (6, 3, 3), (6, 4, 4), (22, 0, 13), (23, 0, 400)] w0 u ∧ (((∃ y : Int32, gi u 1 4 = y ∧ 0 ≤ y.toInt ∧ y.toInt ≤ 3204)))
set_option maxHeartbeats 4000000 in
set_option maxRecDepth 100000 in
theorem k_X3_readFact_1 (l : Launch) (adK adV : Nat → Nat) (dC : Nat → ClassId) (dI : Nat → Nat → Nat) (cy : Nat → ClassId) (ad : Nat → Nat) (B : Int) (hB0 : 2147483648 ≤ B) (hB1 : B ≤ 1152921504606846976) (qr : Nat) (s1 : Int) (hqr : ksC[qr]? = some 2)  (w0 : va_W) (sz : Nat) (hT : TW ksC ad cy B qr s1 w0) (cf0_ : gi w0 1 4 = 0) : Met l yX3_readFact wsX3_readFact ({ frames := 28, cells := 0, slots := 0, locals := 681 }) (va_Pc [.ref (ad 3), .int 0] (wpreS adK adV dC dI cy sz w0)) (va_Qv (P_X3_readFact_1 ad cy B qr s1  w0) (fun u : va_W => wpost dC dI cy (va_A w0 sz) u) (va_A w0 sz)) 0 0 (va_A w0 sz) := by
  refine Met.ofW (cc := cX3_readFact) (maxL := 5) (ret := none) (by decide) rfl ?_
  intro p e s m args below meth c s₁ Bk hml hv
  obtain ⟨rfl, ⟨hsz, hP, hK, hD0⟩, hE, hSR⟩ := hv
  have hx := Bk.exec
  have hb := Bk.bytes
  have hr := Bk.returns
  have hlocks := Bk.notSynchronized
  have hC : CallFix p m c cX3_readFact 5 s _ wsX3_readFact RX3 := ⟨hx, hb, hml, findClass_of_methodNamed Bk.named, atoms_spec (ws := wsX3_readFact) Bk.pre⟩
  subst hsz
  have hD := hD0.self (sz := s.heap.size)
  generalize hAe : va_A w0 s.heap.size = A at hD hE ⊢
  have hA : ∀ q : Nat, s.heap.size ≤ q → A q := fun q h => by rw [← hAe]; exact Or.inr h
  have hw : Wd dC dI A s.heap s.heap [] w0 := ⟨hP, hD, va_S.rf⟩
  have hF : FE ksC [(2, 3, 3), (3, 2, 2), (6, 1, 1), (6, 3, 3), (6, 4, 4), (22, 0, 13), (23, 0, 400)] w0 w0 := FE.rf
  have hl := lv_entry ([.ref (ad 3), .int 0]) (n := 5) (Nat.le_of_ble_eq_true rfl)
  rw [lg_entry_eq]
  generalize (lg_sl ([.ref (ad 3), .int 0]) ++ List.replicate (5 - (lg_sl ([.ref (ad 3), .int 0])).length) Slot.unset).toArray = ls at hl ⊢
  have hl : lv_has ls 5 [(0, .ref (ad 3)), (1, .int 0)] := hl
  generalize hloc : ([] : List Loc) = locs at hw ⊢
  have hinX3 : ∀ w ∈ u_ws RX3 TX3 3, w ∈ wsX3_readFact := fun _ h => List.mem_cons_of_mem _ (List.mem_append_left _ (List.mem_append_left _ (List.mem_append_right _ (h))))
  have J160 : ∀ (v160_2 : Int32) (v160_3 : Int32) (f160_1_4 : Int32) (H : Heap) (locs : List Loc) (ls : Array Slot) (w1 : va_W), 0 ≤ v160_2.toInt → v160_2.toInt ≤ 1 → 0 ≤ v160_3.toInt → v160_3.toInt ≤ 1 → 0 ≤ f160_1_4.toInt → f160_1_4.toInt ≤ 3204 → Wd dC dI A s.heap H locs w1 → TW ksC ad cy B qr s1 w1 → FE ksC [(2, 3, 3), (3, 2, 2), (6, 1, 1), (6, 3, 3), (6, 4, 4), (22, 0, 13), (23, 0, 400)] w0 w1 → gi w1 1 4 = f160_1_4 → lv_has ls 5 [(0, .ref (ad 3)), (1, .int 0), (2, .int v160_2), (3, .int v160_3)] → W p l e ({ frames := 28, cells := 0, slots := 0, locals := 681 }) s m (List.toArray [.ref (ad 3), .int 0]) below meth c H locs 0 0 (MQ below (va_Qv (P_X3_readFact_1 ad cy B qr s1  w0) (fun u : va_W => wpost dC dI cy A u) A) (List.toArray [.ref (ad 3), .int 0]) s 0 0 A) (F0 m 160 ls []) := by
    intro v160_2 v160_3 f160_1_4 H locs ls w1 r2 t3 r4 t5 r6 t7 hw hT hF c8 hl
    exact tk_vret hC hr hlocks hK ⟨hT, hF, ⟨f160_1_4, c8, (show 0 ≤ f160_1_4.toInt by omega), (show f160_1_4.toInt ≤ 3204 by omega)⟩⟩ hw dX3_readFact_160
  have J77 : ∀ (v77_2 : Int32) (v77_3 : Int32) (H : Heap) (locs : List Loc) (ls : Array Slot) (w9 : va_W), 0 ≤ v77_2.toInt → v77_2.toInt ≤ 1 → 0 ≤ v77_3.toInt → v77_3.toInt ≤ 1 → Wd dC dI A s.heap H locs w9 → TW ksC ad cy B qr s1 w9 → FE ksC [(2, 3, 3), (3, 2, 2), (6, 1, 1), (6, 3, 3), (6, 4, 4), (22, 0, 13), (23, 0, 400)] w0 w9 → gi w9 1 4 = 0 → lv_has ls 5 [(0, .ref (ad 3)), (1, .int 0), (2, .int v77_2), (3, .int v77_3)] → W p l e ({ frames := 28, cells := 0, slots := 0, locals := 681 }) s m (List.toArray [.ref (ad 3), .int 0]) below meth c H locs 0 0 (MQ below (va_Qv (P_X3_readFact_1 ad cy B qr s1  w0) (fun u : va_W => wpost dC dI cy A u) A) (List.toArray [.ref (ad 3), .int 0]) s 0 0 A) (F0 m 77 ls []) := by
    intro v77_2 v77_3 H locs ls w9 r10 t11 r12 t13 hw hT hF c14 hl
    refine lv_iload_n hx hb dX3_readFact_77 rfl (lv_at hl 1 rfl) ?_
    refine lv_bipush (v := 10) hx hb dX3_readFact_78 (by decide) ?_
    refine lv_icmp_lt (tgt := 101) hx hb dX3_readFact_80 (by decide) (fun _ => ?_) (fun c => absurd (by decide) c)
    refine lv_iload_n hx hb dX3_readFact_101 rfl (lv_at hl 2 rfl) ?_
    refine lv_if_eq (tgt := 124) hx hb dX3_readFact_102 (by decide) (fun c15 => ?_) (fun c15 => ?_)
    · have c15 : v77_2.toInt = (0 : Int) := wk_eq.mp c15
      refine lv_aload_n hx hb dX3_readFact_124 rfl (lv_at hl 0 rfl) ?_
      refine lv_iload_n hx hb dX3_readFact_125 rfl (lv_at hl 1 rfl) ?_
      refine lv_iconst (v := 1) hx hb dX3_readFact_126 (by decide) ?_
      refine lv_iadd hx hb dX3_readFact_127 ?_
      refine wk_top 1 (by decide) ?_
      refine tk_Vv hC hK hw hT hA hE hSR kC_at3 (by decide) rfl (k_X3_readTest_2 l adK adV dC dI cy ad B (by omega) (by omega) qr s1 hqr   w9 H.size hT c14) (cwV 1 hC.2.2.2.2 gX3_readFact_X3_readTest rfl rfl rfl (by decide +kernel) ⟨Nat.le_of_ble_eq_true rfl, Nat.le_of_ble_eq_true rfl⟩) rfl hl.1 rfl (Nat.le_of_ble_eq_true rfl) dX3_readFact_128 (fun w18 H locs hp17 hw => ?_)
      obtain ⟨hT, k19, hg22⟩ := hp17
      have hF := hF.tr k19 (by decide)
      obtain ⟨x20, c21, rx20, tx20⟩ := hg22
      refine lv_aload_n hx hb dX3_readFact_131 rfl (lv_at hl 0 rfl) ?_
      refine tk_getA hC hK hw hT hinX3 kC_at3 (by decide) rfl 0 (by decide) (List.mem_of_getElem? (i := 1) rfl) rfl rfl dX3_readFact_132 ?_
      refine tk_Vi hC hK hw hT hA hE hSR kC_at1 (by decide) rfl (k_X6_isFaulty_2 l adK adV dC dI cy ad B (by omega) (by omega) qr s1    w18 H.size hT x20 c21 (show 0 ≤ x20.toInt by omega) (show x20.toInt ≤ 3204 by omega)) (cwV 0 hC.2.2.2.2 gX3_readFact_X6_isFaulty rfl rfl rfl (by decide +kernel) ⟨Nat.le_of_ble_eq_true rfl, Nat.le_of_ble_eq_true rfl⟩) rfl hl.1 rfl (Nat.le_of_ble_eq_true rfl) dX3_readFact_135 (fun r23 w25 H locs hp24 hw => ?_)
      obtain ⟨hT, k26, hg31⟩ := hp24
      have hF := hF.tr k26 (by decide)
      have c32 := k26.gi kC_at1 (by decide) c21
      rcases hg31 with ⟨rfl, ⟨x27, c28, rx27, tx27⟩⟩ | ⟨rfl, ⟨x29, c30, rx29, tx29⟩⟩
      · have ex27 : x27.toInt = x20.toInt := by rw [← c32.symm.trans c28]
        refine lv_if_ne (tgt := 160) hx hb dX3_readFact_138 (by decide) (fun c => absurd (by decide) c) (fun _ => ?_)
        refine lv_aload_n hx hb dX3_readFact_141 rfl (lv_at hl 0 rfl) ?_
        refine tk_getA hC hK hw hT hinX3 kC_at3 (by decide) rfl 0 (by decide) (List.mem_of_getElem? (i := 1) rfl) rfl rfl dX3_readFact_142 ?_
        refine lv_bipush (v := 93) hx hb dX3_readFact_145 (by decide) ?_
        refine tk_Vi hC hK hw hT hA hE hSR kC_at1 (by decide) rfl (k_X6_takeByte_3 l adK adV dC dI cy ad B (by omega) (by omega) qr s1    w25 H.size hT ) (cwV 1 hC.2.2.2.2 gX3_readFact_X6_takeByte rfl rfl rfl (by decide +kernel) ⟨Nat.le_of_ble_eq_true rfl, Nat.le_of_ble_eq_true rfl⟩) rfl hl.1 rfl (Nat.le_of_ble_eq_true rfl) dX3_readFact_147 (fun r33 w35 H locs hp34 hw => ?_)
        obtain ⟨hT, k36, hg41⟩ := hp34
        have hF := hF.tr k36 (by decide)
        have c42 := k36.gi kC_at1 (by decide) c32
        rcases hg41 with rfl | ⟨rfl, ⟨x37, c38, rx37, tx37⟩, ⟨x39, c40, rx39, tx39⟩⟩
        · refine lv_if_ne (tgt := 160) hx hb dX3_readFact_150 (by decide) (fun c => absurd (by decide) c) (fun _ => ?_)
          refine lv_aload_n hx hb dX3_readFact_153 rfl (lv_at hl 0 rfl) ?_
          refine tk_getA hC hK hw hT hinX3 kC_at3 (by decide) rfl 0 (by decide) (List.mem_of_getElem? (i := 1) rfl) rfl rfl dX3_readFact_154 ?_
          refine tk_Vv hC hK hw hT hA hE hSR kC_at1 (by decide) rfl (k_X6_blameHere_1 l adK adV dC dI cy ad B (by omega) (by omega) qr s1    w35 H.size hT (c42.trans (wk_eq.mpr (show x20.toInt = 0 by omega)))) (cwV 0 hC.2.2.2.2 gX3_readFact_X6_blameHere rfl rfl rfl (by decide +kernel) ⟨Nat.le_of_ble_eq_true rfl, Nat.le_of_ble_eq_true rfl⟩) rfl hl.1 rfl (Nat.le_of_ble_eq_true rfl) dX3_readFact_157 (fun w45 H locs hp44 hw => ?_)
          obtain ⟨hT, k46, hg49⟩ := hp44
          have hF := hF.tr k46 (by decide)
          obtain ⟨x47, c48, rx47, tx47⟩ := hg49
          exact J160 v77_2 v77_3 x47 H locs ls w45 (show 0 ≤ v77_2.toInt by omega) (show v77_2.toInt ≤ 1 by omega) (show 0 ≤ v77_3.toInt by omega) (show v77_3.toInt ≤ 1 by omega) (show 0 ≤ x47.toInt by omega) (show x47.toInt ≤ 3204 by omega)  hw hT hF c48 (lv_sub hl [0, 1, 2, 3] rfl)
        · refine lv_if_ne (tgt := 160) hx hb dX3_readFact_150 (by decide) (fun _ => ?_) (fun c => absurd c (by decide))
          exact J160 v77_2 v77_3 x20 H locs ls w35 (show 0 ≤ v77_2.toInt by omega) (show v77_2.toInt ≤ 1 by omega) (show 0 ≤ v77_3.toInt by omega) (show v77_3.toInt ≤ 1 by omega) (show 0 ≤ x20.toInt by omega) (show x20.toInt ≤ 3204 by omega)  hw hT hF c42 (lv_sub hl [0, 1, 2, 3] rfl)
      · have ex29 : x29.toInt = x20.toInt := by rw [← c32.symm.trans c30]
        refine lv_if_ne (tgt := 160) hx hb dX3_readFact_138 (by decide) (fun _ => ?_) (fun c => absurd c (by decide))
        exact J160 v77_2 v77_3 x20 H locs ls w25 (show 0 ≤ v77_2.toInt by omega) (show v77_2.toInt ≤ 1 by omega) (show 0 ≤ v77_3.toInt by omega) (show v77_3.toInt ≤ 1 by omega) (show 0 ≤ x20.toInt by omega) (show x20.toInt ≤ 3204 by omega)  hw hT hF c32 (lv_sub hl [0, 1, 2, 3] rfl)
    · have c15 : ¬ v77_2.toInt = (0 : Int) := wk_eqF c15
      refine lv_aload_n hx hb dX3_readFact_105 rfl (lv_at hl 0 rfl) ?_
      refine lv_iload_n hx hb dX3_readFact_106 rfl (lv_at hl 1 rfl) ?_
      refine lv_iconst (v := 1) hx hb dX3_readFact_107 (by decide) ?_
      refine lv_iadd hx hb dX3_readFact_108 ?_
      refine wk_top 1 (by decide) ?_
      refine tk_Vv hC hK hw hT hA hE hSR kC_at3 (by decide) rfl (k_X3_readFact_2 l adK adV dC dI cy ad B (by omega) (by omega) qr s1 hqr   w9 H.size hT c14) (cwV 1 hC.2.2.2.2 gX3_readFact_X3_readFact rfl rfl rfl (by decide +kernel) ⟨Nat.le_of_ble_eq_true rfl, Nat.le_of_ble_eq_true rfl⟩) rfl hl.1 rfl (Nat.le_of_ble_eq_true rfl) dX3_readFact_109 (fun w52 H locs hp51 hw => ?_)
      obtain ⟨hT, k53, hg56⟩ := hp51
      have hF := hF.tr k53 (by decide)
      obtain ⟨x54, c55, rx54, tx54⟩ := hg56
      refine lv_aload_n hx hb dX3_readFact_112 rfl (lv_at hl 0 rfl) ?_
      refine tk_getQ hC hK hw hT hqr (by decide) hinX3 kC_at3 (by decide) rfl 1 (by decide) (List.mem_of_getElem? (i := 2) rfl) rfl rfl dX3_readFact_113 ?_
      refine lv_bipush (v := 19) hx hb dX3_readFact_116 (by decide) ?_
      refine tk_Vv hC hK hw hT hA hE hSR hqr (by decide) rfl (k_X2_addToken_11 l adK adV dC dI cy ad B (by omega) (by omega) qr s1   qr hqr w52 H.size hT ) (cwV 1 hC.2.2.2.2 gX3_readFact_X2_addToken rfl rfl rfl (by decide +kernel) ⟨Nat.le_of_ble_eq_true rfl, Nat.le_of_ble_eq_true rfl⟩) rfl hl.1 rfl (Nat.le_of_ble_eq_true rfl) dX3_readFact_118 (fun w59 H locs hp58 hw => ?_)
      obtain ⟨hT, k60, hg63⟩ := hp58
      have hF := hF.tr k60 (by decide)
      have c64 := k60.gi kC_at1 (by decide) c55
      obtain ⟨x61, c62, rx61, tx61⟩ := hg63
      refine lv_goto (tgt := 160) hx hb dX3_readFact_121 (by decide) ?_
      exact J160 v77_2 v77_3 x54 H locs ls w59 (show 0 ≤ v77_2.toInt by omega) (show v77_2.toInt ≤ 1 by omega) (show 0 ≤ v77_3.toInt by omega) (show v77_3.toInt ≤ 1 by omega) (show 0 ≤ x54.toInt by omega) (show x54.toInt ≤ 3204 by omega)  hw hT hF c64 (lv_sub hl [0, 1, 2, 3] rfl)
  have J41 : ∀ (v41_2 : Int32) (H : Heap) (locs : List Loc) (ls : Array Slot) (w65 : va_W), 0 ≤ v41_2.toInt → v41_2.toInt ≤ 1 → Wd dC dI A s.heap H locs w65 → TW ksC ad cy B qr s1 w65 → FE ksC [(2, 3, 3), (3, 2, 2), (6, 1, 1), (6, 3, 3), (6, 4, 4), (22, 0, 13), (23, 0, 400)] w0 w65 → gi w65 1 4 = 0 → lv_has ls 5 [(0, .ref (ad 3)), (1, .int 0), (2, .int v41_2)] → W p l e ({ frames := 28, cells := 0, slots := 0, locals := 681 }) s m (List.toArray [.ref (ad 3), .int 0]) below meth c H locs 0 0 (MQ below (va_Qv (P_X3_readFact_1 ad cy B qr s1  w0) (fun u : va_W => wpost dC dI cy A u) A) (List.toArray [.ref (ad 3), .int 0]) s 0 0 A) (F0 m 41 ls []) := by
    intro v41_2 H locs ls w65 r66 t67 hw hT hF c68 hl
    refine lv_iconst (v := 0) hx hb dX3_readFact_41 (by decide) ?_
    refine lv_istore_n (lv' := [(3, .int 0), (0, .ref (ad 3)), (1, .int 0), (2, .int v41_2)]) hx hb dX3_readFact_42 rfl hl (by decide) rfl (fun ls hl => ?_)
    refine lv_iload_n hx hb dX3_readFact_43 rfl (lv_at hl 3 rfl) ?_
    refine lv_if_ne (tgt := 77) hx hb dX3_readFact_44 (by decide) (fun c69 => ?_) (fun c69 => ?_)
    · have c69 : ¬ v41_2.toInt = (0 : Int) := wk_eqF c69
      exact J77 v41_2 0 H locs ls w65 (show 0 ≤ v41_2.toInt by omega) (show v41_2.toInt ≤ 1 by omega) (by decide) (by decide)  hw hT hF c68 (lv_sub hl [1, 2, 3, 0] rfl)
    · have c69 : v41_2.toInt = (0 : Int) := wk_eq.mp c69
      refine lv_iload_n hx hb dX3_readFact_47 rfl (lv_at hl 0 rfl) ?_
      refine lv_if_ne (tgt := 77) hx hb dX3_readFact_48 (by decide) (fun c => absurd (by decide) c) (fun _ => ?_)
      refine lv_aload_n hx hb dX3_readFact_51 rfl (lv_at hl 1 rfl) ?_
      refine tk_Vv hC hK hw hT hA hE hSR kC_at3 (by decide) rfl (k_X3_readSum_1 l adK adV dC dI cy ad B (by omega) (by omega) qr s1 hqr   w65 H.size hT c68) (cwV 0 hC.2.2.2.2 gX3_readFact_X3_readSum rfl rfl rfl (by decide +kernel) ⟨Nat.le_of_ble_eq_true rfl, Nat.le_of_ble_eq_true rfl⟩) rfl hl.1 rfl (Nat.le_of_ble_eq_true rfl) dX3_readFact_52 (fun w72 H locs hp71 hw => ?_)
      obtain ⟨hT, k73, hg76⟩ := hp71
      have hF := hF.tr k73 (by decide)
      obtain ⟨x74, c75, rx74, tx74⟩ := hg76
      refine lv_aload_n hx hb dX3_readFact_55 rfl (lv_at hl 1 rfl) ?_
      refine tk_Vi hC hK hw hT hA hE hSR kC_at3 (by decide) rfl (k_X3_readSign_1 l adK adV dC dI cy ad B (by omega) (by omega) qr s1    w72 H.size hT x74 c75 (show 0 ≤ x74.toInt by omega) (show x74.toInt ≤ 3204 by omega)) (cwV 0 hC.2.2.2.2 gX3_readFact_X3_readSign rfl rfl rfl (by decide +kernel) ⟨Nat.le_of_ble_eq_true rfl, Nat.le_of_ble_eq_true rfl⟩) rfl hl.1 rfl (Nat.le_of_ble_eq_true rfl) dX3_readFact_56 (fun r77 w79 H locs hp78 hw => ?_)
      obtain ⟨hT, k80, hg91⟩ := hp78
      have hF := hF.tr k80 (by decide)
      rcases hg91 with ⟨rfl, ⟨x81, c82, rx81, tx81⟩⟩ | ⟨g83, g84, ⟨x85, c86, rx85, tx85⟩, ⟨x87, c88, rx87, tx87⟩, ⟨x89, c90, rx89, tx89⟩⟩
      · refine lv_istore (lv' := [(4, .int 16), (3, .int 0), (0, .ref (ad 3)), (1, .int 0), (2, .int v41_2)]) hx hb dX3_readFact_59 hl (by decide) rfl (fun ls hl => ?_)
        refine lv_aload_n hx hb dX3_readFact_61 rfl (lv_at hl 2 rfl) ?_
        refine tk_Vv hC hK hw hT hA hE hSR kC_at3 (by decide) rfl (k_X3_readSum_2 l adK adV dC dI cy ad B (by omega) (by omega) qr s1 hqr   w79 H.size hT x81 c82 (show 1 ≤ x81.toInt by omega) (show x81.toInt ≤ 3204 by omega)) (cwV 0 hC.2.2.2.2 gX3_readFact_X3_readSum rfl rfl rfl (by decide +kernel) ⟨Nat.le_of_ble_eq_true rfl, Nat.le_of_ble_eq_true rfl⟩) rfl hl.1 rfl (Nat.le_of_ble_eq_true rfl) dX3_readFact_62 (fun w94 H locs hp93 hw => ?_)
        obtain ⟨hT, k95, hg98⟩ := hp93
        have hF := hF.tr k95 (by decide)
        have c99 := k95.gi kC_at1 (by decide) c82
        obtain ⟨x96, c97, rx96, tx96⟩ := hg98
        have ex96 : x96.toInt = x81.toInt := by rw [← c99.symm.trans c97]
        refine lv_aload_n hx hb dX3_readFact_65 rfl (lv_at hl 2 rfl) ?_
        refine tk_getQ hC hK hw hT hqr (by decide) hinX3 kC_at3 (by decide) rfl 1 (by decide) (List.mem_of_getElem? (i := 2) rfl) rfl rfl dX3_readFact_66 ?_
        refine lv_iload hx hb dX3_readFact_69 (lv_at hl 0 rfl) ?_
        refine tk_Vv hC hK hw hT hA hE hSR hqr (by decide) rfl (k_X2_addToken_8 l adK adV dC dI cy ad B (by omega) (by omega) qr s1   qr hqr w94 H.size hT ) (cwV 1 hC.2.2.2.2 gX3_readFact_X2_addToken rfl rfl rfl (by decide +kernel) ⟨Nat.le_of_ble_eq_true rfl, Nat.le_of_ble_eq_true rfl⟩) rfl hl.1 rfl (Nat.le_of_ble_eq_true rfl) dX3_readFact_71 (fun w102 H locs hp101 hw => ?_)
        obtain ⟨hT, k103, hg106⟩ := hp101
        have hF := hF.tr k103 (by decide)
        have c107 := k103.gi kC_at1 (by decide) c99
        obtain ⟨x104, c105, rx104, tx104⟩ := hg106
        refine lv_goto (tgt := 160) hx hb dX3_readFact_74 (by decide) ?_
        exact J160 v41_2 0 x81 H locs ls w102 (show 0 ≤ v41_2.toInt by omega) (show v41_2.toInt ≤ 1 by omega) (by decide) (by decide) (show 0 ≤ x81.toInt by omega) (show x81.toInt ≤ 3204 by omega)  hw hT hF c107 (lv_sub hl [2, 3, 4, 1] rfl)
      · refine lv_istore (lv' := [(4, .int r77), (3, .int 0), (0, .ref (ad 3)), (1, .int 0), (2, .int v41_2)]) hx hb dX3_readFact_59 hl (by decide) rfl (fun ls hl => ?_)
        refine lv_aload_n hx hb dX3_readFact_61 rfl (lv_at hl 2 rfl) ?_
        refine tk_Vv hC hK hw hT hA hE hSR kC_at3 (by decide) rfl (k_X3_readSum_3 l adK adV dC dI cy ad B (by omega) (by omega) qr s1 hqr   w79 H.size hT x89 c90 (show 0 ≤ x89.toInt by omega) (show x89.toInt ≤ 3204 by omega)) (cwV 0 hC.2.2.2.2 gX3_readFact_X3_readSum rfl rfl rfl (by decide +kernel) ⟨Nat.le_of_ble_eq_true rfl, Nat.le_of_ble_eq_true rfl⟩) rfl hl.1 rfl (Nat.le_of_ble_eq_true rfl) dX3_readFact_62 (fun w110 H locs hp109 hw => ?_)
        obtain ⟨hT, k111, hg114⟩ := hp109
        have hF := hF.tr k111 (by decide)
        have c115 := k111.gi kC_at1 (by decide) c86
        obtain ⟨x112, c113, rx112, tx112⟩ := hg114
        refine lv_aload_n hx hb dX3_readFact_65 rfl (lv_at hl 2 rfl) ?_
        refine tk_getQ hC hK hw hT hqr (by decide) hinX3 kC_at3 (by decide) rfl 1 (by decide) (List.mem_of_getElem? (i := 2) rfl) rfl rfl dX3_readFact_66 ?_
        refine lv_iload hx hb dX3_readFact_69 (lv_at hl 0 rfl) ?_
        refine tk_Vv hC hK hw hT hA hE hSR hqr (by decide) rfl (k_X2_addToken_9 l adK adV dC dI cy ad B (by omega) (by omega) qr s1   qr hqr r77 (show 14 ≤ r77.toInt by omega) (show r77.toInt ≤ 18 by omega) w110 H.size hT ) (cwV 1 hC.2.2.2.2 gX3_readFact_X2_addToken rfl rfl rfl (by decide +kernel) ⟨Nat.le_of_ble_eq_true rfl, Nat.le_of_ble_eq_true rfl⟩) rfl hl.1 rfl (Nat.le_of_ble_eq_true rfl) dX3_readFact_71 (fun w118 H locs hp117 hw => ?_)
        obtain ⟨hT, k119, hg122⟩ := hp117
        have hF := hF.tr k119 (by decide)
        have c123 := k119.gi kC_at1 (by decide) c115
        have c124 := k119.gi kC_at1 (by decide) c113
        obtain ⟨x120, c121, rx120, tx120⟩ := hg122
        refine lv_goto (tgt := 160) hx hb dX3_readFact_74 (by decide) ?_
        exact J160 v41_2 0 x112 H locs ls w118 (show 0 ≤ v41_2.toInt by omega) (show v41_2.toInt ≤ 1 by omega) (by decide) (by decide) (show 0 ≤ x112.toInt by omega) (show x112.toInt ≤ 3204 by omega)  hw hT hF c124 (lv_sub hl [2, 3, 4, 1] rfl)
  refine lv_aload_n hx hb dX3_readFact_0 rfl (lv_at hl 0 rfl) ?_
  refine tk_getA hC hK hw hT hinX3 kC_at3 (by decide) rfl 0 (by decide) (List.mem_of_getElem? (i := 1) rfl) rfl rfl dX3_readFact_1 ?_
  refine tk_Vi hC hK hw hT hA hE hSR kC_at1 (by decide) rfl (k_X6_isFaulty_3 l adK adV dC dI cy ad B (by omega) (by omega) qr s1    w0 s.heap.size hT cf0_) (cwV 0 hC.2.2.2.2 gX3_readFact_X6_isFaulty rfl rfl rfl (by decide +kernel) ⟨Nat.le_of_ble_eq_true rfl, Nat.le_of_ble_eq_true rfl⟩) rfl hl.1 rfl (Nat.le_of_ble_eq_true rfl) dX3_readFact_4 (fun r125 w127 H locs hp126 hw => ?_)
  obtain ⟨hT, k128, hg131⟩ := hp126
  have hF := hF.tr k128 (by decide)
  have c132 := k128.gi kC_at1 (by decide) cf0_
  obtain ⟨rfl, ⟨x129, c130, rx129, tx129⟩⟩ := hg131
  have ex129 : x129.toInt = (0 : Int) := by rw [show x129 = 0 from c130.symm.trans c132]; decide
  refine lv_if_eq (tgt := 11) hx hb dX3_readFact_7 (by decide) (fun _ => ?_) (fun c => absurd (by decide) c)
  refine lv_aload_n hx hb dX3_readFact_11 rfl (lv_at hl 0 rfl) ?_
  refine tk_getA hC hK hw hT hinX3 kC_at3 (by decide) rfl 0 (by decide) (List.mem_of_getElem? (i := 1) rfl) rfl rfl dX3_readFact_12 ?_
  refine va_ldcS hx hb hC.2.2.2.1 hSR.2.2.2.2.1 dX3_readFact_15 ?_
  refine tk_Vi hC hK hw hT hA hE hSR kC_at1 (by decide) rfl (k_X6_takeWord_4 l adK adV dC dI cy ad B (by omega) (by omega) qr s1    w127 H.size hT ) (cwV 1 hC.2.2.2.2 gX3_readFact_X6_takeWord rfl rfl rfl (by decide +kernel) ⟨Nat.le_of_ble_eq_true rfl, Nat.le_of_ble_eq_true rfl⟩) rfl hl.1 rfl (Nat.le_of_ble_eq_true rfl) dX3_readFact_17 (fun r133 w135 H locs hp134 hw => ?_)
  obtain ⟨hT, k136, hg139⟩ := hp134
  have hF := hF.tr k136 (by decide)
  have c140 := k136.gi kC_at1 (by decide) c132
  rcases hg139 with rfl | ⟨rfl, ⟨x137, c138, rx137, tx137⟩⟩
  · refine lv_istore_n (lv' := [(2, .int 0), (0, .ref (ad 3)), (1, .int 0)]) hx hb dX3_readFact_20 rfl hl (by decide) rfl (fun ls hl => ?_)
    refine lv_iload_n hx hb dX3_readFact_21 rfl (lv_at hl 0 rfl) ?_
    refine lv_if_ne (tgt := 41) hx hb dX3_readFact_22 (by decide) (fun c => absurd (by decide) c) (fun _ => ?_)
    refine lv_aload_n hx hb dX3_readFact_25 rfl (lv_at hl 1 rfl) ?_
    refine tk_getA hC hK hw hT hinX3 kC_at3 (by decide) rfl 0 (by decide) (List.mem_of_getElem? (i := 1) rfl) rfl rfl dX3_readFact_26 ?_
    refine lv_bipush (v := 91) hx hb dX3_readFact_29 (by decide) ?_
    refine tk_Vi hC hK hw hT hA hE hSR kC_at1 (by decide) rfl (k_X6_takeByte_2 l adK adV dC dI cy ad B (by omega) (by omega) qr s1    w135 H.size hT ) (cwV 1 hC.2.2.2.2 gX3_readFact_X6_takeByte rfl rfl rfl (by decide +kernel) ⟨Nat.le_of_ble_eq_true rfl, Nat.le_of_ble_eq_true rfl⟩) rfl hl.1 rfl (Nat.le_of_ble_eq_true rfl) dX3_readFact_31 (fun r141 w143 H locs hp142 hw => ?_)
    obtain ⟨hT, k144, hg149⟩ := hp142
    have hF := hF.tr k144 (by decide)
    have c150 := k144.gi kC_at1 (by decide) c140
    rcases hg149 with rfl | ⟨rfl, ⟨x145, c146, rx145, tx145⟩, ⟨x147, c148, rx147, tx147⟩⟩
    · refine lv_if_eq (tgt := 41) hx hb dX3_readFact_34 (by decide) (fun _ => ?_) (fun c => absurd (by decide) c)
      exact J41 0 H locs ls w143 (by decide) (by decide)  hw hT hF c150 (lv_sub hl [1, 2, 0] rfl)
    · refine lv_if_eq (tgt := 41) hx hb dX3_readFact_34 (by decide) (fun c => absurd c (by decide)) (fun _ => ?_)
      refine lv_iconst (v := 1) hx hb dX3_readFact_37 (by decide) ?_
      refine lv_goto (tgt := 42) hx hb dX3_readFact_38 (by decide) ?_
      refine lv_istore_n (lv' := [(3, .int 1), (2, .int 0), (0, .ref (ad 3)), (1, .int 0)]) hx hb dX3_readFact_42 rfl hl (by decide) rfl (fun ls hl => ?_)
      refine lv_iload_n hx hb dX3_readFact_43 rfl (lv_at hl 1 rfl) ?_
      refine lv_if_ne (tgt := 77) hx hb dX3_readFact_44 (by decide) (fun c => absurd (by decide) c) (fun _ => ?_)
      refine lv_iload_n hx hb dX3_readFact_47 rfl (lv_at hl 0 rfl) ?_
      refine lv_if_ne (tgt := 77) hx hb dX3_readFact_48 (by decide) (fun _ => ?_) (fun c => absurd c (by decide))
      exact J77 0 1 H locs ls w143 (by decide) (by decide) (by decide) (by decide)  hw hT hF c150 (lv_sub hl [2, 3, 1, 0] rfl)
  · refine lv_istore_n (lv' := [(2, .int 1), (0, .ref (ad 3)), (1, .int 0)]) hx hb dX3_readFact_20 rfl hl (by decide) rfl (fun ls hl => ?_)
    refine lv_iload_n hx hb dX3_readFact_21 rfl (lv_at hl 0 rfl) ?_
    refine lv_if_ne (tgt := 41) hx hb dX3_readFact_22 (by decide) (fun _ => ?_) (fun c => absurd c (by decide))
    exact J41 1 H locs ls w135 (by decide) (by decide)  hw hT hF c140 (lv_sub hl [1, 2, 0] rfl)
abbrev P_X3_readTest_1 (ad : Nat → Nat) (cy : Nat → ClassId) (B : Int) (qr : Nat) (s1 : Int)  (w0 : va_W) : va_W → Prop := fun u => TW ksC ad cy B qr s1 u ∧ FE ksC [(2, 3, 3), (3, 2, 2), (6, 1, 1), (6, 3, 3), (6, 4, 4), (22, 0, 13), (23, 0, 400)] w0 u ∧ (((∃ y : Int32, gi u 1 4 = y ∧ 0 ≤ y.toInt ∧ y.toInt ≤ 3204)))
set_option maxHeartbeats 4000000 in
set_option maxRecDepth 100000 in
theorem k_X3_readTest_1 (l : Launch) (adK adV : Nat → Nat) (dC : Nat → ClassId) (dI : Nat → Nat → Nat) (cy : Nat → ClassId) (ad : Nat → Nat) (B : Int) (hB0 : 2147483648 ≤ B) (hB1 : B ≤ 1152921504606846976) (qr : Nat) (s1 : Int) (hqr : ksC[qr]? = some 2)  (w0 : va_W) (sz : Nat) (hT : TW ksC ad cy B qr s1 w0) (cf0_ : gi w0 1 4 = 0) : Met l yX3_readTest wsX3_readTest ({ frames := 29, cells := 0, slots := 0, locals := 705 }) (va_Pc [.ref (ad 3), .int 0] (wpreS adK adV dC dI cy sz w0)) (va_Qv (P_X3_readTest_1 ad cy B qr s1  w0) (fun u : va_W => wpost dC dI cy (va_A w0 sz) u) (va_A w0 sz)) 0 0 (va_A w0 sz) := by
  refine Met.ofW (cc := cX3_readTest) (maxL := 4) (ret := none) (by decide) rfl ?_
  intro p e s m args below meth c s₁ Bk hml hv
  obtain ⟨rfl, ⟨hsz, hP, hK, hD0⟩, hE, hSR⟩ := hv
  have hx := Bk.exec
  have hb := Bk.bytes
  have hr := Bk.returns
  have hlocks := Bk.notSynchronized
  have hC : CallFix p m c cX3_readTest 4 s _ wsX3_readTest RX3 := ⟨hx, hb, hml, findClass_of_methodNamed Bk.named, atoms_spec (ws := wsX3_readTest) Bk.pre⟩
  subst hsz
  have hD := hD0.self (sz := s.heap.size)
  generalize hAe : va_A w0 s.heap.size = A at hD hE ⊢
  have hA : ∀ q : Nat, s.heap.size ≤ q → A q := fun q h => by rw [← hAe]; exact Or.inr h
  have hw : Wd dC dI A s.heap s.heap [] w0 := ⟨hP, hD, va_S.rf⟩
  have hF : FE ksC [(2, 3, 3), (3, 2, 2), (6, 1, 1), (6, 3, 3), (6, 4, 4), (22, 0, 13), (23, 0, 400)] w0 w0 := FE.rf
  have hl := lv_entry ([.ref (ad 3), .int 0]) (n := 4) (Nat.le_of_ble_eq_true rfl)
  rw [lg_entry_eq]
  generalize (lg_sl ([.ref (ad 3), .int 0]) ++ List.replicate (4 - (lg_sl ([.ref (ad 3), .int 0])).length) Slot.unset).toArray = ls at hl ⊢
  have hl : lv_has ls 4 [(0, .ref (ad 3)), (1, .int 0)] := hl
  generalize hloc : ([] : List Loc) = locs at hw ⊢
  have hinX3 : ∀ w ∈ u_ws RX3 TX3 3, w ∈ wsX3_readTest := fun _ h => List.mem_cons_of_mem _ (List.mem_append_left _ (List.mem_append_left _ (List.mem_append_right _ (h))))
  have J86 : ∀ (v86_2 : Int32) (v86_3 : Int32) (f86_1_4 : Int32) (H : Heap) (locs : List Loc) (ls : Array Slot) (w1 : va_W), (-1) ≤ v86_2.toInt → v86_2.toInt ≤ 21 → 0 ≤ v86_3.toInt → v86_3.toInt ≤ 400 → 0 ≤ f86_1_4.toInt → f86_1_4.toInt ≤ 3204 → Wd dC dI A s.heap H locs w1 → TW ksC ad cy B qr s1 w1 → FE ksC [(2, 3, 3), (3, 2, 2), (6, 1, 1), (6, 3, 3), (6, 4, 4), (22, 0, 13), (23, 0, 400)] w0 w1 → gi w1 1 4 = f86_1_4 → lv_has ls 4 [(0, .ref (ad 3)), (1, .int 0), (2, .int v86_2), (3, .int v86_3)] → W p l e ({ frames := 29, cells := 0, slots := 0, locals := 705 }) s m (List.toArray [.ref (ad 3), .int 0]) below meth c H locs 0 0 (MQ below (va_Qv (P_X3_readTest_1 ad cy B qr s1  w0) (fun u : va_W => wpost dC dI cy A u) A) (List.toArray [.ref (ad 3), .int 0]) s 0 0 A) (F0 m 86 ls []) := by
    intro v86_2 v86_3 f86_1_4 H locs ls w1 r2 t3 r4 t5 r6 t7 hw hT hF c8 hl
    refine lv_aload_n hx hb dX3_readTest_86 rfl (lv_at hl 0 rfl) ?_
    refine lv_iload_n hx hb dX3_readTest_87 rfl (lv_at hl 2 rfl) ?_
    refine tk_Vv hC hK hw hT hA hE hSR kC_at3 (by decide) rfl (k_X3_addWaiting_1 l adK adV dC dI cy ad B (by omega) (by omega) qr s1 hqr  v86_2 (show (-1) ≤ v86_2.toInt by omega) (show v86_2.toInt ≤ 21 by omega) w1 H.size hT ) (cwV 1 hC.2.2.2.2 gX3_readTest_X3_addWaiting rfl rfl rfl (by decide +kernel) ⟨Nat.le_of_ble_eq_true rfl, Nat.le_of_ble_eq_true rfl⟩) rfl hl.1 rfl (Nat.le_of_ble_eq_true rfl) dX3_readTest_88 (fun w11 H locs hp10 hw => ?_)
    obtain ⟨hT, k12, hg13⟩ := hp10
    have hF := hF.tr k12 (by decide)
    have c14 := k12.gi kC_at1 (by decide) c8
    clear hg13
    exact tk_vret hC hr hlocks hK ⟨hT, hF, ⟨f86_1_4, c14, (show 0 ≤ f86_1_4.toInt by omega), (show f86_1_4.toInt ≤ 3204 by omega)⟩⟩ hw dX3_readTest_91
  have L9 : ∀ (n9 : Nat) (v9_2 : Int32) (v9_3 : Int32) (f9_1_4 : Int32) (H : Heap) (locs : List Loc) (ls : Array Slot) (w15 : va_W), (-1) ≤ v9_2.toInt → v9_2.toInt ≤ 21 → 0 ≤ v9_3.toInt → v9_3.toInt ≤ 400 → 0 ≤ f9_1_4.toInt → f9_1_4.toInt ≤ 3204 → (400 - v9_3.toInt).toNat < n9 → Wd dC dI A s.heap H locs w15 → TW ksC ad cy B qr s1 w15 → FE ksC [(2, 3, 3), (3, 2, 2), (6, 1, 1), (6, 3, 3), (6, 4, 4), (22, 0, 13), (23, 0, 400)] w0 w15 → gi w15 1 4 = f9_1_4 → lv_has ls 4 [(0, .ref (ad 3)), (1, .int 0), (2, .int v9_2), (3, .int v9_3)] → W p l e ({ frames := 29, cells := 0, slots := 0, locals := 705 }) s m (List.toArray [.ref (ad 3), .int 0]) below meth c H locs 0 0 (MQ below (va_Qv (P_X3_readTest_1 ad cy B qr s1  w0) (fun u : va_W => wpost dC dI cy A u) A) (List.toArray [.ref (ad 3), .int 0]) s 0 0 A) (F0 m 9 ls []) := by
    intro n9
    induction n9 with
    | zero => intro v9_2 v9_3 f9_1_4 H locs ls w15 r16 t17 r18 t19 r20 t21 hm9 hw hT hF c22 hl; omega
    | succ n9 ih9 =>
      intro v9_2 v9_3 f9_1_4 H locs ls w15 r16 t17 r18 t19 r20 t21 hm9 hw hT hF c22 hl
      have J80 : ∀ (v80_2 : Int32) (f80_1_4 : Int32) (H : Heap) (locs : List Loc) (ls : Array Slot) (w23 : va_W), (-1) ≤ v80_2.toInt → v80_2.toInt ≤ 21 → 0 ≤ v9_3.toInt → v9_3.toInt ≤ 399 → 0 ≤ f80_1_4.toInt → f80_1_4.toInt ≤ 3204 → Wd dC dI A s.heap H locs w23 → TW ksC ad cy B qr s1 w23 → FE ksC [(2, 3, 3), (3, 2, 2), (6, 1, 1), (6, 3, 3), (6, 4, 4), (22, 0, 13), (23, 0, 400)] w0 w23 → gi w23 1 4 = f80_1_4 → lv_has ls 4 [(0, .ref (ad 3)), (1, .int 0), (2, .int v80_2), (3, .int v9_3)] → W p l e ({ frames := 29, cells := 0, slots := 0, locals := 705 }) s m (List.toArray [.ref (ad 3), .int 0]) below meth c H locs 0 0 (MQ below (va_Qv (P_X3_readTest_1 ad cy B qr s1  w0) (fun u : va_W => wpost dC dI cy A u) A) (List.toArray [.ref (ad 3), .int 0]) s 0 0 A) (F0 m 80 ls []) := by
        intro v80_2 f80_1_4 H locs ls w23 r24 t25 r26 t27 r28 t29 hw hT hF c30 hl
        obtain ⟨x31, ex31⟩ : ∃ y : Int32, y = v9_3 + Int32.ofInt 1 := ⟨_, rfl⟩
        refine lv_iinc (v := x31) (lv' := [(3, .int x31), (0, .ref (ad 3)), (1, .int 0), (2, .int v80_2)]) hx hb dX3_readTest_80 hl (k := 3) rfl ex31.symm (by decide) rfl (fun ls hl => ?_)
        have ex31 : x31.toInt = v9_3.toInt + 1 := by rw [ex31]; exact wk_add (y := 1) (show -2147483648 ≤ v9_3.toInt + 1 by omega) (show v9_3.toInt + 1 ≤ 2147483647 by omega)
        refine lv_goto (tgt := 9) hx hb dX3_readTest_83 (by decide) ?_
        exact ih9 v80_2 x31 f80_1_4 H locs ls w23 (show (-1) ≤ v80_2.toInt by omega) (show v80_2.toInt ≤ 21 by omega) (show 0 ≤ x31.toInt by omega) (show x31.toInt ≤ 400 by omega) (show 0 ≤ f80_1_4.toInt by omega) (show f80_1_4.toInt ≤ 3204 by omega) (show (400 - x31.toInt).toNat < n9 by omega) hw hT hF c30 (lv_sub hl [1, 2, 3, 0] rfl)
      refine lv_iload_n hx hb dX3_readTest_9 rfl (lv_at hl 3 rfl) ?_
      refine lv_sipush (v := 400) hx hb dX3_readTest_10 (by decide) ?_
      refine lv_icmp_ge (tgt := 86) hx hb dX3_readTest_13 (by decide) (fun c32 => ?_) (fun c32 => ?_)
      · have c32 : (400 : Int) ≤ v9_3.toInt := wk_le.mp c32
        exact J86 v9_2 v9_3 f9_1_4 H locs ls w15 (show (-1) ≤ v9_2.toInt by omega) (show v9_2.toInt ≤ 21 by omega) (show 0 ≤ v9_3.toInt by omega) (show v9_3.toInt ≤ 400 by omega) (show 0 ≤ f9_1_4.toInt by omega) (show f9_1_4.toInt ≤ 3204 by omega)  hw hT hF c22 (lv_sub hl [0, 1, 2, 3] rfl)
      · have c32 : v9_3.toInt < (400 : Int) := wk_leF c32
        refine lv_aload_n hx hb dX3_readTest_16 rfl (lv_at hl 0 rfl) ?_
        refine tk_getA hC hK hw hT hinX3 kC_at3 (by decide) rfl 0 (by decide) (List.mem_of_getElem? (i := 1) rfl) rfl rfl dX3_readTest_17 ?_
        refine tk_Vi hC hK hw hT hA hE hSR kC_at1 (by decide) rfl (k_X6_isFaulty_2 l adK adV dC dI cy ad B (by omega) (by omega) qr s1    w15 H.size hT f9_1_4 c22 (show 0 ≤ f9_1_4.toInt by omega) (show f9_1_4.toInt ≤ 3204 by omega)) (cwV 0 hC.2.2.2.2 gX3_readTest_X6_isFaulty rfl rfl rfl (by decide +kernel) ⟨Nat.le_of_ble_eq_true rfl, Nat.le_of_ble_eq_true rfl⟩) rfl hl.1 rfl (Nat.le_of_ble_eq_true rfl) dX3_readTest_20 (fun r33 w35 H locs hp34 hw => ?_)
        obtain ⟨hT, k36, hg41⟩ := hp34
        have hF := hF.tr k36 (by decide)
        have c42 := k36.gi kC_at1 (by decide) c22
        rcases hg41 with ⟨rfl, ⟨x37, c38, rx37, tx37⟩⟩ | ⟨rfl, ⟨x39, c40, rx39, tx39⟩⟩
        · have ex37 : x37.toInt = f9_1_4.toInt := by rw [← c42.symm.trans c38]
          refine lv_if_ne (tgt := 86) hx hb dX3_readTest_23 (by decide) (fun c => absurd (by decide) c) (fun _ => ?_)
          refine lv_aload_n hx hb dX3_readTest_26 rfl (lv_at hl 0 rfl) ?_
          refine tk_getA hC hK hw hT hinX3 kC_at3 (by decide) rfl 0 (by decide) (List.mem_of_getElem? (i := 1) rfl) rfl rfl dX3_readTest_27 ?_
          refine va_ldcS hx hb hC.2.2.2.1 hSR.2.2.2.2.2.2.1 dX3_readTest_30 ?_
          refine tk_Vi hC hK hw hT hA hE hSR kC_at1 (by decide) rfl (k_X6_takeWord_2 l adK adV dC dI cy ad B (by omega) (by omega) qr s1    w35 H.size hT ) (cwV 1 hC.2.2.2.2 gX3_readTest_X6_takeWord rfl rfl rfl (by decide +kernel) ⟨Nat.le_of_ble_eq_true rfl, Nat.le_of_ble_eq_true rfl⟩) rfl hl.1 rfl (Nat.le_of_ble_eq_true rfl) dX3_readTest_32 (fun r43 w45 H locs hp44 hw => ?_)
          obtain ⟨hT, k46, hg49⟩ := hp44
          have hF := hF.tr k46 (by decide)
          have c50 := k46.gi kC_at1 (by decide) c42
          rcases hg49 with rfl | ⟨rfl, ⟨x47, c48, rx47, tx47⟩⟩
          · refine lv_if_eq (tgt := 55) hx hb dX3_readTest_35 (by decide) (fun _ => ?_) (fun c => absurd (by decide) c)
            refine lv_aload_n hx hb dX3_readTest_55 rfl (lv_at hl 0 rfl) ?_
            refine tk_getA hC hK hw hT hinX3 kC_at3 (by decide) rfl 0 (by decide) (List.mem_of_getElem? (i := 1) rfl) rfl rfl dX3_readTest_56 ?_
            refine va_ldcS hx hb hC.2.2.2.1 hSR.2.2.2.2.2.2.2 dX3_readTest_59 ?_
            refine tk_Vi hC hK hw hT hA hE hSR kC_at1 (by decide) rfl (k_X6_takeWord_3 l adK adV dC dI cy ad B (by omega) (by omega) qr s1    w45 H.size hT ) (cwV 1 hC.2.2.2.2 gX3_readTest_X6_takeWord rfl rfl rfl (by decide +kernel) ⟨Nat.le_of_ble_eq_true rfl, Nat.le_of_ble_eq_true rfl⟩) rfl hl.1 rfl (Nat.le_of_ble_eq_true rfl) dX3_readTest_61 (fun r51 w53 H locs hp52 hw => ?_)
            obtain ⟨hT, k54, hg57⟩ := hp52
            have hF := hF.tr k54 (by decide)
            have c58 := k54.gi kC_at1 (by decide) c50
            rcases hg57 with rfl | ⟨rfl, ⟨x55, c56, rx55, tx55⟩⟩
            · refine lv_if_eq (tgt := 86) hx hb dX3_readTest_64 (by decide) (fun _ => ?_) (fun c => absurd (by decide) c)
              exact J86 v9_2 v9_3 f9_1_4 H locs ls w53 (show (-1) ≤ v9_2.toInt by omega) (show v9_2.toInt ≤ 21 by omega) (show 0 ≤ v9_3.toInt by omega) (show v9_3.toInt ≤ 400 by omega) (show 0 ≤ f9_1_4.toInt by omega) (show f9_1_4.toInt ≤ 3204 by omega)  hw hT hF c58 (lv_sub hl [0, 1, 2, 3] rfl)
            · refine lv_if_eq (tgt := 86) hx hb dX3_readTest_64 (by decide) (fun c => absurd c (by decide)) (fun _ => ?_)
              refine lv_aload_n hx hb dX3_readTest_67 rfl (lv_at hl 0 rfl) ?_
              refine lv_iload_n hx hb dX3_readTest_68 rfl (lv_at hl 2 rfl) ?_
              refine tk_Vv hC hK hw hT hA hE hSR kC_at3 (by decide) rfl (k_X3_addWaiting_1 l adK adV dC dI cy ad B (by omega) (by omega) qr s1 hqr  v9_2 (show (-1) ≤ v9_2.toInt by omega) (show v9_2.toInt ≤ 21 by omega) w53 H.size hT ) (cwV 1 hC.2.2.2.2 gX3_readTest_X3_addWaiting rfl rfl rfl (by decide +kernel) ⟨Nat.le_of_ble_eq_true rfl, Nat.le_of_ble_eq_true rfl⟩) rfl hl.1 rfl (Nat.le_of_ble_eq_true rfl) dX3_readTest_69 (fun w61 H locs hp60 hw => ?_)
              obtain ⟨hT, k62, hg63⟩ := hp60
              have hF := hF.tr k62 (by decide)
              have c64 := k62.gi kC_at1 (by decide) c58
              have c65 := k62.gi kC_at1 (by decide) c56
              clear hg63
              refine lv_bipush (v := 21) hx hb dX3_readTest_72 (by decide) ?_
              refine lv_istore_n (lv' := [(2, .int 21), (0, .ref (ad 3)), (1, .int 0), (3, .int v9_3)]) hx hb dX3_readTest_74 rfl hl (by decide) rfl (fun ls hl => ?_)
              refine lv_aload_n hx hb dX3_readTest_75 rfl (lv_at hl 1 rfl) ?_
              refine lv_iload_n hx hb dX3_readTest_76 rfl (lv_at hl 2 rfl) ?_
              refine tk_Vv hC hK hw hT hA hE hSR kC_at3 (by decide) rfl (k_X3_readFact_1 l adK adV dC dI cy ad B (by omega) (by omega) qr s1 hqr   w61 H.size hT (c64.trans (wk_eq.mpr (show f9_1_4.toInt = 0 by omega)))) (cwV 1 hC.2.2.2.2 gX3_readTest_X3_readFact rfl rfl rfl (by decide +kernel) ⟨Nat.le_of_ble_eq_true rfl, Nat.le_of_ble_eq_true rfl⟩) rfl hl.1 rfl (Nat.le_of_ble_eq_true rfl) dX3_readTest_77 (fun w68 H locs hp67 hw => ?_)
              obtain ⟨hT, k69, hg72⟩ := hp67
              have hF := hF.tr k69 (by decide)
              obtain ⟨x70, c71, rx70, tx70⟩ := hg72
              exact J80 21 x70 H locs ls w68 (by decide) (by decide) (show 0 ≤ v9_3.toInt by omega) (show v9_3.toInt ≤ 399 by omega) (show 0 ≤ x70.toInt by omega) (show x70.toInt ≤ 3204 by omega)  hw hT hF c71 (lv_sub hl [1, 2, 0, 3] rfl)
          · refine lv_if_eq (tgt := 55) hx hb dX3_readTest_35 (by decide) (fun c => absurd c (by decide)) (fun _ => ?_)
            refine lv_aload_n hx hb dX3_readTest_38 rfl (lv_at hl 0 rfl) ?_
            refine lv_iload_n hx hb dX3_readTest_39 rfl (lv_at hl 1 rfl) ?_
            refine tk_Vv hC hK hw hT hA hE hSR kC_at3 (by decide) rfl (k_X3_readFact_1 l adK adV dC dI cy ad B (by omega) (by omega) qr s1 hqr   w45 H.size hT (c50.trans (wk_eq.mpr (show f9_1_4.toInt = 0 by omega)))) (cwV 1 hC.2.2.2.2 gX3_readTest_X3_readFact rfl rfl rfl (by decide +kernel) ⟨Nat.le_of_ble_eq_true rfl, Nat.le_of_ble_eq_true rfl⟩) rfl hl.1 rfl (Nat.le_of_ble_eq_true rfl) dX3_readTest_40 (fun w75 H locs hp74 hw => ?_)
            obtain ⟨hT, k76, hg79⟩ := hp74
            have hF := hF.tr k76 (by decide)
            obtain ⟨x77, c78, rx77, tx77⟩ := hg79
            refine lv_aload_n hx hb dX3_readTest_43 rfl (lv_at hl 0 rfl) ?_
            refine tk_getQ hC hK hw hT hqr (by decide) hinX3 kC_at3 (by decide) rfl 1 (by decide) (List.mem_of_getElem? (i := 2) rfl) rfl rfl dX3_readTest_44 ?_
            refine lv_bipush (v := 20) hx hb dX3_readTest_47 (by decide) ?_
            refine tk_Vv hC hK hw hT hA hE hSR hqr (by decide) rfl (k_X2_addToken_10 l adK adV dC dI cy ad B (by omega) (by omega) qr s1   qr hqr w75 H.size hT ) (cwV 1 hC.2.2.2.2 gX3_readTest_X2_addToken rfl rfl rfl (by decide +kernel) ⟨Nat.le_of_ble_eq_true rfl, Nat.le_of_ble_eq_true rfl⟩) rfl hl.1 rfl (Nat.le_of_ble_eq_true rfl) dX3_readTest_49 (fun w82 H locs hp81 hw => ?_)
            obtain ⟨hT, k83, hg86⟩ := hp81
            have hF := hF.tr k83 (by decide)
            have c87 := k83.gi kC_at1 (by decide) c78
            obtain ⟨x84, c85, rx84, tx84⟩ := hg86
            refine lv_goto (tgt := 80) hx hb dX3_readTest_52 (by decide) ?_
            exact J80 v9_2 x77 H locs ls w82 (show (-1) ≤ v9_2.toInt by omega) (show v9_2.toInt ≤ 21 by omega) (show 0 ≤ v9_3.toInt by omega) (show v9_3.toInt ≤ 399 by omega) (show 0 ≤ x77.toInt by omega) (show x77.toInt ≤ 3204 by omega)  hw hT hF c87 (lv_sub hl [0, 1, 2, 3] rfl)
        · have ex39 : x39.toInt = f9_1_4.toInt := by rw [← c42.symm.trans c40]
          refine lv_if_ne (tgt := 86) hx hb dX3_readTest_23 (by decide) (fun _ => ?_) (fun c => absurd c (by decide))
          exact J86 v9_2 v9_3 f9_1_4 H locs ls w35 (show (-1) ≤ v9_2.toInt by omega) (show v9_2.toInt ≤ 21 by omega) (show 0 ≤ v9_3.toInt by omega) (show v9_3.toInt ≤ 400 by omega) (show 0 ≤ f9_1_4.toInt by omega) (show f9_1_4.toInt ≤ 3204 by omega)  hw hT hF c42 (lv_sub hl [0, 1, 2, 3] rfl)
  refine lv_aload_n hx hb dX3_readTest_0 rfl (lv_at hl 0 rfl) ?_
  refine lv_iload_n hx hb dX3_readTest_1 rfl (lv_at hl 1 rfl) ?_
  refine tk_Vv hC hK hw hT hA hE hSR kC_at3 (by decide) rfl (k_X3_readFact_1 l adK adV dC dI cy ad B (by omega) (by omega) qr s1 hqr   w0 s.heap.size hT cf0_) (cwV 1 hC.2.2.2.2 gX3_readTest_X3_readFact rfl rfl rfl (by decide +kernel) ⟨Nat.le_of_ble_eq_true rfl, Nat.le_of_ble_eq_true rfl⟩) rfl hl.1 rfl (Nat.le_of_ble_eq_true rfl) dX3_readTest_2 (fun w90 H locs hp89 hw => ?_)
  obtain ⟨hT, k91, hg94⟩ := hp89
  have hF := hF.tr k91 (by decide)
  obtain ⟨x92, c93, rx92, tx92⟩ := hg94
  refine lv_iconst (v := (-1)) hx hb dX3_readTest_5 (by decide) ?_
  refine lv_istore_n (lv' := [(2, .int (-1)), (0, .ref (ad 3)), (1, .int 0)]) hx hb dX3_readTest_6 rfl hl (by decide) rfl (fun ls hl => ?_)
  refine lv_iconst (v := 0) hx hb dX3_readTest_7 (by decide) ?_
  refine lv_istore_n (lv' := [(3, .int 0), (2, .int (-1)), (0, .ref (ad 3)), (1, .int 0)]) hx hb dX3_readTest_8 rfl hl (by decide) rfl (fun ls hl => ?_)
  exact L9 ((400 - (0 : Int)).toNat + 1) (-1) 0 x92 H locs ls w90 (by decide) (by decide) (by decide) (by decide) (show 0 ≤ x92.toInt by omega) (show x92.toInt ≤ 3204 by omega) (Nat.lt_succ_self _) hw hT hF c93 (lv_sub hl [2, 3, 1, 0] rfl)
abbrev P_X6_blame_7 (ad : Nat → Nat) (cy : Nat → ClassId) (B : Int) (qr : Nat) (s1 : Int) (a1 : Int32) (w0 : va_W) : va_W → Prop := fun u => TW ksC ad cy B qr s1 u ∧ FE ksC [(6, 4, 4)] w0 u ∧ (((∃ y : Int32, gi u 1 4 = y ∧ 1 ≤ y.toInt ∧ y.toInt ≤ 3205)))
set_option maxHeartbeats 4000000 in
set_option maxRecDepth 100000 in
theorem k_X6_blame_7 (l : Launch) (adK adV : Nat → Nat) (dC : Nat → ClassId) (dI : Nat → Nat → Nat) (cy : Nat → ClassId) (ad : Nat → Nat) (B : Int) (hB0 : 2147483648 ≤ B) (hB1 : B ≤ 1152921504606846976) (qr : Nat) (s1 : Int)  (a1 : Int32) (ra1 : 0 ≤ a1.toInt) (ta1 : a1.toInt ≤ 400) (w0 : va_W) (sz : Nat) (hT : TW ksC ad cy B qr s1 w0)  : Met l yX6_blame wsX6_blame ({ frames := 1, cells := 0, slots := 0, locals := 12 }) (va_Pc [.ref (ad 1), .int a1, .int 0] (wpreS adK adV dC dI cy sz w0)) (va_Qv (P_X6_blame_7 ad cy B qr s1 a1 w0) (fun u : va_W => wpost dC dI cy (va_A w0 sz) u) (va_A w0 sz)) 0 0 (va_A w0 sz) := by
  refine Met.ofW (cc := cX6_blame) (maxL := 3) (ret := none) (by decide) rfl ?_
  intro p e s m args below meth c s₁ Bk hml hv
  obtain ⟨rfl, ⟨hsz, hP, hK, hD0⟩, hE, hSR⟩ := hv
  have hx := Bk.exec
  have hb := Bk.bytes
  have hr := Bk.returns
  have hlocks := Bk.notSynchronized
  have hC : CallFix p m c cX6_blame 3 s _ wsX6_blame RX6 := ⟨hx, hb, hml, findClass_of_methodNamed Bk.named, atoms_spec (ws := wsX6_blame) Bk.pre⟩
  subst hsz
  have hD := hD0.self (sz := s.heap.size)
  generalize hAe : va_A w0 s.heap.size = A at hD hE ⊢
  have hA : ∀ q : Nat, s.heap.size ≤ q → A q := fun q h => by rw [← hAe]; exact Or.inr h
  have hw : Wd dC dI A s.heap s.heap [] w0 := ⟨hP, hD, va_S.rf⟩
  have hF : FE ksC [(6, 4, 4)] w0 w0 := FE.rf
  have hl := lv_entry ([.ref (ad 1), .int a1, .int 0]) (n := 3) (Nat.le_of_ble_eq_true rfl)
  rw [lg_entry_eq]
  generalize (lg_sl ([.ref (ad 1), .int a1, .int 0]) ++ List.replicate (3 - (lg_sl ([.ref (ad 1), .int a1, .int 0])).length) Slot.unset).toArray = ls at hl ⊢
  have hl : lv_has ls 3 [(0, .ref (ad 1)), (1, .int a1), (2, .int 0)] := hl
  generalize hloc : ([] : List Loc) = locs at hw ⊢
  have hinX6 : ∀ w ∈ u_ws RX6 TX6 5, w ∈ wsX6_blame := fun _ h => List.mem_cons_of_mem _ (List.mem_append_right _ (h))
  have J19 : ∀ (f19_1_4 : Int32) (H : Heap) (locs : List Loc) (ls : Array Slot) (w1 : va_W), 0 ≤ a1.toInt → a1.toInt ≤ 400 → 1 ≤ f19_1_4.toInt → f19_1_4.toInt ≤ 3205 → Wd dC dI A s.heap H locs w1 → TW ksC ad cy B qr s1 w1 → FE ksC [(6, 4, 4)] w0 w1 → gi w1 1 4 = f19_1_4 → lv_has ls 3 [(0, .ref (ad 1)), (1, .int a1), (2, .int 0)] → W p l e ({ frames := 1, cells := 0, slots := 0, locals := 12 }) s m (List.toArray [.ref (ad 1), .int a1, .int 0]) below meth c H locs 0 0 (MQ below (va_Qv (P_X6_blame_7 ad cy B qr s1 a1 w0) (fun u : va_W => wpost dC dI cy A u) A) (List.toArray [.ref (ad 1), .int a1, .int 0]) s 0 0 A) (F0 m 19 ls []) := by
    intro f19_1_4 H locs ls w1 r2 t3 r4 t5 hw hT hF c6 hl
    exact tk_vret hC hr hlocks hK ⟨hT, hF, ⟨f19_1_4, c6, (show 1 ≤ f19_1_4.toInt by omega), (show f19_1_4.toInt ≤ 3205 by omega)⟩⟩ hw dX6_blame_19
  refine lv_aload_n hx hb dX6_blame_0 rfl (lv_at hl 0 rfl) ?_
  refine tk_geti hC hK hw hT hinX6 kC_at1 (by decide) rfl 4 (by decide) (List.mem_of_getElem? (i := 1) rfl) rfl rfl dX6_blame_1 (fun x7 c8 rx7 tx7 => ?_)
  refine lv_if_ne (tgt := 19) hx hb dX6_blame_4 (by decide) (fun c9 => ?_) (fun c9 => ?_)
  · have c9 : ¬ x7.toInt = (0 : Int) := wk_eqF c9
    exact J19 x7 s.heap locs ls w0 (show 0 ≤ a1.toInt by omega) (show a1.toInt ≤ 400 by omega) (show 1 ≤ x7.toInt by omega) (show x7.toInt ≤ 3205 by omega)  hw hT hF c8 (lv_sub hl [0, 1, 2] rfl)
  · have c9 : x7.toInt = (0 : Int) := wk_eq.mp c9
    refine lv_aload_n hx hb dX6_blame_7 rfl (lv_at hl 0 rfl) ?_
    refine lv_iconst (v := 1) hx hb dX6_blame_8 (by decide) ?_
    refine lv_bipush (v := 8) hx hb dX6_blame_9 (by decide) ?_
    refine lv_iload_n hx hb dX6_blame_11 rfl (lv_at hl 1 rfl) ?_
    refine lv_imul hx hb dX6_blame_12 ?_
    refine lv_topi (fun x10 ex10 => ?_)
    have ex10 : x10.toInt = (8 : Int) * a1.toInt := by rw [ex10]; exact wk_mul (show (-2147483648) ≤ (8 : Int) * a1.toInt by omega) (show (8 : Int) * a1.toInt ≤ 2147483647 by omega)
    refine lv_iadd hx hb dX6_blame_13 ?_
    refine lv_topi (fun x11 ex11 => ?_)
    have ex11 : x11.toInt = (1 : Int) + x10.toInt := by rw [ex11]; exact wk_add (show (-2147483648) ≤ (1 : Int) + x10.toInt by omega) (show (1 : Int) + x10.toInt ≤ 2147483647 by omega)
    refine lv_iload_n hx hb dX6_blame_14 rfl (lv_at hl 2 rfl) ?_
    refine lv_iadd hx hb dX6_blame_15 ?_
    refine lv_topi (fun x12 ex12 => ?_)
    have ex12 : x12.toInt = x11.toInt + (0 : Int) := by rw [ex12]; exact wk_add (show (-2147483648) ≤ x11.toInt + (0 : Int) by omega) (show x11.toInt + (0 : Int) ≤ 2147483647 by omega)
    refine tk_puti hC hK hw hT hinX6 tyX6_ok nmX6 kC_at1 (by decide) rfl rfl 4 (by decide) (List.mem_of_getElem? (i := 1) rfl) rfl rfl rfl rfl (show 0 ≤ x12.toInt by omega) (show x12.toInt ≤ 3205 by omega) dX6_blame_16 (fun H locs w13 hw hT k15 c14 => ?_)
    have hF := hF.put kC_at1 (k := 4) (by decide) k15
    exact J19 x12 H locs ls w13 (show 0 ≤ a1.toInt by omega) (show a1.toInt ≤ 400 by omega) (show 1 ≤ x12.toInt by omega) (show x12.toInt ≤ 3205 by omega)  hw hT hF c14 (lv_sub hl [0, 1, 2] rfl)
abbrev P_X6_readWord_2 (ad : Nat → Nat) (cy : Nat → ClassId) (B : Int) (qr : Nat) (s1 : Int)  (w0 : va_W) : Int32 → va_W → Prop := fun r u => TW ksC ad cy B qr s1 u ∧ FE ksC [(6, 1, 1), (6, 3, 3), (6, 4, 4)] w0 u ∧ ((0 ≤ r.toInt ∧ r.toInt ≤ 18) ∨ (r = (-1) ∧ (∃ y : Int32, gi u 1 4 = y ∧ 1 ≤ y.toInt ∧ y.toInt ≤ 3205)))
set_option maxHeartbeats 4000000 in
set_option maxRecDepth 100000 in
theorem k_X6_readWord_2 (l : Launch) (adK adV : Nat → Nat) (dC : Nat → ClassId) (dI : Nat → Nat → Nat) (cy : Nat → ClassId) (ad : Nat → Nat) (B : Int) (hB0 : 2147483648 ≤ B) (hB1 : B ≤ 1152921504606846976) (qr : Nat) (s1 : Int)   (w0 : va_W) (sz : Nat) (hT : TW ksC ad cy B qr s1 w0)  : Met l yX6_readWord wsX6_readWord ({ frames := 5, cells := 0, slots := 0, locals := 141 }) (va_Pc [.ref (ad 1), .ref (adK 2)] (wpreS adK adV dC dI cy sz w0)) (va_Qi (P_X6_readWord_2 ad cy B qr s1  w0) (fun u : va_W => wpost dC dI cy (va_A w0 sz) u) (va_A w0 sz)) 0 0 (va_A w0 sz) := by
  refine Met.ofW (cc := cX6_readWord) (maxL := 8) (ret := (some .int)) (by decide) rfl ?_
  intro p e s m args below meth c s₁ Bk hml hv
  obtain ⟨rfl, ⟨hsz, hP, hK, hD0⟩, hE, hSR⟩ := hv
  have hx := Bk.exec
  have hb := Bk.bytes
  have hr := Bk.returns
  have hlocks := Bk.notSynchronized
  have hC : CallFix p m c cX6_readWord 8 s _ wsX6_readWord RX6 := ⟨hx, hb, hml, findClass_of_methodNamed Bk.named, atoms_spec (ws := wsX6_readWord) Bk.pre⟩
  subst hsz
  have hD := hD0.self (sz := s.heap.size)
  generalize hAe : va_A w0 s.heap.size = A at hD hE ⊢
  have hA : ∀ q : Nat, s.heap.size ≤ q → A q := fun q h => by rw [← hAe]; exact Or.inr h
  have hw : Wd dC dI A s.heap s.heap [] w0 := ⟨hP, hD, va_S.rf⟩
  have hF : FE ksC [(6, 1, 1), (6, 3, 3), (6, 4, 4)] w0 w0 := FE.rf
  have hl := lv_entry ([.ref (ad 1), .ref (adK 2)]) (n := 8) (Nat.le_of_ble_eq_true rfl)
  rw [lg_entry_eq]
  generalize (lg_sl ([.ref (ad 1), .ref (adK 2)]) ++ List.replicate (8 - (lg_sl ([.ref (ad 1), .ref (adK 2)])).length) Slot.unset).toArray = ls at hl ⊢
  have hl : lv_has ls 8 [(0, .ref (ad 1)), (1, .ref (adK 2))] := hl
  generalize hloc : ([] : List Loc) = locs at hw ⊢
  have hinX6 : ∀ w ∈ u_ws RX6 TX6 5, w ∈ wsX6_readWord := fun _ h => List.mem_cons_of_mem _ (List.mem_append_right _ (h))
  have L24 : ∀ (n24 : Nat) (v24_2 : Int32) (v24_3 : Int32) (v24_4 : Int32) (v24_5 : Int32) (v24_6 : Int32) (f24_1_1 : Int32) (H : Heap) (locs : List Loc) (ls : Array Slot) (w1 : va_W), 0 ≤ v24_2.toInt → v24_2.toInt ≤ 400 → 0 ≤ v24_3.toInt → v24_3.toInt ≤ 18 → 0 ≤ v24_4.toInt → v24_4.toInt ≤ 418 → 0 ≤ v24_5.toInt → v24_5.toInt ≤ 1 → 0 ≤ v24_6.toInt → v24_6.toInt ≤ 18 → 0 ≤ f24_1_1.toInt → f24_1_1.toInt ≤ 400 → v24_4.toInt ≤ v24_6.toInt + 400 → v24_3.toInt ≤ v24_6.toInt + 0 → (18 - v24_6.toInt).toNat < n24 → Wd dC dI A s.heap H locs w1 → TW ksC ad cy B qr s1 w1 → FE ksC [(6, 1, 1), (6, 3, 3), (6, 4, 4)] w0 w1 → gi w1 1 1 = f24_1_1 → lv_has ls 8 [(0, .ref (ad 1)), (1, .ref (adK 2)), (2, .int v24_2), (3, .int v24_3), (4, .int v24_4), (5, .int v24_5), (6, .int v24_6)] → W p l e ({ frames := 5, cells := 0, slots := 0, locals := 141 }) s m (List.toArray [.ref (ad 1), .ref (adK 2)]) below meth c H locs 0 0 (MQ below (va_Qi (P_X6_readWord_2 ad cy B qr s1  w0) (fun u : va_W => wpost dC dI cy A u) A) (List.toArray [.ref (ad 1), .ref (adK 2)]) s 0 0 A) (F0 m 24 ls []) := by
    intro n24
    induction n24 with
    | zero => intro v24_2 v24_3 v24_4 v24_5 v24_6 f24_1_1 H locs ls w1 r2 t3 r4 t5 r6 t7 r8 t9 r10 t11 r12 t13 i15 i16 hm24 hw hT hF c14 hl; omega
    | succ n24 ih24 =>
      intro v24_2 v24_3 v24_4 v24_5 v24_6 f24_1_1 H locs ls w1 r2 t3 r4 t5 r6 t7 r8 t9 r10 t11 r12 t13 i15 i16 hm24 hw hT hF c14 hl
      have J114 : ∀ (v114_3 : Int32) (v114_4 : Int32) (v114_5 : Int32) (v114_7 : Int32) (H : Heap) (locs : List Loc) (ls : Array Slot) (w17 : va_W), 0 ≤ v24_2.toInt → v24_2.toInt ≤ 400 → 0 ≤ v114_3.toInt → v114_3.toInt ≤ 19 → 0 ≤ v114_4.toInt → v114_4.toInt ≤ 419 → 0 ≤ v114_5.toInt → v114_5.toInt ≤ 1 → 0 ≤ v24_6.toInt → v24_6.toInt ≤ 17 → 0 ≤ f24_1_1.toInt → f24_1_1.toInt ≤ 400 → Wd dC dI A s.heap H locs w17 → TW ksC ad cy B qr s1 w17 → FE ksC [(6, 1, 1), (6, 3, 3), (6, 4, 4)] w0 w17 → gi w17 1 1 = f24_1_1 → lv_has ls 8 [(0, .ref (ad 1)), (1, .ref (adK 2)), (2, .int v24_2), (3, .int v114_3), (4, .int v114_4), (5, .int v114_5), (6, .int v24_6), (7, .int v114_7)] → W p l e ({ frames := 5, cells := 0, slots := 0, locals := 141 }) s m (List.toArray [.ref (ad 1), .ref (adK 2)]) below meth c H locs 0 0 (MQ below (va_Qi (P_X6_readWord_2 ad cy B qr s1  w0) (fun u : va_W => wpost dC dI cy A u) A) (List.toArray [.ref (ad 1), .ref (adK 2)]) s 0 0 A) (F0 m 114 ls []) := by
        intro v114_3 v114_4 v114_5 v114_7 H locs ls w17 r18 t19 r20 t21 r22 t23 r24 t25 r26 t27 r28 t29 hw hT hF c30 hl
        obtain ⟨x31, ex31⟩ : ∃ y : Int32, y = v24_6 + Int32.ofInt 1 := ⟨_, rfl⟩
        refine lv_iinc (v := x31) (lv' := [(6, .int x31), (0, .ref (ad 1)), (1, .ref (adK 2)), (2, .int v24_2), (3, .int v114_3), (4, .int v114_4), (5, .int v114_5), (7, .int v114_7)]) hx hb dX6_readWord_114 hl (k := 6) rfl ex31.symm (by decide) rfl (fun ls hl => ?_)
        have ex31 : x31.toInt = v24_6.toInt + 1 := by rw [ex31]; exact wk_add (y := 1) (show -2147483648 ≤ v24_6.toInt + 1 by omega) (show v24_6.toInt + 1 ≤ 2147483647 by omega)
        refine lv_goto (tgt := 24) hx hb dX6_readWord_117 (by decide) ?_
        exact ih24 v24_2 v114_3 v114_4 v114_5 x31 f24_1_1 H locs ls w17 (show 0 ≤ v24_2.toInt by omega) (show v24_2.toInt ≤ 400 by omega) (show 0 ≤ v114_3.toInt by omega) (show v114_3.toInt ≤ 18 by omega) (show 0 ≤ v114_4.toInt by omega) (show v114_4.toInt ≤ 418 by omega) (show 0 ≤ v114_5.toInt by omega) (show v114_5.toInt ≤ 1 by omega) (show 0 ≤ x31.toInt by omega) (show x31.toInt ≤ 18 by omega) (show 0 ≤ f24_1_1.toInt by omega) (show f24_1_1.toInt ≤ 400 by omega) (show v114_4.toInt ≤ x31.toInt + 400 by omega) (show v114_3.toInt ≤ x31.toInt + 0 by omega) (show (18 - x31.toInt).toNat < n24 by omega) hw hT hF c30 (lv_sub hl [1, 2, 3, 4, 5, 6, 0] rfl)
      have J75 : ∀ (v75_7 : Int32) (H : Heap) (locs : List Loc) (ls : Array Slot) (w32 : va_W), 0 ≤ v24_2.toInt → v24_2.toInt ≤ 400 → 0 ≤ v24_3.toInt → v24_3.toInt ≤ 18 → 0 ≤ v24_4.toInt → v24_4.toInt ≤ 418 → 0 ≤ v24_5.toInt → v24_5.toInt ≤ 1 → 0 ≤ v24_6.toInt → v24_6.toInt ≤ 17 → 0 ≤ f24_1_1.toInt → f24_1_1.toInt ≤ 400 → Wd dC dI A s.heap H locs w32 → TW ksC ad cy B qr s1 w32 → FE ksC [(6, 1, 1), (6, 3, 3), (6, 4, 4)] w0 w32 → gi w32 1 1 = f24_1_1 → lv_has ls 8 [(0, .ref (ad 1)), (1, .ref (adK 2)), (2, .int v24_2), (3, .int v24_3), (4, .int v24_4), (5, .int v24_5), (6, .int v24_6), (7, .int v75_7)] → W p l e ({ frames := 5, cells := 0, slots := 0, locals := 141 }) s m (List.toArray [.ref (ad 1), .ref (adK 2)]) below meth c H locs 0 0 (MQ below (va_Qi (P_X6_readWord_2 ad cy B qr s1  w0) (fun u : va_W => wpost dC dI cy A u) A) (List.toArray [.ref (ad 1), .ref (adK 2)]) s 0 0 A) (F0 m 75 ls []) := by
        intro v75_7 H locs ls w32 r33 t34 r35 t36 r37 t38 r39 t40 r41 t42 r43 t44 hw hT hF c45 hl
        refine lv_iconst (v := 0) hx hb dX6_readWord_75 (by decide) ?_
        refine lv_istore (lv' := [(5, .int 0), (0, .ref (ad 1)), (1, .ref (adK 2)), (2, .int v24_2), (3, .int v24_3), (4, .int v24_4), (6, .int v24_6), (7, .int v75_7)]) hx hb dX6_readWord_76 hl (by decide) rfl (fun ls hl => ?_)
        obtain ⟨x46, ex46⟩ : ∃ y : Int32, y = v24_4 + Int32.ofInt 1 := ⟨_, rfl⟩
        refine lv_iinc (v := x46) (lv' := [(4, .int x46), (5, .int 0), (0, .ref (ad 1)), (1, .ref (adK 2)), (2, .int v24_2), (3, .int v24_3), (6, .int v24_6), (7, .int v75_7)]) hx hb dX6_readWord_78 hl (k := 5) rfl ex46.symm (by decide) rfl (fun ls hl => ?_)
        have ex46 : x46.toInt = v24_4.toInt + 1 := by rw [ex46]; exact wk_add (y := 1) (show -2147483648 ≤ v24_4.toInt + 1 by omega) (show v24_4.toInt + 1 ≤ 2147483647 by omega)
        refine lv_goto (tgt := 114) hx hb dX6_readWord_81 (by decide) ?_
        exact J114 v24_3 x46 0 v75_7 H locs ls w32 (show 0 ≤ v24_2.toInt by omega) (show v24_2.toInt ≤ 400 by omega) (show 0 ≤ v24_3.toInt by omega) (show v24_3.toInt ≤ 19 by omega) (show 0 ≤ x46.toInt by omega) (show x46.toInt ≤ 419 by omega) (by decide) (by decide) (show 0 ≤ v24_6.toInt by omega) (show v24_6.toInt ≤ 17 by omega) (show 0 ≤ f24_1_1.toInt by omega) (show f24_1_1.toInt ≤ 400 by omega)  hw hT hF c45 (lv_sub hl [2, 3, 4, 5, 0, 1, 6, 7] rfl)
      have J102 : ∀ (H : Heap) (locs : List Loc) (ls : Array Slot) (w47 : va_W), 0 ≤ v24_2.toInt → v24_2.toInt ≤ 400 → 0 ≤ v24_3.toInt → v24_3.toInt ≤ 18 → 0 ≤ v24_4.toInt → v24_4.toInt ≤ 418 → 0 ≤ v24_5.toInt → v24_5.toInt ≤ 1 → 0 ≤ v24_6.toInt → v24_6.toInt ≤ 17 → 0 ≤ f24_1_1.toInt → f24_1_1.toInt ≤ 400 → Wd dC dI A s.heap H locs w47 → TW ksC ad cy B qr s1 w47 → FE ksC [(6, 1, 1), (6, 3, 3), (6, 4, 4)] w0 w47 → gi w47 1 1 = f24_1_1 → lv_has ls 8 [(0, .ref (ad 1)), (1, .ref (adK 2)), (2, .int v24_2), (3, .int v24_3), (4, .int v24_4), (5, .int v24_5), (6, .int v24_6), (7, .int 32)] → W p l e ({ frames := 5, cells := 0, slots := 0, locals := 141 }) s m (List.toArray [.ref (ad 1), .ref (adK 2)]) below meth c H locs 0 0 (MQ below (va_Qi (P_X6_readWord_2 ad cy B qr s1  w0) (fun u : va_W => wpost dC dI cy A u) A) (List.toArray [.ref (ad 1), .ref (adK 2)]) s 0 0 A) (F0 m 102 ls []) := by
        intro H locs ls w47 r48 t49 r50 t51 r52 t53 r54 t55 r56 t57 r58 t59 hw hT hF c60 hl
        obtain ⟨x61, ex61⟩ : ∃ y : Int32, y = v24_3 + Int32.ofInt 1 := ⟨_, rfl⟩
        refine lv_iinc (v := x61) (lv' := [(3, .int x61), (0, .ref (ad 1)), (1, .ref (adK 2)), (2, .int v24_2), (4, .int v24_4), (5, .int v24_5), (6, .int v24_6), (7, .int 32)]) hx hb dX6_readWord_102 hl (k := 3) rfl ex61.symm (by decide) rfl (fun ls hl => ?_)
        have ex61 : x61.toInt = v24_3.toInt + 1 := by rw [ex61]; exact wk_add (y := 1) (show -2147483648 ≤ v24_3.toInt + 1 by omega) (show v24_3.toInt + 1 ≤ 2147483647 by omega)
        refine lv_aload_n hx hb dX6_readWord_105 rfl (lv_at hl 1 rfl) ?_
        refine tk_geti hC hK hw hT hinX6 kC_at1 (by decide) rfl 1 (by decide) (List.mem_of_getElem? (i := 1) rfl) rfl rfl dX6_readWord_106 (fun x62 c63 rx62 tx62 => ?_)
        refine wk_top f24_1_1 (c63.symm.trans c60) ?_
        refine lv_istore (lv' := [(4, .int f24_1_1), (3, .int x61), (0, .ref (ad 1)), (1, .ref (adK 2)), (2, .int v24_2), (5, .int v24_5), (6, .int v24_6), (7, .int 32)]) hx hb dX6_readWord_109 hl (by decide) rfl (fun ls hl => ?_)
        refine lv_iconst (v := 1) hx hb dX6_readWord_111 (by decide) ?_
        refine lv_istore (lv' := [(5, .int 1), (4, .int f24_1_1), (3, .int x61), (0, .ref (ad 1)), (1, .ref (adK 2)), (2, .int v24_2), (6, .int v24_6), (7, .int 32)]) hx hb dX6_readWord_112 hl (by decide) rfl (fun ls hl => ?_)
        exact J114 x61 f24_1_1 1 32 H locs ls w47 (show 0 ≤ v24_2.toInt by omega) (show v24_2.toInt ≤ 400 by omega) (show 0 ≤ x61.toInt by omega) (show x61.toInt ≤ 19 by omega) (show 0 ≤ f24_1_1.toInt by omega) (show f24_1_1.toInt ≤ 419 by omega) (by decide) (by decide) (show 0 ≤ v24_6.toInt by omega) (show v24_6.toInt ≤ 17 by omega) (show 0 ≤ f24_1_1.toInt by omega) (show f24_1_1.toInt ≤ 400 by omega)  hw hT hF c60 (lv_sub hl [3, 4, 5, 2, 1, 0, 6, 7] rfl)
      refine lv_iload hx hb dX6_readWord_24 (lv_at hl 6 rfl) ?_
      refine lv_aload_n hx hb dX6_readWord_26 rfl (lv_at hl 1 rfl) ?_
      refine tk_ViT hC hK hw hA hE hSR (s_length l adK adV dC dI cy 2 (by decide) H.size) (cwV 0 hC.2.2.2.2 gX6_readWord_J0_length_8abf5 rfl rfl rfl (by decide +kernel) ⟨Nat.le_of_ble_eq_true rfl, Nat.le_of_ble_eq_true rfl⟩) 2 (by decide) rfl rfl hl.1 rfl (Nat.le_of_ble_eq_true rfl) dX6_readWord_27 (fun r64 H locs hp65 hw => ?_)
      obtain ⟨-, hp65⟩ := hp65
      obtain rfl : r64 = 18 := hp65
      refine lv_icmp_ge (tgt := 120) hx hb dX6_readWord_30 (by decide) (fun c66 => ?_) (fun c66 => ?_)
      · have c66 : (18 : Int) ≤ v24_6.toInt := wk_le.mp c66
        refine lv_aload_n hx hb dX6_readWord_120 rfl (lv_at hl 0 rfl) ?_
        refine lv_aload_n hx hb dX6_readWord_121 rfl (lv_at hl 0 rfl) ?_
        refine tk_geti hC hK hw hT hinX6 kC_at1 (by decide) rfl 3 (by decide) (List.mem_of_getElem? (i := 3) rfl) rfl rfl dX6_readWord_122 (fun x67 c68 rx67 tx67 => ?_)
        refine lv_iconst (v := 0) hx hb dX6_readWord_125 (by decide) ?_
        refine tk_Vv hC hK hw hT hA hE hSR kC_at1 (by decide) rfl (k_X6_blame_7 l adK adV dC dI cy ad B (by omega) (by omega) qr s1   x67 (show 0 ≤ x67.toInt by omega) (show x67.toInt ≤ 400 by omega) w1 H.size hT ) (cwV 2 hC.2.2.2.2 gX6_readWord_X6_blame rfl rfl rfl (by decide +kernel) ⟨Nat.le_of_ble_eq_true rfl, Nat.le_of_ble_eq_true rfl⟩) rfl hl.1 rfl (Nat.le_of_ble_eq_true rfl) dX6_readWord_126 (fun w71 H locs hp70 hw => ?_)
        obtain ⟨hT, k72, hg75⟩ := hp70
        have hF := hF.tr k72 (by decide)
        have c76 := k72.gi kC_at1 (by decide) c14
        have c77 := k72.gi kC_at1 (by decide) c68
        obtain ⟨x73, c74, rx73, tx73⟩ := hg75
        refine lv_iconst (v := (-1)) hx hb dX6_readWord_129 (by decide) ?_
        exact tk_iret hC hr hlocks hK ⟨hT, hF, (Or.inr ⟨rfl, ⟨x73, c74, (show 1 ≤ x73.toInt by omega), (show x73.toInt ≤ 3205 by omega)⟩⟩)⟩ hw dX6_readWord_130
      · have c66 : v24_6.toInt < (18 : Int) := wk_leF c66
        refine lv_aload_n hx hb dX6_readWord_33 rfl (lv_at hl 1 rfl) ?_
        refine lv_iload hx hb dX6_readWord_34 (lv_at hl 6 rfl) ?_
        refine tk_ViT hC hK hw hA hE hSR (s_charAt l adK adV dC dI cy 2 (by decide) v24_6 (show 0 ≤ v24_6.toInt by omega) (show v24_6.toInt < 18 by omega) H.size) (cwV 1 hC.2.2.2.2 gX6_readWord_J0_charAt_5068e rfl rfl rfl (by decide +kernel) ⟨Nat.le_of_ble_eq_true rfl, Nat.le_of_ble_eq_true rfl⟩) 2 (by decide) rfl rfl hl.1 rfl (Nat.le_of_ble_eq_true rfl) dX6_readWord_36 (fun r78 H locs hp79 hw => ?_)
        refine lv_istore (lv' := [(7, .int r78), (0, .ref (ad 1)), (1, .ref (adK 2)), (2, .int v24_2), (3, .int v24_3), (4, .int v24_4), (5, .int v24_5), (6, .int v24_6)]) hx hb dX6_readWord_39 hl (by decide) rfl (fun ls hl => ?_)
        refine lv_iload hx hb dX6_readWord_41 (lv_at hl 0 rfl) ?_
        refine lv_bipush (v := 32) hx hb dX6_readWord_43 (by decide) ?_
        refine lv_icmp_eq (tgt := 84) hx hb dX6_readWord_45 (by decide) (fun c80 => ?_) (fun c80 => ?_)
        · have c80 : r78.toInt = (32 : Int) := wk_eq.mp c80
          refine lv_iload hx hb dX6_readWord_84 (lv_at hl 6 rfl) ?_
          refine lv_if_eq (tgt := 102) hx hb dX6_readWord_86 (by decide) (fun c81 => ?_) (fun c81 => ?_)
          · have c81 : v24_5.toInt = (0 : Int) := wk_eq.mp c81
            obtain rfl : r78 = 32 := wk_eq.mpr (show r78.toInt = 32 by omega)
            exact J102  H locs ls w1 (show 0 ≤ v24_2.toInt by omega) (show v24_2.toInt ≤ 400 by omega) (show 0 ≤ v24_3.toInt by omega) (show v24_3.toInt ≤ 18 by omega) (show 0 ≤ v24_4.toInt by omega) (show v24_4.toInt ≤ 418 by omega) (show 0 ≤ v24_5.toInt by omega) (show v24_5.toInt ≤ 1 by omega) (show 0 ≤ v24_6.toInt by omega) (show v24_6.toInt ≤ 17 by omega) (show 0 ≤ f24_1_1.toInt by omega) (show f24_1_1.toInt ≤ 400 by omega)  hw hT hF c14 (lv_sub hl [1, 2, 3, 4, 5, 6, 7, 0] rfl)
          · have c81 : ¬ v24_5.toInt = (0 : Int) := wk_eqF c81
            refine lv_iload hx hb dX6_readWord_89 (lv_at hl 5 rfl) ?_
            refine lv_iload_n hx hb dX6_readWord_91 rfl (lv_at hl 3 rfl) ?_
            refine lv_icmp_ne (tgt := 102) hx hb dX6_readWord_92 (by decide) (fun c82 => ?_) (fun c82 => ?_)
            · have c82 : ¬ v24_4.toInt = v24_2.toInt := wk_eqF c82
              obtain rfl : r78 = 32 := wk_eq.mpr (show r78.toInt = 32 by omega)
              exact J102  H locs ls w1 (show 0 ≤ v24_2.toInt by omega) (show v24_2.toInt ≤ 400 by omega) (show 0 ≤ v24_3.toInt by omega) (show v24_3.toInt ≤ 18 by omega) (show 0 ≤ v24_4.toInt by omega) (show v24_4.toInt ≤ 418 by omega) (show 0 ≤ v24_5.toInt by omega) (show v24_5.toInt ≤ 1 by omega) (show 0 ≤ v24_6.toInt by omega) (show v24_6.toInt ≤ 17 by omega) (show 0 ≤ f24_1_1.toInt by omega) (show f24_1_1.toInt ≤ 400 by omega)  hw hT hF c14 (lv_sub hl [1, 2, 3, 4, 5, 6, 7, 0] rfl)
            · have c82 : v24_4.toInt = v24_2.toInt := wk_eq.mp c82
              refine lv_aload_n hx hb dX6_readWord_95 rfl (lv_at hl 1 rfl) ?_
              refine lv_iload_n hx hb dX6_readWord_96 rfl (lv_at hl 3 rfl) ?_
              refine tk_puti hC hK hw hT hinX6 tyX6_ok nmX6 kC_at1 (by decide) rfl rfl 1 (by decide) (List.mem_of_getElem? (i := 1) rfl) rfl rfl rfl rfl (show 0 ≤ v24_2.toInt by omega) (show v24_2.toInt ≤ 400 by omega) dX6_readWord_97 (fun H locs w83 hw hT k85 c84 => ?_)
              have hF := hF.put kC_at1 (k := 1) (by decide) k85
              refine lv_iload_n hx hb dX6_readWord_100 rfl (lv_at hl 4 rfl) ?_
              exact tk_iret hC hr hlocks hK ⟨hT, hF, (Or.inl ⟨(show 0 ≤ v24_3.toInt by omega), (show v24_3.toInt ≤ 18 by omega)⟩)⟩ hw dX6_readWord_101
        · have c80 : ¬ r78.toInt = (32 : Int) := wk_eqF c80
          refine lv_iload hx hb dX6_readWord_48 (lv_at hl 6 rfl) ?_
          refine lv_if_eq (tgt := 75) hx hb dX6_readWord_50 (by decide) (fun c86 => ?_) (fun c86 => ?_)
          · have c86 : v24_5.toInt = (0 : Int) := wk_eq.mp c86
            exact J75 r78 H locs ls w1 (show 0 ≤ v24_2.toInt by omega) (show v24_2.toInt ≤ 400 by omega) (show 0 ≤ v24_3.toInt by omega) (show v24_3.toInt ≤ 18 by omega) (show 0 ≤ v24_4.toInt by omega) (show v24_4.toInt ≤ 418 by omega) (show 0 ≤ v24_5.toInt by omega) (show v24_5.toInt ≤ 1 by omega) (show 0 ≤ v24_6.toInt by omega) (show v24_6.toInt ≤ 17 by omega) (show 0 ≤ f24_1_1.toInt by omega) (show f24_1_1.toInt ≤ 400 by omega)  hw hT hF c14 (lv_sub hl [1, 2, 3, 4, 5, 6, 7, 0] rfl)
          · have c86 : ¬ v24_5.toInt = (0 : Int) := wk_eqF c86
            refine lv_iload hx hb dX6_readWord_53 (lv_at hl 5 rfl) ?_
            refine lv_iload_n hx hb dX6_readWord_55 rfl (lv_at hl 3 rfl) ?_
            refine lv_icmp_ge (tgt := 75) hx hb dX6_readWord_56 (by decide) (fun c87 => ?_) (fun c87 => ?_)
            · have c87 : v24_2.toInt ≤ v24_4.toInt := wk_le.mp c87
              exact J75 r78 H locs ls w1 (show 0 ≤ v24_2.toInt by omega) (show v24_2.toInt ≤ 400 by omega) (show 0 ≤ v24_3.toInt by omega) (show v24_3.toInt ≤ 18 by omega) (show 0 ≤ v24_4.toInt by omega) (show v24_4.toInt ≤ 418 by omega) (show 0 ≤ v24_5.toInt by omega) (show v24_5.toInt ≤ 1 by omega) (show 0 ≤ v24_6.toInt by omega) (show v24_6.toInt ≤ 17 by omega) (show 0 ≤ f24_1_1.toInt by omega) (show f24_1_1.toInt ≤ 400 by omega)  hw hT hF c14 (lv_sub hl [1, 2, 3, 4, 5, 6, 7, 0] rfl)
            · have c87 : v24_4.toInt < v24_2.toInt := wk_leF c87
              refine lv_aload_n hx hb dX6_readWord_59 rfl (lv_at hl 1 rfl) ?_
              refine tk_getA hC hK hw hT hinX6 kC_at1 (by decide) rfl 0 (by decide) (List.mem_of_getElem? (i := 2) rfl) rfl rfl dX6_readWord_60 ?_
              refine lv_iload hx hb dX6_readWord_63 (lv_at hl 5 rfl) ?_
              refine tk_iald hC hK hw hT kC_at2 rfl rfl (show 0 ≤ v24_4.toInt by omega) (show v24_4.toInt < 400 by omega) dX6_readWord_65 (fun x88 c89 rx88 tx88 => ?_)
              refine lv_iload hx hb dX6_readWord_66 (lv_at hl 0 rfl) ?_
              refine lv_icmp_ne (tgt := 75) hx hb dX6_readWord_68 (by decide) (fun c90 => ?_) (fun c90 => ?_)
              · have c90 : ¬ x88.toInt = r78.toInt := wk_eqF c90
                exact J75 r78 H locs ls w1 (show 0 ≤ v24_2.toInt by omega) (show v24_2.toInt ≤ 400 by omega) (show 0 ≤ v24_3.toInt by omega) (show v24_3.toInt ≤ 18 by omega) (show 0 ≤ v24_4.toInt by omega) (show v24_4.toInt ≤ 418 by omega) (show 0 ≤ v24_5.toInt by omega) (show v24_5.toInt ≤ 1 by omega) (show 0 ≤ v24_6.toInt by omega) (show v24_6.toInt ≤ 17 by omega) (show 0 ≤ f24_1_1.toInt by omega) (show f24_1_1.toInt ≤ 400 by omega)  hw hT hF c14 (lv_sub hl [1, 2, 3, 4, 5, 6, 7, 0] rfl)
              · have c90 : x88.toInt = r78.toInt := wk_eq.mp c90
                refine lv_iconst (v := 1) hx hb dX6_readWord_71 (by decide) ?_
                refine lv_goto (tgt := 76) hx hb dX6_readWord_72 (by decide) ?_
                refine lv_istore (lv' := [(5, .int 1), (7, .int r78), (0, .ref (ad 1)), (1, .ref (adK 2)), (2, .int v24_2), (3, .int v24_3), (4, .int v24_4), (6, .int v24_6)]) hx hb dX6_readWord_76 hl (by decide) rfl (fun ls hl => ?_)
                obtain ⟨x91, ex91⟩ : ∃ y : Int32, y = v24_4 + Int32.ofInt 1 := ⟨_, rfl⟩
                refine lv_iinc (v := x91) (lv' := [(4, .int x91), (5, .int 1), (7, .int r78), (0, .ref (ad 1)), (1, .ref (adK 2)), (2, .int v24_2), (3, .int v24_3), (6, .int v24_6)]) hx hb dX6_readWord_78 hl (k := 6) rfl ex91.symm (by decide) rfl (fun ls hl => ?_)
                have ex91 : x91.toInt = v24_4.toInt + 1 := by rw [ex91]; exact wk_add (y := 1) (show -2147483648 ≤ v24_4.toInt + 1 by omega) (show v24_4.toInt + 1 ≤ 2147483647 by omega)
                refine lv_goto (tgt := 114) hx hb dX6_readWord_81 (by decide) ?_
                exact J114 v24_3 x91 1 r78 H locs ls w1 (show 0 ≤ v24_2.toInt by omega) (show v24_2.toInt ≤ 400 by omega) (show 0 ≤ v24_3.toInt by omega) (show v24_3.toInt ≤ 19 by omega) (show 0 ≤ x91.toInt by omega) (show x91.toInt ≤ 419 by omega) (by decide) (by decide) (show 0 ≤ v24_6.toInt by omega) (show v24_6.toInt ≤ 17 by omega) (show 0 ≤ f24_1_1.toInt by omega) (show f24_1_1.toInt ≤ 400 by omega)  hw hT hF c14 (lv_sub hl [3, 4, 5, 6, 0, 1, 7, 2] rfl)
  refine lv_aload_n hx hb dX6_readWord_0 rfl (lv_at hl 0 rfl) ?_
  refine tk_Vi hC hK hw hT hA hE hSR kC_at1 (by decide) rfl (k_X6_lookBehindBlanks_1 l adK adV dC dI cy ad B (by omega) (by omega) qr s1    w0 s.heap.size hT ) (cwV 0 hC.2.2.2.2 gX6_readWord_X6_lookBehindBlanks rfl rfl rfl (by decide +kernel) ⟨Nat.le_of_ble_eq_true rfl, Nat.le_of_ble_eq_true rfl⟩) rfl hl.1 rfl (Nat.le_of_ble_eq_true rfl) dX6_readWord_1 (fun r92 w94 H locs hp93 hw => ?_)
  obtain ⟨hT, k95, hg104⟩ := hp93
  have hF := hF.tr k95 (by decide)
  rcases hg104 with ⟨g96, g97, ⟨x98, c99, rx98, tx98⟩, ⟨x100, c101, rx100, tx100⟩, ⟨x102, c103, rx102, tx102⟩⟩ | rfl
  · refine lv_pop hx hb dX6_readWord_4 rfl ?_
    refine lv_aload_n hx hb dX6_readWord_5 rfl (lv_at hl 0 rfl) ?_
    refine tk_Vi hC hK hw hT hA hE hSR kC_at1 (by decide) rfl (k_X6_endOfWord_1 l adK adV dC dI cy ad B (by omega) (by omega) qr s1    w94 H.size hT ) (cwV 0 hC.2.2.2.2 gX6_readWord_X6_endOfWord rfl rfl rfl (by decide +kernel) ⟨Nat.le_of_ble_eq_true rfl, Nat.le_of_ble_eq_true rfl⟩) rfl hl.1 rfl (Nat.le_of_ble_eq_true rfl) dX6_readWord_6 (fun r105 w107 H locs hp106 hw => ?_)
    obtain ⟨hT, k108, hg111⟩ := hp106
    have hF := hF.tr k108 (by decide)
    have c112 := k108.gi kC_at1 (by decide) c99
    have c113 := k108.gi kC_at1 (by decide) c101
    have c114 := k108.gi kC_at1 (by decide) c103
    obtain ⟨g109, g110⟩ := hg111
    refine lv_istore_n (lv' := [(2, .int r105), (0, .ref (ad 1)), (1, .ref (adK 2))]) hx hb dX6_readWord_9 rfl hl (by decide) rfl (fun ls hl => ?_)
    refine lv_iconst (v := 0) hx hb dX6_readWord_10 (by decide) ?_
    refine lv_istore_n (lv' := [(3, .int 0), (2, .int r105), (0, .ref (ad 1)), (1, .ref (adK 2))]) hx hb dX6_readWord_11 rfl hl (by decide) rfl (fun ls hl => ?_)
    refine lv_aload_n hx hb dX6_readWord_12 rfl (lv_at hl 2 rfl) ?_
    refine tk_geti hC hK hw hT hinX6 kC_at1 (by decide) rfl 1 (by decide) (List.mem_of_getElem? (i := 1) rfl) rfl rfl dX6_readWord_13 (fun x115 c116 rx115 tx115 => ?_)
    refine wk_top x98 (c116.symm.trans c112) ?_
    refine lv_istore (lv' := [(4, .int x98), (3, .int 0), (2, .int r105), (0, .ref (ad 1)), (1, .ref (adK 2))]) hx hb dX6_readWord_16 hl (by decide) rfl (fun ls hl => ?_)
    refine lv_iconst (v := 1) hx hb dX6_readWord_18 (by decide) ?_
    refine lv_istore (lv' := [(5, .int 1), (4, .int x98), (3, .int 0), (2, .int r105), (0, .ref (ad 1)), (1, .ref (adK 2))]) hx hb dX6_readWord_19 hl (by decide) rfl (fun ls hl => ?_)
    refine lv_iconst (v := 0) hx hb dX6_readWord_21 (by decide) ?_
    refine lv_istore (lv' := [(6, .int 0), (5, .int 1), (4, .int x98), (3, .int 0), (2, .int r105), (0, .ref (ad 1)), (1, .ref (adK 2))]) hx hb dX6_readWord_22 hl (by decide) rfl (fun ls hl => ?_)
    exact L24 ((18 - (0 : Int)).toNat + 1) r105 0 x98 1 0 x98 H locs ls w107 (show 0 ≤ r105.toInt by omega) (show r105.toInt ≤ 400 by omega) (by decide) (by decide) (show 0 ≤ x98.toInt by omega) (show x98.toInt ≤ 418 by omega) (by decide) (by decide) (by decide) (by decide) (show 0 ≤ x98.toInt by omega) (show x98.toInt ≤ 400 by omega) (show x98.toInt ≤ (0 : Int) + 400 by omega) (show (0 : Int) ≤ (0 : Int) + 0 by omega) (Nat.lt_succ_self _) hw hT hF c112 (lv_sub hl [5, 6, 4, 3, 2, 1, 0] rfl)
  · refine lv_pop hx hb dX6_readWord_4 rfl ?_
    refine lv_aload_n hx hb dX6_readWord_5 rfl (lv_at hl 0 rfl) ?_
    refine tk_Vi hC hK hw hT hA hE hSR kC_at1 (by decide) rfl (k_X6_endOfWord_1 l adK adV dC dI cy ad B (by omega) (by omega) qr s1    w94 H.size hT ) (cwV 0 hC.2.2.2.2 gX6_readWord_X6_endOfWord rfl rfl rfl (by decide +kernel) ⟨Nat.le_of_ble_eq_true rfl, Nat.le_of_ble_eq_true rfl⟩) rfl hl.1 rfl (Nat.le_of_ble_eq_true rfl) dX6_readWord_6 (fun r117 w119 H locs hp118 hw => ?_)
    obtain ⟨hT, k120, hg123⟩ := hp118
    have hF := hF.tr k120 (by decide)
    obtain ⟨g121, g122⟩ := hg123
    refine lv_istore_n (lv' := [(2, .int r117), (0, .ref (ad 1)), (1, .ref (adK 2))]) hx hb dX6_readWord_9 rfl hl (by decide) rfl (fun ls hl => ?_)
    refine lv_iconst (v := 0) hx hb dX6_readWord_10 (by decide) ?_
    refine lv_istore_n (lv' := [(3, .int 0), (2, .int r117), (0, .ref (ad 1)), (1, .ref (adK 2))]) hx hb dX6_readWord_11 rfl hl (by decide) rfl (fun ls hl => ?_)
    refine lv_aload_n hx hb dX6_readWord_12 rfl (lv_at hl 2 rfl) ?_
    refine tk_geti hC hK hw hT hinX6 kC_at1 (by decide) rfl 1 (by decide) (List.mem_of_getElem? (i := 1) rfl) rfl rfl dX6_readWord_13 (fun x124 c125 rx124 tx124 => ?_)
    refine lv_istore (lv' := [(4, .int x124), (3, .int 0), (2, .int r117), (0, .ref (ad 1)), (1, .ref (adK 2))]) hx hb dX6_readWord_16 hl (by decide) rfl (fun ls hl => ?_)
    refine lv_iconst (v := 1) hx hb dX6_readWord_18 (by decide) ?_
    refine lv_istore (lv' := [(5, .int 1), (4, .int x124), (3, .int 0), (2, .int r117), (0, .ref (ad 1)), (1, .ref (adK 2))]) hx hb dX6_readWord_19 hl (by decide) rfl (fun ls hl => ?_)
    refine lv_iconst (v := 0) hx hb dX6_readWord_21 (by decide) ?_
    refine lv_istore (lv' := [(6, .int 0), (5, .int 1), (4, .int x124), (3, .int 0), (2, .int r117), (0, .ref (ad 1)), (1, .ref (adK 2))]) hx hb dX6_readWord_22 hl (by decide) rfl (fun ls hl => ?_)
    exact L24 ((18 - (0 : Int)).toNat + 1) r117 0 x124 1 0 x124 H locs ls w119 (show 0 ≤ r117.toInt by omega) (show r117.toInt ≤ 400 by omega) (by decide) (by decide) (show 0 ≤ x124.toInt by omega) (show x124.toInt ≤ 418 by omega) (by decide) (by decide) (by decide) (by decide) (show 0 ≤ x124.toInt by omega) (show x124.toInt ≤ 400 by omega) (show x124.toInt ≤ (0 : Int) + 400 by omega) (show (0 : Int) ≤ (0 : Int) + 0 by omega) (Nat.lt_succ_self _) hw hT hF c125 (lv_sub hl [5, 6, 4, 3, 2, 1, 0] rfl)
abbrev P_X6_blame_8 (ad : Nat → Nat) (cy : Nat → ClassId) (B : Int) (qr : Nat) (s1 : Int) (a1 : Int32) (w0 : va_W) : va_W → Prop := fun u => TW ksC ad cy B qr s1 u ∧ FE ksC [(6, 4, 4)] w0 u ∧ (((∃ y : Int32, gi u 1 4 = y ∧ 1 ≤ y.toInt ∧ y.toInt ≤ 3205)))
set_option maxHeartbeats 4000000 in
set_option maxRecDepth 100000 in
theorem k_X6_blame_8 (l : Launch) (adK adV : Nat → Nat) (dC : Nat → ClassId) (dI : Nat → Nat → Nat) (cy : Nat → ClassId) (ad : Nat → Nat) (B : Int) (hB0 : 2147483648 ≤ B) (hB1 : B ≤ 1152921504606846976) (qr : Nat) (s1 : Int)  (a1 : Int32) (ra1 : 0 ≤ a1.toInt) (ta1 : a1.toInt ≤ 400) (w0 : va_W) (sz : Nat) (hT : TW ksC ad cy B qr s1 w0)  : Met l yX6_blame wsX6_blame ({ frames := 1, cells := 0, slots := 0, locals := 12 }) (va_Pc [.ref (ad 1), .int a1, .int 4] (wpreS adK adV dC dI cy sz w0)) (va_Qv (P_X6_blame_8 ad cy B qr s1 a1 w0) (fun u : va_W => wpost dC dI cy (va_A w0 sz) u) (va_A w0 sz)) 0 0 (va_A w0 sz) := by
  refine Met.ofW (cc := cX6_blame) (maxL := 3) (ret := none) (by decide) rfl ?_
  intro p e s m args below meth c s₁ Bk hml hv
  obtain ⟨rfl, ⟨hsz, hP, hK, hD0⟩, hE, hSR⟩ := hv
  have hx := Bk.exec
  have hb := Bk.bytes
  have hr := Bk.returns
  have hlocks := Bk.notSynchronized
  have hC : CallFix p m c cX6_blame 3 s _ wsX6_blame RX6 := ⟨hx, hb, hml, findClass_of_methodNamed Bk.named, atoms_spec (ws := wsX6_blame) Bk.pre⟩
  subst hsz
  have hD := hD0.self (sz := s.heap.size)
  generalize hAe : va_A w0 s.heap.size = A at hD hE ⊢
  have hA : ∀ q : Nat, s.heap.size ≤ q → A q := fun q h => by rw [← hAe]; exact Or.inr h
  have hw : Wd dC dI A s.heap s.heap [] w0 := ⟨hP, hD, va_S.rf⟩
  have hF : FE ksC [(6, 4, 4)] w0 w0 := FE.rf
  have hl := lv_entry ([.ref (ad 1), .int a1, .int 4]) (n := 3) (Nat.le_of_ble_eq_true rfl)
  rw [lg_entry_eq]
  generalize (lg_sl ([.ref (ad 1), .int a1, .int 4]) ++ List.replicate (3 - (lg_sl ([.ref (ad 1), .int a1, .int 4])).length) Slot.unset).toArray = ls at hl ⊢
  have hl : lv_has ls 3 [(0, .ref (ad 1)), (1, .int a1), (2, .int 4)] := hl
  generalize hloc : ([] : List Loc) = locs at hw ⊢
  have hinX6 : ∀ w ∈ u_ws RX6 TX6 5, w ∈ wsX6_blame := fun _ h => List.mem_cons_of_mem _ (List.mem_append_right _ (h))
  have J19 : ∀ (f19_1_4 : Int32) (H : Heap) (locs : List Loc) (ls : Array Slot) (w1 : va_W), 0 ≤ a1.toInt → a1.toInt ≤ 400 → 1 ≤ f19_1_4.toInt → f19_1_4.toInt ≤ 3205 → Wd dC dI A s.heap H locs w1 → TW ksC ad cy B qr s1 w1 → FE ksC [(6, 4, 4)] w0 w1 → gi w1 1 4 = f19_1_4 → lv_has ls 3 [(0, .ref (ad 1)), (1, .int a1), (2, .int 4)] → W p l e ({ frames := 1, cells := 0, slots := 0, locals := 12 }) s m (List.toArray [.ref (ad 1), .int a1, .int 4]) below meth c H locs 0 0 (MQ below (va_Qv (P_X6_blame_8 ad cy B qr s1 a1 w0) (fun u : va_W => wpost dC dI cy A u) A) (List.toArray [.ref (ad 1), .int a1, .int 4]) s 0 0 A) (F0 m 19 ls []) := by
    intro f19_1_4 H locs ls w1 r2 t3 r4 t5 hw hT hF c6 hl
    exact tk_vret hC hr hlocks hK ⟨hT, hF, ⟨f19_1_4, c6, (show 1 ≤ f19_1_4.toInt by omega), (show f19_1_4.toInt ≤ 3205 by omega)⟩⟩ hw dX6_blame_19
  refine lv_aload_n hx hb dX6_blame_0 rfl (lv_at hl 0 rfl) ?_
  refine tk_geti hC hK hw hT hinX6 kC_at1 (by decide) rfl 4 (by decide) (List.mem_of_getElem? (i := 1) rfl) rfl rfl dX6_blame_1 (fun x7 c8 rx7 tx7 => ?_)
  refine lv_if_ne (tgt := 19) hx hb dX6_blame_4 (by decide) (fun c9 => ?_) (fun c9 => ?_)
  · have c9 : ¬ x7.toInt = (0 : Int) := wk_eqF c9
    exact J19 x7 s.heap locs ls w0 (show 0 ≤ a1.toInt by omega) (show a1.toInt ≤ 400 by omega) (show 1 ≤ x7.toInt by omega) (show x7.toInt ≤ 3205 by omega)  hw hT hF c8 (lv_sub hl [0, 1, 2] rfl)
  · have c9 : x7.toInt = (0 : Int) := wk_eq.mp c9
    refine lv_aload_n hx hb dX6_blame_7 rfl (lv_at hl 0 rfl) ?_
    refine lv_iconst (v := 1) hx hb dX6_blame_8 (by decide) ?_
    refine lv_bipush (v := 8) hx hb dX6_blame_9 (by decide) ?_
    refine lv_iload_n hx hb dX6_blame_11 rfl (lv_at hl 1 rfl) ?_
    refine lv_imul hx hb dX6_blame_12 ?_
    refine lv_topi (fun x10 ex10 => ?_)
    have ex10 : x10.toInt = (8 : Int) * a1.toInt := by rw [ex10]; exact wk_mul (show (-2147483648) ≤ (8 : Int) * a1.toInt by omega) (show (8 : Int) * a1.toInt ≤ 2147483647 by omega)
    refine lv_iadd hx hb dX6_blame_13 ?_
    refine lv_topi (fun x11 ex11 => ?_)
    have ex11 : x11.toInt = (1 : Int) + x10.toInt := by rw [ex11]; exact wk_add (show (-2147483648) ≤ (1 : Int) + x10.toInt by omega) (show (1 : Int) + x10.toInt ≤ 2147483647 by omega)
    refine lv_iload_n hx hb dX6_blame_14 rfl (lv_at hl 2 rfl) ?_
    refine lv_iadd hx hb dX6_blame_15 ?_
    refine lv_topi (fun x12 ex12 => ?_)
    have ex12 : x12.toInt = x11.toInt + (4 : Int) := by rw [ex12]; exact wk_add (show (-2147483648) ≤ x11.toInt + (4 : Int) by omega) (show x11.toInt + (4 : Int) ≤ 2147483647 by omega)
    refine tk_puti hC hK hw hT hinX6 tyX6_ok nmX6 kC_at1 (by decide) rfl rfl 4 (by decide) (List.mem_of_getElem? (i := 1) rfl) rfl rfl rfl rfl (show 0 ≤ x12.toInt by omega) (show x12.toInt ≤ 3205 by omega) dX6_blame_16 (fun H locs w13 hw hT k15 c14 => ?_)
    have hF := hF.put kC_at1 (k := 4) (by decide) k15
    exact J19 x12 H locs ls w13 (show 0 ≤ a1.toInt by omega) (show a1.toInt ≤ 400 by omega) (show 1 ≤ x12.toInt by omega) (show x12.toInt ≤ 3205 by omega)  hw hT hF c14 (lv_sub hl [0, 1, 2] rfl)
abbrev P_X6_blame_9 (ad : Nat → Nat) (cy : Nat → ClassId) (B : Int) (qr : Nat) (s1 : Int) (a1 : Int32) (w0 : va_W) : va_W → Prop := fun u => TW ksC ad cy B qr s1 u ∧ FE ksC ([] : List (Nat × Nat × Nat)) w0 u ∧ (((∃ y : Int32, gi u 1 4 = y ∧ 1 ≤ y.toInt ∧ y.toInt ≤ 3205)))
set_option maxHeartbeats 4000000 in
set_option maxRecDepth 100000 in
theorem k_X6_blame_9 (l : Launch) (adK adV : Nat → Nat) (dC : Nat → ClassId) (dI : Nat → Nat → Nat) (cy : Nat → ClassId) (ad : Nat → Nat) (B : Int) (hB0 : 2147483648 ≤ B) (hB1 : B ≤ 1152921504606846976) (qr : Nat) (s1 : Int)  (a1 : Int32) (ra1 : 0 ≤ a1.toInt) (ta1 : a1.toInt ≤ 400) (w0 : va_W) (sz : Nat) (hT : TW ksC ad cy B qr s1 w0) (f0_ : Int32) (cf0_ : gi w0 1 4 = f0_) (rf0_ : 1 ≤ f0_.toInt) (tf0_ : f0_.toInt ≤ 3205) : Met l yX6_blame wsX6_blame ({ frames := 1, cells := 0, slots := 0, locals := 12 }) (va_Pc [.ref (ad 1), .int a1, .int 4] (wpreS adK adV dC dI cy sz w0)) (va_Qv (P_X6_blame_9 ad cy B qr s1 a1 w0) (fun u : va_W => wpost dC dI cy (va_A w0 sz) u) (va_A w0 sz)) 0 0 (va_A w0 sz) := by
  refine Met.ofW (cc := cX6_blame) (maxL := 3) (ret := none) (by decide) rfl ?_
  intro p e s m args below meth c s₁ Bk hml hv
  obtain ⟨rfl, ⟨hsz, hP, hK, hD0⟩, hE, hSR⟩ := hv
  have hx := Bk.exec
  have hb := Bk.bytes
  have hr := Bk.returns
  have hlocks := Bk.notSynchronized
  have hC : CallFix p m c cX6_blame 3 s _ wsX6_blame RX6 := ⟨hx, hb, hml, findClass_of_methodNamed Bk.named, atoms_spec (ws := wsX6_blame) Bk.pre⟩
  subst hsz
  have hD := hD0.self (sz := s.heap.size)
  generalize hAe : va_A w0 s.heap.size = A at hD hE ⊢
  have hA : ∀ q : Nat, s.heap.size ≤ q → A q := fun q h => by rw [← hAe]; exact Or.inr h
  have hw : Wd dC dI A s.heap s.heap [] w0 := ⟨hP, hD, va_S.rf⟩
  have hF : FE ksC ([] : List (Nat × Nat × Nat)) w0 w0 := FE.rf
  have hl := lv_entry ([.ref (ad 1), .int a1, .int 4]) (n := 3) (Nat.le_of_ble_eq_true rfl)
  rw [lg_entry_eq]
  generalize (lg_sl ([.ref (ad 1), .int a1, .int 4]) ++ List.replicate (3 - (lg_sl ([.ref (ad 1), .int a1, .int 4])).length) Slot.unset).toArray = ls at hl ⊢
  have hl : lv_has ls 3 [(0, .ref (ad 1)), (1, .int a1), (2, .int 4)] := hl
  generalize hloc : ([] : List Loc) = locs at hw ⊢
  have hinX6 : ∀ w ∈ u_ws RX6 TX6 5, w ∈ wsX6_blame := fun _ h => List.mem_cons_of_mem _ (List.mem_append_right _ (h))
  have J19 : ∀ (H : Heap) (locs : List Loc) (ls : Array Slot) (w1 : va_W), 0 ≤ a1.toInt → a1.toInt ≤ 400 → 1 ≤ f0_.toInt → f0_.toInt ≤ 3205 → Wd dC dI A s.heap H locs w1 → TW ksC ad cy B qr s1 w1 → FE ksC ([] : List (Nat × Nat × Nat)) w0 w1 → gi w1 1 4 = f0_ → lv_has ls 3 [(0, .ref (ad 1)), (1, .int a1), (2, .int 4)] → W p l e ({ frames := 1, cells := 0, slots := 0, locals := 12 }) s m (List.toArray [.ref (ad 1), .int a1, .int 4]) below meth c H locs 0 0 (MQ below (va_Qv (P_X6_blame_9 ad cy B qr s1 a1 w0) (fun u : va_W => wpost dC dI cy A u) A) (List.toArray [.ref (ad 1), .int a1, .int 4]) s 0 0 A) (F0 m 19 ls []) := by
    intro H locs ls w1 r2 t3 r4 t5 hw hT hF c6 hl
    exact tk_vret hC hr hlocks hK ⟨hT, hF, ⟨f0_, c6, (show 1 ≤ f0_.toInt by omega), (show f0_.toInt ≤ 3205 by omega)⟩⟩ hw dX6_blame_19
  refine lv_aload_n hx hb dX6_blame_0 rfl (lv_at hl 0 rfl) ?_
  refine tk_geti hC hK hw hT hinX6 kC_at1 (by decide) rfl 4 (by decide) (List.mem_of_getElem? (i := 1) rfl) rfl rfl dX6_blame_1 (fun x7 c8 rx7 tx7 => ?_)
  refine wk_top f0_ (c8.symm.trans cf0_) ?_
  refine lv_if_ne (tgt := 19) hx hb dX6_blame_4 (by decide) (fun _ => ?_) (fun c => absurd (show f0_.toInt = (0 : Int) from wk_eq.mp c) (by omega))
  exact J19  s.heap locs ls w0 (show 0 ≤ a1.toInt by omega) (show a1.toInt ≤ 400 by omega) (show 1 ≤ f0_.toInt by omega) (show f0_.toInt ≤ 3205 by omega)  hw hT hF cf0_ (lv_sub hl [0, 1, 2] rfl)
abbrev P_X2_clear_1 (ad : Nat → Nat) (cy : Nat → ClassId) (B : Int) (qr : Nat) (s1 : Int) (q0_ : Nat) (w0 : va_W) : va_W → Prop := fun u => TW ksC ad cy B qr s1 u ∧ FE ksC [(2, 3, 3), (2, 4, 4), (2, 5, 5)] w0 u ∧ (((∃ y : Int32, gi u q0_ 3 = y ∧ 0 ≤ y.toInt ∧ y.toInt ≤ 0) ∧ (∃ y : Int32, gi u q0_ 4 = y ∧ 0 ≤ y.toInt ∧ y.toInt ≤ 0) ∧ (∃ y : Int32, gi u q0_ 5 = y ∧ 0 ≤ y.toInt ∧ y.toInt ≤ 0)))
set_option maxHeartbeats 4000000 in
set_option maxRecDepth 100000 in
theorem k_X2_clear_1 (l : Launch) (adK adV : Nat → Nat) (dC : Nat → ClassId) (dI : Nat → Nat → Nat) (cy : Nat → ClassId) (ad : Nat → Nat) (B : Int) (hB0 : 2147483648 ≤ B) (hB1 : B ≤ 1152921504606846976) (qr : Nat) (s1 : Int)  (q0_ : Nat) (hkq0_ : ksC[q0_]? = some 2) (w0 : va_W) (sz : Nat) (hT : TW ksC ad cy B qr s1 w0)  : Met l yX2_clear wsX2_clear ({ frames := 1, cells := 0, slots := 0, locals := 12 }) (va_Pc [.ref (ad q0_)] (wpreS adK adV dC dI cy sz w0)) (va_Qv (P_X2_clear_1 ad cy B qr s1 q0_ w0) (fun u : va_W => wpost dC dI cy (va_A w0 sz) u) (va_A w0 sz)) 0 0 (va_A w0 sz) := by
  refine Met.ofW (cc := cX2_clear) (maxL := 1) (ret := none) (by decide) rfl ?_
  intro p e s m args below meth c s₁ Bk hml hv
  obtain ⟨rfl, ⟨hsz, hP, hK, hD0⟩, hE, hSR⟩ := hv
  have hx := Bk.exec
  have hb := Bk.bytes
  have hr := Bk.returns
  have hlocks := Bk.notSynchronized
  have hC : CallFix p m c cX2_clear 1 s _ wsX2_clear RX2 := ⟨hx, hb, hml, findClass_of_methodNamed Bk.named, atoms_spec (ws := wsX2_clear) Bk.pre⟩
  subst hsz
  have hD := hD0.self (sz := s.heap.size)
  generalize hAe : va_A w0 s.heap.size = A at hD hE ⊢
  have hA : ∀ q : Nat, s.heap.size ≤ q → A q := fun q h => by rw [← hAe]; exact Or.inr h
  have hw : Wd dC dI A s.heap s.heap [] w0 := ⟨hP, hD, va_S.rf⟩
  have hF : FE ksC [(2, 3, 3), (2, 4, 4), (2, 5, 5)] w0 w0 := FE.rf
  have hl := lv_entry ([.ref (ad q0_)]) (n := 1) (Nat.le_of_ble_eq_true rfl)
  rw [lg_entry_eq]
  generalize (lg_sl ([.ref (ad q0_)]) ++ List.replicate (1 - (lg_sl ([.ref (ad q0_)])).length) Slot.unset).toArray = ls at hl ⊢
  have hl : lv_has ls 1 [(0, .ref (ad q0_))] := hl
  generalize hloc : ([] : List Loc) = locs at hw ⊢
  have hinX2 : ∀ w ∈ u_ws RX2 TX2 6, w ∈ wsX2_clear := fun _ h => List.mem_cons_of_mem _ (List.mem_append_right _ (h))
  refine lv_aload_n hx hb dX2_clear_0 rfl (lv_at hl 0 rfl) ?_
  refine lv_iconst (v := 0) hx hb dX2_clear_1 (by decide) ?_
  refine tk_puti hC hK hw hT hinX2 tyX2_ok nmX2 hkq0_ (by decide) rfl rfl 4 (by decide) (List.mem_of_getElem? (i := 1) rfl) rfl rfl rfl rfl (by decide) (by decide) dX2_clear_2 (fun H locs w1 hw hT k3 c2 => ?_)
  have hF := hF.put hkq0_ (k := 4) (by decide) k3
  refine lv_aload_n hx hb dX2_clear_5 rfl (lv_at hl 0 rfl) ?_
  refine lv_iconst (v := 0) hx hb dX2_clear_6 (by decide) ?_
  refine tk_puti hC hK hw hT hinX2 tyX2_ok nmX2 hkq0_ (by decide) rfl rfl 3 (by decide) (List.mem_of_getElem? (i := 2) rfl) rfl rfl rfl rfl (by decide) (by decide) dX2_clear_7 (fun H locs w4 hw hT k6 c5 => ?_)
  have hF := hF.put hkq0_ (k := 3) (by decide) k6
  have c7 := k6.gi (Or.inr (by decide)) c2
  refine lv_aload_n hx hb dX2_clear_10 rfl (lv_at hl 0 rfl) ?_
  refine lv_iconst (v := 0) hx hb dX2_clear_11 (by decide) ?_
  refine tk_putz hC hK hw hT hinX2 tyX2_ok nmX2 hkq0_ (by decide) rfl rfl 5 (by decide) (List.mem_of_getElem? (i := 3) rfl) rfl rfl rfl rfl (by decide) (by decide) dX2_clear_12 (fun H locs w8 hw hT k10 c9 => ?_)
  have hF := hF.put hkq0_ (k := 5) (by decide) k10
  have c11 := k10.gi (Or.inr (by decide)) c7
  have c12 := k10.gi (Or.inr (by decide)) c5
  exact tk_vret hC hr hlocks hK ⟨hT, hF, ⟨⟨0, c12, (by decide), (by decide)⟩, ⟨0, c11, (by decide), (by decide)⟩, ⟨0, c9, (by decide), (by decide)⟩⟩⟩ hw dX2_clear_15
abbrev P_X6_startReading_1 (ad : Nat → Nat) (cy : Nat → ClassId) (B : Int) (qr : Nat) (s1 : Int)  (w0 : va_W) : va_W → Prop := fun u => TW ksC ad cy B qr s1 u ∧ FE ksC [(6, 1, 1), (6, 3, 3), (6, 4, 4)] w0 u ∧ (((∃ y : Int32, gi u 1 1 = y ∧ 0 ≤ y.toInt ∧ y.toInt ≤ 0) ∧ (∃ y : Int32, gi u 1 3 = y ∧ 0 ≤ y.toInt ∧ y.toInt ≤ 0) ∧ (∃ y : Int32, gi u 1 4 = y ∧ 0 ≤ y.toInt ∧ y.toInt ≤ 0)))
set_option maxHeartbeats 4000000 in
set_option maxRecDepth 100000 in
theorem k_X6_startReading_1 (l : Launch) (adK adV : Nat → Nat) (dC : Nat → ClassId) (dI : Nat → Nat → Nat) (cy : Nat → ClassId) (ad : Nat → Nat) (B : Int) (hB0 : 2147483648 ≤ B) (hB1 : B ≤ 1152921504606846976) (qr : Nat) (s1 : Int)   (w0 : va_W) (sz : Nat) (hT : TW ksC ad cy B qr s1 w0)  : Met l yX6_startReading wsX6_startReading ({ frames := 1, cells := 0, slots := 0, locals := 12 }) (va_Pc [.ref (ad 1)] (wpreS adK adV dC dI cy sz w0)) (va_Qv (P_X6_startReading_1 ad cy B qr s1  w0) (fun u : va_W => wpost dC dI cy (va_A w0 sz) u) (va_A w0 sz)) 0 0 (va_A w0 sz) := by
  refine Met.ofW (cc := cX6_startReading) (maxL := 1) (ret := none) (by decide) rfl ?_
  intro p e s m args below meth c s₁ Bk hml hv
  obtain ⟨rfl, ⟨hsz, hP, hK, hD0⟩, hE, hSR⟩ := hv
  have hx := Bk.exec
  have hb := Bk.bytes
  have hr := Bk.returns
  have hlocks := Bk.notSynchronized
  have hC : CallFix p m c cX6_startReading 1 s _ wsX6_startReading RX6 := ⟨hx, hb, hml, findClass_of_methodNamed Bk.named, atoms_spec (ws := wsX6_startReading) Bk.pre⟩
  subst hsz
  have hD := hD0.self (sz := s.heap.size)
  generalize hAe : va_A w0 s.heap.size = A at hD hE ⊢
  have hA : ∀ q : Nat, s.heap.size ≤ q → A q := fun q h => by rw [← hAe]; exact Or.inr h
  have hw : Wd dC dI A s.heap s.heap [] w0 := ⟨hP, hD, va_S.rf⟩
  have hF : FE ksC [(6, 1, 1), (6, 3, 3), (6, 4, 4)] w0 w0 := FE.rf
  have hl := lv_entry ([.ref (ad 1)]) (n := 1) (Nat.le_of_ble_eq_true rfl)
  rw [lg_entry_eq]
  generalize (lg_sl ([.ref (ad 1)]) ++ List.replicate (1 - (lg_sl ([.ref (ad 1)])).length) Slot.unset).toArray = ls at hl ⊢
  have hl : lv_has ls 1 [(0, .ref (ad 1))] := hl
  generalize hloc : ([] : List Loc) = locs at hw ⊢
  have hinX6 : ∀ w ∈ u_ws RX6 TX6 5, w ∈ wsX6_startReading := fun _ h => List.mem_cons_of_mem _ (List.mem_append_right _ (h))
  refine lv_aload_n hx hb dX6_startReading_0 rfl (lv_at hl 0 rfl) ?_
  refine lv_iconst (v := 0) hx hb dX6_startReading_1 (by decide) ?_
  refine tk_puti hC hK hw hT hinX6 tyX6_ok nmX6 kC_at1 (by decide) rfl rfl 1 (by decide) (List.mem_of_getElem? (i := 1) rfl) rfl rfl rfl rfl (by decide) (by decide) dX6_startReading_2 (fun H locs w1 hw hT k3 c2 => ?_)
  have hF := hF.put kC_at1 (k := 1) (by decide) k3
  refine lv_aload_n hx hb dX6_startReading_5 rfl (lv_at hl 0 rfl) ?_
  refine lv_iconst (v := 0) hx hb dX6_startReading_6 (by decide) ?_
  refine tk_puti hC hK hw hT hinX6 tyX6_ok nmX6 kC_at1 (by decide) rfl rfl 3 (by decide) (List.mem_of_getElem? (i := 2) rfl) rfl rfl rfl rfl (by decide) (by decide) dX6_startReading_7 (fun H locs w4 hw hT k6 c5 => ?_)
  have hF := hF.put kC_at1 (k := 3) (by decide) k6
  have c7 := k6.gi (Or.inr (by decide)) c2
  refine lv_aload_n hx hb dX6_startReading_10 rfl (lv_at hl 0 rfl) ?_
  refine lv_iconst (v := 0) hx hb dX6_startReading_11 (by decide) ?_
  refine tk_puti hC hK hw hT hinX6 tyX6_ok nmX6 kC_at1 (by decide) rfl rfl 4 (by decide) (List.mem_of_getElem? (i := 3) rfl) rfl rfl rfl rfl (by decide) (by decide) dX6_startReading_12 (fun H locs w8 hw hT k10 c9 => ?_)
  have hF := hF.put kC_at1 (k := 4) (by decide) k10
  have c11 := k10.gi (Or.inr (by decide)) c7
  have c12 := k10.gi (Or.inr (by decide)) c5
  exact tk_vret hC hr hlocks hK ⟨hT, hF, ⟨⟨0, c11, (by decide), (by decide)⟩, ⟨0, c12, (by decide), (by decide)⟩, ⟨0, c9, (by decide), (by decide)⟩⟩⟩ hw dX6_startReading_15
abbrev P_X3_readInto_1 (ad : Nat → Nat) (cy : Nat → ClassId) (B : Int) (qr : Nat) (s1 : Int) (q1_ : Nat) (w0 : va_W) : va_W → Prop := fun u => TW ksC ad cy B q1_ s1 u ∧ FE ksC [(2, 3, 3), (2, 4, 4), (2, 5, 5), (3, 1, 1), (3, 2, 2), (6, 1, 1), (6, 3, 3), (6, 4, 4), (21, 0, 12), (22, 0, 13), (23, 0, 400)] w0 u ∧ (((∃ y : Int32, gi u 1 4 = y ∧ 0 ≤ y.toInt ∧ y.toInt ≤ 3205)))
set_option maxHeartbeats 4000000 in
set_option maxRecDepth 100000 in
theorem k_X3_readInto_1 (l : Launch) (adK adV : Nat → Nat) (dC : Nat → ClassId) (dI : Nat → Nat → Nat) (cy : Nat → ClassId) (ad : Nat → Nat) (B : Int) (hB0 : 2147483648 ≤ B) (hB1 : B ≤ 1152921504606846976) (qr : Nat) (s1 : Int)  (q1_ : Nat) (hkq1_ : ksC[q1_]? = some 2) (w0 : va_W) (sz : Nat) (hT : TW ksC ad cy B qr s1 w0)  : Met l yX3_readInto wsX3_readInto ({ frames := 30, cells := 0, slots := 0, locals := 728 }) (va_Pc [.ref (ad 3), .ref (ad q1_)] (wpreS adK adV dC dI cy sz w0)) (va_Qv (P_X3_readInto_1 ad cy B qr s1 q1_ w0) (fun u : va_W => wpost dC dI cy (va_A w0 sz) u) (va_A w0 sz)) 0 0 (va_A w0 sz) := by
  refine Met.ofW (cc := cX3_readInto) (maxL := 5) (ret := none) (by decide) rfl ?_
  intro p e s m args below meth c s₁ Bk hml hv
  obtain ⟨rfl, ⟨hsz, hP, hK, hD0⟩, hE, hSR⟩ := hv
  have hx := Bk.exec
  have hb := Bk.bytes
  have hr := Bk.returns
  have hlocks := Bk.notSynchronized
  have hC : CallFix p m c cX3_readInto 5 s _ wsX3_readInto RX3 := ⟨hx, hb, hml, findClass_of_methodNamed Bk.named, atoms_spec (ws := wsX3_readInto) Bk.pre⟩
  subst hsz
  have hD := hD0.self (sz := s.heap.size)
  generalize hAe : va_A w0 s.heap.size = A at hD hE ⊢
  have hA : ∀ q : Nat, s.heap.size ≤ q → A q := fun q h => by rw [← hAe]; exact Or.inr h
  have hw : Wd dC dI A s.heap s.heap [] w0 := ⟨hP, hD, va_S.rf⟩
  have hF : FE ksC [(2, 3, 3), (2, 4, 4), (2, 5, 5), (3, 1, 1), (3, 2, 2), (6, 1, 1), (6, 3, 3), (6, 4, 4), (21, 0, 12), (22, 0, 13), (23, 0, 400)] w0 w0 := FE.rf
  have hl := lv_entry ([.ref (ad 3), .ref (ad q1_)]) (n := 5) (Nat.le_of_ble_eq_true rfl)
  rw [lg_entry_eq]
  generalize (lg_sl ([.ref (ad 3), .ref (ad q1_)]) ++ List.replicate (5 - (lg_sl ([.ref (ad 3), .ref (ad q1_)])).length) Slot.unset).toArray = ls at hl ⊢
  have hl : lv_has ls 5 [(0, .ref (ad 3)), (1, .ref (ad q1_))] := hl
  generalize hloc : ([] : List Loc) = locs at hw ⊢
  have hinX3 : ∀ w ∈ u_ws RX3 TX3 3, w ∈ wsX3_readInto := fun _ h => List.mem_cons_of_mem _ (List.mem_append_left _ (List.mem_append_left _ (List.mem_append_right _ (h))))
  have hinX6 : ∀ w ∈ u_ws RX6 TX6 5, w ∈ wsX3_readInto := fun _ h => List.mem_cons_of_mem _ (List.mem_append_left _ (List.mem_append_right _ (h)))
  have J124 : ∀ (v124_2 : Int32) (v124_3 : Int32) (f124_1_4 : Int32) (f124_q1__4 : Int32) (H : Heap) (locs : List Loc) (ls : Array Slot) (w1 : va_W), 0 ≤ v124_2.toInt → v124_2.toInt ≤ 1 → 0 ≤ v124_3.toInt → v124_3.toInt ≤ 13 → 0 ≤ f124_1_4.toInt → f124_1_4.toInt ≤ 3205 → 0 ≤ f124_q1__4.toInt → f124_q1__4.toInt ≤ 12 → Wd dC dI A s.heap H locs w1 → TW ksC ad cy B q1_ s1 w1 → FE ksC [(2, 3, 3), (2, 4, 4), (2, 5, 5), (3, 1, 1), (3, 2, 2), (6, 1, 1), (6, 3, 3), (6, 4, 4), (21, 0, 12), (22, 0, 13), (23, 0, 400)] w0 w1 → gi w1 1 4 = f124_1_4 → gi w1 q1_ 4 = f124_q1__4 → lv_has ls 5 [(0, .ref (ad 3)), (1, .ref (ad q1_)), (2, .int v124_2), (3, .int v124_3)] → W p l e ({ frames := 30, cells := 0, slots := 0, locals := 728 }) s m (List.toArray [.ref (ad 3), .ref (ad q1_)]) below meth c H locs 0 0 (MQ below (va_Qv (P_X3_readInto_1 ad cy B qr s1 q1_ w0) (fun u : va_W => wpost dC dI cy A u) A) (List.toArray [.ref (ad 3), .ref (ad q1_)]) s 0 0 A) (F0 m 124 ls []) := by
    intro v124_2 v124_3 f124_1_4 f124_q1__4 H locs ls w1 r2 t3 r4 t5 r6 t7 r9 t10 hw hT hF c8 c11 hl
    exact tk_vret hC hr hlocks hK ⟨hT, hF, ⟨f124_1_4, c8, (show 0 ≤ f124_1_4.toInt by omega), (show f124_1_4.toInt ≤ 3205 by omega)⟩⟩ hw dX3_readInto_124
  have L28 : ∀ (n28 : Nat) (v28_2 : Int32) (v28_3 : Int32) (f28_1_4 : Int32) (f28_q1__4 : Int32) (H : Heap) (locs : List Loc) (ls : Array Slot) (w12 : va_W), 0 ≤ v28_2.toInt → v28_2.toInt ≤ 1 → 0 ≤ v28_3.toInt → v28_3.toInt ≤ 13 → 0 ≤ f28_1_4.toInt → f28_1_4.toInt ≤ 3205 → 0 ≤ f28_q1__4.toInt → f28_q1__4.toInt ≤ 12 → (13 - v28_3.toInt).toNat < n28 → Wd dC dI A s.heap H locs w12 → TW ksC ad cy B q1_ s1 w12 → FE ksC [(2, 3, 3), (2, 4, 4), (2, 5, 5), (3, 1, 1), (3, 2, 2), (6, 1, 1), (6, 3, 3), (6, 4, 4), (21, 0, 12), (22, 0, 13), (23, 0, 400)] w0 w12 → gi w12 1 4 = f28_1_4 → gi w12 q1_ 4 = f28_q1__4 → lv_has ls 5 [(0, .ref (ad 3)), (1, .ref (ad q1_)), (2, .int v28_2), (3, .int v28_3)] → W p l e ({ frames := 30, cells := 0, slots := 0, locals := 728 }) s m (List.toArray [.ref (ad 3), .ref (ad q1_)]) below meth c H locs 0 0 (MQ below (va_Qv (P_X3_readInto_1 ad cy B qr s1 q1_ w0) (fun u : va_W => wpost dC dI cy A u) A) (List.toArray [.ref (ad 3), .ref (ad q1_)]) s 0 0 A) (F0 m 28 ls []) := by
    intro n28
    induction n28 with
    | zero => intro v28_2 v28_3 f28_1_4 f28_q1__4 H locs ls w12 r13 t14 r15 t16 r17 t18 r20 t21 hm28 hw hT hF c19 c22 hl; omega
    | succ n28 ih28 =>
      intro v28_2 v28_3 f28_1_4 f28_q1__4 H locs ls w12 r13 t14 r15 t16 r17 t18 r20 t21 hm28 hw hT hF c19 c22 hl
      have J110 : ∀ (v110_4 : Int32) (f110_1_4 : Int32) (f110_q1__4 : Int32) (H : Heap) (locs : List Loc) (ls : Array Slot) (w23 : va_W), 0 ≤ v28_3.toInt → v28_3.toInt ≤ 12 → (-1) ≤ v110_4.toInt → v110_4.toInt ≤ 18 → 0 ≤ f110_1_4.toInt → f110_1_4.toInt ≤ 3205 → 1 ≤ f110_q1__4.toInt → f110_q1__4.toInt ≤ 12 → Wd dC dI A s.heap H locs w23 → TW ksC ad cy B q1_ s1 w23 → FE ksC [(2, 3, 3), (2, 4, 4), (2, 5, 5), (3, 1, 1), (3, 2, 2), (6, 1, 1), (6, 3, 3), (6, 4, 4), (21, 0, 12), (22, 0, 13), (23, 0, 400)] w0 w23 → gi w23 1 4 = f110_1_4 → gi w23 q1_ 4 = f110_q1__4 → lv_has ls 5 [(0, .ref (ad 3)), (1, .ref (ad q1_)), (2, .int 1), (3, .int v28_3), (4, .int v110_4)] → W p l e ({ frames := 30, cells := 0, slots := 0, locals := 728 }) s m (List.toArray [.ref (ad 3), .ref (ad q1_)]) below meth c H locs 0 0 (MQ below (va_Qv (P_X3_readInto_1 ad cy B qr s1 q1_ w0) (fun u : va_W => wpost dC dI cy A u) A) (List.toArray [.ref (ad 3), .ref (ad q1_)]) s 0 0 A) (F0 m 110 ls []) := by
        intro v110_4 f110_1_4 f110_q1__4 H locs ls w23 r24 t25 r26 t27 r28 t29 r31 t32 hw hT hF c30 c33 hl
        refine lv_aload_n hx hb dX3_readInto_110 rfl (lv_at hl 0 rfl) ?_
        refine tk_getA hC hK hw hT hinX3 kC_at3 (by decide) rfl 0 (by decide) (List.mem_of_getElem? (i := 3) rfl) rfl rfl dX3_readInto_111 ?_
        refine tk_Vi hC hK hw hT hA hE hSR kC_at1 (by decide) rfl (k_X6_takeSemicolon_1 l adK adV dC dI cy ad B (by omega) (by omega) q1_ s1    w23 H.size hT ) (cwV 0 hC.2.2.2.2 gX3_readInto_X6_takeSemicolon rfl rfl rfl (by decide +kernel) ⟨Nat.le_of_ble_eq_true rfl, Nat.le_of_ble_eq_true rfl⟩) rfl hl.1 rfl (Nat.le_of_ble_eq_true rfl) dX3_readInto_114 (fun r34 w36 H locs hp35 hw => ?_)
        obtain ⟨hT, k37, hg48⟩ := hp35
        have hF := hF.tr k37 (by decide)
        have c49 := k37.gi hkq1_ (by decide) c33
        rcases hg48 with ⟨rfl, ⟨x38, c39, rx38, tx38⟩⟩ | ⟨rfl, ⟨x40, c41, rx40, tx40⟩⟩ | ⟨rfl, ⟨x42, c43, rx42, tx42⟩, ⟨x44, c45, rx44, tx44⟩, ⟨x46, c47, rx46, tx46⟩⟩
        · refine lv_istore_n (lv' := [(2, .int 0), (0, .ref (ad 3)), (1, .ref (ad q1_)), (3, .int v28_3), (4, .int v110_4)]) hx hb dX3_readInto_117 rfl hl (by decide) rfl (fun ls hl => ?_)
          obtain ⟨x50, ex50⟩ : ∃ y : Int32, y = v28_3 + Int32.ofInt 1 := ⟨_, rfl⟩
          refine lv_iinc (v := x50) (lv' := [(3, .int x50), (2, .int 0), (0, .ref (ad 3)), (1, .ref (ad q1_)), (4, .int v110_4)]) hx hb dX3_readInto_118 hl (k := 3) rfl ex50.symm (by decide) rfl (fun ls hl => ?_)
          have ex50 : x50.toInt = v28_3.toInt + 1 := by rw [ex50]; exact wk_add (y := 1) (show -2147483648 ≤ v28_3.toInt + 1 by omega) (show v28_3.toInt + 1 ≤ 2147483647 by omega)
          refine lv_goto (tgt := 28) hx hb dX3_readInto_121 (by decide) ?_
          exact ih28 0 x50 x38 f110_q1__4 H locs ls w36 (by decide) (by decide) (show 0 ≤ x50.toInt by omega) (show x50.toInt ≤ 13 by omega) (show 0 ≤ x38.toInt by omega) (show x38.toInt ≤ 3205 by omega) (show 0 ≤ f110_q1__4.toInt by omega) (show f110_q1__4.toInt ≤ 12 by omega) (show (13 - x50.toInt).toNat < n28 by omega) hw hT hF c39 c49 (lv_sub hl [2, 3, 1, 0] rfl)
        · refine lv_istore_n (lv' := [(2, .int 0), (0, .ref (ad 3)), (1, .ref (ad q1_)), (3, .int v28_3), (4, .int v110_4)]) hx hb dX3_readInto_117 rfl hl (by decide) rfl (fun ls hl => ?_)
          obtain ⟨x51, ex51⟩ : ∃ y : Int32, y = v28_3 + Int32.ofInt 1 := ⟨_, rfl⟩
          refine lv_iinc (v := x51) (lv' := [(3, .int x51), (2, .int 0), (0, .ref (ad 3)), (1, .ref (ad q1_)), (4, .int v110_4)]) hx hb dX3_readInto_118 hl (k := 3) rfl ex51.symm (by decide) rfl (fun ls hl => ?_)
          have ex51 : x51.toInt = v28_3.toInt + 1 := by rw [ex51]; exact wk_add (y := 1) (show -2147483648 ≤ v28_3.toInt + 1 by omega) (show v28_3.toInt + 1 ≤ 2147483647 by omega)
          refine lv_goto (tgt := 28) hx hb dX3_readInto_121 (by decide) ?_
          exact ih28 0 x51 x40 f110_q1__4 H locs ls w36 (by decide) (by decide) (show 0 ≤ x51.toInt by omega) (show x51.toInt ≤ 13 by omega) (show 0 ≤ x40.toInt by omega) (show x40.toInt ≤ 3205 by omega) (show 0 ≤ f110_q1__4.toInt by omega) (show f110_q1__4.toInt ≤ 12 by omega) (show (13 - x51.toInt).toNat < n28 by omega) hw hT hF c41 c49 (lv_sub hl [2, 3, 1, 0] rfl)
        · refine lv_istore_n (lv' := [(2, .int 1), (0, .ref (ad 3)), (1, .ref (ad q1_)), (3, .int v28_3), (4, .int v110_4)]) hx hb dX3_readInto_117 rfl hl (by decide) rfl (fun ls hl => ?_)
          obtain ⟨x52, ex52⟩ : ∃ y : Int32, y = v28_3 + Int32.ofInt 1 := ⟨_, rfl⟩
          refine lv_iinc (v := x52) (lv' := [(3, .int x52), (2, .int 1), (0, .ref (ad 3)), (1, .ref (ad q1_)), (4, .int v110_4)]) hx hb dX3_readInto_118 hl (k := 3) rfl ex52.symm (by decide) rfl (fun ls hl => ?_)
          have ex52 : x52.toInt = v28_3.toInt + 1 := by rw [ex52]; exact wk_add (y := 1) (show -2147483648 ≤ v28_3.toInt + 1 by omega) (show v28_3.toInt + 1 ≤ 2147483647 by omega)
          refine lv_goto (tgt := 28) hx hb dX3_readInto_121 (by decide) ?_
          exact ih28 1 x52 x46 f110_q1__4 H locs ls w36 (by decide) (by decide) (show 0 ≤ x52.toInt by omega) (show x52.toInt ≤ 13 by omega) (show 0 ≤ x46.toInt by omega) (show x46.toInt ≤ 3205 by omega) (show 0 ≤ f110_q1__4.toInt by omega) (show f110_q1__4.toInt ≤ 12 by omega) (show (13 - x52.toInt).toNat < n28 by omega) hw hT hF c47 c49 (lv_sub hl [2, 3, 1, 0] rfl)
      have J74 : ∀ (v74_4 : Int32) (H : Heap) (locs : List Loc) (ls : Array Slot) (w53 : va_W), 0 ≤ v28_3.toInt → v28_3.toInt ≤ 12 → (-1) ≤ v74_4.toInt → v74_4.toInt ≤ 18 → 0 ≤ f28_q1__4.toInt → f28_q1__4.toInt ≤ 12 → Wd dC dI A s.heap H locs w53 → TW ksC ad cy B q1_ s1 w53 → FE ksC [(2, 3, 3), (2, 4, 4), (2, 5, 5), (3, 1, 1), (3, 2, 2), (6, 1, 1), (6, 3, 3), (6, 4, 4), (21, 0, 12), (22, 0, 13), (23, 0, 400)] w0 w53 → gi w53 q1_ 4 = f28_q1__4 → lv_has ls 5 [(0, .ref (ad 3)), (1, .ref (ad q1_)), (2, .int 1), (3, .int v28_3), (4, .int v74_4)] → W p l e ({ frames := 30, cells := 0, slots := 0, locals := 728 }) s m (List.toArray [.ref (ad 3), .ref (ad q1_)]) below meth c H locs 0 0 (MQ below (va_Qv (P_X3_readInto_1 ad cy B qr s1 q1_ w0) (fun u : va_W => wpost dC dI cy A u) A) (List.toArray [.ref (ad 3), .ref (ad q1_)]) s 0 0 A) (F0 m 74 ls []) := by
        intro v74_4 H locs ls w53 r54 t55 r56 t57 r58 t59 hw hT hF c60 hl
        refine lv_aload_n hx hb dX3_readInto_74 rfl (lv_at hl 0 rfl) ?_
        refine tk_getQ hC hK hw hT hkq1_ (by decide) hinX3 kC_at3 (by decide) rfl 1 (by decide) (List.mem_of_getElem? (i := 1) rfl) rfl rfl dX3_readInto_75 ?_
        refine lv_iload hx hb dX3_readInto_78 (lv_at hl 4 rfl) ?_
        refine tk_Vv hC hK hw hT hA hE hSR hkq1_ (by decide) rfl (k_X2_addClause_1 l adK adV dC dI cy ad B (by omega) (by omega) q1_ s1   q1_ hkq1_ v74_4 (show (-1) ≤ v74_4.toInt by omega) (show v74_4.toInt ≤ 18 by omega) w53 H.size hT ) (cwV 1 hC.2.2.2.2 gX3_readInto_X2_addClause rfl rfl rfl (by decide +kernel) ⟨Nat.le_of_ble_eq_true rfl, Nat.le_of_ble_eq_true rfl⟩) rfl hl.1 rfl (Nat.le_of_ble_eq_true rfl) dX3_readInto_80 (fun w63 H locs hp62 hw => ?_)
        obtain ⟨hT, k64, hg67⟩ := hp62
        have hF := hF.tr k64 (by decide)
        obtain ⟨x65, c66, rx65, tx65⟩ := hg67
        refine lv_aload_n hx hb dX3_readInto_83 rfl (lv_at hl 0 rfl) ?_
        refine tk_getA hC hK hw hT hinX3 kC_at3 (by decide) rfl 0 (by decide) (List.mem_of_getElem? (i := 3) rfl) rfl rfl dX3_readInto_84 ?_
        refine tk_Vi hC hK hw hT hA hE hSR kC_at1 (by decide) rfl (k_X6_isFaulty_1 l adK adV dC dI cy ad B (by omega) (by omega) q1_ s1    w63 H.size hT ) (cwV 0 hC.2.2.2.2 gX3_readInto_X6_isFaulty rfl rfl rfl (by decide +kernel) ⟨Nat.le_of_ble_eq_true rfl, Nat.le_of_ble_eq_true rfl⟩) rfl hl.1 rfl (Nat.le_of_ble_eq_true rfl) dX3_readInto_87 (fun r68 w70 H locs hp69 hw => ?_)
        obtain ⟨hT, k71, hg76⟩ := hp69
        have hF := hF.tr k71 (by decide)
        have c77 := k71.gi hkq1_ (by decide) c66
        rcases hg76 with ⟨rfl, ⟨x72, c73, rx72, tx72⟩⟩ | ⟨rfl, ⟨x74, c75, rx74, tx74⟩⟩
        · refine lv_if_ne (tgt := 110) hx hb dX3_readInto_90 (by decide) (fun c => absurd (by decide) c) (fun _ => ?_)
          refine lv_aload_n hx hb dX3_readInto_93 rfl (lv_at hl 0 rfl) ?_
          refine tk_getA hC hK hw hT hinX3 kC_at3 (by decide) rfl 0 (by decide) (List.mem_of_getElem? (i := 3) rfl) rfl rfl dX3_readInto_94 ?_
          refine va_ldcS hx hb hC.2.2.2.1 hSR.2.2.2.1 dX3_readInto_97 ?_
          refine tk_Vi hC hK hw hT hA hE hSR kC_at1 (by decide) rfl (k_X6_takeWord_1 l adK adV dC dI cy ad B (by omega) (by omega) q1_ s1    w70 H.size hT ) (cwV 1 hC.2.2.2.2 gX3_readInto_X6_takeWord rfl rfl rfl (by decide +kernel) ⟨Nat.le_of_ble_eq_true rfl, Nat.le_of_ble_eq_true rfl⟩) rfl hl.1 rfl (Nat.le_of_ble_eq_true rfl) dX3_readInto_99 (fun r78 w80 H locs hp79 hw => ?_)
          obtain ⟨hT, k81, hg84⟩ := hp79
          have hF := hF.tr k81 (by decide)
          have c85 := k81.gi hkq1_ (by decide) c77
          have c86 := k81.gi kC_at1 (by decide) c73
          rcases hg84 with rfl | ⟨rfl, ⟨x82, c83, rx82, tx82⟩⟩
          · refine lv_if_eq (tgt := 110) hx hb dX3_readInto_102 (by decide) (fun _ => ?_) (fun c => absurd (by decide) c)
            exact J110 v74_4 x72 x65 H locs ls w80 (show 0 ≤ v28_3.toInt by omega) (show v28_3.toInt ≤ 12 by omega) (show (-1) ≤ v74_4.toInt by omega) (show v74_4.toInt ≤ 18 by omega) (show 0 ≤ x72.toInt by omega) (show x72.toInt ≤ 3205 by omega) (show 1 ≤ x65.toInt by omega) (show x65.toInt ≤ 12 by omega)  hw hT hF c86 c85 (lv_sub hl [0, 1, 2, 3, 4] rfl)
          · refine lv_if_eq (tgt := 110) hx hb dX3_readInto_102 (by decide) (fun c => absurd c (by decide)) (fun _ => ?_)
            refine lv_aload_n hx hb dX3_readInto_105 rfl (lv_at hl 0 rfl) ?_
            refine lv_iconst (v := 0) hx hb dX3_readInto_106 (by decide) ?_
            refine tk_Vv hC hK hw hT hA hE hSR kC_at3 (by decide) rfl (k_X3_readTest_1 l adK adV dC dI cy ad B (by omega) (by omega) q1_ s1 hkq1_   w80 H.size hT (c86.trans (wk_eq.mpr (show x72.toInt = 0 by omega)))) (cwV 1 hC.2.2.2.2 gX3_readInto_X3_readTest rfl rfl rfl (by decide +kernel) ⟨Nat.le_of_ble_eq_true rfl, Nat.le_of_ble_eq_true rfl⟩) rfl hl.1 rfl (Nat.le_of_ble_eq_true rfl) dX3_readInto_107 (fun w89 H locs hp88 hw => ?_)
            obtain ⟨hT, k90, hg93⟩ := hp88
            have hF := hF.tr k90 (by decide)
            have c94 := k90.gi hkq1_ (by decide) c85
            obtain ⟨x91, c92, rx91, tx91⟩ := hg93
            exact J110 v74_4 x91 x65 H locs ls w89 (show 0 ≤ v28_3.toInt by omega) (show v28_3.toInt ≤ 12 by omega) (show (-1) ≤ v74_4.toInt by omega) (show v74_4.toInt ≤ 18 by omega) (show 0 ≤ x91.toInt by omega) (show x91.toInt ≤ 3205 by omega) (show 1 ≤ x65.toInt by omega) (show x65.toInt ≤ 12 by omega)  hw hT hF c92 c94 (lv_sub hl [0, 1, 2, 3, 4] rfl)
        · refine lv_if_ne (tgt := 110) hx hb dX3_readInto_90 (by decide) (fun _ => ?_) (fun c => absurd c (by decide))
          exact J110 v74_4 x74 x65 H locs ls w70 (show 0 ≤ v28_3.toInt by omega) (show v28_3.toInt ≤ 12 by omega) (show (-1) ≤ v74_4.toInt by omega) (show v74_4.toInt ≤ 18 by omega) (show 0 ≤ x74.toInt by omega) (show x74.toInt ≤ 3205 by omega) (show 1 ≤ x65.toInt by omega) (show x65.toInt ≤ 12 by omega)  hw hT hF c75 c77 (lv_sub hl [0, 1, 2, 3, 4] rfl)
      refine lv_iload_n hx hb dX3_readInto_28 rfl (lv_at hl 2 rfl) ?_
      refine lv_if_eq (tgt := 124) hx hb dX3_readInto_29 (by decide) (fun c95 => ?_) (fun c95 => ?_)
      · have c95 : v28_2.toInt = (0 : Int) := wk_eq.mp c95
        exact J124 v28_2 v28_3 f28_1_4 f28_q1__4 H locs ls w12 (show 0 ≤ v28_2.toInt by omega) (show v28_2.toInt ≤ 1 by omega) (show 0 ≤ v28_3.toInt by omega) (show v28_3.toInt ≤ 13 by omega) (show 0 ≤ f28_1_4.toInt by omega) (show f28_1_4.toInt ≤ 3205 by omega) (show 0 ≤ f28_q1__4.toInt by omega) (show f28_q1__4.toInt ≤ 12 by omega)  hw hT hF c19 c22 (lv_sub hl [0, 1, 2, 3] rfl)
      · have c95 : ¬ v28_2.toInt = (0 : Int) := wk_eqF c95
        refine lv_iload_n hx hb dX3_readInto_32 rfl (lv_at hl 3 rfl) ?_
        refine lv_bipush (v := 12) hx hb dX3_readInto_33 (by decide) ?_
        refine lv_icmp_gt (tgt := 124) hx hb dX3_readInto_35 (by decide) (fun c96 => ?_) (fun c96 => ?_)
        · have c96 : (12 : Int) < v28_3.toInt := wk_lt.mp c96
          exact J124 v28_2 v28_3 f28_1_4 f28_q1__4 H locs ls w12 (show 0 ≤ v28_2.toInt by omega) (show v28_2.toInt ≤ 1 by omega) (show 0 ≤ v28_3.toInt by omega) (show v28_3.toInt ≤ 13 by omega) (show 0 ≤ f28_1_4.toInt by omega) (show f28_1_4.toInt ≤ 3205 by omega) (show 0 ≤ f28_q1__4.toInt by omega) (show f28_q1__4.toInt ≤ 12 by omega)  hw hT hF c19 c22 (lv_sub hl [0, 1, 2, 3] rfl)
        · have c96 : v28_3.toInt ≤ (12 : Int) := wk_ltF c96
          refine lv_aload_n hx hb dX3_readInto_38 rfl (lv_at hl 0 rfl) ?_
          refine tk_getA hC hK hw hT hinX3 kC_at3 (by decide) rfl 0 (by decide) (List.mem_of_getElem? (i := 3) rfl) rfl rfl dX3_readInto_39 ?_
          refine va_ldcS hx hb hC.2.2.2.1 hSR.2.2.1 dX3_readInto_42 ?_
          refine tk_Vi hC hK hw hT hA hE hSR kC_at1 (by decide) rfl (k_X6_readWord_2 l adK adV dC dI cy ad B (by omega) (by omega) q1_ s1    w12 H.size hT ) (cwV 1 hC.2.2.2.2 gX3_readInto_X6_readWord rfl rfl rfl (by decide +kernel) ⟨Nat.le_of_ble_eq_true rfl, Nat.le_of_ble_eq_true rfl⟩) rfl hl.1 rfl (Nat.le_of_ble_eq_true rfl) dX3_readInto_44 (fun r97 w99 H locs hp98 hw => ?_)
          obtain ⟨hT, k100, hg105⟩ := hp98
          have hF := hF.tr k100 (by decide)
          have c106 := k100.gi hkq1_ (by decide) c22
          rcases hg105 with ⟨g101, g102⟩ | ⟨rfl, ⟨x103, c104, rx103, tx103⟩⟩
          · refine lv_istore (lv' := [(4, .int r97), (0, .ref (ad 3)), (1, .ref (ad q1_)), (2, .int v28_2), (3, .int v28_3)]) hx hb dX3_readInto_47 hl (by decide) rfl (fun ls hl => ?_)
            refine lv_aload_n hx hb dX3_readInto_49 rfl (lv_at hl 1 rfl) ?_
            refine tk_getQ hC hK hw hT hkq1_ (by decide) hinX3 kC_at3 (by decide) rfl 1 (by decide) (List.mem_of_getElem? (i := 1) rfl) rfl rfl dX3_readInto_50 ?_
            refine tk_Vi hC hK hw hT hA hE hSR hkq1_ (by decide) rfl (k_X2_isFull_1 l adK adV dC dI cy ad B (by omega) (by omega) q1_ s1   q1_ hkq1_ w99 H.size hT ) (cwV 0 hC.2.2.2.2 gX3_readInto_X2_isFull rfl rfl rfl (by decide +kernel) ⟨Nat.le_of_ble_eq_true rfl, Nat.le_of_ble_eq_true rfl⟩) rfl hl.1 rfl (Nat.le_of_ble_eq_true rfl) dX3_readInto_53 (fun r107 w109 H locs hp108 hw => ?_)
            obtain ⟨hT, k110, hg115⟩ := hp108
            have hF := hF.tr k110 (by decide)
            have c116 := k110.gi hkq1_ (by decide) c106
            rcases hg115 with ⟨rfl, ⟨x111, c112, rx111, tx111⟩⟩ | ⟨rfl, ⟨x113, c114, rx113, tx113⟩⟩
            · have ex111 : x111.toInt = f28_q1__4.toInt := by rw [← c116.symm.trans c112]
              refine lv_if_eq (tgt := 74) hx hb dX3_readInto_56 (by decide) (fun _ => ?_) (fun c => absurd (by decide) c)
              obtain rfl : v28_2 = 1 := wk_eq.mpr (show v28_2.toInt = 1 by omega)
              exact J74 r97 H locs ls w109 (show 0 ≤ v28_3.toInt by omega) (show v28_3.toInt ≤ 12 by omega) (show (-1) ≤ r97.toInt by omega) (show r97.toInt ≤ 18 by omega) (show 0 ≤ f28_q1__4.toInt by omega) (show f28_q1__4.toInt ≤ 12 by omega)  hw hT hF c116 (lv_sub hl [1, 2, 3, 4, 0] rfl)
            · have ex113 : x113.toInt = f28_q1__4.toInt := by rw [← c116.symm.trans c114]
              refine lv_if_eq (tgt := 74) hx hb dX3_readInto_56 (by decide) (fun c => absurd c (by decide)) (fun _ => ?_)
              refine lv_aload_n hx hb dX3_readInto_59 rfl (lv_at hl 1 rfl) ?_
              refine tk_getA hC hK hw hT hinX3 kC_at3 (by decide) rfl 0 (by decide) (List.mem_of_getElem? (i := 3) rfl) rfl rfl dX3_readInto_60 ?_
              refine lv_aload_n hx hb dX3_readInto_63 rfl (lv_at hl 1 rfl) ?_
              refine tk_getA hC hK hw hT hinX3 kC_at3 (by decide) rfl 0 (by decide) (List.mem_of_getElem? (i := 3) rfl) rfl rfl dX3_readInto_64 ?_
              refine tk_geti hC hK hw hT hinX6 kC_at1 (by decide) rfl 3 (by decide) (List.mem_of_getElem? (i := 4) rfl) rfl rfl dX3_readInto_67 (fun x117 c118 rx117 tx117 => ?_)
              refine lv_iconst (v := 4) hx hb dX3_readInto_70 (by decide) ?_
              refine tk_Vv hC hK hw hT hA hE hSR kC_at1 (by decide) rfl (k_X6_blame_8 l adK adV dC dI cy ad B (by omega) (by omega) q1_ s1   x117 (show 0 ≤ x117.toInt by omega) (show x117.toInt ≤ 400 by omega) w109 H.size hT ) (cwV 2 hC.2.2.2.2 gX3_readInto_X6_blame rfl rfl rfl (by decide +kernel) ⟨Nat.le_of_ble_eq_true rfl, Nat.le_of_ble_eq_true rfl⟩) rfl hl.1 rfl (Nat.le_of_ble_eq_true rfl) dX3_readInto_71 (fun w121 H locs hp120 hw => ?_)
              obtain ⟨hT, k122, hg125⟩ := hp120
              have hF := hF.tr k122 (by decide)
              have c126 := k122.gi hkq1_ (by decide) c116
              have c127 := k122.gi kC_at1 (by decide) c118
              obtain ⟨x123, c124, rx123, tx123⟩ := hg125
              obtain rfl : v28_2 = 1 := wk_eq.mpr (show v28_2.toInt = 1 by omega)
              exact J74 r97 H locs ls w121 (show 0 ≤ v28_3.toInt by omega) (show v28_3.toInt ≤ 12 by omega) (show (-1) ≤ r97.toInt by omega) (show r97.toInt ≤ 18 by omega) (show 0 ≤ f28_q1__4.toInt by omega) (show f28_q1__4.toInt ≤ 12 by omega)  hw hT hF c126 (lv_sub hl [1, 2, 3, 4, 0] rfl)
          · refine lv_istore (lv' := [(4, .int (-1)), (0, .ref (ad 3)), (1, .ref (ad q1_)), (2, .int v28_2), (3, .int v28_3)]) hx hb dX3_readInto_47 hl (by decide) rfl (fun ls hl => ?_)
            refine lv_aload_n hx hb dX3_readInto_49 rfl (lv_at hl 1 rfl) ?_
            refine tk_getQ hC hK hw hT hkq1_ (by decide) hinX3 kC_at3 (by decide) rfl 1 (by decide) (List.mem_of_getElem? (i := 1) rfl) rfl rfl dX3_readInto_50 ?_
            refine tk_Vi hC hK hw hT hA hE hSR hkq1_ (by decide) rfl (k_X2_isFull_1 l adK adV dC dI cy ad B (by omega) (by omega) q1_ s1   q1_ hkq1_ w99 H.size hT ) (cwV 0 hC.2.2.2.2 gX3_readInto_X2_isFull rfl rfl rfl (by decide +kernel) ⟨Nat.le_of_ble_eq_true rfl, Nat.le_of_ble_eq_true rfl⟩) rfl hl.1 rfl (Nat.le_of_ble_eq_true rfl) dX3_readInto_53 (fun r128 w130 H locs hp129 hw => ?_)
            obtain ⟨hT, k131, hg136⟩ := hp129
            have hF := hF.tr k131 (by decide)
            have c137 := k131.gi hkq1_ (by decide) c106
            have c138 := k131.gi kC_at1 (by decide) c104
            rcases hg136 with ⟨rfl, ⟨x132, c133, rx132, tx132⟩⟩ | ⟨rfl, ⟨x134, c135, rx134, tx134⟩⟩
            · have ex132 : x132.toInt = f28_q1__4.toInt := by rw [← c137.symm.trans c133]
              refine lv_if_eq (tgt := 74) hx hb dX3_readInto_56 (by decide) (fun _ => ?_) (fun c => absurd (by decide) c)
              obtain rfl : v28_2 = 1 := wk_eq.mpr (show v28_2.toInt = 1 by omega)
              exact J74 (-1) H locs ls w130 (show 0 ≤ v28_3.toInt by omega) (show v28_3.toInt ≤ 12 by omega) (by decide) (by decide) (show 0 ≤ f28_q1__4.toInt by omega) (show f28_q1__4.toInt ≤ 12 by omega)  hw hT hF c137 (lv_sub hl [1, 2, 3, 4, 0] rfl)
            · have ex134 : x134.toInt = f28_q1__4.toInt := by rw [← c137.symm.trans c135]
              refine lv_if_eq (tgt := 74) hx hb dX3_readInto_56 (by decide) (fun c => absurd c (by decide)) (fun _ => ?_)
              refine lv_aload_n hx hb dX3_readInto_59 rfl (lv_at hl 1 rfl) ?_
              refine tk_getA hC hK hw hT hinX3 kC_at3 (by decide) rfl 0 (by decide) (List.mem_of_getElem? (i := 3) rfl) rfl rfl dX3_readInto_60 ?_
              refine lv_aload_n hx hb dX3_readInto_63 rfl (lv_at hl 1 rfl) ?_
              refine tk_getA hC hK hw hT hinX3 kC_at3 (by decide) rfl 0 (by decide) (List.mem_of_getElem? (i := 3) rfl) rfl rfl dX3_readInto_64 ?_
              refine tk_geti hC hK hw hT hinX6 kC_at1 (by decide) rfl 3 (by decide) (List.mem_of_getElem? (i := 4) rfl) rfl rfl dX3_readInto_67 (fun x139 c140 rx139 tx139 => ?_)
              refine lv_iconst (v := 4) hx hb dX3_readInto_70 (by decide) ?_
              refine tk_Vv hC hK hw hT hA hE hSR kC_at1 (by decide) rfl (k_X6_blame_9 l adK adV dC dI cy ad B (by omega) (by omega) q1_ s1   x139 (show 0 ≤ x139.toInt by omega) (show x139.toInt ≤ 400 by omega) w130 H.size hT x103 c138 (show 1 ≤ x103.toInt by omega) (show x103.toInt ≤ 3205 by omega)) (cwV 2 hC.2.2.2.2 gX3_readInto_X6_blame rfl rfl rfl (by decide +kernel) ⟨Nat.le_of_ble_eq_true rfl, Nat.le_of_ble_eq_true rfl⟩) rfl hl.1 rfl (Nat.le_of_ble_eq_true rfl) dX3_readInto_71 (fun w143 H locs hp142 hw => ?_)
              obtain ⟨hT, k144, hg147⟩ := hp142
              have hF := hF.tr k144 (by decide)
              have c148 := k144.gi hkq1_ (by decide) c137
              have c149 := k144.gi kC_at1 (by decide) c138
              have c150 := k144.gi kC_at1 (by decide) c140
              obtain ⟨x145, c146, rx145, tx145⟩ := hg147
              have ex145 : x145.toInt = x103.toInt := by rw [← c149.symm.trans c146]
              obtain rfl : v28_2 = 1 := wk_eq.mpr (show v28_2.toInt = 1 by omega)
              exact J74 (-1) H locs ls w143 (show 0 ≤ v28_3.toInt by omega) (show v28_3.toInt ≤ 12 by omega) (by decide) (by decide) (show 0 ≤ f28_q1__4.toInt by omega) (show f28_q1__4.toInt ≤ 12 by omega)  hw hT hF c148 (lv_sub hl [1, 2, 3, 4, 0] rfl)
  refine lv_aload_n hx hb dX3_readInto_0 rfl (lv_at hl 0 rfl) ?_
  refine lv_aload_n hx hb dX3_readInto_1 rfl (lv_at hl 1 rfl) ?_
  refine tk_putQ hC hK hw hT hkq1_ hinX3 tyX3_ok nmX3 rfl (by decide) (List.mem_of_getElem? (i := 1) rfl) rfl rfl rfl rfl rfl dX3_readInto_2 (fun H locs w151 hw hT k153 => ?_)
  have hF := hF.put kC_at3 (k := 1) (by decide) k153
  refine lv_aload_n hx hb dX3_readInto_5 rfl (lv_at hl 0 rfl) ?_
  refine tk_getQ hC hK hw hT hkq1_ (by decide) hinX3 kC_at3 (by decide) rfl 1 (by decide) (List.mem_of_getElem? (i := 1) rfl) rfl rfl dX3_readInto_6 ?_
  refine tk_Vv hC hK hw hT hA hE hSR hkq1_ (by decide) rfl (k_X2_clear_1 l adK adV dC dI cy ad B (by omega) (by omega) q1_ s1   q1_ hkq1_ w151 H.size hT ) (cwV 0 hC.2.2.2.2 gX3_readInto_X2_clear rfl rfl rfl (by decide +kernel) ⟨Nat.le_of_ble_eq_true rfl, Nat.le_of_ble_eq_true rfl⟩) rfl hl.1 rfl (Nat.le_of_ble_eq_true rfl) dX3_readInto_9 (fun w156 H locs hp155 hw => ?_)
  obtain ⟨hT, k157, hg164⟩ := hp155
  have hF := hF.tr k157 (by decide)
  obtain ⟨⟨x158, c159, rx158, tx158⟩, ⟨x160, c161, rx160, tx160⟩, ⟨x162, c163, rx162, tx162⟩⟩ := hg164
  refine lv_aload_n hx hb dX3_readInto_12 rfl (lv_at hl 0 rfl) ?_
  refine lv_iconst (v := 0) hx hb dX3_readInto_13 (by decide) ?_
  refine tk_puti hC hK hw hT hinX3 tyX3_ok nmX3 kC_at3 (by decide) rfl rfl 2 (by decide) (List.mem_of_getElem? (i := 2) rfl) rfl rfl rfl rfl (by decide) (by decide) dX3_readInto_14 (fun H locs w165 hw hT k167 c166 => ?_)
  have hF := hF.put kC_at3 (k := 2) (by decide) k167
  have c168 := k167.gi (Or.inr (by decide)) c159
  have c169 := k167.gi (Or.inr (by decide)) c161
  have c170 := k167.gi (Or.inr (by decide)) c163
  refine lv_aload_n hx hb dX3_readInto_17 rfl (lv_at hl 0 rfl) ?_
  refine tk_getA hC hK hw hT hinX3 kC_at3 (by decide) rfl 0 (by decide) (List.mem_of_getElem? (i := 3) rfl) rfl rfl dX3_readInto_18 ?_
  refine tk_Vv hC hK hw hT hA hE hSR kC_at1 (by decide) rfl (k_X6_startReading_1 l adK adV dC dI cy ad B (by omega) (by omega) q1_ s1    w165 H.size hT ) (cwV 0 hC.2.2.2.2 gX3_readInto_X6_startReading rfl rfl rfl (by decide +kernel) ⟨Nat.le_of_ble_eq_true rfl, Nat.le_of_ble_eq_true rfl⟩) rfl hl.1 rfl (Nat.le_of_ble_eq_true rfl) dX3_readInto_21 (fun w173 H locs hp172 hw => ?_)
  obtain ⟨hT, k174, hg181⟩ := hp172
  have hF := hF.tr k174 (by decide)
  have c182 := k174.gi hkq1_ (by decide) c168
  have c183 := k174.gi hkq1_ (by decide) c169
  have c184 := k174.gi hkq1_ (by decide) c170
  have c185 := k174.gi kC_at3 (by decide) c166
  obtain ⟨⟨x175, c176, rx175, tx175⟩, ⟨x177, c178, rx177, tx177⟩, ⟨x179, c180, rx179, tx179⟩⟩ := hg181
  refine lv_iconst (v := 1) hx hb dX3_readInto_24 (by decide) ?_
  refine lv_istore_n (lv' := [(2, .int 1), (0, .ref (ad 3)), (1, .ref (ad q1_))]) hx hb dX3_readInto_25 rfl hl (by decide) rfl (fun ls hl => ?_)
  refine lv_iconst (v := 0) hx hb dX3_readInto_26 (by decide) ?_
  refine lv_istore_n (lv' := [(3, .int 0), (2, .int 1), (0, .ref (ad 3)), (1, .ref (ad q1_))]) hx hb dX3_readInto_27 rfl hl (by decide) rfl (fun ls hl => ?_)
  exact L28 ((13 - (0 : Int)).toNat + 1) 1 0 x179 x160 H locs ls w173 (by decide) (by decide) (by decide) (by decide) (show 0 ≤ x179.toInt by omega) (show x179.toInt ≤ 3205 by omega) (show 0 ≤ x160.toInt by omega) (show x160.toInt ≤ 12 by omega) (Nat.lt_succ_self _) hw hT hF c180 c183 (lv_sub hl [2, 3, 1, 0] rfl)
abbrev P_X11_rule_1 (ad : Nat → Nat) (cy : Nat → ClassId) (B : Int) (qr : Nat) (s1 : Int)  (w0 : va_W) : Int32 → va_W → Prop := fun r u => (∃ qn : Nat, TW ksC ad cy B qn s1 u) ∧ FE ksC [(2, 3, 3), (2, 4, 4), (2, 5, 5), (3, 1, 1), (3, 2, 2), (6, 1, 1), (6, 2, 2), (6, 3, 3), (6, 4, 4), (11, 12, 12), (21, 0, 12), (22, 0, 13), (23, 0, 400)] w0 u ∧ (((-3207) ≤ r.toInt ∧ r.toInt ≤ (-3) ∧ (∃ y : Int32, gi u 0 12 = y ∧ 0 ≤ y.toInt ∧ y.toInt ≤ 5) ∧ (∃ y : Int32, gi u 1 2 = y ∧ 0 ≤ y.toInt ∧ y.toInt ≤ 0) ∧ (∃ y : Int32, gi u 1 4 = y ∧ 1 ≤ y.toInt ∧ y.toInt ≤ 3205)) ∨ (0 ≤ r.toInt ∧ r.toInt ≤ 5 ∧ (∃ y : Int32, gi u 0 12 = y ∧ 1 ≤ y.toInt ∧ y.toInt ≤ 6) ∧ (∃ y : Int32, gi u 1 2 = y ∧ 0 ≤ y.toInt ∧ y.toInt ≤ 0) ∧ (∃ y : Int32, gi u 1 4 = y ∧ 0 ≤ y.toInt ∧ y.toInt ≤ 0)) ∨ (r = (-1) ∧ (∃ y : Int32, gi u 0 12 = y ∧ 6 ≤ y.toInt ∧ y.toInt ≤ 6)))
set_option maxHeartbeats 4000000 in
set_option maxRecDepth 100000 in
theorem k_X11_rule_1 (l : Launch) (adK adV : Nat → Nat) (dC : Nat → ClassId) (dI : Nat → Nat → Nat) (cy : Nat → ClassId) (ad : Nat → Nat) (B : Int) (hB0 : 2147483648 ≤ B) (hB1 : B ≤ 1152921504606846976) (qr : Nat) (s1 : Int)   (w0 : va_W) (sz : Nat) (hT : TW ksC ad cy B qr s1 w0)  : Met l yX11_rule wsX11_rule ({ frames := 31, cells := 0, slots := 0, locals := 752 }) (va_Pc [.ref (ad 0)] (wpreS adK adV dC dI cy sz w0)) (va_Qi (P_X11_rule_1 ad cy B qr s1  w0) (fun u : va_W => wpost dC dI cy (va_A w0 sz) u) (va_A w0 sz)) 0 0 (va_A w0 sz) := by
  refine Met.ofW (cc := cX11_rule) (maxL := 2) (ret := (some .int)) (by decide) rfl ?_
  intro p e s m args below meth c s₁ Bk hml hv
  obtain ⟨rfl, ⟨hsz, hP, hK, hD0⟩, hE, hSR⟩ := hv
  have hx := Bk.exec
  have hb := Bk.bytes
  have hr := Bk.returns
  have hlocks := Bk.notSynchronized
  have hC : CallFix p m c cX11_rule 2 s _ wsX11_rule RX11 := ⟨hx, hb, hml, findClass_of_methodNamed Bk.named, atoms_spec (ws := wsX11_rule) Bk.pre⟩
  subst hsz
  have hD := hD0.self (sz := s.heap.size)
  generalize hAe : va_A w0 s.heap.size = A at hD hE ⊢
  have hA : ∀ q : Nat, s.heap.size ≤ q → A q := fun q h => by rw [← hAe]; exact Or.inr h
  have hw : Wd dC dI A s.heap s.heap [] w0 := ⟨hP, hD, va_S.rf⟩
  have hF : FE ksC [(2, 3, 3), (2, 4, 4), (2, 5, 5), (3, 1, 1), (3, 2, 2), (6, 1, 1), (6, 2, 2), (6, 3, 3), (6, 4, 4), (11, 12, 12), (21, 0, 12), (22, 0, 13), (23, 0, 400)] w0 w0 := FE.rf
  have hl := lv_entry ([.ref (ad 0)]) (n := 2) (Nat.le_of_ble_eq_true rfl)
  rw [lg_entry_eq]
  generalize (lg_sl ([.ref (ad 0)]) ++ List.replicate (2 - (lg_sl ([.ref (ad 0)])).length) Slot.unset).toArray = ls at hl ⊢
  have hl : lv_has ls 2 [(0, .ref (ad 0))] := hl
  generalize hloc : ([] : List Loc) = locs at hw ⊢
  have hinX11 : ∀ w ∈ u_ws RX11 TX11 13, w ∈ wsX11_rule := fun _ h => List.mem_cons_of_mem _ (List.mem_append_left _ (List.mem_append_left _ (List.mem_append_left _ (List.mem_append_right _ (h)))))
  have hinX6 : ∀ w ∈ u_ws RX6 TX6 5, w ∈ wsX11_rule := fun _ h => List.mem_cons_of_mem _ (List.mem_append_left _ (List.mem_append_left _ (List.mem_append_right _ (h))))
  refine lv_aload_n hx hb dX11_rule_0 rfl (lv_at hl 0 rfl) ?_
  refine tk_geti hC hK hw hT hinX11 kC_at0 (by decide) rfl 12 (by decide) (List.mem_of_getElem? (i := 1) rfl) rfl rfl dX11_rule_1 (fun x1 c2 rx1 tx1 => ?_)
  refine lv_bipush (v := 6) hx hb dX11_rule_4 (by decide) ?_
  refine lv_icmp_lt (tgt := 11) hx hb dX11_rule_6 (by decide) (fun c3 => ?_) (fun c3 => ?_)
  · have c3 : x1.toInt < (6 : Int) := wk_lt.mp c3
    refine lv_aload_n hx hb dX11_rule_11 rfl (lv_at hl 0 rfl) ?_
    refine tk_getA hC hK hw hT hinX11 kC_at0 (by decide) rfl 3 (by decide) (List.mem_of_getElem? (i := 2) rfl) rfl rfl dX11_rule_12 ?_
    refine lv_aload_n hx hb dX11_rule_15 rfl (lv_at hl 0 rfl) ?_
    refine tk_getA hC hK hw hT hinX11 kC_at0 (by decide) rfl 2 (by decide) (List.mem_of_getElem? (i := 3) rfl) rfl rfl dX11_rule_16 ?_
    refine lv_aload_n hx hb dX11_rule_19 rfl (lv_at hl 0 rfl) ?_
    refine tk_geti hC hK hw hT hinX11 kC_at0 (by decide) rfl 12 (by decide) (List.mem_of_getElem? (i := 1) rfl) rfl rfl dX11_rule_20 (fun x4 c5 rx4 tx4 => ?_)
    refine wk_top x1 (c5.symm.trans c2) ?_
    refine tk_aald hC hK hw hT kC_at4 rfl (by decide) rfl (show 0 ≤ x1.toInt by omega) (show x1.toInt < 6 by omega) dX11_rule_23 (fun j6 hj6 gj6 => ?_)
    refine tk_Vv hC hK hw hT hA hE hSR kC_at3 (by decide) rfl (k_X3_readInto_1 l adK adV dC dI cy ad B (by omega) (by omega) qr s1   (el 39 4 j6) (kC_el39 kC_at4 hj6) w0 s.heap.size hT ) (cwV 1 hC.2.2.2.2 gX11_rule_X3_readInto rfl rfl rfl (by decide +kernel) ⟨Nat.le_of_ble_eq_true rfl, Nat.le_of_ble_eq_true rfl⟩) rfl hl.1 rfl (Nat.le_of_ble_eq_true rfl) dX11_rule_24 (fun w9 H locs hp8 hw => ?_)
    obtain ⟨hT, k10, hg13⟩ := hp8
    have hF := hF.tr k10 (by decide)
    have c14 := k10.gi kC_at0 (by decide) c2
    obtain ⟨x11, c12, rx11, tx11⟩ := hg13
    refine lv_aload_n hx hb dX11_rule_27 rfl (lv_at hl 0 rfl) ?_
    refine tk_getA hC hK hw hT hinX11 kC_at0 (by decide) rfl 0 (by decide) (List.mem_of_getElem? (i := 4) rfl) rfl rfl dX11_rule_28 ?_
    refine tk_geti hC hK hw hT hinX6 kC_at1 (by decide) rfl 4 (by decide) (List.mem_of_getElem? (i := 5) rfl) rfl rfl dX11_rule_31 (fun x15 c16 rx15 tx15 => ?_)
    refine wk_top x11 (c16.symm.trans c12) ?_
    refine lv_istore_n (lv' := [(1, .int x11), (0, .ref (ad 0))]) hx hb dX11_rule_34 rfl hl (by decide) rfl (fun ls hl => ?_)
    refine lv_aload_n hx hb dX11_rule_35 rfl (lv_at hl 1 rfl) ?_
    refine tk_getA hC hK hw hT hinX11 kC_at0 (by decide) rfl 0 (by decide) (List.mem_of_getElem? (i := 4) rfl) rfl rfl dX11_rule_36 ?_
    refine lv_iconst (v := 0) hx hb dX11_rule_39 (by decide) ?_
    refine tk_puti hC hK hw hT hinX6 tyX6_ok nmX6 kC_at1 (by decide) rfl rfl 2 (by decide) (List.mem_of_getElem? (i := 6) rfl) rfl rfl rfl rfl (by decide) (by decide) dX11_rule_40 (fun H locs w17 hw hT k19 c18 => ?_)
    have hF := hF.put kC_at1 (k := 2) (by decide) k19
    have c20 := k19.gi (Or.inr (by decide)) c14
    have c21 := k19.gi (Or.inr (by decide)) c12
    refine lv_iload_n hx hb dX11_rule_43 rfl (lv_at hl 0 rfl) ?_
    refine lv_if_eq (tgt := 52) hx hb dX11_rule_44 (by decide) (fun c22 => ?_) (fun c22 => ?_)
    · have c22 : x11.toInt = (0 : Int) := wk_eq.mp c22
      refine lv_aload_n hx hb dX11_rule_52 rfl (lv_at hl 1 rfl) ?_
      refine lv_dup hx hb dX11_rule_53 rfl ?_
      refine tk_geti hC hK hw hT hinX11 kC_at0 (by decide) rfl 12 (by decide) (List.mem_of_getElem? (i := 1) rfl) rfl rfl dX11_rule_54 (fun x23 c24 rx23 tx23 => ?_)
      refine wk_top x1 (c24.symm.trans c20) ?_
      refine lv_iconst (v := 1) hx hb dX11_rule_57 (by decide) ?_
      refine lv_iadd hx hb dX11_rule_58 ?_
      refine lv_topi (fun x25 ex25 => ?_)
      have ex25 : x25.toInt = x1.toInt + (1 : Int) := by rw [ex25]; exact wk_add (show (-2147483648) ≤ x1.toInt + (1 : Int) by omega) (show x1.toInt + (1 : Int) ≤ 2147483647 by omega)
      refine tk_puti hC hK hw hT hinX11 tyX11_ok nmX11 kC_at0 (by decide) rfl rfl 12 (by decide) (List.mem_of_getElem? (i := 1) rfl) rfl rfl rfl rfl (show 0 ≤ x25.toInt by omega) (show x25.toInt ≤ 6 by omega) dX11_rule_59 (fun H locs w26 hw hT k28 c27 => ?_)
      have hF := hF.put kC_at0 (k := 12) (by decide) k28
      have c29 := k28.gi (Or.inr (by decide)) c21
      have c30 := k28.gi (Or.inr (by decide)) c18
      refine lv_aload_n hx hb dX11_rule_62 rfl (lv_at hl 1 rfl) ?_
      refine tk_geti hC hK hw hT hinX11 kC_at0 (by decide) rfl 12 (by decide) (List.mem_of_getElem? (i := 1) rfl) rfl rfl dX11_rule_63 (fun x31 c32 rx31 tx31 => ?_)
      refine wk_top x25 (c32.symm.trans c27) ?_
      refine lv_iconst (v := 1) hx hb dX11_rule_66 (by decide) ?_
      refine lv_isub hx hb dX11_rule_67 ?_
      refine lv_topi (fun x33 ex33 => ?_)
      have ex33 : x33.toInt = x25.toInt - (1 : Int) := by rw [ex33]; exact wk_sub (show (-2147483648) ≤ x25.toInt - (1 : Int) by omega) (show x25.toInt - (1 : Int) ≤ 2147483647 by omega)
      exact tk_iret hC hr hlocks hK ⟨⟨_, hT⟩, hF, (Or.inr (Or.inl ⟨(show 0 ≤ x33.toInt by omega), (show x33.toInt ≤ 5 by omega), ⟨x25, c27, (show 1 ≤ x25.toInt by omega), (show x25.toInt ≤ 6 by omega)⟩, ⟨0, c30, (by decide), (by decide)⟩, ⟨x11, c29, (show 0 ≤ x11.toInt by omega), (show x11.toInt ≤ 0 by omega)⟩⟩))⟩ hw dX11_rule_68
    · have c22 : ¬ x11.toInt = (0 : Int) := wk_eqF c22
      refine lv_bipush (v := (-2)) hx hb dX11_rule_47 (by decide) ?_
      refine lv_iload_n hx hb dX11_rule_49 rfl (lv_at hl 0 rfl) ?_
      refine lv_isub hx hb dX11_rule_50 ?_
      refine lv_topi (fun x34 ex34 => ?_)
      have ex34 : x34.toInt = (-2 : Int) - x11.toInt := by rw [ex34]; exact wk_sub (show (-2147483648) ≤ (-2 : Int) - x11.toInt by omega) (show (-2 : Int) - x11.toInt ≤ 2147483647 by omega)
      exact tk_iret hC hr hlocks hK ⟨⟨_, hT⟩, hF, (Or.inl ⟨(show (-3207) ≤ x34.toInt by omega), (show x34.toInt ≤ (-3) by omega), ⟨x1, c20, (show 0 ≤ x1.toInt by omega), (show x1.toInt ≤ 5 by omega)⟩, ⟨0, c18, (by decide), (by decide)⟩, ⟨x11, c21, (show 1 ≤ x11.toInt by omega), (show x11.toInt ≤ 3205 by omega)⟩⟩)⟩ hw dX11_rule_51
  · have c3 : (6 : Int) ≤ x1.toInt := wk_ltF c3
    refine lv_iconst (v := (-1)) hx hb dX11_rule_9 (by decide) ?_
    exact tk_iret hC hr hlocks hK ⟨⟨_, hT⟩, hF, (Or.inr (Or.inr ⟨rfl, ⟨x1, c2, (show 6 ≤ x1.toInt by omega), (show x1.toInt ≤ 6 by omega)⟩⟩))⟩ hw dX11_rule_10
abbrev P_X7_hasStreet_1 (ad : Nat → Nat) (cy : Nat → ClassId) (B : Int) (qr : Nat) (s1 : Int) (a1 : Int32) (w0 : va_W) : Int32 → va_W → Prop := fun r u => TW ksC ad cy B qr s1 u ∧ FE ksC ([] : List (Nat × Nat × Nat)) w0 u ∧ ((r = 0) ∨ (r = 1 ∧ 0 ≤ a1.toInt ∧ a1.toInt ≤ 11 ∧ (∃ y : Int32, gi u 39 9 = y ∧ 1 ≤ y.toInt ∧ y.toInt ≤ 12)))
set_option maxHeartbeats 4000000 in
set_option maxRecDepth 100000 in
theorem k_X7_hasStreet_1 (l : Launch) (adK adV : Nat → Nat) (dC : Nat → ClassId) (dI : Nat → Nat → Nat) (cy : Nat → ClassId) (ad : Nat → Nat) (B : Int) (hB0 : 2147483648 ≤ B) (hB1 : B ≤ 1152921504606846976) (qr : Nat) (s1 : Int)  (a1 : Int32) (w0 : va_W) (sz : Nat) (hT : TW ksC ad cy B qr s1 w0)  : Met l yX7_hasStreet wsX7_hasStreet ({ frames := 1, cells := 0, slots := 0, locals := 12 }) (va_Pc [.ref (ad 39), .int a1] (wpreS adK adV dC dI cy sz w0)) (va_Qi (P_X7_hasStreet_1 ad cy B qr s1 a1 w0) (fun u : va_W => wpost dC dI cy (va_A w0 sz) u) (va_A w0 sz)) 0 0 (va_A w0 sz) := by
  refine Met.ofW (cc := cX7_hasStreet) (maxL := 2) (ret := (some .boolean)) (by decide) rfl ?_
  intro p e s m args below meth c s₁ Bk hml hv
  obtain ⟨rfl, ⟨hsz, hP, hK, hD0⟩, hE, hSR⟩ := hv
  have hx := Bk.exec
  have hb := Bk.bytes
  have hr := Bk.returns
  have hlocks := Bk.notSynchronized
  have hC : CallFix p m c cX7_hasStreet 2 s _ wsX7_hasStreet RX7 := ⟨hx, hb, hml, findClass_of_methodNamed Bk.named, atoms_spec (ws := wsX7_hasStreet) Bk.pre⟩
  subst hsz
  have hD := hD0.self (sz := s.heap.size)
  generalize hAe : va_A w0 s.heap.size = A at hD hE ⊢
  have hA : ∀ q : Nat, s.heap.size ≤ q → A q := fun q h => by rw [← hAe]; exact Or.inr h
  have hw : Wd dC dI A s.heap s.heap [] w0 := ⟨hP, hD, va_S.rf⟩
  have hF : FE ksC ([] : List (Nat × Nat × Nat)) w0 w0 := FE.rf
  have hl := lv_entry ([.ref (ad 39), .int a1]) (n := 2) (Nat.le_of_ble_eq_true rfl)
  rw [lg_entry_eq]
  generalize (lg_sl ([.ref (ad 39), .int a1]) ++ List.replicate (2 - (lg_sl ([.ref (ad 39), .int a1])).length) Slot.unset).toArray = ls at hl ⊢
  have hl : lv_has ls 2 [(0, .ref (ad 39)), (1, .int a1)] := hl
  generalize hloc : ([] : List Loc) = locs at hw ⊢
  have hinX7 : ∀ w ∈ u_ws RX7 TX7 12, w ∈ wsX7_hasStreet := fun _ h => List.mem_cons_of_mem _ (List.mem_append_right _ (h))
  have J16 : ∀ (H : Heap) (locs : List Loc) (ls : Array Slot) (w1 : va_W), Wd dC dI A s.heap H locs w1 → TW ksC ad cy B qr s1 w1 → FE ksC ([] : List (Nat × Nat × Nat)) w0 w1 → lv_has ls 2 [(0, .ref (ad 39)), (1, .int a1)] → W p l e ({ frames := 1, cells := 0, slots := 0, locals := 12 }) s m (List.toArray [.ref (ad 39), .int a1]) below meth c H locs 0 0 (MQ below (va_Qi (P_X7_hasStreet_1 ad cy B qr s1 a1 w0) (fun u : va_W => wpost dC dI cy A u) A) (List.toArray [.ref (ad 39), .int a1]) s 0 0 A) (F0 m 16 ls []) := by
    intro H locs ls w1 hw hT hF hl
    refine lv_iconst (v := 0) hx hb dX7_hasStreet_16 (by decide) ?_
    exact tk_zret hC hr rfl hlocks hK ⟨hT, hF, (Or.inl rfl)⟩ hw dX7_hasStreet_17
  refine lv_iload_n hx hb dX7_hasStreet_0 rfl (lv_at hl 1 rfl) ?_
  refine lv_if_lt (tgt := 16) hx hb dX7_hasStreet_1 (by decide) (fun c2 => ?_) (fun c2 => ?_)
  · have c2 : a1.toInt < (0 : Int) := wk_lt.mp c2
    exact J16  s.heap locs ls w0   hw hT hF  (lv_sub hl [0, 1] rfl)
  · have c2 : (0 : Int) ≤ a1.toInt := wk_ltF c2
    refine lv_iload_n hx hb dX7_hasStreet_4 rfl (lv_at hl 1 rfl) ?_
    refine lv_aload_n hx hb dX7_hasStreet_5 rfl (lv_at hl 0 rfl) ?_
    refine tk_geti hC hK hw hT hinX7 kC_at39 (by decide) rfl 9 (by decide) (List.mem_of_getElem? (i := 1) rfl) rfl rfl dX7_hasStreet_6 (fun x3 c4 rx3 tx3 => ?_)
    refine lv_icmp_ge (tgt := 16) hx hb dX7_hasStreet_9 (by decide) (fun c5 => ?_) (fun c5 => ?_)
    · have c5 : x3.toInt ≤ a1.toInt := wk_le.mp c5
      exact J16  s.heap locs ls w0   hw hT hF  (lv_sub hl [0, 1] rfl)
    · have c5 : a1.toInt < x3.toInt := wk_leF c5
      refine lv_iconst (v := 1) hx hb dX7_hasStreet_12 (by decide) ?_
      refine lv_goto (tgt := 17) hx hb dX7_hasStreet_13 (by decide) ?_
      exact tk_zret hC hr rfl hlocks hK ⟨hT, hF, (Or.inr ⟨rfl, (show 0 ≤ a1.toInt by omega), (show a1.toInt ≤ 11 by omega), ⟨x3, c4, (show 1 ≤ x3.toInt by omega), (show x3.toInt ≤ 12 by omega)⟩⟩)⟩ hw dX7_hasStreet_17
abbrev P_X7_signOn_1 (ad : Nat → Nat) (cy : Nat → ClassId) (B : Int) (qr : Nat) (s1 : Int) (a1 : Int32) (a2 : Int32) (w0 : va_W) : Int32 → va_W → Prop := fun r u => TW ksC ad cy B qr s1 u ∧ FE ksC ([] : List (Nat × Nat × Nat)) w0 u ∧ ((0 ≤ r.toInt ∧ r.toInt ≤ 3))
set_option maxHeartbeats 4000000 in
set_option maxRecDepth 100000 in
theorem k_X7_signOn_1 (l : Launch) (adK adV : Nat → Nat) (dC : Nat → ClassId) (dI : Nat → Nat → Nat) (cy : Nat → ClassId) (ad : Nat → Nat) (B : Int) (hB0 : 2147483648 ≤ B) (hB1 : B ≤ 1152921504606846976) (qr : Nat) (s1 : Int)  (a1 : Int32) (ra1 : 0 ≤ a1.toInt) (ta1 : a1.toInt ≤ 11) (a2 : Int32) (ra2 : 0 ≤ a2.toInt) (ta2 : a2.toInt ≤ 6) (w0 : va_W) (sz : Nat) (hT : TW ksC ad cy B qr s1 w0)  : Met l yX7_signOn wsX7_signOn ({ frames := 1, cells := 0, slots := 0, locals := 12 }) (va_Pc [.ref (ad 39), .int a1, .int a2] (wpreS adK adV dC dI cy sz w0)) (va_Qi (P_X7_signOn_1 ad cy B qr s1 a1 a2 w0) (fun u : va_W => wpost dC dI cy (va_A w0 sz) u) (va_A w0 sz)) 0 0 (va_A w0 sz) := by
  refine Met.ofW (cc := cX7_signOn) (maxL := 3) (ret := (some .int)) (by decide) rfl ?_
  intro p e s m args below meth c s₁ Bk hml hv
  obtain ⟨rfl, ⟨hsz, hP, hK, hD0⟩, hE, hSR⟩ := hv
  have hx := Bk.exec
  have hb := Bk.bytes
  have hr := Bk.returns
  have hlocks := Bk.notSynchronized
  have hC : CallFix p m c cX7_signOn 3 s _ wsX7_signOn RX7 := ⟨hx, hb, hml, findClass_of_methodNamed Bk.named, atoms_spec (ws := wsX7_signOn) Bk.pre⟩
  subst hsz
  have hD := hD0.self (sz := s.heap.size)
  generalize hAe : va_A w0 s.heap.size = A at hD hE ⊢
  have hA : ∀ q : Nat, s.heap.size ≤ q → A q := fun q h => by rw [← hAe]; exact Or.inr h
  have hw : Wd dC dI A s.heap s.heap [] w0 := ⟨hP, hD, va_S.rf⟩
  have hF : FE ksC ([] : List (Nat × Nat × Nat)) w0 w0 := FE.rf
  have hl := lv_entry ([.ref (ad 39), .int a1, .int a2]) (n := 3) (Nat.le_of_ble_eq_true rfl)
  rw [lg_entry_eq]
  generalize (lg_sl ([.ref (ad 39), .int a1, .int a2]) ++ List.replicate (3 - (lg_sl ([.ref (ad 39), .int a1, .int a2])).length) Slot.unset).toArray = ls at hl ⊢
  have hl : lv_has ls 3 [(0, .ref (ad 39)), (1, .int a1), (2, .int a2)] := hl
  generalize hloc : ([] : List Loc) = locs at hw ⊢
  have hinX7 : ∀ w ∈ u_ws RX7 TX7 12, w ∈ wsX7_signOn := fun _ h => List.mem_cons_of_mem _ (List.mem_append_right _ (h))
  refine lv_aload_n hx hb dX7_signOn_0 rfl (lv_at hl 0 rfl) ?_
  refine tk_getO hC hK hw hT hinX7 kC_at39 (by decide) rfl 2 (by decide) (List.mem_of_getElem? (i := 1) rfl) rfl rfl dX7_signOn_1 ?_
  refine lv_bipush (v := 7) hx hb dX7_signOn_4 (by decide) ?_
  refine lv_iload_n hx hb dX7_signOn_6 rfl (lv_at hl 1 rfl) ?_
  refine lv_imul hx hb dX7_signOn_7 ?_
  refine lv_topi (fun x1 ex1 => ?_)
  have ex1 : x1.toInt = (7 : Int) * a1.toInt := by rw [ex1]; exact wk_mul (show (-2147483648) ≤ (7 : Int) * a1.toInt by omega) (show (7 : Int) * a1.toInt ≤ 2147483647 by omega)
  refine lv_iload_n hx hb dX7_signOn_8 rfl (lv_at hl 2 rfl) ?_
  refine lv_iadd hx hb dX7_signOn_9 ?_
  refine lv_topi (fun x2 ex2 => ?_)
  have ex2 : x2.toInt = x1.toInt + a2.toInt := by rw [ex2]; exact wk_add (show (-2147483648) ≤ x1.toInt + a2.toInt by omega) (show x1.toInt + a2.toInt ≤ 2147483647 by omega)
  refine tk_iald hC hK hw hT kC_at42 rfl rfl (show 0 ≤ x2.toInt by omega) (show x2.toInt < 91 by omega) dX7_signOn_10 (fun x3 c4 rx3 tx3 => ?_)
  exact tk_iret hC hr hlocks hK ⟨hT, hF, ⟨(show 0 ≤ x3.toInt by omega), (show x3.toInt ≤ 3 by omega)⟩⟩ hw dX7_signOn_11
abbrev P_X11_street_1 (ad : Nat → Nat) (cy : Nat → ClassId) (B : Int) (qr : Nat) (s1 : Int) (a1 : Int32) (a2 : Int32) (w0 : va_W) : Int32 → va_W → Prop := fun r u => TW ksC ad cy B qr s1 u ∧ FE ksC ([] : List (Nat × Nat × Nat)) w0 u ∧ ((0 ≤ r.toInt ∧ r.toInt ≤ 9 ∧ 0 ≤ a1.toInt ∧ a1.toInt ≤ 11 ∧ 0 ≤ a2.toInt ∧ a2.toInt ≤ 9 ∧ (∃ y : Int32, gi u 39 9 = y ∧ 1 ≤ y.toInt ∧ y.toInt ≤ 12)) ∨ (r = (-1)))
set_option maxHeartbeats 4000000 in
set_option maxRecDepth 100000 in
theorem k_X11_street_1 (l : Launch) (adK adV : Nat → Nat) (dC : Nat → ClassId) (dI : Nat → Nat → Nat) (cy : Nat → ClassId) (ad : Nat → Nat) (B : Int) (hB0 : 2147483648 ≤ B) (hB1 : B ≤ 1152921504606846976) (qr : Nat) (s1 : Int)  (a1 : Int32) (a2 : Int32) (w0 : va_W) (sz : Nat) (hT : TW ksC ad cy B qr s1 w0)  : Met l yX11_street wsX11_street ({ frames := 2, cells := 0, slots := 0, locals := 34 }) (va_Pc [.ref (ad 0), .int a1, .int a2] (wpreS adK adV dC dI cy sz w0)) (va_Qi (P_X11_street_1 ad cy B qr s1 a1 a2 w0) (fun u : va_W => wpost dC dI cy (va_A w0 sz) u) (va_A w0 sz)) 0 0 (va_A w0 sz) := by
  refine Met.ofW (cc := cX11_street) (maxL := 4) (ret := (some .int)) (by decide) rfl ?_
  intro p e s m args below meth c s₁ Bk hml hv
  obtain ⟨rfl, ⟨hsz, hP, hK, hD0⟩, hE, hSR⟩ := hv
  have hx := Bk.exec
  have hb := Bk.bytes
  have hr := Bk.returns
  have hlocks := Bk.notSynchronized
  have hC : CallFix p m c cX11_street 4 s _ wsX11_street RX11 := ⟨hx, hb, hml, findClass_of_methodNamed Bk.named, atoms_spec (ws := wsX11_street) Bk.pre⟩
  subst hsz
  have hD := hD0.self (sz := s.heap.size)
  generalize hAe : va_A w0 s.heap.size = A at hD hE ⊢
  have hA : ∀ q : Nat, s.heap.size ≤ q → A q := fun q h => by rw [← hAe]; exact Or.inr h
  have hw : Wd dC dI A s.heap s.heap [] w0 := ⟨hP, hD, va_S.rf⟩
  have hF : FE ksC ([] : List (Nat × Nat × Nat)) w0 w0 := FE.rf
  have hl := lv_entry ([.ref (ad 0), .int a1, .int a2]) (n := 4) (Nat.le_of_ble_eq_true rfl)
  rw [lg_entry_eq]
  generalize (lg_sl ([.ref (ad 0), .int a1, .int a2]) ++ List.replicate (4 - (lg_sl ([.ref (ad 0), .int a1, .int a2])).length) Slot.unset).toArray = ls at hl ⊢
  have hl : lv_has ls 4 [(0, .ref (ad 0)), (1, .int a1), (2, .int a2)] := hl
  generalize hloc : ([] : List Loc) = locs at hw ⊢
  have hinX11 : ∀ w ∈ u_ws RX11 TX11 13, w ∈ wsX11_street := fun _ h => List.mem_cons_of_mem _ (List.mem_append_left _ (List.mem_append_left _ (List.mem_append_right _ (h))))
  have hinX5 : ∀ w ∈ u_ws RX5 TX5 14, w ∈ wsX11_street := fun _ h => List.mem_cons_of_mem _ (List.mem_append_left _ (List.mem_append_right _ (h)))
  have hinX7 : ∀ w ∈ u_ws RX7 TX7 12, w ∈ wsX11_street := fun _ h => List.mem_cons_of_mem _ (List.mem_append_right _ (h))
  have J26 : ∀ (H : Heap) (locs : List Loc) (ls : Array Slot) (w1 : va_W), Wd dC dI A s.heap H locs w1 → TW ksC ad cy B qr s1 w1 → FE ksC ([] : List (Nat × Nat × Nat)) w0 w1 → lv_has ls 4 [(0, .ref (ad 0)), (1, .int a1), (2, .int a2), (3, .ref (ad 39))] → W p l e ({ frames := 2, cells := 0, slots := 0, locals := 34 }) s m (List.toArray [.ref (ad 0), .int a1, .int a2]) below meth c H locs 0 0 (MQ below (va_Qi (P_X11_street_1 ad cy B qr s1 a1 a2 w0) (fun u : va_W => wpost dC dI cy A u) A) (List.toArray [.ref (ad 0), .int a1, .int a2]) s 0 0 A) (F0 m 26 ls []) := by
    intro H locs ls w1 hw hT hF hl
    refine lv_iconst (v := (-1)) hx hb dX11_street_26 (by decide) ?_
    exact tk_iret hC hr hlocks hK ⟨hT, hF, (Or.inr rfl)⟩ hw dX11_street_27
  refine lv_aload_n hx hb dX11_street_0 rfl (lv_at hl 0 rfl) ?_
  refine tk_getA hC hK hw hT hinX11 kC_at0 (by decide) rfl 4 (by decide) (List.mem_of_getElem? (i := 1) rfl) rfl rfl dX11_street_1 ?_
  refine tk_getO hC hK hw hT hinX5 kC_at38 (by decide) rfl 0 (by decide) (List.mem_of_getElem? (i := 2) rfl) rfl rfl dX11_street_4 ?_
  refine lv_astore_n (lv' := [(3, .ref (ad 39)), (0, .ref (ad 0)), (1, .int a1), (2, .int a2)]) hx hb dX11_street_7 rfl hl (by decide) rfl (fun ls hl => ?_)
  refine lv_aload_n hx hb dX11_street_8 rfl (lv_at hl 0 rfl) ?_
  refine lv_iload_n hx hb dX11_street_9 rfl (lv_at hl 2 rfl) ?_
  refine tk_Vi hC hK hw hT hA hE hSR kC_at39 (by decide) rfl (k_X7_hasStreet_1 l adK adV dC dI cy ad B (by omega) (by omega) qr s1   a1 w0 s.heap.size hT ) (cwV 1 hC.2.2.2.2 gX11_street_X7_hasStreet rfl rfl rfl (by decide +kernel) ⟨Nat.le_of_ble_eq_true rfl, Nat.le_of_ble_eq_true rfl⟩) rfl hl.1 rfl (Nat.le_of_ble_eq_true rfl) dX11_street_10 (fun r2 w4 H locs hp3 hw => ?_)
  obtain ⟨hT, k5, hg10⟩ := hp3
  have hF := hF.tr k5 (by decide)
  rcases hg10 with rfl | ⟨rfl, g6, g7, ⟨x8, c9, rx8, tx8⟩⟩
  · refine lv_if_eq (tgt := 26) hx hb dX11_street_13 (by decide) (fun _ => ?_) (fun c => absurd (by decide) c)
    exact J26  H locs ls w4   hw hT hF  (lv_sub hl [1, 2, 3, 0] rfl)
  · refine lv_if_eq (tgt := 26) hx hb dX11_street_13 (by decide) (fun c => absurd c (by decide)) (fun _ => ?_)
    refine lv_iload_n hx hb dX11_street_16 rfl (lv_at hl 3 rfl) ?_
    refine lv_if_lt (tgt := 26) hx hb dX11_street_17 (by decide) (fun c11 => ?_) (fun c11 => ?_)
    · have c11 : a2.toInt < (0 : Int) := wk_lt.mp c11
      exact J26  H locs ls w4   hw hT hF  (lv_sub hl [1, 2, 3, 0] rfl)
    · have c11 : (0 : Int) ≤ a2.toInt := wk_ltF c11
      refine lv_iload_n hx hb dX11_street_20 rfl (lv_at hl 3 rfl) ?_
      refine lv_bipush (v := 9) hx hb dX11_street_21 (by decide) ?_
      refine lv_icmp_le (tgt := 28) hx hb dX11_street_23 (by decide) (fun c12 => ?_) (fun c12 => ?_)
      · have c12 : a2.toInt ≤ (9 : Int) := wk_le.mp c12
        refine lv_iload_n hx hb dX11_street_28 rfl (lv_at hl 3 rfl) ?_
        refine lv_iconst (v := 2) hx hb dX11_street_29 (by decide) ?_
        refine lv_icmp_ge (tgt := 44) hx hb dX11_street_30 (by decide) (fun c13 => ?_) (fun c13 => ?_)
        · have c13 : (2 : Int) ≤ a2.toInt := wk_le.mp c13
          refine lv_iload_n hx hb dX11_street_44 rfl (lv_at hl 3 rfl) ?_
          refine lv_iconst (v := 2) hx hb dX11_street_45 (by decide) ?_
          refine lv_icmp_ne (tgt := 58) hx hb dX11_street_46 (by decide) (fun c14 => ?_) (fun c14 => ?_)
          · have c14 : ¬ a2.toInt = (2 : Int) := wk_eqF c14
            refine lv_aload_n hx hb dX11_street_58 rfl (lv_at hl 0 rfl) ?_
            refine lv_iload_n hx hb dX11_street_59 rfl (lv_at hl 2 rfl) ?_
            refine lv_iload_n hx hb dX11_street_60 rfl (lv_at hl 3 rfl) ?_
            refine lv_iconst (v := 3) hx hb dX11_street_61 (by decide) ?_
            refine lv_isub hx hb dX11_street_62 ?_
            refine lv_topi (fun x15 ex15 => ?_)
            have ex15 : x15.toInt = a2.toInt - (3 : Int) := by rw [ex15]; exact wk_sub (show (-2147483648) ≤ a2.toInt - (3 : Int) by omega) (show a2.toInt - (3 : Int) ≤ 2147483647 by omega)
            refine tk_Vi hC hK hw hT hA hE hSR kC_at39 (by decide) rfl (k_X7_signOn_1 l adK adV dC dI cy ad B (by omega) (by omega) qr s1   a1 (show 0 ≤ a1.toInt by omega) (show a1.toInt ≤ 11 by omega) x15 (show 0 ≤ x15.toInt by omega) (show x15.toInt ≤ 6 by omega) w4 H.size hT ) (cwV 2 hC.2.2.2.2 gX11_street_X7_signOn rfl rfl rfl (by decide +kernel) ⟨Nat.le_of_ble_eq_true rfl, Nat.le_of_ble_eq_true rfl⟩) rfl hl.1 rfl (Nat.le_of_ble_eq_true rfl) dX11_street_63 (fun r16 w18 H locs hp17 hw => ?_)
            obtain ⟨hT, k19, hg22⟩ := hp17
            have hF := hF.tr k19 (by decide)
            have c23 := k19.gi kC_at39 (by decide) c9
            obtain ⟨g20, g21⟩ := hg22
            exact tk_iret hC hr hlocks hK ⟨hT, hF, (Or.inl ⟨(show 0 ≤ r16.toInt by omega), (show r16.toInt ≤ 9 by omega), (show 0 ≤ a1.toInt by omega), (show a1.toInt ≤ 11 by omega), (show 0 ≤ a2.toInt by omega), (show a2.toInt ≤ 9 by omega), ⟨x8, c23, (show 1 ≤ x8.toInt by omega), (show x8.toInt ≤ 12 by omega)⟩⟩)⟩ hw dX11_street_66
          · have c14 : a2.toInt = (2 : Int) := wk_eq.mp c14
            refine lv_aload_n hx hb dX11_street_49 rfl (lv_at hl 0 rfl) ?_
            refine tk_getO hC hK hw hT hinX7 kC_at39 (by decide) rfl 1 (by decide) (List.mem_of_getElem? (i := 4) rfl) rfl rfl dX11_street_50 ?_
            refine lv_iload_n hx hb dX11_street_53 rfl (lv_at hl 2 rfl) ?_
            refine tk_iald hC hK hw hT kC_at41 rfl rfl (show 0 ≤ a1.toInt by omega) (show a1.toInt < 13 by omega) dX11_street_54 (fun x24 c25 rx24 tx24 => ?_)
            refine lv_goto (tgt := 66) hx hb dX11_street_55 (by decide) ?_
            exact tk_iret hC hr hlocks hK ⟨hT, hF, (Or.inl ⟨(show 0 ≤ x24.toInt by omega), (show x24.toInt ≤ 9 by omega), (show 0 ≤ a1.toInt by omega), (show a1.toInt ≤ 11 by omega), (show 0 ≤ a2.toInt by omega), (show a2.toInt ≤ 9 by omega), ⟨x8, c9, (show 1 ≤ x8.toInt by omega), (show x8.toInt ≤ 12 by omega)⟩⟩)⟩ hw dX11_street_66
        · have c13 : a2.toInt < (2 : Int) := wk_leF c13
          refine lv_aload_n hx hb dX11_street_33 rfl (lv_at hl 0 rfl) ?_
          refine tk_getO hC hK hw hT hinX7 kC_at39 (by decide) rfl 0 (by decide) (List.mem_of_getElem? (i := 3) rfl) rfl rfl dX11_street_34 ?_
          refine lv_iconst (v := 2) hx hb dX11_street_37 (by decide) ?_
          refine lv_iload_n hx hb dX11_street_38 rfl (lv_at hl 2 rfl) ?_
          refine lv_imul hx hb dX11_street_39 ?_
          refine lv_topi (fun x26 ex26 => ?_)
          have ex26 : x26.toInt = (2 : Int) * a1.toInt := by rw [ex26]; exact wk_mul (show (-2147483648) ≤ (2 : Int) * a1.toInt by omega) (show (2 : Int) * a1.toInt ≤ 2147483647 by omega)
          refine lv_iload_n hx hb dX11_street_40 rfl (lv_at hl 3 rfl) ?_
          refine lv_iadd hx hb dX11_street_41 ?_
          refine lv_topi (fun x27 ex27 => ?_)
          have ex27 : x27.toInt = x26.toInt + a2.toInt := by rw [ex27]; exact wk_add (show (-2147483648) ≤ x26.toInt + a2.toInt by omega) (show x26.toInt + a2.toInt ≤ 2147483647 by omega)
          refine tk_iald hC hK hw hT kC_at40 rfl rfl (show 0 ≤ x27.toInt by omega) (show x27.toInt < 26 by omega) dX11_street_42 (fun x28 c29 rx28 tx28 => ?_)
          exact tk_iret hC hr hlocks hK ⟨hT, hF, (Or.inl ⟨(show 0 ≤ x28.toInt by omega), (show x28.toInt ≤ 9 by omega), (show 0 ≤ a1.toInt by omega), (show a1.toInt ≤ 11 by omega), (show 0 ≤ a2.toInt by omega), (show a2.toInt ≤ 9 by omega), ⟨x8, c9, (show 1 ≤ x8.toInt by omega), (show x8.toInt ≤ 12 by omega)⟩⟩)⟩ hw dX11_street_43
      · have c12 : (9 : Int) < a2.toInt := wk_leF c12
        exact J26  H locs ls w4   hw hT hF  (lv_sub hl [1, 2, 3, 0] rfl)
abbrev P_X7_sideOf_1 (ad : Nat → Nat) (cy : Nat → ClassId) (B : Int) (qr : Nat) (s1 : Int) (a1 : Int32) (a2 : Int32) (w0 : va_W) : Int32 → va_W → Prop := fun r u => TW ksC ad cy B qr s1 u ∧ FE ksC ([] : List (Nat × Nat × Nat)) w0 u ∧ ((0 ≤ r.toInt ∧ r.toInt ≤ 1 ∧ 0 ≤ a2.toInt ∧ a2.toInt ≤ 9) ∨ (r = (-1)))
set_option maxHeartbeats 4000000 in
set_option maxRecDepth 100000 in
theorem k_X7_sideOf_1 (l : Launch) (adK adV : Nat → Nat) (dC : Nat → ClassId) (dI : Nat → Nat → Nat) (cy : Nat → ClassId) (ad : Nat → Nat) (B : Int) (hB0 : 2147483648 ≤ B) (hB1 : B ≤ 1152921504606846976) (qr : Nat) (s1 : Int)  (a1 : Int32) (ra1 : 0 ≤ a1.toInt) (ta1 : a1.toInt ≤ 11) (a2 : Int32) (w0 : va_W) (sz : Nat) (hT : TW ksC ad cy B qr s1 w0)  : Met l yX7_sideOf wsX7_sideOf ({ frames := 1, cells := 0, slots := 0, locals := 12 }) (va_Pc [.ref (ad 39), .int a1, .int a2] (wpreS adK adV dC dI cy sz w0)) (va_Qi (P_X7_sideOf_1 ad cy B qr s1 a1 a2 w0) (fun u : va_W => wpost dC dI cy (va_A w0 sz) u) (va_A w0 sz)) 0 0 (va_A w0 sz) := by
  refine Met.ofW (cc := cX7_sideOf) (maxL := 3) (ret := (some .int)) (by decide) rfl ?_
  intro p e s m args below meth c s₁ Bk hml hv
  obtain ⟨rfl, ⟨hsz, hP, hK, hD0⟩, hE, hSR⟩ := hv
  have hx := Bk.exec
  have hb := Bk.bytes
  have hr := Bk.returns
  have hlocks := Bk.notSynchronized
  have hC : CallFix p m c cX7_sideOf 3 s _ wsX7_sideOf RX7 := ⟨hx, hb, hml, findClass_of_methodNamed Bk.named, atoms_spec (ws := wsX7_sideOf) Bk.pre⟩
  subst hsz
  have hD := hD0.self (sz := s.heap.size)
  generalize hAe : va_A w0 s.heap.size = A at hD hE ⊢
  have hA : ∀ q : Nat, s.heap.size ≤ q → A q := fun q h => by rw [← hAe]; exact Or.inr h
  have hw : Wd dC dI A s.heap s.heap [] w0 := ⟨hP, hD, va_S.rf⟩
  have hF : FE ksC ([] : List (Nat × Nat × Nat)) w0 w0 := FE.rf
  have hl := lv_entry ([.ref (ad 39), .int a1, .int a2]) (n := 3) (Nat.le_of_ble_eq_true rfl)
  rw [lg_entry_eq]
  generalize (lg_sl ([.ref (ad 39), .int a1, .int a2]) ++ List.replicate (3 - (lg_sl ([.ref (ad 39), .int a1, .int a2])).length) Slot.unset).toArray = ls at hl ⊢
  have hl : lv_has ls 3 [(0, .ref (ad 39)), (1, .int a1), (2, .int a2)] := hl
  generalize hloc : ([] : List Loc) = locs at hw ⊢
  have hinX7 : ∀ w ∈ u_ws RX7 TX7 12, w ∈ wsX7_sideOf := fun _ h => List.mem_cons_of_mem _ (List.mem_append_right _ (h))
  refine lv_aload_n hx hb dX7_sideOf_0 rfl (lv_at hl 0 rfl) ?_
  refine tk_getO hC hK hw hT hinX7 kC_at39 (by decide) rfl 0 (by decide) (List.mem_of_getElem? (i := 1) rfl) rfl rfl dX7_sideOf_1 ?_
  refine lv_iconst (v := 2) hx hb dX7_sideOf_4 (by decide) ?_
  refine lv_iload_n hx hb dX7_sideOf_5 rfl (lv_at hl 1 rfl) ?_
  refine lv_imul hx hb dX7_sideOf_6 ?_
  refine lv_topi (fun x1 ex1 => ?_)
  have ex1 : x1.toInt = (2 : Int) * a1.toInt := by rw [ex1]; exact wk_mul (show (-2147483648) ≤ (2 : Int) * a1.toInt by omega) (show (2 : Int) * a1.toInt ≤ 2147483647 by omega)
  refine tk_iald hC hK hw hT kC_at40 rfl rfl (show 0 ≤ x1.toInt by omega) (show x1.toInt < 26 by omega) dX7_sideOf_7 (fun x2 c3 rx2 tx2 => ?_)
  refine lv_iload_n hx hb dX7_sideOf_8 rfl (lv_at hl 2 rfl) ?_
  refine lv_icmp_ne (tgt := 14) hx hb dX7_sideOf_9 (by decide) (fun c4 => ?_) (fun c4 => ?_)
  · have c4 : ¬ x2.toInt = a2.toInt := wk_eqF c4
    refine lv_aload_n hx hb dX7_sideOf_14 rfl (lv_at hl 0 rfl) ?_
    refine tk_getO hC hK hw hT hinX7 kC_at39 (by decide) rfl 0 (by decide) (List.mem_of_getElem? (i := 1) rfl) rfl rfl dX7_sideOf_15 ?_
    refine lv_iconst (v := 2) hx hb dX7_sideOf_18 (by decide) ?_
    refine lv_iload_n hx hb dX7_sideOf_19 rfl (lv_at hl 1 rfl) ?_
    refine lv_imul hx hb dX7_sideOf_20 ?_
    refine lv_topi (fun x5 ex5 => ?_)
    have ex5 : x5.toInt = (2 : Int) * a1.toInt := by rw [ex5]; exact wk_mul (show (-2147483648) ≤ (2 : Int) * a1.toInt by omega) (show (2 : Int) * a1.toInt ≤ 2147483647 by omega)
    refine lv_iconst (v := 1) hx hb dX7_sideOf_21 (by decide) ?_
    refine lv_iadd hx hb dX7_sideOf_22 ?_
    refine lv_topi (fun x6 ex6 => ?_)
    have ex6 : x6.toInt = x5.toInt + (1 : Int) := by rw [ex6]; exact wk_add (show (-2147483648) ≤ x5.toInt + (1 : Int) by omega) (show x5.toInt + (1 : Int) ≤ 2147483647 by omega)
    refine tk_iald hC hK hw hT kC_at40 rfl rfl (show 0 ≤ x6.toInt by omega) (show x6.toInt < 26 by omega) dX7_sideOf_23 (fun x7 c8 rx7 tx7 => ?_)
    refine lv_iload_n hx hb dX7_sideOf_24 rfl (lv_at hl 2 rfl) ?_
    refine lv_icmp_ne (tgt := 32) hx hb dX7_sideOf_25 (by decide) (fun c9 => ?_) (fun c9 => ?_)
    · have c9 : ¬ x7.toInt = a2.toInt := wk_eqF c9
      refine lv_iconst (v := (-1)) hx hb dX7_sideOf_32 (by decide) ?_
      exact tk_iret hC hr hlocks hK ⟨hT, hF, (Or.inr rfl)⟩ hw dX7_sideOf_33
    · have c9 : x7.toInt = a2.toInt := wk_eq.mp c9
      refine lv_iconst (v := 1) hx hb dX7_sideOf_28 (by decide) ?_
      refine lv_goto (tgt := 33) hx hb dX7_sideOf_29 (by decide) ?_
      exact tk_iret hC hr hlocks hK ⟨hT, hF, (Or.inl ⟨(by decide), (by decide), (show 0 ≤ a2.toInt by omega), (show a2.toInt ≤ 9 by omega)⟩)⟩ hw dX7_sideOf_33
  · have c4 : x2.toInt = a2.toInt := wk_eq.mp c4
    refine lv_iconst (v := 0) hx hb dX7_sideOf_12 (by decide) ?_
    exact tk_iret hC hr hlocks hK ⟨hT, hF, (Or.inl ⟨(by decide), (by decide), (show 0 ≤ a2.toInt by omega), (show a2.toInt ≤ 9 by omega)⟩)⟩ hw dX7_sideOf_13
abbrev P_X7_openHours_1 (ad : Nat → Nat) (cy : Nat → ClassId) (B : Int) (qr : Nat) (s1 : Int) (a1 : Int32) (a2 : Int32) (a3 : Int64) (w0 : va_W) : Int32 → va_W → Prop := fun r u => TW ksC ad cy B qr s1 u ∧ FE ksC ([] : List (Nat × Nat × Nat)) w0 u ∧ ((0 ≤ r.toInt ∧ r.toInt ≤ 16777215))
set_option maxHeartbeats 4000000 in
set_option maxRecDepth 100000 in
theorem k_X7_openHours_1 (l : Launch) (adK adV : Nat → Nat) (dC : Nat → ClassId) (dI : Nat → Nat → Nat) (cy : Nat → ClassId) (ad : Nat → Nat) (B : Int) (hB0 : 2147483648 ≤ B) (hB1 : B ≤ 1152921504606846976) (qr : Nat) (s1 : Int)  (a1 : Int32) (ra1 : 0 ≤ a1.toInt) (ta1 : a1.toInt ≤ 11) (a2 : Int32) (ra2 : 0 ≤ a2.toInt) (ta2 : a2.toInt ≤ 1) (a3 : Int64) (ra3 : 0 ≤ a3.toInt) (ta3 : a3.toInt ≤ 89478485) (w0 : va_W) (sz : Nat) (hT : TW ksC ad cy B qr s1 w0)  : Met l yX7_openHours wsX7_openHours ({ frames := 1, cells := 0, slots := 0, locals := 12 }) (va_Pc [.ref (ad 39), .int a1, .int a2, .long a3, .int 1] (wpreS adK adV dC dI cy sz w0)) (va_Qi (P_X7_openHours_1 ad cy B qr s1 a1 a2 a3 w0) (fun u : va_W => wpost dC dI cy (va_A w0 sz) u) (va_A w0 sz)) 0 0 (va_A w0 sz) := by
  refine Met.ofW (cc := cX7_openHours) (maxL := 8) (ret := (some .int)) (by decide) rfl ?_
  intro p e s m args below meth c s₁ Bk hml hv
  obtain ⟨rfl, ⟨hsz, hP, hK, hD0⟩, hE, hSR⟩ := hv
  have hx := Bk.exec
  have hb := Bk.bytes
  have hr := Bk.returns
  have hlocks := Bk.notSynchronized
  have hC : CallFix p m c cX7_openHours 8 s _ wsX7_openHours RX7 := ⟨hx, hb, hml, findClass_of_methodNamed Bk.named, atoms_spec (ws := wsX7_openHours) Bk.pre⟩
  subst hsz
  have hD := hD0.self (sz := s.heap.size)
  generalize hAe : va_A w0 s.heap.size = A at hD hE ⊢
  have hA : ∀ q : Nat, s.heap.size ≤ q → A q := fun q h => by rw [← hAe]; exact Or.inr h
  have hw : Wd dC dI A s.heap s.heap [] w0 := ⟨hP, hD, va_S.rf⟩
  have hF : FE ksC ([] : List (Nat × Nat × Nat)) w0 w0 := FE.rf
  have hl := lv_entry ([.ref (ad 39), .int a1, .int a2, .long a3, .int 1]) (n := 8) (Nat.le_of_ble_eq_true rfl)
  rw [lg_entry_eq]
  generalize (lg_sl ([.ref (ad 39), .int a1, .int a2, .long a3, .int 1]) ++ List.replicate (8 - (lg_sl ([.ref (ad 39), .int a1, .int a2, .long a3, .int 1])).length) Slot.unset).toArray = ls at hl ⊢
  have hl : lv_has ls 8 [(0, .ref (ad 39)), (1, .int a1), (2, .int a2), (3, .long a3), (5, .int 1)] := hl
  generalize hloc : ([] : List Loc) = locs at hw ⊢
  have hinX7 : ∀ w ∈ u_ws RX7 TX7 12, w ∈ wsX7_openHours := fun _ h => List.mem_cons_of_mem _ (List.mem_append_right _ (h))
  have J93 : ∀ (v93_6 : Int32) (v93_7 : Int32) (H : Heap) (locs : List Loc) (ls : Array Slot) (w1 : va_W), 0 ≤ a1.toInt → a1.toInt ≤ 11 → 0 ≤ a2.toInt → a2.toInt ≤ 1 → 0 ≤ a3.toInt → a3.toInt ≤ 89478485 → 0 ≤ v93_7.toInt → v93_7.toInt ≤ 8 → Wd dC dI A s.heap H locs w1 → TW ksC ad cy B qr s1 w1 → FE ksC ([] : List (Nat × Nat × Nat)) w0 w1 → lv_has ls 8 [(0, .ref (ad 39)), (1, .int a1), (2, .int a2), (3, .long a3), (5, .int 1), (6, .int v93_6), (7, .int v93_7)] → W p l e ({ frames := 1, cells := 0, slots := 0, locals := 12 }) s m (List.toArray [.ref (ad 39), .int a1, .int a2, .long a3, .int 1]) below meth c H locs 0 0 (MQ below (va_Qi (P_X7_openHours_1 ad cy B qr s1 a1 a2 a3 w0) (fun u : va_W => wpost dC dI cy A u) A) (List.toArray [.ref (ad 39), .int a1, .int a2, .long a3, .int 1]) s 0 0 A) (F0 m 93 ls []) := by
    intro v93_6 v93_7 H locs ls w1 r2 t3 r4 t5 r6 t7 r8 t9 hw hT hF hl
    refine lv_ldc (v := 16777215) hx hb hC.2.2.2.1 (hC.2.2.2.2 _ (List.mem_of_getElem? (i := 6) rfl)) dX7_openHours_93 ?_
    refine lv_aload_n hx hb dX7_openHours_95 rfl (lv_at hl 0 rfl) ?_
    refine tk_getO hC hK hw hT hinX7 kC_at39 (by decide) rfl 3 (by decide) (List.mem_of_getElem? (i := 7) rfl) rfl rfl dX7_openHours_96 ?_
    refine lv_iload_n hx hb dX7_openHours_99 rfl (lv_at hl 1 rfl) ?_
    refine tk_iald hC hK hw hT kC_at43 rfl rfl (show 0 ≤ a1.toInt by omega) (show a1.toInt < 13 by omega) dX7_openHours_100 (fun x10 c11 rx10 tx10 => ?_)
    refine lv_iconst (v := (-1)) hx hb dX7_openHours_101 (by decide) ?_
    refine lv_ixor hx hb dX7_openHours_102 ?_
    refine lv_topi (fun x12 ex12 => ?_)
    refine lv_iand hx hb dX7_openHours_103 ?_
    refine lv_topi (fun x13 ex13 => ?_)
    have bx13 : 0 ≤ x13.toInt ∧ x13.toInt ≤ (16777215 : Int) := by rw [ex13]; exact wk_andC (by decide)
    exact tk_iret hC hr hlocks hK ⟨hT, hF, ⟨(show 0 ≤ x13.toInt by omega), (show x13.toInt ≤ 16777215 by omega)⟩⟩ hw dX7_openHours_104
  have L44 : ∀ (n44 : Nat) (v44_6 : Int32) (v44_7 : Int32) (H : Heap) (locs : List Loc) (ls : Array Slot) (w14 : va_W), 0 ≤ a1.toInt → a1.toInt ≤ 11 → 0 ≤ a2.toInt → a2.toInt ≤ 1 → 0 ≤ a3.toInt → a3.toInt ≤ 89478485 → 0 ≤ v44_7.toInt → v44_7.toInt ≤ 8 → (8 - v44_7.toInt).toNat < n44 → Wd dC dI A s.heap H locs w14 → TW ksC ad cy B qr s1 w14 → FE ksC ([] : List (Nat × Nat × Nat)) w0 w14 → lv_has ls 8 [(0, .ref (ad 39)), (1, .int a1), (2, .int a2), (3, .long a3), (5, .int 1), (6, .int v44_6), (7, .int v44_7)] → W p l e ({ frames := 1, cells := 0, slots := 0, locals := 12 }) s m (List.toArray [.ref (ad 39), .int a1, .int a2, .long a3, .int 1]) below meth c H locs 0 0 (MQ below (va_Qi (P_X7_openHours_1 ad cy B qr s1 a1 a2 a3 w0) (fun u : va_W => wpost dC dI cy A u) A) (List.toArray [.ref (ad 39), .int a1, .int a2, .long a3, .int 1]) s 0 0 A) (F0 m 44 ls []) := by
    intro n44
    induction n44 with
    | zero => intro v44_6 v44_7 H locs ls w14 r15 t16 r17 t18 r19 t20 r21 t22 hm44 hw hT hF hl; omega
    | succ n44 ih44 =>
      intro v44_6 v44_7 H locs ls w14 r15 t16 r17 t18 r19 t20 r21 t22 hm44 hw hT hF hl
      have J81 : ∀ (H : Heap) (locs : List Loc) (ls : Array Slot) (w23 : va_W), 0 ≤ a1.toInt → a1.toInt ≤ 11 → 0 ≤ a2.toInt → a2.toInt ≤ 1 → 0 ≤ a3.toInt → a3.toInt ≤ 89478485 → 0 ≤ v44_7.toInt → v44_7.toInt ≤ 7 → Wd dC dI A s.heap H locs w23 → TW ksC ad cy B qr s1 w23 → FE ksC ([] : List (Nat × Nat × Nat)) w0 w23 → lv_has ls 8 [(0, .ref (ad 39)), (1, .int a1), (2, .int a2), (3, .long a3), (5, .int 1), (6, .int v44_6), (7, .int v44_7)] → W p l e ({ frames := 1, cells := 0, slots := 0, locals := 12 }) s m (List.toArray [.ref (ad 39), .int a1, .int a2, .long a3, .int 1]) below meth c H locs 0 0 (MQ below (va_Qi (P_X7_openHours_1 ad cy B qr s1 a1 a2 a3 w0) (fun u : va_W => wpost dC dI cy A u) A) (List.toArray [.ref (ad 39), .int a1, .int a2, .long a3, .int 1]) s 0 0 A) (F0 m 81 ls []) := by
        intro H locs ls w23 r24 t25 r26 t27 r28 t29 r30 t31 hw hT hF hl
        refine lv_iload hx hb dX7_openHours_81 (lv_at hl 5 rfl) ?_
        refine lv_iconst (v := 1) hx hb dX7_openHours_83 (by decide) ?_
        refine lv_ishr hx hb dX7_openHours_84 ?_
        refine lv_topi (fun x32 ex32 => ?_)
        refine lv_istore (lv' := [(6, .int x32), (0, .ref (ad 39)), (1, .int a1), (2, .int a2), (3, .long a3), (5, .int 1), (7, .int v44_7)]) hx hb dX7_openHours_85 hl (by decide) rfl (fun ls hl => ?_)
        obtain ⟨x33, ex33⟩ : ∃ y : Int32, y = v44_7 + Int32.ofInt 1 := ⟨_, rfl⟩
        refine lv_iinc (v := x33) (lv' := [(7, .int x33), (6, .int x32), (0, .ref (ad 39)), (1, .int a1), (2, .int a2), (3, .long a3), (5, .int 1)]) hx hb dX7_openHours_87 hl (k := 6) rfl ex33.symm (by decide) rfl (fun ls hl => ?_)
        have ex33 : x33.toInt = v44_7.toInt + 1 := by rw [ex33]; exact wk_add (y := 1) (show -2147483648 ≤ v44_7.toInt + 1 by omega) (show v44_7.toInt + 1 ≤ 2147483647 by omega)
        refine lv_goto (tgt := 44) hx hb dX7_openHours_90 (by decide) ?_
        exact ih44 x32 x33 H locs ls w23 (show 0 ≤ a1.toInt by omega) (show a1.toInt ≤ 11 by omega) (show 0 ≤ a2.toInt by omega) (show a2.toInt ≤ 1 by omega) (show 0 ≤ a3.toInt by omega) (show a3.toInt ≤ 89478485 by omega) (show 0 ≤ x33.toInt by omega) (show x33.toInt ≤ 8 by omega) (show (8 - x33.toInt).toNat < n44 by omega) hw hT hF  (lv_sub hl [2, 3, 4, 5, 6, 1, 0] rfl)
      refine lv_iload hx hb dX7_openHours_44 (lv_at hl 5 rfl) ?_
      refine lv_if_eq (tgt := 93) hx hb dX7_openHours_46 (by decide) (fun c34 => ?_) (fun c34 => ?_)
      · have c34 : v44_6.toInt = (0 : Int) := wk_eq.mp c34
        exact J93 v44_6 v44_7 H locs ls w14 (show 0 ≤ a1.toInt by omega) (show a1.toInt ≤ 11 by omega) (show 0 ≤ a2.toInt by omega) (show a2.toInt ≤ 1 by omega) (show 0 ≤ a3.toInt by omega) (show a3.toInt ≤ 89478485 by omega) (show 0 ≤ v44_7.toInt by omega) (show v44_7.toInt ≤ 8 by omega)  hw hT hF  (lv_sub hl [0, 1, 2, 3, 4, 5, 6] rfl)
      · have c34 : ¬ v44_6.toInt = (0 : Int) := wk_eqF c34
        refine lv_iload hx hb dX7_openHours_49 (lv_at hl 6 rfl) ?_
        refine lv_bipush (v := 8) hx hb dX7_openHours_51 (by decide) ?_
        refine lv_icmp_ge (tgt := 93) hx hb dX7_openHours_53 (by decide) (fun c35 => ?_) (fun c35 => ?_)
        · have c35 : (8 : Int) ≤ v44_7.toInt := wk_le.mp c35
          exact J93 v44_6 v44_7 H locs ls w14 (show 0 ≤ a1.toInt by omega) (show a1.toInt ≤ 11 by omega) (show 0 ≤ a2.toInt by omega) (show a2.toInt ≤ 1 by omega) (show 0 ≤ a3.toInt by omega) (show a3.toInt ≤ 89478485 by omega) (show 0 ≤ v44_7.toInt by omega) (show v44_7.toInt ≤ 8 by omega)  hw hT hF  (lv_sub hl [0, 1, 2, 3, 4, 5, 6] rfl)
        · have c35 : v44_7.toInt < (8 : Int) := wk_leF c35
          refine lv_iload hx hb dX7_openHours_56 (lv_at hl 5 rfl) ?_
          refine lv_iconst (v := 1) hx hb dX7_openHours_58 (by decide) ?_
          refine lv_iand hx hb dX7_openHours_59 ?_
          refine lv_topi (fun x36 ex36 => ?_)
          have bx36 : 0 ≤ x36.toInt ∧ x36.toInt ≤ (1 : Int) := by rw [ex36]; exact wk_and (by decide)
          refine lv_if_eq (tgt := 81) hx hb dX7_openHours_60 (by decide) (fun c37 => ?_) (fun c37 => ?_)
          · have c37 : x36.toInt = (0 : Int) := wk_eq.mp c37
            exact J81  H locs ls w14 (show 0 ≤ a1.toInt by omega) (show a1.toInt ≤ 11 by omega) (show 0 ≤ a2.toInt by omega) (show a2.toInt ≤ 1 by omega) (show 0 ≤ a3.toInt by omega) (show a3.toInt ≤ 89478485 by omega) (show 0 ≤ v44_7.toInt by omega) (show v44_7.toInt ≤ 7 by omega)  hw hT hF  (lv_sub hl [0, 1, 2, 3, 4, 5, 6] rfl)
          · have c37 : ¬ x36.toInt = (0 : Int) := wk_eqF c37
            refine lv_aload_n hx hb dX7_openHours_63 rfl (lv_at hl 0 rfl) ?_
            refine tk_getO hC hK hw hT hinX7 kC_at39 (by decide) rfl 6 (by decide) (List.mem_of_getElem? (i := 4) rfl) rfl rfl dX7_openHours_64 ?_
            refine lv_iload hx hb dX7_openHours_67 (lv_at hl 6 rfl) ?_
            refine tk_iald hC hK hw hT kC_at46 rfl rfl (show 0 ≤ v44_7.toInt by omega) (show v44_7.toInt < 8 by omega) dX7_openHours_69 (fun x38 c39 rx38 tx38 => ?_)
            refine lv_lload_n hx hb dX7_openHours_70 rfl (lv_at hl 3 rfl) ?_
            refine lv_ldc2 (v := 360) hx hb hC.2.2.2.1 (hC.2.2.2.2 _ (List.mem_of_getElem? (i := 5) rfl)) dX7_openHours_71 ?_
            refine lv_lrem hx hb dX7_openHours_74 (by decide) ?_
            refine lv_topl (fun x40 ex40 => ?_)
            have ex40 : x40.toInt = a3.toInt % (360 : Int) := by rw [ex40]; exact wk_reml (show 0 ≤ a3.toInt by omega) (show 0 < (360 : Int) by decide)
            refine lv_l2i hx hb dX7_openHours_75 rfl ?_
            refine lv_topi (fun x41 ex41 => ?_)
            have ex41 : x41.toInt = x40.toInt := by rw [ex41]; exact wk_l2i (by omega) (by omega)
            refine lv_icmp_ne (tgt := 81) hx hb dX7_openHours_76 (by decide) (fun c42 => ?_) (fun c42 => ?_)
            · have c42 : ¬ x38.toInt = x41.toInt := wk_eqF c42
              exact J81  H locs ls w14 (show 0 ≤ a1.toInt by omega) (show a1.toInt ≤ 11 by omega) (show 0 ≤ a2.toInt by omega) (show a2.toInt ≤ 1 by omega) (show 0 ≤ a3.toInt by omega) (show a3.toInt ≤ 89478485 by omega) (show 0 ≤ v44_7.toInt by omega) (show v44_7.toInt ≤ 7 by omega)  hw hT hF  (lv_sub hl [0, 1, 2, 3, 4, 5, 6] rfl)
            · have c42 : x38.toInt = x41.toInt := wk_eq.mp c42
              refine lv_iconst (v := 0) hx hb dX7_openHours_79 (by decide) ?_
              exact tk_iret hC hr hlocks hK ⟨hT, hF, ⟨(by decide), (by decide)⟩⟩ hw dX7_openHours_80
  refine lv_aload_n hx hb dX7_openHours_0 rfl (lv_at hl 0 rfl) ?_
  refine tk_getO hC hK hw hT hinX7 kC_at39 (by decide) rfl 4 (by decide) (List.mem_of_getElem? (i := 1) rfl) rfl rfl dX7_openHours_1 ?_
  refine lv_iconst (v := 2) hx hb dX7_openHours_4 (by decide) ?_
  refine lv_iload_n hx hb dX7_openHours_5 rfl (lv_at hl 1 rfl) ?_
  refine lv_imul hx hb dX7_openHours_6 ?_
  refine lv_topi (fun x43 ex43 => ?_)
  have ex43 : x43.toInt = (2 : Int) * a1.toInt := by rw [ex43]; exact wk_mul (show (-2147483648) ≤ (2 : Int) * a1.toInt by omega) (show (2 : Int) * a1.toInt ≤ 2147483647 by omega)
  refine lv_iload_n hx hb dX7_openHours_7 rfl (lv_at hl 2 rfl) ?_
  refine lv_iadd hx hb dX7_openHours_8 ?_
  refine lv_topi (fun x44 ex44 => ?_)
  have ex44 : x44.toInt = x43.toInt + a2.toInt := by rw [ex44]; exact wk_add (show (-2147483648) ≤ x43.toInt + a2.toInt by omega) (show x43.toInt + a2.toInt ≤ 2147483647 by omega)
  refine tk_iald hC hK hw hT kC_at44 rfl rfl (show 0 ≤ x44.toInt by omega) (show x44.toInt < 26 by omega) dX7_openHours_9 (fun x45 c46 rx45 tx45 => ?_)
  refine lv_lload_n hx hb dX7_openHours_10 rfl (lv_at hl 3 rfl) ?_
  refine lv_ldc2 (v := 7) hx hb hC.2.2.2.1 (hC.2.2.2.2 _ (List.mem_of_getElem? (i := 2) rfl)) dX7_openHours_11 ?_
  refine lv_lrem hx hb dX7_openHours_14 (by decide) ?_
  refine lv_topl (fun x47 ex47 => ?_)
  have ex47 : x47.toInt = a3.toInt % (7 : Int) := by rw [ex47]; exact wk_reml (show 0 ≤ a3.toInt by omega) (show 0 < (7 : Int) by decide)
  refine lv_l2i hx hb dX7_openHours_15 rfl ?_
  refine lv_topi (fun x48 ex48 => ?_)
  have ex48 : x48.toInt = x47.toInt := by rw [ex48]; exact wk_l2i (by omega) (by omega)
  refine lv_ishr hx hb dX7_openHours_16 ?_
  refine lv_topi (fun x49 ex49 => ?_)
  refine lv_iconst (v := 1) hx hb dX7_openHours_17 (by decide) ?_
  refine lv_iand hx hb dX7_openHours_18 ?_
  refine lv_topi (fun x50 ex50 => ?_)
  have bx50 : 0 ≤ x50.toInt ∧ x50.toInt ≤ (1 : Int) := by rw [ex50]; exact wk_and (by decide)
  refine lv_if_ne (tgt := 24) hx hb dX7_openHours_19 (by decide) (fun c51 => ?_) (fun c51 => ?_)
  · have c51 : ¬ x50.toInt = (0 : Int) := wk_eqF c51
    refine lv_iload hx hb dX7_openHours_24 (lv_at hl 4 rfl) ?_
    refine lv_if_eq (tgt := 38) hx hb dX7_openHours_26 (by decide) (fun c => absurd c (by decide)) (fun _ => ?_)
    refine lv_aload_n hx hb dX7_openHours_29 rfl (lv_at hl 0 rfl) ?_
    refine tk_getO hC hK hw hT hinX7 kC_at39 (by decide) rfl 7 (by decide) (List.mem_of_getElem? (i := 3) rfl) rfl rfl dX7_openHours_30 ?_
    refine lv_iload_n hx hb dX7_openHours_33 rfl (lv_at hl 1 rfl) ?_
    refine tk_iald hC hK hw hT kC_at47 rfl rfl (show 0 ≤ a1.toInt by omega) (show a1.toInt < 13 by omega) dX7_openHours_34 (fun x52 c53 rx52 tx52 => ?_)
    refine lv_goto (tgt := 39) hx hb dX7_openHours_35 (by decide) ?_
    refine lv_istore (lv' := [(6, .int x52), (0, .ref (ad 39)), (1, .int a1), (2, .int a2), (3, .long a3), (5, .int 1)]) hx hb dX7_openHours_39 hl (by decide) rfl (fun ls hl => ?_)
    refine lv_iconst (v := 0) hx hb dX7_openHours_41 (by decide) ?_
    refine lv_istore (lv' := [(7, .int 0), (6, .int x52), (0, .ref (ad 39)), (1, .int a1), (2, .int a2), (3, .long a3), (5, .int 1)]) hx hb dX7_openHours_42 hl (by decide) rfl (fun ls hl => ?_)
    exact L44 ((8 - (0 : Int)).toNat + 1) x52 0 s.heap locs ls w0 (show 0 ≤ a1.toInt by omega) (show a1.toInt ≤ 11 by omega) (show 0 ≤ a2.toInt by omega) (show a2.toInt ≤ 1 by omega) (show 0 ≤ a3.toInt by omega) (show a3.toInt ≤ 89478485 by omega) (by decide) (by decide) (Nat.lt_succ_self _) hw hT hF  (lv_sub hl [2, 3, 4, 5, 6, 1, 0] rfl)
  · have c51 : x50.toInt = (0 : Int) := wk_eq.mp c51
    refine lv_iconst (v := 0) hx hb dX7_openHours_22 (by decide) ?_
    exact tk_iret hC hr hlocks hK ⟨hT, hF, ⟨(by decide), (by decide)⟩⟩ hw dX7_openHours_23
abbrev P_X7_isOpen_1 (ad : Nat → Nat) (cy : Nat → ClassId) (B : Int) (qr : Nat) (s1 : Int) (a1 : Int32) (a2 : Int32) (a3 : Int64) (w0 : va_W) : Int32 → va_W → Prop := fun r u => TW ksC ad cy B qr s1 u ∧ FE ksC ([] : List (Nat × Nat × Nat)) w0 u ∧ ((r = 0) ∨ (r = 1))
set_option maxHeartbeats 4000000 in
set_option maxRecDepth 100000 in
theorem k_X7_isOpen_1 (l : Launch) (adK adV : Nat → Nat) (dC : Nat → ClassId) (dI : Nat → Nat → Nat) (cy : Nat → ClassId) (ad : Nat → Nat) (B : Int) (hB0 : 2147483648 ≤ B) (hB1 : B ≤ 1152921504606846976) (qr : Nat) (s1 : Int)  (a1 : Int32) (ra1 : 0 ≤ a1.toInt) (ta1 : a1.toInt ≤ 11) (a2 : Int32) (ra2 : 0 ≤ a2.toInt) (ta2 : a2.toInt ≤ 1) (a3 : Int64) (ra3 : 0 ≤ a3.toInt) (ta3 : a3.toInt ≤ 2147483647) (w0 : va_W) (sz : Nat) (hT : TW ksC ad cy B qr s1 w0)  : Met l yX7_isOpen wsX7_isOpen ({ frames := 2, cells := 0, slots := 0, locals := 39 }) (va_Pc [.ref (ad 39), .int a1, .int a2, .long a3, .int 1] (wpreS adK adV dC dI cy sz w0)) (va_Qi (P_X7_isOpen_1 ad cy B qr s1 a1 a2 a3 w0) (fun u : va_W => wpost dC dI cy (va_A w0 sz) u) (va_A w0 sz)) 0 0 (va_A w0 sz) := by
  refine Met.ofW (cc := cX7_isOpen) (maxL := 7) (ret := (some .boolean)) (by decide) rfl ?_
  intro p e s m args below meth c s₁ Bk hml hv
  obtain ⟨rfl, ⟨hsz, hP, hK, hD0⟩, hE, hSR⟩ := hv
  have hx := Bk.exec
  have hb := Bk.bytes
  have hr := Bk.returns
  have hlocks := Bk.notSynchronized
  have hC : CallFix p m c cX7_isOpen 7 s _ wsX7_isOpen RX7 := ⟨hx, hb, hml, findClass_of_methodNamed Bk.named, atoms_spec (ws := wsX7_isOpen) Bk.pre⟩
  subst hsz
  have hD := hD0.self (sz := s.heap.size)
  generalize hAe : va_A w0 s.heap.size = A at hD hE ⊢
  have hA : ∀ q : Nat, s.heap.size ≤ q → A q := fun q h => by rw [← hAe]; exact Or.inr h
  have hw : Wd dC dI A s.heap s.heap [] w0 := ⟨hP, hD, va_S.rf⟩
  have hF : FE ksC ([] : List (Nat × Nat × Nat)) w0 w0 := FE.rf
  have hl := lv_entry ([.ref (ad 39), .int a1, .int a2, .long a3, .int 1]) (n := 7) (Nat.le_of_ble_eq_true rfl)
  rw [lg_entry_eq]
  generalize (lg_sl ([.ref (ad 39), .int a1, .int a2, .long a3, .int 1]) ++ List.replicate (7 - (lg_sl ([.ref (ad 39), .int a1, .int a2, .long a3, .int 1])).length) Slot.unset).toArray = ls at hl ⊢
  have hl : lv_has ls 7 [(0, .ref (ad 39)), (1, .int a1), (2, .int a2), (3, .long a3), (5, .int 1)] := hl
  generalize hloc : ([] : List Loc) = locs at hw ⊢
  refine lv_aload_n hx hb dX7_isOpen_0 rfl (lv_at hl 0 rfl) ?_
  refine lv_iload_n hx hb dX7_isOpen_1 rfl (lv_at hl 1 rfl) ?_
  refine lv_iload_n hx hb dX7_isOpen_2 rfl (lv_at hl 2 rfl) ?_
  refine lv_lload_n hx hb dX7_isOpen_3 rfl (lv_at hl 3 rfl) ?_
  refine lv_ldc2 (v := 24) hx hb hC.2.2.2.1 (hC.2.2.2.2 _ (List.mem_of_getElem? (i := 1) rfl)) dX7_isOpen_4 ?_
  refine lv_ldiv hx hb dX7_isOpen_7 (by decide) ?_
  refine lv_topl (fun x1 ex1 => ?_)
  have ex1 : x1.toInt = a3.toInt / (24 : Int) := by rw [ex1]; exact wk_divl (show 0 ≤ a3.toInt by omega) (show 0 < (24 : Int) by decide)
  refine lv_iload hx hb dX7_isOpen_8 (lv_at hl 4 rfl) ?_
  refine tk_Vi hC hK hw hT hA hE hSR kC_at39 (by decide) rfl (k_X7_openHours_1 l adK adV dC dI cy ad B (by omega) (by omega) qr s1   a1 (show 0 ≤ a1.toInt by omega) (show a1.toInt ≤ 11 by omega) a2 (show 0 ≤ a2.toInt by omega) (show a2.toInt ≤ 1 by omega) x1 (show 0 ≤ x1.toInt by omega) (show x1.toInt ≤ 89478485 by omega) w0 s.heap.size hT ) (cwV 4 hC.2.2.2.2 gX7_isOpen_X7_openHours rfl rfl rfl (by decide +kernel) ⟨Nat.le_of_ble_eq_true rfl, Nat.le_of_ble_eq_true rfl⟩) rfl hl.1 rfl (Nat.le_of_ble_eq_true rfl) dX7_isOpen_10 (fun r2 w4 H locs hp3 hw => ?_)
  obtain ⟨hT, k5, hg8⟩ := hp3
  have hF := hF.tr k5 (by decide)
  obtain ⟨g6, g7⟩ := hg8
  refine lv_istore (lv' := [(6, .int r2), (0, .ref (ad 39)), (1, .int a1), (2, .int a2), (3, .long a3), (5, .int 1)]) hx hb dX7_isOpen_13 hl (by decide) rfl (fun ls hl => ?_)
  refine lv_iload hx hb dX7_isOpen_15 (lv_at hl 0 rfl) ?_
  refine lv_lload_n hx hb dX7_isOpen_17 rfl (lv_at hl 4 rfl) ?_
  refine lv_ldc2 (v := 24) hx hb hC.2.2.2.1 (hC.2.2.2.2 _ (List.mem_of_getElem? (i := 1) rfl)) dX7_isOpen_18 ?_
  refine lv_lrem hx hb dX7_isOpen_21 (by decide) ?_
  refine lv_topl (fun x9 ex9 => ?_)
  have ex9 : x9.toInt = a3.toInt % (24 : Int) := by rw [ex9]; exact wk_reml (show 0 ≤ a3.toInt by omega) (show 0 < (24 : Int) by decide)
  refine lv_l2i hx hb dX7_isOpen_22 rfl ?_
  refine lv_topi (fun x10 ex10 => ?_)
  have ex10 : x10.toInt = x9.toInt := by rw [ex10]; exact wk_l2i (by omega) (by omega)
  refine lv_ishr hx hb dX7_isOpen_23 ?_
  refine lv_topi (fun x11 ex11 => ?_)
  have bx11 : 0 ≤ x11.toInt ∧ x11.toInt ≤ r2.toInt := by rw [ex11]; exact wk_shr (by omega)
  refine lv_iconst (v := 1) hx hb dX7_isOpen_24 (by decide) ?_
  refine lv_iand hx hb dX7_isOpen_25 ?_
  refine lv_topi (fun x12 ex12 => ?_)
  have bx12 : 0 ≤ x12.toInt ∧ x12.toInt ≤ (1 : Int) := by rw [ex12]; exact wk_and (by decide)
  refine lv_if_eq (tgt := 33) hx hb dX7_isOpen_26 (by decide) (fun c13 => ?_) (fun c13 => ?_)
  · have c13 : x12.toInt = (0 : Int) := wk_eq.mp c13
    refine lv_iconst (v := 0) hx hb dX7_isOpen_33 (by decide) ?_
    exact tk_zret hC hr rfl hlocks hK ⟨hT, hF, (Or.inl rfl)⟩ hw dX7_isOpen_34
  · have c13 : ¬ x12.toInt = (0 : Int) := wk_eqF c13
    refine lv_iconst (v := 1) hx hb dX7_isOpen_29 (by decide) ?_
    refine lv_goto (tgt := 34) hx hb dX7_isOpen_30 (by decide) ?_
    exact tk_zret hC hr rfl hlocks hK ⟨hT, hF, (Or.inr rfl)⟩ hw dX7_isOpen_34
abbrev P_X11_open_1 (ad : Nat → Nat) (cy : Nat → ClassId) (B : Int) (qr : Nat) (s1 : Int) (a1 : Int32) (a2 : Int32) (a3 : Int32) (w0 : va_W) : Int32 → va_W → Prop := fun r u => TW ksC ad cy B qr s1 u ∧ FE ksC ([] : List (Nat × Nat × Nat)) w0 u ∧ ((0 ≤ r.toInt ∧ r.toInt ≤ 1 ∧ 0 ≤ a1.toInt ∧ a1.toInt ≤ 11 ∧ 0 ≤ a2.toInt ∧ a2.toInt ≤ 9 ∧ 0 ≤ a3.toInt ∧ (∃ y : Int32, gi u 39 9 = y ∧ 1 ≤ y.toInt ∧ y.toInt ≤ 12)) ∨ (r = (-1)))
set_option maxHeartbeats 4000000 in
set_option maxRecDepth 100000 in
theorem k_X11_open_1 (l : Launch) (adK adV : Nat → Nat) (dC : Nat → ClassId) (dI : Nat → Nat → Nat) (cy : Nat → ClassId) (ad : Nat → Nat) (B : Int) (hB0 : 2147483648 ≤ B) (hB1 : B ≤ 1152921504606846976) (qr : Nat) (s1 : Int)  (a1 : Int32) (a2 : Int32) (a3 : Int32) (w0 : va_W) (sz : Nat) (hT : TW ksC ad cy B qr s1 w0)  : Met l yX11_open wsX11_open ({ frames := 3, cells := 0, slots := 0, locals := 65 }) (va_Pc [.ref (ad 0), .int a1, .int a2, .int a3] (wpreS adK adV dC dI cy sz w0)) (va_Qi (P_X11_open_1 ad cy B qr s1 a1 a2 a3 w0) (fun u : va_W => wpost dC dI cy (va_A w0 sz) u) (va_A w0 sz)) 0 0 (va_A w0 sz) := by
  refine Met.ofW (cc := cX11_open) (maxL := 6) (ret := (some .int)) (by decide) rfl ?_
  intro p e s m args below meth c s₁ Bk hml hv
  obtain ⟨rfl, ⟨hsz, hP, hK, hD0⟩, hE, hSR⟩ := hv
  have hx := Bk.exec
  have hb := Bk.bytes
  have hr := Bk.returns
  have hlocks := Bk.notSynchronized
  have hC : CallFix p m c cX11_open 6 s _ wsX11_open RX11 := ⟨hx, hb, hml, findClass_of_methodNamed Bk.named, atoms_spec (ws := wsX11_open) Bk.pre⟩
  subst hsz
  have hD := hD0.self (sz := s.heap.size)
  generalize hAe : va_A w0 s.heap.size = A at hD hE ⊢
  have hA : ∀ q : Nat, s.heap.size ≤ q → A q := fun q h => by rw [← hAe]; exact Or.inr h
  have hw : Wd dC dI A s.heap s.heap [] w0 := ⟨hP, hD, va_S.rf⟩
  have hF : FE ksC ([] : List (Nat × Nat × Nat)) w0 w0 := FE.rf
  have hl := lv_entry ([.ref (ad 0), .int a1, .int a2, .int a3]) (n := 6) (Nat.le_of_ble_eq_true rfl)
  rw [lg_entry_eq]
  generalize (lg_sl ([.ref (ad 0), .int a1, .int a2, .int a3]) ++ List.replicate (6 - (lg_sl ([.ref (ad 0), .int a1, .int a2, .int a3])).length) Slot.unset).toArray = ls at hl ⊢
  have hl : lv_has ls 6 [(0, .ref (ad 0)), (1, .int a1), (2, .int a2), (3, .int a3)] := hl
  generalize hloc : ([] : List Loc) = locs at hw ⊢
  have hinX11 : ∀ w ∈ u_ws RX11 TX11 13, w ∈ wsX11_open := fun _ h => List.mem_cons_of_mem _ (List.mem_append_left _ (List.mem_append_left _ (List.mem_append_right _ (h))))
  have hinX5 : ∀ w ∈ u_ws RX5 TX5 14, w ∈ wsX11_open := fun _ h => List.mem_cons_of_mem _ (List.mem_append_left _ (List.mem_append_right _ (h)))
  have J22 : ∀ (H : Heap) (locs : List Loc) (ls : Array Slot) (w1 : va_W), Wd dC dI A s.heap H locs w1 → TW ksC ad cy B qr s1 w1 → FE ksC ([] : List (Nat × Nat × Nat)) w0 w1 → lv_has ls 6 [(0, .ref (ad 0)), (1, .int a1), (2, .int a2), (3, .int a3), (4, .ref (ad 39))] → W p l e ({ frames := 3, cells := 0, slots := 0, locals := 65 }) s m (List.toArray [.ref (ad 0), .int a1, .int a2, .int a3]) below meth c H locs 0 0 (MQ below (va_Qi (P_X11_open_1 ad cy B qr s1 a1 a2 a3 w0) (fun u : va_W => wpost dC dI cy A u) A) (List.toArray [.ref (ad 0), .int a1, .int a2, .int a3]) s 0 0 A) (F0 m 22 ls []) := by
    intro H locs ls w1 hw hT hF hl
    refine lv_iconst (v := (-1)) hx hb dX11_open_22 (by decide) ?_
    exact tk_iret hC hr hlocks hK ⟨hT, hF, (Or.inr rfl)⟩ hw dX11_open_23
  refine lv_aload_n hx hb dX11_open_0 rfl (lv_at hl 0 rfl) ?_
  refine tk_getA hC hK hw hT hinX11 kC_at0 (by decide) rfl 4 (by decide) (List.mem_of_getElem? (i := 1) rfl) rfl rfl dX11_open_1 ?_
  refine tk_getO hC hK hw hT hinX5 kC_at38 (by decide) rfl 0 (by decide) (List.mem_of_getElem? (i := 2) rfl) rfl rfl dX11_open_4 ?_
  refine lv_astore (lv' := [(4, .ref (ad 39)), (0, .ref (ad 0)), (1, .int a1), (2, .int a2), (3, .int a3)]) hx hb dX11_open_7 hl (by decide) rfl (fun ls hl => ?_)
  refine lv_aload hx hb dX11_open_9 (lv_at hl 0 rfl) ?_
  refine lv_iload_n hx hb dX11_open_11 rfl (lv_at hl 2 rfl) ?_
  refine tk_Vi hC hK hw hT hA hE hSR kC_at39 (by decide) rfl (k_X7_hasStreet_1 l adK adV dC dI cy ad B (by omega) (by omega) qr s1   a1 w0 s.heap.size hT ) (cwV 1 hC.2.2.2.2 gX11_open_X7_hasStreet rfl rfl rfl (by decide +kernel) ⟨Nat.le_of_ble_eq_true rfl, Nat.le_of_ble_eq_true rfl⟩) rfl hl.1 rfl (Nat.le_of_ble_eq_true rfl) dX11_open_12 (fun r2 w4 H locs hp3 hw => ?_)
  obtain ⟨hT, k5, hg10⟩ := hp3
  have hF := hF.tr k5 (by decide)
  rcases hg10 with rfl | ⟨rfl, g6, g7, ⟨x8, c9, rx8, tx8⟩⟩
  · refine lv_if_eq (tgt := 22) hx hb dX11_open_15 (by decide) (fun _ => ?_) (fun c => absurd (by decide) c)
    exact J22  H locs ls w4   hw hT hF  (lv_sub hl [1, 2, 3, 4, 0] rfl)
  · refine lv_if_eq (tgt := 22) hx hb dX11_open_15 (by decide) (fun c => absurd c (by decide)) (fun _ => ?_)
    refine lv_iload_n hx hb dX11_open_18 rfl (lv_at hl 4 rfl) ?_
    refine lv_if_ge (tgt := 24) hx hb dX11_open_19 (by decide) (fun c11 => ?_) (fun c11 => ?_)
    · have c11 : (0 : Int) ≤ a3.toInt := wk_le.mp c11
      refine lv_aload hx hb dX11_open_24 (lv_at hl 0 rfl) ?_
      refine lv_iload_n hx hb dX11_open_26 rfl (lv_at hl 2 rfl) ?_
      refine lv_iload_n hx hb dX11_open_27 rfl (lv_at hl 3 rfl) ?_
      refine tk_Vi hC hK hw hT hA hE hSR kC_at39 (by decide) rfl (k_X7_sideOf_1 l adK adV dC dI cy ad B (by omega) (by omega) qr s1   a1 (show 0 ≤ a1.toInt by omega) (show a1.toInt ≤ 11 by omega) a2 w4 H.size hT ) (cwV 2 hC.2.2.2.2 gX11_open_X7_sideOf rfl rfl rfl (by decide +kernel) ⟨Nat.le_of_ble_eq_true rfl, Nat.le_of_ble_eq_true rfl⟩) rfl hl.1 rfl (Nat.le_of_ble_eq_true rfl) dX11_open_28 (fun r12 w14 H locs hp13 hw => ?_)
      obtain ⟨hT, k15, hg20⟩ := hp13
      have hF := hF.tr k15 (by decide)
      have c21 := k15.gi kC_at39 (by decide) c9
      rcases hg20 with ⟨g16, g17, g18, g19⟩ | rfl
      · refine lv_istore (lv' := [(5, .int r12), (4, .ref (ad 39)), (0, .ref (ad 0)), (1, .int a1), (2, .int a2), (3, .int a3)]) hx hb dX11_open_31 hl (by decide) rfl (fun ls hl => ?_)
        refine lv_iload hx hb dX11_open_33 (lv_at hl 0 rfl) ?_
        refine lv_iconst (v := (-1)) hx hb dX11_open_35 (by decide) ?_
        refine lv_icmp_ne (tgt := 41) hx hb dX11_open_36 (by decide) (fun _ => ?_) (fun c => absurd (show r12.toInt = (-1 : Int) from wk_eq.mp c) (by omega))
        refine lv_aload hx hb dX11_open_41 (lv_at hl 1 rfl) ?_
        refine lv_iload_n hx hb dX11_open_43 rfl (lv_at hl 3 rfl) ?_
        refine lv_iload hx hb dX11_open_44 (lv_at hl 0 rfl) ?_
        refine lv_iload_n hx hb dX11_open_46 rfl (lv_at hl 5 rfl) ?_
        refine lv_i2l hx hb dX11_open_47 rfl ?_
        refine lv_topl (fun x22 ex22 => ?_)
        have ex22 : x22.toInt = a3.toInt := by rw [ex22]; exact wk_i2l _
        have bx22 := wk_i32 a3
        refine lv_iconst (v := 1) hx hb dX11_open_48 (by decide) ?_
        refine tk_Vi hC hK hw hT hA hE hSR kC_at39 (by decide) rfl (k_X7_isOpen_1 l adK adV dC dI cy ad B (by omega) (by omega) qr s1   a1 (show 0 ≤ a1.toInt by omega) (show a1.toInt ≤ 11 by omega) r12 (show 0 ≤ r12.toInt by omega) (show r12.toInt ≤ 1 by omega) x22 (show 0 ≤ x22.toInt by omega) (show x22.toInt ≤ 2147483647 by omega) w14 H.size hT ) (cwV 4 hC.2.2.2.2 gX11_open_X7_isOpen rfl rfl rfl (by decide +kernel) ⟨Nat.le_of_ble_eq_true rfl, Nat.le_of_ble_eq_true rfl⟩) rfl hl.1 rfl (Nat.le_of_ble_eq_true rfl) dX11_open_49 (fun r23 w25 H locs hp24 hw => ?_)
        obtain ⟨hT, k26, hg27⟩ := hp24
        have hF := hF.tr k26 (by decide)
        have c28 := k26.gi kC_at39 (by decide) c21
        rcases hg27 with rfl | rfl
        · refine lv_if_eq (tgt := 59) hx hb dX11_open_52 (by decide) (fun _ => ?_) (fun c => absurd (by decide) c)
          refine lv_iconst (v := 0) hx hb dX11_open_59 (by decide) ?_
          exact tk_iret hC hr hlocks hK ⟨hT, hF, (Or.inl ⟨(by decide), (by decide), (show 0 ≤ a1.toInt by omega), (show a1.toInt ≤ 11 by omega), (show 0 ≤ a2.toInt by omega), (show a2.toInt ≤ 9 by omega), (show 0 ≤ a3.toInt by omega), ⟨x8, c28, (show 1 ≤ x8.toInt by omega), (show x8.toInt ≤ 12 by omega)⟩⟩)⟩ hw dX11_open_60
        · refine lv_if_eq (tgt := 59) hx hb dX11_open_52 (by decide) (fun c => absurd c (by decide)) (fun _ => ?_)
          refine lv_iconst (v := 1) hx hb dX11_open_55 (by decide) ?_
          refine lv_goto (tgt := 60) hx hb dX11_open_56 (by decide) ?_
          exact tk_iret hC hr hlocks hK ⟨hT, hF, (Or.inl ⟨(by decide), (by decide), (show 0 ≤ a1.toInt by omega), (show a1.toInt ≤ 11 by omega), (show 0 ≤ a2.toInt by omega), (show a2.toInt ≤ 9 by omega), (show 0 ≤ a3.toInt by omega), ⟨x8, c28, (show 1 ≤ x8.toInt by omega), (show x8.toInt ≤ 12 by omega)⟩⟩)⟩ hw dX11_open_60
      · refine lv_istore (lv' := [(5, .int (-1)), (4, .ref (ad 39)), (0, .ref (ad 0)), (1, .int a1), (2, .int a2), (3, .int a3)]) hx hb dX11_open_31 hl (by decide) rfl (fun ls hl => ?_)
        refine lv_iload hx hb dX11_open_33 (lv_at hl 0 rfl) ?_
        refine lv_iconst (v := (-1)) hx hb dX11_open_35 (by decide) ?_
        refine lv_icmp_ne (tgt := 41) hx hb dX11_open_36 (by decide) (fun c => absurd (by decide) c) (fun _ => ?_)
        refine lv_iconst (v := (-1)) hx hb dX11_open_39 (by decide) ?_
        exact tk_iret hC hr hlocks hK ⟨hT, hF, (Or.inr rfl)⟩ hw dX11_open_40
    · have c11 : a3.toInt < (0 : Int) := wk_leF c11
      exact J22  H locs ls w4   hw hT hF  (lv_sub hl [1, 2, 3, 4, 0] rfl)
abbrev P_X0_forget_1 (ad : Nat → Nat) (cy : Nat → ClassId) (B : Int) (qr : Nat) (s1 : Int) (a1 : Int32) (w0 : va_W) : va_W → Prop := fun u => TW ksC ad cy B qr s1 u ∧ FE ksC [(44, 0, 11)] w0 u ∧ ((True))
set_option maxHeartbeats 4000000 in
set_option maxRecDepth 100000 in
theorem k_X0_forget_1 (l : Launch) (adK adV : Nat → Nat) (dC : Nat → ClassId) (dI : Nat → Nat → Nat) (cy : Nat → ClassId) (ad : Nat → Nat) (B : Int) (hB0 : 2147483648 ≤ B) (hB1 : B ≤ 1152921504606846976) (qr : Nat) (s1 : Int)  (a1 : Int32) (ra1 : 0 ≤ a1.toInt) (ta1 : a1.toInt ≤ 3) (w0 : va_W) (sz : Nat) (hT : TW ksC ad cy B qr s1 w0)  : Met l yX0_forget wsX0_forget ({ frames := 1, cells := 0, slots := 0, locals := 12 }) (va_Pc [.ref (ad 145), .int a1] (wpreS adK adV dC dI cy sz w0)) (va_Qv (P_X0_forget_1 ad cy B qr s1 a1 w0) (fun u : va_W => wpost dC dI cy (va_A w0 sz) u) (va_A w0 sz)) 0 0 (va_A w0 sz) := by
  refine Met.ofW (cc := cX0_forget) (maxL := 2) (ret := none) (by decide) rfl ?_
  intro p e s m args below meth c s₁ Bk hml hv
  obtain ⟨rfl, ⟨hsz, hP, hK, hD0⟩, hE, hSR⟩ := hv
  have hx := Bk.exec
  have hb := Bk.bytes
  have hr := Bk.returns
  have hlocks := Bk.notSynchronized
  have hC : CallFix p m c cX0_forget 2 s _ wsX0_forget RX0 := ⟨hx, hb, hml, findClass_of_methodNamed Bk.named, atoms_spec (ws := wsX0_forget) Bk.pre⟩
  subst hsz
  have hD := hD0.self (sz := s.heap.size)
  generalize hAe : va_A w0 s.heap.size = A at hD hE ⊢
  have hA : ∀ q : Nat, s.heap.size ≤ q → A q := fun q h => by rw [← hAe]; exact Or.inr h
  have hw : Wd dC dI A s.heap s.heap [] w0 := ⟨hP, hD, va_S.rf⟩
  have hF : FE ksC [(44, 0, 11)] w0 w0 := FE.rf
  have hl := lv_entry ([.ref (ad 145), .int a1]) (n := 2) (Nat.le_of_ble_eq_true rfl)
  rw [lg_entry_eq]
  generalize (lg_sl ([.ref (ad 145), .int a1]) ++ List.replicate (2 - (lg_sl ([.ref (ad 145), .int a1])).length) Slot.unset).toArray = ls at hl ⊢
  have hl : lv_has ls 2 [(0, .ref (ad 145)), (1, .int a1)] := hl
  generalize hloc : ([] : List Loc) = locs at hw ⊢
  have hinX0 : ∀ w ∈ u_ws RX0 TX0 4, w ∈ wsX0_forget := fun _ h => List.mem_cons_of_mem _ (List.mem_append_right _ (h))
  refine lv_aload_n hx hb dX0_forget_0 rfl (lv_at hl 0 rfl) ?_
  refine tk_getA hC hK hw hT hinX0 kC_at145 (by decide) rfl 3 (by decide) (List.mem_of_getElem? (i := 1) rfl) rfl rfl dX0_forget_1 ?_
  refine lv_iload_n hx hb dX0_forget_4 rfl (lv_at hl 1 rfl) ?_
  refine lv_iconst (v := 0) hx hb dX0_forget_5 (by decide) ?_
  refine tk_zast hC hK hw hT kC_at148 (by decide) rfl rfl (show 0 ≤ a1.toInt by omega) (show a1.toInt < 11 by omega) (by decide) (by decide) dX0_forget_6 (fun H locs w1 hw hT k3 c2 => ?_)
  have hF := hF.put kC_at148 (inE_of (a := 0) (b := 11) (by decide) (show 0 ≤ a1.toInt.toNat by omega) (show a1.toInt.toNat ≤ 11 by omega)) k3
  exact tk_vret hC hr hlocks hK ⟨hT, hF, trivial⟩ hw dX0_forget_7
abbrev P_X11_isWeekday_1 (ad : Nat → Nat) (cy : Nat → ClassId) (B : Int) (qr : Nat) (s1 : Int) (a0 : Int32) (w0 : va_W) : Int32 → va_W → Prop := fun r u => TW ksC ad cy B qr s1 u ∧ FE ksC ([] : List (Nat × Nat × Nat)) w0 u ∧ ((r = 0) ∨ (r = 1 ∧ 0 ≤ a0.toInt ∧ a0.toInt ≤ 6))
set_option maxHeartbeats 4000000 in
set_option maxRecDepth 100000 in
theorem k_X11_isWeekday_1 (l : Launch) (adK adV : Nat → Nat) (dC : Nat → ClassId) (dI : Nat → Nat → Nat) (cy : Nat → ClassId) (ad : Nat → Nat) (B : Int) (hB0 : 2147483648 ≤ B) (hB1 : B ≤ 1152921504606846976) (qr : Nat) (s1 : Int)  (a0 : Int32) (w0 : va_W) (sz : Nat) (hT : TW ksC ad cy B qr s1 w0)  : Met l yX11_isWeekday wsX11_isWeekday ({ frames := 1, cells := 0, slots := 0, locals := 12 }) (va_Pc [.int a0] (wpreS adK adV dC dI cy sz w0)) (va_Qi (P_X11_isWeekday_1 ad cy B qr s1 a0 w0) (fun u : va_W => wpost dC dI cy (va_A w0 sz) u) (va_A w0 sz)) 0 0 (va_A w0 sz) := by
  refine Met.ofW (cc := cX11_isWeekday) (maxL := 1) (ret := (some .boolean)) (by decide) rfl ?_
  intro p e s m args below meth c s₁ Bk hml hv
  obtain ⟨rfl, ⟨hsz, hP, hK, hD0⟩, hE, hSR⟩ := hv
  have hx := Bk.exec
  have hb := Bk.bytes
  have hr := Bk.returns
  have hlocks := Bk.notSynchronized
  have hC : CallFix p m c cX11_isWeekday 1 s _ wsX11_isWeekday RX11 := ⟨hx, hb, hml, findClass_of_methodNamed Bk.named, atoms_spec (ws := wsX11_isWeekday) Bk.pre⟩
  subst hsz
  have hD := hD0.self (sz := s.heap.size)
  generalize hAe : va_A w0 s.heap.size = A at hD hE ⊢
  have hA : ∀ q : Nat, s.heap.size ≤ q → A q := fun q h => by rw [← hAe]; exact Or.inr h
  have hw : Wd dC dI A s.heap s.heap [] w0 := ⟨hP, hD, va_S.rf⟩
  have hF : FE ksC ([] : List (Nat × Nat × Nat)) w0 w0 := FE.rf
  have hl := lv_entry ([.int a0]) (n := 1) (Nat.le_of_ble_eq_true rfl)
  rw [lg_entry_eq]
  generalize (lg_sl ([.int a0]) ++ List.replicate (1 - (lg_sl ([.int a0])).length) Slot.unset).toArray = ls at hl ⊢
  have hl : lv_has ls 1 [(0, .int a0)] := hl
  generalize hloc : ([] : List Loc) = locs at hw ⊢
  have J14 : ∀ (H : Heap) (locs : List Loc) (ls : Array Slot) (w1 : va_W), Wd dC dI A s.heap H locs w1 → TW ksC ad cy B qr s1 w1 → FE ksC ([] : List (Nat × Nat × Nat)) w0 w1 → lv_has ls 1 [(0, .int a0)] → W p l e ({ frames := 1, cells := 0, slots := 0, locals := 12 }) s m (List.toArray [.int a0]) below meth c H locs 0 0 (MQ below (va_Qi (P_X11_isWeekday_1 ad cy B qr s1 a0 w0) (fun u : va_W => wpost dC dI cy A u) A) (List.toArray [.int a0]) s 0 0 A) (F0 m 14 ls []) := by
    intro H locs ls w1 hw hT hF hl
    refine lv_iconst (v := 0) hx hb dX11_isWeekday_14 (by decide) ?_
    exact tk_zret hC hr rfl hlocks hK ⟨hT, hF, (Or.inl rfl)⟩ hw dX11_isWeekday_15
  refine lv_iload_n hx hb dX11_isWeekday_0 rfl (lv_at hl 0 rfl) ?_
  refine lv_if_lt (tgt := 14) hx hb dX11_isWeekday_1 (by decide) (fun c2 => ?_) (fun c2 => ?_)
  · have c2 : a0.toInt < (0 : Int) := wk_lt.mp c2
    exact J14  s.heap locs ls w0   hw hT hF  (lv_sub hl [0] rfl)
  · have c2 : (0 : Int) ≤ a0.toInt := wk_ltF c2
    refine lv_iload_n hx hb dX11_isWeekday_4 rfl (lv_at hl 0 rfl) ?_
    refine lv_bipush (v := 7) hx hb dX11_isWeekday_5 (by decide) ?_
    refine lv_icmp_ge (tgt := 14) hx hb dX11_isWeekday_7 (by decide) (fun c3 => ?_) (fun c3 => ?_)
    · have c3 : (7 : Int) ≤ a0.toInt := wk_le.mp c3
      exact J14  s.heap locs ls w0   hw hT hF  (lv_sub hl [0] rfl)
    · have c3 : a0.toInt < (7 : Int) := wk_leF c3
      refine lv_iconst (v := 1) hx hb dX11_isWeekday_10 (by decide) ?_
      refine lv_goto (tgt := 15) hx hb dX11_isWeekday_11 (by decide) ?_
      exact tk_zret hC hr rfl hlocks hK ⟨hT, hF, (Or.inr ⟨rfl, (show 0 ≤ a0.toInt by omega), (show a0.toInt ≤ 6 by omega)⟩)⟩ hw dX11_isWeekday_15
abbrev P_X5_hasTown_1 (ad : Nat → Nat) (cy : Nat → ClassId) (B : Int) (qr : Nat) (s1 : Int)  (w0 : va_W) : Int32 → va_W → Prop := fun r u => TW ksC ad cy B qr s1 u ∧ FE ksC ([] : List (Nat × Nat × Nat)) w0 u ∧ ((r = 0 ∧ (∃ y : Int32, gi u 39 8 = y ∧ (-1) ≤ y.toInt ∧ y.toInt ≤ 0)) ∨ (r = 1 ∧ (∃ y : Int32, gi u 39 8 = y ∧ 1 ≤ y.toInt ∧ y.toInt ≤ 10)))
set_option maxHeartbeats 4000000 in
set_option maxRecDepth 100000 in
theorem k_X5_hasTown_1 (l : Launch) (adK adV : Nat → Nat) (dC : Nat → ClassId) (dI : Nat → Nat → Nat) (cy : Nat → ClassId) (ad : Nat → Nat) (B : Int) (hB0 : 2147483648 ≤ B) (hB1 : B ≤ 1152921504606846976) (qr : Nat) (s1 : Int)   (w0 : va_W) (sz : Nat) (hT : TW ksC ad cy B qr s1 w0)  : Met l yX5_hasTown wsX5_hasTown ({ frames := 1, cells := 0, slots := 0, locals := 12 }) (va_Pc [.ref (ad 38)] (wpreS adK adV dC dI cy sz w0)) (va_Qi (P_X5_hasTown_1 ad cy B qr s1  w0) (fun u : va_W => wpost dC dI cy (va_A w0 sz) u) (va_A w0 sz)) 0 0 (va_A w0 sz) := by
  refine Met.ofW (cc := cX5_hasTown) (maxL := 1) (ret := (some .boolean)) (by decide) rfl ?_
  intro p e s m args below meth c s₁ Bk hml hv
  obtain ⟨rfl, ⟨hsz, hP, hK, hD0⟩, hE, hSR⟩ := hv
  have hx := Bk.exec
  have hb := Bk.bytes
  have hr := Bk.returns
  have hlocks := Bk.notSynchronized
  have hC : CallFix p m c cX5_hasTown 1 s _ wsX5_hasTown RX5 := ⟨hx, hb, hml, findClass_of_methodNamed Bk.named, atoms_spec (ws := wsX5_hasTown) Bk.pre⟩
  subst hsz
  have hD := hD0.self (sz := s.heap.size)
  generalize hAe : va_A w0 s.heap.size = A at hD hE ⊢
  have hA : ∀ q : Nat, s.heap.size ≤ q → A q := fun q h => by rw [← hAe]; exact Or.inr h
  have hw : Wd dC dI A s.heap s.heap [] w0 := ⟨hP, hD, va_S.rf⟩
  have hF : FE ksC ([] : List (Nat × Nat × Nat)) w0 w0 := FE.rf
  have hl := lv_entry ([.ref (ad 38)]) (n := 1) (Nat.le_of_ble_eq_true rfl)
  rw [lg_entry_eq]
  generalize (lg_sl ([.ref (ad 38)]) ++ List.replicate (1 - (lg_sl ([.ref (ad 38)])).length) Slot.unset).toArray = ls at hl ⊢
  have hl : lv_has ls 1 [(0, .ref (ad 38))] := hl
  generalize hloc : ([] : List Loc) = locs at hw ⊢
  have hinX5 : ∀ w ∈ u_ws RX5 TX5 14, w ∈ wsX5_hasTown := fun _ h => List.mem_cons_of_mem _ (List.mem_append_left _ (List.mem_append_right _ (h)))
  have hinX7 : ∀ w ∈ u_ws RX7 TX7 12, w ∈ wsX5_hasTown := fun _ h => List.mem_cons_of_mem _ (List.mem_append_right _ (h))
  refine lv_aload_n hx hb dX5_hasTown_0 rfl (lv_at hl 0 rfl) ?_
  refine tk_getO hC hK hw hT hinX5 kC_at38 (by decide) rfl 0 (by decide) (List.mem_of_getElem? (i := 1) rfl) rfl rfl dX5_hasTown_1 ?_
  refine tk_geti hC hK hw hT hinX7 kC_at39 (by decide) rfl 8 (by decide) (List.mem_of_getElem? (i := 2) rfl) rfl rfl dX5_hasTown_4 (fun x1 c2 rx1 tx1 => ?_)
  refine lv_if_le (tgt := 14) hx hb dX5_hasTown_7 (by decide) (fun c3 => ?_) (fun c3 => ?_)
  · have c3 : x1.toInt ≤ (0 : Int) := wk_le.mp c3
    refine lv_iconst (v := 0) hx hb dX5_hasTown_14 (by decide) ?_
    exact tk_zret hC hr rfl hlocks hK ⟨hT, hF, (Or.inl ⟨rfl, ⟨x1, c2, (show (-1) ≤ x1.toInt by omega), (show x1.toInt ≤ 0 by omega)⟩⟩)⟩ hw dX5_hasTown_15
  · have c3 : (0 : Int) < x1.toInt := wk_leF c3
    refine lv_iconst (v := 1) hx hb dX5_hasTown_10 (by decide) ?_
    refine lv_goto (tgt := 15) hx hb dX5_hasTown_11 (by decide) ?_
    exact tk_zret hC hr rfl hlocks hK ⟨hT, hF, (Or.inr ⟨rfl, ⟨x1, c2, (show 1 ≤ x1.toInt by omega), (show x1.toInt ≤ 10 by omega)⟩⟩)⟩ hw dX5_hasTown_15
abbrev P_X11_print_1 (ad : Nat → Nat) (cy : Nat → ClassId) (B : Int) (qr : Nat) (s1 : Int) (a1 : Int32) (w0 : va_W) : Int32 → va_W → Prop := fun r u => TW ksC ad cy B qr s1 u ∧ FE ksC [(5, 8, 8), (32, 0, 48), (44, 0, 11)] w0 u ∧ ((r = (-2)) ∨ (0 ≤ r.toInt ∧ r.toInt ≤ 3 ∧ 0 ≤ a1.toInt ∧ a1.toInt ≤ 6 ∧ (∃ y : Int32, gi u 38 8 = y ∧ 1 ≤ y.toInt ∧ y.toInt ≤ 4) ∧ (∃ y : Int32, gi u 39 8 = y ∧ 1 ≤ y.toInt ∧ y.toInt ≤ 10)))
set_option maxHeartbeats 4000000 in
set_option maxRecDepth 100000 in
theorem k_X11_print_1 (l : Launch) (adK adV : Nat → Nat) (dC : Nat → ClassId) (dI : Nat → Nat → Nat) (cy : Nat → ClassId) (ad : Nat → Nat) (B : Int) (hB0 : 2147483648 ≤ B) (hB1 : B ≤ 1152921504606846976) (qr : Nat) (s1 : Int)  (a1 : Int32) (w0 : va_W) (sz : Nat) (hT : TW ksC ad cy B qr s1 w0)  : Met l yX11_print wsX11_print ({ frames := 2, cells := 0, slots := 0, locals := 34 }) (va_Pc [.ref (ad 0), .int a1] (wpreS adK adV dC dI cy sz w0)) (va_Qi (P_X11_print_1 ad cy B qr s1 a1 w0) (fun u : va_W => wpost dC dI cy (va_A w0 sz) u) (va_A w0 sz)) 0 0 (va_A w0 sz) := by
  refine Met.ofW (cc := cX11_print) (maxL := 4) (ret := (some .int)) (by decide) rfl ?_
  intro p e s m args below meth c s₁ Bk hml hv
  obtain ⟨rfl, ⟨hsz, hP, hK, hD0⟩, hE, hSR⟩ := hv
  have hx := Bk.exec
  have hb := Bk.bytes
  have hr := Bk.returns
  have hlocks := Bk.notSynchronized
  have hC : CallFix p m c cX11_print 4 s _ wsX11_print RX11 := ⟨hx, hb, hml, findClass_of_methodNamed Bk.named, atoms_spec (ws := wsX11_print) Bk.pre⟩
  subst hsz
  have hD := hD0.self (sz := s.heap.size)
  generalize hAe : va_A w0 s.heap.size = A at hD hE ⊢
  have hA : ∀ q : Nat, s.heap.size ≤ q → A q := fun q h => by rw [← hAe]; exact Or.inr h
  have hw : Wd dC dI A s.heap s.heap [] w0 := ⟨hP, hD, va_S.rf⟩
  have hF : FE ksC [(5, 8, 8), (32, 0, 48), (44, 0, 11)] w0 w0 := FE.rf
  have hl := lv_entry ([.ref (ad 0), .int a1]) (n := 4) (Nat.le_of_ble_eq_true rfl)
  rw [lg_entry_eq]
  generalize (lg_sl ([.ref (ad 0), .int a1]) ++ List.replicate (4 - (lg_sl ([.ref (ad 0), .int a1])).length) Slot.unset).toArray = ls at hl ⊢
  have hl : lv_has ls 4 [(0, .ref (ad 0)), (1, .int a1)] := hl
  generalize hloc : ([] : List Loc) = locs at hw ⊢
  have hinX11 : ∀ w ∈ u_ws RX11 TX11 13, w ∈ wsX11_print := fun _ h => List.mem_cons_of_mem _ (List.mem_append_left _ (List.mem_append_left _ (List.mem_append_left _ (List.mem_append_right _ (h)))))
  have hinX5 : ∀ w ∈ u_ws RX5 TX5 14, w ∈ wsX11_print := fun _ h => List.mem_cons_of_mem _ (List.mem_append_left _ (List.mem_append_left _ (List.mem_append_right _ (h))))
  have hinX7 : ∀ w ∈ u_ws RX7 TX7 12, w ∈ wsX11_print := fun _ h => List.mem_cons_of_mem _ (List.mem_append_left _ (List.mem_append_right _ (h)))
  have J28 : ∀ (H : Heap) (locs : List Loc) (ls : Array Slot) (w1 : va_W), Wd dC dI A s.heap H locs w1 → TW ksC ad cy B qr s1 w1 → FE ksC [(5, 8, 8), (32, 0, 48), (44, 0, 11)] w0 w1 → lv_has ls 4 [(0, .ref (ad 0)), (1, .int a1)] → W p l e ({ frames := 2, cells := 0, slots := 0, locals := 34 }) s m (List.toArray [.ref (ad 0), .int a1]) below meth c H locs 0 0 (MQ below (va_Qi (P_X11_print_1 ad cy B qr s1 a1 w0) (fun u : va_W => wpost dC dI cy A u) A) (List.toArray [.ref (ad 0), .int a1]) s 0 0 A) (F0 m 28 ls []) := by
    intro H locs ls w1 hw hT hF hl
    refine lv_bipush (v := (-2)) hx hb dX11_print_28 (by decide) ?_
    exact tk_iret hC hr hlocks hK ⟨hT, hF, (Or.inl rfl)⟩ hw dX11_print_30
  have L41 : ∀ (n41 : Nat) (v41_2 : Int32) (v41_3 : Int32) (f41_38_8 : Int32) (f41_39_8 : Int32) (H : Heap) (locs : List Loc) (ls : Array Slot) (w2 : va_W), 0 ≤ a1.toInt → a1.toInt ≤ 6 → 0 ≤ v41_2.toInt → v41_2.toInt ≤ 3 → 0 ≤ v41_3.toInt → v41_3.toInt ≤ 12 → 0 ≤ f41_38_8.toInt → f41_38_8.toInt ≤ 3 → 1 ≤ f41_39_8.toInt → f41_39_8.toInt ≤ 10 → (12 - v41_3.toInt).toNat < n41 → Wd dC dI A s.heap H locs w2 → TW ksC ad cy B qr s1 w2 → FE ksC [(5, 8, 8), (32, 0, 48), (44, 0, 11)] w0 w2 → gi w2 38 8 = f41_38_8 → gi w2 39 8 = f41_39_8 → lv_has ls 4 [(0, .ref (ad 0)), (1, .int a1), (2, .int v41_2), (3, .int v41_3)] → W p l e ({ frames := 2, cells := 0, slots := 0, locals := 34 }) s m (List.toArray [.ref (ad 0), .int a1]) below meth c H locs 0 0 (MQ below (va_Qi (P_X11_print_1 ad cy B qr s1 a1 w0) (fun u : va_W => wpost dC dI cy A u) A) (List.toArray [.ref (ad 0), .int a1]) s 0 0 A) (F0 m 41 ls []) := by
    intro n41
    induction n41 with
    | zero => intro v41_2 v41_3 f41_38_8 f41_39_8 H locs ls w2 r3 t4 r5 t6 r7 t8 r9 t10 r12 t13 hm41 hw hT hF c11 c14 hl; omega
    | succ n41 ih41 =>
      intro v41_2 v41_3 f41_38_8 f41_39_8 H locs ls w2 r3 t4 r5 t6 r7 t8 r9 t10 r12 t13 hm41 hw hT hF c11 c14 hl
      refine lv_iload_n hx hb dX11_print_41 rfl (lv_at hl 3 rfl) ?_
      refine lv_aload_n hx hb dX11_print_42 rfl (lv_at hl 0 rfl) ?_
      refine tk_getA hC hK hw hT hinX11 kC_at0 (by decide) rfl 4 (by decide) (List.mem_of_getElem? (i := 1) rfl) rfl rfl dX11_print_43 ?_
      refine tk_getO hC hK hw hT hinX5 kC_at38 (by decide) rfl 0 (by decide) (List.mem_of_getElem? (i := 3) rfl) rfl rfl dX11_print_46 ?_
      refine tk_geti hC hK hw hT hinX7 kC_at39 (by decide) rfl 9 (by decide) (List.mem_of_getElem? (i := 4) rfl) rfl rfl dX11_print_49 (fun x15 c16 rx15 tx15 => ?_)
      refine lv_icmp_ge (tgt := 87) hx hb dX11_print_52 (by decide) (fun c17 => ?_) (fun c17 => ?_)
      · have c17 : x15.toInt ≤ v41_3.toInt := wk_le.mp c17
        refine lv_aload_n hx hb dX11_print_87 rfl (lv_at hl 0 rfl) ?_
        refine tk_getA hC hK hw hT hinX11 kC_at0 (by decide) rfl 4 (by decide) (List.mem_of_getElem? (i := 1) rfl) rfl rfl dX11_print_88 ?_
        refine lv_dup hx hb dX11_print_91 rfl ?_
        refine tk_geti hC hK hw hT hinX5 kC_at38 (by decide) rfl 8 (by decide) (List.mem_of_getElem? (i := 2) rfl) rfl rfl dX11_print_92 (fun x18 c19 rx18 tx18 => ?_)
        refine wk_top f41_38_8 (c19.symm.trans c11) ?_
        refine lv_iconst (v := 1) hx hb dX11_print_95 (by decide) ?_
        refine lv_iadd hx hb dX11_print_96 ?_
        refine lv_topi (fun x20 ex20 => ?_)
        have ex20 : x20.toInt = f41_38_8.toInt + (1 : Int) := by rw [ex20]; exact wk_add (show (-2147483648) ≤ f41_38_8.toInt + (1 : Int) by omega) (show f41_38_8.toInt + (1 : Int) ≤ 2147483647 by omega)
        refine tk_puti hC hK hw hT hinX5 tyX5_ok nmX5 kC_at38 (by decide) rfl rfl 8 (by decide) (List.mem_of_getElem? (i := 2) rfl) rfl rfl rfl rfl (show 0 ≤ x20.toInt by omega) (show x20.toInt ≤ 4 by omega) dX11_print_97 (fun H locs w21 hw hT k23 c22 => ?_)
        have hF := hF.put kC_at38 (k := 8) (by decide) k23
        have c24 := k23.gi (Or.inl (tk_ne kC_at39 kC_at38 (by decide))) c14
        have c25 := k23.gi (Or.inr (by decide)) c16
        refine lv_aload_n hx hb dX11_print_100 rfl (lv_at hl 0 rfl) ?_
        refine tk_getA hC hK hw hT hinX11 kC_at0 (by decide) rfl 7 (by decide) (List.mem_of_getElem? (i := 6) rfl) rfl rfl dX11_print_101 ?_
        refine lv_iload_n hx hb dX11_print_104 rfl (lv_at hl 2 rfl) ?_
        refine tk_Vv hC hK hw hT hA hE hSR kC_at145 (by decide) rfl (k_X0_forget_1 l adK adV dC dI cy ad B (by omega) (by omega) qr s1   v41_2 (show 0 ≤ v41_2.toInt by omega) (show v41_2.toInt ≤ 3 by omega) w21 H.size hT ) (cwV 1 hC.2.2.2.2 gX11_print_X0_forget rfl rfl rfl (by decide +kernel) ⟨Nat.le_of_ble_eq_true rfl, Nat.le_of_ble_eq_true rfl⟩) rfl hl.1 rfl (Nat.le_of_ble_eq_true rfl) dX11_print_105 (fun w28 H locs hp27 hw => ?_)
        obtain ⟨hT, k29, hg30⟩ := hp27
        have hF := hF.tr k29 (by decide)
        have c31 := k29.gi kC_at39 (by decide) c24
        have c32 := k29.gi kC_at39 (by decide) c25
        have c33 := k29.gi kC_at38 (by decide) c22
        clear hg30
        refine lv_iload_n hx hb dX11_print_108 rfl (lv_at hl 2 rfl) ?_
        exact tk_iret hC hr hlocks hK ⟨hT, hF, (Or.inr ⟨(show 0 ≤ v41_2.toInt by omega), (show v41_2.toInt ≤ 3 by omega), (show 0 ≤ a1.toInt by omega), (show a1.toInt ≤ 6 by omega), ⟨x20, c33, (show 1 ≤ x20.toInt by omega), (show x20.toInt ≤ 4 by omega)⟩, ⟨f41_39_8, c31, (show 1 ≤ f41_39_8.toInt by omega), (show f41_39_8.toInt ≤ 10 by omega)⟩⟩)⟩ hw dX11_print_109
      · have c17 : v41_3.toInt < x15.toInt := wk_leF c17
        refine lv_aload_n hx hb dX11_print_55 rfl (lv_at hl 0 rfl) ?_
        refine tk_getA hC hK hw hT hinX11 kC_at0 (by decide) rfl 4 (by decide) (List.mem_of_getElem? (i := 1) rfl) rfl rfl dX11_print_56 ?_
        refine tk_getO hC hK hw hT hinX5 kC_at38 (by decide) rfl 1 (by decide) (List.mem_of_getElem? (i := 5) rfl) rfl rfl dX11_print_59 ?_
        refine lv_iload_n hx hb dX11_print_62 rfl (lv_at hl 2 rfl) ?_
        refine lv_bipush (v := 12) hx hb dX11_print_63 (by decide) ?_
        refine lv_imul hx hb dX11_print_65 ?_
        refine lv_topi (fun x34 ex34 => ?_)
        have ex34 : x34.toInt = v41_2.toInt * (12 : Int) := by rw [ex34]; exact wk_mul (show (-2147483648) ≤ v41_2.toInt * (12 : Int) by omega) (show v41_2.toInt * (12 : Int) ≤ 2147483647 by omega)
        refine lv_iload_n hx hb dX11_print_66 rfl (lv_at hl 3 rfl) ?_
        refine lv_iadd hx hb dX11_print_67 ?_
        refine lv_topi (fun x35 ex35 => ?_)
        have ex35 : x35.toInt = x34.toInt + v41_3.toInt := by rw [ex35]; exact wk_add (show (-2147483648) ≤ x34.toInt + v41_3.toInt by omega) (show x34.toInt + v41_3.toInt ≤ 2147483647 by omega)
        refine lv_aload_n hx hb dX11_print_68 rfl (lv_at hl 0 rfl) ?_
        refine tk_getA hC hK hw hT hinX11 kC_at0 (by decide) rfl 4 (by decide) (List.mem_of_getElem? (i := 1) rfl) rfl rfl dX11_print_69 ?_
        refine tk_getO hC hK hw hT hinX5 kC_at38 (by decide) rfl 0 (by decide) (List.mem_of_getElem? (i := 3) rfl) rfl rfl dX11_print_72 ?_
        refine lv_iload_n hx hb dX11_print_75 rfl (lv_at hl 3 rfl) ?_
        refine lv_iload_n hx hb dX11_print_76 rfl (lv_at hl 1 rfl) ?_
        refine tk_Vi hC hK hw hT hA hE hSR kC_at39 (by decide) rfl (k_X7_signOn_1 l adK adV dC dI cy ad B (by omega) (by omega) qr s1   v41_3 (show 0 ≤ v41_3.toInt by omega) (show v41_3.toInt ≤ 11 by omega) a1 (show 0 ≤ a1.toInt by omega) (show a1.toInt ≤ 6 by omega) w2 H.size hT ) (cwV 2 hC.2.2.2.2 gX11_print_X7_signOn rfl rfl rfl (by decide +kernel) ⟨Nat.le_of_ble_eq_true rfl, Nat.le_of_ble_eq_true rfl⟩) rfl hl.1 rfl (Nat.le_of_ble_eq_true rfl) dX11_print_77 (fun r36 w38 H locs hp37 hw => ?_)
        obtain ⟨hT, k39, hg42⟩ := hp37
        have hF := hF.tr k39 (by decide)
        have c43 := k39.gi kC_at38 (by decide) c11
        have c44 := k39.gi kC_at39 (by decide) c14
        have c45 := k39.gi kC_at39 (by decide) c16
        obtain ⟨g40, g41⟩ := hg42
        refine tk_iast hC hK hw hT kC_at48 (by decide) rfl rfl (show 0 ≤ x35.toInt by omega) (show x35.toInt < 48 by omega) (wk_i32 r36).1 (wk_i32 r36).2 dX11_print_80 (fun H locs w46 hw hT k48 c47 => ?_)
        have hF := hF.put kC_at48 (inE_of (a := 0) (b := 48) (by decide) (show 0 ≤ x35.toInt.toNat by omega) (show x35.toInt.toNat ≤ 48 by omega)) k48
        have c49 := k48.gi (Or.inl (tk_ne kC_at38 kC_at48 (by decide))) c43
        have c50 := k48.gi (Or.inl (tk_ne kC_at39 kC_at48 (by decide))) c44
        have c51 := k48.gi (Or.inl (tk_ne kC_at39 kC_at48 (by decide))) c45
        obtain ⟨x52, ex52⟩ : ∃ y : Int32, y = v41_3 + Int32.ofInt 1 := ⟨_, rfl⟩
        refine lv_iinc (v := x52) (lv' := [(3, .int x52), (0, .ref (ad 0)), (1, .int a1), (2, .int v41_2)]) hx hb dX11_print_81 hl (k := 3) rfl ex52.symm (by decide) rfl (fun ls hl => ?_)
        have ex52 : x52.toInt = v41_3.toInt + 1 := by rw [ex52]; exact wk_add (y := 1) (show -2147483648 ≤ v41_3.toInt + 1 by omega) (show v41_3.toInt + 1 ≤ 2147483647 by omega)
        refine lv_goto (tgt := 41) hx hb dX11_print_84 (by decide) ?_
        exact ih41 v41_2 x52 f41_38_8 f41_39_8 H locs ls w46 (show 0 ≤ a1.toInt by omega) (show a1.toInt ≤ 6 by omega) (show 0 ≤ v41_2.toInt by omega) (show v41_2.toInt ≤ 3 by omega) (show 0 ≤ x52.toInt by omega) (show x52.toInt ≤ 12 by omega) (show 0 ≤ f41_38_8.toInt by omega) (show f41_38_8.toInt ≤ 3 by omega) (show 1 ≤ f41_39_8.toInt by omega) (show f41_39_8.toInt ≤ 10 by omega) (show (12 - x52.toInt).toNat < n41 by omega) hw hT hF c49 c50 (lv_sub hl [1, 2, 3, 0] rfl)
  refine lv_iload_n hx hb dX11_print_0 rfl (lv_at hl 1 rfl) ?_
  refine tk_Si hC hK hw hT hA hE hSR (k_X11_isWeekday_1 l adK adV dC dI cy ad B (by omega) (by omega) qr s1   a1 w0 s.heap.size hT ) (va_cwS 1 hC.2.2.2.2 gX11_print_X11_isWeekday rfl rfl rfl (by decide +kernel) ⟨Nat.le_of_ble_eq_true rfl, Nat.le_of_ble_eq_true rfl⟩) rfl hl.1 rfl (Nat.le_of_ble_eq_true rfl) dX11_print_1 (fun r53 w55 H locs hp54 hw => ?_)
  obtain ⟨hT, k56, hg59⟩ := hp54
  have hF := hF.tr k56 (by decide)
  rcases hg59 with rfl | ⟨rfl, g57, g58⟩
  · refine lv_if_eq (tgt := 28) hx hb dX11_print_4 (by decide) (fun _ => ?_) (fun c => absurd (by decide) c)
    exact J28  H locs ls w55   hw hT hF  (lv_sub hl [0, 1] rfl)
  · refine lv_if_eq (tgt := 28) hx hb dX11_print_4 (by decide) (fun c => absurd c (by decide)) (fun _ => ?_)
    refine lv_aload_n hx hb dX11_print_7 rfl (lv_at hl 0 rfl) ?_
    refine tk_getA hC hK hw hT hinX11 kC_at0 (by decide) rfl 4 (by decide) (List.mem_of_getElem? (i := 1) rfl) rfl rfl dX11_print_8 ?_
    refine tk_Vi hC hK hw hT hA hE hSR kC_at38 (by decide) rfl (k_X5_hasTown_1 l adK adV dC dI cy ad B (by omega) (by omega) qr s1    w55 H.size hT ) (cwV 0 hC.2.2.2.2 gX11_print_X5_hasTown rfl rfl rfl (by decide +kernel) ⟨Nat.le_of_ble_eq_true rfl, Nat.le_of_ble_eq_true rfl⟩) rfl hl.1 rfl (Nat.le_of_ble_eq_true rfl) dX11_print_11 (fun r60 w62 H locs hp61 hw => ?_)
    obtain ⟨hT, k63, hg68⟩ := hp61
    have hF := hF.tr k63 (by decide)
    rcases hg68 with ⟨rfl, ⟨x64, c65, rx64, tx64⟩⟩ | ⟨rfl, ⟨x66, c67, rx66, tx66⟩⟩
    · refine lv_if_eq (tgt := 28) hx hb dX11_print_14 (by decide) (fun _ => ?_) (fun c => absurd (by decide) c)
      exact J28  H locs ls w62   hw hT hF  (lv_sub hl [0, 1] rfl)
    · refine lv_if_eq (tgt := 28) hx hb dX11_print_14 (by decide) (fun c => absurd c (by decide)) (fun _ => ?_)
      refine lv_aload_n hx hb dX11_print_17 rfl (lv_at hl 0 rfl) ?_
      refine tk_getA hC hK hw hT hinX11 kC_at0 (by decide) rfl 4 (by decide) (List.mem_of_getElem? (i := 1) rfl) rfl rfl dX11_print_18 ?_
      refine tk_geti hC hK hw hT hinX5 kC_at38 (by decide) rfl 8 (by decide) (List.mem_of_getElem? (i := 2) rfl) rfl rfl dX11_print_21 (fun x69 c70 rx69 tx69 => ?_)
      refine lv_iconst (v := 4) hx hb dX11_print_24 (by decide) ?_
      refine lv_icmp_lt (tgt := 31) hx hb dX11_print_25 (by decide) (fun c71 => ?_) (fun c71 => ?_)
      · have c71 : x69.toInt < (4 : Int) := wk_lt.mp c71
        refine lv_aload_n hx hb dX11_print_31 rfl (lv_at hl 0 rfl) ?_
        refine tk_getA hC hK hw hT hinX11 kC_at0 (by decide) rfl 4 (by decide) (List.mem_of_getElem? (i := 1) rfl) rfl rfl dX11_print_32 ?_
        refine tk_geti hC hK hw hT hinX5 kC_at38 (by decide) rfl 8 (by decide) (List.mem_of_getElem? (i := 2) rfl) rfl rfl dX11_print_35 (fun x72 c73 rx72 tx72 => ?_)
        refine wk_top x69 (c73.symm.trans c70) ?_
        refine lv_istore_n (lv' := [(2, .int x69), (0, .ref (ad 0)), (1, .int a1)]) hx hb dX11_print_38 rfl hl (by decide) rfl (fun ls hl => ?_)
        refine lv_iconst (v := 0) hx hb dX11_print_39 (by decide) ?_
        refine lv_istore_n (lv' := [(3, .int 0), (2, .int x69), (0, .ref (ad 0)), (1, .int a1)]) hx hb dX11_print_40 rfl hl (by decide) rfl (fun ls hl => ?_)
        exact L41 ((12 - (0 : Int)).toNat + 1) x69 0 x69 x66 H locs ls w62 (show 0 ≤ a1.toInt by omega) (show a1.toInt ≤ 6 by omega) (show 0 ≤ x69.toInt by omega) (show x69.toInt ≤ 3 by omega) (by decide) (by decide) (show 0 ≤ x69.toInt by omega) (show x69.toInt ≤ 3 by omega) (show 1 ≤ x66.toInt by omega) (show x66.toInt ≤ 10 by omega) (Nat.lt_succ_self _) hw hT hF c70 c67 (lv_sub hl [2, 3, 1, 0] rfl)
      · have c71 : (4 : Int) ≤ x69.toInt := wk_ltF c71
        exact J28  H locs ls w62   hw hT hF  (lv_sub hl [0, 1] rfl)
abbrev P_X11_hasMap_1 (ad : Nat → Nat) (cy : Nat → ClassId) (B : Int) (qr : Nat) (s1 : Int) (a1 : Int32) (w0 : va_W) : Int32 → va_W → Prop := fun r u => TW ksC ad cy B qr s1 u ∧ FE ksC ([] : List (Nat × Nat × Nat)) w0 u ∧ ((r = 0) ∨ (r = 1 ∧ 0 ≤ a1.toInt ∧ a1.toInt ≤ 3 ∧ (∃ y : Int32, gi u 38 8 = y ∧ 1 ≤ y.toInt ∧ y.toInt ≤ 4)))
set_option maxHeartbeats 4000000 in
set_option maxRecDepth 100000 in
theorem k_X11_hasMap_1 (l : Launch) (adK adV : Nat → Nat) (dC : Nat → ClassId) (dI : Nat → Nat → Nat) (cy : Nat → ClassId) (ad : Nat → Nat) (B : Int) (hB0 : 2147483648 ≤ B) (hB1 : B ≤ 1152921504606846976) (qr : Nat) (s1 : Int)  (a1 : Int32) (w0 : va_W) (sz : Nat) (hT : TW ksC ad cy B qr s1 w0)  : Met l yX11_hasMap wsX11_hasMap ({ frames := 1, cells := 0, slots := 0, locals := 12 }) (va_Pc [.ref (ad 0), .int a1] (wpreS adK adV dC dI cy sz w0)) (va_Qi (P_X11_hasMap_1 ad cy B qr s1 a1 w0) (fun u : va_W => wpost dC dI cy (va_A w0 sz) u) (va_A w0 sz)) 0 0 (va_A w0 sz) := by
  refine Met.ofW (cc := cX11_hasMap) (maxL := 2) (ret := (some .boolean)) (by decide) rfl ?_
  intro p e s m args below meth c s₁ Bk hml hv
  obtain ⟨rfl, ⟨hsz, hP, hK, hD0⟩, hE, hSR⟩ := hv
  have hx := Bk.exec
  have hb := Bk.bytes
  have hr := Bk.returns
  have hlocks := Bk.notSynchronized
  have hC : CallFix p m c cX11_hasMap 2 s _ wsX11_hasMap RX11 := ⟨hx, hb, hml, findClass_of_methodNamed Bk.named, atoms_spec (ws := wsX11_hasMap) Bk.pre⟩
  subst hsz
  have hD := hD0.self (sz := s.heap.size)
  generalize hAe : va_A w0 s.heap.size = A at hD hE ⊢
  have hA : ∀ q : Nat, s.heap.size ≤ q → A q := fun q h => by rw [← hAe]; exact Or.inr h
  have hw : Wd dC dI A s.heap s.heap [] w0 := ⟨hP, hD, va_S.rf⟩
  have hF : FE ksC ([] : List (Nat × Nat × Nat)) w0 w0 := FE.rf
  have hl := lv_entry ([.ref (ad 0), .int a1]) (n := 2) (Nat.le_of_ble_eq_true rfl)
  rw [lg_entry_eq]
  generalize (lg_sl ([.ref (ad 0), .int a1]) ++ List.replicate (2 - (lg_sl ([.ref (ad 0), .int a1])).length) Slot.unset).toArray = ls at hl ⊢
  have hl : lv_has ls 2 [(0, .ref (ad 0)), (1, .int a1)] := hl
  generalize hloc : ([] : List Loc) = locs at hw ⊢
  have hinX11 : ∀ w ∈ u_ws RX11 TX11 13, w ∈ wsX11_hasMap := fun _ h => List.mem_cons_of_mem _ (List.mem_append_left _ (List.mem_append_right _ (h)))
  have hinX5 : ∀ w ∈ u_ws RX5 TX5 14, w ∈ wsX11_hasMap := fun _ h => List.mem_cons_of_mem _ (List.mem_append_right _ (h))
  have J19 : ∀ (H : Heap) (locs : List Loc) (ls : Array Slot) (w1 : va_W), Wd dC dI A s.heap H locs w1 → TW ksC ad cy B qr s1 w1 → FE ksC ([] : List (Nat × Nat × Nat)) w0 w1 → lv_has ls 2 [(0, .ref (ad 0)), (1, .int a1)] → W p l e ({ frames := 1, cells := 0, slots := 0, locals := 12 }) s m (List.toArray [.ref (ad 0), .int a1]) below meth c H locs 0 0 (MQ below (va_Qi (P_X11_hasMap_1 ad cy B qr s1 a1 w0) (fun u : va_W => wpost dC dI cy A u) A) (List.toArray [.ref (ad 0), .int a1]) s 0 0 A) (F0 m 19 ls []) := by
    intro H locs ls w1 hw hT hF hl
    refine lv_iconst (v := 0) hx hb dX11_hasMap_19 (by decide) ?_
    exact tk_zret hC hr rfl hlocks hK ⟨hT, hF, (Or.inl rfl)⟩ hw dX11_hasMap_20
  refine lv_iload_n hx hb dX11_hasMap_0 rfl (lv_at hl 1 rfl) ?_
  refine lv_if_lt (tgt := 19) hx hb dX11_hasMap_1 (by decide) (fun c2 => ?_) (fun c2 => ?_)
  · have c2 : a1.toInt < (0 : Int) := wk_lt.mp c2
    exact J19  s.heap locs ls w0   hw hT hF  (lv_sub hl [0, 1] rfl)
  · have c2 : (0 : Int) ≤ a1.toInt := wk_ltF c2
    refine lv_iload_n hx hb dX11_hasMap_4 rfl (lv_at hl 1 rfl) ?_
    refine lv_aload_n hx hb dX11_hasMap_5 rfl (lv_at hl 0 rfl) ?_
    refine tk_getA hC hK hw hT hinX11 kC_at0 (by decide) rfl 4 (by decide) (List.mem_of_getElem? (i := 1) rfl) rfl rfl dX11_hasMap_6 ?_
    refine tk_geti hC hK hw hT hinX5 kC_at38 (by decide) rfl 8 (by decide) (List.mem_of_getElem? (i := 2) rfl) rfl rfl dX11_hasMap_9 (fun x3 c4 rx3 tx3 => ?_)
    refine lv_icmp_ge (tgt := 19) hx hb dX11_hasMap_12 (by decide) (fun c5 => ?_) (fun c5 => ?_)
    · have c5 : x3.toInt ≤ a1.toInt := wk_le.mp c5
      exact J19  s.heap locs ls w0   hw hT hF  (lv_sub hl [0, 1] rfl)
    · have c5 : a1.toInt < x3.toInt := wk_leF c5
      refine lv_iconst (v := 1) hx hb dX11_hasMap_15 (by decide) ?_
      refine lv_goto (tgt := 20) hx hb dX11_hasMap_16 (by decide) ?_
      exact tk_zret hC hr rfl hlocks hK ⟨hT, hF, (Or.inr ⟨rfl, (show 0 ≤ a1.toInt by omega), (show a1.toInt ≤ 3 by omega), ⟨x3, c4, (show 1 ≤ x3.toInt by omega), (show x3.toInt ≤ 4 by omega)⟩⟩)⟩ hw dX11_hasMap_20
abbrev P_X11_isSign_1 (ad : Nat → Nat) (cy : Nat → ClassId) (B : Int) (qr : Nat) (s1 : Int) (a0 : Int32) (w0 : va_W) : Int32 → va_W → Prop := fun r u => TW ksC ad cy B qr s1 u ∧ FE ksC ([] : List (Nat × Nat × Nat)) w0 u ∧ ((r = 0) ∨ (r = 1 ∧ 0 ≤ a0.toInt ∧ a0.toInt ≤ 3))
set_option maxHeartbeats 4000000 in
set_option maxRecDepth 100000 in
theorem k_X11_isSign_1 (l : Launch) (adK adV : Nat → Nat) (dC : Nat → ClassId) (dI : Nat → Nat → Nat) (cy : Nat → ClassId) (ad : Nat → Nat) (B : Int) (hB0 : 2147483648 ≤ B) (hB1 : B ≤ 1152921504606846976) (qr : Nat) (s1 : Int)  (a0 : Int32) (w0 : va_W) (sz : Nat) (hT : TW ksC ad cy B qr s1 w0)  : Met l yX11_isSign wsX11_isSign ({ frames := 1, cells := 0, slots := 0, locals := 12 }) (va_Pc [.int a0] (wpreS adK adV dC dI cy sz w0)) (va_Qi (P_X11_isSign_1 ad cy B qr s1 a0 w0) (fun u : va_W => wpost dC dI cy (va_A w0 sz) u) (va_A w0 sz)) 0 0 (va_A w0 sz) := by
  refine Met.ofW (cc := cX11_isSign) (maxL := 1) (ret := (some .boolean)) (by decide) rfl ?_
  intro p e s m args below meth c s₁ Bk hml hv
  obtain ⟨rfl, ⟨hsz, hP, hK, hD0⟩, hE, hSR⟩ := hv
  have hx := Bk.exec
  have hb := Bk.bytes
  have hr := Bk.returns
  have hlocks := Bk.notSynchronized
  have hC : CallFix p m c cX11_isSign 1 s _ wsX11_isSign RX11 := ⟨hx, hb, hml, findClass_of_methodNamed Bk.named, atoms_spec (ws := wsX11_isSign) Bk.pre⟩
  subst hsz
  have hD := hD0.self (sz := s.heap.size)
  generalize hAe : va_A w0 s.heap.size = A at hD hE ⊢
  have hA : ∀ q : Nat, s.heap.size ≤ q → A q := fun q h => by rw [← hAe]; exact Or.inr h
  have hw : Wd dC dI A s.heap s.heap [] w0 := ⟨hP, hD, va_S.rf⟩
  have hF : FE ksC ([] : List (Nat × Nat × Nat)) w0 w0 := FE.rf
  have hl := lv_entry ([.int a0]) (n := 1) (Nat.le_of_ble_eq_true rfl)
  rw [lg_entry_eq]
  generalize (lg_sl ([.int a0]) ++ List.replicate (1 - (lg_sl ([.int a0])).length) Slot.unset).toArray = ls at hl ⊢
  have hl : lv_has ls 1 [(0, .int a0)] := hl
  generalize hloc : ([] : List Loc) = locs at hw ⊢
  have J13 : ∀ (H : Heap) (locs : List Loc) (ls : Array Slot) (w1 : va_W), Wd dC dI A s.heap H locs w1 → TW ksC ad cy B qr s1 w1 → FE ksC ([] : List (Nat × Nat × Nat)) w0 w1 → lv_has ls 1 [(0, .int a0)] → W p l e ({ frames := 1, cells := 0, slots := 0, locals := 12 }) s m (List.toArray [.int a0]) below meth c H locs 0 0 (MQ below (va_Qi (P_X11_isSign_1 ad cy B qr s1 a0 w0) (fun u : va_W => wpost dC dI cy A u) A) (List.toArray [.int a0]) s 0 0 A) (F0 m 13 ls []) := by
    intro H locs ls w1 hw hT hF hl
    refine lv_iconst (v := 0) hx hb dX11_isSign_13 (by decide) ?_
    exact tk_zret hC hr rfl hlocks hK ⟨hT, hF, (Or.inl rfl)⟩ hw dX11_isSign_14
  refine lv_iload_n hx hb dX11_isSign_0 rfl (lv_at hl 0 rfl) ?_
  refine lv_if_lt (tgt := 13) hx hb dX11_isSign_1 (by decide) (fun c2 => ?_) (fun c2 => ?_)
  · have c2 : a0.toInt < (0 : Int) := wk_lt.mp c2
    exact J13  s.heap locs ls w0   hw hT hF  (lv_sub hl [0] rfl)
  · have c2 : (0 : Int) ≤ a0.toInt := wk_ltF c2
    refine lv_iload_n hx hb dX11_isSign_4 rfl (lv_at hl 0 rfl) ?_
    refine lv_iconst (v := 3) hx hb dX11_isSign_5 (by decide) ?_
    refine lv_icmp_gt (tgt := 13) hx hb dX11_isSign_6 (by decide) (fun c3 => ?_) (fun c3 => ?_)
    · have c3 : (3 : Int) < a0.toInt := wk_lt.mp c3
      exact J13  s.heap locs ls w0   hw hT hF  (lv_sub hl [0] rfl)
    · have c3 : a0.toInt ≤ (3 : Int) := wk_ltF c3
      refine lv_iconst (v := 1) hx hb dX11_isSign_9 (by decide) ?_
      refine lv_goto (tgt := 14) hx hb dX11_isSign_10 (by decide) ?_
      exact tk_zret hC hr rfl hlocks hK ⟨hT, hF, (Or.inr ⟨rfl, (show 0 ≤ a0.toInt by omega), (show a0.toInt ≤ 3 by omega)⟩)⟩ hw dX11_isSign_14
abbrev P_X11_misprint_1 (ad : Nat → Nat) (cy : Nat → ClassId) (B : Int) (qr : Nat) (s1 : Int) (a1 : Int32) (a2 : Int32) (a3 : Int32) (w0 : va_W) : Int32 → va_W → Prop := fun r u => TW ksC ad cy B qr s1 u ∧ FE ksC [(32, 0, 48), (44, 0, 11)] w0 u ∧ ((0 ≤ a1.toInt ∧ a1.toInt ≤ 3 ∧ 0 ≤ a2.toInt ∧ a2.toInt ≤ 11 ∧ 0 ≤ a3.toInt ∧ a3.toInt ≤ 3 ∧ (∃ y : Int32, gi u 38 8 = y ∧ 1 ≤ y.toInt ∧ y.toInt ≤ 4) ∧ (∃ y : Int32, gi u 39 9 = y ∧ 1 ≤ y.toInt ∧ y.toInt ≤ 12)) ∨ (r = (-1)))
set_option maxHeartbeats 4000000 in
set_option maxRecDepth 100000 in
theorem k_X11_misprint_1 (l : Launch) (adK adV : Nat → Nat) (dC : Nat → ClassId) (dI : Nat → Nat → Nat) (cy : Nat → ClassId) (ad : Nat → Nat) (B : Int) (hB0 : 2147483648 ≤ B) (hB1 : B ≤ 1152921504606846976) (qr : Nat) (s1 : Int)  (a1 : Int32) (a2 : Int32) (a3 : Int32) (w0 : va_W) (sz : Nat) (hT : TW ksC ad cy B qr s1 w0)  : Met l yX11_misprint wsX11_misprint ({ frames := 2, cells := 0, slots := 0, locals := 33 }) (va_Pc [.ref (ad 0), .int a1, .int a2, .int a3] (wpreS adK adV dC dI cy sz w0)) (va_Qi (P_X11_misprint_1 ad cy B qr s1 a1 a2 a3 w0) (fun u : va_W => wpost dC dI cy (va_A w0 sz) u) (va_A w0 sz)) 0 0 (va_A w0 sz) := by
  refine Met.ofW (cc := cX11_misprint) (maxL := 6) (ret := (some .int)) (by decide) rfl ?_
  intro p e s m args below meth c s₁ Bk hml hv
  obtain ⟨rfl, ⟨hsz, hP, hK, hD0⟩, hE, hSR⟩ := hv
  have hx := Bk.exec
  have hb := Bk.bytes
  have hr := Bk.returns
  have hlocks := Bk.notSynchronized
  have hC : CallFix p m c cX11_misprint 6 s _ wsX11_misprint RX11 := ⟨hx, hb, hml, findClass_of_methodNamed Bk.named, atoms_spec (ws := wsX11_misprint) Bk.pre⟩
  subst hsz
  have hD := hD0.self (sz := s.heap.size)
  generalize hAe : va_A w0 s.heap.size = A at hD hE ⊢
  have hA : ∀ q : Nat, s.heap.size ≤ q → A q := fun q h => by rw [← hAe]; exact Or.inr h
  have hw : Wd dC dI A s.heap s.heap [] w0 := ⟨hP, hD, va_S.rf⟩
  have hF : FE ksC [(32, 0, 48), (44, 0, 11)] w0 w0 := FE.rf
  have hl := lv_entry ([.ref (ad 0), .int a1, .int a2, .int a3]) (n := 6) (Nat.le_of_ble_eq_true rfl)
  rw [lg_entry_eq]
  generalize (lg_sl ([.ref (ad 0), .int a1, .int a2, .int a3]) ++ List.replicate (6 - (lg_sl ([.ref (ad 0), .int a1, .int a2, .int a3])).length) Slot.unset).toArray = ls at hl ⊢
  have hl : lv_has ls 6 [(0, .ref (ad 0)), (1, .int a1), (2, .int a2), (3, .int a3)] := hl
  generalize hloc : ([] : List Loc) = locs at hw ⊢
  have hinX11 : ∀ w ∈ u_ws RX11 TX11 13, w ∈ wsX11_misprint := fun _ h => List.mem_cons_of_mem _ (List.mem_append_left _ (List.mem_append_left _ (List.mem_append_left _ (List.mem_append_right _ (h)))))
  have hinX5 : ∀ w ∈ u_ws RX5 TX5 14, w ∈ wsX11_misprint := fun _ h => List.mem_cons_of_mem _ (List.mem_append_left _ (List.mem_append_left _ (List.mem_append_right _ (h))))
  have J29 : ∀ (H : Heap) (locs : List Loc) (ls : Array Slot) (w1 : va_W), Wd dC dI A s.heap H locs w1 → TW ksC ad cy B qr s1 w1 → FE ksC [(32, 0, 48), (44, 0, 11)] w0 w1 → lv_has ls 6 [(0, .ref (ad 0)), (1, .int a1), (2, .int a2), (3, .int a3)] → W p l e ({ frames := 2, cells := 0, slots := 0, locals := 33 }) s m (List.toArray [.ref (ad 0), .int a1, .int a2, .int a3]) below meth c H locs 0 0 (MQ below (va_Qi (P_X11_misprint_1 ad cy B qr s1 a1 a2 a3 w0) (fun u : va_W => wpost dC dI cy A u) A) (List.toArray [.ref (ad 0), .int a1, .int a2, .int a3]) s 0 0 A) (F0 m 29 ls []) := by
    intro H locs ls w1 hw hT hF hl
    refine lv_iconst (v := (-1)) hx hb dX11_misprint_29 (by decide) ?_
    exact tk_iret hC hr hlocks hK ⟨hT, hF, (Or.inr rfl)⟩ hw dX11_misprint_30
  refine lv_aload_n hx hb dX11_misprint_0 rfl (lv_at hl 0 rfl) ?_
  refine lv_iload_n hx hb dX11_misprint_1 rfl (lv_at hl 1 rfl) ?_
  refine tk_Vi hC hK hw hT hA hE hSR kC_at0 (by decide) rfl (k_X11_hasMap_1 l adK adV dC dI cy ad B (by omega) (by omega) qr s1   a1 w0 s.heap.size hT ) (cwV 1 hC.2.2.2.2 gX11_misprint_X11_hasMap rfl rfl rfl (by decide +kernel) ⟨Nat.le_of_ble_eq_true rfl, Nat.le_of_ble_eq_true rfl⟩) rfl hl.1 rfl (Nat.le_of_ble_eq_true rfl) dX11_misprint_2 (fun r2 w4 H locs hp3 hw => ?_)
  obtain ⟨hT, k5, hg10⟩ := hp3
  have hF := hF.tr k5 (by decide)
  rcases hg10 with rfl | ⟨rfl, g6, g7, ⟨x8, c9, rx8, tx8⟩⟩
  · refine lv_if_eq (tgt := 29) hx hb dX11_misprint_5 (by decide) (fun _ => ?_) (fun c => absurd (by decide) c)
    exact J29  H locs ls w4   hw hT hF  (lv_sub hl [0, 1, 2, 3] rfl)
  · refine lv_if_eq (tgt := 29) hx hb dX11_misprint_5 (by decide) (fun c => absurd c (by decide)) (fun _ => ?_)
    refine lv_aload_n hx hb dX11_misprint_8 rfl (lv_at hl 0 rfl) ?_
    refine tk_getA hC hK hw hT hinX11 kC_at0 (by decide) rfl 4 (by decide) (List.mem_of_getElem? (i := 1) rfl) rfl rfl dX11_misprint_9 ?_
    refine tk_getO hC hK hw hT hinX5 kC_at38 (by decide) rfl 0 (by decide) (List.mem_of_getElem? (i := 2) rfl) rfl rfl dX11_misprint_12 ?_
    refine lv_iload_n hx hb dX11_misprint_15 rfl (lv_at hl 2 rfl) ?_
    refine tk_Vi hC hK hw hT hA hE hSR kC_at39 (by decide) rfl (k_X7_hasStreet_1 l adK adV dC dI cy ad B (by omega) (by omega) qr s1   a2 w4 H.size hT ) (cwV 1 hC.2.2.2.2 gX11_misprint_X7_hasStreet rfl rfl rfl (by decide +kernel) ⟨Nat.le_of_ble_eq_true rfl, Nat.le_of_ble_eq_true rfl⟩) rfl hl.1 rfl (Nat.le_of_ble_eq_true rfl) dX11_misprint_16 (fun r11 w13 H locs hp12 hw => ?_)
    obtain ⟨hT, k14, hg19⟩ := hp12
    have hF := hF.tr k14 (by decide)
    have c20 := k14.gi kC_at38 (by decide) c9
    rcases hg19 with rfl | ⟨rfl, g15, g16, ⟨x17, c18, rx17, tx17⟩⟩
    · refine lv_if_eq (tgt := 29) hx hb dX11_misprint_19 (by decide) (fun _ => ?_) (fun c => absurd (by decide) c)
      exact J29  H locs ls w13   hw hT hF  (lv_sub hl [0, 1, 2, 3] rfl)
    · refine lv_if_eq (tgt := 29) hx hb dX11_misprint_19 (by decide) (fun c => absurd c (by decide)) (fun _ => ?_)
      refine lv_iload_n hx hb dX11_misprint_22 rfl (lv_at hl 3 rfl) ?_
      refine tk_Si hC hK hw hT hA hE hSR (k_X11_isSign_1 l adK adV dC dI cy ad B (by omega) (by omega) qr s1   a3 w13 H.size hT ) (va_cwS 1 hC.2.2.2.2 gX11_misprint_X11_isSign rfl rfl rfl (by decide +kernel) ⟨Nat.le_of_ble_eq_true rfl, Nat.le_of_ble_eq_true rfl⟩) rfl hl.1 rfl (Nat.le_of_ble_eq_true rfl) dX11_misprint_23 (fun r21 w23 H locs hp22 hw => ?_)
      obtain ⟨hT, k24, hg27⟩ := hp22
      have hF := hF.tr k24 (by decide)
      have c28 := k24.gi kC_at38 (by decide) c20
      have c29 := k24.gi kC_at39 (by decide) c18
      rcases hg27 with rfl | ⟨rfl, g25, g26⟩
      · refine lv_if_ne (tgt := 31) hx hb dX11_misprint_26 (by decide) (fun c => absurd (by decide) c) (fun _ => ?_)
        exact J29  H locs ls w23   hw hT hF  (lv_sub hl [0, 1, 2, 3] rfl)
      · refine lv_if_ne (tgt := 31) hx hb dX11_misprint_26 (by decide) (fun _ => ?_) (fun c => absurd c (by decide))
        refine lv_iload_n hx hb dX11_misprint_31 rfl (lv_at hl 1 rfl) ?_
        refine lv_bipush (v := 12) hx hb dX11_misprint_32 (by decide) ?_
        refine lv_imul hx hb dX11_misprint_34 ?_
        refine lv_topi (fun x30 ex30 => ?_)
        have ex30 : x30.toInt = a1.toInt * (12 : Int) := by rw [ex30]; exact wk_mul (show (-2147483648) ≤ a1.toInt * (12 : Int) by omega) (show a1.toInt * (12 : Int) ≤ 2147483647 by omega)
        refine lv_iload_n hx hb dX11_misprint_35 rfl (lv_at hl 2 rfl) ?_
        refine lv_iadd hx hb dX11_misprint_36 ?_
        refine lv_topi (fun x31 ex31 => ?_)
        have ex31 : x31.toInt = x30.toInt + a2.toInt := by rw [ex31]; exact wk_add (show (-2147483648) ≤ x30.toInt + a2.toInt by omega) (show x30.toInt + a2.toInt ≤ 2147483647 by omega)
        refine lv_istore (lv' := [(4, .int x31), (0, .ref (ad 0)), (1, .int a1), (2, .int a2), (3, .int a3)]) hx hb dX11_misprint_37 hl (by decide) rfl (fun ls hl => ?_)
        refine lv_aload_n hx hb dX11_misprint_39 rfl (lv_at hl 1 rfl) ?_
        refine tk_getA hC hK hw hT hinX11 kC_at0 (by decide) rfl 4 (by decide) (List.mem_of_getElem? (i := 1) rfl) rfl rfl dX11_misprint_40 ?_
        refine tk_getO hC hK hw hT hinX5 kC_at38 (by decide) rfl 1 (by decide) (List.mem_of_getElem? (i := 3) rfl) rfl rfl dX11_misprint_43 ?_
        refine lv_iload hx hb dX11_misprint_46 (lv_at hl 0 rfl) ?_
        refine tk_iald hC hK hw hT kC_at48 rfl rfl (show 0 ≤ x31.toInt by omega) (show x31.toInt < 48 by omega) dX11_misprint_48 (fun x32 c33 rx32 tx32 => ?_)
        refine lv_istore (lv' := [(5, .int x32), (4, .int x31), (0, .ref (ad 0)), (1, .int a1), (2, .int a2), (3, .int a3)]) hx hb dX11_misprint_49 hl (by decide) rfl (fun ls hl => ?_)
        refine lv_aload_n hx hb dX11_misprint_51 rfl (lv_at hl 2 rfl) ?_
        refine tk_getA hC hK hw hT hinX11 kC_at0 (by decide) rfl 4 (by decide) (List.mem_of_getElem? (i := 1) rfl) rfl rfl dX11_misprint_52 ?_
        refine tk_getO hC hK hw hT hinX5 kC_at38 (by decide) rfl 1 (by decide) (List.mem_of_getElem? (i := 3) rfl) rfl rfl dX11_misprint_55 ?_
        refine lv_iload hx hb dX11_misprint_58 (lv_at hl 1 rfl) ?_
        refine lv_iload_n hx hb dX11_misprint_60 rfl (lv_at hl 5 rfl) ?_
        refine tk_iast hC hK hw hT kC_at48 (by decide) rfl rfl (show 0 ≤ x31.toInt by omega) (show x31.toInt < 48 by omega) (wk_i32 a3).1 (wk_i32 a3).2 dX11_misprint_61 (fun H locs w34 hw hT k36 c35 => ?_)
        have hF := hF.put kC_at48 (inE_of (a := 0) (b := 48) (by decide) (show 0 ≤ x31.toInt.toNat by omega) (show x31.toInt.toNat ≤ 48 by omega)) k36
        have c37 := k36.gi (Or.inl (tk_ne kC_at38 kC_at48 (by decide))) c28
        have c38 := k36.gi (Or.inl (tk_ne kC_at39 kC_at48 (by decide))) c29
        refine lv_aload_n hx hb dX11_misprint_62 rfl (lv_at hl 2 rfl) ?_
        refine tk_getA hC hK hw hT hinX11 kC_at0 (by decide) rfl 7 (by decide) (List.mem_of_getElem? (i := 4) rfl) rfl rfl dX11_misprint_63 ?_
        refine lv_iload_n hx hb dX11_misprint_66 rfl (lv_at hl 3 rfl) ?_
        refine tk_Vv hC hK hw hT hA hE hSR kC_at145 (by decide) rfl (k_X0_forget_1 l adK adV dC dI cy ad B (by omega) (by omega) qr s1   a1 (show 0 ≤ a1.toInt by omega) (show a1.toInt ≤ 3 by omega) w34 H.size hT ) (cwV 1 hC.2.2.2.2 gX11_misprint_X0_forget rfl rfl rfl (by decide +kernel) ⟨Nat.le_of_ble_eq_true rfl, Nat.le_of_ble_eq_true rfl⟩) rfl hl.1 rfl (Nat.le_of_ble_eq_true rfl) dX11_misprint_67 (fun w41 H locs hp40 hw => ?_)
        obtain ⟨hT, k42, hg43⟩ := hp40
        have hF := hF.tr k42 (by decide)
        have c44 := k42.gi kC_at38 (by decide) c37
        have c45 := k42.gi kC_at39 (by decide) c38
        clear hg43
        refine lv_iload hx hb dX11_misprint_70 (lv_at hl 0 rfl) ?_
        exact tk_iret hC hr hlocks hK ⟨hT, hF, (Or.inl ⟨(show 0 ≤ a1.toInt by omega), (show a1.toInt ≤ 3 by omega), (show 0 ≤ a2.toInt by omega), (show a2.toInt ≤ 11 by omega), (show 0 ≤ a3.toInt by omega), (show a3.toInt ≤ 3 by omega), ⟨x8, c44, (show 1 ≤ x8.toInt by omega), (show x8.toInt ≤ 4 by omega)⟩, ⟨x17, c45, (show 1 ≤ x17.toInt by omega), (show x17.toInt ≤ 12 by omega)⟩⟩)⟩ hw dX11_misprint_72
abbrev P_X11_shown_1 (ad : Nat → Nat) (cy : Nat → ClassId) (B : Int) (qr : Nat) (s1 : Int) (a1 : Int32) (a2 : Int32) (w0 : va_W) : Int32 → va_W → Prop := fun r u => TW ksC ad cy B qr s1 u ∧ FE ksC ([] : List (Nat × Nat × Nat)) w0 u ∧ ((0 ≤ a1.toInt ∧ a1.toInt ≤ 3 ∧ 0 ≤ a2.toInt ∧ a2.toInt ≤ 11 ∧ (∃ y : Int32, gi u 38 8 = y ∧ 1 ≤ y.toInt ∧ y.toInt ≤ 4) ∧ (∃ y : Int32, gi u 39 9 = y ∧ 1 ≤ y.toInt ∧ y.toInt ≤ 12)) ∨ (r = (-1)))
set_option maxHeartbeats 4000000 in
set_option maxRecDepth 100000 in
theorem k_X11_shown_1 (l : Launch) (adK adV : Nat → Nat) (dC : Nat → ClassId) (dI : Nat → Nat → Nat) (cy : Nat → ClassId) (ad : Nat → Nat) (B : Int) (hB0 : 2147483648 ≤ B) (hB1 : B ≤ 1152921504606846976) (qr : Nat) (s1 : Int)  (a1 : Int32) (a2 : Int32) (w0 : va_W) (sz : Nat) (hT : TW ksC ad cy B qr s1 w0)  : Met l yX11_shown wsX11_shown ({ frames := 2, cells := 0, slots := 0, locals := 33 }) (va_Pc [.ref (ad 0), .int a1, .int a2] (wpreS adK adV dC dI cy sz w0)) (va_Qi (P_X11_shown_1 ad cy B qr s1 a1 a2 w0) (fun u : va_W => wpost dC dI cy (va_A w0 sz) u) (va_A w0 sz)) 0 0 (va_A w0 sz) := by
  refine Met.ofW (cc := cX11_shown) (maxL := 3) (ret := (some .int)) (by decide) rfl ?_
  intro p e s m args below meth c s₁ Bk hml hv
  obtain ⟨rfl, ⟨hsz, hP, hK, hD0⟩, hE, hSR⟩ := hv
  have hx := Bk.exec
  have hb := Bk.bytes
  have hr := Bk.returns
  have hlocks := Bk.notSynchronized
  have hC : CallFix p m c cX11_shown 3 s _ wsX11_shown RX11 := ⟨hx, hb, hml, findClass_of_methodNamed Bk.named, atoms_spec (ws := wsX11_shown) Bk.pre⟩
  subst hsz
  have hD := hD0.self (sz := s.heap.size)
  generalize hAe : va_A w0 s.heap.size = A at hD hE ⊢
  have hA : ∀ q : Nat, s.heap.size ≤ q → A q := fun q h => by rw [← hAe]; exact Or.inr h
  have hw : Wd dC dI A s.heap s.heap [] w0 := ⟨hP, hD, va_S.rf⟩
  have hF : FE ksC ([] : List (Nat × Nat × Nat)) w0 w0 := FE.rf
  have hl := lv_entry ([.ref (ad 0), .int a1, .int a2]) (n := 3) (Nat.le_of_ble_eq_true rfl)
  rw [lg_entry_eq]
  generalize (lg_sl ([.ref (ad 0), .int a1, .int a2]) ++ List.replicate (3 - (lg_sl ([.ref (ad 0), .int a1, .int a2])).length) Slot.unset).toArray = ls at hl ⊢
  have hl : lv_has ls 3 [(0, .ref (ad 0)), (1, .int a1), (2, .int a2)] := hl
  generalize hloc : ([] : List Loc) = locs at hw ⊢
  have hinX11 : ∀ w ∈ u_ws RX11 TX11 13, w ∈ wsX11_shown := fun _ h => List.mem_cons_of_mem _ (List.mem_append_left _ (List.mem_append_left _ (List.mem_append_right _ (h))))
  have hinX5 : ∀ w ∈ u_ws RX5 TX5 14, w ∈ wsX11_shown := fun _ h => List.mem_cons_of_mem _ (List.mem_append_left _ (List.mem_append_right _ (h)))
  have J22 : ∀ (H : Heap) (locs : List Loc) (ls : Array Slot) (w1 : va_W), Wd dC dI A s.heap H locs w1 → TW ksC ad cy B qr s1 w1 → FE ksC ([] : List (Nat × Nat × Nat)) w0 w1 → lv_has ls 3 [(0, .ref (ad 0)), (1, .int a1), (2, .int a2)] → W p l e ({ frames := 2, cells := 0, slots := 0, locals := 33 }) s m (List.toArray [.ref (ad 0), .int a1, .int a2]) below meth c H locs 0 0 (MQ below (va_Qi (P_X11_shown_1 ad cy B qr s1 a1 a2 w0) (fun u : va_W => wpost dC dI cy A u) A) (List.toArray [.ref (ad 0), .int a1, .int a2]) s 0 0 A) (F0 m 22 ls []) := by
    intro H locs ls w1 hw hT hF hl
    refine lv_iconst (v := (-1)) hx hb dX11_shown_22 (by decide) ?_
    exact tk_iret hC hr hlocks hK ⟨hT, hF, (Or.inr rfl)⟩ hw dX11_shown_23
  refine lv_aload_n hx hb dX11_shown_0 rfl (lv_at hl 0 rfl) ?_
  refine lv_iload_n hx hb dX11_shown_1 rfl (lv_at hl 1 rfl) ?_
  refine tk_Vi hC hK hw hT hA hE hSR kC_at0 (by decide) rfl (k_X11_hasMap_1 l adK adV dC dI cy ad B (by omega) (by omega) qr s1   a1 w0 s.heap.size hT ) (cwV 1 hC.2.2.2.2 gX11_shown_X11_hasMap rfl rfl rfl (by decide +kernel) ⟨Nat.le_of_ble_eq_true rfl, Nat.le_of_ble_eq_true rfl⟩) rfl hl.1 rfl (Nat.le_of_ble_eq_true rfl) dX11_shown_2 (fun r2 w4 H locs hp3 hw => ?_)
  obtain ⟨hT, k5, hg10⟩ := hp3
  have hF := hF.tr k5 (by decide)
  rcases hg10 with rfl | ⟨rfl, g6, g7, ⟨x8, c9, rx8, tx8⟩⟩
  · refine lv_if_eq (tgt := 22) hx hb dX11_shown_5 (by decide) (fun _ => ?_) (fun c => absurd (by decide) c)
    exact J22  H locs ls w4   hw hT hF  (lv_sub hl [0, 1, 2] rfl)
  · refine lv_if_eq (tgt := 22) hx hb dX11_shown_5 (by decide) (fun c => absurd c (by decide)) (fun _ => ?_)
    refine lv_aload_n hx hb dX11_shown_8 rfl (lv_at hl 0 rfl) ?_
    refine tk_getA hC hK hw hT hinX11 kC_at0 (by decide) rfl 4 (by decide) (List.mem_of_getElem? (i := 1) rfl) rfl rfl dX11_shown_9 ?_
    refine tk_getO hC hK hw hT hinX5 kC_at38 (by decide) rfl 0 (by decide) (List.mem_of_getElem? (i := 2) rfl) rfl rfl dX11_shown_12 ?_
    refine lv_iload_n hx hb dX11_shown_15 rfl (lv_at hl 2 rfl) ?_
    refine tk_Vi hC hK hw hT hA hE hSR kC_at39 (by decide) rfl (k_X7_hasStreet_1 l adK adV dC dI cy ad B (by omega) (by omega) qr s1   a2 w4 H.size hT ) (cwV 1 hC.2.2.2.2 gX11_shown_X7_hasStreet rfl rfl rfl (by decide +kernel) ⟨Nat.le_of_ble_eq_true rfl, Nat.le_of_ble_eq_true rfl⟩) rfl hl.1 rfl (Nat.le_of_ble_eq_true rfl) dX11_shown_16 (fun r11 w13 H locs hp12 hw => ?_)
    obtain ⟨hT, k14, hg19⟩ := hp12
    have hF := hF.tr k14 (by decide)
    have c20 := k14.gi kC_at38 (by decide) c9
    rcases hg19 with rfl | ⟨rfl, g15, g16, ⟨x17, c18, rx17, tx17⟩⟩
    · refine lv_if_ne (tgt := 24) hx hb dX11_shown_19 (by decide) (fun c => absurd (by decide) c) (fun _ => ?_)
      exact J22  H locs ls w13   hw hT hF  (lv_sub hl [0, 1, 2] rfl)
    · refine lv_if_ne (tgt := 24) hx hb dX11_shown_19 (by decide) (fun _ => ?_) (fun c => absurd c (by decide))
      refine lv_aload_n hx hb dX11_shown_24 rfl (lv_at hl 0 rfl) ?_
      refine tk_getA hC hK hw hT hinX11 kC_at0 (by decide) rfl 4 (by decide) (List.mem_of_getElem? (i := 1) rfl) rfl rfl dX11_shown_25 ?_
      refine tk_getO hC hK hw hT hinX5 kC_at38 (by decide) rfl 1 (by decide) (List.mem_of_getElem? (i := 3) rfl) rfl rfl dX11_shown_28 ?_
      refine lv_iload_n hx hb dX11_shown_31 rfl (lv_at hl 1 rfl) ?_
      refine lv_bipush (v := 12) hx hb dX11_shown_32 (by decide) ?_
      refine lv_imul hx hb dX11_shown_34 ?_
      refine lv_topi (fun x21 ex21 => ?_)
      have ex21 : x21.toInt = a1.toInt * (12 : Int) := by rw [ex21]; exact wk_mul (show (-2147483648) ≤ a1.toInt * (12 : Int) by omega) (show a1.toInt * (12 : Int) ≤ 2147483647 by omega)
      refine lv_iload_n hx hb dX11_shown_35 rfl (lv_at hl 2 rfl) ?_
      refine lv_iadd hx hb dX11_shown_36 ?_
      refine lv_topi (fun x22 ex22 => ?_)
      have ex22 : x22.toInt = x21.toInt + a2.toInt := by rw [ex22]; exact wk_add (show (-2147483648) ≤ x21.toInt + a2.toInt by omega) (show x21.toInt + a2.toInt ≤ 2147483647 by omega)
      refine tk_iald hC hK hw hT kC_at48 rfl rfl (show 0 ≤ x22.toInt by omega) (show x22.toInt < 48 by omega) dX11_shown_37 (fun x23 c24 rx23 tx23 => ?_)
      exact tk_iret hC hr hlocks hK ⟨hT, hF, (Or.inl ⟨(show 0 ≤ a1.toInt by omega), (show a1.toInt ≤ 3 by omega), (show 0 ≤ a2.toInt by omega), (show a2.toInt ≤ 11 by omega), ⟨x8, c20, (show 1 ≤ x8.toInt by omega), (show x8.toInt ≤ 4 by omega)⟩, ⟨x17, c18, (show 1 ≤ x17.toInt by omega), (show x17.toInt ≤ 12 by omega)⟩⟩)⟩ hw dX11_shown_38
abbrev P_X11_hasCorner_1 (ad : Nat → Nat) (cy : Nat → ClassId) (B : Int) (qr : Nat) (s1 : Int) (a1 : Int32) (w0 : va_W) : Int32 → va_W → Prop := fun r u => TW ksC ad cy B qr s1 u ∧ FE ksC ([] : List (Nat × Nat × Nat)) w0 u ∧ ((r = 0) ∨ (r = 1 ∧ 0 ≤ a1.toInt ∧ a1.toInt ≤ 9 ∧ (∃ y : Int32, gi u 39 8 = y ∧ 1 ≤ y.toInt ∧ y.toInt ≤ 10)))
set_option maxHeartbeats 4000000 in
set_option maxRecDepth 100000 in
theorem k_X11_hasCorner_1 (l : Launch) (adK adV : Nat → Nat) (dC : Nat → ClassId) (dI : Nat → Nat → Nat) (cy : Nat → ClassId) (ad : Nat → Nat) (B : Int) (hB0 : 2147483648 ≤ B) (hB1 : B ≤ 1152921504606846976) (qr : Nat) (s1 : Int)  (a1 : Int32) (w0 : va_W) (sz : Nat) (hT : TW ksC ad cy B qr s1 w0)  : Met l yX11_hasCorner wsX11_hasCorner ({ frames := 1, cells := 0, slots := 0, locals := 12 }) (va_Pc [.ref (ad 0), .int a1] (wpreS adK adV dC dI cy sz w0)) (va_Qi (P_X11_hasCorner_1 ad cy B qr s1 a1 w0) (fun u : va_W => wpost dC dI cy (va_A w0 sz) u) (va_A w0 sz)) 0 0 (va_A w0 sz) := by
  refine Met.ofW (cc := cX11_hasCorner) (maxL := 2) (ret := (some .boolean)) (by decide) rfl ?_
  intro p e s m args below meth c s₁ Bk hml hv
  obtain ⟨rfl, ⟨hsz, hP, hK, hD0⟩, hE, hSR⟩ := hv
  have hx := Bk.exec
  have hb := Bk.bytes
  have hr := Bk.returns
  have hlocks := Bk.notSynchronized
  have hC : CallFix p m c cX11_hasCorner 2 s _ wsX11_hasCorner RX11 := ⟨hx, hb, hml, findClass_of_methodNamed Bk.named, atoms_spec (ws := wsX11_hasCorner) Bk.pre⟩
  subst hsz
  have hD := hD0.self (sz := s.heap.size)
  generalize hAe : va_A w0 s.heap.size = A at hD hE ⊢
  have hA : ∀ q : Nat, s.heap.size ≤ q → A q := fun q h => by rw [← hAe]; exact Or.inr h
  have hw : Wd dC dI A s.heap s.heap [] w0 := ⟨hP, hD, va_S.rf⟩
  have hF : FE ksC ([] : List (Nat × Nat × Nat)) w0 w0 := FE.rf
  have hl := lv_entry ([.ref (ad 0), .int a1]) (n := 2) (Nat.le_of_ble_eq_true rfl)
  rw [lg_entry_eq]
  generalize (lg_sl ([.ref (ad 0), .int a1]) ++ List.replicate (2 - (lg_sl ([.ref (ad 0), .int a1])).length) Slot.unset).toArray = ls at hl ⊢
  have hl : lv_has ls 2 [(0, .ref (ad 0)), (1, .int a1)] := hl
  generalize hloc : ([] : List Loc) = locs at hw ⊢
  have hinX11 : ∀ w ∈ u_ws RX11 TX11 13, w ∈ wsX11_hasCorner := fun _ h => List.mem_cons_of_mem _ (List.mem_append_left _ (List.mem_append_left _ (List.mem_append_right _ (h))))
  have hinX5 : ∀ w ∈ u_ws RX5 TX5 14, w ∈ wsX11_hasCorner := fun _ h => List.mem_cons_of_mem _ (List.mem_append_left _ (List.mem_append_right _ (h)))
  have hinX7 : ∀ w ∈ u_ws RX7 TX7 12, w ∈ wsX11_hasCorner := fun _ h => List.mem_cons_of_mem _ (List.mem_append_right _ (h))
  have J22 : ∀ (H : Heap) (locs : List Loc) (ls : Array Slot) (w1 : va_W), Wd dC dI A s.heap H locs w1 → TW ksC ad cy B qr s1 w1 → FE ksC ([] : List (Nat × Nat × Nat)) w0 w1 → lv_has ls 2 [(0, .ref (ad 0)), (1, .int a1)] → W p l e ({ frames := 1, cells := 0, slots := 0, locals := 12 }) s m (List.toArray [.ref (ad 0), .int a1]) below meth c H locs 0 0 (MQ below (va_Qi (P_X11_hasCorner_1 ad cy B qr s1 a1 w0) (fun u : va_W => wpost dC dI cy A u) A) (List.toArray [.ref (ad 0), .int a1]) s 0 0 A) (F0 m 22 ls []) := by
    intro H locs ls w1 hw hT hF hl
    refine lv_iconst (v := 0) hx hb dX11_hasCorner_22 (by decide) ?_
    exact tk_zret hC hr rfl hlocks hK ⟨hT, hF, (Or.inl rfl)⟩ hw dX11_hasCorner_23
  refine lv_iload_n hx hb dX11_hasCorner_0 rfl (lv_at hl 1 rfl) ?_
  refine lv_if_lt (tgt := 22) hx hb dX11_hasCorner_1 (by decide) (fun c2 => ?_) (fun c2 => ?_)
  · have c2 : a1.toInt < (0 : Int) := wk_lt.mp c2
    exact J22  s.heap locs ls w0   hw hT hF  (lv_sub hl [0, 1] rfl)
  · have c2 : (0 : Int) ≤ a1.toInt := wk_ltF c2
    refine lv_iload_n hx hb dX11_hasCorner_4 rfl (lv_at hl 1 rfl) ?_
    refine lv_aload_n hx hb dX11_hasCorner_5 rfl (lv_at hl 0 rfl) ?_
    refine tk_getA hC hK hw hT hinX11 kC_at0 (by decide) rfl 4 (by decide) (List.mem_of_getElem? (i := 1) rfl) rfl rfl dX11_hasCorner_6 ?_
    refine tk_getO hC hK hw hT hinX5 kC_at38 (by decide) rfl 0 (by decide) (List.mem_of_getElem? (i := 2) rfl) rfl rfl dX11_hasCorner_9 ?_
    refine tk_geti hC hK hw hT hinX7 kC_at39 (by decide) rfl 8 (by decide) (List.mem_of_getElem? (i := 3) rfl) rfl rfl dX11_hasCorner_12 (fun x3 c4 rx3 tx3 => ?_)
    refine lv_icmp_ge (tgt := 22) hx hb dX11_hasCorner_15 (by decide) (fun c5 => ?_) (fun c5 => ?_)
    · have c5 : x3.toInt ≤ a1.toInt := wk_le.mp c5
      exact J22  s.heap locs ls w0   hw hT hF  (lv_sub hl [0, 1] rfl)
    · have c5 : a1.toInt < x3.toInt := wk_leF c5
      refine lv_iconst (v := 1) hx hb dX11_hasCorner_18 (by decide) ?_
      refine lv_goto (tgt := 23) hx hb dX11_hasCorner_19 (by decide) ?_
      exact tk_zret hC hr rfl hlocks hK ⟨hT, hF, (Or.inr ⟨rfl, (show 0 ≤ a1.toInt by omega), (show a1.toInt ≤ 9 by omega), ⟨x3, c4, (show 1 ≤ x3.toInt by omega), (show x3.toInt ≤ 10 by omega)⟩⟩)⟩ hw dX11_hasCorner_23
abbrev P_X7_cornerAcross_1 (ad : Nat → Nat) (cy : Nat → ClassId) (B : Int) (qr : Nat) (s1 : Int) (a1 : Int32) (a2 : Int32) (w0 : va_W) : Int32 → va_W → Prop := fun r u => TW ksC ad cy B qr s1 u ∧ FE ksC ([] : List (Nat × Nat × Nat)) w0 u ∧ ((0 ≤ r.toInt ∧ r.toInt ≤ 9))
set_option maxHeartbeats 4000000 in
set_option maxRecDepth 100000 in
theorem k_X7_cornerAcross_1 (l : Launch) (adK adV : Nat → Nat) (dC : Nat → ClassId) (dI : Nat → Nat → Nat) (cy : Nat → ClassId) (ad : Nat → Nat) (B : Int) (hB0 : 2147483648 ≤ B) (hB1 : B ≤ 1152921504606846976) (qr : Nat) (s1 : Int)  (a1 : Int32) (ra1 : 0 ≤ a1.toInt) (ta1 : a1.toInt ≤ 11) (a2 : Int32) (ra2 : 0 ≤ a2.toInt) (ta2 : a2.toInt ≤ 1) (w0 : va_W) (sz : Nat) (hT : TW ksC ad cy B qr s1 w0)  : Met l yX7_cornerAcross wsX7_cornerAcross ({ frames := 1, cells := 0, slots := 0, locals := 12 }) (va_Pc [.ref (ad 39), .int a1, .int a2] (wpreS adK adV dC dI cy sz w0)) (va_Qi (P_X7_cornerAcross_1 ad cy B qr s1 a1 a2 w0) (fun u : va_W => wpost dC dI cy (va_A w0 sz) u) (va_A w0 sz)) 0 0 (va_A w0 sz) := by
  refine Met.ofW (cc := cX7_cornerAcross) (maxL := 3) (ret := (some .int)) (by decide) rfl ?_
  intro p e s m args below meth c s₁ Bk hml hv
  obtain ⟨rfl, ⟨hsz, hP, hK, hD0⟩, hE, hSR⟩ := hv
  have hx := Bk.exec
  have hb := Bk.bytes
  have hr := Bk.returns
  have hlocks := Bk.notSynchronized
  have hC : CallFix p m c cX7_cornerAcross 3 s _ wsX7_cornerAcross RX7 := ⟨hx, hb, hml, findClass_of_methodNamed Bk.named, atoms_spec (ws := wsX7_cornerAcross) Bk.pre⟩
  subst hsz
  have hD := hD0.self (sz := s.heap.size)
  generalize hAe : va_A w0 s.heap.size = A at hD hE ⊢
  have hA : ∀ q : Nat, s.heap.size ≤ q → A q := fun q h => by rw [← hAe]; exact Or.inr h
  have hw : Wd dC dI A s.heap s.heap [] w0 := ⟨hP, hD, va_S.rf⟩
  have hF : FE ksC ([] : List (Nat × Nat × Nat)) w0 w0 := FE.rf
  have hl := lv_entry ([.ref (ad 39), .int a1, .int a2]) (n := 3) (Nat.le_of_ble_eq_true rfl)
  rw [lg_entry_eq]
  generalize (lg_sl ([.ref (ad 39), .int a1, .int a2]) ++ List.replicate (3 - (lg_sl ([.ref (ad 39), .int a1, .int a2])).length) Slot.unset).toArray = ls at hl ⊢
  have hl : lv_has ls 3 [(0, .ref (ad 39)), (1, .int a1), (2, .int a2)] := hl
  generalize hloc : ([] : List Loc) = locs at hw ⊢
  have hinX7 : ∀ w ∈ u_ws RX7 TX7 12, w ∈ wsX7_cornerAcross := fun _ h => List.mem_cons_of_mem _ (List.mem_append_right _ (h))
  refine lv_aload_n hx hb dX7_cornerAcross_0 rfl (lv_at hl 0 rfl) ?_
  refine tk_getO hC hK hw hT hinX7 kC_at39 (by decide) rfl 0 (by decide) (List.mem_of_getElem? (i := 1) rfl) rfl rfl dX7_cornerAcross_1 ?_
  refine lv_iconst (v := 2) hx hb dX7_cornerAcross_4 (by decide) ?_
  refine lv_iload_n hx hb dX7_cornerAcross_5 rfl (lv_at hl 1 rfl) ?_
  refine lv_imul hx hb dX7_cornerAcross_6 ?_
  refine lv_topi (fun x1 ex1 => ?_)
  have ex1 : x1.toInt = (2 : Int) * a1.toInt := by rw [ex1]; exact wk_mul (show (-2147483648) ≤ (2 : Int) * a1.toInt by omega) (show (2 : Int) * a1.toInt ≤ 2147483647 by omega)
  refine lv_iconst (v := 1) hx hb dX7_cornerAcross_7 (by decide) ?_
  refine lv_iadd hx hb dX7_cornerAcross_8 ?_
  refine lv_topi (fun x2 ex2 => ?_)
  have ex2 : x2.toInt = x1.toInt + (1 : Int) := by rw [ex2]; exact wk_add (show (-2147483648) ≤ x1.toInt + (1 : Int) by omega) (show x1.toInt + (1 : Int) ≤ 2147483647 by omega)
  refine lv_iload_n hx hb dX7_cornerAcross_9 rfl (lv_at hl 2 rfl) ?_
  refine lv_isub hx hb dX7_cornerAcross_10 ?_
  refine lv_topi (fun x3 ex3 => ?_)
  have ex3 : x3.toInt = x2.toInt - a2.toInt := by rw [ex3]; exact wk_sub (show (-2147483648) ≤ x2.toInt - a2.toInt by omega) (show x2.toInt - a2.toInt ≤ 2147483647 by omega)
  refine tk_iald hC hK hw hT kC_at40 rfl rfl (show 0 ≤ x3.toInt by omega) (show x3.toInt < 26 by omega) dX7_cornerAcross_11 (fun x4 c5 rx4 tx4 => ?_)
  exact tk_iret hC hr hlocks hK ⟨hT, hF, ⟨(show 0 ≤ x4.toInt by omega), (show x4.toInt ≤ 9 by omega)⟩⟩ hw dX7_cornerAcross_12
abbrev P_X0_spot_1 (ad : Nat → Nat) (cy : Nat → ClassId) (B : Int) (qr : Nat) (s1 : Int) (a0 : Int32) (a1 : Int32) (a2 : Int32) (w0 : va_W) : Int32 → va_W → Prop := fun r u => TW ksC ad cy B qr s1 u ∧ FE ksC ([] : List (Nat × Nat × Nat)) w0 u ∧ ((0 ≤ r.toInt ∧ r.toInt ≤ 399))
set_option maxHeartbeats 4000000 in
set_option maxRecDepth 100000 in
theorem k_X0_spot_1 (l : Launch) (adK adV : Nat → Nat) (dC : Nat → ClassId) (dI : Nat → Nat → Nat) (cy : Nat → ClassId) (ad : Nat → Nat) (B : Int) (hB0 : 2147483648 ≤ B) (hB1 : B ≤ 1152921504606846976) (qr : Nat) (s1 : Int)  (a0 : Int32) (ra0 : 0 ≤ a0.toInt) (ta0 : a0.toInt ≤ 3) (a1 : Int32) (ra1 : 0 ≤ a1.toInt) (ta1 : a1.toInt ≤ 9) (a2 : Int32) (ra2 : 0 ≤ a2.toInt) (ta2 : a2.toInt ≤ 9) (w0 : va_W) (sz : Nat) (hT : TW ksC ad cy B qr s1 w0)  : Met l yX0_spot wsX0_spot ({ frames := 1, cells := 0, slots := 0, locals := 12 }) (va_Pc [.int a0, .int a1, .int a2] (wpreS adK adV dC dI cy sz w0)) (va_Qi (P_X0_spot_1 ad cy B qr s1 a0 a1 a2 w0) (fun u : va_W => wpost dC dI cy (va_A w0 sz) u) (va_A w0 sz)) 0 0 (va_A w0 sz) := by
  refine Met.ofW (cc := cX0_spot) (maxL := 3) (ret := (some .int)) (by decide) rfl ?_
  intro p e s m args below meth c s₁ Bk hml hv
  obtain ⟨rfl, ⟨hsz, hP, hK, hD0⟩, hE, hSR⟩ := hv
  have hx := Bk.exec
  have hb := Bk.bytes
  have hr := Bk.returns
  have hlocks := Bk.notSynchronized
  have hC : CallFix p m c cX0_spot 3 s _ wsX0_spot RX0 := ⟨hx, hb, hml, findClass_of_methodNamed Bk.named, atoms_spec (ws := wsX0_spot) Bk.pre⟩
  subst hsz
  have hD := hD0.self (sz := s.heap.size)
  generalize hAe : va_A w0 s.heap.size = A at hD hE ⊢
  have hA : ∀ q : Nat, s.heap.size ≤ q → A q := fun q h => by rw [← hAe]; exact Or.inr h
  have hw : Wd dC dI A s.heap s.heap [] w0 := ⟨hP, hD, va_S.rf⟩
  have hF : FE ksC ([] : List (Nat × Nat × Nat)) w0 w0 := FE.rf
  have hl := lv_entry ([.int a0, .int a1, .int a2]) (n := 3) (Nat.le_of_ble_eq_true rfl)
  rw [lg_entry_eq]
  generalize (lg_sl ([.int a0, .int a1, .int a2]) ++ List.replicate (3 - (lg_sl ([.int a0, .int a1, .int a2])).length) Slot.unset).toArray = ls at hl ⊢
  have hl : lv_has ls 3 [(0, .int a0), (1, .int a1), (2, .int a2)] := hl
  generalize hloc : ([] : List Loc) = locs at hw ⊢
  refine lv_iload_n hx hb dX0_spot_0 rfl (lv_at hl 0 rfl) ?_
  refine lv_bipush (v := 100) hx hb dX0_spot_1 (by decide) ?_
  refine lv_imul hx hb dX0_spot_3 ?_
  refine lv_topi (fun x1 ex1 => ?_)
  have ex1 : x1.toInt = a0.toInt * (100 : Int) := by rw [ex1]; exact wk_mul (show (-2147483648) ≤ a0.toInt * (100 : Int) by omega) (show a0.toInt * (100 : Int) ≤ 2147483647 by omega)
  refine lv_iload_n hx hb dX0_spot_4 rfl (lv_at hl 1 rfl) ?_
  refine lv_bipush (v := 10) hx hb dX0_spot_5 (by decide) ?_
  refine lv_imul hx hb dX0_spot_7 ?_
  refine lv_topi (fun x2 ex2 => ?_)
  have ex2 : x2.toInt = a1.toInt * (10 : Int) := by rw [ex2]; exact wk_mul (show (-2147483648) ≤ a1.toInt * (10 : Int) by omega) (show a1.toInt * (10 : Int) ≤ 2147483647 by omega)
  refine lv_iadd hx hb dX0_spot_8 ?_
  refine lv_topi (fun x3 ex3 => ?_)
  have ex3 : x3.toInt = x1.toInt + x2.toInt := by rw [ex3]; exact wk_add (show (-2147483648) ≤ x1.toInt + x2.toInt by omega) (show x1.toInt + x2.toInt ≤ 2147483647 by omega)
  refine lv_iload_n hx hb dX0_spot_9 rfl (lv_at hl 2 rfl) ?_
  refine lv_iadd hx hb dX0_spot_10 ?_
  refine lv_topi (fun x4 ex4 => ?_)
  have ex4 : x4.toInt = x3.toInt + a2.toInt := by rw [ex4]; exact wk_add (show (-2147483648) ≤ x3.toInt + a2.toInt by omega) (show x3.toInt + a2.toInt ≤ 2147483647 by omega)
  exact tk_iret hC hr hlocks hK ⟨hT, hF, ⟨(show 0 ≤ x4.toInt by omega), (show x4.toInt ≤ 399 by omega)⟩⟩ hw dX0_spot_11
abbrev P_X0_signOf_1 (ad : Nat → Nat) (cy : Nat → ClassId) (B : Int) (qr : Nat) (s1 : Int) (a1 : Int32) (a2 : Int32) (w0 : va_W) : Int32 → va_W → Prop := fun r u => TW ksC ad cy B qr s1 u ∧ FE ksC ([] : List (Nat × Nat × Nat)) w0 u ∧ ((True))
set_option maxHeartbeats 4000000 in
set_option maxRecDepth 100000 in
theorem k_X0_signOf_1 (l : Launch) (adK adV : Nat → Nat) (dC : Nat → ClassId) (dI : Nat → Nat → Nat) (cy : Nat → ClassId) (ad : Nat → Nat) (B : Int) (hB0 : 2147483648 ≤ B) (hB1 : B ≤ 1152921504606846976) (qr : Nat) (s1 : Int)  (a1 : Int32) (ra1 : 0 ≤ a1.toInt) (ta1 : a1.toInt ≤ 3) (a2 : Int32) (ra2 : 0 ≤ a2.toInt) (ta2 : a2.toInt ≤ 11) (w0 : va_W) (sz : Nat) (hT : TW ksC ad cy B qr s1 w0)  : Met l yX0_signOf wsX0_signOf ({ frames := 1, cells := 0, slots := 0, locals := 12 }) (va_Pc [.ref (ad 145), .int a1, .int a2] (wpreS adK adV dC dI cy sz w0)) (va_Qi (P_X0_signOf_1 ad cy B qr s1 a1 a2 w0) (fun u : va_W => wpost dC dI cy (va_A w0 sz) u) (va_A w0 sz)) 0 0 (va_A w0 sz) := by
  refine Met.ofW (cc := cX0_signOf) (maxL := 3) (ret := (some .int)) (by decide) rfl ?_
  intro p e s m args below meth c s₁ Bk hml hv
  obtain ⟨rfl, ⟨hsz, hP, hK, hD0⟩, hE, hSR⟩ := hv
  have hx := Bk.exec
  have hb := Bk.bytes
  have hr := Bk.returns
  have hlocks := Bk.notSynchronized
  have hC : CallFix p m c cX0_signOf 3 s _ wsX0_signOf RX0 := ⟨hx, hb, hml, findClass_of_methodNamed Bk.named, atoms_spec (ws := wsX0_signOf) Bk.pre⟩
  subst hsz
  have hD := hD0.self (sz := s.heap.size)
  generalize hAe : va_A w0 s.heap.size = A at hD hE ⊢
  have hA : ∀ q : Nat, s.heap.size ≤ q → A q := fun q h => by rw [← hAe]; exact Or.inr h
  have hw : Wd dC dI A s.heap s.heap [] w0 := ⟨hP, hD, va_S.rf⟩
  have hF : FE ksC ([] : List (Nat × Nat × Nat)) w0 w0 := FE.rf
  have hl := lv_entry ([.ref (ad 145), .int a1, .int a2]) (n := 3) (Nat.le_of_ble_eq_true rfl)
  rw [lg_entry_eq]
  generalize (lg_sl ([.ref (ad 145), .int a1, .int a2]) ++ List.replicate (3 - (lg_sl ([.ref (ad 145), .int a1, .int a2])).length) Slot.unset).toArray = ls at hl ⊢
  have hl : lv_has ls 3 [(0, .ref (ad 145)), (1, .int a1), (2, .int a2)] := hl
  generalize hloc : ([] : List Loc) = locs at hw ⊢
  have hinX0 : ∀ w ∈ u_ws RX0 TX0 4, w ∈ wsX0_signOf := fun _ h => List.mem_cons_of_mem _ (List.mem_append_left _ (List.mem_append_left _ (List.mem_append_right _ (h))))
  have hinX5 : ∀ w ∈ u_ws RX5 TX5 14, w ∈ wsX0_signOf := fun _ h => List.mem_cons_of_mem _ (List.mem_append_left _ (List.mem_append_right _ (h)))
  refine lv_iload_n hx hb dX0_signOf_0 rfl (lv_at hl 1 rfl) ?_
  refine lv_iconst (v := 4) hx hb dX0_signOf_1 (by decide) ?_
  refine lv_icmp_ge (tgt := 20) hx hb dX0_signOf_2 (by decide) (fun c => absurd c (fun h => absurd (show (4 : Int) ≤ a1.toInt from wk_le.mp h) (by omega))) (fun _ => ?_)
  refine lv_aload_n hx hb dX0_signOf_5 rfl (lv_at hl 0 rfl) ?_
  refine tk_getA hC hK hw hT hinX0 kC_at145 (by decide) rfl 0 (by decide) (List.mem_of_getElem? (i := 1) rfl) rfl rfl dX0_signOf_6 ?_
  refine tk_getO hC hK hw hT hinX5 kC_at38 (by decide) rfl 1 (by decide) (List.mem_of_getElem? (i := 2) rfl) rfl rfl dX0_signOf_9 ?_
  refine lv_iload_n hx hb dX0_signOf_12 rfl (lv_at hl 1 rfl) ?_
  refine lv_bipush (v := 12) hx hb dX0_signOf_13 (by decide) ?_
  refine lv_imul hx hb dX0_signOf_15 ?_
  refine lv_topi (fun x1 ex1 => ?_)
  have ex1 : x1.toInt = a1.toInt * (12 : Int) := by rw [ex1]; exact wk_mul (show (-2147483648) ≤ a1.toInt * (12 : Int) by omega) (show a1.toInt * (12 : Int) ≤ 2147483647 by omega)
  refine lv_iload_n hx hb dX0_signOf_16 rfl (lv_at hl 2 rfl) ?_
  refine lv_iadd hx hb dX0_signOf_17 ?_
  refine lv_topi (fun x2 ex2 => ?_)
  have ex2 : x2.toInt = x1.toInt + a2.toInt := by rw [ex2]; exact wk_add (show (-2147483648) ≤ x1.toInt + a2.toInt by omega) (show x1.toInt + a2.toInt ≤ 2147483647 by omega)
  refine tk_iald hC hK hw hT kC_at48 rfl rfl (show 0 ≤ x2.toInt by omega) (show x2.toInt < 48 by omega) dX0_signOf_18 (fun x3 c4 rx3 tx3 => ?_)
  exact tk_iret hC hr hlocks hK ⟨hT, hF, trivial⟩ hw dX0_signOf_19
abbrev P_X0_drawStreets_1 (ad : Nat → Nat) (cy : Nat → ClassId) (B : Int) (qr : Nat) (s1 : Int) (a1 : Int32) (w0 : va_W) : va_W → Prop := fun u => TW ksC ad cy B qr s1 u ∧ FE ksC [(42, 0, 1100), (43, 0, 1100)] w0 u ∧ ((True))
set_option maxHeartbeats 4000000 in
set_option maxRecDepth 100000 in
theorem k_X0_drawStreets_1 (l : Launch) (adK adV : Nat → Nat) (dC : Nat → ClassId) (dI : Nat → Nat → Nat) (cy : Nat → ClassId) (ad : Nat → Nat) (B : Int) (hB0 : 2147483648 ≤ B) (hB1 : B ≤ 1152921504606846976) (qr : Nat) (s1 : Int)  (a1 : Int32) (ra1 : 0 ≤ a1.toInt) (ta1 : a1.toInt ≤ 3) (w0 : va_W) (sz : Nat) (hT : TW ksC ad cy B qr s1 w0)  : Met l yX0_drawStreets wsX0_drawStreets ({ frames := 2, cells := 0, slots := 0, locals := 34 }) (va_Pc [.ref (ad 145), .int a1] (wpreS adK adV dC dI cy sz w0)) (va_Qv (P_X0_drawStreets_1 ad cy B qr s1 a1 w0) (fun u : va_W => wpost dC dI cy (va_A w0 sz) u) (va_A w0 sz)) 0 0 (va_A w0 sz) := by
  refine Met.ofW (cc := cX0_drawStreets) (maxL := 7) (ret := none) (by decide) rfl ?_
  intro p e s m args below meth c s₁ Bk hml hv
  obtain ⟨rfl, ⟨hsz, hP, hK, hD0⟩, hE, hSR⟩ := hv
  have hx := Bk.exec
  have hb := Bk.bytes
  have hr := Bk.returns
  have hlocks := Bk.notSynchronized
  have hC : CallFix p m c cX0_drawStreets 7 s _ wsX0_drawStreets RX0 := ⟨hx, hb, hml, findClass_of_methodNamed Bk.named, atoms_spec (ws := wsX0_drawStreets) Bk.pre⟩
  subst hsz
  have hD := hD0.self (sz := s.heap.size)
  generalize hAe : va_A w0 s.heap.size = A at hD hE ⊢
  have hA : ∀ q : Nat, s.heap.size ≤ q → A q := fun q h => by rw [← hAe]; exact Or.inr h
  have hw : Wd dC dI A s.heap s.heap [] w0 := ⟨hP, hD, va_S.rf⟩
  have hF : FE ksC [(42, 0, 1100), (43, 0, 1100)] w0 w0 := FE.rf
  have hl := lv_entry ([.ref (ad 145), .int a1]) (n := 7) (Nat.le_of_ble_eq_true rfl)
  rw [lg_entry_eq]
  generalize (lg_sl ([.ref (ad 145), .int a1]) ++ List.replicate (7 - (lg_sl ([.ref (ad 145), .int a1])).length) Slot.unset).toArray = ls at hl ⊢
  have hl : lv_has ls 7 [(0, .ref (ad 145)), (1, .int a1)] := hl
  generalize hloc : ([] : List Loc) = locs at hw ⊢
  have hinX7 : ∀ w ∈ u_ws RX7 TX7 12, w ∈ wsX0_drawStreets := fun _ h => List.mem_cons_of_mem _ (List.mem_append_right _ (h))
  have hinX0 : ∀ w ∈ u_ws RX0 TX0 4, w ∈ wsX0_drawStreets := fun _ h => List.mem_cons_of_mem _ (List.mem_append_left _ (List.mem_append_left _ (List.mem_append_right _ (h))))
  have hinX5 : ∀ w ∈ u_ws RX5 TX5 14, w ∈ wsX0_drawStreets := fun _ h => List.mem_cons_of_mem _ (List.mem_append_left _ (List.mem_append_right _ (h)))
  have L72 : ∀ (n72 : Nat) (v72_3 : Int32) (H : Heap) (locs : List Loc) (ls : Array Slot) (w1 : va_W), 0 ≤ a1.toInt → a1.toInt ≤ 3 → 0 ≤ v72_3.toInt → v72_3.toInt ≤ 12 → (12 - v72_3.toInt).toNat < n72 → Wd dC dI A s.heap H locs w1 → TW ksC ad cy B qr s1 w1 → FE ksC [(42, 0, 1100), (43, 0, 1100)] w0 w1 → lv_has ls 7 [(0, .ref (ad 145)), (1, .int a1), (2, .ref (ad 39)), (3, .int v72_3)] → W p l e ({ frames := 2, cells := 0, slots := 0, locals := 34 }) s m (List.toArray [.ref (ad 145), .int a1]) below meth c H locs 0 0 (MQ below (va_Qv (P_X0_drawStreets_1 ad cy B qr s1 a1 w0) (fun u : va_W => wpost dC dI cy A u) A) (List.toArray [.ref (ad 145), .int a1]) s 0 0 A) (F0 m 72 ls []) := by
    intro n72
    induction n72 with
    | zero => intro v72_3 H locs ls w1 r2 t3 r4 t5 hm72 hw hT hF hl; omega
    | succ n72 ih72 =>
      intro v72_3 H locs ls w1 r2 t3 r4 t5 hm72 hw hT hF hl
      have L91 : ∀ (n91 : Nat) (v91_4 : Int32) (v91_5 : Int32) (f91_39_9 : Int32) (H : Heap) (locs : List Loc) (ls : Array Slot) (w6 : va_W), 0 ≤ a1.toInt → a1.toInt ≤ 3 → 0 ≤ v72_3.toInt → v72_3.toInt ≤ 11 → 0 ≤ v91_5.toInt → v91_5.toInt ≤ 2 → 1 ≤ f91_39_9.toInt → f91_39_9.toInt ≤ 12 → (2 - v91_5.toInt).toNat < n91 → Wd dC dI A s.heap H locs w6 → TW ksC ad cy B qr s1 w6 → FE ksC [(42, 0, 1100), (43, 0, 1100)] w0 w6 → gi w6 39 9 = f91_39_9 → lv_has ls 7 [(0, .ref (ad 145)), (1, .int a1), (2, .ref (ad 39)), (3, .int v72_3), (4, .int v91_4), (5, .int v91_5)] → W p l e ({ frames := 2, cells := 0, slots := 0, locals := 34 }) s m (List.toArray [.ref (ad 145), .int a1]) below meth c H locs 0 0 (MQ below (va_Qv (P_X0_drawStreets_1 ad cy B qr s1 a1 w0) (fun u : va_W => wpost dC dI cy A u) A) (List.toArray [.ref (ad 145), .int a1]) s 0 0 A) (F0 m 91 ls []) := by
        intro n91
        induction n91 with
        | zero => intro v91_4 v91_5 f91_39_9 H locs ls w6 r7 t8 r9 t10 r11 t12 r13 t14 hm91 hw hT hF c15 hl; omega
        | succ n91 ih91 =>
          intro v91_4 v91_5 f91_39_9 H locs ls w6 r7 t8 r9 t10 r11 t12 r13 t14 hm91 hw hT hF c15 hl
          have J158 : ∀ (v158_6 : Int32) (H : Heap) (locs : List Loc) (ls : Array Slot) (w16 : va_W), 0 ≤ a1.toInt → a1.toInt ≤ 3 → 0 ≤ v72_3.toInt → v72_3.toInt ≤ 11 → 0 ≤ v91_5.toInt → v91_5.toInt ≤ 1 → 0 ≤ v158_6.toInt → v158_6.toInt ≤ 399 → 1 ≤ f91_39_9.toInt → f91_39_9.toInt ≤ 12 → Wd dC dI A s.heap H locs w16 → TW ksC ad cy B qr s1 w16 → FE ksC [(42, 0, 1100), (43, 0, 1100)] w0 w16 → gi w16 39 9 = f91_39_9 → lv_has ls 7 [(0, .ref (ad 145)), (1, .int a1), (2, .ref (ad 39)), (3, .int v72_3), (4, .int v91_4), (5, .int v91_5), (6, .int v158_6)] → W p l e ({ frames := 2, cells := 0, slots := 0, locals := 34 }) s m (List.toArray [.ref (ad 145), .int a1]) below meth c H locs 0 0 (MQ below (va_Qv (P_X0_drawStreets_1 ad cy B qr s1 a1 w0) (fun u : va_W => wpost dC dI cy A u) A) (List.toArray [.ref (ad 145), .int a1]) s 0 0 A) (F0 m 158 ls []) := by
            intro v158_6 H locs ls w16 r17 t18 r19 t20 r21 t22 r23 t24 r25 t26 hw hT hF c27 hl
            obtain ⟨x28, ex28⟩ : ∃ y : Int32, y = v91_5 + Int32.ofInt 1 := ⟨_, rfl⟩
            refine lv_iinc (v := x28) (lv' := [(5, .int x28), (0, .ref (ad 145)), (1, .int a1), (2, .ref (ad 39)), (3, .int v72_3), (4, .int v91_4), (6, .int v158_6)]) hx hb dX0_drawStreets_158 hl (k := 5) rfl ex28.symm (by decide) rfl (fun ls hl => ?_)
            have ex28 : x28.toInt = v91_5.toInt + 1 := by rw [ex28]; exact wk_add (y := 1) (show -2147483648 ≤ v91_5.toInt + 1 by omega) (show v91_5.toInt + 1 ≤ 2147483647 by omega)
            refine lv_goto (tgt := 91) hx hb dX0_drawStreets_161 (by decide) ?_
            exact ih91 v91_4 x28 f91_39_9 H locs ls w16 (show 0 ≤ a1.toInt by omega) (show a1.toInt ≤ 3 by omega) (show 0 ≤ v72_3.toInt by omega) (show v72_3.toInt ≤ 11 by omega) (show 0 ≤ x28.toInt by omega) (show x28.toInt ≤ 2 by omega) (show 1 ≤ f91_39_9.toInt by omega) (show f91_39_9.toInt ≤ 12 by omega) (show (2 - x28.toInt).toNat < n91 by omega) hw hT hF c27 (lv_sub hl [1, 2, 3, 4, 5, 0] rfl)
          refine lv_iload hx hb dX0_drawStreets_91 (lv_at hl 5 rfl) ?_
          refine lv_iconst (v := 2) hx hb dX0_drawStreets_93 (by decide) ?_
          refine lv_icmp_ge (tgt := 164) hx hb dX0_drawStreets_94 (by decide) (fun c29 => ?_) (fun c29 => ?_)
          · have c29 : (2 : Int) ≤ v91_5.toInt := wk_le.mp c29
            obtain ⟨x30, ex30⟩ : ∃ y : Int32, y = v72_3 + Int32.ofInt 1 := ⟨_, rfl⟩
            refine lv_iinc (v := x30) (lv' := [(3, .int x30), (0, .ref (ad 145)), (1, .int a1), (2, .ref (ad 39)), (4, .int v91_4), (5, .int v91_5)]) hx hb dX0_drawStreets_164 hl (k := 3) rfl ex30.symm (by decide) rfl (fun ls hl => ?_)
            have ex30 : x30.toInt = v72_3.toInt + 1 := by rw [ex30]; exact wk_add (y := 1) (show -2147483648 ≤ v72_3.toInt + 1 by omega) (show v72_3.toInt + 1 ≤ 2147483647 by omega)
            refine lv_goto (tgt := 72) hx hb dX0_drawStreets_167 (by decide) ?_
            exact ih72 x30 H locs ls w6 (show 0 ≤ a1.toInt by omega) (show a1.toInt ≤ 3 by omega) (show 0 ≤ x30.toInt by omega) (show x30.toInt ≤ 12 by omega) (show (12 - x30.toInt).toNat < n72 by omega) hw hT hF  (lv_sub hl [1, 2, 3, 0] rfl)
          · have c29 : v91_5.toInt < (2 : Int) := wk_leF c29
            refine lv_iload_n hx hb dX0_drawStreets_97 rfl (lv_at hl 1 rfl) ?_
            refine lv_aload_n hx hb dX0_drawStreets_98 rfl (lv_at hl 2 rfl) ?_
            refine lv_iload_n hx hb dX0_drawStreets_99 rfl (lv_at hl 3 rfl) ?_
            refine lv_iconst (v := 1) hx hb dX0_drawStreets_100 (by decide) ?_
            refine lv_iload hx hb dX0_drawStreets_101 (lv_at hl 5 rfl) ?_
            refine lv_isub hx hb dX0_drawStreets_103 ?_
            refine lv_topi (fun x31 ex31 => ?_)
            have ex31 : x31.toInt = (1 : Int) - v91_5.toInt := by rw [ex31]; exact wk_sub (show (-2147483648) ≤ (1 : Int) - v91_5.toInt by omega) (show (1 : Int) - v91_5.toInt ≤ 2147483647 by omega)
            refine tk_Vi hC hK hw hT hA hE hSR kC_at39 (by decide) rfl (k_X7_cornerAcross_1 l adK adV dC dI cy ad B (by omega) (by omega) qr s1   v72_3 (show 0 ≤ v72_3.toInt by omega) (show v72_3.toInt ≤ 11 by omega) x31 (show 0 ≤ x31.toInt by omega) (show x31.toInt ≤ 1 by omega) w6 H.size hT ) (cwV 2 hC.2.2.2.2 gX0_drawStreets_X7_cornerAcross rfl rfl rfl (by decide +kernel) ⟨Nat.le_of_ble_eq_true rfl, Nat.le_of_ble_eq_true rfl⟩) rfl hl.1 rfl (Nat.le_of_ble_eq_true rfl) dX0_drawStreets_104 (fun r32 w34 H locs hp33 hw => ?_)
            obtain ⟨hT, k35, hg38⟩ := hp33
            have hF := hF.tr k35 (by decide)
            have c39 := k35.gi kC_at39 (by decide) c15
            obtain ⟨g36, g37⟩ := hg38
            refine lv_aload_n hx hb dX0_drawStreets_107 rfl (lv_at hl 2 rfl) ?_
            refine lv_iload_n hx hb dX0_drawStreets_108 rfl (lv_at hl 3 rfl) ?_
            refine lv_iload hx hb dX0_drawStreets_109 (lv_at hl 5 rfl) ?_
            refine tk_Vi hC hK hw hT hA hE hSR kC_at39 (by decide) rfl (k_X7_cornerAcross_1 l adK adV dC dI cy ad B (by omega) (by omega) qr s1   v72_3 (show 0 ≤ v72_3.toInt by omega) (show v72_3.toInt ≤ 11 by omega) v91_5 (show 0 ≤ v91_5.toInt by omega) (show v91_5.toInt ≤ 1 by omega) w34 H.size hT ) (cwV 2 hC.2.2.2.2 gX0_drawStreets_X7_cornerAcross rfl rfl rfl (by decide +kernel) ⟨Nat.le_of_ble_eq_true rfl, Nat.le_of_ble_eq_true rfl⟩) rfl hl.1 rfl (Nat.le_of_ble_eq_true rfl) dX0_drawStreets_111 (fun r40 w42 H locs hp41 hw => ?_)
            obtain ⟨hT, k43, hg46⟩ := hp41
            have hF := hF.tr k43 (by decide)
            have c47 := k43.gi kC_at39 (by decide) c39
            obtain ⟨g44, g45⟩ := hg46
            refine tk_Si hC hK hw hT hA hE hSR (k_X0_spot_1 l adK adV dC dI cy ad B (by omega) (by omega) qr s1   a1 (show 0 ≤ a1.toInt by omega) (show a1.toInt ≤ 3 by omega) r32 (show 0 ≤ r32.toInt by omega) (show r32.toInt ≤ 9 by omega) r40 (show 0 ≤ r40.toInt by omega) (show r40.toInt ≤ 9 by omega) w42 H.size hT ) (va_cwS 3 hC.2.2.2.2 gX0_drawStreets_X0_spot rfl rfl rfl (by decide +kernel) ⟨Nat.le_of_ble_eq_true rfl, Nat.le_of_ble_eq_true rfl⟩) rfl hl.1 rfl (Nat.le_of_ble_eq_true rfl) dX0_drawStreets_114 (fun r48 w50 H locs hp49 hw => ?_)
            obtain ⟨hT, k51, hg54⟩ := hp49
            have hF := hF.tr k51 (by decide)
            have c55 := k51.gi kC_at39 (by decide) c47
            obtain ⟨g52, g53⟩ := hg54
            refine lv_istore (lv' := [(6, .int r48), (0, .ref (ad 145)), (1, .int a1), (2, .ref (ad 39)), (3, .int v72_3), (4, .int v91_4), (5, .int v91_5)]) hx hb dX0_drawStreets_117 hl (by decide) rfl (fun ls hl => ?_)
            refine lv_iload hx hb dX0_drawStreets_119 (lv_at hl 5 rfl) ?_
            refine lv_iload hx hb dX0_drawStreets_121 (lv_at hl 6 rfl) ?_
            refine lv_ishr hx hb dX0_drawStreets_123 ?_
            refine lv_topi (fun x56 ex56 => ?_)
            refine lv_iconst (v := 1) hx hb dX0_drawStreets_124 (by decide) ?_
            refine lv_iand hx hb dX0_drawStreets_125 ?_
            refine lv_topi (fun x57 ex57 => ?_)
            have bx57 : 0 ≤ x57.toInt ∧ x57.toInt ≤ (1 : Int) := by rw [ex57]; exact wk_and (by decide)
            refine lv_if_eq (tgt := 158) hx hb dX0_drawStreets_126 (by decide) (fun c58 => ?_) (fun c58 => ?_)
            · have c58 : x57.toInt = (0 : Int) := wk_eq.mp c58
              exact J158 r48 H locs ls w50 (show 0 ≤ a1.toInt by omega) (show a1.toInt ≤ 3 by omega) (show 0 ≤ v72_3.toInt by omega) (show v72_3.toInt ≤ 11 by omega) (show 0 ≤ v91_5.toInt by omega) (show v91_5.toInt ≤ 1 by omega) (show 0 ≤ r48.toInt by omega) (show r48.toInt ≤ 399 by omega) (show 1 ≤ f91_39_9.toInt by omega) (show f91_39_9.toInt ≤ 12 by omega)  hw hT hF c55 (lv_sub hl [1, 2, 3, 4, 5, 6, 0] rfl)
            · have c58 : ¬ x57.toInt = (0 : Int) := wk_eqF c58
              refine lv_aload_n hx hb dX0_drawStreets_129 rfl (lv_at hl 3 rfl) ?_
              refine tk_getO hC hK hw hT hinX7 kC_at39 (by decide) rfl 1 (by decide) (List.mem_of_getElem? (i := 7) rfl) rfl rfl dX0_drawStreets_130 ?_
              refine lv_iload_n hx hb dX0_drawStreets_133 rfl (lv_at hl 4 rfl) ?_
              refine tk_iald hC hK hw hT kC_at41 rfl rfl (show 0 ≤ v72_3.toInt by omega) (show v72_3.toInt < 13 by omega) dX0_drawStreets_134 (fun x59 c60 rx59 tx59 => ?_)
              refine lv_aload_n hx hb dX0_drawStreets_135 rfl (lv_at hl 1 rfl) ?_
              refine tk_getA hC hK hw hT hinX0 kC_at145 (by decide) rfl 1 (by decide) (List.mem_of_getElem? (i := 1) rfl) rfl rfl dX0_drawStreets_136 ?_
              refine lv_iload hx hb dX0_drawStreets_139 (lv_at hl 0 rfl) ?_
              refine tk_iald hC hK hw hT kC_at146 rfl rfl (show 0 ≤ r48.toInt by omega) (show r48.toInt < 1100 by omega) dX0_drawStreets_141 (fun x61 c62 rx61 tx61 => ?_)
              refine lv_icmp_ge (tgt := 158) hx hb dX0_drawStreets_142 (by decide) (fun c63 => ?_) (fun c63 => ?_)
              · have c63 : x61.toInt ≤ x59.toInt := wk_le.mp c63
                exact J158 r48 H locs ls w50 (show 0 ≤ a1.toInt by omega) (show a1.toInt ≤ 3 by omega) (show 0 ≤ v72_3.toInt by omega) (show v72_3.toInt ≤ 11 by omega) (show 0 ≤ v91_5.toInt by omega) (show v91_5.toInt ≤ 1 by omega) (show 0 ≤ r48.toInt by omega) (show r48.toInt ≤ 399 by omega) (show 1 ≤ f91_39_9.toInt by omega) (show f91_39_9.toInt ≤ 12 by omega)  hw hT hF c55 (lv_sub hl [1, 2, 3, 4, 5, 6, 0] rfl)
              · have c63 : x59.toInt < x61.toInt := wk_leF c63
                refine lv_aload_n hx hb dX0_drawStreets_145 rfl (lv_at hl 1 rfl) ?_
                refine tk_getA hC hK hw hT hinX0 kC_at145 (by decide) rfl 1 (by decide) (List.mem_of_getElem? (i := 1) rfl) rfl rfl dX0_drawStreets_146 ?_
                refine lv_iload hx hb dX0_drawStreets_149 (lv_at hl 0 rfl) ?_
                refine lv_aload_n hx hb dX0_drawStreets_151 rfl (lv_at hl 3 rfl) ?_
                refine tk_getO hC hK hw hT hinX7 kC_at39 (by decide) rfl 1 (by decide) (List.mem_of_getElem? (i := 7) rfl) rfl rfl dX0_drawStreets_152 ?_
                refine lv_iload_n hx hb dX0_drawStreets_155 rfl (lv_at hl 4 rfl) ?_
                refine tk_iald hC hK hw hT kC_at41 rfl rfl (show 0 ≤ v72_3.toInt by omega) (show v72_3.toInt < 13 by omega) dX0_drawStreets_156 (fun x64 c65 rx64 tx64 => ?_)
                refine tk_iast hC hK hw hT kC_at146 (by decide) rfl rfl (show 0 ≤ r48.toInt by omega) (show r48.toInt < 1100 by omega) (show 0 ≤ x64.toInt by omega) (show x64.toInt ≤ 1000000 by omega) dX0_drawStreets_157 (fun H locs w66 hw hT k68 c67 => ?_)
                have hF := hF.put kC_at146 (inE_of (a := 0) (b := 1100) (by decide) (show 0 ≤ r48.toInt.toNat by omega) (show r48.toInt.toNat ≤ 1100 by omega)) k68
                have c69 := k68.gi (Or.inl (tk_ne kC_at39 kC_at146 (by decide))) c55
                exact J158 r48 H locs ls w66 (show 0 ≤ a1.toInt by omega) (show a1.toInt ≤ 3 by omega) (show 0 ≤ v72_3.toInt by omega) (show v72_3.toInt ≤ 11 by omega) (show 0 ≤ v91_5.toInt by omega) (show v91_5.toInt ≤ 1 by omega) (show 0 ≤ r48.toInt by omega) (show r48.toInt ≤ 399 by omega) (show 1 ≤ f91_39_9.toInt by omega) (show f91_39_9.toInt ≤ 12 by omega)  hw hT hF c69 (lv_sub hl [1, 2, 3, 4, 5, 6, 0] rfl)
      refine lv_iload_n hx hb dX0_drawStreets_72 rfl (lv_at hl 3 rfl) ?_
      refine lv_aload_n hx hb dX0_drawStreets_73 rfl (lv_at hl 2 rfl) ?_
      refine tk_geti hC hK hw hT hinX7 kC_at39 (by decide) rfl 9 (by decide) (List.mem_of_getElem? (i := 6) rfl) rfl rfl dX0_drawStreets_74 (fun x70 c71 rx70 tx70 => ?_)
      refine lv_icmp_ge (tgt := 170) hx hb dX0_drawStreets_77 (by decide) (fun c72 => ?_) (fun c72 => ?_)
      · have c72 : x70.toInt ≤ v72_3.toInt := wk_le.mp c72
        exact tk_vret hC hr hlocks hK ⟨hT, hF, trivial⟩ hw dX0_drawStreets_170
      · have c72 : v72_3.toInt < x70.toInt := wk_leF c72
        refine lv_aload_n hx hb dX0_drawStreets_80 rfl (lv_at hl 0 rfl) ?_
        refine lv_iload_n hx hb dX0_drawStreets_81 rfl (lv_at hl 1 rfl) ?_
        refine lv_iload_n hx hb dX0_drawStreets_82 rfl (lv_at hl 3 rfl) ?_
        refine tk_Vi hC hK hw hT hA hE hSR kC_at145 (by decide) rfl (k_X0_signOf_1 l adK adV dC dI cy ad B (by omega) (by omega) qr s1   a1 (show 0 ≤ a1.toInt by omega) (show a1.toInt ≤ 3 by omega) v72_3 (show 0 ≤ v72_3.toInt by omega) (show v72_3.toInt ≤ 11 by omega) w1 H.size hT ) (cwV 2 hC.2.2.2.2 gX0_drawStreets_X0_signOf rfl rfl rfl (by decide +kernel) ⟨Nat.le_of_ble_eq_true rfl, Nat.le_of_ble_eq_true rfl⟩) rfl hl.1 rfl (Nat.le_of_ble_eq_true rfl) dX0_drawStreets_83 (fun r73 w75 H locs hp74 hw => ?_)
        obtain ⟨hT, k76, hg77⟩ := hp74
        have hF := hF.tr k76 (by decide)
        have c78 := k76.gi kC_at39 (by decide) c71
        clear hg77
        refine lv_istore (lv' := [(4, .int r73), (0, .ref (ad 145)), (1, .int a1), (2, .ref (ad 39)), (3, .int v72_3)]) hx hb dX0_drawStreets_86 hl (by decide) rfl (fun ls hl => ?_)
        refine lv_iconst (v := 0) hx hb dX0_drawStreets_88 (by decide) ?_
        refine lv_istore (lv' := [(5, .int 0), (4, .int r73), (0, .ref (ad 145)), (1, .int a1), (2, .ref (ad 39)), (3, .int v72_3)]) hx hb dX0_drawStreets_89 hl (by decide) rfl (fun ls hl => ?_)
        exact L91 ((2 - (0 : Int)).toNat + 1) r73 0 x70 H locs ls w75 (show 0 ≤ a1.toInt by omega) (show a1.toInt ≤ 3 by omega) (show 0 ≤ v72_3.toInt by omega) (show v72_3.toInt ≤ 11 by omega) (by decide) (by decide) (show 1 ≤ x70.toInt by omega) (show x70.toInt ≤ 12 by omega) (Nat.lt_succ_self _) hw hT hF c78 (lv_sub hl [2, 3, 4, 5, 1, 0] rfl)
  have L2 : ∀ (n2 : Nat) (v2_2 : Int32) (H : Heap) (locs : List Loc) (ls : Array Slot) (w79 : va_W), 0 ≤ a1.toInt → a1.toInt ≤ 3 → 0 ≤ v2_2.toInt → v2_2.toInt ≤ 10 → (10 - v2_2.toInt).toNat < n2 → Wd dC dI A s.heap H locs w79 → TW ksC ad cy B qr s1 w79 → FE ksC [(42, 0, 1100), (43, 0, 1100)] w0 w79 → lv_has ls 7 [(0, .ref (ad 145)), (1, .int a1), (2, .int v2_2)] → W p l e ({ frames := 2, cells := 0, slots := 0, locals := 34 }) s m (List.toArray [.ref (ad 145), .int a1]) below meth c H locs 0 0 (MQ below (va_Qv (P_X0_drawStreets_1 ad cy B qr s1 a1 w0) (fun u : va_W => wpost dC dI cy A u) A) (List.toArray [.ref (ad 145), .int a1]) s 0 0 A) (F0 m 2 ls []) := by
    intro n2
    induction n2 with
    | zero => intro v2_2 H locs ls w79 r80 t81 r82 t83 hm2 hw hT hF hl; omega
    | succ n2 ih2 =>
      intro v2_2 H locs ls w79 r80 t81 r82 t83 hm2 hw hT hF hl
      have L10 : ∀ (n10 : Nat) (v10_3 : Int32) (H : Heap) (locs : List Loc) (ls : Array Slot) (w84 : va_W), 0 ≤ a1.toInt → a1.toInt ≤ 3 → 0 ≤ v2_2.toInt → v2_2.toInt ≤ 9 → 0 ≤ v10_3.toInt → v10_3.toInt ≤ 10 → (10 - v10_3.toInt).toNat < n10 → Wd dC dI A s.heap H locs w84 → TW ksC ad cy B qr s1 w84 → FE ksC [(42, 0, 1100), (43, 0, 1100)] w0 w84 → lv_has ls 7 [(0, .ref (ad 145)), (1, .int a1), (2, .int v2_2), (3, .int v10_3)] → W p l e ({ frames := 2, cells := 0, slots := 0, locals := 34 }) s m (List.toArray [.ref (ad 145), .int a1]) below meth c H locs 0 0 (MQ below (va_Qv (P_X0_drawStreets_1 ad cy B qr s1 a1 w0) (fun u : va_W => wpost dC dI cy A u) A) (List.toArray [.ref (ad 145), .int a1]) s 0 0 A) (F0 m 10 ls []) := by
        intro n10
        induction n10 with
        | zero => intro v10_3 H locs ls w84 r85 t86 r87 t88 r89 t90 hm10 hw hT hF hl; omega
        | succ n10 ih10 =>
          intro v10_3 H locs ls w84 r85 t86 r87 t88 r89 t90 hm10 hw hT hF hl
          refine lv_iload_n hx hb dX0_drawStreets_10 rfl (lv_at hl 3 rfl) ?_
          refine lv_bipush (v := 10) hx hb dX0_drawStreets_11 (by decide) ?_
          refine lv_icmp_ge (tgt := 56) hx hb dX0_drawStreets_13 (by decide) (fun c91 => ?_) (fun c91 => ?_)
          · have c91 : (10 : Int) ≤ v10_3.toInt := wk_le.mp c91
            obtain ⟨x92, ex92⟩ : ∃ y : Int32, y = v2_2 + Int32.ofInt 1 := ⟨_, rfl⟩
            refine lv_iinc (v := x92) (lv' := [(2, .int x92), (0, .ref (ad 145)), (1, .int a1), (3, .int v10_3)]) hx hb dX0_drawStreets_56 hl (k := 2) rfl ex92.symm (by decide) rfl (fun ls hl => ?_)
            have ex92 : x92.toInt = v2_2.toInt + 1 := by rw [ex92]; exact wk_add (y := 1) (show -2147483648 ≤ v2_2.toInt + 1 by omega) (show v2_2.toInt + 1 ≤ 2147483647 by omega)
            refine lv_goto (tgt := 2) hx hb dX0_drawStreets_59 (by decide) ?_
            exact ih2 x92 H locs ls w84 (show 0 ≤ a1.toInt by omega) (show a1.toInt ≤ 3 by omega) (show 0 ≤ x92.toInt by omega) (show x92.toInt ≤ 10 by omega) (show (10 - x92.toInt).toNat < n2 by omega) hw hT hF  (lv_sub hl [1, 2, 0] rfl)
          · have c91 : v10_3.toInt < (10 : Int) := wk_leF c91
            refine lv_aload_n hx hb dX0_drawStreets_16 rfl (lv_at hl 0 rfl) ?_
            refine tk_getA hC hK hw hT hinX0 kC_at145 (by decide) rfl 1 (by decide) (List.mem_of_getElem? (i := 1) rfl) rfl rfl dX0_drawStreets_17 ?_
            refine lv_iload_n hx hb dX0_drawStreets_20 rfl (lv_at hl 1 rfl) ?_
            refine lv_iload_n hx hb dX0_drawStreets_21 rfl (lv_at hl 2 rfl) ?_
            refine lv_iload_n hx hb dX0_drawStreets_22 rfl (lv_at hl 3 rfl) ?_
            refine tk_Si hC hK hw hT hA hE hSR (k_X0_spot_1 l adK adV dC dI cy ad B (by omega) (by omega) qr s1   a1 (show 0 ≤ a1.toInt by omega) (show a1.toInt ≤ 3 by omega) v2_2 (show 0 ≤ v2_2.toInt by omega) (show v2_2.toInt ≤ 9 by omega) v10_3 (show 0 ≤ v10_3.toInt by omega) (show v10_3.toInt ≤ 9 by omega) w84 H.size hT ) (va_cwS 3 hC.2.2.2.2 gX0_drawStreets_X0_spot rfl rfl rfl (by decide +kernel) ⟨Nat.le_of_ble_eq_true rfl, Nat.le_of_ble_eq_true rfl⟩) rfl hl.1 rfl (Nat.le_of_ble_eq_true rfl) dX0_drawStreets_23 (fun r93 w95 H locs hp94 hw => ?_)
            obtain ⟨hT, k96, hg99⟩ := hp94
            have hF := hF.tr k96 (by decide)
            obtain ⟨g97, g98⟩ := hg99
            refine lv_iload_n hx hb dX0_drawStreets_26 rfl (lv_at hl 2 rfl) ?_
            refine lv_iload_n hx hb dX0_drawStreets_27 rfl (lv_at hl 3 rfl) ?_
            refine lv_icmp_ne (tgt := 35) hx hb dX0_drawStreets_28 (by decide) (fun c100 => ?_) (fun c100 => ?_)
            · have c100 : ¬ v2_2.toInt = v10_3.toInt := wk_eqF c100
              refine lv_ldc (v := 1000000) hx hb hC.2.2.2.1 (hC.2.2.2.2 _ (List.mem_of_getElem? (i := 2) rfl)) dX0_drawStreets_35 ?_
              refine tk_iast hC hK hw hT kC_at146 (by decide) rfl rfl (show 0 ≤ r93.toInt by omega) (show r93.toInt < 1100 by omega) (by decide) (by decide) dX0_drawStreets_37 (fun H locs w101 hw hT k103 c102 => ?_)
              have hF := hF.put kC_at146 (inE_of (a := 0) (b := 1100) (by decide) (show 0 ≤ r93.toInt.toNat by omega) (show r93.toInt.toNat ≤ 1100 by omega)) k103
              refine lv_aload_n hx hb dX0_drawStreets_38 rfl (lv_at hl 0 rfl) ?_
              refine tk_getA hC hK hw hT hinX0 kC_at145 (by decide) rfl 2 (by decide) (List.mem_of_getElem? (i := 3) rfl) rfl rfl dX0_drawStreets_39 ?_
              refine lv_iload_n hx hb dX0_drawStreets_42 rfl (lv_at hl 1 rfl) ?_
              refine lv_iload_n hx hb dX0_drawStreets_43 rfl (lv_at hl 2 rfl) ?_
              refine lv_iload_n hx hb dX0_drawStreets_44 rfl (lv_at hl 3 rfl) ?_
              refine tk_Si hC hK hw hT hA hE hSR (k_X0_spot_1 l adK adV dC dI cy ad B (by omega) (by omega) qr s1   a1 (show 0 ≤ a1.toInt by omega) (show a1.toInt ≤ 3 by omega) v2_2 (show 0 ≤ v2_2.toInt by omega) (show v2_2.toInt ≤ 9 by omega) v10_3 (show 0 ≤ v10_3.toInt by omega) (show v10_3.toInt ≤ 9 by omega) w101 H.size hT ) (va_cwS 3 hC.2.2.2.2 gX0_drawStreets_X0_spot rfl rfl rfl (by decide +kernel) ⟨Nat.le_of_ble_eq_true rfl, Nat.le_of_ble_eq_true rfl⟩) rfl hl.1 rfl (Nat.le_of_ble_eq_true rfl) dX0_drawStreets_45 (fun r104 w106 H locs hp105 hw => ?_)
              obtain ⟨hT, k107, hg110⟩ := hp105
              have hF := hF.tr k107 (by decide)
              obtain ⟨g108, g109⟩ := hg110
              refine lv_iconst (v := (-1)) hx hb dX0_drawStreets_48 (by decide) ?_
              refine tk_iast hC hK hw hT kC_at147 (by decide) rfl rfl (show 0 ≤ r104.toInt by omega) (show r104.toInt < 1100 by omega) (by decide) (by decide) dX0_drawStreets_49 (fun H locs w111 hw hT k113 c112 => ?_)
              have hF := hF.put kC_at147 (inE_of (a := 0) (b := 1100) (by decide) (show 0 ≤ r104.toInt.toNat by omega) (show r104.toInt.toNat ≤ 1100 by omega)) k113
              obtain ⟨x114, ex114⟩ : ∃ y : Int32, y = v10_3 + Int32.ofInt 1 := ⟨_, rfl⟩
              refine lv_iinc (v := x114) (lv' := [(3, .int x114), (0, .ref (ad 145)), (1, .int a1), (2, .int v2_2)]) hx hb dX0_drawStreets_50 hl (k := 3) rfl ex114.symm (by decide) rfl (fun ls hl => ?_)
              have ex114 : x114.toInt = v10_3.toInt + 1 := by rw [ex114]; exact wk_add (y := 1) (show -2147483648 ≤ v10_3.toInt + 1 by omega) (show v10_3.toInt + 1 ≤ 2147483647 by omega)
              refine lv_goto (tgt := 10) hx hb dX0_drawStreets_53 (by decide) ?_
              exact ih10 x114 H locs ls w111 (show 0 ≤ a1.toInt by omega) (show a1.toInt ≤ 3 by omega) (show 0 ≤ v2_2.toInt by omega) (show v2_2.toInt ≤ 9 by omega) (show 0 ≤ x114.toInt by omega) (show x114.toInt ≤ 10 by omega) (show (10 - x114.toInt).toNat < n10 by omega) hw hT hF  (lv_sub hl [1, 2, 3, 0] rfl)
            · have c100 : v2_2.toInt = v10_3.toInt := wk_eq.mp c100
              refine lv_iconst (v := 0) hx hb dX0_drawStreets_31 (by decide) ?_
              refine lv_goto (tgt := 37) hx hb dX0_drawStreets_32 (by decide) ?_
              refine tk_iast hC hK hw hT kC_at146 (by decide) rfl rfl (show 0 ≤ r93.toInt by omega) (show r93.toInt < 1100 by omega) (by decide) (by decide) dX0_drawStreets_37 (fun H locs w115 hw hT k117 c116 => ?_)
              have hF := hF.put kC_at146 (inE_of (a := 0) (b := 1100) (by decide) (show 0 ≤ r93.toInt.toNat by omega) (show r93.toInt.toNat ≤ 1100 by omega)) k117
              refine lv_aload_n hx hb dX0_drawStreets_38 rfl (lv_at hl 0 rfl) ?_
              refine tk_getA hC hK hw hT hinX0 kC_at145 (by decide) rfl 2 (by decide) (List.mem_of_getElem? (i := 3) rfl) rfl rfl dX0_drawStreets_39 ?_
              refine lv_iload_n hx hb dX0_drawStreets_42 rfl (lv_at hl 1 rfl) ?_
              refine lv_iload_n hx hb dX0_drawStreets_43 rfl (lv_at hl 2 rfl) ?_
              refine lv_iload_n hx hb dX0_drawStreets_44 rfl (lv_at hl 3 rfl) ?_
              refine tk_Si hC hK hw hT hA hE hSR (k_X0_spot_1 l adK adV dC dI cy ad B (by omega) (by omega) qr s1   a1 (show 0 ≤ a1.toInt by omega) (show a1.toInt ≤ 3 by omega) v2_2 (show 0 ≤ v2_2.toInt by omega) (show v2_2.toInt ≤ 9 by omega) v10_3 (show 0 ≤ v10_3.toInt by omega) (show v10_3.toInt ≤ 9 by omega) w115 H.size hT ) (va_cwS 3 hC.2.2.2.2 gX0_drawStreets_X0_spot rfl rfl rfl (by decide +kernel) ⟨Nat.le_of_ble_eq_true rfl, Nat.le_of_ble_eq_true rfl⟩) rfl hl.1 rfl (Nat.le_of_ble_eq_true rfl) dX0_drawStreets_45 (fun r118 w120 H locs hp119 hw => ?_)
              obtain ⟨hT, k121, hg124⟩ := hp119
              have hF := hF.tr k121 (by decide)
              obtain ⟨g122, g123⟩ := hg124
              refine lv_iconst (v := (-1)) hx hb dX0_drawStreets_48 (by decide) ?_
              refine tk_iast hC hK hw hT kC_at147 (by decide) rfl rfl (show 0 ≤ r118.toInt by omega) (show r118.toInt < 1100 by omega) (by decide) (by decide) dX0_drawStreets_49 (fun H locs w125 hw hT k127 c126 => ?_)
              have hF := hF.put kC_at147 (inE_of (a := 0) (b := 1100) (by decide) (show 0 ≤ r118.toInt.toNat by omega) (show r118.toInt.toNat ≤ 1100 by omega)) k127
              obtain ⟨x128, ex128⟩ : ∃ y : Int32, y = v10_3 + Int32.ofInt 1 := ⟨_, rfl⟩
              refine lv_iinc (v := x128) (lv' := [(3, .int x128), (0, .ref (ad 145)), (1, .int a1), (2, .int v2_2)]) hx hb dX0_drawStreets_50 hl (k := 3) rfl ex128.symm (by decide) rfl (fun ls hl => ?_)
              have ex128 : x128.toInt = v10_3.toInt + 1 := by rw [ex128]; exact wk_add (y := 1) (show -2147483648 ≤ v10_3.toInt + 1 by omega) (show v10_3.toInt + 1 ≤ 2147483647 by omega)
              refine lv_goto (tgt := 10) hx hb dX0_drawStreets_53 (by decide) ?_
              exact ih10 x128 H locs ls w125 (show 0 ≤ a1.toInt by omega) (show a1.toInt ≤ 3 by omega) (show 0 ≤ v2_2.toInt by omega) (show v2_2.toInt ≤ 9 by omega) (show 0 ≤ x128.toInt by omega) (show x128.toInt ≤ 10 by omega) (show (10 - x128.toInt).toNat < n10 by omega) hw hT hF  (lv_sub hl [1, 2, 3, 0] rfl)
      refine lv_iload_n hx hb dX0_drawStreets_2 rfl (lv_at hl 2 rfl) ?_
      refine lv_bipush (v := 10) hx hb dX0_drawStreets_3 (by decide) ?_
      refine lv_icmp_ge (tgt := 62) hx hb dX0_drawStreets_5 (by decide) (fun c129 => ?_) (fun c129 => ?_)
      · have c129 : (10 : Int) ≤ v2_2.toInt := wk_le.mp c129
        refine lv_aload_n hx hb dX0_drawStreets_62 rfl (lv_at hl 0 rfl) ?_
        refine tk_getA hC hK hw hT hinX0 kC_at145 (by decide) rfl 0 (by decide) (List.mem_of_getElem? (i := 4) rfl) rfl rfl dX0_drawStreets_63 ?_
        refine tk_getO hC hK hw hT hinX5 kC_at38 (by decide) rfl 0 (by decide) (List.mem_of_getElem? (i := 5) rfl) rfl rfl dX0_drawStreets_66 ?_
        refine lv_astore_n (lv' := [(2, .ref (ad 39)), (0, .ref (ad 145)), (1, .int a1)]) hx hb dX0_drawStreets_69 rfl hl (by decide) rfl (fun ls hl => ?_)
        refine lv_iconst (v := 0) hx hb dX0_drawStreets_70 (by decide) ?_
        refine lv_istore_n (lv' := [(3, .int 0), (2, .ref (ad 39)), (0, .ref (ad 145)), (1, .int a1)]) hx hb dX0_drawStreets_71 rfl hl (by decide) rfl (fun ls hl => ?_)
        exact L72 ((12 - (0 : Int)).toNat + 1) 0 H locs ls w79 (show 0 ≤ a1.toInt by omega) (show a1.toInt ≤ 3 by omega) (by decide) (by decide) (Nat.lt_succ_self _) hw hT hF  (lv_sub hl [2, 3, 1, 0] rfl)
      · have c129 : v2_2.toInt < (10 : Int) := wk_leF c129
        refine lv_iconst (v := 0) hx hb dX0_drawStreets_8 (by decide) ?_
        refine lv_istore_n (lv' := [(3, .int 0), (0, .ref (ad 145)), (1, .int a1), (2, .int v2_2)]) hx hb dX0_drawStreets_9 rfl hl (by decide) rfl (fun ls hl => ?_)
        exact L10 ((10 - (0 : Int)).toNat + 1) 0 H locs ls w79 (show 0 ≤ a1.toInt by omega) (show a1.toInt ≤ 3 by omega) (show 0 ≤ v2_2.toInt by omega) (show v2_2.toInt ≤ 9 by omega) (by decide) (by decide) (Nat.lt_succ_self _) hw hT hF  (lv_sub hl [1, 2, 3, 0] rfl)
  refine lv_iconst (v := 0) hx hb dX0_drawStreets_0 (by decide) ?_
  refine lv_istore_n (lv' := [(2, .int 0), (0, .ref (ad 145)), (1, .int a1)]) hx hb dX0_drawStreets_1 rfl hl (by decide) rfl (fun ls hl => ?_)
  exact L2 ((10 - (0 : Int)).toNat + 1) 0 s.heap locs ls w0 (show 0 ≤ a1.toInt by omega) (show a1.toInt ≤ 3 by omega) (by decide) (by decide) (Nat.lt_succ_self _) hw hT hF  (lv_sub hl [1, 2, 0] rfl)
abbrev P_X0_drawHours_1 (ad : Nat → Nat) (cy : Nat → ClassId) (B : Int) (qr : Nat) (s1 : Int) (a1 : Int32) (w0 : va_W) : va_W → Prop := fun u => TW ksC ad cy B qr s1 u ∧ FE ksC [(42, 0, 1100)] w0 u ∧ ((True))
set_option maxHeartbeats 4000000 in
set_option maxRecDepth 100000 in
theorem k_X0_drawHours_1 (l : Launch) (adK adV : Nat → Nat) (dC : Nat → ClassId) (dI : Nat → Nat → Nat) (cy : Nat → ClassId) (ad : Nat → Nat) (B : Int) (hB0 : 2147483648 ≤ B) (hB1 : B ≤ 1152921504606846976) (qr : Nat) (s1 : Int)  (a1 : Int32) (ra1 : 0 ≤ a1.toInt) (ta1 : a1.toInt ≤ 3) (w0 : va_W) (sz : Nat) (hT : TW ksC ad cy B qr s1 w0)  : Met l yX0_drawHours wsX0_drawHours ({ frames := 2, cells := 0, slots := 0, locals := 34 }) (va_Pc [.ref (ad 145), .int a1] (wpreS adK adV dC dI cy sz w0)) (va_Qv (P_X0_drawHours_1 ad cy B qr s1 a1 w0) (fun u : va_W => wpost dC dI cy (va_A w0 sz) u) (va_A w0 sz)) 0 0 (va_A w0 sz) := by
  refine Met.ofW (cc := cX0_drawHours) (maxL := 9) (ret := none) (by decide) rfl ?_
  intro p e s m args below meth c s₁ Bk hml hv
  obtain ⟨rfl, ⟨hsz, hP, hK, hD0⟩, hE, hSR⟩ := hv
  have hx := Bk.exec
  have hb := Bk.bytes
  have hr := Bk.returns
  have hlocks := Bk.notSynchronized
  have hC : CallFix p m c cX0_drawHours 9 s _ wsX0_drawHours RX0 := ⟨hx, hb, hml, findClass_of_methodNamed Bk.named, atoms_spec (ws := wsX0_drawHours) Bk.pre⟩
  subst hsz
  have hD := hD0.self (sz := s.heap.size)
  generalize hAe : va_A w0 s.heap.size = A at hD hE ⊢
  have hA : ∀ q : Nat, s.heap.size ≤ q → A q := fun q h => by rw [← hAe]; exact Or.inr h
  have hw : Wd dC dI A s.heap s.heap [] w0 := ⟨hP, hD, va_S.rf⟩
  have hF : FE ksC [(42, 0, 1100)] w0 w0 := FE.rf
  have hl := lv_entry ([.ref (ad 145), .int a1]) (n := 9) (Nat.le_of_ble_eq_true rfl)
  rw [lg_entry_eq]
  generalize (lg_sl ([.ref (ad 145), .int a1]) ++ List.replicate (9 - (lg_sl ([.ref (ad 145), .int a1])).length) Slot.unset).toArray = ls at hl ⊢
  have hl : lv_has ls 9 [(0, .ref (ad 145)), (1, .int a1)] := hl
  generalize hloc : ([] : List Loc) = locs at hw ⊢
  have hinX0 : ∀ w ∈ u_ws RX0 TX0 4, w ∈ wsX0_drawHours := fun _ h => List.mem_cons_of_mem _ (List.mem_append_left _ (List.mem_append_left _ (List.mem_append_right _ (h))))
  have hinX5 : ∀ w ∈ u_ws RX5 TX5 14, w ∈ wsX0_drawHours := fun _ h => List.mem_cons_of_mem _ (List.mem_append_left _ (List.mem_append_right _ (h)))
  have hinX7 : ∀ w ∈ u_ws RX7 TX7 12, w ∈ wsX0_drawHours := fun _ h => List.mem_cons_of_mem _ (List.mem_append_right _ (h))
  have L13 : ∀ (n13 : Nat) (v13_2 : Int32) (v13_3 : Int32) (f13_39_8 : Int32) (H : Heap) (locs : List Loc) (ls : Array Slot) (w1 : va_W), 0 ≤ a1.toInt → a1.toInt ≤ 3 → (-1) ≤ v13_2.toInt → v13_2.toInt ≤ 10 → 0 ≤ v13_3.toInt → v13_3.toInt ≤ 10 → (-1) ≤ f13_39_8.toInt → f13_39_8.toInt ≤ 10 → (10 - v13_3.toInt).toNat < n13 → Wd dC dI A s.heap H locs w1 → TW ksC ad cy B qr s1 w1 → FE ksC [(42, 0, 1100)] w0 w1 → gi w1 39 8 = f13_39_8 → lv_has ls 9 [(0, .ref (ad 145)), (1, .int a1), (2, .int v13_2), (3, .int v13_3)] → W p l e ({ frames := 2, cells := 0, slots := 0, locals := 34 }) s m (List.toArray [.ref (ad 145), .int a1]) below meth c H locs 0 0 (MQ below (va_Qv (P_X0_drawHours_1 ad cy B qr s1 a1 w0) (fun u : va_W => wpost dC dI cy A u) A) (List.toArray [.ref (ad 145), .int a1]) s 0 0 A) (F0 m 13 ls []) := by
    intro n13
    induction n13 with
    | zero => intro v13_2 v13_3 f13_39_8 H locs ls w1 r2 t3 r4 t5 r6 t7 r8 t9 hm13 hw hT hF c10 hl; omega
    | succ n13 ih13 =>
      intro v13_2 v13_3 f13_39_8 H locs ls w1 r2 t3 r4 t5 r6 t7 r8 t9 hm13 hw hT hF c10 hl
      have L21 : ∀ (n21 : Nat) (v21_4 : Int32) (H : Heap) (locs : List Loc) (ls : Array Slot) (w11 : va_W), 0 ≤ a1.toInt → a1.toInt ≤ 3 → 1 ≤ v13_2.toInt → v13_2.toInt ≤ 10 → 0 ≤ v13_3.toInt → v13_3.toInt ≤ 9 → 0 ≤ v21_4.toInt → v21_4.toInt ≤ 10 → (-1) ≤ f13_39_8.toInt → f13_39_8.toInt ≤ 10 → (10 - v21_4.toInt).toNat < n21 → Wd dC dI A s.heap H locs w11 → TW ksC ad cy B qr s1 w11 → FE ksC [(42, 0, 1100)] w0 w11 → gi w11 39 8 = f13_39_8 → lv_has ls 9 [(0, .ref (ad 145)), (1, .int a1), (2, .int v13_2), (3, .int v13_3), (4, .int v21_4)] → W p l e ({ frames := 2, cells := 0, slots := 0, locals := 34 }) s m (List.toArray [.ref (ad 145), .int a1]) below meth c H locs 0 0 (MQ below (va_Qv (P_X0_drawHours_1 ad cy B qr s1 a1 w0) (fun u : va_W => wpost dC dI cy A u) A) (List.toArray [.ref (ad 145), .int a1]) s 0 0 A) (F0 m 21 ls []) := by
        intro n21
        induction n21 with
        | zero => intro v21_4 H locs ls w11 r12 t13 r14 t15 r16 t17 r18 t19 r20 t21 hm21 hw hT hF c22 hl; omega
        | succ n21 ih21 =>
          intro v21_4 H locs ls w11 r12 t13 r14 t15 r16 t17 r18 t19 r20 t21 hm21 hw hT hF c22 hl
          have J111 : ∀ (v111_5 : Int32) (v111_6 : Int32) (H : Heap) (locs : List Loc) (ls : Array Slot) (w23 : va_W), 0 ≤ a1.toInt → a1.toInt ≤ 3 → 1 ≤ v13_2.toInt → v13_2.toInt ≤ 10 → 0 ≤ v13_3.toInt → v13_3.toInt ≤ 9 → 0 ≤ v21_4.toInt → v21_4.toInt ≤ 9 → 0 ≤ v111_5.toInt → v111_5.toInt ≤ 1000000 → 0 ≤ v111_6.toInt → v111_6.toInt ≤ 10 → (-1) ≤ f13_39_8.toInt → f13_39_8.toInt ≤ 10 → Wd dC dI A s.heap H locs w23 → TW ksC ad cy B qr s1 w23 → FE ksC [(42, 0, 1100)] w0 w23 → gi w23 39 8 = f13_39_8 → lv_has ls 9 [(0, .ref (ad 145)), (1, .int a1), (2, .int v13_2), (3, .int v13_3), (4, .int v21_4), (5, .int v111_5), (6, .int v111_6)] → W p l e ({ frames := 2, cells := 0, slots := 0, locals := 34 }) s m (List.toArray [.ref (ad 145), .int a1]) below meth c H locs 0 0 (MQ below (va_Qv (P_X0_drawHours_1 ad cy B qr s1 a1 w0) (fun u : va_W => wpost dC dI cy A u) A) (List.toArray [.ref (ad 145), .int a1]) s 0 0 A) (F0 m 111 ls []) := by
            intro v111_5 v111_6 H locs ls w23 r24 t25 r26 t27 r28 t29 r30 t31 r32 t33 r34 t35 r36 t37 hw hT hF c38 hl
            obtain ⟨x39, ex39⟩ : ∃ y : Int32, y = v21_4 + Int32.ofInt 1 := ⟨_, rfl⟩
            refine lv_iinc (v := x39) (lv' := [(4, .int x39), (0, .ref (ad 145)), (1, .int a1), (2, .int v13_2), (3, .int v13_3), (5, .int v111_5), (6, .int v111_6)]) hx hb dX0_drawHours_111 hl (k := 4) rfl ex39.symm (by decide) rfl (fun ls hl => ?_)
            have ex39 : x39.toInt = v21_4.toInt + 1 := by rw [ex39]; exact wk_add (y := 1) (show -2147483648 ≤ v21_4.toInt + 1 by omega) (show v21_4.toInt + 1 ≤ 2147483647 by omega)
            refine lv_goto (tgt := 21) hx hb dX0_drawHours_114 (by decide) ?_
            exact ih21 x39 H locs ls w23 (show 0 ≤ a1.toInt by omega) (show a1.toInt ≤ 3 by omega) (show 1 ≤ v13_2.toInt by omega) (show v13_2.toInt ≤ 10 by omega) (show 0 ≤ v13_3.toInt by omega) (show v13_3.toInt ≤ 9 by omega) (show 0 ≤ x39.toInt by omega) (show x39.toInt ≤ 10 by omega) (show (-1) ≤ f13_39_8.toInt by omega) (show f13_39_8.toInt ≤ 10 by omega) (show (10 - x39.toInt).toNat < n21 by omega) hw hT hF c38 (lv_sub hl [1, 2, 3, 4, 0] rfl)
          have L44 : ∀ (n44 : Nat) (v44_5 : Int32) (v44_6 : Int32) (H : Heap) (locs : List Loc) (ls : Array Slot) (w40 : va_W), 0 ≤ a1.toInt → a1.toInt ≤ 3 → 1 ≤ v13_2.toInt → v13_2.toInt ≤ 10 → 0 ≤ v13_3.toInt → v13_3.toInt ≤ 9 → 0 ≤ v21_4.toInt → v21_4.toInt ≤ 9 → 0 ≤ v44_5.toInt → v44_5.toInt ≤ 1000000 → 0 ≤ v44_6.toInt → v44_6.toInt ≤ 10 → (-1) ≤ f13_39_8.toInt → f13_39_8.toInt ≤ 10 → (10 - v44_6.toInt).toNat < n44 → Wd dC dI A s.heap H locs w40 → TW ksC ad cy B qr s1 w40 → FE ksC [(42, 0, 1100)] w0 w40 → gi w40 39 8 = f13_39_8 → lv_has ls 9 [(0, .ref (ad 145)), (1, .int a1), (2, .int v13_2), (3, .int v13_3), (4, .int v21_4), (5, .int v44_5), (6, .int v44_6)] → W p l e ({ frames := 2, cells := 0, slots := 0, locals := 34 }) s m (List.toArray [.ref (ad 145), .int a1]) below meth c H locs 0 0 (MQ below (va_Qv (P_X0_drawHours_1 ad cy B qr s1 a1 w0) (fun u : va_W => wpost dC dI cy A u) A) (List.toArray [.ref (ad 145), .int a1]) s 0 0 A) (F0 m 44 ls []) := by
            intro n44
            induction n44 with
            | zero => intro v44_5 v44_6 H locs ls w40 r41 t42 r43 t44 r45 t46 r47 t48 r49 t50 r51 t52 r53 t54 hm44 hw hT hF c55 hl; omega
            | succ n44 ih44 =>
              intro v44_5 v44_6 H locs ls w40 r41 t42 r43 t44 r45 t46 r47 t48 r49 t50 r51 t52 r53 t54 hm44 hw hT hF c55 hl
              have J105 : ∀ (v105_7 : Int32) (v105_8 : Int32) (H : Heap) (locs : List Loc) (ls : Array Slot) (w56 : va_W), 0 ≤ a1.toInt → a1.toInt ≤ 3 → 1 ≤ v13_2.toInt → v13_2.toInt ≤ 10 → 0 ≤ v13_3.toInt → v13_3.toInt ≤ 9 → 0 ≤ v21_4.toInt → v21_4.toInt ≤ 9 → 0 ≤ v44_5.toInt → v44_5.toInt ≤ 999999 → 0 ≤ v44_6.toInt → v44_6.toInt ≤ 9 → 0 ≤ v105_7.toInt → v105_7.toInt ≤ 1999999 → 0 ≤ v105_8.toInt → v105_8.toInt ≤ 399 → (-1) ≤ f13_39_8.toInt → f13_39_8.toInt ≤ 10 → Wd dC dI A s.heap H locs w56 → TW ksC ad cy B qr s1 w56 → FE ksC [(42, 0, 1100)] w0 w56 → gi w56 39 8 = f13_39_8 → lv_has ls 9 [(0, .ref (ad 145)), (1, .int a1), (2, .int v13_2), (3, .int v13_3), (4, .int v21_4), (5, .int v44_5), (6, .int v44_6), (7, .int v105_7), (8, .int v105_8)] → W p l e ({ frames := 2, cells := 0, slots := 0, locals := 34 }) s m (List.toArray [.ref (ad 145), .int a1]) below meth c H locs 0 0 (MQ below (va_Qv (P_X0_drawHours_1 ad cy B qr s1 a1 w0) (fun u : va_W => wpost dC dI cy A u) A) (List.toArray [.ref (ad 145), .int a1]) s 0 0 A) (F0 m 105 ls []) := by
                intro v105_7 v105_8 H locs ls w56 r57 t58 r59 t60 r61 t62 r63 t64 r65 t66 r67 t68 r69 t70 r71 t72 r73 t74 hw hT hF c75 hl
                obtain ⟨x76, ex76⟩ : ∃ y : Int32, y = v44_6 + Int32.ofInt 1 := ⟨_, rfl⟩
                refine lv_iinc (v := x76) (lv' := [(6, .int x76), (0, .ref (ad 145)), (1, .int a1), (2, .int v13_2), (3, .int v13_3), (4, .int v21_4), (5, .int v44_5), (7, .int v105_7), (8, .int v105_8)]) hx hb dX0_drawHours_105 hl (k := 6) rfl ex76.symm (by decide) rfl (fun ls hl => ?_)
                have ex76 : x76.toInt = v44_6.toInt + 1 := by rw [ex76]; exact wk_add (y := 1) (show -2147483648 ≤ v44_6.toInt + 1 by omega) (show v44_6.toInt + 1 ≤ 2147483647 by omega)
                refine lv_goto (tgt := 44) hx hb dX0_drawHours_108 (by decide) ?_
                exact ih44 v44_5 x76 H locs ls w56 (show 0 ≤ a1.toInt by omega) (show a1.toInt ≤ 3 by omega) (show 1 ≤ v13_2.toInt by omega) (show v13_2.toInt ≤ 10 by omega) (show 0 ≤ v13_3.toInt by omega) (show v13_3.toInt ≤ 9 by omega) (show 0 ≤ v21_4.toInt by omega) (show v21_4.toInt ≤ 9 by omega) (show 0 ≤ v44_5.toInt by omega) (show v44_5.toInt ≤ 1000000 by omega) (show 0 ≤ x76.toInt by omega) (show x76.toInt ≤ 10 by omega) (show (-1) ≤ f13_39_8.toInt by omega) (show f13_39_8.toInt ≤ 10 by omega) (show (10 - x76.toInt).toNat < n44 by omega) hw hT hF c75 (lv_sub hl [1, 2, 3, 4, 5, 6, 0] rfl)
              refine lv_iload hx hb dX0_drawHours_44 (lv_at hl 5 rfl) ?_
              refine lv_ldc (v := 1000000) hx hb hC.2.2.2.1 (hC.2.2.2.2 _ (List.mem_of_getElem? (i := 5) rfl)) dX0_drawHours_46 ?_
              refine lv_icmp_ge (tgt := 111) hx hb dX0_drawHours_48 (by decide) (fun c77 => ?_) (fun c77 => ?_)
              · have c77 : (1000000 : Int) ≤ v44_5.toInt := wk_le.mp c77
                exact J111 v44_5 v44_6 H locs ls w40 (show 0 ≤ a1.toInt by omega) (show a1.toInt ≤ 3 by omega) (show 1 ≤ v13_2.toInt by omega) (show v13_2.toInt ≤ 10 by omega) (show 0 ≤ v13_3.toInt by omega) (show v13_3.toInt ≤ 9 by omega) (show 0 ≤ v21_4.toInt by omega) (show v21_4.toInt ≤ 9 by omega) (show 0 ≤ v44_5.toInt by omega) (show v44_5.toInt ≤ 1000000 by omega) (show 0 ≤ v44_6.toInt by omega) (show v44_6.toInt ≤ 10 by omega) (show (-1) ≤ f13_39_8.toInt by omega) (show f13_39_8.toInt ≤ 10 by omega)  hw hT hF c55 (lv_sub hl [0, 1, 2, 3, 4, 5, 6] rfl)
              · have c77 : v44_5.toInt < (1000000 : Int) := wk_leF c77
                refine lv_iload hx hb dX0_drawHours_51 (lv_at hl 6 rfl) ?_
                refine lv_iload_n hx hb dX0_drawHours_53 rfl (lv_at hl 2 rfl) ?_
                refine lv_icmp_ge (tgt := 111) hx hb dX0_drawHours_54 (by decide) (fun c78 => ?_) (fun c78 => ?_)
                · have c78 : v13_2.toInt ≤ v44_6.toInt := wk_le.mp c78
                  exact J111 v44_5 v44_6 H locs ls w40 (show 0 ≤ a1.toInt by omega) (show a1.toInt ≤ 3 by omega) (show 1 ≤ v13_2.toInt by omega) (show v13_2.toInt ≤ 10 by omega) (show 0 ≤ v13_3.toInt by omega) (show v13_3.toInt ≤ 9 by omega) (show 0 ≤ v21_4.toInt by omega) (show v21_4.toInt ≤ 9 by omega) (show 0 ≤ v44_5.toInt by omega) (show v44_5.toInt ≤ 1000000 by omega) (show 0 ≤ v44_6.toInt by omega) (show v44_6.toInt ≤ 10 by omega) (show (-1) ≤ f13_39_8.toInt by omega) (show f13_39_8.toInt ≤ 10 by omega)  hw hT hF c55 (lv_sub hl [0, 1, 2, 3, 4, 5, 6] rfl)
                · have c78 : v44_6.toInt < v13_2.toInt := wk_leF c78
                  refine lv_iload hx hb dX0_drawHours_57 (lv_at hl 5 rfl) ?_
                  refine lv_aload_n hx hb dX0_drawHours_59 rfl (lv_at hl 0 rfl) ?_
                  refine tk_getA hC hK hw hT hinX0 kC_at145 (by decide) rfl 1 (by decide) (List.mem_of_getElem? (i := 4) rfl) rfl rfl dX0_drawHours_60 ?_
                  refine lv_iload_n hx hb dX0_drawHours_63 rfl (lv_at hl 1 rfl) ?_
                  refine lv_iload_n hx hb dX0_drawHours_64 rfl (lv_at hl 3 rfl) ?_
                  refine lv_iload hx hb dX0_drawHours_65 (lv_at hl 6 rfl) ?_
                  refine tk_Si hC hK hw hT hA hE hSR (k_X0_spot_1 l adK adV dC dI cy ad B (by omega) (by omega) qr s1   a1 (show 0 ≤ a1.toInt by omega) (show a1.toInt ≤ 3 by omega) v13_3 (show 0 ≤ v13_3.toInt by omega) (show v13_3.toInt ≤ 9 by omega) v44_6 (show 0 ≤ v44_6.toInt by omega) (show v44_6.toInt ≤ 9 by omega) w40 H.size hT ) (va_cwS 3 hC.2.2.2.2 gX0_drawHours_X0_spot rfl rfl rfl (by decide +kernel) ⟨Nat.le_of_ble_eq_true rfl, Nat.le_of_ble_eq_true rfl⟩) rfl hl.1 rfl (Nat.le_of_ble_eq_true rfl) dX0_drawHours_67 (fun r79 w81 H locs hp80 hw => ?_)
                  obtain ⟨hT, k82, hg85⟩ := hp80
                  have hF := hF.tr k82 (by decide)
                  have c86 := k82.gi kC_at39 (by decide) c55
                  obtain ⟨g83, g84⟩ := hg85
                  refine tk_iald hC hK hw hT kC_at146 rfl rfl (show 0 ≤ r79.toInt by omega) (show r79.toInt < 1100 by omega) dX0_drawHours_70 (fun x87 c88 rx87 tx87 => ?_)
                  refine lv_iadd hx hb dX0_drawHours_71 ?_
                  refine lv_topi (fun x89 ex89 => ?_)
                  have ex89 : x89.toInt = v44_5.toInt + x87.toInt := by rw [ex89]; exact wk_add (show (-2147483648) ≤ v44_5.toInt + x87.toInt by omega) (show v44_5.toInt + x87.toInt ≤ 2147483647 by omega)
                  refine lv_istore (lv' := [(7, .int x89), (0, .ref (ad 145)), (1, .int a1), (2, .int v13_2), (3, .int v13_3), (4, .int v21_4), (5, .int v44_5), (6, .int v44_6)]) hx hb dX0_drawHours_72 hl (by decide) rfl (fun ls hl => ?_)
                  refine lv_iload_n hx hb dX0_drawHours_74 rfl (lv_at hl 2 rfl) ?_
                  refine lv_iload hx hb dX0_drawHours_75 (lv_at hl 5 rfl) ?_
                  refine lv_iload hx hb dX0_drawHours_77 (lv_at hl 7 rfl) ?_
                  refine tk_Si hC hK hw hT hA hE hSR (k_X0_spot_1 l adK adV dC dI cy ad B (by omega) (by omega) qr s1   a1 (show 0 ≤ a1.toInt by omega) (show a1.toInt ≤ 3 by omega) v21_4 (show 0 ≤ v21_4.toInt by omega) (show v21_4.toInt ≤ 9 by omega) v44_6 (show 0 ≤ v44_6.toInt by omega) (show v44_6.toInt ≤ 9 by omega) w81 H.size hT ) (va_cwS 3 hC.2.2.2.2 gX0_drawHours_X0_spot rfl rfl rfl (by decide +kernel) ⟨Nat.le_of_ble_eq_true rfl, Nat.le_of_ble_eq_true rfl⟩) rfl hl.1 rfl (Nat.le_of_ble_eq_true rfl) dX0_drawHours_79 (fun r90 w92 H locs hp91 hw => ?_)
                  obtain ⟨hT, k93, hg96⟩ := hp91
                  have hF := hF.tr k93 (by decide)
                  have c97 := k93.gi kC_at39 (by decide) c86
                  obtain ⟨g94, g95⟩ := hg96
                  refine lv_istore (lv' := [(8, .int r90), (7, .int x89), (0, .ref (ad 145)), (1, .int a1), (2, .int v13_2), (3, .int v13_3), (4, .int v21_4), (5, .int v44_5), (6, .int v44_6)]) hx hb dX0_drawHours_82 hl (by decide) rfl (fun ls hl => ?_)
                  refine lv_iload hx hb dX0_drawHours_84 (lv_at hl 1 rfl) ?_
                  refine lv_aload_n hx hb dX0_drawHours_86 rfl (lv_at hl 2 rfl) ?_
                  refine tk_getA hC hK hw hT hinX0 kC_at145 (by decide) rfl 1 (by decide) (List.mem_of_getElem? (i := 4) rfl) rfl rfl dX0_drawHours_87 ?_
                  refine lv_iload hx hb dX0_drawHours_90 (lv_at hl 0 rfl) ?_
                  refine tk_iald hC hK hw hT kC_at146 rfl rfl (show 0 ≤ r90.toInt by omega) (show r90.toInt < 1100 by omega) dX0_drawHours_92 (fun x98 c99 rx98 tx98 => ?_)
                  refine lv_icmp_ge (tgt := 105) hx hb dX0_drawHours_93 (by decide) (fun c100 => ?_) (fun c100 => ?_)
                  · have c100 : x98.toInt ≤ x89.toInt := wk_le.mp c100
                    exact J105 x89 r90 H locs ls w92 (show 0 ≤ a1.toInt by omega) (show a1.toInt ≤ 3 by omega) (show 1 ≤ v13_2.toInt by omega) (show v13_2.toInt ≤ 10 by omega) (show 0 ≤ v13_3.toInt by omega) (show v13_3.toInt ≤ 9 by omega) (show 0 ≤ v21_4.toInt by omega) (show v21_4.toInt ≤ 9 by omega) (show 0 ≤ v44_5.toInt by omega) (show v44_5.toInt ≤ 999999 by omega) (show 0 ≤ v44_6.toInt by omega) (show v44_6.toInt ≤ 9 by omega) (show 0 ≤ x89.toInt by omega) (show x89.toInt ≤ 1999999 by omega) (show 0 ≤ r90.toInt by omega) (show r90.toInt ≤ 399 by omega) (show (-1) ≤ f13_39_8.toInt by omega) (show f13_39_8.toInt ≤ 10 by omega)  hw hT hF c97 (lv_sub hl [2, 3, 4, 5, 6, 7, 8, 1, 0] rfl)
                  · have c100 : x89.toInt < x98.toInt := wk_leF c100
                    refine lv_aload_n hx hb dX0_drawHours_96 rfl (lv_at hl 2 rfl) ?_
                    refine tk_getA hC hK hw hT hinX0 kC_at145 (by decide) rfl 1 (by decide) (List.mem_of_getElem? (i := 4) rfl) rfl rfl dX0_drawHours_97 ?_
                    refine lv_iload hx hb dX0_drawHours_100 (lv_at hl 0 rfl) ?_
                    refine lv_iload hx hb dX0_drawHours_102 (lv_at hl 1 rfl) ?_
                    refine tk_iast hC hK hw hT kC_at146 (by decide) rfl rfl (show 0 ≤ r90.toInt by omega) (show r90.toInt < 1100 by omega) (show 0 ≤ x89.toInt by omega) (show x89.toInt ≤ 1000000 by omega) dX0_drawHours_104 (fun H locs w101 hw hT k103 c102 => ?_)
                    have hF := hF.put kC_at146 (inE_of (a := 0) (b := 1100) (by decide) (show 0 ≤ r90.toInt.toNat by omega) (show r90.toInt.toNat ≤ 1100 by omega)) k103
                    have c104 := k103.gi (Or.inl (tk_ne kC_at39 kC_at146 (by decide))) c97
                    exact J105 x89 r90 H locs ls w101 (show 0 ≤ a1.toInt by omega) (show a1.toInt ≤ 3 by omega) (show 1 ≤ v13_2.toInt by omega) (show v13_2.toInt ≤ 10 by omega) (show 0 ≤ v13_3.toInt by omega) (show v13_3.toInt ≤ 9 by omega) (show 0 ≤ v21_4.toInt by omega) (show v21_4.toInt ≤ 9 by omega) (show 0 ≤ v44_5.toInt by omega) (show v44_5.toInt ≤ 999999 by omega) (show 0 ≤ v44_6.toInt by omega) (show v44_6.toInt ≤ 9 by omega) (show 0 ≤ x89.toInt by omega) (show x89.toInt ≤ 1999999 by omega) (show 0 ≤ r90.toInt by omega) (show r90.toInt ≤ 399 by omega) (show (-1) ≤ f13_39_8.toInt by omega) (show f13_39_8.toInt ≤ 10 by omega)  hw hT hF c104 (lv_sub hl [2, 3, 4, 5, 6, 7, 8, 1, 0] rfl)
          refine lv_iload hx hb dX0_drawHours_21 (lv_at hl 4 rfl) ?_
          refine lv_iload_n hx hb dX0_drawHours_23 rfl (lv_at hl 2 rfl) ?_
          refine lv_icmp_ge (tgt := 117) hx hb dX0_drawHours_24 (by decide) (fun c105 => ?_) (fun c105 => ?_)
          · have c105 : v13_2.toInt ≤ v21_4.toInt := wk_le.mp c105
            obtain ⟨x106, ex106⟩ : ∃ y : Int32, y = v13_3 + Int32.ofInt 1 := ⟨_, rfl⟩
            refine lv_iinc (v := x106) (lv' := [(3, .int x106), (0, .ref (ad 145)), (1, .int a1), (2, .int v13_2), (4, .int v21_4)]) hx hb dX0_drawHours_117 hl (k := 3) rfl ex106.symm (by decide) rfl (fun ls hl => ?_)
            have ex106 : x106.toInt = v13_3.toInt + 1 := by rw [ex106]; exact wk_add (y := 1) (show -2147483648 ≤ v13_3.toInt + 1 by omega) (show v13_3.toInt + 1 ≤ 2147483647 by omega)
            refine lv_goto (tgt := 13) hx hb dX0_drawHours_120 (by decide) ?_
            exact ih13 v13_2 x106 f13_39_8 H locs ls w11 (show 0 ≤ a1.toInt by omega) (show a1.toInt ≤ 3 by omega) (show (-1) ≤ v13_2.toInt by omega) (show v13_2.toInt ≤ 10 by omega) (show 0 ≤ x106.toInt by omega) (show x106.toInt ≤ 10 by omega) (show (-1) ≤ f13_39_8.toInt by omega) (show f13_39_8.toInt ≤ 10 by omega) (show (10 - x106.toInt).toNat < n13 by omega) hw hT hF c22 (lv_sub hl [1, 2, 3, 0] rfl)
          · have c105 : v21_4.toInt < v13_2.toInt := wk_leF c105
            refine lv_aload_n hx hb dX0_drawHours_27 rfl (lv_at hl 0 rfl) ?_
            refine tk_getA hC hK hw hT hinX0 kC_at145 (by decide) rfl 1 (by decide) (List.mem_of_getElem? (i := 4) rfl) rfl rfl dX0_drawHours_28 ?_
            refine lv_iload_n hx hb dX0_drawHours_31 rfl (lv_at hl 1 rfl) ?_
            refine lv_iload hx hb dX0_drawHours_32 (lv_at hl 4 rfl) ?_
            refine lv_iload_n hx hb dX0_drawHours_34 rfl (lv_at hl 3 rfl) ?_
            refine tk_Si hC hK hw hT hA hE hSR (k_X0_spot_1 l adK adV dC dI cy ad B (by omega) (by omega) qr s1   a1 (show 0 ≤ a1.toInt by omega) (show a1.toInt ≤ 3 by omega) v21_4 (show 0 ≤ v21_4.toInt by omega) (show v21_4.toInt ≤ 9 by omega) v13_3 (show 0 ≤ v13_3.toInt by omega) (show v13_3.toInt ≤ 9 by omega) w11 H.size hT ) (va_cwS 3 hC.2.2.2.2 gX0_drawHours_X0_spot rfl rfl rfl (by decide +kernel) ⟨Nat.le_of_ble_eq_true rfl, Nat.le_of_ble_eq_true rfl⟩) rfl hl.1 rfl (Nat.le_of_ble_eq_true rfl) dX0_drawHours_35 (fun r107 w109 H locs hp108 hw => ?_)
            obtain ⟨hT, k110, hg113⟩ := hp108
            have hF := hF.tr k110 (by decide)
            have c114 := k110.gi kC_at39 (by decide) c22
            obtain ⟨g111, g112⟩ := hg113
            refine tk_iald hC hK hw hT kC_at146 rfl rfl (show 0 ≤ r107.toInt by omega) (show r107.toInt < 1100 by omega) dX0_drawHours_38 (fun x115 c116 rx115 tx115 => ?_)
            refine lv_istore (lv' := [(5, .int x115), (0, .ref (ad 145)), (1, .int a1), (2, .int v13_2), (3, .int v13_3), (4, .int v21_4)]) hx hb dX0_drawHours_39 hl (by decide) rfl (fun ls hl => ?_)
            refine lv_iconst (v := 0) hx hb dX0_drawHours_41 (by decide) ?_
            refine lv_istore (lv' := [(6, .int 0), (5, .int x115), (0, .ref (ad 145)), (1, .int a1), (2, .int v13_2), (3, .int v13_3), (4, .int v21_4)]) hx hb dX0_drawHours_42 hl (by decide) rfl (fun ls hl => ?_)
            exact L44 ((10 - (0 : Int)).toNat + 1) x115 0 H locs ls w109 (show 0 ≤ a1.toInt by omega) (show a1.toInt ≤ 3 by omega) (show 1 ≤ v13_2.toInt by omega) (show v13_2.toInt ≤ 10 by omega) (show 0 ≤ v13_3.toInt by omega) (show v13_3.toInt ≤ 9 by omega) (show 0 ≤ v21_4.toInt by omega) (show v21_4.toInt ≤ 9 by omega) (show 0 ≤ x115.toInt by omega) (show x115.toInt ≤ 1000000 by omega) (by decide) (by decide) (show (-1) ≤ f13_39_8.toInt by omega) (show f13_39_8.toInt ≤ 10 by omega) (Nat.lt_succ_self _) hw hT hF c114 (lv_sub hl [2, 3, 4, 5, 6, 1, 0] rfl)
      refine lv_iload_n hx hb dX0_drawHours_13 rfl (lv_at hl 3 rfl) ?_
      refine lv_iload_n hx hb dX0_drawHours_14 rfl (lv_at hl 2 rfl) ?_
      refine lv_icmp_ge (tgt := 123) hx hb dX0_drawHours_15 (by decide) (fun c117 => ?_) (fun c117 => ?_)
      · have c117 : v13_2.toInt ≤ v13_3.toInt := wk_le.mp c117
        exact tk_vret hC hr hlocks hK ⟨hT, hF, trivial⟩ hw dX0_drawHours_123
      · have c117 : v13_3.toInt < v13_2.toInt := wk_leF c117
        refine lv_iconst (v := 0) hx hb dX0_drawHours_18 (by decide) ?_
        refine lv_istore (lv' := [(4, .int 0), (0, .ref (ad 145)), (1, .int a1), (2, .int v13_2), (3, .int v13_3)]) hx hb dX0_drawHours_19 hl (by decide) rfl (fun ls hl => ?_)
        exact L21 ((10 - (0 : Int)).toNat + 1) 0 H locs ls w1 (show 0 ≤ a1.toInt by omega) (show a1.toInt ≤ 3 by omega) (show 1 ≤ v13_2.toInt by omega) (show v13_2.toInt ≤ 10 by omega) (show 0 ≤ v13_3.toInt by omega) (show v13_3.toInt ≤ 9 by omega) (by decide) (by decide) (show (-1) ≤ f13_39_8.toInt by omega) (show f13_39_8.toInt ≤ 10 by omega) (Nat.lt_succ_self _) hw hT hF c10 (lv_sub hl [1, 2, 3, 4, 0] rfl)
  refine lv_aload_n hx hb dX0_drawHours_0 rfl (lv_at hl 0 rfl) ?_
  refine tk_getA hC hK hw hT hinX0 kC_at145 (by decide) rfl 0 (by decide) (List.mem_of_getElem? (i := 1) rfl) rfl rfl dX0_drawHours_1 ?_
  refine tk_getO hC hK hw hT hinX5 kC_at38 (by decide) rfl 0 (by decide) (List.mem_of_getElem? (i := 2) rfl) rfl rfl dX0_drawHours_4 ?_
  refine tk_geti hC hK hw hT hinX7 kC_at39 (by decide) rfl 8 (by decide) (List.mem_of_getElem? (i := 3) rfl) rfl rfl dX0_drawHours_7 (fun x118 c119 rx118 tx118 => ?_)
  refine lv_istore_n (lv' := [(2, .int x118), (0, .ref (ad 145)), (1, .int a1)]) hx hb dX0_drawHours_10 rfl hl (by decide) rfl (fun ls hl => ?_)
  refine lv_iconst (v := 0) hx hb dX0_drawHours_11 (by decide) ?_
  refine lv_istore_n (lv' := [(3, .int 0), (2, .int x118), (0, .ref (ad 145)), (1, .int a1)]) hx hb dX0_drawHours_12 rfl hl (by decide) rfl (fun ls hl => ?_)
  exact L13 ((10 - (0 : Int)).toNat + 1) x118 0 x118 s.heap locs ls w0 (show 0 ≤ a1.toInt by omega) (show a1.toInt ≤ 3 by omega) (show (-1) ≤ x118.toInt by omega) (show x118.toInt ≤ 10 by omega) (by decide) (by decide) (show (-1) ≤ x118.toInt by omega) (show x118.toInt ≤ 10 by omega) (Nat.lt_succ_self _) hw hT hF c119 (lv_sub hl [2, 3, 1, 0] rfl)
abbrev P_X0_drawFirstBy_1 (ad : Nat → Nat) (cy : Nat → ClassId) (B : Int) (qr : Nat) (s1 : Int) (a1 : Int32) (a2 : Int32) (a3 : Int32) (w0 : va_W) : va_W → Prop := fun u => TW ksC ad cy B qr s1 u ∧ FE ksC [(43, 0, 1100)] w0 u ∧ ((True))
set_option maxHeartbeats 4000000 in
set_option maxRecDepth 100000 in
theorem k_X0_drawFirstBy_1 (l : Launch) (adK adV : Nat → Nat) (dC : Nat → ClassId) (dI : Nat → Nat → Nat) (cy : Nat → ClassId) (ad : Nat → Nat) (B : Int) (hB0 : 2147483648 ≤ B) (hB1 : B ≤ 1152921504606846976) (qr : Nat) (s1 : Int)  (a1 : Int32) (ra1 : 0 ≤ a1.toInt) (ta1 : a1.toInt ≤ 3) (a2 : Int32) (ra2 : 0 ≤ a2.toInt) (ta2 : a2.toInt ≤ 11) (a3 : Int32) (ra3 : 0 ≤ a3.toInt) (ta3 : a3.toInt ≤ 1) (w0 : va_W) (sz : Nat) (hT : TW ksC ad cy B qr s1 w0)  : Met l yX0_drawFirstBy wsX0_drawFirstBy ({ frames := 2, cells := 0, slots := 0, locals := 34 }) (va_Pc [.ref (ad 145), .int a1, .int a2, .int a3] (wpreS adK adV dC dI cy sz w0)) (va_Qv (P_X0_drawFirstBy_1 ad cy B qr s1 a1 a2 a3 w0) (fun u : va_W => wpost dC dI cy (va_A w0 sz) u) (va_A w0 sz)) 0 0 (va_A w0 sz) := by
  refine Met.ofW (cc := cX0_drawFirstBy) (maxL := 10) (ret := none) (by decide) rfl ?_
  intro p e s m args below meth c s₁ Bk hml hv
  obtain ⟨rfl, ⟨hsz, hP, hK, hD0⟩, hE, hSR⟩ := hv
  have hx := Bk.exec
  have hb := Bk.bytes
  have hr := Bk.returns
  have hlocks := Bk.notSynchronized
  have hC : CallFix p m c cX0_drawFirstBy 10 s _ wsX0_drawFirstBy RX0 := ⟨hx, hb, hml, findClass_of_methodNamed Bk.named, atoms_spec (ws := wsX0_drawFirstBy) Bk.pre⟩
  subst hsz
  have hD := hD0.self (sz := s.heap.size)
  generalize hAe : va_A w0 s.heap.size = A at hD hE ⊢
  have hA : ∀ q : Nat, s.heap.size ≤ q → A q := fun q h => by rw [← hAe]; exact Or.inr h
  have hw : Wd dC dI A s.heap s.heap [] w0 := ⟨hP, hD, va_S.rf⟩
  have hF : FE ksC [(43, 0, 1100)] w0 w0 := FE.rf
  have hl := lv_entry ([.ref (ad 145), .int a1, .int a2, .int a3]) (n := 10) (Nat.le_of_ble_eq_true rfl)
  rw [lg_entry_eq]
  generalize (lg_sl ([.ref (ad 145), .int a1, .int a2, .int a3]) ++ List.replicate (10 - (lg_sl ([.ref (ad 145), .int a1, .int a2, .int a3])).length) Slot.unset).toArray = ls at hl ⊢
  have hl : lv_has ls 10 [(0, .ref (ad 145)), (1, .int a1), (2, .int a2), (3, .int a3)] := hl
  generalize hloc : ([] : List Loc) = locs at hw ⊢
  have hinX7 : ∀ w ∈ u_ws RX7 TX7 12, w ∈ wsX0_drawFirstBy := fun _ h => List.mem_cons_of_mem _ (List.mem_append_right _ (h))
  have hinX0 : ∀ w ∈ u_ws RX0 TX0 4, w ∈ wsX0_drawFirstBy := fun _ h => List.mem_cons_of_mem _ (List.mem_append_left _ (List.mem_append_left _ (List.mem_append_right _ (h))))
  have hinX5 : ∀ w ∈ u_ws RX5 TX5 14, w ∈ wsX0_drawFirstBy := fun _ h => List.mem_cons_of_mem _ (List.mem_append_left _ (List.mem_append_right _ (h)))
  have L32 : ∀ (n32 : Nat) (v32_5 : Int32) (v32_6 : Int32) (v32_7 : Int32) (H : Heap) (locs : List Loc) (ls : Array Slot) (w1 : va_W), 0 ≤ a1.toInt → a1.toInt ≤ 3 → 0 ≤ a2.toInt → a2.toInt ≤ 11 → 0 ≤ a3.toInt → a3.toInt ≤ 1 → 0 ≤ v32_5.toInt → v32_5.toInt ≤ 9 → 0 ≤ v32_6.toInt → v32_6.toInt ≤ 9 → 0 ≤ v32_7.toInt → v32_7.toInt ≤ 10 → (10 - v32_7.toInt).toNat < n32 → Wd dC dI A s.heap H locs w1 → TW ksC ad cy B qr s1 w1 → FE ksC [(43, 0, 1100)] w0 w1 → lv_has ls 10 [(0, .ref (ad 145)), (1, .int a1), (2, .int a2), (3, .int a3), (4, .ref (ad 39)), (5, .int v32_5), (6, .int v32_6), (7, .int v32_7)] → W p l e ({ frames := 2, cells := 0, slots := 0, locals := 34 }) s m (List.toArray [.ref (ad 145), .int a1, .int a2, .int a3]) below meth c H locs 0 0 (MQ below (va_Qv (P_X0_drawFirstBy_1 ad cy B qr s1 a1 a2 a3 w0) (fun u : va_W => wpost dC dI cy A u) A) (List.toArray [.ref (ad 145), .int a1, .int a2, .int a3]) s 0 0 A) (F0 m 32 ls []) := by
    intro n32
    induction n32 with
    | zero => intro v32_5 v32_6 v32_7 H locs ls w1 r2 t3 r4 t5 r6 t7 r8 t9 r10 t11 r12 t13 hm32 hw hT hF hl; omega
    | succ n32 ih32 =>
      intro v32_5 v32_6 v32_7 H locs ls w1 r2 t3 r4 t5 r6 t7 r8 t9 r10 t11 r12 t13 hm32 hw hT hF hl
      have J102 : ∀ (v102_8 : Int32) (v102_9 : Int32) (f102_39_8 : Int32) (H : Heap) (locs : List Loc) (ls : Array Slot) (w14 : va_W), 0 ≤ a1.toInt → a1.toInt ≤ 3 → 0 ≤ a2.toInt → a2.toInt ≤ 11 → 0 ≤ a3.toInt → a3.toInt ≤ 1 → 0 ≤ v32_5.toInt → v32_5.toInt ≤ 9 → 0 ≤ v32_6.toInt → v32_6.toInt ≤ 9 → 0 ≤ v32_7.toInt → v32_7.toInt ≤ 9 → 0 ≤ v102_8.toInt → v102_8.toInt ≤ 1000000 → 0 ≤ v102_9.toInt → v102_9.toInt ≤ 399 → 1 ≤ f102_39_8.toInt → f102_39_8.toInt ≤ 10 → Wd dC dI A s.heap H locs w14 → TW ksC ad cy B qr s1 w14 → FE ksC [(43, 0, 1100)] w0 w14 → gi w14 39 8 = f102_39_8 → lv_has ls 10 [(0, .ref (ad 145)), (1, .int a1), (2, .int a2), (3, .int a3), (4, .ref (ad 39)), (5, .int v32_5), (6, .int v32_6), (7, .int v32_7), (8, .int v102_8), (9, .int v102_9)] → W p l e ({ frames := 2, cells := 0, slots := 0, locals := 34 }) s m (List.toArray [.ref (ad 145), .int a1, .int a2, .int a3]) below meth c H locs 0 0 (MQ below (va_Qv (P_X0_drawFirstBy_1 ad cy B qr s1 a1 a2 a3 w0) (fun u : va_W => wpost dC dI cy A u) A) (List.toArray [.ref (ad 145), .int a1, .int a2, .int a3]) s 0 0 A) (F0 m 102 ls []) := by
        intro v102_8 v102_9 f102_39_8 H locs ls w14 r15 t16 r17 t18 r19 t20 r21 t22 r23 t24 r25 t26 r27 t28 r29 t30 r31 t32 hw hT hF c33 hl
        obtain ⟨x34, ex34⟩ : ∃ y : Int32, y = v32_7 + Int32.ofInt 1 := ⟨_, rfl⟩
        refine lv_iinc (v := x34) (lv' := [(7, .int x34), (0, .ref (ad 145)), (1, .int a1), (2, .int a2), (3, .int a3), (4, .ref (ad 39)), (5, .int v32_5), (6, .int v32_6), (8, .int v102_8), (9, .int v102_9)]) hx hb dX0_drawFirstBy_102 hl (k := 7) rfl ex34.symm (by decide) rfl (fun ls hl => ?_)
        have ex34 : x34.toInt = v32_7.toInt + 1 := by rw [ex34]; exact wk_add (y := 1) (show -2147483648 ≤ v32_7.toInt + 1 by omega) (show v32_7.toInt + 1 ≤ 2147483647 by omega)
        refine lv_goto (tgt := 32) hx hb dX0_drawFirstBy_105 (by decide) ?_
        exact ih32 v32_5 v32_6 x34 H locs ls w14 (show 0 ≤ a1.toInt by omega) (show a1.toInt ≤ 3 by omega) (show 0 ≤ a2.toInt by omega) (show a2.toInt ≤ 11 by omega) (show 0 ≤ a3.toInt by omega) (show a3.toInt ≤ 1 by omega) (show 0 ≤ v32_5.toInt by omega) (show v32_5.toInt ≤ 9 by omega) (show 0 ≤ v32_6.toInt by omega) (show v32_6.toInt ≤ 9 by omega) (show 0 ≤ x34.toInt by omega) (show x34.toInt ≤ 10 by omega) (show (10 - x34.toInt).toNat < n32 by omega) hw hT hF  (lv_sub hl [1, 2, 3, 4, 5, 6, 7, 0] rfl)
      refine lv_iload hx hb dX0_drawFirstBy_32 (lv_at hl 7 rfl) ?_
      refine lv_aload hx hb dX0_drawFirstBy_34 (lv_at hl 4 rfl) ?_
      refine tk_geti hC hK hw hT hinX7 kC_at39 (by decide) rfl 8 (by decide) (List.mem_of_getElem? (i := 3) rfl) rfl rfl dX0_drawFirstBy_36 (fun x35 c36 rx35 tx35 => ?_)
      refine lv_icmp_ge (tgt := 108) hx hb dX0_drawFirstBy_39 (by decide) (fun c37 => ?_) (fun c37 => ?_)
      · have c37 : x35.toInt ≤ v32_7.toInt := wk_le.mp c37
        exact tk_vret hC hr hlocks hK ⟨hT, hF, trivial⟩ hw dX0_drawFirstBy_108
      · have c37 : v32_7.toInt < x35.toInt := wk_leF c37
        refine lv_aload_n hx hb dX0_drawFirstBy_42 rfl (lv_at hl 0 rfl) ?_
        refine tk_getA hC hK hw hT hinX0 kC_at145 (by decide) rfl 1 (by decide) (List.mem_of_getElem? (i := 4) rfl) rfl rfl dX0_drawFirstBy_43 ?_
        refine lv_iload_n hx hb dX0_drawFirstBy_46 rfl (lv_at hl 1 rfl) ?_
        refine lv_iload hx hb dX0_drawFirstBy_47 (lv_at hl 6 rfl) ?_
        refine lv_iload hx hb dX0_drawFirstBy_49 (lv_at hl 7 rfl) ?_
        refine tk_Si hC hK hw hT hA hE hSR (k_X0_spot_1 l adK adV dC dI cy ad B (by omega) (by omega) qr s1   a1 (show 0 ≤ a1.toInt by omega) (show a1.toInt ≤ 3 by omega) v32_6 (show 0 ≤ v32_6.toInt by omega) (show v32_6.toInt ≤ 9 by omega) v32_7 (show 0 ≤ v32_7.toInt by omega) (show v32_7.toInt ≤ 9 by omega) w1 H.size hT ) (va_cwS 3 hC.2.2.2.2 gX0_drawFirstBy_X0_spot rfl rfl rfl (by decide +kernel) ⟨Nat.le_of_ble_eq_true rfl, Nat.le_of_ble_eq_true rfl⟩) rfl hl.1 rfl (Nat.le_of_ble_eq_true rfl) dX0_drawFirstBy_51 (fun r38 w40 H locs hp39 hw => ?_)
        obtain ⟨hT, k41, hg44⟩ := hp39
        have hF := hF.tr k41 (by decide)
        have c45 := k41.gi kC_at39 (by decide) c36
        obtain ⟨g42, g43⟩ := hg44
        refine tk_iald hC hK hw hT kC_at146 rfl rfl (show 0 ≤ r38.toInt by omega) (show r38.toInt < 1100 by omega) dX0_drawFirstBy_54 (fun x46 c47 rx46 tx46 => ?_)
        refine lv_istore (lv' := [(8, .int x46), (0, .ref (ad 145)), (1, .int a1), (2, .int a2), (3, .int a3), (4, .ref (ad 39)), (5, .int v32_5), (6, .int v32_6), (7, .int v32_7)]) hx hb dX0_drawFirstBy_55 hl (by decide) rfl (fun ls hl => ?_)
        refine lv_iload_n hx hb dX0_drawFirstBy_57 rfl (lv_at hl 2 rfl) ?_
        refine lv_iload hx hb dX0_drawFirstBy_58 (lv_at hl 6 rfl) ?_
        refine lv_iload hx hb dX0_drawFirstBy_60 (lv_at hl 8 rfl) ?_
        refine tk_Si hC hK hw hT hA hE hSR (k_X0_spot_1 l adK adV dC dI cy ad B (by omega) (by omega) qr s1   a1 (show 0 ≤ a1.toInt by omega) (show a1.toInt ≤ 3 by omega) v32_5 (show 0 ≤ v32_5.toInt by omega) (show v32_5.toInt ≤ 9 by omega) v32_7 (show 0 ≤ v32_7.toInt by omega) (show v32_7.toInt ≤ 9 by omega) w40 H.size hT ) (va_cwS 3 hC.2.2.2.2 gX0_drawFirstBy_X0_spot rfl rfl rfl (by decide +kernel) ⟨Nat.le_of_ble_eq_true rfl, Nat.le_of_ble_eq_true rfl⟩) rfl hl.1 rfl (Nat.le_of_ble_eq_true rfl) dX0_drawFirstBy_62 (fun r48 w50 H locs hp49 hw => ?_)
        obtain ⟨hT, k51, hg54⟩ := hp49
        have hF := hF.tr k51 (by decide)
        have c55 := k51.gi kC_at39 (by decide) c45
        obtain ⟨g52, g53⟩ := hg54
        refine lv_istore (lv' := [(9, .int r48), (8, .int x46), (0, .ref (ad 145)), (1, .int a1), (2, .int a2), (3, .int a3), (4, .ref (ad 39)), (5, .int v32_5), (6, .int v32_6), (7, .int v32_7)]) hx hb dX0_drawFirstBy_65 hl (by decide) rfl (fun ls hl => ?_)
        refine lv_iload hx hb dX0_drawFirstBy_67 (lv_at hl 1 rfl) ?_
        refine lv_ldc (v := 1000000) hx hb hC.2.2.2.1 (hC.2.2.2.2 _ (List.mem_of_getElem? (i := 5) rfl)) dX0_drawFirstBy_69 ?_
        refine lv_icmp_ge (tgt := 102) hx hb dX0_drawFirstBy_71 (by decide) (fun c56 => ?_) (fun c56 => ?_)
        · have c56 : (1000000 : Int) ≤ x46.toInt := wk_le.mp c56
          exact J102 x46 r48 x35 H locs ls w50 (show 0 ≤ a1.toInt by omega) (show a1.toInt ≤ 3 by omega) (show 0 ≤ a2.toInt by omega) (show a2.toInt ≤ 11 by omega) (show 0 ≤ a3.toInt by omega) (show a3.toInt ≤ 1 by omega) (show 0 ≤ v32_5.toInt by omega) (show v32_5.toInt ≤ 9 by omega) (show 0 ≤ v32_6.toInt by omega) (show v32_6.toInt ≤ 9 by omega) (show 0 ≤ v32_7.toInt by omega) (show v32_7.toInt ≤ 9 by omega) (show 0 ≤ x46.toInt by omega) (show x46.toInt ≤ 1000000 by omega) (show 0 ≤ r48.toInt by omega) (show r48.toInt ≤ 399 by omega) (show 1 ≤ x35.toInt by omega) (show x35.toInt ≤ 10 by omega)  hw hT hF c55 (lv_sub hl [2, 3, 4, 5, 6, 7, 8, 9, 1, 0] rfl)
        · have c56 : x46.toInt < (1000000 : Int) := wk_leF c56
          refine lv_aload hx hb dX0_drawFirstBy_74 (lv_at hl 6 rfl) ?_
          refine tk_getO hC hK hw hT hinX7 kC_at39 (by decide) rfl 1 (by decide) (List.mem_of_getElem? (i := 6) rfl) rfl rfl dX0_drawFirstBy_76 ?_
          refine lv_iload_n hx hb dX0_drawFirstBy_79 rfl (lv_at hl 4 rfl) ?_
          refine tk_iald hC hK hw hT kC_at41 rfl rfl (show 0 ≤ a2.toInt by omega) (show a2.toInt < 13 by omega) dX0_drawFirstBy_80 (fun x57 c58 rx57 tx57 => ?_)
          refine lv_iload hx hb dX0_drawFirstBy_81 (lv_at hl 1 rfl) ?_
          refine lv_iadd hx hb dX0_drawFirstBy_83 ?_
          refine lv_topi (fun x59 ex59 => ?_)
          have ex59 : x59.toInt = x57.toInt + x46.toInt := by rw [ex59]; exact wk_add (show (-2147483648) ≤ x57.toInt + x46.toInt by omega) (show x57.toInt + x46.toInt ≤ 2147483647 by omega)
          refine lv_aload_n hx hb dX0_drawFirstBy_84 rfl (lv_at hl 2 rfl) ?_
          refine tk_getA hC hK hw hT hinX0 kC_at145 (by decide) rfl 1 (by decide) (List.mem_of_getElem? (i := 4) rfl) rfl rfl dX0_drawFirstBy_85 ?_
          refine lv_iload hx hb dX0_drawFirstBy_88 (lv_at hl 0 rfl) ?_
          refine tk_iald hC hK hw hT kC_at146 rfl rfl (show 0 ≤ r48.toInt by omega) (show r48.toInt < 1100 by omega) dX0_drawFirstBy_90 (fun x60 c61 rx60 tx60 => ?_)
          refine lv_icmp_ne (tgt := 102) hx hb dX0_drawFirstBy_91 (by decide) (fun c62 => ?_) (fun c62 => ?_)
          · have c62 : ¬ x59.toInt = x60.toInt := wk_eqF c62
            exact J102 x46 r48 x35 H locs ls w50 (show 0 ≤ a1.toInt by omega) (show a1.toInt ≤ 3 by omega) (show 0 ≤ a2.toInt by omega) (show a2.toInt ≤ 11 by omega) (show 0 ≤ a3.toInt by omega) (show a3.toInt ≤ 1 by omega) (show 0 ≤ v32_5.toInt by omega) (show v32_5.toInt ≤ 9 by omega) (show 0 ≤ v32_6.toInt by omega) (show v32_6.toInt ≤ 9 by omega) (show 0 ≤ v32_7.toInt by omega) (show v32_7.toInt ≤ 9 by omega) (show 0 ≤ x46.toInt by omega) (show x46.toInt ≤ 1000000 by omega) (show 0 ≤ r48.toInt by omega) (show r48.toInt ≤ 399 by omega) (show 1 ≤ x35.toInt by omega) (show x35.toInt ≤ 10 by omega)  hw hT hF c55 (lv_sub hl [2, 3, 4, 5, 6, 7, 8, 9, 1, 0] rfl)
          · have c62 : x59.toInt = x60.toInt := wk_eq.mp c62
            refine lv_aload_n hx hb dX0_drawFirstBy_94 rfl (lv_at hl 2 rfl) ?_
            refine tk_getA hC hK hw hT hinX0 kC_at145 (by decide) rfl 2 (by decide) (List.mem_of_getElem? (i := 7) rfl) rfl rfl dX0_drawFirstBy_95 ?_
            refine lv_iload hx hb dX0_drawFirstBy_98 (lv_at hl 0 rfl) ?_
            refine lv_iload_n hx hb dX0_drawFirstBy_100 rfl (lv_at hl 4 rfl) ?_
            refine tk_iast hC hK hw hT kC_at147 (by decide) rfl rfl (show 0 ≤ r48.toInt by omega) (show r48.toInt < 1100 by omega) (show (-1) ≤ a2.toInt by omega) (show a2.toInt ≤ 11 by omega) dX0_drawFirstBy_101 (fun H locs w63 hw hT k65 c64 => ?_)
            have hF := hF.put kC_at147 (inE_of (a := 0) (b := 1100) (by decide) (show 0 ≤ r48.toInt.toNat by omega) (show r48.toInt.toNat ≤ 1100 by omega)) k65
            have c66 := k65.gi (Or.inl (tk_ne kC_at39 kC_at147 (by decide))) c55
            exact J102 x46 r48 x35 H locs ls w63 (show 0 ≤ a1.toInt by omega) (show a1.toInt ≤ 3 by omega) (show 0 ≤ a2.toInt by omega) (show a2.toInt ≤ 11 by omega) (show 0 ≤ a3.toInt by omega) (show a3.toInt ≤ 1 by omega) (show 0 ≤ v32_5.toInt by omega) (show v32_5.toInt ≤ 9 by omega) (show 0 ≤ v32_6.toInt by omega) (show v32_6.toInt ≤ 9 by omega) (show 0 ≤ v32_7.toInt by omega) (show v32_7.toInt ≤ 9 by omega) (show 0 ≤ x46.toInt by omega) (show x46.toInt ≤ 1000000 by omega) (show 0 ≤ r48.toInt by omega) (show r48.toInt ≤ 399 by omega) (show 1 ≤ x35.toInt by omega) (show x35.toInt ≤ 10 by omega)  hw hT hF c66 (lv_sub hl [2, 3, 4, 5, 6, 7, 8, 9, 1, 0] rfl)
  refine lv_aload_n hx hb dX0_drawFirstBy_0 rfl (lv_at hl 0 rfl) ?_
  refine tk_getA hC hK hw hT hinX0 kC_at145 (by decide) rfl 0 (by decide) (List.mem_of_getElem? (i := 1) rfl) rfl rfl dX0_drawFirstBy_1 ?_
  refine tk_getO hC hK hw hT hinX5 kC_at38 (by decide) rfl 0 (by decide) (List.mem_of_getElem? (i := 2) rfl) rfl rfl dX0_drawFirstBy_4 ?_
  refine lv_astore (lv' := [(4, .ref (ad 39)), (0, .ref (ad 145)), (1, .int a1), (2, .int a2), (3, .int a3)]) hx hb dX0_drawFirstBy_7 hl (by decide) rfl (fun ls hl => ?_)
  refine lv_aload hx hb dX0_drawFirstBy_9 (lv_at hl 0 rfl) ?_
  refine lv_iload_n hx hb dX0_drawFirstBy_11 rfl (lv_at hl 3 rfl) ?_
  refine lv_iconst (v := 1) hx hb dX0_drawFirstBy_12 (by decide) ?_
  refine lv_iload_n hx hb dX0_drawFirstBy_13 rfl (lv_at hl 4 rfl) ?_
  refine lv_isub hx hb dX0_drawFirstBy_14 ?_
  refine lv_topi (fun x67 ex67 => ?_)
  have ex67 : x67.toInt = (1 : Int) - a3.toInt := by rw [ex67]; exact wk_sub (show (-2147483648) ≤ (1 : Int) - a3.toInt by omega) (show (1 : Int) - a3.toInt ≤ 2147483647 by omega)
  refine tk_Vi hC hK hw hT hA hE hSR kC_at39 (by decide) rfl (k_X7_cornerAcross_1 l adK adV dC dI cy ad B (by omega) (by omega) qr s1   a2 (show 0 ≤ a2.toInt by omega) (show a2.toInt ≤ 11 by omega) x67 (show 0 ≤ x67.toInt by omega) (show x67.toInt ≤ 1 by omega) w0 s.heap.size hT ) (cwV 2 hC.2.2.2.2 gX0_drawFirstBy_X7_cornerAcross rfl rfl rfl (by decide +kernel) ⟨Nat.le_of_ble_eq_true rfl, Nat.le_of_ble_eq_true rfl⟩) rfl hl.1 rfl (Nat.le_of_ble_eq_true rfl) dX0_drawFirstBy_15 (fun r68 w70 H locs hp69 hw => ?_)
  obtain ⟨hT, k71, hg74⟩ := hp69
  have hF := hF.tr k71 (by decide)
  obtain ⟨g72, g73⟩ := hg74
  refine lv_istore (lv' := [(5, .int r68), (4, .ref (ad 39)), (0, .ref (ad 145)), (1, .int a1), (2, .int a2), (3, .int a3)]) hx hb dX0_drawFirstBy_18 hl (by decide) rfl (fun ls hl => ?_)
  refine lv_aload hx hb dX0_drawFirstBy_20 (lv_at hl 1 rfl) ?_
  refine lv_iload_n hx hb dX0_drawFirstBy_22 rfl (lv_at hl 4 rfl) ?_
  refine lv_iload_n hx hb dX0_drawFirstBy_23 rfl (lv_at hl 5 rfl) ?_
  refine tk_Vi hC hK hw hT hA hE hSR kC_at39 (by decide) rfl (k_X7_cornerAcross_1 l adK adV dC dI cy ad B (by omega) (by omega) qr s1   a2 (show 0 ≤ a2.toInt by omega) (show a2.toInt ≤ 11 by omega) a3 (show 0 ≤ a3.toInt by omega) (show a3.toInt ≤ 1 by omega) w70 H.size hT ) (cwV 2 hC.2.2.2.2 gX0_drawFirstBy_X7_cornerAcross rfl rfl rfl (by decide +kernel) ⟨Nat.le_of_ble_eq_true rfl, Nat.le_of_ble_eq_true rfl⟩) rfl hl.1 rfl (Nat.le_of_ble_eq_true rfl) dX0_drawFirstBy_24 (fun r75 w77 H locs hp76 hw => ?_)
  obtain ⟨hT, k78, hg81⟩ := hp76
  have hF := hF.tr k78 (by decide)
  obtain ⟨g79, g80⟩ := hg81
  refine lv_istore (lv' := [(6, .int r75), (5, .int r68), (4, .ref (ad 39)), (0, .ref (ad 145)), (1, .int a1), (2, .int a2), (3, .int a3)]) hx hb dX0_drawFirstBy_27 hl (by decide) rfl (fun ls hl => ?_)
  refine lv_iconst (v := 0) hx hb dX0_drawFirstBy_29 (by decide) ?_
  refine lv_istore (lv' := [(7, .int 0), (6, .int r75), (5, .int r68), (4, .ref (ad 39)), (0, .ref (ad 145)), (1, .int a1), (2, .int a2), (3, .int a3)]) hx hb dX0_drawFirstBy_30 hl (by decide) rfl (fun ls hl => ?_)
  exact L32 ((10 - (0 : Int)).toNat + 1) r68 r75 0 H locs ls w77 (show 0 ≤ a1.toInt by omega) (show a1.toInt ≤ 3 by omega) (show 0 ≤ a2.toInt by omega) (show a2.toInt ≤ 11 by omega) (show 0 ≤ a3.toInt by omega) (show a3.toInt ≤ 1 by omega) (show 0 ≤ r68.toInt by omega) (show r68.toInt ≤ 9 by omega) (show 0 ≤ r75.toInt by omega) (show r75.toInt ≤ 9 by omega) (by decide) (by decide) (Nat.lt_succ_self _) hw hT hF  (lv_sub hl [4, 5, 6, 7, 3, 2, 1, 0] rfl)
abbrev P_X0_drawFirst_1 (ad : Nat → Nat) (cy : Nat → ClassId) (B : Int) (qr : Nat) (s1 : Int) (a1 : Int32) (w0 : va_W) : va_W → Prop := fun u => TW ksC ad cy B qr s1 u ∧ FE ksC [(43, 0, 1100)] w0 u ∧ ((True))
set_option maxHeartbeats 4000000 in
set_option maxRecDepth 100000 in
theorem k_X0_drawFirst_1 (l : Launch) (adK adV : Nat → Nat) (dC : Nat → ClassId) (dI : Nat → Nat → Nat) (cy : Nat → ClassId) (ad : Nat → Nat) (B : Int) (hB0 : 2147483648 ≤ B) (hB1 : B ≤ 1152921504606846976) (qr : Nat) (s1 : Int)  (a1 : Int32) (ra1 : 0 ≤ a1.toInt) (ta1 : a1.toInt ≤ 3) (w0 : va_W) (sz : Nat) (hT : TW ksC ad cy B qr s1 w0)  : Met l yX0_drawFirst wsX0_drawFirst ({ frames := 3, cells := 0, slots := 0, locals := 63 }) (va_Pc [.ref (ad 145), .int a1] (wpreS adK adV dC dI cy sz w0)) (va_Qv (P_X0_drawFirst_1 ad cy B qr s1 a1 w0) (fun u : va_W => wpost dC dI cy (va_A w0 sz) u) (va_A w0 sz)) 0 0 (va_A w0 sz) := by
  refine Met.ofW (cc := cX0_drawFirst) (maxL := 6) (ret := none) (by decide) rfl ?_
  intro p e s m args below meth c s₁ Bk hml hv
  obtain ⟨rfl, ⟨hsz, hP, hK, hD0⟩, hE, hSR⟩ := hv
  have hx := Bk.exec
  have hb := Bk.bytes
  have hr := Bk.returns
  have hlocks := Bk.notSynchronized
  have hC : CallFix p m c cX0_drawFirst 6 s _ wsX0_drawFirst RX0 := ⟨hx, hb, hml, findClass_of_methodNamed Bk.named, atoms_spec (ws := wsX0_drawFirst) Bk.pre⟩
  subst hsz
  have hD := hD0.self (sz := s.heap.size)
  generalize hAe : va_A w0 s.heap.size = A at hD hE ⊢
  have hA : ∀ q : Nat, s.heap.size ≤ q → A q := fun q h => by rw [← hAe]; exact Or.inr h
  have hw : Wd dC dI A s.heap s.heap [] w0 := ⟨hP, hD, va_S.rf⟩
  have hF : FE ksC [(43, 0, 1100)] w0 w0 := FE.rf
  have hl := lv_entry ([.ref (ad 145), .int a1]) (n := 6) (Nat.le_of_ble_eq_true rfl)
  rw [lg_entry_eq]
  generalize (lg_sl ([.ref (ad 145), .int a1]) ++ List.replicate (6 - (lg_sl ([.ref (ad 145), .int a1])).length) Slot.unset).toArray = ls at hl ⊢
  have hl : lv_has ls 6 [(0, .ref (ad 145)), (1, .int a1)] := hl
  generalize hloc : ([] : List Loc) = locs at hw ⊢
  have hinX0 : ∀ w ∈ u_ws RX0 TX0 4, w ∈ wsX0_drawFirst := fun _ h => List.mem_cons_of_mem _ (List.mem_append_left _ (List.mem_append_left _ (List.mem_append_right _ (h))))
  have hinX5 : ∀ w ∈ u_ws RX5 TX5 14, w ∈ wsX0_drawFirst := fun _ h => List.mem_cons_of_mem _ (List.mem_append_left _ (List.mem_append_right _ (h)))
  have hinX7 : ∀ w ∈ u_ws RX7 TX7 12, w ∈ wsX0_drawFirst := fun _ h => List.mem_cons_of_mem _ (List.mem_append_right _ (h))
  have L15 : ∀ (n15 : Nat) (v15_3 : Int32) (f15_39_9 : Int32) (H : Heap) (locs : List Loc) (ls : Array Slot) (w1 : va_W), 0 ≤ a1.toInt → a1.toInt ≤ 3 → (-1) ≤ v15_3.toInt → v15_3.toInt ≤ 11 → 0 ≤ f15_39_9.toInt → f15_39_9.toInt ≤ 12 → (v15_3.toInt - (-1)).toNat < n15 → Wd dC dI A s.heap H locs w1 → TW ksC ad cy B qr s1 w1 → FE ksC [(43, 0, 1100)] w0 w1 → gi w1 39 9 = f15_39_9 → lv_has ls 6 [(0, .ref (ad 145)), (1, .int a1), (2, .ref (ad 39)), (3, .int v15_3)] → W p l e ({ frames := 3, cells := 0, slots := 0, locals := 63 }) s m (List.toArray [.ref (ad 145), .int a1]) below meth c H locs 0 0 (MQ below (va_Qv (P_X0_drawFirst_1 ad cy B qr s1 a1 w0) (fun u : va_W => wpost dC dI cy A u) A) (List.toArray [.ref (ad 145), .int a1]) s 0 0 A) (F0 m 15 ls []) := by
    intro n15
    induction n15 with
    | zero => intro v15_3 f15_39_9 H locs ls w1 r2 t3 r4 t5 r6 t7 hm15 hw hT hF c8 hl; omega
    | succ n15 ih15 =>
      intro v15_3 f15_39_9 H locs ls w1 r2 t3 r4 t5 r6 t7 hm15 hw hT hF c8 hl
      have L30 : ∀ (n30 : Nat) (v30_4 : Int32) (v30_5 : Int32) (H : Heap) (locs : List Loc) (ls : Array Slot) (w9 : va_W), 0 ≤ a1.toInt → a1.toInt ≤ 3 → 0 ≤ v15_3.toInt → v15_3.toInt ≤ 11 → 0 ≤ v30_5.toInt → v30_5.toInt ≤ 2 → 0 ≤ f15_39_9.toInt → f15_39_9.toInt ≤ 12 → (2 - v30_5.toInt).toNat < n30 → Wd dC dI A s.heap H locs w9 → TW ksC ad cy B qr s1 w9 → FE ksC [(43, 0, 1100)] w0 w9 → gi w9 39 9 = f15_39_9 → lv_has ls 6 [(0, .ref (ad 145)), (1, .int a1), (2, .ref (ad 39)), (3, .int v15_3), (4, .int v30_4), (5, .int v30_5)] → W p l e ({ frames := 3, cells := 0, slots := 0, locals := 63 }) s m (List.toArray [.ref (ad 145), .int a1]) below meth c H locs 0 0 (MQ below (va_Qv (P_X0_drawFirst_1 ad cy B qr s1 a1 w0) (fun u : va_W => wpost dC dI cy A u) A) (List.toArray [.ref (ad 145), .int a1]) s 0 0 A) (F0 m 30 ls []) := by
        intro n30
        induction n30 with
        | zero => intro v30_4 v30_5 H locs ls w9 r10 t11 r12 t13 r14 t15 r16 t17 hm30 hw hT hF c18 hl; omega
        | succ n30 ih30 =>
          intro v30_4 v30_5 H locs ls w9 r10 t11 r12 t13 r14 t15 r16 t17 hm30 hw hT hF c18 hl
          have J54 : ∀ (H : Heap) (locs : List Loc) (ls : Array Slot) (w19 : va_W), 0 ≤ a1.toInt → a1.toInt ≤ 3 → 0 ≤ v15_3.toInt → v15_3.toInt ≤ 11 → 0 ≤ v30_5.toInt → v30_5.toInt ≤ 1 → 0 ≤ f15_39_9.toInt → f15_39_9.toInt ≤ 12 → Wd dC dI A s.heap H locs w19 → TW ksC ad cy B qr s1 w19 → FE ksC [(43, 0, 1100)] w0 w19 → gi w19 39 9 = f15_39_9 → lv_has ls 6 [(0, .ref (ad 145)), (1, .int a1), (2, .ref (ad 39)), (3, .int v15_3), (4, .int v30_4), (5, .int v30_5)] → W p l e ({ frames := 3, cells := 0, slots := 0, locals := 63 }) s m (List.toArray [.ref (ad 145), .int a1]) below meth c H locs 0 0 (MQ below (va_Qv (P_X0_drawFirst_1 ad cy B qr s1 a1 w0) (fun u : va_W => wpost dC dI cy A u) A) (List.toArray [.ref (ad 145), .int a1]) s 0 0 A) (F0 m 54 ls []) := by
            intro H locs ls w19 r20 t21 r22 t23 r24 t25 r26 t27 hw hT hF c28 hl
            obtain ⟨x29, ex29⟩ : ∃ y : Int32, y = v30_5 + Int32.ofInt 1 := ⟨_, rfl⟩
            refine lv_iinc (v := x29) (lv' := [(5, .int x29), (0, .ref (ad 145)), (1, .int a1), (2, .ref (ad 39)), (3, .int v15_3), (4, .int v30_4)]) hx hb dX0_drawFirst_54 hl (k := 5) rfl ex29.symm (by decide) rfl (fun ls hl => ?_)
            have ex29 : x29.toInt = v30_5.toInt + 1 := by rw [ex29]; exact wk_add (y := 1) (show -2147483648 ≤ v30_5.toInt + 1 by omega) (show v30_5.toInt + 1 ≤ 2147483647 by omega)
            refine lv_goto (tgt := 30) hx hb dX0_drawFirst_57 (by decide) ?_
            exact ih30 v30_4 x29 H locs ls w19 (show 0 ≤ a1.toInt by omega) (show a1.toInt ≤ 3 by omega) (show 0 ≤ v15_3.toInt by omega) (show v15_3.toInt ≤ 11 by omega) (show 0 ≤ x29.toInt by omega) (show x29.toInt ≤ 2 by omega) (show 0 ≤ f15_39_9.toInt by omega) (show f15_39_9.toInt ≤ 12 by omega) (show (2 - x29.toInt).toNat < n30 by omega) hw hT hF c28 (lv_sub hl [1, 2, 3, 4, 5, 0] rfl)
          refine lv_iload hx hb dX0_drawFirst_30 (lv_at hl 5 rfl) ?_
          refine lv_iconst (v := 2) hx hb dX0_drawFirst_32 (by decide) ?_
          refine lv_icmp_ge (tgt := 60) hx hb dX0_drawFirst_33 (by decide) (fun c30 => ?_) (fun c30 => ?_)
          · have c30 : (2 : Int) ≤ v30_5.toInt := wk_le.mp c30
            obtain ⟨x31, ex31⟩ : ∃ y : Int32, y = v15_3 + Int32.ofInt (-1) := ⟨_, rfl⟩
            refine lv_iinc (v := x31) (lv' := [(3, .int x31), (0, .ref (ad 145)), (1, .int a1), (2, .ref (ad 39)), (4, .int v30_4), (5, .int v30_5)]) hx hb dX0_drawFirst_60 hl (k := 3) rfl ex31.symm (by decide) rfl (fun ls hl => ?_)
            have ex31 : x31.toInt = v15_3.toInt + (-1) := by rw [ex31]; exact wk_add (y := (-1)) (show -2147483648 ≤ v15_3.toInt + (-1) by omega) (show v15_3.toInt + (-1) ≤ 2147483647 by omega)
            refine lv_goto (tgt := 15) hx hb dX0_drawFirst_63 (by decide) ?_
            exact ih15 x31 f15_39_9 H locs ls w9 (show 0 ≤ a1.toInt by omega) (show a1.toInt ≤ 3 by omega) (show (-1) ≤ x31.toInt by omega) (show x31.toInt ≤ 11 by omega) (show 0 ≤ f15_39_9.toInt by omega) (show f15_39_9.toInt ≤ 12 by omega) (show (x31.toInt - (-1)).toNat < n15 by omega) hw hT hF c18 (lv_sub hl [1, 2, 3, 0] rfl)
          · have c30 : v30_5.toInt < (2 : Int) := wk_leF c30
            refine lv_iload hx hb dX0_drawFirst_36 (lv_at hl 4 rfl) ?_
            refine lv_iload hx hb dX0_drawFirst_38 (lv_at hl 5 rfl) ?_
            refine lv_ishr hx hb dX0_drawFirst_40 ?_
            refine lv_topi (fun x32 ex32 => ?_)
            refine lv_iconst (v := 1) hx hb dX0_drawFirst_41 (by decide) ?_
            refine lv_iand hx hb dX0_drawFirst_42 ?_
            refine lv_topi (fun x33 ex33 => ?_)
            have bx33 : 0 ≤ x33.toInt ∧ x33.toInt ≤ (1 : Int) := by rw [ex33]; exact wk_and (by decide)
            refine lv_if_eq (tgt := 54) hx hb dX0_drawFirst_43 (by decide) (fun c34 => ?_) (fun c34 => ?_)
            · have c34 : x33.toInt = (0 : Int) := wk_eq.mp c34
              exact J54  H locs ls w9 (show 0 ≤ a1.toInt by omega) (show a1.toInt ≤ 3 by omega) (show 0 ≤ v15_3.toInt by omega) (show v15_3.toInt ≤ 11 by omega) (show 0 ≤ v30_5.toInt by omega) (show v30_5.toInt ≤ 1 by omega) (show 0 ≤ f15_39_9.toInt by omega) (show f15_39_9.toInt ≤ 12 by omega)  hw hT hF c18 (lv_sub hl [0, 1, 2, 3, 4, 5] rfl)
            · have c34 : ¬ x33.toInt = (0 : Int) := wk_eqF c34
              refine lv_aload_n hx hb dX0_drawFirst_46 rfl (lv_at hl 0 rfl) ?_
              refine lv_iload_n hx hb dX0_drawFirst_47 rfl (lv_at hl 1 rfl) ?_
              refine lv_iload_n hx hb dX0_drawFirst_48 rfl (lv_at hl 3 rfl) ?_
              refine lv_iload hx hb dX0_drawFirst_49 (lv_at hl 5 rfl) ?_
              refine tk_Vv hC hK hw hT hA hE hSR kC_at145 (by decide) rfl (k_X0_drawFirstBy_1 l adK adV dC dI cy ad B (by omega) (by omega) qr s1   a1 (show 0 ≤ a1.toInt by omega) (show a1.toInt ≤ 3 by omega) v15_3 (show 0 ≤ v15_3.toInt by omega) (show v15_3.toInt ≤ 11 by omega) v30_5 (show 0 ≤ v30_5.toInt by omega) (show v30_5.toInt ≤ 1 by omega) w9 H.size hT ) (cwV 3 hC.2.2.2.2 gX0_drawFirst_X0_drawFirstBy rfl rfl rfl (by decide +kernel) ⟨Nat.le_of_ble_eq_true rfl, Nat.le_of_ble_eq_true rfl⟩) rfl hl.1 rfl (Nat.le_of_ble_eq_true rfl) dX0_drawFirst_51 (fun w37 H locs hp36 hw => ?_)
              obtain ⟨hT, k38, hg39⟩ := hp36
              have hF := hF.tr k38 (by decide)
              have c40 := k38.gi kC_at39 (by decide) c18
              clear hg39
              exact J54  H locs ls w37 (show 0 ≤ a1.toInt by omega) (show a1.toInt ≤ 3 by omega) (show 0 ≤ v15_3.toInt by omega) (show v15_3.toInt ≤ 11 by omega) (show 0 ≤ v30_5.toInt by omega) (show v30_5.toInt ≤ 1 by omega) (show 0 ≤ f15_39_9.toInt by omega) (show f15_39_9.toInt ≤ 12 by omega)  hw hT hF c40 (lv_sub hl [0, 1, 2, 3, 4, 5] rfl)
      refine lv_iload_n hx hb dX0_drawFirst_15 rfl (lv_at hl 3 rfl) ?_
      refine lv_if_lt (tgt := 66) hx hb dX0_drawFirst_16 (by decide) (fun c41 => ?_) (fun c41 => ?_)
      · have c41 : v15_3.toInt < (0 : Int) := wk_lt.mp c41
        exact tk_vret hC hr hlocks hK ⟨hT, hF, trivial⟩ hw dX0_drawFirst_66
      · have c41 : (0 : Int) ≤ v15_3.toInt := wk_ltF c41
        refine lv_aload_n hx hb dX0_drawFirst_19 rfl (lv_at hl 0 rfl) ?_
        refine lv_iload_n hx hb dX0_drawFirst_20 rfl (lv_at hl 1 rfl) ?_
        refine lv_iload_n hx hb dX0_drawFirst_21 rfl (lv_at hl 3 rfl) ?_
        refine tk_Vi hC hK hw hT hA hE hSR kC_at145 (by decide) rfl (k_X0_signOf_1 l adK adV dC dI cy ad B (by omega) (by omega) qr s1   a1 (show 0 ≤ a1.toInt by omega) (show a1.toInt ≤ 3 by omega) v15_3 (show 0 ≤ v15_3.toInt by omega) (show v15_3.toInt ≤ 11 by omega) w1 H.size hT ) (cwV 2 hC.2.2.2.2 gX0_drawFirst_X0_signOf rfl rfl rfl (by decide +kernel) ⟨Nat.le_of_ble_eq_true rfl, Nat.le_of_ble_eq_true rfl⟩) rfl hl.1 rfl (Nat.le_of_ble_eq_true rfl) dX0_drawFirst_22 (fun r42 w44 H locs hp43 hw => ?_)
        obtain ⟨hT, k45, hg46⟩ := hp43
        have hF := hF.tr k45 (by decide)
        have c47 := k45.gi kC_at39 (by decide) c8
        clear hg46
        refine lv_istore (lv' := [(4, .int r42), (0, .ref (ad 145)), (1, .int a1), (2, .ref (ad 39)), (3, .int v15_3)]) hx hb dX0_drawFirst_25 hl (by decide) rfl (fun ls hl => ?_)
        refine lv_iconst (v := 0) hx hb dX0_drawFirst_27 (by decide) ?_
        refine lv_istore (lv' := [(5, .int 0), (4, .int r42), (0, .ref (ad 145)), (1, .int a1), (2, .ref (ad 39)), (3, .int v15_3)]) hx hb dX0_drawFirst_28 hl (by decide) rfl (fun ls hl => ?_)
        exact L30 ((2 - (0 : Int)).toNat + 1) r42 0 H locs ls w44 (show 0 ≤ a1.toInt by omega) (show a1.toInt ≤ 3 by omega) (show 0 ≤ v15_3.toInt by omega) (show v15_3.toInt ≤ 11 by omega) (by decide) (by decide) (show 0 ≤ f15_39_9.toInt by omega) (show f15_39_9.toInt ≤ 12 by omega) (Nat.lt_succ_self _) hw hT hF c47 (lv_sub hl [2, 3, 4, 5, 1, 0] rfl)
  refine lv_aload_n hx hb dX0_drawFirst_0 rfl (lv_at hl 0 rfl) ?_
  refine tk_getA hC hK hw hT hinX0 kC_at145 (by decide) rfl 0 (by decide) (List.mem_of_getElem? (i := 1) rfl) rfl rfl dX0_drawFirst_1 ?_
  refine tk_getO hC hK hw hT hinX5 kC_at38 (by decide) rfl 0 (by decide) (List.mem_of_getElem? (i := 2) rfl) rfl rfl dX0_drawFirst_4 ?_
  refine lv_astore_n (lv' := [(2, .ref (ad 39)), (0, .ref (ad 145)), (1, .int a1)]) hx hb dX0_drawFirst_7 rfl hl (by decide) rfl (fun ls hl => ?_)
  refine lv_aload_n hx hb dX0_drawFirst_8 rfl (lv_at hl 0 rfl) ?_
  refine tk_geti hC hK hw hT hinX7 kC_at39 (by decide) rfl 9 (by decide) (List.mem_of_getElem? (i := 3) rfl) rfl rfl dX0_drawFirst_9 (fun x48 c49 rx48 tx48 => ?_)
  refine lv_iconst (v := 1) hx hb dX0_drawFirst_12 (by decide) ?_
  refine lv_isub hx hb dX0_drawFirst_13 ?_
  refine lv_topi (fun x50 ex50 => ?_)
  have ex50 : x50.toInt = x48.toInt - (1 : Int) := by rw [ex50]; exact wk_sub (show (-2147483648) ≤ x48.toInt - (1 : Int) by omega) (show x48.toInt - (1 : Int) ≤ 2147483647 by omega)
  refine lv_istore_n (lv' := [(3, .int x50), (2, .ref (ad 39)), (0, .ref (ad 145)), (1, .int a1)]) hx hb dX0_drawFirst_14 rfl hl (by decide) rfl (fun ls hl => ?_)
  exact L15 ((x50.toInt - (-1)).toNat + 1) x50 x48 s.heap locs ls w0 (show 0 ≤ a1.toInt by omega) (show a1.toInt ≤ 3 by omega) (show (-1) ≤ x50.toInt by omega) (show x50.toInt ≤ 11 by omega) (show 0 ≤ x48.toInt by omega) (show x48.toInt ≤ 12 by omega) (Nat.lt_succ_self _) hw hT hF c49 (lv_sub hl [2, 3, 1, 0] rfl)
abbrev P_X0_refresh_1 (ad : Nat → Nat) (cy : Nat → ClassId) (B : Int) (qr : Nat) (s1 : Int) (a1 : Int32) (w0 : va_W) : va_W → Prop := fun u => TW ksC ad cy B qr s1 u ∧ FE ksC [(42, 0, 1100), (43, 0, 1100), (44, 0, 11)] w0 u ∧ ((True))
set_option maxHeartbeats 4000000 in
set_option maxRecDepth 100000 in
theorem k_X0_refresh_1 (l : Launch) (adK adV : Nat → Nat) (dC : Nat → ClassId) (dI : Nat → Nat → Nat) (cy : Nat → ClassId) (ad : Nat → Nat) (B : Int) (hB0 : 2147483648 ≤ B) (hB1 : B ≤ 1152921504606846976) (qr : Nat) (s1 : Int)  (a1 : Int32) (ra1 : 0 ≤ a1.toInt) (ta1 : a1.toInt ≤ 3) (w0 : va_W) (sz : Nat) (hT : TW ksC ad cy B qr s1 w0)  : Met l yX0_refresh wsX0_refresh ({ frames := 4, cells := 0, slots := 0, locals := 88 }) (va_Pc [.ref (ad 145), .int a1] (wpreS adK adV dC dI cy sz w0)) (va_Qv (P_X0_refresh_1 ad cy B qr s1 a1 w0) (fun u : va_W => wpost dC dI cy (va_A w0 sz) u) (va_A w0 sz)) 0 0 (va_A w0 sz) := by
  refine Met.ofW (cc := cX0_refresh) (maxL := 2) (ret := none) (by decide) rfl ?_
  intro p e s m args below meth c s₁ Bk hml hv
  obtain ⟨rfl, ⟨hsz, hP, hK, hD0⟩, hE, hSR⟩ := hv
  have hx := Bk.exec
  have hb := Bk.bytes
  have hr := Bk.returns
  have hlocks := Bk.notSynchronized
  have hC : CallFix p m c cX0_refresh 2 s _ wsX0_refresh RX0 := ⟨hx, hb, hml, findClass_of_methodNamed Bk.named, atoms_spec (ws := wsX0_refresh) Bk.pre⟩
  subst hsz
  have hD := hD0.self (sz := s.heap.size)
  generalize hAe : va_A w0 s.heap.size = A at hD hE ⊢
  have hA : ∀ q : Nat, s.heap.size ≤ q → A q := fun q h => by rw [← hAe]; exact Or.inr h
  have hw : Wd dC dI A s.heap s.heap [] w0 := ⟨hP, hD, va_S.rf⟩
  have hF : FE ksC [(42, 0, 1100), (43, 0, 1100), (44, 0, 11)] w0 w0 := FE.rf
  have hl := lv_entry ([.ref (ad 145), .int a1]) (n := 2) (Nat.le_of_ble_eq_true rfl)
  rw [lg_entry_eq]
  generalize (lg_sl ([.ref (ad 145), .int a1]) ++ List.replicate (2 - (lg_sl ([.ref (ad 145), .int a1])).length) Slot.unset).toArray = ls at hl ⊢
  have hl : lv_has ls 2 [(0, .ref (ad 145)), (1, .int a1)] := hl
  generalize hloc : ([] : List Loc) = locs at hw ⊢
  have hinX0 : ∀ w ∈ u_ws RX0 TX0 4, w ∈ wsX0_refresh := fun _ h => List.mem_cons_of_mem _ (List.mem_append_left _ (List.mem_append_left _ (List.mem_append_right _ (h))))
  have J31 : ∀ (H : Heap) (locs : List Loc) (ls : Array Slot) (w1 : va_W), 0 ≤ a1.toInt → a1.toInt ≤ 3 → Wd dC dI A s.heap H locs w1 → TW ksC ad cy B qr s1 w1 → FE ksC [(42, 0, 1100), (43, 0, 1100), (44, 0, 11)] w0 w1 → lv_has ls 2 [(0, .ref (ad 145)), (1, .int a1)] → W p l e ({ frames := 4, cells := 0, slots := 0, locals := 88 }) s m (List.toArray [.ref (ad 145), .int a1]) below meth c H locs 0 0 (MQ below (va_Qv (P_X0_refresh_1 ad cy B qr s1 a1 w0) (fun u : va_W => wpost dC dI cy A u) A) (List.toArray [.ref (ad 145), .int a1]) s 0 0 A) (F0 m 31 ls []) := by
    intro H locs ls w1 r2 t3 hw hT hF hl
    exact tk_vret hC hr hlocks hK ⟨hT, hF, trivial⟩ hw dX0_refresh_31
  refine lv_aload_n hx hb dX0_refresh_0 rfl (lv_at hl 0 rfl) ?_
  refine tk_getA hC hK hw hT hinX0 kC_at145 (by decide) rfl 3 (by decide) (List.mem_of_getElem? (i := 1) rfl) rfl rfl dX0_refresh_1 ?_
  refine lv_iload_n hx hb dX0_refresh_4 rfl (lv_at hl 1 rfl) ?_
  refine tk_zald hC hK hw hT kC_at148 rfl rfl (show 0 ≤ a1.toInt by omega) (show a1.toInt < 11 by omega) dX0_refresh_5 (fun x4 c5 rx4 tx4 => ?_)
  refine lv_if_ne (tgt := 31) hx hb dX0_refresh_6 (by decide) (fun c6 => ?_) (fun c6 => ?_)
  · have c6 : ¬ x4.toInt = (0 : Int) := wk_eqF c6
    exact J31  s.heap locs ls w0 (show 0 ≤ a1.toInt by omega) (show a1.toInt ≤ 3 by omega)  hw hT hF  (lv_sub hl [0, 1] rfl)
  · have c6 : x4.toInt = (0 : Int) := wk_eq.mp c6
    refine lv_aload_n hx hb dX0_refresh_9 rfl (lv_at hl 0 rfl) ?_
    refine lv_iload_n hx hb dX0_refresh_10 rfl (lv_at hl 1 rfl) ?_
    refine tk_Vv hC hK hw hT hA hE hSR kC_at145 (by decide) rfl (k_X0_drawStreets_1 l adK adV dC dI cy ad B (by omega) (by omega) qr s1   a1 (show 0 ≤ a1.toInt by omega) (show a1.toInt ≤ 3 by omega) w0 s.heap.size hT ) (cwV 1 hC.2.2.2.2 gX0_refresh_X0_drawStreets rfl rfl rfl (by decide +kernel) ⟨Nat.le_of_ble_eq_true rfl, Nat.le_of_ble_eq_true rfl⟩) rfl hl.1 rfl (Nat.le_of_ble_eq_true rfl) dX0_refresh_11 (fun w9 H locs hp8 hw => ?_)
    obtain ⟨hT, k10, hg11⟩ := hp8
    have hF := hF.tr k10 (by decide)
    clear hg11
    refine lv_aload_n hx hb dX0_refresh_14 rfl (lv_at hl 0 rfl) ?_
    refine lv_iload_n hx hb dX0_refresh_15 rfl (lv_at hl 1 rfl) ?_
    refine tk_Vv hC hK hw hT hA hE hSR kC_at145 (by decide) rfl (k_X0_drawHours_1 l adK adV dC dI cy ad B (by omega) (by omega) qr s1   a1 (show 0 ≤ a1.toInt by omega) (show a1.toInt ≤ 3 by omega) w9 H.size hT ) (cwV 1 hC.2.2.2.2 gX0_refresh_X0_drawHours rfl rfl rfl (by decide +kernel) ⟨Nat.le_of_ble_eq_true rfl, Nat.le_of_ble_eq_true rfl⟩) rfl hl.1 rfl (Nat.le_of_ble_eq_true rfl) dX0_refresh_16 (fun w14 H locs hp13 hw => ?_)
    obtain ⟨hT, k15, hg16⟩ := hp13
    have hF := hF.tr k15 (by decide)
    clear hg16
    refine lv_aload_n hx hb dX0_refresh_19 rfl (lv_at hl 0 rfl) ?_
    refine lv_iload_n hx hb dX0_refresh_20 rfl (lv_at hl 1 rfl) ?_
    refine tk_Vv hC hK hw hT hA hE hSR kC_at145 (by decide) rfl (k_X0_drawFirst_1 l adK adV dC dI cy ad B (by omega) (by omega) qr s1   a1 (show 0 ≤ a1.toInt by omega) (show a1.toInt ≤ 3 by omega) w14 H.size hT ) (cwV 1 hC.2.2.2.2 gX0_refresh_X0_drawFirst rfl rfl rfl (by decide +kernel) ⟨Nat.le_of_ble_eq_true rfl, Nat.le_of_ble_eq_true rfl⟩) rfl hl.1 rfl (Nat.le_of_ble_eq_true rfl) dX0_refresh_21 (fun w19 H locs hp18 hw => ?_)
    obtain ⟨hT, k20, hg21⟩ := hp18
    have hF := hF.tr k20 (by decide)
    clear hg21
    refine lv_aload_n hx hb dX0_refresh_24 rfl (lv_at hl 0 rfl) ?_
    refine tk_getA hC hK hw hT hinX0 kC_at145 (by decide) rfl 3 (by decide) (List.mem_of_getElem? (i := 1) rfl) rfl rfl dX0_refresh_25 ?_
    refine lv_iload_n hx hb dX0_refresh_28 rfl (lv_at hl 1 rfl) ?_
    refine lv_iconst (v := 1) hx hb dX0_refresh_29 (by decide) ?_
    refine tk_zast hC hK hw hT kC_at148 (by decide) rfl rfl (show 0 ≤ a1.toInt by omega) (show a1.toInt < 11 by omega) (by decide) (by decide) dX0_refresh_30 (fun H locs w22 hw hT k24 c23 => ?_)
    have hF := hF.put kC_at148 (inE_of (a := 0) (b := 11) (by decide) (show 0 ≤ a1.toInt.toNat by omega) (show a1.toInt.toNat ≤ 11 by omega)) k24
    exact J31  H locs ls w22 (show 0 ≤ a1.toInt by omega) (show a1.toInt ≤ 3 by omega)  hw hT hF  (lv_sub hl [0, 1] rfl)
