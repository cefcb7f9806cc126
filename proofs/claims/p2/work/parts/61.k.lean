abbrev P_X3_readTest_10 (ad : Nat → Nat) (cy : Nat → ClassId) (B : Int) (qr : Nat) (s1 : Int)  (w0 : va_W) : va_W → Prop := fun u => TW ksC ad cy B qr s1 u ∧ FE ksC [(2, 3, 3), (3, 2, 2), (6, 1, 1), (6, 3, 3), (6, 4, 4), (22, 0, 13), (23, 0, 400)] w0 u ∧ ((True))
set_option maxHeartbeats 4000000 in
set_option maxRecDepth 100000 in
theorem k_X3_readTest_10 (l : Launch) (adK adV : Nat → Nat) (dC : Nat → ClassId) (dI : Nat → Nat → Nat) (cy : Nat → ClassId) (ad : Nat → Nat) (B : Int) (hB0 : 2147483648 ≤ B) (hB1 : B ≤ 1152921504606846976) (qr : Nat) (s1 : Int) (hqr : ksC[qr]? = some 2)  (w0 : va_W) (sz : Nat) (hT : TW ksC ad cy B qr s1 w0) (cf0_ : gi w0 1 4 = 0) : Met l yX3_readTest wsX3_readTest ({ frames := 11, cells := 0, slots := 0, locals := 282 }) (va_Pc [.ref (ad 3), .int 9] (wpreS adK adV dC dI cy sz w0)) (va_Qv (P_X3_readTest_10 ad cy B qr s1  w0) (fun u : va_W => wpost dC dI cy (va_A w0 sz) u) (va_A w0 sz)) 0 0 (va_A w0 sz) := by
  refine Met.ofW (cc := cX3_readTest) (maxL := 4) (ret := none) (by decide) rfl ?_
  intro p e s m args below meth c s₁ Bk hml hv
  obtain ⟨rfl, ⟨hsz, hP, hK, hD0⟩, hE, hSR⟩ := hv
  have hx := Bk.exec
  have hb := Bk.bytes
  have hr := Bk.returns
  have hlocks := Bk.notSynchronized
  have hC : CallFix p m c cX3_readTest 4 s _ wsX3_readTest RX3 := ⟨hx, hb, hml, findClass_of_methodNamed Bk.named, atoms_spec (ws := wsX3_readTest) Bk.pre⟩
  subst hsz
  have hD := hD0.self (sz := s.heap.size)
  generalize hAe : va_A w0 s.heap.size = A at hD hE ⊢
  have hA : ∀ q : Nat, s.heap.size ≤ q → A q := fun q h => by rw [← hAe]; exact Or.inr h
  have hw : Wd dC dI A s.heap s.heap [] w0 := ⟨hP, hD, va_S.rf⟩
  have hF : FE ksC [(2, 3, 3), (3, 2, 2), (6, 1, 1), (6, 3, 3), (6, 4, 4), (22, 0, 13), (23, 0, 400)] w0 w0 := FE.rf
  have hl := lv_entry ([.ref (ad 3), .int 9]) (n := 4) (Nat.le_of_ble_eq_true rfl)
  rw [lg_entry_eq]
  generalize (lg_sl ([.ref (ad 3), .int 9]) ++ List.replicate (4 - (lg_sl ([.ref (ad 3), .int 9])).length) Slot.unset).toArray = ls at hl ⊢
  have hl : lv_has ls 4 [(0, .ref (ad 3)), (1, .int 9)] := hl
  generalize hloc : ([] : List Loc) = locs at hw ⊢
  have hinX3 : ∀ w ∈ u_ws RX3 TX3 3, w ∈ wsX3_readTest := fun _ h => List.mem_cons_of_mem _ (List.mem_append_left _ (List.mem_append_left _ (List.mem_append_right _ (h))))
  have J86 : ∀ (v86_2 : Int32) (v86_3 : Int32) (H : Heap) (locs : List Loc) (ls : Array Slot) (w1 : va_W), (-1) ≤ v86_2.toInt → v86_2.toInt ≤ 21 → 0 ≤ v86_3.toInt → v86_3.toInt ≤ 400 → Wd dC dI A s.heap H locs w1 → TW ksC ad cy B qr s1 w1 → FE ksC [(2, 3, 3), (3, 2, 2), (6, 1, 1), (6, 3, 3), (6, 4, 4), (22, 0, 13), (23, 0, 400)] w0 w1 → lv_has ls 4 [(0, .ref (ad 3)), (1, .int 9), (2, .int v86_2), (3, .int v86_3)] → W p l e ({ frames := 11, cells := 0, slots := 0, locals := 282 }) s m (List.toArray [.ref (ad 3), .int 9]) below meth c H locs 0 0 (MQ below (va_Qv (P_X3_readTest_10 ad cy B qr s1  w0) (fun u : va_W => wpost dC dI cy A u) A) (List.toArray [.ref (ad 3), .int 9]) s 0 0 A) (F0 m 86 ls []) := by
    intro v86_2 v86_3 H locs ls w1 r2 t3 r4 t5 hw hT hF hl
    refine lv_aload_n hx hb dX3_readTest_86 rfl (lv_at hl 0 rfl) ?_
    refine lv_iload_n hx hb dX3_readTest_87 rfl (lv_at hl 2 rfl) ?_
    refine tk_Vv hC hK hw hT hA hE hSR kC_at3 (by decide) rfl (k_X3_addWaiting_1 l adK adV dC dI cy ad B (by omega) (by omega) qr s1 hqr  v86_2 w1 H.size hT ) (cwV 1 hC.2.2.2.2 gX3_readTest_X3_addWaiting rfl rfl rfl (by decide +kernel) ⟨Nat.le_of_ble_eq_true rfl, Nat.le_of_ble_eq_true rfl⟩) rfl hl.1 rfl (Nat.le_of_ble_eq_true rfl) dX3_readTest_88 (fun w8 H locs hp7 hw => ?_)
    obtain ⟨hT, k9, hg10⟩ := hp7
    have hF := hF.tr k9 (by decide)
    clear hg10
    exact tk_vret hC hr hlocks hK ⟨hT, hF, trivial⟩ hw dX3_readTest_91
  have L9 : ∀ (n9 : Nat) (v9_2 : Int32) (v9_3 : Int32) (H : Heap) (locs : List Loc) (ls : Array Slot) (w11 : va_W), (-1) ≤ v9_2.toInt → v9_2.toInt ≤ 21 → 0 ≤ v9_3.toInt → v9_3.toInt ≤ 400 → (400 - v9_3.toInt).toNat < n9 → Wd dC dI A s.heap H locs w11 → TW ksC ad cy B qr s1 w11 → FE ksC [(2, 3, 3), (3, 2, 2), (6, 1, 1), (6, 3, 3), (6, 4, 4), (22, 0, 13), (23, 0, 400)] w0 w11 → lv_has ls 4 [(0, .ref (ad 3)), (1, .int 9), (2, .int v9_2), (3, .int v9_3)] → W p l e ({ frames := 11, cells := 0, slots := 0, locals := 282 }) s m (List.toArray [.ref (ad 3), .int 9]) below meth c H locs 0 0 (MQ below (va_Qv (P_X3_readTest_10 ad cy B qr s1  w0) (fun u : va_W => wpost dC dI cy A u) A) (List.toArray [.ref (ad 3), .int 9]) s 0 0 A) (F0 m 9 ls []) := by
    intro n9
    induction n9 with
    | zero => intro v9_2 v9_3 H locs ls w11 r12 t13 r14 t15 hm9 hw hT hF hl; omega
    | succ n9 ih9 =>
      intro v9_2 v9_3 H locs ls w11 r12 t13 r14 t15 hm9 hw hT hF hl
      have J80 : ∀ (v80_2 : Int32) (H : Heap) (locs : List Loc) (ls : Array Slot) (w16 : va_W), (-1) ≤ v80_2.toInt → v80_2.toInt ≤ 21 → 0 ≤ v9_3.toInt → v9_3.toInt ≤ 399 → Wd dC dI A s.heap H locs w16 → TW ksC ad cy B qr s1 w16 → FE ksC [(2, 3, 3), (3, 2, 2), (6, 1, 1), (6, 3, 3), (6, 4, 4), (22, 0, 13), (23, 0, 400)] w0 w16 → lv_has ls 4 [(0, .ref (ad 3)), (1, .int 9), (2, .int v80_2), (3, .int v9_3)] → W p l e ({ frames := 11, cells := 0, slots := 0, locals := 282 }) s m (List.toArray [.ref (ad 3), .int 9]) below meth c H locs 0 0 (MQ below (va_Qv (P_X3_readTest_10 ad cy B qr s1  w0) (fun u : va_W => wpost dC dI cy A u) A) (List.toArray [.ref (ad 3), .int 9]) s 0 0 A) (F0 m 80 ls []) := by
        intro v80_2 H locs ls w16 r17 t18 r19 t20 hw hT hF hl
        obtain ⟨x21, ex21⟩ : ∃ y : Int32, y = v9_3 + Int32.ofInt 1 := ⟨_, rfl⟩
        refine lv_iinc (v := x21) (lv' := [(3, .int x21), (0, .ref (ad 3)), (1, .int 9), (2, .int v80_2)]) hx hb dX3_readTest_80 hl (k := 3) rfl ex21.symm (by decide) rfl (fun ls hl => ?_)
        have ex21 : x21.toInt = v9_3.toInt + 1 := by rw [ex21]; exact wk_add (y := 1) (show -2147483648 ≤ v9_3.toInt + 1 by omega) (show v9_3.toInt + 1 ≤ 2147483647 by omega)
        refine lv_goto (tgt := 9) hx hb dX3_readTest_83 (by decide) ?_
        exact ih9 v80_2 x21 H locs ls w16 (show (-1) ≤ v80_2.toInt by omega) (show v80_2.toInt ≤ 21 by omega) (show 0 ≤ x21.toInt by omega) (show x21.toInt ≤ 400 by omega) (show (400 - x21.toInt).toNat < n9 by omega) hw hT hF  (lv_sub hl [1, 2, 3, 0] rfl)
      refine lv_iload_n hx hb dX3_readTest_9 rfl (lv_at hl 3 rfl) ?_
      refine lv_sipush (v := 400) hx hb dX3_readTest_10 (by decide) ?_
      refine lv_icmp_ge (tgt := 86) hx hb dX3_readTest_13 (by decide) (fun c22 => ?_) (fun c22 => ?_)
      · have c22 : (400 : Int) ≤ v9_3.toInt := wk_le.mp c22
        exact J86 v9_2 v9_3 H locs ls w11 (show (-1) ≤ v9_2.toInt by omega) (show v9_2.toInt ≤ 21 by omega) (show 0 ≤ v9_3.toInt by omega) (show v9_3.toInt ≤ 400 by omega)  hw hT hF  (lv_sub hl [0, 1, 2, 3] rfl)
      · have c22 : v9_3.toInt < (400 : Int) := wk_leF c22
        refine lv_aload_n hx hb dX3_readTest_16 rfl (lv_at hl 0 rfl) ?_
        refine tk_getA hC hK hw hT hinX3 kC_at3 (by decide) rfl 0 (by decide) (List.mem_of_getElem? (i := 1) rfl) rfl rfl dX3_readTest_17 ?_
        refine tk_Vi hC hK hw hT hA hE hSR kC_at1 (by decide) rfl (k_X6_isFaulty_1 l adK adV dC dI cy ad B (by omega) (by omega) qr s1    w11 H.size hT ) (cwV 0 hC.2.2.2.2 gX3_readTest_X6_isFaulty rfl rfl rfl (by decide +kernel) ⟨Nat.le_of_ble_eq_true rfl, Nat.le_of_ble_eq_true rfl⟩) rfl hl.1 rfl (Nat.le_of_ble_eq_true rfl) dX3_readTest_20 (fun r23 w25 H locs hp24 hw => ?_)
        obtain ⟨hT, k26, hg31⟩ := hp24
        have hF := hF.tr k26 (by decide)
        rcases hg31 with ⟨rfl, ⟨x27, c28, rx27, tx27⟩⟩ | ⟨rfl, ⟨x29, c30, rx29, tx29⟩⟩
        · refine lv_if_ne (tgt := 86) hx hb dX3_readTest_23 (by decide) (fun c => absurd (by decide) c) (fun _ => ?_)
          refine lv_aload_n hx hb dX3_readTest_26 rfl (lv_at hl 0 rfl) ?_
          refine tk_getA hC hK hw hT hinX3 kC_at3 (by decide) rfl 0 (by decide) (List.mem_of_getElem? (i := 1) rfl) rfl rfl dX3_readTest_27 ?_
          refine va_ldcS hx hb hC.2.2.2.1 hSR.2.2.2.2.2.2.1 dX3_readTest_30 ?_
          refine tk_Vi hC hK hw hT hA hE hSR kC_at1 (by decide) rfl (k_X6_takeWord_2 l adK adV dC dI cy ad B (by omega) (by omega) qr s1    w25 H.size hT ) (cwV 1 hC.2.2.2.2 gX3_readTest_X6_takeWord rfl rfl rfl (by decide +kernel) ⟨Nat.le_of_ble_eq_true rfl, Nat.le_of_ble_eq_true rfl⟩) rfl hl.1 rfl (Nat.le_of_ble_eq_true rfl) dX3_readTest_32 (fun r32 w34 H locs hp33 hw => ?_)
          obtain ⟨hT, k35, hg38⟩ := hp33
          have hF := hF.tr k35 (by decide)
          have c39 := k35.gi kC_at1 (by decide) c28
          rcases hg38 with rfl | ⟨rfl, ⟨x36, c37, rx36, tx36⟩⟩
          · refine lv_if_eq (tgt := 55) hx hb dX3_readTest_35 (by decide) (fun _ => ?_) (fun c => absurd (by decide) c)
            refine lv_aload_n hx hb dX3_readTest_55 rfl (lv_at hl 0 rfl) ?_
            refine tk_getA hC hK hw hT hinX3 kC_at3 (by decide) rfl 0 (by decide) (List.mem_of_getElem? (i := 1) rfl) rfl rfl dX3_readTest_56 ?_
            refine va_ldcS hx hb hC.2.2.2.1 hSR.2.2.2.2.2.2.2 dX3_readTest_59 ?_
            refine tk_Vi hC hK hw hT hA hE hSR kC_at1 (by decide) rfl (k_X6_takeWord_3 l adK adV dC dI cy ad B (by omega) (by omega) qr s1    w34 H.size hT ) (cwV 1 hC.2.2.2.2 gX3_readTest_X6_takeWord rfl rfl rfl (by decide +kernel) ⟨Nat.le_of_ble_eq_true rfl, Nat.le_of_ble_eq_true rfl⟩) rfl hl.1 rfl (Nat.le_of_ble_eq_true rfl) dX3_readTest_61 (fun r40 w42 H locs hp41 hw => ?_)
            obtain ⟨hT, k43, hg46⟩ := hp41
            have hF := hF.tr k43 (by decide)
            have c47 := k43.gi kC_at1 (by decide) c39
            rcases hg46 with rfl | ⟨rfl, ⟨x44, c45, rx44, tx44⟩⟩
            · refine lv_if_eq (tgt := 86) hx hb dX3_readTest_64 (by decide) (fun _ => ?_) (fun c => absurd (by decide) c)
              exact J86 v9_2 v9_3 H locs ls w42 (show (-1) ≤ v9_2.toInt by omega) (show v9_2.toInt ≤ 21 by omega) (show 0 ≤ v9_3.toInt by omega) (show v9_3.toInt ≤ 400 by omega)  hw hT hF  (lv_sub hl [0, 1, 2, 3] rfl)
            · refine lv_if_eq (tgt := 86) hx hb dX3_readTest_64 (by decide) (fun c => absurd c (by decide)) (fun _ => ?_)
              refine lv_aload_n hx hb dX3_readTest_67 rfl (lv_at hl 0 rfl) ?_
              refine lv_iload_n hx hb dX3_readTest_68 rfl (lv_at hl 2 rfl) ?_
              refine tk_Vv hC hK hw hT hA hE hSR kC_at3 (by decide) rfl (k_X3_addWaiting_1 l adK adV dC dI cy ad B (by omega) (by omega) qr s1 hqr  v9_2 w42 H.size hT ) (cwV 1 hC.2.2.2.2 gX3_readTest_X3_addWaiting rfl rfl rfl (by decide +kernel) ⟨Nat.le_of_ble_eq_true rfl, Nat.le_of_ble_eq_true rfl⟩) rfl hl.1 rfl (Nat.le_of_ble_eq_true rfl) dX3_readTest_69 (fun w50 H locs hp49 hw => ?_)
              obtain ⟨hT, k51, hg52⟩ := hp49
              have hF := hF.tr k51 (by decide)
              have c53 := k51.gi kC_at1 (by decide) c47
              have c54 := k51.gi kC_at1 (by decide) c45
              clear hg52
              refine lv_bipush (v := 21) hx hb dX3_readTest_72 (by decide) ?_
              refine lv_istore_n (lv' := [(2, .int 21), (0, .ref (ad 3)), (1, .int 9), (3, .int v9_3)]) hx hb dX3_readTest_74 rfl hl (by decide) rfl (fun ls hl => ?_)
              refine lv_aload_n hx hb dX3_readTest_75 rfl (lv_at hl 1 rfl) ?_
              refine lv_iload_n hx hb dX3_readTest_76 rfl (lv_at hl 2 rfl) ?_
              refine tk_Vv hC hK hw hT hA hE hSR kC_at3 (by decide) rfl (k_X3_readFact_10 l adK adV dC dI cy ad B (by omega) (by omega) qr s1 hqr   w50 H.size hT (c53.trans (wk_eq.mpr (show x27.toInt = 0 by omega)))) (cwV 1 hC.2.2.2.2 gX3_readTest_X3_readFact rfl rfl rfl (by decide +kernel) ⟨Nat.le_of_ble_eq_true rfl, Nat.le_of_ble_eq_true rfl⟩) rfl hl.1 rfl (Nat.le_of_ble_eq_true rfl) dX3_readTest_77 (fun w57 H locs hp56 hw => ?_)
              obtain ⟨hT, k58, hg59⟩ := hp56
              have hF := hF.tr k58 (by decide)
              clear hg59
              exact J80 21 H locs ls w57 (by decide) (by decide) (show 0 ≤ v9_3.toInt by omega) (show v9_3.toInt ≤ 399 by omega)  hw hT hF  (lv_sub hl [1, 2, 0, 3] rfl)
          · refine lv_if_eq (tgt := 55) hx hb dX3_readTest_35 (by decide) (fun c => absurd c (by decide)) (fun _ => ?_)
            refine lv_aload_n hx hb dX3_readTest_38 rfl (lv_at hl 0 rfl) ?_
            refine lv_iload_n hx hb dX3_readTest_39 rfl (lv_at hl 1 rfl) ?_
            refine tk_Vv hC hK hw hT hA hE hSR kC_at3 (by decide) rfl (k_X3_readFact_10 l adK adV dC dI cy ad B (by omega) (by omega) qr s1 hqr   w34 H.size hT (c39.trans (wk_eq.mpr (show x27.toInt = 0 by omega)))) (cwV 1 hC.2.2.2.2 gX3_readTest_X3_readFact rfl rfl rfl (by decide +kernel) ⟨Nat.le_of_ble_eq_true rfl, Nat.le_of_ble_eq_true rfl⟩) rfl hl.1 rfl (Nat.le_of_ble_eq_true rfl) dX3_readTest_40 (fun w62 H locs hp61 hw => ?_)
            obtain ⟨hT, k63, hg64⟩ := hp61
            have hF := hF.tr k63 (by decide)
            clear hg64
            refine lv_aload_n hx hb dX3_readTest_43 rfl (lv_at hl 0 rfl) ?_
            refine tk_getQ hC hK hw hT hqr (by decide) hinX3 kC_at3 (by decide) rfl 1 (by decide) (List.mem_of_getElem? (i := 2) rfl) rfl rfl dX3_readTest_44 ?_
            refine lv_bipush (v := 20) hx hb dX3_readTest_47 (by decide) ?_
            refine tk_Vv hC hK hw hT hA hE hSR hqr (by decide) rfl (k_X2_addToken_1 l adK adV dC dI cy ad B (by omega) (by omega) qr s1   qr hqr 20 w62 H.size hT ) (cwV 1 hC.2.2.2.2 gX3_readTest_X2_addToken rfl rfl rfl (by decide +kernel) ⟨Nat.le_of_ble_eq_true rfl, Nat.le_of_ble_eq_true rfl⟩) rfl hl.1 rfl (Nat.le_of_ble_eq_true rfl) dX3_readTest_49 (fun w67 H locs hp66 hw => ?_)
            obtain ⟨hT, k68, hg71⟩ := hp66
            have hF := hF.tr k68 (by decide)
            obtain ⟨x69, c70, rx69, tx69⟩ := hg71
            refine lv_goto (tgt := 80) hx hb dX3_readTest_52 (by decide) ?_
            exact J80 v9_2 H locs ls w67 (show (-1) ≤ v9_2.toInt by omega) (show v9_2.toInt ≤ 21 by omega) (show 0 ≤ v9_3.toInt by omega) (show v9_3.toInt ≤ 399 by omega)  hw hT hF  (lv_sub hl [0, 1, 2, 3] rfl)
        · refine lv_if_ne (tgt := 86) hx hb dX3_readTest_23 (by decide) (fun _ => ?_) (fun c => absurd c (by decide))
          exact J86 v9_2 v9_3 H locs ls w25 (show (-1) ≤ v9_2.toInt by omega) (show v9_2.toInt ≤ 21 by omega) (show 0 ≤ v9_3.toInt by omega) (show v9_3.toInt ≤ 400 by omega)  hw hT hF  (lv_sub hl [0, 1, 2, 3] rfl)
  refine lv_aload_n hx hb dX3_readTest_0 rfl (lv_at hl 0 rfl) ?_
  refine lv_iload_n hx hb dX3_readTest_1 rfl (lv_at hl 1 rfl) ?_
  refine tk_Vv hC hK hw hT hA hE hSR kC_at3 (by decide) rfl (k_X3_readFact_10 l adK adV dC dI cy ad B (by omega) (by omega) qr s1 hqr   w0 s.heap.size hT cf0_) (cwV 1 hC.2.2.2.2 gX3_readTest_X3_readFact rfl rfl rfl (by decide +kernel) ⟨Nat.le_of_ble_eq_true rfl, Nat.le_of_ble_eq_true rfl⟩) rfl hl.1 rfl (Nat.le_of_ble_eq_true rfl) dX3_readTest_2 (fun w74 H locs hp73 hw => ?_)
  obtain ⟨hT, k75, hg76⟩ := hp73
  have hF := hF.tr k75 (by decide)
  clear hg76
  refine lv_iconst (v := (-1)) hx hb dX3_readTest_5 (by decide) ?_
  refine lv_istore_n (lv' := [(2, .int (-1)), (0, .ref (ad 3)), (1, .int 9)]) hx hb dX3_readTest_6 rfl hl (by decide) rfl (fun ls hl => ?_)
  refine lv_iconst (v := 0) hx hb dX3_readTest_7 (by decide) ?_
  refine lv_istore_n (lv' := [(3, .int 0), (2, .int (-1)), (0, .ref (ad 3)), (1, .int 9)]) hx hb dX3_readTest_8 rfl hl (by decide) rfl (fun ls hl => ?_)
  exact L9 ((400 - (0 : Int)).toNat + 1) (-1) 0 H locs ls w74 (by decide) (by decide) (by decide) (by decide) (Nat.lt_succ_self _) hw hT hF  (lv_sub hl [2, 3, 1, 0] rfl)
abbrev P_X3_readFact_9 (ad : Nat → Nat) (cy : Nat → ClassId) (B : Int) (qr : Nat) (s1 : Int)  (w0 : va_W) : va_W → Prop := fun u => TW ksC ad cy B qr s1 u ∧ FE ksC [(2, 3, 3), (3, 2, 2), (6, 1, 1), (6, 3, 3), (6, 4, 4), (22, 0, 13), (23, 0, 400)] w0 u ∧ ((True))
set_option maxHeartbeats 4000000 in
set_option maxRecDepth 100000 in
theorem k_X3_readFact_9 (l : Launch) (adK adV : Nat → Nat) (dC : Nat → ClassId) (dI : Nat → Nat → Nat) (cy : Nat → ClassId) (ad : Nat → Nat) (B : Int) (hB0 : 2147483648 ≤ B) (hB1 : B ≤ 1152921504606846976) (qr : Nat) (s1 : Int) (hqr : ksC[qr]? = some 2)  (w0 : va_W) (sz : Nat) (hT : TW ksC ad cy B qr s1 w0) (cf0_ : gi w0 1 4 = 0) : Met l yX3_readFact wsX3_readFact ({ frames := 12, cells := 0, slots := 0, locals := 305 }) (va_Pc [.ref (ad 3), .int 8] (wpreS adK adV dC dI cy sz w0)) (va_Qv (P_X3_readFact_9 ad cy B qr s1  w0) (fun u : va_W => wpost dC dI cy (va_A w0 sz) u) (va_A w0 sz)) 0 0 (va_A w0 sz) := by
  refine Met.ofW (cc := cX3_readFact) (maxL := 5) (ret := none) (by decide) rfl ?_
  intro p e s m args below meth c s₁ Bk hml hv
  obtain ⟨rfl, ⟨hsz, hP, hK, hD0⟩, hE, hSR⟩ := hv
  have hx := Bk.exec
  have hb := Bk.bytes
  have hr := Bk.returns
  have hlocks := Bk.notSynchronized
  have hC : CallFix p m c cX3_readFact 5 s _ wsX3_readFact RX3 := ⟨hx, hb, hml, findClass_of_methodNamed Bk.named, atoms_spec (ws := wsX3_readFact) Bk.pre⟩
  subst hsz
  have hD := hD0.self (sz := s.heap.size)
  generalize hAe : va_A w0 s.heap.size = A at hD hE ⊢
  have hA : ∀ q : Nat, s.heap.size ≤ q → A q := fun q h => by rw [← hAe]; exact Or.inr h
  have hw : Wd dC dI A s.heap s.heap [] w0 := ⟨hP, hD, va_S.rf⟩
  have hF : FE ksC [(2, 3, 3), (3, 2, 2), (6, 1, 1), (6, 3, 3), (6, 4, 4), (22, 0, 13), (23, 0, 400)] w0 w0 := FE.rf
  have hl := lv_entry ([.ref (ad 3), .int 8]) (n := 5) (Nat.le_of_ble_eq_true rfl)
  rw [lg_entry_eq]
  generalize (lg_sl ([.ref (ad 3), .int 8]) ++ List.replicate (5 - (lg_sl ([.ref (ad 3), .int 8])).length) Slot.unset).toArray = ls at hl ⊢
  have hl : lv_has ls 5 [(0, .ref (ad 3)), (1, .int 8)] := hl
  generalize hloc : ([] : List Loc) = locs at hw ⊢
  have hinX3 : ∀ w ∈ u_ws RX3 TX3 3, w ∈ wsX3_readFact := fun _ h => List.mem_cons_of_mem _ (List.mem_append_left _ (List.mem_append_left _ (List.mem_append_right _ (h))))
  have J160 : ∀ (v160_2 : Int32) (v160_3 : Int32) (H : Heap) (locs : List Loc) (ls : Array Slot) (w1 : va_W), 0 ≤ v160_2.toInt → v160_2.toInt ≤ 1 → 0 ≤ v160_3.toInt → v160_3.toInt ≤ 1 → Wd dC dI A s.heap H locs w1 → TW ksC ad cy B qr s1 w1 → FE ksC [(2, 3, 3), (3, 2, 2), (6, 1, 1), (6, 3, 3), (6, 4, 4), (22, 0, 13), (23, 0, 400)] w0 w1 → lv_has ls 5 [(0, .ref (ad 3)), (1, .int 8), (2, .int v160_2), (3, .int v160_3)] → W p l e ({ frames := 12, cells := 0, slots := 0, locals := 305 }) s m (List.toArray [.ref (ad 3), .int 8]) below meth c H locs 0 0 (MQ below (va_Qv (P_X3_readFact_9 ad cy B qr s1  w0) (fun u : va_W => wpost dC dI cy A u) A) (List.toArray [.ref (ad 3), .int 8]) s 0 0 A) (F0 m 160 ls []) := by
    intro v160_2 v160_3 H locs ls w1 r2 t3 r4 t5 hw hT hF hl
    exact tk_vret hC hr hlocks hK ⟨hT, hF, trivial⟩ hw dX3_readFact_160
  have J77 : ∀ (v77_2 : Int32) (v77_3 : Int32) (H : Heap) (locs : List Loc) (ls : Array Slot) (w6 : va_W), 0 ≤ v77_2.toInt → v77_2.toInt ≤ 1 → 0 ≤ v77_3.toInt → v77_3.toInt ≤ 1 → Wd dC dI A s.heap H locs w6 → TW ksC ad cy B qr s1 w6 → FE ksC [(2, 3, 3), (3, 2, 2), (6, 1, 1), (6, 3, 3), (6, 4, 4), (22, 0, 13), (23, 0, 400)] w0 w6 → gi w6 1 4 = 0 → lv_has ls 5 [(0, .ref (ad 3)), (1, .int 8), (2, .int v77_2), (3, .int v77_3)] → W p l e ({ frames := 12, cells := 0, slots := 0, locals := 305 }) s m (List.toArray [.ref (ad 3), .int 8]) below meth c H locs 0 0 (MQ below (va_Qv (P_X3_readFact_9 ad cy B qr s1  w0) (fun u : va_W => wpost dC dI cy A u) A) (List.toArray [.ref (ad 3), .int 8]) s 0 0 A) (F0 m 77 ls []) := by
    intro v77_2 v77_3 H locs ls w6 r7 t8 r9 t10 hw hT hF c11 hl
    refine lv_iload_n hx hb dX3_readFact_77 rfl (lv_at hl 1 rfl) ?_
    refine lv_bipush (v := 10) hx hb dX3_readFact_78 (by decide) ?_
    refine lv_icmp_lt (tgt := 101) hx hb dX3_readFact_80 (by decide) (fun _ => ?_) (fun c => absurd (by decide) c)
    refine lv_iload_n hx hb dX3_readFact_101 rfl (lv_at hl 2 rfl) ?_
    refine lv_if_eq (tgt := 124) hx hb dX3_readFact_102 (by decide) (fun c12 => ?_) (fun c12 => ?_)
    · have c12 : v77_2.toInt = (0 : Int) := wk_eq.mp c12
      refine lv_aload_n hx hb dX3_readFact_124 rfl (lv_at hl 0 rfl) ?_
      refine lv_iload_n hx hb dX3_readFact_125 rfl (lv_at hl 1 rfl) ?_
      refine lv_iconst (v := 1) hx hb dX3_readFact_126 (by decide) ?_
      refine lv_iadd hx hb dX3_readFact_127 ?_
      refine wk_top 9 (by decide) ?_
      refine tk_Vv hC hK hw hT hA hE hSR kC_at3 (by decide) rfl (k_X3_readTest_10 l adK adV dC dI cy ad B (by omega) (by omega) qr s1 hqr   w6 H.size hT c11) (cwV 1 hC.2.2.2.2 gX3_readFact_X3_readTest rfl rfl rfl (by decide +kernel) ⟨Nat.le_of_ble_eq_true rfl, Nat.le_of_ble_eq_true rfl⟩) rfl hl.1 rfl (Nat.le_of_ble_eq_true rfl) dX3_readFact_128 (fun w15 H locs hp14 hw => ?_)
      obtain ⟨hT, k16, hg17⟩ := hp14
      have hF := hF.tr k16 (by decide)
      clear hg17
      refine lv_aload_n hx hb dX3_readFact_131 rfl (lv_at hl 0 rfl) ?_
      refine tk_getA hC hK hw hT hinX3 kC_at3 (by decide) rfl 0 (by decide) (List.mem_of_getElem? (i := 1) rfl) rfl rfl dX3_readFact_132 ?_
      refine tk_Vi hC hK hw hT hA hE hSR kC_at1 (by decide) rfl (k_X6_isFaulty_1 l adK adV dC dI cy ad B (by omega) (by omega) qr s1    w15 H.size hT ) (cwV 0 hC.2.2.2.2 gX3_readFact_X6_isFaulty rfl rfl rfl (by decide +kernel) ⟨Nat.le_of_ble_eq_true rfl, Nat.le_of_ble_eq_true rfl⟩) rfl hl.1 rfl (Nat.le_of_ble_eq_true rfl) dX3_readFact_135 (fun r18 w20 H locs hp19 hw => ?_)
      obtain ⟨hT, k21, hg26⟩ := hp19
      have hF := hF.tr k21 (by decide)
      rcases hg26 with ⟨rfl, ⟨x22, c23, rx22, tx22⟩⟩ | ⟨rfl, ⟨x24, c25, rx24, tx24⟩⟩
      · refine lv_if_ne (tgt := 160) hx hb dX3_readFact_138 (by decide) (fun c => absurd (by decide) c) (fun _ => ?_)
        refine lv_aload_n hx hb dX3_readFact_141 rfl (lv_at hl 0 rfl) ?_
        refine tk_getA hC hK hw hT hinX3 kC_at3 (by decide) rfl 0 (by decide) (List.mem_of_getElem? (i := 1) rfl) rfl rfl dX3_readFact_142 ?_
        refine lv_bipush (v := 93) hx hb dX3_readFact_145 (by decide) ?_
        refine tk_Vi hC hK hw hT hA hE hSR kC_at1 (by decide) rfl (k_X6_takeByte_3 l adK adV dC dI cy ad B (by omega) (by omega) qr s1    w20 H.size hT ) (cwV 1 hC.2.2.2.2 gX3_readFact_X6_takeByte rfl rfl rfl (by decide +kernel) ⟨Nat.le_of_ble_eq_true rfl, Nat.le_of_ble_eq_true rfl⟩) rfl hl.1 rfl (Nat.le_of_ble_eq_true rfl) dX3_readFact_147 (fun r27 w29 H locs hp28 hw => ?_)
        obtain ⟨hT, k30, hg35⟩ := hp28
        have hF := hF.tr k30 (by decide)
        have c36 := k30.gi kC_at1 (by decide) c23
        rcases hg35 with rfl | ⟨rfl, ⟨x31, c32, rx31, tx31⟩, ⟨x33, c34, rx33, tx33⟩⟩
        · refine lv_if_ne (tgt := 160) hx hb dX3_readFact_150 (by decide) (fun c => absurd (by decide) c) (fun _ => ?_)
          refine lv_aload_n hx hb dX3_readFact_153 rfl (lv_at hl 0 rfl) ?_
          refine tk_getA hC hK hw hT hinX3 kC_at3 (by decide) rfl 0 (by decide) (List.mem_of_getElem? (i := 1) rfl) rfl rfl dX3_readFact_154 ?_
          refine tk_Vv hC hK hw hT hA hE hSR kC_at1 (by decide) rfl (k_X6_blameHere_1 l adK adV dC dI cy ad B (by omega) (by omega) qr s1    w29 H.size hT (c36.trans (wk_eq.mpr (show x22.toInt = 0 by omega)))) (cwV 0 hC.2.2.2.2 gX3_readFact_X6_blameHere rfl rfl rfl (by decide +kernel) ⟨Nat.le_of_ble_eq_true rfl, Nat.le_of_ble_eq_true rfl⟩) rfl hl.1 rfl (Nat.le_of_ble_eq_true rfl) dX3_readFact_157 (fun w39 H locs hp38 hw => ?_)
          obtain ⟨hT, k40, hg43⟩ := hp38
          have hF := hF.tr k40 (by decide)
          obtain ⟨x41, c42, rx41, tx41⟩ := hg43
          exact J160 v77_2 v77_3 H locs ls w39 (show 0 ≤ v77_2.toInt by omega) (show v77_2.toInt ≤ 1 by omega) (show 0 ≤ v77_3.toInt by omega) (show v77_3.toInt ≤ 1 by omega)  hw hT hF  (lv_sub hl [0, 1, 2, 3] rfl)
        · refine lv_if_ne (tgt := 160) hx hb dX3_readFact_150 (by decide) (fun _ => ?_) (fun c => absurd c (by decide))
          exact J160 v77_2 v77_3 H locs ls w29 (show 0 ≤ v77_2.toInt by omega) (show v77_2.toInt ≤ 1 by omega) (show 0 ≤ v77_3.toInt by omega) (show v77_3.toInt ≤ 1 by omega)  hw hT hF  (lv_sub hl [0, 1, 2, 3] rfl)
      · refine lv_if_ne (tgt := 160) hx hb dX3_readFact_138 (by decide) (fun _ => ?_) (fun c => absurd c (by decide))
        exact J160 v77_2 v77_3 H locs ls w20 (show 0 ≤ v77_2.toInt by omega) (show v77_2.toInt ≤ 1 by omega) (show 0 ≤ v77_3.toInt by omega) (show v77_3.toInt ≤ 1 by omega)  hw hT hF  (lv_sub hl [0, 1, 2, 3] rfl)
    · have c12 : ¬ v77_2.toInt = (0 : Int) := wk_eqF c12
      refine lv_aload_n hx hb dX3_readFact_105 rfl (lv_at hl 0 rfl) ?_
      refine lv_iload_n hx hb dX3_readFact_106 rfl (lv_at hl 1 rfl) ?_
      refine lv_iconst (v := 1) hx hb dX3_readFact_107 (by decide) ?_
      refine lv_iadd hx hb dX3_readFact_108 ?_
      refine wk_top 9 (by decide) ?_
      refine tk_Vv hC hK hw hT hA hE hSR kC_at3 (by decide) rfl (k_X3_readFact_10 l adK adV dC dI cy ad B (by omega) (by omega) qr s1 hqr   w6 H.size hT c11) (cwV 1 hC.2.2.2.2 gX3_readFact_X3_readFact rfl rfl rfl (by decide +kernel) ⟨Nat.le_of_ble_eq_true rfl, Nat.le_of_ble_eq_true rfl⟩) rfl hl.1 rfl (Nat.le_of_ble_eq_true rfl) dX3_readFact_109 (fun w46 H locs hp45 hw => ?_)
      obtain ⟨hT, k47, hg48⟩ := hp45
      have hF := hF.tr k47 (by decide)
      clear hg48
      refine lv_aload_n hx hb dX3_readFact_112 rfl (lv_at hl 0 rfl) ?_
      refine tk_getQ hC hK hw hT hqr (by decide) hinX3 kC_at3 (by decide) rfl 1 (by decide) (List.mem_of_getElem? (i := 2) rfl) rfl rfl dX3_readFact_113 ?_
      refine lv_bipush (v := 19) hx hb dX3_readFact_116 (by decide) ?_
      refine tk_Vv hC hK hw hT hA hE hSR hqr (by decide) rfl (k_X2_addToken_1 l adK adV dC dI cy ad B (by omega) (by omega) qr s1   qr hqr 19 w46 H.size hT ) (cwV 1 hC.2.2.2.2 gX3_readFact_X2_addToken rfl rfl rfl (by decide +kernel) ⟨Nat.le_of_ble_eq_true rfl, Nat.le_of_ble_eq_true rfl⟩) rfl hl.1 rfl (Nat.le_of_ble_eq_true rfl) dX3_readFact_118 (fun w51 H locs hp50 hw => ?_)
      obtain ⟨hT, k52, hg55⟩ := hp50
      have hF := hF.tr k52 (by decide)
      obtain ⟨x53, c54, rx53, tx53⟩ := hg55
      refine lv_goto (tgt := 160) hx hb dX3_readFact_121 (by decide) ?_
      exact J160 v77_2 v77_3 H locs ls w51 (show 0 ≤ v77_2.toInt by omega) (show v77_2.toInt ≤ 1 by omega) (show 0 ≤ v77_3.toInt by omega) (show v77_3.toInt ≤ 1 by omega)  hw hT hF  (lv_sub hl [0, 1, 2, 3] rfl)
  have J41 : ∀ (v41_2 : Int32) (H : Heap) (locs : List Loc) (ls : Array Slot) (w56 : va_W), 0 ≤ v41_2.toInt → v41_2.toInt ≤ 1 → Wd dC dI A s.heap H locs w56 → TW ksC ad cy B qr s1 w56 → FE ksC [(2, 3, 3), (3, 2, 2), (6, 1, 1), (6, 3, 3), (6, 4, 4), (22, 0, 13), (23, 0, 400)] w0 w56 → gi w56 1 4 = 0 → lv_has ls 5 [(0, .ref (ad 3)), (1, .int 8), (2, .int v41_2)] → W p l e ({ frames := 12, cells := 0, slots := 0, locals := 305 }) s m (List.toArray [.ref (ad 3), .int 8]) below meth c H locs 0 0 (MQ below (va_Qv (P_X3_readFact_9 ad cy B qr s1  w0) (fun u : va_W => wpost dC dI cy A u) A) (List.toArray [.ref (ad 3), .int 8]) s 0 0 A) (F0 m 41 ls []) := by
    intro v41_2 H locs ls w56 r57 t58 hw hT hF c59 hl
    refine lv_iconst (v := 0) hx hb dX3_readFact_41 (by decide) ?_
    refine lv_istore_n (lv' := [(3, .int 0), (0, .ref (ad 3)), (1, .int 8), (2, .int v41_2)]) hx hb dX3_readFact_42 rfl hl (by decide) rfl (fun ls hl => ?_)
    refine lv_iload_n hx hb dX3_readFact_43 rfl (lv_at hl 3 rfl) ?_
    refine lv_if_ne (tgt := 77) hx hb dX3_readFact_44 (by decide) (fun c60 => ?_) (fun c60 => ?_)
    · have c60 : ¬ v41_2.toInt = (0 : Int) := wk_eqF c60
      exact J77 v41_2 0 H locs ls w56 (show 0 ≤ v41_2.toInt by omega) (show v41_2.toInt ≤ 1 by omega) (by decide) (by decide)  hw hT hF c59 (lv_sub hl [1, 2, 3, 0] rfl)
    · have c60 : v41_2.toInt = (0 : Int) := wk_eq.mp c60
      refine lv_iload_n hx hb dX3_readFact_47 rfl (lv_at hl 0 rfl) ?_
      refine lv_if_ne (tgt := 77) hx hb dX3_readFact_48 (by decide) (fun c => absurd (by decide) c) (fun _ => ?_)
      refine lv_aload_n hx hb dX3_readFact_51 rfl (lv_at hl 1 rfl) ?_
      refine tk_Vv hC hK hw hT hA hE hSR kC_at3 (by decide) rfl (k_X3_readSum_1 l adK adV dC dI cy ad B (by omega) (by omega) qr s1 hqr   w56 H.size hT c59) (cwV 0 hC.2.2.2.2 gX3_readFact_X3_readSum rfl rfl rfl (by decide +kernel) ⟨Nat.le_of_ble_eq_true rfl, Nat.le_of_ble_eq_true rfl⟩) rfl hl.1 rfl (Nat.le_of_ble_eq_true rfl) dX3_readFact_52 (fun w63 H locs hp62 hw => ?_)
      obtain ⟨hT, k64, hg65⟩ := hp62
      have hF := hF.tr k64 (by decide)
      clear hg65
      refine lv_aload_n hx hb dX3_readFact_55 rfl (lv_at hl 1 rfl) ?_
      refine tk_Vi hC hK hw hT hA hE hSR kC_at3 (by decide) rfl (k_X3_readSign_1 l adK adV dC dI cy ad B (by omega) (by omega) qr s1    w63 H.size hT ) (cwV 0 hC.2.2.2.2 gX3_readFact_X3_readSign rfl rfl rfl (by decide +kernel) ⟨Nat.le_of_ble_eq_true rfl, Nat.le_of_ble_eq_true rfl⟩) rfl hl.1 rfl (Nat.le_of_ble_eq_true rfl) dX3_readFact_56 (fun r66 w68 H locs hp67 hw => ?_)
      obtain ⟨hT, k69, hg80⟩ := hp67
      have hF := hF.tr k69 (by decide)
      rcases hg80 with ⟨rfl, ⟨x70, c71, rx70, tx70⟩⟩ | ⟨g72, g73, ⟨x74, c75, rx74, tx74⟩, ⟨x76, c77, rx76, tx76⟩, ⟨x78, c79, rx78, tx78⟩⟩
      · refine lv_istore (lv' := [(4, .int 16), (3, .int 0), (0, .ref (ad 3)), (1, .int 8), (2, .int v41_2)]) hx hb dX3_readFact_59 hl (by decide) rfl (fun ls hl => ?_)
        refine lv_aload_n hx hb dX3_readFact_61 rfl (lv_at hl 2 rfl) ?_
        refine tk_Vv hC hK hw hT hA hE hSR kC_at3 (by decide) rfl (k_X3_readSum_2 l adK adV dC dI cy ad B (by omega) (by omega) qr s1 hqr   w68 H.size hT x70 c71 (show 1 ≤ x70.toInt by omega) (show x70.toInt ≤ 3205 by omega)) (cwV 0 hC.2.2.2.2 gX3_readFact_X3_readSum rfl rfl rfl (by decide +kernel) ⟨Nat.le_of_ble_eq_true rfl, Nat.le_of_ble_eq_true rfl⟩) rfl hl.1 rfl (Nat.le_of_ble_eq_true rfl) dX3_readFact_62 (fun w83 H locs hp82 hw => ?_)
        obtain ⟨hT, k84, hg87⟩ := hp82
        have hF := hF.tr k84 (by decide)
        have c88 := k84.gi kC_at1 (by decide) c71
        obtain ⟨x85, c86, rx85, tx85⟩ := hg87
        have ex85 : x85.toInt = x70.toInt := by rw [← c88.symm.trans c86]
        refine lv_aload_n hx hb dX3_readFact_65 rfl (lv_at hl 2 rfl) ?_
        refine tk_getQ hC hK hw hT hqr (by decide) hinX3 kC_at3 (by decide) rfl 1 (by decide) (List.mem_of_getElem? (i := 2) rfl) rfl rfl dX3_readFact_66 ?_
        refine lv_iload hx hb dX3_readFact_69 (lv_at hl 0 rfl) ?_
        refine tk_Vv hC hK hw hT hA hE hSR hqr (by decide) rfl (k_X2_addToken_1 l adK adV dC dI cy ad B (by omega) (by omega) qr s1   qr hqr 16 w83 H.size hT ) (cwV 1 hC.2.2.2.2 gX3_readFact_X2_addToken rfl rfl rfl (by decide +kernel) ⟨Nat.le_of_ble_eq_true rfl, Nat.le_of_ble_eq_true rfl⟩) rfl hl.1 rfl (Nat.le_of_ble_eq_true rfl) dX3_readFact_71 (fun w91 H locs hp90 hw => ?_)
        obtain ⟨hT, k92, hg95⟩ := hp90
        have hF := hF.tr k92 (by decide)
        have c96 := k92.gi kC_at1 (by decide) c88
        obtain ⟨x93, c94, rx93, tx93⟩ := hg95
        refine lv_goto (tgt := 160) hx hb dX3_readFact_74 (by decide) ?_
        exact J160 v41_2 0 H locs ls w91 (show 0 ≤ v41_2.toInt by omega) (show v41_2.toInt ≤ 1 by omega) (by decide) (by decide)  hw hT hF  (lv_sub hl [2, 3, 4, 1] rfl)
      · refine lv_istore (lv' := [(4, .int r66), (3, .int 0), (0, .ref (ad 3)), (1, .int 8), (2, .int v41_2)]) hx hb dX3_readFact_59 hl (by decide) rfl (fun ls hl => ?_)
        refine lv_aload_n hx hb dX3_readFact_61 rfl (lv_at hl 2 rfl) ?_
        refine tk_Vv hC hK hw hT hA hE hSR kC_at3 (by decide) rfl (k_X3_readSum_3 l adK adV dC dI cy ad B (by omega) (by omega) qr s1 hqr   w68 H.size hT ) (cwV 0 hC.2.2.2.2 gX3_readFact_X3_readSum rfl rfl rfl (by decide +kernel) ⟨Nat.le_of_ble_eq_true rfl, Nat.le_of_ble_eq_true rfl⟩) rfl hl.1 rfl (Nat.le_of_ble_eq_true rfl) dX3_readFact_62 (fun w99 H locs hp98 hw => ?_)
        obtain ⟨hT, k100, hg101⟩ := hp98
        have hF := hF.tr k100 (by decide)
        have c102 := k100.gi kC_at1 (by decide) c75
        clear hg101
        refine lv_aload_n hx hb dX3_readFact_65 rfl (lv_at hl 2 rfl) ?_
        refine tk_getQ hC hK hw hT hqr (by decide) hinX3 kC_at3 (by decide) rfl 1 (by decide) (List.mem_of_getElem? (i := 2) rfl) rfl rfl dX3_readFact_66 ?_
        refine lv_iload hx hb dX3_readFact_69 (lv_at hl 0 rfl) ?_
        refine tk_Vv hC hK hw hT hA hE hSR hqr (by decide) rfl (k_X2_addToken_1 l adK adV dC dI cy ad B (by omega) (by omega) qr s1   qr hqr r66 w99 H.size hT ) (cwV 1 hC.2.2.2.2 gX3_readFact_X2_addToken rfl rfl rfl (by decide +kernel) ⟨Nat.le_of_ble_eq_true rfl, Nat.le_of_ble_eq_true rfl⟩) rfl hl.1 rfl (Nat.le_of_ble_eq_true rfl) dX3_readFact_71 (fun w105 H locs hp104 hw => ?_)
        obtain ⟨hT, k106, hg109⟩ := hp104
        have hF := hF.tr k106 (by decide)
        have c110 := k106.gi kC_at1 (by decide) c102
        obtain ⟨x107, c108, rx107, tx107⟩ := hg109
        refine lv_goto (tgt := 160) hx hb dX3_readFact_74 (by decide) ?_
        exact J160 v41_2 0 H locs ls w105 (show 0 ≤ v41_2.toInt by omega) (show v41_2.toInt ≤ 1 by omega) (by decide) (by decide)  hw hT hF  (lv_sub hl [2, 3, 4, 1] rfl)
  refine lv_aload_n hx hb dX3_readFact_0 rfl (lv_at hl 0 rfl) ?_
  refine tk_getA hC hK hw hT hinX3 kC_at3 (by decide) rfl 0 (by decide) (List.mem_of_getElem? (i := 1) rfl) rfl rfl dX3_readFact_1 ?_
  refine tk_Vi hC hK hw hT hA hE hSR kC_at1 (by decide) rfl (k_X6_isFaulty_2 l adK adV dC dI cy ad B (by omega) (by omega) qr s1    w0 s.heap.size hT cf0_) (cwV 0 hC.2.2.2.2 gX3_readFact_X6_isFaulty rfl rfl rfl (by decide +kernel) ⟨Nat.le_of_ble_eq_true rfl, Nat.le_of_ble_eq_true rfl⟩) rfl hl.1 rfl (Nat.le_of_ble_eq_true rfl) dX3_readFact_4 (fun r111 w113 H locs hp112 hw => ?_)
  obtain ⟨hT, k114, hg117⟩ := hp112
  have hF := hF.tr k114 (by decide)
  have c118 := k114.gi kC_at1 (by decide) cf0_
  obtain ⟨rfl, ⟨x115, c116, rx115, tx115⟩⟩ := hg117
  have ex115 : x115.toInt = (0 : Int) := by rw [show x115 = 0 from c116.symm.trans c118]; decide
  refine lv_if_eq (tgt := 11) hx hb dX3_readFact_7 (by decide) (fun _ => ?_) (fun c => absurd (by decide) c)
  refine lv_aload_n hx hb dX3_readFact_11 rfl (lv_at hl 0 rfl) ?_
  refine tk_getA hC hK hw hT hinX3 kC_at3 (by decide) rfl 0 (by decide) (List.mem_of_getElem? (i := 1) rfl) rfl rfl dX3_readFact_12 ?_
  refine va_ldcS hx hb hC.2.2.2.1 hSR.2.2.2.2.1 dX3_readFact_15 ?_
  refine tk_Vi hC hK hw hT hA hE hSR kC_at1 (by decide) rfl (k_X6_takeWord_4 l adK adV dC dI cy ad B (by omega) (by omega) qr s1    w113 H.size hT ) (cwV 1 hC.2.2.2.2 gX3_readFact_X6_takeWord rfl rfl rfl (by decide +kernel) ⟨Nat.le_of_ble_eq_true rfl, Nat.le_of_ble_eq_true rfl⟩) rfl hl.1 rfl (Nat.le_of_ble_eq_true rfl) dX3_readFact_17 (fun r119 w121 H locs hp120 hw => ?_)
  obtain ⟨hT, k122, hg125⟩ := hp120
  have hF := hF.tr k122 (by decide)
  have c126 := k122.gi kC_at1 (by decide) c118
  rcases hg125 with rfl | ⟨rfl, ⟨x123, c124, rx123, tx123⟩⟩
  · refine lv_istore_n (lv' := [(2, .int 0), (0, .ref (ad 3)), (1, .int 8)]) hx hb dX3_readFact_20 rfl hl (by decide) rfl (fun ls hl => ?_)
    refine lv_iload_n hx hb dX3_readFact_21 rfl (lv_at hl 0 rfl) ?_
    refine lv_if_ne (tgt := 41) hx hb dX3_readFact_22 (by decide) (fun c => absurd (by decide) c) (fun _ => ?_)
    refine lv_aload_n hx hb dX3_readFact_25 rfl (lv_at hl 1 rfl) ?_
    refine tk_getA hC hK hw hT hinX3 kC_at3 (by decide) rfl 0 (by decide) (List.mem_of_getElem? (i := 1) rfl) rfl rfl dX3_readFact_26 ?_
    refine lv_bipush (v := 91) hx hb dX3_readFact_29 (by decide) ?_
    refine tk_Vi hC hK hw hT hA hE hSR kC_at1 (by decide) rfl (k_X6_takeByte_2 l adK adV dC dI cy ad B (by omega) (by omega) qr s1    w121 H.size hT ) (cwV 1 hC.2.2.2.2 gX3_readFact_X6_takeByte rfl rfl rfl (by decide +kernel) ⟨Nat.le_of_ble_eq_true rfl, Nat.le_of_ble_eq_true rfl⟩) rfl hl.1 rfl (Nat.le_of_ble_eq_true rfl) dX3_readFact_31 (fun r127 w129 H locs hp128 hw => ?_)
    obtain ⟨hT, k130, hg135⟩ := hp128
    have hF := hF.tr k130 (by decide)
    have c136 := k130.gi kC_at1 (by decide) c126
    rcases hg135 with rfl | ⟨rfl, ⟨x131, c132, rx131, tx131⟩, ⟨x133, c134, rx133, tx133⟩⟩
    · refine lv_if_eq (tgt := 41) hx hb dX3_readFact_34 (by decide) (fun _ => ?_) (fun c => absurd (by decide) c)
      exact J41 0 H locs ls w129 (by decide) (by decide)  hw hT hF c136 (lv_sub hl [1, 2, 0] rfl)
    · refine lv_if_eq (tgt := 41) hx hb dX3_readFact_34 (by decide) (fun c => absurd c (by decide)) (fun _ => ?_)
      refine lv_iconst (v := 1) hx hb dX3_readFact_37 (by decide) ?_
      refine lv_goto (tgt := 42) hx hb dX3_readFact_38 (by decide) ?_
      refine lv_istore_n (lv' := [(3, .int 1), (2, .int 0), (0, .ref (ad 3)), (1, .int 8)]) hx hb dX3_readFact_42 rfl hl (by decide) rfl (fun ls hl => ?_)
      refine lv_iload_n hx hb dX3_readFact_43 rfl (lv_at hl 1 rfl) ?_
      refine lv_if_ne (tgt := 77) hx hb dX3_readFact_44 (by decide) (fun c => absurd (by decide) c) (fun _ => ?_)
      refine lv_iload_n hx hb dX3_readFact_47 rfl (lv_at hl 0 rfl) ?_
      refine lv_if_ne (tgt := 77) hx hb dX3_readFact_48 (by decide) (fun _ => ?_) (fun c => absurd c (by decide))
      exact J77 0 1 H locs ls w129 (by decide) (by decide) (by decide) (by decide)  hw hT hF c136 (lv_sub hl [2, 3, 1, 0] rfl)
  · refine lv_istore_n (lv' := [(2, .int 1), (0, .ref (ad 3)), (1, .int 8)]) hx hb dX3_readFact_20 rfl hl (by decide) rfl (fun ls hl => ?_)
    refine lv_iload_n hx hb dX3_readFact_21 rfl (lv_at hl 0 rfl) ?_
    refine lv_if_ne (tgt := 41) hx hb dX3_readFact_22 (by decide) (fun _ => ?_) (fun c => absurd c (by decide))
    exact J41 1 H locs ls w121 (by decide) (by decide)  hw hT hF c126 (lv_sub hl [1, 2, 0] rfl)
abbrev P_X3_readTest_9 (ad : Nat → Nat) (cy : Nat → ClassId) (B : Int) (qr : Nat) (s1 : Int)  (w0 : va_W) : va_W → Prop := fun u => TW ksC ad cy B qr s1 u ∧ FE ksC [(2, 3, 3), (3, 2, 2), (6, 1, 1), (6, 3, 3), (6, 4, 4), (22, 0, 13), (23, 0, 400)] w0 u ∧ ((True))
set_option maxHeartbeats 4000000 in
set_option maxRecDepth 100000 in
theorem k_X3_readTest_9 (l : Launch) (adK adV : Nat → Nat) (dC : Nat → ClassId) (dI : Nat → Nat → Nat) (cy : Nat → ClassId) (ad : Nat → Nat) (B : Int) (hB0 : 2147483648 ≤ B) (hB1 : B ≤ 1152921504606846976) (qr : Nat) (s1 : Int) (hqr : ksC[qr]? = some 2)  (w0 : va_W) (sz : Nat) (hT : TW ksC ad cy B qr s1 w0) (cf0_ : gi w0 1 4 = 0) : Met l yX3_readTest wsX3_readTest ({ frames := 13, cells := 0, slots := 0, locals := 329 }) (va_Pc [.ref (ad 3), .int 8] (wpreS adK adV dC dI cy sz w0)) (va_Qv (P_X3_readTest_9 ad cy B qr s1  w0) (fun u : va_W => wpost dC dI cy (va_A w0 sz) u) (va_A w0 sz)) 0 0 (va_A w0 sz) := by
  refine Met.ofW (cc := cX3_readTest) (maxL := 4) (ret := none) (by decide) rfl ?_
  intro p e s m args below meth c s₁ Bk hml hv
  obtain ⟨rfl, ⟨hsz, hP, hK, hD0⟩, hE, hSR⟩ := hv
  have hx := Bk.exec
  have hb := Bk.bytes
  have hr := Bk.returns
  have hlocks := Bk.notSynchronized
  have hC : CallFix p m c cX3_readTest 4 s _ wsX3_readTest RX3 := ⟨hx, hb, hml, findClass_of_methodNamed Bk.named, atoms_spec (ws := wsX3_readTest) Bk.pre⟩
  subst hsz
  have hD := hD0.self (sz := s.heap.size)
  generalize hAe : va_A w0 s.heap.size = A at hD hE ⊢
  have hA : ∀ q : Nat, s.heap.size ≤ q → A q := fun q h => by rw [← hAe]; exact Or.inr h
  have hw : Wd dC dI A s.heap s.heap [] w0 := ⟨hP, hD, va_S.rf⟩
  have hF : FE ksC [(2, 3, 3), (3, 2, 2), (6, 1, 1), (6, 3, 3), (6, 4, 4), (22, 0, 13), (23, 0, 400)] w0 w0 := FE.rf
  have hl := lv_entry ([.ref (ad 3), .int 8]) (n := 4) (Nat.le_of_ble_eq_true rfl)
  rw [lg_entry_eq]
  generalize (lg_sl ([.ref (ad 3), .int 8]) ++ List.replicate (4 - (lg_sl ([.ref (ad 3), .int 8])).length) Slot.unset).toArray = ls at hl ⊢
  have hl : lv_has ls 4 [(0, .ref (ad 3)), (1, .int 8)] := hl
  generalize hloc : ([] : List Loc) = locs at hw ⊢
  have hinX3 : ∀ w ∈ u_ws RX3 TX3 3, w ∈ wsX3_readTest := fun _ h => List.mem_cons_of_mem _ (List.mem_append_left _ (List.mem_append_left _ (List.mem_append_right _ (h))))
  have J86 : ∀ (v86_2 : Int32) (v86_3 : Int32) (H : Heap) (locs : List Loc) (ls : Array Slot) (w1 : va_W), (-1) ≤ v86_2.toInt → v86_2.toInt ≤ 21 → 0 ≤ v86_3.toInt → v86_3.toInt ≤ 400 → Wd dC dI A s.heap H locs w1 → TW ksC ad cy B qr s1 w1 → FE ksC [(2, 3, 3), (3, 2, 2), (6, 1, 1), (6, 3, 3), (6, 4, 4), (22, 0, 13), (23, 0, 400)] w0 w1 → lv_has ls 4 [(0, .ref (ad 3)), (1, .int 8), (2, .int v86_2), (3, .int v86_3)] → W p l e ({ frames := 13, cells := 0, slots := 0, locals := 329 }) s m (List.toArray [.ref (ad 3), .int 8]) below meth c H locs 0 0 (MQ below (va_Qv (P_X3_readTest_9 ad cy B qr s1  w0) (fun u : va_W => wpost dC dI cy A u) A) (List.toArray [.ref (ad 3), .int 8]) s 0 0 A) (F0 m 86 ls []) := by
    intro v86_2 v86_3 H locs ls w1 r2 t3 r4 t5 hw hT hF hl
    refine lv_aload_n hx hb dX3_readTest_86 rfl (lv_at hl 0 rfl) ?_
    refine lv_iload_n hx hb dX3_readTest_87 rfl (lv_at hl 2 rfl) ?_
    refine tk_Vv hC hK hw hT hA hE hSR kC_at3 (by decide) rfl (k_X3_addWaiting_1 l adK adV dC dI cy ad B (by omega) (by omega) qr s1 hqr  v86_2 w1 H.size hT ) (cwV 1 hC.2.2.2.2 gX3_readTest_X3_addWaiting rfl rfl rfl (by decide +kernel) ⟨Nat.le_of_ble_eq_true rfl, Nat.le_of_ble_eq_true rfl⟩) rfl hl.1 rfl (Nat.le_of_ble_eq_true rfl) dX3_readTest_88 (fun w8 H locs hp7 hw => ?_)
    obtain ⟨hT, k9, hg10⟩ := hp7
    have hF := hF.tr k9 (by decide)
    clear hg10
    exact tk_vret hC hr hlocks hK ⟨hT, hF, trivial⟩ hw dX3_readTest_91
  have L9 : ∀ (n9 : Nat) (v9_2 : Int32) (v9_3 : Int32) (H : Heap) (locs : List Loc) (ls : Array Slot) (w11 : va_W), (-1) ≤ v9_2.toInt → v9_2.toInt ≤ 21 → 0 ≤ v9_3.toInt → v9_3.toInt ≤ 400 → (400 - v9_3.toInt).toNat < n9 → Wd dC dI A s.heap H locs w11 → TW ksC ad cy B qr s1 w11 → FE ksC [(2, 3, 3), (3, 2, 2), (6, 1, 1), (6, 3, 3), (6, 4, 4), (22, 0, 13), (23, 0, 400)] w0 w11 → lv_has ls 4 [(0, .ref (ad 3)), (1, .int 8), (2, .int v9_2), (3, .int v9_3)] → W p l e ({ frames := 13, cells := 0, slots := 0, locals := 329 }) s m (List.toArray [.ref (ad 3), .int 8]) below meth c H locs 0 0 (MQ below (va_Qv (P_X3_readTest_9 ad cy B qr s1  w0) (fun u : va_W => wpost dC dI cy A u) A) (List.toArray [.ref (ad 3), .int 8]) s 0 0 A) (F0 m 9 ls []) := by
    intro n9
    induction n9 with
    | zero => intro v9_2 v9_3 H locs ls w11 r12 t13 r14 t15 hm9 hw hT hF hl; omega
    | succ n9 ih9 =>
      intro v9_2 v9_3 H locs ls w11 r12 t13 r14 t15 hm9 hw hT hF hl
      have J80 : ∀ (v80_2 : Int32) (H : Heap) (locs : List Loc) (ls : Array Slot) (w16 : va_W), (-1) ≤ v80_2.toInt → v80_2.toInt ≤ 21 → 0 ≤ v9_3.toInt → v9_3.toInt ≤ 399 → Wd dC dI A s.heap H locs w16 → TW ksC ad cy B qr s1 w16 → FE ksC [(2, 3, 3), (3, 2, 2), (6, 1, 1), (6, 3, 3), (6, 4, 4), (22, 0, 13), (23, 0, 400)] w0 w16 → lv_has ls 4 [(0, .ref (ad 3)), (1, .int 8), (2, .int v80_2), (3, .int v9_3)] → W p l e ({ frames := 13, cells := 0, slots := 0, locals := 329 }) s m (List.toArray [.ref (ad 3), .int 8]) below meth c H locs 0 0 (MQ below (va_Qv (P_X3_readTest_9 ad cy B qr s1  w0) (fun u : va_W => wpost dC dI cy A u) A) (List.toArray [.ref (ad 3), .int 8]) s 0 0 A) (F0 m 80 ls []) := by
        intro v80_2 H locs ls w16 r17 t18 r19 t20 hw hT hF hl
        obtain ⟨x21, ex21⟩ : ∃ y : Int32, y = v9_3 + Int32.ofInt 1 := ⟨_, rfl⟩
        refine lv_iinc (v := x21) (lv' := [(3, .int x21), (0, .ref (ad 3)), (1, .int 8), (2, .int v80_2)]) hx hb dX3_readTest_80 hl (k := 3) rfl ex21.symm (by decide) rfl (fun ls hl => ?_)
        have ex21 : x21.toInt = v9_3.toInt + 1 := by rw [ex21]; exact wk_add (y := 1) (show -2147483648 ≤ v9_3.toInt + 1 by omega) (show v9_3.toInt + 1 ≤ 2147483647 by omega)
        refine lv_goto (tgt := 9) hx hb dX3_readTest_83 (by decide) ?_
        exact ih9 v80_2 x21 H locs ls w16 (show (-1) ≤ v80_2.toInt by omega) (show v80_2.toInt ≤ 21 by omega) (show 0 ≤ x21.toInt by omega) (show x21.toInt ≤ 400 by omega) (show (400 - x21.toInt).toNat < n9 by omega) hw hT hF  (lv_sub hl [1, 2, 3, 0] rfl)
      refine lv_iload_n hx hb dX3_readTest_9 rfl (lv_at hl 3 rfl) ?_
      refine lv_sipush (v := 400) hx hb dX3_readTest_10 (by decide) ?_
      refine lv_icmp_ge (tgt := 86) hx hb dX3_readTest_13 (by decide) (fun c22 => ?_) (fun c22 => ?_)
      · have c22 : (400 : Int) ≤ v9_3.toInt := wk_le.mp c22
        exact J86 v9_2 v9_3 H locs ls w11 (show (-1) ≤ v9_2.toInt by omega) (show v9_2.toInt ≤ 21 by omega) (show 0 ≤ v9_3.toInt by omega) (show v9_3.toInt ≤ 400 by omega)  hw hT hF  (lv_sub hl [0, 1, 2, 3] rfl)
      · have c22 : v9_3.toInt < (400 : Int) := wk_leF c22
        refine lv_aload_n hx hb dX3_readTest_16 rfl (lv_at hl 0 rfl) ?_
        refine tk_getA hC hK hw hT hinX3 kC_at3 (by decide) rfl 0 (by decide) (List.mem_of_getElem? (i := 1) rfl) rfl rfl dX3_readTest_17 ?_
        refine tk_Vi hC hK hw hT hA hE hSR kC_at1 (by decide) rfl (k_X6_isFaulty_1 l adK adV dC dI cy ad B (by omega) (by omega) qr s1    w11 H.size hT ) (cwV 0 hC.2.2.2.2 gX3_readTest_X6_isFaulty rfl rfl rfl (by decide +kernel) ⟨Nat.le_of_ble_eq_true rfl, Nat.le_of_ble_eq_true rfl⟩) rfl hl.1 rfl (Nat.le_of_ble_eq_true rfl) dX3_readTest_20 (fun r23 w25 H locs hp24 hw => ?_)
        obtain ⟨hT, k26, hg31⟩ := hp24
        have hF := hF.tr k26 (by decide)
        rcases hg31 with ⟨rfl, ⟨x27, c28, rx27, tx27⟩⟩ | ⟨rfl, ⟨x29, c30, rx29, tx29⟩⟩
        · refine lv_if_ne (tgt := 86) hx hb dX3_readTest_23 (by decide) (fun c => absurd (by decide) c) (fun _ => ?_)
          refine lv_aload_n hx hb dX3_readTest_26 rfl (lv_at hl 0 rfl) ?_
          refine tk_getA hC hK hw hT hinX3 kC_at3 (by decide) rfl 0 (by decide) (List.mem_of_getElem? (i := 1) rfl) rfl rfl dX3_readTest_27 ?_
          refine va_ldcS hx hb hC.2.2.2.1 hSR.2.2.2.2.2.2.1 dX3_readTest_30 ?_
          refine tk_Vi hC hK hw hT hA hE hSR kC_at1 (by decide) rfl (k_X6_takeWord_2 l adK adV dC dI cy ad B (by omega) (by omega) qr s1    w25 H.size hT ) (cwV 1 hC.2.2.2.2 gX3_readTest_X6_takeWord rfl rfl rfl (by decide +kernel) ⟨Nat.le_of_ble_eq_true rfl, Nat.le_of_ble_eq_true rfl⟩) rfl hl.1 rfl (Nat.le_of_ble_eq_true rfl) dX3_readTest_32 (fun r32 w34 H locs hp33 hw => ?_)
          obtain ⟨hT, k35, hg38⟩ := hp33
          have hF := hF.tr k35 (by decide)
          have c39 := k35.gi kC_at1 (by decide) c28
          rcases hg38 with rfl | ⟨rfl, ⟨x36, c37, rx36, tx36⟩⟩
          · refine lv_if_eq (tgt := 55) hx hb dX3_readTest_35 (by decide) (fun _ => ?_) (fun c => absurd (by decide) c)
            refine lv_aload_n hx hb dX3_readTest_55 rfl (lv_at hl 0 rfl) ?_
            refine tk_getA hC hK hw hT hinX3 kC_at3 (by decide) rfl 0 (by decide) (List.mem_of_getElem? (i := 1) rfl) rfl rfl dX3_readTest_56 ?_
            refine va_ldcS hx hb hC.2.2.2.1 hSR.2.2.2.2.2.2.2 dX3_readTest_59 ?_
            refine tk_Vi hC hK hw hT hA hE hSR kC_at1 (by decide) rfl (k_X6_takeWord_3 l adK adV dC dI cy ad B (by omega) (by omega) qr s1    w34 H.size hT ) (cwV 1 hC.2.2.2.2 gX3_readTest_X6_takeWord rfl rfl rfl (by decide +kernel) ⟨Nat.le_of_ble_eq_true rfl, Nat.le_of_ble_eq_true rfl⟩) rfl hl.1 rfl (Nat.le_of_ble_eq_true rfl) dX3_readTest_61 (fun r40 w42 H locs hp41 hw => ?_)
            obtain ⟨hT, k43, hg46⟩ := hp41
            have hF := hF.tr k43 (by decide)
            have c47 := k43.gi kC_at1 (by decide) c39
            rcases hg46 with rfl | ⟨rfl, ⟨x44, c45, rx44, tx44⟩⟩
            · refine lv_if_eq (tgt := 86) hx hb dX3_readTest_64 (by decide) (fun _ => ?_) (fun c => absurd (by decide) c)
              exact J86 v9_2 v9_3 H locs ls w42 (show (-1) ≤ v9_2.toInt by omega) (show v9_2.toInt ≤ 21 by omega) (show 0 ≤ v9_3.toInt by omega) (show v9_3.toInt ≤ 400 by omega)  hw hT hF  (lv_sub hl [0, 1, 2, 3] rfl)
            · refine lv_if_eq (tgt := 86) hx hb dX3_readTest_64 (by decide) (fun c => absurd c (by decide)) (fun _ => ?_)
              refine lv_aload_n hx hb dX3_readTest_67 rfl (lv_at hl 0 rfl) ?_
              refine lv_iload_n hx hb dX3_readTest_68 rfl (lv_at hl 2 rfl) ?_
              refine tk_Vv hC hK hw hT hA hE hSR kC_at3 (by decide) rfl (k_X3_addWaiting_1 l adK adV dC dI cy ad B (by omega) (by omega) qr s1 hqr  v9_2 w42 H.size hT ) (cwV 1 hC.2.2.2.2 gX3_readTest_X3_addWaiting rfl rfl rfl (by decide +kernel) ⟨Nat.le_of_ble_eq_true rfl, Nat.le_of_ble_eq_true rfl⟩) rfl hl.1 rfl (Nat.le_of_ble_eq_true rfl) dX3_readTest_69 (fun w50 H locs hp49 hw => ?_)
              obtain ⟨hT, k51, hg52⟩ := hp49
              have hF := hF.tr k51 (by decide)
              have c53 := k51.gi kC_at1 (by decide) c47
              have c54 := k51.gi kC_at1 (by decide) c45
              clear hg52
              refine lv_bipush (v := 21) hx hb dX3_readTest_72 (by decide) ?_
              refine lv_istore_n (lv' := [(2, .int 21), (0, .ref (ad 3)), (1, .int 8), (3, .int v9_3)]) hx hb dX3_readTest_74 rfl hl (by decide) rfl (fun ls hl => ?_)
              refine lv_aload_n hx hb dX3_readTest_75 rfl (lv_at hl 1 rfl) ?_
              refine lv_iload_n hx hb dX3_readTest_76 rfl (lv_at hl 2 rfl) ?_
              refine tk_Vv hC hK hw hT hA hE hSR kC_at3 (by decide) rfl (k_X3_readFact_9 l adK adV dC dI cy ad B (by omega) (by omega) qr s1 hqr   w50 H.size hT (c53.trans (wk_eq.mpr (show x27.toInt = 0 by omega)))) (cwV 1 hC.2.2.2.2 gX3_readTest_X3_readFact rfl rfl rfl (by decide +kernel) ⟨Nat.le_of_ble_eq_true rfl, Nat.le_of_ble_eq_true rfl⟩) rfl hl.1 rfl (Nat.le_of_ble_eq_true rfl) dX3_readTest_77 (fun w57 H locs hp56 hw => ?_)
              obtain ⟨hT, k58, hg59⟩ := hp56
              have hF := hF.tr k58 (by decide)
              clear hg59
              exact J80 21 H locs ls w57 (by decide) (by decide) (show 0 ≤ v9_3.toInt by omega) (show v9_3.toInt ≤ 399 by omega)  hw hT hF  (lv_sub hl [1, 2, 0, 3] rfl)
          · refine lv_if_eq (tgt := 55) hx hb dX3_readTest_35 (by decide) (fun c => absurd c (by decide)) (fun _ => ?_)
            refine lv_aload_n hx hb dX3_readTest_38 rfl (lv_at hl 0 rfl) ?_
            refine lv_iload_n hx hb dX3_readTest_39 rfl (lv_at hl 1 rfl) ?_
            refine tk_Vv hC hK hw hT hA hE hSR kC_at3 (by decide) rfl (k_X3_readFact_9 l adK adV dC dI cy ad B (by omega) (by omega) qr s1 hqr   w34 H.size hT (c39.trans (wk_eq.mpr (show x27.toInt = 0 by omega)))) (cwV 1 hC.2.2.2.2 gX3_readTest_X3_readFact rfl rfl rfl (by decide +kernel) ⟨Nat.le_of_ble_eq_true rfl, Nat.le_of_ble_eq_true rfl⟩) rfl hl.1 rfl (Nat.le_of_ble_eq_true rfl) dX3_readTest_40 (fun w62 H locs hp61 hw => ?_)
            obtain ⟨hT, k63, hg64⟩ := hp61
            have hF := hF.tr k63 (by decide)
            clear hg64
            refine lv_aload_n hx hb dX3_readTest_43 rfl (lv_at hl 0 rfl) ?_
            refine tk_getQ hC hK hw hT hqr (by decide) hinX3 kC_at3 (by decide) rfl 1 (by decide) (List.mem_of_getElem? (i := 2) rfl) rfl rfl dX3_readTest_44 ?_
            refine lv_bipush (v := 20) hx hb dX3_readTest_47 (by decide) ?_
            refine tk_Vv hC hK hw hT hA hE hSR hqr (by decide) rfl (k_X2_addToken_1 l adK adV dC dI cy ad B (by omega) (by omega) qr s1   qr hqr 20 w62 H.size hT ) (cwV 1 hC.2.2.2.2 gX3_readTest_X2_addToken rfl rfl rfl (by decide +kernel) ⟨Nat.le_of_ble_eq_true rfl, Nat.le_of_ble_eq_true rfl⟩) rfl hl.1 rfl (Nat.le_of_ble_eq_true rfl) dX3_readTest_49 (fun w67 H locs hp66 hw => ?_)
            obtain ⟨hT, k68, hg71⟩ := hp66
            have hF := hF.tr k68 (by decide)
            obtain ⟨x69, c70, rx69, tx69⟩ := hg71
            refine lv_goto (tgt := 80) hx hb dX3_readTest_52 (by decide) ?_
            exact J80 v9_2 H locs ls w67 (show (-1) ≤ v9_2.toInt by omega) (show v9_2.toInt ≤ 21 by omega) (show 0 ≤ v9_3.toInt by omega) (show v9_3.toInt ≤ 399 by omega)  hw hT hF  (lv_sub hl [0, 1, 2, 3] rfl)
        · refine lv_if_ne (tgt := 86) hx hb dX3_readTest_23 (by decide) (fun _ => ?_) (fun c => absurd c (by decide))
          exact J86 v9_2 v9_3 H locs ls w25 (show (-1) ≤ v9_2.toInt by omega) (show v9_2.toInt ≤ 21 by omega) (show 0 ≤ v9_3.toInt by omega) (show v9_3.toInt ≤ 400 by omega)  hw hT hF  (lv_sub hl [0, 1, 2, 3] rfl)
  refine lv_aload_n hx hb dX3_readTest_0 rfl (lv_at hl 0 rfl) ?_
  refine lv_iload_n hx hb dX3_readTest_1 rfl (lv_at hl 1 rfl) ?_
  refine tk_Vv hC hK hw hT hA hE hSR kC_at3 (by decide) rfl (k_X3_readFact_9 l adK adV dC dI cy ad B (by omega) (by omega) qr s1 hqr   w0 s.heap.size hT cf0_) (cwV 1 hC.2.2.2.2 gX3_readTest_X3_readFact rfl rfl rfl (by decide +kernel) ⟨Nat.le_of_ble_eq_true rfl, Nat.le_of_ble_eq_true rfl⟩) rfl hl.1 rfl (Nat.le_of_ble_eq_true rfl) dX3_readTest_2 (fun w74 H locs hp73 hw => ?_)
  obtain ⟨hT, k75, hg76⟩ := hp73
  have hF := hF.tr k75 (by decide)
  clear hg76
  refine lv_iconst (v := (-1)) hx hb dX3_readTest_5 (by decide) ?_
  refine lv_istore_n (lv' := [(2, .int (-1)), (0, .ref (ad 3)), (1, .int 8)]) hx hb dX3_readTest_6 rfl hl (by decide) rfl (fun ls hl => ?_)
  refine lv_iconst (v := 0) hx hb dX3_readTest_7 (by decide) ?_
  refine lv_istore_n (lv' := [(3, .int 0), (2, .int (-1)), (0, .ref (ad 3)), (1, .int 8)]) hx hb dX3_readTest_8 rfl hl (by decide) rfl (fun ls hl => ?_)
  exact L9 ((400 - (0 : Int)).toNat + 1) (-1) 0 H locs ls w74 (by decide) (by decide) (by decide) (by decide) (Nat.lt_succ_self _) hw hT hF  (lv_sub hl [2, 3, 1, 0] rfl)
abbrev P_X3_readFact_8 (ad : Nat → Nat) (cy : Nat → ClassId) (B : Int) (qr : Nat) (s1 : Int)  (w0 : va_W) : va_W → Prop := fun u => TW ksC ad cy B qr s1 u ∧ FE ksC [(2, 3, 3), (3, 2, 2), (6, 1, 1), (6, 3, 3), (6, 4, 4), (22, 0, 13), (23, 0, 400)] w0 u ∧ ((True))
set_option maxHeartbeats 4000000 in
set_option maxRecDepth 100000 in
theorem k_X3_readFact_8 (l : Launch) (adK adV : Nat → Nat) (dC : Nat → ClassId) (dI : Nat → Nat → Nat) (cy : Nat → ClassId) (ad : Nat → Nat) (B : Int) (hB0 : 2147483648 ≤ B) (hB1 : B ≤ 1152921504606846976) (qr : Nat) (s1 : Int) (hqr : ksC[qr]? = some 2)  (w0 : va_W) (sz : Nat) (hT : TW ksC ad cy B qr s1 w0) (cf0_ : gi w0 1 4 = 0) : Met l yX3_readFact wsX3_readFact ({ frames := 14, cells := 0, slots := 0, locals := 352 }) (va_Pc [.ref (ad 3), .int 7] (wpreS adK adV dC dI cy sz w0)) (va_Qv (P_X3_readFact_8 ad cy B qr s1  w0) (fun u : va_W => wpost dC dI cy (va_A w0 sz) u) (va_A w0 sz)) 0 0 (va_A w0 sz) := by
  refine Met.ofW (cc := cX3_readFact) (maxL := 5) (ret := none) (by decide) rfl ?_
  intro p e s m args below meth c s₁ Bk hml hv
  obtain ⟨rfl, ⟨hsz, hP, hK, hD0⟩, hE, hSR⟩ := hv
  have hx := Bk.exec
  have hb := Bk.bytes
  have hr := Bk.returns
  have hlocks := Bk.notSynchronized
  have hC : CallFix p m c cX3_readFact 5 s _ wsX3_readFact RX3 := ⟨hx, hb, hml, findClass_of_methodNamed Bk.named, atoms_spec (ws := wsX3_readFact) Bk.pre⟩
  subst hsz
  have hD := hD0.self (sz := s.heap.size)
  generalize hAe : va_A w0 s.heap.size = A at hD hE ⊢
  have hA : ∀ q : Nat, s.heap.size ≤ q → A q := fun q h => by rw [← hAe]; exact Or.inr h
  have hw : Wd dC dI A s.heap s.heap [] w0 := ⟨hP, hD, va_S.rf⟩
  have hF : FE ksC [(2, 3, 3), (3, 2, 2), (6, 1, 1), (6, 3, 3), (6, 4, 4), (22, 0, 13), (23, 0, 400)] w0 w0 := FE.rf
  have hl := lv_entry ([.ref (ad 3), .int 7]) (n := 5) (Nat.le_of_ble_eq_true rfl)
  rw [lg_entry_eq]
  generalize (lg_sl ([.ref (ad 3), .int 7]) ++ List.replicate (5 - (lg_sl ([.ref (ad 3), .int 7])).length) Slot.unset).toArray = ls at hl ⊢
  have hl : lv_has ls 5 [(0, .ref (ad 3)), (1, .int 7)] := hl
  generalize hloc : ([] : List Loc) = locs at hw ⊢
  have hinX3 : ∀ w ∈ u_ws RX3 TX3 3, w ∈ wsX3_readFact := fun _ h => List.mem_cons_of_mem _ (List.mem_append_left _ (List.mem_append_left _ (List.mem_append_right _ (h))))
  have J160 : ∀ (v160_2 : Int32) (v160_3 : Int32) (H : Heap) (locs : List Loc) (ls : Array Slot) (w1 : va_W), 0 ≤ v160_2.toInt → v160_2.toInt ≤ 1 → 0 ≤ v160_3.toInt → v160_3.toInt ≤ 1 → Wd dC dI A s.heap H locs w1 → TW ksC ad cy B qr s1 w1 → FE ksC [(2, 3, 3), (3, 2, 2), (6, 1, 1), (6, 3, 3), (6, 4, 4), (22, 0, 13), (23, 0, 400)] w0 w1 → lv_has ls 5 [(0, .ref (ad 3)), (1, .int 7), (2, .int v160_2), (3, .int v160_3)] → W p l e ({ frames := 14, cells := 0, slots := 0, locals := 352 }) s m (List.toArray [.ref (ad 3), .int 7]) below meth c H locs 0 0 (MQ below (va_Qv (P_X3_readFact_8 ad cy B qr s1  w0) (fun u : va_W => wpost dC dI cy A u) A) (List.toArray [.ref (ad 3), .int 7]) s 0 0 A) (F0 m 160 ls []) := by
    intro v160_2 v160_3 H locs ls w1 r2 t3 r4 t5 hw hT hF hl
    exact tk_vret hC hr hlocks hK ⟨hT, hF, trivial⟩ hw dX3_readFact_160
  have J77 : ∀ (v77_2 : Int32) (v77_3 : Int32) (H : Heap) (locs : List Loc) (ls : Array Slot) (w6 : va_W), 0 ≤ v77_2.toInt → v77_2.toInt ≤ 1 → 0 ≤ v77_3.toInt → v77_3.toInt ≤ 1 → Wd dC dI A s.heap H locs w6 → TW ksC ad cy B qr s1 w6 → FE ksC [(2, 3, 3), (3, 2, 2), (6, 1, 1), (6, 3, 3), (6, 4, 4), (22, 0, 13), (23, 0, 400)] w0 w6 → gi w6 1 4 = 0 → lv_has ls 5 [(0, .ref (ad 3)), (1, .int 7), (2, .int v77_2), (3, .int v77_3)] → W p l e ({ frames := 14, cells := 0, slots := 0, locals := 352 }) s m (List.toArray [.ref (ad 3), .int 7]) below meth c H locs 0 0 (MQ below (va_Qv (P_X3_readFact_8 ad cy B qr s1  w0) (fun u : va_W => wpost dC dI cy A u) A) (List.toArray [.ref (ad 3), .int 7]) s 0 0 A) (F0 m 77 ls []) := by
    intro v77_2 v77_3 H locs ls w6 r7 t8 r9 t10 hw hT hF c11 hl
    refine lv_iload_n hx hb dX3_readFact_77 rfl (lv_at hl 1 rfl) ?_
    refine lv_bipush (v := 10) hx hb dX3_readFact_78 (by decide) ?_
    refine lv_icmp_lt (tgt := 101) hx hb dX3_readFact_80 (by decide) (fun _ => ?_) (fun c => absurd (by decide) c)
    refine lv_iload_n hx hb dX3_readFact_101 rfl (lv_at hl 2 rfl) ?_
    refine lv_if_eq (tgt := 124) hx hb dX3_readFact_102 (by decide) (fun c12 => ?_) (fun c12 => ?_)
    · have c12 : v77_2.toInt = (0 : Int) := wk_eq.mp c12
      refine lv_aload_n hx hb dX3_readFact_124 rfl (lv_at hl 0 rfl) ?_
      refine lv_iload_n hx hb dX3_readFact_125 rfl (lv_at hl 1 rfl) ?_
      refine lv_iconst (v := 1) hx hb dX3_readFact_126 (by decide) ?_
      refine lv_iadd hx hb dX3_readFact_127 ?_
      refine wk_top 8 (by decide) ?_
      refine tk_Vv hC hK hw hT hA hE hSR kC_at3 (by decide) rfl (k_X3_readTest_9 l adK adV dC dI cy ad B (by omega) (by omega) qr s1 hqr   w6 H.size hT c11) (cwV 1 hC.2.2.2.2 gX3_readFact_X3_readTest rfl rfl rfl (by decide +kernel) ⟨Nat.le_of_ble_eq_true rfl, Nat.le_of_ble_eq_true rfl⟩) rfl hl.1 rfl (Nat.le_of_ble_eq_true rfl) dX3_readFact_128 (fun w15 H locs hp14 hw => ?_)
      obtain ⟨hT, k16, hg17⟩ := hp14
      have hF := hF.tr k16 (by decide)
      clear hg17
      refine lv_aload_n hx hb dX3_readFact_131 rfl (lv_at hl 0 rfl) ?_
      refine tk_getA hC hK hw hT hinX3 kC_at3 (by decide) rfl 0 (by decide) (List.mem_of_getElem? (i := 1) rfl) rfl rfl dX3_readFact_132 ?_
      refine tk_Vi hC hK hw hT hA hE hSR kC_at1 (by decide) rfl (k_X6_isFaulty_1 l adK adV dC dI cy ad B (by omega) (by omega) qr s1    w15 H.size hT ) (cwV 0 hC.2.2.2.2 gX3_readFact_X6_isFaulty rfl rfl rfl (by decide +kernel) ⟨Nat.le_of_ble_eq_true rfl, Nat.le_of_ble_eq_true rfl⟩) rfl hl.1 rfl (Nat.le_of_ble_eq_true rfl) dX3_readFact_135 (fun r18 w20 H locs hp19 hw => ?_)
      obtain ⟨hT, k21, hg26⟩ := hp19
      have hF := hF.tr k21 (by decide)
      rcases hg26 with ⟨rfl, ⟨x22, c23, rx22, tx22⟩⟩ | ⟨rfl, ⟨x24, c25, rx24, tx24⟩⟩
      · refine lv_if_ne (tgt := 160) hx hb dX3_readFact_138 (by decide) (fun c => absurd (by decide) c) (fun _ => ?_)
        refine lv_aload_n hx hb dX3_readFact_141 rfl (lv_at hl 0 rfl) ?_
        refine tk_getA hC hK hw hT hinX3 kC_at3 (by decide) rfl 0 (by decide) (List.mem_of_getElem? (i := 1) rfl) rfl rfl dX3_readFact_142 ?_
        refine lv_bipush (v := 93) hx hb dX3_readFact_145 (by decide) ?_
        refine tk_Vi hC hK hw hT hA hE hSR kC_at1 (by decide) rfl (k_X6_takeByte_3 l adK adV dC dI cy ad B (by omega) (by omega) qr s1    w20 H.size hT ) (cwV 1 hC.2.2.2.2 gX3_readFact_X6_takeByte rfl rfl rfl (by decide +kernel) ⟨Nat.le_of_ble_eq_true rfl, Nat.le_of_ble_eq_true rfl⟩) rfl hl.1 rfl (Nat.le_of_ble_eq_true rfl) dX3_readFact_147 (fun r27 w29 H locs hp28 hw => ?_)
        obtain ⟨hT, k30, hg35⟩ := hp28
        have hF := hF.tr k30 (by decide)
        have c36 := k30.gi kC_at1 (by decide) c23
        rcases hg35 with rfl | ⟨rfl, ⟨x31, c32, rx31, tx31⟩, ⟨x33, c34, rx33, tx33⟩⟩
        · refine lv_if_ne (tgt := 160) hx hb dX3_readFact_150 (by decide) (fun c => absurd (by decide) c) (fun _ => ?_)
          refine lv_aload_n hx hb dX3_readFact_153 rfl (lv_at hl 0 rfl) ?_
          refine tk_getA hC hK hw hT hinX3 kC_at3 (by decide) rfl 0 (by decide) (List.mem_of_getElem? (i := 1) rfl) rfl rfl dX3_readFact_154 ?_
          refine tk_Vv hC hK hw hT hA hE hSR kC_at1 (by decide) rfl (k_X6_blameHere_1 l adK adV dC dI cy ad B (by omega) (by omega) qr s1    w29 H.size hT (c36.trans (wk_eq.mpr (show x22.toInt = 0 by omega)))) (cwV 0 hC.2.2.2.2 gX3_readFact_X6_blameHere rfl rfl rfl (by decide +kernel) ⟨Nat.le_of_ble_eq_true rfl, Nat.le_of_ble_eq_true rfl⟩) rfl hl.1 rfl (Nat.le_of_ble_eq_true rfl) dX3_readFact_157 (fun w39 H locs hp38 hw => ?_)
          obtain ⟨hT, k40, hg43⟩ := hp38
          have hF := hF.tr k40 (by decide)
          obtain ⟨x41, c42, rx41, tx41⟩ := hg43
          exact J160 v77_2 v77_3 H locs ls w39 (show 0 ≤ v77_2.toInt by omega) (show v77_2.toInt ≤ 1 by omega) (show 0 ≤ v77_3.toInt by omega) (show v77_3.toInt ≤ 1 by omega)  hw hT hF  (lv_sub hl [0, 1, 2, 3] rfl)
        · refine lv_if_ne (tgt := 160) hx hb dX3_readFact_150 (by decide) (fun _ => ?_) (fun c => absurd c (by decide))
          exact J160 v77_2 v77_3 H locs ls w29 (show 0 ≤ v77_2.toInt by omega) (show v77_2.toInt ≤ 1 by omega) (show 0 ≤ v77_3.toInt by omega) (show v77_3.toInt ≤ 1 by omega)  hw hT hF  (lv_sub hl [0, 1, 2, 3] rfl)
      · refine lv_if_ne (tgt := 160) hx hb dX3_readFact_138 (by decide) (fun _ => ?_) (fun c => absurd c (by decide))
        exact J160 v77_2 v77_3 H locs ls w20 (show 0 ≤ v77_2.toInt by omega) (show v77_2.toInt ≤ 1 by omega) (show 0 ≤ v77_3.toInt by omega) (show v77_3.toInt ≤ 1 by omega)  hw hT hF  (lv_sub hl [0, 1, 2, 3] rfl)
    · have c12 : ¬ v77_2.toInt = (0 : Int) := wk_eqF c12
      refine lv_aload_n hx hb dX3_readFact_105 rfl (lv_at hl 0 rfl) ?_
      refine lv_iload_n hx hb dX3_readFact_106 rfl (lv_at hl 1 rfl) ?_
      refine lv_iconst (v := 1) hx hb dX3_readFact_107 (by decide) ?_
      refine lv_iadd hx hb dX3_readFact_108 ?_
      refine wk_top 8 (by decide) ?_
      refine tk_Vv hC hK hw hT hA hE hSR kC_at3 (by decide) rfl (k_X3_readFact_9 l adK adV dC dI cy ad B (by omega) (by omega) qr s1 hqr   w6 H.size hT c11) (cwV 1 hC.2.2.2.2 gX3_readFact_X3_readFact rfl rfl rfl (by decide +kernel) ⟨Nat.le_of_ble_eq_true rfl, Nat.le_of_ble_eq_true rfl⟩) rfl hl.1 rfl (Nat.le_of_ble_eq_true rfl) dX3_readFact_109 (fun w46 H locs hp45 hw => ?_)
      obtain ⟨hT, k47, hg48⟩ := hp45
      have hF := hF.tr k47 (by decide)
      clear hg48
      refine lv_aload_n hx hb dX3_readFact_112 rfl (lv_at hl 0 rfl) ?_
      refine tk_getQ hC hK hw hT hqr (by decide) hinX3 kC_at3 (by decide) rfl 1 (by decide) (List.mem_of_getElem? (i := 2) rfl) rfl rfl dX3_readFact_113 ?_
      refine lv_bipush (v := 19) hx hb dX3_readFact_116 (by decide) ?_
      refine tk_Vv hC hK hw hT hA hE hSR hqr (by decide) rfl (k_X2_addToken_1 l adK adV dC dI cy ad B (by omega) (by omega) qr s1   qr hqr 19 w46 H.size hT ) (cwV 1 hC.2.2.2.2 gX3_readFact_X2_addToken rfl rfl rfl (by decide +kernel) ⟨Nat.le_of_ble_eq_true rfl, Nat.le_of_ble_eq_true rfl⟩) rfl hl.1 rfl (Nat.le_of_ble_eq_true rfl) dX3_readFact_118 (fun w51 H locs hp50 hw => ?_)
      obtain ⟨hT, k52, hg55⟩ := hp50
      have hF := hF.tr k52 (by decide)
      obtain ⟨x53, c54, rx53, tx53⟩ := hg55
      refine lv_goto (tgt := 160) hx hb dX3_readFact_121 (by decide) ?_
      exact J160 v77_2 v77_3 H locs ls w51 (show 0 ≤ v77_2.toInt by omega) (show v77_2.toInt ≤ 1 by omega) (show 0 ≤ v77_3.toInt by omega) (show v77_3.toInt ≤ 1 by omega)  hw hT hF  (lv_sub hl [0, 1, 2, 3] rfl)
  have J41 : ∀ (v41_2 : Int32) (H : Heap) (locs : List Loc) (ls : Array Slot) (w56 : va_W), 0 ≤ v41_2.toInt → v41_2.toInt ≤ 1 → Wd dC dI A s.heap H locs w56 → TW ksC ad cy B qr s1 w56 → FE ksC [(2, 3, 3), (3, 2, 2), (6, 1, 1), (6, 3, 3), (6, 4, 4), (22, 0, 13), (23, 0, 400)] w0 w56 → gi w56 1 4 = 0 → lv_has ls 5 [(0, .ref (ad 3)), (1, .int 7), (2, .int v41_2)] → W p l e ({ frames := 14, cells := 0, slots := 0, locals := 352 }) s m (List.toArray [.ref (ad 3), .int 7]) below meth c H locs 0 0 (MQ below (va_Qv (P_X3_readFact_8 ad cy B qr s1  w0) (fun u : va_W => wpost dC dI cy A u) A) (List.toArray [.ref (ad 3), .int 7]) s 0 0 A) (F0 m 41 ls []) := by
    intro v41_2 H locs ls w56 r57 t58 hw hT hF c59 hl
    refine lv_iconst (v := 0) hx hb dX3_readFact_41 (by decide) ?_
    refine lv_istore_n (lv' := [(3, .int 0), (0, .ref (ad 3)), (1, .int 7), (2, .int v41_2)]) hx hb dX3_readFact_42 rfl hl (by decide) rfl (fun ls hl => ?_)
    refine lv_iload_n hx hb dX3_readFact_43 rfl (lv_at hl 3 rfl) ?_
    refine lv_if_ne (tgt := 77) hx hb dX3_readFact_44 (by decide) (fun c60 => ?_) (fun c60 => ?_)
    · have c60 : ¬ v41_2.toInt = (0 : Int) := wk_eqF c60
      exact J77 v41_2 0 H locs ls w56 (show 0 ≤ v41_2.toInt by omega) (show v41_2.toInt ≤ 1 by omega) (by decide) (by decide)  hw hT hF c59 (lv_sub hl [1, 2, 3, 0] rfl)
    · have c60 : v41_2.toInt = (0 : Int) := wk_eq.mp c60
      refine lv_iload_n hx hb dX3_readFact_47 rfl (lv_at hl 0 rfl) ?_
      refine lv_if_ne (tgt := 77) hx hb dX3_readFact_48 (by decide) (fun c => absurd (by decide) c) (fun _ => ?_)
      refine lv_aload_n hx hb dX3_readFact_51 rfl (lv_at hl 1 rfl) ?_
      refine tk_Vv hC hK hw hT hA hE hSR kC_at3 (by decide) rfl (k_X3_readSum_1 l adK adV dC dI cy ad B (by omega) (by omega) qr s1 hqr   w56 H.size hT c59) (cwV 0 hC.2.2.2.2 gX3_readFact_X3_readSum rfl rfl rfl (by decide +kernel) ⟨Nat.le_of_ble_eq_true rfl, Nat.le_of_ble_eq_true rfl⟩) rfl hl.1 rfl (Nat.le_of_ble_eq_true rfl) dX3_readFact_52 (fun w63 H locs hp62 hw => ?_)
      obtain ⟨hT, k64, hg65⟩ := hp62
      have hF := hF.tr k64 (by decide)
      clear hg65
      refine lv_aload_n hx hb dX3_readFact_55 rfl (lv_at hl 1 rfl) ?_
      refine tk_Vi hC hK hw hT hA hE hSR kC_at3 (by decide) rfl (k_X3_readSign_1 l adK adV dC dI cy ad B (by omega) (by omega) qr s1    w63 H.size hT ) (cwV 0 hC.2.2.2.2 gX3_readFact_X3_readSign rfl rfl rfl (by decide +kernel) ⟨Nat.le_of_ble_eq_true rfl, Nat.le_of_ble_eq_true rfl⟩) rfl hl.1 rfl (Nat.le_of_ble_eq_true rfl) dX3_readFact_56 (fun r66 w68 H locs hp67 hw => ?_)
      obtain ⟨hT, k69, hg80⟩ := hp67
      have hF := hF.tr k69 (by decide)
      rcases hg80 with ⟨rfl, ⟨x70, c71, rx70, tx70⟩⟩ | ⟨g72, g73, ⟨x74, c75, rx74, tx74⟩, ⟨x76, c77, rx76, tx76⟩, ⟨x78, c79, rx78, tx78⟩⟩
      · refine lv_istore (lv' := [(4, .int 16), (3, .int 0), (0, .ref (ad 3)), (1, .int 7), (2, .int v41_2)]) hx hb dX3_readFact_59 hl (by decide) rfl (fun ls hl => ?_)
        refine lv_aload_n hx hb dX3_readFact_61 rfl (lv_at hl 2 rfl) ?_
        refine tk_Vv hC hK hw hT hA hE hSR kC_at3 (by decide) rfl (k_X3_readSum_2 l adK adV dC dI cy ad B (by omega) (by omega) qr s1 hqr   w68 H.size hT x70 c71 (show 1 ≤ x70.toInt by omega) (show x70.toInt ≤ 3205 by omega)) (cwV 0 hC.2.2.2.2 gX3_readFact_X3_readSum rfl rfl rfl (by decide +kernel) ⟨Nat.le_of_ble_eq_true rfl, Nat.le_of_ble_eq_true rfl⟩) rfl hl.1 rfl (Nat.le_of_ble_eq_true rfl) dX3_readFact_62 (fun w83 H locs hp82 hw => ?_)
        obtain ⟨hT, k84, hg87⟩ := hp82
        have hF := hF.tr k84 (by decide)
        have c88 := k84.gi kC_at1 (by decide) c71
        obtain ⟨x85, c86, rx85, tx85⟩ := hg87
        have ex85 : x85.toInt = x70.toInt := by rw [← c88.symm.trans c86]
        refine lv_aload_n hx hb dX3_readFact_65 rfl (lv_at hl 2 rfl) ?_
        refine tk_getQ hC hK hw hT hqr (by decide) hinX3 kC_at3 (by decide) rfl 1 (by decide) (List.mem_of_getElem? (i := 2) rfl) rfl rfl dX3_readFact_66 ?_
        refine lv_iload hx hb dX3_readFact_69 (lv_at hl 0 rfl) ?_
        refine tk_Vv hC hK hw hT hA hE hSR hqr (by decide) rfl (k_X2_addToken_1 l adK adV dC dI cy ad B (by omega) (by omega) qr s1   qr hqr 16 w83 H.size hT ) (cwV 1 hC.2.2.2.2 gX3_readFact_X2_addToken rfl rfl rfl (by decide +kernel) ⟨Nat.le_of_ble_eq_true rfl, Nat.le_of_ble_eq_true rfl⟩) rfl hl.1 rfl (Nat.le_of_ble_eq_true rfl) dX3_readFact_71 (fun w91 H locs hp90 hw => ?_)
        obtain ⟨hT, k92, hg95⟩ := hp90
        have hF := hF.tr k92 (by decide)
        have c96 := k92.gi kC_at1 (by decide) c88
        obtain ⟨x93, c94, rx93, tx93⟩ := hg95
        refine lv_goto (tgt := 160) hx hb dX3_readFact_74 (by decide) ?_
        exact J160 v41_2 0 H locs ls w91 (show 0 ≤ v41_2.toInt by omega) (show v41_2.toInt ≤ 1 by omega) (by decide) (by decide)  hw hT hF  (lv_sub hl [2, 3, 4, 1] rfl)
      · refine lv_istore (lv' := [(4, .int r66), (3, .int 0), (0, .ref (ad 3)), (1, .int 7), (2, .int v41_2)]) hx hb dX3_readFact_59 hl (by decide) rfl (fun ls hl => ?_)
        refine lv_aload_n hx hb dX3_readFact_61 rfl (lv_at hl 2 rfl) ?_
        refine tk_Vv hC hK hw hT hA hE hSR kC_at3 (by decide) rfl (k_X3_readSum_3 l adK adV dC dI cy ad B (by omega) (by omega) qr s1 hqr   w68 H.size hT ) (cwV 0 hC.2.2.2.2 gX3_readFact_X3_readSum rfl rfl rfl (by decide +kernel) ⟨Nat.le_of_ble_eq_true rfl, Nat.le_of_ble_eq_true rfl⟩) rfl hl.1 rfl (Nat.le_of_ble_eq_true rfl) dX3_readFact_62 (fun w99 H locs hp98 hw => ?_)
        obtain ⟨hT, k100, hg101⟩ := hp98
        have hF := hF.tr k100 (by decide)
        have c102 := k100.gi kC_at1 (by decide) c75
        clear hg101
        refine lv_aload_n hx hb dX3_readFact_65 rfl (lv_at hl 2 rfl) ?_
        refine tk_getQ hC hK hw hT hqr (by decide) hinX3 kC_at3 (by decide) rfl 1 (by decide) (List.mem_of_getElem? (i := 2) rfl) rfl rfl dX3_readFact_66 ?_
        refine lv_iload hx hb dX3_readFact_69 (lv_at hl 0 rfl) ?_
        refine tk_Vv hC hK hw hT hA hE hSR hqr (by decide) rfl (k_X2_addToken_1 l adK adV dC dI cy ad B (by omega) (by omega) qr s1   qr hqr r66 w99 H.size hT ) (cwV 1 hC.2.2.2.2 gX3_readFact_X2_addToken rfl rfl rfl (by decide +kernel) ⟨Nat.le_of_ble_eq_true rfl, Nat.le_of_ble_eq_true rfl⟩) rfl hl.1 rfl (Nat.le_of_ble_eq_true rfl) dX3_readFact_71 (fun w105 H locs hp104 hw => ?_)
        obtain ⟨hT, k106, hg109⟩ := hp104
        have hF := hF.tr k106 (by decide)
        have c110 := k106.gi kC_at1 (by decide) c102
        obtain ⟨x107, c108, rx107, tx107⟩ := hg109
        refine lv_goto (tgt := 160) hx hb dX3_readFact_74 (by decide) ?_
        exact J160 v41_2 0 H locs ls w105 (show 0 ≤ v41_2.toInt by omega) (show v41_2.toInt ≤ 1 by omega) (by decide) (by decide)  hw hT hF  (lv_sub hl [2, 3, 4, 1] rfl)
  refine lv_aload_n hx hb dX3_readFact_0 rfl (lv_at hl 0 rfl) ?_
  refine tk_getA hC hK hw hT hinX3 kC_at3 (by decide) rfl 0 (by decide) (List.mem_of_getElem? (i := 1) rfl) rfl rfl dX3_readFact_1 ?_
  refine tk_Vi hC hK hw hT hA hE hSR kC_at1 (by decide) rfl (k_X6_isFaulty_2 l adK adV dC dI cy ad B (by omega) (by omega) qr s1    w0 s.heap.size hT cf0_) (cwV 0 hC.2.2.2.2 gX3_readFact_X6_isFaulty rfl rfl rfl (by decide +kernel) ⟨Nat.le_of_ble_eq_true rfl, Nat.le_of_ble_eq_true rfl⟩) rfl hl.1 rfl (Nat.le_of_ble_eq_true rfl) dX3_readFact_4 (fun r111 w113 H locs hp112 hw => ?_)
  obtain ⟨hT, k114, hg117⟩ := hp112
  have hF := hF.tr k114 (by decide)
  have c118 := k114.gi kC_at1 (by decide) cf0_
  obtain ⟨rfl, ⟨x115, c116, rx115, tx115⟩⟩ := hg117
  have ex115 : x115.toInt = (0 : Int) := by rw [show x115 = 0 from c116.symm.trans c118]; decide
  refine lv_if_eq (tgt := 11) hx hb dX3_readFact_7 (by decide) (fun _ => ?_) (fun c => absurd (by decide) c)
  refine lv_aload_n hx hb dX3_readFact_11 rfl (lv_at hl 0 rfl) ?_
  refine tk_getA hC hK hw hT hinX3 kC_at3 (by decide) rfl 0 (by decide) (List.mem_of_getElem? (i := 1) rfl) rfl rfl dX3_readFact_12 ?_
  refine va_ldcS hx hb hC.2.2.2.1 hSR.2.2.2.2.1 dX3_readFact_15 ?_
  refine tk_Vi hC hK hw hT hA hE hSR kC_at1 (by decide) rfl (k_X6_takeWord_4 l adK adV dC dI cy ad B (by omega) (by omega) qr s1    w113 H.size hT ) (cwV 1 hC.2.2.2.2 gX3_readFact_X6_takeWord rfl rfl rfl (by decide +kernel) ⟨Nat.le_of_ble_eq_true rfl, Nat.le_of_ble_eq_true rfl⟩) rfl hl.1 rfl (Nat.le_of_ble_eq_true rfl) dX3_readFact_17 (fun r119 w121 H locs hp120 hw => ?_)
  obtain ⟨hT, k122, hg125⟩ := hp120
  have hF := hF.tr k122 (by decide)
  have c126 := k122.gi kC_at1 (by decide) c118
  rcases hg125 with rfl | ⟨rfl, ⟨x123, c124, rx123, tx123⟩⟩
  · refine lv_istore_n (lv' := [(2, .int 0), (0, .ref (ad 3)), (1, .int 7)]) hx hb dX3_readFact_20 rfl hl (by decide) rfl (fun ls hl => ?_)
    refine lv_iload_n hx hb dX3_readFact_21 rfl (lv_at hl 0 rfl) ?_
    refine lv_if_ne (tgt := 41) hx hb dX3_readFact_22 (by decide) (fun c => absurd (by decide) c) (fun _ => ?_)
    refine lv_aload_n hx hb dX3_readFact_25 rfl (lv_at hl 1 rfl) ?_
    refine tk_getA hC hK hw hT hinX3 kC_at3 (by decide) rfl 0 (by decide) (List.mem_of_getElem? (i := 1) rfl) rfl rfl dX3_readFact_26 ?_
    refine lv_bipush (v := 91) hx hb dX3_readFact_29 (by decide) ?_
    refine tk_Vi hC hK hw hT hA hE hSR kC_at1 (by decide) rfl (k_X6_takeByte_2 l adK adV dC dI cy ad B (by omega) (by omega) qr s1    w121 H.size hT ) (cwV 1 hC.2.2.2.2 gX3_readFact_X6_takeByte rfl rfl rfl (by decide +kernel) ⟨Nat.le_of_ble_eq_true rfl, Nat.le_of_ble_eq_true rfl⟩) rfl hl.1 rfl (Nat.le_of_ble_eq_true rfl) dX3_readFact_31 (fun r127 w129 H locs hp128 hw => ?_)
    obtain ⟨hT, k130, hg135⟩ := hp128
    have hF := hF.tr k130 (by decide)
    have c136 := k130.gi kC_at1 (by decide) c126
    rcases hg135 with rfl | ⟨rfl, ⟨x131, c132, rx131, tx131⟩, ⟨x133, c134, rx133, tx133⟩⟩
    · refine lv_if_eq (tgt := 41) hx hb dX3_readFact_34 (by decide) (fun _ => ?_) (fun c => absurd (by decide) c)
      exact J41 0 H locs ls w129 (by decide) (by decide)  hw hT hF c136 (lv_sub hl [1, 2, 0] rfl)
    · refine lv_if_eq (tgt := 41) hx hb dX3_readFact_34 (by decide) (fun c => absurd c (by decide)) (fun _ => ?_)
      refine lv_iconst (v := 1) hx hb dX3_readFact_37 (by decide) ?_
      refine lv_goto (tgt := 42) hx hb dX3_readFact_38 (by decide) ?_
      refine lv_istore_n (lv' := [(3, .int 1), (2, .int 0), (0, .ref (ad 3)), (1, .int 7)]) hx hb dX3_readFact_42 rfl hl (by decide) rfl (fun ls hl => ?_)
      refine lv_iload_n hx hb dX3_readFact_43 rfl (lv_at hl 1 rfl) ?_
      refine lv_if_ne (tgt := 77) hx hb dX3_readFact_44 (by decide) (fun c => absurd (by decide) c) (fun _ => ?_)
      refine lv_iload_n hx hb dX3_readFact_47 rfl (lv_at hl 0 rfl) ?_
      refine lv_if_ne (tgt := 77) hx hb dX3_readFact_48 (by decide) (fun _ => ?_) (fun c => absurd c (by decide))
      exact J77 0 1 H locs ls w129 (by decide) (by decide) (by decide) (by decide)  hw hT hF c136 (lv_sub hl [2, 3, 1, 0] rfl)
  · refine lv_istore_n (lv' := [(2, .int 1), (0, .ref (ad 3)), (1, .int 7)]) hx hb dX3_readFact_20 rfl hl (by decide) rfl (fun ls hl => ?_)
    refine lv_iload_n hx hb dX3_readFact_21 rfl (lv_at hl 0 rfl) ?_
    refine lv_if_ne (tgt := 41) hx hb dX3_readFact_22 (by decide) (fun _ => ?_) (fun c => absurd c (by decide))
    exact J41 1 H locs ls w121 (by decide) (by decide)  hw hT hF c126 (lv_sub hl [1, 2, 0] rfl)
abbrev P_X3_readTest_8 (ad : Nat → Nat) (cy : Nat → ClassId) (B : Int) (qr : Nat) (s1 : Int)  (w0 : va_W) : va_W → Prop := fun u => TW ksC ad cy B qr s1 u ∧ FE ksC [(2, 3, 3), (3, 2, 2), (6, 1, 1), (6, 3, 3), (6, 4, 4), (22, 0, 13), (23, 0, 400)] w0 u ∧ ((True))
set_option maxHeartbeats 4000000 in
set_option maxRecDepth 100000 in
theorem k_X3_readTest_8 (l : Launch) (adK adV : Nat → Nat) (dC : Nat → ClassId) (dI : Nat → Nat → Nat) (cy : Nat → ClassId) (ad : Nat → Nat) (B : Int) (hB0 : 2147483648 ≤ B) (hB1 : B ≤ 1152921504606846976) (qr : Nat) (s1 : Int) (hqr : ksC[qr]? = some 2)  (w0 : va_W) (sz : Nat) (hT : TW ksC ad cy B qr s1 w0) (cf0_ : gi w0 1 4 = 0) : Met l yX3_readTest wsX3_readTest ({ frames := 15, cells := 0, slots := 0, locals := 376 }) (va_Pc [.ref (ad 3), .int 7] (wpreS adK adV dC dI cy sz w0)) (va_Qv (P_X3_readTest_8 ad cy B qr s1  w0) (fun u : va_W => wpost dC dI cy (va_A w0 sz) u) (va_A w0 sz)) 0 0 (va_A w0 sz) := by
  refine Met.ofW (cc := cX3_readTest) (maxL := 4) (ret := none) (by decide) rfl ?_
  intro p e s m args below meth c s₁ Bk hml hv
  obtain ⟨rfl, ⟨hsz, hP, hK, hD0⟩, hE, hSR⟩ := hv
  have hx := Bk.exec
  have hb := Bk.bytes
  have hr := Bk.returns
  have hlocks := Bk.notSynchronized
  have hC : CallFix p m c cX3_readTest 4 s _ wsX3_readTest RX3 := ⟨hx, hb, hml, findClass_of_methodNamed Bk.named, atoms_spec (ws := wsX3_readTest) Bk.pre⟩
  subst hsz
  have hD := hD0.self (sz := s.heap.size)
  generalize hAe : va_A w0 s.heap.size = A at hD hE ⊢
  have hA : ∀ q : Nat, s.heap.size ≤ q → A q := fun q h => by rw [← hAe]; exact Or.inr h
  have hw : Wd dC dI A s.heap s.heap [] w0 := ⟨hP, hD, va_S.rf⟩
  have hF : FE ksC [(2, 3, 3), (3, 2, 2), (6, 1, 1), (6, 3, 3), (6, 4, 4), (22, 0, 13), (23, 0, 400)] w0 w0 := FE.rf
  have hl := lv_entry ([.ref (ad 3), .int 7]) (n := 4) (Nat.le_of_ble_eq_true rfl)
  rw [lg_entry_eq]
  generalize (lg_sl ([.ref (ad 3), .int 7]) ++ List.replicate (4 - (lg_sl ([.ref (ad 3), .int 7])).length) Slot.unset).toArray = ls at hl ⊢
  have hl : lv_has ls 4 [(0, .ref (ad 3)), (1, .int 7)] := hl
  generalize hloc : ([] : List Loc) = locs at hw ⊢
  have hinX3 : ∀ w ∈ u_ws RX3 TX3 3, w ∈ wsX3_readTest := fun _ h => List.mem_cons_of_mem _ (List.mem_append_left _ (List.mem_append_left _ (List.mem_append_right _ (h))))
  have J86 : ∀ (v86_2 : Int32) (v86_3 : Int32) (H : Heap) (locs : List Loc) (ls : Array Slot) (w1 : va_W), (-1) ≤ v86_2.toInt → v86_2.toInt ≤ 21 → 0 ≤ v86_3.toInt → v86_3.toInt ≤ 400 → Wd dC dI A s.heap H locs w1 → TW ksC ad cy B qr s1 w1 → FE ksC [(2, 3, 3), (3, 2, 2), (6, 1, 1), (6, 3, 3), (6, 4, 4), (22, 0, 13), (23, 0, 400)] w0 w1 → lv_has ls 4 [(0, .ref (ad 3)), (1, .int 7), (2, .int v86_2), (3, .int v86_3)] → W p l e ({ frames := 15, cells := 0, slots := 0, locals := 376 }) s m (List.toArray [.ref (ad 3), .int 7]) below meth c H locs 0 0 (MQ below (va_Qv (P_X3_readTest_8 ad cy B qr s1  w0) (fun u : va_W => wpost dC dI cy A u) A) (List.toArray [.ref (ad 3), .int 7]) s 0 0 A) (F0 m 86 ls []) := by
    intro v86_2 v86_3 H locs ls w1 r2 t3 r4 t5 hw hT hF hl
    refine lv_aload_n hx hb dX3_readTest_86 rfl (lv_at hl 0 rfl) ?_
    refine lv_iload_n hx hb dX3_readTest_87 rfl (lv_at hl 2 rfl) ?_
    refine tk_Vv hC hK hw hT hA hE hSR kC_at3 (by decide) rfl (k_X3_addWaiting_1 l adK adV dC dI cy ad B (by omega) (by omega) qr s1 hqr  v86_2 w1 H.size hT ) (cwV 1 hC.2.2.2.2 gX3_readTest_X3_addWaiting rfl rfl rfl (by decide +kernel) ⟨Nat.le_of_ble_eq_true rfl, Nat.le_of_ble_eq_true rfl⟩) rfl hl.1 rfl (Nat.le_of_ble_eq_true rfl) dX3_readTest_88 (fun w8 H locs hp7 hw => ?_)
    obtain ⟨hT, k9, hg10⟩ := hp7
    have hF := hF.tr k9 (by decide)
    clear hg10
    exact tk_vret hC hr hlocks hK ⟨hT, hF, trivial⟩ hw dX3_readTest_91
  have L9 : ∀ (n9 : Nat) (v9_2 : Int32) (v9_3 : Int32) (H : Heap) (locs : List Loc) (ls : Array Slot) (w11 : va_W), (-1) ≤ v9_2.toInt → v9_2.toInt ≤ 21 → 0 ≤ v9_3.toInt → v9_3.toInt ≤ 400 → (400 - v9_3.toInt).toNat < n9 → Wd dC dI A s.heap H locs w11 → TW ksC ad cy B qr s1 w11 → FE ksC [(2, 3, 3), (3, 2, 2), (6, 1, 1), (6, 3, 3), (6, 4, 4), (22, 0, 13), (23, 0, 400)] w0 w11 → lv_has ls 4 [(0, .ref (ad 3)), (1, .int 7), (2, .int v9_2), (3, .int v9_3)] → W p l e ({ frames := 15, cells := 0, slots := 0, locals := 376 }) s m (List.toArray [.ref (ad 3), .int 7]) below meth c H locs 0 0 (MQ below (va_Qv (P_X3_readTest_8 ad cy B qr s1  w0) (fun u : va_W => wpost dC dI cy A u) A) (List.toArray [.ref (ad 3), .int 7]) s 0 0 A) (F0 m 9 ls []) := by
    intro n9
    induction n9 with
    | zero => intro v9_2 v9_3 H locs ls w11 r12 t13 r14 t15 hm9 hw hT hF hl; omega
    | succ n9 ih9 =>
      intro v9_2 v9_3 H locs ls w11 r12 t13 r14 t15 hm9 hw hT hF hl
      have J80 : ∀ (v80_2 : Int32) (H : Heap) (locs : List Loc) (ls : Array Slot) (w16 : va_W), (-1) ≤ v80_2.toInt → v80_2.toInt ≤ 21 → 0 ≤ v9_3.toInt → v9_3.toInt ≤ 399 → Wd dC dI A s.heap H locs w16 → TW ksC ad cy B qr s1 w16 → FE ksC [(2, 3, 3), (3, 2, 2), (6, 1, 1), (6, 3, 3), (6, 4, 4), (22, 0, 13), (23, 0, 400)] w0 w16 → lv_has ls 4 [(0, .ref (ad 3)), (1, .int 7), (2, .int v80_2), (3, .int v9_3)] → W p l e ({ frames := 15, cells := 0, slots := 0, locals := 376 }) s m (List.toArray [.ref (ad 3), .int 7]) below meth c H locs 0 0 (MQ below (va_Qv (P_X3_readTest_8 ad cy B qr s1  w0) (fun u : va_W => wpost dC dI cy A u) A) (List.toArray [.ref (ad 3), .int 7]) s 0 0 A) (F0 m 80 ls []) := by
        intro v80_2 H locs ls w16 r17 t18 r19 t20 hw hT hF hl
        obtain ⟨x21, ex21⟩ : ∃ y : Int32, y = v9_3 + Int32.ofInt 1 := ⟨_, rfl⟩
        refine lv_iinc (v := x21) (lv' := [(3, .int x21), (0, .ref (ad 3)), (1, .int 7), (2, .int v80_2)]) hx hb dX3_readTest_80 hl (k := 3) rfl ex21.symm (by decide) rfl (fun ls hl => ?_)
        have ex21 : x21.toInt = v9_3.toInt + 1 := by rw [ex21]; exact wk_add (y := 1) (show -2147483648 ≤ v9_3.toInt + 1 by omega) (show v9_3.toInt + 1 ≤ 2147483647 by omega)
        refine lv_goto (tgt := 9) hx hb dX3_readTest_83 (by decide) ?_
        exact ih9 v80_2 x21 H locs ls w16 (show (-1) ≤ v80_2.toInt by omega) (show v80_2.toInt ≤ 21 by omega) (show 0 ≤ x21.toInt by omega) (show x21.toInt ≤ 400 by omega) (show (400 - x21.toInt).toNat < n9 by omega) hw hT hF  (lv_sub hl [1, 2, 3, 0] rfl)
      refine lv_iload_n hx hb dX3_readTest_9 rfl (lv_at hl 3 rfl) ?_
      refine lv_sipush (v := 400) hx hb dX3_readTest_10 (by decide) ?_
      refine lv_icmp_ge (tgt := 86) hx hb dX3_readTest_13 (by decide) (fun c22 => ?_) (fun c22 => ?_)
      · have c22 : (400 : Int) ≤ v9_3.toInt := wk_le.mp c22
        exact J86 v9_2 v9_3 H locs ls w11 (show (-1) ≤ v9_2.toInt by omega) (show v9_2.toInt ≤ 21 by omega) (show 0 ≤ v9_3.toInt by omega) (show v9_3.toInt ≤ 400 by omega)  hw hT hF  (lv_sub hl [0, 1, 2, 3] rfl)
      · have c22 : v9_3.toInt < (400 : Int) := wk_leF c22
        refine lv_aload_n hx hb dX3_readTest_16 rfl (lv_at hl 0 rfl) ?_
        refine tk_getA hC hK hw hT hinX3 kC_at3 (by decide) rfl 0 (by decide) (List.mem_of_getElem? (i := 1) rfl) rfl rfl dX3_readTest_17 ?_
        refine tk_Vi hC hK hw hT hA hE hSR kC_at1 (by decide) rfl (k_X6_isFaulty_1 l adK adV dC dI cy ad B (by omega) (by omega) qr s1    w11 H.size hT ) (cwV 0 hC.2.2.2.2 gX3_readTest_X6_isFaulty rfl rfl rfl (by decide +kernel) ⟨Nat.le_of_ble_eq_true rfl, Nat.le_of_ble_eq_true rfl⟩) rfl hl.1 rfl (Nat.le_of_ble_eq_true rfl) dX3_readTest_20 (fun r23 w25 H locs hp24 hw => ?_)
        obtain ⟨hT, k26, hg31⟩ := hp24
        have hF := hF.tr k26 (by decide)
        rcases hg31 with ⟨rfl, ⟨x27, c28, rx27, tx27⟩⟩ | ⟨rfl, ⟨x29, c30, rx29, tx29⟩⟩
        · refine lv_if_ne (tgt := 86) hx hb dX3_readTest_23 (by decide) (fun c => absurd (by decide) c) (fun _ => ?_)
          refine lv_aload_n hx hb dX3_readTest_26 rfl (lv_at hl 0 rfl) ?_
          refine tk_getA hC hK hw hT hinX3 kC_at3 (by decide) rfl 0 (by decide) (List.mem_of_getElem? (i := 1) rfl) rfl rfl dX3_readTest_27 ?_
          refine va_ldcS hx hb hC.2.2.2.1 hSR.2.2.2.2.2.2.1 dX3_readTest_30 ?_
          refine tk_Vi hC hK hw hT hA hE hSR kC_at1 (by decide) rfl (k_X6_takeWord_2 l adK adV dC dI cy ad B (by omega) (by omega) qr s1    w25 H.size hT ) (cwV 1 hC.2.2.2.2 gX3_readTest_X6_takeWord rfl rfl rfl (by decide +kernel) ⟨Nat.le_of_ble_eq_true rfl, Nat.le_of_ble_eq_true rfl⟩) rfl hl.1 rfl (Nat.le_of_ble_eq_true rfl) dX3_readTest_32 (fun r32 w34 H locs hp33 hw => ?_)
          obtain ⟨hT, k35, hg38⟩ := hp33
          have hF := hF.tr k35 (by decide)
          have c39 := k35.gi kC_at1 (by decide) c28
          rcases hg38 with rfl | ⟨rfl, ⟨x36, c37, rx36, tx36⟩⟩
          · refine lv_if_eq (tgt := 55) hx hb dX3_readTest_35 (by decide) (fun _ => ?_) (fun c => absurd (by decide) c)
            refine lv_aload_n hx hb dX3_readTest_55 rfl (lv_at hl 0 rfl) ?_
            refine tk_getA hC hK hw hT hinX3 kC_at3 (by decide) rfl 0 (by decide) (List.mem_of_getElem? (i := 1) rfl) rfl rfl dX3_readTest_56 ?_
            refine va_ldcS hx hb hC.2.2.2.1 hSR.2.2.2.2.2.2.2 dX3_readTest_59 ?_
            refine tk_Vi hC hK hw hT hA hE hSR kC_at1 (by decide) rfl (k_X6_takeWord_3 l adK adV dC dI cy ad B (by omega) (by omega) qr s1    w34 H.size hT ) (cwV 1 hC.2.2.2.2 gX3_readTest_X6_takeWord rfl rfl rfl (by decide +kernel) ⟨Nat.le_of_ble_eq_true rfl, Nat.le_of_ble_eq_true rfl⟩) rfl hl.1 rfl (Nat.le_of_ble_eq_true rfl) dX3_readTest_61 (fun r40 w42 H locs hp41 hw => ?_)
            obtain ⟨hT, k43, hg46⟩ := hp41
            have hF := hF.tr k43 (by decide)
            have c47 := k43.gi kC_at1 (by decide) c39
            rcases hg46 with rfl | ⟨rfl, ⟨x44, c45, rx44, tx44⟩⟩
            · refine lv_if_eq (tgt := 86) hx hb dX3_readTest_64 (by decide) (fun _ => ?_) (fun c => absurd (by decide) c)
              exact J86 v9_2 v9_3 H locs ls w42 (show (-1) ≤ v9_2.toInt by omega) (show v9_2.toInt ≤ 21 by omega) (show 0 ≤ v9_3.toInt by omega) (show v9_3.toInt ≤ 400 by omega)  hw hT hF  (lv_sub hl [0, 1, 2, 3] rfl)
            · refine lv_if_eq (tgt := 86) hx hb dX3_readTest_64 (by decide) (fun c => absurd c (by decide)) (fun _ => ?_)
              refine lv_aload_n hx hb dX3_readTest_67 rfl (lv_at hl 0 rfl) ?_
              refine lv_iload_n hx hb dX3_readTest_68 rfl (lv_at hl 2 rfl) ?_
              refine tk_Vv hC hK hw hT hA hE hSR kC_at3 (by decide) rfl (k_X3_addWaiting_1 l adK adV dC dI cy ad B (by omega) (by omega) qr s1 hqr  v9_2 w42 H.size hT ) (cwV 1 hC.2.2.2.2 gX3_readTest_X3_addWaiting rfl rfl rfl (by decide +kernel) ⟨Nat.le_of_ble_eq_true rfl, Nat.le_of_ble_eq_true rfl⟩) rfl hl.1 rfl (Nat.le_of_ble_eq_true rfl) dX3_readTest_69 (fun w50 H locs hp49 hw => ?_)
              obtain ⟨hT, k51, hg52⟩ := hp49
              have hF := hF.tr k51 (by decide)
              have c53 := k51.gi kC_at1 (by decide) c47
              have c54 := k51.gi kC_at1 (by decide) c45
              clear hg52
              refine lv_bipush (v := 21) hx hb dX3_readTest_72 (by decide) ?_
              refine lv_istore_n (lv' := [(2, .int 21), (0, .ref (ad 3)), (1, .int 7), (3, .int v9_3)]) hx hb dX3_readTest_74 rfl hl (by decide) rfl (fun ls hl => ?_)
              refine lv_aload_n hx hb dX3_readTest_75 rfl (lv_at hl 1 rfl) ?_
              refine lv_iload_n hx hb dX3_readTest_76 rfl (lv_at hl 2 rfl) ?_
              refine tk_Vv hC hK hw hT hA hE hSR kC_at3 (by decide) rfl (k_X3_readFact_8 l adK adV dC dI cy ad B (by omega) (by omega) qr s1 hqr   w50 H.size hT (c53.trans (wk_eq.mpr (show x27.toInt = 0 by omega)))) (cwV 1 hC.2.2.2.2 gX3_readTest_X3_readFact rfl rfl rfl (by decide +kernel) ⟨Nat.le_of_ble_eq_true rfl, Nat.le_of_ble_eq_true rfl⟩) rfl hl.1 rfl (Nat.le_of_ble_eq_true rfl) dX3_readTest_77 (fun w57 H locs hp56 hw => ?_)
              obtain ⟨hT, k58, hg59⟩ := hp56
              have hF := hF.tr k58 (by decide)
              clear hg59
              exact J80 21 H locs ls w57 (by decide) (by decide) (show 0 ≤ v9_3.toInt by omega) (show v9_3.toInt ≤ 399 by omega)  hw hT hF  (lv_sub hl [1, 2, 0, 3] rfl)
          · refine lv_if_eq (tgt := 55) hx hb dX3_readTest_35 (by decide) (fun c => absurd c (by decide)) (fun _ => ?_)
            refine lv_aload_n hx hb dX3_readTest_38 rfl (lv_at hl 0 rfl) ?_
            refine lv_iload_n hx hb dX3_readTest_39 rfl (lv_at hl 1 rfl) ?_
            refine tk_Vv hC hK hw hT hA hE hSR kC_at3 (by decide) rfl (k_X3_readFact_8 l adK adV dC dI cy ad B (by omega) (by omega) qr s1 hqr   w34 H.size hT (c39.trans (wk_eq.mpr (show x27.toInt = 0 by omega)))) (cwV 1 hC.2.2.2.2 gX3_readTest_X3_readFact rfl rfl rfl (by decide +kernel) ⟨Nat.le_of_ble_eq_true rfl, Nat.le_of_ble_eq_true rfl⟩) rfl hl.1 rfl (Nat.le_of_ble_eq_true rfl) dX3_readTest_40 (fun w62 H locs hp61 hw => ?_)
            obtain ⟨hT, k63, hg64⟩ := hp61
            have hF := hF.tr k63 (by decide)
            clear hg64
            refine lv_aload_n hx hb dX3_readTest_43 rfl (lv_at hl 0 rfl) ?_
            refine tk_getQ hC hK hw hT hqr (by decide) hinX3 kC_at3 (by decide) rfl 1 (by decide) (List.mem_of_getElem? (i := 2) rfl) rfl rfl dX3_readTest_44 ?_
            refine lv_bipush (v := 20) hx hb dX3_readTest_47 (by decide) ?_
            refine tk_Vv hC hK hw hT hA hE hSR hqr (by decide) rfl (k_X2_addToken_1 l adK adV dC dI cy ad B (by omega) (by omega) qr s1   qr hqr 20 w62 H.size hT ) (cwV 1 hC.2.2.2.2 gX3_readTest_X2_addToken rfl rfl rfl (by decide +kernel) ⟨Nat.le_of_ble_eq_true rfl, Nat.le_of_ble_eq_true rfl⟩) rfl hl.1 rfl (Nat.le_of_ble_eq_true rfl) dX3_readTest_49 (fun w67 H locs hp66 hw => ?_)
            obtain ⟨hT, k68, hg71⟩ := hp66
            have hF := hF.tr k68 (by decide)
            obtain ⟨x69, c70, rx69, tx69⟩ := hg71
            refine lv_goto (tgt := 80) hx hb dX3_readTest_52 (by decide) ?_
            exact J80 v9_2 H locs ls w67 (show (-1) ≤ v9_2.toInt by omega) (show v9_2.toInt ≤ 21 by omega) (show 0 ≤ v9_3.toInt by omega) (show v9_3.toInt ≤ 399 by omega)  hw hT hF  (lv_sub hl [0, 1, 2, 3] rfl)
        · refine lv_if_ne (tgt := 86) hx hb dX3_readTest_23 (by decide) (fun _ => ?_) (fun c => absurd c (by decide))
          exact J86 v9_2 v9_3 H locs ls w25 (show (-1) ≤ v9_2.toInt by omega) (show v9_2.toInt ≤ 21 by omega) (show 0 ≤ v9_3.toInt by omega) (show v9_3.toInt ≤ 400 by omega)  hw hT hF  (lv_sub hl [0, 1, 2, 3] rfl)
  refine lv_aload_n hx hb dX3_readTest_0 rfl (lv_at hl 0 rfl) ?_
  refine lv_iload_n hx hb dX3_readTest_1 rfl (lv_at hl 1 rfl) ?_
  refine tk_Vv hC hK hw hT hA hE hSR kC_at3 (by decide) rfl (k_X3_readFact_8 l adK adV dC dI cy ad B (by omega) (by omega) qr s1 hqr   w0 s.heap.size hT cf0_) (cwV 1 hC.2.2.2.2 gX3_readTest_X3_readFact rfl rfl rfl (by decide +kernel) ⟨Nat.le_of_ble_eq_true rfl, Nat.le_of_ble_eq_true rfl⟩) rfl hl.1 rfl (Nat.le_of_ble_eq_true rfl) dX3_readTest_2 (fun w74 H locs hp73 hw => ?_)
  obtain ⟨hT, k75, hg76⟩ := hp73
  have hF := hF.tr k75 (by decide)
  clear hg76
  refine lv_iconst (v := (-1)) hx hb dX3_readTest_5 (by decide) ?_
  refine lv_istore_n (lv' := [(2, .int (-1)), (0, .ref (ad 3)), (1, .int 7)]) hx hb dX3_readTest_6 rfl hl (by decide) rfl (fun ls hl => ?_)
  refine lv_iconst (v := 0) hx hb dX3_readTest_7 (by decide) ?_
  refine lv_istore_n (lv' := [(3, .int 0), (2, .int (-1)), (0, .ref (ad 3)), (1, .int 7)]) hx hb dX3_readTest_8 rfl hl (by decide) rfl (fun ls hl => ?_)
  exact L9 ((400 - (0 : Int)).toNat + 1) (-1) 0 H locs ls w74 (by decide) (by decide) (by decide) (by decide) (Nat.lt_succ_self _) hw hT hF  (lv_sub hl [2, 3, 1, 0] rfl)
abbrev P_X3_readFact_7 (ad : Nat → Nat) (cy : Nat → ClassId) (B : Int) (qr : Nat) (s1 : Int)  (w0 : va_W) : va_W → Prop := fun u => TW ksC ad cy B qr s1 u ∧ FE ksC [(2, 3, 3), (3, 2, 2), (6, 1, 1), (6, 3, 3), (6, 4, 4), (22, 0, 13), (23, 0, 400)] w0 u ∧ ((True))
set_option maxHeartbeats 4000000 in
set_option maxRecDepth 100000 in
theorem k_X3_readFact_7 (l : Launch) (adK adV : Nat → Nat) (dC : Nat → ClassId) (dI : Nat → Nat → Nat) (cy : Nat → ClassId) (ad : Nat → Nat) (B : Int) (hB0 : 2147483648 ≤ B) (hB1 : B ≤ 1152921504606846976) (qr : Nat) (s1 : Int) (hqr : ksC[qr]? = some 2)  (w0 : va_W) (sz : Nat) (hT : TW ksC ad cy B qr s1 w0) (cf0_ : gi w0 1 4 = 0) : Met l yX3_readFact wsX3_readFact ({ frames := 16, cells := 0, slots := 0, locals := 399 }) (va_Pc [.ref (ad 3), .int 6] (wpreS adK adV dC dI cy sz w0)) (va_Qv (P_X3_readFact_7 ad cy B qr s1  w0) (fun u : va_W => wpost dC dI cy (va_A w0 sz) u) (va_A w0 sz)) 0 0 (va_A w0 sz) := by
  refine Met.ofW (cc := cX3_readFact) (maxL := 5) (ret := none) (by decide) rfl ?_
  intro p e s m args below meth c s₁ Bk hml hv
  obtain ⟨rfl, ⟨hsz, hP, hK, hD0⟩, hE, hSR⟩ := hv
  have hx := Bk.exec
  have hb := Bk.bytes
  have hr := Bk.returns
  have hlocks := Bk.notSynchronized
  have hC : CallFix p m c cX3_readFact 5 s _ wsX3_readFact RX3 := ⟨hx, hb, hml, findClass_of_methodNamed Bk.named, atoms_spec (ws := wsX3_readFact) Bk.pre⟩
  subst hsz
  have hD := hD0.self (sz := s.heap.size)
  generalize hAe : va_A w0 s.heap.size = A at hD hE ⊢
  have hA : ∀ q : Nat, s.heap.size ≤ q → A q := fun q h => by rw [← hAe]; exact Or.inr h
  have hw : Wd dC dI A s.heap s.heap [] w0 := ⟨hP, hD, va_S.rf⟩
  have hF : FE ksC [(2, 3, 3), (3, 2, 2), (6, 1, 1), (6, 3, 3), (6, 4, 4), (22, 0, 13), (23, 0, 400)] w0 w0 := FE.rf
  have hl := lv_entry ([.ref (ad 3), .int 6]) (n := 5) (Nat.le_of_ble_eq_true rfl)
  rw [lg_entry_eq]
  generalize (lg_sl ([.ref (ad 3), .int 6]) ++ List.replicate (5 - (lg_sl ([.ref (ad 3), .int 6])).length) Slot.unset).toArray = ls at hl ⊢
  have hl : lv_has ls 5 [(0, .ref (ad 3)), (1, .int 6)] := hl
  generalize hloc : ([] : List Loc) = locs at hw ⊢
  have hinX3 : ∀ w ∈ u_ws RX3 TX3 3, w ∈ wsX3_readFact := fun _ h => List.mem_cons_of_mem _ (List.mem_append_left _ (List.mem_append_left _ (List.mem_append_right _ (h))))
  have J160 : ∀ (v160_2 : Int32) (v160_3 : Int32) (H : Heap) (locs : List Loc) (ls : Array Slot) (w1 : va_W), 0 ≤ v160_2.toInt → v160_2.toInt ≤ 1 → 0 ≤ v160_3.toInt → v160_3.toInt ≤ 1 → Wd dC dI A s.heap H locs w1 → TW ksC ad cy B qr s1 w1 → FE ksC [(2, 3, 3), (3, 2, 2), (6, 1, 1), (6, 3, 3), (6, 4, 4), (22, 0, 13), (23, 0, 400)] w0 w1 → lv_has ls 5 [(0, .ref (ad 3)), (1, .int 6), (2, .int v160_2), (3, .int v160_3)] → W p l e ({ frames := 16, cells := 0, slots := 0, locals := 399 }) s m (List.toArray [.ref (ad 3), .int 6]) below meth c H locs 0 0 (MQ below (va_Qv (P_X3_readFact_7 ad cy B qr s1  w0) (fun u : va_W => wpost dC dI cy A u) A) (List.toArray [.ref (ad 3), .int 6]) s 0 0 A) (F0 m 160 ls []) := by
    intro v160_2 v160_3 H locs ls w1 r2 t3 r4 t5 hw hT hF hl
    exact tk_vret hC hr hlocks hK ⟨hT, hF, trivial⟩ hw dX3_readFact_160
  have J77 : ∀ (v77_2 : Int32) (v77_3 : Int32) (H : Heap) (locs : List Loc) (ls : Array Slot) (w6 : va_W), 0 ≤ v77_2.toInt → v77_2.toInt ≤ 1 → 0 ≤ v77_3.toInt → v77_3.toInt ≤ 1 → Wd dC dI A s.heap H locs w6 → TW ksC ad cy B qr s1 w6 → FE ksC [(2, 3, 3), (3, 2, 2), (6, 1, 1), (6, 3, 3), (6, 4, 4), (22, 0, 13), (23, 0, 400)] w0 w6 → gi w6 1 4 = 0 → lv_has ls 5 [(0, .ref (ad 3)), (1, .int 6), (2, .int v77_2), (3, .int v77_3)] → W p l e ({ frames := 16, cells := 0, slots := 0, locals := 399 }) s m (List.toArray [.ref (ad 3), .int 6]) below meth c H locs 0 0 (MQ below (va_Qv (P_X3_readFact_7 ad cy B qr s1  w0) (fun u : va_W => wpost dC dI cy A u) A) (List.toArray [.ref (ad 3), .int 6]) s 0 0 A) (F0 m 77 ls []) := by
    intro v77_2 v77_3 H locs ls w6 r7 t8 r9 t10 hw hT hF c11 hl
    refine lv_iload_n hx hb dX3_readFact_77 rfl (lv_at hl 1 rfl) ?_
    refine lv_bipush (v := 10) hx hb dX3_readFact_78 (by decide) ?_
    refine lv_icmp_lt (tgt := 101) hx hb dX3_readFact_80 (by decide) (fun _ => ?_) (fun c => absurd (by decide) c)
    refine lv_iload_n hx hb dX3_readFact_101 rfl (lv_at hl 2 rfl) ?_
    refine lv_if_eq (tgt := 124) hx hb dX3_readFact_102 (by decide) (fun c12 => ?_) (fun c12 => ?_)
    · have c12 : v77_2.toInt = (0 : Int) := wk_eq.mp c12
      refine lv_aload_n hx hb dX3_readFact_124 rfl (lv_at hl 0 rfl) ?_
      refine lv_iload_n hx hb dX3_readFact_125 rfl (lv_at hl 1 rfl) ?_
      refine lv_iconst (v := 1) hx hb dX3_readFact_126 (by decide) ?_
      refine lv_iadd hx hb dX3_readFact_127 ?_
      refine wk_top 7 (by decide) ?_
      refine tk_Vv hC hK hw hT hA hE hSR kC_at3 (by decide) rfl (k_X3_readTest_8 l adK adV dC dI cy ad B (by omega) (by omega) qr s1 hqr   w6 H.size hT c11) (cwV 1 hC.2.2.2.2 gX3_readFact_X3_readTest rfl rfl rfl (by decide +kernel) ⟨Nat.le_of_ble_eq_true rfl, Nat.le_of_ble_eq_true rfl⟩) rfl hl.1 rfl (Nat.le_of_ble_eq_true rfl) dX3_readFact_128 (fun w15 H locs hp14 hw => ?_)
      obtain ⟨hT, k16, hg17⟩ := hp14
      have hF := hF.tr k16 (by decide)
      clear hg17
      refine lv_aload_n hx hb dX3_readFact_131 rfl (lv_at hl 0 rfl) ?_
      refine tk_getA hC hK hw hT hinX3 kC_at3 (by decide) rfl 0 (by decide) (List.mem_of_getElem? (i := 1) rfl) rfl rfl dX3_readFact_132 ?_
      refine tk_Vi hC hK hw hT hA hE hSR kC_at1 (by decide) rfl (k_X6_isFaulty_1 l adK adV dC dI cy ad B (by omega) (by omega) qr s1    w15 H.size hT ) (cwV 0 hC.2.2.2.2 gX3_readFact_X6_isFaulty rfl rfl rfl (by decide +kernel) ⟨Nat.le_of_ble_eq_true rfl, Nat.le_of_ble_eq_true rfl⟩) rfl hl.1 rfl (Nat.le_of_ble_eq_true rfl) dX3_readFact_135 (fun r18 w20 H locs hp19 hw => ?_)
      obtain ⟨hT, k21, hg26⟩ := hp19
      have hF := hF.tr k21 (by decide)
      rcases hg26 with ⟨rfl, ⟨x22, c23, rx22, tx22⟩⟩ | ⟨rfl, ⟨x24, c25, rx24, tx24⟩⟩
      · refine lv_if_ne (tgt := 160) hx hb dX3_readFact_138 (by decide) (fun c => absurd (by decide) c) (fun _ => ?_)
        refine lv_aload_n hx hb dX3_readFact_141 rfl (lv_at hl 0 rfl) ?_
        refine tk_getA hC hK hw hT hinX3 kC_at3 (by decide) rfl 0 (by decide) (List.mem_of_getElem? (i := 1) rfl) rfl rfl dX3_readFact_142 ?_
        refine lv_bipush (v := 93) hx hb dX3_readFact_145 (by decide) ?_
        refine tk_Vi hC hK hw hT hA hE hSR kC_at1 (by decide) rfl (k_X6_takeByte_3 l adK adV dC dI cy ad B (by omega) (by omega) qr s1    w20 H.size hT ) (cwV 1 hC.2.2.2.2 gX3_readFact_X6_takeByte rfl rfl rfl (by decide +kernel) ⟨Nat.le_of_ble_eq_true rfl, Nat.le_of_ble_eq_true rfl⟩) rfl hl.1 rfl (Nat.le_of_ble_eq_true rfl) dX3_readFact_147 (fun r27 w29 H locs hp28 hw => ?_)
        obtain ⟨hT, k30, hg35⟩ := hp28
        have hF := hF.tr k30 (by decide)
        have c36 := k30.gi kC_at1 (by decide) c23
        rcases hg35 with rfl | ⟨rfl, ⟨x31, c32, rx31, tx31⟩, ⟨x33, c34, rx33, tx33⟩⟩
        · refine lv_if_ne (tgt := 160) hx hb dX3_readFact_150 (by decide) (fun c => absurd (by decide) c) (fun _ => ?_)
          refine lv_aload_n hx hb dX3_readFact_153 rfl (lv_at hl 0 rfl) ?_
          refine tk_getA hC hK hw hT hinX3 kC_at3 (by decide) rfl 0 (by decide) (List.mem_of_getElem? (i := 1) rfl) rfl rfl dX3_readFact_154 ?_
          refine tk_Vv hC hK hw hT hA hE hSR kC_at1 (by decide) rfl (k_X6_blameHere_1 l adK adV dC dI cy ad B (by omega) (by omega) qr s1    w29 H.size hT (c36.trans (wk_eq.mpr (show x22.toInt = 0 by omega)))) (cwV 0 hC.2.2.2.2 gX3_readFact_X6_blameHere rfl rfl rfl (by decide +kernel) ⟨Nat.le_of_ble_eq_true rfl, Nat.le_of_ble_eq_true rfl⟩) rfl hl.1 rfl (Nat.le_of_ble_eq_true rfl) dX3_readFact_157 (fun w39 H locs hp38 hw => ?_)
          obtain ⟨hT, k40, hg43⟩ := hp38
          have hF := hF.tr k40 (by decide)
          obtain ⟨x41, c42, rx41, tx41⟩ := hg43
          exact J160 v77_2 v77_3 H locs ls w39 (show 0 ≤ v77_2.toInt by omega) (show v77_2.toInt ≤ 1 by omega) (show 0 ≤ v77_3.toInt by omega) (show v77_3.toInt ≤ 1 by omega)  hw hT hF  (lv_sub hl [0, 1, 2, 3] rfl)
        · refine lv_if_ne (tgt := 160) hx hb dX3_readFact_150 (by decide) (fun _ => ?_) (fun c => absurd c (by decide))
          exact J160 v77_2 v77_3 H locs ls w29 (show 0 ≤ v77_2.toInt by omega) (show v77_2.toInt ≤ 1 by omega) (show 0 ≤ v77_3.toInt by omega) (show v77_3.toInt ≤ 1 by omega)  hw hT hF  (lv_sub hl [0, 1, 2, 3] rfl)
      · refine lv_if_ne (tgt := 160) hx hb dX3_readFact_138 (by decide) (fun _ => ?_) (fun c => absurd c (by decide))
        exact J160 v77_2 v77_3 H locs ls w20 (show 0 ≤ v77_2.toInt by omega) (show v77_2.toInt ≤ 1 by omega) (show 0 ≤ v77_3.toInt by omega) (show v77_3.toInt ≤ 1 by omega)  hw hT hF  (lv_sub hl [0, 1, 2, 3] rfl)
    · have c12 : ¬ v77_2.toInt = (0 : Int) := wk_eqF c12
      refine lv_aload_n hx hb dX3_readFact_105 rfl (lv_at hl 0 rfl) ?_
      refine lv_iload_n hx hb dX3_readFact_106 rfl (lv_at hl 1 rfl) ?_
      refine lv_iconst (v := 1) hx hb dX3_readFact_107 (by decide) ?_
      refine lv_iadd hx hb dX3_readFact_108 ?_
      refine wk_top 7 (by decide) ?_
      refine tk_Vv hC hK hw hT hA hE hSR kC_at3 (by decide) rfl (k_X3_readFact_8 l adK adV dC dI cy ad B (by omega) (by omega) qr s1 hqr   w6 H.size hT c11) (cwV 1 hC.2.2.2.2 gX3_readFact_X3_readFact rfl rfl rfl (by decide +kernel) ⟨Nat.le_of_ble_eq_true rfl, Nat.le_of_ble_eq_true rfl⟩) rfl hl.1 rfl (Nat.le_of_ble_eq_true rfl) dX3_readFact_109 (fun w46 H locs hp45 hw => ?_)
      obtain ⟨hT, k47, hg48⟩ := hp45
      have hF := hF.tr k47 (by decide)
      clear hg48
      refine lv_aload_n hx hb dX3_readFact_112 rfl (lv_at hl 0 rfl) ?_
      refine tk_getQ hC hK hw hT hqr (by decide) hinX3 kC_at3 (by decide) rfl 1 (by decide) (List.mem_of_getElem? (i := 2) rfl) rfl rfl dX3_readFact_113 ?_
      refine lv_bipush (v := 19) hx hb dX3_readFact_116 (by decide) ?_
      refine tk_Vv hC hK hw hT hA hE hSR hqr (by decide) rfl (k_X2_addToken_1 l adK adV dC dI cy ad B (by omega) (by omega) qr s1   qr hqr 19 w46 H.size hT ) (cwV 1 hC.2.2.2.2 gX3_readFact_X2_addToken rfl rfl rfl (by decide +kernel) ⟨Nat.le_of_ble_eq_true rfl, Nat.le_of_ble_eq_true rfl⟩) rfl hl.1 rfl (Nat.le_of_ble_eq_true rfl) dX3_readFact_118 (fun w51 H locs hp50 hw => ?_)
      obtain ⟨hT, k52, hg55⟩ := hp50
      have hF := hF.tr k52 (by decide)
      obtain ⟨x53, c54, rx53, tx53⟩ := hg55
      refine lv_goto (tgt := 160) hx hb dX3_readFact_121 (by decide) ?_
      exact J160 v77_2 v77_3 H locs ls w51 (show 0 ≤ v77_2.toInt by omega) (show v77_2.toInt ≤ 1 by omega) (show 0 ≤ v77_3.toInt by omega) (show v77_3.toInt ≤ 1 by omega)  hw hT hF  (lv_sub hl [0, 1, 2, 3] rfl)
  have J41 : ∀ (v41_2 : Int32) (H : Heap) (locs : List Loc) (ls : Array Slot) (w56 : va_W), 0 ≤ v41_2.toInt → v41_2.toInt ≤ 1 → Wd dC dI A s.heap H locs w56 → TW ksC ad cy B qr s1 w56 → FE ksC [(2, 3, 3), (3, 2, 2), (6, 1, 1), (6, 3, 3), (6, 4, 4), (22, 0, 13), (23, 0, 400)] w0 w56 → gi w56 1 4 = 0 → lv_has ls 5 [(0, .ref (ad 3)), (1, .int 6), (2, .int v41_2)] → W p l e ({ frames := 16, cells := 0, slots := 0, locals := 399 }) s m (List.toArray [.ref (ad 3), .int 6]) below meth c H locs 0 0 (MQ below (va_Qv (P_X3_readFact_7 ad cy B qr s1  w0) (fun u : va_W => wpost dC dI cy A u) A) (List.toArray [.ref (ad 3), .int 6]) s 0 0 A) (F0 m 41 ls []) := by
    intro v41_2 H locs ls w56 r57 t58 hw hT hF c59 hl
    refine lv_iconst (v := 0) hx hb dX3_readFact_41 (by decide) ?_
    refine lv_istore_n (lv' := [(3, .int 0), (0, .ref (ad 3)), (1, .int 6), (2, .int v41_2)]) hx hb dX3_readFact_42 rfl hl (by decide) rfl (fun ls hl => ?_)
    refine lv_iload_n hx hb dX3_readFact_43 rfl (lv_at hl 3 rfl) ?_
    refine lv_if_ne (tgt := 77) hx hb dX3_readFact_44 (by decide) (fun c60 => ?_) (fun c60 => ?_)
    · have c60 : ¬ v41_2.toInt = (0 : Int) := wk_eqF c60
      exact J77 v41_2 0 H locs ls w56 (show 0 ≤ v41_2.toInt by omega) (show v41_2.toInt ≤ 1 by omega) (by decide) (by decide)  hw hT hF c59 (lv_sub hl [1, 2, 3, 0] rfl)
    · have c60 : v41_2.toInt = (0 : Int) := wk_eq.mp c60
      refine lv_iload_n hx hb dX3_readFact_47 rfl (lv_at hl 0 rfl) ?_
      refine lv_if_ne (tgt := 77) hx hb dX3_readFact_48 (by decide) (fun c => absurd (by decide) c) (fun _ => ?_)
      refine lv_aload_n hx hb dX3_readFact_51 rfl (lv_at hl 1 rfl) ?_
      refine tk_Vv hC hK hw hT hA hE hSR kC_at3 (by decide) rfl (k_X3_readSum_1 l adK adV dC dI cy ad B (by omega) (by omega) qr s1 hqr   w56 H.size hT c59) (cwV 0 hC.2.2.2.2 gX3_readFact_X3_readSum rfl rfl rfl (by decide +kernel) ⟨Nat.le_of_ble_eq_true rfl, Nat.le_of_ble_eq_true rfl⟩) rfl hl.1 rfl (Nat.le_of_ble_eq_true rfl) dX3_readFact_52 (fun w63 H locs hp62 hw => ?_)
      obtain ⟨hT, k64, hg65⟩ := hp62
      have hF := hF.tr k64 (by decide)
      clear hg65
      refine lv_aload_n hx hb dX3_readFact_55 rfl (lv_at hl 1 rfl) ?_
      refine tk_Vi hC hK hw hT hA hE hSR kC_at3 (by decide) rfl (k_X3_readSign_1 l adK adV dC dI cy ad B (by omega) (by omega) qr s1    w63 H.size hT ) (cwV 0 hC.2.2.2.2 gX3_readFact_X3_readSign rfl rfl rfl (by decide +kernel) ⟨Nat.le_of_ble_eq_true rfl, Nat.le_of_ble_eq_true rfl⟩) rfl hl.1 rfl (Nat.le_of_ble_eq_true rfl) dX3_readFact_56 (fun r66 w68 H locs hp67 hw => ?_)
      obtain ⟨hT, k69, hg80⟩ := hp67
      have hF := hF.tr k69 (by decide)
      rcases hg80 with ⟨rfl, ⟨x70, c71, rx70, tx70⟩⟩ | ⟨g72, g73, ⟨x74, c75, rx74, tx74⟩, ⟨x76, c77, rx76, tx76⟩, ⟨x78, c79, rx78, tx78⟩⟩
      · refine lv_istore (lv' := [(4, .int 16), (3, .int 0), (0, .ref (ad 3)), (1, .int 6), (2, .int v41_2)]) hx hb dX3_readFact_59 hl (by decide) rfl (fun ls hl => ?_)
        refine lv_aload_n hx hb dX3_readFact_61 rfl (lv_at hl 2 rfl) ?_
        refine tk_Vv hC hK hw hT hA hE hSR kC_at3 (by decide) rfl (k_X3_readSum_2 l adK adV dC dI cy ad B (by omega) (by omega) qr s1 hqr   w68 H.size hT x70 c71 (show 1 ≤ x70.toInt by omega) (show x70.toInt ≤ 3205 by omega)) (cwV 0 hC.2.2.2.2 gX3_readFact_X3_readSum rfl rfl rfl (by decide +kernel) ⟨Nat.le_of_ble_eq_true rfl, Nat.le_of_ble_eq_true rfl⟩) rfl hl.1 rfl (Nat.le_of_ble_eq_true rfl) dX3_readFact_62 (fun w83 H locs hp82 hw => ?_)
        obtain ⟨hT, k84, hg87⟩ := hp82
        have hF := hF.tr k84 (by decide)
        have c88 := k84.gi kC_at1 (by decide) c71
        obtain ⟨x85, c86, rx85, tx85⟩ := hg87
        have ex85 : x85.toInt = x70.toInt := by rw [← c88.symm.trans c86]
        refine lv_aload_n hx hb dX3_readFact_65 rfl (lv_at hl 2 rfl) ?_
        refine tk_getQ hC hK hw hT hqr (by decide) hinX3 kC_at3 (by decide) rfl 1 (by decide) (List.mem_of_getElem? (i := 2) rfl) rfl rfl dX3_readFact_66 ?_
        refine lv_iload hx hb dX3_readFact_69 (lv_at hl 0 rfl) ?_
        refine tk_Vv hC hK hw hT hA hE hSR hqr (by decide) rfl (k_X2_addToken_1 l adK adV dC dI cy ad B (by omega) (by omega) qr s1   qr hqr 16 w83 H.size hT ) (cwV 1 hC.2.2.2.2 gX3_readFact_X2_addToken rfl rfl rfl (by decide +kernel) ⟨Nat.le_of_ble_eq_true rfl, Nat.le_of_ble_eq_true rfl⟩) rfl hl.1 rfl (Nat.le_of_ble_eq_true rfl) dX3_readFact_71 (fun w91 H locs hp90 hw => ?_)
        obtain ⟨hT, k92, hg95⟩ := hp90
        have hF := hF.tr k92 (by decide)
        have c96 := k92.gi kC_at1 (by decide) c88
        obtain ⟨x93, c94, rx93, tx93⟩ := hg95
        refine lv_goto (tgt := 160) hx hb dX3_readFact_74 (by decide) ?_
        exact J160 v41_2 0 H locs ls w91 (show 0 ≤ v41_2.toInt by omega) (show v41_2.toInt ≤ 1 by omega) (by decide) (by decide)  hw hT hF  (lv_sub hl [2, 3, 4, 1] rfl)
      · refine lv_istore (lv' := [(4, .int r66), (3, .int 0), (0, .ref (ad 3)), (1, .int 6), (2, .int v41_2)]) hx hb dX3_readFact_59 hl (by decide) rfl (fun ls hl => ?_)
        refine lv_aload_n hx hb dX3_readFact_61 rfl (lv_at hl 2 rfl) ?_
        refine tk_Vv hC hK hw hT hA hE hSR kC_at3 (by decide) rfl (k_X3_readSum_3 l adK adV dC dI cy ad B (by omega) (by omega) qr s1 hqr   w68 H.size hT ) (cwV 0 hC.2.2.2.2 gX3_readFact_X3_readSum rfl rfl rfl (by decide +kernel) ⟨Nat.le_of_ble_eq_true rfl, Nat.le_of_ble_eq_true rfl⟩) rfl hl.1 rfl (Nat.le_of_ble_eq_true rfl) dX3_readFact_62 (fun w99 H locs hp98 hw => ?_)
        obtain ⟨hT, k100, hg101⟩ := hp98
        have hF := hF.tr k100 (by decide)
        have c102 := k100.gi kC_at1 (by decide) c75
        clear hg101
        refine lv_aload_n hx hb dX3_readFact_65 rfl (lv_at hl 2 rfl) ?_
        refine tk_getQ hC hK hw hT hqr (by decide) hinX3 kC_at3 (by decide) rfl 1 (by decide) (List.mem_of_getElem? (i := 2) rfl) rfl rfl dX3_readFact_66 ?_
        refine lv_iload hx hb dX3_readFact_69 (lv_at hl 0 rfl) ?_
        refine tk_Vv hC hK hw hT hA hE hSR hqr (by decide) rfl (k_X2_addToken_1 l adK adV dC dI cy ad B (by omega) (by omega) qr s1   qr hqr r66 w99 H.size hT ) (cwV 1 hC.2.2.2.2 gX3_readFact_X2_addToken rfl rfl rfl (by decide +kernel) ⟨Nat.le_of_ble_eq_true rfl, Nat.le_of_ble_eq_true rfl⟩) rfl hl.1 rfl (Nat.le_of_ble_eq_true rfl) dX3_readFact_71 (fun w105 H locs hp104 hw => ?_)
        obtain ⟨hT, k106, hg109⟩ := hp104
        have hF := hF.tr k106 (by decide)
        have c110 := k106.gi kC_at1 (by decide) c102
        obtain ⟨x107, c108, rx107, tx107⟩ := hg109
        refine lv_goto (tgt := 160) hx hb dX3_readFact_74 (by decide) ?_
        exact J160 v41_2 0 H locs ls w105 (show 0 ≤ v41_2.toInt by omega) (show v41_2.toInt ≤ 1 by omega) (by decide) (by decide)  hw hT hF  (lv_sub hl [2, 3, 4, 1] rfl)
  refine lv_aload_n hx hb dX3_readFact_0 rfl (lv_at hl 0 rfl) ?_
  refine tk_getA hC hK hw hT hinX3 kC_at3 (by decide) rfl 0 (by decide) (List.mem_of_getElem? (i := 1) rfl) rfl rfl dX3_readFact_1 ?_
  refine tk_Vi hC hK hw hT hA hE hSR kC_at1 (by decide) rfl (k_X6_isFaulty_2 l adK adV dC dI cy ad B (by omega) (by omega) qr s1    w0 s.heap.size hT cf0_) (cwV 0 hC.2.2.2.2 gX3_readFact_X6_isFaulty rfl rfl rfl (by decide +kernel) ⟨Nat.le_of_ble_eq_true rfl, Nat.le_of_ble_eq_true rfl⟩) rfl hl.1 rfl (Nat.le_of_ble_eq_true rfl) dX3_readFact_4 (fun r111 w113 H locs hp112 hw => ?_)
  obtain ⟨hT, k114, hg117⟩ := hp112
  have hF := hF.tr k114 (by decide)
  have c118 := k114.gi kC_at1 (by decide) cf0_
  obtain ⟨rfl, ⟨x115, c116, rx115, tx115⟩⟩ := hg117
  have ex115 : x115.toInt = (0 : Int) := by rw [show x115 = 0 from c116.symm.trans c118]; decide
  refine lv_if_eq (tgt := 11) hx hb dX3_readFact_7 (by decide) (fun _ => ?_) (fun c => absurd (by decide) c)
  refine lv_aload_n hx hb dX3_readFact_11 rfl (lv_at hl 0 rfl) ?_
  refine tk_getA hC hK hw hT hinX3 kC_at3 (by decide) rfl 0 (by decide) (List.mem_of_getElem? (i := 1) rfl) rfl rfl dX3_readFact_12 ?_
  refine va_ldcS hx hb hC.2.2.2.1 hSR.2.2.2.2.1 dX3_readFact_15 ?_
  refine tk_Vi hC hK hw hT hA hE hSR kC_at1 (by decide) rfl (k_X6_takeWord_4 l adK adV dC dI cy ad B (by omega) (by omega) qr s1    w113 H.size hT ) (cwV 1 hC.2.2.2.2 gX3_readFact_X6_takeWord rfl rfl rfl (by decide +kernel) ⟨Nat.le_of_ble_eq_true rfl, Nat.le_of_ble_eq_true rfl⟩) rfl hl.1 rfl (Nat.le_of_ble_eq_true rfl) dX3_readFact_17 (fun r119 w121 H locs hp120 hw => ?_)
  obtain ⟨hT, k122, hg125⟩ := hp120
  have hF := hF.tr k122 (by decide)
  have c126 := k122.gi kC_at1 (by decide) c118
  rcases hg125 with rfl | ⟨rfl, ⟨x123, c124, rx123, tx123⟩⟩
  · refine lv_istore_n (lv' := [(2, .int 0), (0, .ref (ad 3)), (1, .int 6)]) hx hb dX3_readFact_20 rfl hl (by decide) rfl (fun ls hl => ?_)
    refine lv_iload_n hx hb dX3_readFact_21 rfl (lv_at hl 0 rfl) ?_
    refine lv_if_ne (tgt := 41) hx hb dX3_readFact_22 (by decide) (fun c => absurd (by decide) c) (fun _ => ?_)
    refine lv_aload_n hx hb dX3_readFact_25 rfl (lv_at hl 1 rfl) ?_
    refine tk_getA hC hK hw hT hinX3 kC_at3 (by decide) rfl 0 (by decide) (List.mem_of_getElem? (i := 1) rfl) rfl rfl dX3_readFact_26 ?_
    refine lv_bipush (v := 91) hx hb dX3_readFact_29 (by decide) ?_
    refine tk_Vi hC hK hw hT hA hE hSR kC_at1 (by decide) rfl (k_X6_takeByte_2 l adK adV dC dI cy ad B (by omega) (by omega) qr s1    w121 H.size hT ) (cwV 1 hC.2.2.2.2 gX3_readFact_X6_takeByte rfl rfl rfl (by decide +kernel) ⟨Nat.le_of_ble_eq_true rfl, Nat.le_of_ble_eq_true rfl⟩) rfl hl.1 rfl (Nat.le_of_ble_eq_true rfl) dX3_readFact_31 (fun r127 w129 H locs hp128 hw => ?_)
    obtain ⟨hT, k130, hg135⟩ := hp128
    have hF := hF.tr k130 (by decide)
    have c136 := k130.gi kC_at1 (by decide) c126
    rcases hg135 with rfl | ⟨rfl, ⟨x131, c132, rx131, tx131⟩, ⟨x133, c134, rx133, tx133⟩⟩
    · refine lv_if_eq (tgt := 41) hx hb dX3_readFact_34 (by decide) (fun _ => ?_) (fun c => absurd (by decide) c)
      exact J41 0 H locs ls w129 (by decide) (by decide)  hw hT hF c136 (lv_sub hl [1, 2, 0] rfl)
    · refine lv_if_eq (tgt := 41) hx hb dX3_readFact_34 (by decide) (fun c => absurd c (by decide)) (fun _ => ?_)
      refine lv_iconst (v := 1) hx hb dX3_readFact_37 (by decide) ?_
      refine lv_goto (tgt := 42) hx hb dX3_readFact_38 (by decide) ?_
      refine lv_istore_n (lv' := [(3, .int 1), (2, .int 0), (0, .ref (ad 3)), (1, .int 6)]) hx hb dX3_readFact_42 rfl hl (by decide) rfl (fun ls hl => ?_)
      refine lv_iload_n hx hb dX3_readFact_43 rfl (lv_at hl 1 rfl) ?_
      refine lv_if_ne (tgt := 77) hx hb dX3_readFact_44 (by decide) (fun c => absurd (by decide) c) (fun _ => ?_)
      refine lv_iload_n hx hb dX3_readFact_47 rfl (lv_at hl 0 rfl) ?_
      refine lv_if_ne (tgt := 77) hx hb dX3_readFact_48 (by decide) (fun _ => ?_) (fun c => absurd c (by decide))
      exact J77 0 1 H locs ls w129 (by decide) (by decide) (by decide) (by decide)  hw hT hF c136 (lv_sub hl [2, 3, 1, 0] rfl)
  · refine lv_istore_n (lv' := [(2, .int 1), (0, .ref (ad 3)), (1, .int 6)]) hx hb dX3_readFact_20 rfl hl (by decide) rfl (fun ls hl => ?_)
    refine lv_iload_n hx hb dX3_readFact_21 rfl (lv_at hl 0 rfl) ?_
    refine lv_if_ne (tgt := 41) hx hb dX3_readFact_22 (by decide) (fun _ => ?_) (fun c => absurd c (by decide))
    exact J41 1 H locs ls w121 (by decide) (by decide)  hw hT hF c126 (lv_sub hl [1, 2, 0] rfl)
abbrev P_X3_readTest_7 (ad : Nat → Nat) (cy : Nat → ClassId) (B : Int) (qr : Nat) (s1 : Int)  (w0 : va_W) : va_W → Prop := fun u => TW ksC ad cy B qr s1 u ∧ FE ksC [(2, 3, 3), (3, 2, 2), (6, 1, 1), (6, 3, 3), (6, 4, 4), (22, 0, 13), (23, 0, 400)] w0 u ∧ ((True))
set_option maxHeartbeats 4000000 in
set_option maxRecDepth 100000 in
theorem k_X3_readTest_7 (l : Launch) (adK adV : Nat → Nat) (dC : Nat → ClassId) (dI : Nat → Nat → Nat) (cy : Nat → ClassId) (ad : Nat → Nat) (B : Int) (hB0 : 2147483648 ≤ B) (hB1 : B ≤ 1152921504606846976) (qr : Nat) (s1 : Int) (hqr : ksC[qr]? = some 2)  (w0 : va_W) (sz : Nat) (hT : TW ksC ad cy B qr s1 w0) (cf0_ : gi w0 1 4 = 0) : Met l yX3_readTest wsX3_readTest ({ frames := 17, cells := 0, slots := 0, locals := 423 }) (va_Pc [.ref (ad 3), .int 6] (wpreS adK adV dC dI cy sz w0)) (va_Qv (P_X3_readTest_7 ad cy B qr s1  w0) (fun u : va_W => wpost dC dI cy (va_A w0 sz) u) (va_A w0 sz)) 0 0 (va_A w0 sz) := by
  refine Met.ofW (cc := cX3_readTest) (maxL := 4) (ret := none) (by decide) rfl ?_
  intro p e s m args below meth c s₁ Bk hml hv
  obtain ⟨rfl, ⟨hsz, hP, hK, hD0⟩, hE, hSR⟩ := hv
  have hx := Bk.exec
  have hb := Bk.bytes
  have hr := Bk.returns
  have hlocks := Bk.notSynchronized
  have hC : CallFix p m c cX3_readTest 4 s _ wsX3_readTest RX3 := ⟨hx, hb, hml, findClass_of_methodNamed Bk.named, atoms_spec (ws := wsX3_readTest) Bk.pre⟩
  subst hsz
  have hD := hD0.self (sz := s.heap.size)
  generalize hAe : va_A w0 s.heap.size = A at hD hE ⊢
  have hA : ∀ q : Nat, s.heap.size ≤ q → A q := fun q h => by rw [← hAe]; exact Or.inr h
  have hw : Wd dC dI A s.heap s.heap [] w0 := ⟨hP, hD, va_S.rf⟩
  have hF : FE ksC [(2, 3, 3), (3, 2, 2), (6, 1, 1), (6, 3, 3), (6, 4, 4), (22, 0, 13), (23, 0, 400)] w0 w0 := FE.rf
  have hl := lv_entry ([.ref (ad 3), .int 6]) (n := 4) (Nat.le_of_ble_eq_true rfl)
  rw [lg_entry_eq]
  generalize (lg_sl ([.ref (ad 3), .int 6]) ++ List.replicate (4 - (lg_sl ([.ref (ad 3), .int 6])).length) Slot.unset).toArray = ls at hl ⊢
  have hl : lv_has ls 4 [(0, .ref (ad 3)), (1, .int 6)] := hl
  generalize hloc : ([] : List Loc) = locs at hw ⊢
  have hinX3 : ∀ w ∈ u_ws RX3 TX3 3, w ∈ wsX3_readTest := fun _ h => List.mem_cons_of_mem _ (List.mem_append_left _ (List.mem_append_left _ (List.mem_append_right _ (h))))
  have J86 : ∀ (v86_2 : Int32) (v86_3 : Int32) (H : Heap) (locs : List Loc) (ls : Array Slot) (w1 : va_W), (-1) ≤ v86_2.toInt → v86_2.toInt ≤ 21 → 0 ≤ v86_3.toInt → v86_3.toInt ≤ 400 → Wd dC dI A s.heap H locs w1 → TW ksC ad cy B qr s1 w1 → FE ksC [(2, 3, 3), (3, 2, 2), (6, 1, 1), (6, 3, 3), (6, 4, 4), (22, 0, 13), (23, 0, 400)] w0 w1 → lv_has ls 4 [(0, .ref (ad 3)), (1, .int 6), (2, .int v86_2), (3, .int v86_3)] → W p l e ({ frames := 17, cells := 0, slots := 0, locals := 423 }) s m (List.toArray [.ref (ad 3), .int 6]) below meth c H locs 0 0 (MQ below (va_Qv (P_X3_readTest_7 ad cy B qr s1  w0) (fun u : va_W => wpost dC dI cy A u) A) (List.toArray [.ref (ad 3), .int 6]) s 0 0 A) (F0 m 86 ls []) := by
    intro v86_2 v86_3 H locs ls w1 r2 t3 r4 t5 hw hT hF hl
    refine lv_aload_n hx hb dX3_readTest_86 rfl (lv_at hl 0 rfl) ?_
    refine lv_iload_n hx hb dX3_readTest_87 rfl (lv_at hl 2 rfl) ?_
    refine tk_Vv hC hK hw hT hA hE hSR kC_at3 (by decide) rfl (k_X3_addWaiting_1 l adK adV dC dI cy ad B (by omega) (by omega) qr s1 hqr  v86_2 w1 H.size hT ) (cwV 1 hC.2.2.2.2 gX3_readTest_X3_addWaiting rfl rfl rfl (by decide +kernel) ⟨Nat.le_of_ble_eq_true rfl, Nat.le_of_ble_eq_true rfl⟩) rfl hl.1 rfl (Nat.le_of_ble_eq_true rfl) dX3_readTest_88 (fun w8 H locs hp7 hw => ?_)
    obtain ⟨hT, k9, hg10⟩ := hp7
    have hF := hF.tr k9 (by decide)
    clear hg10
    exact tk_vret hC hr hlocks hK ⟨hT, hF, trivial⟩ hw dX3_readTest_91
  have L9 : ∀ (n9 : Nat) (v9_2 : Int32) (v9_3 : Int32) (H : Heap) (locs : List Loc) (ls : Array Slot) (w11 : va_W), (-1) ≤ v9_2.toInt → v9_2.toInt ≤ 21 → 0 ≤ v9_3.toInt → v9_3.toInt ≤ 400 → (400 - v9_3.toInt).toNat < n9 → Wd dC dI A s.heap H locs w11 → TW ksC ad cy B qr s1 w11 → FE ksC [(2, 3, 3), (3, 2, 2), (6, 1, 1), (6, 3, 3), (6, 4, 4), (22, 0, 13), (23, 0, 400)] w0 w11 → lv_has ls 4 [(0, .ref (ad 3)), (1, .int 6), (2, .int v9_2), (3, .int v9_3)] → W p l e ({ frames := 17, cells := 0, slots := 0, locals := 423 }) s m (List.toArray [.ref (ad 3), .int 6]) below meth c H locs 0 0 (MQ below (va_Qv (P_X3_readTest_7 ad cy B qr s1  w0) (fun u : va_W => wpost dC dI cy A u) A) (List.toArray [.ref (ad 3), .int 6]) s 0 0 A) (F0 m 9 ls []) := by
    intro n9
    induction n9 with
    | zero => intro v9_2 v9_3 H locs ls w11 r12 t13 r14 t15 hm9 hw hT hF hl; omega
    | succ n9 ih9 =>
      intro v9_2 v9_3 H locs ls w11 r12 t13 r14 t15 hm9 hw hT hF hl
      have J80 : ∀ (v80_2 : Int32) (H : Heap) (locs : List Loc) (ls : Array Slot) (w16 : va_W), (-1) ≤ v80_2.toInt → v80_2.toInt ≤ 21 → 0 ≤ v9_3.toInt → v9_3.toInt ≤ 399 → Wd dC dI A s.heap H locs w16 → TW ksC ad cy B qr s1 w16 → FE ksC [(2, 3, 3), (3, 2, 2), (6, 1, 1), (6, 3, 3), (6, 4, 4), (22, 0, 13), (23, 0, 400)] w0 w16 → lv_has ls 4 [(0, .ref (ad 3)), (1, .int 6), (2, .int v80_2), (3, .int v9_3)] → W p l e ({ frames := 17, cells := 0, slots := 0, locals := 423 }) s m (List.toArray [.ref (ad 3), .int 6]) below meth c H locs 0 0 (MQ below (va_Qv (P_X3_readTest_7 ad cy B qr s1  w0) (fun u : va_W => wpost dC dI cy A u) A) (List.toArray [.ref (ad 3), .int 6]) s 0 0 A) (F0 m 80 ls []) := by
        intro v80_2 H locs ls w16 r17 t18 r19 t20 hw hT hF hl
        obtain ⟨x21, ex21⟩ : ∃ y : Int32, y = v9_3 + Int32.ofInt 1 := ⟨_, rfl⟩
        refine lv_iinc (v := x21) (lv' := [(3, .int x21), (0, .ref (ad 3)), (1, .int 6), (2, .int v80_2)]) hx hb dX3_readTest_80 hl (k := 3) rfl ex21.symm (by decide) rfl (fun ls hl => ?_)
        have ex21 : x21.toInt = v9_3.toInt + 1 := by rw [ex21]; exact wk_add (y := 1) (show -2147483648 ≤ v9_3.toInt + 1 by omega) (show v9_3.toInt + 1 ≤ 2147483647 by omega)
        refine lv_goto (tgt := 9) hx hb dX3_readTest_83 (by decide) ?_
        exact ih9 v80_2 x21 H locs ls w16 (show (-1) ≤ v80_2.toInt by omega) (show v80_2.toInt ≤ 21 by omega) (show 0 ≤ x21.toInt by omega) (show x21.toInt ≤ 400 by omega) (show (400 - x21.toInt).toNat < n9 by omega) hw hT hF  (lv_sub hl [1, 2, 3, 0] rfl)
      refine lv_iload_n hx hb dX3_readTest_9 rfl (lv_at hl 3 rfl) ?_
      refine lv_sipush (v := 400) hx hb dX3_readTest_10 (by decide) ?_
      refine lv_icmp_ge (tgt := 86) hx hb dX3_readTest_13 (by decide) (fun c22 => ?_) (fun c22 => ?_)
      · have c22 : (400 : Int) ≤ v9_3.toInt := wk_le.mp c22
        exact J86 v9_2 v9_3 H locs ls w11 (show (-1) ≤ v9_2.toInt by omega) (show v9_2.toInt ≤ 21 by omega) (show 0 ≤ v9_3.toInt by omega) (show v9_3.toInt ≤ 400 by omega)  hw hT hF  (lv_sub hl [0, 1, 2, 3] rfl)
      · have c22 : v9_3.toInt < (400 : Int) := wk_leF c22
        refine lv_aload_n hx hb dX3_readTest_16 rfl (lv_at hl 0 rfl) ?_
        refine tk_getA hC hK hw hT hinX3 kC_at3 (by decide) rfl 0 (by decide) (List.mem_of_getElem? (i := 1) rfl) rfl rfl dX3_readTest_17 ?_
        refine tk_Vi hC hK hw hT hA hE hSR kC_at1 (by decide) rfl (k_X6_isFaulty_1 l adK adV dC dI cy ad B (by omega) (by omega) qr s1    w11 H.size hT ) (cwV 0 hC.2.2.2.2 gX3_readTest_X6_isFaulty rfl rfl rfl (by decide +kernel) ⟨Nat.le_of_ble_eq_true rfl, Nat.le_of_ble_eq_true rfl⟩) rfl hl.1 rfl (Nat.le_of_ble_eq_true rfl) dX3_readTest_20 (fun r23 w25 H locs hp24 hw => ?_)
        obtain ⟨hT, k26, hg31⟩ := hp24
        have hF := hF.tr k26 (by decide)
        rcases hg31 with ⟨rfl, ⟨x27, c28, rx27, tx27⟩⟩ | ⟨rfl, ⟨x29, c30, rx29, tx29⟩⟩
        · refine lv_if_ne (tgt := 86) hx hb dX3_readTest_23 (by decide) (fun c => absurd (by decide) c) (fun _ => ?_)
          refine lv_aload_n hx hb dX3_readTest_26 rfl (lv_at hl 0 rfl) ?_
          refine tk_getA hC hK hw hT hinX3 kC_at3 (by decide) rfl 0 (by decide) (List.mem_of_getElem? (i := 1) rfl) rfl rfl dX3_readTest_27 ?_
          refine va_ldcS hx hb hC.2.2.2.1 hSR.2.2.2.2.2.2.1 dX3_readTest_30 ?_
          refine tk_Vi hC hK hw hT hA hE hSR kC_at1 (by decide) rfl (k_X6_takeWord_2 l adK adV dC dI cy ad B (by omega) (by omega) qr s1    w25 H.size hT ) (cwV 1 hC.2.2.2.2 gX3_readTest_X6_takeWord rfl rfl rfl (by decide +kernel) ⟨Nat.le_of_ble_eq_true rfl, Nat.le_of_ble_eq_true rfl⟩) rfl hl.1 rfl (Nat.le_of_ble_eq_true rfl) dX3_readTest_32 (fun r32 w34 H locs hp33 hw => ?_)
          obtain ⟨hT, k35, hg38⟩ := hp33
          have hF := hF.tr k35 (by decide)
          have c39 := k35.gi kC_at1 (by decide) c28
          rcases hg38 with rfl | ⟨rfl, ⟨x36, c37, rx36, tx36⟩⟩
          · refine lv_if_eq (tgt := 55) hx hb dX3_readTest_35 (by decide) (fun _ => ?_) (fun c => absurd (by decide) c)
            refine lv_aload_n hx hb dX3_readTest_55 rfl (lv_at hl 0 rfl) ?_
            refine tk_getA hC hK hw hT hinX3 kC_at3 (by decide) rfl 0 (by decide) (List.mem_of_getElem? (i := 1) rfl) rfl rfl dX3_readTest_56 ?_
            refine va_ldcS hx hb hC.2.2.2.1 hSR.2.2.2.2.2.2.2 dX3_readTest_59 ?_
            refine tk_Vi hC hK hw hT hA hE hSR kC_at1 (by decide) rfl (k_X6_takeWord_3 l adK adV dC dI cy ad B (by omega) (by omega) qr s1    w34 H.size hT ) (cwV 1 hC.2.2.2.2 gX3_readTest_X6_takeWord rfl rfl rfl (by decide +kernel) ⟨Nat.le_of_ble_eq_true rfl, Nat.le_of_ble_eq_true rfl⟩) rfl hl.1 rfl (Nat.le_of_ble_eq_true rfl) dX3_readTest_61 (fun r40 w42 H locs hp41 hw => ?_)
            obtain ⟨hT, k43, hg46⟩ := hp41
            have hF := hF.tr k43 (by decide)
            have c47 := k43.gi kC_at1 (by decide) c39
            rcases hg46 with rfl | ⟨rfl, ⟨x44, c45, rx44, tx44⟩⟩
            · refine lv_if_eq (tgt := 86) hx hb dX3_readTest_64 (by decide) (fun _ => ?_) (fun c => absurd (by decide) c)
              exact J86 v9_2 v9_3 H locs ls w42 (show (-1) ≤ v9_2.toInt by omega) (show v9_2.toInt ≤ 21 by omega) (show 0 ≤ v9_3.toInt by omega) (show v9_3.toInt ≤ 400 by omega)  hw hT hF  (lv_sub hl [0, 1, 2, 3] rfl)
            · refine lv_if_eq (tgt := 86) hx hb dX3_readTest_64 (by decide) (fun c => absurd c (by decide)) (fun _ => ?_)
              refine lv_aload_n hx hb dX3_readTest_67 rfl (lv_at hl 0 rfl) ?_
              refine lv_iload_n hx hb dX3_readTest_68 rfl (lv_at hl 2 rfl) ?_
              refine tk_Vv hC hK hw hT hA hE hSR kC_at3 (by decide) rfl (k_X3_addWaiting_1 l adK adV dC dI cy ad B (by omega) (by omega) qr s1 hqr  v9_2 w42 H.size hT ) (cwV 1 hC.2.2.2.2 gX3_readTest_X3_addWaiting rfl rfl rfl (by decide +kernel) ⟨Nat.le_of_ble_eq_true rfl, Nat.le_of_ble_eq_true rfl⟩) rfl hl.1 rfl (Nat.le_of_ble_eq_true rfl) dX3_readTest_69 (fun w50 H locs hp49 hw => ?_)
              obtain ⟨hT, k51, hg52⟩ := hp49
              have hF := hF.tr k51 (by decide)
              have c53 := k51.gi kC_at1 (by decide) c47
              have c54 := k51.gi kC_at1 (by decide) c45
              clear hg52
              refine lv_bipush (v := 21) hx hb dX3_readTest_72 (by decide) ?_
              refine lv_istore_n (lv' := [(2, .int 21), (0, .ref (ad 3)), (1, .int 6), (3, .int v9_3)]) hx hb dX3_readTest_74 rfl hl (by decide) rfl (fun ls hl => ?_)
              refine lv_aload_n hx hb dX3_readTest_75 rfl (lv_at hl 1 rfl) ?_
              refine lv_iload_n hx hb dX3_readTest_76 rfl (lv_at hl 2 rfl) ?_
              refine tk_Vv hC hK hw hT hA hE hSR kC_at3 (by decide) rfl (k_X3_readFact_7 l adK adV dC dI cy ad B (by omega) (by omega) qr s1 hqr   w50 H.size hT (c53.trans (wk_eq.mpr (show x27.toInt = 0 by omega)))) (cwV 1 hC.2.2.2.2 gX3_readTest_X3_readFact rfl rfl rfl (by decide +kernel) ⟨Nat.le_of_ble_eq_true rfl, Nat.le_of_ble_eq_true rfl⟩) rfl hl.1 rfl (Nat.le_of_ble_eq_true rfl) dX3_readTest_77 (fun w57 H locs hp56 hw => ?_)
              obtain ⟨hT, k58, hg59⟩ := hp56
              have hF := hF.tr k58 (by decide)
              clear hg59
              exact J80 21 H locs ls w57 (by decide) (by decide) (show 0 ≤ v9_3.toInt by omega) (show v9_3.toInt ≤ 399 by omega)  hw hT hF  (lv_sub hl [1, 2, 0, 3] rfl)
          · refine lv_if_eq (tgt := 55) hx hb dX3_readTest_35 (by decide) (fun c => absurd c (by decide)) (fun _ => ?_)
            refine lv_aload_n hx hb dX3_readTest_38 rfl (lv_at hl 0 rfl) ?_
            refine lv_iload_n hx hb dX3_readTest_39 rfl (lv_at hl 1 rfl) ?_
            refine tk_Vv hC hK hw hT hA hE hSR kC_at3 (by decide) rfl (k_X3_readFact_7 l adK adV dC dI cy ad B (by omega) (by omega) qr s1 hqr   w34 H.size hT (c39.trans (wk_eq.mpr (show x27.toInt = 0 by omega)))) (cwV 1 hC.2.2.2.2 gX3_readTest_X3_readFact rfl rfl rfl (by decide +kernel) ⟨Nat.le_of_ble_eq_true rfl, Nat.le_of_ble_eq_true rfl⟩) rfl hl.1 rfl (Nat.le_of_ble_eq_true rfl) dX3_readTest_40 (fun w62 H locs hp61 hw => ?_)
            obtain ⟨hT, k63, hg64⟩ := hp61
            have hF := hF.tr k63 (by decide)
            clear hg64
            refine lv_aload_n hx hb dX3_readTest_43 rfl (lv_at hl 0 rfl) ?_
            refine tk_getQ hC hK hw hT hqr (by decide) hinX3 kC_at3 (by decide) rfl 1 (by decide) (List.mem_of_getElem? (i := 2) rfl) rfl rfl dX3_readTest_44 ?_
            refine lv_bipush (v := 20) hx hb dX3_readTest_47 (by decide) ?_
            refine tk_Vv hC hK hw hT hA hE hSR hqr (by decide) rfl (k_X2_addToken_1 l adK adV dC dI cy ad B (by omega) (by omega) qr s1   qr hqr 20 w62 H.size hT ) (cwV 1 hC.2.2.2.2 gX3_readTest_X2_addToken rfl rfl rfl (by decide +kernel) ⟨Nat.le_of_ble_eq_true rfl, Nat.le_of_ble_eq_true rfl⟩) rfl hl.1 rfl (Nat.le_of_ble_eq_true rfl) dX3_readTest_49 (fun w67 H locs hp66 hw => ?_)
            obtain ⟨hT, k68, hg71⟩ := hp66
            have hF := hF.tr k68 (by decide)
            obtain ⟨x69, c70, rx69, tx69⟩ := hg71
            refine lv_goto (tgt := 80) hx hb dX3_readTest_52 (by decide) ?_
            exact J80 v9_2 H locs ls w67 (show (-1) ≤ v9_2.toInt by omega) (show v9_2.toInt ≤ 21 by omega) (show 0 ≤ v9_3.toInt by omega) (show v9_3.toInt ≤ 399 by omega)  hw hT hF  (lv_sub hl [0, 1, 2, 3] rfl)
        · refine lv_if_ne (tgt := 86) hx hb dX3_readTest_23 (by decide) (fun _ => ?_) (fun c => absurd c (by decide))
          exact J86 v9_2 v9_3 H locs ls w25 (show (-1) ≤ v9_2.toInt by omega) (show v9_2.toInt ≤ 21 by omega) (show 0 ≤ v9_3.toInt by omega) (show v9_3.toInt ≤ 400 by omega)  hw hT hF  (lv_sub hl [0, 1, 2, 3] rfl)
  refine lv_aload_n hx hb dX3_readTest_0 rfl (lv_at hl 0 rfl) ?_
  refine lv_iload_n hx hb dX3_readTest_1 rfl (lv_at hl 1 rfl) ?_
  refine tk_Vv hC hK hw hT hA hE hSR kC_at3 (by decide) rfl (k_X3_readFact_7 l adK adV dC dI cy ad B (by omega) (by omega) qr s1 hqr   w0 s.heap.size hT cf0_) (cwV 1 hC.2.2.2.2 gX3_readTest_X3_readFact rfl rfl rfl (by decide +kernel) ⟨Nat.le_of_ble_eq_true rfl, Nat.le_of_ble_eq_true rfl⟩) rfl hl.1 rfl (Nat.le_of_ble_eq_true rfl) dX3_readTest_2 (fun w74 H locs hp73 hw => ?_)
  obtain ⟨hT, k75, hg76⟩ := hp73
  have hF := hF.tr k75 (by decide)
  clear hg76
  refine lv_iconst (v := (-1)) hx hb dX3_readTest_5 (by decide) ?_
  refine lv_istore_n (lv' := [(2, .int (-1)), (0, .ref (ad 3)), (1, .int 6)]) hx hb dX3_readTest_6 rfl hl (by decide) rfl (fun ls hl => ?_)
  refine lv_iconst (v := 0) hx hb dX3_readTest_7 (by decide) ?_
  refine lv_istore_n (lv' := [(3, .int 0), (2, .int (-1)), (0, .ref (ad 3)), (1, .int 6)]) hx hb dX3_readTest_8 rfl hl (by decide) rfl (fun ls hl => ?_)
  exact L9 ((400 - (0 : Int)).toNat + 1) (-1) 0 H locs ls w74 (by decide) (by decide) (by decide) (by decide) (Nat.lt_succ_self _) hw hT hF  (lv_sub hl [2, 3, 1, 0] rfl)
abbrev P_X3_readFact_6 (ad : Nat → Nat) (cy : Nat → ClassId) (B : Int) (qr : Nat) (s1 : Int)  (w0 : va_W) : va_W → Prop := fun u => TW ksC ad cy B qr s1 u ∧ FE ksC [(2, 3, 3), (3, 2, 2), (6, 1, 1), (6, 3, 3), (6, 4, 4), (22, 0, 13), (23, 0, 400)] w0 u ∧ ((True))
set_option maxHeartbeats 4000000 in
set_option maxRecDepth 100000 in
theorem k_X3_readFact_6 (l : Launch) (adK adV : Nat → Nat) (dC : Nat → ClassId) (dI : Nat → Nat → Nat) (cy : Nat → ClassId) (ad : Nat → Nat) (B : Int) (hB0 : 2147483648 ≤ B) (hB1 : B ≤ 1152921504606846976) (qr : Nat) (s1 : Int) (hqr : ksC[qr]? = some 2)  (w0 : va_W) (sz : Nat) (hT : TW ksC ad cy B qr s1 w0) (cf0_ : gi w0 1 4 = 0) : Met l yX3_readFact wsX3_readFact ({ frames := 18, cells := 0, slots := 0, locals := 446 }) (va_Pc [.ref (ad 3), .int 5] (wpreS adK adV dC dI cy sz w0)) (va_Qv (P_X3_readFact_6 ad cy B qr s1  w0) (fun u : va_W => wpost dC dI cy (va_A w0 sz) u) (va_A w0 sz)) 0 0 (va_A w0 sz) := by
  refine Met.ofW (cc := cX3_readFact) (maxL := 5) (ret := none) (by decide) rfl ?_
  intro p e s m args below meth c s₁ Bk hml hv
  obtain ⟨rfl, ⟨hsz, hP, hK, hD0⟩, hE, hSR⟩ := hv
  have hx := Bk.exec
  have hb := Bk.bytes
  have hr := Bk.returns
  have hlocks := Bk.notSynchronized
  have hC : CallFix p m c cX3_readFact 5 s _ wsX3_readFact RX3 := ⟨hx, hb, hml, findClass_of_methodNamed Bk.named, atoms_spec (ws := wsX3_readFact) Bk.pre⟩
  subst hsz
  have hD := hD0.self (sz := s.heap.size)
  generalize hAe : va_A w0 s.heap.size = A at hD hE ⊢
  have hA : ∀ q : Nat, s.heap.size ≤ q → A q := fun q h => by rw [← hAe]; exact Or.inr h
  have hw : Wd dC dI A s.heap s.heap [] w0 := ⟨hP, hD, va_S.rf⟩
  have hF : FE ksC [(2, 3, 3), (3, 2, 2), (6, 1, 1), (6, 3, 3), (6, 4, 4), (22, 0, 13), (23, 0, 400)] w0 w0 := FE.rf
  have hl := lv_entry ([.ref (ad 3), .int 5]) (n := 5) (Nat.le_of_ble_eq_true rfl)
  rw [lg_entry_eq]
  generalize (lg_sl ([.ref (ad 3), .int 5]) ++ List.replicate (5 - (lg_sl ([.ref (ad 3), .int 5])).length) Slot.unset).toArray = ls at hl ⊢
  have hl : lv_has ls 5 [(0, .ref (ad 3)), (1, .int 5)] := hl
  generalize hloc : ([] : List Loc) = locs at hw ⊢
  have hinX3 : ∀ w ∈ u_ws RX3 TX3 3, w ∈ wsX3_readFact := fun _ h => List.mem_cons_of_mem _ (List.mem_append_left _ (List.mem_append_left _ (List.mem_append_right _ (h))))
  have J160 : ∀ (v160_2 : Int32) (v160_3 : Int32) (H : Heap) (locs : List Loc) (ls : Array Slot) (w1 : va_W), 0 ≤ v160_2.toInt → v160_2.toInt ≤ 1 → 0 ≤ v160_3.toInt → v160_3.toInt ≤ 1 → Wd dC dI A s.heap H locs w1 → TW ksC ad cy B qr s1 w1 → FE ksC [(2, 3, 3), (3, 2, 2), (6, 1, 1), (6, 3, 3), (6, 4, 4), (22, 0, 13), (23, 0, 400)] w0 w1 → lv_has ls 5 [(0, .ref (ad 3)), (1, .int 5), (2, .int v160_2), (3, .int v160_3)] → W p l e ({ frames := 18, cells := 0, slots := 0, locals := 446 }) s m (List.toArray [.ref (ad 3), .int 5]) below meth c H locs 0 0 (MQ below (va_Qv (P_X3_readFact_6 ad cy B qr s1  w0) (fun u : va_W => wpost dC dI cy A u) A) (List.toArray [.ref (ad 3), .int 5]) s 0 0 A) (F0 m 160 ls []) := by
    intro v160_2 v160_3 H locs ls w1 r2 t3 r4 t5 hw hT hF hl
    exact tk_vret hC hr hlocks hK ⟨hT, hF, trivial⟩ hw dX3_readFact_160
  have J77 : ∀ (v77_2 : Int32) (v77_3 : Int32) (H : Heap) (locs : List Loc) (ls : Array Slot) (w6 : va_W), 0 ≤ v77_2.toInt → v77_2.toInt ≤ 1 → 0 ≤ v77_3.toInt → v77_3.toInt ≤ 1 → Wd dC dI A s.heap H locs w6 → TW ksC ad cy B qr s1 w6 → FE ksC [(2, 3, 3), (3, 2, 2), (6, 1, 1), (6, 3, 3), (6, 4, 4), (22, 0, 13), (23, 0, 400)] w0 w6 → gi w6 1 4 = 0 → lv_has ls 5 [(0, .ref (ad 3)), (1, .int 5), (2, .int v77_2), (3, .int v77_3)] → W p l e ({ frames := 18, cells := 0, slots := 0, locals := 446 }) s m (List.toArray [.ref (ad 3), .int 5]) below meth c H locs 0 0 (MQ below (va_Qv (P_X3_readFact_6 ad cy B qr s1  w0) (fun u : va_W => wpost dC dI cy A u) A) (List.toArray [.ref (ad 3), .int 5]) s 0 0 A) (F0 m 77 ls []) := by
    intro v77_2 v77_3 H locs ls w6 r7 t8 r9 t10 hw hT hF c11 hl
    refine lv_iload_n hx hb dX3_readFact_77 rfl (lv_at hl 1 rfl) ?_
    refine lv_bipush (v := 10) hx hb dX3_readFact_78 (by decide) ?_
    refine lv_icmp_lt (tgt := 101) hx hb dX3_readFact_80 (by decide) (fun _ => ?_) (fun c => absurd (by decide) c)
    refine lv_iload_n hx hb dX3_readFact_101 rfl (lv_at hl 2 rfl) ?_
    refine lv_if_eq (tgt := 124) hx hb dX3_readFact_102 (by decide) (fun c12 => ?_) (fun c12 => ?_)
    · have c12 : v77_2.toInt = (0 : Int) := wk_eq.mp c12
      refine lv_aload_n hx hb dX3_readFact_124 rfl (lv_at hl 0 rfl) ?_
      refine lv_iload_n hx hb dX3_readFact_125 rfl (lv_at hl 1 rfl) ?_
      refine lv_iconst (v := 1) hx hb dX3_readFact_126 (by decide) ?_
      refine lv_iadd hx hb dX3_readFact_127 ?_
      refine wk_top 6 (by decide) ?_
      refine tk_Vv hC hK hw hT hA hE hSR kC_at3 (by decide) rfl (k_X3_readTest_7 l adK adV dC dI cy ad B (by omega) (by omega) qr s1 hqr   w6 H.size hT c11) (cwV 1 hC.2.2.2.2 gX3_readFact_X3_readTest rfl rfl rfl (by decide +kernel) ⟨Nat.le_of_ble_eq_true rfl, Nat.le_of_ble_eq_true rfl⟩) rfl hl.1 rfl (Nat.le_of_ble_eq_true rfl) dX3_readFact_128 (fun w15 H locs hp14 hw => ?_)
      obtain ⟨hT, k16, hg17⟩ := hp14
      have hF := hF.tr k16 (by decide)
      clear hg17
      refine lv_aload_n hx hb dX3_readFact_131 rfl (lv_at hl 0 rfl) ?_
      refine tk_getA hC hK hw hT hinX3 kC_at3 (by decide) rfl 0 (by decide) (List.mem_of_getElem? (i := 1) rfl) rfl rfl dX3_readFact_132 ?_
      refine tk_Vi hC hK hw hT hA hE hSR kC_at1 (by decide) rfl (k_X6_isFaulty_1 l adK adV dC dI cy ad B (by omega) (by omega) qr s1    w15 H.size hT ) (cwV 0 hC.2.2.2.2 gX3_readFact_X6_isFaulty rfl rfl rfl (by decide +kernel) ⟨Nat.le_of_ble_eq_true rfl, Nat.le_of_ble_eq_true rfl⟩) rfl hl.1 rfl (Nat.le_of_ble_eq_true rfl) dX3_readFact_135 (fun r18 w20 H locs hp19 hw => ?_)
      obtain ⟨hT, k21, hg26⟩ := hp19
      have hF := hF.tr k21 (by decide)
      rcases hg26 with ⟨rfl, ⟨x22, c23, rx22, tx22⟩⟩ | ⟨rfl, ⟨x24, c25, rx24, tx24⟩⟩
      · refine lv_if_ne (tgt := 160) hx hb dX3_readFact_138 (by decide) (fun c => absurd (by decide) c) (fun _ => ?_)
        refine lv_aload_n hx hb dX3_readFact_141 rfl (lv_at hl 0 rfl) ?_
        refine tk_getA hC hK hw hT hinX3 kC_at3 (by decide) rfl 0 (by decide) (List.mem_of_getElem? (i := 1) rfl) rfl rfl dX3_readFact_142 ?_
        refine lv_bipush (v := 93) hx hb dX3_readFact_145 (by decide) ?_
        refine tk_Vi hC hK hw hT hA hE hSR kC_at1 (by decide) rfl (k_X6_takeByte_3 l adK adV dC dI cy ad B (by omega) (by omega) qr s1    w20 H.size hT ) (cwV 1 hC.2.2.2.2 gX3_readFact_X6_takeByte rfl rfl rfl (by decide +kernel) ⟨Nat.le_of_ble_eq_true rfl, Nat.le_of_ble_eq_true rfl⟩) rfl hl.1 rfl (Nat.le_of_ble_eq_true rfl) dX3_readFact_147 (fun r27 w29 H locs hp28 hw => ?_)
        obtain ⟨hT, k30, hg35⟩ := hp28
        have hF := hF.tr k30 (by decide)
        have c36 := k30.gi kC_at1 (by decide) c23
        rcases hg35 with rfl | ⟨rfl, ⟨x31, c32, rx31, tx31⟩, ⟨x33, c34, rx33, tx33⟩⟩
        · refine lv_if_ne (tgt := 160) hx hb dX3_readFact_150 (by decide) (fun c => absurd (by decide) c) (fun _ => ?_)
          refine lv_aload_n hx hb dX3_readFact_153 rfl (lv_at hl 0 rfl) ?_
          refine tk_getA hC hK hw hT hinX3 kC_at3 (by decide) rfl 0 (by decide) (List.mem_of_getElem? (i := 1) rfl) rfl rfl dX3_readFact_154 ?_
          refine tk_Vv hC hK hw hT hA hE hSR kC_at1 (by decide) rfl (k_X6_blameHere_1 l adK adV dC dI cy ad B (by omega) (by omega) qr s1    w29 H.size hT (c36.trans (wk_eq.mpr (show x22.toInt = 0 by omega)))) (cwV 0 hC.2.2.2.2 gX3_readFact_X6_blameHere rfl rfl rfl (by decide +kernel) ⟨Nat.le_of_ble_eq_true rfl, Nat.le_of_ble_eq_true rfl⟩) rfl hl.1 rfl (Nat.le_of_ble_eq_true rfl) dX3_readFact_157 (fun w39 H locs hp38 hw => ?_)
          obtain ⟨hT, k40, hg43⟩ := hp38
          have hF := hF.tr k40 (by decide)
          obtain ⟨x41, c42, rx41, tx41⟩ := hg43
          exact J160 v77_2 v77_3 H locs ls w39 (show 0 ≤ v77_2.toInt by omega) (show v77_2.toInt ≤ 1 by omega) (show 0 ≤ v77_3.toInt by omega) (show v77_3.toInt ≤ 1 by omega)  hw hT hF  (lv_sub hl [0, 1, 2, 3] rfl)
        · refine lv_if_ne (tgt := 160) hx hb dX3_readFact_150 (by decide) (fun _ => ?_) (fun c => absurd c (by decide))
          exact J160 v77_2 v77_3 H locs ls w29 (show 0 ≤ v77_2.toInt by omega) (show v77_2.toInt ≤ 1 by omega) (show 0 ≤ v77_3.toInt by omega) (show v77_3.toInt ≤ 1 by omega)  hw hT hF  (lv_sub hl [0, 1, 2, 3] rfl)
      · refine lv_if_ne (tgt := 160) hx hb dX3_readFact_138 (by decide) (fun _ => ?_) (fun c => absurd c (by decide))
        exact J160 v77_2 v77_3 H locs ls w20 (show 0 ≤ v77_2.toInt by omega) (show v77_2.toInt ≤ 1 by omega) (show 0 ≤ v77_3.toInt by omega) (show v77_3.toInt ≤ 1 by omega)  hw hT hF  (lv_sub hl [0, 1, 2, 3] rfl)
    · have c12 : ¬ v77_2.toInt = (0 : Int) := wk_eqF c12
      refine lv_aload_n hx hb dX3_readFact_105 rfl (lv_at hl 0 rfl) ?_
      refine lv_iload_n hx hb dX3_readFact_106 rfl (lv_at hl 1 rfl) ?_
      refine lv_iconst (v := 1) hx hb dX3_readFact_107 (by decide) ?_
      refine lv_iadd hx hb dX3_readFact_108 ?_
      refine wk_top 6 (by decide) ?_
      refine tk_Vv hC hK hw hT hA hE hSR kC_at3 (by decide) rfl (k_X3_readFact_7 l adK adV dC dI cy ad B (by omega) (by omega) qr s1 hqr   w6 H.size hT c11) (cwV 1 hC.2.2.2.2 gX3_readFact_X3_readFact rfl rfl rfl (by decide +kernel) ⟨Nat.le_of_ble_eq_true rfl, Nat.le_of_ble_eq_true rfl⟩) rfl hl.1 rfl (Nat.le_of_ble_eq_true rfl) dX3_readFact_109 (fun w46 H locs hp45 hw => ?_)
      obtain ⟨hT, k47, hg48⟩ := hp45
      have hF := hF.tr k47 (by decide)
      clear hg48
      refine lv_aload_n hx hb dX3_readFact_112 rfl (lv_at hl 0 rfl) ?_
      refine tk_getQ hC hK hw hT hqr (by decide) hinX3 kC_at3 (by decide) rfl 1 (by decide) (List.mem_of_getElem? (i := 2) rfl) rfl rfl dX3_readFact_113 ?_
      refine lv_bipush (v := 19) hx hb dX3_readFact_116 (by decide) ?_
      refine tk_Vv hC hK hw hT hA hE hSR hqr (by decide) rfl (k_X2_addToken_1 l adK adV dC dI cy ad B (by omega) (by omega) qr s1   qr hqr 19 w46 H.size hT ) (cwV 1 hC.2.2.2.2 gX3_readFact_X2_addToken rfl rfl rfl (by decide +kernel) ⟨Nat.le_of_ble_eq_true rfl, Nat.le_of_ble_eq_true rfl⟩) rfl hl.1 rfl (Nat.le_of_ble_eq_true rfl) dX3_readFact_118 (fun w51 H locs hp50 hw => ?_)
      obtain ⟨hT, k52, hg55⟩ := hp50
      have hF := hF.tr k52 (by decide)
      obtain ⟨x53, c54, rx53, tx53⟩ := hg55
      refine lv_goto (tgt := 160) hx hb dX3_readFact_121 (by decide) ?_
      exact J160 v77_2 v77_3 H locs ls w51 (show 0 ≤ v77_2.toInt by omega) (show v77_2.toInt ≤ 1 by omega) (show 0 ≤ v77_3.toInt by omega) (show v77_3.toInt ≤ 1 by omega)  hw hT hF  (lv_sub hl [0, 1, 2, 3] rfl)
  have J41 : ∀ (v41_2 : Int32) (H : Heap) (locs : List Loc) (ls : Array Slot) (w56 : va_W), 0 ≤ v41_2.toInt → v41_2.toInt ≤ 1 → Wd dC dI A s.heap H locs w56 → TW ksC ad cy B qr s1 w56 → FE ksC [(2, 3, 3), (3, 2, 2), (6, 1, 1), (6, 3, 3), (6, 4, 4), (22, 0, 13), (23, 0, 400)] w0 w56 → gi w56 1 4 = 0 → lv_has ls 5 [(0, .ref (ad 3)), (1, .int 5), (2, .int v41_2)] → W p l e ({ frames := 18, cells := 0, slots := 0, locals := 446 }) s m (List.toArray [.ref (ad 3), .int 5]) below meth c H locs 0 0 (MQ below (va_Qv (P_X3_readFact_6 ad cy B qr s1  w0) (fun u : va_W => wpost dC dI cy A u) A) (List.toArray [.ref (ad 3), .int 5]) s 0 0 A) (F0 m 41 ls []) := by
    intro v41_2 H locs ls w56 r57 t58 hw hT hF c59 hl
    refine lv_iconst (v := 0) hx hb dX3_readFact_41 (by decide) ?_
    refine lv_istore_n (lv' := [(3, .int 0), (0, .ref (ad 3)), (1, .int 5), (2, .int v41_2)]) hx hb dX3_readFact_42 rfl hl (by decide) rfl (fun ls hl => ?_)
    refine lv_iload_n hx hb dX3_readFact_43 rfl (lv_at hl 3 rfl) ?_
    refine lv_if_ne (tgt := 77) hx hb dX3_readFact_44 (by decide) (fun c60 => ?_) (fun c60 => ?_)
    · have c60 : ¬ v41_2.toInt = (0 : Int) := wk_eqF c60
      exact J77 v41_2 0 H locs ls w56 (show 0 ≤ v41_2.toInt by omega) (show v41_2.toInt ≤ 1 by omega) (by decide) (by decide)  hw hT hF c59 (lv_sub hl [1, 2, 3, 0] rfl)
    · have c60 : v41_2.toInt = (0 : Int) := wk_eq.mp c60
      refine lv_iload_n hx hb dX3_readFact_47 rfl (lv_at hl 0 rfl) ?_
      refine lv_if_ne (tgt := 77) hx hb dX3_readFact_48 (by decide) (fun c => absurd (by decide) c) (fun _ => ?_)
      refine lv_aload_n hx hb dX3_readFact_51 rfl (lv_at hl 1 rfl) ?_
      refine tk_Vv hC hK hw hT hA hE hSR kC_at3 (by decide) rfl (k_X3_readSum_1 l adK adV dC dI cy ad B (by omega) (by omega) qr s1 hqr   w56 H.size hT c59) (cwV 0 hC.2.2.2.2 gX3_readFact_X3_readSum rfl rfl rfl (by decide +kernel) ⟨Nat.le_of_ble_eq_true rfl, Nat.le_of_ble_eq_true rfl⟩) rfl hl.1 rfl (Nat.le_of_ble_eq_true rfl) dX3_readFact_52 (fun w63 H locs hp62 hw => ?_)
      obtain ⟨hT, k64, hg65⟩ := hp62
      have hF := hF.tr k64 (by decide)
      clear hg65
      refine lv_aload_n hx hb dX3_readFact_55 rfl (lv_at hl 1 rfl) ?_
      refine tk_Vi hC hK hw hT hA hE hSR kC_at3 (by decide) rfl (k_X3_readSign_1 l adK adV dC dI cy ad B (by omega) (by omega) qr s1    w63 H.size hT ) (cwV 0 hC.2.2.2.2 gX3_readFact_X3_readSign rfl rfl rfl (by decide +kernel) ⟨Nat.le_of_ble_eq_true rfl, Nat.le_of_ble_eq_true rfl⟩) rfl hl.1 rfl (Nat.le_of_ble_eq_true rfl) dX3_readFact_56 (fun r66 w68 H locs hp67 hw => ?_)
      obtain ⟨hT, k69, hg80⟩ := hp67
      have hF := hF.tr k69 (by decide)
      rcases hg80 with ⟨rfl, ⟨x70, c71, rx70, tx70⟩⟩ | ⟨g72, g73, ⟨x74, c75, rx74, tx74⟩, ⟨x76, c77, rx76, tx76⟩, ⟨x78, c79, rx78, tx78⟩⟩
      · refine lv_istore (lv' := [(4, .int 16), (3, .int 0), (0, .ref (ad 3)), (1, .int 5), (2, .int v41_2)]) hx hb dX3_readFact_59 hl (by decide) rfl (fun ls hl => ?_)
        refine lv_aload_n hx hb dX3_readFact_61 rfl (lv_at hl 2 rfl) ?_
        refine tk_Vv hC hK hw hT hA hE hSR kC_at3 (by decide) rfl (k_X3_readSum_2 l adK adV dC dI cy ad B (by omega) (by omega) qr s1 hqr   w68 H.size hT x70 c71 (show 1 ≤ x70.toInt by omega) (show x70.toInt ≤ 3205 by omega)) (cwV 0 hC.2.2.2.2 gX3_readFact_X3_readSum rfl rfl rfl (by decide +kernel) ⟨Nat.le_of_ble_eq_true rfl, Nat.le_of_ble_eq_true rfl⟩) rfl hl.1 rfl (Nat.le_of_ble_eq_true rfl) dX3_readFact_62 (fun w83 H locs hp82 hw => ?_)
        obtain ⟨hT, k84, hg87⟩ := hp82
        have hF := hF.tr k84 (by decide)
        have c88 := k84.gi kC_at1 (by decide) c71
        obtain ⟨x85, c86, rx85, tx85⟩ := hg87
        have ex85 : x85.toInt = x70.toInt := by rw [← c88.symm.trans c86]
        refine lv_aload_n hx hb dX3_readFact_65 rfl (lv_at hl 2 rfl) ?_
        refine tk_getQ hC hK hw hT hqr (by decide) hinX3 kC_at3 (by decide) rfl 1 (by decide) (List.mem_of_getElem? (i := 2) rfl) rfl rfl dX3_readFact_66 ?_
        refine lv_iload hx hb dX3_readFact_69 (lv_at hl 0 rfl) ?_
        refine tk_Vv hC hK hw hT hA hE hSR hqr (by decide) rfl (k_X2_addToken_1 l adK adV dC dI cy ad B (by omega) (by omega) qr s1   qr hqr 16 w83 H.size hT ) (cwV 1 hC.2.2.2.2 gX3_readFact_X2_addToken rfl rfl rfl (by decide +kernel) ⟨Nat.le_of_ble_eq_true rfl, Nat.le_of_ble_eq_true rfl⟩) rfl hl.1 rfl (Nat.le_of_ble_eq_true rfl) dX3_readFact_71 (fun w91 H locs hp90 hw => ?_)
        obtain ⟨hT, k92, hg95⟩ := hp90
        have hF := hF.tr k92 (by decide)
        have c96 := k92.gi kC_at1 (by decide) c88
        obtain ⟨x93, c94, rx93, tx93⟩ := hg95
        refine lv_goto (tgt := 160) hx hb dX3_readFact_74 (by decide) ?_
        exact J160 v41_2 0 H locs ls w91 (show 0 ≤ v41_2.toInt by omega) (show v41_2.toInt ≤ 1 by omega) (by decide) (by decide)  hw hT hF  (lv_sub hl [2, 3, 4, 1] rfl)
      · refine lv_istore (lv' := [(4, .int r66), (3, .int 0), (0, .ref (ad 3)), (1, .int 5), (2, .int v41_2)]) hx hb dX3_readFact_59 hl (by decide) rfl (fun ls hl => ?_)
        refine lv_aload_n hx hb dX3_readFact_61 rfl (lv_at hl 2 rfl) ?_
        refine tk_Vv hC hK hw hT hA hE hSR kC_at3 (by decide) rfl (k_X3_readSum_3 l adK adV dC dI cy ad B (by omega) (by omega) qr s1 hqr   w68 H.size hT ) (cwV 0 hC.2.2.2.2 gX3_readFact_X3_readSum rfl rfl rfl (by decide +kernel) ⟨Nat.le_of_ble_eq_true rfl, Nat.le_of_ble_eq_true rfl⟩) rfl hl.1 rfl (Nat.le_of_ble_eq_true rfl) dX3_readFact_62 (fun w99 H locs hp98 hw => ?_)
        obtain ⟨hT, k100, hg101⟩ := hp98
        have hF := hF.tr k100 (by decide)
        have c102 := k100.gi kC_at1 (by decide) c75
        clear hg101
        refine lv_aload_n hx hb dX3_readFact_65 rfl (lv_at hl 2 rfl) ?_
        refine tk_getQ hC hK hw hT hqr (by decide) hinX3 kC_at3 (by decide) rfl 1 (by decide) (List.mem_of_getElem? (i := 2) rfl) rfl rfl dX3_readFact_66 ?_
        refine lv_iload hx hb dX3_readFact_69 (lv_at hl 0 rfl) ?_
        refine tk_Vv hC hK hw hT hA hE hSR hqr (by decide) rfl (k_X2_addToken_1 l adK adV dC dI cy ad B (by omega) (by omega) qr s1   qr hqr r66 w99 H.size hT ) (cwV 1 hC.2.2.2.2 gX3_readFact_X2_addToken rfl rfl rfl (by decide +kernel) ⟨Nat.le_of_ble_eq_true rfl, Nat.le_of_ble_eq_true rfl⟩) rfl hl.1 rfl (Nat.le_of_ble_eq_true rfl) dX3_readFact_71 (fun w105 H locs hp104 hw => ?_)
        obtain ⟨hT, k106, hg109⟩ := hp104
        have hF := hF.tr k106 (by decide)
        have c110 := k106.gi kC_at1 (by decide) c102
        obtain ⟨x107, c108, rx107, tx107⟩ := hg109
        refine lv_goto (tgt := 160) hx hb dX3_readFact_74 (by decide) ?_
        exact J160 v41_2 0 H locs ls w105 (show 0 ≤ v41_2.toInt by omega) (show v41_2.toInt ≤ 1 by omega) (by decide) (by decide)  hw hT hF  (lv_sub hl [2, 3, 4, 1] rfl)
  refine lv_aload_n hx hb dX3_readFact_0 rfl (lv_at hl 0 rfl) ?_
  refine tk_getA hC hK hw hT hinX3 kC_at3 (by decide) rfl 0 (by decide) (List.mem_of_getElem? (i := 1) rfl) rfl rfl dX3_readFact_1 ?_
  refine tk_Vi hC hK hw hT hA hE hSR kC_at1 (by decide) rfl (k_X6_isFaulty_2 l adK adV dC dI cy ad B (by omega) (by omega) qr s1    w0 s.heap.size hT cf0_) (cwV 0 hC.2.2.2.2 gX3_readFact_X6_isFaulty rfl rfl rfl (by decide +kernel) ⟨Nat.le_of_ble_eq_true rfl, Nat.le_of_ble_eq_true rfl⟩) rfl hl.1 rfl (Nat.le_of_ble_eq_true rfl) dX3_readFact_4 (fun r111 w113 H locs hp112 hw => ?_)
  obtain ⟨hT, k114, hg117⟩ := hp112
  have hF := hF.tr k114 (by decide)
  have c118 := k114.gi kC_at1 (by decide) cf0_
  obtain ⟨rfl, ⟨x115, c116, rx115, tx115⟩⟩ := hg117
  have ex115 : x115.toInt = (0 : Int) := by rw [show x115 = 0 from c116.symm.trans c118]; decide
  refine lv_if_eq (tgt := 11) hx hb dX3_readFact_7 (by decide) (fun _ => ?_) (fun c => absurd (by decide) c)
  refine lv_aload_n hx hb dX3_readFact_11 rfl (lv_at hl 0 rfl) ?_
  refine tk_getA hC hK hw hT hinX3 kC_at3 (by decide) rfl 0 (by decide) (List.mem_of_getElem? (i := 1) rfl) rfl rfl dX3_readFact_12 ?_
  refine va_ldcS hx hb hC.2.2.2.1 hSR.2.2.2.2.1 dX3_readFact_15 ?_
  refine tk_Vi hC hK hw hT hA hE hSR kC_at1 (by decide) rfl (k_X6_takeWord_4 l adK adV dC dI cy ad B (by omega) (by omega) qr s1    w113 H.size hT ) (cwV 1 hC.2.2.2.2 gX3_readFact_X6_takeWord rfl rfl rfl (by decide +kernel) ⟨Nat.le_of_ble_eq_true rfl, Nat.le_of_ble_eq_true rfl⟩) rfl hl.1 rfl (Nat.le_of_ble_eq_true rfl) dX3_readFact_17 (fun r119 w121 H locs hp120 hw => ?_)
  obtain ⟨hT, k122, hg125⟩ := hp120
  have hF := hF.tr k122 (by decide)
  have c126 := k122.gi kC_at1 (by decide) c118
  rcases hg125 with rfl | ⟨rfl, ⟨x123, c124, rx123, tx123⟩⟩
  · refine lv_istore_n (lv' := [(2, .int 0), (0, .ref (ad 3)), (1, .int 5)]) hx hb dX3_readFact_20 rfl hl (by decide) rfl (fun ls hl => ?_)
    refine lv_iload_n hx hb dX3_readFact_21 rfl (lv_at hl 0 rfl) ?_
    refine lv_if_ne (tgt := 41) hx hb dX3_readFact_22 (by decide) (fun c => absurd (by decide) c) (fun _ => ?_)
    refine lv_aload_n hx hb dX3_readFact_25 rfl (lv_at hl 1 rfl) ?_
    refine tk_getA hC hK hw hT hinX3 kC_at3 (by decide) rfl 0 (by decide) (List.mem_of_getElem? (i := 1) rfl) rfl rfl dX3_readFact_26 ?_
    refine lv_bipush (v := 91) hx hb dX3_readFact_29 (by decide) ?_
    refine tk_Vi hC hK hw hT hA hE hSR kC_at1 (by decide) rfl (k_X6_takeByte_2 l adK adV dC dI cy ad B (by omega) (by omega) qr s1    w121 H.size hT ) (cwV 1 hC.2.2.2.2 gX3_readFact_X6_takeByte rfl rfl rfl (by decide +kernel) ⟨Nat.le_of_ble_eq_true rfl, Nat.le_of_ble_eq_true rfl⟩) rfl hl.1 rfl (Nat.le_of_ble_eq_true rfl) dX3_readFact_31 (fun r127 w129 H locs hp128 hw => ?_)
    obtain ⟨hT, k130, hg135⟩ := hp128
    have hF := hF.tr k130 (by decide)
    have c136 := k130.gi kC_at1 (by decide) c126
    rcases hg135 with rfl | ⟨rfl, ⟨x131, c132, rx131, tx131⟩, ⟨x133, c134, rx133, tx133⟩⟩
    · refine lv_if_eq (tgt := 41) hx hb dX3_readFact_34 (by decide) (fun _ => ?_) (fun c => absurd (by decide) c)
      exact J41 0 H locs ls w129 (by decide) (by decide)  hw hT hF c136 (lv_sub hl [1, 2, 0] rfl)
    · refine lv_if_eq (tgt := 41) hx hb dX3_readFact_34 (by decide) (fun c => absurd c (by decide)) (fun _ => ?_)
      refine lv_iconst (v := 1) hx hb dX3_readFact_37 (by decide) ?_
      refine lv_goto (tgt := 42) hx hb dX3_readFact_38 (by decide) ?_
      refine lv_istore_n (lv' := [(3, .int 1), (2, .int 0), (0, .ref (ad 3)), (1, .int 5)]) hx hb dX3_readFact_42 rfl hl (by decide) rfl (fun ls hl => ?_)
      refine lv_iload_n hx hb dX3_readFact_43 rfl (lv_at hl 1 rfl) ?_
      refine lv_if_ne (tgt := 77) hx hb dX3_readFact_44 (by decide) (fun c => absurd (by decide) c) (fun _ => ?_)
      refine lv_iload_n hx hb dX3_readFact_47 rfl (lv_at hl 0 rfl) ?_
      refine lv_if_ne (tgt := 77) hx hb dX3_readFact_48 (by decide) (fun _ => ?_) (fun c => absurd c (by decide))
      exact J77 0 1 H locs ls w129 (by decide) (by decide) (by decide) (by decide)  hw hT hF c136 (lv_sub hl [2, 3, 1, 0] rfl)
  · refine lv_istore_n (lv' := [(2, .int 1), (0, .ref (ad 3)), (1, .int 5)]) hx hb dX3_readFact_20 rfl hl (by decide) rfl (fun ls hl => ?_)
    refine lv_iload_n hx hb dX3_readFact_21 rfl (lv_at hl 0 rfl) ?_
    refine lv_if_ne (tgt := 41) hx hb dX3_readFact_22 (by decide) (fun _ => ?_) (fun c => absurd c (by decide))
    exact J41 1 H locs ls w121 (by decide) (by decide)  hw hT hF c126 (lv_sub hl [1, 2, 0] rfl)
abbrev P_X3_readTest_6 (ad : Nat → Nat) (cy : Nat → ClassId) (B : Int) (qr : Nat) (s1 : Int)  (w0 : va_W) : va_W → Prop := fun u => TW ksC ad cy B qr s1 u ∧ FE ksC [(2, 3, 3), (3, 2, 2), (6, 1, 1), (6, 3, 3), (6, 4, 4), (22, 0, 13), (23, 0, 400)] w0 u ∧ ((True))
set_option maxHeartbeats 4000000 in
set_option maxRecDepth 100000 in
theorem k_X3_readTest_6 (l : Launch) (adK adV : Nat → Nat) (dC : Nat → ClassId) (dI : Nat → Nat → Nat) (cy : Nat → ClassId) (ad : Nat → Nat) (B : Int) (hB0 : 2147483648 ≤ B) (hB1 : B ≤ 1152921504606846976) (qr : Nat) (s1 : Int) (hqr : ksC[qr]? = some 2)  (w0 : va_W) (sz : Nat) (hT : TW ksC ad cy B qr s1 w0) (cf0_ : gi w0 1 4 = 0) : Met l yX3_readTest wsX3_readTest ({ frames := 19, cells := 0, slots := 0, locals := 470 }) (va_Pc [.ref (ad 3), .int 5] (wpreS adK adV dC dI cy sz w0)) (va_Qv (P_X3_readTest_6 ad cy B qr s1  w0) (fun u : va_W => wpost dC dI cy (va_A w0 sz) u) (va_A w0 sz)) 0 0 (va_A w0 sz) := by
  refine Met.ofW (cc := cX3_readTest) (maxL := 4) (ret := none) (by decide) rfl ?_
  intro p e s m args below meth c s₁ Bk hml hv
  obtain ⟨rfl, ⟨hsz, hP, hK, hD0⟩, hE, hSR⟩ := hv
  have hx := Bk.exec
  have hb := Bk.bytes
  have hr := Bk.returns
  have hlocks := Bk.notSynchronized
  have hC : CallFix p m c cX3_readTest 4 s _ wsX3_readTest RX3 := ⟨hx, hb, hml, findClass_of_methodNamed Bk.named, atoms_spec (ws := wsX3_readTest) Bk.pre⟩
  subst hsz
  have hD := hD0.self (sz := s.heap.size)
  generalize hAe : va_A w0 s.heap.size = A at hD hE ⊢
  have hA : ∀ q : Nat, s.heap.size ≤ q → A q := fun q h => by rw [← hAe]; exact Or.inr h
  have hw : Wd dC dI A s.heap s.heap [] w0 := ⟨hP, hD, va_S.rf⟩
  have hF : FE ksC [(2, 3, 3), (3, 2, 2), (6, 1, 1), (6, 3, 3), (6, 4, 4), (22, 0, 13), (23, 0, 400)] w0 w0 := FE.rf
  have hl := lv_entry ([.ref (ad 3), .int 5]) (n := 4) (Nat.le_of_ble_eq_true rfl)
  rw [lg_entry_eq]
  generalize (lg_sl ([.ref (ad 3), .int 5]) ++ List.replicate (4 - (lg_sl ([.ref (ad 3), .int 5])).length) Slot.unset).toArray = ls at hl ⊢
  have hl : lv_has ls 4 [(0, .ref (ad 3)), (1, .int 5)] := hl
  generalize hloc : ([] : List Loc) = locs at hw ⊢
  have hinX3 : ∀ w ∈ u_ws RX3 TX3 3, w ∈ wsX3_readTest := fun _ h => List.mem_cons_of_mem _ (List.mem_append_left _ (List.mem_append_left _ (List.mem_append_right _ (h))))
  have J86 : ∀ (v86_2 : Int32) (v86_3 : Int32) (H : Heap) (locs : List Loc) (ls : Array Slot) (w1 : va_W), (-1) ≤ v86_2.toInt → v86_2.toInt ≤ 21 → 0 ≤ v86_3.toInt → v86_3.toInt ≤ 400 → Wd dC dI A s.heap H locs w1 → TW ksC ad cy B qr s1 w1 → FE ksC [(2, 3, 3), (3, 2, 2), (6, 1, 1), (6, 3, 3), (6, 4, 4), (22, 0, 13), (23, 0, 400)] w0 w1 → lv_has ls 4 [(0, .ref (ad 3)), (1, .int 5), (2, .int v86_2), (3, .int v86_3)] → W p l e ({ frames := 19, cells := 0, slots := 0, locals := 470 }) s m (List.toArray [.ref (ad 3), .int 5]) below meth c H locs 0 0 (MQ below (va_Qv (P_X3_readTest_6 ad cy B qr s1  w0) (fun u : va_W => wpost dC dI cy A u) A) (List.toArray [.ref (ad 3), .int 5]) s 0 0 A) (F0 m 86 ls []) := by
    intro v86_2 v86_3 H locs ls w1 r2 t3 r4 t5 hw hT hF hl
    refine lv_aload_n hx hb dX3_readTest_86 rfl (lv_at hl 0 rfl) ?_
    refine lv_iload_n hx hb dX3_readTest_87 rfl (lv_at hl 2 rfl) ?_
    refine tk_Vv hC hK hw hT hA hE hSR kC_at3 (by decide) rfl (k_X3_addWaiting_1 l adK adV dC dI cy ad B (by omega) (by omega) qr s1 hqr  v86_2 w1 H.size hT ) (cwV 1 hC.2.2.2.2 gX3_readTest_X3_addWaiting rfl rfl rfl (by decide +kernel) ⟨Nat.le_of_ble_eq_true rfl, Nat.le_of_ble_eq_true rfl⟩) rfl hl.1 rfl (Nat.le_of_ble_eq_true rfl) dX3_readTest_88 (fun w8 H locs hp7 hw => ?_)
    obtain ⟨hT, k9, hg10⟩ := hp7
    have hF := hF.tr k9 (by decide)
    clear hg10
    exact tk_vret hC hr hlocks hK ⟨hT, hF, trivial⟩ hw dX3_readTest_91
  have L9 : ∀ (n9 : Nat) (v9_2 : Int32) (v9_3 : Int32) (H : Heap) (locs : List Loc) (ls : Array Slot) (w11 : va_W), (-1) ≤ v9_2.toInt → v9_2.toInt ≤ 21 → 0 ≤ v9_3.toInt → v9_3.toInt ≤ 400 → (400 - v9_3.toInt).toNat < n9 → Wd dC dI A s.heap H locs w11 → TW ksC ad cy B qr s1 w11 → FE ksC [(2, 3, 3), (3, 2, 2), (6, 1, 1), (6, 3, 3), (6, 4, 4), (22, 0, 13), (23, 0, 400)] w0 w11 → lv_has ls 4 [(0, .ref (ad 3)), (1, .int 5), (2, .int v9_2), (3, .int v9_3)] → W p l e ({ frames := 19, cells := 0, slots := 0, locals := 470 }) s m (List.toArray [.ref (ad 3), .int 5]) below meth c H locs 0 0 (MQ below (va_Qv (P_X3_readTest_6 ad cy B qr s1  w0) (fun u : va_W => wpost dC dI cy A u) A) (List.toArray [.ref (ad 3), .int 5]) s 0 0 A) (F0 m 9 ls []) := by
    intro n9
    induction n9 with
    | zero => intro v9_2 v9_3 H locs ls w11 r12 t13 r14 t15 hm9 hw hT hF hl; omega
    | succ n9 ih9 =>
      intro v9_2 v9_3 H locs ls w11 r12 t13 r14 t15 hm9 hw hT hF hl
      have J80 : ∀ (v80_2 : Int32) (H : Heap) (locs : List Loc) (ls : Array Slot) (w16 : va_W), (-1) ≤ v80_2.toInt → v80_2.toInt ≤ 21 → 0 ≤ v9_3.toInt → v9_3.toInt ≤ 399 → Wd dC dI A s.heap H locs w16 → TW ksC ad cy B qr s1 w16 → FE ksC [(2, 3, 3), (3, 2, 2), (6, 1, 1), (6, 3, 3), (6, 4, 4), (22, 0, 13), (23, 0, 400)] w0 w16 → lv_has ls 4 [(0, .ref (ad 3)), (1, .int 5), (2, .int v80_2), (3, .int v9_3)] → W p l e ({ frames := 19, cells := 0, slots := 0, locals := 470 }) s m (List.toArray [.ref (ad 3), .int 5]) below meth c H locs 0 0 (MQ below (va_Qv (P_X3_readTest_6 ad cy B qr s1  w0) (fun u : va_W => wpost dC dI cy A u) A) (List.toArray [.ref (ad 3), .int 5]) s 0 0 A) (F0 m 80 ls []) := by
        intro v80_2 H locs ls w16 r17 t18 r19 t20 hw hT hF hl
        obtain ⟨x21, ex21⟩ : ∃ y : Int32, y = v9_3 + Int32.ofInt 1 := ⟨_, rfl⟩
        refine lv_iinc (v := x21) (lv' := [(3, .int x21), (0, .ref (ad 3)), (1, .int 5), (2, .int v80_2)]) hx hb dX3_readTest_80 hl (k := 3) rfl ex21.symm (by decide) rfl (fun ls hl => ?_)
        have ex21 : x21.toInt = v9_3.toInt + 1 := by rw [ex21]; exact wk_add (y := 1) (show -2147483648 ≤ v9_3.toInt + 1 by omega) (show v9_3.toInt + 1 ≤ 2147483647 by omega)
        refine lv_goto (tgt := 9) hx hb dX3_readTest_83 (by decide) ?_
        exact ih9 v80_2 x21 H locs ls w16 (show (-1) ≤ v80_2.toInt by omega) (show v80_2.toInt ≤ 21 by omega) (show 0 ≤ x21.toInt by omega) (show x21.toInt ≤ 400 by omega) (show (400 - x21.toInt).toNat < n9 by omega) hw hT hF  (lv_sub hl [1, 2, 3, 0] rfl)
      refine lv_iload_n hx hb dX3_readTest_9 rfl (lv_at hl 3 rfl) ?_
      refine lv_sipush (v := 400) hx hb dX3_readTest_10 (by decide) ?_
      refine lv_icmp_ge (tgt := 86) hx hb dX3_readTest_13 (by decide) (fun c22 => ?_) (fun c22 => ?_)
      · have c22 : (400 : Int) ≤ v9_3.toInt := wk_le.mp c22
        exact J86 v9_2 v9_3 H locs ls w11 (show (-1) ≤ v9_2.toInt by omega) (show v9_2.toInt ≤ 21 by omega) (show 0 ≤ v9_3.toInt by omega) (show v9_3.toInt ≤ 400 by omega)  hw hT hF  (lv_sub hl [0, 1, 2, 3] rfl)
      · have c22 : v9_3.toInt < (400 : Int) := wk_leF c22
        refine lv_aload_n hx hb dX3_readTest_16 rfl (lv_at hl 0 rfl) ?_
        refine tk_getA hC hK hw hT hinX3 kC_at3 (by decide) rfl 0 (by decide) (List.mem_of_getElem? (i := 1) rfl) rfl rfl dX3_readTest_17 ?_
        refine tk_Vi hC hK hw hT hA hE hSR kC_at1 (by decide) rfl (k_X6_isFaulty_1 l adK adV dC dI cy ad B (by omega) (by omega) qr s1    w11 H.size hT ) (cwV 0 hC.2.2.2.2 gX3_readTest_X6_isFaulty rfl rfl rfl (by decide +kernel) ⟨Nat.le_of_ble_eq_true rfl, Nat.le_of_ble_eq_true rfl⟩) rfl hl.1 rfl (Nat.le_of_ble_eq_true rfl) dX3_readTest_20 (fun r23 w25 H locs hp24 hw => ?_)
        obtain ⟨hT, k26, hg31⟩ := hp24
        have hF := hF.tr k26 (by decide)
        rcases hg31 with ⟨rfl, ⟨x27, c28, rx27, tx27⟩⟩ | ⟨rfl, ⟨x29, c30, rx29, tx29⟩⟩
        · refine lv_if_ne (tgt := 86) hx hb dX3_readTest_23 (by decide) (fun c => absurd (by decide) c) (fun _ => ?_)
          refine lv_aload_n hx hb dX3_readTest_26 rfl (lv_at hl 0 rfl) ?_
          refine tk_getA hC hK hw hT hinX3 kC_at3 (by decide) rfl 0 (by decide) (List.mem_of_getElem? (i := 1) rfl) rfl rfl dX3_readTest_27 ?_
          refine va_ldcS hx hb hC.2.2.2.1 hSR.2.2.2.2.2.2.1 dX3_readTest_30 ?_
          refine tk_Vi hC hK hw hT hA hE hSR kC_at1 (by decide) rfl (k_X6_takeWord_2 l adK adV dC dI cy ad B (by omega) (by omega) qr s1    w25 H.size hT ) (cwV 1 hC.2.2.2.2 gX3_readTest_X6_takeWord rfl rfl rfl (by decide +kernel) ⟨Nat.le_of_ble_eq_true rfl, Nat.le_of_ble_eq_true rfl⟩) rfl hl.1 rfl (Nat.le_of_ble_eq_true rfl) dX3_readTest_32 (fun r32 w34 H locs hp33 hw => ?_)
          obtain ⟨hT, k35, hg38⟩ := hp33
          have hF := hF.tr k35 (by decide)
          have c39 := k35.gi kC_at1 (by decide) c28
          rcases hg38 with rfl | ⟨rfl, ⟨x36, c37, rx36, tx36⟩⟩
          · refine lv_if_eq (tgt := 55) hx hb dX3_readTest_35 (by decide) (fun _ => ?_) (fun c => absurd (by decide) c)
            refine lv_aload_n hx hb dX3_readTest_55 rfl (lv_at hl 0 rfl) ?_
            refine tk_getA hC hK hw hT hinX3 kC_at3 (by decide) rfl 0 (by decide) (List.mem_of_getElem? (i := 1) rfl) rfl rfl dX3_readTest_56 ?_
            refine va_ldcS hx hb hC.2.2.2.1 hSR.2.2.2.2.2.2.2 dX3_readTest_59 ?_
            refine tk_Vi hC hK hw hT hA hE hSR kC_at1 (by decide) rfl (k_X6_takeWord_3 l adK adV dC dI cy ad B (by omega) (by omega) qr s1    w34 H.size hT ) (cwV 1 hC.2.2.2.2 gX3_readTest_X6_takeWord rfl rfl rfl (by decide +kernel) ⟨Nat.le_of_ble_eq_true rfl, Nat.le_of_ble_eq_true rfl⟩) rfl hl.1 rfl (Nat.le_of_ble_eq_true rfl) dX3_readTest_61 (fun r40 w42 H locs hp41 hw => ?_)
            obtain ⟨hT, k43, hg46⟩ := hp41
            have hF := hF.tr k43 (by decide)
            have c47 := k43.gi kC_at1 (by decide) c39
            rcases hg46 with rfl | ⟨rfl, ⟨x44, c45, rx44, tx44⟩⟩
            · refine lv_if_eq (tgt := 86) hx hb dX3_readTest_64 (by decide) (fun _ => ?_) (fun c => absurd (by decide) c)
              exact J86 v9_2 v9_3 H locs ls w42 (show (-1) ≤ v9_2.toInt by omega) (show v9_2.toInt ≤ 21 by omega) (show 0 ≤ v9_3.toInt by omega) (show v9_3.toInt ≤ 400 by omega)  hw hT hF  (lv_sub hl [0, 1, 2, 3] rfl)
            · refine lv_if_eq (tgt := 86) hx hb dX3_readTest_64 (by decide) (fun c => absurd c (by decide)) (fun _ => ?_)
              refine lv_aload_n hx hb dX3_readTest_67 rfl (lv_at hl 0 rfl) ?_
              refine lv_iload_n hx hb dX3_readTest_68 rfl (lv_at hl 2 rfl) ?_
              refine tk_Vv hC hK hw hT hA hE hSR kC_at3 (by decide) rfl (k_X3_addWaiting_1 l adK adV dC dI cy ad B (by omega) (by omega) qr s1 hqr  v9_2 w42 H.size hT ) (cwV 1 hC.2.2.2.2 gX3_readTest_X3_addWaiting rfl rfl rfl (by decide +kernel) ⟨Nat.le_of_ble_eq_true rfl, Nat.le_of_ble_eq_true rfl⟩) rfl hl.1 rfl (Nat.le_of_ble_eq_true rfl) dX3_readTest_69 (fun w50 H locs hp49 hw => ?_)
              obtain ⟨hT, k51, hg52⟩ := hp49
              have hF := hF.tr k51 (by decide)
              have c53 := k51.gi kC_at1 (by decide) c47
              have c54 := k51.gi kC_at1 (by decide) c45
              clear hg52
              refine lv_bipush (v := 21) hx hb dX3_readTest_72 (by decide) ?_
              refine lv_istore_n (lv' := [(2, .int 21), (0, .ref (ad 3)), (1, .int 5), (3, .int v9_3)]) hx hb dX3_readTest_74 rfl hl (by decide) rfl (fun ls hl => ?_)
              refine lv_aload_n hx hb dX3_readTest_75 rfl (lv_at hl 1 rfl) ?_
              refine lv_iload_n hx hb dX3_readTest_76 rfl (lv_at hl 2 rfl) ?_
              refine tk_Vv hC hK hw hT hA hE hSR kC_at3 (by decide) rfl (k_X3_readFact_6 l adK adV dC dI cy ad B (by omega) (by omega) qr s1 hqr   w50 H.size hT (c53.trans (wk_eq.mpr (show x27.toInt = 0 by omega)))) (cwV 1 hC.2.2.2.2 gX3_readTest_X3_readFact rfl rfl rfl (by decide +kernel) ⟨Nat.le_of_ble_eq_true rfl, Nat.le_of_ble_eq_true rfl⟩) rfl hl.1 rfl (Nat.le_of_ble_eq_true rfl) dX3_readTest_77 (fun w57 H locs hp56 hw => ?_)
              obtain ⟨hT, k58, hg59⟩ := hp56
              have hF := hF.tr k58 (by decide)
              clear hg59
              exact J80 21 H locs ls w57 (by decide) (by decide) (show 0 ≤ v9_3.toInt by omega) (show v9_3.toInt ≤ 399 by omega)  hw hT hF  (lv_sub hl [1, 2, 0, 3] rfl)
          · refine lv_if_eq (tgt := 55) hx hb dX3_readTest_35 (by decide) (fun c => absurd c (by decide)) (fun _ => ?_)
            refine lv_aload_n hx hb dX3_readTest_38 rfl (lv_at hl 0 rfl) ?_
            refine lv_iload_n hx hb dX3_readTest_39 rfl (lv_at hl 1 rfl) ?_
            refine tk_Vv hC hK hw hT hA hE hSR kC_at3 (by decide) rfl (k_X3_readFact_6 l adK adV dC dI cy ad B (by omega) (by omega) qr s1 hqr   w34 H.size hT (c39.trans (wk_eq.mpr (show x27.toInt = 0 by omega)))) (cwV 1 hC.2.2.2.2 gX3_readTest_X3_readFact rfl rfl rfl (by decide +kernel) ⟨Nat.le_of_ble_eq_true rfl, Nat.le_of_ble_eq_true rfl⟩) rfl hl.1 rfl (Nat.le_of_ble_eq_true rfl) dX3_readTest_40 (fun w62 H locs hp61 hw => ?_)
            obtain ⟨hT, k63, hg64⟩ := hp61
            have hF := hF.tr k63 (by decide)
            clear hg64
            refine lv_aload_n hx hb dX3_readTest_43 rfl (lv_at hl 0 rfl) ?_
            refine tk_getQ hC hK hw hT hqr (by decide) hinX3 kC_at3 (by decide) rfl 1 (by decide) (List.mem_of_getElem? (i := 2) rfl) rfl rfl dX3_readTest_44 ?_
            refine lv_bipush (v := 20) hx hb dX3_readTest_47 (by decide) ?_
            refine tk_Vv hC hK hw hT hA hE hSR hqr (by decide) rfl (k_X2_addToken_1 l adK adV dC dI cy ad B (by omega) (by omega) qr s1   qr hqr 20 w62 H.size hT ) (cwV 1 hC.2.2.2.2 gX3_readTest_X2_addToken rfl rfl rfl (by decide +kernel) ⟨Nat.le_of_ble_eq_true rfl, Nat.le_of_ble_eq_true rfl⟩) rfl hl.1 rfl (Nat.le_of_ble_eq_true rfl) dX3_readTest_49 (fun w67 H locs hp66 hw => ?_)
            obtain ⟨hT, k68, hg71⟩ := hp66
            have hF := hF.tr k68 (by decide)
            obtain ⟨x69, c70, rx69, tx69⟩ := hg71
            refine lv_goto (tgt := 80) hx hb dX3_readTest_52 (by decide) ?_
            exact J80 v9_2 H locs ls w67 (show (-1) ≤ v9_2.toInt by omega) (show v9_2.toInt ≤ 21 by omega) (show 0 ≤ v9_3.toInt by omega) (show v9_3.toInt ≤ 399 by omega)  hw hT hF  (lv_sub hl [0, 1, 2, 3] rfl)
        · refine lv_if_ne (tgt := 86) hx hb dX3_readTest_23 (by decide) (fun _ => ?_) (fun c => absurd c (by decide))
          exact J86 v9_2 v9_3 H locs ls w25 (show (-1) ≤ v9_2.toInt by omega) (show v9_2.toInt ≤ 21 by omega) (show 0 ≤ v9_3.toInt by omega) (show v9_3.toInt ≤ 400 by omega)  hw hT hF  (lv_sub hl [0, 1, 2, 3] rfl)
  refine lv_aload_n hx hb dX3_readTest_0 rfl (lv_at hl 0 rfl) ?_
  refine lv_iload_n hx hb dX3_readTest_1 rfl (lv_at hl 1 rfl) ?_
  refine tk_Vv hC hK hw hT hA hE hSR kC_at3 (by decide) rfl (k_X3_readFact_6 l adK adV dC dI cy ad B (by omega) (by omega) qr s1 hqr   w0 s.heap.size hT cf0_) (cwV 1 hC.2.2.2.2 gX3_readTest_X3_readFact rfl rfl rfl (by decide +kernel) ⟨Nat.le_of_ble_eq_true rfl, Nat.le_of_ble_eq_true rfl⟩) rfl hl.1 rfl (Nat.le_of_ble_eq_true rfl) dX3_readTest_2 (fun w74 H locs hp73 hw => ?_)
  obtain ⟨hT, k75, hg76⟩ := hp73
  have hF := hF.tr k75 (by decide)
  clear hg76
  refine lv_iconst (v := (-1)) hx hb dX3_readTest_5 (by decide) ?_
  refine lv_istore_n (lv' := [(2, .int (-1)), (0, .ref (ad 3)), (1, .int 5)]) hx hb dX3_readTest_6 rfl hl (by decide) rfl (fun ls hl => ?_)
  refine lv_iconst (v := 0) hx hb dX3_readTest_7 (by decide) ?_
  refine lv_istore_n (lv' := [(3, .int 0), (2, .int (-1)), (0, .ref (ad 3)), (1, .int 5)]) hx hb dX3_readTest_8 rfl hl (by decide) rfl (fun ls hl => ?_)
  exact L9 ((400 - (0 : Int)).toNat + 1) (-1) 0 H locs ls w74 (by decide) (by decide) (by decide) (by decide) (Nat.lt_succ_self _) hw hT hF  (lv_sub hl [2, 3, 1, 0] rfl)
abbrev P_X3_readFact_5 (ad : Nat → Nat) (cy : Nat → ClassId) (B : Int) (qr : Nat) (s1 : Int)  (w0 : va_W) : va_W → Prop := fun u => TW ksC ad cy B qr s1 u ∧ FE ksC [(2, 3, 3), (3, 2, 2), (6, 1, 1), (6, 3, 3), (6, 4, 4), (22, 0, 13), (23, 0, 400)] w0 u ∧ ((True))
set_option maxHeartbeats 4000000 in
set_option maxRecDepth 100000 in
theorem k_X3_readFact_5 (l : Launch) (adK adV : Nat → Nat) (dC : Nat → ClassId) (dI : Nat → Nat → Nat) (cy : Nat → ClassId) (ad : Nat → Nat) (B : Int) (hB0 : 2147483648 ≤ B) (hB1 : B ≤ 1152921504606846976) (qr : Nat) (s1 : Int) (hqr : ksC[qr]? = some 2)  (w0 : va_W) (sz : Nat) (hT : TW ksC ad cy B qr s1 w0) (cf0_ : gi w0 1 4 = 0) : Met l yX3_readFact wsX3_readFact ({ frames := 20, cells := 0, slots := 0, locals := 493 }) (va_Pc [.ref (ad 3), .int 4] (wpreS adK adV dC dI cy sz w0)) (va_Qv (P_X3_readFact_5 ad cy B qr s1  w0) (fun u : va_W => wpost dC dI cy (va_A w0 sz) u) (va_A w0 sz)) 0 0 (va_A w0 sz) := by
  refine Met.ofW (cc := cX3_readFact) (maxL := 5) (ret := none) (by decide) rfl ?_
  intro p e s m args below meth c s₁ Bk hml hv
  obtain ⟨rfl, ⟨hsz, hP, hK, hD0⟩, hE, hSR⟩ := hv
  have hx := Bk.exec
  have hb := Bk.bytes
  have hr := Bk.returns
  have hlocks := Bk.notSynchronized
  have hC : CallFix p m c cX3_readFact 5 s _ wsX3_readFact RX3 := ⟨hx, hb, hml, findClass_of_methodNamed Bk.named, atoms_spec (ws := wsX3_readFact) Bk.pre⟩
  subst hsz
  have hD := hD0.self (sz := s.heap.size)
  generalize hAe : va_A w0 s.heap.size = A at hD hE ⊢
  have hA : ∀ q : Nat, s.heap.size ≤ q → A q := fun q h => by rw [← hAe]; exact Or.inr h
  have hw : Wd dC dI A s.heap s.heap [] w0 := ⟨hP, hD, va_S.rf⟩
  have hF : FE ksC [(2, 3, 3), (3, 2, 2), (6, 1, 1), (6, 3, 3), (6, 4, 4), (22, 0, 13), (23, 0, 400)] w0 w0 := FE.rf
  have hl := lv_entry ([.ref (ad 3), .int 4]) (n := 5) (Nat.le_of_ble_eq_true rfl)
  rw [lg_entry_eq]
  generalize (lg_sl ([.ref (ad 3), .int 4]) ++ List.replicate (5 - (lg_sl ([.ref (ad 3), .int 4])).length) Slot.unset).toArray = ls at hl ⊢
  have hl : lv_has ls 5 [(0, .ref (ad 3)), (1, .int 4)] := hl
  generalize hloc : ([] : List Loc) = locs at hw ⊢
  have hinX3 : ∀ w ∈ u_ws RX3 TX3 3, w ∈ wsX3_readFact := fun _ h => List.mem_cons_of_mem _ (List.mem_append_left _ (List.mem_append_left _ (List.mem_append_right _ (h))))
  have J160 : ∀ (v160_2 : Int32) (v160_3 : Int32) (H : Heap) (locs : List Loc) (ls : Array Slot) (w1 : va_W), 0 ≤ v160_2.toInt → v160_2.toInt ≤ 1 → 0 ≤ v160_3.toInt → v160_3.toInt ≤ 1 → Wd dC dI A s.heap H locs w1 → TW ksC ad cy B qr s1 w1 → FE ksC [(2, 3, 3), (3, 2, 2), (6, 1, 1), (6, 3, 3), (6, 4, 4), (22, 0, 13), (23, 0, 400)] w0 w1 → lv_has ls 5 [(0, .ref (ad 3)), (1, .int 4), (2, .int v160_2), (3, .int v160_3)] → W p l e ({ frames := 20, cells := 0, slots := 0, locals := 493 }) s m (List.toArray [.ref (ad 3), .int 4]) below meth c H locs 0 0 (MQ below (va_Qv (P_X3_readFact_5 ad cy B qr s1  w0) (fun u : va_W => wpost dC dI cy A u) A) (List.toArray [.ref (ad 3), .int 4]) s 0 0 A) (F0 m 160 ls []) := by
    intro v160_2 v160_3 H locs ls w1 r2 t3 r4 t5 hw hT hF hl
    exact tk_vret hC hr hlocks hK ⟨hT, hF, trivial⟩ hw dX3_readFact_160
  have J77 : ∀ (v77_2 : Int32) (v77_3 : Int32) (H : Heap) (locs : List Loc) (ls : Array Slot) (w6 : va_W), 0 ≤ v77_2.toInt → v77_2.toInt ≤ 1 → 0 ≤ v77_3.toInt → v77_3.toInt ≤ 1 → Wd dC dI A s.heap H locs w6 → TW ksC ad cy B qr s1 w6 → FE ksC [(2, 3, 3), (3, 2, 2), (6, 1, 1), (6, 3, 3), (6, 4, 4), (22, 0, 13), (23, 0, 400)] w0 w6 → gi w6 1 4 = 0 → lv_has ls 5 [(0, .ref (ad 3)), (1, .int 4), (2, .int v77_2), (3, .int v77_3)] → W p l e ({ frames := 20, cells := 0, slots := 0, locals := 493 }) s m (List.toArray [.ref (ad 3), .int 4]) below meth c H locs 0 0 (MQ below (va_Qv (P_X3_readFact_5 ad cy B qr s1  w0) (fun u : va_W => wpost dC dI cy A u) A) (List.toArray [.ref (ad 3), .int 4]) s 0 0 A) (F0 m 77 ls []) := by
    intro v77_2 v77_3 H locs ls w6 r7 t8 r9 t10 hw hT hF c11 hl
    refine lv_iload_n hx hb dX3_readFact_77 rfl (lv_at hl 1 rfl) ?_
    refine lv_bipush (v := 10) hx hb dX3_readFact_78 (by decide) ?_
    refine lv_icmp_lt (tgt := 101) hx hb dX3_readFact_80 (by decide) (fun _ => ?_) (fun c => absurd (by decide) c)
    refine lv_iload_n hx hb dX3_readFact_101 rfl (lv_at hl 2 rfl) ?_
    refine lv_if_eq (tgt := 124) hx hb dX3_readFact_102 (by decide) (fun c12 => ?_) (fun c12 => ?_)
    · have c12 : v77_2.toInt = (0 : Int) := wk_eq.mp c12
      refine lv_aload_n hx hb dX3_readFact_124 rfl (lv_at hl 0 rfl) ?_
      refine lv_iload_n hx hb dX3_readFact_125 rfl (lv_at hl 1 rfl) ?_
      refine lv_iconst (v := 1) hx hb dX3_readFact_126 (by decide) ?_
      refine lv_iadd hx hb dX3_readFact_127 ?_
      refine wk_top 5 (by decide) ?_
      refine tk_Vv hC hK hw hT hA hE hSR kC_at3 (by decide) rfl (k_X3_readTest_6 l adK adV dC dI cy ad B (by omega) (by omega) qr s1 hqr   w6 H.size hT c11) (cwV 1 hC.2.2.2.2 gX3_readFact_X3_readTest rfl rfl rfl (by decide +kernel) ⟨Nat.le_of_ble_eq_true rfl, Nat.le_of_ble_eq_true rfl⟩) rfl hl.1 rfl (Nat.le_of_ble_eq_true rfl) dX3_readFact_128 (fun w15 H locs hp14 hw => ?_)
      obtain ⟨hT, k16, hg17⟩ := hp14
      have hF := hF.tr k16 (by decide)
      clear hg17
      refine lv_aload_n hx hb dX3_readFact_131 rfl (lv_at hl 0 rfl) ?_
      refine tk_getA hC hK hw hT hinX3 kC_at3 (by decide) rfl 0 (by decide) (List.mem_of_getElem? (i := 1) rfl) rfl rfl dX3_readFact_132 ?_
      refine tk_Vi hC hK hw hT hA hE hSR kC_at1 (by decide) rfl (k_X6_isFaulty_1 l adK adV dC dI cy ad B (by omega) (by omega) qr s1    w15 H.size hT ) (cwV 0 hC.2.2.2.2 gX3_readFact_X6_isFaulty rfl rfl rfl (by decide +kernel) ⟨Nat.le_of_ble_eq_true rfl, Nat.le_of_ble_eq_true rfl⟩) rfl hl.1 rfl (Nat.le_of_ble_eq_true rfl) dX3_readFact_135 (fun r18 w20 H locs hp19 hw => ?_)
      obtain ⟨hT, k21, hg26⟩ := hp19
      have hF := hF.tr k21 (by decide)
      rcases hg26 with ⟨rfl, ⟨x22, c23, rx22, tx22⟩⟩ | ⟨rfl, ⟨x24, c25, rx24, tx24⟩⟩
      · refine lv_if_ne (tgt := 160) hx hb dX3_readFact_138 (by decide) (fun c => absurd (by decide) c) (fun _ => ?_)
        refine lv_aload_n hx hb dX3_readFact_141 rfl (lv_at hl 0 rfl) ?_
        refine tk_getA hC hK hw hT hinX3 kC_at3 (by decide) rfl 0 (by decide) (List.mem_of_getElem? (i := 1) rfl) rfl rfl dX3_readFact_142 ?_
        refine lv_bipush (v := 93) hx hb dX3_readFact_145 (by decide) ?_
        refine tk_Vi hC hK hw hT hA hE hSR kC_at1 (by decide) rfl (k_X6_takeByte_3 l adK adV dC dI cy ad B (by omega) (by omega) qr s1    w20 H.size hT ) (cwV 1 hC.2.2.2.2 gX3_readFact_X6_takeByte rfl rfl rfl (by decide +kernel) ⟨Nat.le_of_ble_eq_true rfl, Nat.le_of_ble_eq_true rfl⟩) rfl hl.1 rfl (Nat.le_of_ble_eq_true rfl) dX3_readFact_147 (fun r27 w29 H locs hp28 hw => ?_)
        obtain ⟨hT, k30, hg35⟩ := hp28
        have hF := hF.tr k30 (by decide)
        have c36 := k30.gi kC_at1 (by decide) c23
        rcases hg35 with rfl | ⟨rfl, ⟨x31, c32, rx31, tx31⟩, ⟨x33, c34, rx33, tx33⟩⟩
        · refine lv_if_ne (tgt := 160) hx hb dX3_readFact_150 (by decide) (fun c => absurd (by decide) c) (fun _ => ?_)
          refine lv_aload_n hx hb dX3_readFact_153 rfl (lv_at hl 0 rfl) ?_
          refine tk_getA hC hK hw hT hinX3 kC_at3 (by decide) rfl 0 (by decide) (List.mem_of_getElem? (i := 1) rfl) rfl rfl dX3_readFact_154 ?_
          refine tk_Vv hC hK hw hT hA hE hSR kC_at1 (by decide) rfl (k_X6_blameHere_1 l adK adV dC dI cy ad B (by omega) (by omega) qr s1    w29 H.size hT (c36.trans (wk_eq.mpr (show x22.toInt = 0 by omega)))) (cwV 0 hC.2.2.2.2 gX3_readFact_X6_blameHere rfl rfl rfl (by decide +kernel) ⟨Nat.le_of_ble_eq_true rfl, Nat.le_of_ble_eq_true rfl⟩) rfl hl.1 rfl (Nat.le_of_ble_eq_true rfl) dX3_readFact_157 (fun w39 H locs hp38 hw => ?_)
          obtain ⟨hT, k40, hg43⟩ := hp38
          have hF := hF.tr k40 (by decide)
          obtain ⟨x41, c42, rx41, tx41⟩ := hg43
          exact J160 v77_2 v77_3 H locs ls w39 (show 0 ≤ v77_2.toInt by omega) (show v77_2.toInt ≤ 1 by omega) (show 0 ≤ v77_3.toInt by omega) (show v77_3.toInt ≤ 1 by omega)  hw hT hF  (lv_sub hl [0, 1, 2, 3] rfl)
        · refine lv_if_ne (tgt := 160) hx hb dX3_readFact_150 (by decide) (fun _ => ?_) (fun c => absurd c (by decide))
          exact J160 v77_2 v77_3 H locs ls w29 (show 0 ≤ v77_2.toInt by omega) (show v77_2.toInt ≤ 1 by omega) (show 0 ≤ v77_3.toInt by omega) (show v77_3.toInt ≤ 1 by omega)  hw hT hF  (lv_sub hl [0, 1, 2, 3] rfl)
      · refine lv_if_ne (tgt := 160) hx hb dX3_readFact_138 (by decide) (fun _ => ?_) (fun c => absurd c (by decide))
        exact J160 v77_2 v77_3 H locs ls w20 (show 0 ≤ v77_2.toInt by omega) (show v77_2.toInt ≤ 1 by omega) (show 0 ≤ v77_3.toInt by omega) (show v77_3.toInt ≤ 1 by omega)  hw hT hF  (lv_sub hl [0, 1, 2, 3] rfl)
    · have c12 : ¬ v77_2.toInt = (0 : Int) := wk_eqF c12
      refine lv_aload_n hx hb dX3_readFact_105 rfl (lv_at hl 0 rfl) ?_
      refine lv_iload_n hx hb dX3_readFact_106 rfl (lv_at hl 1 rfl) ?_
      refine lv_iconst (v := 1) hx hb dX3_readFact_107 (by decide) ?_
      refine lv_iadd hx hb dX3_readFact_108 ?_
      refine wk_top 5 (by decide) ?_
      refine tk_Vv hC hK hw hT hA hE hSR kC_at3 (by decide) rfl (k_X3_readFact_6 l adK adV dC dI cy ad B (by omega) (by omega) qr s1 hqr   w6 H.size hT c11) (cwV 1 hC.2.2.2.2 gX3_readFact_X3_readFact rfl rfl rfl (by decide +kernel) ⟨Nat.le_of_ble_eq_true rfl, Nat.le_of_ble_eq_true rfl⟩) rfl hl.1 rfl (Nat.le_of_ble_eq_true rfl) dX3_readFact_109 (fun w46 H locs hp45 hw => ?_)
      obtain ⟨hT, k47, hg48⟩ := hp45
      have hF := hF.tr k47 (by decide)
      clear hg48
      refine lv_aload_n hx hb dX3_readFact_112 rfl (lv_at hl 0 rfl) ?_
      refine tk_getQ hC hK hw hT hqr (by decide) hinX3 kC_at3 (by decide) rfl 1 (by decide) (List.mem_of_getElem? (i := 2) rfl) rfl rfl dX3_readFact_113 ?_
      refine lv_bipush (v := 19) hx hb dX3_readFact_116 (by decide) ?_
      refine tk_Vv hC hK hw hT hA hE hSR hqr (by decide) rfl (k_X2_addToken_1 l adK adV dC dI cy ad B (by omega) (by omega) qr s1   qr hqr 19 w46 H.size hT ) (cwV 1 hC.2.2.2.2 gX3_readFact_X2_addToken rfl rfl rfl (by decide +kernel) ⟨Nat.le_of_ble_eq_true rfl, Nat.le_of_ble_eq_true rfl⟩) rfl hl.1 rfl (Nat.le_of_ble_eq_true rfl) dX3_readFact_118 (fun w51 H locs hp50 hw => ?_)
      obtain ⟨hT, k52, hg55⟩ := hp50
      have hF := hF.tr k52 (by decide)
      obtain ⟨x53, c54, rx53, tx53⟩ := hg55
      refine lv_goto (tgt := 160) hx hb dX3_readFact_121 (by decide) ?_
      exact J160 v77_2 v77_3 H locs ls w51 (show 0 ≤ v77_2.toInt by omega) (show v77_2.toInt ≤ 1 by omega) (show 0 ≤ v77_3.toInt by omega) (show v77_3.toInt ≤ 1 by omega)  hw hT hF  (lv_sub hl [0, 1, 2, 3] rfl)
  have J41 : ∀ (v41_2 : Int32) (H : Heap) (locs : List Loc) (ls : Array Slot) (w56 : va_W), 0 ≤ v41_2.toInt → v41_2.toInt ≤ 1 → Wd dC dI A s.heap H locs w56 → TW ksC ad cy B qr s1 w56 → FE ksC [(2, 3, 3), (3, 2, 2), (6, 1, 1), (6, 3, 3), (6, 4, 4), (22, 0, 13), (23, 0, 400)] w0 w56 → gi w56 1 4 = 0 → lv_has ls 5 [(0, .ref (ad 3)), (1, .int 4), (2, .int v41_2)] → W p l e ({ frames := 20, cells := 0, slots := 0, locals := 493 }) s m (List.toArray [.ref (ad 3), .int 4]) below meth c H locs 0 0 (MQ below (va_Qv (P_X3_readFact_5 ad cy B qr s1  w0) (fun u : va_W => wpost dC dI cy A u) A) (List.toArray [.ref (ad 3), .int 4]) s 0 0 A) (F0 m 41 ls []) := by
    intro v41_2 H locs ls w56 r57 t58 hw hT hF c59 hl
    refine lv_iconst (v := 0) hx hb dX3_readFact_41 (by decide) ?_
    refine lv_istore_n (lv' := [(3, .int 0), (0, .ref (ad 3)), (1, .int 4), (2, .int v41_2)]) hx hb dX3_readFact_42 rfl hl (by decide) rfl (fun ls hl => ?_)
    refine lv_iload_n hx hb dX3_readFact_43 rfl (lv_at hl 3 rfl) ?_
    refine lv_if_ne (tgt := 77) hx hb dX3_readFact_44 (by decide) (fun c60 => ?_) (fun c60 => ?_)
    · have c60 : ¬ v41_2.toInt = (0 : Int) := wk_eqF c60
      exact J77 v41_2 0 H locs ls w56 (show 0 ≤ v41_2.toInt by omega) (show v41_2.toInt ≤ 1 by omega) (by decide) (by decide)  hw hT hF c59 (lv_sub hl [1, 2, 3, 0] rfl)
    · have c60 : v41_2.toInt = (0 : Int) := wk_eq.mp c60
      refine lv_iload_n hx hb dX3_readFact_47 rfl (lv_at hl 0 rfl) ?_
      refine lv_if_ne (tgt := 77) hx hb dX3_readFact_48 (by decide) (fun c => absurd (by decide) c) (fun _ => ?_)
      refine lv_aload_n hx hb dX3_readFact_51 rfl (lv_at hl 1 rfl) ?_
      refine tk_Vv hC hK hw hT hA hE hSR kC_at3 (by decide) rfl (k_X3_readSum_1 l adK adV dC dI cy ad B (by omega) (by omega) qr s1 hqr   w56 H.size hT c59) (cwV 0 hC.2.2.2.2 gX3_readFact_X3_readSum rfl rfl rfl (by decide +kernel) ⟨Nat.le_of_ble_eq_true rfl, Nat.le_of_ble_eq_true rfl⟩) rfl hl.1 rfl (Nat.le_of_ble_eq_true rfl) dX3_readFact_52 (fun w63 H locs hp62 hw => ?_)
      obtain ⟨hT, k64, hg65⟩ := hp62
      have hF := hF.tr k64 (by decide)
      clear hg65
      refine lv_aload_n hx hb dX3_readFact_55 rfl (lv_at hl 1 rfl) ?_
      refine tk_Vi hC hK hw hT hA hE hSR kC_at3 (by decide) rfl (k_X3_readSign_1 l adK adV dC dI cy ad B (by omega) (by omega) qr s1    w63 H.size hT ) (cwV 0 hC.2.2.2.2 gX3_readFact_X3_readSign rfl rfl rfl (by decide +kernel) ⟨Nat.le_of_ble_eq_true rfl, Nat.le_of_ble_eq_true rfl⟩) rfl hl.1 rfl (Nat.le_of_ble_eq_true rfl) dX3_readFact_56 (fun r66 w68 H locs hp67 hw => ?_)
      obtain ⟨hT, k69, hg80⟩ := hp67
      have hF := hF.tr k69 (by decide)
      rcases hg80 with ⟨rfl, ⟨x70, c71, rx70, tx70⟩⟩ | ⟨g72, g73, ⟨x74, c75, rx74, tx74⟩, ⟨x76, c77, rx76, tx76⟩, ⟨x78, c79, rx78, tx78⟩⟩
      · refine lv_istore (lv' := [(4, .int 16), (3, .int 0), (0, .ref (ad 3)), (1, .int 4), (2, .int v41_2)]) hx hb dX3_readFact_59 hl (by decide) rfl (fun ls hl => ?_)
        refine lv_aload_n hx hb dX3_readFact_61 rfl (lv_at hl 2 rfl) ?_
        refine tk_Vv hC hK hw hT hA hE hSR kC_at3 (by decide) rfl (k_X3_readSum_2 l adK adV dC dI cy ad B (by omega) (by omega) qr s1 hqr   w68 H.size hT x70 c71 (show 1 ≤ x70.toInt by omega) (show x70.toInt ≤ 3205 by omega)) (cwV 0 hC.2.2.2.2 gX3_readFact_X3_readSum rfl rfl rfl (by decide +kernel) ⟨Nat.le_of_ble_eq_true rfl, Nat.le_of_ble_eq_true rfl⟩) rfl hl.1 rfl (Nat.le_of_ble_eq_true rfl) dX3_readFact_62 (fun w83 H locs hp82 hw => ?_)
        obtain ⟨hT, k84, hg87⟩ := hp82
        have hF := hF.tr k84 (by decide)
        have c88 := k84.gi kC_at1 (by decide) c71
        obtain ⟨x85, c86, rx85, tx85⟩ := hg87
        have ex85 : x85.toInt = x70.toInt := by rw [← c88.symm.trans c86]
        refine lv_aload_n hx hb dX3_readFact_65 rfl (lv_at hl 2 rfl) ?_
        refine tk_getQ hC hK hw hT hqr (by decide) hinX3 kC_at3 (by decide) rfl 1 (by decide) (List.mem_of_getElem? (i := 2) rfl) rfl rfl dX3_readFact_66 ?_
        refine lv_iload hx hb dX3_readFact_69 (lv_at hl 0 rfl) ?_
        refine tk_Vv hC hK hw hT hA hE hSR hqr (by decide) rfl (k_X2_addToken_1 l adK adV dC dI cy ad B (by omega) (by omega) qr s1   qr hqr 16 w83 H.size hT ) (cwV 1 hC.2.2.2.2 gX3_readFact_X2_addToken rfl rfl rfl (by decide +kernel) ⟨Nat.le_of_ble_eq_true rfl, Nat.le_of_ble_eq_true rfl⟩) rfl hl.1 rfl (Nat.le_of_ble_eq_true rfl) dX3_readFact_71 (fun w91 H locs hp90 hw => ?_)
        obtain ⟨hT, k92, hg95⟩ := hp90
        have hF := hF.tr k92 (by decide)
        have c96 := k92.gi kC_at1 (by decide) c88
        obtain ⟨x93, c94, rx93, tx93⟩ := hg95
        refine lv_goto (tgt := 160) hx hb dX3_readFact_74 (by decide) ?_
        exact J160 v41_2 0 H locs ls w91 (show 0 ≤ v41_2.toInt by omega) (show v41_2.toInt ≤ 1 by omega) (by decide) (by decide)  hw hT hF  (lv_sub hl [2, 3, 4, 1] rfl)
      · refine lv_istore (lv' := [(4, .int r66), (3, .int 0), (0, .ref (ad 3)), (1, .int 4), (2, .int v41_2)]) hx hb dX3_readFact_59 hl (by decide) rfl (fun ls hl => ?_)
        refine lv_aload_n hx hb dX3_readFact_61 rfl (lv_at hl 2 rfl) ?_
        refine tk_Vv hC hK hw hT hA hE hSR kC_at3 (by decide) rfl (k_X3_readSum_3 l adK adV dC dI cy ad B (by omega) (by omega) qr s1 hqr   w68 H.size hT ) (cwV 0 hC.2.2.2.2 gX3_readFact_X3_readSum rfl rfl rfl (by decide +kernel) ⟨Nat.le_of_ble_eq_true rfl, Nat.le_of_ble_eq_true rfl⟩) rfl hl.1 rfl (Nat.le_of_ble_eq_true rfl) dX3_readFact_62 (fun w99 H locs hp98 hw => ?_)
        obtain ⟨hT, k100, hg101⟩ := hp98
        have hF := hF.tr k100 (by decide)
        have c102 := k100.gi kC_at1 (by decide) c75
        clear hg101
        refine lv_aload_n hx hb dX3_readFact_65 rfl (lv_at hl 2 rfl) ?_
        refine tk_getQ hC hK hw hT hqr (by decide) hinX3 kC_at3 (by decide) rfl 1 (by decide) (List.mem_of_getElem? (i := 2) rfl) rfl rfl dX3_readFact_66 ?_
        refine lv_iload hx hb dX3_readFact_69 (lv_at hl 0 rfl) ?_
        refine tk_Vv hC hK hw hT hA hE hSR hqr (by decide) rfl (k_X2_addToken_1 l adK adV dC dI cy ad B (by omega) (by omega) qr s1   qr hqr r66 w99 H.size hT ) (cwV 1 hC.2.2.2.2 gX3_readFact_X2_addToken rfl rfl rfl (by decide +kernel) ⟨Nat.le_of_ble_eq_true rfl, Nat.le_of_ble_eq_true rfl⟩) rfl hl.1 rfl (Nat.le_of_ble_eq_true rfl) dX3_readFact_71 (fun w105 H locs hp104 hw => ?_)
        obtain ⟨hT, k106, hg109⟩ := hp104
        have hF := hF.tr k106 (by decide)
        have c110 := k106.gi kC_at1 (by decide) c102
        obtain ⟨x107, c108, rx107, tx107⟩ := hg109
        refine lv_goto (tgt := 160) hx hb dX3_readFact_74 (by decide) ?_
        exact J160 v41_2 0 H locs ls w105 (show 0 ≤ v41_2.toInt by omega) (show v41_2.toInt ≤ 1 by omega) (by decide) (by decide)  hw hT hF  (lv_sub hl [2, 3, 4, 1] rfl)
  refine lv_aload_n hx hb dX3_readFact_0 rfl (lv_at hl 0 rfl) ?_
  refine tk_getA hC hK hw hT hinX3 kC_at3 (by decide) rfl 0 (by decide) (List.mem_of_getElem? (i := 1) rfl) rfl rfl dX3_readFact_1 ?_
  refine tk_Vi hC hK hw hT hA hE hSR kC_at1 (by decide) rfl (k_X6_isFaulty_2 l adK adV dC dI cy ad B (by omega) (by omega) qr s1    w0 s.heap.size hT cf0_) (cwV 0 hC.2.2.2.2 gX3_readFact_X6_isFaulty rfl rfl rfl (by decide +kernel) ⟨Nat.le_of_ble_eq_true rfl, Nat.le_of_ble_eq_true rfl⟩) rfl hl.1 rfl (Nat.le_of_ble_eq_true rfl) dX3_readFact_4 (fun r111 w113 H locs hp112 hw => ?_)
  obtain ⟨hT, k114, hg117⟩ := hp112
  have hF := hF.tr k114 (by decide)
  have c118 := k114.gi kC_at1 (by decide) cf0_
  obtain ⟨rfl, ⟨x115, c116, rx115, tx115⟩⟩ := hg117
  have ex115 : x115.toInt = (0 : Int) := by rw [show x115 = 0 from c116.symm.trans c118]; decide
  refine lv_if_eq (tgt := 11) hx hb dX3_readFact_7 (by decide) (fun _ => ?_) (fun c => absurd (by decide) c)
  refine lv_aload_n hx hb dX3_readFact_11 rfl (lv_at hl 0 rfl) ?_
  refine tk_getA hC hK hw hT hinX3 kC_at3 (by decide) rfl 0 (by decide) (List.mem_of_getElem? (i := 1) rfl) rfl rfl dX3_readFact_12 ?_
  refine va_ldcS hx hb hC.2.2.2.1 hSR.2.2.2.2.1 dX3_readFact_15 ?_
  refine tk_Vi hC hK hw hT hA hE hSR kC_at1 (by decide) rfl (k_X6_takeWord_4 l adK adV dC dI cy ad B (by omega) (by omega) qr s1    w113 H.size hT ) (cwV 1 hC.2.2.2.2 gX3_readFact_X6_takeWord rfl rfl rfl (by decide +kernel) ⟨Nat.le_of_ble_eq_true rfl, Nat.le_of_ble_eq_true rfl⟩) rfl hl.1 rfl (Nat.le_of_ble_eq_true rfl) dX3_readFact_17 (fun r119 w121 H locs hp120 hw => ?_)
  obtain ⟨hT, k122, hg125⟩ := hp120
  have hF := hF.tr k122 (by decide)
  have c126 := k122.gi kC_at1 (by decide) c118
  rcases hg125 with rfl | ⟨rfl, ⟨x123, c124, rx123, tx123⟩⟩
  · refine lv_istore_n (lv' := [(2, .int 0), (0, .ref (ad 3)), (1, .int 4)]) hx hb dX3_readFact_20 rfl hl (by decide) rfl (fun ls hl => ?_)
    refine lv_iload_n hx hb dX3_readFact_21 rfl (lv_at hl 0 rfl) ?_
    refine lv_if_ne (tgt := 41) hx hb dX3_readFact_22 (by decide) (fun c => absurd (by decide) c) (fun _ => ?_)
    refine lv_aload_n hx hb dX3_readFact_25 rfl (lv_at hl 1 rfl) ?_
    refine tk_getA hC hK hw hT hinX3 kC_at3 (by decide) rfl 0 (by decide) (List.mem_of_getElem? (i := 1) rfl) rfl rfl dX3_readFact_26 ?_
    refine lv_bipush (v := 91) hx hb dX3_readFact_29 (by decide) ?_
    refine tk_Vi hC hK hw hT hA hE hSR kC_at1 (by decide) rfl (k_X6_takeByte_2 l adK adV dC dI cy ad B (by omega) (by omega) qr s1    w121 H.size hT ) (cwV 1 hC.2.2.2.2 gX3_readFact_X6_takeByte rfl rfl rfl (by decide +kernel) ⟨Nat.le_of_ble_eq_true rfl, Nat.le_of_ble_eq_true rfl⟩) rfl hl.1 rfl (Nat.le_of_ble_eq_true rfl) dX3_readFact_31 (fun r127 w129 H locs hp128 hw => ?_)
    obtain ⟨hT, k130, hg135⟩ := hp128
    have hF := hF.tr k130 (by decide)
    have c136 := k130.gi kC_at1 (by decide) c126
    rcases hg135 with rfl | ⟨rfl, ⟨x131, c132, rx131, tx131⟩, ⟨x133, c134, rx133, tx133⟩⟩
    · refine lv_if_eq (tgt := 41) hx hb dX3_readFact_34 (by decide) (fun _ => ?_) (fun c => absurd (by decide) c)
      exact J41 0 H locs ls w129 (by decide) (by decide)  hw hT hF c136 (lv_sub hl [1, 2, 0] rfl)
    · refine lv_if_eq (tgt := 41) hx hb dX3_readFact_34 (by decide) (fun c => absurd c (by decide)) (fun _ => ?_)
      refine lv_iconst (v := 1) hx hb dX3_readFact_37 (by decide) ?_
      refine lv_goto (tgt := 42) hx hb dX3_readFact_38 (by decide) ?_
      refine lv_istore_n (lv' := [(3, .int 1), (2, .int 0), (0, .ref (ad 3)), (1, .int 4)]) hx hb dX3_readFact_42 rfl hl (by decide) rfl (fun ls hl => ?_)
      refine lv_iload_n hx hb dX3_readFact_43 rfl (lv_at hl 1 rfl) ?_
      refine lv_if_ne (tgt := 77) hx hb dX3_readFact_44 (by decide) (fun c => absurd (by decide) c) (fun _ => ?_)
      refine lv_iload_n hx hb dX3_readFact_47 rfl (lv_at hl 0 rfl) ?_
      refine lv_if_ne (tgt := 77) hx hb dX3_readFact_48 (by decide) (fun _ => ?_) (fun c => absurd c (by decide))
      exact J77 0 1 H locs ls w129 (by decide) (by decide) (by decide) (by decide)  hw hT hF c136 (lv_sub hl [2, 3, 1, 0] rfl)
  · refine lv_istore_n (lv' := [(2, .int 1), (0, .ref (ad 3)), (1, .int 4)]) hx hb dX3_readFact_20 rfl hl (by decide) rfl (fun ls hl => ?_)
    refine lv_iload_n hx hb dX3_readFact_21 rfl (lv_at hl 0 rfl) ?_
    refine lv_if_ne (tgt := 41) hx hb dX3_readFact_22 (by decide) (fun _ => ?_) (fun c => absurd c (by decide))
    exact J41 1 H locs ls w121 (by decide) (by decide)  hw hT hF c126 (lv_sub hl [1, 2, 0] rfl)
abbrev P_X3_readTest_5 (ad : Nat → Nat) (cy : Nat → ClassId) (B : Int) (qr : Nat) (s1 : Int)  (w0 : va_W) : va_W → Prop := fun u => TW ksC ad cy B qr s1 u ∧ FE ksC [(2, 3, 3), (3, 2, 2), (6, 1, 1), (6, 3, 3), (6, 4, 4), (22, 0, 13), (23, 0, 400)] w0 u ∧ ((True))
set_option maxHeartbeats 4000000 in
set_option maxRecDepth 100000 in
theorem k_X3_readTest_5 (l : Launch) (adK adV : Nat → Nat) (dC : Nat → ClassId) (dI : Nat → Nat → Nat) (cy : Nat → ClassId) (ad : Nat → Nat) (B : Int) (hB0 : 2147483648 ≤ B) (hB1 : B ≤ 1152921504606846976) (qr : Nat) (s1 : Int) (hqr : ksC[qr]? = some 2)  (w0 : va_W) (sz : Nat) (hT : TW ksC ad cy B qr s1 w0) (cf0_ : gi w0 1 4 = 0) : Met l yX3_readTest wsX3_readTest ({ frames := 21, cells := 0, slots := 0, locals := 517 }) (va_Pc [.ref (ad 3), .int 4] (wpreS adK adV dC dI cy sz w0)) (va_Qv (P_X3_readTest_5 ad cy B qr s1  w0) (fun u : va_W => wpost dC dI cy (va_A w0 sz) u) (va_A w0 sz)) 0 0 (va_A w0 sz) := by
  refine Met.ofW (cc := cX3_readTest) (maxL := 4) (ret := none) (by decide) rfl ?_
  intro p e s m args below meth c s₁ Bk hml hv
  obtain ⟨rfl, ⟨hsz, hP, hK, hD0⟩, hE, hSR⟩ := hv
  have hx := Bk.exec
  have hb := Bk.bytes
  have hr := Bk.returns
  have hlocks := Bk.notSynchronized
  have hC : CallFix p m c cX3_readTest 4 s _ wsX3_readTest RX3 := ⟨hx, hb, hml, findClass_of_methodNamed Bk.named, atoms_spec (ws := wsX3_readTest) Bk.pre⟩
  subst hsz
  have hD := hD0.self (sz := s.heap.size)
  generalize hAe : va_A w0 s.heap.size = A at hD hE ⊢
  have hA : ∀ q : Nat, s.heap.size ≤ q → A q := fun q h => by rw [← hAe]; exact Or.inr h
  have hw : Wd dC dI A s.heap s.heap [] w0 := ⟨hP, hD, va_S.rf⟩
  have hF : FE ksC [(2, 3, 3), (3, 2, 2), (6, 1, 1), (6, 3, 3), (6, 4, 4), (22, 0, 13), (23, 0, 400)] w0 w0 := FE.rf
  have hl := lv_entry ([.ref (ad 3), .int 4]) (n := 4) (Nat.le_of_ble_eq_true rfl)
  rw [lg_entry_eq]
  generalize (lg_sl ([.ref (ad 3), .int 4]) ++ List.replicate (4 - (lg_sl ([.ref (ad 3), .int 4])).length) Slot.unset).toArray = ls at hl ⊢
  have hl : lv_has ls 4 [(0, .ref (ad 3)), (1, .int 4)] := hl
  generalize hloc : ([] : List Loc) = locs at hw ⊢
  have hinX3 : ∀ w ∈ u_ws RX3 TX3 3, w ∈ wsX3_readTest := fun _ h => List.mem_cons_of_mem _ (List.mem_append_left _ (List.mem_append_left _ (List.mem_append_right _ (h))))
  have J86 : ∀ (v86_2 : Int32) (v86_3 : Int32) (H : Heap) (locs : List Loc) (ls : Array Slot) (w1 : va_W), (-1) ≤ v86_2.toInt → v86_2.toInt ≤ 21 → 0 ≤ v86_3.toInt → v86_3.toInt ≤ 400 → Wd dC dI A s.heap H locs w1 → TW ksC ad cy B qr s1 w1 → FE ksC [(2, 3, 3), (3, 2, 2), (6, 1, 1), (6, 3, 3), (6, 4, 4), (22, 0, 13), (23, 0, 400)] w0 w1 → lv_has ls 4 [(0, .ref (ad 3)), (1, .int 4), (2, .int v86_2), (3, .int v86_3)] → W p l e ({ frames := 21, cells := 0, slots := 0, locals := 517 }) s m (List.toArray [.ref (ad 3), .int 4]) below meth c H locs 0 0 (MQ below (va_Qv (P_X3_readTest_5 ad cy B qr s1  w0) (fun u : va_W => wpost dC dI cy A u) A) (List.toArray [.ref (ad 3), .int 4]) s 0 0 A) (F0 m 86 ls []) := by
    intro v86_2 v86_3 H locs ls w1 r2 t3 r4 t5 hw hT hF hl
    refine lv_aload_n hx hb dX3_readTest_86 rfl (lv_at hl 0 rfl) ?_
    refine lv_iload_n hx hb dX3_readTest_87 rfl (lv_at hl 2 rfl) ?_
    refine tk_Vv hC hK hw hT hA hE hSR kC_at3 (by decide) rfl (k_X3_addWaiting_1 l adK adV dC dI cy ad B (by omega) (by omega) qr s1 hqr  v86_2 w1 H.size hT ) (cwV 1 hC.2.2.2.2 gX3_readTest_X3_addWaiting rfl rfl rfl (by decide +kernel) ⟨Nat.le_of_ble_eq_true rfl, Nat.le_of_ble_eq_true rfl⟩) rfl hl.1 rfl (Nat.le_of_ble_eq_true rfl) dX3_readTest_88 (fun w8 H locs hp7 hw => ?_)
    obtain ⟨hT, k9, hg10⟩ := hp7
    have hF := hF.tr k9 (by decide)
    clear hg10
    exact tk_vret hC hr hlocks hK ⟨hT, hF, trivial⟩ hw dX3_readTest_91
  have L9 : ∀ (n9 : Nat) (v9_2 : Int32) (v9_3 : Int32) (H : Heap) (locs : List Loc) (ls : Array Slot) (w11 : va_W), (-1) ≤ v9_2.toInt → v9_2.toInt ≤ 21 → 0 ≤ v9_3.toInt → v9_3.toInt ≤ 400 → (400 - v9_3.toInt).toNat < n9 → Wd dC dI A s.heap H locs w11 → TW ksC ad cy B qr s1 w11 → FE ksC [(2, 3, 3), (3, 2, 2), (6, 1, 1), (6, 3, 3), (6, 4, 4), (22, 0, 13), (23, 0, 400)] w0 w11 → lv_has ls 4 [(0, .ref (ad 3)), (1, .int 4), (2, .int v9_2), (3, .int v9_3)] → W p l e ({ frames := 21, cells := 0, slots := 0, locals := 517 }) s m (List.toArray [.ref (ad 3), .int 4]) below meth c H locs 0 0 (MQ below (va_Qv (P_X3_readTest_5 ad cy B qr s1  w0) (fun u : va_W => wpost dC dI cy A u) A) (List.toArray [.ref (ad 3), .int 4]) s 0 0 A) (F0 m 9 ls []) := by
    intro n9
    induction n9 with
    | zero => intro v9_2 v9_3 H locs ls w11 r12 t13 r14 t15 hm9 hw hT hF hl; omega
    | succ n9 ih9 =>
      intro v9_2 v9_3 H locs ls w11 r12 t13 r14 t15 hm9 hw hT hF hl
      have J80 : ∀ (v80_2 : Int32) (H : Heap) (locs : List Loc) (ls : Array Slot) (w16 : va_W), (-1) ≤ v80_2.toInt → v80_2.toInt ≤ 21 → 0 ≤ v9_3.toInt → v9_3.toInt ≤ 399 → Wd dC dI A s.heap H locs w16 → TW ksC ad cy B qr s1 w16 → FE ksC [(2, 3, 3), (3, 2, 2), (6, 1, 1), (6, 3, 3), (6, 4, 4), (22, 0, 13), (23, 0, 400)] w0 w16 → lv_has ls 4 [(0, .ref (ad 3)), (1, .int 4), (2, .int v80_2), (3, .int v9_3)] → W p l e ({ frames := 21, cells := 0, slots := 0, locals := 517 }) s m (List.toArray [.ref (ad 3), .int 4]) below meth c H locs 0 0 (MQ below (va_Qv (P_X3_readTest_5 ad cy B qr s1  w0) (fun u : va_W => wpost dC dI cy A u) A) (List.toArray [.ref (ad 3), .int 4]) s 0 0 A) (F0 m 80 ls []) := by
        intro v80_2 H locs ls w16 r17 t18 r19 t20 hw hT hF hl
        obtain ⟨x21, ex21⟩ : ∃ y : Int32, y = v9_3 + Int32.ofInt 1 := ⟨_, rfl⟩
        refine lv_iinc (v := x21) (lv' := [(3, .int x21), (0, .ref (ad 3)), (1, .int 4), (2, .int v80_2)]) hx hb dX3_readTest_80 hl (k := 3) rfl ex21.symm (by decide) rfl (fun ls hl => ?_)
        have ex21 : x21.toInt = v9_3.toInt + 1 := by rw [ex21]; exact wk_add (y := 1) (show -2147483648 ≤ v9_3.toInt + 1 by omega) (show v9_3.toInt + 1 ≤ 2147483647 by omega)
        refine lv_goto (tgt := 9) hx hb dX3_readTest_83 (by decide) ?_
        exact ih9 v80_2 x21 H locs ls w16 (show (-1) ≤ v80_2.toInt by omega) (show v80_2.toInt ≤ 21 by omega) (show 0 ≤ x21.toInt by omega) (show x21.toInt ≤ 400 by omega) (show (400 - x21.toInt).toNat < n9 by omega) hw hT hF  (lv_sub hl [1, 2, 3, 0] rfl)
      refine lv_iload_n hx hb dX3_readTest_9 rfl (lv_at hl 3 rfl) ?_
      refine lv_sipush (v := 400) hx hb dX3_readTest_10 (by decide) ?_
      refine lv_icmp_ge (tgt := 86) hx hb dX3_readTest_13 (by decide) (fun c22 => ?_) (fun c22 => ?_)
      · have c22 : (400 : Int) ≤ v9_3.toInt := wk_le.mp c22
        exact J86 v9_2 v9_3 H locs ls w11 (show (-1) ≤ v9_2.toInt by omega) (show v9_2.toInt ≤ 21 by omega) (show 0 ≤ v9_3.toInt by omega) (show v9_3.toInt ≤ 400 by omega)  hw hT hF  (lv_sub hl [0, 1, 2, 3] rfl)
      · have c22 : v9_3.toInt < (400 : Int) := wk_leF c22
        refine lv_aload_n hx hb dX3_readTest_16 rfl (lv_at hl 0 rfl) ?_
        refine tk_getA hC hK hw hT hinX3 kC_at3 (by decide) rfl 0 (by decide) (List.mem_of_getElem? (i := 1) rfl) rfl rfl dX3_readTest_17 ?_
        refine tk_Vi hC hK hw hT hA hE hSR kC_at1 (by decide) rfl (k_X6_isFaulty_1 l adK adV dC dI cy ad B (by omega) (by omega) qr s1    w11 H.size hT ) (cwV 0 hC.2.2.2.2 gX3_readTest_X6_isFaulty rfl rfl rfl (by decide +kernel) ⟨Nat.le_of_ble_eq_true rfl, Nat.le_of_ble_eq_true rfl⟩) rfl hl.1 rfl (Nat.le_of_ble_eq_true rfl) dX3_readTest_20 (fun r23 w25 H locs hp24 hw => ?_)
        obtain ⟨hT, k26, hg31⟩ := hp24
        have hF := hF.tr k26 (by decide)
        rcases hg31 with ⟨rfl, ⟨x27, c28, rx27, tx27⟩⟩ | ⟨rfl, ⟨x29, c30, rx29, tx29⟩⟩
        · refine lv_if_ne (tgt := 86) hx hb dX3_readTest_23 (by decide) (fun c => absurd (by decide) c) (fun _ => ?_)
          refine lv_aload_n hx hb dX3_readTest_26 rfl (lv_at hl 0 rfl) ?_
          refine tk_getA hC hK hw hT hinX3 kC_at3 (by decide) rfl 0 (by decide) (List.mem_of_getElem? (i := 1) rfl) rfl rfl dX3_readTest_27 ?_
          refine va_ldcS hx hb hC.2.2.2.1 hSR.2.2.2.2.2.2.1 dX3_readTest_30 ?_
          refine tk_Vi hC hK hw hT hA hE hSR kC_at1 (by decide) rfl (k_X6_takeWord_2 l adK adV dC dI cy ad B (by omega) (by omega) qr s1    w25 H.size hT ) (cwV 1 hC.2.2.2.2 gX3_readTest_X6_takeWord rfl rfl rfl (by decide +kernel) ⟨Nat.le_of_ble_eq_true rfl, Nat.le_of_ble_eq_true rfl⟩) rfl hl.1 rfl (Nat.le_of_ble_eq_true rfl) dX3_readTest_32 (fun r32 w34 H locs hp33 hw => ?_)
          obtain ⟨hT, k35, hg38⟩ := hp33
          have hF := hF.tr k35 (by decide)
          have c39 := k35.gi kC_at1 (by decide) c28
          rcases hg38 with rfl | ⟨rfl, ⟨x36, c37, rx36, tx36⟩⟩
          · refine lv_if_eq (tgt := 55) hx hb dX3_readTest_35 (by decide) (fun _ => ?_) (fun c => absurd (by decide) c)
            refine lv_aload_n hx hb dX3_readTest_55 rfl (lv_at hl 0 rfl) ?_
            refine tk_getA hC hK hw hT hinX3 kC_at3 (by decide) rfl 0 (by decide) (List.mem_of_getElem? (i := 1) rfl) rfl rfl dX3_readTest_56 ?_
            refine va_ldcS hx hb hC.2.2.2.1 hSR.2.2.2.2.2.2.2 dX3_readTest_59 ?_
            refine tk_Vi hC hK hw hT hA hE hSR kC_at1 (by decide) rfl (k_X6_takeWord_3 l adK adV dC dI cy ad B (by omega) (by omega) qr s1    w34 H.size hT ) (cwV 1 hC.2.2.2.2 gX3_readTest_X6_takeWord rfl rfl rfl (by decide +kernel) ⟨Nat.le_of_ble_eq_true rfl, Nat.le_of_ble_eq_true rfl⟩) rfl hl.1 rfl (Nat.le_of_ble_eq_true rfl) dX3_readTest_61 (fun r40 w42 H locs hp41 hw => ?_)
            obtain ⟨hT, k43, hg46⟩ := hp41
            have hF := hF.tr k43 (by decide)
            have c47 := k43.gi kC_at1 (by decide) c39
            rcases hg46 with rfl | ⟨rfl, ⟨x44, c45, rx44, tx44⟩⟩
            · refine lv_if_eq (tgt := 86) hx hb dX3_readTest_64 (by decide) (fun _ => ?_) (fun c => absurd (by decide) c)
              exact J86 v9_2 v9_3 H locs ls w42 (show (-1) ≤ v9_2.toInt by omega) (show v9_2.toInt ≤ 21 by omega) (show 0 ≤ v9_3.toInt by omega) (show v9_3.toInt ≤ 400 by omega)  hw hT hF  (lv_sub hl [0, 1, 2, 3] rfl)
            · refine lv_if_eq (tgt := 86) hx hb dX3_readTest_64 (by decide) (fun c => absurd c (by decide)) (fun _ => ?_)
              refine lv_aload_n hx hb dX3_readTest_67 rfl (lv_at hl 0 rfl) ?_
              refine lv_iload_n hx hb dX3_readTest_68 rfl (lv_at hl 2 rfl) ?_
              refine tk_Vv hC hK hw hT hA hE hSR kC_at3 (by decide) rfl (k_X3_addWaiting_1 l adK adV dC dI cy ad B (by omega) (by omega) qr s1 hqr  v9_2 w42 H.size hT ) (cwV 1 hC.2.2.2.2 gX3_readTest_X3_addWaiting rfl rfl rfl (by decide +kernel) ⟨Nat.le_of_ble_eq_true rfl, Nat.le_of_ble_eq_true rfl⟩) rfl hl.1 rfl (Nat.le_of_ble_eq_true rfl) dX3_readTest_69 (fun w50 H locs hp49 hw => ?_)
              obtain ⟨hT, k51, hg52⟩ := hp49
              have hF := hF.tr k51 (by decide)
              have c53 := k51.gi kC_at1 (by decide) c47
              have c54 := k51.gi kC_at1 (by decide) c45
              clear hg52
              refine lv_bipush (v := 21) hx hb dX3_readTest_72 (by decide) ?_
              refine lv_istore_n (lv' := [(2, .int 21), (0, .ref (ad 3)), (1, .int 4), (3, .int v9_3)]) hx hb dX3_readTest_74 rfl hl (by decide) rfl (fun ls hl => ?_)
              refine lv_aload_n hx hb dX3_readTest_75 rfl (lv_at hl 1 rfl) ?_
              refine lv_iload_n hx hb dX3_readTest_76 rfl (lv_at hl 2 rfl) ?_
              refine tk_Vv hC hK hw hT hA hE hSR kC_at3 (by decide) rfl (k_X3_readFact_5 l adK adV dC dI cy ad B (by omega) (by omega) qr s1 hqr   w50 H.size hT (c53.trans (wk_eq.mpr (show x27.toInt = 0 by omega)))) (cwV 1 hC.2.2.2.2 gX3_readTest_X3_readFact rfl rfl rfl (by decide +kernel) ⟨Nat.le_of_ble_eq_true rfl, Nat.le_of_ble_eq_true rfl⟩) rfl hl.1 rfl (Nat.le_of_ble_eq_true rfl) dX3_readTest_77 (fun w57 H locs hp56 hw => ?_)
              obtain ⟨hT, k58, hg59⟩ := hp56
              have hF := hF.tr k58 (by decide)
              clear hg59
              exact J80 21 H locs ls w57 (by decide) (by decide) (show 0 ≤ v9_3.toInt by omega) (show v9_3.toInt ≤ 399 by omega)  hw hT hF  (lv_sub hl [1, 2, 0, 3] rfl)
          · refine lv_if_eq (tgt := 55) hx hb dX3_readTest_35 (by decide) (fun c => absurd c (by decide)) (fun _ => ?_)
            refine lv_aload_n hx hb dX3_readTest_38 rfl (lv_at hl 0 rfl) ?_
            refine lv_iload_n hx hb dX3_readTest_39 rfl (lv_at hl 1 rfl) ?_
            refine tk_Vv hC hK hw hT hA hE hSR kC_at3 (by decide) rfl (k_X3_readFact_5 l adK adV dC dI cy ad B (by omega) (by omega) qr s1 hqr   w34 H.size hT (c39.trans (wk_eq.mpr (show x27.toInt = 0 by omega)))) (cwV 1 hC.2.2.2.2 gX3_readTest_X3_readFact rfl rfl rfl (by decide +kernel) ⟨Nat.le_of_ble_eq_true rfl, Nat.le_of_ble_eq_true rfl⟩) rfl hl.1 rfl (Nat.le_of_ble_eq_true rfl) dX3_readTest_40 (fun w62 H locs hp61 hw => ?_)
            obtain ⟨hT, k63, hg64⟩ := hp61
            have hF := hF.tr k63 (by decide)
            clear hg64
            refine lv_aload_n hx hb dX3_readTest_43 rfl (lv_at hl 0 rfl) ?_
            refine tk_getQ hC hK hw hT hqr (by decide) hinX3 kC_at3 (by decide) rfl 1 (by decide) (List.mem_of_getElem? (i := 2) rfl) rfl rfl dX3_readTest_44 ?_
            refine lv_bipush (v := 20) hx hb dX3_readTest_47 (by decide) ?_
            refine tk_Vv hC hK hw hT hA hE hSR hqr (by decide) rfl (k_X2_addToken_1 l adK adV dC dI cy ad B (by omega) (by omega) qr s1   qr hqr 20 w62 H.size hT ) (cwV 1 hC.2.2.2.2 gX3_readTest_X2_addToken rfl rfl rfl (by decide +kernel) ⟨Nat.le_of_ble_eq_true rfl, Nat.le_of_ble_eq_true rfl⟩) rfl hl.1 rfl (Nat.le_of_ble_eq_true rfl) dX3_readTest_49 (fun w67 H locs hp66 hw => ?_)
            obtain ⟨hT, k68, hg71⟩ := hp66
            have hF := hF.tr k68 (by decide)
            obtain ⟨x69, c70, rx69, tx69⟩ := hg71
            refine lv_goto (tgt := 80) hx hb dX3_readTest_52 (by decide) ?_
            exact J80 v9_2 H locs ls w67 (show (-1) ≤ v9_2.toInt by omega) (show v9_2.toInt ≤ 21 by omega) (show 0 ≤ v9_3.toInt by omega) (show v9_3.toInt ≤ 399 by omega)  hw hT hF  (lv_sub hl [0, 1, 2, 3] rfl)
        · refine lv_if_ne (tgt := 86) hx hb dX3_readTest_23 (by decide) (fun _ => ?_) (fun c => absurd c (by decide))
          exact J86 v9_2 v9_3 H locs ls w25 (show (-1) ≤ v9_2.toInt by omega) (show v9_2.toInt ≤ 21 by omega) (show 0 ≤ v9_3.toInt by omega) (show v9_3.toInt ≤ 400 by omega)  hw hT hF  (lv_sub hl [0, 1, 2, 3] rfl)
  refine lv_aload_n hx hb dX3_readTest_0 rfl (lv_at hl 0 rfl) ?_
  refine lv_iload_n hx hb dX3_readTest_1 rfl (lv_at hl 1 rfl) ?_
  refine tk_Vv hC hK hw hT hA hE hSR kC_at3 (by decide) rfl (k_X3_readFact_5 l adK adV dC dI cy ad B (by omega) (by omega) qr s1 hqr   w0 s.heap.size hT cf0_) (cwV 1 hC.2.2.2.2 gX3_readTest_X3_readFact rfl rfl rfl (by decide +kernel) ⟨Nat.le_of_ble_eq_true rfl, Nat.le_of_ble_eq_true rfl⟩) rfl hl.1 rfl (Nat.le_of_ble_eq_true rfl) dX3_readTest_2 (fun w74 H locs hp73 hw => ?_)
  obtain ⟨hT, k75, hg76⟩ := hp73
  have hF := hF.tr k75 (by decide)
  clear hg76
  refine lv_iconst (v := (-1)) hx hb dX3_readTest_5 (by decide) ?_
  refine lv_istore_n (lv' := [(2, .int (-1)), (0, .ref (ad 3)), (1, .int 4)]) hx hb dX3_readTest_6 rfl hl (by decide) rfl (fun ls hl => ?_)
  refine lv_iconst (v := 0) hx hb dX3_readTest_7 (by decide) ?_
  refine lv_istore_n (lv' := [(3, .int 0), (2, .int (-1)), (0, .ref (ad 3)), (1, .int 4)]) hx hb dX3_readTest_8 rfl hl (by decide) rfl (fun ls hl => ?_)
  exact L9 ((400 - (0 : Int)).toNat + 1) (-1) 0 H locs ls w74 (by decide) (by decide) (by decide) (by decide) (Nat.lt_succ_self _) hw hT hF  (lv_sub hl [2, 3, 1, 0] rfl)
abbrev P_X3_readFact_4 (ad : Nat → Nat) (cy : Nat → ClassId) (B : Int) (qr : Nat) (s1 : Int)  (w0 : va_W) : va_W → Prop := fun u => TW ksC ad cy B qr s1 u ∧ FE ksC [(2, 3, 3), (3, 2, 2), (6, 1, 1), (6, 3, 3), (6, 4, 4), (22, 0, 13), (23, 0, 400)] w0 u ∧ ((True))
set_option maxHeartbeats 4000000 in
set_option maxRecDepth 100000 in
theorem k_X3_readFact_4 (l : Launch) (adK adV : Nat → Nat) (dC : Nat → ClassId) (dI : Nat → Nat → Nat) (cy : Nat → ClassId) (ad : Nat → Nat) (B : Int) (hB0 : 2147483648 ≤ B) (hB1 : B ≤ 1152921504606846976) (qr : Nat) (s1 : Int) (hqr : ksC[qr]? = some 2)  (w0 : va_W) (sz : Nat) (hT : TW ksC ad cy B qr s1 w0) (cf0_ : gi w0 1 4 = 0) : Met l yX3_readFact wsX3_readFact ({ frames := 22, cells := 0, slots := 0, locals := 540 }) (va_Pc [.ref (ad 3), .int 3] (wpreS adK adV dC dI cy sz w0)) (va_Qv (P_X3_readFact_4 ad cy B qr s1  w0) (fun u : va_W => wpost dC dI cy (va_A w0 sz) u) (va_A w0 sz)) 0 0 (va_A w0 sz) := by
  refine Met.ofW (cc := cX3_readFact) (maxL := 5) (ret := none) (by decide) rfl ?_
  intro p e s m args below meth c s₁ Bk hml hv
  obtain ⟨rfl, ⟨hsz, hP, hK, hD0⟩, hE, hSR⟩ := hv
  have hx := Bk.exec
  have hb := Bk.bytes
  have hr := Bk.returns
  have hlocks := Bk.notSynchronized
  have hC : CallFix p m c cX3_readFact 5 s _ wsX3_readFact RX3 := ⟨hx, hb, hml, findClass_of_methodNamed Bk.named, atoms_spec (ws := wsX3_readFact) Bk.pre⟩
  subst hsz
  have hD := hD0.self (sz := s.heap.size)
  generalize hAe : va_A w0 s.heap.size = A at hD hE ⊢
  have hA : ∀ q : Nat, s.heap.size ≤ q → A q := fun q h => by rw [← hAe]; exact Or.inr h
  have hw : Wd dC dI A s.heap s.heap [] w0 := ⟨hP, hD, va_S.rf⟩
  have hF : FE ksC [(2, 3, 3), (3, 2, 2), (6, 1, 1), (6, 3, 3), (6, 4, 4), (22, 0, 13), (23, 0, 400)] w0 w0 := FE.rf
  have hl := lv_entry ([.ref (ad 3), .int 3]) (n := 5) (Nat.le_of_ble_eq_true rfl)
  rw [lg_entry_eq]
  generalize (lg_sl ([.ref (ad 3), .int 3]) ++ List.replicate (5 - (lg_sl ([.ref (ad 3), .int 3])).length) Slot.unset).toArray = ls at hl ⊢
  have hl : lv_has ls 5 [(0, .ref (ad 3)), (1, .int 3)] := hl
  generalize hloc : ([] : List Loc) = locs at hw ⊢
  have hinX3 : ∀ w ∈ u_ws RX3 TX3 3, w ∈ wsX3_readFact := fun _ h => List.mem_cons_of_mem _ (List.mem_append_left _ (List.mem_append_left _ (List.mem_append_right _ (h))))
  have J160 : ∀ (v160_2 : Int32) (v160_3 : Int32) (H : Heap) (locs : List Loc) (ls : Array Slot) (w1 : va_W), 0 ≤ v160_2.toInt → v160_2.toInt ≤ 1 → 0 ≤ v160_3.toInt → v160_3.toInt ≤ 1 → Wd dC dI A s.heap H locs w1 → TW ksC ad cy B qr s1 w1 → FE ksC [(2, 3, 3), (3, 2, 2), (6, 1, 1), (6, 3, 3), (6, 4, 4), (22, 0, 13), (23, 0, 400)] w0 w1 → lv_has ls 5 [(0, .ref (ad 3)), (1, .int 3), (2, .int v160_2), (3, .int v160_3)] → W p l e ({ frames := 22, cells := 0, slots := 0, locals := 540 }) s m (List.toArray [.ref (ad 3), .int 3]) below meth c H locs 0 0 (MQ below (va_Qv (P_X3_readFact_4 ad cy B qr s1  w0) (fun u : va_W => wpost dC dI cy A u) A) (List.toArray [.ref (ad 3), .int 3]) s 0 0 A) (F0 m 160 ls []) := by
    intro v160_2 v160_3 H locs ls w1 r2 t3 r4 t5 hw hT hF hl
    exact tk_vret hC hr hlocks hK ⟨hT, hF, trivial⟩ hw dX3_readFact_160
  have J77 : ∀ (v77_2 : Int32) (v77_3 : Int32) (H : Heap) (locs : List Loc) (ls : Array Slot) (w6 : va_W), 0 ≤ v77_2.toInt → v77_2.toInt ≤ 1 → 0 ≤ v77_3.toInt → v77_3.toInt ≤ 1 → Wd dC dI A s.heap H locs w6 → TW ksC ad cy B qr s1 w6 → FE ksC [(2, 3, 3), (3, 2, 2), (6, 1, 1), (6, 3, 3), (6, 4, 4), (22, 0, 13), (23, 0, 400)] w0 w6 → gi w6 1 4 = 0 → lv_has ls 5 [(0, .ref (ad 3)), (1, .int 3), (2, .int v77_2), (3, .int v77_3)] → W p l e ({ frames := 22, cells := 0, slots := 0, locals := 540 }) s m (List.toArray [.ref (ad 3), .int 3]) below meth c H locs 0 0 (MQ below (va_Qv (P_X3_readFact_4 ad cy B qr s1  w0) (fun u : va_W => wpost dC dI cy A u) A) (List.toArray [.ref (ad 3), .int 3]) s 0 0 A) (F0 m 77 ls []) := by
    intro v77_2 v77_3 H locs ls w6 r7 t8 r9 t10 hw hT hF c11 hl
    refine lv_iload_n hx hb dX3_readFact_77 rfl (lv_at hl 1 rfl) ?_
    refine lv_bipush (v := 10) hx hb dX3_readFact_78 (by decide) ?_
    refine lv_icmp_lt (tgt := 101) hx hb dX3_readFact_80 (by decide) (fun _ => ?_) (fun c => absurd (by decide) c)
    refine lv_iload_n hx hb dX3_readFact_101 rfl (lv_at hl 2 rfl) ?_
    refine lv_if_eq (tgt := 124) hx hb dX3_readFact_102 (by decide) (fun c12 => ?_) (fun c12 => ?_)
    · have c12 : v77_2.toInt = (0 : Int) := wk_eq.mp c12
      refine lv_aload_n hx hb dX3_readFact_124 rfl (lv_at hl 0 rfl) ?_
      refine lv_iload_n hx hb dX3_readFact_125 rfl (lv_at hl 1 rfl) ?_
      refine lv_iconst (v := 1) hx hb dX3_readFact_126 (by decide) ?_
      refine lv_iadd hx hb dX3_readFact_127 ?_
      refine wk_top 4 (by decide) ?_
      refine tk_Vv hC hK hw hT hA hE hSR kC_at3 (by decide) rfl (k_X3_readTest_5 l adK adV dC dI cy ad B (by omega) (by omega) qr s1 hqr   w6 H.size hT c11) (cwV 1 hC.2.2.2.2 gX3_readFact_X3_readTest rfl rfl rfl (by decide +kernel) ⟨Nat.le_of_ble_eq_true rfl, Nat.le_of_ble_eq_true rfl⟩) rfl hl.1 rfl (Nat.le_of_ble_eq_true rfl) dX3_readFact_128 (fun w15 H locs hp14 hw => ?_)
      obtain ⟨hT, k16, hg17⟩ := hp14
      have hF := hF.tr k16 (by decide)
      clear hg17
      refine lv_aload_n hx hb dX3_readFact_131 rfl (lv_at hl 0 rfl) ?_
      refine tk_getA hC hK hw hT hinX3 kC_at3 (by decide) rfl 0 (by decide) (List.mem_of_getElem? (i := 1) rfl) rfl rfl dX3_readFact_132 ?_
      refine tk_Vi hC hK hw hT hA hE hSR kC_at1 (by decide) rfl (k_X6_isFaulty_1 l adK adV dC dI cy ad B (by omega) (by omega) qr s1    w15 H.size hT ) (cwV 0 hC.2.2.2.2 gX3_readFact_X6_isFaulty rfl rfl rfl (by decide +kernel) ⟨Nat.le_of_ble_eq_true rfl, Nat.le_of_ble_eq_true rfl⟩) rfl hl.1 rfl (Nat.le_of_ble_eq_true rfl) dX3_readFact_135 (fun r18 w20 H locs hp19 hw => ?_)
      obtain ⟨hT, k21, hg26⟩ := hp19
      have hF := hF.tr k21 (by decide)
      rcases hg26 with ⟨rfl, ⟨x22, c23, rx22, tx22⟩⟩ | ⟨rfl, ⟨x24, c25, rx24, tx24⟩⟩
      · refine lv_if_ne (tgt := 160) hx hb dX3_readFact_138 (by decide) (fun c => absurd (by decide) c) (fun _ => ?_)
        refine lv_aload_n hx hb dX3_readFact_141 rfl (lv_at hl 0 rfl) ?_
        refine tk_getA hC hK hw hT hinX3 kC_at3 (by decide) rfl 0 (by decide) (List.mem_of_getElem? (i := 1) rfl) rfl rfl dX3_readFact_142 ?_
        refine lv_bipush (v := 93) hx hb dX3_readFact_145 (by decide) ?_
        refine tk_Vi hC hK hw hT hA hE hSR kC_at1 (by decide) rfl (k_X6_takeByte_3 l adK adV dC dI cy ad B (by omega) (by omega) qr s1    w20 H.size hT ) (cwV 1 hC.2.2.2.2 gX3_readFact_X6_takeByte rfl rfl rfl (by decide +kernel) ⟨Nat.le_of_ble_eq_true rfl, Nat.le_of_ble_eq_true rfl⟩) rfl hl.1 rfl (Nat.le_of_ble_eq_true rfl) dX3_readFact_147 (fun r27 w29 H locs hp28 hw => ?_)
        obtain ⟨hT, k30, hg35⟩ := hp28
        have hF := hF.tr k30 (by decide)
        have c36 := k30.gi kC_at1 (by decide) c23
        rcases hg35 with rfl | ⟨rfl, ⟨x31, c32, rx31, tx31⟩, ⟨x33, c34, rx33, tx33⟩⟩
        · refine lv_if_ne (tgt := 160) hx hb dX3_readFact_150 (by decide) (fun c => absurd (by decide) c) (fun _ => ?_)
          refine lv_aload_n hx hb dX3_readFact_153 rfl (lv_at hl 0 rfl) ?_
          refine tk_getA hC hK hw hT hinX3 kC_at3 (by decide) rfl 0 (by decide) (List.mem_of_getElem? (i := 1) rfl) rfl rfl dX3_readFact_154 ?_
          refine tk_Vv hC hK hw hT hA hE hSR kC_at1 (by decide) rfl (k_X6_blameHere_1 l adK adV dC dI cy ad B (by omega) (by omega) qr s1    w29 H.size hT (c36.trans (wk_eq.mpr (show x22.toInt = 0 by omega)))) (cwV 0 hC.2.2.2.2 gX3_readFact_X6_blameHere rfl rfl rfl (by decide +kernel) ⟨Nat.le_of_ble_eq_true rfl, Nat.le_of_ble_eq_true rfl⟩) rfl hl.1 rfl (Nat.le_of_ble_eq_true rfl) dX3_readFact_157 (fun w39 H locs hp38 hw => ?_)
          obtain ⟨hT, k40, hg43⟩ := hp38
          have hF := hF.tr k40 (by decide)
          obtain ⟨x41, c42, rx41, tx41⟩ := hg43
          exact J160 v77_2 v77_3 H locs ls w39 (show 0 ≤ v77_2.toInt by omega) (show v77_2.toInt ≤ 1 by omega) (show 0 ≤ v77_3.toInt by omega) (show v77_3.toInt ≤ 1 by omega)  hw hT hF  (lv_sub hl [0, 1, 2, 3] rfl)
        · refine lv_if_ne (tgt := 160) hx hb dX3_readFact_150 (by decide) (fun _ => ?_) (fun c => absurd c (by decide))
          exact J160 v77_2 v77_3 H locs ls w29 (show 0 ≤ v77_2.toInt by omega) (show v77_2.toInt ≤ 1 by omega) (show 0 ≤ v77_3.toInt by omega) (show v77_3.toInt ≤ 1 by omega)  hw hT hF  (lv_sub hl [0, 1, 2, 3] rfl)
      · refine lv_if_ne (tgt := 160) hx hb dX3_readFact_138 (by decide) (fun _ => ?_) (fun c => absurd c (by decide))
        exact J160 v77_2 v77_3 H locs ls w20 (show 0 ≤ v77_2.toInt by omega) (show v77_2.toInt ≤ 1 by omega) (show 0 ≤ v77_3.toInt by omega) (show v77_3.toInt ≤ 1 by omega)  hw hT hF  (lv_sub hl [0, 1, 2, 3] rfl)
    · have c12 : ¬ v77_2.toInt = (0 : Int) := wk_eqF c12
      refine lv_aload_n hx hb dX3_readFact_105 rfl (lv_at hl 0 rfl) ?_
      refine lv_iload_n hx hb dX3_readFact_106 rfl (lv_at hl 1 rfl) ?_
      refine lv_iconst (v := 1) hx hb dX3_readFact_107 (by decide) ?_
      refine lv_iadd hx hb dX3_readFact_108 ?_
      refine wk_top 4 (by decide) ?_
      refine tk_Vv hC hK hw hT hA hE hSR kC_at3 (by decide) rfl (k_X3_readFact_5 l adK adV dC dI cy ad B (by omega) (by omega) qr s1 hqr   w6 H.size hT c11) (cwV 1 hC.2.2.2.2 gX3_readFact_X3_readFact rfl rfl rfl (by decide +kernel) ⟨Nat.le_of_ble_eq_true rfl, Nat.le_of_ble_eq_true rfl⟩) rfl hl.1 rfl (Nat.le_of_ble_eq_true rfl) dX3_readFact_109 (fun w46 H locs hp45 hw => ?_)
      obtain ⟨hT, k47, hg48⟩ := hp45
      have hF := hF.tr k47 (by decide)
      clear hg48
      refine lv_aload_n hx hb dX3_readFact_112 rfl (lv_at hl 0 rfl) ?_
      refine tk_getQ hC hK hw hT hqr (by decide) hinX3 kC_at3 (by decide) rfl 1 (by decide) (List.mem_of_getElem? (i := 2) rfl) rfl rfl dX3_readFact_113 ?_
      refine lv_bipush (v := 19) hx hb dX3_readFact_116 (by decide) ?_
      refine tk_Vv hC hK hw hT hA hE hSR hqr (by decide) rfl (k_X2_addToken_1 l adK adV dC dI cy ad B (by omega) (by omega) qr s1   qr hqr 19 w46 H.size hT ) (cwV 1 hC.2.2.2.2 gX3_readFact_X2_addToken rfl rfl rfl (by decide +kernel) ⟨Nat.le_of_ble_eq_true rfl, Nat.le_of_ble_eq_true rfl⟩) rfl hl.1 rfl (Nat.le_of_ble_eq_true rfl) dX3_readFact_118 (fun w51 H locs hp50 hw => ?_)
      obtain ⟨hT, k52, hg55⟩ := hp50
      have hF := hF.tr k52 (by decide)
      obtain ⟨x53, c54, rx53, tx53⟩ := hg55
      refine lv_goto (tgt := 160) hx hb dX3_readFact_121 (by decide) ?_
      exact J160 v77_2 v77_3 H locs ls w51 (show 0 ≤ v77_2.toInt by omega) (show v77_2.toInt ≤ 1 by omega) (show 0 ≤ v77_3.toInt by omega) (show v77_3.toInt ≤ 1 by omega)  hw hT hF  (lv_sub hl [0, 1, 2, 3] rfl)
  have J41 : ∀ (v41_2 : Int32) (H : Heap) (locs : List Loc) (ls : Array Slot) (w56 : va_W), 0 ≤ v41_2.toInt → v41_2.toInt ≤ 1 → Wd dC dI A s.heap H locs w56 → TW ksC ad cy B qr s1 w56 → FE ksC [(2, 3, 3), (3, 2, 2), (6, 1, 1), (6, 3, 3), (6, 4, 4), (22, 0, 13), (23, 0, 400)] w0 w56 → gi w56 1 4 = 0 → lv_has ls 5 [(0, .ref (ad 3)), (1, .int 3), (2, .int v41_2)] → W p l e ({ frames := 22, cells := 0, slots := 0, locals := 540 }) s m (List.toArray [.ref (ad 3), .int 3]) below meth c H locs 0 0 (MQ below (va_Qv (P_X3_readFact_4 ad cy B qr s1  w0) (fun u : va_W => wpost dC dI cy A u) A) (List.toArray [.ref (ad 3), .int 3]) s 0 0 A) (F0 m 41 ls []) := by
    intro v41_2 H locs ls w56 r57 t58 hw hT hF c59 hl
    refine lv_iconst (v := 0) hx hb dX3_readFact_41 (by decide) ?_
    refine lv_istore_n (lv' := [(3, .int 0), (0, .ref (ad 3)), (1, .int 3), (2, .int v41_2)]) hx hb dX3_readFact_42 rfl hl (by decide) rfl (fun ls hl => ?_)
    refine lv_iload_n hx hb dX3_readFact_43 rfl (lv_at hl 3 rfl) ?_
    refine lv_if_ne (tgt := 77) hx hb dX3_readFact_44 (by decide) (fun c60 => ?_) (fun c60 => ?_)
    · have c60 : ¬ v41_2.toInt = (0 : Int) := wk_eqF c60
      exact J77 v41_2 0 H locs ls w56 (show 0 ≤ v41_2.toInt by omega) (show v41_2.toInt ≤ 1 by omega) (by decide) (by decide)  hw hT hF c59 (lv_sub hl [1, 2, 3, 0] rfl)
    · have c60 : v41_2.toInt = (0 : Int) := wk_eq.mp c60
      refine lv_iload_n hx hb dX3_readFact_47 rfl (lv_at hl 0 rfl) ?_
      refine lv_if_ne (tgt := 77) hx hb dX3_readFact_48 (by decide) (fun c => absurd (by decide) c) (fun _ => ?_)
      refine lv_aload_n hx hb dX3_readFact_51 rfl (lv_at hl 1 rfl) ?_
      refine tk_Vv hC hK hw hT hA hE hSR kC_at3 (by decide) rfl (k_X3_readSum_1 l adK adV dC dI cy ad B (by omega) (by omega) qr s1 hqr   w56 H.size hT c59) (cwV 0 hC.2.2.2.2 gX3_readFact_X3_readSum rfl rfl rfl (by decide +kernel) ⟨Nat.le_of_ble_eq_true rfl, Nat.le_of_ble_eq_true rfl⟩) rfl hl.1 rfl (Nat.le_of_ble_eq_true rfl) dX3_readFact_52 (fun w63 H locs hp62 hw => ?_)
      obtain ⟨hT, k64, hg65⟩ := hp62
      have hF := hF.tr k64 (by decide)
      clear hg65
      refine lv_aload_n hx hb dX3_readFact_55 rfl (lv_at hl 1 rfl) ?_
      refine tk_Vi hC hK hw hT hA hE hSR kC_at3 (by decide) rfl (k_X3_readSign_1 l adK adV dC dI cy ad B (by omega) (by omega) qr s1    w63 H.size hT ) (cwV 0 hC.2.2.2.2 gX3_readFact_X3_readSign rfl rfl rfl (by decide +kernel) ⟨Nat.le_of_ble_eq_true rfl, Nat.le_of_ble_eq_true rfl⟩) rfl hl.1 rfl (Nat.le_of_ble_eq_true rfl) dX3_readFact_56 (fun r66 w68 H locs hp67 hw => ?_)
      obtain ⟨hT, k69, hg80⟩ := hp67
      have hF := hF.tr k69 (by decide)
      rcases hg80 with ⟨rfl, ⟨x70, c71, rx70, tx70⟩⟩ | ⟨g72, g73, ⟨x74, c75, rx74, tx74⟩, ⟨x76, c77, rx76, tx76⟩, ⟨x78, c79, rx78, tx78⟩⟩
      · refine lv_istore (lv' := [(4, .int 16), (3, .int 0), (0, .ref (ad 3)), (1, .int 3), (2, .int v41_2)]) hx hb dX3_readFact_59 hl (by decide) rfl (fun ls hl => ?_)
        refine lv_aload_n hx hb dX3_readFact_61 rfl (lv_at hl 2 rfl) ?_
        refine tk_Vv hC hK hw hT hA hE hSR kC_at3 (by decide) rfl (k_X3_readSum_2 l adK adV dC dI cy ad B (by omega) (by omega) qr s1 hqr   w68 H.size hT x70 c71 (show 1 ≤ x70.toInt by omega) (show x70.toInt ≤ 3205 by omega)) (cwV 0 hC.2.2.2.2 gX3_readFact_X3_readSum rfl rfl rfl (by decide +kernel) ⟨Nat.le_of_ble_eq_true rfl, Nat.le_of_ble_eq_true rfl⟩) rfl hl.1 rfl (Nat.le_of_ble_eq_true rfl) dX3_readFact_62 (fun w83 H locs hp82 hw => ?_)
        obtain ⟨hT, k84, hg87⟩ := hp82
        have hF := hF.tr k84 (by decide)
        have c88 := k84.gi kC_at1 (by decide) c71
        obtain ⟨x85, c86, rx85, tx85⟩ := hg87
        have ex85 : x85.toInt = x70.toInt := by rw [← c88.symm.trans c86]
        refine lv_aload_n hx hb dX3_readFact_65 rfl (lv_at hl 2 rfl) ?_
        refine tk_getQ hC hK hw hT hqr (by decide) hinX3 kC_at3 (by decide) rfl 1 (by decide) (List.mem_of_getElem? (i := 2) rfl) rfl rfl dX3_readFact_66 ?_
        refine lv_iload hx hb dX3_readFact_69 (lv_at hl 0 rfl) ?_
        refine tk_Vv hC hK hw hT hA hE hSR hqr (by decide) rfl (k_X2_addToken_1 l adK adV dC dI cy ad B (by omega) (by omega) qr s1   qr hqr 16 w83 H.size hT ) (cwV 1 hC.2.2.2.2 gX3_readFact_X2_addToken rfl rfl rfl (by decide +kernel) ⟨Nat.le_of_ble_eq_true rfl, Nat.le_of_ble_eq_true rfl⟩) rfl hl.1 rfl (Nat.le_of_ble_eq_true rfl) dX3_readFact_71 (fun w91 H locs hp90 hw => ?_)
        obtain ⟨hT, k92, hg95⟩ := hp90
        have hF := hF.tr k92 (by decide)
        have c96 := k92.gi kC_at1 (by decide) c88
        obtain ⟨x93, c94, rx93, tx93⟩ := hg95
        refine lv_goto (tgt := 160) hx hb dX3_readFact_74 (by decide) ?_
        exact J160 v41_2 0 H locs ls w91 (show 0 ≤ v41_2.toInt by omega) (show v41_2.toInt ≤ 1 by omega) (by decide) (by decide)  hw hT hF  (lv_sub hl [2, 3, 4, 1] rfl)
      · refine lv_istore (lv' := [(4, .int r66), (3, .int 0), (0, .ref (ad 3)), (1, .int 3), (2, .int v41_2)]) hx hb dX3_readFact_59 hl (by decide) rfl (fun ls hl => ?_)
        refine lv_aload_n hx hb dX3_readFact_61 rfl (lv_at hl 2 rfl) ?_
        refine tk_Vv hC hK hw hT hA hE hSR kC_at3 (by decide) rfl (k_X3_readSum_3 l adK adV dC dI cy ad B (by omega) (by omega) qr s1 hqr   w68 H.size hT ) (cwV 0 hC.2.2.2.2 gX3_readFact_X3_readSum rfl rfl rfl (by decide +kernel) ⟨Nat.le_of_ble_eq_true rfl, Nat.le_of_ble_eq_true rfl⟩) rfl hl.1 rfl (Nat.le_of_ble_eq_true rfl) dX3_readFact_62 (fun w99 H locs hp98 hw => ?_)
        obtain ⟨hT, k100, hg101⟩ := hp98
        have hF := hF.tr k100 (by decide)
        have c102 := k100.gi kC_at1 (by decide) c75
        clear hg101
        refine lv_aload_n hx hb dX3_readFact_65 rfl (lv_at hl 2 rfl) ?_
        refine tk_getQ hC hK hw hT hqr (by decide) hinX3 kC_at3 (by decide) rfl 1 (by decide) (List.mem_of_getElem? (i := 2) rfl) rfl rfl dX3_readFact_66 ?_
        refine lv_iload hx hb dX3_readFact_69 (lv_at hl 0 rfl) ?_
        refine tk_Vv hC hK hw hT hA hE hSR hqr (by decide) rfl (k_X2_addToken_1 l adK adV dC dI cy ad B (by omega) (by omega) qr s1   qr hqr r66 w99 H.size hT ) (cwV 1 hC.2.2.2.2 gX3_readFact_X2_addToken rfl rfl rfl (by decide +kernel) ⟨Nat.le_of_ble_eq_true rfl, Nat.le_of_ble_eq_true rfl⟩) rfl hl.1 rfl (Nat.le_of_ble_eq_true rfl) dX3_readFact_71 (fun w105 H locs hp104 hw => ?_)
        obtain ⟨hT, k106, hg109⟩ := hp104
        have hF := hF.tr k106 (by decide)
        have c110 := k106.gi kC_at1 (by decide) c102
        obtain ⟨x107, c108, rx107, tx107⟩ := hg109
        refine lv_goto (tgt := 160) hx hb dX3_readFact_74 (by decide) ?_
        exact J160 v41_2 0 H locs ls w105 (show 0 ≤ v41_2.toInt by omega) (show v41_2.toInt ≤ 1 by omega) (by decide) (by decide)  hw hT hF  (lv_sub hl [2, 3, 4, 1] rfl)
  refine lv_aload_n hx hb dX3_readFact_0 rfl (lv_at hl 0 rfl) ?_
  refine tk_getA hC hK hw hT hinX3 kC_at3 (by decide) rfl 0 (by decide) (List.mem_of_getElem? (i := 1) rfl) rfl rfl dX3_readFact_1 ?_
  refine tk_Vi hC hK hw hT hA hE hSR kC_at1 (by decide) rfl (k_X6_isFaulty_2 l adK adV dC dI cy ad B (by omega) (by omega) qr s1    w0 s.heap.size hT cf0_) (cwV 0 hC.2.2.2.2 gX3_readFact_X6_isFaulty rfl rfl rfl (by decide +kernel) ⟨Nat.le_of_ble_eq_true rfl, Nat.le_of_ble_eq_true rfl⟩) rfl hl.1 rfl (Nat.le_of_ble_eq_true rfl) dX3_readFact_4 (fun r111 w113 H locs hp112 hw => ?_)
  obtain ⟨hT, k114, hg117⟩ := hp112
  have hF := hF.tr k114 (by decide)
  have c118 := k114.gi kC_at1 (by decide) cf0_
  obtain ⟨rfl, ⟨x115, c116, rx115, tx115⟩⟩ := hg117
  have ex115 : x115.toInt = (0 : Int) := by rw [show x115 = 0 from c116.symm.trans c118]; decide
  refine lv_if_eq (tgt := 11) hx hb dX3_readFact_7 (by decide) (fun _ => ?_) (fun c => absurd (by decide) c)
  refine lv_aload_n hx hb dX3_readFact_11 rfl (lv_at hl 0 rfl) ?_
  refine tk_getA hC hK hw hT hinX3 kC_at3 (by decide) rfl 0 (by decide) (List.mem_of_getElem? (i := 1) rfl) rfl rfl dX3_readFact_12 ?_
  refine va_ldcS hx hb hC.2.2.2.1 hSR.2.2.2.2.1 dX3_readFact_15 ?_
  refine tk_Vi hC hK hw hT hA hE hSR kC_at1 (by decide) rfl (k_X6_takeWord_4 l adK adV dC dI cy ad B (by omega) (by omega) qr s1    w113 H.size hT ) (cwV 1 hC.2.2.2.2 gX3_readFact_X6_takeWord rfl rfl rfl (by decide +kernel) ⟨Nat.le_of_ble_eq_true rfl, Nat.le_of_ble_eq_true rfl⟩) rfl hl.1 rfl (Nat.le_of_ble_eq_true rfl) dX3_readFact_17 (fun r119 w121 H locs hp120 hw => ?_)
  obtain ⟨hT, k122, hg125⟩ := hp120
  have hF := hF.tr k122 (by decide)
  have c126 := k122.gi kC_at1 (by decide) c118
  rcases hg125 with rfl | ⟨rfl, ⟨x123, c124, rx123, tx123⟩⟩
  · refine lv_istore_n (lv' := [(2, .int 0), (0, .ref (ad 3)), (1, .int 3)]) hx hb dX3_readFact_20 rfl hl (by decide) rfl (fun ls hl => ?_)
    refine lv_iload_n hx hb dX3_readFact_21 rfl (lv_at hl 0 rfl) ?_
    refine lv_if_ne (tgt := 41) hx hb dX3_readFact_22 (by decide) (fun c => absurd (by decide) c) (fun _ => ?_)
    refine lv_aload_n hx hb dX3_readFact_25 rfl (lv_at hl 1 rfl) ?_
    refine tk_getA hC hK hw hT hinX3 kC_at3 (by decide) rfl 0 (by decide) (List.mem_of_getElem? (i := 1) rfl) rfl rfl dX3_readFact_26 ?_
    refine lv_bipush (v := 91) hx hb dX3_readFact_29 (by decide) ?_
    refine tk_Vi hC hK hw hT hA hE hSR kC_at1 (by decide) rfl (k_X6_takeByte_2 l adK adV dC dI cy ad B (by omega) (by omega) qr s1    w121 H.size hT ) (cwV 1 hC.2.2.2.2 gX3_readFact_X6_takeByte rfl rfl rfl (by decide +kernel) ⟨Nat.le_of_ble_eq_true rfl, Nat.le_of_ble_eq_true rfl⟩) rfl hl.1 rfl (Nat.le_of_ble_eq_true rfl) dX3_readFact_31 (fun r127 w129 H locs hp128 hw => ?_)
    obtain ⟨hT, k130, hg135⟩ := hp128
    have hF := hF.tr k130 (by decide)
    have c136 := k130.gi kC_at1 (by decide) c126
    rcases hg135 with rfl | ⟨rfl, ⟨x131, c132, rx131, tx131⟩, ⟨x133, c134, rx133, tx133⟩⟩
    · refine lv_if_eq (tgt := 41) hx hb dX3_readFact_34 (by decide) (fun _ => ?_) (fun c => absurd (by decide) c)
      exact J41 0 H locs ls w129 (by decide) (by decide)  hw hT hF c136 (lv_sub hl [1, 2, 0] rfl)
    · refine lv_if_eq (tgt := 41) hx hb dX3_readFact_34 (by decide) (fun c => absurd c (by decide)) (fun _ => ?_)
      refine lv_iconst (v := 1) hx hb dX3_readFact_37 (by decide) ?_
      refine lv_goto (tgt := 42) hx hb dX3_readFact_38 (by decide) ?_
      refine lv_istore_n (lv' := [(3, .int 1), (2, .int 0), (0, .ref (ad 3)), (1, .int 3)]) hx hb dX3_readFact_42 rfl hl (by decide) rfl (fun ls hl => ?_)
      refine lv_iload_n hx hb dX3_readFact_43 rfl (lv_at hl 1 rfl) ?_
      refine lv_if_ne (tgt := 77) hx hb dX3_readFact_44 (by decide) (fun c => absurd (by decide) c) (fun _ => ?_)
      refine lv_iload_n hx hb dX3_readFact_47 rfl (lv_at hl 0 rfl) ?_
      refine lv_if_ne (tgt := 77) hx hb dX3_readFact_48 (by decide) (fun _ => ?_) (fun c => absurd c (by decide))
      exact J77 0 1 H locs ls w129 (by decide) (by decide) (by decide) (by decide)  hw hT hF c136 (lv_sub hl [2, 3, 1, 0] rfl)
  · refine lv_istore_n (lv' := [(2, .int 1), (0, .ref (ad 3)), (1, .int 3)]) hx hb dX3_readFact_20 rfl hl (by decide) rfl (fun ls hl => ?_)
    refine lv_iload_n hx hb dX3_readFact_21 rfl (lv_at hl 0 rfl) ?_
    refine lv_if_ne (tgt := 41) hx hb dX3_readFact_22 (by decide) (fun _ => ?_) (fun c => absurd c (by decide))
    exact J41 1 H locs ls w121 (by decide) (by decide)  hw hT hF c126 (lv_sub hl [1, 2, 0] rfl)
abbrev P_X3_readTest_4 (ad : Nat → Nat) (cy : Nat → ClassId) (B : Int) (qr : Nat) (s1 : Int)  (w0 : va_W) : va_W → Prop := fun u => TW ksC ad cy B qr s1 u ∧ FE ksC [(2, 3, 3), (3, 2, 2), (6, 1, 1), (6, 3, 3), (6, 4, 4), (22, 0, 13), (23, 0, 400)] w0 u ∧ ((True))
set_option maxHeartbeats 4000000 in
set_option maxRecDepth 100000 in
theorem k_X3_readTest_4 (l : Launch) (adK adV : Nat → Nat) (dC : Nat → ClassId) (dI : Nat → Nat → Nat) (cy : Nat → ClassId) (ad : Nat → Nat) (B : Int) (hB0 : 2147483648 ≤ B) (hB1 : B ≤ 1152921504606846976) (qr : Nat) (s1 : Int) (hqr : ksC[qr]? = some 2)  (w0 : va_W) (sz : Nat) (hT : TW ksC ad cy B qr s1 w0) (cf0_ : gi w0 1 4 = 0) : Met l yX3_readTest wsX3_readTest ({ frames := 23, cells := 0, slots := 0, locals := 564 }) (va_Pc [.ref (ad 3), .int 3] (wpreS adK adV dC dI cy sz w0)) (va_Qv (P_X3_readTest_4 ad cy B qr s1  w0) (fun u : va_W => wpost dC dI cy (va_A w0 sz) u) (va_A w0 sz)) 0 0 (va_A w0 sz) := by
  refine Met.ofW (cc := cX3_readTest) (maxL := 4) (ret := none) (by decide) rfl ?_
  intro p e s m args below meth c s₁ Bk hml hv
  obtain ⟨rfl, ⟨hsz, hP, hK, hD0⟩, hE, hSR⟩ := hv
  have hx := Bk.exec
  have hb := Bk.bytes
  have hr := Bk.returns
  have hlocks := Bk.notSynchronized
  have hC : CallFix p m c cX3_readTest 4 s _ wsX3_readTest RX3 := ⟨hx, hb, hml, findClass_of_methodNamed Bk.named, atoms_spec (ws := wsX3_readTest) Bk.pre⟩
  subst hsz
  have hD := hD0.self (sz := s.heap.size)
  generalize hAe : va_A w0 s.heap.size = A at hD hE ⊢
  have hA : ∀ q : Nat, s.heap.size ≤ q → A q := fun q h => by rw [← hAe]; exact Or.inr h
  have hw : Wd dC dI A s.heap s.heap [] w0 := ⟨hP, hD, va_S.rf⟩
  have hF : FE ksC [(2, 3, 3), (3, 2, 2), (6, 1, 1), (6, 3, 3), (6, 4, 4), (22, 0, 13), (23, 0, 400)] w0 w0 := FE.rf
  have hl := lv_entry ([.ref (ad 3), .int 3]) (n := 4) (Nat.le_of_ble_eq_true rfl)
  rw [lg_entry_eq]
  generalize (lg_sl ([.ref (ad 3), .int 3]) ++ List.replicate (4 - (lg_sl ([.ref (ad 3), .int 3])).length) Slot.unset).toArray = ls at hl ⊢
  have hl : lv_has ls 4 [(0, .ref (ad 3)), (1, .int 3)] := hl
  generalize hloc : ([] : List Loc) = locs at hw ⊢
  have hinX3 : ∀ w ∈ u_ws RX3 TX3 3, w ∈ wsX3_readTest := fun _ h => List.mem_cons_of_mem _ (List.mem_append_left _ (List.mem_append_left _ (List.mem_append_right _ (h))))
  have J86 : ∀ (v86_2 : Int32) (v86_3 : Int32) (H : Heap) (locs : List Loc) (ls : Array Slot) (w1 : va_W), (-1) ≤ v86_2.toInt → v86_2.toInt ≤ 21 → 0 ≤ v86_3.toInt → v86_3.toInt ≤ 400 → Wd dC dI A s.heap H locs w1 → TW ksC ad cy B qr s1 w1 → FE ksC [(2, 3, 3), (3, 2, 2), (6, 1, 1), (6, 3, 3), (6, 4, 4), (22, 0, 13), (23, 0, 400)] w0 w1 → lv_has ls 4 [(0, .ref (ad 3)), (1, .int 3), (2, .int v86_2), (3, .int v86_3)] → W p l e ({ frames := 23, cells := 0, slots := 0, locals := 564 }) s m (List.toArray [.ref (ad 3), .int 3]) below meth c H locs 0 0 (MQ below (va_Qv (P_X3_readTest_4 ad cy B qr s1  w0) (fun u : va_W => wpost dC dI cy A u) A) (List.toArray [.ref (ad 3), .int 3]) s 0 0 A) (F0 m 86 ls []) := by
    intro v86_2 v86_3 H locs ls w1 r2 t3 r4 t5 hw hT hF hl
    refine lv_aload_n hx hb dX3_readTest_86 rfl (lv_at hl 0 rfl) ?_
    refine lv_iload_n hx hb dX3_readTest_87 rfl (lv_at hl 2 rfl) ?_
    refine tk_Vv hC hK hw hT hA hE hSR kC_at3 (by decide) rfl (k_X3_addWaiting_1 l adK adV dC dI cy ad B (by omega) (by omega) qr s1 hqr  v86_2 w1 H.size hT ) (cwV 1 hC.2.2.2.2 gX3_readTest_X3_addWaiting rfl rfl rfl (by decide +kernel) ⟨Nat.le_of_ble_eq_true rfl, Nat.le_of_ble_eq_true rfl⟩) rfl hl.1 rfl (Nat.le_of_ble_eq_true rfl) dX3_readTest_88 (fun w8 H locs hp7 hw => ?_)
    obtain ⟨hT, k9, hg10⟩ := hp7
    have hF := hF.tr k9 (by decide)
    clear hg10
    exact tk_vret hC hr hlocks hK ⟨hT, hF, trivial⟩ hw dX3_readTest_91
  have L9 : ∀ (n9 : Nat) (v9_2 : Int32) (v9_3 : Int32) (H : Heap) (locs : List Loc) (ls : Array Slot) (w11 : va_W), (-1) ≤ v9_2.toInt → v9_2.toInt ≤ 21 → 0 ≤ v9_3.toInt → v9_3.toInt ≤ 400 → (400 - v9_3.toInt).toNat < n9 → Wd dC dI A s.heap H locs w11 → TW ksC ad cy B qr s1 w11 → FE ksC [(2, 3, 3), (3, 2, 2), (6, 1, 1), (6, 3, 3), (6, 4, 4), (22, 0, 13), (23, 0, 400)] w0 w11 → lv_has ls 4 [(0, .ref (ad 3)), (1, .int 3), (2, .int v9_2), (3, .int v9_3)] → W p l e ({ frames := 23, cells := 0, slots := 0, locals := 564 }) s m (List.toArray [.ref (ad 3), .int 3]) below meth c H locs 0 0 (MQ below (va_Qv (P_X3_readTest_4 ad cy B qr s1  w0) (fun u : va_W => wpost dC dI cy A u) A) (List.toArray [.ref (ad 3), .int 3]) s 0 0 A) (F0 m 9 ls []) := by
    intro n9
    induction n9 with
    | zero => intro v9_2 v9_3 H locs ls w11 r12 t13 r14 t15 hm9 hw hT hF hl; omega
    | succ n9 ih9 =>
      intro v9_2 v9_3 H locs ls w11 r12 t13 r14 t15 hm9 hw hT hF hl
      have J80 : ∀ (v80_2 : Int32) (H : Heap) (locs : List Loc) (ls : Array Slot) (w16 : va_W), (-1) ≤ v80_2.toInt → v80_2.toInt ≤ 21 → 0 ≤ v9_3.toInt → v9_3.toInt ≤ 399 → Wd dC dI A s.heap H locs w16 → TW ksC ad cy B qr s1 w16 → FE ksC [(2, 3, 3), (3, 2, 2), (6, 1, 1), (6, 3, 3), (6, 4, 4), (22, 0, 13), (23, 0, 400)] w0 w16 → lv_has ls 4 [(0, .ref (ad 3)), (1, .int 3), (2, .int v80_2), (3, .int v9_3)] → W p l e ({ frames := 23, cells := 0, slots := 0, locals := 564 }) s m (List.toArray [.ref (ad 3), .int 3]) below meth c H locs 0 0 (MQ below (va_Qv (P_X3_readTest_4 ad cy B qr s1  w0) (fun u : va_W => wpost dC dI cy A u) A) (List.toArray [.ref (ad 3), .int 3]) s 0 0 A) (F0 m 80 ls []) := by
        intro v80_2 H locs ls w16 r17 t18 r19 t20 hw hT hF hl
        obtain ⟨x21, ex21⟩ : ∃ y : Int32, y = v9_3 + Int32.ofInt 1 := ⟨_, rfl⟩
        refine lv_iinc (v := x21) (lv' := [(3, .int x21), (0, .ref (ad 3)), (1, .int 3), (2, .int v80_2)]) hx hb dX3_readTest_80 hl (k := 3) rfl ex21.symm (by decide) rfl (fun ls hl => ?_)
        have ex21 : x21.toInt = v9_3.toInt + 1 := by rw [ex21]; exact wk_add (y := 1) (show -2147483648 ≤ v9_3.toInt + 1 by omega) (show v9_3.toInt + 1 ≤ 2147483647 by omega)
        refine lv_goto (tgt := 9) hx hb dX3_readTest_83 (by decide) ?_
        exact ih9 v80_2 x21 H locs ls w16 (show (-1) ≤ v80_2.toInt by omega) (show v80_2.toInt ≤ 21 by omega) (show 0 ≤ x21.toInt by omega) (show x21.toInt ≤ 400 by omega) (show (400 - x21.toInt).toNat < n9 by omega) hw hT hF  (lv_sub hl [1, 2, 3, 0] rfl)
      refine lv_iload_n hx hb dX3_readTest_9 rfl (lv_at hl 3 rfl) ?_
      refine lv_sipush (v := 400) hx hb dX3_readTest_10 (by decide) ?_
      refine lv_icmp_ge (tgt := 86) hx hb dX3_readTest_13 (by decide) (fun c22 => ?_) (fun c22 => ?_)
      · have c22 : (400 : Int) ≤ v9_3.toInt := wk_le.mp c22
        exact J86 v9_2 v9_3 H locs ls w11 (show (-1) ≤ v9_2.toInt by omega) (show v9_2.toInt ≤ 21 by omega) (show 0 ≤ v9_3.toInt by omega) (show v9_3.toInt ≤ 400 by omega)  hw hT hF  (lv_sub hl [0, 1, 2, 3] rfl)
      · have c22 : v9_3.toInt < (400 : Int) := wk_leF c22
        refine lv_aload_n hx hb dX3_readTest_16 rfl (lv_at hl 0 rfl) ?_
        refine tk_getA hC hK hw hT hinX3 kC_at3 (by decide) rfl 0 (by decide) (List.mem_of_getElem? (i := 1) rfl) rfl rfl dX3_readTest_17 ?_
        refine tk_Vi hC hK hw hT hA hE hSR kC_at1 (by decide) rfl (k_X6_isFaulty_1 l adK adV dC dI cy ad B (by omega) (by omega) qr s1    w11 H.size hT ) (cwV 0 hC.2.2.2.2 gX3_readTest_X6_isFaulty rfl rfl rfl (by decide +kernel) ⟨Nat.le_of_ble_eq_true rfl, Nat.le_of_ble_eq_true rfl⟩) rfl hl.1 rfl (Nat.le_of_ble_eq_true rfl) dX3_readTest_20 (fun r23 w25 H locs hp24 hw => ?_)
        obtain ⟨hT, k26, hg31⟩ := hp24
        have hF := hF.tr k26 (by decide)
        rcases hg31 with ⟨rfl, ⟨x27, c28, rx27, tx27⟩⟩ | ⟨rfl, ⟨x29, c30, rx29, tx29⟩⟩
        · refine lv_if_ne (tgt := 86) hx hb dX3_readTest_23 (by decide) (fun c => absurd (by decide) c) (fun _ => ?_)
          refine lv_aload_n hx hb dX3_readTest_26 rfl (lv_at hl 0 rfl) ?_
          refine tk_getA hC hK hw hT hinX3 kC_at3 (by decide) rfl 0 (by decide) (List.mem_of_getElem? (i := 1) rfl) rfl rfl dX3_readTest_27 ?_
          refine va_ldcS hx hb hC.2.2.2.1 hSR.2.2.2.2.2.2.1 dX3_readTest_30 ?_
          refine tk_Vi hC hK hw hT hA hE hSR kC_at1 (by decide) rfl (k_X6_takeWord_2 l adK adV dC dI cy ad B (by omega) (by omega) qr s1    w25 H.size hT ) (cwV 1 hC.2.2.2.2 gX3_readTest_X6_takeWord rfl rfl rfl (by decide +kernel) ⟨Nat.le_of_ble_eq_true rfl, Nat.le_of_ble_eq_true rfl⟩) rfl hl.1 rfl (Nat.le_of_ble_eq_true rfl) dX3_readTest_32 (fun r32 w34 H locs hp33 hw => ?_)
          obtain ⟨hT, k35, hg38⟩ := hp33
          have hF := hF.tr k35 (by decide)
          have c39 := k35.gi kC_at1 (by decide) c28
          rcases hg38 with rfl | ⟨rfl, ⟨x36, c37, rx36, tx36⟩⟩
          · refine lv_if_eq (tgt := 55) hx hb dX3_readTest_35 (by decide) (fun _ => ?_) (fun c => absurd (by decide) c)
            refine lv_aload_n hx hb dX3_readTest_55 rfl (lv_at hl 0 rfl) ?_
            refine tk_getA hC hK hw hT hinX3 kC_at3 (by decide) rfl 0 (by decide) (List.mem_of_getElem? (i := 1) rfl) rfl rfl dX3_readTest_56 ?_
            refine va_ldcS hx hb hC.2.2.2.1 hSR.2.2.2.2.2.2.2 dX3_readTest_59 ?_
            refine tk_Vi hC hK hw hT hA hE hSR kC_at1 (by decide) rfl (k_X6_takeWord_3 l adK adV dC dI cy ad B (by omega) (by omega) qr s1    w34 H.size hT ) (cwV 1 hC.2.2.2.2 gX3_readTest_X6_takeWord rfl rfl rfl (by decide +kernel) ⟨Nat.le_of_ble_eq_true rfl, Nat.le_of_ble_eq_true rfl⟩) rfl hl.1 rfl (Nat.le_of_ble_eq_true rfl) dX3_readTest_61 (fun r40 w42 H locs hp41 hw => ?_)
            obtain ⟨hT, k43, hg46⟩ := hp41
            have hF := hF.tr k43 (by decide)
            have c47 := k43.gi kC_at1 (by decide) c39
            rcases hg46 with rfl | ⟨rfl, ⟨x44, c45, rx44, tx44⟩⟩
            · refine lv_if_eq (tgt := 86) hx hb dX3_readTest_64 (by decide) (fun _ => ?_) (fun c => absurd (by decide) c)
              exact J86 v9_2 v9_3 H locs ls w42 (show (-1) ≤ v9_2.toInt by omega) (show v9_2.toInt ≤ 21 by omega) (show 0 ≤ v9_3.toInt by omega) (show v9_3.toInt ≤ 400 by omega)  hw hT hF  (lv_sub hl [0, 1, 2, 3] rfl)
            · refine lv_if_eq (tgt := 86) hx hb dX3_readTest_64 (by decide) (fun c => absurd c (by decide)) (fun _ => ?_)
              refine lv_aload_n hx hb dX3_readTest_67 rfl (lv_at hl 0 rfl) ?_
              refine lv_iload_n hx hb dX3_readTest_68 rfl (lv_at hl 2 rfl) ?_
              refine tk_Vv hC hK hw hT hA hE hSR kC_at3 (by decide) rfl (k_X3_addWaiting_1 l adK adV dC dI cy ad B (by omega) (by omega) qr s1 hqr  v9_2 w42 H.size hT ) (cwV 1 hC.2.2.2.2 gX3_readTest_X3_addWaiting rfl rfl rfl (by decide +kernel) ⟨Nat.le_of_ble_eq_true rfl, Nat.le_of_ble_eq_true rfl⟩) rfl hl.1 rfl (Nat.le_of_ble_eq_true rfl) dX3_readTest_69 (fun w50 H locs hp49 hw => ?_)
              obtain ⟨hT, k51, hg52⟩ := hp49
              have hF := hF.tr k51 (by decide)
              have c53 := k51.gi kC_at1 (by decide) c47
              have c54 := k51.gi kC_at1 (by decide) c45
              clear hg52
              refine lv_bipush (v := 21) hx hb dX3_readTest_72 (by decide) ?_
              refine lv_istore_n (lv' := [(2, .int 21), (0, .ref (ad 3)), (1, .int 3), (3, .int v9_3)]) hx hb dX3_readTest_74 rfl hl (by decide) rfl (fun ls hl => ?_)
              refine lv_aload_n hx hb dX3_readTest_75 rfl (lv_at hl 1 rfl) ?_
              refine lv_iload_n hx hb dX3_readTest_76 rfl (lv_at hl 2 rfl) ?_
              refine tk_Vv hC hK hw hT hA hE hSR kC_at3 (by decide) rfl (k_X3_readFact_4 l adK adV dC dI cy ad B (by omega) (by omega) qr s1 hqr   w50 H.size hT (c53.trans (wk_eq.mpr (show x27.toInt = 0 by omega)))) (cwV 1 hC.2.2.2.2 gX3_readTest_X3_readFact rfl rfl rfl (by decide +kernel) ⟨Nat.le_of_ble_eq_true rfl, Nat.le_of_ble_eq_true rfl⟩) rfl hl.1 rfl (Nat.le_of_ble_eq_true rfl) dX3_readTest_77 (fun w57 H locs hp56 hw => ?_)
              obtain ⟨hT, k58, hg59⟩ := hp56
              have hF := hF.tr k58 (by decide)
              clear hg59
              exact J80 21 H locs ls w57 (by decide) (by decide) (show 0 ≤ v9_3.toInt by omega) (show v9_3.toInt ≤ 399 by omega)  hw hT hF  (lv_sub hl [1, 2, 0, 3] rfl)
          · refine lv_if_eq (tgt := 55) hx hb dX3_readTest_35 (by decide) (fun c => absurd c (by decide)) (fun _ => ?_)
            refine lv_aload_n hx hb dX3_readTest_38 rfl (lv_at hl 0 rfl) ?_
            refine lv_iload_n hx hb dX3_readTest_39 rfl (lv_at hl 1 rfl) ?_
            refine tk_Vv hC hK hw hT hA hE hSR kC_at3 (by decide) rfl (k_X3_readFact_4 l adK adV dC dI cy ad B (by omega) (by omega) qr s1 hqr   w34 H.size hT (c39.trans (wk_eq.mpr (show x27.toInt = 0 by omega)))) (cwV 1 hC.2.2.2.2 gX3_readTest_X3_readFact rfl rfl rfl (by decide +kernel) ⟨Nat.le_of_ble_eq_true rfl, Nat.le_of_ble_eq_true rfl⟩) rfl hl.1 rfl (Nat.le_of_ble_eq_true rfl) dX3_readTest_40 (fun w62 H locs hp61 hw => ?_)
            obtain ⟨hT, k63, hg64⟩ := hp61
            have hF := hF.tr k63 (by decide)
            clear hg64
            refine lv_aload_n hx hb dX3_readTest_43 rfl (lv_at hl 0 rfl) ?_
            refine tk_getQ hC hK hw hT hqr (by decide) hinX3 kC_at3 (by decide) rfl 1 (by decide) (List.mem_of_getElem? (i := 2) rfl) rfl rfl dX3_readTest_44 ?_
            refine lv_bipush (v := 20) hx hb dX3_readTest_47 (by decide) ?_
            refine tk_Vv hC hK hw hT hA hE hSR hqr (by decide) rfl (k_X2_addToken_1 l adK adV dC dI cy ad B (by omega) (by omega) qr s1   qr hqr 20 w62 H.size hT ) (cwV 1 hC.2.2.2.2 gX3_readTest_X2_addToken rfl rfl rfl (by decide +kernel) ⟨Nat.le_of_ble_eq_true rfl, Nat.le_of_ble_eq_true rfl⟩) rfl hl.1 rfl (Nat.le_of_ble_eq_true rfl) dX3_readTest_49 (fun w67 H locs hp66 hw => ?_)
            obtain ⟨hT, k68, hg71⟩ := hp66
            have hF := hF.tr k68 (by decide)
            obtain ⟨x69, c70, rx69, tx69⟩ := hg71
            refine lv_goto (tgt := 80) hx hb dX3_readTest_52 (by decide) ?_
            exact J80 v9_2 H locs ls w67 (show (-1) ≤ v9_2.toInt by omega) (show v9_2.toInt ≤ 21 by omega) (show 0 ≤ v9_3.toInt by omega) (show v9_3.toInt ≤ 399 by omega)  hw hT hF  (lv_sub hl [0, 1, 2, 3] rfl)
        · refine lv_if_ne (tgt := 86) hx hb dX3_readTest_23 (by decide) (fun _ => ?_) (fun c => absurd c (by decide))
          exact J86 v9_2 v9_3 H locs ls w25 (show (-1) ≤ v9_2.toInt by omega) (show v9_2.toInt ≤ 21 by omega) (show 0 ≤ v9_3.toInt by omega) (show v9_3.toInt ≤ 400 by omega)  hw hT hF  (lv_sub hl [0, 1, 2, 3] rfl)
  refine lv_aload_n hx hb dX3_readTest_0 rfl (lv_at hl 0 rfl) ?_
  refine lv_iload_n hx hb dX3_readTest_1 rfl (lv_at hl 1 rfl) ?_
  refine tk_Vv hC hK hw hT hA hE hSR kC_at3 (by decide) rfl (k_X3_readFact_4 l adK adV dC dI cy ad B (by omega) (by omega) qr s1 hqr   w0 s.heap.size hT cf0_) (cwV 1 hC.2.2.2.2 gX3_readTest_X3_readFact rfl rfl rfl (by decide +kernel) ⟨Nat.le_of_ble_eq_true rfl, Nat.le_of_ble_eq_true rfl⟩) rfl hl.1 rfl (Nat.le_of_ble_eq_true rfl) dX3_readTest_2 (fun w74 H locs hp73 hw => ?_)
  obtain ⟨hT, k75, hg76⟩ := hp73
  have hF := hF.tr k75 (by decide)
  clear hg76
  refine lv_iconst (v := (-1)) hx hb dX3_readTest_5 (by decide) ?_
  refine lv_istore_n (lv' := [(2, .int (-1)), (0, .ref (ad 3)), (1, .int 3)]) hx hb dX3_readTest_6 rfl hl (by decide) rfl (fun ls hl => ?_)
  refine lv_iconst (v := 0) hx hb dX3_readTest_7 (by decide) ?_
  refine lv_istore_n (lv' := [(3, .int 0), (2, .int (-1)), (0, .ref (ad 3)), (1, .int 3)]) hx hb dX3_readTest_8 rfl hl (by decide) rfl (fun ls hl => ?_)
  exact L9 ((400 - (0 : Int)).toNat + 1) (-1) 0 H locs ls w74 (by decide) (by decide) (by decide) (by decide) (Nat.lt_succ_self _) hw hT hF  (lv_sub hl [2, 3, 1, 0] rfl)
abbrev P_X3_readFact_3 (ad : Nat → Nat) (cy : Nat → ClassId) (B : Int) (qr : Nat) (s1 : Int)  (w0 : va_W) : va_W → Prop := fun u => TW ksC ad cy B qr s1 u ∧ FE ksC [(2, 3, 3), (3, 2, 2), (6, 1, 1), (6, 3, 3), (6, 4, 4), (22, 0, 13), (23, 0, 400)] w0 u ∧ ((True))
set_option maxHeartbeats 4000000 in
set_option maxRecDepth 100000 in
theorem k_X3_readFact_3 (l : Launch) (adK adV : Nat → Nat) (dC : Nat → ClassId) (dI : Nat → Nat → Nat) (cy : Nat → ClassId) (ad : Nat → Nat) (B : Int) (hB0 : 2147483648 ≤ B) (hB1 : B ≤ 1152921504606846976) (qr : Nat) (s1 : Int) (hqr : ksC[qr]? = some 2)  (w0 : va_W) (sz : Nat) (hT : TW ksC ad cy B qr s1 w0) (cf0_ : gi w0 1 4 = 0) : Met l yX3_readFact wsX3_readFact ({ frames := 24, cells := 0, slots := 0, locals := 587 }) (va_Pc [.ref (ad 3), .int 2] (wpreS adK adV dC dI cy sz w0)) (va_Qv (P_X3_readFact_3 ad cy B qr s1  w0) (fun u : va_W => wpost dC dI cy (va_A w0 sz) u) (va_A w0 sz)) 0 0 (va_A w0 sz) := by
  refine Met.ofW (cc := cX3_readFact) (maxL := 5) (ret := none) (by decide) rfl ?_
  intro p e s m args below meth c s₁ Bk hml hv
  obtain ⟨rfl, ⟨hsz, hP, hK, hD0⟩, hE, hSR⟩ := hv
  have hx := Bk.exec
  have hb := Bk.bytes
  have hr := Bk.returns
  have hlocks := Bk.notSynchronized
  have hC : CallFix p m c cX3_readFact 5 s _ wsX3_readFact RX3 := ⟨hx, hb, hml, findClass_of_methodNamed Bk.named, atoms_spec (ws := wsX3_readFact) Bk.pre⟩
  subst hsz
  have hD := hD0.self (sz := s.heap.size)
  generalize hAe : va_A w0 s.heap.size = A at hD hE ⊢
  have hA : ∀ q : Nat, s.heap.size ≤ q → A q := fun q h => by rw [← hAe]; exact Or.inr h
  have hw : Wd dC dI A s.heap s.heap [] w0 := ⟨hP, hD, va_S.rf⟩
  have hF : FE ksC [(2, 3, 3), (3, 2, 2), (6, 1, 1), (6, 3, 3), (6, 4, 4), (22, 0, 13), (23, 0, 400)] w0 w0 := FE.rf
  have hl := lv_entry ([.ref (ad 3), .int 2]) (n := 5) (Nat.le_of_ble_eq_true rfl)
  rw [lg_entry_eq]
  generalize (lg_sl ([.ref (ad 3), .int 2]) ++ List.replicate (5 - (lg_sl ([.ref (ad 3), .int 2])).length) Slot.unset).toArray = ls at hl ⊢
  have hl : lv_has ls 5 [(0, .ref (ad 3)), (1, .int 2)] := hl
  generalize hloc : ([] : List Loc) = locs at hw ⊢
  have hinX3 : ∀ w ∈ u_ws RX3 TX3 3, w ∈ wsX3_readFact := fun _ h => List.mem_cons_of_mem _ (List.mem_append_left _ (List.mem_append_left _ (List.mem_append_right _ (h))))
  have J160 : ∀ (v160_2 : Int32) (v160_3 : Int32) (H : Heap) (locs : List Loc) (ls : Array Slot) (w1 : va_W), 0 ≤ v160_2.toInt → v160_2.toInt ≤ 1 → 0 ≤ v160_3.toInt → v160_3.toInt ≤ 1 → Wd dC dI A s.heap H locs w1 → TW ksC ad cy B qr s1 w1 → FE ksC [(2, 3, 3), (3, 2, 2), (6, 1, 1), (6, 3, 3), (6, 4, 4), (22, 0, 13), (23, 0, 400)] w0 w1 → lv_has ls 5 [(0, .ref (ad 3)), (1, .int 2), (2, .int v160_2), (3, .int v160_3)] → W p l e ({ frames := 24, cells := 0, slots := 0, locals := 587 }) s m (List.toArray [.ref (ad 3), .int 2]) below meth c H locs 0 0 (MQ below (va_Qv (P_X3_readFact_3 ad cy B qr s1  w0) (fun u : va_W => wpost dC dI cy A u) A) (List.toArray [.ref (ad 3), .int 2]) s 0 0 A) (F0 m 160 ls []) := by
    intro v160_2 v160_3 H locs ls w1 r2 t3 r4 t5 hw hT hF hl
    exact tk_vret hC hr hlocks hK ⟨hT, hF, trivial⟩ hw dX3_readFact_160
  have J77 : ∀ (v77_2 : Int32) (v77_3 : Int32) (H : Heap) (locs : List Loc) (ls : Array Slot) (w6 : va_W), 0 ≤ v77_2.toInt → v77_2.toInt ≤ 1 → 0 ≤ v77_3.toInt → v77_3.toInt ≤ 1 → Wd dC dI A s.heap H locs w6 → TW ksC ad cy B qr s1 w6 → FE ksC [(2, 3, 3), (3, 2, 2), (6, 1, 1), (6, 3, 3), (6, 4, 4), (22, 0, 13), (23, 0, 400)] w0 w6 → gi w6 1 4 = 0 → lv_has ls 5 [(0, .ref (ad 3)), (1, .int 2), (2, .int v77_2), (3, .int v77_3)] → W p l e ({ frames := 24, cells := 0, slots := 0, locals := 587 }) s m (List.toArray [.ref (ad 3), .int 2]) below meth c H locs 0 0 (MQ below (va_Qv (P_X3_readFact_3 ad cy B qr s1  w0) (fun u : va_W => wpost dC dI cy A u) A) (List.toArray [.ref (ad 3), .int 2]) s 0 0 A) (F0 m 77 ls []) := by
    intro v77_2 v77_3 H locs ls w6 r7 t8 r9 t10 hw hT hF c11 hl
    refine lv_iload_n hx hb dX3_readFact_77 rfl (lv_at hl 1 rfl) ?_
    refine lv_bipush (v := 10) hx hb dX3_readFact_78 (by decide) ?_
    refine lv_icmp_lt (tgt := 101) hx hb dX3_readFact_80 (by decide) (fun _ => ?_) (fun c => absurd (by decide) c)
    refine lv_iload_n hx hb dX3_readFact_101 rfl (lv_at hl 2 rfl) ?_
    refine lv_if_eq (tgt := 124) hx hb dX3_readFact_102 (by decide) (fun c12 => ?_) (fun c12 => ?_)
    · have c12 : v77_2.toInt = (0 : Int) := wk_eq.mp c12
      refine lv_aload_n hx hb dX3_readFact_124 rfl (lv_at hl 0 rfl) ?_
      refine lv_iload_n hx hb dX3_readFact_125 rfl (lv_at hl 1 rfl) ?_
      refine lv_iconst (v := 1) hx hb dX3_readFact_126 (by decide) ?_
      refine lv_iadd hx hb dX3_readFact_127 ?_
      refine wk_top 3 (by decide) ?_
      refine tk_Vv hC hK hw hT hA hE hSR kC_at3 (by decide) rfl (k_X3_readTest_4 l adK adV dC dI cy ad B (by omega) (by omega) qr s1 hqr   w6 H.size hT c11) (cwV 1 hC.2.2.2.2 gX3_readFact_X3_readTest rfl rfl rfl (by decide +kernel) ⟨Nat.le_of_ble_eq_true rfl, Nat.le_of_ble_eq_true rfl⟩) rfl hl.1 rfl (Nat.le_of_ble_eq_true rfl) dX3_readFact_128 (fun w15 H locs hp14 hw => ?_)
      obtain ⟨hT, k16, hg17⟩ := hp14
      have hF := hF.tr k16 (by decide)
      clear hg17
      refine lv_aload_n hx hb dX3_readFact_131 rfl (lv_at hl 0 rfl) ?_
      refine tk_getA hC hK hw hT hinX3 kC_at3 (by decide) rfl 0 (by decide) (List.mem_of_getElem? (i := 1) rfl) rfl rfl dX3_readFact_132 ?_
      refine tk_Vi hC hK hw hT hA hE hSR kC_at1 (by decide) rfl (k_X6_isFaulty_1 l adK adV dC dI cy ad B (by omega) (by omega) qr s1    w15 H.size hT ) (cwV 0 hC.2.2.2.2 gX3_readFact_X6_isFaulty rfl rfl rfl (by decide +kernel) ⟨Nat.le_of_ble_eq_true rfl, Nat.le_of_ble_eq_true rfl⟩) rfl hl.1 rfl (Nat.le_of_ble_eq_true rfl) dX3_readFact_135 (fun r18 w20 H locs hp19 hw => ?_)
      obtain ⟨hT, k21, hg26⟩ := hp19
      have hF := hF.tr k21 (by decide)
      rcases hg26 with ⟨rfl, ⟨x22, c23, rx22, tx22⟩⟩ | ⟨rfl, ⟨x24, c25, rx24, tx24⟩⟩
      · refine lv_if_ne (tgt := 160) hx hb dX3_readFact_138 (by decide) (fun c => absurd (by decide) c) (fun _ => ?_)
        refine lv_aload_n hx hb dX3_readFact_141 rfl (lv_at hl 0 rfl) ?_
        refine tk_getA hC hK hw hT hinX3 kC_at3 (by decide) rfl 0 (by decide) (List.mem_of_getElem? (i := 1) rfl) rfl rfl dX3_readFact_142 ?_
        refine lv_bipush (v := 93) hx hb dX3_readFact_145 (by decide) ?_
        refine tk_Vi hC hK hw hT hA hE hSR kC_at1 (by decide) rfl (k_X6_takeByte_3 l adK adV dC dI cy ad B (by omega) (by omega) qr s1    w20 H.size hT ) (cwV 1 hC.2.2.2.2 gX3_readFact_X6_takeByte rfl rfl rfl (by decide +kernel) ⟨Nat.le_of_ble_eq_true rfl, Nat.le_of_ble_eq_true rfl⟩) rfl hl.1 rfl (Nat.le_of_ble_eq_true rfl) dX3_readFact_147 (fun r27 w29 H locs hp28 hw => ?_)
        obtain ⟨hT, k30, hg35⟩ := hp28
        have hF := hF.tr k30 (by decide)
        have c36 := k30.gi kC_at1 (by decide) c23
        rcases hg35 with rfl | ⟨rfl, ⟨x31, c32, rx31, tx31⟩, ⟨x33, c34, rx33, tx33⟩⟩
        · refine lv_if_ne (tgt := 160) hx hb dX3_readFact_150 (by decide) (fun c => absurd (by decide) c) (fun _ => ?_)
          refine lv_aload_n hx hb dX3_readFact_153 rfl (lv_at hl 0 rfl) ?_
          refine tk_getA hC hK hw hT hinX3 kC_at3 (by decide) rfl 0 (by decide) (List.mem_of_getElem? (i := 1) rfl) rfl rfl dX3_readFact_154 ?_
          refine tk_Vv hC hK hw hT hA hE hSR kC_at1 (by decide) rfl (k_X6_blameHere_1 l adK adV dC dI cy ad B (by omega) (by omega) qr s1    w29 H.size hT (c36.trans (wk_eq.mpr (show x22.toInt = 0 by omega)))) (cwV 0 hC.2.2.2.2 gX3_readFact_X6_blameHere rfl rfl rfl (by decide +kernel) ⟨Nat.le_of_ble_eq_true rfl, Nat.le_of_ble_eq_true rfl⟩) rfl hl.1 rfl (Nat.le_of_ble_eq_true rfl) dX3_readFact_157 (fun w39 H locs hp38 hw => ?_)
          obtain ⟨hT, k40, hg43⟩ := hp38
          have hF := hF.tr k40 (by decide)
          obtain ⟨x41, c42, rx41, tx41⟩ := hg43
          exact J160 v77_2 v77_3 H locs ls w39 (show 0 ≤ v77_2.toInt by omega) (show v77_2.toInt ≤ 1 by omega) (show 0 ≤ v77_3.toInt by omega) (show v77_3.toInt ≤ 1 by omega)  hw hT hF  (lv_sub hl [0, 1, 2, 3] rfl)
        · refine lv_if_ne (tgt := 160) hx hb dX3_readFact_150 (by decide) (fun _ => ?_) (fun c => absurd c (by decide))
          exact J160 v77_2 v77_3 H locs ls w29 (show 0 ≤ v77_2.toInt by omega) (show v77_2.toInt ≤ 1 by omega) (show 0 ≤ v77_3.toInt by omega) (show v77_3.toInt ≤ 1 by omega)  hw hT hF  (lv_sub hl [0, 1, 2, 3] rfl)
      · refine lv_if_ne (tgt := 160) hx hb dX3_readFact_138 (by decide) (fun _ => ?_) (fun c => absurd c (by decide))
        exact J160 v77_2 v77_3 H locs ls w20 (show 0 ≤ v77_2.toInt by omega) (show v77_2.toInt ≤ 1 by omega) (show 0 ≤ v77_3.toInt by omega) (show v77_3.toInt ≤ 1 by omega)  hw hT hF  (lv_sub hl [0, 1, 2, 3] rfl)
    · have c12 : ¬ v77_2.toInt = (0 : Int) := wk_eqF c12
      refine lv_aload_n hx hb dX3_readFact_105 rfl (lv_at hl 0 rfl) ?_
      refine lv_iload_n hx hb dX3_readFact_106 rfl (lv_at hl 1 rfl) ?_
      refine lv_iconst (v := 1) hx hb dX3_readFact_107 (by decide) ?_
      refine lv_iadd hx hb dX3_readFact_108 ?_
      refine wk_top 3 (by decide) ?_
      refine tk_Vv hC hK hw hT hA hE hSR kC_at3 (by decide) rfl (k_X3_readFact_4 l adK adV dC dI cy ad B (by omega) (by omega) qr s1 hqr   w6 H.size hT c11) (cwV 1 hC.2.2.2.2 gX3_readFact_X3_readFact rfl rfl rfl (by decide +kernel) ⟨Nat.le_of_ble_eq_true rfl, Nat.le_of_ble_eq_true rfl⟩) rfl hl.1 rfl (Nat.le_of_ble_eq_true rfl) dX3_readFact_109 (fun w46 H locs hp45 hw => ?_)
      obtain ⟨hT, k47, hg48⟩ := hp45
      have hF := hF.tr k47 (by decide)
      clear hg48
      refine lv_aload_n hx hb dX3_readFact_112 rfl (lv_at hl 0 rfl) ?_
      refine tk_getQ hC hK hw hT hqr (by decide) hinX3 kC_at3 (by decide) rfl 1 (by decide) (List.mem_of_getElem? (i := 2) rfl) rfl rfl dX3_readFact_113 ?_
      refine lv_bipush (v := 19) hx hb dX3_readFact_116 (by decide) ?_
      refine tk_Vv hC hK hw hT hA hE hSR hqr (by decide) rfl (k_X2_addToken_1 l adK adV dC dI cy ad B (by omega) (by omega) qr s1   qr hqr 19 w46 H.size hT ) (cwV 1 hC.2.2.2.2 gX3_readFact_X2_addToken rfl rfl rfl (by decide +kernel) ⟨Nat.le_of_ble_eq_true rfl, Nat.le_of_ble_eq_true rfl⟩) rfl hl.1 rfl (Nat.le_of_ble_eq_true rfl) dX3_readFact_118 (fun w51 H locs hp50 hw => ?_)
      obtain ⟨hT, k52, hg55⟩ := hp50
      have hF := hF.tr k52 (by decide)
      obtain ⟨x53, c54, rx53, tx53⟩ := hg55
      refine lv_goto (tgt := 160) hx hb dX3_readFact_121 (by decide) ?_
      exact J160 v77_2 v77_3 H locs ls w51 (show 0 ≤ v77_2.toInt by omega) (show v77_2.toInt ≤ 1 by omega) (show 0 ≤ v77_3.toInt by omega) (show v77_3.toInt ≤ 1 by omega)  hw hT hF  (lv_sub hl [0, 1, 2, 3] rfl)
  have J41 : ∀ (v41_2 : Int32) (H : Heap) (locs : List Loc) (ls : Array Slot) (w56 : va_W), 0 ≤ v41_2.toInt → v41_2.toInt ≤ 1 → Wd dC dI A s.heap H locs w56 → TW ksC ad cy B qr s1 w56 → FE ksC [(2, 3, 3), (3, 2, 2), (6, 1, 1), (6, 3, 3), (6, 4, 4), (22, 0, 13), (23, 0, 400)] w0 w56 → gi w56 1 4 = 0 → lv_has ls 5 [(0, .ref (ad 3)), (1, .int 2), (2, .int v41_2)] → W p l e ({ frames := 24, cells := 0, slots := 0, locals := 587 }) s m (List.toArray [.ref (ad 3), .int 2]) below meth c H locs 0 0 (MQ below (va_Qv (P_X3_readFact_3 ad cy B qr s1  w0) (fun u : va_W => wpost dC dI cy A u) A) (List.toArray [.ref (ad 3), .int 2]) s 0 0 A) (F0 m 41 ls []) := by
    intro v41_2 H locs ls w56 r57 t58 hw hT hF c59 hl
    refine lv_iconst (v := 0) hx hb dX3_readFact_41 (by decide) ?_
    refine lv_istore_n (lv' := [(3, .int 0), (0, .ref (ad 3)), (1, .int 2), (2, .int v41_2)]) hx hb dX3_readFact_42 rfl hl (by decide) rfl (fun ls hl => ?_)
    refine lv_iload_n hx hb dX3_readFact_43 rfl (lv_at hl 3 rfl) ?_
    refine lv_if_ne (tgt := 77) hx hb dX3_readFact_44 (by decide) (fun c60 => ?_) (fun c60 => ?_)
    · have c60 : ¬ v41_2.toInt = (0 : Int) := wk_eqF c60
      exact J77 v41_2 0 H locs ls w56 (show 0 ≤ v41_2.toInt by omega) (show v41_2.toInt ≤ 1 by omega) (by decide) (by decide)  hw hT hF c59 (lv_sub hl [1, 2, 3, 0] rfl)
    · have c60 : v41_2.toInt = (0 : Int) := wk_eq.mp c60
      refine lv_iload_n hx hb dX3_readFact_47 rfl (lv_at hl 0 rfl) ?_
      refine lv_if_ne (tgt := 77) hx hb dX3_readFact_48 (by decide) (fun c => absurd (by decide) c) (fun _ => ?_)
      refine lv_aload_n hx hb dX3_readFact_51 rfl (lv_at hl 1 rfl) ?_
      refine tk_Vv hC hK hw hT hA hE hSR kC_at3 (by decide) rfl (k_X3_readSum_1 l adK adV dC dI cy ad B (by omega) (by omega) qr s1 hqr   w56 H.size hT c59) (cwV 0 hC.2.2.2.2 gX3_readFact_X3_readSum rfl rfl rfl (by decide +kernel) ⟨Nat.le_of_ble_eq_true rfl, Nat.le_of_ble_eq_true rfl⟩) rfl hl.1 rfl (Nat.le_of_ble_eq_true rfl) dX3_readFact_52 (fun w63 H locs hp62 hw => ?_)
      obtain ⟨hT, k64, hg65⟩ := hp62
      have hF := hF.tr k64 (by decide)
      clear hg65
      refine lv_aload_n hx hb dX3_readFact_55 rfl (lv_at hl 1 rfl) ?_
      refine tk_Vi hC hK hw hT hA hE hSR kC_at3 (by decide) rfl (k_X3_readSign_1 l adK adV dC dI cy ad B (by omega) (by omega) qr s1    w63 H.size hT ) (cwV 0 hC.2.2.2.2 gX3_readFact_X3_readSign rfl rfl rfl (by decide +kernel) ⟨Nat.le_of_ble_eq_true rfl, Nat.le_of_ble_eq_true rfl⟩) rfl hl.1 rfl (Nat.le_of_ble_eq_true rfl) dX3_readFact_56 (fun r66 w68 H locs hp67 hw => ?_)
      obtain ⟨hT, k69, hg80⟩ := hp67
      have hF := hF.tr k69 (by decide)
      rcases hg80 with ⟨rfl, ⟨x70, c71, rx70, tx70⟩⟩ | ⟨g72, g73, ⟨x74, c75, rx74, tx74⟩, ⟨x76, c77, rx76, tx76⟩, ⟨x78, c79, rx78, tx78⟩⟩
      · refine lv_istore (lv' := [(4, .int 16), (3, .int 0), (0, .ref (ad 3)), (1, .int 2), (2, .int v41_2)]) hx hb dX3_readFact_59 hl (by decide) rfl (fun ls hl => ?_)
        refine lv_aload_n hx hb dX3_readFact_61 rfl (lv_at hl 2 rfl) ?_
        refine tk_Vv hC hK hw hT hA hE hSR kC_at3 (by decide) rfl (k_X3_readSum_2 l adK adV dC dI cy ad B (by omega) (by omega) qr s1 hqr   w68 H.size hT x70 c71 (show 1 ≤ x70.toInt by omega) (show x70.toInt ≤ 3205 by omega)) (cwV 0 hC.2.2.2.2 gX3_readFact_X3_readSum rfl rfl rfl (by decide +kernel) ⟨Nat.le_of_ble_eq_true rfl, Nat.le_of_ble_eq_true rfl⟩) rfl hl.1 rfl (Nat.le_of_ble_eq_true rfl) dX3_readFact_62 (fun w83 H locs hp82 hw => ?_)
        obtain ⟨hT, k84, hg87⟩ := hp82
        have hF := hF.tr k84 (by decide)
        have c88 := k84.gi kC_at1 (by decide) c71
        obtain ⟨x85, c86, rx85, tx85⟩ := hg87
        have ex85 : x85.toInt = x70.toInt := by rw [← c88.symm.trans c86]
        refine lv_aload_n hx hb dX3_readFact_65 rfl (lv_at hl 2 rfl) ?_
        refine tk_getQ hC hK hw hT hqr (by decide) hinX3 kC_at3 (by decide) rfl 1 (by decide) (List.mem_of_getElem? (i := 2) rfl) rfl rfl dX3_readFact_66 ?_
        refine lv_iload hx hb dX3_readFact_69 (lv_at hl 0 rfl) ?_
        refine tk_Vv hC hK hw hT hA hE hSR hqr (by decide) rfl (k_X2_addToken_1 l adK adV dC dI cy ad B (by omega) (by omega) qr s1   qr hqr 16 w83 H.size hT ) (cwV 1 hC.2.2.2.2 gX3_readFact_X2_addToken rfl rfl rfl (by decide +kernel) ⟨Nat.le_of_ble_eq_true rfl, Nat.le_of_ble_eq_true rfl⟩) rfl hl.1 rfl (Nat.le_of_ble_eq_true rfl) dX3_readFact_71 (fun w91 H locs hp90 hw => ?_)
        obtain ⟨hT, k92, hg95⟩ := hp90
        have hF := hF.tr k92 (by decide)
        have c96 := k92.gi kC_at1 (by decide) c88
        obtain ⟨x93, c94, rx93, tx93⟩ := hg95
        refine lv_goto (tgt := 160) hx hb dX3_readFact_74 (by decide) ?_
        exact J160 v41_2 0 H locs ls w91 (show 0 ≤ v41_2.toInt by omega) (show v41_2.toInt ≤ 1 by omega) (by decide) (by decide)  hw hT hF  (lv_sub hl [2, 3, 4, 1] rfl)
      · refine lv_istore (lv' := [(4, .int r66), (3, .int 0), (0, .ref (ad 3)), (1, .int 2), (2, .int v41_2)]) hx hb dX3_readFact_59 hl (by decide) rfl (fun ls hl => ?_)
        refine lv_aload_n hx hb dX3_readFact_61 rfl (lv_at hl 2 rfl) ?_
        refine tk_Vv hC hK hw hT hA hE hSR kC_at3 (by decide) rfl (k_X3_readSum_3 l adK adV dC dI cy ad B (by omega) (by omega) qr s1 hqr   w68 H.size hT ) (cwV 0 hC.2.2.2.2 gX3_readFact_X3_readSum rfl rfl rfl (by decide +kernel) ⟨Nat.le_of_ble_eq_true rfl, Nat.le_of_ble_eq_true rfl⟩) rfl hl.1 rfl (Nat.le_of_ble_eq_true rfl) dX3_readFact_62 (fun w99 H locs hp98 hw => ?_)
        obtain ⟨hT, k100, hg101⟩ := hp98
        have hF := hF.tr k100 (by decide)
        have c102 := k100.gi kC_at1 (by decide) c75
        clear hg101
        refine lv_aload_n hx hb dX3_readFact_65 rfl (lv_at hl 2 rfl) ?_
        refine tk_getQ hC hK hw hT hqr (by decide) hinX3 kC_at3 (by decide) rfl 1 (by decide) (List.mem_of_getElem? (i := 2) rfl) rfl rfl dX3_readFact_66 ?_
        refine lv_iload hx hb dX3_readFact_69 (lv_at hl 0 rfl) ?_
        refine tk_Vv hC hK hw hT hA hE hSR hqr (by decide) rfl (k_X2_addToken_1 l adK adV dC dI cy ad B (by omega) (by omega) qr s1   qr hqr r66 w99 H.size hT ) (cwV 1 hC.2.2.2.2 gX3_readFact_X2_addToken rfl rfl rfl (by decide +kernel) ⟨Nat.le_of_ble_eq_true rfl, Nat.le_of_ble_eq_true rfl⟩) rfl hl.1 rfl (Nat.le_of_ble_eq_true rfl) dX3_readFact_71 (fun w105 H locs hp104 hw => ?_)
        obtain ⟨hT, k106, hg109⟩ := hp104
        have hF := hF.tr k106 (by decide)
        have c110 := k106.gi kC_at1 (by decide) c102
        obtain ⟨x107, c108, rx107, tx107⟩ := hg109
        refine lv_goto (tgt := 160) hx hb dX3_readFact_74 (by decide) ?_
        exact J160 v41_2 0 H locs ls w105 (show 0 ≤ v41_2.toInt by omega) (show v41_2.toInt ≤ 1 by omega) (by decide) (by decide)  hw hT hF  (lv_sub hl [2, 3, 4, 1] rfl)
  refine lv_aload_n hx hb dX3_readFact_0 rfl (lv_at hl 0 rfl) ?_
  refine tk_getA hC hK hw hT hinX3 kC_at3 (by decide) rfl 0 (by decide) (List.mem_of_getElem? (i := 1) rfl) rfl rfl dX3_readFact_1 ?_
  refine tk_Vi hC hK hw hT hA hE hSR kC_at1 (by decide) rfl (k_X6_isFaulty_2 l adK adV dC dI cy ad B (by omega) (by omega) qr s1    w0 s.heap.size hT cf0_) (cwV 0 hC.2.2.2.2 gX3_readFact_X6_isFaulty rfl rfl rfl (by decide +kernel) ⟨Nat.le_of_ble_eq_true rfl, Nat.le_of_ble_eq_true rfl⟩) rfl hl.1 rfl (Nat.le_of_ble_eq_true rfl) dX3_readFact_4 (fun r111 w113 H locs hp112 hw => ?_)
  obtain ⟨hT, k114, hg117⟩ := hp112
  have hF := hF.tr k114 (by decide)
  have c118 := k114.gi kC_at1 (by decide) cf0_
  obtain ⟨rfl, ⟨x115, c116, rx115, tx115⟩⟩ := hg117
  have ex115 : x115.toInt = (0 : Int) := by rw [show x115 = 0 from c116.symm.trans c118]; decide
  refine lv_if_eq (tgt := 11) hx hb dX3_readFact_7 (by decide) (fun _ => ?_) (fun c => absurd (by decide) c)
  refine lv_aload_n hx hb dX3_readFact_11 rfl (lv_at hl 0 rfl) ?_
  refine tk_getA hC hK hw hT hinX3 kC_at3 (by decide) rfl 0 (by decide) (List.mem_of_getElem? (i := 1) rfl) rfl rfl dX3_readFact_12 ?_
  refine va_ldcS hx hb hC.2.2.2.1 hSR.2.2.2.2.1 dX3_readFact_15 ?_
  refine tk_Vi hC hK hw hT hA hE hSR kC_at1 (by decide) rfl (k_X6_takeWord_4 l adK adV dC dI cy ad B (by omega) (by omega) qr s1    w113 H.size hT ) (cwV 1 hC.2.2.2.2 gX3_readFact_X6_takeWord rfl rfl rfl (by decide +kernel) ⟨Nat.le_of_ble_eq_true rfl, Nat.le_of_ble_eq_true rfl⟩) rfl hl.1 rfl (Nat.le_of_ble_eq_true rfl) dX3_readFact_17 (fun r119 w121 H locs hp120 hw => ?_)
  obtain ⟨hT, k122, hg125⟩ := hp120
  have hF := hF.tr k122 (by decide)
  have c126 := k122.gi kC_at1 (by decide) c118
  rcases hg125 with rfl | ⟨rfl, ⟨x123, c124, rx123, tx123⟩⟩
  · refine lv_istore_n (lv' := [(2, .int 0), (0, .ref (ad 3)), (1, .int 2)]) hx hb dX3_readFact_20 rfl hl (by decide) rfl (fun ls hl => ?_)
    refine lv_iload_n hx hb dX3_readFact_21 rfl (lv_at hl 0 rfl) ?_
    refine lv_if_ne (tgt := 41) hx hb dX3_readFact_22 (by decide) (fun c => absurd (by decide) c) (fun _ => ?_)
    refine lv_aload_n hx hb dX3_readFact_25 rfl (lv_at hl 1 rfl) ?_
    refine tk_getA hC hK hw hT hinX3 kC_at3 (by decide) rfl 0 (by decide) (List.mem_of_getElem? (i := 1) rfl) rfl rfl dX3_readFact_26 ?_
    refine lv_bipush (v := 91) hx hb dX3_readFact_29 (by decide) ?_
    refine tk_Vi hC hK hw hT hA hE hSR kC_at1 (by decide) rfl (k_X6_takeByte_2 l adK adV dC dI cy ad B (by omega) (by omega) qr s1    w121 H.size hT ) (cwV 1 hC.2.2.2.2 gX3_readFact_X6_takeByte rfl rfl rfl (by decide +kernel) ⟨Nat.le_of_ble_eq_true rfl, Nat.le_of_ble_eq_true rfl⟩) rfl hl.1 rfl (Nat.le_of_ble_eq_true rfl) dX3_readFact_31 (fun r127 w129 H locs hp128 hw => ?_)
    obtain ⟨hT, k130, hg135⟩ := hp128
    have hF := hF.tr k130 (by decide)
    have c136 := k130.gi kC_at1 (by decide) c126
    rcases hg135 with rfl | ⟨rfl, ⟨x131, c132, rx131, tx131⟩, ⟨x133, c134, rx133, tx133⟩⟩
    · refine lv_if_eq (tgt := 41) hx hb dX3_readFact_34 (by decide) (fun _ => ?_) (fun c => absurd (by decide) c)
      exact J41 0 H locs ls w129 (by decide) (by decide)  hw hT hF c136 (lv_sub hl [1, 2, 0] rfl)
    · refine lv_if_eq (tgt := 41) hx hb dX3_readFact_34 (by decide) (fun c => absurd c (by decide)) (fun _ => ?_)
      refine lv_iconst (v := 1) hx hb dX3_readFact_37 (by decide) ?_
      refine lv_goto (tgt := 42) hx hb dX3_readFact_38 (by decide) ?_
      refine lv_istore_n (lv' := [(3, .int 1), (2, .int 0), (0, .ref (ad 3)), (1, .int 2)]) hx hb dX3_readFact_42 rfl hl (by decide) rfl (fun ls hl => ?_)
      refine lv_iload_n hx hb dX3_readFact_43 rfl (lv_at hl 1 rfl) ?_
      refine lv_if_ne (tgt := 77) hx hb dX3_readFact_44 (by decide) (fun c => absurd (by decide) c) (fun _ => ?_)
      refine lv_iload_n hx hb dX3_readFact_47 rfl (lv_at hl 0 rfl) ?_
      refine lv_if_ne (tgt := 77) hx hb dX3_readFact_48 (by decide) (fun _ => ?_) (fun c => absurd c (by decide))
      exact J77 0 1 H locs ls w129 (by decide) (by decide) (by decide) (by decide)  hw hT hF c136 (lv_sub hl [2, 3, 1, 0] rfl)
  · refine lv_istore_n (lv' := [(2, .int 1), (0, .ref (ad 3)), (1, .int 2)]) hx hb dX3_readFact_20 rfl hl (by decide) rfl (fun ls hl => ?_)
    refine lv_iload_n hx hb dX3_readFact_21 rfl (lv_at hl 0 rfl) ?_
    refine lv_if_ne (tgt := 41) hx hb dX3_readFact_22 (by decide) (fun _ => ?_) (fun c => absurd c (by decide))
    exact J41 1 H locs ls w121 (by decide) (by decide)  hw hT hF c126 (lv_sub hl [1, 2, 0] rfl)
abbrev P_X3_readTest_3 (ad : Nat → Nat) (cy : Nat → ClassId) (B : Int) (qr : Nat) (s1 : Int)  (w0 : va_W) : va_W → Prop := fun u => TW ksC ad cy B qr s1 u ∧ FE ksC [(2, 3, 3), (3, 2, 2), (6, 1, 1), (6, 3, 3), (6, 4, 4), (22, 0, 13), (23, 0, 400)] w0 u ∧ ((True))
set_option maxHeartbeats 4000000 in
set_option maxRecDepth 100000 in
theorem k_X3_readTest_3 (l : Launch) (adK adV : Nat → Nat) (dC : Nat → ClassId) (dI : Nat → Nat → Nat) (cy : Nat → ClassId) (ad : Nat → Nat) (B : Int) (hB0 : 2147483648 ≤ B) (hB1 : B ≤ 1152921504606846976) (qr : Nat) (s1 : Int) (hqr : ksC[qr]? = some 2)  (w0 : va_W) (sz : Nat) (hT : TW ksC ad cy B qr s1 w0) (cf0_ : gi w0 1 4 = 0) : Met l yX3_readTest wsX3_readTest ({ frames := 25, cells := 0, slots := 0, locals := 611 }) (va_Pc [.ref (ad 3), .int 2] (wpreS adK adV dC dI cy sz w0)) (va_Qv (P_X3_readTest_3 ad cy B qr s1  w0) (fun u : va_W => wpost dC dI cy (va_A w0 sz) u) (va_A w0 sz)) 0 0 (va_A w0 sz) := by
  refine Met.ofW (cc := cX3_readTest) (maxL := 4) (ret := none) (by decide) rfl ?_
  intro p e s m args below meth c s₁ Bk hml hv
  obtain ⟨rfl, ⟨hsz, hP, hK, hD0⟩, hE, hSR⟩ := hv
  have hx := Bk.exec
  have hb := Bk.bytes
  have hr := Bk.returns
  have hlocks := Bk.notSynchronized
  have hC : CallFix p m c cX3_readTest 4 s _ wsX3_readTest RX3 := ⟨hx, hb, hml, findClass_of_methodNamed Bk.named, atoms_spec (ws := wsX3_readTest) Bk.pre⟩
  subst hsz
  have hD := hD0.self (sz := s.heap.size)
  generalize hAe : va_A w0 s.heap.size = A at hD hE ⊢
  have hA : ∀ q : Nat, s.heap.size ≤ q → A q := fun q h => by rw [← hAe]; exact Or.inr h
  have hw : Wd dC dI A s.heap s.heap [] w0 := ⟨hP, hD, va_S.rf⟩
  have hF : FE ksC [(2, 3, 3), (3, 2, 2), (6, 1, 1), (6, 3, 3), (6, 4, 4), (22, 0, 13), (23, 0, 400)] w0 w0 := FE.rf
  have hl := lv_entry ([.ref (ad 3), .int 2]) (n := 4) (Nat.le_of_ble_eq_true rfl)
  rw [lg_entry_eq]
  generalize (lg_sl ([.ref (ad 3), .int 2]) ++ List.replicate (4 - (lg_sl ([.ref (ad 3), .int 2])).length) Slot.unset).toArray = ls at hl ⊢
  have hl : lv_has ls 4 [(0, .ref (ad 3)), (1, .int 2)] := hl
  generalize hloc : ([] : List Loc) = locs at hw ⊢
  have hinX3 : ∀ w ∈ u_ws RX3 TX3 3, w ∈ wsX3_readTest := fun _ h => List.mem_cons_of_mem _ (List.mem_append_left _ (List.mem_append_left _ (List.mem_append_right _ (h))))
  have J86 : ∀ (v86_2 : Int32) (v86_3 : Int32) (H : Heap) (locs : List Loc) (ls : Array Slot) (w1 : va_W), (-1) ≤ v86_2.toInt → v86_2.toInt ≤ 21 → 0 ≤ v86_3.toInt → v86_3.toInt ≤ 400 → Wd dC dI A s.heap H locs w1 → TW ksC ad cy B qr s1 w1 → FE ksC [(2, 3, 3), (3, 2, 2), (6, 1, 1), (6, 3, 3), (6, 4, 4), (22, 0, 13), (23, 0, 400)] w0 w1 → lv_has ls 4 [(0, .ref (ad 3)), (1, .int 2), (2, .int v86_2), (3, .int v86_3)] → W p l e ({ frames := 25, cells := 0, slots := 0, locals := 611 }) s m (List.toArray [.ref (ad 3), .int 2]) below meth c H locs 0 0 (MQ below (va_Qv (P_X3_readTest_3 ad cy B qr s1  w0) (fun u : va_W => wpost dC dI cy A u) A) (List.toArray [.ref (ad 3), .int 2]) s 0 0 A) (F0 m 86 ls []) := by
    intro v86_2 v86_3 H locs ls w1 r2 t3 r4 t5 hw hT hF hl
    refine lv_aload_n hx hb dX3_readTest_86 rfl (lv_at hl 0 rfl) ?_
    refine lv_iload_n hx hb dX3_readTest_87 rfl (lv_at hl 2 rfl) ?_
    refine tk_Vv hC hK hw hT hA hE hSR kC_at3 (by decide) rfl (k_X3_addWaiting_1 l adK adV dC dI cy ad B (by omega) (by omega) qr s1 hqr  v86_2 w1 H.size hT ) (cwV 1 hC.2.2.2.2 gX3_readTest_X3_addWaiting rfl rfl rfl (by decide +kernel) ⟨Nat.le_of_ble_eq_true rfl, Nat.le_of_ble_eq_true rfl⟩) rfl hl.1 rfl (Nat.le_of_ble_eq_true rfl) dX3_readTest_88 (fun w8 H locs hp7 hw => ?_)
    obtain ⟨hT, k9, hg10⟩ := hp7
    have hF := hF.tr k9 (by decide)
    clear hg10
    exact tk_vret hC hr hlocks hK ⟨hT, hF, trivial⟩ hw dX3_readTest_91
  have L9 : ∀ (n9 : Nat) (v9_2 : Int32) (v9_3 : Int32) (H : Heap) (locs : List Loc) (ls : Array Slot) (w11 : va_W), (-1) ≤ v9_2.toInt → v9_2.toInt ≤ 21 → 0 ≤ v9_3.toInt → v9_3.toInt ≤ 400 → (400 - v9_3.toInt).toNat < n9 → Wd dC dI A s.heap H locs w11 → TW ksC ad cy B qr s1 w11 → FE ksC [(2, 3, 3), (3, 2, 2), (6, 1, 1), (6, 3, 3), (6, 4, 4), (22, 0, 13), (23, 0, 400)] w0 w11 → lv_has ls 4 [(0, .ref (ad 3)), (1, .int 2), (2, .int v9_2), (3, .int v9_3)] → W p l e ({ frames := 25, cells := 0, slots := 0, locals := 611 }) s m (List.toArray [.ref (ad 3), .int 2]) below meth c H locs 0 0 (MQ below (va_Qv (P_X3_readTest_3 ad cy B qr s1  w0) (fun u : va_W => wpost dC dI cy A u) A) (List.toArray [.ref (ad 3), .int 2]) s 0 0 A) (F0 m 9 ls []) := by
    intro n9
    induction n9 with
    | zero => intro v9_2 v9_3 H locs ls w11 r12 t13 r14 t15 hm9 hw hT hF hl; omega
    | succ n9 ih9 =>
      intro v9_2 v9_3 H locs ls w11 r12 t13 r14 t15 hm9 hw hT hF hl
      have J80 : ∀ (v80_2 : Int32) (H : Heap) (locs : List Loc) (ls : Array Slot) (w16 : va_W), (-1) ≤ v80_2.toInt → v80_2.toInt ≤ 21 → 0 ≤ v9_3.toInt → v9_3.toInt ≤ 399 → Wd dC dI A s.heap H locs w16 → TW ksC ad cy B qr s1 w16 → FE ksC [(2, 3, 3), (3, 2, 2), (6, 1, 1), (6, 3, 3), (6, 4, 4), (22, 0, 13), (23, 0, 400)] w0 w16 → lv_has ls 4 [(0, .ref (ad 3)), (1, .int 2), (2, .int v80_2), (3, .int v9_3)] → W p l e ({ frames := 25, cells := 0, slots := 0, locals := 611 }) s m (List.toArray [.ref (ad 3), .int 2]) below meth c H locs 0 0 (MQ below (va_Qv (P_X3_readTest_3 ad cy B qr s1  w0) (fun u : va_W => wpost dC dI cy A u) A) (List.toArray [.ref (ad 3), .int 2]) s 0 0 A) (F0 m 80 ls []) := by
        intro v80_2 H locs ls w16 r17 t18 r19 t20 hw hT hF hl
        obtain ⟨x21, ex21⟩ : ∃ y : Int32, y = v9_3 + Int32.ofInt 1 := ⟨_, rfl⟩
        refine lv_iinc (v := x21) (lv' := [(3, .int x21), (0, .ref (ad 3)), (1, .int 2), (2, .int v80_2)]) hx hb dX3_readTest_80 hl (k := 3) rfl ex21.symm (by decide) rfl (fun ls hl => ?_)
        have ex21 : x21.toInt = v9_3.toInt + 1 := by rw [ex21]; exact wk_add (y := 1) (show -2147483648 ≤ v9_3.toInt + 1 by omega) (show v9_3.toInt + 1 ≤ 2147483647 by omega)
        refine lv_goto (tgt := 9) hx hb dX3_readTest_83 (by decide) ?_
        exact ih9 v80_2 x21 H locs ls w16 (show (-1) ≤ v80_2.toInt by omega) (show v80_2.toInt ≤ 21 by omega) (show 0 ≤ x21.toInt by omega) (show x21.toInt ≤ 400 by omega) (show (400 - x21.toInt).toNat < n9 by omega) hw hT hF  (lv_sub hl [1, 2, 3, 0] rfl)
      refine lv_iload_n hx hb dX3_readTest_9 rfl (lv_at hl 3 rfl) ?_
      refine lv_sipush (v := 400) hx hb dX3_readTest_10 (by decide) ?_
      refine lv_icmp_ge (tgt := 86) hx hb dX3_readTest_13 (by decide) (fun c22 => ?_) (fun c22 => ?_)
      · have c22 : (400 : Int) ≤ v9_3.toInt := wk_le.mp c22
        exact J86 v9_2 v9_3 H locs ls w11 (show (-1) ≤ v9_2.toInt by omega) (show v9_2.toInt ≤ 21 by omega) (show 0 ≤ v9_3.toInt by omega) (show v9_3.toInt ≤ 400 by omega)  hw hT hF  (lv_sub hl [0, 1, 2, 3] rfl)
      · have c22 : v9_3.toInt < (400 : Int) := wk_leF c22
        refine lv_aload_n hx hb dX3_readTest_16 rfl (lv_at hl 0 rfl) ?_
        refine tk_getA hC hK hw hT hinX3 kC_at3 (by decide) rfl 0 (by decide) (List.mem_of_getElem? (i := 1) rfl) rfl rfl dX3_readTest_17 ?_
        refine tk_Vi hC hK hw hT hA hE hSR kC_at1 (by decide) rfl (k_X6_isFaulty_1 l adK adV dC dI cy ad B (by omega) (by omega) qr s1    w11 H.size hT ) (cwV 0 hC.2.2.2.2 gX3_readTest_X6_isFaulty rfl rfl rfl (by decide +kernel) ⟨Nat.le_of_ble_eq_true rfl, Nat.le_of_ble_eq_true rfl⟩) rfl hl.1 rfl (Nat.le_of_ble_eq_true rfl) dX3_readTest_20 (fun r23 w25 H locs hp24 hw => ?_)
        obtain ⟨hT, k26, hg31⟩ := hp24
        have hF := hF.tr k26 (by decide)
        rcases hg31 with ⟨rfl, ⟨x27, c28, rx27, tx27⟩⟩ | ⟨rfl, ⟨x29, c30, rx29, tx29⟩⟩
        · refine lv_if_ne (tgt := 86) hx hb dX3_readTest_23 (by decide) (fun c => absurd (by decide) c) (fun _ => ?_)
          refine lv_aload_n hx hb dX3_readTest_26 rfl (lv_at hl 0 rfl) ?_
          refine tk_getA hC hK hw hT hinX3 kC_at3 (by decide) rfl 0 (by decide) (List.mem_of_getElem? (i := 1) rfl) rfl rfl dX3_readTest_27 ?_
          refine va_ldcS hx hb hC.2.2.2.1 hSR.2.2.2.2.2.2.1 dX3_readTest_30 ?_
          refine tk_Vi hC hK hw hT hA hE hSR kC_at1 (by decide) rfl (k_X6_takeWord_2 l adK adV dC dI cy ad B (by omega) (by omega) qr s1    w25 H.size hT ) (cwV 1 hC.2.2.2.2 gX3_readTest_X6_takeWord rfl rfl rfl (by decide +kernel) ⟨Nat.le_of_ble_eq_true rfl, Nat.le_of_ble_eq_true rfl⟩) rfl hl.1 rfl (Nat.le_of_ble_eq_true rfl) dX3_readTest_32 (fun r32 w34 H locs hp33 hw => ?_)
          obtain ⟨hT, k35, hg38⟩ := hp33
          have hF := hF.tr k35 (by decide)
          have c39 := k35.gi kC_at1 (by decide) c28
          rcases hg38 with rfl | ⟨rfl, ⟨x36, c37, rx36, tx36⟩⟩
          · refine lv_if_eq (tgt := 55) hx hb dX3_readTest_35 (by decide) (fun _ => ?_) (fun c => absurd (by decide) c)
            refine lv_aload_n hx hb dX3_readTest_55 rfl (lv_at hl 0 rfl) ?_
            refine tk_getA hC hK hw hT hinX3 kC_at3 (by decide) rfl 0 (by decide) (List.mem_of_getElem? (i := 1) rfl) rfl rfl dX3_readTest_56 ?_
            refine va_ldcS hx hb hC.2.2.2.1 hSR.2.2.2.2.2.2.2 dX3_readTest_59 ?_
            refine tk_Vi hC hK hw hT hA hE hSR kC_at1 (by decide) rfl (k_X6_takeWord_3 l adK adV dC dI cy ad B (by omega) (by omega) qr s1    w34 H.size hT ) (cwV 1 hC.2.2.2.2 gX3_readTest_X6_takeWord rfl rfl rfl (by decide +kernel) ⟨Nat.le_of_ble_eq_true rfl, Nat.le_of_ble_eq_true rfl⟩) rfl hl.1 rfl (Nat.le_of_ble_eq_true rfl) dX3_readTest_61 (fun r40 w42 H locs hp41 hw => ?_)
            obtain ⟨hT, k43, hg46⟩ := hp41
            have hF := hF.tr k43 (by decide)
            have c47 := k43.gi kC_at1 (by decide) c39
            rcases hg46 with rfl | ⟨rfl, ⟨x44, c45, rx44, tx44⟩⟩
            · refine lv_if_eq (tgt := 86) hx hb dX3_readTest_64 (by decide) (fun _ => ?_) (fun c => absurd (by decide) c)
              exact J86 v9_2 v9_3 H locs ls w42 (show (-1) ≤ v9_2.toInt by omega) (show v9_2.toInt ≤ 21 by omega) (show 0 ≤ v9_3.toInt by omega) (show v9_3.toInt ≤ 400 by omega)  hw hT hF  (lv_sub hl [0, 1, 2, 3] rfl)
            · refine lv_if_eq (tgt := 86) hx hb dX3_readTest_64 (by decide) (fun c => absurd c (by decide)) (fun _ => ?_)
              refine lv_aload_n hx hb dX3_readTest_67 rfl (lv_at hl 0 rfl) ?_
              refine lv_iload_n hx hb dX3_readTest_68 rfl (lv_at hl 2 rfl) ?_
              refine tk_Vv hC hK hw hT hA hE hSR kC_at3 (by decide) rfl (k_X3_addWaiting_1 l adK adV dC dI cy ad B (by omega) (by omega) qr s1 hqr  v9_2 w42 H.size hT ) (cwV 1 hC.2.2.2.2 gX3_readTest_X3_addWaiting rfl rfl rfl (by decide +kernel) ⟨Nat.le_of_ble_eq_true rfl, Nat.le_of_ble_eq_true rfl⟩) rfl hl.1 rfl (Nat.le_of_ble_eq_true rfl) dX3_readTest_69 (fun w50 H locs hp49 hw => ?_)
              obtain ⟨hT, k51, hg52⟩ := hp49
              have hF := hF.tr k51 (by decide)
              have c53 := k51.gi kC_at1 (by decide) c47
              have c54 := k51.gi kC_at1 (by decide) c45
              clear hg52
              refine lv_bipush (v := 21) hx hb dX3_readTest_72 (by decide) ?_
              refine lv_istore_n (lv' := [(2, .int 21), (0, .ref (ad 3)), (1, .int 2), (3, .int v9_3)]) hx hb dX3_readTest_74 rfl hl (by decide) rfl (fun ls hl => ?_)
              refine lv_aload_n hx hb dX3_readTest_75 rfl (lv_at hl 1 rfl) ?_
              refine lv_iload_n hx hb dX3_readTest_76 rfl (lv_at hl 2 rfl) ?_
              refine tk_Vv hC hK hw hT hA hE hSR kC_at3 (by decide) rfl (k_X3_readFact_3 l adK adV dC dI cy ad B (by omega) (by omega) qr s1 hqr   w50 H.size hT (c53.trans (wk_eq.mpr (show x27.toInt = 0 by omega)))) (cwV 1 hC.2.2.2.2 gX3_readTest_X3_readFact rfl rfl rfl (by decide +kernel) ⟨Nat.le_of_ble_eq_true rfl, Nat.le_of_ble_eq_true rfl⟩) rfl hl.1 rfl (Nat.le_of_ble_eq_true rfl) dX3_readTest_77 (fun w57 H locs hp56 hw => ?_)
              obtain ⟨hT, k58, hg59⟩ := hp56
              have hF := hF.tr k58 (by decide)
              clear hg59
              exact J80 21 H locs ls w57 (by decide) (by decide) (show 0 ≤ v9_3.toInt by omega) (show v9_3.toInt ≤ 399 by omega)  hw hT hF  (lv_sub hl [1, 2, 0, 3] rfl)
          · refine lv_if_eq (tgt := 55) hx hb dX3_readTest_35 (by decide) (fun c => absurd c (by decide)) (fun _ => ?_)
            refine lv_aload_n hx hb dX3_readTest_38 rfl (lv_at hl 0 rfl) ?_
            refine lv_iload_n hx hb dX3_readTest_39 rfl (lv_at hl 1 rfl) ?_
            refine tk_Vv hC hK hw hT hA hE hSR kC_at3 (by decide) rfl (k_X3_readFact_3 l adK adV dC dI cy ad B (by omega) (by omega) qr s1 hqr   w34 H.size hT (c39.trans (wk_eq.mpr (show x27.toInt = 0 by omega)))) (cwV 1 hC.2.2.2.2 gX3_readTest_X3_readFact rfl rfl rfl (by decide +kernel) ⟨Nat.le_of_ble_eq_true rfl, Nat.le_of_ble_eq_true rfl⟩) rfl hl.1 rfl (Nat.le_of_ble_eq_true rfl) dX3_readTest_40 (fun w62 H locs hp61 hw => ?_)
            obtain ⟨hT, k63, hg64⟩ := hp61
            have hF := hF.tr k63 (by decide)
            clear hg64
            refine lv_aload_n hx hb dX3_readTest_43 rfl (lv_at hl 0 rfl) ?_
            refine tk_getQ hC hK hw hT hqr (by decide) hinX3 kC_at3 (by decide) rfl 1 (by decide) (List.mem_of_getElem? (i := 2) rfl) rfl rfl dX3_readTest_44 ?_
            refine lv_bipush (v := 20) hx hb dX3_readTest_47 (by decide) ?_
            refine tk_Vv hC hK hw hT hA hE hSR hqr (by decide) rfl (k_X2_addToken_1 l adK adV dC dI cy ad B (by omega) (by omega) qr s1   qr hqr 20 w62 H.size hT ) (cwV 1 hC.2.2.2.2 gX3_readTest_X2_addToken rfl rfl rfl (by decide +kernel) ⟨Nat.le_of_ble_eq_true rfl, Nat.le_of_ble_eq_true rfl⟩) rfl hl.1 rfl (Nat.le_of_ble_eq_true rfl) dX3_readTest_49 (fun w67 H locs hp66 hw => ?_)
            obtain ⟨hT, k68, hg71⟩ := hp66
            have hF := hF.tr k68 (by decide)
            obtain ⟨x69, c70, rx69, tx69⟩ := hg71
            refine lv_goto (tgt := 80) hx hb dX3_readTest_52 (by decide) ?_
            exact J80 v9_2 H locs ls w67 (show (-1) ≤ v9_2.toInt by omega) (show v9_2.toInt ≤ 21 by omega) (show 0 ≤ v9_3.toInt by omega) (show v9_3.toInt ≤ 399 by omega)  hw hT hF  (lv_sub hl [0, 1, 2, 3] rfl)
        · refine lv_if_ne (tgt := 86) hx hb dX3_readTest_23 (by decide) (fun _ => ?_) (fun c => absurd c (by decide))
          exact J86 v9_2 v9_3 H locs ls w25 (show (-1) ≤ v9_2.toInt by omega) (show v9_2.toInt ≤ 21 by omega) (show 0 ≤ v9_3.toInt by omega) (show v9_3.toInt ≤ 400 by omega)  hw hT hF  (lv_sub hl [0, 1, 2, 3] rfl)
  refine lv_aload_n hx hb dX3_readTest_0 rfl (lv_at hl 0 rfl) ?_
  refine lv_iload_n hx hb dX3_readTest_1 rfl (lv_at hl 1 rfl) ?_
  refine tk_Vv hC hK hw hT hA hE hSR kC_at3 (by decide) rfl (k_X3_readFact_3 l adK adV dC dI cy ad B (by omega) (by omega) qr s1 hqr   w0 s.heap.size hT cf0_) (cwV 1 hC.2.2.2.2 gX3_readTest_X3_readFact rfl rfl rfl (by decide +kernel) ⟨Nat.le_of_ble_eq_true rfl, Nat.le_of_ble_eq_true rfl⟩) rfl hl.1 rfl (Nat.le_of_ble_eq_true rfl) dX3_readTest_2 (fun w74 H locs hp73 hw => ?_)
  obtain ⟨hT, k75, hg76⟩ := hp73
  have hF := hF.tr k75 (by decide)
  clear hg76
  refine lv_iconst (v := (-1)) hx hb dX3_readTest_5 (by decide) ?_
  refine lv_istore_n (lv' := [(2, .int (-1)), (0, .ref (ad 3)), (1, .int 2)]) hx hb dX3_readTest_6 rfl hl (by decide) rfl (fun ls hl => ?_)
  refine lv_iconst (v := 0) hx hb dX3_readTest_7 (by decide) ?_
  refine lv_istore_n (lv' := [(3, .int 0), (2, .int (-1)), (0, .ref (ad 3)), (1, .int 2)]) hx hb dX3_readTest_8 rfl hl (by decide) rfl (fun ls hl => ?_)
  exact L9 ((400 - (0 : Int)).toNat + 1) (-1) 0 H locs ls w74 (by decide) (by decide) (by decide) (by decide) (Nat.lt_succ_self _) hw hT hF  (lv_sub hl [2, 3, 1, 0] rfl)
abbrev P_X3_readFact_2 (ad : Nat → Nat) (cy : Nat → ClassId) (B : Int) (qr : Nat) (s1 : Int)  (w0 : va_W) : va_W → Prop := fun u => TW ksC ad cy B qr s1 u ∧ FE ksC [(2, 3, 3), (3, 2, 2), (6, 1, 1), (6, 3, 3), (6, 4, 4), (22, 0, 13), (23, 0, 400)] w0 u ∧ ((True))
set_option maxHeartbeats 4000000 in
set_option maxRecDepth 100000 in
theorem k_X3_readFact_2 (l : Launch) (adK adV : Nat → Nat) (dC : Nat → ClassId) (dI : Nat → Nat → Nat) (cy : Nat → ClassId) (ad : Nat → Nat) (B : Int) (hB0 : 2147483648 ≤ B) (hB1 : B ≤ 1152921504606846976) (qr : Nat) (s1 : Int) (hqr : ksC[qr]? = some 2)  (w0 : va_W) (sz : Nat) (hT : TW ksC ad cy B qr s1 w0) (cf0_ : gi w0 1 4 = 0) : Met l yX3_readFact wsX3_readFact ({ frames := 26, cells := 0, slots := 0, locals := 634 }) (va_Pc [.ref (ad 3), .int 1] (wpreS adK adV dC dI cy sz w0)) (va_Qv (P_X3_readFact_2 ad cy B qr s1  w0) (fun u : va_W => wpost dC dI cy (va_A w0 sz) u) (va_A w0 sz)) 0 0 (va_A w0 sz) := by
  refine Met.ofW (cc := cX3_readFact) (maxL := 5) (ret := none) (by decide) rfl ?_
  intro p e s m args below meth c s₁ Bk hml hv
  obtain ⟨rfl, ⟨hsz, hP, hK, hD0⟩, hE, hSR⟩ := hv
  have hx := Bk.exec
  have hb := Bk.bytes
  have hr := Bk.returns
  have hlocks := Bk.notSynchronized
  have hC : CallFix p m c cX3_readFact 5 s _ wsX3_readFact RX3 := ⟨hx, hb, hml, findClass_of_methodNamed Bk.named, atoms_spec (ws := wsX3_readFact) Bk.pre⟩
  subst hsz
  have hD := hD0.self (sz := s.heap.size)
  generalize hAe : va_A w0 s.heap.size = A at hD hE ⊢
  have hA : ∀ q : Nat, s.heap.size ≤ q → A q := fun q h => by rw [← hAe]; exact Or.inr h
  have hw : Wd dC dI A s.heap s.heap [] w0 := ⟨hP, hD, va_S.rf⟩
  have hF : FE ksC [(2, 3, 3), (3, 2, 2), (6, 1, 1), (6, 3, 3), (6, 4, 4), (22, 0, 13), (23, 0, 400)] w0 w0 := FE.rf
  have hl := lv_entry ([.ref (ad 3), .int 1]) (n := 5) (Nat.le_of_ble_eq_true rfl)
  rw [lg_entry_eq]
  generalize (lg_sl ([.ref (ad 3), .int 1]) ++ List.replicate (5 - (lg_sl ([.ref (ad 3), .int 1])).length) Slot.unset).toArray = ls at hl ⊢
  have hl : lv_has ls 5 [(0, .ref (ad 3)), (1, .int 1)] := hl
  generalize hloc : ([] : List Loc) = locs at hw ⊢
  have hinX3 : ∀ w ∈ u_ws RX3 TX3 3, w ∈ wsX3_readFact := fun _ h => List.mem_cons_of_mem _ (List.mem_append_left _ (List.mem_append_left _ (List.mem_append_right _ (h))))
  have J160 : ∀ (v160_2 : Int32) (v160_3 : Int32) (H : Heap) (locs : List Loc) (ls : Array Slot) (w1 : va_W), 0 ≤ v160_2.toInt → v160_2.toInt ≤ 1 → 0 ≤ v160_3.toInt → v160_3.toInt ≤ 1 → Wd dC dI A s.heap H locs w1 → TW ksC ad cy B qr s1 w1 → FE ksC [(2, 3, 3), (3, 2, 2), (6, 1, 1), (6, 3, 3), (6, 4, 4), (22, 0, 13), (23, 0, 400)] w0 w1 → lv_has ls 5 [(0, .ref (ad 3)), (1, .int 1), (2, .int v160_2), (3, .int v160_3)] → W p l e ({ frames := 26, cells := 0, slots := 0, locals := 634 }) s m (List.toArray [.ref (ad 3), .int 1]) below meth c H locs 0 0 (MQ below (va_Qv (P_X3_readFact_2 ad cy B qr s1  w0) (fun u : va_W => wpost dC dI cy A u) A) (List.toArray [.ref (ad 3), .int 1]) s 0 0 A) (F0 m 160 ls []) := by
    intro v160_2 v160_3 H locs ls w1 r2 t3 r4 t5 hw hT hF hl
    exact tk_vret hC hr hlocks hK ⟨hT, hF, trivial⟩ hw dX3_readFact_160
  have J77 : ∀ (v77_2 : Int32) (v77_3 : Int32) (H : Heap) (locs : List Loc) (ls : Array Slot) (w6 : va_W), 0 ≤ v77_2.toInt → v77_2.toInt ≤ 1 → 0 ≤ v77_3.toInt → v77_3.toInt ≤ 1 → Wd dC dI A s.heap H locs w6 → TW ksC ad cy B qr s1 w6 → FE ksC [(2, 3, 3), (3, 2, 2), (6, 1, 1), (6, 3, 3), (6, 4, 4), (22, 0, 13), (23, 0, 400)] w0 w6 → gi w6 1 4 = 0 → lv_has ls 5 [(0, .ref (ad 3)), (1, .int 1), (2, .int v77_2), (3, .int v77_3)] → W p l e ({ frames := 26, cells := 0, slots := 0, locals := 634 }) s m (List.toArray [.ref (ad 3), .int 1]) below meth c H locs 0 0 (MQ below (va_Qv (P_X3_readFact_2 ad cy B qr s1  w0) (fun u : va_W => wpost dC dI cy A u) A) (List.toArray [.ref (ad 3), .int 1]) s 0 0 A) (F0 m 77 ls []) := by
    intro v77_2 v77_3 H locs ls w6 r7 t8 r9 t10 hw hT hF c11 hl
    refine lv_iload_n hx hb dX3_readFact_77 rfl (lv_at hl 1 rfl) ?_
    refine lv_bipush (v := 10) hx hb dX3_readFact_78 (by decide) ?_
    refine lv_icmp_lt (tgt := 101) hx hb dX3_readFact_80 (by decide) (fun _ => ?_) (fun c => absurd (by decide) c)
    refine lv_iload_n hx hb dX3_readFact_101 rfl (lv_at hl 2 rfl) ?_
    refine lv_if_eq (tgt := 124) hx hb dX3_readFact_102 (by decide) (fun c12 => ?_) (fun c12 => ?_)
    · have c12 : v77_2.toInt = (0 : Int) := wk_eq.mp c12
      refine lv_aload_n hx hb dX3_readFact_124 rfl (lv_at hl 0 rfl) ?_
      refine lv_iload_n hx hb dX3_readFact_125 rfl (lv_at hl 1 rfl) ?_
      refine lv_iconst (v := 1) hx hb dX3_readFact_126 (by decide) ?_
      refine lv_iadd hx hb dX3_readFact_127 ?_
      refine wk_top 2 (by decide) ?_
      refine tk_Vv hC hK hw hT hA hE hSR kC_at3 (by decide) rfl (k_X3_readTest_3 l adK adV dC dI cy ad B (by omega) (by omega) qr s1 hqr   w6 H.size hT c11) (cwV 1 hC.2.2.2.2 gX3_readFact_X3_readTest rfl rfl rfl (by decide +kernel) ⟨Nat.le_of_ble_eq_true rfl, Nat.le_of_ble_eq_true rfl⟩) rfl hl.1 rfl (Nat.le_of_ble_eq_true rfl) dX3_readFact_128 (fun w15 H locs hp14 hw => ?_)
      obtain ⟨hT, k16, hg17⟩ := hp14
      have hF := hF.tr k16 (by decide)
      clear hg17
      refine lv_aload_n hx hb dX3_readFact_131 rfl (lv_at hl 0 rfl) ?_
      refine tk_getA hC hK hw hT hinX3 kC_at3 (by decide) rfl 0 (by decide) (List.mem_of_getElem? (i := 1) rfl) rfl rfl dX3_readFact_132 ?_
      refine tk_Vi hC hK hw hT hA hE hSR kC_at1 (by decide) rfl (k_X6_isFaulty_1 l adK adV dC dI cy ad B (by omega) (by omega) qr s1    w15 H.size hT ) (cwV 0 hC.2.2.2.2 gX3_readFact_X6_isFaulty rfl rfl rfl (by decide +kernel) ⟨Nat.le_of_ble_eq_true rfl, Nat.le_of_ble_eq_true rfl⟩) rfl hl.1 rfl (Nat.le_of_ble_eq_true rfl) dX3_readFact_135 (fun r18 w20 H locs hp19 hw => ?_)
      obtain ⟨hT, k21, hg26⟩ := hp19
      have hF := hF.tr k21 (by decide)
      rcases hg26 with ⟨rfl, ⟨x22, c23, rx22, tx22⟩⟩ | ⟨rfl, ⟨x24, c25, rx24, tx24⟩⟩
      · refine lv_if_ne (tgt := 160) hx hb dX3_readFact_138 (by decide) (fun c => absurd (by decide) c) (fun _ => ?_)
        refine lv_aload_n hx hb dX3_readFact_141 rfl (lv_at hl 0 rfl) ?_
        refine tk_getA hC hK hw hT hinX3 kC_at3 (by decide) rfl 0 (by decide) (List.mem_of_getElem? (i := 1) rfl) rfl rfl dX3_readFact_142 ?_
        refine lv_bipush (v := 93) hx hb dX3_readFact_145 (by decide) ?_
        refine tk_Vi hC hK hw hT hA hE hSR kC_at1 (by decide) rfl (k_X6_takeByte_3 l adK adV dC dI cy ad B (by omega) (by omega) qr s1    w20 H.size hT ) (cwV 1 hC.2.2.2.2 gX3_readFact_X6_takeByte rfl rfl rfl (by decide +kernel) ⟨Nat.le_of_ble_eq_true rfl, Nat.le_of_ble_eq_true rfl⟩) rfl hl.1 rfl (Nat.le_of_ble_eq_true rfl) dX3_readFact_147 (fun r27 w29 H locs hp28 hw => ?_)
        obtain ⟨hT, k30, hg35⟩ := hp28
        have hF := hF.tr k30 (by decide)
        have c36 := k30.gi kC_at1 (by decide) c23
        rcases hg35 with rfl | ⟨rfl, ⟨x31, c32, rx31, tx31⟩, ⟨x33, c34, rx33, tx33⟩⟩
        · refine lv_if_ne (tgt := 160) hx hb dX3_readFact_150 (by decide) (fun c => absurd (by decide) c) (fun _ => ?_)
          refine lv_aload_n hx hb dX3_readFact_153 rfl (lv_at hl 0 rfl) ?_
          refine tk_getA hC hK hw hT hinX3 kC_at3 (by decide) rfl 0 (by decide) (List.mem_of_getElem? (i := 1) rfl) rfl rfl dX3_readFact_154 ?_
          refine tk_Vv hC hK hw hT hA hE hSR kC_at1 (by decide) rfl (k_X6_blameHere_1 l adK adV dC dI cy ad B (by omega) (by omega) qr s1    w29 H.size hT (c36.trans (wk_eq.mpr (show x22.toInt = 0 by omega)))) (cwV 0 hC.2.2.2.2 gX3_readFact_X6_blameHere rfl rfl rfl (by decide +kernel) ⟨Nat.le_of_ble_eq_true rfl, Nat.le_of_ble_eq_true rfl⟩) rfl hl.1 rfl (Nat.le_of_ble_eq_true rfl) dX3_readFact_157 (fun w39 H locs hp38 hw => ?_)
          obtain ⟨hT, k40, hg43⟩ := hp38
          have hF := hF.tr k40 (by decide)
          obtain ⟨x41, c42, rx41, tx41⟩ := hg43
          exact J160 v77_2 v77_3 H locs ls w39 (show 0 ≤ v77_2.toInt by omega) (show v77_2.toInt ≤ 1 by omega) (show 0 ≤ v77_3.toInt by omega) (show v77_3.toInt ≤ 1 by omega)  hw hT hF  (lv_sub hl [0, 1, 2, 3] rfl)
        · refine lv_if_ne (tgt := 160) hx hb dX3_readFact_150 (by decide) (fun _ => ?_) (fun c => absurd c (by decide))
          exact J160 v77_2 v77_3 H locs ls w29 (show 0 ≤ v77_2.toInt by omega) (show v77_2.toInt ≤ 1 by omega) (show 0 ≤ v77_3.toInt by omega) (show v77_3.toInt ≤ 1 by omega)  hw hT hF  (lv_sub hl [0, 1, 2, 3] rfl)
      · refine lv_if_ne (tgt := 160) hx hb dX3_readFact_138 (by decide) (fun _ => ?_) (fun c => absurd c (by decide))
        exact J160 v77_2 v77_3 H locs ls w20 (show 0 ≤ v77_2.toInt by omega) (show v77_2.toInt ≤ 1 by omega) (show 0 ≤ v77_3.toInt by omega) (show v77_3.toInt ≤ 1 by omega)  hw hT hF  (lv_sub hl [0, 1, 2, 3] rfl)
    · have c12 : ¬ v77_2.toInt = (0 : Int) := wk_eqF c12
      refine lv_aload_n hx hb dX3_readFact_105 rfl (lv_at hl 0 rfl) ?_
      refine lv_iload_n hx hb dX3_readFact_106 rfl (lv_at hl 1 rfl) ?_
      refine lv_iconst (v := 1) hx hb dX3_readFact_107 (by decide) ?_
      refine lv_iadd hx hb dX3_readFact_108 ?_
      refine wk_top 2 (by decide) ?_
      refine tk_Vv hC hK hw hT hA hE hSR kC_at3 (by decide) rfl (k_X3_readFact_3 l adK adV dC dI cy ad B (by omega) (by omega) qr s1 hqr   w6 H.size hT c11) (cwV 1 hC.2.2.2.2 gX3_readFact_X3_readFact rfl rfl rfl (by decide +kernel) ⟨Nat.le_of_ble_eq_true rfl, Nat.le_of_ble_eq_true rfl⟩) rfl hl.1 rfl (Nat.le_of_ble_eq_true rfl) dX3_readFact_109 (fun w46 H locs hp45 hw => ?_)
      obtain ⟨hT, k47, hg48⟩ := hp45
      have hF := hF.tr k47 (by decide)
      clear hg48
      refine lv_aload_n hx hb dX3_readFact_112 rfl (lv_at hl 0 rfl) ?_
      refine tk_getQ hC hK hw hT hqr (by decide) hinX3 kC_at3 (by decide) rfl 1 (by decide) (List.mem_of_getElem? (i := 2) rfl) rfl rfl dX3_readFact_113 ?_
      refine lv_bipush (v := 19) hx hb dX3_readFact_116 (by decide) ?_
      refine tk_Vv hC hK hw hT hA hE hSR hqr (by decide) rfl (k_X2_addToken_1 l adK adV dC dI cy ad B (by omega) (by omega) qr s1   qr hqr 19 w46 H.size hT ) (cwV 1 hC.2.2.2.2 gX3_readFact_X2_addToken rfl rfl rfl (by decide +kernel) ⟨Nat.le_of_ble_eq_true rfl, Nat.le_of_ble_eq_true rfl⟩) rfl hl.1 rfl (Nat.le_of_ble_eq_true rfl) dX3_readFact_118 (fun w51 H locs hp50 hw => ?_)
      obtain ⟨hT, k52, hg55⟩ := hp50
      have hF := hF.tr k52 (by decide)
      obtain ⟨x53, c54, rx53, tx53⟩ := hg55
      refine lv_goto (tgt := 160) hx hb dX3_readFact_121 (by decide) ?_
      exact J160 v77_2 v77_3 H locs ls w51 (show 0 ≤ v77_2.toInt by omega) (show v77_2.toInt ≤ 1 by omega) (show 0 ≤ v77_3.toInt by omega) (show v77_3.toInt ≤ 1 by omega)  hw hT hF  (lv_sub hl [0, 1, 2, 3] rfl)
  have J41 : ∀ (v41_2 : Int32) (H : Heap) (locs : List Loc) (ls : Array Slot) (w56 : va_W), 0 ≤ v41_2.toInt → v41_2.toInt ≤ 1 → Wd dC dI A s.heap H locs w56 → TW ksC ad cy B qr s1 w56 → FE ksC [(2, 3, 3), (3, 2, 2), (6, 1, 1), (6, 3, 3), (6, 4, 4), (22, 0, 13), (23, 0, 400)] w0 w56 → gi w56 1 4 = 0 → lv_has ls 5 [(0, .ref (ad 3)), (1, .int 1), (2, .int v41_2)] → W p l e ({ frames := 26, cells := 0, slots := 0, locals := 634 }) s m (List.toArray [.ref (ad 3), .int 1]) below meth c H locs 0 0 (MQ below (va_Qv (P_X3_readFact_2 ad cy B qr s1  w0) (fun u : va_W => wpost dC dI cy A u) A) (List.toArray [.ref (ad 3), .int 1]) s 0 0 A) (F0 m 41 ls []) := by
    intro v41_2 H locs ls w56 r57 t58 hw hT hF c59 hl
    refine lv_iconst (v := 0) hx hb dX3_readFact_41 (by decide) ?_
    refine lv_istore_n (lv' := [(3, .int 0), (0, .ref (ad 3)), (1, .int 1), (2, .int v41_2)]) hx hb dX3_readFact_42 rfl hl (by decide) rfl (fun ls hl => ?_)
    refine lv_iload_n hx hb dX3_readFact_43 rfl (lv_at hl 3 rfl) ?_
    refine lv_if_ne (tgt := 77) hx hb dX3_readFact_44 (by decide) (fun c60 => ?_) (fun c60 => ?_)
    · have c60 : ¬ v41_2.toInt = (0 : Int) := wk_eqF c60
      exact J77 v41_2 0 H locs ls w56 (show 0 ≤ v41_2.toInt by omega) (show v41_2.toInt ≤ 1 by omega) (by decide) (by decide)  hw hT hF c59 (lv_sub hl [1, 2, 3, 0] rfl)
    · have c60 : v41_2.toInt = (0 : Int) := wk_eq.mp c60
      refine lv_iload_n hx hb dX3_readFact_47 rfl (lv_at hl 0 rfl) ?_
      refine lv_if_ne (tgt := 77) hx hb dX3_readFact_48 (by decide) (fun c => absurd (by decide) c) (fun _ => ?_)
      refine lv_aload_n hx hb dX3_readFact_51 rfl (lv_at hl 1 rfl) ?_
      refine tk_Vv hC hK hw hT hA hE hSR kC_at3 (by decide) rfl (k_X3_readSum_1 l adK adV dC dI cy ad B (by omega) (by omega) qr s1 hqr   w56 H.size hT c59) (cwV 0 hC.2.2.2.2 gX3_readFact_X3_readSum rfl rfl rfl (by decide +kernel) ⟨Nat.le_of_ble_eq_true rfl, Nat.le_of_ble_eq_true rfl⟩) rfl hl.1 rfl (Nat.le_of_ble_eq_true rfl) dX3_readFact_52 (fun w63 H locs hp62 hw => ?_)
      obtain ⟨hT, k64, hg65⟩ := hp62
      have hF := hF.tr k64 (by decide)
      clear hg65
      refine lv_aload_n hx hb dX3_readFact_55 rfl (lv_at hl 1 rfl) ?_
      refine tk_Vi hC hK hw hT hA hE hSR kC_at3 (by decide) rfl (k_X3_readSign_1 l adK adV dC dI cy ad B (by omega) (by omega) qr s1    w63 H.size hT ) (cwV 0 hC.2.2.2.2 gX3_readFact_X3_readSign rfl rfl rfl (by decide +kernel) ⟨Nat.le_of_ble_eq_true rfl, Nat.le_of_ble_eq_true rfl⟩) rfl hl.1 rfl (Nat.le_of_ble_eq_true rfl) dX3_readFact_56 (fun r66 w68 H locs hp67 hw => ?_)
      obtain ⟨hT, k69, hg80⟩ := hp67
      have hF := hF.tr k69 (by decide)
      rcases hg80 with ⟨rfl, ⟨x70, c71, rx70, tx70⟩⟩ | ⟨g72, g73, ⟨x74, c75, rx74, tx74⟩, ⟨x76, c77, rx76, tx76⟩, ⟨x78, c79, rx78, tx78⟩⟩
      · refine lv_istore (lv' := [(4, .int 16), (3, .int 0), (0, .ref (ad 3)), (1, .int 1), (2, .int v41_2)]) hx hb dX3_readFact_59 hl (by decide) rfl (fun ls hl => ?_)
        refine lv_aload_n hx hb dX3_readFact_61 rfl (lv_at hl 2 rfl) ?_
        refine tk_Vv hC hK hw hT hA hE hSR kC_at3 (by decide) rfl (k_X3_readSum_2 l adK adV dC dI cy ad B (by omega) (by omega) qr s1 hqr   w68 H.size hT x70 c71 (show 1 ≤ x70.toInt by omega) (show x70.toInt ≤ 3205 by omega)) (cwV 0 hC.2.2.2.2 gX3_readFact_X3_readSum rfl rfl rfl (by decide +kernel) ⟨Nat.le_of_ble_eq_true rfl, Nat.le_of_ble_eq_true rfl⟩) rfl hl.1 rfl (Nat.le_of_ble_eq_true rfl) dX3_readFact_62 (fun w83 H locs hp82 hw => ?_)
        obtain ⟨hT, k84, hg87⟩ := hp82
        have hF := hF.tr k84 (by decide)
        have c88 := k84.gi kC_at1 (by decide) c71
        obtain ⟨x85, c86, rx85, tx85⟩ := hg87
        have ex85 : x85.toInt = x70.toInt := by rw [← c88.symm.trans c86]
        refine lv_aload_n hx hb dX3_readFact_65 rfl (lv_at hl 2 rfl) ?_
        refine tk_getQ hC hK hw hT hqr (by decide) hinX3 kC_at3 (by decide) rfl 1 (by decide) (List.mem_of_getElem? (i := 2) rfl) rfl rfl dX3_readFact_66 ?_
        refine lv_iload hx hb dX3_readFact_69 (lv_at hl 0 rfl) ?_
        refine tk_Vv hC hK hw hT hA hE hSR hqr (by decide) rfl (k_X2_addToken_1 l adK adV dC dI cy ad B (by omega) (by omega) qr s1   qr hqr 16 w83 H.size hT ) (cwV 1 hC.2.2.2.2 gX3_readFact_X2_addToken rfl rfl rfl (by decide +kernel) ⟨Nat.le_of_ble_eq_true rfl, Nat.le_of_ble_eq_true rfl⟩) rfl hl.1 rfl (Nat.le_of_ble_eq_true rfl) dX3_readFact_71 (fun w91 H locs hp90 hw => ?_)
        obtain ⟨hT, k92, hg95⟩ := hp90
        have hF := hF.tr k92 (by decide)
        have c96 := k92.gi kC_at1 (by decide) c88
        obtain ⟨x93, c94, rx93, tx93⟩ := hg95
        refine lv_goto (tgt := 160) hx hb dX3_readFact_74 (by decide) ?_
        exact J160 v41_2 0 H locs ls w91 (show 0 ≤ v41_2.toInt by omega) (show v41_2.toInt ≤ 1 by omega) (by decide) (by decide)  hw hT hF  (lv_sub hl [2, 3, 4, 1] rfl)
      · refine lv_istore (lv' := [(4, .int r66), (3, .int 0), (0, .ref (ad 3)), (1, .int 1), (2, .int v41_2)]) hx hb dX3_readFact_59 hl (by decide) rfl (fun ls hl => ?_)
        refine lv_aload_n hx hb dX3_readFact_61 rfl (lv_at hl 2 rfl) ?_
        refine tk_Vv hC hK hw hT hA hE hSR kC_at3 (by decide) rfl (k_X3_readSum_3 l adK adV dC dI cy ad B (by omega) (by omega) qr s1 hqr   w68 H.size hT ) (cwV 0 hC.2.2.2.2 gX3_readFact_X3_readSum rfl rfl rfl (by decide +kernel) ⟨Nat.le_of_ble_eq_true rfl, Nat.le_of_ble_eq_true rfl⟩) rfl hl.1 rfl (Nat.le_of_ble_eq_true rfl) dX3_readFact_62 (fun w99 H locs hp98 hw => ?_)
        obtain ⟨hT, k100, hg101⟩ := hp98
        have hF := hF.tr k100 (by decide)
        have c102 := k100.gi kC_at1 (by decide) c75
        clear hg101
        refine lv_aload_n hx hb dX3_readFact_65 rfl (lv_at hl 2 rfl) ?_
        refine tk_getQ hC hK hw hT hqr (by decide) hinX3 kC_at3 (by decide) rfl 1 (by decide) (List.mem_of_getElem? (i := 2) rfl) rfl rfl dX3_readFact_66 ?_
        refine lv_iload hx hb dX3_readFact_69 (lv_at hl 0 rfl) ?_
        refine tk_Vv hC hK hw hT hA hE hSR hqr (by decide) rfl (k_X2_addToken_1 l adK adV dC dI cy ad B (by omega) (by omega) qr s1   qr hqr r66 w99 H.size hT ) (cwV 1 hC.2.2.2.2 gX3_readFact_X2_addToken rfl rfl rfl (by decide +kernel) ⟨Nat.le_of_ble_eq_true rfl, Nat.le_of_ble_eq_true rfl⟩) rfl hl.1 rfl (Nat.le_of_ble_eq_true rfl) dX3_readFact_71 (fun w105 H locs hp104 hw => ?_)
        obtain ⟨hT, k106, hg109⟩ := hp104
        have hF := hF.tr k106 (by decide)
        have c110 := k106.gi kC_at1 (by decide) c102
        obtain ⟨x107, c108, rx107, tx107⟩ := hg109
        refine lv_goto (tgt := 160) hx hb dX3_readFact_74 (by decide) ?_
        exact J160 v41_2 0 H locs ls w105 (show 0 ≤ v41_2.toInt by omega) (show v41_2.toInt ≤ 1 by omega) (by decide) (by decide)  hw hT hF  (lv_sub hl [2, 3, 4, 1] rfl)
  refine lv_aload_n hx hb dX3_readFact_0 rfl (lv_at hl 0 rfl) ?_
  refine tk_getA hC hK hw hT hinX3 kC_at3 (by decide) rfl 0 (by decide) (List.mem_of_getElem? (i := 1) rfl) rfl rfl dX3_readFact_1 ?_
  refine tk_Vi hC hK hw hT hA hE hSR kC_at1 (by decide) rfl (k_X6_isFaulty_2 l adK adV dC dI cy ad B (by omega) (by omega) qr s1    w0 s.heap.size hT cf0_) (cwV 0 hC.2.2.2.2 gX3_readFact_X6_isFaulty rfl rfl rfl (by decide +kernel) ⟨Nat.le_of_ble_eq_true rfl, Nat.le_of_ble_eq_true rfl⟩) rfl hl.1 rfl (Nat.le_of_ble_eq_true rfl) dX3_readFact_4 (fun r111 w113 H locs hp112 hw => ?_)
  obtain ⟨hT, k114, hg117⟩ := hp112
  have hF := hF.tr k114 (by decide)
  have c118 := k114.gi kC_at1 (by decide) cf0_
  obtain ⟨rfl, ⟨x115, c116, rx115, tx115⟩⟩ := hg117
  have ex115 : x115.toInt = (0 : Int) := by rw [show x115 = 0 from c116.symm.trans c118]; decide
  refine lv_if_eq (tgt := 11) hx hb dX3_readFact_7 (by decide) (fun _ => ?_) (fun c => absurd (by decide) c)
  refine lv_aload_n hx hb dX3_readFact_11 rfl (lv_at hl 0 rfl) ?_
  refine tk_getA hC hK hw hT hinX3 kC_at3 (by decide) rfl 0 (by decide) (List.mem_of_getElem? (i := 1) rfl) rfl rfl dX3_readFact_12 ?_
  refine va_ldcS hx hb hC.2.2.2.1 hSR.2.2.2.2.1 dX3_readFact_15 ?_
  refine tk_Vi hC hK hw hT hA hE hSR kC_at1 (by decide) rfl (k_X6_takeWord_4 l adK adV dC dI cy ad B (by omega) (by omega) qr s1    w113 H.size hT ) (cwV 1 hC.2.2.2.2 gX3_readFact_X6_takeWord rfl rfl rfl (by decide +kernel) ⟨Nat.le_of_ble_eq_true rfl, Nat.le_of_ble_eq_true rfl⟩) rfl hl.1 rfl (Nat.le_of_ble_eq_true rfl) dX3_readFact_17 (fun r119 w121 H locs hp120 hw => ?_)
  obtain ⟨hT, k122, hg125⟩ := hp120
  have hF := hF.tr k122 (by decide)
  have c126 := k122.gi kC_at1 (by decide) c118
  rcases hg125 with rfl | ⟨rfl, ⟨x123, c124, rx123, tx123⟩⟩
  · refine lv_istore_n (lv' := [(2, .int 0), (0, .ref (ad 3)), (1, .int 1)]) hx hb dX3_readFact_20 rfl hl (by decide) rfl (fun ls hl => ?_)
    refine lv_iload_n hx hb dX3_readFact_21 rfl (lv_at hl 0 rfl) ?_
    refine lv_if_ne (tgt := 41) hx hb dX3_readFact_22 (by decide) (fun c => absurd (by decide) c) (fun _ => ?_)
    refine lv_aload_n hx hb dX3_readFact_25 rfl (lv_at hl 1 rfl) ?_
    refine tk_getA hC hK hw hT hinX3 kC_at3 (by decide) rfl 0 (by decide) (List.mem_of_getElem? (i := 1) rfl) rfl rfl dX3_readFact_26 ?_
    refine lv_bipush (v := 91) hx hb dX3_readFact_29 (by decide) ?_
    refine tk_Vi hC hK hw hT hA hE hSR kC_at1 (by decide) rfl (k_X6_takeByte_2 l adK adV dC dI cy ad B (by omega) (by omega) qr s1    w121 H.size hT ) (cwV 1 hC.2.2.2.2 gX3_readFact_X6_takeByte rfl rfl rfl (by decide +kernel) ⟨Nat.le_of_ble_eq_true rfl, Nat.le_of_ble_eq_true rfl⟩) rfl hl.1 rfl (Nat.le_of_ble_eq_true rfl) dX3_readFact_31 (fun r127 w129 H locs hp128 hw => ?_)
    obtain ⟨hT, k130, hg135⟩ := hp128
    have hF := hF.tr k130 (by decide)
    have c136 := k130.gi kC_at1 (by decide) c126
    rcases hg135 with rfl | ⟨rfl, ⟨x131, c132, rx131, tx131⟩, ⟨x133, c134, rx133, tx133⟩⟩
    · refine lv_if_eq (tgt := 41) hx hb dX3_readFact_34 (by decide) (fun _ => ?_) (fun c => absurd (by decide) c)
      exact J41 0 H locs ls w129 (by decide) (by decide)  hw hT hF c136 (lv_sub hl [1, 2, 0] rfl)
    · refine lv_if_eq (tgt := 41) hx hb dX3_readFact_34 (by decide) (fun c => absurd c (by decide)) (fun _ => ?_)
      refine lv_iconst (v := 1) hx hb dX3_readFact_37 (by decide) ?_
      refine lv_goto (tgt := 42) hx hb dX3_readFact_38 (by decide) ?_
      refine lv_istore_n (lv' := [(3, .int 1), (2, .int 0), (0, .ref (ad 3)), (1, .int 1)]) hx hb dX3_readFact_42 rfl hl (by decide) rfl (fun ls hl => ?_)
      refine lv_iload_n hx hb dX3_readFact_43 rfl (lv_at hl 1 rfl) ?_
      refine lv_if_ne (tgt := 77) hx hb dX3_readFact_44 (by decide) (fun c => absurd (by decide) c) (fun _ => ?_)
      refine lv_iload_n hx hb dX3_readFact_47 rfl (lv_at hl 0 rfl) ?_
      refine lv_if_ne (tgt := 77) hx hb dX3_readFact_48 (by decide) (fun _ => ?_) (fun c => absurd c (by decide))
      exact J77 0 1 H locs ls w129 (by decide) (by decide) (by decide) (by decide)  hw hT hF c136 (lv_sub hl [2, 3, 1, 0] rfl)
  · refine lv_istore_n (lv' := [(2, .int 1), (0, .ref (ad 3)), (1, .int 1)]) hx hb dX3_readFact_20 rfl hl (by decide) rfl (fun ls hl => ?_)
    refine lv_iload_n hx hb dX3_readFact_21 rfl (lv_at hl 0 rfl) ?_
    refine lv_if_ne (tgt := 41) hx hb dX3_readFact_22 (by decide) (fun _ => ?_) (fun c => absurd c (by decide))
    exact J41 1 H locs ls w121 (by decide) (by decide)  hw hT hF c126 (lv_sub hl [1, 2, 0] rfl)
abbrev P_X3_readTest_2 (ad : Nat → Nat) (cy : Nat → ClassId) (B : Int) (qr : Nat) (s1 : Int)  (w0 : va_W) : va_W → Prop := fun u => TW ksC ad cy B qr s1 u ∧ FE ksC [(2, 3, 3), (3, 2, 2), (6, 1, 1), (6, 3, 3), (6, 4, 4), (22, 0, 13), (23, 0, 400)] w0 u ∧ ((True))
set_option maxHeartbeats 4000000 in
set_option maxRecDepth 100000 in
theorem k_X3_readTest_2 (l : Launch) (adK adV : Nat → Nat) (dC : Nat → ClassId) (dI : Nat → Nat → Nat) (cy : Nat → ClassId) (ad : Nat → Nat) (B : Int) (hB0 : 2147483648 ≤ B) (hB1 : B ≤ 1152921504606846976) (qr : Nat) (s1 : Int) (hqr : ksC[qr]? = some 2)  (w0 : va_W) (sz : Nat) (hT : TW ksC ad cy B qr s1 w0) (cf0_ : gi w0 1 4 = 0) : Met l yX3_readTest wsX3_readTest ({ frames := 27, cells := 0, slots := 0, locals := 658 }) (va_Pc [.ref (ad 3), .int 1] (wpreS adK adV dC dI cy sz w0)) (va_Qv (P_X3_readTest_2 ad cy B qr s1  w0) (fun u : va_W => wpost dC dI cy (va_A w0 sz) u) (va_A w0 sz)) 0 0 (va_A w0 sz) := by
  refine Met.ofW (cc := cX3_readTest) (maxL := 4) (ret := none) (by decide) rfl ?_
  intro p e s m args below meth c s₁ Bk hml hv
  obtain ⟨rfl, ⟨hsz, hP, hK, hD0⟩, hE, hSR⟩ := hv
  have hx := Bk.exec
  have hb := Bk.bytes
  have hr := Bk.returns
  have hlocks := Bk.notSynchronized
  have hC : CallFix p m c cX3_readTest 4 s _ wsX3_readTest RX3 := ⟨hx, hb, hml, findClass_of_methodNamed Bk.named, atoms_spec (ws := wsX3_readTest) Bk.pre⟩
  subst hsz
  have hD := hD0.self (sz := s.heap.size)
  generalize hAe : va_A w0 s.heap.size = A at hD hE ⊢
  have hA : ∀ q : Nat, s.heap.size ≤ q → A q := fun q h => by rw [← hAe]; exact Or.inr h
  have hw : Wd dC dI A s.heap s.heap [] w0 := ⟨hP, hD, va_S.rf⟩
  have hF : FE ksC [(2, 3, 3), (3, 2, 2), (6, 1, 1), (6, 3, 3), (6, 4, 4), (22, 0, 13), (23, 0, 400)] w0 w0 := FE.rf
  have hl := lv_entry ([.ref (ad 3), .int 1]) (n := 4) (Nat.le_of_ble_eq_true rfl)
  rw [lg_entry_eq]
  generalize (lg_sl ([.ref (ad 3), .int 1]) ++ List.replicate (4 - (lg_sl ([.ref (ad 3), .int 1])).length) Slot.unset).toArray = ls at hl ⊢
  have hl : lv_has ls 4 [(0, .ref (ad 3)), (1, .int 1)] := hl
  generalize hloc : ([] : List Loc) = locs at hw ⊢
  have hinX3 : ∀ w ∈ u_ws RX3 TX3 3, w ∈ wsX3_readTest := fun _ h => List.mem_cons_of_mem _ (List.mem_append_left _ (List.mem_append_left _ (List.mem_append_right _ (h))))
  have J86 : ∀ (v86_2 : Int32) (v86_3 : Int32) (H : Heap) (locs : List Loc) (ls : Array Slot) (w1 : va_W), (-1) ≤ v86_2.toInt → v86_2.toInt ≤ 21 → 0 ≤ v86_3.toInt → v86_3.toInt ≤ 400 → Wd dC dI A s.heap H locs w1 → TW ksC ad cy B qr s1 w1 → FE ksC [(2, 3, 3), (3, 2, 2), (6, 1, 1), (6, 3, 3), (6, 4, 4), (22, 0, 13), (23, 0, 400)] w0 w1 → lv_has ls 4 [(0, .ref (ad 3)), (1, .int 1), (2, .int v86_2), (3, .int v86_3)] → W p l e ({ frames := 27, cells := 0, slots := 0, locals := 658 }) s m (List.toArray [.ref (ad 3), .int 1]) below meth c H locs 0 0 (MQ below (va_Qv (P_X3_readTest_2 ad cy B qr s1  w0) (fun u : va_W => wpost dC dI cy A u) A) (List.toArray [.ref (ad 3), .int 1]) s 0 0 A) (F0 m 86 ls []) := by
    intro v86_2 v86_3 H locs ls w1 r2 t3 r4 t5 hw hT hF hl
    refine lv_aload_n hx hb dX3_readTest_86 rfl (lv_at hl 0 rfl) ?_
    refine lv_iload_n hx hb dX3_readTest_87 rfl (lv_at hl 2 rfl) ?_
    refine tk_Vv hC hK hw hT hA hE hSR kC_at3 (by decide) rfl (k_X3_addWaiting_1 l adK adV dC dI cy ad B (by omega) (by omega) qr s1 hqr  v86_2 w1 H.size hT ) (cwV 1 hC.2.2.2.2 gX3_readTest_X3_addWaiting rfl rfl rfl (by decide +kernel) ⟨Nat.le_of_ble_eq_true rfl, Nat.le_of_ble_eq_true rfl⟩) rfl hl.1 rfl (Nat.le_of_ble_eq_true rfl) dX3_readTest_88 (fun w8 H locs hp7 hw => ?_)
    obtain ⟨hT, k9, hg10⟩ := hp7
    have hF := hF.tr k9 (by decide)
    clear hg10
    exact tk_vret hC hr hlocks hK ⟨hT, hF, trivial⟩ hw dX3_readTest_91
  have L9 : ∀ (n9 : Nat) (v9_2 : Int32) (v9_3 : Int32) (H : Heap) (locs : List Loc) (ls : Array Slot) (w11 : va_W), (-1) ≤ v9_2.toInt → v9_2.toInt ≤ 21 → 0 ≤ v9_3.toInt → v9_3.toInt ≤ 400 → (400 - v9_3.toInt).toNat < n9 → Wd dC dI A s.heap H locs w11 → TW ksC ad cy B qr s1 w11 → FE ksC [(2, 3, 3), (3, 2, 2), (6, 1, 1), (6, 3, 3), (6, 4, 4), (22, 0, 13), (23, 0, 400)] w0 w11 → lv_has ls 4 [(0, .ref (ad 3)), (1, .int 1), (2, .int v9_2), (3, .int v9_3)] → W p l e ({ frames := 27, cells := 0, slots := 0, locals := 658 }) s m (List.toArray [.ref (ad 3), .int 1]) below meth c H locs 0 0 (MQ below (va_Qv (P_X3_readTest_2 ad cy B qr s1  w0) (fun u : va_W => wpost dC dI cy A u) A) (List.toArray [.ref (ad 3), .int 1]) s 0 0 A) (F0 m 9 ls []) := by
    intro n9
    induction n9 with
    | zero => intro v9_2 v9_3 H locs ls w11 r12 t13 r14 t15 hm9 hw hT hF hl; omega
    | succ n9 ih9 =>
      intro v9_2 v9_3 H locs ls w11 r12 t13 r14 t15 hm9 hw hT hF hl
      have J80 : ∀ (v80_2 : Int32) (H : Heap) (locs : List Loc) (ls : Array Slot) (w16 : va_W), (-1) ≤ v80_2.toInt → v80_2.toInt ≤ 21 → 0 ≤ v9_3.toInt → v9_3.toInt ≤ 399 → Wd dC dI A s.heap H locs w16 → TW ksC ad cy B qr s1 w16 → FE ksC [(2, 3, 3), (3, 2, 2), (6, 1, 1), (6, 3, 3), (6, 4, 4), (22, 0, 13), (23, 0, 400)] w0 w16 → lv_has ls 4 [(0, .ref (ad 3)), (1, .int 1), (2, .int v80_2), (3, .int v9_3)] → W p l e ({ frames := 27, cells := 0, slots := 0, locals := 658 }) s m (List.toArray [.ref (ad 3), .int 1]) below meth c H locs 0 0 (MQ below (va_Qv (P_X3_readTest_2 ad cy B qr s1  w0) (fun u : va_W => wpost dC dI cy A u) A) (List.toArray [.ref (ad 3), .int 1]) s 0 0 A) (F0 m 80 ls []) := by
        intro v80_2 H locs ls w16 r17 t18 r19 t20 hw hT hF hl
        obtain ⟨x21, ex21⟩ : ∃ y : Int32, y = v9_3 + Int32.ofInt 1 := ⟨_, rfl⟩
        refine lv_iinc (v := x21) (lv' := [(3, .int x21), (0, .ref (ad 3)), (1, .int 1), (2, .int v80_2)]) hx hb dX3_readTest_80 hl (k := 3) rfl ex21.symm (by decide) rfl (fun ls hl => ?_)
        have ex21 : x21.toInt = v9_3.toInt + 1 := by rw [ex21]; exact wk_add (y := 1) (show -2147483648 ≤ v9_3.toInt + 1 by omega) (show v9_3.toInt + 1 ≤ 2147483647 by omega)
        refine lv_goto (tgt := 9) hx hb dX3_readTest_83 (by decide) ?_
        exact ih9 v80_2 x21 H locs ls w16 (show (-1) ≤ v80_2.toInt by omega) (show v80_2.toInt ≤ 21 by omega) (show 0 ≤ x21.toInt by omega) (show x21.toInt ≤ 400 by omega) (show (400 - x21.toInt).toNat < n9 by omega) hw hT hF  (lv_sub hl [1, 2, 3, 0] rfl)
      refine lv_iload_n hx hb dX3_readTest_9 rfl (lv_at hl 3 rfl) ?_
      refine lv_sipush (v := 400) hx hb dX3_readTest_10 (by decide) ?_
      refine lv_icmp_ge (tgt := 86) hx hb dX3_readTest_13 (by decide) (fun c22 => ?_) (fun c22 => ?_)
      · have c22 : (400 : Int) ≤ v9_3.toInt := wk_le.mp c22
        exact J86 v9_2 v9_3 H locs ls w11 (show (-1) ≤ v9_2.toInt by omega) (show v9_2.toInt ≤ 21 by omega) (show 0 ≤ v9_3.toInt by omega) (show v9_3.toInt ≤ 400 by omega)  hw hT hF  (lv_sub hl [0, 1, 2, 3] rfl)
      · have c22 : v9_3.toInt < (400 : Int) := wk_leF c22
        refine lv_aload_n hx hb dX3_readTest_16 rfl (lv_at hl 0 rfl) ?_
        refine tk_getA hC hK hw hT hinX3 kC_at3 (by decide) rfl 0 (by decide) (List.mem_of_getElem? (i := 1) rfl) rfl rfl dX3_readTest_17 ?_
        refine tk_Vi hC hK hw hT hA hE hSR kC_at1 (by decide) rfl (k_X6_isFaulty_1 l adK adV dC dI cy ad B (by omega) (by omega) qr s1    w11 H.size hT ) (cwV 0 hC.2.2.2.2 gX3_readTest_X6_isFaulty rfl rfl rfl (by decide +kernel) ⟨Nat.le_of_ble_eq_true rfl, Nat.le_of_ble_eq_true rfl⟩) rfl hl.1 rfl (Nat.le_of_ble_eq_true rfl) dX3_readTest_20 (fun r23 w25 H locs hp24 hw => ?_)
        obtain ⟨hT, k26, hg31⟩ := hp24
        have hF := hF.tr k26 (by decide)
        rcases hg31 with ⟨rfl, ⟨x27, c28, rx27, tx27⟩⟩ | ⟨rfl, ⟨x29, c30, rx29, tx29⟩⟩
        · refine lv_if_ne (tgt := 86) hx hb dX3_readTest_23 (by decide) (fun c => absurd (by decide) c) (fun _ => ?_)
          refine lv_aload_n hx hb dX3_readTest_26 rfl (lv_at hl 0 rfl) ?_
          refine tk_getA hC hK hw hT hinX3 kC_at3 (by decide) rfl 0 (by decide) (List.mem_of_getElem? (i := 1) rfl) rfl rfl dX3_readTest_27 ?_
          refine va_ldcS hx hb hC.2.2.2.1 hSR.2.2.2.2.2.2.1 dX3_readTest_30 ?_
          refine tk_Vi hC hK hw hT hA hE hSR kC_at1 (by decide) rfl (k_X6_takeWord_2 l adK adV dC dI cy ad B (by omega) (by omega) qr s1    w25 H.size hT ) (cwV 1 hC.2.2.2.2 gX3_readTest_X6_takeWord rfl rfl rfl (by decide +kernel) ⟨Nat.le_of_ble_eq_true rfl, Nat.le_of_ble_eq_true rfl⟩) rfl hl.1 rfl (Nat.le_of_ble_eq_true rfl) dX3_readTest_32 (fun r32 w34 H locs hp33 hw => ?_)
          obtain ⟨hT, k35, hg38⟩ := hp33
          have hF := hF.tr k35 (by decide)
          have c39 := k35.gi kC_at1 (by decide) c28
          rcases hg38 with rfl | ⟨rfl, ⟨x36, c37, rx36, tx36⟩⟩
          · refine lv_if_eq (tgt := 55) hx hb dX3_readTest_35 (by decide) (fun _ => ?_) (fun c => absurd (by decide) c)
            refine lv_aload_n hx hb dX3_readTest_55 rfl (lv_at hl 0 rfl) ?_
            refine tk_getA hC hK hw hT hinX3 kC_at3 (by decide) rfl 0 (by decide) (List.mem_of_getElem? (i := 1) rfl) rfl rfl dX3_readTest_56 ?_
            refine va_ldcS hx hb hC.2.2.2.1 hSR.2.2.2.2.2.2.2 dX3_readTest_59 ?_
            refine tk_Vi hC hK hw hT hA hE hSR kC_at1 (by decide) rfl (k_X6_takeWord_3 l adK adV dC dI cy ad B (by omega) (by omega) qr s1    w34 H.size hT ) (cwV 1 hC.2.2.2.2 gX3_readTest_X6_takeWord rfl rfl rfl (by decide +kernel) ⟨Nat.le_of_ble_eq_true rfl, Nat.le_of_ble_eq_true rfl⟩) rfl hl.1 rfl (Nat.le_of_ble_eq_true rfl) dX3_readTest_61 (fun r40 w42 H locs hp41 hw => ?_)
            obtain ⟨hT, k43, hg46⟩ := hp41
            have hF := hF.tr k43 (by decide)
            have c47 := k43.gi kC_at1 (by decide) c39
            rcases hg46 with rfl | ⟨rfl, ⟨x44, c45, rx44, tx44⟩⟩
            · refine lv_if_eq (tgt := 86) hx hb dX3_readTest_64 (by decide) (fun _ => ?_) (fun c => absurd (by decide) c)
              exact J86 v9_2 v9_3 H locs ls w42 (show (-1) ≤ v9_2.toInt by omega) (show v9_2.toInt ≤ 21 by omega) (show 0 ≤ v9_3.toInt by omega) (show v9_3.toInt ≤ 400 by omega)  hw hT hF  (lv_sub hl [0, 1, 2, 3] rfl)
            · refine lv_if_eq (tgt := 86) hx hb dX3_readTest_64 (by decide) (fun c => absurd c (by decide)) (fun _ => ?_)
              refine lv_aload_n hx hb dX3_readTest_67 rfl (lv_at hl 0 rfl) ?_
              refine lv_iload_n hx hb dX3_readTest_68 rfl (lv_at hl 2 rfl) ?_
              refine tk_Vv hC hK hw hT hA hE hSR kC_at3 (by decide) rfl (k_X3_addWaiting_1 l adK adV dC dI cy ad B (by omega) (by omega) qr s1 hqr  v9_2 w42 H.size hT ) (cwV 1 hC.2.2.2.2 gX3_readTest_X3_addWaiting rfl rfl rfl (by decide +kernel) ⟨Nat.le_of_ble_eq_true rfl, Nat.le_of_ble_eq_true rfl⟩) rfl hl.1 rfl (Nat.le_of_ble_eq_true rfl) dX3_readTest_69 (fun w50 H locs hp49 hw => ?_)
              obtain ⟨hT, k51, hg52⟩ := hp49
              have hF := hF.tr k51 (by decide)
              have c53 := k51.gi kC_at1 (by decide) c47
              have c54 := k51.gi kC_at1 (by decide) c45
              clear hg52
              refine lv_bipush (v := 21) hx hb dX3_readTest_72 (by decide) ?_
              refine lv_istore_n (lv' := [(2, .int 21), (0, .ref (ad 3)), (1, .int 1), (3, .int v9_3)]) hx hb dX3_readTest_74 rfl hl (by decide) rfl (fun ls hl => ?_)
              refine lv_aload_n hx hb dX3_readTest_75 rfl (lv_at hl 1 rfl) ?_
              refine lv_iload_n hx hb dX3_readTest_76 rfl (lv_at hl 2 rfl) ?_
              refine tk_Vv hC hK hw hT hA hE hSR kC_at3 (by decide) rfl (k_X3_readFact_2 l adK adV dC dI cy ad B (by omega) (by omega) qr s1 hqr   w50 H.size hT (c53.trans (wk_eq.mpr (show x27.toInt = 0 by omega)))) (cwV 1 hC.2.2.2.2 gX3_readTest_X3_readFact rfl rfl rfl (by decide +kernel) ⟨Nat.le_of_ble_eq_true rfl, Nat.le_of_ble_eq_true rfl⟩) rfl hl.1 rfl (Nat.le_of_ble_eq_true rfl) dX3_readTest_77 (fun w57 H locs hp56 hw => ?_)
              obtain ⟨hT, k58, hg59⟩ := hp56
              have hF := hF.tr k58 (by decide)
              clear hg59
              exact J80 21 H locs ls w57 (by decide) (by decide) (show 0 ≤ v9_3.toInt by omega) (show v9_3.toInt ≤ 399 by omega)  hw hT hF  (lv_sub hl [1, 2, 0, 3] rfl)
          · refine lv_if_eq (tgt := 55) hx hb dX3_readTest_35 (by decide) (fun c => absurd c (by decide)) (fun _ => ?_)
            refine lv_aload_n hx hb dX3_readTest_38 rfl (lv_at hl 0 rfl) ?_
            refine lv_iload_n hx hb dX3_readTest_39 rfl (lv_at hl 1 rfl) ?_
            refine tk_Vv hC hK hw hT hA hE hSR kC_at3 (by decide) rfl (k_X3_readFact_2 l adK adV dC dI cy ad B (by omega) (by omega) qr s1 hqr   w34 H.size hT (c39.trans (wk_eq.mpr (show x27.toInt = 0 by omega)))) (cwV 1 hC.2.2.2.2 gX3_readTest_X3_readFact rfl rfl rfl (by decide +kernel) ⟨Nat.le_of_ble_eq_true rfl, Nat.le_of_ble_eq_true rfl⟩) rfl hl.1 rfl (Nat.le_of_ble_eq_true rfl) dX3_readTest_40 (fun w62 H locs hp61 hw => ?_)
            obtain ⟨hT, k63, hg64⟩ := hp61
            have hF := hF.tr k63 (by decide)
            clear hg64
            refine lv_aload_n hx hb dX3_readTest_43 rfl (lv_at hl 0 rfl) ?_
            refine tk_getQ hC hK hw hT hqr (by decide) hinX3 kC_at3 (by decide) rfl 1 (by decide) (List.mem_of_getElem? (i := 2) rfl) rfl rfl dX3_readTest_44 ?_
            refine lv_bipush (v := 20) hx hb dX3_readTest_47 (by decide) ?_
            refine tk_Vv hC hK hw hT hA hE hSR hqr (by decide) rfl (k_X2_addToken_1 l adK adV dC dI cy ad B (by omega) (by omega) qr s1   qr hqr 20 w62 H.size hT ) (cwV 1 hC.2.2.2.2 gX3_readTest_X2_addToken rfl rfl rfl (by decide +kernel) ⟨Nat.le_of_ble_eq_true rfl, Nat.le_of_ble_eq_true rfl⟩) rfl hl.1 rfl (Nat.le_of_ble_eq_true rfl) dX3_readTest_49 (fun w67 H locs hp66 hw => ?_)
            obtain ⟨hT, k68, hg71⟩ := hp66
            have hF := hF.tr k68 (by decide)
            obtain ⟨x69, c70, rx69, tx69⟩ := hg71
            refine lv_goto (tgt := 80) hx hb dX3_readTest_52 (by decide) ?_
            exact J80 v9_2 H locs ls w67 (show (-1) ≤ v9_2.toInt by omega) (show v9_2.toInt ≤ 21 by omega) (show 0 ≤ v9_3.toInt by omega) (show v9_3.toInt ≤ 399 by omega)  hw hT hF  (lv_sub hl [0, 1, 2, 3] rfl)
        · refine lv_if_ne (tgt := 86) hx hb dX3_readTest_23 (by decide) (fun _ => ?_) (fun c => absurd c (by decide))
          exact J86 v9_2 v9_3 H locs ls w25 (show (-1) ≤ v9_2.toInt by omega) (show v9_2.toInt ≤ 21 by omega) (show 0 ≤ v9_3.toInt by omega) (show v9_3.toInt ≤ 400 by omega)  hw hT hF  (lv_sub hl [0, 1, 2, 3] rfl)
  refine lv_aload_n hx hb dX3_readTest_0 rfl (lv_at hl 0 rfl) ?_
  refine lv_iload_n hx hb dX3_readTest_1 rfl (lv_at hl 1 rfl) ?_
  refine tk_Vv hC hK hw hT hA hE hSR kC_at3 (by decide) rfl (k_X3_readFact_2 l adK adV dC dI cy ad B (by omega) (by omega) qr s1 hqr   w0 s.heap.size hT cf0_) (cwV 1 hC.2.2.2.2 gX3_readTest_X3_readFact rfl rfl rfl (by decide +kernel) ⟨Nat.le_of_ble_eq_true rfl, Nat.le_of_ble_eq_true rfl⟩) rfl hl.1 rfl (Nat.le_of_ble_eq_true rfl) dX3_readTest_2 (fun w74 H locs hp73 hw => ?_)
  obtain ⟨hT, k75, hg76⟩ := hp73
  have hF := hF.tr k75 (by decide)
  clear hg76
  refine lv_iconst (v := (-1)) hx hb dX3_readTest_5 (by decide) ?_
  refine lv_istore_n (lv' := [(2, .int (-1)), (0, .ref (ad 3)), (1, .int 1)]) hx hb dX3_readTest_6 rfl hl (by decide) rfl (fun ls hl => ?_)
  refine lv_iconst (v := 0) hx hb dX3_readTest_7 (by decide) ?_
  refine lv_istore_n (lv' := [(3, .int 0), (2, .int (-1)), (0, .ref (ad 3)), (1, .int 1)]) hx hb dX3_readTest_8 rfl hl (by decide) rfl (fun ls hl => ?_)
  exact L9 ((400 - (0 : Int)).toNat + 1) (-1) 0 H locs ls w74 (by decide) (by decide) (by decide) (by decide) (Nat.lt_succ_self _) hw hT hF  (lv_sub hl [2, 3, 1, 0] rfl)
abbrev P_X3_readFact_1 (ad : Nat → Nat) (cy : Nat → ClassId) (B : Int) (qr : Nat) (s1 : Int)  (w0 : va_W) : va_W → Prop := fun u => TW ksC ad cy B qr s1 u ∧ FE ksC [(2, 3, 3), (3, 2, 2), (6, 1, 1), (6, 3, 3), (6, 4, 4), (22, 0, 13), (23, 0, 400)] w0 u ∧ ((True))
set_option maxHeartbeats 4000000 in
set_option maxRecDepth 100000 in
theorem k_X3_readFact_1 (l : Launch) (adK adV : Nat → Nat) (dC : Nat → ClassId) (dI : Nat → Nat → Nat) (cy : Nat → ClassId) (ad : Nat → Nat) (B : Int) (hB0 : 2147483648 ≤ B) (hB1 : B ≤ 1152921504606846976) (qr : Nat) (s1 : Int) (hqr : ksC[qr]? = some 2)  (w0 : va_W) (sz : Nat) (hT : TW ksC ad cy B qr s1 w0) (cf0_ : gi w0 1 4 = 0) : Met l yX3_readFact wsX3_readFact ({ frames := 28, cells := 0, slots := 0, locals := 681 }) (va_Pc [.ref (ad 3), .int 0] (wpreS adK adV dC dI cy sz w0)) (va_Qv (P_X3_readFact_1 ad cy B qr s1  w0) (fun u : va_W => wpost dC dI cy (va_A w0 sz) u) (va_A w0 sz)) 0 0 (va_A w0 sz) := by
  refine Met.ofW (cc := cX3_readFact) (maxL := 5) (ret := none) (by decide) rfl ?_
  intro p e s m args below meth c s₁ Bk hml hv
  obtain ⟨rfl, ⟨hsz, hP, hK, hD0⟩, hE, hSR⟩ := hv
  have hx := Bk.exec
  have hb := Bk.bytes
  have hr := Bk.returns
  have hlocks := Bk.notSynchronized
  have hC : CallFix p m c cX3_readFact 5 s _ wsX3_readFact RX3 := ⟨hx, hb, hml, findClass_of_methodNamed Bk.named, atoms_spec (ws := wsX3_readFact) Bk.pre⟩
  subst hsz
  have hD := hD0.self (sz := s.heap.size)
  generalize hAe : va_A w0 s.heap.size = A at hD hE ⊢
  have hA : ∀ q : Nat, s.heap.size ≤ q → A q := fun q h => by rw [← hAe]; exact Or.inr h
  have hw : Wd dC dI A s.heap s.heap [] w0 := ⟨hP, hD, va_S.rf⟩
  have hF : FE ksC [(2, 3, 3), (3, 2, 2), (6, 1, 1), (6, 3, 3), (6, 4, 4), (22, 0, 13), (23, 0, 400)] w0 w0 := FE.rf
  have hl := lv_entry ([.ref (ad 3), .int 0]) (n := 5) (Nat.le_of_ble_eq_true rfl)
  rw [lg_entry_eq]
  generalize (lg_sl ([.ref (ad 3), .int 0]) ++ List.replicate (5 - (lg_sl ([.ref (ad 3), .int 0])).length) Slot.unset).toArray = ls at hl ⊢
  have hl : lv_has ls 5 [(0, .ref (ad 3)), (1, .int 0)] := hl
  generalize hloc : ([] : List Loc) = locs at hw ⊢
  have hinX3 : ∀ w ∈ u_ws RX3 TX3 3, w ∈ wsX3_readFact := fun _ h => List.mem_cons_of_mem _ (List.mem_append_left _ (List.mem_append_left _ (List.mem_append_right _ (h))))
  have J160 : ∀ (v160_2 : Int32) (v160_3 : Int32) (H : Heap) (locs : List Loc) (ls : Array Slot) (w1 : va_W), 0 ≤ v160_2.toInt → v160_2.toInt ≤ 1 → 0 ≤ v160_3.toInt → v160_3.toInt ≤ 1 → Wd dC dI A s.heap H locs w1 → TW ksC ad cy B qr s1 w1 → FE ksC [(2, 3, 3), (3, 2, 2), (6, 1, 1), (6, 3, 3), (6, 4, 4), (22, 0, 13), (23, 0, 400)] w0 w1 → lv_has ls 5 [(0, .ref (ad 3)), (1, .int 0), (2, .int v160_2), (3, .int v160_3)] → W p l e ({ frames := 28, cells := 0, slots := 0, locals := 681 }) s m (List.toArray [.ref (ad 3), .int 0]) below meth c H locs 0 0 (MQ below (va_Qv (P_X3_readFact_1 ad cy B qr s1  w0) (fun u : va_W => wpost dC dI cy A u) A) (List.toArray [.ref (ad 3), .int 0]) s 0 0 A) (F0 m 160 ls []) := by
    intro v160_2 v160_3 H locs ls w1 r2 t3 r4 t5 hw hT hF hl
    exact tk_vret hC hr hlocks hK ⟨hT, hF, trivial⟩ hw dX3_readFact_160
  have J77 : ∀ (v77_2 : Int32) (v77_3 : Int32) (H : Heap) (locs : List Loc) (ls : Array Slot) (w6 : va_W), 0 ≤ v77_2.toInt → v77_2.toInt ≤ 1 → 0 ≤ v77_3.toInt → v77_3.toInt ≤ 1 → Wd dC dI A s.heap H locs w6 → TW ksC ad cy B qr s1 w6 → FE ksC [(2, 3, 3), (3, 2, 2), (6, 1, 1), (6, 3, 3), (6, 4, 4), (22, 0, 13), (23, 0, 400)] w0 w6 → gi w6 1 4 = 0 → lv_has ls 5 [(0, .ref (ad 3)), (1, .int 0), (2, .int v77_2), (3, .int v77_3)] → W p l e ({ frames := 28, cells := 0, slots := 0, locals := 681 }) s m (List.toArray [.ref (ad 3), .int 0]) below meth c H locs 0 0 (MQ below (va_Qv (P_X3_readFact_1 ad cy B qr s1  w0) (fun u : va_W => wpost dC dI cy A u) A) (List.toArray [.ref (ad 3), .int 0]) s 0 0 A) (F0 m 77 ls []) := by
    intro v77_2 v77_3 H locs ls w6 r7 t8 r9 t10 hw hT hF c11 hl
    refine lv_iload_n hx hb dX3_readFact_77 rfl (lv_at hl 1 rfl) ?_
    refine lv_bipush (v := 10) hx hb dX3_readFact_78 (by decide) ?_
    refine lv_icmp_lt (tgt := 101) hx hb dX3_readFact_80 (by decide) (fun _ => ?_) (fun c => absurd (by decide) c)
    refine lv_iload_n hx hb dX3_readFact_101 rfl (lv_at hl 2 rfl) ?_
    refine lv_if_eq (tgt := 124) hx hb dX3_readFact_102 (by decide) (fun c12 => ?_) (fun c12 => ?_)
    · have c12 : v77_2.toInt = (0 : Int) := wk_eq.mp c12
      refine lv_aload_n hx hb dX3_readFact_124 rfl (lv_at hl 0 rfl) ?_
      refine lv_iload_n hx hb dX3_readFact_125 rfl (lv_at hl 1 rfl) ?_
      refine lv_iconst (v := 1) hx hb dX3_readFact_126 (by decide) ?_
      refine lv_iadd hx hb dX3_readFact_127 ?_
      refine wk_top 1 (by decide) ?_
      refine tk_Vv hC hK hw hT hA hE hSR kC_at3 (by decide) rfl (k_X3_readTest_2 l adK adV dC dI cy ad B (by omega) (by omega) qr s1 hqr   w6 H.size hT c11) (cwV 1 hC.2.2.2.2 gX3_readFact_X3_readTest rfl rfl rfl (by decide +kernel) ⟨Nat.le_of_ble_eq_true rfl, Nat.le_of_ble_eq_true rfl⟩) rfl hl.1 rfl (Nat.le_of_ble_eq_true rfl) dX3_readFact_128 (fun w15 H locs hp14 hw => ?_)
      obtain ⟨hT, k16, hg17⟩ := hp14
      have hF := hF.tr k16 (by decide)
      clear hg17
      refine lv_aload_n hx hb dX3_readFact_131 rfl (lv_at hl 0 rfl) ?_
      refine tk_getA hC hK hw hT hinX3 kC_at3 (by decide) rfl 0 (by decide) (List.mem_of_getElem? (i := 1) rfl) rfl rfl dX3_readFact_132 ?_
      refine tk_Vi hC hK hw hT hA hE hSR kC_at1 (by decide) rfl (k_X6_isFaulty_1 l adK adV dC dI cy ad B (by omega) (by omega) qr s1    w15 H.size hT ) (cwV 0 hC.2.2.2.2 gX3_readFact_X6_isFaulty rfl rfl rfl (by decide +kernel) ⟨Nat.le_of_ble_eq_true rfl, Nat.le_of_ble_eq_true rfl⟩) rfl hl.1 rfl (Nat.le_of_ble_eq_true rfl) dX3_readFact_135 (fun r18 w20 H locs hp19 hw => ?_)
      obtain ⟨hT, k21, hg26⟩ := hp19
      have hF := hF.tr k21 (by decide)
      rcases hg26 with ⟨rfl, ⟨x22, c23, rx22, tx22⟩⟩ | ⟨rfl, ⟨x24, c25, rx24, tx24⟩⟩
      · refine lv_if_ne (tgt := 160) hx hb dX3_readFact_138 (by decide) (fun c => absurd (by decide) c) (fun _ => ?_)
        refine lv_aload_n hx hb dX3_readFact_141 rfl (lv_at hl 0 rfl) ?_
        refine tk_getA hC hK hw hT hinX3 kC_at3 (by decide) rfl 0 (by decide) (List.mem_of_getElem? (i := 1) rfl) rfl rfl dX3_readFact_142 ?_
        refine lv_bipush (v := 93) hx hb dX3_readFact_145 (by decide) ?_
        refine tk_Vi hC hK hw hT hA hE hSR kC_at1 (by decide) rfl (k_X6_takeByte_3 l adK adV dC dI cy ad B (by omega) (by omega) qr s1    w20 H.size hT ) (cwV 1 hC.2.2.2.2 gX3_readFact_X6_takeByte rfl rfl rfl (by decide +kernel) ⟨Nat.le_of_ble_eq_true rfl, Nat.le_of_ble_eq_true rfl⟩) rfl hl.1 rfl (Nat.le_of_ble_eq_true rfl) dX3_readFact_147 (fun r27 w29 H locs hp28 hw => ?_)
        obtain ⟨hT, k30, hg35⟩ := hp28
        have hF := hF.tr k30 (by decide)
        have c36 := k30.gi kC_at1 (by decide) c23
        rcases hg35 with rfl | ⟨rfl, ⟨x31, c32, rx31, tx31⟩, ⟨x33, c34, rx33, tx33⟩⟩
        · refine lv_if_ne (tgt := 160) hx hb dX3_readFact_150 (by decide) (fun c => absurd (by decide) c) (fun _ => ?_)
          refine lv_aload_n hx hb dX3_readFact_153 rfl (lv_at hl 0 rfl) ?_
          refine tk_getA hC hK hw hT hinX3 kC_at3 (by decide) rfl 0 (by decide) (List.mem_of_getElem? (i := 1) rfl) rfl rfl dX3_readFact_154 ?_
          refine tk_Vv hC hK hw hT hA hE hSR kC_at1 (by decide) rfl (k_X6_blameHere_1 l adK adV dC dI cy ad B (by omega) (by omega) qr s1    w29 H.size hT (c36.trans (wk_eq.mpr (show x22.toInt = 0 by omega)))) (cwV 0 hC.2.2.2.2 gX3_readFact_X6_blameHere rfl rfl rfl (by decide +kernel) ⟨Nat.le_of_ble_eq_true rfl, Nat.le_of_ble_eq_true rfl⟩) rfl hl.1 rfl (Nat.le_of_ble_eq_true rfl) dX3_readFact_157 (fun w39 H locs hp38 hw => ?_)
          obtain ⟨hT, k40, hg43⟩ := hp38
          have hF := hF.tr k40 (by decide)
          obtain ⟨x41, c42, rx41, tx41⟩ := hg43
          exact J160 v77_2 v77_3 H locs ls w39 (show 0 ≤ v77_2.toInt by omega) (show v77_2.toInt ≤ 1 by omega) (show 0 ≤ v77_3.toInt by omega) (show v77_3.toInt ≤ 1 by omega)  hw hT hF  (lv_sub hl [0, 1, 2, 3] rfl)
        · refine lv_if_ne (tgt := 160) hx hb dX3_readFact_150 (by decide) (fun _ => ?_) (fun c => absurd c (by decide))
          exact J160 v77_2 v77_3 H locs ls w29 (show 0 ≤ v77_2.toInt by omega) (show v77_2.toInt ≤ 1 by omega) (show 0 ≤ v77_3.toInt by omega) (show v77_3.toInt ≤ 1 by omega)  hw hT hF  (lv_sub hl [0, 1, 2, 3] rfl)
      · refine lv_if_ne (tgt := 160) hx hb dX3_readFact_138 (by decide) (fun _ => ?_) (fun c => absurd c (by decide))
        exact J160 v77_2 v77_3 H locs ls w20 (show 0 ≤ v77_2.toInt by omega) (show v77_2.toInt ≤ 1 by omega) (show 0 ≤ v77_3.toInt by omega) (show v77_3.toInt ≤ 1 by omega)  hw hT hF  (lv_sub hl [0, 1, 2, 3] rfl)
    · have c12 : ¬ v77_2.toInt = (0 : Int) := wk_eqF c12
      refine lv_aload_n hx hb dX3_readFact_105 rfl (lv_at hl 0 rfl) ?_
      refine lv_iload_n hx hb dX3_readFact_106 rfl (lv_at hl 1 rfl) ?_
      refine lv_iconst (v := 1) hx hb dX3_readFact_107 (by decide) ?_
      refine lv_iadd hx hb dX3_readFact_108 ?_
      refine wk_top 1 (by decide) ?_
      refine tk_Vv hC hK hw hT hA hE hSR kC_at3 (by decide) rfl (k_X3_readFact_2 l adK adV dC dI cy ad B (by omega) (by omega) qr s1 hqr   w6 H.size hT c11) (cwV 1 hC.2.2.2.2 gX3_readFact_X3_readFact rfl rfl rfl (by decide +kernel) ⟨Nat.le_of_ble_eq_true rfl, Nat.le_of_ble_eq_true rfl⟩) rfl hl.1 rfl (Nat.le_of_ble_eq_true rfl) dX3_readFact_109 (fun w46 H locs hp45 hw => ?_)
      obtain ⟨hT, k47, hg48⟩ := hp45
      have hF := hF.tr k47 (by decide)
      clear hg48
      refine lv_aload_n hx hb dX3_readFact_112 rfl (lv_at hl 0 rfl) ?_
      refine tk_getQ hC hK hw hT hqr (by decide) hinX3 kC_at3 (by decide) rfl 1 (by decide) (List.mem_of_getElem? (i := 2) rfl) rfl rfl dX3_readFact_113 ?_
      refine lv_bipush (v := 19) hx hb dX3_readFact_116 (by decide) ?_
      refine tk_Vv hC hK hw hT hA hE hSR hqr (by decide) rfl (k_X2_addToken_1 l adK adV dC dI cy ad B (by omega) (by omega) qr s1   qr hqr 19 w46 H.size hT ) (cwV 1 hC.2.2.2.2 gX3_readFact_X2_addToken rfl rfl rfl (by decide +kernel) ⟨Nat.le_of_ble_eq_true rfl, Nat.le_of_ble_eq_true rfl⟩) rfl hl.1 rfl (Nat.le_of_ble_eq_true rfl) dX3_readFact_118 (fun w51 H locs hp50 hw => ?_)
      obtain ⟨hT, k52, hg55⟩ := hp50
      have hF := hF.tr k52 (by decide)
      obtain ⟨x53, c54, rx53, tx53⟩ := hg55
      refine lv_goto (tgt := 160) hx hb dX3_readFact_121 (by decide) ?_
      exact J160 v77_2 v77_3 H locs ls w51 (show 0 ≤ v77_2.toInt by omega) (show v77_2.toInt ≤ 1 by omega) (show 0 ≤ v77_3.toInt by omega) (show v77_3.toInt ≤ 1 by omega)  hw hT hF  (lv_sub hl [0, 1, 2, 3] rfl)
  have J41 : ∀ (v41_2 : Int32) (H : Heap) (locs : List Loc) (ls : Array Slot) (w56 : va_W), 0 ≤ v41_2.toInt → v41_2.toInt ≤ 1 → Wd dC dI A s.heap H locs w56 → TW ksC ad cy B qr s1 w56 → FE ksC [(2, 3, 3), (3, 2, 2), (6, 1, 1), (6, 3, 3), (6, 4, 4), (22, 0, 13), (23, 0, 400)] w0 w56 → gi w56 1 4 = 0 → lv_has ls 5 [(0, .ref (ad 3)), (1, .int 0), (2, .int v41_2)] → W p l e ({ frames := 28, cells := 0, slots := 0, locals := 681 }) s m (List.toArray [.ref (ad 3), .int 0]) below meth c H locs 0 0 (MQ below (va_Qv (P_X3_readFact_1 ad cy B qr s1  w0) (fun u : va_W => wpost dC dI cy A u) A) (List.toArray [.ref (ad 3), .int 0]) s 0 0 A) (F0 m 41 ls []) := by
    intro v41_2 H locs ls w56 r57 t58 hw hT hF c59 hl
    refine lv_iconst (v := 0) hx hb dX3_readFact_41 (by decide) ?_
    refine lv_istore_n (lv' := [(3, .int 0), (0, .ref (ad 3)), (1, .int 0), (2, .int v41_2)]) hx hb dX3_readFact_42 rfl hl (by decide) rfl (fun ls hl => ?_)
    refine lv_iload_n hx hb dX3_readFact_43 rfl (lv_at hl 3 rfl) ?_
    refine lv_if_ne (tgt := 77) hx hb dX3_readFact_44 (by decide) (fun c60 => ?_) (fun c60 => ?_)
    · have c60 : ¬ v41_2.toInt = (0 : Int) := wk_eqF c60
      exact J77 v41_2 0 H locs ls w56 (show 0 ≤ v41_2.toInt by omega) (show v41_2.toInt ≤ 1 by omega) (by decide) (by decide)  hw hT hF c59 (lv_sub hl [1, 2, 3, 0] rfl)
    · have c60 : v41_2.toInt = (0 : Int) := wk_eq.mp c60
      refine lv_iload_n hx hb dX3_readFact_47 rfl (lv_at hl 0 rfl) ?_
      refine lv_if_ne (tgt := 77) hx hb dX3_readFact_48 (by decide) (fun c => absurd (by decide) c) (fun _ => ?_)
      refine lv_aload_n hx hb dX3_readFact_51 rfl (lv_at hl 1 rfl) ?_
      refine tk_Vv hC hK hw hT hA hE hSR kC_at3 (by decide) rfl (k_X3_readSum_1 l adK adV dC dI cy ad B (by omega) (by omega) qr s1 hqr   w56 H.size hT c59) (cwV 0 hC.2.2.2.2 gX3_readFact_X3_readSum rfl rfl rfl (by decide +kernel) ⟨Nat.le_of_ble_eq_true rfl, Nat.le_of_ble_eq_true rfl⟩) rfl hl.1 rfl (Nat.le_of_ble_eq_true rfl) dX3_readFact_52 (fun w63 H locs hp62 hw => ?_)
      obtain ⟨hT, k64, hg65⟩ := hp62
      have hF := hF.tr k64 (by decide)
      clear hg65
      refine lv_aload_n hx hb dX3_readFact_55 rfl (lv_at hl 1 rfl) ?_
      refine tk_Vi hC hK hw hT hA hE hSR kC_at3 (by decide) rfl (k_X3_readSign_1 l adK adV dC dI cy ad B (by omega) (by omega) qr s1    w63 H.size hT ) (cwV 0 hC.2.2.2.2 gX3_readFact_X3_readSign rfl rfl rfl (by decide +kernel) ⟨Nat.le_of_ble_eq_true rfl, Nat.le_of_ble_eq_true rfl⟩) rfl hl.1 rfl (Nat.le_of_ble_eq_true rfl) dX3_readFact_56 (fun r66 w68 H locs hp67 hw => ?_)
      obtain ⟨hT, k69, hg80⟩ := hp67
      have hF := hF.tr k69 (by decide)
      rcases hg80 with ⟨rfl, ⟨x70, c71, rx70, tx70⟩⟩ | ⟨g72, g73, ⟨x74, c75, rx74, tx74⟩, ⟨x76, c77, rx76, tx76⟩, ⟨x78, c79, rx78, tx78⟩⟩
      · refine lv_istore (lv' := [(4, .int 16), (3, .int 0), (0, .ref (ad 3)), (1, .int 0), (2, .int v41_2)]) hx hb dX3_readFact_59 hl (by decide) rfl (fun ls hl => ?_)
        refine lv_aload_n hx hb dX3_readFact_61 rfl (lv_at hl 2 rfl) ?_
        refine tk_Vv hC hK hw hT hA hE hSR kC_at3 (by decide) rfl (k_X3_readSum_2 l adK adV dC dI cy ad B (by omega) (by omega) qr s1 hqr   w68 H.size hT x70 c71 (show 1 ≤ x70.toInt by omega) (show x70.toInt ≤ 3205 by omega)) (cwV 0 hC.2.2.2.2 gX3_readFact_X3_readSum rfl rfl rfl (by decide +kernel) ⟨Nat.le_of_ble_eq_true rfl, Nat.le_of_ble_eq_true rfl⟩) rfl hl.1 rfl (Nat.le_of_ble_eq_true rfl) dX3_readFact_62 (fun w83 H locs hp82 hw => ?_)
        obtain ⟨hT, k84, hg87⟩ := hp82
        have hF := hF.tr k84 (by decide)
        have c88 := k84.gi kC_at1 (by decide) c71
        obtain ⟨x85, c86, rx85, tx85⟩ := hg87
        have ex85 : x85.toInt = x70.toInt := by rw [← c88.symm.trans c86]
        refine lv_aload_n hx hb dX3_readFact_65 rfl (lv_at hl 2 rfl) ?_
        refine tk_getQ hC hK hw hT hqr (by decide) hinX3 kC_at3 (by decide) rfl 1 (by decide) (List.mem_of_getElem? (i := 2) rfl) rfl rfl dX3_readFact_66 ?_
        refine lv_iload hx hb dX3_readFact_69 (lv_at hl 0 rfl) ?_
        refine tk_Vv hC hK hw hT hA hE hSR hqr (by decide) rfl (k_X2_addToken_1 l adK adV dC dI cy ad B (by omega) (by omega) qr s1   qr hqr 16 w83 H.size hT ) (cwV 1 hC.2.2.2.2 gX3_readFact_X2_addToken rfl rfl rfl (by decide +kernel) ⟨Nat.le_of_ble_eq_true rfl, Nat.le_of_ble_eq_true rfl⟩) rfl hl.1 rfl (Nat.le_of_ble_eq_true rfl) dX3_readFact_71 (fun w91 H locs hp90 hw => ?_)
        obtain ⟨hT, k92, hg95⟩ := hp90
        have hF := hF.tr k92 (by decide)
        have c96 := k92.gi kC_at1 (by decide) c88
        obtain ⟨x93, c94, rx93, tx93⟩ := hg95
        refine lv_goto (tgt := 160) hx hb dX3_readFact_74 (by decide) ?_
        exact J160 v41_2 0 H locs ls w91 (show 0 ≤ v41_2.toInt by omega) (show v41_2.toInt ≤ 1 by omega) (by decide) (by decide)  hw hT hF  (lv_sub hl [2, 3, 4, 1] rfl)
      · refine lv_istore (lv' := [(4, .int r66), (3, .int 0), (0, .ref (ad 3)), (1, .int 0), (2, .int v41_2)]) hx hb dX3_readFact_59 hl (by decide) rfl (fun ls hl => ?_)
        refine lv_aload_n hx hb dX3_readFact_61 rfl (lv_at hl 2 rfl) ?_
        refine tk_Vv hC hK hw hT hA hE hSR kC_at3 (by decide) rfl (k_X3_readSum_3 l adK adV dC dI cy ad B (by omega) (by omega) qr s1 hqr   w68 H.size hT ) (cwV 0 hC.2.2.2.2 gX3_readFact_X3_readSum rfl rfl rfl (by decide +kernel) ⟨Nat.le_of_ble_eq_true rfl, Nat.le_of_ble_eq_true rfl⟩) rfl hl.1 rfl (Nat.le_of_ble_eq_true rfl) dX3_readFact_62 (fun w99 H locs hp98 hw => ?_)
        obtain ⟨hT, k100, hg101⟩ := hp98
        have hF := hF.tr k100 (by decide)
        have c102 := k100.gi kC_at1 (by decide) c75
        clear hg101
        refine lv_aload_n hx hb dX3_readFact_65 rfl (lv_at hl 2 rfl) ?_
        refine tk_getQ hC hK hw hT hqr (by decide) hinX3 kC_at3 (by decide) rfl 1 (by decide) (List.mem_of_getElem? (i := 2) rfl) rfl rfl dX3_readFact_66 ?_
        refine lv_iload hx hb dX3_readFact_69 (lv_at hl 0 rfl) ?_
        refine tk_Vv hC hK hw hT hA hE hSR hqr (by decide) rfl (k_X2_addToken_1 l adK adV dC dI cy ad B (by omega) (by omega) qr s1   qr hqr r66 w99 H.size hT ) (cwV 1 hC.2.2.2.2 gX3_readFact_X2_addToken rfl rfl rfl (by decide +kernel) ⟨Nat.le_of_ble_eq_true rfl, Nat.le_of_ble_eq_true rfl⟩) rfl hl.1 rfl (Nat.le_of_ble_eq_true rfl) dX3_readFact_71 (fun w105 H locs hp104 hw => ?_)
        obtain ⟨hT, k106, hg109⟩ := hp104
        have hF := hF.tr k106 (by decide)
        have c110 := k106.gi kC_at1 (by decide) c102
        obtain ⟨x107, c108, rx107, tx107⟩ := hg109
        refine lv_goto (tgt := 160) hx hb dX3_readFact_74 (by decide) ?_
        exact J160 v41_2 0 H locs ls w105 (show 0 ≤ v41_2.toInt by omega) (show v41_2.toInt ≤ 1 by omega) (by decide) (by decide)  hw hT hF  (lv_sub hl [2, 3, 4, 1] rfl)
  refine lv_aload_n hx hb dX3_readFact_0 rfl (lv_at hl 0 rfl) ?_
  refine tk_getA hC hK hw hT hinX3 kC_at3 (by decide) rfl 0 (by decide) (List.mem_of_getElem? (i := 1) rfl) rfl rfl dX3_readFact_1 ?_
  refine tk_Vi hC hK hw hT hA hE hSR kC_at1 (by decide) rfl (k_X6_isFaulty_2 l adK adV dC dI cy ad B (by omega) (by omega) qr s1    w0 s.heap.size hT cf0_) (cwV 0 hC.2.2.2.2 gX3_readFact_X6_isFaulty rfl rfl rfl (by decide +kernel) ⟨Nat.le_of_ble_eq_true rfl, Nat.le_of_ble_eq_true rfl⟩) rfl hl.1 rfl (Nat.le_of_ble_eq_true rfl) dX3_readFact_4 (fun r111 w113 H locs hp112 hw => ?_)
  obtain ⟨hT, k114, hg117⟩ := hp112
  have hF := hF.tr k114 (by decide)
  have c118 := k114.gi kC_at1 (by decide) cf0_
  obtain ⟨rfl, ⟨x115, c116, rx115, tx115⟩⟩ := hg117
  have ex115 : x115.toInt = (0 : Int) := by rw [show x115 = 0 from c116.symm.trans c118]; decide
  refine lv_if_eq (tgt := 11) hx hb dX3_readFact_7 (by decide) (fun _ => ?_) (fun c => absurd (by decide) c)
  refine lv_aload_n hx hb dX3_readFact_11 rfl (lv_at hl 0 rfl) ?_
  refine tk_getA hC hK hw hT hinX3 kC_at3 (by decide) rfl 0 (by decide) (List.mem_of_getElem? (i := 1) rfl) rfl rfl dX3_readFact_12 ?_
  refine va_ldcS hx hb hC.2.2.2.1 hSR.2.2.2.2.1 dX3_readFact_15 ?_
  refine tk_Vi hC hK hw hT hA hE hSR kC_at1 (by decide) rfl (k_X6_takeWord_4 l adK adV dC dI cy ad B (by omega) (by omega) qr s1    w113 H.size hT ) (cwV 1 hC.2.2.2.2 gX3_readFact_X6_takeWord rfl rfl rfl (by decide +kernel) ⟨Nat.le_of_ble_eq_true rfl, Nat.le_of_ble_eq_true rfl⟩) rfl hl.1 rfl (Nat.le_of_ble_eq_true rfl) dX3_readFact_17 (fun r119 w121 H locs hp120 hw => ?_)
  obtain ⟨hT, k122, hg125⟩ := hp120
  have hF := hF.tr k122 (by decide)
  have c126 := k122.gi kC_at1 (by decide) c118
  rcases hg125 with rfl | ⟨rfl, ⟨x123, c124, rx123, tx123⟩⟩
  · refine lv_istore_n (lv' := [(2, .int 0), (0, .ref (ad 3)), (1, .int 0)]) hx hb dX3_readFact_20 rfl hl (by decide) rfl (fun ls hl => ?_)
    refine lv_iload_n hx hb dX3_readFact_21 rfl (lv_at hl 0 rfl) ?_
    refine lv_if_ne (tgt := 41) hx hb dX3_readFact_22 (by decide) (fun c => absurd (by decide) c) (fun _ => ?_)
    refine lv_aload_n hx hb dX3_readFact_25 rfl (lv_at hl 1 rfl) ?_
    refine tk_getA hC hK hw hT hinX3 kC_at3 (by decide) rfl 0 (by decide) (List.mem_of_getElem? (i := 1) rfl) rfl rfl dX3_readFact_26 ?_
    refine lv_bipush (v := 91) hx hb dX3_readFact_29 (by decide) ?_
    refine tk_Vi hC hK hw hT hA hE hSR kC_at1 (by decide) rfl (k_X6_takeByte_2 l adK adV dC dI cy ad B (by omega) (by omega) qr s1    w121 H.size hT ) (cwV 1 hC.2.2.2.2 gX3_readFact_X6_takeByte rfl rfl rfl (by decide +kernel) ⟨Nat.le_of_ble_eq_true rfl, Nat.le_of_ble_eq_true rfl⟩) rfl hl.1 rfl (Nat.le_of_ble_eq_true rfl) dX3_readFact_31 (fun r127 w129 H locs hp128 hw => ?_)
    obtain ⟨hT, k130, hg135⟩ := hp128
    have hF := hF.tr k130 (by decide)
    have c136 := k130.gi kC_at1 (by decide) c126
    rcases hg135 with rfl | ⟨rfl, ⟨x131, c132, rx131, tx131⟩, ⟨x133, c134, rx133, tx133⟩⟩
    · refine lv_if_eq (tgt := 41) hx hb dX3_readFact_34 (by decide) (fun _ => ?_) (fun c => absurd (by decide) c)
      exact J41 0 H locs ls w129 (by decide) (by decide)  hw hT hF c136 (lv_sub hl [1, 2, 0] rfl)
    · refine lv_if_eq (tgt := 41) hx hb dX3_readFact_34 (by decide) (fun c => absurd c (by decide)) (fun _ => ?_)
      refine lv_iconst (v := 1) hx hb dX3_readFact_37 (by decide) ?_
      refine lv_goto (tgt := 42) hx hb dX3_readFact_38 (by decide) ?_
      refine lv_istore_n (lv' := [(3, .int 1), (2, .int 0), (0, .ref (ad 3)), (1, .int 0)]) hx hb dX3_readFact_42 rfl hl (by decide) rfl (fun ls hl => ?_)
      refine lv_iload_n hx hb dX3_readFact_43 rfl (lv_at hl 1 rfl) ?_
      refine lv_if_ne (tgt := 77) hx hb dX3_readFact_44 (by decide) (fun c => absurd (by decide) c) (fun _ => ?_)
      refine lv_iload_n hx hb dX3_readFact_47 rfl (lv_at hl 0 rfl) ?_
      refine lv_if_ne (tgt := 77) hx hb dX3_readFact_48 (by decide) (fun _ => ?_) (fun c => absurd c (by decide))
      exact J77 0 1 H locs ls w129 (by decide) (by decide) (by decide) (by decide)  hw hT hF c136 (lv_sub hl [2, 3, 1, 0] rfl)
  · refine lv_istore_n (lv' := [(2, .int 1), (0, .ref (ad 3)), (1, .int 0)]) hx hb dX3_readFact_20 rfl hl (by decide) rfl (fun ls hl => ?_)
    refine lv_iload_n hx hb dX3_readFact_21 rfl (lv_at hl 0 rfl) ?_
    refine lv_if_ne (tgt := 41) hx hb dX3_readFact_22 (by decide) (fun _ => ?_) (fun c => absurd c (by decide))
    exact J41 1 H locs ls w121 (by decide) (by decide)  hw hT hF c126 (lv_sub hl [1, 2, 0] rfl)
abbrev P_X3_readTest_1 (ad : Nat → Nat) (cy : Nat → ClassId) (B : Int) (qr : Nat) (s1 : Int)  (w0 : va_W) : va_W → Prop := fun u => TW ksC ad cy B qr s1 u ∧ FE ksC [(2, 3, 3), (3, 2, 2), (6, 1, 1), (6, 3, 3), (6, 4, 4), (22, 0, 13), (23, 0, 400)] w0 u ∧ ((True))
set_option maxHeartbeats 4000000 in
set_option maxRecDepth 100000 in
theorem k_X3_readTest_1 (l : Launch) (adK adV : Nat → Nat) (dC : Nat → ClassId) (dI : Nat → Nat → Nat) (cy : Nat → ClassId) (ad : Nat → Nat) (B : Int) (hB0 : 2147483648 ≤ B) (hB1 : B ≤ 1152921504606846976) (qr : Nat) (s1 : Int) (hqr : ksC[qr]? = some 2)  (w0 : va_W) (sz : Nat) (hT : TW ksC ad cy B qr s1 w0) (cf0_ : gi w0 1 4 = 0) : Met l yX3_readTest wsX3_readTest ({ frames := 29, cells := 0, slots := 0, locals := 705 }) (va_Pc [.ref (ad 3), .int 0] (wpreS adK adV dC dI cy sz w0)) (va_Qv (P_X3_readTest_1 ad cy B qr s1  w0) (fun u : va_W => wpost dC dI cy (va_A w0 sz) u) (va_A w0 sz)) 0 0 (va_A w0 sz) := by
  refine Met.ofW (cc := cX3_readTest) (maxL := 4) (ret := none) (by decide) rfl ?_
  intro p e s m args below meth c s₁ Bk hml hv
  obtain ⟨rfl, ⟨hsz, hP, hK, hD0⟩, hE, hSR⟩ := hv
  have hx := Bk.exec
  have hb := Bk.bytes
  have hr := Bk.returns
  have hlocks := Bk.notSynchronized
  have hC : CallFix p m c cX3_readTest 4 s _ wsX3_readTest RX3 := ⟨hx, hb, hml, findClass_of_methodNamed Bk.named, atoms_spec (ws := wsX3_readTest) Bk.pre⟩
  subst hsz
  have hD := hD0.self (sz := s.heap.size)
  generalize hAe : va_A w0 s.heap.size = A at hD hE ⊢
  have hA : ∀ q : Nat, s.heap.size ≤ q → A q := fun q h => by rw [← hAe]; exact Or.inr h
  have hw : Wd dC dI A s.heap s.heap [] w0 := ⟨hP, hD, va_S.rf⟩
  have hF : FE ksC [(2, 3, 3), (3, 2, 2), (6, 1, 1), (6, 3, 3), (6, 4, 4), (22, 0, 13), (23, 0, 400)] w0 w0 := FE.rf
  have hl := lv_entry ([.ref (ad 3), .int 0]) (n := 4) (Nat.le_of_ble_eq_true rfl)
  rw [lg_entry_eq]
  generalize (lg_sl ([.ref (ad 3), .int 0]) ++ List.replicate (4 - (lg_sl ([.ref (ad 3), .int 0])).length) Slot.unset).toArray = ls at hl ⊢
  have hl : lv_has ls 4 [(0, .ref (ad 3)), (1, .int 0)] := hl
  generalize hloc : ([] : List Loc) = locs at hw ⊢
  have hinX3 : ∀ w ∈ u_ws RX3 TX3 3, w ∈ wsX3_readTest := fun _ h => List.mem_cons_of_mem _ (List.mem_append_left _ (List.mem_append_left _ (List.mem_append_right _ (h))))
  have J86 : ∀ (v86_2 : Int32) (v86_3 : Int32) (H : Heap) (locs : List Loc) (ls : Array Slot) (w1 : va_W), (-1) ≤ v86_2.toInt → v86_2.toInt ≤ 21 → 0 ≤ v86_3.toInt → v86_3.toInt ≤ 400 → Wd dC dI A s.heap H locs w1 → TW ksC ad cy B qr s1 w1 → FE ksC [(2, 3, 3), (3, 2, 2), (6, 1, 1), (6, 3, 3), (6, 4, 4), (22, 0, 13), (23, 0, 400)] w0 w1 → lv_has ls 4 [(0, .ref (ad 3)), (1, .int 0), (2, .int v86_2), (3, .int v86_3)] → W p l e ({ frames := 29, cells := 0, slots := 0, locals := 705 }) s m (List.toArray [.ref (ad 3), .int 0]) below meth c H locs 0 0 (MQ below (va_Qv (P_X3_readTest_1 ad cy B qr s1  w0) (fun u : va_W => wpost dC dI cy A u) A) (List.toArray [.ref (ad 3), .int 0]) s 0 0 A) (F0 m 86 ls []) := by
    intro v86_2 v86_3 H locs ls w1 r2 t3 r4 t5 hw hT hF hl
    refine lv_aload_n hx hb dX3_readTest_86 rfl (lv_at hl 0 rfl) ?_
    refine lv_iload_n hx hb dX3_readTest_87 rfl (lv_at hl 2 rfl) ?_
    refine tk_Vv hC hK hw hT hA hE hSR kC_at3 (by decide) rfl (k_X3_addWaiting_1 l adK adV dC dI cy ad B (by omega) (by omega) qr s1 hqr  v86_2 w1 H.size hT ) (cwV 1 hC.2.2.2.2 gX3_readTest_X3_addWaiting rfl rfl rfl (by decide +kernel) ⟨Nat.le_of_ble_eq_true rfl, Nat.le_of_ble_eq_true rfl⟩) rfl hl.1 rfl (Nat.le_of_ble_eq_true rfl) dX3_readTest_88 (fun w8 H locs hp7 hw => ?_)
    obtain ⟨hT, k9, hg10⟩ := hp7
    have hF := hF.tr k9 (by decide)
    clear hg10
    exact tk_vret hC hr hlocks hK ⟨hT, hF, trivial⟩ hw dX3_readTest_91
  have L9 : ∀ (n9 : Nat) (v9_2 : Int32) (v9_3 : Int32) (H : Heap) (locs : List Loc) (ls : Array Slot) (w11 : va_W), (-1) ≤ v9_2.toInt → v9_2.toInt ≤ 21 → 0 ≤ v9_3.toInt → v9_3.toInt ≤ 400 → (400 - v9_3.toInt).toNat < n9 → Wd dC dI A s.heap H locs w11 → TW ksC ad cy B qr s1 w11 → FE ksC [(2, 3, 3), (3, 2, 2), (6, 1, 1), (6, 3, 3), (6, 4, 4), (22, 0, 13), (23, 0, 400)] w0 w11 → lv_has ls 4 [(0, .ref (ad 3)), (1, .int 0), (2, .int v9_2), (3, .int v9_3)] → W p l e ({ frames := 29, cells := 0, slots := 0, locals := 705 }) s m (List.toArray [.ref (ad 3), .int 0]) below meth c H locs 0 0 (MQ below (va_Qv (P_X3_readTest_1 ad cy B qr s1  w0) (fun u : va_W => wpost dC dI cy A u) A) (List.toArray [.ref (ad 3), .int 0]) s 0 0 A) (F0 m 9 ls []) := by
    intro n9
    induction n9 with
    | zero => intro v9_2 v9_3 H locs ls w11 r12 t13 r14 t15 hm9 hw hT hF hl; omega
    | succ n9 ih9 =>
      intro v9_2 v9_3 H locs ls w11 r12 t13 r14 t15 hm9 hw hT hF hl
      have J80 : ∀ (v80_2 : Int32) (H : Heap) (locs : List Loc) (ls : Array Slot) (w16 : va_W), (-1) ≤ v80_2.toInt → v80_2.toInt ≤ 21 → 0 ≤ v9_3.toInt → v9_3.toInt ≤ 399 → Wd dC dI A s.heap H locs w16 → TW ksC ad cy B qr s1 w16 → FE ksC [(2, 3, 3), (3, 2, 2), (6, 1, 1), (6, 3, 3), (6, 4, 4), (22, 0, 13), (23, 0, 400)] w0 w16 → lv_has ls 4 [(0, .ref (ad 3)), (1, .int 0), (2, .int v80_2), (3, .int v9_3)] → W p l e ({ frames := 29, cells := 0, slots := 0, locals := 705 }) s m (List.toArray [.ref (ad 3), .int 0]) below meth c H locs 0 0 (MQ below (va_Qv (P_X3_readTest_1 ad cy B qr s1  w0) (fun u : va_W => wpost dC dI cy A u) A) (List.toArray [.ref (ad 3), .int 0]) s 0 0 A) (F0 m 80 ls []) := by
        intro v80_2 H locs ls w16 r17 t18 r19 t20 hw hT hF hl
        obtain ⟨x21, ex21⟩ : ∃ y : Int32, y = v9_3 + Int32.ofInt 1 := ⟨_, rfl⟩
        refine lv_iinc (v := x21) (lv' := [(3, .int x21), (0, .ref (ad 3)), (1, .int 0), (2, .int v80_2)]) hx hb dX3_readTest_80 hl (k := 3) rfl ex21.symm (by decide) rfl (fun ls hl => ?_)
        have ex21 : x21.toInt = v9_3.toInt + 1 := by rw [ex21]; exact wk_add (y := 1) (show -2147483648 ≤ v9_3.toInt + 1 by omega) (show v9_3.toInt + 1 ≤ 2147483647 by omega)
        refine lv_goto (tgt := 9) hx hb dX3_readTest_83 (by decide) ?_
        exact ih9 v80_2 x21 H locs ls w16 (show (-1) ≤ v80_2.toInt by omega) (show v80_2.toInt ≤ 21 by omega) (show 0 ≤ x21.toInt by omega) (show x21.toInt ≤ 400 by omega) (show (400 - x21.toInt).toNat < n9 by omega) hw hT hF  (lv_sub hl [1, 2, 3, 0] rfl)
      refine lv_iload_n hx hb dX3_readTest_9 rfl (lv_at hl 3 rfl) ?_
      refine lv_sipush (v := 400) hx hb dX3_readTest_10 (by decide) ?_
      refine lv_icmp_ge (tgt := 86) hx hb dX3_readTest_13 (by decide) (fun c22 => ?_) (fun c22 => ?_)
      · have c22 : (400 : Int) ≤ v9_3.toInt := wk_le.mp c22
        exact J86 v9_2 v9_3 H locs ls w11 (show (-1) ≤ v9_2.toInt by omega) (show v9_2.toInt ≤ 21 by omega) (show 0 ≤ v9_3.toInt by omega) (show v9_3.toInt ≤ 400 by omega)  hw hT hF  (lv_sub hl [0, 1, 2, 3] rfl)
      · have c22 : v9_3.toInt < (400 : Int) := wk_leF c22
        refine lv_aload_n hx hb dX3_readTest_16 rfl (lv_at hl 0 rfl) ?_
        refine tk_getA hC hK hw hT hinX3 kC_at3 (by decide) rfl 0 (by decide) (List.mem_of_getElem? (i := 1) rfl) rfl rfl dX3_readTest_17 ?_
        refine tk_Vi hC hK hw hT hA hE hSR kC_at1 (by decide) rfl (k_X6_isFaulty_1 l adK adV dC dI cy ad B (by omega) (by omega) qr s1    w11 H.size hT ) (cwV 0 hC.2.2.2.2 gX3_readTest_X6_isFaulty rfl rfl rfl (by decide +kernel) ⟨Nat.le_of_ble_eq_true rfl, Nat.le_of_ble_eq_true rfl⟩) rfl hl.1 rfl (Nat.le_of_ble_eq_true rfl) dX3_readTest_20 (fun r23 w25 H locs hp24 hw => ?_)
        obtain ⟨hT, k26, hg31⟩ := hp24
        have hF := hF.tr k26 (by decide)
        rcases hg31 with ⟨rfl, ⟨x27, c28, rx27, tx27⟩⟩ | ⟨rfl, ⟨x29, c30, rx29, tx29⟩⟩
        · refine lv_if_ne (tgt := 86) hx hb dX3_readTest_23 (by decide) (fun c => absurd (by decide) c) (fun _ => ?_)
          refine lv_aload_n hx hb dX3_readTest_26 rfl (lv_at hl 0 rfl) ?_
          refine tk_getA hC hK hw hT hinX3 kC_at3 (by decide) rfl 0 (by decide) (List.mem_of_getElem? (i := 1) rfl) rfl rfl dX3_readTest_27 ?_
          refine va_ldcS hx hb hC.2.2.2.1 hSR.2.2.2.2.2.2.1 dX3_readTest_30 ?_
          refine tk_Vi hC hK hw hT hA hE hSR kC_at1 (by decide) rfl (k_X6_takeWord_2 l adK adV dC dI cy ad B (by omega) (by omega) qr s1    w25 H.size hT ) (cwV 1 hC.2.2.2.2 gX3_readTest_X6_takeWord rfl rfl rfl (by decide +kernel) ⟨Nat.le_of_ble_eq_true rfl, Nat.le_of_ble_eq_true rfl⟩) rfl hl.1 rfl (Nat.le_of_ble_eq_true rfl) dX3_readTest_32 (fun r32 w34 H locs hp33 hw => ?_)
          obtain ⟨hT, k35, hg38⟩ := hp33
          have hF := hF.tr k35 (by decide)
          have c39 := k35.gi kC_at1 (by decide) c28
          rcases hg38 with rfl | ⟨rfl, ⟨x36, c37, rx36, tx36⟩⟩
          · refine lv_if_eq (tgt := 55) hx hb dX3_readTest_35 (by decide) (fun _ => ?_) (fun c => absurd (by decide) c)
            refine lv_aload_n hx hb dX3_readTest_55 rfl (lv_at hl 0 rfl) ?_
            refine tk_getA hC hK hw hT hinX3 kC_at3 (by decide) rfl 0 (by decide) (List.mem_of_getElem? (i := 1) rfl) rfl rfl dX3_readTest_56 ?_
            refine va_ldcS hx hb hC.2.2.2.1 hSR.2.2.2.2.2.2.2 dX3_readTest_59 ?_
            refine tk_Vi hC hK hw hT hA hE hSR kC_at1 (by decide) rfl (k_X6_takeWord_3 l adK adV dC dI cy ad B (by omega) (by omega) qr s1    w34 H.size hT ) (cwV 1 hC.2.2.2.2 gX3_readTest_X6_takeWord rfl rfl rfl (by decide +kernel) ⟨Nat.le_of_ble_eq_true rfl, Nat.le_of_ble_eq_true rfl⟩) rfl hl.1 rfl (Nat.le_of_ble_eq_true rfl) dX3_readTest_61 (fun r40 w42 H locs hp41 hw => ?_)
            obtain ⟨hT, k43, hg46⟩ := hp41
            have hF := hF.tr k43 (by decide)
            have c47 := k43.gi kC_at1 (by decide) c39
            rcases hg46 with rfl | ⟨rfl, ⟨x44, c45, rx44, tx44⟩⟩
            · refine lv_if_eq (tgt := 86) hx hb dX3_readTest_64 (by decide) (fun _ => ?_) (fun c => absurd (by decide) c)
              exact J86 v9_2 v9_3 H locs ls w42 (show (-1) ≤ v9_2.toInt by omega) (show v9_2.toInt ≤ 21 by omega) (show 0 ≤ v9_3.toInt by omega) (show v9_3.toInt ≤ 400 by omega)  hw hT hF  (lv_sub hl [0, 1, 2, 3] rfl)
            · refine lv_if_eq (tgt := 86) hx hb dX3_readTest_64 (by decide) (fun c => absurd c (by decide)) (fun _ => ?_)
              refine lv_aload_n hx hb dX3_readTest_67 rfl (lv_at hl 0 rfl) ?_
              refine lv_iload_n hx hb dX3_readTest_68 rfl (lv_at hl 2 rfl) ?_
              refine tk_Vv hC hK hw hT hA hE hSR kC_at3 (by decide) rfl (k_X3_addWaiting_1 l adK adV dC dI cy ad B (by omega) (by omega) qr s1 hqr  v9_2 w42 H.size hT ) (cwV 1 hC.2.2.2.2 gX3_readTest_X3_addWaiting rfl rfl rfl (by decide +kernel) ⟨Nat.le_of_ble_eq_true rfl, Nat.le_of_ble_eq_true rfl⟩) rfl hl.1 rfl (Nat.le_of_ble_eq_true rfl) dX3_readTest_69 (fun w50 H locs hp49 hw => ?_)
              obtain ⟨hT, k51, hg52⟩ := hp49
              have hF := hF.tr k51 (by decide)
              have c53 := k51.gi kC_at1 (by decide) c47
              have c54 := k51.gi kC_at1 (by decide) c45
              clear hg52
              refine lv_bipush (v := 21) hx hb dX3_readTest_72 (by decide) ?_
              refine lv_istore_n (lv' := [(2, .int 21), (0, .ref (ad 3)), (1, .int 0), (3, .int v9_3)]) hx hb dX3_readTest_74 rfl hl (by decide) rfl (fun ls hl => ?_)
              refine lv_aload_n hx hb dX3_readTest_75 rfl (lv_at hl 1 rfl) ?_
              refine lv_iload_n hx hb dX3_readTest_76 rfl (lv_at hl 2 rfl) ?_
              refine tk_Vv hC hK hw hT hA hE hSR kC_at3 (by decide) rfl (k_X3_readFact_1 l adK adV dC dI cy ad B (by omega) (by omega) qr s1 hqr   w50 H.size hT (c53.trans (wk_eq.mpr (show x27.toInt = 0 by omega)))) (cwV 1 hC.2.2.2.2 gX3_readTest_X3_readFact rfl rfl rfl (by decide +kernel) ⟨Nat.le_of_ble_eq_true rfl, Nat.le_of_ble_eq_true rfl⟩) rfl hl.1 rfl (Nat.le_of_ble_eq_true rfl) dX3_readTest_77 (fun w57 H locs hp56 hw => ?_)
              obtain ⟨hT, k58, hg59⟩ := hp56
              have hF := hF.tr k58 (by decide)
              clear hg59
              exact J80 21 H locs ls w57 (by decide) (by decide) (show 0 ≤ v9_3.toInt by omega) (show v9_3.toInt ≤ 399 by omega)  hw hT hF  (lv_sub hl [1, 2, 0, 3] rfl)
          · refine lv_if_eq (tgt := 55) hx hb dX3_readTest_35 (by decide) (fun c => absurd c (by decide)) (fun _ => ?_)
            refine lv_aload_n hx hb dX3_readTest_38 rfl (lv_at hl 0 rfl) ?_
            refine lv_iload_n hx hb dX3_readTest_39 rfl (lv_at hl 1 rfl) ?_
            refine tk_Vv hC hK hw hT hA hE hSR kC_at3 (by decide) rfl (k_X3_readFact_1 l adK adV dC dI cy ad B (by omega) (by omega) qr s1 hqr   w34 H.size hT (c39.trans (wk_eq.mpr (show x27.toInt = 0 by omega)))) (cwV 1 hC.2.2.2.2 gX3_readTest_X3_readFact rfl rfl rfl (by decide +kernel) ⟨Nat.le_of_ble_eq_true rfl, Nat.le_of_ble_eq_true rfl⟩) rfl hl.1 rfl (Nat.le_of_ble_eq_true rfl) dX3_readTest_40 (fun w62 H locs hp61 hw => ?_)
            obtain ⟨hT, k63, hg64⟩ := hp61
            have hF := hF.tr k63 (by decide)
            clear hg64
            refine lv_aload_n hx hb dX3_readTest_43 rfl (lv_at hl 0 rfl) ?_
            refine tk_getQ hC hK hw hT hqr (by decide) hinX3 kC_at3 (by decide) rfl 1 (by decide) (List.mem_of_getElem? (i := 2) rfl) rfl rfl dX3_readTest_44 ?_
            refine lv_bipush (v := 20) hx hb dX3_readTest_47 (by decide) ?_
            refine tk_Vv hC hK hw hT hA hE hSR hqr (by decide) rfl (k_X2_addToken_1 l adK adV dC dI cy ad B (by omega) (by omega) qr s1   qr hqr 20 w62 H.size hT ) (cwV 1 hC.2.2.2.2 gX3_readTest_X2_addToken rfl rfl rfl (by decide +kernel) ⟨Nat.le_of_ble_eq_true rfl, Nat.le_of_ble_eq_true rfl⟩) rfl hl.1 rfl (Nat.le_of_ble_eq_true rfl) dX3_readTest_49 (fun w67 H locs hp66 hw => ?_)
            obtain ⟨hT, k68, hg71⟩ := hp66
            have hF := hF.tr k68 (by decide)
            obtain ⟨x69, c70, rx69, tx69⟩ := hg71
            refine lv_goto (tgt := 80) hx hb dX3_readTest_52 (by decide) ?_
            exact J80 v9_2 H locs ls w67 (show (-1) ≤ v9_2.toInt by omega) (show v9_2.toInt ≤ 21 by omega) (show 0 ≤ v9_3.toInt by omega) (show v9_3.toInt ≤ 399 by omega)  hw hT hF  (lv_sub hl [0, 1, 2, 3] rfl)
        · refine lv_if_ne (tgt := 86) hx hb dX3_readTest_23 (by decide) (fun _ => ?_) (fun c => absurd c (by decide))
          exact J86 v9_2 v9_3 H locs ls w25 (show (-1) ≤ v9_2.toInt by omega) (show v9_2.toInt ≤ 21 by omega) (show 0 ≤ v9_3.toInt by omega) (show v9_3.toInt ≤ 400 by omega)  hw hT hF  (lv_sub hl [0, 1, 2, 3] rfl)
  refine lv_aload_n hx hb dX3_readTest_0 rfl (lv_at hl 0 rfl) ?_
  refine lv_iload_n hx hb dX3_readTest_1 rfl (lv_at hl 1 rfl) ?_
  refine tk_Vv hC hK hw hT hA hE hSR kC_at3 (by decide) rfl (k_X3_readFact_1 l adK adV dC dI cy ad B (by omega) (by omega) qr s1 hqr   w0 s.heap.size hT cf0_) (cwV 1 hC.2.2.2.2 gX3_readTest_X3_readFact rfl rfl rfl (by decide +kernel) ⟨Nat.le_of_ble_eq_true rfl, Nat.le_of_ble_eq_true rfl⟩) rfl hl.1 rfl (Nat.le_of_ble_eq_true rfl) dX3_readTest_2 (fun w74 H locs hp73 hw => ?_)
  obtain ⟨hT, k75, hg76⟩ := hp73
  have hF := hF.tr k75 (by decide)
  clear hg76
  refine lv_iconst (v := (-1)) hx hb dX3_readTest_5 (by decide) ?_
  refine lv_istore_n (lv' := [(2, .int (-1)), (0, .ref (ad 3)), (1, .int 0)]) hx hb dX3_readTest_6 rfl hl (by decide) rfl (fun ls hl => ?_)
  refine lv_iconst (v := 0) hx hb dX3_readTest_7 (by decide) ?_
  refine lv_istore_n (lv' := [(3, .int 0), (2, .int (-1)), (0, .ref (ad 3)), (1, .int 0)]) hx hb dX3_readTest_8 rfl hl (by decide) rfl (fun ls hl => ?_)
  exact L9 ((400 - (0 : Int)).toNat + 1) (-1) 0 H locs ls w74 (by decide) (by decide) (by decide) (by decide) (Nat.lt_succ_self _) hw hT hF  (lv_sub hl [2, 3, 1, 0] rfl)
abbrev P_X6_readWord_2 (ad : Nat → Nat) (cy : Nat → ClassId) (B : Int) (qr : Nat) (s1 : Int)  (w0 : va_W) : Int32 → va_W → Prop := fun r u => TW ksC ad cy B qr s1 u ∧ FE ksC [(6, 1, 1), (6, 3, 3), (6, 4, 4)] w0 u ∧ ((0 ≤ r.toInt ∧ r.toInt ≤ 18) ∨ (r = (-1) ∧ (∃ y : Int32, gi u 1 4 = y ∧ 1 ≤ y.toInt ∧ y.toInt ≤ 3205)))
set_option maxHeartbeats 4000000 in
set_option maxRecDepth 100000 in
theorem k_X6_readWord_2 (l : Launch) (adK adV : Nat → Nat) (dC : Nat → ClassId) (dI : Nat → Nat → Nat) (cy : Nat → ClassId) (ad : Nat → Nat) (B : Int) (hB0 : 2147483648 ≤ B) (hB1 : B ≤ 1152921504606846976) (qr : Nat) (s1 : Int)   (w0 : va_W) (sz : Nat) (hT : TW ksC ad cy B qr s1 w0)  : Met l yX6_readWord wsX6_readWord ({ frames := 5, cells := 0, slots := 0, locals := 141 }) (va_Pc [.ref (ad 1), .ref (adK 2)] (wpreS adK adV dC dI cy sz w0)) (va_Qi (P_X6_readWord_2 ad cy B qr s1  w0) (fun u : va_W => wpost dC dI cy (va_A w0 sz) u) (va_A w0 sz)) 0 0 (va_A w0 sz) := by
  refine Met.ofW (cc := cX6_readWord) (maxL := 8) (ret := (some .int)) (by decide) rfl ?_
  intro p e s m args below meth c s₁ Bk hml hv
  obtain ⟨rfl, ⟨hsz, hP, hK, hD0⟩, hE, hSR⟩ := hv
  have hx := Bk.exec
  have hb := Bk.bytes
  have hr := Bk.returns
  have hlocks := Bk.notSynchronized
  have hC : CallFix p m c cX6_readWord 8 s _ wsX6_readWord RX6 := ⟨hx, hb, hml, findClass_of_methodNamed Bk.named, atoms_spec (ws := wsX6_readWord) Bk.pre⟩
  subst hsz
  have hD := hD0.self (sz := s.heap.size)
  generalize hAe : va_A w0 s.heap.size = A at hD hE ⊢
  have hA : ∀ q : Nat, s.heap.size ≤ q → A q := fun q h => by rw [← hAe]; exact Or.inr h
  have hw : Wd dC dI A s.heap s.heap [] w0 := ⟨hP, hD, va_S.rf⟩
  have hF : FE ksC [(6, 1, 1), (6, 3, 3), (6, 4, 4)] w0 w0 := FE.rf
  have hl := lv_entry ([.ref (ad 1), .ref (adK 2)]) (n := 8) (Nat.le_of_ble_eq_true rfl)
  rw [lg_entry_eq]
  generalize (lg_sl ([.ref (ad 1), .ref (adK 2)]) ++ List.replicate (8 - (lg_sl ([.ref (ad 1), .ref (adK 2)])).length) Slot.unset).toArray = ls at hl ⊢
  have hl : lv_has ls 8 [(0, .ref (ad 1)), (1, .ref (adK 2))] := hl
  generalize hloc : ([] : List Loc) = locs at hw ⊢
  have hinX6 : ∀ w ∈ u_ws RX6 TX6 5, w ∈ wsX6_readWord := fun _ h => List.mem_cons_of_mem _ (List.mem_append_right _ (h))
  have L24 : ∀ (n24 : Nat) (v24_2 : Int32) (v24_3 : Int32) (v24_4 : Int32) (v24_5 : Int32) (v24_6 : Int32) (f24_1_1 : Int32) (H : Heap) (locs : List Loc) (ls : Array Slot) (w1 : va_W), 0 ≤ v24_2.toInt → v24_2.toInt ≤ 400 → 0 ≤ v24_3.toInt → v24_3.toInt ≤ 18 → 0 ≤ v24_4.toInt → v24_4.toInt ≤ 418 → 0 ≤ v24_5.toInt → v24_5.toInt ≤ 1 → 0 ≤ v24_6.toInt → v24_6.toInt ≤ 18 → 0 ≤ f24_1_1.toInt → f24_1_1.toInt ≤ 400 → v24_4.toInt ≤ v24_6.toInt + 400 → v24_3.toInt ≤ v24_6.toInt + 0 → (18 - v24_6.toInt).toNat < n24 → Wd dC dI A s.heap H locs w1 → TW ksC ad cy B qr s1 w1 → FE ksC [(6, 1, 1), (6, 3, 3), (6, 4, 4)] w0 w1 → gi w1 1 1 = f24_1_1 → lv_has ls 8 [(0, .ref (ad 1)), (1, .ref (adK 2)), (2, .int v24_2), (3, .int v24_3), (4, .int v24_4), (5, .int v24_5), (6, .int v24_6)] → W p l e ({ frames := 5, cells := 0, slots := 0, locals := 141 }) s m (List.toArray [.ref (ad 1), .ref (adK 2)]) below meth c H locs 0 0 (MQ below (va_Qi (P_X6_readWord_2 ad cy B qr s1  w0) (fun u : va_W => wpost dC dI cy A u) A) (List.toArray [.ref (ad 1), .ref (adK 2)]) s 0 0 A) (F0 m 24 ls []) := by
    intro n24
    induction n24 with
    | zero => intro v24_2 v24_3 v24_4 v24_5 v24_6 f24_1_1 H locs ls w1 r2 t3 r4 t5 r6 t7 r8 t9 r10 t11 r12 t13 i15 i16 hm24 hw hT hF c14 hl; omega
    | succ n24 ih24 =>
      intro v24_2 v24_3 v24_4 v24_5 v24_6 f24_1_1 H locs ls w1 r2 t3 r4 t5 r6 t7 r8 t9 r10 t11 r12 t13 i15 i16 hm24 hw hT hF c14 hl
      have J114 : ∀ (v114_3 : Int32) (v114_4 : Int32) (v114_5 : Int32) (v114_7 : Int32) (H : Heap) (locs : List Loc) (ls : Array Slot) (w17 : va_W), 0 ≤ v24_2.toInt → v24_2.toInt ≤ 400 → 0 ≤ v114_3.toInt → v114_3.toInt ≤ 18 → 0 ≤ v114_4.toInt → v114_4.toInt ≤ 418 → 0 ≤ v114_5.toInt → v114_5.toInt ≤ 1 → 0 ≤ v24_6.toInt → v24_6.toInt ≤ 17 → 0 ≤ f24_1_1.toInt → f24_1_1.toInt ≤ 400 → v114_4.toInt ≤ v24_6.toInt + 401 → v114_3.toInt ≤ v24_6.toInt + 1 → Wd dC dI A s.heap H locs w17 → TW ksC ad cy B qr s1 w17 → FE ksC [(6, 1, 1), (6, 3, 3), (6, 4, 4)] w0 w17 → gi w17 1 1 = f24_1_1 → lv_has ls 8 [(0, .ref (ad 1)), (1, .ref (adK 2)), (2, .int v24_2), (3, .int v114_3), (4, .int v114_4), (5, .int v114_5), (6, .int v24_6), (7, .int v114_7)] → W p l e ({ frames := 5, cells := 0, slots := 0, locals := 141 }) s m (List.toArray [.ref (ad 1), .ref (adK 2)]) below meth c H locs 0 0 (MQ below (va_Qi (P_X6_readWord_2 ad cy B qr s1  w0) (fun u : va_W => wpost dC dI cy A u) A) (List.toArray [.ref (ad 1), .ref (adK 2)]) s 0 0 A) (F0 m 114 ls []) := by
        intro v114_3 v114_4 v114_5 v114_7 H locs ls w17 r18 t19 r20 t21 r22 t23 r24 t25 r26 t27 r28 t29 i31 i32 hw hT hF c30 hl
        obtain ⟨x33, ex33⟩ : ∃ y : Int32, y = v24_6 + Int32.ofInt 1 := ⟨_, rfl⟩
        refine lv_iinc (v := x33) (lv' := [(6, .int x33), (0, .ref (ad 1)), (1, .ref (adK 2)), (2, .int v24_2), (3, .int v114_3), (4, .int v114_4), (5, .int v114_5), (7, .int v114_7)]) hx hb dX6_readWord_114 hl (k := 6) rfl ex33.symm (by decide) rfl (fun ls hl => ?_)
        have ex33 : x33.toInt = v24_6.toInt + 1 := by rw [ex33]; exact wk_add (y := 1) (show -2147483648 ≤ v24_6.toInt + 1 by omega) (show v24_6.toInt + 1 ≤ 2147483647 by omega)
        refine lv_goto (tgt := 24) hx hb dX6_readWord_117 (by decide) ?_
        exact ih24 v24_2 v114_3 v114_4 v114_5 x33 f24_1_1 H locs ls w17 (show 0 ≤ v24_2.toInt by omega) (show v24_2.toInt ≤ 400 by omega) (show 0 ≤ v114_3.toInt by omega) (show v114_3.toInt ≤ 18 by omega) (show 0 ≤ v114_4.toInt by omega) (show v114_4.toInt ≤ 418 by omega) (show 0 ≤ v114_5.toInt by omega) (show v114_5.toInt ≤ 1 by omega) (show 0 ≤ x33.toInt by omega) (show x33.toInt ≤ 18 by omega) (show 0 ≤ f24_1_1.toInt by omega) (show f24_1_1.toInt ≤ 400 by omega) (show v114_4.toInt ≤ x33.toInt + 400 by omega) (show v114_3.toInt ≤ x33.toInt + 0 by omega) (show (18 - x33.toInt).toNat < n24 by omega) hw hT hF c30 (lv_sub hl [1, 2, 3, 4, 5, 6, 0] rfl)
      have J75 : ∀ (v75_7 : Int32) (H : Heap) (locs : List Loc) (ls : Array Slot) (w34 : va_W), 0 ≤ v24_2.toInt → v24_2.toInt ≤ 400 → 0 ≤ v24_3.toInt → v24_3.toInt ≤ 18 → 0 ≤ v24_4.toInt → v24_4.toInt ≤ 418 → 0 ≤ v24_5.toInt → v24_5.toInt ≤ 1 → 0 ≤ v24_6.toInt → v24_6.toInt ≤ 17 → 0 ≤ f24_1_1.toInt → f24_1_1.toInt ≤ 400 → v24_4.toInt ≤ v24_6.toInt + 401 → v24_3.toInt ≤ v24_6.toInt + 1 → Wd dC dI A s.heap H locs w34 → TW ksC ad cy B qr s1 w34 → FE ksC [(6, 1, 1), (6, 3, 3), (6, 4, 4)] w0 w34 → gi w34 1 1 = f24_1_1 → lv_has ls 8 [(0, .ref (ad 1)), (1, .ref (adK 2)), (2, .int v24_2), (3, .int v24_3), (4, .int v24_4), (5, .int v24_5), (6, .int v24_6), (7, .int v75_7)] → W p l e ({ frames := 5, cells := 0, slots := 0, locals := 141 }) s m (List.toArray [.ref (ad 1), .ref (adK 2)]) below meth c H locs 0 0 (MQ below (va_Qi (P_X6_readWord_2 ad cy B qr s1  w0) (fun u : va_W => wpost dC dI cy A u) A) (List.toArray [.ref (ad 1), .ref (adK 2)]) s 0 0 A) (F0 m 75 ls []) := by
        intro v75_7 H locs ls w34 r35 t36 r37 t38 r39 t40 r41 t42 r43 t44 r45 t46 i48 i49 hw hT hF c47 hl
        refine lv_iconst (v := 0) hx hb dX6_readWord_75 (by decide) ?_
        refine lv_istore (lv' := [(5, .int 0), (0, .ref (ad 1)), (1, .ref (adK 2)), (2, .int v24_2), (3, .int v24_3), (4, .int v24_4), (6, .int v24_6), (7, .int v75_7)]) hx hb dX6_readWord_76 hl (by decide) rfl (fun ls hl => ?_)
        obtain ⟨x50, ex50⟩ : ∃ y : Int32, y = v24_4 + Int32.ofInt 1 := ⟨_, rfl⟩
        refine lv_iinc (v := x50) (lv' := [(4, .int x50), (5, .int 0), (0, .ref (ad 1)), (1, .ref (adK 2)), (2, .int v24_2), (3, .int v24_3), (6, .int v24_6), (7, .int v75_7)]) hx hb dX6_readWord_78 hl (k := 5) rfl ex50.symm (by decide) rfl (fun ls hl => ?_)
        have ex50 : x50.toInt = v24_4.toInt + 1 := by rw [ex50]; exact wk_add (y := 1) (show -2147483648 ≤ v24_4.toInt + 1 by omega) (show v24_4.toInt + 1 ≤ 2147483647 by omega)
        refine lv_goto (tgt := 114) hx hb dX6_readWord_81 (by decide) ?_
        exact J114 v24_3 x50 0 v75_7 H locs ls w34 (show 0 ≤ v24_2.toInt by omega) (show v24_2.toInt ≤ 400 by omega) (show 0 ≤ v24_3.toInt by omega) (show v24_3.toInt ≤ 18 by omega) (show 0 ≤ x50.toInt by omega) (show x50.toInt ≤ 418 by omega) (by decide) (by decide) (show 0 ≤ v24_6.toInt by omega) (show v24_6.toInt ≤ 17 by omega) (show 0 ≤ f24_1_1.toInt by omega) (show f24_1_1.toInt ≤ 400 by omega) (show x50.toInt ≤ v24_6.toInt + 401 by omega) (show v24_3.toInt ≤ v24_6.toInt + 1 by omega)  hw hT hF c47 (lv_sub hl [2, 3, 4, 5, 0, 1, 6, 7] rfl)
      have J102 : ∀ (H : Heap) (locs : List Loc) (ls : Array Slot) (w51 : va_W), 0 ≤ v24_2.toInt → v24_2.toInt ≤ 400 → 0 ≤ v24_3.toInt → v24_3.toInt ≤ 18 → 0 ≤ v24_4.toInt → v24_4.toInt ≤ 418 → 0 ≤ v24_5.toInt → v24_5.toInt ≤ 1 → 0 ≤ v24_6.toInt → v24_6.toInt ≤ 17 → 0 ≤ f24_1_1.toInt → f24_1_1.toInt ≤ 400 → v24_4.toInt ≤ v24_6.toInt + 401 → v24_3.toInt ≤ v24_6.toInt + 1 → Wd dC dI A s.heap H locs w51 → TW ksC ad cy B qr s1 w51 → FE ksC [(6, 1, 1), (6, 3, 3), (6, 4, 4)] w0 w51 → gi w51 1 1 = f24_1_1 → lv_has ls 8 [(0, .ref (ad 1)), (1, .ref (adK 2)), (2, .int v24_2), (3, .int v24_3), (4, .int v24_4), (5, .int v24_5), (6, .int v24_6), (7, .int 32)] → W p l e ({ frames := 5, cells := 0, slots := 0, locals := 141 }) s m (List.toArray [.ref (ad 1), .ref (adK 2)]) below meth c H locs 0 0 (MQ below (va_Qi (P_X6_readWord_2 ad cy B qr s1  w0) (fun u : va_W => wpost dC dI cy A u) A) (List.toArray [.ref (ad 1), .ref (adK 2)]) s 0 0 A) (F0 m 102 ls []) := by
        intro H locs ls w51 r52 t53 r54 t55 r56 t57 r58 t59 r60 t61 r62 t63 i65 i66 hw hT hF c64 hl
        obtain ⟨x67, ex67⟩ : ∃ y : Int32, y = v24_3 + Int32.ofInt 1 := ⟨_, rfl⟩
        refine lv_iinc (v := x67) (lv' := [(3, .int x67), (0, .ref (ad 1)), (1, .ref (adK 2)), (2, .int v24_2), (4, .int v24_4), (5, .int v24_5), (6, .int v24_6), (7, .int 32)]) hx hb dX6_readWord_102 hl (k := 3) rfl ex67.symm (by decide) rfl (fun ls hl => ?_)
        have ex67 : x67.toInt = v24_3.toInt + 1 := by rw [ex67]; exact wk_add (y := 1) (show -2147483648 ≤ v24_3.toInt + 1 by omega) (show v24_3.toInt + 1 ≤ 2147483647 by omega)
        refine lv_aload_n hx hb dX6_readWord_105 rfl (lv_at hl 1 rfl) ?_
        refine tk_geti hC hK hw hT hinX6 kC_at1 (by decide) rfl 1 (by decide) (List.mem_of_getElem? (i := 1) rfl) rfl rfl dX6_readWord_106 (fun x68 c69 rx68 tx68 => ?_)
        refine wk_top f24_1_1 (c69.symm.trans c64) ?_
        refine lv_istore (lv' := [(4, .int f24_1_1), (3, .int x67), (0, .ref (ad 1)), (1, .ref (adK 2)), (2, .int v24_2), (5, .int v24_5), (6, .int v24_6), (7, .int 32)]) hx hb dX6_readWord_109 hl (by decide) rfl (fun ls hl => ?_)
        refine lv_iconst (v := 1) hx hb dX6_readWord_111 (by decide) ?_
        refine lv_istore (lv' := [(5, .int 1), (4, .int f24_1_1), (3, .int x67), (0, .ref (ad 1)), (1, .ref (adK 2)), (2, .int v24_2), (6, .int v24_6), (7, .int 32)]) hx hb dX6_readWord_112 hl (by decide) rfl (fun ls hl => ?_)
        exact J114 x67 f24_1_1 1 32 H locs ls w51 (show 0 ≤ v24_2.toInt by omega) (show v24_2.toInt ≤ 400 by omega) (show 0 ≤ x67.toInt by omega) (show x67.toInt ≤ 18 by omega) (show 0 ≤ f24_1_1.toInt by omega) (show f24_1_1.toInt ≤ 418 by omega) (by decide) (by decide) (show 0 ≤ v24_6.toInt by omega) (show v24_6.toInt ≤ 17 by omega) (show 0 ≤ f24_1_1.toInt by omega) (show f24_1_1.toInt ≤ 400 by omega) (show f24_1_1.toInt ≤ v24_6.toInt + 401 by omega) (show x67.toInt ≤ v24_6.toInt + 1 by omega)  hw hT hF c64 (lv_sub hl [3, 4, 5, 2, 1, 0, 6, 7] rfl)
      refine lv_iload hx hb dX6_readWord_24 (lv_at hl 6 rfl) ?_
      refine lv_aload_n hx hb dX6_readWord_26 rfl (lv_at hl 1 rfl) ?_
      refine tk_ViT hC hK hw hA hE hSR (s_length l adK adV dC dI cy 2 (by decide) H.size) (cwV 0 hC.2.2.2.2 gX6_readWord_J0_length_8abf5 rfl rfl rfl (by decide +kernel) ⟨Nat.le_of_ble_eq_true rfl, Nat.le_of_ble_eq_true rfl⟩) 2 (by decide) rfl rfl rfl hl.1 rfl (Nat.le_of_ble_eq_true rfl) dX6_readWord_27 (fun r70 H locs hp71 hw => ?_)
      obtain ⟨-, hp71⟩ := hp71
      obtain rfl : r70 = 18 := hp71
      refine lv_icmp_ge (tgt := 120) hx hb dX6_readWord_30 (by decide) (fun c72 => ?_) (fun c72 => ?_)
      · have c72 : (18 : Int) ≤ v24_6.toInt := wk_le.mp c72
        refine lv_aload_n hx hb dX6_readWord_120 rfl (lv_at hl 0 rfl) ?_
        refine lv_aload_n hx hb dX6_readWord_121 rfl (lv_at hl 0 rfl) ?_
        refine tk_geti hC hK hw hT hinX6 kC_at1 (by decide) rfl 3 (by decide) (List.mem_of_getElem? (i := 3) rfl) rfl rfl dX6_readWord_122 (fun x73 c74 rx73 tx73 => ?_)
        refine lv_iconst (v := 0) hx hb dX6_readWord_125 (by decide) ?_
        refine tk_Vv hC hK hw hT hA hE hSR kC_at1 (by decide) rfl (k_X6_blame_2 l adK adV dC dI cy ad B (by omega) (by omega) qr s1   x73 (show 0 ≤ x73.toInt by omega) (show x73.toInt ≤ 400 by omega) 0 (by decide) (by decide) w1 H.size hT ) (cwV 2 hC.2.2.2.2 gX6_readWord_X6_blame rfl rfl rfl (by decide +kernel) ⟨Nat.le_of_ble_eq_true rfl, Nat.le_of_ble_eq_true rfl⟩) rfl hl.1 rfl (Nat.le_of_ble_eq_true rfl) dX6_readWord_126 (fun w77 H locs hp76 hw => ?_)
        obtain ⟨hT, k78, hg81⟩ := hp76
        have hF := hF.tr k78 (by decide)
        have c82 := k78.gi kC_at1 (by decide) c14
        have c83 := k78.gi kC_at1 (by decide) c74
        obtain ⟨x79, c80, rx79, tx79⟩ := hg81
        refine lv_iconst (v := (-1)) hx hb dX6_readWord_129 (by decide) ?_
        exact tk_iret hC hr hlocks hK ⟨hT, hF, (Or.inr ⟨rfl, ⟨x79, c80, (show 1 ≤ x79.toInt by omega), (show x79.toInt ≤ 3205 by omega)⟩⟩)⟩ hw dX6_readWord_130
      · have c72 : v24_6.toInt < (18 : Int) := wk_leF c72
        refine lv_aload_n hx hb dX6_readWord_33 rfl (lv_at hl 1 rfl) ?_
        refine lv_iload hx hb dX6_readWord_34 (lv_at hl 6 rfl) ?_
        refine tk_ViT hC hK hw hA hE hSR (s_charAt l adK adV dC dI cy 2 (by decide) v24_6 (show 0 ≤ v24_6.toInt by omega) (show v24_6.toInt < 18 by omega) H.size) (cwV 1 hC.2.2.2.2 gX6_readWord_J0_charAt_5068e rfl rfl rfl (by decide +kernel) ⟨Nat.le_of_ble_eq_true rfl, Nat.le_of_ble_eq_true rfl⟩) 2 (by decide) rfl rfl rfl hl.1 rfl (Nat.le_of_ble_eq_true rfl) dX6_readWord_36 (fun r84 H locs hp85 hw => ?_)
        refine lv_istore (lv' := [(7, .int r84), (0, .ref (ad 1)), (1, .ref (adK 2)), (2, .int v24_2), (3, .int v24_3), (4, .int v24_4), (5, .int v24_5), (6, .int v24_6)]) hx hb dX6_readWord_39 hl (by decide) rfl (fun ls hl => ?_)
        refine lv_iload hx hb dX6_readWord_41 (lv_at hl 0 rfl) ?_
        refine lv_bipush (v := 32) hx hb dX6_readWord_43 (by decide) ?_
        refine lv_icmp_eq (tgt := 84) hx hb dX6_readWord_45 (by decide) (fun c86 => ?_) (fun c86 => ?_)
        · have c86 : r84.toInt = (32 : Int) := wk_eq.mp c86
          refine lv_iload hx hb dX6_readWord_84 (lv_at hl 6 rfl) ?_
          refine lv_if_eq (tgt := 102) hx hb dX6_readWord_86 (by decide) (fun c87 => ?_) (fun c87 => ?_)
          · have c87 : v24_5.toInt = (0 : Int) := wk_eq.mp c87
            obtain rfl : r84 = 32 := wk_eq.mpr (show r84.toInt = 32 by omega)
            exact J102  H locs ls w1 (show 0 ≤ v24_2.toInt by omega) (show v24_2.toInt ≤ 400 by omega) (show 0 ≤ v24_3.toInt by omega) (show v24_3.toInt ≤ 18 by omega) (show 0 ≤ v24_4.toInt by omega) (show v24_4.toInt ≤ 418 by omega) (show 0 ≤ v24_5.toInt by omega) (show v24_5.toInt ≤ 1 by omega) (show 0 ≤ v24_6.toInt by omega) (show v24_6.toInt ≤ 17 by omega) (show 0 ≤ f24_1_1.toInt by omega) (show f24_1_1.toInt ≤ 400 by omega) (show v24_4.toInt ≤ v24_6.toInt + 401 by omega) (show v24_3.toInt ≤ v24_6.toInt + 1 by omega)  hw hT hF c14 (lv_sub hl [1, 2, 3, 4, 5, 6, 7, 0] rfl)
          · have c87 : ¬ v24_5.toInt = (0 : Int) := wk_eqF c87
            refine lv_iload hx hb dX6_readWord_89 (lv_at hl 5 rfl) ?_
            refine lv_iload_n hx hb dX6_readWord_91 rfl (lv_at hl 3 rfl) ?_
            refine lv_icmp_ne (tgt := 102) hx hb dX6_readWord_92 (by decide) (fun c88 => ?_) (fun c88 => ?_)
            · have c88 : ¬ v24_4.toInt = v24_2.toInt := wk_eqF c88
              obtain rfl : r84 = 32 := wk_eq.mpr (show r84.toInt = 32 by omega)
              exact J102  H locs ls w1 (show 0 ≤ v24_2.toInt by omega) (show v24_2.toInt ≤ 400 by omega) (show 0 ≤ v24_3.toInt by omega) (show v24_3.toInt ≤ 18 by omega) (show 0 ≤ v24_4.toInt by omega) (show v24_4.toInt ≤ 418 by omega) (show 0 ≤ v24_5.toInt by omega) (show v24_5.toInt ≤ 1 by omega) (show 0 ≤ v24_6.toInt by omega) (show v24_6.toInt ≤ 17 by omega) (show 0 ≤ f24_1_1.toInt by omega) (show f24_1_1.toInt ≤ 400 by omega) (show v24_4.toInt ≤ v24_6.toInt + 401 by omega) (show v24_3.toInt ≤ v24_6.toInt + 1 by omega)  hw hT hF c14 (lv_sub hl [1, 2, 3, 4, 5, 6, 7, 0] rfl)
            · have c88 : v24_4.toInt = v24_2.toInt := wk_eq.mp c88
              refine lv_aload_n hx hb dX6_readWord_95 rfl (lv_at hl 1 rfl) ?_
              refine lv_iload_n hx hb dX6_readWord_96 rfl (lv_at hl 3 rfl) ?_
              refine tk_puti hC hK hw hT hinX6 tyX6_ok nmX6 kC_at1 (by decide) rfl rfl 1 (by decide) (List.mem_of_getElem? (i := 1) rfl) rfl rfl rfl rfl (show 0 ≤ v24_2.toInt by omega) (show v24_2.toInt ≤ 400 by omega) dX6_readWord_97 (fun H locs w89 hw hT k91 c90 => ?_)
              have hF := hF.put kC_at1 (k := 1) (by decide) k91
              refine lv_iload_n hx hb dX6_readWord_100 rfl (lv_at hl 4 rfl) ?_
              exact tk_iret hC hr hlocks hK ⟨hT, hF, (Or.inl ⟨(show 0 ≤ v24_3.toInt by omega), (show v24_3.toInt ≤ 18 by omega)⟩)⟩ hw dX6_readWord_101
        · have c86 : ¬ r84.toInt = (32 : Int) := wk_eqF c86
          refine lv_iload hx hb dX6_readWord_48 (lv_at hl 6 rfl) ?_
          refine lv_if_eq (tgt := 75) hx hb dX6_readWord_50 (by decide) (fun c92 => ?_) (fun c92 => ?_)
          · have c92 : v24_5.toInt = (0 : Int) := wk_eq.mp c92
            exact J75 r84 H locs ls w1 (show 0 ≤ v24_2.toInt by omega) (show v24_2.toInt ≤ 400 by omega) (show 0 ≤ v24_3.toInt by omega) (show v24_3.toInt ≤ 18 by omega) (show 0 ≤ v24_4.toInt by omega) (show v24_4.toInt ≤ 418 by omega) (show 0 ≤ v24_5.toInt by omega) (show v24_5.toInt ≤ 1 by omega) (show 0 ≤ v24_6.toInt by omega) (show v24_6.toInt ≤ 17 by omega) (show 0 ≤ f24_1_1.toInt by omega) (show f24_1_1.toInt ≤ 400 by omega) (show v24_4.toInt ≤ v24_6.toInt + 401 by omega) (show v24_3.toInt ≤ v24_6.toInt + 1 by omega)  hw hT hF c14 (lv_sub hl [1, 2, 3, 4, 5, 6, 7, 0] rfl)
          · have c92 : ¬ v24_5.toInt = (0 : Int) := wk_eqF c92
            refine lv_iload hx hb dX6_readWord_53 (lv_at hl 5 rfl) ?_
            refine lv_iload_n hx hb dX6_readWord_55 rfl (lv_at hl 3 rfl) ?_
            refine lv_icmp_ge (tgt := 75) hx hb dX6_readWord_56 (by decide) (fun c93 => ?_) (fun c93 => ?_)
            · have c93 : v24_2.toInt ≤ v24_4.toInt := wk_le.mp c93
              exact J75 r84 H locs ls w1 (show 0 ≤ v24_2.toInt by omega) (show v24_2.toInt ≤ 400 by omega) (show 0 ≤ v24_3.toInt by omega) (show v24_3.toInt ≤ 18 by omega) (show 0 ≤ v24_4.toInt by omega) (show v24_4.toInt ≤ 418 by omega) (show 0 ≤ v24_5.toInt by omega) (show v24_5.toInt ≤ 1 by omega) (show 0 ≤ v24_6.toInt by omega) (show v24_6.toInt ≤ 17 by omega) (show 0 ≤ f24_1_1.toInt by omega) (show f24_1_1.toInt ≤ 400 by omega) (show v24_4.toInt ≤ v24_6.toInt + 401 by omega) (show v24_3.toInt ≤ v24_6.toInt + 1 by omega)  hw hT hF c14 (lv_sub hl [1, 2, 3, 4, 5, 6, 7, 0] rfl)
            · have c93 : v24_4.toInt < v24_2.toInt := wk_leF c93
              refine lv_aload_n hx hb dX6_readWord_59 rfl (lv_at hl 1 rfl) ?_
              refine tk_getA hC hK hw hT hinX6 kC_at1 (by decide) rfl 0 (by decide) (List.mem_of_getElem? (i := 2) rfl) rfl rfl dX6_readWord_60 ?_
              refine lv_iload hx hb dX6_readWord_63 (lv_at hl 5 rfl) ?_
              refine tk_iald hC hK hw hT kC_at2 rfl rfl (show 0 ≤ v24_4.toInt by omega) (show v24_4.toInt < 400 by omega) dX6_readWord_65 (fun x94 c95 rx94 tx94 => ?_)
              refine lv_iload hx hb dX6_readWord_66 (lv_at hl 0 rfl) ?_
              refine lv_icmp_ne (tgt := 75) hx hb dX6_readWord_68 (by decide) (fun c96 => ?_) (fun c96 => ?_)
              · have c96 : ¬ x94.toInt = r84.toInt := wk_eqF c96
                exact J75 r84 H locs ls w1 (show 0 ≤ v24_2.toInt by omega) (show v24_2.toInt ≤ 400 by omega) (show 0 ≤ v24_3.toInt by omega) (show v24_3.toInt ≤ 18 by omega) (show 0 ≤ v24_4.toInt by omega) (show v24_4.toInt ≤ 418 by omega) (show 0 ≤ v24_5.toInt by omega) (show v24_5.toInt ≤ 1 by omega) (show 0 ≤ v24_6.toInt by omega) (show v24_6.toInt ≤ 17 by omega) (show 0 ≤ f24_1_1.toInt by omega) (show f24_1_1.toInt ≤ 400 by omega) (show v24_4.toInt ≤ v24_6.toInt + 401 by omega) (show v24_3.toInt ≤ v24_6.toInt + 1 by omega)  hw hT hF c14 (lv_sub hl [1, 2, 3, 4, 5, 6, 7, 0] rfl)
              · have c96 : x94.toInt = r84.toInt := wk_eq.mp c96
                refine lv_iconst (v := 1) hx hb dX6_readWord_71 (by decide) ?_
                refine lv_goto (tgt := 76) hx hb dX6_readWord_72 (by decide) ?_
                refine lv_istore (lv' := [(5, .int 1), (7, .int r84), (0, .ref (ad 1)), (1, .ref (adK 2)), (2, .int v24_2), (3, .int v24_3), (4, .int v24_4), (6, .int v24_6)]) hx hb dX6_readWord_76 hl (by decide) rfl (fun ls hl => ?_)
                obtain ⟨x97, ex97⟩ : ∃ y : Int32, y = v24_4 + Int32.ofInt 1 := ⟨_, rfl⟩
                refine lv_iinc (v := x97) (lv' := [(4, .int x97), (5, .int 1), (7, .int r84), (0, .ref (ad 1)), (1, .ref (adK 2)), (2, .int v24_2), (3, .int v24_3), (6, .int v24_6)]) hx hb dX6_readWord_78 hl (k := 6) rfl ex97.symm (by decide) rfl (fun ls hl => ?_)
                have ex97 : x97.toInt = v24_4.toInt + 1 := by rw [ex97]; exact wk_add (y := 1) (show -2147483648 ≤ v24_4.toInt + 1 by omega) (show v24_4.toInt + 1 ≤ 2147483647 by omega)
                refine lv_goto (tgt := 114) hx hb dX6_readWord_81 (by decide) ?_
                exact J114 v24_3 x97 1 r84 H locs ls w1 (show 0 ≤ v24_2.toInt by omega) (show v24_2.toInt ≤ 400 by omega) (show 0 ≤ v24_3.toInt by omega) (show v24_3.toInt ≤ 18 by omega) (show 0 ≤ x97.toInt by omega) (show x97.toInt ≤ 418 by omega) (by decide) (by decide) (show 0 ≤ v24_6.toInt by omega) (show v24_6.toInt ≤ 17 by omega) (show 0 ≤ f24_1_1.toInt by omega) (show f24_1_1.toInt ≤ 400 by omega) (show x97.toInt ≤ v24_6.toInt + 401 by omega) (show v24_3.toInt ≤ v24_6.toInt + 1 by omega)  hw hT hF c14 (lv_sub hl [3, 4, 5, 6, 0, 1, 7, 2] rfl)
  refine lv_aload_n hx hb dX6_readWord_0 rfl (lv_at hl 0 rfl) ?_
  refine tk_Vi hC hK hw hT hA hE hSR kC_at1 (by decide) rfl (k_X6_lookBehindBlanks_1 l adK adV dC dI cy ad B (by omega) (by omega) qr s1    w0 s.heap.size hT ) (cwV 0 hC.2.2.2.2 gX6_readWord_X6_lookBehindBlanks rfl rfl rfl (by decide +kernel) ⟨Nat.le_of_ble_eq_true rfl, Nat.le_of_ble_eq_true rfl⟩) rfl hl.1 rfl (Nat.le_of_ble_eq_true rfl) dX6_readWord_1 (fun r98 w100 H locs hp99 hw => ?_)
  obtain ⟨hT, k101, hg110⟩ := hp99
  have hF := hF.tr k101 (by decide)
  rcases hg110 with ⟨g102, g103, ⟨x104, c105, rx104, tx104⟩, ⟨x106, c107, rx106, tx106⟩, ⟨x108, c109, rx108, tx108⟩⟩ | rfl
  · refine lv_pop hx hb dX6_readWord_4 rfl ?_
    refine lv_aload_n hx hb dX6_readWord_5 rfl (lv_at hl 0 rfl) ?_
    refine tk_Vi hC hK hw hT hA hE hSR kC_at1 (by decide) rfl (k_X6_endOfWord_1 l adK adV dC dI cy ad B (by omega) (by omega) qr s1    w100 H.size hT ) (cwV 0 hC.2.2.2.2 gX6_readWord_X6_endOfWord rfl rfl rfl (by decide +kernel) ⟨Nat.le_of_ble_eq_true rfl, Nat.le_of_ble_eq_true rfl⟩) rfl hl.1 rfl (Nat.le_of_ble_eq_true rfl) dX6_readWord_6 (fun r111 w113 H locs hp112 hw => ?_)
    obtain ⟨hT, k114, hg117⟩ := hp112
    have hF := hF.tr k114 (by decide)
    have c118 := k114.gi kC_at1 (by decide) c105
    have c119 := k114.gi kC_at1 (by decide) c107
    have c120 := k114.gi kC_at1 (by decide) c109
    obtain ⟨g115, g116⟩ := hg117
    refine lv_istore_n (lv' := [(2, .int r111), (0, .ref (ad 1)), (1, .ref (adK 2))]) hx hb dX6_readWord_9 rfl hl (by decide) rfl (fun ls hl => ?_)
    refine lv_iconst (v := 0) hx hb dX6_readWord_10 (by decide) ?_
    refine lv_istore_n (lv' := [(3, .int 0), (2, .int r111), (0, .ref (ad 1)), (1, .ref (adK 2))]) hx hb dX6_readWord_11 rfl hl (by decide) rfl (fun ls hl => ?_)
    refine lv_aload_n hx hb dX6_readWord_12 rfl (lv_at hl 2 rfl) ?_
    refine tk_geti hC hK hw hT hinX6 kC_at1 (by decide) rfl 1 (by decide) (List.mem_of_getElem? (i := 1) rfl) rfl rfl dX6_readWord_13 (fun x121 c122 rx121 tx121 => ?_)
    refine wk_top x104 (c122.symm.trans c118) ?_
    refine lv_istore (lv' := [(4, .int x104), (3, .int 0), (2, .int r111), (0, .ref (ad 1)), (1, .ref (adK 2))]) hx hb dX6_readWord_16 hl (by decide) rfl (fun ls hl => ?_)
    refine lv_iconst (v := 1) hx hb dX6_readWord_18 (by decide) ?_
    refine lv_istore (lv' := [(5, .int 1), (4, .int x104), (3, .int 0), (2, .int r111), (0, .ref (ad 1)), (1, .ref (adK 2))]) hx hb dX6_readWord_19 hl (by decide) rfl (fun ls hl => ?_)
    refine lv_iconst (v := 0) hx hb dX6_readWord_21 (by decide) ?_
    refine lv_istore (lv' := [(6, .int 0), (5, .int 1), (4, .int x104), (3, .int 0), (2, .int r111), (0, .ref (ad 1)), (1, .ref (adK 2))]) hx hb dX6_readWord_22 hl (by decide) rfl (fun ls hl => ?_)
    exact L24 ((18 - (0 : Int)).toNat + 1) r111 0 x104 1 0 x104 H locs ls w113 (show 0 ≤ r111.toInt by omega) (show r111.toInt ≤ 400 by omega) (by decide) (by decide) (show 0 ≤ x104.toInt by omega) (show x104.toInt ≤ 418 by omega) (by decide) (by decide) (by decide) (by decide) (show 0 ≤ x104.toInt by omega) (show x104.toInt ≤ 400 by omega) (show x104.toInt ≤ (0 : Int) + 400 by omega) (show (0 : Int) ≤ (0 : Int) + 0 by omega) (Nat.lt_succ_self _) hw hT hF c118 (lv_sub hl [5, 6, 4, 3, 2, 1, 0] rfl)
  · refine lv_pop hx hb dX6_readWord_4 rfl ?_
    refine lv_aload_n hx hb dX6_readWord_5 rfl (lv_at hl 0 rfl) ?_
    refine tk_Vi hC hK hw hT hA hE hSR kC_at1 (by decide) rfl (k_X6_endOfWord_1 l adK adV dC dI cy ad B (by omega) (by omega) qr s1    w100 H.size hT ) (cwV 0 hC.2.2.2.2 gX6_readWord_X6_endOfWord rfl rfl rfl (by decide +kernel) ⟨Nat.le_of_ble_eq_true rfl, Nat.le_of_ble_eq_true rfl⟩) rfl hl.1 rfl (Nat.le_of_ble_eq_true rfl) dX6_readWord_6 (fun r123 w125 H locs hp124 hw => ?_)
    obtain ⟨hT, k126, hg129⟩ := hp124
    have hF := hF.tr k126 (by decide)
    obtain ⟨g127, g128⟩ := hg129
    refine lv_istore_n (lv' := [(2, .int r123), (0, .ref (ad 1)), (1, .ref (adK 2))]) hx hb dX6_readWord_9 rfl hl (by decide) rfl (fun ls hl => ?_)
    refine lv_iconst (v := 0) hx hb dX6_readWord_10 (by decide) ?_
    refine lv_istore_n (lv' := [(3, .int 0), (2, .int r123), (0, .ref (ad 1)), (1, .ref (adK 2))]) hx hb dX6_readWord_11 rfl hl (by decide) rfl (fun ls hl => ?_)
    refine lv_aload_n hx hb dX6_readWord_12 rfl (lv_at hl 2 rfl) ?_
    refine tk_geti hC hK hw hT hinX6 kC_at1 (by decide) rfl 1 (by decide) (List.mem_of_getElem? (i := 1) rfl) rfl rfl dX6_readWord_13 (fun x130 c131 rx130 tx130 => ?_)
    refine lv_istore (lv' := [(4, .int x130), (3, .int 0), (2, .int r123), (0, .ref (ad 1)), (1, .ref (adK 2))]) hx hb dX6_readWord_16 hl (by decide) rfl (fun ls hl => ?_)
    refine lv_iconst (v := 1) hx hb dX6_readWord_18 (by decide) ?_
    refine lv_istore (lv' := [(5, .int 1), (4, .int x130), (3, .int 0), (2, .int r123), (0, .ref (ad 1)), (1, .ref (adK 2))]) hx hb dX6_readWord_19 hl (by decide) rfl (fun ls hl => ?_)
    refine lv_iconst (v := 0) hx hb dX6_readWord_21 (by decide) ?_
    refine lv_istore (lv' := [(6, .int 0), (5, .int 1), (4, .int x130), (3, .int 0), (2, .int r123), (0, .ref (ad 1)), (1, .ref (adK 2))]) hx hb dX6_readWord_22 hl (by decide) rfl (fun ls hl => ?_)
    exact L24 ((18 - (0 : Int)).toNat + 1) r123 0 x130 1 0 x130 H locs ls w125 (show 0 ≤ r123.toInt by omega) (show r123.toInt ≤ 400 by omega) (by decide) (by decide) (show 0 ≤ x130.toInt by omega) (show x130.toInt ≤ 418 by omega) (by decide) (by decide) (by decide) (by decide) (show 0 ≤ x130.toInt by omega) (show x130.toInt ≤ 400 by omega) (show x130.toInt ≤ (0 : Int) + 400 by omega) (show (0 : Int) ≤ (0 : Int) + 0 by omega) (Nat.lt_succ_self _) hw hT hF c131 (lv_sub hl [5, 6, 4, 3, 2, 1, 0] rfl)
abbrev P_X6_blame_3 (ad : Nat → Nat) (cy : Nat → ClassId) (B : Int) (qr : Nat) (s1 : Int) (a1 : Int32) (a2 : Int32) (w0 : va_W) : va_W → Prop := fun u => TW ksC ad cy B qr s1 u ∧ FE ksC ([] : List (Nat × Nat × Nat)) w0 u ∧ (((∃ y : Int32, gi u 1 4 = y ∧ 1 ≤ y.toInt ∧ y.toInt ≤ 3205)))
set_option maxHeartbeats 4000000 in
set_option maxRecDepth 100000 in
theorem k_X6_blame_3 (l : Launch) (adK adV : Nat → Nat) (dC : Nat → ClassId) (dI : Nat → Nat → Nat) (cy : Nat → ClassId) (ad : Nat → Nat) (B : Int) (hB0 : 2147483648 ≤ B) (hB1 : B ≤ 1152921504606846976) (qr : Nat) (s1 : Int)  (a1 : Int32) (ra1 : 0 ≤ a1.toInt) (ta1 : a1.toInt ≤ 400) (a2 : Int32) (ra2 : 0 ≤ a2.toInt) (ta2 : a2.toInt ≤ 4) (w0 : va_W) (sz : Nat) (hT : TW ksC ad cy B qr s1 w0) (f0_ : Int32) (cf0_ : gi w0 1 4 = f0_) (rf0_ : 1 ≤ f0_.toInt) (tf0_ : f0_.toInt ≤ 3205) : Met l yX6_blame wsX6_blame ({ frames := 1, cells := 0, slots := 0, locals := 12 }) (va_Pc [.ref (ad 1), .int a1, .int a2] (wpreS adK adV dC dI cy sz w0)) (va_Qv (P_X6_blame_3 ad cy B qr s1 a1 a2 w0) (fun u : va_W => wpost dC dI cy (va_A w0 sz) u) (va_A w0 sz)) 0 0 (va_A w0 sz) := by
  refine Met.ofW (cc := cX6_blame) (maxL := 3) (ret := none) (by decide) rfl ?_
  intro p e s m args below meth c s₁ Bk hml hv
  obtain ⟨rfl, ⟨hsz, hP, hK, hD0⟩, hE, hSR⟩ := hv
  have hx := Bk.exec
  have hb := Bk.bytes
  have hr := Bk.returns
  have hlocks := Bk.notSynchronized
  have hC : CallFix p m c cX6_blame 3 s _ wsX6_blame RX6 := ⟨hx, hb, hml, findClass_of_methodNamed Bk.named, atoms_spec (ws := wsX6_blame) Bk.pre⟩
  subst hsz
  have hD := hD0.self (sz := s.heap.size)
  generalize hAe : va_A w0 s.heap.size = A at hD hE ⊢
  have hA : ∀ q : Nat, s.heap.size ≤ q → A q := fun q h => by rw [← hAe]; exact Or.inr h
  have hw : Wd dC dI A s.heap s.heap [] w0 := ⟨hP, hD, va_S.rf⟩
  have hF : FE ksC ([] : List (Nat × Nat × Nat)) w0 w0 := FE.rf
  have hl := lv_entry ([.ref (ad 1), .int a1, .int a2]) (n := 3) (Nat.le_of_ble_eq_true rfl)
  rw [lg_entry_eq]
  generalize (lg_sl ([.ref (ad 1), .int a1, .int a2]) ++ List.replicate (3 - (lg_sl ([.ref (ad 1), .int a1, .int a2])).length) Slot.unset).toArray = ls at hl ⊢
  have hl : lv_has ls 3 [(0, .ref (ad 1)), (1, .int a1), (2, .int a2)] := hl
  generalize hloc : ([] : List Loc) = locs at hw ⊢
  have hinX6 : ∀ w ∈ u_ws RX6 TX6 5, w ∈ wsX6_blame := fun _ h => List.mem_cons_of_mem _ (List.mem_append_right _ (h))
  have J19 : ∀ (H : Heap) (locs : List Loc) (ls : Array Slot) (w1 : va_W), 0 ≤ a1.toInt → a1.toInt ≤ 400 → 0 ≤ a2.toInt → a2.toInt ≤ 4 → 1 ≤ f0_.toInt → f0_.toInt ≤ 3205 → Wd dC dI A s.heap H locs w1 → TW ksC ad cy B qr s1 w1 → FE ksC ([] : List (Nat × Nat × Nat)) w0 w1 → gi w1 1 4 = f0_ → lv_has ls 3 [(0, .ref (ad 1)), (1, .int a1), (2, .int a2)] → W p l e ({ frames := 1, cells := 0, slots := 0, locals := 12 }) s m (List.toArray [.ref (ad 1), .int a1, .int a2]) below meth c H locs 0 0 (MQ below (va_Qv (P_X6_blame_3 ad cy B qr s1 a1 a2 w0) (fun u : va_W => wpost dC dI cy A u) A) (List.toArray [.ref (ad 1), .int a1, .int a2]) s 0 0 A) (F0 m 19 ls []) := by
    intro H locs ls w1 r2 t3 r4 t5 r6 t7 hw hT hF c8 hl
    exact tk_vret hC hr hlocks hK ⟨hT, hF, ⟨f0_, c8, (show 1 ≤ f0_.toInt by omega), (show f0_.toInt ≤ 3205 by omega)⟩⟩ hw dX6_blame_19
  refine lv_aload_n hx hb dX6_blame_0 rfl (lv_at hl 0 rfl) ?_
  refine tk_geti hC hK hw hT hinX6 kC_at1 (by decide) rfl 4 (by decide) (List.mem_of_getElem? (i := 1) rfl) rfl rfl dX6_blame_1 (fun x9 c10 rx9 tx9 => ?_)
  refine wk_top f0_ (c10.symm.trans cf0_) ?_
  refine lv_if_ne (tgt := 19) hx hb dX6_blame_4 (by decide) (fun _ => ?_) (fun c => absurd (show f0_.toInt = (0 : Int) from wk_eq.mp c) (by omega))
  exact J19  s.heap locs ls w0 (show 0 ≤ a1.toInt by omega) (show a1.toInt ≤ 400 by omega) (show 0 ≤ a2.toInt by omega) (show a2.toInt ≤ 4 by omega) (show 1 ≤ f0_.toInt by omega) (show f0_.toInt ≤ 3205 by omega)  hw hT hF cf0_ (lv_sub hl [0, 1, 2] rfl)
abbrev P_X2_clear_1 (ad : Nat → Nat) (cy : Nat → ClassId) (B : Int) (qr : Nat) (s1 : Int) (q0_ : Nat) (w0 : va_W) : va_W → Prop := fun u => TW ksC ad cy B qr s1 u ∧ FE ksC [(2, 3, 3), (2, 4, 4), (2, 5, 5)] w0 u ∧ (((∃ y : Int32, gi u q0_ 3 = y ∧ 0 ≤ y.toInt ∧ y.toInt ≤ 0) ∧ (∃ y : Int32, gi u q0_ 4 = y ∧ 0 ≤ y.toInt ∧ y.toInt ≤ 0) ∧ (∃ y : Int32, gi u q0_ 5 = y ∧ 0 ≤ y.toInt ∧ y.toInt ≤ 0)))
set_option maxHeartbeats 4000000 in
set_option maxRecDepth 100000 in
theorem k_X2_clear_1 (l : Launch) (adK adV : Nat → Nat) (dC : Nat → ClassId) (dI : Nat → Nat → Nat) (cy : Nat → ClassId) (ad : Nat → Nat) (B : Int) (hB0 : 2147483648 ≤ B) (hB1 : B ≤ 1152921504606846976) (qr : Nat) (s1 : Int)  (q0_ : Nat) (hkq0_ : ksC[q0_]? = some 2) (w0 : va_W) (sz : Nat) (hT : TW ksC ad cy B qr s1 w0)  : Met l yX2_clear wsX2_clear ({ frames := 1, cells := 0, slots := 0, locals := 12 }) (va_Pc [.ref (ad q0_)] (wpreS adK adV dC dI cy sz w0)) (va_Qv (P_X2_clear_1 ad cy B qr s1 q0_ w0) (fun u : va_W => wpost dC dI cy (va_A w0 sz) u) (va_A w0 sz)) 0 0 (va_A w0 sz) := by
  refine Met.ofW (cc := cX2_clear) (maxL := 1) (ret := none) (by decide) rfl ?_
  intro p e s m args below meth c s₁ Bk hml hv
  obtain ⟨rfl, ⟨hsz, hP, hK, hD0⟩, hE, hSR⟩ := hv
  have hx := Bk.exec
  have hb := Bk.bytes
  have hr := Bk.returns
  have hlocks := Bk.notSynchronized
  have hC : CallFix p m c cX2_clear 1 s _ wsX2_clear RX2 := ⟨hx, hb, hml, findClass_of_methodNamed Bk.named, atoms_spec (ws := wsX2_clear) Bk.pre⟩
  subst hsz
  have hD := hD0.self (sz := s.heap.size)
  generalize hAe : va_A w0 s.heap.size = A at hD hE ⊢
  have hA : ∀ q : Nat, s.heap.size ≤ q → A q := fun q h => by rw [← hAe]; exact Or.inr h
  have hw : Wd dC dI A s.heap s.heap [] w0 := ⟨hP, hD, va_S.rf⟩
  have hF : FE ksC [(2, 3, 3), (2, 4, 4), (2, 5, 5)] w0 w0 := FE.rf
  have hl := lv_entry ([.ref (ad q0_)]) (n := 1) (Nat.le_of_ble_eq_true rfl)
  rw [lg_entry_eq]
  generalize (lg_sl ([.ref (ad q0_)]) ++ List.replicate (1 - (lg_sl ([.ref (ad q0_)])).length) Slot.unset).toArray = ls at hl ⊢
  have hl : lv_has ls 1 [(0, .ref (ad q0_))] := hl
  generalize hloc : ([] : List Loc) = locs at hw ⊢
  have hinX2 : ∀ w ∈ u_ws RX2 TX2 6, w ∈ wsX2_clear := fun _ h => List.mem_cons_of_mem _ (List.mem_append_right _ (h))
  refine lv_aload_n hx hb dX2_clear_0 rfl (lv_at hl 0 rfl) ?_
  refine lv_iconst (v := 0) hx hb dX2_clear_1 (by decide) ?_
  refine tk_puti hC hK hw hT hinX2 tyX2_ok nmX2 hkq0_ (by decide) rfl rfl 4 (by decide) (List.mem_of_getElem? (i := 1) rfl) rfl rfl rfl rfl (by decide) (by decide) dX2_clear_2 (fun H locs w1 hw hT k3 c2 => ?_)
  have hF := hF.put hkq0_ (k := 4) (by decide) k3
  refine lv_aload_n hx hb dX2_clear_5 rfl (lv_at hl 0 rfl) ?_
  refine lv_iconst (v := 0) hx hb dX2_clear_6 (by decide) ?_
  refine tk_puti hC hK hw hT hinX2 tyX2_ok nmX2 hkq0_ (by decide) rfl rfl 3 (by decide) (List.mem_of_getElem? (i := 2) rfl) rfl rfl rfl rfl (by decide) (by decide) dX2_clear_7 (fun H locs w4 hw hT k6 c5 => ?_)
  have hF := hF.put hkq0_ (k := 3) (by decide) k6
  have c7 := k6.gi (Or.inr (by decide)) c2
  refine lv_aload_n hx hb dX2_clear_10 rfl (lv_at hl 0 rfl) ?_
  refine lv_iconst (v := 0) hx hb dX2_clear_11 (by decide) ?_
  refine tk_putz hC hK hw hT hinX2 tyX2_ok nmX2 hkq0_ (by decide) rfl rfl 5 (by decide) (List.mem_of_getElem? (i := 3) rfl) rfl rfl rfl rfl (by decide) (by decide) dX2_clear_12 (fun H locs w8 hw hT k10 c9 => ?_)
  have hF := hF.put hkq0_ (k := 5) (by decide) k10
  have c11 := k10.gi (Or.inr (by decide)) c7
  have c12 := k10.gi (Or.inr (by decide)) c5
  exact tk_vret hC hr hlocks hK ⟨hT, hF, ⟨⟨0, c12, (by decide), (by decide)⟩, ⟨0, c11, (by decide), (by decide)⟩, ⟨0, c9, (by decide), (by decide)⟩⟩⟩ hw dX2_clear_15
abbrev P_X6_startReading_1 (ad : Nat → Nat) (cy : Nat → ClassId) (B : Int) (qr : Nat) (s1 : Int)  (w0 : va_W) : va_W → Prop := fun u => TW ksC ad cy B qr s1 u ∧ FE ksC [(6, 1, 1), (6, 3, 3), (6, 4, 4)] w0 u ∧ (((∃ y : Int32, gi u 1 1 = y ∧ 0 ≤ y.toInt ∧ y.toInt ≤ 0) ∧ (∃ y : Int32, gi u 1 3 = y ∧ 0 ≤ y.toInt ∧ y.toInt ≤ 0) ∧ (∃ y : Int32, gi u 1 4 = y ∧ 0 ≤ y.toInt ∧ y.toInt ≤ 0)))
set_option maxHeartbeats 4000000 in
set_option maxRecDepth 100000 in
theorem k_X6_startReading_1 (l : Launch) (adK adV : Nat → Nat) (dC : Nat → ClassId) (dI : Nat → Nat → Nat) (cy : Nat → ClassId) (ad : Nat → Nat) (B : Int) (hB0 : 2147483648 ≤ B) (hB1 : B ≤ 1152921504606846976) (qr : Nat) (s1 : Int)   (w0 : va_W) (sz : Nat) (hT : TW ksC ad cy B qr s1 w0)  : Met l yX6_startReading wsX6_startReading ({ frames := 1, cells := 0, slots := 0, locals := 12 }) (va_Pc [.ref (ad 1)] (wpreS adK adV dC dI cy sz w0)) (va_Qv (P_X6_startReading_1 ad cy B qr s1  w0) (fun u : va_W => wpost dC dI cy (va_A w0 sz) u) (va_A w0 sz)) 0 0 (va_A w0 sz) := by
  refine Met.ofW (cc := cX6_startReading) (maxL := 1) (ret := none) (by decide) rfl ?_
  intro p e s m args below meth c s₁ Bk hml hv
  obtain ⟨rfl, ⟨hsz, hP, hK, hD0⟩, hE, hSR⟩ := hv
  have hx := Bk.exec
  have hb := Bk.bytes
  have hr := Bk.returns
  have hlocks := Bk.notSynchronized
  have hC : CallFix p m c cX6_startReading 1 s _ wsX6_startReading RX6 := ⟨hx, hb, hml, findClass_of_methodNamed Bk.named, atoms_spec (ws := wsX6_startReading) Bk.pre⟩
  subst hsz
  have hD := hD0.self (sz := s.heap.size)
  generalize hAe : va_A w0 s.heap.size = A at hD hE ⊢
  have hA : ∀ q : Nat, s.heap.size ≤ q → A q := fun q h => by rw [← hAe]; exact Or.inr h
  have hw : Wd dC dI A s.heap s.heap [] w0 := ⟨hP, hD, va_S.rf⟩
  have hF : FE ksC [(6, 1, 1), (6, 3, 3), (6, 4, 4)] w0 w0 := FE.rf
  have hl := lv_entry ([.ref (ad 1)]) (n := 1) (Nat.le_of_ble_eq_true rfl)
  rw [lg_entry_eq]
  generalize (lg_sl ([.ref (ad 1)]) ++ List.replicate (1 - (lg_sl ([.ref (ad 1)])).length) Slot.unset).toArray = ls at hl ⊢
  have hl : lv_has ls 1 [(0, .ref (ad 1))] := hl
  generalize hloc : ([] : List Loc) = locs at hw ⊢
  have hinX6 : ∀ w ∈ u_ws RX6 TX6 5, w ∈ wsX6_startReading := fun _ h => List.mem_cons_of_mem _ (List.mem_append_right _ (h))
  refine lv_aload_n hx hb dX6_startReading_0 rfl (lv_at hl 0 rfl) ?_
  refine lv_iconst (v := 0) hx hb dX6_startReading_1 (by decide) ?_
  refine tk_puti hC hK hw hT hinX6 tyX6_ok nmX6 kC_at1 (by decide) rfl rfl 1 (by decide) (List.mem_of_getElem? (i := 1) rfl) rfl rfl rfl rfl (by decide) (by decide) dX6_startReading_2 (fun H locs w1 hw hT k3 c2 => ?_)
  have hF := hF.put kC_at1 (k := 1) (by decide) k3
  refine lv_aload_n hx hb dX6_startReading_5 rfl (lv_at hl 0 rfl) ?_
  refine lv_iconst (v := 0) hx hb dX6_startReading_6 (by decide) ?_
  refine tk_puti hC hK hw hT hinX6 tyX6_ok nmX6 kC_at1 (by decide) rfl rfl 3 (by decide) (List.mem_of_getElem? (i := 2) rfl) rfl rfl rfl rfl (by decide) (by decide) dX6_startReading_7 (fun H locs w4 hw hT k6 c5 => ?_)
  have hF := hF.put kC_at1 (k := 3) (by decide) k6
  have c7 := k6.gi (Or.inr (by decide)) c2
  refine lv_aload_n hx hb dX6_startReading_10 rfl (lv_at hl 0 rfl) ?_
  refine lv_iconst (v := 0) hx hb dX6_startReading_11 (by decide) ?_
  refine tk_puti hC hK hw hT hinX6 tyX6_ok nmX6 kC_at1 (by decide) rfl rfl 4 (by decide) (List.mem_of_getElem? (i := 3) rfl) rfl rfl rfl rfl (by decide) (by decide) dX6_startReading_12 (fun H locs w8 hw hT k10 c9 => ?_)
  have hF := hF.put kC_at1 (k := 4) (by decide) k10
  have c11 := k10.gi (Or.inr (by decide)) c7
  have c12 := k10.gi (Or.inr (by decide)) c5
  exact tk_vret hC hr hlocks hK ⟨hT, hF, ⟨⟨0, c11, (by decide), (by decide)⟩, ⟨0, c12, (by decide), (by decide)⟩, ⟨0, c9, (by decide), (by decide)⟩⟩⟩ hw dX6_startReading_15
abbrev P_X3_readInto_1 (ad : Nat → Nat) (cy : Nat → ClassId) (B : Int) (qr : Nat) (s1 : Int) (q1_ : Nat) (w0 : va_W) : va_W → Prop := fun u => TW ksC ad cy B q1_ s1 u ∧ FE ksC [(2, 3, 3), (2, 4, 4), (2, 5, 5), (3, 1, 1), (3, 2, 2), (6, 1, 1), (6, 3, 3), (6, 4, 4), (21, 0, 12), (22, 0, 13), (23, 0, 400)] w0 u ∧ (((∃ y : Int32, gi u 1 4 = y ∧ 0 ≤ y.toInt ∧ y.toInt ≤ 3205)))
set_option maxHeartbeats 4000000 in
set_option maxRecDepth 100000 in
theorem k_X3_readInto_1 (l : Launch) (adK adV : Nat → Nat) (dC : Nat → ClassId) (dI : Nat → Nat → Nat) (cy : Nat → ClassId) (ad : Nat → Nat) (B : Int) (hB0 : 2147483648 ≤ B) (hB1 : B ≤ 1152921504606846976) (qr : Nat) (s1 : Int)  (q1_ : Nat) (hkq1_ : ksC[q1_]? = some 2) (w0 : va_W) (sz : Nat) (hT : TW ksC ad cy B qr s1 w0)  : Met l yX3_readInto wsX3_readInto ({ frames := 30, cells := 0, slots := 0, locals := 728 }) (va_Pc [.ref (ad 3), .ref (ad q1_)] (wpreS adK adV dC dI cy sz w0)) (va_Qv (P_X3_readInto_1 ad cy B qr s1 q1_ w0) (fun u : va_W => wpost dC dI cy (va_A w0 sz) u) (va_A w0 sz)) 0 0 (va_A w0 sz) := by
  refine Met.ofW (cc := cX3_readInto) (maxL := 5) (ret := none) (by decide) rfl ?_
  intro p e s m args below meth c s₁ Bk hml hv
  obtain ⟨rfl, ⟨hsz, hP, hK, hD0⟩, hE, hSR⟩ := hv
  have hx := Bk.exec
  have hb := Bk.bytes
  have hr := Bk.returns
  have hlocks := Bk.notSynchronized
  have hC : CallFix p m c cX3_readInto 5 s _ wsX3_readInto RX3 := ⟨hx, hb, hml, findClass_of_methodNamed Bk.named, atoms_spec (ws := wsX3_readInto) Bk.pre⟩
  subst hsz
  have hD := hD0.self (sz := s.heap.size)
  generalize hAe : va_A w0 s.heap.size = A at hD hE ⊢
  have hA : ∀ q : Nat, s.heap.size ≤ q → A q := fun q h => by rw [← hAe]; exact Or.inr h
  have hw : Wd dC dI A s.heap s.heap [] w0 := ⟨hP, hD, va_S.rf⟩
  have hF : FE ksC [(2, 3, 3), (2, 4, 4), (2, 5, 5), (3, 1, 1), (3, 2, 2), (6, 1, 1), (6, 3, 3), (6, 4, 4), (21, 0, 12), (22, 0, 13), (23, 0, 400)] w0 w0 := FE.rf
  have hl := lv_entry ([.ref (ad 3), .ref (ad q1_)]) (n := 5) (Nat.le_of_ble_eq_true rfl)
  rw [lg_entry_eq]
  generalize (lg_sl ([.ref (ad 3), .ref (ad q1_)]) ++ List.replicate (5 - (lg_sl ([.ref (ad 3), .ref (ad q1_)])).length) Slot.unset).toArray = ls at hl ⊢
  have hl : lv_has ls 5 [(0, .ref (ad 3)), (1, .ref (ad q1_))] := hl
  generalize hloc : ([] : List Loc) = locs at hw ⊢
  have hinX3 : ∀ w ∈ u_ws RX3 TX3 3, w ∈ wsX3_readInto := fun _ h => List.mem_cons_of_mem _ (List.mem_append_left _ (List.mem_append_left _ (List.mem_append_right _ (h))))
  have hinX6 : ∀ w ∈ u_ws RX6 TX6 5, w ∈ wsX3_readInto := fun _ h => List.mem_cons_of_mem _ (List.mem_append_left _ (List.mem_append_right _ (h)))
  have J124 : ∀ (v124_2 : Int32) (v124_3 : Int32) (f124_1_4 : Int32) (f124_q1__4 : Int32) (H : Heap) (locs : List Loc) (ls : Array Slot) (w1 : va_W), 0 ≤ v124_2.toInt → v124_2.toInt ≤ 1 → 0 ≤ v124_3.toInt → v124_3.toInt ≤ 13 → 0 ≤ f124_1_4.toInt → f124_1_4.toInt ≤ 3205 → 0 ≤ f124_q1__4.toInt → f124_q1__4.toInt ≤ 12 → Wd dC dI A s.heap H locs w1 → TW ksC ad cy B q1_ s1 w1 → FE ksC [(2, 3, 3), (2, 4, 4), (2, 5, 5), (3, 1, 1), (3, 2, 2), (6, 1, 1), (6, 3, 3), (6, 4, 4), (21, 0, 12), (22, 0, 13), (23, 0, 400)] w0 w1 → gi w1 1 4 = f124_1_4 → gi w1 q1_ 4 = f124_q1__4 → lv_has ls 5 [(0, .ref (ad 3)), (1, .ref (ad q1_)), (2, .int v124_2), (3, .int v124_3)] → W p l e ({ frames := 30, cells := 0, slots := 0, locals := 728 }) s m (List.toArray [.ref (ad 3), .ref (ad q1_)]) below meth c H locs 0 0 (MQ below (va_Qv (P_X3_readInto_1 ad cy B qr s1 q1_ w0) (fun u : va_W => wpost dC dI cy A u) A) (List.toArray [.ref (ad 3), .ref (ad q1_)]) s 0 0 A) (F0 m 124 ls []) := by
    intro v124_2 v124_3 f124_1_4 f124_q1__4 H locs ls w1 r2 t3 r4 t5 r6 t7 r9 t10 hw hT hF c8 c11 hl
    exact tk_vret hC hr hlocks hK ⟨hT, hF, ⟨f124_1_4, c8, (show 0 ≤ f124_1_4.toInt by omega), (show f124_1_4.toInt ≤ 3205 by omega)⟩⟩ hw dX3_readInto_124
  have L28 : ∀ (n28 : Nat) (v28_2 : Int32) (v28_3 : Int32) (f28_1_4 : Int32) (f28_q1__4 : Int32) (H : Heap) (locs : List Loc) (ls : Array Slot) (w12 : va_W), 0 ≤ v28_2.toInt → v28_2.toInt ≤ 1 → 0 ≤ v28_3.toInt → v28_3.toInt ≤ 13 → 0 ≤ f28_1_4.toInt → f28_1_4.toInt ≤ 3205 → 0 ≤ f28_q1__4.toInt → f28_q1__4.toInt ≤ 12 → (13 - v28_3.toInt).toNat < n28 → Wd dC dI A s.heap H locs w12 → TW ksC ad cy B q1_ s1 w12 → FE ksC [(2, 3, 3), (2, 4, 4), (2, 5, 5), (3, 1, 1), (3, 2, 2), (6, 1, 1), (6, 3, 3), (6, 4, 4), (21, 0, 12), (22, 0, 13), (23, 0, 400)] w0 w12 → gi w12 1 4 = f28_1_4 → gi w12 q1_ 4 = f28_q1__4 → lv_has ls 5 [(0, .ref (ad 3)), (1, .ref (ad q1_)), (2, .int v28_2), (3, .int v28_3)] → W p l e ({ frames := 30, cells := 0, slots := 0, locals := 728 }) s m (List.toArray [.ref (ad 3), .ref (ad q1_)]) below meth c H locs 0 0 (MQ below (va_Qv (P_X3_readInto_1 ad cy B qr s1 q1_ w0) (fun u : va_W => wpost dC dI cy A u) A) (List.toArray [.ref (ad 3), .ref (ad q1_)]) s 0 0 A) (F0 m 28 ls []) := by
    intro n28
    induction n28 with
    | zero => intro v28_2 v28_3 f28_1_4 f28_q1__4 H locs ls w12 r13 t14 r15 t16 r17 t18 r20 t21 hm28 hw hT hF c19 c22 hl; omega
    | succ n28 ih28 =>
      intro v28_2 v28_3 f28_1_4 f28_q1__4 H locs ls w12 r13 t14 r15 t16 r17 t18 r20 t21 hm28 hw hT hF c19 c22 hl
      have J110 : ∀ (v110_4 : Int32) (f110_q1__4 : Int32) (H : Heap) (locs : List Loc) (ls : Array Slot) (w23 : va_W), 0 ≤ v28_3.toInt → v28_3.toInt ≤ 12 → (-1) ≤ v110_4.toInt → v110_4.toInt ≤ 18 → 1 ≤ f110_q1__4.toInt → f110_q1__4.toInt ≤ 12 → Wd dC dI A s.heap H locs w23 → TW ksC ad cy B q1_ s1 w23 → FE ksC [(2, 3, 3), (2, 4, 4), (2, 5, 5), (3, 1, 1), (3, 2, 2), (6, 1, 1), (6, 3, 3), (6, 4, 4), (21, 0, 12), (22, 0, 13), (23, 0, 400)] w0 w23 → gi w23 q1_ 4 = f110_q1__4 → lv_has ls 5 [(0, .ref (ad 3)), (1, .ref (ad q1_)), (2, .int 1), (3, .int v28_3), (4, .int v110_4)] → W p l e ({ frames := 30, cells := 0, slots := 0, locals := 728 }) s m (List.toArray [.ref (ad 3), .ref (ad q1_)]) below meth c H locs 0 0 (MQ below (va_Qv (P_X3_readInto_1 ad cy B qr s1 q1_ w0) (fun u : va_W => wpost dC dI cy A u) A) (List.toArray [.ref (ad 3), .ref (ad q1_)]) s 0 0 A) (F0 m 110 ls []) := by
        intro v110_4 f110_q1__4 H locs ls w23 r24 t25 r26 t27 r28 t29 hw hT hF c30 hl
        refine lv_aload_n hx hb dX3_readInto_110 rfl (lv_at hl 0 rfl) ?_
        refine tk_getA hC hK hw hT hinX3 kC_at3 (by decide) rfl 0 (by decide) (List.mem_of_getElem? (i := 3) rfl) rfl rfl dX3_readInto_111 ?_
        refine tk_Vi hC hK hw hT hA hE hSR kC_at1 (by decide) rfl (k_X6_takeSemicolon_1 l adK adV dC dI cy ad B (by omega) (by omega) q1_ s1    w23 H.size hT ) (cwV 0 hC.2.2.2.2 gX3_readInto_X6_takeSemicolon rfl rfl rfl (by decide +kernel) ⟨Nat.le_of_ble_eq_true rfl, Nat.le_of_ble_eq_true rfl⟩) rfl hl.1 rfl (Nat.le_of_ble_eq_true rfl) dX3_readInto_114 (fun r31 w33 H locs hp32 hw => ?_)
        obtain ⟨hT, k34, hg45⟩ := hp32
        have hF := hF.tr k34 (by decide)
        have c46 := k34.gi hkq1_ (by decide) c30
        rcases hg45 with ⟨rfl, ⟨x35, c36, rx35, tx35⟩⟩ | ⟨rfl, ⟨x37, c38, rx37, tx37⟩⟩ | ⟨rfl, ⟨x39, c40, rx39, tx39⟩, ⟨x41, c42, rx41, tx41⟩, ⟨x43, c44, rx43, tx43⟩⟩
        · refine lv_istore_n (lv' := [(2, .int 0), (0, .ref (ad 3)), (1, .ref (ad q1_)), (3, .int v28_3), (4, .int v110_4)]) hx hb dX3_readInto_117 rfl hl (by decide) rfl (fun ls hl => ?_)
          obtain ⟨x47, ex47⟩ : ∃ y : Int32, y = v28_3 + Int32.ofInt 1 := ⟨_, rfl⟩
          refine lv_iinc (v := x47) (lv' := [(3, .int x47), (2, .int 0), (0, .ref (ad 3)), (1, .ref (ad q1_)), (4, .int v110_4)]) hx hb dX3_readInto_118 hl (k := 3) rfl ex47.symm (by decide) rfl (fun ls hl => ?_)
          have ex47 : x47.toInt = v28_3.toInt + 1 := by rw [ex47]; exact wk_add (y := 1) (show -2147483648 ≤ v28_3.toInt + 1 by omega) (show v28_3.toInt + 1 ≤ 2147483647 by omega)
          refine lv_goto (tgt := 28) hx hb dX3_readInto_121 (by decide) ?_
          exact ih28 0 x47 x35 f110_q1__4 H locs ls w33 (by decide) (by decide) (show 0 ≤ x47.toInt by omega) (show x47.toInt ≤ 13 by omega) (show 0 ≤ x35.toInt by omega) (show x35.toInt ≤ 3205 by omega) (show 0 ≤ f110_q1__4.toInt by omega) (show f110_q1__4.toInt ≤ 12 by omega) (show (13 - x47.toInt).toNat < n28 by omega) hw hT hF c36 c46 (lv_sub hl [2, 3, 1, 0] rfl)
        · refine lv_istore_n (lv' := [(2, .int 0), (0, .ref (ad 3)), (1, .ref (ad q1_)), (3, .int v28_3), (4, .int v110_4)]) hx hb dX3_readInto_117 rfl hl (by decide) rfl (fun ls hl => ?_)
          obtain ⟨x48, ex48⟩ : ∃ y : Int32, y = v28_3 + Int32.ofInt 1 := ⟨_, rfl⟩
          refine lv_iinc (v := x48) (lv' := [(3, .int x48), (2, .int 0), (0, .ref (ad 3)), (1, .ref (ad q1_)), (4, .int v110_4)]) hx hb dX3_readInto_118 hl (k := 3) rfl ex48.symm (by decide) rfl (fun ls hl => ?_)
          have ex48 : x48.toInt = v28_3.toInt + 1 := by rw [ex48]; exact wk_add (y := 1) (show -2147483648 ≤ v28_3.toInt + 1 by omega) (show v28_3.toInt + 1 ≤ 2147483647 by omega)
          refine lv_goto (tgt := 28) hx hb dX3_readInto_121 (by decide) ?_
          exact ih28 0 x48 x37 f110_q1__4 H locs ls w33 (by decide) (by decide) (show 0 ≤ x48.toInt by omega) (show x48.toInt ≤ 13 by omega) (show 0 ≤ x37.toInt by omega) (show x37.toInt ≤ 3205 by omega) (show 0 ≤ f110_q1__4.toInt by omega) (show f110_q1__4.toInt ≤ 12 by omega) (show (13 - x48.toInt).toNat < n28 by omega) hw hT hF c38 c46 (lv_sub hl [2, 3, 1, 0] rfl)
        · refine lv_istore_n (lv' := [(2, .int 1), (0, .ref (ad 3)), (1, .ref (ad q1_)), (3, .int v28_3), (4, .int v110_4)]) hx hb dX3_readInto_117 rfl hl (by decide) rfl (fun ls hl => ?_)
          obtain ⟨x49, ex49⟩ : ∃ y : Int32, y = v28_3 + Int32.ofInt 1 := ⟨_, rfl⟩
          refine lv_iinc (v := x49) (lv' := [(3, .int x49), (2, .int 1), (0, .ref (ad 3)), (1, .ref (ad q1_)), (4, .int v110_4)]) hx hb dX3_readInto_118 hl (k := 3) rfl ex49.symm (by decide) rfl (fun ls hl => ?_)
          have ex49 : x49.toInt = v28_3.toInt + 1 := by rw [ex49]; exact wk_add (y := 1) (show -2147483648 ≤ v28_3.toInt + 1 by omega) (show v28_3.toInt + 1 ≤ 2147483647 by omega)
          refine lv_goto (tgt := 28) hx hb dX3_readInto_121 (by decide) ?_
          exact ih28 1 x49 x43 f110_q1__4 H locs ls w33 (by decide) (by decide) (show 0 ≤ x49.toInt by omega) (show x49.toInt ≤ 13 by omega) (show 0 ≤ x43.toInt by omega) (show x43.toInt ≤ 3205 by omega) (show 0 ≤ f110_q1__4.toInt by omega) (show f110_q1__4.toInt ≤ 12 by omega) (show (13 - x49.toInt).toNat < n28 by omega) hw hT hF c44 c46 (lv_sub hl [2, 3, 1, 0] rfl)
      have J74 : ∀ (v74_4 : Int32) (H : Heap) (locs : List Loc) (ls : Array Slot) (w50 : va_W), 0 ≤ v28_3.toInt → v28_3.toInt ≤ 12 → (-1) ≤ v74_4.toInt → v74_4.toInt ≤ 18 → 0 ≤ f28_q1__4.toInt → f28_q1__4.toInt ≤ 12 → Wd dC dI A s.heap H locs w50 → TW ksC ad cy B q1_ s1 w50 → FE ksC [(2, 3, 3), (2, 4, 4), (2, 5, 5), (3, 1, 1), (3, 2, 2), (6, 1, 1), (6, 3, 3), (6, 4, 4), (21, 0, 12), (22, 0, 13), (23, 0, 400)] w0 w50 → gi w50 q1_ 4 = f28_q1__4 → lv_has ls 5 [(0, .ref (ad 3)), (1, .ref (ad q1_)), (2, .int 1), (3, .int v28_3), (4, .int v74_4)] → W p l e ({ frames := 30, cells := 0, slots := 0, locals := 728 }) s m (List.toArray [.ref (ad 3), .ref (ad q1_)]) below meth c H locs 0 0 (MQ below (va_Qv (P_X3_readInto_1 ad cy B qr s1 q1_ w0) (fun u : va_W => wpost dC dI cy A u) A) (List.toArray [.ref (ad 3), .ref (ad q1_)]) s 0 0 A) (F0 m 74 ls []) := by
        intro v74_4 H locs ls w50 r51 t52 r53 t54 r55 t56 hw hT hF c57 hl
        refine lv_aload_n hx hb dX3_readInto_74 rfl (lv_at hl 0 rfl) ?_
        refine tk_getQ hC hK hw hT hkq1_ (by decide) hinX3 kC_at3 (by decide) rfl 1 (by decide) (List.mem_of_getElem? (i := 1) rfl) rfl rfl dX3_readInto_75 ?_
        refine lv_iload hx hb dX3_readInto_78 (lv_at hl 4 rfl) ?_
        refine tk_Vv hC hK hw hT hA hE hSR hkq1_ (by decide) rfl (k_X2_addClause_1 l adK adV dC dI cy ad B (by omega) (by omega) q1_ s1   q1_ hkq1_ v74_4 (show (-1) ≤ v74_4.toInt by omega) (show v74_4.toInt ≤ 18 by omega) w50 H.size hT ) (cwV 1 hC.2.2.2.2 gX3_readInto_X2_addClause rfl rfl rfl (by decide +kernel) ⟨Nat.le_of_ble_eq_true rfl, Nat.le_of_ble_eq_true rfl⟩) rfl hl.1 rfl (Nat.le_of_ble_eq_true rfl) dX3_readInto_80 (fun w60 H locs hp59 hw => ?_)
        obtain ⟨hT, k61, hg64⟩ := hp59
        have hF := hF.tr k61 (by decide)
        obtain ⟨x62, c63, rx62, tx62⟩ := hg64
        refine lv_aload_n hx hb dX3_readInto_83 rfl (lv_at hl 0 rfl) ?_
        refine tk_getA hC hK hw hT hinX3 kC_at3 (by decide) rfl 0 (by decide) (List.mem_of_getElem? (i := 3) rfl) rfl rfl dX3_readInto_84 ?_
        refine tk_Vi hC hK hw hT hA hE hSR kC_at1 (by decide) rfl (k_X6_isFaulty_1 l adK adV dC dI cy ad B (by omega) (by omega) q1_ s1    w60 H.size hT ) (cwV 0 hC.2.2.2.2 gX3_readInto_X6_isFaulty rfl rfl rfl (by decide +kernel) ⟨Nat.le_of_ble_eq_true rfl, Nat.le_of_ble_eq_true rfl⟩) rfl hl.1 rfl (Nat.le_of_ble_eq_true rfl) dX3_readInto_87 (fun r65 w67 H locs hp66 hw => ?_)
        obtain ⟨hT, k68, hg73⟩ := hp66
        have hF := hF.tr k68 (by decide)
        have c74 := k68.gi hkq1_ (by decide) c63
        rcases hg73 with ⟨rfl, ⟨x69, c70, rx69, tx69⟩⟩ | ⟨rfl, ⟨x71, c72, rx71, tx71⟩⟩
        · refine lv_if_ne (tgt := 110) hx hb dX3_readInto_90 (by decide) (fun c => absurd (by decide) c) (fun _ => ?_)
          refine lv_aload_n hx hb dX3_readInto_93 rfl (lv_at hl 0 rfl) ?_
          refine tk_getA hC hK hw hT hinX3 kC_at3 (by decide) rfl 0 (by decide) (List.mem_of_getElem? (i := 3) rfl) rfl rfl dX3_readInto_94 ?_
          refine va_ldcS hx hb hC.2.2.2.1 hSR.2.2.2.1 dX3_readInto_97 ?_
          refine tk_Vi hC hK hw hT hA hE hSR kC_at1 (by decide) rfl (k_X6_takeWord_1 l adK adV dC dI cy ad B (by omega) (by omega) q1_ s1    w67 H.size hT ) (cwV 1 hC.2.2.2.2 gX3_readInto_X6_takeWord rfl rfl rfl (by decide +kernel) ⟨Nat.le_of_ble_eq_true rfl, Nat.le_of_ble_eq_true rfl⟩) rfl hl.1 rfl (Nat.le_of_ble_eq_true rfl) dX3_readInto_99 (fun r75 w77 H locs hp76 hw => ?_)
          obtain ⟨hT, k78, hg81⟩ := hp76
          have hF := hF.tr k78 (by decide)
          have c82 := k78.gi hkq1_ (by decide) c74
          have c83 := k78.gi kC_at1 (by decide) c70
          rcases hg81 with rfl | ⟨rfl, ⟨x79, c80, rx79, tx79⟩⟩
          · refine lv_if_eq (tgt := 110) hx hb dX3_readInto_102 (by decide) (fun _ => ?_) (fun c => absurd (by decide) c)
            exact J110 v74_4 x62 H locs ls w77 (show 0 ≤ v28_3.toInt by omega) (show v28_3.toInt ≤ 12 by omega) (show (-1) ≤ v74_4.toInt by omega) (show v74_4.toInt ≤ 18 by omega) (show 1 ≤ x62.toInt by omega) (show x62.toInt ≤ 12 by omega)  hw hT hF c82 (lv_sub hl [0, 1, 2, 3, 4] rfl)
          · refine lv_if_eq (tgt := 110) hx hb dX3_readInto_102 (by decide) (fun c => absurd c (by decide)) (fun _ => ?_)
            refine lv_aload_n hx hb dX3_readInto_105 rfl (lv_at hl 0 rfl) ?_
            refine lv_iconst (v := 0) hx hb dX3_readInto_106 (by decide) ?_
            refine tk_Vv hC hK hw hT hA hE hSR kC_at3 (by decide) rfl (k_X3_readTest_1 l adK adV dC dI cy ad B (by omega) (by omega) q1_ s1 hkq1_   w77 H.size hT (c83.trans (wk_eq.mpr (show x69.toInt = 0 by omega)))) (cwV 1 hC.2.2.2.2 gX3_readInto_X3_readTest rfl rfl rfl (by decide +kernel) ⟨Nat.le_of_ble_eq_true rfl, Nat.le_of_ble_eq_true rfl⟩) rfl hl.1 rfl (Nat.le_of_ble_eq_true rfl) dX3_readInto_107 (fun w86 H locs hp85 hw => ?_)
            obtain ⟨hT, k87, hg88⟩ := hp85
            have hF := hF.tr k87 (by decide)
            have c89 := k87.gi hkq1_ (by decide) c82
            clear hg88
            exact J110 v74_4 x62 H locs ls w86 (show 0 ≤ v28_3.toInt by omega) (show v28_3.toInt ≤ 12 by omega) (show (-1) ≤ v74_4.toInt by omega) (show v74_4.toInt ≤ 18 by omega) (show 1 ≤ x62.toInt by omega) (show x62.toInt ≤ 12 by omega)  hw hT hF c89 (lv_sub hl [0, 1, 2, 3, 4] rfl)
        · refine lv_if_ne (tgt := 110) hx hb dX3_readInto_90 (by decide) (fun _ => ?_) (fun c => absurd c (by decide))
          exact J110 v74_4 x62 H locs ls w67 (show 0 ≤ v28_3.toInt by omega) (show v28_3.toInt ≤ 12 by omega) (show (-1) ≤ v74_4.toInt by omega) (show v74_4.toInt ≤ 18 by omega) (show 1 ≤ x62.toInt by omega) (show x62.toInt ≤ 12 by omega)  hw hT hF c74 (lv_sub hl [0, 1, 2, 3, 4] rfl)
      refine lv_iload_n hx hb dX3_readInto_28 rfl (lv_at hl 2 rfl) ?_
      refine lv_if_eq (tgt := 124) hx hb dX3_readInto_29 (by decide) (fun c90 => ?_) (fun c90 => ?_)
      · have c90 : v28_2.toInt = (0 : Int) := wk_eq.mp c90
        exact J124 v28_2 v28_3 f28_1_4 f28_q1__4 H locs ls w12 (show 0 ≤ v28_2.toInt by omega) (show v28_2.toInt ≤ 1 by omega) (show 0 ≤ v28_3.toInt by omega) (show v28_3.toInt ≤ 13 by omega) (show 0 ≤ f28_1_4.toInt by omega) (show f28_1_4.toInt ≤ 3205 by omega) (show 0 ≤ f28_q1__4.toInt by omega) (show f28_q1__4.toInt ≤ 12 by omega)  hw hT hF c19 c22 (lv_sub hl [0, 1, 2, 3] rfl)
      · have c90 : ¬ v28_2.toInt = (0 : Int) := wk_eqF c90
        refine lv_iload_n hx hb dX3_readInto_32 rfl (lv_at hl 3 rfl) ?_
        refine lv_bipush (v := 12) hx hb dX3_readInto_33 (by decide) ?_
        refine lv_icmp_gt (tgt := 124) hx hb dX3_readInto_35 (by decide) (fun c91 => ?_) (fun c91 => ?_)
        · have c91 : (12 : Int) < v28_3.toInt := wk_lt.mp c91
          exact J124 v28_2 v28_3 f28_1_4 f28_q1__4 H locs ls w12 (show 0 ≤ v28_2.toInt by omega) (show v28_2.toInt ≤ 1 by omega) (show 0 ≤ v28_3.toInt by omega) (show v28_3.toInt ≤ 13 by omega) (show 0 ≤ f28_1_4.toInt by omega) (show f28_1_4.toInt ≤ 3205 by omega) (show 0 ≤ f28_q1__4.toInt by omega) (show f28_q1__4.toInt ≤ 12 by omega)  hw hT hF c19 c22 (lv_sub hl [0, 1, 2, 3] rfl)
        · have c91 : v28_3.toInt ≤ (12 : Int) := wk_ltF c91
          refine lv_aload_n hx hb dX3_readInto_38 rfl (lv_at hl 0 rfl) ?_
          refine tk_getA hC hK hw hT hinX3 kC_at3 (by decide) rfl 0 (by decide) (List.mem_of_getElem? (i := 3) rfl) rfl rfl dX3_readInto_39 ?_
          refine va_ldcS hx hb hC.2.2.2.1 hSR.2.2.1 dX3_readInto_42 ?_
          refine tk_Vi hC hK hw hT hA hE hSR kC_at1 (by decide) rfl (k_X6_readWord_2 l adK adV dC dI cy ad B (by omega) (by omega) q1_ s1    w12 H.size hT ) (cwV 1 hC.2.2.2.2 gX3_readInto_X6_readWord rfl rfl rfl (by decide +kernel) ⟨Nat.le_of_ble_eq_true rfl, Nat.le_of_ble_eq_true rfl⟩) rfl hl.1 rfl (Nat.le_of_ble_eq_true rfl) dX3_readInto_44 (fun r92 w94 H locs hp93 hw => ?_)
          obtain ⟨hT, k95, hg100⟩ := hp93
          have hF := hF.tr k95 (by decide)
          have c101 := k95.gi hkq1_ (by decide) c22
          rcases hg100 with ⟨g96, g97⟩ | ⟨rfl, ⟨x98, c99, rx98, tx98⟩⟩
          · refine lv_istore (lv' := [(4, .int r92), (0, .ref (ad 3)), (1, .ref (ad q1_)), (2, .int v28_2), (3, .int v28_3)]) hx hb dX3_readInto_47 hl (by decide) rfl (fun ls hl => ?_)
            refine lv_aload_n hx hb dX3_readInto_49 rfl (lv_at hl 1 rfl) ?_
            refine tk_getQ hC hK hw hT hkq1_ (by decide) hinX3 kC_at3 (by decide) rfl 1 (by decide) (List.mem_of_getElem? (i := 1) rfl) rfl rfl dX3_readInto_50 ?_
            refine tk_Vi hC hK hw hT hA hE hSR hkq1_ (by decide) rfl (k_X2_isFull_1 l adK adV dC dI cy ad B (by omega) (by omega) q1_ s1   q1_ hkq1_ w94 H.size hT ) (cwV 0 hC.2.2.2.2 gX3_readInto_X2_isFull rfl rfl rfl (by decide +kernel) ⟨Nat.le_of_ble_eq_true rfl, Nat.le_of_ble_eq_true rfl⟩) rfl hl.1 rfl (Nat.le_of_ble_eq_true rfl) dX3_readInto_53 (fun r102 w104 H locs hp103 hw => ?_)
            obtain ⟨hT, k105, hg110⟩ := hp103
            have hF := hF.tr k105 (by decide)
            have c111 := k105.gi hkq1_ (by decide) c101
            rcases hg110 with ⟨rfl, ⟨x106, c107, rx106, tx106⟩⟩ | ⟨rfl, ⟨x108, c109, rx108, tx108⟩⟩
            · have ex106 : x106.toInt = f28_q1__4.toInt := by rw [← c111.symm.trans c107]
              refine lv_if_eq (tgt := 74) hx hb dX3_readInto_56 (by decide) (fun _ => ?_) (fun c => absurd (by decide) c)
              obtain rfl : v28_2 = 1 := wk_eq.mpr (show v28_2.toInt = 1 by omega)
              exact J74 r92 H locs ls w104 (show 0 ≤ v28_3.toInt by omega) (show v28_3.toInt ≤ 12 by omega) (show (-1) ≤ r92.toInt by omega) (show r92.toInt ≤ 18 by omega) (show 0 ≤ f28_q1__4.toInt by omega) (show f28_q1__4.toInt ≤ 12 by omega)  hw hT hF c111 (lv_sub hl [1, 2, 3, 4, 0] rfl)
            · have ex108 : x108.toInt = f28_q1__4.toInt := by rw [← c111.symm.trans c109]
              refine lv_if_eq (tgt := 74) hx hb dX3_readInto_56 (by decide) (fun c => absurd c (by decide)) (fun _ => ?_)
              refine lv_aload_n hx hb dX3_readInto_59 rfl (lv_at hl 1 rfl) ?_
              refine tk_getA hC hK hw hT hinX3 kC_at3 (by decide) rfl 0 (by decide) (List.mem_of_getElem? (i := 3) rfl) rfl rfl dX3_readInto_60 ?_
              refine lv_aload_n hx hb dX3_readInto_63 rfl (lv_at hl 1 rfl) ?_
              refine tk_getA hC hK hw hT hinX3 kC_at3 (by decide) rfl 0 (by decide) (List.mem_of_getElem? (i := 3) rfl) rfl rfl dX3_readInto_64 ?_
              refine tk_geti hC hK hw hT hinX6 kC_at1 (by decide) rfl 3 (by decide) (List.mem_of_getElem? (i := 4) rfl) rfl rfl dX3_readInto_67 (fun x112 c113 rx112 tx112 => ?_)
              refine lv_iconst (v := 4) hx hb dX3_readInto_70 (by decide) ?_
              refine tk_Vv hC hK hw hT hA hE hSR kC_at1 (by decide) rfl (k_X6_blame_2 l adK adV dC dI cy ad B (by omega) (by omega) q1_ s1   x112 (show 0 ≤ x112.toInt by omega) (show x112.toInt ≤ 400 by omega) 4 (by decide) (by decide) w104 H.size hT ) (cwV 2 hC.2.2.2.2 gX3_readInto_X6_blame rfl rfl rfl (by decide +kernel) ⟨Nat.le_of_ble_eq_true rfl, Nat.le_of_ble_eq_true rfl⟩) rfl hl.1 rfl (Nat.le_of_ble_eq_true rfl) dX3_readInto_71 (fun w116 H locs hp115 hw => ?_)
              obtain ⟨hT, k117, hg120⟩ := hp115
              have hF := hF.tr k117 (by decide)
              have c121 := k117.gi hkq1_ (by decide) c111
              have c122 := k117.gi kC_at1 (by decide) c113
              obtain ⟨x118, c119, rx118, tx118⟩ := hg120
              obtain rfl : v28_2 = 1 := wk_eq.mpr (show v28_2.toInt = 1 by omega)
              exact J74 r92 H locs ls w116 (show 0 ≤ v28_3.toInt by omega) (show v28_3.toInt ≤ 12 by omega) (show (-1) ≤ r92.toInt by omega) (show r92.toInt ≤ 18 by omega) (show 0 ≤ f28_q1__4.toInt by omega) (show f28_q1__4.toInt ≤ 12 by omega)  hw hT hF c121 (lv_sub hl [1, 2, 3, 4, 0] rfl)
          · refine lv_istore (lv' := [(4, .int (-1)), (0, .ref (ad 3)), (1, .ref (ad q1_)), (2, .int v28_2), (3, .int v28_3)]) hx hb dX3_readInto_47 hl (by decide) rfl (fun ls hl => ?_)
            refine lv_aload_n hx hb dX3_readInto_49 rfl (lv_at hl 1 rfl) ?_
            refine tk_getQ hC hK hw hT hkq1_ (by decide) hinX3 kC_at3 (by decide) rfl 1 (by decide) (List.mem_of_getElem? (i := 1) rfl) rfl rfl dX3_readInto_50 ?_
            refine tk_Vi hC hK hw hT hA hE hSR hkq1_ (by decide) rfl (k_X2_isFull_1 l adK adV dC dI cy ad B (by omega) (by omega) q1_ s1   q1_ hkq1_ w94 H.size hT ) (cwV 0 hC.2.2.2.2 gX3_readInto_X2_isFull rfl rfl rfl (by decide +kernel) ⟨Nat.le_of_ble_eq_true rfl, Nat.le_of_ble_eq_true rfl⟩) rfl hl.1 rfl (Nat.le_of_ble_eq_true rfl) dX3_readInto_53 (fun r123 w125 H locs hp124 hw => ?_)
            obtain ⟨hT, k126, hg131⟩ := hp124
            have hF := hF.tr k126 (by decide)
            have c132 := k126.gi hkq1_ (by decide) c101
            have c133 := k126.gi kC_at1 (by decide) c99
            rcases hg131 with ⟨rfl, ⟨x127, c128, rx127, tx127⟩⟩ | ⟨rfl, ⟨x129, c130, rx129, tx129⟩⟩
            · have ex127 : x127.toInt = f28_q1__4.toInt := by rw [← c132.symm.trans c128]
              refine lv_if_eq (tgt := 74) hx hb dX3_readInto_56 (by decide) (fun _ => ?_) (fun c => absurd (by decide) c)
              obtain rfl : v28_2 = 1 := wk_eq.mpr (show v28_2.toInt = 1 by omega)
              exact J74 (-1) H locs ls w125 (show 0 ≤ v28_3.toInt by omega) (show v28_3.toInt ≤ 12 by omega) (by decide) (by decide) (show 0 ≤ f28_q1__4.toInt by omega) (show f28_q1__4.toInt ≤ 12 by omega)  hw hT hF c132 (lv_sub hl [1, 2, 3, 4, 0] rfl)
            · have ex129 : x129.toInt = f28_q1__4.toInt := by rw [← c132.symm.trans c130]
              refine lv_if_eq (tgt := 74) hx hb dX3_readInto_56 (by decide) (fun c => absurd c (by decide)) (fun _ => ?_)
              refine lv_aload_n hx hb dX3_readInto_59 rfl (lv_at hl 1 rfl) ?_
              refine tk_getA hC hK hw hT hinX3 kC_at3 (by decide) rfl 0 (by decide) (List.mem_of_getElem? (i := 3) rfl) rfl rfl dX3_readInto_60 ?_
              refine lv_aload_n hx hb dX3_readInto_63 rfl (lv_at hl 1 rfl) ?_
              refine tk_getA hC hK hw hT hinX3 kC_at3 (by decide) rfl 0 (by decide) (List.mem_of_getElem? (i := 3) rfl) rfl rfl dX3_readInto_64 ?_
              refine tk_geti hC hK hw hT hinX6 kC_at1 (by decide) rfl 3 (by decide) (List.mem_of_getElem? (i := 4) rfl) rfl rfl dX3_readInto_67 (fun x134 c135 rx134 tx134 => ?_)
              refine lv_iconst (v := 4) hx hb dX3_readInto_70 (by decide) ?_
              refine tk_Vv hC hK hw hT hA hE hSR kC_at1 (by decide) rfl (k_X6_blame_3 l adK adV dC dI cy ad B (by omega) (by omega) q1_ s1   x134 (show 0 ≤ x134.toInt by omega) (show x134.toInt ≤ 400 by omega) 4 (by decide) (by decide) w125 H.size hT x98 c133 (show 1 ≤ x98.toInt by omega) (show x98.toInt ≤ 3205 by omega)) (cwV 2 hC.2.2.2.2 gX3_readInto_X6_blame rfl rfl rfl (by decide +kernel) ⟨Nat.le_of_ble_eq_true rfl, Nat.le_of_ble_eq_true rfl⟩) rfl hl.1 rfl (Nat.le_of_ble_eq_true rfl) dX3_readInto_71 (fun w138 H locs hp137 hw => ?_)
              obtain ⟨hT, k139, hg142⟩ := hp137
              have hF := hF.tr k139 (by decide)
              have c143 := k139.gi hkq1_ (by decide) c132
              have c144 := k139.gi kC_at1 (by decide) c133
              have c145 := k139.gi kC_at1 (by decide) c135
              obtain ⟨x140, c141, rx140, tx140⟩ := hg142
              have ex140 : x140.toInt = x98.toInt := by rw [← c144.symm.trans c141]
              obtain rfl : v28_2 = 1 := wk_eq.mpr (show v28_2.toInt = 1 by omega)
              exact J74 (-1) H locs ls w138 (show 0 ≤ v28_3.toInt by omega) (show v28_3.toInt ≤ 12 by omega) (by decide) (by decide) (show 0 ≤ f28_q1__4.toInt by omega) (show f28_q1__4.toInt ≤ 12 by omega)  hw hT hF c143 (lv_sub hl [1, 2, 3, 4, 0] rfl)
  refine lv_aload_n hx hb dX3_readInto_0 rfl (lv_at hl 0 rfl) ?_
  refine lv_aload_n hx hb dX3_readInto_1 rfl (lv_at hl 1 rfl) ?_
  refine tk_putQ hC hK hw hT hkq1_ hinX3 tyX3_ok nmX3 rfl (by decide) (List.mem_of_getElem? (i := 1) rfl) rfl rfl rfl rfl rfl dX3_readInto_2 (fun H locs w146 hw hT k148 => ?_)
  have hF := hF.put kC_at3 (k := 1) (by decide) k148
  refine lv_aload_n hx hb dX3_readInto_5 rfl (lv_at hl 0 rfl) ?_
  refine tk_getQ hC hK hw hT hkq1_ (by decide) hinX3 kC_at3 (by decide) rfl 1 (by decide) (List.mem_of_getElem? (i := 1) rfl) rfl rfl dX3_readInto_6 ?_
  refine tk_Vv hC hK hw hT hA hE hSR hkq1_ (by decide) rfl (k_X2_clear_1 l adK adV dC dI cy ad B (by omega) (by omega) q1_ s1   q1_ hkq1_ w146 H.size hT ) (cwV 0 hC.2.2.2.2 gX3_readInto_X2_clear rfl rfl rfl (by decide +kernel) ⟨Nat.le_of_ble_eq_true rfl, Nat.le_of_ble_eq_true rfl⟩) rfl hl.1 rfl (Nat.le_of_ble_eq_true rfl) dX3_readInto_9 (fun w151 H locs hp150 hw => ?_)
  obtain ⟨hT, k152, hg159⟩ := hp150
  have hF := hF.tr k152 (by decide)
  obtain ⟨⟨x153, c154, rx153, tx153⟩, ⟨x155, c156, rx155, tx155⟩, ⟨x157, c158, rx157, tx157⟩⟩ := hg159
  refine lv_aload_n hx hb dX3_readInto_12 rfl (lv_at hl 0 rfl) ?_
  refine lv_iconst (v := 0) hx hb dX3_readInto_13 (by decide) ?_
  refine tk_puti hC hK hw hT hinX3 tyX3_ok nmX3 kC_at3 (by decide) rfl rfl 2 (by decide) (List.mem_of_getElem? (i := 2) rfl) rfl rfl rfl rfl (by decide) (by decide) dX3_readInto_14 (fun H locs w160 hw hT k162 c161 => ?_)
  have hF := hF.put kC_at3 (k := 2) (by decide) k162
  have c163 := k162.gi (Or.inr (by decide)) c154
  have c164 := k162.gi (Or.inr (by decide)) c156
  have c165 := k162.gi (Or.inr (by decide)) c158
  refine lv_aload_n hx hb dX3_readInto_17 rfl (lv_at hl 0 rfl) ?_
  refine tk_getA hC hK hw hT hinX3 kC_at3 (by decide) rfl 0 (by decide) (List.mem_of_getElem? (i := 3) rfl) rfl rfl dX3_readInto_18 ?_
  refine tk_Vv hC hK hw hT hA hE hSR kC_at1 (by decide) rfl (k_X6_startReading_1 l adK adV dC dI cy ad B (by omega) (by omega) q1_ s1    w160 H.size hT ) (cwV 0 hC.2.2.2.2 gX3_readInto_X6_startReading rfl rfl rfl (by decide +kernel) ⟨Nat.le_of_ble_eq_true rfl, Nat.le_of_ble_eq_true rfl⟩) rfl hl.1 rfl (Nat.le_of_ble_eq_true rfl) dX3_readInto_21 (fun w168 H locs hp167 hw => ?_)
  obtain ⟨hT, k169, hg176⟩ := hp167
  have hF := hF.tr k169 (by decide)
  have c177 := k169.gi hkq1_ (by decide) c163
  have c178 := k169.gi hkq1_ (by decide) c164
  have c179 := k169.gi hkq1_ (by decide) c165
  have c180 := k169.gi kC_at3 (by decide) c161
  obtain ⟨⟨x170, c171, rx170, tx170⟩, ⟨x172, c173, rx172, tx172⟩, ⟨x174, c175, rx174, tx174⟩⟩ := hg176
  refine lv_iconst (v := 1) hx hb dX3_readInto_24 (by decide) ?_
  refine lv_istore_n (lv' := [(2, .int 1), (0, .ref (ad 3)), (1, .ref (ad q1_))]) hx hb dX3_readInto_25 rfl hl (by decide) rfl (fun ls hl => ?_)
  refine lv_iconst (v := 0) hx hb dX3_readInto_26 (by decide) ?_
  refine lv_istore_n (lv' := [(3, .int 0), (2, .int 1), (0, .ref (ad 3)), (1, .ref (ad q1_))]) hx hb dX3_readInto_27 rfl hl (by decide) rfl (fun ls hl => ?_)
  exact L28 ((13 - (0 : Int)).toNat + 1) 1 0 x174 x155 H locs ls w168 (by decide) (by decide) (by decide) (by decide) (show 0 ≤ x174.toInt by omega) (show x174.toInt ≤ 3205 by omega) (show 0 ≤ x155.toInt by omega) (show x155.toInt ≤ 12 by omega) (Nat.lt_succ_self _) hw hT hF c175 c178 (lv_sub hl [2, 3, 1, 0] rfl)
