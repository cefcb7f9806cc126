abbrev P_X12_walker_1 (ad : Nat → Nat) (cy : Nat → ClassId) (B : Int) (qr : Nat) (s1 : Int) (a1 : Int32) (a2 : Int32) (a3 : Int32) (a4 : Int32) (a5 : Int32) (w0 : va_W) : Int32 → va_W → Prop := fun r u => TW ksM ad cy B qr 12 u ∧ FE ksM [(71, 5, 5), (71, 216, 243), (71, 217, 244), (71, 218, 245), (71, 219, 246), (71, 220, 247), (71, 221, 248), (71, 222, 249), (71, 223, 250), (71, 224, 251)] w0 u ∧ ((r = (-2)) ∨ (0 ≤ r.toInt ∧ r.toInt ≤ 3 ∧ 0 ≤ a1.toInt ∧ a1.toInt ≤ 9 ∧ 0 ≤ a2.toInt ∧ a2.toInt ≤ 9 ∧ 0 ≤ a3.toInt ∧ a3.toInt ≤ 3 ∧ (-1) ≤ a4.toInt ∧ a4.toInt ≤ 5 ∧ 0 ≤ a5.toInt ∧ a5.toInt ≤ 99999 ∧ (∃ y : Int32, gi u 12 0 = y ∧ 1 ≤ y.toInt ∧ y.toInt ≤ 10) ∧ (∃ y : Int32, gi u 12 4 = y ∧ 1 ≤ y.toInt ∧ y.toInt ≤ 4) ∧ (∃ y : Int32, gi u 12 5 = y ∧ 1 ≤ y.toInt ∧ y.toInt ≤ 4)))
set_option maxHeartbeats 4000000 in
set_option maxRecDepth 100000 in
theorem k_X12_walker_1 (l : Launch) (adK adV : Nat → Nat) (dC : Nat → ClassId) (dI : Nat → Nat → Nat) (cy : Nat → ClassId) (ad : Nat → Nat) (B : Int) (hB0 : 100000 ≤ B) (hB1 : B ≤ 1073741824) (qr : Nat) (s1 : Int)  (a1 : Int32) (a2 : Int32) (a3 : Int32) (a4 : Int32) (a5 : Int32) (w0 : va_W) (sz : Nat) (hT : TW ksM ad cy B qr 12 w0)  : Met l yX12_walker (wu yX12_walker cX12_walker 6 (some .int)) ({ frames := 2, cells := 0, slots := 0, locals := 39 }) (va_Pc [.ref (ad 0), .int a1, .int a2, .int a3, .int a4, .int a5] (wpreS adK adV dC dI cy sz w0)) (va_Qi (P_X12_walker_1 ad cy B qr s1 a1 a2 a3 a4 a5 w0) (fun u : va_W => wpost dC dI cy (va_A w0 sz) u) (va_A w0 sz)) 0 0 (va_A w0 sz) := by
  refine Met.ofW (cc := cX12_walker) (maxL := 6) (ret := (some .int)) (by decide) rfl ?_
  intro p e s m args below meth c s₁ Bk hml hv
  obtain ⟨rfl, ⟨hsz, hP, hK, hD0⟩, hE, hSR⟩ := hv
  have hx := Bk.exec
  have hb := Bk.bytes
  have hr := Bk.returns
  have hlocks := Bk.notSynchronized
  have hC : CallFix p m c cX12_walker 6 s _ (wu yX12_walker cX12_walker 6 (some .int)) RX12 := ⟨hx, hb, hml, findClass_of_methodNamed Bk.named, atoms_spec (ws := (wu yX12_walker cX12_walker 6 (some .int))) Bk.pre⟩
  subst hsz
  have hD := hD0.self (sz := s.heap.size)
  generalize hAe : va_A w0 s.heap.size = A at hD hE ⊢
  have hA : ∀ q : Nat, s.heap.size ≤ q → A q := fun q h => by rw [← hAe]; exact Or.inr h
  have hw : Wd dC dI A s.heap s.heap [] w0 := ⟨hP, hD, va_S.rf⟩
  have hF : FE ksM [(71, 5, 5), (71, 216, 243), (71, 217, 244), (71, 218, 245), (71, 219, 246), (71, 220, 247), (71, 221, 248), (71, 222, 249), (71, 223, 250), (71, 224, 251)] w0 w0 := FE.rf
  have hl := lv_entry ([.ref (ad 0), .int a1, .int a2, .int a3, .int a4, .int a5]) (n := 6) (Nat.le_of_ble_eq_true rfl)
  rw [lg_entry_eq]
  generalize (lg_sl ([.ref (ad 0), .int a1, .int a2, .int a3, .int a4, .int a5]) ++ List.replicate (6 - (lg_sl ([.ref (ad 0), .int a1, .int a2, .int a3, .int a4, .int a5])).length) Slot.unset).toArray = ls at hl ⊢
  have hl : lv_has ls 6 [(0, .ref (ad 0)), (1, .int a1), (2, .int a2), (3, .int a3), (4, .int a4), (5, .int a5)] := hl
  generalize hloc : ([] : List Loc) = locs at hw ⊢
  have hinX12 : ∀ w ∈ u_ws RX12 TX12 42, w ∈ (wu yX12_walker cX12_walker 6 (some .int)) := fun _ h => List.mem_cons_of_mem _ (up_71 h)
  have J57 : ∀ (H : Heap) (locs : List Loc) (ls : Array Slot) (w1 : va_W), Wd dC dI A s.heap H locs w1 → TW ksM ad cy B qr 12 w1 → FE ksM [(71, 5, 5), (71, 216, 243), (71, 217, 244), (71, 218, 245), (71, 219, 246), (71, 220, 247), (71, 221, 248), (71, 222, 249), (71, 223, 250), (71, 224, 251)] w0 w1 → lv_has ls 6 [(0, .ref (ad 0)), (1, .int a1), (2, .int a2), (3, .int a3), (4, .int a4), (5, .int a5)] → W p l e ({ frames := 2, cells := 0, slots := 0, locals := 39 }) s m (List.toArray [.ref (ad 0), .int a1, .int a2, .int a3, .int a4, .int a5]) below meth c H locs 0 0 (MQ below (va_Qi (P_X12_walker_1 ad cy B qr s1 a1 a2 a3 a4 a5 w0) (fun u : va_W => wpost dC dI cy A u) A) (List.toArray [.ref (ad 0), .int a1, .int a2, .int a3, .int a4, .int a5]) s 0 0 A) (F0 m 57 ls []) := by
    intro H locs ls w1 hw hT hF hl
    refine lv_bipush (v := (-2)) hx hb dX12_walker_57 (by decide) ?_
    exact tk_iret hC hr hlocks hK ⟨hT, hF, (Or.inl rfl)⟩ hw dX12_walker_59
  have J39 : ∀ (f39_12_0 : Int32) (f39_12_4 : Int32) (H : Heap) (locs : List Loc) (ls : Array Slot) (w2 : va_W), 0 ≤ a1.toInt → a1.toInt ≤ 9 → 0 ≤ a2.toInt → a2.toInt ≤ 9 → 0 ≤ a3.toInt → a3.toInt ≤ 3 → (-1) ≤ a4.toInt → a4.toInt ≤ 5 → 1 ≤ f39_12_0.toInt → f39_12_0.toInt ≤ 10 → 1 ≤ f39_12_4.toInt → f39_12_4.toInt ≤ 4 → Wd dC dI A s.heap H locs w2 → TW ksM ad cy B qr 12 w2 → FE ksM [(71, 5, 5), (71, 216, 243), (71, 217, 244), (71, 218, 245), (71, 219, 246), (71, 220, 247), (71, 221, 248), (71, 222, 249), (71, 223, 250), (71, 224, 251)] w0 w2 → gi w2 12 0 = f39_12_0 → gi w2 12 4 = f39_12_4 → lv_has ls 6 [(0, .ref (ad 0)), (1, .int a1), (2, .int a2), (3, .int a3), (4, .int a4), (5, .int a5)] → W p l e ({ frames := 2, cells := 0, slots := 0, locals := 39 }) s m (List.toArray [.ref (ad 0), .int a1, .int a2, .int a3, .int a4, .int a5]) below meth c H locs 0 0 (MQ below (va_Qi (P_X12_walker_1 ad cy B qr s1 a1 a2 a3 a4 a5 w0) (fun u : va_W => wpost dC dI cy A u) A) (List.toArray [.ref (ad 0), .int a1, .int a2, .int a3, .int a4, .int a5]) s 0 0 A) (F0 m 39 ls []) := by
    intro f39_12_0 f39_12_4 H locs ls w2 r3 t4 r5 t6 r7 t8 r9 t10 r11 t12 r14 t15 hw hT hF c13 c16 hl
    refine lv_iload hx hb dX12_walker_39 (lv_at hl 5 rfl) ?_
    refine tk_Si hC hK hw hT hA hE hSR (k_X12_isHour_1 l adK adV dC dI cy ad B hB0 (Int.le_trans hB1 (by decide)) qr s1   a5 w2 H.size hT ) (va_cwS 1 hC.2.2.2.2 uS_RX12_331 rfl rfl rfl (by decide +kernel) ⟨Nat.le_of_ble_eq_true rfl, Nat.le_of_ble_eq_true rfl⟩) rfl hl.1 rfl (Nat.le_of_ble_eq_true rfl) dX12_walker_41 (fun r17 w19 H locs hp18 hw => ?_)
    obtain ⟨rfl, hg23⟩ := hp18
    rcases hg23 with rfl | ⟨rfl, g21, g22⟩
    · refine lv_if_eq (tgt := 57) hx hb dX12_walker_44 (by decide) (fun _ => ?_) (fun c => absurd (by decide) c)
      exact J57  H locs ls w2   hw hT hF  (lv_sub hl [0, 1, 2, 3, 4, 5] rfl)
    · refine lv_if_eq (tgt := 57) hx hb dX12_walker_44 (by decide) (fun c => absurd c (by decide)) (fun _ => ?_)
      refine lv_aload_n hx hb dX12_walker_47 rfl (lv_at hl 0 rfl) ?_
      refine tk_getA hC hK hw hT hinX12 kM_at0 (by decide) rfl 26 (by decide) (List.mem_cons_of_mem _ uw_7_1) rfl rfl dX12_walker_48 ?_
      refine lv_iconst (v := 5) hx hb dX12_walker_51 (by decide) ?_
      refine tk_ialdR hC hK hw hT kM_at12 rfl (by decide) (by decide) dX12_walker_52 (fun x24 c25 Ex24 => ?_)
      have bx24 := tk_rgI rfl 5 1 1 0 4 (by decide +kernel) ⟨0, by decide, by decide⟩ Ex24
      have c25 : gi w2 12 5 = x24 := c25
      refine lv_iconst (v := 4) hx hb dX12_walker_53 (by decide) ?_
      refine lv_icmp_ne (tgt := 60) hx hb dX12_walker_54 (by decide) (fun c26 => ?_) (fun c26 => ?_)
      · have c26 : ¬ x24.toInt = (4 : Int) := wk_eqF c26
        refine lv_aload_n hx hb dX12_walker_60 rfl (lv_at hl 0 rfl) ?_
        refine lv_aload_n hx hb dX12_walker_61 rfl (lv_at hl 0 rfl) ?_
        refine tk_getA hC hK hw hT hinX12 kM_at0 (by decide) rfl 26 (by decide) (List.mem_cons_of_mem _ uw_7_1) rfl rfl dX12_walker_62 ?_
        refine lv_iconst (v := 5) hx hb dX12_walker_65 (by decide) ?_
        refine tk_ialdR hC hK hw hT kM_at12 rfl (by decide) (by decide) dX12_walker_66 (fun x27 c28 Ex27 => ?_)
        refine wk_top x24 (c28.symm.trans c25) ?_
        refine lv_iload_n hx hb dX12_walker_67 rfl (lv_at hl 1 rfl) ?_
        refine lv_iload_n hx hb dX12_walker_68 rfl (lv_at hl 2 rfl) ?_
        refine lv_iload_n hx hb dX12_walker_69 rfl (lv_at hl 3 rfl) ?_
        refine lv_iload hx hb dX12_walker_70 (lv_at hl 4 rfl) ?_
        refine lv_iload hx hb dX12_walker_72 (lv_at hl 5 rfl) ?_
        refine tk_Vv hC hK hw hT hA hE hSR kM_at0 (by decide) rfl (k_X12_setsOut_1 l adK adV dC dI cy ad B hB0 (Int.le_trans hB1 (by decide)) qr s1   x24 (show 0 ≤ x24.toInt by first | with_reducible assumption | omega) (show x24.toInt ≤ 3 by first | with_reducible assumption | omega) a1 (show 0 ≤ a1.toInt from r3) (show a1.toInt ≤ 9 from t4) a2 (show 0 ≤ a2.toInt from r5) (show a2.toInt ≤ 9 from t6) a3 (show 0 ≤ a3.toInt from r7) (show a3.toInt ≤ 3 from t8) a4 (show (-1) ≤ a4.toInt from r9) (show a4.toInt ≤ 5 from t10) a5 (show 0 ≤ a5.toInt by first | with_reducible assumption | omega) (show a5.toInt ≤ 99999 by first | with_reducible assumption | omega) w2 H.size hT ) (cwV 6 hC.2.2.2.2 uV_RX12_363 rfl rfl rfl (by decide +kernel) ⟨Nat.le_of_ble_eq_true rfl, Nat.le_of_ble_eq_true rfl⟩) rfl hl.1 rfl (Nat.le_of_ble_eq_true rfl) dX12_walker_74 (fun w31 H locs hp30 hw => ?_)
        obtain ⟨hT, k32, hg33⟩ := hp30
        have hF := hF.tr k32 (by decide)
        have c34 := k32.gi kM_at12 (by decide) c13
        have c35 := k32.gi kM_at12 (by decide) c16
        have c36 := k32.gi kM_at12 (by decide) c25
        clear hg33
        refine lv_aload_n hx hb dX12_walker_77 rfl (lv_at hl 0 rfl) ?_
        refine tk_getA hC hK hw hT hinX12 kM_at0 (by decide) rfl 26 (by decide) (List.mem_cons_of_mem _ uw_7_1) rfl rfl dX12_walker_78 ?_
        refine lv_iconst (v := 5) hx hb dX12_walker_81 (by decide) ?_
        refine lv_dup2_11 hx hb dX12_walker_82 rfl rfl ?_
        refine tk_ialdR hC hK hw hT kM_at12 rfl (by decide) (by decide) dX12_walker_83 (fun x37 c38 Ex37 => ?_)
        refine wk_top x24 (c38.symm.trans c36) ?_
        refine lv_iconst (v := 1) hx hb dX12_walker_84 (by decide) ?_
        refine lv_iadd hx hb dX12_walker_85 ?_
        refine lv_topi (fun x39 ex39 => ?_)
        have ex39 : x39.toInt = x24.toInt + (1 : Int) := by rw [ex39]; exact wk_add (show (-2147483648) ≤ x24.toInt + (1 : Int) by omega) (show x24.toInt + (1 : Int) ≤ 2147483647 by omega)
        refine tk_iastR hC hK hw hT kM_at12 (by decide) rfl (by decide) (by decide) (tk_rgS rfl 5 1 1 1 4 (by decide +kernel) ⟨0, by decide, by decide⟩ (show 1 ≤ x39.toInt by first | with_reducible assumption | omega) (show x39.toInt ≤ 4 by first | with_reducible assumption | omega)) dX12_walker_86 (fun H locs w40 hw hT k42 c41 => ?_)
        have hF := hF.put kM_at12 (inE_of (a := 5) (b := 5) (by decide) (by decide) (by decide)) k42
        have c43 := k42.gi (Or.inr (by decide)) c34
        have c44 := k42.gi (Or.inr (by decide)) c35
        have c41 : gi w40 12 5 = x39 := c41
        refine lv_aload_n hx hb dX12_walker_87 rfl (lv_at hl 0 rfl) ?_
        refine tk_getA hC hK hw hT hinX12 kM_at0 (by decide) rfl 26 (by decide) (List.mem_cons_of_mem _ uw_7_1) rfl rfl dX12_walker_88 ?_
        refine lv_iconst (v := 5) hx hb dX12_walker_91 (by decide) ?_
        refine tk_ialdR hC hK hw hT kM_at12 rfl (by decide) (by decide) dX12_walker_92 (fun x45 c46 Ex45 => ?_)
        refine wk_top x39 (c46.symm.trans c41) ?_
        refine lv_iconst (v := 1) hx hb dX12_walker_93 (by decide) ?_
        refine lv_isub hx hb dX12_walker_94 ?_
        refine lv_topi (fun x47 ex47 => ?_)
        have ex47 : x47.toInt = x39.toInt - (1 : Int) := by rw [ex47]; exact wk_sub (show (-2147483648) ≤ x39.toInt - (1 : Int) by omega) (show x39.toInt - (1 : Int) ≤ 2147483647 by omega)
        exact tk_iret hC hr hlocks hK ⟨hT, hF, (Or.inr ⟨(show 0 ≤ x47.toInt by first | with_reducible assumption | omega), (show x47.toInt ≤ 3 by first | with_reducible assumption | omega), (show 0 ≤ a1.toInt from r3), (show a1.toInt ≤ 9 from t4), (show 0 ≤ a2.toInt from r5), (show a2.toInt ≤ 9 from t6), (show 0 ≤ a3.toInt from r7), (show a3.toInt ≤ 3 from t8), (show (-1) ≤ a4.toInt from r9), (show a4.toInt ≤ 5 from t10), (show 0 ≤ a5.toInt by first | with_reducible assumption | omega), (show a5.toInt ≤ 99999 by first | with_reducible assumption | omega), ⟨f39_12_0, c43, (show 1 ≤ f39_12_0.toInt from r11), (show f39_12_0.toInt ≤ 10 from t12)⟩, ⟨f39_12_4, c44, (show 1 ≤ f39_12_4.toInt from r14), (show f39_12_4.toInt ≤ 4 from t15)⟩, ⟨x39, c41, (show 1 ≤ x39.toInt by first | with_reducible assumption | omega), (show x39.toInt ≤ 4 by first | with_reducible assumption | omega)⟩⟩)⟩ hw dX12_walker_95
      · have c26 : x24.toInt = (4 : Int) := wk_eq.mp c26
        exact J57  H locs ls w2   hw hT hF  (lv_sub hl [0, 1, 2, 3, 4, 5] rfl)
  refine lv_aload_n hx hb dX12_walker_0 rfl (lv_at hl 0 rfl) ?_
  refine lv_iload_n hx hb dX12_walker_1 rfl (lv_at hl 1 rfl) ?_
  refine tk_Vi hC hK hw hT hA hE hSR kM_at0 (by decide) rfl (k_X12_isCorner_1 l adK adV dC dI cy ad B hB0 (Int.le_trans hB1 (by decide)) qr s1   a1 w0 s.heap.size hT ) (cwV 1 hC.2.2.2.2 uV_RX12_328 rfl rfl rfl (by decide +kernel) ⟨Nat.le_of_ble_eq_true rfl, Nat.le_of_ble_eq_true rfl⟩) rfl hl.1 rfl (Nat.le_of_ble_eq_true rfl) dX12_walker_2 (fun r48 w50 H locs hp49 hw => ?_)
  obtain ⟨rfl, hg56⟩ := hp49
  rcases hg56 with rfl | ⟨rfl, g52, g53, ⟨x54, c55, rx54, tx54⟩⟩
  · refine lv_if_eq (tgt := 57) hx hb dX12_walker_5 (by decide) (fun _ => ?_) (fun c => absurd (by decide) c)
    exact J57  H locs ls w0   hw hT hF  (lv_sub hl [0, 1, 2, 3, 4, 5] rfl)
  · refine lv_if_eq (tgt := 57) hx hb dX12_walker_5 (by decide) (fun c => absurd c (by decide)) (fun _ => ?_)
    refine lv_aload_n hx hb dX12_walker_8 rfl (lv_at hl 0 rfl) ?_
    refine lv_iload_n hx hb dX12_walker_9 rfl (lv_at hl 2 rfl) ?_
    refine tk_Vi hC hK hw hT hA hE hSR kM_at0 (by decide) rfl (k_X12_isCorner_1 l adK adV dC dI cy ad B hB0 (Int.le_trans hB1 (by decide)) qr s1   a2 w0 H.size hT ) (cwV 1 hC.2.2.2.2 uV_RX12_328 rfl rfl rfl (by decide +kernel) ⟨Nat.le_of_ble_eq_true rfl, Nat.le_of_ble_eq_true rfl⟩) rfl hl.1 rfl (Nat.le_of_ble_eq_true rfl) dX12_walker_10 (fun r57 w59 H locs hp58 hw => ?_)
    obtain ⟨rfl, hg65⟩ := hp58
    rcases hg65 with rfl | ⟨rfl, g61, g62, ⟨x63, c64, rx63, tx63⟩⟩
    · refine lv_if_eq (tgt := 57) hx hb dX12_walker_13 (by decide) (fun _ => ?_) (fun c => absurd (by decide) c)
      exact J57  H locs ls w0   hw hT hF  (lv_sub hl [0, 1, 2, 3, 4, 5] rfl)
    · have ex63 : x63.toInt = x54.toInt := by rw [← c55.symm.trans c64]
      refine lv_if_eq (tgt := 57) hx hb dX12_walker_13 (by decide) (fun c => absurd c (by decide)) (fun _ => ?_)
      refine lv_aload_n hx hb dX12_walker_16 rfl (lv_at hl 0 rfl) ?_
      refine lv_iload_n hx hb dX12_walker_17 rfl (lv_at hl 3 rfl) ?_
      refine tk_Vi hC hK hw hT hA hE hSR kM_at0 (by decide) rfl (k_X12_isMap_1 l adK adV dC dI cy ad B hB0 (Int.le_trans hB1 (by decide)) qr s1   a3 w0 H.size hT ) (cwV 1 hC.2.2.2.2 uV_RX12_342 rfl rfl rfl (by decide +kernel) ⟨Nat.le_of_ble_eq_true rfl, Nat.le_of_ble_eq_true rfl⟩) rfl hl.1 rfl (Nat.le_of_ble_eq_true rfl) dX12_walker_18 (fun r66 w68 H locs hp67 hw => ?_)
      obtain ⟨rfl, hg74⟩ := hp67
      rcases hg74 with rfl | ⟨rfl, g70, g71, ⟨x72, c73, rx72, tx72⟩⟩
      · refine lv_if_eq (tgt := 57) hx hb dX12_walker_21 (by decide) (fun _ => ?_) (fun c => absurd (by decide) c)
        exact J57  H locs ls w0   hw hT hF  (lv_sub hl [0, 1, 2, 3, 4, 5] rfl)
      · refine lv_if_eq (tgt := 57) hx hb dX12_walker_21 (by decide) (fun c => absurd c (by decide)) (fun _ => ?_)
        refine lv_iload hx hb dX12_walker_24 (lv_at hl 4 rfl) ?_
        refine lv_iconst (v := (-1)) hx hb dX12_walker_26 (by decide) ?_
        refine lv_icmp_eq (tgt := 39) hx hb dX12_walker_27 (by decide) (fun c75 => ?_) (fun c75 => ?_)
        · have c75 : a4.toInt = (-1 : Int) := wk_eq.mp c75
          exact J39 x54 x72 H locs ls w0 (show 0 ≤ a1.toInt by first | with_reducible assumption | omega) (show a1.toInt ≤ 9 by first | with_reducible assumption | omega) (show 0 ≤ a2.toInt by first | with_reducible assumption | omega) (show a2.toInt ≤ 9 by first | with_reducible assumption | omega) (show 0 ≤ a3.toInt by first | with_reducible assumption | omega) (show a3.toInt ≤ 3 by first | with_reducible assumption | omega) (show (-1) ≤ a4.toInt by first | with_reducible assumption | omega) (show a4.toInt ≤ 5 by first | with_reducible assumption | omega) (show 1 ≤ x54.toInt by first | with_reducible assumption | omega) (show x54.toInt ≤ 10 by first | with_reducible assumption | omega) (show 1 ≤ x72.toInt by first | with_reducible assumption | omega) (show x72.toInt ≤ 4 by first | with_reducible assumption | omega)  hw hT hF c55 c73 (lv_sub hl [0, 1, 2, 3, 4, 5] rfl)
        · have c75 : ¬ a4.toInt = (-1 : Int) := wk_eqF c75
          refine lv_aload_n hx hb dX12_walker_30 rfl (lv_at hl 0 rfl) ?_
          refine lv_iload hx hb dX12_walker_31 (lv_at hl 4 rfl) ?_
          refine tk_Vi hC hK hw hT hA hE hSR kM_at0 (by decide) rfl (k_X12_isRule_1 l adK adV dC dI cy ad B hB0 (Int.le_trans hB1 (by decide)) qr s1   a4 w0 H.size hT ) (cwV 1 hC.2.2.2.2 uV_RX12_360 rfl rfl rfl (by decide +kernel) ⟨Nat.le_of_ble_eq_true rfl, Nat.le_of_ble_eq_true rfl⟩) rfl hl.1 rfl (Nat.le_of_ble_eq_true rfl) dX12_walker_33 (fun r76 w78 H locs hp77 hw => ?_)
          obtain ⟨rfl, hg84⟩ := hp77
          rcases hg84 with rfl | ⟨rfl, g80, g81, ⟨x82, c83, rx82, tx82⟩⟩
          · refine lv_if_eq (tgt := 57) hx hb dX12_walker_36 (by decide) (fun _ => ?_) (fun c => absurd (by decide) c)
            exact J57  H locs ls w0   hw hT hF  (lv_sub hl [0, 1, 2, 3, 4, 5] rfl)
          · refine lv_if_eq (tgt := 57) hx hb dX12_walker_36 (by decide) (fun c => absurd c (by decide)) (fun _ => ?_)
            exact J39 x54 x72 H locs ls w0 (show 0 ≤ a1.toInt by first | with_reducible assumption | omega) (show a1.toInt ≤ 9 by first | with_reducible assumption | omega) (show 0 ≤ a2.toInt by first | with_reducible assumption | omega) (show a2.toInt ≤ 9 by first | with_reducible assumption | omega) (show 0 ≤ a3.toInt by first | with_reducible assumption | omega) (show a3.toInt ≤ 3 by first | with_reducible assumption | omega) (show (-1) ≤ a4.toInt by first | with_reducible assumption | omega) (show a4.toInt ≤ 5 by first | with_reducible assumption | omega) (show 1 ≤ x54.toInt by first | with_reducible assumption | omega) (show x54.toInt ≤ 10 by first | with_reducible assumption | omega) (show 1 ≤ x72.toInt by first | with_reducible assumption | omega) (show x72.toInt ≤ 4 by first | with_reducible assumption | omega)  hw hT hF c55 c73 (lv_sub hl [0, 1, 2, 3, 4, 5] rfl)
abbrev P_X12_in_13 (ad : Nat → Nat) (cy : Nat → ClassId) (B : Int) (qr : Nat) (s1 : Int) (a0 : Int64) (w0 : va_W) : Int32 → va_W → Prop := fun r u => w0 = u ∧ ((r = 0) ∨ (r = 1 ∧ 0 ≤ a0.toInt ∧ a0.toInt ≤ 7))
set_option maxHeartbeats 4000000 in
set_option maxRecDepth 100000 in
theorem k_X12_in_13 (l : Launch) (adK adV : Nat → Nat) (dC : Nat → ClassId) (dI : Nat → Nat → Nat) (cy : Nat → ClassId) (ad : Nat → Nat) (B : Int) (hB0 : 100000 ≤ B) (hB1 : B ≤ 1073741824) (qr : Nat) (s1 : Int)  (a0 : Int64) (ra0 : (-2147483648) ≤ a0.toInt) (ta0 : a0.toInt ≤ 2147483647) (w0 : va_W) (sz : Nat) (hT : TW ksM ad cy B qr 12 w0)  : Met l yX12_in (wu yX12_in cX12_in 6 (some .boolean)) ({ frames := 1, cells := 0, slots := 0, locals := 12 }) (va_Pc [.long a0, .long 0, .long 7] (wpreS adK adV dC dI cy sz w0)) (va_Qi (P_X12_in_13 ad cy B qr s1 a0 w0) (fun u : va_W => wpost dC dI cy (va_A w0 sz) u) (va_A w0 sz)) 0 0 (va_A w0 sz) := by
  refine Met.ofW (cc := cX12_in) (maxL := 6) (ret := (some .boolean)) (by decide) rfl ?_
  intro p e s m args below meth c s₁ Bk hml hv
  obtain ⟨rfl, ⟨hsz, hP, hK, hD0⟩, hE, hSR⟩ := hv
  have hx := Bk.exec
  have hb := Bk.bytes
  have hr := Bk.returns
  have hlocks := Bk.notSynchronized
  have hC : CallFix p m c cX12_in 6 s _ (wu yX12_in cX12_in 6 (some .boolean)) RX12 := ⟨hx, hb, hml, findClass_of_methodNamed Bk.named, atoms_spec (ws := (wu yX12_in cX12_in 6 (some .boolean))) Bk.pre⟩
  subst hsz
  have hD := hD0.self (sz := s.heap.size)
  generalize hAe : va_A w0 s.heap.size = A at hD hE ⊢
  have hA : ∀ q : Nat, s.heap.size ≤ q → A q := fun q h => by rw [← hAe]; exact Or.inr h
  have hw : Wd dC dI A s.heap s.heap [] w0 := ⟨hP, hD, va_S.rf⟩
  have hF : FE ksM ([] : List (Nat × Nat × Nat)) w0 w0 := FE.rf
  have hl := lv_entry ([.long a0, .long 0, .long 7]) (n := 6) (Nat.le_of_ble_eq_true rfl)
  rw [lg_entry_eq]
  generalize (lg_sl ([.long a0, .long 0, .long 7]) ++ List.replicate (6 - (lg_sl ([.long a0, .long 0, .long 7])).length) Slot.unset).toArray = ls at hl ⊢
  have hl : lv_has ls 6 [(0, .long a0), (2, .long 0), (4, .long 7)] := hl
  generalize hloc : ([] : List Loc) = locs at hw ⊢
  have J17 : ∀ (H : Heap) (locs : List Loc) (ls : Array Slot), (-2147483648) ≤ a0.toInt → a0.toInt ≤ 2147483647 → Wd dC dI A s.heap H locs w0 → lv_has ls 6 [(0, .long a0), (2, .long 0), (4, .long 7)] → W p l e ({ frames := 1, cells := 0, slots := 0, locals := 12 }) s m (List.toArray [.long a0, .long 0, .long 7]) below meth c H locs 0 0 (MQ below (va_Qi (P_X12_in_13 ad cy B qr s1 a0 w0) (fun u : va_W => wpost dC dI cy A u) A) (List.toArray [.long a0, .long 0, .long 7]) s 0 0 A) (F0 m 17 ls []) := by
    intro H locs ls r1 t2 hw hl
    refine lv_iconst (v := 0) hx hb dX12_in_17 (by decide) ?_
    exact tk_zret hC hr rfl hlocks hK ⟨rfl, (Or.inl rfl)⟩ hw dX12_in_18
  refine lv_lload_n hx hb dX12_in_0 rfl (lv_at hl 0 rfl) ?_
  refine lv_lload_n hx hb dX12_in_1 rfl (lv_at hl 1 rfl) ?_
  refine W.lcmp hx hb dX12_in_2 ?_
  refine lv_if_lt (tgt := 17) hx hb dX12_in_3 (by decide) (fun c3 => ?_) (fun c3 => ?_)
  · have c3 : a0.toInt < (0 : Int) := wk_cltT c3
    exact J17  s.heap locs ls  (show (-2147483648) ≤ a0.toInt from ra0) (show a0.toInt ≤ 2147483647 from ta0)  hw   (lv_sub hl [0, 1, 2] rfl)
  · have c3 : (0 : Int) ≤ a0.toInt := wk_cltF c3
    refine lv_lload_n hx hb dX12_in_6 rfl (lv_at hl 0 rfl) ?_
    refine lv_lload hx hb dX12_in_7 (lv_at hl 2 rfl) ?_
    refine W.lcmp hx hb dX12_in_9 ?_
    refine lv_if_gt (tgt := 17) hx hb dX12_in_10 (by decide) (fun c4 => ?_) (fun c4 => ?_)
    · have c4 : (7 : Int) < a0.toInt := wk_cgtT c4
      exact J17  s.heap locs ls  (show (-2147483648) ≤ a0.toInt from ra0) (show a0.toInt ≤ 2147483647 from ta0)  hw   (lv_sub hl [0, 1, 2] rfl)
    · have c4 : a0.toInt ≤ (7 : Int) := wk_cgtF c4
      refine lv_iconst (v := 1) hx hb dX12_in_13 (by decide) ?_
      refine lv_goto (tgt := 18) hx hb dX12_in_14 (by decide) ?_
      exact tk_zret hC hr rfl hlocks hK ⟨rfl, (Or.inr ⟨rfl, (show 0 ≤ a0.toInt from c3), (show a0.toInt ≤ 7 from c4)⟩)⟩ hw dX12_in_18
abbrev P_X12_isWalker_1 (ad : Nat → Nat) (cy : Nat → ClassId) (B : Int) (qr : Nat) (s1 : Int) (a1 : Int32) (w0 : va_W) : Int32 → va_W → Prop := fun r u => w0 = u ∧ ((r = 0) ∨ (r = 1 ∧ 0 ≤ a1.toInt ∧ a1.toInt ≤ 3 ∧ (∃ y : Int32, gi u 12 5 = y ∧ 1 ≤ y.toInt ∧ y.toInt ≤ 4)))
set_option maxHeartbeats 4000000 in
set_option maxRecDepth 100000 in
theorem k_X12_isWalker_1 (l : Launch) (adK adV : Nat → Nat) (dC : Nat → ClassId) (dI : Nat → Nat → Nat) (cy : Nat → ClassId) (ad : Nat → Nat) (B : Int) (hB0 : 100000 ≤ B) (hB1 : B ≤ 1073741824) (qr : Nat) (s1 : Int)  (a1 : Int32) (w0 : va_W) (sz : Nat) (hT : TW ksM ad cy B qr 12 w0)  : Met l yX12_isWalker (wu yX12_isWalker cX12_isWalker 2 (some .boolean)) ({ frames := 1, cells := 0, slots := 0, locals := 12 }) (va_Pc [.ref (ad 0), .int a1] (wpreS adK adV dC dI cy sz w0)) (va_Qi (P_X12_isWalker_1 ad cy B qr s1 a1 w0) (fun u : va_W => wpost dC dI cy (va_A w0 sz) u) (va_A w0 sz)) 0 0 (va_A w0 sz) := by
  refine Met.ofW (cc := cX12_isWalker) (maxL := 2) (ret := (some .boolean)) (by decide) rfl ?_
  intro p e s m args below meth c s₁ Bk hml hv
  obtain ⟨rfl, ⟨hsz, hP, hK, hD0⟩, hE, hSR⟩ := hv
  have hx := Bk.exec
  have hb := Bk.bytes
  have hr := Bk.returns
  have hlocks := Bk.notSynchronized
  have hC : CallFix p m c cX12_isWalker 2 s _ (wu yX12_isWalker cX12_isWalker 2 (some .boolean)) RX12 := ⟨hx, hb, hml, findClass_of_methodNamed Bk.named, atoms_spec (ws := (wu yX12_isWalker cX12_isWalker 2 (some .boolean))) Bk.pre⟩
  subst hsz
  have hD := hD0.self (sz := s.heap.size)
  generalize hAe : va_A w0 s.heap.size = A at hD hE ⊢
  have hA : ∀ q : Nat, s.heap.size ≤ q → A q := fun q h => by rw [← hAe]; exact Or.inr h
  have hw : Wd dC dI A s.heap s.heap [] w0 := ⟨hP, hD, va_S.rf⟩
  have hF : FE ksM ([] : List (Nat × Nat × Nat)) w0 w0 := FE.rf
  have hl := lv_entry ([.ref (ad 0), .int a1]) (n := 2) (Nat.le_of_ble_eq_true rfl)
  rw [lg_entry_eq]
  generalize (lg_sl ([.ref (ad 0), .int a1]) ++ List.replicate (2 - (lg_sl ([.ref (ad 0), .int a1])).length) Slot.unset).toArray = ls at hl ⊢
  have hl : lv_has ls 2 [(0, .ref (ad 0)), (1, .int a1)] := hl
  generalize hloc : ([] : List Loc) = locs at hw ⊢
  have hinX12 : ∀ w ∈ u_ws RX12 TX12 42, w ∈ (wu yX12_isWalker cX12_isWalker 2 (some .boolean)) := fun _ h => List.mem_cons_of_mem _ (up_71 h)
  have J18 : ∀ (H : Heap) (locs : List Loc) (ls : Array Slot), Wd dC dI A s.heap H locs w0 → lv_has ls 2 [(0, .ref (ad 0)), (1, .int a1)] → W p l e ({ frames := 1, cells := 0, slots := 0, locals := 12 }) s m (List.toArray [.ref (ad 0), .int a1]) below meth c H locs 0 0 (MQ below (va_Qi (P_X12_isWalker_1 ad cy B qr s1 a1 w0) (fun u : va_W => wpost dC dI cy A u) A) (List.toArray [.ref (ad 0), .int a1]) s 0 0 A) (F0 m 18 ls []) := by
    intro H locs ls hw hl
    refine lv_iconst (v := 0) hx hb dX12_isWalker_18 (by decide) ?_
    exact tk_zret hC hr rfl hlocks hK ⟨rfl, (Or.inl rfl)⟩ hw dX12_isWalker_19
  refine lv_iload_n hx hb dX12_isWalker_0 rfl (lv_at hl 1 rfl) ?_
  refine lv_if_lt (tgt := 18) hx hb dX12_isWalker_1 (by decide) (fun c1 => ?_) (fun c1 => ?_)
  · have c1 : a1.toInt < (0 : Int) := wk_lt.mp c1
    exact J18  s.heap locs ls    hw   (lv_sub hl [0, 1] rfl)
  · have c1 : (0 : Int) ≤ a1.toInt := wk_ltF c1
    refine lv_iload_n hx hb dX12_isWalker_4 rfl (lv_at hl 1 rfl) ?_
    refine lv_aload_n hx hb dX12_isWalker_5 rfl (lv_at hl 0 rfl) ?_
    refine tk_getA hC hK hw hT hinX12 kM_at0 (by decide) rfl 26 (by decide) (List.mem_cons_of_mem _ uw_7_1) rfl rfl dX12_isWalker_6 ?_
    refine lv_iconst (v := 5) hx hb dX12_isWalker_9 (by decide) ?_
    refine tk_ialdR hC hK hw hT kM_at12 rfl (by decide) (by decide) dX12_isWalker_10 (fun x2 c3 Ex2 => ?_)
    have bx2 := tk_rgI rfl 5 1 1 0 4 (by decide +kernel) ⟨0, by decide, by decide⟩ Ex2
    have c3 : gi w0 12 5 = x2 := c3
    refine lv_icmp_ge (tgt := 18) hx hb dX12_isWalker_11 (by decide) (fun c4 => ?_) (fun c4 => ?_)
    · have c4 : x2.toInt ≤ a1.toInt := wk_le.mp c4
      exact J18  s.heap locs ls    hw   (lv_sub hl [0, 1] rfl)
    · have c4 : a1.toInt < x2.toInt := wk_leF c4
      refine lv_iconst (v := 1) hx hb dX12_isWalker_14 (by decide) ?_
      refine lv_goto (tgt := 19) hx hb dX12_isWalker_15 (by decide) ?_
      exact tk_zret hC hr rfl hlocks hK ⟨rfl, (Or.inr ⟨rfl, (show 0 ≤ a1.toInt from c1), (show a1.toInt ≤ 3 by first | with_reducible assumption | omega), ⟨x2, c3, (show 1 ≤ x2.toInt by first | with_reducible assumption | omega), (show x2.toInt ≤ 4 by first | with_reducible assumption | omega)⟩⟩)⟩ hw dX12_isWalker_19
abbrev P_X12_walkerOf_1 (ad : Nat → Nat) (cy : Nat → ClassId) (B : Int) (qr : Nat) (s1 : Int) (a1 : Int32) (a2 : Int32) (w0 : va_W) : Int32 → va_W → Prop := fun r u => w0 = u ∧ ((gi u 12 (9 * a1.toInt + 1 * a2.toInt + 216).toNat = r))
set_option maxHeartbeats 4000000 in
set_option maxRecDepth 100000 in
theorem k_X12_walkerOf_1 (l : Launch) (adK adV : Nat → Nat) (dC : Nat → ClassId) (dI : Nat → Nat → Nat) (cy : Nat → ClassId) (ad : Nat → Nat) (B : Int) (hB0 : 100000 ≤ B) (hB1 : B ≤ 1073741824) (qr : Nat) (s1 : Int)  (a1 : Int32) (ra1 : 0 ≤ a1.toInt) (ta1 : a1.toInt ≤ 3) (a2 : Int32) (ra2 : 0 ≤ a2.toInt) (ta2 : a2.toInt ≤ 7) (w0 : va_W) (sz : Nat) (hT : TW ksM ad cy B qr 12 w0)  : Met l yX12_walkerOf (wu yX12_walkerOf cX12_walkerOf 3 (some .int)) ({ frames := 1, cells := 0, slots := 0, locals := 12 }) (va_Pc [.ref (ad 0), .int a1, .int a2] (wpreS adK adV dC dI cy sz w0)) (va_Qi (P_X12_walkerOf_1 ad cy B qr s1 a1 a2 w0) (fun u : va_W => wpost dC dI cy (va_A w0 sz) u) (va_A w0 sz)) 0 0 (va_A w0 sz) := by
  refine Met.ofW (cc := cX12_walkerOf) (maxL := 3) (ret := (some .int)) (by decide) rfl ?_
  intro p e s m args below meth c s₁ Bk hml hv
  obtain ⟨rfl, ⟨hsz, hP, hK, hD0⟩, hE, hSR⟩ := hv
  have hx := Bk.exec
  have hb := Bk.bytes
  have hr := Bk.returns
  have hlocks := Bk.notSynchronized
  have hC : CallFix p m c cX12_walkerOf 3 s _ (wu yX12_walkerOf cX12_walkerOf 3 (some .int)) RX12 := ⟨hx, hb, hml, findClass_of_methodNamed Bk.named, atoms_spec (ws := (wu yX12_walkerOf cX12_walkerOf 3 (some .int))) Bk.pre⟩
  subst hsz
  have hD := hD0.self (sz := s.heap.size)
  generalize hAe : va_A w0 s.heap.size = A at hD hE ⊢
  have hA : ∀ q : Nat, s.heap.size ≤ q → A q := fun q h => by rw [← hAe]; exact Or.inr h
  have hw : Wd dC dI A s.heap s.heap [] w0 := ⟨hP, hD, va_S.rf⟩
  have hF : FE ksM ([] : List (Nat × Nat × Nat)) w0 w0 := FE.rf
  have hl := lv_entry ([.ref (ad 0), .int a1, .int a2]) (n := 3) (Nat.le_of_ble_eq_true rfl)
  rw [lg_entry_eq]
  generalize (lg_sl ([.ref (ad 0), .int a1, .int a2]) ++ List.replicate (3 - (lg_sl ([.ref (ad 0), .int a1, .int a2])).length) Slot.unset).toArray = ls at hl ⊢
  have hl : lv_has ls 3 [(0, .ref (ad 0)), (1, .int a1), (2, .int a2)] := hl
  generalize hloc : ([] : List Loc) = locs at hw ⊢
  have hinX12 : ∀ w ∈ u_ws RX12 TX12 42, w ∈ (wu yX12_walkerOf cX12_walkerOf 3 (some .int)) := fun _ h => List.mem_cons_of_mem _ (up_71 h)
  refine lv_aload_n hx hb dX12_walkerOf_0 rfl (lv_at hl 0 rfl) ?_
  refine tk_getA hC hK hw hT hinX12 kM_at0 (by decide) rfl 26 (by decide) (List.mem_cons_of_mem _ uw_7_1) rfl rfl dX12_walkerOf_1 ?_
  refine lv_sipush (v := 216) hx hb dX12_walkerOf_4 (by decide) ?_
  refine lv_bipush (v := 9) hx hb dX12_walkerOf_7 (by decide) ?_
  refine lv_iload_n hx hb dX12_walkerOf_9 rfl (lv_at hl 1 rfl) ?_
  refine lv_imul hx hb dX12_walkerOf_10 ?_
  refine lv_topi (fun x1 ex1 => ?_)
  have ex1 : x1.toInt = (9 : Int) * a1.toInt := by rw [ex1]; exact wk_mul (show (-2147483648) ≤ (9 : Int) * a1.toInt by omega) (show (9 : Int) * a1.toInt ≤ 2147483647 by omega)
  refine lv_iadd hx hb dX12_walkerOf_11 ?_
  refine lv_topi (fun x2 ex2 => ?_)
  have ex2 : x2.toInt = (216 : Int) + x1.toInt := by rw [ex2]; exact wk_add (show (-2147483648) ≤ (216 : Int) + x1.toInt by omega) (show (216 : Int) + x1.toInt ≤ 2147483647 by omega)
  refine lv_iload_n hx hb dX12_walkerOf_12 rfl (lv_at hl 2 rfl) ?_
  refine lv_iadd hx hb dX12_walkerOf_13 ?_
  refine lv_topi (fun x3 ex3 => ?_)
  have ex3 : x3.toInt = x2.toInt + a2.toInt := by rw [ex3]; exact wk_add (show (-2147483648) ≤ x2.toInt + a2.toInt by omega) (show x2.toInt + a2.toInt ≤ 2147483647 by omega)
  refine tk_ialdR hC hK hw hT kM_at12 rfl (show 0 ≤ x3.toInt by first | with_reducible assumption | omega) (show x3.toInt < 296 by first | with_reducible assumption | omega) dX12_walkerOf_14 (fun x4 c5 Ex4 => ?_)
  have c5 : gi w0 12 (9 * a1.toInt + 1 * a2.toInt + 216).toNat = x4 := (congrArg (gi w0 12) (congrArg Int.toNat (show 9 * a1.toInt + 1 * a2.toInt + 216 = x3.toInt by first | exact Int.le_antisymm (by omega) (by omega) | omega))).trans c5
  exact tk_iret hC hr hlocks hK ⟨rfl, c5⟩ hw dX12_walkerOf_15
abbrev P_X12_about_1 (ad : Nat → Nat) (cy : Nat → ClassId) (B : Int) (qr : Nat) (s1 : Int) (a1 : Int32) (a2 : Int32) (w0 : va_W) : Int32 → va_W → Prop := fun r u => w0 = u ∧ ((0 ≤ a1.toInt ∧ a1.toInt ≤ 3 ∧ 0 ≤ a2.toInt ∧ a2.toInt ≤ 7 ∧ (∃ y : Int32, gi u 12 5 = y ∧ 1 ≤ y.toInt ∧ y.toInt ≤ 4)) ∨ (r = (-1)))
set_option maxHeartbeats 4000000 in
set_option maxRecDepth 100000 in
theorem k_X12_about_1 (l : Launch) (adK adV : Nat → Nat) (dC : Nat → ClassId) (dI : Nat → Nat → Nat) (cy : Nat → ClassId) (ad : Nat → Nat) (B : Int) (hB0 : 100000 ≤ B) (hB1 : B ≤ 1073741824) (qr : Nat) (s1 : Int)  (a1 : Int32) (a2 : Int32) (w0 : va_W) (sz : Nat) (hT : TW ksM ad cy B qr 12 w0)  : Met l yX12_about (wu yX12_about cX12_about 3 (some .int)) ({ frames := 2, cells := 0, slots := 0, locals := 37 }) (va_Pc [.ref (ad 0), .int a1, .int a2] (wpreS adK adV dC dI cy sz w0)) (va_Qi (P_X12_about_1 ad cy B qr s1 a1 a2 w0) (fun u : va_W => wpost dC dI cy (va_A w0 sz) u) (va_A w0 sz)) 0 0 (va_A w0 sz) := by
  refine Met.ofW (cc := cX12_about) (maxL := 3) (ret := (some .int)) (by decide) rfl ?_
  intro p e s m args below meth c s₁ Bk hml hv
  obtain ⟨rfl, ⟨hsz, hP, hK, hD0⟩, hE, hSR⟩ := hv
  have hx := Bk.exec
  have hb := Bk.bytes
  have hr := Bk.returns
  have hlocks := Bk.notSynchronized
  have hC : CallFix p m c cX12_about 3 s _ (wu yX12_about cX12_about 3 (some .int)) RX12 := ⟨hx, hb, hml, findClass_of_methodNamed Bk.named, atoms_spec (ws := (wu yX12_about cX12_about 3 (some .int))) Bk.pre⟩
  subst hsz
  have hD := hD0.self (sz := s.heap.size)
  generalize hAe : va_A w0 s.heap.size = A at hD hE ⊢
  have hA : ∀ q : Nat, s.heap.size ≤ q → A q := fun q h => by rw [← hAe]; exact Or.inr h
  have hw : Wd dC dI A s.heap s.heap [] w0 := ⟨hP, hD, va_S.rf⟩
  have hF : FE ksM ([] : List (Nat × Nat × Nat)) w0 w0 := FE.rf
  have hl := lv_entry ([.ref (ad 0), .int a1, .int a2]) (n := 3) (Nat.le_of_ble_eq_true rfl)
  rw [lg_entry_eq]
  generalize (lg_sl ([.ref (ad 0), .int a1, .int a2]) ++ List.replicate (3 - (lg_sl ([.ref (ad 0), .int a1, .int a2])).length) Slot.unset).toArray = ls at hl ⊢
  have hl : lv_has ls 3 [(0, .ref (ad 0)), (1, .int a1), (2, .int a2)] := hl
  generalize hloc : ([] : List Loc) = locs at hw ⊢
  have J29 : ∀ (H : Heap) (locs : List Loc) (ls : Array Slot), Wd dC dI A s.heap H locs w0 → lv_has ls 3 [(0, .ref (ad 0)), (1, .int a1), (2, .int a2)] → W p l e ({ frames := 2, cells := 0, slots := 0, locals := 37 }) s m (List.toArray [.ref (ad 0), .int a1, .int a2]) below meth c H locs 0 0 (MQ below (va_Qi (P_X12_about_1 ad cy B qr s1 a1 a2 w0) (fun u : va_W => wpost dC dI cy A u) A) (List.toArray [.ref (ad 0), .int a1, .int a2]) s 0 0 A) (F0 m 29 ls []) := by
    intro H locs ls hw hl
    refine lv_iconst (v := (-1)) hx hb dX12_about_29 (by decide) ?_
    exact tk_iret hC hr hlocks hK ⟨rfl, (Or.inr rfl)⟩ hw dX12_about_30
  refine lv_aload_n hx hb dX12_about_0 rfl (lv_at hl 0 rfl) ?_
  refine lv_iload_n hx hb dX12_about_1 rfl (lv_at hl 1 rfl) ?_
  refine tk_Vi hC hK hw hT hA hE hSR kM_at0 (by decide) rfl (k_X12_isWalker_1 l adK adV dC dI cy ad B hB0 (Int.le_trans hB1 (by decide)) qr s1   a1 w0 s.heap.size hT ) (cwV 1 hC.2.2.2.2 uV_RX12_367 rfl rfl rfl (by decide +kernel) ⟨Nat.le_of_ble_eq_true rfl, Nat.le_of_ble_eq_true rfl⟩) rfl hl.1 rfl (Nat.le_of_ble_eq_true rfl) dX12_about_2 (fun r1 w3 H locs hp2 hw => ?_)
  obtain ⟨rfl, hg9⟩ := hp2
  rcases hg9 with rfl | ⟨rfl, g5, g6, ⟨x7, c8, rx7, tx7⟩⟩
  · refine lv_if_eq (tgt := 29) hx hb dX12_about_5 (by decide) (fun _ => ?_) (fun c => absurd (by decide) c)
    exact J29  H locs ls    hw   (lv_sub hl [0, 1, 2] rfl)
  · refine lv_if_eq (tgt := 29) hx hb dX12_about_5 (by decide) (fun c => absurd c (by decide)) (fun _ => ?_)
    refine lv_iload_n hx hb dX12_about_8 rfl (lv_at hl 2 rfl) ?_
    refine lv_i2l hx hb dX12_about_9 rfl ?_
    refine lv_topl (fun x10 ex10 => ?_)
    have ex10 : x10.toInt = a2.toInt := by rw [ex10]; exact wk_i2l _
    have bx10 := wk_i32 a2
    refine lv_lconst (v := 0) hx hb dX12_about_10 (by decide) ?_
    refine lv_ldc2 (v := 7) hx hb hC.2.2.2.1 (hC.2.2.2.2 _ (List.mem_cons_of_mem _ uw_40_23)) dX12_about_11 ?_
    refine tk_Si hC hK hw hT hA hE hSR (k_X12_in_13 l adK adV dC dI cy ad B hB0 (Int.le_trans hB1 (by decide)) qr s1   x10 (show (-2147483648) ≤ x10.toInt by first | with_reducible assumption | omega) (show x10.toInt ≤ 2147483647 by first | with_reducible assumption | omega) w0 H.size hT ) (va_cwS 3 hC.2.2.2.2 uS_RX12_122 rfl rfl rfl (by decide +kernel) ⟨Nat.le_of_ble_eq_true rfl, Nat.le_of_ble_eq_true rfl⟩) rfl hl.1 rfl (Nat.le_of_ble_eq_true rfl) dX12_about_14 (fun r11 w13 H locs hp12 hw => ?_)
    obtain ⟨rfl, hg17⟩ := hp12
    rcases hg17 with rfl | ⟨rfl, g15, g16⟩
    · refine lv_if_eq (tgt := 29) hx hb dX12_about_17 (by decide) (fun _ => ?_) (fun c => absurd (by decide) c)
      exact J29  H locs ls    hw   (lv_sub hl [0, 1, 2] rfl)
    · refine lv_if_eq (tgt := 29) hx hb dX12_about_17 (by decide) (fun c => absurd c (by decide)) (fun _ => ?_)
      refine lv_aload_n hx hb dX12_about_20 rfl (lv_at hl 0 rfl) ?_
      refine lv_iload_n hx hb dX12_about_21 rfl (lv_at hl 1 rfl) ?_
      refine lv_iload_n hx hb dX12_about_22 rfl (lv_at hl 2 rfl) ?_
      refine tk_Vi hC hK hw hT hA hE hSR kM_at0 (by decide) rfl (k_X12_walkerOf_1 l adK adV dC dI cy ad B hB0 (Int.le_trans hB1 (by decide)) qr s1   a1 (show 0 ≤ a1.toInt by first | with_reducible assumption | omega) (show a1.toInt ≤ 3 by first | with_reducible assumption | omega) a2 (show 0 ≤ a2.toInt by first | with_reducible assumption | omega) (show a2.toInt ≤ 7 by first | with_reducible assumption | omega) w0 H.size hT ) (cwV 2 hC.2.2.2.2 uV_RX12_372 rfl rfl rfl (by decide +kernel) ⟨Nat.le_of_ble_eq_true rfl, Nat.le_of_ble_eq_true rfl⟩) rfl hl.1 rfl (Nat.le_of_ble_eq_true rfl) dX12_about_23 (fun r18 w20 H locs hp19 hw => ?_)
      obtain ⟨rfl, hg23⟩ := hp19
      have c22 := hg23
      refine lv_goto (tgt := 30) hx hb dX12_about_26 (by decide) ?_
      exact tk_iret hC hr hlocks hK ⟨rfl, (Or.inl ⟨(show 0 ≤ a1.toInt by first | with_reducible assumption | omega), (show a1.toInt ≤ 3 by first | with_reducible assumption | omega), (show 0 ≤ a2.toInt by first | with_reducible assumption | omega), (show a2.toInt ≤ 7 by first | with_reducible assumption | omega), ⟨x7, c8, (show 1 ≤ x7.toInt by first | with_reducible assumption | omega), (show x7.toInt ≤ 4 by first | with_reducible assumption | omega)⟩⟩)⟩ hw dX12_about_30
abbrev P_X12_in_14 (ad : Nat → Nat) (cy : Nat → ClassId) (B : Int) (qr : Nat) (s1 : Int) (a0 : Int64) (w0 : va_W) : Int32 → va_W → Prop := fun r u => w0 = u ∧ ((r = 0) ∨ (r = 1 ∧ 1 ≤ a0.toInt ∧ a0.toInt ≤ 200))
set_option maxHeartbeats 4000000 in
set_option maxRecDepth 100000 in
theorem k_X12_in_14 (l : Launch) (adK adV : Nat → Nat) (dC : Nat → ClassId) (dI : Nat → Nat → Nat) (cy : Nat → ClassId) (ad : Nat → Nat) (B : Int) (hB0 : 100000 ≤ B) (hB1 : B ≤ 1073741824) (qr : Nat) (s1 : Int)  (a0 : Int64) (ra0 : (-2147483648) ≤ a0.toInt) (ta0 : a0.toInt ≤ 2147483647) (w0 : va_W) (sz : Nat) (hT : TW ksM ad cy B qr 12 w0)  : Met l yX12_in (wu yX12_in cX12_in 6 (some .boolean)) ({ frames := 1, cells := 0, slots := 0, locals := 12 }) (va_Pc [.long a0, .long 1, .long 200] (wpreS adK adV dC dI cy sz w0)) (va_Qi (P_X12_in_14 ad cy B qr s1 a0 w0) (fun u : va_W => wpost dC dI cy (va_A w0 sz) u) (va_A w0 sz)) 0 0 (va_A w0 sz) := by
  refine Met.ofW (cc := cX12_in) (maxL := 6) (ret := (some .boolean)) (by decide) rfl ?_
  intro p e s m args below meth c s₁ Bk hml hv
  obtain ⟨rfl, ⟨hsz, hP, hK, hD0⟩, hE, hSR⟩ := hv
  have hx := Bk.exec
  have hb := Bk.bytes
  have hr := Bk.returns
  have hlocks := Bk.notSynchronized
  have hC : CallFix p m c cX12_in 6 s _ (wu yX12_in cX12_in 6 (some .boolean)) RX12 := ⟨hx, hb, hml, findClass_of_methodNamed Bk.named, atoms_spec (ws := (wu yX12_in cX12_in 6 (some .boolean))) Bk.pre⟩
  subst hsz
  have hD := hD0.self (sz := s.heap.size)
  generalize hAe : va_A w0 s.heap.size = A at hD hE ⊢
  have hA : ∀ q : Nat, s.heap.size ≤ q → A q := fun q h => by rw [← hAe]; exact Or.inr h
  have hw : Wd dC dI A s.heap s.heap [] w0 := ⟨hP, hD, va_S.rf⟩
  have hF : FE ksM ([] : List (Nat × Nat × Nat)) w0 w0 := FE.rf
  have hl := lv_entry ([.long a0, .long 1, .long 200]) (n := 6) (Nat.le_of_ble_eq_true rfl)
  rw [lg_entry_eq]
  generalize (lg_sl ([.long a0, .long 1, .long 200]) ++ List.replicate (6 - (lg_sl ([.long a0, .long 1, .long 200])).length) Slot.unset).toArray = ls at hl ⊢
  have hl : lv_has ls 6 [(0, .long a0), (2, .long 1), (4, .long 200)] := hl
  generalize hloc : ([] : List Loc) = locs at hw ⊢
  have J17 : ∀ (H : Heap) (locs : List Loc) (ls : Array Slot), (-2147483648) ≤ a0.toInt → a0.toInt ≤ 2147483647 → Wd dC dI A s.heap H locs w0 → lv_has ls 6 [(0, .long a0), (2, .long 1), (4, .long 200)] → W p l e ({ frames := 1, cells := 0, slots := 0, locals := 12 }) s m (List.toArray [.long a0, .long 1, .long 200]) below meth c H locs 0 0 (MQ below (va_Qi (P_X12_in_14 ad cy B qr s1 a0 w0) (fun u : va_W => wpost dC dI cy A u) A) (List.toArray [.long a0, .long 1, .long 200]) s 0 0 A) (F0 m 17 ls []) := by
    intro H locs ls r1 t2 hw hl
    refine lv_iconst (v := 0) hx hb dX12_in_17 (by decide) ?_
    exact tk_zret hC hr rfl hlocks hK ⟨rfl, (Or.inl rfl)⟩ hw dX12_in_18
  refine lv_lload_n hx hb dX12_in_0 rfl (lv_at hl 0 rfl) ?_
  refine lv_lload_n hx hb dX12_in_1 rfl (lv_at hl 1 rfl) ?_
  refine W.lcmp hx hb dX12_in_2 ?_
  refine lv_if_lt (tgt := 17) hx hb dX12_in_3 (by decide) (fun c3 => ?_) (fun c3 => ?_)
  · have c3 : a0.toInt < (1 : Int) := wk_cltT c3
    exact J17  s.heap locs ls  (show (-2147483648) ≤ a0.toInt from ra0) (show a0.toInt ≤ 2147483647 from ta0)  hw   (lv_sub hl [0, 1, 2] rfl)
  · have c3 : (1 : Int) ≤ a0.toInt := wk_cltF c3
    refine lv_lload_n hx hb dX12_in_6 rfl (lv_at hl 0 rfl) ?_
    refine lv_lload hx hb dX12_in_7 (lv_at hl 2 rfl) ?_
    refine W.lcmp hx hb dX12_in_9 ?_
    refine lv_if_gt (tgt := 17) hx hb dX12_in_10 (by decide) (fun c4 => ?_) (fun c4 => ?_)
    · have c4 : (200 : Int) < a0.toInt := wk_cgtT c4
      exact J17  s.heap locs ls  (show (-2147483648) ≤ a0.toInt from ra0) (show a0.toInt ≤ 2147483647 from ta0)  hw   (lv_sub hl [0, 1, 2] rfl)
    · have c4 : a0.toInt ≤ (200 : Int) := wk_cgtF c4
      refine lv_iconst (v := 1) hx hb dX12_in_13 (by decide) ?_
      refine lv_goto (tgt := 18) hx hb dX12_in_14 (by decide) ?_
      exact tk_zret hC hr rfl hlocks hK ⟨rfl, (Or.inr ⟨rfl, (show 1 ≤ a0.toInt from c3), (show a0.toInt ≤ 200 from c4)⟩)⟩ hw dX12_in_18
abbrev P_X12_walkerOf_2 (ad : Nat → Nat) (cy : Nat → ClassId) (B : Int) (qr : Nat) (s1 : Int) (a1 : Int32) (w0 : va_W) : Int32 → va_W → Prop := fun r u => w0 = u ∧ ((0 ≤ r.toInt ∧ r.toInt ≤ 9 ∧ gi u 12 (9 * a1.toInt + 216).toNat = r))
set_option maxHeartbeats 4000000 in
set_option maxRecDepth 100000 in
theorem k_X12_walkerOf_2 (l : Launch) (adK adV : Nat → Nat) (dC : Nat → ClassId) (dI : Nat → Nat → Nat) (cy : Nat → ClassId) (ad : Nat → Nat) (B : Int) (hB0 : 100000 ≤ B) (hB1 : B ≤ 1073741824) (qr : Nat) (s1 : Int)  (a1 : Int32) (ra1 : 0 ≤ a1.toInt) (ta1 : a1.toInt ≤ 3) (w0 : va_W) (sz : Nat) (hT : TW ksM ad cy B qr 12 w0)  : Met l yX12_walkerOf (wu yX12_walkerOf cX12_walkerOf 3 (some .int)) ({ frames := 1, cells := 0, slots := 0, locals := 12 }) (va_Pc [.ref (ad 0), .int a1, .int 0] (wpreS adK adV dC dI cy sz w0)) (va_Qi (P_X12_walkerOf_2 ad cy B qr s1 a1 w0) (fun u : va_W => wpost dC dI cy (va_A w0 sz) u) (va_A w0 sz)) 0 0 (va_A w0 sz) := by
  refine Met.ofW (cc := cX12_walkerOf) (maxL := 3) (ret := (some .int)) (by decide) rfl ?_
  intro p e s m args below meth c s₁ Bk hml hv
  obtain ⟨rfl, ⟨hsz, hP, hK, hD0⟩, hE, hSR⟩ := hv
  have hx := Bk.exec
  have hb := Bk.bytes
  have hr := Bk.returns
  have hlocks := Bk.notSynchronized
  have hC : CallFix p m c cX12_walkerOf 3 s _ (wu yX12_walkerOf cX12_walkerOf 3 (some .int)) RX12 := ⟨hx, hb, hml, findClass_of_methodNamed Bk.named, atoms_spec (ws := (wu yX12_walkerOf cX12_walkerOf 3 (some .int))) Bk.pre⟩
  subst hsz
  have hD := hD0.self (sz := s.heap.size)
  generalize hAe : va_A w0 s.heap.size = A at hD hE ⊢
  have hA : ∀ q : Nat, s.heap.size ≤ q → A q := fun q h => by rw [← hAe]; exact Or.inr h
  have hw : Wd dC dI A s.heap s.heap [] w0 := ⟨hP, hD, va_S.rf⟩
  have hF : FE ksM ([] : List (Nat × Nat × Nat)) w0 w0 := FE.rf
  have hl := lv_entry ([.ref (ad 0), .int a1, .int 0]) (n := 3) (Nat.le_of_ble_eq_true rfl)
  rw [lg_entry_eq]
  generalize (lg_sl ([.ref (ad 0), .int a1, .int 0]) ++ List.replicate (3 - (lg_sl ([.ref (ad 0), .int a1, .int 0])).length) Slot.unset).toArray = ls at hl ⊢
  have hl : lv_has ls 3 [(0, .ref (ad 0)), (1, .int a1), (2, .int 0)] := hl
  generalize hloc : ([] : List Loc) = locs at hw ⊢
  have hinX12 : ∀ w ∈ u_ws RX12 TX12 42, w ∈ (wu yX12_walkerOf cX12_walkerOf 3 (some .int)) := fun _ h => List.mem_cons_of_mem _ (up_71 h)
  refine lv_aload_n hx hb dX12_walkerOf_0 rfl (lv_at hl 0 rfl) ?_
  refine tk_getA hC hK hw hT hinX12 kM_at0 (by decide) rfl 26 (by decide) (List.mem_cons_of_mem _ uw_7_1) rfl rfl dX12_walkerOf_1 ?_
  refine lv_sipush (v := 216) hx hb dX12_walkerOf_4 (by decide) ?_
  refine lv_bipush (v := 9) hx hb dX12_walkerOf_7 (by decide) ?_
  refine lv_iload_n hx hb dX12_walkerOf_9 rfl (lv_at hl 1 rfl) ?_
  refine lv_imul hx hb dX12_walkerOf_10 ?_
  refine lv_topi (fun x1 ex1 => ?_)
  have ex1 : x1.toInt = (9 : Int) * a1.toInt := by rw [ex1]; exact wk_mul (show (-2147483648) ≤ (9 : Int) * a1.toInt by omega) (show (9 : Int) * a1.toInt ≤ 2147483647 by omega)
  refine lv_iadd hx hb dX12_walkerOf_11 ?_
  refine lv_topi (fun x2 ex2 => ?_)
  have ex2 : x2.toInt = (216 : Int) + x1.toInt := by rw [ex2]; exact wk_add (show (-2147483648) ≤ (216 : Int) + x1.toInt by omega) (show (216 : Int) + x1.toInt ≤ 2147483647 by omega)
  refine lv_iload_n hx hb dX12_walkerOf_12 rfl (lv_at hl 2 rfl) ?_
  refine lv_iadd hx hb dX12_walkerOf_13 ?_
  refine lv_topi (fun x3 ex3 => ?_)
  have ex3 : x3.toInt = x2.toInt + (0 : Int) := by rw [ex3]; exact wk_add (show (-2147483648) ≤ x2.toInt + (0 : Int) by omega) (show x2.toInt + (0 : Int) ≤ 2147483647 by omega)
  refine tk_ialdR hC hK hw hT kM_at12 rfl (show 0 ≤ x3.toInt by first | with_reducible assumption | omega) (show x3.toInt < 296 by first | with_reducible assumption | omega) dX12_walkerOf_14 (fun x4 c5 Ex4 => ?_)
  have c5 : gi w0 12 (9 * a1.toInt + 216).toNat = x4 := (congrArg (gi w0 12) (congrArg Int.toNat (show 9 * a1.toInt + 216 = x3.toInt by first | exact Int.le_antisymm (by omega) (by omega) | omega))).trans c5
  have bx4 := tk_rgI rfl 216 9 4 0 9 (by decide +kernel) ⟨(a1.toInt - 0).toNat, by omega, show x3.toInt.toNat = 216 + 9 * (a1.toInt - 0).toNat by omega⟩ Ex4
  exact tk_iret hC hr hlocks hK ⟨rfl, ⟨(show 0 ≤ x4.toInt by first | with_reducible assumption | omega), (show x4.toInt ≤ 9 by first | with_reducible assumption | omega), c5⟩⟩ hw dX12_walkerOf_15
abbrev P_X12_walkerOf_3 (ad : Nat → Nat) (cy : Nat → ClassId) (B : Int) (qr : Nat) (s1 : Int) (a1 : Int32) (w0 : va_W) : Int32 → va_W → Prop := fun r u => w0 = u ∧ ((0 ≤ r.toInt ∧ r.toInt ≤ 9 ∧ gi u 12 (9 * a1.toInt + 217).toNat = r))
set_option maxHeartbeats 4000000 in
set_option maxRecDepth 100000 in
theorem k_X12_walkerOf_3 (l : Launch) (adK adV : Nat → Nat) (dC : Nat → ClassId) (dI : Nat → Nat → Nat) (cy : Nat → ClassId) (ad : Nat → Nat) (B : Int) (hB0 : 100000 ≤ B) (hB1 : B ≤ 1073741824) (qr : Nat) (s1 : Int)  (a1 : Int32) (ra1 : 0 ≤ a1.toInt) (ta1 : a1.toInt ≤ 3) (w0 : va_W) (sz : Nat) (hT : TW ksM ad cy B qr 12 w0)  : Met l yX12_walkerOf (wu yX12_walkerOf cX12_walkerOf 3 (some .int)) ({ frames := 1, cells := 0, slots := 0, locals := 12 }) (va_Pc [.ref (ad 0), .int a1, .int 1] (wpreS adK adV dC dI cy sz w0)) (va_Qi (P_X12_walkerOf_3 ad cy B qr s1 a1 w0) (fun u : va_W => wpost dC dI cy (va_A w0 sz) u) (va_A w0 sz)) 0 0 (va_A w0 sz) := by
  refine Met.ofW (cc := cX12_walkerOf) (maxL := 3) (ret := (some .int)) (by decide) rfl ?_
  intro p e s m args below meth c s₁ Bk hml hv
  obtain ⟨rfl, ⟨hsz, hP, hK, hD0⟩, hE, hSR⟩ := hv
  have hx := Bk.exec
  have hb := Bk.bytes
  have hr := Bk.returns
  have hlocks := Bk.notSynchronized
  have hC : CallFix p m c cX12_walkerOf 3 s _ (wu yX12_walkerOf cX12_walkerOf 3 (some .int)) RX12 := ⟨hx, hb, hml, findClass_of_methodNamed Bk.named, atoms_spec (ws := (wu yX12_walkerOf cX12_walkerOf 3 (some .int))) Bk.pre⟩
  subst hsz
  have hD := hD0.self (sz := s.heap.size)
  generalize hAe : va_A w0 s.heap.size = A at hD hE ⊢
  have hA : ∀ q : Nat, s.heap.size ≤ q → A q := fun q h => by rw [← hAe]; exact Or.inr h
  have hw : Wd dC dI A s.heap s.heap [] w0 := ⟨hP, hD, va_S.rf⟩
  have hF : FE ksM ([] : List (Nat × Nat × Nat)) w0 w0 := FE.rf
  have hl := lv_entry ([.ref (ad 0), .int a1, .int 1]) (n := 3) (Nat.le_of_ble_eq_true rfl)
  rw [lg_entry_eq]
  generalize (lg_sl ([.ref (ad 0), .int a1, .int 1]) ++ List.replicate (3 - (lg_sl ([.ref (ad 0), .int a1, .int 1])).length) Slot.unset).toArray = ls at hl ⊢
  have hl : lv_has ls 3 [(0, .ref (ad 0)), (1, .int a1), (2, .int 1)] := hl
  generalize hloc : ([] : List Loc) = locs at hw ⊢
  have hinX12 : ∀ w ∈ u_ws RX12 TX12 42, w ∈ (wu yX12_walkerOf cX12_walkerOf 3 (some .int)) := fun _ h => List.mem_cons_of_mem _ (up_71 h)
  refine lv_aload_n hx hb dX12_walkerOf_0 rfl (lv_at hl 0 rfl) ?_
  refine tk_getA hC hK hw hT hinX12 kM_at0 (by decide) rfl 26 (by decide) (List.mem_cons_of_mem _ uw_7_1) rfl rfl dX12_walkerOf_1 ?_
  refine lv_sipush (v := 216) hx hb dX12_walkerOf_4 (by decide) ?_
  refine lv_bipush (v := 9) hx hb dX12_walkerOf_7 (by decide) ?_
  refine lv_iload_n hx hb dX12_walkerOf_9 rfl (lv_at hl 1 rfl) ?_
  refine lv_imul hx hb dX12_walkerOf_10 ?_
  refine lv_topi (fun x1 ex1 => ?_)
  have ex1 : x1.toInt = (9 : Int) * a1.toInt := by rw [ex1]; exact wk_mul (show (-2147483648) ≤ (9 : Int) * a1.toInt by omega) (show (9 : Int) * a1.toInt ≤ 2147483647 by omega)
  refine lv_iadd hx hb dX12_walkerOf_11 ?_
  refine lv_topi (fun x2 ex2 => ?_)
  have ex2 : x2.toInt = (216 : Int) + x1.toInt := by rw [ex2]; exact wk_add (show (-2147483648) ≤ (216 : Int) + x1.toInt by omega) (show (216 : Int) + x1.toInt ≤ 2147483647 by omega)
  refine lv_iload_n hx hb dX12_walkerOf_12 rfl (lv_at hl 2 rfl) ?_
  refine lv_iadd hx hb dX12_walkerOf_13 ?_
  refine lv_topi (fun x3 ex3 => ?_)
  have ex3 : x3.toInt = x2.toInt + (1 : Int) := by rw [ex3]; exact wk_add (show (-2147483648) ≤ x2.toInt + (1 : Int) by omega) (show x2.toInt + (1 : Int) ≤ 2147483647 by omega)
  refine tk_ialdR hC hK hw hT kM_at12 rfl (show 0 ≤ x3.toInt by first | with_reducible assumption | omega) (show x3.toInt < 296 by first | with_reducible assumption | omega) dX12_walkerOf_14 (fun x4 c5 Ex4 => ?_)
  have c5 : gi w0 12 (9 * a1.toInt + 217).toNat = x4 := (congrArg (gi w0 12) (congrArg Int.toNat (show 9 * a1.toInt + 217 = x3.toInt by first | exact Int.le_antisymm (by omega) (by omega) | omega))).trans c5
  have bx4 := tk_rgI rfl 217 9 4 0 9 (by decide +kernel) ⟨(a1.toInt - 0).toNat, by omega, show x3.toInt.toNat = 217 + 9 * (a1.toInt - 0).toNat by omega⟩ Ex4
  exact tk_iret hC hr hlocks hK ⟨rfl, ⟨(show 0 ≤ x4.toInt by first | with_reducible assumption | omega), (show x4.toInt ≤ 9 by first | with_reducible assumption | omega), c5⟩⟩ hw dX12_walkerOf_15
abbrev P_X12_isThere_1 (ad : Nat → Nat) (cy : Nat → ClassId) (B : Int) (qr : Nat) (s1 : Int) (a1 : Int32) (w0 : va_W) : Int32 → va_W → Prop := fun r u => w0 = u ∧ ((r = 0) ∨ (r = 1))
set_option maxHeartbeats 4000000 in
set_option maxRecDepth 100000 in
theorem k_X12_isThere_1 (l : Launch) (adK adV : Nat → Nat) (dC : Nat → ClassId) (dI : Nat → Nat → Nat) (cy : Nat → ClassId) (ad : Nat → Nat) (B : Int) (hB0 : 100000 ≤ B) (hB1 : B ≤ 1073741824) (qr : Nat) (s1 : Int)  (a1 : Int32) (ra1 : 0 ≤ a1.toInt) (ta1 : a1.toInt ≤ 3) (w0 : va_W) (sz : Nat) (hT : TW ksM ad cy B qr 12 w0)  : Met l yX12_isThere (wu yX12_isThere cX12_isThere 2 (some .boolean)) ({ frames := 2, cells := 0, slots := 0, locals := 34 }) (va_Pc [.ref (ad 0), .int a1] (wpreS adK adV dC dI cy sz w0)) (va_Qi (P_X12_isThere_1 ad cy B qr s1 a1 w0) (fun u : va_W => wpost dC dI cy (va_A w0 sz) u) (va_A w0 sz)) 0 0 (va_A w0 sz) := by
  refine Met.ofW (cc := cX12_isThere) (maxL := 2) (ret := (some .boolean)) (by decide) rfl ?_
  intro p e s m args below meth c s₁ Bk hml hv
  obtain ⟨rfl, ⟨hsz, hP, hK, hD0⟩, hE, hSR⟩ := hv
  have hx := Bk.exec
  have hb := Bk.bytes
  have hr := Bk.returns
  have hlocks := Bk.notSynchronized
  have hC : CallFix p m c cX12_isThere 2 s _ (wu yX12_isThere cX12_isThere 2 (some .boolean)) RX12 := ⟨hx, hb, hml, findClass_of_methodNamed Bk.named, atoms_spec (ws := (wu yX12_isThere cX12_isThere 2 (some .boolean))) Bk.pre⟩
  subst hsz
  have hD := hD0.self (sz := s.heap.size)
  generalize hAe : va_A w0 s.heap.size = A at hD hE ⊢
  have hA : ∀ q : Nat, s.heap.size ≤ q → A q := fun q h => by rw [← hAe]; exact Or.inr h
  have hw : Wd dC dI A s.heap s.heap [] w0 := ⟨hP, hD, va_S.rf⟩
  have hF : FE ksM ([] : List (Nat × Nat × Nat)) w0 w0 := FE.rf
  have hl := lv_entry ([.ref (ad 0), .int a1]) (n := 2) (Nat.le_of_ble_eq_true rfl)
  rw [lg_entry_eq]
  generalize (lg_sl ([.ref (ad 0), .int a1]) ++ List.replicate (2 - (lg_sl ([.ref (ad 0), .int a1])).length) Slot.unset).toArray = ls at hl ⊢
  have hl : lv_has ls 2 [(0, .ref (ad 0)), (1, .int a1)] := hl
  generalize hloc : ([] : List Loc) = locs at hw ⊢
  refine lv_aload_n hx hb dX12_isThere_0 rfl (lv_at hl 0 rfl) ?_
  refine lv_iload_n hx hb dX12_isThere_1 rfl (lv_at hl 1 rfl) ?_
  refine lv_iconst (v := 0) hx hb dX12_isThere_2 (by decide) ?_
  refine tk_Vi hC hK hw hT hA hE hSR kM_at0 (by decide) rfl (k_X12_walkerOf_2 l adK adV dC dI cy ad B hB0 (Int.le_trans hB1 (by decide)) qr s1   a1 (show 0 ≤ a1.toInt from ra1) (show a1.toInt ≤ 3 from ta1) w0 s.heap.size hT ) (cwV 2 hC.2.2.2.2 uV_RX12_372 rfl rfl rfl (by decide +kernel) ⟨Nat.le_of_ble_eq_true rfl, Nat.le_of_ble_eq_true rfl⟩) rfl hl.1 rfl (Nat.le_of_ble_eq_true rfl) dX12_isThere_3 (fun r1 w3 H locs hp2 hw => ?_)
  obtain ⟨rfl, hg8⟩ := hp2
  obtain ⟨g5, g6, c7⟩ := hg8
  refine lv_aload_n hx hb dX12_isThere_6 rfl (lv_at hl 0 rfl) ?_
  refine lv_iload_n hx hb dX12_isThere_7 rfl (lv_at hl 1 rfl) ?_
  refine lv_iconst (v := 1) hx hb dX12_isThere_8 (by decide) ?_
  refine tk_Vi hC hK hw hT hA hE hSR kM_at0 (by decide) rfl (k_X12_walkerOf_3 l adK adV dC dI cy ad B hB0 (Int.le_trans hB1 (by decide)) qr s1   a1 (show 0 ≤ a1.toInt from ra1) (show a1.toInt ≤ 3 from ta1) w0 H.size hT ) (cwV 2 hC.2.2.2.2 uV_RX12_372 rfl rfl rfl (by decide +kernel) ⟨Nat.le_of_ble_eq_true rfl, Nat.le_of_ble_eq_true rfl⟩) rfl hl.1 rfl (Nat.le_of_ble_eq_true rfl) dX12_isThere_9 (fun r9 w11 H locs hp10 hw => ?_)
  obtain ⟨rfl, hg16⟩ := hp10
  obtain ⟨g13, g14, c15⟩ := hg16
  refine lv_icmp_ne (tgt := 19) hx hb dX12_isThere_12 (by decide) (fun c17 => ?_) (fun c17 => ?_)
  · have c17 : ¬ r1.toInt = r9.toInt := wk_eqF c17
    refine lv_iconst (v := 0) hx hb dX12_isThere_19 (by decide) ?_
    exact tk_zret hC hr rfl hlocks hK ⟨rfl, (Or.inl rfl)⟩ hw dX12_isThere_20
  · have c17 : r1.toInt = r9.toInt := wk_eq.mp c17
    refine lv_iconst (v := 1) hx hb dX12_isThere_15 (by decide) ?_
    refine lv_goto (tgt := 20) hx hb dX12_isThere_16 (by decide) ?_
    exact tk_zret hC hr rfl hlocks hK ⟨rfl, (Or.inr rfl)⟩ hw dX12_isThere_20
abbrev P_X12_isDayFor_2 (ad : Nat → Nat) (cy : Nat → ClassId) (B : Int) (qr : Nat) (s1 : Int) (a1 : Int32) (a2 : Int32) (a3 : Int32) (w0 : va_W) : Int32 → va_W → Prop := fun r u => w0 = u ∧ ((r = 0 ∧ (¬ mDay w0 a1.toInt a2.toInt a3.toInt)) ∨ (r = 0 ∧ gi u 12 (10 * a1.toInt + 10).toNat = a2 ∧ (¬ mDay w0 a1.toInt a2.toInt a3.toInt)) ∨ (r = 1 ∧ (mDay w0 a1.toInt a2.toInt a3.toInt)) ∨ (r = 1 ∧ gi u 12 (10 * a1.toInt + 10).toNat = a2 ∧ (mDay w0 a1.toInt a2.toInt a3.toInt)))
set_option maxHeartbeats 4000000 in
set_option maxRecDepth 100000 in
theorem k_X12_isDayFor_2 (l : Launch) (adK adV : Nat → Nat) (dC : Nat → ClassId) (dI : Nat → Nat → Nat) (cy : Nat → ClassId) (ad : Nat → Nat) (B : Int) (hB0 : 100000 ≤ B) (hB1 : B ≤ 1073741824) (qr : Nat) (s1 : Int)  (a1 : Int32) (ra1 : 0 ≤ a1.toInt) (ta1 : a1.toInt ≤ 11) (a2 : Int32) (ra2 : 0 ≤ a2.toInt) (ta2 : a2.toInt ≤ 9) (a3 : Int32) (ra3 : 0 ≤ a3.toInt) (ta3 : a3.toInt ≤ 44739242) (w0 : va_W) (sz : Nat) (hT : TW ksM ad cy B qr 12 w0)  : Met l yX12_isDayFor (wu yX12_isDayFor cX12_isDayFor 4 (some .boolean)) ({ frames := 3, cells := 0, slots := 0, locals := 57 }) (va_Pc [.ref (ad 0), .int a1, .int a2, .int a3] (wpreS adK adV dC dI cy sz w0)) (va_Qi (P_X12_isDayFor_2 ad cy B qr s1 a1 a2 a3 w0) (fun u : va_W => wpost dC dI cy (va_A w0 sz) u) (va_A w0 sz)) 0 0 (va_A w0 sz) := by
  refine Met.ofW (cc := cX12_isDayFor) (maxL := 4) (ret := (some .boolean)) (by decide) rfl ?_
  intro p e s m args below meth c s₁ Bk hml hv
  obtain ⟨rfl, ⟨hsz, hP, hK, hD0⟩, hE, hSR⟩ := hv
  have hx := Bk.exec
  have hb := Bk.bytes
  have hr := Bk.returns
  have hlocks := Bk.notSynchronized
  have hC : CallFix p m c cX12_isDayFor 4 s _ (wu yX12_isDayFor cX12_isDayFor 4 (some .boolean)) RX12 := ⟨hx, hb, hml, findClass_of_methodNamed Bk.named, atoms_spec (ws := (wu yX12_isDayFor cX12_isDayFor 4 (some .boolean))) Bk.pre⟩
  subst hsz
  have hD := hD0.self (sz := s.heap.size)
  generalize hAe : va_A w0 s.heap.size = A at hD hE ⊢
  have hA : ∀ q : Nat, s.heap.size ≤ q → A q := fun q h => by rw [← hAe]; exact Or.inr h
  have hw : Wd dC dI A s.heap s.heap [] w0 := ⟨hP, hD, va_S.rf⟩
  have hF : FE ksM ([] : List (Nat × Nat × Nat)) w0 w0 := FE.rf
  have hl := lv_entry ([.ref (ad 0), .int a1, .int a2, .int a3]) (n := 4) (Nat.le_of_ble_eq_true rfl)
  rw [lg_entry_eq]
  generalize (lg_sl ([.ref (ad 0), .int a1, .int a2, .int a3]) ++ List.replicate (4 - (lg_sl ([.ref (ad 0), .int a1, .int a2, .int a3])).length) Slot.unset).toArray = ls at hl ⊢
  have hl : lv_has ls 4 [(0, .ref (ad 0)), (1, .int a1), (2, .int a2), (3, .int a3)] := hl
  generalize hloc : ([] : List Loc) = locs at hw ⊢
  refine lv_aload_n hx hb dX12_isDayFor_0 rfl (lv_at hl 0 rfl) ?_
  refine lv_aload_n hx hb dX12_isDayFor_1 rfl (lv_at hl 0 rfl) ?_
  refine lv_iload_n hx hb dX12_isDayFor_2 rfl (lv_at hl 1 rfl) ?_
  refine lv_iconst (v := 3) hx hb dX12_isDayFor_3 (by decide) ?_
  refine lv_iload_n hx hb dX12_isDayFor_4 rfl (lv_at hl 3 rfl) ?_
  refine lv_bipush (v := 7) hx hb dX12_isDayFor_5 (by decide) ?_
  refine lv_irem hx hb dX12_isDayFor_7 (by decide) ?_
  refine lv_topi (fun x1 ex1 => ?_)
  have ex1 : x1.toInt = a3.toInt % (7 : Int) := by rw [ex1]; exact wk_rem (show 0 ≤ a3.toInt from ra3) (show 0 < (7 : Int) by decide)
  refine lv_iadd hx hb dX12_isDayFor_8 ?_
  refine lv_topi (fun x2 ex2 => ?_)
  have ex2 : x2.toInt = (3 : Int) + x1.toInt := by rw [ex2]; exact wk_add (show (-2147483648) ≤ (3 : Int) + x1.toInt by omega) (show (3 : Int) + x1.toInt ≤ 2147483647 by omega)
  refine tk_Vi hC hK hw hT hA hE hSR kM_at0 (by decide) rfl (k_X12_streetOf_4 l adK adV dC dI cy ad B hB0 (Int.le_trans hB1 (by decide)) qr s1   a1 (show 0 ≤ a1.toInt from ra1) (show a1.toInt ≤ 11 from ta1) x2 (show 3 ≤ x2.toInt by first | with_reducible assumption | omega) (show x2.toInt ≤ 9 by first | with_reducible assumption | omega) w0 s.heap.size hT ) (cwV 2 hC.2.2.2.2 uV_RX12_300 rfl rfl rfl (by decide +kernel) ⟨Nat.le_of_ble_eq_true rfl, Nat.le_of_ble_eq_true rfl⟩) rfl hl.1 rfl (Nat.le_of_ble_eq_true rfl) dX12_isDayFor_9 (fun r3 w5 H locs hp4 hw => ?_)
  obtain ⟨rfl, hg10⟩ := hp4
  obtain ⟨g7, g8, c9⟩ := hg10
  refine lv_iload_n hx hb dX12_isDayFor_12 rfl (lv_at hl 1 rfl) ?_
  refine lv_iload_n hx hb dX12_isDayFor_13 rfl (lv_at hl 2 rfl) ?_
  refine tk_Vi hC hK hw hT hA hE hSR kM_at0 (by decide) rfl (k_X12_hasSign_1 l adK adV dC dI cy ad B hB0 (Int.le_trans hB1 (by decide)) qr s1   r3 (show 0 ≤ r3.toInt by first | with_reducible assumption | omega) (show r3.toInt ≤ 9 by first | with_reducible assumption | omega) a1 (show 0 ≤ a1.toInt from ra1) (show a1.toInt ≤ 11 from ta1) a2 (show 0 ≤ a2.toInt from ra2) (show a2.toInt ≤ 9 from ta2) w0 H.size hT ) (cwV 3 hC.2.2.2.2 uV_RX12_307 rfl rfl rfl (by decide +kernel) ⟨Nat.le_of_ble_eq_true rfl, Nat.le_of_ble_eq_true rfl⟩) rfl hl.1 rfl (Nat.le_of_ble_eq_true rfl) dX12_isDayFor_14 (fun r11 w13 H locs hp12 hw => ?_)
  obtain ⟨rfl, hg21⟩ := hp12
  rcases hg21 with ⟨rfl, hq15⟩ | ⟨rfl, c16, hq17⟩ | ⟨rfl, hq18⟩ | ⟨rfl, c19, hq20⟩
  · refine lv_if_ne (tgt := 22) hx hb dX12_isDayFor_17 (by decide) (fun c => absurd (by decide) c) (fun _ => ?_)
    refine lv_iconst (v := 0) hx hb dX12_isDayFor_20 (by decide) ?_
    exact tk_zret hC hr rfl hlocks hK ⟨rfl, (Or.inl ⟨rfl, (by unfold mDay; rw [show (10 * a1.toInt + (3 + a3.toInt % 7) + 10) = 10 * a1.toInt + 1 * x2.toInt + 10 by omega]; simp only [c9]; first | exact ⟨by assumption, by assumption, by assumption⟩ | (rintro ⟨q1, q2, q3⟩; first | exact absurd q1 (by assumption) | exact q2 (by assumption) | exact q3 (by assumption)))⟩)⟩ hw dX12_isDayFor_21
  · refine lv_if_ne (tgt := 22) hx hb dX12_isDayFor_17 (by decide) (fun c => absurd (by decide) c) (fun _ => ?_)
    refine lv_iconst (v := 0) hx hb dX12_isDayFor_20 (by decide) ?_
    exact tk_zret hC hr rfl hlocks hK ⟨rfl, (Or.inr (Or.inl ⟨rfl, c16, (by unfold mDay; rw [show (10 * a1.toInt + (3 + a3.toInt % 7) + 10) = 10 * a1.toInt + 1 * x2.toInt + 10 by omega]; simp only [c9, c16]; first | exact ⟨by assumption, by assumption, by assumption⟩ | (rintro ⟨q1, q2, q3⟩; first | exact absurd q1 (by assumption) | exact q2 (by assumption) | exact q3 (by assumption)))⟩))⟩ hw dX12_isDayFor_21
  · refine lv_if_ne (tgt := 22) hx hb dX12_isDayFor_17 (by decide) (fun _ => ?_) (fun c => absurd c (by decide))
    refine lv_aload_n hx hb dX12_isDayFor_22 rfl (lv_at hl 0 rfl) ?_
    refine lv_aload_n hx hb dX12_isDayFor_23 rfl (lv_at hl 0 rfl) ?_
    refine lv_iload_n hx hb dX12_isDayFor_24 rfl (lv_at hl 1 rfl) ?_
    refine lv_iconst (v := 0) hx hb dX12_isDayFor_25 (by decide) ?_
    refine tk_Vi hC hK hw hT hA hE hSR kM_at0 (by decide) rfl (k_X12_streetOf_2 l adK adV dC dI cy ad B hB0 (Int.le_trans hB1 (by decide)) qr s1   a1 (show 0 ≤ a1.toInt from ra1) (show a1.toInt ≤ 11 from ta1) w0 H.size hT ) (cwV 2 hC.2.2.2.2 uV_RX12_300 rfl rfl rfl (by decide +kernel) ⟨Nat.le_of_ble_eq_true rfl, Nat.le_of_ble_eq_true rfl⟩) rfl hl.1 rfl (Nat.le_of_ble_eq_true rfl) dX12_isDayFor_26 (fun r22 w24 H locs hp23 hw => ?_)
    obtain ⟨rfl, hg29⟩ := hp23
    obtain ⟨g26, g27, c28⟩ := hg29
    refine lv_iload_n hx hb dX12_isDayFor_29 rfl (lv_at hl 3 rfl) ?_
    refine lv_sipush (v := 360) hx hb dX12_isDayFor_30 (by decide) ?_
    refine lv_irem hx hb dX12_isDayFor_33 (by decide) ?_
    refine lv_topi (fun x30 ex30 => ?_)
    have ex30 : x30.toInt = a3.toInt % (360 : Int) := by rw [ex30]; exact wk_rem (show 0 ≤ a3.toInt from ra3) (show 0 < (360 : Int) by decide)
    refine tk_Vi hC hK hw hT hA hE hSR kM_at0 (by decide) rfl (k_X12_isClosed_1 l adK adV dC dI cy ad B hB0 (Int.le_trans hB1 (by decide)) qr s1   r22 (show 0 ≤ r22.toInt by first | with_reducible assumption | omega) (show r22.toInt ≤ 9 by first | with_reducible assumption | omega) x30 (show 0 ≤ x30.toInt by first | with_reducible assumption | omega) (show x30.toInt ≤ 359 by first | with_reducible assumption | omega) w0 H.size hT ) (cwV 2 hC.2.2.2.2 uV_RX12_311 rfl rfl rfl (by decide +kernel) ⟨Nat.le_of_ble_eq_true rfl, Nat.le_of_ble_eq_true rfl⟩) rfl hl.1 rfl (Nat.le_of_ble_eq_true rfl) dX12_isDayFor_34 (fun r31 w33 H locs hp32 hw => ?_)
    obtain ⟨rfl, hg41⟩ := hp32
    rcases hg41 with ⟨rfl, hq35⟩ | ⟨rfl, ⟨x36, c37, rx36, tx36⟩, ⟨x38, c39, rx38, tx38⟩, hq40⟩
    · refine lv_if_ne (tgt := 62) hx hb dX12_isDayFor_37 (by decide) (fun c => absurd (by decide) c) (fun _ => ?_)
      refine lv_aload_n hx hb dX12_isDayFor_40 rfl (lv_at hl 0 rfl) ?_
      refine lv_aload_n hx hb dX12_isDayFor_41 rfl (lv_at hl 0 rfl) ?_
      refine lv_iload_n hx hb dX12_isDayFor_42 rfl (lv_at hl 1 rfl) ?_
      refine lv_iconst (v := 1) hx hb dX12_isDayFor_43 (by decide) ?_
      refine tk_Vi hC hK hw hT hA hE hSR kM_at0 (by decide) rfl (k_X12_streetOf_3 l adK adV dC dI cy ad B hB0 (Int.le_trans hB1 (by decide)) qr s1   a1 (show 0 ≤ a1.toInt from ra1) (show a1.toInt ≤ 11 from ta1) w0 H.size hT ) (cwV 2 hC.2.2.2.2 uV_RX12_300 rfl rfl rfl (by decide +kernel) ⟨Nat.le_of_ble_eq_true rfl, Nat.le_of_ble_eq_true rfl⟩) rfl hl.1 rfl (Nat.le_of_ble_eq_true rfl) dX12_isDayFor_44 (fun r42 w44 H locs hp43 hw => ?_)
      obtain ⟨rfl, hg49⟩ := hp43
      obtain ⟨g46, g47, c48⟩ := hg49
      refine lv_iload_n hx hb dX12_isDayFor_47 rfl (lv_at hl 3 rfl) ?_
      refine lv_sipush (v := 360) hx hb dX12_isDayFor_48 (by decide) ?_
      refine lv_irem hx hb dX12_isDayFor_51 (by decide) ?_
      refine lv_topi (fun x50 ex50 => ?_)
      have ex50 : x50.toInt = a3.toInt % (360 : Int) := by rw [ex50]; exact wk_rem (show 0 ≤ a3.toInt from ra3) (show 0 < (360 : Int) by decide)
      refine tk_Vi hC hK hw hT hA hE hSR kM_at0 (by decide) rfl (k_X12_isClosed_1 l adK adV dC dI cy ad B hB0 (Int.le_trans hB1 (by decide)) qr s1   r42 (show 0 ≤ r42.toInt by first | with_reducible assumption | omega) (show r42.toInt ≤ 9 by first | with_reducible assumption | omega) x50 (show 0 ≤ x50.toInt by first | with_reducible assumption | omega) (show x50.toInt ≤ 359 by first | with_reducible assumption | omega) w0 H.size hT ) (cwV 2 hC.2.2.2.2 uV_RX12_311 rfl rfl rfl (by decide +kernel) ⟨Nat.le_of_ble_eq_true rfl, Nat.le_of_ble_eq_true rfl⟩) rfl hl.1 rfl (Nat.le_of_ble_eq_true rfl) dX12_isDayFor_52 (fun r51 w53 H locs hp52 hw => ?_)
      obtain ⟨rfl, hg61⟩ := hp52
      rcases hg61 with ⟨rfl, hq55⟩ | ⟨rfl, ⟨x56, c57, rx56, tx56⟩, ⟨x58, c59, rx58, tx58⟩, hq60⟩
      · refine lv_if_ne (tgt := 62) hx hb dX12_isDayFor_55 (by decide) (fun c => absurd (by decide) c) (fun _ => ?_)
        refine lv_iconst (v := 1) hx hb dX12_isDayFor_58 (by decide) ?_
        refine lv_goto (tgt := 63) hx hb dX12_isDayFor_59 (by decide) ?_
        exact tk_zret hC hr rfl hlocks hK ⟨rfl, (Or.inr (Or.inr (Or.inl ⟨rfl, (by have hq35 := hq35; rw [show x30.toInt = a3.toInt % 360 by omega] at hq35; have hq55 := hq55; rw [show x50.toInt = a3.toInt % 360 by omega] at hq55; unfold mDay; rw [show (10 * a1.toInt + (3 + a3.toInt % 7) + 10) = 10 * a1.toInt + 1 * x2.toInt + 10 by omega]; simp only [c9, c28, c48]; first | exact ⟨by assumption, by assumption, by assumption⟩ | (rintro ⟨q1, q2, q3⟩; first | exact absurd q1 (by assumption) | exact q2 (by assumption) | exact q3 (by assumption)))⟩)))⟩ hw dX12_isDayFor_63
      · refine lv_if_ne (tgt := 62) hx hb dX12_isDayFor_55 (by decide) (fun _ => ?_) (fun c => absurd c (by decide))
        refine lv_iconst (v := 0) hx hb dX12_isDayFor_62 (by decide) ?_
        exact tk_zret hC hr rfl hlocks hK ⟨rfl, (Or.inl ⟨rfl, (by have hq35 := hq35; rw [show x30.toInt = a3.toInt % 360 by omega] at hq35; have hq60 := hq60; rw [show x50.toInt = a3.toInt % 360 by omega] at hq60; unfold mDay; rw [show (10 * a1.toInt + (3 + a3.toInt % 7) + 10) = 10 * a1.toInt + 1 * x2.toInt + 10 by omega]; simp only [c9, c28, c48, c57, c59]; first | exact ⟨by assumption, by assumption, by assumption⟩ | (rintro ⟨q1, q2, q3⟩; first | exact absurd q1 (by assumption) | exact q2 (by assumption) | exact q3 (by assumption)))⟩)⟩ hw dX12_isDayFor_63
    · refine lv_if_ne (tgt := 62) hx hb dX12_isDayFor_37 (by decide) (fun _ => ?_) (fun c => absurd c (by decide))
      refine lv_iconst (v := 0) hx hb dX12_isDayFor_62 (by decide) ?_
      exact tk_zret hC hr rfl hlocks hK ⟨rfl, (Or.inl ⟨rfl, (by have hq40 := hq40; rw [show x30.toInt = a3.toInt % 360 by omega] at hq40; unfold mDay; rw [show (10 * a1.toInt + (3 + a3.toInt % 7) + 10) = 10 * a1.toInt + 1 * x2.toInt + 10 by omega]; simp only [c9, c28, c37, c39]; first | exact ⟨by assumption, by assumption, by assumption⟩ | (rintro ⟨q1, q2, q3⟩; first | exact absurd q1 (by assumption) | exact q2 (by assumption) | exact q3 (by assumption)))⟩)⟩ hw dX12_isDayFor_63
  · refine lv_if_ne (tgt := 22) hx hb dX12_isDayFor_17 (by decide) (fun _ => ?_) (fun c => absurd c (by decide))
    refine lv_aload_n hx hb dX12_isDayFor_22 rfl (lv_at hl 0 rfl) ?_
    refine lv_aload_n hx hb dX12_isDayFor_23 rfl (lv_at hl 0 rfl) ?_
    refine lv_iload_n hx hb dX12_isDayFor_24 rfl (lv_at hl 1 rfl) ?_
    refine lv_iconst (v := 0) hx hb dX12_isDayFor_25 (by decide) ?_
    refine tk_Vi hC hK hw hT hA hE hSR kM_at0 (by decide) rfl (k_X12_streetOf_2 l adK adV dC dI cy ad B hB0 (Int.le_trans hB1 (by decide)) qr s1   a1 (show 0 ≤ a1.toInt from ra1) (show a1.toInt ≤ 11 from ta1) w0 H.size hT ) (cwV 2 hC.2.2.2.2 uV_RX12_300 rfl rfl rfl (by decide +kernel) ⟨Nat.le_of_ble_eq_true rfl, Nat.le_of_ble_eq_true rfl⟩) rfl hl.1 rfl (Nat.le_of_ble_eq_true rfl) dX12_isDayFor_26 (fun r62 w64 H locs hp63 hw => ?_)
    obtain ⟨rfl, hg69⟩ := hp63
    obtain ⟨g66, g67, c68⟩ := hg69
    obtain rfl : a2 = r62 := c19.symm.trans c68
    refine lv_iload_n hx hb dX12_isDayFor_29 rfl (lv_at hl 3 rfl) ?_
    refine lv_sipush (v := 360) hx hb dX12_isDayFor_30 (by decide) ?_
    refine lv_irem hx hb dX12_isDayFor_33 (by decide) ?_
    refine lv_topi (fun x70 ex70 => ?_)
    have ex70 : x70.toInt = a3.toInt % (360 : Int) := by rw [ex70]; exact wk_rem (show 0 ≤ a3.toInt from ra3) (show 0 < (360 : Int) by decide)
    refine tk_Vi hC hK hw hT hA hE hSR kM_at0 (by decide) rfl (k_X12_isClosed_1 l adK adV dC dI cy ad B hB0 (Int.le_trans hB1 (by decide)) qr s1   a2 (show 0 ≤ a2.toInt from ra2) (show a2.toInt ≤ 9 from ta2) x70 (show 0 ≤ x70.toInt by first | with_reducible assumption | omega) (show x70.toInt ≤ 359 by first | with_reducible assumption | omega) w0 H.size hT ) (cwV 2 hC.2.2.2.2 uV_RX12_311 rfl rfl rfl (by decide +kernel) ⟨Nat.le_of_ble_eq_true rfl, Nat.le_of_ble_eq_true rfl⟩) rfl hl.1 rfl (Nat.le_of_ble_eq_true rfl) dX12_isDayFor_34 (fun r71 w73 H locs hp72 hw => ?_)
    obtain ⟨rfl, hg81⟩ := hp72
    rcases hg81 with ⟨rfl, hq75⟩ | ⟨rfl, ⟨x76, c77, rx76, tx76⟩, ⟨x78, c79, rx78, tx78⟩, hq80⟩
    · refine lv_if_ne (tgt := 62) hx hb dX12_isDayFor_37 (by decide) (fun c => absurd (by decide) c) (fun _ => ?_)
      refine lv_aload_n hx hb dX12_isDayFor_40 rfl (lv_at hl 0 rfl) ?_
      refine lv_aload_n hx hb dX12_isDayFor_41 rfl (lv_at hl 0 rfl) ?_
      refine lv_iload_n hx hb dX12_isDayFor_42 rfl (lv_at hl 1 rfl) ?_
      refine lv_iconst (v := 1) hx hb dX12_isDayFor_43 (by decide) ?_
      refine tk_Vi hC hK hw hT hA hE hSR kM_at0 (by decide) rfl (k_X12_streetOf_3 l adK adV dC dI cy ad B hB0 (Int.le_trans hB1 (by decide)) qr s1   a1 (show 0 ≤ a1.toInt from ra1) (show a1.toInt ≤ 11 from ta1) w0 H.size hT ) (cwV 2 hC.2.2.2.2 uV_RX12_300 rfl rfl rfl (by decide +kernel) ⟨Nat.le_of_ble_eq_true rfl, Nat.le_of_ble_eq_true rfl⟩) rfl hl.1 rfl (Nat.le_of_ble_eq_true rfl) dX12_isDayFor_44 (fun r82 w84 H locs hp83 hw => ?_)
      obtain ⟨rfl, hg89⟩ := hp83
      obtain ⟨g86, g87, c88⟩ := hg89
      refine lv_iload_n hx hb dX12_isDayFor_47 rfl (lv_at hl 3 rfl) ?_
      refine lv_sipush (v := 360) hx hb dX12_isDayFor_48 (by decide) ?_
      refine lv_irem hx hb dX12_isDayFor_51 (by decide) ?_
      refine lv_topi (fun x90 ex90 => ?_)
      have ex90 : x90.toInt = a3.toInt % (360 : Int) := by rw [ex90]; exact wk_rem (show 0 ≤ a3.toInt from ra3) (show 0 < (360 : Int) by decide)
      refine tk_Vi hC hK hw hT hA hE hSR kM_at0 (by decide) rfl (k_X12_isClosed_1 l adK adV dC dI cy ad B hB0 (Int.le_trans hB1 (by decide)) qr s1   r82 (show 0 ≤ r82.toInt by first | with_reducible assumption | omega) (show r82.toInt ≤ 9 by first | with_reducible assumption | omega) x90 (show 0 ≤ x90.toInt by first | with_reducible assumption | omega) (show x90.toInt ≤ 359 by first | with_reducible assumption | omega) w0 H.size hT ) (cwV 2 hC.2.2.2.2 uV_RX12_311 rfl rfl rfl (by decide +kernel) ⟨Nat.le_of_ble_eq_true rfl, Nat.le_of_ble_eq_true rfl⟩) rfl hl.1 rfl (Nat.le_of_ble_eq_true rfl) dX12_isDayFor_52 (fun r91 w93 H locs hp92 hw => ?_)
      obtain ⟨rfl, hg101⟩ := hp92
      rcases hg101 with ⟨rfl, hq95⟩ | ⟨rfl, ⟨x96, c97, rx96, tx96⟩, ⟨x98, c99, rx98, tx98⟩, hq100⟩
      · refine lv_if_ne (tgt := 62) hx hb dX12_isDayFor_55 (by decide) (fun c => absurd (by decide) c) (fun _ => ?_)
        refine lv_iconst (v := 1) hx hb dX12_isDayFor_58 (by decide) ?_
        refine lv_goto (tgt := 63) hx hb dX12_isDayFor_59 (by decide) ?_
        exact tk_zret hC hr rfl hlocks hK ⟨rfl, (Or.inr (Or.inr (Or.inr ⟨rfl, c19, (by have hq75 := hq75; rw [show x70.toInt = a3.toInt % 360 by omega] at hq75; have hq95 := hq95; rw [show x90.toInt = a3.toInt % 360 by omega] at hq95; unfold mDay; rw [show (10 * a1.toInt + (3 + a3.toInt % 7) + 10) = 10 * a1.toInt + 1 * x2.toInt + 10 by omega]; simp only [c9, c19, c88]; first | exact ⟨by assumption, by assumption, by assumption⟩ | (rintro ⟨q1, q2, q3⟩; first | exact absurd q1 (by assumption) | exact q2 (by assumption) | exact q3 (by assumption)))⟩)))⟩ hw dX12_isDayFor_63
      · refine lv_if_ne (tgt := 62) hx hb dX12_isDayFor_55 (by decide) (fun _ => ?_) (fun c => absurd c (by decide))
        refine lv_iconst (v := 0) hx hb dX12_isDayFor_62 (by decide) ?_
        exact tk_zret hC hr rfl hlocks hK ⟨rfl, (Or.inr (Or.inl ⟨rfl, c19, (by have hq75 := hq75; rw [show x70.toInt = a3.toInt % 360 by omega] at hq75; have hq100 := hq100; rw [show x90.toInt = a3.toInt % 360 by omega] at hq100; unfold mDay; rw [show (10 * a1.toInt + (3 + a3.toInt % 7) + 10) = 10 * a1.toInt + 1 * x2.toInt + 10 by omega]; simp only [c9, c19, c88, c97, c99]; first | exact ⟨by assumption, by assumption, by assumption⟩ | (rintro ⟨q1, q2, q3⟩; first | exact absurd q1 (by assumption) | exact q2 (by assumption) | exact q3 (by assumption)))⟩))⟩ hw dX12_isDayFor_63
    · refine lv_if_ne (tgt := 62) hx hb dX12_isDayFor_37 (by decide) (fun _ => ?_) (fun c => absurd c (by decide))
      refine lv_iconst (v := 0) hx hb dX12_isDayFor_62 (by decide) ?_
      exact tk_zret hC hr rfl hlocks hK ⟨rfl, (Or.inr (Or.inl ⟨rfl, c19, (by have hq80 := hq80; rw [show x70.toInt = a3.toInt % 360 by omega] at hq80; unfold mDay; rw [show (10 * a1.toInt + (3 + a3.toInt % 7) + 10) = 10 * a1.toInt + 1 * x2.toInt + 10 by omega]; simp only [c9, c19, c77, c79]; first | exact ⟨by assumption, by assumption, by assumption⟩ | (rintro ⟨q1, q2, q3⟩; first | exact absurd q1 (by assumption) | exact q2 (by assumption) | exact q3 (by assumption)))⟩))⟩ hw dX12_isDayFor_63
abbrev P_X12_isLifted_2 (ad : Nat → Nat) (cy : Nat → ClassId) (B : Int) (qr : Nat) (s1 : Int) (a1 : Int32) (a2 : Int32) (w0 : va_W) : Int32 → va_W → Prop := fun r u => w0 = u ∧ ((r = 0 ∧ (¬ mLf w0 a1.toInt a2.toInt)) ∨ (r = 1 ∧ (∃ y : Int32, gi u 12 3 = y ∧ 1 ≤ y.toInt ∧ y.toInt ≤ 4) ∧ (mLf w0 a1.toInt a2.toInt)))
set_option maxHeartbeats 4000000 in
set_option maxRecDepth 100000 in
theorem k_X12_isLifted_2 (l : Launch) (adK adV : Nat → Nat) (dC : Nat → ClassId) (dI : Nat → Nat → Nat) (cy : Nat → ClassId) (ad : Nat → Nat) (B : Int) (hB0 : 100000 ≤ B) (hB1 : B ≤ 1073741824) (qr : Nat) (s1 : Int)  (a1 : Int32) (ra1 : 0 ≤ a1.toInt) (ta1 : a1.toInt ≤ 11) (a2 : Int32) (ra2 : 0 ≤ a2.toInt) (ta2 : a2.toInt ≤ 1073741824) (w0 : va_W) (sz : Nat) (hT : TW ksM ad cy B qr 12 w0)  : Met l yX12_isLifted (wu yX12_isLifted cX12_isLifted 5 (some .boolean)) ({ frames := 1, cells := 0, slots := 0, locals := 12 }) (va_Pc [.ref (ad 0), .int a1, .int a2] (wpreS adK adV dC dI cy sz w0)) (va_Qi (P_X12_isLifted_2 ad cy B qr s1 a1 a2 w0) (fun u : va_W => wpost dC dI cy (va_A w0 sz) u) (va_A w0 sz)) 0 0 (va_A w0 sz) := by
  refine Met.ofW (cc := cX12_isLifted) (maxL := 5) (ret := (some .boolean)) (by decide) rfl ?_
  intro p e s m args below meth c s₁ Bk hml hv
  obtain ⟨rfl, ⟨hsz, hP, hK, hD0⟩, hE, hSR⟩ := hv
  have hx := Bk.exec
  have hb := Bk.bytes
  have hr := Bk.returns
  have hlocks := Bk.notSynchronized
  have hC : CallFix p m c cX12_isLifted 5 s _ (wu yX12_isLifted cX12_isLifted 5 (some .boolean)) RX12 := ⟨hx, hb, hml, findClass_of_methodNamed Bk.named, atoms_spec (ws := (wu yX12_isLifted cX12_isLifted 5 (some .boolean))) Bk.pre⟩
  subst hsz
  have hD := hD0.self (sz := s.heap.size)
  generalize hAe : va_A w0 s.heap.size = A at hD hE ⊢
  have hA : ∀ q : Nat, s.heap.size ≤ q → A q := fun q h => by rw [← hAe]; exact Or.inr h
  have hw : Wd dC dI A s.heap s.heap [] w0 := ⟨hP, hD, va_S.rf⟩
  have hF : FE ksM ([] : List (Nat × Nat × Nat)) w0 w0 := FE.rf
  have hl := lv_entry ([.ref (ad 0), .int a1, .int a2]) (n := 5) (Nat.le_of_ble_eq_true rfl)
  rw [lg_entry_eq]
  generalize (lg_sl ([.ref (ad 0), .int a1, .int a2]) ++ List.replicate (5 - (lg_sl ([.ref (ad 0), .int a1, .int a2])).length) Slot.unset).toArray = ls at hl ⊢
  have hl : lv_has ls 5 [(0, .ref (ad 0)), (1, .int a1), (2, .int a2)] := hl
  generalize hloc : ([] : List Loc) = locs at hw ⊢
  have hinX12 : ∀ w ∈ u_ws RX12 TX12 42, w ∈ (wu yX12_isLifted cX12_isLifted 5 (some .boolean)) := fun _ h => List.mem_cons_of_mem _ (up_71 h)
  have L2 : ∀ (n2 : Nat) (v2_3 : Int32) (H : Heap) (locs : List Loc) (ls : Array Slot), 0 ≤ a1.toInt → a1.toInt ≤ 11 → 0 ≤ a2.toInt → a2.toInt ≤ 1073741824 → 0 ≤ v2_3.toInt → v2_3.toInt ≤ 4 → (∀ k : Int, 0 ≤ k → k < v2_3.toInt → ¬ mLf1 w0 k a1.toInt a2.toInt) → (4 - v2_3.toInt).toNat < n2 → Wd dC dI A s.heap H locs w0 → lv_has ls 5 [(0, .ref (ad 0)), (1, .int a1), (2, .int a2), (3, .int v2_3)] → W p l e ({ frames := 1, cells := 0, slots := 0, locals := 12 }) s m (List.toArray [.ref (ad 0), .int a1, .int a2]) below meth c H locs 0 0 (MQ below (va_Qi (P_X12_isLifted_2 ad cy B qr s1 a1 a2 w0) (fun u : va_W => wpost dC dI cy A u) A) (List.toArray [.ref (ad 0), .int a1, .int a2]) s 0 0 A) (F0 m 2 ls []) := by
    intro n2
    induction n2 with
    | zero => intro v2_3 H locs ls r1 t2 r3 t4 r5 t6 hcr2_0 hm2 hw hl; omega
    | succ n2 ih2 =>
      intro v2_3 H locs ls r1 t2 r3 t4 r5 t6 hcr2_0 hm2 hw hl
      refine lv_iload_n hx hb dX12_isLifted_2 rfl (lv_at hl 3 rfl) ?_
      refine lv_aload_n hx hb dX12_isLifted_3 rfl (lv_at hl 0 rfl) ?_
      refine tk_getA hC hK hw hT hinX12 kM_at0 (by decide) rfl 26 (by decide) (List.mem_cons_of_mem _ uw_7_1) rfl rfl dX12_isLifted_4 ?_
      refine lv_iconst (v := 3) hx hb dX12_isLifted_7 (by decide) ?_
      refine tk_ialdR hC hK hw hT kM_at12 rfl (by decide) (by decide) dX12_isLifted_8 (fun x7 c8 Ex7 => ?_)
      have bx7 := tk_rgI rfl 3 1 1 0 4 (by decide +kernel) ⟨0, by decide, by decide⟩ Ex7
      have c8 : gi w0 12 3 = x7 := c8
      refine lv_icmp_ge (tgt := 72) hx hb dX12_isLifted_9 (by decide) (fun c9 => ?_) (fun c9 => ?_)
      · have c9 : x7.toInt ≤ v2_3.toInt := wk_le.mp c9
        refine lv_iconst (v := 0) hx hb dX12_isLifted_72 (by decide) ?_
        exact tk_zret hC hr rfl hlocks hK ⟨rfl, (Or.inl ⟨rfl, (by exact mLf_no hcr2_0 (by simp only [c8]; omega))⟩)⟩ hw dX12_isLifted_73
      · have c9 : v2_3.toInt < x7.toInt := wk_leF c9
        refine lv_sipush (v := 156) hx hb dX12_isLifted_12 (by decide) ?_
        refine lv_iconst (v := 3) hx hb dX12_isLifted_15 (by decide) ?_
        refine lv_iload_n hx hb dX12_isLifted_16 rfl (lv_at hl 3 rfl) ?_
        refine lv_imul hx hb dX12_isLifted_17 ?_
        refine lv_topi (fun x10 ex10 => ?_)
        have ex10 : x10.toInt = (3 : Int) * v2_3.toInt := by rw [ex10]; exact wk_mul (show (-2147483648) ≤ (3 : Int) * v2_3.toInt by omega) (show (3 : Int) * v2_3.toInt ≤ 2147483647 by omega)
        refine lv_iadd hx hb dX12_isLifted_18 ?_
        refine lv_topi (fun x11 ex11 => ?_)
        have ex11 : x11.toInt = (156 : Int) + x10.toInt := by rw [ex11]; exact wk_add (show (-2147483648) ≤ (156 : Int) + x10.toInt by omega) (show (156 : Int) + x10.toInt ≤ 2147483647 by omega)
        refine lv_istore (lv' := [(4, .int x11), (0, .ref (ad 0)), (1, .int a1), (2, .int a2), (3, .int v2_3)]) hx hb dX12_isLifted_19 hl (by decide) rfl (fun ls hl => ?_)
        refine lv_aload_n hx hb dX12_isLifted_21 rfl (lv_at hl 1 rfl) ?_
        refine tk_getA hC hK hw hT hinX12 kM_at0 (by decide) rfl 26 (by decide) (List.mem_cons_of_mem _ uw_7_1) rfl rfl dX12_isLifted_22 ?_
        refine lv_iload hx hb dX12_isLifted_25 (lv_at hl 0 rfl) ?_
        refine tk_ialdR hC hK hw hT kM_at12 rfl (show 0 ≤ x11.toInt by first | with_reducible assumption | omega) (show x11.toInt < 296 by first | with_reducible assumption | omega) dX12_isLifted_27 (fun x12 c13 Ex12 => ?_)
        have c13 : gi w0 12 (3 * v2_3.toInt + 156).toNat = x12 := (congrArg (gi w0 12) (congrArg Int.toNat (show 3 * v2_3.toInt + 156 = x11.toInt by first | exact Int.le_antisymm (by omega) (by omega) | omega))).trans c13
        refine lv_iload_n hx hb dX12_isLifted_28 rfl (lv_at hl 2 rfl) ?_
        refine lv_icmp_ne (tgt := 66) hx hb dX12_isLifted_29 (by decide) (fun c14 => ?_) (fun c14 => ?_)
        · have c14 : ¬ x12.toInt = a1.toInt := wk_eqF c14
          obtain ⟨x15, ex15⟩ : ∃ y : Int32, y = v2_3 + Int32.ofInt 1 := ⟨_, rfl⟩
          refine lv_iinc (v := x15) (lv' := [(3, .int x15), (4, .int x11), (0, .ref (ad 0)), (1, .int a1), (2, .int a2)]) hx hb dX12_isLifted_66 hl (k := 4) rfl ex15.symm (by decide) rfl (fun ls hl => ?_)
          have ex15 : x15.toInt = v2_3.toInt + 1 := by rw [ex15]; exact wk_add (y := 1) (show -2147483648 ≤ v2_3.toInt + 1 by omega) (show v2_3.toInt + 1 ≤ 2147483647 by omega)
          refine lv_goto (tgt := 2) hx hb dX12_isLifted_69 (by decide) ?_
          exact ih2 x15 H locs ls  (show 0 ≤ a1.toInt from r1) (show a1.toInt ≤ 11 from t2) (show 0 ≤ a2.toInt from r3) (show a2.toInt ≤ 1073741824 from t4) (show 0 ≤ x15.toInt by first | with_reducible assumption | omega) (show x15.toInt ≤ 4 by first | with_reducible assumption | omega) (show ∀ k : Int, 0 ≤ k → k < x15.toInt → ¬ mLf1 w0 k a1.toInt a2.toInt from all_step hcr2_0 (show ¬ mLf1 w0 v2_3.toInt a1.toInt a2.toInt by unfold mLf1; simp only [c8, c13]; omega) (by omega)) (show (4 - x15.toInt).toNat < n2 by first | exact tn_lt hm2 (by omega) (by omega) | omega) hw   (lv_sub hl [2, 3, 4, 0] rfl)
        · have c14 : x12.toInt = a1.toInt := wk_eq.mp c14
          refine lv_iload_n hx hb dX12_isLifted_32 rfl (lv_at hl 3 rfl) ?_
          refine lv_bipush (v := 24) hx hb dX12_isLifted_33 (by decide) ?_
          refine lv_irem hx hb dX12_isLifted_35 (by decide) ?_
          refine lv_topi (fun x16 ex16 => ?_)
          have ex16 : x16.toInt = a2.toInt % (24 : Int) := by rw [ex16]; exact wk_rem (show 0 ≤ a2.toInt from r3) (show 0 < (24 : Int) by decide)
          refine lv_aload_n hx hb dX12_isLifted_36 rfl (lv_at hl 1 rfl) ?_
          refine tk_getA hC hK hw hT hinX12 kM_at0 (by decide) rfl 26 (by decide) (List.mem_cons_of_mem _ uw_7_1) rfl rfl dX12_isLifted_37 ?_
          refine lv_iload hx hb dX12_isLifted_40 (lv_at hl 0 rfl) ?_
          refine lv_iconst (v := 1) hx hb dX12_isLifted_42 (by decide) ?_
          refine lv_iadd hx hb dX12_isLifted_43 ?_
          refine lv_topi (fun x17 ex17 => ?_)
          have ex17 : x17.toInt = x11.toInt + (1 : Int) := by rw [ex17]; exact wk_add (show (-2147483648) ≤ x11.toInt + (1 : Int) by omega) (show x11.toInt + (1 : Int) ≤ 2147483647 by omega)
          refine tk_ialdR hC hK hw hT kM_at12 rfl (show 0 ≤ x17.toInt by first | with_reducible assumption | omega) (show x17.toInt < 296 by first | with_reducible assumption | omega) dX12_isLifted_44 (fun x18 c19 Ex18 => ?_)
          have c19 : gi w0 12 (3 * v2_3.toInt + 157).toNat = x18 := (congrArg (gi w0 12) (congrArg Int.toNat (show 3 * v2_3.toInt + 157 = x17.toInt by first | exact Int.le_antisymm (by omega) (by omega) | omega))).trans c19
          refine lv_icmp_lt (tgt := 66) hx hb dX12_isLifted_45 (by decide) (fun c20 => ?_) (fun c20 => ?_)
          · have c20 : x16.toInt < x18.toInt := wk_lt.mp c20
            obtain ⟨x21, ex21⟩ : ∃ y : Int32, y = v2_3 + Int32.ofInt 1 := ⟨_, rfl⟩
            refine lv_iinc (v := x21) (lv' := [(3, .int x21), (4, .int x11), (0, .ref (ad 0)), (1, .int a1), (2, .int a2)]) hx hb dX12_isLifted_66 hl (k := 4) rfl ex21.symm (by decide) rfl (fun ls hl => ?_)
            have ex21 : x21.toInt = v2_3.toInt + 1 := by rw [ex21]; exact wk_add (y := 1) (show -2147483648 ≤ v2_3.toInt + 1 by omega) (show v2_3.toInt + 1 ≤ 2147483647 by omega)
            refine lv_goto (tgt := 2) hx hb dX12_isLifted_69 (by decide) ?_
            exact ih2 x21 H locs ls  (show 0 ≤ a1.toInt from r1) (show a1.toInt ≤ 11 from t2) (show 0 ≤ a2.toInt from r3) (show a2.toInt ≤ 1073741824 from t4) (show 0 ≤ x21.toInt by first | with_reducible assumption | omega) (show x21.toInt ≤ 4 by first | with_reducible assumption | omega) (show ∀ k : Int, 0 ≤ k → k < x21.toInt → ¬ mLf1 w0 k a1.toInt a2.toInt from all_step hcr2_0 (show ¬ mLf1 w0 v2_3.toInt a1.toInt a2.toInt by unfold mLf1; simp only [c8, c13, c19]; omega) (by omega)) (show (4 - x21.toInt).toNat < n2 by first | exact tn_lt hm2 (by omega) (by omega) | omega) hw   (lv_sub hl [2, 3, 4, 0] rfl)
          · have c20 : x18.toInt ≤ x16.toInt := wk_ltF c20
            refine lv_iload_n hx hb dX12_isLifted_48 rfl (lv_at hl 3 rfl) ?_
            refine lv_bipush (v := 24) hx hb dX12_isLifted_49 (by decide) ?_
            refine lv_irem hx hb dX12_isLifted_51 (by decide) ?_
            refine lv_topi (fun x22 ex22 => ?_)
            have ex22 : x22.toInt = a2.toInt % (24 : Int) := by rw [ex22]; exact wk_rem (show 0 ≤ a2.toInt from r3) (show 0 < (24 : Int) by decide)
            refine lv_aload_n hx hb dX12_isLifted_52 rfl (lv_at hl 1 rfl) ?_
            refine tk_getA hC hK hw hT hinX12 kM_at0 (by decide) rfl 26 (by decide) (List.mem_cons_of_mem _ uw_7_1) rfl rfl dX12_isLifted_53 ?_
            refine lv_iload hx hb dX12_isLifted_56 (lv_at hl 0 rfl) ?_
            refine lv_iconst (v := 2) hx hb dX12_isLifted_58 (by decide) ?_
            refine lv_iadd hx hb dX12_isLifted_59 ?_
            refine lv_topi (fun x23 ex23 => ?_)
            have ex23 : x23.toInt = x11.toInt + (2 : Int) := by rw [ex23]; exact wk_add (show (-2147483648) ≤ x11.toInt + (2 : Int) by omega) (show x11.toInt + (2 : Int) ≤ 2147483647 by omega)
            refine tk_ialdR hC hK hw hT kM_at12 rfl (show 0 ≤ x23.toInt by first | with_reducible assumption | omega) (show x23.toInt < 296 by first | with_reducible assumption | omega) dX12_isLifted_60 (fun x24 c25 Ex24 => ?_)
            have c25 : gi w0 12 (3 * v2_3.toInt + 158).toNat = x24 := (congrArg (gi w0 12) (congrArg Int.toNat (show 3 * v2_3.toInt + 158 = x23.toInt by first | exact Int.le_antisymm (by omega) (by omega) | omega))).trans c25
            refine lv_icmp_ge (tgt := 66) hx hb dX12_isLifted_61 (by decide) (fun c26 => ?_) (fun c26 => ?_)
            · have c26 : x24.toInt ≤ x22.toInt := wk_le.mp c26
              obtain ⟨x27, ex27⟩ : ∃ y : Int32, y = v2_3 + Int32.ofInt 1 := ⟨_, rfl⟩
              refine lv_iinc (v := x27) (lv' := [(3, .int x27), (4, .int x11), (0, .ref (ad 0)), (1, .int a1), (2, .int a2)]) hx hb dX12_isLifted_66 hl (k := 4) rfl ex27.symm (by decide) rfl (fun ls hl => ?_)
              have ex27 : x27.toInt = v2_3.toInt + 1 := by rw [ex27]; exact wk_add (y := 1) (show -2147483648 ≤ v2_3.toInt + 1 by omega) (show v2_3.toInt + 1 ≤ 2147483647 by omega)
              refine lv_goto (tgt := 2) hx hb dX12_isLifted_69 (by decide) ?_
              exact ih2 x27 H locs ls  (show 0 ≤ a1.toInt from r1) (show a1.toInt ≤ 11 from t2) (show 0 ≤ a2.toInt from r3) (show a2.toInt ≤ 1073741824 from t4) (show 0 ≤ x27.toInt by first | with_reducible assumption | omega) (show x27.toInt ≤ 4 by first | with_reducible assumption | omega) (show ∀ k : Int, 0 ≤ k → k < x27.toInt → ¬ mLf1 w0 k a1.toInt a2.toInt from all_step hcr2_0 (show ¬ mLf1 w0 v2_3.toInt a1.toInt a2.toInt by unfold mLf1; simp only [c8, c13, c19, c25]; omega) (by omega)) (show (4 - x27.toInt).toNat < n2 by first | exact tn_lt hm2 (by omega) (by omega) | omega) hw   (lv_sub hl [2, 3, 4, 0] rfl)
            · have c26 : x22.toInt < x24.toInt := wk_leF c26
              refine lv_iconst (v := 1) hx hb dX12_isLifted_64 (by decide) ?_
              exact tk_zret hC hr rfl hlocks hK ⟨rfl, (Or.inr ⟨rfl, ⟨x7, c8, (show 1 ≤ x7.toInt by first | with_reducible assumption | omega), (show x7.toInt ≤ 4 by first | with_reducible assumption | omega)⟩, (by exact ⟨v2_3.toInt, by omega, by simp only [c8, c13, c19, c25]; omega, by unfold mLf1; simp only [c8, c13, c19, c25]; omega⟩)⟩)⟩ hw dX12_isLifted_65
  refine lv_iconst (v := 0) hx hb dX12_isLifted_0 (by decide) ?_
  refine lv_istore_n (lv' := [(3, .int 0), (0, .ref (ad 0)), (1, .int a1), (2, .int a2)]) hx hb dX12_isLifted_1 rfl hl (by decide) rfl (fun ls hl => ?_)
  exact L2 ((4 - (0 : Int)).toNat + 1) 0 s.heap locs ls  (show 0 ≤ a1.toInt from ra1) (show a1.toInt ≤ 11 from ta1) (show 0 ≤ a2.toInt from ra2) (show a2.toInt ≤ 1073741824 from ta2) (by decide) (by decide) (show ∀ k : Int, 0 ≤ k → k < (0 : Int) → ¬ mLf1 w0 k a1.toInt a2.toInt from all_none) (Nat.lt_succ_self _) hw   (lv_sub hl [1, 2, 3, 0] rfl)
abbrev P_X12_isOpen_2 (ad : Nat → Nat) (cy : Nat → ClassId) (B : Int) (qr : Nat) (s1 : Int) (a1 : Int32) (a2 : Int32) (a3 : Int32) (w0 : va_W) : Int32 → va_W → Prop := fun r u => w0 = u ∧ ((r = 0 ∧ (¬ mOpen w0 a1.toInt a2.toInt a3.toInt)) ∨ (r = 0 ∧ gi u 12 (10 * a1.toInt + 10).toNat = a2 ∧ gi u 12 (10 * a1.toInt + 11).toNat = a2 ∧ (¬ mOpen w0 a1.toInt a2.toInt a3.toInt)) ∨ (r = 0 ∧ gi u 12 (10 * a1.toInt + 10).toNat = a2 ∧ (¬ mOpen w0 a1.toInt a2.toInt a3.toInt)) ∨ (r = 0 ∧ gi u 12 (10 * a1.toInt + 11).toNat = a2 ∧ (¬ mOpen w0 a1.toInt a2.toInt a3.toInt)) ∨ (r = 1 ∧ gi u 12 (10 * a1.toInt + 10).toNat = a2 ∧ gi u 12 (10 * a1.toInt + 11).toNat = a2 ∧ (mOpen w0 a1.toInt a2.toInt a3.toInt)) ∨ (r = 1 ∧ gi u 12 (10 * a1.toInt + 10).toNat = a2 ∧ (mOpen w0 a1.toInt a2.toInt a3.toInt)) ∨ (r = 1 ∧ gi u 12 (10 * a1.toInt + 11).toNat = a2 ∧ (mOpen w0 a1.toInt a2.toInt a3.toInt)))
set_option maxHeartbeats 4000000 in
set_option maxRecDepth 100000 in
theorem k_X12_isOpen_2 (l : Launch) (adK adV : Nat → Nat) (dC : Nat → ClassId) (dI : Nat → Nat → Nat) (cy : Nat → ClassId) (ad : Nat → Nat) (B : Int) (hB0 : 100000 ≤ B) (hB1 : B ≤ 1073741824) (qr : Nat) (s1 : Int)  (a1 : Int32) (ra1 : 0 ≤ a1.toInt) (ta1 : a1.toInt ≤ 11) (a2 : Int32) (ra2 : 0 ≤ a2.toInt) (ta2 : a2.toInt ≤ 9) (a3 : Int32) (ra3 : 0 ≤ a3.toInt) (ta3 : a3.toInt ≤ 1073741824) (w0 : va_W) (sz : Nat) (hT : TW ksM ad cy B qr 12 w0)  : Met l yX12_isOpen (wu yX12_isOpen cX12_isOpen 4 (some .boolean)) ({ frames := 4, cells := 0, slots := 0, locals := 80 }) (va_Pc [.ref (ad 0), .int a1, .int a2, .int a3] (wpreS adK adV dC dI cy sz w0)) (va_Qi (P_X12_isOpen_2 ad cy B qr s1 a1 a2 a3 w0) (fun u : va_W => wpost dC dI cy (va_A w0 sz) u) (va_A w0 sz)) 0 0 (va_A w0 sz) := by
  refine Met.ofW (cc := cX12_isOpen) (maxL := 4) (ret := (some .boolean)) (by decide) rfl ?_
  intro p e s m args below meth c s₁ Bk hml hv
  obtain ⟨rfl, ⟨hsz, hP, hK, hD0⟩, hE, hSR⟩ := hv
  have hx := Bk.exec
  have hb := Bk.bytes
  have hr := Bk.returns
  have hlocks := Bk.notSynchronized
  have hC : CallFix p m c cX12_isOpen 4 s _ (wu yX12_isOpen cX12_isOpen 4 (some .boolean)) RX12 := ⟨hx, hb, hml, findClass_of_methodNamed Bk.named, atoms_spec (ws := (wu yX12_isOpen cX12_isOpen 4 (some .boolean))) Bk.pre⟩
  subst hsz
  have hD := hD0.self (sz := s.heap.size)
  generalize hAe : va_A w0 s.heap.size = A at hD hE ⊢
  have hA : ∀ q : Nat, s.heap.size ≤ q → A q := fun q h => by rw [← hAe]; exact Or.inr h
  have hw : Wd dC dI A s.heap s.heap [] w0 := ⟨hP, hD, va_S.rf⟩
  have hF : FE ksM ([] : List (Nat × Nat × Nat)) w0 w0 := FE.rf
  have hl := lv_entry ([.ref (ad 0), .int a1, .int a2, .int a3]) (n := 4) (Nat.le_of_ble_eq_true rfl)
  rw [lg_entry_eq]
  generalize (lg_sl ([.ref (ad 0), .int a1, .int a2, .int a3]) ++ List.replicate (4 - (lg_sl ([.ref (ad 0), .int a1, .int a2, .int a3])).length) Slot.unset).toArray = ls at hl ⊢
  have hl : lv_has ls 4 [(0, .ref (ad 0)), (1, .int a1), (2, .int a2), (3, .int a3)] := hl
  generalize hloc : ([] : List Loc) = locs at hw ⊢
  refine lv_aload_n hx hb dX12_isOpen_0 rfl (lv_at hl 0 rfl) ?_
  refine lv_iload_n hx hb dX12_isOpen_1 rfl (lv_at hl 1 rfl) ?_
  refine lv_iload_n hx hb dX12_isOpen_2 rfl (lv_at hl 2 rfl) ?_
  refine tk_Vi hC hK hw hT hA hE hSR kM_at0 (by decide) rfl (k_X12_isAt_1 l adK adV dC dI cy ad B hB0 (Int.le_trans hB1 (by decide)) qr s1   a1 (show 0 ≤ a1.toInt from ra1) (show a1.toInt ≤ 11 from ta1) a2 (show 0 ≤ a2.toInt from ra2) (show a2.toInt ≤ 9 from ta2) w0 s.heap.size hT ) (cwV 2 hC.2.2.2.2 uV_RX12_314 rfl rfl rfl (by decide +kernel) ⟨Nat.le_of_ble_eq_true rfl, Nat.le_of_ble_eq_true rfl⟩) rfl hl.1 rfl (Nat.le_of_ble_eq_true rfl) dX12_isOpen_3 (fun r1 w3 H locs hp2 hw => ?_)
  obtain ⟨rfl, hg10⟩ := hp2
  rcases hg10 with ⟨rfl, hq5⟩ | ⟨rfl, c6, hq7⟩ | ⟨rfl, c8, hq9⟩
  · refine lv_if_eq (tgt := 35) hx hb dX12_isOpen_6 (by decide) (fun _ => ?_) (fun c => absurd (by decide) c)
    refine lv_iconst (v := 0) hx hb dX12_isOpen_35 (by decide) ?_
    exact tk_zret hC hr rfl hlocks hK ⟨rfl, (Or.inl ⟨rfl, (by unfold mOpen; first | exact ⟨by assumption, by assumption, by assumption⟩ | (rintro ⟨q1, q2, q3⟩; first | exact absurd q1 (by assumption) | exact absurd q2 (by assumption) | exact q3 (by assumption)))⟩)⟩ hw dX12_isOpen_36
  · refine lv_if_eq (tgt := 35) hx hb dX12_isOpen_6 (by decide) (fun c => absurd c (by decide)) (fun _ => ?_)
    refine lv_aload_n hx hb dX12_isOpen_9 rfl (lv_at hl 0 rfl) ?_
    refine lv_iload_n hx hb dX12_isOpen_10 rfl (lv_at hl 1 rfl) ?_
    refine lv_iload_n hx hb dX12_isOpen_11 rfl (lv_at hl 2 rfl) ?_
    refine lv_iload_n hx hb dX12_isOpen_12 rfl (lv_at hl 3 rfl) ?_
    refine lv_bipush (v := 24) hx hb dX12_isOpen_13 (by decide) ?_
    refine lv_idiv hx hb dX12_isOpen_15 (by decide) ?_
    refine lv_topi (fun x11 ex11 => ?_)
    have ex11 : x11.toInt = a3.toInt / (24 : Int) := by rw [ex11]; exact wk_div (show 0 ≤ a3.toInt from ra3) (show 0 < (24 : Int) by decide)
    refine tk_Vi hC hK hw hT hA hE hSR kM_at0 (by decide) rfl (k_X12_isDayFor_2 l adK adV dC dI cy ad B hB0 (Int.le_trans hB1 (by decide)) qr s1   a1 (show 0 ≤ a1.toInt from ra1) (show a1.toInt ≤ 11 from ta1) a2 (show 0 ≤ a2.toInt from ra2) (show a2.toInt ≤ 9 from ta2) x11 (show 0 ≤ x11.toInt by first | with_reducible assumption | omega) (show x11.toInt ≤ 44739242 by first | with_reducible assumption | omega) w0 H.size hT ) (cwV 3 hC.2.2.2.2 uV_RX12_317 rfl rfl rfl (by decide +kernel) ⟨Nat.le_of_ble_eq_true rfl, Nat.le_of_ble_eq_true rfl⟩) rfl hl.1 rfl (Nat.le_of_ble_eq_true rfl) dX12_isOpen_16 (fun r12 w14 H locs hp13 hw => ?_)
    obtain ⟨rfl, hg22⟩ := hp13
    rcases hg22 with ⟨rfl, hq16⟩ | ⟨rfl, c17, hq18⟩ | ⟨rfl, hq19⟩ | ⟨rfl, c20, hq21⟩
    · refine lv_if_eq (tgt := 35) hx hb dX12_isOpen_19 (by decide) (fun _ => ?_) (fun c => absurd (by decide) c)
      refine lv_iconst (v := 0) hx hb dX12_isOpen_35 (by decide) ?_
      exact tk_zret hC hr rfl hlocks hK ⟨rfl, (Or.inr (Or.inr (Or.inl ⟨rfl, c6, (by rw [show x11.toInt = a3.toInt / 24 by omega] at hq16; unfold mOpen; first | exact ⟨by assumption, by assumption, by assumption⟩ | (rintro ⟨q1, q2, q3⟩; first | exact absurd q1 (by assumption) | exact absurd q2 (by assumption) | exact q3 (by assumption)))⟩)))⟩ hw dX12_isOpen_36
    · refine lv_if_eq (tgt := 35) hx hb dX12_isOpen_19 (by decide) (fun _ => ?_) (fun c => absurd (by decide) c)
      refine lv_iconst (v := 0) hx hb dX12_isOpen_35 (by decide) ?_
      exact tk_zret hC hr rfl hlocks hK ⟨rfl, (Or.inr (Or.inr (Or.inl ⟨rfl, c6, (by rw [show x11.toInt = a3.toInt / 24 by omega] at hq18; unfold mOpen; first | exact ⟨by assumption, by assumption, by assumption⟩ | (rintro ⟨q1, q2, q3⟩; first | exact absurd q1 (by assumption) | exact absurd q2 (by assumption) | exact q3 (by assumption)))⟩)))⟩ hw dX12_isOpen_36
    · refine lv_if_eq (tgt := 35) hx hb dX12_isOpen_19 (by decide) (fun c => absurd c (by decide)) (fun _ => ?_)
      refine lv_aload_n hx hb dX12_isOpen_22 rfl (lv_at hl 0 rfl) ?_
      refine lv_iload_n hx hb dX12_isOpen_23 rfl (lv_at hl 1 rfl) ?_
      refine lv_iload_n hx hb dX12_isOpen_24 rfl (lv_at hl 3 rfl) ?_
      refine tk_Vi hC hK hw hT hA hE hSR kM_at0 (by decide) rfl (k_X12_isLifted_2 l adK adV dC dI cy ad B hB0 (Int.le_trans hB1 (by decide)) qr s1   a1 (show 0 ≤ a1.toInt from ra1) (show a1.toInt ≤ 11 from ta1) a3 (show 0 ≤ a3.toInt from ra3) (show a3.toInt ≤ 1073741824 from ta3) w0 H.size hT ) (cwV 2 hC.2.2.2.2 uV_RX12_320 rfl rfl rfl (by decide +kernel) ⟨Nat.le_of_ble_eq_true rfl, Nat.le_of_ble_eq_true rfl⟩) rfl hl.1 rfl (Nat.le_of_ble_eq_true rfl) dX12_isOpen_25 (fun r23 w25 H locs hp24 hw => ?_)
      obtain ⟨rfl, hg31⟩ := hp24
      rcases hg31 with ⟨rfl, hq27⟩ | ⟨rfl, ⟨x28, c29, rx28, tx28⟩, hq30⟩
      · refine lv_if_ne (tgt := 35) hx hb dX12_isOpen_28 (by decide) (fun c => absurd (by decide) c) (fun _ => ?_)
        refine lv_iconst (v := 1) hx hb dX12_isOpen_31 (by decide) ?_
        refine lv_goto (tgt := 36) hx hb dX12_isOpen_32 (by decide) ?_
        exact tk_zret hC hr rfl hlocks hK ⟨rfl, (Or.inr (Or.inr (Or.inr (Or.inr (Or.inr (Or.inl ⟨rfl, c6, (by rw [show x11.toInt = a3.toInt / 24 by omega] at hq19; unfold mOpen; first | exact ⟨by assumption, by assumption, by assumption⟩ | (rintro ⟨q1, q2, q3⟩; first | exact absurd q1 (by assumption) | exact absurd q2 (by assumption) | exact q3 (by assumption)))⟩))))))⟩ hw dX12_isOpen_36
      · refine lv_if_ne (tgt := 35) hx hb dX12_isOpen_28 (by decide) (fun _ => ?_) (fun c => absurd c (by decide))
        refine lv_iconst (v := 0) hx hb dX12_isOpen_35 (by decide) ?_
        exact tk_zret hC hr rfl hlocks hK ⟨rfl, (Or.inr (Or.inr (Or.inl ⟨rfl, c6, (by rw [show x11.toInt = a3.toInt / 24 by omega] at hq19; unfold mOpen; first | exact ⟨by assumption, by assumption, by assumption⟩ | (rintro ⟨q1, q2, q3⟩; first | exact absurd q1 (by assumption) | exact absurd q2 (by assumption) | exact q3 (by assumption)))⟩)))⟩ hw dX12_isOpen_36
    · refine lv_if_eq (tgt := 35) hx hb dX12_isOpen_19 (by decide) (fun c => absurd c (by decide)) (fun _ => ?_)
      refine lv_aload_n hx hb dX12_isOpen_22 rfl (lv_at hl 0 rfl) ?_
      refine lv_iload_n hx hb dX12_isOpen_23 rfl (lv_at hl 1 rfl) ?_
      refine lv_iload_n hx hb dX12_isOpen_24 rfl (lv_at hl 3 rfl) ?_
      refine tk_Vi hC hK hw hT hA hE hSR kM_at0 (by decide) rfl (k_X12_isLifted_2 l adK adV dC dI cy ad B hB0 (Int.le_trans hB1 (by decide)) qr s1   a1 (show 0 ≤ a1.toInt from ra1) (show a1.toInt ≤ 11 from ta1) a3 (show 0 ≤ a3.toInt from ra3) (show a3.toInt ≤ 1073741824 from ta3) w0 H.size hT ) (cwV 2 hC.2.2.2.2 uV_RX12_320 rfl rfl rfl (by decide +kernel) ⟨Nat.le_of_ble_eq_true rfl, Nat.le_of_ble_eq_true rfl⟩) rfl hl.1 rfl (Nat.le_of_ble_eq_true rfl) dX12_isOpen_25 (fun r32 w34 H locs hp33 hw => ?_)
      obtain ⟨rfl, hg40⟩ := hp33
      rcases hg40 with ⟨rfl, hq36⟩ | ⟨rfl, ⟨x37, c38, rx37, tx37⟩, hq39⟩
      · refine lv_if_ne (tgt := 35) hx hb dX12_isOpen_28 (by decide) (fun c => absurd (by decide) c) (fun _ => ?_)
        refine lv_iconst (v := 1) hx hb dX12_isOpen_31 (by decide) ?_
        refine lv_goto (tgt := 36) hx hb dX12_isOpen_32 (by decide) ?_
        exact tk_zret hC hr rfl hlocks hK ⟨rfl, (Or.inr (Or.inr (Or.inr (Or.inr (Or.inr (Or.inl ⟨rfl, c6, (by rw [show x11.toInt = a3.toInt / 24 by omega] at hq21; unfold mOpen; first | exact ⟨by assumption, by assumption, by assumption⟩ | (rintro ⟨q1, q2, q3⟩; first | exact absurd q1 (by assumption) | exact absurd q2 (by assumption) | exact q3 (by assumption)))⟩))))))⟩ hw dX12_isOpen_36
      · refine lv_if_ne (tgt := 35) hx hb dX12_isOpen_28 (by decide) (fun _ => ?_) (fun c => absurd c (by decide))
        refine lv_iconst (v := 0) hx hb dX12_isOpen_35 (by decide) ?_
        exact tk_zret hC hr rfl hlocks hK ⟨rfl, (Or.inr (Or.inr (Or.inl ⟨rfl, c6, (by rw [show x11.toInt = a3.toInt / 24 by omega] at hq21; unfold mOpen; first | exact ⟨by assumption, by assumption, by assumption⟩ | (rintro ⟨q1, q2, q3⟩; first | exact absurd q1 (by assumption) | exact absurd q2 (by assumption) | exact q3 (by assumption)))⟩)))⟩ hw dX12_isOpen_36
  · refine lv_if_eq (tgt := 35) hx hb dX12_isOpen_6 (by decide) (fun c => absurd c (by decide)) (fun _ => ?_)
    refine lv_aload_n hx hb dX12_isOpen_9 rfl (lv_at hl 0 rfl) ?_
    refine lv_iload_n hx hb dX12_isOpen_10 rfl (lv_at hl 1 rfl) ?_
    refine lv_iload_n hx hb dX12_isOpen_11 rfl (lv_at hl 2 rfl) ?_
    refine lv_iload_n hx hb dX12_isOpen_12 rfl (lv_at hl 3 rfl) ?_
    refine lv_bipush (v := 24) hx hb dX12_isOpen_13 (by decide) ?_
    refine lv_idiv hx hb dX12_isOpen_15 (by decide) ?_
    refine lv_topi (fun x41 ex41 => ?_)
    have ex41 : x41.toInt = a3.toInt / (24 : Int) := by rw [ex41]; exact wk_div (show 0 ≤ a3.toInt from ra3) (show 0 < (24 : Int) by decide)
    refine tk_Vi hC hK hw hT hA hE hSR kM_at0 (by decide) rfl (k_X12_isDayFor_2 l adK adV dC dI cy ad B hB0 (Int.le_trans hB1 (by decide)) qr s1   a1 (show 0 ≤ a1.toInt from ra1) (show a1.toInt ≤ 11 from ta1) a2 (show 0 ≤ a2.toInt from ra2) (show a2.toInt ≤ 9 from ta2) x41 (show 0 ≤ x41.toInt by first | with_reducible assumption | omega) (show x41.toInt ≤ 44739242 by first | with_reducible assumption | omega) w0 H.size hT ) (cwV 3 hC.2.2.2.2 uV_RX12_317 rfl rfl rfl (by decide +kernel) ⟨Nat.le_of_ble_eq_true rfl, Nat.le_of_ble_eq_true rfl⟩) rfl hl.1 rfl (Nat.le_of_ble_eq_true rfl) dX12_isOpen_16 (fun r42 w44 H locs hp43 hw => ?_)
    obtain ⟨rfl, hg52⟩ := hp43
    rcases hg52 with ⟨rfl, hq46⟩ | ⟨rfl, c47, hq48⟩ | ⟨rfl, hq49⟩ | ⟨rfl, c50, hq51⟩
    · refine lv_if_eq (tgt := 35) hx hb dX12_isOpen_19 (by decide) (fun _ => ?_) (fun c => absurd (by decide) c)
      refine lv_iconst (v := 0) hx hb dX12_isOpen_35 (by decide) ?_
      exact tk_zret hC hr rfl hlocks hK ⟨rfl, (Or.inr (Or.inr (Or.inr (Or.inl ⟨rfl, c8, (by rw [show x41.toInt = a3.toInt / 24 by omega] at hq46; unfold mOpen; first | exact ⟨by assumption, by assumption, by assumption⟩ | (rintro ⟨q1, q2, q3⟩; first | exact absurd q1 (by assumption) | exact absurd q2 (by assumption) | exact q3 (by assumption)))⟩))))⟩ hw dX12_isOpen_36
    · refine lv_if_eq (tgt := 35) hx hb dX12_isOpen_19 (by decide) (fun _ => ?_) (fun c => absurd (by decide) c)
      refine lv_iconst (v := 0) hx hb dX12_isOpen_35 (by decide) ?_
      exact tk_zret hC hr rfl hlocks hK ⟨rfl, (Or.inr (Or.inl ⟨rfl, c47, c8, (by rw [show x41.toInt = a3.toInt / 24 by omega] at hq48; unfold mOpen; first | exact ⟨by assumption, by assumption, by assumption⟩ | (rintro ⟨q1, q2, q3⟩; first | exact absurd q1 (by assumption) | exact absurd q2 (by assumption) | exact q3 (by assumption)))⟩))⟩ hw dX12_isOpen_36
    · refine lv_if_eq (tgt := 35) hx hb dX12_isOpen_19 (by decide) (fun c => absurd c (by decide)) (fun _ => ?_)
      refine lv_aload_n hx hb dX12_isOpen_22 rfl (lv_at hl 0 rfl) ?_
      refine lv_iload_n hx hb dX12_isOpen_23 rfl (lv_at hl 1 rfl) ?_
      refine lv_iload_n hx hb dX12_isOpen_24 rfl (lv_at hl 3 rfl) ?_
      refine tk_Vi hC hK hw hT hA hE hSR kM_at0 (by decide) rfl (k_X12_isLifted_2 l adK adV dC dI cy ad B hB0 (Int.le_trans hB1 (by decide)) qr s1   a1 (show 0 ≤ a1.toInt from ra1) (show a1.toInt ≤ 11 from ta1) a3 (show 0 ≤ a3.toInt from ra3) (show a3.toInt ≤ 1073741824 from ta3) w0 H.size hT ) (cwV 2 hC.2.2.2.2 uV_RX12_320 rfl rfl rfl (by decide +kernel) ⟨Nat.le_of_ble_eq_true rfl, Nat.le_of_ble_eq_true rfl⟩) rfl hl.1 rfl (Nat.le_of_ble_eq_true rfl) dX12_isOpen_25 (fun r53 w55 H locs hp54 hw => ?_)
      obtain ⟨rfl, hg61⟩ := hp54
      rcases hg61 with ⟨rfl, hq57⟩ | ⟨rfl, ⟨x58, c59, rx58, tx58⟩, hq60⟩
      · refine lv_if_ne (tgt := 35) hx hb dX12_isOpen_28 (by decide) (fun c => absurd (by decide) c) (fun _ => ?_)
        refine lv_iconst (v := 1) hx hb dX12_isOpen_31 (by decide) ?_
        refine lv_goto (tgt := 36) hx hb dX12_isOpen_32 (by decide) ?_
        exact tk_zret hC hr rfl hlocks hK ⟨rfl, (Or.inr (Or.inr (Or.inr (Or.inr (Or.inr (Or.inr ⟨rfl, c8, (by rw [show x41.toInt = a3.toInt / 24 by omega] at hq49; unfold mOpen; first | exact ⟨by assumption, by assumption, by assumption⟩ | (rintro ⟨q1, q2, q3⟩; first | exact absurd q1 (by assumption) | exact absurd q2 (by assumption) | exact q3 (by assumption)))⟩))))))⟩ hw dX12_isOpen_36
      · refine lv_if_ne (tgt := 35) hx hb dX12_isOpen_28 (by decide) (fun _ => ?_) (fun c => absurd c (by decide))
        refine lv_iconst (v := 0) hx hb dX12_isOpen_35 (by decide) ?_
        exact tk_zret hC hr rfl hlocks hK ⟨rfl, (Or.inr (Or.inr (Or.inr (Or.inl ⟨rfl, c8, (by rw [show x41.toInt = a3.toInt / 24 by omega] at hq49; unfold mOpen; first | exact ⟨by assumption, by assumption, by assumption⟩ | (rintro ⟨q1, q2, q3⟩; first | exact absurd q1 (by assumption) | exact absurd q2 (by assumption) | exact q3 (by assumption)))⟩))))⟩ hw dX12_isOpen_36
    · refine lv_if_eq (tgt := 35) hx hb dX12_isOpen_19 (by decide) (fun c => absurd c (by decide)) (fun _ => ?_)
      refine lv_aload_n hx hb dX12_isOpen_22 rfl (lv_at hl 0 rfl) ?_
      refine lv_iload_n hx hb dX12_isOpen_23 rfl (lv_at hl 1 rfl) ?_
      refine lv_iload_n hx hb dX12_isOpen_24 rfl (lv_at hl 3 rfl) ?_
      refine tk_Vi hC hK hw hT hA hE hSR kM_at0 (by decide) rfl (k_X12_isLifted_2 l adK adV dC dI cy ad B hB0 (Int.le_trans hB1 (by decide)) qr s1   a1 (show 0 ≤ a1.toInt from ra1) (show a1.toInt ≤ 11 from ta1) a3 (show 0 ≤ a3.toInt from ra3) (show a3.toInt ≤ 1073741824 from ta3) w0 H.size hT ) (cwV 2 hC.2.2.2.2 uV_RX12_320 rfl rfl rfl (by decide +kernel) ⟨Nat.le_of_ble_eq_true rfl, Nat.le_of_ble_eq_true rfl⟩) rfl hl.1 rfl (Nat.le_of_ble_eq_true rfl) dX12_isOpen_25 (fun r62 w64 H locs hp63 hw => ?_)
      obtain ⟨rfl, hg70⟩ := hp63
      rcases hg70 with ⟨rfl, hq66⟩ | ⟨rfl, ⟨x67, c68, rx67, tx67⟩, hq69⟩
      · refine lv_if_ne (tgt := 35) hx hb dX12_isOpen_28 (by decide) (fun c => absurd (by decide) c) (fun _ => ?_)
        refine lv_iconst (v := 1) hx hb dX12_isOpen_31 (by decide) ?_
        refine lv_goto (tgt := 36) hx hb dX12_isOpen_32 (by decide) ?_
        exact tk_zret hC hr rfl hlocks hK ⟨rfl, (Or.inr (Or.inr (Or.inr (Or.inr (Or.inl ⟨rfl, c50, c8, (by rw [show x41.toInt = a3.toInt / 24 by omega] at hq51; unfold mOpen; first | exact ⟨by assumption, by assumption, by assumption⟩ | (rintro ⟨q1, q2, q3⟩; first | exact absurd q1 (by assumption) | exact absurd q2 (by assumption) | exact q3 (by assumption)))⟩)))))⟩ hw dX12_isOpen_36
      · refine lv_if_ne (tgt := 35) hx hb dX12_isOpen_28 (by decide) (fun _ => ?_) (fun c => absurd c (by decide))
        refine lv_iconst (v := 0) hx hb dX12_isOpen_35 (by decide) ?_
        exact tk_zret hC hr rfl hlocks hK ⟨rfl, (Or.inr (Or.inl ⟨rfl, c50, c8, (by rw [show x41.toInt = a3.toInt / 24 by omega] at hq51; unfold mOpen; first | exact ⟨by assumption, by assumption, by assumption⟩ | (rintro ⟨q1, q2, q3⟩; first | exact absurd q1 (by assumption) | exact absurd q2 (by assumption) | exact q3 (by assumption)))⟩))⟩ hw dX12_isOpen_36
abbrev P_X12_walkerOf_4 (ad : Nat → Nat) (cy : Nat → ClassId) (B : Int) (qr : Nat) (s1 : Int) (a1 : Int32) (w0 : va_W) : Int32 → va_W → Prop := fun r u => w0 = u ∧ ((0 ≤ r.toInt ∧ r.toInt ≤ 1073741824 ∧ gi u 12 (9 * a1.toInt + 220).toNat = r))
set_option maxHeartbeats 4000000 in
set_option maxRecDepth 100000 in
theorem k_X12_walkerOf_4 (l : Launch) (adK adV : Nat → Nat) (dC : Nat → ClassId) (dI : Nat → Nat → Nat) (cy : Nat → ClassId) (ad : Nat → Nat) (B : Int) (hB0 : 100000 ≤ B) (hB1 : B ≤ 1073741824) (qr : Nat) (s1 : Int)  (a1 : Int32) (ra1 : 0 ≤ a1.toInt) (ta1 : a1.toInt ≤ 3) (w0 : va_W) (sz : Nat) (hT : TW ksM ad cy B qr 12 w0)  : Met l yX12_walkerOf (wu yX12_walkerOf cX12_walkerOf 3 (some .int)) ({ frames := 1, cells := 0, slots := 0, locals := 12 }) (va_Pc [.ref (ad 0), .int a1, .int 4] (wpreS adK adV dC dI cy sz w0)) (va_Qi (P_X12_walkerOf_4 ad cy B qr s1 a1 w0) (fun u : va_W => wpost dC dI cy (va_A w0 sz) u) (va_A w0 sz)) 0 0 (va_A w0 sz) := by
  refine Met.ofW (cc := cX12_walkerOf) (maxL := 3) (ret := (some .int)) (by decide) rfl ?_
  intro p e s m args below meth c s₁ Bk hml hv
  obtain ⟨rfl, ⟨hsz, hP, hK, hD0⟩, hE, hSR⟩ := hv
  have hx := Bk.exec
  have hb := Bk.bytes
  have hr := Bk.returns
  have hlocks := Bk.notSynchronized
  have hC : CallFix p m c cX12_walkerOf 3 s _ (wu yX12_walkerOf cX12_walkerOf 3 (some .int)) RX12 := ⟨hx, hb, hml, findClass_of_methodNamed Bk.named, atoms_spec (ws := (wu yX12_walkerOf cX12_walkerOf 3 (some .int))) Bk.pre⟩
  subst hsz
  have hD := hD0.self (sz := s.heap.size)
  generalize hAe : va_A w0 s.heap.size = A at hD hE ⊢
  have hA : ∀ q : Nat, s.heap.size ≤ q → A q := fun q h => by rw [← hAe]; exact Or.inr h
  have hw : Wd dC dI A s.heap s.heap [] w0 := ⟨hP, hD, va_S.rf⟩
  have hF : FE ksM ([] : List (Nat × Nat × Nat)) w0 w0 := FE.rf
  have hl := lv_entry ([.ref (ad 0), .int a1, .int 4]) (n := 3) (Nat.le_of_ble_eq_true rfl)
  rw [lg_entry_eq]
  generalize (lg_sl ([.ref (ad 0), .int a1, .int 4]) ++ List.replicate (3 - (lg_sl ([.ref (ad 0), .int a1, .int 4])).length) Slot.unset).toArray = ls at hl ⊢
  have hl : lv_has ls 3 [(0, .ref (ad 0)), (1, .int a1), (2, .int 4)] := hl
  generalize hloc : ([] : List Loc) = locs at hw ⊢
  have hinX12 : ∀ w ∈ u_ws RX12 TX12 42, w ∈ (wu yX12_walkerOf cX12_walkerOf 3 (some .int)) := fun _ h => List.mem_cons_of_mem _ (up_71 h)
  refine lv_aload_n hx hb dX12_walkerOf_0 rfl (lv_at hl 0 rfl) ?_
  refine tk_getA hC hK hw hT hinX12 kM_at0 (by decide) rfl 26 (by decide) (List.mem_cons_of_mem _ uw_7_1) rfl rfl dX12_walkerOf_1 ?_
  refine lv_sipush (v := 216) hx hb dX12_walkerOf_4 (by decide) ?_
  refine lv_bipush (v := 9) hx hb dX12_walkerOf_7 (by decide) ?_
  refine lv_iload_n hx hb dX12_walkerOf_9 rfl (lv_at hl 1 rfl) ?_
  refine lv_imul hx hb dX12_walkerOf_10 ?_
  refine lv_topi (fun x1 ex1 => ?_)
  have ex1 : x1.toInt = (9 : Int) * a1.toInt := by rw [ex1]; exact wk_mul (show (-2147483648) ≤ (9 : Int) * a1.toInt by omega) (show (9 : Int) * a1.toInt ≤ 2147483647 by omega)
  refine lv_iadd hx hb dX12_walkerOf_11 ?_
  refine lv_topi (fun x2 ex2 => ?_)
  have ex2 : x2.toInt = (216 : Int) + x1.toInt := by rw [ex2]; exact wk_add (show (-2147483648) ≤ (216 : Int) + x1.toInt by omega) (show (216 : Int) + x1.toInt ≤ 2147483647 by omega)
  refine lv_iload_n hx hb dX12_walkerOf_12 rfl (lv_at hl 2 rfl) ?_
  refine lv_iadd hx hb dX12_walkerOf_13 ?_
  refine lv_topi (fun x3 ex3 => ?_)
  have ex3 : x3.toInt = x2.toInt + (4 : Int) := by rw [ex3]; exact wk_add (show (-2147483648) ≤ x2.toInt + (4 : Int) by omega) (show x2.toInt + (4 : Int) ≤ 2147483647 by omega)
  refine tk_ialdR hC hK hw hT kM_at12 rfl (show 0 ≤ x3.toInt by first | with_reducible assumption | omega) (show x3.toInt < 296 by first | with_reducible assumption | omega) dX12_walkerOf_14 (fun x4 c5 Ex4 => ?_)
  have c5 : gi w0 12 (9 * a1.toInt + 220).toNat = x4 := (congrArg (gi w0 12) (congrArg Int.toNat (show 9 * a1.toInt + 220 = x3.toInt by first | exact Int.le_antisymm (by omega) (by omega) | omega))).trans c5
  have bx4 := (tk_rgB rfl 220 9 4 (by decide +kernel) ⟨(a1.toInt - 0).toNat, by omega, show x3.toInt.toNat = 220 + 9 * (a1.toInt - 0).toNat by omega⟩).mp Ex4
  exact tk_iret hC hr hlocks hK ⟨rfl, ⟨(show 0 ≤ x4.toInt by first | with_reducible assumption | omega), (show x4.toInt ≤ 1073741824 by first | with_reducible assumption | omega), c5⟩⟩ hw dX12_walkerOf_15
abbrev P_X12_asideOf_1 (ad : Nat → Nat) (cy : Nat → ClassId) (B : Int) (qr : Nat) (s1 : Int) (a1 : Int32) (w0 : va_W) : Int32 → va_W → Prop := fun r u => w0 = u ∧ ((0 ≤ r.toInt ∧ r.toInt ≤ 11 ∧ (∃ y : Int32, gi u 12 1 = y ∧ 1 ≤ y.toInt ∧ y.toInt ≤ 12) ∧ (r.toInt < (gi w0 12 1).toInt ∧ mOw w0 r.toInt a1.toInt)) ∨ (r = (-1) ∧ (∀ k : Int, 0 ≤ k → k < (gi w0 12 1).toInt → ¬ mOw w0 k a1.toInt)))
set_option maxHeartbeats 4000000 in
set_option maxRecDepth 100000 in
theorem k_X12_asideOf_1 (l : Launch) (adK adV : Nat → Nat) (dC : Nat → ClassId) (dI : Nat → Nat → Nat) (cy : Nat → ClassId) (ad : Nat → Nat) (B : Int) (hB0 : 100000 ≤ B) (hB1 : B ≤ 1073741824) (qr : Nat) (s1 : Int)  (a1 : Int32) (ra1 : 0 ≤ a1.toInt) (ta1 : a1.toInt ≤ 3) (w0 : va_W) (sz : Nat) (hT : TW ksM ad cy B qr 12 w0)  : Met l yX12_asideOf (wu yX12_asideOf cX12_asideOf 3 (some .int)) ({ frames := 5, cells := 0, slots := 0, locals := 103 }) (va_Pc [.ref (ad 0), .int a1] (wpreS adK adV dC dI cy sz w0)) (va_Qi (P_X12_asideOf_1 ad cy B qr s1 a1 w0) (fun u : va_W => wpost dC dI cy (va_A w0 sz) u) (va_A w0 sz)) 0 0 (va_A w0 sz) := by
  refine Met.ofW (cc := cX12_asideOf) (maxL := 3) (ret := (some .int)) (by decide) rfl ?_
  intro p e s m args below meth c s₁ Bk hml hv
  obtain ⟨rfl, ⟨hsz, hP, hK, hD0⟩, hE, hSR⟩ := hv
  have hx := Bk.exec
  have hb := Bk.bytes
  have hr := Bk.returns
  have hlocks := Bk.notSynchronized
  have hC : CallFix p m c cX12_asideOf 3 s _ (wu yX12_asideOf cX12_asideOf 3 (some .int)) RX12 := ⟨hx, hb, hml, findClass_of_methodNamed Bk.named, atoms_spec (ws := (wu yX12_asideOf cX12_asideOf 3 (some .int))) Bk.pre⟩
  subst hsz
  have hD := hD0.self (sz := s.heap.size)
  generalize hAe : va_A w0 s.heap.size = A at hD hE ⊢
  have hA : ∀ q : Nat, s.heap.size ≤ q → A q := fun q h => by rw [← hAe]; exact Or.inr h
  have hw : Wd dC dI A s.heap s.heap [] w0 := ⟨hP, hD, va_S.rf⟩
  have hF : FE ksM ([] : List (Nat × Nat × Nat)) w0 w0 := FE.rf
  have hl := lv_entry ([.ref (ad 0), .int a1]) (n := 3) (Nat.le_of_ble_eq_true rfl)
  rw [lg_entry_eq]
  generalize (lg_sl ([.ref (ad 0), .int a1]) ++ List.replicate (3 - (lg_sl ([.ref (ad 0), .int a1])).length) Slot.unset).toArray = ls at hl ⊢
  have hl : lv_has ls 3 [(0, .ref (ad 0)), (1, .int a1)] := hl
  generalize hloc : ([] : List Loc) = locs at hw ⊢
  have hinX12 : ∀ w ∈ u_ws RX12 TX12 42, w ∈ (wu yX12_asideOf cX12_asideOf 3 (some .int)) := fun _ h => List.mem_cons_of_mem _ (up_71 h)
  have L2 : ∀ (n2 : Nat) (v2_2 : Int32) (H : Heap) (locs : List Loc) (ls : Array Slot), 0 ≤ a1.toInt → a1.toInt ≤ 3 → 0 ≤ v2_2.toInt → v2_2.toInt ≤ 12 → (∀ k : Int, 0 ≤ k → k < v2_2.toInt → ¬ mOw w0 k a1.toInt) → (12 - v2_2.toInt).toNat < n2 → Wd dC dI A s.heap H locs w0 → lv_has ls 3 [(0, .ref (ad 0)), (1, .int a1), (2, .int v2_2)] → W p l e ({ frames := 5, cells := 0, slots := 0, locals := 103 }) s m (List.toArray [.ref (ad 0), .int a1]) below meth c H locs 0 0 (MQ below (va_Qi (P_X12_asideOf_1 ad cy B qr s1 a1 w0) (fun u : va_W => wpost dC dI cy A u) A) (List.toArray [.ref (ad 0), .int a1]) s 0 0 A) (F0 m 2 ls []) := by
    intro n2
    induction n2 with
    | zero => intro v2_2 H locs ls r1 t2 r3 t4 hcr2_0 hm2 hw hl; omega
    | succ n2 ih2 =>
      intro v2_2 H locs ls r1 t2 r3 t4 hcr2_0 hm2 hw hl
      refine lv_iload_n hx hb dX12_asideOf_2 rfl (lv_at hl 2 rfl) ?_
      refine lv_aload_n hx hb dX12_asideOf_3 rfl (lv_at hl 0 rfl) ?_
      refine tk_getA hC hK hw hT hinX12 kM_at0 (by decide) rfl 26 (by decide) (List.mem_cons_of_mem _ uw_7_1) rfl rfl dX12_asideOf_4 ?_
      refine lv_iconst (v := 1) hx hb dX12_asideOf_7 (by decide) ?_
      refine tk_ialdR hC hK hw hT kM_at12 rfl (by decide) (by decide) dX12_asideOf_8 (fun x5 c6 Ex5 => ?_)
      have bx5 : 0 ≤ x5.toInt ∧ x5.toInt ≤ 12 := (tk_rg1 rfl).mp Ex5
      have c6 : gi w0 12 1 = x5 := c6
      refine lv_icmp_ge (tgt := 40) hx hb dX12_asideOf_9 (by decide) (fun c7 => ?_) (fun c7 => ?_)
      · have c7 : x5.toInt ≤ v2_2.toInt := wk_le.mp c7
        refine lv_iconst (v := (-1)) hx hb dX12_asideOf_40 (by decide) ?_
        exact tk_iret hC hr hlocks hK ⟨rfl, (Or.inr ⟨rfl, (by intro k h0 h1; rw [show gi w0 12 1 = x5 from c6] at h1; exact hcr2_0 k h0 (by omega))⟩)⟩ hw dX12_asideOf_41
      · have c7 : v2_2.toInt < x5.toInt := wk_leF c7
        refine lv_aload_n hx hb dX12_asideOf_12 rfl (lv_at hl 0 rfl) ?_
        refine lv_iload_n hx hb dX12_asideOf_13 rfl (lv_at hl 2 rfl) ?_
        refine lv_aload_n hx hb dX12_asideOf_14 rfl (lv_at hl 0 rfl) ?_
        refine lv_iload_n hx hb dX12_asideOf_15 rfl (lv_at hl 1 rfl) ?_
        refine lv_iconst (v := 0) hx hb dX12_asideOf_16 (by decide) ?_
        refine tk_Vi hC hK hw hT hA hE hSR kM_at0 (by decide) rfl (k_X12_walkerOf_2 l adK adV dC dI cy ad B hB0 (Int.le_trans hB1 (by decide)) qr s1   a1 (show 0 ≤ a1.toInt from r1) (show a1.toInt ≤ 3 from t2) w0 H.size hT ) (cwV 2 hC.2.2.2.2 uV_RX12_372 rfl rfl rfl (by decide +kernel) ⟨Nat.le_of_ble_eq_true rfl, Nat.le_of_ble_eq_true rfl⟩) rfl hl.1 rfl (Nat.le_of_ble_eq_true rfl) dX12_asideOf_17 (fun r8 w10 H locs hp9 hw => ?_)
        obtain ⟨rfl, hg15⟩ := hp9
        obtain ⟨g12, g13, c14⟩ := hg15
        refine lv_aload_n hx hb dX12_asideOf_20 rfl (lv_at hl 0 rfl) ?_
        refine lv_iload_n hx hb dX12_asideOf_21 rfl (lv_at hl 1 rfl) ?_
        refine lv_iconst (v := 4) hx hb dX12_asideOf_22 (by decide) ?_
        refine tk_Vi hC hK hw hT hA hE hSR kM_at0 (by decide) rfl (k_X12_walkerOf_4 l adK adV dC dI cy ad B hB0 (Int.le_trans hB1 (by decide)) qr s1   a1 (show 0 ≤ a1.toInt from r1) (show a1.toInt ≤ 3 from t2) w0 H.size hT ) (cwV 2 hC.2.2.2.2 uV_RX12_372 rfl rfl rfl (by decide +kernel) ⟨Nat.le_of_ble_eq_true rfl, Nat.le_of_ble_eq_true rfl⟩) rfl hl.1 rfl (Nat.le_of_ble_eq_true rfl) dX12_asideOf_23 (fun r16 w18 H locs hp17 hw => ?_)
        obtain ⟨rfl, hg23⟩ := hp17
        obtain ⟨g20, g21, c22⟩ := hg23
        refine tk_Vi hC hK hw hT hA hE hSR kM_at0 (by decide) rfl (k_X12_isOpen_2 l adK adV dC dI cy ad B hB0 (Int.le_trans hB1 (by decide)) qr s1   v2_2 (show 0 ≤ v2_2.toInt from r3) (show v2_2.toInt ≤ 11 by first | with_reducible assumption | omega) r8 (show 0 ≤ r8.toInt by first | with_reducible assumption | omega) (show r8.toInt ≤ 9 by first | with_reducible assumption | omega) r16 (show 0 ≤ r16.toInt by first | with_reducible assumption | omega) (show r16.toInt ≤ 1073741824 by first | with_reducible assumption | omega) w0 H.size hT ) (cwV 3 hC.2.2.2.2 uV_RX12_334 rfl rfl rfl (by decide +kernel) ⟨Nat.le_of_ble_eq_true rfl, Nat.le_of_ble_eq_true rfl⟩) rfl hl.1 rfl (Nat.le_of_ble_eq_true rfl) dX12_asideOf_26 (fun r24 w26 H locs hp25 hw => ?_)
        obtain ⟨rfl, hg43⟩ := hp25
        rcases hg43 with ⟨rfl, hq28⟩ | ⟨rfl, c29, c30, hq31⟩ | ⟨rfl, c32, hq33⟩ | ⟨rfl, c34, hq35⟩ | ⟨rfl, c36, c37, hq38⟩ | ⟨rfl, c39, hq40⟩ | ⟨rfl, c41, hq42⟩
        · refine lv_if_eq (tgt := 34) hx hb dX12_asideOf_29 (by decide) (fun _ => ?_) (fun c => absurd (by decide) c)
          obtain ⟨x44, ex44⟩ : ∃ y : Int32, y = v2_2 + Int32.ofInt 1 := ⟨_, rfl⟩
          refine lv_iinc (v := x44) (lv' := [(2, .int x44), (0, .ref (ad 0)), (1, .int a1)]) hx hb dX12_asideOf_34 hl (k := 2) rfl ex44.symm (by decide) rfl (fun ls hl => ?_)
          have ex44 : x44.toInt = v2_2.toInt + 1 := by rw [ex44]; exact wk_add (y := 1) (show -2147483648 ≤ v2_2.toInt + 1 by omega) (show v2_2.toInt + 1 ≤ 2147483647 by omega)
          refine lv_goto (tgt := 2) hx hb dX12_asideOf_37 (by decide) ?_
          exact ih2 x44 H locs ls  (show 0 ≤ a1.toInt from r1) (show a1.toInt ≤ 3 from t2) (show 0 ≤ x44.toInt by first | with_reducible assumption | omega) (show x44.toInt ≤ 12 by first | with_reducible assumption | omega) (show ∀ k : Int, 0 ≤ k → k < x44.toInt → ¬ mOw w0 k a1.toInt from all_step hcr2_0 (show ¬ mOw w0 v2_2.toInt a1.toInt by unfold mOw; simp only [c6, c14, c22]; assumption) (by omega)) (show (12 - x44.toInt).toNat < n2 by first | exact tn_lt hm2 (by omega) (by omega) | omega) hw   (lv_sub hl [1, 2, 0] rfl)
        · refine lv_if_eq (tgt := 34) hx hb dX12_asideOf_29 (by decide) (fun _ => ?_) (fun c => absurd (by decide) c)
          obtain ⟨x45, ex45⟩ : ∃ y : Int32, y = v2_2 + Int32.ofInt 1 := ⟨_, rfl⟩
          refine lv_iinc (v := x45) (lv' := [(2, .int x45), (0, .ref (ad 0)), (1, .int a1)]) hx hb dX12_asideOf_34 hl (k := 2) rfl ex45.symm (by decide) rfl (fun ls hl => ?_)
          have ex45 : x45.toInt = v2_2.toInt + 1 := by rw [ex45]; exact wk_add (y := 1) (show -2147483648 ≤ v2_2.toInt + 1 by omega) (show v2_2.toInt + 1 ≤ 2147483647 by omega)
          refine lv_goto (tgt := 2) hx hb dX12_asideOf_37 (by decide) ?_
          exact ih2 x45 H locs ls  (show 0 ≤ a1.toInt from r1) (show a1.toInt ≤ 3 from t2) (show 0 ≤ x45.toInt by first | with_reducible assumption | omega) (show x45.toInt ≤ 12 by first | with_reducible assumption | omega) (show ∀ k : Int, 0 ≤ k → k < x45.toInt → ¬ mOw w0 k a1.toInt from all_step hcr2_0 (show ¬ mOw w0 v2_2.toInt a1.toInt by unfold mOw; simp only [c6, c14, c29, c30, c22]; assumption) (by omega)) (show (12 - x45.toInt).toNat < n2 by first | exact tn_lt hm2 (by omega) (by omega) | omega) hw   (lv_sub hl [1, 2, 0] rfl)
        · refine lv_if_eq (tgt := 34) hx hb dX12_asideOf_29 (by decide) (fun _ => ?_) (fun c => absurd (by decide) c)
          obtain ⟨x46, ex46⟩ : ∃ y : Int32, y = v2_2 + Int32.ofInt 1 := ⟨_, rfl⟩
          refine lv_iinc (v := x46) (lv' := [(2, .int x46), (0, .ref (ad 0)), (1, .int a1)]) hx hb dX12_asideOf_34 hl (k := 2) rfl ex46.symm (by decide) rfl (fun ls hl => ?_)
          have ex46 : x46.toInt = v2_2.toInt + 1 := by rw [ex46]; exact wk_add (y := 1) (show -2147483648 ≤ v2_2.toInt + 1 by omega) (show v2_2.toInt + 1 ≤ 2147483647 by omega)
          refine lv_goto (tgt := 2) hx hb dX12_asideOf_37 (by decide) ?_
          exact ih2 x46 H locs ls  (show 0 ≤ a1.toInt from r1) (show a1.toInt ≤ 3 from t2) (show 0 ≤ x46.toInt by first | with_reducible assumption | omega) (show x46.toInt ≤ 12 by first | with_reducible assumption | omega) (show ∀ k : Int, 0 ≤ k → k < x46.toInt → ¬ mOw w0 k a1.toInt from all_step hcr2_0 (show ¬ mOw w0 v2_2.toInt a1.toInt by unfold mOw; simp only [c6, c14, c32, c22]; assumption) (by omega)) (show (12 - x46.toInt).toNat < n2 by first | exact tn_lt hm2 (by omega) (by omega) | omega) hw   (lv_sub hl [1, 2, 0] rfl)
        · refine lv_if_eq (tgt := 34) hx hb dX12_asideOf_29 (by decide) (fun _ => ?_) (fun c => absurd (by decide) c)
          obtain ⟨x47, ex47⟩ : ∃ y : Int32, y = v2_2 + Int32.ofInt 1 := ⟨_, rfl⟩
          refine lv_iinc (v := x47) (lv' := [(2, .int x47), (0, .ref (ad 0)), (1, .int a1)]) hx hb dX12_asideOf_34 hl (k := 2) rfl ex47.symm (by decide) rfl (fun ls hl => ?_)
          have ex47 : x47.toInt = v2_2.toInt + 1 := by rw [ex47]; exact wk_add (y := 1) (show -2147483648 ≤ v2_2.toInt + 1 by omega) (show v2_2.toInt + 1 ≤ 2147483647 by omega)
          refine lv_goto (tgt := 2) hx hb dX12_asideOf_37 (by decide) ?_
          exact ih2 x47 H locs ls  (show 0 ≤ a1.toInt from r1) (show a1.toInt ≤ 3 from t2) (show 0 ≤ x47.toInt by first | with_reducible assumption | omega) (show x47.toInt ≤ 12 by first | with_reducible assumption | omega) (show ∀ k : Int, 0 ≤ k → k < x47.toInt → ¬ mOw w0 k a1.toInt from all_step hcr2_0 (show ¬ mOw w0 v2_2.toInt a1.toInt by unfold mOw; simp only [c6, c14, c34, c22]; assumption) (by omega)) (show (12 - x47.toInt).toNat < n2 by first | exact tn_lt hm2 (by omega) (by omega) | omega) hw   (lv_sub hl [1, 2, 0] rfl)
        · refine lv_if_eq (tgt := 34) hx hb dX12_asideOf_29 (by decide) (fun c => absurd c (by decide)) (fun _ => ?_)
          refine lv_iload_n hx hb dX12_asideOf_32 rfl (lv_at hl 2 rfl) ?_
          exact tk_iret hC hr hlocks hK ⟨rfl, (Or.inl ⟨(show 0 ≤ v2_2.toInt from r3), (show v2_2.toInt ≤ 11 by first | with_reducible assumption | omega), ⟨x5, c6, (show 1 ≤ x5.toInt by first | with_reducible assumption | omega), (show x5.toInt ≤ 12 by first | with_reducible assumption | omega)⟩, (by exact ⟨by simp only [c6, c14, c36, c37, c22]; omega, by unfold mOw; simp only [c6, c14, c36, c37, c22]; assumption⟩)⟩)⟩ hw dX12_asideOf_33
        · refine lv_if_eq (tgt := 34) hx hb dX12_asideOf_29 (by decide) (fun c => absurd c (by decide)) (fun _ => ?_)
          refine lv_iload_n hx hb dX12_asideOf_32 rfl (lv_at hl 2 rfl) ?_
          exact tk_iret hC hr hlocks hK ⟨rfl, (Or.inl ⟨(show 0 ≤ v2_2.toInt from r3), (show v2_2.toInt ≤ 11 by first | with_reducible assumption | omega), ⟨x5, c6, (show 1 ≤ x5.toInt by first | with_reducible assumption | omega), (show x5.toInt ≤ 12 by first | with_reducible assumption | omega)⟩, (by exact ⟨by simp only [c6, c14, c39, c22]; omega, by unfold mOw; simp only [c6, c14, c39, c22]; assumption⟩)⟩)⟩ hw dX12_asideOf_33
        · refine lv_if_eq (tgt := 34) hx hb dX12_asideOf_29 (by decide) (fun c => absurd c (by decide)) (fun _ => ?_)
          refine lv_iload_n hx hb dX12_asideOf_32 rfl (lv_at hl 2 rfl) ?_
          exact tk_iret hC hr hlocks hK ⟨rfl, (Or.inl ⟨(show 0 ≤ v2_2.toInt from r3), (show v2_2.toInt ≤ 11 by first | with_reducible assumption | omega), ⟨x5, c6, (show 1 ≤ x5.toInt by first | with_reducible assumption | omega), (show x5.toInt ≤ 12 by first | with_reducible assumption | omega)⟩, (by exact ⟨by simp only [c6, c14, c41, c22]; omega, by unfold mOw; simp only [c6, c14, c41, c22]; assumption⟩)⟩)⟩ hw dX12_asideOf_33
  refine lv_iconst (v := 0) hx hb dX12_asideOf_0 (by decide) ?_
  refine lv_istore_n (lv' := [(2, .int 0), (0, .ref (ad 0)), (1, .int a1)]) hx hb dX12_asideOf_1 rfl hl (by decide) rfl (fun ls hl => ?_)
  exact L2 ((12 - (0 : Int)).toNat + 1) 0 s.heap locs ls  (show 0 ≤ a1.toInt from ra1) (show a1.toInt ≤ 3 from ta1) (by decide) (by decide) (show ∀ k : Int, 0 ≤ k → k < (0 : Int) → ¬ mOw w0 k a1.toInt from all_none) (Nat.lt_succ_self _) hw   (lv_sub hl [1, 2, 0] rfl)
abbrev P_X12_canGo_1 (ad : Nat → Nat) (cy : Nat → ClassId) (B : Int) (qr : Nat) (s1 : Int) (a1 : Int32) (w0 : va_W) : Int32 → va_W → Prop := fun r u => w0 = u ∧ ((r = 0) ∨ (r = 1 ∧ (∃ y : Int32, gi u 0 31 = y ∧ 0 ≤ y.toInt ∧ y.toInt ≤ 11)))
set_option maxHeartbeats 4000000 in
set_option maxRecDepth 100000 in
theorem k_X12_canGo_1 (l : Launch) (adK adV : Nat → Nat) (dC : Nat → ClassId) (dI : Nat → Nat → Nat) (cy : Nat → ClassId) (ad : Nat → Nat) (B : Int) (hB0 : 100000 ≤ B) (hB1 : B ≤ 1073741824) (qr : Nat) (s1 : Int)  (a1 : Int32) (ra1 : 0 ≤ a1.toInt) (ta1 : a1.toInt ≤ 3) (w0 : va_W) (sz : Nat) (hT : TW ksM ad cy B qr 12 w0)  : Met l yX12_canGo (wu yX12_canGo cX12_canGo 2 (some .boolean)) ({ frames := 5, cells := 0, slots := 0, locals := 103 }) (va_Pc [.ref (ad 0), .int a1] (wpreS adK adV dC dI cy sz w0)) (va_Qi (P_X12_canGo_1 ad cy B qr s1 a1 w0) (fun u : va_W => wpost dC dI cy (va_A w0 sz) u) (va_A w0 sz)) 0 0 (va_A w0 sz) := by
  refine Met.ofW (cc := cX12_canGo) (maxL := 2) (ret := (some .boolean)) (by decide) rfl ?_
  intro p e s m args below meth c s₁ Bk hml hv
  obtain ⟨rfl, ⟨hsz, hP, hK, hD0⟩, hE, hSR⟩ := hv
  have hx := Bk.exec
  have hb := Bk.bytes
  have hr := Bk.returns
  have hlocks := Bk.notSynchronized
  have hC : CallFix p m c cX12_canGo 2 s _ (wu yX12_canGo cX12_canGo 2 (some .boolean)) RX12 := ⟨hx, hb, hml, findClass_of_methodNamed Bk.named, atoms_spec (ws := (wu yX12_canGo cX12_canGo 2 (some .boolean))) Bk.pre⟩
  subst hsz
  have hD := hD0.self (sz := s.heap.size)
  generalize hAe : va_A w0 s.heap.size = A at hD hE ⊢
  have hA : ∀ q : Nat, s.heap.size ≤ q → A q := fun q h => by rw [← hAe]; exact Or.inr h
  have hw : Wd dC dI A s.heap s.heap [] w0 := ⟨hP, hD, va_S.rf⟩
  have hF : FE ksM ([] : List (Nat × Nat × Nat)) w0 w0 := FE.rf
  have hl := lv_entry ([.ref (ad 0), .int a1]) (n := 2) (Nat.le_of_ble_eq_true rfl)
  rw [lg_entry_eq]
  generalize (lg_sl ([.ref (ad 0), .int a1]) ++ List.replicate (2 - (lg_sl ([.ref (ad 0), .int a1])).length) Slot.unset).toArray = ls at hl ⊢
  have hl : lv_has ls 2 [(0, .ref (ad 0)), (1, .int a1)] := hl
  generalize hloc : ([] : List Loc) = locs at hw ⊢
  have hinX12 : ∀ w ∈ u_ws RX12 TX12 42, w ∈ (wu yX12_canGo cX12_canGo 2 (some .boolean)) := fun _ h => List.mem_cons_of_mem _ (up_71 h)
  have J34 : ∀ (f34_0_31 : Int32) (H : Heap) (locs : List Loc) (ls : Array Slot), 0 ≤ a1.toInt → a1.toInt ≤ 3 → (-1) ≤ f34_0_31.toInt → f34_0_31.toInt ≤ 11 → Wd dC dI A s.heap H locs w0 → gi w0 0 31 = f34_0_31 → lv_has ls 2 [(0, .ref (ad 0)), (1, .int a1)] → W p l e ({ frames := 5, cells := 0, slots := 0, locals := 103 }) s m (List.toArray [.ref (ad 0), .int a1]) below meth c H locs 0 0 (MQ below (va_Qi (P_X12_canGo_1 ad cy B qr s1 a1 w0) (fun u : va_W => wpost dC dI cy A u) A) (List.toArray [.ref (ad 0), .int a1]) s 0 0 A) (F0 m 34 ls []) := by
    intro f34_0_31 H locs ls r1 t2 r3 t4 hw c5 hl
    refine lv_iconst (v := 0) hx hb dX12_canGo_34 (by decide) ?_
    exact tk_zret hC hr rfl hlocks hK ⟨rfl, (Or.inl rfl)⟩ hw dX12_canGo_35
  refine lv_aload_n hx hb dX12_canGo_0 rfl (lv_at hl 0 rfl) ?_
  refine tk_geti hC hK hw hT hinX12 kM_at0 (by decide) rfl 31 (by decide) (List.mem_cons_of_mem _ uw_46_23) rfl rfl dX12_canGo_1 (fun x6 c7 rx6 tx6 => ?_)
  refine lv_if_lt (tgt := 34) hx hb dX12_canGo_4 (by decide) (fun c8 => ?_) (fun c8 => ?_)
  · have c8 : x6.toInt < (0 : Int) := wk_lt.mp c8
    exact J34 x6 s.heap locs ls  (show 0 ≤ a1.toInt from ra1) (show a1.toInt ≤ 3 from ta1) (show (-1) ≤ x6.toInt from rx6) (show x6.toInt ≤ 11 from tx6)  hw  c7 (lv_sub hl [0, 1] rfl)
  · have c8 : (0 : Int) ≤ x6.toInt := wk_ltF c8
    refine lv_aload_n hx hb dX12_canGo_7 rfl (lv_at hl 0 rfl) ?_
    refine lv_aload_n hx hb dX12_canGo_8 rfl (lv_at hl 0 rfl) ?_
    refine tk_geti hC hK hw hT hinX12 kM_at0 (by decide) rfl 31 (by decide) (List.mem_cons_of_mem _ uw_46_23) rfl rfl dX12_canGo_9 (fun x9 c10 rx9 tx9 => ?_)
    refine wk_top x6 (c10.symm.trans c7) ?_
    refine lv_aload_n hx hb dX12_canGo_12 rfl (lv_at hl 0 rfl) ?_
    refine lv_iload_n hx hb dX12_canGo_13 rfl (lv_at hl 1 rfl) ?_
    refine lv_iconst (v := 0) hx hb dX12_canGo_14 (by decide) ?_
    refine tk_Vi hC hK hw hT hA hE hSR kM_at0 (by decide) rfl (k_X12_walkerOf_2 l adK adV dC dI cy ad B hB0 (Int.le_trans hB1 (by decide)) qr s1   a1 (show 0 ≤ a1.toInt from ra1) (show a1.toInt ≤ 3 from ta1) w0 s.heap.size hT ) (cwV 2 hC.2.2.2.2 uV_RX12_372 rfl rfl rfl (by decide +kernel) ⟨Nat.le_of_ble_eq_true rfl, Nat.le_of_ble_eq_true rfl⟩) rfl hl.1 rfl (Nat.le_of_ble_eq_true rfl) dX12_canGo_15 (fun r11 w13 H locs hp12 hw => ?_)
    obtain ⟨rfl, hg18⟩ := hp12
    obtain ⟨g15, g16, c17⟩ := hg18
    refine lv_aload_n hx hb dX12_canGo_18 rfl (lv_at hl 0 rfl) ?_
    refine lv_iload_n hx hb dX12_canGo_19 rfl (lv_at hl 1 rfl) ?_
    refine lv_iconst (v := 4) hx hb dX12_canGo_20 (by decide) ?_
    refine tk_Vi hC hK hw hT hA hE hSR kM_at0 (by decide) rfl (k_X12_walkerOf_4 l adK adV dC dI cy ad B hB0 (Int.le_trans hB1 (by decide)) qr s1   a1 (show 0 ≤ a1.toInt from ra1) (show a1.toInt ≤ 3 from ta1) w0 H.size hT ) (cwV 2 hC.2.2.2.2 uV_RX12_372 rfl rfl rfl (by decide +kernel) ⟨Nat.le_of_ble_eq_true rfl, Nat.le_of_ble_eq_true rfl⟩) rfl hl.1 rfl (Nat.le_of_ble_eq_true rfl) dX12_canGo_21 (fun r19 w21 H locs hp20 hw => ?_)
    obtain ⟨rfl, hg26⟩ := hp20
    obtain ⟨g23, g24, c25⟩ := hg26
    refine tk_Vi hC hK hw hT hA hE hSR kM_at0 (by decide) rfl (k_X12_isOpen_2 l adK adV dC dI cy ad B hB0 (Int.le_trans hB1 (by decide)) qr s1   x6 (show 0 ≤ x6.toInt from c8) (show x6.toInt ≤ 11 from tx6) r11 (show 0 ≤ r11.toInt by first | with_reducible assumption | omega) (show r11.toInt ≤ 9 by first | with_reducible assumption | omega) r19 (show 0 ≤ r19.toInt by first | with_reducible assumption | omega) (show r19.toInt ≤ 1073741824 by first | with_reducible assumption | omega) w0 H.size hT ) (cwV 3 hC.2.2.2.2 uV_RX12_334 rfl rfl rfl (by decide +kernel) ⟨Nat.le_of_ble_eq_true rfl, Nat.le_of_ble_eq_true rfl⟩) rfl hl.1 rfl (Nat.le_of_ble_eq_true rfl) dX12_canGo_24 (fun r27 w29 H locs hp28 hw => ?_)
    obtain ⟨rfl, hg46⟩ := hp28
    rcases hg46 with ⟨rfl, hq31⟩ | ⟨rfl, c32, c33, hq34⟩ | ⟨rfl, c35, hq36⟩ | ⟨rfl, c37, hq38⟩ | ⟨rfl, c39, c40, hq41⟩ | ⟨rfl, c42, hq43⟩ | ⟨rfl, c44, hq45⟩
    · refine lv_if_eq (tgt := 34) hx hb dX12_canGo_27 (by decide) (fun _ => ?_) (fun c => absurd (by decide) c)
      exact J34 x6 H locs ls  (show 0 ≤ a1.toInt from ra1) (show a1.toInt ≤ 3 from ta1) (show (-1) ≤ x6.toInt from rx6) (show x6.toInt ≤ 11 from tx6)  hw  c7 (lv_sub hl [0, 1] rfl)
    · refine lv_if_eq (tgt := 34) hx hb dX12_canGo_27 (by decide) (fun _ => ?_) (fun c => absurd (by decide) c)
      exact J34 x6 H locs ls  (show 0 ≤ a1.toInt from ra1) (show a1.toInt ≤ 3 from ta1) (show (-1) ≤ x6.toInt from rx6) (show x6.toInt ≤ 11 from tx6)  hw  c7 (lv_sub hl [0, 1] rfl)
    · refine lv_if_eq (tgt := 34) hx hb dX12_canGo_27 (by decide) (fun _ => ?_) (fun c => absurd (by decide) c)
      exact J34 x6 H locs ls  (show 0 ≤ a1.toInt from ra1) (show a1.toInt ≤ 3 from ta1) (show (-1) ≤ x6.toInt from rx6) (show x6.toInt ≤ 11 from tx6)  hw  c7 (lv_sub hl [0, 1] rfl)
    · refine lv_if_eq (tgt := 34) hx hb dX12_canGo_27 (by decide) (fun _ => ?_) (fun c => absurd (by decide) c)
      exact J34 x6 H locs ls  (show 0 ≤ a1.toInt from ra1) (show a1.toInt ≤ 3 from ta1) (show (-1) ≤ x6.toInt from rx6) (show x6.toInt ≤ 11 from tx6)  hw  c7 (lv_sub hl [0, 1] rfl)
    · refine lv_if_eq (tgt := 34) hx hb dX12_canGo_27 (by decide) (fun c => absurd c (by decide)) (fun _ => ?_)
      refine lv_iconst (v := 1) hx hb dX12_canGo_30 (by decide) ?_
      refine lv_goto (tgt := 35) hx hb dX12_canGo_31 (by decide) ?_
      exact tk_zret hC hr rfl hlocks hK ⟨rfl, (Or.inr ⟨rfl, ⟨x6, c7, (show 0 ≤ x6.toInt from c8), (show x6.toInt ≤ 11 from tx6)⟩⟩)⟩ hw dX12_canGo_35
    · refine lv_if_eq (tgt := 34) hx hb dX12_canGo_27 (by decide) (fun c => absurd c (by decide)) (fun _ => ?_)
      refine lv_iconst (v := 1) hx hb dX12_canGo_30 (by decide) ?_
      refine lv_goto (tgt := 35) hx hb dX12_canGo_31 (by decide) ?_
      exact tk_zret hC hr rfl hlocks hK ⟨rfl, (Or.inr ⟨rfl, ⟨x6, c7, (show 0 ≤ x6.toInt from c8), (show x6.toInt ≤ 11 from tx6)⟩⟩)⟩ hw dX12_canGo_35
    · refine lv_if_eq (tgt := 34) hx hb dX12_canGo_27 (by decide) (fun c => absurd c (by decide)) (fun _ => ?_)
      refine lv_iconst (v := 1) hx hb dX12_canGo_30 (by decide) ?_
      refine lv_goto (tgt := 35) hx hb dX12_canGo_31 (by decide) ?_
      exact tk_zret hC hr rfl hlocks hK ⟨rfl, (Or.inr ⟨rfl, ⟨x6, c7, (show 0 ≤ x6.toInt from c8), (show x6.toInt ≤ 11 from tx6)⟩⟩)⟩ hw dX12_canGo_35
abbrev P_X12_walkerOf_5 (ad : Nat → Nat) (cy : Nat → ClassId) (B : Int) (qr : Nat) (s1 : Int) (a1 : Int32) (w0 : va_W) : Int32 → va_W → Prop := fun r u => w0 = u ∧ ((gi u 12 (9 * a1.toInt + 224).toNat = r))
set_option maxHeartbeats 4000000 in
set_option maxRecDepth 100000 in
theorem k_X12_walkerOf_5 (l : Launch) (adK adV : Nat → Nat) (dC : Nat → ClassId) (dI : Nat → Nat → Nat) (cy : Nat → ClassId) (ad : Nat → Nat) (B : Int) (hB0 : 100000 ≤ B) (hB1 : B ≤ 1073741824) (qr : Nat) (s1 : Int)  (a1 : Int32) (ra1 : 0 ≤ a1.toInt) (ta1 : a1.toInt ≤ 3) (w0 : va_W) (sz : Nat) (hT : TW ksM ad cy B qr 12 w0)  : Met l yX12_walkerOf (wu yX12_walkerOf cX12_walkerOf 3 (some .int)) ({ frames := 1, cells := 0, slots := 0, locals := 12 }) (va_Pc [.ref (ad 0), .int a1, .int 8] (wpreS adK adV dC dI cy sz w0)) (va_Qi (P_X12_walkerOf_5 ad cy B qr s1 a1 w0) (fun u : va_W => wpost dC dI cy (va_A w0 sz) u) (va_A w0 sz)) 0 0 (va_A w0 sz) := by
  refine Met.ofW (cc := cX12_walkerOf) (maxL := 3) (ret := (some .int)) (by decide) rfl ?_
  intro p e s m args below meth c s₁ Bk hml hv
  obtain ⟨rfl, ⟨hsz, hP, hK, hD0⟩, hE, hSR⟩ := hv
  have hx := Bk.exec
  have hb := Bk.bytes
  have hr := Bk.returns
  have hlocks := Bk.notSynchronized
  have hC : CallFix p m c cX12_walkerOf 3 s _ (wu yX12_walkerOf cX12_walkerOf 3 (some .int)) RX12 := ⟨hx, hb, hml, findClass_of_methodNamed Bk.named, atoms_spec (ws := (wu yX12_walkerOf cX12_walkerOf 3 (some .int))) Bk.pre⟩
  subst hsz
  have hD := hD0.self (sz := s.heap.size)
  generalize hAe : va_A w0 s.heap.size = A at hD hE ⊢
  have hA : ∀ q : Nat, s.heap.size ≤ q → A q := fun q h => by rw [← hAe]; exact Or.inr h
  have hw : Wd dC dI A s.heap s.heap [] w0 := ⟨hP, hD, va_S.rf⟩
  have hF : FE ksM ([] : List (Nat × Nat × Nat)) w0 w0 := FE.rf
  have hl := lv_entry ([.ref (ad 0), .int a1, .int 8]) (n := 3) (Nat.le_of_ble_eq_true rfl)
  rw [lg_entry_eq]
  generalize (lg_sl ([.ref (ad 0), .int a1, .int 8]) ++ List.replicate (3 - (lg_sl ([.ref (ad 0), .int a1, .int 8])).length) Slot.unset).toArray = ls at hl ⊢
  have hl : lv_has ls 3 [(0, .ref (ad 0)), (1, .int a1), (2, .int 8)] := hl
  generalize hloc : ([] : List Loc) = locs at hw ⊢
  have hinX12 : ∀ w ∈ u_ws RX12 TX12 42, w ∈ (wu yX12_walkerOf cX12_walkerOf 3 (some .int)) := fun _ h => List.mem_cons_of_mem _ (up_71 h)
  refine lv_aload_n hx hb dX12_walkerOf_0 rfl (lv_at hl 0 rfl) ?_
  refine tk_getA hC hK hw hT hinX12 kM_at0 (by decide) rfl 26 (by decide) (List.mem_cons_of_mem _ uw_7_1) rfl rfl dX12_walkerOf_1 ?_
  refine lv_sipush (v := 216) hx hb dX12_walkerOf_4 (by decide) ?_
  refine lv_bipush (v := 9) hx hb dX12_walkerOf_7 (by decide) ?_
  refine lv_iload_n hx hb dX12_walkerOf_9 rfl (lv_at hl 1 rfl) ?_
  refine lv_imul hx hb dX12_walkerOf_10 ?_
  refine lv_topi (fun x1 ex1 => ?_)
  have ex1 : x1.toInt = (9 : Int) * a1.toInt := by rw [ex1]; exact wk_mul (show (-2147483648) ≤ (9 : Int) * a1.toInt by omega) (show (9 : Int) * a1.toInt ≤ 2147483647 by omega)
  refine lv_iadd hx hb dX12_walkerOf_11 ?_
  refine lv_topi (fun x2 ex2 => ?_)
  have ex2 : x2.toInt = (216 : Int) + x1.toInt := by rw [ex2]; exact wk_add (show (-2147483648) ≤ (216 : Int) + x1.toInt by omega) (show (216 : Int) + x1.toInt ≤ 2147483647 by omega)
  refine lv_iload_n hx hb dX12_walkerOf_12 rfl (lv_at hl 2 rfl) ?_
  refine lv_iadd hx hb dX12_walkerOf_13 ?_
  refine lv_topi (fun x3 ex3 => ?_)
  have ex3 : x3.toInt = x2.toInt + (8 : Int) := by rw [ex3]; exact wk_add (show (-2147483648) ≤ x2.toInt + (8 : Int) by omega) (show x2.toInt + (8 : Int) ≤ 2147483647 by omega)
  refine tk_ialdR hC hK hw hT kM_at12 rfl (show 0 ≤ x3.toInt by first | with_reducible assumption | omega) (show x3.toInt < 296 by first | with_reducible assumption | omega) dX12_walkerOf_14 (fun x4 c5 Ex4 => ?_)
  have c5 : gi w0 12 (9 * a1.toInt + 224).toNat = x4 := (congrArg (gi w0 12) (congrArg Int.toNat (show 9 * a1.toInt + 224 = x3.toInt by first | exact Int.le_antisymm (by omega) (by omega) | omega))).trans c5
  exact tk_iret hC hr hlocks hK ⟨rfl, c5⟩ hw dX12_walkerOf_15
abbrev P_X12_askedToday_1 (ad : Nat → Nat) (cy : Nat → ClassId) (B : Int) (qr : Nat) (s1 : Int) (a1 : Int32) (w0 : va_W) : Int32 → va_W → Prop := fun r u => w0 = u ∧ ((r = 0) ∨ (r = 1))
set_option maxHeartbeats 4000000 in
set_option maxRecDepth 100000 in
theorem k_X12_askedToday_1 (l : Launch) (adK adV : Nat → Nat) (dC : Nat → ClassId) (dI : Nat → Nat → Nat) (cy : Nat → ClassId) (ad : Nat → Nat) (B : Int) (hB0 : 100000 ≤ B) (hB1 : B ≤ 1073741824) (qr : Nat) (s1 : Int)  (a1 : Int32) (ra1 : 0 ≤ a1.toInt) (ta1 : a1.toInt ≤ 3) (w0 : va_W) (sz : Nat) (hT : TW ksM ad cy B qr 12 w0)  : Met l yX12_askedToday (wu yX12_askedToday cX12_askedToday 2 (some .boolean)) ({ frames := 2, cells := 0, slots := 0, locals := 34 }) (va_Pc [.ref (ad 0), .int a1] (wpreS adK adV dC dI cy sz w0)) (va_Qi (P_X12_askedToday_1 ad cy B qr s1 a1 w0) (fun u : va_W => wpost dC dI cy (va_A w0 sz) u) (va_A w0 sz)) 0 0 (va_A w0 sz) := by
  refine Met.ofW (cc := cX12_askedToday) (maxL := 2) (ret := (some .boolean)) (by decide) rfl ?_
  intro p e s m args below meth c s₁ Bk hml hv
  obtain ⟨rfl, ⟨hsz, hP, hK, hD0⟩, hE, hSR⟩ := hv
  have hx := Bk.exec
  have hb := Bk.bytes
  have hr := Bk.returns
  have hlocks := Bk.notSynchronized
  have hC : CallFix p m c cX12_askedToday 2 s _ (wu yX12_askedToday cX12_askedToday 2 (some .boolean)) RX12 := ⟨hx, hb, hml, findClass_of_methodNamed Bk.named, atoms_spec (ws := (wu yX12_askedToday cX12_askedToday 2 (some .boolean))) Bk.pre⟩
  subst hsz
  have hD := hD0.self (sz := s.heap.size)
  generalize hAe : va_A w0 s.heap.size = A at hD hE ⊢
  have hA : ∀ q : Nat, s.heap.size ≤ q → A q := fun q h => by rw [← hAe]; exact Or.inr h
  have hw : Wd dC dI A s.heap s.heap [] w0 := ⟨hP, hD, va_S.rf⟩
  have hF : FE ksM ([] : List (Nat × Nat × Nat)) w0 w0 := FE.rf
  have hl := lv_entry ([.ref (ad 0), .int a1]) (n := 2) (Nat.le_of_ble_eq_true rfl)
  rw [lg_entry_eq]
  generalize (lg_sl ([.ref (ad 0), .int a1]) ++ List.replicate (2 - (lg_sl ([.ref (ad 0), .int a1])).length) Slot.unset).toArray = ls at hl ⊢
  have hl : lv_has ls 2 [(0, .ref (ad 0)), (1, .int a1)] := hl
  generalize hloc : ([] : List Loc) = locs at hw ⊢
  refine lv_aload_n hx hb dX12_askedToday_0 rfl (lv_at hl 0 rfl) ?_
  refine lv_iload_n hx hb dX12_askedToday_1 rfl (lv_at hl 1 rfl) ?_
  refine lv_bipush (v := 8) hx hb dX12_askedToday_2 (by decide) ?_
  refine tk_Vi hC hK hw hT hA hE hSR kM_at0 (by decide) rfl (k_X12_walkerOf_5 l adK adV dC dI cy ad B hB0 (Int.le_trans hB1 (by decide)) qr s1   a1 (show 0 ≤ a1.toInt from ra1) (show a1.toInt ≤ 3 from ta1) w0 s.heap.size hT ) (cwV 2 hC.2.2.2.2 uV_RX12_372 rfl rfl rfl (by decide +kernel) ⟨Nat.le_of_ble_eq_true rfl, Nat.le_of_ble_eq_true rfl⟩) rfl hl.1 rfl (Nat.le_of_ble_eq_true rfl) dX12_askedToday_4 (fun r1 w3 H locs hp2 hw => ?_)
  obtain ⟨rfl, hg6⟩ := hp2
  have c5 := hg6
  refine lv_aload_n hx hb dX12_askedToday_7 rfl (lv_at hl 0 rfl) ?_
  refine lv_iload_n hx hb dX12_askedToday_8 rfl (lv_at hl 1 rfl) ?_
  refine lv_iconst (v := 4) hx hb dX12_askedToday_9 (by decide) ?_
  refine tk_Vi hC hK hw hT hA hE hSR kM_at0 (by decide) rfl (k_X12_walkerOf_4 l adK adV dC dI cy ad B hB0 (Int.le_trans hB1 (by decide)) qr s1   a1 (show 0 ≤ a1.toInt from ra1) (show a1.toInt ≤ 3 from ta1) w0 H.size hT ) (cwV 2 hC.2.2.2.2 uV_RX12_372 rfl rfl rfl (by decide +kernel) ⟨Nat.le_of_ble_eq_true rfl, Nat.le_of_ble_eq_true rfl⟩) rfl hl.1 rfl (Nat.le_of_ble_eq_true rfl) dX12_askedToday_10 (fun r7 w9 H locs hp8 hw => ?_)
  obtain ⟨rfl, hg14⟩ := hp8
  obtain ⟨g11, g12, c13⟩ := hg14
  refine lv_bipush (v := 24) hx hb dX12_askedToday_13 (by decide) ?_
  refine lv_idiv hx hb dX12_askedToday_15 (by decide) ?_
  refine lv_topi (fun x15 ex15 => ?_)
  have ex15 : x15.toInt = r7.toInt / (24 : Int) := by rw [ex15]; exact wk_div (show 0 ≤ r7.toInt by first | with_reducible assumption | omega) (show 0 < (24 : Int) by decide)
  refine lv_icmp_ne (tgt := 23) hx hb dX12_askedToday_16 (by decide) (fun c16 => ?_) (fun c16 => ?_)
  · have c16 : ¬ r1.toInt = x15.toInt := wk_eqF c16
    refine lv_iconst (v := 0) hx hb dX12_askedToday_23 (by decide) ?_
    exact tk_zret hC hr rfl hlocks hK ⟨rfl, (Or.inl rfl)⟩ hw dX12_askedToday_24
  · have c16 : r1.toInt = x15.toInt := wk_eq.mp c16
    refine lv_iconst (v := 1) hx hb dX12_askedToday_19 (by decide) ?_
    refine lv_goto (tgt := 24) hx hb dX12_askedToday_20 (by decide) ?_
    exact tk_zret hC hr rfl hlocks hK ⟨rfl, (Or.inr rfl)⟩ hw dX12_askedToday_24
