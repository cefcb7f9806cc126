abbrev P_X1_lookAround_3 (ad : Nat → Nat) (cy : Nat → ClassId) (B : Int) (qr : Nat) (s1 : Int)  (w0 : va_W) : va_W → Prop := fun u => TW ksC ad cy B qr s1 u ∧ FE ksC [(1, 5, 5), (1, 6, 6), (1, 7, 7), (1, 8, 8)] w0 u ∧ (((∃ y : Int32, gi u 149 7 = y ∧ (-1) ≤ y.toInt ∧ y.toInt ≤ (-1)) ∧ (∃ y : Int32, gi u 149 8 = y ∧ 0 ≤ y.toInt ∧ y.toInt ≤ 999999)))
set_option maxHeartbeats 4000000 in
set_option maxRecDepth 100000 in
theorem k_X1_lookAround_3 (l : Launch) (adK adV : Nat → Nat) (dC : Nat → ClassId) (dI : Nat → Nat → Nat) (cy : Nat → ClassId) (ad : Nat → Nat) (B : Int) (hB0 : 2147483648 ≤ B) (hB1 : B ≤ 1152921504606846976) (qr : Nat) (s1 : Int)   (w0 : va_W) (sz : Nat) (hT : TW ksC ad cy B qr s1 w0)  : Met l yX1_lookAround (wu yX1_lookAround cX1_lookAround 5 none) ({ frames := 4, cells := 0, slots := 0, locals := 88 }) (va_Pc [.ref (ad 149), .ref (ad 152), .int 0] (wpreS adK adV dC dI cy sz w0)) (va_Qv (P_X1_lookAround_3 ad cy B qr s1  w0) (fun u : va_W => wpost dC dI cy (va_A w0 sz) u) (va_A w0 sz)) 0 0 (va_A w0 sz) := by
  refine Met.ofW (cc := cX1_lookAround) (maxL := 5) (ret := none) (by decide) rfl ?_
  intro p e s m args below meth c s₁ Bk hml hv
  obtain ⟨rfl, ⟨hsz, hP, hK, hD0⟩, hE, hSR⟩ := hv
  have hx := Bk.exec
  have hb := Bk.bytes
  have hr := Bk.returns
  have hlocks := Bk.notSynchronized
  have hC : CallFix p m c cX1_lookAround 5 s _ (wu yX1_lookAround cX1_lookAround 5 none) RX1 := ⟨hx, hb, hml, findClass_of_methodNamed Bk.named, atoms_spec (ws := (wu yX1_lookAround cX1_lookAround 5 none)) Bk.pre⟩
  subst hsz
  have hD := hD0.self (sz := s.heap.size)
  generalize hAe : va_A w0 s.heap.size = A at hD hE ⊢
  have hA : ∀ q : Nat, s.heap.size ≤ q → A q := fun q h => by rw [← hAe]; exact Or.inr h
  have hw : Wd dC dI A s.heap s.heap [] w0 := ⟨hP, hD, va_S.rf⟩
  have hF : FE ksC [(1, 5, 5), (1, 6, 6), (1, 7, 7), (1, 8, 8)] w0 w0 := FE.rf
  have hl := lv_entry ([.ref (ad 149), .ref (ad 152), .int 0]) (n := 5) (Nat.le_of_ble_eq_true rfl)
  rw [lg_entry_eq]
  generalize (lg_sl ([.ref (ad 149), .ref (ad 152), .int 0]) ++ List.replicate (5 - (lg_sl ([.ref (ad 149), .ref (ad 152), .int 0])).length) Slot.unset).toArray = ls at hl ⊢
  have hl : lv_has ls 5 [(0, .ref (ad 149)), (1, .ref (ad 152)), (2, .int 0)] := hl
  generalize hloc : ([] : List Loc) = locs at hw ⊢
  have hinX9 : ∀ w ∈ u_ws RX9 TX9 9, w ∈ (wu yX1_lookAround cX1_lookAround 5 none) := fun _ h => List.mem_cons_of_mem _ (up_82 h)
  have hinX1 : ∀ w ∈ u_ws RX1 TX1 10, w ∈ (wu yX1_lookAround cX1_lookAround 5 none) := fun _ h => List.mem_cons_of_mem _ (up_78 h)
  have J159 : ∀ (v159_3 : Int32) (f159_149_5 : Int32) (f159_149_6 : Int32) (f159_149_8 : Int32) (f159_152_0 : Int32) (f159_152_1 : Int32) (H : Heap) (locs : List Loc) (ls : Array Slot) (w1 : va_W), 0 ≤ v159_3.toInt → v159_3.toInt ≤ 10 → (-1) ≤ f159_149_5.toInt → f159_149_5.toInt ≤ 11 → 0 ≤ f159_149_6.toInt → f159_149_6.toInt ≤ 1 → 0 ≤ f159_149_8.toInt → f159_149_8.toInt ≤ 999999 → 0 ≤ f159_152_0.toInt → f159_152_0.toInt ≤ 9 → 0 ≤ f159_152_1.toInt → f159_152_1.toInt ≤ 9 → Wd dC dI A s.heap H locs w1 → TW ksC ad cy B qr s1 w1 → FE ksC [(1, 5, 5), (1, 6, 6), (1, 7, 7), (1, 8, 8)] w0 w1 → gi w1 149 5 = f159_149_5 → gi w1 149 6 = f159_149_6 → gi w1 149 7 = (-1) → gi w1 149 8 = f159_149_8 → gi w1 152 0 = f159_152_0 → gi w1 152 1 = f159_152_1 → lv_has ls 5 [(0, .ref (ad 149)), (1, .ref (ad 152)), (2, .int 0), (3, .int v159_3), (4, .int 0)] → W p l e ({ frames := 4, cells := 0, slots := 0, locals := 88 }) s m (List.toArray [.ref (ad 149), .ref (ad 152), .int 0]) below meth c H locs 0 0 (MQ below (va_Qv (P_X1_lookAround_3 ad cy B qr s1  w0) (fun u : va_W => wpost dC dI cy A u) A) (List.toArray [.ref (ad 149), .ref (ad 152), .int 0]) s 0 0 A) (F0 m 159 ls []) := by
    intro v159_3 f159_149_5 f159_149_6 f159_149_8 f159_152_0 f159_152_1 H locs ls w1 r2 t3 r4 t5 r7 t8 r11 t12 r14 t15 r17 t18 hw hT hF c6 c9 c10 c13 c16 c19 hl
    exact tk_vret hC hr hlocks hK ⟨hT, hF, ⟨⟨(-1), c10, (by decide), (by decide)⟩, ⟨f159_149_8, c13, (show 0 ≤ f159_149_8.toInt from r11), (show f159_149_8.toInt ≤ 999999 from t12)⟩⟩⟩ hw dX1_lookAround_159
  have L110 : ∀ (v110_3 : Int32) (f110_149_5 : Int32) (f110_149_6 : Int32) (f110_149_8 : Int32) (f110_152_0 : Int32) (f110_152_1 : Int32) (H : Heap) (locs : List Loc) (ls : Array Slot) (w20 : va_W), 0 ≤ v110_3.toInt → v110_3.toInt ≤ 10 → (-1) ≤ f110_149_5.toInt → f110_149_5.toInt ≤ 11 → 0 ≤ f110_149_6.toInt → f110_149_6.toInt ≤ 1 → 0 ≤ f110_149_8.toInt → f110_149_8.toInt ≤ 999999 → 0 ≤ f110_152_0.toInt → f110_152_0.toInt ≤ 9 → 0 ≤ f110_152_1.toInt → f110_152_1.toInt ≤ 9 → Wd dC dI A s.heap H locs w20 → TW ksC ad cy B qr s1 w20 → FE ksC [(1, 5, 5), (1, 6, 6), (1, 7, 7), (1, 8, 8)] w0 w20 → gi w20 149 5 = f110_149_5 → gi w20 149 6 = f110_149_6 → gi w20 149 7 = (-1) → gi w20 149 8 = f110_149_8 → gi w20 152 0 = f110_152_0 → gi w20 152 1 = f110_152_1 → lv_has ls 5 [(0, .ref (ad 149)), (1, .ref (ad 152)), (2, .int 0), (3, .int v110_3), (4, .int 0)] → W p l e ({ frames := 4, cells := 0, slots := 0, locals := 88 }) s m (List.toArray [.ref (ad 149), .ref (ad 152), .int 0]) below meth c H locs 0 0 (MQ below (va_Qv (P_X1_lookAround_3 ad cy B qr s1  w0) (fun u : va_W => wpost dC dI cy A u) A) (List.toArray [.ref (ad 149), .ref (ad 152), .int 0]) s 0 0 A) (F0 m 110 ls []) := by
    intro v110_3 f110_149_5 f110_149_6 f110_149_8 f110_152_0 f110_152_1 H locs ls w20 r21 t22 r23 t24 r26 t27 r30 t31 r33 t34 r36 t37 hw hT hF c25 c28 c29 c32 c35 c38 hl
    refine lv_iload_n hx hb dX1_lookAround_110 rfl (lv_at hl 2 rfl) ?_
    refine lv_if_eq (tgt := 159) hx hb dX1_lookAround_111 (by decide) (fun _ => ?_) (fun c => absurd (by decide) c)
    exact J159 v110_3 f110_149_5 f110_149_6 f110_149_8 f110_152_0 f110_152_1 H locs ls w20 (show 0 ≤ v110_3.toInt from r21) (show v110_3.toInt ≤ 10 from t22) (show (-1) ≤ f110_149_5.toInt from r23) (show f110_149_5.toInt ≤ 11 from t24) (show 0 ≤ f110_149_6.toInt from r26) (show f110_149_6.toInt ≤ 1 from t27) (show 0 ≤ f110_149_8.toInt from r30) (show f110_149_8.toInt ≤ 999999 from t31) (show 0 ≤ f110_152_0.toInt from r33) (show f110_152_0.toInt ≤ 9 from t34) (show 0 ≤ f110_152_1.toInt from r36) (show f110_152_1.toInt ≤ 9 from t37)  hw hT hF c25 c28 c29 c32 c35 c38 (lv_sub hl [0, 1, 2, 3, 4] rfl)
  have J24 : ∀ (H : Heap) (locs : List Loc) (ls : Array Slot) (w39 : va_W), Wd dC dI A s.heap H locs w39 → TW ksC ad cy B qr s1 w39 → FE ksC [(1, 5, 5), (1, 6, 6), (1, 7, 7), (1, 8, 8)] w0 w39 → lv_has ls 5 [(0, .ref (ad 149)), (1, .ref (ad 152)), (2, .int 0)] → W p l e ({ frames := 4, cells := 0, slots := 0, locals := 88 }) s m (List.toArray [.ref (ad 149), .ref (ad 152), .int 0]) below meth c H locs 0 0 (MQ below (va_Qv (P_X1_lookAround_3 ad cy B qr s1  w0) (fun u : va_W => wpost dC dI cy A u) A) (List.toArray [.ref (ad 149), .ref (ad 152), .int 0]) s 0 0 A) (F0 m 24 ls []) := by
    intro H locs ls w39 hw hT hF hl
    refine lv_aload_n hx hb dX1_lookAround_24 rfl (lv_at hl 1 rfl) ?_
    refine tk_geti hC hK hw hT hinX9 kC_at152 (by decide) rfl 2 (by decide) (List.mem_cons_of_mem _ uw_42_21) rfl rfl dX1_lookAround_25 (fun x40 c41 rx40 tx40 => ?_)
    refine lv_istore_n (lv' := [(3, .int x40), (0, .ref (ad 149)), (1, .ref (ad 152)), (2, .int 0)]) hx hb dX1_lookAround_28 rfl hl (by decide) rfl (fun ls hl => ?_)
    refine lv_aload_n hx hb dX1_lookAround_29 rfl (lv_at hl 1 rfl) ?_
    refine lv_aload_n hx hb dX1_lookAround_30 rfl (lv_at hl 1 rfl) ?_
    refine tk_getA hC hK hw hT hinX1 kC_at149 (by decide) rfl 1 (by decide) (List.mem_cons_of_mem _ uw_5_1) rfl rfl dX1_lookAround_31 ?_
    refine lv_iload_n hx hb dX1_lookAround_34 rfl (lv_at hl 0 rfl) ?_
    refine lv_aload_n hx hb dX1_lookAround_35 rfl (lv_at hl 2 rfl) ?_
    refine tk_geti hC hK hw hT hinX9 kC_at152 (by decide) rfl 0 (by decide) (List.mem_cons_of_mem _ uw_42_22) rfl rfl dX1_lookAround_36 (fun x42 c43 rx42 tx42 => ?_)
    refine lv_aload_n hx hb dX1_lookAround_39 rfl (lv_at hl 2 rfl) ?_
    refine tk_geti hC hK hw hT hinX9 kC_at152 (by decide) rfl 1 (by decide) (List.mem_cons_of_mem _ uw_42_23) rfl rfl dX1_lookAround_40 (fun x44 c45 rx44 tx44 => ?_)
    refine tk_Vi hC hK hw hT hA hE hSR kC_at145 (by decide) rfl (k_X0_streetBy_1 l adK adV dC dI cy ad B hB0 (Int.le_trans hB1 (by decide)) qr s1   x40 (show 0 ≤ x40.toInt from rx40) (show x40.toInt ≤ 3 from tx40) x42 (show 0 ≤ x42.toInt from rx42) (show x42.toInt ≤ 9 from tx42) x44 (show 0 ≤ x44.toInt from rx44) (show x44.toInt ≤ 9 from tx44) w39 H.size hT ) (cwV 3 hC.2.2.2.2 uV_RX1_106 rfl rfl rfl (by decide +kernel) ⟨Nat.le_of_ble_eq_true rfl, Nat.le_of_ble_eq_true rfl⟩) rfl hl.1 rfl (Nat.le_of_ble_eq_true rfl) dX1_lookAround_43 (fun r46 w48 H locs hp47 hw => ?_)
    obtain ⟨hT, k49, hg52⟩ := hp47
    have hF := hF.tr k49 (by decide)
    have c53 := k49.gi kC_at152 (by decide) c41
    have c54 := k49.gi kC_at152 (by decide) c43
    have c55 := k49.gi kC_at152 (by decide) c45
    obtain ⟨g50, g51⟩ := hg52
    refine tk_puti hC hK hw hT hinX1 tyX1_ok nmX1 kC_at149 (by decide) rfl rfl 5 (by decide) (List.mem_cons_of_mem _ uw_42_6) rfl rfl rfl rfl (show (-1) ≤ r46.toInt by first | with_reducible assumption | omega) (show r46.toInt ≤ 11 by first | with_reducible assumption | omega) dX1_lookAround_46 (fun H locs w56 hw hT k58 c57 => ?_)
    have hF := hF.put kC_at149 (k := 5) (by decide) k58
    have c59 := k58.gi (Or.inr (by decide)) c53
    have c60 := k58.gi (Or.inr (by decide)) c54
    have c61 := k58.gi (Or.inr (by decide)) c55
    refine lv_aload_n hx hb dX1_lookAround_49 rfl (lv_at hl 1 rfl) ?_
    refine lv_aload_n hx hb dX1_lookAround_50 rfl (lv_at hl 1 rfl) ?_
    refine tk_geti hC hK hw hT hinX1 kC_at149 (by decide) rfl 5 (by decide) (List.mem_cons_of_mem _ uw_42_6) rfl rfl dX1_lookAround_51 (fun x62 c63 rx62 tx62 => ?_)
    refine wk_top r46 (c63.symm.trans c57) ?_
    refine lv_iconst (v := (-1)) hx hb dX1_lookAround_54 (by decide) ?_
    refine lv_icmp_eq (tgt := 74) hx hb dX1_lookAround_55 (by decide) (fun c64 => ?_) (fun c64 => ?_)
    · have c64 : r46.toInt = (-1 : Int) := wk_eq.mp c64
      refine lv_iconst (v := 0) hx hb dX1_lookAround_74 (by decide) ?_
      refine tk_putz hC hK hw hT hinX1 tyX1_ok nmX1 kC_at149 (by decide) rfl rfl 6 (by decide) (List.mem_cons_of_mem _ uw_42_5) rfl rfl rfl rfl (by decide) (by decide) dX1_lookAround_75 (fun H locs w65 hw hT k67 c66 => ?_)
      have hF := hF.put kC_at149 (k := 6) (by decide) k67
      have c68 := k67.gi (Or.inr (by decide)) c59
      have c69 := k67.gi (Or.inr (by decide)) c60
      have c70 := k67.gi (Or.inr (by decide)) c61
      have c71 := k67.gi (Or.inr (by decide)) c57
      refine lv_aload_n hx hb dX1_lookAround_78 rfl (lv_at hl 1 rfl) ?_
      refine lv_iconst (v := 0) hx hb dX1_lookAround_79 (by decide) ?_
      refine lv_aload_n hx hb dX1_lookAround_80 rfl (lv_at hl 1 rfl) ?_
      refine tk_getA hC hK hw hT hinX1 kC_at149 (by decide) rfl 1 (by decide) (List.mem_cons_of_mem _ uw_5_1) rfl rfl dX1_lookAround_81 ?_
      refine lv_iload_n hx hb dX1_lookAround_84 rfl (lv_at hl 0 rfl) ?_
      refine lv_aload_n hx hb dX1_lookAround_85 rfl (lv_at hl 2 rfl) ?_
      refine tk_geti hC hK hw hT hinX9 kC_at152 (by decide) rfl 0 (by decide) (List.mem_cons_of_mem _ uw_42_22) rfl rfl dX1_lookAround_86 (fun x72 c73 rx72 tx72 => ?_)
      refine wk_top x42 (c73.symm.trans c69) ?_
      refine lv_aload_n hx hb dX1_lookAround_89 rfl (lv_at hl 2 rfl) ?_
      refine tk_geti hC hK hw hT hinX9 kC_at152 (by decide) rfl 1 (by decide) (List.mem_cons_of_mem _ uw_42_23) rfl rfl dX1_lookAround_90 (fun x74 c75 rx74 tx74 => ?_)
      refine wk_top x44 (c75.symm.trans c70) ?_
      refine tk_Vi hC hK hw hT hA hE hSR kC_at145 (by decide) rfl (k_X0_hoursBy_1 l adK adV dC dI cy ad B hB0 (Int.le_trans hB1 (by decide)) qr s1   x40 (show 0 ≤ x40.toInt from rx40) (show x40.toInt ≤ 3 from tx40) x42 (show 0 ≤ x42.toInt from rx42) (show x42.toInt ≤ 9 from tx42) x44 (show 0 ≤ x44.toInt from rx44) (show x44.toInt ≤ 9 from tx44) w65 H.size hT ) (cwV 3 hC.2.2.2.2 uV_RX1_114 rfl rfl rfl (by decide +kernel) ⟨Nat.le_of_ble_eq_true rfl, Nat.le_of_ble_eq_true rfl⟩) rfl hl.1 rfl (Nat.le_of_ble_eq_true rfl) dX1_lookAround_93 (fun r76 w78 H locs hp77 hw => ?_)
      obtain ⟨hT, k79, hg82⟩ := hp77
      have hF := hF.tr k79 (by decide)
      have c83 := k79.gi kC_at152 (by decide) c68
      have c84 := k79.gi kC_at152 (by decide) c69
      have c85 := k79.gi kC_at152 (by decide) c70
      have c86 := k79.gi kC_at149 (by decide) c71
      have c87 := k79.gi kC_at149 (by decide) c66
      rcases hg82 with ⟨g80, g81⟩ | rfl
      · refine va_mmax hx hb (hC.2.2.1.trans hl.1.symm) hC.2.2.2.1 (hC.2.2.2.2 _ (List.mem_cons_of_mem _ uw_43_0)) (hC.2.2.2.2 _ (List.mem_cons_of_mem _ uw_14_15)) (hC.2.2.2.2 _ (List.mem_cons_of_mem _ uw_14_16)) (hC.2.2.2.2 _ (List.mem_cons_of_mem _ uw_14_17)) (Nat.le_of_ble_eq_true rfl) (Nat.le_of_ble_eq_true rfl) (Nat.zero_le _) (Nat.zero_le _) dX1_lookAround_96 ?_
        refine lv_topi (fun x88 ex88 => ?_)
        have bx88 : (x88.toInt = (0 : Int) ∧ r76.toInt ≤ (0 : Int)) ∨ (x88.toInt = r76.toInt ∧ (0 : Int) < r76.toInt) := by rw [ex88]; exact wk_max
        refine tk_puti hC hK hw hT hinX1 tyX1_ok nmX1 kC_at149 (by decide) rfl rfl 8 (by decide) (List.mem_cons_of_mem _ uw_43_1) rfl rfl rfl rfl (wk_i32 x88).1 (wk_i32 x88).2 dX1_lookAround_99 (fun H locs w89 hw hT k91 c90 => ?_)
        have hF := hF.put kC_at149 (k := 8) (by decide) k91
        have c92 := k91.gi (Or.inr (by decide)) c83
        have c93 := k91.gi (Or.inr (by decide)) c84
        have c94 := k91.gi (Or.inr (by decide)) c85
        have c95 := k91.gi (Or.inr (by decide)) c86
        have c96 := k91.gi (Or.inr (by decide)) c87
        refine lv_aload_n hx hb dX1_lookAround_102 rfl (lv_at hl 1 rfl) ?_
        refine lv_iconst (v := (-1)) hx hb dX1_lookAround_103 (by decide) ?_
        refine tk_puti hC hK hw hT hinX1 tyX1_ok nmX1 kC_at149 (by decide) rfl rfl 7 (by decide) (List.mem_cons_of_mem _ uw_42_7) rfl rfl rfl rfl (by decide) (by decide) dX1_lookAround_104 (fun H locs w97 hw hT k99 c98 => ?_)
        have hF := hF.put kC_at149 (k := 7) (by decide) k99
        have c100 := k99.gi (Or.inr (by decide)) c92
        have c101 := k99.gi (Or.inr (by decide)) c93
        have c102 := k99.gi (Or.inr (by decide)) c94
        have c103 := k99.gi (Or.inr (by decide)) c95
        have c104 := k99.gi (Or.inr (by decide)) c96
        have c105 := k99.gi (Or.inr (by decide)) c90
        refine lv_iconst (v := 0) hx hb dX1_lookAround_107 (by decide) ?_
        refine lv_istore (lv' := [(4, .int 0), (3, .int x40), (0, .ref (ad 149)), (1, .ref (ad 152)), (2, .int 0)]) hx hb dX1_lookAround_108 hl (by decide) rfl (fun ls hl => ?_)
        exact L110 x40 r46 0 x88 x42 x44 H locs ls w97 (show 0 ≤ x40.toInt from rx40) (show x40.toInt ≤ 10 from Int.le_trans tx40 (by decide)) (show (-1) ≤ r46.toInt by first | with_reducible assumption | omega) (show r46.toInt ≤ 11 by first | with_reducible assumption | omega) (by decide) (by decide) (show 0 ≤ x88.toInt by first | with_reducible assumption | omega) (show x88.toInt ≤ 999999 by first | with_reducible assumption | omega) (show 0 ≤ x42.toInt from rx42) (show x42.toInt ≤ 9 from tx42) (show 0 ≤ x44.toInt from rx44) (show x44.toInt ≤ 9 from tx44)  hw hT hF c103 c104 c98 c105 c101 c102 (lv_sub hl [2, 3, 4, 1, 0] rfl)
      · refine va_mmax hx hb (hC.2.2.1.trans hl.1.symm) hC.2.2.2.1 (hC.2.2.2.2 _ (List.mem_cons_of_mem _ uw_43_0)) (hC.2.2.2.2 _ (List.mem_cons_of_mem _ uw_14_15)) (hC.2.2.2.2 _ (List.mem_cons_of_mem _ uw_14_16)) (hC.2.2.2.2 _ (List.mem_cons_of_mem _ uw_14_17)) (Nat.le_of_ble_eq_true rfl) (Nat.le_of_ble_eq_true rfl) (Nat.zero_le _) (Nat.zero_le _) dX1_lookAround_96 ?_
        refine lv_topi (fun x106 ex106 => ?_)
        have bx106 : (x106.toInt = (0 : Int) ∧ (-1 : Int) ≤ (0 : Int)) ∨ (x106.toInt = (-1 : Int) ∧ (0 : Int) < (-1 : Int)) := by rw [ex106]; exact wk_max
        refine tk_puti hC hK hw hT hinX1 tyX1_ok nmX1 kC_at149 (by decide) rfl rfl 8 (by decide) (List.mem_cons_of_mem _ uw_43_1) rfl rfl rfl rfl (wk_i32 x106).1 (wk_i32 x106).2 dX1_lookAround_99 (fun H locs w107 hw hT k109 c108 => ?_)
        have hF := hF.put kC_at149 (k := 8) (by decide) k109
        have c110 := k109.gi (Or.inr (by decide)) c83
        have c111 := k109.gi (Or.inr (by decide)) c84
        have c112 := k109.gi (Or.inr (by decide)) c85
        have c113 := k109.gi (Or.inr (by decide)) c86
        have c114 := k109.gi (Or.inr (by decide)) c87
        refine lv_aload_n hx hb dX1_lookAround_102 rfl (lv_at hl 1 rfl) ?_
        refine lv_iconst (v := (-1)) hx hb dX1_lookAround_103 (by decide) ?_
        refine tk_puti hC hK hw hT hinX1 tyX1_ok nmX1 kC_at149 (by decide) rfl rfl 7 (by decide) (List.mem_cons_of_mem _ uw_42_7) rfl rfl rfl rfl (by decide) (by decide) dX1_lookAround_104 (fun H locs w115 hw hT k117 c116 => ?_)
        have hF := hF.put kC_at149 (k := 7) (by decide) k117
        have c118 := k117.gi (Or.inr (by decide)) c110
        have c119 := k117.gi (Or.inr (by decide)) c111
        have c120 := k117.gi (Or.inr (by decide)) c112
        have c121 := k117.gi (Or.inr (by decide)) c113
        have c122 := k117.gi (Or.inr (by decide)) c114
        have c123 := k117.gi (Or.inr (by decide)) c108
        refine lv_iconst (v := 0) hx hb dX1_lookAround_107 (by decide) ?_
        refine lv_istore (lv' := [(4, .int 0), (3, .int x40), (0, .ref (ad 149)), (1, .ref (ad 152)), (2, .int 0)]) hx hb dX1_lookAround_108 hl (by decide) rfl (fun ls hl => ?_)
        exact L110 x40 r46 0 x106 x42 x44 H locs ls w115 (show 0 ≤ x40.toInt from rx40) (show x40.toInt ≤ 10 from Int.le_trans tx40 (by decide)) (show (-1) ≤ r46.toInt by first | with_reducible assumption | omega) (show r46.toInt ≤ 11 by first | with_reducible assumption | omega) (by decide) (by decide) (show 0 ≤ x106.toInt by first | with_reducible assumption | omega) (show x106.toInt ≤ 999999 by first | with_reducible assumption | omega) (show 0 ≤ x42.toInt from rx42) (show x42.toInt ≤ 9 from tx42) (show 0 ≤ x44.toInt from rx44) (show x44.toInt ≤ 9 from tx44)  hw hT hF c121 c122 c116 c123 c119 c120 (lv_sub hl [2, 3, 4, 1, 0] rfl)
    · have c64 : ¬ r46.toInt = (-1 : Int) := wk_eqF c64
      refine lv_aload_n hx hb dX1_lookAround_58 rfl (lv_at hl 1 rfl) ?_
      refine lv_aload_n hx hb dX1_lookAround_59 rfl (lv_at hl 2 rfl) ?_
      refine lv_aload_n hx hb dX1_lookAround_60 rfl (lv_at hl 1 rfl) ?_
      refine tk_geti hC hK hw hT hinX1 kC_at149 (by decide) rfl 5 (by decide) (List.mem_cons_of_mem _ uw_42_6) rfl rfl dX1_lookAround_61 (fun x124 c125 rx124 tx124 => ?_)
      refine wk_top r46 (c125.symm.trans c57) ?_
      refine tk_Vi hC hK hw hT hA hE hSR kC_at149 (by decide) rfl (k_X1_isOpenFor_2 l adK adV dC dI cy ad B hB0 (Int.le_trans hB1 (by decide)) qr s1   r46 (show 0 ≤ r46.toInt by first | with_reducible assumption | omega) (show r46.toInt ≤ 11 by first | with_reducible assumption | omega) w56 H.size hT ) (cwV 2 hC.2.2.2.2 uV_RX1_110 rfl rfl rfl (by decide +kernel) ⟨Nat.le_of_ble_eq_true rfl, Nat.le_of_ble_eq_true rfl⟩) rfl hl.1 rfl (Nat.le_of_ble_eq_true rfl) dX1_lookAround_64 (fun r126 w128 H locs hp127 hw => ?_)
      obtain ⟨hT, k129, hg132⟩ := hp127
      have hF := hF.tr k129 (by decide)
      have c133 := k129.gi kC_at152 (by decide) c59
      have c134 := k129.gi kC_at152 (by decide) c60
      have c135 := k129.gi kC_at152 (by decide) c61
      have c136 := k129.gi kC_at149 (by decide) c57
      rcases hg132 with rfl | ⟨rfl, ⟨x130, c131, rx130, tx130⟩⟩
      · refine lv_if_eq (tgt := 74) hx hb dX1_lookAround_67 (by decide) (fun _ => ?_) (fun c => absurd (by decide) c)
        refine lv_iconst (v := 0) hx hb dX1_lookAround_74 (by decide) ?_
        refine tk_putz hC hK hw hT hinX1 tyX1_ok nmX1 kC_at149 (by decide) rfl rfl 6 (by decide) (List.mem_cons_of_mem _ uw_42_5) rfl rfl rfl rfl (by decide) (by decide) dX1_lookAround_75 (fun H locs w137 hw hT k139 c138 => ?_)
        have hF := hF.put kC_at149 (k := 6) (by decide) k139
        have c140 := k139.gi (Or.inr (by decide)) c133
        have c141 := k139.gi (Or.inr (by decide)) c134
        have c142 := k139.gi (Or.inr (by decide)) c135
        have c143 := k139.gi (Or.inr (by decide)) c136
        refine lv_aload_n hx hb dX1_lookAround_78 rfl (lv_at hl 1 rfl) ?_
        refine lv_iconst (v := 0) hx hb dX1_lookAround_79 (by decide) ?_
        refine lv_aload_n hx hb dX1_lookAround_80 rfl (lv_at hl 1 rfl) ?_
        refine tk_getA hC hK hw hT hinX1 kC_at149 (by decide) rfl 1 (by decide) (List.mem_cons_of_mem _ uw_5_1) rfl rfl dX1_lookAround_81 ?_
        refine lv_iload_n hx hb dX1_lookAround_84 rfl (lv_at hl 0 rfl) ?_
        refine lv_aload_n hx hb dX1_lookAround_85 rfl (lv_at hl 2 rfl) ?_
        refine tk_geti hC hK hw hT hinX9 kC_at152 (by decide) rfl 0 (by decide) (List.mem_cons_of_mem _ uw_42_22) rfl rfl dX1_lookAround_86 (fun x144 c145 rx144 tx144 => ?_)
        refine wk_top x42 (c145.symm.trans c141) ?_
        refine lv_aload_n hx hb dX1_lookAround_89 rfl (lv_at hl 2 rfl) ?_
        refine tk_geti hC hK hw hT hinX9 kC_at152 (by decide) rfl 1 (by decide) (List.mem_cons_of_mem _ uw_42_23) rfl rfl dX1_lookAround_90 (fun x146 c147 rx146 tx146 => ?_)
        refine wk_top x44 (c147.symm.trans c142) ?_
        refine tk_Vi hC hK hw hT hA hE hSR kC_at145 (by decide) rfl (k_X0_hoursBy_1 l adK adV dC dI cy ad B hB0 (Int.le_trans hB1 (by decide)) qr s1   x40 (show 0 ≤ x40.toInt from rx40) (show x40.toInt ≤ 3 from tx40) x42 (show 0 ≤ x42.toInt from rx42) (show x42.toInt ≤ 9 from tx42) x44 (show 0 ≤ x44.toInt from rx44) (show x44.toInt ≤ 9 from tx44) w137 H.size hT ) (cwV 3 hC.2.2.2.2 uV_RX1_114 rfl rfl rfl (by decide +kernel) ⟨Nat.le_of_ble_eq_true rfl, Nat.le_of_ble_eq_true rfl⟩) rfl hl.1 rfl (Nat.le_of_ble_eq_true rfl) dX1_lookAround_93 (fun r148 w150 H locs hp149 hw => ?_)
        obtain ⟨hT, k151, hg154⟩ := hp149
        have hF := hF.tr k151 (by decide)
        have c155 := k151.gi kC_at152 (by decide) c140
        have c156 := k151.gi kC_at152 (by decide) c141
        have c157 := k151.gi kC_at152 (by decide) c142
        have c158 := k151.gi kC_at149 (by decide) c143
        have c159 := k151.gi kC_at149 (by decide) c138
        rcases hg154 with ⟨g152, g153⟩ | rfl
        · refine va_mmax hx hb (hC.2.2.1.trans hl.1.symm) hC.2.2.2.1 (hC.2.2.2.2 _ (List.mem_cons_of_mem _ uw_43_0)) (hC.2.2.2.2 _ (List.mem_cons_of_mem _ uw_14_15)) (hC.2.2.2.2 _ (List.mem_cons_of_mem _ uw_14_16)) (hC.2.2.2.2 _ (List.mem_cons_of_mem _ uw_14_17)) (Nat.le_of_ble_eq_true rfl) (Nat.le_of_ble_eq_true rfl) (Nat.zero_le _) (Nat.zero_le _) dX1_lookAround_96 ?_
          refine lv_topi (fun x160 ex160 => ?_)
          have bx160 : (x160.toInt = (0 : Int) ∧ r148.toInt ≤ (0 : Int)) ∨ (x160.toInt = r148.toInt ∧ (0 : Int) < r148.toInt) := by rw [ex160]; exact wk_max
          refine tk_puti hC hK hw hT hinX1 tyX1_ok nmX1 kC_at149 (by decide) rfl rfl 8 (by decide) (List.mem_cons_of_mem _ uw_43_1) rfl rfl rfl rfl (wk_i32 x160).1 (wk_i32 x160).2 dX1_lookAround_99 (fun H locs w161 hw hT k163 c162 => ?_)
          have hF := hF.put kC_at149 (k := 8) (by decide) k163
          have c164 := k163.gi (Or.inr (by decide)) c155
          have c165 := k163.gi (Or.inr (by decide)) c156
          have c166 := k163.gi (Or.inr (by decide)) c157
          have c167 := k163.gi (Or.inr (by decide)) c158
          have c168 := k163.gi (Or.inr (by decide)) c159
          refine lv_aload_n hx hb dX1_lookAround_102 rfl (lv_at hl 1 rfl) ?_
          refine lv_iconst (v := (-1)) hx hb dX1_lookAround_103 (by decide) ?_
          refine tk_puti hC hK hw hT hinX1 tyX1_ok nmX1 kC_at149 (by decide) rfl rfl 7 (by decide) (List.mem_cons_of_mem _ uw_42_7) rfl rfl rfl rfl (by decide) (by decide) dX1_lookAround_104 (fun H locs w169 hw hT k171 c170 => ?_)
          have hF := hF.put kC_at149 (k := 7) (by decide) k171
          have c172 := k171.gi (Or.inr (by decide)) c164
          have c173 := k171.gi (Or.inr (by decide)) c165
          have c174 := k171.gi (Or.inr (by decide)) c166
          have c175 := k171.gi (Or.inr (by decide)) c167
          have c176 := k171.gi (Or.inr (by decide)) c168
          have c177 := k171.gi (Or.inr (by decide)) c162
          refine lv_iconst (v := 0) hx hb dX1_lookAround_107 (by decide) ?_
          refine lv_istore (lv' := [(4, .int 0), (3, .int x40), (0, .ref (ad 149)), (1, .ref (ad 152)), (2, .int 0)]) hx hb dX1_lookAround_108 hl (by decide) rfl (fun ls hl => ?_)
          exact L110 x40 r46 0 x160 x42 x44 H locs ls w169 (show 0 ≤ x40.toInt from rx40) (show x40.toInt ≤ 10 from Int.le_trans tx40 (by decide)) (show (-1) ≤ r46.toInt by first | with_reducible assumption | omega) (show r46.toInt ≤ 11 by first | with_reducible assumption | omega) (by decide) (by decide) (show 0 ≤ x160.toInt by first | with_reducible assumption | omega) (show x160.toInt ≤ 999999 by first | with_reducible assumption | omega) (show 0 ≤ x42.toInt from rx42) (show x42.toInt ≤ 9 from tx42) (show 0 ≤ x44.toInt from rx44) (show x44.toInt ≤ 9 from tx44)  hw hT hF c175 c176 c170 c177 c173 c174 (lv_sub hl [2, 3, 4, 1, 0] rfl)
        · refine va_mmax hx hb (hC.2.2.1.trans hl.1.symm) hC.2.2.2.1 (hC.2.2.2.2 _ (List.mem_cons_of_mem _ uw_43_0)) (hC.2.2.2.2 _ (List.mem_cons_of_mem _ uw_14_15)) (hC.2.2.2.2 _ (List.mem_cons_of_mem _ uw_14_16)) (hC.2.2.2.2 _ (List.mem_cons_of_mem _ uw_14_17)) (Nat.le_of_ble_eq_true rfl) (Nat.le_of_ble_eq_true rfl) (Nat.zero_le _) (Nat.zero_le _) dX1_lookAround_96 ?_
          refine lv_topi (fun x178 ex178 => ?_)
          have bx178 : (x178.toInt = (0 : Int) ∧ (-1 : Int) ≤ (0 : Int)) ∨ (x178.toInt = (-1 : Int) ∧ (0 : Int) < (-1 : Int)) := by rw [ex178]; exact wk_max
          refine tk_puti hC hK hw hT hinX1 tyX1_ok nmX1 kC_at149 (by decide) rfl rfl 8 (by decide) (List.mem_cons_of_mem _ uw_43_1) rfl rfl rfl rfl (wk_i32 x178).1 (wk_i32 x178).2 dX1_lookAround_99 (fun H locs w179 hw hT k181 c180 => ?_)
          have hF := hF.put kC_at149 (k := 8) (by decide) k181
          have c182 := k181.gi (Or.inr (by decide)) c155
          have c183 := k181.gi (Or.inr (by decide)) c156
          have c184 := k181.gi (Or.inr (by decide)) c157
          have c185 := k181.gi (Or.inr (by decide)) c158
          have c186 := k181.gi (Or.inr (by decide)) c159
          refine lv_aload_n hx hb dX1_lookAround_102 rfl (lv_at hl 1 rfl) ?_
          refine lv_iconst (v := (-1)) hx hb dX1_lookAround_103 (by decide) ?_
          refine tk_puti hC hK hw hT hinX1 tyX1_ok nmX1 kC_at149 (by decide) rfl rfl 7 (by decide) (List.mem_cons_of_mem _ uw_42_7) rfl rfl rfl rfl (by decide) (by decide) dX1_lookAround_104 (fun H locs w187 hw hT k189 c188 => ?_)
          have hF := hF.put kC_at149 (k := 7) (by decide) k189
          have c190 := k189.gi (Or.inr (by decide)) c182
          have c191 := k189.gi (Or.inr (by decide)) c183
          have c192 := k189.gi (Or.inr (by decide)) c184
          have c193 := k189.gi (Or.inr (by decide)) c185
          have c194 := k189.gi (Or.inr (by decide)) c186
          have c195 := k189.gi (Or.inr (by decide)) c180
          refine lv_iconst (v := 0) hx hb dX1_lookAround_107 (by decide) ?_
          refine lv_istore (lv' := [(4, .int 0), (3, .int x40), (0, .ref (ad 149)), (1, .ref (ad 152)), (2, .int 0)]) hx hb dX1_lookAround_108 hl (by decide) rfl (fun ls hl => ?_)
          exact L110 x40 r46 0 x178 x42 x44 H locs ls w187 (show 0 ≤ x40.toInt from rx40) (show x40.toInt ≤ 10 from Int.le_trans tx40 (by decide)) (show (-1) ≤ r46.toInt by first | with_reducible assumption | omega) (show r46.toInt ≤ 11 by first | with_reducible assumption | omega) (by decide) (by decide) (show 0 ≤ x178.toInt by first | with_reducible assumption | omega) (show x178.toInt ≤ 999999 by first | with_reducible assumption | omega) (show 0 ≤ x42.toInt from rx42) (show x42.toInt ≤ 9 from tx42) (show 0 ≤ x44.toInt from rx44) (show x44.toInt ≤ 9 from tx44)  hw hT hF c193 c194 c188 c195 c191 c192 (lv_sub hl [2, 3, 4, 1, 0] rfl)
      · refine lv_if_eq (tgt := 74) hx hb dX1_lookAround_67 (by decide) (fun c => absurd c (by decide)) (fun _ => ?_)
        refine lv_iconst (v := 1) hx hb dX1_lookAround_70 (by decide) ?_
        refine lv_goto (tgt := 75) hx hb dX1_lookAround_71 (by decide) ?_
        refine tk_putz hC hK hw hT hinX1 tyX1_ok nmX1 kC_at149 (by decide) rfl rfl 6 (by decide) (List.mem_cons_of_mem _ uw_42_5) rfl rfl rfl rfl (by decide) (by decide) dX1_lookAround_75 (fun H locs w196 hw hT k198 c197 => ?_)
        have hF := hF.put kC_at149 (k := 6) (by decide) k198
        have c199 := k198.gi (Or.inr (by decide)) c133
        have c200 := k198.gi (Or.inr (by decide)) c134
        have c201 := k198.gi (Or.inr (by decide)) c135
        have c202 := k198.gi (Or.inr (by decide)) c136
        have c203 := k198.gi (Or.inr (by decide)) c131
        refine lv_aload_n hx hb dX1_lookAround_78 rfl (lv_at hl 1 rfl) ?_
        refine lv_iconst (v := 0) hx hb dX1_lookAround_79 (by decide) ?_
        refine lv_aload_n hx hb dX1_lookAround_80 rfl (lv_at hl 1 rfl) ?_
        refine tk_getA hC hK hw hT hinX1 kC_at149 (by decide) rfl 1 (by decide) (List.mem_cons_of_mem _ uw_5_1) rfl rfl dX1_lookAround_81 ?_
        refine lv_iload_n hx hb dX1_lookAround_84 rfl (lv_at hl 0 rfl) ?_
        refine lv_aload_n hx hb dX1_lookAround_85 rfl (lv_at hl 2 rfl) ?_
        refine tk_geti hC hK hw hT hinX9 kC_at152 (by decide) rfl 0 (by decide) (List.mem_cons_of_mem _ uw_42_22) rfl rfl dX1_lookAround_86 (fun x204 c205 rx204 tx204 => ?_)
        refine wk_top x42 (c205.symm.trans c200) ?_
        refine lv_aload_n hx hb dX1_lookAround_89 rfl (lv_at hl 2 rfl) ?_
        refine tk_geti hC hK hw hT hinX9 kC_at152 (by decide) rfl 1 (by decide) (List.mem_cons_of_mem _ uw_42_23) rfl rfl dX1_lookAround_90 (fun x206 c207 rx206 tx206 => ?_)
        refine wk_top x44 (c207.symm.trans c201) ?_
        refine tk_Vi hC hK hw hT hA hE hSR kC_at145 (by decide) rfl (k_X0_hoursBy_1 l adK adV dC dI cy ad B hB0 (Int.le_trans hB1 (by decide)) qr s1   x40 (show 0 ≤ x40.toInt from rx40) (show x40.toInt ≤ 3 from tx40) x42 (show 0 ≤ x42.toInt from rx42) (show x42.toInt ≤ 9 from tx42) x44 (show 0 ≤ x44.toInt from rx44) (show x44.toInt ≤ 9 from tx44) w196 H.size hT ) (cwV 3 hC.2.2.2.2 uV_RX1_114 rfl rfl rfl (by decide +kernel) ⟨Nat.le_of_ble_eq_true rfl, Nat.le_of_ble_eq_true rfl⟩) rfl hl.1 rfl (Nat.le_of_ble_eq_true rfl) dX1_lookAround_93 (fun r208 w210 H locs hp209 hw => ?_)
        obtain ⟨hT, k211, hg214⟩ := hp209
        have hF := hF.tr k211 (by decide)
        have c215 := k211.gi kC_at152 (by decide) c199
        have c216 := k211.gi kC_at152 (by decide) c200
        have c217 := k211.gi kC_at152 (by decide) c201
        have c218 := k211.gi kC_at149 (by decide) c202
        have c219 := k211.gi kC_at149 (by decide) c203
        have c220 := k211.gi kC_at149 (by decide) c197
        rcases hg214 with ⟨g212, g213⟩ | rfl
        · refine va_mmax hx hb (hC.2.2.1.trans hl.1.symm) hC.2.2.2.1 (hC.2.2.2.2 _ (List.mem_cons_of_mem _ uw_43_0)) (hC.2.2.2.2 _ (List.mem_cons_of_mem _ uw_14_15)) (hC.2.2.2.2 _ (List.mem_cons_of_mem _ uw_14_16)) (hC.2.2.2.2 _ (List.mem_cons_of_mem _ uw_14_17)) (Nat.le_of_ble_eq_true rfl) (Nat.le_of_ble_eq_true rfl) (Nat.zero_le _) (Nat.zero_le _) dX1_lookAround_96 ?_
          refine lv_topi (fun x221 ex221 => ?_)
          have bx221 : (x221.toInt = (0 : Int) ∧ r208.toInt ≤ (0 : Int)) ∨ (x221.toInt = r208.toInt ∧ (0 : Int) < r208.toInt) := by rw [ex221]; exact wk_max
          refine tk_puti hC hK hw hT hinX1 tyX1_ok nmX1 kC_at149 (by decide) rfl rfl 8 (by decide) (List.mem_cons_of_mem _ uw_43_1) rfl rfl rfl rfl (wk_i32 x221).1 (wk_i32 x221).2 dX1_lookAround_99 (fun H locs w222 hw hT k224 c223 => ?_)
          have hF := hF.put kC_at149 (k := 8) (by decide) k224
          have c225 := k224.gi (Or.inr (by decide)) c215
          have c226 := k224.gi (Or.inr (by decide)) c216
          have c227 := k224.gi (Or.inr (by decide)) c217
          have c228 := k224.gi (Or.inr (by decide)) c218
          have c229 := k224.gi (Or.inr (by decide)) c219
          have c230 := k224.gi (Or.inr (by decide)) c220
          refine lv_aload_n hx hb dX1_lookAround_102 rfl (lv_at hl 1 rfl) ?_
          refine lv_iconst (v := (-1)) hx hb dX1_lookAround_103 (by decide) ?_
          refine tk_puti hC hK hw hT hinX1 tyX1_ok nmX1 kC_at149 (by decide) rfl rfl 7 (by decide) (List.mem_cons_of_mem _ uw_42_7) rfl rfl rfl rfl (by decide) (by decide) dX1_lookAround_104 (fun H locs w231 hw hT k233 c232 => ?_)
          have hF := hF.put kC_at149 (k := 7) (by decide) k233
          have c234 := k233.gi (Or.inr (by decide)) c225
          have c235 := k233.gi (Or.inr (by decide)) c226
          have c236 := k233.gi (Or.inr (by decide)) c227
          have c237 := k233.gi (Or.inr (by decide)) c228
          have c238 := k233.gi (Or.inr (by decide)) c229
          have c239 := k233.gi (Or.inr (by decide)) c230
          have c240 := k233.gi (Or.inr (by decide)) c223
          refine lv_iconst (v := 0) hx hb dX1_lookAround_107 (by decide) ?_
          refine lv_istore (lv' := [(4, .int 0), (3, .int x40), (0, .ref (ad 149)), (1, .ref (ad 152)), (2, .int 0)]) hx hb dX1_lookAround_108 hl (by decide) rfl (fun ls hl => ?_)
          exact L110 x40 r46 1 x221 x42 x44 H locs ls w231 (show 0 ≤ x40.toInt from rx40) (show x40.toInt ≤ 10 from Int.le_trans tx40 (by decide)) (show (-1) ≤ r46.toInt by first | with_reducible assumption | omega) (show r46.toInt ≤ 11 by first | with_reducible assumption | omega) (by decide) (by decide) (show 0 ≤ x221.toInt by first | with_reducible assumption | omega) (show x221.toInt ≤ 999999 by first | with_reducible assumption | omega) (show 0 ≤ x42.toInt from rx42) (show x42.toInt ≤ 9 from tx42) (show 0 ≤ x44.toInt from rx44) (show x44.toInt ≤ 9 from tx44)  hw hT hF c237 c239 c232 c240 c235 c236 (lv_sub hl [2, 3, 4, 1, 0] rfl)
        · refine va_mmax hx hb (hC.2.2.1.trans hl.1.symm) hC.2.2.2.1 (hC.2.2.2.2 _ (List.mem_cons_of_mem _ uw_43_0)) (hC.2.2.2.2 _ (List.mem_cons_of_mem _ uw_14_15)) (hC.2.2.2.2 _ (List.mem_cons_of_mem _ uw_14_16)) (hC.2.2.2.2 _ (List.mem_cons_of_mem _ uw_14_17)) (Nat.le_of_ble_eq_true rfl) (Nat.le_of_ble_eq_true rfl) (Nat.zero_le _) (Nat.zero_le _) dX1_lookAround_96 ?_
          refine lv_topi (fun x241 ex241 => ?_)
          have bx241 : (x241.toInt = (0 : Int) ∧ (-1 : Int) ≤ (0 : Int)) ∨ (x241.toInt = (-1 : Int) ∧ (0 : Int) < (-1 : Int)) := by rw [ex241]; exact wk_max
          refine tk_puti hC hK hw hT hinX1 tyX1_ok nmX1 kC_at149 (by decide) rfl rfl 8 (by decide) (List.mem_cons_of_mem _ uw_43_1) rfl rfl rfl rfl (wk_i32 x241).1 (wk_i32 x241).2 dX1_lookAround_99 (fun H locs w242 hw hT k244 c243 => ?_)
          have hF := hF.put kC_at149 (k := 8) (by decide) k244
          have c245 := k244.gi (Or.inr (by decide)) c215
          have c246 := k244.gi (Or.inr (by decide)) c216
          have c247 := k244.gi (Or.inr (by decide)) c217
          have c248 := k244.gi (Or.inr (by decide)) c218
          have c249 := k244.gi (Or.inr (by decide)) c219
          have c250 := k244.gi (Or.inr (by decide)) c220
          refine lv_aload_n hx hb dX1_lookAround_102 rfl (lv_at hl 1 rfl) ?_
          refine lv_iconst (v := (-1)) hx hb dX1_lookAround_103 (by decide) ?_
          refine tk_puti hC hK hw hT hinX1 tyX1_ok nmX1 kC_at149 (by decide) rfl rfl 7 (by decide) (List.mem_cons_of_mem _ uw_42_7) rfl rfl rfl rfl (by decide) (by decide) dX1_lookAround_104 (fun H locs w251 hw hT k253 c252 => ?_)
          have hF := hF.put kC_at149 (k := 7) (by decide) k253
          have c254 := k253.gi (Or.inr (by decide)) c245
          have c255 := k253.gi (Or.inr (by decide)) c246
          have c256 := k253.gi (Or.inr (by decide)) c247
          have c257 := k253.gi (Or.inr (by decide)) c248
          have c258 := k253.gi (Or.inr (by decide)) c249
          have c259 := k253.gi (Or.inr (by decide)) c250
          have c260 := k253.gi (Or.inr (by decide)) c243
          refine lv_iconst (v := 0) hx hb dX1_lookAround_107 (by decide) ?_
          refine lv_istore (lv' := [(4, .int 0), (3, .int x40), (0, .ref (ad 149)), (1, .ref (ad 152)), (2, .int 0)]) hx hb dX1_lookAround_108 hl (by decide) rfl (fun ls hl => ?_)
          exact L110 x40 r46 1 x241 x42 x44 H locs ls w251 (show 0 ≤ x40.toInt from rx40) (show x40.toInt ≤ 10 from Int.le_trans tx40 (by decide)) (show (-1) ≤ r46.toInt by first | with_reducible assumption | omega) (show r46.toInt ≤ 11 by first | with_reducible assumption | omega) (by decide) (by decide) (show 0 ≤ x241.toInt by first | with_reducible assumption | omega) (show x241.toInt ≤ 999999 by first | with_reducible assumption | omega) (show 0 ≤ x42.toInt from rx42) (show x42.toInt ≤ 9 from tx42) (show 0 ≤ x44.toInt from rx44) (show x44.toInt ≤ 9 from tx44)  hw hT hF c257 c259 c252 c260 c255 c256 (lv_sub hl [2, 3, 4, 1, 0] rfl)
  refine lv_aload_n hx hb dX1_lookAround_0 rfl (lv_at hl 1 rfl) ?_
  refine tk_Vi hC hK hw hT hA hE hSR kC_at152 (by decide) rfl (k_X9_askedToday_2 l adK adV dC dI cy ad B hB0 (Int.le_trans hB1 (by decide)) qr s1    w0 s.heap.size hT ) (cwV 0 hC.2.2.2.2 uV_RX1_85 rfl rfl rfl (by decide +kernel) ⟨Nat.le_of_ble_eq_true rfl, Nat.le_of_ble_eq_true rfl⟩) rfl hl.1 rfl (Nat.le_of_ble_eq_true rfl) dX1_lookAround_1 (fun r261 w263 H locs hp262 hw => ?_)
  obtain ⟨hT, k264, hg265⟩ := hp262
  have hF := hF.tr k264 (by decide)
  rcases hg265 with rfl | rfl
  · refine lv_if_eq (tgt := 24) hx hb dX1_lookAround_4 (by decide) (fun _ => ?_) (fun c => absurd (by decide) c)
    exact J24  H locs ls w263   hw hT hF  (lv_sub hl [0, 1, 2] rfl)
  · refine lv_if_eq (tgt := 24) hx hb dX1_lookAround_4 (by decide) (fun c => absurd c (by decide)) (fun _ => ?_)
    refine lv_aload_n hx hb dX1_lookAround_7 rfl (lv_at hl 0 rfl) ?_
    refine tk_geti hC hK hw hT hinX1 kC_at149 (by decide) rfl 9 (by decide) (List.mem_cons_of_mem _ uw_42_20) rfl rfl dX1_lookAround_8 (fun x266 c267 rx266 tx266 => ?_)
    refine lv_if_ne (tgt := 24) hx hb dX1_lookAround_11 (by decide) (fun c268 => ?_) (fun c268 => ?_)
    · have c268 : ¬ x266.toInt = (0 : Int) := wk_eqF c268
      exact J24  H locs ls w263   hw hT hF  (lv_sub hl [0, 1, 2] rfl)
    · have c268 : x266.toInt = (0 : Int) := wk_eq.mp c268
      refine lv_aload_n hx hb dX1_lookAround_14 rfl (lv_at hl 1 rfl) ?_
      refine tk_Vl hC hK hw hT hA hE hSR kC_at152 (by decide) rfl (k_X9_dayNow_2 l adK adV dC dI cy ad B hB0 (Int.le_trans hB1 (by decide)) qr s1    w263 H.size hT ) (cwV 0 hC.2.2.2.2 uV_RX1_68 rfl rfl rfl (by decide +kernel) ⟨Nat.le_of_ble_eq_true rfl, Nat.le_of_ble_eq_true rfl⟩) rfl hl.1 rfl (Nat.le_of_ble_eq_true rfl) dX1_lookAround_15 (fun r269 w271 H locs hp270 hw => ?_)
      obtain ⟨hT, k272, hg275⟩ := hp270
      have hF := hF.tr k272 (by decide)
      have c276 := k272.gi kC_at149 (by decide) c267
      obtain ⟨g273, g274⟩ := hg275
      refine tk_Si hC hK hw hT hA hE hSR (k_X0_ofWeekday_1 l adK adV dC dI cy ad B hB0 (Int.le_trans hB1 (by decide)) qr s1   r269 (show 0 ≤ r269.toInt by first | with_reducible assumption | omega) (show r269.toInt ≤ 96076792050570581 by first | with_reducible assumption | omega) w271 H.size hT ) (va_cwS 1 hC.2.2.2.2 uS_RX1_91 rfl rfl rfl (by decide +kernel) ⟨Nat.le_of_ble_eq_true rfl, Nat.le_of_ble_eq_true rfl⟩) rfl hl.1 rfl (Nat.le_of_ble_eq_true rfl) dX1_lookAround_18 (fun r277 w279 H locs hp278 hw => ?_)
      obtain ⟨hT, k280, hg283⟩ := hp278
      have hF := hF.tr k280 (by decide)
      have c284 := k280.gi kC_at149 (by decide) c276
      obtain ⟨g281, g282⟩ := hg283
      refine lv_goto (tgt := 28) hx hb dX1_lookAround_21 (by decide) ?_
      refine lv_istore_n (lv' := [(3, .int r277), (0, .ref (ad 149)), (1, .ref (ad 152)), (2, .int 0)]) hx hb dX1_lookAround_28 rfl hl (by decide) rfl (fun ls hl => ?_)
      refine lv_aload_n hx hb dX1_lookAround_29 rfl (lv_at hl 1 rfl) ?_
      refine lv_aload_n hx hb dX1_lookAround_30 rfl (lv_at hl 1 rfl) ?_
      refine tk_getA hC hK hw hT hinX1 kC_at149 (by decide) rfl 1 (by decide) (List.mem_cons_of_mem _ uw_5_1) rfl rfl dX1_lookAround_31 ?_
      refine lv_iload_n hx hb dX1_lookAround_34 rfl (lv_at hl 0 rfl) ?_
      refine lv_aload_n hx hb dX1_lookAround_35 rfl (lv_at hl 2 rfl) ?_
      refine tk_geti hC hK hw hT hinX9 kC_at152 (by decide) rfl 0 (by decide) (List.mem_cons_of_mem _ uw_42_22) rfl rfl dX1_lookAround_36 (fun x285 c286 rx285 tx285 => ?_)
      refine lv_aload_n hx hb dX1_lookAround_39 rfl (lv_at hl 2 rfl) ?_
      refine tk_geti hC hK hw hT hinX9 kC_at152 (by decide) rfl 1 (by decide) (List.mem_cons_of_mem _ uw_42_23) rfl rfl dX1_lookAround_40 (fun x287 c288 rx287 tx287 => ?_)
      refine tk_Vi hC hK hw hT hA hE hSR kC_at145 (by decide) rfl (k_X0_streetBy_2 l adK adV dC dI cy ad B hB0 (Int.le_trans hB1 (by decide)) qr s1   r277 (show 4 ≤ r277.toInt by first | with_reducible assumption | omega) (show r277.toInt ≤ 10 by first | with_reducible assumption | omega) x285 (show 0 ≤ x285.toInt from rx285) (show x285.toInt ≤ 9 from tx285) x287 (show 0 ≤ x287.toInt from rx287) (show x287.toInt ≤ 9 from tx287) w279 H.size hT ) (cwV 3 hC.2.2.2.2 uV_RX1_106 rfl rfl rfl (by decide +kernel) ⟨Nat.le_of_ble_eq_true rfl, Nat.le_of_ble_eq_true rfl⟩) rfl hl.1 rfl (Nat.le_of_ble_eq_true rfl) dX1_lookAround_43 (fun r289 w291 H locs hp290 hw => ?_)
      obtain ⟨hT, k292, hg295⟩ := hp290
      have hF := hF.tr k292 (by decide)
      have c296 := k292.gi kC_at149 (by decide) c284
      have c297 := k292.gi kC_at152 (by decide) c286
      have c298 := k292.gi kC_at152 (by decide) c288
      obtain ⟨g293, g294⟩ := hg295
      refine tk_puti hC hK hw hT hinX1 tyX1_ok nmX1 kC_at149 (by decide) rfl rfl 5 (by decide) (List.mem_cons_of_mem _ uw_42_6) rfl rfl rfl rfl (show (-1) ≤ r289.toInt by first | with_reducible assumption | omega) (show r289.toInt ≤ 11 by first | with_reducible assumption | omega) dX1_lookAround_46 (fun H locs w299 hw hT k301 c300 => ?_)
      have hF := hF.put kC_at149 (k := 5) (by decide) k301
      have c302 := k301.gi (Or.inr (by decide)) c296
      have c303 := k301.gi (Or.inr (by decide)) c297
      have c304 := k301.gi (Or.inr (by decide)) c298
      refine lv_aload_n hx hb dX1_lookAround_49 rfl (lv_at hl 1 rfl) ?_
      refine lv_aload_n hx hb dX1_lookAround_50 rfl (lv_at hl 1 rfl) ?_
      refine tk_geti hC hK hw hT hinX1 kC_at149 (by decide) rfl 5 (by decide) (List.mem_cons_of_mem _ uw_42_6) rfl rfl dX1_lookAround_51 (fun x305 c306 rx305 tx305 => ?_)
      refine wk_top r289 (c306.symm.trans c300) ?_
      refine lv_iconst (v := (-1)) hx hb dX1_lookAround_54 (by decide) ?_
      refine lv_icmp_eq (tgt := 74) hx hb dX1_lookAround_55 (by decide) (fun c307 => ?_) (fun c307 => ?_)
      · have c307 : r289.toInt = (-1 : Int) := wk_eq.mp c307
        refine lv_iconst (v := 0) hx hb dX1_lookAround_74 (by decide) ?_
        refine tk_putz hC hK hw hT hinX1 tyX1_ok nmX1 kC_at149 (by decide) rfl rfl 6 (by decide) (List.mem_cons_of_mem _ uw_42_5) rfl rfl rfl rfl (by decide) (by decide) dX1_lookAround_75 (fun H locs w308 hw hT k310 c309 => ?_)
        have hF := hF.put kC_at149 (k := 6) (by decide) k310
        have c311 := k310.gi (Or.inr (by decide)) c302
        have c312 := k310.gi (Or.inr (by decide)) c303
        have c313 := k310.gi (Or.inr (by decide)) c304
        have c314 := k310.gi (Or.inr (by decide)) c300
        refine lv_aload_n hx hb dX1_lookAround_78 rfl (lv_at hl 1 rfl) ?_
        refine lv_iconst (v := 0) hx hb dX1_lookAround_79 (by decide) ?_
        refine lv_aload_n hx hb dX1_lookAround_80 rfl (lv_at hl 1 rfl) ?_
        refine tk_getA hC hK hw hT hinX1 kC_at149 (by decide) rfl 1 (by decide) (List.mem_cons_of_mem _ uw_5_1) rfl rfl dX1_lookAround_81 ?_
        refine lv_iload_n hx hb dX1_lookAround_84 rfl (lv_at hl 0 rfl) ?_
        refine lv_aload_n hx hb dX1_lookAround_85 rfl (lv_at hl 2 rfl) ?_
        refine tk_geti hC hK hw hT hinX9 kC_at152 (by decide) rfl 0 (by decide) (List.mem_cons_of_mem _ uw_42_22) rfl rfl dX1_lookAround_86 (fun x315 c316 rx315 tx315 => ?_)
        refine wk_top x285 (c316.symm.trans c312) ?_
        refine lv_aload_n hx hb dX1_lookAround_89 rfl (lv_at hl 2 rfl) ?_
        refine tk_geti hC hK hw hT hinX9 kC_at152 (by decide) rfl 1 (by decide) (List.mem_cons_of_mem _ uw_42_23) rfl rfl dX1_lookAround_90 (fun x317 c318 rx317 tx317 => ?_)
        refine wk_top x287 (c318.symm.trans c313) ?_
        refine tk_Vi hC hK hw hT hA hE hSR kC_at145 (by decide) rfl (k_X0_hoursBy_2 l adK adV dC dI cy ad B hB0 (Int.le_trans hB1 (by decide)) qr s1   r277 (show 4 ≤ r277.toInt by first | with_reducible assumption | omega) (show r277.toInt ≤ 10 by first | with_reducible assumption | omega) x285 (show 0 ≤ x285.toInt from rx285) (show x285.toInt ≤ 9 from tx285) x287 (show 0 ≤ x287.toInt from rx287) (show x287.toInt ≤ 9 from tx287) w308 H.size hT ) (cwV 3 hC.2.2.2.2 uV_RX1_114 rfl rfl rfl (by decide +kernel) ⟨Nat.le_of_ble_eq_true rfl, Nat.le_of_ble_eq_true rfl⟩) rfl hl.1 rfl (Nat.le_of_ble_eq_true rfl) dX1_lookAround_93 (fun r319 w321 H locs hp320 hw => ?_)
        obtain ⟨hT, k322, hg325⟩ := hp320
        have hF := hF.tr k322 (by decide)
        have c326 := k322.gi kC_at149 (by decide) c311
        have c327 := k322.gi kC_at152 (by decide) c312
        have c328 := k322.gi kC_at152 (by decide) c313
        have c329 := k322.gi kC_at149 (by decide) c314
        have c330 := k322.gi kC_at149 (by decide) c309
        rcases hg325 with ⟨g323, g324⟩ | rfl
        · refine va_mmax hx hb (hC.2.2.1.trans hl.1.symm) hC.2.2.2.1 (hC.2.2.2.2 _ (List.mem_cons_of_mem _ uw_43_0)) (hC.2.2.2.2 _ (List.mem_cons_of_mem _ uw_14_15)) (hC.2.2.2.2 _ (List.mem_cons_of_mem _ uw_14_16)) (hC.2.2.2.2 _ (List.mem_cons_of_mem _ uw_14_17)) (Nat.le_of_ble_eq_true rfl) (Nat.le_of_ble_eq_true rfl) (Nat.zero_le _) (Nat.zero_le _) dX1_lookAround_96 ?_
          refine lv_topi (fun x331 ex331 => ?_)
          have bx331 : (x331.toInt = (0 : Int) ∧ r319.toInt ≤ (0 : Int)) ∨ (x331.toInt = r319.toInt ∧ (0 : Int) < r319.toInt) := by rw [ex331]; exact wk_max
          refine tk_puti hC hK hw hT hinX1 tyX1_ok nmX1 kC_at149 (by decide) rfl rfl 8 (by decide) (List.mem_cons_of_mem _ uw_43_1) rfl rfl rfl rfl (wk_i32 x331).1 (wk_i32 x331).2 dX1_lookAround_99 (fun H locs w332 hw hT k334 c333 => ?_)
          have hF := hF.put kC_at149 (k := 8) (by decide) k334
          have c335 := k334.gi (Or.inr (by decide)) c326
          have c336 := k334.gi (Or.inr (by decide)) c327
          have c337 := k334.gi (Or.inr (by decide)) c328
          have c338 := k334.gi (Or.inr (by decide)) c329
          have c339 := k334.gi (Or.inr (by decide)) c330
          refine lv_aload_n hx hb dX1_lookAround_102 rfl (lv_at hl 1 rfl) ?_
          refine lv_iconst (v := (-1)) hx hb dX1_lookAround_103 (by decide) ?_
          refine tk_puti hC hK hw hT hinX1 tyX1_ok nmX1 kC_at149 (by decide) rfl rfl 7 (by decide) (List.mem_cons_of_mem _ uw_42_7) rfl rfl rfl rfl (by decide) (by decide) dX1_lookAround_104 (fun H locs w340 hw hT k342 c341 => ?_)
          have hF := hF.put kC_at149 (k := 7) (by decide) k342
          have c343 := k342.gi (Or.inr (by decide)) c335
          have c344 := k342.gi (Or.inr (by decide)) c336
          have c345 := k342.gi (Or.inr (by decide)) c337
          have c346 := k342.gi (Or.inr (by decide)) c338
          have c347 := k342.gi (Or.inr (by decide)) c339
          have c348 := k342.gi (Or.inr (by decide)) c333
          refine lv_iconst (v := 0) hx hb dX1_lookAround_107 (by decide) ?_
          refine lv_istore (lv' := [(4, .int 0), (3, .int r277), (0, .ref (ad 149)), (1, .ref (ad 152)), (2, .int 0)]) hx hb dX1_lookAround_108 hl (by decide) rfl (fun ls hl => ?_)
          exact L110 r277 r289 0 x331 x285 x287 H locs ls w340 (show 0 ≤ r277.toInt by first | with_reducible assumption | omega) (show r277.toInt ≤ 10 by first | with_reducible assumption | omega) (show (-1) ≤ r289.toInt by first | with_reducible assumption | omega) (show r289.toInt ≤ 11 by first | with_reducible assumption | omega) (by decide) (by decide) (show 0 ≤ x331.toInt by first | with_reducible assumption | omega) (show x331.toInt ≤ 999999 by first | with_reducible assumption | omega) (show 0 ≤ x285.toInt from rx285) (show x285.toInt ≤ 9 from tx285) (show 0 ≤ x287.toInt from rx287) (show x287.toInt ≤ 9 from tx287)  hw hT hF c346 c347 c341 c348 c344 c345 (lv_sub hl [2, 3, 4, 1, 0] rfl)
        · refine va_mmax hx hb (hC.2.2.1.trans hl.1.symm) hC.2.2.2.1 (hC.2.2.2.2 _ (List.mem_cons_of_mem _ uw_43_0)) (hC.2.2.2.2 _ (List.mem_cons_of_mem _ uw_14_15)) (hC.2.2.2.2 _ (List.mem_cons_of_mem _ uw_14_16)) (hC.2.2.2.2 _ (List.mem_cons_of_mem _ uw_14_17)) (Nat.le_of_ble_eq_true rfl) (Nat.le_of_ble_eq_true rfl) (Nat.zero_le _) (Nat.zero_le _) dX1_lookAround_96 ?_
          refine lv_topi (fun x349 ex349 => ?_)
          have bx349 : (x349.toInt = (0 : Int) ∧ (-1 : Int) ≤ (0 : Int)) ∨ (x349.toInt = (-1 : Int) ∧ (0 : Int) < (-1 : Int)) := by rw [ex349]; exact wk_max
          refine tk_puti hC hK hw hT hinX1 tyX1_ok nmX1 kC_at149 (by decide) rfl rfl 8 (by decide) (List.mem_cons_of_mem _ uw_43_1) rfl rfl rfl rfl (wk_i32 x349).1 (wk_i32 x349).2 dX1_lookAround_99 (fun H locs w350 hw hT k352 c351 => ?_)
          have hF := hF.put kC_at149 (k := 8) (by decide) k352
          have c353 := k352.gi (Or.inr (by decide)) c326
          have c354 := k352.gi (Or.inr (by decide)) c327
          have c355 := k352.gi (Or.inr (by decide)) c328
          have c356 := k352.gi (Or.inr (by decide)) c329
          have c357 := k352.gi (Or.inr (by decide)) c330
          refine lv_aload_n hx hb dX1_lookAround_102 rfl (lv_at hl 1 rfl) ?_
          refine lv_iconst (v := (-1)) hx hb dX1_lookAround_103 (by decide) ?_
          refine tk_puti hC hK hw hT hinX1 tyX1_ok nmX1 kC_at149 (by decide) rfl rfl 7 (by decide) (List.mem_cons_of_mem _ uw_42_7) rfl rfl rfl rfl (by decide) (by decide) dX1_lookAround_104 (fun H locs w358 hw hT k360 c359 => ?_)
          have hF := hF.put kC_at149 (k := 7) (by decide) k360
          have c361 := k360.gi (Or.inr (by decide)) c353
          have c362 := k360.gi (Or.inr (by decide)) c354
          have c363 := k360.gi (Or.inr (by decide)) c355
          have c364 := k360.gi (Or.inr (by decide)) c356
          have c365 := k360.gi (Or.inr (by decide)) c357
          have c366 := k360.gi (Or.inr (by decide)) c351
          refine lv_iconst (v := 0) hx hb dX1_lookAround_107 (by decide) ?_
          refine lv_istore (lv' := [(4, .int 0), (3, .int r277), (0, .ref (ad 149)), (1, .ref (ad 152)), (2, .int 0)]) hx hb dX1_lookAround_108 hl (by decide) rfl (fun ls hl => ?_)
          exact L110 r277 r289 0 x349 x285 x287 H locs ls w358 (show 0 ≤ r277.toInt by first | with_reducible assumption | omega) (show r277.toInt ≤ 10 by first | with_reducible assumption | omega) (show (-1) ≤ r289.toInt by first | with_reducible assumption | omega) (show r289.toInt ≤ 11 by first | with_reducible assumption | omega) (by decide) (by decide) (show 0 ≤ x349.toInt by first | with_reducible assumption | omega) (show x349.toInt ≤ 999999 by first | with_reducible assumption | omega) (show 0 ≤ x285.toInt from rx285) (show x285.toInt ≤ 9 from tx285) (show 0 ≤ x287.toInt from rx287) (show x287.toInt ≤ 9 from tx287)  hw hT hF c364 c365 c359 c366 c362 c363 (lv_sub hl [2, 3, 4, 1, 0] rfl)
      · have c307 : ¬ r289.toInt = (-1 : Int) := wk_eqF c307
        refine lv_aload_n hx hb dX1_lookAround_58 rfl (lv_at hl 1 rfl) ?_
        refine lv_aload_n hx hb dX1_lookAround_59 rfl (lv_at hl 2 rfl) ?_
        refine lv_aload_n hx hb dX1_lookAround_60 rfl (lv_at hl 1 rfl) ?_
        refine tk_geti hC hK hw hT hinX1 kC_at149 (by decide) rfl 5 (by decide) (List.mem_cons_of_mem _ uw_42_6) rfl rfl dX1_lookAround_61 (fun x367 c368 rx367 tx367 => ?_)
        refine wk_top r289 (c368.symm.trans c300) ?_
        refine tk_Vi hC hK hw hT hA hE hSR kC_at149 (by decide) rfl (k_X1_isOpenFor_2 l adK adV dC dI cy ad B hB0 (Int.le_trans hB1 (by decide)) qr s1   r289 (show 0 ≤ r289.toInt by first | with_reducible assumption | omega) (show r289.toInt ≤ 11 by first | with_reducible assumption | omega) w299 H.size hT ) (cwV 2 hC.2.2.2.2 uV_RX1_110 rfl rfl rfl (by decide +kernel) ⟨Nat.le_of_ble_eq_true rfl, Nat.le_of_ble_eq_true rfl⟩) rfl hl.1 rfl (Nat.le_of_ble_eq_true rfl) dX1_lookAround_64 (fun r369 w371 H locs hp370 hw => ?_)
        obtain ⟨hT, k372, hg375⟩ := hp370
        have hF := hF.tr k372 (by decide)
        have c376 := k372.gi kC_at149 (by decide) c302
        have c377 := k372.gi kC_at152 (by decide) c303
        have c378 := k372.gi kC_at152 (by decide) c304
        have c379 := k372.gi kC_at149 (by decide) c300
        rcases hg375 with rfl | ⟨rfl, ⟨x373, c374, rx373, tx373⟩⟩
        · refine lv_if_eq (tgt := 74) hx hb dX1_lookAround_67 (by decide) (fun _ => ?_) (fun c => absurd (by decide) c)
          refine lv_iconst (v := 0) hx hb dX1_lookAround_74 (by decide) ?_
          refine tk_putz hC hK hw hT hinX1 tyX1_ok nmX1 kC_at149 (by decide) rfl rfl 6 (by decide) (List.mem_cons_of_mem _ uw_42_5) rfl rfl rfl rfl (by decide) (by decide) dX1_lookAround_75 (fun H locs w380 hw hT k382 c381 => ?_)
          have hF := hF.put kC_at149 (k := 6) (by decide) k382
          have c383 := k382.gi (Or.inr (by decide)) c376
          have c384 := k382.gi (Or.inr (by decide)) c377
          have c385 := k382.gi (Or.inr (by decide)) c378
          have c386 := k382.gi (Or.inr (by decide)) c379
          refine lv_aload_n hx hb dX1_lookAround_78 rfl (lv_at hl 1 rfl) ?_
          refine lv_iconst (v := 0) hx hb dX1_lookAround_79 (by decide) ?_
          refine lv_aload_n hx hb dX1_lookAround_80 rfl (lv_at hl 1 rfl) ?_
          refine tk_getA hC hK hw hT hinX1 kC_at149 (by decide) rfl 1 (by decide) (List.mem_cons_of_mem _ uw_5_1) rfl rfl dX1_lookAround_81 ?_
          refine lv_iload_n hx hb dX1_lookAround_84 rfl (lv_at hl 0 rfl) ?_
          refine lv_aload_n hx hb dX1_lookAround_85 rfl (lv_at hl 2 rfl) ?_
          refine tk_geti hC hK hw hT hinX9 kC_at152 (by decide) rfl 0 (by decide) (List.mem_cons_of_mem _ uw_42_22) rfl rfl dX1_lookAround_86 (fun x387 c388 rx387 tx387 => ?_)
          refine wk_top x285 (c388.symm.trans c384) ?_
          refine lv_aload_n hx hb dX1_lookAround_89 rfl (lv_at hl 2 rfl) ?_
          refine tk_geti hC hK hw hT hinX9 kC_at152 (by decide) rfl 1 (by decide) (List.mem_cons_of_mem _ uw_42_23) rfl rfl dX1_lookAround_90 (fun x389 c390 rx389 tx389 => ?_)
          refine wk_top x287 (c390.symm.trans c385) ?_
          refine tk_Vi hC hK hw hT hA hE hSR kC_at145 (by decide) rfl (k_X0_hoursBy_2 l adK adV dC dI cy ad B hB0 (Int.le_trans hB1 (by decide)) qr s1   r277 (show 4 ≤ r277.toInt by first | with_reducible assumption | omega) (show r277.toInt ≤ 10 by first | with_reducible assumption | omega) x285 (show 0 ≤ x285.toInt from rx285) (show x285.toInt ≤ 9 from tx285) x287 (show 0 ≤ x287.toInt from rx287) (show x287.toInt ≤ 9 from tx287) w380 H.size hT ) (cwV 3 hC.2.2.2.2 uV_RX1_114 rfl rfl rfl (by decide +kernel) ⟨Nat.le_of_ble_eq_true rfl, Nat.le_of_ble_eq_true rfl⟩) rfl hl.1 rfl (Nat.le_of_ble_eq_true rfl) dX1_lookAround_93 (fun r391 w393 H locs hp392 hw => ?_)
          obtain ⟨hT, k394, hg397⟩ := hp392
          have hF := hF.tr k394 (by decide)
          have c398 := k394.gi kC_at149 (by decide) c383
          have c399 := k394.gi kC_at152 (by decide) c384
          have c400 := k394.gi kC_at152 (by decide) c385
          have c401 := k394.gi kC_at149 (by decide) c386
          have c402 := k394.gi kC_at149 (by decide) c381
          rcases hg397 with ⟨g395, g396⟩ | rfl
          · refine va_mmax hx hb (hC.2.2.1.trans hl.1.symm) hC.2.2.2.1 (hC.2.2.2.2 _ (List.mem_cons_of_mem _ uw_43_0)) (hC.2.2.2.2 _ (List.mem_cons_of_mem _ uw_14_15)) (hC.2.2.2.2 _ (List.mem_cons_of_mem _ uw_14_16)) (hC.2.2.2.2 _ (List.mem_cons_of_mem _ uw_14_17)) (Nat.le_of_ble_eq_true rfl) (Nat.le_of_ble_eq_true rfl) (Nat.zero_le _) (Nat.zero_le _) dX1_lookAround_96 ?_
            refine lv_topi (fun x403 ex403 => ?_)
            have bx403 : (x403.toInt = (0 : Int) ∧ r391.toInt ≤ (0 : Int)) ∨ (x403.toInt = r391.toInt ∧ (0 : Int) < r391.toInt) := by rw [ex403]; exact wk_max
            refine tk_puti hC hK hw hT hinX1 tyX1_ok nmX1 kC_at149 (by decide) rfl rfl 8 (by decide) (List.mem_cons_of_mem _ uw_43_1) rfl rfl rfl rfl (wk_i32 x403).1 (wk_i32 x403).2 dX1_lookAround_99 (fun H locs w404 hw hT k406 c405 => ?_)
            have hF := hF.put kC_at149 (k := 8) (by decide) k406
            have c407 := k406.gi (Or.inr (by decide)) c398
            have c408 := k406.gi (Or.inr (by decide)) c399
            have c409 := k406.gi (Or.inr (by decide)) c400
            have c410 := k406.gi (Or.inr (by decide)) c401
            have c411 := k406.gi (Or.inr (by decide)) c402
            refine lv_aload_n hx hb dX1_lookAround_102 rfl (lv_at hl 1 rfl) ?_
            refine lv_iconst (v := (-1)) hx hb dX1_lookAround_103 (by decide) ?_
            refine tk_puti hC hK hw hT hinX1 tyX1_ok nmX1 kC_at149 (by decide) rfl rfl 7 (by decide) (List.mem_cons_of_mem _ uw_42_7) rfl rfl rfl rfl (by decide) (by decide) dX1_lookAround_104 (fun H locs w412 hw hT k414 c413 => ?_)
            have hF := hF.put kC_at149 (k := 7) (by decide) k414
            have c415 := k414.gi (Or.inr (by decide)) c407
            have c416 := k414.gi (Or.inr (by decide)) c408
            have c417 := k414.gi (Or.inr (by decide)) c409
            have c418 := k414.gi (Or.inr (by decide)) c410
            have c419 := k414.gi (Or.inr (by decide)) c411
            have c420 := k414.gi (Or.inr (by decide)) c405
            refine lv_iconst (v := 0) hx hb dX1_lookAround_107 (by decide) ?_
            refine lv_istore (lv' := [(4, .int 0), (3, .int r277), (0, .ref (ad 149)), (1, .ref (ad 152)), (2, .int 0)]) hx hb dX1_lookAround_108 hl (by decide) rfl (fun ls hl => ?_)
            exact L110 r277 r289 0 x403 x285 x287 H locs ls w412 (show 0 ≤ r277.toInt by first | with_reducible assumption | omega) (show r277.toInt ≤ 10 by first | with_reducible assumption | omega) (show (-1) ≤ r289.toInt by first | with_reducible assumption | omega) (show r289.toInt ≤ 11 by first | with_reducible assumption | omega) (by decide) (by decide) (show 0 ≤ x403.toInt by first | with_reducible assumption | omega) (show x403.toInt ≤ 999999 by first | with_reducible assumption | omega) (show 0 ≤ x285.toInt from rx285) (show x285.toInt ≤ 9 from tx285) (show 0 ≤ x287.toInt from rx287) (show x287.toInt ≤ 9 from tx287)  hw hT hF c418 c419 c413 c420 c416 c417 (lv_sub hl [2, 3, 4, 1, 0] rfl)
          · refine va_mmax hx hb (hC.2.2.1.trans hl.1.symm) hC.2.2.2.1 (hC.2.2.2.2 _ (List.mem_cons_of_mem _ uw_43_0)) (hC.2.2.2.2 _ (List.mem_cons_of_mem _ uw_14_15)) (hC.2.2.2.2 _ (List.mem_cons_of_mem _ uw_14_16)) (hC.2.2.2.2 _ (List.mem_cons_of_mem _ uw_14_17)) (Nat.le_of_ble_eq_true rfl) (Nat.le_of_ble_eq_true rfl) (Nat.zero_le _) (Nat.zero_le _) dX1_lookAround_96 ?_
            refine lv_topi (fun x421 ex421 => ?_)
            have bx421 : (x421.toInt = (0 : Int) ∧ (-1 : Int) ≤ (0 : Int)) ∨ (x421.toInt = (-1 : Int) ∧ (0 : Int) < (-1 : Int)) := by rw [ex421]; exact wk_max
            refine tk_puti hC hK hw hT hinX1 tyX1_ok nmX1 kC_at149 (by decide) rfl rfl 8 (by decide) (List.mem_cons_of_mem _ uw_43_1) rfl rfl rfl rfl (wk_i32 x421).1 (wk_i32 x421).2 dX1_lookAround_99 (fun H locs w422 hw hT k424 c423 => ?_)
            have hF := hF.put kC_at149 (k := 8) (by decide) k424
            have c425 := k424.gi (Or.inr (by decide)) c398
            have c426 := k424.gi (Or.inr (by decide)) c399
            have c427 := k424.gi (Or.inr (by decide)) c400
            have c428 := k424.gi (Or.inr (by decide)) c401
            have c429 := k424.gi (Or.inr (by decide)) c402
            refine lv_aload_n hx hb dX1_lookAround_102 rfl (lv_at hl 1 rfl) ?_
            refine lv_iconst (v := (-1)) hx hb dX1_lookAround_103 (by decide) ?_
            refine tk_puti hC hK hw hT hinX1 tyX1_ok nmX1 kC_at149 (by decide) rfl rfl 7 (by decide) (List.mem_cons_of_mem _ uw_42_7) rfl rfl rfl rfl (by decide) (by decide) dX1_lookAround_104 (fun H locs w430 hw hT k432 c431 => ?_)
            have hF := hF.put kC_at149 (k := 7) (by decide) k432
            have c433 := k432.gi (Or.inr (by decide)) c425
            have c434 := k432.gi (Or.inr (by decide)) c426
            have c435 := k432.gi (Or.inr (by decide)) c427
            have c436 := k432.gi (Or.inr (by decide)) c428
            have c437 := k432.gi (Or.inr (by decide)) c429
            have c438 := k432.gi (Or.inr (by decide)) c423
            refine lv_iconst (v := 0) hx hb dX1_lookAround_107 (by decide) ?_
            refine lv_istore (lv' := [(4, .int 0), (3, .int r277), (0, .ref (ad 149)), (1, .ref (ad 152)), (2, .int 0)]) hx hb dX1_lookAround_108 hl (by decide) rfl (fun ls hl => ?_)
            exact L110 r277 r289 0 x421 x285 x287 H locs ls w430 (show 0 ≤ r277.toInt by first | with_reducible assumption | omega) (show r277.toInt ≤ 10 by first | with_reducible assumption | omega) (show (-1) ≤ r289.toInt by first | with_reducible assumption | omega) (show r289.toInt ≤ 11 by first | with_reducible assumption | omega) (by decide) (by decide) (show 0 ≤ x421.toInt by first | with_reducible assumption | omega) (show x421.toInt ≤ 999999 by first | with_reducible assumption | omega) (show 0 ≤ x285.toInt from rx285) (show x285.toInt ≤ 9 from tx285) (show 0 ≤ x287.toInt from rx287) (show x287.toInt ≤ 9 from tx287)  hw hT hF c436 c437 c431 c438 c434 c435 (lv_sub hl [2, 3, 4, 1, 0] rfl)
        · have ex373 : x373.toInt = x266.toInt := by rw [← c376.symm.trans c374]
          refine lv_if_eq (tgt := 74) hx hb dX1_lookAround_67 (by decide) (fun c => absurd c (by decide)) (fun _ => ?_)
          refine lv_iconst (v := 1) hx hb dX1_lookAround_70 (by decide) ?_
          refine lv_goto (tgt := 75) hx hb dX1_lookAround_71 (by decide) ?_
          refine tk_putz hC hK hw hT hinX1 tyX1_ok nmX1 kC_at149 (by decide) rfl rfl 6 (by decide) (List.mem_cons_of_mem _ uw_42_5) rfl rfl rfl rfl (by decide) (by decide) dX1_lookAround_75 (fun H locs w439 hw hT k441 c440 => ?_)
          have hF := hF.put kC_at149 (k := 6) (by decide) k441
          have c442 := k441.gi (Or.inr (by decide)) c376
          have c443 := k441.gi (Or.inr (by decide)) c377
          have c444 := k441.gi (Or.inr (by decide)) c378
          have c445 := k441.gi (Or.inr (by decide)) c379
          refine lv_aload_n hx hb dX1_lookAround_78 rfl (lv_at hl 1 rfl) ?_
          refine lv_iconst (v := 0) hx hb dX1_lookAround_79 (by decide) ?_
          refine lv_aload_n hx hb dX1_lookAround_80 rfl (lv_at hl 1 rfl) ?_
          refine tk_getA hC hK hw hT hinX1 kC_at149 (by decide) rfl 1 (by decide) (List.mem_cons_of_mem _ uw_5_1) rfl rfl dX1_lookAround_81 ?_
          refine lv_iload_n hx hb dX1_lookAround_84 rfl (lv_at hl 0 rfl) ?_
          refine lv_aload_n hx hb dX1_lookAround_85 rfl (lv_at hl 2 rfl) ?_
          refine tk_geti hC hK hw hT hinX9 kC_at152 (by decide) rfl 0 (by decide) (List.mem_cons_of_mem _ uw_42_22) rfl rfl dX1_lookAround_86 (fun x446 c447 rx446 tx446 => ?_)
          refine wk_top x285 (c447.symm.trans c443) ?_
          refine lv_aload_n hx hb dX1_lookAround_89 rfl (lv_at hl 2 rfl) ?_
          refine tk_geti hC hK hw hT hinX9 kC_at152 (by decide) rfl 1 (by decide) (List.mem_cons_of_mem _ uw_42_23) rfl rfl dX1_lookAround_90 (fun x448 c449 rx448 tx448 => ?_)
          refine wk_top x287 (c449.symm.trans c444) ?_
          refine tk_Vi hC hK hw hT hA hE hSR kC_at145 (by decide) rfl (k_X0_hoursBy_2 l adK adV dC dI cy ad B hB0 (Int.le_trans hB1 (by decide)) qr s1   r277 (show 4 ≤ r277.toInt by first | with_reducible assumption | omega) (show r277.toInt ≤ 10 by first | with_reducible assumption | omega) x285 (show 0 ≤ x285.toInt from rx285) (show x285.toInt ≤ 9 from tx285) x287 (show 0 ≤ x287.toInt from rx287) (show x287.toInt ≤ 9 from tx287) w439 H.size hT ) (cwV 3 hC.2.2.2.2 uV_RX1_114 rfl rfl rfl (by decide +kernel) ⟨Nat.le_of_ble_eq_true rfl, Nat.le_of_ble_eq_true rfl⟩) rfl hl.1 rfl (Nat.le_of_ble_eq_true rfl) dX1_lookAround_93 (fun r450 w452 H locs hp451 hw => ?_)
          obtain ⟨hT, k453, hg456⟩ := hp451
          have hF := hF.tr k453 (by decide)
          have c457 := k453.gi kC_at149 (by decide) c442
          have c458 := k453.gi kC_at152 (by decide) c443
          have c459 := k453.gi kC_at152 (by decide) c444
          have c460 := k453.gi kC_at149 (by decide) c445
          have c461 := k453.gi kC_at149 (by decide) c440
          rcases hg456 with ⟨g454, g455⟩ | rfl
          · refine va_mmax hx hb (hC.2.2.1.trans hl.1.symm) hC.2.2.2.1 (hC.2.2.2.2 _ (List.mem_cons_of_mem _ uw_43_0)) (hC.2.2.2.2 _ (List.mem_cons_of_mem _ uw_14_15)) (hC.2.2.2.2 _ (List.mem_cons_of_mem _ uw_14_16)) (hC.2.2.2.2 _ (List.mem_cons_of_mem _ uw_14_17)) (Nat.le_of_ble_eq_true rfl) (Nat.le_of_ble_eq_true rfl) (Nat.zero_le _) (Nat.zero_le _) dX1_lookAround_96 ?_
            refine lv_topi (fun x462 ex462 => ?_)
            have bx462 : (x462.toInt = (0 : Int) ∧ r450.toInt ≤ (0 : Int)) ∨ (x462.toInt = r450.toInt ∧ (0 : Int) < r450.toInt) := by rw [ex462]; exact wk_max
            refine tk_puti hC hK hw hT hinX1 tyX1_ok nmX1 kC_at149 (by decide) rfl rfl 8 (by decide) (List.mem_cons_of_mem _ uw_43_1) rfl rfl rfl rfl (wk_i32 x462).1 (wk_i32 x462).2 dX1_lookAround_99 (fun H locs w463 hw hT k465 c464 => ?_)
            have hF := hF.put kC_at149 (k := 8) (by decide) k465
            have c466 := k465.gi (Or.inr (by decide)) c457
            have c467 := k465.gi (Or.inr (by decide)) c458
            have c468 := k465.gi (Or.inr (by decide)) c459
            have c469 := k465.gi (Or.inr (by decide)) c460
            have c470 := k465.gi (Or.inr (by decide)) c461
            refine lv_aload_n hx hb dX1_lookAround_102 rfl (lv_at hl 1 rfl) ?_
            refine lv_iconst (v := (-1)) hx hb dX1_lookAround_103 (by decide) ?_
            refine tk_puti hC hK hw hT hinX1 tyX1_ok nmX1 kC_at149 (by decide) rfl rfl 7 (by decide) (List.mem_cons_of_mem _ uw_42_7) rfl rfl rfl rfl (by decide) (by decide) dX1_lookAround_104 (fun H locs w471 hw hT k473 c472 => ?_)
            have hF := hF.put kC_at149 (k := 7) (by decide) k473
            have c474 := k473.gi (Or.inr (by decide)) c466
            have c475 := k473.gi (Or.inr (by decide)) c467
            have c476 := k473.gi (Or.inr (by decide)) c468
            have c477 := k473.gi (Or.inr (by decide)) c469
            have c478 := k473.gi (Or.inr (by decide)) c470
            have c479 := k473.gi (Or.inr (by decide)) c464
            refine lv_iconst (v := 0) hx hb dX1_lookAround_107 (by decide) ?_
            refine lv_istore (lv' := [(4, .int 0), (3, .int r277), (0, .ref (ad 149)), (1, .ref (ad 152)), (2, .int 0)]) hx hb dX1_lookAround_108 hl (by decide) rfl (fun ls hl => ?_)
            exact L110 r277 r289 1 x462 x285 x287 H locs ls w471 (show 0 ≤ r277.toInt by first | with_reducible assumption | omega) (show r277.toInt ≤ 10 by first | with_reducible assumption | omega) (show (-1) ≤ r289.toInt by first | with_reducible assumption | omega) (show r289.toInt ≤ 11 by first | with_reducible assumption | omega) (by decide) (by decide) (show 0 ≤ x462.toInt by first | with_reducible assumption | omega) (show x462.toInt ≤ 999999 by first | with_reducible assumption | omega) (show 0 ≤ x285.toInt from rx285) (show x285.toInt ≤ 9 from tx285) (show 0 ≤ x287.toInt from rx287) (show x287.toInt ≤ 9 from tx287)  hw hT hF c477 c478 c472 c479 c475 c476 (lv_sub hl [2, 3, 4, 1, 0] rfl)
          · refine va_mmax hx hb (hC.2.2.1.trans hl.1.symm) hC.2.2.2.1 (hC.2.2.2.2 _ (List.mem_cons_of_mem _ uw_43_0)) (hC.2.2.2.2 _ (List.mem_cons_of_mem _ uw_14_15)) (hC.2.2.2.2 _ (List.mem_cons_of_mem _ uw_14_16)) (hC.2.2.2.2 _ (List.mem_cons_of_mem _ uw_14_17)) (Nat.le_of_ble_eq_true rfl) (Nat.le_of_ble_eq_true rfl) (Nat.zero_le _) (Nat.zero_le _) dX1_lookAround_96 ?_
            refine lv_topi (fun x480 ex480 => ?_)
            have bx480 : (x480.toInt = (0 : Int) ∧ (-1 : Int) ≤ (0 : Int)) ∨ (x480.toInt = (-1 : Int) ∧ (0 : Int) < (-1 : Int)) := by rw [ex480]; exact wk_max
            refine tk_puti hC hK hw hT hinX1 tyX1_ok nmX1 kC_at149 (by decide) rfl rfl 8 (by decide) (List.mem_cons_of_mem _ uw_43_1) rfl rfl rfl rfl (wk_i32 x480).1 (wk_i32 x480).2 dX1_lookAround_99 (fun H locs w481 hw hT k483 c482 => ?_)
            have hF := hF.put kC_at149 (k := 8) (by decide) k483
            have c484 := k483.gi (Or.inr (by decide)) c457
            have c485 := k483.gi (Or.inr (by decide)) c458
            have c486 := k483.gi (Or.inr (by decide)) c459
            have c487 := k483.gi (Or.inr (by decide)) c460
            have c488 := k483.gi (Or.inr (by decide)) c461
            refine lv_aload_n hx hb dX1_lookAround_102 rfl (lv_at hl 1 rfl) ?_
            refine lv_iconst (v := (-1)) hx hb dX1_lookAround_103 (by decide) ?_
            refine tk_puti hC hK hw hT hinX1 tyX1_ok nmX1 kC_at149 (by decide) rfl rfl 7 (by decide) (List.mem_cons_of_mem _ uw_42_7) rfl rfl rfl rfl (by decide) (by decide) dX1_lookAround_104 (fun H locs w489 hw hT k491 c490 => ?_)
            have hF := hF.put kC_at149 (k := 7) (by decide) k491
            have c492 := k491.gi (Or.inr (by decide)) c484
            have c493 := k491.gi (Or.inr (by decide)) c485
            have c494 := k491.gi (Or.inr (by decide)) c486
            have c495 := k491.gi (Or.inr (by decide)) c487
            have c496 := k491.gi (Or.inr (by decide)) c488
            have c497 := k491.gi (Or.inr (by decide)) c482
            refine lv_iconst (v := 0) hx hb dX1_lookAround_107 (by decide) ?_
            refine lv_istore (lv' := [(4, .int 0), (3, .int r277), (0, .ref (ad 149)), (1, .ref (ad 152)), (2, .int 0)]) hx hb dX1_lookAround_108 hl (by decide) rfl (fun ls hl => ?_)
            exact L110 r277 r289 1 x480 x285 x287 H locs ls w489 (show 0 ≤ r277.toInt by first | with_reducible assumption | omega) (show r277.toInt ≤ 10 by first | with_reducible assumption | omega) (show (-1) ≤ r289.toInt by first | with_reducible assumption | omega) (show r289.toInt ≤ 11 by first | with_reducible assumption | omega) (by decide) (by decide) (show 0 ≤ x480.toInt by first | with_reducible assumption | omega) (show x480.toInt ≤ 999999 by first | with_reducible assumption | omega) (show 0 ≤ x285.toInt from rx285) (show x285.toInt ≤ 9 from tx285) (show 0 ≤ x287.toInt from rx287) (show x287.toInt ≤ 9 from tx287)  hw hT hF c495 c496 c490 c497 c493 c494 (lv_sub hl [2, 3, 4, 1, 0] rfl)
abbrev P_X1_follow_3 (ad : Nat → Nat) (cy : Nat → ClassId) (B : Int) (qr : Nat) (s1 : Int) (a2 : Int32) (w0 : va_W) : va_W → Prop := fun u => TW ksC ad cy (B + 9) qr s1 u ∧ FE ksC [(9, 0, 0), (9, 4, 4), (9, 7, 7)] w0 u ∧ ((True))
set_option maxHeartbeats 4000000 in
set_option maxRecDepth 100000 in
theorem k_X1_follow_3 (l : Launch) (adK adV : Nat → Nat) (dC : Nat → ClassId) (dI : Nat → Nat → Nat) (cy : Nat → ClassId) (ad : Nat → Nat) (B : Int) (hB0 : 2147483648 ≤ B) (hB1 : B ≤ 1152921504606846976) (qr : Nat) (s1 : Int)  (a2 : Int32) (ra2 : (-1) ≤ a2.toInt) (ta2 : a2.toInt ≤ 11) (w0 : va_W) (sz : Nat) (hT : TW ksC ad cy B qr s1 w0)  : Met l yX1_follow (wu yX1_follow cX1_follow 4 none) ({ frames := 2, cells := 0, slots := 0, locals := 34 }) (va_Pc [.ref (ad 149), .ref (ad 152), .int a2] (wpreS adK adV dC dI cy sz w0)) (va_Qv (P_X1_follow_3 ad cy B qr s1 a2 w0) (fun u : va_W => wpost dC dI cy (va_A w0 sz) u) (va_A w0 sz)) 0 0 (va_A w0 sz) := by
  refine Met.ofW (cc := cX1_follow) (maxL := 4) (ret := none) (by decide) rfl ?_
  intro p e s m args below meth c s₁ Bk hml hv
  obtain ⟨rfl, ⟨hsz, hP, hK, hD0⟩, hE, hSR⟩ := hv
  have hx := Bk.exec
  have hb := Bk.bytes
  have hr := Bk.returns
  have hlocks := Bk.notSynchronized
  have hC : CallFix p m c cX1_follow 4 s _ (wu yX1_follow cX1_follow 4 none) RX1 := ⟨hx, hb, hml, findClass_of_methodNamed Bk.named, atoms_spec (ws := (wu yX1_follow cX1_follow 4 none)) Bk.pre⟩
  subst hsz
  have hD := hD0.self (sz := s.heap.size)
  generalize hAe : va_A w0 s.heap.size = A at hD hE ⊢
  have hA : ∀ q : Nat, s.heap.size ≤ q → A q := fun q h => by rw [← hAe]; exact Or.inr h
  have hw : Wd dC dI A s.heap s.heap [] w0 := ⟨hP, hD, va_S.rf⟩
  have hF : FE ksC [(9, 0, 0), (9, 4, 4), (9, 7, 7)] w0 w0 := FE.rf
  have hl := lv_entry ([.ref (ad 149), .ref (ad 152), .int a2]) (n := 4) (Nat.le_of_ble_eq_true rfl)
  rw [lg_entry_eq]
  generalize (lg_sl ([.ref (ad 149), .ref (ad 152), .int a2]) ++ List.replicate (4 - (lg_sl ([.ref (ad 149), .ref (ad 152), .int a2])).length) Slot.unset).toArray = ls at hl ⊢
  have hl : lv_has ls 4 [(0, .ref (ad 149)), (1, .ref (ad 152)), (2, .int a2)] := hl
  generalize hloc : ([] : List Loc) = locs at hw ⊢
  have hinX1 : ∀ w ∈ u_ws RX1 TX1 10, w ∈ (wu yX1_follow cX1_follow 4 none) := fun _ h => List.mem_cons_of_mem _ (up_78 h)
  have hinX5 : ∀ w ∈ u_ws RX5 TX5 14, w ∈ (wu yX1_follow cX1_follow 4 none) := fun _ h => List.mem_cons_of_mem _ (up_76 h)
  have hinX9 : ∀ w ∈ u_ws RX9 TX9 9, w ∈ (wu yX1_follow cX1_follow 4 none) := fun _ h => List.mem_cons_of_mem _ (up_82 h)
  have hinX7 : ∀ w ∈ u_ws RX7 TX7 12, w ∈ (wu yX1_follow cX1_follow 4 none) := fun _ h => List.mem_cons_of_mem _ (up_73 h)
  refine lv_iload_n hx hb dX1_follow_0 rfl (lv_at hl 2 rfl) ?_
  refine lv_iconst (v := (-1)) hx hb dX1_follow_1 (by decide) ?_
  refine lv_icmp_ne (tgt := 6) hx hb dX1_follow_2 (by decide) (fun c1 => ?_) (fun c1 => ?_)
  · have c1 : ¬ a2.toInt = (-1 : Int) := wk_eqF c1
    refine lv_aload_n hx hb dX1_follow_6 rfl (lv_at hl 0 rfl) ?_
    refine tk_getA hC hK hw hT hinX1 kC_at149 (by decide) rfl 0 (by decide) (List.mem_cons_of_mem _ uw_5_0) rfl rfl dX1_follow_7 ?_
    refine tk_getO hC hK hw hT hinX5 kC_at38 (by decide) rfl 0 (by decide) (List.mem_cons_of_mem _ uw_43_2) rfl rfl dX1_follow_10 ?_
    refine lv_iload_n hx hb dX1_follow_13 rfl (lv_at hl 2 rfl) ?_
    refine lv_aload_n hx hb dX1_follow_14 rfl (lv_at hl 1 rfl) ?_
    refine tk_geti hC hK hw hT hinX9 kC_at152 (by decide) rfl 0 (by decide) (List.mem_cons_of_mem _ uw_42_22) rfl rfl dX1_follow_15 (fun x2 c3 rx2 tx2 => ?_)
    refine tk_Vi hC hK hw hT hA hE hSR kC_at39 (by decide) rfl (k_X7_sideOf_2 l adK adV dC dI cy ad B hB0 (Int.le_trans hB1 (by decide)) qr s1   a2 (show 0 ≤ a2.toInt by first | with_reducible assumption | omega) (show a2.toInt ≤ 11 from ta2) x2 (show 0 ≤ x2.toInt from rx2) (show x2.toInt ≤ 9 from tx2) w0 s.heap.size hT ) (cwV 2 hC.2.2.2.2 uV_RX1_137 rfl rfl rfl (by decide +kernel) ⟨Nat.le_of_ble_eq_true rfl, Nat.le_of_ble_eq_true rfl⟩) rfl hl.1 rfl (Nat.le_of_ble_eq_true rfl) dX1_follow_18 (fun r4 w6 H locs hp5 hw => ?_)
    obtain ⟨hT, k7, hg10⟩ := hp5
    have hF := hF.tr k7 (by decide)
    have c11 := k7.gi kC_at152 (by decide) c3
    rcases hg10 with rfl | ⟨rfl, c8⟩ | ⟨rfl, c9⟩
    · refine lv_istore_n (lv' := [(3, .int (-1)), (0, .ref (ad 149)), (1, .ref (ad 152)), (2, .int a2)]) hx hb dX1_follow_21 rfl hl (by decide) rfl (fun ls hl => ?_)
      refine lv_iload_n hx hb dX1_follow_22 rfl (lv_at hl 0 rfl) ?_
      refine lv_iconst (v := (-1)) hx hb dX1_follow_23 (by decide) ?_
      refine lv_icmp_ne (tgt := 28) hx hb dX1_follow_24 (by decide) (fun c => absurd (by decide) c) (fun _ => ?_)
      exact tk_vret hC hr hlocks hK ⟨(hT.up (show B ≤ (B + 9) by omega)), hF, trivial⟩ hw dX1_follow_27
    · refine lv_istore_n (lv' := [(3, .int 0), (0, .ref (ad 149)), (1, .ref (ad 152)), (2, .int a2)]) hx hb dX1_follow_21 rfl hl (by decide) rfl (fun ls hl => ?_)
      refine lv_iload_n hx hb dX1_follow_22 rfl (lv_at hl 0 rfl) ?_
      refine lv_iconst (v := (-1)) hx hb dX1_follow_23 (by decide) ?_
      refine lv_icmp_ne (tgt := 28) hx hb dX1_follow_24 (by decide) (fun _ => ?_) (fun c => absurd c (by decide))
      refine lv_aload_n hx hb dX1_follow_28 rfl (lv_at hl 2 rfl) ?_
      refine lv_aload_n hx hb dX1_follow_29 rfl (lv_at hl 2 rfl) ?_
      refine tk_geti hC hK hw hT hinX9 kC_at152 (by decide) rfl 0 (by decide) (List.mem_cons_of_mem _ uw_42_22) rfl rfl dX1_follow_30 (fun x12 c13 rx12 tx12 => ?_)
      refine wk_top x2 (c13.symm.trans c11) ?_
      refine tk_puti hC hK hw hT hinX9 tyX9_ok nmX9 kC_at152 (by decide) rfl rfl 7 (by decide) (List.mem_cons_of_mem _ uw_45_15) rfl rfl rfl rfl (show (-1) ≤ x2.toInt from Int.le_trans (by decide) rx2) (show x2.toInt ≤ 9 from tx2) dX1_follow_33 (fun H locs w14 hw hT k16 c15 => ?_)
      have hF := hF.put kC_at152 (k := 7) (by decide) k16
      have c17 := k16.gi (Or.inr (by decide)) c11
      have c18 := k16.gi (Or.inl (tk_ne kC_at40 kC_at152 (by decide))) c8
      refine lv_aload_n hx hb dX1_follow_36 rfl (lv_at hl 2 rfl) ?_
      refine lv_aload_n hx hb dX1_follow_37 rfl (lv_at hl 1 rfl) ?_
      refine tk_getA hC hK hw hT hinX1 kC_at149 (by decide) rfl 0 (by decide) (List.mem_cons_of_mem _ uw_5_0) rfl rfl dX1_follow_38 ?_
      refine tk_getO hC hK hw hT hinX5 kC_at38 (by decide) rfl 0 (by decide) (List.mem_cons_of_mem _ uw_43_2) rfl rfl dX1_follow_41 ?_
      refine lv_iload_n hx hb dX1_follow_44 rfl (lv_at hl 3 rfl) ?_
      refine lv_iload_n hx hb dX1_follow_45 rfl (lv_at hl 0 rfl) ?_
      refine tk_Vi hC hK hw hT hA hE hSR kC_at39 (by decide) rfl (k_X7_cornerAcross_2 l adK adV dC dI cy ad B hB0 (Int.le_trans hB1 (by decide)) qr s1   a2 (show 0 ≤ a2.toInt by first | with_reducible assumption | omega) (show a2.toInt ≤ 11 from ta2) w14 H.size hT ) (cwV 2 hC.2.2.2.2 uV_RX1_147 rfl rfl rfl (by decide +kernel) ⟨Nat.le_of_ble_eq_true rfl, Nat.le_of_ble_eq_true rfl⟩) rfl hl.1 rfl (Nat.le_of_ble_eq_true rfl) dX1_follow_46 (fun r19 w21 H locs hp20 hw => ?_)
      obtain ⟨hT, k22, hg25⟩ := hp20
      have hF := hF.tr k22 (by decide)
      have c26 := k22.gi kC_at152 (by decide) c17
      have c27 := k22.gi kC_at40 rfl c18
      have c28 := k22.gi kC_at152 (by decide) c15
      obtain ⟨g23, g24⟩ := hg25
      refine tk_puti hC hK hw hT hinX9 tyX9_ok nmX9 kC_at152 (by decide) rfl rfl 0 (by decide) (List.mem_cons_of_mem _ uw_42_22) rfl rfl rfl rfl (show 0 ≤ r19.toInt by first | with_reducible assumption | omega) (show r19.toInt ≤ 9 by first | with_reducible assumption | omega) dX1_follow_49 (fun H locs w29 hw hT k31 c30 => ?_)
      have hF := hF.put kC_at152 (k := 0) (by decide) k31
      have c32 := k31.gi (Or.inl (tk_ne kC_at40 kC_at152 (by decide))) c27
      have c33 := k31.gi (Or.inr (by decide)) c28
      refine lv_aload_n hx hb dX1_follow_52 rfl (lv_at hl 2 rfl) ?_
      refine lv_dup hx hb dX1_follow_53 rfl ?_
      refine tk_getB hC hK hw hT hinX9 kC_at152 (by decide) rfl 4 (by decide) (List.mem_cons_of_mem _ uw_42_10) rfl rfl dX1_follow_54 (fun x34 c35 rx34 tx34 => ?_)
      refine lv_aload_n hx hb dX1_follow_57 rfl (lv_at hl 1 rfl) ?_
      refine tk_getA hC hK hw hT hinX1 kC_at149 (by decide) rfl 0 (by decide) (List.mem_cons_of_mem _ uw_5_0) rfl rfl dX1_follow_58 ?_
      refine tk_getO hC hK hw hT hinX5 kC_at38 (by decide) rfl 0 (by decide) (List.mem_cons_of_mem _ uw_43_2) rfl rfl dX1_follow_61 ?_
      refine tk_getO hC hK hw hT hinX7 kC_at39 (by decide) rfl 1 (by decide) (List.mem_cons_of_mem _ uw_46_8) rfl rfl dX1_follow_64 ?_
      refine lv_iload_n hx hb dX1_follow_67 rfl (lv_at hl 3 rfl) ?_
      refine tk_iald hC hK hw hT kC_at41 rfl rfl (show 0 ≤ a2.toInt by first | with_reducible assumption | omega) (show a2.toInt < 13 from Int.lt_of_le_of_lt ta2 (by decide)) dX1_follow_68 (fun x36 c37 rx36 tx36 => ?_)
      refine lv_i2l hx hb dX1_follow_69 rfl ?_
      refine lv_topl (fun x38 ex38 => ?_)
      have ex38 : x38.toInt = x36.toInt := by rw [ex38]; exact wk_i2l _
      have bx38 := wk_i32 x36
      refine lv_ladd hx hb dX1_follow_70 ?_
      refine lv_topl (fun x39 ex39 => ?_)
      have ex39 : x39.toInt = x34.toInt + x38.toInt := by rw [ex39]; exact wk_addl (show (-9223372036854775808) ≤ x34.toInt + x38.toInt by omega) (show x34.toInt + x38.toInt ≤ 9223372036854775807 by omega)
      have hT := hT.up (show B ≤ (B + 9) by omega)
      refine tk_putB hC hK hw hT hinX9 tyX9_ok nmX9 kC_at152 (by decide) rfl rfl 4 (by decide) (List.mem_cons_of_mem _ uw_42_10) rfl rfl rfl rfl (show 0 ≤ x39.toInt by first | with_reducible assumption | omega) (show x39.toInt ≤ (B + 9) by omega) dX1_follow_71 (fun H locs w40 hw hT k42 c41 => ?_)
      have hF := hF.put kC_at152 (k := 4) (by decide) k42
      have c43 := k42.gi (Or.inl (tk_ne kC_at40 kC_at152 (by decide))) c32
      have c44 := k42.gi (Or.inr (by decide)) c33
      have c45 := k42.gi (Or.inr (by decide)) c30
      exact tk_vret hC hr hlocks hK ⟨hT, hF, trivial⟩ hw dX1_follow_74
    · refine lv_istore_n (lv' := [(3, .int 1), (0, .ref (ad 149)), (1, .ref (ad 152)), (2, .int a2)]) hx hb dX1_follow_21 rfl hl (by decide) rfl (fun ls hl => ?_)
      refine lv_iload_n hx hb dX1_follow_22 rfl (lv_at hl 0 rfl) ?_
      refine lv_iconst (v := (-1)) hx hb dX1_follow_23 (by decide) ?_
      refine lv_icmp_ne (tgt := 28) hx hb dX1_follow_24 (by decide) (fun _ => ?_) (fun c => absurd c (by decide))
      refine lv_aload_n hx hb dX1_follow_28 rfl (lv_at hl 2 rfl) ?_
      refine lv_aload_n hx hb dX1_follow_29 rfl (lv_at hl 2 rfl) ?_
      refine tk_geti hC hK hw hT hinX9 kC_at152 (by decide) rfl 0 (by decide) (List.mem_cons_of_mem _ uw_42_22) rfl rfl dX1_follow_30 (fun x46 c47 rx46 tx46 => ?_)
      refine wk_top x2 (c47.symm.trans c11) ?_
      refine tk_puti hC hK hw hT hinX9 tyX9_ok nmX9 kC_at152 (by decide) rfl rfl 7 (by decide) (List.mem_cons_of_mem _ uw_45_15) rfl rfl rfl rfl (show (-1) ≤ x2.toInt from Int.le_trans (by decide) rx2) (show x2.toInt ≤ 9 from tx2) dX1_follow_33 (fun H locs w48 hw hT k50 c49 => ?_)
      have hF := hF.put kC_at152 (k := 7) (by decide) k50
      have c51 := k50.gi (Or.inr (by decide)) c11
      have c52 := k50.gi (Or.inl (tk_ne kC_at40 kC_at152 (by decide))) c9
      refine lv_aload_n hx hb dX1_follow_36 rfl (lv_at hl 2 rfl) ?_
      refine lv_aload_n hx hb dX1_follow_37 rfl (lv_at hl 1 rfl) ?_
      refine tk_getA hC hK hw hT hinX1 kC_at149 (by decide) rfl 0 (by decide) (List.mem_cons_of_mem _ uw_5_0) rfl rfl dX1_follow_38 ?_
      refine tk_getO hC hK hw hT hinX5 kC_at38 (by decide) rfl 0 (by decide) (List.mem_cons_of_mem _ uw_43_2) rfl rfl dX1_follow_41 ?_
      refine lv_iload_n hx hb dX1_follow_44 rfl (lv_at hl 3 rfl) ?_
      refine lv_iload_n hx hb dX1_follow_45 rfl (lv_at hl 0 rfl) ?_
      refine tk_Vi hC hK hw hT hA hE hSR kC_at39 (by decide) rfl (k_X7_cornerAcross_3 l adK adV dC dI cy ad B hB0 (Int.le_trans hB1 (by decide)) qr s1   a2 (show 0 ≤ a2.toInt by first | with_reducible assumption | omega) (show a2.toInt ≤ 11 from ta2) w48 H.size hT ) (cwV 2 hC.2.2.2.2 uV_RX1_147 rfl rfl rfl (by decide +kernel) ⟨Nat.le_of_ble_eq_true rfl, Nat.le_of_ble_eq_true rfl⟩) rfl hl.1 rfl (Nat.le_of_ble_eq_true rfl) dX1_follow_46 (fun r53 w55 H locs hp54 hw => ?_)
      obtain ⟨hT, k56, hg59⟩ := hp54
      have hF := hF.tr k56 (by decide)
      have c60 := k56.gi kC_at152 (by decide) c51
      have c61 := k56.gi kC_at40 rfl c52
      have c62 := k56.gi kC_at152 (by decide) c49
      obtain ⟨g57, g58⟩ := hg59
      refine tk_puti hC hK hw hT hinX9 tyX9_ok nmX9 kC_at152 (by decide) rfl rfl 0 (by decide) (List.mem_cons_of_mem _ uw_42_22) rfl rfl rfl rfl (show 0 ≤ r53.toInt by first | with_reducible assumption | omega) (show r53.toInt ≤ 9 by first | with_reducible assumption | omega) dX1_follow_49 (fun H locs w63 hw hT k65 c64 => ?_)
      have hF := hF.put kC_at152 (k := 0) (by decide) k65
      have c66 := k65.gi (Or.inl (tk_ne kC_at40 kC_at152 (by decide))) c61
      have c67 := k65.gi (Or.inr (by decide)) c62
      refine lv_aload_n hx hb dX1_follow_52 rfl (lv_at hl 2 rfl) ?_
      refine lv_dup hx hb dX1_follow_53 rfl ?_
      refine tk_getB hC hK hw hT hinX9 kC_at152 (by decide) rfl 4 (by decide) (List.mem_cons_of_mem _ uw_42_10) rfl rfl dX1_follow_54 (fun x68 c69 rx68 tx68 => ?_)
      refine lv_aload_n hx hb dX1_follow_57 rfl (lv_at hl 1 rfl) ?_
      refine tk_getA hC hK hw hT hinX1 kC_at149 (by decide) rfl 0 (by decide) (List.mem_cons_of_mem _ uw_5_0) rfl rfl dX1_follow_58 ?_
      refine tk_getO hC hK hw hT hinX5 kC_at38 (by decide) rfl 0 (by decide) (List.mem_cons_of_mem _ uw_43_2) rfl rfl dX1_follow_61 ?_
      refine tk_getO hC hK hw hT hinX7 kC_at39 (by decide) rfl 1 (by decide) (List.mem_cons_of_mem _ uw_46_8) rfl rfl dX1_follow_64 ?_
      refine lv_iload_n hx hb dX1_follow_67 rfl (lv_at hl 3 rfl) ?_
      refine tk_iald hC hK hw hT kC_at41 rfl rfl (show 0 ≤ a2.toInt by first | with_reducible assumption | omega) (show a2.toInt < 13 from Int.lt_of_le_of_lt ta2 (by decide)) dX1_follow_68 (fun x70 c71 rx70 tx70 => ?_)
      refine lv_i2l hx hb dX1_follow_69 rfl ?_
      refine lv_topl (fun x72 ex72 => ?_)
      have ex72 : x72.toInt = x70.toInt := by rw [ex72]; exact wk_i2l _
      have bx72 := wk_i32 x70
      refine lv_ladd hx hb dX1_follow_70 ?_
      refine lv_topl (fun x73 ex73 => ?_)
      have ex73 : x73.toInt = x68.toInt + x72.toInt := by rw [ex73]; exact wk_addl (show (-9223372036854775808) ≤ x68.toInt + x72.toInt by omega) (show x68.toInt + x72.toInt ≤ 9223372036854775807 by omega)
      have hT := hT.up (show B ≤ (B + 9) by omega)
      refine tk_putB hC hK hw hT hinX9 tyX9_ok nmX9 kC_at152 (by decide) rfl rfl 4 (by decide) (List.mem_cons_of_mem _ uw_42_10) rfl rfl rfl rfl (show 0 ≤ x73.toInt by first | with_reducible assumption | omega) (show x73.toInt ≤ (B + 9) by omega) dX1_follow_71 (fun H locs w74 hw hT k76 c75 => ?_)
      have hF := hF.put kC_at152 (k := 4) (by decide) k76
      have c77 := k76.gi (Or.inl (tk_ne kC_at40 kC_at152 (by decide))) c66
      have c78 := k76.gi (Or.inr (by decide)) c67
      have c79 := k76.gi (Or.inr (by decide)) c64
      exact tk_vret hC hr hlocks hK ⟨hT, hF, trivial⟩ hw dX1_follow_74
  · have c1 : a2.toInt = (-1 : Int) := wk_eq.mp c1
    exact tk_vret hC hr hlocks hK ⟨(hT.up (show B ≤ (B + 9) by omega)), hF, trivial⟩ hw dX1_follow_5
abbrev P_X9_isAtGoal_2 (ad : Nat → Nat) (cy : Nat → ClassId) (B : Int) (qr : Nat) (s1 : Int)  (w0 : va_W) : Int32 → va_W → Prop := fun r u => TW ksC ad cy B qr s1 u ∧ FE ksC ([] : List (Nat × Nat × Nat)) w0 u ∧ ((r = 0) ∨ (r = 1))
set_option maxHeartbeats 4000000 in
set_option maxRecDepth 100000 in
theorem k_X9_isAtGoal_2 (l : Launch) (adK adV : Nat → Nat) (dC : Nat → ClassId) (dI : Nat → Nat → Nat) (cy : Nat → ClassId) (ad : Nat → Nat) (B : Int) (hB0 : 2147483648 ≤ B) (hB1 : B ≤ 1152921504606846976) (qr : Nat) (s1 : Int)   (w0 : va_W) (sz : Nat) (hT : TW ksC ad cy B qr s1 w0)  : Met l yX9_isAtGoal (wu yX9_isAtGoal cX9_isAtGoal 1 (some .boolean)) ({ frames := 1, cells := 0, slots := 0, locals := 12 }) (va_Pc [.ref (ad 152)] (wpreS adK adV dC dI cy sz w0)) (va_Qi (P_X9_isAtGoal_2 ad cy B qr s1  w0) (fun u : va_W => wpost dC dI cy (va_A w0 sz) u) (va_A w0 sz)) 0 0 (va_A w0 sz) := by
  refine Met.ofW (cc := cX9_isAtGoal) (maxL := 1) (ret := (some .boolean)) (by decide) rfl ?_
  intro p e s m args below meth c s₁ Bk hml hv
  obtain ⟨rfl, ⟨hsz, hP, hK, hD0⟩, hE, hSR⟩ := hv
  have hx := Bk.exec
  have hb := Bk.bytes
  have hr := Bk.returns
  have hlocks := Bk.notSynchronized
  have hC : CallFix p m c cX9_isAtGoal 1 s _ (wu yX9_isAtGoal cX9_isAtGoal 1 (some .boolean)) RX9 := ⟨hx, hb, hml, findClass_of_methodNamed Bk.named, atoms_spec (ws := (wu yX9_isAtGoal cX9_isAtGoal 1 (some .boolean))) Bk.pre⟩
  subst hsz
  have hD := hD0.self (sz := s.heap.size)
  generalize hAe : va_A w0 s.heap.size = A at hD hE ⊢
  have hA : ∀ q : Nat, s.heap.size ≤ q → A q := fun q h => by rw [← hAe]; exact Or.inr h
  have hw : Wd dC dI A s.heap s.heap [] w0 := ⟨hP, hD, va_S.rf⟩
  have hF : FE ksC ([] : List (Nat × Nat × Nat)) w0 w0 := FE.rf
  have hl := lv_entry ([.ref (ad 152)]) (n := 1) (Nat.le_of_ble_eq_true rfl)
  rw [lg_entry_eq]
  generalize (lg_sl ([.ref (ad 152)]) ++ List.replicate (1 - (lg_sl ([.ref (ad 152)])).length) Slot.unset).toArray = ls at hl ⊢
  have hl : lv_has ls 1 [(0, .ref (ad 152))] := hl
  generalize hloc : ([] : List Loc) = locs at hw ⊢
  have hinX9 : ∀ w ∈ u_ws RX9 TX9 9, w ∈ (wu yX9_isAtGoal cX9_isAtGoal 1 (some .boolean)) := fun _ h => List.mem_cons_of_mem _ (up_82 h)
  refine lv_aload_n hx hb dX9_isAtGoal_0 rfl (lv_at hl 0 rfl) ?_
  refine tk_geti hC hK hw hT hinX9 kC_at152 (by decide) rfl 0 (by decide) (List.mem_cons_of_mem _ uw_39_9) rfl rfl dX9_isAtGoal_1 (fun x1 c2 rx1 tx1 => ?_)
  refine lv_aload_n hx hb dX9_isAtGoal_4 rfl (lv_at hl 0 rfl) ?_
  refine tk_geti hC hK hw hT hinX9 kC_at152 (by decide) rfl 1 (by decide) (List.mem_cons_of_mem _ uw_39_10) rfl rfl dX9_isAtGoal_5 (fun x3 c4 rx3 tx3 => ?_)
  refine lv_icmp_ne (tgt := 15) hx hb dX9_isAtGoal_8 (by decide) (fun c5 => ?_) (fun c5 => ?_)
  · have c5 : ¬ x1.toInt = x3.toInt := wk_eqF c5
    refine lv_iconst (v := 0) hx hb dX9_isAtGoal_15 (by decide) ?_
    exact tk_zret hC hr rfl hlocks hK ⟨hT, hF, (Or.inl rfl)⟩ hw dX9_isAtGoal_16
  · have c5 : x1.toInt = x3.toInt := wk_eq.mp c5
    refine lv_iconst (v := 1) hx hb dX9_isAtGoal_11 (by decide) ?_
    refine lv_goto (tgt := 16) hx hb dX9_isAtGoal_12 (by decide) ?_
    exact tk_zret hC hr rfl hlocks hK ⟨hT, hF, (Or.inr rfl)⟩ hw dX9_isAtGoal_16
abbrev P_X1_mayDo_2 (ad : Nat → Nat) (cy : Nat → ClassId) (B : Int) (qr : Nat) (s1 : Int) (a2 : Int32) (w0 : va_W) : Int32 → va_W → Prop := fun r u => TW ksC ad cy B qr s1 u ∧ FE ksC ([] : List (Nat × Nat × Nat)) w0 u ∧ ((0 ≤ r.toInt ∧ r.toInt ≤ 1 ∧ 0 ≤ a2.toInt ∧ a2.toInt ≤ 0) ∨ (r = 0) ∨ (r = 1))
set_option maxHeartbeats 4000000 in
set_option maxRecDepth 100000 in
theorem k_X1_mayDo_2 (l : Launch) (adK adV : Nat → Nat) (dC : Nat → ClassId) (dI : Nat → Nat → Nat) (cy : Nat → ClassId) (ad : Nat → Nat) (B : Int) (hB0 : 2147483648 ≤ B) (hB1 : B ≤ 1152921504606846976) (qr : Nat) (s1 : Int)  (a2 : Int32) (w0 : va_W) (sz : Nat) (hT : TW ksC ad cy B qr s1 w0)  : Met l yX1_mayDo (wu yX1_mayDo cX1_mayDo 3 (some .boolean)) ({ frames := 3, cells := 0, slots := 0, locals := 52 }) (va_Pc [.ref (ad 149), .ref (ad 152), .int a2] (wpreS adK adV dC dI cy sz w0)) (va_Qi (P_X1_mayDo_2 ad cy B qr s1 a2 w0) (fun u : va_W => wpost dC dI cy (va_A w0 sz) u) (va_A w0 sz)) 0 0 (va_A w0 sz) := by
  refine Met.ofW (cc := cX1_mayDo) (maxL := 3) (ret := (some .boolean)) (by decide) rfl ?_
  intro p e s m args below meth c s₁ Bk hml hv
  obtain ⟨rfl, ⟨hsz, hP, hK, hD0⟩, hE, hSR⟩ := hv
  have hx := Bk.exec
  have hb := Bk.bytes
  have hr := Bk.returns
  have hlocks := Bk.notSynchronized
  have hC : CallFix p m c cX1_mayDo 3 s _ (wu yX1_mayDo cX1_mayDo 3 (some .boolean)) RX1 := ⟨hx, hb, hml, findClass_of_methodNamed Bk.named, atoms_spec (ws := (wu yX1_mayDo cX1_mayDo 3 (some .boolean))) Bk.pre⟩
  subst hsz
  have hD := hD0.self (sz := s.heap.size)
  generalize hAe : va_A w0 s.heap.size = A at hD hE ⊢
  have hA : ∀ q : Nat, s.heap.size ≤ q → A q := fun q h => by rw [← hAe]; exact Or.inr h
  have hw : Wd dC dI A s.heap s.heap [] w0 := ⟨hP, hD, va_S.rf⟩
  have hF : FE ksC ([] : List (Nat × Nat × Nat)) w0 w0 := FE.rf
  have hl := lv_entry ([.ref (ad 149), .ref (ad 152), .int a2]) (n := 3) (Nat.le_of_ble_eq_true rfl)
  rw [lg_entry_eq]
  generalize (lg_sl ([.ref (ad 149), .ref (ad 152), .int a2]) ++ List.replicate (3 - (lg_sl ([.ref (ad 149), .ref (ad 152), .int a2])).length) Slot.unset).toArray = ls at hl ⊢
  have hl : lv_has ls 3 [(0, .ref (ad 149)), (1, .ref (ad 152)), (2, .int a2)] := hl
  generalize hloc : ([] : List Loc) = locs at hw ⊢
  have hinX1 : ∀ w ∈ u_ws RX1 TX1 10, w ∈ (wu yX1_mayDo cX1_mayDo 3 (some .boolean)) := fun _ h => List.mem_cons_of_mem _ (up_78 h)
  have J65 : ∀ (f65_149_9 : Int32) (H : Heap) (locs : List Loc) (ls : Array Slot) (w1 : va_W), 0 ≤ f65_149_9.toInt → f65_149_9.toInt ≤ 1 → Wd dC dI A s.heap H locs w1 → TW ksC ad cy B qr s1 w1 → FE ksC ([] : List (Nat × Nat × Nat)) w0 w1 → gi w1 149 9 = f65_149_9 → lv_has ls 3 [(0, .ref (ad 149)), (1, .ref (ad 152)), (2, .int 2)] → W p l e ({ frames := 3, cells := 0, slots := 0, locals := 52 }) s m (List.toArray [.ref (ad 149), .ref (ad 152), .int a2]) below meth c H locs 0 0 (MQ below (va_Qi (P_X1_mayDo_2 ad cy B qr s1 a2 w0) (fun u : va_W => wpost dC dI cy A u) A) (List.toArray [.ref (ad 149), .ref (ad 152), .int a2]) s 0 0 A) (F0 m 65 ls []) := by
    intro f65_149_9 H locs ls w1 r2 t3 hw hT hF c4 hl
    refine lv_iconst (v := 0) hx hb dX1_mayDo_65 (by decide) ?_
    exact tk_zret hC hr rfl hlocks hK ⟨hT, hF, (Or.inr (Or.inl rfl))⟩ hw dX1_mayDo_66
  refine lv_iload_n hx hb dX1_mayDo_0 rfl (lv_at hl 2 rfl) ?_
  rcases (show a2.toInt = 0 ∨ a2.toInt = 1 ∨ a2.toInt = 2 ∨ (a2.toInt < 0 ∨ 2 < a2.toInt) by omega) with c5 | c5 | c5 | c5
  · refine lv_tableIn (off := 27) (tgt := 28) hx hb dX1_mayDo_1 (by omega) (by omega) (by rw [c5]; rfl) (by decide) ?_
    refine lv_aload_n hx hb dX1_mayDo_28 rfl (lv_at hl 0 rfl) ?_
    refine tk_geti hC hK hw hT hinX1 kC_at149 (by decide) rfl 6 (by decide) (List.mem_cons_of_mem _ uw_42_5) rfl rfl dX1_mayDo_29 (fun x6 c7 rx6 tx6 => ?_)
    exact tk_zret hC hr (by rcases nar_z (show 0 ≤ x6.toInt from rx6) (show x6.toInt ≤ 1 from tx6) with h | h <;> (rw [h]; rfl)) hlocks hK ⟨hT, hF, (Or.inl ⟨(show 0 ≤ x6.toInt from rx6), (show x6.toInt ≤ 1 from tx6), (show 0 ≤ a2.toInt by first | with_reducible assumption | omega), (show a2.toInt ≤ 0 by first | with_reducible assumption | omega)⟩)⟩ hw dX1_mayDo_32
  · refine lv_tableIn (off := 32) (tgt := 33) hx hb dX1_mayDo_1 (by omega) (by omega) (by rw [c5]; rfl) (by decide) ?_
    refine lv_aload_n hx hb dX1_mayDo_33 rfl (lv_at hl 0 rfl) ?_
    refine tk_geti hC hK hw hT hinX1 kC_at149 (by decide) rfl 7 (by decide) (List.mem_cons_of_mem _ uw_42_7) rfl rfl dX1_mayDo_34 (fun x8 c9 rx8 tx8 => ?_)
    refine lv_iconst (v := (-1)) hx hb dX1_mayDo_37 (by decide) ?_
    refine lv_icmp_eq (tgt := 45) hx hb dX1_mayDo_38 (by decide) (fun c10 => ?_) (fun c10 => ?_)
    · have c10 : x8.toInt = (-1 : Int) := wk_eq.mp c10
      refine lv_iconst (v := 0) hx hb dX1_mayDo_45 (by decide) ?_
      exact tk_zret hC hr rfl hlocks hK ⟨hT, hF, (Or.inr (Or.inl rfl))⟩ hw dX1_mayDo_46
    · have c10 : ¬ x8.toInt = (-1 : Int) := wk_eqF c10
      refine lv_iconst (v := 1) hx hb dX1_mayDo_41 (by decide) ?_
      refine lv_goto (tgt := 46) hx hb dX1_mayDo_42 (by decide) ?_
      exact tk_zret hC hr rfl hlocks hK ⟨hT, hF, (Or.inr (Or.inr rfl))⟩ hw dX1_mayDo_46
  · refine lv_tableIn (off := 46) (tgt := 47) hx hb dX1_mayDo_1 (by omega) (by omega) (by rw [c5]; rfl) (by decide) ?_
    refine lv_aload_n hx hb dX1_mayDo_47 rfl (lv_at hl 0 rfl) ?_
    refine tk_geti hC hK hw hT hinX1 kC_at149 (by decide) rfl 9 (by decide) (List.mem_cons_of_mem _ uw_42_20) rfl rfl dX1_mayDo_48 (fun x11 c12 rx11 tx11 => ?_)
    refine lv_if_ne (tgt := 65) hx hb dX1_mayDo_51 (by decide) (fun c13 => ?_) (fun c13 => ?_)
    · have c13 : ¬ x11.toInt = (0 : Int) := wk_eqF c13
      obtain rfl : a2 = 2 := wk_eq.mpr (show a2.toInt = 2 by first | exact Int.le_antisymm (by omega) (by omega) | omega)
      exact J65 x11 s.heap locs ls w0 (show 0 ≤ x11.toInt from rx11) (show x11.toInt ≤ 1 from tx11)  hw hT hF c12 (lv_sub hl [0, 1, 2] rfl)
    · have c13 : x11.toInt = (0 : Int) := wk_eq.mp c13
      refine lv_aload_n hx hb dX1_mayDo_54 rfl (lv_at hl 1 rfl) ?_
      refine tk_Vi hC hK hw hT hA hE hSR kC_at152 (by decide) rfl (k_X9_askedToday_2 l adK adV dC dI cy ad B hB0 (Int.le_trans hB1 (by decide)) qr s1    w0 s.heap.size hT ) (cwV 0 hC.2.2.2.2 uV_RX1_85 rfl rfl rfl (by decide +kernel) ⟨Nat.le_of_ble_eq_true rfl, Nat.le_of_ble_eq_true rfl⟩) rfl hl.1 rfl (Nat.le_of_ble_eq_true rfl) dX1_mayDo_55 (fun r14 w16 H locs hp15 hw => ?_)
      obtain ⟨hT, k17, hg18⟩ := hp15
      have hF := hF.tr k17 (by decide)
      have c19 := k17.gi kC_at149 (by decide) c12
      rcases hg18 with rfl | rfl
      · refine lv_if_ne (tgt := 65) hx hb dX1_mayDo_58 (by decide) (fun c => absurd (by decide) c) (fun _ => ?_)
        refine lv_iconst (v := 1) hx hb dX1_mayDo_61 (by decide) ?_
        refine lv_goto (tgt := 66) hx hb dX1_mayDo_62 (by decide) ?_
        exact tk_zret hC hr rfl hlocks hK ⟨hT, hF, (Or.inr (Or.inr rfl))⟩ hw dX1_mayDo_66
      · refine lv_if_ne (tgt := 65) hx hb dX1_mayDo_58 (by decide) (fun _ => ?_) (fun c => absurd c (by decide))
        obtain rfl : a2 = 2 := wk_eq.mpr (show a2.toInt = 2 by first | exact Int.le_antisymm (by omega) (by omega) | omega)
        exact J65 x11 H locs ls w16 (show 0 ≤ x11.toInt from rx11) (show x11.toInt ≤ 1 from tx11)  hw hT hF c19 (lv_sub hl [0, 1, 2] rfl)
  · refine lv_tableOut (tgt := 67) hx hb dX1_mayDo_1 c5 (by decide) ?_
    refine lv_iconst (v := 1) hx hb dX1_mayDo_67 (by decide) ?_
    exact tk_zret hC hr rfl hlocks hK ⟨hT, hF, (Or.inr (Or.inr rfl))⟩ hw dX1_mayDo_68
abbrev P_X1_valueOf_2 (ad : Nat → Nat) (cy : Nat → ClassId) (B : Int) (qr : Nat) (s1 : Int) (a2 : Int32) (w0 : va_W) : Int64 → va_W → Prop := fun r u => TW ksC ad cy B qr s1 u ∧ FE ksC ([] : List (Nat × Nat × Nat)) w0 u ∧ (((-2147483648) ≤ r.toInt ∧ r.toInt ≤ 2147483647))
set_option maxHeartbeats 4000000 in
set_option maxRecDepth 100000 in
theorem k_X1_valueOf_2 (l : Launch) (adK adV : Nat → Nat) (dC : Nat → ClassId) (dI : Nat → Nat → Nat) (cy : Nat → ClassId) (ad : Nat → Nat) (B : Int) (hB0 : 2147483648 ≤ B) (hB1 : B ≤ 1152921504606846976) (qr : Nat) (s1 : Int)  (a2 : Int32) (ta2 : a2.toInt ≤ 9) (w0 : va_W) (sz : Nat) (hT : TW ksC ad cy B qr s1 w0)  : Met l yX1_valueOf (wu yX1_valueOf cX1_valueOf 3 (some .long)) ({ frames := 2, cells := 0, slots := 0, locals := 32 }) (va_Pc [.ref (ad 149), .ref (ad 152), .int a2] (wpreS adK adV dC dI cy sz w0)) (va_Ql (P_X1_valueOf_2 ad cy B qr s1 a2 w0) (fun u : va_W => wpost dC dI cy (va_A w0 sz) u) (va_A w0 sz)) 0 0 (va_A w0 sz) := by
  refine Met.ofW (cc := cX1_valueOf) (maxL := 3) (ret := (some .long)) (by decide) rfl ?_
  intro p e s m args below meth c s₁ Bk hml hv
  obtain ⟨rfl, ⟨hsz, hP, hK, hD0⟩, hE, hSR⟩ := hv
  have hx := Bk.exec
  have hb := Bk.bytes
  have hr := Bk.returns
  have hlocks := Bk.notSynchronized
  have hC : CallFix p m c cX1_valueOf 3 s _ (wu yX1_valueOf cX1_valueOf 3 (some .long)) RX1 := ⟨hx, hb, hml, findClass_of_methodNamed Bk.named, atoms_spec (ws := (wu yX1_valueOf cX1_valueOf 3 (some .long))) Bk.pre⟩
  subst hsz
  have hD := hD0.self (sz := s.heap.size)
  generalize hAe : va_A w0 s.heap.size = A at hD hE ⊢
  have hA : ∀ q : Nat, s.heap.size ≤ q → A q := fun q h => by rw [← hAe]; exact Or.inr h
  have hw : Wd dC dI A s.heap s.heap [] w0 := ⟨hP, hD, va_S.rf⟩
  have hF : FE ksC ([] : List (Nat × Nat × Nat)) w0 w0 := FE.rf
  have hl := lv_entry ([.ref (ad 149), .ref (ad 152), .int a2]) (n := 3) (Nat.le_of_ble_eq_true rfl)
  rw [lg_entry_eq]
  generalize (lg_sl ([.ref (ad 149), .ref (ad 152), .int a2]) ++ List.replicate (3 - (lg_sl ([.ref (ad 149), .ref (ad 152), .int a2])).length) Slot.unset).toArray = ls at hl ⊢
  have hl : lv_has ls 3 [(0, .ref (ad 149)), (1, .ref (ad 152)), (2, .int a2)] := hl
  generalize hloc : ([] : List Loc) = locs at hw ⊢
  have hinX9 : ∀ w ∈ u_ws RX9 TX9 9, w ∈ (wu yX1_valueOf cX1_valueOf 3 (some .long)) := fun _ h => List.mem_cons_of_mem _ (up_82 h)
  have hinX1 : ∀ w ∈ u_ws RX1 TX1 10, w ∈ (wu yX1_valueOf cX1_valueOf 3 (some .long)) := fun _ h => List.mem_cons_of_mem _ (up_78 h)
  refine lv_iload_n hx hb dX1_valueOf_0 rfl (lv_at hl 2 rfl) ?_
  rcases (show a2.toInt = 0 ∨ a2.toInt = 1 ∨ a2.toInt = 2 ∨ a2.toInt = 3 ∨ a2.toInt = 4 ∨ a2.toInt = 5 ∨ a2.toInt = 6 ∨ a2.toInt = 7 ∨ a2.toInt = 8 ∨ (a2.toInt < 0 ∨ 8 < a2.toInt) by omega) with c1 | c1 | c1 | c1 | c1 | c1 | c1 | c1 | c1 | c1
  · refine lv_tableIn (off := 51) (tgt := 52) hx hb dX1_valueOf_1 (by omega) (by omega) (by rw [c1]; rfl) (by decide) ?_
    refine lv_aload_n hx hb dX1_valueOf_52 rfl (lv_at hl 1 rfl) ?_
    refine tk_getB hC hK hw hT hinX9 kC_at152 (by decide) rfl 4 (by decide) (List.mem_cons_of_mem _ uw_42_10) rfl rfl dX1_valueOf_53 (fun x2 c3 rx2 tx2 => ?_)
    refine lv_ldc2 (v := 24) hx hb hC.2.2.2.1 (hC.2.2.2.2 _ (List.mem_cons_of_mem _ uw_45_12)) dX1_valueOf_56 ?_
    refine lv_lrem hx hb dX1_valueOf_59 (by decide) ?_
    refine lv_topl (fun x4 ex4 => ?_)
    have ex4 : x4.toInt = x2.toInt % (24 : Int) := by rw [ex4]; exact wk_reml (show 0 ≤ x2.toInt by first | with_reducible assumption | omega) (show 0 < (24 : Int) by decide)
    exact tk_lret hC hr hlocks hK ⟨hT, hF, ⟨(show (-2147483648) ≤ x4.toInt by first | with_reducible assumption | omega), (show x4.toInt ≤ 2147483647 by first | with_reducible assumption | omega)⟩⟩ hw dX1_valueOf_60
  · refine lv_tableIn (off := 60) (tgt := 61) hx hb dX1_valueOf_1 (by omega) (by omega) (by rw [c1]; rfl) (by decide) ?_
    refine lv_aload_n hx hb dX1_valueOf_61 rfl (lv_at hl 1 rfl) ?_
    refine tk_Vl hC hK hw hT hA hE hSR kC_at152 (by decide) rfl (k_X9_dayNow_2 l adK adV dC dI cy ad B hB0 (Int.le_trans hB1 (by decide)) qr s1    w0 s.heap.size hT ) (cwV 0 hC.2.2.2.2 uV_RX1_68 rfl rfl rfl (by decide +kernel) ⟨Nat.le_of_ble_eq_true rfl, Nat.le_of_ble_eq_true rfl⟩) rfl hl.1 rfl (Nat.le_of_ble_eq_true rfl) dX1_valueOf_62 (fun r5 w7 H locs hp6 hw => ?_)
    obtain ⟨hT, k8, hg11⟩ := hp6
    have hF := hF.tr k8 (by decide)
    obtain ⟨g9, g10⟩ := hg11
    refine lv_ldc2 (v := 7) hx hb hC.2.2.2.1 (hC.2.2.2.2 _ (List.mem_cons_of_mem _ uw_45_13)) dX1_valueOf_65 ?_
    refine lv_lrem hx hb dX1_valueOf_68 (by decide) ?_
    refine lv_topl (fun x12 ex12 => ?_)
    have ex12 : x12.toInt = r5.toInt % (7 : Int) := by rw [ex12]; exact wk_reml (show 0 ≤ r5.toInt by first | with_reducible assumption | omega) (show 0 < (7 : Int) by decide)
    exact tk_lret hC hr hlocks hK ⟨hT, hF, ⟨(show (-2147483648) ≤ x12.toInt by first | with_reducible assumption | omega), (show x12.toInt ≤ 2147483647 by first | with_reducible assumption | omega)⟩⟩ hw dX1_valueOf_69
  · refine lv_tableIn (off := 69) (tgt := 70) hx hb dX1_valueOf_1 (by omega) (by omega) (by rw [c1]; rfl) (by decide) ?_
    refine lv_aload_n hx hb dX1_valueOf_70 rfl (lv_at hl 0 rfl) ?_
    refine tk_geti hC hK hw hT hinX1 kC_at149 (by decide) rfl 9 (by decide) (List.mem_cons_of_mem _ uw_42_20) rfl rfl dX1_valueOf_71 (fun x13 c14 rx13 tx13 => ?_)
    refine lv_if_eq (tgt := 81) hx hb dX1_valueOf_74 (by decide) (fun c15 => ?_) (fun c15 => ?_)
    · have c15 : x13.toInt = (0 : Int) := wk_eq.mp c15
      refine lv_aload_n hx hb dX1_valueOf_81 rfl (lv_at hl 1 rfl) ?_
      refine tk_Vl hC hK hw hT hA hE hSR kC_at152 (by decide) rfl (k_X9_dayNow_2 l adK adV dC dI cy ad B hB0 (Int.le_trans hB1 (by decide)) qr s1    w0 s.heap.size hT ) (cwV 0 hC.2.2.2.2 uV_RX1_68 rfl rfl rfl (by decide +kernel) ⟨Nat.le_of_ble_eq_true rfl, Nat.le_of_ble_eq_true rfl⟩) rfl hl.1 rfl (Nat.le_of_ble_eq_true rfl) dX1_valueOf_82 (fun r16 w18 H locs hp17 hw => ?_)
      obtain ⟨hT, k19, hg22⟩ := hp17
      have hF := hF.tr k19 (by decide)
      have c23 := k19.gi kC_at149 (by decide) c14
      obtain ⟨g20, g21⟩ := hg22
      refine lv_ldc2 (v := 360) hx hb hC.2.2.2.1 (hC.2.2.2.2 _ (List.mem_cons_of_mem _ uw_45_14)) dX1_valueOf_85 ?_
      refine lv_lrem hx hb dX1_valueOf_88 (by decide) ?_
      refine lv_topl (fun x24 ex24 => ?_)
      have ex24 : x24.toInt = r16.toInt % (360 : Int) := by rw [ex24]; exact wk_reml (show 0 ≤ r16.toInt by first | with_reducible assumption | omega) (show 0 < (360 : Int) by decide)
      exact tk_lret hC hr hlocks hK ⟨hT, hF, ⟨(show (-2147483648) ≤ x24.toInt by first | with_reducible assumption | omega), (show x24.toInt ≤ 2147483647 by first | with_reducible assumption | omega)⟩⟩ hw dX1_valueOf_89
    · have c15 : ¬ x13.toInt = (0 : Int) := wk_eqF c15
      refine lv_lconst (v := 0) hx hb dX1_valueOf_77 (by decide) ?_
      refine lv_goto (tgt := 89) hx hb dX1_valueOf_78 (by decide) ?_
      exact tk_lret hC hr hlocks hK ⟨hT, hF, ⟨(by decide), (by decide)⟩⟩ hw dX1_valueOf_89
  · refine lv_tableIn (off := 89) (tgt := 90) hx hb dX1_valueOf_1 (by omega) (by omega) (by rw [c1]; rfl) (by decide) ?_
    refine lv_aload_n hx hb dX1_valueOf_90 rfl (lv_at hl 1 rfl) ?_
    refine tk_geti hC hK hw hT hinX9 kC_at152 (by decide) rfl 0 (by decide) (List.mem_cons_of_mem _ uw_42_22) rfl rfl dX1_valueOf_91 (fun x25 c26 rx25 tx25 => ?_)
    refine lv_i2l hx hb dX1_valueOf_94 rfl ?_
    refine lv_topl (fun x27 ex27 => ?_)
    have ex27 : x27.toInt = x25.toInt := by rw [ex27]; exact wk_i2l _
    have bx27 := wk_i32 x25
    exact tk_lret hC hr hlocks hK ⟨hT, hF, ⟨(show (-2147483648) ≤ x27.toInt by first | with_reducible assumption | omega), (show x27.toInt ≤ 2147483647 by first | with_reducible assumption | omega)⟩⟩ hw dX1_valueOf_95
  · refine lv_tableIn (off := 95) (tgt := 96) hx hb dX1_valueOf_1 (by omega) (by omega) (by rw [c1]; rfl) (by decide) ?_
    refine lv_aload_n hx hb dX1_valueOf_96 rfl (lv_at hl 1 rfl) ?_
    refine tk_geti hC hK hw hT hinX9 kC_at152 (by decide) rfl 1 (by decide) (List.mem_cons_of_mem _ uw_42_23) rfl rfl dX1_valueOf_97 (fun x28 c29 rx28 tx28 => ?_)
    refine lv_i2l hx hb dX1_valueOf_100 rfl ?_
    refine lv_topl (fun x30 ex30 => ?_)
    have ex30 : x30.toInt = x28.toInt := by rw [ex30]; exact wk_i2l _
    have bx30 := wk_i32 x28
    exact tk_lret hC hr hlocks hK ⟨hT, hF, ⟨(show (-2147483648) ≤ x30.toInt by first | with_reducible assumption | omega), (show x30.toInt ≤ 2147483647 by first | with_reducible assumption | omega)⟩⟩ hw dX1_valueOf_101
  · refine lv_tableIn (off := 101) (tgt := 102) hx hb dX1_valueOf_1 (by omega) (by omega) (by rw [c1]; rfl) (by decide) ?_
    refine lv_aload_n hx hb dX1_valueOf_102 rfl (lv_at hl 0 rfl) ?_
    refine tk_geti hC hK hw hT hinX1 kC_at149 (by decide) rfl 6 (by decide) (List.mem_cons_of_mem _ uw_42_5) rfl rfl dX1_valueOf_103 (fun x31 c32 rx31 tx31 => ?_)
    refine lv_if_eq (tgt := 113) hx hb dX1_valueOf_106 (by decide) (fun c33 => ?_) (fun c33 => ?_)
    · have c33 : x31.toInt = (0 : Int) := wk_eq.mp c33
      refine lv_lconst (v := 1) hx hb dX1_valueOf_113 (by decide) ?_
      exact tk_lret hC hr hlocks hK ⟨hT, hF, ⟨(by decide), (by decide)⟩⟩ hw dX1_valueOf_114
    · have c33 : ¬ x31.toInt = (0 : Int) := wk_eqF c33
      refine lv_lconst (v := 0) hx hb dX1_valueOf_109 (by decide) ?_
      refine lv_goto (tgt := 114) hx hb dX1_valueOf_110 (by decide) ?_
      exact tk_lret hC hr hlocks hK ⟨hT, hF, ⟨(by decide), (by decide)⟩⟩ hw dX1_valueOf_114
  · refine lv_tableIn (off := 114) (tgt := 115) hx hb dX1_valueOf_1 (by omega) (by omega) (by rw [c1]; rfl) (by decide) ?_
    refine lv_aload_n hx hb dX1_valueOf_115 rfl (lv_at hl 0 rfl) ?_
    refine tk_geti hC hK hw hT hinX1 kC_at149 (by decide) rfl 8 (by decide) (List.mem_cons_of_mem _ uw_43_1) rfl rfl dX1_valueOf_116 (fun x34 c35 rx34 tx34 => ?_)
    refine lv_i2l hx hb dX1_valueOf_119 rfl ?_
    refine lv_topl (fun x36 ex36 => ?_)
    have ex36 : x36.toInt = x34.toInt := by rw [ex36]; exact wk_i2l _
    have bx36 := wk_i32 x34
    exact tk_lret hC hr hlocks hK ⟨hT, hF, ⟨(show (-2147483648) ≤ x36.toInt by first | with_reducible assumption | omega), (show x36.toInt ≤ 2147483647 by first | with_reducible assumption | omega)⟩⟩ hw dX1_valueOf_120
  · refine lv_tableIn (off := 120) (tgt := 121) hx hb dX1_valueOf_1 (by omega) (by omega) (by rw [c1]; rfl) (by decide) ?_
    refine lv_aload_n hx hb dX1_valueOf_121 rfl (lv_at hl 0 rfl) ?_
    refine tk_geti hC hK hw hT hinX1 kC_at149 (by decide) rfl 9 (by decide) (List.mem_cons_of_mem _ uw_42_20) rfl rfl dX1_valueOf_122 (fun x37 c38 rx37 tx37 => ?_)
    refine lv_if_eq (tgt := 132) hx hb dX1_valueOf_125 (by decide) (fun c39 => ?_) (fun c39 => ?_)
    · have c39 : x37.toInt = (0 : Int) := wk_eq.mp c39
      refine lv_aload_n hx hb dX1_valueOf_132 rfl (lv_at hl 1 rfl) ?_
      refine tk_geti hC hK hw hT hinX9 kC_at152 (by decide) rfl 5 (by decide) (List.mem_cons_of_mem _ uw_42_11) rfl rfl dX1_valueOf_133 (fun x40 c41 rx40 tx40 => ?_)
      refine lv_i2l hx hb dX1_valueOf_136 rfl ?_
      refine lv_topl (fun x42 ex42 => ?_)
      have ex42 : x42.toInt = x40.toInt := by rw [ex42]; exact wk_i2l _
      have bx42 := wk_i32 x40
      exact tk_lret hC hr hlocks hK ⟨hT, hF, ⟨(show (-2147483648) ≤ x42.toInt by first | with_reducible assumption | omega), (show x42.toInt ≤ 2147483647 by first | with_reducible assumption | omega)⟩⟩ hw dX1_valueOf_137
    · have c39 : ¬ x37.toInt = (0 : Int) := wk_eqF c39
      refine lv_lconst (v := 0) hx hb dX1_valueOf_128 (by decide) ?_
      refine lv_goto (tgt := 137) hx hb dX1_valueOf_129 (by decide) ?_
      exact tk_lret hC hr hlocks hK ⟨hT, hF, ⟨(by decide), (by decide)⟩⟩ hw dX1_valueOf_137
  · refine lv_tableIn (off := 137) (tgt := 138) hx hb dX1_valueOf_1 (by omega) (by omega) (by rw [c1]; rfl) (by decide) ?_
    refine lv_aload_n hx hb dX1_valueOf_138 rfl (lv_at hl 1 rfl) ?_
    refine tk_geti hC hK hw hT hinX9 kC_at152 (by decide) rfl 6 (by decide) (List.mem_cons_of_mem _ uw_42_9) rfl rfl dX1_valueOf_139 (fun x43 c44 rx43 tx43 => ?_)
    refine lv_i2l hx hb dX1_valueOf_142 rfl ?_
    refine lv_topl (fun x45 ex45 => ?_)
    have ex45 : x45.toInt = x43.toInt := by rw [ex45]; exact wk_i2l _
    have bx45 := wk_i32 x43
    exact tk_lret hC hr hlocks hK ⟨hT, hF, ⟨(show (-2147483648) ≤ x45.toInt by first | with_reducible assumption | omega), (show x45.toInt ≤ 2147483647 by first | with_reducible assumption | omega)⟩⟩ hw dX1_valueOf_143
  · refine lv_tableOut (tgt := 144) hx hb dX1_valueOf_1 c1 (by decide) ?_
    refine lv_aload_n hx hb dX1_valueOf_144 rfl (lv_at hl 1 rfl) ?_
    refine tk_geti hC hK hw hT hinX9 kC_at152 (by decide) rfl 7 (by decide) (List.mem_cons_of_mem _ uw_45_15) rfl rfl dX1_valueOf_145 (fun x46 c47 rx46 tx46 => ?_)
    refine lv_iconst (v := (-1)) hx hb dX1_valueOf_148 (by decide) ?_
    refine lv_icmp_ne (tgt := 158) hx hb dX1_valueOf_149 (by decide) (fun c48 => ?_) (fun c48 => ?_)
    · have c48 : ¬ x46.toInt = (-1 : Int) := wk_eqF c48
      refine lv_aload_n hx hb dX1_valueOf_158 rfl (lv_at hl 1 rfl) ?_
      refine tk_geti hC hK hw hT hinX9 kC_at152 (by decide) rfl 7 (by decide) (List.mem_cons_of_mem _ uw_45_15) rfl rfl dX1_valueOf_159 (fun x49 c50 rx49 tx49 => ?_)
      refine wk_top x46 (c50.symm.trans c47) ?_
      refine lv_i2l hx hb dX1_valueOf_162 rfl ?_
      refine lv_topl (fun x51 ex51 => ?_)
      have ex51 : x51.toInt = x46.toInt := by rw [ex51]; exact wk_i2l _
      have bx51 := wk_i32 x46
      exact tk_lret hC hr hlocks hK ⟨hT, hF, ⟨(show (-2147483648) ≤ x51.toInt by first | with_reducible assumption | omega), (show x51.toInt ≤ 2147483647 by first | with_reducible assumption | omega)⟩⟩ hw dX1_valueOf_163
    · have c48 : x46.toInt = (-1 : Int) := wk_eq.mp c48
      refine lv_ldc2 (v := 99) hx hb hC.2.2.2.1 (hC.2.2.2.2 _ (List.mem_cons_of_mem _ uw_45_16)) dX1_valueOf_152 ?_
      refine lv_goto (tgt := 163) hx hb dX1_valueOf_155 (by decide) ?_
      exact tk_lret hC hr hlocks hK ⟨hT, hF, ⟨(by decide), (by decide)⟩⟩ hw dX1_valueOf_163
abbrev P_X1_holds_2 (ad : Nat → Nat) (cy : Nat → ClassId) (B : Int) (qr : Nat) (s1 : Int) (q2_ : Nat) (a3 : Int32) (w0 : va_W) : Int32 → va_W → Prop := fun r u => TW ksC ad cy B qr s1 u ∧ FE ksC [(1, 4, 4), (45, 0, 64)] w0 u ∧ ((r = 0 ∧ (∃ y : Int32, gi u 149 4 = y ∧ 1 ≤ y.toInt ∧ y.toInt ≤ 64)) ∨ (r = 1))
set_option maxHeartbeats 4000000 in
set_option maxRecDepth 100000 in
theorem k_X1_holds_2 (l : Launch) (adK adV : Nat → Nat) (dC : Nat → ClassId) (dI : Nat → Nat → Nat) (cy : Nat → ClassId) (ad : Nat → Nat) (B : Int) (hB0 : 2147483648 ≤ B) (hB1 : B ≤ 1152921504606846976) (qr : Nat) (s1 : Int)  (q2_ : Nat) (hkq2_ : ksC[q2_]? = some 2) (a3 : Int32) (ra3 : 0 ≤ a3.toInt) (ta3 : a3.toInt ≤ 11) (w0 : va_W) (sz : Nat) (hT : TW ksC ad cy B qr s1 w0)  : Met l yX1_holds (wu yX1_holds cX1_holds 6 (some .boolean)) ({ frames := 3, cells := 0, slots := 0, locals := 57 }) (va_Pc [.ref (ad 149), .ref (ad 152), .ref (ad q2_), .int a3] (wpreS adK adV dC dI cy sz w0)) (va_Qi (P_X1_holds_2 ad cy B qr s1 q2_ a3 w0) (fun u : va_W => wpost dC dI cy (va_A w0 sz) u) (va_A w0 sz)) 0 0 (va_A w0 sz) := by
  refine Met.ofW (cc := cX1_holds) (maxL := 6) (ret := (some .boolean)) (by decide) rfl ?_
  intro p e s m args below meth c s₁ Bk hml hv
  obtain ⟨rfl, ⟨hsz, hP, hK, hD0⟩, hE, hSR⟩ := hv
  have hx := Bk.exec
  have hb := Bk.bytes
  have hr := Bk.returns
  have hlocks := Bk.notSynchronized
  have hC : CallFix p m c cX1_holds 6 s _ (wu yX1_holds cX1_holds 6 (some .boolean)) RX1 := ⟨hx, hb, hml, findClass_of_methodNamed Bk.named, atoms_spec (ws := (wu yX1_holds cX1_holds 6 (some .boolean))) Bk.pre⟩
  subst hsz
  have hD := hD0.self (sz := s.heap.size)
  generalize hAe : va_A w0 s.heap.size = A at hD hE ⊢
  have hA : ∀ q : Nat, s.heap.size ≤ q → A q := fun q h => by rw [← hAe]; exact Or.inr h
  have hw : Wd dC dI A s.heap s.heap [] w0 := ⟨hP, hD, va_S.rf⟩
  have hF : FE ksC [(1, 4, 4), (45, 0, 64)] w0 w0 := FE.rf
  have hl := lv_entry ([.ref (ad 149), .ref (ad 152), .ref (ad q2_), .int a3]) (n := 6) (Nat.le_of_ble_eq_true rfl)
  rw [lg_entry_eq]
  generalize (lg_sl ([.ref (ad 149), .ref (ad 152), .ref (ad q2_), .int a3]) ++ List.replicate (6 - (lg_sl ([.ref (ad 149), .ref (ad 152), .ref (ad q2_), .int a3])).length) Slot.unset).toArray = ls at hl ⊢
  have hl : lv_has ls 6 [(0, .ref (ad 149)), (1, .ref (ad 152)), (2, .ref (ad q2_)), (3, .int a3)] := hl
  generalize hloc : ([] : List Loc) = locs at hw ⊢
  have hinX1 : ∀ w ∈ u_ws RX1 TX1 10, w ∈ (wu yX1_holds cX1_holds 6 (some .boolean)) := fun _ h => List.mem_cons_of_mem _ (up_78 h)
  have J123 : ∀ (v123_4 : Int32) (f123_149_4 : Int32) (H : Heap) (locs : List Loc) (ls : Array Slot) (w1 : va_W), 0 ≤ a3.toInt → a3.toInt ≤ 11 → 0 ≤ v123_4.toInt → v123_4.toInt ≤ 400 → 0 ≤ f123_149_4.toInt → f123_149_4.toInt ≤ 64 → Wd dC dI A s.heap H locs w1 → TW ksC ad cy B qr s1 w1 → FE ksC [(1, 4, 4), (45, 0, 64)] w0 w1 → gi w1 149 4 = f123_149_4 → lv_has ls 6 [(0, .ref (ad 149)), (1, .ref (ad 152)), (2, .ref (ad q2_)), (3, .int a3), (4, .int v123_4)] → W p l e ({ frames := 3, cells := 0, slots := 0, locals := 57 }) s m (List.toArray [.ref (ad 149), .ref (ad 152), .ref (ad q2_), .int a3]) below meth c H locs 0 0 (MQ below (va_Qi (P_X1_holds_2 ad cy B qr s1 q2_ a3 w0) (fun u : va_W => wpost dC dI cy A u) A) (List.toArray [.ref (ad 149), .ref (ad 152), .ref (ad q2_), .int a3]) s 0 0 A) (F0 m 123 ls []) := by
    intro v123_4 f123_149_4 H locs ls w1 r2 t3 r4 t5 r6 t7 hw hT hF c8 hl
    refine lv_iconst (v := 1) hx hb dX1_holds_123 (by decide) ?_
    refine lv_goto (tgt := 128) hx hb dX1_holds_124 (by decide) ?_
    exact tk_zret hC hr rfl hlocks hK ⟨hT, hF, (Or.inr rfl)⟩ hw dX1_holds_128
  have L12 : ∀ (n12 : Nat) (v12_4 : Int32) (f12_149_4 : Int32) (H : Heap) (locs : List Loc) (ls : Array Slot) (w9 : va_W), 0 ≤ a3.toInt → a3.toInt ≤ 11 → 0 ≤ v12_4.toInt → v12_4.toInt ≤ 400 → 0 ≤ f12_149_4.toInt → f12_149_4.toInt ≤ 64 → (400 - v12_4.toInt).toNat < n12 → Wd dC dI A s.heap H locs w9 → TW ksC ad cy B qr s1 w9 → FE ksC [(1, 4, 4), (45, 0, 64)] w0 w9 → gi w9 149 4 = f12_149_4 → lv_has ls 6 [(0, .ref (ad 149)), (1, .ref (ad 152)), (2, .ref (ad q2_)), (3, .int a3), (4, .int v12_4)] → W p l e ({ frames := 3, cells := 0, slots := 0, locals := 57 }) s m (List.toArray [.ref (ad 149), .ref (ad 152), .ref (ad q2_), .int a3]) below meth c H locs 0 0 (MQ below (va_Qi (P_X1_holds_2 ad cy B qr s1 q2_ a3 w0) (fun u : va_W => wpost dC dI cy A u) A) (List.toArray [.ref (ad 149), .ref (ad 152), .ref (ad q2_), .int a3]) s 0 0 A) (F0 m 12 ls []) := by
    intro n12
    induction n12 with
    | zero => intro v12_4 f12_149_4 H locs ls w9 r10 t11 r12 t13 r14 t15 hm12 hw hT hF c16 hl; omega
    | succ n12 ih12 =>
      intro v12_4 f12_149_4 H locs ls w9 r10 t11 r12 t13 r14 t15 hm12 hw hT hF c16 hl
      have J93 : ∀ (v93_5 : Int32) (f93_149_4 : Int32) (H : Heap) (locs : List Loc) (ls : Array Slot) (w17 : va_W), 0 ≤ a3.toInt → a3.toInt ≤ 11 → 0 ≤ v12_4.toInt → v12_4.toInt ≤ 399 → 0 ≤ f93_149_4.toInt → f93_149_4.toInt ≤ 64 → Wd dC dI A s.heap H locs w17 → TW ksC ad cy B qr s1 w17 → FE ksC [(1, 4, 4), (45, 0, 64)] w0 w17 → gi w17 149 4 = f93_149_4 → lv_has ls 6 [(0, .ref (ad 149)), (1, .ref (ad 152)), (2, .ref (ad q2_)), (3, .int a3), (4, .int v12_4), (5, .int v93_5)] → W p l e ({ frames := 3, cells := 0, slots := 0, locals := 57 }) s m (List.toArray [.ref (ad 149), .ref (ad 152), .ref (ad q2_), .int a3]) below meth c H locs 0 0 (MQ below (va_Qi (P_X1_holds_2 ad cy B qr s1 q2_ a3 w0) (fun u : va_W => wpost dC dI cy A u) A) (List.toArray [.ref (ad 149), .ref (ad 152), .ref (ad q2_), .int a3]) s 0 0 A) (F0 m 93 ls []) := by
        intro v93_5 f93_149_4 H locs ls w17 r18 t19 r20 t21 r22 t23 hw hT hF c24 hl
        obtain ⟨x25, ex25⟩ : ∃ y : Int32, y = v12_4 + Int32.ofInt 1 := ⟨_, rfl⟩
        refine lv_iinc (v := x25) (lv' := [(4, .int x25), (0, .ref (ad 149)), (1, .ref (ad 152)), (2, .ref (ad q2_)), (3, .int a3), (5, .int v93_5)]) hx hb dX1_holds_93 hl (k := 4) rfl ex25.symm (by decide) rfl (fun ls hl => ?_)
        have ex25 : x25.toInt = v12_4.toInt + 1 := by rw [ex25]; exact wk_add (y := 1) (show -2147483648 ≤ v12_4.toInt + 1 by omega) (show v12_4.toInt + 1 ≤ 2147483647 by omega)
        refine lv_goto (tgt := 12) hx hb dX1_holds_96 (by decide) ?_
        exact ih12 x25 f93_149_4 H locs ls w17 (show 0 ≤ a3.toInt from r18) (show a3.toInt ≤ 11 from t19) (show 0 ≤ x25.toInt by first | with_reducible assumption | omega) (show x25.toInt ≤ 400 by first | with_reducible assumption | omega) (show 0 ≤ f93_149_4.toInt from r22) (show f93_149_4.toInt ≤ 64 from t23) (show (400 - x25.toInt).toNat < n12 by first | exact tn_lt hm12 (by omega) (by omega) | omega) hw hT hF c24 (lv_sub hl [1, 2, 3, 4, 0] rfl)
      refine lv_iload hx hb dX1_holds_12 (lv_at hl 4 rfl) ?_
      refine lv_aload_n hx hb dX1_holds_14 rfl (lv_at hl 2 rfl) ?_
      refine lv_iload_n hx hb dX1_holds_15 rfl (lv_at hl 3 rfl) ?_
      refine lv_iconst (v := 1) hx hb dX1_holds_16 (by decide) ?_
      refine lv_iadd hx hb dX1_holds_17 ?_
      refine lv_topi (fun x26 ex26 => ?_)
      have ex26 : x26.toInt = a3.toInt + (1 : Int) := by rw [ex26]; exact wk_add (show (-2147483648) ≤ a3.toInt + (1 : Int) by omega) (show a3.toInt + (1 : Int) ≤ 2147483647 by omega)
      refine tk_Vi hC hK hw hT hA hE hSR hkq2_ (by decide) rfl (k_X2_firstToken_1 l adK adV dC dI cy ad B hB0 (Int.le_trans hB1 (by decide)) qr s1   q2_ hkq2_ x26 (show 1 ≤ x26.toInt by first | with_reducible assumption | omega) (show x26.toInt ≤ 12 by first | with_reducible assumption | omega) w9 H.size hT ) (cwV 1 hC.2.2.2.2 uV_RX1_171 rfl rfl rfl (by decide +kernel) ⟨Nat.le_of_ble_eq_true rfl, Nat.le_of_ble_eq_true rfl⟩) rfl hl.1 rfl (Nat.le_of_ble_eq_true rfl) dX1_holds_18 (fun r27 w29 H locs hp28 hw => ?_)
      obtain ⟨hT, k30, hg33⟩ := hp28
      have hF := hF.tr k30 (by decide)
      have c34 := k30.gi kC_at149 (by decide) c16
      obtain ⟨g31, g32⟩ := hg33
      refine lv_icmp_ge (tgt := 99) hx hb dX1_holds_21 (by decide) (fun c35 => ?_) (fun c35 => ?_)
      · have c35 : r27.toInt ≤ v12_4.toInt := wk_le.mp c35
        refine lv_aload_n hx hb dX1_holds_99 rfl (lv_at hl 0 rfl) ?_
        refine tk_geti hC hK hw hT hinX1 kC_at149 (by decide) rfl 4 (by decide) (List.mem_cons_of_mem _ uw_44_19) rfl rfl dX1_holds_100 (fun x36 c37 rx36 tx36 => ?_)
        refine wk_top f12_149_4 (c37.symm.trans c34) ?_
        refine lv_iconst (v := 1) hx hb dX1_holds_103 (by decide) ?_
        refine lv_icmp_lt (tgt := 123) hx hb dX1_holds_104 (by decide) (fun c38 => ?_) (fun c38 => ?_)
        · have c38 : f12_149_4.toInt < (1 : Int) := wk_lt.mp c38
          exact J123 v12_4 f12_149_4 H locs ls w29 (show 0 ≤ a3.toInt from r10) (show a3.toInt ≤ 11 from t11) (show 0 ≤ v12_4.toInt from r12) (show v12_4.toInt ≤ 400 from t13) (show 0 ≤ f12_149_4.toInt from r14) (show f12_149_4.toInt ≤ 64 from t15)  hw hT hF c34 (lv_sub hl [0, 1, 2, 3, 4] rfl)
        · have c38 : (1 : Int) ≤ f12_149_4.toInt := wk_ltF c38
          refine lv_aload_n hx hb dX1_holds_107 rfl (lv_at hl 0 rfl) ?_
          refine tk_getA hC hK hw hT hinX1 kC_at149 (by decide) rfl 3 (by decide) (List.mem_cons_of_mem _ uw_4_23) rfl rfl dX1_holds_108 ?_
          refine lv_aload_n hx hb dX1_holds_111 rfl (lv_at hl 0 rfl) ?_
          refine tk_geti hC hK hw hT hinX1 kC_at149 (by decide) rfl 4 (by decide) (List.mem_cons_of_mem _ uw_44_19) rfl rfl dX1_holds_112 (fun x39 c40 rx39 tx39 => ?_)
          refine wk_top f12_149_4 (c40.symm.trans c34) ?_
          refine lv_iconst (v := 1) hx hb dX1_holds_115 (by decide) ?_
          refine lv_isub hx hb dX1_holds_116 ?_
          refine lv_topi (fun x41 ex41 => ?_)
          have ex41 : x41.toInt = f12_149_4.toInt - (1 : Int) := by rw [ex41]; exact wk_sub (show (-2147483648) ≤ f12_149_4.toInt - (1 : Int) by omega) (show f12_149_4.toInt - (1 : Int) ≤ 2147483647 by omega)
          refine tk_lald hC hK hw hT kC_at150 rfl (show 0 ≤ x41.toInt by first | with_reducible assumption | omega) (show x41.toInt < 64 by first | with_reducible assumption | omega) dX1_holds_117 (fun x42 => ?_)
          refine lv_lconst (v := 0) hx hb dX1_holds_118 (by decide) ?_
          refine W.lcmp hx hb dX1_holds_119 ?_
          refine lv_if_eq (tgt := 127) hx hb dX1_holds_120 (by decide) (fun c43 => ?_) (fun c43 => ?_)
          · have c43 : x42.toInt = (0 : Int) := wk_ceT c43
            refine lv_iconst (v := 0) hx hb dX1_holds_127 (by decide) ?_
            exact tk_zret hC hr rfl hlocks hK ⟨hT, hF, (Or.inl ⟨rfl, ⟨f12_149_4, c34, (show 1 ≤ f12_149_4.toInt from c38), (show f12_149_4.toInt ≤ 64 from t15)⟩⟩)⟩ hw dX1_holds_128
          · have c43 : ¬ x42.toInt = (0 : Int) := wk_ceF c43
            exact J123 v12_4 f12_149_4 H locs ls w29 (show 0 ≤ a3.toInt from r10) (show a3.toInt ≤ 11 from t11) (show 0 ≤ v12_4.toInt from r12) (show v12_4.toInt ≤ 400 from t13) (show 0 ≤ f12_149_4.toInt from r14) (show f12_149_4.toInt ≤ 64 from t15)  hw hT hF c34 (lv_sub hl [0, 1, 2, 3, 4] rfl)
      · have c35 : v12_4.toInt < r27.toInt := wk_leF c35
        refine lv_aload_n hx hb dX1_holds_24 rfl (lv_at hl 2 rfl) ?_
        refine lv_iload hx hb dX1_holds_25 (lv_at hl 4 rfl) ?_
        refine tk_Vi hC hK hw hT hA hE hSR hkq2_ (by decide) rfl (k_X2_tokenAt_1 l adK adV dC dI cy ad B hB0 (Int.le_trans hB1 (by decide)) qr s1   q2_ hkq2_ v12_4 (show 0 ≤ v12_4.toInt from r12) (show v12_4.toInt ≤ 399 by first | with_reducible assumption | omega) w29 H.size hT ) (cwV 1 hC.2.2.2.2 uV_RX1_174 rfl rfl rfl (by decide +kernel) ⟨Nat.le_of_ble_eq_true rfl, Nat.le_of_ble_eq_true rfl⟩) rfl hl.1 rfl (Nat.le_of_ble_eq_true rfl) dX1_holds_27 (fun r44 w46 H locs hp45 hw => ?_)
        obtain ⟨hT, k47, hg48⟩ := hp45
        have hF := hF.tr k47 (by decide)
        have c49 := k47.gi kC_at149 (by decide) c34
        clear hg48
        refine lv_istore (lv' := [(5, .int r44), (0, .ref (ad 149)), (1, .ref (ad 152)), (2, .ref (ad q2_)), (3, .int a3), (4, .int v12_4)]) hx hb dX1_holds_30 hl (by decide) rfl (fun ls hl => ?_)
        refine lv_iload hx hb dX1_holds_32 (lv_at hl 0 rfl) ?_
        refine lv_bipush (v := 32) hx hb dX1_holds_34 (by decide) ?_
        refine lv_icmp_lt (tgt := 52) hx hb dX1_holds_36 (by decide) (fun c50 => ?_) (fun c50 => ?_)
        · have c50 : r44.toInt < (32 : Int) := wk_lt.mp c50
          refine lv_iload hx hb dX1_holds_52 (lv_at hl 0 rfl) ?_
          refine lv_bipush (v := 10) hx hb dX1_holds_54 (by decide) ?_
          refine lv_icmp_ge (tgt := 73) hx hb dX1_holds_56 (by decide) (fun c51 => ?_) (fun c51 => ?_)
          · have c51 : (10 : Int) ≤ r44.toInt := wk_le.mp c51
            refine lv_iload hx hb dX1_holds_73 (lv_at hl 0 rfl) ?_
            refine lv_bipush (v := 19) hx hb dX1_holds_75 (by decide) ?_
            refine lv_icmp_ne (tgt := 87) hx hb dX1_holds_77 (by decide) (fun c52 => ?_) (fun c52 => ?_)
            · have c52 : ¬ r44.toInt = (19 : Int) := wk_eqF c52
              refine lv_aload_n hx hb dX1_holds_87 rfl (lv_at hl 1 rfl) ?_
              refine lv_iload hx hb dX1_holds_88 (lv_at hl 0 rfl) ?_
              refine tk_Vv hC hK hw hT hA hE hSR kC_at149 (by decide) rfl (k_X1_join_1 l adK adV dC dI cy ad B hB0 (Int.le_trans hB1 (by decide)) qr s1   r44 (show 10 ≤ r44.toInt from c51) (show r44.toInt ≤ 31 by first | with_reducible assumption | omega) w46 H.size hT ) (cwV 1 hC.2.2.2.2 uV_RX1_188 rfl rfl rfl (by decide +kernel) ⟨Nat.le_of_ble_eq_true rfl, Nat.le_of_ble_eq_true rfl⟩) rfl hl.1 rfl (Nat.le_of_ble_eq_true rfl) dX1_holds_90 (fun w55 H locs hp54 hw => ?_)
              obtain ⟨hT, k56, hg59⟩ := hp54
              have hF := hF.tr k56 (by decide)
              obtain ⟨x57, c58, rx57, tx57⟩ := hg59
              exact J93 r44 x57 H locs ls w55 (show 0 ≤ a3.toInt from r10) (show a3.toInt ≤ 11 from t11) (show 0 ≤ v12_4.toInt from r12) (show v12_4.toInt ≤ 399 by first | with_reducible assumption | omega) (show 0 ≤ x57.toInt by first | with_reducible assumption | omega) (show x57.toInt ≤ 64 by first | with_reducible assumption | omega)  hw hT hF c58 (lv_sub hl [1, 2, 3, 4, 5, 0] rfl)
            · have c52 : r44.toInt = (19 : Int) := wk_eq.mp c52
              refine lv_aload_n hx hb dX1_holds_80 rfl (lv_at hl 1 rfl) ?_
              refine tk_Vv hC hK hw hT hA hE hSR kC_at149 (by decide) rfl (k_X1_turn_1 l adK adV dC dI cy ad B hB0 (Int.le_trans hB1 (by decide)) qr s1    w46 H.size hT ) (cwV 0 hC.2.2.2.2 uV_RX1_185 rfl rfl rfl (by decide +kernel) ⟨Nat.le_of_ble_eq_true rfl, Nat.le_of_ble_eq_true rfl⟩) rfl hl.1 rfl (Nat.le_of_ble_eq_true rfl) dX1_holds_81 (fun w62 H locs hp61 hw => ?_)
              obtain ⟨hT, k63, hg64⟩ := hp61
              have hF := hF.tr k63 (by decide)
              have c65 := k63.gi kC_at149 (by decide) c49
              clear hg64
              refine lv_goto (tgt := 93) hx hb dX1_holds_84 (by decide) ?_
              exact J93 r44 f12_149_4 H locs ls w62 (show 0 ≤ a3.toInt from r10) (show a3.toInt ≤ 11 from t11) (show 0 ≤ v12_4.toInt from r12) (show v12_4.toInt ≤ 399 by first | with_reducible assumption | omega) (show 0 ≤ f12_149_4.toInt from r14) (show f12_149_4.toInt ≤ 64 from t15)  hw hT hF c65 (lv_sub hl [1, 2, 3, 4, 5, 0] rfl)
          · have c51 : r44.toInt < (10 : Int) := wk_leF c51
            refine lv_aload_n hx hb dX1_holds_59 rfl (lv_at hl 1 rfl) ?_
            refine lv_aload_n hx hb dX1_holds_60 rfl (lv_at hl 1 rfl) ?_
            refine lv_aload_n hx hb dX1_holds_61 rfl (lv_at hl 2 rfl) ?_
            refine lv_iload hx hb dX1_holds_62 (lv_at hl 0 rfl) ?_
            refine tk_Vl hC hK hw hT hA hE hSR kC_at149 (by decide) rfl (k_X1_valueOf_2 l adK adV dC dI cy ad B hB0 (Int.le_trans hB1 (by decide)) qr s1   r44 (show r44.toInt ≤ 9 by first | with_reducible assumption | omega) w46 H.size hT ) (cwV 2 hC.2.2.2.2 uV_RX1_181 rfl rfl rfl (by decide +kernel) ⟨Nat.le_of_ble_eq_true rfl, Nat.le_of_ble_eq_true rfl⟩) rfl hl.1 rfl (Nat.le_of_ble_eq_true rfl) dX1_holds_64 (fun r66 w68 H locs hp67 hw => ?_)
            obtain ⟨hT, k69, hg72⟩ := hp67
            have hF := hF.tr k69 (by decide)
            have c73 := k69.gi kC_at149 (by decide) c49
            obtain ⟨g70, g71⟩ := hg72
            refine tk_Vv hC hK hw hT hA hE hSR kC_at149 (by decide) rfl (k_X1_push_1 l adK adV dC dI cy ad B hB0 (Int.le_trans hB1 (by decide)) qr s1   r66 (show (-2147483648) ≤ r66.toInt by first | with_reducible assumption | omega) (show r66.toInt ≤ 2147483647 by first | with_reducible assumption | omega) w68 H.size hT ) (cwV 1 hC.2.2.2.2 uV_RX1_177 rfl rfl rfl (by decide +kernel) ⟨Nat.le_of_ble_eq_true rfl, Nat.le_of_ble_eq_true rfl⟩) rfl hl.1 rfl (Nat.le_of_ble_eq_true rfl) dX1_holds_67 (fun w76 H locs hp75 hw => ?_)
            obtain ⟨hT, k77, hg80⟩ := hp75
            have hF := hF.tr k77 (by decide)
            obtain ⟨x78, c79, rx78, tx78⟩ := hg80
            refine lv_goto (tgt := 93) hx hb dX1_holds_70 (by decide) ?_
            exact J93 r44 x78 H locs ls w76 (show 0 ≤ a3.toInt from r10) (show a3.toInt ≤ 11 from t11) (show 0 ≤ v12_4.toInt from r12) (show v12_4.toInt ≤ 399 by first | with_reducible assumption | omega) (show 0 ≤ x78.toInt by first | with_reducible assumption | omega) (show x78.toInt ≤ 64 by first | with_reducible assumption | omega)  hw hT hF c79 (lv_sub hl [1, 2, 3, 4, 5, 0] rfl)
        · have c50 : (32 : Int) ≤ r44.toInt := wk_ltF c50
          refine lv_aload_n hx hb dX1_holds_39 rfl (lv_at hl 1 rfl) ?_
          refine lv_iload hx hb dX1_holds_40 (lv_at hl 0 rfl) ?_
          refine lv_bipush (v := 32) hx hb dX1_holds_42 (by decide) ?_
          refine lv_isub hx hb dX1_holds_44 ?_
          have nx81 := wk_i32 r44
          refine lv_topi (fun x82 ex82 => ?_)
          have ex82 : x82.toInt = r44.toInt - (32 : Int) := by rw [ex82]; exact wk_sub (show (-2147483648) ≤ r44.toInt - (32 : Int) by omega) (show r44.toInt - (32 : Int) ≤ 2147483647 by omega)
          refine lv_i2l hx hb dX1_holds_45 rfl ?_
          refine lv_topl (fun x83 ex83 => ?_)
          have ex83 : x83.toInt = x82.toInt := by rw [ex83]; exact wk_i2l _
          have bx83 := wk_i32 x82
          refine tk_Vv hC hK hw hT hA hE hSR kC_at149 (by decide) rfl (k_X1_push_2 l adK adV dC dI cy ad B hB0 (Int.le_trans hB1 (by decide)) qr s1   x83 (show 0 ≤ x83.toInt by first | with_reducible assumption | omega) (show x83.toInt ≤ 2147483615 by first | with_reducible assumption | omega) w46 H.size hT ) (cwV 1 hC.2.2.2.2 uV_RX1_177 rfl rfl rfl (by decide +kernel) ⟨Nat.le_of_ble_eq_true rfl, Nat.le_of_ble_eq_true rfl⟩) rfl hl.1 rfl (Nat.le_of_ble_eq_true rfl) dX1_holds_46 (fun w86 H locs hp85 hw => ?_)
          obtain ⟨hT, k87, hg90⟩ := hp85
          have hF := hF.tr k87 (by decide)
          obtain ⟨x88, c89, rx88, tx88⟩ := hg90
          refine lv_goto (tgt := 93) hx hb dX1_holds_49 (by decide) ?_
          exact J93 r44 x88 H locs ls w86 (show 0 ≤ a3.toInt from r10) (show a3.toInt ≤ 11 from t11) (show 0 ≤ v12_4.toInt from r12) (show v12_4.toInt ≤ 399 by first | with_reducible assumption | omega) (show 0 ≤ x88.toInt by first | with_reducible assumption | omega) (show x88.toInt ≤ 64 by first | with_reducible assumption | omega)  hw hT hF c89 (lv_sub hl [1, 2, 3, 4, 5, 0] rfl)
  refine lv_aload_n hx hb dX1_holds_0 rfl (lv_at hl 0 rfl) ?_
  refine lv_iconst (v := 0) hx hb dX1_holds_1 (by decide) ?_
  refine tk_puti hC hK hw hT hinX1 tyX1_ok nmX1 kC_at149 (by decide) rfl rfl 4 (by decide) (List.mem_cons_of_mem _ uw_44_19) rfl rfl rfl rfl (by decide) (by decide) dX1_holds_2 (fun H locs w91 hw hT k93 c92 => ?_)
  have hF := hF.put kC_at149 (k := 4) (by decide) k93
  refine lv_aload_n hx hb dX1_holds_5 rfl (lv_at hl 2 rfl) ?_
  refine lv_iload_n hx hb dX1_holds_6 rfl (lv_at hl 3 rfl) ?_
  refine tk_Vi hC hK hw hT hA hE hSR hkq2_ (by decide) rfl (k_X2_firstToken_2 l adK adV dC dI cy ad B hB0 (Int.le_trans hB1 (by decide)) qr s1   q2_ hkq2_ a3 (show 0 ≤ a3.toInt from ra3) (show a3.toInt ≤ 11 from ta3) w91 H.size hT ) (cwV 1 hC.2.2.2.2 uV_RX1_171 rfl rfl rfl (by decide +kernel) ⟨Nat.le_of_ble_eq_true rfl, Nat.le_of_ble_eq_true rfl⟩) rfl hl.1 rfl (Nat.le_of_ble_eq_true rfl) dX1_holds_7 (fun r94 w96 H locs hp95 hw => ?_)
  obtain ⟨hT, k97, hg100⟩ := hp95
  have hF := hF.tr k97 (by decide)
  have c101 := k97.gi kC_at149 (by decide) c92
  obtain ⟨g98, g99⟩ := hg100
  refine lv_istore (lv' := [(4, .int r94), (0, .ref (ad 149)), (1, .ref (ad 152)), (2, .ref (ad q2_)), (3, .int a3)]) hx hb dX1_holds_10 hl (by decide) rfl (fun ls hl => ?_)
  exact L12 ((400 - r94.toInt).toNat + 1) r94 0 H locs ls w96 (show 0 ≤ a3.toInt from ra3) (show a3.toInt ≤ 11 from ta3) (show 0 ≤ r94.toInt by first | with_reducible assumption | omega) (show r94.toInt ≤ 400 by first | with_reducible assumption | omega) (by decide) (by decide) (Nat.lt_succ_self _) hw hT hF c101 (lv_sub hl [1, 2, 3, 4, 0] rfl)
abbrev P_X1_chooseDeed_2 (ad : Nat → Nat) (cy : Nat → ClassId) (B : Int) (qr : Nat) (s1 : Int) (q2_ : Nat) (w0 : va_W) : Int32 → va_W → Prop := fun r u => TW ksC ad cy B qr s1 u ∧ FE ksC [(1, 4, 4), (45, 0, 64)] w0 u ∧ (((∃ y : Int32, gi u q2_ 4 = y ∧ 1 ≤ y.toInt ∧ y.toInt ≤ 12)) ∨ (0 ≤ r.toInt ∧ r.toInt ≤ 3))
set_option maxHeartbeats 4000000 in
set_option maxRecDepth 100000 in
theorem k_X1_chooseDeed_2 (l : Launch) (adK adV : Nat → Nat) (dC : Nat → ClassId) (dI : Nat → Nat → Nat) (cy : Nat → ClassId) (ad : Nat → Nat) (B : Int) (hB0 : 2147483648 ≤ B) (hB1 : B ≤ 1152921504606846976) (qr : Nat) (s1 : Int)  (q2_ : Nat) (hkq2_ : ksC[q2_]? = some 2) (w0 : va_W) (sz : Nat) (hT : TW ksC ad cy B qr s1 w0)  : Met l yX1_chooseDeed (wu yX1_chooseDeed cX1_chooseDeed 5 (some .int)) ({ frames := 4, cells := 0, slots := 0, locals := 82 }) (va_Pc [.ref (ad 149), .ref (ad 152), .ref (ad q2_)] (wpreS adK adV dC dI cy sz w0)) (va_Qi (P_X1_chooseDeed_2 ad cy B qr s1 q2_ w0) (fun u : va_W => wpost dC dI cy (va_A w0 sz) u) (va_A w0 sz)) 0 0 (va_A w0 sz) := by
  refine Met.ofW (cc := cX1_chooseDeed) (maxL := 5) (ret := (some .int)) (by decide) rfl ?_
  intro p e s m args below meth c s₁ Bk hml hv
  obtain ⟨rfl, ⟨hsz, hP, hK, hD0⟩, hE, hSR⟩ := hv
  have hx := Bk.exec
  have hb := Bk.bytes
  have hr := Bk.returns
  have hlocks := Bk.notSynchronized
  have hC : CallFix p m c cX1_chooseDeed 5 s _ (wu yX1_chooseDeed cX1_chooseDeed 5 (some .int)) RX1 := ⟨hx, hb, hml, findClass_of_methodNamed Bk.named, atoms_spec (ws := (wu yX1_chooseDeed cX1_chooseDeed 5 (some .int))) Bk.pre⟩
  subst hsz
  have hD := hD0.self (sz := s.heap.size)
  generalize hAe : va_A w0 s.heap.size = A at hD hE ⊢
  have hA : ∀ q : Nat, s.heap.size ≤ q → A q := fun q h => by rw [← hAe]; exact Or.inr h
  have hw : Wd dC dI A s.heap s.heap [] w0 := ⟨hP, hD, va_S.rf⟩
  have hF : FE ksC [(1, 4, 4), (45, 0, 64)] w0 w0 := FE.rf
  have hl := lv_entry ([.ref (ad 149), .ref (ad 152), .ref (ad q2_)]) (n := 5) (Nat.le_of_ble_eq_true rfl)
  rw [lg_entry_eq]
  generalize (lg_sl ([.ref (ad 149), .ref (ad 152), .ref (ad q2_)]) ++ List.replicate (5 - (lg_sl ([.ref (ad 149), .ref (ad 152), .ref (ad q2_)])).length) Slot.unset).toArray = ls at hl ⊢
  have hl : lv_has ls 5 [(0, .ref (ad 149)), (1, .ref (ad 152)), (2, .ref (ad q2_))] := hl
  generalize hloc : ([] : List Loc) = locs at hw ⊢
  have hinX2 : ∀ w ∈ u_ws RX2 TX2 6, w ∈ (wu yX1_chooseDeed cX1_chooseDeed 5 (some .int)) := fun _ h => List.mem_cons_of_mem _ (up_74 h)
  have L2 : ∀ (n2 : Nat) (v2_3 : Int32) (H : Heap) (locs : List Loc) (ls : Array Slot) (w1 : va_W), 0 ≤ v2_3.toInt → v2_3.toInt ≤ 12 → (12 - v2_3.toInt).toNat < n2 → Wd dC dI A s.heap H locs w1 → TW ksC ad cy B qr s1 w1 → FE ksC [(1, 4, 4), (45, 0, 64)] w0 w1 → lv_has ls 5 [(0, .ref (ad 149)), (1, .ref (ad 152)), (2, .ref (ad q2_)), (3, .int v2_3)] → W p l e ({ frames := 4, cells := 0, slots := 0, locals := 82 }) s m (List.toArray [.ref (ad 149), .ref (ad 152), .ref (ad q2_)]) below meth c H locs 0 0 (MQ below (va_Qi (P_X1_chooseDeed_2 ad cy B qr s1 q2_ w0) (fun u : va_W => wpost dC dI cy A u) A) (List.toArray [.ref (ad 149), .ref (ad 152), .ref (ad q2_)]) s 0 0 A) (F0 m 2 ls []) := by
    intro n2
    induction n2 with
    | zero => intro v2_3 H locs ls w1 r2 t3 hm2 hw hT hF hl; omega
    | succ n2 ih2 =>
      intro v2_3 H locs ls w1 r2 t3 hm2 hw hT hF hl
      have J40 : ∀ (v40_4 : Int32) (f40_q2__4 : Int32) (H : Heap) (locs : List Loc) (ls : Array Slot) (w4 : va_W), 0 ≤ v2_3.toInt → v2_3.toInt ≤ 11 → 1 ≤ f40_q2__4.toInt → f40_q2__4.toInt ≤ 12 → Wd dC dI A s.heap H locs w4 → TW ksC ad cy B qr s1 w4 → FE ksC [(1, 4, 4), (45, 0, 64)] w0 w4 → gi w4 q2_ 4 = f40_q2__4 → lv_has ls 5 [(0, .ref (ad 149)), (1, .ref (ad 152)), (2, .ref (ad q2_)), (3, .int v2_3), (4, .int v40_4)] → W p l e ({ frames := 4, cells := 0, slots := 0, locals := 82 }) s m (List.toArray [.ref (ad 149), .ref (ad 152), .ref (ad q2_)]) below meth c H locs 0 0 (MQ below (va_Qi (P_X1_chooseDeed_2 ad cy B qr s1 q2_ w0) (fun u : va_W => wpost dC dI cy A u) A) (List.toArray [.ref (ad 149), .ref (ad 152), .ref (ad q2_)]) s 0 0 A) (F0 m 40 ls []) := by
        intro v40_4 f40_q2__4 H locs ls w4 r5 t6 r7 t8 hw hT hF c9 hl
        obtain ⟨x10, ex10⟩ : ∃ y : Int32, y = v2_3 + Int32.ofInt 1 := ⟨_, rfl⟩
        refine lv_iinc (v := x10) (lv' := [(3, .int x10), (0, .ref (ad 149)), (1, .ref (ad 152)), (2, .ref (ad q2_)), (4, .int v40_4)]) hx hb dX1_chooseDeed_40 hl (k := 3) rfl ex10.symm (by decide) rfl (fun ls hl => ?_)
        have ex10 : x10.toInt = v2_3.toInt + 1 := by rw [ex10]; exact wk_add (y := 1) (show -2147483648 ≤ v2_3.toInt + 1 by omega) (show v2_3.toInt + 1 ≤ 2147483647 by omega)
        refine lv_goto (tgt := 2) hx hb dX1_chooseDeed_43 (by decide) ?_
        exact ih2 x10 H locs ls w4 (show 0 ≤ x10.toInt by first | with_reducible assumption | omega) (show x10.toInt ≤ 12 by first | with_reducible assumption | omega) (show (12 - x10.toInt).toNat < n2 by first | exact tn_lt hm2 (by omega) (by omega) | omega) hw hT hF  (lv_sub hl [1, 2, 3, 0] rfl)
      refine lv_iload_n hx hb dX1_chooseDeed_2 rfl (lv_at hl 3 rfl) ?_
      refine lv_aload_n hx hb dX1_chooseDeed_3 rfl (lv_at hl 2 rfl) ?_
      refine tk_geti hC hK hw hT hinX2 hkq2_ (by decide) rfl 4 (by decide) (List.mem_cons_of_mem _ uw_44_6) rfl rfl dX1_chooseDeed_4 (fun x11 c12 rx11 tx11 => ?_)
      refine lv_icmp_ge (tgt := 46) hx hb dX1_chooseDeed_7 (by decide) (fun c13 => ?_) (fun c13 => ?_)
      · have c13 : x11.toInt ≤ v2_3.toInt := wk_le.mp c13
        refine lv_iconst (v := 3) hx hb dX1_chooseDeed_46 (by decide) ?_
        exact tk_iret hC hr hlocks hK ⟨hT, hF, (Or.inr ⟨(by decide), (by decide)⟩)⟩ hw dX1_chooseDeed_47
      · have c13 : v2_3.toInt < x11.toInt := wk_leF c13
        refine lv_aload_n hx hb dX1_chooseDeed_10 rfl (lv_at hl 2 rfl) ?_
        refine lv_iload_n hx hb dX1_chooseDeed_11 rfl (lv_at hl 3 rfl) ?_
        refine tk_Vi hC hK hw hT hA hE hSR hkq2_ (by decide) rfl (k_X2_deedOf_1 l adK adV dC dI cy ad B hB0 (Int.le_trans hB1 (by decide)) qr s1   q2_ hkq2_ v2_3 (show 0 ≤ v2_3.toInt from r2) (show v2_3.toInt ≤ 11 by first | with_reducible assumption | omega) w1 H.size hT ) (cwV 1 hC.2.2.2.2 uV_RX1_157 rfl rfl rfl (by decide +kernel) ⟨Nat.le_of_ble_eq_true rfl, Nat.le_of_ble_eq_true rfl⟩) rfl hl.1 rfl (Nat.le_of_ble_eq_true rfl) dX1_chooseDeed_12 (fun r14 w16 H locs hp15 hw => ?_)
        obtain ⟨hT, k17, hg18⟩ := hp15
        have hF := hF.tr k17 (by decide)
        have c19 := k17.gi hkq2_ (by decide) c12
        clear hg18
        refine lv_istore (lv' := [(4, .int r14), (0, .ref (ad 149)), (1, .ref (ad 152)), (2, .ref (ad q2_)), (3, .int v2_3)]) hx hb dX1_chooseDeed_15 hl (by decide) rfl (fun ls hl => ?_)
        refine lv_aload_n hx hb dX1_chooseDeed_17 rfl (lv_at hl 1 rfl) ?_
        refine lv_aload_n hx hb dX1_chooseDeed_18 rfl (lv_at hl 2 rfl) ?_
        refine lv_iload hx hb dX1_chooseDeed_19 (lv_at hl 0 rfl) ?_
        refine tk_Vi hC hK hw hT hA hE hSR kC_at149 (by decide) rfl (k_X1_mayDo_2 l adK adV dC dI cy ad B hB0 (Int.le_trans hB1 (by decide)) qr s1   r14 w16 H.size hT ) (cwV 2 hC.2.2.2.2 uV_RX1_161 rfl rfl rfl (by decide +kernel) ⟨Nat.le_of_ble_eq_true rfl, Nat.le_of_ble_eq_true rfl⟩) rfl hl.1 rfl (Nat.le_of_ble_eq_true rfl) dX1_chooseDeed_21 (fun r20 w22 H locs hp21 hw => ?_)
        obtain ⟨hT, k23, hg28⟩ := hp21
        have hF := hF.tr k23 (by decide)
        have c29 := k23.gi hkq2_ (by decide) c19
        rcases hg28 with ⟨g24, g25, g26, g27⟩ | rfl | rfl
        · refine lv_if_eq (tgt := 40) hx hb dX1_chooseDeed_24 (by decide) (fun c30 => ?_) (fun c30 => ?_)
          · have c30 : r20.toInt = (0 : Int) := wk_eq.mp c30
            exact J40 r14 x11 H locs ls w22 (show 0 ≤ v2_3.toInt from r2) (show v2_3.toInt ≤ 11 by first | with_reducible assumption | omega) (show 1 ≤ x11.toInt by first | with_reducible assumption | omega) (show x11.toInt ≤ 12 by first | with_reducible assumption | omega)  hw hT hF c29 (lv_sub hl [1, 2, 3, 4, 0] rfl)
          · have c30 : ¬ r20.toInt = (0 : Int) := wk_eqF c30
            refine lv_aload_n hx hb dX1_chooseDeed_27 rfl (lv_at hl 1 rfl) ?_
            refine lv_aload_n hx hb dX1_chooseDeed_28 rfl (lv_at hl 2 rfl) ?_
            refine lv_aload_n hx hb dX1_chooseDeed_29 rfl (lv_at hl 3 rfl) ?_
            refine lv_iload_n hx hb dX1_chooseDeed_30 rfl (lv_at hl 4 rfl) ?_
            refine tk_Vi hC hK hw hT hA hE hSR kC_at149 (by decide) rfl (k_X1_holds_2 l adK adV dC dI cy ad B hB0 (Int.le_trans hB1 (by decide)) qr s1   q2_ hkq2_ v2_3 (show 0 ≤ v2_3.toInt from r2) (show v2_3.toInt ≤ 11 by first | with_reducible assumption | omega) w22 H.size hT ) (cwV 3 hC.2.2.2.2 uV_RX1_164 rfl rfl rfl (by decide +kernel) ⟨Nat.le_of_ble_eq_true rfl, Nat.le_of_ble_eq_true rfl⟩) rfl hl.1 rfl (Nat.le_of_ble_eq_true rfl) dX1_chooseDeed_31 (fun r31 w33 H locs hp32 hw => ?_)
            obtain ⟨hT, k34, hg37⟩ := hp32
            have hF := hF.tr k34 (by decide)
            have c38 := k34.gi hkq2_ (by decide) c29
            rcases hg37 with ⟨rfl, ⟨x35, c36, rx35, tx35⟩⟩ | rfl
            · refine lv_if_eq (tgt := 40) hx hb dX1_chooseDeed_34 (by decide) (fun _ => ?_) (fun c => absurd (by decide) c)
              exact J40 r14 x11 H locs ls w33 (show 0 ≤ v2_3.toInt from r2) (show v2_3.toInt ≤ 11 by first | with_reducible assumption | omega) (show 1 ≤ x11.toInt by first | with_reducible assumption | omega) (show x11.toInt ≤ 12 by first | with_reducible assumption | omega)  hw hT hF c38 (lv_sub hl [1, 2, 3, 4, 0] rfl)
            · refine lv_if_eq (tgt := 40) hx hb dX1_chooseDeed_34 (by decide) (fun c => absurd c (by decide)) (fun _ => ?_)
              refine lv_iload hx hb dX1_chooseDeed_37 (lv_at hl 0 rfl) ?_
              exact tk_iret hC hr hlocks hK ⟨hT, hF, (Or.inr ⟨(show 0 ≤ r14.toInt by first | with_reducible assumption | omega), (show r14.toInt ≤ 3 by first | with_reducible assumption | omega)⟩)⟩ hw dX1_chooseDeed_39
        · refine lv_if_eq (tgt := 40) hx hb dX1_chooseDeed_24 (by decide) (fun _ => ?_) (fun c => absurd (by decide) c)
          exact J40 r14 x11 H locs ls w22 (show 0 ≤ v2_3.toInt from r2) (show v2_3.toInt ≤ 11 by first | with_reducible assumption | omega) (show 1 ≤ x11.toInt by first | with_reducible assumption | omega) (show x11.toInt ≤ 12 by first | with_reducible assumption | omega)  hw hT hF c29 (lv_sub hl [1, 2, 3, 4, 0] rfl)
        · refine lv_if_eq (tgt := 40) hx hb dX1_chooseDeed_24 (by decide) (fun c => absurd c (by decide)) (fun _ => ?_)
          refine lv_aload_n hx hb dX1_chooseDeed_27 rfl (lv_at hl 1 rfl) ?_
          refine lv_aload_n hx hb dX1_chooseDeed_28 rfl (lv_at hl 2 rfl) ?_
          refine lv_aload_n hx hb dX1_chooseDeed_29 rfl (lv_at hl 3 rfl) ?_
          refine lv_iload_n hx hb dX1_chooseDeed_30 rfl (lv_at hl 4 rfl) ?_
          refine tk_Vi hC hK hw hT hA hE hSR kC_at149 (by decide) rfl (k_X1_holds_2 l adK adV dC dI cy ad B hB0 (Int.le_trans hB1 (by decide)) qr s1   q2_ hkq2_ v2_3 (show 0 ≤ v2_3.toInt from r2) (show v2_3.toInt ≤ 11 by first | with_reducible assumption | omega) w22 H.size hT ) (cwV 3 hC.2.2.2.2 uV_RX1_164 rfl rfl rfl (by decide +kernel) ⟨Nat.le_of_ble_eq_true rfl, Nat.le_of_ble_eq_true rfl⟩) rfl hl.1 rfl (Nat.le_of_ble_eq_true rfl) dX1_chooseDeed_31 (fun r39 w41 H locs hp40 hw => ?_)
          obtain ⟨hT, k42, hg45⟩ := hp40
          have hF := hF.tr k42 (by decide)
          have c46 := k42.gi hkq2_ (by decide) c29
          rcases hg45 with ⟨rfl, ⟨x43, c44, rx43, tx43⟩⟩ | rfl
          · refine lv_if_eq (tgt := 40) hx hb dX1_chooseDeed_34 (by decide) (fun _ => ?_) (fun c => absurd (by decide) c)
            exact J40 r14 x11 H locs ls w41 (show 0 ≤ v2_3.toInt from r2) (show v2_3.toInt ≤ 11 by first | with_reducible assumption | omega) (show 1 ≤ x11.toInt by first | with_reducible assumption | omega) (show x11.toInt ≤ 12 by first | with_reducible assumption | omega)  hw hT hF c46 (lv_sub hl [1, 2, 3, 4, 0] rfl)
          · refine lv_if_eq (tgt := 40) hx hb dX1_chooseDeed_34 (by decide) (fun c => absurd c (by decide)) (fun _ => ?_)
            refine lv_iload hx hb dX1_chooseDeed_37 (lv_at hl 0 rfl) ?_
            exact tk_iret hC hr hlocks hK ⟨hT, hF, (Or.inl ⟨x11, c46, (show 1 ≤ x11.toInt by first | with_reducible assumption | omega), (show x11.toInt ≤ 12 by first | with_reducible assumption | omega)⟩)⟩ hw dX1_chooseDeed_39
  refine lv_iconst (v := 0) hx hb dX1_chooseDeed_0 (by decide) ?_
  refine lv_istore_n (lv' := [(3, .int 0), (0, .ref (ad 149)), (1, .ref (ad 152)), (2, .ref (ad q2_))]) hx hb dX1_chooseDeed_1 rfl hl (by decide) rfl (fun ls hl => ?_)
  exact L2 ((12 - (0 : Int)).toNat + 1) 0 s.heap locs ls w0 (by decide) (by decide) (Nat.lt_succ_self _) hw hT hF  (lv_sub hl [1, 2, 3, 0] rfl)
