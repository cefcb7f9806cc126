abbrev P_X12_sight_1 (ad : Nat → Nat) (cy : Nat → ClassId) (B : Int) (qr : Nat) (s1 : Int) (a1 : Int32) (a2 : Int32) (w0 : va_W) : Int32 → va_W → Prop := fun r u => TW ksM ad cy B qr 12 u ∧ FE ksM [(71, 7, 7), (71, 264, 286), (71, 265, 287)] w0 u ∧ ((r = (-2)) ∨ (0 ≤ r.toInt ∧ r.toInt ≤ 12 ∧ (-1) ≤ a1.toInt ∧ a1.toInt ≤ 11 ∧ (∃ y : Int32, gi u 12 7 = y ∧ 0 ≤ y.toInt ∧ y.toInt ≤ 12)))
set_option maxHeartbeats 4000000 in
set_option maxRecDepth 100000 in
theorem k_X12_sight_1 (l : Launch) (adK adV : Nat → Nat) (dC : Nat → ClassId) (dI : Nat → Nat → Nat) (cy : Nat → ClassId) (ad : Nat → Nat) (B : Int) (hB0 : 100000 ≤ B) (hB1 : B ≤ 1073741824) (qr : Nat) (s1 : Int)  (a1 : Int32) (a2 : Int32) (w0 : va_W) (sz : Nat) (hT : TW ksM ad cy B qr 12 w0)  : Met l yX12_sight wsX12_sight ({ frames := 2, cells := 0, slots := 0, locals := 37 }) (va_Pc [.ref (ad 0), .int a1, .int a2] (wpreS adK adV dC dI cy sz w0)) (va_Qi (P_X12_sight_1 ad cy B qr s1 a1 a2 w0) (fun u : va_W => wpost dC dI cy (va_A w0 sz) u) (va_A w0 sz)) 0 0 (va_A w0 sz) := by
  refine Met.ofW (cc := cX12_sight) (maxL := 3) (ret := (some .int)) (by decide) rfl ?_
  intro p e s m args below meth c s₁ Bk hml hv
  obtain ⟨rfl, ⟨hsz, hP, hK, hD0⟩, hE, hSR⟩ := hv
  have hx := Bk.exec
  have hb := Bk.bytes
  have hr := Bk.returns
  have hlocks := Bk.notSynchronized
  have hC : CallFix p m c cX12_sight 3 s _ wsX12_sight RX12 := ⟨hx, hb, hml, findClass_of_methodNamed Bk.named, atoms_spec (ws := wsX12_sight) Bk.pre⟩
  subst hsz
  have hD := hD0.self (sz := s.heap.size)
  generalize hAe : va_A w0 s.heap.size = A at hD hE ⊢
  have hA : ∀ q : Nat, s.heap.size ≤ q → A q := fun q h => by rw [← hAe]; exact Or.inr h
  have hw : Wd dC dI A s.heap s.heap [] w0 := ⟨hP, hD, va_S.rf⟩
  have hF : FE ksM [(71, 7, 7), (71, 264, 286), (71, 265, 287)] w0 w0 := FE.rf
  have hl := lv_entry ([.ref (ad 0), .int a1, .int a2]) (n := 3) (Nat.le_of_ble_eq_true rfl)
  rw [lg_entry_eq]
  generalize (lg_sl ([.ref (ad 0), .int a1, .int a2]) ++ List.replicate (3 - (lg_sl ([.ref (ad 0), .int a1, .int a2])).length) Slot.unset).toArray = ls at hl ⊢
  have hl : lv_has ls 3 [(0, .ref (ad 0)), (1, .int a1), (2, .int a2)] := hl
  generalize hloc : ([] : List Loc) = locs at hw ⊢
  have hinX12 : ∀ w ∈ u_ws RX12 TX12 42, w ∈ wsX12_sight := fun _ h => List.mem_cons_of_mem _ (List.mem_append_right _ (h))
  have J47 : ∀ (H : Heap) (locs : List Loc) (ls : Array Slot) (w1 : va_W), Wd dC dI A s.heap H locs w1 → TW ksM ad cy B qr 12 w1 → FE ksM [(71, 7, 7), (71, 264, 286), (71, 265, 287)] w0 w1 → lv_has ls 3 [(0, .ref (ad 0)), (1, .int a1), (2, .int a2)] → W p l e ({ frames := 2, cells := 0, slots := 0, locals := 37 }) s m (List.toArray [.ref (ad 0), .int a1, .int a2]) below meth c H locs 0 0 (MQ below (va_Qi (P_X12_sight_1 ad cy B qr s1 a1 a2 w0) (fun u : va_W => wpost dC dI cy A u) A) (List.toArray [.ref (ad 0), .int a1, .int a2]) s 0 0 A) (F0 m 47 ls []) := by
    intro H locs ls w1 hw hT hF hl
    refine lv_bipush (v := (-2)) hx hb dX12_sight_47 (by decide) ?_
    exact tk_iret hC hr hlocks hK ⟨hT, hF, (Or.inl rfl)⟩ hw dX12_sight_49
  refine lv_iload_n hx hb dX12_sight_0 rfl (lv_at hl 1 rfl) ?_
  refine lv_iconst (v := (-1)) hx hb dX12_sight_1 (by decide) ?_
  refine lv_icmp_ne (tgt := 15) hx hb dX12_sight_2 (by decide) (fun c2 => ?_) (fun c2 => ?_)
  · have c2 : ¬ a1.toInt = (-1 : Int) := wk_eqF c2
    refine lv_aload_n hx hb dX12_sight_15 rfl (lv_at hl 0 rfl) ?_
    refine lv_iload_n hx hb dX12_sight_16 rfl (lv_at hl 1 rfl) ?_
    refine tk_Vi hC hK hw hT hA hE hSR kM_at0 (by decide) rfl (k_X12_isStreet_1 l adK adV dC dI cy ad B (by omega) (by omega) qr s1   a1 w0 s.heap.size hT ) (cwV 1 hC.2.2.2.2 gX12_sight_X12_isStreet rfl rfl rfl (by decide +kernel) ⟨Nat.le_of_ble_eq_true rfl, Nat.le_of_ble_eq_true rfl⟩) rfl hl.1 rfl (Nat.le_of_ble_eq_true rfl) dX12_sight_17 (fun r3 w5 H locs hp4 hw => ?_)
    obtain ⟨rfl, hg11⟩ := hp4
    rcases hg11 with rfl | ⟨rfl, g7, g8, ⟨x9, c10, rx9, tx9⟩⟩
    · refine lv_if_eq (tgt := 47) hx hb dX12_sight_20 (by decide) (fun _ => ?_) (fun c => absurd (by decide) c)
      exact J47  H locs ls w0   hw hT hF  (lv_sub hl [0, 1, 2] rfl)
    · refine lv_if_eq (tgt := 47) hx hb dX12_sight_20 (by decide) (fun c => absurd c (by decide)) (fun _ => ?_)
      refine lv_iload_n hx hb dX12_sight_23 rfl (lv_at hl 2 rfl) ?_
      refine lv_i2l hx hb dX12_sight_24 rfl ?_
      refine lv_topl (fun x12 ex12 => ?_)
      have ex12 : x12.toInt = a2.toInt := by rw [ex12]; exact wk_i2l _
      have bx12 := wk_i32 a2
      refine lv_lconst (v := 0) hx hb dX12_sight_25 (by decide) ?_
      refine lv_ldc2 (v := 3) hx hb hC.2.2.2.1 (hC.2.2.2.2 _ (List.mem_of_getElem? (i := 2) rfl)) dX12_sight_26 ?_
      refine tk_Si hC hK hw hT hA hE hSR (k_X12_in_11 l adK adV dC dI cy ad B (by omega) (by omega) qr s1   x12 (show (-2147483648) ≤ x12.toInt by omega) (show x12.toInt ≤ 2147483647 by omega) w0 H.size hT ) (va_cwS 3 hC.2.2.2.2 gX12_sight_X12_in rfl rfl rfl (by decide +kernel) ⟨Nat.le_of_ble_eq_true rfl, Nat.le_of_ble_eq_true rfl⟩) rfl hl.1 rfl (Nat.le_of_ble_eq_true rfl) dX12_sight_29 (fun r13 w15 H locs hp14 hw => ?_)
      obtain ⟨rfl, hg19⟩ := hp14
      rcases hg19 with rfl | ⟨rfl, g17, g18⟩
      · refine lv_if_eq (tgt := 47) hx hb dX12_sight_32 (by decide) (fun _ => ?_) (fun c => absurd (by decide) c)
        exact J47  H locs ls w0   hw hT hF  (lv_sub hl [0, 1, 2] rfl)
      · refine lv_if_eq (tgt := 47) hx hb dX12_sight_32 (by decide) (fun c => absurd c (by decide)) (fun _ => ?_)
        refine lv_aload_n hx hb dX12_sight_35 rfl (lv_at hl 0 rfl) ?_
        refine tk_getA hC hK hw hT hinX12 kM_at0 (by decide) rfl 26 (by decide) (List.mem_of_getElem? (i := 1) rfl) rfl rfl dX12_sight_36 ?_
        refine lv_bipush (v := 7) hx hb dX12_sight_39 (by decide) ?_
        refine tk_ialdR hC hK hw hT kM_at12 rfl (by decide) (by decide) dX12_sight_41 (fun x20 c21 Ex20 => ?_)
        have bx20 := tk_rgI rfl 7 1 1 0 12 (by decide +kernel) ⟨0, by decide, by decide⟩ Ex20
        have c21 : gi w0 12 7 = x20 := c21
        refine lv_bipush (v := 12) hx hb dX12_sight_42 (by decide) ?_
        refine lv_icmp_ne (tgt := 50) hx hb dX12_sight_44 (by decide) (fun c22 => ?_) (fun c22 => ?_)
        · have c22 : ¬ x20.toInt = (12 : Int) := wk_eqF c22
          refine lv_aload_n hx hb dX12_sight_50 rfl (lv_at hl 0 rfl) ?_
          refine tk_getA hC hK hw hT hinX12 kM_at0 (by decide) rfl 26 (by decide) (List.mem_of_getElem? (i := 1) rfl) rfl rfl dX12_sight_51 ?_
          refine lv_sipush (v := 264) hx hb dX12_sight_54 (by decide) ?_
          refine lv_iconst (v := 2) hx hb dX12_sight_57 (by decide) ?_
          refine lv_aload_n hx hb dX12_sight_58 rfl (lv_at hl 0 rfl) ?_
          refine tk_getA hC hK hw hT hinX12 kM_at0 (by decide) rfl 26 (by decide) (List.mem_of_getElem? (i := 1) rfl) rfl rfl dX12_sight_59 ?_
          refine lv_bipush (v := 7) hx hb dX12_sight_62 (by decide) ?_
          refine tk_ialdR hC hK hw hT kM_at12 rfl (by decide) (by decide) dX12_sight_64 (fun x23 c24 Ex23 => ?_)
          refine wk_top x20 (c24.symm.trans c21) ?_
          refine lv_imul hx hb dX12_sight_65 ?_
          refine lv_topi (fun x25 ex25 => ?_)
          have ex25 : x25.toInt = (2 : Int) * x20.toInt := by rw [ex25]; exact wk_mul (show (-2147483648) ≤ (2 : Int) * x20.toInt by omega) (show (2 : Int) * x20.toInt ≤ 2147483647 by omega)
          refine lv_iadd hx hb dX12_sight_66 ?_
          refine lv_topi (fun x26 ex26 => ?_)
          have ex26 : x26.toInt = (264 : Int) + x25.toInt := by rw [ex26]; exact wk_add (show (-2147483648) ≤ (264 : Int) + x25.toInt by omega) (show (264 : Int) + x25.toInt ≤ 2147483647 by omega)
          refine lv_iload_n hx hb dX12_sight_67 rfl (lv_at hl 1 rfl) ?_
          refine tk_iastR hC hK hw hT kM_at12 (by decide) rfl (show 0 ≤ x26.toInt by omega) (show x26.toInt < 296 by omega) (tk_rgS rfl 264 2 12 0 11 (by decide +kernel) ⟨(x20.toInt - 0).toNat, by omega, show x26.toInt.toNat = 264 + 2 * (x20.toInt - 0).toNat by omega⟩ (show 0 ≤ a1.toInt by omega) (show a1.toInt ≤ 11 by omega)) dX12_sight_68 (fun H locs w27 hw hT k29 c28 => ?_)
          have hF := hF.put kM_at12 (inE_of (a := 264) (b := 286) (by decide) (show 264 ≤ x26.toInt.toNat by omega) (show x26.toInt.toNat ≤ 286 by omega)) k29
          have c30 := k29.gi (Or.inr (show 1 ≠ x26.toInt.toNat by omega)) c10
          have c31 := k29.gi (Or.inr (show 7 ≠ x26.toInt.toNat by omega)) c21
          refine lv_aload_n hx hb dX12_sight_69 rfl (lv_at hl 0 rfl) ?_
          refine tk_getA hC hK hw hT hinX12 kM_at0 (by decide) rfl 26 (by decide) (List.mem_of_getElem? (i := 1) rfl) rfl rfl dX12_sight_70 ?_
          refine lv_sipush (v := 264) hx hb dX12_sight_73 (by decide) ?_
          refine lv_iconst (v := 2) hx hb dX12_sight_76 (by decide) ?_
          refine lv_aload_n hx hb dX12_sight_77 rfl (lv_at hl 0 rfl) ?_
          refine tk_getA hC hK hw hT hinX12 kM_at0 (by decide) rfl 26 (by decide) (List.mem_of_getElem? (i := 1) rfl) rfl rfl dX12_sight_78 ?_
          refine lv_bipush (v := 7) hx hb dX12_sight_81 (by decide) ?_
          refine tk_ialdR hC hK hw hT kM_at12 rfl (by decide) (by decide) dX12_sight_83 (fun x32 c33 Ex32 => ?_)
          refine wk_top x20 (c33.symm.trans c31) ?_
          refine lv_imul hx hb dX12_sight_84 ?_
          refine lv_topi (fun x34 ex34 => ?_)
          have ex34 : x34.toInt = (2 : Int) * x20.toInt := by rw [ex34]; exact wk_mul (show (-2147483648) ≤ (2 : Int) * x20.toInt by omega) (show (2 : Int) * x20.toInt ≤ 2147483647 by omega)
          refine lv_iadd hx hb dX12_sight_85 ?_
          refine lv_topi (fun x35 ex35 => ?_)
          have ex35 : x35.toInt = (264 : Int) + x34.toInt := by rw [ex35]; exact wk_add (show (-2147483648) ≤ (264 : Int) + x34.toInt by omega) (show (264 : Int) + x34.toInt ≤ 2147483647 by omega)
          refine lv_iconst (v := 1) hx hb dX12_sight_86 (by decide) ?_
          refine lv_iadd hx hb dX12_sight_87 ?_
          refine lv_topi (fun x36 ex36 => ?_)
          have ex36 : x36.toInt = x35.toInt + (1 : Int) := by rw [ex36]; exact wk_add (show (-2147483648) ≤ x35.toInt + (1 : Int) by omega) (show x35.toInt + (1 : Int) ≤ 2147483647 by omega)
          refine lv_iload_n hx hb dX12_sight_88 rfl (lv_at hl 2 rfl) ?_
          refine tk_iastR hC hK hw hT kM_at12 (by decide) rfl (show 0 ≤ x36.toInt by omega) (show x36.toInt < 296 by omega) (tk_rgS rfl 265 2 12 0 3 (by decide +kernel) ⟨(x20.toInt - 0).toNat, by omega, show x36.toInt.toNat = 265 + 2 * (x20.toInt - 0).toNat by omega⟩ (show 0 ≤ a2.toInt by omega) (show a2.toInt ≤ 3 by omega)) dX12_sight_89 (fun H locs w37 hw hT k39 c38 => ?_)
          have hF := hF.put kM_at12 (inE_of (a := 265) (b := 287) (by decide) (show 265 ≤ x36.toInt.toNat by omega) (show x36.toInt.toNat ≤ 287 by omega)) k39
          have c40 := k39.gi (Or.inr (show 1 ≠ x36.toInt.toNat by omega)) c30
          have c41 := k39.gi (Or.inr (show 7 ≠ x36.toInt.toNat by omega)) c31
          refine lv_aload_n hx hb dX12_sight_90 rfl (lv_at hl 0 rfl) ?_
          refine tk_getA hC hK hw hT hinX12 kM_at0 (by decide) rfl 26 (by decide) (List.mem_of_getElem? (i := 1) rfl) rfl rfl dX12_sight_91 ?_
          refine lv_bipush (v := 7) hx hb dX12_sight_94 (by decide) ?_
          refine lv_dup2_11 hx hb dX12_sight_96 rfl rfl ?_
          refine tk_ialdR hC hK hw hT kM_at12 rfl (by decide) (by decide) dX12_sight_97 (fun x42 c43 Ex42 => ?_)
          refine wk_top x20 (c43.symm.trans c41) ?_
          refine lv_iconst (v := 1) hx hb dX12_sight_98 (by decide) ?_
          refine lv_iadd hx hb dX12_sight_99 ?_
          refine lv_topi (fun x44 ex44 => ?_)
          have ex44 : x44.toInt = x20.toInt + (1 : Int) := by rw [ex44]; exact wk_add (show (-2147483648) ≤ x20.toInt + (1 : Int) by omega) (show x20.toInt + (1 : Int) ≤ 2147483647 by omega)
          refine tk_iastR hC hK hw hT kM_at12 (by decide) rfl (by decide) (by decide) (tk_rgS rfl 7 1 1 1 12 (by decide +kernel) ⟨0, by decide, by decide⟩ (show 1 ≤ x44.toInt by omega) (show x44.toInt ≤ 12 by omega)) dX12_sight_100 (fun H locs w45 hw hT k47 c46 => ?_)
          have hF := hF.put kM_at12 (inE_of (a := 7) (b := 7) (by decide) (by decide) (by decide)) k47
          have c48 := k47.gi (Or.inr (by decide)) c40
          have c46 : gi w45 12 7 = x44 := c46
          refine lv_aload_n hx hb dX12_sight_101 rfl (lv_at hl 0 rfl) ?_
          refine tk_getA hC hK hw hT hinX12 kM_at0 (by decide) rfl 26 (by decide) (List.mem_of_getElem? (i := 1) rfl) rfl rfl dX12_sight_102 ?_
          refine lv_bipush (v := 7) hx hb dX12_sight_105 (by decide) ?_
          refine tk_ialdR hC hK hw hT kM_at12 rfl (by decide) (by decide) dX12_sight_107 (fun x49 c50 Ex49 => ?_)
          refine wk_top x44 (c50.symm.trans c46) ?_
          exact tk_iret hC hr hlocks hK ⟨hT, hF, (Or.inr ⟨(show 0 ≤ x44.toInt by omega), (show x44.toInt ≤ 12 by omega), (show (-1) ≤ a1.toInt by omega), (show a1.toInt ≤ 11 by omega), ⟨x44, c46, (show 0 ≤ x44.toInt by omega), (show x44.toInt ≤ 12 by omega)⟩⟩)⟩ hw dX12_sight_108
        · have c22 : x20.toInt = (12 : Int) := wk_eq.mp c22
          exact J47  H locs ls w0   hw hT hF  (lv_sub hl [0, 1, 2] rfl)
  · have c2 : a1.toInt = (-1 : Int) := wk_eq.mp c2
    refine lv_aload_n hx hb dX12_sight_5 rfl (lv_at hl 0 rfl) ?_
    refine tk_getA hC hK hw hT hinX12 kM_at0 (by decide) rfl 26 (by decide) (List.mem_of_getElem? (i := 1) rfl) rfl rfl dX12_sight_6 ?_
    refine lv_bipush (v := 7) hx hb dX12_sight_9 (by decide) ?_
    refine lv_iconst (v := 0) hx hb dX12_sight_11 (by decide) ?_
    refine tk_iastR hC hK hw hT kM_at12 (by decide) rfl (by decide) (by decide) (tk_rg0 rfl (show 0 ≤ B by omega) (by decide)) dX12_sight_12 (fun H locs w51 hw hT k53 c52 => ?_)
    have hF := hF.put kM_at12 (inE_of (a := 7) (b := 7) (by decide) (by decide) (by decide)) k53
    have c52 : gi w51 12 7 = 0 := c52
    refine lv_iconst (v := 0) hx hb dX12_sight_13 (by decide) ?_
    exact tk_iret hC hr hlocks hK ⟨hT, hF, (Or.inr ⟨(by decide), (by decide), (show (-1) ≤ a1.toInt by omega), (show a1.toInt ≤ 11 by omega), ⟨0, c52, (by decide), (by decide)⟩⟩)⟩ hw dX12_sight_14
abbrev P_X12_fitting_1 (ad : Nat → Nat) (cy : Nat → ClassId) (B : Int) (qr : Nat) (s1 : Int)  (w0 : va_W) : Int32 → va_W → Prop := fun r u => w0 = u ∧ ((0 ≤ r.toInt ∧ r.toInt ≤ 127))
set_option maxHeartbeats 4000000 in
set_option maxRecDepth 100000 in
theorem k_X12_fitting_1 (l : Launch) (adK adV : Nat → Nat) (dC : Nat → ClassId) (dI : Nat → Nat → Nat) (cy : Nat → ClassId) (ad : Nat → Nat) (B : Int) (hB0 : 100000 ≤ B) (hB1 : B ≤ 1073741824) (qr : Nat) (s1 : Int)   (w0 : va_W) (sz : Nat) (hT : TW ksM ad cy B qr 12 w0)  : Met l yX12_fitting wsX12_fitting ({ frames := 2, cells := 0, slots := 0, locals := 34 }) (va_Pc [.ref (ad 0)] (wpreS adK adV dC dI cy sz w0)) (va_Qi (P_X12_fitting_1 ad cy B qr s1  w0) (fun u : va_W => wpost dC dI cy (va_A w0 sz) u) (va_A w0 sz)) 0 0 (va_A w0 sz) := by
  refine Met.ofW (cc := cX12_fitting) (maxL := 5) (ret := (some .int)) (by decide) rfl ?_
  intro p e s m args below meth c s₁ Bk hml hv
  obtain ⟨rfl, ⟨hsz, hP, hK, hD0⟩, hE, hSR⟩ := hv
  have hx := Bk.exec
  have hb := Bk.bytes
  have hr := Bk.returns
  have hlocks := Bk.notSynchronized
  have hC : CallFix p m c cX12_fitting 5 s _ wsX12_fitting RX12 := ⟨hx, hb, hml, findClass_of_methodNamed Bk.named, atoms_spec (ws := wsX12_fitting) Bk.pre⟩
  subst hsz
  have hD := hD0.self (sz := s.heap.size)
  generalize hAe : va_A w0 s.heap.size = A at hD hE ⊢
  have hA : ∀ q : Nat, s.heap.size ≤ q → A q := fun q h => by rw [← hAe]; exact Or.inr h
  have hw : Wd dC dI A s.heap s.heap [] w0 := ⟨hP, hD, va_S.rf⟩
  have hF : FE ksM ([] : List (Nat × Nat × Nat)) w0 w0 := FE.rf
  have hl := lv_entry ([.ref (ad 0)]) (n := 5) (Nat.le_of_ble_eq_true rfl)
  rw [lg_entry_eq]
  generalize (lg_sl ([.ref (ad 0)]) ++ List.replicate (5 - (lg_sl ([.ref (ad 0)])).length) Slot.unset).toArray = ls at hl ⊢
  have hl : lv_has ls 5 [(0, .ref (ad 0))] := hl
  generalize hloc : ([] : List Loc) = locs at hw ⊢
  have hinX12 : ∀ w ∈ u_ws RX12 TX12 42, w ∈ wsX12_fitting := fun _ h => List.mem_cons_of_mem _ (List.mem_append_right _ (h))
  have L4 : ∀ (n4 : Nat) (v4_1 : Int32) (v4_2 : Int32) (H : Heap) (locs : List Loc) (ls : Array Slot), 0 ≤ v4_1.toInt → v4_1.toInt ≤ 127 → 0 ≤ v4_2.toInt → v4_2.toInt ≤ 7 → (7 - v4_2.toInt).toNat < n4 → Wd dC dI A s.heap H locs w0 → lv_has ls 5 [(0, .ref (ad 0)), (1, .int v4_1), (2, .int v4_2)] → W p l e ({ frames := 2, cells := 0, slots := 0, locals := 34 }) s m (List.toArray [.ref (ad 0)]) below meth c H locs 0 0 (MQ below (va_Qi (P_X12_fitting_1 ad cy B qr s1  w0) (fun u : va_W => wpost dC dI cy A u) A) (List.toArray [.ref (ad 0)]) s 0 0 A) (F0 m 4 ls []) := by
    intro n4
    induction n4 with
    | zero => intro v4_1 v4_2 H locs ls r1 t2 r3 t4 hm4 hw hl; omega
    | succ n4 ih4 =>
      intro v4_1 v4_2 H locs ls r1 t2 r3 t4 hm4 hw hl
      have L15 : ∀ (n15 : Nat) (v15_3 : Int32) (v15_4 : Int32) (H : Heap) (locs : List Loc) (ls : Array Slot), 0 ≤ v4_1.toInt → v4_1.toInt ≤ 127 → 0 ≤ v4_2.toInt → v4_2.toInt ≤ 6 → 0 ≤ v15_3.toInt → v15_3.toInt ≤ 1 → 0 ≤ v15_4.toInt → v15_4.toInt ≤ 12 → (12 - v15_4.toInt).toNat < n15 → Wd dC dI A s.heap H locs w0 → lv_has ls 5 [(0, .ref (ad 0)), (1, .int v4_1), (2, .int v4_2), (3, .int v15_3), (4, .int v15_4)] → W p l e ({ frames := 2, cells := 0, slots := 0, locals := 34 }) s m (List.toArray [.ref (ad 0)]) below meth c H locs 0 0 (MQ below (va_Qi (P_X12_fitting_1 ad cy B qr s1  w0) (fun u : va_W => wpost dC dI cy A u) A) (List.toArray [.ref (ad 0)]) s 0 0 A) (F0 m 15 ls []) := by
        intro n15
        induction n15 with
        | zero => intro v15_3 v15_4 H locs ls r5 t6 r7 t8 r9 t10 r11 t12 hm15 hw hl; omega
        | succ n15 ih15 =>
          intro v15_3 v15_4 H locs ls r5 t6 r7 t8 r9 t10 r11 t12 hm15 hw hl
          have J73 : ∀ (f73_12_7 : Int32) (H : Heap) (locs : List Loc) (ls : Array Slot), 0 ≤ v4_1.toInt → v4_1.toInt ≤ 127 → 0 ≤ v4_2.toInt → v4_2.toInt ≤ 6 → 0 ≤ v15_3.toInt → v15_3.toInt ≤ 1 → 0 ≤ v15_4.toInt → v15_4.toInt ≤ 11 → 1 ≤ f73_12_7.toInt → f73_12_7.toInt ≤ 12 → Wd dC dI A s.heap H locs w0 → gi w0 12 7 = f73_12_7 → lv_has ls 5 [(0, .ref (ad 0)), (1, .int v4_1), (2, .int v4_2), (3, .int v15_3), (4, .int v15_4)] → W p l e ({ frames := 2, cells := 0, slots := 0, locals := 34 }) s m (List.toArray [.ref (ad 0)]) below meth c H locs 0 0 (MQ below (va_Qi (P_X12_fitting_1 ad cy B qr s1  w0) (fun u : va_W => wpost dC dI cy A u) A) (List.toArray [.ref (ad 0)]) s 0 0 A) (F0 m 73 ls []) := by
            intro f73_12_7 H locs ls r13 t14 r15 t16 r17 t18 r19 t20 r21 t22 hw c23 hl
            refine lv_iconst (v := 0) hx hb dX12_fitting_73 (by decide) ?_
            refine lv_istore_n (lv' := [(3, .int 0), (0, .ref (ad 0)), (1, .int v4_1), (2, .int v4_2), (4, .int v15_4)]) hx hb dX12_fitting_74 rfl hl (by decide) rfl (fun ls hl => ?_)
            obtain ⟨x24, ex24⟩ : ∃ y : Int32, y = v15_4 + Int32.ofInt 1 := ⟨_, rfl⟩
            refine lv_iinc (v := x24) (lv' := [(4, .int x24), (3, .int 0), (0, .ref (ad 0)), (1, .int v4_1), (2, .int v4_2)]) hx hb dX12_fitting_75 hl (k := 4) rfl ex24.symm (by decide) rfl (fun ls hl => ?_)
            have ex24 : x24.toInt = v15_4.toInt + 1 := by rw [ex24]; exact wk_add (y := 1) (show -2147483648 ≤ v15_4.toInt + 1 by omega) (show v15_4.toInt + 1 ≤ 2147483647 by omega)
            refine lv_goto (tgt := 15) hx hb dX12_fitting_78 (by decide) ?_
            exact ih15 0 x24 H locs ls  (show 0 ≤ v4_1.toInt by omega) (show v4_1.toInt ≤ 127 by omega) (show 0 ≤ v4_2.toInt by omega) (show v4_2.toInt ≤ 6 by omega) (by decide) (by decide) (show 0 ≤ x24.toInt by omega) (show x24.toInt ≤ 12 by omega) (show (12 - x24.toInt).toNat < n15 by omega) hw   (lv_sub hl [2, 3, 4, 1, 0] rfl)
          refine lv_iload hx hb dX12_fitting_15 (lv_at hl 4 rfl) ?_
          refine lv_aload_n hx hb dX12_fitting_17 rfl (lv_at hl 0 rfl) ?_
          refine tk_getA hC hK hw hT hinX12 kM_at0 (by decide) rfl 26 (by decide) (List.mem_of_getElem? (i := 1) rfl) rfl rfl dX12_fitting_18 ?_
          refine lv_bipush (v := 7) hx hb dX12_fitting_21 (by decide) ?_
          refine tk_ialdR hC hK hw hT kM_at12 rfl (by decide) (by decide) dX12_fitting_23 (fun x25 c26 Ex25 => ?_)
          have bx25 := tk_rgI rfl 7 1 1 0 12 (by decide +kernel) ⟨0, by decide, by decide⟩ Ex25
          have c26 : gi w0 12 7 = x25 := c26
          refine lv_icmp_ge (tgt := 81) hx hb dX12_fitting_24 (by decide) (fun c27 => ?_) (fun c27 => ?_)
          · have c27 : x25.toInt ≤ v15_4.toInt := wk_le.mp c27
            refine lv_iload_n hx hb dX12_fitting_81 rfl (lv_at hl 1 rfl) ?_
            refine lv_iload_n hx hb dX12_fitting_82 rfl (lv_at hl 3 rfl) ?_
            refine lv_if_eq (tgt := 92) hx hb dX12_fitting_83 (by decide) (fun c28 => ?_) (fun c28 => ?_)
            · have c28 : v15_3.toInt = (0 : Int) := wk_eq.mp c28
              refine lv_iconst (v := 0) hx hb dX12_fitting_92 (by decide) ?_
              refine lv_ior hx hb dX12_fitting_93 ?_
              refine lv_topi (fun x29 ex29 => ?_)
              have bx29 : 0 ≤ x29.toInt ∧ x29.toInt < 128 := by rw [ex29]; exact wk_or 7 (by decide) (by omega) (by omega) (by decide) (by decide)
              have mx29 : v4_1.toInt ≤ x29.toInt ∧ (0 : Int) ≤ x29.toInt := by rw [ex29]; exact wk_orL 7 (by decide) (by omega) (by omega) (by decide) (by decide)
              refine lv_istore_n (lv' := [(1, .int x29), (0, .ref (ad 0)), (2, .int v4_2), (3, .int v15_3), (4, .int v15_4)]) hx hb dX12_fitting_94 rfl hl (by decide) rfl (fun ls hl => ?_)
              obtain ⟨x30, ex30⟩ : ∃ y : Int32, y = v4_2 + Int32.ofInt 1 := ⟨_, rfl⟩
              refine lv_iinc (v := x30) (lv' := [(2, .int x30), (1, .int x29), (0, .ref (ad 0)), (3, .int v15_3), (4, .int v15_4)]) hx hb dX12_fitting_95 hl (k := 2) rfl ex30.symm (by decide) rfl (fun ls hl => ?_)
              have ex30 : x30.toInt = v4_2.toInt + 1 := by rw [ex30]; exact wk_add (y := 1) (show -2147483648 ≤ v4_2.toInt + 1 by omega) (show v4_2.toInt + 1 ≤ 2147483647 by omega)
              refine lv_goto (tgt := 4) hx hb dX12_fitting_98 (by decide) ?_
              exact ih4 x29 x30 H locs ls  (show 0 ≤ x29.toInt by omega) (show x29.toInt ≤ 127 by omega) (show 0 ≤ x30.toInt by omega) (show x30.toInt ≤ 7 by omega) (show (7 - x30.toInt).toNat < n4 by omega) hw   (lv_sub hl [2, 1, 0] rfl)
            · have c28 : ¬ v15_3.toInt = (0 : Int) := wk_eqF c28
              refine lv_iconst (v := 1) hx hb dX12_fitting_86 (by decide) ?_
              refine lv_iload_n hx hb dX12_fitting_87 rfl (lv_at hl 2 rfl) ?_
              refine lv_ishl hx hb dX12_fitting_88 ?_
              refine lv_topi (fun x31 ex31 => ?_)
              have bx31 : 1 ≤ x31.toInt ∧ x31.toInt ≤ 64 := by rw [ex31]; exact wk_shl1 6 (by decide) (by omega) (by omega)
              refine lv_goto (tgt := 93) hx hb dX12_fitting_89 (by decide) ?_
              refine lv_ior hx hb dX12_fitting_93 ?_
              refine lv_topi (fun x32 ex32 => ?_)
              have bx32 : 0 ≤ x32.toInt ∧ x32.toInt < 128 := by rw [ex32]; exact wk_or 7 (by decide) (by omega) (by omega) (by omega) (by omega)
              have mx32 : v4_1.toInt ≤ x32.toInt ∧ x31.toInt ≤ x32.toInt := by rw [ex32]; exact wk_orL 7 (by decide) (by omega) (by omega) (by omega) (by omega)
              refine lv_istore_n (lv' := [(1, .int x32), (0, .ref (ad 0)), (2, .int v4_2), (3, .int v15_3), (4, .int v15_4)]) hx hb dX12_fitting_94 rfl hl (by decide) rfl (fun ls hl => ?_)
              obtain ⟨x33, ex33⟩ : ∃ y : Int32, y = v4_2 + Int32.ofInt 1 := ⟨_, rfl⟩
              refine lv_iinc (v := x33) (lv' := [(2, .int x33), (1, .int x32), (0, .ref (ad 0)), (3, .int v15_3), (4, .int v15_4)]) hx hb dX12_fitting_95 hl (k := 2) rfl ex33.symm (by decide) rfl (fun ls hl => ?_)
              have ex33 : x33.toInt = v4_2.toInt + 1 := by rw [ex33]; exact wk_add (y := 1) (show -2147483648 ≤ v4_2.toInt + 1 by omega) (show v4_2.toInt + 1 ≤ 2147483647 by omega)
              refine lv_goto (tgt := 4) hx hb dX12_fitting_98 (by decide) ?_
              exact ih4 x32 x33 H locs ls  (show 0 ≤ x32.toInt by omega) (show x32.toInt ≤ 127 by omega) (show 0 ≤ x33.toInt by omega) (show x33.toInt ≤ 7 by omega) (show (7 - x33.toInt).toNat < n4 by omega) hw   (lv_sub hl [2, 1, 0] rfl)
          · have c27 : v15_4.toInt < x25.toInt := wk_leF c27
            refine lv_iload_n hx hb dX12_fitting_27 rfl (lv_at hl 3 rfl) ?_
            refine lv_if_eq (tgt := 73) hx hb dX12_fitting_28 (by decide) (fun c34 => ?_) (fun c34 => ?_)
            · have c34 : v15_3.toInt = (0 : Int) := wk_eq.mp c34
              exact J73 x25 H locs ls  (show 0 ≤ v4_1.toInt by omega) (show v4_1.toInt ≤ 127 by omega) (show 0 ≤ v4_2.toInt by omega) (show v4_2.toInt ≤ 6 by omega) (show 0 ≤ v15_3.toInt by omega) (show v15_3.toInt ≤ 1 by omega) (show 0 ≤ v15_4.toInt by omega) (show v15_4.toInt ≤ 11 by omega) (show 1 ≤ x25.toInt by omega) (show x25.toInt ≤ 12 by omega)  hw  c26 (lv_sub hl [0, 1, 2, 3, 4] rfl)
            · have c34 : ¬ v15_3.toInt = (0 : Int) := wk_eqF c34
              refine lv_aload_n hx hb dX12_fitting_31 rfl (lv_at hl 0 rfl) ?_
              refine lv_aload_n hx hb dX12_fitting_32 rfl (lv_at hl 0 rfl) ?_
              refine tk_getA hC hK hw hT hinX12 kM_at0 (by decide) rfl 26 (by decide) (List.mem_of_getElem? (i := 1) rfl) rfl rfl dX12_fitting_33 ?_
              refine lv_sipush (v := 264) hx hb dX12_fitting_36 (by decide) ?_
              refine lv_iconst (v := 2) hx hb dX12_fitting_39 (by decide) ?_
              refine lv_iload hx hb dX12_fitting_40 (lv_at hl 4 rfl) ?_
              refine lv_imul hx hb dX12_fitting_42 ?_
              refine lv_topi (fun x35 ex35 => ?_)
              have ex35 : x35.toInt = (2 : Int) * v15_4.toInt := by rw [ex35]; exact wk_mul (show (-2147483648) ≤ (2 : Int) * v15_4.toInt by omega) (show (2 : Int) * v15_4.toInt ≤ 2147483647 by omega)
              refine lv_iadd hx hb dX12_fitting_43 ?_
              refine lv_topi (fun x36 ex36 => ?_)
              have ex36 : x36.toInt = (264 : Int) + x35.toInt := by rw [ex36]; exact wk_add (show (-2147483648) ≤ (264 : Int) + x35.toInt by omega) (show (264 : Int) + x35.toInt ≤ 2147483647 by omega)
              refine tk_ialdR hC hK hw hT kM_at12 rfl (show 0 ≤ x36.toInt by omega) (show x36.toInt < 296 by omega) dX12_fitting_44 (fun x37 c38 Ex37 => ?_)
              have c38 : gi w0 12 (2 * v15_4.toInt + 264).toNat = x37 := (congrArg (gi w0 12) (congrArg Int.toNat (show 2 * v15_4.toInt + 264 = x36.toInt by omega))).trans c38
              have bx37 := tk_rgI rfl 264 2 12 0 11 (by decide +kernel) ⟨(v15_4.toInt - 0).toNat, by omega, show x36.toInt.toNat = 264 + 2 * (v15_4.toInt - 0).toNat by omega⟩ Ex37
              refine lv_iconst (v := 3) hx hb dX12_fitting_45 (by decide) ?_
              refine lv_iload_n hx hb dX12_fitting_46 rfl (lv_at hl 2 rfl) ?_
              refine lv_iadd hx hb dX12_fitting_47 ?_
              refine lv_topi (fun x39 ex39 => ?_)
              have ex39 : x39.toInt = (3 : Int) + v4_2.toInt := by rw [ex39]; exact wk_add (show (-2147483648) ≤ (3 : Int) + v4_2.toInt by omega) (show (3 : Int) + v4_2.toInt ≤ 2147483647 by omega)
              refine tk_Vi hC hK hw hT hA hE hSR kM_at0 (by decide) rfl (k_X12_streetOf_4 l adK adV dC dI cy ad B (by omega) (by omega) qr s1   x37 (show 0 ≤ x37.toInt by omega) (show x37.toInt ≤ 11 by omega) x39 (show 3 ≤ x39.toInt by omega) (show x39.toInt ≤ 9 by omega) w0 H.size hT ) (cwV 2 hC.2.2.2.2 gX12_fitting_X12_streetOf rfl rfl rfl (by decide +kernel) ⟨Nat.le_of_ble_eq_true rfl, Nat.le_of_ble_eq_true rfl⟩) rfl hl.1 rfl (Nat.le_of_ble_eq_true rfl) dX12_fitting_48 (fun r40 w42 H locs hp41 hw => ?_)
              obtain ⟨rfl, hg47⟩ := hp41
              obtain ⟨g44, g45, c46⟩ := hg47
              refine lv_aload_n hx hb dX12_fitting_51 rfl (lv_at hl 0 rfl) ?_
              refine tk_getA hC hK hw hT hinX12 kM_at0 (by decide) rfl 26 (by decide) (List.mem_of_getElem? (i := 1) rfl) rfl rfl dX12_fitting_52 ?_
              refine lv_sipush (v := 264) hx hb dX12_fitting_55 (by decide) ?_
              refine lv_iconst (v := 2) hx hb dX12_fitting_58 (by decide) ?_
              refine lv_iload hx hb dX12_fitting_59 (lv_at hl 4 rfl) ?_
              refine lv_imul hx hb dX12_fitting_61 ?_
              refine lv_topi (fun x48 ex48 => ?_)
              have ex48 : x48.toInt = (2 : Int) * v15_4.toInt := by rw [ex48]; exact wk_mul (show (-2147483648) ≤ (2 : Int) * v15_4.toInt by omega) (show (2 : Int) * v15_4.toInt ≤ 2147483647 by omega)
              refine lv_iadd hx hb dX12_fitting_62 ?_
              refine lv_topi (fun x49 ex49 => ?_)
              have ex49 : x49.toInt = (264 : Int) + x48.toInt := by rw [ex49]; exact wk_add (show (-2147483648) ≤ (264 : Int) + x48.toInt by omega) (show (264 : Int) + x48.toInt ≤ 2147483647 by omega)
              refine lv_iconst (v := 1) hx hb dX12_fitting_63 (by decide) ?_
              refine lv_iadd hx hb dX12_fitting_64 ?_
              refine lv_topi (fun x50 ex50 => ?_)
              have ex50 : x50.toInt = x49.toInt + (1 : Int) := by rw [ex50]; exact wk_add (show (-2147483648) ≤ x49.toInt + (1 : Int) by omega) (show x49.toInt + (1 : Int) ≤ 2147483647 by omega)
              refine tk_ialdR hC hK hw hT kM_at12 rfl (show 0 ≤ x50.toInt by omega) (show x50.toInt < 296 by omega) dX12_fitting_65 (fun x51 c52 Ex51 => ?_)
              have c52 : gi w0 12 (2 * v15_4.toInt + 265).toNat = x51 := (congrArg (gi w0 12) (congrArg Int.toNat (show 2 * v15_4.toInt + 265 = x50.toInt by omega))).trans c52
              have bx51 := tk_rgI rfl 265 2 12 0 11 (by decide +kernel) ⟨(v15_4.toInt - 0).toNat, by omega, show x50.toInt.toNat = 265 + 2 * (v15_4.toInt - 0).toNat by omega⟩ Ex51
              refine lv_icmp_ne (tgt := 73) hx hb dX12_fitting_66 (by decide) (fun c53 => ?_) (fun c53 => ?_)
              · have c53 : ¬ r40.toInt = x51.toInt := wk_eqF c53
                exact J73 x25 H locs ls  (show 0 ≤ v4_1.toInt by omega) (show v4_1.toInt ≤ 127 by omega) (show 0 ≤ v4_2.toInt by omega) (show v4_2.toInt ≤ 6 by omega) (show 0 ≤ v15_3.toInt by omega) (show v15_3.toInt ≤ 1 by omega) (show 0 ≤ v15_4.toInt by omega) (show v15_4.toInt ≤ 11 by omega) (show 1 ≤ x25.toInt by omega) (show x25.toInt ≤ 12 by omega)  hw  c26 (lv_sub hl [0, 1, 2, 3, 4] rfl)
              · have c53 : r40.toInt = x51.toInt := wk_eq.mp c53
                refine lv_iconst (v := 1) hx hb dX12_fitting_69 (by decide) ?_
                refine lv_goto (tgt := 74) hx hb dX12_fitting_70 (by decide) ?_
                refine lv_istore_n (lv' := [(3, .int 1), (0, .ref (ad 0)), (1, .int v4_1), (2, .int v4_2), (4, .int v15_4)]) hx hb dX12_fitting_74 rfl hl (by decide) rfl (fun ls hl => ?_)
                obtain ⟨x54, ex54⟩ : ∃ y : Int32, y = v15_4 + Int32.ofInt 1 := ⟨_, rfl⟩
                refine lv_iinc (v := x54) (lv' := [(4, .int x54), (3, .int 1), (0, .ref (ad 0)), (1, .int v4_1), (2, .int v4_2)]) hx hb dX12_fitting_75 hl (k := 4) rfl ex54.symm (by decide) rfl (fun ls hl => ?_)
                have ex54 : x54.toInt = v15_4.toInt + 1 := by rw [ex54]; exact wk_add (y := 1) (show -2147483648 ≤ v15_4.toInt + 1 by omega) (show v15_4.toInt + 1 ≤ 2147483647 by omega)
                refine lv_goto (tgt := 15) hx hb dX12_fitting_78 (by decide) ?_
                exact ih15 1 x54 H locs ls  (show 0 ≤ v4_1.toInt by omega) (show v4_1.toInt ≤ 127 by omega) (show 0 ≤ v4_2.toInt by omega) (show v4_2.toInt ≤ 6 by omega) (by decide) (by decide) (show 0 ≤ x54.toInt by omega) (show x54.toInt ≤ 12 by omega) (show (12 - x54.toInt).toNat < n15 by omega) hw   (lv_sub hl [2, 3, 4, 1, 0] rfl)
      refine lv_iload_n hx hb dX12_fitting_4 rfl (lv_at hl 2 rfl) ?_
      refine lv_bipush (v := 7) hx hb dX12_fitting_5 (by decide) ?_
      refine lv_icmp_ge (tgt := 101) hx hb dX12_fitting_7 (by decide) (fun c55 => ?_) (fun c55 => ?_)
      · have c55 : (7 : Int) ≤ v4_2.toInt := wk_le.mp c55
        refine lv_iload_n hx hb dX12_fitting_101 rfl (lv_at hl 1 rfl) ?_
        exact tk_iret hC hr hlocks hK ⟨rfl, ⟨(show 0 ≤ v4_1.toInt by omega), (show v4_1.toInt ≤ 127 by omega)⟩⟩ hw dX12_fitting_102
      · have c55 : v4_2.toInt < (7 : Int) := wk_leF c55
        refine lv_iconst (v := 1) hx hb dX12_fitting_10 (by decide) ?_
        refine lv_istore_n (lv' := [(3, .int 1), (0, .ref (ad 0)), (1, .int v4_1), (2, .int v4_2)]) hx hb dX12_fitting_11 rfl hl (by decide) rfl (fun ls hl => ?_)
        refine lv_iconst (v := 0) hx hb dX12_fitting_12 (by decide) ?_
        refine lv_istore (lv' := [(4, .int 0), (3, .int 1), (0, .ref (ad 0)), (1, .int v4_1), (2, .int v4_2)]) hx hb dX12_fitting_13 hl (by decide) rfl (fun ls hl => ?_)
        exact L15 ((12 - (0 : Int)).toNat + 1) 1 0 H locs ls  (show 0 ≤ v4_1.toInt by omega) (show v4_1.toInt ≤ 127 by omega) (show 0 ≤ v4_2.toInt by omega) (show v4_2.toInt ≤ 6 by omega) (by decide) (by decide) (by decide) (by decide) (Nat.lt_succ_self _) hw   (lv_sub hl [2, 3, 4, 1, 0] rfl)
  refine lv_iconst (v := 0) hx hb dX12_fitting_0 (by decide) ?_
  refine lv_istore_n (lv' := [(1, .int 0), (0, .ref (ad 0))]) hx hb dX12_fitting_1 rfl hl (by decide) rfl (fun ls hl => ?_)
  refine lv_iconst (v := 0) hx hb dX12_fitting_2 (by decide) ?_
  refine lv_istore_n (lv' := [(2, .int 0), (1, .int 0), (0, .ref (ad 0))]) hx hb dX12_fitting_3 rfl hl (by decide) rfl (fun ls hl => ?_)
  exact L4 ((7 - (0 : Int)).toNat + 1) 0 0 s.heap locs ls  (by decide) (by decide) (by decide) (by decide) (Nat.lt_succ_self _) hw   (lv_sub hl [2, 1, 0] rfl)
abbrev P_X12_isOf_8 (ad : Nat → Nat) (cy : Nat → ClassId) (B : Int) (qr : Nat) (s1 : Int) (a0 : Int32) (a1 : Int32) (w0 : va_W) : Int32 → va_W → Prop := fun r u => w0 = u ∧ ((r = 0 ∧ (¬ mOf a0 a1)) ∨ (r = 1 ∧ (mOf a0 a1)))
set_option maxHeartbeats 4000000 in
set_option maxRecDepth 100000 in
theorem k_X12_isOf_8 (l : Launch) (adK adV : Nat → Nat) (dC : Nat → ClassId) (dI : Nat → Nat → Nat) (cy : Nat → ClassId) (ad : Nat → Nat) (B : Int) (hB0 : 100000 ≤ B) (hB1 : B ≤ 1073741824) (qr : Nat) (s1 : Int)  (a0 : Int32) (ra0 : 1 ≤ a0.toInt) (ta0 : a0.toInt ≤ 127) (a1 : Int32) (ra1 : 0 ≤ a1.toInt) (ta1 : a1.toInt ≤ 6) (w0 : va_W) (sz : Nat) (hT : TW ksM ad cy B qr 12 w0)  : Met l yX12_isOf wsX12_isOf ({ frames := 1, cells := 0, slots := 0, locals := 12 }) (va_Pc [.int a0, .int a1] (wpreS adK adV dC dI cy sz w0)) (va_Qi (P_X12_isOf_8 ad cy B qr s1 a0 a1 w0) (fun u : va_W => wpost dC dI cy (va_A w0 sz) u) (va_A w0 sz)) 0 0 (va_A w0 sz) := by
  refine Met.ofW (cc := cX12_isOf) (maxL := 2) (ret := (some .boolean)) (by decide) rfl ?_
  intro p e s m args below meth c s₁ Bk hml hv
  obtain ⟨rfl, ⟨hsz, hP, hK, hD0⟩, hE, hSR⟩ := hv
  have hx := Bk.exec
  have hb := Bk.bytes
  have hr := Bk.returns
  have hlocks := Bk.notSynchronized
  have hC : CallFix p m c cX12_isOf 2 s _ wsX12_isOf RX12 := ⟨hx, hb, hml, findClass_of_methodNamed Bk.named, atoms_spec (ws := wsX12_isOf) Bk.pre⟩
  subst hsz
  have hD := hD0.self (sz := s.heap.size)
  generalize hAe : va_A w0 s.heap.size = A at hD hE ⊢
  have hA : ∀ q : Nat, s.heap.size ≤ q → A q := fun q h => by rw [← hAe]; exact Or.inr h
  have hw : Wd dC dI A s.heap s.heap [] w0 := ⟨hP, hD, va_S.rf⟩
  have hF : FE ksM ([] : List (Nat × Nat × Nat)) w0 w0 := FE.rf
  have hl := lv_entry ([.int a0, .int a1]) (n := 2) (Nat.le_of_ble_eq_true rfl)
  rw [lg_entry_eq]
  generalize (lg_sl ([.int a0, .int a1]) ++ List.replicate (2 - (lg_sl ([.int a0, .int a1])).length) Slot.unset).toArray = ls at hl ⊢
  have hl : lv_has ls 2 [(0, .int a0), (1, .int a1)] := hl
  generalize hloc : ([] : List Loc) = locs at hw ⊢
  refine lv_iload_n hx hb dX12_isOf_0 rfl (lv_at hl 0 rfl) ?_
  refine lv_iload_n hx hb dX12_isOf_1 rfl (lv_at hl 1 rfl) ?_
  refine lv_ishr hx hb dX12_isOf_2 ?_
  refine lv_topi (fun x1 ex1 => ?_)
  have bx1 : 0 ≤ x1.toInt ∧ x1.toInt ≤ a0.toInt := by rw [ex1]; exact wk_shr (by omega)
  refine lv_iconst (v := 1) hx hb dX12_isOf_3 (by decide) ?_
  refine lv_iand hx hb dX12_isOf_4 ?_
  refine lv_topi (fun x2 ex2 => ?_)
  have bx2 : 0 ≤ x2.toInt ∧ x2.toInt ≤ (1 : Int) := by rw [ex2]; exact wk_and (by decide)
  refine lv_iconst (v := 1) hx hb dX12_isOf_5 (by decide) ?_
  refine lv_icmp_ne (tgt := 13) hx hb dX12_isOf_6 (by decide) (fun c3 => ?_) (fun c3 => ?_)
  · have c3 : ¬ x2.toInt = (1 : Int) := wk_eqF c3
    refine lv_iconst (v := 0) hx hb dX12_isOf_13 (by decide) ?_
    exact tk_zret hC hr rfl hlocks hK ⟨rfl, (Or.inl ⟨rfl, (by unfold mOf; rw [← ex1, ← ex2]; omega)⟩)⟩ hw dX12_isOf_14
  · have c3 : x2.toInt = (1 : Int) := wk_eq.mp c3
    refine lv_iconst (v := 1) hx hb dX12_isOf_9 (by decide) ?_
    refine lv_goto (tgt := 14) hx hb dX12_isOf_10 (by decide) ?_
    exact tk_zret hC hr rfl hlocks hK ⟨rfl, (Or.inr ⟨rfl, (by unfold mOf; rw [← ex1, ← ex2]; omega)⟩)⟩ hw dX12_isOf_14
abbrev P_X12_mostAlike_1 (ad : Nat → Nat) (cy : Nat → ClassId) (B : Int) (qr : Nat) (s1 : Int) (a1 : Int32) (a2 : Int32) (w0 : va_W) : Int32 → va_W → Prop := fun r u => w0 = u ∧ ((0 ≤ r.toInt))
set_option maxHeartbeats 4000000 in
set_option maxRecDepth 100000 in
theorem k_X12_mostAlike_1 (l : Launch) (adK adV : Nat → Nat) (dC : Nat → ClassId) (dI : Nat → Nat → Nat) (cy : Nat → ClassId) (ad : Nat → Nat) (B : Int) (hB0 : 100000 ≤ B) (hB1 : B ≤ 1073741824) (qr : Nat) (s1 : Int)  (a1 : Int32) (ra1 : 0 ≤ a1.toInt) (ta1 : a1.toInt ≤ 11) (a2 : Int32) (ra2 : 1 ≤ a2.toInt) (ta2 : a2.toInt ≤ 127) (w0 : va_W) (sz : Nat) (hT : TW ksM ad cy B qr 12 w0)  : Met l yX12_mostAlike wsX12_mostAlike ({ frames := 2, cells := 0, slots := 0, locals := 34 }) (va_Pc [.ref (ad 0), .int a1, .int a2] (wpreS adK adV dC dI cy sz w0)) (va_Qi (P_X12_mostAlike_1 ad cy B qr s1 a1 a2 w0) (fun u : va_W => wpost dC dI cy (va_A w0 sz) u) (va_A w0 sz)) 0 0 (va_A w0 sz) := by
  refine Met.ofW (cc := cX12_mostAlike) (maxL := 7) (ret := (some .int)) (by decide) rfl ?_
  intro p e s m args below meth c s₁ Bk hml hv
  obtain ⟨rfl, ⟨hsz, hP, hK, hD0⟩, hE, hSR⟩ := hv
  have hx := Bk.exec
  have hb := Bk.bytes
  have hr := Bk.returns
  have hlocks := Bk.notSynchronized
  have hC : CallFix p m c cX12_mostAlike 7 s _ wsX12_mostAlike RX12 := ⟨hx, hb, hml, findClass_of_methodNamed Bk.named, atoms_spec (ws := wsX12_mostAlike) Bk.pre⟩
  subst hsz
  have hD := hD0.self (sz := s.heap.size)
  generalize hAe : va_A w0 s.heap.size = A at hD hE ⊢
  have hA : ∀ q : Nat, s.heap.size ≤ q → A q := fun q h => by rw [← hAe]; exact Or.inr h
  have hw : Wd dC dI A s.heap s.heap [] w0 := ⟨hP, hD, va_S.rf⟩
  have hF : FE ksM ([] : List (Nat × Nat × Nat)) w0 w0 := FE.rf
  have hl := lv_entry ([.ref (ad 0), .int a1, .int a2]) (n := 7) (Nat.le_of_ble_eq_true rfl)
  rw [lg_entry_eq]
  generalize (lg_sl ([.ref (ad 0), .int a1, .int a2]) ++ List.replicate (7 - (lg_sl ([.ref (ad 0), .int a1, .int a2])).length) Slot.unset).toArray = ls at hl ⊢
  have hl : lv_has ls 7 [(0, .ref (ad 0)), (1, .int a1), (2, .int a2)] := hl
  generalize hloc : ([] : List Loc) = locs at hw ⊢
  have L5 : ∀ (n5 : Nat) (v5_3 : Int32) (v5_4 : Int32) (H : Heap) (locs : List Loc) (ls : Array Slot), 0 ≤ a1.toInt → a1.toInt ≤ 11 → 1 ≤ a2.toInt → a2.toInt ≤ 127 → 0 ≤ v5_3.toInt → 0 ≤ v5_4.toInt → v5_4.toInt ≤ 4 → (4 - v5_4.toInt).toNat < n5 → Wd dC dI A s.heap H locs w0 → lv_has ls 7 [(0, .ref (ad 0)), (1, .int a1), (2, .int a2), (3, .int v5_3), (4, .int v5_4)] → W p l e ({ frames := 2, cells := 0, slots := 0, locals := 34 }) s m (List.toArray [.ref (ad 0), .int a1, .int a2]) below meth c H locs 0 0 (MQ below (va_Qi (P_X12_mostAlike_1 ad cy B qr s1 a1 a2 w0) (fun u : va_W => wpost dC dI cy A u) A) (List.toArray [.ref (ad 0), .int a1, .int a2]) s 0 0 A) (F0 m 5 ls []) := by
    intro n5
    induction n5 with
    | zero => intro v5_3 v5_4 H locs ls r1 t2 r3 t4 r5 r6 t7 hm5 hw hl; omega
    | succ n5 ih5 =>
      intro v5_3 v5_4 H locs ls r1 t2 r3 t4 r5 r6 t7 hm5 hw hl
      have L17 : ∀ (n17 : Nat) (v17_5 : Int32) (v17_6 : Int32) (H : Heap) (locs : List Loc) (ls : Array Slot), 0 ≤ a1.toInt → a1.toInt ≤ 11 → 1 ≤ a2.toInt → a2.toInt ≤ 127 → 0 ≤ v5_3.toInt → 0 ≤ v5_4.toInt → v5_4.toInt ≤ 3 → 0 ≤ v17_6.toInt → v17_6.toInt ≤ 7 → (7 - v17_6.toInt).toNat < n17 → Wd dC dI A s.heap H locs w0 → lv_has ls 7 [(0, .ref (ad 0)), (1, .int a1), (2, .int a2), (3, .int v5_3), (4, .int v5_4), (5, .int v17_5), (6, .int v17_6)] → W p l e ({ frames := 2, cells := 0, slots := 0, locals := 34 }) s m (List.toArray [.ref (ad 0), .int a1, .int a2]) below meth c H locs 0 0 (MQ below (va_Qi (P_X12_mostAlike_1 ad cy B qr s1 a1 a2 w0) (fun u : va_W => wpost dC dI cy A u) A) (List.toArray [.ref (ad 0), .int a1, .int a2]) s 0 0 A) (F0 m 17 ls []) := by
        intro n17
        induction n17 with
        | zero => intro v17_5 v17_6 H locs ls r8 t9 r10 t11 r12 r13 t14 r15 t16 hm17 hw hl; omega
        | succ n17 ih17 =>
          intro v17_5 v17_6 H locs ls r8 t9 r10 t11 r12 r13 t14 r15 t16 hm17 hw hl
          refine lv_iload hx hb dX12_mostAlike_17 (lv_at hl 6 rfl) ?_
          refine lv_bipush (v := 7) hx hb dX12_mostAlike_19 (by decide) ?_
          refine lv_icmp_ge (tgt := 63) hx hb dX12_mostAlike_21 (by decide) (fun c17 => ?_) (fun c17 => ?_)
          · have c17 : (7 : Int) ≤ v17_6.toInt := wk_le.mp c17
            refine lv_iload hx hb dX12_mostAlike_63 (lv_at hl 5 rfl) ?_
            refine lv_iload_n hx hb dX12_mostAlike_65 rfl (lv_at hl 3 rfl) ?_
            refine lv_icmp_le (tgt := 74) hx hb dX12_mostAlike_66 (by decide) (fun c18 => ?_) (fun c18 => ?_)
            · have c18 : v17_5.toInt ≤ v5_3.toInt := wk_le.mp c18
              refine lv_iload_n hx hb dX12_mostAlike_74 rfl (lv_at hl 3 rfl) ?_
              refine lv_istore_n (lv' := [(3, .int v5_3), (0, .ref (ad 0)), (1, .int a1), (2, .int a2), (4, .int v5_4), (5, .int v17_5), (6, .int v17_6)]) hx hb dX12_mostAlike_75 rfl hl (by decide) rfl (fun ls hl => ?_)
              obtain ⟨x19, ex19⟩ : ∃ y : Int32, y = v5_4 + Int32.ofInt 1 := ⟨_, rfl⟩
              refine lv_iinc (v := x19) (lv' := [(4, .int x19), (3, .int v5_3), (0, .ref (ad 0)), (1, .int a1), (2, .int a2), (5, .int v17_5), (6, .int v17_6)]) hx hb dX12_mostAlike_76 hl (k := 4) rfl ex19.symm (by decide) rfl (fun ls hl => ?_)
              have ex19 : x19.toInt = v5_4.toInt + 1 := by rw [ex19]; exact wk_add (y := 1) (show -2147483648 ≤ v5_4.toInt + 1 by omega) (show v5_4.toInt + 1 ≤ 2147483647 by omega)
              refine lv_goto (tgt := 5) hx hb dX12_mostAlike_79 (by decide) ?_
              exact ih5 v5_3 x19 H locs ls  (show 0 ≤ a1.toInt by omega) (show a1.toInt ≤ 11 by omega) (show 1 ≤ a2.toInt by omega) (show a2.toInt ≤ 127 by omega) (show 0 ≤ v5_3.toInt by omega) (show 0 ≤ x19.toInt by omega) (show x19.toInt ≤ 4 by omega) (show (4 - x19.toInt).toNat < n5 by omega) hw   (lv_sub hl [2, 3, 4, 1, 0] rfl)
            · have c18 : v5_3.toInt < v17_5.toInt := wk_leF c18
              refine lv_iload hx hb dX12_mostAlike_69 (lv_at hl 5 rfl) ?_
              refine lv_goto (tgt := 75) hx hb dX12_mostAlike_71 (by decide) ?_
              refine lv_istore_n (lv' := [(3, .int v17_5), (0, .ref (ad 0)), (1, .int a1), (2, .int a2), (4, .int v5_4), (5, .int v17_5), (6, .int v17_6)]) hx hb dX12_mostAlike_75 rfl hl (by decide) rfl (fun ls hl => ?_)
              obtain ⟨x20, ex20⟩ : ∃ y : Int32, y = v5_4 + Int32.ofInt 1 := ⟨_, rfl⟩
              refine lv_iinc (v := x20) (lv' := [(4, .int x20), (3, .int v17_5), (0, .ref (ad 0)), (1, .int a1), (2, .int a2), (5, .int v17_5), (6, .int v17_6)]) hx hb dX12_mostAlike_76 hl (k := 4) rfl ex20.symm (by decide) rfl (fun ls hl => ?_)
              have ex20 : x20.toInt = v5_4.toInt + 1 := by rw [ex20]; exact wk_add (y := 1) (show -2147483648 ≤ v5_4.toInt + 1 by omega) (show v5_4.toInt + 1 ≤ 2147483647 by omega)
              refine lv_goto (tgt := 5) hx hb dX12_mostAlike_79 (by decide) ?_
              exact ih5 v17_5 x20 H locs ls  (show 0 ≤ a1.toInt by omega) (show a1.toInt ≤ 11 by omega) (show 1 ≤ a2.toInt by omega) (show a2.toInt ≤ 127 by omega) (show 0 ≤ v17_5.toInt by omega) (show 0 ≤ x20.toInt by omega) (show x20.toInt ≤ 4 by omega) (show (4 - x20.toInt).toNat < n5 by omega) hw   (lv_sub hl [2, 3, 4, 1, 0] rfl)
          · have c17 : v17_6.toInt < (7 : Int) := wk_leF c17
            refine lv_iload hx hb dX12_mostAlike_24 (lv_at hl 5 rfl) ?_
            refine lv_iload_n hx hb dX12_mostAlike_26 rfl (lv_at hl 2 rfl) ?_
            refine lv_iload hx hb dX12_mostAlike_27 (lv_at hl 6 rfl) ?_
            refine tk_Si hC hK hw hT hA hE hSR (k_X12_isOf_8 l adK adV dC dI cy ad B (by omega) (by omega) qr s1   a2 (show 1 ≤ a2.toInt by omega) (show a2.toInt ≤ 127 by omega) v17_6 (show 0 ≤ v17_6.toInt by omega) (show v17_6.toInt ≤ 6 by omega) w0 H.size hT ) (va_cwS 2 hC.2.2.2.2 gX12_mostAlike_X12_isOf rfl rfl rfl (by decide +kernel) ⟨Nat.le_of_ble_eq_true rfl, Nat.le_of_ble_eq_true rfl⟩) rfl hl.1 rfl (Nat.le_of_ble_eq_true rfl) dX12_mostAlike_29 (fun r21 w23 H locs hp22 hw => ?_)
            obtain ⟨rfl, hg27⟩ := hp22
            rcases hg27 with ⟨rfl, hq25⟩ | ⟨rfl, hq26⟩
            · refine lv_if_eq (tgt := 53) hx hb dX12_mostAlike_32 (by decide) (fun _ => ?_) (fun c => absurd (by decide) c)
              refine lv_iconst (v := 0) hx hb dX12_mostAlike_53 (by decide) ?_
              refine lv_iadd hx hb dX12_mostAlike_54 ?_
              have nx28 := wk_i32 v17_5
              refine lv_topi (fun x29 ex29 => ?_)
              have ex29 : x29.toInt = v17_5.toInt + (0 : Int) := by rw [ex29]; exact wk_add (show (-2147483648) ≤ v17_5.toInt + (0 : Int) by omega) (show v17_5.toInt + (0 : Int) ≤ 2147483647 by omega)
              refine lv_istore (lv' := [(5, .int x29), (0, .ref (ad 0)), (1, .int a1), (2, .int a2), (3, .int v5_3), (4, .int v5_4), (6, .int v17_6)]) hx hb dX12_mostAlike_55 hl (by decide) rfl (fun ls hl => ?_)
              obtain ⟨x30, ex30⟩ : ∃ y : Int32, y = v17_6 + Int32.ofInt 1 := ⟨_, rfl⟩
              refine lv_iinc (v := x30) (lv' := [(6, .int x30), (5, .int x29), (0, .ref (ad 0)), (1, .int a1), (2, .int a2), (3, .int v5_3), (4, .int v5_4)]) hx hb dX12_mostAlike_57 hl (k := 6) rfl ex30.symm (by decide) rfl (fun ls hl => ?_)
              have ex30 : x30.toInt = v17_6.toInt + 1 := by rw [ex30]; exact wk_add (y := 1) (show -2147483648 ≤ v17_6.toInt + 1 by omega) (show v17_6.toInt + 1 ≤ 2147483647 by omega)
              refine lv_goto (tgt := 17) hx hb dX12_mostAlike_60 (by decide) ?_
              exact ih17 x29 x30 H locs ls  (show 0 ≤ a1.toInt by omega) (show a1.toInt ≤ 11 by omega) (show 1 ≤ a2.toInt by omega) (show a2.toInt ≤ 127 by omega) (show 0 ≤ v5_3.toInt by omega) (show 0 ≤ v5_4.toInt by omega) (show v5_4.toInt ≤ 3 by omega) (show 0 ≤ x30.toInt by omega) (show x30.toInt ≤ 7 by omega) (show (7 - x30.toInt).toNat < n17 by omega) hw   (lv_sub hl [2, 3, 4, 5, 6, 1, 0] rfl)
            · refine lv_if_eq (tgt := 53) hx hb dX12_mostAlike_32 (by decide) (fun c => absurd c (by decide)) (fun _ => ?_)
              refine lv_aload_n hx hb dX12_mostAlike_35 rfl (lv_at hl 0 rfl) ?_
              refine lv_iload_n hx hb dX12_mostAlike_36 rfl (lv_at hl 1 rfl) ?_
              refine lv_iconst (v := 3) hx hb dX12_mostAlike_37 (by decide) ?_
              refine lv_iload hx hb dX12_mostAlike_38 (lv_at hl 6 rfl) ?_
              refine lv_iadd hx hb dX12_mostAlike_40 ?_
              refine lv_topi (fun x31 ex31 => ?_)
              have ex31 : x31.toInt = (3 : Int) + v17_6.toInt := by rw [ex31]; exact wk_add (show (-2147483648) ≤ (3 : Int) + v17_6.toInt by omega) (show (3 : Int) + v17_6.toInt ≤ 2147483647 by omega)
              refine tk_Vi hC hK hw hT hA hE hSR kM_at0 (by decide) rfl (k_X12_streetOf_4 l adK adV dC dI cy ad B (by omega) (by omega) qr s1   a1 (show 0 ≤ a1.toInt by omega) (show a1.toInt ≤ 11 by omega) x31 (show 3 ≤ x31.toInt by omega) (show x31.toInt ≤ 9 by omega) w0 H.size hT ) (cwV 2 hC.2.2.2.2 gX12_mostAlike_X12_streetOf rfl rfl rfl (by decide +kernel) ⟨Nat.le_of_ble_eq_true rfl, Nat.le_of_ble_eq_true rfl⟩) rfl hl.1 rfl (Nat.le_of_ble_eq_true rfl) dX12_mostAlike_41 (fun r32 w34 H locs hp33 hw => ?_)
              obtain ⟨rfl, hg39⟩ := hp33
              obtain ⟨g36, g37, c38⟩ := hg39
              refine lv_iload hx hb dX12_mostAlike_44 (lv_at hl 4 rfl) ?_
              refine lv_icmp_ne (tgt := 53) hx hb dX12_mostAlike_46 (by decide) (fun c40 => ?_) (fun c40 => ?_)
              · have c40 : ¬ r32.toInt = v5_4.toInt := wk_eqF c40
                refine lv_iconst (v := 0) hx hb dX12_mostAlike_53 (by decide) ?_
                refine lv_iadd hx hb dX12_mostAlike_54 ?_
                have nx41 := wk_i32 v17_5
                refine lv_topi (fun x42 ex42 => ?_)
                have ex42 : x42.toInt = v17_5.toInt + (0 : Int) := by rw [ex42]; exact wk_add (show (-2147483648) ≤ v17_5.toInt + (0 : Int) by omega) (show v17_5.toInt + (0 : Int) ≤ 2147483647 by omega)
                refine lv_istore (lv' := [(5, .int x42), (0, .ref (ad 0)), (1, .int a1), (2, .int a2), (3, .int v5_3), (4, .int v5_4), (6, .int v17_6)]) hx hb dX12_mostAlike_55 hl (by decide) rfl (fun ls hl => ?_)
                obtain ⟨x43, ex43⟩ : ∃ y : Int32, y = v17_6 + Int32.ofInt 1 := ⟨_, rfl⟩
                refine lv_iinc (v := x43) (lv' := [(6, .int x43), (5, .int x42), (0, .ref (ad 0)), (1, .int a1), (2, .int a2), (3, .int v5_3), (4, .int v5_4)]) hx hb dX12_mostAlike_57 hl (k := 6) rfl ex43.symm (by decide) rfl (fun ls hl => ?_)
                have ex43 : x43.toInt = v17_6.toInt + 1 := by rw [ex43]; exact wk_add (y := 1) (show -2147483648 ≤ v17_6.toInt + 1 by omega) (show v17_6.toInt + 1 ≤ 2147483647 by omega)
                refine lv_goto (tgt := 17) hx hb dX12_mostAlike_60 (by decide) ?_
                exact ih17 x42 x43 H locs ls  (show 0 ≤ a1.toInt by omega) (show a1.toInt ≤ 11 by omega) (show 1 ≤ a2.toInt by omega) (show a2.toInt ≤ 127 by omega) (show 0 ≤ v5_3.toInt by omega) (show 0 ≤ v5_4.toInt by omega) (show v5_4.toInt ≤ 3 by omega) (show 0 ≤ x43.toInt by omega) (show x43.toInt ≤ 7 by omega) (show (7 - x43.toInt).toNat < n17 by omega) hw   (lv_sub hl [2, 3, 4, 5, 6, 1, 0] rfl)
              · have c40 : r32.toInt = v5_4.toInt := wk_eq.mp c40
                refine lv_iconst (v := 1) hx hb dX12_mostAlike_49 (by decide) ?_
                refine lv_goto (tgt := 54) hx hb dX12_mostAlike_50 (by decide) ?_
                refine lv_iadd hx hb dX12_mostAlike_54 ?_
                have nx44 := wk_i32 v17_5
                refine lv_topi (fun x45 ex45 => ?_)
                refine lv_istore (lv' := [(5, .int x45), (0, .ref (ad 0)), (1, .int a1), (2, .int a2), (3, .int v5_3), (4, .int v5_4), (6, .int v17_6)]) hx hb dX12_mostAlike_55 hl (by decide) rfl (fun ls hl => ?_)
                obtain ⟨x46, ex46⟩ : ∃ y : Int32, y = v17_6 + Int32.ofInt 1 := ⟨_, rfl⟩
                refine lv_iinc (v := x46) (lv' := [(6, .int x46), (5, .int x45), (0, .ref (ad 0)), (1, .int a1), (2, .int a2), (3, .int v5_3), (4, .int v5_4)]) hx hb dX12_mostAlike_57 hl (k := 6) rfl ex46.symm (by decide) rfl (fun ls hl => ?_)
                have ex46 : x46.toInt = v17_6.toInt + 1 := by rw [ex46]; exact wk_add (y := 1) (show -2147483648 ≤ v17_6.toInt + 1 by omega) (show v17_6.toInt + 1 ≤ 2147483647 by omega)
                refine lv_goto (tgt := 17) hx hb dX12_mostAlike_60 (by decide) ?_
                exact ih17 x45 x46 H locs ls  (show 0 ≤ a1.toInt by omega) (show a1.toInt ≤ 11 by omega) (show 1 ≤ a2.toInt by omega) (show a2.toInt ≤ 127 by omega) (show 0 ≤ v5_3.toInt by omega) (show 0 ≤ v5_4.toInt by omega) (show v5_4.toInt ≤ 3 by omega) (show 0 ≤ x46.toInt by omega) (show x46.toInt ≤ 7 by omega) (show (7 - x46.toInt).toNat < n17 by omega) hw   (lv_sub hl [2, 3, 4, 5, 6, 1, 0] rfl)
      refine lv_iload hx hb dX12_mostAlike_5 (lv_at hl 4 rfl) ?_
      refine lv_iconst (v := 4) hx hb dX12_mostAlike_7 (by decide) ?_
      refine lv_icmp_ge (tgt := 82) hx hb dX12_mostAlike_8 (by decide) (fun c47 => ?_) (fun c47 => ?_)
      · have c47 : (4 : Int) ≤ v5_4.toInt := wk_le.mp c47
        refine lv_iload_n hx hb dX12_mostAlike_82 rfl (lv_at hl 3 rfl) ?_
        exact tk_iret hC hr hlocks hK ⟨rfl, (show 0 ≤ v5_3.toInt by omega)⟩ hw dX12_mostAlike_83
      · have c47 : v5_4.toInt < (4 : Int) := wk_leF c47
        refine lv_iconst (v := 0) hx hb dX12_mostAlike_11 (by decide) ?_
        refine lv_istore (lv' := [(5, .int 0), (0, .ref (ad 0)), (1, .int a1), (2, .int a2), (3, .int v5_3), (4, .int v5_4)]) hx hb dX12_mostAlike_12 hl (by decide) rfl (fun ls hl => ?_)
        refine lv_iconst (v := 0) hx hb dX12_mostAlike_14 (by decide) ?_
        refine lv_istore (lv' := [(6, .int 0), (5, .int 0), (0, .ref (ad 0)), (1, .int a1), (2, .int a2), (3, .int v5_3), (4, .int v5_4)]) hx hb dX12_mostAlike_15 hl (by decide) rfl (fun ls hl => ?_)
        exact L17 ((7 - (0 : Int)).toNat + 1) 0 0 H locs ls  (show 0 ≤ a1.toInt by omega) (show a1.toInt ≤ 11 by omega) (show 1 ≤ a2.toInt by omega) (show a2.toInt ≤ 127 by omega) (show 0 ≤ v5_3.toInt by omega) (show 0 ≤ v5_4.toInt by omega) (show v5_4.toInt ≤ 3 by omega) (by decide) (by decide) (Nat.lt_succ_self _) hw   (lv_sub hl [2, 3, 4, 5, 6, 1, 0] rfl)
  refine lv_iconst (v := 0) hx hb dX12_mostAlike_0 (by decide) ?_
  refine lv_istore_n (lv' := [(3, .int 0), (0, .ref (ad 0)), (1, .int a1), (2, .int a2)]) hx hb dX12_mostAlike_1 rfl hl (by decide) rfl (fun ls hl => ?_)
  refine lv_iconst (v := 0) hx hb dX12_mostAlike_2 (by decide) ?_
  refine lv_istore (lv' := [(4, .int 0), (3, .int 0), (0, .ref (ad 0)), (1, .int a1), (2, .int a2)]) hx hb dX12_mostAlike_3 hl (by decide) rfl (fun ls hl => ?_)
  exact L5 ((4 - (0 : Int)).toNat + 1) 0 0 s.heap locs ls  (show 0 ≤ a1.toInt by omega) (show a1.toInt ≤ 11 by omega) (show 1 ≤ a2.toInt by omega) (show a2.toInt ≤ 127 by omega) (by decide) (by decide) (by decide) (Nat.lt_succ_self _) hw   (lv_sub hl [2, 3, 4, 1, 0] rfl)
abbrev P_X12_streetOf_10 (ad : Nat → Nat) (cy : Nat → ClassId) (B : Int) (qr : Nat) (s1 : Int) (a1 : Int32) (a2 : Int32) (w0 : va_W) : Int32 → va_W → Prop := fun r u => w0 = u ∧ ((0 ≤ r.toInt ∧ r.toInt ≤ 9 ∧ gi u 12 (10 * a1.toInt + 1 * a2.toInt + 10).toNat = r))
set_option maxHeartbeats 4000000 in
set_option maxRecDepth 100000 in
theorem k_X12_streetOf_10 (l : Launch) (adK adV : Nat → Nat) (dC : Nat → ClassId) (dI : Nat → Nat → Nat) (cy : Nat → ClassId) (ad : Nat → Nat) (B : Int) (hB0 : 100000 ≤ B) (hB1 : B ≤ 1073741824) (qr : Nat) (s1 : Int)  (a1 : Int32) (ra1 : 1 ≤ a1.toInt) (ta1 : a1.toInt ≤ 11) (a2 : Int32) (ra2 : 3 ≤ a2.toInt) (ta2 : a2.toInt ≤ 9) (w0 : va_W) (sz : Nat) (hT : TW ksM ad cy B qr 12 w0)  : Met l yX12_streetOf wsX12_streetOf ({ frames := 1, cells := 0, slots := 0, locals := 12 }) (va_Pc [.ref (ad 0), .int a1, .int a2] (wpreS adK adV dC dI cy sz w0)) (va_Qi (P_X12_streetOf_10 ad cy B qr s1 a1 a2 w0) (fun u : va_W => wpost dC dI cy (va_A w0 sz) u) (va_A w0 sz)) 0 0 (va_A w0 sz) := by
  refine Met.ofW (cc := cX12_streetOf) (maxL := 3) (ret := (some .int)) (by decide) rfl ?_
  intro p e s m args below meth c s₁ Bk hml hv
  obtain ⟨rfl, ⟨hsz, hP, hK, hD0⟩, hE, hSR⟩ := hv
  have hx := Bk.exec
  have hb := Bk.bytes
  have hr := Bk.returns
  have hlocks := Bk.notSynchronized
  have hC : CallFix p m c cX12_streetOf 3 s _ wsX12_streetOf RX12 := ⟨hx, hb, hml, findClass_of_methodNamed Bk.named, atoms_spec (ws := wsX12_streetOf) Bk.pre⟩
  subst hsz
  have hD := hD0.self (sz := s.heap.size)
  generalize hAe : va_A w0 s.heap.size = A at hD hE ⊢
  have hA : ∀ q : Nat, s.heap.size ≤ q → A q := fun q h => by rw [← hAe]; exact Or.inr h
  have hw : Wd dC dI A s.heap s.heap [] w0 := ⟨hP, hD, va_S.rf⟩
  have hF : FE ksM ([] : List (Nat × Nat × Nat)) w0 w0 := FE.rf
  have hl := lv_entry ([.ref (ad 0), .int a1, .int a2]) (n := 3) (Nat.le_of_ble_eq_true rfl)
  rw [lg_entry_eq]
  generalize (lg_sl ([.ref (ad 0), .int a1, .int a2]) ++ List.replicate (3 - (lg_sl ([.ref (ad 0), .int a1, .int a2])).length) Slot.unset).toArray = ls at hl ⊢
  have hl : lv_has ls 3 [(0, .ref (ad 0)), (1, .int a1), (2, .int a2)] := hl
  generalize hloc : ([] : List Loc) = locs at hw ⊢
  have hinX12 : ∀ w ∈ u_ws RX12 TX12 42, w ∈ wsX12_streetOf := fun _ h => List.mem_cons_of_mem _ (List.mem_append_right _ (h))
  refine lv_aload_n hx hb dX12_streetOf_0 rfl (lv_at hl 0 rfl) ?_
  refine tk_getA hC hK hw hT hinX12 kM_at0 (by decide) rfl 26 (by decide) (List.mem_of_getElem? (i := 1) rfl) rfl rfl dX12_streetOf_1 ?_
  refine lv_bipush (v := 10) hx hb dX12_streetOf_4 (by decide) ?_
  refine lv_bipush (v := 10) hx hb dX12_streetOf_6 (by decide) ?_
  refine lv_iload_n hx hb dX12_streetOf_8 rfl (lv_at hl 1 rfl) ?_
  refine lv_imul hx hb dX12_streetOf_9 ?_
  refine lv_topi (fun x1 ex1 => ?_)
  have ex1 : x1.toInt = (10 : Int) * a1.toInt := by rw [ex1]; exact wk_mul (show (-2147483648) ≤ (10 : Int) * a1.toInt by omega) (show (10 : Int) * a1.toInt ≤ 2147483647 by omega)
  refine lv_iadd hx hb dX12_streetOf_10 ?_
  refine lv_topi (fun x2 ex2 => ?_)
  have ex2 : x2.toInt = (10 : Int) + x1.toInt := by rw [ex2]; exact wk_add (show (-2147483648) ≤ (10 : Int) + x1.toInt by omega) (show (10 : Int) + x1.toInt ≤ 2147483647 by omega)
  refine lv_iload_n hx hb dX12_streetOf_11 rfl (lv_at hl 2 rfl) ?_
  refine lv_iadd hx hb dX12_streetOf_12 ?_
  refine lv_topi (fun x3 ex3 => ?_)
  have ex3 : x3.toInt = x2.toInt + a2.toInt := by rw [ex3]; exact wk_add (show (-2147483648) ≤ x2.toInt + a2.toInt by omega) (show x2.toInt + a2.toInt ≤ 2147483647 by omega)
  refine tk_ialdR hC hK hw hT kM_at12 rfl (show 0 ≤ x3.toInt by omega) (show x3.toInt < 296 by omega) dX12_streetOf_13 (fun x4 c5 Ex4 => ?_)
  have c5 : gi w0 12 (10 * a1.toInt + 1 * a2.toInt + 10).toNat = x4 := (congrArg (gi w0 12) (congrArg Int.toNat (show 10 * a1.toInt + 1 * a2.toInt + 10 = x3.toInt by omega))).trans c5
  have bx4 := tk_rgI rfl 23 1 107 0 9 (by decide +kernel) ⟨(x3.toInt - 23).toNat, by omega, show x3.toInt.toNat = 23 + 1 * (x3.toInt - 23).toNat by omega⟩ Ex4
  exact tk_iret hC hr hlocks hK ⟨rfl, ⟨(show 0 ≤ x4.toInt by omega), (show x4.toInt ≤ 9 by omega), c5⟩⟩ hw dX12_streetOf_14
abbrev P_X12_mostAlike_2 (ad : Nat → Nat) (cy : Nat → ClassId) (B : Int) (qr : Nat) (s1 : Int) (a1 : Int32) (a2 : Int32) (w0 : va_W) : Int32 → va_W → Prop := fun r u => w0 = u ∧ ((0 ≤ r.toInt))
set_option maxHeartbeats 4000000 in
set_option maxRecDepth 100000 in
theorem k_X12_mostAlike_2 (l : Launch) (adK adV : Nat → Nat) (dC : Nat → ClassId) (dI : Nat → Nat → Nat) (cy : Nat → ClassId) (ad : Nat → Nat) (B : Int) (hB0 : 100000 ≤ B) (hB1 : B ≤ 1073741824) (qr : Nat) (s1 : Int)  (a1 : Int32) (ra1 : 1 ≤ a1.toInt) (ta1 : a1.toInt ≤ 11) (a2 : Int32) (ra2 : 1 ≤ a2.toInt) (ta2 : a2.toInt ≤ 127) (w0 : va_W) (sz : Nat) (hT : TW ksM ad cy B qr 12 w0)  : Met l yX12_mostAlike wsX12_mostAlike ({ frames := 2, cells := 0, slots := 0, locals := 34 }) (va_Pc [.ref (ad 0), .int a1, .int a2] (wpreS adK adV dC dI cy sz w0)) (va_Qi (P_X12_mostAlike_2 ad cy B qr s1 a1 a2 w0) (fun u : va_W => wpost dC dI cy (va_A w0 sz) u) (va_A w0 sz)) 0 0 (va_A w0 sz) := by
  refine Met.ofW (cc := cX12_mostAlike) (maxL := 7) (ret := (some .int)) (by decide) rfl ?_
  intro p e s m args below meth c s₁ Bk hml hv
  obtain ⟨rfl, ⟨hsz, hP, hK, hD0⟩, hE, hSR⟩ := hv
  have hx := Bk.exec
  have hb := Bk.bytes
  have hr := Bk.returns
  have hlocks := Bk.notSynchronized
  have hC : CallFix p m c cX12_mostAlike 7 s _ wsX12_mostAlike RX12 := ⟨hx, hb, hml, findClass_of_methodNamed Bk.named, atoms_spec (ws := wsX12_mostAlike) Bk.pre⟩
  subst hsz
  have hD := hD0.self (sz := s.heap.size)
  generalize hAe : va_A w0 s.heap.size = A at hD hE ⊢
  have hA : ∀ q : Nat, s.heap.size ≤ q → A q := fun q h => by rw [← hAe]; exact Or.inr h
  have hw : Wd dC dI A s.heap s.heap [] w0 := ⟨hP, hD, va_S.rf⟩
  have hF : FE ksM ([] : List (Nat × Nat × Nat)) w0 w0 := FE.rf
  have hl := lv_entry ([.ref (ad 0), .int a1, .int a2]) (n := 7) (Nat.le_of_ble_eq_true rfl)
  rw [lg_entry_eq]
  generalize (lg_sl ([.ref (ad 0), .int a1, .int a2]) ++ List.replicate (7 - (lg_sl ([.ref (ad 0), .int a1, .int a2])).length) Slot.unset).toArray = ls at hl ⊢
  have hl : lv_has ls 7 [(0, .ref (ad 0)), (1, .int a1), (2, .int a2)] := hl
  generalize hloc : ([] : List Loc) = locs at hw ⊢
  have L5 : ∀ (n5 : Nat) (v5_3 : Int32) (v5_4 : Int32) (H : Heap) (locs : List Loc) (ls : Array Slot), 1 ≤ a1.toInt → a1.toInt ≤ 11 → 1 ≤ a2.toInt → a2.toInt ≤ 127 → 0 ≤ v5_3.toInt → 0 ≤ v5_4.toInt → v5_4.toInt ≤ 4 → (4 - v5_4.toInt).toNat < n5 → Wd dC dI A s.heap H locs w0 → lv_has ls 7 [(0, .ref (ad 0)), (1, .int a1), (2, .int a2), (3, .int v5_3), (4, .int v5_4)] → W p l e ({ frames := 2, cells := 0, slots := 0, locals := 34 }) s m (List.toArray [.ref (ad 0), .int a1, .int a2]) below meth c H locs 0 0 (MQ below (va_Qi (P_X12_mostAlike_2 ad cy B qr s1 a1 a2 w0) (fun u : va_W => wpost dC dI cy A u) A) (List.toArray [.ref (ad 0), .int a1, .int a2]) s 0 0 A) (F0 m 5 ls []) := by
    intro n5
    induction n5 with
    | zero => intro v5_3 v5_4 H locs ls r1 t2 r3 t4 r5 r6 t7 hm5 hw hl; omega
    | succ n5 ih5 =>
      intro v5_3 v5_4 H locs ls r1 t2 r3 t4 r5 r6 t7 hm5 hw hl
      have L17 : ∀ (n17 : Nat) (v17_5 : Int32) (v17_6 : Int32) (H : Heap) (locs : List Loc) (ls : Array Slot), 1 ≤ a1.toInt → a1.toInt ≤ 11 → 1 ≤ a2.toInt → a2.toInt ≤ 127 → 0 ≤ v5_3.toInt → 0 ≤ v5_4.toInt → v5_4.toInt ≤ 3 → 0 ≤ v17_6.toInt → v17_6.toInt ≤ 7 → (7 - v17_6.toInt).toNat < n17 → Wd dC dI A s.heap H locs w0 → lv_has ls 7 [(0, .ref (ad 0)), (1, .int a1), (2, .int a2), (3, .int v5_3), (4, .int v5_4), (5, .int v17_5), (6, .int v17_6)] → W p l e ({ frames := 2, cells := 0, slots := 0, locals := 34 }) s m (List.toArray [.ref (ad 0), .int a1, .int a2]) below meth c H locs 0 0 (MQ below (va_Qi (P_X12_mostAlike_2 ad cy B qr s1 a1 a2 w0) (fun u : va_W => wpost dC dI cy A u) A) (List.toArray [.ref (ad 0), .int a1, .int a2]) s 0 0 A) (F0 m 17 ls []) := by
        intro n17
        induction n17 with
        | zero => intro v17_5 v17_6 H locs ls r8 t9 r10 t11 r12 r13 t14 r15 t16 hm17 hw hl; omega
        | succ n17 ih17 =>
          intro v17_5 v17_6 H locs ls r8 t9 r10 t11 r12 r13 t14 r15 t16 hm17 hw hl
          refine lv_iload hx hb dX12_mostAlike_17 (lv_at hl 6 rfl) ?_
          refine lv_bipush (v := 7) hx hb dX12_mostAlike_19 (by decide) ?_
          refine lv_icmp_ge (tgt := 63) hx hb dX12_mostAlike_21 (by decide) (fun c17 => ?_) (fun c17 => ?_)
          · have c17 : (7 : Int) ≤ v17_6.toInt := wk_le.mp c17
            refine lv_iload hx hb dX12_mostAlike_63 (lv_at hl 5 rfl) ?_
            refine lv_iload_n hx hb dX12_mostAlike_65 rfl (lv_at hl 3 rfl) ?_
            refine lv_icmp_le (tgt := 74) hx hb dX12_mostAlike_66 (by decide) (fun c18 => ?_) (fun c18 => ?_)
            · have c18 : v17_5.toInt ≤ v5_3.toInt := wk_le.mp c18
              refine lv_iload_n hx hb dX12_mostAlike_74 rfl (lv_at hl 3 rfl) ?_
              refine lv_istore_n (lv' := [(3, .int v5_3), (0, .ref (ad 0)), (1, .int a1), (2, .int a2), (4, .int v5_4), (5, .int v17_5), (6, .int v17_6)]) hx hb dX12_mostAlike_75 rfl hl (by decide) rfl (fun ls hl => ?_)
              obtain ⟨x19, ex19⟩ : ∃ y : Int32, y = v5_4 + Int32.ofInt 1 := ⟨_, rfl⟩
              refine lv_iinc (v := x19) (lv' := [(4, .int x19), (3, .int v5_3), (0, .ref (ad 0)), (1, .int a1), (2, .int a2), (5, .int v17_5), (6, .int v17_6)]) hx hb dX12_mostAlike_76 hl (k := 4) rfl ex19.symm (by decide) rfl (fun ls hl => ?_)
              have ex19 : x19.toInt = v5_4.toInt + 1 := by rw [ex19]; exact wk_add (y := 1) (show -2147483648 ≤ v5_4.toInt + 1 by omega) (show v5_4.toInt + 1 ≤ 2147483647 by omega)
              refine lv_goto (tgt := 5) hx hb dX12_mostAlike_79 (by decide) ?_
              exact ih5 v5_3 x19 H locs ls  (show 1 ≤ a1.toInt by omega) (show a1.toInt ≤ 11 by omega) (show 1 ≤ a2.toInt by omega) (show a2.toInt ≤ 127 by omega) (show 0 ≤ v5_3.toInt by omega) (show 0 ≤ x19.toInt by omega) (show x19.toInt ≤ 4 by omega) (show (4 - x19.toInt).toNat < n5 by omega) hw   (lv_sub hl [2, 3, 4, 1, 0] rfl)
            · have c18 : v5_3.toInt < v17_5.toInt := wk_leF c18
              refine lv_iload hx hb dX12_mostAlike_69 (lv_at hl 5 rfl) ?_
              refine lv_goto (tgt := 75) hx hb dX12_mostAlike_71 (by decide) ?_
              refine lv_istore_n (lv' := [(3, .int v17_5), (0, .ref (ad 0)), (1, .int a1), (2, .int a2), (4, .int v5_4), (5, .int v17_5), (6, .int v17_6)]) hx hb dX12_mostAlike_75 rfl hl (by decide) rfl (fun ls hl => ?_)
              obtain ⟨x20, ex20⟩ : ∃ y : Int32, y = v5_4 + Int32.ofInt 1 := ⟨_, rfl⟩
              refine lv_iinc (v := x20) (lv' := [(4, .int x20), (3, .int v17_5), (0, .ref (ad 0)), (1, .int a1), (2, .int a2), (5, .int v17_5), (6, .int v17_6)]) hx hb dX12_mostAlike_76 hl (k := 4) rfl ex20.symm (by decide) rfl (fun ls hl => ?_)
              have ex20 : x20.toInt = v5_4.toInt + 1 := by rw [ex20]; exact wk_add (y := 1) (show -2147483648 ≤ v5_4.toInt + 1 by omega) (show v5_4.toInt + 1 ≤ 2147483647 by omega)
              refine lv_goto (tgt := 5) hx hb dX12_mostAlike_79 (by decide) ?_
              exact ih5 v17_5 x20 H locs ls  (show 1 ≤ a1.toInt by omega) (show a1.toInt ≤ 11 by omega) (show 1 ≤ a2.toInt by omega) (show a2.toInt ≤ 127 by omega) (show 0 ≤ v17_5.toInt by omega) (show 0 ≤ x20.toInt by omega) (show x20.toInt ≤ 4 by omega) (show (4 - x20.toInt).toNat < n5 by omega) hw   (lv_sub hl [2, 3, 4, 1, 0] rfl)
          · have c17 : v17_6.toInt < (7 : Int) := wk_leF c17
            refine lv_iload hx hb dX12_mostAlike_24 (lv_at hl 5 rfl) ?_
            refine lv_iload_n hx hb dX12_mostAlike_26 rfl (lv_at hl 2 rfl) ?_
            refine lv_iload hx hb dX12_mostAlike_27 (lv_at hl 6 rfl) ?_
            refine tk_Si hC hK hw hT hA hE hSR (k_X12_isOf_8 l adK adV dC dI cy ad B (by omega) (by omega) qr s1   a2 (show 1 ≤ a2.toInt by omega) (show a2.toInt ≤ 127 by omega) v17_6 (show 0 ≤ v17_6.toInt by omega) (show v17_6.toInt ≤ 6 by omega) w0 H.size hT ) (va_cwS 2 hC.2.2.2.2 gX12_mostAlike_X12_isOf rfl rfl rfl (by decide +kernel) ⟨Nat.le_of_ble_eq_true rfl, Nat.le_of_ble_eq_true rfl⟩) rfl hl.1 rfl (Nat.le_of_ble_eq_true rfl) dX12_mostAlike_29 (fun r21 w23 H locs hp22 hw => ?_)
            obtain ⟨rfl, hg27⟩ := hp22
            rcases hg27 with ⟨rfl, hq25⟩ | ⟨rfl, hq26⟩
            · refine lv_if_eq (tgt := 53) hx hb dX12_mostAlike_32 (by decide) (fun _ => ?_) (fun c => absurd (by decide) c)
              refine lv_iconst (v := 0) hx hb dX12_mostAlike_53 (by decide) ?_
              refine lv_iadd hx hb dX12_mostAlike_54 ?_
              have nx28 := wk_i32 v17_5
              refine lv_topi (fun x29 ex29 => ?_)
              have ex29 : x29.toInt = v17_5.toInt + (0 : Int) := by rw [ex29]; exact wk_add (show (-2147483648) ≤ v17_5.toInt + (0 : Int) by omega) (show v17_5.toInt + (0 : Int) ≤ 2147483647 by omega)
              refine lv_istore (lv' := [(5, .int x29), (0, .ref (ad 0)), (1, .int a1), (2, .int a2), (3, .int v5_3), (4, .int v5_4), (6, .int v17_6)]) hx hb dX12_mostAlike_55 hl (by decide) rfl (fun ls hl => ?_)
              obtain ⟨x30, ex30⟩ : ∃ y : Int32, y = v17_6 + Int32.ofInt 1 := ⟨_, rfl⟩
              refine lv_iinc (v := x30) (lv' := [(6, .int x30), (5, .int x29), (0, .ref (ad 0)), (1, .int a1), (2, .int a2), (3, .int v5_3), (4, .int v5_4)]) hx hb dX12_mostAlike_57 hl (k := 6) rfl ex30.symm (by decide) rfl (fun ls hl => ?_)
              have ex30 : x30.toInt = v17_6.toInt + 1 := by rw [ex30]; exact wk_add (y := 1) (show -2147483648 ≤ v17_6.toInt + 1 by omega) (show v17_6.toInt + 1 ≤ 2147483647 by omega)
              refine lv_goto (tgt := 17) hx hb dX12_mostAlike_60 (by decide) ?_
              exact ih17 x29 x30 H locs ls  (show 1 ≤ a1.toInt by omega) (show a1.toInt ≤ 11 by omega) (show 1 ≤ a2.toInt by omega) (show a2.toInt ≤ 127 by omega) (show 0 ≤ v5_3.toInt by omega) (show 0 ≤ v5_4.toInt by omega) (show v5_4.toInt ≤ 3 by omega) (show 0 ≤ x30.toInt by omega) (show x30.toInt ≤ 7 by omega) (show (7 - x30.toInt).toNat < n17 by omega) hw   (lv_sub hl [2, 3, 4, 5, 6, 1, 0] rfl)
            · refine lv_if_eq (tgt := 53) hx hb dX12_mostAlike_32 (by decide) (fun c => absurd c (by decide)) (fun _ => ?_)
              refine lv_aload_n hx hb dX12_mostAlike_35 rfl (lv_at hl 0 rfl) ?_
              refine lv_iload_n hx hb dX12_mostAlike_36 rfl (lv_at hl 1 rfl) ?_
              refine lv_iconst (v := 3) hx hb dX12_mostAlike_37 (by decide) ?_
              refine lv_iload hx hb dX12_mostAlike_38 (lv_at hl 6 rfl) ?_
              refine lv_iadd hx hb dX12_mostAlike_40 ?_
              refine lv_topi (fun x31 ex31 => ?_)
              have ex31 : x31.toInt = (3 : Int) + v17_6.toInt := by rw [ex31]; exact wk_add (show (-2147483648) ≤ (3 : Int) + v17_6.toInt by omega) (show (3 : Int) + v17_6.toInt ≤ 2147483647 by omega)
              refine tk_Vi hC hK hw hT hA hE hSR kM_at0 (by decide) rfl (k_X12_streetOf_10 l adK adV dC dI cy ad B (by omega) (by omega) qr s1   a1 (show 1 ≤ a1.toInt by omega) (show a1.toInt ≤ 11 by omega) x31 (show 3 ≤ x31.toInt by omega) (show x31.toInt ≤ 9 by omega) w0 H.size hT ) (cwV 2 hC.2.2.2.2 gX12_mostAlike_X12_streetOf rfl rfl rfl (by decide +kernel) ⟨Nat.le_of_ble_eq_true rfl, Nat.le_of_ble_eq_true rfl⟩) rfl hl.1 rfl (Nat.le_of_ble_eq_true rfl) dX12_mostAlike_41 (fun r32 w34 H locs hp33 hw => ?_)
              obtain ⟨rfl, hg39⟩ := hp33
              obtain ⟨g36, g37, c38⟩ := hg39
              refine lv_iload hx hb dX12_mostAlike_44 (lv_at hl 4 rfl) ?_
              refine lv_icmp_ne (tgt := 53) hx hb dX12_mostAlike_46 (by decide) (fun c40 => ?_) (fun c40 => ?_)
              · have c40 : ¬ r32.toInt = v5_4.toInt := wk_eqF c40
                refine lv_iconst (v := 0) hx hb dX12_mostAlike_53 (by decide) ?_
                refine lv_iadd hx hb dX12_mostAlike_54 ?_
                have nx41 := wk_i32 v17_5
                refine lv_topi (fun x42 ex42 => ?_)
                have ex42 : x42.toInt = v17_5.toInt + (0 : Int) := by rw [ex42]; exact wk_add (show (-2147483648) ≤ v17_5.toInt + (0 : Int) by omega) (show v17_5.toInt + (0 : Int) ≤ 2147483647 by omega)
                refine lv_istore (lv' := [(5, .int x42), (0, .ref (ad 0)), (1, .int a1), (2, .int a2), (3, .int v5_3), (4, .int v5_4), (6, .int v17_6)]) hx hb dX12_mostAlike_55 hl (by decide) rfl (fun ls hl => ?_)
                obtain ⟨x43, ex43⟩ : ∃ y : Int32, y = v17_6 + Int32.ofInt 1 := ⟨_, rfl⟩
                refine lv_iinc (v := x43) (lv' := [(6, .int x43), (5, .int x42), (0, .ref (ad 0)), (1, .int a1), (2, .int a2), (3, .int v5_3), (4, .int v5_4)]) hx hb dX12_mostAlike_57 hl (k := 6) rfl ex43.symm (by decide) rfl (fun ls hl => ?_)
                have ex43 : x43.toInt = v17_6.toInt + 1 := by rw [ex43]; exact wk_add (y := 1) (show -2147483648 ≤ v17_6.toInt + 1 by omega) (show v17_6.toInt + 1 ≤ 2147483647 by omega)
                refine lv_goto (tgt := 17) hx hb dX12_mostAlike_60 (by decide) ?_
                exact ih17 x42 x43 H locs ls  (show 1 ≤ a1.toInt by omega) (show a1.toInt ≤ 11 by omega) (show 1 ≤ a2.toInt by omega) (show a2.toInt ≤ 127 by omega) (show 0 ≤ v5_3.toInt by omega) (show 0 ≤ v5_4.toInt by omega) (show v5_4.toInt ≤ 3 by omega) (show 0 ≤ x43.toInt by omega) (show x43.toInt ≤ 7 by omega) (show (7 - x43.toInt).toNat < n17 by omega) hw   (lv_sub hl [2, 3, 4, 5, 6, 1, 0] rfl)
              · have c40 : r32.toInt = v5_4.toInt := wk_eq.mp c40
                refine lv_iconst (v := 1) hx hb dX12_mostAlike_49 (by decide) ?_
                refine lv_goto (tgt := 54) hx hb dX12_mostAlike_50 (by decide) ?_
                refine lv_iadd hx hb dX12_mostAlike_54 ?_
                have nx44 := wk_i32 v17_5
                refine lv_topi (fun x45 ex45 => ?_)
                refine lv_istore (lv' := [(5, .int x45), (0, .ref (ad 0)), (1, .int a1), (2, .int a2), (3, .int v5_3), (4, .int v5_4), (6, .int v17_6)]) hx hb dX12_mostAlike_55 hl (by decide) rfl (fun ls hl => ?_)
                obtain ⟨x46, ex46⟩ : ∃ y : Int32, y = v17_6 + Int32.ofInt 1 := ⟨_, rfl⟩
                refine lv_iinc (v := x46) (lv' := [(6, .int x46), (5, .int x45), (0, .ref (ad 0)), (1, .int a1), (2, .int a2), (3, .int v5_3), (4, .int v5_4)]) hx hb dX12_mostAlike_57 hl (k := 6) rfl ex46.symm (by decide) rfl (fun ls hl => ?_)
                have ex46 : x46.toInt = v17_6.toInt + 1 := by rw [ex46]; exact wk_add (y := 1) (show -2147483648 ≤ v17_6.toInt + 1 by omega) (show v17_6.toInt + 1 ≤ 2147483647 by omega)
                refine lv_goto (tgt := 17) hx hb dX12_mostAlike_60 (by decide) ?_
                exact ih17 x45 x46 H locs ls  (show 1 ≤ a1.toInt by omega) (show a1.toInt ≤ 11 by omega) (show 1 ≤ a2.toInt by omega) (show a2.toInt ≤ 127 by omega) (show 0 ≤ v5_3.toInt by omega) (show 0 ≤ v5_4.toInt by omega) (show v5_4.toInt ≤ 3 by omega) (show 0 ≤ x46.toInt by omega) (show x46.toInt ≤ 7 by omega) (show (7 - x46.toInt).toNat < n17 by omega) hw   (lv_sub hl [2, 3, 4, 5, 6, 1, 0] rfl)
      refine lv_iload hx hb dX12_mostAlike_5 (lv_at hl 4 rfl) ?_
      refine lv_iconst (v := 4) hx hb dX12_mostAlike_7 (by decide) ?_
      refine lv_icmp_ge (tgt := 82) hx hb dX12_mostAlike_8 (by decide) (fun c47 => ?_) (fun c47 => ?_)
      · have c47 : (4 : Int) ≤ v5_4.toInt := wk_le.mp c47
        refine lv_iload_n hx hb dX12_mostAlike_82 rfl (lv_at hl 3 rfl) ?_
        exact tk_iret hC hr hlocks hK ⟨rfl, (show 0 ≤ v5_3.toInt by omega)⟩ hw dX12_mostAlike_83
      · have c47 : v5_4.toInt < (4 : Int) := wk_leF c47
        refine lv_iconst (v := 0) hx hb dX12_mostAlike_11 (by decide) ?_
        refine lv_istore (lv' := [(5, .int 0), (0, .ref (ad 0)), (1, .int a1), (2, .int a2), (3, .int v5_3), (4, .int v5_4)]) hx hb dX12_mostAlike_12 hl (by decide) rfl (fun ls hl => ?_)
        refine lv_iconst (v := 0) hx hb dX12_mostAlike_14 (by decide) ?_
        refine lv_istore (lv' := [(6, .int 0), (5, .int 0), (0, .ref (ad 0)), (1, .int a1), (2, .int a2), (3, .int v5_3), (4, .int v5_4)]) hx hb dX12_mostAlike_15 hl (by decide) rfl (fun ls hl => ?_)
        exact L17 ((7 - (0 : Int)).toNat + 1) 0 0 H locs ls  (show 1 ≤ a1.toInt by omega) (show a1.toInt ≤ 11 by omega) (show 1 ≤ a2.toInt by omega) (show a2.toInt ≤ 127 by omega) (show 0 ≤ v5_3.toInt by omega) (show 0 ≤ v5_4.toInt by omega) (show v5_4.toInt ≤ 3 by omega) (by decide) (by decide) (Nat.lt_succ_self _) hw   (lv_sub hl [2, 3, 4, 5, 6, 1, 0] rfl)
  refine lv_iconst (v := 0) hx hb dX12_mostAlike_0 (by decide) ?_
  refine lv_istore_n (lv' := [(3, .int 0), (0, .ref (ad 0)), (1, .int a1), (2, .int a2)]) hx hb dX12_mostAlike_1 rfl hl (by decide) rfl (fun ls hl => ?_)
  refine lv_iconst (v := 0) hx hb dX12_mostAlike_2 (by decide) ?_
  refine lv_istore (lv' := [(4, .int 0), (3, .int 0), (0, .ref (ad 0)), (1, .int a1), (2, .int a2)]) hx hb dX12_mostAlike_3 hl (by decide) rfl (fun ls hl => ?_)
  exact L5 ((4 - (0 : Int)).toNat + 1) 0 0 s.heap locs ls  (show 1 ≤ a1.toInt by omega) (show a1.toInt ≤ 11 by omega) (show 1 ≤ a2.toInt by omega) (show a2.toInt ≤ 127 by omega) (by decide) (by decide) (by decide) (Nat.lt_succ_self _) hw   (lv_sub hl [2, 3, 4, 1, 0] rfl)
abbrev P_X12_weekdays_1 (ad : Nat → Nat) (cy : Nat → ClassId) (B : Int) (qr : Nat) (s1 : Int) (a1 : Int32) (w0 : va_W) : Int32 → va_W → Prop := fun r u => w0 = u ∧ ((r = (-2) ∧ (∃ y : Int32, gi u 12 0 = y ∧ 1 ≤ y.toInt ∧ y.toInt ≤ 10)) ∨ (0 ≤ r.toInt ∧ r.toInt ≤ 127 ∧ (∃ y : Int32, gi u 12 0 = y ∧ 1 ≤ y.toInt ∧ y.toInt ≤ 10)) ∨ (r = (-1)))
set_option maxHeartbeats 4000000 in
set_option maxRecDepth 100000 in
theorem k_X12_weekdays_1 (l : Launch) (adK adV : Nat → Nat) (dC : Nat → ClassId) (dI : Nat → Nat → Nat) (cy : Nat → ClassId) (ad : Nat → Nat) (B : Int) (hB0 : 100000 ≤ B) (hB1 : B ≤ 1073741824) (qr : Nat) (s1 : Int)  (a1 : Int32) (w0 : va_W) (sz : Nat) (hT : TW ksM ad cy B qr 12 w0)  : Met l yX12_weekdays wsX12_weekdays ({ frames := 3, cells := 0, slots := 0, locals := 60 }) (va_Pc [.ref (ad 0), .int a1] (wpreS adK adV dC dI cy sz w0)) (va_Qi (P_X12_weekdays_1 ad cy B qr s1 a1 w0) (fun u : va_W => wpost dC dI cy (va_A w0 sz) u) (va_A w0 sz)) 0 0 (va_A w0 sz) := by
  refine Met.ofW (cc := cX12_weekdays) (maxL := 5) (ret := (some .int)) (by decide) rfl ?_
  intro p e s m args below meth c s₁ Bk hml hv
  obtain ⟨rfl, ⟨hsz, hP, hK, hD0⟩, hE, hSR⟩ := hv
  have hx := Bk.exec
  have hb := Bk.bytes
  have hr := Bk.returns
  have hlocks := Bk.notSynchronized
  have hC : CallFix p m c cX12_weekdays 5 s _ wsX12_weekdays RX12 := ⟨hx, hb, hml, findClass_of_methodNamed Bk.named, atoms_spec (ws := wsX12_weekdays) Bk.pre⟩
  subst hsz
  have hD := hD0.self (sz := s.heap.size)
  generalize hAe : va_A w0 s.heap.size = A at hD hE ⊢
  have hA : ∀ q : Nat, s.heap.size ≤ q → A q := fun q h => by rw [← hAe]; exact Or.inr h
  have hw : Wd dC dI A s.heap s.heap [] w0 := ⟨hP, hD, va_S.rf⟩
  have hF : FE ksM ([] : List (Nat × Nat × Nat)) w0 w0 := FE.rf
  have hl := lv_entry ([.ref (ad 0), .int a1]) (n := 5) (Nat.le_of_ble_eq_true rfl)
  rw [lg_entry_eq]
  generalize (lg_sl ([.ref (ad 0), .int a1]) ++ List.replicate (5 - (lg_sl ([.ref (ad 0), .int a1])).length) Slot.unset).toArray = ls at hl ⊢
  have hl : lv_has ls 5 [(0, .ref (ad 0)), (1, .int a1)] := hl
  generalize hloc : ([] : List Loc) = locs at hw ⊢
  have hinX12 : ∀ w ∈ u_ws RX12 TX12 42, w ∈ wsX12_weekdays := fun _ h => List.mem_cons_of_mem _ (List.mem_append_right _ (h))
  have J17 : ∀ (f17_12_0 : Int32) (H : Heap) (locs : List Loc) (ls : Array Slot), 0 ≤ f17_12_0.toInt → f17_12_0.toInt ≤ 10 → Wd dC dI A s.heap H locs w0 → gi w0 12 0 = f17_12_0 → lv_has ls 5 [(0, .ref (ad 0)), (1, .int a1)] → W p l e ({ frames := 3, cells := 0, slots := 0, locals := 60 }) s m (List.toArray [.ref (ad 0), .int a1]) below meth c H locs 0 0 (MQ below (va_Qi (P_X12_weekdays_1 ad cy B qr s1 a1 w0) (fun u : va_W => wpost dC dI cy A u) A) (List.toArray [.ref (ad 0), .int a1]) s 0 0 A) (F0 m 17 ls []) := by
    intro f17_12_0 H locs ls r1 t2 hw c3 hl
    refine lv_iconst (v := (-1)) hx hb dX12_weekdays_17 (by decide) ?_
    exact tk_iret hC hr hlocks hK ⟨rfl, (Or.inr (Or.inr rfl))⟩ hw dX12_weekdays_18
  have J43 : ∀ (v43_2 : Int32) (f43_12_0 : Int32) (H : Heap) (locs : List Loc) (ls : Array Slot), 0 ≤ v43_2.toInt → v43_2.toInt ≤ 127 → 1 ≤ f43_12_0.toInt → f43_12_0.toInt ≤ 10 → Wd dC dI A s.heap H locs w0 → gi w0 12 0 = f43_12_0 → lv_has ls 5 [(0, .ref (ad 0)), (1, .int 1), (2, .int v43_2)] → W p l e ({ frames := 3, cells := 0, slots := 0, locals := 60 }) s m (List.toArray [.ref (ad 0), .int a1]) below meth c H locs 0 0 (MQ below (va_Qi (P_X12_weekdays_1 ad cy B qr s1 a1 w0) (fun u : va_W => wpost dC dI cy A u) A) (List.toArray [.ref (ad 0), .int a1]) s 0 0 A) (F0 m 43 ls []) := by
    intro v43_2 f43_12_0 H locs ls r4 t5 r6 t7 hw c8 hl
    refine lv_bipush (v := (-2)) hx hb dX12_weekdays_43 (by decide) ?_
    exact tk_iret hC hr hlocks hK ⟨rfl, (Or.inl ⟨rfl, ⟨f43_12_0, c8, (show 1 ≤ f43_12_0.toInt by omega), (show f43_12_0.toInt ≤ 10 by omega)⟩⟩)⟩ hw dX12_weekdays_45
  have L51 : ∀ (n51 : Nat) (v51_2 : Int32) (v51_3 : Int32) (v51_4 : Int32) (f51_12_0 : Int32) (f51_12_1 : Int32) (H : Heap) (locs : List Loc) (ls : Array Slot), 1 ≤ v51_2.toInt → v51_2.toInt ≤ 127 → 0 ≤ v51_3.toInt → v51_3.toInt ≤ 11 → 1 ≤ v51_4.toInt → v51_4.toInt ≤ 12 → 1 ≤ f51_12_0.toInt → f51_12_0.toInt ≤ 10 → 1 ≤ f51_12_1.toInt → f51_12_1.toInt ≤ 12 → (12 - v51_4.toInt).toNat < n51 → Wd dC dI A s.heap H locs w0 → gi w0 12 0 = f51_12_0 → gi w0 12 1 = f51_12_1 → lv_has ls 5 [(0, .ref (ad 0)), (1, .int 1), (2, .int v51_2), (3, .int v51_3), (4, .int v51_4)] → W p l e ({ frames := 3, cells := 0, slots := 0, locals := 60 }) s m (List.toArray [.ref (ad 0), .int a1]) below meth c H locs 0 0 (MQ below (va_Qi (P_X12_weekdays_1 ad cy B qr s1 a1 w0) (fun u : va_W => wpost dC dI cy A u) A) (List.toArray [.ref (ad 0), .int a1]) s 0 0 A) (F0 m 51 ls []) := by
    intro n51
    induction n51 with
    | zero => intro v51_2 v51_3 v51_4 f51_12_0 f51_12_1 H locs ls r9 t10 r11 t12 r13 t14 r15 t16 r18 t19 hm51 hw c17 c20 hl; omega
    | succ n51 ih51 =>
      intro v51_2 v51_3 v51_4 f51_12_0 f51_12_1 H locs ls r9 t10 r11 t12 r13 t14 r15 t16 r18 t19 hm51 hw c17 c20 hl
      refine lv_iload hx hb dX12_weekdays_51 (lv_at hl 4 rfl) ?_
      refine lv_aload_n hx hb dX12_weekdays_53 rfl (lv_at hl 0 rfl) ?_
      refine tk_getA hC hK hw hT hinX12 kM_at0 (by decide) rfl 26 (by decide) (List.mem_of_getElem? (i := 1) rfl) rfl rfl dX12_weekdays_54 ?_
      refine lv_iconst (v := 1) hx hb dX12_weekdays_57 (by decide) ?_
      refine tk_ialdR hC hK hw hT kM_at12 rfl (by decide) (by decide) dX12_weekdays_58 (fun x21 c22 Ex21 => ?_)
      refine wk_top f51_12_1 (c22.symm.trans c20) ?_
      refine lv_icmp_ge (tgt := 91) hx hb dX12_weekdays_59 (by decide) (fun c23 => ?_) (fun c23 => ?_)
      · have c23 : f51_12_1.toInt ≤ v51_4.toInt := wk_le.mp c23
        refine lv_iload_n hx hb dX12_weekdays_91 rfl (lv_at hl 3 rfl) ?_
        exact tk_iret hC hr hlocks hK ⟨rfl, (Or.inr (Or.inl ⟨(show 0 ≤ v51_3.toInt by omega), (show v51_3.toInt ≤ 127 by omega), ⟨f51_12_0, c17, (show 1 ≤ f51_12_0.toInt by omega), (show f51_12_0.toInt ≤ 10 by omega)⟩⟩))⟩ hw dX12_weekdays_92
      · have c23 : v51_4.toInt < f51_12_1.toInt := wk_leF c23
        refine lv_aload_n hx hb dX12_weekdays_62 rfl (lv_at hl 0 rfl) ?_
        refine lv_iload hx hb dX12_weekdays_63 (lv_at hl 4 rfl) ?_
        refine lv_iload_n hx hb dX12_weekdays_65 rfl (lv_at hl 2 rfl) ?_
        refine tk_Vi hC hK hw hT hA hE hSR kM_at0 (by decide) rfl (k_X12_mostAlike_2 l adK adV dC dI cy ad B (by omega) (by omega) qr s1   v51_4 (show 1 ≤ v51_4.toInt by omega) (show v51_4.toInt ≤ 11 by omega) v51_2 (show 1 ≤ v51_2.toInt by omega) (show v51_2.toInt ≤ 127 by omega) w0 H.size hT ) (cwV 2 hC.2.2.2.2 gX12_weekdays_X12_mostAlike rfl rfl rfl (by decide +kernel) ⟨Nat.le_of_ble_eq_true rfl, Nat.le_of_ble_eq_true rfl⟩) rfl hl.1 rfl (Nat.le_of_ble_eq_true rfl) dX12_weekdays_66 (fun r24 w26 H locs hp25 hw => ?_)
        obtain ⟨rfl, hg29⟩ := hp25
        obtain g28 := hg29
        refine lv_aload_n hx hb dX12_weekdays_69 rfl (lv_at hl 0 rfl) ?_
        refine lv_iload_n hx hb dX12_weekdays_70 rfl (lv_at hl 3 rfl) ?_
        refine lv_iload_n hx hb dX12_weekdays_71 rfl (lv_at hl 2 rfl) ?_
        refine tk_Vi hC hK hw hT hA hE hSR kM_at0 (by decide) rfl (k_X12_mostAlike_1 l adK adV dC dI cy ad B (by omega) (by omega) qr s1   v51_3 (show 0 ≤ v51_3.toInt by omega) (show v51_3.toInt ≤ 11 by omega) v51_2 (show 1 ≤ v51_2.toInt by omega) (show v51_2.toInt ≤ 127 by omega) w0 H.size hT ) (cwV 2 hC.2.2.2.2 gX12_weekdays_X12_mostAlike rfl rfl rfl (by decide +kernel) ⟨Nat.le_of_ble_eq_true rfl, Nat.le_of_ble_eq_true rfl⟩) rfl hl.1 rfl (Nat.le_of_ble_eq_true rfl) dX12_weekdays_72 (fun r30 w32 H locs hp31 hw => ?_)
        obtain ⟨rfl, hg35⟩ := hp31
        obtain g34 := hg35
        refine lv_icmp_ge (tgt := 83) hx hb dX12_weekdays_75 (by decide) (fun c36 => ?_) (fun c36 => ?_)
        · have c36 : r30.toInt ≤ r24.toInt := wk_le.mp c36
          refine lv_iload_n hx hb dX12_weekdays_83 rfl (lv_at hl 3 rfl) ?_
          refine lv_istore_n (lv' := [(3, .int v51_3), (0, .ref (ad 0)), (1, .int 1), (2, .int v51_2), (4, .int v51_4)]) hx hb dX12_weekdays_84 rfl hl (by decide) rfl (fun ls hl => ?_)
          obtain ⟨x37, ex37⟩ : ∃ y : Int32, y = v51_4 + Int32.ofInt 1 := ⟨_, rfl⟩
          refine lv_iinc (v := x37) (lv' := [(4, .int x37), (3, .int v51_3), (0, .ref (ad 0)), (1, .int 1), (2, .int v51_2)]) hx hb dX12_weekdays_85 hl (k := 4) rfl ex37.symm (by decide) rfl (fun ls hl => ?_)
          have ex37 : x37.toInt = v51_4.toInt + 1 := by rw [ex37]; exact wk_add (y := 1) (show -2147483648 ≤ v51_4.toInt + 1 by omega) (show v51_4.toInt + 1 ≤ 2147483647 by omega)
          refine lv_goto (tgt := 51) hx hb dX12_weekdays_88 (by decide) ?_
          exact ih51 v51_2 v51_3 x37 f51_12_0 f51_12_1 H locs ls  (show 1 ≤ v51_2.toInt by omega) (show v51_2.toInt ≤ 127 by omega) (show 0 ≤ v51_3.toInt by omega) (show v51_3.toInt ≤ 11 by omega) (show 1 ≤ x37.toInt by omega) (show x37.toInt ≤ 12 by omega) (show 1 ≤ f51_12_0.toInt by omega) (show f51_12_0.toInt ≤ 10 by omega) (show 1 ≤ f51_12_1.toInt by omega) (show f51_12_1.toInt ≤ 12 by omega) (show (12 - x37.toInt).toNat < n51 by omega) hw  c17 c20 (lv_sub hl [2, 3, 4, 1, 0] rfl)
        · have c36 : r24.toInt < r30.toInt := wk_leF c36
          refine lv_iload hx hb dX12_weekdays_78 (lv_at hl 4 rfl) ?_
          refine lv_goto (tgt := 84) hx hb dX12_weekdays_80 (by decide) ?_
          refine lv_istore_n (lv' := [(3, .int v51_4), (0, .ref (ad 0)), (1, .int 1), (2, .int v51_2), (4, .int v51_4)]) hx hb dX12_weekdays_84 rfl hl (by decide) rfl (fun ls hl => ?_)
          obtain ⟨x38, ex38⟩ : ∃ y : Int32, y = v51_4 + Int32.ofInt 1 := ⟨_, rfl⟩
          refine lv_iinc (v := x38) (lv' := [(4, .int x38), (3, .int v51_4), (0, .ref (ad 0)), (1, .int 1), (2, .int v51_2)]) hx hb dX12_weekdays_85 hl (k := 4) rfl ex38.symm (by decide) rfl (fun ls hl => ?_)
          have ex38 : x38.toInt = v51_4.toInt + 1 := by rw [ex38]; exact wk_add (y := 1) (show -2147483648 ≤ v51_4.toInt + 1 by omega) (show v51_4.toInt + 1 ≤ 2147483647 by omega)
          refine lv_goto (tgt := 51) hx hb dX12_weekdays_88 (by decide) ?_
          exact ih51 v51_2 v51_4 x38 f51_12_0 f51_12_1 H locs ls  (show 1 ≤ v51_2.toInt by omega) (show v51_2.toInt ≤ 127 by omega) (show 0 ≤ v51_4.toInt by omega) (show v51_4.toInt ≤ 11 by omega) (show 1 ≤ x38.toInt by omega) (show x38.toInt ≤ 12 by omega) (show 1 ≤ f51_12_0.toInt by omega) (show f51_12_0.toInt ≤ 10 by omega) (show 1 ≤ f51_12_1.toInt by omega) (show f51_12_1.toInt ≤ 12 by omega) (show (12 - x38.toInt).toNat < n51 by omega) hw  c17 c20 (lv_sub hl [2, 3, 4, 1, 0] rfl)
  refine lv_aload_n hx hb dX12_weekdays_0 rfl (lv_at hl 0 rfl) ?_
  refine tk_Vi hC hK hw hT hA hE hSR kM_at0 (by decide) rfl (k_X12_isTown_1 l adK adV dC dI cy ad B (by omega) (by omega) qr s1    w0 s.heap.size hT ) (cwV 0 hC.2.2.2.2 gX12_weekdays_X12_isTown rfl rfl rfl (by decide +kernel) ⟨Nat.le_of_ble_eq_true rfl, Nat.le_of_ble_eq_true rfl⟩) rfl hl.1 rfl (Nat.le_of_ble_eq_true rfl) dX12_weekdays_1 (fun r39 w41 H locs hp40 hw => ?_)
  obtain ⟨rfl, hg47⟩ := hp40
  rcases hg47 with ⟨rfl, ⟨x43, c44, rx43, tx43⟩⟩ | ⟨rfl, ⟨x45, c46, rx45, tx45⟩⟩
  · refine lv_if_eq (tgt := 17) hx hb dX12_weekdays_4 (by decide) (fun _ => ?_) (fun c => absurd (by decide) c)
    exact J17 x43 H locs ls  (show 0 ≤ x43.toInt by omega) (show x43.toInt ≤ 10 by omega)  hw  c44 (lv_sub hl [0, 1] rfl)
  · refine lv_if_eq (tgt := 17) hx hb dX12_weekdays_4 (by decide) (fun c => absurd c (by decide)) (fun _ => ?_)
    refine lv_iload_n hx hb dX12_weekdays_7 rfl (lv_at hl 1 rfl) ?_
    refine lv_i2l hx hb dX12_weekdays_8 rfl ?_
    refine lv_topl (fun x48 ex48 => ?_)
    have ex48 : x48.toInt = a1.toInt := by rw [ex48]; exact wk_i2l _
    have bx48 := wk_i32 a1
    refine lv_lconst (v := 0) hx hb dX12_weekdays_9 (by decide) ?_
    refine lv_lconst (v := 1) hx hb dX12_weekdays_10 (by decide) ?_
    refine tk_Si hC hK hw hT hA hE hSR (k_X12_in_12 l adK adV dC dI cy ad B (by omega) (by omega) qr s1   x48 (show (-2147483648) ≤ x48.toInt by omega) (show x48.toInt ≤ 2147483647 by omega) w0 H.size hT ) (va_cwS 3 hC.2.2.2.2 gX12_weekdays_X12_in rfl rfl rfl (by decide +kernel) ⟨Nat.le_of_ble_eq_true rfl, Nat.le_of_ble_eq_true rfl⟩) rfl hl.1 rfl (Nat.le_of_ble_eq_true rfl) dX12_weekdays_11 (fun r49 w51 H locs hp50 hw => ?_)
    obtain ⟨rfl, hg55⟩ := hp50
    rcases hg55 with rfl | ⟨rfl, g53, g54⟩
    · refine lv_if_ne (tgt := 19) hx hb dX12_weekdays_14 (by decide) (fun c => absurd (by decide) c) (fun _ => ?_)
      exact J17 x45 H locs ls  (show 0 ≤ x45.toInt by omega) (show x45.toInt ≤ 10 by omega)  hw  c46 (lv_sub hl [0, 1] rfl)
    · refine lv_if_ne (tgt := 19) hx hb dX12_weekdays_14 (by decide) (fun _ => ?_) (fun c => absurd c (by decide))
      refine lv_aload_n hx hb dX12_weekdays_19 rfl (lv_at hl 0 rfl) ?_
      refine tk_Vi hC hK hw hT hA hE hSR kM_at0 (by decide) rfl (k_X12_fitting_1 l adK adV dC dI cy ad B (by omega) (by omega) qr s1    w0 H.size hT ) (cwV 0 hC.2.2.2.2 gX12_weekdays_X12_fitting rfl rfl rfl (by decide +kernel) ⟨Nat.le_of_ble_eq_true rfl, Nat.le_of_ble_eq_true rfl⟩) rfl hl.1 rfl (Nat.le_of_ble_eq_true rfl) dX12_weekdays_20 (fun r56 w58 H locs hp57 hw => ?_)
      obtain ⟨rfl, hg62⟩ := hp57
      obtain ⟨g60, g61⟩ := hg62
      refine lv_istore_n (lv' := [(2, .int r56), (0, .ref (ad 0)), (1, .int a1)]) hx hb dX12_weekdays_23 rfl hl (by decide) rfl (fun ls hl => ?_)
      refine lv_iload_n hx hb dX12_weekdays_24 rfl (lv_at hl 2 rfl) ?_
      refine lv_if_ne (tgt := 30) hx hb dX12_weekdays_25 (by decide) (fun c63 => ?_) (fun c63 => ?_)
      · have c63 : ¬ a1.toInt = (0 : Int) := wk_eqF c63
        refine lv_iload_n hx hb dX12_weekdays_30 rfl (lv_at hl 0 rfl) ?_
        refine lv_if_eq (tgt := 43) hx hb dX12_weekdays_31 (by decide) (fun c64 => ?_) (fun c64 => ?_)
        · have c64 : r56.toInt = (0 : Int) := wk_eq.mp c64
          obtain rfl : a1 = 1 := wk_eq.mpr (show a1.toInt = 1 by omega)
          exact J43 r56 x45 H locs ls  (show 0 ≤ r56.toInt by omega) (show r56.toInt ≤ 127 by omega) (show 1 ≤ x45.toInt by omega) (show x45.toInt ≤ 10 by omega)  hw  c46 (lv_sub hl [1, 2, 0] rfl)
        · have c64 : ¬ r56.toInt = (0 : Int) := wk_eqF c64
          refine lv_aload_n hx hb dX12_weekdays_34 rfl (lv_at hl 1 rfl) ?_
          refine tk_getA hC hK hw hT hinX12 kM_at0 (by decide) rfl 26 (by decide) (List.mem_of_getElem? (i := 1) rfl) rfl rfl dX12_weekdays_35 ?_
          refine lv_iconst (v := 1) hx hb dX12_weekdays_38 (by decide) ?_
          refine tk_ialdR hC hK hw hT kM_at12 rfl (by decide) (by decide) dX12_weekdays_39 (fun x65 c66 Ex65 => ?_)
          have bx65 : 0 ≤ x65.toInt ∧ x65.toInt ≤ 12 := (tk_rg1 rfl).mp Ex65
          have c66 : gi w0 12 1 = x65 := c66
          refine lv_if_ne (tgt := 46) hx hb dX12_weekdays_40 (by decide) (fun c67 => ?_) (fun c67 => ?_)
          · have c67 : ¬ x65.toInt = (0 : Int) := wk_eqF c67
            refine lv_iconst (v := 0) hx hb dX12_weekdays_46 (by decide) ?_
            refine lv_istore_n (lv' := [(3, .int 0), (2, .int r56), (0, .ref (ad 0)), (1, .int a1)]) hx hb dX12_weekdays_47 rfl hl (by decide) rfl (fun ls hl => ?_)
            refine lv_iconst (v := 1) hx hb dX12_weekdays_48 (by decide) ?_
            refine lv_istore (lv' := [(4, .int 1), (3, .int 0), (2, .int r56), (0, .ref (ad 0)), (1, .int a1)]) hx hb dX12_weekdays_49 hl (by decide) rfl (fun ls hl => ?_)
            obtain rfl : a1 = 1 := wk_eq.mpr (show a1.toInt = 1 by omega)
            exact L51 ((12 - (1 : Int)).toNat + 1) r56 0 1 x45 x65 H locs ls  (show 1 ≤ r56.toInt by omega) (show r56.toInt ≤ 127 by omega) (by decide) (by decide) (by decide) (by decide) (show 1 ≤ x45.toInt by omega) (show x45.toInt ≤ 10 by omega) (show 1 ≤ x65.toInt by omega) (show x65.toInt ≤ 12 by omega) (Nat.lt_succ_self _) hw  c46 c66 (lv_sub hl [3, 4, 2, 1, 0] rfl)
          · have c67 : x65.toInt = (0 : Int) := wk_eq.mp c67
            obtain rfl : a1 = 1 := wk_eq.mpr (show a1.toInt = 1 by omega)
            exact J43 r56 x45 H locs ls  (show 0 ≤ r56.toInt by omega) (show r56.toInt ≤ 127 by omega) (show 1 ≤ x45.toInt by omega) (show x45.toInt ≤ 10 by omega)  hw  c46 (lv_sub hl [1, 2, 0] rfl)
      · have c63 : a1.toInt = (0 : Int) := wk_eq.mp c63
        refine lv_iload_n hx hb dX12_weekdays_28 rfl (lv_at hl 0 rfl) ?_
        exact tk_iret hC hr hlocks hK ⟨rfl, (Or.inr (Or.inl ⟨(show 0 ≤ r56.toInt by omega), (show r56.toInt ≤ 127 by omega), ⟨x45, c46, (show 1 ≤ x45.toInt by omega), (show x45.toInt ≤ 10 by omega)⟩⟩))⟩ hw dX12_weekdays_29
abbrev P_X12_came_1 (ad : Nat → Nat) (cy : Nat → ClassId) (B : Int) (qr : Nat) (s1 : Int) (a1 : Int32) (w0 : va_W) : Int32 → va_W → Prop := fun r u => TW ksM ad cy B qr 12 u ∧ FE ksM [(71, 8, 8), (71, 288, 295)] w0 u ∧ ((r = (-2)) ∨ (0 ≤ r.toInt ∧ r.toInt ≤ 8 ∧ (-1) ≤ a1.toInt ∧ a1.toInt ≤ 9 ∧ (∃ y : Int32, gi u 12 8 = y ∧ 0 ≤ y.toInt ∧ y.toInt ≤ 8)))
set_option maxHeartbeats 4000000 in
set_option maxRecDepth 100000 in
theorem k_X12_came_1 (l : Launch) (adK adV : Nat → Nat) (dC : Nat → ClassId) (dI : Nat → Nat → Nat) (cy : Nat → ClassId) (ad : Nat → Nat) (B : Int) (hB0 : 100000 ≤ B) (hB1 : B ≤ 1073741824) (qr : Nat) (s1 : Int)  (a1 : Int32) (w0 : va_W) (sz : Nat) (hT : TW ksM ad cy B qr 12 w0)  : Met l yX12_came wsX12_came ({ frames := 2, cells := 0, slots := 0, locals := 33 }) (va_Pc [.ref (ad 0), .int a1] (wpreS adK adV dC dI cy sz w0)) (va_Qi (P_X12_came_1 ad cy B qr s1 a1 w0) (fun u : va_W => wpost dC dI cy (va_A w0 sz) u) (va_A w0 sz)) 0 0 (va_A w0 sz) := by
  refine Met.ofW (cc := cX12_came) (maxL := 2) (ret := (some .int)) (by decide) rfl ?_
  intro p e s m args below meth c s₁ Bk hml hv
  obtain ⟨rfl, ⟨hsz, hP, hK, hD0⟩, hE, hSR⟩ := hv
  have hx := Bk.exec
  have hb := Bk.bytes
  have hr := Bk.returns
  have hlocks := Bk.notSynchronized
  have hC : CallFix p m c cX12_came 2 s _ wsX12_came RX12 := ⟨hx, hb, hml, findClass_of_methodNamed Bk.named, atoms_spec (ws := wsX12_came) Bk.pre⟩
  subst hsz
  have hD := hD0.self (sz := s.heap.size)
  generalize hAe : va_A w0 s.heap.size = A at hD hE ⊢
  have hA : ∀ q : Nat, s.heap.size ≤ q → A q := fun q h => by rw [← hAe]; exact Or.inr h
  have hw : Wd dC dI A s.heap s.heap [] w0 := ⟨hP, hD, va_S.rf⟩
  have hF : FE ksM [(71, 8, 8), (71, 288, 295)] w0 w0 := FE.rf
  have hl := lv_entry ([.ref (ad 0), .int a1]) (n := 2) (Nat.le_of_ble_eq_true rfl)
  rw [lg_entry_eq]
  generalize (lg_sl ([.ref (ad 0), .int a1]) ++ List.replicate (2 - (lg_sl ([.ref (ad 0), .int a1])).length) Slot.unset).toArray = ls at hl ⊢
  have hl : lv_has ls 2 [(0, .ref (ad 0)), (1, .int a1)] := hl
  generalize hloc : ([] : List Loc) = locs at hw ⊢
  have hinX12 : ∀ w ∈ u_ws RX12 TX12 42, w ∈ wsX12_came := fun _ h => List.mem_cons_of_mem _ (List.mem_append_right _ (h))
  have J35 : ∀ (H : Heap) (locs : List Loc) (ls : Array Slot) (w1 : va_W), Wd dC dI A s.heap H locs w1 → TW ksM ad cy B qr 12 w1 → FE ksM [(71, 8, 8), (71, 288, 295)] w0 w1 → lv_has ls 2 [(0, .ref (ad 0)), (1, .int a1)] → W p l e ({ frames := 2, cells := 0, slots := 0, locals := 33 }) s m (List.toArray [.ref (ad 0), .int a1]) below meth c H locs 0 0 (MQ below (va_Qi (P_X12_came_1 ad cy B qr s1 a1 w0) (fun u : va_W => wpost dC dI cy A u) A) (List.toArray [.ref (ad 0), .int a1]) s 0 0 A) (F0 m 35 ls []) := by
    intro H locs ls w1 hw hT hF hl
    refine lv_bipush (v := (-2)) hx hb dX12_came_35 (by decide) ?_
    exact tk_iret hC hr hlocks hK ⟨hT, hF, (Or.inl rfl)⟩ hw dX12_came_37
  refine lv_iload_n hx hb dX12_came_0 rfl (lv_at hl 1 rfl) ?_
  refine lv_iconst (v := (-1)) hx hb dX12_came_1 (by decide) ?_
  refine lv_icmp_ne (tgt := 15) hx hb dX12_came_2 (by decide) (fun c2 => ?_) (fun c2 => ?_)
  · have c2 : ¬ a1.toInt = (-1 : Int) := wk_eqF c2
    refine lv_aload_n hx hb dX12_came_15 rfl (lv_at hl 0 rfl) ?_
    refine lv_iload_n hx hb dX12_came_16 rfl (lv_at hl 1 rfl) ?_
    refine tk_Vi hC hK hw hT hA hE hSR kM_at0 (by decide) rfl (k_X12_isCorner_1 l adK adV dC dI cy ad B (by omega) (by omega) qr s1   a1 w0 s.heap.size hT ) (cwV 1 hC.2.2.2.2 gX12_came_X12_isCorner rfl rfl rfl (by decide +kernel) ⟨Nat.le_of_ble_eq_true rfl, Nat.le_of_ble_eq_true rfl⟩) rfl hl.1 rfl (Nat.le_of_ble_eq_true rfl) dX12_came_17 (fun r3 w5 H locs hp4 hw => ?_)
    obtain ⟨rfl, hg11⟩ := hp4
    rcases hg11 with rfl | ⟨rfl, g7, g8, ⟨x9, c10, rx9, tx9⟩⟩
    · refine lv_if_eq (tgt := 35) hx hb dX12_came_20 (by decide) (fun _ => ?_) (fun c => absurd (by decide) c)
      exact J35  H locs ls w0   hw hT hF  (lv_sub hl [0, 1] rfl)
    · refine lv_if_eq (tgt := 35) hx hb dX12_came_20 (by decide) (fun c => absurd c (by decide)) (fun _ => ?_)
      refine lv_aload_n hx hb dX12_came_23 rfl (lv_at hl 0 rfl) ?_
      refine tk_getA hC hK hw hT hinX12 kM_at0 (by decide) rfl 26 (by decide) (List.mem_of_getElem? (i := 1) rfl) rfl rfl dX12_came_24 ?_
      refine lv_bipush (v := 8) hx hb dX12_came_27 (by decide) ?_
      refine tk_ialdR hC hK hw hT kM_at12 rfl (by decide) (by decide) dX12_came_29 (fun x12 c13 Ex12 => ?_)
      have bx12 := tk_rgI rfl 8 1 1 0 8 (by decide +kernel) ⟨0, by decide, by decide⟩ Ex12
      have c13 : gi w0 12 8 = x12 := c13
      refine lv_bipush (v := 8) hx hb dX12_came_30 (by decide) ?_
      refine lv_icmp_ne (tgt := 38) hx hb dX12_came_32 (by decide) (fun c14 => ?_) (fun c14 => ?_)
      · have c14 : ¬ x12.toInt = (8 : Int) := wk_eqF c14
        refine lv_aload_n hx hb dX12_came_38 rfl (lv_at hl 0 rfl) ?_
        refine tk_getA hC hK hw hT hinX12 kM_at0 (by decide) rfl 26 (by decide) (List.mem_of_getElem? (i := 1) rfl) rfl rfl dX12_came_39 ?_
        refine lv_sipush (v := 288) hx hb dX12_came_42 (by decide) ?_
        refine lv_aload_n hx hb dX12_came_45 rfl (lv_at hl 0 rfl) ?_
        refine tk_getA hC hK hw hT hinX12 kM_at0 (by decide) rfl 26 (by decide) (List.mem_of_getElem? (i := 1) rfl) rfl rfl dX12_came_46 ?_
        refine lv_bipush (v := 8) hx hb dX12_came_49 (by decide) ?_
        refine tk_ialdR hC hK hw hT kM_at12 rfl (by decide) (by decide) dX12_came_51 (fun x15 c16 Ex15 => ?_)
        refine wk_top x12 (c16.symm.trans c13) ?_
        refine lv_iadd hx hb dX12_came_52 ?_
        refine lv_topi (fun x17 ex17 => ?_)
        have ex17 : x17.toInt = (288 : Int) + x12.toInt := by rw [ex17]; exact wk_add (show (-2147483648) ≤ (288 : Int) + x12.toInt by omega) (show (288 : Int) + x12.toInt ≤ 2147483647 by omega)
        refine lv_iload_n hx hb dX12_came_53 rfl (lv_at hl 1 rfl) ?_
        refine tk_iastR hC hK hw hT kM_at12 (by decide) rfl (show 0 ≤ x17.toInt by omega) (show x17.toInt < 296 by omega) (tk_rgS rfl 288 1 8 0 9 (by decide +kernel) ⟨(x12.toInt - 0).toNat, by omega, show x17.toInt.toNat = 288 + 1 * (x12.toInt - 0).toNat by omega⟩ (show 0 ≤ a1.toInt by omega) (show a1.toInt ≤ 9 by omega)) dX12_came_54 (fun H locs w18 hw hT k20 c19 => ?_)
        have hF := hF.put kM_at12 (inE_of (a := 288) (b := 295) (by decide) (show 288 ≤ x17.toInt.toNat by omega) (show x17.toInt.toNat ≤ 295 by omega)) k20
        have c21 := k20.gi (Or.inr (show 0 ≠ x17.toInt.toNat by omega)) c10
        have c22 := k20.gi (Or.inr (show 8 ≠ x17.toInt.toNat by omega)) c13
        refine lv_aload_n hx hb dX12_came_55 rfl (lv_at hl 0 rfl) ?_
        refine tk_getA hC hK hw hT hinX12 kM_at0 (by decide) rfl 26 (by decide) (List.mem_of_getElem? (i := 1) rfl) rfl rfl dX12_came_56 ?_
        refine lv_bipush (v := 8) hx hb dX12_came_59 (by decide) ?_
        refine lv_dup2_11 hx hb dX12_came_61 rfl rfl ?_
        refine tk_ialdR hC hK hw hT kM_at12 rfl (by decide) (by decide) dX12_came_62 (fun x23 c24 Ex23 => ?_)
        refine wk_top x12 (c24.symm.trans c22) ?_
        refine lv_iconst (v := 1) hx hb dX12_came_63 (by decide) ?_
        refine lv_iadd hx hb dX12_came_64 ?_
        refine lv_topi (fun x25 ex25 => ?_)
        have ex25 : x25.toInt = x12.toInt + (1 : Int) := by rw [ex25]; exact wk_add (show (-2147483648) ≤ x12.toInt + (1 : Int) by omega) (show x12.toInt + (1 : Int) ≤ 2147483647 by omega)
        refine tk_iastR hC hK hw hT kM_at12 (by decide) rfl (by decide) (by decide) (tk_rgS rfl 8 1 1 1 8 (by decide +kernel) ⟨0, by decide, by decide⟩ (show 1 ≤ x25.toInt by omega) (show x25.toInt ≤ 8 by omega)) dX12_came_65 (fun H locs w26 hw hT k28 c27 => ?_)
        have hF := hF.put kM_at12 (inE_of (a := 8) (b := 8) (by decide) (by decide) (by decide)) k28
        have c29 := k28.gi (Or.inr (by decide)) c21
        have c27 : gi w26 12 8 = x25 := c27
        refine lv_aload_n hx hb dX12_came_66 rfl (lv_at hl 0 rfl) ?_
        refine tk_getA hC hK hw hT hinX12 kM_at0 (by decide) rfl 26 (by decide) (List.mem_of_getElem? (i := 1) rfl) rfl rfl dX12_came_67 ?_
        refine lv_bipush (v := 8) hx hb dX12_came_70 (by decide) ?_
        refine tk_ialdR hC hK hw hT kM_at12 rfl (by decide) (by decide) dX12_came_72 (fun x30 c31 Ex30 => ?_)
        refine wk_top x25 (c31.symm.trans c27) ?_
        exact tk_iret hC hr hlocks hK ⟨hT, hF, (Or.inr ⟨(show 0 ≤ x25.toInt by omega), (show x25.toInt ≤ 8 by omega), (show (-1) ≤ a1.toInt by omega), (show a1.toInt ≤ 9 by omega), ⟨x25, c27, (show 0 ≤ x25.toInt by omega), (show x25.toInt ≤ 8 by omega)⟩⟩)⟩ hw dX12_came_73
      · have c14 : x12.toInt = (8 : Int) := wk_eq.mp c14
        exact J35  H locs ls w0   hw hT hF  (lv_sub hl [0, 1] rfl)
  · have c2 : a1.toInt = (-1 : Int) := wk_eq.mp c2
    refine lv_aload_n hx hb dX12_came_5 rfl (lv_at hl 0 rfl) ?_
    refine tk_getA hC hK hw hT hinX12 kM_at0 (by decide) rfl 26 (by decide) (List.mem_of_getElem? (i := 1) rfl) rfl rfl dX12_came_6 ?_
    refine lv_bipush (v := 8) hx hb dX12_came_9 (by decide) ?_
    refine lv_iconst (v := 0) hx hb dX12_came_11 (by decide) ?_
    refine tk_iastR hC hK hw hT kM_at12 (by decide) rfl (by decide) (by decide) (tk_rg0 rfl (show 0 ≤ B by omega) (by decide)) dX12_came_12 (fun H locs w32 hw hT k34 c33 => ?_)
    have hF := hF.put kM_at12 (inE_of (a := 8) (b := 8) (by decide) (by decide) (by decide)) k34
    have c33 : gi w32 12 8 = 0 := c33
    refine lv_iconst (v := 0) hx hb dX12_came_13 (by decide) ?_
    exact tk_iret hC hr hlocks hK ⟨hT, hF, (Or.inr ⟨(by decide), (by decide), (show (-1) ≤ a1.toInt by omega), (show a1.toInt ≤ 9 by omega), ⟨0, c33, (by decide), (by decide)⟩⟩)⟩ hw dX12_came_14
abbrev P_X12_isHis_1 (ad : Nat → Nat) (cy : Nat → ClassId) (B : Int) (qr : Nat) (s1 : Int) (a1 : Int32) (w0 : va_W) : Int32 → va_W → Prop := fun r u => TW ksM ad cy (B + 900) qr 12 u ∧ FE ksM [(12, 24, 24), (12, 31, 31), (69, 0, 64), (70, 0, 10), (71, 216, 243), (71, 220, 247), (71, 221, 248), (71, 222, 249), (71, 223, 250), (71, 224, 251), (72, 0, 12), (73, 0, 10)] w0 u ∧ ((r = 0) ∨ (r = 1))
set_option maxHeartbeats 4000000 in
set_option maxRecDepth 100000 in
theorem k_X12_isHis_1 (l : Launch) (adK adV : Nat → Nat) (dC : Nat → ClassId) (dI : Nat → Nat → Nat) (cy : Nat → ClassId) (ad : Nat → Nat) (B : Int) (hB0 : 100000 ≤ B) (hB1 : B ≤ 1073740924) (qr : Nat) (s1 : Int)  (a1 : Int32) (ra1 : 0 ≤ a1.toInt) (ta1 : a1.toInt ≤ 3) (w0 : va_W) (sz : Nat) (hT : TW ksM ad cy B qr 12 w0) (hRW : RW w0) : Met l yX12_isHis wsX12_isHis ({ frames := 9, cells := 0, slots := 0, locals := 194 }) (va_Pc [.ref (ad 0), .int a1] (wpreS adK adV dC dI cy sz w0)) (va_Qi (P_X12_isHis_1 ad cy B qr s1 a1 w0) (fun u : va_W => wpost dC dI cy (va_A w0 sz) u) (va_A w0 sz)) 0 0 (va_A w0 sz) := by
  refine Met.ofW (cc := cX12_isHis) (maxL := 4) (ret := (some .boolean)) (by decide) rfl ?_
  intro p e s m args below meth c s₁ Bk hml hv
  obtain ⟨rfl, ⟨hsz, hP, hK, hD0⟩, hE, hSR⟩ := hv
  have hx := Bk.exec
  have hb := Bk.bytes
  have hr := Bk.returns
  have hlocks := Bk.notSynchronized
  have hC : CallFix p m c cX12_isHis 4 s _ wsX12_isHis RX12 := ⟨hx, hb, hml, findClass_of_methodNamed Bk.named, atoms_spec (ws := wsX12_isHis) Bk.pre⟩
  subst hsz
  have hD := hD0.self (sz := s.heap.size)
  generalize hAe : va_A w0 s.heap.size = A at hD hE ⊢
  have hA : ∀ q : Nat, s.heap.size ≤ q → A q := fun q h => by rw [← hAe]; exact Or.inr h
  have hw : Wd dC dI A s.heap s.heap [] w0 := ⟨hP, hD, va_S.rf⟩
  have hF : FE ksM [(12, 24, 24), (12, 31, 31), (69, 0, 64), (70, 0, 10), (71, 216, 243), (71, 220, 247), (71, 221, 248), (71, 222, 249), (71, 223, 250), (71, 224, 251), (72, 0, 12), (73, 0, 10)] w0 w0 := FE.rf
  have hl := lv_entry ([.ref (ad 0), .int a1]) (n := 4) (Nat.le_of_ble_eq_true rfl)
  rw [lg_entry_eq]
  generalize (lg_sl ([.ref (ad 0), .int a1]) ++ List.replicate (4 - (lg_sl ([.ref (ad 0), .int a1])).length) Slot.unset).toArray = ls at hl ⊢
  have hl : lv_has ls 4 [(0, .ref (ad 0)), (1, .int a1)] := hl
  generalize hloc : ([] : List Loc) = locs at hw ⊢
  have hinX12 : ∀ w ∈ u_ws RX12 TX12 42, w ∈ wsX12_isHis := fun _ h => List.mem_cons_of_mem _ (List.mem_append_right _ (h))
  have J70 : ∀ (v70_2 : Int32) (v70_3 : Int32) (H : Heap) (locs : List Loc) (ls : Array Slot) (w1 : va_W), 0 ≤ a1.toInt → a1.toInt ≤ 3 → 0 ≤ v70_2.toInt → v70_2.toInt ≤ 8 → 0 ≤ v70_3.toInt → v70_3.toInt ≤ 100 → Wd dC dI A s.heap H locs w1 → TW ksM ad cy (B + 900) qr 12 w1 → FE ksM [(12, 24, 24), (12, 31, 31), (69, 0, 64), (70, 0, 10), (71, 216, 243), (71, 220, 247), (71, 221, 248), (71, 222, 249), (71, 223, 250), (71, 224, 251), (72, 0, 12), (73, 0, 10)] w0 w1 → RW w1 → lv_has ls 4 [(0, .ref (ad 0)), (1, .int a1), (2, .int v70_2), (3, .int v70_3)] → W p l e ({ frames := 9, cells := 0, slots := 0, locals := 194 }) s m (List.toArray [.ref (ad 0), .int a1]) below meth c H locs 0 0 (MQ below (va_Qi (P_X12_isHis_1 ad cy B qr s1 a1 w0) (fun u : va_W => wpost dC dI cy A u) A) (List.toArray [.ref (ad 0), .int a1]) s 0 0 A) (F0 m 70 ls []) := by
    intro v70_2 v70_3 H locs ls w1 r2 t3 r4 t5 r6 t7 hw hT hF hRW hl
    refine lv_iload_n hx hb dX12_isHis_70 rfl (lv_at hl 2 rfl) ?_
    refine lv_aload_n hx hb dX12_isHis_71 rfl (lv_at hl 0 rfl) ?_
    refine tk_getA hC hK hw hT hinX12 kM_at0 (by decide) rfl 26 (by decide) (List.mem_of_getElem? (i := 1) rfl) rfl rfl dX12_isHis_72 ?_
    refine lv_bipush (v := 8) hx hb dX12_isHis_75 (by decide) ?_
    refine tk_ialdR hC hK hw hT kM_at12 rfl (by decide) (by decide) dX12_isHis_77 (fun x8 c9 Ex8 => ?_)
    have bx8 := tk_rgI rfl 8 1 1 0 8 (by decide +kernel) ⟨0, by decide, by decide⟩ Ex8
    have c9 : gi w1 12 8 = x8 := c9
    refine lv_icmp_ne (tgt := 85) hx hb dX12_isHis_78 (by decide) (fun c10 => ?_) (fun c10 => ?_)
    · have c10 : ¬ v70_2.toInt = x8.toInt := wk_eqF c10
      refine lv_iconst (v := 0) hx hb dX12_isHis_85 (by decide) ?_
      exact tk_zret hC hr rfl hlocks hK ⟨hT, hF, (Or.inl rfl)⟩ hw dX12_isHis_86
    · have c10 : v70_2.toInt = x8.toInt := wk_eq.mp c10
      refine lv_iconst (v := 1) hx hb dX12_isHis_81 (by decide) ?_
      refine lv_goto (tgt := 86) hx hb dX12_isHis_82 (by decide) ?_
      exact tk_zret hC hr rfl hlocks hK ⟨hT, hF, (Or.inr rfl)⟩ hw dX12_isHis_86
  have L4 : ∀ (n4 : Nat) (v4_2 : Int32) (v4_3 : Int32) (H : Heap) (locs : List Loc) (ls : Array Slot) (w11 : va_W), 0 ≤ a1.toInt → a1.toInt ≤ 3 → 0 ≤ v4_2.toInt → v4_2.toInt ≤ 8 → 0 ≤ v4_3.toInt → v4_3.toInt ≤ 100 → (100 - v4_3.toInt).toNat < n4 → Wd dC dI A s.heap H locs w11 → TW ksM ad cy (B + 0 + 9 * v4_3.toInt) qr 12 w11 → FE ksM [(12, 24, 24), (12, 31, 31), (69, 0, 64), (70, 0, 10), (71, 216, 243), (71, 220, 247), (71, 221, 248), (71, 222, 249), (71, 223, 250), (71, 224, 251), (72, 0, 12), (73, 0, 10)] w0 w11 → RW w11 → lv_has ls 4 [(0, .ref (ad 0)), (1, .int a1), (2, .int v4_2), (3, .int v4_3)] → W p l e ({ frames := 9, cells := 0, slots := 0, locals := 194 }) s m (List.toArray [.ref (ad 0), .int a1]) below meth c H locs 0 0 (MQ below (va_Qi (P_X12_isHis_1 ad cy B qr s1 a1 w0) (fun u : va_W => wpost dC dI cy A u) A) (List.toArray [.ref (ad 0), .int a1]) s 0 0 A) (F0 m 4 ls []) := by
    intro n4
    induction n4 with
    | zero => intro v4_2 v4_3 H locs ls w11 r12 t13 r14 t15 r16 t17 hm4 hw hT hF hRW hl; omega
    | succ n4 ih4 =>
      intro v4_2 v4_3 H locs ls w11 r12 t13 r14 t15 r16 t17 hm4 hw hT hF hRW hl
      have J64 : ∀ (v64_2 : Int32) (f64_12_8 : Int32) (H : Heap) (locs : List Loc) (ls : Array Slot) (w18 : va_W), 0 ≤ a1.toInt → a1.toInt ≤ 3 → 0 ≤ v64_2.toInt → v64_2.toInt ≤ 8 → 0 ≤ v4_3.toInt → v4_3.toInt ≤ 99 → 1 ≤ f64_12_8.toInt → f64_12_8.toInt ≤ 8 → Wd dC dI A s.heap H locs w18 → TW ksM ad cy (B + 9 + 9 * v4_3.toInt) qr 12 w18 → FE ksM [(12, 24, 24), (12, 31, 31), (69, 0, 64), (70, 0, 10), (71, 216, 243), (71, 220, 247), (71, 221, 248), (71, 222, 249), (71, 223, 250), (71, 224, 251), (72, 0, 12), (73, 0, 10)] w0 w18 → RW w18 → gi w18 12 8 = f64_12_8 → lv_has ls 4 [(0, .ref (ad 0)), (1, .int a1), (2, .int v64_2), (3, .int v4_3)] → W p l e ({ frames := 9, cells := 0, slots := 0, locals := 194 }) s m (List.toArray [.ref (ad 0), .int a1]) below meth c H locs 0 0 (MQ below (va_Qi (P_X12_isHis_1 ad cy B qr s1 a1 w0) (fun u : va_W => wpost dC dI cy A u) A) (List.toArray [.ref (ad 0), .int a1]) s 0 0 A) (F0 m 64 ls []) := by
        intro v64_2 f64_12_8 H locs ls w18 r19 t20 r21 t22 r23 t24 r25 t26 hw hT hF hRW c27 hl
        obtain ⟨x28, ex28⟩ : ∃ y : Int32, y = v4_3 + Int32.ofInt 1 := ⟨_, rfl⟩
        refine lv_iinc (v := x28) (lv' := [(3, .int x28), (0, .ref (ad 0)), (1, .int a1), (2, .int v64_2)]) hx hb dX12_isHis_64 hl (k := 3) rfl ex28.symm (by decide) rfl (fun ls hl => ?_)
        have ex28 : x28.toInt = v4_3.toInt + 1 := by rw [ex28]; exact wk_add (y := 1) (show -2147483648 ≤ v4_3.toInt + 1 by omega) (show v4_3.toInt + 1 ≤ 2147483647 by omega)
        refine lv_goto (tgt := 4) hx hb dX12_isHis_67 (by decide) ?_
        exact ih4 v64_2 x28 H locs ls w18 (show 0 ≤ a1.toInt by omega) (show a1.toInt ≤ 3 by omega) (show 0 ≤ v64_2.toInt by omega) (show v64_2.toInt ≤ 8 by omega) (show 0 ≤ x28.toInt by omega) (show x28.toInt ≤ 100 by omega) (show (100 - x28.toInt).toNat < n4 by omega) hw (hT.up (show (B + 9 + 9 * v4_3.toInt) ≤ (B + 0 + 9 * x28.toInt) by omega)) hF hRW  (lv_sub hl [1, 2, 3, 0] rfl)
      refine lv_iload_n hx hb dX12_isHis_4 rfl (lv_at hl 3 rfl) ?_
      refine lv_bipush (v := 100) hx hb dX12_isHis_5 (by decide) ?_
      refine lv_icmp_ge (tgt := 70) hx hb dX12_isHis_7 (by decide) (fun c29 => ?_) (fun c29 => ?_)
      · have c29 : (100 : Int) ≤ v4_3.toInt := wk_le.mp c29
        exact J70 v4_2 v4_3 H locs ls w11 (show 0 ≤ a1.toInt by omega) (show a1.toInt ≤ 3 by omega) (show 0 ≤ v4_2.toInt by omega) (show v4_2.toInt ≤ 8 by omega) (show 0 ≤ v4_3.toInt by omega) (show v4_3.toInt ≤ 100 by omega)  hw (hT.up (show (B + 0 + 9 * v4_3.toInt) ≤ (B + 900) by omega)) hF hRW  (lv_sub hl [0, 1, 2, 3] rfl)
      · have c29 : v4_3.toInt < (100 : Int) := wk_leF c29
        refine lv_iload_n hx hb dX12_isHis_10 rfl (lv_at hl 2 rfl) ?_
        refine lv_aload_n hx hb dX12_isHis_11 rfl (lv_at hl 0 rfl) ?_
        refine tk_getA hC hK hw hT hinX12 kM_at0 (by decide) rfl 26 (by decide) (List.mem_of_getElem? (i := 1) rfl) rfl rfl dX12_isHis_12 ?_
        refine lv_bipush (v := 8) hx hb dX12_isHis_15 (by decide) ?_
        refine tk_ialdR hC hK hw hT kM_at12 rfl (by decide) (by decide) dX12_isHis_17 (fun x30 c31 Ex30 => ?_)
        have bx30 := tk_rgI rfl 8 1 1 0 8 (by decide +kernel) ⟨0, by decide, by decide⟩ Ex30
        have c31 : gi w11 12 8 = x30 := c31
        refine lv_icmp_ge (tgt := 70) hx hb dX12_isHis_18 (by decide) (fun c32 => ?_) (fun c32 => ?_)
        · have c32 : x30.toInt ≤ v4_2.toInt := wk_le.mp c32
          exact J70 v4_2 v4_3 H locs ls w11 (show 0 ≤ a1.toInt by omega) (show a1.toInt ≤ 3 by omega) (show 0 ≤ v4_2.toInt by omega) (show v4_2.toInt ≤ 8 by omega) (show 0 ≤ v4_3.toInt by omega) (show v4_3.toInt ≤ 100 by omega)  hw (hT.up (show (B + 0 + 9 * v4_3.toInt) ≤ (B + 900) by omega)) hF hRW  (lv_sub hl [0, 1, 2, 3] rfl)
        · have c32 : v4_2.toInt < x30.toInt := wk_leF c32
          refine lv_aload_n hx hb dX12_isHis_21 rfl (lv_at hl 0 rfl) ?_
          refine lv_iload_n hx hb dX12_isHis_22 rfl (lv_at hl 1 rfl) ?_
          refine tk_Vi hC hK hw hT hA hE hSR kM_at0 (by decide) rfl (k_X12_isThere_1 l adK adV dC dI cy ad (B + 0 + 9 * v4_3.toInt) (by omega) (by omega) qr s1   a1 (show 0 ≤ a1.toInt by omega) (show a1.toInt ≤ 3 by omega) w11 H.size hT ) (cwV 1 hC.2.2.2.2 gX12_isHis_X12_isThere rfl rfl rfl (by decide +kernel) ⟨Nat.le_of_ble_eq_true rfl, Nat.le_of_ble_eq_true rfl⟩) rfl hl.1 rfl (Nat.le_of_ble_eq_true rfl) dX12_isHis_23 (fun r33 w35 H locs hp34 hw => ?_)
          obtain ⟨rfl, hg37⟩ := hp34
          rcases hg37 with rfl | rfl
          · refine lv_if_ne (tgt := 70) hx hb dX12_isHis_26 (by decide) (fun c => absurd (by decide) c) (fun _ => ?_)
            refine lv_aload_n hx hb dX12_isHis_29 rfl (lv_at hl 0 rfl) ?_
            refine lv_iload_n hx hb dX12_isHis_30 rfl (lv_at hl 1 rfl) ?_
            refine tk_Vi hC hK hw hT hA hE hSR kM_at0 (by decide) rfl (k_X12_steps_1 l adK adV dC dI cy ad (B + 0 + 9 * v4_3.toInt) (by omega) (by omega) qr s1   a1 (show 0 ≤ a1.toInt by omega) (show a1.toInt ≤ 3 by omega) w11 H.size hT hRW) (cwV 1 hC.2.2.2.2 gX12_isHis_X12_steps rfl rfl rfl (by decide +kernel) ⟨Nat.le_of_ble_eq_true rfl, Nat.le_of_ble_eq_true rfl⟩) rfl hl.1 rfl (Nat.le_of_ble_eq_true rfl) dX12_isHis_31 (fun r38 w40 H locs hp39 hw => ?_)
            obtain ⟨hT, k41, hg42⟩ := hp39
            have hT := hT.up (B' := (B + 9 + 9 * v4_3.toInt)) (by omega)
            have hRW := RW_FE k41 (fun _ => rfl) (fun _ => rfl) (fun _ => rfl) hRW
            have hF := hF.tr k41 (by decide)
            have c43 := k41.gi kM_at12 (by decide) c31
            rcases hg42 with rfl | rfl
            · refine lv_if_ne (tgt := 40) hx hb dX12_isHis_34 (by decide) (fun c => absurd (by decide) c) (fun _ => ?_)
              refine lv_goto (tgt := 64) hx hb dX12_isHis_37 (by decide) ?_
              exact J64 v4_2 x30 H locs ls w40 (show 0 ≤ a1.toInt by omega) (show a1.toInt ≤ 3 by omega) (show 0 ≤ v4_2.toInt by omega) (show v4_2.toInt ≤ 8 by omega) (show 0 ≤ v4_3.toInt by omega) (show v4_3.toInt ≤ 99 by omega) (show 1 ≤ x30.toInt by omega) (show x30.toInt ≤ 8 by omega)  hw hT hF hRW c43 (lv_sub hl [0, 1, 2, 3] rfl)
            · refine lv_if_ne (tgt := 40) hx hb dX12_isHis_34 (by decide) (fun _ => ?_) (fun c => absurd c (by decide))
              refine lv_aload_n hx hb dX12_isHis_40 rfl (lv_at hl 0 rfl) ?_
              refine lv_iload_n hx hb dX12_isHis_41 rfl (lv_at hl 1 rfl) ?_
              refine lv_iconst (v := 0) hx hb dX12_isHis_42 (by decide) ?_
              refine tk_Vi hC hK hw hT hA hE hSR kM_at0 (by decide) rfl (k_X12_walkerOf_2 l adK adV dC dI cy ad (B + 9 + 9 * v4_3.toInt) (by omega) (by omega) qr s1   a1 (show 0 ≤ a1.toInt by omega) (show a1.toInt ≤ 3 by omega) w40 H.size hT ) (cwV 2 hC.2.2.2.2 gX12_isHis_X12_walkerOf rfl rfl rfl (by decide +kernel) ⟨Nat.le_of_ble_eq_true rfl, Nat.le_of_ble_eq_true rfl⟩) rfl hl.1 rfl (Nat.le_of_ble_eq_true rfl) dX12_isHis_43 (fun r44 w46 H locs hp45 hw => ?_)
              obtain ⟨rfl, hg51⟩ := hp45
              obtain ⟨g48, g49, c50⟩ := hg51
              refine lv_aload_n hx hb dX12_isHis_46 rfl (lv_at hl 0 rfl) ?_
              refine tk_getA hC hK hw hT hinX12 kM_at0 (by decide) rfl 26 (by decide) (List.mem_of_getElem? (i := 1) rfl) rfl rfl dX12_isHis_47 ?_
              refine lv_sipush (v := 288) hx hb dX12_isHis_50 (by decide) ?_
              refine lv_iload_n hx hb dX12_isHis_53 rfl (lv_at hl 2 rfl) ?_
              refine lv_iadd hx hb dX12_isHis_54 ?_
              refine lv_topi (fun x52 ex52 => ?_)
              have ex52 : x52.toInt = (288 : Int) + v4_2.toInt := by rw [ex52]; exact wk_add (show (-2147483648) ≤ (288 : Int) + v4_2.toInt by omega) (show (288 : Int) + v4_2.toInt ≤ 2147483647 by omega)
              refine tk_ialdR hC hK hw hT kM_at12 rfl (show 0 ≤ x52.toInt by omega) (show x52.toInt < 296 by omega) dX12_isHis_55 (fun x53 c54 Ex53 => ?_)
              have c54 : gi w40 12 (1 * v4_2.toInt + 288).toNat = x53 := (congrArg (gi w40 12) (congrArg Int.toNat (show 1 * v4_2.toInt + 288 = x52.toInt by omega))).trans c54
              refine lv_icmp_eq (tgt := 61) hx hb dX12_isHis_56 (by decide) (fun c55 => ?_) (fun c55 => ?_)
              · have c55 : r44.toInt = x53.toInt := wk_eq.mp c55
                obtain ⟨x56, ex56⟩ : ∃ y : Int32, y = v4_2 + Int32.ofInt 1 := ⟨_, rfl⟩
                refine lv_iinc (v := x56) (lv' := [(2, .int x56), (0, .ref (ad 0)), (1, .int a1), (3, .int v4_3)]) hx hb dX12_isHis_61 hl (k := 2) rfl ex56.symm (by decide) rfl (fun ls hl => ?_)
                have ex56 : x56.toInt = v4_2.toInt + 1 := by rw [ex56]; exact wk_add (y := 1) (show -2147483648 ≤ v4_2.toInt + 1 by omega) (show v4_2.toInt + 1 ≤ 2147483647 by omega)
                exact J64 x56 x30 H locs ls w40 (show 0 ≤ a1.toInt by omega) (show a1.toInt ≤ 3 by omega) (show 0 ≤ x56.toInt by omega) (show x56.toInt ≤ 8 by omega) (show 0 ≤ v4_3.toInt by omega) (show v4_3.toInt ≤ 99 by omega) (show 1 ≤ x30.toInt by omega) (show x30.toInt ≤ 8 by omega)  hw hT hF hRW c43 (lv_sub hl [1, 2, 0, 3] rfl)
              · have c55 : ¬ r44.toInt = x53.toInt := wk_eqF c55
                refine lv_iconst (v := 0) hx hb dX12_isHis_59 (by decide) ?_
                exact tk_zret hC hr rfl hlocks hK ⟨(hT.up (show (B + 9 + 9 * v4_3.toInt) ≤ (B + 900) by omega)), hF, (Or.inl rfl)⟩ hw dX12_isHis_60
          · refine lv_if_ne (tgt := 70) hx hb dX12_isHis_26 (by decide) (fun _ => ?_) (fun c => absurd c (by decide))
            exact J70 v4_2 v4_3 H locs ls w11 (show 0 ≤ a1.toInt by omega) (show a1.toInt ≤ 3 by omega) (show 0 ≤ v4_2.toInt by omega) (show v4_2.toInt ≤ 8 by omega) (show 0 ≤ v4_3.toInt by omega) (show v4_3.toInt ≤ 100 by omega)  hw (hT.up (show (B + 0 + 9 * v4_3.toInt) ≤ (B + 900) by omega)) hF hRW  (lv_sub hl [0, 1, 2, 3] rfl)
  refine lv_iconst (v := 0) hx hb dX12_isHis_0 (by decide) ?_
  refine lv_istore_n (lv' := [(2, .int 0), (0, .ref (ad 0)), (1, .int a1)]) hx hb dX12_isHis_1 rfl hl (by decide) rfl (fun ls hl => ?_)
  refine lv_iconst (v := 0) hx hb dX12_isHis_2 (by decide) ?_
  refine lv_istore_n (lv' := [(3, .int 0), (2, .int 0), (0, .ref (ad 0)), (1, .int a1)]) hx hb dX12_isHis_3 rfl hl (by decide) rfl (fun ls hl => ?_)
  exact L4 ((100 - (0 : Int)).toNat + 1) 0 0 s.heap locs ls w0 (show 0 ≤ a1.toInt by omega) (show a1.toInt ≤ 3 by omega) (by decide) (by decide) (by decide) (by decide) (Nat.lt_succ_self _) hw (hT.up (show B ≤ (B + 0 + 9 * (0 : Int32).toInt) by rw [show (0 : Int32).toInt = 0 by decide]; omega)) hF hRW  (lv_sub hl [2, 3, 1, 0] rfl)
abbrev P_X12_had_1 (ad : Nat → Nat) (cy : Nat → ClassId) (B : Int) (qr : Nat) (s1 : Int) (a1 : Int32) (w0 : va_W) : Int32 → va_W → Prop := fun r u => TW ksM ad cy (B + 3600) qr 12 u ∧ FE ksM [(12, 24, 24), (12, 31, 31), (69, 0, 64), (70, 0, 10), (71, 0, 295), (71, 216, 243), (71, 218, 245), (71, 220, 247), (71, 221, 248), (71, 222, 249), (71, 223, 250), (71, 224, 251), (72, 0, 12), (73, 0, 10), (74, 0, 296)] w0 u ∧ ((0 ≤ r.toInt ∧ r.toInt ≤ 15 ∧ 0 ≤ a1.toInt ∧ a1.toInt ≤ 3) ∨ (r = (-1)))
set_option maxHeartbeats 4000000 in
set_option maxRecDepth 100000 in
theorem k_X12_had_1 (l : Launch) (adK adV : Nat → Nat) (dC : Nat → ClassId) (dI : Nat → Nat → Nat) (cy : Nat → ClassId) (ad : Nat → Nat) (B : Int) (hB0 : 100000 ≤ B) (hB1 : B ≤ 1073738224) (qr : Nat) (s1 : Int)  (a1 : Int32) (w0 : va_W) (sz : Nat) (hT : TW ksM ad cy B qr 12 w0) (hRW : RW w0) : Met l yX12_had wsX12_had ({ frames := 10, cells := 0, slots := 0, locals := 217 }) (va_Pc [.ref (ad 0), .int a1] (wpreS adK adV dC dI cy sz w0)) (va_Qi (P_X12_had_1 ad cy B qr s1 a1 w0) (fun u : va_W => wpost dC dI cy (va_A w0 sz) u) (va_A w0 sz)) 0 0 (va_A w0 sz) := by
  refine Met.ofW (cc := cX12_had) (maxL := 4) (ret := (some .int)) (by decide) rfl ?_
  intro p e s m args below meth c s₁ Bk hml hv
  obtain ⟨rfl, ⟨hsz, hP, hK, hD0⟩, hE, hSR⟩ := hv
  have hx := Bk.exec
  have hb := Bk.bytes
  have hr := Bk.returns
  have hlocks := Bk.notSynchronized
  have hC : CallFix p m c cX12_had 4 s _ wsX12_had RX12 := ⟨hx, hb, hml, findClass_of_methodNamed Bk.named, atoms_spec (ws := wsX12_had) Bk.pre⟩
  subst hsz
  have hD := hD0.self (sz := s.heap.size)
  generalize hAe : va_A w0 s.heap.size = A at hD hE ⊢
  have hA : ∀ q : Nat, s.heap.size ≤ q → A q := fun q h => by rw [← hAe]; exact Or.inr h
  have hw : Wd dC dI A s.heap s.heap [] w0 := ⟨hP, hD, va_S.rf⟩
  have hF : FE ksM [(12, 24, 24), (12, 31, 31), (69, 0, 64), (70, 0, 10), (71, 0, 295), (71, 216, 243), (71, 218, 245), (71, 220, 247), (71, 221, 248), (71, 222, 249), (71, 223, 250), (71, 224, 251), (72, 0, 12), (73, 0, 10), (74, 0, 296)] w0 w0 := FE.rf
  have hl := lv_entry ([.ref (ad 0), .int a1]) (n := 4) (Nat.le_of_ble_eq_true rfl)
  rw [lg_entry_eq]
  generalize (lg_sl ([.ref (ad 0), .int a1]) ++ List.replicate (4 - (lg_sl ([.ref (ad 0), .int a1])).length) Slot.unset).toArray = ls at hl ⊢
  have hl : lv_has ls 4 [(0, .ref (ad 0)), (1, .int a1)] := hl
  generalize hloc : ([] : List Loc) = locs at hw ⊢
  have hinX12 : ∀ w ∈ u_ws RX12 TX12 42, w ∈ wsX12_had := fun _ h => List.mem_cons_of_mem _ (List.mem_append_right _ (h))
  have L18 : ∀ (n18 : Nat) (v18_2 : Int32) (v18_3 : Int32) (H : Heap) (locs : List Loc) (ls : Array Slot) (w1 : va_W), 0 ≤ a1.toInt → a1.toInt ≤ 3 → 0 ≤ v18_2.toInt → v18_2.toInt ≤ 15 → 0 ≤ v18_3.toInt → v18_3.toInt ≤ 4 → (4 - v18_3.toInt).toNat < n18 → Wd dC dI A s.heap H locs w1 → TW ksM ad cy (B + 0 + 900 * v18_3.toInt) qr 12 w1 → FE ksM [(12, 24, 24), (12, 31, 31), (69, 0, 64), (70, 0, 10), (71, 0, 295), (71, 216, 243), (71, 218, 245), (71, 220, 247), (71, 221, 248), (71, 222, 249), (71, 223, 250), (71, 224, 251), (72, 0, 12), (73, 0, 10), (74, 0, 296)] w0 w1 → RW w1 → lv_has ls 4 [(0, .ref (ad 0)), (1, .int a1), (2, .int v18_2), (3, .int v18_3)] → W p l e ({ frames := 10, cells := 0, slots := 0, locals := 217 }) s m (List.toArray [.ref (ad 0), .int a1]) below meth c H locs 0 0 (MQ below (va_Qi (P_X12_had_1 ad cy B qr s1 a1 w0) (fun u : va_W => wpost dC dI cy A u) A) (List.toArray [.ref (ad 0), .int a1]) s 0 0 A) (F0 m 18 ls []) := by
    intro n18
    induction n18 with
    | zero => intro v18_2 v18_3 H locs ls w1 r2 t3 r4 t5 r6 t7 hm18 hw hT hF hRW hl; omega
    | succ n18 ih18 =>
      intro v18_2 v18_3 H locs ls w1 r2 t3 r4 t5 r6 t7 hm18 hw hT hF hRW hl
      refine lv_iload_n hx hb dX12_had_18 rfl (lv_at hl 3 rfl) ?_
      refine lv_aload_n hx hb dX12_had_19 rfl (lv_at hl 0 rfl) ?_
      refine tk_getA hC hK hw hT hinX12 kM_at0 (by decide) rfl 32 (by decide) (List.mem_of_getElem? (i := 1) rfl) rfl rfl dX12_had_20 ?_
      refine lv_iconst (v := 4) hx hb dX12_had_23 (by decide) ?_
      refine tk_ialdR hC hK hw hT kM_at15 rfl (by decide) (by decide) dX12_had_24 (fun x8 c9 Ex8 => ?_)
      have bx8 := tk_rgI rfl 4 1 1 0 4 (by decide +kernel) ⟨0, by decide, by decide⟩ Ex8
      have c9 : gi w1 15 4 = x8 := c9
      refine lv_icmp_ge (tgt := 72) hx hb dX12_had_25 (by decide) (fun c10 => ?_) (fun c10 => ?_)
      · have c10 : x8.toInt ≤ v18_3.toInt := wk_le.mp c10
        refine lv_iload_n hx hb dX12_had_72 rfl (lv_at hl 2 rfl) ?_
        exact tk_iret hC hr hlocks hK ⟨(hT.up (show (B + 0 + 900 * v18_3.toInt) ≤ (B + 3600) by omega)), hF, (Or.inl ⟨(show 0 ≤ v18_2.toInt by omega), (show v18_2.toInt ≤ 15 by omega), (show 0 ≤ a1.toInt by omega), (show a1.toInt ≤ 3 by omega)⟩)⟩ hw dX12_had_73
      · have c10 : v18_3.toInt < x8.toInt := wk_leF c10
        refine lv_aload_n hx hb dX12_had_28 rfl (lv_at hl 0 rfl) ?_
        refine tk_getA hC hK hw hT hinX12 kM_at0 (by decide) rfl 26 (by decide) (List.mem_of_getElem? (i := 2) rfl) rfl rfl dX12_had_29 ?_
        refine lv_sipush (v := 216) hx hb dX12_had_32 (by decide) ?_
        refine lv_bipush (v := 9) hx hb dX12_had_35 (by decide) ?_
        refine lv_iload_n hx hb dX12_had_37 rfl (lv_at hl 1 rfl) ?_
        refine lv_imul hx hb dX12_had_38 ?_
        refine lv_topi (fun x11 ex11 => ?_)
        have ex11 : x11.toInt = (9 : Int) * a1.toInt := by rw [ex11]; exact wk_mul (show (-2147483648) ≤ (9 : Int) * a1.toInt by omega) (show (9 : Int) * a1.toInt ≤ 2147483647 by omega)
        refine lv_iadd hx hb dX12_had_39 ?_
        refine lv_topi (fun x12 ex12 => ?_)
        have ex12 : x12.toInt = (216 : Int) + x11.toInt := by rw [ex12]; exact wk_add (show (-2147483648) ≤ (216 : Int) + x11.toInt by omega) (show (216 : Int) + x11.toInt ≤ 2147483647 by omega)
        refine lv_iconst (v := 2) hx hb dX12_had_40 (by decide) ?_
        refine lv_iadd hx hb dX12_had_41 ?_
        refine lv_topi (fun x13 ex13 => ?_)
        have ex13 : x13.toInt = x12.toInt + (2 : Int) := by rw [ex13]; exact wk_add (show (-2147483648) ≤ x12.toInt + (2 : Int) by omega) (show x12.toInt + (2 : Int) ≤ 2147483647 by omega)
        refine lv_iload_n hx hb dX12_had_42 rfl (lv_at hl 3 rfl) ?_
        refine tk_iastR hC hK hw hT kM_at12 (by decide) rfl (show 0 ≤ x13.toInt by omega) (show x13.toInt < 296 by omega) (tk_rgS rfl 218 9 4 0 3 (by decide +kernel) ⟨(a1.toInt - 0).toNat, by omega, show x13.toInt.toNat = 218 + 9 * (a1.toInt - 0).toNat by omega⟩ (show 0 ≤ v18_3.toInt by omega) (show v18_3.toInt ≤ 3 by omega)) dX12_had_43 (fun H locs w14 hw hT k16 c15 => ?_)
        have hRW := RW_F1 k16 (by decide) (by decide) (by decide) hRW
        have hF := hF.put kM_at12 (inE_of (a := 218) (b := 245) (by decide) (show 218 ≤ x13.toInt.toNat by omega) (show x13.toInt.toNat ≤ 245 by omega)) k16
        have c17 := k16.gi (Or.inl (tk_ne kM_at15 kM_at12 (by decide))) c9
        refine lv_iload_n hx hb dX12_had_44 rfl (lv_at hl 2 rfl) ?_
        refine lv_aload_n hx hb dX12_had_45 rfl (lv_at hl 0 rfl) ?_
        refine lv_iload_n hx hb dX12_had_46 rfl (lv_at hl 1 rfl) ?_
        refine tk_Vi hC hK hw hT hA hE hSR kM_at0 (by decide) rfl (k_X12_isHis_1 l adK adV dC dI cy ad (B + 0 + 900 * v18_3.toInt) (by omega) (by omega) qr s1   a1 (show 0 ≤ a1.toInt by omega) (show a1.toInt ≤ 3 by omega) w14 H.size hT hRW) (cwV 1 hC.2.2.2.2 gX12_had_X12_isHis rfl rfl rfl (by decide +kernel) ⟨Nat.le_of_ble_eq_true rfl, Nat.le_of_ble_eq_true rfl⟩) rfl hl.1 rfl (Nat.le_of_ble_eq_true rfl) dX12_had_47 (fun r18 w20 H locs hp19 hw => ?_)
        obtain ⟨hT, k21, hg22⟩ := hp19
        have hT := hT.up (B' := (B + 900 + 900 * v18_3.toInt)) (by omega)
        have hRW := RW_FE k21 (fun _ => rfl) (fun _ => rfl) (fun _ => rfl) hRW
        have hF := hF.tr k21 (by decide)
        have c23 := k21.gi kM_at15 (by decide) c17
        rcases hg22 with rfl | rfl
        · refine lv_if_eq (tgt := 59) hx hb dX12_had_50 (by decide) (fun _ => ?_) (fun c => absurd (by decide) c)
          refine lv_iconst (v := 0) hx hb dX12_had_59 (by decide) ?_
          refine lv_ior hx hb dX12_had_60 ?_
          refine lv_topi (fun x24 ex24 => ?_)
          have bx24 : 0 ≤ x24.toInt ∧ x24.toInt < 16 := by rw [ex24]; exact wk_or 4 (by decide) (by omega) (by omega) (by decide) (by decide)
          have mx24 : v18_2.toInt ≤ x24.toInt ∧ (0 : Int) ≤ x24.toInt := by rw [ex24]; exact wk_orL 4 (by decide) (by omega) (by omega) (by decide) (by decide)
          refine lv_istore_n (lv' := [(2, .int x24), (0, .ref (ad 0)), (1, .int a1), (3, .int v18_3)]) hx hb dX12_had_61 rfl hl (by decide) rfl (fun ls hl => ?_)
          refine lv_aload_n hx hb dX12_had_62 rfl (lv_at hl 1 rfl) ?_
          refine tk_Vv hC hK hw hT hA hE hSR kM_at0 (by decide) rfl (k_X12_putsBack_1 l adK adV dC dI cy ad (B + 900 + 900 * v18_3.toInt) (by omega) (by omega) qr s1    w20 H.size hT ) (cwV 0 hC.2.2.2.2 gX12_had_X12_putsBack rfl rfl rfl (by decide +kernel) ⟨Nat.le_of_ble_eq_true rfl, Nat.le_of_ble_eq_true rfl⟩) rfl hl.1 rfl (Nat.le_of_ble_eq_true rfl) dX12_had_63 (fun w27 H locs hp26 hw => ?_)
          obtain ⟨hT, k28, hg32⟩ := hp26
          have hRW := RW_FE k28 (fun _ => rfl) (fun _ => rfl) (fun _ => rfl) hRW
          have hF := hF.tr k28 (by decide)
          have c33 := k28.gi kM_at15 (by decide) c23
          obtain ⟨c29, c30, c31⟩ := hg32
          obtain ⟨x34, ex34⟩ : ∃ y : Int32, y = v18_3 + Int32.ofInt 1 := ⟨_, rfl⟩
          refine lv_iinc (v := x34) (lv' := [(3, .int x34), (2, .int x24), (0, .ref (ad 0)), (1, .int a1)]) hx hb dX12_had_66 hl (k := 3) rfl ex34.symm (by decide) rfl (fun ls hl => ?_)
          have ex34 : x34.toInt = v18_3.toInt + 1 := by rw [ex34]; exact wk_add (y := 1) (show -2147483648 ≤ v18_3.toInt + 1 by omega) (show v18_3.toInt + 1 ≤ 2147483647 by omega)
          refine lv_goto (tgt := 18) hx hb dX12_had_69 (by decide) ?_
          exact ih18 x24 x34 H locs ls w27 (show 0 ≤ a1.toInt by omega) (show a1.toInt ≤ 3 by omega) (show 0 ≤ x24.toInt by omega) (show x24.toInt ≤ 15 by omega) (show 0 ≤ x34.toInt by omega) (show x34.toInt ≤ 4 by omega) (show (4 - x34.toInt).toNat < n18 by omega) hw (hT.up (show (B + 900 + 900 * v18_3.toInt) ≤ (B + 0 + 900 * x34.toInt) by omega)) hF hRW  (lv_sub hl [2, 3, 1, 0] rfl)
        · refine lv_if_eq (tgt := 59) hx hb dX12_had_50 (by decide) (fun c => absurd c (by decide)) (fun _ => ?_)
          refine lv_iconst (v := 1) hx hb dX12_had_53 (by decide) ?_
          refine lv_iload_n hx hb dX12_had_54 rfl (lv_at hl 3 rfl) ?_
          refine lv_ishl hx hb dX12_had_55 ?_
          refine lv_topi (fun x35 ex35 => ?_)
          have bx35 : 1 ≤ x35.toInt ∧ x35.toInt ≤ 8 := by rw [ex35]; exact wk_shl1 3 (by decide) (by omega) (by omega)
          refine lv_goto (tgt := 60) hx hb dX12_had_56 (by decide) ?_
          refine lv_ior hx hb dX12_had_60 ?_
          refine lv_topi (fun x36 ex36 => ?_)
          have bx36 : 0 ≤ x36.toInt ∧ x36.toInt < 16 := by rw [ex36]; exact wk_or 4 (by decide) (by omega) (by omega) (by omega) (by omega)
          have mx36 : v18_2.toInt ≤ x36.toInt ∧ x35.toInt ≤ x36.toInt := by rw [ex36]; exact wk_orL 4 (by decide) (by omega) (by omega) (by omega) (by omega)
          refine lv_istore_n (lv' := [(2, .int x36), (0, .ref (ad 0)), (1, .int a1), (3, .int v18_3)]) hx hb dX12_had_61 rfl hl (by decide) rfl (fun ls hl => ?_)
          refine lv_aload_n hx hb dX12_had_62 rfl (lv_at hl 1 rfl) ?_
          refine tk_Vv hC hK hw hT hA hE hSR kM_at0 (by decide) rfl (k_X12_putsBack_1 l adK adV dC dI cy ad (B + 900 + 900 * v18_3.toInt) (by omega) (by omega) qr s1    w20 H.size hT ) (cwV 0 hC.2.2.2.2 gX12_had_X12_putsBack rfl rfl rfl (by decide +kernel) ⟨Nat.le_of_ble_eq_true rfl, Nat.le_of_ble_eq_true rfl⟩) rfl hl.1 rfl (Nat.le_of_ble_eq_true rfl) dX12_had_63 (fun w39 H locs hp38 hw => ?_)
          obtain ⟨hT, k40, hg44⟩ := hp38
          have hRW := RW_FE k40 (fun _ => rfl) (fun _ => rfl) (fun _ => rfl) hRW
          have hF := hF.tr k40 (by decide)
          have c45 := k40.gi kM_at15 (by decide) c23
          obtain ⟨c41, c42, c43⟩ := hg44
          obtain ⟨x46, ex46⟩ : ∃ y : Int32, y = v18_3 + Int32.ofInt 1 := ⟨_, rfl⟩
          refine lv_iinc (v := x46) (lv' := [(3, .int x46), (2, .int x36), (0, .ref (ad 0)), (1, .int a1)]) hx hb dX12_had_66 hl (k := 3) rfl ex46.symm (by decide) rfl (fun ls hl => ?_)
          have ex46 : x46.toInt = v18_3.toInt + 1 := by rw [ex46]; exact wk_add (y := 1) (show -2147483648 ≤ v18_3.toInt + 1 by omega) (show v18_3.toInt + 1 ≤ 2147483647 by omega)
          refine lv_goto (tgt := 18) hx hb dX12_had_69 (by decide) ?_
          exact ih18 x36 x46 H locs ls w39 (show 0 ≤ a1.toInt by omega) (show a1.toInt ≤ 3 by omega) (show 0 ≤ x36.toInt by omega) (show x36.toInt ≤ 15 by omega) (show 0 ≤ x46.toInt by omega) (show x46.toInt ≤ 4 by omega) (show (4 - x46.toInt).toNat < n18 by omega) hw (hT.up (show (B + 900 + 900 * v18_3.toInt) ≤ (B + 0 + 900 * x46.toInt) by omega)) hF hRW  (lv_sub hl [2, 3, 1, 0] rfl)
  refine lv_aload_n hx hb dX12_had_0 rfl (lv_at hl 0 rfl) ?_
  refine lv_iload_n hx hb dX12_had_1 rfl (lv_at hl 1 rfl) ?_
  refine tk_Vi hC hK hw hT hA hE hSR kM_at0 (by decide) rfl (k_X12_isWalker_1 l adK adV dC dI cy ad B (by omega) (by omega) qr s1   a1 w0 s.heap.size hT ) (cwV 1 hC.2.2.2.2 gX12_had_X12_isWalker rfl rfl rfl (by decide +kernel) ⟨Nat.le_of_ble_eq_true rfl, Nat.le_of_ble_eq_true rfl⟩) rfl hl.1 rfl (Nat.le_of_ble_eq_true rfl) dX12_had_2 (fun r47 w49 H locs hp48 hw => ?_)
  obtain ⟨rfl, hg55⟩ := hp48
  rcases hg55 with rfl | ⟨rfl, g51, g52, ⟨x53, c54, rx53, tx53⟩⟩
  · refine lv_if_ne (tgt := 10) hx hb dX12_had_5 (by decide) (fun c => absurd (by decide) c) (fun _ => ?_)
    refine lv_iconst (v := (-1)) hx hb dX12_had_8 (by decide) ?_
    exact tk_iret hC hr hlocks hK ⟨(hT.up (show B ≤ (B + 3600) by omega)), hF, (Or.inr rfl)⟩ hw dX12_had_9
  · refine lv_if_ne (tgt := 10) hx hb dX12_had_5 (by decide) (fun _ => ?_) (fun c => absurd c (by decide))
    refine lv_iconst (v := 0) hx hb dX12_had_10 (by decide) ?_
    refine lv_istore_n (lv' := [(2, .int 0), (0, .ref (ad 0)), (1, .int a1)]) hx hb dX12_had_11 rfl hl (by decide) rfl (fun ls hl => ?_)
    refine lv_aload_n hx hb dX12_had_12 rfl (lv_at hl 1 rfl) ?_
    refine tk_Vv hC hK hw hT hA hE hSR kM_at0 (by decide) rfl (k_X12_keeps_1 l adK adV dC dI cy ad B (by omega) (by omega) qr s1    w0 H.size hT ) (cwV 0 hC.2.2.2.2 gX12_had_X12_keeps rfl rfl rfl (by decide +kernel) ⟨Nat.le_of_ble_eq_true rfl, Nat.le_of_ble_eq_true rfl⟩) rfl hl.1 rfl (Nat.le_of_ble_eq_true rfl) dX12_had_13 (fun w58 H locs hp57 hw => ?_)
    obtain ⟨hT, k59, hg63⟩ := hp57
    have hRW := RW_FE k59 (fun _ => rfl) (fun _ => rfl) (fun _ => rfl) hRW
    have hF := hF.tr k59 (by decide)
    have c64 := k59.gi kM_at12 (by decide) c54
    obtain ⟨c60, c61, c62⟩ := hg63
    refine lv_iconst (v := 0) hx hb dX12_had_16 (by decide) ?_
    refine lv_istore_n (lv' := [(3, .int 0), (2, .int 0), (0, .ref (ad 0)), (1, .int a1)]) hx hb dX12_had_17 rfl hl (by decide) rfl (fun ls hl => ?_)
    exact L18 ((4 - (0 : Int)).toNat + 1) 0 0 H locs ls w58 (show 0 ≤ a1.toInt by omega) (show a1.toInt ≤ 3 by omega) (by decide) (by decide) (by decide) (by decide) (Nat.lt_succ_self _) hw (hT.up (show B ≤ (B + 0 + 900 * (0 : Int32).toInt) by rw [show (0 : Int32).toInt = 0 by decide]; omega)) hF hRW  (lv_sub hl [2, 3, 1, 0] rfl)
abbrev P_X12_isOf_9 (ad : Nat → Nat) (cy : Nat → ClassId) (B : Int) (qr : Nat) (s1 : Int) (a0 : Int32) (w0 : va_W) : Int32 → va_W → Prop := fun r u => w0 = u ∧ ((r = 0 ∧ (¬ mOf a0 (0 : Int32))) ∨ (r = 1 ∧ (mOf a0 (0 : Int32))))
set_option maxHeartbeats 4000000 in
set_option maxRecDepth 100000 in
theorem k_X12_isOf_9 (l : Launch) (adK adV : Nat → Nat) (dC : Nat → ClassId) (dI : Nat → Nat → Nat) (cy : Nat → ClassId) (ad : Nat → Nat) (B : Int) (hB0 : 100000 ≤ B) (hB1 : B ≤ 1073741824) (qr : Nat) (s1 : Int)  (a0 : Int32) (ra0 : 0 ≤ a0.toInt) (ta0 : a0.toInt ≤ 9) (w0 : va_W) (sz : Nat) (hT : TW ksM ad cy B qr 13 w0)  : Met l yX12_isOf wsX12_isOf ({ frames := 1, cells := 0, slots := 0, locals := 12 }) (va_Pc [.int a0, .int 0] (wpreS adK adV dC dI cy sz w0)) (va_Qi (P_X12_isOf_9 ad cy B qr s1 a0 w0) (fun u : va_W => wpost dC dI cy (va_A w0 sz) u) (va_A w0 sz)) 0 0 (va_A w0 sz) := by
  refine Met.ofW (cc := cX12_isOf) (maxL := 2) (ret := (some .boolean)) (by decide) rfl ?_
  intro p e s m args below meth c s₁ Bk hml hv
  obtain ⟨rfl, ⟨hsz, hP, hK, hD0⟩, hE, hSR⟩ := hv
  have hx := Bk.exec
  have hb := Bk.bytes
  have hr := Bk.returns
  have hlocks := Bk.notSynchronized
  have hC : CallFix p m c cX12_isOf 2 s _ wsX12_isOf RX12 := ⟨hx, hb, hml, findClass_of_methodNamed Bk.named, atoms_spec (ws := wsX12_isOf) Bk.pre⟩
  subst hsz
  have hD := hD0.self (sz := s.heap.size)
  generalize hAe : va_A w0 s.heap.size = A at hD hE ⊢
  have hA : ∀ q : Nat, s.heap.size ≤ q → A q := fun q h => by rw [← hAe]; exact Or.inr h
  have hw : Wd dC dI A s.heap s.heap [] w0 := ⟨hP, hD, va_S.rf⟩
  have hF : FE ksM ([] : List (Nat × Nat × Nat)) w0 w0 := FE.rf
  have hl := lv_entry ([.int a0, .int 0]) (n := 2) (Nat.le_of_ble_eq_true rfl)
  rw [lg_entry_eq]
  generalize (lg_sl ([.int a0, .int 0]) ++ List.replicate (2 - (lg_sl ([.int a0, .int 0])).length) Slot.unset).toArray = ls at hl ⊢
  have hl : lv_has ls 2 [(0, .int a0), (1, .int 0)] := hl
  generalize hloc : ([] : List Loc) = locs at hw ⊢
  refine lv_iload_n hx hb dX12_isOf_0 rfl (lv_at hl 0 rfl) ?_
  refine lv_iload_n hx hb dX12_isOf_1 rfl (lv_at hl 1 rfl) ?_
  refine lv_ishr hx hb dX12_isOf_2 ?_
  refine lv_topi (fun x1 ex1 => ?_)
  have bx1 : 0 ≤ x1.toInt ∧ x1.toInt ≤ a0.toInt := by rw [ex1]; exact wk_shr (by omega)
  refine lv_iconst (v := 1) hx hb dX12_isOf_3 (by decide) ?_
  refine lv_iand hx hb dX12_isOf_4 ?_
  refine lv_topi (fun x2 ex2 => ?_)
  have bx2 : 0 ≤ x2.toInt ∧ x2.toInt ≤ (1 : Int) := by rw [ex2]; exact wk_and (by decide)
  refine lv_iconst (v := 1) hx hb dX12_isOf_5 (by decide) ?_
  refine lv_icmp_ne (tgt := 13) hx hb dX12_isOf_6 (by decide) (fun c3 => ?_) (fun c3 => ?_)
  · have c3 : ¬ x2.toInt = (1 : Int) := wk_eqF c3
    refine lv_iconst (v := 0) hx hb dX12_isOf_13 (by decide) ?_
    exact tk_zret hC hr rfl hlocks hK ⟨rfl, (Or.inl ⟨rfl, (by unfold mOf; rw [← ex1, ← ex2]; omega)⟩)⟩ hw dX12_isOf_14
  · have c3 : x2.toInt = (1 : Int) := wk_eq.mp c3
    refine lv_iconst (v := 1) hx hb dX12_isOf_9 (by decide) ?_
    refine lv_goto (tgt := 14) hx hb dX12_isOf_10 (by decide) ?_
    exact tk_zret hC hr rfl hlocks hK ⟨rfl, (Or.inr ⟨rfl, (by unfold mOf; rw [← ex1, ← ex2]; omega)⟩)⟩ hw dX12_isOf_14
abbrev P_X12_isOf_10 (ad : Nat → Nat) (cy : Nat → ClassId) (B : Int) (qr : Nat) (s1 : Int) (a0 : Int32) (w0 : va_W) : Int32 → va_W → Prop := fun r u => w0 = u ∧ ((r = 0 ∧ (¬ mOf a0 (1 : Int32))) ∨ (r = 1 ∧ (mOf a0 (1 : Int32))))
set_option maxHeartbeats 4000000 in
set_option maxRecDepth 100000 in
theorem k_X12_isOf_10 (l : Launch) (adK adV : Nat → Nat) (dC : Nat → ClassId) (dI : Nat → Nat → Nat) (cy : Nat → ClassId) (ad : Nat → Nat) (B : Int) (hB0 : 100000 ≤ B) (hB1 : B ≤ 1073741824) (qr : Nat) (s1 : Int)  (a0 : Int32) (ra0 : 0 ≤ a0.toInt) (ta0 : a0.toInt ≤ 9) (w0 : va_W) (sz : Nat) (hT : TW ksM ad cy B qr 13 w0)  : Met l yX12_isOf wsX12_isOf ({ frames := 1, cells := 0, slots := 0, locals := 12 }) (va_Pc [.int a0, .int 1] (wpreS adK adV dC dI cy sz w0)) (va_Qi (P_X12_isOf_10 ad cy B qr s1 a0 w0) (fun u : va_W => wpost dC dI cy (va_A w0 sz) u) (va_A w0 sz)) 0 0 (va_A w0 sz) := by
  refine Met.ofW (cc := cX12_isOf) (maxL := 2) (ret := (some .boolean)) (by decide) rfl ?_
  intro p e s m args below meth c s₁ Bk hml hv
  obtain ⟨rfl, ⟨hsz, hP, hK, hD0⟩, hE, hSR⟩ := hv
  have hx := Bk.exec
  have hb := Bk.bytes
  have hr := Bk.returns
  have hlocks := Bk.notSynchronized
  have hC : CallFix p m c cX12_isOf 2 s _ wsX12_isOf RX12 := ⟨hx, hb, hml, findClass_of_methodNamed Bk.named, atoms_spec (ws := wsX12_isOf) Bk.pre⟩
  subst hsz
  have hD := hD0.self (sz := s.heap.size)
  generalize hAe : va_A w0 s.heap.size = A at hD hE ⊢
  have hA : ∀ q : Nat, s.heap.size ≤ q → A q := fun q h => by rw [← hAe]; exact Or.inr h
  have hw : Wd dC dI A s.heap s.heap [] w0 := ⟨hP, hD, va_S.rf⟩
  have hF : FE ksM ([] : List (Nat × Nat × Nat)) w0 w0 := FE.rf
  have hl := lv_entry ([.int a0, .int 1]) (n := 2) (Nat.le_of_ble_eq_true rfl)
  rw [lg_entry_eq]
  generalize (lg_sl ([.int a0, .int 1]) ++ List.replicate (2 - (lg_sl ([.int a0, .int 1])).length) Slot.unset).toArray = ls at hl ⊢
  have hl : lv_has ls 2 [(0, .int a0), (1, .int 1)] := hl
  generalize hloc : ([] : List Loc) = locs at hw ⊢
  refine lv_iload_n hx hb dX12_isOf_0 rfl (lv_at hl 0 rfl) ?_
  refine lv_iload_n hx hb dX12_isOf_1 rfl (lv_at hl 1 rfl) ?_
  refine lv_ishr hx hb dX12_isOf_2 ?_
  refine lv_topi (fun x1 ex1 => ?_)
  have bx1 : 0 ≤ x1.toInt ∧ x1.toInt ≤ a0.toInt := by rw [ex1]; exact wk_shr (by omega)
  refine lv_iconst (v := 1) hx hb dX12_isOf_3 (by decide) ?_
  refine lv_iand hx hb dX12_isOf_4 ?_
  refine lv_topi (fun x2 ex2 => ?_)
  have bx2 : 0 ≤ x2.toInt ∧ x2.toInt ≤ (1 : Int) := by rw [ex2]; exact wk_and (by decide)
  refine lv_iconst (v := 1) hx hb dX12_isOf_5 (by decide) ?_
  refine lv_icmp_ne (tgt := 13) hx hb dX12_isOf_6 (by decide) (fun c3 => ?_) (fun c3 => ?_)
  · have c3 : ¬ x2.toInt = (1 : Int) := wk_eqF c3
    refine lv_iconst (v := 0) hx hb dX12_isOf_13 (by decide) ?_
    exact tk_zret hC hr rfl hlocks hK ⟨rfl, (Or.inl ⟨rfl, (by unfold mOf; rw [← ex1, ← ex2]; omega)⟩)⟩ hw dX12_isOf_14
  · have c3 : x2.toInt = (1 : Int) := wk_eq.mp c3
    refine lv_iconst (v := 1) hx hb dX12_isOf_9 (by decide) ?_
    refine lv_goto (tgt := 14) hx hb dX12_isOf_10 (by decide) ?_
    exact tk_zret hC hr rfl hlocks hK ⟨rfl, (Or.inr ⟨rfl, (by unfold mOf; rw [← ex1, ← ex2]; omega)⟩)⟩ hw dX12_isOf_14
abbrev P_X12_streetOf_11 (ad : Nat → Nat) (cy : Nat → ClassId) (B : Int) (qr : Nat) (s1 : Int) (a1 : Int32) (w0 : va_W) : Int32 → va_W → Prop := fun r u => w0 = u ∧ ((0 ≤ r.toInt ∧ r.toInt ≤ 9 ∧ gi u 12 (10 * a1.toInt + 10).toNat = r))
set_option maxHeartbeats 4000000 in
set_option maxRecDepth 100000 in
theorem k_X12_streetOf_11 (l : Launch) (adK adV : Nat → Nat) (dC : Nat → ClassId) (dI : Nat → Nat → Nat) (cy : Nat → ClassId) (ad : Nat → Nat) (B : Int) (hB0 : 100000 ≤ B) (hB1 : B ≤ 1073741824) (qr : Nat) (s1 : Int)  (a1 : Int32) (ra1 : 0 ≤ a1.toInt) (ta1 : a1.toInt ≤ 12) (w0 : va_W) (sz : Nat) (hT : TW ksM ad cy B qr 13 w0)  : Met l yX12_streetOf wsX12_streetOf ({ frames := 1, cells := 0, slots := 0, locals := 12 }) (va_Pc [.ref (ad 0), .int a1, .int 0] (wpreS adK adV dC dI cy sz w0)) (va_Qi (P_X12_streetOf_11 ad cy B qr s1 a1 w0) (fun u : va_W => wpost dC dI cy (va_A w0 sz) u) (va_A w0 sz)) 0 0 (va_A w0 sz) := by
  refine Met.ofW (cc := cX12_streetOf) (maxL := 3) (ret := (some .int)) (by decide) rfl ?_
  intro p e s m args below meth c s₁ Bk hml hv
  obtain ⟨rfl, ⟨hsz, hP, hK, hD0⟩, hE, hSR⟩ := hv
  have hx := Bk.exec
  have hb := Bk.bytes
  have hr := Bk.returns
  have hlocks := Bk.notSynchronized
  have hC : CallFix p m c cX12_streetOf 3 s _ wsX12_streetOf RX12 := ⟨hx, hb, hml, findClass_of_methodNamed Bk.named, atoms_spec (ws := wsX12_streetOf) Bk.pre⟩
  subst hsz
  have hD := hD0.self (sz := s.heap.size)
  generalize hAe : va_A w0 s.heap.size = A at hD hE ⊢
  have hA : ∀ q : Nat, s.heap.size ≤ q → A q := fun q h => by rw [← hAe]; exact Or.inr h
  have hw : Wd dC dI A s.heap s.heap [] w0 := ⟨hP, hD, va_S.rf⟩
  have hF : FE ksM ([] : List (Nat × Nat × Nat)) w0 w0 := FE.rf
  have hl := lv_entry ([.ref (ad 0), .int a1, .int 0]) (n := 3) (Nat.le_of_ble_eq_true rfl)
  rw [lg_entry_eq]
  generalize (lg_sl ([.ref (ad 0), .int a1, .int 0]) ++ List.replicate (3 - (lg_sl ([.ref (ad 0), .int a1, .int 0])).length) Slot.unset).toArray = ls at hl ⊢
  have hl : lv_has ls 3 [(0, .ref (ad 0)), (1, .int a1), (2, .int 0)] := hl
  generalize hloc : ([] : List Loc) = locs at hw ⊢
  have hinX12 : ∀ w ∈ u_ws RX12 TX12 42, w ∈ wsX12_streetOf := fun _ h => List.mem_cons_of_mem _ (List.mem_append_right _ (h))
  refine lv_aload_n hx hb dX12_streetOf_0 rfl (lv_at hl 0 rfl) ?_
  refine tk_getA hC hK hw hT hinX12 kM_at0 (by decide) rfl 26 (by decide) (List.mem_of_getElem? (i := 1) rfl) rfl rfl dX12_streetOf_1 ?_
  refine lv_bipush (v := 10) hx hb dX12_streetOf_4 (by decide) ?_
  refine lv_bipush (v := 10) hx hb dX12_streetOf_6 (by decide) ?_
  refine lv_iload_n hx hb dX12_streetOf_8 rfl (lv_at hl 1 rfl) ?_
  refine lv_imul hx hb dX12_streetOf_9 ?_
  refine lv_topi (fun x1 ex1 => ?_)
  have ex1 : x1.toInt = (10 : Int) * a1.toInt := by rw [ex1]; exact wk_mul (show (-2147483648) ≤ (10 : Int) * a1.toInt by omega) (show (10 : Int) * a1.toInt ≤ 2147483647 by omega)
  refine lv_iadd hx hb dX12_streetOf_10 ?_
  refine lv_topi (fun x2 ex2 => ?_)
  have ex2 : x2.toInt = (10 : Int) + x1.toInt := by rw [ex2]; exact wk_add (show (-2147483648) ≤ (10 : Int) + x1.toInt by omega) (show (10 : Int) + x1.toInt ≤ 2147483647 by omega)
  refine lv_iload_n hx hb dX12_streetOf_11 rfl (lv_at hl 2 rfl) ?_
  refine lv_iadd hx hb dX12_streetOf_12 ?_
  refine lv_topi (fun x3 ex3 => ?_)
  have ex3 : x3.toInt = x2.toInt + (0 : Int) := by rw [ex3]; exact wk_add (show (-2147483648) ≤ x2.toInt + (0 : Int) by omega) (show x2.toInt + (0 : Int) ≤ 2147483647 by omega)
  refine tk_ialdR hC hK hw hT kM_at12 rfl (show 0 ≤ x3.toInt by omega) (show x3.toInt < 296 by omega) dX12_streetOf_13 (fun x4 c5 Ex4 => ?_)
  have c5 : gi w0 12 (10 * a1.toInt + 10).toNat = x4 := (congrArg (gi w0 12) (congrArg Int.toNat (show 10 * a1.toInt + 10 = x3.toInt by omega))).trans c5
  have bx4 := tk_rgI rfl 10 10 13 0 9 (by decide +kernel) ⟨(a1.toInt - 0).toNat, by omega, show x3.toInt.toNat = 10 + 10 * (a1.toInt - 0).toNat by omega⟩ Ex4
  exact tk_iret hC hr hlocks hK ⟨rfl, ⟨(show 0 ≤ x4.toInt by omega), (show x4.toInt ≤ 9 by omega), c5⟩⟩ hw dX12_streetOf_14
abbrev P_X12_hasSign_3 (ad : Nat → Nat) (cy : Nat → ClassId) (B : Int) (qr : Nat) (s1 : Int) (a1 : Int32) (a2 : Int32) (a3 : Int32) (w0 : va_W) : Int32 → va_W → Prop := fun r u => w0 = u ∧ ((r = 0 ∧ (¬ mSign w0 a1 a2.toInt a3.toInt)) ∨ (r = 0 ∧ gi u 12 (10 * a2.toInt + 10).toNat = a3 ∧ (¬ mSign w0 a1 a2.toInt a3.toInt)) ∨ (r = 1 ∧ (mSign w0 a1 a2.toInt a3.toInt)) ∨ (r = 1 ∧ gi u 12 (10 * a2.toInt + 10).toNat = a3 ∧ (mSign w0 a1 a2.toInt a3.toInt)))
set_option maxHeartbeats 4000000 in
set_option maxRecDepth 100000 in
theorem k_X12_hasSign_3 (l : Launch) (adK adV : Nat → Nat) (dC : Nat → ClassId) (dI : Nat → Nat → Nat) (cy : Nat → ClassId) (ad : Nat → Nat) (B : Int) (hB0 : 100000 ≤ B) (hB1 : B ≤ 1073741824) (qr : Nat) (s1 : Int)  (a1 : Int32) (ra1 : 0 ≤ a1.toInt) (ta1 : a1.toInt ≤ 9) (a2 : Int32) (ra2 : 0 ≤ a2.toInt) (ta2 : a2.toInt ≤ 12) (a3 : Int32) (ra3 : 0 ≤ a3.toInt) (ta3 : a3.toInt ≤ 9) (w0 : va_W) (sz : Nat) (hT : TW ksM ad cy B qr 13 w0)  : Met l yX12_hasSign wsX12_hasSign ({ frames := 2, cells := 0, slots := 0, locals := 34 }) (va_Pc [.ref (ad 0), .int a1, .int a2, .int a3] (wpreS adK adV dC dI cy sz w0)) (va_Qi (P_X12_hasSign_3 ad cy B qr s1 a1 a2 a3 w0) (fun u : va_W => wpost dC dI cy (va_A w0 sz) u) (va_A w0 sz)) 0 0 (va_A w0 sz) := by
  refine Met.ofW (cc := cX12_hasSign) (maxL := 4) (ret := (some .boolean)) (by decide) rfl ?_
  intro p e s m args below meth c s₁ Bk hml hv
  obtain ⟨rfl, ⟨hsz, hP, hK, hD0⟩, hE, hSR⟩ := hv
  have hx := Bk.exec
  have hb := Bk.bytes
  have hr := Bk.returns
  have hlocks := Bk.notSynchronized
  have hC : CallFix p m c cX12_hasSign 4 s _ wsX12_hasSign RX12 := ⟨hx, hb, hml, findClass_of_methodNamed Bk.named, atoms_spec (ws := wsX12_hasSign) Bk.pre⟩
  subst hsz
  have hD := hD0.self (sz := s.heap.size)
  generalize hAe : va_A w0 s.heap.size = A at hD hE ⊢
  have hA : ∀ q : Nat, s.heap.size ≤ q → A q := fun q h => by rw [← hAe]; exact Or.inr h
  have hw : Wd dC dI A s.heap s.heap [] w0 := ⟨hP, hD, va_S.rf⟩
  have hF : FE ksM ([] : List (Nat × Nat × Nat)) w0 w0 := FE.rf
  have hl := lv_entry ([.ref (ad 0), .int a1, .int a2, .int a3]) (n := 4) (Nat.le_of_ble_eq_true rfl)
  rw [lg_entry_eq]
  generalize (lg_sl ([.ref (ad 0), .int a1, .int a2, .int a3]) ++ List.replicate (4 - (lg_sl ([.ref (ad 0), .int a1, .int a2, .int a3])).length) Slot.unset).toArray = ls at hl ⊢
  have hl : lv_has ls 4 [(0, .ref (ad 0)), (1, .int a1), (2, .int a2), (3, .int a3)] := hl
  generalize hloc : ([] : List Loc) = locs at hw ⊢
  refine lv_iload_n hx hb dX12_hasSign_0 rfl (lv_at hl 1 rfl) ?_
  refine lv_aload_n hx hb dX12_hasSign_1 rfl (lv_at hl 0 rfl) ?_
  refine lv_iload_n hx hb dX12_hasSign_2 rfl (lv_at hl 2 rfl) ?_
  refine lv_iconst (v := 0) hx hb dX12_hasSign_3 (by decide) ?_
  refine tk_Vi hC hK hw hT hA hE hSR kM_at0 (by decide) rfl (k_X12_streetOf_11 l adK adV dC dI cy ad B (by omega) (by omega) qr s1   a2 (show 0 ≤ a2.toInt by omega) (show a2.toInt ≤ 12 by omega) w0 s.heap.size hT ) (cwV 2 hC.2.2.2.2 gX12_hasSign_X12_streetOf rfl rfl rfl (by decide +kernel) ⟨Nat.le_of_ble_eq_true rfl, Nat.le_of_ble_eq_true rfl⟩) rfl hl.1 rfl (Nat.le_of_ble_eq_true rfl) dX12_hasSign_4 (fun r1 w3 H locs hp2 hw => ?_)
  obtain ⟨rfl, hg8⟩ := hp2
  obtain ⟨g5, g6, c7⟩ := hg8
  refine lv_iload_n hx hb dX12_hasSign_7 rfl (lv_at hl 3 rfl) ?_
  refine lv_icmp_ne (tgt := 15) hx hb dX12_hasSign_8 (by decide) (fun c9 => ?_) (fun c9 => ?_)
  · have c9 : ¬ r1.toInt = a3.toInt := wk_eqF c9
    refine lv_iconst (v := 1) hx hb dX12_hasSign_15 (by decide) ?_
    refine tk_Si hC hK hw hT hA hE hSR (k_X12_isOf_10 l adK adV dC dI cy ad B (by omega) (by omega) qr s1   a1 (show 0 ≤ a1.toInt by omega) (show a1.toInt ≤ 9 by omega) w0 H.size hT ) (va_cwS 2 hC.2.2.2.2 gX12_hasSign_X12_isOf rfl rfl rfl (by decide +kernel) ⟨Nat.le_of_ble_eq_true rfl, Nat.le_of_ble_eq_true rfl⟩) rfl hl.1 rfl (Nat.le_of_ble_eq_true rfl) dX12_hasSign_16 (fun r10 w12 H locs hp11 hw => ?_)
    obtain ⟨rfl, hg16⟩ := hp11
    rcases hg16 with ⟨rfl, hq14⟩ | ⟨rfl, hq15⟩
    · exact tk_zret hC hr rfl hlocks hK ⟨rfl, (Or.inl ⟨rfl, (by unfold mSign; simp only [c7]; first | exact Or.inl ⟨by omega, by assumption⟩ | exact Or.inr ⟨by omega, by assumption⟩ | (rintro (⟨q1, q2⟩ | ⟨q1, q2⟩) <;> first | omega | contradiction))⟩)⟩ hw dX12_hasSign_19
    · exact tk_zret hC hr rfl hlocks hK ⟨rfl, (Or.inr (Or.inr (Or.inl ⟨rfl, (by unfold mSign; simp only [c7]; first | exact Or.inl ⟨by omega, by assumption⟩ | exact Or.inr ⟨by omega, by assumption⟩ | (rintro (⟨q1, q2⟩ | ⟨q1, q2⟩) <;> first | omega | contradiction))⟩)))⟩ hw dX12_hasSign_19
  · have c9 : r1.toInt = a3.toInt := wk_eq.mp c9
    refine lv_iconst (v := 0) hx hb dX12_hasSign_11 (by decide) ?_
    refine lv_goto (tgt := 16) hx hb dX12_hasSign_12 (by decide) ?_
    refine tk_Si hC hK hw hT hA hE hSR (k_X12_isOf_9 l adK adV dC dI cy ad B (by omega) (by omega) qr s1   a1 (show 0 ≤ a1.toInt by omega) (show a1.toInt ≤ 9 by omega) w0 H.size hT ) (va_cwS 2 hC.2.2.2.2 gX12_hasSign_X12_isOf rfl rfl rfl (by decide +kernel) ⟨Nat.le_of_ble_eq_true rfl, Nat.le_of_ble_eq_true rfl⟩) rfl hl.1 rfl (Nat.le_of_ble_eq_true rfl) dX12_hasSign_16 (fun r17 w19 H locs hp18 hw => ?_)
    obtain ⟨rfl, hg23⟩ := hp18
    rcases hg23 with ⟨rfl, hq21⟩ | ⟨rfl, hq22⟩
    · exact tk_zret hC hr rfl hlocks hK ⟨rfl, (Or.inr (Or.inl ⟨rfl, (c7.trans (wk_eq.mpr (show r1.toInt = a3.toInt by omega))), (by unfold mSign; simp only [c7]; first | exact Or.inl ⟨by omega, by assumption⟩ | exact Or.inr ⟨by omega, by assumption⟩ | (rintro (⟨q1, q2⟩ | ⟨q1, q2⟩) <;> first | omega | contradiction))⟩))⟩ hw dX12_hasSign_19
    · exact tk_zret hC hr rfl hlocks hK ⟨rfl, (Or.inr (Or.inr (Or.inr ⟨rfl, (c7.trans (wk_eq.mpr (show r1.toInt = a3.toInt by omega))), (by unfold mSign; simp only [c7]; first | exact Or.inl ⟨by omega, by assumption⟩ | exact Or.inr ⟨by omega, by assumption⟩ | (rintro (⟨q1, q2⟩ | ⟨q1, q2⟩) <;> first | omega | contradiction))⟩)))⟩ hw dX12_hasSign_19
abbrev P_X12_isClosed_2 (ad : Nat → Nat) (cy : Nat → ClassId) (B : Int) (qr : Nat) (s1 : Int) (a1 : Int32) (a2 : Int32) (w0 : va_W) : Int32 → va_W → Prop := fun r u => w0 = u ∧ ((r = 0 ∧ (¬ mCl w0 a1.toInt a2.toInt)) ∨ (r = 1 ∧ (∃ y : Int32, gi u 0 27 = y ∧ 1 ≤ y.toInt ∧ y.toInt ≤ 1) ∧ (∃ y : Int32, gi u 12 2 = y ∧ 1 ≤ y.toInt ∧ y.toInt ≤ 8) ∧ (mCl w0 a1.toInt a2.toInt)))
set_option maxHeartbeats 4000000 in
set_option maxRecDepth 100000 in
theorem k_X12_isClosed_2 (l : Launch) (adK adV : Nat → Nat) (dC : Nat → ClassId) (dI : Nat → Nat → Nat) (cy : Nat → ClassId) (ad : Nat → Nat) (B : Int) (hB0 : 100000 ≤ B) (hB1 : B ≤ 1073741824) (qr : Nat) (s1 : Int)  (a1 : Int32) (ra1 : 0 ≤ a1.toInt) (ta1 : a1.toInt ≤ 9) (a2 : Int32) (ra2 : 0 ≤ a2.toInt) (ta2 : a2.toInt ≤ 359) (w0 : va_W) (sz : Nat) (hT : TW ksM ad cy B qr 13 w0)  : Met l yX12_isClosed wsX12_isClosed ({ frames := 1, cells := 0, slots := 0, locals := 12 }) (va_Pc [.ref (ad 0), .int a1, .int a2] (wpreS adK adV dC dI cy sz w0)) (va_Qi (P_X12_isClosed_2 ad cy B qr s1 a1 a2 w0) (fun u : va_W => wpost dC dI cy (va_A w0 sz) u) (va_A w0 sz)) 0 0 (va_A w0 sz) := by
  refine Met.ofW (cc := cX12_isClosed) (maxL := 4) (ret := (some .boolean)) (by decide) rfl ?_
  intro p e s m args below meth c s₁ Bk hml hv
  obtain ⟨rfl, ⟨hsz, hP, hK, hD0⟩, hE, hSR⟩ := hv
  have hx := Bk.exec
  have hb := Bk.bytes
  have hr := Bk.returns
  have hlocks := Bk.notSynchronized
  have hC : CallFix p m c cX12_isClosed 4 s _ wsX12_isClosed RX12 := ⟨hx, hb, hml, findClass_of_methodNamed Bk.named, atoms_spec (ws := wsX12_isClosed) Bk.pre⟩
  subst hsz
  have hD := hD0.self (sz := s.heap.size)
  generalize hAe : va_A w0 s.heap.size = A at hD hE ⊢
  have hA : ∀ q : Nat, s.heap.size ≤ q → A q := fun q h => by rw [← hAe]; exact Or.inr h
  have hw : Wd dC dI A s.heap s.heap [] w0 := ⟨hP, hD, va_S.rf⟩
  have hF : FE ksM ([] : List (Nat × Nat × Nat)) w0 w0 := FE.rf
  have hl := lv_entry ([.ref (ad 0), .int a1, .int a2]) (n := 4) (Nat.le_of_ble_eq_true rfl)
  rw [lg_entry_eq]
  generalize (lg_sl ([.ref (ad 0), .int a1, .int a2]) ++ List.replicate (4 - (lg_sl ([.ref (ad 0), .int a1, .int a2])).length) Slot.unset).toArray = ls at hl ⊢
  have hl : lv_has ls 4 [(0, .ref (ad 0)), (1, .int a1), (2, .int a2)] := hl
  generalize hloc : ([] : List Loc) = locs at hw ⊢
  have hinX12 : ∀ w ∈ u_ws RX12 TX12 42, w ∈ wsX12_isClosed := fun _ h => List.mem_cons_of_mem _ (List.mem_append_right _ (h))
  have L2 : ∀ (n2 : Nat) (v2_3 : Int32) (H : Heap) (locs : List Loc) (ls : Array Slot), 0 ≤ a1.toInt → a1.toInt ≤ 9 → 0 ≤ a2.toInt → a2.toInt ≤ 359 → 0 ≤ v2_3.toInt → v2_3.toInt ≤ 8 → (∀ k : Int, 0 ≤ k → k < v2_3.toInt → ¬ mCl1 w0 k a1.toInt a2.toInt) → (8 - v2_3.toInt).toNat < n2 → Wd dC dI A s.heap H locs w0 → lv_has ls 4 [(0, .ref (ad 0)), (1, .int a1), (2, .int a2), (3, .int v2_3)] → W p l e ({ frames := 1, cells := 0, slots := 0, locals := 12 }) s m (List.toArray [.ref (ad 0), .int a1, .int a2]) below meth c H locs 0 0 (MQ below (va_Qi (P_X12_isClosed_2 ad cy B qr s1 a1 a2 w0) (fun u : va_W => wpost dC dI cy A u) A) (List.toArray [.ref (ad 0), .int a1, .int a2]) s 0 0 A) (F0 m 2 ls []) := by
    intro n2
    induction n2 with
    | zero => intro v2_3 H locs ls r1 t2 r3 t4 r5 t6 hcr2_0 hm2 hw hl; omega
    | succ n2 ih2 =>
      intro v2_3 H locs ls r1 t2 r3 t4 r5 t6 hcr2_0 hm2 hw hl
      refine lv_iload_n hx hb dX12_isClosed_2 rfl (lv_at hl 3 rfl) ?_
      refine lv_aload_n hx hb dX12_isClosed_3 rfl (lv_at hl 0 rfl) ?_
      refine tk_getA hC hK hw hT hinX12 kM_at0 (by decide) rfl 26 (by decide) (List.mem_of_getElem? (i := 1) rfl) rfl rfl dX12_isClosed_4 ?_
      refine lv_iconst (v := 2) hx hb dX12_isClosed_7 (by decide) ?_
      refine tk_ialdR hC hK hw hT kM_at12 rfl (by decide) (by decide) dX12_isClosed_8 (fun x7 c8 Ex7 => ?_)
      have bx7 := tk_rgI rfl 2 1 1 0 8 (by decide +kernel) ⟨0, by decide, by decide⟩ Ex7
      have c8 : gi w0 12 2 = x7 := c8
      refine lv_icmp_ge (tgt := 61) hx hb dX12_isClosed_9 (by decide) (fun c9 => ?_) (fun c9 => ?_)
      · have c9 : x7.toInt ≤ v2_3.toInt := wk_le.mp c9
        refine lv_iconst (v := 0) hx hb dX12_isClosed_61 (by decide) ?_
        exact tk_zret hC hr rfl hlocks hK ⟨rfl, (Or.inl ⟨rfl, (by first | exact mCl_no hcr2_0 (by simp only [c8]; omega) | exact mCl_off (by simp only [c8]; omega))⟩)⟩ hw dX12_isClosed_62
      · have c9 : v2_3.toInt < x7.toInt := wk_leF c9
        refine lv_aload_n hx hb dX12_isClosed_12 rfl (lv_at hl 0 rfl) ?_
        refine tk_geti hC hK hw hT hinX12 kM_at0 (by decide) rfl 27 (by decide) (List.mem_of_getElem? (i := 2) rfl) rfl rfl dX12_isClosed_13 (fun x10 c11 rx10 tx10 => ?_)
        refine lv_if_eq (tgt := 61) hx hb dX12_isClosed_16 (by decide) (fun c12 => ?_) (fun c12 => ?_)
        · have c12 : x10.toInt = (0 : Int) := wk_eq.mp c12
          refine lv_iconst (v := 0) hx hb dX12_isClosed_61 (by decide) ?_
          exact tk_zret hC hr rfl hlocks hK ⟨rfl, (Or.inl ⟨rfl, (by first | exact mCl_no hcr2_0 (by simp only [c8, c11]; omega) | exact mCl_off (by simp only [c8, c11]; omega))⟩)⟩ hw dX12_isClosed_62
        · have c12 : ¬ x10.toInt = (0 : Int) := wk_eqF c12
          refine lv_aload_n hx hb dX12_isClosed_19 rfl (lv_at hl 0 rfl) ?_
          refine tk_getA hC hK hw hT hinX12 kM_at0 (by decide) rfl 26 (by decide) (List.mem_of_getElem? (i := 1) rfl) rfl rfl dX12_isClosed_20 ?_
          refine lv_sipush (v := 140) hx hb dX12_isClosed_23 (by decide) ?_
          refine lv_iconst (v := 2) hx hb dX12_isClosed_26 (by decide) ?_
          refine lv_iload_n hx hb dX12_isClosed_27 rfl (lv_at hl 3 rfl) ?_
          refine lv_imul hx hb dX12_isClosed_28 ?_
          refine lv_topi (fun x13 ex13 => ?_)
          have ex13 : x13.toInt = (2 : Int) * v2_3.toInt := by rw [ex13]; exact wk_mul (show (-2147483648) ≤ (2 : Int) * v2_3.toInt by omega) (show (2 : Int) * v2_3.toInt ≤ 2147483647 by omega)
          refine lv_iadd hx hb dX12_isClosed_29 ?_
          refine lv_topi (fun x14 ex14 => ?_)
          have ex14 : x14.toInt = (140 : Int) + x13.toInt := by rw [ex14]; exact wk_add (show (-2147483648) ≤ (140 : Int) + x13.toInt by omega) (show (140 : Int) + x13.toInt ≤ 2147483647 by omega)
          refine tk_ialdR hC hK hw hT kM_at12 rfl (show 0 ≤ x14.toInt by omega) (show x14.toInt < 296 by omega) dX12_isClosed_30 (fun x15 c16 Ex15 => ?_)
          have c16 : gi w0 12 (2 * v2_3.toInt + 140).toNat = x15 := (congrArg (gi w0 12) (congrArg Int.toNat (show 2 * v2_3.toInt + 140 = x14.toInt by omega))).trans c16
          refine lv_iload_n hx hb dX12_isClosed_31 rfl (lv_at hl 1 rfl) ?_
          refine lv_icmp_ne (tgt := 55) hx hb dX12_isClosed_32 (by decide) (fun c17 => ?_) (fun c17 => ?_)
          · have c17 : ¬ x15.toInt = a1.toInt := wk_eqF c17
            obtain ⟨x18, ex18⟩ : ∃ y : Int32, y = v2_3 + Int32.ofInt 1 := ⟨_, rfl⟩
            refine lv_iinc (v := x18) (lv' := [(3, .int x18), (0, .ref (ad 0)), (1, .int a1), (2, .int a2)]) hx hb dX12_isClosed_55 hl (k := 3) rfl ex18.symm (by decide) rfl (fun ls hl => ?_)
            have ex18 : x18.toInt = v2_3.toInt + 1 := by rw [ex18]; exact wk_add (y := 1) (show -2147483648 ≤ v2_3.toInt + 1 by omega) (show v2_3.toInt + 1 ≤ 2147483647 by omega)
            refine lv_goto (tgt := 2) hx hb dX12_isClosed_58 (by decide) ?_
            exact ih2 x18 H locs ls  (show 0 ≤ a1.toInt by omega) (show a1.toInt ≤ 9 by omega) (show 0 ≤ a2.toInt by omega) (show a2.toInt ≤ 359 by omega) (show 0 ≤ x18.toInt by omega) (show x18.toInt ≤ 8 by omega) (show ∀ k : Int, 0 ≤ k → k < x18.toInt → ¬ mCl1 w0 k a1.toInt a2.toInt from all_step hcr2_0 (show ¬ mCl1 w0 v2_3.toInt a1.toInt a2.toInt by unfold mCl1; simp only [c8, c11, c16]; omega) (by omega)) (show (8 - x18.toInt).toNat < n2 by omega) hw   (lv_sub hl [1, 2, 3, 0] rfl)
          · have c17 : x15.toInt = a1.toInt := wk_eq.mp c17
            refine lv_aload_n hx hb dX12_isClosed_35 rfl (lv_at hl 0 rfl) ?_
            refine tk_getA hC hK hw hT hinX12 kM_at0 (by decide) rfl 26 (by decide) (List.mem_of_getElem? (i := 1) rfl) rfl rfl dX12_isClosed_36 ?_
            refine lv_sipush (v := 140) hx hb dX12_isClosed_39 (by decide) ?_
            refine lv_iconst (v := 2) hx hb dX12_isClosed_42 (by decide) ?_
            refine lv_iload_n hx hb dX12_isClosed_43 rfl (lv_at hl 3 rfl) ?_
            refine lv_imul hx hb dX12_isClosed_44 ?_
            refine lv_topi (fun x19 ex19 => ?_)
            have ex19 : x19.toInt = (2 : Int) * v2_3.toInt := by rw [ex19]; exact wk_mul (show (-2147483648) ≤ (2 : Int) * v2_3.toInt by omega) (show (2 : Int) * v2_3.toInt ≤ 2147483647 by omega)
            refine lv_iadd hx hb dX12_isClosed_45 ?_
            refine lv_topi (fun x20 ex20 => ?_)
            have ex20 : x20.toInt = (140 : Int) + x19.toInt := by rw [ex20]; exact wk_add (show (-2147483648) ≤ (140 : Int) + x19.toInt by omega) (show (140 : Int) + x19.toInt ≤ 2147483647 by omega)
            refine lv_iconst (v := 1) hx hb dX12_isClosed_46 (by decide) ?_
            refine lv_iadd hx hb dX12_isClosed_47 ?_
            refine lv_topi (fun x21 ex21 => ?_)
            have ex21 : x21.toInt = x20.toInt + (1 : Int) := by rw [ex21]; exact wk_add (show (-2147483648) ≤ x20.toInt + (1 : Int) by omega) (show x20.toInt + (1 : Int) ≤ 2147483647 by omega)
            refine tk_ialdR hC hK hw hT kM_at12 rfl (show 0 ≤ x21.toInt by omega) (show x21.toInt < 296 by omega) dX12_isClosed_48 (fun x22 c23 Ex22 => ?_)
            have c23 : gi w0 12 (2 * v2_3.toInt + 141).toNat = x22 := (congrArg (gi w0 12) (congrArg Int.toNat (show 2 * v2_3.toInt + 141 = x21.toInt by omega))).trans c23
            refine lv_iload_n hx hb dX12_isClosed_49 rfl (lv_at hl 2 rfl) ?_
            refine lv_icmp_ne (tgt := 55) hx hb dX12_isClosed_50 (by decide) (fun c24 => ?_) (fun c24 => ?_)
            · have c24 : ¬ x22.toInt = a2.toInt := wk_eqF c24
              obtain ⟨x25, ex25⟩ : ∃ y : Int32, y = v2_3 + Int32.ofInt 1 := ⟨_, rfl⟩
              refine lv_iinc (v := x25) (lv' := [(3, .int x25), (0, .ref (ad 0)), (1, .int a1), (2, .int a2)]) hx hb dX12_isClosed_55 hl (k := 3) rfl ex25.symm (by decide) rfl (fun ls hl => ?_)
              have ex25 : x25.toInt = v2_3.toInt + 1 := by rw [ex25]; exact wk_add (y := 1) (show -2147483648 ≤ v2_3.toInt + 1 by omega) (show v2_3.toInt + 1 ≤ 2147483647 by omega)
              refine lv_goto (tgt := 2) hx hb dX12_isClosed_58 (by decide) ?_
              exact ih2 x25 H locs ls  (show 0 ≤ a1.toInt by omega) (show a1.toInt ≤ 9 by omega) (show 0 ≤ a2.toInt by omega) (show a2.toInt ≤ 359 by omega) (show 0 ≤ x25.toInt by omega) (show x25.toInt ≤ 8 by omega) (show ∀ k : Int, 0 ≤ k → k < x25.toInt → ¬ mCl1 w0 k a1.toInt a2.toInt from all_step hcr2_0 (show ¬ mCl1 w0 v2_3.toInt a1.toInt a2.toInt by unfold mCl1; simp only [c8, c11, c16, c23]; omega) (by omega)) (show (8 - x25.toInt).toNat < n2 by omega) hw   (lv_sub hl [1, 2, 3, 0] rfl)
            · have c24 : x22.toInt = a2.toInt := wk_eq.mp c24
              refine lv_iconst (v := 1) hx hb dX12_isClosed_53 (by decide) ?_
              exact tk_zret hC hr rfl hlocks hK ⟨rfl, (Or.inr ⟨rfl, ⟨x10, c11, (show 1 ≤ x10.toInt by omega), (show x10.toInt ≤ 1 by omega)⟩, ⟨x7, c8, (show 1 ≤ x7.toInt by omega), (show x7.toInt ≤ 8 by omega)⟩, (by exact ⟨v2_3.toInt, by omega, by simp only [c8, c11, c16, c23]; omega, by unfold mCl1; simp only [c8, c11, c16, c23]; omega⟩)⟩)⟩ hw dX12_isClosed_54
  refine lv_iconst (v := 0) hx hb dX12_isClosed_0 (by decide) ?_
  refine lv_istore_n (lv' := [(3, .int 0), (0, .ref (ad 0)), (1, .int a1), (2, .int a2)]) hx hb dX12_isClosed_1 rfl hl (by decide) rfl (fun ls hl => ?_)
  exact L2 ((8 - (0 : Int)).toNat + 1) 0 s.heap locs ls  (show 0 ≤ a1.toInt by omega) (show a1.toInt ≤ 9 by omega) (show 0 ≤ a2.toInt by omega) (show a2.toInt ≤ 359 by omega) (by decide) (by decide) (show ∀ k : Int, 0 ≤ k → k < (0 : Int) → ¬ mCl1 w0 k a1.toInt a2.toInt from all_none) (Nat.lt_succ_self _) hw   (lv_sub hl [1, 2, 3, 0] rfl)
abbrev P_X12_streetOf_12 (ad : Nat → Nat) (cy : Nat → ClassId) (B : Int) (qr : Nat) (s1 : Int) (a1 : Int32) (w0 : va_W) : Int32 → va_W → Prop := fun r u => w0 = u ∧ ((0 ≤ r.toInt ∧ r.toInt ≤ 9 ∧ gi u 12 (10 * a1.toInt + 11).toNat = r))
set_option maxHeartbeats 4000000 in
set_option maxRecDepth 100000 in
theorem k_X12_streetOf_12 (l : Launch) (adK adV : Nat → Nat) (dC : Nat → ClassId) (dI : Nat → Nat → Nat) (cy : Nat → ClassId) (ad : Nat → Nat) (B : Int) (hB0 : 100000 ≤ B) (hB1 : B ≤ 1073741824) (qr : Nat) (s1 : Int)  (a1 : Int32) (ra1 : 0 ≤ a1.toInt) (ta1 : a1.toInt ≤ 12) (w0 : va_W) (sz : Nat) (hT : TW ksM ad cy B qr 13 w0)  : Met l yX12_streetOf wsX12_streetOf ({ frames := 1, cells := 0, slots := 0, locals := 12 }) (va_Pc [.ref (ad 0), .int a1, .int 1] (wpreS adK adV dC dI cy sz w0)) (va_Qi (P_X12_streetOf_12 ad cy B qr s1 a1 w0) (fun u : va_W => wpost dC dI cy (va_A w0 sz) u) (va_A w0 sz)) 0 0 (va_A w0 sz) := by
  refine Met.ofW (cc := cX12_streetOf) (maxL := 3) (ret := (some .int)) (by decide) rfl ?_
  intro p e s m args below meth c s₁ Bk hml hv
  obtain ⟨rfl, ⟨hsz, hP, hK, hD0⟩, hE, hSR⟩ := hv
  have hx := Bk.exec
  have hb := Bk.bytes
  have hr := Bk.returns
  have hlocks := Bk.notSynchronized
  have hC : CallFix p m c cX12_streetOf 3 s _ wsX12_streetOf RX12 := ⟨hx, hb, hml, findClass_of_methodNamed Bk.named, atoms_spec (ws := wsX12_streetOf) Bk.pre⟩
  subst hsz
  have hD := hD0.self (sz := s.heap.size)
  generalize hAe : va_A w0 s.heap.size = A at hD hE ⊢
  have hA : ∀ q : Nat, s.heap.size ≤ q → A q := fun q h => by rw [← hAe]; exact Or.inr h
  have hw : Wd dC dI A s.heap s.heap [] w0 := ⟨hP, hD, va_S.rf⟩
  have hF : FE ksM ([] : List (Nat × Nat × Nat)) w0 w0 := FE.rf
  have hl := lv_entry ([.ref (ad 0), .int a1, .int 1]) (n := 3) (Nat.le_of_ble_eq_true rfl)
  rw [lg_entry_eq]
  generalize (lg_sl ([.ref (ad 0), .int a1, .int 1]) ++ List.replicate (3 - (lg_sl ([.ref (ad 0), .int a1, .int 1])).length) Slot.unset).toArray = ls at hl ⊢
  have hl : lv_has ls 3 [(0, .ref (ad 0)), (1, .int a1), (2, .int 1)] := hl
  generalize hloc : ([] : List Loc) = locs at hw ⊢
  have hinX12 : ∀ w ∈ u_ws RX12 TX12 42, w ∈ wsX12_streetOf := fun _ h => List.mem_cons_of_mem _ (List.mem_append_right _ (h))
  refine lv_aload_n hx hb dX12_streetOf_0 rfl (lv_at hl 0 rfl) ?_
  refine tk_getA hC hK hw hT hinX12 kM_at0 (by decide) rfl 26 (by decide) (List.mem_of_getElem? (i := 1) rfl) rfl rfl dX12_streetOf_1 ?_
  refine lv_bipush (v := 10) hx hb dX12_streetOf_4 (by decide) ?_
  refine lv_bipush (v := 10) hx hb dX12_streetOf_6 (by decide) ?_
  refine lv_iload_n hx hb dX12_streetOf_8 rfl (lv_at hl 1 rfl) ?_
  refine lv_imul hx hb dX12_streetOf_9 ?_
  refine lv_topi (fun x1 ex1 => ?_)
  have ex1 : x1.toInt = (10 : Int) * a1.toInt := by rw [ex1]; exact wk_mul (show (-2147483648) ≤ (10 : Int) * a1.toInt by omega) (show (10 : Int) * a1.toInt ≤ 2147483647 by omega)
  refine lv_iadd hx hb dX12_streetOf_10 ?_
  refine lv_topi (fun x2 ex2 => ?_)
  have ex2 : x2.toInt = (10 : Int) + x1.toInt := by rw [ex2]; exact wk_add (show (-2147483648) ≤ (10 : Int) + x1.toInt by omega) (show (10 : Int) + x1.toInt ≤ 2147483647 by omega)
  refine lv_iload_n hx hb dX12_streetOf_11 rfl (lv_at hl 2 rfl) ?_
  refine lv_iadd hx hb dX12_streetOf_12 ?_
  refine lv_topi (fun x3 ex3 => ?_)
  have ex3 : x3.toInt = x2.toInt + (1 : Int) := by rw [ex3]; exact wk_add (show (-2147483648) ≤ x2.toInt + (1 : Int) by omega) (show x2.toInt + (1 : Int) ≤ 2147483647 by omega)
  refine tk_ialdR hC hK hw hT kM_at12 rfl (show 0 ≤ x3.toInt by omega) (show x3.toInt < 296 by omega) dX12_streetOf_13 (fun x4 c5 Ex4 => ?_)
  have c5 : gi w0 12 (10 * a1.toInt + 11).toNat = x4 := (congrArg (gi w0 12) (congrArg Int.toNat (show 10 * a1.toInt + 11 = x3.toInt by omega))).trans c5
  have bx4 := tk_rgI rfl 11 10 13 0 9 (by decide +kernel) ⟨(a1.toInt - 0).toNat, by omega, show x3.toInt.toNat = 11 + 10 * (a1.toInt - 0).toNat by omega⟩ Ex4
  exact tk_iret hC hr hlocks hK ⟨rfl, ⟨(show 0 ≤ x4.toInt by omega), (show x4.toInt ≤ 9 by omega), c5⟩⟩ hw dX12_streetOf_14
abbrev P_X12_streetOf_13 (ad : Nat → Nat) (cy : Nat → ClassId) (B : Int) (qr : Nat) (s1 : Int) (a1 : Int32) (a2 : Int32) (w0 : va_W) : Int32 → va_W → Prop := fun r u => w0 = u ∧ ((0 ≤ r.toInt ∧ r.toInt ≤ 9 ∧ gi u 12 (10 * a1.toInt + 1 * a2.toInt + 10).toNat = r))
set_option maxHeartbeats 4000000 in
set_option maxRecDepth 100000 in
theorem k_X12_streetOf_13 (l : Launch) (adK adV : Nat → Nat) (dC : Nat → ClassId) (dI : Nat → Nat → Nat) (cy : Nat → ClassId) (ad : Nat → Nat) (B : Int) (hB0 : 100000 ≤ B) (hB1 : B ≤ 1073741824) (qr : Nat) (s1 : Int)  (a1 : Int32) (ra1 : 0 ≤ a1.toInt) (ta1 : a1.toInt ≤ 12) (a2 : Int32) (ra2 : 3 ≤ a2.toInt) (ta2 : a2.toInt ≤ 9) (w0 : va_W) (sz : Nat) (hT : TW ksM ad cy B qr 13 w0)  : Met l yX12_streetOf wsX12_streetOf ({ frames := 1, cells := 0, slots := 0, locals := 12 }) (va_Pc [.ref (ad 0), .int a1, .int a2] (wpreS adK adV dC dI cy sz w0)) (va_Qi (P_X12_streetOf_13 ad cy B qr s1 a1 a2 w0) (fun u : va_W => wpost dC dI cy (va_A w0 sz) u) (va_A w0 sz)) 0 0 (va_A w0 sz) := by
  refine Met.ofW (cc := cX12_streetOf) (maxL := 3) (ret := (some .int)) (by decide) rfl ?_
  intro p e s m args below meth c s₁ Bk hml hv
  obtain ⟨rfl, ⟨hsz, hP, hK, hD0⟩, hE, hSR⟩ := hv
  have hx := Bk.exec
  have hb := Bk.bytes
  have hr := Bk.returns
  have hlocks := Bk.notSynchronized
  have hC : CallFix p m c cX12_streetOf 3 s _ wsX12_streetOf RX12 := ⟨hx, hb, hml, findClass_of_methodNamed Bk.named, atoms_spec (ws := wsX12_streetOf) Bk.pre⟩
  subst hsz
  have hD := hD0.self (sz := s.heap.size)
  generalize hAe : va_A w0 s.heap.size = A at hD hE ⊢
  have hA : ∀ q : Nat, s.heap.size ≤ q → A q := fun q h => by rw [← hAe]; exact Or.inr h
  have hw : Wd dC dI A s.heap s.heap [] w0 := ⟨hP, hD, va_S.rf⟩
  have hF : FE ksM ([] : List (Nat × Nat × Nat)) w0 w0 := FE.rf
  have hl := lv_entry ([.ref (ad 0), .int a1, .int a2]) (n := 3) (Nat.le_of_ble_eq_true rfl)
  rw [lg_entry_eq]
  generalize (lg_sl ([.ref (ad 0), .int a1, .int a2]) ++ List.replicate (3 - (lg_sl ([.ref (ad 0), .int a1, .int a2])).length) Slot.unset).toArray = ls at hl ⊢
  have hl : lv_has ls 3 [(0, .ref (ad 0)), (1, .int a1), (2, .int a2)] := hl
  generalize hloc : ([] : List Loc) = locs at hw ⊢
  have hinX12 : ∀ w ∈ u_ws RX12 TX12 42, w ∈ wsX12_streetOf := fun _ h => List.mem_cons_of_mem _ (List.mem_append_right _ (h))
  refine lv_aload_n hx hb dX12_streetOf_0 rfl (lv_at hl 0 rfl) ?_
  refine tk_getA hC hK hw hT hinX12 kM_at0 (by decide) rfl 26 (by decide) (List.mem_of_getElem? (i := 1) rfl) rfl rfl dX12_streetOf_1 ?_
  refine lv_bipush (v := 10) hx hb dX12_streetOf_4 (by decide) ?_
  refine lv_bipush (v := 10) hx hb dX12_streetOf_6 (by decide) ?_
  refine lv_iload_n hx hb dX12_streetOf_8 rfl (lv_at hl 1 rfl) ?_
  refine lv_imul hx hb dX12_streetOf_9 ?_
  refine lv_topi (fun x1 ex1 => ?_)
  have ex1 : x1.toInt = (10 : Int) * a1.toInt := by rw [ex1]; exact wk_mul (show (-2147483648) ≤ (10 : Int) * a1.toInt by omega) (show (10 : Int) * a1.toInt ≤ 2147483647 by omega)
  refine lv_iadd hx hb dX12_streetOf_10 ?_
  refine lv_topi (fun x2 ex2 => ?_)
  have ex2 : x2.toInt = (10 : Int) + x1.toInt := by rw [ex2]; exact wk_add (show (-2147483648) ≤ (10 : Int) + x1.toInt by omega) (show (10 : Int) + x1.toInt ≤ 2147483647 by omega)
  refine lv_iload_n hx hb dX12_streetOf_11 rfl (lv_at hl 2 rfl) ?_
  refine lv_iadd hx hb dX12_streetOf_12 ?_
  refine lv_topi (fun x3 ex3 => ?_)
  have ex3 : x3.toInt = x2.toInt + a2.toInt := by rw [ex3]; exact wk_add (show (-2147483648) ≤ x2.toInt + a2.toInt by omega) (show x2.toInt + a2.toInt ≤ 2147483647 by omega)
  refine tk_ialdR hC hK hw hT kM_at12 rfl (show 0 ≤ x3.toInt by omega) (show x3.toInt < 296 by omega) dX12_streetOf_13 (fun x4 c5 Ex4 => ?_)
  have c5 : gi w0 12 (10 * a1.toInt + 1 * a2.toInt + 10).toNat = x4 := (congrArg (gi w0 12) (congrArg Int.toNat (show 10 * a1.toInt + 1 * a2.toInt + 10 = x3.toInt by omega))).trans c5
  have bx4 := tk_rgI rfl 13 1 127 0 9 (by decide +kernel) ⟨(x3.toInt - 13).toNat, by omega, show x3.toInt.toNat = 13 + 1 * (x3.toInt - 13).toNat by omega⟩ Ex4
  exact tk_iret hC hr hlocks hK ⟨rfl, ⟨(show 0 ≤ x4.toInt by omega), (show x4.toInt ≤ 9 by omega), c5⟩⟩ hw dX12_streetOf_14
abbrev P_X12_isDayFor_6 (ad : Nat → Nat) (cy : Nat → ClassId) (B : Int) (qr : Nat) (s1 : Int) (a1 : Int32) (a2 : Int32) (a3 : Int32) (w0 : va_W) : Int32 → va_W → Prop := fun r u => w0 = u ∧ ((r = 0 ∧ (¬ mDay w0 a1.toInt a2.toInt a3.toInt)) ∨ (r = 0 ∧ gi u 12 (10 * a1.toInt + 10).toNat = a2 ∧ (¬ mDay w0 a1.toInt a2.toInt a3.toInt)) ∨ (r = 1 ∧ (mDay w0 a1.toInt a2.toInt a3.toInt)) ∨ (r = 1 ∧ gi u 12 (10 * a1.toInt + 10).toNat = a2 ∧ (mDay w0 a1.toInt a2.toInt a3.toInt)))
set_option maxHeartbeats 4000000 in
set_option maxRecDepth 100000 in
theorem k_X12_isDayFor_6 (l : Launch) (adK adV : Nat → Nat) (dC : Nat → ClassId) (dI : Nat → Nat → Nat) (cy : Nat → ClassId) (ad : Nat → Nat) (B : Int) (hB0 : 100000 ≤ B) (hB1 : B ≤ 1073741824) (qr : Nat) (s1 : Int)  (a1 : Int32) (ra1 : 0 ≤ a1.toInt) (ta1 : a1.toInt ≤ 12) (a2 : Int32) (ra2 : 0 ≤ a2.toInt) (ta2 : a2.toInt ≤ 9) (a3 : Int32) (ra3 : 0 ≤ a3.toInt) (ta3 : a3.toInt ≤ 4249) (w0 : va_W) (sz : Nat) (hT : TW ksM ad cy B qr 13 w0)  : Met l yX12_isDayFor wsX12_isDayFor ({ frames := 3, cells := 0, slots := 0, locals := 57 }) (va_Pc [.ref (ad 0), .int a1, .int a2, .int a3] (wpreS adK adV dC dI cy sz w0)) (va_Qi (P_X12_isDayFor_6 ad cy B qr s1 a1 a2 a3 w0) (fun u : va_W => wpost dC dI cy (va_A w0 sz) u) (va_A w0 sz)) 0 0 (va_A w0 sz) := by
  refine Met.ofW (cc := cX12_isDayFor) (maxL := 4) (ret := (some .boolean)) (by decide) rfl ?_
  intro p e s m args below meth c s₁ Bk hml hv
  obtain ⟨rfl, ⟨hsz, hP, hK, hD0⟩, hE, hSR⟩ := hv
  have hx := Bk.exec
  have hb := Bk.bytes
  have hr := Bk.returns
  have hlocks := Bk.notSynchronized
  have hC : CallFix p m c cX12_isDayFor 4 s _ wsX12_isDayFor RX12 := ⟨hx, hb, hml, findClass_of_methodNamed Bk.named, atoms_spec (ws := wsX12_isDayFor) Bk.pre⟩
  subst hsz
  have hD := hD0.self (sz := s.heap.size)
  generalize hAe : va_A w0 s.heap.size = A at hD hE ⊢
  have hA : ∀ q : Nat, s.heap.size ≤ q → A q := fun q h => by rw [← hAe]; exact Or.inr h
  have hw : Wd dC dI A s.heap s.heap [] w0 := ⟨hP, hD, va_S.rf⟩
  have hF : FE ksM ([] : List (Nat × Nat × Nat)) w0 w0 := FE.rf
  have hl := lv_entry ([.ref (ad 0), .int a1, .int a2, .int a3]) (n := 4) (Nat.le_of_ble_eq_true rfl)
  rw [lg_entry_eq]
  generalize (lg_sl ([.ref (ad 0), .int a1, .int a2, .int a3]) ++ List.replicate (4 - (lg_sl ([.ref (ad 0), .int a1, .int a2, .int a3])).length) Slot.unset).toArray = ls at hl ⊢
  have hl : lv_has ls 4 [(0, .ref (ad 0)), (1, .int a1), (2, .int a2), (3, .int a3)] := hl
  generalize hloc : ([] : List Loc) = locs at hw ⊢
  refine lv_aload_n hx hb dX12_isDayFor_0 rfl (lv_at hl 0 rfl) ?_
  refine lv_aload_n hx hb dX12_isDayFor_1 rfl (lv_at hl 0 rfl) ?_
  refine lv_iload_n hx hb dX12_isDayFor_2 rfl (lv_at hl 1 rfl) ?_
  refine lv_iconst (v := 3) hx hb dX12_isDayFor_3 (by decide) ?_
  refine lv_iload_n hx hb dX12_isDayFor_4 rfl (lv_at hl 3 rfl) ?_
  refine lv_bipush (v := 7) hx hb dX12_isDayFor_5 (by decide) ?_
  refine lv_irem hx hb dX12_isDayFor_7 (by decide) ?_
  refine lv_topi (fun x1 ex1 => ?_)
  have ex1 : x1.toInt = a3.toInt % (7 : Int) := by rw [ex1]; exact wk_rem (show 0 ≤ a3.toInt by omega) (show 0 < (7 : Int) by decide)
  refine lv_iadd hx hb dX12_isDayFor_8 ?_
  refine lv_topi (fun x2 ex2 => ?_)
  have ex2 : x2.toInt = (3 : Int) + x1.toInt := by rw [ex2]; exact wk_add (show (-2147483648) ≤ (3 : Int) + x1.toInt by omega) (show (3 : Int) + x1.toInt ≤ 2147483647 by omega)
  refine tk_Vi hC hK hw hT hA hE hSR kM_at0 (by decide) rfl (k_X12_streetOf_13 l adK adV dC dI cy ad B (by omega) (by omega) qr s1   a1 (show 0 ≤ a1.toInt by omega) (show a1.toInt ≤ 12 by omega) x2 (show 3 ≤ x2.toInt by omega) (show x2.toInt ≤ 9 by omega) w0 s.heap.size hT ) (cwV 2 hC.2.2.2.2 gX12_isDayFor_X12_streetOf rfl rfl rfl (by decide +kernel) ⟨Nat.le_of_ble_eq_true rfl, Nat.le_of_ble_eq_true rfl⟩) rfl hl.1 rfl (Nat.le_of_ble_eq_true rfl) dX12_isDayFor_9 (fun r3 w5 H locs hp4 hw => ?_)
  obtain ⟨rfl, hg10⟩ := hp4
  obtain ⟨g7, g8, c9⟩ := hg10
  refine lv_iload_n hx hb dX12_isDayFor_12 rfl (lv_at hl 1 rfl) ?_
  refine lv_iload_n hx hb dX12_isDayFor_13 rfl (lv_at hl 2 rfl) ?_
  refine tk_Vi hC hK hw hT hA hE hSR kM_at0 (by decide) rfl (k_X12_hasSign_3 l adK adV dC dI cy ad B (by omega) (by omega) qr s1   r3 (show 0 ≤ r3.toInt by omega) (show r3.toInt ≤ 9 by omega) a1 (show 0 ≤ a1.toInt by omega) (show a1.toInt ≤ 12 by omega) a2 (show 0 ≤ a2.toInt by omega) (show a2.toInt ≤ 9 by omega) w0 H.size hT ) (cwV 3 hC.2.2.2.2 gX12_isDayFor_X12_hasSign rfl rfl rfl (by decide +kernel) ⟨Nat.le_of_ble_eq_true rfl, Nat.le_of_ble_eq_true rfl⟩) rfl hl.1 rfl (Nat.le_of_ble_eq_true rfl) dX12_isDayFor_14 (fun r11 w13 H locs hp12 hw => ?_)
  obtain ⟨rfl, hg21⟩ := hp12
  rcases hg21 with ⟨rfl, hq15⟩ | ⟨rfl, c16, hq17⟩ | ⟨rfl, hq18⟩ | ⟨rfl, c19, hq20⟩
  · refine lv_if_ne (tgt := 22) hx hb dX12_isDayFor_17 (by decide) (fun c => absurd (by decide) c) (fun _ => ?_)
    refine lv_iconst (v := 0) hx hb dX12_isDayFor_20 (by decide) ?_
    exact tk_zret hC hr rfl hlocks hK ⟨rfl, (Or.inl ⟨rfl, (by unfold mDay; rw [show (10 * a1.toInt + (3 + a3.toInt % 7) + 10) = 10 * a1.toInt + 1 * x2.toInt + 10 by omega]; simp only [c9]; first | exact ⟨by assumption, by assumption, by assumption⟩ | (rintro ⟨q1, q2, q3⟩; first | exact absurd q1 (by assumption) | exact q2 (by assumption) | exact q3 (by assumption)))⟩)⟩ hw dX12_isDayFor_21
  · refine lv_if_ne (tgt := 22) hx hb dX12_isDayFor_17 (by decide) (fun c => absurd (by decide) c) (fun _ => ?_)
    refine lv_iconst (v := 0) hx hb dX12_isDayFor_20 (by decide) ?_
    exact tk_zret hC hr rfl hlocks hK ⟨rfl, (Or.inr (Or.inl ⟨rfl, c16, (by unfold mDay; rw [show (10 * a1.toInt + (3 + a3.toInt % 7) + 10) = 10 * a1.toInt + 1 * x2.toInt + 10 by omega]; simp only [c9, c16]; first | exact ⟨by assumption, by assumption, by assumption⟩ | (rintro ⟨q1, q2, q3⟩; first | exact absurd q1 (by assumption) | exact q2 (by assumption) | exact q3 (by assumption)))⟩))⟩ hw dX12_isDayFor_21
  · refine lv_if_ne (tgt := 22) hx hb dX12_isDayFor_17 (by decide) (fun _ => ?_) (fun c => absurd c (by decide))
    refine lv_aload_n hx hb dX12_isDayFor_22 rfl (lv_at hl 0 rfl) ?_
    refine lv_aload_n hx hb dX12_isDayFor_23 rfl (lv_at hl 0 rfl) ?_
    refine lv_iload_n hx hb dX12_isDayFor_24 rfl (lv_at hl 1 rfl) ?_
    refine lv_iconst (v := 0) hx hb dX12_isDayFor_25 (by decide) ?_
    refine tk_Vi hC hK hw hT hA hE hSR kM_at0 (by decide) rfl (k_X12_streetOf_11 l adK adV dC dI cy ad B (by omega) (by omega) qr s1   a1 (show 0 ≤ a1.toInt by omega) (show a1.toInt ≤ 12 by omega) w0 H.size hT ) (cwV 2 hC.2.2.2.2 gX12_isDayFor_X12_streetOf rfl rfl rfl (by decide +kernel) ⟨Nat.le_of_ble_eq_true rfl, Nat.le_of_ble_eq_true rfl⟩) rfl hl.1 rfl (Nat.le_of_ble_eq_true rfl) dX12_isDayFor_26 (fun r22 w24 H locs hp23 hw => ?_)
    obtain ⟨rfl, hg29⟩ := hp23
    obtain ⟨g26, g27, c28⟩ := hg29
    refine lv_iload_n hx hb dX12_isDayFor_29 rfl (lv_at hl 3 rfl) ?_
    refine lv_sipush (v := 360) hx hb dX12_isDayFor_30 (by decide) ?_
    refine lv_irem hx hb dX12_isDayFor_33 (by decide) ?_
    refine lv_topi (fun x30 ex30 => ?_)
    have ex30 : x30.toInt = a3.toInt % (360 : Int) := by rw [ex30]; exact wk_rem (show 0 ≤ a3.toInt by omega) (show 0 < (360 : Int) by decide)
    refine tk_Vi hC hK hw hT hA hE hSR kM_at0 (by decide) rfl (k_X12_isClosed_2 l adK adV dC dI cy ad B (by omega) (by omega) qr s1   r22 (show 0 ≤ r22.toInt by omega) (show r22.toInt ≤ 9 by omega) x30 (show 0 ≤ x30.toInt by omega) (show x30.toInt ≤ 359 by omega) w0 H.size hT ) (cwV 2 hC.2.2.2.2 gX12_isDayFor_X12_isClosed rfl rfl rfl (by decide +kernel) ⟨Nat.le_of_ble_eq_true rfl, Nat.le_of_ble_eq_true rfl⟩) rfl hl.1 rfl (Nat.le_of_ble_eq_true rfl) dX12_isDayFor_34 (fun r31 w33 H locs hp32 hw => ?_)
    obtain ⟨rfl, hg41⟩ := hp32
    rcases hg41 with ⟨rfl, hq35⟩ | ⟨rfl, ⟨x36, c37, rx36, tx36⟩, ⟨x38, c39, rx38, tx38⟩, hq40⟩
    · refine lv_if_ne (tgt := 62) hx hb dX12_isDayFor_37 (by decide) (fun c => absurd (by decide) c) (fun _ => ?_)
      refine lv_aload_n hx hb dX12_isDayFor_40 rfl (lv_at hl 0 rfl) ?_
      refine lv_aload_n hx hb dX12_isDayFor_41 rfl (lv_at hl 0 rfl) ?_
      refine lv_iload_n hx hb dX12_isDayFor_42 rfl (lv_at hl 1 rfl) ?_
      refine lv_iconst (v := 1) hx hb dX12_isDayFor_43 (by decide) ?_
      refine tk_Vi hC hK hw hT hA hE hSR kM_at0 (by decide) rfl (k_X12_streetOf_12 l adK adV dC dI cy ad B (by omega) (by omega) qr s1   a1 (show 0 ≤ a1.toInt by omega) (show a1.toInt ≤ 12 by omega) w0 H.size hT ) (cwV 2 hC.2.2.2.2 gX12_isDayFor_X12_streetOf rfl rfl rfl (by decide +kernel) ⟨Nat.le_of_ble_eq_true rfl, Nat.le_of_ble_eq_true rfl⟩) rfl hl.1 rfl (Nat.le_of_ble_eq_true rfl) dX12_isDayFor_44 (fun r42 w44 H locs hp43 hw => ?_)
      obtain ⟨rfl, hg49⟩ := hp43
      obtain ⟨g46, g47, c48⟩ := hg49
      refine lv_iload_n hx hb dX12_isDayFor_47 rfl (lv_at hl 3 rfl) ?_
      refine lv_sipush (v := 360) hx hb dX12_isDayFor_48 (by decide) ?_
      refine lv_irem hx hb dX12_isDayFor_51 (by decide) ?_
      refine lv_topi (fun x50 ex50 => ?_)
      have ex50 : x50.toInt = a3.toInt % (360 : Int) := by rw [ex50]; exact wk_rem (show 0 ≤ a3.toInt by omega) (show 0 < (360 : Int) by decide)
      refine tk_Vi hC hK hw hT hA hE hSR kM_at0 (by decide) rfl (k_X12_isClosed_2 l adK adV dC dI cy ad B (by omega) (by omega) qr s1   r42 (show 0 ≤ r42.toInt by omega) (show r42.toInt ≤ 9 by omega) x50 (show 0 ≤ x50.toInt by omega) (show x50.toInt ≤ 359 by omega) w0 H.size hT ) (cwV 2 hC.2.2.2.2 gX12_isDayFor_X12_isClosed rfl rfl rfl (by decide +kernel) ⟨Nat.le_of_ble_eq_true rfl, Nat.le_of_ble_eq_true rfl⟩) rfl hl.1 rfl (Nat.le_of_ble_eq_true rfl) dX12_isDayFor_52 (fun r51 w53 H locs hp52 hw => ?_)
      obtain ⟨rfl, hg61⟩ := hp52
      rcases hg61 with ⟨rfl, hq55⟩ | ⟨rfl, ⟨x56, c57, rx56, tx56⟩, ⟨x58, c59, rx58, tx58⟩, hq60⟩
      · refine lv_if_ne (tgt := 62) hx hb dX12_isDayFor_55 (by decide) (fun c => absurd (by decide) c) (fun _ => ?_)
        refine lv_iconst (v := 1) hx hb dX12_isDayFor_58 (by decide) ?_
        refine lv_goto (tgt := 63) hx hb dX12_isDayFor_59 (by decide) ?_
        exact tk_zret hC hr rfl hlocks hK ⟨rfl, (Or.inr (Or.inr (Or.inl ⟨rfl, (by have hq35 := hq35; rw [show x30.toInt = a3.toInt % 360 by omega] at hq35; have hq55 := hq55; rw [show x50.toInt = a3.toInt % 360 by omega] at hq55; unfold mDay; rw [show (10 * a1.toInt + (3 + a3.toInt % 7) + 10) = 10 * a1.toInt + 1 * x2.toInt + 10 by omega]; simp only [c9, c28, c48]; first | exact ⟨by assumption, by assumption, by assumption⟩ | (rintro ⟨q1, q2, q3⟩; first | exact absurd q1 (by assumption) | exact q2 (by assumption) | exact q3 (by assumption)))⟩)))⟩ hw dX12_isDayFor_63
      · refine lv_if_ne (tgt := 62) hx hb dX12_isDayFor_55 (by decide) (fun _ => ?_) (fun c => absurd c (by decide))
        refine lv_iconst (v := 0) hx hb dX12_isDayFor_62 (by decide) ?_
        exact tk_zret hC hr rfl hlocks hK ⟨rfl, (Or.inl ⟨rfl, (by have hq35 := hq35; rw [show x30.toInt = a3.toInt % 360 by omega] at hq35; have hq60 := hq60; rw [show x50.toInt = a3.toInt % 360 by omega] at hq60; unfold mDay; rw [show (10 * a1.toInt + (3 + a3.toInt % 7) + 10) = 10 * a1.toInt + 1 * x2.toInt + 10 by omega]; simp only [c9, c28, c48, c57, c59]; first | exact ⟨by assumption, by assumption, by assumption⟩ | (rintro ⟨q1, q2, q3⟩; first | exact absurd q1 (by assumption) | exact q2 (by assumption) | exact q3 (by assumption)))⟩)⟩ hw dX12_isDayFor_63
    · refine lv_if_ne (tgt := 62) hx hb dX12_isDayFor_37 (by decide) (fun _ => ?_) (fun c => absurd c (by decide))
      refine lv_iconst (v := 0) hx hb dX12_isDayFor_62 (by decide) ?_
      exact tk_zret hC hr rfl hlocks hK ⟨rfl, (Or.inl ⟨rfl, (by have hq40 := hq40; rw [show x30.toInt = a3.toInt % 360 by omega] at hq40; unfold mDay; rw [show (10 * a1.toInt + (3 + a3.toInt % 7) + 10) = 10 * a1.toInt + 1 * x2.toInt + 10 by omega]; simp only [c9, c28, c37, c39]; first | exact ⟨by assumption, by assumption, by assumption⟩ | (rintro ⟨q1, q2, q3⟩; first | exact absurd q1 (by assumption) | exact q2 (by assumption) | exact q3 (by assumption)))⟩)⟩ hw dX12_isDayFor_63
  · refine lv_if_ne (tgt := 22) hx hb dX12_isDayFor_17 (by decide) (fun _ => ?_) (fun c => absurd c (by decide))
    refine lv_aload_n hx hb dX12_isDayFor_22 rfl (lv_at hl 0 rfl) ?_
    refine lv_aload_n hx hb dX12_isDayFor_23 rfl (lv_at hl 0 rfl) ?_
    refine lv_iload_n hx hb dX12_isDayFor_24 rfl (lv_at hl 1 rfl) ?_
    refine lv_iconst (v := 0) hx hb dX12_isDayFor_25 (by decide) ?_
    refine tk_Vi hC hK hw hT hA hE hSR kM_at0 (by decide) rfl (k_X12_streetOf_11 l adK adV dC dI cy ad B (by omega) (by omega) qr s1   a1 (show 0 ≤ a1.toInt by omega) (show a1.toInt ≤ 12 by omega) w0 H.size hT ) (cwV 2 hC.2.2.2.2 gX12_isDayFor_X12_streetOf rfl rfl rfl (by decide +kernel) ⟨Nat.le_of_ble_eq_true rfl, Nat.le_of_ble_eq_true rfl⟩) rfl hl.1 rfl (Nat.le_of_ble_eq_true rfl) dX12_isDayFor_26 (fun r62 w64 H locs hp63 hw => ?_)
    obtain ⟨rfl, hg69⟩ := hp63
    obtain ⟨g66, g67, c68⟩ := hg69
    obtain rfl : a2 = r62 := c19.symm.trans c68
    refine lv_iload_n hx hb dX12_isDayFor_29 rfl (lv_at hl 3 rfl) ?_
    refine lv_sipush (v := 360) hx hb dX12_isDayFor_30 (by decide) ?_
    refine lv_irem hx hb dX12_isDayFor_33 (by decide) ?_
    refine lv_topi (fun x70 ex70 => ?_)
    have ex70 : x70.toInt = a3.toInt % (360 : Int) := by rw [ex70]; exact wk_rem (show 0 ≤ a3.toInt by omega) (show 0 < (360 : Int) by decide)
    refine tk_Vi hC hK hw hT hA hE hSR kM_at0 (by decide) rfl (k_X12_isClosed_2 l adK adV dC dI cy ad B (by omega) (by omega) qr s1   a2 (show 0 ≤ a2.toInt by omega) (show a2.toInt ≤ 9 by omega) x70 (show 0 ≤ x70.toInt by omega) (show x70.toInt ≤ 359 by omega) w0 H.size hT ) (cwV 2 hC.2.2.2.2 gX12_isDayFor_X12_isClosed rfl rfl rfl (by decide +kernel) ⟨Nat.le_of_ble_eq_true rfl, Nat.le_of_ble_eq_true rfl⟩) rfl hl.1 rfl (Nat.le_of_ble_eq_true rfl) dX12_isDayFor_34 (fun r71 w73 H locs hp72 hw => ?_)
    obtain ⟨rfl, hg81⟩ := hp72
    rcases hg81 with ⟨rfl, hq75⟩ | ⟨rfl, ⟨x76, c77, rx76, tx76⟩, ⟨x78, c79, rx78, tx78⟩, hq80⟩
    · refine lv_if_ne (tgt := 62) hx hb dX12_isDayFor_37 (by decide) (fun c => absurd (by decide) c) (fun _ => ?_)
      refine lv_aload_n hx hb dX12_isDayFor_40 rfl (lv_at hl 0 rfl) ?_
      refine lv_aload_n hx hb dX12_isDayFor_41 rfl (lv_at hl 0 rfl) ?_
      refine lv_iload_n hx hb dX12_isDayFor_42 rfl (lv_at hl 1 rfl) ?_
      refine lv_iconst (v := 1) hx hb dX12_isDayFor_43 (by decide) ?_
      refine tk_Vi hC hK hw hT hA hE hSR kM_at0 (by decide) rfl (k_X12_streetOf_12 l adK adV dC dI cy ad B (by omega) (by omega) qr s1   a1 (show 0 ≤ a1.toInt by omega) (show a1.toInt ≤ 12 by omega) w0 H.size hT ) (cwV 2 hC.2.2.2.2 gX12_isDayFor_X12_streetOf rfl rfl rfl (by decide +kernel) ⟨Nat.le_of_ble_eq_true rfl, Nat.le_of_ble_eq_true rfl⟩) rfl hl.1 rfl (Nat.le_of_ble_eq_true rfl) dX12_isDayFor_44 (fun r82 w84 H locs hp83 hw => ?_)
      obtain ⟨rfl, hg89⟩ := hp83
      obtain ⟨g86, g87, c88⟩ := hg89
      refine lv_iload_n hx hb dX12_isDayFor_47 rfl (lv_at hl 3 rfl) ?_
      refine lv_sipush (v := 360) hx hb dX12_isDayFor_48 (by decide) ?_
      refine lv_irem hx hb dX12_isDayFor_51 (by decide) ?_
      refine lv_topi (fun x90 ex90 => ?_)
      have ex90 : x90.toInt = a3.toInt % (360 : Int) := by rw [ex90]; exact wk_rem (show 0 ≤ a3.toInt by omega) (show 0 < (360 : Int) by decide)
      refine tk_Vi hC hK hw hT hA hE hSR kM_at0 (by decide) rfl (k_X12_isClosed_2 l adK adV dC dI cy ad B (by omega) (by omega) qr s1   r82 (show 0 ≤ r82.toInt by omega) (show r82.toInt ≤ 9 by omega) x90 (show 0 ≤ x90.toInt by omega) (show x90.toInt ≤ 359 by omega) w0 H.size hT ) (cwV 2 hC.2.2.2.2 gX12_isDayFor_X12_isClosed rfl rfl rfl (by decide +kernel) ⟨Nat.le_of_ble_eq_true rfl, Nat.le_of_ble_eq_true rfl⟩) rfl hl.1 rfl (Nat.le_of_ble_eq_true rfl) dX12_isDayFor_52 (fun r91 w93 H locs hp92 hw => ?_)
      obtain ⟨rfl, hg101⟩ := hp92
      rcases hg101 with ⟨rfl, hq95⟩ | ⟨rfl, ⟨x96, c97, rx96, tx96⟩, ⟨x98, c99, rx98, tx98⟩, hq100⟩
      · refine lv_if_ne (tgt := 62) hx hb dX12_isDayFor_55 (by decide) (fun c => absurd (by decide) c) (fun _ => ?_)
        refine lv_iconst (v := 1) hx hb dX12_isDayFor_58 (by decide) ?_
        refine lv_goto (tgt := 63) hx hb dX12_isDayFor_59 (by decide) ?_
        exact tk_zret hC hr rfl hlocks hK ⟨rfl, (Or.inr (Or.inr (Or.inr ⟨rfl, c19, (by have hq75 := hq75; rw [show x70.toInt = a3.toInt % 360 by omega] at hq75; have hq95 := hq95; rw [show x90.toInt = a3.toInt % 360 by omega] at hq95; unfold mDay; rw [show (10 * a1.toInt + (3 + a3.toInt % 7) + 10) = 10 * a1.toInt + 1 * x2.toInt + 10 by omega]; simp only [c9, c19, c88]; first | exact ⟨by assumption, by assumption, by assumption⟩ | (rintro ⟨q1, q2, q3⟩; first | exact absurd q1 (by assumption) | exact q2 (by assumption) | exact q3 (by assumption)))⟩)))⟩ hw dX12_isDayFor_63
      · refine lv_if_ne (tgt := 62) hx hb dX12_isDayFor_55 (by decide) (fun _ => ?_) (fun c => absurd c (by decide))
        refine lv_iconst (v := 0) hx hb dX12_isDayFor_62 (by decide) ?_
        exact tk_zret hC hr rfl hlocks hK ⟨rfl, (Or.inr (Or.inl ⟨rfl, c19, (by have hq75 := hq75; rw [show x70.toInt = a3.toInt % 360 by omega] at hq75; have hq100 := hq100; rw [show x90.toInt = a3.toInt % 360 by omega] at hq100; unfold mDay; rw [show (10 * a1.toInt + (3 + a3.toInt % 7) + 10) = 10 * a1.toInt + 1 * x2.toInt + 10 by omega]; simp only [c9, c19, c88, c97, c99]; first | exact ⟨by assumption, by assumption, by assumption⟩ | (rintro ⟨q1, q2, q3⟩; first | exact absurd q1 (by assumption) | exact q2 (by assumption) | exact q3 (by assumption)))⟩))⟩ hw dX12_isDayFor_63
    · refine lv_if_ne (tgt := 62) hx hb dX12_isDayFor_37 (by decide) (fun _ => ?_) (fun c => absurd c (by decide))
      refine lv_iconst (v := 0) hx hb dX12_isDayFor_62 (by decide) ?_
      exact tk_zret hC hr rfl hlocks hK ⟨rfl, (Or.inr (Or.inl ⟨rfl, c19, (by have hq80 := hq80; rw [show x70.toInt = a3.toInt % 360 by omega] at hq80; unfold mDay; rw [show (10 * a1.toInt + (3 + a3.toInt % 7) + 10) = 10 * a1.toInt + 1 * x2.toInt + 10 by omega]; simp only [c9, c19, c77, c79]; first | exact ⟨by assumption, by assumption, by assumption⟩ | (rintro ⟨q1, q2, q3⟩; first | exact absurd q1 (by assumption) | exact q2 (by assumption) | exact q3 (by assumption)))⟩))⟩ hw dX12_isDayFor_63
abbrev P_X12_isLifted_6 (ad : Nat → Nat) (cy : Nat → ClassId) (B : Int) (qr : Nat) (s1 : Int) (a1 : Int32) (a2 : Int32) (w0 : va_W) : Int32 → va_W → Prop := fun r u => w0 = u ∧ ((r = 0 ∧ (¬ mLf w0 a1.toInt a2.toInt)) ∨ (r = 1 ∧ (∃ y : Int32, gi u 12 3 = y ∧ 1 ≤ y.toInt ∧ y.toInt ≤ 4) ∧ (mLf w0 a1.toInt a2.toInt)))
set_option maxHeartbeats 4000000 in
set_option maxRecDepth 100000 in
theorem k_X12_isLifted_6 (l : Launch) (adK adV : Nat → Nat) (dC : Nat → ClassId) (dI : Nat → Nat → Nat) (cy : Nat → ClassId) (ad : Nat → Nat) (B : Int) (hB0 : 100000 ≤ B) (hB1 : B ≤ 1073741824) (qr : Nat) (s1 : Int)  (a1 : Int32) (ra1 : 0 ≤ a1.toInt) (ta1 : a1.toInt ≤ 12) (a2 : Int32) (ra2 : 0 ≤ a2.toInt) (ta2 : a2.toInt ≤ 101999) (w0 : va_W) (sz : Nat) (hT : TW ksM ad cy B qr 13 w0)  : Met l yX12_isLifted wsX12_isLifted ({ frames := 1, cells := 0, slots := 0, locals := 12 }) (va_Pc [.ref (ad 0), .int a1, .int a2] (wpreS adK adV dC dI cy sz w0)) (va_Qi (P_X12_isLifted_6 ad cy B qr s1 a1 a2 w0) (fun u : va_W => wpost dC dI cy (va_A w0 sz) u) (va_A w0 sz)) 0 0 (va_A w0 sz) := by
  refine Met.ofW (cc := cX12_isLifted) (maxL := 5) (ret := (some .boolean)) (by decide) rfl ?_
  intro p e s m args below meth c s₁ Bk hml hv
  obtain ⟨rfl, ⟨hsz, hP, hK, hD0⟩, hE, hSR⟩ := hv
  have hx := Bk.exec
  have hb := Bk.bytes
  have hr := Bk.returns
  have hlocks := Bk.notSynchronized
  have hC : CallFix p m c cX12_isLifted 5 s _ wsX12_isLifted RX12 := ⟨hx, hb, hml, findClass_of_methodNamed Bk.named, atoms_spec (ws := wsX12_isLifted) Bk.pre⟩
  subst hsz
  have hD := hD0.self (sz := s.heap.size)
  generalize hAe : va_A w0 s.heap.size = A at hD hE ⊢
  have hA : ∀ q : Nat, s.heap.size ≤ q → A q := fun q h => by rw [← hAe]; exact Or.inr h
  have hw : Wd dC dI A s.heap s.heap [] w0 := ⟨hP, hD, va_S.rf⟩
  have hF : FE ksM ([] : List (Nat × Nat × Nat)) w0 w0 := FE.rf
  have hl := lv_entry ([.ref (ad 0), .int a1, .int a2]) (n := 5) (Nat.le_of_ble_eq_true rfl)
  rw [lg_entry_eq]
  generalize (lg_sl ([.ref (ad 0), .int a1, .int a2]) ++ List.replicate (5 - (lg_sl ([.ref (ad 0), .int a1, .int a2])).length) Slot.unset).toArray = ls at hl ⊢
  have hl : lv_has ls 5 [(0, .ref (ad 0)), (1, .int a1), (2, .int a2)] := hl
  generalize hloc : ([] : List Loc) = locs at hw ⊢
  have hinX12 : ∀ w ∈ u_ws RX12 TX12 42, w ∈ wsX12_isLifted := fun _ h => List.mem_cons_of_mem _ (List.mem_append_right _ (h))
  have L2 : ∀ (n2 : Nat) (v2_3 : Int32) (H : Heap) (locs : List Loc) (ls : Array Slot), 0 ≤ a1.toInt → a1.toInt ≤ 12 → 0 ≤ a2.toInt → a2.toInt ≤ 101999 → 0 ≤ v2_3.toInt → v2_3.toInt ≤ 4 → (∀ k : Int, 0 ≤ k → k < v2_3.toInt → ¬ mLf1 w0 k a1.toInt a2.toInt) → (4 - v2_3.toInt).toNat < n2 → Wd dC dI A s.heap H locs w0 → lv_has ls 5 [(0, .ref (ad 0)), (1, .int a1), (2, .int a2), (3, .int v2_3)] → W p l e ({ frames := 1, cells := 0, slots := 0, locals := 12 }) s m (List.toArray [.ref (ad 0), .int a1, .int a2]) below meth c H locs 0 0 (MQ below (va_Qi (P_X12_isLifted_6 ad cy B qr s1 a1 a2 w0) (fun u : va_W => wpost dC dI cy A u) A) (List.toArray [.ref (ad 0), .int a1, .int a2]) s 0 0 A) (F0 m 2 ls []) := by
    intro n2
    induction n2 with
    | zero => intro v2_3 H locs ls r1 t2 r3 t4 r5 t6 hcr2_0 hm2 hw hl; omega
    | succ n2 ih2 =>
      intro v2_3 H locs ls r1 t2 r3 t4 r5 t6 hcr2_0 hm2 hw hl
      refine lv_iload_n hx hb dX12_isLifted_2 rfl (lv_at hl 3 rfl) ?_
      refine lv_aload_n hx hb dX12_isLifted_3 rfl (lv_at hl 0 rfl) ?_
      refine tk_getA hC hK hw hT hinX12 kM_at0 (by decide) rfl 26 (by decide) (List.mem_of_getElem? (i := 1) rfl) rfl rfl dX12_isLifted_4 ?_
      refine lv_iconst (v := 3) hx hb dX12_isLifted_7 (by decide) ?_
      refine tk_ialdR hC hK hw hT kM_at12 rfl (by decide) (by decide) dX12_isLifted_8 (fun x7 c8 Ex7 => ?_)
      have bx7 := tk_rgI rfl 3 1 1 0 4 (by decide +kernel) ⟨0, by decide, by decide⟩ Ex7
      have c8 : gi w0 12 3 = x7 := c8
      refine lv_icmp_ge (tgt := 72) hx hb dX12_isLifted_9 (by decide) (fun c9 => ?_) (fun c9 => ?_)
      · have c9 : x7.toInt ≤ v2_3.toInt := wk_le.mp c9
        refine lv_iconst (v := 0) hx hb dX12_isLifted_72 (by decide) ?_
        exact tk_zret hC hr rfl hlocks hK ⟨rfl, (Or.inl ⟨rfl, (by exact mLf_no hcr2_0 (by simp only [c8]; omega))⟩)⟩ hw dX12_isLifted_73
      · have c9 : v2_3.toInt < x7.toInt := wk_leF c9
        refine lv_sipush (v := 156) hx hb dX12_isLifted_12 (by decide) ?_
        refine lv_iconst (v := 3) hx hb dX12_isLifted_15 (by decide) ?_
        refine lv_iload_n hx hb dX12_isLifted_16 rfl (lv_at hl 3 rfl) ?_
        refine lv_imul hx hb dX12_isLifted_17 ?_
        refine lv_topi (fun x10 ex10 => ?_)
        have ex10 : x10.toInt = (3 : Int) * v2_3.toInt := by rw [ex10]; exact wk_mul (show (-2147483648) ≤ (3 : Int) * v2_3.toInt by omega) (show (3 : Int) * v2_3.toInt ≤ 2147483647 by omega)
        refine lv_iadd hx hb dX12_isLifted_18 ?_
        refine lv_topi (fun x11 ex11 => ?_)
        have ex11 : x11.toInt = (156 : Int) + x10.toInt := by rw [ex11]; exact wk_add (show (-2147483648) ≤ (156 : Int) + x10.toInt by omega) (show (156 : Int) + x10.toInt ≤ 2147483647 by omega)
        refine lv_istore (lv' := [(4, .int x11), (0, .ref (ad 0)), (1, .int a1), (2, .int a2), (3, .int v2_3)]) hx hb dX12_isLifted_19 hl (by decide) rfl (fun ls hl => ?_)
        refine lv_aload_n hx hb dX12_isLifted_21 rfl (lv_at hl 1 rfl) ?_
        refine tk_getA hC hK hw hT hinX12 kM_at0 (by decide) rfl 26 (by decide) (List.mem_of_getElem? (i := 1) rfl) rfl rfl dX12_isLifted_22 ?_
        refine lv_iload hx hb dX12_isLifted_25 (lv_at hl 0 rfl) ?_
        refine tk_ialdR hC hK hw hT kM_at12 rfl (show 0 ≤ x11.toInt by omega) (show x11.toInt < 296 by omega) dX12_isLifted_27 (fun x12 c13 Ex12 => ?_)
        have c13 : gi w0 12 (3 * v2_3.toInt + 156).toNat = x12 := (congrArg (gi w0 12) (congrArg Int.toNat (show 3 * v2_3.toInt + 156 = x11.toInt by omega))).trans c13
        refine lv_iload_n hx hb dX12_isLifted_28 rfl (lv_at hl 2 rfl) ?_
        refine lv_icmp_ne (tgt := 66) hx hb dX12_isLifted_29 (by decide) (fun c14 => ?_) (fun c14 => ?_)
        · have c14 : ¬ x12.toInt = a1.toInt := wk_eqF c14
          obtain ⟨x15, ex15⟩ : ∃ y : Int32, y = v2_3 + Int32.ofInt 1 := ⟨_, rfl⟩
          refine lv_iinc (v := x15) (lv' := [(3, .int x15), (4, .int x11), (0, .ref (ad 0)), (1, .int a1), (2, .int a2)]) hx hb dX12_isLifted_66 hl (k := 4) rfl ex15.symm (by decide) rfl (fun ls hl => ?_)
          have ex15 : x15.toInt = v2_3.toInt + 1 := by rw [ex15]; exact wk_add (y := 1) (show -2147483648 ≤ v2_3.toInt + 1 by omega) (show v2_3.toInt + 1 ≤ 2147483647 by omega)
          refine lv_goto (tgt := 2) hx hb dX12_isLifted_69 (by decide) ?_
          exact ih2 x15 H locs ls  (show 0 ≤ a1.toInt by omega) (show a1.toInt ≤ 12 by omega) (show 0 ≤ a2.toInt by omega) (show a2.toInt ≤ 101999 by omega) (show 0 ≤ x15.toInt by omega) (show x15.toInt ≤ 4 by omega) (show ∀ k : Int, 0 ≤ k → k < x15.toInt → ¬ mLf1 w0 k a1.toInt a2.toInt from all_step hcr2_0 (show ¬ mLf1 w0 v2_3.toInt a1.toInt a2.toInt by unfold mLf1; simp only [c8, c13]; omega) (by omega)) (show (4 - x15.toInt).toNat < n2 by omega) hw   (lv_sub hl [2, 3, 4, 0] rfl)
        · have c14 : x12.toInt = a1.toInt := wk_eq.mp c14
          refine lv_iload_n hx hb dX12_isLifted_32 rfl (lv_at hl 3 rfl) ?_
          refine lv_bipush (v := 24) hx hb dX12_isLifted_33 (by decide) ?_
          refine lv_irem hx hb dX12_isLifted_35 (by decide) ?_
          refine lv_topi (fun x16 ex16 => ?_)
          have ex16 : x16.toInt = a2.toInt % (24 : Int) := by rw [ex16]; exact wk_rem (show 0 ≤ a2.toInt by omega) (show 0 < (24 : Int) by decide)
          refine lv_aload_n hx hb dX12_isLifted_36 rfl (lv_at hl 1 rfl) ?_
          refine tk_getA hC hK hw hT hinX12 kM_at0 (by decide) rfl 26 (by decide) (List.mem_of_getElem? (i := 1) rfl) rfl rfl dX12_isLifted_37 ?_
          refine lv_iload hx hb dX12_isLifted_40 (lv_at hl 0 rfl) ?_
          refine lv_iconst (v := 1) hx hb dX12_isLifted_42 (by decide) ?_
          refine lv_iadd hx hb dX12_isLifted_43 ?_
          refine lv_topi (fun x17 ex17 => ?_)
          have ex17 : x17.toInt = x11.toInt + (1 : Int) := by rw [ex17]; exact wk_add (show (-2147483648) ≤ x11.toInt + (1 : Int) by omega) (show x11.toInt + (1 : Int) ≤ 2147483647 by omega)
          refine tk_ialdR hC hK hw hT kM_at12 rfl (show 0 ≤ x17.toInt by omega) (show x17.toInt < 296 by omega) dX12_isLifted_44 (fun x18 c19 Ex18 => ?_)
          have c19 : gi w0 12 (3 * v2_3.toInt + 157).toNat = x18 := (congrArg (gi w0 12) (congrArg Int.toNat (show 3 * v2_3.toInt + 157 = x17.toInt by omega))).trans c19
          refine lv_icmp_lt (tgt := 66) hx hb dX12_isLifted_45 (by decide) (fun c20 => ?_) (fun c20 => ?_)
          · have c20 : x16.toInt < x18.toInt := wk_lt.mp c20
            obtain ⟨x21, ex21⟩ : ∃ y : Int32, y = v2_3 + Int32.ofInt 1 := ⟨_, rfl⟩
            refine lv_iinc (v := x21) (lv' := [(3, .int x21), (4, .int x11), (0, .ref (ad 0)), (1, .int a1), (2, .int a2)]) hx hb dX12_isLifted_66 hl (k := 4) rfl ex21.symm (by decide) rfl (fun ls hl => ?_)
            have ex21 : x21.toInt = v2_3.toInt + 1 := by rw [ex21]; exact wk_add (y := 1) (show -2147483648 ≤ v2_3.toInt + 1 by omega) (show v2_3.toInt + 1 ≤ 2147483647 by omega)
            refine lv_goto (tgt := 2) hx hb dX12_isLifted_69 (by decide) ?_
            exact ih2 x21 H locs ls  (show 0 ≤ a1.toInt by omega) (show a1.toInt ≤ 12 by omega) (show 0 ≤ a2.toInt by omega) (show a2.toInt ≤ 101999 by omega) (show 0 ≤ x21.toInt by omega) (show x21.toInt ≤ 4 by omega) (show ∀ k : Int, 0 ≤ k → k < x21.toInt → ¬ mLf1 w0 k a1.toInt a2.toInt from all_step hcr2_0 (show ¬ mLf1 w0 v2_3.toInt a1.toInt a2.toInt by unfold mLf1; simp only [c8, c13, c19]; omega) (by omega)) (show (4 - x21.toInt).toNat < n2 by omega) hw   (lv_sub hl [2, 3, 4, 0] rfl)
          · have c20 : x18.toInt ≤ x16.toInt := wk_ltF c20
            refine lv_iload_n hx hb dX12_isLifted_48 rfl (lv_at hl 3 rfl) ?_
            refine lv_bipush (v := 24) hx hb dX12_isLifted_49 (by decide) ?_
            refine lv_irem hx hb dX12_isLifted_51 (by decide) ?_
            refine lv_topi (fun x22 ex22 => ?_)
            have ex22 : x22.toInt = a2.toInt % (24 : Int) := by rw [ex22]; exact wk_rem (show 0 ≤ a2.toInt by omega) (show 0 < (24 : Int) by decide)
            refine lv_aload_n hx hb dX12_isLifted_52 rfl (lv_at hl 1 rfl) ?_
            refine tk_getA hC hK hw hT hinX12 kM_at0 (by decide) rfl 26 (by decide) (List.mem_of_getElem? (i := 1) rfl) rfl rfl dX12_isLifted_53 ?_
            refine lv_iload hx hb dX12_isLifted_56 (lv_at hl 0 rfl) ?_
            refine lv_iconst (v := 2) hx hb dX12_isLifted_58 (by decide) ?_
            refine lv_iadd hx hb dX12_isLifted_59 ?_
            refine lv_topi (fun x23 ex23 => ?_)
            have ex23 : x23.toInt = x11.toInt + (2 : Int) := by rw [ex23]; exact wk_add (show (-2147483648) ≤ x11.toInt + (2 : Int) by omega) (show x11.toInt + (2 : Int) ≤ 2147483647 by omega)
            refine tk_ialdR hC hK hw hT kM_at12 rfl (show 0 ≤ x23.toInt by omega) (show x23.toInt < 296 by omega) dX12_isLifted_60 (fun x24 c25 Ex24 => ?_)
            have c25 : gi w0 12 (3 * v2_3.toInt + 158).toNat = x24 := (congrArg (gi w0 12) (congrArg Int.toNat (show 3 * v2_3.toInt + 158 = x23.toInt by omega))).trans c25
            refine lv_icmp_ge (tgt := 66) hx hb dX12_isLifted_61 (by decide) (fun c26 => ?_) (fun c26 => ?_)
            · have c26 : x24.toInt ≤ x22.toInt := wk_le.mp c26
              obtain ⟨x27, ex27⟩ : ∃ y : Int32, y = v2_3 + Int32.ofInt 1 := ⟨_, rfl⟩
              refine lv_iinc (v := x27) (lv' := [(3, .int x27), (4, .int x11), (0, .ref (ad 0)), (1, .int a1), (2, .int a2)]) hx hb dX12_isLifted_66 hl (k := 4) rfl ex27.symm (by decide) rfl (fun ls hl => ?_)
              have ex27 : x27.toInt = v2_3.toInt + 1 := by rw [ex27]; exact wk_add (y := 1) (show -2147483648 ≤ v2_3.toInt + 1 by omega) (show v2_3.toInt + 1 ≤ 2147483647 by omega)
              refine lv_goto (tgt := 2) hx hb dX12_isLifted_69 (by decide) ?_
              exact ih2 x27 H locs ls  (show 0 ≤ a1.toInt by omega) (show a1.toInt ≤ 12 by omega) (show 0 ≤ a2.toInt by omega) (show a2.toInt ≤ 101999 by omega) (show 0 ≤ x27.toInt by omega) (show x27.toInt ≤ 4 by omega) (show ∀ k : Int, 0 ≤ k → k < x27.toInt → ¬ mLf1 w0 k a1.toInt a2.toInt from all_step hcr2_0 (show ¬ mLf1 w0 v2_3.toInt a1.toInt a2.toInt by unfold mLf1; simp only [c8, c13, c19, c25]; omega) (by omega)) (show (4 - x27.toInt).toNat < n2 by omega) hw   (lv_sub hl [2, 3, 4, 0] rfl)
            · have c26 : x22.toInt < x24.toInt := wk_leF c26
              refine lv_iconst (v := 1) hx hb dX12_isLifted_64 (by decide) ?_
              exact tk_zret hC hr rfl hlocks hK ⟨rfl, (Or.inr ⟨rfl, ⟨x7, c8, (show 1 ≤ x7.toInt by omega), (show x7.toInt ≤ 4 by omega)⟩, (by exact ⟨v2_3.toInt, by omega, by simp only [c8, c13, c19, c25]; omega, by unfold mLf1; simp only [c8, c13, c19, c25]; omega⟩)⟩)⟩ hw dX12_isLifted_65
  refine lv_iconst (v := 0) hx hb dX12_isLifted_0 (by decide) ?_
  refine lv_istore_n (lv' := [(3, .int 0), (0, .ref (ad 0)), (1, .int a1), (2, .int a2)]) hx hb dX12_isLifted_1 rfl hl (by decide) rfl (fun ls hl => ?_)
  exact L2 ((4 - (0 : Int)).toNat + 1) 0 s.heap locs ls  (show 0 ≤ a1.toInt by omega) (show a1.toInt ≤ 12 by omega) (show 0 ≤ a2.toInt by omega) (show a2.toInt ≤ 101999 by omega) (by decide) (by decide) (show ∀ k : Int, 0 ≤ k → k < (0 : Int) → ¬ mLf1 w0 k a1.toInt a2.toInt from all_none) (Nat.lt_succ_self _) hw   (lv_sub hl [1, 2, 3, 0] rfl)
abbrev P_X12_firstOpen_4 (ad : Nat → Nat) (cy : Nat → ClassId) (B : Int) (qr : Nat) (s1 : Int) (a1 : Int32) (a2 : Int32) (a3 : Int32) (a4 : Int32) (w0 : va_W) : Int32 → va_W → Prop := fun r u => w0 = u ∧ ((0 ≤ r.toInt ∧ r.toInt ≤ 100000000) ∨ (0 ≤ r.toInt ∧ r.toInt ≤ 101999 ∧ gi u 12 (10 * a1.toInt + 10).toNat = a2))
set_option maxHeartbeats 4000000 in
set_option maxRecDepth 100000 in
theorem k_X12_firstOpen_4 (l : Launch) (adK adV : Nat → Nat) (dC : Nat → ClassId) (dI : Nat → Nat → Nat) (cy : Nat → ClassId) (ad : Nat → Nat) (B : Int) (hB0 : 100000 ≤ B) (hB1 : B ≤ 1073741824) (qr : Nat) (s1 : Int)  (a1 : Int32) (ra1 : 0 ≤ a1.toInt) (ta1 : a1.toInt ≤ 12) (a2 : Int32) (ra2 : 0 ≤ a2.toInt) (ta2 : a2.toInt ≤ 9) (a3 : Int32) (ra3 : 0 ≤ a3.toInt) (ta3 : a3.toInt ≤ 100000100) (a4 : Int32) (ra4 : 2000 ≤ a4.toInt) (ta4 : a4.toInt ≤ 101999) (w0 : va_W) (sz : Nat) (hT : TW ksM ad cy B qr 13 w0)  : Met l yX12_firstOpen wsX12_firstOpen ({ frames := 4, cells := 0, slots := 0, locals := 80 }) (va_Pc [.ref (ad 0), .int a1, .int a2, .int a3, .int a4] (wpreS adK adV dC dI cy sz w0)) (va_Qi (P_X12_firstOpen_4 ad cy B qr s1 a1 a2 a3 a4 w0) (fun u : va_W => wpost dC dI cy (va_A w0 sz) u) (va_A w0 sz)) 0 0 (va_A w0 sz) := by
  refine Met.ofW (cc := cX12_firstOpen) (maxL := 6) (ret := (some .int)) (by decide) rfl ?_
  intro p e s m args below meth c s₁ Bk hml hv
  obtain ⟨rfl, ⟨hsz, hP, hK, hD0⟩, hE, hSR⟩ := hv
  have hx := Bk.exec
  have hb := Bk.bytes
  have hr := Bk.returns
  have hlocks := Bk.notSynchronized
  have hC : CallFix p m c cX12_firstOpen 6 s _ wsX12_firstOpen RX12 := ⟨hx, hb, hml, findClass_of_methodNamed Bk.named, atoms_spec (ws := wsX12_firstOpen) Bk.pre⟩
  subst hsz
  have hD := hD0.self (sz := s.heap.size)
  generalize hAe : va_A w0 s.heap.size = A at hD hE ⊢
  have hA : ∀ q : Nat, s.heap.size ≤ q → A q := fun q h => by rw [← hAe]; exact Or.inr h
  have hw : Wd dC dI A s.heap s.heap [] w0 := ⟨hP, hD, va_S.rf⟩
  have hF : FE ksM ([] : List (Nat × Nat × Nat)) w0 w0 := FE.rf
  have hl := lv_entry ([.ref (ad 0), .int a1, .int a2, .int a3, .int a4]) (n := 6) (Nat.le_of_ble_eq_true rfl)
  rw [lg_entry_eq]
  generalize (lg_sl ([.ref (ad 0), .int a1, .int a2, .int a3, .int a4]) ++ List.replicate (6 - (lg_sl ([.ref (ad 0), .int a1, .int a2, .int a3, .int a4])).length) Slot.unset).toArray = ls at hl ⊢
  have hl : lv_has ls 6 [(0, .ref (ad 0)), (1, .int a1), (2, .int a2), (3, .int a3), (4, .int a4)] := hl
  generalize hloc : ([] : List Loc) = locs at hw ⊢
  have L3 : ∀ (n3 : Nat) (v3_5 : Int32) (H : Heap) (locs : List Loc) (ls : Array Slot), 0 ≤ a1.toInt → a1.toInt ≤ 12 → 0 ≤ a2.toInt → a2.toInt ≤ 9 → 0 ≤ a3.toInt → a3.toInt ≤ 100000100 → 2000 ≤ a4.toInt → a4.toInt ≤ 101999 → 0 ≤ v3_5.toInt → v3_5.toInt ≤ 100000100 → (100000100 - v3_5.toInt).toNat < n3 → Wd dC dI A s.heap H locs w0 → lv_has ls 6 [(0, .ref (ad 0)), (1, .int a1), (2, .int a2), (3, .int a3), (4, .int a4), (5, .int v3_5)] → W p l e ({ frames := 4, cells := 0, slots := 0, locals := 80 }) s m (List.toArray [.ref (ad 0), .int a1, .int a2, .int a3, .int a4]) below meth c H locs 0 0 (MQ below (va_Qi (P_X12_firstOpen_4 ad cy B qr s1 a1 a2 a3 a4 w0) (fun u : va_W => wpost dC dI cy A u) A) (List.toArray [.ref (ad 0), .int a1, .int a2, .int a3, .int a4]) s 0 0 A) (F0 m 3 ls []) := by
    intro n3
    induction n3 with
    | zero => intro v3_5 H locs ls r1 t2 r3 t4 r5 t6 r7 t8 r9 t10 hm3 hw hl; omega
    | succ n3 ih3 =>
      intro v3_5 H locs ls r1 t2 r3 t4 r5 t6 r7 t8 r9 t10 hm3 hw hl
      refine lv_iload hx hb dX12_firstOpen_3 (lv_at hl 5 rfl) ?_
      refine lv_iload hx hb dX12_firstOpen_5 (lv_at hl 4 rfl) ?_
      refine lv_icmp_gt (tgt := 58) hx hb dX12_firstOpen_7 (by decide) (fun c11 => ?_) (fun c11 => ?_)
      · have c11 : a4.toInt < v3_5.toInt := wk_lt.mp c11
        refine lv_ldcw (v := 100000000) hx hb hC.2.2.2.1 (hC.2.2.2.2 _ (List.mem_of_getElem? (i := 1) rfl)) dX12_firstOpen_58 ?_
        exact tk_iret hC hr hlocks hK ⟨rfl, (Or.inl ⟨(by decide), (by decide)⟩)⟩ hw dX12_firstOpen_61
      · have c11 : v3_5.toInt ≤ a4.toInt := wk_ltF c11
        refine lv_aload_n hx hb dX12_firstOpen_10 rfl (lv_at hl 0 rfl) ?_
        refine lv_iload_n hx hb dX12_firstOpen_11 rfl (lv_at hl 1 rfl) ?_
        refine lv_iload_n hx hb dX12_firstOpen_12 rfl (lv_at hl 2 rfl) ?_
        refine lv_iload hx hb dX12_firstOpen_13 (lv_at hl 5 rfl) ?_
        refine lv_bipush (v := 24) hx hb dX12_firstOpen_15 (by decide) ?_
        refine lv_idiv hx hb dX12_firstOpen_17 (by decide) ?_
        refine lv_topi (fun x12 ex12 => ?_)
        have ex12 : x12.toInt = v3_5.toInt / (24 : Int) := by rw [ex12]; exact wk_div (show 0 ≤ v3_5.toInt by omega) (show 0 < (24 : Int) by decide)
        refine tk_Vi hC hK hw hT hA hE hSR kM_at0 (by decide) rfl (k_X12_isDayFor_6 l adK adV dC dI cy ad B (by omega) (by omega) qr s1   a1 (show 0 ≤ a1.toInt by omega) (show a1.toInt ≤ 12 by omega) a2 (show 0 ≤ a2.toInt by omega) (show a2.toInt ≤ 9 by omega) x12 (show 0 ≤ x12.toInt by omega) (show x12.toInt ≤ 4249 by omega) w0 H.size hT ) (cwV 3 hC.2.2.2.2 gX12_firstOpen_X12_isDayFor rfl rfl rfl (by decide +kernel) ⟨Nat.le_of_ble_eq_true rfl, Nat.le_of_ble_eq_true rfl⟩) rfl hl.1 rfl (Nat.le_of_ble_eq_true rfl) dX12_firstOpen_18 (fun r13 w15 H locs hp14 hw => ?_)
        obtain ⟨rfl, hg23⟩ := hp14
        rcases hg23 with ⟨rfl, hq17⟩ | ⟨rfl, c18, hq19⟩ | ⟨rfl, hq20⟩ | ⟨rfl, c21, hq22⟩
        · refine lv_if_ne (tgt := 39) hx hb dX12_firstOpen_21 (by decide) (fun c => absurd (by decide) c) (fun _ => ?_)
          refine lv_iload hx hb dX12_firstOpen_24 (lv_at hl 5 rfl) ?_
          refine lv_bipush (v := 24) hx hb dX12_firstOpen_26 (by decide) ?_
          refine lv_idiv hx hb dX12_firstOpen_28 (by decide) ?_
          refine lv_topi (fun x24 ex24 => ?_)
          have ex24 : x24.toInt = v3_5.toInt / (24 : Int) := by rw [ex24]; exact wk_div (show 0 ≤ v3_5.toInt by omega) (show 0 < (24 : Int) by decide)
          refine lv_iconst (v := 1) hx hb dX12_firstOpen_29 (by decide) ?_
          refine lv_iadd hx hb dX12_firstOpen_30 ?_
          refine lv_topi (fun x25 ex25 => ?_)
          have ex25 : x25.toInt = x24.toInt + (1 : Int) := by rw [ex25]; exact wk_add (show (-2147483648) ≤ x24.toInt + (1 : Int) by omega) (show x24.toInt + (1 : Int) ≤ 2147483647 by omega)
          refine lv_bipush (v := 24) hx hb dX12_firstOpen_31 (by decide) ?_
          refine lv_imul hx hb dX12_firstOpen_33 ?_
          refine lv_topi (fun x26 ex26 => ?_)
          have ex26 : x26.toInt = x25.toInt * (24 : Int) := by rw [ex26]; exact wk_mul (show (-2147483648) ≤ x25.toInt * (24 : Int) by omega) (show x25.toInt * (24 : Int) ≤ 2147483647 by omega)
          refine lv_istore (lv' := [(5, .int x26), (0, .ref (ad 0)), (1, .int a1), (2, .int a2), (3, .int a3), (4, .int a4)]) hx hb dX12_firstOpen_34 hl (by decide) rfl (fun ls hl => ?_)
          refine lv_goto (tgt := 3) hx hb dX12_firstOpen_36 (by decide) ?_
          exact ih3 x26 H locs ls  (show 0 ≤ a1.toInt by omega) (show a1.toInt ≤ 12 by omega) (show 0 ≤ a2.toInt by omega) (show a2.toInt ≤ 9 by omega) (show 0 ≤ a3.toInt by omega) (show a3.toInt ≤ 100000100 by omega) (show 2000 ≤ a4.toInt by omega) (show a4.toInt ≤ 101999 by omega) (show 0 ≤ x26.toInt by omega) (show x26.toInt ≤ 100000100 by omega) (show (100000100 - x26.toInt).toNat < n3 by omega) hw   (lv_sub hl [1, 2, 3, 4, 5, 0] rfl)
        · refine lv_if_ne (tgt := 39) hx hb dX12_firstOpen_21 (by decide) (fun c => absurd (by decide) c) (fun _ => ?_)
          refine lv_iload hx hb dX12_firstOpen_24 (lv_at hl 5 rfl) ?_
          refine lv_bipush (v := 24) hx hb dX12_firstOpen_26 (by decide) ?_
          refine lv_idiv hx hb dX12_firstOpen_28 (by decide) ?_
          refine lv_topi (fun x27 ex27 => ?_)
          have ex27 : x27.toInt = v3_5.toInt / (24 : Int) := by rw [ex27]; exact wk_div (show 0 ≤ v3_5.toInt by omega) (show 0 < (24 : Int) by decide)
          refine lv_iconst (v := 1) hx hb dX12_firstOpen_29 (by decide) ?_
          refine lv_iadd hx hb dX12_firstOpen_30 ?_
          refine lv_topi (fun x28 ex28 => ?_)
          have ex28 : x28.toInt = x27.toInt + (1 : Int) := by rw [ex28]; exact wk_add (show (-2147483648) ≤ x27.toInt + (1 : Int) by omega) (show x27.toInt + (1 : Int) ≤ 2147483647 by omega)
          refine lv_bipush (v := 24) hx hb dX12_firstOpen_31 (by decide) ?_
          refine lv_imul hx hb dX12_firstOpen_33 ?_
          refine lv_topi (fun x29 ex29 => ?_)
          have ex29 : x29.toInt = x28.toInt * (24 : Int) := by rw [ex29]; exact wk_mul (show (-2147483648) ≤ x28.toInt * (24 : Int) by omega) (show x28.toInt * (24 : Int) ≤ 2147483647 by omega)
          refine lv_istore (lv' := [(5, .int x29), (0, .ref (ad 0)), (1, .int a1), (2, .int a2), (3, .int a3), (4, .int a4)]) hx hb dX12_firstOpen_34 hl (by decide) rfl (fun ls hl => ?_)
          refine lv_goto (tgt := 3) hx hb dX12_firstOpen_36 (by decide) ?_
          exact ih3 x29 H locs ls  (show 0 ≤ a1.toInt by omega) (show a1.toInt ≤ 12 by omega) (show 0 ≤ a2.toInt by omega) (show a2.toInt ≤ 9 by omega) (show 0 ≤ a3.toInt by omega) (show a3.toInt ≤ 100000100 by omega) (show 2000 ≤ a4.toInt by omega) (show a4.toInt ≤ 101999 by omega) (show 0 ≤ x29.toInt by omega) (show x29.toInt ≤ 100000100 by omega) (show (100000100 - x29.toInt).toNat < n3 by omega) hw   (lv_sub hl [1, 2, 3, 4, 5, 0] rfl)
        · refine lv_if_ne (tgt := 39) hx hb dX12_firstOpen_21 (by decide) (fun _ => ?_) (fun c => absurd c (by decide))
          refine lv_aload_n hx hb dX12_firstOpen_39 rfl (lv_at hl 0 rfl) ?_
          refine lv_iload_n hx hb dX12_firstOpen_40 rfl (lv_at hl 1 rfl) ?_
          refine lv_iload hx hb dX12_firstOpen_41 (lv_at hl 5 rfl) ?_
          refine tk_Vi hC hK hw hT hA hE hSR kM_at0 (by decide) rfl (k_X12_isLifted_6 l adK adV dC dI cy ad B (by omega) (by omega) qr s1   a1 (show 0 ≤ a1.toInt by omega) (show a1.toInt ≤ 12 by omega) v3_5 (show 0 ≤ v3_5.toInt by omega) (show v3_5.toInt ≤ 101999 by omega) w0 H.size hT ) (cwV 2 hC.2.2.2.2 gX12_firstOpen_X12_isLifted rfl rfl rfl (by decide +kernel) ⟨Nat.le_of_ble_eq_true rfl, Nat.le_of_ble_eq_true rfl⟩) rfl hl.1 rfl (Nat.le_of_ble_eq_true rfl) dX12_firstOpen_43 (fun r30 w32 H locs hp31 hw => ?_)
          obtain ⟨rfl, hg38⟩ := hp31
          rcases hg38 with ⟨rfl, hq34⟩ | ⟨rfl, ⟨x35, c36, rx35, tx35⟩, hq37⟩
          · refine lv_if_eq (tgt := 55) hx hb dX12_firstOpen_46 (by decide) (fun _ => ?_) (fun c => absurd (by decide) c)
            refine lv_iload hx hb dX12_firstOpen_55 (lv_at hl 5 rfl) ?_
            exact tk_iret hC hr hlocks hK ⟨rfl, (Or.inl ⟨(show 0 ≤ v3_5.toInt by omega), (show v3_5.toInt ≤ 100000000 by omega)⟩)⟩ hw dX12_firstOpen_57
          · refine lv_if_eq (tgt := 55) hx hb dX12_firstOpen_46 (by decide) (fun c => absurd c (by decide)) (fun _ => ?_)
            obtain ⟨x39, ex39⟩ : ∃ y : Int32, y = v3_5 + Int32.ofInt 1 := ⟨_, rfl⟩
            refine lv_iinc (v := x39) (lv' := [(5, .int x39), (0, .ref (ad 0)), (1, .int a1), (2, .int a2), (3, .int a3), (4, .int a4)]) hx hb dX12_firstOpen_49 hl (k := 5) rfl ex39.symm (by decide) rfl (fun ls hl => ?_)
            have ex39 : x39.toInt = v3_5.toInt + 1 := by rw [ex39]; exact wk_add (y := 1) (show -2147483648 ≤ v3_5.toInt + 1 by omega) (show v3_5.toInt + 1 ≤ 2147483647 by omega)
            refine lv_goto (tgt := 3) hx hb dX12_firstOpen_52 (by decide) ?_
            exact ih3 x39 H locs ls  (show 0 ≤ a1.toInt by omega) (show a1.toInt ≤ 12 by omega) (show 0 ≤ a2.toInt by omega) (show a2.toInt ≤ 9 by omega) (show 0 ≤ a3.toInt by omega) (show a3.toInt ≤ 100000100 by omega) (show 2000 ≤ a4.toInt by omega) (show a4.toInt ≤ 101999 by omega) (show 0 ≤ x39.toInt by omega) (show x39.toInt ≤ 100000100 by omega) (show (100000100 - x39.toInt).toNat < n3 by omega) hw   (lv_sub hl [1, 2, 3, 4, 5, 0] rfl)
        · refine lv_if_ne (tgt := 39) hx hb dX12_firstOpen_21 (by decide) (fun _ => ?_) (fun c => absurd c (by decide))
          refine lv_aload_n hx hb dX12_firstOpen_39 rfl (lv_at hl 0 rfl) ?_
          refine lv_iload_n hx hb dX12_firstOpen_40 rfl (lv_at hl 1 rfl) ?_
          refine lv_iload hx hb dX12_firstOpen_41 (lv_at hl 5 rfl) ?_
          refine tk_Vi hC hK hw hT hA hE hSR kM_at0 (by decide) rfl (k_X12_isLifted_6 l adK adV dC dI cy ad B (by omega) (by omega) qr s1   a1 (show 0 ≤ a1.toInt by omega) (show a1.toInt ≤ 12 by omega) v3_5 (show 0 ≤ v3_5.toInt by omega) (show v3_5.toInt ≤ 101999 by omega) w0 H.size hT ) (cwV 2 hC.2.2.2.2 gX12_firstOpen_X12_isLifted rfl rfl rfl (by decide +kernel) ⟨Nat.le_of_ble_eq_true rfl, Nat.le_of_ble_eq_true rfl⟩) rfl hl.1 rfl (Nat.le_of_ble_eq_true rfl) dX12_firstOpen_43 (fun r40 w42 H locs hp41 hw => ?_)
          obtain ⟨rfl, hg48⟩ := hp41
          rcases hg48 with ⟨rfl, hq44⟩ | ⟨rfl, ⟨x45, c46, rx45, tx45⟩, hq47⟩
          · refine lv_if_eq (tgt := 55) hx hb dX12_firstOpen_46 (by decide) (fun _ => ?_) (fun c => absurd (by decide) c)
            refine lv_iload hx hb dX12_firstOpen_55 (lv_at hl 5 rfl) ?_
            exact tk_iret hC hr hlocks hK ⟨rfl, (Or.inr ⟨(show 0 ≤ v3_5.toInt by omega), (show v3_5.toInt ≤ 101999 by omega), c21⟩)⟩ hw dX12_firstOpen_57
          · refine lv_if_eq (tgt := 55) hx hb dX12_firstOpen_46 (by decide) (fun c => absurd c (by decide)) (fun _ => ?_)
            obtain ⟨x49, ex49⟩ : ∃ y : Int32, y = v3_5 + Int32.ofInt 1 := ⟨_, rfl⟩
            refine lv_iinc (v := x49) (lv' := [(5, .int x49), (0, .ref (ad 0)), (1, .int a1), (2, .int a2), (3, .int a3), (4, .int a4)]) hx hb dX12_firstOpen_49 hl (k := 5) rfl ex49.symm (by decide) rfl (fun ls hl => ?_)
            have ex49 : x49.toInt = v3_5.toInt + 1 := by rw [ex49]; exact wk_add (y := 1) (show -2147483648 ≤ v3_5.toInt + 1 by omega) (show v3_5.toInt + 1 ≤ 2147483647 by omega)
            refine lv_goto (tgt := 3) hx hb dX12_firstOpen_52 (by decide) ?_
            exact ih3 x49 H locs ls  (show 0 ≤ a1.toInt by omega) (show a1.toInt ≤ 12 by omega) (show 0 ≤ a2.toInt by omega) (show a2.toInt ≤ 9 by omega) (show 0 ≤ a3.toInt by omega) (show a3.toInt ≤ 100000100 by omega) (show 2000 ≤ a4.toInt by omega) (show a4.toInt ≤ 101999 by omega) (show 0 ≤ x49.toInt by omega) (show x49.toInt ≤ 100000100 by omega) (show (100000100 - x49.toInt).toNat < n3 by omega) hw   (lv_sub hl [1, 2, 3, 4, 5, 0] rfl)
  refine lv_iload_n hx hb dX12_firstOpen_0 rfl (lv_at hl 3 rfl) ?_
  refine lv_istore (lv' := [(5, .int a3), (0, .ref (ad 0)), (1, .int a1), (2, .int a2), (3, .int a3), (4, .int a4)]) hx hb dX12_firstOpen_1 hl (by decide) rfl (fun ls hl => ?_)
  exact L3 ((100000100 - a3.toInt).toNat + 1) a3 s.heap locs ls  (show 0 ≤ a1.toInt by omega) (show a1.toInt ≤ 12 by omega) (show 0 ≤ a2.toInt by omega) (show a2.toInt ≤ 9 by omega) (show 0 ≤ a3.toInt by omega) (show a3.toInt ≤ 100000100 by omega) (show 2000 ≤ a4.toInt by omega) (show a4.toInt ≤ 101999 by omega) (show 0 ≤ a3.toInt by omega) (show a3.toInt ≤ 100000100 by omega) (Nat.lt_succ_self _) hw   (lv_sub hl [1, 2, 3, 4, 5, 0] rfl)
abbrev P_X12_isAt_3 (ad : Nat → Nat) (cy : Nat → ClassId) (B : Int) (qr : Nat) (s1 : Int) (a1 : Int32) (a2 : Int32) (w0 : va_W) : Int32 → va_W → Prop := fun r u => w0 = u ∧ ((r = 0 ∧ (¬ mAt w0 a1.toInt a2.toInt)) ∨ (r = 1 ∧ gi u 12 (10 * a1.toInt + 10).toNat = a2 ∧ (mAt w0 a1.toInt a2.toInt)) ∨ (r = 1 ∧ gi u 12 (10 * a1.toInt + 11).toNat = a2 ∧ (mAt w0 a1.toInt a2.toInt)))
set_option maxHeartbeats 4000000 in
set_option maxRecDepth 100000 in
theorem k_X12_isAt_3 (l : Launch) (adK adV : Nat → Nat) (dC : Nat → ClassId) (dI : Nat → Nat → Nat) (cy : Nat → ClassId) (ad : Nat → Nat) (B : Int) (hB0 : 100000 ≤ B) (hB1 : B ≤ 1073741824) (qr : Nat) (s1 : Int)  (a1 : Int32) (ra1 : 0 ≤ a1.toInt) (ta1 : a1.toInt ≤ 12) (a2 : Int32) (ra2 : 0 ≤ a2.toInt) (ta2 : a2.toInt ≤ 9) (w0 : va_W) (sz : Nat) (hT : TW ksM ad cy B qr 13 w0)  : Met l yX12_isAt wsX12_isAt ({ frames := 2, cells := 0, slots := 0, locals := 34 }) (va_Pc [.ref (ad 0), .int a1, .int a2] (wpreS adK adV dC dI cy sz w0)) (va_Qi (P_X12_isAt_3 ad cy B qr s1 a1 a2 w0) (fun u : va_W => wpost dC dI cy (va_A w0 sz) u) (va_A w0 sz)) 0 0 (va_A w0 sz) := by
  refine Met.ofW (cc := cX12_isAt) (maxL := 3) (ret := (some .boolean)) (by decide) rfl ?_
  intro p e s m args below meth c s₁ Bk hml hv
  obtain ⟨rfl, ⟨hsz, hP, hK, hD0⟩, hE, hSR⟩ := hv
  have hx := Bk.exec
  have hb := Bk.bytes
  have hr := Bk.returns
  have hlocks := Bk.notSynchronized
  have hC : CallFix p m c cX12_isAt 3 s _ wsX12_isAt RX12 := ⟨hx, hb, hml, findClass_of_methodNamed Bk.named, atoms_spec (ws := wsX12_isAt) Bk.pre⟩
  subst hsz
  have hD := hD0.self (sz := s.heap.size)
  generalize hAe : va_A w0 s.heap.size = A at hD hE ⊢
  have hA : ∀ q : Nat, s.heap.size ≤ q → A q := fun q h => by rw [← hAe]; exact Or.inr h
  have hw : Wd dC dI A s.heap s.heap [] w0 := ⟨hP, hD, va_S.rf⟩
  have hF : FE ksM ([] : List (Nat × Nat × Nat)) w0 w0 := FE.rf
  have hl := lv_entry ([.ref (ad 0), .int a1, .int a2]) (n := 3) (Nat.le_of_ble_eq_true rfl)
  rw [lg_entry_eq]
  generalize (lg_sl ([.ref (ad 0), .int a1, .int a2]) ++ List.replicate (3 - (lg_sl ([.ref (ad 0), .int a1, .int a2])).length) Slot.unset).toArray = ls at hl ⊢
  have hl : lv_has ls 3 [(0, .ref (ad 0)), (1, .int a1), (2, .int a2)] := hl
  generalize hloc : ([] : List Loc) = locs at hw ⊢
  refine lv_aload_n hx hb dX12_isAt_0 rfl (lv_at hl 0 rfl) ?_
  refine lv_iload_n hx hb dX12_isAt_1 rfl (lv_at hl 1 rfl) ?_
  refine lv_iconst (v := 0) hx hb dX12_isAt_2 (by decide) ?_
  refine tk_Vi hC hK hw hT hA hE hSR kM_at0 (by decide) rfl (k_X12_streetOf_11 l adK adV dC dI cy ad B (by omega) (by omega) qr s1   a1 (show 0 ≤ a1.toInt by omega) (show a1.toInt ≤ 12 by omega) w0 s.heap.size hT ) (cwV 2 hC.2.2.2.2 gX12_isAt_X12_streetOf rfl rfl rfl (by decide +kernel) ⟨Nat.le_of_ble_eq_true rfl, Nat.le_of_ble_eq_true rfl⟩) rfl hl.1 rfl (Nat.le_of_ble_eq_true rfl) dX12_isAt_3 (fun r1 w3 H locs hp2 hw => ?_)
  obtain ⟨rfl, hg8⟩ := hp2
  obtain ⟨g5, g6, c7⟩ := hg8
  refine lv_iload_n hx hb dX12_isAt_6 rfl (lv_at hl 2 rfl) ?_
  refine lv_icmp_eq (tgt := 20) hx hb dX12_isAt_7 (by decide) (fun c9 => ?_) (fun c9 => ?_)
  · have c9 : r1.toInt = a2.toInt := wk_eq.mp c9
    refine lv_iconst (v := 1) hx hb dX12_isAt_20 (by decide) ?_
    refine lv_goto (tgt := 25) hx hb dX12_isAt_21 (by decide) ?_
    exact tk_zret hC hr rfl hlocks hK ⟨rfl, (Or.inr (Or.inl ⟨rfl, (c7.trans (wk_eq.mpr (show r1.toInt = a2.toInt by omega))), (by unfold mAt; simp only [c7]; omega)⟩))⟩ hw dX12_isAt_25
  · have c9 : ¬ r1.toInt = a2.toInt := wk_eqF c9
    refine lv_aload_n hx hb dX12_isAt_10 rfl (lv_at hl 0 rfl) ?_
    refine lv_iload_n hx hb dX12_isAt_11 rfl (lv_at hl 1 rfl) ?_
    refine lv_iconst (v := 1) hx hb dX12_isAt_12 (by decide) ?_
    refine tk_Vi hC hK hw hT hA hE hSR kM_at0 (by decide) rfl (k_X12_streetOf_12 l adK adV dC dI cy ad B (by omega) (by omega) qr s1   a1 (show 0 ≤ a1.toInt by omega) (show a1.toInt ≤ 12 by omega) w0 H.size hT ) (cwV 2 hC.2.2.2.2 gX12_isAt_X12_streetOf rfl rfl rfl (by decide +kernel) ⟨Nat.le_of_ble_eq_true rfl, Nat.le_of_ble_eq_true rfl⟩) rfl hl.1 rfl (Nat.le_of_ble_eq_true rfl) dX12_isAt_13 (fun r10 w12 H locs hp11 hw => ?_)
    obtain ⟨rfl, hg17⟩ := hp11
    obtain ⟨g14, g15, c16⟩ := hg17
    refine lv_iload_n hx hb dX12_isAt_16 rfl (lv_at hl 2 rfl) ?_
    refine lv_icmp_ne (tgt := 24) hx hb dX12_isAt_17 (by decide) (fun c18 => ?_) (fun c18 => ?_)
    · have c18 : ¬ r10.toInt = a2.toInt := wk_eqF c18
      refine lv_iconst (v := 0) hx hb dX12_isAt_24 (by decide) ?_
      exact tk_zret hC hr rfl hlocks hK ⟨rfl, (Or.inl ⟨rfl, (by unfold mAt; simp only [c7, c16]; omega)⟩)⟩ hw dX12_isAt_25
    · have c18 : r10.toInt = a2.toInt := wk_eq.mp c18
      refine lv_iconst (v := 1) hx hb dX12_isAt_20 (by decide) ?_
      refine lv_goto (tgt := 25) hx hb dX12_isAt_21 (by decide) ?_
      exact tk_zret hC hr rfl hlocks hK ⟨rfl, (Or.inr (Or.inr ⟨rfl, (c16.trans (wk_eq.mpr (show r10.toInt = a2.toInt by omega))), (by unfold mAt; simp only [c7, c16]; omega)⟩))⟩ hw dX12_isAt_25
abbrev P_X12_otherOf_3 (ad : Nat → Nat) (cy : Nat → ClassId) (B : Int) (qr : Nat) (s1 : Int) (a1 : Int32) (a2 : Int32) (w0 : va_W) : Int32 → va_W → Prop := fun r u => w0 = u ∧ ((0 ≤ r.toInt ∧ r.toInt ≤ 9) ∨ (0 ≤ r.toInt ∧ r.toInt ≤ 9 ∧ gi u 12 (10 * a1.toInt + 10).toNat = a2))
set_option maxHeartbeats 4000000 in
set_option maxRecDepth 100000 in
theorem k_X12_otherOf_3 (l : Launch) (adK adV : Nat → Nat) (dC : Nat → ClassId) (dI : Nat → Nat → Nat) (cy : Nat → ClassId) (ad : Nat → Nat) (B : Int) (hB0 : 100000 ≤ B) (hB1 : B ≤ 1073741824) (qr : Nat) (s1 : Int)  (a1 : Int32) (ra1 : 0 ≤ a1.toInt) (ta1 : a1.toInt ≤ 12) (a2 : Int32) (ra2 : 0 ≤ a2.toInt) (ta2 : a2.toInt ≤ 9) (w0 : va_W) (sz : Nat) (hT : TW ksM ad cy B qr 13 w0)  : Met l yX12_otherOf wsX12_otherOf ({ frames := 2, cells := 0, slots := 0, locals := 34 }) (va_Pc [.ref (ad 0), .int a1, .int a2] (wpreS adK adV dC dI cy sz w0)) (va_Qi (P_X12_otherOf_3 ad cy B qr s1 a1 a2 w0) (fun u : va_W => wpost dC dI cy (va_A w0 sz) u) (va_A w0 sz)) 0 0 (va_A w0 sz) := by
  refine Met.ofW (cc := cX12_otherOf) (maxL := 3) (ret := (some .int)) (by decide) rfl ?_
  intro p e s m args below meth c s₁ Bk hml hv
  obtain ⟨rfl, ⟨hsz, hP, hK, hD0⟩, hE, hSR⟩ := hv
  have hx := Bk.exec
  have hb := Bk.bytes
  have hr := Bk.returns
  have hlocks := Bk.notSynchronized
  have hC : CallFix p m c cX12_otherOf 3 s _ wsX12_otherOf RX12 := ⟨hx, hb, hml, findClass_of_methodNamed Bk.named, atoms_spec (ws := wsX12_otherOf) Bk.pre⟩
  subst hsz
  have hD := hD0.self (sz := s.heap.size)
  generalize hAe : va_A w0 s.heap.size = A at hD hE ⊢
  have hA : ∀ q : Nat, s.heap.size ≤ q → A q := fun q h => by rw [← hAe]; exact Or.inr h
  have hw : Wd dC dI A s.heap s.heap [] w0 := ⟨hP, hD, va_S.rf⟩
  have hF : FE ksM ([] : List (Nat × Nat × Nat)) w0 w0 := FE.rf
  have hl := lv_entry ([.ref (ad 0), .int a1, .int a2]) (n := 3) (Nat.le_of_ble_eq_true rfl)
  rw [lg_entry_eq]
  generalize (lg_sl ([.ref (ad 0), .int a1, .int a2]) ++ List.replicate (3 - (lg_sl ([.ref (ad 0), .int a1, .int a2])).length) Slot.unset).toArray = ls at hl ⊢
  have hl : lv_has ls 3 [(0, .ref (ad 0)), (1, .int a1), (2, .int a2)] := hl
  generalize hloc : ([] : List Loc) = locs at hw ⊢
  refine lv_aload_n hx hb dX12_otherOf_0 rfl (lv_at hl 0 rfl) ?_
  refine lv_iload_n hx hb dX12_otherOf_1 rfl (lv_at hl 1 rfl) ?_
  refine lv_iconst (v := 0) hx hb dX12_otherOf_2 (by decide) ?_
  refine tk_Vi hC hK hw hT hA hE hSR kM_at0 (by decide) rfl (k_X12_streetOf_11 l adK adV dC dI cy ad B (by omega) (by omega) qr s1   a1 (show 0 ≤ a1.toInt by omega) (show a1.toInt ≤ 12 by omega) w0 s.heap.size hT ) (cwV 2 hC.2.2.2.2 gX12_otherOf_X12_streetOf rfl rfl rfl (by decide +kernel) ⟨Nat.le_of_ble_eq_true rfl, Nat.le_of_ble_eq_true rfl⟩) rfl hl.1 rfl (Nat.le_of_ble_eq_true rfl) dX12_otherOf_3 (fun r1 w3 H locs hp2 hw => ?_)
  obtain ⟨rfl, hg8⟩ := hp2
  obtain ⟨g5, g6, c7⟩ := hg8
  refine lv_iload_n hx hb dX12_otherOf_6 rfl (lv_at hl 2 rfl) ?_
  refine lv_icmp_ne (tgt := 19) hx hb dX12_otherOf_7 (by decide) (fun c9 => ?_) (fun c9 => ?_)
  · have c9 : ¬ r1.toInt = a2.toInt := wk_eqF c9
    refine lv_aload_n hx hb dX12_otherOf_19 rfl (lv_at hl 0 rfl) ?_
    refine lv_iload_n hx hb dX12_otherOf_20 rfl (lv_at hl 1 rfl) ?_
    refine lv_iconst (v := 0) hx hb dX12_otherOf_21 (by decide) ?_
    refine tk_Vi hC hK hw hT hA hE hSR kM_at0 (by decide) rfl (k_X12_streetOf_11 l adK adV dC dI cy ad B (by omega) (by omega) qr s1   a1 (show 0 ≤ a1.toInt by omega) (show a1.toInt ≤ 12 by omega) w0 H.size hT ) (cwV 2 hC.2.2.2.2 gX12_otherOf_X12_streetOf rfl rfl rfl (by decide +kernel) ⟨Nat.le_of_ble_eq_true rfl, Nat.le_of_ble_eq_true rfl⟩) rfl hl.1 rfl (Nat.le_of_ble_eq_true rfl) dX12_otherOf_22 (fun r10 w12 H locs hp11 hw => ?_)
    obtain ⟨rfl, hg17⟩ := hp11
    obtain ⟨g14, g15, c16⟩ := hg17
    obtain rfl : r1 = r10 := c7.symm.trans c16
    exact tk_iret hC hr hlocks hK ⟨rfl, (Or.inl ⟨(show 0 ≤ r1.toInt by omega), (show r1.toInt ≤ 9 by omega)⟩)⟩ hw dX12_otherOf_25
  · have c9 : r1.toInt = a2.toInt := wk_eq.mp c9
    refine lv_aload_n hx hb dX12_otherOf_10 rfl (lv_at hl 0 rfl) ?_
    refine lv_iload_n hx hb dX12_otherOf_11 rfl (lv_at hl 1 rfl) ?_
    refine lv_iconst (v := 1) hx hb dX12_otherOf_12 (by decide) ?_
    refine tk_Vi hC hK hw hT hA hE hSR kM_at0 (by decide) rfl (k_X12_streetOf_12 l adK adV dC dI cy ad B (by omega) (by omega) qr s1   a1 (show 0 ≤ a1.toInt by omega) (show a1.toInt ≤ 12 by omega) w0 H.size hT ) (cwV 2 hC.2.2.2.2 gX12_otherOf_X12_streetOf rfl rfl rfl (by decide +kernel) ⟨Nat.le_of_ble_eq_true rfl, Nat.le_of_ble_eq_true rfl⟩) rfl hl.1 rfl (Nat.le_of_ble_eq_true rfl) dX12_otherOf_13 (fun r18 w20 H locs hp19 hw => ?_)
    obtain ⟨rfl, hg25⟩ := hp19
    obtain ⟨g22, g23, c24⟩ := hg25
    refine lv_goto (tgt := 25) hx hb dX12_otherOf_16 (by decide) ?_
    exact tk_iret hC hr hlocks hK ⟨rfl, (Or.inr ⟨(show 0 ≤ r18.toInt by omega), (show r18.toInt ≤ 9 by omega), (c7.trans (wk_eq.mpr (show r1.toInt = a2.toInt by omega)))⟩)⟩ hw dX12_otherOf_25
abbrev P_X12_streetOf_14 (ad : Nat → Nat) (cy : Nat → ClassId) (B : Int) (qr : Nat) (s1 : Int) (a1 : Int32) (w0 : va_W) : Int32 → va_W → Prop := fun r u => w0 = u ∧ ((0 ≤ r.toInt ∧ r.toInt ≤ 9 ∧ gi u 12 (10 * a1.toInt + 12).toNat = r))
set_option maxHeartbeats 4000000 in
set_option maxRecDepth 100000 in
theorem k_X12_streetOf_14 (l : Launch) (adK adV : Nat → Nat) (dC : Nat → ClassId) (dI : Nat → Nat → Nat) (cy : Nat → ClassId) (ad : Nat → Nat) (B : Int) (hB0 : 100000 ≤ B) (hB1 : B ≤ 1073741824) (qr : Nat) (s1 : Int)  (a1 : Int32) (ra1 : 0 ≤ a1.toInt) (ta1 : a1.toInt ≤ 12) (w0 : va_W) (sz : Nat) (hT : TW ksM ad cy B qr 13 w0)  : Met l yX12_streetOf wsX12_streetOf ({ frames := 1, cells := 0, slots := 0, locals := 12 }) (va_Pc [.ref (ad 0), .int a1, .int 2] (wpreS adK adV dC dI cy sz w0)) (va_Qi (P_X12_streetOf_14 ad cy B qr s1 a1 w0) (fun u : va_W => wpost dC dI cy (va_A w0 sz) u) (va_A w0 sz)) 0 0 (va_A w0 sz) := by
  refine Met.ofW (cc := cX12_streetOf) (maxL := 3) (ret := (some .int)) (by decide) rfl ?_
  intro p e s m args below meth c s₁ Bk hml hv
  obtain ⟨rfl, ⟨hsz, hP, hK, hD0⟩, hE, hSR⟩ := hv
  have hx := Bk.exec
  have hb := Bk.bytes
  have hr := Bk.returns
  have hlocks := Bk.notSynchronized
  have hC : CallFix p m c cX12_streetOf 3 s _ wsX12_streetOf RX12 := ⟨hx, hb, hml, findClass_of_methodNamed Bk.named, atoms_spec (ws := wsX12_streetOf) Bk.pre⟩
  subst hsz
  have hD := hD0.self (sz := s.heap.size)
  generalize hAe : va_A w0 s.heap.size = A at hD hE ⊢
  have hA : ∀ q : Nat, s.heap.size ≤ q → A q := fun q h => by rw [← hAe]; exact Or.inr h
  have hw : Wd dC dI A s.heap s.heap [] w0 := ⟨hP, hD, va_S.rf⟩
  have hF : FE ksM ([] : List (Nat × Nat × Nat)) w0 w0 := FE.rf
  have hl := lv_entry ([.ref (ad 0), .int a1, .int 2]) (n := 3) (Nat.le_of_ble_eq_true rfl)
  rw [lg_entry_eq]
  generalize (lg_sl ([.ref (ad 0), .int a1, .int 2]) ++ List.replicate (3 - (lg_sl ([.ref (ad 0), .int a1, .int 2])).length) Slot.unset).toArray = ls at hl ⊢
  have hl : lv_has ls 3 [(0, .ref (ad 0)), (1, .int a1), (2, .int 2)] := hl
  generalize hloc : ([] : List Loc) = locs at hw ⊢
  have hinX12 : ∀ w ∈ u_ws RX12 TX12 42, w ∈ wsX12_streetOf := fun _ h => List.mem_cons_of_mem _ (List.mem_append_right _ (h))
  refine lv_aload_n hx hb dX12_streetOf_0 rfl (lv_at hl 0 rfl) ?_
  refine tk_getA hC hK hw hT hinX12 kM_at0 (by decide) rfl 26 (by decide) (List.mem_of_getElem? (i := 1) rfl) rfl rfl dX12_streetOf_1 ?_
  refine lv_bipush (v := 10) hx hb dX12_streetOf_4 (by decide) ?_
  refine lv_bipush (v := 10) hx hb dX12_streetOf_6 (by decide) ?_
  refine lv_iload_n hx hb dX12_streetOf_8 rfl (lv_at hl 1 rfl) ?_
  refine lv_imul hx hb dX12_streetOf_9 ?_
  refine lv_topi (fun x1 ex1 => ?_)
  have ex1 : x1.toInt = (10 : Int) * a1.toInt := by rw [ex1]; exact wk_mul (show (-2147483648) ≤ (10 : Int) * a1.toInt by omega) (show (10 : Int) * a1.toInt ≤ 2147483647 by omega)
  refine lv_iadd hx hb dX12_streetOf_10 ?_
  refine lv_topi (fun x2 ex2 => ?_)
  have ex2 : x2.toInt = (10 : Int) + x1.toInt := by rw [ex2]; exact wk_add (show (-2147483648) ≤ (10 : Int) + x1.toInt by omega) (show (10 : Int) + x1.toInt ≤ 2147483647 by omega)
  refine lv_iload_n hx hb dX12_streetOf_11 rfl (lv_at hl 2 rfl) ?_
  refine lv_iadd hx hb dX12_streetOf_12 ?_
  refine lv_topi (fun x3 ex3 => ?_)
  have ex3 : x3.toInt = x2.toInt + (2 : Int) := by rw [ex3]; exact wk_add (show (-2147483648) ≤ x2.toInt + (2 : Int) by omega) (show x2.toInt + (2 : Int) ≤ 2147483647 by omega)
  refine tk_ialdR hC hK hw hT kM_at12 rfl (show 0 ≤ x3.toInt by omega) (show x3.toInt < 296 by omega) dX12_streetOf_13 (fun x4 c5 Ex4 => ?_)
  have c5 : gi w0 12 (10 * a1.toInt + 12).toNat = x4 := (congrArg (gi w0 12) (congrArg Int.toNat (show 10 * a1.toInt + 12 = x3.toInt by omega))).trans c5
  have bx4 := tk_rgI rfl 12 10 13 0 9 (by decide +kernel) ⟨(a1.toInt - 0).toNat, by omega, show x3.toInt.toNat = 12 + 10 * (a1.toInt - 0).toNat by omega⟩ Ex4
  exact tk_iret hC hr hlocks hK ⟨rfl, ⟨(show 0 ≤ x4.toInt by omega), (show x4.toInt ≤ 9 by omega), c5⟩⟩ hw dX12_streetOf_14
abbrev P_X12_reaches_3 (ad : Nat → Nat) (cy : Nat → ClassId) (B : Int) (qr : Nat) (s1 : Int) (a1 : Int32) (a2 : Int32) (a3 : Int32) (a4 : Int32) (w0 : va_W) : Int32 → va_W → Prop := fun r u => TW ksM ad cy B qr 13 u ∧ FE ksM [(77, 0, 10), (78, 0, 10)] w0 u ∧ ((0 ≤ r.toInt ∧ r.toInt ≤ 100000100))
set_option maxHeartbeats 4000000 in
set_option maxRecDepth 100000 in
theorem k_X12_reaches_3 (l : Launch) (adK adV : Nat → Nat) (dC : Nat → ClassId) (dI : Nat → Nat → Nat) (cy : Nat → ClassId) (ad : Nat → Nat) (B : Int) (hB0 : 100000 ≤ B) (hB1 : B ≤ 1073741824) (qr : Nat) (s1 : Int)  (a1 : Int32) (ra1 : 0 ≤ a1.toInt) (ta1 : a1.toInt ≤ 9) (a2 : Int32) (ra2 : 0 ≤ a2.toInt) (ta2 : a2.toInt ≤ 9) (a3 : Int32) (ra3 : 0 ≤ a3.toInt) (ta3 : a3.toInt ≤ 99999) (a4 : Int32) (ra4 : 2000 ≤ a4.toInt) (ta4 : a4.toInt ≤ 101999) (w0 : va_W) (sz : Nat) (hT : TW ksM ad cy B qr 13 w0)  : Met l yX12_reaches wsX12_reaches ({ frames := 5, cells := 0, slots := 0, locals := 105 }) (va_Pc [.ref (ad 0), .int a1, .int a2, .int a3, .int a4] (wpreS adK adV dC dI cy sz w0)) (va_Qi (P_X12_reaches_3 ad cy B qr s1 a1 a2 a3 a4 w0) (fun u : va_W => wpost dC dI cy (va_A w0 sz) u) (va_A w0 sz)) 0 0 (va_A w0 sz) := by
  refine Met.ofW (cc := cX12_reaches) (maxL := 9) (ret := (some .int)) (by decide) rfl ?_
  intro p e s m args below meth c s₁ Bk hml hv
  obtain ⟨rfl, ⟨hsz, hP, hK, hD0⟩, hE, hSR⟩ := hv
  have hx := Bk.exec
  have hb := Bk.bytes
  have hr := Bk.returns
  have hlocks := Bk.notSynchronized
  have hC : CallFix p m c cX12_reaches 9 s _ wsX12_reaches RX12 := ⟨hx, hb, hml, findClass_of_methodNamed Bk.named, atoms_spec (ws := wsX12_reaches) Bk.pre⟩
  subst hsz
  have hD := hD0.self (sz := s.heap.size)
  generalize hAe : va_A w0 s.heap.size = A at hD hE ⊢
  have hA : ∀ q : Nat, s.heap.size ≤ q → A q := fun q h => by rw [← hAe]; exact Or.inr h
  have hw : Wd dC dI A s.heap s.heap [] w0 := ⟨hP, hD, va_S.rf⟩
  have hF : FE ksM [(77, 0, 10), (78, 0, 10)] w0 w0 := FE.rf
  have hl := lv_entry ([.ref (ad 0), .int a1, .int a2, .int a3, .int a4]) (n := 9) (Nat.le_of_ble_eq_true rfl)
  rw [lg_entry_eq]
  generalize (lg_sl ([.ref (ad 0), .int a1, .int a2, .int a3, .int a4]) ++ List.replicate (9 - (lg_sl ([.ref (ad 0), .int a1, .int a2, .int a3, .int a4])).length) Slot.unset).toArray = ls at hl ⊢
  have hl : lv_has ls 9 [(0, .ref (ad 0)), (1, .int a1), (2, .int a2), (3, .int a3), (4, .int a4)] := hl
  generalize hloc : ([] : List Loc) = locs at hw ⊢
  have hinX12 : ∀ w ∈ u_ws RX12 TX12 42, w ∈ wsX12_reaches := fun _ h => List.mem_cons_of_mem _ (List.mem_append_right _ (h))
  have L44 : ∀ (n44 : Nat) (v44_5 : Int32) (H : Heap) (locs : List Loc) (ls : Array Slot) (w1 : va_W), 0 ≤ a1.toInt → a1.toInt ≤ 9 → 0 ≤ a2.toInt → a2.toInt ≤ 9 → 0 ≤ a3.toInt → a3.toInt ≤ 99999 → 2000 ≤ a4.toInt → a4.toInt ≤ 101999 → 0 ≤ v44_5.toInt → v44_5.toInt ≤ 10 → (0 ≤ (sumG 19 10 w1)) → (10 - (sumG 19 10 w1)).toNat < n44 → Wd dC dI A s.heap H locs w1 → TW ksM ad cy B qr 13 w1 → FE ksM [(77, 0, 10), (78, 0, 10)] w0 w1 → lv_has ls 9 [(0, .ref (ad 0)), (1, .int a1), (2, .int a2), (3, .int a3), (4, .int a4), (5, .int v44_5)] → W p l e ({ frames := 5, cells := 0, slots := 0, locals := 105 }) s m (List.toArray [.ref (ad 0), .int a1, .int a2, .int a3, .int a4]) below meth c H locs 0 0 (MQ below (va_Qi (P_X12_reaches_3 ad cy B qr s1 a1 a2 a3 a4 w0) (fun u : va_W => wpost dC dI cy A u) A) (List.toArray [.ref (ad 0), .int a1, .int a2, .int a3, .int a4]) s 0 0 A) (F0 m 44 ls []) := by
    intro n44
    induction n44 with
    | zero => intro v44_5 H locs ls w1 r2 t3 r4 t5 r6 t7 r8 t9 r10 t11 hcr44_0 hm44 hw hT hF hl; omega
    | succ n44 ih44 =>
      intro v44_5 H locs ls w1 r2 t3 r4 t5 r6 t7 r8 t9 r10 t11 hcr44_0 hm44 hw hT hF hl
      have L145 : ∀ (n145 : Nat) (v145_5 : Int32) (v145_6 : Int32) (f145_12_0 : Int32) (H : Heap) (locs : List Loc) (ls : Array Slot) (w12 : va_W), 0 ≤ a1.toInt → a1.toInt ≤ 9 → 0 ≤ a2.toInt → a2.toInt ≤ 9 → 0 ≤ a3.toInt → a3.toInt ≤ 99999 → 2000 ≤ a4.toInt → a4.toInt ≤ 101999 → 0 ≤ v145_5.toInt → v145_5.toInt ≤ 9 → 0 ≤ v145_6.toInt → v145_6.toInt ≤ 13 → 0 ≤ f145_12_0.toInt → f145_12_0.toInt ≤ 10 → ((sumG 19 10 w1) + 1 ≤ (sumG 19 10 w12)) → (13 - v145_6.toInt).toNat < n145 → Wd dC dI A s.heap H locs w12 → TW ksM ad cy B qr 13 w12 → FE ksM [(77, 0, 10), (78, 0, 10)] w0 w12 → gi w12 12 0 = f145_12_0 → lv_has ls 9 [(0, .ref (ad 0)), (1, .int a1), (2, .int a2), (3, .int a3), (4, .int a4), (5, .int v145_5), (6, .int v145_6)] → W p l e ({ frames := 5, cells := 0, slots := 0, locals := 105 }) s m (List.toArray [.ref (ad 0), .int a1, .int a2, .int a3, .int a4]) below meth c H locs 0 0 (MQ below (va_Qi (P_X12_reaches_3 ad cy B qr s1 a1 a2 a3 a4 w0) (fun u : va_W => wpost dC dI cy A u) A) (List.toArray [.ref (ad 0), .int a1, .int a2, .int a3, .int a4]) s 0 0 A) (F0 m 145 ls []) := by
        intro n145
        induction n145 with
        | zero => intro v145_5 v145_6 f145_12_0 H locs ls w12 r13 t14 r15 t16 r17 t18 r19 t20 r21 t22 r23 t24 r25 t26 hcr145_0 hm145 hw hT hF c27 hl; omega
        | succ n145 ih145 =>
          intro v145_5 v145_6 f145_12_0 H locs ls w12 r13 t14 r15 t16 r17 t18 r19 t20 r21 t22 r23 t24 r25 t26 hcr145_0 hm145 hw hT hF c27 hl
          have J259 : ∀ (f259_12_1 : Int32) (H : Heap) (locs : List Loc) (ls : Array Slot) (w28 : va_W), 0 ≤ a1.toInt → a1.toInt ≤ 9 → 0 ≤ a2.toInt → a2.toInt ≤ 9 → 0 ≤ a3.toInt → a3.toInt ≤ 99999 → 2000 ≤ a4.toInt → a4.toInt ≤ 101999 → 0 ≤ v145_5.toInt → v145_5.toInt ≤ 9 → 0 ≤ v145_6.toInt → v145_6.toInt ≤ 12 → 0 ≤ f145_12_0.toInt → f145_12_0.toInt ≤ 10 → 1 ≤ f259_12_1.toInt → f259_12_1.toInt ≤ 13 → ((sumG 19 10 w1) + 1 ≤ (sumG 19 10 w28)) → Wd dC dI A s.heap H locs w28 → TW ksM ad cy B qr 13 w28 → FE ksM [(77, 0, 10), (78, 0, 10)] w0 w28 → gi w28 12 0 = f145_12_0 → gi w28 12 1 = f259_12_1 → lv_has ls 9 [(0, .ref (ad 0)), (1, .int a1), (2, .int a2), (3, .int a3), (4, .int a4), (5, .int v145_5), (6, .int v145_6)] → W p l e ({ frames := 5, cells := 0, slots := 0, locals := 105 }) s m (List.toArray [.ref (ad 0), .int a1, .int a2, .int a3, .int a4]) below meth c H locs 0 0 (MQ below (va_Qi (P_X12_reaches_3 ad cy B qr s1 a1 a2 a3 a4 w0) (fun u : va_W => wpost dC dI cy A u) A) (List.toArray [.ref (ad 0), .int a1, .int a2, .int a3, .int a4]) s 0 0 A) (F0 m 259 ls []) := by
            intro f259_12_1 H locs ls w28 r29 t30 r31 t32 r33 t34 r35 t36 r37 t38 r39 t40 r41 t42 r44 t45 hcr259_0 hw hT hF c43 c46 hl
            obtain ⟨x47, ex47⟩ : ∃ y : Int32, y = v145_6 + Int32.ofInt 1 := ⟨_, rfl⟩
            refine lv_iinc (v := x47) (lv' := [(6, .int x47), (0, .ref (ad 0)), (1, .int a1), (2, .int a2), (3, .int a3), (4, .int a4), (5, .int v145_5)]) hx hb dX12_reaches_259 hl (k := 6) rfl ex47.symm (by decide) rfl (fun ls hl => ?_)
            have ex47 : x47.toInt = v145_6.toInt + 1 := by rw [ex47]; exact wk_add (y := 1) (show -2147483648 ≤ v145_6.toInt + 1 by omega) (show v145_6.toInt + 1 ≤ 2147483647 by omega)
            refine lv_goto (tgt := 145) hx hb dX12_reaches_262 (by decide) ?_
            have gb48 : 0 ≤ sumG 19 10 w28 ∧ sumG 19 10 w28 ≤ 10 := hT.sum (lo := 0) (hi := 1) kM_at19 rfl (by decide) rfl
            exact ih145 v145_5 x47 f145_12_0 H locs ls w28 (show 0 ≤ a1.toInt by omega) (show a1.toInt ≤ 9 by omega) (show 0 ≤ a2.toInt by omega) (show a2.toInt ≤ 9 by omega) (show 0 ≤ a3.toInt by omega) (show a3.toInt ≤ 99999 by omega) (show 2000 ≤ a4.toInt by omega) (show a4.toInt ≤ 101999 by omega) (show 0 ≤ v145_5.toInt by omega) (show v145_5.toInt ≤ 9 by omega) (show 0 ≤ x47.toInt by omega) (show x47.toInt ≤ 13 by omega) (show 0 ≤ f145_12_0.toInt by omega) (show f145_12_0.toInt ≤ 10 by omega) (show (sumG 19 10 w1) + 1 ≤ (sumG 19 10 w28) by omega) (show (13 - x47.toInt).toNat < n145 by omega) hw hT hF c43 (lv_sub hl [1, 2, 3, 4, 5, 6, 0] rfl)
          refine lv_iload hx hb dX12_reaches_145 (lv_at hl 6 rfl) ?_
          refine lv_aload_n hx hb dX12_reaches_147 rfl (lv_at hl 0 rfl) ?_
          refine tk_getA hC hK hw hT hinX12 kM_at0 (by decide) rfl 26 (by decide) (List.mem_of_getElem? (i := 4) rfl) rfl rfl dX12_reaches_148 ?_
          refine lv_iconst (v := 1) hx hb dX12_reaches_151 (by decide) ?_
          refine tk_ialdR hC hK hw hT kM_at12 rfl (by decide) (by decide) dX12_reaches_152 (fun x49 c50 Ex49 => ?_)
          have bx49 : 0 ≤ x49.toInt ∧ x49.toInt ≤ 13 := (tk_rg1 rfl).mp Ex49
          have c50 : gi w12 12 1 = x49 := c50
          refine lv_icmp_ge (tgt := 265) hx hb dX12_reaches_153 (by decide) (fun c51 => ?_) (fun c51 => ?_)
          · have c51 : x49.toInt ≤ v145_6.toInt := wk_le.mp c51
            refine lv_goto (tgt := 44) hx hb dX12_reaches_265 (by decide) ?_
            have gb52 : 0 ≤ sumG 19 10 w12 ∧ sumG 19 10 w12 ≤ 10 := hT.sum (lo := 0) (hi := 1) kM_at19 rfl (by decide) rfl
            exact ih44 v145_5 H locs ls w12 (show 0 ≤ a1.toInt by omega) (show a1.toInt ≤ 9 by omega) (show 0 ≤ a2.toInt by omega) (show a2.toInt ≤ 9 by omega) (show 0 ≤ a3.toInt by omega) (show a3.toInt ≤ 99999 by omega) (show 2000 ≤ a4.toInt by omega) (show a4.toInt ≤ 101999 by omega) (show 0 ≤ v145_5.toInt by omega) (show v145_5.toInt ≤ 10 by omega) (show 0 ≤ (sumG 19 10 w12) by omega) (show (10 - (sumG 19 10 w12)).toNat < n44 by omega) hw hT hF  (lv_sub hl [0, 1, 2, 3, 4, 5] rfl)
          · have c51 : v145_6.toInt < x49.toInt := wk_leF c51
            refine lv_aload_n hx hb dX12_reaches_156 rfl (lv_at hl 0 rfl) ?_
            refine lv_iload hx hb dX12_reaches_157 (lv_at hl 6 rfl) ?_
            refine lv_iload hx hb dX12_reaches_159 (lv_at hl 5 rfl) ?_
            refine tk_Vi hC hK hw hT hA hE hSR kM_at0 (by decide) rfl (k_X12_isAt_3 l adK adV dC dI cy ad B (by omega) (by omega) qr s1   v145_6 (show 0 ≤ v145_6.toInt by omega) (show v145_6.toInt ≤ 12 by omega) v145_5 (show 0 ≤ v145_5.toInt by omega) (show v145_5.toInt ≤ 9 by omega) w12 H.size hT ) (cwV 2 hC.2.2.2.2 gX12_reaches_X12_isAt rfl rfl rfl (by decide +kernel) ⟨Nat.le_of_ble_eq_true rfl, Nat.le_of_ble_eq_true rfl⟩) rfl hl.1 rfl (Nat.le_of_ble_eq_true rfl) dX12_reaches_161 (fun r53 w55 H locs hp54 hw => ?_)
            obtain ⟨rfl, hg62⟩ := hp54
            rcases hg62 with ⟨rfl, hq57⟩ | ⟨rfl, c58, hq59⟩ | ⟨rfl, c60, hq61⟩
            · refine lv_if_ne (tgt := 170) hx hb dX12_reaches_164 (by decide) (fun c => absurd (by decide) c) (fun _ => ?_)
              refine lv_goto (tgt := 259) hx hb dX12_reaches_167 (by decide) ?_
              have gb63 : 0 ≤ sumG 19 10 w12 ∧ sumG 19 10 w12 ≤ 10 := hT.sum (lo := 0) (hi := 1) kM_at19 rfl (by decide) rfl
              exact J259 x49 H locs ls w12 (show 0 ≤ a1.toInt by omega) (show a1.toInt ≤ 9 by omega) (show 0 ≤ a2.toInt by omega) (show a2.toInt ≤ 9 by omega) (show 0 ≤ a3.toInt by omega) (show a3.toInt ≤ 99999 by omega) (show 2000 ≤ a4.toInt by omega) (show a4.toInt ≤ 101999 by omega) (show 0 ≤ v145_5.toInt by omega) (show v145_5.toInt ≤ 9 by omega) (show 0 ≤ v145_6.toInt by omega) (show v145_6.toInt ≤ 12 by omega) (show 0 ≤ f145_12_0.toInt by omega) (show f145_12_0.toInt ≤ 10 by omega) (show 1 ≤ x49.toInt by omega) (show x49.toInt ≤ 13 by omega) (show (sumG 19 10 w1) + 1 ≤ (sumG 19 10 w12) by omega)  hw hT hF c27 c50 (lv_sub hl [0, 1, 2, 3, 4, 5, 6] rfl)
            · refine lv_if_ne (tgt := 170) hx hb dX12_reaches_164 (by decide) (fun _ => ?_) (fun c => absurd c (by decide))
              refine lv_aload_n hx hb dX12_reaches_170 rfl (lv_at hl 0 rfl) ?_
              refine lv_iload hx hb dX12_reaches_171 (lv_at hl 6 rfl) ?_
              refine lv_iload hx hb dX12_reaches_173 (lv_at hl 5 rfl) ?_
              refine lv_aload_n hx hb dX12_reaches_175 rfl (lv_at hl 0 rfl) ?_
              refine tk_getA hC hK hw hT hinX12 kM_at0 (by decide) rfl 35 (by decide) (List.mem_of_getElem? (i := 1) rfl) rfl rfl dX12_reaches_176 ?_
              refine lv_iload hx hb dX12_reaches_179 (lv_at hl 5 rfl) ?_
              refine tk_iald hC hK hw hT kM_at18 rfl rfl (show 0 ≤ v145_5.toInt by omega) (show v145_5.toInt < 10 by omega) dX12_reaches_181 (fun x64 c65 rx64 tx64 => ?_)
              refine lv_iload hx hb dX12_reaches_182 (lv_at hl 4 rfl) ?_
              refine tk_Vi hC hK hw hT hA hE hSR kM_at0 (by decide) rfl (k_X12_firstOpen_4 l adK adV dC dI cy ad B (by omega) (by omega) qr s1   v145_6 (show 0 ≤ v145_6.toInt by omega) (show v145_6.toInt ≤ 12 by omega) v145_5 (show 0 ≤ v145_5.toInt by omega) (show v145_5.toInt ≤ 9 by omega) x64 (show 0 ≤ x64.toInt by omega) (show x64.toInt ≤ 100000100 by omega) a4 (show 2000 ≤ a4.toInt by omega) (show a4.toInt ≤ 101999 by omega) w12 H.size hT ) (cwV 4 hC.2.2.2.2 gX12_reaches_X12_firstOpen rfl rfl rfl (by decide +kernel) ⟨Nat.le_of_ble_eq_true rfl, Nat.le_of_ble_eq_true rfl⟩) rfl hl.1 rfl (Nat.le_of_ble_eq_true rfl) dX12_reaches_184 (fun r66 w68 H locs hp67 hw => ?_)
              obtain ⟨rfl, hg75⟩ := hp67
              rcases hg75 with ⟨g70, g71⟩ | ⟨g72, g73, c74⟩
              · refine lv_istore (lv' := [(7, .int r66), (0, .ref (ad 0)), (1, .int a1), (2, .int a2), (3, .int a3), (4, .int a4), (5, .int v145_5), (6, .int v145_6)]) hx hb dX12_reaches_187 hl (by decide) rfl (fun ls hl => ?_)
                refine lv_aload_n hx hb dX12_reaches_189 rfl (lv_at hl 1 rfl) ?_
                refine lv_iload hx hb dX12_reaches_190 (lv_at hl 7 rfl) ?_
                refine lv_iload hx hb dX12_reaches_192 (lv_at hl 6 rfl) ?_
                refine tk_Vi hC hK hw hT hA hE hSR kM_at0 (by decide) rfl (k_X12_otherOf_3 l adK adV dC dI cy ad B (by omega) (by omega) qr s1   v145_6 (show 0 ≤ v145_6.toInt by omega) (show v145_6.toInt ≤ 12 by omega) v145_5 (show 0 ≤ v145_5.toInt by omega) (show v145_5.toInt ≤ 9 by omega) w12 H.size hT ) (cwV 2 hC.2.2.2.2 gX12_reaches_X12_otherOf rfl rfl rfl (by decide +kernel) ⟨Nat.le_of_ble_eq_true rfl, Nat.le_of_ble_eq_true rfl⟩) rfl hl.1 rfl (Nat.le_of_ble_eq_true rfl) dX12_reaches_194 (fun r76 w78 H locs hp77 hw => ?_)
                obtain ⟨rfl, hg85⟩ := hp77
                rcases hg85 with ⟨g80, g81⟩ | ⟨g82, g83, c84⟩
                · refine lv_istore (lv' := [(8, .int r76), (7, .int r66), (0, .ref (ad 0)), (1, .int a1), (2, .int a2), (3, .int a3), (4, .int a4), (5, .int v145_5), (6, .int v145_6)]) hx hb dX12_reaches_197 hl (by decide) rfl (fun ls hl => ?_)
                  refine lv_iload hx hb dX12_reaches_199 (lv_at hl 1 rfl) ?_
                  refine lv_ldcw (v := 100000000) hx hb hC.2.2.2.1 (hC.2.2.2.2 _ (List.mem_of_getElem? (i := 2) rfl)) dX12_reaches_201 ?_
                  refine lv_icmp_ge (tgt := 259) hx hb dX12_reaches_204 (by decide) (fun c86 => ?_) (fun c86 => ?_)
                  · have c86 : (100000000 : Int) ≤ r66.toInt := wk_le.mp c86
                    have gb87 : 0 ≤ sumG 19 10 w12 ∧ sumG 19 10 w12 ≤ 10 := hT.sum (lo := 0) (hi := 1) kM_at19 rfl (by decide) rfl
                    exact J259 x49 H locs ls w12 (show 0 ≤ a1.toInt by omega) (show a1.toInt ≤ 9 by omega) (show 0 ≤ a2.toInt by omega) (show a2.toInt ≤ 9 by omega) (show 0 ≤ a3.toInt by omega) (show a3.toInt ≤ 99999 by omega) (show 2000 ≤ a4.toInt by omega) (show a4.toInt ≤ 101999 by omega) (show 0 ≤ v145_5.toInt by omega) (show v145_5.toInt ≤ 9 by omega) (show 0 ≤ v145_6.toInt by omega) (show v145_6.toInt ≤ 12 by omega) (show 0 ≤ f145_12_0.toInt by omega) (show f145_12_0.toInt ≤ 10 by omega) (show 1 ≤ x49.toInt by omega) (show x49.toInt ≤ 13 by omega) (show (sumG 19 10 w1) + 1 ≤ (sumG 19 10 w12) by omega)  hw hT hF c27 c50 (lv_sub hl [2, 3, 4, 5, 6, 7, 8] rfl)
                  · have c86 : r66.toInt < (100000000 : Int) := wk_leF c86
                    refine lv_iload hx hb dX12_reaches_207 (lv_at hl 1 rfl) ?_
                    refine lv_aload_n hx hb dX12_reaches_209 rfl (lv_at hl 2 rfl) ?_
                    refine lv_iload hx hb dX12_reaches_210 (lv_at hl 8 rfl) ?_
                    refine lv_iconst (v := 2) hx hb dX12_reaches_212 (by decide) ?_
                    refine tk_Vi hC hK hw hT hA hE hSR kM_at0 (by decide) rfl (k_X12_streetOf_14 l adK adV dC dI cy ad B (by omega) (by omega) qr s1   v145_6 (show 0 ≤ v145_6.toInt by omega) (show v145_6.toInt ≤ 12 by omega) w12 H.size hT ) (cwV 2 hC.2.2.2.2 gX12_reaches_X12_streetOf rfl rfl rfl (by decide +kernel) ⟨Nat.le_of_ble_eq_true rfl, Nat.le_of_ble_eq_true rfl⟩) rfl hl.1 rfl (Nat.le_of_ble_eq_true rfl) dX12_reaches_213 (fun r88 w90 H locs hp89 hw => ?_)
                    obtain ⟨rfl, hg95⟩ := hp89
                    obtain ⟨g92, g93, c94⟩ := hg95
                    refine lv_iadd hx hb dX12_reaches_216 ?_
                    refine lv_topi (fun x96 ex96 => ?_)
                    have ex96 : x96.toInt = r66.toInt + r88.toInt := by rw [ex96]; exact wk_add (show (-2147483648) ≤ r66.toInt + r88.toInt by omega) (show r66.toInt + r88.toInt ≤ 2147483647 by omega)
                    refine lv_iload hx hb dX12_reaches_217 (lv_at hl 6 rfl) ?_
                    refine lv_icmp_gt (tgt := 259) hx hb dX12_reaches_219 (by decide) (fun c97 => ?_) (fun c97 => ?_)
                    · have c97 : a4.toInt < x96.toInt := wk_lt.mp c97
                      have gb98 : 0 ≤ sumG 19 10 w12 ∧ sumG 19 10 w12 ≤ 10 := hT.sum (lo := 0) (hi := 1) kM_at19 rfl (by decide) rfl
                      exact J259 x49 H locs ls w12 (show 0 ≤ a1.toInt by omega) (show a1.toInt ≤ 9 by omega) (show 0 ≤ a2.toInt by omega) (show a2.toInt ≤ 9 by omega) (show 0 ≤ a3.toInt by omega) (show a3.toInt ≤ 99999 by omega) (show 2000 ≤ a4.toInt by omega) (show a4.toInt ≤ 101999 by omega) (show 0 ≤ v145_5.toInt by omega) (show v145_5.toInt ≤ 9 by omega) (show 0 ≤ v145_6.toInt by omega) (show v145_6.toInt ≤ 12 by omega) (show 0 ≤ f145_12_0.toInt by omega) (show f145_12_0.toInt ≤ 10 by omega) (show 1 ≤ x49.toInt by omega) (show x49.toInt ≤ 13 by omega) (show (sumG 19 10 w1) + 1 ≤ (sumG 19 10 w12) by omega)  hw hT hF c27 c50 (lv_sub hl [2, 3, 4, 5, 6, 7, 8] rfl)
                    · have c97 : x96.toInt ≤ a4.toInt := wk_ltF c97
                      refine lv_iload hx hb dX12_reaches_222 (lv_at hl 1 rfl) ?_
                      refine lv_aload_n hx hb dX12_reaches_224 rfl (lv_at hl 2 rfl) ?_
                      refine lv_iload hx hb dX12_reaches_225 (lv_at hl 8 rfl) ?_
                      refine lv_iconst (v := 2) hx hb dX12_reaches_227 (by decide) ?_
                      refine tk_Vi hC hK hw hT hA hE hSR kM_at0 (by decide) rfl (k_X12_streetOf_14 l adK adV dC dI cy ad B (by omega) (by omega) qr s1   v145_6 (show 0 ≤ v145_6.toInt by omega) (show v145_6.toInt ≤ 12 by omega) w12 H.size hT ) (cwV 2 hC.2.2.2.2 gX12_reaches_X12_streetOf rfl rfl rfl (by decide +kernel) ⟨Nat.le_of_ble_eq_true rfl, Nat.le_of_ble_eq_true rfl⟩) rfl hl.1 rfl (Nat.le_of_ble_eq_true rfl) dX12_reaches_228 (fun r99 w101 H locs hp100 hw => ?_)
                      obtain ⟨rfl, hg106⟩ := hp100
                      obtain ⟨g103, g104, c105⟩ := hg106
                      obtain rfl : r88 = r99 := c94.symm.trans c105
                      refine lv_iadd hx hb dX12_reaches_231 ?_
                      refine lv_topi (fun x107 ex107 => ?_)
                      have ex107 : x107.toInt = r66.toInt + r88.toInt := by rw [ex107]; exact wk_add (show (-2147483648) ≤ r66.toInt + r88.toInt by omega) (show r66.toInt + r88.toInt ≤ 2147483647 by omega)
                      refine lv_aload_n hx hb dX12_reaches_232 rfl (lv_at hl 2 rfl) ?_
                      refine tk_getA hC hK hw hT hinX12 kM_at0 (by decide) rfl 35 (by decide) (List.mem_of_getElem? (i := 1) rfl) rfl rfl dX12_reaches_233 ?_
                      refine lv_iload hx hb dX12_reaches_236 (lv_at hl 0 rfl) ?_
                      refine tk_iald hC hK hw hT kM_at18 rfl rfl (show 0 ≤ r76.toInt by omega) (show r76.toInt < 10 by omega) dX12_reaches_238 (fun x108 c109 rx108 tx108 => ?_)
                      refine lv_icmp_ge (tgt := 259) hx hb dX12_reaches_239 (by decide) (fun c110 => ?_) (fun c110 => ?_)
                      · have c110 : x108.toInt ≤ x107.toInt := wk_le.mp c110
                        have gb111 : 0 ≤ sumG 19 10 w12 ∧ sumG 19 10 w12 ≤ 10 := hT.sum (lo := 0) (hi := 1) kM_at19 rfl (by decide) rfl
                        exact J259 x49 H locs ls w12 (show 0 ≤ a1.toInt by omega) (show a1.toInt ≤ 9 by omega) (show 0 ≤ a2.toInt by omega) (show a2.toInt ≤ 9 by omega) (show 0 ≤ a3.toInt by omega) (show a3.toInt ≤ 99999 by omega) (show 2000 ≤ a4.toInt by omega) (show a4.toInt ≤ 101999 by omega) (show 0 ≤ v145_5.toInt by omega) (show v145_5.toInt ≤ 9 by omega) (show 0 ≤ v145_6.toInt by omega) (show v145_6.toInt ≤ 12 by omega) (show 0 ≤ f145_12_0.toInt by omega) (show f145_12_0.toInt ≤ 10 by omega) (show 1 ≤ x49.toInt by omega) (show x49.toInt ≤ 13 by omega) (show (sumG 19 10 w1) + 1 ≤ (sumG 19 10 w12) by omega)  hw hT hF c27 c50 (lv_sub hl [2, 3, 4, 5, 6, 7, 8] rfl)
                      · have c110 : x107.toInt < x108.toInt := wk_leF c110
                        refine lv_aload_n hx hb dX12_reaches_242 rfl (lv_at hl 2 rfl) ?_
                        refine tk_getA hC hK hw hT hinX12 kM_at0 (by decide) rfl 35 (by decide) (List.mem_of_getElem? (i := 1) rfl) rfl rfl dX12_reaches_243 ?_
                        refine lv_iload hx hb dX12_reaches_246 (lv_at hl 0 rfl) ?_
                        refine lv_iload hx hb dX12_reaches_248 (lv_at hl 1 rfl) ?_
                        refine lv_aload_n hx hb dX12_reaches_250 rfl (lv_at hl 2 rfl) ?_
                        refine lv_iload hx hb dX12_reaches_251 (lv_at hl 8 rfl) ?_
                        refine lv_iconst (v := 2) hx hb dX12_reaches_253 (by decide) ?_
                        refine tk_Vi hC hK hw hT hA hE hSR kM_at0 (by decide) rfl (k_X12_streetOf_14 l adK adV dC dI cy ad B (by omega) (by omega) qr s1   v145_6 (show 0 ≤ v145_6.toInt by omega) (show v145_6.toInt ≤ 12 by omega) w12 H.size hT ) (cwV 2 hC.2.2.2.2 gX12_reaches_X12_streetOf rfl rfl rfl (by decide +kernel) ⟨Nat.le_of_ble_eq_true rfl, Nat.le_of_ble_eq_true rfl⟩) rfl hl.1 rfl (Nat.le_of_ble_eq_true rfl) dX12_reaches_254 (fun r112 w114 H locs hp113 hw => ?_)
                        obtain ⟨rfl, hg119⟩ := hp113
                        obtain ⟨g116, g117, c118⟩ := hg119
                        obtain rfl : r88 = r112 := c94.symm.trans c118
                        refine lv_iadd hx hb dX12_reaches_257 ?_
                        refine lv_topi (fun x120 ex120 => ?_)
                        have ex120 : x120.toInt = r66.toInt + r88.toInt := by rw [ex120]; exact wk_add (show (-2147483648) ≤ r66.toInt + r88.toInt by omega) (show r66.toInt + r88.toInt ≤ 2147483647 by omega)
                        refine tk_iast hC hK hw hT kM_at18 (by decide) rfl rfl (show 0 ≤ r76.toInt by omega) (show r76.toInt < 10 by omega) (show 0 ≤ x120.toInt by omega) (show x120.toInt ≤ 100000100 by omega) dX12_reaches_258 (fun H locs w121 hw hT k123 c122 => ?_)
                        have gs124 : sumG 19 10 w121 = sumG 19 10 w12 := sumG_ne 10 k123 (tk_ne kM_at19 kM_at18 (by decide))
                        have hF := hF.put kM_at18 (inE_of (a := 0) (b := 10) (by decide) (show 0 ≤ r76.toInt.toNat by omega) (show r76.toInt.toNat ≤ 10 by omega)) k123
                        have c125 := k123.gi (Or.inl (tk_ne kM_at12 kM_at18 (by decide))) c27
                        have c126 := k123.gi (Or.inl (tk_ne kM_at12 kM_at18 (by decide))) c50
                        have c127 := k123.gi (Or.inl (tk_ne kM_at12 kM_at18 (by decide))) c58
                        have c128 := k123.gi (Or.inl (tk_ne kM_at12 kM_at18 (by decide))) c94
                        have gb129 : 0 ≤ sumG 19 10 w121 ∧ sumG 19 10 w121 ≤ 10 := hT.sum (lo := 0) (hi := 1) kM_at19 rfl (by decide) rfl
                        exact J259 x49 H locs ls w121 (show 0 ≤ a1.toInt by omega) (show a1.toInt ≤ 9 by omega) (show 0 ≤ a2.toInt by omega) (show a2.toInt ≤ 9 by omega) (show 0 ≤ a3.toInt by omega) (show a3.toInt ≤ 99999 by omega) (show 2000 ≤ a4.toInt by omega) (show a4.toInt ≤ 101999 by omega) (show 0 ≤ v145_5.toInt by omega) (show v145_5.toInt ≤ 9 by omega) (show 0 ≤ v145_6.toInt by omega) (show v145_6.toInt ≤ 12 by omega) (show 0 ≤ f145_12_0.toInt by omega) (show f145_12_0.toInt ≤ 10 by omega) (show 1 ≤ x49.toInt by omega) (show x49.toInt ≤ 13 by omega) (show (sumG 19 10 w1) + 1 ≤ (sumG 19 10 w121) by omega)  hw hT hF c125 c126 (lv_sub hl [2, 3, 4, 5, 6, 7, 8] rfl)
                · refine lv_istore (lv' := [(8, .int r76), (7, .int r66), (0, .ref (ad 0)), (1, .int a1), (2, .int a2), (3, .int a3), (4, .int a4), (5, .int v145_5), (6, .int v145_6)]) hx hb dX12_reaches_197 hl (by decide) rfl (fun ls hl => ?_)
                  refine lv_iload hx hb dX12_reaches_199 (lv_at hl 1 rfl) ?_
                  refine lv_ldcw (v := 100000000) hx hb hC.2.2.2.1 (hC.2.2.2.2 _ (List.mem_of_getElem? (i := 2) rfl)) dX12_reaches_201 ?_
                  refine lv_icmp_ge (tgt := 259) hx hb dX12_reaches_204 (by decide) (fun c130 => ?_) (fun c130 => ?_)
                  · have c130 : (100000000 : Int) ≤ r66.toInt := wk_le.mp c130
                    have gb131 : 0 ≤ sumG 19 10 w12 ∧ sumG 19 10 w12 ≤ 10 := hT.sum (lo := 0) (hi := 1) kM_at19 rfl (by decide) rfl
                    exact J259 x49 H locs ls w12 (show 0 ≤ a1.toInt by omega) (show a1.toInt ≤ 9 by omega) (show 0 ≤ a2.toInt by omega) (show a2.toInt ≤ 9 by omega) (show 0 ≤ a3.toInt by omega) (show a3.toInt ≤ 99999 by omega) (show 2000 ≤ a4.toInt by omega) (show a4.toInt ≤ 101999 by omega) (show 0 ≤ v145_5.toInt by omega) (show v145_5.toInt ≤ 9 by omega) (show 0 ≤ v145_6.toInt by omega) (show v145_6.toInt ≤ 12 by omega) (show 0 ≤ f145_12_0.toInt by omega) (show f145_12_0.toInt ≤ 10 by omega) (show 1 ≤ x49.toInt by omega) (show x49.toInt ≤ 13 by omega) (show (sumG 19 10 w1) + 1 ≤ (sumG 19 10 w12) by omega)  hw hT hF c27 c50 (lv_sub hl [2, 3, 4, 5, 6, 7, 8] rfl)
                  · have c130 : r66.toInt < (100000000 : Int) := wk_leF c130
                    refine lv_iload hx hb dX12_reaches_207 (lv_at hl 1 rfl) ?_
                    refine lv_aload_n hx hb dX12_reaches_209 rfl (lv_at hl 2 rfl) ?_
                    refine lv_iload hx hb dX12_reaches_210 (lv_at hl 8 rfl) ?_
                    refine lv_iconst (v := 2) hx hb dX12_reaches_212 (by decide) ?_
                    refine tk_Vi hC hK hw hT hA hE hSR kM_at0 (by decide) rfl (k_X12_streetOf_14 l adK adV dC dI cy ad B (by omega) (by omega) qr s1   v145_6 (show 0 ≤ v145_6.toInt by omega) (show v145_6.toInt ≤ 12 by omega) w12 H.size hT ) (cwV 2 hC.2.2.2.2 gX12_reaches_X12_streetOf rfl rfl rfl (by decide +kernel) ⟨Nat.le_of_ble_eq_true rfl, Nat.le_of_ble_eq_true rfl⟩) rfl hl.1 rfl (Nat.le_of_ble_eq_true rfl) dX12_reaches_213 (fun r132 w134 H locs hp133 hw => ?_)
                    obtain ⟨rfl, hg139⟩ := hp133
                    obtain ⟨g136, g137, c138⟩ := hg139
                    refine lv_iadd hx hb dX12_reaches_216 ?_
                    refine lv_topi (fun x140 ex140 => ?_)
                    have ex140 : x140.toInt = r66.toInt + r132.toInt := by rw [ex140]; exact wk_add (show (-2147483648) ≤ r66.toInt + r132.toInt by omega) (show r66.toInt + r132.toInt ≤ 2147483647 by omega)
                    refine lv_iload hx hb dX12_reaches_217 (lv_at hl 6 rfl) ?_
                    refine lv_icmp_gt (tgt := 259) hx hb dX12_reaches_219 (by decide) (fun c141 => ?_) (fun c141 => ?_)
                    · have c141 : a4.toInt < x140.toInt := wk_lt.mp c141
                      have gb142 : 0 ≤ sumG 19 10 w12 ∧ sumG 19 10 w12 ≤ 10 := hT.sum (lo := 0) (hi := 1) kM_at19 rfl (by decide) rfl
                      exact J259 x49 H locs ls w12 (show 0 ≤ a1.toInt by omega) (show a1.toInt ≤ 9 by omega) (show 0 ≤ a2.toInt by omega) (show a2.toInt ≤ 9 by omega) (show 0 ≤ a3.toInt by omega) (show a3.toInt ≤ 99999 by omega) (show 2000 ≤ a4.toInt by omega) (show a4.toInt ≤ 101999 by omega) (show 0 ≤ v145_5.toInt by omega) (show v145_5.toInt ≤ 9 by omega) (show 0 ≤ v145_6.toInt by omega) (show v145_6.toInt ≤ 12 by omega) (show 0 ≤ f145_12_0.toInt by omega) (show f145_12_0.toInt ≤ 10 by omega) (show 1 ≤ x49.toInt by omega) (show x49.toInt ≤ 13 by omega) (show (sumG 19 10 w1) + 1 ≤ (sumG 19 10 w12) by omega)  hw hT hF c27 c50 (lv_sub hl [2, 3, 4, 5, 6, 7, 8] rfl)
                    · have c141 : x140.toInt ≤ a4.toInt := wk_ltF c141
                      refine lv_iload hx hb dX12_reaches_222 (lv_at hl 1 rfl) ?_
                      refine lv_aload_n hx hb dX12_reaches_224 rfl (lv_at hl 2 rfl) ?_
                      refine lv_iload hx hb dX12_reaches_225 (lv_at hl 8 rfl) ?_
                      refine lv_iconst (v := 2) hx hb dX12_reaches_227 (by decide) ?_
                      refine tk_Vi hC hK hw hT hA hE hSR kM_at0 (by decide) rfl (k_X12_streetOf_14 l adK adV dC dI cy ad B (by omega) (by omega) qr s1   v145_6 (show 0 ≤ v145_6.toInt by omega) (show v145_6.toInt ≤ 12 by omega) w12 H.size hT ) (cwV 2 hC.2.2.2.2 gX12_reaches_X12_streetOf rfl rfl rfl (by decide +kernel) ⟨Nat.le_of_ble_eq_true rfl, Nat.le_of_ble_eq_true rfl⟩) rfl hl.1 rfl (Nat.le_of_ble_eq_true rfl) dX12_reaches_228 (fun r143 w145 H locs hp144 hw => ?_)
                      obtain ⟨rfl, hg150⟩ := hp144
                      obtain ⟨g147, g148, c149⟩ := hg150
                      obtain rfl : r132 = r143 := c138.symm.trans c149
                      refine lv_iadd hx hb dX12_reaches_231 ?_
                      refine lv_topi (fun x151 ex151 => ?_)
                      have ex151 : x151.toInt = r66.toInt + r132.toInt := by rw [ex151]; exact wk_add (show (-2147483648) ≤ r66.toInt + r132.toInt by omega) (show r66.toInt + r132.toInt ≤ 2147483647 by omega)
                      refine lv_aload_n hx hb dX12_reaches_232 rfl (lv_at hl 2 rfl) ?_
                      refine tk_getA hC hK hw hT hinX12 kM_at0 (by decide) rfl 35 (by decide) (List.mem_of_getElem? (i := 1) rfl) rfl rfl dX12_reaches_233 ?_
                      refine lv_iload hx hb dX12_reaches_236 (lv_at hl 0 rfl) ?_
                      refine tk_iald hC hK hw hT kM_at18 rfl rfl (show 0 ≤ r76.toInt by omega) (show r76.toInt < 10 by omega) dX12_reaches_238 (fun x152 c153 rx152 tx152 => ?_)
                      refine lv_icmp_ge (tgt := 259) hx hb dX12_reaches_239 (by decide) (fun c154 => ?_) (fun c154 => ?_)
                      · have c154 : x152.toInt ≤ x151.toInt := wk_le.mp c154
                        have gb155 : 0 ≤ sumG 19 10 w12 ∧ sumG 19 10 w12 ≤ 10 := hT.sum (lo := 0) (hi := 1) kM_at19 rfl (by decide) rfl
                        exact J259 x49 H locs ls w12 (show 0 ≤ a1.toInt by omega) (show a1.toInt ≤ 9 by omega) (show 0 ≤ a2.toInt by omega) (show a2.toInt ≤ 9 by omega) (show 0 ≤ a3.toInt by omega) (show a3.toInt ≤ 99999 by omega) (show 2000 ≤ a4.toInt by omega) (show a4.toInt ≤ 101999 by omega) (show 0 ≤ v145_5.toInt by omega) (show v145_5.toInt ≤ 9 by omega) (show 0 ≤ v145_6.toInt by omega) (show v145_6.toInt ≤ 12 by omega) (show 0 ≤ f145_12_0.toInt by omega) (show f145_12_0.toInt ≤ 10 by omega) (show 1 ≤ x49.toInt by omega) (show x49.toInt ≤ 13 by omega) (show (sumG 19 10 w1) + 1 ≤ (sumG 19 10 w12) by omega)  hw hT hF c27 c50 (lv_sub hl [2, 3, 4, 5, 6, 7, 8] rfl)
                      · have c154 : x151.toInt < x152.toInt := wk_leF c154
                        refine lv_aload_n hx hb dX12_reaches_242 rfl (lv_at hl 2 rfl) ?_
                        refine tk_getA hC hK hw hT hinX12 kM_at0 (by decide) rfl 35 (by decide) (List.mem_of_getElem? (i := 1) rfl) rfl rfl dX12_reaches_243 ?_
                        refine lv_iload hx hb dX12_reaches_246 (lv_at hl 0 rfl) ?_
                        refine lv_iload hx hb dX12_reaches_248 (lv_at hl 1 rfl) ?_
                        refine lv_aload_n hx hb dX12_reaches_250 rfl (lv_at hl 2 rfl) ?_
                        refine lv_iload hx hb dX12_reaches_251 (lv_at hl 8 rfl) ?_
                        refine lv_iconst (v := 2) hx hb dX12_reaches_253 (by decide) ?_
                        refine tk_Vi hC hK hw hT hA hE hSR kM_at0 (by decide) rfl (k_X12_streetOf_14 l adK adV dC dI cy ad B (by omega) (by omega) qr s1   v145_6 (show 0 ≤ v145_6.toInt by omega) (show v145_6.toInt ≤ 12 by omega) w12 H.size hT ) (cwV 2 hC.2.2.2.2 gX12_reaches_X12_streetOf rfl rfl rfl (by decide +kernel) ⟨Nat.le_of_ble_eq_true rfl, Nat.le_of_ble_eq_true rfl⟩) rfl hl.1 rfl (Nat.le_of_ble_eq_true rfl) dX12_reaches_254 (fun r156 w158 H locs hp157 hw => ?_)
                        obtain ⟨rfl, hg163⟩ := hp157
                        obtain ⟨g160, g161, c162⟩ := hg163
                        obtain rfl : r132 = r156 := c138.symm.trans c162
                        refine lv_iadd hx hb dX12_reaches_257 ?_
                        refine lv_topi (fun x164 ex164 => ?_)
                        have ex164 : x164.toInt = r66.toInt + r132.toInt := by rw [ex164]; exact wk_add (show (-2147483648) ≤ r66.toInt + r132.toInt by omega) (show r66.toInt + r132.toInt ≤ 2147483647 by omega)
                        refine tk_iast hC hK hw hT kM_at18 (by decide) rfl rfl (show 0 ≤ r76.toInt by omega) (show r76.toInt < 10 by omega) (show 0 ≤ x164.toInt by omega) (show x164.toInt ≤ 100000100 by omega) dX12_reaches_258 (fun H locs w165 hw hT k167 c166 => ?_)
                        have gs168 : sumG 19 10 w165 = sumG 19 10 w12 := sumG_ne 10 k167 (tk_ne kM_at19 kM_at18 (by decide))
                        have hF := hF.put kM_at18 (inE_of (a := 0) (b := 10) (by decide) (show 0 ≤ r76.toInt.toNat by omega) (show r76.toInt.toNat ≤ 10 by omega)) k167
                        have c169 := k167.gi (Or.inl (tk_ne kM_at12 kM_at18 (by decide))) c27
                        have c170 := k167.gi (Or.inl (tk_ne kM_at12 kM_at18 (by decide))) c50
                        have c171 := k167.gi (Or.inl (tk_ne kM_at12 kM_at18 (by decide))) c58
                        have c172 := k167.gi (Or.inl (tk_ne kM_at12 kM_at18 (by decide))) c138
                        have gb173 : 0 ≤ sumG 19 10 w165 ∧ sumG 19 10 w165 ≤ 10 := hT.sum (lo := 0) (hi := 1) kM_at19 rfl (by decide) rfl
                        exact J259 x49 H locs ls w165 (show 0 ≤ a1.toInt by omega) (show a1.toInt ≤ 9 by omega) (show 0 ≤ a2.toInt by omega) (show a2.toInt ≤ 9 by omega) (show 0 ≤ a3.toInt by omega) (show a3.toInt ≤ 99999 by omega) (show 2000 ≤ a4.toInt by omega) (show a4.toInt ≤ 101999 by omega) (show 0 ≤ v145_5.toInt by omega) (show v145_5.toInt ≤ 9 by omega) (show 0 ≤ v145_6.toInt by omega) (show v145_6.toInt ≤ 12 by omega) (show 0 ≤ f145_12_0.toInt by omega) (show f145_12_0.toInt ≤ 10 by omega) (show 1 ≤ x49.toInt by omega) (show x49.toInt ≤ 13 by omega) (show (sumG 19 10 w1) + 1 ≤ (sumG 19 10 w165) by omega)  hw hT hF c169 c170 (lv_sub hl [2, 3, 4, 5, 6, 7, 8] rfl)
              · refine lv_istore (lv' := [(7, .int r66), (0, .ref (ad 0)), (1, .int a1), (2, .int a2), (3, .int a3), (4, .int a4), (5, .int v145_5), (6, .int v145_6)]) hx hb dX12_reaches_187 hl (by decide) rfl (fun ls hl => ?_)
                refine lv_aload_n hx hb dX12_reaches_189 rfl (lv_at hl 1 rfl) ?_
                refine lv_iload hx hb dX12_reaches_190 (lv_at hl 7 rfl) ?_
                refine lv_iload hx hb dX12_reaches_192 (lv_at hl 6 rfl) ?_
                refine tk_Vi hC hK hw hT hA hE hSR kM_at0 (by decide) rfl (k_X12_otherOf_3 l adK adV dC dI cy ad B (by omega) (by omega) qr s1   v145_6 (show 0 ≤ v145_6.toInt by omega) (show v145_6.toInt ≤ 12 by omega) v145_5 (show 0 ≤ v145_5.toInt by omega) (show v145_5.toInt ≤ 9 by omega) w12 H.size hT ) (cwV 2 hC.2.2.2.2 gX12_reaches_X12_otherOf rfl rfl rfl (by decide +kernel) ⟨Nat.le_of_ble_eq_true rfl, Nat.le_of_ble_eq_true rfl⟩) rfl hl.1 rfl (Nat.le_of_ble_eq_true rfl) dX12_reaches_194 (fun r174 w176 H locs hp175 hw => ?_)
                obtain ⟨rfl, hg183⟩ := hp175
                rcases hg183 with ⟨g178, g179⟩ | ⟨g180, g181, c182⟩
                · refine lv_istore (lv' := [(8, .int r174), (7, .int r66), (0, .ref (ad 0)), (1, .int a1), (2, .int a2), (3, .int a3), (4, .int a4), (5, .int v145_5), (6, .int v145_6)]) hx hb dX12_reaches_197 hl (by decide) rfl (fun ls hl => ?_)
                  refine lv_iload hx hb dX12_reaches_199 (lv_at hl 1 rfl) ?_
                  refine lv_ldcw (v := 100000000) hx hb hC.2.2.2.1 (hC.2.2.2.2 _ (List.mem_of_getElem? (i := 2) rfl)) dX12_reaches_201 ?_
                  refine lv_icmp_ge (tgt := 259) hx hb dX12_reaches_204 (by decide) (fun c => absurd c (fun h => absurd (show (100000000 : Int) ≤ r66.toInt from wk_le.mp h) (by omega))) (fun _ => ?_)
                  refine lv_iload hx hb dX12_reaches_207 (lv_at hl 1 rfl) ?_
                  refine lv_aload_n hx hb dX12_reaches_209 rfl (lv_at hl 2 rfl) ?_
                  refine lv_iload hx hb dX12_reaches_210 (lv_at hl 8 rfl) ?_
                  refine lv_iconst (v := 2) hx hb dX12_reaches_212 (by decide) ?_
                  refine tk_Vi hC hK hw hT hA hE hSR kM_at0 (by decide) rfl (k_X12_streetOf_14 l adK adV dC dI cy ad B (by omega) (by omega) qr s1   v145_6 (show 0 ≤ v145_6.toInt by omega) (show v145_6.toInt ≤ 12 by omega) w12 H.size hT ) (cwV 2 hC.2.2.2.2 gX12_reaches_X12_streetOf rfl rfl rfl (by decide +kernel) ⟨Nat.le_of_ble_eq_true rfl, Nat.le_of_ble_eq_true rfl⟩) rfl hl.1 rfl (Nat.le_of_ble_eq_true rfl) dX12_reaches_213 (fun r184 w186 H locs hp185 hw => ?_)
                  obtain ⟨rfl, hg191⟩ := hp185
                  obtain ⟨g188, g189, c190⟩ := hg191
                  refine lv_iadd hx hb dX12_reaches_216 ?_
                  refine lv_topi (fun x192 ex192 => ?_)
                  have ex192 : x192.toInt = r66.toInt + r184.toInt := by rw [ex192]; exact wk_add (show (-2147483648) ≤ r66.toInt + r184.toInt by omega) (show r66.toInt + r184.toInt ≤ 2147483647 by omega)
                  refine lv_iload hx hb dX12_reaches_217 (lv_at hl 6 rfl) ?_
                  refine lv_icmp_gt (tgt := 259) hx hb dX12_reaches_219 (by decide) (fun c193 => ?_) (fun c193 => ?_)
                  · have c193 : a4.toInt < x192.toInt := wk_lt.mp c193
                    have gb194 : 0 ≤ sumG 19 10 w12 ∧ sumG 19 10 w12 ≤ 10 := hT.sum (lo := 0) (hi := 1) kM_at19 rfl (by decide) rfl
                    exact J259 x49 H locs ls w12 (show 0 ≤ a1.toInt by omega) (show a1.toInt ≤ 9 by omega) (show 0 ≤ a2.toInt by omega) (show a2.toInt ≤ 9 by omega) (show 0 ≤ a3.toInt by omega) (show a3.toInt ≤ 99999 by omega) (show 2000 ≤ a4.toInt by omega) (show a4.toInt ≤ 101999 by omega) (show 0 ≤ v145_5.toInt by omega) (show v145_5.toInt ≤ 9 by omega) (show 0 ≤ v145_6.toInt by omega) (show v145_6.toInt ≤ 12 by omega) (show 0 ≤ f145_12_0.toInt by omega) (show f145_12_0.toInt ≤ 10 by omega) (show 1 ≤ x49.toInt by omega) (show x49.toInt ≤ 13 by omega) (show (sumG 19 10 w1) + 1 ≤ (sumG 19 10 w12) by omega)  hw hT hF c27 c50 (lv_sub hl [2, 3, 4, 5, 6, 7, 8] rfl)
                  · have c193 : x192.toInt ≤ a4.toInt := wk_ltF c193
                    refine lv_iload hx hb dX12_reaches_222 (lv_at hl 1 rfl) ?_
                    refine lv_aload_n hx hb dX12_reaches_224 rfl (lv_at hl 2 rfl) ?_
                    refine lv_iload hx hb dX12_reaches_225 (lv_at hl 8 rfl) ?_
                    refine lv_iconst (v := 2) hx hb dX12_reaches_227 (by decide) ?_
                    refine tk_Vi hC hK hw hT hA hE hSR kM_at0 (by decide) rfl (k_X12_streetOf_14 l adK adV dC dI cy ad B (by omega) (by omega) qr s1   v145_6 (show 0 ≤ v145_6.toInt by omega) (show v145_6.toInt ≤ 12 by omega) w12 H.size hT ) (cwV 2 hC.2.2.2.2 gX12_reaches_X12_streetOf rfl rfl rfl (by decide +kernel) ⟨Nat.le_of_ble_eq_true rfl, Nat.le_of_ble_eq_true rfl⟩) rfl hl.1 rfl (Nat.le_of_ble_eq_true rfl) dX12_reaches_228 (fun r195 w197 H locs hp196 hw => ?_)
                    obtain ⟨rfl, hg202⟩ := hp196
                    obtain ⟨g199, g200, c201⟩ := hg202
                    obtain rfl : r184 = r195 := c190.symm.trans c201
                    refine lv_iadd hx hb dX12_reaches_231 ?_
                    refine lv_topi (fun x203 ex203 => ?_)
                    have ex203 : x203.toInt = r66.toInt + r184.toInt := by rw [ex203]; exact wk_add (show (-2147483648) ≤ r66.toInt + r184.toInt by omega) (show r66.toInt + r184.toInt ≤ 2147483647 by omega)
                    refine lv_aload_n hx hb dX12_reaches_232 rfl (lv_at hl 2 rfl) ?_
                    refine tk_getA hC hK hw hT hinX12 kM_at0 (by decide) rfl 35 (by decide) (List.mem_of_getElem? (i := 1) rfl) rfl rfl dX12_reaches_233 ?_
                    refine lv_iload hx hb dX12_reaches_236 (lv_at hl 0 rfl) ?_
                    refine tk_iald hC hK hw hT kM_at18 rfl rfl (show 0 ≤ r174.toInt by omega) (show r174.toInt < 10 by omega) dX12_reaches_238 (fun x204 c205 rx204 tx204 => ?_)
                    refine lv_icmp_ge (tgt := 259) hx hb dX12_reaches_239 (by decide) (fun c206 => ?_) (fun c206 => ?_)
                    · have c206 : x204.toInt ≤ x203.toInt := wk_le.mp c206
                      have gb207 : 0 ≤ sumG 19 10 w12 ∧ sumG 19 10 w12 ≤ 10 := hT.sum (lo := 0) (hi := 1) kM_at19 rfl (by decide) rfl
                      exact J259 x49 H locs ls w12 (show 0 ≤ a1.toInt by omega) (show a1.toInt ≤ 9 by omega) (show 0 ≤ a2.toInt by omega) (show a2.toInt ≤ 9 by omega) (show 0 ≤ a3.toInt by omega) (show a3.toInt ≤ 99999 by omega) (show 2000 ≤ a4.toInt by omega) (show a4.toInt ≤ 101999 by omega) (show 0 ≤ v145_5.toInt by omega) (show v145_5.toInt ≤ 9 by omega) (show 0 ≤ v145_6.toInt by omega) (show v145_6.toInt ≤ 12 by omega) (show 0 ≤ f145_12_0.toInt by omega) (show f145_12_0.toInt ≤ 10 by omega) (show 1 ≤ x49.toInt by omega) (show x49.toInt ≤ 13 by omega) (show (sumG 19 10 w1) + 1 ≤ (sumG 19 10 w12) by omega)  hw hT hF c27 c50 (lv_sub hl [2, 3, 4, 5, 6, 7, 8] rfl)
                    · have c206 : x203.toInt < x204.toInt := wk_leF c206
                      refine lv_aload_n hx hb dX12_reaches_242 rfl (lv_at hl 2 rfl) ?_
                      refine tk_getA hC hK hw hT hinX12 kM_at0 (by decide) rfl 35 (by decide) (List.mem_of_getElem? (i := 1) rfl) rfl rfl dX12_reaches_243 ?_
                      refine lv_iload hx hb dX12_reaches_246 (lv_at hl 0 rfl) ?_
                      refine lv_iload hx hb dX12_reaches_248 (lv_at hl 1 rfl) ?_
                      refine lv_aload_n hx hb dX12_reaches_250 rfl (lv_at hl 2 rfl) ?_
                      refine lv_iload hx hb dX12_reaches_251 (lv_at hl 8 rfl) ?_
                      refine lv_iconst (v := 2) hx hb dX12_reaches_253 (by decide) ?_
                      refine tk_Vi hC hK hw hT hA hE hSR kM_at0 (by decide) rfl (k_X12_streetOf_14 l adK adV dC dI cy ad B (by omega) (by omega) qr s1   v145_6 (show 0 ≤ v145_6.toInt by omega) (show v145_6.toInt ≤ 12 by omega) w12 H.size hT ) (cwV 2 hC.2.2.2.2 gX12_reaches_X12_streetOf rfl rfl rfl (by decide +kernel) ⟨Nat.le_of_ble_eq_true rfl, Nat.le_of_ble_eq_true rfl⟩) rfl hl.1 rfl (Nat.le_of_ble_eq_true rfl) dX12_reaches_254 (fun r208 w210 H locs hp209 hw => ?_)
                      obtain ⟨rfl, hg215⟩ := hp209
                      obtain ⟨g212, g213, c214⟩ := hg215
                      obtain rfl : r184 = r208 := c190.symm.trans c214
                      refine lv_iadd hx hb dX12_reaches_257 ?_
                      refine lv_topi (fun x216 ex216 => ?_)
                      have ex216 : x216.toInt = r66.toInt + r184.toInt := by rw [ex216]; exact wk_add (show (-2147483648) ≤ r66.toInt + r184.toInt by omega) (show r66.toInt + r184.toInt ≤ 2147483647 by omega)
                      refine tk_iast hC hK hw hT kM_at18 (by decide) rfl rfl (show 0 ≤ r174.toInt by omega) (show r174.toInt < 10 by omega) (show 0 ≤ x216.toInt by omega) (show x216.toInt ≤ 100000100 by omega) dX12_reaches_258 (fun H locs w217 hw hT k219 c218 => ?_)
                      have gs220 : sumG 19 10 w217 = sumG 19 10 w12 := sumG_ne 10 k219 (tk_ne kM_at19 kM_at18 (by decide))
                      have hF := hF.put kM_at18 (inE_of (a := 0) (b := 10) (by decide) (show 0 ≤ r174.toInt.toNat by omega) (show r174.toInt.toNat ≤ 10 by omega)) k219
                      have c221 := k219.gi (Or.inl (tk_ne kM_at12 kM_at18 (by decide))) c27
                      have c222 := k219.gi (Or.inl (tk_ne kM_at12 kM_at18 (by decide))) c50
                      have c223 := k219.gi (Or.inl (tk_ne kM_at12 kM_at18 (by decide))) c58
                      have c224 := k219.gi (Or.inl (tk_ne kM_at12 kM_at18 (by decide))) c190
                      have gb225 : 0 ≤ sumG 19 10 w217 ∧ sumG 19 10 w217 ≤ 10 := hT.sum (lo := 0) (hi := 1) kM_at19 rfl (by decide) rfl
                      exact J259 x49 H locs ls w217 (show 0 ≤ a1.toInt by omega) (show a1.toInt ≤ 9 by omega) (show 0 ≤ a2.toInt by omega) (show a2.toInt ≤ 9 by omega) (show 0 ≤ a3.toInt by omega) (show a3.toInt ≤ 99999 by omega) (show 2000 ≤ a4.toInt by omega) (show a4.toInt ≤ 101999 by omega) (show 0 ≤ v145_5.toInt by omega) (show v145_5.toInt ≤ 9 by omega) (show 0 ≤ v145_6.toInt by omega) (show v145_6.toInt ≤ 12 by omega) (show 0 ≤ f145_12_0.toInt by omega) (show f145_12_0.toInt ≤ 10 by omega) (show 1 ≤ x49.toInt by omega) (show x49.toInt ≤ 13 by omega) (show (sumG 19 10 w1) + 1 ≤ (sumG 19 10 w217) by omega)  hw hT hF c221 c222 (lv_sub hl [2, 3, 4, 5, 6, 7, 8] rfl)
                · refine lv_istore (lv' := [(8, .int r174), (7, .int r66), (0, .ref (ad 0)), (1, .int a1), (2, .int a2), (3, .int a3), (4, .int a4), (5, .int v145_5), (6, .int v145_6)]) hx hb dX12_reaches_197 hl (by decide) rfl (fun ls hl => ?_)
                  refine lv_iload hx hb dX12_reaches_199 (lv_at hl 1 rfl) ?_
                  refine lv_ldcw (v := 100000000) hx hb hC.2.2.2.1 (hC.2.2.2.2 _ (List.mem_of_getElem? (i := 2) rfl)) dX12_reaches_201 ?_
                  refine lv_icmp_ge (tgt := 259) hx hb dX12_reaches_204 (by decide) (fun c => absurd c (fun h => absurd (show (100000000 : Int) ≤ r66.toInt from wk_le.mp h) (by omega))) (fun _ => ?_)
                  refine lv_iload hx hb dX12_reaches_207 (lv_at hl 1 rfl) ?_
                  refine lv_aload_n hx hb dX12_reaches_209 rfl (lv_at hl 2 rfl) ?_
                  refine lv_iload hx hb dX12_reaches_210 (lv_at hl 8 rfl) ?_
                  refine lv_iconst (v := 2) hx hb dX12_reaches_212 (by decide) ?_
                  refine tk_Vi hC hK hw hT hA hE hSR kM_at0 (by decide) rfl (k_X12_streetOf_14 l adK adV dC dI cy ad B (by omega) (by omega) qr s1   v145_6 (show 0 ≤ v145_6.toInt by omega) (show v145_6.toInt ≤ 12 by omega) w12 H.size hT ) (cwV 2 hC.2.2.2.2 gX12_reaches_X12_streetOf rfl rfl rfl (by decide +kernel) ⟨Nat.le_of_ble_eq_true rfl, Nat.le_of_ble_eq_true rfl⟩) rfl hl.1 rfl (Nat.le_of_ble_eq_true rfl) dX12_reaches_213 (fun r226 w228 H locs hp227 hw => ?_)
                  obtain ⟨rfl, hg233⟩ := hp227
                  obtain ⟨g230, g231, c232⟩ := hg233
                  refine lv_iadd hx hb dX12_reaches_216 ?_
                  refine lv_topi (fun x234 ex234 => ?_)
                  have ex234 : x234.toInt = r66.toInt + r226.toInt := by rw [ex234]; exact wk_add (show (-2147483648) ≤ r66.toInt + r226.toInt by omega) (show r66.toInt + r226.toInt ≤ 2147483647 by omega)
                  refine lv_iload hx hb dX12_reaches_217 (lv_at hl 6 rfl) ?_
                  refine lv_icmp_gt (tgt := 259) hx hb dX12_reaches_219 (by decide) (fun c235 => ?_) (fun c235 => ?_)
                  · have c235 : a4.toInt < x234.toInt := wk_lt.mp c235
                    have gb236 : 0 ≤ sumG 19 10 w12 ∧ sumG 19 10 w12 ≤ 10 := hT.sum (lo := 0) (hi := 1) kM_at19 rfl (by decide) rfl
                    exact J259 x49 H locs ls w12 (show 0 ≤ a1.toInt by omega) (show a1.toInt ≤ 9 by omega) (show 0 ≤ a2.toInt by omega) (show a2.toInt ≤ 9 by omega) (show 0 ≤ a3.toInt by omega) (show a3.toInt ≤ 99999 by omega) (show 2000 ≤ a4.toInt by omega) (show a4.toInt ≤ 101999 by omega) (show 0 ≤ v145_5.toInt by omega) (show v145_5.toInt ≤ 9 by omega) (show 0 ≤ v145_6.toInt by omega) (show v145_6.toInt ≤ 12 by omega) (show 0 ≤ f145_12_0.toInt by omega) (show f145_12_0.toInt ≤ 10 by omega) (show 1 ≤ x49.toInt by omega) (show x49.toInt ≤ 13 by omega) (show (sumG 19 10 w1) + 1 ≤ (sumG 19 10 w12) by omega)  hw hT hF c27 c50 (lv_sub hl [2, 3, 4, 5, 6, 7, 8] rfl)
                  · have c235 : x234.toInt ≤ a4.toInt := wk_ltF c235
                    refine lv_iload hx hb dX12_reaches_222 (lv_at hl 1 rfl) ?_
                    refine lv_aload_n hx hb dX12_reaches_224 rfl (lv_at hl 2 rfl) ?_
                    refine lv_iload hx hb dX12_reaches_225 (lv_at hl 8 rfl) ?_
                    refine lv_iconst (v := 2) hx hb dX12_reaches_227 (by decide) ?_
                    refine tk_Vi hC hK hw hT hA hE hSR kM_at0 (by decide) rfl (k_X12_streetOf_14 l adK adV dC dI cy ad B (by omega) (by omega) qr s1   v145_6 (show 0 ≤ v145_6.toInt by omega) (show v145_6.toInt ≤ 12 by omega) w12 H.size hT ) (cwV 2 hC.2.2.2.2 gX12_reaches_X12_streetOf rfl rfl rfl (by decide +kernel) ⟨Nat.le_of_ble_eq_true rfl, Nat.le_of_ble_eq_true rfl⟩) rfl hl.1 rfl (Nat.le_of_ble_eq_true rfl) dX12_reaches_228 (fun r237 w239 H locs hp238 hw => ?_)
                    obtain ⟨rfl, hg244⟩ := hp238
                    obtain ⟨g241, g242, c243⟩ := hg244
                    obtain rfl : r226 = r237 := c232.symm.trans c243
                    refine lv_iadd hx hb dX12_reaches_231 ?_
                    refine lv_topi (fun x245 ex245 => ?_)
                    have ex245 : x245.toInt = r66.toInt + r226.toInt := by rw [ex245]; exact wk_add (show (-2147483648) ≤ r66.toInt + r226.toInt by omega) (show r66.toInt + r226.toInt ≤ 2147483647 by omega)
                    refine lv_aload_n hx hb dX12_reaches_232 rfl (lv_at hl 2 rfl) ?_
                    refine tk_getA hC hK hw hT hinX12 kM_at0 (by decide) rfl 35 (by decide) (List.mem_of_getElem? (i := 1) rfl) rfl rfl dX12_reaches_233 ?_
                    refine lv_iload hx hb dX12_reaches_236 (lv_at hl 0 rfl) ?_
                    refine tk_iald hC hK hw hT kM_at18 rfl rfl (show 0 ≤ r174.toInt by omega) (show r174.toInt < 10 by omega) dX12_reaches_238 (fun x246 c247 rx246 tx246 => ?_)
                    refine lv_icmp_ge (tgt := 259) hx hb dX12_reaches_239 (by decide) (fun c248 => ?_) (fun c248 => ?_)
                    · have c248 : x246.toInt ≤ x245.toInt := wk_le.mp c248
                      have gb249 : 0 ≤ sumG 19 10 w12 ∧ sumG 19 10 w12 ≤ 10 := hT.sum (lo := 0) (hi := 1) kM_at19 rfl (by decide) rfl
                      exact J259 x49 H locs ls w12 (show 0 ≤ a1.toInt by omega) (show a1.toInt ≤ 9 by omega) (show 0 ≤ a2.toInt by omega) (show a2.toInt ≤ 9 by omega) (show 0 ≤ a3.toInt by omega) (show a3.toInt ≤ 99999 by omega) (show 2000 ≤ a4.toInt by omega) (show a4.toInt ≤ 101999 by omega) (show 0 ≤ v145_5.toInt by omega) (show v145_5.toInt ≤ 9 by omega) (show 0 ≤ v145_6.toInt by omega) (show v145_6.toInt ≤ 12 by omega) (show 0 ≤ f145_12_0.toInt by omega) (show f145_12_0.toInt ≤ 10 by omega) (show 1 ≤ x49.toInt by omega) (show x49.toInt ≤ 13 by omega) (show (sumG 19 10 w1) + 1 ≤ (sumG 19 10 w12) by omega)  hw hT hF c27 c50 (lv_sub hl [2, 3, 4, 5, 6, 7, 8] rfl)
                    · have c248 : x245.toInt < x246.toInt := wk_leF c248
                      refine lv_aload_n hx hb dX12_reaches_242 rfl (lv_at hl 2 rfl) ?_
                      refine tk_getA hC hK hw hT hinX12 kM_at0 (by decide) rfl 35 (by decide) (List.mem_of_getElem? (i := 1) rfl) rfl rfl dX12_reaches_243 ?_
                      refine lv_iload hx hb dX12_reaches_246 (lv_at hl 0 rfl) ?_
                      refine lv_iload hx hb dX12_reaches_248 (lv_at hl 1 rfl) ?_
                      refine lv_aload_n hx hb dX12_reaches_250 rfl (lv_at hl 2 rfl) ?_
                      refine lv_iload hx hb dX12_reaches_251 (lv_at hl 8 rfl) ?_
                      refine lv_iconst (v := 2) hx hb dX12_reaches_253 (by decide) ?_
                      refine tk_Vi hC hK hw hT hA hE hSR kM_at0 (by decide) rfl (k_X12_streetOf_14 l adK adV dC dI cy ad B (by omega) (by omega) qr s1   v145_6 (show 0 ≤ v145_6.toInt by omega) (show v145_6.toInt ≤ 12 by omega) w12 H.size hT ) (cwV 2 hC.2.2.2.2 gX12_reaches_X12_streetOf rfl rfl rfl (by decide +kernel) ⟨Nat.le_of_ble_eq_true rfl, Nat.le_of_ble_eq_true rfl⟩) rfl hl.1 rfl (Nat.le_of_ble_eq_true rfl) dX12_reaches_254 (fun r250 w252 H locs hp251 hw => ?_)
                      obtain ⟨rfl, hg257⟩ := hp251
                      obtain ⟨g254, g255, c256⟩ := hg257
                      obtain rfl : r226 = r250 := c232.symm.trans c256
                      refine lv_iadd hx hb dX12_reaches_257 ?_
                      refine lv_topi (fun x258 ex258 => ?_)
                      have ex258 : x258.toInt = r66.toInt + r226.toInt := by rw [ex258]; exact wk_add (show (-2147483648) ≤ r66.toInt + r226.toInt by omega) (show r66.toInt + r226.toInt ≤ 2147483647 by omega)
                      refine tk_iast hC hK hw hT kM_at18 (by decide) rfl rfl (show 0 ≤ r174.toInt by omega) (show r174.toInt < 10 by omega) (show 0 ≤ x258.toInt by omega) (show x258.toInt ≤ 100000100 by omega) dX12_reaches_258 (fun H locs w259 hw hT k261 c260 => ?_)
                      have gs262 : sumG 19 10 w259 = sumG 19 10 w12 := sumG_ne 10 k261 (tk_ne kM_at19 kM_at18 (by decide))
                      have hF := hF.put kM_at18 (inE_of (a := 0) (b := 10) (by decide) (show 0 ≤ r174.toInt.toNat by omega) (show r174.toInt.toNat ≤ 10 by omega)) k261
                      have c263 := k261.gi (Or.inl (tk_ne kM_at12 kM_at18 (by decide))) c27
                      have c264 := k261.gi (Or.inl (tk_ne kM_at12 kM_at18 (by decide))) c50
                      have c265 := k261.gi (Or.inl (tk_ne kM_at12 kM_at18 (by decide))) c58
                      have c266 := k261.gi (Or.inl (tk_ne kM_at12 kM_at18 (by decide))) c232
                      have gb267 : 0 ≤ sumG 19 10 w259 ∧ sumG 19 10 w259 ≤ 10 := hT.sum (lo := 0) (hi := 1) kM_at19 rfl (by decide) rfl
                      exact J259 x49 H locs ls w259 (show 0 ≤ a1.toInt by omega) (show a1.toInt ≤ 9 by omega) (show 0 ≤ a2.toInt by omega) (show a2.toInt ≤ 9 by omega) (show 0 ≤ a3.toInt by omega) (show a3.toInt ≤ 99999 by omega) (show 2000 ≤ a4.toInt by omega) (show a4.toInt ≤ 101999 by omega) (show 0 ≤ v145_5.toInt by omega) (show v145_5.toInt ≤ 9 by omega) (show 0 ≤ v145_6.toInt by omega) (show v145_6.toInt ≤ 12 by omega) (show 0 ≤ f145_12_0.toInt by omega) (show f145_12_0.toInt ≤ 10 by omega) (show 1 ≤ x49.toInt by omega) (show x49.toInt ≤ 13 by omega) (show (sumG 19 10 w1) + 1 ≤ (sumG 19 10 w259) by omega)  hw hT hF c263 c264 (lv_sub hl [2, 3, 4, 5, 6, 7, 8] rfl)
            · refine lv_if_ne (tgt := 170) hx hb dX12_reaches_164 (by decide) (fun _ => ?_) (fun c => absurd c (by decide))
              refine lv_aload_n hx hb dX12_reaches_170 rfl (lv_at hl 0 rfl) ?_
              refine lv_iload hx hb dX12_reaches_171 (lv_at hl 6 rfl) ?_
              refine lv_iload hx hb dX12_reaches_173 (lv_at hl 5 rfl) ?_
              refine lv_aload_n hx hb dX12_reaches_175 rfl (lv_at hl 0 rfl) ?_
              refine tk_getA hC hK hw hT hinX12 kM_at0 (by decide) rfl 35 (by decide) (List.mem_of_getElem? (i := 1) rfl) rfl rfl dX12_reaches_176 ?_
              refine lv_iload hx hb dX12_reaches_179 (lv_at hl 5 rfl) ?_
              refine tk_iald hC hK hw hT kM_at18 rfl rfl (show 0 ≤ v145_5.toInt by omega) (show v145_5.toInt < 10 by omega) dX12_reaches_181 (fun x268 c269 rx268 tx268 => ?_)
              refine lv_iload hx hb dX12_reaches_182 (lv_at hl 4 rfl) ?_
              refine tk_Vi hC hK hw hT hA hE hSR kM_at0 (by decide) rfl (k_X12_firstOpen_4 l adK adV dC dI cy ad B (by omega) (by omega) qr s1   v145_6 (show 0 ≤ v145_6.toInt by omega) (show v145_6.toInt ≤ 12 by omega) v145_5 (show 0 ≤ v145_5.toInt by omega) (show v145_5.toInt ≤ 9 by omega) x268 (show 0 ≤ x268.toInt by omega) (show x268.toInt ≤ 100000100 by omega) a4 (show 2000 ≤ a4.toInt by omega) (show a4.toInt ≤ 101999 by omega) w12 H.size hT ) (cwV 4 hC.2.2.2.2 gX12_reaches_X12_firstOpen rfl rfl rfl (by decide +kernel) ⟨Nat.le_of_ble_eq_true rfl, Nat.le_of_ble_eq_true rfl⟩) rfl hl.1 rfl (Nat.le_of_ble_eq_true rfl) dX12_reaches_184 (fun r270 w272 H locs hp271 hw => ?_)
              obtain ⟨rfl, hg279⟩ := hp271
              rcases hg279 with ⟨g274, g275⟩ | ⟨g276, g277, c278⟩
              · refine lv_istore (lv' := [(7, .int r270), (0, .ref (ad 0)), (1, .int a1), (2, .int a2), (3, .int a3), (4, .int a4), (5, .int v145_5), (6, .int v145_6)]) hx hb dX12_reaches_187 hl (by decide) rfl (fun ls hl => ?_)
                refine lv_aload_n hx hb dX12_reaches_189 rfl (lv_at hl 1 rfl) ?_
                refine lv_iload hx hb dX12_reaches_190 (lv_at hl 7 rfl) ?_
                refine lv_iload hx hb dX12_reaches_192 (lv_at hl 6 rfl) ?_
                refine tk_Vi hC hK hw hT hA hE hSR kM_at0 (by decide) rfl (k_X12_otherOf_3 l adK adV dC dI cy ad B (by omega) (by omega) qr s1   v145_6 (show 0 ≤ v145_6.toInt by omega) (show v145_6.toInt ≤ 12 by omega) v145_5 (show 0 ≤ v145_5.toInt by omega) (show v145_5.toInt ≤ 9 by omega) w12 H.size hT ) (cwV 2 hC.2.2.2.2 gX12_reaches_X12_otherOf rfl rfl rfl (by decide +kernel) ⟨Nat.le_of_ble_eq_true rfl, Nat.le_of_ble_eq_true rfl⟩) rfl hl.1 rfl (Nat.le_of_ble_eq_true rfl) dX12_reaches_194 (fun r280 w282 H locs hp281 hw => ?_)
                obtain ⟨rfl, hg289⟩ := hp281
                rcases hg289 with ⟨g284, g285⟩ | ⟨g286, g287, c288⟩
                · refine lv_istore (lv' := [(8, .int r280), (7, .int r270), (0, .ref (ad 0)), (1, .int a1), (2, .int a2), (3, .int a3), (4, .int a4), (5, .int v145_5), (6, .int v145_6)]) hx hb dX12_reaches_197 hl (by decide) rfl (fun ls hl => ?_)
                  refine lv_iload hx hb dX12_reaches_199 (lv_at hl 1 rfl) ?_
                  refine lv_ldcw (v := 100000000) hx hb hC.2.2.2.1 (hC.2.2.2.2 _ (List.mem_of_getElem? (i := 2) rfl)) dX12_reaches_201 ?_
                  refine lv_icmp_ge (tgt := 259) hx hb dX12_reaches_204 (by decide) (fun c290 => ?_) (fun c290 => ?_)
                  · have c290 : (100000000 : Int) ≤ r270.toInt := wk_le.mp c290
                    have gb291 : 0 ≤ sumG 19 10 w12 ∧ sumG 19 10 w12 ≤ 10 := hT.sum (lo := 0) (hi := 1) kM_at19 rfl (by decide) rfl
                    exact J259 x49 H locs ls w12 (show 0 ≤ a1.toInt by omega) (show a1.toInt ≤ 9 by omega) (show 0 ≤ a2.toInt by omega) (show a2.toInt ≤ 9 by omega) (show 0 ≤ a3.toInt by omega) (show a3.toInt ≤ 99999 by omega) (show 2000 ≤ a4.toInt by omega) (show a4.toInt ≤ 101999 by omega) (show 0 ≤ v145_5.toInt by omega) (show v145_5.toInt ≤ 9 by omega) (show 0 ≤ v145_6.toInt by omega) (show v145_6.toInt ≤ 12 by omega) (show 0 ≤ f145_12_0.toInt by omega) (show f145_12_0.toInt ≤ 10 by omega) (show 1 ≤ x49.toInt by omega) (show x49.toInt ≤ 13 by omega) (show (sumG 19 10 w1) + 1 ≤ (sumG 19 10 w12) by omega)  hw hT hF c27 c50 (lv_sub hl [2, 3, 4, 5, 6, 7, 8] rfl)
                  · have c290 : r270.toInt < (100000000 : Int) := wk_leF c290
                    refine lv_iload hx hb dX12_reaches_207 (lv_at hl 1 rfl) ?_
                    refine lv_aload_n hx hb dX12_reaches_209 rfl (lv_at hl 2 rfl) ?_
                    refine lv_iload hx hb dX12_reaches_210 (lv_at hl 8 rfl) ?_
                    refine lv_iconst (v := 2) hx hb dX12_reaches_212 (by decide) ?_
                    refine tk_Vi hC hK hw hT hA hE hSR kM_at0 (by decide) rfl (k_X12_streetOf_14 l adK adV dC dI cy ad B (by omega) (by omega) qr s1   v145_6 (show 0 ≤ v145_6.toInt by omega) (show v145_6.toInt ≤ 12 by omega) w12 H.size hT ) (cwV 2 hC.2.2.2.2 gX12_reaches_X12_streetOf rfl rfl rfl (by decide +kernel) ⟨Nat.le_of_ble_eq_true rfl, Nat.le_of_ble_eq_true rfl⟩) rfl hl.1 rfl (Nat.le_of_ble_eq_true rfl) dX12_reaches_213 (fun r292 w294 H locs hp293 hw => ?_)
                    obtain ⟨rfl, hg299⟩ := hp293
                    obtain ⟨g296, g297, c298⟩ := hg299
                    refine lv_iadd hx hb dX12_reaches_216 ?_
                    refine lv_topi (fun x300 ex300 => ?_)
                    have ex300 : x300.toInt = r270.toInt + r292.toInt := by rw [ex300]; exact wk_add (show (-2147483648) ≤ r270.toInt + r292.toInt by omega) (show r270.toInt + r292.toInt ≤ 2147483647 by omega)
                    refine lv_iload hx hb dX12_reaches_217 (lv_at hl 6 rfl) ?_
                    refine lv_icmp_gt (tgt := 259) hx hb dX12_reaches_219 (by decide) (fun c301 => ?_) (fun c301 => ?_)
                    · have c301 : a4.toInt < x300.toInt := wk_lt.mp c301
                      have gb302 : 0 ≤ sumG 19 10 w12 ∧ sumG 19 10 w12 ≤ 10 := hT.sum (lo := 0) (hi := 1) kM_at19 rfl (by decide) rfl
                      exact J259 x49 H locs ls w12 (show 0 ≤ a1.toInt by omega) (show a1.toInt ≤ 9 by omega) (show 0 ≤ a2.toInt by omega) (show a2.toInt ≤ 9 by omega) (show 0 ≤ a3.toInt by omega) (show a3.toInt ≤ 99999 by omega) (show 2000 ≤ a4.toInt by omega) (show a4.toInt ≤ 101999 by omega) (show 0 ≤ v145_5.toInt by omega) (show v145_5.toInt ≤ 9 by omega) (show 0 ≤ v145_6.toInt by omega) (show v145_6.toInt ≤ 12 by omega) (show 0 ≤ f145_12_0.toInt by omega) (show f145_12_0.toInt ≤ 10 by omega) (show 1 ≤ x49.toInt by omega) (show x49.toInt ≤ 13 by omega) (show (sumG 19 10 w1) + 1 ≤ (sumG 19 10 w12) by omega)  hw hT hF c27 c50 (lv_sub hl [2, 3, 4, 5, 6, 7, 8] rfl)
                    · have c301 : x300.toInt ≤ a4.toInt := wk_ltF c301
                      refine lv_iload hx hb dX12_reaches_222 (lv_at hl 1 rfl) ?_
                      refine lv_aload_n hx hb dX12_reaches_224 rfl (lv_at hl 2 rfl) ?_
                      refine lv_iload hx hb dX12_reaches_225 (lv_at hl 8 rfl) ?_
                      refine lv_iconst (v := 2) hx hb dX12_reaches_227 (by decide) ?_
                      refine tk_Vi hC hK hw hT hA hE hSR kM_at0 (by decide) rfl (k_X12_streetOf_14 l adK adV dC dI cy ad B (by omega) (by omega) qr s1   v145_6 (show 0 ≤ v145_6.toInt by omega) (show v145_6.toInt ≤ 12 by omega) w12 H.size hT ) (cwV 2 hC.2.2.2.2 gX12_reaches_X12_streetOf rfl rfl rfl (by decide +kernel) ⟨Nat.le_of_ble_eq_true rfl, Nat.le_of_ble_eq_true rfl⟩) rfl hl.1 rfl (Nat.le_of_ble_eq_true rfl) dX12_reaches_228 (fun r303 w305 H locs hp304 hw => ?_)
                      obtain ⟨rfl, hg310⟩ := hp304
                      obtain ⟨g307, g308, c309⟩ := hg310
                      obtain rfl : r292 = r303 := c298.symm.trans c309
                      refine lv_iadd hx hb dX12_reaches_231 ?_
                      refine lv_topi (fun x311 ex311 => ?_)
                      have ex311 : x311.toInt = r270.toInt + r292.toInt := by rw [ex311]; exact wk_add (show (-2147483648) ≤ r270.toInt + r292.toInt by omega) (show r270.toInt + r292.toInt ≤ 2147483647 by omega)
                      refine lv_aload_n hx hb dX12_reaches_232 rfl (lv_at hl 2 rfl) ?_
                      refine tk_getA hC hK hw hT hinX12 kM_at0 (by decide) rfl 35 (by decide) (List.mem_of_getElem? (i := 1) rfl) rfl rfl dX12_reaches_233 ?_
                      refine lv_iload hx hb dX12_reaches_236 (lv_at hl 0 rfl) ?_
                      refine tk_iald hC hK hw hT kM_at18 rfl rfl (show 0 ≤ r280.toInt by omega) (show r280.toInt < 10 by omega) dX12_reaches_238 (fun x312 c313 rx312 tx312 => ?_)
                      refine lv_icmp_ge (tgt := 259) hx hb dX12_reaches_239 (by decide) (fun c314 => ?_) (fun c314 => ?_)
                      · have c314 : x312.toInt ≤ x311.toInt := wk_le.mp c314
                        have gb315 : 0 ≤ sumG 19 10 w12 ∧ sumG 19 10 w12 ≤ 10 := hT.sum (lo := 0) (hi := 1) kM_at19 rfl (by decide) rfl
                        exact J259 x49 H locs ls w12 (show 0 ≤ a1.toInt by omega) (show a1.toInt ≤ 9 by omega) (show 0 ≤ a2.toInt by omega) (show a2.toInt ≤ 9 by omega) (show 0 ≤ a3.toInt by omega) (show a3.toInt ≤ 99999 by omega) (show 2000 ≤ a4.toInt by omega) (show a4.toInt ≤ 101999 by omega) (show 0 ≤ v145_5.toInt by omega) (show v145_5.toInt ≤ 9 by omega) (show 0 ≤ v145_6.toInt by omega) (show v145_6.toInt ≤ 12 by omega) (show 0 ≤ f145_12_0.toInt by omega) (show f145_12_0.toInt ≤ 10 by omega) (show 1 ≤ x49.toInt by omega) (show x49.toInt ≤ 13 by omega) (show (sumG 19 10 w1) + 1 ≤ (sumG 19 10 w12) by omega)  hw hT hF c27 c50 (lv_sub hl [2, 3, 4, 5, 6, 7, 8] rfl)
                      · have c314 : x311.toInt < x312.toInt := wk_leF c314
                        refine lv_aload_n hx hb dX12_reaches_242 rfl (lv_at hl 2 rfl) ?_
                        refine tk_getA hC hK hw hT hinX12 kM_at0 (by decide) rfl 35 (by decide) (List.mem_of_getElem? (i := 1) rfl) rfl rfl dX12_reaches_243 ?_
                        refine lv_iload hx hb dX12_reaches_246 (lv_at hl 0 rfl) ?_
                        refine lv_iload hx hb dX12_reaches_248 (lv_at hl 1 rfl) ?_
                        refine lv_aload_n hx hb dX12_reaches_250 rfl (lv_at hl 2 rfl) ?_
                        refine lv_iload hx hb dX12_reaches_251 (lv_at hl 8 rfl) ?_
                        refine lv_iconst (v := 2) hx hb dX12_reaches_253 (by decide) ?_
                        refine tk_Vi hC hK hw hT hA hE hSR kM_at0 (by decide) rfl (k_X12_streetOf_14 l adK adV dC dI cy ad B (by omega) (by omega) qr s1   v145_6 (show 0 ≤ v145_6.toInt by omega) (show v145_6.toInt ≤ 12 by omega) w12 H.size hT ) (cwV 2 hC.2.2.2.2 gX12_reaches_X12_streetOf rfl rfl rfl (by decide +kernel) ⟨Nat.le_of_ble_eq_true rfl, Nat.le_of_ble_eq_true rfl⟩) rfl hl.1 rfl (Nat.le_of_ble_eq_true rfl) dX12_reaches_254 (fun r316 w318 H locs hp317 hw => ?_)
                        obtain ⟨rfl, hg323⟩ := hp317
                        obtain ⟨g320, g321, c322⟩ := hg323
                        obtain rfl : r292 = r316 := c298.symm.trans c322
                        refine lv_iadd hx hb dX12_reaches_257 ?_
                        refine lv_topi (fun x324 ex324 => ?_)
                        have ex324 : x324.toInt = r270.toInt + r292.toInt := by rw [ex324]; exact wk_add (show (-2147483648) ≤ r270.toInt + r292.toInt by omega) (show r270.toInt + r292.toInt ≤ 2147483647 by omega)
                        refine tk_iast hC hK hw hT kM_at18 (by decide) rfl rfl (show 0 ≤ r280.toInt by omega) (show r280.toInt < 10 by omega) (show 0 ≤ x324.toInt by omega) (show x324.toInt ≤ 100000100 by omega) dX12_reaches_258 (fun H locs w325 hw hT k327 c326 => ?_)
                        have gs328 : sumG 19 10 w325 = sumG 19 10 w12 := sumG_ne 10 k327 (tk_ne kM_at19 kM_at18 (by decide))
                        have hF := hF.put kM_at18 (inE_of (a := 0) (b := 10) (by decide) (show 0 ≤ r280.toInt.toNat by omega) (show r280.toInt.toNat ≤ 10 by omega)) k327
                        have c329 := k327.gi (Or.inl (tk_ne kM_at12 kM_at18 (by decide))) c27
                        have c330 := k327.gi (Or.inl (tk_ne kM_at12 kM_at18 (by decide))) c50
                        have c331 := k327.gi (Or.inl (tk_ne kM_at12 kM_at18 (by decide))) c60
                        have c332 := k327.gi (Or.inl (tk_ne kM_at12 kM_at18 (by decide))) c298
                        have gb333 : 0 ≤ sumG 19 10 w325 ∧ sumG 19 10 w325 ≤ 10 := hT.sum (lo := 0) (hi := 1) kM_at19 rfl (by decide) rfl
                        exact J259 x49 H locs ls w325 (show 0 ≤ a1.toInt by omega) (show a1.toInt ≤ 9 by omega) (show 0 ≤ a2.toInt by omega) (show a2.toInt ≤ 9 by omega) (show 0 ≤ a3.toInt by omega) (show a3.toInt ≤ 99999 by omega) (show 2000 ≤ a4.toInt by omega) (show a4.toInt ≤ 101999 by omega) (show 0 ≤ v145_5.toInt by omega) (show v145_5.toInt ≤ 9 by omega) (show 0 ≤ v145_6.toInt by omega) (show v145_6.toInt ≤ 12 by omega) (show 0 ≤ f145_12_0.toInt by omega) (show f145_12_0.toInt ≤ 10 by omega) (show 1 ≤ x49.toInt by omega) (show x49.toInt ≤ 13 by omega) (show (sumG 19 10 w1) + 1 ≤ (sumG 19 10 w325) by omega)  hw hT hF c329 c330 (lv_sub hl [2, 3, 4, 5, 6, 7, 8] rfl)
                · refine lv_istore (lv' := [(8, .int r280), (7, .int r270), (0, .ref (ad 0)), (1, .int a1), (2, .int a2), (3, .int a3), (4, .int a4), (5, .int v145_5), (6, .int v145_6)]) hx hb dX12_reaches_197 hl (by decide) rfl (fun ls hl => ?_)
                  refine lv_iload hx hb dX12_reaches_199 (lv_at hl 1 rfl) ?_
                  refine lv_ldcw (v := 100000000) hx hb hC.2.2.2.1 (hC.2.2.2.2 _ (List.mem_of_getElem? (i := 2) rfl)) dX12_reaches_201 ?_
                  refine lv_icmp_ge (tgt := 259) hx hb dX12_reaches_204 (by decide) (fun c334 => ?_) (fun c334 => ?_)
                  · have c334 : (100000000 : Int) ≤ r270.toInt := wk_le.mp c334
                    have gb335 : 0 ≤ sumG 19 10 w12 ∧ sumG 19 10 w12 ≤ 10 := hT.sum (lo := 0) (hi := 1) kM_at19 rfl (by decide) rfl
                    exact J259 x49 H locs ls w12 (show 0 ≤ a1.toInt by omega) (show a1.toInt ≤ 9 by omega) (show 0 ≤ a2.toInt by omega) (show a2.toInt ≤ 9 by omega) (show 0 ≤ a3.toInt by omega) (show a3.toInt ≤ 99999 by omega) (show 2000 ≤ a4.toInt by omega) (show a4.toInt ≤ 101999 by omega) (show 0 ≤ v145_5.toInt by omega) (show v145_5.toInt ≤ 9 by omega) (show 0 ≤ v145_6.toInt by omega) (show v145_6.toInt ≤ 12 by omega) (show 0 ≤ f145_12_0.toInt by omega) (show f145_12_0.toInt ≤ 10 by omega) (show 1 ≤ x49.toInt by omega) (show x49.toInt ≤ 13 by omega) (show (sumG 19 10 w1) + 1 ≤ (sumG 19 10 w12) by omega)  hw hT hF c27 c50 (lv_sub hl [2, 3, 4, 5, 6, 7, 8] rfl)
                  · have c334 : r270.toInt < (100000000 : Int) := wk_leF c334
                    refine lv_iload hx hb dX12_reaches_207 (lv_at hl 1 rfl) ?_
                    refine lv_aload_n hx hb dX12_reaches_209 rfl (lv_at hl 2 rfl) ?_
                    refine lv_iload hx hb dX12_reaches_210 (lv_at hl 8 rfl) ?_
                    refine lv_iconst (v := 2) hx hb dX12_reaches_212 (by decide) ?_
                    refine tk_Vi hC hK hw hT hA hE hSR kM_at0 (by decide) rfl (k_X12_streetOf_14 l adK adV dC dI cy ad B (by omega) (by omega) qr s1   v145_6 (show 0 ≤ v145_6.toInt by omega) (show v145_6.toInt ≤ 12 by omega) w12 H.size hT ) (cwV 2 hC.2.2.2.2 gX12_reaches_X12_streetOf rfl rfl rfl (by decide +kernel) ⟨Nat.le_of_ble_eq_true rfl, Nat.le_of_ble_eq_true rfl⟩) rfl hl.1 rfl (Nat.le_of_ble_eq_true rfl) dX12_reaches_213 (fun r336 w338 H locs hp337 hw => ?_)
                    obtain ⟨rfl, hg343⟩ := hp337
                    obtain ⟨g340, g341, c342⟩ := hg343
                    refine lv_iadd hx hb dX12_reaches_216 ?_
                    refine lv_topi (fun x344 ex344 => ?_)
                    have ex344 : x344.toInt = r270.toInt + r336.toInt := by rw [ex344]; exact wk_add (show (-2147483648) ≤ r270.toInt + r336.toInt by omega) (show r270.toInt + r336.toInt ≤ 2147483647 by omega)
                    refine lv_iload hx hb dX12_reaches_217 (lv_at hl 6 rfl) ?_
                    refine lv_icmp_gt (tgt := 259) hx hb dX12_reaches_219 (by decide) (fun c345 => ?_) (fun c345 => ?_)
                    · have c345 : a4.toInt < x344.toInt := wk_lt.mp c345
                      have gb346 : 0 ≤ sumG 19 10 w12 ∧ sumG 19 10 w12 ≤ 10 := hT.sum (lo := 0) (hi := 1) kM_at19 rfl (by decide) rfl
                      exact J259 x49 H locs ls w12 (show 0 ≤ a1.toInt by omega) (show a1.toInt ≤ 9 by omega) (show 0 ≤ a2.toInt by omega) (show a2.toInt ≤ 9 by omega) (show 0 ≤ a3.toInt by omega) (show a3.toInt ≤ 99999 by omega) (show 2000 ≤ a4.toInt by omega) (show a4.toInt ≤ 101999 by omega) (show 0 ≤ v145_5.toInt by omega) (show v145_5.toInt ≤ 9 by omega) (show 0 ≤ v145_6.toInt by omega) (show v145_6.toInt ≤ 12 by omega) (show 0 ≤ f145_12_0.toInt by omega) (show f145_12_0.toInt ≤ 10 by omega) (show 1 ≤ x49.toInt by omega) (show x49.toInt ≤ 13 by omega) (show (sumG 19 10 w1) + 1 ≤ (sumG 19 10 w12) by omega)  hw hT hF c27 c50 (lv_sub hl [2, 3, 4, 5, 6, 7, 8] rfl)
                    · have c345 : x344.toInt ≤ a4.toInt := wk_ltF c345
                      refine lv_iload hx hb dX12_reaches_222 (lv_at hl 1 rfl) ?_
                      refine lv_aload_n hx hb dX12_reaches_224 rfl (lv_at hl 2 rfl) ?_
                      refine lv_iload hx hb dX12_reaches_225 (lv_at hl 8 rfl) ?_
                      refine lv_iconst (v := 2) hx hb dX12_reaches_227 (by decide) ?_
                      refine tk_Vi hC hK hw hT hA hE hSR kM_at0 (by decide) rfl (k_X12_streetOf_14 l adK adV dC dI cy ad B (by omega) (by omega) qr s1   v145_6 (show 0 ≤ v145_6.toInt by omega) (show v145_6.toInt ≤ 12 by omega) w12 H.size hT ) (cwV 2 hC.2.2.2.2 gX12_reaches_X12_streetOf rfl rfl rfl (by decide +kernel) ⟨Nat.le_of_ble_eq_true rfl, Nat.le_of_ble_eq_true rfl⟩) rfl hl.1 rfl (Nat.le_of_ble_eq_true rfl) dX12_reaches_228 (fun r347 w349 H locs hp348 hw => ?_)
                      obtain ⟨rfl, hg354⟩ := hp348
                      obtain ⟨g351, g352, c353⟩ := hg354
                      obtain rfl : r336 = r347 := c342.symm.trans c353
                      refine lv_iadd hx hb dX12_reaches_231 ?_
                      refine lv_topi (fun x355 ex355 => ?_)
                      have ex355 : x355.toInt = r270.toInt + r336.toInt := by rw [ex355]; exact wk_add (show (-2147483648) ≤ r270.toInt + r336.toInt by omega) (show r270.toInt + r336.toInt ≤ 2147483647 by omega)
                      refine lv_aload_n hx hb dX12_reaches_232 rfl (lv_at hl 2 rfl) ?_
                      refine tk_getA hC hK hw hT hinX12 kM_at0 (by decide) rfl 35 (by decide) (List.mem_of_getElem? (i := 1) rfl) rfl rfl dX12_reaches_233 ?_
                      refine lv_iload hx hb dX12_reaches_236 (lv_at hl 0 rfl) ?_
                      refine tk_iald hC hK hw hT kM_at18 rfl rfl (show 0 ≤ r280.toInt by omega) (show r280.toInt < 10 by omega) dX12_reaches_238 (fun x356 c357 rx356 tx356 => ?_)
                      refine lv_icmp_ge (tgt := 259) hx hb dX12_reaches_239 (by decide) (fun c358 => ?_) (fun c358 => ?_)
                      · have c358 : x356.toInt ≤ x355.toInt := wk_le.mp c358
                        have gb359 : 0 ≤ sumG 19 10 w12 ∧ sumG 19 10 w12 ≤ 10 := hT.sum (lo := 0) (hi := 1) kM_at19 rfl (by decide) rfl
                        exact J259 x49 H locs ls w12 (show 0 ≤ a1.toInt by omega) (show a1.toInt ≤ 9 by omega) (show 0 ≤ a2.toInt by omega) (show a2.toInt ≤ 9 by omega) (show 0 ≤ a3.toInt by omega) (show a3.toInt ≤ 99999 by omega) (show 2000 ≤ a4.toInt by omega) (show a4.toInt ≤ 101999 by omega) (show 0 ≤ v145_5.toInt by omega) (show v145_5.toInt ≤ 9 by omega) (show 0 ≤ v145_6.toInt by omega) (show v145_6.toInt ≤ 12 by omega) (show 0 ≤ f145_12_0.toInt by omega) (show f145_12_0.toInt ≤ 10 by omega) (show 1 ≤ x49.toInt by omega) (show x49.toInt ≤ 13 by omega) (show (sumG 19 10 w1) + 1 ≤ (sumG 19 10 w12) by omega)  hw hT hF c27 c50 (lv_sub hl [2, 3, 4, 5, 6, 7, 8] rfl)
                      · have c358 : x355.toInt < x356.toInt := wk_leF c358
                        refine lv_aload_n hx hb dX12_reaches_242 rfl (lv_at hl 2 rfl) ?_
                        refine tk_getA hC hK hw hT hinX12 kM_at0 (by decide) rfl 35 (by decide) (List.mem_of_getElem? (i := 1) rfl) rfl rfl dX12_reaches_243 ?_
                        refine lv_iload hx hb dX12_reaches_246 (lv_at hl 0 rfl) ?_
                        refine lv_iload hx hb dX12_reaches_248 (lv_at hl 1 rfl) ?_
                        refine lv_aload_n hx hb dX12_reaches_250 rfl (lv_at hl 2 rfl) ?_
                        refine lv_iload hx hb dX12_reaches_251 (lv_at hl 8 rfl) ?_
                        refine lv_iconst (v := 2) hx hb dX12_reaches_253 (by decide) ?_
                        refine tk_Vi hC hK hw hT hA hE hSR kM_at0 (by decide) rfl (k_X12_streetOf_14 l adK adV dC dI cy ad B (by omega) (by omega) qr s1   v145_6 (show 0 ≤ v145_6.toInt by omega) (show v145_6.toInt ≤ 12 by omega) w12 H.size hT ) (cwV 2 hC.2.2.2.2 gX12_reaches_X12_streetOf rfl rfl rfl (by decide +kernel) ⟨Nat.le_of_ble_eq_true rfl, Nat.le_of_ble_eq_true rfl⟩) rfl hl.1 rfl (Nat.le_of_ble_eq_true rfl) dX12_reaches_254 (fun r360 w362 H locs hp361 hw => ?_)
                        obtain ⟨rfl, hg367⟩ := hp361
                        obtain ⟨g364, g365, c366⟩ := hg367
                        obtain rfl : r336 = r360 := c342.symm.trans c366
                        refine lv_iadd hx hb dX12_reaches_257 ?_
                        refine lv_topi (fun x368 ex368 => ?_)
                        have ex368 : x368.toInt = r270.toInt + r336.toInt := by rw [ex368]; exact wk_add (show (-2147483648) ≤ r270.toInt + r336.toInt by omega) (show r270.toInt + r336.toInt ≤ 2147483647 by omega)
                        refine tk_iast hC hK hw hT kM_at18 (by decide) rfl rfl (show 0 ≤ r280.toInt by omega) (show r280.toInt < 10 by omega) (show 0 ≤ x368.toInt by omega) (show x368.toInt ≤ 100000100 by omega) dX12_reaches_258 (fun H locs w369 hw hT k371 c370 => ?_)
                        have gs372 : sumG 19 10 w369 = sumG 19 10 w12 := sumG_ne 10 k371 (tk_ne kM_at19 kM_at18 (by decide))
                        have hF := hF.put kM_at18 (inE_of (a := 0) (b := 10) (by decide) (show 0 ≤ r280.toInt.toNat by omega) (show r280.toInt.toNat ≤ 10 by omega)) k371
                        have c373 := k371.gi (Or.inl (tk_ne kM_at12 kM_at18 (by decide))) c27
                        have c374 := k371.gi (Or.inl (tk_ne kM_at12 kM_at18 (by decide))) c50
                        have c375 := k371.gi (Or.inl (tk_ne kM_at12 kM_at18 (by decide))) c60
                        have c376 := k371.gi (Or.inl (tk_ne kM_at12 kM_at18 (by decide))) c288
                        have c377 := k371.gi (Or.inl (tk_ne kM_at12 kM_at18 (by decide))) c342
                        have gb378 : 0 ≤ sumG 19 10 w369 ∧ sumG 19 10 w369 ≤ 10 := hT.sum (lo := 0) (hi := 1) kM_at19 rfl (by decide) rfl
                        exact J259 x49 H locs ls w369 (show 0 ≤ a1.toInt by omega) (show a1.toInt ≤ 9 by omega) (show 0 ≤ a2.toInt by omega) (show a2.toInt ≤ 9 by omega) (show 0 ≤ a3.toInt by omega) (show a3.toInt ≤ 99999 by omega) (show 2000 ≤ a4.toInt by omega) (show a4.toInt ≤ 101999 by omega) (show 0 ≤ v145_5.toInt by omega) (show v145_5.toInt ≤ 9 by omega) (show 0 ≤ v145_6.toInt by omega) (show v145_6.toInt ≤ 12 by omega) (show 0 ≤ f145_12_0.toInt by omega) (show f145_12_0.toInt ≤ 10 by omega) (show 1 ≤ x49.toInt by omega) (show x49.toInt ≤ 13 by omega) (show (sumG 19 10 w1) + 1 ≤ (sumG 19 10 w369) by omega)  hw hT hF c373 c374 (lv_sub hl [2, 3, 4, 5, 6, 7, 8] rfl)
              · refine lv_istore (lv' := [(7, .int r270), (0, .ref (ad 0)), (1, .int a1), (2, .int a2), (3, .int a3), (4, .int a4), (5, .int v145_5), (6, .int v145_6)]) hx hb dX12_reaches_187 hl (by decide) rfl (fun ls hl => ?_)
                refine lv_aload_n hx hb dX12_reaches_189 rfl (lv_at hl 1 rfl) ?_
                refine lv_iload hx hb dX12_reaches_190 (lv_at hl 7 rfl) ?_
                refine lv_iload hx hb dX12_reaches_192 (lv_at hl 6 rfl) ?_
                refine tk_Vi hC hK hw hT hA hE hSR kM_at0 (by decide) rfl (k_X12_otherOf_3 l adK adV dC dI cy ad B (by omega) (by omega) qr s1   v145_6 (show 0 ≤ v145_6.toInt by omega) (show v145_6.toInt ≤ 12 by omega) v145_5 (show 0 ≤ v145_5.toInt by omega) (show v145_5.toInt ≤ 9 by omega) w12 H.size hT ) (cwV 2 hC.2.2.2.2 gX12_reaches_X12_otherOf rfl rfl rfl (by decide +kernel) ⟨Nat.le_of_ble_eq_true rfl, Nat.le_of_ble_eq_true rfl⟩) rfl hl.1 rfl (Nat.le_of_ble_eq_true rfl) dX12_reaches_194 (fun r379 w381 H locs hp380 hw => ?_)
                obtain ⟨rfl, hg388⟩ := hp380
                rcases hg388 with ⟨g383, g384⟩ | ⟨g385, g386, c387⟩
                · refine lv_istore (lv' := [(8, .int r379), (7, .int r270), (0, .ref (ad 0)), (1, .int a1), (2, .int a2), (3, .int a3), (4, .int a4), (5, .int v145_5), (6, .int v145_6)]) hx hb dX12_reaches_197 hl (by decide) rfl (fun ls hl => ?_)
                  refine lv_iload hx hb dX12_reaches_199 (lv_at hl 1 rfl) ?_
                  refine lv_ldcw (v := 100000000) hx hb hC.2.2.2.1 (hC.2.2.2.2 _ (List.mem_of_getElem? (i := 2) rfl)) dX12_reaches_201 ?_
                  refine lv_icmp_ge (tgt := 259) hx hb dX12_reaches_204 (by decide) (fun c => absurd c (fun h => absurd (show (100000000 : Int) ≤ r270.toInt from wk_le.mp h) (by omega))) (fun _ => ?_)
                  refine lv_iload hx hb dX12_reaches_207 (lv_at hl 1 rfl) ?_
                  refine lv_aload_n hx hb dX12_reaches_209 rfl (lv_at hl 2 rfl) ?_
                  refine lv_iload hx hb dX12_reaches_210 (lv_at hl 8 rfl) ?_
                  refine lv_iconst (v := 2) hx hb dX12_reaches_212 (by decide) ?_
                  refine tk_Vi hC hK hw hT hA hE hSR kM_at0 (by decide) rfl (k_X12_streetOf_14 l adK adV dC dI cy ad B (by omega) (by omega) qr s1   v145_6 (show 0 ≤ v145_6.toInt by omega) (show v145_6.toInt ≤ 12 by omega) w12 H.size hT ) (cwV 2 hC.2.2.2.2 gX12_reaches_X12_streetOf rfl rfl rfl (by decide +kernel) ⟨Nat.le_of_ble_eq_true rfl, Nat.le_of_ble_eq_true rfl⟩) rfl hl.1 rfl (Nat.le_of_ble_eq_true rfl) dX12_reaches_213 (fun r389 w391 H locs hp390 hw => ?_)
                  obtain ⟨rfl, hg396⟩ := hp390
                  obtain ⟨g393, g394, c395⟩ := hg396
                  refine lv_iadd hx hb dX12_reaches_216 ?_
                  refine lv_topi (fun x397 ex397 => ?_)
                  have ex397 : x397.toInt = r270.toInt + r389.toInt := by rw [ex397]; exact wk_add (show (-2147483648) ≤ r270.toInt + r389.toInt by omega) (show r270.toInt + r389.toInt ≤ 2147483647 by omega)
                  refine lv_iload hx hb dX12_reaches_217 (lv_at hl 6 rfl) ?_
                  refine lv_icmp_gt (tgt := 259) hx hb dX12_reaches_219 (by decide) (fun c398 => ?_) (fun c398 => ?_)
                  · have c398 : a4.toInt < x397.toInt := wk_lt.mp c398
                    have gb399 : 0 ≤ sumG 19 10 w12 ∧ sumG 19 10 w12 ≤ 10 := hT.sum (lo := 0) (hi := 1) kM_at19 rfl (by decide) rfl
                    exact J259 x49 H locs ls w12 (show 0 ≤ a1.toInt by omega) (show a1.toInt ≤ 9 by omega) (show 0 ≤ a2.toInt by omega) (show a2.toInt ≤ 9 by omega) (show 0 ≤ a3.toInt by omega) (show a3.toInt ≤ 99999 by omega) (show 2000 ≤ a4.toInt by omega) (show a4.toInt ≤ 101999 by omega) (show 0 ≤ v145_5.toInt by omega) (show v145_5.toInt ≤ 9 by omega) (show 0 ≤ v145_6.toInt by omega) (show v145_6.toInt ≤ 12 by omega) (show 0 ≤ f145_12_0.toInt by omega) (show f145_12_0.toInt ≤ 10 by omega) (show 1 ≤ x49.toInt by omega) (show x49.toInt ≤ 13 by omega) (show (sumG 19 10 w1) + 1 ≤ (sumG 19 10 w12) by omega)  hw hT hF c27 c50 (lv_sub hl [2, 3, 4, 5, 6, 7, 8] rfl)
                  · have c398 : x397.toInt ≤ a4.toInt := wk_ltF c398
                    refine lv_iload hx hb dX12_reaches_222 (lv_at hl 1 rfl) ?_
                    refine lv_aload_n hx hb dX12_reaches_224 rfl (lv_at hl 2 rfl) ?_
                    refine lv_iload hx hb dX12_reaches_225 (lv_at hl 8 rfl) ?_
                    refine lv_iconst (v := 2) hx hb dX12_reaches_227 (by decide) ?_
                    refine tk_Vi hC hK hw hT hA hE hSR kM_at0 (by decide) rfl (k_X12_streetOf_14 l adK adV dC dI cy ad B (by omega) (by omega) qr s1   v145_6 (show 0 ≤ v145_6.toInt by omega) (show v145_6.toInt ≤ 12 by omega) w12 H.size hT ) (cwV 2 hC.2.2.2.2 gX12_reaches_X12_streetOf rfl rfl rfl (by decide +kernel) ⟨Nat.le_of_ble_eq_true rfl, Nat.le_of_ble_eq_true rfl⟩) rfl hl.1 rfl (Nat.le_of_ble_eq_true rfl) dX12_reaches_228 (fun r400 w402 H locs hp401 hw => ?_)
                    obtain ⟨rfl, hg407⟩ := hp401
                    obtain ⟨g404, g405, c406⟩ := hg407
                    obtain rfl : r389 = r400 := c395.symm.trans c406
                    refine lv_iadd hx hb dX12_reaches_231 ?_
                    refine lv_topi (fun x408 ex408 => ?_)
                    have ex408 : x408.toInt = r270.toInt + r389.toInt := by rw [ex408]; exact wk_add (show (-2147483648) ≤ r270.toInt + r389.toInt by omega) (show r270.toInt + r389.toInt ≤ 2147483647 by omega)
                    refine lv_aload_n hx hb dX12_reaches_232 rfl (lv_at hl 2 rfl) ?_
                    refine tk_getA hC hK hw hT hinX12 kM_at0 (by decide) rfl 35 (by decide) (List.mem_of_getElem? (i := 1) rfl) rfl rfl dX12_reaches_233 ?_
                    refine lv_iload hx hb dX12_reaches_236 (lv_at hl 0 rfl) ?_
                    refine tk_iald hC hK hw hT kM_at18 rfl rfl (show 0 ≤ r379.toInt by omega) (show r379.toInt < 10 by omega) dX12_reaches_238 (fun x409 c410 rx409 tx409 => ?_)
                    refine lv_icmp_ge (tgt := 259) hx hb dX12_reaches_239 (by decide) (fun c411 => ?_) (fun c411 => ?_)
                    · have c411 : x409.toInt ≤ x408.toInt := wk_le.mp c411
                      have gb412 : 0 ≤ sumG 19 10 w12 ∧ sumG 19 10 w12 ≤ 10 := hT.sum (lo := 0) (hi := 1) kM_at19 rfl (by decide) rfl
                      exact J259 x49 H locs ls w12 (show 0 ≤ a1.toInt by omega) (show a1.toInt ≤ 9 by omega) (show 0 ≤ a2.toInt by omega) (show a2.toInt ≤ 9 by omega) (show 0 ≤ a3.toInt by omega) (show a3.toInt ≤ 99999 by omega) (show 2000 ≤ a4.toInt by omega) (show a4.toInt ≤ 101999 by omega) (show 0 ≤ v145_5.toInt by omega) (show v145_5.toInt ≤ 9 by omega) (show 0 ≤ v145_6.toInt by omega) (show v145_6.toInt ≤ 12 by omega) (show 0 ≤ f145_12_0.toInt by omega) (show f145_12_0.toInt ≤ 10 by omega) (show 1 ≤ x49.toInt by omega) (show x49.toInt ≤ 13 by omega) (show (sumG 19 10 w1) + 1 ≤ (sumG 19 10 w12) by omega)  hw hT hF c27 c50 (lv_sub hl [2, 3, 4, 5, 6, 7, 8] rfl)
                    · have c411 : x408.toInt < x409.toInt := wk_leF c411
                      refine lv_aload_n hx hb dX12_reaches_242 rfl (lv_at hl 2 rfl) ?_
                      refine tk_getA hC hK hw hT hinX12 kM_at0 (by decide) rfl 35 (by decide) (List.mem_of_getElem? (i := 1) rfl) rfl rfl dX12_reaches_243 ?_
                      refine lv_iload hx hb dX12_reaches_246 (lv_at hl 0 rfl) ?_
                      refine lv_iload hx hb dX12_reaches_248 (lv_at hl 1 rfl) ?_
                      refine lv_aload_n hx hb dX12_reaches_250 rfl (lv_at hl 2 rfl) ?_
                      refine lv_iload hx hb dX12_reaches_251 (lv_at hl 8 rfl) ?_
                      refine lv_iconst (v := 2) hx hb dX12_reaches_253 (by decide) ?_
                      refine tk_Vi hC hK hw hT hA hE hSR kM_at0 (by decide) rfl (k_X12_streetOf_14 l adK adV dC dI cy ad B (by omega) (by omega) qr s1   v145_6 (show 0 ≤ v145_6.toInt by omega) (show v145_6.toInt ≤ 12 by omega) w12 H.size hT ) (cwV 2 hC.2.2.2.2 gX12_reaches_X12_streetOf rfl rfl rfl (by decide +kernel) ⟨Nat.le_of_ble_eq_true rfl, Nat.le_of_ble_eq_true rfl⟩) rfl hl.1 rfl (Nat.le_of_ble_eq_true rfl) dX12_reaches_254 (fun r413 w415 H locs hp414 hw => ?_)
                      obtain ⟨rfl, hg420⟩ := hp414
                      obtain ⟨g417, g418, c419⟩ := hg420
                      obtain rfl : r389 = r413 := c395.symm.trans c419
                      refine lv_iadd hx hb dX12_reaches_257 ?_
                      refine lv_topi (fun x421 ex421 => ?_)
                      have ex421 : x421.toInt = r270.toInt + r389.toInt := by rw [ex421]; exact wk_add (show (-2147483648) ≤ r270.toInt + r389.toInt by omega) (show r270.toInt + r389.toInt ≤ 2147483647 by omega)
                      refine tk_iast hC hK hw hT kM_at18 (by decide) rfl rfl (show 0 ≤ r379.toInt by omega) (show r379.toInt < 10 by omega) (show 0 ≤ x421.toInt by omega) (show x421.toInt ≤ 100000100 by omega) dX12_reaches_258 (fun H locs w422 hw hT k424 c423 => ?_)
                      have gs425 : sumG 19 10 w422 = sumG 19 10 w12 := sumG_ne 10 k424 (tk_ne kM_at19 kM_at18 (by decide))
                      have hF := hF.put kM_at18 (inE_of (a := 0) (b := 10) (by decide) (show 0 ≤ r379.toInt.toNat by omega) (show r379.toInt.toNat ≤ 10 by omega)) k424
                      have c426 := k424.gi (Or.inl (tk_ne kM_at12 kM_at18 (by decide))) c27
                      have c427 := k424.gi (Or.inl (tk_ne kM_at12 kM_at18 (by decide))) c50
                      have c428 := k424.gi (Or.inl (tk_ne kM_at12 kM_at18 (by decide))) c60
                      have c429 := k424.gi (Or.inl (tk_ne kM_at12 kM_at18 (by decide))) c278
                      have c430 := k424.gi (Or.inl (tk_ne kM_at12 kM_at18 (by decide))) c395
                      have gb431 : 0 ≤ sumG 19 10 w422 ∧ sumG 19 10 w422 ≤ 10 := hT.sum (lo := 0) (hi := 1) kM_at19 rfl (by decide) rfl
                      exact J259 x49 H locs ls w422 (show 0 ≤ a1.toInt by omega) (show a1.toInt ≤ 9 by omega) (show 0 ≤ a2.toInt by omega) (show a2.toInt ≤ 9 by omega) (show 0 ≤ a3.toInt by omega) (show a3.toInt ≤ 99999 by omega) (show 2000 ≤ a4.toInt by omega) (show a4.toInt ≤ 101999 by omega) (show 0 ≤ v145_5.toInt by omega) (show v145_5.toInt ≤ 9 by omega) (show 0 ≤ v145_6.toInt by omega) (show v145_6.toInt ≤ 12 by omega) (show 0 ≤ f145_12_0.toInt by omega) (show f145_12_0.toInt ≤ 10 by omega) (show 1 ≤ x49.toInt by omega) (show x49.toInt ≤ 13 by omega) (show (sumG 19 10 w1) + 1 ≤ (sumG 19 10 w422) by omega)  hw hT hF c426 c427 (lv_sub hl [2, 3, 4, 5, 6, 7, 8] rfl)
                · refine lv_istore (lv' := [(8, .int r379), (7, .int r270), (0, .ref (ad 0)), (1, .int a1), (2, .int a2), (3, .int a3), (4, .int a4), (5, .int v145_5), (6, .int v145_6)]) hx hb dX12_reaches_197 hl (by decide) rfl (fun ls hl => ?_)
                  refine lv_iload hx hb dX12_reaches_199 (lv_at hl 1 rfl) ?_
                  refine lv_ldcw (v := 100000000) hx hb hC.2.2.2.1 (hC.2.2.2.2 _ (List.mem_of_getElem? (i := 2) rfl)) dX12_reaches_201 ?_
                  refine lv_icmp_ge (tgt := 259) hx hb dX12_reaches_204 (by decide) (fun c => absurd c (fun h => absurd (show (100000000 : Int) ≤ r270.toInt from wk_le.mp h) (by omega))) (fun _ => ?_)
                  refine lv_iload hx hb dX12_reaches_207 (lv_at hl 1 rfl) ?_
                  refine lv_aload_n hx hb dX12_reaches_209 rfl (lv_at hl 2 rfl) ?_
                  refine lv_iload hx hb dX12_reaches_210 (lv_at hl 8 rfl) ?_
                  refine lv_iconst (v := 2) hx hb dX12_reaches_212 (by decide) ?_
                  refine tk_Vi hC hK hw hT hA hE hSR kM_at0 (by decide) rfl (k_X12_streetOf_14 l adK adV dC dI cy ad B (by omega) (by omega) qr s1   v145_6 (show 0 ≤ v145_6.toInt by omega) (show v145_6.toInt ≤ 12 by omega) w12 H.size hT ) (cwV 2 hC.2.2.2.2 gX12_reaches_X12_streetOf rfl rfl rfl (by decide +kernel) ⟨Nat.le_of_ble_eq_true rfl, Nat.le_of_ble_eq_true rfl⟩) rfl hl.1 rfl (Nat.le_of_ble_eq_true rfl) dX12_reaches_213 (fun r432 w434 H locs hp433 hw => ?_)
                  obtain ⟨rfl, hg439⟩ := hp433
                  obtain ⟨g436, g437, c438⟩ := hg439
                  refine lv_iadd hx hb dX12_reaches_216 ?_
                  refine lv_topi (fun x440 ex440 => ?_)
                  have ex440 : x440.toInt = r270.toInt + r432.toInt := by rw [ex440]; exact wk_add (show (-2147483648) ≤ r270.toInt + r432.toInt by omega) (show r270.toInt + r432.toInt ≤ 2147483647 by omega)
                  refine lv_iload hx hb dX12_reaches_217 (lv_at hl 6 rfl) ?_
                  refine lv_icmp_gt (tgt := 259) hx hb dX12_reaches_219 (by decide) (fun c441 => ?_) (fun c441 => ?_)
                  · have c441 : a4.toInt < x440.toInt := wk_lt.mp c441
                    have gb442 : 0 ≤ sumG 19 10 w12 ∧ sumG 19 10 w12 ≤ 10 := hT.sum (lo := 0) (hi := 1) kM_at19 rfl (by decide) rfl
                    exact J259 x49 H locs ls w12 (show 0 ≤ a1.toInt by omega) (show a1.toInt ≤ 9 by omega) (show 0 ≤ a2.toInt by omega) (show a2.toInt ≤ 9 by omega) (show 0 ≤ a3.toInt by omega) (show a3.toInt ≤ 99999 by omega) (show 2000 ≤ a4.toInt by omega) (show a4.toInt ≤ 101999 by omega) (show 0 ≤ v145_5.toInt by omega) (show v145_5.toInt ≤ 9 by omega) (show 0 ≤ v145_6.toInt by omega) (show v145_6.toInt ≤ 12 by omega) (show 0 ≤ f145_12_0.toInt by omega) (show f145_12_0.toInt ≤ 10 by omega) (show 1 ≤ x49.toInt by omega) (show x49.toInt ≤ 13 by omega) (show (sumG 19 10 w1) + 1 ≤ (sumG 19 10 w12) by omega)  hw hT hF c27 c50 (lv_sub hl [2, 3, 4, 5, 6, 7, 8] rfl)
                  · have c441 : x440.toInt ≤ a4.toInt := wk_ltF c441
                    refine lv_iload hx hb dX12_reaches_222 (lv_at hl 1 rfl) ?_
                    refine lv_aload_n hx hb dX12_reaches_224 rfl (lv_at hl 2 rfl) ?_
                    refine lv_iload hx hb dX12_reaches_225 (lv_at hl 8 rfl) ?_
                    refine lv_iconst (v := 2) hx hb dX12_reaches_227 (by decide) ?_
                    refine tk_Vi hC hK hw hT hA hE hSR kM_at0 (by decide) rfl (k_X12_streetOf_14 l adK adV dC dI cy ad B (by omega) (by omega) qr s1   v145_6 (show 0 ≤ v145_6.toInt by omega) (show v145_6.toInt ≤ 12 by omega) w12 H.size hT ) (cwV 2 hC.2.2.2.2 gX12_reaches_X12_streetOf rfl rfl rfl (by decide +kernel) ⟨Nat.le_of_ble_eq_true rfl, Nat.le_of_ble_eq_true rfl⟩) rfl hl.1 rfl (Nat.le_of_ble_eq_true rfl) dX12_reaches_228 (fun r443 w445 H locs hp444 hw => ?_)
                    obtain ⟨rfl, hg450⟩ := hp444
                    obtain ⟨g447, g448, c449⟩ := hg450
                    obtain rfl : r432 = r443 := c438.symm.trans c449
                    refine lv_iadd hx hb dX12_reaches_231 ?_
                    refine lv_topi (fun x451 ex451 => ?_)
                    have ex451 : x451.toInt = r270.toInt + r432.toInt := by rw [ex451]; exact wk_add (show (-2147483648) ≤ r270.toInt + r432.toInt by omega) (show r270.toInt + r432.toInt ≤ 2147483647 by omega)
                    refine lv_aload_n hx hb dX12_reaches_232 rfl (lv_at hl 2 rfl) ?_
                    refine tk_getA hC hK hw hT hinX12 kM_at0 (by decide) rfl 35 (by decide) (List.mem_of_getElem? (i := 1) rfl) rfl rfl dX12_reaches_233 ?_
                    refine lv_iload hx hb dX12_reaches_236 (lv_at hl 0 rfl) ?_
                    refine tk_iald hC hK hw hT kM_at18 rfl rfl (show 0 ≤ r379.toInt by omega) (show r379.toInt < 10 by omega) dX12_reaches_238 (fun x452 c453 rx452 tx452 => ?_)
                    refine lv_icmp_ge (tgt := 259) hx hb dX12_reaches_239 (by decide) (fun c454 => ?_) (fun c454 => ?_)
                    · have c454 : x452.toInt ≤ x451.toInt := wk_le.mp c454
                      have gb455 : 0 ≤ sumG 19 10 w12 ∧ sumG 19 10 w12 ≤ 10 := hT.sum (lo := 0) (hi := 1) kM_at19 rfl (by decide) rfl
                      exact J259 x49 H locs ls w12 (show 0 ≤ a1.toInt by omega) (show a1.toInt ≤ 9 by omega) (show 0 ≤ a2.toInt by omega) (show a2.toInt ≤ 9 by omega) (show 0 ≤ a3.toInt by omega) (show a3.toInt ≤ 99999 by omega) (show 2000 ≤ a4.toInt by omega) (show a4.toInt ≤ 101999 by omega) (show 0 ≤ v145_5.toInt by omega) (show v145_5.toInt ≤ 9 by omega) (show 0 ≤ v145_6.toInt by omega) (show v145_6.toInt ≤ 12 by omega) (show 0 ≤ f145_12_0.toInt by omega) (show f145_12_0.toInt ≤ 10 by omega) (show 1 ≤ x49.toInt by omega) (show x49.toInt ≤ 13 by omega) (show (sumG 19 10 w1) + 1 ≤ (sumG 19 10 w12) by omega)  hw hT hF c27 c50 (lv_sub hl [2, 3, 4, 5, 6, 7, 8] rfl)
                    · have c454 : x451.toInt < x452.toInt := wk_leF c454
                      refine lv_aload_n hx hb dX12_reaches_242 rfl (lv_at hl 2 rfl) ?_
                      refine tk_getA hC hK hw hT hinX12 kM_at0 (by decide) rfl 35 (by decide) (List.mem_of_getElem? (i := 1) rfl) rfl rfl dX12_reaches_243 ?_
                      refine lv_iload hx hb dX12_reaches_246 (lv_at hl 0 rfl) ?_
                      refine lv_iload hx hb dX12_reaches_248 (lv_at hl 1 rfl) ?_
                      refine lv_aload_n hx hb dX12_reaches_250 rfl (lv_at hl 2 rfl) ?_
                      refine lv_iload hx hb dX12_reaches_251 (lv_at hl 8 rfl) ?_
                      refine lv_iconst (v := 2) hx hb dX12_reaches_253 (by decide) ?_
                      refine tk_Vi hC hK hw hT hA hE hSR kM_at0 (by decide) rfl (k_X12_streetOf_14 l adK adV dC dI cy ad B (by omega) (by omega) qr s1   v145_6 (show 0 ≤ v145_6.toInt by omega) (show v145_6.toInt ≤ 12 by omega) w12 H.size hT ) (cwV 2 hC.2.2.2.2 gX12_reaches_X12_streetOf rfl rfl rfl (by decide +kernel) ⟨Nat.le_of_ble_eq_true rfl, Nat.le_of_ble_eq_true rfl⟩) rfl hl.1 rfl (Nat.le_of_ble_eq_true rfl) dX12_reaches_254 (fun r456 w458 H locs hp457 hw => ?_)
                      obtain ⟨rfl, hg463⟩ := hp457
                      obtain ⟨g460, g461, c462⟩ := hg463
                      obtain rfl : r432 = r456 := c438.symm.trans c462
                      refine lv_iadd hx hb dX12_reaches_257 ?_
                      refine lv_topi (fun x464 ex464 => ?_)
                      have ex464 : x464.toInt = r270.toInt + r432.toInt := by rw [ex464]; exact wk_add (show (-2147483648) ≤ r270.toInt + r432.toInt by omega) (show r270.toInt + r432.toInt ≤ 2147483647 by omega)
                      refine tk_iast hC hK hw hT kM_at18 (by decide) rfl rfl (show 0 ≤ r379.toInt by omega) (show r379.toInt < 10 by omega) (show 0 ≤ x464.toInt by omega) (show x464.toInt ≤ 100000100 by omega) dX12_reaches_258 (fun H locs w465 hw hT k467 c466 => ?_)
                      have gs468 : sumG 19 10 w465 = sumG 19 10 w12 := sumG_ne 10 k467 (tk_ne kM_at19 kM_at18 (by decide))
                      have hF := hF.put kM_at18 (inE_of (a := 0) (b := 10) (by decide) (show 0 ≤ r379.toInt.toNat by omega) (show r379.toInt.toNat ≤ 10 by omega)) k467
                      have c469 := k467.gi (Or.inl (tk_ne kM_at12 kM_at18 (by decide))) c27
                      have c470 := k467.gi (Or.inl (tk_ne kM_at12 kM_at18 (by decide))) c50
                      have c471 := k467.gi (Or.inl (tk_ne kM_at12 kM_at18 (by decide))) c60
                      have c472 := k467.gi (Or.inl (tk_ne kM_at12 kM_at18 (by decide))) c278
                      have c473 := k467.gi (Or.inl (tk_ne kM_at12 kM_at18 (by decide))) c438
                      have gb474 : 0 ≤ sumG 19 10 w465 ∧ sumG 19 10 w465 ≤ 10 := hT.sum (lo := 0) (hi := 1) kM_at19 rfl (by decide) rfl
                      exact J259 x49 H locs ls w465 (show 0 ≤ a1.toInt by omega) (show a1.toInt ≤ 9 by omega) (show 0 ≤ a2.toInt by omega) (show a2.toInt ≤ 9 by omega) (show 0 ≤ a3.toInt by omega) (show a3.toInt ≤ 99999 by omega) (show 2000 ≤ a4.toInt by omega) (show a4.toInt ≤ 101999 by omega) (show 0 ≤ v145_5.toInt by omega) (show v145_5.toInt ≤ 9 by omega) (show 0 ≤ v145_6.toInt by omega) (show v145_6.toInt ≤ 12 by omega) (show 0 ≤ f145_12_0.toInt by omega) (show f145_12_0.toInt ≤ 10 by omega) (show 1 ≤ x49.toInt by omega) (show x49.toInt ≤ 13 by omega) (show (sumG 19 10 w1) + 1 ≤ (sumG 19 10 w465) by omega)  hw hT hF c469 c470 (lv_sub hl [2, 3, 4, 5, 6, 7, 8] rfl)
      have L59 : ∀ (n59 : Nat) (v59_5 : Int32) (v59_6 : Int32) (H : Heap) (locs : List Loc) (ls : Array Slot) (w475 : va_W), 0 ≤ a1.toInt → a1.toInt ≤ 9 → 0 ≤ a2.toInt → a2.toInt ≤ 9 → 0 ≤ a3.toInt → a3.toInt ≤ 99999 → 2000 ≤ a4.toInt → a4.toInt ≤ 101999 → (-1) ≤ v59_5.toInt → v59_5.toInt ≤ 9 → 0 ≤ v59_6.toInt → v59_6.toInt ≤ 10 → ((sumG 19 10 w475) ≤ (sumG 19 10 w1)) → ((sumG 19 10 w1) ≤ (sumG 19 10 w475)) → ((v59_5.toInt = -1 ∨ (gi w475 19 (v59_5.toInt).toNat).toInt = 0)) → (10 - v59_6.toInt).toNat < n59 → Wd dC dI A s.heap H locs w475 → TW ksM ad cy B qr 13 w475 → FE ksM [(77, 0, 10), (78, 0, 10)] w0 w475 → gi w475 19 (a2.toInt).toNat = 0 → lv_has ls 9 [(0, .ref (ad 0)), (1, .int a1), (2, .int a2), (3, .int a3), (4, .int a4), (5, .int v59_5), (6, .int v59_6)] → W p l e ({ frames := 5, cells := 0, slots := 0, locals := 105 }) s m (List.toArray [.ref (ad 0), .int a1, .int a2, .int a3, .int a4]) below meth c H locs 0 0 (MQ below (va_Qi (P_X12_reaches_3 ad cy B qr s1 a1 a2 a3 a4 w0) (fun u : va_W => wpost dC dI cy A u) A) (List.toArray [.ref (ad 0), .int a1, .int a2, .int a3, .int a4]) s 0 0 A) (F0 m 59 ls []) := by
        intro n59
        induction n59 with
        | zero => intro v59_5 v59_6 H locs ls w475 r476 t477 r478 t479 r480 t481 r482 t483 r484 t485 r486 t487 hcr59_0 hcr59_1 hcr59_2 hm59 hw hT hF c488 hl; omega
        | succ n59 ih59 =>
          intro v59_5 v59_6 H locs ls w475 r476 t477 r478 t479 r480 t481 r482 t483 r484 t485 r486 t487 hcr59_0 hcr59_1 hcr59_2 hm59 hw hT hF c488 hl
          have J119 : ∀ (v119_5 : Int32) (f119_12_0 : Int32) (f119_19__v59_6_toInt_toNat : Int32) (H : Heap) (locs : List Loc) (ls : Array Slot) (w489 : va_W), 0 ≤ a1.toInt → a1.toInt ≤ 9 → 0 ≤ a2.toInt → a2.toInt ≤ 9 → 0 ≤ a3.toInt → a3.toInt ≤ 99999 → 2000 ≤ a4.toInt → a4.toInt ≤ 101999 → (-1) ≤ v119_5.toInt → v119_5.toInt ≤ 9 → 0 ≤ v59_6.toInt → v59_6.toInt ≤ 9 → 1 ≤ f119_12_0.toInt → f119_12_0.toInt ≤ 10 → 0 ≤ f119_19__v59_6_toInt_toNat.toInt → f119_19__v59_6_toInt_toNat.toInt ≤ 1 → ((sumG 19 10 w489) ≤ (sumG 19 10 w1)) → ((sumG 19 10 w1) ≤ (sumG 19 10 w489)) → ((v119_5.toInt = -1 ∨ (gi w489 19 (v119_5.toInt).toNat).toInt = 0)) → Wd dC dI A s.heap H locs w489 → TW ksM ad cy B qr 13 w489 → FE ksM [(77, 0, 10), (78, 0, 10)] w0 w489 → gi w489 12 0 = f119_12_0 → gi w489 19 (a2.toInt).toNat = 0 → gi w489 19 (v59_6.toInt).toNat = f119_19__v59_6_toInt_toNat → lv_has ls 9 [(0, .ref (ad 0)), (1, .int a1), (2, .int a2), (3, .int a3), (4, .int a4), (5, .int v119_5), (6, .int v59_6)] → W p l e ({ frames := 5, cells := 0, slots := 0, locals := 105 }) s m (List.toArray [.ref (ad 0), .int a1, .int a2, .int a3, .int a4]) below meth c H locs 0 0 (MQ below (va_Qi (P_X12_reaches_3 ad cy B qr s1 a1 a2 a3 a4 w0) (fun u : va_W => wpost dC dI cy A u) A) (List.toArray [.ref (ad 0), .int a1, .int a2, .int a3, .int a4]) s 0 0 A) (F0 m 119 ls []) := by
            intro v119_5 f119_12_0 f119_19__v59_6_toInt_toNat H locs ls w489 r490 t491 r492 t493 r494 t495 r496 t497 r498 t499 r500 t501 r502 t503 r506 t507 hcr119_0 hcr119_1 hcr119_2 hw hT hF c504 c505 c508 hl
            obtain ⟨x509, ex509⟩ : ∃ y : Int32, y = v59_6 + Int32.ofInt 1 := ⟨_, rfl⟩
            refine lv_iinc (v := x509) (lv' := [(6, .int x509), (0, .ref (ad 0)), (1, .int a1), (2, .int a2), (3, .int a3), (4, .int a4), (5, .int v119_5)]) hx hb dX12_reaches_119 hl (k := 6) rfl ex509.symm (by decide) rfl (fun ls hl => ?_)
            have ex509 : x509.toInt = v59_6.toInt + 1 := by rw [ex509]; exact wk_add (y := 1) (show -2147483648 ≤ v59_6.toInt + 1 by omega) (show v59_6.toInt + 1 ≤ 2147483647 by omega)
            refine lv_goto (tgt := 59) hx hb dX12_reaches_122 (by decide) ?_
            have gb510 : 0 ≤ sumG 19 10 w489 ∧ sumG 19 10 w489 ≤ 10 := hT.sum (lo := 0) (hi := 1) kM_at19 rfl (by decide) rfl
            exact ih59 v119_5 x509 H locs ls w489 (show 0 ≤ a1.toInt by omega) (show a1.toInt ≤ 9 by omega) (show 0 ≤ a2.toInt by omega) (show a2.toInt ≤ 9 by omega) (show 0 ≤ a3.toInt by omega) (show a3.toInt ≤ 99999 by omega) (show 2000 ≤ a4.toInt by omega) (show a4.toInt ≤ 101999 by omega) (show (-1) ≤ v119_5.toInt by omega) (show v119_5.toInt ≤ 9 by omega) (show 0 ≤ x509.toInt by omega) (show x509.toInt ≤ 10 by omega) (show (sumG 19 10 w489) ≤ (sumG 19 10 w1) by omega) (show (sumG 19 10 w1) ≤ (sumG 19 10 w489) by omega) (show (v119_5.toInt = -1 ∨ (gi w489 19 (v119_5.toInt).toNat).toInt = 0) by first | omega | assumption | (left; omega) | (left; decide) | (right; assumption) | (right; rw [c505]; omega) | (right; rw [c505]; decide) | (right; rw [c508]; omega) | (right; rw [c508]; decide) | (right; rcases hcr59_2 with hx1 | hx1 <;> first | exact hx1 | (rw [← hx1]; exact (congrArg Int32.toInt ((hF.gi kM_at19 rfl rfl).symm.trans c505)).trans (by omega))) | (right; rcases hcr59_2 with hx1 | hx1 <;> first | exact hx1 | (rw [← hx1]; exact (congrArg Int32.toInt ((hF.gi kM_at19 rfl rfl).symm.trans c508)).trans (by omega)))) (show (10 - x509.toInt).toNat < n59 by omega) hw hT hF c505 (lv_sub hl [1, 2, 3, 4, 5, 6, 0] rfl)
          have J115 : ∀ (f115_12_0 : Int32) (H : Heap) (locs : List Loc) (ls : Array Slot) (w511 : va_W), 0 ≤ a1.toInt → a1.toInt ≤ 9 → 0 ≤ a2.toInt → a2.toInt ≤ 9 → 0 ≤ a3.toInt → a3.toInt ≤ 99999 → 2000 ≤ a4.toInt → a4.toInt ≤ 101999 → (-1) ≤ v59_5.toInt → v59_5.toInt ≤ 9 → 0 ≤ v59_6.toInt → v59_6.toInt ≤ 9 → 1 ≤ f115_12_0.toInt → f115_12_0.toInt ≤ 10 → ((sumG 19 10 w511) ≤ (sumG 19 10 w1)) → ((sumG 19 10 w1) ≤ (sumG 19 10 w511)) → ((v59_5.toInt = -1 ∨ (gi w511 19 (v59_5.toInt).toNat).toInt = 0)) → Wd dC dI A s.heap H locs w511 → TW ksM ad cy B qr 13 w511 → FE ksM [(77, 0, 10), (78, 0, 10)] w0 w511 → gi w511 12 0 = f115_12_0 → gi w511 19 (a2.toInt).toNat = 0 → gi w511 19 (v59_6.toInt).toNat = 0 → lv_has ls 9 [(0, .ref (ad 0)), (1, .int a1), (2, .int a2), (3, .int a3), (4, .int a4), (5, .int v59_5), (6, .int v59_6)] → W p l e ({ frames := 5, cells := 0, slots := 0, locals := 105 }) s m (List.toArray [.ref (ad 0), .int a1, .int a2, .int a3, .int a4]) below meth c H locs 0 0 (MQ below (va_Qi (P_X12_reaches_3 ad cy B qr s1 a1 a2 a3 a4 w0) (fun u : va_W => wpost dC dI cy A u) A) (List.toArray [.ref (ad 0), .int a1, .int a2, .int a3, .int a4]) s 0 0 A) (F0 m 115 ls []) := by
            intro f115_12_0 H locs ls w511 r512 t513 r514 t515 r516 t517 r518 t519 r520 t521 r522 t523 r524 t525 hcr115_0 hcr115_1 hcr115_2 hw hT hF c526 c527 c528 hl
            refine lv_iload hx hb dX12_reaches_115 (lv_at hl 6 rfl) ?_
            refine lv_istore (lv' := [(5, .int v59_6), (0, .ref (ad 0)), (1, .int a1), (2, .int a2), (3, .int a3), (4, .int a4), (6, .int v59_6)]) hx hb dX12_reaches_117 hl (by decide) rfl (fun ls hl => ?_)
            have gb529 : 0 ≤ sumG 19 10 w511 ∧ sumG 19 10 w511 ≤ 10 := hT.sum (lo := 0) (hi := 1) kM_at19 rfl (by decide) rfl
            exact J119 v59_6 f115_12_0 0 H locs ls w511 (show 0 ≤ a1.toInt by omega) (show a1.toInt ≤ 9 by omega) (show 0 ≤ a2.toInt by omega) (show a2.toInt ≤ 9 by omega) (show 0 ≤ a3.toInt by omega) (show a3.toInt ≤ 99999 by omega) (show 2000 ≤ a4.toInt by omega) (show a4.toInt ≤ 101999 by omega) (show (-1) ≤ v59_6.toInt by omega) (show v59_6.toInt ≤ 9 by omega) (show 0 ≤ v59_6.toInt by omega) (show v59_6.toInt ≤ 9 by omega) (show 1 ≤ f115_12_0.toInt by omega) (show f115_12_0.toInt ≤ 10 by omega) (by decide) (by decide) (show (sumG 19 10 w511) ≤ (sumG 19 10 w1) by omega) (show (sumG 19 10 w1) ≤ (sumG 19 10 w511) by omega) (show (v59_6.toInt = -1 ∨ (gi w511 19 (v59_6.toInt).toNat).toInt = 0) by first | omega | assumption | (left; omega) | (left; decide) | (right; assumption) | (right; rw [c527]; omega) | (right; rw [c527]; decide) | (right; rw [c528]; omega) | (right; rw [c528]; decide))  hw hT hF c526 c527 c528 (lv_sub hl [1, 2, 3, 4, 5, 0, 6] rfl)
          refine lv_iload hx hb dX12_reaches_59 (lv_at hl 6 rfl) ?_
          refine lv_aload_n hx hb dX12_reaches_61 rfl (lv_at hl 0 rfl) ?_
          refine tk_getA hC hK hw hT hinX12 kM_at0 (by decide) rfl 26 (by decide) (List.mem_of_getElem? (i := 4) rfl) rfl rfl dX12_reaches_62 ?_
          refine lv_iconst (v := 0) hx hb dX12_reaches_65 (by decide) ?_
          refine tk_ialdR hC hK hw hT kM_at12 rfl (by decide) (by decide) dX12_reaches_66 (fun x530 c531 Ex530 => ?_)
          have bx530 := tk_rgI rfl 0 1 1 0 10 (by decide +kernel) ⟨0, by decide, by decide⟩ Ex530
          have c531 : gi w475 12 0 = x530 := c531
          refine lv_icmp_ge (tgt := 125) hx hb dX12_reaches_67 (by decide) (fun c532 => ?_) (fun c532 => ?_)
          · have c532 : x530.toInt ≤ v59_6.toInt := wk_le.mp c532
            refine lv_iload hx hb dX12_reaches_125 (lv_at hl 5 rfl) ?_
            refine lv_if_ge (tgt := 134) hx hb dX12_reaches_127 (by decide) (fun c533 => ?_) (fun c533 => ?_)
            · have c533 : (0 : Int) ≤ v59_5.toInt := wk_le.mp c533
              refine lv_aload_n hx hb dX12_reaches_134 rfl (lv_at hl 0 rfl) ?_
              refine tk_getA hC hK hw hT hinX12 kM_at0 (by decide) rfl 36 (by decide) (List.mem_of_getElem? (i := 3) rfl) rfl rfl dX12_reaches_135 ?_
              refine lv_iload hx hb dX12_reaches_138 (lv_at hl 5 rfl) ?_
              refine lv_iconst (v := 1) hx hb dX12_reaches_140 (by decide) ?_
              refine tk_zast hC hK hw hT kM_at19 (by decide) rfl rfl (show 0 ≤ v59_5.toInt by omega) (show v59_5.toInt < 10 by omega) (by decide) (by decide) dX12_reaches_141 (fun H locs w534 hw hT k536 c535 => ?_)
              have gs537 : sumG 19 10 w534 = sumG 19 10 w475 - (gi w475 19 (v59_5.toInt.toNat)).toInt + (gi w534 19 (v59_5.toInt.toNat)).toInt := sumG_up (i := v59_5.toInt.toNat) k536 10 (show v59_5.toInt.toNat < 10 by omega)
              rw [show gi w534 19 (v59_5.toInt.toNat) = 1 from c535] at gs537
              rw [show (1 : Int32).toInt = 1 by decide] at gs537
              have hF := hF.put kM_at19 (inE_of (a := 0) (b := 10) (by decide) (show 0 ≤ v59_5.toInt.toNat by omega) (show v59_5.toInt.toNat ≤ 10 by omega)) k536
              have c538 := k536.gi (Or.inl (tk_ne kM_at12 kM_at19 (by decide))) c531
              refine lv_iconst (v := 0) hx hb dX12_reaches_142 (by decide) ?_
              refine lv_istore (lv' := [(6, .int 0), (0, .ref (ad 0)), (1, .int a1), (2, .int a2), (3, .int a3), (4, .int a4), (5, .int v59_5)]) hx hb dX12_reaches_143 hl (by decide) rfl (fun ls hl => ?_)
              have gb539 : 0 ≤ sumG 19 10 w534 ∧ sumG 19 10 w534 ≤ 10 := hT.sum (lo := 0) (hi := 1) kM_at19 rfl (by decide) rfl
              exact L145 ((13 - (0 : Int)).toNat + 1) v59_5 0 x530 H locs ls w534 (show 0 ≤ a1.toInt by omega) (show a1.toInt ≤ 9 by omega) (show 0 ≤ a2.toInt by omega) (show a2.toInt ≤ 9 by omega) (show 0 ≤ a3.toInt by omega) (show a3.toInt ≤ 99999 by omega) (show 2000 ≤ a4.toInt by omega) (show a4.toInt ≤ 101999 by omega) (show 0 ≤ v59_5.toInt by omega) (show v59_5.toInt ≤ 9 by omega) (by decide) (by decide) (show 0 ≤ x530.toInt by omega) (show x530.toInt ≤ 10 by omega) (show (sumG 19 10 w1) + 1 ≤ (sumG 19 10 w534) by omega) (Nat.lt_succ_self _) hw hT hF c538 (lv_sub hl [1, 2, 3, 4, 5, 6, 0] rfl)
            · have c533 : v59_5.toInt < (0 : Int) := wk_leF c533
              refine lv_ldcw (v := 100000000) hx hb hC.2.2.2.1 (hC.2.2.2.2 _ (List.mem_of_getElem? (i := 2) rfl)) dX12_reaches_130 ?_
              exact tk_iret hC hr hlocks hK ⟨hT, hF, ⟨(by decide), (by decide)⟩⟩ hw dX12_reaches_133
          · have c532 : v59_6.toInt < x530.toInt := wk_leF c532
            refine lv_aload_n hx hb dX12_reaches_70 rfl (lv_at hl 0 rfl) ?_
            refine tk_getA hC hK hw hT hinX12 kM_at0 (by decide) rfl 36 (by decide) (List.mem_of_getElem? (i := 3) rfl) rfl rfl dX12_reaches_71 ?_
            refine lv_iload hx hb dX12_reaches_74 (lv_at hl 6 rfl) ?_
            refine tk_zald hC hK hw hT kM_at19 rfl rfl (show 0 ≤ v59_6.toInt by omega) (show v59_6.toInt < 10 by omega) dX12_reaches_76 (fun x540 c541 rx540 tx540 => ?_)
            have c541 : gi w475 19 (v59_6.toInt).toNat = x540 := (congrArg (gi w475 19) (congrArg Int.toNat (show v59_6.toInt = v59_6.toInt by omega))).trans c541
            refine lv_if_ne (tgt := 119) hx hb dX12_reaches_77 (by decide) (fun c542 => ?_) (fun c542 => ?_)
            · have c542 : ¬ x540.toInt = (0 : Int) := wk_eqF c542
              have gb543 : 0 ≤ sumG 19 10 w475 ∧ sumG 19 10 w475 ≤ 10 := hT.sum (lo := 0) (hi := 1) kM_at19 rfl (by decide) rfl
              exact J119 v59_5 x530 x540 H locs ls w475 (show 0 ≤ a1.toInt by omega) (show a1.toInt ≤ 9 by omega) (show 0 ≤ a2.toInt by omega) (show a2.toInt ≤ 9 by omega) (show 0 ≤ a3.toInt by omega) (show a3.toInt ≤ 99999 by omega) (show 2000 ≤ a4.toInt by omega) (show a4.toInt ≤ 101999 by omega) (show (-1) ≤ v59_5.toInt by omega) (show v59_5.toInt ≤ 9 by omega) (show 0 ≤ v59_6.toInt by omega) (show v59_6.toInt ≤ 9 by omega) (show 1 ≤ x530.toInt by omega) (show x530.toInt ≤ 10 by omega) (show 0 ≤ x540.toInt by omega) (show x540.toInt ≤ 1 by omega) (show (sumG 19 10 w475) ≤ (sumG 19 10 w1) by omega) (show (sumG 19 10 w1) ≤ (sumG 19 10 w475) by omega) (show (v59_5.toInt = -1 ∨ (gi w475 19 (v59_5.toInt).toNat).toInt = 0) by first | omega | assumption | (left; omega) | (left; decide) | (right; assumption) | (right; rw [c488]; omega) | (right; rw [c488]; decide) | (right; rw [c541]; omega) | (right; rw [c541]; decide))  hw hT hF c531 c488 c541 (lv_sub hl [0, 1, 2, 3, 4, 5, 6] rfl)
            · have c542 : x540.toInt = (0 : Int) := wk_eq.mp c542
              refine lv_aload_n hx hb dX12_reaches_80 rfl (lv_at hl 0 rfl) ?_
              refine tk_getA hC hK hw hT hinX12 kM_at0 (by decide) rfl 35 (by decide) (List.mem_of_getElem? (i := 1) rfl) rfl rfl dX12_reaches_81 ?_
              refine lv_iload hx hb dX12_reaches_84 (lv_at hl 6 rfl) ?_
              refine tk_iald hC hK hw hT kM_at18 rfl rfl (show 0 ≤ v59_6.toInt by omega) (show v59_6.toInt < 10 by omega) dX12_reaches_86 (fun x544 c545 rx544 tx544 => ?_)
              refine lv_ldcw (v := 100000000) hx hb hC.2.2.2.1 (hC.2.2.2.2 _ (List.mem_of_getElem? (i := 2) rfl)) dX12_reaches_87 ?_
              refine lv_icmp_ge (tgt := 119) hx hb dX12_reaches_90 (by decide) (fun c546 => ?_) (fun c546 => ?_)
              · have c546 : (100000000 : Int) ≤ x544.toInt := wk_le.mp c546
                have gb547 : 0 ≤ sumG 19 10 w475 ∧ sumG 19 10 w475 ≤ 10 := hT.sum (lo := 0) (hi := 1) kM_at19 rfl (by decide) rfl
                exact J119 v59_5 x530 x540 H locs ls w475 (show 0 ≤ a1.toInt by omega) (show a1.toInt ≤ 9 by omega) (show 0 ≤ a2.toInt by omega) (show a2.toInt ≤ 9 by omega) (show 0 ≤ a3.toInt by omega) (show a3.toInt ≤ 99999 by omega) (show 2000 ≤ a4.toInt by omega) (show a4.toInt ≤ 101999 by omega) (show (-1) ≤ v59_5.toInt by omega) (show v59_5.toInt ≤ 9 by omega) (show 0 ≤ v59_6.toInt by omega) (show v59_6.toInt ≤ 9 by omega) (show 1 ≤ x530.toInt by omega) (show x530.toInt ≤ 10 by omega) (show 0 ≤ x540.toInt by omega) (show x540.toInt ≤ 1 by omega) (show (sumG 19 10 w475) ≤ (sumG 19 10 w1) by omega) (show (sumG 19 10 w1) ≤ (sumG 19 10 w475) by omega) (show (v59_5.toInt = -1 ∨ (gi w475 19 (v59_5.toInt).toNat).toInt = 0) by first | omega | assumption | (left; omega) | (left; decide) | (right; assumption) | (right; rw [c488]; omega) | (right; rw [c488]; decide) | (right; rw [c541]; omega) | (right; rw [c541]; decide))  hw hT hF c531 c488 c541 (lv_sub hl [0, 1, 2, 3, 4, 5, 6] rfl)
              · have c546 : x544.toInt < (100000000 : Int) := wk_leF c546
                refine lv_iload hx hb dX12_reaches_93 (lv_at hl 5 rfl) ?_
                refine lv_if_lt (tgt := 115) hx hb dX12_reaches_95 (by decide) (fun c548 => ?_) (fun c548 => ?_)
                · have c548 : v59_5.toInt < (0 : Int) := wk_lt.mp c548
                  have gb549 : 0 ≤ sumG 19 10 w475 ∧ sumG 19 10 w475 ≤ 10 := hT.sum (lo := 0) (hi := 1) kM_at19 rfl (by decide) rfl
                  obtain rfl : x540 = 0 := wk_eq.mpr (show x540.toInt = 0 by omega)
                  exact J115 x530 H locs ls w475 (show 0 ≤ a1.toInt by omega) (show a1.toInt ≤ 9 by omega) (show 0 ≤ a2.toInt by omega) (show a2.toInt ≤ 9 by omega) (show 0 ≤ a3.toInt by omega) (show a3.toInt ≤ 99999 by omega) (show 2000 ≤ a4.toInt by omega) (show a4.toInt ≤ 101999 by omega) (show (-1) ≤ v59_5.toInt by omega) (show v59_5.toInt ≤ 9 by omega) (show 0 ≤ v59_6.toInt by omega) (show v59_6.toInt ≤ 9 by omega) (show 1 ≤ x530.toInt by omega) (show x530.toInt ≤ 10 by omega) (show (sumG 19 10 w475) ≤ (sumG 19 10 w1) by omega) (show (sumG 19 10 w1) ≤ (sumG 19 10 w475) by omega) (show (v59_5.toInt = -1 ∨ (gi w475 19 (v59_5.toInt).toNat).toInt = 0) by first | omega | assumption | (left; omega) | (left; decide) | (right; assumption) | (right; rw [c488]; omega) | (right; rw [c488]; decide) | (right; rw [c541]; omega) | (right; rw [c541]; decide))  hw hT hF c531 c488 c541 (lv_sub hl [0, 1, 2, 3, 4, 5, 6] rfl)
                · have c548 : (0 : Int) ≤ v59_5.toInt := wk_ltF c548
                  refine lv_aload_n hx hb dX12_reaches_98 rfl (lv_at hl 0 rfl) ?_
                  refine tk_getA hC hK hw hT hinX12 kM_at0 (by decide) rfl 35 (by decide) (List.mem_of_getElem? (i := 1) rfl) rfl rfl dX12_reaches_99 ?_
                  refine lv_iload hx hb dX12_reaches_102 (lv_at hl 6 rfl) ?_
                  refine tk_iald hC hK hw hT kM_at18 rfl rfl (show 0 ≤ v59_6.toInt by omega) (show v59_6.toInt < 10 by omega) dX12_reaches_104 (fun x550 c551 rx550 tx550 => ?_)
                  refine lv_aload_n hx hb dX12_reaches_105 rfl (lv_at hl 0 rfl) ?_
                  refine tk_getA hC hK hw hT hinX12 kM_at0 (by decide) rfl 35 (by decide) (List.mem_of_getElem? (i := 1) rfl) rfl rfl dX12_reaches_106 ?_
                  refine lv_iload hx hb dX12_reaches_109 (lv_at hl 5 rfl) ?_
                  refine tk_iald hC hK hw hT kM_at18 rfl rfl (show 0 ≤ v59_5.toInt by omega) (show v59_5.toInt < 10 by omega) dX12_reaches_111 (fun x552 c553 rx552 tx552 => ?_)
                  refine lv_icmp_ge (tgt := 119) hx hb dX12_reaches_112 (by decide) (fun c554 => ?_) (fun c554 => ?_)
                  · have c554 : x552.toInt ≤ x550.toInt := wk_le.mp c554
                    have gb555 : 0 ≤ sumG 19 10 w475 ∧ sumG 19 10 w475 ≤ 10 := hT.sum (lo := 0) (hi := 1) kM_at19 rfl (by decide) rfl
                    exact J119 v59_5 x530 x540 H locs ls w475 (show 0 ≤ a1.toInt by omega) (show a1.toInt ≤ 9 by omega) (show 0 ≤ a2.toInt by omega) (show a2.toInt ≤ 9 by omega) (show 0 ≤ a3.toInt by omega) (show a3.toInt ≤ 99999 by omega) (show 2000 ≤ a4.toInt by omega) (show a4.toInt ≤ 101999 by omega) (show (-1) ≤ v59_5.toInt by omega) (show v59_5.toInt ≤ 9 by omega) (show 0 ≤ v59_6.toInt by omega) (show v59_6.toInt ≤ 9 by omega) (show 1 ≤ x530.toInt by omega) (show x530.toInt ≤ 10 by omega) (show 0 ≤ x540.toInt by omega) (show x540.toInt ≤ 1 by omega) (show (sumG 19 10 w475) ≤ (sumG 19 10 w1) by omega) (show (sumG 19 10 w1) ≤ (sumG 19 10 w475) by omega) (show (v59_5.toInt = -1 ∨ (gi w475 19 (v59_5.toInt).toNat).toInt = 0) by first | omega | assumption | (left; omega) | (left; decide) | (right; assumption) | (right; rw [c488]; omega) | (right; rw [c488]; decide) | (right; rw [c541]; omega) | (right; rw [c541]; decide))  hw hT hF c531 c488 c541 (lv_sub hl [0, 1, 2, 3, 4, 5, 6] rfl)
                  · have c554 : x550.toInt < x552.toInt := wk_leF c554
                    have gb556 : 0 ≤ sumG 19 10 w475 ∧ sumG 19 10 w475 ≤ 10 := hT.sum (lo := 0) (hi := 1) kM_at19 rfl (by decide) rfl
                    obtain rfl : x540 = 0 := wk_eq.mpr (show x540.toInt = 0 by omega)
                    exact J115 x530 H locs ls w475 (show 0 ≤ a1.toInt by omega) (show a1.toInt ≤ 9 by omega) (show 0 ≤ a2.toInt by omega) (show a2.toInt ≤ 9 by omega) (show 0 ≤ a3.toInt by omega) (show a3.toInt ≤ 99999 by omega) (show 2000 ≤ a4.toInt by omega) (show a4.toInt ≤ 101999 by omega) (show (-1) ≤ v59_5.toInt by omega) (show v59_5.toInt ≤ 9 by omega) (show 0 ≤ v59_6.toInt by omega) (show v59_6.toInt ≤ 9 by omega) (show 1 ≤ x530.toInt by omega) (show x530.toInt ≤ 10 by omega) (show (sumG 19 10 w475) ≤ (sumG 19 10 w1) by omega) (show (sumG 19 10 w1) ≤ (sumG 19 10 w475) by omega) (show (v59_5.toInt = -1 ∨ (gi w475 19 (v59_5.toInt).toNat).toInt = 0) by first | omega | assumption | (left; omega) | (left; decide) | (right; assumption) | (right; rw [c488]; omega) | (right; rw [c488]; decide) | (right; rw [c541]; omega) | (right; rw [c541]; decide))  hw hT hF c531 c488 c541 (lv_sub hl [0, 1, 2, 3, 4, 5, 6] rfl)
      refine lv_aload_n hx hb dX12_reaches_44 rfl (lv_at hl 0 rfl) ?_
      refine tk_getA hC hK hw hT hinX12 kM_at0 (by decide) rfl 36 (by decide) (List.mem_of_getElem? (i := 3) rfl) rfl rfl dX12_reaches_45 ?_
      refine lv_iload_n hx hb dX12_reaches_48 rfl (lv_at hl 2 rfl) ?_
      refine tk_zald hC hK hw hT kM_at19 rfl rfl (show 0 ≤ a2.toInt by omega) (show a2.toInt < 10 by omega) dX12_reaches_49 (fun x557 c558 rx557 tx557 => ?_)
      have c558 : gi w1 19 (a2.toInt).toNat = x557 := (congrArg (gi w1 19) (congrArg Int.toNat (show a2.toInt = a2.toInt by omega))).trans c558
      refine lv_if_ne (tgt := 268) hx hb dX12_reaches_50 (by decide) (fun c559 => ?_) (fun c559 => ?_)
      · have c559 : ¬ x557.toInt = (0 : Int) := wk_eqF c559
        refine lv_aload_n hx hb dX12_reaches_268 rfl (lv_at hl 0 rfl) ?_
        refine tk_getA hC hK hw hT hinX12 kM_at0 (by decide) rfl 35 (by decide) (List.mem_of_getElem? (i := 1) rfl) rfl rfl dX12_reaches_269 ?_
        refine lv_iload_n hx hb dX12_reaches_272 rfl (lv_at hl 2 rfl) ?_
        refine tk_iald hC hK hw hT kM_at18 rfl rfl (show 0 ≤ a2.toInt by omega) (show a2.toInt < 10 by omega) dX12_reaches_273 (fun x560 c561 rx560 tx560 => ?_)
        exact tk_iret hC hr hlocks hK ⟨hT, hF, ⟨(show 0 ≤ x560.toInt by omega), (show x560.toInt ≤ 100000100 by omega)⟩⟩ hw dX12_reaches_274
      · have c559 : x557.toInt = (0 : Int) := wk_eq.mp c559
        refine lv_iconst (v := (-1)) hx hb dX12_reaches_53 (by decide) ?_
        refine lv_istore (lv' := [(5, .int (-1)), (0, .ref (ad 0)), (1, .int a1), (2, .int a2), (3, .int a3), (4, .int a4)]) hx hb dX12_reaches_54 hl (by decide) rfl (fun ls hl => ?_)
        refine lv_iconst (v := 0) hx hb dX12_reaches_56 (by decide) ?_
        refine lv_istore (lv' := [(6, .int 0), (5, .int (-1)), (0, .ref (ad 0)), (1, .int a1), (2, .int a2), (3, .int a3), (4, .int a4)]) hx hb dX12_reaches_57 hl (by decide) rfl (fun ls hl => ?_)
        have gb562 : 0 ≤ sumG 19 10 w1 ∧ sumG 19 10 w1 ≤ 10 := hT.sum (lo := 0) (hi := 1) kM_at19 rfl (by decide) rfl
        obtain rfl : x557 = 0 := wk_eq.mpr (show x557.toInt = 0 by omega)
        exact L59 ((10 - (0 : Int)).toNat + 1) (-1) 0 H locs ls w1 (show 0 ≤ a1.toInt by omega) (show a1.toInt ≤ 9 by omega) (show 0 ≤ a2.toInt by omega) (show a2.toInt ≤ 9 by omega) (show 0 ≤ a3.toInt by omega) (show a3.toInt ≤ 99999 by omega) (show 2000 ≤ a4.toInt by omega) (show a4.toInt ≤ 101999 by omega) (by decide) (by decide) (by decide) (by decide) (show (sumG 19 10 w1) ≤ (sumG 19 10 w1) by omega) (show (sumG 19 10 w1) ≤ (sumG 19 10 w1) by omega) (show ((-1 : Int) = -1 ∨ (gi w1 19 ((-1 : Int)).toNat).toInt = 0) by first | omega | assumption | (left; omega) | (left; decide) | (right; assumption) | (right; rw [c558]; omega) | (right; rw [c558]; decide)) (Nat.lt_succ_self _) hw hT hF c558 (lv_sub hl [2, 3, 4, 5, 6, 1, 0] rfl)
  have L3 : ∀ (n3 : Nat) (v3_5 : Int32) (H : Heap) (locs : List Loc) (ls : Array Slot) (w563 : va_W), 0 ≤ a1.toInt → a1.toInt ≤ 9 → 0 ≤ a2.toInt → a2.toInt ≤ 9 → 0 ≤ a3.toInt → a3.toInt ≤ 99999 → 2000 ≤ a4.toInt → a4.toInt ≤ 101999 → 0 ≤ v3_5.toInt → v3_5.toInt ≤ 10 → (10 - v3_5.toInt).toNat < n3 → Wd dC dI A s.heap H locs w563 → TW ksM ad cy B qr 13 w563 → FE ksM [(77, 0, 10), (78, 0, 10)] w0 w563 → lv_has ls 9 [(0, .ref (ad 0)), (1, .int a1), (2, .int a2), (3, .int a3), (4, .int a4), (5, .int v3_5)] → W p l e ({ frames := 5, cells := 0, slots := 0, locals := 105 }) s m (List.toArray [.ref (ad 0), .int a1, .int a2, .int a3, .int a4]) below meth c H locs 0 0 (MQ below (va_Qi (P_X12_reaches_3 ad cy B qr s1 a1 a2 a3 a4 w0) (fun u : va_W => wpost dC dI cy A u) A) (List.toArray [.ref (ad 0), .int a1, .int a2, .int a3, .int a4]) s 0 0 A) (F0 m 3 ls []) := by
    intro n3
    induction n3 with
    | zero => intro v3_5 H locs ls w563 r564 t565 r566 t567 r568 t569 r570 t571 r572 t573 hm3 hw hT hF hl; omega
    | succ n3 ih3 =>
      intro v3_5 H locs ls w563 r564 t565 r566 t567 r568 t569 r570 t571 r572 t573 hm3 hw hT hF hl
      refine lv_iload hx hb dX12_reaches_3 (lv_at hl 5 rfl) ?_
      refine lv_bipush (v := 10) hx hb dX12_reaches_5 (by decide) ?_
      refine lv_icmp_ge (tgt := 44) hx hb dX12_reaches_7 (by decide) (fun c574 => ?_) (fun c574 => ?_)
      · have c574 : (10 : Int) ≤ v3_5.toInt := wk_le.mp c574
        have gb575 : 0 ≤ sumG 19 10 w563 ∧ sumG 19 10 w563 ≤ 10 := hT.sum (lo := 0) (hi := 1) kM_at19 rfl (by decide) rfl
        exact L44 ((10 - (sumG 19 10 w563)).toNat + 1) v3_5 H locs ls w563 (show 0 ≤ a1.toInt by omega) (show a1.toInt ≤ 9 by omega) (show 0 ≤ a2.toInt by omega) (show a2.toInt ≤ 9 by omega) (show 0 ≤ a3.toInt by omega) (show a3.toInt ≤ 99999 by omega) (show 2000 ≤ a4.toInt by omega) (show a4.toInt ≤ 101999 by omega) (show 0 ≤ v3_5.toInt by omega) (show v3_5.toInt ≤ 10 by omega) (show 0 ≤ (sumG 19 10 w563) by omega) (Nat.lt_succ_self _) hw hT hF  (lv_sub hl [0, 1, 2, 3, 4, 5] rfl)
      · have c574 : v3_5.toInt < (10 : Int) := wk_leF c574
        refine lv_aload_n hx hb dX12_reaches_10 rfl (lv_at hl 0 rfl) ?_
        refine tk_getA hC hK hw hT hinX12 kM_at0 (by decide) rfl 35 (by decide) (List.mem_of_getElem? (i := 1) rfl) rfl rfl dX12_reaches_11 ?_
        refine lv_iload hx hb dX12_reaches_14 (lv_at hl 5 rfl) ?_
        refine lv_iload hx hb dX12_reaches_16 (lv_at hl 5 rfl) ?_
        refine lv_iload_n hx hb dX12_reaches_18 rfl (lv_at hl 1 rfl) ?_
        refine lv_icmp_ne (tgt := 26) hx hb dX12_reaches_19 (by decide) (fun c576 => ?_) (fun c576 => ?_)
        · have c576 : ¬ v3_5.toInt = a1.toInt := wk_eqF c576
          refine lv_ldcw (v := 100000000) hx hb hC.2.2.2.1 (hC.2.2.2.2 _ (List.mem_of_getElem? (i := 2) rfl)) dX12_reaches_26 ?_
          refine tk_iast hC hK hw hT kM_at18 (by decide) rfl rfl (show 0 ≤ v3_5.toInt by omega) (show v3_5.toInt < 10 by omega) (by decide) (by decide) dX12_reaches_29 (fun H locs w577 hw hT k579 c578 => ?_)
          have gs580 : sumG 19 10 w577 = sumG 19 10 w563 := sumG_ne 10 k579 (tk_ne kM_at19 kM_at18 (by decide))
          have hF := hF.put kM_at18 (inE_of (a := 0) (b := 10) (by decide) (show 0 ≤ v3_5.toInt.toNat by omega) (show v3_5.toInt.toNat ≤ 10 by omega)) k579
          refine lv_aload_n hx hb dX12_reaches_30 rfl (lv_at hl 0 rfl) ?_
          refine tk_getA hC hK hw hT hinX12 kM_at0 (by decide) rfl 36 (by decide) (List.mem_of_getElem? (i := 3) rfl) rfl rfl dX12_reaches_31 ?_
          refine lv_iload hx hb dX12_reaches_34 (lv_at hl 5 rfl) ?_
          refine lv_iconst (v := 0) hx hb dX12_reaches_36 (by decide) ?_
          refine tk_zast hC hK hw hT kM_at19 (by decide) rfl rfl (show 0 ≤ v3_5.toInt by omega) (show v3_5.toInt < 10 by omega) (by decide) (by decide) dX12_reaches_37 (fun H locs w581 hw hT k583 c582 => ?_)
          have gs584 : sumG 19 10 w581 = sumG 19 10 w577 - (gi w577 19 (v3_5.toInt.toNat)).toInt + (gi w581 19 (v3_5.toInt.toNat)).toInt := sumG_up (i := v3_5.toInt.toNat) k583 10 (show v3_5.toInt.toNat < 10 by omega)
          rw [show gi w581 19 (v3_5.toInt.toNat) = 0 from c582] at gs584
          rw [show (0 : Int32).toInt = 0 by decide] at gs584
          have hF := hF.put kM_at19 (inE_of (a := 0) (b := 10) (by decide) (show 0 ≤ v3_5.toInt.toNat by omega) (show v3_5.toInt.toNat ≤ 10 by omega)) k583
          obtain ⟨x585, ex585⟩ : ∃ y : Int32, y = v3_5 + Int32.ofInt 1 := ⟨_, rfl⟩
          refine lv_iinc (v := x585) (lv' := [(5, .int x585), (0, .ref (ad 0)), (1, .int a1), (2, .int a2), (3, .int a3), (4, .int a4)]) hx hb dX12_reaches_38 hl (k := 5) rfl ex585.symm (by decide) rfl (fun ls hl => ?_)
          have ex585 : x585.toInt = v3_5.toInt + 1 := by rw [ex585]; exact wk_add (y := 1) (show -2147483648 ≤ v3_5.toInt + 1 by omega) (show v3_5.toInt + 1 ≤ 2147483647 by omega)
          refine lv_goto (tgt := 3) hx hb dX12_reaches_41 (by decide) ?_
          exact ih3 x585 H locs ls w581 (show 0 ≤ a1.toInt by omega) (show a1.toInt ≤ 9 by omega) (show 0 ≤ a2.toInt by omega) (show a2.toInt ≤ 9 by omega) (show 0 ≤ a3.toInt by omega) (show a3.toInt ≤ 99999 by omega) (show 2000 ≤ a4.toInt by omega) (show a4.toInt ≤ 101999 by omega) (show 0 ≤ x585.toInt by omega) (show x585.toInt ≤ 10 by omega) (show (10 - x585.toInt).toNat < n3 by omega) hw hT hF  (lv_sub hl [1, 2, 3, 4, 5, 0] rfl)
        · have c576 : v3_5.toInt = a1.toInt := wk_eq.mp c576
          refine lv_iload_n hx hb dX12_reaches_22 rfl (lv_at hl 3 rfl) ?_
          refine lv_goto (tgt := 29) hx hb dX12_reaches_23 (by decide) ?_
          refine tk_iast hC hK hw hT kM_at18 (by decide) rfl rfl (show 0 ≤ v3_5.toInt by omega) (show v3_5.toInt < 10 by omega) (show 0 ≤ a3.toInt by omega) (show a3.toInt ≤ 100000100 by omega) dX12_reaches_29 (fun H locs w586 hw hT k588 c587 => ?_)
          have gs589 : sumG 19 10 w586 = sumG 19 10 w563 := sumG_ne 10 k588 (tk_ne kM_at19 kM_at18 (by decide))
          have hF := hF.put kM_at18 (inE_of (a := 0) (b := 10) (by decide) (show 0 ≤ v3_5.toInt.toNat by omega) (show v3_5.toInt.toNat ≤ 10 by omega)) k588
          refine lv_aload_n hx hb dX12_reaches_30 rfl (lv_at hl 0 rfl) ?_
          refine tk_getA hC hK hw hT hinX12 kM_at0 (by decide) rfl 36 (by decide) (List.mem_of_getElem? (i := 3) rfl) rfl rfl dX12_reaches_31 ?_
          refine lv_iload hx hb dX12_reaches_34 (lv_at hl 5 rfl) ?_
          refine lv_iconst (v := 0) hx hb dX12_reaches_36 (by decide) ?_
          refine tk_zast hC hK hw hT kM_at19 (by decide) rfl rfl (show 0 ≤ v3_5.toInt by omega) (show v3_5.toInt < 10 by omega) (by decide) (by decide) dX12_reaches_37 (fun H locs w590 hw hT k592 c591 => ?_)
          have gs593 : sumG 19 10 w590 = sumG 19 10 w586 - (gi w586 19 (v3_5.toInt.toNat)).toInt + (gi w590 19 (v3_5.toInt.toNat)).toInt := sumG_up (i := v3_5.toInt.toNat) k592 10 (show v3_5.toInt.toNat < 10 by omega)
          rw [show gi w590 19 (v3_5.toInt.toNat) = 0 from c591] at gs593
          rw [show (0 : Int32).toInt = 0 by decide] at gs593
          have hF := hF.put kM_at19 (inE_of (a := 0) (b := 10) (by decide) (show 0 ≤ v3_5.toInt.toNat by omega) (show v3_5.toInt.toNat ≤ 10 by omega)) k592
          obtain ⟨x594, ex594⟩ : ∃ y : Int32, y = v3_5 + Int32.ofInt 1 := ⟨_, rfl⟩
          refine lv_iinc (v := x594) (lv' := [(5, .int x594), (0, .ref (ad 0)), (1, .int a1), (2, .int a2), (3, .int a3), (4, .int a4)]) hx hb dX12_reaches_38 hl (k := 5) rfl ex594.symm (by decide) rfl (fun ls hl => ?_)
          have ex594 : x594.toInt = v3_5.toInt + 1 := by rw [ex594]; exact wk_add (y := 1) (show -2147483648 ≤ v3_5.toInt + 1 by omega) (show v3_5.toInt + 1 ≤ 2147483647 by omega)
          refine lv_goto (tgt := 3) hx hb dX12_reaches_41 (by decide) ?_
          exact ih3 x594 H locs ls w590 (show 0 ≤ a1.toInt by omega) (show a1.toInt ≤ 9 by omega) (show 0 ≤ a2.toInt by omega) (show a2.toInt ≤ 9 by omega) (show 0 ≤ a3.toInt by omega) (show a3.toInt ≤ 99999 by omega) (show 2000 ≤ a4.toInt by omega) (show a4.toInt ≤ 101999 by omega) (show 0 ≤ x594.toInt by omega) (show x594.toInt ≤ 10 by omega) (show (10 - x594.toInt).toNat < n3 by omega) hw hT hF  (lv_sub hl [1, 2, 3, 4, 5, 0] rfl)
  refine lv_iconst (v := 0) hx hb dX12_reaches_0 (by decide) ?_
  refine lv_istore (lv' := [(5, .int 0), (0, .ref (ad 0)), (1, .int a1), (2, .int a2), (3, .int a3), (4, .int a4)]) hx hb dX12_reaches_1 hl (by decide) rfl (fun ls hl => ?_)
  exact L3 ((10 - (0 : Int)).toNat + 1) 0 s.heap locs ls w0 (show 0 ≤ a1.toInt by omega) (show a1.toInt ≤ 9 by omega) (show 0 ≤ a2.toInt by omega) (show a2.toInt ≤ 9 by omega) (show 0 ≤ a3.toInt by omega) (show a3.toInt ≤ 99999 by omega) (show 2000 ≤ a4.toInt by omega) (show a4.toInt ≤ 101999 by omega) (by decide) (by decide) (Nat.lt_succ_self _) hw hT hF  (lv_sub hl [1, 2, 3, 4, 5, 0] rfl)
abbrev P_X12_sumOf_1 (ad : Nat → Nat) (cy : Nat → ClassId) (B : Int) (qr : Nat) (s1 : Int) (a1 : Int32) (w0 : va_W) : Int32 → va_W → Prop := fun r u => TW ksM ad cy B qr 13 u ∧ FE ksM [(77, 0, 10), (78, 0, 10)] w0 u ∧ ((True))
set_option maxHeartbeats 4000000 in
set_option maxRecDepth 100000 in
theorem k_X12_sumOf_1 (l : Launch) (adK adV : Nat → Nat) (dC : Nat → ClassId) (dI : Nat → Nat → Nat) (cy : Nat → ClassId) (ad : Nat → Nat) (B : Int) (hB0 : 100000 ≤ B) (hB1 : B ≤ 1073741824) (qr : Nat) (s1 : Int)  (a1 : Int32) (ra1 : 0 ≤ a1.toInt) (ta1 : a1.toInt ≤ 99999) (w0 : va_W) (sz : Nat) (hT : TW ksM ad cy B qr 13 w0)  : Met l yX12_sumOf wsX12_sumOf ({ frames := 6, cells := 0, slots := 0, locals := 133 }) (va_Pc [.ref (ad 0), .int a1] (wpreS adK adV dC dI cy sz w0)) (va_Qi (P_X12_sumOf_1 ad cy B qr s1 a1 w0) (fun u : va_W => wpost dC dI cy (va_A w0 sz) u) (va_A w0 sz)) 0 0 (va_A w0 sz) := by
  refine Met.ofW (cc := cX12_sumOf) (maxL := 5) (ret := (some .int)) (by decide) rfl ?_
  intro p e s m args below meth c s₁ Bk hml hv
  obtain ⟨rfl, ⟨hsz, hP, hK, hD0⟩, hE, hSR⟩ := hv
  have hx := Bk.exec
  have hb := Bk.bytes
  have hr := Bk.returns
  have hlocks := Bk.notSynchronized
  have hC : CallFix p m c cX12_sumOf 5 s _ wsX12_sumOf RX12 := ⟨hx, hb, hml, findClass_of_methodNamed Bk.named, atoms_spec (ws := wsX12_sumOf) Bk.pre⟩
  subst hsz
  have hD := hD0.self (sz := s.heap.size)
  generalize hAe : va_A w0 s.heap.size = A at hD hE ⊢
  have hA : ∀ q : Nat, s.heap.size ≤ q → A q := fun q h => by rw [← hAe]; exact Or.inr h
  have hw : Wd dC dI A s.heap s.heap [] w0 := ⟨hP, hD, va_S.rf⟩
  have hF : FE ksM [(77, 0, 10), (78, 0, 10)] w0 w0 := FE.rf
  have hl := lv_entry ([.ref (ad 0), .int a1]) (n := 5) (Nat.le_of_ble_eq_true rfl)
  rw [lg_entry_eq]
  generalize (lg_sl ([.ref (ad 0), .int a1]) ++ List.replicate (5 - (lg_sl ([.ref (ad 0), .int a1])).length) Slot.unset).toArray = ls at hl ⊢
  have hl : lv_has ls 5 [(0, .ref (ad 0)), (1, .int a1)] := hl
  generalize hloc : ([] : List Loc) = locs at hw ⊢
  have hinX12 : ∀ w ∈ u_ws RX12 TX12 42, w ∈ wsX12_sumOf := fun _ h => List.mem_cons_of_mem _ (List.mem_append_right _ (h))
  have L4 : ∀ (n4 : Nat) (v4_2 : Int32) (v4_3 : Int32) (H : Heap) (locs : List Loc) (ls : Array Slot) (w1 : va_W), 0 ≤ a1.toInt → a1.toInt ≤ 99999 → 0 ≤ v4_3.toInt → v4_3.toInt ≤ 6 → (6 - v4_3.toInt).toNat < n4 → Wd dC dI A s.heap H locs w1 → TW ksM ad cy B qr 13 w1 → FE ksM [(77, 0, 10), (78, 0, 10)] w0 w1 → lv_has ls 5 [(0, .ref (ad 0)), (1, .int a1), (2, .int v4_2), (3, .int v4_3)] → W p l e ({ frames := 6, cells := 0, slots := 0, locals := 133 }) s m (List.toArray [.ref (ad 0), .int a1]) below meth c H locs 0 0 (MQ below (va_Qi (P_X12_sumOf_1 ad cy B qr s1 a1 w0) (fun u : va_W => wpost dC dI cy A u) A) (List.toArray [.ref (ad 0), .int a1]) s 0 0 A) (F0 m 4 ls []) := by
    intro n4
    induction n4 with
    | zero => intro v4_2 v4_3 H locs ls w1 r2 t3 r4 t5 hm4 hw hT hF hl; omega
    | succ n4 ih4 =>
      intro v4_2 v4_3 H locs ls w1 r2 t3 r4 t5 hm4 hw hT hF hl
      refine lv_iload_n hx hb dX12_sumOf_4 rfl (lv_at hl 3 rfl) ?_
      refine lv_aload_n hx hb dX12_sumOf_5 rfl (lv_at hl 0 rfl) ?_
      refine tk_getA hC hK hw hT hinX12 kM_at0 (by decide) rfl 26 (by decide) (List.mem_of_getElem? (i := 1) rfl) rfl rfl dX12_sumOf_6 ?_
      refine lv_bipush (v := 6) hx hb dX12_sumOf_9 (by decide) ?_
      refine tk_ialdR hC hK hw hT kM_at12 rfl (by decide) (by decide) dX12_sumOf_11 (fun x6 c7 Ex6 => ?_)
      have bx6 := tk_rgI rfl 6 1 1 0 6 (by decide +kernel) ⟨0, by decide, by decide⟩ Ex6
      have c7 : gi w1 12 6 = x6 := c7
      refine lv_icmp_ge (tgt := 80) hx hb dX12_sumOf_12 (by decide) (fun c8 => ?_) (fun c8 => ?_)
      · have c8 : x6.toInt ≤ v4_3.toInt := wk_le.mp c8
        refine lv_iload_n hx hb dX12_sumOf_80 rfl (lv_at hl 2 rfl) ?_
        exact tk_iret hC hr hlocks hK ⟨hT, hF, trivial⟩ hw dX12_sumOf_81
      · have c8 : v4_3.toInt < x6.toInt := wk_leF c8
        refine lv_aload_n hx hb dX12_sumOf_15 rfl (lv_at hl 0 rfl) ?_
        refine lv_aload_n hx hb dX12_sumOf_16 rfl (lv_at hl 0 rfl) ?_
        refine tk_getA hC hK hw hT hinX12 kM_at0 (by decide) rfl 26 (by decide) (List.mem_of_getElem? (i := 1) rfl) rfl rfl dX12_sumOf_17 ?_
        refine lv_sipush (v := 252) hx hb dX12_sumOf_20 (by decide) ?_
        refine lv_iconst (v := 2) hx hb dX12_sumOf_23 (by decide) ?_
        refine lv_iload_n hx hb dX12_sumOf_24 rfl (lv_at hl 3 rfl) ?_
        refine lv_imul hx hb dX12_sumOf_25 ?_
        refine lv_topi (fun x9 ex9 => ?_)
        have ex9 : x9.toInt = (2 : Int) * v4_3.toInt := by rw [ex9]; exact wk_mul (show (-2147483648) ≤ (2 : Int) * v4_3.toInt by omega) (show (2 : Int) * v4_3.toInt ≤ 2147483647 by omega)
        refine lv_iadd hx hb dX12_sumOf_26 ?_
        refine lv_topi (fun x10 ex10 => ?_)
        have ex10 : x10.toInt = (252 : Int) + x9.toInt := by rw [ex10]; exact wk_add (show (-2147483648) ≤ (252 : Int) + x9.toInt by omega) (show (252 : Int) + x9.toInt ≤ 2147483647 by omega)
        refine tk_ialdR hC hK hw hT kM_at12 rfl (show 0 ≤ x10.toInt by omega) (show x10.toInt < 296 by omega) dX12_sumOf_27 (fun x11 c12 Ex11 => ?_)
        have c12 : gi w1 12 (2 * v4_3.toInt + 252).toNat = x11 := (congrArg (gi w1 12) (congrArg Int.toNat (show 2 * v4_3.toInt + 252 = x10.toInt by omega))).trans c12
        have bx11 := tk_rgI rfl 252 2 6 0 9 (by decide +kernel) ⟨(v4_3.toInt - 0).toNat, by omega, show x10.toInt.toNat = 252 + 2 * (v4_3.toInt - 0).toNat by omega⟩ Ex11
        refine lv_aload_n hx hb dX12_sumOf_28 rfl (lv_at hl 0 rfl) ?_
        refine tk_getA hC hK hw hT hinX12 kM_at0 (by decide) rfl 26 (by decide) (List.mem_of_getElem? (i := 1) rfl) rfl rfl dX12_sumOf_29 ?_
        refine lv_sipush (v := 252) hx hb dX12_sumOf_32 (by decide) ?_
        refine lv_iconst (v := 2) hx hb dX12_sumOf_35 (by decide) ?_
        refine lv_iload_n hx hb dX12_sumOf_36 rfl (lv_at hl 3 rfl) ?_
        refine lv_imul hx hb dX12_sumOf_37 ?_
        refine lv_topi (fun x13 ex13 => ?_)
        have ex13 : x13.toInt = (2 : Int) * v4_3.toInt := by rw [ex13]; exact wk_mul (show (-2147483648) ≤ (2 : Int) * v4_3.toInt by omega) (show (2 : Int) * v4_3.toInt ≤ 2147483647 by omega)
        refine lv_iadd hx hb dX12_sumOf_38 ?_
        refine lv_topi (fun x14 ex14 => ?_)
        have ex14 : x14.toInt = (252 : Int) + x13.toInt := by rw [ex14]; exact wk_add (show (-2147483648) ≤ (252 : Int) + x13.toInt by omega) (show (252 : Int) + x13.toInt ≤ 2147483647 by omega)
        refine lv_iconst (v := 1) hx hb dX12_sumOf_39 (by decide) ?_
        refine lv_iadd hx hb dX12_sumOf_40 ?_
        refine lv_topi (fun x15 ex15 => ?_)
        have ex15 : x15.toInt = x14.toInt + (1 : Int) := by rw [ex15]; exact wk_add (show (-2147483648) ≤ x14.toInt + (1 : Int) by omega) (show x14.toInt + (1 : Int) ≤ 2147483647 by omega)
        refine tk_ialdR hC hK hw hT kM_at12 rfl (show 0 ≤ x15.toInt by omega) (show x15.toInt < 296 by omega) dX12_sumOf_41 (fun x16 c17 Ex16 => ?_)
        have c17 : gi w1 12 (2 * v4_3.toInt + 253).toNat = x16 := (congrArg (gi w1 12) (congrArg Int.toNat (show 2 * v4_3.toInt + 253 = x15.toInt by omega))).trans c17
        have bx16 := tk_rgI rfl 253 2 6 0 9 (by decide +kernel) ⟨(v4_3.toInt - 0).toNat, by omega, show x15.toInt.toNat = 253 + 2 * (v4_3.toInt - 0).toNat by omega⟩ Ex16
        refine lv_iload_n hx hb dX12_sumOf_42 rfl (lv_at hl 1 rfl) ?_
        refine lv_iload_n hx hb dX12_sumOf_43 rfl (lv_at hl 1 rfl) ?_
        refine lv_sipush (v := 2000) hx hb dX12_sumOf_44 (by decide) ?_
        refine lv_iadd hx hb dX12_sumOf_47 ?_
        refine lv_topi (fun x18 ex18 => ?_)
        have ex18 : x18.toInt = a1.toInt + (2000 : Int) := by rw [ex18]; exact wk_add (show (-2147483648) ≤ a1.toInt + (2000 : Int) by omega) (show a1.toInt + (2000 : Int) ≤ 2147483647 by omega)
        refine tk_Vi hC hK hw hT hA hE hSR kM_at0 (by decide) rfl (k_X12_reaches_3 l adK adV dC dI cy ad B (by omega) (by omega) qr s1   x11 (show 0 ≤ x11.toInt by omega) (show x11.toInt ≤ 9 by omega) x16 (show 0 ≤ x16.toInt by omega) (show x16.toInt ≤ 9 by omega) a1 (show 0 ≤ a1.toInt by omega) (show a1.toInt ≤ 99999 by omega) x18 (show 2000 ≤ x18.toInt by omega) (show x18.toInt ≤ 101999 by omega) w1 H.size hT ) (cwV 4 hC.2.2.2.2 gX12_sumOf_X12_reaches rfl rfl rfl (by decide +kernel) ⟨Nat.le_of_ble_eq_true rfl, Nat.le_of_ble_eq_true rfl⟩) rfl hl.1 rfl (Nat.le_of_ble_eq_true rfl) dX12_sumOf_48 (fun r19 w21 H locs hp20 hw => ?_)
        obtain ⟨hT, k22, hg25⟩ := hp20
        have hF := hF.tr k22 (by decide)
        have c26 := k22.gi kM_at12 (by decide) c7
        have c27 := k22.gi kM_at12 rfl c12
        have c28 := k22.gi kM_at12 rfl c17
        obtain ⟨g23, g24⟩ := hg25
        refine lv_istore (lv' := [(4, .int r19), (0, .ref (ad 0)), (1, .int a1), (2, .int v4_2), (3, .int v4_3)]) hx hb dX12_sumOf_51 hl (by decide) rfl (fun ls hl => ?_)
        refine lv_iload_n hx hb dX12_sumOf_53 rfl (lv_at hl 3 rfl) ?_
        refine lv_iload hx hb dX12_sumOf_54 (lv_at hl 0 rfl) ?_
        refine lv_ldcw (v := 100000000) hx hb hC.2.2.2.1 (hC.2.2.2.2 _ (List.mem_of_getElem? (i := 2) rfl)) dX12_sumOf_56 ?_
        refine lv_icmp_ne (tgt := 68) hx hb dX12_sumOf_59 (by decide) (fun c29 => ?_) (fun c29 => ?_)
        · have c29 : ¬ r19.toInt = (100000000 : Int) := wk_eqF c29
          refine lv_iload hx hb dX12_sumOf_68 (lv_at hl 0 rfl) ?_
          refine lv_iload_n hx hb dX12_sumOf_70 rfl (lv_at hl 2 rfl) ?_
          refine lv_isub hx hb dX12_sumOf_71 ?_
          refine lv_topi (fun x30 ex30 => ?_)
          have ex30 : x30.toInt = r19.toInt - a1.toInt := by rw [ex30]; exact wk_sub (show (-2147483648) ≤ r19.toInt - a1.toInt by omega) (show r19.toInt - a1.toInt ≤ 2147483647 by omega)
          refine lv_iadd hx hb dX12_sumOf_72 ?_
          have nx31 := wk_i32 v4_2
          refine lv_topi (fun x32 ex32 => ?_)
          refine lv_istore_n (lv' := [(2, .int x32), (4, .int r19), (0, .ref (ad 0)), (1, .int a1), (3, .int v4_3)]) hx hb dX12_sumOf_73 rfl hl (by decide) rfl (fun ls hl => ?_)
          obtain ⟨x33, ex33⟩ : ∃ y : Int32, y = v4_3 + Int32.ofInt 1 := ⟨_, rfl⟩
          refine lv_iinc (v := x33) (lv' := [(3, .int x33), (2, .int x32), (4, .int r19), (0, .ref (ad 0)), (1, .int a1)]) hx hb dX12_sumOf_74 hl (k := 4) rfl ex33.symm (by decide) rfl (fun ls hl => ?_)
          have ex33 : x33.toInt = v4_3.toInt + 1 := by rw [ex33]; exact wk_add (y := 1) (show -2147483648 ≤ v4_3.toInt + 1 by omega) (show v4_3.toInt + 1 ≤ 2147483647 by omega)
          refine lv_goto (tgt := 4) hx hb dX12_sumOf_77 (by decide) ?_
          exact ih4 x32 x33 H locs ls w21 (show 0 ≤ a1.toInt by omega) (show a1.toInt ≤ 99999 by omega) (show 0 ≤ x33.toInt by omega) (show x33.toInt ≤ 6 by omega) (show (6 - x33.toInt).toNat < n4 by omega) hw hT hF  (lv_sub hl [3, 4, 1, 0] rfl)
        · have c29 : r19.toInt = (100000000 : Int) := wk_eq.mp c29
          refine lv_sipush (v := 2001) hx hb dX12_sumOf_62 (by decide) ?_
          refine lv_goto (tgt := 72) hx hb dX12_sumOf_65 (by decide) ?_
          refine lv_iadd hx hb dX12_sumOf_72 ?_
          have nx34 := wk_i32 v4_2
          refine lv_topi (fun x35 ex35 => ?_)
          refine lv_istore_n (lv' := [(2, .int x35), (4, .int r19), (0, .ref (ad 0)), (1, .int a1), (3, .int v4_3)]) hx hb dX12_sumOf_73 rfl hl (by decide) rfl (fun ls hl => ?_)
          obtain ⟨x36, ex36⟩ : ∃ y : Int32, y = v4_3 + Int32.ofInt 1 := ⟨_, rfl⟩
          refine lv_iinc (v := x36) (lv' := [(3, .int x36), (2, .int x35), (4, .int r19), (0, .ref (ad 0)), (1, .int a1)]) hx hb dX12_sumOf_74 hl (k := 4) rfl ex36.symm (by decide) rfl (fun ls hl => ?_)
          have ex36 : x36.toInt = v4_3.toInt + 1 := by rw [ex36]; exact wk_add (y := 1) (show -2147483648 ≤ v4_3.toInt + 1 by omega) (show v4_3.toInt + 1 ≤ 2147483647 by omega)
          refine lv_goto (tgt := 4) hx hb dX12_sumOf_77 (by decide) ?_
          exact ih4 x35 x36 H locs ls w21 (show 0 ≤ a1.toInt by omega) (show a1.toInt ≤ 99999 by omega) (show 0 ≤ x36.toInt by omega) (show x36.toInt ≤ 6 by omega) (show (6 - x36.toInt).toNat < n4 by omega) hw hT hF  (lv_sub hl [3, 4, 1, 0] rfl)
  refine lv_iconst (v := 0) hx hb dX12_sumOf_0 (by decide) ?_
  refine lv_istore_n (lv' := [(2, .int 0), (0, .ref (ad 0)), (1, .int a1)]) hx hb dX12_sumOf_1 rfl hl (by decide) rfl (fun ls hl => ?_)
  refine lv_iconst (v := 0) hx hb dX12_sumOf_2 (by decide) ?_
  refine lv_istore_n (lv' := [(3, .int 0), (2, .int 0), (0, .ref (ad 0)), (1, .int a1)]) hx hb dX12_sumOf_3 rfl hl (by decide) rfl (fun ls hl => ?_)
  exact L4 ((6 - (0 : Int)).toNat + 1) 0 0 s.heap locs ls w0 (show 0 ≤ a1.toInt by omega) (show a1.toInt ≤ 99999 by omega) (by decide) (by decide) (Nat.lt_succ_self _) hw hT hF  (lv_sub hl [2, 3, 1, 0] rfl)
abbrev P_X12_built_1 (ad : Nat → Nat) (cy : Nat → ClassId) (B : Int) (qr : Nat) (s1 : Int) (a1 : Int32) (a2 : Int32) (a3 : Int32) (w0 : va_W) : Int32 → va_W → Prop := fun r u => TW ksM ad cy B qr 12 u ∧ FE ksM [(71, 1, 1), (71, 10, 130), (71, 11, 131), (71, 12, 132), (71, 13, 139), (77, 0, 10), (78, 0, 10)] w0 u ∧ ((1 ≤ a1.toInt ∧ a1.toInt ≤ 9 ∧ 0 ≤ a2.toInt ∧ a2.toInt ≤ 99999 ∧ 0 ≤ a3.toInt ∧ a3.toInt ≤ 2 ∧ (∃ y : Int32, gi u 12 0 = y ∧ 1 ≤ y.toInt ∧ y.toInt ≤ 10)) ∨ (r = (-1)))
set_option maxHeartbeats 4000000 in
set_option maxRecDepth 100000 in
theorem k_X12_built_1 (l : Launch) (adK adV : Nat → Nat) (dC : Nat → ClassId) (dI : Nat → Nat → Nat) (cy : Nat → ClassId) (ad : Nat → Nat) (B : Int) (hB0 : 100000 ≤ B) (hB1 : B ≤ 1073741824) (qr : Nat) (s1 : Int)  (a1 : Int32) (a2 : Int32) (a3 : Int32) (w0 : va_W) (sz : Nat) (hT : TW ksM ad cy B qr 12 w0)  : Met l yX12_built wsX12_built ({ frames := 7, cells := 0, slots := 0, locals := 157 }) (va_Pc [.ref (ad 0), .int a1, .int a2, .int a3] (wpreS adK adV dC dI cy sz w0)) (va_Qi (P_X12_built_1 ad cy B qr s1 a1 a2 a3 w0) (fun u : va_W => wpost dC dI cy (va_A w0 sz) u) (va_A w0 sz)) 0 0 (va_A w0 sz) := by
  refine Met.ofW (cc := cX12_built) (maxL := 11) (ret := (some .int)) (by decide) rfl ?_
  intro p e s m args below meth c s₁ Bk hml hv
  obtain ⟨rfl, ⟨hsz, hP, hK, hD0⟩, hE, hSR⟩ := hv
  have hx := Bk.exec
  have hb := Bk.bytes
  have hr := Bk.returns
  have hlocks := Bk.notSynchronized
  have hC : CallFix p m c cX12_built 11 s _ wsX12_built RX12 := ⟨hx, hb, hml, findClass_of_methodNamed Bk.named, atoms_spec (ws := wsX12_built) Bk.pre⟩
  subst hsz
  have hD := hD0.self (sz := s.heap.size)
  generalize hAe : va_A w0 s.heap.size = A at hD hE ⊢
  have hA : ∀ q : Nat, s.heap.size ≤ q → A q := fun q h => by rw [← hAe]; exact Or.inr h
  have hw : Wd dC dI A s.heap s.heap [] w0 := ⟨hP, hD, va_S.rf⟩
  have hF : FE ksM [(71, 1, 1), (71, 10, 130), (71, 11, 131), (71, 12, 132), (71, 13, 139), (77, 0, 10), (78, 0, 10)] w0 w0 := FE.rf
  have hl := lv_entry ([.ref (ad 0), .int a1, .int a2, .int a3]) (n := 11) (Nat.le_of_ble_eq_true rfl)
  rw [lg_entry_eq]
  generalize (lg_sl ([.ref (ad 0), .int a1, .int a2, .int a3]) ++ List.replicate (11 - (lg_sl ([.ref (ad 0), .int a1, .int a2, .int a3])).length) Slot.unset).toArray = ls at hl ⊢
  have hl : lv_has ls 11 [(0, .ref (ad 0)), (1, .int a1), (2, .int a2), (3, .int a3)] := hl
  generalize hloc : ([] : List Loc) = locs at hw ⊢
  have hinX12 : ∀ w ∈ u_ws RX12 TX12 42, w ∈ wsX12_built := fun _ h => List.mem_cons_of_mem _ (List.mem_append_right _ (h))
  have J38 : ∀ (f38_12_0 : Int32) (H : Heap) (locs : List Loc) (ls : Array Slot) (w1 : va_W), 0 ≤ f38_12_0.toInt → f38_12_0.toInt ≤ 10 → Wd dC dI A s.heap H locs w1 → TW ksM ad cy B qr 12 w1 → FE ksM [(71, 1, 1), (71, 10, 130), (71, 11, 131), (71, 12, 132), (71, 13, 139), (77, 0, 10), (78, 0, 10)] w0 w1 → gi w1 12 0 = f38_12_0 → lv_has ls 11 [(0, .ref (ad 0)), (1, .int a1), (2, .int a2), (3, .int a3)] → W p l e ({ frames := 7, cells := 0, slots := 0, locals := 157 }) s m (List.toArray [.ref (ad 0), .int a1, .int a2, .int a3]) below meth c H locs 0 0 (MQ below (va_Qi (P_X12_built_1 ad cy B qr s1 a1 a2 a3 w0) (fun u : va_W => wpost dC dI cy A u) A) (List.toArray [.ref (ad 0), .int a1, .int a2, .int a3]) s 0 0 A) (F0 m 38 ls []) := by
    intro f38_12_0 H locs ls w1 r2 t3 hw hT hF c4 hl
    refine lv_iconst (v := (-1)) hx hb dX12_built_38 (by decide) ?_
    exact tk_iret hC hr hlocks hK ⟨hT, hF, (Or.inr rfl)⟩ hw dX12_built_39
  have L76 : ∀ (n76 : Nat) (v76_4 : Int32) (v76_5 : Int32) (v76_6 : Int32) (v76_7 : Int32) (v76_8 : Int32) (f76_12_0 : Int32) (f76_12_1 : Int32) (H : Heap) (locs : List Loc) (ls : Array Slot) (w5 : va_W), 1 ≤ a1.toInt → a1.toInt ≤ 9 → 0 ≤ a2.toInt → a2.toInt ≤ 99999 → 0 ≤ a3.toInt → a3.toInt ≤ 2 → 10 ≤ v76_4.toInt → v76_4.toInt ≤ 130 → (-1) ≤ v76_5.toInt → v76_5.toInt ≤ 9 → (-1) ≤ v76_6.toInt → v76_6.toInt ≤ 9 → 0 ≤ v76_8.toInt → v76_8.toInt ≤ 10 → 1 ≤ f76_12_0.toInt → f76_12_0.toInt ≤ 10 → 1 ≤ f76_12_1.toInt → f76_12_1.toInt ≤ 13 → (10 - v76_8.toInt).toNat < n76 → Wd dC dI A s.heap H locs w5 → TW ksM ad cy B qr 13 w5 → FE ksM [(71, 1, 1), (71, 10, 130), (71, 11, 131), (71, 12, 132), (71, 13, 139), (77, 0, 10), (78, 0, 10)] w0 w5 → gi w5 12 0 = f76_12_0 → gi w5 12 1 = f76_12_1 → lv_has ls 11 [(0, .ref (ad 0)), (1, .int a1), (2, .int a2), (3, .int a3), (4, .int v76_4), (5, .int v76_5), (6, .int v76_6), (7, .int v76_7), (8, .int v76_8)] → W p l e ({ frames := 7, cells := 0, slots := 0, locals := 157 }) s m (List.toArray [.ref (ad 0), .int a1, .int a2, .int a3]) below meth c H locs 0 0 (MQ below (va_Qi (P_X12_built_1 ad cy B qr s1 a1 a2 a3 w0) (fun u : va_W => wpost dC dI cy A u) A) (List.toArray [.ref (ad 0), .int a1, .int a2, .int a3]) s 0 0 A) (F0 m 76 ls []) := by
    intro n76
    induction n76 with
    | zero => intro v76_4 v76_5 v76_6 v76_7 v76_8 f76_12_0 f76_12_1 H locs ls w5 r6 t7 r8 t9 r10 t11 r12 t13 r14 t15 r16 t17 r18 t19 r20 t21 r23 t24 hm76 hw hT hF c22 c25 hl; omega
    | succ n76 ih76 =>
      intro v76_4 v76_5 v76_6 v76_7 v76_8 f76_12_0 f76_12_1 H locs ls w5 r6 t7 r8 t9 r10 t11 r12 t13 r14 t15 r16 t17 r18 t19 r20 t21 r23 t24 hm76 hw hT hF c22 c25 hl
      have L93 : ∀ (n93 : Nat) (v93_5 : Int32) (v93_6 : Int32) (v93_7 : Int32) (v93_9 : Int32) (H : Heap) (locs : List Loc) (ls : Array Slot) (w26 : va_W), 1 ≤ a1.toInt → a1.toInt ≤ 9 → 0 ≤ a2.toInt → a2.toInt ≤ 99999 → 0 ≤ a3.toInt → a3.toInt ≤ 2 → 10 ≤ v76_4.toInt → v76_4.toInt ≤ 130 → (-1) ≤ v93_5.toInt → v93_5.toInt ≤ 9 → (-1) ≤ v93_6.toInt → v93_6.toInt ≤ 9 → 0 ≤ v76_8.toInt → v76_8.toInt ≤ 9 → 1 ≤ v93_9.toInt → v93_9.toInt ≤ 10 → 1 ≤ f76_12_0.toInt → f76_12_0.toInt ≤ 10 → 1 ≤ f76_12_1.toInt → f76_12_1.toInt ≤ 13 → (10 - v93_9.toInt).toNat < n93 → Wd dC dI A s.heap H locs w26 → TW ksM ad cy B qr 13 w26 → FE ksM [(71, 1, 1), (71, 10, 130), (71, 11, 131), (71, 12, 132), (71, 13, 139), (77, 0, 10), (78, 0, 10)] w0 w26 → gi w26 12 0 = f76_12_0 → gi w26 12 1 = f76_12_1 → lv_has ls 11 [(0, .ref (ad 0)), (1, .int a1), (2, .int a2), (3, .int a3), (4, .int v76_4), (5, .int v93_5), (6, .int v93_6), (7, .int v93_7), (8, .int v76_8), (9, .int v93_9)] → W p l e ({ frames := 7, cells := 0, slots := 0, locals := 157 }) s m (List.toArray [.ref (ad 0), .int a1, .int a2, .int a3]) below meth c H locs 0 0 (MQ below (va_Qi (P_X12_built_1 ad cy B qr s1 a1 a2 a3 w0) (fun u : va_W => wpost dC dI cy A u) A) (List.toArray [.ref (ad 0), .int a1, .int a2, .int a3]) s 0 0 A) (F0 m 93 ls []) := by
        intro n93
        induction n93 with
        | zero => intro v93_5 v93_6 v93_7 v93_9 H locs ls w26 r27 t28 r29 t30 r31 t32 r33 t34 r35 t36 r37 t38 r39 t40 r41 t42 r43 t44 r46 t47 hm93 hw hT hF c45 c48 hl; omega
        | succ n93 ih93 =>
          intro v93_5 v93_6 v93_7 v93_9 H locs ls w26 r27 t28 r29 t30 r31 t32 r33 t34 r35 t36 r37 t38 r39 t40 r41 t42 r43 t44 r46 t47 hm93 hw hT hF c45 c48 hl
          have J197 : ∀ (v197_5 : Int32) (v197_6 : Int32) (v197_7 : Int32) (v197_10 : Int32) (H : Heap) (locs : List Loc) (ls : Array Slot) (w49 : va_W), 1 ≤ a1.toInt → a1.toInt ≤ 9 → 0 ≤ a2.toInt → a2.toInt ≤ 99999 → 0 ≤ a3.toInt → a3.toInt ≤ 2 → 10 ≤ v76_4.toInt → v76_4.toInt ≤ 130 → 0 ≤ v197_5.toInt → v197_5.toInt ≤ 9 → (-1) ≤ v197_6.toInt → v197_6.toInt ≤ 9 → 0 ≤ v76_8.toInt → v76_8.toInt ≤ 9 → 1 ≤ v93_9.toInt → v93_9.toInt ≤ 9 → 2 ≤ f76_12_0.toInt → f76_12_0.toInt ≤ 10 → 1 ≤ f76_12_1.toInt → f76_12_1.toInt ≤ 13 → Wd dC dI A s.heap H locs w49 → TW ksM ad cy B qr 13 w49 → FE ksM [(71, 1, 1), (71, 10, 130), (71, 11, 131), (71, 12, 132), (71, 13, 139), (77, 0, 10), (78, 0, 10)] w0 w49 → gi w49 12 0 = f76_12_0 → gi w49 12 1 = f76_12_1 → lv_has ls 11 [(0, .ref (ad 0)), (1, .int a1), (2, .int a2), (3, .int a3), (4, .int v76_4), (5, .int v197_5), (6, .int v197_6), (7, .int v197_7), (8, .int v76_8), (9, .int v93_9), (10, .int v197_10)] → W p l e ({ frames := 7, cells := 0, slots := 0, locals := 157 }) s m (List.toArray [.ref (ad 0), .int a1, .int a2, .int a3]) below meth c H locs 0 0 (MQ below (va_Qi (P_X12_built_1 ad cy B qr s1 a1 a2 a3 w0) (fun u : va_W => wpost dC dI cy A u) A) (List.toArray [.ref (ad 0), .int a1, .int a2, .int a3]) s 0 0 A) (F0 m 197 ls []) := by
            intro v197_5 v197_6 v197_7 v197_10 H locs ls w49 r50 t51 r52 t53 r54 t55 r56 t57 r58 t59 r60 t61 r62 t63 r64 t65 r66 t67 r69 t70 hw hT hF c68 c71 hl
            obtain ⟨x72, ex72⟩ : ∃ y : Int32, y = v93_9 + Int32.ofInt 1 := ⟨_, rfl⟩
            refine lv_iinc (v := x72) (lv' := [(9, .int x72), (0, .ref (ad 0)), (1, .int a1), (2, .int a2), (3, .int a3), (4, .int v76_4), (5, .int v197_5), (6, .int v197_6), (7, .int v197_7), (8, .int v76_8), (10, .int v197_10)]) hx hb dX12_built_197 hl (k := 9) rfl ex72.symm (by decide) rfl (fun ls hl => ?_)
            have ex72 : x72.toInt = v93_9.toInt + 1 := by rw [ex72]; exact wk_add (y := 1) (show -2147483648 ≤ v93_9.toInt + 1 by omega) (show v93_9.toInt + 1 ≤ 2147483647 by omega)
            refine lv_goto (tgt := 93) hx hb dX12_built_200 (by decide) ?_
            exact ih93 v197_5 v197_6 v197_7 x72 H locs ls w49 (show 1 ≤ a1.toInt by omega) (show a1.toInt ≤ 9 by omega) (show 0 ≤ a2.toInt by omega) (show a2.toInt ≤ 99999 by omega) (show 0 ≤ a3.toInt by omega) (show a3.toInt ≤ 2 by omega) (show 10 ≤ v76_4.toInt by omega) (show v76_4.toInt ≤ 130 by omega) (show (-1) ≤ v197_5.toInt by omega) (show v197_5.toInt ≤ 9 by omega) (show (-1) ≤ v197_6.toInt by omega) (show v197_6.toInt ≤ 9 by omega) (show 0 ≤ v76_8.toInt by omega) (show v76_8.toInt ≤ 9 by omega) (show 1 ≤ x72.toInt by omega) (show x72.toInt ≤ 10 by omega) (show 1 ≤ f76_12_0.toInt by omega) (show f76_12_0.toInt ≤ 10 by omega) (show 1 ≤ f76_12_1.toInt by omega) (show f76_12_1.toInt ≤ 13 by omega) (show (10 - x72.toInt).toNat < n93 by omega) hw hT hF c68 c71 (lv_sub hl [1, 2, 3, 4, 5, 6, 7, 8, 9, 0] rfl)
          have J185 : ∀ (v185_10 : Int32) (H : Heap) (locs : List Loc) (ls : Array Slot) (w73 : va_W), 1 ≤ a1.toInt → a1.toInt ≤ 9 → 0 ≤ a2.toInt → a2.toInt ≤ 99999 → 0 ≤ a3.toInt → a3.toInt ≤ 2 → 10 ≤ v76_4.toInt → v76_4.toInt ≤ 130 → (-1) ≤ v93_5.toInt → v93_5.toInt ≤ 9 → (-1) ≤ v93_6.toInt → v93_6.toInt ≤ 9 → 0 ≤ v76_8.toInt → v76_8.toInt ≤ 9 → 1 ≤ v93_9.toInt → v93_9.toInt ≤ 9 → 2 ≤ f76_12_0.toInt → f76_12_0.toInt ≤ 10 → 1 ≤ f76_12_1.toInt → f76_12_1.toInt ≤ 13 → Wd dC dI A s.heap H locs w73 → TW ksM ad cy B qr 13 w73 → FE ksM [(71, 1, 1), (71, 10, 130), (71, 11, 131), (71, 12, 132), (71, 13, 139), (77, 0, 10), (78, 0, 10)] w0 w73 → gi w73 12 0 = f76_12_0 → gi w73 12 1 = f76_12_1 → lv_has ls 11 [(0, .ref (ad 0)), (1, .int a1), (2, .int a2), (3, .int a3), (4, .int v76_4), (5, .int v93_5), (6, .int v93_6), (7, .int v93_7), (8, .int v76_8), (9, .int v93_9), (10, .int v185_10)] → W p l e ({ frames := 7, cells := 0, slots := 0, locals := 157 }) s m (List.toArray [.ref (ad 0), .int a1, .int a2, .int a3]) below meth c H locs 0 0 (MQ below (va_Qi (P_X12_built_1 ad cy B qr s1 a1 a2 a3 w0) (fun u : va_W => wpost dC dI cy A u) A) (List.toArray [.ref (ad 0), .int a1, .int a2, .int a3]) s 0 0 A) (F0 m 185 ls []) := by
            intro v185_10 H locs ls w73 r74 t75 r76 t77 r78 t79 r80 t81 r82 t83 r84 t85 r86 t87 r88 t89 r90 t91 r93 t94 hw hT hF c92 c95 hl
            refine lv_iload hx hb dX12_built_185 (lv_at hl 8 rfl) ?_
            refine lv_istore (lv' := [(5, .int v76_8), (0, .ref (ad 0)), (1, .int a1), (2, .int a2), (3, .int a3), (4, .int v76_4), (6, .int v93_6), (7, .int v93_7), (8, .int v76_8), (9, .int v93_9), (10, .int v185_10)]) hx hb dX12_built_187 hl (by decide) rfl (fun ls hl => ?_)
            refine lv_iload hx hb dX12_built_189 (lv_at hl 9 rfl) ?_
            refine lv_istore (lv' := [(6, .int v93_9), (5, .int v76_8), (0, .ref (ad 0)), (1, .int a1), (2, .int a2), (3, .int a3), (4, .int v76_4), (7, .int v93_7), (8, .int v76_8), (9, .int v93_9), (10, .int v185_10)]) hx hb dX12_built_191 hl (by decide) rfl (fun ls hl => ?_)
            refine lv_iload hx hb dX12_built_193 (lv_at hl 10 rfl) ?_
            refine lv_istore (lv' := [(7, .int v185_10), (6, .int v93_9), (5, .int v76_8), (0, .ref (ad 0)), (1, .int a1), (2, .int a2), (3, .int a3), (4, .int v76_4), (8, .int v76_8), (9, .int v93_9), (10, .int v185_10)]) hx hb dX12_built_195 hl (by decide) rfl (fun ls hl => ?_)
            exact J197 v76_8 v93_9 v185_10 v185_10 H locs ls w73 (show 1 ≤ a1.toInt by omega) (show a1.toInt ≤ 9 by omega) (show 0 ≤ a2.toInt by omega) (show a2.toInt ≤ 99999 by omega) (show 0 ≤ a3.toInt by omega) (show a3.toInt ≤ 2 by omega) (show 10 ≤ v76_4.toInt by omega) (show v76_4.toInt ≤ 130 by omega) (show 0 ≤ v76_8.toInt by omega) (show v76_8.toInt ≤ 9 by omega) (show (-1) ≤ v93_9.toInt by omega) (show v93_9.toInt ≤ 9 by omega) (show 0 ≤ v76_8.toInt by omega) (show v76_8.toInt ≤ 9 by omega) (show 1 ≤ v93_9.toInt by omega) (show v93_9.toInt ≤ 9 by omega) (show 2 ≤ f76_12_0.toInt by omega) (show f76_12_0.toInt ≤ 10 by omega) (show 1 ≤ f76_12_1.toInt by omega) (show f76_12_1.toInt ≤ 13 by omega)  hw hT hF c92 c95 (lv_sub hl [3, 4, 5, 6, 7, 2, 1, 0, 8, 9, 10] rfl)
          have L137 : ∀ (n137 : Nat) (v137_10 : Int32) (H : Heap) (locs : List Loc) (ls : Array Slot) (w96 : va_W), 1 ≤ a1.toInt → a1.toInt ≤ 9 → 0 ≤ a2.toInt → a2.toInt ≤ 99999 → 0 ≤ a3.toInt → a3.toInt ≤ 2 → 10 ≤ v76_4.toInt → v76_4.toInt ≤ 130 → (-1) ≤ v93_5.toInt → v93_5.toInt ≤ 9 → (-1) ≤ v93_6.toInt → v93_6.toInt ≤ 9 → 0 ≤ v76_8.toInt → v76_8.toInt ≤ 9 → 1 ≤ v93_9.toInt → v93_9.toInt ≤ 9 → 0 ≤ v137_10.toInt → v137_10.toInt ≤ 7 → 2 ≤ f76_12_0.toInt → f76_12_0.toInt ≤ 10 → 1 ≤ f76_12_1.toInt → f76_12_1.toInt ≤ 13 → (7 - v137_10.toInt).toNat < n137 → Wd dC dI A s.heap H locs w96 → TW ksM ad cy B qr 13 w96 → FE ksM [(71, 1, 1), (71, 10, 130), (71, 11, 131), (71, 12, 132), (71, 13, 139), (77, 0, 10), (78, 0, 10)] w0 w96 → gi w96 12 0 = f76_12_0 → gi w96 12 1 = f76_12_1 → lv_has ls 11 [(0, .ref (ad 0)), (1, .int a1), (2, .int a2), (3, .int a3), (4, .int v76_4), (5, .int v93_5), (6, .int v93_6), (7, .int v93_7), (8, .int v76_8), (9, .int v93_9), (10, .int v137_10)] → W p l e ({ frames := 7, cells := 0, slots := 0, locals := 157 }) s m (List.toArray [.ref (ad 0), .int a1, .int a2, .int a3]) below meth c H locs 0 0 (MQ below (va_Qi (P_X12_built_1 ad cy B qr s1 a1 a2 a3 w0) (fun u : va_W => wpost dC dI cy A u) A) (List.toArray [.ref (ad 0), .int a1, .int a2, .int a3]) s 0 0 A) (F0 m 137 ls []) := by
            intro n137
            induction n137 with
            | zero => intro v137_10 H locs ls w96 r97 t98 r99 t100 r101 t102 r103 t104 r105 t106 r107 t108 r109 t110 r111 t112 r113 t114 r115 t116 r118 t119 hm137 hw hT hF c117 c120 hl; omega
            | succ n137 ih137 =>
              intro v137_10 H locs ls w96 r97 t98 r99 t100 r101 t102 r103 t104 r105 t106 r107 t108 r109 t110 r111 t112 r113 t114 r115 t116 r118 t119 hm137 hw hT hF c117 c120 hl
              refine lv_iload hx hb dX12_built_137 (lv_at hl 10 rfl) ?_
              refine lv_bipush (v := 7) hx hb dX12_built_139 (by decide) ?_
              refine lv_icmp_ge (tgt := 163) hx hb dX12_built_141 (by decide) (fun c121 => ?_) (fun c121 => ?_)
              · have c121 : (7 : Int) ≤ v137_10.toInt := wk_le.mp c121
                refine lv_aload_n hx hb dX12_built_163 rfl (lv_at hl 0 rfl) ?_
                refine lv_iload_n hx hb dX12_built_164 rfl (lv_at hl 2 rfl) ?_
                refine tk_Vi hC hK hw hT hA hE hSR kM_at0 (by decide) rfl (k_X12_sumOf_1 l adK adV dC dI cy ad B (by omega) (by omega) qr s1   a2 (show 0 ≤ a2.toInt by omega) (show a2.toInt ≤ 99999 by omega) w96 H.size hT ) (cwV 1 hC.2.2.2.2 gX12_built_X12_sumOf rfl rfl rfl (by decide +kernel) ⟨Nat.le_of_ble_eq_true rfl, Nat.le_of_ble_eq_true rfl⟩) rfl hl.1 rfl (Nat.le_of_ble_eq_true rfl) dX12_built_165 (fun r122 w124 H locs hp123 hw => ?_)
                obtain ⟨hT, k125, hg126⟩ := hp123
                have hF := hF.tr k125 (by decide)
                have c127 := k125.gi kM_at12 (by decide) c117
                have c128 := k125.gi kM_at12 (by decide) c120
                clear hg126
                refine lv_istore (lv' := [(10, .int r122), (0, .ref (ad 0)), (1, .int a1), (2, .int a2), (3, .int a3), (4, .int v76_4), (5, .int v93_5), (6, .int v93_6), (7, .int v93_7), (8, .int v76_8), (9, .int v93_9)]) hx hb dX12_built_168 hl (by decide) rfl (fun ls hl => ?_)
                refine lv_iload hx hb dX12_built_170 (lv_at hl 6 rfl) ?_
                refine lv_if_lt (tgt := 185) hx hb dX12_built_172 (by decide) (fun c129 => ?_) (fun c129 => ?_)
                · have c129 : v93_5.toInt < (0 : Int) := wk_lt.mp c129
                  exact J185 r122 H locs ls w124 (show 1 ≤ a1.toInt by omega) (show a1.toInt ≤ 9 by omega) (show 0 ≤ a2.toInt by omega) (show a2.toInt ≤ 99999 by omega) (show 0 ≤ a3.toInt by omega) (show a3.toInt ≤ 2 by omega) (show 10 ≤ v76_4.toInt by omega) (show v76_4.toInt ≤ 130 by omega) (show (-1) ≤ v93_5.toInt by omega) (show v93_5.toInt ≤ 9 by omega) (show (-1) ≤ v93_6.toInt by omega) (show v93_6.toInt ≤ 9 by omega) (show 0 ≤ v76_8.toInt by omega) (show v76_8.toInt ≤ 9 by omega) (show 1 ≤ v93_9.toInt by omega) (show v93_9.toInt ≤ 9 by omega) (show 2 ≤ f76_12_0.toInt by omega) (show f76_12_0.toInt ≤ 10 by omega) (show 1 ≤ f76_12_1.toInt by omega) (show f76_12_1.toInt ≤ 13 by omega)  hw hT hF c127 c128 (lv_sub hl [1, 2, 3, 4, 5, 6, 7, 8, 9, 10, 0] rfl)
                · have c129 : (0 : Int) ≤ v93_5.toInt := wk_ltF c129
                  refine lv_iload hx hb dX12_built_175 (lv_at hl 0 rfl) ?_
                  refine lv_iload hx hb dX12_built_177 (lv_at hl 8 rfl) ?_
                  refine lv_icmp_lt (tgt := 185) hx hb dX12_built_179 (by decide) (fun c130 => ?_) (fun c130 => ?_)
                  · have c130 : r122.toInt < v93_7.toInt := wk_lt.mp c130
                    exact J185 r122 H locs ls w124 (show 1 ≤ a1.toInt by omega) (show a1.toInt ≤ 9 by omega) (show 0 ≤ a2.toInt by omega) (show a2.toInt ≤ 99999 by omega) (show 0 ≤ a3.toInt by omega) (show a3.toInt ≤ 2 by omega) (show 10 ≤ v76_4.toInt by omega) (show v76_4.toInt ≤ 130 by omega) (show (-1) ≤ v93_5.toInt by omega) (show v93_5.toInt ≤ 9 by omega) (show (-1) ≤ v93_6.toInt by omega) (show v93_6.toInt ≤ 9 by omega) (show 0 ≤ v76_8.toInt by omega) (show v76_8.toInt ≤ 9 by omega) (show 1 ≤ v93_9.toInt by omega) (show v93_9.toInt ≤ 9 by omega) (show 2 ≤ f76_12_0.toInt by omega) (show f76_12_0.toInt ≤ 10 by omega) (show 1 ≤ f76_12_1.toInt by omega) (show f76_12_1.toInt ≤ 13 by omega)  hw hT hF c127 c128 (lv_sub hl [1, 2, 3, 4, 5, 6, 7, 8, 9, 10, 0] rfl)
                  · have c130 : v93_7.toInt ≤ r122.toInt := wk_ltF c130
                    refine lv_goto (tgt := 197) hx hb dX12_built_182 (by decide) ?_
                    exact J197 v93_5 v93_6 v93_7 r122 H locs ls w124 (show 1 ≤ a1.toInt by omega) (show a1.toInt ≤ 9 by omega) (show 0 ≤ a2.toInt by omega) (show a2.toInt ≤ 99999 by omega) (show 0 ≤ a3.toInt by omega) (show a3.toInt ≤ 2 by omega) (show 10 ≤ v76_4.toInt by omega) (show v76_4.toInt ≤ 130 by omega) (show 0 ≤ v93_5.toInt by omega) (show v93_5.toInt ≤ 9 by omega) (show (-1) ≤ v93_6.toInt by omega) (show v93_6.toInt ≤ 9 by omega) (show 0 ≤ v76_8.toInt by omega) (show v76_8.toInt ≤ 9 by omega) (show 1 ≤ v93_9.toInt by omega) (show v93_9.toInt ≤ 9 by omega) (show 2 ≤ f76_12_0.toInt by omega) (show f76_12_0.toInt ≤ 10 by omega) (show 1 ≤ f76_12_1.toInt by omega) (show f76_12_1.toInt ≤ 13 by omega)  hw hT hF c127 c128 (lv_sub hl [1, 2, 3, 4, 5, 6, 7, 8, 9, 10, 0] rfl)
              · have c121 : v137_10.toInt < (7 : Int) := wk_leF c121
                refine lv_aload_n hx hb dX12_built_144 rfl (lv_at hl 0 rfl) ?_
                refine tk_getA hC hK hw hT hinX12 kM_at0 (by decide) rfl 26 (by decide) (List.mem_of_getElem? (i := 3) rfl) rfl rfl dX12_built_145 ?_
                refine lv_iload hx hb dX12_built_148 (lv_at hl 4 rfl) ?_
                refine lv_iconst (v := 3) hx hb dX12_built_150 (by decide) ?_
                refine lv_iadd hx hb dX12_built_151 ?_
                refine lv_topi (fun x131 ex131 => ?_)
                have ex131 : x131.toInt = v76_4.toInt + (3 : Int) := by rw [ex131]; exact wk_add (show (-2147483648) ≤ v76_4.toInt + (3 : Int) by omega) (show v76_4.toInt + (3 : Int) ≤ 2147483647 by omega)
                refine lv_iload hx hb dX12_built_152 (lv_at hl 10 rfl) ?_
                refine lv_iadd hx hb dX12_built_154 ?_
                refine lv_topi (fun x132 ex132 => ?_)
                have ex132 : x132.toInt = x131.toInt + v137_10.toInt := by rw [ex132]; exact wk_add (show (-2147483648) ≤ x131.toInt + v137_10.toInt by omega) (show x131.toInt + v137_10.toInt ≤ 2147483647 by omega)
                refine lv_iconst (v := 3) hx hb dX12_built_155 (by decide) ?_
                refine tk_iastR hC hK hw hT kM_at12 (by decide) rfl (show 0 ≤ x132.toInt by omega) (show x132.toInt < 296 by omega) (tk_rgS rfl 13 1 127 3 3 (by decide +kernel) ⟨(x132.toInt - 13).toNat, by omega, show x132.toInt.toNat = 13 + 1 * (x132.toInt - 13).toNat by omega⟩ (by decide) (by decide)) dX12_built_156 (fun H locs w133 hw hT k135 c134 => ?_)
                have hF := hF.put kM_at12 (inE_of (a := 13) (b := 139) (by decide) (show 13 ≤ x132.toInt.toNat by omega) (show x132.toInt.toNat ≤ 139 by omega)) k135
                have c136 := k135.gi (Or.inr (show 0 ≠ x132.toInt.toNat by omega)) c117
                have c137 := k135.gi (Or.inr (show 1 ≠ x132.toInt.toNat by omega)) c120
                obtain ⟨x138, ex138⟩ : ∃ y : Int32, y = v137_10 + Int32.ofInt 1 := ⟨_, rfl⟩
                refine lv_iinc (v := x138) (lv' := [(10, .int x138), (0, .ref (ad 0)), (1, .int a1), (2, .int a2), (3, .int a3), (4, .int v76_4), (5, .int v93_5), (6, .int v93_6), (7, .int v93_7), (8, .int v76_8), (9, .int v93_9)]) hx hb dX12_built_157 hl (k := 10) rfl ex138.symm (by decide) rfl (fun ls hl => ?_)
                have ex138 : x138.toInt = v137_10.toInt + 1 := by rw [ex138]; exact wk_add (y := 1) (show -2147483648 ≤ v137_10.toInt + 1 by omega) (show v137_10.toInt + 1 ≤ 2147483647 by omega)
                refine lv_goto (tgt := 137) hx hb dX12_built_160 (by decide) ?_
                exact ih137 x138 H locs ls w133 (show 1 ≤ a1.toInt by omega) (show a1.toInt ≤ 9 by omega) (show 0 ≤ a2.toInt by omega) (show a2.toInt ≤ 99999 by omega) (show 0 ≤ a3.toInt by omega) (show a3.toInt ≤ 2 by omega) (show 10 ≤ v76_4.toInt by omega) (show v76_4.toInt ≤ 130 by omega) (show (-1) ≤ v93_5.toInt by omega) (show v93_5.toInt ≤ 9 by omega) (show (-1) ≤ v93_6.toInt by omega) (show v93_6.toInt ≤ 9 by omega) (show 0 ≤ v76_8.toInt by omega) (show v76_8.toInt ≤ 9 by omega) (show 1 ≤ v93_9.toInt by omega) (show v93_9.toInt ≤ 9 by omega) (show 0 ≤ x138.toInt by omega) (show x138.toInt ≤ 7 by omega) (show 2 ≤ f76_12_0.toInt by omega) (show f76_12_0.toInt ≤ 10 by omega) (show 1 ≤ f76_12_1.toInt by omega) (show f76_12_1.toInt ≤ 13 by omega) (show (7 - x138.toInt).toNat < n137 by omega) hw hT hF c136 c137 (lv_sub hl [1, 2, 3, 4, 5, 6, 7, 8, 9, 10, 0] rfl)
          refine lv_iload hx hb dX12_built_93 (lv_at hl 9 rfl) ?_
          refine lv_aload_n hx hb dX12_built_95 rfl (lv_at hl 0 rfl) ?_
          refine tk_getA hC hK hw hT hinX12 kM_at0 (by decide) rfl 26 (by decide) (List.mem_of_getElem? (i := 3) rfl) rfl rfl dX12_built_96 ?_
          refine lv_iconst (v := 0) hx hb dX12_built_99 (by decide) ?_
          refine tk_ialdR hC hK hw hT kM_at12 rfl (by decide) (by decide) dX12_built_100 (fun x139 c140 Ex139 => ?_)
          refine wk_top f76_12_0 (c140.symm.trans c45) ?_
          refine lv_icmp_ge (tgt := 203) hx hb dX12_built_101 (by decide) (fun c141 => ?_) (fun c141 => ?_)
          · have c141 : f76_12_0.toInt ≤ v93_9.toInt := wk_le.mp c141
            obtain ⟨x142, ex142⟩ : ∃ y : Int32, y = v76_8 + Int32.ofInt 1 := ⟨_, rfl⟩
            refine lv_iinc (v := x142) (lv' := [(8, .int x142), (0, .ref (ad 0)), (1, .int a1), (2, .int a2), (3, .int a3), (4, .int v76_4), (5, .int v93_5), (6, .int v93_6), (7, .int v93_7), (9, .int v93_9)]) hx hb dX12_built_203 hl (k := 8) rfl ex142.symm (by decide) rfl (fun ls hl => ?_)
            have ex142 : x142.toInt = v76_8.toInt + 1 := by rw [ex142]; exact wk_add (y := 1) (show -2147483648 ≤ v76_8.toInt + 1 by omega) (show v76_8.toInt + 1 ≤ 2147483647 by omega)
            refine lv_goto (tgt := 76) hx hb dX12_built_206 (by decide) ?_
            exact ih76 v76_4 v93_5 v93_6 v93_7 x142 f76_12_0 f76_12_1 H locs ls w26 (show 1 ≤ a1.toInt by omega) (show a1.toInt ≤ 9 by omega) (show 0 ≤ a2.toInt by omega) (show a2.toInt ≤ 99999 by omega) (show 0 ≤ a3.toInt by omega) (show a3.toInt ≤ 2 by omega) (show 10 ≤ v76_4.toInt by omega) (show v76_4.toInt ≤ 130 by omega) (show (-1) ≤ v93_5.toInt by omega) (show v93_5.toInt ≤ 9 by omega) (show (-1) ≤ v93_6.toInt by omega) (show v93_6.toInt ≤ 9 by omega) (show 0 ≤ x142.toInt by omega) (show x142.toInt ≤ 10 by omega) (show 1 ≤ f76_12_0.toInt by omega) (show f76_12_0.toInt ≤ 10 by omega) (show 1 ≤ f76_12_1.toInt by omega) (show f76_12_1.toInt ≤ 13 by omega) (show (10 - x142.toInt).toNat < n76 by omega) hw hT hF c45 c48 (lv_sub hl [1, 2, 3, 4, 5, 6, 7, 8, 0] rfl)
          · have c141 : v93_9.toInt < f76_12_0.toInt := wk_leF c141
            refine lv_aload_n hx hb dX12_built_104 rfl (lv_at hl 0 rfl) ?_
            refine tk_getA hC hK hw hT hinX12 kM_at0 (by decide) rfl 26 (by decide) (List.mem_of_getElem? (i := 3) rfl) rfl rfl dX12_built_105 ?_
            refine lv_iload hx hb dX12_built_108 (lv_at hl 4 rfl) ?_
            refine lv_iload hx hb dX12_built_110 (lv_at hl 8 rfl) ?_
            refine tk_iastR hC hK hw hT kM_at12 (by decide) rfl (show 0 ≤ v76_4.toInt by omega) (show v76_4.toInt < 296 by omega) (tk_rgS rfl 10 1 121 0 9 (by decide +kernel) ⟨(v76_4.toInt - 10).toNat, by omega, show v76_4.toInt.toNat = 10 + 1 * (v76_4.toInt - 10).toNat by omega⟩ (show 0 ≤ v76_8.toInt by omega) (show v76_8.toInt ≤ 9 by omega)) dX12_built_112 (fun H locs w143 hw hT k145 c144 => ?_)
            have hF := hF.put kM_at12 (inE_of (a := 10) (b := 130) (by decide) (show 10 ≤ v76_4.toInt.toNat by omega) (show v76_4.toInt.toNat ≤ 130 by omega)) k145
            have c146 := k145.gi (Or.inr (show 0 ≠ v76_4.toInt.toNat by omega)) c45
            have c147 := k145.gi (Or.inr (show 1 ≠ v76_4.toInt.toNat by omega)) c48
            refine lv_aload_n hx hb dX12_built_113 rfl (lv_at hl 0 rfl) ?_
            refine tk_getA hC hK hw hT hinX12 kM_at0 (by decide) rfl 26 (by decide) (List.mem_of_getElem? (i := 3) rfl) rfl rfl dX12_built_114 ?_
            refine lv_iload hx hb dX12_built_117 (lv_at hl 4 rfl) ?_
            refine lv_iconst (v := 1) hx hb dX12_built_119 (by decide) ?_
            refine lv_iadd hx hb dX12_built_120 ?_
            refine lv_topi (fun x148 ex148 => ?_)
            have ex148 : x148.toInt = v76_4.toInt + (1 : Int) := by rw [ex148]; exact wk_add (show (-2147483648) ≤ v76_4.toInt + (1 : Int) by omega) (show v76_4.toInt + (1 : Int) ≤ 2147483647 by omega)
            refine lv_iload hx hb dX12_built_121 (lv_at hl 9 rfl) ?_
            refine tk_iastR hC hK hw hT kM_at12 (by decide) rfl (show 0 ≤ x148.toInt by omega) (show x148.toInt < 296 by omega) (tk_rgS rfl 11 1 121 1 9 (by decide +kernel) ⟨(v76_4.toInt - 10).toNat, by omega, show x148.toInt.toNat = 11 + 1 * (v76_4.toInt - 10).toNat by omega⟩ (show 1 ≤ v93_9.toInt by omega) (show v93_9.toInt ≤ 9 by omega)) dX12_built_123 (fun H locs w149 hw hT k151 c150 => ?_)
            have hF := hF.put kM_at12 (inE_of (a := 11) (b := 131) (by decide) (show 11 ≤ x148.toInt.toNat by omega) (show x148.toInt.toNat ≤ 131 by omega)) k151
            have c152 := k151.gi (Or.inr (show 0 ≠ x148.toInt.toNat by omega)) c146
            have c153 := k151.gi (Or.inr (show 1 ≠ x148.toInt.toNat by omega)) c147
            refine lv_aload_n hx hb dX12_built_124 rfl (lv_at hl 0 rfl) ?_
            refine tk_getA hC hK hw hT hinX12 kM_at0 (by decide) rfl 26 (by decide) (List.mem_of_getElem? (i := 3) rfl) rfl rfl dX12_built_125 ?_
            refine lv_iload hx hb dX12_built_128 (lv_at hl 4 rfl) ?_
            refine lv_iconst (v := 2) hx hb dX12_built_130 (by decide) ?_
            refine lv_iadd hx hb dX12_built_131 ?_
            refine lv_topi (fun x154 ex154 => ?_)
            have ex154 : x154.toInt = v76_4.toInt + (2 : Int) := by rw [ex154]; exact wk_add (show (-2147483648) ≤ v76_4.toInt + (2 : Int) by omega) (show v76_4.toInt + (2 : Int) ≤ 2147483647 by omega)
            refine lv_iload_n hx hb dX12_built_132 rfl (lv_at hl 1 rfl) ?_
            refine tk_iastR hC hK hw hT kM_at12 (by decide) rfl (show 0 ≤ x154.toInt by omega) (show x154.toInt < 296 by omega) (tk_rgS rfl 12 1 121 1 9 (by decide +kernel) ⟨(v76_4.toInt - 10).toNat, by omega, show x154.toInt.toNat = 12 + 1 * (v76_4.toInt - 10).toNat by omega⟩ (show 1 ≤ a1.toInt by omega) (show a1.toInt ≤ 9 by omega)) dX12_built_133 (fun H locs w155 hw hT k157 c156 => ?_)
            have hF := hF.put kM_at12 (inE_of (a := 12) (b := 132) (by decide) (show 12 ≤ x154.toInt.toNat by omega) (show x154.toInt.toNat ≤ 132 by omega)) k157
            have c158 := k157.gi (Or.inr (show 0 ≠ x154.toInt.toNat by omega)) c152
            have c159 := k157.gi (Or.inr (show 1 ≠ x154.toInt.toNat by omega)) c153
            refine lv_iconst (v := 0) hx hb dX12_built_134 (by decide) ?_
            refine lv_istore (lv' := [(10, .int 0), (0, .ref (ad 0)), (1, .int a1), (2, .int a2), (3, .int a3), (4, .int v76_4), (5, .int v93_5), (6, .int v93_6), (7, .int v93_7), (8, .int v76_8), (9, .int v93_9)]) hx hb dX12_built_135 hl (by decide) rfl (fun ls hl => ?_)
            exact L137 ((7 - (0 : Int)).toNat + 1) 0 H locs ls w155 (show 1 ≤ a1.toInt by omega) (show a1.toInt ≤ 9 by omega) (show 0 ≤ a2.toInt by omega) (show a2.toInt ≤ 99999 by omega) (show 0 ≤ a3.toInt by omega) (show a3.toInt ≤ 2 by omega) (show 10 ≤ v76_4.toInt by omega) (show v76_4.toInt ≤ 130 by omega) (show (-1) ≤ v93_5.toInt by omega) (show v93_5.toInt ≤ 9 by omega) (show (-1) ≤ v93_6.toInt by omega) (show v93_6.toInt ≤ 9 by omega) (show 0 ≤ v76_8.toInt by omega) (show v76_8.toInt ≤ 9 by omega) (show 1 ≤ v93_9.toInt by omega) (show v93_9.toInt ≤ 9 by omega) (by decide) (by decide) (show 2 ≤ f76_12_0.toInt by omega) (show f76_12_0.toInt ≤ 10 by omega) (show 1 ≤ f76_12_1.toInt by omega) (show f76_12_1.toInt ≤ 13 by omega) (Nat.lt_succ_self _) hw hT hF c158 c159 (lv_sub hl [1, 2, 3, 4, 5, 6, 7, 8, 9, 10, 0] rfl)
      refine lv_iload hx hb dX12_built_76 (lv_at hl 8 rfl) ?_
      refine lv_aload_n hx hb dX12_built_78 rfl (lv_at hl 0 rfl) ?_
      refine tk_getA hC hK hw hT hinX12 kM_at0 (by decide) rfl 26 (by decide) (List.mem_of_getElem? (i := 3) rfl) rfl rfl dX12_built_79 ?_
      refine lv_iconst (v := 0) hx hb dX12_built_82 (by decide) ?_
      refine tk_ialdR hC hK hw hT kM_at12 rfl (by decide) (by decide) dX12_built_83 (fun x160 c161 Ex160 => ?_)
      refine wk_top f76_12_0 (c161.symm.trans c22) ?_
      refine lv_icmp_ge (tgt := 209) hx hb dX12_built_84 (by decide) (fun c162 => ?_) (fun c162 => ?_)
      · have c162 : f76_12_0.toInt ≤ v76_8.toInt := wk_le.mp c162
        refine lv_aload_n hx hb dX12_built_209 rfl (lv_at hl 0 rfl) ?_
        refine tk_getA hC hK hw hT hinX12 kM_at0 (by decide) rfl 26 (by decide) (List.mem_of_getElem? (i := 3) rfl) rfl rfl dX12_built_210 ?_
        refine lv_iconst (v := 1) hx hb dX12_built_213 (by decide) ?_
        refine lv_dup2_11 hx hb dX12_built_214 rfl rfl ?_
        refine tk_ialdR hC hK hw hT kM_at12 rfl (by decide) (by decide) dX12_built_215 (fun x163 c164 Ex163 => ?_)
        refine wk_top f76_12_1 (c164.symm.trans c25) ?_
        refine lv_iconst (v := 1) hx hb dX12_built_216 (by decide) ?_
        refine lv_isub hx hb dX12_built_217 ?_
        refine lv_topi (fun x165 ex165 => ?_)
        have ex165 : x165.toInt = f76_12_1.toInt - (1 : Int) := by rw [ex165]; exact wk_sub (show (-2147483648) ≤ f76_12_1.toInt - (1 : Int) by omega) (show f76_12_1.toInt - (1 : Int) ≤ 2147483647 by omega)
        refine tk_iastR hC hK hw hT kM_at12 (by decide) rfl (by decide) (by decide) ((tk_rg1 rfl).mpr ⟨(show 0 ≤ x165.toInt by omega), (show x165.toInt ≤ if (71 : Nat) = 71 then (13 : Int) else 12 from (show x165.toInt ≤ 13 by omega))⟩) dX12_built_218 (fun H locs w166 hw hT k168 c167 => ?_)
        have hT := hT.s1d (show (gi w166 12 1).toInt ≤ 12 by rw [show gi w166 12 1 = x165 from c167]; omega)
        have hF := hF.put kM_at12 (inE_of (a := 1) (b := 1) (by decide) (by decide) (by decide)) k168
        have c169 := k168.gi (Or.inr (by decide)) c22
        have c167 : gi w166 12 1 = x165 := c167
        refine lv_iload_n hx hb dX12_built_219 rfl (lv_at hl 3 rfl) ?_
        refine lv_if_ne (tgt := 228) hx hb dX12_built_220 (by decide) (fun c170 => ?_) (fun c170 => ?_)
        · have c170 : ¬ a3.toInt = (0 : Int) := wk_eqF c170
          refine lv_iload_n hx hb dX12_built_228 rfl (lv_at hl 3 rfl) ?_
          refine lv_iconst (v := 1) hx hb dX12_built_229 (by decide) ?_
          refine lv_icmp_ne (tgt := 238) hx hb dX12_built_230 (by decide) (fun c171 => ?_) (fun c171 => ?_)
          · have c171 : ¬ a3.toInt = (1 : Int) := wk_eqF c171
            refine lv_iload hx hb dX12_built_238 (lv_at hl 7 rfl) ?_
            exact tk_iret hC hr hlocks hK ⟨hT, hF, (Or.inl ⟨(show 1 ≤ a1.toInt by omega), (show a1.toInt ≤ 9 by omega), (show 0 ≤ a2.toInt by omega), (show a2.toInt ≤ 99999 by omega), (show 0 ≤ a3.toInt by omega), (show a3.toInt ≤ 2 by omega), ⟨f76_12_0, c169, (show 1 ≤ f76_12_0.toInt by omega), (show f76_12_0.toInt ≤ 10 by omega)⟩⟩)⟩ hw dX12_built_240
          · have c171 : a3.toInt = (1 : Int) := wk_eq.mp c171
            refine lv_iload hx hb dX12_built_233 (lv_at hl 6 rfl) ?_
            refine lv_goto (tgt := 240) hx hb dX12_built_235 (by decide) ?_
            exact tk_iret hC hr hlocks hK ⟨hT, hF, (Or.inl ⟨(show 1 ≤ a1.toInt by omega), (show a1.toInt ≤ 9 by omega), (show 0 ≤ a2.toInt by omega), (show a2.toInt ≤ 99999 by omega), (show 0 ≤ a3.toInt by omega), (show a3.toInt ≤ 2 by omega), ⟨f76_12_0, c169, (show 1 ≤ f76_12_0.toInt by omega), (show f76_12_0.toInt ≤ 10 by omega)⟩⟩)⟩ hw dX12_built_240
        · have c170 : a3.toInt = (0 : Int) := wk_eq.mp c170
          refine lv_iload hx hb dX12_built_223 (lv_at hl 5 rfl) ?_
          refine lv_goto (tgt := 240) hx hb dX12_built_225 (by decide) ?_
          exact tk_iret hC hr hlocks hK ⟨hT, hF, (Or.inl ⟨(show 1 ≤ a1.toInt by omega), (show a1.toInt ≤ 9 by omega), (show 0 ≤ a2.toInt by omega), (show a2.toInt ≤ 99999 by omega), (show 0 ≤ a3.toInt by omega), (show a3.toInt ≤ 2 by omega), ⟨f76_12_0, c169, (show 1 ≤ f76_12_0.toInt by omega), (show f76_12_0.toInt ≤ 10 by omega)⟩⟩)⟩ hw dX12_built_240
      · have c162 : v76_8.toInt < f76_12_0.toInt := wk_leF c162
        refine lv_iload hx hb dX12_built_87 (lv_at hl 8 rfl) ?_
        refine lv_iconst (v := 1) hx hb dX12_built_89 (by decide) ?_
        refine lv_iadd hx hb dX12_built_90 ?_
        refine lv_topi (fun x172 ex172 => ?_)
        have ex172 : x172.toInt = v76_8.toInt + (1 : Int) := by rw [ex172]; exact wk_add (show (-2147483648) ≤ v76_8.toInt + (1 : Int) by omega) (show v76_8.toInt + (1 : Int) ≤ 2147483647 by omega)
        refine lv_istore (lv' := [(9, .int x172), (0, .ref (ad 0)), (1, .int a1), (2, .int a2), (3, .int a3), (4, .int v76_4), (5, .int v76_5), (6, .int v76_6), (7, .int v76_7), (8, .int v76_8)]) hx hb dX12_built_91 hl (by decide) rfl (fun ls hl => ?_)
        exact L93 ((10 - x172.toInt).toNat + 1) v76_5 v76_6 v76_7 x172 H locs ls w5 (show 1 ≤ a1.toInt by omega) (show a1.toInt ≤ 9 by omega) (show 0 ≤ a2.toInt by omega) (show a2.toInt ≤ 99999 by omega) (show 0 ≤ a3.toInt by omega) (show a3.toInt ≤ 2 by omega) (show 10 ≤ v76_4.toInt by omega) (show v76_4.toInt ≤ 130 by omega) (show (-1) ≤ v76_5.toInt by omega) (show v76_5.toInt ≤ 9 by omega) (show (-1) ≤ v76_6.toInt by omega) (show v76_6.toInt ≤ 9 by omega) (show 0 ≤ v76_8.toInt by omega) (show v76_8.toInt ≤ 9 by omega) (show 1 ≤ x172.toInt by omega) (show x172.toInt ≤ 10 by omega) (show 1 ≤ f76_12_0.toInt by omega) (show f76_12_0.toInt ≤ 10 by omega) (show 1 ≤ f76_12_1.toInt by omega) (show f76_12_1.toInt ≤ 13 by omega) (Nat.lt_succ_self _) hw hT hF c22 c25 (lv_sub hl [1, 2, 3, 4, 5, 6, 7, 8, 9, 0] rfl)
  refine lv_aload_n hx hb dX12_built_0 rfl (lv_at hl 0 rfl) ?_
  refine tk_Vi hC hK hw hT hA hE hSR kM_at0 (by decide) rfl (k_X12_isTown_1 l adK adV dC dI cy ad B (by omega) (by omega) qr s1    w0 s.heap.size hT ) (cwV 0 hC.2.2.2.2 gX12_built_X12_isTown rfl rfl rfl (by decide +kernel) ⟨Nat.le_of_ble_eq_true rfl, Nat.le_of_ble_eq_true rfl⟩) rfl hl.1 rfl (Nat.le_of_ble_eq_true rfl) dX12_built_1 (fun r173 w175 H locs hp174 hw => ?_)
  obtain ⟨rfl, hg181⟩ := hp174
  rcases hg181 with ⟨rfl, ⟨x177, c178, rx177, tx177⟩⟩ | ⟨rfl, ⟨x179, c180, rx179, tx179⟩⟩
  · refine lv_if_eq (tgt := 38) hx hb dX12_built_4 (by decide) (fun _ => ?_) (fun c => absurd (by decide) c)
    exact J38 x177 H locs ls w0 (show 0 ≤ x177.toInt by omega) (show x177.toInt ≤ 10 by omega)  hw hT hF c178 (lv_sub hl [0, 1, 2, 3] rfl)
  · refine lv_if_eq (tgt := 38) hx hb dX12_built_4 (by decide) (fun c => absurd c (by decide)) (fun _ => ?_)
    refine lv_iload_n hx hb dX12_built_7 rfl (lv_at hl 1 rfl) ?_
    refine lv_i2l hx hb dX12_built_8 rfl ?_
    refine lv_topl (fun x182 ex182 => ?_)
    have ex182 : x182.toInt = a1.toInt := by rw [ex182]; exact wk_i2l _
    have bx182 := wk_i32 a1
    refine lv_lconst (v := 1) hx hb dX12_built_9 (by decide) ?_
    refine lv_ldc2 (v := 9) hx hb hC.2.2.2.1 (hC.2.2.2.2 _ (List.mem_of_getElem? (i := 1) rfl)) dX12_built_10 ?_
    refine tk_Si hC hK hw hT hA hE hSR (k_X12_in_8 l adK adV dC dI cy ad B (by omega) (by omega) qr s1   x182 (show (-2147483648) ≤ x182.toInt by omega) (show x182.toInt ≤ 2147483647 by omega) w0 H.size hT ) (va_cwS 3 hC.2.2.2.2 gX12_built_X12_in rfl rfl rfl (by decide +kernel) ⟨Nat.le_of_ble_eq_true rfl, Nat.le_of_ble_eq_true rfl⟩) rfl hl.1 rfl (Nat.le_of_ble_eq_true rfl) dX12_built_13 (fun r183 w185 H locs hp184 hw => ?_)
    obtain ⟨rfl, hg189⟩ := hp184
    rcases hg189 with rfl | ⟨rfl, g187, g188⟩
    · refine lv_if_eq (tgt := 38) hx hb dX12_built_16 (by decide) (fun _ => ?_) (fun c => absurd (by decide) c)
      exact J38 x179 H locs ls w0 (show 0 ≤ x179.toInt by omega) (show x179.toInt ≤ 10 by omega)  hw hT hF c180 (lv_sub hl [0, 1, 2, 3] rfl)
    · refine lv_if_eq (tgt := 38) hx hb dX12_built_16 (by decide) (fun c => absurd c (by decide)) (fun _ => ?_)
      refine lv_iload_n hx hb dX12_built_19 rfl (lv_at hl 2 rfl) ?_
      refine tk_Si hC hK hw hT hA hE hSR (k_X12_isHour_1 l adK adV dC dI cy ad B (by omega) (by omega) qr s1   a2 w0 H.size hT ) (va_cwS 1 hC.2.2.2.2 gX12_built_X12_isHour rfl rfl rfl (by decide +kernel) ⟨Nat.le_of_ble_eq_true rfl, Nat.le_of_ble_eq_true rfl⟩) rfl hl.1 rfl (Nat.le_of_ble_eq_true rfl) dX12_built_20 (fun r190 w192 H locs hp191 hw => ?_)
      obtain ⟨rfl, hg196⟩ := hp191
      rcases hg196 with rfl | ⟨rfl, g194, g195⟩
      · refine lv_if_eq (tgt := 38) hx hb dX12_built_23 (by decide) (fun _ => ?_) (fun c => absurd (by decide) c)
        exact J38 x179 H locs ls w0 (show 0 ≤ x179.toInt by omega) (show x179.toInt ≤ 10 by omega)  hw hT hF c180 (lv_sub hl [0, 1, 2, 3] rfl)
      · refine lv_if_eq (tgt := 38) hx hb dX12_built_23 (by decide) (fun c => absurd c (by decide)) (fun _ => ?_)
        refine lv_iload_n hx hb dX12_built_26 rfl (lv_at hl 3 rfl) ?_
        refine lv_i2l hx hb dX12_built_27 rfl ?_
        refine lv_topl (fun x197 ex197 => ?_)
        have ex197 : x197.toInt = a3.toInt := by rw [ex197]; exact wk_i2l _
        have bx197 := wk_i32 a3
        refine lv_lconst (v := 0) hx hb dX12_built_28 (by decide) ?_
        refine lv_ldc2 (v := 2) hx hb hC.2.2.2.1 (hC.2.2.2.2 _ (List.mem_of_getElem? (i := 2) rfl)) dX12_built_29 ?_
        refine tk_Si hC hK hw hT hA hE hSR (k_X12_in_15 l adK adV dC dI cy ad B (by omega) (by omega) qr s1   x197 (show (-2147483648) ≤ x197.toInt by omega) (show x197.toInt ≤ 2147483647 by omega) w0 H.size hT ) (va_cwS 3 hC.2.2.2.2 gX12_built_X12_in rfl rfl rfl (by decide +kernel) ⟨Nat.le_of_ble_eq_true rfl, Nat.le_of_ble_eq_true rfl⟩) rfl hl.1 rfl (Nat.le_of_ble_eq_true rfl) dX12_built_32 (fun r198 w200 H locs hp199 hw => ?_)
        obtain ⟨rfl, hg204⟩ := hp199
        rcases hg204 with rfl | ⟨rfl, g202, g203⟩
        · refine lv_if_ne (tgt := 40) hx hb dX12_built_35 (by decide) (fun c => absurd (by decide) c) (fun _ => ?_)
          exact J38 x179 H locs ls w0 (show 0 ≤ x179.toInt by omega) (show x179.toInt ≤ 10 by omega)  hw hT hF c180 (lv_sub hl [0, 1, 2, 3] rfl)
        · refine lv_if_ne (tgt := 40) hx hb dX12_built_35 (by decide) (fun _ => ?_) (fun c => absurd c (by decide))
          refine lv_bipush (v := 10) hx hb dX12_built_40 (by decide) ?_
          refine lv_bipush (v := 10) hx hb dX12_built_42 (by decide) ?_
          refine lv_aload_n hx hb dX12_built_44 rfl (lv_at hl 0 rfl) ?_
          refine tk_getA hC hK hw hT hinX12 kM_at0 (by decide) rfl 26 (by decide) (List.mem_of_getElem? (i := 3) rfl) rfl rfl dX12_built_45 ?_
          refine lv_iconst (v := 1) hx hb dX12_built_48 (by decide) ?_
          refine tk_ialdR hC hK hw hT kM_at12 rfl (by decide) (by decide) dX12_built_49 (fun x205 c206 Ex205 => ?_)
          have bx205 : 0 ≤ x205.toInt ∧ x205.toInt ≤ 12 := (tk_rg1 rfl).mp Ex205
          have c206 : gi w0 12 1 = x205 := c206
          refine lv_imul hx hb dX12_built_50 ?_
          refine lv_topi (fun x207 ex207 => ?_)
          have ex207 : x207.toInt = (10 : Int) * x205.toInt := by rw [ex207]; exact wk_mul (show (-2147483648) ≤ (10 : Int) * x205.toInt by omega) (show (10 : Int) * x205.toInt ≤ 2147483647 by omega)
          refine lv_iadd hx hb dX12_built_51 ?_
          refine lv_topi (fun x208 ex208 => ?_)
          have ex208 : x208.toInt = (10 : Int) + x207.toInt := by rw [ex208]; exact wk_add (show (-2147483648) ≤ (10 : Int) + x207.toInt by omega) (show (10 : Int) + x207.toInt ≤ 2147483647 by omega)
          refine lv_istore (lv' := [(4, .int x208), (0, .ref (ad 0)), (1, .int a1), (2, .int a2), (3, .int a3)]) hx hb dX12_built_52 hl (by decide) rfl (fun ls hl => ?_)
          refine lv_aload_n hx hb dX12_built_54 rfl (lv_at hl 1 rfl) ?_
          refine tk_getA hC hK hw hT hinX12 kM_at0 (by decide) rfl 26 (by decide) (List.mem_of_getElem? (i := 3) rfl) rfl rfl dX12_built_55 ?_
          refine lv_iconst (v := 1) hx hb dX12_built_58 (by decide) ?_
          refine lv_dup2_11 hx hb dX12_built_59 rfl rfl ?_
          refine tk_ialdR hC hK hw hT kM_at12 rfl (by decide) (by decide) dX12_built_60 (fun x209 c210 Ex209 => ?_)
          refine wk_top x205 (c210.symm.trans c206) ?_
          refine lv_iconst (v := 1) hx hb dX12_built_61 (by decide) ?_
          refine lv_iadd hx hb dX12_built_62 ?_
          refine lv_topi (fun x211 ex211 => ?_)
          have ex211 : x211.toInt = x205.toInt + (1 : Int) := by rw [ex211]; exact wk_add (show (-2147483648) ≤ x205.toInt + (1 : Int) by omega) (show x205.toInt + (1 : Int) ≤ 2147483647 by omega)
          have hT := hT.s1 (s2 := 13) (by decide)
          refine tk_iastR hC hK hw hT kM_at12 (by decide) rfl (by decide) (by decide) ((tk_rg1 rfl).mpr ⟨(show 0 ≤ x211.toInt by omega), (show x211.toInt ≤ if (71 : Nat) = 71 then (13 : Int) else 12 from (show x211.toInt ≤ 13 by omega))⟩) dX12_built_63 (fun H locs w212 hw hT k214 c213 => ?_)
          have hF := hF.put kM_at12 (inE_of (a := 1) (b := 1) (by decide) (by decide) (by decide)) k214
          have c215 := k214.gi (Or.inr (by decide)) c180
          have c213 : gi w212 12 1 = x211 := c213
          refine lv_iconst (v := (-1)) hx hb dX12_built_64 (by decide) ?_
          refine lv_istore (lv' := [(5, .int (-1)), (4, .int x208), (0, .ref (ad 0)), (1, .int a1), (2, .int a2), (3, .int a3)]) hx hb dX12_built_65 hl (by decide) rfl (fun ls hl => ?_)
          refine lv_iconst (v := (-1)) hx hb dX12_built_67 (by decide) ?_
          refine lv_istore (lv' := [(6, .int (-1)), (5, .int (-1)), (4, .int x208), (0, .ref (ad 0)), (1, .int a1), (2, .int a2), (3, .int a3)]) hx hb dX12_built_68 hl (by decide) rfl (fun ls hl => ?_)
          refine lv_iconst (v := 0) hx hb dX12_built_70 (by decide) ?_
          refine lv_istore (lv' := [(7, .int 0), (6, .int (-1)), (5, .int (-1)), (4, .int x208), (0, .ref (ad 0)), (1, .int a1), (2, .int a2), (3, .int a3)]) hx hb dX12_built_71 hl (by decide) rfl (fun ls hl => ?_)
          refine lv_iconst (v := 0) hx hb dX12_built_73 (by decide) ?_
          refine lv_istore (lv' := [(8, .int 0), (7, .int 0), (6, .int (-1)), (5, .int (-1)), (4, .int x208), (0, .ref (ad 0)), (1, .int a1), (2, .int a2), (3, .int a3)]) hx hb dX12_built_74 hl (by decide) rfl (fun ls hl => ?_)
          exact L76 ((10 - (0 : Int)).toNat + 1) x208 (-1) (-1) 0 0 x179 x211 H locs ls w212 (show 1 ≤ a1.toInt by omega) (show a1.toInt ≤ 9 by omega) (show 0 ≤ a2.toInt by omega) (show a2.toInt ≤ 99999 by omega) (show 0 ≤ a3.toInt by omega) (show a3.toInt ≤ 2 by omega) (show 10 ≤ x208.toInt by omega) (show x208.toInt ≤ 130 by omega) (by decide) (by decide) (by decide) (by decide) (by decide) (by decide) (show 1 ≤ x179.toInt by omega) (show x179.toInt ≤ 10 by omega) (show 1 ≤ x211.toInt by omega) (show x211.toInt ≤ 13 by omega) (Nat.lt_succ_self _) hw hT hF c215 c213 (lv_sub hl [5, 6, 7, 8, 4, 3, 2, 1, 0] rfl)
