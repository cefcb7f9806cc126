abbrev P_X3_readSum_3 (ad : Nat → Nat) (cy : Nat → ClassId) (B : Int) (qr : Nat) (s1 : Int)  (w0 : va_W) : va_W → Prop := fun u => TW ksC ad cy B qr s1 u ∧ FE ksC [(2, 3, 3), (3, 2, 2), (6, 1, 1), (6, 3, 3), (6, 4, 4), (22, 0, 13), (23, 0, 400)] w0 u ∧ (((∃ y : Int32, gi u 1 4 = y ∧ 0 ≤ y.toInt ∧ y.toInt ≤ 3204)))
set_option maxHeartbeats 4000000 in
set_option maxRecDepth 100000 in
theorem k_X3_readSum_3 (l : Launch) (adK adV : Nat → Nat) (dC : Nat → ClassId) (dI : Nat → Nat → Nat) (cy : Nat → ClassId) (ad : Nat → Nat) (B : Int) (hB0 : 2147483648 ≤ B) (hB1 : B ≤ 1152921504606846976) (qr : Nat) (s1 : Int) (hqr : ksC[qr]? = some 2)  (w0 : va_W) (sz : Nat) (hT : TW ksC ad cy B qr s1 w0) (f0_ : Int32) (cf0_ : gi w0 1 4 = f0_) (rf0_ : 0 ≤ f0_.toInt) (tf0_ : f0_.toInt ≤ 3204) : Met l yX3_readSum wsX3_readSum ({ frames := 7, cells := 0, slots := 0, locals := 188 }) (va_Pc [.ref (ad 3)] (wpreS adK adV dC dI cy sz w0)) (va_Qv (P_X3_readSum_3 ad cy B qr s1  w0) (fun u : va_W => wpost dC dI cy (va_A w0 sz) u) (va_A w0 sz)) 0 0 (va_A w0 sz) := by
  refine Met.ofW (cc := cX3_readSum) (maxL := 4) (ret := none) (by decide) rfl ?_
  intro p e s m args below meth c s₁ Bk hml hv
  obtain ⟨rfl, ⟨hsz, hP, hK, hD0⟩, hE, hSR⟩ := hv
  have hx := Bk.exec
  have hb := Bk.bytes
  have hr := Bk.returns
  have hlocks := Bk.notSynchronized
  have hC : CallFix p m c cX3_readSum 4 s _ wsX3_readSum RX3 := ⟨hx, hb, hml, findClass_of_methodNamed Bk.named, atoms_spec (ws := wsX3_readSum) Bk.pre⟩
  subst hsz
  have hD := hD0.self (sz := s.heap.size)
  generalize hAe : va_A w0 s.heap.size = A at hD hE ⊢
  have hA : ∀ q : Nat, s.heap.size ≤ q → A q := fun q h => by rw [← hAe]; exact Or.inr h
  have hw : Wd dC dI A s.heap s.heap [] w0 := ⟨hP, hD, va_S.rf⟩
  have hF : FE ksC [(2, 3, 3), (3, 2, 2), (6, 1, 1), (6, 3, 3), (6, 4, 4), (22, 0, 13), (23, 0, 400)] w0 w0 := FE.rf
  have hl := lv_entry ([.ref (ad 3)]) (n := 4) (Nat.le_of_ble_eq_true rfl)
  rw [lg_entry_eq]
  generalize (lg_sl ([.ref (ad 3)]) ++ List.replicate (4 - (lg_sl ([.ref (ad 3)])).length) Slot.unset).toArray = ls at hl ⊢
  have hl : lv_has ls 4 [(0, .ref (ad 3))] := hl
  generalize hloc : ([] : List Loc) = locs at hw ⊢
  have hinX3 : ∀ w ∈ u_ws RX3 TX3 3, w ∈ wsX3_readSum := fun _ h => List.mem_cons_of_mem _ (List.mem_append_left _ (List.mem_append_left _ (List.mem_append_right _ (h))))
  have J82 : ∀ (v82_1 : Int32) (v82_2 : Int32) (f82_1_4 : Int32) (H : Heap) (locs : List Loc) (ls : Array Slot) (w1 : va_W), (-1) ≤ v82_1.toInt → v82_1.toInt ≤ 12 → 0 ≤ v82_2.toInt → v82_2.toInt ≤ 400 → 0 ≤ f82_1_4.toInt → f82_1_4.toInt ≤ 3204 → Wd dC dI A s.heap H locs w1 → TW ksC ad cy B qr s1 w1 → FE ksC [(2, 3, 3), (3, 2, 2), (6, 1, 1), (6, 3, 3), (6, 4, 4), (22, 0, 13), (23, 0, 400)] w0 w1 → gi w1 1 4 = f82_1_4 → lv_has ls 4 [(0, .ref (ad 3)), (1, .int v82_1), (2, .int v82_2)] → W p l e ({ frames := 7, cells := 0, slots := 0, locals := 188 }) s m (List.toArray [.ref (ad 3)]) below meth c H locs 0 0 (MQ below (va_Qv (P_X3_readSum_3 ad cy B qr s1  w0) (fun u : va_W => wpost dC dI cy A u) A) (List.toArray [.ref (ad 3)]) s 0 0 A) (F0 m 82 ls []) := by
    intro v82_1 v82_2 f82_1_4 H locs ls w1 r2 t3 r4 t5 r6 t7 hw hT hF c8 hl
    refine lv_aload_n hx hb dX3_readSum_82 rfl (lv_at hl 0 rfl) ?_
    refine lv_iload_n hx hb dX3_readSum_83 rfl (lv_at hl 1 rfl) ?_
    refine tk_Vv hC hK hw hT hA hE hSR kC_at3 (by decide) rfl (k_X3_addWaiting_2 l adK adV dC dI cy ad B (by omega) (by omega) qr s1 hqr  v82_1 (show (-1) ≤ v82_1.toInt by omega) (show v82_1.toInt ≤ 12 by omega) w1 H.size hT ) (cwV 1 hC.2.2.2.2 gX3_readSum_X3_addWaiting rfl rfl rfl (by decide +kernel) ⟨Nat.le_of_ble_eq_true rfl, Nat.le_of_ble_eq_true rfl⟩) rfl hl.1 rfl (Nat.le_of_ble_eq_true rfl) dX3_readSum_84 (fun w11 H locs hp10 hw => ?_)
    obtain ⟨hT, k12, hg13⟩ := hp10
    have hF := hF.tr k12 (by decide)
    have c14 := k12.gi kC_at1 (by decide) c8
    clear hg13
    exact tk_vret hC hr hlocks hK ⟨hT, hF, ⟨f82_1_4, c14, (show 0 ≤ f82_1_4.toInt by omega), (show f82_1_4.toInt ≤ 3204 by omega)⟩⟩ hw dX3_readSum_87
  have L8 : ∀ (n8 : Nat) (v8_1 : Int32) (v8_2 : Int32) (f8_1_4 : Int32) (H : Heap) (locs : List Loc) (ls : Array Slot) (w15 : va_W), (-1) ≤ v8_1.toInt → v8_1.toInt ≤ 12 → 0 ≤ v8_2.toInt → v8_2.toInt ≤ 400 → 0 ≤ f8_1_4.toInt → f8_1_4.toInt ≤ 3204 → (400 - v8_2.toInt).toNat < n8 → Wd dC dI A s.heap H locs w15 → TW ksC ad cy B qr s1 w15 → FE ksC [(2, 3, 3), (3, 2, 2), (6, 1, 1), (6, 3, 3), (6, 4, 4), (22, 0, 13), (23, 0, 400)] w0 w15 → gi w15 1 4 = f8_1_4 → lv_has ls 4 [(0, .ref (ad 3)), (1, .int v8_1), (2, .int v8_2)] → W p l e ({ frames := 7, cells := 0, slots := 0, locals := 188 }) s m (List.toArray [.ref (ad 3)]) below meth c H locs 0 0 (MQ below (va_Qv (P_X3_readSum_3 ad cy B qr s1  w0) (fun u : va_W => wpost dC dI cy A u) A) (List.toArray [.ref (ad 3)]) s 0 0 A) (F0 m 8 ls []) := by
    intro n8
    induction n8 with
    | zero => intro v8_1 v8_2 f8_1_4 H locs ls w15 r16 t17 r18 t19 r20 t21 hm8 hw hT hF c22 hl; omega
    | succ n8 ih8 =>
      intro v8_1 v8_2 f8_1_4 H locs ls w15 r16 t17 r18 t19 r20 t21 hm8 hw hT hF c22 hl
      have J76 : ∀ (v76_1 : Int32) (v76_3 : Int32) (f76_1_2 : Int32) (f76_1_4 : Int32) (H : Heap) (locs : List Loc) (ls : Array Slot) (w23 : va_W), (-1) ≤ v76_1.toInt → v76_1.toInt ≤ 12 → 0 ≤ v8_2.toInt → v8_2.toInt ≤ 399 → 10 ≤ v76_3.toInt → v76_3.toInt ≤ 13 → 1 ≤ f76_1_2.toInt → f76_1_2.toInt ≤ 400 → 0 ≤ f76_1_4.toInt → f76_1_4.toInt ≤ 3204 → Wd dC dI A s.heap H locs w23 → TW ksC ad cy B qr s1 w23 → FE ksC [(2, 3, 3), (3, 2, 2), (6, 1, 1), (6, 3, 3), (6, 4, 4), (22, 0, 13), (23, 0, 400)] w0 w23 → gi w23 1 2 = f76_1_2 → gi w23 1 4 = f76_1_4 → lv_has ls 4 [(0, .ref (ad 3)), (1, .int v76_1), (2, .int v8_2), (3, .int v76_3)] → W p l e ({ frames := 7, cells := 0, slots := 0, locals := 188 }) s m (List.toArray [.ref (ad 3)]) below meth c H locs 0 0 (MQ below (va_Qv (P_X3_readSum_3 ad cy B qr s1  w0) (fun u : va_W => wpost dC dI cy A u) A) (List.toArray [.ref (ad 3)]) s 0 0 A) (F0 m 76 ls []) := by
        intro v76_1 v76_3 f76_1_2 f76_1_4 H locs ls w23 r24 t25 r26 t27 r28 t29 r30 t31 r33 t34 hw hT hF c32 c35 hl
        obtain ⟨x36, ex36⟩ : ∃ y : Int32, y = v8_2 + Int32.ofInt 1 := ⟨_, rfl⟩
        refine lv_iinc (v := x36) (lv' := [(2, .int x36), (0, .ref (ad 3)), (1, .int v76_1), (3, .int v76_3)]) hx hb dX3_readSum_76 hl (k := 2) rfl ex36.symm (by decide) rfl (fun ls hl => ?_)
        have ex36 : x36.toInt = v8_2.toInt + 1 := by rw [ex36]; exact wk_add (y := 1) (show -2147483648 ≤ v8_2.toInt + 1 by omega) (show v8_2.toInt + 1 ≤ 2147483647 by omega)
        refine lv_goto (tgt := 8) hx hb dX3_readSum_79 (by decide) ?_
        exact ih8 v76_1 x36 f76_1_4 H locs ls w23 (show (-1) ≤ v76_1.toInt by omega) (show v76_1.toInt ≤ 12 by omega) (show 0 ≤ x36.toInt by omega) (show x36.toInt ≤ 400 by omega) (show 0 ≤ f76_1_4.toInt by omega) (show f76_1_4.toInt ≤ 3204 by omega) (show (400 - x36.toInt).toNat < n8 by omega) hw hT hF c35 (lv_sub hl [1, 2, 0] rfl)
      have J50 : ∀ (v50_3 : Int32) (f50_1_2 : Int32) (f50_1_3 : Int32) (H : Heap) (locs : List Loc) (ls : Array Slot) (w37 : va_W), (-1) ≤ v8_1.toInt → v8_1.toInt ≤ 12 → 0 ≤ v8_2.toInt → v8_2.toInt ≤ 399 → 12 ≤ v50_3.toInt → v50_3.toInt ≤ 13 → 1 ≤ f50_1_2.toInt → f50_1_2.toInt ≤ 400 → 0 ≤ f50_1_3.toInt → f50_1_3.toInt ≤ 399 → Wd dC dI A s.heap H locs w37 → TW ksC ad cy B qr s1 w37 → FE ksC [(2, 3, 3), (3, 2, 2), (6, 1, 1), (6, 3, 3), (6, 4, 4), (22, 0, 13), (23, 0, 400)] w0 w37 → gi w37 1 2 = f50_1_2 → gi w37 1 3 = f50_1_3 → gi w37 1 4 = 0 → lv_has ls 4 [(0, .ref (ad 3)), (1, .int v8_1), (2, .int v8_2), (3, .int v50_3)] → W p l e ({ frames := 7, cells := 0, slots := 0, locals := 188 }) s m (List.toArray [.ref (ad 3)]) below meth c H locs 0 0 (MQ below (va_Qv (P_X3_readSum_3 ad cy B qr s1  w0) (fun u : va_W => wpost dC dI cy A u) A) (List.toArray [.ref (ad 3)]) s 0 0 A) (F0 m 50 ls []) := by
        intro v50_3 f50_1_2 f50_1_3 H locs ls w37 r38 t39 r40 t41 r42 t43 r44 t45 r47 t48 hw hT hF c46 c49 c50 hl
        refine lv_aload_n hx hb dX3_readSum_50 rfl (lv_at hl 0 rfl) ?_
        refine tk_Vv hC hK hw hT hA hE hSR kC_at3 (by decide) rfl (k_X3_readValue_1 l adK adV dC dI cy ad B (by omega) (by omega) qr s1 hqr   w37 H.size hT c50) (cwV 0 hC.2.2.2.2 gX3_readSum_X3_readValue rfl rfl rfl (by decide +kernel) ⟨Nat.le_of_ble_eq_true rfl, Nat.le_of_ble_eq_true rfl⟩) rfl hl.1 rfl (Nat.le_of_ble_eq_true rfl) dX3_readSum_51 (fun w53 H locs hp52 hw => ?_)
        obtain ⟨hT, k54, hg57⟩ := hp52
        have hF := hF.tr k54 (by decide)
        have c58 := k54.gi kC_at1 (by decide) c46
        obtain ⟨x55, c56, rx55, tx55⟩ := hg57
        refine lv_aload_n hx hb dX3_readSum_54 rfl (lv_at hl 0 rfl) ?_
        refine tk_getQ hC hK hw hT hqr (by decide) hinX3 kC_at3 (by decide) rfl 1 (by decide) (List.mem_of_getElem? (i := 2) rfl) rfl rfl dX3_readSum_55 ?_
        refine lv_iload_n hx hb dX3_readSum_58 rfl (lv_at hl 3 rfl) ?_
        refine tk_Vv hC hK hw hT hA hE hSR hqr (by decide) rfl (k_X2_addToken_7 l adK adV dC dI cy ad B (by omega) (by omega) qr s1   qr hqr v50_3 (show 12 ≤ v50_3.toInt by omega) (show v50_3.toInt ≤ 13 by omega) w53 H.size hT ) (cwV 1 hC.2.2.2.2 gX3_readSum_X2_addToken rfl rfl rfl (by decide +kernel) ⟨Nat.le_of_ble_eq_true rfl, Nat.le_of_ble_eq_true rfl⟩) rfl hl.1 rfl (Nat.le_of_ble_eq_true rfl) dX3_readSum_59 (fun w61 H locs hp60 hw => ?_)
        obtain ⟨hT, k62, hg65⟩ := hp60
        have hF := hF.tr k62 (by decide)
        have c66 := k62.gi kC_at1 (by decide) c58
        have c67 := k62.gi kC_at1 (by decide) c56
        obtain ⟨x63, c64, rx63, tx63⟩ := hg65
        refine lv_goto (tgt := 76) hx hb dX3_readSum_62 (by decide) ?_
        exact J76 v8_1 v50_3 f50_1_2 x55 H locs ls w61 (show (-1) ≤ v8_1.toInt by omega) (show v8_1.toInt ≤ 12 by omega) (show 0 ≤ v8_2.toInt by omega) (show v8_2.toInt ≤ 399 by omega) (show 10 ≤ v50_3.toInt by omega) (show v50_3.toInt ≤ 13 by omega) (show 1 ≤ f50_1_2.toInt by omega) (show f50_1_2.toInt ≤ 400 by omega) (show 0 ≤ x55.toInt by omega) (show x55.toInt ≤ 3204 by omega)  hw hT hF c66 c67 (lv_sub hl [0, 1, 2, 3] rfl)
      refine lv_iload_n hx hb dX3_readSum_8 rfl (lv_at hl 2 rfl) ?_
      refine lv_sipush (v := 400) hx hb dX3_readSum_9 (by decide) ?_
      refine lv_icmp_ge (tgt := 82) hx hb dX3_readSum_12 (by decide) (fun c68 => ?_) (fun c68 => ?_)
      · have c68 : (400 : Int) ≤ v8_2.toInt := wk_le.mp c68
        exact J82 v8_1 v8_2 f8_1_4 H locs ls w15 (show (-1) ≤ v8_1.toInt by omega) (show v8_1.toInt ≤ 12 by omega) (show 0 ≤ v8_2.toInt by omega) (show v8_2.toInt ≤ 400 by omega) (show 0 ≤ f8_1_4.toInt by omega) (show f8_1_4.toInt ≤ 3204 by omega)  hw hT hF c22 (lv_sub hl [0, 1, 2] rfl)
      · have c68 : v8_2.toInt < (400 : Int) := wk_leF c68
        refine lv_aload_n hx hb dX3_readSum_15 rfl (lv_at hl 0 rfl) ?_
        refine tk_getA hC hK hw hT hinX3 kC_at3 (by decide) rfl 0 (by decide) (List.mem_of_getElem? (i := 1) rfl) rfl rfl dX3_readSum_16 ?_
        refine tk_Vi hC hK hw hT hA hE hSR kC_at1 (by decide) rfl (k_X6_isFaulty_2 l adK adV dC dI cy ad B (by omega) (by omega) qr s1    w15 H.size hT f8_1_4 c22 (show 0 ≤ f8_1_4.toInt by omega) (show f8_1_4.toInt ≤ 3204 by omega)) (cwV 0 hC.2.2.2.2 gX3_readSum_X6_isFaulty rfl rfl rfl (by decide +kernel) ⟨Nat.le_of_ble_eq_true rfl, Nat.le_of_ble_eq_true rfl⟩) rfl hl.1 rfl (Nat.le_of_ble_eq_true rfl) dX3_readSum_19 (fun r69 w71 H locs hp70 hw => ?_)
        obtain ⟨hT, k72, hg77⟩ := hp70
        have hF := hF.tr k72 (by decide)
        have c78 := k72.gi kC_at1 (by decide) c22
        rcases hg77 with ⟨rfl, ⟨x73, c74, rx73, tx73⟩⟩ | ⟨rfl, ⟨x75, c76, rx75, tx75⟩⟩
        · have ex73 : x73.toInt = f8_1_4.toInt := by rw [← c78.symm.trans c74]
          refine lv_if_ne (tgt := 82) hx hb dX3_readSum_22 (by decide) (fun c => absurd (by decide) c) (fun _ => ?_)
          refine lv_aload_n hx hb dX3_readSum_25 rfl (lv_at hl 0 rfl) ?_
          refine tk_Vi hC hK hw hT hA hE hSR kC_at3 (by decide) rfl (k_X3_takeOperator_1 l adK adV dC dI cy ad B (by omega) (by omega) qr s1    w71 H.size hT ) (cwV 0 hC.2.2.2.2 gX3_readSum_X3_takeOperator rfl rfl rfl (by decide +kernel) ⟨Nat.le_of_ble_eq_true rfl, Nat.le_of_ble_eq_true rfl⟩) rfl hl.1 rfl (Nat.le_of_ble_eq_true rfl) dX3_readSum_26 (fun r79 w81 H locs hp80 hw => ?_)
          obtain ⟨hT, k82, hg89⟩ := hp80
          have hF := hF.tr k82 (by decide)
          have c90 := k82.gi kC_at1 (by decide) c78
          rcases hg89 with ⟨g83, g84, ⟨x85, c86, rx85, tx85⟩, ⟨x87, c88, rx87, tx87⟩⟩ | rfl
          · refine lv_istore_n (lv' := [(3, .int r79), (0, .ref (ad 3)), (1, .int v8_1), (2, .int v8_2)]) hx hb dX3_readSum_29 rfl hl (by decide) rfl (fun ls hl => ?_)
            refine lv_iload_n hx hb dX3_readSum_30 rfl (lv_at hl 0 rfl) ?_
            refine lv_iconst (v := (-1)) hx hb dX3_readSum_31 (by decide) ?_
            refine lv_icmp_ne (tgt := 38) hx hb dX3_readSum_32 (by decide) (fun _ => ?_) (fun c => absurd (show r79.toInt = (-1 : Int) from wk_eq.mp c) (by omega))
            refine lv_iload_n hx hb dX3_readSum_38 rfl (lv_at hl 0 rfl) ?_
            refine lv_bipush (v := 12) hx hb dX3_readSum_39 (by decide) ?_
            refine lv_icmp_eq (tgt := 50) hx hb dX3_readSum_41 (by decide) (fun c91 => ?_) (fun c91 => ?_)
            · have c91 : r79.toInt = (12 : Int) := wk_eq.mp c91
              obtain rfl : f8_1_4 = 0 := wk_eq.mpr (show f8_1_4.toInt = 0 by omega)
              exact J50 r79 x85 x87 H locs ls w81 (show (-1) ≤ v8_1.toInt by omega) (show v8_1.toInt ≤ 12 by omega) (show 0 ≤ v8_2.toInt by omega) (show v8_2.toInt ≤ 399 by omega) (show 12 ≤ r79.toInt by omega) (show r79.toInt ≤ 13 by omega) (show 1 ≤ x85.toInt by omega) (show x85.toInt ≤ 400 by omega) (show 0 ≤ x87.toInt by omega) (show x87.toInt ≤ 399 by omega)  hw hT hF c86 c88 c90 (lv_sub hl [1, 2, 3, 0] rfl)
            · have c91 : ¬ r79.toInt = (12 : Int) := wk_eqF c91
              refine lv_iload_n hx hb dX3_readSum_44 rfl (lv_at hl 0 rfl) ?_
              refine lv_bipush (v := 13) hx hb dX3_readSum_45 (by decide) ?_
              refine lv_icmp_ne (tgt := 65) hx hb dX3_readSum_47 (by decide) (fun c92 => ?_) (fun c92 => ?_)
              · have c92 : ¬ r79.toInt = (13 : Int) := wk_eqF c92
                refine lv_aload_n hx hb dX3_readSum_65 rfl (lv_at hl 1 rfl) ?_
                refine lv_iload_n hx hb dX3_readSum_66 rfl (lv_at hl 2 rfl) ?_
                refine tk_Vv hC hK hw hT hA hE hSR kC_at3 (by decide) rfl (k_X3_addWaiting_2 l adK adV dC dI cy ad B (by omega) (by omega) qr s1 hqr  v8_1 (show (-1) ≤ v8_1.toInt by omega) (show v8_1.toInt ≤ 12 by omega) w81 H.size hT ) (cwV 1 hC.2.2.2.2 gX3_readSum_X3_addWaiting rfl rfl rfl (by decide +kernel) ⟨Nat.le_of_ble_eq_true rfl, Nat.le_of_ble_eq_true rfl⟩) rfl hl.1 rfl (Nat.le_of_ble_eq_true rfl) dX3_readSum_67 (fun w95 H locs hp94 hw => ?_)
                obtain ⟨hT, k96, hg97⟩ := hp94
                have hF := hF.tr k96 (by decide)
                have c98 := k96.gi kC_at1 (by decide) c90
                have c99 := k96.gi kC_at1 (by decide) c86
                have c100 := k96.gi kC_at1 (by decide) c88
                clear hg97
                refine lv_iload_n hx hb dX3_readSum_70 rfl (lv_at hl 0 rfl) ?_
                refine lv_istore_n (lv' := [(1, .int r79), (3, .int r79), (0, .ref (ad 3)), (2, .int v8_2)]) hx hb dX3_readSum_71 rfl hl (by decide) rfl (fun ls hl => ?_)
                refine lv_aload_n hx hb dX3_readSum_72 rfl (lv_at hl 2 rfl) ?_
                refine tk_Vv hC hK hw hT hA hE hSR kC_at3 (by decide) rfl (k_X3_readValue_1 l adK adV dC dI cy ad B (by omega) (by omega) qr s1 hqr   w95 H.size hT (c98.trans (wk_eq.mpr (show f8_1_4.toInt = 0 by omega)))) (cwV 0 hC.2.2.2.2 gX3_readSum_X3_readValue rfl rfl rfl (by decide +kernel) ⟨Nat.le_of_ble_eq_true rfl, Nat.le_of_ble_eq_true rfl⟩) rfl hl.1 rfl (Nat.le_of_ble_eq_true rfl) dX3_readSum_73 (fun w103 H locs hp102 hw => ?_)
                obtain ⟨hT, k104, hg107⟩ := hp102
                have hF := hF.tr k104 (by decide)
                have c108 := k104.gi kC_at1 (by decide) c99
                obtain ⟨x105, c106, rx105, tx105⟩ := hg107
                exact J76 r79 r79 x85 x105 H locs ls w103 (show (-1) ≤ r79.toInt by omega) (show r79.toInt ≤ 12 by omega) (show 0 ≤ v8_2.toInt by omega) (show v8_2.toInt ≤ 399 by omega) (show 10 ≤ r79.toInt by omega) (show r79.toInt ≤ 13 by omega) (show 1 ≤ x85.toInt by omega) (show x85.toInt ≤ 400 by omega) (show 0 ≤ x105.toInt by omega) (show x105.toInt ≤ 3204 by omega)  hw hT hF c108 c106 (lv_sub hl [2, 0, 3, 1] rfl)
              · have c92 : r79.toInt = (13 : Int) := wk_eq.mp c92
                obtain rfl : f8_1_4 = 0 := wk_eq.mpr (show f8_1_4.toInt = 0 by omega)
                exact J50 r79 x85 x87 H locs ls w81 (show (-1) ≤ v8_1.toInt by omega) (show v8_1.toInt ≤ 12 by omega) (show 0 ≤ v8_2.toInt by omega) (show v8_2.toInt ≤ 399 by omega) (show 12 ≤ r79.toInt by omega) (show r79.toInt ≤ 13 by omega) (show 1 ≤ x85.toInt by omega) (show x85.toInt ≤ 400 by omega) (show 0 ≤ x87.toInt by omega) (show x87.toInt ≤ 399 by omega)  hw hT hF c86 c88 c90 (lv_sub hl [1, 2, 3, 0] rfl)
          · refine lv_istore_n (lv' := [(3, .int (-1)), (0, .ref (ad 3)), (1, .int v8_1), (2, .int v8_2)]) hx hb dX3_readSum_29 rfl hl (by decide) rfl (fun ls hl => ?_)
            refine lv_iload_n hx hb dX3_readSum_30 rfl (lv_at hl 0 rfl) ?_
            refine lv_iconst (v := (-1)) hx hb dX3_readSum_31 (by decide) ?_
            refine lv_icmp_ne (tgt := 38) hx hb dX3_readSum_32 (by decide) (fun c => absurd (by decide) c) (fun _ => ?_)
            refine lv_goto (tgt := 82) hx hb dX3_readSum_35 (by decide) ?_
            exact J82 v8_1 v8_2 f8_1_4 H locs ls w81 (show (-1) ≤ v8_1.toInt by omega) (show v8_1.toInt ≤ 12 by omega) (show 0 ≤ v8_2.toInt by omega) (show v8_2.toInt ≤ 400 by omega) (show 0 ≤ f8_1_4.toInt by omega) (show f8_1_4.toInt ≤ 3204 by omega)  hw hT hF c90 (lv_sub hl [1, 2, 3] rfl)
        · have ex75 : x75.toInt = f8_1_4.toInt := by rw [← c78.symm.trans c76]
          refine lv_if_ne (tgt := 82) hx hb dX3_readSum_22 (by decide) (fun _ => ?_) (fun c => absurd c (by decide))
          exact J82 v8_1 v8_2 f8_1_4 H locs ls w71 (show (-1) ≤ v8_1.toInt by omega) (show v8_1.toInt ≤ 12 by omega) (show 0 ≤ v8_2.toInt by omega) (show v8_2.toInt ≤ 400 by omega) (show 0 ≤ f8_1_4.toInt by omega) (show f8_1_4.toInt ≤ 3204 by omega)  hw hT hF c78 (lv_sub hl [0, 1, 2] rfl)
  refine lv_aload_n hx hb dX3_readSum_0 rfl (lv_at hl 0 rfl) ?_
  refine tk_Vv hC hK hw hT hA hE hSR kC_at3 (by decide) rfl (k_X3_readValue_3 l adK adV dC dI cy ad B (by omega) (by omega) qr s1 hqr   w0 s.heap.size hT f0_ cf0_ (show 0 ≤ f0_.toInt by omega) (show f0_.toInt ≤ 3204 by omega)) (cwV 0 hC.2.2.2.2 gX3_readSum_X3_readValue rfl rfl rfl (by decide +kernel) ⟨Nat.le_of_ble_eq_true rfl, Nat.le_of_ble_eq_true rfl⟩) rfl hl.1 rfl (Nat.le_of_ble_eq_true rfl) dX3_readSum_1 (fun w111 H locs hp110 hw => ?_)
  obtain ⟨hT, k112, hg117⟩ := hp110
  have hF := hF.tr k112 (by decide)
  rcases hg117 with ⟨x113, c114, rx113, tx113⟩ | ⟨x115, c116, rx115, tx115⟩
  · refine lv_iconst (v := (-1)) hx hb dX3_readSum_4 (by decide) ?_
    refine lv_istore_n (lv' := [(1, .int (-1)), (0, .ref (ad 3))]) hx hb dX3_readSum_5 rfl hl (by decide) rfl (fun ls hl => ?_)
    refine lv_iconst (v := 0) hx hb dX3_readSum_6 (by decide) ?_
    refine lv_istore_n (lv' := [(2, .int 0), (1, .int (-1)), (0, .ref (ad 3))]) hx hb dX3_readSum_7 rfl hl (by decide) rfl (fun ls hl => ?_)
    exact L8 ((400 - (0 : Int)).toNat + 1) (-1) 0 x113 H locs ls w111 (by decide) (by decide) (by decide) (by decide) (show 0 ≤ x113.toInt by omega) (show x113.toInt ≤ 3204 by omega) (Nat.lt_succ_self _) hw hT hF c114 (lv_sub hl [2, 1, 0] rfl)
  · refine lv_iconst (v := (-1)) hx hb dX3_readSum_4 (by decide) ?_
    refine lv_istore_n (lv' := [(1, .int (-1)), (0, .ref (ad 3))]) hx hb dX3_readSum_5 rfl hl (by decide) rfl (fun ls hl => ?_)
    refine lv_iconst (v := 0) hx hb dX3_readSum_6 (by decide) ?_
    refine lv_istore_n (lv' := [(2, .int 0), (1, .int (-1)), (0, .ref (ad 3))]) hx hb dX3_readSum_7 rfl hl (by decide) rfl (fun ls hl => ?_)
    exact L8 ((400 - (0 : Int)).toNat + 1) (-1) 0 x115 H locs ls w111 (by decide) (by decide) (by decide) (by decide) (show 0 ≤ x115.toInt by omega) (show x115.toInt ≤ 3204 by omega) (Nat.lt_succ_self _) hw hT hF c116 (lv_sub hl [2, 1, 0] rfl)
abbrev P_X2_addToken_9 (ad : Nat → Nat) (cy : Nat → ClassId) (B : Int) (qr : Nat) (s1 : Int) (q0_ : Nat) (a1 : Int32) (w0 : va_W) : va_W → Prop := fun u => TW ksC ad cy B qr s1 u ∧ FE ksC [(2, 3, 3), (22, 0, 13), (23, 0, 400)] w0 u ∧ (((∃ y : Int32, gi u q0_ 3 = y ∧ 1 ≤ y.toInt ∧ y.toInt ≤ 400)))
set_option maxHeartbeats 4000000 in
set_option maxRecDepth 100000 in
theorem k_X2_addToken_9 (l : Launch) (adK adV : Nat → Nat) (dC : Nat → ClassId) (dI : Nat → Nat → Nat) (cy : Nat → ClassId) (ad : Nat → Nat) (B : Int) (hB0 : 2147483648 ≤ B) (hB1 : B ≤ 1152921504606846976) (qr : Nat) (s1 : Int)  (q0_ : Nat) (hkq0_ : ksC[q0_]? = some 2) (a1 : Int32) (ra1 : 14 ≤ a1.toInt) (ta1 : a1.toInt ≤ 18) (w0 : va_W) (sz : Nat) (hT : TW ksC ad cy B qr s1 w0)  : Met l yX2_addToken wsX2_addToken ({ frames := 1, cells := 0, slots := 0, locals := 12 }) (va_Pc [.ref (ad q0_), .int a1] (wpreS adK adV dC dI cy sz w0)) (va_Qv (P_X2_addToken_9 ad cy B qr s1 q0_ a1 w0) (fun u : va_W => wpost dC dI cy (va_A w0 sz) u) (va_A w0 sz)) 0 0 (va_A w0 sz) := by
  refine Met.ofW (cc := cX2_addToken) (maxL := 2) (ret := none) (by decide) rfl ?_
  intro p e s m args below meth c s₁ Bk hml hv
  obtain ⟨rfl, ⟨hsz, hP, hK, hD0⟩, hE, hSR⟩ := hv
  have hx := Bk.exec
  have hb := Bk.bytes
  have hr := Bk.returns
  have hlocks := Bk.notSynchronized
  have hC : CallFix p m c cX2_addToken 2 s _ wsX2_addToken RX2 := ⟨hx, hb, hml, findClass_of_methodNamed Bk.named, atoms_spec (ws := wsX2_addToken) Bk.pre⟩
  subst hsz
  have hD := hD0.self (sz := s.heap.size)
  generalize hAe : va_A w0 s.heap.size = A at hD hE ⊢
  have hA : ∀ q : Nat, s.heap.size ≤ q → A q := fun q h => by rw [← hAe]; exact Or.inr h
  have hw : Wd dC dI A s.heap s.heap [] w0 := ⟨hP, hD, va_S.rf⟩
  have hF : FE ksC [(2, 3, 3), (22, 0, 13), (23, 0, 400)] w0 w0 := FE.rf
  have hl := lv_entry ([.ref (ad q0_), .int a1]) (n := 2) (Nat.le_of_ble_eq_true rfl)
  rw [lg_entry_eq]
  generalize (lg_sl ([.ref (ad q0_), .int a1]) ++ List.replicate (2 - (lg_sl ([.ref (ad q0_), .int a1])).length) Slot.unset).toArray = ls at hl ⊢
  have hl : lv_has ls 2 [(0, .ref (ad q0_)), (1, .int a1)] := hl
  generalize hloc : ([] : List Loc) = locs at hw ⊢
  have hinX2 : ∀ w ∈ u_ws RX2 TX2 6, w ∈ wsX2_addToken := fun _ h => List.mem_cons_of_mem _ (List.mem_append_right _ (h))
  have J43 : ∀ (f43_q0__3 : Int32) (H : Heap) (locs : List Loc) (ls : Array Slot) (w1 : va_W), 14 ≤ a1.toInt → a1.toInt ≤ 18 → 1 ≤ f43_q0__3.toInt → f43_q0__3.toInt ≤ 400 → Wd dC dI A s.heap H locs w1 → TW ksC ad cy B qr s1 w1 → FE ksC [(2, 3, 3), (22, 0, 13), (23, 0, 400)] w0 w1 → gi w1 q0_ 3 = f43_q0__3 → lv_has ls 2 [(0, .ref (ad q0_)), (1, .int a1)] → W p l e ({ frames := 1, cells := 0, slots := 0, locals := 12 }) s m (List.toArray [.ref (ad q0_), .int a1]) below meth c H locs 0 0 (MQ below (va_Qv (P_X2_addToken_9 ad cy B qr s1 q0_ a1 w0) (fun u : va_W => wpost dC dI cy A u) A) (List.toArray [.ref (ad q0_), .int a1]) s 0 0 A) (F0 m 43 ls []) := by
    intro f43_q0__3 H locs ls w1 r2 t3 r4 t5 hw hT hF c6 hl
    exact tk_vret hC hr hlocks hK ⟨hT, hF, ⟨f43_q0__3, c6, (show 1 ≤ f43_q0__3.toInt by omega), (show f43_q0__3.toInt ≤ 400 by omega)⟩⟩ hw dX2_addToken_43
  refine lv_aload_n hx hb dX2_addToken_0 rfl (lv_at hl 0 rfl) ?_
  refine tk_geti hC hK hw hT hinX2 hkq0_ (by decide) rfl 3 (by decide) (List.mem_of_getElem? (i := 1) rfl) rfl rfl dX2_addToken_1 (fun x7 c8 rx7 tx7 => ?_)
  refine lv_sipush (v := 400) hx hb dX2_addToken_4 (by decide) ?_
  refine lv_icmp_ge (tgt := 43) hx hb dX2_addToken_7 (by decide) (fun c9 => ?_) (fun c9 => ?_)
  · have c9 : (400 : Int) ≤ x7.toInt := wk_le.mp c9
    exact J43 x7 s.heap locs ls w0 (show 14 ≤ a1.toInt by omega) (show a1.toInt ≤ 18 by omega) (show 1 ≤ x7.toInt by omega) (show x7.toInt ≤ 400 by omega)  hw hT hF c8 (lv_sub hl [0, 1] rfl)
  · have c9 : x7.toInt < (400 : Int) := wk_leF c9
    refine lv_aload_n hx hb dX2_addToken_10 rfl (lv_at hl 0 rfl) ?_
    refine tk_getO hC hK hw hT hinX2 hkq0_ (by decide) rfl 2 (by decide) (List.mem_of_getElem? (i := 2) rfl) rfl rfl dX2_addToken_11 ?_
    refine lv_aload_n hx hb dX2_addToken_14 rfl (lv_at hl 0 rfl) ?_
    refine tk_geti hC hK hw hT hinX2 hkq0_ (by decide) rfl 3 (by decide) (List.mem_of_getElem? (i := 1) rfl) rfl rfl dX2_addToken_15 (fun x10 c11 rx10 tx10 => ?_)
    refine wk_top x7 (c11.symm.trans c8) ?_
    refine lv_iload_n hx hb dX2_addToken_18 rfl (lv_at hl 1 rfl) ?_
    refine tk_iast hC hK hw hT (kC_2_3 hkq0_) (by decide) rfl rfl (show 0 ≤ x7.toInt by omega) (show x7.toInt < 400 by omega) (wk_i32 a1).1 (wk_i32 a1).2 dX2_addToken_19 (fun H locs w12 hw hT k14 c13 => ?_)
    have hF := hF.put (kC_2_3 hkq0_) (inE_of (a := 0) (b := 400) (by decide) (show 0 ≤ x7.toInt.toNat by omega) (show x7.toInt.toNat ≤ 400 by omega)) k14
    have c15 := k14.gi (Or.inl (tk_ne hkq0_ (kC_2_3 hkq0_) (by decide))) c8
    refine lv_aload_n hx hb dX2_addToken_20 rfl (lv_at hl 0 rfl) ?_
    refine lv_dup hx hb dX2_addToken_21 rfl ?_
    refine tk_geti hC hK hw hT hinX2 hkq0_ (by decide) rfl 3 (by decide) (List.mem_of_getElem? (i := 1) rfl) rfl rfl dX2_addToken_22 (fun x16 c17 rx16 tx16 => ?_)
    refine wk_top x7 (c17.symm.trans c15) ?_
    refine lv_iconst (v := 1) hx hb dX2_addToken_25 (by decide) ?_
    refine lv_iadd hx hb dX2_addToken_26 ?_
    refine lv_topi (fun x18 ex18 => ?_)
    have ex18 : x18.toInt = x7.toInt + (1 : Int) := by rw [ex18]; exact wk_add (show (-2147483648) ≤ x7.toInt + (1 : Int) by omega) (show x7.toInt + (1 : Int) ≤ 2147483647 by omega)
    refine tk_puti hC hK hw hT hinX2 tyX2_ok nmX2 hkq0_ (by decide) rfl rfl 3 (by decide) (List.mem_of_getElem? (i := 1) rfl) rfl rfl rfl rfl (show 0 ≤ x18.toInt by omega) (show x18.toInt ≤ 400 by omega) dX2_addToken_27 (fun H locs w19 hw hT k21 c20 => ?_)
    have hF := hF.put hkq0_ (k := 3) (by decide) k21
    refine lv_aload_n hx hb dX2_addToken_30 rfl (lv_at hl 0 rfl) ?_
    refine tk_getO hC hK hw hT hinX2 hkq0_ (by decide) rfl 1 (by decide) (List.mem_of_getElem? (i := 3) rfl) rfl rfl dX2_addToken_31 ?_
    refine lv_aload_n hx hb dX2_addToken_34 rfl (lv_at hl 0 rfl) ?_
    refine tk_geti hC hK hw hT hinX2 hkq0_ (by decide) rfl 4 (by decide) (List.mem_of_getElem? (i := 4) rfl) rfl rfl dX2_addToken_35 (fun x22 c23 rx22 tx22 => ?_)
    refine lv_aload_n hx hb dX2_addToken_38 rfl (lv_at hl 0 rfl) ?_
    refine tk_geti hC hK hw hT hinX2 hkq0_ (by decide) rfl 3 (by decide) (List.mem_of_getElem? (i := 1) rfl) rfl rfl dX2_addToken_39 (fun x24 c25 rx24 tx24 => ?_)
    refine wk_top x18 (c25.symm.trans c20) ?_
    refine tk_iast hC hK hw hT (kC_2_2 hkq0_) (by decide) rfl rfl (show 0 ≤ x22.toInt by omega) (show x22.toInt < 13 by omega) (show 0 ≤ x18.toInt by omega) (show x18.toInt ≤ 400 by omega) dX2_addToken_42 (fun H locs w26 hw hT k28 c27 => ?_)
    have hF := hF.put (kC_2_2 hkq0_) (inE_of (a := 0) (b := 13) (by decide) (show 0 ≤ x22.toInt.toNat by omega) (show x22.toInt.toNat ≤ 13 by omega)) k28
    have c29 := k28.gi (Or.inl (tk_ne hkq0_ (kC_2_2 hkq0_) (by decide))) c20
    have c30 := k28.gi (Or.inl (tk_ne hkq0_ (kC_2_2 hkq0_) (by decide))) c23
    exact J43 x18 H locs ls w26 (show 14 ≤ a1.toInt by omega) (show a1.toInt ≤ 18 by omega) (show 1 ≤ x18.toInt by omega) (show x18.toInt ≤ 400 by omega)  hw hT hF c29 (lv_sub hl [0, 1] rfl)
abbrev P_X6_takeWord_4 (ad : Nat → Nat) (cy : Nat → ClassId) (B : Int) (qr : Nat) (s1 : Int)  (w0 : va_W) : Int32 → va_W → Prop := fun r u => TW ksC ad cy B qr s1 u ∧ FE ksC [(6, 1, 1), (6, 3, 3)] w0 u ∧ ((r = 0) ∨ (r = 1 ∧ (∃ y : Int32, gi u 1 1 = y ∧ 3 ≤ y.toInt ∧ y.toInt ≤ 400)))
set_option maxHeartbeats 4000000 in
set_option maxRecDepth 100000 in
theorem k_X6_takeWord_4 (l : Launch) (adK adV : Nat → Nat) (dC : Nat → ClassId) (dI : Nat → Nat → Nat) (cy : Nat → ClassId) (ad : Nat → Nat) (B : Int) (hB0 : 2147483648 ≤ B) (hB1 : B ≤ 1152921504606846976) (qr : Nat) (s1 : Int)   (w0 : va_W) (sz : Nat) (hT : TW ksC ad cy B qr s1 w0)  : Met l yX6_takeWord wsX6_takeWord ({ frames := 5, cells := 0, slots := 0, locals := 141 }) (va_Pc [.ref (ad 1), .ref (adK 4)] (wpreS adK adV dC dI cy sz w0)) (va_Qi (P_X6_takeWord_4 ad cy B qr s1  w0) (fun u : va_W => wpost dC dI cy (va_A w0 sz) u) (va_A w0 sz)) 0 0 (va_A w0 sz) := by
  refine Met.ofW (cc := cX6_takeWord) (maxL := 4) (ret := (some .boolean)) (by decide) rfl ?_
  intro p e s m args below meth c s₁ Bk hml hv
  obtain ⟨rfl, ⟨hsz, hP, hK, hD0⟩, hE, hSR⟩ := hv
  have hx := Bk.exec
  have hb := Bk.bytes
  have hr := Bk.returns
  have hlocks := Bk.notSynchronized
  have hC : CallFix p m c cX6_takeWord 4 s _ wsX6_takeWord RX6 := ⟨hx, hb, hml, findClass_of_methodNamed Bk.named, atoms_spec (ws := wsX6_takeWord) Bk.pre⟩
  subst hsz
  have hD := hD0.self (sz := s.heap.size)
  generalize hAe : va_A w0 s.heap.size = A at hD hE ⊢
  have hA : ∀ q : Nat, s.heap.size ≤ q → A q := fun q h => by rw [← hAe]; exact Or.inr h
  have hw : Wd dC dI A s.heap s.heap [] w0 := ⟨hP, hD, va_S.rf⟩
  have hF : FE ksC [(6, 1, 1), (6, 3, 3)] w0 w0 := FE.rf
  have hl := lv_entry ([.ref (ad 1), .ref (adK 4)]) (n := 4) (Nat.le_of_ble_eq_true rfl)
  rw [lg_entry_eq]
  generalize (lg_sl ([.ref (ad 1), .ref (adK 4)]) ++ List.replicate (4 - (lg_sl ([.ref (ad 1), .ref (adK 4)])).length) Slot.unset).toArray = ls at hl ⊢
  have hl : lv_has ls 4 [(0, .ref (ad 1)), (1, .ref (adK 4))] := hl
  generalize hloc : ([] : List Loc) = locs at hw ⊢
  have hinX6 : ∀ w ∈ u_ws RX6 TX6 5, w ∈ wsX6_takeWord := fun _ h => List.mem_cons_of_mem _ (List.mem_append_right _ (h))
  have L27 : ∀ (n27 : Nat) (v27_2 : Int32) (v27_3 : Int32) (f27_1_1 : Int32) (H : Heap) (locs : List Loc) (ls : Array Slot) (w1 : va_W), 3 ≤ v27_2.toInt → v27_2.toInt ≤ 400 → 0 ≤ v27_3.toInt → v27_3.toInt ≤ 3 → 0 ≤ f27_1_1.toInt → f27_1_1.toInt ≤ 397 → (3 - v27_3.toInt).toNat < n27 → Wd dC dI A s.heap H locs w1 → TW ksC ad cy B qr s1 w1 → FE ksC [(6, 1, 1), (6, 3, 3)] w0 w1 → gi w1 1 1 = f27_1_1 → lv_has ls 4 [(0, .ref (ad 1)), (1, .ref (adK 4)), (2, .int v27_2), (3, .int v27_3)] → W p l e ({ frames := 5, cells := 0, slots := 0, locals := 141 }) s m (List.toArray [.ref (ad 1), .ref (adK 4)]) below meth c H locs 0 0 (MQ below (va_Qi (P_X6_takeWord_4 ad cy B qr s1  w0) (fun u : va_W => wpost dC dI cy A u) A) (List.toArray [.ref (ad 1), .ref (adK 4)]) s 0 0 A) (F0 m 27 ls []) := by
    intro n27
    induction n27 with
    | zero => intro v27_2 v27_3 f27_1_1 H locs ls w1 r2 t3 r4 t5 r6 t7 hm27 hw hT hF c8 hl; omega
    | succ n27 ih27 =>
      intro v27_2 v27_3 f27_1_1 H locs ls w1 r2 t3 r4 t5 r6 t7 hm27 hw hT hF c8 hl
      refine lv_iload_n hx hb dX6_takeWord_27 rfl (lv_at hl 3 rfl) ?_
      refine lv_aload_n hx hb dX6_takeWord_28 rfl (lv_at hl 1 rfl) ?_
      refine tk_ViT hC hK hw hA hE hSR (s_length l adK adV dC dI cy 4 (by decide) H.size) (cwV 0 hC.2.2.2.2 gX6_takeWord_J0_length_8abf5 rfl rfl rfl (by decide +kernel) ⟨Nat.le_of_ble_eq_true rfl, Nat.le_of_ble_eq_true rfl⟩) 4 (by decide) rfl rfl hl.1 rfl (Nat.le_of_ble_eq_true rfl) dX6_takeWord_29 (fun r9 H locs hp10 hw => ?_)
      obtain ⟨-, hp10⟩ := hp10
      obtain rfl : r9 = 3 := hp10
      refine lv_icmp_ge (tgt := 62) hx hb dX6_takeWord_32 (by decide) (fun c11 => ?_) (fun c11 => ?_)
      · have c11 : (3 : Int) ≤ v27_3.toInt := wk_le.mp c11
        refine lv_aload_n hx hb dX6_takeWord_62 rfl (lv_at hl 0 rfl) ?_
        refine lv_iload_n hx hb dX6_takeWord_63 rfl (lv_at hl 2 rfl) ?_
        refine tk_puti hC hK hw hT hinX6 tyX6_ok nmX6 kC_at1 (by decide) rfl rfl 1 (by decide) (List.mem_of_getElem? (i := 1) rfl) rfl rfl rfl rfl (show 0 ≤ v27_2.toInt by omega) (show v27_2.toInt ≤ 400 by omega) dX6_takeWord_64 (fun H locs w12 hw hT k14 c13 => ?_)
        have hF := hF.put kC_at1 (k := 1) (by decide) k14
        refine lv_iconst (v := 1) hx hb dX6_takeWord_67 (by decide) ?_
        exact tk_zret hC hr rfl hlocks hK ⟨hT, hF, (Or.inr ⟨rfl, ⟨v27_2, c13, (show 3 ≤ v27_2.toInt by omega), (show v27_2.toInt ≤ 400 by omega)⟩⟩)⟩ hw dX6_takeWord_68
      · have c11 : v27_3.toInt < (3 : Int) := wk_leF c11
        refine lv_aload_n hx hb dX6_takeWord_35 rfl (lv_at hl 0 rfl) ?_
        refine tk_getA hC hK hw hT hinX6 kC_at1 (by decide) rfl 0 (by decide) (List.mem_of_getElem? (i := 2) rfl) rfl rfl dX6_takeWord_36 ?_
        refine lv_aload_n hx hb dX6_takeWord_39 rfl (lv_at hl 0 rfl) ?_
        refine tk_geti hC hK hw hT hinX6 kC_at1 (by decide) rfl 1 (by decide) (List.mem_of_getElem? (i := 1) rfl) rfl rfl dX6_takeWord_40 (fun x15 c16 rx15 tx15 => ?_)
        refine wk_top f27_1_1 (c16.symm.trans c8) ?_
        refine lv_iload_n hx hb dX6_takeWord_43 rfl (lv_at hl 3 rfl) ?_
        refine lv_iadd hx hb dX6_takeWord_44 ?_
        refine lv_topi (fun x17 ex17 => ?_)
        have ex17 : x17.toInt = f27_1_1.toInt + v27_3.toInt := by rw [ex17]; exact wk_add (show (-2147483648) ≤ f27_1_1.toInt + v27_3.toInt by omega) (show f27_1_1.toInt + v27_3.toInt ≤ 2147483647 by omega)
        refine tk_iald hC hK hw hT kC_at2 rfl rfl (show 0 ≤ x17.toInt by omega) (show x17.toInt < 400 by omega) dX6_takeWord_45 (fun x18 c19 rx18 tx18 => ?_)
        refine lv_aload_n hx hb dX6_takeWord_46 rfl (lv_at hl 1 rfl) ?_
        refine lv_iload_n hx hb dX6_takeWord_47 rfl (lv_at hl 3 rfl) ?_
        refine tk_ViT hC hK hw hA hE hSR (s_charAt l adK adV dC dI cy 4 (by decide) v27_3 (show 0 ≤ v27_3.toInt by omega) (show v27_3.toInt < 3 by omega) H.size) (cwV 1 hC.2.2.2.2 gX6_takeWord_J0_charAt_5068e rfl rfl rfl (by decide +kernel) ⟨Nat.le_of_ble_eq_true rfl, Nat.le_of_ble_eq_true rfl⟩) 4 (by decide) rfl rfl hl.1 rfl (Nat.le_of_ble_eq_true rfl) dX6_takeWord_48 (fun r20 H locs hp21 hw => ?_)
        refine lv_icmp_eq (tgt := 56) hx hb dX6_takeWord_51 (by decide) (fun c22 => ?_) (fun c22 => ?_)
        · have c22 : x18.toInt = r20.toInt := wk_eq.mp c22
          obtain ⟨x23, ex23⟩ : ∃ y : Int32, y = v27_3 + Int32.ofInt 1 := ⟨_, rfl⟩
          refine lv_iinc (v := x23) (lv' := [(3, .int x23), (0, .ref (ad 1)), (1, .ref (adK 4)), (2, .int v27_2)]) hx hb dX6_takeWord_56 hl (k := 3) rfl ex23.symm (by decide) rfl (fun ls hl => ?_)
          have ex23 : x23.toInt = v27_3.toInt + 1 := by rw [ex23]; exact wk_add (y := 1) (show -2147483648 ≤ v27_3.toInt + 1 by omega) (show v27_3.toInt + 1 ≤ 2147483647 by omega)
          refine lv_goto (tgt := 27) hx hb dX6_takeWord_59 (by decide) ?_
          exact ih27 v27_2 x23 f27_1_1 H locs ls w1 (show 3 ≤ v27_2.toInt by omega) (show v27_2.toInt ≤ 400 by omega) (show 0 ≤ x23.toInt by omega) (show x23.toInt ≤ 3 by omega) (show 0 ≤ f27_1_1.toInt by omega) (show f27_1_1.toInt ≤ 397 by omega) (show (3 - x23.toInt).toNat < n27 by omega) hw hT hF c8 (lv_sub hl [1, 2, 3, 0] rfl)
        · have c22 : ¬ x18.toInt = r20.toInt := wk_eqF c22
          refine lv_iconst (v := 0) hx hb dX6_takeWord_54 (by decide) ?_
          exact tk_zret hC hr rfl hlocks hK ⟨hT, hF, (Or.inl rfl)⟩ hw dX6_takeWord_55
  refine lv_aload_n hx hb dX6_takeWord_0 rfl (lv_at hl 0 rfl) ?_
  refine tk_Vi hC hK hw hT hA hE hSR kC_at1 (by decide) rfl (k_X6_lookBehindBlanks_1 l adK adV dC dI cy ad B (by omega) (by omega) qr s1    w0 s.heap.size hT ) (cwV 0 hC.2.2.2.2 gX6_takeWord_X6_lookBehindBlanks rfl rfl rfl (by decide +kernel) ⟨Nat.le_of_ble_eq_true rfl, Nat.le_of_ble_eq_true rfl⟩) rfl hl.1 rfl (Nat.le_of_ble_eq_true rfl) dX6_takeWord_1 (fun r24 w26 H locs hp25 hw => ?_)
  obtain ⟨hT, k27, hg36⟩ := hp25
  have hF := hF.tr k27 (by decide)
  rcases hg36 with ⟨g28, g29, ⟨x30, c31, rx30, tx30⟩, ⟨x32, c33, rx32, tx32⟩, ⟨x34, c35, rx34, tx34⟩⟩ | rfl
  · refine lv_pop hx hb dX6_takeWord_4 rfl ?_
    refine lv_aload_n hx hb dX6_takeWord_5 rfl (lv_at hl 0 rfl) ?_
    refine tk_Vi hC hK hw hT hA hE hSR kC_at1 (by decide) rfl (k_X6_endOfWord_1 l adK adV dC dI cy ad B (by omega) (by omega) qr s1    w26 H.size hT ) (cwV 0 hC.2.2.2.2 gX6_takeWord_X6_endOfWord rfl rfl rfl (by decide +kernel) ⟨Nat.le_of_ble_eq_true rfl, Nat.le_of_ble_eq_true rfl⟩) rfl hl.1 rfl (Nat.le_of_ble_eq_true rfl) dX6_takeWord_6 (fun r37 w39 H locs hp38 hw => ?_)
    obtain ⟨hT, k40, hg43⟩ := hp38
    have hF := hF.tr k40 (by decide)
    have c44 := k40.gi kC_at1 (by decide) c31
    have c45 := k40.gi kC_at1 (by decide) c33
    have c46 := k40.gi kC_at1 (by decide) c35
    obtain ⟨g41, g42⟩ := hg43
    refine lv_istore_n (lv' := [(2, .int r37), (0, .ref (ad 1)), (1, .ref (adK 4))]) hx hb dX6_takeWord_9 rfl hl (by decide) rfl (fun ls hl => ?_)
    refine lv_iload_n hx hb dX6_takeWord_10 rfl (lv_at hl 0 rfl) ?_
    refine lv_aload_n hx hb dX6_takeWord_11 rfl (lv_at hl 1 rfl) ?_
    refine tk_geti hC hK hw hT hinX6 kC_at1 (by decide) rfl 1 (by decide) (List.mem_of_getElem? (i := 1) rfl) rfl rfl dX6_takeWord_12 (fun x47 c48 rx47 tx47 => ?_)
    refine wk_top x30 (c48.symm.trans c44) ?_
    refine lv_isub hx hb dX6_takeWord_15 ?_
    refine lv_topi (fun x49 ex49 => ?_)
    have ex49 : x49.toInt = r37.toInt - x30.toInt := by rw [ex49]; exact wk_sub (show (-2147483648) ≤ r37.toInt - x30.toInt by omega) (show r37.toInt - x30.toInt ≤ 2147483647 by omega)
    refine lv_aload_n hx hb dX6_takeWord_16 rfl (lv_at hl 2 rfl) ?_
    refine tk_ViT hC hK hw hA hE hSR (s_length l adK adV dC dI cy 4 (by decide) H.size) (cwV 0 hC.2.2.2.2 gX6_takeWord_J0_length_8abf5 rfl rfl rfl (by decide +kernel) ⟨Nat.le_of_ble_eq_true rfl, Nat.le_of_ble_eq_true rfl⟩) 4 (by decide) rfl rfl hl.1 rfl (Nat.le_of_ble_eq_true rfl) dX6_takeWord_17 (fun r50 H locs hp51 hw => ?_)
    obtain ⟨-, hp51⟩ := hp51
    obtain rfl : r50 = 3 := hp51
    refine lv_icmp_eq (tgt := 25) hx hb dX6_takeWord_20 (by decide) (fun c52 => ?_) (fun c52 => ?_)
    · have c52 : x49.toInt = (3 : Int) := wk_eq.mp c52
      refine lv_iconst (v := 0) hx hb dX6_takeWord_25 (by decide) ?_
      refine lv_istore_n (lv' := [(3, .int 0), (2, .int r37), (0, .ref (ad 1)), (1, .ref (adK 4))]) hx hb dX6_takeWord_26 rfl hl (by decide) rfl (fun ls hl => ?_)
      exact L27 ((3 - (0 : Int)).toNat + 1) r37 0 x30 H locs ls w39 (show 3 ≤ r37.toInt by omega) (show r37.toInt ≤ 400 by omega) (by decide) (by decide) (show 0 ≤ x30.toInt by omega) (show x30.toInt ≤ 397 by omega) (Nat.lt_succ_self _) hw hT hF c44 (lv_sub hl [2, 3, 1, 0] rfl)
    · have c52 : ¬ x49.toInt = (3 : Int) := wk_eqF c52
      refine lv_iconst (v := 0) hx hb dX6_takeWord_23 (by decide) ?_
      exact tk_zret hC hr rfl hlocks hK ⟨hT, hF, (Or.inl rfl)⟩ hw dX6_takeWord_24
  · refine lv_pop hx hb dX6_takeWord_4 rfl ?_
    refine lv_aload_n hx hb dX6_takeWord_5 rfl (lv_at hl 0 rfl) ?_
    refine tk_Vi hC hK hw hT hA hE hSR kC_at1 (by decide) rfl (k_X6_endOfWord_1 l adK adV dC dI cy ad B (by omega) (by omega) qr s1    w26 H.size hT ) (cwV 0 hC.2.2.2.2 gX6_takeWord_X6_endOfWord rfl rfl rfl (by decide +kernel) ⟨Nat.le_of_ble_eq_true rfl, Nat.le_of_ble_eq_true rfl⟩) rfl hl.1 rfl (Nat.le_of_ble_eq_true rfl) dX6_takeWord_6 (fun r53 w55 H locs hp54 hw => ?_)
    obtain ⟨hT, k56, hg59⟩ := hp54
    have hF := hF.tr k56 (by decide)
    obtain ⟨g57, g58⟩ := hg59
    refine lv_istore_n (lv' := [(2, .int r53), (0, .ref (ad 1)), (1, .ref (adK 4))]) hx hb dX6_takeWord_9 rfl hl (by decide) rfl (fun ls hl => ?_)
    refine lv_iload_n hx hb dX6_takeWord_10 rfl (lv_at hl 0 rfl) ?_
    refine lv_aload_n hx hb dX6_takeWord_11 rfl (lv_at hl 1 rfl) ?_
    refine tk_geti hC hK hw hT hinX6 kC_at1 (by decide) rfl 1 (by decide) (List.mem_of_getElem? (i := 1) rfl) rfl rfl dX6_takeWord_12 (fun x60 c61 rx60 tx60 => ?_)
    refine lv_isub hx hb dX6_takeWord_15 ?_
    refine lv_topi (fun x62 ex62 => ?_)
    have ex62 : x62.toInt = r53.toInt - x60.toInt := by rw [ex62]; exact wk_sub (show (-2147483648) ≤ r53.toInt - x60.toInt by omega) (show r53.toInt - x60.toInt ≤ 2147483647 by omega)
    refine lv_aload_n hx hb dX6_takeWord_16 rfl (lv_at hl 2 rfl) ?_
    refine tk_ViT hC hK hw hA hE hSR (s_length l adK adV dC dI cy 4 (by decide) H.size) (cwV 0 hC.2.2.2.2 gX6_takeWord_J0_length_8abf5 rfl rfl rfl (by decide +kernel) ⟨Nat.le_of_ble_eq_true rfl, Nat.le_of_ble_eq_true rfl⟩) 4 (by decide) rfl rfl hl.1 rfl (Nat.le_of_ble_eq_true rfl) dX6_takeWord_17 (fun r63 H locs hp64 hw => ?_)
    obtain ⟨-, hp64⟩ := hp64
    obtain rfl : r63 = 3 := hp64
    refine lv_icmp_eq (tgt := 25) hx hb dX6_takeWord_20 (by decide) (fun c65 => ?_) (fun c65 => ?_)
    · have c65 : x62.toInt = (3 : Int) := wk_eq.mp c65
      refine lv_iconst (v := 0) hx hb dX6_takeWord_25 (by decide) ?_
      refine lv_istore_n (lv' := [(3, .int 0), (2, .int r53), (0, .ref (ad 1)), (1, .ref (adK 4))]) hx hb dX6_takeWord_26 rfl hl (by decide) rfl (fun ls hl => ?_)
      exact L27 ((3 - (0 : Int)).toNat + 1) r53 0 x60 H locs ls w55 (show 3 ≤ r53.toInt by omega) (show r53.toInt ≤ 400 by omega) (by decide) (by decide) (show 0 ≤ x60.toInt by omega) (show x60.toInt ≤ 397 by omega) (Nat.lt_succ_self _) hw hT hF c61 (lv_sub hl [2, 3, 1, 0] rfl)
    · have c65 : ¬ x62.toInt = (3 : Int) := wk_eqF c65
      refine lv_iconst (v := 0) hx hb dX6_takeWord_23 (by decide) ?_
      exact tk_zret hC hr rfl hlocks hK ⟨hT, hF, (Or.inl rfl)⟩ hw dX6_takeWord_24
abbrev P_X6_takeByte_2 (ad : Nat → Nat) (cy : Nat → ClassId) (B : Int) (qr : Nat) (s1 : Int)  (w0 : va_W) : Int32 → va_W → Prop := fun r u => TW ksC ad cy B qr s1 u ∧ FE ksC [(6, 1, 1), (6, 3, 3)] w0 u ∧ ((r = 0) ∨ (r = 1 ∧ (∃ y : Int32, gi u 1 2 = y ∧ 1 ≤ y.toInt ∧ y.toInt ≤ 400) ∧ (∃ y : Int32, gi u 1 3 = y ∧ 0 ≤ y.toInt ∧ y.toInt ≤ 399)))
set_option maxHeartbeats 4000000 in
set_option maxRecDepth 100000 in
theorem k_X6_takeByte_2 (l : Launch) (adK adV : Nat → Nat) (dC : Nat → ClassId) (dI : Nat → Nat → Nat) (cy : Nat → ClassId) (ad : Nat → Nat) (B : Int) (hB0 : 2147483648 ≤ B) (hB1 : B ≤ 1152921504606846976) (qr : Nat) (s1 : Int)   (w0 : va_W) (sz : Nat) (hT : TW ksC ad cy B qr s1 w0)  : Met l yX6_takeByte wsX6_takeByte ({ frames := 2, cells := 0, slots := 0, locals := 32 }) (va_Pc [.ref (ad 1), .int 91] (wpreS adK adV dC dI cy sz w0)) (va_Qi (P_X6_takeByte_2 ad cy B qr s1  w0) (fun u : va_W => wpost dC dI cy (va_A w0 sz) u) (va_A w0 sz)) 0 0 (va_A w0 sz) := by
  refine Met.ofW (cc := cX6_takeByte) (maxL := 2) (ret := (some .boolean)) (by decide) rfl ?_
  intro p e s m args below meth c s₁ Bk hml hv
  obtain ⟨rfl, ⟨hsz, hP, hK, hD0⟩, hE, hSR⟩ := hv
  have hx := Bk.exec
  have hb := Bk.bytes
  have hr := Bk.returns
  have hlocks := Bk.notSynchronized
  have hC : CallFix p m c cX6_takeByte 2 s _ wsX6_takeByte RX6 := ⟨hx, hb, hml, findClass_of_methodNamed Bk.named, atoms_spec (ws := wsX6_takeByte) Bk.pre⟩
  subst hsz
  have hD := hD0.self (sz := s.heap.size)
  generalize hAe : va_A w0 s.heap.size = A at hD hE ⊢
  have hA : ∀ q : Nat, s.heap.size ≤ q → A q := fun q h => by rw [← hAe]; exact Or.inr h
  have hw : Wd dC dI A s.heap s.heap [] w0 := ⟨hP, hD, va_S.rf⟩
  have hF : FE ksC [(6, 1, 1), (6, 3, 3)] w0 w0 := FE.rf
  have hl := lv_entry ([.ref (ad 1), .int 91]) (n := 2) (Nat.le_of_ble_eq_true rfl)
  rw [lg_entry_eq]
  generalize (lg_sl ([.ref (ad 1), .int 91]) ++ List.replicate (2 - (lg_sl ([.ref (ad 1), .int 91])).length) Slot.unset).toArray = ls at hl ⊢
  have hl : lv_has ls 2 [(0, .ref (ad 1)), (1, .int 91)] := hl
  generalize hloc : ([] : List Loc) = locs at hw ⊢
  refine lv_aload_n hx hb dX6_takeByte_0 rfl (lv_at hl 0 rfl) ?_
  refine tk_Vi hC hK hw hT hA hE hSR kC_at1 (by decide) rfl (k_X6_lookBehindBlanks_1 l adK adV dC dI cy ad B (by omega) (by omega) qr s1    w0 s.heap.size hT ) (cwV 0 hC.2.2.2.2 gX6_takeByte_X6_lookBehindBlanks rfl rfl rfl (by decide +kernel) ⟨Nat.le_of_ble_eq_true rfl, Nat.le_of_ble_eq_true rfl⟩) rfl hl.1 rfl (Nat.le_of_ble_eq_true rfl) dX6_takeByte_1 (fun r1 w3 H locs hp2 hw => ?_)
  obtain ⟨hT, k4, hg13⟩ := hp2
  have hF := hF.tr k4 (by decide)
  rcases hg13 with ⟨g5, g6, ⟨x7, c8, rx7, tx7⟩, ⟨x9, c10, rx9, tx9⟩, ⟨x11, c12, rx11, tx11⟩⟩ | rfl
  · refine lv_iload_n hx hb dX6_takeByte_4 rfl (lv_at hl 1 rfl) ?_
    refine lv_icmp_eq (tgt := 10) hx hb dX6_takeByte_5 (by decide) (fun c14 => ?_) (fun c14 => ?_)
    · have c14 : r1.toInt = (91 : Int) := wk_eq.mp c14
      refine lv_aload_n hx hb dX6_takeByte_10 rfl (lv_at hl 0 rfl) ?_
      refine tk_Vv hC hK hw hT hA hE hSR kC_at1 (by decide) rfl (k_X6_pass_1 l adK adV dC dI cy ad B (by omega) (by omega) qr s1    w3 H.size hT ) (cwV 0 hC.2.2.2.2 gX6_takeByte_X6_pass rfl rfl rfl (by decide +kernel) ⟨Nat.le_of_ble_eq_true rfl, Nat.le_of_ble_eq_true rfl⟩) rfl hl.1 rfl (Nat.le_of_ble_eq_true rfl) dX6_takeByte_11 (fun w17 H locs hp16 hw => ?_)
      obtain ⟨hT, k18, hg19⟩ := hp16
      have hF := hF.tr k18 (by decide)
      have c20 := k18.gi kC_at1 (by decide) c10
      have c21 := k18.gi kC_at1 (by decide) c12
      clear hg19
      refine lv_iconst (v := 1) hx hb dX6_takeByte_14 (by decide) ?_
      exact tk_zret hC hr rfl hlocks hK ⟨hT, hF, (Or.inr ⟨rfl, ⟨x9, c20, (show 1 ≤ x9.toInt by omega), (show x9.toInt ≤ 400 by omega)⟩, ⟨x11, c21, (show 0 ≤ x11.toInt by omega), (show x11.toInt ≤ 399 by omega)⟩⟩)⟩ hw dX6_takeByte_15
    · have c14 : ¬ r1.toInt = (91 : Int) := wk_eqF c14
      refine lv_iconst (v := 0) hx hb dX6_takeByte_8 (by decide) ?_
      exact tk_zret hC hr rfl hlocks hK ⟨hT, hF, (Or.inl rfl)⟩ hw dX6_takeByte_9
  · refine lv_iload_n hx hb dX6_takeByte_4 rfl (lv_at hl 1 rfl) ?_
    refine lv_icmp_eq (tgt := 10) hx hb dX6_takeByte_5 (by decide) (fun c => absurd c (by decide)) (fun _ => ?_)
    refine lv_iconst (v := 0) hx hb dX6_takeByte_8 (by decide) ?_
    exact tk_zret hC hr rfl hlocks hK ⟨hT, hF, (Or.inl rfl)⟩ hw dX6_takeByte_9
abbrev P_X3_readFact_11 (ad : Nat → Nat) (cy : Nat → ClassId) (B : Int) (qr : Nat) (s1 : Int)  (w0 : va_W) : va_W → Prop := fun u => TW ksC ad cy B qr s1 u ∧ FE ksC [(2, 3, 3), (3, 2, 2), (6, 1, 1), (6, 3, 3), (6, 4, 4), (22, 0, 13), (23, 0, 400)] w0 u ∧ (((∃ y : Int32, gi u 1 4 = y ∧ 0 ≤ y.toInt ∧ y.toInt ≤ 3204)))
set_option maxHeartbeats 4000000 in
set_option maxRecDepth 100000 in
theorem k_X3_readFact_11 (l : Launch) (adK adV : Nat → Nat) (dC : Nat → ClassId) (dI : Nat → Nat → Nat) (cy : Nat → ClassId) (ad : Nat → Nat) (B : Int) (hB0 : 2147483648 ≤ B) (hB1 : B ≤ 1152921504606846976) (qr : Nat) (s1 : Int) (hqr : ksC[qr]? = some 2)  (w0 : va_W) (sz : Nat) (hT : TW ksC ad cy B qr s1 w0) (cf0_ : gi w0 1 4 = 0) : Met l yX3_readFact wsX3_readFact ({ frames := 8, cells := 0, slots := 0, locals := 211 }) (va_Pc [.ref (ad 3), .int 10] (wpreS adK adV dC dI cy sz w0)) (va_Qv (P_X3_readFact_11 ad cy B qr s1  w0) (fun u : va_W => wpost dC dI cy (va_A w0 sz) u) (va_A w0 sz)) 0 0 (va_A w0 sz) := by
  refine Met.ofW (cc := cX3_readFact) (maxL := 5) (ret := none) (by decide) rfl ?_
  intro p e s m args below meth c s₁ Bk hml hv
  obtain ⟨rfl, ⟨hsz, hP, hK, hD0⟩, hE, hSR⟩ := hv
  have hx := Bk.exec
  have hb := Bk.bytes
  have hr := Bk.returns
  have hlocks := Bk.notSynchronized
  have hC : CallFix p m c cX3_readFact 5 s _ wsX3_readFact RX3 := ⟨hx, hb, hml, findClass_of_methodNamed Bk.named, atoms_spec (ws := wsX3_readFact) Bk.pre⟩
  subst hsz
  have hD := hD0.self (sz := s.heap.size)
  generalize hAe : va_A w0 s.heap.size = A at hD hE ⊢
  have hA : ∀ q : Nat, s.heap.size ≤ q → A q := fun q h => by rw [← hAe]; exact Or.inr h
  have hw : Wd dC dI A s.heap s.heap [] w0 := ⟨hP, hD, va_S.rf⟩
  have hF : FE ksC [(2, 3, 3), (3, 2, 2), (6, 1, 1), (6, 3, 3), (6, 4, 4), (22, 0, 13), (23, 0, 400)] w0 w0 := FE.rf
  have hl := lv_entry ([.ref (ad 3), .int 10]) (n := 5) (Nat.le_of_ble_eq_true rfl)
  rw [lg_entry_eq]
  generalize (lg_sl ([.ref (ad 3), .int 10]) ++ List.replicate (5 - (lg_sl ([.ref (ad 3), .int 10])).length) Slot.unset).toArray = ls at hl ⊢
  have hl : lv_has ls 5 [(0, .ref (ad 3)), (1, .int 10)] := hl
  generalize hloc : ([] : List Loc) = locs at hw ⊢
  have hinX3 : ∀ w ∈ u_ws RX3 TX3 3, w ∈ wsX3_readFact := fun _ h => List.mem_cons_of_mem _ (List.mem_append_left _ (List.mem_append_left _ (List.mem_append_right _ (h))))
  have hinX6 : ∀ w ∈ u_ws RX6 TX6 5, w ∈ wsX3_readFact := fun _ h => List.mem_cons_of_mem _ (List.mem_append_left _ (List.mem_append_right _ (h)))
  have J160 : ∀ (v160_2 : Int32) (v160_3 : Int32) (f160_1_4 : Int32) (H : Heap) (locs : List Loc) (ls : Array Slot) (w1 : va_W), 0 ≤ v160_2.toInt → v160_2.toInt ≤ 1 → 0 ≤ v160_3.toInt → v160_3.toInt ≤ 1 → 0 ≤ f160_1_4.toInt → f160_1_4.toInt ≤ 3204 → Wd dC dI A s.heap H locs w1 → TW ksC ad cy B qr s1 w1 → FE ksC [(2, 3, 3), (3, 2, 2), (6, 1, 1), (6, 3, 3), (6, 4, 4), (22, 0, 13), (23, 0, 400)] w0 w1 → gi w1 1 4 = f160_1_4 → lv_has ls 5 [(0, .ref (ad 3)), (1, .int 10), (2, .int v160_2), (3, .int v160_3)] → W p l e ({ frames := 8, cells := 0, slots := 0, locals := 211 }) s m (List.toArray [.ref (ad 3), .int 10]) below meth c H locs 0 0 (MQ below (va_Qv (P_X3_readFact_11 ad cy B qr s1  w0) (fun u : va_W => wpost dC dI cy A u) A) (List.toArray [.ref (ad 3), .int 10]) s 0 0 A) (F0 m 160 ls []) := by
    intro v160_2 v160_3 f160_1_4 H locs ls w1 r2 t3 r4 t5 r6 t7 hw hT hF c8 hl
    exact tk_vret hC hr hlocks hK ⟨hT, hF, ⟨f160_1_4, c8, (show 0 ≤ f160_1_4.toInt by omega), (show f160_1_4.toInt ≤ 3204 by omega)⟩⟩ hw dX3_readFact_160
  have J77 : ∀ (v77_2 : Int32) (v77_3 : Int32) (H : Heap) (locs : List Loc) (ls : Array Slot) (w9 : va_W), 0 ≤ v77_2.toInt → v77_2.toInt ≤ 1 → 0 ≤ v77_3.toInt → v77_3.toInt ≤ 1 → Wd dC dI A s.heap H locs w9 → TW ksC ad cy B qr s1 w9 → FE ksC [(2, 3, 3), (3, 2, 2), (6, 1, 1), (6, 3, 3), (6, 4, 4), (22, 0, 13), (23, 0, 400)] w0 w9 → gi w9 1 4 = 0 → lv_has ls 5 [(0, .ref (ad 3)), (1, .int 10), (2, .int v77_2), (3, .int v77_3)] → W p l e ({ frames := 8, cells := 0, slots := 0, locals := 211 }) s m (List.toArray [.ref (ad 3), .int 10]) below meth c H locs 0 0 (MQ below (va_Qv (P_X3_readFact_11 ad cy B qr s1  w0) (fun u : va_W => wpost dC dI cy A u) A) (List.toArray [.ref (ad 3), .int 10]) s 0 0 A) (F0 m 77 ls []) := by
    intro v77_2 v77_3 H locs ls w9 r10 t11 r12 t13 hw hT hF c14 hl
    refine lv_iload_n hx hb dX3_readFact_77 rfl (lv_at hl 1 rfl) ?_
    refine lv_bipush (v := 10) hx hb dX3_readFact_78 (by decide) ?_
    refine lv_icmp_lt (tgt := 101) hx hb dX3_readFact_80 (by decide) (fun c => absurd c (by decide)) (fun _ => ?_)
    refine lv_aload_n hx hb dX3_readFact_83 rfl (lv_at hl 0 rfl) ?_
    refine tk_getA hC hK hw hT hinX3 kC_at3 (by decide) rfl 0 (by decide) (List.mem_of_getElem? (i := 1) rfl) rfl rfl dX3_readFact_84 ?_
    refine lv_aload_n hx hb dX3_readFact_87 rfl (lv_at hl 0 rfl) ?_
    refine tk_getA hC hK hw hT hinX3 kC_at3 (by decide) rfl 0 (by decide) (List.mem_of_getElem? (i := 1) rfl) rfl rfl dX3_readFact_88 ?_
    refine tk_geti hC hK hw hT hinX6 kC_at1 (by decide) rfl 3 (by decide) (List.mem_of_getElem? (i := 3) rfl) rfl rfl dX3_readFact_91 (fun x15 c16 rx15 tx15 => ?_)
    refine lv_iconst (v := 2) hx hb dX3_readFact_94 (by decide) ?_
    refine tk_Vv hC hK hw hT hA hE hSR kC_at1 (by decide) rfl (k_X6_blame_2 l adK adV dC dI cy ad B (by omega) (by omega) qr s1   x15 (show 0 ≤ x15.toInt by omega) (show x15.toInt ≤ 400 by omega) w9 H.size hT c14) (cwV 2 hC.2.2.2.2 gX3_readFact_X6_blame rfl rfl rfl (by decide +kernel) ⟨Nat.le_of_ble_eq_true rfl, Nat.le_of_ble_eq_true rfl⟩) rfl hl.1 rfl (Nat.le_of_ble_eq_true rfl) dX3_readFact_95 (fun w19 H locs hp18 hw => ?_)
    obtain ⟨hT, k20, hg23⟩ := hp18
    have hF := hF.tr k20 (by decide)
    have c24 := k20.gi kC_at1 (by decide) c16
    obtain ⟨x21, c22, rx21, tx21⟩ := hg23
    refine lv_goto (tgt := 160) hx hb dX3_readFact_98 (by decide) ?_
    exact J160 v77_2 v77_3 x21 H locs ls w19 (show 0 ≤ v77_2.toInt by omega) (show v77_2.toInt ≤ 1 by omega) (show 0 ≤ v77_3.toInt by omega) (show v77_3.toInt ≤ 1 by omega) (show 0 ≤ x21.toInt by omega) (show x21.toInt ≤ 3204 by omega)  hw hT hF c22 (lv_sub hl [0, 1, 2, 3] rfl)
  have J41 : ∀ (v41_2 : Int32) (H : Heap) (locs : List Loc) (ls : Array Slot) (w25 : va_W), 0 ≤ v41_2.toInt → v41_2.toInt ≤ 1 → Wd dC dI A s.heap H locs w25 → TW ksC ad cy B qr s1 w25 → FE ksC [(2, 3, 3), (3, 2, 2), (6, 1, 1), (6, 3, 3), (6, 4, 4), (22, 0, 13), (23, 0, 400)] w0 w25 → gi w25 1 4 = 0 → lv_has ls 5 [(0, .ref (ad 3)), (1, .int 10), (2, .int v41_2)] → W p l e ({ frames := 8, cells := 0, slots := 0, locals := 211 }) s m (List.toArray [.ref (ad 3), .int 10]) below meth c H locs 0 0 (MQ below (va_Qv (P_X3_readFact_11 ad cy B qr s1  w0) (fun u : va_W => wpost dC dI cy A u) A) (List.toArray [.ref (ad 3), .int 10]) s 0 0 A) (F0 m 41 ls []) := by
    intro v41_2 H locs ls w25 r26 t27 hw hT hF c28 hl
    refine lv_iconst (v := 0) hx hb dX3_readFact_41 (by decide) ?_
    refine lv_istore_n (lv' := [(3, .int 0), (0, .ref (ad 3)), (1, .int 10), (2, .int v41_2)]) hx hb dX3_readFact_42 rfl hl (by decide) rfl (fun ls hl => ?_)
    refine lv_iload_n hx hb dX3_readFact_43 rfl (lv_at hl 3 rfl) ?_
    refine lv_if_ne (tgt := 77) hx hb dX3_readFact_44 (by decide) (fun c29 => ?_) (fun c29 => ?_)
    · have c29 : ¬ v41_2.toInt = (0 : Int) := wk_eqF c29
      exact J77 v41_2 0 H locs ls w25 (show 0 ≤ v41_2.toInt by omega) (show v41_2.toInt ≤ 1 by omega) (by decide) (by decide)  hw hT hF c28 (lv_sub hl [1, 2, 3, 0] rfl)
    · have c29 : v41_2.toInt = (0 : Int) := wk_eq.mp c29
      refine lv_iload_n hx hb dX3_readFact_47 rfl (lv_at hl 0 rfl) ?_
      refine lv_if_ne (tgt := 77) hx hb dX3_readFact_48 (by decide) (fun c => absurd (by decide) c) (fun _ => ?_)
      refine lv_aload_n hx hb dX3_readFact_51 rfl (lv_at hl 1 rfl) ?_
      refine tk_Vv hC hK hw hT hA hE hSR kC_at3 (by decide) rfl (k_X3_readSum_1 l adK adV dC dI cy ad B (by omega) (by omega) qr s1 hqr   w25 H.size hT c28) (cwV 0 hC.2.2.2.2 gX3_readFact_X3_readSum rfl rfl rfl (by decide +kernel) ⟨Nat.le_of_ble_eq_true rfl, Nat.le_of_ble_eq_true rfl⟩) rfl hl.1 rfl (Nat.le_of_ble_eq_true rfl) dX3_readFact_52 (fun w32 H locs hp31 hw => ?_)
      obtain ⟨hT, k33, hg36⟩ := hp31
      have hF := hF.tr k33 (by decide)
      obtain ⟨x34, c35, rx34, tx34⟩ := hg36
      refine lv_aload_n hx hb dX3_readFact_55 rfl (lv_at hl 1 rfl) ?_
      refine tk_Vi hC hK hw hT hA hE hSR kC_at3 (by decide) rfl (k_X3_readSign_1 l adK adV dC dI cy ad B (by omega) (by omega) qr s1    w32 H.size hT x34 c35 (show 0 ≤ x34.toInt by omega) (show x34.toInt ≤ 3204 by omega)) (cwV 0 hC.2.2.2.2 gX3_readFact_X3_readSign rfl rfl rfl (by decide +kernel) ⟨Nat.le_of_ble_eq_true rfl, Nat.le_of_ble_eq_true rfl⟩) rfl hl.1 rfl (Nat.le_of_ble_eq_true rfl) dX3_readFact_56 (fun r37 w39 H locs hp38 hw => ?_)
      obtain ⟨hT, k40, hg51⟩ := hp38
      have hF := hF.tr k40 (by decide)
      rcases hg51 with ⟨rfl, ⟨x41, c42, rx41, tx41⟩⟩ | ⟨g43, g44, ⟨x45, c46, rx45, tx45⟩, ⟨x47, c48, rx47, tx47⟩, ⟨x49, c50, rx49, tx49⟩⟩
      · refine lv_istore (lv' := [(4, .int 16), (3, .int 0), (0, .ref (ad 3)), (1, .int 10), (2, .int v41_2)]) hx hb dX3_readFact_59 hl (by decide) rfl (fun ls hl => ?_)
        refine lv_aload_n hx hb dX3_readFact_61 rfl (lv_at hl 2 rfl) ?_
        refine tk_Vv hC hK hw hT hA hE hSR kC_at3 (by decide) rfl (k_X3_readSum_2 l adK adV dC dI cy ad B (by omega) (by omega) qr s1 hqr   w39 H.size hT x41 c42 (show 1 ≤ x41.toInt by omega) (show x41.toInt ≤ 3204 by omega)) (cwV 0 hC.2.2.2.2 gX3_readFact_X3_readSum rfl rfl rfl (by decide +kernel) ⟨Nat.le_of_ble_eq_true rfl, Nat.le_of_ble_eq_true rfl⟩) rfl hl.1 rfl (Nat.le_of_ble_eq_true rfl) dX3_readFact_62 (fun w54 H locs hp53 hw => ?_)
        obtain ⟨hT, k55, hg58⟩ := hp53
        have hF := hF.tr k55 (by decide)
        have c59 := k55.gi kC_at1 (by decide) c42
        obtain ⟨x56, c57, rx56, tx56⟩ := hg58
        have ex56 : x56.toInt = x41.toInt := by rw [← c59.symm.trans c57]
        refine lv_aload_n hx hb dX3_readFact_65 rfl (lv_at hl 2 rfl) ?_
        refine tk_getQ hC hK hw hT hqr (by decide) hinX3 kC_at3 (by decide) rfl 1 (by decide) (List.mem_of_getElem? (i := 2) rfl) rfl rfl dX3_readFact_66 ?_
        refine lv_iload hx hb dX3_readFact_69 (lv_at hl 0 rfl) ?_
        refine tk_Vv hC hK hw hT hA hE hSR hqr (by decide) rfl (k_X2_addToken_8 l adK adV dC dI cy ad B (by omega) (by omega) qr s1   qr hqr w54 H.size hT ) (cwV 1 hC.2.2.2.2 gX3_readFact_X2_addToken rfl rfl rfl (by decide +kernel) ⟨Nat.le_of_ble_eq_true rfl, Nat.le_of_ble_eq_true rfl⟩) rfl hl.1 rfl (Nat.le_of_ble_eq_true rfl) dX3_readFact_71 (fun w62 H locs hp61 hw => ?_)
        obtain ⟨hT, k63, hg66⟩ := hp61
        have hF := hF.tr k63 (by decide)
        have c67 := k63.gi kC_at1 (by decide) c59
        obtain ⟨x64, c65, rx64, tx64⟩ := hg66
        refine lv_goto (tgt := 160) hx hb dX3_readFact_74 (by decide) ?_
        exact J160 v41_2 0 x41 H locs ls w62 (show 0 ≤ v41_2.toInt by omega) (show v41_2.toInt ≤ 1 by omega) (by decide) (by decide) (show 0 ≤ x41.toInt by omega) (show x41.toInt ≤ 3204 by omega)  hw hT hF c67 (lv_sub hl [2, 3, 4, 1] rfl)
      · refine lv_istore (lv' := [(4, .int r37), (3, .int 0), (0, .ref (ad 3)), (1, .int 10), (2, .int v41_2)]) hx hb dX3_readFact_59 hl (by decide) rfl (fun ls hl => ?_)
        refine lv_aload_n hx hb dX3_readFact_61 rfl (lv_at hl 2 rfl) ?_
        refine tk_Vv hC hK hw hT hA hE hSR kC_at3 (by decide) rfl (k_X3_readSum_3 l adK adV dC dI cy ad B (by omega) (by omega) qr s1 hqr   w39 H.size hT x49 c50 (show 0 ≤ x49.toInt by omega) (show x49.toInt ≤ 3204 by omega)) (cwV 0 hC.2.2.2.2 gX3_readFact_X3_readSum rfl rfl rfl (by decide +kernel) ⟨Nat.le_of_ble_eq_true rfl, Nat.le_of_ble_eq_true rfl⟩) rfl hl.1 rfl (Nat.le_of_ble_eq_true rfl) dX3_readFact_62 (fun w70 H locs hp69 hw => ?_)
        obtain ⟨hT, k71, hg74⟩ := hp69
        have hF := hF.tr k71 (by decide)
        have c75 := k71.gi kC_at1 (by decide) c46
        obtain ⟨x72, c73, rx72, tx72⟩ := hg74
        refine lv_aload_n hx hb dX3_readFact_65 rfl (lv_at hl 2 rfl) ?_
        refine tk_getQ hC hK hw hT hqr (by decide) hinX3 kC_at3 (by decide) rfl 1 (by decide) (List.mem_of_getElem? (i := 2) rfl) rfl rfl dX3_readFact_66 ?_
        refine lv_iload hx hb dX3_readFact_69 (lv_at hl 0 rfl) ?_
        refine tk_Vv hC hK hw hT hA hE hSR hqr (by decide) rfl (k_X2_addToken_9 l adK adV dC dI cy ad B (by omega) (by omega) qr s1   qr hqr r37 (show 14 ≤ r37.toInt by omega) (show r37.toInt ≤ 18 by omega) w70 H.size hT ) (cwV 1 hC.2.2.2.2 gX3_readFact_X2_addToken rfl rfl rfl (by decide +kernel) ⟨Nat.le_of_ble_eq_true rfl, Nat.le_of_ble_eq_true rfl⟩) rfl hl.1 rfl (Nat.le_of_ble_eq_true rfl) dX3_readFact_71 (fun w78 H locs hp77 hw => ?_)
        obtain ⟨hT, k79, hg82⟩ := hp77
        have hF := hF.tr k79 (by decide)
        have c83 := k79.gi kC_at1 (by decide) c75
        have c84 := k79.gi kC_at1 (by decide) c73
        obtain ⟨x80, c81, rx80, tx80⟩ := hg82
        refine lv_goto (tgt := 160) hx hb dX3_readFact_74 (by decide) ?_
        exact J160 v41_2 0 x72 H locs ls w78 (show 0 ≤ v41_2.toInt by omega) (show v41_2.toInt ≤ 1 by omega) (by decide) (by decide) (show 0 ≤ x72.toInt by omega) (show x72.toInt ≤ 3204 by omega)  hw hT hF c84 (lv_sub hl [2, 3, 4, 1] rfl)
  refine lv_aload_n hx hb dX3_readFact_0 rfl (lv_at hl 0 rfl) ?_
  refine tk_getA hC hK hw hT hinX3 kC_at3 (by decide) rfl 0 (by decide) (List.mem_of_getElem? (i := 1) rfl) rfl rfl dX3_readFact_1 ?_
  refine tk_Vi hC hK hw hT hA hE hSR kC_at1 (by decide) rfl (k_X6_isFaulty_3 l adK adV dC dI cy ad B (by omega) (by omega) qr s1    w0 s.heap.size hT cf0_) (cwV 0 hC.2.2.2.2 gX3_readFact_X6_isFaulty rfl rfl rfl (by decide +kernel) ⟨Nat.le_of_ble_eq_true rfl, Nat.le_of_ble_eq_true rfl⟩) rfl hl.1 rfl (Nat.le_of_ble_eq_true rfl) dX3_readFact_4 (fun r85 w87 H locs hp86 hw => ?_)
  obtain ⟨hT, k88, hg91⟩ := hp86
  have hF := hF.tr k88 (by decide)
  have c92 := k88.gi kC_at1 (by decide) cf0_
  obtain ⟨rfl, ⟨x89, c90, rx89, tx89⟩⟩ := hg91
  have ex89 : x89.toInt = (0 : Int) := by rw [show x89 = 0 from c90.symm.trans c92]; decide
  refine lv_if_eq (tgt := 11) hx hb dX3_readFact_7 (by decide) (fun _ => ?_) (fun c => absurd (by decide) c)
  refine lv_aload_n hx hb dX3_readFact_11 rfl (lv_at hl 0 rfl) ?_
  refine tk_getA hC hK hw hT hinX3 kC_at3 (by decide) rfl 0 (by decide) (List.mem_of_getElem? (i := 1) rfl) rfl rfl dX3_readFact_12 ?_
  refine va_ldcS hx hb hC.2.2.2.1 hSR.2.2.2.2.1 dX3_readFact_15 ?_
  refine tk_Vi hC hK hw hT hA hE hSR kC_at1 (by decide) rfl (k_X6_takeWord_4 l adK adV dC dI cy ad B (by omega) (by omega) qr s1    w87 H.size hT ) (cwV 1 hC.2.2.2.2 gX3_readFact_X6_takeWord rfl rfl rfl (by decide +kernel) ⟨Nat.le_of_ble_eq_true rfl, Nat.le_of_ble_eq_true rfl⟩) rfl hl.1 rfl (Nat.le_of_ble_eq_true rfl) dX3_readFact_17 (fun r93 w95 H locs hp94 hw => ?_)
  obtain ⟨hT, k96, hg99⟩ := hp94
  have hF := hF.tr k96 (by decide)
  have c100 := k96.gi kC_at1 (by decide) c92
  rcases hg99 with rfl | ⟨rfl, ⟨x97, c98, rx97, tx97⟩⟩
  · refine lv_istore_n (lv' := [(2, .int 0), (0, .ref (ad 3)), (1, .int 10)]) hx hb dX3_readFact_20 rfl hl (by decide) rfl (fun ls hl => ?_)
    refine lv_iload_n hx hb dX3_readFact_21 rfl (lv_at hl 0 rfl) ?_
    refine lv_if_ne (tgt := 41) hx hb dX3_readFact_22 (by decide) (fun c => absurd (by decide) c) (fun _ => ?_)
    refine lv_aload_n hx hb dX3_readFact_25 rfl (lv_at hl 1 rfl) ?_
    refine tk_getA hC hK hw hT hinX3 kC_at3 (by decide) rfl 0 (by decide) (List.mem_of_getElem? (i := 1) rfl) rfl rfl dX3_readFact_26 ?_
    refine lv_bipush (v := 91) hx hb dX3_readFact_29 (by decide) ?_
    refine tk_Vi hC hK hw hT hA hE hSR kC_at1 (by decide) rfl (k_X6_takeByte_2 l adK adV dC dI cy ad B (by omega) (by omega) qr s1    w95 H.size hT ) (cwV 1 hC.2.2.2.2 gX3_readFact_X6_takeByte rfl rfl rfl (by decide +kernel) ⟨Nat.le_of_ble_eq_true rfl, Nat.le_of_ble_eq_true rfl⟩) rfl hl.1 rfl (Nat.le_of_ble_eq_true rfl) dX3_readFact_31 (fun r101 w103 H locs hp102 hw => ?_)
    obtain ⟨hT, k104, hg109⟩ := hp102
    have hF := hF.tr k104 (by decide)
    have c110 := k104.gi kC_at1 (by decide) c100
    rcases hg109 with rfl | ⟨rfl, ⟨x105, c106, rx105, tx105⟩, ⟨x107, c108, rx107, tx107⟩⟩
    · refine lv_if_eq (tgt := 41) hx hb dX3_readFact_34 (by decide) (fun _ => ?_) (fun c => absurd (by decide) c)
      exact J41 0 H locs ls w103 (by decide) (by decide)  hw hT hF c110 (lv_sub hl [1, 2, 0] rfl)
    · refine lv_if_eq (tgt := 41) hx hb dX3_readFact_34 (by decide) (fun c => absurd c (by decide)) (fun _ => ?_)
      refine lv_iconst (v := 1) hx hb dX3_readFact_37 (by decide) ?_
      refine lv_goto (tgt := 42) hx hb dX3_readFact_38 (by decide) ?_
      refine lv_istore_n (lv' := [(3, .int 1), (2, .int 0), (0, .ref (ad 3)), (1, .int 10)]) hx hb dX3_readFact_42 rfl hl (by decide) rfl (fun ls hl => ?_)
      refine lv_iload_n hx hb dX3_readFact_43 rfl (lv_at hl 1 rfl) ?_
      refine lv_if_ne (tgt := 77) hx hb dX3_readFact_44 (by decide) (fun c => absurd (by decide) c) (fun _ => ?_)
      refine lv_iload_n hx hb dX3_readFact_47 rfl (lv_at hl 0 rfl) ?_
      refine lv_if_ne (tgt := 77) hx hb dX3_readFact_48 (by decide) (fun _ => ?_) (fun c => absurd c (by decide))
      exact J77 0 1 H locs ls w103 (by decide) (by decide) (by decide) (by decide)  hw hT hF c110 (lv_sub hl [2, 3, 1, 0] rfl)
  · refine lv_istore_n (lv' := [(2, .int 1), (0, .ref (ad 3)), (1, .int 10)]) hx hb dX3_readFact_20 rfl hl (by decide) rfl (fun ls hl => ?_)
    refine lv_iload_n hx hb dX3_readFact_21 rfl (lv_at hl 0 rfl) ?_
    refine lv_if_ne (tgt := 41) hx hb dX3_readFact_22 (by decide) (fun _ => ?_) (fun c => absurd c (by decide))
    exact J41 1 H locs ls w95 (by decide) (by decide)  hw hT hF c100 (lv_sub hl [1, 2, 0] rfl)
abbrev P_X2_addToken_10 (ad : Nat → Nat) (cy : Nat → ClassId) (B : Int) (qr : Nat) (s1 : Int) (q0_ : Nat) (w0 : va_W) : va_W → Prop := fun u => TW ksC ad cy B qr s1 u ∧ FE ksC [(2, 3, 3), (22, 0, 13), (23, 0, 400)] w0 u ∧ (((∃ y : Int32, gi u q0_ 3 = y ∧ 1 ≤ y.toInt ∧ y.toInt ≤ 400)))
set_option maxHeartbeats 4000000 in
set_option maxRecDepth 100000 in
theorem k_X2_addToken_10 (l : Launch) (adK adV : Nat → Nat) (dC : Nat → ClassId) (dI : Nat → Nat → Nat) (cy : Nat → ClassId) (ad : Nat → Nat) (B : Int) (hB0 : 2147483648 ≤ B) (hB1 : B ≤ 1152921504606846976) (qr : Nat) (s1 : Int)  (q0_ : Nat) (hkq0_ : ksC[q0_]? = some 2) (w0 : va_W) (sz : Nat) (hT : TW ksC ad cy B qr s1 w0)  : Met l yX2_addToken wsX2_addToken ({ frames := 1, cells := 0, slots := 0, locals := 12 }) (va_Pc [.ref (ad q0_), .int 20] (wpreS adK adV dC dI cy sz w0)) (va_Qv (P_X2_addToken_10 ad cy B qr s1 q0_ w0) (fun u : va_W => wpost dC dI cy (va_A w0 sz) u) (va_A w0 sz)) 0 0 (va_A w0 sz) := by
  refine Met.ofW (cc := cX2_addToken) (maxL := 2) (ret := none) (by decide) rfl ?_
  intro p e s m args below meth c s₁ Bk hml hv
  obtain ⟨rfl, ⟨hsz, hP, hK, hD0⟩, hE, hSR⟩ := hv
  have hx := Bk.exec
  have hb := Bk.bytes
  have hr := Bk.returns
  have hlocks := Bk.notSynchronized
  have hC : CallFix p m c cX2_addToken 2 s _ wsX2_addToken RX2 := ⟨hx, hb, hml, findClass_of_methodNamed Bk.named, atoms_spec (ws := wsX2_addToken) Bk.pre⟩
  subst hsz
  have hD := hD0.self (sz := s.heap.size)
  generalize hAe : va_A w0 s.heap.size = A at hD hE ⊢
  have hA : ∀ q : Nat, s.heap.size ≤ q → A q := fun q h => by rw [← hAe]; exact Or.inr h
  have hw : Wd dC dI A s.heap s.heap [] w0 := ⟨hP, hD, va_S.rf⟩
  have hF : FE ksC [(2, 3, 3), (22, 0, 13), (23, 0, 400)] w0 w0 := FE.rf
  have hl := lv_entry ([.ref (ad q0_), .int 20]) (n := 2) (Nat.le_of_ble_eq_true rfl)
  rw [lg_entry_eq]
  generalize (lg_sl ([.ref (ad q0_), .int 20]) ++ List.replicate (2 - (lg_sl ([.ref (ad q0_), .int 20])).length) Slot.unset).toArray = ls at hl ⊢
  have hl : lv_has ls 2 [(0, .ref (ad q0_)), (1, .int 20)] := hl
  generalize hloc : ([] : List Loc) = locs at hw ⊢
  have hinX2 : ∀ w ∈ u_ws RX2 TX2 6, w ∈ wsX2_addToken := fun _ h => List.mem_cons_of_mem _ (List.mem_append_right _ (h))
  have J43 : ∀ (f43_q0__3 : Int32) (H : Heap) (locs : List Loc) (ls : Array Slot) (w1 : va_W), 1 ≤ f43_q0__3.toInt → f43_q0__3.toInt ≤ 400 → Wd dC dI A s.heap H locs w1 → TW ksC ad cy B qr s1 w1 → FE ksC [(2, 3, 3), (22, 0, 13), (23, 0, 400)] w0 w1 → gi w1 q0_ 3 = f43_q0__3 → lv_has ls 2 [(0, .ref (ad q0_)), (1, .int 20)] → W p l e ({ frames := 1, cells := 0, slots := 0, locals := 12 }) s m (List.toArray [.ref (ad q0_), .int 20]) below meth c H locs 0 0 (MQ below (va_Qv (P_X2_addToken_10 ad cy B qr s1 q0_ w0) (fun u : va_W => wpost dC dI cy A u) A) (List.toArray [.ref (ad q0_), .int 20]) s 0 0 A) (F0 m 43 ls []) := by
    intro f43_q0__3 H locs ls w1 r2 t3 hw hT hF c4 hl
    exact tk_vret hC hr hlocks hK ⟨hT, hF, ⟨f43_q0__3, c4, (show 1 ≤ f43_q0__3.toInt by omega), (show f43_q0__3.toInt ≤ 400 by omega)⟩⟩ hw dX2_addToken_43
  refine lv_aload_n hx hb dX2_addToken_0 rfl (lv_at hl 0 rfl) ?_
  refine tk_geti hC hK hw hT hinX2 hkq0_ (by decide) rfl 3 (by decide) (List.mem_of_getElem? (i := 1) rfl) rfl rfl dX2_addToken_1 (fun x5 c6 rx5 tx5 => ?_)
  refine lv_sipush (v := 400) hx hb dX2_addToken_4 (by decide) ?_
  refine lv_icmp_ge (tgt := 43) hx hb dX2_addToken_7 (by decide) (fun c7 => ?_) (fun c7 => ?_)
  · have c7 : (400 : Int) ≤ x5.toInt := wk_le.mp c7
    exact J43 x5 s.heap locs ls w0 (show 1 ≤ x5.toInt by omega) (show x5.toInt ≤ 400 by omega)  hw hT hF c6 (lv_sub hl [0, 1] rfl)
  · have c7 : x5.toInt < (400 : Int) := wk_leF c7
    refine lv_aload_n hx hb dX2_addToken_10 rfl (lv_at hl 0 rfl) ?_
    refine tk_getO hC hK hw hT hinX2 hkq0_ (by decide) rfl 2 (by decide) (List.mem_of_getElem? (i := 2) rfl) rfl rfl dX2_addToken_11 ?_
    refine lv_aload_n hx hb dX2_addToken_14 rfl (lv_at hl 0 rfl) ?_
    refine tk_geti hC hK hw hT hinX2 hkq0_ (by decide) rfl 3 (by decide) (List.mem_of_getElem? (i := 1) rfl) rfl rfl dX2_addToken_15 (fun x8 c9 rx8 tx8 => ?_)
    refine wk_top x5 (c9.symm.trans c6) ?_
    refine lv_iload_n hx hb dX2_addToken_18 rfl (lv_at hl 1 rfl) ?_
    refine tk_iast hC hK hw hT (kC_2_3 hkq0_) (by decide) rfl rfl (show 0 ≤ x5.toInt by omega) (show x5.toInt < 400 by omega) (by decide) (by decide) dX2_addToken_19 (fun H locs w10 hw hT k12 c11 => ?_)
    have hF := hF.put (kC_2_3 hkq0_) (inE_of (a := 0) (b := 400) (by decide) (show 0 ≤ x5.toInt.toNat by omega) (show x5.toInt.toNat ≤ 400 by omega)) k12
    have c13 := k12.gi (Or.inl (tk_ne hkq0_ (kC_2_3 hkq0_) (by decide))) c6
    refine lv_aload_n hx hb dX2_addToken_20 rfl (lv_at hl 0 rfl) ?_
    refine lv_dup hx hb dX2_addToken_21 rfl ?_
    refine tk_geti hC hK hw hT hinX2 hkq0_ (by decide) rfl 3 (by decide) (List.mem_of_getElem? (i := 1) rfl) rfl rfl dX2_addToken_22 (fun x14 c15 rx14 tx14 => ?_)
    refine wk_top x5 (c15.symm.trans c13) ?_
    refine lv_iconst (v := 1) hx hb dX2_addToken_25 (by decide) ?_
    refine lv_iadd hx hb dX2_addToken_26 ?_
    refine lv_topi (fun x16 ex16 => ?_)
    have ex16 : x16.toInt = x5.toInt + (1 : Int) := by rw [ex16]; exact wk_add (show (-2147483648) ≤ x5.toInt + (1 : Int) by omega) (show x5.toInt + (1 : Int) ≤ 2147483647 by omega)
    refine tk_puti hC hK hw hT hinX2 tyX2_ok nmX2 hkq0_ (by decide) rfl rfl 3 (by decide) (List.mem_of_getElem? (i := 1) rfl) rfl rfl rfl rfl (show 0 ≤ x16.toInt by omega) (show x16.toInt ≤ 400 by omega) dX2_addToken_27 (fun H locs w17 hw hT k19 c18 => ?_)
    have hF := hF.put hkq0_ (k := 3) (by decide) k19
    refine lv_aload_n hx hb dX2_addToken_30 rfl (lv_at hl 0 rfl) ?_
    refine tk_getO hC hK hw hT hinX2 hkq0_ (by decide) rfl 1 (by decide) (List.mem_of_getElem? (i := 3) rfl) rfl rfl dX2_addToken_31 ?_
    refine lv_aload_n hx hb dX2_addToken_34 rfl (lv_at hl 0 rfl) ?_
    refine tk_geti hC hK hw hT hinX2 hkq0_ (by decide) rfl 4 (by decide) (List.mem_of_getElem? (i := 4) rfl) rfl rfl dX2_addToken_35 (fun x20 c21 rx20 tx20 => ?_)
    refine lv_aload_n hx hb dX2_addToken_38 rfl (lv_at hl 0 rfl) ?_
    refine tk_geti hC hK hw hT hinX2 hkq0_ (by decide) rfl 3 (by decide) (List.mem_of_getElem? (i := 1) rfl) rfl rfl dX2_addToken_39 (fun x22 c23 rx22 tx22 => ?_)
    refine wk_top x16 (c23.symm.trans c18) ?_
    refine tk_iast hC hK hw hT (kC_2_2 hkq0_) (by decide) rfl rfl (show 0 ≤ x20.toInt by omega) (show x20.toInt < 13 by omega) (show 0 ≤ x16.toInt by omega) (show x16.toInt ≤ 400 by omega) dX2_addToken_42 (fun H locs w24 hw hT k26 c25 => ?_)
    have hF := hF.put (kC_2_2 hkq0_) (inE_of (a := 0) (b := 13) (by decide) (show 0 ≤ x20.toInt.toNat by omega) (show x20.toInt.toNat ≤ 13 by omega)) k26
    have c27 := k26.gi (Or.inl (tk_ne hkq0_ (kC_2_2 hkq0_) (by decide))) c18
    have c28 := k26.gi (Or.inl (tk_ne hkq0_ (kC_2_2 hkq0_) (by decide))) c21
    exact J43 x16 H locs ls w24 (show 1 ≤ x16.toInt by omega) (show x16.toInt ≤ 400 by omega)  hw hT hF c27 (lv_sub hl [0, 1] rfl)
abbrev P_X3_readTest_11 (ad : Nat → Nat) (cy : Nat → ClassId) (B : Int) (qr : Nat) (s1 : Int)  (w0 : va_W) : va_W → Prop := fun u => TW ksC ad cy B qr s1 u ∧ FE ksC [(2, 3, 3), (3, 2, 2), (6, 1, 1), (6, 3, 3), (6, 4, 4), (22, 0, 13), (23, 0, 400)] w0 u ∧ (((∃ y : Int32, gi u 1 4 = y ∧ 0 ≤ y.toInt ∧ y.toInt ≤ 3204)))
set_option maxHeartbeats 4000000 in
set_option maxRecDepth 100000 in
theorem k_X3_readTest_11 (l : Launch) (adK adV : Nat → Nat) (dC : Nat → ClassId) (dI : Nat → Nat → Nat) (cy : Nat → ClassId) (ad : Nat → Nat) (B : Int) (hB0 : 2147483648 ≤ B) (hB1 : B ≤ 1152921504606846976) (qr : Nat) (s1 : Int) (hqr : ksC[qr]? = some 2)  (w0 : va_W) (sz : Nat) (hT : TW ksC ad cy B qr s1 w0) (cf0_ : gi w0 1 4 = 0) : Met l yX3_readTest wsX3_readTest ({ frames := 9, cells := 0, slots := 0, locals := 235 }) (va_Pc [.ref (ad 3), .int 10] (wpreS adK adV dC dI cy sz w0)) (va_Qv (P_X3_readTest_11 ad cy B qr s1  w0) (fun u : va_W => wpost dC dI cy (va_A w0 sz) u) (va_A w0 sz)) 0 0 (va_A w0 sz) := by
  refine Met.ofW (cc := cX3_readTest) (maxL := 4) (ret := none) (by decide) rfl ?_
  intro p e s m args below meth c s₁ Bk hml hv
  obtain ⟨rfl, ⟨hsz, hP, hK, hD0⟩, hE, hSR⟩ := hv
  have hx := Bk.exec
  have hb := Bk.bytes
  have hr := Bk.returns
  have hlocks := Bk.notSynchronized
  have hC : CallFix p m c cX3_readTest 4 s _ wsX3_readTest RX3 := ⟨hx, hb, hml, findClass_of_methodNamed Bk.named, atoms_spec (ws := wsX3_readTest) Bk.pre⟩
  subst hsz
  have hD := hD0.self (sz := s.heap.size)
  generalize hAe : va_A w0 s.heap.size = A at hD hE ⊢
  have hA : ∀ q : Nat, s.heap.size ≤ q → A q := fun q h => by rw [← hAe]; exact Or.inr h
  have hw : Wd dC dI A s.heap s.heap [] w0 := ⟨hP, hD, va_S.rf⟩
  have hF : FE ksC [(2, 3, 3), (3, 2, 2), (6, 1, 1), (6, 3, 3), (6, 4, 4), (22, 0, 13), (23, 0, 400)] w0 w0 := FE.rf
  have hl := lv_entry ([.ref (ad 3), .int 10]) (n := 4) (Nat.le_of_ble_eq_true rfl)
  rw [lg_entry_eq]
  generalize (lg_sl ([.ref (ad 3), .int 10]) ++ List.replicate (4 - (lg_sl ([.ref (ad 3), .int 10])).length) Slot.unset).toArray = ls at hl ⊢
  have hl : lv_has ls 4 [(0, .ref (ad 3)), (1, .int 10)] := hl
  generalize hloc : ([] : List Loc) = locs at hw ⊢
  have hinX3 : ∀ w ∈ u_ws RX3 TX3 3, w ∈ wsX3_readTest := fun _ h => List.mem_cons_of_mem _ (List.mem_append_left _ (List.mem_append_left _ (List.mem_append_right _ (h))))
  have J86 : ∀ (v86_2 : Int32) (v86_3 : Int32) (f86_1_4 : Int32) (H : Heap) (locs : List Loc) (ls : Array Slot) (w1 : va_W), (-1) ≤ v86_2.toInt → v86_2.toInt ≤ 21 → 0 ≤ v86_3.toInt → v86_3.toInt ≤ 400 → 0 ≤ f86_1_4.toInt → f86_1_4.toInt ≤ 3204 → Wd dC dI A s.heap H locs w1 → TW ksC ad cy B qr s1 w1 → FE ksC [(2, 3, 3), (3, 2, 2), (6, 1, 1), (6, 3, 3), (6, 4, 4), (22, 0, 13), (23, 0, 400)] w0 w1 → gi w1 1 4 = f86_1_4 → lv_has ls 4 [(0, .ref (ad 3)), (1, .int 10), (2, .int v86_2), (3, .int v86_3)] → W p l e ({ frames := 9, cells := 0, slots := 0, locals := 235 }) s m (List.toArray [.ref (ad 3), .int 10]) below meth c H locs 0 0 (MQ below (va_Qv (P_X3_readTest_11 ad cy B qr s1  w0) (fun u : va_W => wpost dC dI cy A u) A) (List.toArray [.ref (ad 3), .int 10]) s 0 0 A) (F0 m 86 ls []) := by
    intro v86_2 v86_3 f86_1_4 H locs ls w1 r2 t3 r4 t5 r6 t7 hw hT hF c8 hl
    refine lv_aload_n hx hb dX3_readTest_86 rfl (lv_at hl 0 rfl) ?_
    refine lv_iload_n hx hb dX3_readTest_87 rfl (lv_at hl 2 rfl) ?_
    refine tk_Vv hC hK hw hT hA hE hSR kC_at3 (by decide) rfl (k_X3_addWaiting_1 l adK adV dC dI cy ad B (by omega) (by omega) qr s1 hqr  v86_2 (show (-1) ≤ v86_2.toInt by omega) (show v86_2.toInt ≤ 21 by omega) w1 H.size hT ) (cwV 1 hC.2.2.2.2 gX3_readTest_X3_addWaiting rfl rfl rfl (by decide +kernel) ⟨Nat.le_of_ble_eq_true rfl, Nat.le_of_ble_eq_true rfl⟩) rfl hl.1 rfl (Nat.le_of_ble_eq_true rfl) dX3_readTest_88 (fun w11 H locs hp10 hw => ?_)
    obtain ⟨hT, k12, hg13⟩ := hp10
    have hF := hF.tr k12 (by decide)
    have c14 := k12.gi kC_at1 (by decide) c8
    clear hg13
    exact tk_vret hC hr hlocks hK ⟨hT, hF, ⟨f86_1_4, c14, (show 0 ≤ f86_1_4.toInt by omega), (show f86_1_4.toInt ≤ 3204 by omega)⟩⟩ hw dX3_readTest_91
  have L9 : ∀ (n9 : Nat) (v9_2 : Int32) (v9_3 : Int32) (f9_1_4 : Int32) (H : Heap) (locs : List Loc) (ls : Array Slot) (w15 : va_W), (-1) ≤ v9_2.toInt → v9_2.toInt ≤ 21 → 0 ≤ v9_3.toInt → v9_3.toInt ≤ 400 → 0 ≤ f9_1_4.toInt → f9_1_4.toInt ≤ 3204 → (400 - v9_3.toInt).toNat < n9 → Wd dC dI A s.heap H locs w15 → TW ksC ad cy B qr s1 w15 → FE ksC [(2, 3, 3), (3, 2, 2), (6, 1, 1), (6, 3, 3), (6, 4, 4), (22, 0, 13), (23, 0, 400)] w0 w15 → gi w15 1 4 = f9_1_4 → lv_has ls 4 [(0, .ref (ad 3)), (1, .int 10), (2, .int v9_2), (3, .int v9_3)] → W p l e ({ frames := 9, cells := 0, slots := 0, locals := 235 }) s m (List.toArray [.ref (ad 3), .int 10]) below meth c H locs 0 0 (MQ below (va_Qv (P_X3_readTest_11 ad cy B qr s1  w0) (fun u : va_W => wpost dC dI cy A u) A) (List.toArray [.ref (ad 3), .int 10]) s 0 0 A) (F0 m 9 ls []) := by
    intro n9
    induction n9 with
    | zero => intro v9_2 v9_3 f9_1_4 H locs ls w15 r16 t17 r18 t19 r20 t21 hm9 hw hT hF c22 hl; omega
    | succ n9 ih9 =>
      intro v9_2 v9_3 f9_1_4 H locs ls w15 r16 t17 r18 t19 r20 t21 hm9 hw hT hF c22 hl
      have J80 : ∀ (v80_2 : Int32) (f80_1_4 : Int32) (H : Heap) (locs : List Loc) (ls : Array Slot) (w23 : va_W), (-1) ≤ v80_2.toInt → v80_2.toInt ≤ 21 → 0 ≤ v9_3.toInt → v9_3.toInt ≤ 399 → 0 ≤ f80_1_4.toInt → f80_1_4.toInt ≤ 3204 → Wd dC dI A s.heap H locs w23 → TW ksC ad cy B qr s1 w23 → FE ksC [(2, 3, 3), (3, 2, 2), (6, 1, 1), (6, 3, 3), (6, 4, 4), (22, 0, 13), (23, 0, 400)] w0 w23 → gi w23 1 4 = f80_1_4 → lv_has ls 4 [(0, .ref (ad 3)), (1, .int 10), (2, .int v80_2), (3, .int v9_3)] → W p l e ({ frames := 9, cells := 0, slots := 0, locals := 235 }) s m (List.toArray [.ref (ad 3), .int 10]) below meth c H locs 0 0 (MQ below (va_Qv (P_X3_readTest_11 ad cy B qr s1  w0) (fun u : va_W => wpost dC dI cy A u) A) (List.toArray [.ref (ad 3), .int 10]) s 0 0 A) (F0 m 80 ls []) := by
        intro v80_2 f80_1_4 H locs ls w23 r24 t25 r26 t27 r28 t29 hw hT hF c30 hl
        obtain ⟨x31, ex31⟩ : ∃ y : Int32, y = v9_3 + Int32.ofInt 1 := ⟨_, rfl⟩
        refine lv_iinc (v := x31) (lv' := [(3, .int x31), (0, .ref (ad 3)), (1, .int 10), (2, .int v80_2)]) hx hb dX3_readTest_80 hl (k := 3) rfl ex31.symm (by decide) rfl (fun ls hl => ?_)
        have ex31 : x31.toInt = v9_3.toInt + 1 := by rw [ex31]; exact wk_add (y := 1) (show -2147483648 ≤ v9_3.toInt + 1 by omega) (show v9_3.toInt + 1 ≤ 2147483647 by omega)
        refine lv_goto (tgt := 9) hx hb dX3_readTest_83 (by decide) ?_
        exact ih9 v80_2 x31 f80_1_4 H locs ls w23 (show (-1) ≤ v80_2.toInt by omega) (show v80_2.toInt ≤ 21 by omega) (show 0 ≤ x31.toInt by omega) (show x31.toInt ≤ 400 by omega) (show 0 ≤ f80_1_4.toInt by omega) (show f80_1_4.toInt ≤ 3204 by omega) (show (400 - x31.toInt).toNat < n9 by omega) hw hT hF c30 (lv_sub hl [1, 2, 3, 0] rfl)
      refine lv_iload_n hx hb dX3_readTest_9 rfl (lv_at hl 3 rfl) ?_
      refine lv_sipush (v := 400) hx hb dX3_readTest_10 (by decide) ?_
      refine lv_icmp_ge (tgt := 86) hx hb dX3_readTest_13 (by decide) (fun c32 => ?_) (fun c32 => ?_)
      · have c32 : (400 : Int) ≤ v9_3.toInt := wk_le.mp c32
        exact J86 v9_2 v9_3 f9_1_4 H locs ls w15 (show (-1) ≤ v9_2.toInt by omega) (show v9_2.toInt ≤ 21 by omega) (show 0 ≤ v9_3.toInt by omega) (show v9_3.toInt ≤ 400 by omega) (show 0 ≤ f9_1_4.toInt by omega) (show f9_1_4.toInt ≤ 3204 by omega)  hw hT hF c22 (lv_sub hl [0, 1, 2, 3] rfl)
      · have c32 : v9_3.toInt < (400 : Int) := wk_leF c32
        refine lv_aload_n hx hb dX3_readTest_16 rfl (lv_at hl 0 rfl) ?_
        refine tk_getA hC hK hw hT hinX3 kC_at3 (by decide) rfl 0 (by decide) (List.mem_of_getElem? (i := 1) rfl) rfl rfl dX3_readTest_17 ?_
        refine tk_Vi hC hK hw hT hA hE hSR kC_at1 (by decide) rfl (k_X6_isFaulty_2 l adK adV dC dI cy ad B (by omega) (by omega) qr s1    w15 H.size hT f9_1_4 c22 (show 0 ≤ f9_1_4.toInt by omega) (show f9_1_4.toInt ≤ 3204 by omega)) (cwV 0 hC.2.2.2.2 gX3_readTest_X6_isFaulty rfl rfl rfl (by decide +kernel) ⟨Nat.le_of_ble_eq_true rfl, Nat.le_of_ble_eq_true rfl⟩) rfl hl.1 rfl (Nat.le_of_ble_eq_true rfl) dX3_readTest_20 (fun r33 w35 H locs hp34 hw => ?_)
        obtain ⟨hT, k36, hg41⟩ := hp34
        have hF := hF.tr k36 (by decide)
        have c42 := k36.gi kC_at1 (by decide) c22
        rcases hg41 with ⟨rfl, ⟨x37, c38, rx37, tx37⟩⟩ | ⟨rfl, ⟨x39, c40, rx39, tx39⟩⟩
        · have ex37 : x37.toInt = f9_1_4.toInt := by rw [← c42.symm.trans c38]
          refine lv_if_ne (tgt := 86) hx hb dX3_readTest_23 (by decide) (fun c => absurd (by decide) c) (fun _ => ?_)
          refine lv_aload_n hx hb dX3_readTest_26 rfl (lv_at hl 0 rfl) ?_
          refine tk_getA hC hK hw hT hinX3 kC_at3 (by decide) rfl 0 (by decide) (List.mem_of_getElem? (i := 1) rfl) rfl rfl dX3_readTest_27 ?_
          refine va_ldcS hx hb hC.2.2.2.1 hSR.2.2.2.2.2.2.1 dX3_readTest_30 ?_
          refine tk_Vi hC hK hw hT hA hE hSR kC_at1 (by decide) rfl (k_X6_takeWord_2 l adK adV dC dI cy ad B (by omega) (by omega) qr s1    w35 H.size hT ) (cwV 1 hC.2.2.2.2 gX3_readTest_X6_takeWord rfl rfl rfl (by decide +kernel) ⟨Nat.le_of_ble_eq_true rfl, Nat.le_of_ble_eq_true rfl⟩) rfl hl.1 rfl (Nat.le_of_ble_eq_true rfl) dX3_readTest_32 (fun r43 w45 H locs hp44 hw => ?_)
          obtain ⟨hT, k46, hg49⟩ := hp44
          have hF := hF.tr k46 (by decide)
          have c50 := k46.gi kC_at1 (by decide) c42
          rcases hg49 with rfl | ⟨rfl, ⟨x47, c48, rx47, tx47⟩⟩
          · refine lv_if_eq (tgt := 55) hx hb dX3_readTest_35 (by decide) (fun _ => ?_) (fun c => absurd (by decide) c)
            refine lv_aload_n hx hb dX3_readTest_55 rfl (lv_at hl 0 rfl) ?_
            refine tk_getA hC hK hw hT hinX3 kC_at3 (by decide) rfl 0 (by decide) (List.mem_of_getElem? (i := 1) rfl) rfl rfl dX3_readTest_56 ?_
            refine va_ldcS hx hb hC.2.2.2.1 hSR.2.2.2.2.2.2.2 dX3_readTest_59 ?_
            refine tk_Vi hC hK hw hT hA hE hSR kC_at1 (by decide) rfl (k_X6_takeWord_3 l adK adV dC dI cy ad B (by omega) (by omega) qr s1    w45 H.size hT ) (cwV 1 hC.2.2.2.2 gX3_readTest_X6_takeWord rfl rfl rfl (by decide +kernel) ⟨Nat.le_of_ble_eq_true rfl, Nat.le_of_ble_eq_true rfl⟩) rfl hl.1 rfl (Nat.le_of_ble_eq_true rfl) dX3_readTest_61 (fun r51 w53 H locs hp52 hw => ?_)
            obtain ⟨hT, k54, hg57⟩ := hp52
            have hF := hF.tr k54 (by decide)
            have c58 := k54.gi kC_at1 (by decide) c50
            rcases hg57 with rfl | ⟨rfl, ⟨x55, c56, rx55, tx55⟩⟩
            · refine lv_if_eq (tgt := 86) hx hb dX3_readTest_64 (by decide) (fun _ => ?_) (fun c => absurd (by decide) c)
              exact J86 v9_2 v9_3 f9_1_4 H locs ls w53 (show (-1) ≤ v9_2.toInt by omega) (show v9_2.toInt ≤ 21 by omega) (show 0 ≤ v9_3.toInt by omega) (show v9_3.toInt ≤ 400 by omega) (show 0 ≤ f9_1_4.toInt by omega) (show f9_1_4.toInt ≤ 3204 by omega)  hw hT hF c58 (lv_sub hl [0, 1, 2, 3] rfl)
            · refine lv_if_eq (tgt := 86) hx hb dX3_readTest_64 (by decide) (fun c => absurd c (by decide)) (fun _ => ?_)
              refine lv_aload_n hx hb dX3_readTest_67 rfl (lv_at hl 0 rfl) ?_
              refine lv_iload_n hx hb dX3_readTest_68 rfl (lv_at hl 2 rfl) ?_
              refine tk_Vv hC hK hw hT hA hE hSR kC_at3 (by decide) rfl (k_X3_addWaiting_1 l adK adV dC dI cy ad B (by omega) (by omega) qr s1 hqr  v9_2 (show (-1) ≤ v9_2.toInt by omega) (show v9_2.toInt ≤ 21 by omega) w53 H.size hT ) (cwV 1 hC.2.2.2.2 gX3_readTest_X3_addWaiting rfl rfl rfl (by decide +kernel) ⟨Nat.le_of_ble_eq_true rfl, Nat.le_of_ble_eq_true rfl⟩) rfl hl.1 rfl (Nat.le_of_ble_eq_true rfl) dX3_readTest_69 (fun w61 H locs hp60 hw => ?_)
              obtain ⟨hT, k62, hg63⟩ := hp60
              have hF := hF.tr k62 (by decide)
              have c64 := k62.gi kC_at1 (by decide) c58
              have c65 := k62.gi kC_at1 (by decide) c56
              clear hg63
              refine lv_bipush (v := 21) hx hb dX3_readTest_72 (by decide) ?_
              refine lv_istore_n (lv' := [(2, .int 21), (0, .ref (ad 3)), (1, .int 10), (3, .int v9_3)]) hx hb dX3_readTest_74 rfl hl (by decide) rfl (fun ls hl => ?_)
              refine lv_aload_n hx hb dX3_readTest_75 rfl (lv_at hl 1 rfl) ?_
              refine lv_iload_n hx hb dX3_readTest_76 rfl (lv_at hl 2 rfl) ?_
              refine tk_Vv hC hK hw hT hA hE hSR kC_at3 (by decide) rfl (k_X3_readFact_11 l adK adV dC dI cy ad B (by omega) (by omega) qr s1 hqr   w61 H.size hT (c64.trans (wk_eq.mpr (show f9_1_4.toInt = 0 by omega)))) (cwV 1 hC.2.2.2.2 gX3_readTest_X3_readFact rfl rfl rfl (by decide +kernel) ⟨Nat.le_of_ble_eq_true rfl, Nat.le_of_ble_eq_true rfl⟩) rfl hl.1 rfl (Nat.le_of_ble_eq_true rfl) dX3_readTest_77 (fun w68 H locs hp67 hw => ?_)
              obtain ⟨hT, k69, hg72⟩ := hp67
              have hF := hF.tr k69 (by decide)
              obtain ⟨x70, c71, rx70, tx70⟩ := hg72
              exact J80 21 x70 H locs ls w68 (by decide) (by decide) (show 0 ≤ v9_3.toInt by omega) (show v9_3.toInt ≤ 399 by omega) (show 0 ≤ x70.toInt by omega) (show x70.toInt ≤ 3204 by omega)  hw hT hF c71 (lv_sub hl [1, 2, 0, 3] rfl)
          · refine lv_if_eq (tgt := 55) hx hb dX3_readTest_35 (by decide) (fun c => absurd c (by decide)) (fun _ => ?_)
            refine lv_aload_n hx hb dX3_readTest_38 rfl (lv_at hl 0 rfl) ?_
            refine lv_iload_n hx hb dX3_readTest_39 rfl (lv_at hl 1 rfl) ?_
            refine tk_Vv hC hK hw hT hA hE hSR kC_at3 (by decide) rfl (k_X3_readFact_11 l adK adV dC dI cy ad B (by omega) (by omega) qr s1 hqr   w45 H.size hT (c50.trans (wk_eq.mpr (show f9_1_4.toInt = 0 by omega)))) (cwV 1 hC.2.2.2.2 gX3_readTest_X3_readFact rfl rfl rfl (by decide +kernel) ⟨Nat.le_of_ble_eq_true rfl, Nat.le_of_ble_eq_true rfl⟩) rfl hl.1 rfl (Nat.le_of_ble_eq_true rfl) dX3_readTest_40 (fun w75 H locs hp74 hw => ?_)
            obtain ⟨hT, k76, hg79⟩ := hp74
            have hF := hF.tr k76 (by decide)
            obtain ⟨x77, c78, rx77, tx77⟩ := hg79
            refine lv_aload_n hx hb dX3_readTest_43 rfl (lv_at hl 0 rfl) ?_
            refine tk_getQ hC hK hw hT hqr (by decide) hinX3 kC_at3 (by decide) rfl 1 (by decide) (List.mem_of_getElem? (i := 2) rfl) rfl rfl dX3_readTest_44 ?_
            refine lv_bipush (v := 20) hx hb dX3_readTest_47 (by decide) ?_
            refine tk_Vv hC hK hw hT hA hE hSR hqr (by decide) rfl (k_X2_addToken_10 l adK adV dC dI cy ad B (by omega) (by omega) qr s1   qr hqr w75 H.size hT ) (cwV 1 hC.2.2.2.2 gX3_readTest_X2_addToken rfl rfl rfl (by decide +kernel) ⟨Nat.le_of_ble_eq_true rfl, Nat.le_of_ble_eq_true rfl⟩) rfl hl.1 rfl (Nat.le_of_ble_eq_true rfl) dX3_readTest_49 (fun w82 H locs hp81 hw => ?_)
            obtain ⟨hT, k83, hg86⟩ := hp81
            have hF := hF.tr k83 (by decide)
            have c87 := k83.gi kC_at1 (by decide) c78
            obtain ⟨x84, c85, rx84, tx84⟩ := hg86
            refine lv_goto (tgt := 80) hx hb dX3_readTest_52 (by decide) ?_
            exact J80 v9_2 x77 H locs ls w82 (show (-1) ≤ v9_2.toInt by omega) (show v9_2.toInt ≤ 21 by omega) (show 0 ≤ v9_3.toInt by omega) (show v9_3.toInt ≤ 399 by omega) (show 0 ≤ x77.toInt by omega) (show x77.toInt ≤ 3204 by omega)  hw hT hF c87 (lv_sub hl [0, 1, 2, 3] rfl)
        · have ex39 : x39.toInt = f9_1_4.toInt := by rw [← c42.symm.trans c40]
          refine lv_if_ne (tgt := 86) hx hb dX3_readTest_23 (by decide) (fun _ => ?_) (fun c => absurd c (by decide))
          exact J86 v9_2 v9_3 f9_1_4 H locs ls w35 (show (-1) ≤ v9_2.toInt by omega) (show v9_2.toInt ≤ 21 by omega) (show 0 ≤ v9_3.toInt by omega) (show v9_3.toInt ≤ 400 by omega) (show 0 ≤ f9_1_4.toInt by omega) (show f9_1_4.toInt ≤ 3204 by omega)  hw hT hF c42 (lv_sub hl [0, 1, 2, 3] rfl)
  refine lv_aload_n hx hb dX3_readTest_0 rfl (lv_at hl 0 rfl) ?_
  refine lv_iload_n hx hb dX3_readTest_1 rfl (lv_at hl 1 rfl) ?_
  refine tk_Vv hC hK hw hT hA hE hSR kC_at3 (by decide) rfl (k_X3_readFact_11 l adK adV dC dI cy ad B (by omega) (by omega) qr s1 hqr   w0 s.heap.size hT cf0_) (cwV 1 hC.2.2.2.2 gX3_readTest_X3_readFact rfl rfl rfl (by decide +kernel) ⟨Nat.le_of_ble_eq_true rfl, Nat.le_of_ble_eq_true rfl⟩) rfl hl.1 rfl (Nat.le_of_ble_eq_true rfl) dX3_readTest_2 (fun w90 H locs hp89 hw => ?_)
  obtain ⟨hT, k91, hg94⟩ := hp89
  have hF := hF.tr k91 (by decide)
  obtain ⟨x92, c93, rx92, tx92⟩ := hg94
  refine lv_iconst (v := (-1)) hx hb dX3_readTest_5 (by decide) ?_
  refine lv_istore_n (lv' := [(2, .int (-1)), (0, .ref (ad 3)), (1, .int 10)]) hx hb dX3_readTest_6 rfl hl (by decide) rfl (fun ls hl => ?_)
  refine lv_iconst (v := 0) hx hb dX3_readTest_7 (by decide) ?_
  refine lv_istore_n (lv' := [(3, .int 0), (2, .int (-1)), (0, .ref (ad 3)), (1, .int 10)]) hx hb dX3_readTest_8 rfl hl (by decide) rfl (fun ls hl => ?_)
  exact L9 ((400 - (0 : Int)).toNat + 1) (-1) 0 x92 H locs ls w90 (by decide) (by decide) (by decide) (by decide) (show 0 ≤ x92.toInt by omega) (show x92.toInt ≤ 3204 by omega) (Nat.lt_succ_self _) hw hT hF c93 (lv_sub hl [2, 3, 1, 0] rfl)
abbrev P_X6_takeByte_3 (ad : Nat → Nat) (cy : Nat → ClassId) (B : Int) (qr : Nat) (s1 : Int)  (w0 : va_W) : Int32 → va_W → Prop := fun r u => TW ksC ad cy B qr s1 u ∧ FE ksC [(6, 1, 1), (6, 3, 3)] w0 u ∧ ((r = 0) ∨ (r = 1 ∧ (∃ y : Int32, gi u 1 2 = y ∧ 1 ≤ y.toInt ∧ y.toInt ≤ 400) ∧ (∃ y : Int32, gi u 1 3 = y ∧ 0 ≤ y.toInt ∧ y.toInt ≤ 399)))
set_option maxHeartbeats 4000000 in
set_option maxRecDepth 100000 in
theorem k_X6_takeByte_3 (l : Launch) (adK adV : Nat → Nat) (dC : Nat → ClassId) (dI : Nat → Nat → Nat) (cy : Nat → ClassId) (ad : Nat → Nat) (B : Int) (hB0 : 2147483648 ≤ B) (hB1 : B ≤ 1152921504606846976) (qr : Nat) (s1 : Int)   (w0 : va_W) (sz : Nat) (hT : TW ksC ad cy B qr s1 w0)  : Met l yX6_takeByte wsX6_takeByte ({ frames := 2, cells := 0, slots := 0, locals := 32 }) (va_Pc [.ref (ad 1), .int 93] (wpreS adK adV dC dI cy sz w0)) (va_Qi (P_X6_takeByte_3 ad cy B qr s1  w0) (fun u : va_W => wpost dC dI cy (va_A w0 sz) u) (va_A w0 sz)) 0 0 (va_A w0 sz) := by
  refine Met.ofW (cc := cX6_takeByte) (maxL := 2) (ret := (some .boolean)) (by decide) rfl ?_
  intro p e s m args below meth c s₁ Bk hml hv
  obtain ⟨rfl, ⟨hsz, hP, hK, hD0⟩, hE, hSR⟩ := hv
  have hx := Bk.exec
  have hb := Bk.bytes
  have hr := Bk.returns
  have hlocks := Bk.notSynchronized
  have hC : CallFix p m c cX6_takeByte 2 s _ wsX6_takeByte RX6 := ⟨hx, hb, hml, findClass_of_methodNamed Bk.named, atoms_spec (ws := wsX6_takeByte) Bk.pre⟩
  subst hsz
  have hD := hD0.self (sz := s.heap.size)
  generalize hAe : va_A w0 s.heap.size = A at hD hE ⊢
  have hA : ∀ q : Nat, s.heap.size ≤ q → A q := fun q h => by rw [← hAe]; exact Or.inr h
  have hw : Wd dC dI A s.heap s.heap [] w0 := ⟨hP, hD, va_S.rf⟩
  have hF : FE ksC [(6, 1, 1), (6, 3, 3)] w0 w0 := FE.rf
  have hl := lv_entry ([.ref (ad 1), .int 93]) (n := 2) (Nat.le_of_ble_eq_true rfl)
  rw [lg_entry_eq]
  generalize (lg_sl ([.ref (ad 1), .int 93]) ++ List.replicate (2 - (lg_sl ([.ref (ad 1), .int 93])).length) Slot.unset).toArray = ls at hl ⊢
  have hl : lv_has ls 2 [(0, .ref (ad 1)), (1, .int 93)] := hl
  generalize hloc : ([] : List Loc) = locs at hw ⊢
  refine lv_aload_n hx hb dX6_takeByte_0 rfl (lv_at hl 0 rfl) ?_
  refine tk_Vi hC hK hw hT hA hE hSR kC_at1 (by decide) rfl (k_X6_lookBehindBlanks_1 l adK adV dC dI cy ad B (by omega) (by omega) qr s1    w0 s.heap.size hT ) (cwV 0 hC.2.2.2.2 gX6_takeByte_X6_lookBehindBlanks rfl rfl rfl (by decide +kernel) ⟨Nat.le_of_ble_eq_true rfl, Nat.le_of_ble_eq_true rfl⟩) rfl hl.1 rfl (Nat.le_of_ble_eq_true rfl) dX6_takeByte_1 (fun r1 w3 H locs hp2 hw => ?_)
  obtain ⟨hT, k4, hg13⟩ := hp2
  have hF := hF.tr k4 (by decide)
  rcases hg13 with ⟨g5, g6, ⟨x7, c8, rx7, tx7⟩, ⟨x9, c10, rx9, tx9⟩, ⟨x11, c12, rx11, tx11⟩⟩ | rfl
  · refine lv_iload_n hx hb dX6_takeByte_4 rfl (lv_at hl 1 rfl) ?_
    refine lv_icmp_eq (tgt := 10) hx hb dX6_takeByte_5 (by decide) (fun c14 => ?_) (fun c14 => ?_)
    · have c14 : r1.toInt = (93 : Int) := wk_eq.mp c14
      refine lv_aload_n hx hb dX6_takeByte_10 rfl (lv_at hl 0 rfl) ?_
      refine tk_Vv hC hK hw hT hA hE hSR kC_at1 (by decide) rfl (k_X6_pass_1 l adK adV dC dI cy ad B (by omega) (by omega) qr s1    w3 H.size hT ) (cwV 0 hC.2.2.2.2 gX6_takeByte_X6_pass rfl rfl rfl (by decide +kernel) ⟨Nat.le_of_ble_eq_true rfl, Nat.le_of_ble_eq_true rfl⟩) rfl hl.1 rfl (Nat.le_of_ble_eq_true rfl) dX6_takeByte_11 (fun w17 H locs hp16 hw => ?_)
      obtain ⟨hT, k18, hg19⟩ := hp16
      have hF := hF.tr k18 (by decide)
      have c20 := k18.gi kC_at1 (by decide) c10
      have c21 := k18.gi kC_at1 (by decide) c12
      clear hg19
      refine lv_iconst (v := 1) hx hb dX6_takeByte_14 (by decide) ?_
      exact tk_zret hC hr rfl hlocks hK ⟨hT, hF, (Or.inr ⟨rfl, ⟨x9, c20, (show 1 ≤ x9.toInt by omega), (show x9.toInt ≤ 400 by omega)⟩, ⟨x11, c21, (show 0 ≤ x11.toInt by omega), (show x11.toInt ≤ 399 by omega)⟩⟩)⟩ hw dX6_takeByte_15
    · have c14 : ¬ r1.toInt = (93 : Int) := wk_eqF c14
      refine lv_iconst (v := 0) hx hb dX6_takeByte_8 (by decide) ?_
      exact tk_zret hC hr rfl hlocks hK ⟨hT, hF, (Or.inl rfl)⟩ hw dX6_takeByte_9
  · refine lv_iload_n hx hb dX6_takeByte_4 rfl (lv_at hl 1 rfl) ?_
    refine lv_icmp_eq (tgt := 10) hx hb dX6_takeByte_5 (by decide) (fun c => absurd c (by decide)) (fun _ => ?_)
    refine lv_iconst (v := 0) hx hb dX6_takeByte_8 (by decide) ?_
    exact tk_zret hC hr rfl hlocks hK ⟨hT, hF, (Or.inl rfl)⟩ hw dX6_takeByte_9
abbrev P_X2_addToken_11 (ad : Nat → Nat) (cy : Nat → ClassId) (B : Int) (qr : Nat) (s1 : Int) (q0_ : Nat) (w0 : va_W) : va_W → Prop := fun u => TW ksC ad cy B qr s1 u ∧ FE ksC [(2, 3, 3), (22, 0, 13), (23, 0, 400)] w0 u ∧ (((∃ y : Int32, gi u q0_ 3 = y ∧ 1 ≤ y.toInt ∧ y.toInt ≤ 400)))
set_option maxHeartbeats 4000000 in
set_option maxRecDepth 100000 in
theorem k_X2_addToken_11 (l : Launch) (adK adV : Nat → Nat) (dC : Nat → ClassId) (dI : Nat → Nat → Nat) (cy : Nat → ClassId) (ad : Nat → Nat) (B : Int) (hB0 : 2147483648 ≤ B) (hB1 : B ≤ 1152921504606846976) (qr : Nat) (s1 : Int)  (q0_ : Nat) (hkq0_ : ksC[q0_]? = some 2) (w0 : va_W) (sz : Nat) (hT : TW ksC ad cy B qr s1 w0)  : Met l yX2_addToken wsX2_addToken ({ frames := 1, cells := 0, slots := 0, locals := 12 }) (va_Pc [.ref (ad q0_), .int 19] (wpreS adK adV dC dI cy sz w0)) (va_Qv (P_X2_addToken_11 ad cy B qr s1 q0_ w0) (fun u : va_W => wpost dC dI cy (va_A w0 sz) u) (va_A w0 sz)) 0 0 (va_A w0 sz) := by
  refine Met.ofW (cc := cX2_addToken) (maxL := 2) (ret := none) (by decide) rfl ?_
  intro p e s m args below meth c s₁ Bk hml hv
  obtain ⟨rfl, ⟨hsz, hP, hK, hD0⟩, hE, hSR⟩ := hv
  have hx := Bk.exec
  have hb := Bk.bytes
  have hr := Bk.returns
  have hlocks := Bk.notSynchronized
  have hC : CallFix p m c cX2_addToken 2 s _ wsX2_addToken RX2 := ⟨hx, hb, hml, findClass_of_methodNamed Bk.named, atoms_spec (ws := wsX2_addToken) Bk.pre⟩
  subst hsz
  have hD := hD0.self (sz := s.heap.size)
  generalize hAe : va_A w0 s.heap.size = A at hD hE ⊢
  have hA : ∀ q : Nat, s.heap.size ≤ q → A q := fun q h => by rw [← hAe]; exact Or.inr h
  have hw : Wd dC dI A s.heap s.heap [] w0 := ⟨hP, hD, va_S.rf⟩
  have hF : FE ksC [(2, 3, 3), (22, 0, 13), (23, 0, 400)] w0 w0 := FE.rf
  have hl := lv_entry ([.ref (ad q0_), .int 19]) (n := 2) (Nat.le_of_ble_eq_true rfl)
  rw [lg_entry_eq]
  generalize (lg_sl ([.ref (ad q0_), .int 19]) ++ List.replicate (2 - (lg_sl ([.ref (ad q0_), .int 19])).length) Slot.unset).toArray = ls at hl ⊢
  have hl : lv_has ls 2 [(0, .ref (ad q0_)), (1, .int 19)] := hl
  generalize hloc : ([] : List Loc) = locs at hw ⊢
  have hinX2 : ∀ w ∈ u_ws RX2 TX2 6, w ∈ wsX2_addToken := fun _ h => List.mem_cons_of_mem _ (List.mem_append_right _ (h))
  have J43 : ∀ (f43_q0__3 : Int32) (H : Heap) (locs : List Loc) (ls : Array Slot) (w1 : va_W), 1 ≤ f43_q0__3.toInt → f43_q0__3.toInt ≤ 400 → Wd dC dI A s.heap H locs w1 → TW ksC ad cy B qr s1 w1 → FE ksC [(2, 3, 3), (22, 0, 13), (23, 0, 400)] w0 w1 → gi w1 q0_ 3 = f43_q0__3 → lv_has ls 2 [(0, .ref (ad q0_)), (1, .int 19)] → W p l e ({ frames := 1, cells := 0, slots := 0, locals := 12 }) s m (List.toArray [.ref (ad q0_), .int 19]) below meth c H locs 0 0 (MQ below (va_Qv (P_X2_addToken_11 ad cy B qr s1 q0_ w0) (fun u : va_W => wpost dC dI cy A u) A) (List.toArray [.ref (ad q0_), .int 19]) s 0 0 A) (F0 m 43 ls []) := by
    intro f43_q0__3 H locs ls w1 r2 t3 hw hT hF c4 hl
    exact tk_vret hC hr hlocks hK ⟨hT, hF, ⟨f43_q0__3, c4, (show 1 ≤ f43_q0__3.toInt by omega), (show f43_q0__3.toInt ≤ 400 by omega)⟩⟩ hw dX2_addToken_43
  refine lv_aload_n hx hb dX2_addToken_0 rfl (lv_at hl 0 rfl) ?_
  refine tk_geti hC hK hw hT hinX2 hkq0_ (by decide) rfl 3 (by decide) (List.mem_of_getElem? (i := 1) rfl) rfl rfl dX2_addToken_1 (fun x5 c6 rx5 tx5 => ?_)
  refine lv_sipush (v := 400) hx hb dX2_addToken_4 (by decide) ?_
  refine lv_icmp_ge (tgt := 43) hx hb dX2_addToken_7 (by decide) (fun c7 => ?_) (fun c7 => ?_)
  · have c7 : (400 : Int) ≤ x5.toInt := wk_le.mp c7
    exact J43 x5 s.heap locs ls w0 (show 1 ≤ x5.toInt by omega) (show x5.toInt ≤ 400 by omega)  hw hT hF c6 (lv_sub hl [0, 1] rfl)
  · have c7 : x5.toInt < (400 : Int) := wk_leF c7
    refine lv_aload_n hx hb dX2_addToken_10 rfl (lv_at hl 0 rfl) ?_
    refine tk_getO hC hK hw hT hinX2 hkq0_ (by decide) rfl 2 (by decide) (List.mem_of_getElem? (i := 2) rfl) rfl rfl dX2_addToken_11 ?_
    refine lv_aload_n hx hb dX2_addToken_14 rfl (lv_at hl 0 rfl) ?_
    refine tk_geti hC hK hw hT hinX2 hkq0_ (by decide) rfl 3 (by decide) (List.mem_of_getElem? (i := 1) rfl) rfl rfl dX2_addToken_15 (fun x8 c9 rx8 tx8 => ?_)
    refine wk_top x5 (c9.symm.trans c6) ?_
    refine lv_iload_n hx hb dX2_addToken_18 rfl (lv_at hl 1 rfl) ?_
    refine tk_iast hC hK hw hT (kC_2_3 hkq0_) (by decide) rfl rfl (show 0 ≤ x5.toInt by omega) (show x5.toInt < 400 by omega) (by decide) (by decide) dX2_addToken_19 (fun H locs w10 hw hT k12 c11 => ?_)
    have hF := hF.put (kC_2_3 hkq0_) (inE_of (a := 0) (b := 400) (by decide) (show 0 ≤ x5.toInt.toNat by omega) (show x5.toInt.toNat ≤ 400 by omega)) k12
    have c13 := k12.gi (Or.inl (tk_ne hkq0_ (kC_2_3 hkq0_) (by decide))) c6
    refine lv_aload_n hx hb dX2_addToken_20 rfl (lv_at hl 0 rfl) ?_
    refine lv_dup hx hb dX2_addToken_21 rfl ?_
    refine tk_geti hC hK hw hT hinX2 hkq0_ (by decide) rfl 3 (by decide) (List.mem_of_getElem? (i := 1) rfl) rfl rfl dX2_addToken_22 (fun x14 c15 rx14 tx14 => ?_)
    refine wk_top x5 (c15.symm.trans c13) ?_
    refine lv_iconst (v := 1) hx hb dX2_addToken_25 (by decide) ?_
    refine lv_iadd hx hb dX2_addToken_26 ?_
    refine lv_topi (fun x16 ex16 => ?_)
    have ex16 : x16.toInt = x5.toInt + (1 : Int) := by rw [ex16]; exact wk_add (show (-2147483648) ≤ x5.toInt + (1 : Int) by omega) (show x5.toInt + (1 : Int) ≤ 2147483647 by omega)
    refine tk_puti hC hK hw hT hinX2 tyX2_ok nmX2 hkq0_ (by decide) rfl rfl 3 (by decide) (List.mem_of_getElem? (i := 1) rfl) rfl rfl rfl rfl (show 0 ≤ x16.toInt by omega) (show x16.toInt ≤ 400 by omega) dX2_addToken_27 (fun H locs w17 hw hT k19 c18 => ?_)
    have hF := hF.put hkq0_ (k := 3) (by decide) k19
    refine lv_aload_n hx hb dX2_addToken_30 rfl (lv_at hl 0 rfl) ?_
    refine tk_getO hC hK hw hT hinX2 hkq0_ (by decide) rfl 1 (by decide) (List.mem_of_getElem? (i := 3) rfl) rfl rfl dX2_addToken_31 ?_
    refine lv_aload_n hx hb dX2_addToken_34 rfl (lv_at hl 0 rfl) ?_
    refine tk_geti hC hK hw hT hinX2 hkq0_ (by decide) rfl 4 (by decide) (List.mem_of_getElem? (i := 4) rfl) rfl rfl dX2_addToken_35 (fun x20 c21 rx20 tx20 => ?_)
    refine lv_aload_n hx hb dX2_addToken_38 rfl (lv_at hl 0 rfl) ?_
    refine tk_geti hC hK hw hT hinX2 hkq0_ (by decide) rfl 3 (by decide) (List.mem_of_getElem? (i := 1) rfl) rfl rfl dX2_addToken_39 (fun x22 c23 rx22 tx22 => ?_)
    refine wk_top x16 (c23.symm.trans c18) ?_
    refine tk_iast hC hK hw hT (kC_2_2 hkq0_) (by decide) rfl rfl (show 0 ≤ x20.toInt by omega) (show x20.toInt < 13 by omega) (show 0 ≤ x16.toInt by omega) (show x16.toInt ≤ 400 by omega) dX2_addToken_42 (fun H locs w24 hw hT k26 c25 => ?_)
    have hF := hF.put (kC_2_2 hkq0_) (inE_of (a := 0) (b := 13) (by decide) (show 0 ≤ x20.toInt.toNat by omega) (show x20.toInt.toNat ≤ 13 by omega)) k26
    have c27 := k26.gi (Or.inl (tk_ne hkq0_ (kC_2_2 hkq0_) (by decide))) c18
    have c28 := k26.gi (Or.inl (tk_ne hkq0_ (kC_2_2 hkq0_) (by decide))) c21
    exact J43 x16 H locs ls w24 (show 1 ≤ x16.toInt by omega) (show x16.toInt ≤ 400 by omega)  hw hT hF c27 (lv_sub hl [0, 1] rfl)
abbrev P_X3_readFact_10 (ad : Nat → Nat) (cy : Nat → ClassId) (B : Int) (qr : Nat) (s1 : Int)  (w0 : va_W) : va_W → Prop := fun u => TW ksC ad cy B qr s1 u ∧ FE ksC [(2, 3, 3), (3, 2, 2), (6, 1, 1), (6, 3, 3), (6, 4, 4), (22, 0, 13), (23, 0, 400)] w0 u ∧ (((∃ y : Int32, gi u 1 4 = y ∧ 0 ≤ y.toInt ∧ y.toInt ≤ 3204)))
set_option maxHeartbeats 4000000 in
set_option maxRecDepth 100000 in
theorem k_X3_readFact_10 (l : Launch) (adK adV : Nat → Nat) (dC : Nat → ClassId) (dI : Nat → Nat → Nat) (cy : Nat → ClassId) (ad : Nat → Nat) (B : Int) (hB0 : 2147483648 ≤ B) (hB1 : B ≤ 1152921504606846976) (qr : Nat) (s1 : Int) (hqr : ksC[qr]? = some 2)  (w0 : va_W) (sz : Nat) (hT : TW ksC ad cy B qr s1 w0) (cf0_ : gi w0 1 4 = 0) : Met l yX3_readFact wsX3_readFact ({ frames := 10, cells := 0, slots := 0, locals := 258 }) (va_Pc [.ref (ad 3), .int 9] (wpreS adK adV dC dI cy sz w0)) (va_Qv (P_X3_readFact_10 ad cy B qr s1  w0) (fun u : va_W => wpost dC dI cy (va_A w0 sz) u) (va_A w0 sz)) 0 0 (va_A w0 sz) := by
  refine Met.ofW (cc := cX3_readFact) (maxL := 5) (ret := none) (by decide) rfl ?_
  intro p e s m args below meth c s₁ Bk hml hv
  obtain ⟨rfl, ⟨hsz, hP, hK, hD0⟩, hE, hSR⟩ := hv
  have hx := Bk.exec
  have hb := Bk.bytes
  have hr := Bk.returns
  have hlocks := Bk.notSynchronized
  have hC : CallFix p m c cX3_readFact 5 s _ wsX3_readFact RX3 := ⟨hx, hb, hml, findClass_of_methodNamed Bk.named, atoms_spec (ws := wsX3_readFact) Bk.pre⟩
  subst hsz
  have hD := hD0.self (sz := s.heap.size)
  generalize hAe : va_A w0 s.heap.size = A at hD hE ⊢
  have hA : ∀ q : Nat, s.heap.size ≤ q → A q := fun q h => by rw [← hAe]; exact Or.inr h
  have hw : Wd dC dI A s.heap s.heap [] w0 := ⟨hP, hD, va_S.rf⟩
  have hF : FE ksC [(2, 3, 3), (3, 2, 2), (6, 1, 1), (6, 3, 3), (6, 4, 4), (22, 0, 13), (23, 0, 400)] w0 w0 := FE.rf
  have hl := lv_entry ([.ref (ad 3), .int 9]) (n := 5) (Nat.le_of_ble_eq_true rfl)
  rw [lg_entry_eq]
  generalize (lg_sl ([.ref (ad 3), .int 9]) ++ List.replicate (5 - (lg_sl ([.ref (ad 3), .int 9])).length) Slot.unset).toArray = ls at hl ⊢
  have hl : lv_has ls 5 [(0, .ref (ad 3)), (1, .int 9)] := hl
  generalize hloc : ([] : List Loc) = locs at hw ⊢
  have hinX3 : ∀ w ∈ u_ws RX3 TX3 3, w ∈ wsX3_readFact := fun _ h => List.mem_cons_of_mem _ (List.mem_append_left _ (List.mem_append_left _ (List.mem_append_right _ (h))))
  have J160 : ∀ (v160_2 : Int32) (v160_3 : Int32) (f160_1_4 : Int32) (H : Heap) (locs : List Loc) (ls : Array Slot) (w1 : va_W), 0 ≤ v160_2.toInt → v160_2.toInt ≤ 1 → 0 ≤ v160_3.toInt → v160_3.toInt ≤ 1 → 0 ≤ f160_1_4.toInt → f160_1_4.toInt ≤ 3204 → Wd dC dI A s.heap H locs w1 → TW ksC ad cy B qr s1 w1 → FE ksC [(2, 3, 3), (3, 2, 2), (6, 1, 1), (6, 3, 3), (6, 4, 4), (22, 0, 13), (23, 0, 400)] w0 w1 → gi w1 1 4 = f160_1_4 → lv_has ls 5 [(0, .ref (ad 3)), (1, .int 9), (2, .int v160_2), (3, .int v160_3)] → W p l e ({ frames := 10, cells := 0, slots := 0, locals := 258 }) s m (List.toArray [.ref (ad 3), .int 9]) below meth c H locs 0 0 (MQ below (va_Qv (P_X3_readFact_10 ad cy B qr s1  w0) (fun u : va_W => wpost dC dI cy A u) A) (List.toArray [.ref (ad 3), .int 9]) s 0 0 A) (F0 m 160 ls []) := by
    intro v160_2 v160_3 f160_1_4 H locs ls w1 r2 t3 r4 t5 r6 t7 hw hT hF c8 hl
    exact tk_vret hC hr hlocks hK ⟨hT, hF, ⟨f160_1_4, c8, (show 0 ≤ f160_1_4.toInt by omega), (show f160_1_4.toInt ≤ 3204 by omega)⟩⟩ hw dX3_readFact_160
  have J77 : ∀ (v77_2 : Int32) (v77_3 : Int32) (H : Heap) (locs : List Loc) (ls : Array Slot) (w9 : va_W), 0 ≤ v77_2.toInt → v77_2.toInt ≤ 1 → 0 ≤ v77_3.toInt → v77_3.toInt ≤ 1 → Wd dC dI A s.heap H locs w9 → TW ksC ad cy B qr s1 w9 → FE ksC [(2, 3, 3), (3, 2, 2), (6, 1, 1), (6, 3, 3), (6, 4, 4), (22, 0, 13), (23, 0, 400)] w0 w9 → gi w9 1 4 = 0 → lv_has ls 5 [(0, .ref (ad 3)), (1, .int 9), (2, .int v77_2), (3, .int v77_3)] → W p l e ({ frames := 10, cells := 0, slots := 0, locals := 258 }) s m (List.toArray [.ref (ad 3), .int 9]) below meth c H locs 0 0 (MQ below (va_Qv (P_X3_readFact_10 ad cy B qr s1  w0) (fun u : va_W => wpost dC dI cy A u) A) (List.toArray [.ref (ad 3), .int 9]) s 0 0 A) (F0 m 77 ls []) := by
    intro v77_2 v77_3 H locs ls w9 r10 t11 r12 t13 hw hT hF c14 hl
    refine lv_iload_n hx hb dX3_readFact_77 rfl (lv_at hl 1 rfl) ?_
    refine lv_bipush (v := 10) hx hb dX3_readFact_78 (by decide) ?_
    refine lv_icmp_lt (tgt := 101) hx hb dX3_readFact_80 (by decide) (fun _ => ?_) (fun c => absurd (by decide) c)
    refine lv_iload_n hx hb dX3_readFact_101 rfl (lv_at hl 2 rfl) ?_
    refine lv_if_eq (tgt := 124) hx hb dX3_readFact_102 (by decide) (fun c15 => ?_) (fun c15 => ?_)
    · have c15 : v77_2.toInt = (0 : Int) := wk_eq.mp c15
      refine lv_aload_n hx hb dX3_readFact_124 rfl (lv_at hl 0 rfl) ?_
      refine lv_iload_n hx hb dX3_readFact_125 rfl (lv_at hl 1 rfl) ?_
      refine lv_iconst (v := 1) hx hb dX3_readFact_126 (by decide) ?_
      refine lv_iadd hx hb dX3_readFact_127 ?_
      refine wk_top 10 (by decide) ?_
      refine tk_Vv hC hK hw hT hA hE hSR kC_at3 (by decide) rfl (k_X3_readTest_11 l adK adV dC dI cy ad B (by omega) (by omega) qr s1 hqr   w9 H.size hT c14) (cwV 1 hC.2.2.2.2 gX3_readFact_X3_readTest rfl rfl rfl (by decide +kernel) ⟨Nat.le_of_ble_eq_true rfl, Nat.le_of_ble_eq_true rfl⟩) rfl hl.1 rfl (Nat.le_of_ble_eq_true rfl) dX3_readFact_128 (fun w18 H locs hp17 hw => ?_)
      obtain ⟨hT, k19, hg22⟩ := hp17
      have hF := hF.tr k19 (by decide)
      obtain ⟨x20, c21, rx20, tx20⟩ := hg22
      refine lv_aload_n hx hb dX3_readFact_131 rfl (lv_at hl 0 rfl) ?_
      refine tk_getA hC hK hw hT hinX3 kC_at3 (by decide) rfl 0 (by decide) (List.mem_of_getElem? (i := 1) rfl) rfl rfl dX3_readFact_132 ?_
      refine tk_Vi hC hK hw hT hA hE hSR kC_at1 (by decide) rfl (k_X6_isFaulty_2 l adK adV dC dI cy ad B (by omega) (by omega) qr s1    w18 H.size hT x20 c21 (show 0 ≤ x20.toInt by omega) (show x20.toInt ≤ 3204 by omega)) (cwV 0 hC.2.2.2.2 gX3_readFact_X6_isFaulty rfl rfl rfl (by decide +kernel) ⟨Nat.le_of_ble_eq_true rfl, Nat.le_of_ble_eq_true rfl⟩) rfl hl.1 rfl (Nat.le_of_ble_eq_true rfl) dX3_readFact_135 (fun r23 w25 H locs hp24 hw => ?_)
      obtain ⟨hT, k26, hg31⟩ := hp24
      have hF := hF.tr k26 (by decide)
      have c32 := k26.gi kC_at1 (by decide) c21
      rcases hg31 with ⟨rfl, ⟨x27, c28, rx27, tx27⟩⟩ | ⟨rfl, ⟨x29, c30, rx29, tx29⟩⟩
      · have ex27 : x27.toInt = x20.toInt := by rw [← c32.symm.trans c28]
        refine lv_if_ne (tgt := 160) hx hb dX3_readFact_138 (by decide) (fun c => absurd (by decide) c) (fun _ => ?_)
        refine lv_aload_n hx hb dX3_readFact_141 rfl (lv_at hl 0 rfl) ?_
        refine tk_getA hC hK hw hT hinX3 kC_at3 (by decide) rfl 0 (by decide) (List.mem_of_getElem? (i := 1) rfl) rfl rfl dX3_readFact_142 ?_
        refine lv_bipush (v := 93) hx hb dX3_readFact_145 (by decide) ?_
        refine tk_Vi hC hK hw hT hA hE hSR kC_at1 (by decide) rfl (k_X6_takeByte_3 l adK adV dC dI cy ad B (by omega) (by omega) qr s1    w25 H.size hT ) (cwV 1 hC.2.2.2.2 gX3_readFact_X6_takeByte rfl rfl rfl (by decide +kernel) ⟨Nat.le_of_ble_eq_true rfl, Nat.le_of_ble_eq_true rfl⟩) rfl hl.1 rfl (Nat.le_of_ble_eq_true rfl) dX3_readFact_147 (fun r33 w35 H locs hp34 hw => ?_)
        obtain ⟨hT, k36, hg41⟩ := hp34
        have hF := hF.tr k36 (by decide)
        have c42 := k36.gi kC_at1 (by decide) c32
        rcases hg41 with rfl | ⟨rfl, ⟨x37, c38, rx37, tx37⟩, ⟨x39, c40, rx39, tx39⟩⟩
        · refine lv_if_ne (tgt := 160) hx hb dX3_readFact_150 (by decide) (fun c => absurd (by decide) c) (fun _ => ?_)
          refine lv_aload_n hx hb dX3_readFact_153 rfl (lv_at hl 0 rfl) ?_
          refine tk_getA hC hK hw hT hinX3 kC_at3 (by decide) rfl 0 (by decide) (List.mem_of_getElem? (i := 1) rfl) rfl rfl dX3_readFact_154 ?_
          refine tk_Vv hC hK hw hT hA hE hSR kC_at1 (by decide) rfl (k_X6_blameHere_1 l adK adV dC dI cy ad B (by omega) (by omega) qr s1    w35 H.size hT (c42.trans (wk_eq.mpr (show x20.toInt = 0 by omega)))) (cwV 0 hC.2.2.2.2 gX3_readFact_X6_blameHere rfl rfl rfl (by decide +kernel) ⟨Nat.le_of_ble_eq_true rfl, Nat.le_of_ble_eq_true rfl⟩) rfl hl.1 rfl (Nat.le_of_ble_eq_true rfl) dX3_readFact_157 (fun w45 H locs hp44 hw => ?_)
          obtain ⟨hT, k46, hg49⟩ := hp44
          have hF := hF.tr k46 (by decide)
          obtain ⟨x47, c48, rx47, tx47⟩ := hg49
          exact J160 v77_2 v77_3 x47 H locs ls w45 (show 0 ≤ v77_2.toInt by omega) (show v77_2.toInt ≤ 1 by omega) (show 0 ≤ v77_3.toInt by omega) (show v77_3.toInt ≤ 1 by omega) (show 0 ≤ x47.toInt by omega) (show x47.toInt ≤ 3204 by omega)  hw hT hF c48 (lv_sub hl [0, 1, 2, 3] rfl)
        · refine lv_if_ne (tgt := 160) hx hb dX3_readFact_150 (by decide) (fun _ => ?_) (fun c => absurd c (by decide))
          exact J160 v77_2 v77_3 x20 H locs ls w35 (show 0 ≤ v77_2.toInt by omega) (show v77_2.toInt ≤ 1 by omega) (show 0 ≤ v77_3.toInt by omega) (show v77_3.toInt ≤ 1 by omega) (show 0 ≤ x20.toInt by omega) (show x20.toInt ≤ 3204 by omega)  hw hT hF c42 (lv_sub hl [0, 1, 2, 3] rfl)
      · have ex29 : x29.toInt = x20.toInt := by rw [← c32.symm.trans c30]
        refine lv_if_ne (tgt := 160) hx hb dX3_readFact_138 (by decide) (fun _ => ?_) (fun c => absurd c (by decide))
        exact J160 v77_2 v77_3 x20 H locs ls w25 (show 0 ≤ v77_2.toInt by omega) (show v77_2.toInt ≤ 1 by omega) (show 0 ≤ v77_3.toInt by omega) (show v77_3.toInt ≤ 1 by omega) (show 0 ≤ x20.toInt by omega) (show x20.toInt ≤ 3204 by omega)  hw hT hF c32 (lv_sub hl [0, 1, 2, 3] rfl)
    · have c15 : ¬ v77_2.toInt = (0 : Int) := wk_eqF c15
      refine lv_aload_n hx hb dX3_readFact_105 rfl (lv_at hl 0 rfl) ?_
      refine lv_iload_n hx hb dX3_readFact_106 rfl (lv_at hl 1 rfl) ?_
      refine lv_iconst (v := 1) hx hb dX3_readFact_107 (by decide) ?_
      refine lv_iadd hx hb dX3_readFact_108 ?_
      refine wk_top 10 (by decide) ?_
      refine tk_Vv hC hK hw hT hA hE hSR kC_at3 (by decide) rfl (k_X3_readFact_11 l adK adV dC dI cy ad B (by omega) (by omega) qr s1 hqr   w9 H.size hT c14) (cwV 1 hC.2.2.2.2 gX3_readFact_X3_readFact rfl rfl rfl (by decide +kernel) ⟨Nat.le_of_ble_eq_true rfl, Nat.le_of_ble_eq_true rfl⟩) rfl hl.1 rfl (Nat.le_of_ble_eq_true rfl) dX3_readFact_109 (fun w52 H locs hp51 hw => ?_)
      obtain ⟨hT, k53, hg56⟩ := hp51
      have hF := hF.tr k53 (by decide)
      obtain ⟨x54, c55, rx54, tx54⟩ := hg56
      refine lv_aload_n hx hb dX3_readFact_112 rfl (lv_at hl 0 rfl) ?_
      refine tk_getQ hC hK hw hT hqr (by decide) hinX3 kC_at3 (by decide) rfl 1 (by decide) (List.mem_of_getElem? (i := 2) rfl) rfl rfl dX3_readFact_113 ?_
      refine lv_bipush (v := 19) hx hb dX3_readFact_116 (by decide) ?_
      refine tk_Vv hC hK hw hT hA hE hSR hqr (by decide) rfl (k_X2_addToken_11 l adK adV dC dI cy ad B (by omega) (by omega) qr s1   qr hqr w52 H.size hT ) (cwV 1 hC.2.2.2.2 gX3_readFact_X2_addToken rfl rfl rfl (by decide +kernel) ⟨Nat.le_of_ble_eq_true rfl, Nat.le_of_ble_eq_true rfl⟩) rfl hl.1 rfl (Nat.le_of_ble_eq_true rfl) dX3_readFact_118 (fun w59 H locs hp58 hw => ?_)
      obtain ⟨hT, k60, hg63⟩ := hp58
      have hF := hF.tr k60 (by decide)
      have c64 := k60.gi kC_at1 (by decide) c55
      obtain ⟨x61, c62, rx61, tx61⟩ := hg63
      refine lv_goto (tgt := 160) hx hb dX3_readFact_121 (by decide) ?_
      exact J160 v77_2 v77_3 x54 H locs ls w59 (show 0 ≤ v77_2.toInt by omega) (show v77_2.toInt ≤ 1 by omega) (show 0 ≤ v77_3.toInt by omega) (show v77_3.toInt ≤ 1 by omega) (show 0 ≤ x54.toInt by omega) (show x54.toInt ≤ 3204 by omega)  hw hT hF c64 (lv_sub hl [0, 1, 2, 3] rfl)
  have J41 : ∀ (v41_2 : Int32) (H : Heap) (locs : List Loc) (ls : Array Slot) (w65 : va_W), 0 ≤ v41_2.toInt → v41_2.toInt ≤ 1 → Wd dC dI A s.heap H locs w65 → TW ksC ad cy B qr s1 w65 → FE ksC [(2, 3, 3), (3, 2, 2), (6, 1, 1), (6, 3, 3), (6, 4, 4), (22, 0, 13), (23, 0, 400)] w0 w65 → gi w65 1 4 = 0 → lv_has ls 5 [(0, .ref (ad 3)), (1, .int 9), (2, .int v41_2)] → W p l e ({ frames := 10, cells := 0, slots := 0, locals := 258 }) s m (List.toArray [.ref (ad 3), .int 9]) below meth c H locs 0 0 (MQ below (va_Qv (P_X3_readFact_10 ad cy B qr s1  w0) (fun u : va_W => wpost dC dI cy A u) A) (List.toArray [.ref (ad 3), .int 9]) s 0 0 A) (F0 m 41 ls []) := by
    intro v41_2 H locs ls w65 r66 t67 hw hT hF c68 hl
    refine lv_iconst (v := 0) hx hb dX3_readFact_41 (by decide) ?_
    refine lv_istore_n (lv' := [(3, .int 0), (0, .ref (ad 3)), (1, .int 9), (2, .int v41_2)]) hx hb dX3_readFact_42 rfl hl (by decide) rfl (fun ls hl => ?_)
    refine lv_iload_n hx hb dX3_readFact_43 rfl (lv_at hl 3 rfl) ?_
    refine lv_if_ne (tgt := 77) hx hb dX3_readFact_44 (by decide) (fun c69 => ?_) (fun c69 => ?_)
    · have c69 : ¬ v41_2.toInt = (0 : Int) := wk_eqF c69
      exact J77 v41_2 0 H locs ls w65 (show 0 ≤ v41_2.toInt by omega) (show v41_2.toInt ≤ 1 by omega) (by decide) (by decide)  hw hT hF c68 (lv_sub hl [1, 2, 3, 0] rfl)
    · have c69 : v41_2.toInt = (0 : Int) := wk_eq.mp c69
      refine lv_iload_n hx hb dX3_readFact_47 rfl (lv_at hl 0 rfl) ?_
      refine lv_if_ne (tgt := 77) hx hb dX3_readFact_48 (by decide) (fun c => absurd (by decide) c) (fun _ => ?_)
      refine lv_aload_n hx hb dX3_readFact_51 rfl (lv_at hl 1 rfl) ?_
      refine tk_Vv hC hK hw hT hA hE hSR kC_at3 (by decide) rfl (k_X3_readSum_1 l adK adV dC dI cy ad B (by omega) (by omega) qr s1 hqr   w65 H.size hT c68) (cwV 0 hC.2.2.2.2 gX3_readFact_X3_readSum rfl rfl rfl (by decide +kernel) ⟨Nat.le_of_ble_eq_true rfl, Nat.le_of_ble_eq_true rfl⟩) rfl hl.1 rfl (Nat.le_of_ble_eq_true rfl) dX3_readFact_52 (fun w72 H locs hp71 hw => ?_)
      obtain ⟨hT, k73, hg76⟩ := hp71
      have hF := hF.tr k73 (by decide)
      obtain ⟨x74, c75, rx74, tx74⟩ := hg76
      refine lv_aload_n hx hb dX3_readFact_55 rfl (lv_at hl 1 rfl) ?_
      refine tk_Vi hC hK hw hT hA hE hSR kC_at3 (by decide) rfl (k_X3_readSign_1 l adK adV dC dI cy ad B (by omega) (by omega) qr s1    w72 H.size hT x74 c75 (show 0 ≤ x74.toInt by omega) (show x74.toInt ≤ 3204 by omega)) (cwV 0 hC.2.2.2.2 gX3_readFact_X3_readSign rfl rfl rfl (by decide +kernel) ⟨Nat.le_of_ble_eq_true rfl, Nat.le_of_ble_eq_true rfl⟩) rfl hl.1 rfl (Nat.le_of_ble_eq_true rfl) dX3_readFact_56 (fun r77 w79 H locs hp78 hw => ?_)
      obtain ⟨hT, k80, hg91⟩ := hp78
      have hF := hF.tr k80 (by decide)
      rcases hg91 with ⟨rfl, ⟨x81, c82, rx81, tx81⟩⟩ | ⟨g83, g84, ⟨x85, c86, rx85, tx85⟩, ⟨x87, c88, rx87, tx87⟩, ⟨x89, c90, rx89, tx89⟩⟩
      · refine lv_istore (lv' := [(4, .int 16), (3, .int 0), (0, .ref (ad 3)), (1, .int 9), (2, .int v41_2)]) hx hb dX3_readFact_59 hl (by decide) rfl (fun ls hl => ?_)
        refine lv_aload_n hx hb dX3_readFact_61 rfl (lv_at hl 2 rfl) ?_
        refine tk_Vv hC hK hw hT hA hE hSR kC_at3 (by decide) rfl (k_X3_readSum_2 l adK adV dC dI cy ad B (by omega) (by omega) qr s1 hqr   w79 H.size hT x81 c82 (show 1 ≤ x81.toInt by omega) (show x81.toInt ≤ 3204 by omega)) (cwV 0 hC.2.2.2.2 gX3_readFact_X3_readSum rfl rfl rfl (by decide +kernel) ⟨Nat.le_of_ble_eq_true rfl, Nat.le_of_ble_eq_true rfl⟩) rfl hl.1 rfl (Nat.le_of_ble_eq_true rfl) dX3_readFact_62 (fun w94 H locs hp93 hw => ?_)
        obtain ⟨hT, k95, hg98⟩ := hp93
        have hF := hF.tr k95 (by decide)
        have c99 := k95.gi kC_at1 (by decide) c82
        obtain ⟨x96, c97, rx96, tx96⟩ := hg98
        have ex96 : x96.toInt = x81.toInt := by rw [← c99.symm.trans c97]
        refine lv_aload_n hx hb dX3_readFact_65 rfl (lv_at hl 2 rfl) ?_
        refine tk_getQ hC hK hw hT hqr (by decide) hinX3 kC_at3 (by decide) rfl 1 (by decide) (List.mem_of_getElem? (i := 2) rfl) rfl rfl dX3_readFact_66 ?_
        refine lv_iload hx hb dX3_readFact_69 (lv_at hl 0 rfl) ?_
        refine tk_Vv hC hK hw hT hA hE hSR hqr (by decide) rfl (k_X2_addToken_8 l adK adV dC dI cy ad B (by omega) (by omega) qr s1   qr hqr w94 H.size hT ) (cwV 1 hC.2.2.2.2 gX3_readFact_X2_addToken rfl rfl rfl (by decide +kernel) ⟨Nat.le_of_ble_eq_true rfl, Nat.le_of_ble_eq_true rfl⟩) rfl hl.1 rfl (Nat.le_of_ble_eq_true rfl) dX3_readFact_71 (fun w102 H locs hp101 hw => ?_)
        obtain ⟨hT, k103, hg106⟩ := hp101
        have hF := hF.tr k103 (by decide)
        have c107 := k103.gi kC_at1 (by decide) c99
        obtain ⟨x104, c105, rx104, tx104⟩ := hg106
        refine lv_goto (tgt := 160) hx hb dX3_readFact_74 (by decide) ?_
        exact J160 v41_2 0 x81 H locs ls w102 (show 0 ≤ v41_2.toInt by omega) (show v41_2.toInt ≤ 1 by omega) (by decide) (by decide) (show 0 ≤ x81.toInt by omega) (show x81.toInt ≤ 3204 by omega)  hw hT hF c107 (lv_sub hl [2, 3, 4, 1] rfl)
      · refine lv_istore (lv' := [(4, .int r77), (3, .int 0), (0, .ref (ad 3)), (1, .int 9), (2, .int v41_2)]) hx hb dX3_readFact_59 hl (by decide) rfl (fun ls hl => ?_)
        refine lv_aload_n hx hb dX3_readFact_61 rfl (lv_at hl 2 rfl) ?_
        refine tk_Vv hC hK hw hT hA hE hSR kC_at3 (by decide) rfl (k_X3_readSum_3 l adK adV dC dI cy ad B (by omega) (by omega) qr s1 hqr   w79 H.size hT x89 c90 (show 0 ≤ x89.toInt by omega) (show x89.toInt ≤ 3204 by omega)) (cwV 0 hC.2.2.2.2 gX3_readFact_X3_readSum rfl rfl rfl (by decide +kernel) ⟨Nat.le_of_ble_eq_true rfl, Nat.le_of_ble_eq_true rfl⟩) rfl hl.1 rfl (Nat.le_of_ble_eq_true rfl) dX3_readFact_62 (fun w110 H locs hp109 hw => ?_)
        obtain ⟨hT, k111, hg114⟩ := hp109
        have hF := hF.tr k111 (by decide)
        have c115 := k111.gi kC_at1 (by decide) c86
        obtain ⟨x112, c113, rx112, tx112⟩ := hg114
        refine lv_aload_n hx hb dX3_readFact_65 rfl (lv_at hl 2 rfl) ?_
        refine tk_getQ hC hK hw hT hqr (by decide) hinX3 kC_at3 (by decide) rfl 1 (by decide) (List.mem_of_getElem? (i := 2) rfl) rfl rfl dX3_readFact_66 ?_
        refine lv_iload hx hb dX3_readFact_69 (lv_at hl 0 rfl) ?_
        refine tk_Vv hC hK hw hT hA hE hSR hqr (by decide) rfl (k_X2_addToken_9 l adK adV dC dI cy ad B (by omega) (by omega) qr s1   qr hqr r77 (show 14 ≤ r77.toInt by omega) (show r77.toInt ≤ 18 by omega) w110 H.size hT ) (cwV 1 hC.2.2.2.2 gX3_readFact_X2_addToken rfl rfl rfl (by decide +kernel) ⟨Nat.le_of_ble_eq_true rfl, Nat.le_of_ble_eq_true rfl⟩) rfl hl.1 rfl (Nat.le_of_ble_eq_true rfl) dX3_readFact_71 (fun w118 H locs hp117 hw => ?_)
        obtain ⟨hT, k119, hg122⟩ := hp117
        have hF := hF.tr k119 (by decide)
        have c123 := k119.gi kC_at1 (by decide) c115
        have c124 := k119.gi kC_at1 (by decide) c113
        obtain ⟨x120, c121, rx120, tx120⟩ := hg122
        refine lv_goto (tgt := 160) hx hb dX3_readFact_74 (by decide) ?_
        exact J160 v41_2 0 x112 H locs ls w118 (show 0 ≤ v41_2.toInt by omega) (show v41_2.toInt ≤ 1 by omega) (by decide) (by decide) (show 0 ≤ x112.toInt by omega) (show x112.toInt ≤ 3204 by omega)  hw hT hF c124 (lv_sub hl [2, 3, 4, 1] rfl)
  refine lv_aload_n hx hb dX3_readFact_0 rfl (lv_at hl 0 rfl) ?_
  refine tk_getA hC hK hw hT hinX3 kC_at3 (by decide) rfl 0 (by decide) (List.mem_of_getElem? (i := 1) rfl) rfl rfl dX3_readFact_1 ?_
  refine tk_Vi hC hK hw hT hA hE hSR kC_at1 (by decide) rfl (k_X6_isFaulty_3 l adK adV dC dI cy ad B (by omega) (by omega) qr s1    w0 s.heap.size hT cf0_) (cwV 0 hC.2.2.2.2 gX3_readFact_X6_isFaulty rfl rfl rfl (by decide +kernel) ⟨Nat.le_of_ble_eq_true rfl, Nat.le_of_ble_eq_true rfl⟩) rfl hl.1 rfl (Nat.le_of_ble_eq_true rfl) dX3_readFact_4 (fun r125 w127 H locs hp126 hw => ?_)
  obtain ⟨hT, k128, hg131⟩ := hp126
  have hF := hF.tr k128 (by decide)
  have c132 := k128.gi kC_at1 (by decide) cf0_
  obtain ⟨rfl, ⟨x129, c130, rx129, tx129⟩⟩ := hg131
  have ex129 : x129.toInt = (0 : Int) := by rw [show x129 = 0 from c130.symm.trans c132]; decide
  refine lv_if_eq (tgt := 11) hx hb dX3_readFact_7 (by decide) (fun _ => ?_) (fun c => absurd (by decide) c)
  refine lv_aload_n hx hb dX3_readFact_11 rfl (lv_at hl 0 rfl) ?_
  refine tk_getA hC hK hw hT hinX3 kC_at3 (by decide) rfl 0 (by decide) (List.mem_of_getElem? (i := 1) rfl) rfl rfl dX3_readFact_12 ?_
  refine va_ldcS hx hb hC.2.2.2.1 hSR.2.2.2.2.1 dX3_readFact_15 ?_
  refine tk_Vi hC hK hw hT hA hE hSR kC_at1 (by decide) rfl (k_X6_takeWord_4 l adK adV dC dI cy ad B (by omega) (by omega) qr s1    w127 H.size hT ) (cwV 1 hC.2.2.2.2 gX3_readFact_X6_takeWord rfl rfl rfl (by decide +kernel) ⟨Nat.le_of_ble_eq_true rfl, Nat.le_of_ble_eq_true rfl⟩) rfl hl.1 rfl (Nat.le_of_ble_eq_true rfl) dX3_readFact_17 (fun r133 w135 H locs hp134 hw => ?_)
  obtain ⟨hT, k136, hg139⟩ := hp134
  have hF := hF.tr k136 (by decide)
  have c140 := k136.gi kC_at1 (by decide) c132
  rcases hg139 with rfl | ⟨rfl, ⟨x137, c138, rx137, tx137⟩⟩
  · refine lv_istore_n (lv' := [(2, .int 0), (0, .ref (ad 3)), (1, .int 9)]) hx hb dX3_readFact_20 rfl hl (by decide) rfl (fun ls hl => ?_)
    refine lv_iload_n hx hb dX3_readFact_21 rfl (lv_at hl 0 rfl) ?_
    refine lv_if_ne (tgt := 41) hx hb dX3_readFact_22 (by decide) (fun c => absurd (by decide) c) (fun _ => ?_)
    refine lv_aload_n hx hb dX3_readFact_25 rfl (lv_at hl 1 rfl) ?_
    refine tk_getA hC hK hw hT hinX3 kC_at3 (by decide) rfl 0 (by decide) (List.mem_of_getElem? (i := 1) rfl) rfl rfl dX3_readFact_26 ?_
    refine lv_bipush (v := 91) hx hb dX3_readFact_29 (by decide) ?_
    refine tk_Vi hC hK hw hT hA hE hSR kC_at1 (by decide) rfl (k_X6_takeByte_2 l adK adV dC dI cy ad B (by omega) (by omega) qr s1    w135 H.size hT ) (cwV 1 hC.2.2.2.2 gX3_readFact_X6_takeByte rfl rfl rfl (by decide +kernel) ⟨Nat.le_of_ble_eq_true rfl, Nat.le_of_ble_eq_true rfl⟩) rfl hl.1 rfl (Nat.le_of_ble_eq_true rfl) dX3_readFact_31 (fun r141 w143 H locs hp142 hw => ?_)
    obtain ⟨hT, k144, hg149⟩ := hp142
    have hF := hF.tr k144 (by decide)
    have c150 := k144.gi kC_at1 (by decide) c140
    rcases hg149 with rfl | ⟨rfl, ⟨x145, c146, rx145, tx145⟩, ⟨x147, c148, rx147, tx147⟩⟩
    · refine lv_if_eq (tgt := 41) hx hb dX3_readFact_34 (by decide) (fun _ => ?_) (fun c => absurd (by decide) c)
      exact J41 0 H locs ls w143 (by decide) (by decide)  hw hT hF c150 (lv_sub hl [1, 2, 0] rfl)
    · refine lv_if_eq (tgt := 41) hx hb dX3_readFact_34 (by decide) (fun c => absurd c (by decide)) (fun _ => ?_)
      refine lv_iconst (v := 1) hx hb dX3_readFact_37 (by decide) ?_
      refine lv_goto (tgt := 42) hx hb dX3_readFact_38 (by decide) ?_
      refine lv_istore_n (lv' := [(3, .int 1), (2, .int 0), (0, .ref (ad 3)), (1, .int 9)]) hx hb dX3_readFact_42 rfl hl (by decide) rfl (fun ls hl => ?_)
      refine lv_iload_n hx hb dX3_readFact_43 rfl (lv_at hl 1 rfl) ?_
      refine lv_if_ne (tgt := 77) hx hb dX3_readFact_44 (by decide) (fun c => absurd (by decide) c) (fun _ => ?_)
      refine lv_iload_n hx hb dX3_readFact_47 rfl (lv_at hl 0 rfl) ?_
      refine lv_if_ne (tgt := 77) hx hb dX3_readFact_48 (by decide) (fun _ => ?_) (fun c => absurd c (by decide))
      exact J77 0 1 H locs ls w143 (by decide) (by decide) (by decide) (by decide)  hw hT hF c150 (lv_sub hl [2, 3, 1, 0] rfl)
  · refine lv_istore_n (lv' := [(2, .int 1), (0, .ref (ad 3)), (1, .int 9)]) hx hb dX3_readFact_20 rfl hl (by decide) rfl (fun ls hl => ?_)
    refine lv_iload_n hx hb dX3_readFact_21 rfl (lv_at hl 0 rfl) ?_
    refine lv_if_ne (tgt := 41) hx hb dX3_readFact_22 (by decide) (fun _ => ?_) (fun c => absurd c (by decide))
    exact J41 1 H locs ls w135 (by decide) (by decide)  hw hT hF c140 (lv_sub hl [1, 2, 0] rfl)
abbrev P_X3_readTest_10 (ad : Nat → Nat) (cy : Nat → ClassId) (B : Int) (qr : Nat) (s1 : Int)  (w0 : va_W) : va_W → Prop := fun u => TW ksC ad cy B qr s1 u ∧ FE ksC [(2, 3, 3), (3, 2, 2), (6, 1, 1), (6, 3, 3), (6, 4, 4), (22, 0, 13), (23, 0, 400)] w0 u ∧ (((∃ y : Int32, gi u 1 4 = y ∧ 0 ≤ y.toInt ∧ y.toInt ≤ 3204)))
set_option maxHeartbeats 4000000 in
set_option maxRecDepth 100000 in
theorem k_X3_readTest_10 (l : Launch) (adK adV : Nat → Nat) (dC : Nat → ClassId) (dI : Nat → Nat → Nat) (cy : Nat → ClassId) (ad : Nat → Nat) (B : Int) (hB0 : 2147483648 ≤ B) (hB1 : B ≤ 1152921504606846976) (qr : Nat) (s1 : Int) (hqr : ksC[qr]? = some 2)  (w0 : va_W) (sz : Nat) (hT : TW ksC ad cy B qr s1 w0) (cf0_ : gi w0 1 4 = 0) : Met l yX3_readTest wsX3_readTest ({ frames := 11, cells := 0, slots := 0, locals := 282 }) (va_Pc [.ref (ad 3), .int 9] (wpreS adK adV dC dI cy sz w0)) (va_Qv (P_X3_readTest_10 ad cy B qr s1  w0) (fun u : va_W => wpost dC dI cy (va_A w0 sz) u) (va_A w0 sz)) 0 0 (va_A w0 sz) := by
  refine Met.ofW (cc := cX3_readTest) (maxL := 4) (ret := none) (by decide) rfl ?_
  intro p e s m args below meth c s₁ Bk hml hv
  obtain ⟨rfl, ⟨hsz, hP, hK, hD0⟩, hE, hSR⟩ := hv
  have hx := Bk.exec
  have hb := Bk.bytes
  have hr := Bk.returns
  have hlocks := Bk.notSynchronized
  have hC : CallFix p m c cX3_readTest 4 s _ wsX3_readTest RX3 := ⟨hx, hb, hml, findClass_of_methodNamed Bk.named, atoms_spec (ws := wsX3_readTest) Bk.pre⟩
  subst hsz
  have hD := hD0.self (sz := s.heap.size)
  generalize hAe : va_A w0 s.heap.size = A at hD hE ⊢
  have hA : ∀ q : Nat, s.heap.size ≤ q → A q := fun q h => by rw [← hAe]; exact Or.inr h
  have hw : Wd dC dI A s.heap s.heap [] w0 := ⟨hP, hD, va_S.rf⟩
  have hF : FE ksC [(2, 3, 3), (3, 2, 2), (6, 1, 1), (6, 3, 3), (6, 4, 4), (22, 0, 13), (23, 0, 400)] w0 w0 := FE.rf
  have hl := lv_entry ([.ref (ad 3), .int 9]) (n := 4) (Nat.le_of_ble_eq_true rfl)
  rw [lg_entry_eq]
  generalize (lg_sl ([.ref (ad 3), .int 9]) ++ List.replicate (4 - (lg_sl ([.ref (ad 3), .int 9])).length) Slot.unset).toArray = ls at hl ⊢
  have hl : lv_has ls 4 [(0, .ref (ad 3)), (1, .int 9)] := hl
  generalize hloc : ([] : List Loc) = locs at hw ⊢
  have hinX3 : ∀ w ∈ u_ws RX3 TX3 3, w ∈ wsX3_readTest := fun _ h => List.mem_cons_of_mem _ (List.mem_append_left _ (List.mem_append_left _ (List.mem_append_right _ (h))))
  have J86 : ∀ (v86_2 : Int32) (v86_3 : Int32) (f86_1_4 : Int32) (H : Heap) (locs : List Loc) (ls : Array Slot) (w1 : va_W), (-1) ≤ v86_2.toInt → v86_2.toInt ≤ 21 → 0 ≤ v86_3.toInt → v86_3.toInt ≤ 400 → 0 ≤ f86_1_4.toInt → f86_1_4.toInt ≤ 3204 → Wd dC dI A s.heap H locs w1 → TW ksC ad cy B qr s1 w1 → FE ksC [(2, 3, 3), (3, 2, 2), (6, 1, 1), (6, 3, 3), (6, 4, 4), (22, 0, 13), (23, 0, 400)] w0 w1 → gi w1 1 4 = f86_1_4 → lv_has ls 4 [(0, .ref (ad 3)), (1, .int 9), (2, .int v86_2), (3, .int v86_3)] → W p l e ({ frames := 11, cells := 0, slots := 0, locals := 282 }) s m (List.toArray [.ref (ad 3), .int 9]) below meth c H locs 0 0 (MQ below (va_Qv (P_X3_readTest_10 ad cy B qr s1  w0) (fun u : va_W => wpost dC dI cy A u) A) (List.toArray [.ref (ad 3), .int 9]) s 0 0 A) (F0 m 86 ls []) := by
    intro v86_2 v86_3 f86_1_4 H locs ls w1 r2 t3 r4 t5 r6 t7 hw hT hF c8 hl
    refine lv_aload_n hx hb dX3_readTest_86 rfl (lv_at hl 0 rfl) ?_
    refine lv_iload_n hx hb dX3_readTest_87 rfl (lv_at hl 2 rfl) ?_
    refine tk_Vv hC hK hw hT hA hE hSR kC_at3 (by decide) rfl (k_X3_addWaiting_1 l adK adV dC dI cy ad B (by omega) (by omega) qr s1 hqr  v86_2 (show (-1) ≤ v86_2.toInt by omega) (show v86_2.toInt ≤ 21 by omega) w1 H.size hT ) (cwV 1 hC.2.2.2.2 gX3_readTest_X3_addWaiting rfl rfl rfl (by decide +kernel) ⟨Nat.le_of_ble_eq_true rfl, Nat.le_of_ble_eq_true rfl⟩) rfl hl.1 rfl (Nat.le_of_ble_eq_true rfl) dX3_readTest_88 (fun w11 H locs hp10 hw => ?_)
    obtain ⟨hT, k12, hg13⟩ := hp10
    have hF := hF.tr k12 (by decide)
    have c14 := k12.gi kC_at1 (by decide) c8
    clear hg13
    exact tk_vret hC hr hlocks hK ⟨hT, hF, ⟨f86_1_4, c14, (show 0 ≤ f86_1_4.toInt by omega), (show f86_1_4.toInt ≤ 3204 by omega)⟩⟩ hw dX3_readTest_91
  have L9 : ∀ (n9 : Nat) (v9_2 : Int32) (v9_3 : Int32) (f9_1_4 : Int32) (H : Heap) (locs : List Loc) (ls : Array Slot) (w15 : va_W), (-1) ≤ v9_2.toInt → v9_2.toInt ≤ 21 → 0 ≤ v9_3.toInt → v9_3.toInt ≤ 400 → 0 ≤ f9_1_4.toInt → f9_1_4.toInt ≤ 3204 → (400 - v9_3.toInt).toNat < n9 → Wd dC dI A s.heap H locs w15 → TW ksC ad cy B qr s1 w15 → FE ksC [(2, 3, 3), (3, 2, 2), (6, 1, 1), (6, 3, 3), (6, 4, 4), (22, 0, 13), (23, 0, 400)] w0 w15 → gi w15 1 4 = f9_1_4 → lv_has ls 4 [(0, .ref (ad 3)), (1, .int 9), (2, .int v9_2), (3, .int v9_3)] → W p l e ({ frames := 11, cells := 0, slots := 0, locals := 282 }) s m (List.toArray [.ref (ad 3), .int 9]) below meth c H locs 0 0 (MQ below (va_Qv (P_X3_readTest_10 ad cy B qr s1  w0) (fun u : va_W => wpost dC dI cy A u) A) (List.toArray [.ref (ad 3), .int 9]) s 0 0 A) (F0 m 9 ls []) := by
    intro n9
    induction n9 with
    | zero => intro v9_2 v9_3 f9_1_4 H locs ls w15 r16 t17 r18 t19 r20 t21 hm9 hw hT hF c22 hl; omega
    | succ n9 ih9 =>
      intro v9_2 v9_3 f9_1_4 H locs ls w15 r16 t17 r18 t19 r20 t21 hm9 hw hT hF c22 hl
      have J80 : ∀ (v80_2 : Int32) (f80_1_4 : Int32) (H : Heap) (locs : List Loc) (ls : Array Slot) (w23 : va_W), (-1) ≤ v80_2.toInt → v80_2.toInt ≤ 21 → 0 ≤ v9_3.toInt → v9_3.toInt ≤ 399 → 0 ≤ f80_1_4.toInt → f80_1_4.toInt ≤ 3204 → Wd dC dI A s.heap H locs w23 → TW ksC ad cy B qr s1 w23 → FE ksC [(2, 3, 3), (3, 2, 2), (6, 1, 1), (6, 3, 3), (6, 4, 4), (22, 0, 13), (23, 0, 400)] w0 w23 → gi w23 1 4 = f80_1_4 → lv_has ls 4 [(0, .ref (ad 3)), (1, .int 9), (2, .int v80_2), (3, .int v9_3)] → W p l e ({ frames := 11, cells := 0, slots := 0, locals := 282 }) s m (List.toArray [.ref (ad 3), .int 9]) below meth c H locs 0 0 (MQ below (va_Qv (P_X3_readTest_10 ad cy B qr s1  w0) (fun u : va_W => wpost dC dI cy A u) A) (List.toArray [.ref (ad 3), .int 9]) s 0 0 A) (F0 m 80 ls []) := by
        intro v80_2 f80_1_4 H locs ls w23 r24 t25 r26 t27 r28 t29 hw hT hF c30 hl
        obtain ⟨x31, ex31⟩ : ∃ y : Int32, y = v9_3 + Int32.ofInt 1 := ⟨_, rfl⟩
        refine lv_iinc (v := x31) (lv' := [(3, .int x31), (0, .ref (ad 3)), (1, .int 9), (2, .int v80_2)]) hx hb dX3_readTest_80 hl (k := 3) rfl ex31.symm (by decide) rfl (fun ls hl => ?_)
        have ex31 : x31.toInt = v9_3.toInt + 1 := by rw [ex31]; exact wk_add (y := 1) (show -2147483648 ≤ v9_3.toInt + 1 by omega) (show v9_3.toInt + 1 ≤ 2147483647 by omega)
        refine lv_goto (tgt := 9) hx hb dX3_readTest_83 (by decide) ?_
        exact ih9 v80_2 x31 f80_1_4 H locs ls w23 (show (-1) ≤ v80_2.toInt by omega) (show v80_2.toInt ≤ 21 by omega) (show 0 ≤ x31.toInt by omega) (show x31.toInt ≤ 400 by omega) (show 0 ≤ f80_1_4.toInt by omega) (show f80_1_4.toInt ≤ 3204 by omega) (show (400 - x31.toInt).toNat < n9 by omega) hw hT hF c30 (lv_sub hl [1, 2, 3, 0] rfl)
      refine lv_iload_n hx hb dX3_readTest_9 rfl (lv_at hl 3 rfl) ?_
      refine lv_sipush (v := 400) hx hb dX3_readTest_10 (by decide) ?_
      refine lv_icmp_ge (tgt := 86) hx hb dX3_readTest_13 (by decide) (fun c32 => ?_) (fun c32 => ?_)
      · have c32 : (400 : Int) ≤ v9_3.toInt := wk_le.mp c32
        exact J86 v9_2 v9_3 f9_1_4 H locs ls w15 (show (-1) ≤ v9_2.toInt by omega) (show v9_2.toInt ≤ 21 by omega) (show 0 ≤ v9_3.toInt by omega) (show v9_3.toInt ≤ 400 by omega) (show 0 ≤ f9_1_4.toInt by omega) (show f9_1_4.toInt ≤ 3204 by omega)  hw hT hF c22 (lv_sub hl [0, 1, 2, 3] rfl)
      · have c32 : v9_3.toInt < (400 : Int) := wk_leF c32
        refine lv_aload_n hx hb dX3_readTest_16 rfl (lv_at hl 0 rfl) ?_
        refine tk_getA hC hK hw hT hinX3 kC_at3 (by decide) rfl 0 (by decide) (List.mem_of_getElem? (i := 1) rfl) rfl rfl dX3_readTest_17 ?_
        refine tk_Vi hC hK hw hT hA hE hSR kC_at1 (by decide) rfl (k_X6_isFaulty_2 l adK adV dC dI cy ad B (by omega) (by omega) qr s1    w15 H.size hT f9_1_4 c22 (show 0 ≤ f9_1_4.toInt by omega) (show f9_1_4.toInt ≤ 3204 by omega)) (cwV 0 hC.2.2.2.2 gX3_readTest_X6_isFaulty rfl rfl rfl (by decide +kernel) ⟨Nat.le_of_ble_eq_true rfl, Nat.le_of_ble_eq_true rfl⟩) rfl hl.1 rfl (Nat.le_of_ble_eq_true rfl) dX3_readTest_20 (fun r33 w35 H locs hp34 hw => ?_)
        obtain ⟨hT, k36, hg41⟩ := hp34
        have hF := hF.tr k36 (by decide)
        have c42 := k36.gi kC_at1 (by decide) c22
        rcases hg41 with ⟨rfl, ⟨x37, c38, rx37, tx37⟩⟩ | ⟨rfl, ⟨x39, c40, rx39, tx39⟩⟩
        · have ex37 : x37.toInt = f9_1_4.toInt := by rw [← c42.symm.trans c38]
          refine lv_if_ne (tgt := 86) hx hb dX3_readTest_23 (by decide) (fun c => absurd (by decide) c) (fun _ => ?_)
          refine lv_aload_n hx hb dX3_readTest_26 rfl (lv_at hl 0 rfl) ?_
          refine tk_getA hC hK hw hT hinX3 kC_at3 (by decide) rfl 0 (by decide) (List.mem_of_getElem? (i := 1) rfl) rfl rfl dX3_readTest_27 ?_
          refine va_ldcS hx hb hC.2.2.2.1 hSR.2.2.2.2.2.2.1 dX3_readTest_30 ?_
          refine tk_Vi hC hK hw hT hA hE hSR kC_at1 (by decide) rfl (k_X6_takeWord_2 l adK adV dC dI cy ad B (by omega) (by omega) qr s1    w35 H.size hT ) (cwV 1 hC.2.2.2.2 gX3_readTest_X6_takeWord rfl rfl rfl (by decide +kernel) ⟨Nat.le_of_ble_eq_true rfl, Nat.le_of_ble_eq_true rfl⟩) rfl hl.1 rfl (Nat.le_of_ble_eq_true rfl) dX3_readTest_32 (fun r43 w45 H locs hp44 hw => ?_)
          obtain ⟨hT, k46, hg49⟩ := hp44
          have hF := hF.tr k46 (by decide)
          have c50 := k46.gi kC_at1 (by decide) c42
          rcases hg49 with rfl | ⟨rfl, ⟨x47, c48, rx47, tx47⟩⟩
          · refine lv_if_eq (tgt := 55) hx hb dX3_readTest_35 (by decide) (fun _ => ?_) (fun c => absurd (by decide) c)
            refine lv_aload_n hx hb dX3_readTest_55 rfl (lv_at hl 0 rfl) ?_
            refine tk_getA hC hK hw hT hinX3 kC_at3 (by decide) rfl 0 (by decide) (List.mem_of_getElem? (i := 1) rfl) rfl rfl dX3_readTest_56 ?_
            refine va_ldcS hx hb hC.2.2.2.1 hSR.2.2.2.2.2.2.2 dX3_readTest_59 ?_
            refine tk_Vi hC hK hw hT hA hE hSR kC_at1 (by decide) rfl (k_X6_takeWord_3 l adK adV dC dI cy ad B (by omega) (by omega) qr s1    w45 H.size hT ) (cwV 1 hC.2.2.2.2 gX3_readTest_X6_takeWord rfl rfl rfl (by decide +kernel) ⟨Nat.le_of_ble_eq_true rfl, Nat.le_of_ble_eq_true rfl⟩) rfl hl.1 rfl (Nat.le_of_ble_eq_true rfl) dX3_readTest_61 (fun r51 w53 H locs hp52 hw => ?_)
            obtain ⟨hT, k54, hg57⟩ := hp52
            have hF := hF.tr k54 (by decide)
            have c58 := k54.gi kC_at1 (by decide) c50
            rcases hg57 with rfl | ⟨rfl, ⟨x55, c56, rx55, tx55⟩⟩
            · refine lv_if_eq (tgt := 86) hx hb dX3_readTest_64 (by decide) (fun _ => ?_) (fun c => absurd (by decide) c)
              exact J86 v9_2 v9_3 f9_1_4 H locs ls w53 (show (-1) ≤ v9_2.toInt by omega) (show v9_2.toInt ≤ 21 by omega) (show 0 ≤ v9_3.toInt by omega) (show v9_3.toInt ≤ 400 by omega) (show 0 ≤ f9_1_4.toInt by omega) (show f9_1_4.toInt ≤ 3204 by omega)  hw hT hF c58 (lv_sub hl [0, 1, 2, 3] rfl)
            · refine lv_if_eq (tgt := 86) hx hb dX3_readTest_64 (by decide) (fun c => absurd c (by decide)) (fun _ => ?_)
              refine lv_aload_n hx hb dX3_readTest_67 rfl (lv_at hl 0 rfl) ?_
              refine lv_iload_n hx hb dX3_readTest_68 rfl (lv_at hl 2 rfl) ?_
              refine tk_Vv hC hK hw hT hA hE hSR kC_at3 (by decide) rfl (k_X3_addWaiting_1 l adK adV dC dI cy ad B (by omega) (by omega) qr s1 hqr  v9_2 (show (-1) ≤ v9_2.toInt by omega) (show v9_2.toInt ≤ 21 by omega) w53 H.size hT ) (cwV 1 hC.2.2.2.2 gX3_readTest_X3_addWaiting rfl rfl rfl (by decide +kernel) ⟨Nat.le_of_ble_eq_true rfl, Nat.le_of_ble_eq_true rfl⟩) rfl hl.1 rfl (Nat.le_of_ble_eq_true rfl) dX3_readTest_69 (fun w61 H locs hp60 hw => ?_)
              obtain ⟨hT, k62, hg63⟩ := hp60
              have hF := hF.tr k62 (by decide)
              have c64 := k62.gi kC_at1 (by decide) c58
              have c65 := k62.gi kC_at1 (by decide) c56
              clear hg63
              refine lv_bipush (v := 21) hx hb dX3_readTest_72 (by decide) ?_
              refine lv_istore_n (lv' := [(2, .int 21), (0, .ref (ad 3)), (1, .int 9), (3, .int v9_3)]) hx hb dX3_readTest_74 rfl hl (by decide) rfl (fun ls hl => ?_)
              refine lv_aload_n hx hb dX3_readTest_75 rfl (lv_at hl 1 rfl) ?_
              refine lv_iload_n hx hb dX3_readTest_76 rfl (lv_at hl 2 rfl) ?_
              refine tk_Vv hC hK hw hT hA hE hSR kC_at3 (by decide) rfl (k_X3_readFact_10 l adK adV dC dI cy ad B (by omega) (by omega) qr s1 hqr   w61 H.size hT (c64.trans (wk_eq.mpr (show f9_1_4.toInt = 0 by omega)))) (cwV 1 hC.2.2.2.2 gX3_readTest_X3_readFact rfl rfl rfl (by decide +kernel) ⟨Nat.le_of_ble_eq_true rfl, Nat.le_of_ble_eq_true rfl⟩) rfl hl.1 rfl (Nat.le_of_ble_eq_true rfl) dX3_readTest_77 (fun w68 H locs hp67 hw => ?_)
              obtain ⟨hT, k69, hg72⟩ := hp67
              have hF := hF.tr k69 (by decide)
              obtain ⟨x70, c71, rx70, tx70⟩ := hg72
              exact J80 21 x70 H locs ls w68 (by decide) (by decide) (show 0 ≤ v9_3.toInt by omega) (show v9_3.toInt ≤ 399 by omega) (show 0 ≤ x70.toInt by omega) (show x70.toInt ≤ 3204 by omega)  hw hT hF c71 (lv_sub hl [1, 2, 0, 3] rfl)
          · refine lv_if_eq (tgt := 55) hx hb dX3_readTest_35 (by decide) (fun c => absurd c (by decide)) (fun _ => ?_)
            refine lv_aload_n hx hb dX3_readTest_38 rfl (lv_at hl 0 rfl) ?_
            refine lv_iload_n hx hb dX3_readTest_39 rfl (lv_at hl 1 rfl) ?_
            refine tk_Vv hC hK hw hT hA hE hSR kC_at3 (by decide) rfl (k_X3_readFact_10 l adK adV dC dI cy ad B (by omega) (by omega) qr s1 hqr   w45 H.size hT (c50.trans (wk_eq.mpr (show f9_1_4.toInt = 0 by omega)))) (cwV 1 hC.2.2.2.2 gX3_readTest_X3_readFact rfl rfl rfl (by decide +kernel) ⟨Nat.le_of_ble_eq_true rfl, Nat.le_of_ble_eq_true rfl⟩) rfl hl.1 rfl (Nat.le_of_ble_eq_true rfl) dX3_readTest_40 (fun w75 H locs hp74 hw => ?_)
            obtain ⟨hT, k76, hg79⟩ := hp74
            have hF := hF.tr k76 (by decide)
            obtain ⟨x77, c78, rx77, tx77⟩ := hg79
            refine lv_aload_n hx hb dX3_readTest_43 rfl (lv_at hl 0 rfl) ?_
            refine tk_getQ hC hK hw hT hqr (by decide) hinX3 kC_at3 (by decide) rfl 1 (by decide) (List.mem_of_getElem? (i := 2) rfl) rfl rfl dX3_readTest_44 ?_
            refine lv_bipush (v := 20) hx hb dX3_readTest_47 (by decide) ?_
            refine tk_Vv hC hK hw hT hA hE hSR hqr (by decide) rfl (k_X2_addToken_10 l adK adV dC dI cy ad B (by omega) (by omega) qr s1   qr hqr w75 H.size hT ) (cwV 1 hC.2.2.2.2 gX3_readTest_X2_addToken rfl rfl rfl (by decide +kernel) ⟨Nat.le_of_ble_eq_true rfl, Nat.le_of_ble_eq_true rfl⟩) rfl hl.1 rfl (Nat.le_of_ble_eq_true rfl) dX3_readTest_49 (fun w82 H locs hp81 hw => ?_)
            obtain ⟨hT, k83, hg86⟩ := hp81
            have hF := hF.tr k83 (by decide)
            have c87 := k83.gi kC_at1 (by decide) c78
            obtain ⟨x84, c85, rx84, tx84⟩ := hg86
            refine lv_goto (tgt := 80) hx hb dX3_readTest_52 (by decide) ?_
            exact J80 v9_2 x77 H locs ls w82 (show (-1) ≤ v9_2.toInt by omega) (show v9_2.toInt ≤ 21 by omega) (show 0 ≤ v9_3.toInt by omega) (show v9_3.toInt ≤ 399 by omega) (show 0 ≤ x77.toInt by omega) (show x77.toInt ≤ 3204 by omega)  hw hT hF c87 (lv_sub hl [0, 1, 2, 3] rfl)
        · have ex39 : x39.toInt = f9_1_4.toInt := by rw [← c42.symm.trans c40]
          refine lv_if_ne (tgt := 86) hx hb dX3_readTest_23 (by decide) (fun _ => ?_) (fun c => absurd c (by decide))
          exact J86 v9_2 v9_3 f9_1_4 H locs ls w35 (show (-1) ≤ v9_2.toInt by omega) (show v9_2.toInt ≤ 21 by omega) (show 0 ≤ v9_3.toInt by omega) (show v9_3.toInt ≤ 400 by omega) (show 0 ≤ f9_1_4.toInt by omega) (show f9_1_4.toInt ≤ 3204 by omega)  hw hT hF c42 (lv_sub hl [0, 1, 2, 3] rfl)
  refine lv_aload_n hx hb dX3_readTest_0 rfl (lv_at hl 0 rfl) ?_
  refine lv_iload_n hx hb dX3_readTest_1 rfl (lv_at hl 1 rfl) ?_
  refine tk_Vv hC hK hw hT hA hE hSR kC_at3 (by decide) rfl (k_X3_readFact_10 l adK adV dC dI cy ad B (by omega) (by omega) qr s1 hqr   w0 s.heap.size hT cf0_) (cwV 1 hC.2.2.2.2 gX3_readTest_X3_readFact rfl rfl rfl (by decide +kernel) ⟨Nat.le_of_ble_eq_true rfl, Nat.le_of_ble_eq_true rfl⟩) rfl hl.1 rfl (Nat.le_of_ble_eq_true rfl) dX3_readTest_2 (fun w90 H locs hp89 hw => ?_)
  obtain ⟨hT, k91, hg94⟩ := hp89
  have hF := hF.tr k91 (by decide)
  obtain ⟨x92, c93, rx92, tx92⟩ := hg94
  refine lv_iconst (v := (-1)) hx hb dX3_readTest_5 (by decide) ?_
  refine lv_istore_n (lv' := [(2, .int (-1)), (0, .ref (ad 3)), (1, .int 9)]) hx hb dX3_readTest_6 rfl hl (by decide) rfl (fun ls hl => ?_)
  refine lv_iconst (v := 0) hx hb dX3_readTest_7 (by decide) ?_
  refine lv_istore_n (lv' := [(3, .int 0), (2, .int (-1)), (0, .ref (ad 3)), (1, .int 9)]) hx hb dX3_readTest_8 rfl hl (by decide) rfl (fun ls hl => ?_)
  exact L9 ((400 - (0 : Int)).toNat + 1) (-1) 0 x92 H locs ls w90 (by decide) (by decide) (by decide) (by decide) (show 0 ≤ x92.toInt by omega) (show x92.toInt ≤ 3204 by omega) (Nat.lt_succ_self _) hw hT hF c93 (lv_sub hl [2, 3, 1, 0] rfl)
abbrev P_X3_readFact_9 (ad : Nat → Nat) (cy : Nat → ClassId) (B : Int) (qr : Nat) (s1 : Int)  (w0 : va_W) : va_W → Prop := fun u => TW ksC ad cy B qr s1 u ∧ FE ksC [(2, 3, 3), (3, 2, 2), (6, 1, 1), (6, 3, 3), (6, 4, 4), (22, 0, 13), (23, 0, 400)] w0 u ∧ (((∃ y : Int32, gi u 1 4 = y ∧ 0 ≤ y.toInt ∧ y.toInt ≤ 3204)))
set_option maxHeartbeats 4000000 in
set_option maxRecDepth 100000 in
theorem k_X3_readFact_9 (l : Launch) (adK adV : Nat → Nat) (dC : Nat → ClassId) (dI : Nat → Nat → Nat) (cy : Nat → ClassId) (ad : Nat → Nat) (B : Int) (hB0 : 2147483648 ≤ B) (hB1 : B ≤ 1152921504606846976) (qr : Nat) (s1 : Int) (hqr : ksC[qr]? = some 2)  (w0 : va_W) (sz : Nat) (hT : TW ksC ad cy B qr s1 w0) (cf0_ : gi w0 1 4 = 0) : Met l yX3_readFact wsX3_readFact ({ frames := 12, cells := 0, slots := 0, locals := 305 }) (va_Pc [.ref (ad 3), .int 8] (wpreS adK adV dC dI cy sz w0)) (va_Qv (P_X3_readFact_9 ad cy B qr s1  w0) (fun u : va_W => wpost dC dI cy (va_A w0 sz) u) (va_A w0 sz)) 0 0 (va_A w0 sz) := by
  refine Met.ofW (cc := cX3_readFact) (maxL := 5) (ret := none) (by decide) rfl ?_
  intro p e s m args below meth c s₁ Bk hml hv
  obtain ⟨rfl, ⟨hsz, hP, hK, hD0⟩, hE, hSR⟩ := hv
  have hx := Bk.exec
  have hb := Bk.bytes
  have hr := Bk.returns
  have hlocks := Bk.notSynchronized
  have hC : CallFix p m c cX3_readFact 5 s _ wsX3_readFact RX3 := ⟨hx, hb, hml, findClass_of_methodNamed Bk.named, atoms_spec (ws := wsX3_readFact) Bk.pre⟩
  subst hsz
  have hD := hD0.self (sz := s.heap.size)
  generalize hAe : va_A w0 s.heap.size = A at hD hE ⊢
  have hA : ∀ q : Nat, s.heap.size ≤ q → A q := fun q h => by rw [← hAe]; exact Or.inr h
  have hw : Wd dC dI A s.heap s.heap [] w0 := ⟨hP, hD, va_S.rf⟩
  have hF : FE ksC [(2, 3, 3), (3, 2, 2), (6, 1, 1), (6, 3, 3), (6, 4, 4), (22, 0, 13), (23, 0, 400)] w0 w0 := FE.rf
  have hl := lv_entry ([.ref (ad 3), .int 8]) (n := 5) (Nat.le_of_ble_eq_true rfl)
  rw [lg_entry_eq]
  generalize (lg_sl ([.ref (ad 3), .int 8]) ++ List.replicate (5 - (lg_sl ([.ref (ad 3), .int 8])).length) Slot.unset).toArray = ls at hl ⊢
  have hl : lv_has ls 5 [(0, .ref (ad 3)), (1, .int 8)] := hl
  generalize hloc : ([] : List Loc) = locs at hw ⊢
  have hinX3 : ∀ w ∈ u_ws RX3 TX3 3, w ∈ wsX3_readFact := fun _ h => List.mem_cons_of_mem _ (List.mem_append_left _ (List.mem_append_left _ (List.mem_append_right _ (h))))
  have J160 : ∀ (v160_2 : Int32) (v160_3 : Int32) (f160_1_4 : Int32) (H : Heap) (locs : List Loc) (ls : Array Slot) (w1 : va_W), 0 ≤ v160_2.toInt → v160_2.toInt ≤ 1 → 0 ≤ v160_3.toInt → v160_3.toInt ≤ 1 → 0 ≤ f160_1_4.toInt → f160_1_4.toInt ≤ 3204 → Wd dC dI A s.heap H locs w1 → TW ksC ad cy B qr s1 w1 → FE ksC [(2, 3, 3), (3, 2, 2), (6, 1, 1), (6, 3, 3), (6, 4, 4), (22, 0, 13), (23, 0, 400)] w0 w1 → gi w1 1 4 = f160_1_4 → lv_has ls 5 [(0, .ref (ad 3)), (1, .int 8), (2, .int v160_2), (3, .int v160_3)] → W p l e ({ frames := 12, cells := 0, slots := 0, locals := 305 }) s m (List.toArray [.ref (ad 3), .int 8]) below meth c H locs 0 0 (MQ below (va_Qv (P_X3_readFact_9 ad cy B qr s1  w0) (fun u : va_W => wpost dC dI cy A u) A) (List.toArray [.ref (ad 3), .int 8]) s 0 0 A) (F0 m 160 ls []) := by
    intro v160_2 v160_3 f160_1_4 H locs ls w1 r2 t3 r4 t5 r6 t7 hw hT hF c8 hl
    exact tk_vret hC hr hlocks hK ⟨hT, hF, ⟨f160_1_4, c8, (show 0 ≤ f160_1_4.toInt by omega), (show f160_1_4.toInt ≤ 3204 by omega)⟩⟩ hw dX3_readFact_160
  have J77 : ∀ (v77_2 : Int32) (v77_3 : Int32) (H : Heap) (locs : List Loc) (ls : Array Slot) (w9 : va_W), 0 ≤ v77_2.toInt → v77_2.toInt ≤ 1 → 0 ≤ v77_3.toInt → v77_3.toInt ≤ 1 → Wd dC dI A s.heap H locs w9 → TW ksC ad cy B qr s1 w9 → FE ksC [(2, 3, 3), (3, 2, 2), (6, 1, 1), (6, 3, 3), (6, 4, 4), (22, 0, 13), (23, 0, 400)] w0 w9 → gi w9 1 4 = 0 → lv_has ls 5 [(0, .ref (ad 3)), (1, .int 8), (2, .int v77_2), (3, .int v77_3)] → W p l e ({ frames := 12, cells := 0, slots := 0, locals := 305 }) s m (List.toArray [.ref (ad 3), .int 8]) below meth c H locs 0 0 (MQ below (va_Qv (P_X3_readFact_9 ad cy B qr s1  w0) (fun u : va_W => wpost dC dI cy A u) A) (List.toArray [.ref (ad 3), .int 8]) s 0 0 A) (F0 m 77 ls []) := by
    intro v77_2 v77_3 H locs ls w9 r10 t11 r12 t13 hw hT hF c14 hl
    refine lv_iload_n hx hb dX3_readFact_77 rfl (lv_at hl 1 rfl) ?_
    refine lv_bipush (v := 10) hx hb dX3_readFact_78 (by decide) ?_
    refine lv_icmp_lt (tgt := 101) hx hb dX3_readFact_80 (by decide) (fun _ => ?_) (fun c => absurd (by decide) c)
    refine lv_iload_n hx hb dX3_readFact_101 rfl (lv_at hl 2 rfl) ?_
    refine lv_if_eq (tgt := 124) hx hb dX3_readFact_102 (by decide) (fun c15 => ?_) (fun c15 => ?_)
    · have c15 : v77_2.toInt = (0 : Int) := wk_eq.mp c15
      refine lv_aload_n hx hb dX3_readFact_124 rfl (lv_at hl 0 rfl) ?_
      refine lv_iload_n hx hb dX3_readFact_125 rfl (lv_at hl 1 rfl) ?_
      refine lv_iconst (v := 1) hx hb dX3_readFact_126 (by decide) ?_
      refine lv_iadd hx hb dX3_readFact_127 ?_
      refine wk_top 9 (by decide) ?_
      refine tk_Vv hC hK hw hT hA hE hSR kC_at3 (by decide) rfl (k_X3_readTest_10 l adK adV dC dI cy ad B (by omega) (by omega) qr s1 hqr   w9 H.size hT c14) (cwV 1 hC.2.2.2.2 gX3_readFact_X3_readTest rfl rfl rfl (by decide +kernel) ⟨Nat.le_of_ble_eq_true rfl, Nat.le_of_ble_eq_true rfl⟩) rfl hl.1 rfl (Nat.le_of_ble_eq_true rfl) dX3_readFact_128 (fun w18 H locs hp17 hw => ?_)
      obtain ⟨hT, k19, hg22⟩ := hp17
      have hF := hF.tr k19 (by decide)
      obtain ⟨x20, c21, rx20, tx20⟩ := hg22
      refine lv_aload_n hx hb dX3_readFact_131 rfl (lv_at hl 0 rfl) ?_
      refine tk_getA hC hK hw hT hinX3 kC_at3 (by decide) rfl 0 (by decide) (List.mem_of_getElem? (i := 1) rfl) rfl rfl dX3_readFact_132 ?_
      refine tk_Vi hC hK hw hT hA hE hSR kC_at1 (by decide) rfl (k_X6_isFaulty_2 l adK adV dC dI cy ad B (by omega) (by omega) qr s1    w18 H.size hT x20 c21 (show 0 ≤ x20.toInt by omega) (show x20.toInt ≤ 3204 by omega)) (cwV 0 hC.2.2.2.2 gX3_readFact_X6_isFaulty rfl rfl rfl (by decide +kernel) ⟨Nat.le_of_ble_eq_true rfl, Nat.le_of_ble_eq_true rfl⟩) rfl hl.1 rfl (Nat.le_of_ble_eq_true rfl) dX3_readFact_135 (fun r23 w25 H locs hp24 hw => ?_)
      obtain ⟨hT, k26, hg31⟩ := hp24
      have hF := hF.tr k26 (by decide)
      have c32 := k26.gi kC_at1 (by decide) c21
      rcases hg31 with ⟨rfl, ⟨x27, c28, rx27, tx27⟩⟩ | ⟨rfl, ⟨x29, c30, rx29, tx29⟩⟩
      · have ex27 : x27.toInt = x20.toInt := by rw [← c32.symm.trans c28]
        refine lv_if_ne (tgt := 160) hx hb dX3_readFact_138 (by decide) (fun c => absurd (by decide) c) (fun _ => ?_)
        refine lv_aload_n hx hb dX3_readFact_141 rfl (lv_at hl 0 rfl) ?_
        refine tk_getA hC hK hw hT hinX3 kC_at3 (by decide) rfl 0 (by decide) (List.mem_of_getElem? (i := 1) rfl) rfl rfl dX3_readFact_142 ?_
        refine lv_bipush (v := 93) hx hb dX3_readFact_145 (by decide) ?_
        refine tk_Vi hC hK hw hT hA hE hSR kC_at1 (by decide) rfl (k_X6_takeByte_3 l adK adV dC dI cy ad B (by omega) (by omega) qr s1    w25 H.size hT ) (cwV 1 hC.2.2.2.2 gX3_readFact_X6_takeByte rfl rfl rfl (by decide +kernel) ⟨Nat.le_of_ble_eq_true rfl, Nat.le_of_ble_eq_true rfl⟩) rfl hl.1 rfl (Nat.le_of_ble_eq_true rfl) dX3_readFact_147 (fun r33 w35 H locs hp34 hw => ?_)
        obtain ⟨hT, k36, hg41⟩ := hp34
        have hF := hF.tr k36 (by decide)
        have c42 := k36.gi kC_at1 (by decide) c32
        rcases hg41 with rfl | ⟨rfl, ⟨x37, c38, rx37, tx37⟩, ⟨x39, c40, rx39, tx39⟩⟩
        · refine lv_if_ne (tgt := 160) hx hb dX3_readFact_150 (by decide) (fun c => absurd (by decide) c) (fun _ => ?_)
          refine lv_aload_n hx hb dX3_readFact_153 rfl (lv_at hl 0 rfl) ?_
          refine tk_getA hC hK hw hT hinX3 kC_at3 (by decide) rfl 0 (by decide) (List.mem_of_getElem? (i := 1) rfl) rfl rfl dX3_readFact_154 ?_
          refine tk_Vv hC hK hw hT hA hE hSR kC_at1 (by decide) rfl (k_X6_blameHere_1 l adK adV dC dI cy ad B (by omega) (by omega) qr s1    w35 H.size hT (c42.trans (wk_eq.mpr (show x20.toInt = 0 by omega)))) (cwV 0 hC.2.2.2.2 gX3_readFact_X6_blameHere rfl rfl rfl (by decide +kernel) ⟨Nat.le_of_ble_eq_true rfl, Nat.le_of_ble_eq_true rfl⟩) rfl hl.1 rfl (Nat.le_of_ble_eq_true rfl) dX3_readFact_157 (fun w45 H locs hp44 hw => ?_)
          obtain ⟨hT, k46, hg49⟩ := hp44
          have hF := hF.tr k46 (by decide)
          obtain ⟨x47, c48, rx47, tx47⟩ := hg49
          exact J160 v77_2 v77_3 x47 H locs ls w45 (show 0 ≤ v77_2.toInt by omega) (show v77_2.toInt ≤ 1 by omega) (show 0 ≤ v77_3.toInt by omega) (show v77_3.toInt ≤ 1 by omega) (show 0 ≤ x47.toInt by omega) (show x47.toInt ≤ 3204 by omega)  hw hT hF c48 (lv_sub hl [0, 1, 2, 3] rfl)
        · refine lv_if_ne (tgt := 160) hx hb dX3_readFact_150 (by decide) (fun _ => ?_) (fun c => absurd c (by decide))
          exact J160 v77_2 v77_3 x20 H locs ls w35 (show 0 ≤ v77_2.toInt by omega) (show v77_2.toInt ≤ 1 by omega) (show 0 ≤ v77_3.toInt by omega) (show v77_3.toInt ≤ 1 by omega) (show 0 ≤ x20.toInt by omega) (show x20.toInt ≤ 3204 by omega)  hw hT hF c42 (lv_sub hl [0, 1, 2, 3] rfl)
      · have ex29 : x29.toInt = x20.toInt := by rw [← c32.symm.trans c30]
        refine lv_if_ne (tgt := 160) hx hb dX3_readFact_138 (by decide) (fun _ => ?_) (fun c => absurd c (by decide))
        exact J160 v77_2 v77_3 x20 H locs ls w25 (show 0 ≤ v77_2.toInt by omega) (show v77_2.toInt ≤ 1 by omega) (show 0 ≤ v77_3.toInt by omega) (show v77_3.toInt ≤ 1 by omega) (show 0 ≤ x20.toInt by omega) (show x20.toInt ≤ 3204 by omega)  hw hT hF c32 (lv_sub hl [0, 1, 2, 3] rfl)
    · have c15 : ¬ v77_2.toInt = (0 : Int) := wk_eqF c15
      refine lv_aload_n hx hb dX3_readFact_105 rfl (lv_at hl 0 rfl) ?_
      refine lv_iload_n hx hb dX3_readFact_106 rfl (lv_at hl 1 rfl) ?_
      refine lv_iconst (v := 1) hx hb dX3_readFact_107 (by decide) ?_
      refine lv_iadd hx hb dX3_readFact_108 ?_
      refine wk_top 9 (by decide) ?_
      refine tk_Vv hC hK hw hT hA hE hSR kC_at3 (by decide) rfl (k_X3_readFact_10 l adK adV dC dI cy ad B (by omega) (by omega) qr s1 hqr   w9 H.size hT c14) (cwV 1 hC.2.2.2.2 gX3_readFact_X3_readFact rfl rfl rfl (by decide +kernel) ⟨Nat.le_of_ble_eq_true rfl, Nat.le_of_ble_eq_true rfl⟩) rfl hl.1 rfl (Nat.le_of_ble_eq_true rfl) dX3_readFact_109 (fun w52 H locs hp51 hw => ?_)
      obtain ⟨hT, k53, hg56⟩ := hp51
      have hF := hF.tr k53 (by decide)
      obtain ⟨x54, c55, rx54, tx54⟩ := hg56
      refine lv_aload_n hx hb dX3_readFact_112 rfl (lv_at hl 0 rfl) ?_
      refine tk_getQ hC hK hw hT hqr (by decide) hinX3 kC_at3 (by decide) rfl 1 (by decide) (List.mem_of_getElem? (i := 2) rfl) rfl rfl dX3_readFact_113 ?_
      refine lv_bipush (v := 19) hx hb dX3_readFact_116 (by decide) ?_
      refine tk_Vv hC hK hw hT hA hE hSR hqr (by decide) rfl (k_X2_addToken_11 l adK adV dC dI cy ad B (by omega) (by omega) qr s1   qr hqr w52 H.size hT ) (cwV 1 hC.2.2.2.2 gX3_readFact_X2_addToken rfl rfl rfl (by decide +kernel) ⟨Nat.le_of_ble_eq_true rfl, Nat.le_of_ble_eq_true rfl⟩) rfl hl.1 rfl (Nat.le_of_ble_eq_true rfl) dX3_readFact_118 (fun w59 H locs hp58 hw => ?_)
      obtain ⟨hT, k60, hg63⟩ := hp58
      have hF := hF.tr k60 (by decide)
      have c64 := k60.gi kC_at1 (by decide) c55
      obtain ⟨x61, c62, rx61, tx61⟩ := hg63
      refine lv_goto (tgt := 160) hx hb dX3_readFact_121 (by decide) ?_
      exact J160 v77_2 v77_3 x54 H locs ls w59 (show 0 ≤ v77_2.toInt by omega) (show v77_2.toInt ≤ 1 by omega) (show 0 ≤ v77_3.toInt by omega) (show v77_3.toInt ≤ 1 by omega) (show 0 ≤ x54.toInt by omega) (show x54.toInt ≤ 3204 by omega)  hw hT hF c64 (lv_sub hl [0, 1, 2, 3] rfl)
  have J41 : ∀ (v41_2 : Int32) (H : Heap) (locs : List Loc) (ls : Array Slot) (w65 : va_W), 0 ≤ v41_2.toInt → v41_2.toInt ≤ 1 → Wd dC dI A s.heap H locs w65 → TW ksC ad cy B qr s1 w65 → FE ksC [(2, 3, 3), (3, 2, 2), (6, 1, 1), (6, 3, 3), (6, 4, 4), (22, 0, 13), (23, 0, 400)] w0 w65 → gi w65 1 4 = 0 → lv_has ls 5 [(0, .ref (ad 3)), (1, .int 8), (2, .int v41_2)] → W p l e ({ frames := 12, cells := 0, slots := 0, locals := 305 }) s m (List.toArray [.ref (ad 3), .int 8]) below meth c H locs 0 0 (MQ below (va_Qv (P_X3_readFact_9 ad cy B qr s1  w0) (fun u : va_W => wpost dC dI cy A u) A) (List.toArray [.ref (ad 3), .int 8]) s 0 0 A) (F0 m 41 ls []) := by
    intro v41_2 H locs ls w65 r66 t67 hw hT hF c68 hl
    refine lv_iconst (v := 0) hx hb dX3_readFact_41 (by decide) ?_
    refine lv_istore_n (lv' := [(3, .int 0), (0, .ref (ad 3)), (1, .int 8), (2, .int v41_2)]) hx hb dX3_readFact_42 rfl hl (by decide) rfl (fun ls hl => ?_)
    refine lv_iload_n hx hb dX3_readFact_43 rfl (lv_at hl 3 rfl) ?_
    refine lv_if_ne (tgt := 77) hx hb dX3_readFact_44 (by decide) (fun c69 => ?_) (fun c69 => ?_)
    · have c69 : ¬ v41_2.toInt = (0 : Int) := wk_eqF c69
      exact J77 v41_2 0 H locs ls w65 (show 0 ≤ v41_2.toInt by omega) (show v41_2.toInt ≤ 1 by omega) (by decide) (by decide)  hw hT hF c68 (lv_sub hl [1, 2, 3, 0] rfl)
    · have c69 : v41_2.toInt = (0 : Int) := wk_eq.mp c69
      refine lv_iload_n hx hb dX3_readFact_47 rfl (lv_at hl 0 rfl) ?_
      refine lv_if_ne (tgt := 77) hx hb dX3_readFact_48 (by decide) (fun c => absurd (by decide) c) (fun _ => ?_)
      refine lv_aload_n hx hb dX3_readFact_51 rfl (lv_at hl 1 rfl) ?_
      refine tk_Vv hC hK hw hT hA hE hSR kC_at3 (by decide) rfl (k_X3_readSum_1 l adK adV dC dI cy ad B (by omega) (by omega) qr s1 hqr   w65 H.size hT c68) (cwV 0 hC.2.2.2.2 gX3_readFact_X3_readSum rfl rfl rfl (by decide +kernel) ⟨Nat.le_of_ble_eq_true rfl, Nat.le_of_ble_eq_true rfl⟩) rfl hl.1 rfl (Nat.le_of_ble_eq_true rfl) dX3_readFact_52 (fun w72 H locs hp71 hw => ?_)
      obtain ⟨hT, k73, hg76⟩ := hp71
      have hF := hF.tr k73 (by decide)
      obtain ⟨x74, c75, rx74, tx74⟩ := hg76
      refine lv_aload_n hx hb dX3_readFact_55 rfl (lv_at hl 1 rfl) ?_
      refine tk_Vi hC hK hw hT hA hE hSR kC_at3 (by decide) rfl (k_X3_readSign_1 l adK adV dC dI cy ad B (by omega) (by omega) qr s1    w72 H.size hT x74 c75 (show 0 ≤ x74.toInt by omega) (show x74.toInt ≤ 3204 by omega)) (cwV 0 hC.2.2.2.2 gX3_readFact_X3_readSign rfl rfl rfl (by decide +kernel) ⟨Nat.le_of_ble_eq_true rfl, Nat.le_of_ble_eq_true rfl⟩) rfl hl.1 rfl (Nat.le_of_ble_eq_true rfl) dX3_readFact_56 (fun r77 w79 H locs hp78 hw => ?_)
      obtain ⟨hT, k80, hg91⟩ := hp78
      have hF := hF.tr k80 (by decide)
      rcases hg91 with ⟨rfl, ⟨x81, c82, rx81, tx81⟩⟩ | ⟨g83, g84, ⟨x85, c86, rx85, tx85⟩, ⟨x87, c88, rx87, tx87⟩, ⟨x89, c90, rx89, tx89⟩⟩
      · refine lv_istore (lv' := [(4, .int 16), (3, .int 0), (0, .ref (ad 3)), (1, .int 8), (2, .int v41_2)]) hx hb dX3_readFact_59 hl (by decide) rfl (fun ls hl => ?_)
        refine lv_aload_n hx hb dX3_readFact_61 rfl (lv_at hl 2 rfl) ?_
        refine tk_Vv hC hK hw hT hA hE hSR kC_at3 (by decide) rfl (k_X3_readSum_2 l adK adV dC dI cy ad B (by omega) (by omega) qr s1 hqr   w79 H.size hT x81 c82 (show 1 ≤ x81.toInt by omega) (show x81.toInt ≤ 3204 by omega)) (cwV 0 hC.2.2.2.2 gX3_readFact_X3_readSum rfl rfl rfl (by decide +kernel) ⟨Nat.le_of_ble_eq_true rfl, Nat.le_of_ble_eq_true rfl⟩) rfl hl.1 rfl (Nat.le_of_ble_eq_true rfl) dX3_readFact_62 (fun w94 H locs hp93 hw => ?_)
        obtain ⟨hT, k95, hg98⟩ := hp93
        have hF := hF.tr k95 (by decide)
        have c99 := k95.gi kC_at1 (by decide) c82
        obtain ⟨x96, c97, rx96, tx96⟩ := hg98
        have ex96 : x96.toInt = x81.toInt := by rw [← c99.symm.trans c97]
        refine lv_aload_n hx hb dX3_readFact_65 rfl (lv_at hl 2 rfl) ?_
        refine tk_getQ hC hK hw hT hqr (by decide) hinX3 kC_at3 (by decide) rfl 1 (by decide) (List.mem_of_getElem? (i := 2) rfl) rfl rfl dX3_readFact_66 ?_
        refine lv_iload hx hb dX3_readFact_69 (lv_at hl 0 rfl) ?_
        refine tk_Vv hC hK hw hT hA hE hSR hqr (by decide) rfl (k_X2_addToken_8 l adK adV dC dI cy ad B (by omega) (by omega) qr s1   qr hqr w94 H.size hT ) (cwV 1 hC.2.2.2.2 gX3_readFact_X2_addToken rfl rfl rfl (by decide +kernel) ⟨Nat.le_of_ble_eq_true rfl, Nat.le_of_ble_eq_true rfl⟩) rfl hl.1 rfl (Nat.le_of_ble_eq_true rfl) dX3_readFact_71 (fun w102 H locs hp101 hw => ?_)
        obtain ⟨hT, k103, hg106⟩ := hp101
        have hF := hF.tr k103 (by decide)
        have c107 := k103.gi kC_at1 (by decide) c99
        obtain ⟨x104, c105, rx104, tx104⟩ := hg106
        refine lv_goto (tgt := 160) hx hb dX3_readFact_74 (by decide) ?_
        exact J160 v41_2 0 x81 H locs ls w102 (show 0 ≤ v41_2.toInt by omega) (show v41_2.toInt ≤ 1 by omega) (by decide) (by decide) (show 0 ≤ x81.toInt by omega) (show x81.toInt ≤ 3204 by omega)  hw hT hF c107 (lv_sub hl [2, 3, 4, 1] rfl)
      · refine lv_istore (lv' := [(4, .int r77), (3, .int 0), (0, .ref (ad 3)), (1, .int 8), (2, .int v41_2)]) hx hb dX3_readFact_59 hl (by decide) rfl (fun ls hl => ?_)
        refine lv_aload_n hx hb dX3_readFact_61 rfl (lv_at hl 2 rfl) ?_
        refine tk_Vv hC hK hw hT hA hE hSR kC_at3 (by decide) rfl (k_X3_readSum_3 l adK adV dC dI cy ad B (by omega) (by omega) qr s1 hqr   w79 H.size hT x89 c90 (show 0 ≤ x89.toInt by omega) (show x89.toInt ≤ 3204 by omega)) (cwV 0 hC.2.2.2.2 gX3_readFact_X3_readSum rfl rfl rfl (by decide +kernel) ⟨Nat.le_of_ble_eq_true rfl, Nat.le_of_ble_eq_true rfl⟩) rfl hl.1 rfl (Nat.le_of_ble_eq_true rfl) dX3_readFact_62 (fun w110 H locs hp109 hw => ?_)
        obtain ⟨hT, k111, hg114⟩ := hp109
        have hF := hF.tr k111 (by decide)
        have c115 := k111.gi kC_at1 (by decide) c86
        obtain ⟨x112, c113, rx112, tx112⟩ := hg114
        refine lv_aload_n hx hb dX3_readFact_65 rfl (lv_at hl 2 rfl) ?_
        refine tk_getQ hC hK hw hT hqr (by decide) hinX3 kC_at3 (by decide) rfl 1 (by decide) (List.mem_of_getElem? (i := 2) rfl) rfl rfl dX3_readFact_66 ?_
        refine lv_iload hx hb dX3_readFact_69 (lv_at hl 0 rfl) ?_
        refine tk_Vv hC hK hw hT hA hE hSR hqr (by decide) rfl (k_X2_addToken_9 l adK adV dC dI cy ad B (by omega) (by omega) qr s1   qr hqr r77 (show 14 ≤ r77.toInt by omega) (show r77.toInt ≤ 18 by omega) w110 H.size hT ) (cwV 1 hC.2.2.2.2 gX3_readFact_X2_addToken rfl rfl rfl (by decide +kernel) ⟨Nat.le_of_ble_eq_true rfl, Nat.le_of_ble_eq_true rfl⟩) rfl hl.1 rfl (Nat.le_of_ble_eq_true rfl) dX3_readFact_71 (fun w118 H locs hp117 hw => ?_)
        obtain ⟨hT, k119, hg122⟩ := hp117
        have hF := hF.tr k119 (by decide)
        have c123 := k119.gi kC_at1 (by decide) c115
        have c124 := k119.gi kC_at1 (by decide) c113
        obtain ⟨x120, c121, rx120, tx120⟩ := hg122
        refine lv_goto (tgt := 160) hx hb dX3_readFact_74 (by decide) ?_
        exact J160 v41_2 0 x112 H locs ls w118 (show 0 ≤ v41_2.toInt by omega) (show v41_2.toInt ≤ 1 by omega) (by decide) (by decide) (show 0 ≤ x112.toInt by omega) (show x112.toInt ≤ 3204 by omega)  hw hT hF c124 (lv_sub hl [2, 3, 4, 1] rfl)
  refine lv_aload_n hx hb dX3_readFact_0 rfl (lv_at hl 0 rfl) ?_
  refine tk_getA hC hK hw hT hinX3 kC_at3 (by decide) rfl 0 (by decide) (List.mem_of_getElem? (i := 1) rfl) rfl rfl dX3_readFact_1 ?_
  refine tk_Vi hC hK hw hT hA hE hSR kC_at1 (by decide) rfl (k_X6_isFaulty_3 l adK adV dC dI cy ad B (by omega) (by omega) qr s1    w0 s.heap.size hT cf0_) (cwV 0 hC.2.2.2.2 gX3_readFact_X6_isFaulty rfl rfl rfl (by decide +kernel) ⟨Nat.le_of_ble_eq_true rfl, Nat.le_of_ble_eq_true rfl⟩) rfl hl.1 rfl (Nat.le_of_ble_eq_true rfl) dX3_readFact_4 (fun r125 w127 H locs hp126 hw => ?_)
  obtain ⟨hT, k128, hg131⟩ := hp126
  have hF := hF.tr k128 (by decide)
  have c132 := k128.gi kC_at1 (by decide) cf0_
  obtain ⟨rfl, ⟨x129, c130, rx129, tx129⟩⟩ := hg131
  have ex129 : x129.toInt = (0 : Int) := by rw [show x129 = 0 from c130.symm.trans c132]; decide
  refine lv_if_eq (tgt := 11) hx hb dX3_readFact_7 (by decide) (fun _ => ?_) (fun c => absurd (by decide) c)
  refine lv_aload_n hx hb dX3_readFact_11 rfl (lv_at hl 0 rfl) ?_
  refine tk_getA hC hK hw hT hinX3 kC_at3 (by decide) rfl 0 (by decide) (List.mem_of_getElem? (i := 1) rfl) rfl rfl dX3_readFact_12 ?_
  refine va_ldcS hx hb hC.2.2.2.1 hSR.2.2.2.2.1 dX3_readFact_15 ?_
  refine tk_Vi hC hK hw hT hA hE hSR kC_at1 (by decide) rfl (k_X6_takeWord_4 l adK adV dC dI cy ad B (by omega) (by omega) qr s1    w127 H.size hT ) (cwV 1 hC.2.2.2.2 gX3_readFact_X6_takeWord rfl rfl rfl (by decide +kernel) ⟨Nat.le_of_ble_eq_true rfl, Nat.le_of_ble_eq_true rfl⟩) rfl hl.1 rfl (Nat.le_of_ble_eq_true rfl) dX3_readFact_17 (fun r133 w135 H locs hp134 hw => ?_)
  obtain ⟨hT, k136, hg139⟩ := hp134
  have hF := hF.tr k136 (by decide)
  have c140 := k136.gi kC_at1 (by decide) c132
  rcases hg139 with rfl | ⟨rfl, ⟨x137, c138, rx137, tx137⟩⟩
  · refine lv_istore_n (lv' := [(2, .int 0), (0, .ref (ad 3)), (1, .int 8)]) hx hb dX3_readFact_20 rfl hl (by decide) rfl (fun ls hl => ?_)
    refine lv_iload_n hx hb dX3_readFact_21 rfl (lv_at hl 0 rfl) ?_
    refine lv_if_ne (tgt := 41) hx hb dX3_readFact_22 (by decide) (fun c => absurd (by decide) c) (fun _ => ?_)
    refine lv_aload_n hx hb dX3_readFact_25 rfl (lv_at hl 1 rfl) ?_
    refine tk_getA hC hK hw hT hinX3 kC_at3 (by decide) rfl 0 (by decide) (List.mem_of_getElem? (i := 1) rfl) rfl rfl dX3_readFact_26 ?_
    refine lv_bipush (v := 91) hx hb dX3_readFact_29 (by decide) ?_
    refine tk_Vi hC hK hw hT hA hE hSR kC_at1 (by decide) rfl (k_X6_takeByte_2 l adK adV dC dI cy ad B (by omega) (by omega) qr s1    w135 H.size hT ) (cwV 1 hC.2.2.2.2 gX3_readFact_X6_takeByte rfl rfl rfl (by decide +kernel) ⟨Nat.le_of_ble_eq_true rfl, Nat.le_of_ble_eq_true rfl⟩) rfl hl.1 rfl (Nat.le_of_ble_eq_true rfl) dX3_readFact_31 (fun r141 w143 H locs hp142 hw => ?_)
    obtain ⟨hT, k144, hg149⟩ := hp142
    have hF := hF.tr k144 (by decide)
    have c150 := k144.gi kC_at1 (by decide) c140
    rcases hg149 with rfl | ⟨rfl, ⟨x145, c146, rx145, tx145⟩, ⟨x147, c148, rx147, tx147⟩⟩
    · refine lv_if_eq (tgt := 41) hx hb dX3_readFact_34 (by decide) (fun _ => ?_) (fun c => absurd (by decide) c)
      exact J41 0 H locs ls w143 (by decide) (by decide)  hw hT hF c150 (lv_sub hl [1, 2, 0] rfl)
    · refine lv_if_eq (tgt := 41) hx hb dX3_readFact_34 (by decide) (fun c => absurd c (by decide)) (fun _ => ?_)
      refine lv_iconst (v := 1) hx hb dX3_readFact_37 (by decide) ?_
      refine lv_goto (tgt := 42) hx hb dX3_readFact_38 (by decide) ?_
      refine lv_istore_n (lv' := [(3, .int 1), (2, .int 0), (0, .ref (ad 3)), (1, .int 8)]) hx hb dX3_readFact_42 rfl hl (by decide) rfl (fun ls hl => ?_)
      refine lv_iload_n hx hb dX3_readFact_43 rfl (lv_at hl 1 rfl) ?_
      refine lv_if_ne (tgt := 77) hx hb dX3_readFact_44 (by decide) (fun c => absurd (by decide) c) (fun _ => ?_)
      refine lv_iload_n hx hb dX3_readFact_47 rfl (lv_at hl 0 rfl) ?_
      refine lv_if_ne (tgt := 77) hx hb dX3_readFact_48 (by decide) (fun _ => ?_) (fun c => absurd c (by decide))
      exact J77 0 1 H locs ls w143 (by decide) (by decide) (by decide) (by decide)  hw hT hF c150 (lv_sub hl [2, 3, 1, 0] rfl)
  · refine lv_istore_n (lv' := [(2, .int 1), (0, .ref (ad 3)), (1, .int 8)]) hx hb dX3_readFact_20 rfl hl (by decide) rfl (fun ls hl => ?_)
    refine lv_iload_n hx hb dX3_readFact_21 rfl (lv_at hl 0 rfl) ?_
    refine lv_if_ne (tgt := 41) hx hb dX3_readFact_22 (by decide) (fun _ => ?_) (fun c => absurd c (by decide))
    exact J41 1 H locs ls w135 (by decide) (by decide)  hw hT hF c140 (lv_sub hl [1, 2, 0] rfl)
abbrev P_X3_readTest_9 (ad : Nat → Nat) (cy : Nat → ClassId) (B : Int) (qr : Nat) (s1 : Int)  (w0 : va_W) : va_W → Prop := fun u => TW ksC ad cy B qr s1 u ∧ FE ksC [(2, 3, 3), (3, 2, 2), (6, 1, 1), (6, 3, 3), (6, 4, 4), (22, 0, 13), (23, 0, 400)] w0 u ∧ (((∃ y : Int32, gi u 1 4 = y ∧ 0 ≤ y.toInt ∧ y.toInt ≤ 3204)))
set_option maxHeartbeats 4000000 in
set_option maxRecDepth 100000 in
theorem k_X3_readTest_9 (l : Launch) (adK adV : Nat → Nat) (dC : Nat → ClassId) (dI : Nat → Nat → Nat) (cy : Nat → ClassId) (ad : Nat → Nat) (B : Int) (hB0 : 2147483648 ≤ B) (hB1 : B ≤ 1152921504606846976) (qr : Nat) (s1 : Int) (hqr : ksC[qr]? = some 2)  (w0 : va_W) (sz : Nat) (hT : TW ksC ad cy B qr s1 w0) (cf0_ : gi w0 1 4 = 0) : Met l yX3_readTest wsX3_readTest ({ frames := 13, cells := 0, slots := 0, locals := 329 }) (va_Pc [.ref (ad 3), .int 8] (wpreS adK adV dC dI cy sz w0)) (va_Qv (P_X3_readTest_9 ad cy B qr s1  w0) (fun u : va_W => wpost dC dI cy (va_A w0 sz) u) (va_A w0 sz)) 0 0 (va_A w0 sz) := by
  refine Met.ofW (cc := cX3_readTest) (maxL := 4) (ret := none) (by decide) rfl ?_
  intro p e s m args below meth c s₁ Bk hml hv
  obtain ⟨rfl, ⟨hsz, hP, hK, hD0⟩, hE, hSR⟩ := hv
  have hx := Bk.exec
  have hb := Bk.bytes
  have hr := Bk.returns
  have hlocks := Bk.notSynchronized
  have hC : CallFix p m c cX3_readTest 4 s _ wsX3_readTest RX3 := ⟨hx, hb, hml, findClass_of_methodNamed Bk.named, atoms_spec (ws := wsX3_readTest) Bk.pre⟩
  subst hsz
  have hD := hD0.self (sz := s.heap.size)
  generalize hAe : va_A w0 s.heap.size = A at hD hE ⊢
  have hA : ∀ q : Nat, s.heap.size ≤ q → A q := fun q h => by rw [← hAe]; exact Or.inr h
  have hw : Wd dC dI A s.heap s.heap [] w0 := ⟨hP, hD, va_S.rf⟩
  have hF : FE ksC [(2, 3, 3), (3, 2, 2), (6, 1, 1), (6, 3, 3), (6, 4, 4), (22, 0, 13), (23, 0, 400)] w0 w0 := FE.rf
  have hl := lv_entry ([.ref (ad 3), .int 8]) (n := 4) (Nat.le_of_ble_eq_true rfl)
  rw [lg_entry_eq]
  generalize (lg_sl ([.ref (ad 3), .int 8]) ++ List.replicate (4 - (lg_sl ([.ref (ad 3), .int 8])).length) Slot.unset).toArray = ls at hl ⊢
  have hl : lv_has ls 4 [(0, .ref (ad 3)), (1, .int 8)] := hl
  generalize hloc : ([] : List Loc) = locs at hw ⊢
  have hinX3 : ∀ w ∈ u_ws RX3 TX3 3, w ∈ wsX3_readTest := fun _ h => List.mem_cons_of_mem _ (List.mem_append_left _ (List.mem_append_left _ (List.mem_append_right _ (h))))
  have J86 : ∀ (v86_2 : Int32) (v86_3 : Int32) (f86_1_4 : Int32) (H : Heap) (locs : List Loc) (ls : Array Slot) (w1 : va_W), (-1) ≤ v86_2.toInt → v86_2.toInt ≤ 21 → 0 ≤ v86_3.toInt → v86_3.toInt ≤ 400 → 0 ≤ f86_1_4.toInt → f86_1_4.toInt ≤ 3204 → Wd dC dI A s.heap H locs w1 → TW ksC ad cy B qr s1 w1 → FE ksC [(2, 3, 3), (3, 2, 2), (6, 1, 1), (6, 3, 3), (6, 4, 4), (22, 0, 13), (23, 0, 400)] w0 w1 → gi w1 1 4 = f86_1_4 → lv_has ls 4 [(0, .ref (ad 3)), (1, .int 8), (2, .int v86_2), (3, .int v86_3)] → W p l e ({ frames := 13, cells := 0, slots := 0, locals := 329 }) s m (List.toArray [.ref (ad 3), .int 8]) below meth c H locs 0 0 (MQ below (va_Qv (P_X3_readTest_9 ad cy B qr s1  w0) (fun u : va_W => wpost dC dI cy A u) A) (List.toArray [.ref (ad 3), .int 8]) s 0 0 A) (F0 m 86 ls []) := by
    intro v86_2 v86_3 f86_1_4 H locs ls w1 r2 t3 r4 t5 r6 t7 hw hT hF c8 hl
    refine lv_aload_n hx hb dX3_readTest_86 rfl (lv_at hl 0 rfl) ?_
    refine lv_iload_n hx hb dX3_readTest_87 rfl (lv_at hl 2 rfl) ?_
    refine tk_Vv hC hK hw hT hA hE hSR kC_at3 (by decide) rfl (k_X3_addWaiting_1 l adK adV dC dI cy ad B (by omega) (by omega) qr s1 hqr  v86_2 (show (-1) ≤ v86_2.toInt by omega) (show v86_2.toInt ≤ 21 by omega) w1 H.size hT ) (cwV 1 hC.2.2.2.2 gX3_readTest_X3_addWaiting rfl rfl rfl (by decide +kernel) ⟨Nat.le_of_ble_eq_true rfl, Nat.le_of_ble_eq_true rfl⟩) rfl hl.1 rfl (Nat.le_of_ble_eq_true rfl) dX3_readTest_88 (fun w11 H locs hp10 hw => ?_)
    obtain ⟨hT, k12, hg13⟩ := hp10
    have hF := hF.tr k12 (by decide)
    have c14 := k12.gi kC_at1 (by decide) c8
    clear hg13
    exact tk_vret hC hr hlocks hK ⟨hT, hF, ⟨f86_1_4, c14, (show 0 ≤ f86_1_4.toInt by omega), (show f86_1_4.toInt ≤ 3204 by omega)⟩⟩ hw dX3_readTest_91
  have L9 : ∀ (n9 : Nat) (v9_2 : Int32) (v9_3 : Int32) (f9_1_4 : Int32) (H : Heap) (locs : List Loc) (ls : Array Slot) (w15 : va_W), (-1) ≤ v9_2.toInt → v9_2.toInt ≤ 21 → 0 ≤ v9_3.toInt → v9_3.toInt ≤ 400 → 0 ≤ f9_1_4.toInt → f9_1_4.toInt ≤ 3204 → (400 - v9_3.toInt).toNat < n9 → Wd dC dI A s.heap H locs w15 → TW ksC ad cy B qr s1 w15 → FE ksC [(2, 3, 3), (3, 2, 2), (6, 1, 1), (6, 3, 3), (6, 4, 4), (22, 0, 13), (23, 0, 400)] w0 w15 → gi w15 1 4 = f9_1_4 → lv_has ls 4 [(0, .ref (ad 3)), (1, .int 8), (2, .int v9_2), (3, .int v9_3)] → W p l e ({ frames := 13, cells := 0, slots := 0, locals := 329 }) s m (List.toArray [.ref (ad 3), .int 8]) below meth c H locs 0 0 (MQ below (va_Qv (P_X3_readTest_9 ad cy B qr s1  w0) (fun u : va_W => wpost dC dI cy A u) A) (List.toArray [.ref (ad 3), .int 8]) s 0 0 A) (F0 m 9 ls []) := by
    intro n9
    induction n9 with
    | zero => intro v9_2 v9_3 f9_1_4 H locs ls w15 r16 t17 r18 t19 r20 t21 hm9 hw hT hF c22 hl; omega
    | succ n9 ih9 =>
      intro v9_2 v9_3 f9_1_4 H locs ls w15 r16 t17 r18 t19 r20 t21 hm9 hw hT hF c22 hl
      have J80 : ∀ (v80_2 : Int32) (f80_1_4 : Int32) (H : Heap) (locs : List Loc) (ls : Array Slot) (w23 : va_W), (-1) ≤ v80_2.toInt → v80_2.toInt ≤ 21 → 0 ≤ v9_3.toInt → v9_3.toInt ≤ 399 → 0 ≤ f80_1_4.toInt → f80_1_4.toInt ≤ 3204 → Wd dC dI A s.heap H locs w23 → TW ksC ad cy B qr s1 w23 → FE ksC [(2, 3, 3), (3, 2, 2), (6, 1, 1), (6, 3, 3), (6, 4, 4), (22, 0, 13), (23, 0, 400)] w0 w23 → gi w23 1 4 = f80_1_4 → lv_has ls 4 [(0, .ref (ad 3)), (1, .int 8), (2, .int v80_2), (3, .int v9_3)] → W p l e ({ frames := 13, cells := 0, slots := 0, locals := 329 }) s m (List.toArray [.ref (ad 3), .int 8]) below meth c H locs 0 0 (MQ below (va_Qv (P_X3_readTest_9 ad cy B qr s1  w0) (fun u : va_W => wpost dC dI cy A u) A) (List.toArray [.ref (ad 3), .int 8]) s 0 0 A) (F0 m 80 ls []) := by
        intro v80_2 f80_1_4 H locs ls w23 r24 t25 r26 t27 r28 t29 hw hT hF c30 hl
        obtain ⟨x31, ex31⟩ : ∃ y : Int32, y = v9_3 + Int32.ofInt 1 := ⟨_, rfl⟩
        refine lv_iinc (v := x31) (lv' := [(3, .int x31), (0, .ref (ad 3)), (1, .int 8), (2, .int v80_2)]) hx hb dX3_readTest_80 hl (k := 3) rfl ex31.symm (by decide) rfl (fun ls hl => ?_)
        have ex31 : x31.toInt = v9_3.toInt + 1 := by rw [ex31]; exact wk_add (y := 1) (show -2147483648 ≤ v9_3.toInt + 1 by omega) (show v9_3.toInt + 1 ≤ 2147483647 by omega)
        refine lv_goto (tgt := 9) hx hb dX3_readTest_83 (by decide) ?_
        exact ih9 v80_2 x31 f80_1_4 H locs ls w23 (show (-1) ≤ v80_2.toInt by omega) (show v80_2.toInt ≤ 21 by omega) (show 0 ≤ x31.toInt by omega) (show x31.toInt ≤ 400 by omega) (show 0 ≤ f80_1_4.toInt by omega) (show f80_1_4.toInt ≤ 3204 by omega) (show (400 - x31.toInt).toNat < n9 by omega) hw hT hF c30 (lv_sub hl [1, 2, 3, 0] rfl)
      refine lv_iload_n hx hb dX3_readTest_9 rfl (lv_at hl 3 rfl) ?_
      refine lv_sipush (v := 400) hx hb dX3_readTest_10 (by decide) ?_
      refine lv_icmp_ge (tgt := 86) hx hb dX3_readTest_13 (by decide) (fun c32 => ?_) (fun c32 => ?_)
      · have c32 : (400 : Int) ≤ v9_3.toInt := wk_le.mp c32
        exact J86 v9_2 v9_3 f9_1_4 H locs ls w15 (show (-1) ≤ v9_2.toInt by omega) (show v9_2.toInt ≤ 21 by omega) (show 0 ≤ v9_3.toInt by omega) (show v9_3.toInt ≤ 400 by omega) (show 0 ≤ f9_1_4.toInt by omega) (show f9_1_4.toInt ≤ 3204 by omega)  hw hT hF c22 (lv_sub hl [0, 1, 2, 3] rfl)
      · have c32 : v9_3.toInt < (400 : Int) := wk_leF c32
        refine lv_aload_n hx hb dX3_readTest_16 rfl (lv_at hl 0 rfl) ?_
        refine tk_getA hC hK hw hT hinX3 kC_at3 (by decide) rfl 0 (by decide) (List.mem_of_getElem? (i := 1) rfl) rfl rfl dX3_readTest_17 ?_
        refine tk_Vi hC hK hw hT hA hE hSR kC_at1 (by decide) rfl (k_X6_isFaulty_2 l adK adV dC dI cy ad B (by omega) (by omega) qr s1    w15 H.size hT f9_1_4 c22 (show 0 ≤ f9_1_4.toInt by omega) (show f9_1_4.toInt ≤ 3204 by omega)) (cwV 0 hC.2.2.2.2 gX3_readTest_X6_isFaulty rfl rfl rfl (by decide +kernel) ⟨Nat.le_of_ble_eq_true rfl, Nat.le_of_ble_eq_true rfl⟩) rfl hl.1 rfl (Nat.le_of_ble_eq_true rfl) dX3_readTest_20 (fun r33 w35 H locs hp34 hw => ?_)
        obtain ⟨hT, k36, hg41⟩ := hp34
        have hF := hF.tr k36 (by decide)
        have c42 := k36.gi kC_at1 (by decide) c22
        rcases hg41 with ⟨rfl, ⟨x37, c38, rx37, tx37⟩⟩ | ⟨rfl, ⟨x39, c40, rx39, tx39⟩⟩
        · have ex37 : x37.toInt = f9_1_4.toInt := by rw [← c42.symm.trans c38]
          refine lv_if_ne (tgt := 86) hx hb dX3_readTest_23 (by decide) (fun c => absurd (by decide) c) (fun _ => ?_)
          refine lv_aload_n hx hb dX3_readTest_26 rfl (lv_at hl 0 rfl) ?_
          refine tk_getA hC hK hw hT hinX3 kC_at3 (by decide) rfl 0 (by decide) (List.mem_of_getElem? (i := 1) rfl) rfl rfl dX3_readTest_27 ?_
          refine va_ldcS hx hb hC.2.2.2.1 hSR.2.2.2.2.2.2.1 dX3_readTest_30 ?_
          refine tk_Vi hC hK hw hT hA hE hSR kC_at1 (by decide) rfl (k_X6_takeWord_2 l adK adV dC dI cy ad B (by omega) (by omega) qr s1    w35 H.size hT ) (cwV 1 hC.2.2.2.2 gX3_readTest_X6_takeWord rfl rfl rfl (by decide +kernel) ⟨Nat.le_of_ble_eq_true rfl, Nat.le_of_ble_eq_true rfl⟩) rfl hl.1 rfl (Nat.le_of_ble_eq_true rfl) dX3_readTest_32 (fun r43 w45 H locs hp44 hw => ?_)
          obtain ⟨hT, k46, hg49⟩ := hp44
          have hF := hF.tr k46 (by decide)
          have c50 := k46.gi kC_at1 (by decide) c42
          rcases hg49 with rfl | ⟨rfl, ⟨x47, c48, rx47, tx47⟩⟩
          · refine lv_if_eq (tgt := 55) hx hb dX3_readTest_35 (by decide) (fun _ => ?_) (fun c => absurd (by decide) c)
            refine lv_aload_n hx hb dX3_readTest_55 rfl (lv_at hl 0 rfl) ?_
            refine tk_getA hC hK hw hT hinX3 kC_at3 (by decide) rfl 0 (by decide) (List.mem_of_getElem? (i := 1) rfl) rfl rfl dX3_readTest_56 ?_
            refine va_ldcS hx hb hC.2.2.2.1 hSR.2.2.2.2.2.2.2 dX3_readTest_59 ?_
            refine tk_Vi hC hK hw hT hA hE hSR kC_at1 (by decide) rfl (k_X6_takeWord_3 l adK adV dC dI cy ad B (by omega) (by omega) qr s1    w45 H.size hT ) (cwV 1 hC.2.2.2.2 gX3_readTest_X6_takeWord rfl rfl rfl (by decide +kernel) ⟨Nat.le_of_ble_eq_true rfl, Nat.le_of_ble_eq_true rfl⟩) rfl hl.1 rfl (Nat.le_of_ble_eq_true rfl) dX3_readTest_61 (fun r51 w53 H locs hp52 hw => ?_)
            obtain ⟨hT, k54, hg57⟩ := hp52
            have hF := hF.tr k54 (by decide)
            have c58 := k54.gi kC_at1 (by decide) c50
            rcases hg57 with rfl | ⟨rfl, ⟨x55, c56, rx55, tx55⟩⟩
            · refine lv_if_eq (tgt := 86) hx hb dX3_readTest_64 (by decide) (fun _ => ?_) (fun c => absurd (by decide) c)
              exact J86 v9_2 v9_3 f9_1_4 H locs ls w53 (show (-1) ≤ v9_2.toInt by omega) (show v9_2.toInt ≤ 21 by omega) (show 0 ≤ v9_3.toInt by omega) (show v9_3.toInt ≤ 400 by omega) (show 0 ≤ f9_1_4.toInt by omega) (show f9_1_4.toInt ≤ 3204 by omega)  hw hT hF c58 (lv_sub hl [0, 1, 2, 3] rfl)
            · refine lv_if_eq (tgt := 86) hx hb dX3_readTest_64 (by decide) (fun c => absurd c (by decide)) (fun _ => ?_)
              refine lv_aload_n hx hb dX3_readTest_67 rfl (lv_at hl 0 rfl) ?_
              refine lv_iload_n hx hb dX3_readTest_68 rfl (lv_at hl 2 rfl) ?_
              refine tk_Vv hC hK hw hT hA hE hSR kC_at3 (by decide) rfl (k_X3_addWaiting_1 l adK adV dC dI cy ad B (by omega) (by omega) qr s1 hqr  v9_2 (show (-1) ≤ v9_2.toInt by omega) (show v9_2.toInt ≤ 21 by omega) w53 H.size hT ) (cwV 1 hC.2.2.2.2 gX3_readTest_X3_addWaiting rfl rfl rfl (by decide +kernel) ⟨Nat.le_of_ble_eq_true rfl, Nat.le_of_ble_eq_true rfl⟩) rfl hl.1 rfl (Nat.le_of_ble_eq_true rfl) dX3_readTest_69 (fun w61 H locs hp60 hw => ?_)
              obtain ⟨hT, k62, hg63⟩ := hp60
              have hF := hF.tr k62 (by decide)
              have c64 := k62.gi kC_at1 (by decide) c58
              have c65 := k62.gi kC_at1 (by decide) c56
              clear hg63
              refine lv_bipush (v := 21) hx hb dX3_readTest_72 (by decide) ?_
              refine lv_istore_n (lv' := [(2, .int 21), (0, .ref (ad 3)), (1, .int 8), (3, .int v9_3)]) hx hb dX3_readTest_74 rfl hl (by decide) rfl (fun ls hl => ?_)
              refine lv_aload_n hx hb dX3_readTest_75 rfl (lv_at hl 1 rfl) ?_
              refine lv_iload_n hx hb dX3_readTest_76 rfl (lv_at hl 2 rfl) ?_
              refine tk_Vv hC hK hw hT hA hE hSR kC_at3 (by decide) rfl (k_X3_readFact_9 l adK adV dC dI cy ad B (by omega) (by omega) qr s1 hqr   w61 H.size hT (c64.trans (wk_eq.mpr (show f9_1_4.toInt = 0 by omega)))) (cwV 1 hC.2.2.2.2 gX3_readTest_X3_readFact rfl rfl rfl (by decide +kernel) ⟨Nat.le_of_ble_eq_true rfl, Nat.le_of_ble_eq_true rfl⟩) rfl hl.1 rfl (Nat.le_of_ble_eq_true rfl) dX3_readTest_77 (fun w68 H locs hp67 hw => ?_)
              obtain ⟨hT, k69, hg72⟩ := hp67
              have hF := hF.tr k69 (by decide)
              obtain ⟨x70, c71, rx70, tx70⟩ := hg72
              exact J80 21 x70 H locs ls w68 (by decide) (by decide) (show 0 ≤ v9_3.toInt by omega) (show v9_3.toInt ≤ 399 by omega) (show 0 ≤ x70.toInt by omega) (show x70.toInt ≤ 3204 by omega)  hw hT hF c71 (lv_sub hl [1, 2, 0, 3] rfl)
          · refine lv_if_eq (tgt := 55) hx hb dX3_readTest_35 (by decide) (fun c => absurd c (by decide)) (fun _ => ?_)
            refine lv_aload_n hx hb dX3_readTest_38 rfl (lv_at hl 0 rfl) ?_
            refine lv_iload_n hx hb dX3_readTest_39 rfl (lv_at hl 1 rfl) ?_
            refine tk_Vv hC hK hw hT hA hE hSR kC_at3 (by decide) rfl (k_X3_readFact_9 l adK adV dC dI cy ad B (by omega) (by omega) qr s1 hqr   w45 H.size hT (c50.trans (wk_eq.mpr (show f9_1_4.toInt = 0 by omega)))) (cwV 1 hC.2.2.2.2 gX3_readTest_X3_readFact rfl rfl rfl (by decide +kernel) ⟨Nat.le_of_ble_eq_true rfl, Nat.le_of_ble_eq_true rfl⟩) rfl hl.1 rfl (Nat.le_of_ble_eq_true rfl) dX3_readTest_40 (fun w75 H locs hp74 hw => ?_)
            obtain ⟨hT, k76, hg79⟩ := hp74
            have hF := hF.tr k76 (by decide)
            obtain ⟨x77, c78, rx77, tx77⟩ := hg79
            refine lv_aload_n hx hb dX3_readTest_43 rfl (lv_at hl 0 rfl) ?_
            refine tk_getQ hC hK hw hT hqr (by decide) hinX3 kC_at3 (by decide) rfl 1 (by decide) (List.mem_of_getElem? (i := 2) rfl) rfl rfl dX3_readTest_44 ?_
            refine lv_bipush (v := 20) hx hb dX3_readTest_47 (by decide) ?_
            refine tk_Vv hC hK hw hT hA hE hSR hqr (by decide) rfl (k_X2_addToken_10 l adK adV dC dI cy ad B (by omega) (by omega) qr s1   qr hqr w75 H.size hT ) (cwV 1 hC.2.2.2.2 gX3_readTest_X2_addToken rfl rfl rfl (by decide +kernel) ⟨Nat.le_of_ble_eq_true rfl, Nat.le_of_ble_eq_true rfl⟩) rfl hl.1 rfl (Nat.le_of_ble_eq_true rfl) dX3_readTest_49 (fun w82 H locs hp81 hw => ?_)
            obtain ⟨hT, k83, hg86⟩ := hp81
            have hF := hF.tr k83 (by decide)
            have c87 := k83.gi kC_at1 (by decide) c78
            obtain ⟨x84, c85, rx84, tx84⟩ := hg86
            refine lv_goto (tgt := 80) hx hb dX3_readTest_52 (by decide) ?_
            exact J80 v9_2 x77 H locs ls w82 (show (-1) ≤ v9_2.toInt by omega) (show v9_2.toInt ≤ 21 by omega) (show 0 ≤ v9_3.toInt by omega) (show v9_3.toInt ≤ 399 by omega) (show 0 ≤ x77.toInt by omega) (show x77.toInt ≤ 3204 by omega)  hw hT hF c87 (lv_sub hl [0, 1, 2, 3] rfl)
        · have ex39 : x39.toInt = f9_1_4.toInt := by rw [← c42.symm.trans c40]
          refine lv_if_ne (tgt := 86) hx hb dX3_readTest_23 (by decide) (fun _ => ?_) (fun c => absurd c (by decide))
          exact J86 v9_2 v9_3 f9_1_4 H locs ls w35 (show (-1) ≤ v9_2.toInt by omega) (show v9_2.toInt ≤ 21 by omega) (show 0 ≤ v9_3.toInt by omega) (show v9_3.toInt ≤ 400 by omega) (show 0 ≤ f9_1_4.toInt by omega) (show f9_1_4.toInt ≤ 3204 by omega)  hw hT hF c42 (lv_sub hl [0, 1, 2, 3] rfl)
  refine lv_aload_n hx hb dX3_readTest_0 rfl (lv_at hl 0 rfl) ?_
  refine lv_iload_n hx hb dX3_readTest_1 rfl (lv_at hl 1 rfl) ?_
  refine tk_Vv hC hK hw hT hA hE hSR kC_at3 (by decide) rfl (k_X3_readFact_9 l adK adV dC dI cy ad B (by omega) (by omega) qr s1 hqr   w0 s.heap.size hT cf0_) (cwV 1 hC.2.2.2.2 gX3_readTest_X3_readFact rfl rfl rfl (by decide +kernel) ⟨Nat.le_of_ble_eq_true rfl, Nat.le_of_ble_eq_true rfl⟩) rfl hl.1 rfl (Nat.le_of_ble_eq_true rfl) dX3_readTest_2 (fun w90 H locs hp89 hw => ?_)
  obtain ⟨hT, k91, hg94⟩ := hp89
  have hF := hF.tr k91 (by decide)
  obtain ⟨x92, c93, rx92, tx92⟩ := hg94
  refine lv_iconst (v := (-1)) hx hb dX3_readTest_5 (by decide) ?_
  refine lv_istore_n (lv' := [(2, .int (-1)), (0, .ref (ad 3)), (1, .int 8)]) hx hb dX3_readTest_6 rfl hl (by decide) rfl (fun ls hl => ?_)
  refine lv_iconst (v := 0) hx hb dX3_readTest_7 (by decide) ?_
  refine lv_istore_n (lv' := [(3, .int 0), (2, .int (-1)), (0, .ref (ad 3)), (1, .int 8)]) hx hb dX3_readTest_8 rfl hl (by decide) rfl (fun ls hl => ?_)
  exact L9 ((400 - (0 : Int)).toNat + 1) (-1) 0 x92 H locs ls w90 (by decide) (by decide) (by decide) (by decide) (show 0 ≤ x92.toInt by omega) (show x92.toInt ≤ 3204 by omega) (Nat.lt_succ_self _) hw hT hF c93 (lv_sub hl [2, 3, 1, 0] rfl)
abbrev P_X3_readFact_8 (ad : Nat → Nat) (cy : Nat → ClassId) (B : Int) (qr : Nat) (s1 : Int)  (w0 : va_W) : va_W → Prop := fun u => TW ksC ad cy B qr s1 u ∧ FE ksC [(2, 3, 3), (3, 2, 2), (6, 1, 1), (6, 3, 3), (6, 4, 4), (22, 0, 13), (23, 0, 400)] w0 u ∧ (((∃ y : Int32, gi u 1 4 = y ∧ 0 ≤ y.toInt ∧ y.toInt ≤ 3204)))
set_option maxHeartbeats 4000000 in
set_option maxRecDepth 100000 in
theorem k_X3_readFact_8 (l : Launch) (adK adV : Nat → Nat) (dC : Nat → ClassId) (dI : Nat → Nat → Nat) (cy : Nat → ClassId) (ad : Nat → Nat) (B : Int) (hB0 : 2147483648 ≤ B) (hB1 : B ≤ 1152921504606846976) (qr : Nat) (s1 : Int) (hqr : ksC[qr]? = some 2)  (w0 : va_W) (sz : Nat) (hT : TW ksC ad cy B qr s1 w0) (cf0_ : gi w0 1 4 = 0) : Met l yX3_readFact wsX3_readFact ({ frames := 14, cells := 0, slots := 0, locals := 352 }) (va_Pc [.ref (ad 3), .int 7] (wpreS adK adV dC dI cy sz w0)) (va_Qv (P_X3_readFact_8 ad cy B qr s1  w0) (fun u : va_W => wpost dC dI cy (va_A w0 sz) u) (va_A w0 sz)) 0 0 (va_A w0 sz) := by
  refine Met.ofW (cc := cX3_readFact) (maxL := 5) (ret := none) (by decide) rfl ?_
  intro p e s m args below meth c s₁ Bk hml hv
  obtain ⟨rfl, ⟨hsz, hP, hK, hD0⟩, hE, hSR⟩ := hv
  have hx := Bk.exec
  have hb := Bk.bytes
  have hr := Bk.returns
  have hlocks := Bk.notSynchronized
  have hC : CallFix p m c cX3_readFact 5 s _ wsX3_readFact RX3 := ⟨hx, hb, hml, findClass_of_methodNamed Bk.named, atoms_spec (ws := wsX3_readFact) Bk.pre⟩
  subst hsz
  have hD := hD0.self (sz := s.heap.size)
  generalize hAe : va_A w0 s.heap.size = A at hD hE ⊢
  have hA : ∀ q : Nat, s.heap.size ≤ q → A q := fun q h => by rw [← hAe]; exact Or.inr h
  have hw : Wd dC dI A s.heap s.heap [] w0 := ⟨hP, hD, va_S.rf⟩
  have hF : FE ksC [(2, 3, 3), (3, 2, 2), (6, 1, 1), (6, 3, 3), (6, 4, 4), (22, 0, 13), (23, 0, 400)] w0 w0 := FE.rf
  have hl := lv_entry ([.ref (ad 3), .int 7]) (n := 5) (Nat.le_of_ble_eq_true rfl)
  rw [lg_entry_eq]
  generalize (lg_sl ([.ref (ad 3), .int 7]) ++ List.replicate (5 - (lg_sl ([.ref (ad 3), .int 7])).length) Slot.unset).toArray = ls at hl ⊢
  have hl : lv_has ls 5 [(0, .ref (ad 3)), (1, .int 7)] := hl
  generalize hloc : ([] : List Loc) = locs at hw ⊢
  have hinX3 : ∀ w ∈ u_ws RX3 TX3 3, w ∈ wsX3_readFact := fun _ h => List.mem_cons_of_mem _ (List.mem_append_left _ (List.mem_append_left _ (List.mem_append_right _ (h))))
  have J160 : ∀ (v160_2 : Int32) (v160_3 : Int32) (f160_1_4 : Int32) (H : Heap) (locs : List Loc) (ls : Array Slot) (w1 : va_W), 0 ≤ v160_2.toInt → v160_2.toInt ≤ 1 → 0 ≤ v160_3.toInt → v160_3.toInt ≤ 1 → 0 ≤ f160_1_4.toInt → f160_1_4.toInt ≤ 3204 → Wd dC dI A s.heap H locs w1 → TW ksC ad cy B qr s1 w1 → FE ksC [(2, 3, 3), (3, 2, 2), (6, 1, 1), (6, 3, 3), (6, 4, 4), (22, 0, 13), (23, 0, 400)] w0 w1 → gi w1 1 4 = f160_1_4 → lv_has ls 5 [(0, .ref (ad 3)), (1, .int 7), (2, .int v160_2), (3, .int v160_3)] → W p l e ({ frames := 14, cells := 0, slots := 0, locals := 352 }) s m (List.toArray [.ref (ad 3), .int 7]) below meth c H locs 0 0 (MQ below (va_Qv (P_X3_readFact_8 ad cy B qr s1  w0) (fun u : va_W => wpost dC dI cy A u) A) (List.toArray [.ref (ad 3), .int 7]) s 0 0 A) (F0 m 160 ls []) := by
    intro v160_2 v160_3 f160_1_4 H locs ls w1 r2 t3 r4 t5 r6 t7 hw hT hF c8 hl
    exact tk_vret hC hr hlocks hK ⟨hT, hF, ⟨f160_1_4, c8, (show 0 ≤ f160_1_4.toInt by omega), (show f160_1_4.toInt ≤ 3204 by omega)⟩⟩ hw dX3_readFact_160
  have J77 : ∀ (v77_2 : Int32) (v77_3 : Int32) (H : Heap) (locs : List Loc) (ls : Array Slot) (w9 : va_W), 0 ≤ v77_2.toInt → v77_2.toInt ≤ 1 → 0 ≤ v77_3.toInt → v77_3.toInt ≤ 1 → Wd dC dI A s.heap H locs w9 → TW ksC ad cy B qr s1 w9 → FE ksC [(2, 3, 3), (3, 2, 2), (6, 1, 1), (6, 3, 3), (6, 4, 4), (22, 0, 13), (23, 0, 400)] w0 w9 → gi w9 1 4 = 0 → lv_has ls 5 [(0, .ref (ad 3)), (1, .int 7), (2, .int v77_2), (3, .int v77_3)] → W p l e ({ frames := 14, cells := 0, slots := 0, locals := 352 }) s m (List.toArray [.ref (ad 3), .int 7]) below meth c H locs 0 0 (MQ below (va_Qv (P_X3_readFact_8 ad cy B qr s1  w0) (fun u : va_W => wpost dC dI cy A u) A) (List.toArray [.ref (ad 3), .int 7]) s 0 0 A) (F0 m 77 ls []) := by
    intro v77_2 v77_3 H locs ls w9 r10 t11 r12 t13 hw hT hF c14 hl
    refine lv_iload_n hx hb dX3_readFact_77 rfl (lv_at hl 1 rfl) ?_
    refine lv_bipush (v := 10) hx hb dX3_readFact_78 (by decide) ?_
    refine lv_icmp_lt (tgt := 101) hx hb dX3_readFact_80 (by decide) (fun _ => ?_) (fun c => absurd (by decide) c)
    refine lv_iload_n hx hb dX3_readFact_101 rfl (lv_at hl 2 rfl) ?_
    refine lv_if_eq (tgt := 124) hx hb dX3_readFact_102 (by decide) (fun c15 => ?_) (fun c15 => ?_)
    · have c15 : v77_2.toInt = (0 : Int) := wk_eq.mp c15
      refine lv_aload_n hx hb dX3_readFact_124 rfl (lv_at hl 0 rfl) ?_
      refine lv_iload_n hx hb dX3_readFact_125 rfl (lv_at hl 1 rfl) ?_
      refine lv_iconst (v := 1) hx hb dX3_readFact_126 (by decide) ?_
      refine lv_iadd hx hb dX3_readFact_127 ?_
      refine wk_top 8 (by decide) ?_
      refine tk_Vv hC hK hw hT hA hE hSR kC_at3 (by decide) rfl (k_X3_readTest_9 l adK adV dC dI cy ad B (by omega) (by omega) qr s1 hqr   w9 H.size hT c14) (cwV 1 hC.2.2.2.2 gX3_readFact_X3_readTest rfl rfl rfl (by decide +kernel) ⟨Nat.le_of_ble_eq_true rfl, Nat.le_of_ble_eq_true rfl⟩) rfl hl.1 rfl (Nat.le_of_ble_eq_true rfl) dX3_readFact_128 (fun w18 H locs hp17 hw => ?_)
      obtain ⟨hT, k19, hg22⟩ := hp17
      have hF := hF.tr k19 (by decide)
      obtain ⟨x20, c21, rx20, tx20⟩ := hg22
      refine lv_aload_n hx hb dX3_readFact_131 rfl (lv_at hl 0 rfl) ?_
      refine tk_getA hC hK hw hT hinX3 kC_at3 (by decide) rfl 0 (by decide) (List.mem_of_getElem? (i := 1) rfl) rfl rfl dX3_readFact_132 ?_
      refine tk_Vi hC hK hw hT hA hE hSR kC_at1 (by decide) rfl (k_X6_isFaulty_2 l adK adV dC dI cy ad B (by omega) (by omega) qr s1    w18 H.size hT x20 c21 (show 0 ≤ x20.toInt by omega) (show x20.toInt ≤ 3204 by omega)) (cwV 0 hC.2.2.2.2 gX3_readFact_X6_isFaulty rfl rfl rfl (by decide +kernel) ⟨Nat.le_of_ble_eq_true rfl, Nat.le_of_ble_eq_true rfl⟩) rfl hl.1 rfl (Nat.le_of_ble_eq_true rfl) dX3_readFact_135 (fun r23 w25 H locs hp24 hw => ?_)
      obtain ⟨hT, k26, hg31⟩ := hp24
      have hF := hF.tr k26 (by decide)
      have c32 := k26.gi kC_at1 (by decide) c21
      rcases hg31 with ⟨rfl, ⟨x27, c28, rx27, tx27⟩⟩ | ⟨rfl, ⟨x29, c30, rx29, tx29⟩⟩
      · have ex27 : x27.toInt = x20.toInt := by rw [← c32.symm.trans c28]
        refine lv_if_ne (tgt := 160) hx hb dX3_readFact_138 (by decide) (fun c => absurd (by decide) c) (fun _ => ?_)
        refine lv_aload_n hx hb dX3_readFact_141 rfl (lv_at hl 0 rfl) ?_
        refine tk_getA hC hK hw hT hinX3 kC_at3 (by decide) rfl 0 (by decide) (List.mem_of_getElem? (i := 1) rfl) rfl rfl dX3_readFact_142 ?_
        refine lv_bipush (v := 93) hx hb dX3_readFact_145 (by decide) ?_
        refine tk_Vi hC hK hw hT hA hE hSR kC_at1 (by decide) rfl (k_X6_takeByte_3 l adK adV dC dI cy ad B (by omega) (by omega) qr s1    w25 H.size hT ) (cwV 1 hC.2.2.2.2 gX3_readFact_X6_takeByte rfl rfl rfl (by decide +kernel) ⟨Nat.le_of_ble_eq_true rfl, Nat.le_of_ble_eq_true rfl⟩) rfl hl.1 rfl (Nat.le_of_ble_eq_true rfl) dX3_readFact_147 (fun r33 w35 H locs hp34 hw => ?_)
        obtain ⟨hT, k36, hg41⟩ := hp34
        have hF := hF.tr k36 (by decide)
        have c42 := k36.gi kC_at1 (by decide) c32
        rcases hg41 with rfl | ⟨rfl, ⟨x37, c38, rx37, tx37⟩, ⟨x39, c40, rx39, tx39⟩⟩
        · refine lv_if_ne (tgt := 160) hx hb dX3_readFact_150 (by decide) (fun c => absurd (by decide) c) (fun _ => ?_)
          refine lv_aload_n hx hb dX3_readFact_153 rfl (lv_at hl 0 rfl) ?_
          refine tk_getA hC hK hw hT hinX3 kC_at3 (by decide) rfl 0 (by decide) (List.mem_of_getElem? (i := 1) rfl) rfl rfl dX3_readFact_154 ?_
          refine tk_Vv hC hK hw hT hA hE hSR kC_at1 (by decide) rfl (k_X6_blameHere_1 l adK adV dC dI cy ad B (by omega) (by omega) qr s1    w35 H.size hT (c42.trans (wk_eq.mpr (show x20.toInt = 0 by omega)))) (cwV 0 hC.2.2.2.2 gX3_readFact_X6_blameHere rfl rfl rfl (by decide +kernel) ⟨Nat.le_of_ble_eq_true rfl, Nat.le_of_ble_eq_true rfl⟩) rfl hl.1 rfl (Nat.le_of_ble_eq_true rfl) dX3_readFact_157 (fun w45 H locs hp44 hw => ?_)
          obtain ⟨hT, k46, hg49⟩ := hp44
          have hF := hF.tr k46 (by decide)
          obtain ⟨x47, c48, rx47, tx47⟩ := hg49
          exact J160 v77_2 v77_3 x47 H locs ls w45 (show 0 ≤ v77_2.toInt by omega) (show v77_2.toInt ≤ 1 by omega) (show 0 ≤ v77_3.toInt by omega) (show v77_3.toInt ≤ 1 by omega) (show 0 ≤ x47.toInt by omega) (show x47.toInt ≤ 3204 by omega)  hw hT hF c48 (lv_sub hl [0, 1, 2, 3] rfl)
        · refine lv_if_ne (tgt := 160) hx hb dX3_readFact_150 (by decide) (fun _ => ?_) (fun c => absurd c (by decide))
          exact J160 v77_2 v77_3 x20 H locs ls w35 (show 0 ≤ v77_2.toInt by omega) (show v77_2.toInt ≤ 1 by omega) (show 0 ≤ v77_3.toInt by omega) (show v77_3.toInt ≤ 1 by omega) (show 0 ≤ x20.toInt by omega) (show x20.toInt ≤ 3204 by omega)  hw hT hF c42 (lv_sub hl [0, 1, 2, 3] rfl)
      · have ex29 : x29.toInt = x20.toInt := by rw [← c32.symm.trans c30]
        refine lv_if_ne (tgt := 160) hx hb dX3_readFact_138 (by decide) (fun _ => ?_) (fun c => absurd c (by decide))
        exact J160 v77_2 v77_3 x20 H locs ls w25 (show 0 ≤ v77_2.toInt by omega) (show v77_2.toInt ≤ 1 by omega) (show 0 ≤ v77_3.toInt by omega) (show v77_3.toInt ≤ 1 by omega) (show 0 ≤ x20.toInt by omega) (show x20.toInt ≤ 3204 by omega)  hw hT hF c32 (lv_sub hl [0, 1, 2, 3] rfl)
    · have c15 : ¬ v77_2.toInt = (0 : Int) := wk_eqF c15
      refine lv_aload_n hx hb dX3_readFact_105 rfl (lv_at hl 0 rfl) ?_
      refine lv_iload_n hx hb dX3_readFact_106 rfl (lv_at hl 1 rfl) ?_
      refine lv_iconst (v := 1) hx hb dX3_readFact_107 (by decide) ?_
      refine lv_iadd hx hb dX3_readFact_108 ?_
      refine wk_top 8 (by decide) ?_
      refine tk_Vv hC hK hw hT hA hE hSR kC_at3 (by decide) rfl (k_X3_readFact_9 l adK adV dC dI cy ad B (by omega) (by omega) qr s1 hqr   w9 H.size hT c14) (cwV 1 hC.2.2.2.2 gX3_readFact_X3_readFact rfl rfl rfl (by decide +kernel) ⟨Nat.le_of_ble_eq_true rfl, Nat.le_of_ble_eq_true rfl⟩) rfl hl.1 rfl (Nat.le_of_ble_eq_true rfl) dX3_readFact_109 (fun w52 H locs hp51 hw => ?_)
      obtain ⟨hT, k53, hg56⟩ := hp51
      have hF := hF.tr k53 (by decide)
      obtain ⟨x54, c55, rx54, tx54⟩ := hg56
      refine lv_aload_n hx hb dX3_readFact_112 rfl (lv_at hl 0 rfl) ?_
      refine tk_getQ hC hK hw hT hqr (by decide) hinX3 kC_at3 (by decide) rfl 1 (by decide) (List.mem_of_getElem? (i := 2) rfl) rfl rfl dX3_readFact_113 ?_
      refine lv_bipush (v := 19) hx hb dX3_readFact_116 (by decide) ?_
      refine tk_Vv hC hK hw hT hA hE hSR hqr (by decide) rfl (k_X2_addToken_11 l adK adV dC dI cy ad B (by omega) (by omega) qr s1   qr hqr w52 H.size hT ) (cwV 1 hC.2.2.2.2 gX3_readFact_X2_addToken rfl rfl rfl (by decide +kernel) ⟨Nat.le_of_ble_eq_true rfl, Nat.le_of_ble_eq_true rfl⟩) rfl hl.1 rfl (Nat.le_of_ble_eq_true rfl) dX3_readFact_118 (fun w59 H locs hp58 hw => ?_)
      obtain ⟨hT, k60, hg63⟩ := hp58
      have hF := hF.tr k60 (by decide)
      have c64 := k60.gi kC_at1 (by decide) c55
      obtain ⟨x61, c62, rx61, tx61⟩ := hg63
      refine lv_goto (tgt := 160) hx hb dX3_readFact_121 (by decide) ?_
      exact J160 v77_2 v77_3 x54 H locs ls w59 (show 0 ≤ v77_2.toInt by omega) (show v77_2.toInt ≤ 1 by omega) (show 0 ≤ v77_3.toInt by omega) (show v77_3.toInt ≤ 1 by omega) (show 0 ≤ x54.toInt by omega) (show x54.toInt ≤ 3204 by omega)  hw hT hF c64 (lv_sub hl [0, 1, 2, 3] rfl)
  have J41 : ∀ (v41_2 : Int32) (H : Heap) (locs : List Loc) (ls : Array Slot) (w65 : va_W), 0 ≤ v41_2.toInt → v41_2.toInt ≤ 1 → Wd dC dI A s.heap H locs w65 → TW ksC ad cy B qr s1 w65 → FE ksC [(2, 3, 3), (3, 2, 2), (6, 1, 1), (6, 3, 3), (6, 4, 4), (22, 0, 13), (23, 0, 400)] w0 w65 → gi w65 1 4 = 0 → lv_has ls 5 [(0, .ref (ad 3)), (1, .int 7), (2, .int v41_2)] → W p l e ({ frames := 14, cells := 0, slots := 0, locals := 352 }) s m (List.toArray [.ref (ad 3), .int 7]) below meth c H locs 0 0 (MQ below (va_Qv (P_X3_readFact_8 ad cy B qr s1  w0) (fun u : va_W => wpost dC dI cy A u) A) (List.toArray [.ref (ad 3), .int 7]) s 0 0 A) (F0 m 41 ls []) := by
    intro v41_2 H locs ls w65 r66 t67 hw hT hF c68 hl
    refine lv_iconst (v := 0) hx hb dX3_readFact_41 (by decide) ?_
    refine lv_istore_n (lv' := [(3, .int 0), (0, .ref (ad 3)), (1, .int 7), (2, .int v41_2)]) hx hb dX3_readFact_42 rfl hl (by decide) rfl (fun ls hl => ?_)
    refine lv_iload_n hx hb dX3_readFact_43 rfl (lv_at hl 3 rfl) ?_
    refine lv_if_ne (tgt := 77) hx hb dX3_readFact_44 (by decide) (fun c69 => ?_) (fun c69 => ?_)
    · have c69 : ¬ v41_2.toInt = (0 : Int) := wk_eqF c69
      exact J77 v41_2 0 H locs ls w65 (show 0 ≤ v41_2.toInt by omega) (show v41_2.toInt ≤ 1 by omega) (by decide) (by decide)  hw hT hF c68 (lv_sub hl [1, 2, 3, 0] rfl)
    · have c69 : v41_2.toInt = (0 : Int) := wk_eq.mp c69
      refine lv_iload_n hx hb dX3_readFact_47 rfl (lv_at hl 0 rfl) ?_
      refine lv_if_ne (tgt := 77) hx hb dX3_readFact_48 (by decide) (fun c => absurd (by decide) c) (fun _ => ?_)
      refine lv_aload_n hx hb dX3_readFact_51 rfl (lv_at hl 1 rfl) ?_
      refine tk_Vv hC hK hw hT hA hE hSR kC_at3 (by decide) rfl (k_X3_readSum_1 l adK adV dC dI cy ad B (by omega) (by omega) qr s1 hqr   w65 H.size hT c68) (cwV 0 hC.2.2.2.2 gX3_readFact_X3_readSum rfl rfl rfl (by decide +kernel) ⟨Nat.le_of_ble_eq_true rfl, Nat.le_of_ble_eq_true rfl⟩) rfl hl.1 rfl (Nat.le_of_ble_eq_true rfl) dX3_readFact_52 (fun w72 H locs hp71 hw => ?_)
      obtain ⟨hT, k73, hg76⟩ := hp71
      have hF := hF.tr k73 (by decide)
      obtain ⟨x74, c75, rx74, tx74⟩ := hg76
      refine lv_aload_n hx hb dX3_readFact_55 rfl (lv_at hl 1 rfl) ?_
      refine tk_Vi hC hK hw hT hA hE hSR kC_at3 (by decide) rfl (k_X3_readSign_1 l adK adV dC dI cy ad B (by omega) (by omega) qr s1    w72 H.size hT x74 c75 (show 0 ≤ x74.toInt by omega) (show x74.toInt ≤ 3204 by omega)) (cwV 0 hC.2.2.2.2 gX3_readFact_X3_readSign rfl rfl rfl (by decide +kernel) ⟨Nat.le_of_ble_eq_true rfl, Nat.le_of_ble_eq_true rfl⟩) rfl hl.1 rfl (Nat.le_of_ble_eq_true rfl) dX3_readFact_56 (fun r77 w79 H locs hp78 hw => ?_)
      obtain ⟨hT, k80, hg91⟩ := hp78
      have hF := hF.tr k80 (by decide)
      rcases hg91 with ⟨rfl, ⟨x81, c82, rx81, tx81⟩⟩ | ⟨g83, g84, ⟨x85, c86, rx85, tx85⟩, ⟨x87, c88, rx87, tx87⟩, ⟨x89, c90, rx89, tx89⟩⟩
      · refine lv_istore (lv' := [(4, .int 16), (3, .int 0), (0, .ref (ad 3)), (1, .int 7), (2, .int v41_2)]) hx hb dX3_readFact_59 hl (by decide) rfl (fun ls hl => ?_)
        refine lv_aload_n hx hb dX3_readFact_61 rfl (lv_at hl 2 rfl) ?_
        refine tk_Vv hC hK hw hT hA hE hSR kC_at3 (by decide) rfl (k_X3_readSum_2 l adK adV dC dI cy ad B (by omega) (by omega) qr s1 hqr   w79 H.size hT x81 c82 (show 1 ≤ x81.toInt by omega) (show x81.toInt ≤ 3204 by omega)) (cwV 0 hC.2.2.2.2 gX3_readFact_X3_readSum rfl rfl rfl (by decide +kernel) ⟨Nat.le_of_ble_eq_true rfl, Nat.le_of_ble_eq_true rfl⟩) rfl hl.1 rfl (Nat.le_of_ble_eq_true rfl) dX3_readFact_62 (fun w94 H locs hp93 hw => ?_)
        obtain ⟨hT, k95, hg98⟩ := hp93
        have hF := hF.tr k95 (by decide)
        have c99 := k95.gi kC_at1 (by decide) c82
        obtain ⟨x96, c97, rx96, tx96⟩ := hg98
        have ex96 : x96.toInt = x81.toInt := by rw [← c99.symm.trans c97]
        refine lv_aload_n hx hb dX3_readFact_65 rfl (lv_at hl 2 rfl) ?_
        refine tk_getQ hC hK hw hT hqr (by decide) hinX3 kC_at3 (by decide) rfl 1 (by decide) (List.mem_of_getElem? (i := 2) rfl) rfl rfl dX3_readFact_66 ?_
        refine lv_iload hx hb dX3_readFact_69 (lv_at hl 0 rfl) ?_
        refine tk_Vv hC hK hw hT hA hE hSR hqr (by decide) rfl (k_X2_addToken_8 l adK adV dC dI cy ad B (by omega) (by omega) qr s1   qr hqr w94 H.size hT ) (cwV 1 hC.2.2.2.2 gX3_readFact_X2_addToken rfl rfl rfl (by decide +kernel) ⟨Nat.le_of_ble_eq_true rfl, Nat.le_of_ble_eq_true rfl⟩) rfl hl.1 rfl (Nat.le_of_ble_eq_true rfl) dX3_readFact_71 (fun w102 H locs hp101 hw => ?_)
        obtain ⟨hT, k103, hg106⟩ := hp101
        have hF := hF.tr k103 (by decide)
        have c107 := k103.gi kC_at1 (by decide) c99
        obtain ⟨x104, c105, rx104, tx104⟩ := hg106
        refine lv_goto (tgt := 160) hx hb dX3_readFact_74 (by decide) ?_
        exact J160 v41_2 0 x81 H locs ls w102 (show 0 ≤ v41_2.toInt by omega) (show v41_2.toInt ≤ 1 by omega) (by decide) (by decide) (show 0 ≤ x81.toInt by omega) (show x81.toInt ≤ 3204 by omega)  hw hT hF c107 (lv_sub hl [2, 3, 4, 1] rfl)
      · refine lv_istore (lv' := [(4, .int r77), (3, .int 0), (0, .ref (ad 3)), (1, .int 7), (2, .int v41_2)]) hx hb dX3_readFact_59 hl (by decide) rfl (fun ls hl => ?_)
        refine lv_aload_n hx hb dX3_readFact_61 rfl (lv_at hl 2 rfl) ?_
        refine tk_Vv hC hK hw hT hA hE hSR kC_at3 (by decide) rfl (k_X3_readSum_3 l adK adV dC dI cy ad B (by omega) (by omega) qr s1 hqr   w79 H.size hT x89 c90 (show 0 ≤ x89.toInt by omega) (show x89.toInt ≤ 3204 by omega)) (cwV 0 hC.2.2.2.2 gX3_readFact_X3_readSum rfl rfl rfl (by decide +kernel) ⟨Nat.le_of_ble_eq_true rfl, Nat.le_of_ble_eq_true rfl⟩) rfl hl.1 rfl (Nat.le_of_ble_eq_true rfl) dX3_readFact_62 (fun w110 H locs hp109 hw => ?_)
        obtain ⟨hT, k111, hg114⟩ := hp109
        have hF := hF.tr k111 (by decide)
        have c115 := k111.gi kC_at1 (by decide) c86
        obtain ⟨x112, c113, rx112, tx112⟩ := hg114
        refine lv_aload_n hx hb dX3_readFact_65 rfl (lv_at hl 2 rfl) ?_
        refine tk_getQ hC hK hw hT hqr (by decide) hinX3 kC_at3 (by decide) rfl 1 (by decide) (List.mem_of_getElem? (i := 2) rfl) rfl rfl dX3_readFact_66 ?_
        refine lv_iload hx hb dX3_readFact_69 (lv_at hl 0 rfl) ?_
        refine tk_Vv hC hK hw hT hA hE hSR hqr (by decide) rfl (k_X2_addToken_9 l adK adV dC dI cy ad B (by omega) (by omega) qr s1   qr hqr r77 (show 14 ≤ r77.toInt by omega) (show r77.toInt ≤ 18 by omega) w110 H.size hT ) (cwV 1 hC.2.2.2.2 gX3_readFact_X2_addToken rfl rfl rfl (by decide +kernel) ⟨Nat.le_of_ble_eq_true rfl, Nat.le_of_ble_eq_true rfl⟩) rfl hl.1 rfl (Nat.le_of_ble_eq_true rfl) dX3_readFact_71 (fun w118 H locs hp117 hw => ?_)
        obtain ⟨hT, k119, hg122⟩ := hp117
        have hF := hF.tr k119 (by decide)
        have c123 := k119.gi kC_at1 (by decide) c115
        have c124 := k119.gi kC_at1 (by decide) c113
        obtain ⟨x120, c121, rx120, tx120⟩ := hg122
        refine lv_goto (tgt := 160) hx hb dX3_readFact_74 (by decide) ?_
        exact J160 v41_2 0 x112 H locs ls w118 (show 0 ≤ v41_2.toInt by omega) (show v41_2.toInt ≤ 1 by omega) (by decide) (by decide) (show 0 ≤ x112.toInt by omega) (show x112.toInt ≤ 3204 by omega)  hw hT hF c124 (lv_sub hl [2, 3, 4, 1] rfl)
  refine lv_aload_n hx hb dX3_readFact_0 rfl (lv_at hl 0 rfl) ?_
  refine tk_getA hC hK hw hT hinX3 kC_at3 (by decide) rfl 0 (by decide) (List.mem_of_getElem? (i := 1) rfl) rfl rfl dX3_readFact_1 ?_
  refine tk_Vi hC hK hw hT hA hE hSR kC_at1 (by decide) rfl (k_X6_isFaulty_3 l adK adV dC dI cy ad B (by omega) (by omega) qr s1    w0 s.heap.size hT cf0_) (cwV 0 hC.2.2.2.2 gX3_readFact_X6_isFaulty rfl rfl rfl (by decide +kernel) ⟨Nat.le_of_ble_eq_true rfl, Nat.le_of_ble_eq_true rfl⟩) rfl hl.1 rfl (Nat.le_of_ble_eq_true rfl) dX3_readFact_4 (fun r125 w127 H locs hp126 hw => ?_)
  obtain ⟨hT, k128, hg131⟩ := hp126
  have hF := hF.tr k128 (by decide)
  have c132 := k128.gi kC_at1 (by decide) cf0_
  obtain ⟨rfl, ⟨x129, c130, rx129, tx129⟩⟩ := hg131
  have ex129 : x129.toInt = (0 : Int) := by rw [show x129 = 0 from c130.symm.trans c132]; decide
  refine lv_if_eq (tgt := 11) hx hb dX3_readFact_7 (by decide) (fun _ => ?_) (fun c => absurd (by decide) c)
  refine lv_aload_n hx hb dX3_readFact_11 rfl (lv_at hl 0 rfl) ?_
  refine tk_getA hC hK hw hT hinX3 kC_at3 (by decide) rfl 0 (by decide) (List.mem_of_getElem? (i := 1) rfl) rfl rfl dX3_readFact_12 ?_
  refine va_ldcS hx hb hC.2.2.2.1 hSR.2.2.2.2.1 dX3_readFact_15 ?_
  refine tk_Vi hC hK hw hT hA hE hSR kC_at1 (by decide) rfl (k_X6_takeWord_4 l adK adV dC dI cy ad B (by omega) (by omega) qr s1    w127 H.size hT ) (cwV 1 hC.2.2.2.2 gX3_readFact_X6_takeWord rfl rfl rfl (by decide +kernel) ⟨Nat.le_of_ble_eq_true rfl, Nat.le_of_ble_eq_true rfl⟩) rfl hl.1 rfl (Nat.le_of_ble_eq_true rfl) dX3_readFact_17 (fun r133 w135 H locs hp134 hw => ?_)
  obtain ⟨hT, k136, hg139⟩ := hp134
  have hF := hF.tr k136 (by decide)
  have c140 := k136.gi kC_at1 (by decide) c132
  rcases hg139 with rfl | ⟨rfl, ⟨x137, c138, rx137, tx137⟩⟩
  · refine lv_istore_n (lv' := [(2, .int 0), (0, .ref (ad 3)), (1, .int 7)]) hx hb dX3_readFact_20 rfl hl (by decide) rfl (fun ls hl => ?_)
    refine lv_iload_n hx hb dX3_readFact_21 rfl (lv_at hl 0 rfl) ?_
    refine lv_if_ne (tgt := 41) hx hb dX3_readFact_22 (by decide) (fun c => absurd (by decide) c) (fun _ => ?_)
    refine lv_aload_n hx hb dX3_readFact_25 rfl (lv_at hl 1 rfl) ?_
    refine tk_getA hC hK hw hT hinX3 kC_at3 (by decide) rfl 0 (by decide) (List.mem_of_getElem? (i := 1) rfl) rfl rfl dX3_readFact_26 ?_
    refine lv_bipush (v := 91) hx hb dX3_readFact_29 (by decide) ?_
    refine tk_Vi hC hK hw hT hA hE hSR kC_at1 (by decide) rfl (k_X6_takeByte_2 l adK adV dC dI cy ad B (by omega) (by omega) qr s1    w135 H.size hT ) (cwV 1 hC.2.2.2.2 gX3_readFact_X6_takeByte rfl rfl rfl (by decide +kernel) ⟨Nat.le_of_ble_eq_true rfl, Nat.le_of_ble_eq_true rfl⟩) rfl hl.1 rfl (Nat.le_of_ble_eq_true rfl) dX3_readFact_31 (fun r141 w143 H locs hp142 hw => ?_)
    obtain ⟨hT, k144, hg149⟩ := hp142
    have hF := hF.tr k144 (by decide)
    have c150 := k144.gi kC_at1 (by decide) c140
    rcases hg149 with rfl | ⟨rfl, ⟨x145, c146, rx145, tx145⟩, ⟨x147, c148, rx147, tx147⟩⟩
    · refine lv_if_eq (tgt := 41) hx hb dX3_readFact_34 (by decide) (fun _ => ?_) (fun c => absurd (by decide) c)
      exact J41 0 H locs ls w143 (by decide) (by decide)  hw hT hF c150 (lv_sub hl [1, 2, 0] rfl)
    · refine lv_if_eq (tgt := 41) hx hb dX3_readFact_34 (by decide) (fun c => absurd c (by decide)) (fun _ => ?_)
      refine lv_iconst (v := 1) hx hb dX3_readFact_37 (by decide) ?_
      refine lv_goto (tgt := 42) hx hb dX3_readFact_38 (by decide) ?_
      refine lv_istore_n (lv' := [(3, .int 1), (2, .int 0), (0, .ref (ad 3)), (1, .int 7)]) hx hb dX3_readFact_42 rfl hl (by decide) rfl (fun ls hl => ?_)
      refine lv_iload_n hx hb dX3_readFact_43 rfl (lv_at hl 1 rfl) ?_
      refine lv_if_ne (tgt := 77) hx hb dX3_readFact_44 (by decide) (fun c => absurd (by decide) c) (fun _ => ?_)
      refine lv_iload_n hx hb dX3_readFact_47 rfl (lv_at hl 0 rfl) ?_
      refine lv_if_ne (tgt := 77) hx hb dX3_readFact_48 (by decide) (fun _ => ?_) (fun c => absurd c (by decide))
      exact J77 0 1 H locs ls w143 (by decide) (by decide) (by decide) (by decide)  hw hT hF c150 (lv_sub hl [2, 3, 1, 0] rfl)
  · refine lv_istore_n (lv' := [(2, .int 1), (0, .ref (ad 3)), (1, .int 7)]) hx hb dX3_readFact_20 rfl hl (by decide) rfl (fun ls hl => ?_)
    refine lv_iload_n hx hb dX3_readFact_21 rfl (lv_at hl 0 rfl) ?_
    refine lv_if_ne (tgt := 41) hx hb dX3_readFact_22 (by decide) (fun _ => ?_) (fun c => absurd c (by decide))
    exact J41 1 H locs ls w135 (by decide) (by decide)  hw hT hF c140 (lv_sub hl [1, 2, 0] rfl)
abbrev P_X3_readTest_8 (ad : Nat → Nat) (cy : Nat → ClassId) (B : Int) (qr : Nat) (s1 : Int)  (w0 : va_W) : va_W → Prop := fun u => TW ksC ad cy B qr s1 u ∧ FE ksC [(2, 3, 3), (3, 2, 2), (6, 1, 1), (6, 3, 3), (6, 4, 4), (22, 0, 13), (23, 0, 400)] w0 u ∧ (((∃ y : Int32, gi u 1 4 = y ∧ 0 ≤ y.toInt ∧ y.toInt ≤ 3204)))
set_option maxHeartbeats 4000000 in
set_option maxRecDepth 100000 in
theorem k_X3_readTest_8 (l : Launch) (adK adV : Nat → Nat) (dC : Nat → ClassId) (dI : Nat → Nat → Nat) (cy : Nat → ClassId) (ad : Nat → Nat) (B : Int) (hB0 : 2147483648 ≤ B) (hB1 : B ≤ 1152921504606846976) (qr : Nat) (s1 : Int) (hqr : ksC[qr]? = some 2)  (w0 : va_W) (sz : Nat) (hT : TW ksC ad cy B qr s1 w0) (cf0_ : gi w0 1 4 = 0) : Met l yX3_readTest wsX3_readTest ({ frames := 15, cells := 0, slots := 0, locals := 376 }) (va_Pc [.ref (ad 3), .int 7] (wpreS adK adV dC dI cy sz w0)) (va_Qv (P_X3_readTest_8 ad cy B qr s1  w0) (fun u : va_W => wpost dC dI cy (va_A w0 sz) u) (va_A w0 sz)) 0 0 (va_A w0 sz) := by
  refine Met.ofW (cc := cX3_readTest) (maxL := 4) (ret := none) (by decide) rfl ?_
  intro p e s m args below meth c s₁ Bk hml hv
  obtain ⟨rfl, ⟨hsz, hP, hK, hD0⟩, hE, hSR⟩ := hv
  have hx := Bk.exec
  have hb := Bk.bytes
  have hr := Bk.returns
  have hlocks := Bk.notSynchronized
  have hC : CallFix p m c cX3_readTest 4 s _ wsX3_readTest RX3 := ⟨hx, hb, hml, findClass_of_methodNamed Bk.named, atoms_spec (ws := wsX3_readTest) Bk.pre⟩
  subst hsz
  have hD := hD0.self (sz := s.heap.size)
  generalize hAe : va_A w0 s.heap.size = A at hD hE ⊢
  have hA : ∀ q : Nat, s.heap.size ≤ q → A q := fun q h => by rw [← hAe]; exact Or.inr h
  have hw : Wd dC dI A s.heap s.heap [] w0 := ⟨hP, hD, va_S.rf⟩
  have hF : FE ksC [(2, 3, 3), (3, 2, 2), (6, 1, 1), (6, 3, 3), (6, 4, 4), (22, 0, 13), (23, 0, 400)] w0 w0 := FE.rf
  have hl := lv_entry ([.ref (ad 3), .int 7]) (n := 4) (Nat.le_of_ble_eq_true rfl)
  rw [lg_entry_eq]
  generalize (lg_sl ([.ref (ad 3), .int 7]) ++ List.replicate (4 - (lg_sl ([.ref (ad 3), .int 7])).length) Slot.unset).toArray = ls at hl ⊢
  have hl : lv_has ls 4 [(0, .ref (ad 3)), (1, .int 7)] := hl
  generalize hloc : ([] : List Loc) = locs at hw ⊢
  have hinX3 : ∀ w ∈ u_ws RX3 TX3 3, w ∈ wsX3_readTest := fun _ h => List.mem_cons_of_mem _ (List.mem_append_left _ (List.mem_append_left _ (List.mem_append_right _ (h))))
  have J86 : ∀ (v86_2 : Int32) (v86_3 : Int32) (f86_1_4 : Int32) (H : Heap) (locs : List Loc) (ls : Array Slot) (w1 : va_W), (-1) ≤ v86_2.toInt → v86_2.toInt ≤ 21 → 0 ≤ v86_3.toInt → v86_3.toInt ≤ 400 → 0 ≤ f86_1_4.toInt → f86_1_4.toInt ≤ 3204 → Wd dC dI A s.heap H locs w1 → TW ksC ad cy B qr s1 w1 → FE ksC [(2, 3, 3), (3, 2, 2), (6, 1, 1), (6, 3, 3), (6, 4, 4), (22, 0, 13), (23, 0, 400)] w0 w1 → gi w1 1 4 = f86_1_4 → lv_has ls 4 [(0, .ref (ad 3)), (1, .int 7), (2, .int v86_2), (3, .int v86_3)] → W p l e ({ frames := 15, cells := 0, slots := 0, locals := 376 }) s m (List.toArray [.ref (ad 3), .int 7]) below meth c H locs 0 0 (MQ below (va_Qv (P_X3_readTest_8 ad cy B qr s1  w0) (fun u : va_W => wpost dC dI cy A u) A) (List.toArray [.ref (ad 3), .int 7]) s 0 0 A) (F0 m 86 ls []) := by
    intro v86_2 v86_3 f86_1_4 H locs ls w1 r2 t3 r4 t5 r6 t7 hw hT hF c8 hl
    refine lv_aload_n hx hb dX3_readTest_86 rfl (lv_at hl 0 rfl) ?_
    refine lv_iload_n hx hb dX3_readTest_87 rfl (lv_at hl 2 rfl) ?_
    refine tk_Vv hC hK hw hT hA hE hSR kC_at3 (by decide) rfl (k_X3_addWaiting_1 l adK adV dC dI cy ad B (by omega) (by omega) qr s1 hqr  v86_2 (show (-1) ≤ v86_2.toInt by omega) (show v86_2.toInt ≤ 21 by omega) w1 H.size hT ) (cwV 1 hC.2.2.2.2 gX3_readTest_X3_addWaiting rfl rfl rfl (by decide +kernel) ⟨Nat.le_of_ble_eq_true rfl, Nat.le_of_ble_eq_true rfl⟩) rfl hl.1 rfl (Nat.le_of_ble_eq_true rfl) dX3_readTest_88 (fun w11 H locs hp10 hw => ?_)
    obtain ⟨hT, k12, hg13⟩ := hp10
    have hF := hF.tr k12 (by decide)
    have c14 := k12.gi kC_at1 (by decide) c8
    clear hg13
    exact tk_vret hC hr hlocks hK ⟨hT, hF, ⟨f86_1_4, c14, (show 0 ≤ f86_1_4.toInt by omega), (show f86_1_4.toInt ≤ 3204 by omega)⟩⟩ hw dX3_readTest_91
  have L9 : ∀ (n9 : Nat) (v9_2 : Int32) (v9_3 : Int32) (f9_1_4 : Int32) (H : Heap) (locs : List Loc) (ls : Array Slot) (w15 : va_W), (-1) ≤ v9_2.toInt → v9_2.toInt ≤ 21 → 0 ≤ v9_3.toInt → v9_3.toInt ≤ 400 → 0 ≤ f9_1_4.toInt → f9_1_4.toInt ≤ 3204 → (400 - v9_3.toInt).toNat < n9 → Wd dC dI A s.heap H locs w15 → TW ksC ad cy B qr s1 w15 → FE ksC [(2, 3, 3), (3, 2, 2), (6, 1, 1), (6, 3, 3), (6, 4, 4), (22, 0, 13), (23, 0, 400)] w0 w15 → gi w15 1 4 = f9_1_4 → lv_has ls 4 [(0, .ref (ad 3)), (1, .int 7), (2, .int v9_2), (3, .int v9_3)] → W p l e ({ frames := 15, cells := 0, slots := 0, locals := 376 }) s m (List.toArray [.ref (ad 3), .int 7]) below meth c H locs 0 0 (MQ below (va_Qv (P_X3_readTest_8 ad cy B qr s1  w0) (fun u : va_W => wpost dC dI cy A u) A) (List.toArray [.ref (ad 3), .int 7]) s 0 0 A) (F0 m 9 ls []) := by
    intro n9
    induction n9 with
    | zero => intro v9_2 v9_3 f9_1_4 H locs ls w15 r16 t17 r18 t19 r20 t21 hm9 hw hT hF c22 hl; omega
    | succ n9 ih9 =>
      intro v9_2 v9_3 f9_1_4 H locs ls w15 r16 t17 r18 t19 r20 t21 hm9 hw hT hF c22 hl
      have J80 : ∀ (v80_2 : Int32) (f80_1_4 : Int32) (H : Heap) (locs : List Loc) (ls : Array Slot) (w23 : va_W), (-1) ≤ v80_2.toInt → v80_2.toInt ≤ 21 → 0 ≤ v9_3.toInt → v9_3.toInt ≤ 399 → 0 ≤ f80_1_4.toInt → f80_1_4.toInt ≤ 3204 → Wd dC dI A s.heap H locs w23 → TW ksC ad cy B qr s1 w23 → FE ksC [(2, 3, 3), (3, 2, 2), (6, 1, 1), (6, 3, 3), (6, 4, 4), (22, 0, 13), (23, 0, 400)] w0 w23 → gi w23 1 4 = f80_1_4 → lv_has ls 4 [(0, .ref (ad 3)), (1, .int 7), (2, .int v80_2), (3, .int v9_3)] → W p l e ({ frames := 15, cells := 0, slots := 0, locals := 376 }) s m (List.toArray [.ref (ad 3), .int 7]) below meth c H locs 0 0 (MQ below (va_Qv (P_X3_readTest_8 ad cy B qr s1  w0) (fun u : va_W => wpost dC dI cy A u) A) (List.toArray [.ref (ad 3), .int 7]) s 0 0 A) (F0 m 80 ls []) := by
        intro v80_2 f80_1_4 H locs ls w23 r24 t25 r26 t27 r28 t29 hw hT hF c30 hl
        obtain ⟨x31, ex31⟩ : ∃ y : Int32, y = v9_3 + Int32.ofInt 1 := ⟨_, rfl⟩
        refine lv_iinc (v := x31) (lv' := [(3, .int x31), (0, .ref (ad 3)), (1, .int 7), (2, .int v80_2)]) hx hb dX3_readTest_80 hl (k := 3) rfl ex31.symm (by decide) rfl (fun ls hl => ?_)
        have ex31 : x31.toInt = v9_3.toInt + 1 := by rw [ex31]; exact wk_add (y := 1) (show -2147483648 ≤ v9_3.toInt + 1 by omega) (show v9_3.toInt + 1 ≤ 2147483647 by omega)
        refine lv_goto (tgt := 9) hx hb dX3_readTest_83 (by decide) ?_
        exact ih9 v80_2 x31 f80_1_4 H locs ls w23 (show (-1) ≤ v80_2.toInt by omega) (show v80_2.toInt ≤ 21 by omega) (show 0 ≤ x31.toInt by omega) (show x31.toInt ≤ 400 by omega) (show 0 ≤ f80_1_4.toInt by omega) (show f80_1_4.toInt ≤ 3204 by omega) (show (400 - x31.toInt).toNat < n9 by omega) hw hT hF c30 (lv_sub hl [1, 2, 3, 0] rfl)
      refine lv_iload_n hx hb dX3_readTest_9 rfl (lv_at hl 3 rfl) ?_
      refine lv_sipush (v := 400) hx hb dX3_readTest_10 (by decide) ?_
      refine lv_icmp_ge (tgt := 86) hx hb dX3_readTest_13 (by decide) (fun c32 => ?_) (fun c32 => ?_)
      · have c32 : (400 : Int) ≤ v9_3.toInt := wk_le.mp c32
        exact J86 v9_2 v9_3 f9_1_4 H locs ls w15 (show (-1) ≤ v9_2.toInt by omega) (show v9_2.toInt ≤ 21 by omega) (show 0 ≤ v9_3.toInt by omega) (show v9_3.toInt ≤ 400 by omega) (show 0 ≤ f9_1_4.toInt by omega) (show f9_1_4.toInt ≤ 3204 by omega)  hw hT hF c22 (lv_sub hl [0, 1, 2, 3] rfl)
      · have c32 : v9_3.toInt < (400 : Int) := wk_leF c32
        refine lv_aload_n hx hb dX3_readTest_16 rfl (lv_at hl 0 rfl) ?_
        refine tk_getA hC hK hw hT hinX3 kC_at3 (by decide) rfl 0 (by decide) (List.mem_of_getElem? (i := 1) rfl) rfl rfl dX3_readTest_17 ?_
        refine tk_Vi hC hK hw hT hA hE hSR kC_at1 (by decide) rfl (k_X6_isFaulty_2 l adK adV dC dI cy ad B (by omega) (by omega) qr s1    w15 H.size hT f9_1_4 c22 (show 0 ≤ f9_1_4.toInt by omega) (show f9_1_4.toInt ≤ 3204 by omega)) (cwV 0 hC.2.2.2.2 gX3_readTest_X6_isFaulty rfl rfl rfl (by decide +kernel) ⟨Nat.le_of_ble_eq_true rfl, Nat.le_of_ble_eq_true rfl⟩) rfl hl.1 rfl (Nat.le_of_ble_eq_true rfl) dX3_readTest_20 (fun r33 w35 H locs hp34 hw => ?_)
        obtain ⟨hT, k36, hg41⟩ := hp34
        have hF := hF.tr k36 (by decide)
        have c42 := k36.gi kC_at1 (by decide) c22
        rcases hg41 with ⟨rfl, ⟨x37, c38, rx37, tx37⟩⟩ | ⟨rfl, ⟨x39, c40, rx39, tx39⟩⟩
        · have ex37 : x37.toInt = f9_1_4.toInt := by rw [← c42.symm.trans c38]
          refine lv_if_ne (tgt := 86) hx hb dX3_readTest_23 (by decide) (fun c => absurd (by decide) c) (fun _ => ?_)
          refine lv_aload_n hx hb dX3_readTest_26 rfl (lv_at hl 0 rfl) ?_
          refine tk_getA hC hK hw hT hinX3 kC_at3 (by decide) rfl 0 (by decide) (List.mem_of_getElem? (i := 1) rfl) rfl rfl dX3_readTest_27 ?_
          refine va_ldcS hx hb hC.2.2.2.1 hSR.2.2.2.2.2.2.1 dX3_readTest_30 ?_
          refine tk_Vi hC hK hw hT hA hE hSR kC_at1 (by decide) rfl (k_X6_takeWord_2 l adK adV dC dI cy ad B (by omega) (by omega) qr s1    w35 H.size hT ) (cwV 1 hC.2.2.2.2 gX3_readTest_X6_takeWord rfl rfl rfl (by decide +kernel) ⟨Nat.le_of_ble_eq_true rfl, Nat.le_of_ble_eq_true rfl⟩) rfl hl.1 rfl (Nat.le_of_ble_eq_true rfl) dX3_readTest_32 (fun r43 w45 H locs hp44 hw => ?_)
          obtain ⟨hT, k46, hg49⟩ := hp44
          have hF := hF.tr k46 (by decide)
          have c50 := k46.gi kC_at1 (by decide) c42
          rcases hg49 with rfl | ⟨rfl, ⟨x47, c48, rx47, tx47⟩⟩
          · refine lv_if_eq (tgt := 55) hx hb dX3_readTest_35 (by decide) (fun _ => ?_) (fun c => absurd (by decide) c)
            refine lv_aload_n hx hb dX3_readTest_55 rfl (lv_at hl 0 rfl) ?_
            refine tk_getA hC hK hw hT hinX3 kC_at3 (by decide) rfl 0 (by decide) (List.mem_of_getElem? (i := 1) rfl) rfl rfl dX3_readTest_56 ?_
            refine va_ldcS hx hb hC.2.2.2.1 hSR.2.2.2.2.2.2.2 dX3_readTest_59 ?_
            refine tk_Vi hC hK hw hT hA hE hSR kC_at1 (by decide) rfl (k_X6_takeWord_3 l adK adV dC dI cy ad B (by omega) (by omega) qr s1    w45 H.size hT ) (cwV 1 hC.2.2.2.2 gX3_readTest_X6_takeWord rfl rfl rfl (by decide +kernel) ⟨Nat.le_of_ble_eq_true rfl, Nat.le_of_ble_eq_true rfl⟩) rfl hl.1 rfl (Nat.le_of_ble_eq_true rfl) dX3_readTest_61 (fun r51 w53 H locs hp52 hw => ?_)
            obtain ⟨hT, k54, hg57⟩ := hp52
            have hF := hF.tr k54 (by decide)
            have c58 := k54.gi kC_at1 (by decide) c50
            rcases hg57 with rfl | ⟨rfl, ⟨x55, c56, rx55, tx55⟩⟩
            · refine lv_if_eq (tgt := 86) hx hb dX3_readTest_64 (by decide) (fun _ => ?_) (fun c => absurd (by decide) c)
              exact J86 v9_2 v9_3 f9_1_4 H locs ls w53 (show (-1) ≤ v9_2.toInt by omega) (show v9_2.toInt ≤ 21 by omega) (show 0 ≤ v9_3.toInt by omega) (show v9_3.toInt ≤ 400 by omega) (show 0 ≤ f9_1_4.toInt by omega) (show f9_1_4.toInt ≤ 3204 by omega)  hw hT hF c58 (lv_sub hl [0, 1, 2, 3] rfl)
            · refine lv_if_eq (tgt := 86) hx hb dX3_readTest_64 (by decide) (fun c => absurd c (by decide)) (fun _ => ?_)
              refine lv_aload_n hx hb dX3_readTest_67 rfl (lv_at hl 0 rfl) ?_
              refine lv_iload_n hx hb dX3_readTest_68 rfl (lv_at hl 2 rfl) ?_
              refine tk_Vv hC hK hw hT hA hE hSR kC_at3 (by decide) rfl (k_X3_addWaiting_1 l adK adV dC dI cy ad B (by omega) (by omega) qr s1 hqr  v9_2 (show (-1) ≤ v9_2.toInt by omega) (show v9_2.toInt ≤ 21 by omega) w53 H.size hT ) (cwV 1 hC.2.2.2.2 gX3_readTest_X3_addWaiting rfl rfl rfl (by decide +kernel) ⟨Nat.le_of_ble_eq_true rfl, Nat.le_of_ble_eq_true rfl⟩) rfl hl.1 rfl (Nat.le_of_ble_eq_true rfl) dX3_readTest_69 (fun w61 H locs hp60 hw => ?_)
              obtain ⟨hT, k62, hg63⟩ := hp60
              have hF := hF.tr k62 (by decide)
              have c64 := k62.gi kC_at1 (by decide) c58
              have c65 := k62.gi kC_at1 (by decide) c56
              clear hg63
              refine lv_bipush (v := 21) hx hb dX3_readTest_72 (by decide) ?_
              refine lv_istore_n (lv' := [(2, .int 21), (0, .ref (ad 3)), (1, .int 7), (3, .int v9_3)]) hx hb dX3_readTest_74 rfl hl (by decide) rfl (fun ls hl => ?_)
              refine lv_aload_n hx hb dX3_readTest_75 rfl (lv_at hl 1 rfl) ?_
              refine lv_iload_n hx hb dX3_readTest_76 rfl (lv_at hl 2 rfl) ?_
              refine tk_Vv hC hK hw hT hA hE hSR kC_at3 (by decide) rfl (k_X3_readFact_8 l adK adV dC dI cy ad B (by omega) (by omega) qr s1 hqr   w61 H.size hT (c64.trans (wk_eq.mpr (show f9_1_4.toInt = 0 by omega)))) (cwV 1 hC.2.2.2.2 gX3_readTest_X3_readFact rfl rfl rfl (by decide +kernel) ⟨Nat.le_of_ble_eq_true rfl, Nat.le_of_ble_eq_true rfl⟩) rfl hl.1 rfl (Nat.le_of_ble_eq_true rfl) dX3_readTest_77 (fun w68 H locs hp67 hw => ?_)
              obtain ⟨hT, k69, hg72⟩ := hp67
              have hF := hF.tr k69 (by decide)
              obtain ⟨x70, c71, rx70, tx70⟩ := hg72
              exact J80 21 x70 H locs ls w68 (by decide) (by decide) (show 0 ≤ v9_3.toInt by omega) (show v9_3.toInt ≤ 399 by omega) (show 0 ≤ x70.toInt by omega) (show x70.toInt ≤ 3204 by omega)  hw hT hF c71 (lv_sub hl [1, 2, 0, 3] rfl)
          · refine lv_if_eq (tgt := 55) hx hb dX3_readTest_35 (by decide) (fun c => absurd c (by decide)) (fun _ => ?_)
            refine lv_aload_n hx hb dX3_readTest_38 rfl (lv_at hl 0 rfl) ?_
            refine lv_iload_n hx hb dX3_readTest_39 rfl (lv_at hl 1 rfl) ?_
            refine tk_Vv hC hK hw hT hA hE hSR kC_at3 (by decide) rfl (k_X3_readFact_8 l adK adV dC dI cy ad B (by omega) (by omega) qr s1 hqr   w45 H.size hT (c50.trans (wk_eq.mpr (show f9_1_4.toInt = 0 by omega)))) (cwV 1 hC.2.2.2.2 gX3_readTest_X3_readFact rfl rfl rfl (by decide +kernel) ⟨Nat.le_of_ble_eq_true rfl, Nat.le_of_ble_eq_true rfl⟩) rfl hl.1 rfl (Nat.le_of_ble_eq_true rfl) dX3_readTest_40 (fun w75 H locs hp74 hw => ?_)
            obtain ⟨hT, k76, hg79⟩ := hp74
            have hF := hF.tr k76 (by decide)
            obtain ⟨x77, c78, rx77, tx77⟩ := hg79
            refine lv_aload_n hx hb dX3_readTest_43 rfl (lv_at hl 0 rfl) ?_
            refine tk_getQ hC hK hw hT hqr (by decide) hinX3 kC_at3 (by decide) rfl 1 (by decide) (List.mem_of_getElem? (i := 2) rfl) rfl rfl dX3_readTest_44 ?_
            refine lv_bipush (v := 20) hx hb dX3_readTest_47 (by decide) ?_
            refine tk_Vv hC hK hw hT hA hE hSR hqr (by decide) rfl (k_X2_addToken_10 l adK adV dC dI cy ad B (by omega) (by omega) qr s1   qr hqr w75 H.size hT ) (cwV 1 hC.2.2.2.2 gX3_readTest_X2_addToken rfl rfl rfl (by decide +kernel) ⟨Nat.le_of_ble_eq_true rfl, Nat.le_of_ble_eq_true rfl⟩) rfl hl.1 rfl (Nat.le_of_ble_eq_true rfl) dX3_readTest_49 (fun w82 H locs hp81 hw => ?_)
            obtain ⟨hT, k83, hg86⟩ := hp81
            have hF := hF.tr k83 (by decide)
            have c87 := k83.gi kC_at1 (by decide) c78
            obtain ⟨x84, c85, rx84, tx84⟩ := hg86
            refine lv_goto (tgt := 80) hx hb dX3_readTest_52 (by decide) ?_
            exact J80 v9_2 x77 H locs ls w82 (show (-1) ≤ v9_2.toInt by omega) (show v9_2.toInt ≤ 21 by omega) (show 0 ≤ v9_3.toInt by omega) (show v9_3.toInt ≤ 399 by omega) (show 0 ≤ x77.toInt by omega) (show x77.toInt ≤ 3204 by omega)  hw hT hF c87 (lv_sub hl [0, 1, 2, 3] rfl)
        · have ex39 : x39.toInt = f9_1_4.toInt := by rw [← c42.symm.trans c40]
          refine lv_if_ne (tgt := 86) hx hb dX3_readTest_23 (by decide) (fun _ => ?_) (fun c => absurd c (by decide))
          exact J86 v9_2 v9_3 f9_1_4 H locs ls w35 (show (-1) ≤ v9_2.toInt by omega) (show v9_2.toInt ≤ 21 by omega) (show 0 ≤ v9_3.toInt by omega) (show v9_3.toInt ≤ 400 by omega) (show 0 ≤ f9_1_4.toInt by omega) (show f9_1_4.toInt ≤ 3204 by omega)  hw hT hF c42 (lv_sub hl [0, 1, 2, 3] rfl)
  refine lv_aload_n hx hb dX3_readTest_0 rfl (lv_at hl 0 rfl) ?_
  refine lv_iload_n hx hb dX3_readTest_1 rfl (lv_at hl 1 rfl) ?_
  refine tk_Vv hC hK hw hT hA hE hSR kC_at3 (by decide) rfl (k_X3_readFact_8 l adK adV dC dI cy ad B (by omega) (by omega) qr s1 hqr   w0 s.heap.size hT cf0_) (cwV 1 hC.2.2.2.2 gX3_readTest_X3_readFact rfl rfl rfl (by decide +kernel) ⟨Nat.le_of_ble_eq_true rfl, Nat.le_of_ble_eq_true rfl⟩) rfl hl.1 rfl (Nat.le_of_ble_eq_true rfl) dX3_readTest_2 (fun w90 H locs hp89 hw => ?_)
  obtain ⟨hT, k91, hg94⟩ := hp89
  have hF := hF.tr k91 (by decide)
  obtain ⟨x92, c93, rx92, tx92⟩ := hg94
  refine lv_iconst (v := (-1)) hx hb dX3_readTest_5 (by decide) ?_
  refine lv_istore_n (lv' := [(2, .int (-1)), (0, .ref (ad 3)), (1, .int 7)]) hx hb dX3_readTest_6 rfl hl (by decide) rfl (fun ls hl => ?_)
  refine lv_iconst (v := 0) hx hb dX3_readTest_7 (by decide) ?_
  refine lv_istore_n (lv' := [(3, .int 0), (2, .int (-1)), (0, .ref (ad 3)), (1, .int 7)]) hx hb dX3_readTest_8 rfl hl (by decide) rfl (fun ls hl => ?_)
  exact L9 ((400 - (0 : Int)).toNat + 1) (-1) 0 x92 H locs ls w90 (by decide) (by decide) (by decide) (by decide) (show 0 ≤ x92.toInt by omega) (show x92.toInt ≤ 3204 by omega) (Nat.lt_succ_self _) hw hT hF c93 (lv_sub hl [2, 3, 1, 0] rfl)
abbrev P_X3_readFact_7 (ad : Nat → Nat) (cy : Nat → ClassId) (B : Int) (qr : Nat) (s1 : Int)  (w0 : va_W) : va_W → Prop := fun u => TW ksC ad cy B qr s1 u ∧ FE ksC [(2, 3, 3), (3, 2, 2), (6, 1, 1), (6, 3, 3), (6, 4, 4), (22, 0, 13), (23, 0, 400)] w0 u ∧ (((∃ y : Int32, gi u 1 4 = y ∧ 0 ≤ y.toInt ∧ y.toInt ≤ 3204)))
set_option maxHeartbeats 4000000 in
set_option maxRecDepth 100000 in
theorem k_X3_readFact_7 (l : Launch) (adK adV : Nat → Nat) (dC : Nat → ClassId) (dI : Nat → Nat → Nat) (cy : Nat → ClassId) (ad : Nat → Nat) (B : Int) (hB0 : 2147483648 ≤ B) (hB1 : B ≤ 1152921504606846976) (qr : Nat) (s1 : Int) (hqr : ksC[qr]? = some 2)  (w0 : va_W) (sz : Nat) (hT : TW ksC ad cy B qr s1 w0) (cf0_ : gi w0 1 4 = 0) : Met l yX3_readFact wsX3_readFact ({ frames := 16, cells := 0, slots := 0, locals := 399 }) (va_Pc [.ref (ad 3), .int 6] (wpreS adK adV dC dI cy sz w0)) (va_Qv (P_X3_readFact_7 ad cy B qr s1  w0) (fun u : va_W => wpost dC dI cy (va_A w0 sz) u) (va_A w0 sz)) 0 0 (va_A w0 sz) := by
  refine Met.ofW (cc := cX3_readFact) (maxL := 5) (ret := none) (by decide) rfl ?_
  intro p e s m args below meth c s₁ Bk hml hv
  obtain ⟨rfl, ⟨hsz, hP, hK, hD0⟩, hE, hSR⟩ := hv
  have hx := Bk.exec
  have hb := Bk.bytes
  have hr := Bk.returns
  have hlocks := Bk.notSynchronized
  have hC : CallFix p m c cX3_readFact 5 s _ wsX3_readFact RX3 := ⟨hx, hb, hml, findClass_of_methodNamed Bk.named, atoms_spec (ws := wsX3_readFact) Bk.pre⟩
  subst hsz
  have hD := hD0.self (sz := s.heap.size)
  generalize hAe : va_A w0 s.heap.size = A at hD hE ⊢
  have hA : ∀ q : Nat, s.heap.size ≤ q → A q := fun q h => by rw [← hAe]; exact Or.inr h
  have hw : Wd dC dI A s.heap s.heap [] w0 := ⟨hP, hD, va_S.rf⟩
  have hF : FE ksC [(2, 3, 3), (3, 2, 2), (6, 1, 1), (6, 3, 3), (6, 4, 4), (22, 0, 13), (23, 0, 400)] w0 w0 := FE.rf
  have hl := lv_entry ([.ref (ad 3), .int 6]) (n := 5) (Nat.le_of_ble_eq_true rfl)
  rw [lg_entry_eq]
  generalize (lg_sl ([.ref (ad 3), .int 6]) ++ List.replicate (5 - (lg_sl ([.ref (ad 3), .int 6])).length) Slot.unset).toArray = ls at hl ⊢
  have hl : lv_has ls 5 [(0, .ref (ad 3)), (1, .int 6)] := hl
  generalize hloc : ([] : List Loc) = locs at hw ⊢
  have hinX3 : ∀ w ∈ u_ws RX3 TX3 3, w ∈ wsX3_readFact := fun _ h => List.mem_cons_of_mem _ (List.mem_append_left _ (List.mem_append_left _ (List.mem_append_right _ (h))))
  have J160 : ∀ (v160_2 : Int32) (v160_3 : Int32) (f160_1_4 : Int32) (H : Heap) (locs : List Loc) (ls : Array Slot) (w1 : va_W), 0 ≤ v160_2.toInt → v160_2.toInt ≤ 1 → 0 ≤ v160_3.toInt → v160_3.toInt ≤ 1 → 0 ≤ f160_1_4.toInt → f160_1_4.toInt ≤ 3204 → Wd dC dI A s.heap H locs w1 → TW ksC ad cy B qr s1 w1 → FE ksC [(2, 3, 3), (3, 2, 2), (6, 1, 1), (6, 3, 3), (6, 4, 4), (22, 0, 13), (23, 0, 400)] w0 w1 → gi w1 1 4 = f160_1_4 → lv_has ls 5 [(0, .ref (ad 3)), (1, .int 6), (2, .int v160_2), (3, .int v160_3)] → W p l e ({ frames := 16, cells := 0, slots := 0, locals := 399 }) s m (List.toArray [.ref (ad 3), .int 6]) below meth c H locs 0 0 (MQ below (va_Qv (P_X3_readFact_7 ad cy B qr s1  w0) (fun u : va_W => wpost dC dI cy A u) A) (List.toArray [.ref (ad 3), .int 6]) s 0 0 A) (F0 m 160 ls []) := by
    intro v160_2 v160_3 f160_1_4 H locs ls w1 r2 t3 r4 t5 r6 t7 hw hT hF c8 hl
    exact tk_vret hC hr hlocks hK ⟨hT, hF, ⟨f160_1_4, c8, (show 0 ≤ f160_1_4.toInt by omega), (show f160_1_4.toInt ≤ 3204 by omega)⟩⟩ hw dX3_readFact_160
  have J77 : ∀ (v77_2 : Int32) (v77_3 : Int32) (H : Heap) (locs : List Loc) (ls : Array Slot) (w9 : va_W), 0 ≤ v77_2.toInt → v77_2.toInt ≤ 1 → 0 ≤ v77_3.toInt → v77_3.toInt ≤ 1 → Wd dC dI A s.heap H locs w9 → TW ksC ad cy B qr s1 w9 → FE ksC [(2, 3, 3), (3, 2, 2), (6, 1, 1), (6, 3, 3), (6, 4, 4), (22, 0, 13), (23, 0, 400)] w0 w9 → gi w9 1 4 = 0 → lv_has ls 5 [(0, .ref (ad 3)), (1, .int 6), (2, .int v77_2), (3, .int v77_3)] → W p l e ({ frames := 16, cells := 0, slots := 0, locals := 399 }) s m (List.toArray [.ref (ad 3), .int 6]) below meth c H locs 0 0 (MQ below (va_Qv (P_X3_readFact_7 ad cy B qr s1  w0) (fun u : va_W => wpost dC dI cy A u) A) (List.toArray [.ref (ad 3), .int 6]) s 0 0 A) (F0 m 77 ls []) := by
    intro v77_2 v77_3 H locs ls w9 r10 t11 r12 t13 hw hT hF c14 hl
    refine lv_iload_n hx hb dX3_readFact_77 rfl (lv_at hl 1 rfl) ?_
    refine lv_bipush (v := 10) hx hb dX3_readFact_78 (by decide) ?_
    refine lv_icmp_lt (tgt := 101) hx hb dX3_readFact_80 (by decide) (fun _ => ?_) (fun c => absurd (by decide) c)
    refine lv_iload_n hx hb dX3_readFact_101 rfl (lv_at hl 2 rfl) ?_
    refine lv_if_eq (tgt := 124) hx hb dX3_readFact_102 (by decide) (fun c15 => ?_) (fun c15 => ?_)
    · have c15 : v77_2.toInt = (0 : Int) := wk_eq.mp c15
      refine lv_aload_n hx hb dX3_readFact_124 rfl (lv_at hl 0 rfl) ?_
      refine lv_iload_n hx hb dX3_readFact_125 rfl (lv_at hl 1 rfl) ?_
      refine lv_iconst (v := 1) hx hb dX3_readFact_126 (by decide) ?_
      refine lv_iadd hx hb dX3_readFact_127 ?_
      refine wk_top 7 (by decide) ?_
      refine tk_Vv hC hK hw hT hA hE hSR kC_at3 (by decide) rfl (k_X3_readTest_8 l adK adV dC dI cy ad B (by omega) (by omega) qr s1 hqr   w9 H.size hT c14) (cwV 1 hC.2.2.2.2 gX3_readFact_X3_readTest rfl rfl rfl (by decide +kernel) ⟨Nat.le_of_ble_eq_true rfl, Nat.le_of_ble_eq_true rfl⟩) rfl hl.1 rfl (Nat.le_of_ble_eq_true rfl) dX3_readFact_128 (fun w18 H locs hp17 hw => ?_)
      obtain ⟨hT, k19, hg22⟩ := hp17
      have hF := hF.tr k19 (by decide)
      obtain ⟨x20, c21, rx20, tx20⟩ := hg22
      refine lv_aload_n hx hb dX3_readFact_131 rfl (lv_at hl 0 rfl) ?_
      refine tk_getA hC hK hw hT hinX3 kC_at3 (by decide) rfl 0 (by decide) (List.mem_of_getElem? (i := 1) rfl) rfl rfl dX3_readFact_132 ?_
      refine tk_Vi hC hK hw hT hA hE hSR kC_at1 (by decide) rfl (k_X6_isFaulty_2 l adK adV dC dI cy ad B (by omega) (by omega) qr s1    w18 H.size hT x20 c21 (show 0 ≤ x20.toInt by omega) (show x20.toInt ≤ 3204 by omega)) (cwV 0 hC.2.2.2.2 gX3_readFact_X6_isFaulty rfl rfl rfl (by decide +kernel) ⟨Nat.le_of_ble_eq_true rfl, Nat.le_of_ble_eq_true rfl⟩) rfl hl.1 rfl (Nat.le_of_ble_eq_true rfl) dX3_readFact_135 (fun r23 w25 H locs hp24 hw => ?_)
      obtain ⟨hT, k26, hg31⟩ := hp24
      have hF := hF.tr k26 (by decide)
      have c32 := k26.gi kC_at1 (by decide) c21
      rcases hg31 with ⟨rfl, ⟨x27, c28, rx27, tx27⟩⟩ | ⟨rfl, ⟨x29, c30, rx29, tx29⟩⟩
      · have ex27 : x27.toInt = x20.toInt := by rw [← c32.symm.trans c28]
        refine lv_if_ne (tgt := 160) hx hb dX3_readFact_138 (by decide) (fun c => absurd (by decide) c) (fun _ => ?_)
        refine lv_aload_n hx hb dX3_readFact_141 rfl (lv_at hl 0 rfl) ?_
        refine tk_getA hC hK hw hT hinX3 kC_at3 (by decide) rfl 0 (by decide) (List.mem_of_getElem? (i := 1) rfl) rfl rfl dX3_readFact_142 ?_
        refine lv_bipush (v := 93) hx hb dX3_readFact_145 (by decide) ?_
        refine tk_Vi hC hK hw hT hA hE hSR kC_at1 (by decide) rfl (k_X6_takeByte_3 l adK adV dC dI cy ad B (by omega) (by omega) qr s1    w25 H.size hT ) (cwV 1 hC.2.2.2.2 gX3_readFact_X6_takeByte rfl rfl rfl (by decide +kernel) ⟨Nat.le_of_ble_eq_true rfl, Nat.le_of_ble_eq_true rfl⟩) rfl hl.1 rfl (Nat.le_of_ble_eq_true rfl) dX3_readFact_147 (fun r33 w35 H locs hp34 hw => ?_)
        obtain ⟨hT, k36, hg41⟩ := hp34
        have hF := hF.tr k36 (by decide)
        have c42 := k36.gi kC_at1 (by decide) c32
        rcases hg41 with rfl | ⟨rfl, ⟨x37, c38, rx37, tx37⟩, ⟨x39, c40, rx39, tx39⟩⟩
        · refine lv_if_ne (tgt := 160) hx hb dX3_readFact_150 (by decide) (fun c => absurd (by decide) c) (fun _ => ?_)
          refine lv_aload_n hx hb dX3_readFact_153 rfl (lv_at hl 0 rfl) ?_
          refine tk_getA hC hK hw hT hinX3 kC_at3 (by decide) rfl 0 (by decide) (List.mem_of_getElem? (i := 1) rfl) rfl rfl dX3_readFact_154 ?_
          refine tk_Vv hC hK hw hT hA hE hSR kC_at1 (by decide) rfl (k_X6_blameHere_1 l adK adV dC dI cy ad B (by omega) (by omega) qr s1    w35 H.size hT (c42.trans (wk_eq.mpr (show x20.toInt = 0 by omega)))) (cwV 0 hC.2.2.2.2 gX3_readFact_X6_blameHere rfl rfl rfl (by decide +kernel) ⟨Nat.le_of_ble_eq_true rfl, Nat.le_of_ble_eq_true rfl⟩) rfl hl.1 rfl (Nat.le_of_ble_eq_true rfl) dX3_readFact_157 (fun w45 H locs hp44 hw => ?_)
          obtain ⟨hT, k46, hg49⟩ := hp44
          have hF := hF.tr k46 (by decide)
          obtain ⟨x47, c48, rx47, tx47⟩ := hg49
          exact J160 v77_2 v77_3 x47 H locs ls w45 (show 0 ≤ v77_2.toInt by omega) (show v77_2.toInt ≤ 1 by omega) (show 0 ≤ v77_3.toInt by omega) (show v77_3.toInt ≤ 1 by omega) (show 0 ≤ x47.toInt by omega) (show x47.toInt ≤ 3204 by omega)  hw hT hF c48 (lv_sub hl [0, 1, 2, 3] rfl)
        · refine lv_if_ne (tgt := 160) hx hb dX3_readFact_150 (by decide) (fun _ => ?_) (fun c => absurd c (by decide))
          exact J160 v77_2 v77_3 x20 H locs ls w35 (show 0 ≤ v77_2.toInt by omega) (show v77_2.toInt ≤ 1 by omega) (show 0 ≤ v77_3.toInt by omega) (show v77_3.toInt ≤ 1 by omega) (show 0 ≤ x20.toInt by omega) (show x20.toInt ≤ 3204 by omega)  hw hT hF c42 (lv_sub hl [0, 1, 2, 3] rfl)
      · have ex29 : x29.toInt = x20.toInt := by rw [← c32.symm.trans c30]
        refine lv_if_ne (tgt := 160) hx hb dX3_readFact_138 (by decide) (fun _ => ?_) (fun c => absurd c (by decide))
        exact J160 v77_2 v77_3 x20 H locs ls w25 (show 0 ≤ v77_2.toInt by omega) (show v77_2.toInt ≤ 1 by omega) (show 0 ≤ v77_3.toInt by omega) (show v77_3.toInt ≤ 1 by omega) (show 0 ≤ x20.toInt by omega) (show x20.toInt ≤ 3204 by omega)  hw hT hF c32 (lv_sub hl [0, 1, 2, 3] rfl)
    · have c15 : ¬ v77_2.toInt = (0 : Int) := wk_eqF c15
      refine lv_aload_n hx hb dX3_readFact_105 rfl (lv_at hl 0 rfl) ?_
      refine lv_iload_n hx hb dX3_readFact_106 rfl (lv_at hl 1 rfl) ?_
      refine lv_iconst (v := 1) hx hb dX3_readFact_107 (by decide) ?_
      refine lv_iadd hx hb dX3_readFact_108 ?_
      refine wk_top 7 (by decide) ?_
      refine tk_Vv hC hK hw hT hA hE hSR kC_at3 (by decide) rfl (k_X3_readFact_8 l adK adV dC dI cy ad B (by omega) (by omega) qr s1 hqr   w9 H.size hT c14) (cwV 1 hC.2.2.2.2 gX3_readFact_X3_readFact rfl rfl rfl (by decide +kernel) ⟨Nat.le_of_ble_eq_true rfl, Nat.le_of_ble_eq_true rfl⟩) rfl hl.1 rfl (Nat.le_of_ble_eq_true rfl) dX3_readFact_109 (fun w52 H locs hp51 hw => ?_)
      obtain ⟨hT, k53, hg56⟩ := hp51
      have hF := hF.tr k53 (by decide)
      obtain ⟨x54, c55, rx54, tx54⟩ := hg56
      refine lv_aload_n hx hb dX3_readFact_112 rfl (lv_at hl 0 rfl) ?_
      refine tk_getQ hC hK hw hT hqr (by decide) hinX3 kC_at3 (by decide) rfl 1 (by decide) (List.mem_of_getElem? (i := 2) rfl) rfl rfl dX3_readFact_113 ?_
      refine lv_bipush (v := 19) hx hb dX3_readFact_116 (by decide) ?_
      refine tk_Vv hC hK hw hT hA hE hSR hqr (by decide) rfl (k_X2_addToken_11 l adK adV dC dI cy ad B (by omega) (by omega) qr s1   qr hqr w52 H.size hT ) (cwV 1 hC.2.2.2.2 gX3_readFact_X2_addToken rfl rfl rfl (by decide +kernel) ⟨Nat.le_of_ble_eq_true rfl, Nat.le_of_ble_eq_true rfl⟩) rfl hl.1 rfl (Nat.le_of_ble_eq_true rfl) dX3_readFact_118 (fun w59 H locs hp58 hw => ?_)
      obtain ⟨hT, k60, hg63⟩ := hp58
      have hF := hF.tr k60 (by decide)
      have c64 := k60.gi kC_at1 (by decide) c55
      obtain ⟨x61, c62, rx61, tx61⟩ := hg63
      refine lv_goto (tgt := 160) hx hb dX3_readFact_121 (by decide) ?_
      exact J160 v77_2 v77_3 x54 H locs ls w59 (show 0 ≤ v77_2.toInt by omega) (show v77_2.toInt ≤ 1 by omega) (show 0 ≤ v77_3.toInt by omega) (show v77_3.toInt ≤ 1 by omega) (show 0 ≤ x54.toInt by omega) (show x54.toInt ≤ 3204 by omega)  hw hT hF c64 (lv_sub hl [0, 1, 2, 3] rfl)
  have J41 : ∀ (v41_2 : Int32) (H : Heap) (locs : List Loc) (ls : Array Slot) (w65 : va_W), 0 ≤ v41_2.toInt → v41_2.toInt ≤ 1 → Wd dC dI A s.heap H locs w65 → TW ksC ad cy B qr s1 w65 → FE ksC [(2, 3, 3), (3, 2, 2), (6, 1, 1), (6, 3, 3), (6, 4, 4), (22, 0, 13), (23, 0, 400)] w0 w65 → gi w65 1 4 = 0 → lv_has ls 5 [(0, .ref (ad 3)), (1, .int 6), (2, .int v41_2)] → W p l e ({ frames := 16, cells := 0, slots := 0, locals := 399 }) s m (List.toArray [.ref (ad 3), .int 6]) below meth c H locs 0 0 (MQ below (va_Qv (P_X3_readFact_7 ad cy B qr s1  w0) (fun u : va_W => wpost dC dI cy A u) A) (List.toArray [.ref (ad 3), .int 6]) s 0 0 A) (F0 m 41 ls []) := by
    intro v41_2 H locs ls w65 r66 t67 hw hT hF c68 hl
    refine lv_iconst (v := 0) hx hb dX3_readFact_41 (by decide) ?_
    refine lv_istore_n (lv' := [(3, .int 0), (0, .ref (ad 3)), (1, .int 6), (2, .int v41_2)]) hx hb dX3_readFact_42 rfl hl (by decide) rfl (fun ls hl => ?_)
    refine lv_iload_n hx hb dX3_readFact_43 rfl (lv_at hl 3 rfl) ?_
    refine lv_if_ne (tgt := 77) hx hb dX3_readFact_44 (by decide) (fun c69 => ?_) (fun c69 => ?_)
    · have c69 : ¬ v41_2.toInt = (0 : Int) := wk_eqF c69
      exact J77 v41_2 0 H locs ls w65 (show 0 ≤ v41_2.toInt by omega) (show v41_2.toInt ≤ 1 by omega) (by decide) (by decide)  hw hT hF c68 (lv_sub hl [1, 2, 3, 0] rfl)
    · have c69 : v41_2.toInt = (0 : Int) := wk_eq.mp c69
      refine lv_iload_n hx hb dX3_readFact_47 rfl (lv_at hl 0 rfl) ?_
      refine lv_if_ne (tgt := 77) hx hb dX3_readFact_48 (by decide) (fun c => absurd (by decide) c) (fun _ => ?_)
      refine lv_aload_n hx hb dX3_readFact_51 rfl (lv_at hl 1 rfl) ?_
      refine tk_Vv hC hK hw hT hA hE hSR kC_at3 (by decide) rfl (k_X3_readSum_1 l adK adV dC dI cy ad B (by omega) (by omega) qr s1 hqr   w65 H.size hT c68) (cwV 0 hC.2.2.2.2 gX3_readFact_X3_readSum rfl rfl rfl (by decide +kernel) ⟨Nat.le_of_ble_eq_true rfl, Nat.le_of_ble_eq_true rfl⟩) rfl hl.1 rfl (Nat.le_of_ble_eq_true rfl) dX3_readFact_52 (fun w72 H locs hp71 hw => ?_)
      obtain ⟨hT, k73, hg76⟩ := hp71
      have hF := hF.tr k73 (by decide)
      obtain ⟨x74, c75, rx74, tx74⟩ := hg76
      refine lv_aload_n hx hb dX3_readFact_55 rfl (lv_at hl 1 rfl) ?_
      refine tk_Vi hC hK hw hT hA hE hSR kC_at3 (by decide) rfl (k_X3_readSign_1 l adK adV dC dI cy ad B (by omega) (by omega) qr s1    w72 H.size hT x74 c75 (show 0 ≤ x74.toInt by omega) (show x74.toInt ≤ 3204 by omega)) (cwV 0 hC.2.2.2.2 gX3_readFact_X3_readSign rfl rfl rfl (by decide +kernel) ⟨Nat.le_of_ble_eq_true rfl, Nat.le_of_ble_eq_true rfl⟩) rfl hl.1 rfl (Nat.le_of_ble_eq_true rfl) dX3_readFact_56 (fun r77 w79 H locs hp78 hw => ?_)
      obtain ⟨hT, k80, hg91⟩ := hp78
      have hF := hF.tr k80 (by decide)
      rcases hg91 with ⟨rfl, ⟨x81, c82, rx81, tx81⟩⟩ | ⟨g83, g84, ⟨x85, c86, rx85, tx85⟩, ⟨x87, c88, rx87, tx87⟩, ⟨x89, c90, rx89, tx89⟩⟩
      · refine lv_istore (lv' := [(4, .int 16), (3, .int 0), (0, .ref (ad 3)), (1, .int 6), (2, .int v41_2)]) hx hb dX3_readFact_59 hl (by decide) rfl (fun ls hl => ?_)
        refine lv_aload_n hx hb dX3_readFact_61 rfl (lv_at hl 2 rfl) ?_
        refine tk_Vv hC hK hw hT hA hE hSR kC_at3 (by decide) rfl (k_X3_readSum_2 l adK adV dC dI cy ad B (by omega) (by omega) qr s1 hqr   w79 H.size hT x81 c82 (show 1 ≤ x81.toInt by omega) (show x81.toInt ≤ 3204 by omega)) (cwV 0 hC.2.2.2.2 gX3_readFact_X3_readSum rfl rfl rfl (by decide +kernel) ⟨Nat.le_of_ble_eq_true rfl, Nat.le_of_ble_eq_true rfl⟩) rfl hl.1 rfl (Nat.le_of_ble_eq_true rfl) dX3_readFact_62 (fun w94 H locs hp93 hw => ?_)
        obtain ⟨hT, k95, hg98⟩ := hp93
        have hF := hF.tr k95 (by decide)
        have c99 := k95.gi kC_at1 (by decide) c82
        obtain ⟨x96, c97, rx96, tx96⟩ := hg98
        have ex96 : x96.toInt = x81.toInt := by rw [← c99.symm.trans c97]
        refine lv_aload_n hx hb dX3_readFact_65 rfl (lv_at hl 2 rfl) ?_
        refine tk_getQ hC hK hw hT hqr (by decide) hinX3 kC_at3 (by decide) rfl 1 (by decide) (List.mem_of_getElem? (i := 2) rfl) rfl rfl dX3_readFact_66 ?_
        refine lv_iload hx hb dX3_readFact_69 (lv_at hl 0 rfl) ?_
        refine tk_Vv hC hK hw hT hA hE hSR hqr (by decide) rfl (k_X2_addToken_8 l adK adV dC dI cy ad B (by omega) (by omega) qr s1   qr hqr w94 H.size hT ) (cwV 1 hC.2.2.2.2 gX3_readFact_X2_addToken rfl rfl rfl (by decide +kernel) ⟨Nat.le_of_ble_eq_true rfl, Nat.le_of_ble_eq_true rfl⟩) rfl hl.1 rfl (Nat.le_of_ble_eq_true rfl) dX3_readFact_71 (fun w102 H locs hp101 hw => ?_)
        obtain ⟨hT, k103, hg106⟩ := hp101
        have hF := hF.tr k103 (by decide)
        have c107 := k103.gi kC_at1 (by decide) c99
        obtain ⟨x104, c105, rx104, tx104⟩ := hg106
        refine lv_goto (tgt := 160) hx hb dX3_readFact_74 (by decide) ?_
        exact J160 v41_2 0 x81 H locs ls w102 (show 0 ≤ v41_2.toInt by omega) (show v41_2.toInt ≤ 1 by omega) (by decide) (by decide) (show 0 ≤ x81.toInt by omega) (show x81.toInt ≤ 3204 by omega)  hw hT hF c107 (lv_sub hl [2, 3, 4, 1] rfl)
      · refine lv_istore (lv' := [(4, .int r77), (3, .int 0), (0, .ref (ad 3)), (1, .int 6), (2, .int v41_2)]) hx hb dX3_readFact_59 hl (by decide) rfl (fun ls hl => ?_)
        refine lv_aload_n hx hb dX3_readFact_61 rfl (lv_at hl 2 rfl) ?_
        refine tk_Vv hC hK hw hT hA hE hSR kC_at3 (by decide) rfl (k_X3_readSum_3 l adK adV dC dI cy ad B (by omega) (by omega) qr s1 hqr   w79 H.size hT x89 c90 (show 0 ≤ x89.toInt by omega) (show x89.toInt ≤ 3204 by omega)) (cwV 0 hC.2.2.2.2 gX3_readFact_X3_readSum rfl rfl rfl (by decide +kernel) ⟨Nat.le_of_ble_eq_true rfl, Nat.le_of_ble_eq_true rfl⟩) rfl hl.1 rfl (Nat.le_of_ble_eq_true rfl) dX3_readFact_62 (fun w110 H locs hp109 hw => ?_)
        obtain ⟨hT, k111, hg114⟩ := hp109
        have hF := hF.tr k111 (by decide)
        have c115 := k111.gi kC_at1 (by decide) c86
        obtain ⟨x112, c113, rx112, tx112⟩ := hg114
        refine lv_aload_n hx hb dX3_readFact_65 rfl (lv_at hl 2 rfl) ?_
        refine tk_getQ hC hK hw hT hqr (by decide) hinX3 kC_at3 (by decide) rfl 1 (by decide) (List.mem_of_getElem? (i := 2) rfl) rfl rfl dX3_readFact_66 ?_
        refine lv_iload hx hb dX3_readFact_69 (lv_at hl 0 rfl) ?_
        refine tk_Vv hC hK hw hT hA hE hSR hqr (by decide) rfl (k_X2_addToken_9 l adK adV dC dI cy ad B (by omega) (by omega) qr s1   qr hqr r77 (show 14 ≤ r77.toInt by omega) (show r77.toInt ≤ 18 by omega) w110 H.size hT ) (cwV 1 hC.2.2.2.2 gX3_readFact_X2_addToken rfl rfl rfl (by decide +kernel) ⟨Nat.le_of_ble_eq_true rfl, Nat.le_of_ble_eq_true rfl⟩) rfl hl.1 rfl (Nat.le_of_ble_eq_true rfl) dX3_readFact_71 (fun w118 H locs hp117 hw => ?_)
        obtain ⟨hT, k119, hg122⟩ := hp117
        have hF := hF.tr k119 (by decide)
        have c123 := k119.gi kC_at1 (by decide) c115
        have c124 := k119.gi kC_at1 (by decide) c113
        obtain ⟨x120, c121, rx120, tx120⟩ := hg122
        refine lv_goto (tgt := 160) hx hb dX3_readFact_74 (by decide) ?_
        exact J160 v41_2 0 x112 H locs ls w118 (show 0 ≤ v41_2.toInt by omega) (show v41_2.toInt ≤ 1 by omega) (by decide) (by decide) (show 0 ≤ x112.toInt by omega) (show x112.toInt ≤ 3204 by omega)  hw hT hF c124 (lv_sub hl [2, 3, 4, 1] rfl)
  refine lv_aload_n hx hb dX3_readFact_0 rfl (lv_at hl 0 rfl) ?_
  refine tk_getA hC hK hw hT hinX3 kC_at3 (by decide) rfl 0 (by decide) (List.mem_of_getElem? (i := 1) rfl) rfl rfl dX3_readFact_1 ?_
  refine tk_Vi hC hK hw hT hA hE hSR kC_at1 (by decide) rfl (k_X6_isFaulty_3 l adK adV dC dI cy ad B (by omega) (by omega) qr s1    w0 s.heap.size hT cf0_) (cwV 0 hC.2.2.2.2 gX3_readFact_X6_isFaulty rfl rfl rfl (by decide +kernel) ⟨Nat.le_of_ble_eq_true rfl, Nat.le_of_ble_eq_true rfl⟩) rfl hl.1 rfl (Nat.le_of_ble_eq_true rfl) dX3_readFact_4 (fun r125 w127 H locs hp126 hw => ?_)
  obtain ⟨hT, k128, hg131⟩ := hp126
  have hF := hF.tr k128 (by decide)
  have c132 := k128.gi kC_at1 (by decide) cf0_
  obtain ⟨rfl, ⟨x129, c130, rx129, tx129⟩⟩ := hg131
  have ex129 : x129.toInt = (0 : Int) := by rw [show x129 = 0 from c130.symm.trans c132]; decide
  refine lv_if_eq (tgt := 11) hx hb dX3_readFact_7 (by decide) (fun _ => ?_) (fun c => absurd (by decide) c)
  refine lv_aload_n hx hb dX3_readFact_11 rfl (lv_at hl 0 rfl) ?_
  refine tk_getA hC hK hw hT hinX3 kC_at3 (by decide) rfl 0 (by decide) (List.mem_of_getElem? (i := 1) rfl) rfl rfl dX3_readFact_12 ?_
  refine va_ldcS hx hb hC.2.2.2.1 hSR.2.2.2.2.1 dX3_readFact_15 ?_
  refine tk_Vi hC hK hw hT hA hE hSR kC_at1 (by decide) rfl (k_X6_takeWord_4 l adK adV dC dI cy ad B (by omega) (by omega) qr s1    w127 H.size hT ) (cwV 1 hC.2.2.2.2 gX3_readFact_X6_takeWord rfl rfl rfl (by decide +kernel) ⟨Nat.le_of_ble_eq_true rfl, Nat.le_of_ble_eq_true rfl⟩) rfl hl.1 rfl (Nat.le_of_ble_eq_true rfl) dX3_readFact_17 (fun r133 w135 H locs hp134 hw => ?_)
  obtain ⟨hT, k136, hg139⟩ := hp134
  have hF := hF.tr k136 (by decide)
  have c140 := k136.gi kC_at1 (by decide) c132
  rcases hg139 with rfl | ⟨rfl, ⟨x137, c138, rx137, tx137⟩⟩
  · refine lv_istore_n (lv' := [(2, .int 0), (0, .ref (ad 3)), (1, .int 6)]) hx hb dX3_readFact_20 rfl hl (by decide) rfl (fun ls hl => ?_)
    refine lv_iload_n hx hb dX3_readFact_21 rfl (lv_at hl 0 rfl) ?_
    refine lv_if_ne (tgt := 41) hx hb dX3_readFact_22 (by decide) (fun c => absurd (by decide) c) (fun _ => ?_)
    refine lv_aload_n hx hb dX3_readFact_25 rfl (lv_at hl 1 rfl) ?_
    refine tk_getA hC hK hw hT hinX3 kC_at3 (by decide) rfl 0 (by decide) (List.mem_of_getElem? (i := 1) rfl) rfl rfl dX3_readFact_26 ?_
    refine lv_bipush (v := 91) hx hb dX3_readFact_29 (by decide) ?_
    refine tk_Vi hC hK hw hT hA hE hSR kC_at1 (by decide) rfl (k_X6_takeByte_2 l adK adV dC dI cy ad B (by omega) (by omega) qr s1    w135 H.size hT ) (cwV 1 hC.2.2.2.2 gX3_readFact_X6_takeByte rfl rfl rfl (by decide +kernel) ⟨Nat.le_of_ble_eq_true rfl, Nat.le_of_ble_eq_true rfl⟩) rfl hl.1 rfl (Nat.le_of_ble_eq_true rfl) dX3_readFact_31 (fun r141 w143 H locs hp142 hw => ?_)
    obtain ⟨hT, k144, hg149⟩ := hp142
    have hF := hF.tr k144 (by decide)
    have c150 := k144.gi kC_at1 (by decide) c140
    rcases hg149 with rfl | ⟨rfl, ⟨x145, c146, rx145, tx145⟩, ⟨x147, c148, rx147, tx147⟩⟩
    · refine lv_if_eq (tgt := 41) hx hb dX3_readFact_34 (by decide) (fun _ => ?_) (fun c => absurd (by decide) c)
      exact J41 0 H locs ls w143 (by decide) (by decide)  hw hT hF c150 (lv_sub hl [1, 2, 0] rfl)
    · refine lv_if_eq (tgt := 41) hx hb dX3_readFact_34 (by decide) (fun c => absurd c (by decide)) (fun _ => ?_)
      refine lv_iconst (v := 1) hx hb dX3_readFact_37 (by decide) ?_
      refine lv_goto (tgt := 42) hx hb dX3_readFact_38 (by decide) ?_
      refine lv_istore_n (lv' := [(3, .int 1), (2, .int 0), (0, .ref (ad 3)), (1, .int 6)]) hx hb dX3_readFact_42 rfl hl (by decide) rfl (fun ls hl => ?_)
      refine lv_iload_n hx hb dX3_readFact_43 rfl (lv_at hl 1 rfl) ?_
      refine lv_if_ne (tgt := 77) hx hb dX3_readFact_44 (by decide) (fun c => absurd (by decide) c) (fun _ => ?_)
      refine lv_iload_n hx hb dX3_readFact_47 rfl (lv_at hl 0 rfl) ?_
      refine lv_if_ne (tgt := 77) hx hb dX3_readFact_48 (by decide) (fun _ => ?_) (fun c => absurd c (by decide))
      exact J77 0 1 H locs ls w143 (by decide) (by decide) (by decide) (by decide)  hw hT hF c150 (lv_sub hl [2, 3, 1, 0] rfl)
  · refine lv_istore_n (lv' := [(2, .int 1), (0, .ref (ad 3)), (1, .int 6)]) hx hb dX3_readFact_20 rfl hl (by decide) rfl (fun ls hl => ?_)
    refine lv_iload_n hx hb dX3_readFact_21 rfl (lv_at hl 0 rfl) ?_
    refine lv_if_ne (tgt := 41) hx hb dX3_readFact_22 (by decide) (fun _ => ?_) (fun c => absurd c (by decide))
    exact J41 1 H locs ls w135 (by decide) (by decide)  hw hT hF c140 (lv_sub hl [1, 2, 0] rfl)
abbrev P_X3_readTest_7 (ad : Nat → Nat) (cy : Nat → ClassId) (B : Int) (qr : Nat) (s1 : Int)  (w0 : va_W) : va_W → Prop := fun u => TW ksC ad cy B qr s1 u ∧ FE ksC [(2, 3, 3), (3, 2, 2), (6, 1, 1), (6, 3, 3), (6, 4, 4), (22, 0, 13), (23, 0, 400)] w0 u ∧ (((∃ y : Int32, gi u 1 4 = y ∧ 0 ≤ y.toInt ∧ y.toInt ≤ 3204)))
set_option maxHeartbeats 4000000 in
set_option maxRecDepth 100000 in
theorem k_X3_readTest_7 (l : Launch) (adK adV : Nat → Nat) (dC : Nat → ClassId) (dI : Nat → Nat → Nat) (cy : Nat → ClassId) (ad : Nat → Nat) (B : Int) (hB0 : 2147483648 ≤ B) (hB1 : B ≤ 1152921504606846976) (qr : Nat) (s1 : Int) (hqr : ksC[qr]? = some 2)  (w0 : va_W) (sz : Nat) (hT : TW ksC ad cy B qr s1 w0) (cf0_ : gi w0 1 4 = 0) : Met l yX3_readTest wsX3_readTest ({ frames := 17, cells := 0, slots := 0, locals := 423 }) (va_Pc [.ref (ad 3), .int 6] (wpreS adK adV dC dI cy sz w0)) (va_Qv (P_X3_readTest_7 ad cy B qr s1  w0) (fun u : va_W => wpost dC dI cy (va_A w0 sz) u) (va_A w0 sz)) 0 0 (va_A w0 sz) := by
  refine Met.ofW (cc := cX3_readTest) (maxL := 4) (ret := none) (by decide) rfl ?_
  intro p e s m args below meth c s₁ Bk hml hv
  obtain ⟨rfl, ⟨hsz, hP, hK, hD0⟩, hE, hSR⟩ := hv
  have hx := Bk.exec
  have hb := Bk.bytes
  have hr := Bk.returns
  have hlocks := Bk.notSynchronized
  have hC : CallFix p m c cX3_readTest 4 s _ wsX3_readTest RX3 := ⟨hx, hb, hml, findClass_of_methodNamed Bk.named, atoms_spec (ws := wsX3_readTest) Bk.pre⟩
  subst hsz
  have hD := hD0.self (sz := s.heap.size)
  generalize hAe : va_A w0 s.heap.size = A at hD hE ⊢
  have hA : ∀ q : Nat, s.heap.size ≤ q → A q := fun q h => by rw [← hAe]; exact Or.inr h
  have hw : Wd dC dI A s.heap s.heap [] w0 := ⟨hP, hD, va_S.rf⟩
  have hF : FE ksC [(2, 3, 3), (3, 2, 2), (6, 1, 1), (6, 3, 3), (6, 4, 4), (22, 0, 13), (23, 0, 400)] w0 w0 := FE.rf
  have hl := lv_entry ([.ref (ad 3), .int 6]) (n := 4) (Nat.le_of_ble_eq_true rfl)
  rw [lg_entry_eq]
  generalize (lg_sl ([.ref (ad 3), .int 6]) ++ List.replicate (4 - (lg_sl ([.ref (ad 3), .int 6])).length) Slot.unset).toArray = ls at hl ⊢
  have hl : lv_has ls 4 [(0, .ref (ad 3)), (1, .int 6)] := hl
  generalize hloc : ([] : List Loc) = locs at hw ⊢
  have hinX3 : ∀ w ∈ u_ws RX3 TX3 3, w ∈ wsX3_readTest := fun _ h => List.mem_cons_of_mem _ (List.mem_append_left _ (List.mem_append_left _ (List.mem_append_right _ (h))))
  have J86 : ∀ (v86_2 : Int32) (v86_3 : Int32) (f86_1_4 : Int32) (H : Heap) (locs : List Loc) (ls : Array Slot) (w1 : va_W), (-1) ≤ v86_2.toInt → v86_2.toInt ≤ 21 → 0 ≤ v86_3.toInt → v86_3.toInt ≤ 400 → 0 ≤ f86_1_4.toInt → f86_1_4.toInt ≤ 3204 → Wd dC dI A s.heap H locs w1 → TW ksC ad cy B qr s1 w1 → FE ksC [(2, 3, 3), (3, 2, 2), (6, 1, 1), (6, 3, 3), (6, 4, 4), (22, 0, 13), (23, 0, 400)] w0 w1 → gi w1 1 4 = f86_1_4 → lv_has ls 4 [(0, .ref (ad 3)), (1, .int 6), (2, .int v86_2), (3, .int v86_3)] → W p l e ({ frames := 17, cells := 0, slots := 0, locals := 423 }) s m (List.toArray [.ref (ad 3), .int 6]) below meth c H locs 0 0 (MQ below (va_Qv (P_X3_readTest_7 ad cy B qr s1  w0) (fun u : va_W => wpost dC dI cy A u) A) (List.toArray [.ref (ad 3), .int 6]) s 0 0 A) (F0 m 86 ls []) := by
    intro v86_2 v86_3 f86_1_4 H locs ls w1 r2 t3 r4 t5 r6 t7 hw hT hF c8 hl
    refine lv_aload_n hx hb dX3_readTest_86 rfl (lv_at hl 0 rfl) ?_
    refine lv_iload_n hx hb dX3_readTest_87 rfl (lv_at hl 2 rfl) ?_
    refine tk_Vv hC hK hw hT hA hE hSR kC_at3 (by decide) rfl (k_X3_addWaiting_1 l adK adV dC dI cy ad B (by omega) (by omega) qr s1 hqr  v86_2 (show (-1) ≤ v86_2.toInt by omega) (show v86_2.toInt ≤ 21 by omega) w1 H.size hT ) (cwV 1 hC.2.2.2.2 gX3_readTest_X3_addWaiting rfl rfl rfl (by decide +kernel) ⟨Nat.le_of_ble_eq_true rfl, Nat.le_of_ble_eq_true rfl⟩) rfl hl.1 rfl (Nat.le_of_ble_eq_true rfl) dX3_readTest_88 (fun w11 H locs hp10 hw => ?_)
    obtain ⟨hT, k12, hg13⟩ := hp10
    have hF := hF.tr k12 (by decide)
    have c14 := k12.gi kC_at1 (by decide) c8
    clear hg13
    exact tk_vret hC hr hlocks hK ⟨hT, hF, ⟨f86_1_4, c14, (show 0 ≤ f86_1_4.toInt by omega), (show f86_1_4.toInt ≤ 3204 by omega)⟩⟩ hw dX3_readTest_91
  have L9 : ∀ (n9 : Nat) (v9_2 : Int32) (v9_3 : Int32) (f9_1_4 : Int32) (H : Heap) (locs : List Loc) (ls : Array Slot) (w15 : va_W), (-1) ≤ v9_2.toInt → v9_2.toInt ≤ 21 → 0 ≤ v9_3.toInt → v9_3.toInt ≤ 400 → 0 ≤ f9_1_4.toInt → f9_1_4.toInt ≤ 3204 → (400 - v9_3.toInt).toNat < n9 → Wd dC dI A s.heap H locs w15 → TW ksC ad cy B qr s1 w15 → FE ksC [(2, 3, 3), (3, 2, 2), (6, 1, 1), (6, 3, 3), (6, 4, 4), (22, 0, 13), (23, 0, 400)] w0 w15 → gi w15 1 4 = f9_1_4 → lv_has ls 4 [(0, .ref (ad 3)), (1, .int 6), (2, .int v9_2), (3, .int v9_3)] → W p l e ({ frames := 17, cells := 0, slots := 0, locals := 423 }) s m (List.toArray [.ref (ad 3), .int 6]) below meth c H locs 0 0 (MQ below (va_Qv (P_X3_readTest_7 ad cy B qr s1  w0) (fun u : va_W => wpost dC dI cy A u) A) (List.toArray [.ref (ad 3), .int 6]) s 0 0 A) (F0 m 9 ls []) := by
    intro n9
    induction n9 with
    | zero => intro v9_2 v9_3 f9_1_4 H locs ls w15 r16 t17 r18 t19 r20 t21 hm9 hw hT hF c22 hl; omega
    | succ n9 ih9 =>
      intro v9_2 v9_3 f9_1_4 H locs ls w15 r16 t17 r18 t19 r20 t21 hm9 hw hT hF c22 hl
      have J80 : ∀ (v80_2 : Int32) (f80_1_4 : Int32) (H : Heap) (locs : List Loc) (ls : Array Slot) (w23 : va_W), (-1) ≤ v80_2.toInt → v80_2.toInt ≤ 21 → 0 ≤ v9_3.toInt → v9_3.toInt ≤ 399 → 0 ≤ f80_1_4.toInt → f80_1_4.toInt ≤ 3204 → Wd dC dI A s.heap H locs w23 → TW ksC ad cy B qr s1 w23 → FE ksC [(2, 3, 3), (3, 2, 2), (6, 1, 1), (6, 3, 3), (6, 4, 4), (22, 0, 13), (23, 0, 400)] w0 w23 → gi w23 1 4 = f80_1_4 → lv_has ls 4 [(0, .ref (ad 3)), (1, .int 6), (2, .int v80_2), (3, .int v9_3)] → W p l e ({ frames := 17, cells := 0, slots := 0, locals := 423 }) s m (List.toArray [.ref (ad 3), .int 6]) below meth c H locs 0 0 (MQ below (va_Qv (P_X3_readTest_7 ad cy B qr s1  w0) (fun u : va_W => wpost dC dI cy A u) A) (List.toArray [.ref (ad 3), .int 6]) s 0 0 A) (F0 m 80 ls []) := by
        intro v80_2 f80_1_4 H locs ls w23 r24 t25 r26 t27 r28 t29 hw hT hF c30 hl
        obtain ⟨x31, ex31⟩ : ∃ y : Int32, y = v9_3 + Int32.ofInt 1 := ⟨_, rfl⟩
        refine lv_iinc (v := x31) (lv' := [(3, .int x31), (0, .ref (ad 3)), (1, .int 6), (2, .int v80_2)]) hx hb dX3_readTest_80 hl (k := 3) rfl ex31.symm (by decide) rfl (fun ls hl => ?_)
        have ex31 : x31.toInt = v9_3.toInt + 1 := by rw [ex31]; exact wk_add (y := 1) (show -2147483648 ≤ v9_3.toInt + 1 by omega) (show v9_3.toInt + 1 ≤ 2147483647 by omega)
        refine lv_goto (tgt := 9) hx hb dX3_readTest_83 (by decide) ?_
        exact ih9 v80_2 x31 f80_1_4 H locs ls w23 (show (-1) ≤ v80_2.toInt by omega) (show v80_2.toInt ≤ 21 by omega) (show 0 ≤ x31.toInt by omega) (show x31.toInt ≤ 400 by omega) (show 0 ≤ f80_1_4.toInt by omega) (show f80_1_4.toInt ≤ 3204 by omega) (show (400 - x31.toInt).toNat < n9 by omega) hw hT hF c30 (lv_sub hl [1, 2, 3, 0] rfl)
      refine lv_iload_n hx hb dX3_readTest_9 rfl (lv_at hl 3 rfl) ?_
      refine lv_sipush (v := 400) hx hb dX3_readTest_10 (by decide) ?_
      refine lv_icmp_ge (tgt := 86) hx hb dX3_readTest_13 (by decide) (fun c32 => ?_) (fun c32 => ?_)
      · have c32 : (400 : Int) ≤ v9_3.toInt := wk_le.mp c32
        exact J86 v9_2 v9_3 f9_1_4 H locs ls w15 (show (-1) ≤ v9_2.toInt by omega) (show v9_2.toInt ≤ 21 by omega) (show 0 ≤ v9_3.toInt by omega) (show v9_3.toInt ≤ 400 by omega) (show 0 ≤ f9_1_4.toInt by omega) (show f9_1_4.toInt ≤ 3204 by omega)  hw hT hF c22 (lv_sub hl [0, 1, 2, 3] rfl)
      · have c32 : v9_3.toInt < (400 : Int) := wk_leF c32
        refine lv_aload_n hx hb dX3_readTest_16 rfl (lv_at hl 0 rfl) ?_
        refine tk_getA hC hK hw hT hinX3 kC_at3 (by decide) rfl 0 (by decide) (List.mem_of_getElem? (i := 1) rfl) rfl rfl dX3_readTest_17 ?_
        refine tk_Vi hC hK hw hT hA hE hSR kC_at1 (by decide) rfl (k_X6_isFaulty_2 l adK adV dC dI cy ad B (by omega) (by omega) qr s1    w15 H.size hT f9_1_4 c22 (show 0 ≤ f9_1_4.toInt by omega) (show f9_1_4.toInt ≤ 3204 by omega)) (cwV 0 hC.2.2.2.2 gX3_readTest_X6_isFaulty rfl rfl rfl (by decide +kernel) ⟨Nat.le_of_ble_eq_true rfl, Nat.le_of_ble_eq_true rfl⟩) rfl hl.1 rfl (Nat.le_of_ble_eq_true rfl) dX3_readTest_20 (fun r33 w35 H locs hp34 hw => ?_)
        obtain ⟨hT, k36, hg41⟩ := hp34
        have hF := hF.tr k36 (by decide)
        have c42 := k36.gi kC_at1 (by decide) c22
        rcases hg41 with ⟨rfl, ⟨x37, c38, rx37, tx37⟩⟩ | ⟨rfl, ⟨x39, c40, rx39, tx39⟩⟩
        · have ex37 : x37.toInt = f9_1_4.toInt := by rw [← c42.symm.trans c38]
          refine lv_if_ne (tgt := 86) hx hb dX3_readTest_23 (by decide) (fun c => absurd (by decide) c) (fun _ => ?_)
          refine lv_aload_n hx hb dX3_readTest_26 rfl (lv_at hl 0 rfl) ?_
          refine tk_getA hC hK hw hT hinX3 kC_at3 (by decide) rfl 0 (by decide) (List.mem_of_getElem? (i := 1) rfl) rfl rfl dX3_readTest_27 ?_
          refine va_ldcS hx hb hC.2.2.2.1 hSR.2.2.2.2.2.2.1 dX3_readTest_30 ?_
          refine tk_Vi hC hK hw hT hA hE hSR kC_at1 (by decide) rfl (k_X6_takeWord_2 l adK adV dC dI cy ad B (by omega) (by omega) qr s1    w35 H.size hT ) (cwV 1 hC.2.2.2.2 gX3_readTest_X6_takeWord rfl rfl rfl (by decide +kernel) ⟨Nat.le_of_ble_eq_true rfl, Nat.le_of_ble_eq_true rfl⟩) rfl hl.1 rfl (Nat.le_of_ble_eq_true rfl) dX3_readTest_32 (fun r43 w45 H locs hp44 hw => ?_)
          obtain ⟨hT, k46, hg49⟩ := hp44
          have hF := hF.tr k46 (by decide)
          have c50 := k46.gi kC_at1 (by decide) c42
          rcases hg49 with rfl | ⟨rfl, ⟨x47, c48, rx47, tx47⟩⟩
          · refine lv_if_eq (tgt := 55) hx hb dX3_readTest_35 (by decide) (fun _ => ?_) (fun c => absurd (by decide) c)
            refine lv_aload_n hx hb dX3_readTest_55 rfl (lv_at hl 0 rfl) ?_
            refine tk_getA hC hK hw hT hinX3 kC_at3 (by decide) rfl 0 (by decide) (List.mem_of_getElem? (i := 1) rfl) rfl rfl dX3_readTest_56 ?_
            refine va_ldcS hx hb hC.2.2.2.1 hSR.2.2.2.2.2.2.2 dX3_readTest_59 ?_
            refine tk_Vi hC hK hw hT hA hE hSR kC_at1 (by decide) rfl (k_X6_takeWord_3 l adK adV dC dI cy ad B (by omega) (by omega) qr s1    w45 H.size hT ) (cwV 1 hC.2.2.2.2 gX3_readTest_X6_takeWord rfl rfl rfl (by decide +kernel) ⟨Nat.le_of_ble_eq_true rfl, Nat.le_of_ble_eq_true rfl⟩) rfl hl.1 rfl (Nat.le_of_ble_eq_true rfl) dX3_readTest_61 (fun r51 w53 H locs hp52 hw => ?_)
            obtain ⟨hT, k54, hg57⟩ := hp52
            have hF := hF.tr k54 (by decide)
            have c58 := k54.gi kC_at1 (by decide) c50
            rcases hg57 with rfl | ⟨rfl, ⟨x55, c56, rx55, tx55⟩⟩
            · refine lv_if_eq (tgt := 86) hx hb dX3_readTest_64 (by decide) (fun _ => ?_) (fun c => absurd (by decide) c)
              exact J86 v9_2 v9_3 f9_1_4 H locs ls w53 (show (-1) ≤ v9_2.toInt by omega) (show v9_2.toInt ≤ 21 by omega) (show 0 ≤ v9_3.toInt by omega) (show v9_3.toInt ≤ 400 by omega) (show 0 ≤ f9_1_4.toInt by omega) (show f9_1_4.toInt ≤ 3204 by omega)  hw hT hF c58 (lv_sub hl [0, 1, 2, 3] rfl)
            · refine lv_if_eq (tgt := 86) hx hb dX3_readTest_64 (by decide) (fun c => absurd c (by decide)) (fun _ => ?_)
              refine lv_aload_n hx hb dX3_readTest_67 rfl (lv_at hl 0 rfl) ?_
              refine lv_iload_n hx hb dX3_readTest_68 rfl (lv_at hl 2 rfl) ?_
              refine tk_Vv hC hK hw hT hA hE hSR kC_at3 (by decide) rfl (k_X3_addWaiting_1 l adK adV dC dI cy ad B (by omega) (by omega) qr s1 hqr  v9_2 (show (-1) ≤ v9_2.toInt by omega) (show v9_2.toInt ≤ 21 by omega) w53 H.size hT ) (cwV 1 hC.2.2.2.2 gX3_readTest_X3_addWaiting rfl rfl rfl (by decide +kernel) ⟨Nat.le_of_ble_eq_true rfl, Nat.le_of_ble_eq_true rfl⟩) rfl hl.1 rfl (Nat.le_of_ble_eq_true rfl) dX3_readTest_69 (fun w61 H locs hp60 hw => ?_)
              obtain ⟨hT, k62, hg63⟩ := hp60
              have hF := hF.tr k62 (by decide)
              have c64 := k62.gi kC_at1 (by decide) c58
              have c65 := k62.gi kC_at1 (by decide) c56
              clear hg63
              refine lv_bipush (v := 21) hx hb dX3_readTest_72 (by decide) ?_
              refine lv_istore_n (lv' := [(2, .int 21), (0, .ref (ad 3)), (1, .int 6), (3, .int v9_3)]) hx hb dX3_readTest_74 rfl hl (by decide) rfl (fun ls hl => ?_)
              refine lv_aload_n hx hb dX3_readTest_75 rfl (lv_at hl 1 rfl) ?_
              refine lv_iload_n hx hb dX3_readTest_76 rfl (lv_at hl 2 rfl) ?_
              refine tk_Vv hC hK hw hT hA hE hSR kC_at3 (by decide) rfl (k_X3_readFact_7 l adK adV dC dI cy ad B (by omega) (by omega) qr s1 hqr   w61 H.size hT (c64.trans (wk_eq.mpr (show f9_1_4.toInt = 0 by omega)))) (cwV 1 hC.2.2.2.2 gX3_readTest_X3_readFact rfl rfl rfl (by decide +kernel) ⟨Nat.le_of_ble_eq_true rfl, Nat.le_of_ble_eq_true rfl⟩) rfl hl.1 rfl (Nat.le_of_ble_eq_true rfl) dX3_readTest_77 (fun w68 H locs hp67 hw => ?_)
              obtain ⟨hT, k69, hg72⟩ := hp67
              have hF := hF.tr k69 (by decide)
              obtain ⟨x70, c71, rx70, tx70⟩ := hg72
              exact J80 21 x70 H locs ls w68 (by decide) (by decide) (show 0 ≤ v9_3.toInt by omega) (show v9_3.toInt ≤ 399 by omega) (show 0 ≤ x70.toInt by omega) (show x70.toInt ≤ 3204 by omega)  hw hT hF c71 (lv_sub hl [1, 2, 0, 3] rfl)
          · refine lv_if_eq (tgt := 55) hx hb dX3_readTest_35 (by decide) (fun c => absurd c (by decide)) (fun _ => ?_)
            refine lv_aload_n hx hb dX3_readTest_38 rfl (lv_at hl 0 rfl) ?_
            refine lv_iload_n hx hb dX3_readTest_39 rfl (lv_at hl 1 rfl) ?_
            refine tk_Vv hC hK hw hT hA hE hSR kC_at3 (by decide) rfl (k_X3_readFact_7 l adK adV dC dI cy ad B (by omega) (by omega) qr s1 hqr   w45 H.size hT (c50.trans (wk_eq.mpr (show f9_1_4.toInt = 0 by omega)))) (cwV 1 hC.2.2.2.2 gX3_readTest_X3_readFact rfl rfl rfl (by decide +kernel) ⟨Nat.le_of_ble_eq_true rfl, Nat.le_of_ble_eq_true rfl⟩) rfl hl.1 rfl (Nat.le_of_ble_eq_true rfl) dX3_readTest_40 (fun w75 H locs hp74 hw => ?_)
            obtain ⟨hT, k76, hg79⟩ := hp74
            have hF := hF.tr k76 (by decide)
            obtain ⟨x77, c78, rx77, tx77⟩ := hg79
            refine lv_aload_n hx hb dX3_readTest_43 rfl (lv_at hl 0 rfl) ?_
            refine tk_getQ hC hK hw hT hqr (by decide) hinX3 kC_at3 (by decide) rfl 1 (by decide) (List.mem_of_getElem? (i := 2) rfl) rfl rfl dX3_readTest_44 ?_
            refine lv_bipush (v := 20) hx hb dX3_readTest_47 (by decide) ?_
            refine tk_Vv hC hK hw hT hA hE hSR hqr (by decide) rfl (k_X2_addToken_10 l adK adV dC dI cy ad B (by omega) (by omega) qr s1   qr hqr w75 H.size hT ) (cwV 1 hC.2.2.2.2 gX3_readTest_X2_addToken rfl rfl rfl (by decide +kernel) ⟨Nat.le_of_ble_eq_true rfl, Nat.le_of_ble_eq_true rfl⟩) rfl hl.1 rfl (Nat.le_of_ble_eq_true rfl) dX3_readTest_49 (fun w82 H locs hp81 hw => ?_)
            obtain ⟨hT, k83, hg86⟩ := hp81
            have hF := hF.tr k83 (by decide)
            have c87 := k83.gi kC_at1 (by decide) c78
            obtain ⟨x84, c85, rx84, tx84⟩ := hg86
            refine lv_goto (tgt := 80) hx hb dX3_readTest_52 (by decide) ?_
            exact J80 v9_2 x77 H locs ls w82 (show (-1) ≤ v9_2.toInt by omega) (show v9_2.toInt ≤ 21 by omega) (show 0 ≤ v9_3.toInt by omega) (show v9_3.toInt ≤ 399 by omega) (show 0 ≤ x77.toInt by omega) (show x77.toInt ≤ 3204 by omega)  hw hT hF c87 (lv_sub hl [0, 1, 2, 3] rfl)
        · have ex39 : x39.toInt = f9_1_4.toInt := by rw [← c42.symm.trans c40]
          refine lv_if_ne (tgt := 86) hx hb dX3_readTest_23 (by decide) (fun _ => ?_) (fun c => absurd c (by decide))
          exact J86 v9_2 v9_3 f9_1_4 H locs ls w35 (show (-1) ≤ v9_2.toInt by omega) (show v9_2.toInt ≤ 21 by omega) (show 0 ≤ v9_3.toInt by omega) (show v9_3.toInt ≤ 400 by omega) (show 0 ≤ f9_1_4.toInt by omega) (show f9_1_4.toInt ≤ 3204 by omega)  hw hT hF c42 (lv_sub hl [0, 1, 2, 3] rfl)
  refine lv_aload_n hx hb dX3_readTest_0 rfl (lv_at hl 0 rfl) ?_
  refine lv_iload_n hx hb dX3_readTest_1 rfl (lv_at hl 1 rfl) ?_
  refine tk_Vv hC hK hw hT hA hE hSR kC_at3 (by decide) rfl (k_X3_readFact_7 l adK adV dC dI cy ad B (by omega) (by omega) qr s1 hqr   w0 s.heap.size hT cf0_) (cwV 1 hC.2.2.2.2 gX3_readTest_X3_readFact rfl rfl rfl (by decide +kernel) ⟨Nat.le_of_ble_eq_true rfl, Nat.le_of_ble_eq_true rfl⟩) rfl hl.1 rfl (Nat.le_of_ble_eq_true rfl) dX3_readTest_2 (fun w90 H locs hp89 hw => ?_)
  obtain ⟨hT, k91, hg94⟩ := hp89
  have hF := hF.tr k91 (by decide)
  obtain ⟨x92, c93, rx92, tx92⟩ := hg94
  refine lv_iconst (v := (-1)) hx hb dX3_readTest_5 (by decide) ?_
  refine lv_istore_n (lv' := [(2, .int (-1)), (0, .ref (ad 3)), (1, .int 6)]) hx hb dX3_readTest_6 rfl hl (by decide) rfl (fun ls hl => ?_)
  refine lv_iconst (v := 0) hx hb dX3_readTest_7 (by decide) ?_
  refine lv_istore_n (lv' := [(3, .int 0), (2, .int (-1)), (0, .ref (ad 3)), (1, .int 6)]) hx hb dX3_readTest_8 rfl hl (by decide) rfl (fun ls hl => ?_)
  exact L9 ((400 - (0 : Int)).toNat + 1) (-1) 0 x92 H locs ls w90 (by decide) (by decide) (by decide) (by decide) (show 0 ≤ x92.toInt by omega) (show x92.toInt ≤ 3204 by omega) (Nat.lt_succ_self _) hw hT hF c93 (lv_sub hl [2, 3, 1, 0] rfl)
abbrev P_X3_readFact_6 (ad : Nat → Nat) (cy : Nat → ClassId) (B : Int) (qr : Nat) (s1 : Int)  (w0 : va_W) : va_W → Prop := fun u => TW ksC ad cy B qr s1 u ∧ FE ksC [(2, 3, 3), (3, 2, 2), (6, 1, 1), (6, 3, 3), (6, 4, 4), (22, 0, 13), (23, 0, 400)] w0 u ∧ (((∃ y : Int32, gi u 1 4 = y ∧ 0 ≤ y.toInt ∧ y.toInt ≤ 3204)))
set_option maxHeartbeats 4000000 in
set_option maxRecDepth 100000 in
theorem k_X3_readFact_6 (l : Launch) (adK adV : Nat → Nat) (dC : Nat → ClassId) (dI : Nat → Nat → Nat) (cy : Nat → ClassId) (ad : Nat → Nat) (B : Int) (hB0 : 2147483648 ≤ B) (hB1 : B ≤ 1152921504606846976) (qr : Nat) (s1 : Int) (hqr : ksC[qr]? = some 2)  (w0 : va_W) (sz : Nat) (hT : TW ksC ad cy B qr s1 w0) (cf0_ : gi w0 1 4 = 0) : Met l yX3_readFact wsX3_readFact ({ frames := 18, cells := 0, slots := 0, locals := 446 }) (va_Pc [.ref (ad 3), .int 5] (wpreS adK adV dC dI cy sz w0)) (va_Qv (P_X3_readFact_6 ad cy B qr s1  w0) (fun u : va_W => wpost dC dI cy (va_A w0 sz) u) (va_A w0 sz)) 0 0 (va_A w0 sz) := by
  refine Met.ofW (cc := cX3_readFact) (maxL := 5) (ret := none) (by decide) rfl ?_
  intro p e s m args below meth c s₁ Bk hml hv
  obtain ⟨rfl, ⟨hsz, hP, hK, hD0⟩, hE, hSR⟩ := hv
  have hx := Bk.exec
  have hb := Bk.bytes
  have hr := Bk.returns
  have hlocks := Bk.notSynchronized
  have hC : CallFix p m c cX3_readFact 5 s _ wsX3_readFact RX3 := ⟨hx, hb, hml, findClass_of_methodNamed Bk.named, atoms_spec (ws := wsX3_readFact) Bk.pre⟩
  subst hsz
  have hD := hD0.self (sz := s.heap.size)
  generalize hAe : va_A w0 s.heap.size = A at hD hE ⊢
  have hA : ∀ q : Nat, s.heap.size ≤ q → A q := fun q h => by rw [← hAe]; exact Or.inr h
  have hw : Wd dC dI A s.heap s.heap [] w0 := ⟨hP, hD, va_S.rf⟩
  have hF : FE ksC [(2, 3, 3), (3, 2, 2), (6, 1, 1), (6, 3, 3), (6, 4, 4), (22, 0, 13), (23, 0, 400)] w0 w0 := FE.rf
  have hl := lv_entry ([.ref (ad 3), .int 5]) (n := 5) (Nat.le_of_ble_eq_true rfl)
  rw [lg_entry_eq]
  generalize (lg_sl ([.ref (ad 3), .int 5]) ++ List.replicate (5 - (lg_sl ([.ref (ad 3), .int 5])).length) Slot.unset).toArray = ls at hl ⊢
  have hl : lv_has ls 5 [(0, .ref (ad 3)), (1, .int 5)] := hl
  generalize hloc : ([] : List Loc) = locs at hw ⊢
  have hinX3 : ∀ w ∈ u_ws RX3 TX3 3, w ∈ wsX3_readFact := fun _ h => List.mem_cons_of_mem _ (List.mem_append_left _ (List.mem_append_left _ (List.mem_append_right _ (h))))
  have J160 : ∀ (v160_2 : Int32) (v160_3 : Int32) (f160_1_4 : Int32) (H : Heap) (locs : List Loc) (ls : Array Slot) (w1 : va_W), 0 ≤ v160_2.toInt → v160_2.toInt ≤ 1 → 0 ≤ v160_3.toInt → v160_3.toInt ≤ 1 → 0 ≤ f160_1_4.toInt → f160_1_4.toInt ≤ 3204 → Wd dC dI A s.heap H locs w1 → TW ksC ad cy B qr s1 w1 → FE ksC [(2, 3, 3), (3, 2, 2), (6, 1, 1), (6, 3, 3), (6, 4, 4), (22, 0, 13), (23, 0, 400)] w0 w1 → gi w1 1 4 = f160_1_4 → lv_has ls 5 [(0, .ref (ad 3)), (1, .int 5), (2, .int v160_2), (3, .int v160_3)] → W p l e ({ frames := 18, cells := 0, slots := 0, locals := 446 }) s m (List.toArray [.ref (ad 3), .int 5]) below meth c H locs 0 0 (MQ below (va_Qv (P_X3_readFact_6 ad cy B qr s1  w0) (fun u : va_W => wpost dC dI cy A u) A) (List.toArray [.ref (ad 3), .int 5]) s 0 0 A) (F0 m 160 ls []) := by
    intro v160_2 v160_3 f160_1_4 H locs ls w1 r2 t3 r4 t5 r6 t7 hw hT hF c8 hl
    exact tk_vret hC hr hlocks hK ⟨hT, hF, ⟨f160_1_4, c8, (show 0 ≤ f160_1_4.toInt by omega), (show f160_1_4.toInt ≤ 3204 by omega)⟩⟩ hw dX3_readFact_160
  have J77 : ∀ (v77_2 : Int32) (v77_3 : Int32) (H : Heap) (locs : List Loc) (ls : Array Slot) (w9 : va_W), 0 ≤ v77_2.toInt → v77_2.toInt ≤ 1 → 0 ≤ v77_3.toInt → v77_3.toInt ≤ 1 → Wd dC dI A s.heap H locs w9 → TW ksC ad cy B qr s1 w9 → FE ksC [(2, 3, 3), (3, 2, 2), (6, 1, 1), (6, 3, 3), (6, 4, 4), (22, 0, 13), (23, 0, 400)] w0 w9 → gi w9 1 4 = 0 → lv_has ls 5 [(0, .ref (ad 3)), (1, .int 5), (2, .int v77_2), (3, .int v77_3)] → W p l e ({ frames := 18, cells := 0, slots := 0, locals := 446 }) s m (List.toArray [.ref (ad 3), .int 5]) below meth c H locs 0 0 (MQ below (va_Qv (P_X3_readFact_6 ad cy B qr s1  w0) (fun u : va_W => wpost dC dI cy A u) A) (List.toArray [.ref (ad 3), .int 5]) s 0 0 A) (F0 m 77 ls []) := by
    intro v77_2 v77_3 H locs ls w9 r10 t11 r12 t13 hw hT hF c14 hl
    refine lv_iload_n hx hb dX3_readFact_77 rfl (lv_at hl 1 rfl) ?_
    refine lv_bipush (v := 10) hx hb dX3_readFact_78 (by decide) ?_
    refine lv_icmp_lt (tgt := 101) hx hb dX3_readFact_80 (by decide) (fun _ => ?_) (fun c => absurd (by decide) c)
    refine lv_iload_n hx hb dX3_readFact_101 rfl (lv_at hl 2 rfl) ?_
    refine lv_if_eq (tgt := 124) hx hb dX3_readFact_102 (by decide) (fun c15 => ?_) (fun c15 => ?_)
    · have c15 : v77_2.toInt = (0 : Int) := wk_eq.mp c15
      refine lv_aload_n hx hb dX3_readFact_124 rfl (lv_at hl 0 rfl) ?_
      refine lv_iload_n hx hb dX3_readFact_125 rfl (lv_at hl 1 rfl) ?_
      refine lv_iconst (v := 1) hx hb dX3_readFact_126 (by decide) ?_
      refine lv_iadd hx hb dX3_readFact_127 ?_
      refine wk_top 6 (by decide) ?_
      refine tk_Vv hC hK hw hT hA hE hSR kC_at3 (by decide) rfl (k_X3_readTest_7 l adK adV dC dI cy ad B (by omega) (by omega) qr s1 hqr   w9 H.size hT c14) (cwV 1 hC.2.2.2.2 gX3_readFact_X3_readTest rfl rfl rfl (by decide +kernel) ⟨Nat.le_of_ble_eq_true rfl, Nat.le_of_ble_eq_true rfl⟩) rfl hl.1 rfl (Nat.le_of_ble_eq_true rfl) dX3_readFact_128 (fun w18 H locs hp17 hw => ?_)
      obtain ⟨hT, k19, hg22⟩ := hp17
      have hF := hF.tr k19 (by decide)
      obtain ⟨x20, c21, rx20, tx20⟩ := hg22
      refine lv_aload_n hx hb dX3_readFact_131 rfl (lv_at hl 0 rfl) ?_
      refine tk_getA hC hK hw hT hinX3 kC_at3 (by decide) rfl 0 (by decide) (List.mem_of_getElem? (i := 1) rfl) rfl rfl dX3_readFact_132 ?_
      refine tk_Vi hC hK hw hT hA hE hSR kC_at1 (by decide) rfl (k_X6_isFaulty_2 l adK adV dC dI cy ad B (by omega) (by omega) qr s1    w18 H.size hT x20 c21 (show 0 ≤ x20.toInt by omega) (show x20.toInt ≤ 3204 by omega)) (cwV 0 hC.2.2.2.2 gX3_readFact_X6_isFaulty rfl rfl rfl (by decide +kernel) ⟨Nat.le_of_ble_eq_true rfl, Nat.le_of_ble_eq_true rfl⟩) rfl hl.1 rfl (Nat.le_of_ble_eq_true rfl) dX3_readFact_135 (fun r23 w25 H locs hp24 hw => ?_)
      obtain ⟨hT, k26, hg31⟩ := hp24
      have hF := hF.tr k26 (by decide)
      have c32 := k26.gi kC_at1 (by decide) c21
      rcases hg31 with ⟨rfl, ⟨x27, c28, rx27, tx27⟩⟩ | ⟨rfl, ⟨x29, c30, rx29, tx29⟩⟩
      · have ex27 : x27.toInt = x20.toInt := by rw [← c32.symm.trans c28]
        refine lv_if_ne (tgt := 160) hx hb dX3_readFact_138 (by decide) (fun c => absurd (by decide) c) (fun _ => ?_)
        refine lv_aload_n hx hb dX3_readFact_141 rfl (lv_at hl 0 rfl) ?_
        refine tk_getA hC hK hw hT hinX3 kC_at3 (by decide) rfl 0 (by decide) (List.mem_of_getElem? (i := 1) rfl) rfl rfl dX3_readFact_142 ?_
        refine lv_bipush (v := 93) hx hb dX3_readFact_145 (by decide) ?_
        refine tk_Vi hC hK hw hT hA hE hSR kC_at1 (by decide) rfl (k_X6_takeByte_3 l adK adV dC dI cy ad B (by omega) (by omega) qr s1    w25 H.size hT ) (cwV 1 hC.2.2.2.2 gX3_readFact_X6_takeByte rfl rfl rfl (by decide +kernel) ⟨Nat.le_of_ble_eq_true rfl, Nat.le_of_ble_eq_true rfl⟩) rfl hl.1 rfl (Nat.le_of_ble_eq_true rfl) dX3_readFact_147 (fun r33 w35 H locs hp34 hw => ?_)
        obtain ⟨hT, k36, hg41⟩ := hp34
        have hF := hF.tr k36 (by decide)
        have c42 := k36.gi kC_at1 (by decide) c32
        rcases hg41 with rfl | ⟨rfl, ⟨x37, c38, rx37, tx37⟩, ⟨x39, c40, rx39, tx39⟩⟩
        · refine lv_if_ne (tgt := 160) hx hb dX3_readFact_150 (by decide) (fun c => absurd (by decide) c) (fun _ => ?_)
          refine lv_aload_n hx hb dX3_readFact_153 rfl (lv_at hl 0 rfl) ?_
          refine tk_getA hC hK hw hT hinX3 kC_at3 (by decide) rfl 0 (by decide) (List.mem_of_getElem? (i := 1) rfl) rfl rfl dX3_readFact_154 ?_
          refine tk_Vv hC hK hw hT hA hE hSR kC_at1 (by decide) rfl (k_X6_blameHere_1 l adK adV dC dI cy ad B (by omega) (by omega) qr s1    w35 H.size hT (c42.trans (wk_eq.mpr (show x20.toInt = 0 by omega)))) (cwV 0 hC.2.2.2.2 gX3_readFact_X6_blameHere rfl rfl rfl (by decide +kernel) ⟨Nat.le_of_ble_eq_true rfl, Nat.le_of_ble_eq_true rfl⟩) rfl hl.1 rfl (Nat.le_of_ble_eq_true rfl) dX3_readFact_157 (fun w45 H locs hp44 hw => ?_)
          obtain ⟨hT, k46, hg49⟩ := hp44
          have hF := hF.tr k46 (by decide)
          obtain ⟨x47, c48, rx47, tx47⟩ := hg49
          exact J160 v77_2 v77_3 x47 H locs ls w45 (show 0 ≤ v77_2.toInt by omega) (show v77_2.toInt ≤ 1 by omega) (show 0 ≤ v77_3.toInt by omega) (show v77_3.toInt ≤ 1 by omega) (show 0 ≤ x47.toInt by omega) (show x47.toInt ≤ 3204 by omega)  hw hT hF c48 (lv_sub hl [0, 1, 2, 3] rfl)
        · refine lv_if_ne (tgt := 160) hx hb dX3_readFact_150 (by decide) (fun _ => ?_) (fun c => absurd c (by decide))
          exact J160 v77_2 v77_3 x20 H locs ls w35 (show 0 ≤ v77_2.toInt by omega) (show v77_2.toInt ≤ 1 by omega) (show 0 ≤ v77_3.toInt by omega) (show v77_3.toInt ≤ 1 by omega) (show 0 ≤ x20.toInt by omega) (show x20.toInt ≤ 3204 by omega)  hw hT hF c42 (lv_sub hl [0, 1, 2, 3] rfl)
      · have ex29 : x29.toInt = x20.toInt := by rw [← c32.symm.trans c30]
        refine lv_if_ne (tgt := 160) hx hb dX3_readFact_138 (by decide) (fun _ => ?_) (fun c => absurd c (by decide))
        exact J160 v77_2 v77_3 x20 H locs ls w25 (show 0 ≤ v77_2.toInt by omega) (show v77_2.toInt ≤ 1 by omega) (show 0 ≤ v77_3.toInt by omega) (show v77_3.toInt ≤ 1 by omega) (show 0 ≤ x20.toInt by omega) (show x20.toInt ≤ 3204 by omega)  hw hT hF c32 (lv_sub hl [0, 1, 2, 3] rfl)
    · have c15 : ¬ v77_2.toInt = (0 : Int) := wk_eqF c15
      refine lv_aload_n hx hb dX3_readFact_105 rfl (lv_at hl 0 rfl) ?_
      refine lv_iload_n hx hb dX3_readFact_106 rfl (lv_at hl 1 rfl) ?_
      refine lv_iconst (v := 1) hx hb dX3_readFact_107 (by decide) ?_
      refine lv_iadd hx hb dX3_readFact_108 ?_
      refine wk_top 6 (by decide) ?_
      refine tk_Vv hC hK hw hT hA hE hSR kC_at3 (by decide) rfl (k_X3_readFact_7 l adK adV dC dI cy ad B (by omega) (by omega) qr s1 hqr   w9 H.size hT c14) (cwV 1 hC.2.2.2.2 gX3_readFact_X3_readFact rfl rfl rfl (by decide +kernel) ⟨Nat.le_of_ble_eq_true rfl, Nat.le_of_ble_eq_true rfl⟩) rfl hl.1 rfl (Nat.le_of_ble_eq_true rfl) dX3_readFact_109 (fun w52 H locs hp51 hw => ?_)
      obtain ⟨hT, k53, hg56⟩ := hp51
      have hF := hF.tr k53 (by decide)
      obtain ⟨x54, c55, rx54, tx54⟩ := hg56
      refine lv_aload_n hx hb dX3_readFact_112 rfl (lv_at hl 0 rfl) ?_
      refine tk_getQ hC hK hw hT hqr (by decide) hinX3 kC_at3 (by decide) rfl 1 (by decide) (List.mem_of_getElem? (i := 2) rfl) rfl rfl dX3_readFact_113 ?_
      refine lv_bipush (v := 19) hx hb dX3_readFact_116 (by decide) ?_
      refine tk_Vv hC hK hw hT hA hE hSR hqr (by decide) rfl (k_X2_addToken_11 l adK adV dC dI cy ad B (by omega) (by omega) qr s1   qr hqr w52 H.size hT ) (cwV 1 hC.2.2.2.2 gX3_readFact_X2_addToken rfl rfl rfl (by decide +kernel) ⟨Nat.le_of_ble_eq_true rfl, Nat.le_of_ble_eq_true rfl⟩) rfl hl.1 rfl (Nat.le_of_ble_eq_true rfl) dX3_readFact_118 (fun w59 H locs hp58 hw => ?_)
      obtain ⟨hT, k60, hg63⟩ := hp58
      have hF := hF.tr k60 (by decide)
      have c64 := k60.gi kC_at1 (by decide) c55
      obtain ⟨x61, c62, rx61, tx61⟩ := hg63
      refine lv_goto (tgt := 160) hx hb dX3_readFact_121 (by decide) ?_
      exact J160 v77_2 v77_3 x54 H locs ls w59 (show 0 ≤ v77_2.toInt by omega) (show v77_2.toInt ≤ 1 by omega) (show 0 ≤ v77_3.toInt by omega) (show v77_3.toInt ≤ 1 by omega) (show 0 ≤ x54.toInt by omega) (show x54.toInt ≤ 3204 by omega)  hw hT hF c64 (lv_sub hl [0, 1, 2, 3] rfl)
  have J41 : ∀ (v41_2 : Int32) (H : Heap) (locs : List Loc) (ls : Array Slot) (w65 : va_W), 0 ≤ v41_2.toInt → v41_2.toInt ≤ 1 → Wd dC dI A s.heap H locs w65 → TW ksC ad cy B qr s1 w65 → FE ksC [(2, 3, 3), (3, 2, 2), (6, 1, 1), (6, 3, 3), (6, 4, 4), (22, 0, 13), (23, 0, 400)] w0 w65 → gi w65 1 4 = 0 → lv_has ls 5 [(0, .ref (ad 3)), (1, .int 5), (2, .int v41_2)] → W p l e ({ frames := 18, cells := 0, slots := 0, locals := 446 }) s m (List.toArray [.ref (ad 3), .int 5]) below meth c H locs 0 0 (MQ below (va_Qv (P_X3_readFact_6 ad cy B qr s1  w0) (fun u : va_W => wpost dC dI cy A u) A) (List.toArray [.ref (ad 3), .int 5]) s 0 0 A) (F0 m 41 ls []) := by
    intro v41_2 H locs ls w65 r66 t67 hw hT hF c68 hl
    refine lv_iconst (v := 0) hx hb dX3_readFact_41 (by decide) ?_
    refine lv_istore_n (lv' := [(3, .int 0), (0, .ref (ad 3)), (1, .int 5), (2, .int v41_2)]) hx hb dX3_readFact_42 rfl hl (by decide) rfl (fun ls hl => ?_)
    refine lv_iload_n hx hb dX3_readFact_43 rfl (lv_at hl 3 rfl) ?_
    refine lv_if_ne (tgt := 77) hx hb dX3_readFact_44 (by decide) (fun c69 => ?_) (fun c69 => ?_)
    · have c69 : ¬ v41_2.toInt = (0 : Int) := wk_eqF c69
      exact J77 v41_2 0 H locs ls w65 (show 0 ≤ v41_2.toInt by omega) (show v41_2.toInt ≤ 1 by omega) (by decide) (by decide)  hw hT hF c68 (lv_sub hl [1, 2, 3, 0] rfl)
    · have c69 : v41_2.toInt = (0 : Int) := wk_eq.mp c69
      refine lv_iload_n hx hb dX3_readFact_47 rfl (lv_at hl 0 rfl) ?_
      refine lv_if_ne (tgt := 77) hx hb dX3_readFact_48 (by decide) (fun c => absurd (by decide) c) (fun _ => ?_)
      refine lv_aload_n hx hb dX3_readFact_51 rfl (lv_at hl 1 rfl) ?_
      refine tk_Vv hC hK hw hT hA hE hSR kC_at3 (by decide) rfl (k_X3_readSum_1 l adK adV dC dI cy ad B (by omega) (by omega) qr s1 hqr   w65 H.size hT c68) (cwV 0 hC.2.2.2.2 gX3_readFact_X3_readSum rfl rfl rfl (by decide +kernel) ⟨Nat.le_of_ble_eq_true rfl, Nat.le_of_ble_eq_true rfl⟩) rfl hl.1 rfl (Nat.le_of_ble_eq_true rfl) dX3_readFact_52 (fun w72 H locs hp71 hw => ?_)
      obtain ⟨hT, k73, hg76⟩ := hp71
      have hF := hF.tr k73 (by decide)
      obtain ⟨x74, c75, rx74, tx74⟩ := hg76
      refine lv_aload_n hx hb dX3_readFact_55 rfl (lv_at hl 1 rfl) ?_
      refine tk_Vi hC hK hw hT hA hE hSR kC_at3 (by decide) rfl (k_X3_readSign_1 l adK adV dC dI cy ad B (by omega) (by omega) qr s1    w72 H.size hT x74 c75 (show 0 ≤ x74.toInt by omega) (show x74.toInt ≤ 3204 by omega)) (cwV 0 hC.2.2.2.2 gX3_readFact_X3_readSign rfl rfl rfl (by decide +kernel) ⟨Nat.le_of_ble_eq_true rfl, Nat.le_of_ble_eq_true rfl⟩) rfl hl.1 rfl (Nat.le_of_ble_eq_true rfl) dX3_readFact_56 (fun r77 w79 H locs hp78 hw => ?_)
      obtain ⟨hT, k80, hg91⟩ := hp78
      have hF := hF.tr k80 (by decide)
      rcases hg91 with ⟨rfl, ⟨x81, c82, rx81, tx81⟩⟩ | ⟨g83, g84, ⟨x85, c86, rx85, tx85⟩, ⟨x87, c88, rx87, tx87⟩, ⟨x89, c90, rx89, tx89⟩⟩
      · refine lv_istore (lv' := [(4, .int 16), (3, .int 0), (0, .ref (ad 3)), (1, .int 5), (2, .int v41_2)]) hx hb dX3_readFact_59 hl (by decide) rfl (fun ls hl => ?_)
        refine lv_aload_n hx hb dX3_readFact_61 rfl (lv_at hl 2 rfl) ?_
        refine tk_Vv hC hK hw hT hA hE hSR kC_at3 (by decide) rfl (k_X3_readSum_2 l adK adV dC dI cy ad B (by omega) (by omega) qr s1 hqr   w79 H.size hT x81 c82 (show 1 ≤ x81.toInt by omega) (show x81.toInt ≤ 3204 by omega)) (cwV 0 hC.2.2.2.2 gX3_readFact_X3_readSum rfl rfl rfl (by decide +kernel) ⟨Nat.le_of_ble_eq_true rfl, Nat.le_of_ble_eq_true rfl⟩) rfl hl.1 rfl (Nat.le_of_ble_eq_true rfl) dX3_readFact_62 (fun w94 H locs hp93 hw => ?_)
        obtain ⟨hT, k95, hg98⟩ := hp93
        have hF := hF.tr k95 (by decide)
        have c99 := k95.gi kC_at1 (by decide) c82
        obtain ⟨x96, c97, rx96, tx96⟩ := hg98
        have ex96 : x96.toInt = x81.toInt := by rw [← c99.symm.trans c97]
        refine lv_aload_n hx hb dX3_readFact_65 rfl (lv_at hl 2 rfl) ?_
        refine tk_getQ hC hK hw hT hqr (by decide) hinX3 kC_at3 (by decide) rfl 1 (by decide) (List.mem_of_getElem? (i := 2) rfl) rfl rfl dX3_readFact_66 ?_
        refine lv_iload hx hb dX3_readFact_69 (lv_at hl 0 rfl) ?_
        refine tk_Vv hC hK hw hT hA hE hSR hqr (by decide) rfl (k_X2_addToken_8 l adK adV dC dI cy ad B (by omega) (by omega) qr s1   qr hqr w94 H.size hT ) (cwV 1 hC.2.2.2.2 gX3_readFact_X2_addToken rfl rfl rfl (by decide +kernel) ⟨Nat.le_of_ble_eq_true rfl, Nat.le_of_ble_eq_true rfl⟩) rfl hl.1 rfl (Nat.le_of_ble_eq_true rfl) dX3_readFact_71 (fun w102 H locs hp101 hw => ?_)
        obtain ⟨hT, k103, hg106⟩ := hp101
        have hF := hF.tr k103 (by decide)
        have c107 := k103.gi kC_at1 (by decide) c99
        obtain ⟨x104, c105, rx104, tx104⟩ := hg106
        refine lv_goto (tgt := 160) hx hb dX3_readFact_74 (by decide) ?_
        exact J160 v41_2 0 x81 H locs ls w102 (show 0 ≤ v41_2.toInt by omega) (show v41_2.toInt ≤ 1 by omega) (by decide) (by decide) (show 0 ≤ x81.toInt by omega) (show x81.toInt ≤ 3204 by omega)  hw hT hF c107 (lv_sub hl [2, 3, 4, 1] rfl)
      · refine lv_istore (lv' := [(4, .int r77), (3, .int 0), (0, .ref (ad 3)), (1, .int 5), (2, .int v41_2)]) hx hb dX3_readFact_59 hl (by decide) rfl (fun ls hl => ?_)
        refine lv_aload_n hx hb dX3_readFact_61 rfl (lv_at hl 2 rfl) ?_
        refine tk_Vv hC hK hw hT hA hE hSR kC_at3 (by decide) rfl (k_X3_readSum_3 l adK adV dC dI cy ad B (by omega) (by omega) qr s1 hqr   w79 H.size hT x89 c90 (show 0 ≤ x89.toInt by omega) (show x89.toInt ≤ 3204 by omega)) (cwV 0 hC.2.2.2.2 gX3_readFact_X3_readSum rfl rfl rfl (by decide +kernel) ⟨Nat.le_of_ble_eq_true rfl, Nat.le_of_ble_eq_true rfl⟩) rfl hl.1 rfl (Nat.le_of_ble_eq_true rfl) dX3_readFact_62 (fun w110 H locs hp109 hw => ?_)
        obtain ⟨hT, k111, hg114⟩ := hp109
        have hF := hF.tr k111 (by decide)
        have c115 := k111.gi kC_at1 (by decide) c86
        obtain ⟨x112, c113, rx112, tx112⟩ := hg114
        refine lv_aload_n hx hb dX3_readFact_65 rfl (lv_at hl 2 rfl) ?_
        refine tk_getQ hC hK hw hT hqr (by decide) hinX3 kC_at3 (by decide) rfl 1 (by decide) (List.mem_of_getElem? (i := 2) rfl) rfl rfl dX3_readFact_66 ?_
        refine lv_iload hx hb dX3_readFact_69 (lv_at hl 0 rfl) ?_
        refine tk_Vv hC hK hw hT hA hE hSR hqr (by decide) rfl (k_X2_addToken_9 l adK adV dC dI cy ad B (by omega) (by omega) qr s1   qr hqr r77 (show 14 ≤ r77.toInt by omega) (show r77.toInt ≤ 18 by omega) w110 H.size hT ) (cwV 1 hC.2.2.2.2 gX3_readFact_X2_addToken rfl rfl rfl (by decide +kernel) ⟨Nat.le_of_ble_eq_true rfl, Nat.le_of_ble_eq_true rfl⟩) rfl hl.1 rfl (Nat.le_of_ble_eq_true rfl) dX3_readFact_71 (fun w118 H locs hp117 hw => ?_)
        obtain ⟨hT, k119, hg122⟩ := hp117
        have hF := hF.tr k119 (by decide)
        have c123 := k119.gi kC_at1 (by decide) c115
        have c124 := k119.gi kC_at1 (by decide) c113
        obtain ⟨x120, c121, rx120, tx120⟩ := hg122
        refine lv_goto (tgt := 160) hx hb dX3_readFact_74 (by decide) ?_
        exact J160 v41_2 0 x112 H locs ls w118 (show 0 ≤ v41_2.toInt by omega) (show v41_2.toInt ≤ 1 by omega) (by decide) (by decide) (show 0 ≤ x112.toInt by omega) (show x112.toInt ≤ 3204 by omega)  hw hT hF c124 (lv_sub hl [2, 3, 4, 1] rfl)
  refine lv_aload_n hx hb dX3_readFact_0 rfl (lv_at hl 0 rfl) ?_
  refine tk_getA hC hK hw hT hinX3 kC_at3 (by decide) rfl 0 (by decide) (List.mem_of_getElem? (i := 1) rfl) rfl rfl dX3_readFact_1 ?_
  refine tk_Vi hC hK hw hT hA hE hSR kC_at1 (by decide) rfl (k_X6_isFaulty_3 l adK adV dC dI cy ad B (by omega) (by omega) qr s1    w0 s.heap.size hT cf0_) (cwV 0 hC.2.2.2.2 gX3_readFact_X6_isFaulty rfl rfl rfl (by decide +kernel) ⟨Nat.le_of_ble_eq_true rfl, Nat.le_of_ble_eq_true rfl⟩) rfl hl.1 rfl (Nat.le_of_ble_eq_true rfl) dX3_readFact_4 (fun r125 w127 H locs hp126 hw => ?_)
  obtain ⟨hT, k128, hg131⟩ := hp126
  have hF := hF.tr k128 (by decide)
  have c132 := k128.gi kC_at1 (by decide) cf0_
  obtain ⟨rfl, ⟨x129, c130, rx129, tx129⟩⟩ := hg131
  have ex129 : x129.toInt = (0 : Int) := by rw [show x129 = 0 from c130.symm.trans c132]; decide
  refine lv_if_eq (tgt := 11) hx hb dX3_readFact_7 (by decide) (fun _ => ?_) (fun c => absurd (by decide) c)
  refine lv_aload_n hx hb dX3_readFact_11 rfl (lv_at hl 0 rfl) ?_
  refine tk_getA hC hK hw hT hinX3 kC_at3 (by decide) rfl 0 (by decide) (List.mem_of_getElem? (i := 1) rfl) rfl rfl dX3_readFact_12 ?_
  refine va_ldcS hx hb hC.2.2.2.1 hSR.2.2.2.2.1 dX3_readFact_15 ?_
  refine tk_Vi hC hK hw hT hA hE hSR kC_at1 (by decide) rfl (k_X6_takeWord_4 l adK adV dC dI cy ad B (by omega) (by omega) qr s1    w127 H.size hT ) (cwV 1 hC.2.2.2.2 gX3_readFact_X6_takeWord rfl rfl rfl (by decide +kernel) ⟨Nat.le_of_ble_eq_true rfl, Nat.le_of_ble_eq_true rfl⟩) rfl hl.1 rfl (Nat.le_of_ble_eq_true rfl) dX3_readFact_17 (fun r133 w135 H locs hp134 hw => ?_)
  obtain ⟨hT, k136, hg139⟩ := hp134
  have hF := hF.tr k136 (by decide)
  have c140 := k136.gi kC_at1 (by decide) c132
  rcases hg139 with rfl | ⟨rfl, ⟨x137, c138, rx137, tx137⟩⟩
  · refine lv_istore_n (lv' := [(2, .int 0), (0, .ref (ad 3)), (1, .int 5)]) hx hb dX3_readFact_20 rfl hl (by decide) rfl (fun ls hl => ?_)
    refine lv_iload_n hx hb dX3_readFact_21 rfl (lv_at hl 0 rfl) ?_
    refine lv_if_ne (tgt := 41) hx hb dX3_readFact_22 (by decide) (fun c => absurd (by decide) c) (fun _ => ?_)
    refine lv_aload_n hx hb dX3_readFact_25 rfl (lv_at hl 1 rfl) ?_
    refine tk_getA hC hK hw hT hinX3 kC_at3 (by decide) rfl 0 (by decide) (List.mem_of_getElem? (i := 1) rfl) rfl rfl dX3_readFact_26 ?_
    refine lv_bipush (v := 91) hx hb dX3_readFact_29 (by decide) ?_
    refine tk_Vi hC hK hw hT hA hE hSR kC_at1 (by decide) rfl (k_X6_takeByte_2 l adK adV dC dI cy ad B (by omega) (by omega) qr s1    w135 H.size hT ) (cwV 1 hC.2.2.2.2 gX3_readFact_X6_takeByte rfl rfl rfl (by decide +kernel) ⟨Nat.le_of_ble_eq_true rfl, Nat.le_of_ble_eq_true rfl⟩) rfl hl.1 rfl (Nat.le_of_ble_eq_true rfl) dX3_readFact_31 (fun r141 w143 H locs hp142 hw => ?_)
    obtain ⟨hT, k144, hg149⟩ := hp142
    have hF := hF.tr k144 (by decide)
    have c150 := k144.gi kC_at1 (by decide) c140
    rcases hg149 with rfl | ⟨rfl, ⟨x145, c146, rx145, tx145⟩, ⟨x147, c148, rx147, tx147⟩⟩
    · refine lv_if_eq (tgt := 41) hx hb dX3_readFact_34 (by decide) (fun _ => ?_) (fun c => absurd (by decide) c)
      exact J41 0 H locs ls w143 (by decide) (by decide)  hw hT hF c150 (lv_sub hl [1, 2, 0] rfl)
    · refine lv_if_eq (tgt := 41) hx hb dX3_readFact_34 (by decide) (fun c => absurd c (by decide)) (fun _ => ?_)
      refine lv_iconst (v := 1) hx hb dX3_readFact_37 (by decide) ?_
      refine lv_goto (tgt := 42) hx hb dX3_readFact_38 (by decide) ?_
      refine lv_istore_n (lv' := [(3, .int 1), (2, .int 0), (0, .ref (ad 3)), (1, .int 5)]) hx hb dX3_readFact_42 rfl hl (by decide) rfl (fun ls hl => ?_)
      refine lv_iload_n hx hb dX3_readFact_43 rfl (lv_at hl 1 rfl) ?_
      refine lv_if_ne (tgt := 77) hx hb dX3_readFact_44 (by decide) (fun c => absurd (by decide) c) (fun _ => ?_)
      refine lv_iload_n hx hb dX3_readFact_47 rfl (lv_at hl 0 rfl) ?_
      refine lv_if_ne (tgt := 77) hx hb dX3_readFact_48 (by decide) (fun _ => ?_) (fun c => absurd c (by decide))
      exact J77 0 1 H locs ls w143 (by decide) (by decide) (by decide) (by decide)  hw hT hF c150 (lv_sub hl [2, 3, 1, 0] rfl)
  · refine lv_istore_n (lv' := [(2, .int 1), (0, .ref (ad 3)), (1, .int 5)]) hx hb dX3_readFact_20 rfl hl (by decide) rfl (fun ls hl => ?_)
    refine lv_iload_n hx hb dX3_readFact_21 rfl (lv_at hl 0 rfl) ?_
    refine lv_if_ne (tgt := 41) hx hb dX3_readFact_22 (by decide) (fun _ => ?_) (fun c => absurd c (by decide))
    exact J41 1 H locs ls w135 (by decide) (by decide)  hw hT hF c140 (lv_sub hl [1, 2, 0] rfl)
abbrev P_X3_readTest_6 (ad : Nat → Nat) (cy : Nat → ClassId) (B : Int) (qr : Nat) (s1 : Int)  (w0 : va_W) : va_W → Prop := fun u => TW ksC ad cy B qr s1 u ∧ FE ksC [(2, 3, 3), (3, 2, 2), (6, 1, 1), (6, 3, 3), (6, 4, 4), (22, 0, 13), (23, 0, 400)] w0 u ∧ (((∃ y : Int32, gi u 1 4 = y ∧ 0 ≤ y.toInt ∧ y.toInt ≤ 3204)))
set_option maxHeartbeats 4000000 in
set_option maxRecDepth 100000 in
theorem k_X3_readTest_6 (l : Launch) (adK adV : Nat → Nat) (dC : Nat → ClassId) (dI : Nat → Nat → Nat) (cy : Nat → ClassId) (ad : Nat → Nat) (B : Int) (hB0 : 2147483648 ≤ B) (hB1 : B ≤ 1152921504606846976) (qr : Nat) (s1 : Int) (hqr : ksC[qr]? = some 2)  (w0 : va_W) (sz : Nat) (hT : TW ksC ad cy B qr s1 w0) (cf0_ : gi w0 1 4 = 0) : Met l yX3_readTest wsX3_readTest ({ frames := 19, cells := 0, slots := 0, locals := 470 }) (va_Pc [.ref (ad 3), .int 5] (wpreS adK adV dC dI cy sz w0)) (va_Qv (P_X3_readTest_6 ad cy B qr s1  w0) (fun u : va_W => wpost dC dI cy (va_A w0 sz) u) (va_A w0 sz)) 0 0 (va_A w0 sz) := by
  refine Met.ofW (cc := cX3_readTest) (maxL := 4) (ret := none) (by decide) rfl ?_
  intro p e s m args below meth c s₁ Bk hml hv
  obtain ⟨rfl, ⟨hsz, hP, hK, hD0⟩, hE, hSR⟩ := hv
  have hx := Bk.exec
  have hb := Bk.bytes
  have hr := Bk.returns
  have hlocks := Bk.notSynchronized
  have hC : CallFix p m c cX3_readTest 4 s _ wsX3_readTest RX3 := ⟨hx, hb, hml, findClass_of_methodNamed Bk.named, atoms_spec (ws := wsX3_readTest) Bk.pre⟩
  subst hsz
  have hD := hD0.self (sz := s.heap.size)
  generalize hAe : va_A w0 s.heap.size = A at hD hE ⊢
  have hA : ∀ q : Nat, s.heap.size ≤ q → A q := fun q h => by rw [← hAe]; exact Or.inr h
  have hw : Wd dC dI A s.heap s.heap [] w0 := ⟨hP, hD, va_S.rf⟩
  have hF : FE ksC [(2, 3, 3), (3, 2, 2), (6, 1, 1), (6, 3, 3), (6, 4, 4), (22, 0, 13), (23, 0, 400)] w0 w0 := FE.rf
  have hl := lv_entry ([.ref (ad 3), .int 5]) (n := 4) (Nat.le_of_ble_eq_true rfl)
  rw [lg_entry_eq]
  generalize (lg_sl ([.ref (ad 3), .int 5]) ++ List.replicate (4 - (lg_sl ([.ref (ad 3), .int 5])).length) Slot.unset).toArray = ls at hl ⊢
  have hl : lv_has ls 4 [(0, .ref (ad 3)), (1, .int 5)] := hl
  generalize hloc : ([] : List Loc) = locs at hw ⊢
  have hinX3 : ∀ w ∈ u_ws RX3 TX3 3, w ∈ wsX3_readTest := fun _ h => List.mem_cons_of_mem _ (List.mem_append_left _ (List.mem_append_left _ (List.mem_append_right _ (h))))
  have J86 : ∀ (v86_2 : Int32) (v86_3 : Int32) (f86_1_4 : Int32) (H : Heap) (locs : List Loc) (ls : Array Slot) (w1 : va_W), (-1) ≤ v86_2.toInt → v86_2.toInt ≤ 21 → 0 ≤ v86_3.toInt → v86_3.toInt ≤ 400 → 0 ≤ f86_1_4.toInt → f86_1_4.toInt ≤ 3204 → Wd dC dI A s.heap H locs w1 → TW ksC ad cy B qr s1 w1 → FE ksC [(2, 3, 3), (3, 2, 2), (6, 1, 1), (6, 3, 3), (6, 4, 4), (22, 0, 13), (23, 0, 400)] w0 w1 → gi w1 1 4 = f86_1_4 → lv_has ls 4 [(0, .ref (ad 3)), (1, .int 5), (2, .int v86_2), (3, .int v86_3)] → W p l e ({ frames := 19, cells := 0, slots := 0, locals := 470 }) s m (List.toArray [.ref (ad 3), .int 5]) below meth c H locs 0 0 (MQ below (va_Qv (P_X3_readTest_6 ad cy B qr s1  w0) (fun u : va_W => wpost dC dI cy A u) A) (List.toArray [.ref (ad 3), .int 5]) s 0 0 A) (F0 m 86 ls []) := by
    intro v86_2 v86_3 f86_1_4 H locs ls w1 r2 t3 r4 t5 r6 t7 hw hT hF c8 hl
    refine lv_aload_n hx hb dX3_readTest_86 rfl (lv_at hl 0 rfl) ?_
    refine lv_iload_n hx hb dX3_readTest_87 rfl (lv_at hl 2 rfl) ?_
    refine tk_Vv hC hK hw hT hA hE hSR kC_at3 (by decide) rfl (k_X3_addWaiting_1 l adK adV dC dI cy ad B (by omega) (by omega) qr s1 hqr  v86_2 (show (-1) ≤ v86_2.toInt by omega) (show v86_2.toInt ≤ 21 by omega) w1 H.size hT ) (cwV 1 hC.2.2.2.2 gX3_readTest_X3_addWaiting rfl rfl rfl (by decide +kernel) ⟨Nat.le_of_ble_eq_true rfl, Nat.le_of_ble_eq_true rfl⟩) rfl hl.1 rfl (Nat.le_of_ble_eq_true rfl) dX3_readTest_88 (fun w11 H locs hp10 hw => ?_)
    obtain ⟨hT, k12, hg13⟩ := hp10
    have hF := hF.tr k12 (by decide)
    have c14 := k12.gi kC_at1 (by decide) c8
    clear hg13
    exact tk_vret hC hr hlocks hK ⟨hT, hF, ⟨f86_1_4, c14, (show 0 ≤ f86_1_4.toInt by omega), (show f86_1_4.toInt ≤ 3204 by omega)⟩⟩ hw dX3_readTest_91
  have L9 : ∀ (n9 : Nat) (v9_2 : Int32) (v9_3 : Int32) (f9_1_4 : Int32) (H : Heap) (locs : List Loc) (ls : Array Slot) (w15 : va_W), (-1) ≤ v9_2.toInt → v9_2.toInt ≤ 21 → 0 ≤ v9_3.toInt → v9_3.toInt ≤ 400 → 0 ≤ f9_1_4.toInt → f9_1_4.toInt ≤ 3204 → (400 - v9_3.toInt).toNat < n9 → Wd dC dI A s.heap H locs w15 → TW ksC ad cy B qr s1 w15 → FE ksC [(2, 3, 3), (3, 2, 2), (6, 1, 1), (6, 3, 3), (6, 4, 4), (22, 0, 13), (23, 0, 400)] w0 w15 → gi w15 1 4 = f9_1_4 → lv_has ls 4 [(0, .ref (ad 3)), (1, .int 5), (2, .int v9_2), (3, .int v9_3)] → W p l e ({ frames := 19, cells := 0, slots := 0, locals := 470 }) s m (List.toArray [.ref (ad 3), .int 5]) below meth c H locs 0 0 (MQ below (va_Qv (P_X3_readTest_6 ad cy B qr s1  w0) (fun u : va_W => wpost dC dI cy A u) A) (List.toArray [.ref (ad 3), .int 5]) s 0 0 A) (F0 m 9 ls []) := by
    intro n9
    induction n9 with
    | zero => intro v9_2 v9_3 f9_1_4 H locs ls w15 r16 t17 r18 t19 r20 t21 hm9 hw hT hF c22 hl; omega
    | succ n9 ih9 =>
      intro v9_2 v9_3 f9_1_4 H locs ls w15 r16 t17 r18 t19 r20 t21 hm9 hw hT hF c22 hl
      have J80 : ∀ (v80_2 : Int32) (f80_1_4 : Int32) (H : Heap) (locs : List Loc) (ls : Array Slot) (w23 : va_W), (-1) ≤ v80_2.toInt → v80_2.toInt ≤ 21 → 0 ≤ v9_3.toInt → v9_3.toInt ≤ 399 → 0 ≤ f80_1_4.toInt → f80_1_4.toInt ≤ 3204 → Wd dC dI A s.heap H locs w23 → TW ksC ad cy B qr s1 w23 → FE ksC [(2, 3, 3), (3, 2, 2), (6, 1, 1), (6, 3, 3), (6, 4, 4), (22, 0, 13), (23, 0, 400)] w0 w23 → gi w23 1 4 = f80_1_4 → lv_has ls 4 [(0, .ref (ad 3)), (1, .int 5), (2, .int v80_2), (3, .int v9_3)] → W p l e ({ frames := 19, cells := 0, slots := 0, locals := 470 }) s m (List.toArray [.ref (ad 3), .int 5]) below meth c H locs 0 0 (MQ below (va_Qv (P_X3_readTest_6 ad cy B qr s1  w0) (fun u : va_W => wpost dC dI cy A u) A) (List.toArray [.ref (ad 3), .int 5]) s 0 0 A) (F0 m 80 ls []) := by
        intro v80_2 f80_1_4 H locs ls w23 r24 t25 r26 t27 r28 t29 hw hT hF c30 hl
        obtain ⟨x31, ex31⟩ : ∃ y : Int32, y = v9_3 + Int32.ofInt 1 := ⟨_, rfl⟩
        refine lv_iinc (v := x31) (lv' := [(3, .int x31), (0, .ref (ad 3)), (1, .int 5), (2, .int v80_2)]) hx hb dX3_readTest_80 hl (k := 3) rfl ex31.symm (by decide) rfl (fun ls hl => ?_)
        have ex31 : x31.toInt = v9_3.toInt + 1 := by rw [ex31]; exact wk_add (y := 1) (show -2147483648 ≤ v9_3.toInt + 1 by omega) (show v9_3.toInt + 1 ≤ 2147483647 by omega)
        refine lv_goto (tgt := 9) hx hb dX3_readTest_83 (by decide) ?_
        exact ih9 v80_2 x31 f80_1_4 H locs ls w23 (show (-1) ≤ v80_2.toInt by omega) (show v80_2.toInt ≤ 21 by omega) (show 0 ≤ x31.toInt by omega) (show x31.toInt ≤ 400 by omega) (show 0 ≤ f80_1_4.toInt by omega) (show f80_1_4.toInt ≤ 3204 by omega) (show (400 - x31.toInt).toNat < n9 by omega) hw hT hF c30 (lv_sub hl [1, 2, 3, 0] rfl)
      refine lv_iload_n hx hb dX3_readTest_9 rfl (lv_at hl 3 rfl) ?_
      refine lv_sipush (v := 400) hx hb dX3_readTest_10 (by decide) ?_
      refine lv_icmp_ge (tgt := 86) hx hb dX3_readTest_13 (by decide) (fun c32 => ?_) (fun c32 => ?_)
      · have c32 : (400 : Int) ≤ v9_3.toInt := wk_le.mp c32
        exact J86 v9_2 v9_3 f9_1_4 H locs ls w15 (show (-1) ≤ v9_2.toInt by omega) (show v9_2.toInt ≤ 21 by omega) (show 0 ≤ v9_3.toInt by omega) (show v9_3.toInt ≤ 400 by omega) (show 0 ≤ f9_1_4.toInt by omega) (show f9_1_4.toInt ≤ 3204 by omega)  hw hT hF c22 (lv_sub hl [0, 1, 2, 3] rfl)
      · have c32 : v9_3.toInt < (400 : Int) := wk_leF c32
        refine lv_aload_n hx hb dX3_readTest_16 rfl (lv_at hl 0 rfl) ?_
        refine tk_getA hC hK hw hT hinX3 kC_at3 (by decide) rfl 0 (by decide) (List.mem_of_getElem? (i := 1) rfl) rfl rfl dX3_readTest_17 ?_
        refine tk_Vi hC hK hw hT hA hE hSR kC_at1 (by decide) rfl (k_X6_isFaulty_2 l adK adV dC dI cy ad B (by omega) (by omega) qr s1    w15 H.size hT f9_1_4 c22 (show 0 ≤ f9_1_4.toInt by omega) (show f9_1_4.toInt ≤ 3204 by omega)) (cwV 0 hC.2.2.2.2 gX3_readTest_X6_isFaulty rfl rfl rfl (by decide +kernel) ⟨Nat.le_of_ble_eq_true rfl, Nat.le_of_ble_eq_true rfl⟩) rfl hl.1 rfl (Nat.le_of_ble_eq_true rfl) dX3_readTest_20 (fun r33 w35 H locs hp34 hw => ?_)
        obtain ⟨hT, k36, hg41⟩ := hp34
        have hF := hF.tr k36 (by decide)
        have c42 := k36.gi kC_at1 (by decide) c22
        rcases hg41 with ⟨rfl, ⟨x37, c38, rx37, tx37⟩⟩ | ⟨rfl, ⟨x39, c40, rx39, tx39⟩⟩
        · have ex37 : x37.toInt = f9_1_4.toInt := by rw [← c42.symm.trans c38]
          refine lv_if_ne (tgt := 86) hx hb dX3_readTest_23 (by decide) (fun c => absurd (by decide) c) (fun _ => ?_)
          refine lv_aload_n hx hb dX3_readTest_26 rfl (lv_at hl 0 rfl) ?_
          refine tk_getA hC hK hw hT hinX3 kC_at3 (by decide) rfl 0 (by decide) (List.mem_of_getElem? (i := 1) rfl) rfl rfl dX3_readTest_27 ?_
          refine va_ldcS hx hb hC.2.2.2.1 hSR.2.2.2.2.2.2.1 dX3_readTest_30 ?_
          refine tk_Vi hC hK hw hT hA hE hSR kC_at1 (by decide) rfl (k_X6_takeWord_2 l adK adV dC dI cy ad B (by omega) (by omega) qr s1    w35 H.size hT ) (cwV 1 hC.2.2.2.2 gX3_readTest_X6_takeWord rfl rfl rfl (by decide +kernel) ⟨Nat.le_of_ble_eq_true rfl, Nat.le_of_ble_eq_true rfl⟩) rfl hl.1 rfl (Nat.le_of_ble_eq_true rfl) dX3_readTest_32 (fun r43 w45 H locs hp44 hw => ?_)
          obtain ⟨hT, k46, hg49⟩ := hp44
          have hF := hF.tr k46 (by decide)
          have c50 := k46.gi kC_at1 (by decide) c42
          rcases hg49 with rfl | ⟨rfl, ⟨x47, c48, rx47, tx47⟩⟩
          · refine lv_if_eq (tgt := 55) hx hb dX3_readTest_35 (by decide) (fun _ => ?_) (fun c => absurd (by decide) c)
            refine lv_aload_n hx hb dX3_readTest_55 rfl (lv_at hl 0 rfl) ?_
            refine tk_getA hC hK hw hT hinX3 kC_at3 (by decide) rfl 0 (by decide) (List.mem_of_getElem? (i := 1) rfl) rfl rfl dX3_readTest_56 ?_
            refine va_ldcS hx hb hC.2.2.2.1 hSR.2.2.2.2.2.2.2 dX3_readTest_59 ?_
            refine tk_Vi hC hK hw hT hA hE hSR kC_at1 (by decide) rfl (k_X6_takeWord_3 l adK adV dC dI cy ad B (by omega) (by omega) qr s1    w45 H.size hT ) (cwV 1 hC.2.2.2.2 gX3_readTest_X6_takeWord rfl rfl rfl (by decide +kernel) ⟨Nat.le_of_ble_eq_true rfl, Nat.le_of_ble_eq_true rfl⟩) rfl hl.1 rfl (Nat.le_of_ble_eq_true rfl) dX3_readTest_61 (fun r51 w53 H locs hp52 hw => ?_)
            obtain ⟨hT, k54, hg57⟩ := hp52
            have hF := hF.tr k54 (by decide)
            have c58 := k54.gi kC_at1 (by decide) c50
            rcases hg57 with rfl | ⟨rfl, ⟨x55, c56, rx55, tx55⟩⟩
            · refine lv_if_eq (tgt := 86) hx hb dX3_readTest_64 (by decide) (fun _ => ?_) (fun c => absurd (by decide) c)
              exact J86 v9_2 v9_3 f9_1_4 H locs ls w53 (show (-1) ≤ v9_2.toInt by omega) (show v9_2.toInt ≤ 21 by omega) (show 0 ≤ v9_3.toInt by omega) (show v9_3.toInt ≤ 400 by omega) (show 0 ≤ f9_1_4.toInt by omega) (show f9_1_4.toInt ≤ 3204 by omega)  hw hT hF c58 (lv_sub hl [0, 1, 2, 3] rfl)
            · refine lv_if_eq (tgt := 86) hx hb dX3_readTest_64 (by decide) (fun c => absurd c (by decide)) (fun _ => ?_)
              refine lv_aload_n hx hb dX3_readTest_67 rfl (lv_at hl 0 rfl) ?_
              refine lv_iload_n hx hb dX3_readTest_68 rfl (lv_at hl 2 rfl) ?_
              refine tk_Vv hC hK hw hT hA hE hSR kC_at3 (by decide) rfl (k_X3_addWaiting_1 l adK adV dC dI cy ad B (by omega) (by omega) qr s1 hqr  v9_2 (show (-1) ≤ v9_2.toInt by omega) (show v9_2.toInt ≤ 21 by omega) w53 H.size hT ) (cwV 1 hC.2.2.2.2 gX3_readTest_X3_addWaiting rfl rfl rfl (by decide +kernel) ⟨Nat.le_of_ble_eq_true rfl, Nat.le_of_ble_eq_true rfl⟩) rfl hl.1 rfl (Nat.le_of_ble_eq_true rfl) dX3_readTest_69 (fun w61 H locs hp60 hw => ?_)
              obtain ⟨hT, k62, hg63⟩ := hp60
              have hF := hF.tr k62 (by decide)
              have c64 := k62.gi kC_at1 (by decide) c58
              have c65 := k62.gi kC_at1 (by decide) c56
              clear hg63
              refine lv_bipush (v := 21) hx hb dX3_readTest_72 (by decide) ?_
              refine lv_istore_n (lv' := [(2, .int 21), (0, .ref (ad 3)), (1, .int 5), (3, .int v9_3)]) hx hb dX3_readTest_74 rfl hl (by decide) rfl (fun ls hl => ?_)
              refine lv_aload_n hx hb dX3_readTest_75 rfl (lv_at hl 1 rfl) ?_
              refine lv_iload_n hx hb dX3_readTest_76 rfl (lv_at hl 2 rfl) ?_
              refine tk_Vv hC hK hw hT hA hE hSR kC_at3 (by decide) rfl (k_X3_readFact_6 l adK adV dC dI cy ad B (by omega) (by omega) qr s1 hqr   w61 H.size hT (c64.trans (wk_eq.mpr (show f9_1_4.toInt = 0 by omega)))) (cwV 1 hC.2.2.2.2 gX3_readTest_X3_readFact rfl rfl rfl (by decide +kernel) ⟨Nat.le_of_ble_eq_true rfl, Nat.le_of_ble_eq_true rfl⟩) rfl hl.1 rfl (Nat.le_of_ble_eq_true rfl) dX3_readTest_77 (fun w68 H locs hp67 hw => ?_)
              obtain ⟨hT, k69, hg72⟩ := hp67
              have hF := hF.tr k69 (by decide)
              obtain ⟨x70, c71, rx70, tx70⟩ := hg72
              exact J80 21 x70 H locs ls w68 (by decide) (by decide) (show 0 ≤ v9_3.toInt by omega) (show v9_3.toInt ≤ 399 by omega) (show 0 ≤ x70.toInt by omega) (show x70.toInt ≤ 3204 by omega)  hw hT hF c71 (lv_sub hl [1, 2, 0, 3] rfl)
          · refine lv_if_eq (tgt := 55) hx hb dX3_readTest_35 (by decide) (fun c => absurd c (by decide)) (fun _ => ?_)
            refine lv_aload_n hx hb dX3_readTest_38 rfl (lv_at hl 0 rfl) ?_
            refine lv_iload_n hx hb dX3_readTest_39 rfl (lv_at hl 1 rfl) ?_
            refine tk_Vv hC hK hw hT hA hE hSR kC_at3 (by decide) rfl (k_X3_readFact_6 l adK adV dC dI cy ad B (by omega) (by omega) qr s1 hqr   w45 H.size hT (c50.trans (wk_eq.mpr (show f9_1_4.toInt = 0 by omega)))) (cwV 1 hC.2.2.2.2 gX3_readTest_X3_readFact rfl rfl rfl (by decide +kernel) ⟨Nat.le_of_ble_eq_true rfl, Nat.le_of_ble_eq_true rfl⟩) rfl hl.1 rfl (Nat.le_of_ble_eq_true rfl) dX3_readTest_40 (fun w75 H locs hp74 hw => ?_)
            obtain ⟨hT, k76, hg79⟩ := hp74
            have hF := hF.tr k76 (by decide)
            obtain ⟨x77, c78, rx77, tx77⟩ := hg79
            refine lv_aload_n hx hb dX3_readTest_43 rfl (lv_at hl 0 rfl) ?_
            refine tk_getQ hC hK hw hT hqr (by decide) hinX3 kC_at3 (by decide) rfl 1 (by decide) (List.mem_of_getElem? (i := 2) rfl) rfl rfl dX3_readTest_44 ?_
            refine lv_bipush (v := 20) hx hb dX3_readTest_47 (by decide) ?_
            refine tk_Vv hC hK hw hT hA hE hSR hqr (by decide) rfl (k_X2_addToken_10 l adK adV dC dI cy ad B (by omega) (by omega) qr s1   qr hqr w75 H.size hT ) (cwV 1 hC.2.2.2.2 gX3_readTest_X2_addToken rfl rfl rfl (by decide +kernel) ⟨Nat.le_of_ble_eq_true rfl, Nat.le_of_ble_eq_true rfl⟩) rfl hl.1 rfl (Nat.le_of_ble_eq_true rfl) dX3_readTest_49 (fun w82 H locs hp81 hw => ?_)
            obtain ⟨hT, k83, hg86⟩ := hp81
            have hF := hF.tr k83 (by decide)
            have c87 := k83.gi kC_at1 (by decide) c78
            obtain ⟨x84, c85, rx84, tx84⟩ := hg86
            refine lv_goto (tgt := 80) hx hb dX3_readTest_52 (by decide) ?_
            exact J80 v9_2 x77 H locs ls w82 (show (-1) ≤ v9_2.toInt by omega) (show v9_2.toInt ≤ 21 by omega) (show 0 ≤ v9_3.toInt by omega) (show v9_3.toInt ≤ 399 by omega) (show 0 ≤ x77.toInt by omega) (show x77.toInt ≤ 3204 by omega)  hw hT hF c87 (lv_sub hl [0, 1, 2, 3] rfl)
        · have ex39 : x39.toInt = f9_1_4.toInt := by rw [← c42.symm.trans c40]
          refine lv_if_ne (tgt := 86) hx hb dX3_readTest_23 (by decide) (fun _ => ?_) (fun c => absurd c (by decide))
          exact J86 v9_2 v9_3 f9_1_4 H locs ls w35 (show (-1) ≤ v9_2.toInt by omega) (show v9_2.toInt ≤ 21 by omega) (show 0 ≤ v9_3.toInt by omega) (show v9_3.toInt ≤ 400 by omega) (show 0 ≤ f9_1_4.toInt by omega) (show f9_1_4.toInt ≤ 3204 by omega)  hw hT hF c42 (lv_sub hl [0, 1, 2, 3] rfl)
  refine lv_aload_n hx hb dX3_readTest_0 rfl (lv_at hl 0 rfl) ?_
  refine lv_iload_n hx hb dX3_readTest_1 rfl (lv_at hl 1 rfl) ?_
  refine tk_Vv hC hK hw hT hA hE hSR kC_at3 (by decide) rfl (k_X3_readFact_6 l adK adV dC dI cy ad B (by omega) (by omega) qr s1 hqr   w0 s.heap.size hT cf0_) (cwV 1 hC.2.2.2.2 gX3_readTest_X3_readFact rfl rfl rfl (by decide +kernel) ⟨Nat.le_of_ble_eq_true rfl, Nat.le_of_ble_eq_true rfl⟩) rfl hl.1 rfl (Nat.le_of_ble_eq_true rfl) dX3_readTest_2 (fun w90 H locs hp89 hw => ?_)
  obtain ⟨hT, k91, hg94⟩ := hp89
  have hF := hF.tr k91 (by decide)
  obtain ⟨x92, c93, rx92, tx92⟩ := hg94
  refine lv_iconst (v := (-1)) hx hb dX3_readTest_5 (by decide) ?_
  refine lv_istore_n (lv' := [(2, .int (-1)), (0, .ref (ad 3)), (1, .int 5)]) hx hb dX3_readTest_6 rfl hl (by decide) rfl (fun ls hl => ?_)
  refine lv_iconst (v := 0) hx hb dX3_readTest_7 (by decide) ?_
  refine lv_istore_n (lv' := [(3, .int 0), (2, .int (-1)), (0, .ref (ad 3)), (1, .int 5)]) hx hb dX3_readTest_8 rfl hl (by decide) rfl (fun ls hl => ?_)
  exact L9 ((400 - (0 : Int)).toNat + 1) (-1) 0 x92 H locs ls w90 (by decide) (by decide) (by decide) (by decide) (show 0 ≤ x92.toInt by omega) (show x92.toInt ≤ 3204 by omega) (Nat.lt_succ_self _) hw hT hF c93 (lv_sub hl [2, 3, 1, 0] rfl)
abbrev P_X3_readFact_5 (ad : Nat → Nat) (cy : Nat → ClassId) (B : Int) (qr : Nat) (s1 : Int)  (w0 : va_W) : va_W → Prop := fun u => TW ksC ad cy B qr s1 u ∧ FE ksC [(2, 3, 3), (3, 2, 2), (6, 1, 1), (6, 3, 3), (6, 4, 4), (22, 0, 13), (23, 0, 400)] w0 u ∧ (((∃ y : Int32, gi u 1 4 = y ∧ 0 ≤ y.toInt ∧ y.toInt ≤ 3204)))
set_option maxHeartbeats 4000000 in
set_option maxRecDepth 100000 in
theorem k_X3_readFact_5 (l : Launch) (adK adV : Nat → Nat) (dC : Nat → ClassId) (dI : Nat → Nat → Nat) (cy : Nat → ClassId) (ad : Nat → Nat) (B : Int) (hB0 : 2147483648 ≤ B) (hB1 : B ≤ 1152921504606846976) (qr : Nat) (s1 : Int) (hqr : ksC[qr]? = some 2)  (w0 : va_W) (sz : Nat) (hT : TW ksC ad cy B qr s1 w0) (cf0_ : gi w0 1 4 = 0) : Met l yX3_readFact wsX3_readFact ({ frames := 20, cells := 0, slots := 0, locals := 493 }) (va_Pc [.ref (ad 3), .int 4] (wpreS adK adV dC dI cy sz w0)) (va_Qv (P_X3_readFact_5 ad cy B qr s1  w0) (fun u : va_W => wpost dC dI cy (va_A w0 sz) u) (va_A w0 sz)) 0 0 (va_A w0 sz) := by
  refine Met.ofW (cc := cX3_readFact) (maxL := 5) (ret := none) (by decide) rfl ?_
  intro p e s m args below meth c s₁ Bk hml hv
  obtain ⟨rfl, ⟨hsz, hP, hK, hD0⟩, hE, hSR⟩ := hv
  have hx := Bk.exec
  have hb := Bk.bytes
  have hr := Bk.returns
  have hlocks := Bk.notSynchronized
  have hC : CallFix p m c cX3_readFact 5 s _ wsX3_readFact RX3 := ⟨hx, hb, hml, findClass_of_methodNamed Bk.named, atoms_spec (ws := wsX3_readFact) Bk.pre⟩
  subst hsz
  have hD := hD0.self (sz := s.heap.size)
  generalize hAe : va_A w0 s.heap.size = A at hD hE ⊢
  have hA : ∀ q : Nat, s.heap.size ≤ q → A q := fun q h => by rw [← hAe]; exact Or.inr h
  have hw : Wd dC dI A s.heap s.heap [] w0 := ⟨hP, hD, va_S.rf⟩
  have hF : FE ksC [(2, 3, 3), (3, 2, 2), (6, 1, 1), (6, 3, 3), (6, 4, 4), (22, 0, 13), (23, 0, 400)] w0 w0 := FE.rf
  have hl := lv_entry ([.ref (ad 3), .int 4]) (n := 5) (Nat.le_of_ble_eq_true rfl)
  rw [lg_entry_eq]
  generalize (lg_sl ([.ref (ad 3), .int 4]) ++ List.replicate (5 - (lg_sl ([.ref (ad 3), .int 4])).length) Slot.unset).toArray = ls at hl ⊢
  have hl : lv_has ls 5 [(0, .ref (ad 3)), (1, .int 4)] := hl
  generalize hloc : ([] : List Loc) = locs at hw ⊢
  have hinX3 : ∀ w ∈ u_ws RX3 TX3 3, w ∈ wsX3_readFact := fun _ h => List.mem_cons_of_mem _ (List.mem_append_left _ (List.mem_append_left _ (List.mem_append_right _ (h))))
  have J160 : ∀ (v160_2 : Int32) (v160_3 : Int32) (f160_1_4 : Int32) (H : Heap) (locs : List Loc) (ls : Array Slot) (w1 : va_W), 0 ≤ v160_2.toInt → v160_2.toInt ≤ 1 → 0 ≤ v160_3.toInt → v160_3.toInt ≤ 1 → 0 ≤ f160_1_4.toInt → f160_1_4.toInt ≤ 3204 → Wd dC dI A s.heap H locs w1 → TW ksC ad cy B qr s1 w1 → FE ksC [(2, 3, 3), (3, 2, 2), (6, 1, 1), (6, 3, 3), (6, 4, 4), (22, 0, 13), (23, 0, 400)] w0 w1 → gi w1 1 4 = f160_1_4 → lv_has ls 5 [(0, .ref (ad 3)), (1, .int 4), (2, .int v160_2), (3, .int v160_3)] → W p l e ({ frames := 20, cells := 0, slots := 0, locals := 493 }) s m (List.toArray [.ref (ad 3), .int 4]) below meth c H locs 0 0 (MQ below (va_Qv (P_X3_readFact_5 ad cy B qr s1  w0) (fun u : va_W => wpost dC dI cy A u) A) (List.toArray [.ref (ad 3), .int 4]) s 0 0 A) (F0 m 160 ls []) := by
    intro v160_2 v160_3 f160_1_4 H locs ls w1 r2 t3 r4 t5 r6 t7 hw hT hF c8 hl
    exact tk_vret hC hr hlocks hK ⟨hT, hF, ⟨f160_1_4, c8, (show 0 ≤ f160_1_4.toInt by omega), (show f160_1_4.toInt ≤ 3204 by omega)⟩⟩ hw dX3_readFact_160
  have J77 : ∀ (v77_2 : Int32) (v77_3 : Int32) (H : Heap) (locs : List Loc) (ls : Array Slot) (w9 : va_W), 0 ≤ v77_2.toInt → v77_2.toInt ≤ 1 → 0 ≤ v77_3.toInt → v77_3.toInt ≤ 1 → Wd dC dI A s.heap H locs w9 → TW ksC ad cy B qr s1 w9 → FE ksC [(2, 3, 3), (3, 2, 2), (6, 1, 1), (6, 3, 3), (6, 4, 4), (22, 0, 13), (23, 0, 400)] w0 w9 → gi w9 1 4 = 0 → lv_has ls 5 [(0, .ref (ad 3)), (1, .int 4), (2, .int v77_2), (3, .int v77_3)] → W p l e ({ frames := 20, cells := 0, slots := 0, locals := 493 }) s m (List.toArray [.ref (ad 3), .int 4]) below meth c H locs 0 0 (MQ below (va_Qv (P_X3_readFact_5 ad cy B qr s1  w0) (fun u : va_W => wpost dC dI cy A u) A) (List.toArray [.ref (ad 3), .int 4]) s 0 0 A) (F0 m 77 ls []) := by
    intro v77_2 v77_3 H locs ls w9 r10 t11 r12 t13 hw hT hF c14 hl
    refine lv_iload_n hx hb dX3_readFact_77 rfl (lv_at hl 1 rfl) ?_
    refine lv_bipush (v := 10) hx hb dX3_readFact_78 (by decide) ?_
    refine lv_icmp_lt (tgt := 101) hx hb dX3_readFact_80 (by decide) (fun _ => ?_) (fun c => absurd (by decide) c)
    refine lv_iload_n hx hb dX3_readFact_101 rfl (lv_at hl 2 rfl) ?_
    refine lv_if_eq (tgt := 124) hx hb dX3_readFact_102 (by decide) (fun c15 => ?_) (fun c15 => ?_)
    · have c15 : v77_2.toInt = (0 : Int) := wk_eq.mp c15
      refine lv_aload_n hx hb dX3_readFact_124 rfl (lv_at hl 0 rfl) ?_
      refine lv_iload_n hx hb dX3_readFact_125 rfl (lv_at hl 1 rfl) ?_
      refine lv_iconst (v := 1) hx hb dX3_readFact_126 (by decide) ?_
      refine lv_iadd hx hb dX3_readFact_127 ?_
      refine wk_top 5 (by decide) ?_
      refine tk_Vv hC hK hw hT hA hE hSR kC_at3 (by decide) rfl (k_X3_readTest_6 l adK adV dC dI cy ad B (by omega) (by omega) qr s1 hqr   w9 H.size hT c14) (cwV 1 hC.2.2.2.2 gX3_readFact_X3_readTest rfl rfl rfl (by decide +kernel) ⟨Nat.le_of_ble_eq_true rfl, Nat.le_of_ble_eq_true rfl⟩) rfl hl.1 rfl (Nat.le_of_ble_eq_true rfl) dX3_readFact_128 (fun w18 H locs hp17 hw => ?_)
      obtain ⟨hT, k19, hg22⟩ := hp17
      have hF := hF.tr k19 (by decide)
      obtain ⟨x20, c21, rx20, tx20⟩ := hg22
      refine lv_aload_n hx hb dX3_readFact_131 rfl (lv_at hl 0 rfl) ?_
      refine tk_getA hC hK hw hT hinX3 kC_at3 (by decide) rfl 0 (by decide) (List.mem_of_getElem? (i := 1) rfl) rfl rfl dX3_readFact_132 ?_
      refine tk_Vi hC hK hw hT hA hE hSR kC_at1 (by decide) rfl (k_X6_isFaulty_2 l adK adV dC dI cy ad B (by omega) (by omega) qr s1    w18 H.size hT x20 c21 (show 0 ≤ x20.toInt by omega) (show x20.toInt ≤ 3204 by omega)) (cwV 0 hC.2.2.2.2 gX3_readFact_X6_isFaulty rfl rfl rfl (by decide +kernel) ⟨Nat.le_of_ble_eq_true rfl, Nat.le_of_ble_eq_true rfl⟩) rfl hl.1 rfl (Nat.le_of_ble_eq_true rfl) dX3_readFact_135 (fun r23 w25 H locs hp24 hw => ?_)
      obtain ⟨hT, k26, hg31⟩ := hp24
      have hF := hF.tr k26 (by decide)
      have c32 := k26.gi kC_at1 (by decide) c21
      rcases hg31 with ⟨rfl, ⟨x27, c28, rx27, tx27⟩⟩ | ⟨rfl, ⟨x29, c30, rx29, tx29⟩⟩
      · have ex27 : x27.toInt = x20.toInt := by rw [← c32.symm.trans c28]
        refine lv_if_ne (tgt := 160) hx hb dX3_readFact_138 (by decide) (fun c => absurd (by decide) c) (fun _ => ?_)
        refine lv_aload_n hx hb dX3_readFact_141 rfl (lv_at hl 0 rfl) ?_
        refine tk_getA hC hK hw hT hinX3 kC_at3 (by decide) rfl 0 (by decide) (List.mem_of_getElem? (i := 1) rfl) rfl rfl dX3_readFact_142 ?_
        refine lv_bipush (v := 93) hx hb dX3_readFact_145 (by decide) ?_
        refine tk_Vi hC hK hw hT hA hE hSR kC_at1 (by decide) rfl (k_X6_takeByte_3 l adK adV dC dI cy ad B (by omega) (by omega) qr s1    w25 H.size hT ) (cwV 1 hC.2.2.2.2 gX3_readFact_X6_takeByte rfl rfl rfl (by decide +kernel) ⟨Nat.le_of_ble_eq_true rfl, Nat.le_of_ble_eq_true rfl⟩) rfl hl.1 rfl (Nat.le_of_ble_eq_true rfl) dX3_readFact_147 (fun r33 w35 H locs hp34 hw => ?_)
        obtain ⟨hT, k36, hg41⟩ := hp34
        have hF := hF.tr k36 (by decide)
        have c42 := k36.gi kC_at1 (by decide) c32
        rcases hg41 with rfl | ⟨rfl, ⟨x37, c38, rx37, tx37⟩, ⟨x39, c40, rx39, tx39⟩⟩
        · refine lv_if_ne (tgt := 160) hx hb dX3_readFact_150 (by decide) (fun c => absurd (by decide) c) (fun _ => ?_)
          refine lv_aload_n hx hb dX3_readFact_153 rfl (lv_at hl 0 rfl) ?_
          refine tk_getA hC hK hw hT hinX3 kC_at3 (by decide) rfl 0 (by decide) (List.mem_of_getElem? (i := 1) rfl) rfl rfl dX3_readFact_154 ?_
          refine tk_Vv hC hK hw hT hA hE hSR kC_at1 (by decide) rfl (k_X6_blameHere_1 l adK adV dC dI cy ad B (by omega) (by omega) qr s1    w35 H.size hT (c42.trans (wk_eq.mpr (show x20.toInt = 0 by omega)))) (cwV 0 hC.2.2.2.2 gX3_readFact_X6_blameHere rfl rfl rfl (by decide +kernel) ⟨Nat.le_of_ble_eq_true rfl, Nat.le_of_ble_eq_true rfl⟩) rfl hl.1 rfl (Nat.le_of_ble_eq_true rfl) dX3_readFact_157 (fun w45 H locs hp44 hw => ?_)
          obtain ⟨hT, k46, hg49⟩ := hp44
          have hF := hF.tr k46 (by decide)
          obtain ⟨x47, c48, rx47, tx47⟩ := hg49
          exact J160 v77_2 v77_3 x47 H locs ls w45 (show 0 ≤ v77_2.toInt by omega) (show v77_2.toInt ≤ 1 by omega) (show 0 ≤ v77_3.toInt by omega) (show v77_3.toInt ≤ 1 by omega) (show 0 ≤ x47.toInt by omega) (show x47.toInt ≤ 3204 by omega)  hw hT hF c48 (lv_sub hl [0, 1, 2, 3] rfl)
        · refine lv_if_ne (tgt := 160) hx hb dX3_readFact_150 (by decide) (fun _ => ?_) (fun c => absurd c (by decide))
          exact J160 v77_2 v77_3 x20 H locs ls w35 (show 0 ≤ v77_2.toInt by omega) (show v77_2.toInt ≤ 1 by omega) (show 0 ≤ v77_3.toInt by omega) (show v77_3.toInt ≤ 1 by omega) (show 0 ≤ x20.toInt by omega) (show x20.toInt ≤ 3204 by omega)  hw hT hF c42 (lv_sub hl [0, 1, 2, 3] rfl)
      · have ex29 : x29.toInt = x20.toInt := by rw [← c32.symm.trans c30]
        refine lv_if_ne (tgt := 160) hx hb dX3_readFact_138 (by decide) (fun _ => ?_) (fun c => absurd c (by decide))
        exact J160 v77_2 v77_3 x20 H locs ls w25 (show 0 ≤ v77_2.toInt by omega) (show v77_2.toInt ≤ 1 by omega) (show 0 ≤ v77_3.toInt by omega) (show v77_3.toInt ≤ 1 by omega) (show 0 ≤ x20.toInt by omega) (show x20.toInt ≤ 3204 by omega)  hw hT hF c32 (lv_sub hl [0, 1, 2, 3] rfl)
    · have c15 : ¬ v77_2.toInt = (0 : Int) := wk_eqF c15
      refine lv_aload_n hx hb dX3_readFact_105 rfl (lv_at hl 0 rfl) ?_
      refine lv_iload_n hx hb dX3_readFact_106 rfl (lv_at hl 1 rfl) ?_
      refine lv_iconst (v := 1) hx hb dX3_readFact_107 (by decide) ?_
      refine lv_iadd hx hb dX3_readFact_108 ?_
      refine wk_top 5 (by decide) ?_
      refine tk_Vv hC hK hw hT hA hE hSR kC_at3 (by decide) rfl (k_X3_readFact_6 l adK adV dC dI cy ad B (by omega) (by omega) qr s1 hqr   w9 H.size hT c14) (cwV 1 hC.2.2.2.2 gX3_readFact_X3_readFact rfl rfl rfl (by decide +kernel) ⟨Nat.le_of_ble_eq_true rfl, Nat.le_of_ble_eq_true rfl⟩) rfl hl.1 rfl (Nat.le_of_ble_eq_true rfl) dX3_readFact_109 (fun w52 H locs hp51 hw => ?_)
      obtain ⟨hT, k53, hg56⟩ := hp51
      have hF := hF.tr k53 (by decide)
      obtain ⟨x54, c55, rx54, tx54⟩ := hg56
      refine lv_aload_n hx hb dX3_readFact_112 rfl (lv_at hl 0 rfl) ?_
      refine tk_getQ hC hK hw hT hqr (by decide) hinX3 kC_at3 (by decide) rfl 1 (by decide) (List.mem_of_getElem? (i := 2) rfl) rfl rfl dX3_readFact_113 ?_
      refine lv_bipush (v := 19) hx hb dX3_readFact_116 (by decide) ?_
      refine tk_Vv hC hK hw hT hA hE hSR hqr (by decide) rfl (k_X2_addToken_11 l adK adV dC dI cy ad B (by omega) (by omega) qr s1   qr hqr w52 H.size hT ) (cwV 1 hC.2.2.2.2 gX3_readFact_X2_addToken rfl rfl rfl (by decide +kernel) ⟨Nat.le_of_ble_eq_true rfl, Nat.le_of_ble_eq_true rfl⟩) rfl hl.1 rfl (Nat.le_of_ble_eq_true rfl) dX3_readFact_118 (fun w59 H locs hp58 hw => ?_)
      obtain ⟨hT, k60, hg63⟩ := hp58
      have hF := hF.tr k60 (by decide)
      have c64 := k60.gi kC_at1 (by decide) c55
      obtain ⟨x61, c62, rx61, tx61⟩ := hg63
      refine lv_goto (tgt := 160) hx hb dX3_readFact_121 (by decide) ?_
      exact J160 v77_2 v77_3 x54 H locs ls w59 (show 0 ≤ v77_2.toInt by omega) (show v77_2.toInt ≤ 1 by omega) (show 0 ≤ v77_3.toInt by omega) (show v77_3.toInt ≤ 1 by omega) (show 0 ≤ x54.toInt by omega) (show x54.toInt ≤ 3204 by omega)  hw hT hF c64 (lv_sub hl [0, 1, 2, 3] rfl)
  have J41 : ∀ (v41_2 : Int32) (H : Heap) (locs : List Loc) (ls : Array Slot) (w65 : va_W), 0 ≤ v41_2.toInt → v41_2.toInt ≤ 1 → Wd dC dI A s.heap H locs w65 → TW ksC ad cy B qr s1 w65 → FE ksC [(2, 3, 3), (3, 2, 2), (6, 1, 1), (6, 3, 3), (6, 4, 4), (22, 0, 13), (23, 0, 400)] w0 w65 → gi w65 1 4 = 0 → lv_has ls 5 [(0, .ref (ad 3)), (1, .int 4), (2, .int v41_2)] → W p l e ({ frames := 20, cells := 0, slots := 0, locals := 493 }) s m (List.toArray [.ref (ad 3), .int 4]) below meth c H locs 0 0 (MQ below (va_Qv (P_X3_readFact_5 ad cy B qr s1  w0) (fun u : va_W => wpost dC dI cy A u) A) (List.toArray [.ref (ad 3), .int 4]) s 0 0 A) (F0 m 41 ls []) := by
    intro v41_2 H locs ls w65 r66 t67 hw hT hF c68 hl
    refine lv_iconst (v := 0) hx hb dX3_readFact_41 (by decide) ?_
    refine lv_istore_n (lv' := [(3, .int 0), (0, .ref (ad 3)), (1, .int 4), (2, .int v41_2)]) hx hb dX3_readFact_42 rfl hl (by decide) rfl (fun ls hl => ?_)
    refine lv_iload_n hx hb dX3_readFact_43 rfl (lv_at hl 3 rfl) ?_
    refine lv_if_ne (tgt := 77) hx hb dX3_readFact_44 (by decide) (fun c69 => ?_) (fun c69 => ?_)
    · have c69 : ¬ v41_2.toInt = (0 : Int) := wk_eqF c69
      exact J77 v41_2 0 H locs ls w65 (show 0 ≤ v41_2.toInt by omega) (show v41_2.toInt ≤ 1 by omega) (by decide) (by decide)  hw hT hF c68 (lv_sub hl [1, 2, 3, 0] rfl)
    · have c69 : v41_2.toInt = (0 : Int) := wk_eq.mp c69
      refine lv_iload_n hx hb dX3_readFact_47 rfl (lv_at hl 0 rfl) ?_
      refine lv_if_ne (tgt := 77) hx hb dX3_readFact_48 (by decide) (fun c => absurd (by decide) c) (fun _ => ?_)
      refine lv_aload_n hx hb dX3_readFact_51 rfl (lv_at hl 1 rfl) ?_
      refine tk_Vv hC hK hw hT hA hE hSR kC_at3 (by decide) rfl (k_X3_readSum_1 l adK adV dC dI cy ad B (by omega) (by omega) qr s1 hqr   w65 H.size hT c68) (cwV 0 hC.2.2.2.2 gX3_readFact_X3_readSum rfl rfl rfl (by decide +kernel) ⟨Nat.le_of_ble_eq_true rfl, Nat.le_of_ble_eq_true rfl⟩) rfl hl.1 rfl (Nat.le_of_ble_eq_true rfl) dX3_readFact_52 (fun w72 H locs hp71 hw => ?_)
      obtain ⟨hT, k73, hg76⟩ := hp71
      have hF := hF.tr k73 (by decide)
      obtain ⟨x74, c75, rx74, tx74⟩ := hg76
      refine lv_aload_n hx hb dX3_readFact_55 rfl (lv_at hl 1 rfl) ?_
      refine tk_Vi hC hK hw hT hA hE hSR kC_at3 (by decide) rfl (k_X3_readSign_1 l adK adV dC dI cy ad B (by omega) (by omega) qr s1    w72 H.size hT x74 c75 (show 0 ≤ x74.toInt by omega) (show x74.toInt ≤ 3204 by omega)) (cwV 0 hC.2.2.2.2 gX3_readFact_X3_readSign rfl rfl rfl (by decide +kernel) ⟨Nat.le_of_ble_eq_true rfl, Nat.le_of_ble_eq_true rfl⟩) rfl hl.1 rfl (Nat.le_of_ble_eq_true rfl) dX3_readFact_56 (fun r77 w79 H locs hp78 hw => ?_)
      obtain ⟨hT, k80, hg91⟩ := hp78
      have hF := hF.tr k80 (by decide)
      rcases hg91 with ⟨rfl, ⟨x81, c82, rx81, tx81⟩⟩ | ⟨g83, g84, ⟨x85, c86, rx85, tx85⟩, ⟨x87, c88, rx87, tx87⟩, ⟨x89, c90, rx89, tx89⟩⟩
      · refine lv_istore (lv' := [(4, .int 16), (3, .int 0), (0, .ref (ad 3)), (1, .int 4), (2, .int v41_2)]) hx hb dX3_readFact_59 hl (by decide) rfl (fun ls hl => ?_)
        refine lv_aload_n hx hb dX3_readFact_61 rfl (lv_at hl 2 rfl) ?_
        refine tk_Vv hC hK hw hT hA hE hSR kC_at3 (by decide) rfl (k_X3_readSum_2 l adK adV dC dI cy ad B (by omega) (by omega) qr s1 hqr   w79 H.size hT x81 c82 (show 1 ≤ x81.toInt by omega) (show x81.toInt ≤ 3204 by omega)) (cwV 0 hC.2.2.2.2 gX3_readFact_X3_readSum rfl rfl rfl (by decide +kernel) ⟨Nat.le_of_ble_eq_true rfl, Nat.le_of_ble_eq_true rfl⟩) rfl hl.1 rfl (Nat.le_of_ble_eq_true rfl) dX3_readFact_62 (fun w94 H locs hp93 hw => ?_)
        obtain ⟨hT, k95, hg98⟩ := hp93
        have hF := hF.tr k95 (by decide)
        have c99 := k95.gi kC_at1 (by decide) c82
        obtain ⟨x96, c97, rx96, tx96⟩ := hg98
        have ex96 : x96.toInt = x81.toInt := by rw [← c99.symm.trans c97]
        refine lv_aload_n hx hb dX3_readFact_65 rfl (lv_at hl 2 rfl) ?_
        refine tk_getQ hC hK hw hT hqr (by decide) hinX3 kC_at3 (by decide) rfl 1 (by decide) (List.mem_of_getElem? (i := 2) rfl) rfl rfl dX3_readFact_66 ?_
        refine lv_iload hx hb dX3_readFact_69 (lv_at hl 0 rfl) ?_
        refine tk_Vv hC hK hw hT hA hE hSR hqr (by decide) rfl (k_X2_addToken_8 l adK adV dC dI cy ad B (by omega) (by omega) qr s1   qr hqr w94 H.size hT ) (cwV 1 hC.2.2.2.2 gX3_readFact_X2_addToken rfl rfl rfl (by decide +kernel) ⟨Nat.le_of_ble_eq_true rfl, Nat.le_of_ble_eq_true rfl⟩) rfl hl.1 rfl (Nat.le_of_ble_eq_true rfl) dX3_readFact_71 (fun w102 H locs hp101 hw => ?_)
        obtain ⟨hT, k103, hg106⟩ := hp101
        have hF := hF.tr k103 (by decide)
        have c107 := k103.gi kC_at1 (by decide) c99
        obtain ⟨x104, c105, rx104, tx104⟩ := hg106
        refine lv_goto (tgt := 160) hx hb dX3_readFact_74 (by decide) ?_
        exact J160 v41_2 0 x81 H locs ls w102 (show 0 ≤ v41_2.toInt by omega) (show v41_2.toInt ≤ 1 by omega) (by decide) (by decide) (show 0 ≤ x81.toInt by omega) (show x81.toInt ≤ 3204 by omega)  hw hT hF c107 (lv_sub hl [2, 3, 4, 1] rfl)
      · refine lv_istore (lv' := [(4, .int r77), (3, .int 0), (0, .ref (ad 3)), (1, .int 4), (2, .int v41_2)]) hx hb dX3_readFact_59 hl (by decide) rfl (fun ls hl => ?_)
        refine lv_aload_n hx hb dX3_readFact_61 rfl (lv_at hl 2 rfl) ?_
        refine tk_Vv hC hK hw hT hA hE hSR kC_at3 (by decide) rfl (k_X3_readSum_3 l adK adV dC dI cy ad B (by omega) (by omega) qr s1 hqr   w79 H.size hT x89 c90 (show 0 ≤ x89.toInt by omega) (show x89.toInt ≤ 3204 by omega)) (cwV 0 hC.2.2.2.2 gX3_readFact_X3_readSum rfl rfl rfl (by decide +kernel) ⟨Nat.le_of_ble_eq_true rfl, Nat.le_of_ble_eq_true rfl⟩) rfl hl.1 rfl (Nat.le_of_ble_eq_true rfl) dX3_readFact_62 (fun w110 H locs hp109 hw => ?_)
        obtain ⟨hT, k111, hg114⟩ := hp109
        have hF := hF.tr k111 (by decide)
        have c115 := k111.gi kC_at1 (by decide) c86
        obtain ⟨x112, c113, rx112, tx112⟩ := hg114
        refine lv_aload_n hx hb dX3_readFact_65 rfl (lv_at hl 2 rfl) ?_
        refine tk_getQ hC hK hw hT hqr (by decide) hinX3 kC_at3 (by decide) rfl 1 (by decide) (List.mem_of_getElem? (i := 2) rfl) rfl rfl dX3_readFact_66 ?_
        refine lv_iload hx hb dX3_readFact_69 (lv_at hl 0 rfl) ?_
        refine tk_Vv hC hK hw hT hA hE hSR hqr (by decide) rfl (k_X2_addToken_9 l adK adV dC dI cy ad B (by omega) (by omega) qr s1   qr hqr r77 (show 14 ≤ r77.toInt by omega) (show r77.toInt ≤ 18 by omega) w110 H.size hT ) (cwV 1 hC.2.2.2.2 gX3_readFact_X2_addToken rfl rfl rfl (by decide +kernel) ⟨Nat.le_of_ble_eq_true rfl, Nat.le_of_ble_eq_true rfl⟩) rfl hl.1 rfl (Nat.le_of_ble_eq_true rfl) dX3_readFact_71 (fun w118 H locs hp117 hw => ?_)
        obtain ⟨hT, k119, hg122⟩ := hp117
        have hF := hF.tr k119 (by decide)
        have c123 := k119.gi kC_at1 (by decide) c115
        have c124 := k119.gi kC_at1 (by decide) c113
        obtain ⟨x120, c121, rx120, tx120⟩ := hg122
        refine lv_goto (tgt := 160) hx hb dX3_readFact_74 (by decide) ?_
        exact J160 v41_2 0 x112 H locs ls w118 (show 0 ≤ v41_2.toInt by omega) (show v41_2.toInt ≤ 1 by omega) (by decide) (by decide) (show 0 ≤ x112.toInt by omega) (show x112.toInt ≤ 3204 by omega)  hw hT hF c124 (lv_sub hl [2, 3, 4, 1] rfl)
  refine lv_aload_n hx hb dX3_readFact_0 rfl (lv_at hl 0 rfl) ?_
  refine tk_getA hC hK hw hT hinX3 kC_at3 (by decide) rfl 0 (by decide) (List.mem_of_getElem? (i := 1) rfl) rfl rfl dX3_readFact_1 ?_
  refine tk_Vi hC hK hw hT hA hE hSR kC_at1 (by decide) rfl (k_X6_isFaulty_3 l adK adV dC dI cy ad B (by omega) (by omega) qr s1    w0 s.heap.size hT cf0_) (cwV 0 hC.2.2.2.2 gX3_readFact_X6_isFaulty rfl rfl rfl (by decide +kernel) ⟨Nat.le_of_ble_eq_true rfl, Nat.le_of_ble_eq_true rfl⟩) rfl hl.1 rfl (Nat.le_of_ble_eq_true rfl) dX3_readFact_4 (fun r125 w127 H locs hp126 hw => ?_)
  obtain ⟨hT, k128, hg131⟩ := hp126
  have hF := hF.tr k128 (by decide)
  have c132 := k128.gi kC_at1 (by decide) cf0_
  obtain ⟨rfl, ⟨x129, c130, rx129, tx129⟩⟩ := hg131
  have ex129 : x129.toInt = (0 : Int) := by rw [show x129 = 0 from c130.symm.trans c132]; decide
  refine lv_if_eq (tgt := 11) hx hb dX3_readFact_7 (by decide) (fun _ => ?_) (fun c => absurd (by decide) c)
  refine lv_aload_n hx hb dX3_readFact_11 rfl (lv_at hl 0 rfl) ?_
  refine tk_getA hC hK hw hT hinX3 kC_at3 (by decide) rfl 0 (by decide) (List.mem_of_getElem? (i := 1) rfl) rfl rfl dX3_readFact_12 ?_
  refine va_ldcS hx hb hC.2.2.2.1 hSR.2.2.2.2.1 dX3_readFact_15 ?_
  refine tk_Vi hC hK hw hT hA hE hSR kC_at1 (by decide) rfl (k_X6_takeWord_4 l adK adV dC dI cy ad B (by omega) (by omega) qr s1    w127 H.size hT ) (cwV 1 hC.2.2.2.2 gX3_readFact_X6_takeWord rfl rfl rfl (by decide +kernel) ⟨Nat.le_of_ble_eq_true rfl, Nat.le_of_ble_eq_true rfl⟩) rfl hl.1 rfl (Nat.le_of_ble_eq_true rfl) dX3_readFact_17 (fun r133 w135 H locs hp134 hw => ?_)
  obtain ⟨hT, k136, hg139⟩ := hp134
  have hF := hF.tr k136 (by decide)
  have c140 := k136.gi kC_at1 (by decide) c132
  rcases hg139 with rfl | ⟨rfl, ⟨x137, c138, rx137, tx137⟩⟩
  · refine lv_istore_n (lv' := [(2, .int 0), (0, .ref (ad 3)), (1, .int 4)]) hx hb dX3_readFact_20 rfl hl (by decide) rfl (fun ls hl => ?_)
    refine lv_iload_n hx hb dX3_readFact_21 rfl (lv_at hl 0 rfl) ?_
    refine lv_if_ne (tgt := 41) hx hb dX3_readFact_22 (by decide) (fun c => absurd (by decide) c) (fun _ => ?_)
    refine lv_aload_n hx hb dX3_readFact_25 rfl (lv_at hl 1 rfl) ?_
    refine tk_getA hC hK hw hT hinX3 kC_at3 (by decide) rfl 0 (by decide) (List.mem_of_getElem? (i := 1) rfl) rfl rfl dX3_readFact_26 ?_
    refine lv_bipush (v := 91) hx hb dX3_readFact_29 (by decide) ?_
    refine tk_Vi hC hK hw hT hA hE hSR kC_at1 (by decide) rfl (k_X6_takeByte_2 l adK adV dC dI cy ad B (by omega) (by omega) qr s1    w135 H.size hT ) (cwV 1 hC.2.2.2.2 gX3_readFact_X6_takeByte rfl rfl rfl (by decide +kernel) ⟨Nat.le_of_ble_eq_true rfl, Nat.le_of_ble_eq_true rfl⟩) rfl hl.1 rfl (Nat.le_of_ble_eq_true rfl) dX3_readFact_31 (fun r141 w143 H locs hp142 hw => ?_)
    obtain ⟨hT, k144, hg149⟩ := hp142
    have hF := hF.tr k144 (by decide)
    have c150 := k144.gi kC_at1 (by decide) c140
    rcases hg149 with rfl | ⟨rfl, ⟨x145, c146, rx145, tx145⟩, ⟨x147, c148, rx147, tx147⟩⟩
    · refine lv_if_eq (tgt := 41) hx hb dX3_readFact_34 (by decide) (fun _ => ?_) (fun c => absurd (by decide) c)
      exact J41 0 H locs ls w143 (by decide) (by decide)  hw hT hF c150 (lv_sub hl [1, 2, 0] rfl)
    · refine lv_if_eq (tgt := 41) hx hb dX3_readFact_34 (by decide) (fun c => absurd c (by decide)) (fun _ => ?_)
      refine lv_iconst (v := 1) hx hb dX3_readFact_37 (by decide) ?_
      refine lv_goto (tgt := 42) hx hb dX3_readFact_38 (by decide) ?_
      refine lv_istore_n (lv' := [(3, .int 1), (2, .int 0), (0, .ref (ad 3)), (1, .int 4)]) hx hb dX3_readFact_42 rfl hl (by decide) rfl (fun ls hl => ?_)
      refine lv_iload_n hx hb dX3_readFact_43 rfl (lv_at hl 1 rfl) ?_
      refine lv_if_ne (tgt := 77) hx hb dX3_readFact_44 (by decide) (fun c => absurd (by decide) c) (fun _ => ?_)
      refine lv_iload_n hx hb dX3_readFact_47 rfl (lv_at hl 0 rfl) ?_
      refine lv_if_ne (tgt := 77) hx hb dX3_readFact_48 (by decide) (fun _ => ?_) (fun c => absurd c (by decide))
      exact J77 0 1 H locs ls w143 (by decide) (by decide) (by decide) (by decide)  hw hT hF c150 (lv_sub hl [2, 3, 1, 0] rfl)
  · refine lv_istore_n (lv' := [(2, .int 1), (0, .ref (ad 3)), (1, .int 4)]) hx hb dX3_readFact_20 rfl hl (by decide) rfl (fun ls hl => ?_)
    refine lv_iload_n hx hb dX3_readFact_21 rfl (lv_at hl 0 rfl) ?_
    refine lv_if_ne (tgt := 41) hx hb dX3_readFact_22 (by decide) (fun _ => ?_) (fun c => absurd c (by decide))
    exact J41 1 H locs ls w135 (by decide) (by decide)  hw hT hF c140 (lv_sub hl [1, 2, 0] rfl)
abbrev P_X3_readTest_5 (ad : Nat → Nat) (cy : Nat → ClassId) (B : Int) (qr : Nat) (s1 : Int)  (w0 : va_W) : va_W → Prop := fun u => TW ksC ad cy B qr s1 u ∧ FE ksC [(2, 3, 3), (3, 2, 2), (6, 1, 1), (6, 3, 3), (6, 4, 4), (22, 0, 13), (23, 0, 400)] w0 u ∧ (((∃ y : Int32, gi u 1 4 = y ∧ 0 ≤ y.toInt ∧ y.toInt ≤ 3204)))
set_option maxHeartbeats 4000000 in
set_option maxRecDepth 100000 in
theorem k_X3_readTest_5 (l : Launch) (adK adV : Nat → Nat) (dC : Nat → ClassId) (dI : Nat → Nat → Nat) (cy : Nat → ClassId) (ad : Nat → Nat) (B : Int) (hB0 : 2147483648 ≤ B) (hB1 : B ≤ 1152921504606846976) (qr : Nat) (s1 : Int) (hqr : ksC[qr]? = some 2)  (w0 : va_W) (sz : Nat) (hT : TW ksC ad cy B qr s1 w0) (cf0_ : gi w0 1 4 = 0) : Met l yX3_readTest wsX3_readTest ({ frames := 21, cells := 0, slots := 0, locals := 517 }) (va_Pc [.ref (ad 3), .int 4] (wpreS adK adV dC dI cy sz w0)) (va_Qv (P_X3_readTest_5 ad cy B qr s1  w0) (fun u : va_W => wpost dC dI cy (va_A w0 sz) u) (va_A w0 sz)) 0 0 (va_A w0 sz) := by
  refine Met.ofW (cc := cX3_readTest) (maxL := 4) (ret := none) (by decide) rfl ?_
  intro p e s m args below meth c s₁ Bk hml hv
  obtain ⟨rfl, ⟨hsz, hP, hK, hD0⟩, hE, hSR⟩ := hv
  have hx := Bk.exec
  have hb := Bk.bytes
  have hr := Bk.returns
  have hlocks := Bk.notSynchronized
  have hC : CallFix p m c cX3_readTest 4 s _ wsX3_readTest RX3 := ⟨hx, hb, hml, findClass_of_methodNamed Bk.named, atoms_spec (ws := wsX3_readTest) Bk.pre⟩
  subst hsz
  have hD := hD0.self (sz := s.heap.size)
  generalize hAe : va_A w0 s.heap.size = A at hD hE ⊢
  have hA : ∀ q : Nat, s.heap.size ≤ q → A q := fun q h => by rw [← hAe]; exact Or.inr h
  have hw : Wd dC dI A s.heap s.heap [] w0 := ⟨hP, hD, va_S.rf⟩
  have hF : FE ksC [(2, 3, 3), (3, 2, 2), (6, 1, 1), (6, 3, 3), (6, 4, 4), (22, 0, 13), (23, 0, 400)] w0 w0 := FE.rf
  have hl := lv_entry ([.ref (ad 3), .int 4]) (n := 4) (Nat.le_of_ble_eq_true rfl)
  rw [lg_entry_eq]
  generalize (lg_sl ([.ref (ad 3), .int 4]) ++ List.replicate (4 - (lg_sl ([.ref (ad 3), .int 4])).length) Slot.unset).toArray = ls at hl ⊢
  have hl : lv_has ls 4 [(0, .ref (ad 3)), (1, .int 4)] := hl
  generalize hloc : ([] : List Loc) = locs at hw ⊢
  have hinX3 : ∀ w ∈ u_ws RX3 TX3 3, w ∈ wsX3_readTest := fun _ h => List.mem_cons_of_mem _ (List.mem_append_left _ (List.mem_append_left _ (List.mem_append_right _ (h))))
  have J86 : ∀ (v86_2 : Int32) (v86_3 : Int32) (f86_1_4 : Int32) (H : Heap) (locs : List Loc) (ls : Array Slot) (w1 : va_W), (-1) ≤ v86_2.toInt → v86_2.toInt ≤ 21 → 0 ≤ v86_3.toInt → v86_3.toInt ≤ 400 → 0 ≤ f86_1_4.toInt → f86_1_4.toInt ≤ 3204 → Wd dC dI A s.heap H locs w1 → TW ksC ad cy B qr s1 w1 → FE ksC [(2, 3, 3), (3, 2, 2), (6, 1, 1), (6, 3, 3), (6, 4, 4), (22, 0, 13), (23, 0, 400)] w0 w1 → gi w1 1 4 = f86_1_4 → lv_has ls 4 [(0, .ref (ad 3)), (1, .int 4), (2, .int v86_2), (3, .int v86_3)] → W p l e ({ frames := 21, cells := 0, slots := 0, locals := 517 }) s m (List.toArray [.ref (ad 3), .int 4]) below meth c H locs 0 0 (MQ below (va_Qv (P_X3_readTest_5 ad cy B qr s1  w0) (fun u : va_W => wpost dC dI cy A u) A) (List.toArray [.ref (ad 3), .int 4]) s 0 0 A) (F0 m 86 ls []) := by
    intro v86_2 v86_3 f86_1_4 H locs ls w1 r2 t3 r4 t5 r6 t7 hw hT hF c8 hl
    refine lv_aload_n hx hb dX3_readTest_86 rfl (lv_at hl 0 rfl) ?_
    refine lv_iload_n hx hb dX3_readTest_87 rfl (lv_at hl 2 rfl) ?_
    refine tk_Vv hC hK hw hT hA hE hSR kC_at3 (by decide) rfl (k_X3_addWaiting_1 l adK adV dC dI cy ad B (by omega) (by omega) qr s1 hqr  v86_2 (show (-1) ≤ v86_2.toInt by omega) (show v86_2.toInt ≤ 21 by omega) w1 H.size hT ) (cwV 1 hC.2.2.2.2 gX3_readTest_X3_addWaiting rfl rfl rfl (by decide +kernel) ⟨Nat.le_of_ble_eq_true rfl, Nat.le_of_ble_eq_true rfl⟩) rfl hl.1 rfl (Nat.le_of_ble_eq_true rfl) dX3_readTest_88 (fun w11 H locs hp10 hw => ?_)
    obtain ⟨hT, k12, hg13⟩ := hp10
    have hF := hF.tr k12 (by decide)
    have c14 := k12.gi kC_at1 (by decide) c8
    clear hg13
    exact tk_vret hC hr hlocks hK ⟨hT, hF, ⟨f86_1_4, c14, (show 0 ≤ f86_1_4.toInt by omega), (show f86_1_4.toInt ≤ 3204 by omega)⟩⟩ hw dX3_readTest_91
  have L9 : ∀ (n9 : Nat) (v9_2 : Int32) (v9_3 : Int32) (f9_1_4 : Int32) (H : Heap) (locs : List Loc) (ls : Array Slot) (w15 : va_W), (-1) ≤ v9_2.toInt → v9_2.toInt ≤ 21 → 0 ≤ v9_3.toInt → v9_3.toInt ≤ 400 → 0 ≤ f9_1_4.toInt → f9_1_4.toInt ≤ 3204 → (400 - v9_3.toInt).toNat < n9 → Wd dC dI A s.heap H locs w15 → TW ksC ad cy B qr s1 w15 → FE ksC [(2, 3, 3), (3, 2, 2), (6, 1, 1), (6, 3, 3), (6, 4, 4), (22, 0, 13), (23, 0, 400)] w0 w15 → gi w15 1 4 = f9_1_4 → lv_has ls 4 [(0, .ref (ad 3)), (1, .int 4), (2, .int v9_2), (3, .int v9_3)] → W p l e ({ frames := 21, cells := 0, slots := 0, locals := 517 }) s m (List.toArray [.ref (ad 3), .int 4]) below meth c H locs 0 0 (MQ below (va_Qv (P_X3_readTest_5 ad cy B qr s1  w0) (fun u : va_W => wpost dC dI cy A u) A) (List.toArray [.ref (ad 3), .int 4]) s 0 0 A) (F0 m 9 ls []) := by
    intro n9
    induction n9 with
    | zero => intro v9_2 v9_3 f9_1_4 H locs ls w15 r16 t17 r18 t19 r20 t21 hm9 hw hT hF c22 hl; omega
    | succ n9 ih9 =>
      intro v9_2 v9_3 f9_1_4 H locs ls w15 r16 t17 r18 t19 r20 t21 hm9 hw hT hF c22 hl
      have J80 : ∀ (v80_2 : Int32) (f80_1_4 : Int32) (H : Heap) (locs : List Loc) (ls : Array Slot) (w23 : va_W), (-1) ≤ v80_2.toInt → v80_2.toInt ≤ 21 → 0 ≤ v9_3.toInt → v9_3.toInt ≤ 399 → 0 ≤ f80_1_4.toInt → f80_1_4.toInt ≤ 3204 → Wd dC dI A s.heap H locs w23 → TW ksC ad cy B qr s1 w23 → FE ksC [(2, 3, 3), (3, 2, 2), (6, 1, 1), (6, 3, 3), (6, 4, 4), (22, 0, 13), (23, 0, 400)] w0 w23 → gi w23 1 4 = f80_1_4 → lv_has ls 4 [(0, .ref (ad 3)), (1, .int 4), (2, .int v80_2), (3, .int v9_3)] → W p l e ({ frames := 21, cells := 0, slots := 0, locals := 517 }) s m (List.toArray [.ref (ad 3), .int 4]) below meth c H locs 0 0 (MQ below (va_Qv (P_X3_readTest_5 ad cy B qr s1  w0) (fun u : va_W => wpost dC dI cy A u) A) (List.toArray [.ref (ad 3), .int 4]) s 0 0 A) (F0 m 80 ls []) := by
        intro v80_2 f80_1_4 H locs ls w23 r24 t25 r26 t27 r28 t29 hw hT hF c30 hl
        obtain ⟨x31, ex31⟩ : ∃ y : Int32, y = v9_3 + Int32.ofInt 1 := ⟨_, rfl⟩
        refine lv_iinc (v := x31) (lv' := [(3, .int x31), (0, .ref (ad 3)), (1, .int 4), (2, .int v80_2)]) hx hb dX3_readTest_80 hl (k := 3) rfl ex31.symm (by decide) rfl (fun ls hl => ?_)
        have ex31 : x31.toInt = v9_3.toInt + 1 := by rw [ex31]; exact wk_add (y := 1) (show -2147483648 ≤ v9_3.toInt + 1 by omega) (show v9_3.toInt + 1 ≤ 2147483647 by omega)
        refine lv_goto (tgt := 9) hx hb dX3_readTest_83 (by decide) ?_
        exact ih9 v80_2 x31 f80_1_4 H locs ls w23 (show (-1) ≤ v80_2.toInt by omega) (show v80_2.toInt ≤ 21 by omega) (show 0 ≤ x31.toInt by omega) (show x31.toInt ≤ 400 by omega) (show 0 ≤ f80_1_4.toInt by omega) (show f80_1_4.toInt ≤ 3204 by omega) (show (400 - x31.toInt).toNat < n9 by omega) hw hT hF c30 (lv_sub hl [1, 2, 3, 0] rfl)
      refine lv_iload_n hx hb dX3_readTest_9 rfl (lv_at hl 3 rfl) ?_
      refine lv_sipush (v := 400) hx hb dX3_readTest_10 (by decide) ?_
      refine lv_icmp_ge (tgt := 86) hx hb dX3_readTest_13 (by decide) (fun c32 => ?_) (fun c32 => ?_)
      · have c32 : (400 : Int) ≤ v9_3.toInt := wk_le.mp c32
        exact J86 v9_2 v9_3 f9_1_4 H locs ls w15 (show (-1) ≤ v9_2.toInt by omega) (show v9_2.toInt ≤ 21 by omega) (show 0 ≤ v9_3.toInt by omega) (show v9_3.toInt ≤ 400 by omega) (show 0 ≤ f9_1_4.toInt by omega) (show f9_1_4.toInt ≤ 3204 by omega)  hw hT hF c22 (lv_sub hl [0, 1, 2, 3] rfl)
      · have c32 : v9_3.toInt < (400 : Int) := wk_leF c32
        refine lv_aload_n hx hb dX3_readTest_16 rfl (lv_at hl 0 rfl) ?_
        refine tk_getA hC hK hw hT hinX3 kC_at3 (by decide) rfl 0 (by decide) (List.mem_of_getElem? (i := 1) rfl) rfl rfl dX3_readTest_17 ?_
        refine tk_Vi hC hK hw hT hA hE hSR kC_at1 (by decide) rfl (k_X6_isFaulty_2 l adK adV dC dI cy ad B (by omega) (by omega) qr s1    w15 H.size hT f9_1_4 c22 (show 0 ≤ f9_1_4.toInt by omega) (show f9_1_4.toInt ≤ 3204 by omega)) (cwV 0 hC.2.2.2.2 gX3_readTest_X6_isFaulty rfl rfl rfl (by decide +kernel) ⟨Nat.le_of_ble_eq_true rfl, Nat.le_of_ble_eq_true rfl⟩) rfl hl.1 rfl (Nat.le_of_ble_eq_true rfl) dX3_readTest_20 (fun r33 w35 H locs hp34 hw => ?_)
        obtain ⟨hT, k36, hg41⟩ := hp34
        have hF := hF.tr k36 (by decide)
        have c42 := k36.gi kC_at1 (by decide) c22
        rcases hg41 with ⟨rfl, ⟨x37, c38, rx37, tx37⟩⟩ | ⟨rfl, ⟨x39, c40, rx39, tx39⟩⟩
        · have ex37 : x37.toInt = f9_1_4.toInt := by rw [← c42.symm.trans c38]
          refine lv_if_ne (tgt := 86) hx hb dX3_readTest_23 (by decide) (fun c => absurd (by decide) c) (fun _ => ?_)
          refine lv_aload_n hx hb dX3_readTest_26 rfl (lv_at hl 0 rfl) ?_
          refine tk_getA hC hK hw hT hinX3 kC_at3 (by decide) rfl 0 (by decide) (List.mem_of_getElem? (i := 1) rfl) rfl rfl dX3_readTest_27 ?_
          refine va_ldcS hx hb hC.2.2.2.1 hSR.2.2.2.2.2.2.1 dX3_readTest_30 ?_
          refine tk_Vi hC hK hw hT hA hE hSR kC_at1 (by decide) rfl (k_X6_takeWord_2 l adK adV dC dI cy ad B (by omega) (by omega) qr s1    w35 H.size hT ) (cwV 1 hC.2.2.2.2 gX3_readTest_X6_takeWord rfl rfl rfl (by decide +kernel) ⟨Nat.le_of_ble_eq_true rfl, Nat.le_of_ble_eq_true rfl⟩) rfl hl.1 rfl (Nat.le_of_ble_eq_true rfl) dX3_readTest_32 (fun r43 w45 H locs hp44 hw => ?_)
          obtain ⟨hT, k46, hg49⟩ := hp44
          have hF := hF.tr k46 (by decide)
          have c50 := k46.gi kC_at1 (by decide) c42
          rcases hg49 with rfl | ⟨rfl, ⟨x47, c48, rx47, tx47⟩⟩
          · refine lv_if_eq (tgt := 55) hx hb dX3_readTest_35 (by decide) (fun _ => ?_) (fun c => absurd (by decide) c)
            refine lv_aload_n hx hb dX3_readTest_55 rfl (lv_at hl 0 rfl) ?_
            refine tk_getA hC hK hw hT hinX3 kC_at3 (by decide) rfl 0 (by decide) (List.mem_of_getElem? (i := 1) rfl) rfl rfl dX3_readTest_56 ?_
            refine va_ldcS hx hb hC.2.2.2.1 hSR.2.2.2.2.2.2.2 dX3_readTest_59 ?_
            refine tk_Vi hC hK hw hT hA hE hSR kC_at1 (by decide) rfl (k_X6_takeWord_3 l adK adV dC dI cy ad B (by omega) (by omega) qr s1    w45 H.size hT ) (cwV 1 hC.2.2.2.2 gX3_readTest_X6_takeWord rfl rfl rfl (by decide +kernel) ⟨Nat.le_of_ble_eq_true rfl, Nat.le_of_ble_eq_true rfl⟩) rfl hl.1 rfl (Nat.le_of_ble_eq_true rfl) dX3_readTest_61 (fun r51 w53 H locs hp52 hw => ?_)
            obtain ⟨hT, k54, hg57⟩ := hp52
            have hF := hF.tr k54 (by decide)
            have c58 := k54.gi kC_at1 (by decide) c50
            rcases hg57 with rfl | ⟨rfl, ⟨x55, c56, rx55, tx55⟩⟩
            · refine lv_if_eq (tgt := 86) hx hb dX3_readTest_64 (by decide) (fun _ => ?_) (fun c => absurd (by decide) c)
              exact J86 v9_2 v9_3 f9_1_4 H locs ls w53 (show (-1) ≤ v9_2.toInt by omega) (show v9_2.toInt ≤ 21 by omega) (show 0 ≤ v9_3.toInt by omega) (show v9_3.toInt ≤ 400 by omega) (show 0 ≤ f9_1_4.toInt by omega) (show f9_1_4.toInt ≤ 3204 by omega)  hw hT hF c58 (lv_sub hl [0, 1, 2, 3] rfl)
            · refine lv_if_eq (tgt := 86) hx hb dX3_readTest_64 (by decide) (fun c => absurd c (by decide)) (fun _ => ?_)
              refine lv_aload_n hx hb dX3_readTest_67 rfl (lv_at hl 0 rfl) ?_
              refine lv_iload_n hx hb dX3_readTest_68 rfl (lv_at hl 2 rfl) ?_
              refine tk_Vv hC hK hw hT hA hE hSR kC_at3 (by decide) rfl (k_X3_addWaiting_1 l adK adV dC dI cy ad B (by omega) (by omega) qr s1 hqr  v9_2 (show (-1) ≤ v9_2.toInt by omega) (show v9_2.toInt ≤ 21 by omega) w53 H.size hT ) (cwV 1 hC.2.2.2.2 gX3_readTest_X3_addWaiting rfl rfl rfl (by decide +kernel) ⟨Nat.le_of_ble_eq_true rfl, Nat.le_of_ble_eq_true rfl⟩) rfl hl.1 rfl (Nat.le_of_ble_eq_true rfl) dX3_readTest_69 (fun w61 H locs hp60 hw => ?_)
              obtain ⟨hT, k62, hg63⟩ := hp60
              have hF := hF.tr k62 (by decide)
              have c64 := k62.gi kC_at1 (by decide) c58
              have c65 := k62.gi kC_at1 (by decide) c56
              clear hg63
              refine lv_bipush (v := 21) hx hb dX3_readTest_72 (by decide) ?_
              refine lv_istore_n (lv' := [(2, .int 21), (0, .ref (ad 3)), (1, .int 4), (3, .int v9_3)]) hx hb dX3_readTest_74 rfl hl (by decide) rfl (fun ls hl => ?_)
              refine lv_aload_n hx hb dX3_readTest_75 rfl (lv_at hl 1 rfl) ?_
              refine lv_iload_n hx hb dX3_readTest_76 rfl (lv_at hl 2 rfl) ?_
              refine tk_Vv hC hK hw hT hA hE hSR kC_at3 (by decide) rfl (k_X3_readFact_5 l adK adV dC dI cy ad B (by omega) (by omega) qr s1 hqr   w61 H.size hT (c64.trans (wk_eq.mpr (show f9_1_4.toInt = 0 by omega)))) (cwV 1 hC.2.2.2.2 gX3_readTest_X3_readFact rfl rfl rfl (by decide +kernel) ⟨Nat.le_of_ble_eq_true rfl, Nat.le_of_ble_eq_true rfl⟩) rfl hl.1 rfl (Nat.le_of_ble_eq_true rfl) dX3_readTest_77 (fun w68 H locs hp67 hw => ?_)
              obtain ⟨hT, k69, hg72⟩ := hp67
              have hF := hF.tr k69 (by decide)
              obtain ⟨x70, c71, rx70, tx70⟩ := hg72
              exact J80 21 x70 H locs ls w68 (by decide) (by decide) (show 0 ≤ v9_3.toInt by omega) (show v9_3.toInt ≤ 399 by omega) (show 0 ≤ x70.toInt by omega) (show x70.toInt ≤ 3204 by omega)  hw hT hF c71 (lv_sub hl [1, 2, 0, 3] rfl)
          · refine lv_if_eq (tgt := 55) hx hb dX3_readTest_35 (by decide) (fun c => absurd c (by decide)) (fun _ => ?_)
            refine lv_aload_n hx hb dX3_readTest_38 rfl (lv_at hl 0 rfl) ?_
            refine lv_iload_n hx hb dX3_readTest_39 rfl (lv_at hl 1 rfl) ?_
            refine tk_Vv hC hK hw hT hA hE hSR kC_at3 (by decide) rfl (k_X3_readFact_5 l adK adV dC dI cy ad B (by omega) (by omega) qr s1 hqr   w45 H.size hT (c50.trans (wk_eq.mpr (show f9_1_4.toInt = 0 by omega)))) (cwV 1 hC.2.2.2.2 gX3_readTest_X3_readFact rfl rfl rfl (by decide +kernel) ⟨Nat.le_of_ble_eq_true rfl, Nat.le_of_ble_eq_true rfl⟩) rfl hl.1 rfl (Nat.le_of_ble_eq_true rfl) dX3_readTest_40 (fun w75 H locs hp74 hw => ?_)
            obtain ⟨hT, k76, hg79⟩ := hp74
            have hF := hF.tr k76 (by decide)
            obtain ⟨x77, c78, rx77, tx77⟩ := hg79
            refine lv_aload_n hx hb dX3_readTest_43 rfl (lv_at hl 0 rfl) ?_
            refine tk_getQ hC hK hw hT hqr (by decide) hinX3 kC_at3 (by decide) rfl 1 (by decide) (List.mem_of_getElem? (i := 2) rfl) rfl rfl dX3_readTest_44 ?_
            refine lv_bipush (v := 20) hx hb dX3_readTest_47 (by decide) ?_
            refine tk_Vv hC hK hw hT hA hE hSR hqr (by decide) rfl (k_X2_addToken_10 l adK adV dC dI cy ad B (by omega) (by omega) qr s1   qr hqr w75 H.size hT ) (cwV 1 hC.2.2.2.2 gX3_readTest_X2_addToken rfl rfl rfl (by decide +kernel) ⟨Nat.le_of_ble_eq_true rfl, Nat.le_of_ble_eq_true rfl⟩) rfl hl.1 rfl (Nat.le_of_ble_eq_true rfl) dX3_readTest_49 (fun w82 H locs hp81 hw => ?_)
            obtain ⟨hT, k83, hg86⟩ := hp81
            have hF := hF.tr k83 (by decide)
            have c87 := k83.gi kC_at1 (by decide) c78
            obtain ⟨x84, c85, rx84, tx84⟩ := hg86
            refine lv_goto (tgt := 80) hx hb dX3_readTest_52 (by decide) ?_
            exact J80 v9_2 x77 H locs ls w82 (show (-1) ≤ v9_2.toInt by omega) (show v9_2.toInt ≤ 21 by omega) (show 0 ≤ v9_3.toInt by omega) (show v9_3.toInt ≤ 399 by omega) (show 0 ≤ x77.toInt by omega) (show x77.toInt ≤ 3204 by omega)  hw hT hF c87 (lv_sub hl [0, 1, 2, 3] rfl)
        · have ex39 : x39.toInt = f9_1_4.toInt := by rw [← c42.symm.trans c40]
          refine lv_if_ne (tgt := 86) hx hb dX3_readTest_23 (by decide) (fun _ => ?_) (fun c => absurd c (by decide))
          exact J86 v9_2 v9_3 f9_1_4 H locs ls w35 (show (-1) ≤ v9_2.toInt by omega) (show v9_2.toInt ≤ 21 by omega) (show 0 ≤ v9_3.toInt by omega) (show v9_3.toInt ≤ 400 by omega) (show 0 ≤ f9_1_4.toInt by omega) (show f9_1_4.toInt ≤ 3204 by omega)  hw hT hF c42 (lv_sub hl [0, 1, 2, 3] rfl)
  refine lv_aload_n hx hb dX3_readTest_0 rfl (lv_at hl 0 rfl) ?_
  refine lv_iload_n hx hb dX3_readTest_1 rfl (lv_at hl 1 rfl) ?_
  refine tk_Vv hC hK hw hT hA hE hSR kC_at3 (by decide) rfl (k_X3_readFact_5 l adK adV dC dI cy ad B (by omega) (by omega) qr s1 hqr   w0 s.heap.size hT cf0_) (cwV 1 hC.2.2.2.2 gX3_readTest_X3_readFact rfl rfl rfl (by decide +kernel) ⟨Nat.le_of_ble_eq_true rfl, Nat.le_of_ble_eq_true rfl⟩) rfl hl.1 rfl (Nat.le_of_ble_eq_true rfl) dX3_readTest_2 (fun w90 H locs hp89 hw => ?_)
  obtain ⟨hT, k91, hg94⟩ := hp89
  have hF := hF.tr k91 (by decide)
  obtain ⟨x92, c93, rx92, tx92⟩ := hg94
  refine lv_iconst (v := (-1)) hx hb dX3_readTest_5 (by decide) ?_
  refine lv_istore_n (lv' := [(2, .int (-1)), (0, .ref (ad 3)), (1, .int 4)]) hx hb dX3_readTest_6 rfl hl (by decide) rfl (fun ls hl => ?_)
  refine lv_iconst (v := 0) hx hb dX3_readTest_7 (by decide) ?_
  refine lv_istore_n (lv' := [(3, .int 0), (2, .int (-1)), (0, .ref (ad 3)), (1, .int 4)]) hx hb dX3_readTest_8 rfl hl (by decide) rfl (fun ls hl => ?_)
  exact L9 ((400 - (0 : Int)).toNat + 1) (-1) 0 x92 H locs ls w90 (by decide) (by decide) (by decide) (by decide) (show 0 ≤ x92.toInt by omega) (show x92.toInt ≤ 3204 by omega) (Nat.lt_succ_self _) hw hT hF c93 (lv_sub hl [2, 3, 1, 0] rfl)
abbrev P_X3_readFact_4 (ad : Nat → Nat) (cy : Nat → ClassId) (B : Int) (qr : Nat) (s1 : Int)  (w0 : va_W) : va_W → Prop := fun u => TW ksC ad cy B qr s1 u ∧ FE ksC [(2, 3, 3), (3, 2, 2), (6, 1, 1), (6, 3, 3), (6, 4, 4), (22, 0, 13), (23, 0, 400)] w0 u ∧ (((∃ y : Int32, gi u 1 4 = y ∧ 0 ≤ y.toInt ∧ y.toInt ≤ 3204)))
set_option maxHeartbeats 4000000 in
set_option maxRecDepth 100000 in
theorem k_X3_readFact_4 (l : Launch) (adK adV : Nat → Nat) (dC : Nat → ClassId) (dI : Nat → Nat → Nat) (cy : Nat → ClassId) (ad : Nat → Nat) (B : Int) (hB0 : 2147483648 ≤ B) (hB1 : B ≤ 1152921504606846976) (qr : Nat) (s1 : Int) (hqr : ksC[qr]? = some 2)  (w0 : va_W) (sz : Nat) (hT : TW ksC ad cy B qr s1 w0) (cf0_ : gi w0 1 4 = 0) : Met l yX3_readFact wsX3_readFact ({ frames := 22, cells := 0, slots := 0, locals := 540 }) (va_Pc [.ref (ad 3), .int 3] (wpreS adK adV dC dI cy sz w0)) (va_Qv (P_X3_readFact_4 ad cy B qr s1  w0) (fun u : va_W => wpost dC dI cy (va_A w0 sz) u) (va_A w0 sz)) 0 0 (va_A w0 sz) := by
  refine Met.ofW (cc := cX3_readFact) (maxL := 5) (ret := none) (by decide) rfl ?_
  intro p e s m args below meth c s₁ Bk hml hv
  obtain ⟨rfl, ⟨hsz, hP, hK, hD0⟩, hE, hSR⟩ := hv
  have hx := Bk.exec
  have hb := Bk.bytes
  have hr := Bk.returns
  have hlocks := Bk.notSynchronized
  have hC : CallFix p m c cX3_readFact 5 s _ wsX3_readFact RX3 := ⟨hx, hb, hml, findClass_of_methodNamed Bk.named, atoms_spec (ws := wsX3_readFact) Bk.pre⟩
  subst hsz
  have hD := hD0.self (sz := s.heap.size)
  generalize hAe : va_A w0 s.heap.size = A at hD hE ⊢
  have hA : ∀ q : Nat, s.heap.size ≤ q → A q := fun q h => by rw [← hAe]; exact Or.inr h
  have hw : Wd dC dI A s.heap s.heap [] w0 := ⟨hP, hD, va_S.rf⟩
  have hF : FE ksC [(2, 3, 3), (3, 2, 2), (6, 1, 1), (6, 3, 3), (6, 4, 4), (22, 0, 13), (23, 0, 400)] w0 w0 := FE.rf
  have hl := lv_entry ([.ref (ad 3), .int 3]) (n := 5) (Nat.le_of_ble_eq_true rfl)
  rw [lg_entry_eq]
  generalize (lg_sl ([.ref (ad 3), .int 3]) ++ List.replicate (5 - (lg_sl ([.ref (ad 3), .int 3])).length) Slot.unset).toArray = ls at hl ⊢
  have hl : lv_has ls 5 [(0, .ref (ad 3)), (1, .int 3)] := hl
  generalize hloc : ([] : List Loc) = locs at hw ⊢
  have hinX3 : ∀ w ∈ u_ws RX3 TX3 3, w ∈ wsX3_readFact := fun _ h => List.mem_cons_of_mem _ (List.mem_append_left _ (List.mem_append_left _ (List.mem_append_right _ (h))))
  have J160 : ∀ (v160_2 : Int32) (v160_3 : Int32) (f160_1_4 : Int32) (H : Heap) (locs : List Loc) (ls : Array Slot) (w1 : va_W), 0 ≤ v160_2.toInt → v160_2.toInt ≤ 1 → 0 ≤ v160_3.toInt → v160_3.toInt ≤ 1 → 0 ≤ f160_1_4.toInt → f160_1_4.toInt ≤ 3204 → Wd dC dI A s.heap H locs w1 → TW ksC ad cy B qr s1 w1 → FE ksC [(2, 3, 3), (3, 2, 2), (6, 1, 1), (6, 3, 3), (6, 4, 4), (22, 0, 13), (23, 0, 400)] w0 w1 → gi w1 1 4 = f160_1_4 → lv_has ls 5 [(0, .ref (ad 3)), (1, .int 3), (2, .int v160_2), (3, .int v160_3)] → W p l e ({ frames := 22, cells := 0, slots := 0, locals := 540 }) s m (List.toArray [.ref (ad 3), .int 3]) below meth c H locs 0 0 (MQ below (va_Qv (P_X3_readFact_4 ad cy B qr s1  w0) (fun u : va_W => wpost dC dI cy A u) A) (List.toArray [.ref (ad 3), .int 3]) s 0 0 A) (F0 m 160 ls []) := by
    intro v160_2 v160_3 f160_1_4 H locs ls w1 r2 t3 r4 t5 r6 t7 hw hT hF c8 hl
    exact tk_vret hC hr hlocks hK ⟨hT, hF, ⟨f160_1_4, c8, (show 0 ≤ f160_1_4.toInt by omega), (show f160_1_4.toInt ≤ 3204 by omega)⟩⟩ hw dX3_readFact_160
  have J77 : ∀ (v77_2 : Int32) (v77_3 : Int32) (H : Heap) (locs : List Loc) (ls : Array Slot) (w9 : va_W), 0 ≤ v77_2.toInt → v77_2.toInt ≤ 1 → 0 ≤ v77_3.toInt → v77_3.toInt ≤ 1 → Wd dC dI A s.heap H locs w9 → TW ksC ad cy B qr s1 w9 → FE ksC [(2, 3, 3), (3, 2, 2), (6, 1, 1), (6, 3, 3), (6, 4, 4), (22, 0, 13), (23, 0, 400)] w0 w9 → gi w9 1 4 = 0 → lv_has ls 5 [(0, .ref (ad 3)), (1, .int 3), (2, .int v77_2), (3, .int v77_3)] → W p l e ({ frames := 22, cells := 0, slots := 0, locals := 540 }) s m (List.toArray [.ref (ad 3), .int 3]) below meth c H locs 0 0 (MQ below (va_Qv (P_X3_readFact_4 ad cy B qr s1  w0) (fun u : va_W => wpost dC dI cy A u) A) (List.toArray [.ref (ad 3), .int 3]) s 0 0 A) (F0 m 77 ls []) := by
    intro v77_2 v77_3 H locs ls w9 r10 t11 r12 t13 hw hT hF c14 hl
    refine lv_iload_n hx hb dX3_readFact_77 rfl (lv_at hl 1 rfl) ?_
    refine lv_bipush (v := 10) hx hb dX3_readFact_78 (by decide) ?_
    refine lv_icmp_lt (tgt := 101) hx hb dX3_readFact_80 (by decide) (fun _ => ?_) (fun c => absurd (by decide) c)
    refine lv_iload_n hx hb dX3_readFact_101 rfl (lv_at hl 2 rfl) ?_
    refine lv_if_eq (tgt := 124) hx hb dX3_readFact_102 (by decide) (fun c15 => ?_) (fun c15 => ?_)
    · have c15 : v77_2.toInt = (0 : Int) := wk_eq.mp c15
      refine lv_aload_n hx hb dX3_readFact_124 rfl (lv_at hl 0 rfl) ?_
      refine lv_iload_n hx hb dX3_readFact_125 rfl (lv_at hl 1 rfl) ?_
      refine lv_iconst (v := 1) hx hb dX3_readFact_126 (by decide) ?_
      refine lv_iadd hx hb dX3_readFact_127 ?_
      refine wk_top 4 (by decide) ?_
      refine tk_Vv hC hK hw hT hA hE hSR kC_at3 (by decide) rfl (k_X3_readTest_5 l adK adV dC dI cy ad B (by omega) (by omega) qr s1 hqr   w9 H.size hT c14) (cwV 1 hC.2.2.2.2 gX3_readFact_X3_readTest rfl rfl rfl (by decide +kernel) ⟨Nat.le_of_ble_eq_true rfl, Nat.le_of_ble_eq_true rfl⟩) rfl hl.1 rfl (Nat.le_of_ble_eq_true rfl) dX3_readFact_128 (fun w18 H locs hp17 hw => ?_)
      obtain ⟨hT, k19, hg22⟩ := hp17
      have hF := hF.tr k19 (by decide)
      obtain ⟨x20, c21, rx20, tx20⟩ := hg22
      refine lv_aload_n hx hb dX3_readFact_131 rfl (lv_at hl 0 rfl) ?_
      refine tk_getA hC hK hw hT hinX3 kC_at3 (by decide) rfl 0 (by decide) (List.mem_of_getElem? (i := 1) rfl) rfl rfl dX3_readFact_132 ?_
      refine tk_Vi hC hK hw hT hA hE hSR kC_at1 (by decide) rfl (k_X6_isFaulty_2 l adK adV dC dI cy ad B (by omega) (by omega) qr s1    w18 H.size hT x20 c21 (show 0 ≤ x20.toInt by omega) (show x20.toInt ≤ 3204 by omega)) (cwV 0 hC.2.2.2.2 gX3_readFact_X6_isFaulty rfl rfl rfl (by decide +kernel) ⟨Nat.le_of_ble_eq_true rfl, Nat.le_of_ble_eq_true rfl⟩) rfl hl.1 rfl (Nat.le_of_ble_eq_true rfl) dX3_readFact_135 (fun r23 w25 H locs hp24 hw => ?_)
      obtain ⟨hT, k26, hg31⟩ := hp24
      have hF := hF.tr k26 (by decide)
      have c32 := k26.gi kC_at1 (by decide) c21
      rcases hg31 with ⟨rfl, ⟨x27, c28, rx27, tx27⟩⟩ | ⟨rfl, ⟨x29, c30, rx29, tx29⟩⟩
      · have ex27 : x27.toInt = x20.toInt := by rw [← c32.symm.trans c28]
        refine lv_if_ne (tgt := 160) hx hb dX3_readFact_138 (by decide) (fun c => absurd (by decide) c) (fun _ => ?_)
        refine lv_aload_n hx hb dX3_readFact_141 rfl (lv_at hl 0 rfl) ?_
        refine tk_getA hC hK hw hT hinX3 kC_at3 (by decide) rfl 0 (by decide) (List.mem_of_getElem? (i := 1) rfl) rfl rfl dX3_readFact_142 ?_
        refine lv_bipush (v := 93) hx hb dX3_readFact_145 (by decide) ?_
        refine tk_Vi hC hK hw hT hA hE hSR kC_at1 (by decide) rfl (k_X6_takeByte_3 l adK adV dC dI cy ad B (by omega) (by omega) qr s1    w25 H.size hT ) (cwV 1 hC.2.2.2.2 gX3_readFact_X6_takeByte rfl rfl rfl (by decide +kernel) ⟨Nat.le_of_ble_eq_true rfl, Nat.le_of_ble_eq_true rfl⟩) rfl hl.1 rfl (Nat.le_of_ble_eq_true rfl) dX3_readFact_147 (fun r33 w35 H locs hp34 hw => ?_)
        obtain ⟨hT, k36, hg41⟩ := hp34
        have hF := hF.tr k36 (by decide)
        have c42 := k36.gi kC_at1 (by decide) c32
        rcases hg41 with rfl | ⟨rfl, ⟨x37, c38, rx37, tx37⟩, ⟨x39, c40, rx39, tx39⟩⟩
        · refine lv_if_ne (tgt := 160) hx hb dX3_readFact_150 (by decide) (fun c => absurd (by decide) c) (fun _ => ?_)
          refine lv_aload_n hx hb dX3_readFact_153 rfl (lv_at hl 0 rfl) ?_
          refine tk_getA hC hK hw hT hinX3 kC_at3 (by decide) rfl 0 (by decide) (List.mem_of_getElem? (i := 1) rfl) rfl rfl dX3_readFact_154 ?_
          refine tk_Vv hC hK hw hT hA hE hSR kC_at1 (by decide) rfl (k_X6_blameHere_1 l adK adV dC dI cy ad B (by omega) (by omega) qr s1    w35 H.size hT (c42.trans (wk_eq.mpr (show x20.toInt = 0 by omega)))) (cwV 0 hC.2.2.2.2 gX3_readFact_X6_blameHere rfl rfl rfl (by decide +kernel) ⟨Nat.le_of_ble_eq_true rfl, Nat.le_of_ble_eq_true rfl⟩) rfl hl.1 rfl (Nat.le_of_ble_eq_true rfl) dX3_readFact_157 (fun w45 H locs hp44 hw => ?_)
          obtain ⟨hT, k46, hg49⟩ := hp44
          have hF := hF.tr k46 (by decide)
          obtain ⟨x47, c48, rx47, tx47⟩ := hg49
          exact J160 v77_2 v77_3 x47 H locs ls w45 (show 0 ≤ v77_2.toInt by omega) (show v77_2.toInt ≤ 1 by omega) (show 0 ≤ v77_3.toInt by omega) (show v77_3.toInt ≤ 1 by omega) (show 0 ≤ x47.toInt by omega) (show x47.toInt ≤ 3204 by omega)  hw hT hF c48 (lv_sub hl [0, 1, 2, 3] rfl)
        · refine lv_if_ne (tgt := 160) hx hb dX3_readFact_150 (by decide) (fun _ => ?_) (fun c => absurd c (by decide))
          exact J160 v77_2 v77_3 x20 H locs ls w35 (show 0 ≤ v77_2.toInt by omega) (show v77_2.toInt ≤ 1 by omega) (show 0 ≤ v77_3.toInt by omega) (show v77_3.toInt ≤ 1 by omega) (show 0 ≤ x20.toInt by omega) (show x20.toInt ≤ 3204 by omega)  hw hT hF c42 (lv_sub hl [0, 1, 2, 3] rfl)
      · have ex29 : x29.toInt = x20.toInt := by rw [← c32.symm.trans c30]
        refine lv_if_ne (tgt := 160) hx hb dX3_readFact_138 (by decide) (fun _ => ?_) (fun c => absurd c (by decide))
        exact J160 v77_2 v77_3 x20 H locs ls w25 (show 0 ≤ v77_2.toInt by omega) (show v77_2.toInt ≤ 1 by omega) (show 0 ≤ v77_3.toInt by omega) (show v77_3.toInt ≤ 1 by omega) (show 0 ≤ x20.toInt by omega) (show x20.toInt ≤ 3204 by omega)  hw hT hF c32 (lv_sub hl [0, 1, 2, 3] rfl)
    · have c15 : ¬ v77_2.toInt = (0 : Int) := wk_eqF c15
      refine lv_aload_n hx hb dX3_readFact_105 rfl (lv_at hl 0 rfl) ?_
      refine lv_iload_n hx hb dX3_readFact_106 rfl (lv_at hl 1 rfl) ?_
      refine lv_iconst (v := 1) hx hb dX3_readFact_107 (by decide) ?_
      refine lv_iadd hx hb dX3_readFact_108 ?_
      refine wk_top 4 (by decide) ?_
      refine tk_Vv hC hK hw hT hA hE hSR kC_at3 (by decide) rfl (k_X3_readFact_5 l adK adV dC dI cy ad B (by omega) (by omega) qr s1 hqr   w9 H.size hT c14) (cwV 1 hC.2.2.2.2 gX3_readFact_X3_readFact rfl rfl rfl (by decide +kernel) ⟨Nat.le_of_ble_eq_true rfl, Nat.le_of_ble_eq_true rfl⟩) rfl hl.1 rfl (Nat.le_of_ble_eq_true rfl) dX3_readFact_109 (fun w52 H locs hp51 hw => ?_)
      obtain ⟨hT, k53, hg56⟩ := hp51
      have hF := hF.tr k53 (by decide)
      obtain ⟨x54, c55, rx54, tx54⟩ := hg56
      refine lv_aload_n hx hb dX3_readFact_112 rfl (lv_at hl 0 rfl) ?_
      refine tk_getQ hC hK hw hT hqr (by decide) hinX3 kC_at3 (by decide) rfl 1 (by decide) (List.mem_of_getElem? (i := 2) rfl) rfl rfl dX3_readFact_113 ?_
      refine lv_bipush (v := 19) hx hb dX3_readFact_116 (by decide) ?_
      refine tk_Vv hC hK hw hT hA hE hSR hqr (by decide) rfl (k_X2_addToken_11 l adK adV dC dI cy ad B (by omega) (by omega) qr s1   qr hqr w52 H.size hT ) (cwV 1 hC.2.2.2.2 gX3_readFact_X2_addToken rfl rfl rfl (by decide +kernel) ⟨Nat.le_of_ble_eq_true rfl, Nat.le_of_ble_eq_true rfl⟩) rfl hl.1 rfl (Nat.le_of_ble_eq_true rfl) dX3_readFact_118 (fun w59 H locs hp58 hw => ?_)
      obtain ⟨hT, k60, hg63⟩ := hp58
      have hF := hF.tr k60 (by decide)
      have c64 := k60.gi kC_at1 (by decide) c55
      obtain ⟨x61, c62, rx61, tx61⟩ := hg63
      refine lv_goto (tgt := 160) hx hb dX3_readFact_121 (by decide) ?_
      exact J160 v77_2 v77_3 x54 H locs ls w59 (show 0 ≤ v77_2.toInt by omega) (show v77_2.toInt ≤ 1 by omega) (show 0 ≤ v77_3.toInt by omega) (show v77_3.toInt ≤ 1 by omega) (show 0 ≤ x54.toInt by omega) (show x54.toInt ≤ 3204 by omega)  hw hT hF c64 (lv_sub hl [0, 1, 2, 3] rfl)
  have J41 : ∀ (v41_2 : Int32) (H : Heap) (locs : List Loc) (ls : Array Slot) (w65 : va_W), 0 ≤ v41_2.toInt → v41_2.toInt ≤ 1 → Wd dC dI A s.heap H locs w65 → TW ksC ad cy B qr s1 w65 → FE ksC [(2, 3, 3), (3, 2, 2), (6, 1, 1), (6, 3, 3), (6, 4, 4), (22, 0, 13), (23, 0, 400)] w0 w65 → gi w65 1 4 = 0 → lv_has ls 5 [(0, .ref (ad 3)), (1, .int 3), (2, .int v41_2)] → W p l e ({ frames := 22, cells := 0, slots := 0, locals := 540 }) s m (List.toArray [.ref (ad 3), .int 3]) below meth c H locs 0 0 (MQ below (va_Qv (P_X3_readFact_4 ad cy B qr s1  w0) (fun u : va_W => wpost dC dI cy A u) A) (List.toArray [.ref (ad 3), .int 3]) s 0 0 A) (F0 m 41 ls []) := by
    intro v41_2 H locs ls w65 r66 t67 hw hT hF c68 hl
    refine lv_iconst (v := 0) hx hb dX3_readFact_41 (by decide) ?_
    refine lv_istore_n (lv' := [(3, .int 0), (0, .ref (ad 3)), (1, .int 3), (2, .int v41_2)]) hx hb dX3_readFact_42 rfl hl (by decide) rfl (fun ls hl => ?_)
    refine lv_iload_n hx hb dX3_readFact_43 rfl (lv_at hl 3 rfl) ?_
    refine lv_if_ne (tgt := 77) hx hb dX3_readFact_44 (by decide) (fun c69 => ?_) (fun c69 => ?_)
    · have c69 : ¬ v41_2.toInt = (0 : Int) := wk_eqF c69
      exact J77 v41_2 0 H locs ls w65 (show 0 ≤ v41_2.toInt by omega) (show v41_2.toInt ≤ 1 by omega) (by decide) (by decide)  hw hT hF c68 (lv_sub hl [1, 2, 3, 0] rfl)
    · have c69 : v41_2.toInt = (0 : Int) := wk_eq.mp c69
      refine lv_iload_n hx hb dX3_readFact_47 rfl (lv_at hl 0 rfl) ?_
      refine lv_if_ne (tgt := 77) hx hb dX3_readFact_48 (by decide) (fun c => absurd (by decide) c) (fun _ => ?_)
      refine lv_aload_n hx hb dX3_readFact_51 rfl (lv_at hl 1 rfl) ?_
      refine tk_Vv hC hK hw hT hA hE hSR kC_at3 (by decide) rfl (k_X3_readSum_1 l adK adV dC dI cy ad B (by omega) (by omega) qr s1 hqr   w65 H.size hT c68) (cwV 0 hC.2.2.2.2 gX3_readFact_X3_readSum rfl rfl rfl (by decide +kernel) ⟨Nat.le_of_ble_eq_true rfl, Nat.le_of_ble_eq_true rfl⟩) rfl hl.1 rfl (Nat.le_of_ble_eq_true rfl) dX3_readFact_52 (fun w72 H locs hp71 hw => ?_)
      obtain ⟨hT, k73, hg76⟩ := hp71
      have hF := hF.tr k73 (by decide)
      obtain ⟨x74, c75, rx74, tx74⟩ := hg76
      refine lv_aload_n hx hb dX3_readFact_55 rfl (lv_at hl 1 rfl) ?_
      refine tk_Vi hC hK hw hT hA hE hSR kC_at3 (by decide) rfl (k_X3_readSign_1 l adK adV dC dI cy ad B (by omega) (by omega) qr s1    w72 H.size hT x74 c75 (show 0 ≤ x74.toInt by omega) (show x74.toInt ≤ 3204 by omega)) (cwV 0 hC.2.2.2.2 gX3_readFact_X3_readSign rfl rfl rfl (by decide +kernel) ⟨Nat.le_of_ble_eq_true rfl, Nat.le_of_ble_eq_true rfl⟩) rfl hl.1 rfl (Nat.le_of_ble_eq_true rfl) dX3_readFact_56 (fun r77 w79 H locs hp78 hw => ?_)
      obtain ⟨hT, k80, hg91⟩ := hp78
      have hF := hF.tr k80 (by decide)
      rcases hg91 with ⟨rfl, ⟨x81, c82, rx81, tx81⟩⟩ | ⟨g83, g84, ⟨x85, c86, rx85, tx85⟩, ⟨x87, c88, rx87, tx87⟩, ⟨x89, c90, rx89, tx89⟩⟩
      · refine lv_istore (lv' := [(4, .int 16), (3, .int 0), (0, .ref (ad 3)), (1, .int 3), (2, .int v41_2)]) hx hb dX3_readFact_59 hl (by decide) rfl (fun ls hl => ?_)
        refine lv_aload_n hx hb dX3_readFact_61 rfl (lv_at hl 2 rfl) ?_
        refine tk_Vv hC hK hw hT hA hE hSR kC_at3 (by decide) rfl (k_X3_readSum_2 l adK adV dC dI cy ad B (by omega) (by omega) qr s1 hqr   w79 H.size hT x81 c82 (show 1 ≤ x81.toInt by omega) (show x81.toInt ≤ 3204 by omega)) (cwV 0 hC.2.2.2.2 gX3_readFact_X3_readSum rfl rfl rfl (by decide +kernel) ⟨Nat.le_of_ble_eq_true rfl, Nat.le_of_ble_eq_true rfl⟩) rfl hl.1 rfl (Nat.le_of_ble_eq_true rfl) dX3_readFact_62 (fun w94 H locs hp93 hw => ?_)
        obtain ⟨hT, k95, hg98⟩ := hp93
        have hF := hF.tr k95 (by decide)
        have c99 := k95.gi kC_at1 (by decide) c82
        obtain ⟨x96, c97, rx96, tx96⟩ := hg98
        have ex96 : x96.toInt = x81.toInt := by rw [← c99.symm.trans c97]
        refine lv_aload_n hx hb dX3_readFact_65 rfl (lv_at hl 2 rfl) ?_
        refine tk_getQ hC hK hw hT hqr (by decide) hinX3 kC_at3 (by decide) rfl 1 (by decide) (List.mem_of_getElem? (i := 2) rfl) rfl rfl dX3_readFact_66 ?_
        refine lv_iload hx hb dX3_readFact_69 (lv_at hl 0 rfl) ?_
        refine tk_Vv hC hK hw hT hA hE hSR hqr (by decide) rfl (k_X2_addToken_8 l adK adV dC dI cy ad B (by omega) (by omega) qr s1   qr hqr w94 H.size hT ) (cwV 1 hC.2.2.2.2 gX3_readFact_X2_addToken rfl rfl rfl (by decide +kernel) ⟨Nat.le_of_ble_eq_true rfl, Nat.le_of_ble_eq_true rfl⟩) rfl hl.1 rfl (Nat.le_of_ble_eq_true rfl) dX3_readFact_71 (fun w102 H locs hp101 hw => ?_)
        obtain ⟨hT, k103, hg106⟩ := hp101
        have hF := hF.tr k103 (by decide)
        have c107 := k103.gi kC_at1 (by decide) c99
        obtain ⟨x104, c105, rx104, tx104⟩ := hg106
        refine lv_goto (tgt := 160) hx hb dX3_readFact_74 (by decide) ?_
        exact J160 v41_2 0 x81 H locs ls w102 (show 0 ≤ v41_2.toInt by omega) (show v41_2.toInt ≤ 1 by omega) (by decide) (by decide) (show 0 ≤ x81.toInt by omega) (show x81.toInt ≤ 3204 by omega)  hw hT hF c107 (lv_sub hl [2, 3, 4, 1] rfl)
      · refine lv_istore (lv' := [(4, .int r77), (3, .int 0), (0, .ref (ad 3)), (1, .int 3), (2, .int v41_2)]) hx hb dX3_readFact_59 hl (by decide) rfl (fun ls hl => ?_)
        refine lv_aload_n hx hb dX3_readFact_61 rfl (lv_at hl 2 rfl) ?_
        refine tk_Vv hC hK hw hT hA hE hSR kC_at3 (by decide) rfl (k_X3_readSum_3 l adK adV dC dI cy ad B (by omega) (by omega) qr s1 hqr   w79 H.size hT x89 c90 (show 0 ≤ x89.toInt by omega) (show x89.toInt ≤ 3204 by omega)) (cwV 0 hC.2.2.2.2 gX3_readFact_X3_readSum rfl rfl rfl (by decide +kernel) ⟨Nat.le_of_ble_eq_true rfl, Nat.le_of_ble_eq_true rfl⟩) rfl hl.1 rfl (Nat.le_of_ble_eq_true rfl) dX3_readFact_62 (fun w110 H locs hp109 hw => ?_)
        obtain ⟨hT, k111, hg114⟩ := hp109
        have hF := hF.tr k111 (by decide)
        have c115 := k111.gi kC_at1 (by decide) c86
        obtain ⟨x112, c113, rx112, tx112⟩ := hg114
        refine lv_aload_n hx hb dX3_readFact_65 rfl (lv_at hl 2 rfl) ?_
        refine tk_getQ hC hK hw hT hqr (by decide) hinX3 kC_at3 (by decide) rfl 1 (by decide) (List.mem_of_getElem? (i := 2) rfl) rfl rfl dX3_readFact_66 ?_
        refine lv_iload hx hb dX3_readFact_69 (lv_at hl 0 rfl) ?_
        refine tk_Vv hC hK hw hT hA hE hSR hqr (by decide) rfl (k_X2_addToken_9 l adK adV dC dI cy ad B (by omega) (by omega) qr s1   qr hqr r77 (show 14 ≤ r77.toInt by omega) (show r77.toInt ≤ 18 by omega) w110 H.size hT ) (cwV 1 hC.2.2.2.2 gX3_readFact_X2_addToken rfl rfl rfl (by decide +kernel) ⟨Nat.le_of_ble_eq_true rfl, Nat.le_of_ble_eq_true rfl⟩) rfl hl.1 rfl (Nat.le_of_ble_eq_true rfl) dX3_readFact_71 (fun w118 H locs hp117 hw => ?_)
        obtain ⟨hT, k119, hg122⟩ := hp117
        have hF := hF.tr k119 (by decide)
        have c123 := k119.gi kC_at1 (by decide) c115
        have c124 := k119.gi kC_at1 (by decide) c113
        obtain ⟨x120, c121, rx120, tx120⟩ := hg122
        refine lv_goto (tgt := 160) hx hb dX3_readFact_74 (by decide) ?_
        exact J160 v41_2 0 x112 H locs ls w118 (show 0 ≤ v41_2.toInt by omega) (show v41_2.toInt ≤ 1 by omega) (by decide) (by decide) (show 0 ≤ x112.toInt by omega) (show x112.toInt ≤ 3204 by omega)  hw hT hF c124 (lv_sub hl [2, 3, 4, 1] rfl)
  refine lv_aload_n hx hb dX3_readFact_0 rfl (lv_at hl 0 rfl) ?_
  refine tk_getA hC hK hw hT hinX3 kC_at3 (by decide) rfl 0 (by decide) (List.mem_of_getElem? (i := 1) rfl) rfl rfl dX3_readFact_1 ?_
  refine tk_Vi hC hK hw hT hA hE hSR kC_at1 (by decide) rfl (k_X6_isFaulty_3 l adK adV dC dI cy ad B (by omega) (by omega) qr s1    w0 s.heap.size hT cf0_) (cwV 0 hC.2.2.2.2 gX3_readFact_X6_isFaulty rfl rfl rfl (by decide +kernel) ⟨Nat.le_of_ble_eq_true rfl, Nat.le_of_ble_eq_true rfl⟩) rfl hl.1 rfl (Nat.le_of_ble_eq_true rfl) dX3_readFact_4 (fun r125 w127 H locs hp126 hw => ?_)
  obtain ⟨hT, k128, hg131⟩ := hp126
  have hF := hF.tr k128 (by decide)
  have c132 := k128.gi kC_at1 (by decide) cf0_
  obtain ⟨rfl, ⟨x129, c130, rx129, tx129⟩⟩ := hg131
  have ex129 : x129.toInt = (0 : Int) := by rw [show x129 = 0 from c130.symm.trans c132]; decide
  refine lv_if_eq (tgt := 11) hx hb dX3_readFact_7 (by decide) (fun _ => ?_) (fun c => absurd (by decide) c)
  refine lv_aload_n hx hb dX3_readFact_11 rfl (lv_at hl 0 rfl) ?_
  refine tk_getA hC hK hw hT hinX3 kC_at3 (by decide) rfl 0 (by decide) (List.mem_of_getElem? (i := 1) rfl) rfl rfl dX3_readFact_12 ?_
  refine va_ldcS hx hb hC.2.2.2.1 hSR.2.2.2.2.1 dX3_readFact_15 ?_
  refine tk_Vi hC hK hw hT hA hE hSR kC_at1 (by decide) rfl (k_X6_takeWord_4 l adK adV dC dI cy ad B (by omega) (by omega) qr s1    w127 H.size hT ) (cwV 1 hC.2.2.2.2 gX3_readFact_X6_takeWord rfl rfl rfl (by decide +kernel) ⟨Nat.le_of_ble_eq_true rfl, Nat.le_of_ble_eq_true rfl⟩) rfl hl.1 rfl (Nat.le_of_ble_eq_true rfl) dX3_readFact_17 (fun r133 w135 H locs hp134 hw => ?_)
  obtain ⟨hT, k136, hg139⟩ := hp134
  have hF := hF.tr k136 (by decide)
  have c140 := k136.gi kC_at1 (by decide) c132
  rcases hg139 with rfl | ⟨rfl, ⟨x137, c138, rx137, tx137⟩⟩
  · refine lv_istore_n (lv' := [(2, .int 0), (0, .ref (ad 3)), (1, .int 3)]) hx hb dX3_readFact_20 rfl hl (by decide) rfl (fun ls hl => ?_)
    refine lv_iload_n hx hb dX3_readFact_21 rfl (lv_at hl 0 rfl) ?_
    refine lv_if_ne (tgt := 41) hx hb dX3_readFact_22 (by decide) (fun c => absurd (by decide) c) (fun _ => ?_)
    refine lv_aload_n hx hb dX3_readFact_25 rfl (lv_at hl 1 rfl) ?_
    refine tk_getA hC hK hw hT hinX3 kC_at3 (by decide) rfl 0 (by decide) (List.mem_of_getElem? (i := 1) rfl) rfl rfl dX3_readFact_26 ?_
    refine lv_bipush (v := 91) hx hb dX3_readFact_29 (by decide) ?_
    refine tk_Vi hC hK hw hT hA hE hSR kC_at1 (by decide) rfl (k_X6_takeByte_2 l adK adV dC dI cy ad B (by omega) (by omega) qr s1    w135 H.size hT ) (cwV 1 hC.2.2.2.2 gX3_readFact_X6_takeByte rfl rfl rfl (by decide +kernel) ⟨Nat.le_of_ble_eq_true rfl, Nat.le_of_ble_eq_true rfl⟩) rfl hl.1 rfl (Nat.le_of_ble_eq_true rfl) dX3_readFact_31 (fun r141 w143 H locs hp142 hw => ?_)
    obtain ⟨hT, k144, hg149⟩ := hp142
    have hF := hF.tr k144 (by decide)
    have c150 := k144.gi kC_at1 (by decide) c140
    rcases hg149 with rfl | ⟨rfl, ⟨x145, c146, rx145, tx145⟩, ⟨x147, c148, rx147, tx147⟩⟩
    · refine lv_if_eq (tgt := 41) hx hb dX3_readFact_34 (by decide) (fun _ => ?_) (fun c => absurd (by decide) c)
      exact J41 0 H locs ls w143 (by decide) (by decide)  hw hT hF c150 (lv_sub hl [1, 2, 0] rfl)
    · refine lv_if_eq (tgt := 41) hx hb dX3_readFact_34 (by decide) (fun c => absurd c (by decide)) (fun _ => ?_)
      refine lv_iconst (v := 1) hx hb dX3_readFact_37 (by decide) ?_
      refine lv_goto (tgt := 42) hx hb dX3_readFact_38 (by decide) ?_
      refine lv_istore_n (lv' := [(3, .int 1), (2, .int 0), (0, .ref (ad 3)), (1, .int 3)]) hx hb dX3_readFact_42 rfl hl (by decide) rfl (fun ls hl => ?_)
      refine lv_iload_n hx hb dX3_readFact_43 rfl (lv_at hl 1 rfl) ?_
      refine lv_if_ne (tgt := 77) hx hb dX3_readFact_44 (by decide) (fun c => absurd (by decide) c) (fun _ => ?_)
      refine lv_iload_n hx hb dX3_readFact_47 rfl (lv_at hl 0 rfl) ?_
      refine lv_if_ne (tgt := 77) hx hb dX3_readFact_48 (by decide) (fun _ => ?_) (fun c => absurd c (by decide))
      exact J77 0 1 H locs ls w143 (by decide) (by decide) (by decide) (by decide)  hw hT hF c150 (lv_sub hl [2, 3, 1, 0] rfl)
  · refine lv_istore_n (lv' := [(2, .int 1), (0, .ref (ad 3)), (1, .int 3)]) hx hb dX3_readFact_20 rfl hl (by decide) rfl (fun ls hl => ?_)
    refine lv_iload_n hx hb dX3_readFact_21 rfl (lv_at hl 0 rfl) ?_
    refine lv_if_ne (tgt := 41) hx hb dX3_readFact_22 (by decide) (fun _ => ?_) (fun c => absurd c (by decide))
    exact J41 1 H locs ls w135 (by decide) (by decide)  hw hT hF c140 (lv_sub hl [1, 2, 0] rfl)
abbrev P_X3_readTest_4 (ad : Nat → Nat) (cy : Nat → ClassId) (B : Int) (qr : Nat) (s1 : Int)  (w0 : va_W) : va_W → Prop := fun u => TW ksC ad cy B qr s1 u ∧ FE ksC [(2, 3, 3), (3, 2, 2), (6, 1, 1), (6, 3, 3), (6, 4, 4), (22, 0, 13), (23, 0, 400)] w0 u ∧ (((∃ y : Int32, gi u 1 4 = y ∧ 0 ≤ y.toInt ∧ y.toInt ≤ 3204)))
set_option maxHeartbeats 4000000 in
set_option maxRecDepth 100000 in
theorem k_X3_readTest_4 (l : Launch) (adK adV : Nat → Nat) (dC : Nat → ClassId) (dI : Nat → Nat → Nat) (cy : Nat → ClassId) (ad : Nat → Nat) (B : Int) (hB0 : 2147483648 ≤ B) (hB1 : B ≤ 1152921504606846976) (qr : Nat) (s1 : Int) (hqr : ksC[qr]? = some 2)  (w0 : va_W) (sz : Nat) (hT : TW ksC ad cy B qr s1 w0) (cf0_ : gi w0 1 4 = 0) : Met l yX3_readTest wsX3_readTest ({ frames := 23, cells := 0, slots := 0, locals := 564 }) (va_Pc [.ref (ad 3), .int 3] (wpreS adK adV dC dI cy sz w0)) (va_Qv (P_X3_readTest_4 ad cy B qr s1  w0) (fun u : va_W => wpost dC dI cy (va_A w0 sz) u) (va_A w0 sz)) 0 0 (va_A w0 sz) := by
  refine Met.ofW (cc := cX3_readTest) (maxL := 4) (ret := none) (by decide) rfl ?_
  intro p e s m args below meth c s₁ Bk hml hv
  obtain ⟨rfl, ⟨hsz, hP, hK, hD0⟩, hE, hSR⟩ := hv
  have hx := Bk.exec
  have hb := Bk.bytes
  have hr := Bk.returns
  have hlocks := Bk.notSynchronized
  have hC : CallFix p m c cX3_readTest 4 s _ wsX3_readTest RX3 := ⟨hx, hb, hml, findClass_of_methodNamed Bk.named, atoms_spec (ws := wsX3_readTest) Bk.pre⟩
  subst hsz
  have hD := hD0.self (sz := s.heap.size)
  generalize hAe : va_A w0 s.heap.size = A at hD hE ⊢
  have hA : ∀ q : Nat, s.heap.size ≤ q → A q := fun q h => by rw [← hAe]; exact Or.inr h
  have hw : Wd dC dI A s.heap s.heap [] w0 := ⟨hP, hD, va_S.rf⟩
  have hF : FE ksC [(2, 3, 3), (3, 2, 2), (6, 1, 1), (6, 3, 3), (6, 4, 4), (22, 0, 13), (23, 0, 400)] w0 w0 := FE.rf
  have hl := lv_entry ([.ref (ad 3), .int 3]) (n := 4) (Nat.le_of_ble_eq_true rfl)
  rw [lg_entry_eq]
  generalize (lg_sl ([.ref (ad 3), .int 3]) ++ List.replicate (4 - (lg_sl ([.ref (ad 3), .int 3])).length) Slot.unset).toArray = ls at hl ⊢
  have hl : lv_has ls 4 [(0, .ref (ad 3)), (1, .int 3)] := hl
  generalize hloc : ([] : List Loc) = locs at hw ⊢
  have hinX3 : ∀ w ∈ u_ws RX3 TX3 3, w ∈ wsX3_readTest := fun _ h => List.mem_cons_of_mem _ (List.mem_append_left _ (List.mem_append_left _ (List.mem_append_right _ (h))))
  have J86 : ∀ (v86_2 : Int32) (v86_3 : Int32) (f86_1_4 : Int32) (H : Heap) (locs : List Loc) (ls : Array Slot) (w1 : va_W), (-1) ≤ v86_2.toInt → v86_2.toInt ≤ 21 → 0 ≤ v86_3.toInt → v86_3.toInt ≤ 400 → 0 ≤ f86_1_4.toInt → f86_1_4.toInt ≤ 3204 → Wd dC dI A s.heap H locs w1 → TW ksC ad cy B qr s1 w1 → FE ksC [(2, 3, 3), (3, 2, 2), (6, 1, 1), (6, 3, 3), (6, 4, 4), (22, 0, 13), (23, 0, 400)] w0 w1 → gi w1 1 4 = f86_1_4 → lv_has ls 4 [(0, .ref (ad 3)), (1, .int 3), (2, .int v86_2), (3, .int v86_3)] → W p l e ({ frames := 23, cells := 0, slots := 0, locals := 564 }) s m (List.toArray [.ref (ad 3), .int 3]) below meth c H locs 0 0 (MQ below (va_Qv (P_X3_readTest_4 ad cy B qr s1  w0) (fun u : va_W => wpost dC dI cy A u) A) (List.toArray [.ref (ad 3), .int 3]) s 0 0 A) (F0 m 86 ls []) := by
    intro v86_2 v86_3 f86_1_4 H locs ls w1 r2 t3 r4 t5 r6 t7 hw hT hF c8 hl
    refine lv_aload_n hx hb dX3_readTest_86 rfl (lv_at hl 0 rfl) ?_
    refine lv_iload_n hx hb dX3_readTest_87 rfl (lv_at hl 2 rfl) ?_
    refine tk_Vv hC hK hw hT hA hE hSR kC_at3 (by decide) rfl (k_X3_addWaiting_1 l adK adV dC dI cy ad B (by omega) (by omega) qr s1 hqr  v86_2 (show (-1) ≤ v86_2.toInt by omega) (show v86_2.toInt ≤ 21 by omega) w1 H.size hT ) (cwV 1 hC.2.2.2.2 gX3_readTest_X3_addWaiting rfl rfl rfl (by decide +kernel) ⟨Nat.le_of_ble_eq_true rfl, Nat.le_of_ble_eq_true rfl⟩) rfl hl.1 rfl (Nat.le_of_ble_eq_true rfl) dX3_readTest_88 (fun w11 H locs hp10 hw => ?_)
    obtain ⟨hT, k12, hg13⟩ := hp10
    have hF := hF.tr k12 (by decide)
    have c14 := k12.gi kC_at1 (by decide) c8
    clear hg13
    exact tk_vret hC hr hlocks hK ⟨hT, hF, ⟨f86_1_4, c14, (show 0 ≤ f86_1_4.toInt by omega), (show f86_1_4.toInt ≤ 3204 by omega)⟩⟩ hw dX3_readTest_91
  have L9 : ∀ (n9 : Nat) (v9_2 : Int32) (v9_3 : Int32) (f9_1_4 : Int32) (H : Heap) (locs : List Loc) (ls : Array Slot) (w15 : va_W), (-1) ≤ v9_2.toInt → v9_2.toInt ≤ 21 → 0 ≤ v9_3.toInt → v9_3.toInt ≤ 400 → 0 ≤ f9_1_4.toInt → f9_1_4.toInt ≤ 3204 → (400 - v9_3.toInt).toNat < n9 → Wd dC dI A s.heap H locs w15 → TW ksC ad cy B qr s1 w15 → FE ksC [(2, 3, 3), (3, 2, 2), (6, 1, 1), (6, 3, 3), (6, 4, 4), (22, 0, 13), (23, 0, 400)] w0 w15 → gi w15 1 4 = f9_1_4 → lv_has ls 4 [(0, .ref (ad 3)), (1, .int 3), (2, .int v9_2), (3, .int v9_3)] → W p l e ({ frames := 23, cells := 0, slots := 0, locals := 564 }) s m (List.toArray [.ref (ad 3), .int 3]) below meth c H locs 0 0 (MQ below (va_Qv (P_X3_readTest_4 ad cy B qr s1  w0) (fun u : va_W => wpost dC dI cy A u) A) (List.toArray [.ref (ad 3), .int 3]) s 0 0 A) (F0 m 9 ls []) := by
    intro n9
    induction n9 with
    | zero => intro v9_2 v9_3 f9_1_4 H locs ls w15 r16 t17 r18 t19 r20 t21 hm9 hw hT hF c22 hl; omega
    | succ n9 ih9 =>
      intro v9_2 v9_3 f9_1_4 H locs ls w15 r16 t17 r18 t19 r20 t21 hm9 hw hT hF c22 hl
      have J80 : ∀ (v80_2 : Int32) (f80_1_4 : Int32) (H : Heap) (locs : List Loc) (ls : Array Slot) (w23 : va_W), (-1) ≤ v80_2.toInt → v80_2.toInt ≤ 21 → 0 ≤ v9_3.toInt → v9_3.toInt ≤ 399 → 0 ≤ f80_1_4.toInt → f80_1_4.toInt ≤ 3204 → Wd dC dI A s.heap H locs w23 → TW ksC ad cy B qr s1 w23 → FE ksC [(2, 3, 3), (3, 2, 2), (6, 1, 1), (6, 3, 3), (6, 4, 4), (22, 0, 13), (23, 0, 400)] w0 w23 → gi w23 1 4 = f80_1_4 → lv_has ls 4 [(0, .ref (ad 3)), (1, .int 3), (2, .int v80_2), (3, .int v9_3)] → W p l e ({ frames := 23, cells := 0, slots := 0, locals := 564 }) s m (List.toArray [.ref (ad 3), .int 3]) below meth c H locs 0 0 (MQ below (va_Qv (P_X3_readTest_4 ad cy B qr s1  w0) (fun u : va_W => wpost dC dI cy A u) A) (List.toArray [.ref (ad 3), .int 3]) s 0 0 A) (F0 m 80 ls []) := by
        intro v80_2 f80_1_4 H locs ls w23 r24 t25 r26 t27 r28 t29 hw hT hF c30 hl
        obtain ⟨x31, ex31⟩ : ∃ y : Int32, y = v9_3 + Int32.ofInt 1 := ⟨_, rfl⟩
        refine lv_iinc (v := x31) (lv' := [(3, .int x31), (0, .ref (ad 3)), (1, .int 3), (2, .int v80_2)]) hx hb dX3_readTest_80 hl (k := 3) rfl ex31.symm (by decide) rfl (fun ls hl => ?_)
        have ex31 : x31.toInt = v9_3.toInt + 1 := by rw [ex31]; exact wk_add (y := 1) (show -2147483648 ≤ v9_3.toInt + 1 by omega) (show v9_3.toInt + 1 ≤ 2147483647 by omega)
        refine lv_goto (tgt := 9) hx hb dX3_readTest_83 (by decide) ?_
        exact ih9 v80_2 x31 f80_1_4 H locs ls w23 (show (-1) ≤ v80_2.toInt by omega) (show v80_2.toInt ≤ 21 by omega) (show 0 ≤ x31.toInt by omega) (show x31.toInt ≤ 400 by omega) (show 0 ≤ f80_1_4.toInt by omega) (show f80_1_4.toInt ≤ 3204 by omega) (show (400 - x31.toInt).toNat < n9 by omega) hw hT hF c30 (lv_sub hl [1, 2, 3, 0] rfl)
      refine lv_iload_n hx hb dX3_readTest_9 rfl (lv_at hl 3 rfl) ?_
      refine lv_sipush (v := 400) hx hb dX3_readTest_10 (by decide) ?_
      refine lv_icmp_ge (tgt := 86) hx hb dX3_readTest_13 (by decide) (fun c32 => ?_) (fun c32 => ?_)
      · have c32 : (400 : Int) ≤ v9_3.toInt := wk_le.mp c32
        exact J86 v9_2 v9_3 f9_1_4 H locs ls w15 (show (-1) ≤ v9_2.toInt by omega) (show v9_2.toInt ≤ 21 by omega) (show 0 ≤ v9_3.toInt by omega) (show v9_3.toInt ≤ 400 by omega) (show 0 ≤ f9_1_4.toInt by omega) (show f9_1_4.toInt ≤ 3204 by omega)  hw hT hF c22 (lv_sub hl [0, 1, 2, 3] rfl)
      · have c32 : v9_3.toInt < (400 : Int) := wk_leF c32
        refine lv_aload_n hx hb dX3_readTest_16 rfl (lv_at hl 0 rfl) ?_
        refine tk_getA hC hK hw hT hinX3 kC_at3 (by decide) rfl 0 (by decide) (List.mem_of_getElem? (i := 1) rfl) rfl rfl dX3_readTest_17 ?_
        refine tk_Vi hC hK hw hT hA hE hSR kC_at1 (by decide) rfl (k_X6_isFaulty_2 l adK adV dC dI cy ad B (by omega) (by omega) qr s1    w15 H.size hT f9_1_4 c22 (show 0 ≤ f9_1_4.toInt by omega) (show f9_1_4.toInt ≤ 3204 by omega)) (cwV 0 hC.2.2.2.2 gX3_readTest_X6_isFaulty rfl rfl rfl (by decide +kernel) ⟨Nat.le_of_ble_eq_true rfl, Nat.le_of_ble_eq_true rfl⟩) rfl hl.1 rfl (Nat.le_of_ble_eq_true rfl) dX3_readTest_20 (fun r33 w35 H locs hp34 hw => ?_)
        obtain ⟨hT, k36, hg41⟩ := hp34
        have hF := hF.tr k36 (by decide)
        have c42 := k36.gi kC_at1 (by decide) c22
        rcases hg41 with ⟨rfl, ⟨x37, c38, rx37, tx37⟩⟩ | ⟨rfl, ⟨x39, c40, rx39, tx39⟩⟩
        · have ex37 : x37.toInt = f9_1_4.toInt := by rw [← c42.symm.trans c38]
          refine lv_if_ne (tgt := 86) hx hb dX3_readTest_23 (by decide) (fun c => absurd (by decide) c) (fun _ => ?_)
          refine lv_aload_n hx hb dX3_readTest_26 rfl (lv_at hl 0 rfl) ?_
          refine tk_getA hC hK hw hT hinX3 kC_at3 (by decide) rfl 0 (by decide) (List.mem_of_getElem? (i := 1) rfl) rfl rfl dX3_readTest_27 ?_
          refine va_ldcS hx hb hC.2.2.2.1 hSR.2.2.2.2.2.2.1 dX3_readTest_30 ?_
          refine tk_Vi hC hK hw hT hA hE hSR kC_at1 (by decide) rfl (k_X6_takeWord_2 l adK adV dC dI cy ad B (by omega) (by omega) qr s1    w35 H.size hT ) (cwV 1 hC.2.2.2.2 gX3_readTest_X6_takeWord rfl rfl rfl (by decide +kernel) ⟨Nat.le_of_ble_eq_true rfl, Nat.le_of_ble_eq_true rfl⟩) rfl hl.1 rfl (Nat.le_of_ble_eq_true rfl) dX3_readTest_32 (fun r43 w45 H locs hp44 hw => ?_)
          obtain ⟨hT, k46, hg49⟩ := hp44
          have hF := hF.tr k46 (by decide)
          have c50 := k46.gi kC_at1 (by decide) c42
          rcases hg49 with rfl | ⟨rfl, ⟨x47, c48, rx47, tx47⟩⟩
          · refine lv_if_eq (tgt := 55) hx hb dX3_readTest_35 (by decide) (fun _ => ?_) (fun c => absurd (by decide) c)
            refine lv_aload_n hx hb dX3_readTest_55 rfl (lv_at hl 0 rfl) ?_
            refine tk_getA hC hK hw hT hinX3 kC_at3 (by decide) rfl 0 (by decide) (List.mem_of_getElem? (i := 1) rfl) rfl rfl dX3_readTest_56 ?_
            refine va_ldcS hx hb hC.2.2.2.1 hSR.2.2.2.2.2.2.2 dX3_readTest_59 ?_
            refine tk_Vi hC hK hw hT hA hE hSR kC_at1 (by decide) rfl (k_X6_takeWord_3 l adK adV dC dI cy ad B (by omega) (by omega) qr s1    w45 H.size hT ) (cwV 1 hC.2.2.2.2 gX3_readTest_X6_takeWord rfl rfl rfl (by decide +kernel) ⟨Nat.le_of_ble_eq_true rfl, Nat.le_of_ble_eq_true rfl⟩) rfl hl.1 rfl (Nat.le_of_ble_eq_true rfl) dX3_readTest_61 (fun r51 w53 H locs hp52 hw => ?_)
            obtain ⟨hT, k54, hg57⟩ := hp52
            have hF := hF.tr k54 (by decide)
            have c58 := k54.gi kC_at1 (by decide) c50
            rcases hg57 with rfl | ⟨rfl, ⟨x55, c56, rx55, tx55⟩⟩
            · refine lv_if_eq (tgt := 86) hx hb dX3_readTest_64 (by decide) (fun _ => ?_) (fun c => absurd (by decide) c)
              exact J86 v9_2 v9_3 f9_1_4 H locs ls w53 (show (-1) ≤ v9_2.toInt by omega) (show v9_2.toInt ≤ 21 by omega) (show 0 ≤ v9_3.toInt by omega) (show v9_3.toInt ≤ 400 by omega) (show 0 ≤ f9_1_4.toInt by omega) (show f9_1_4.toInt ≤ 3204 by omega)  hw hT hF c58 (lv_sub hl [0, 1, 2, 3] rfl)
            · refine lv_if_eq (tgt := 86) hx hb dX3_readTest_64 (by decide) (fun c => absurd c (by decide)) (fun _ => ?_)
              refine lv_aload_n hx hb dX3_readTest_67 rfl (lv_at hl 0 rfl) ?_
              refine lv_iload_n hx hb dX3_readTest_68 rfl (lv_at hl 2 rfl) ?_
              refine tk_Vv hC hK hw hT hA hE hSR kC_at3 (by decide) rfl (k_X3_addWaiting_1 l adK adV dC dI cy ad B (by omega) (by omega) qr s1 hqr  v9_2 (show (-1) ≤ v9_2.toInt by omega) (show v9_2.toInt ≤ 21 by omega) w53 H.size hT ) (cwV 1 hC.2.2.2.2 gX3_readTest_X3_addWaiting rfl rfl rfl (by decide +kernel) ⟨Nat.le_of_ble_eq_true rfl, Nat.le_of_ble_eq_true rfl⟩) rfl hl.1 rfl (Nat.le_of_ble_eq_true rfl) dX3_readTest_69 (fun w61 H locs hp60 hw => ?_)
              obtain ⟨hT, k62, hg63⟩ := hp60
              have hF := hF.tr k62 (by decide)
              have c64 := k62.gi kC_at1 (by decide) c58
              have c65 := k62.gi kC_at1 (by decide) c56
              clear hg63
              refine lv_bipush (v := 21) hx hb dX3_readTest_72 (by decide) ?_
              refine lv_istore_n (lv' := [(2, .int 21), (0, .ref (ad 3)), (1, .int 3), (3, .int v9_3)]) hx hb dX3_readTest_74 rfl hl (by decide) rfl (fun ls hl => ?_)
              refine lv_aload_n hx hb dX3_readTest_75 rfl (lv_at hl 1 rfl) ?_
              refine lv_iload_n hx hb dX3_readTest_76 rfl (lv_at hl 2 rfl) ?_
              refine tk_Vv hC hK hw hT hA hE hSR kC_at3 (by decide) rfl (k_X3_readFact_4 l adK adV dC dI cy ad B (by omega) (by omega) qr s1 hqr   w61 H.size hT (c64.trans (wk_eq.mpr (show f9_1_4.toInt = 0 by omega)))) (cwV 1 hC.2.2.2.2 gX3_readTest_X3_readFact rfl rfl rfl (by decide +kernel) ⟨Nat.le_of_ble_eq_true rfl, Nat.le_of_ble_eq_true rfl⟩) rfl hl.1 rfl (Nat.le_of_ble_eq_true rfl) dX3_readTest_77 (fun w68 H locs hp67 hw => ?_)
              obtain ⟨hT, k69, hg72⟩ := hp67
              have hF := hF.tr k69 (by decide)
              obtain ⟨x70, c71, rx70, tx70⟩ := hg72
              exact J80 21 x70 H locs ls w68 (by decide) (by decide) (show 0 ≤ v9_3.toInt by omega) (show v9_3.toInt ≤ 399 by omega) (show 0 ≤ x70.toInt by omega) (show x70.toInt ≤ 3204 by omega)  hw hT hF c71 (lv_sub hl [1, 2, 0, 3] rfl)
          · refine lv_if_eq (tgt := 55) hx hb dX3_readTest_35 (by decide) (fun c => absurd c (by decide)) (fun _ => ?_)
            refine lv_aload_n hx hb dX3_readTest_38 rfl (lv_at hl 0 rfl) ?_
            refine lv_iload_n hx hb dX3_readTest_39 rfl (lv_at hl 1 rfl) ?_
            refine tk_Vv hC hK hw hT hA hE hSR kC_at3 (by decide) rfl (k_X3_readFact_4 l adK adV dC dI cy ad B (by omega) (by omega) qr s1 hqr   w45 H.size hT (c50.trans (wk_eq.mpr (show f9_1_4.toInt = 0 by omega)))) (cwV 1 hC.2.2.2.2 gX3_readTest_X3_readFact rfl rfl rfl (by decide +kernel) ⟨Nat.le_of_ble_eq_true rfl, Nat.le_of_ble_eq_true rfl⟩) rfl hl.1 rfl (Nat.le_of_ble_eq_true rfl) dX3_readTest_40 (fun w75 H locs hp74 hw => ?_)
            obtain ⟨hT, k76, hg79⟩ := hp74
            have hF := hF.tr k76 (by decide)
            obtain ⟨x77, c78, rx77, tx77⟩ := hg79
            refine lv_aload_n hx hb dX3_readTest_43 rfl (lv_at hl 0 rfl) ?_
            refine tk_getQ hC hK hw hT hqr (by decide) hinX3 kC_at3 (by decide) rfl 1 (by decide) (List.mem_of_getElem? (i := 2) rfl) rfl rfl dX3_readTest_44 ?_
            refine lv_bipush (v := 20) hx hb dX3_readTest_47 (by decide) ?_
            refine tk_Vv hC hK hw hT hA hE hSR hqr (by decide) rfl (k_X2_addToken_10 l adK adV dC dI cy ad B (by omega) (by omega) qr s1   qr hqr w75 H.size hT ) (cwV 1 hC.2.2.2.2 gX3_readTest_X2_addToken rfl rfl rfl (by decide +kernel) ⟨Nat.le_of_ble_eq_true rfl, Nat.le_of_ble_eq_true rfl⟩) rfl hl.1 rfl (Nat.le_of_ble_eq_true rfl) dX3_readTest_49 (fun w82 H locs hp81 hw => ?_)
            obtain ⟨hT, k83, hg86⟩ := hp81
            have hF := hF.tr k83 (by decide)
            have c87 := k83.gi kC_at1 (by decide) c78
            obtain ⟨x84, c85, rx84, tx84⟩ := hg86
            refine lv_goto (tgt := 80) hx hb dX3_readTest_52 (by decide) ?_
            exact J80 v9_2 x77 H locs ls w82 (show (-1) ≤ v9_2.toInt by omega) (show v9_2.toInt ≤ 21 by omega) (show 0 ≤ v9_3.toInt by omega) (show v9_3.toInt ≤ 399 by omega) (show 0 ≤ x77.toInt by omega) (show x77.toInt ≤ 3204 by omega)  hw hT hF c87 (lv_sub hl [0, 1, 2, 3] rfl)
        · have ex39 : x39.toInt = f9_1_4.toInt := by rw [← c42.symm.trans c40]
          refine lv_if_ne (tgt := 86) hx hb dX3_readTest_23 (by decide) (fun _ => ?_) (fun c => absurd c (by decide))
          exact J86 v9_2 v9_3 f9_1_4 H locs ls w35 (show (-1) ≤ v9_2.toInt by omega) (show v9_2.toInt ≤ 21 by omega) (show 0 ≤ v9_3.toInt by omega) (show v9_3.toInt ≤ 400 by omega) (show 0 ≤ f9_1_4.toInt by omega) (show f9_1_4.toInt ≤ 3204 by omega)  hw hT hF c42 (lv_sub hl [0, 1, 2, 3] rfl)
  refine lv_aload_n hx hb dX3_readTest_0 rfl (lv_at hl 0 rfl) ?_
  refine lv_iload_n hx hb dX3_readTest_1 rfl (lv_at hl 1 rfl) ?_
  refine tk_Vv hC hK hw hT hA hE hSR kC_at3 (by decide) rfl (k_X3_readFact_4 l adK adV dC dI cy ad B (by omega) (by omega) qr s1 hqr   w0 s.heap.size hT cf0_) (cwV 1 hC.2.2.2.2 gX3_readTest_X3_readFact rfl rfl rfl (by decide +kernel) ⟨Nat.le_of_ble_eq_true rfl, Nat.le_of_ble_eq_true rfl⟩) rfl hl.1 rfl (Nat.le_of_ble_eq_true rfl) dX3_readTest_2 (fun w90 H locs hp89 hw => ?_)
  obtain ⟨hT, k91, hg94⟩ := hp89
  have hF := hF.tr k91 (by decide)
  obtain ⟨x92, c93, rx92, tx92⟩ := hg94
  refine lv_iconst (v := (-1)) hx hb dX3_readTest_5 (by decide) ?_
  refine lv_istore_n (lv' := [(2, .int (-1)), (0, .ref (ad 3)), (1, .int 3)]) hx hb dX3_readTest_6 rfl hl (by decide) rfl (fun ls hl => ?_)
  refine lv_iconst (v := 0) hx hb dX3_readTest_7 (by decide) ?_
  refine lv_istore_n (lv' := [(3, .int 0), (2, .int (-1)), (0, .ref (ad 3)), (1, .int 3)]) hx hb dX3_readTest_8 rfl hl (by decide) rfl (fun ls hl => ?_)
  exact L9 ((400 - (0 : Int)).toNat + 1) (-1) 0 x92 H locs ls w90 (by decide) (by decide) (by decide) (by decide) (show 0 ≤ x92.toInt by omega) (show x92.toInt ≤ 3204 by omega) (Nat.lt_succ_self _) hw hT hF c93 (lv_sub hl [2, 3, 1, 0] rfl)
abbrev P_X3_readFact_3 (ad : Nat → Nat) (cy : Nat → ClassId) (B : Int) (qr : Nat) (s1 : Int)  (w0 : va_W) : va_W → Prop := fun u => TW ksC ad cy B qr s1 u ∧ FE ksC [(2, 3, 3), (3, 2, 2), (6, 1, 1), (6, 3, 3), (6, 4, 4), (22, 0, 13), (23, 0, 400)] w0 u ∧ (((∃ y : Int32, gi u 1 4 = y ∧ 0 ≤ y.toInt ∧ y.toInt ≤ 3204)))
set_option maxHeartbeats 4000000 in
set_option maxRecDepth 100000 in
theorem k_X3_readFact_3 (l : Launch) (adK adV : Nat → Nat) (dC : Nat → ClassId) (dI : Nat → Nat → Nat) (cy : Nat → ClassId) (ad : Nat → Nat) (B : Int) (hB0 : 2147483648 ≤ B) (hB1 : B ≤ 1152921504606846976) (qr : Nat) (s1 : Int) (hqr : ksC[qr]? = some 2)  (w0 : va_W) (sz : Nat) (hT : TW ksC ad cy B qr s1 w0) (cf0_ : gi w0 1 4 = 0) : Met l yX3_readFact wsX3_readFact ({ frames := 24, cells := 0, slots := 0, locals := 587 }) (va_Pc [.ref (ad 3), .int 2] (wpreS adK adV dC dI cy sz w0)) (va_Qv (P_X3_readFact_3 ad cy B qr s1  w0) (fun u : va_W => wpost dC dI cy (va_A w0 sz) u) (va_A w0 sz)) 0 0 (va_A w0 sz) := by
  refine Met.ofW (cc := cX3_readFact) (maxL := 5) (ret := none) (by decide) rfl ?_
  intro p e s m args below meth c s₁ Bk hml hv
  obtain ⟨rfl, ⟨hsz, hP, hK, hD0⟩, hE, hSR⟩ := hv
  have hx := Bk.exec
  have hb := Bk.bytes
  have hr := Bk.returns
  have hlocks := Bk.notSynchronized
  have hC : CallFix p m c cX3_readFact 5 s _ wsX3_readFact RX3 := ⟨hx, hb, hml, findClass_of_methodNamed Bk.named, atoms_spec (ws := wsX3_readFact) Bk.pre⟩
  subst hsz
  have hD := hD0.self (sz := s.heap.size)
  generalize hAe : va_A w0 s.heap.size = A at hD hE ⊢
  have hA : ∀ q : Nat, s.heap.size ≤ q → A q := fun q h => by rw [← hAe]; exact Or.inr h
  have hw : Wd dC dI A s.heap s.heap [] w0 := ⟨hP, hD, va_S.rf⟩
  have hF : FE ksC [(2, 3, 3), (3, 2, 2), (6, 1, 1), (6, 3, 3), (6, 4, 4), (22, 0, 13), (23, 0, 400)] w0 w0 := FE.rf
  have hl := lv_entry ([.ref (ad 3), .int 2]) (n := 5) (Nat.le_of_ble_eq_true rfl)
  rw [lg_entry_eq]
  generalize (lg_sl ([.ref (ad 3), .int 2]) ++ List.replicate (5 - (lg_sl ([.ref (ad 3), .int 2])).length) Slot.unset).toArray = ls at hl ⊢
  have hl : lv_has ls 5 [(0, .ref (ad 3)), (1, .int 2)] := hl
  generalize hloc : ([] : List Loc) = locs at hw ⊢
  have hinX3 : ∀ w ∈ u_ws RX3 TX3 3, w ∈ wsX3_readFact := fun _ h => List.mem_cons_of_mem _ (List.mem_append_left _ (List.mem_append_left _ (List.mem_append_right _ (h))))
  have J160 : ∀ (v160_2 : Int32) (v160_3 : Int32) (f160_1_4 : Int32) (H : Heap) (locs : List Loc) (ls : Array Slot) (w1 : va_W), 0 ≤ v160_2.toInt → v160_2.toInt ≤ 1 → 0 ≤ v160_3.toInt → v160_3.toInt ≤ 1 → 0 ≤ f160_1_4.toInt → f160_1_4.toInt ≤ 3204 → Wd dC dI A s.heap H locs w1 → TW ksC ad cy B qr s1 w1 → FE ksC [(2, 3, 3), (3, 2, 2), (6, 1, 1), (6, 3, 3), (6, 4, 4), (22, 0, 13), (23, 0, 400)] w0 w1 → gi w1 1 4 = f160_1_4 → lv_has ls 5 [(0, .ref (ad 3)), (1, .int 2), (2, .int v160_2), (3, .int v160_3)] → W p l e ({ frames := 24, cells := 0, slots := 0, locals := 587 }) s m (List.toArray [.ref (ad 3), .int 2]) below meth c H locs 0 0 (MQ below (va_Qv (P_X3_readFact_3 ad cy B qr s1  w0) (fun u : va_W => wpost dC dI cy A u) A) (List.toArray [.ref (ad 3), .int 2]) s 0 0 A) (F0 m 160 ls []) := by
    intro v160_2 v160_3 f160_1_4 H locs ls w1 r2 t3 r4 t5 r6 t7 hw hT hF c8 hl
    exact tk_vret hC hr hlocks hK ⟨hT, hF, ⟨f160_1_4, c8, (show 0 ≤ f160_1_4.toInt by omega), (show f160_1_4.toInt ≤ 3204 by omega)⟩⟩ hw dX3_readFact_160
  have J77 : ∀ (v77_2 : Int32) (v77_3 : Int32) (H : Heap) (locs : List Loc) (ls : Array Slot) (w9 : va_W), 0 ≤ v77_2.toInt → v77_2.toInt ≤ 1 → 0 ≤ v77_3.toInt → v77_3.toInt ≤ 1 → Wd dC dI A s.heap H locs w9 → TW ksC ad cy B qr s1 w9 → FE ksC [(2, 3, 3), (3, 2, 2), (6, 1, 1), (6, 3, 3), (6, 4, 4), (22, 0, 13), (23, 0, 400)] w0 w9 → gi w9 1 4 = 0 → lv_has ls 5 [(0, .ref (ad 3)), (1, .int 2), (2, .int v77_2), (3, .int v77_3)] → W p l e ({ frames := 24, cells := 0, slots := 0, locals := 587 }) s m (List.toArray [.ref (ad 3), .int 2]) below meth c H locs 0 0 (MQ below (va_Qv (P_X3_readFact_3 ad cy B qr s1  w0) (fun u : va_W => wpost dC dI cy A u) A) (List.toArray [.ref (ad 3), .int 2]) s 0 0 A) (F0 m 77 ls []) := by
    intro v77_2 v77_3 H locs ls w9 r10 t11 r12 t13 hw hT hF c14 hl
    refine lv_iload_n hx hb dX3_readFact_77 rfl (lv_at hl 1 rfl) ?_
    refine lv_bipush (v := 10) hx hb dX3_readFact_78 (by decide) ?_
    refine lv_icmp_lt (tgt := 101) hx hb dX3_readFact_80 (by decide) (fun _ => ?_) (fun c => absurd (by decide) c)
    refine lv_iload_n hx hb dX3_readFact_101 rfl (lv_at hl 2 rfl) ?_
    refine lv_if_eq (tgt := 124) hx hb dX3_readFact_102 (by decide) (fun c15 => ?_) (fun c15 => ?_)
    · have c15 : v77_2.toInt = (0 : Int) := wk_eq.mp c15
      refine lv_aload_n hx hb dX3_readFact_124 rfl (lv_at hl 0 rfl) ?_
      refine lv_iload_n hx hb dX3_readFact_125 rfl (lv_at hl 1 rfl) ?_
      refine lv_iconst (v := 1) hx hb dX3_readFact_126 (by decide) ?_
      refine lv_iadd hx hb dX3_readFact_127 ?_
      refine wk_top 3 (by decide) ?_
      refine tk_Vv hC hK hw hT hA hE hSR kC_at3 (by decide) rfl (k_X3_readTest_4 l adK adV dC dI cy ad B (by omega) (by omega) qr s1 hqr   w9 H.size hT c14) (cwV 1 hC.2.2.2.2 gX3_readFact_X3_readTest rfl rfl rfl (by decide +kernel) ⟨Nat.le_of_ble_eq_true rfl, Nat.le_of_ble_eq_true rfl⟩) rfl hl.1 rfl (Nat.le_of_ble_eq_true rfl) dX3_readFact_128 (fun w18 H locs hp17 hw => ?_)
      obtain ⟨hT, k19, hg22⟩ := hp17
      have hF := hF.tr k19 (by decide)
      obtain ⟨x20, c21, rx20, tx20⟩ := hg22
      refine lv_aload_n hx hb dX3_readFact_131 rfl (lv_at hl 0 rfl) ?_
      refine tk_getA hC hK hw hT hinX3 kC_at3 (by decide) rfl 0 (by decide) (List.mem_of_getElem? (i := 1) rfl) rfl rfl dX3_readFact_132 ?_
      refine tk_Vi hC hK hw hT hA hE hSR kC_at1 (by decide) rfl (k_X6_isFaulty_2 l adK adV dC dI cy ad B (by omega) (by omega) qr s1    w18 H.size hT x20 c21 (show 0 ≤ x20.toInt by omega) (show x20.toInt ≤ 3204 by omega)) (cwV 0 hC.2.2.2.2 gX3_readFact_X6_isFaulty rfl rfl rfl (by decide +kernel) ⟨Nat.le_of_ble_eq_true rfl, Nat.le_of_ble_eq_true rfl⟩) rfl hl.1 rfl (Nat.le_of_ble_eq_true rfl) dX3_readFact_135 (fun r23 w25 H locs hp24 hw => ?_)
      obtain ⟨hT, k26, hg31⟩ := hp24
      have hF := hF.tr k26 (by decide)
      have c32 := k26.gi kC_at1 (by decide) c21
      rcases hg31 with ⟨rfl, ⟨x27, c28, rx27, tx27⟩⟩ | ⟨rfl, ⟨x29, c30, rx29, tx29⟩⟩
      · have ex27 : x27.toInt = x20.toInt := by rw [← c32.symm.trans c28]
        refine lv_if_ne (tgt := 160) hx hb dX3_readFact_138 (by decide) (fun c => absurd (by decide) c) (fun _ => ?_)
        refine lv_aload_n hx hb dX3_readFact_141 rfl (lv_at hl 0 rfl) ?_
        refine tk_getA hC hK hw hT hinX3 kC_at3 (by decide) rfl 0 (by decide) (List.mem_of_getElem? (i := 1) rfl) rfl rfl dX3_readFact_142 ?_
        refine lv_bipush (v := 93) hx hb dX3_readFact_145 (by decide) ?_
        refine tk_Vi hC hK hw hT hA hE hSR kC_at1 (by decide) rfl (k_X6_takeByte_3 l adK adV dC dI cy ad B (by omega) (by omega) qr s1    w25 H.size hT ) (cwV 1 hC.2.2.2.2 gX3_readFact_X6_takeByte rfl rfl rfl (by decide +kernel) ⟨Nat.le_of_ble_eq_true rfl, Nat.le_of_ble_eq_true rfl⟩) rfl hl.1 rfl (Nat.le_of_ble_eq_true rfl) dX3_readFact_147 (fun r33 w35 H locs hp34 hw => ?_)
        obtain ⟨hT, k36, hg41⟩ := hp34
        have hF := hF.tr k36 (by decide)
        have c42 := k36.gi kC_at1 (by decide) c32
        rcases hg41 with rfl | ⟨rfl, ⟨x37, c38, rx37, tx37⟩, ⟨x39, c40, rx39, tx39⟩⟩
        · refine lv_if_ne (tgt := 160) hx hb dX3_readFact_150 (by decide) (fun c => absurd (by decide) c) (fun _ => ?_)
          refine lv_aload_n hx hb dX3_readFact_153 rfl (lv_at hl 0 rfl) ?_
          refine tk_getA hC hK hw hT hinX3 kC_at3 (by decide) rfl 0 (by decide) (List.mem_of_getElem? (i := 1) rfl) rfl rfl dX3_readFact_154 ?_
          refine tk_Vv hC hK hw hT hA hE hSR kC_at1 (by decide) rfl (k_X6_blameHere_1 l adK adV dC dI cy ad B (by omega) (by omega) qr s1    w35 H.size hT (c42.trans (wk_eq.mpr (show x20.toInt = 0 by omega)))) (cwV 0 hC.2.2.2.2 gX3_readFact_X6_blameHere rfl rfl rfl (by decide +kernel) ⟨Nat.le_of_ble_eq_true rfl, Nat.le_of_ble_eq_true rfl⟩) rfl hl.1 rfl (Nat.le_of_ble_eq_true rfl) dX3_readFact_157 (fun w45 H locs hp44 hw => ?_)
          obtain ⟨hT, k46, hg49⟩ := hp44
          have hF := hF.tr k46 (by decide)
          obtain ⟨x47, c48, rx47, tx47⟩ := hg49
          exact J160 v77_2 v77_3 x47 H locs ls w45 (show 0 ≤ v77_2.toInt by omega) (show v77_2.toInt ≤ 1 by omega) (show 0 ≤ v77_3.toInt by omega) (show v77_3.toInt ≤ 1 by omega) (show 0 ≤ x47.toInt by omega) (show x47.toInt ≤ 3204 by omega)  hw hT hF c48 (lv_sub hl [0, 1, 2, 3] rfl)
        · refine lv_if_ne (tgt := 160) hx hb dX3_readFact_150 (by decide) (fun _ => ?_) (fun c => absurd c (by decide))
          exact J160 v77_2 v77_3 x20 H locs ls w35 (show 0 ≤ v77_2.toInt by omega) (show v77_2.toInt ≤ 1 by omega) (show 0 ≤ v77_3.toInt by omega) (show v77_3.toInt ≤ 1 by omega) (show 0 ≤ x20.toInt by omega) (show x20.toInt ≤ 3204 by omega)  hw hT hF c42 (lv_sub hl [0, 1, 2, 3] rfl)
      · have ex29 : x29.toInt = x20.toInt := by rw [← c32.symm.trans c30]
        refine lv_if_ne (tgt := 160) hx hb dX3_readFact_138 (by decide) (fun _ => ?_) (fun c => absurd c (by decide))
        exact J160 v77_2 v77_3 x20 H locs ls w25 (show 0 ≤ v77_2.toInt by omega) (show v77_2.toInt ≤ 1 by omega) (show 0 ≤ v77_3.toInt by omega) (show v77_3.toInt ≤ 1 by omega) (show 0 ≤ x20.toInt by omega) (show x20.toInt ≤ 3204 by omega)  hw hT hF c32 (lv_sub hl [0, 1, 2, 3] rfl)
    · have c15 : ¬ v77_2.toInt = (0 : Int) := wk_eqF c15
      refine lv_aload_n hx hb dX3_readFact_105 rfl (lv_at hl 0 rfl) ?_
      refine lv_iload_n hx hb dX3_readFact_106 rfl (lv_at hl 1 rfl) ?_
      refine lv_iconst (v := 1) hx hb dX3_readFact_107 (by decide) ?_
      refine lv_iadd hx hb dX3_readFact_108 ?_
      refine wk_top 3 (by decide) ?_
      refine tk_Vv hC hK hw hT hA hE hSR kC_at3 (by decide) rfl (k_X3_readFact_4 l adK adV dC dI cy ad B (by omega) (by omega) qr s1 hqr   w9 H.size hT c14) (cwV 1 hC.2.2.2.2 gX3_readFact_X3_readFact rfl rfl rfl (by decide +kernel) ⟨Nat.le_of_ble_eq_true rfl, Nat.le_of_ble_eq_true rfl⟩) rfl hl.1 rfl (Nat.le_of_ble_eq_true rfl) dX3_readFact_109 (fun w52 H locs hp51 hw => ?_)
      obtain ⟨hT, k53, hg56⟩ := hp51
      have hF := hF.tr k53 (by decide)
      obtain ⟨x54, c55, rx54, tx54⟩ := hg56
      refine lv_aload_n hx hb dX3_readFact_112 rfl (lv_at hl 0 rfl) ?_
      refine tk_getQ hC hK hw hT hqr (by decide) hinX3 kC_at3 (by decide) rfl 1 (by decide) (List.mem_of_getElem? (i := 2) rfl) rfl rfl dX3_readFact_113 ?_
      refine lv_bipush (v := 19) hx hb dX3_readFact_116 (by decide) ?_
      refine tk_Vv hC hK hw hT hA hE hSR hqr (by decide) rfl (k_X2_addToken_11 l adK adV dC dI cy ad B (by omega) (by omega) qr s1   qr hqr w52 H.size hT ) (cwV 1 hC.2.2.2.2 gX3_readFact_X2_addToken rfl rfl rfl (by decide +kernel) ⟨Nat.le_of_ble_eq_true rfl, Nat.le_of_ble_eq_true rfl⟩) rfl hl.1 rfl (Nat.le_of_ble_eq_true rfl) dX3_readFact_118 (fun w59 H locs hp58 hw => ?_)
      obtain ⟨hT, k60, hg63⟩ := hp58
      have hF := hF.tr k60 (by decide)
      have c64 := k60.gi kC_at1 (by decide) c55
      obtain ⟨x61, c62, rx61, tx61⟩ := hg63
      refine lv_goto (tgt := 160) hx hb dX3_readFact_121 (by decide) ?_
      exact J160 v77_2 v77_3 x54 H locs ls w59 (show 0 ≤ v77_2.toInt by omega) (show v77_2.toInt ≤ 1 by omega) (show 0 ≤ v77_3.toInt by omega) (show v77_3.toInt ≤ 1 by omega) (show 0 ≤ x54.toInt by omega) (show x54.toInt ≤ 3204 by omega)  hw hT hF c64 (lv_sub hl [0, 1, 2, 3] rfl)
  have J41 : ∀ (v41_2 : Int32) (H : Heap) (locs : List Loc) (ls : Array Slot) (w65 : va_W), 0 ≤ v41_2.toInt → v41_2.toInt ≤ 1 → Wd dC dI A s.heap H locs w65 → TW ksC ad cy B qr s1 w65 → FE ksC [(2, 3, 3), (3, 2, 2), (6, 1, 1), (6, 3, 3), (6, 4, 4), (22, 0, 13), (23, 0, 400)] w0 w65 → gi w65 1 4 = 0 → lv_has ls 5 [(0, .ref (ad 3)), (1, .int 2), (2, .int v41_2)] → W p l e ({ frames := 24, cells := 0, slots := 0, locals := 587 }) s m (List.toArray [.ref (ad 3), .int 2]) below meth c H locs 0 0 (MQ below (va_Qv (P_X3_readFact_3 ad cy B qr s1  w0) (fun u : va_W => wpost dC dI cy A u) A) (List.toArray [.ref (ad 3), .int 2]) s 0 0 A) (F0 m 41 ls []) := by
    intro v41_2 H locs ls w65 r66 t67 hw hT hF c68 hl
    refine lv_iconst (v := 0) hx hb dX3_readFact_41 (by decide) ?_
    refine lv_istore_n (lv' := [(3, .int 0), (0, .ref (ad 3)), (1, .int 2), (2, .int v41_2)]) hx hb dX3_readFact_42 rfl hl (by decide) rfl (fun ls hl => ?_)
    refine lv_iload_n hx hb dX3_readFact_43 rfl (lv_at hl 3 rfl) ?_
    refine lv_if_ne (tgt := 77) hx hb dX3_readFact_44 (by decide) (fun c69 => ?_) (fun c69 => ?_)
    · have c69 : ¬ v41_2.toInt = (0 : Int) := wk_eqF c69
      exact J77 v41_2 0 H locs ls w65 (show 0 ≤ v41_2.toInt by omega) (show v41_2.toInt ≤ 1 by omega) (by decide) (by decide)  hw hT hF c68 (lv_sub hl [1, 2, 3, 0] rfl)
    · have c69 : v41_2.toInt = (0 : Int) := wk_eq.mp c69
      refine lv_iload_n hx hb dX3_readFact_47 rfl (lv_at hl 0 rfl) ?_
      refine lv_if_ne (tgt := 77) hx hb dX3_readFact_48 (by decide) (fun c => absurd (by decide) c) (fun _ => ?_)
      refine lv_aload_n hx hb dX3_readFact_51 rfl (lv_at hl 1 rfl) ?_
      refine tk_Vv hC hK hw hT hA hE hSR kC_at3 (by decide) rfl (k_X3_readSum_1 l adK adV dC dI cy ad B (by omega) (by omega) qr s1 hqr   w65 H.size hT c68) (cwV 0 hC.2.2.2.2 gX3_readFact_X3_readSum rfl rfl rfl (by decide +kernel) ⟨Nat.le_of_ble_eq_true rfl, Nat.le_of_ble_eq_true rfl⟩) rfl hl.1 rfl (Nat.le_of_ble_eq_true rfl) dX3_readFact_52 (fun w72 H locs hp71 hw => ?_)
      obtain ⟨hT, k73, hg76⟩ := hp71
      have hF := hF.tr k73 (by decide)
      obtain ⟨x74, c75, rx74, tx74⟩ := hg76
      refine lv_aload_n hx hb dX3_readFact_55 rfl (lv_at hl 1 rfl) ?_
      refine tk_Vi hC hK hw hT hA hE hSR kC_at3 (by decide) rfl (k_X3_readSign_1 l adK adV dC dI cy ad B (by omega) (by omega) qr s1    w72 H.size hT x74 c75 (show 0 ≤ x74.toInt by omega) (show x74.toInt ≤ 3204 by omega)) (cwV 0 hC.2.2.2.2 gX3_readFact_X3_readSign rfl rfl rfl (by decide +kernel) ⟨Nat.le_of_ble_eq_true rfl, Nat.le_of_ble_eq_true rfl⟩) rfl hl.1 rfl (Nat.le_of_ble_eq_true rfl) dX3_readFact_56 (fun r77 w79 H locs hp78 hw => ?_)
      obtain ⟨hT, k80, hg91⟩ := hp78
      have hF := hF.tr k80 (by decide)
      rcases hg91 with ⟨rfl, ⟨x81, c82, rx81, tx81⟩⟩ | ⟨g83, g84, ⟨x85, c86, rx85, tx85⟩, ⟨x87, c88, rx87, tx87⟩, ⟨x89, c90, rx89, tx89⟩⟩
      · refine lv_istore (lv' := [(4, .int 16), (3, .int 0), (0, .ref (ad 3)), (1, .int 2), (2, .int v41_2)]) hx hb dX3_readFact_59 hl (by decide) rfl (fun ls hl => ?_)
        refine lv_aload_n hx hb dX3_readFact_61 rfl (lv_at hl 2 rfl) ?_
        refine tk_Vv hC hK hw hT hA hE hSR kC_at3 (by decide) rfl (k_X3_readSum_2 l adK adV dC dI cy ad B (by omega) (by omega) qr s1 hqr   w79 H.size hT x81 c82 (show 1 ≤ x81.toInt by omega) (show x81.toInt ≤ 3204 by omega)) (cwV 0 hC.2.2.2.2 gX3_readFact_X3_readSum rfl rfl rfl (by decide +kernel) ⟨Nat.le_of_ble_eq_true rfl, Nat.le_of_ble_eq_true rfl⟩) rfl hl.1 rfl (Nat.le_of_ble_eq_true rfl) dX3_readFact_62 (fun w94 H locs hp93 hw => ?_)
        obtain ⟨hT, k95, hg98⟩ := hp93
        have hF := hF.tr k95 (by decide)
        have c99 := k95.gi kC_at1 (by decide) c82
        obtain ⟨x96, c97, rx96, tx96⟩ := hg98
        have ex96 : x96.toInt = x81.toInt := by rw [← c99.symm.trans c97]
        refine lv_aload_n hx hb dX3_readFact_65 rfl (lv_at hl 2 rfl) ?_
        refine tk_getQ hC hK hw hT hqr (by decide) hinX3 kC_at3 (by decide) rfl 1 (by decide) (List.mem_of_getElem? (i := 2) rfl) rfl rfl dX3_readFact_66 ?_
        refine lv_iload hx hb dX3_readFact_69 (lv_at hl 0 rfl) ?_
        refine tk_Vv hC hK hw hT hA hE hSR hqr (by decide) rfl (k_X2_addToken_8 l adK adV dC dI cy ad B (by omega) (by omega) qr s1   qr hqr w94 H.size hT ) (cwV 1 hC.2.2.2.2 gX3_readFact_X2_addToken rfl rfl rfl (by decide +kernel) ⟨Nat.le_of_ble_eq_true rfl, Nat.le_of_ble_eq_true rfl⟩) rfl hl.1 rfl (Nat.le_of_ble_eq_true rfl) dX3_readFact_71 (fun w102 H locs hp101 hw => ?_)
        obtain ⟨hT, k103, hg106⟩ := hp101
        have hF := hF.tr k103 (by decide)
        have c107 := k103.gi kC_at1 (by decide) c99
        obtain ⟨x104, c105, rx104, tx104⟩ := hg106
        refine lv_goto (tgt := 160) hx hb dX3_readFact_74 (by decide) ?_
        exact J160 v41_2 0 x81 H locs ls w102 (show 0 ≤ v41_2.toInt by omega) (show v41_2.toInt ≤ 1 by omega) (by decide) (by decide) (show 0 ≤ x81.toInt by omega) (show x81.toInt ≤ 3204 by omega)  hw hT hF c107 (lv_sub hl [2, 3, 4, 1] rfl)
      · refine lv_istore (lv' := [(4, .int r77), (3, .int 0), (0, .ref (ad 3)), (1, .int 2), (2, .int v41_2)]) hx hb dX3_readFact_59 hl (by decide) rfl (fun ls hl => ?_)
        refine lv_aload_n hx hb dX3_readFact_61 rfl (lv_at hl 2 rfl) ?_
        refine tk_Vv hC hK hw hT hA hE hSR kC_at3 (by decide) rfl (k_X3_readSum_3 l adK adV dC dI cy ad B (by omega) (by omega) qr s1 hqr   w79 H.size hT x89 c90 (show 0 ≤ x89.toInt by omega) (show x89.toInt ≤ 3204 by omega)) (cwV 0 hC.2.2.2.2 gX3_readFact_X3_readSum rfl rfl rfl (by decide +kernel) ⟨Nat.le_of_ble_eq_true rfl, Nat.le_of_ble_eq_true rfl⟩) rfl hl.1 rfl (Nat.le_of_ble_eq_true rfl) dX3_readFact_62 (fun w110 H locs hp109 hw => ?_)
        obtain ⟨hT, k111, hg114⟩ := hp109
        have hF := hF.tr k111 (by decide)
        have c115 := k111.gi kC_at1 (by decide) c86
        obtain ⟨x112, c113, rx112, tx112⟩ := hg114
        refine lv_aload_n hx hb dX3_readFact_65 rfl (lv_at hl 2 rfl) ?_
        refine tk_getQ hC hK hw hT hqr (by decide) hinX3 kC_at3 (by decide) rfl 1 (by decide) (List.mem_of_getElem? (i := 2) rfl) rfl rfl dX3_readFact_66 ?_
        refine lv_iload hx hb dX3_readFact_69 (lv_at hl 0 rfl) ?_
        refine tk_Vv hC hK hw hT hA hE hSR hqr (by decide) rfl (k_X2_addToken_9 l adK adV dC dI cy ad B (by omega) (by omega) qr s1   qr hqr r77 (show 14 ≤ r77.toInt by omega) (show r77.toInt ≤ 18 by omega) w110 H.size hT ) (cwV 1 hC.2.2.2.2 gX3_readFact_X2_addToken rfl rfl rfl (by decide +kernel) ⟨Nat.le_of_ble_eq_true rfl, Nat.le_of_ble_eq_true rfl⟩) rfl hl.1 rfl (Nat.le_of_ble_eq_true rfl) dX3_readFact_71 (fun w118 H locs hp117 hw => ?_)
        obtain ⟨hT, k119, hg122⟩ := hp117
        have hF := hF.tr k119 (by decide)
        have c123 := k119.gi kC_at1 (by decide) c115
        have c124 := k119.gi kC_at1 (by decide) c113
        obtain ⟨x120, c121, rx120, tx120⟩ := hg122
        refine lv_goto (tgt := 160) hx hb dX3_readFact_74 (by decide) ?_
        exact J160 v41_2 0 x112 H locs ls w118 (show 0 ≤ v41_2.toInt by omega) (show v41_2.toInt ≤ 1 by omega) (by decide) (by decide) (show 0 ≤ x112.toInt by omega) (show x112.toInt ≤ 3204 by omega)  hw hT hF c124 (lv_sub hl [2, 3, 4, 1] rfl)
  refine lv_aload_n hx hb dX3_readFact_0 rfl (lv_at hl 0 rfl) ?_
  refine tk_getA hC hK hw hT hinX3 kC_at3 (by decide) rfl 0 (by decide) (List.mem_of_getElem? (i := 1) rfl) rfl rfl dX3_readFact_1 ?_
  refine tk_Vi hC hK hw hT hA hE hSR kC_at1 (by decide) rfl (k_X6_isFaulty_3 l adK adV dC dI cy ad B (by omega) (by omega) qr s1    w0 s.heap.size hT cf0_) (cwV 0 hC.2.2.2.2 gX3_readFact_X6_isFaulty rfl rfl rfl (by decide +kernel) ⟨Nat.le_of_ble_eq_true rfl, Nat.le_of_ble_eq_true rfl⟩) rfl hl.1 rfl (Nat.le_of_ble_eq_true rfl) dX3_readFact_4 (fun r125 w127 H locs hp126 hw => ?_)
  obtain ⟨hT, k128, hg131⟩ := hp126
  have hF := hF.tr k128 (by decide)
  have c132 := k128.gi kC_at1 (by decide) cf0_
  obtain ⟨rfl, ⟨x129, c130, rx129, tx129⟩⟩ := hg131
  have ex129 : x129.toInt = (0 : Int) := by rw [show x129 = 0 from c130.symm.trans c132]; decide
  refine lv_if_eq (tgt := 11) hx hb dX3_readFact_7 (by decide) (fun _ => ?_) (fun c => absurd (by decide) c)
  refine lv_aload_n hx hb dX3_readFact_11 rfl (lv_at hl 0 rfl) ?_
  refine tk_getA hC hK hw hT hinX3 kC_at3 (by decide) rfl 0 (by decide) (List.mem_of_getElem? (i := 1) rfl) rfl rfl dX3_readFact_12 ?_
  refine va_ldcS hx hb hC.2.2.2.1 hSR.2.2.2.2.1 dX3_readFact_15 ?_
  refine tk_Vi hC hK hw hT hA hE hSR kC_at1 (by decide) rfl (k_X6_takeWord_4 l adK adV dC dI cy ad B (by omega) (by omega) qr s1    w127 H.size hT ) (cwV 1 hC.2.2.2.2 gX3_readFact_X6_takeWord rfl rfl rfl (by decide +kernel) ⟨Nat.le_of_ble_eq_true rfl, Nat.le_of_ble_eq_true rfl⟩) rfl hl.1 rfl (Nat.le_of_ble_eq_true rfl) dX3_readFact_17 (fun r133 w135 H locs hp134 hw => ?_)
  obtain ⟨hT, k136, hg139⟩ := hp134
  have hF := hF.tr k136 (by decide)
  have c140 := k136.gi kC_at1 (by decide) c132
  rcases hg139 with rfl | ⟨rfl, ⟨x137, c138, rx137, tx137⟩⟩
  · refine lv_istore_n (lv' := [(2, .int 0), (0, .ref (ad 3)), (1, .int 2)]) hx hb dX3_readFact_20 rfl hl (by decide) rfl (fun ls hl => ?_)
    refine lv_iload_n hx hb dX3_readFact_21 rfl (lv_at hl 0 rfl) ?_
    refine lv_if_ne (tgt := 41) hx hb dX3_readFact_22 (by decide) (fun c => absurd (by decide) c) (fun _ => ?_)
    refine lv_aload_n hx hb dX3_readFact_25 rfl (lv_at hl 1 rfl) ?_
    refine tk_getA hC hK hw hT hinX3 kC_at3 (by decide) rfl 0 (by decide) (List.mem_of_getElem? (i := 1) rfl) rfl rfl dX3_readFact_26 ?_
    refine lv_bipush (v := 91) hx hb dX3_readFact_29 (by decide) ?_
    refine tk_Vi hC hK hw hT hA hE hSR kC_at1 (by decide) rfl (k_X6_takeByte_2 l adK adV dC dI cy ad B (by omega) (by omega) qr s1    w135 H.size hT ) (cwV 1 hC.2.2.2.2 gX3_readFact_X6_takeByte rfl rfl rfl (by decide +kernel) ⟨Nat.le_of_ble_eq_true rfl, Nat.le_of_ble_eq_true rfl⟩) rfl hl.1 rfl (Nat.le_of_ble_eq_true rfl) dX3_readFact_31 (fun r141 w143 H locs hp142 hw => ?_)
    obtain ⟨hT, k144, hg149⟩ := hp142
    have hF := hF.tr k144 (by decide)
    have c150 := k144.gi kC_at1 (by decide) c140
    rcases hg149 with rfl | ⟨rfl, ⟨x145, c146, rx145, tx145⟩, ⟨x147, c148, rx147, tx147⟩⟩
    · refine lv_if_eq (tgt := 41) hx hb dX3_readFact_34 (by decide) (fun _ => ?_) (fun c => absurd (by decide) c)
      exact J41 0 H locs ls w143 (by decide) (by decide)  hw hT hF c150 (lv_sub hl [1, 2, 0] rfl)
    · refine lv_if_eq (tgt := 41) hx hb dX3_readFact_34 (by decide) (fun c => absurd c (by decide)) (fun _ => ?_)
      refine lv_iconst (v := 1) hx hb dX3_readFact_37 (by decide) ?_
      refine lv_goto (tgt := 42) hx hb dX3_readFact_38 (by decide) ?_
      refine lv_istore_n (lv' := [(3, .int 1), (2, .int 0), (0, .ref (ad 3)), (1, .int 2)]) hx hb dX3_readFact_42 rfl hl (by decide) rfl (fun ls hl => ?_)
      refine lv_iload_n hx hb dX3_readFact_43 rfl (lv_at hl 1 rfl) ?_
      refine lv_if_ne (tgt := 77) hx hb dX3_readFact_44 (by decide) (fun c => absurd (by decide) c) (fun _ => ?_)
      refine lv_iload_n hx hb dX3_readFact_47 rfl (lv_at hl 0 rfl) ?_
      refine lv_if_ne (tgt := 77) hx hb dX3_readFact_48 (by decide) (fun _ => ?_) (fun c => absurd c (by decide))
      exact J77 0 1 H locs ls w143 (by decide) (by decide) (by decide) (by decide)  hw hT hF c150 (lv_sub hl [2, 3, 1, 0] rfl)
  · refine lv_istore_n (lv' := [(2, .int 1), (0, .ref (ad 3)), (1, .int 2)]) hx hb dX3_readFact_20 rfl hl (by decide) rfl (fun ls hl => ?_)
    refine lv_iload_n hx hb dX3_readFact_21 rfl (lv_at hl 0 rfl) ?_
    refine lv_if_ne (tgt := 41) hx hb dX3_readFact_22 (by decide) (fun _ => ?_) (fun c => absurd c (by decide))
    exact J41 1 H locs ls w135 (by decide) (by decide)  hw hT hF c140 (lv_sub hl [1, 2, 0] rfl)
