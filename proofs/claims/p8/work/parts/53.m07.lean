abbrev P_X12_doing_1 (ad : Nat → Nat) (cy : Nat → ClassId) (B : Int) (qr : Nat) (s1 : Int) (a1 : Int32) (w0 : va_W) : Int32 → va_W → Prop := fun r u => TW ksM ad cy B qr 12 u ∧ FE ksM [(12, 24, 24), (69, 0, 64), (70, 0, 10)] w0 u ∧ ((r.toInt ≤ (-1)) ∨ (3 ≤ r.toInt) ∨ (r = 0 ∧ (∃ y : Int32, gi u 0 31 = y ∧ 0 ≤ y.toInt ∧ y.toInt ≤ 11)) ∨ (r = 1 ∧ (∃ y : Int32, gi u 12 1 = y ∧ 1 ≤ y.toInt ∧ y.toInt ≤ 12) ∧ (mAS u a1.toInt)) ∨ (r = 2 ∧ (∃ y : Int32, gi u 0 30 = y ∧ 0 ≤ y.toInt ∧ y.toInt ≤ 0)) ∨ (r = 3))
set_option maxHeartbeats 4000000 in
set_option maxRecDepth 100000 in
theorem k_X12_doing_1 (l : Launch) (adK adV : Nat → Nat) (dC : Nat → ClassId) (dI : Nat → Nat → Nat) (cy : Nat → ClassId) (ad : Nat → Nat) (B : Int) (hB0 : 100000 ≤ B) (hB1 : B ≤ 1073741824) (qr : Nat) (s1 : Int)  (a1 : Int32) (ra1 : 0 ≤ a1.toInt) (ta1 : a1.toInt ≤ 3) (w0 : va_W) (sz : Nat) (hT : TW ksM ad cy B qr 12 w0) (hRW : RW w0) : Met l yX12_doing (wu yX12_doing cX12_doing 5 (some .int)) ({ frames := 7, cells := 0, slots := 0, locals := 147 }) (va_Pc [.ref (ad 0), .int a1] (wpreS adK adV dC dI cy sz w0)) (va_Qi (P_X12_doing_1 ad cy B qr s1 a1 w0) (fun u : va_W => wpost dC dI cy (va_A w0 sz) u) (va_A w0 sz)) 0 0 (va_A w0 sz) := by
  refine Met.ofW (cc := cX12_doing) (maxL := 5) (ret := (some .int)) (by decide) rfl ?_
  intro p e s m args below meth c s₁ Bk hml hv
  obtain ⟨rfl, ⟨hsz, hP, hK, hD0⟩, hE, hSR⟩ := hv
  have hx := Bk.exec
  have hb := Bk.bytes
  have hr := Bk.returns
  have hlocks := Bk.notSynchronized
  have hC : CallFix p m c cX12_doing 5 s _ (wu yX12_doing cX12_doing 5 (some .int)) RX12 := ⟨hx, hb, hml, findClass_of_methodNamed Bk.named, atoms_spec (ws := (wu yX12_doing cX12_doing 5 (some .int))) Bk.pre⟩
  subst hsz
  have hD := hD0.self (sz := s.heap.size)
  generalize hAe : va_A w0 s.heap.size = A at hD hE ⊢
  have hA : ∀ q : Nat, s.heap.size ≤ q → A q := fun q h => by rw [← hAe]; exact Or.inr h
  have hw : Wd dC dI A s.heap s.heap [] w0 := ⟨hP, hD, va_S.rf⟩
  have hF : FE ksM [(12, 24, 24), (69, 0, 64), (70, 0, 10)] w0 w0 := FE.rf
  have hl := lv_entry ([.ref (ad 0), .int a1]) (n := 5) (Nat.le_of_ble_eq_true rfl)
  rw [lg_entry_eq]
  generalize (lg_sl ([.ref (ad 0), .int a1]) ++ List.replicate (5 - (lg_sl ([.ref (ad 0), .int a1])).length) Slot.unset).toArray = ls at hl ⊢
  have hl : lv_has ls 5 [(0, .ref (ad 0)), (1, .int a1)] := hl
  generalize hloc : ([] : List Loc) = locs at hw ⊢
  have hinX12 : ∀ w ∈ u_ws RX12 TX12 42, w ∈ (wu yX12_doing cX12_doing 5 (some .int)) := fun _ h => List.mem_cons_of_mem _ (up_71 h)
  have L32 : ∀ (n32 : Nat) (v32_2 : Int32) (v32_3 : Int32) (f32_0_30 : Int32) (f32_12__9_a1_toInt_219_toNat : Int32) (H : Heap) (locs : List Loc) (ls : Array Slot) (w1 : va_W), 0 ≤ a1.toInt → a1.toInt ≤ 3 → 0 ≤ v32_2.toInt → v32_2.toInt ≤ 5 → 0 ≤ v32_3.toInt → v32_3.toInt ≤ 12 → 0 ≤ f32_0_30.toInt → f32_0_30.toInt ≤ 1 → 0 ≤ f32_12__9_a1_toInt_219_toNat.toInt → f32_12__9_a1_toInt_219_toNat.toInt ≤ 5 → (12 - v32_3.toInt).toNat < n32 → Wd dC dI A s.heap H locs w1 → TW ksM ad cy B qr 12 w1 → FE ksM [(12, 24, 24), (69, 0, 64), (70, 0, 10)] w0 w1 → RW w1 → gi w1 0 30 = f32_0_30 → gi w1 12 (9 * a1.toInt + 219).toNat = f32_12__9_a1_toInt_219_toNat → lv_has ls 5 [(0, .ref (ad 0)), (1, .int a1), (2, .int v32_2), (3, .int v32_3)] → W p l e ({ frames := 7, cells := 0, slots := 0, locals := 147 }) s m (List.toArray [.ref (ad 0), .int a1]) below meth c H locs 0 0 (MQ below (va_Qi (P_X12_doing_1 ad cy B qr s1 a1 w0) (fun u : va_W => wpost dC dI cy A u) A) (List.toArray [.ref (ad 0), .int a1]) s 0 0 A) (F0 m 32 ls []) := by
    intro n32
    induction n32 with
    | zero => intro v32_2 v32_3 f32_0_30 f32_12__9_a1_toInt_219_toNat H locs ls w1 r2 t3 r4 t5 r6 t7 r8 t9 r11 t12 hm32 hw hT hF hRW c10 c13 hl; omega
    | succ n32 ih32 =>
      intro v32_2 v32_3 f32_0_30 f32_12__9_a1_toInt_219_toNat H locs ls w1 r2 t3 r4 t5 r6 t7 r8 t9 r11 t12 hm32 hw hT hF hRW c10 c13 hl
      have J115 : ∀ (v115_4 : Int32) (f115_4__36_v32_2_toInt_3_v32_3_toInt_0_toNat : Int32) (f115_5__v32_2_toInt_toNat : Int32) (H : Heap) (locs : List Loc) (ls : Array Slot) (w14 : va_W), 0 ≤ a1.toInt → a1.toInt ≤ 3 → 0 ≤ v32_2.toInt → v32_2.toInt ≤ 5 → 0 ≤ v32_3.toInt → v32_3.toInt ≤ 11 → 0 ≤ v115_4.toInt → v115_4.toInt ≤ 213 → 0 ≤ f32_0_30.toInt → f32_0_30.toInt ≤ 1 → 0 ≤ f32_12__9_a1_toInt_219_toNat.toInt → f32_12__9_a1_toInt_219_toNat.toInt ≤ 5 → 1 ≤ f115_5__v32_2_toInt_toNat.toInt → f115_5__v32_2_toInt_toNat.toInt ≤ 12 → Wd dC dI A s.heap H locs w14 → TW ksM ad cy B qr 12 w14 → FE ksM [(12, 24, 24), (69, 0, 64), (70, 0, 10)] w0 w14 → RW w14 → gi w14 0 30 = f32_0_30 → gi w14 12 (9 * a1.toInt + 219).toNat = f32_12__9_a1_toInt_219_toNat → gi w14 4 (36 * v32_2.toInt + 3 * v32_3.toInt + 0).toNat = f115_4__36_v32_2_toInt_3_v32_3_toInt_0_toNat → gi w14 5 (v32_2.toInt).toNat = f115_5__v32_2_toInt_toNat → lv_has ls 5 [(0, .ref (ad 0)), (1, .int a1), (2, .int v32_2), (3, .int v32_3), (4, .int v115_4)] → W p l e ({ frames := 7, cells := 0, slots := 0, locals := 147 }) s m (List.toArray [.ref (ad 0), .int a1]) below meth c H locs 0 0 (MQ below (va_Qi (P_X12_doing_1 ad cy B qr s1 a1 w0) (fun u : va_W => wpost dC dI cy A u) A) (List.toArray [.ref (ad 0), .int a1]) s 0 0 A) (F0 m 115 ls []) := by
        intro v115_4 f115_4__36_v32_2_toInt_3_v32_3_toInt_0_toNat f115_5__v32_2_toInt_toNat H locs ls w14 r15 t16 r17 t18 r19 t20 r21 t22 r23 t24 r26 t27 r30 t31 hw hT hF hRW c25 c28 c29 c32 hl
        obtain ⟨x33, ex33⟩ : ∃ y : Int32, y = v32_3 + Int32.ofInt 1 := ⟨_, rfl⟩
        refine lv_iinc (v := x33) (lv' := [(3, .int x33), (0, .ref (ad 0)), (1, .int a1), (2, .int v32_2), (4, .int v115_4)]) hx hb dX12_doing_115 hl (k := 3) rfl ex33.symm (by decide) rfl (fun ls hl => ?_)
        have ex33 : x33.toInt = v32_3.toInt + 1 := by rw [ex33]; exact wk_add (y := 1) (show -2147483648 ≤ v32_3.toInt + 1 by omega) (show v32_3.toInt + 1 ≤ 2147483647 by omega)
        refine lv_goto (tgt := 32) hx hb dX12_doing_118 (by decide) ?_
        exact ih32 v32_2 x33 f32_0_30 f32_12__9_a1_toInt_219_toNat H locs ls w14 (show 0 ≤ a1.toInt from r15) (show a1.toInt ≤ 3 from t16) (show 0 ≤ v32_2.toInt from r17) (show v32_2.toInt ≤ 5 from t18) (show 0 ≤ x33.toInt by omega) (show x33.toInt ≤ 12 by omega) (show 0 ≤ f32_0_30.toInt from r23) (show f32_0_30.toInt ≤ 1 from t24) (show 0 ≤ f32_12__9_a1_toInt_219_toNat.toInt from r26) (show f32_12__9_a1_toInt_219_toNat.toInt ≤ 5 from t27) (show (12 - x33.toInt).toNat < n32 by omega) hw hT hF hRW c25 c28 (lv_sub hl [1, 2, 3, 0] rfl)
      refine lv_iload_n hx hb dX12_doing_32 rfl (lv_at hl 3 rfl) ?_
      refine lv_aload_n hx hb dX12_doing_33 rfl (lv_at hl 0 rfl) ?_
      refine tk_getA hC hK hw hT hinX12 kM_at0 (by decide) rfl 6 (by decide) (List.mem_cons_of_mem _ uw_6_18) rfl rfl dX12_doing_34 ?_
      refine lv_iload_n hx hb dX12_doing_37 rfl (lv_at hl 2 rfl) ?_
      refine tk_iald hC hK hw hT kM_at5 rfl rfl (show 0 ≤ v32_2.toInt from r4) (show v32_2.toInt < 6 from Int.lt_of_le_of_lt t5 (by decide)) dX12_doing_38 (fun x34 c35 rx34 tx34 => ?_)
      have c35 : gi w1 5 (v32_2.toInt).toNat = x34 := (congrArg (gi w1 5) (congrArg Int.toNat (show v32_2.toInt = v32_2.toInt by omega))).trans c35
      refine lv_icmp_ge (tgt := 121) hx hb dX12_doing_39 (by decide) (fun c36 => ?_) (fun c36 => ?_)
      · have c36 : x34.toInt ≤ v32_3.toInt := wk_le.mp c36
        refine lv_iconst (v := 3) hx hb dX12_doing_121 (by decide) ?_
        exact tk_iret hC hr hlocks hK ⟨hT, hF, (Or.inr (Or.inr (Or.inr (Or.inr (Or.inr rfl)))))⟩ hw dX12_doing_122
      · have c36 : v32_3.toInt < x34.toInt := wk_leF c36
        refine lv_bipush (v := 36) hx hb dX12_doing_42 (by decide) ?_
        refine lv_iload_n hx hb dX12_doing_44 rfl (lv_at hl 2 rfl) ?_
        refine lv_imul hx hb dX12_doing_45 ?_
        refine lv_topi (fun x37 ex37 => ?_)
        have ex37 : x37.toInt = (36 : Int) * v32_2.toInt := by rw [ex37]; exact wk_mul (show (-2147483648) ≤ (36 : Int) * v32_2.toInt by omega) (show (36 : Int) * v32_2.toInt ≤ 2147483647 by omega)
        refine lv_iconst (v := 3) hx hb dX12_doing_46 (by decide) ?_
        refine lv_iload_n hx hb dX12_doing_47 rfl (lv_at hl 3 rfl) ?_
        refine lv_imul hx hb dX12_doing_48 ?_
        refine lv_topi (fun x38 ex38 => ?_)
        have ex38 : x38.toInt = (3 : Int) * v32_3.toInt := by rw [ex38]; exact wk_mul (show (-2147483648) ≤ (3 : Int) * v32_3.toInt by omega) (show (3 : Int) * v32_3.toInt ≤ 2147483647 by omega)
        refine lv_iadd hx hb dX12_doing_49 ?_
        refine lv_topi (fun x39 ex39 => ?_)
        have ex39 : x39.toInt = x37.toInt + x38.toInt := by rw [ex39]; exact wk_add (show (-2147483648) ≤ x37.toInt + x38.toInt by omega) (show x37.toInt + x38.toInt ≤ 2147483647 by omega)
        refine lv_istore (lv' := [(4, .int x39), (0, .ref (ad 0)), (1, .int a1), (2, .int v32_2), (3, .int v32_3)]) hx hb dX12_doing_50 hl (by decide) rfl (fun ls hl => ?_)
        refine lv_aload_n hx hb dX12_doing_52 rfl (lv_at hl 1 rfl) ?_
        refine lv_iload_n hx hb dX12_doing_53 rfl (lv_at hl 2 rfl) ?_
        refine lv_aload_n hx hb dX12_doing_54 rfl (lv_at hl 1 rfl) ?_
        refine tk_getA hC hK hw hT hinX12 kM_at0 (by decide) rfl 5 (by decide) (List.mem_cons_of_mem _ uw_6_17) rfl rfl dX12_doing_55 ?_
        refine lv_iload hx hb dX12_doing_58 (lv_at hl 0 rfl) ?_
        refine tk_iald hC hK hw hT kM_at4 rfl rfl (show 0 ≤ x39.toInt by omega) (show x39.toInt < 216 by omega) dX12_doing_60 (fun x40 c41 rx40 tx40 => ?_)
        have c41 : gi w1 4 (36 * v32_2.toInt + 3 * v32_3.toInt + 0).toNat = x40 := (congrArg (gi w1 4) (congrArg Int.toNat (show 36 * v32_2.toInt + 3 * v32_3.toInt + 0 = x39.toInt by omega))).trans c41
        refine tk_Vi hC hK hw hT hA hE hSR kM_at0 (by decide) rfl (k_X12_mayDo_1 l adK adV dC dI cy ad B (by omega) (by omega) qr s1   a1 (show 0 ≤ a1.toInt from r2) (show a1.toInt ≤ 3 from t3) x40 w1 H.size hT ) (cwV 2 hC.2.2.2.2 uV_RX12_398 rfl rfl rfl (by decide +kernel) ⟨Nat.le_of_ble_eq_true rfl, Nat.le_of_ble_eq_true rfl⟩) rfl hl.1 rfl (Nat.le_of_ble_eq_true rfl) dX12_doing_61 (fun r42 w44 H locs hp43 hw => ?_)
        obtain ⟨rfl, hg65⟩ := hp43
        rcases hg65 with rfl | ⟨rfl, g46, g47⟩ | ⟨rfl, g48, g49⟩ | ⟨rfl, g50⟩ | ⟨rfl, g51, g52, ⟨x53, c54, rx53, tx53⟩⟩ | ⟨rfl, g55, g56, ⟨x57, c58, rx57, tx57⟩, hq59⟩ | ⟨rfl, g60, g61, ⟨x62, c63, rx62, tx62⟩⟩ | ⟨rfl, g64⟩
        · refine lv_if_eq (tgt := 115) hx hb dX12_doing_64 (by decide) (fun _ => ?_) (fun c => absurd (by decide) c)
          exact J115 x39 x40 x34 H locs ls w1 (show 0 ≤ a1.toInt from r2) (show a1.toInt ≤ 3 from t3) (show 0 ≤ v32_2.toInt from r4) (show v32_2.toInt ≤ 5 from t5) (show 0 ≤ v32_3.toInt from r6) (show v32_3.toInt ≤ 11 by omega) (show 0 ≤ x39.toInt by omega) (show x39.toInt ≤ 213 by omega) (show 0 ≤ f32_0_30.toInt from r8) (show f32_0_30.toInt ≤ 1 from t9) (show 0 ≤ f32_12__9_a1_toInt_219_toNat.toInt from r11) (show f32_12__9_a1_toInt_219_toNat.toInt ≤ 5 from t12) (show 1 ≤ x34.toInt by omega) (show x34.toInt ≤ 12 from tx34)  hw hT hF hRW c10 c13 c41 c35 (lv_sub hl [1, 2, 3, 4, 0] rfl)
        · refine lv_if_eq (tgt := 115) hx hb dX12_doing_64 (by decide) (fun _ => ?_) (fun c => absurd (by decide) c)
          exact J115 x39 x40 x34 H locs ls w1 (show 0 ≤ a1.toInt from r2) (show a1.toInt ≤ 3 from t3) (show 0 ≤ v32_2.toInt from r4) (show v32_2.toInt ≤ 5 from t5) (show 0 ≤ v32_3.toInt from r6) (show v32_3.toInt ≤ 11 by omega) (show 0 ≤ x39.toInt by omega) (show x39.toInt ≤ 213 by omega) (show 0 ≤ f32_0_30.toInt from r8) (show f32_0_30.toInt ≤ 1 from t9) (show 0 ≤ f32_12__9_a1_toInt_219_toNat.toInt from r11) (show f32_12__9_a1_toInt_219_toNat.toInt ≤ 5 from t12) (show 1 ≤ x34.toInt by omega) (show x34.toInt ≤ 12 from tx34)  hw hT hF hRW c10 c13 c41 c35 (lv_sub hl [1, 2, 3, 4, 0] rfl)
        · refine lv_if_eq (tgt := 115) hx hb dX12_doing_64 (by decide) (fun _ => ?_) (fun c => absurd (by decide) c)
          exact J115 x39 x40 x34 H locs ls w1 (show 0 ≤ a1.toInt from r2) (show a1.toInt ≤ 3 from t3) (show 0 ≤ v32_2.toInt from r4) (show v32_2.toInt ≤ 5 from t5) (show 0 ≤ v32_3.toInt from r6) (show v32_3.toInt ≤ 11 by omega) (show 0 ≤ x39.toInt by omega) (show x39.toInt ≤ 213 by omega) (show 0 ≤ f32_0_30.toInt from r8) (show f32_0_30.toInt ≤ 1 from t9) (show 0 ≤ f32_12__9_a1_toInt_219_toNat.toInt from r11) (show f32_12__9_a1_toInt_219_toNat.toInt ≤ 5 from t12) (show 1 ≤ x34.toInt by omega) (show x34.toInt ≤ 12 from tx34)  hw hT hF hRW c10 c13 c41 c35 (lv_sub hl [1, 2, 3, 4, 0] rfl)
        · refine lv_if_eq (tgt := 115) hx hb dX12_doing_64 (by decide) (fun c => absurd c (by decide)) (fun _ => ?_)
          refine lv_aload_n hx hb dX12_doing_67 rfl (lv_at hl 1 rfl) ?_
          refine tk_getA hC hK hw hT hinX12 kM_at0 (by decide) rfl 5 (by decide) (List.mem_cons_of_mem _ uw_6_17) rfl rfl dX12_doing_68 ?_
          refine lv_iload hx hb dX12_doing_71 (lv_at hl 0 rfl) ?_
          refine lv_iconst (v := 1) hx hb dX12_doing_73 (by decide) ?_
          refine lv_iadd hx hb dX12_doing_74 ?_
          refine lv_topi (fun x66 ex66 => ?_)
          have ex66 : x66.toInt = x39.toInt + (1 : Int) := by rw [ex66]; exact wk_add (show (-2147483648) ≤ x39.toInt + (1 : Int) by omega) (show x39.toInt + (1 : Int) ≤ 2147483647 by omega)
          refine tk_iald hC hK hw hT kM_at4 rfl rfl (show 0 ≤ x66.toInt by omega) (show x66.toInt < 216 by omega) dX12_doing_75 (fun x67 c68 rx67 tx67 => ?_)
          have c68 : gi w1 4 (36 * v32_2.toInt + 3 * v32_3.toInt + 1).toNat = x67 := (congrArg (gi w1 4) (congrArg Int.toNat (show 36 * v32_2.toInt + 3 * v32_3.toInt + 1 = x66.toInt by omega))).trans c68
          refine lv_if_lt (tgt := 107) hx hb dX12_doing_76 (by decide) (fun c69 => ?_) (fun c69 => ?_)
          · have c69 : x67.toInt < (0 : Int) := wk_lt.mp c69
            refine lv_aload_n hx hb dX12_doing_107 rfl (lv_at hl 1 rfl) ?_
            refine tk_getA hC hK hw hT hinX12 kM_at0 (by decide) rfl 5 (by decide) (List.mem_cons_of_mem _ uw_6_17) rfl rfl dX12_doing_108 ?_
            refine lv_iload hx hb dX12_doing_111 (lv_at hl 0 rfl) ?_
            refine tk_iald hC hK hw hT kM_at4 rfl rfl (show 0 ≤ x39.toInt by omega) (show x39.toInt < 216 by omega) dX12_doing_113 (fun x70 c71 rx70 tx70 => ?_)
            have c71 : gi w1 4 (36 * v32_2.toInt + 3 * v32_3.toInt + 0).toNat = x70 := (congrArg (gi w1 4) (congrArg Int.toNat (show 36 * v32_2.toInt + 3 * v32_3.toInt + 0 = x39.toInt by omega))).trans c71
            refine wk_top x40 (c71.symm.trans c41) ?_
            exact tk_iret hC hr hlocks hK ⟨hT, hF, (Or.inl (show x40.toInt ≤ (-1) by omega))⟩ hw dX12_doing_114
          · have c69 : (0 : Int) ≤ x67.toInt := wk_ltF c69
            refine lv_aload_n hx hb dX12_doing_79 rfl (lv_at hl 1 rfl) ?_
            refine lv_iload_n hx hb dX12_doing_80 rfl (lv_at hl 3 rfl) ?_
            refine lv_aload_n hx hb dX12_doing_81 rfl (lv_at hl 1 rfl) ?_
            refine tk_getA hC hK hw hT hinX12 kM_at0 (by decide) rfl 5 (by decide) (List.mem_cons_of_mem _ uw_6_17) rfl rfl dX12_doing_82 ?_
            refine lv_iload hx hb dX12_doing_85 (lv_at hl 0 rfl) ?_
            refine lv_iconst (v := 1) hx hb dX12_doing_87 (by decide) ?_
            refine lv_iadd hx hb dX12_doing_88 ?_
            refine lv_topi (fun x72 ex72 => ?_)
            have ex72 : x72.toInt = x39.toInt + (1 : Int) := by rw [ex72]; exact wk_add (show (-2147483648) ≤ x39.toInt + (1 : Int) by omega) (show x39.toInt + (1 : Int) ≤ 2147483647 by omega)
            refine tk_iald hC hK hw hT kM_at4 rfl rfl (show 0 ≤ x72.toInt by omega) (show x72.toInt < 216 by omega) dX12_doing_89 (fun x73 c74 rx73 tx73 => ?_)
            have c74 : gi w1 4 (36 * v32_2.toInt + 3 * v32_3.toInt + 1).toNat = x73 := (congrArg (gi w1 4) (congrArg Int.toNat (show 36 * v32_2.toInt + 3 * v32_3.toInt + 1 = x72.toInt by omega))).trans c74
            refine wk_top x67 (c74.symm.trans c68) ?_
            refine lv_aload_n hx hb dX12_doing_90 rfl (lv_at hl 1 rfl) ?_
            refine tk_getA hC hK hw hT hinX12 kM_at0 (by decide) rfl 5 (by decide) (List.mem_cons_of_mem _ uw_6_17) rfl rfl dX12_doing_91 ?_
            refine lv_iload hx hb dX12_doing_94 (lv_at hl 0 rfl) ?_
            refine lv_iconst (v := 2) hx hb dX12_doing_96 (by decide) ?_
            refine lv_iadd hx hb dX12_doing_97 ?_
            refine lv_topi (fun x75 ex75 => ?_)
            have ex75 : x75.toInt = x39.toInt + (2 : Int) := by rw [ex75]; exact wk_add (show (-2147483648) ≤ x39.toInt + (2 : Int) by omega) (show x39.toInt + (2 : Int) ≤ 2147483647 by omega)
            refine tk_iald hC hK hw hT kM_at4 rfl rfl (show 0 ≤ x75.toInt by omega) (show x75.toInt < 216 by omega) dX12_doing_98 (fun x76 c77 rx76 tx76 => ?_)
            have c77 : gi w1 4 (36 * v32_2.toInt + 3 * v32_3.toInt + 2).toNat = x76 := (congrArg (gi w1 4) (congrArg Int.toNat (show 36 * v32_2.toInt + 3 * v32_3.toInt + 2 = x75.toInt by omega))).trans c77
            have hz := (hRW v32_2.toInt v32_3.toInt (by omega) (by omega) (by omega) (by rw [c35]; omega)).resolve_left (by rw [c68]; omega)
            rw [c68, c77] at hz
            obtain ⟨hz1, hz2, hz3⟩ := hz
            obtain ⟨x78, c79, rx78, tx78⟩ := hT.rdi (lo := 0) (hi := 64) (k := 24) kM_at0 (by decide) rfl
            refine tk_Vl hC hK hw hT hA hE hSR kM_at0 (by decide) rfl (k_X12_reckons_1 l adK adV dC dI cy ad B (by omega) (by omega) qr s1   v32_2 (show 0 ≤ v32_2.toInt from r4) (show v32_2.toInt ≤ 5 from t5) x67 (show 0 ≤ x67.toInt from c69) (show x67.toInt ≤ 400 by omega) x76 (show 0 ≤ x76.toInt by omega) (show x76.toInt ≤ 400 by omega) w1 H.size hT x78 c79 (show 0 ≤ x78.toInt by omega) (show x78.toInt ≤ 64 by omega) ⟨hz1, hz3⟩) (cwV 3 hC.2.2.2.2 uV_RX12_401 rfl rfl rfl (by decide +kernel) ⟨Nat.le_of_ble_eq_true rfl, Nat.le_of_ble_eq_true rfl⟩) rfl hl.1 rfl (Nat.le_of_ble_eq_true rfl) dX12_doing_99 (fun r80 w82 H locs hp81 hw => ?_)
            obtain ⟨hT, k83, hg86⟩ := hp81
            have hRW := RW_FE k83 (fun _ => rfl) (fun _ => rfl) (fun _ => rfl) hRW
            have hF := hF.tr k83 (by decide)
            have c87 := k83.gi kM_at0 (by decide) c10
            have c88 := k83.gi kM_at12 rfl c13
            have c89 := k83.gi kM_at5 rfl c35
            have c90 := k83.gi kM_at4 rfl c41
            have c91 := k83.gi kM_at4 rfl c68
            have c92 := k83.gi kM_at4 rfl c77
            obtain ⟨x84, c85, rx84, tx84⟩ := hg86
            refine lv_lconst (v := 1) hx hb dX12_doing_102 (by decide) ?_
            refine W.lcmp hx hb dX12_doing_103 ?_
            refine lv_if_ne (tgt := 115) hx hb dX12_doing_104 (by decide) (fun c93 => ?_) (fun c93 => ?_)
            · have c93 : ¬ r80.toInt = (1 : Int) := wk_ceF c93
              exact J115 x39 x40 x34 H locs ls w82 (show 0 ≤ a1.toInt from r2) (show a1.toInt ≤ 3 from t3) (show 0 ≤ v32_2.toInt from r4) (show v32_2.toInt ≤ 5 from t5) (show 0 ≤ v32_3.toInt from r6) (show v32_3.toInt ≤ 11 by omega) (show 0 ≤ x39.toInt by omega) (show x39.toInt ≤ 213 by omega) (show 0 ≤ f32_0_30.toInt from r8) (show f32_0_30.toInt ≤ 1 from t9) (show 0 ≤ f32_12__9_a1_toInt_219_toNat.toInt from r11) (show f32_12__9_a1_toInt_219_toNat.toInt ≤ 5 from t12) (show 1 ≤ x34.toInt by omega) (show x34.toInt ≤ 12 from tx34)  hw hT hF hRW c87 c88 c90 c89 (lv_sub hl [1, 2, 3, 4, 0] rfl)
            · have c93 : r80.toInt = (1 : Int) := wk_ceT c93
              refine lv_aload_n hx hb dX12_doing_107 rfl (lv_at hl 1 rfl) ?_
              refine tk_getA hC hK hw hT hinX12 kM_at0 (by decide) rfl 5 (by decide) (List.mem_cons_of_mem _ uw_6_17) rfl rfl dX12_doing_108 ?_
              refine lv_iload hx hb dX12_doing_111 (lv_at hl 0 rfl) ?_
              refine tk_iald hC hK hw hT kM_at4 rfl rfl (show 0 ≤ x39.toInt by omega) (show x39.toInt < 216 by omega) dX12_doing_113 (fun x94 c95 rx94 tx94 => ?_)
              have c95 : gi w82 4 (36 * v32_2.toInt + 3 * v32_3.toInt + 0).toNat = x94 := (congrArg (gi w82 4) (congrArg Int.toNat (show 36 * v32_2.toInt + 3 * v32_3.toInt + 0 = x39.toInt by omega))).trans c95
              refine wk_top x40 (c95.symm.trans c90) ?_
              exact tk_iret hC hr hlocks hK ⟨hT, hF, (Or.inl (show x40.toInt ≤ (-1) by omega))⟩ hw dX12_doing_114
        · refine lv_if_eq (tgt := 115) hx hb dX12_doing_64 (by decide) (fun c => absurd c (by decide)) (fun _ => ?_)
          refine lv_aload_n hx hb dX12_doing_67 rfl (lv_at hl 1 rfl) ?_
          refine tk_getA hC hK hw hT hinX12 kM_at0 (by decide) rfl 5 (by decide) (List.mem_cons_of_mem _ uw_6_17) rfl rfl dX12_doing_68 ?_
          refine lv_iload hx hb dX12_doing_71 (lv_at hl 0 rfl) ?_
          refine lv_iconst (v := 1) hx hb dX12_doing_73 (by decide) ?_
          refine lv_iadd hx hb dX12_doing_74 ?_
          refine lv_topi (fun x96 ex96 => ?_)
          have ex96 : x96.toInt = x39.toInt + (1 : Int) := by rw [ex96]; exact wk_add (show (-2147483648) ≤ x39.toInt + (1 : Int) by omega) (show x39.toInt + (1 : Int) ≤ 2147483647 by omega)
          refine tk_iald hC hK hw hT kM_at4 rfl rfl (show 0 ≤ x96.toInt by omega) (show x96.toInt < 216 by omega) dX12_doing_75 (fun x97 c98 rx97 tx97 => ?_)
          have c98 : gi w1 4 (36 * v32_2.toInt + 3 * v32_3.toInt + 1).toNat = x97 := (congrArg (gi w1 4) (congrArg Int.toNat (show 36 * v32_2.toInt + 3 * v32_3.toInt + 1 = x96.toInt by omega))).trans c98
          refine lv_if_lt (tgt := 107) hx hb dX12_doing_76 (by decide) (fun c99 => ?_) (fun c99 => ?_)
          · have c99 : x97.toInt < (0 : Int) := wk_lt.mp c99
            refine lv_aload_n hx hb dX12_doing_107 rfl (lv_at hl 1 rfl) ?_
            refine tk_getA hC hK hw hT hinX12 kM_at0 (by decide) rfl 5 (by decide) (List.mem_cons_of_mem _ uw_6_17) rfl rfl dX12_doing_108 ?_
            refine lv_iload hx hb dX12_doing_111 (lv_at hl 0 rfl) ?_
            refine tk_iald hC hK hw hT kM_at4 rfl rfl (show 0 ≤ x39.toInt by omega) (show x39.toInt < 216 by omega) dX12_doing_113 (fun x100 c101 rx100 tx100 => ?_)
            have c101 : gi w1 4 (36 * v32_2.toInt + 3 * v32_3.toInt + 0).toNat = x100 := (congrArg (gi w1 4) (congrArg Int.toNat (show 36 * v32_2.toInt + 3 * v32_3.toInt + 0 = x39.toInt by omega))).trans c101
            refine wk_top x40 (c101.symm.trans c41) ?_
            exact tk_iret hC hr hlocks hK ⟨hT, hF, (Or.inr (Or.inr (Or.inl ⟨(wk_eq.mpr (show x40.toInt = 0 by omega)), ⟨x53, c54, (show 0 ≤ x53.toInt by omega), (show x53.toInt ≤ 11 by omega)⟩⟩)))⟩ hw dX12_doing_114
          · have c99 : (0 : Int) ≤ x97.toInt := wk_ltF c99
            refine lv_aload_n hx hb dX12_doing_79 rfl (lv_at hl 1 rfl) ?_
            refine lv_iload_n hx hb dX12_doing_80 rfl (lv_at hl 3 rfl) ?_
            refine lv_aload_n hx hb dX12_doing_81 rfl (lv_at hl 1 rfl) ?_
            refine tk_getA hC hK hw hT hinX12 kM_at0 (by decide) rfl 5 (by decide) (List.mem_cons_of_mem _ uw_6_17) rfl rfl dX12_doing_82 ?_
            refine lv_iload hx hb dX12_doing_85 (lv_at hl 0 rfl) ?_
            refine lv_iconst (v := 1) hx hb dX12_doing_87 (by decide) ?_
            refine lv_iadd hx hb dX12_doing_88 ?_
            refine lv_topi (fun x102 ex102 => ?_)
            have ex102 : x102.toInt = x39.toInt + (1 : Int) := by rw [ex102]; exact wk_add (show (-2147483648) ≤ x39.toInt + (1 : Int) by omega) (show x39.toInt + (1 : Int) ≤ 2147483647 by omega)
            refine tk_iald hC hK hw hT kM_at4 rfl rfl (show 0 ≤ x102.toInt by omega) (show x102.toInt < 216 by omega) dX12_doing_89 (fun x103 c104 rx103 tx103 => ?_)
            have c104 : gi w1 4 (36 * v32_2.toInt + 3 * v32_3.toInt + 1).toNat = x103 := (congrArg (gi w1 4) (congrArg Int.toNat (show 36 * v32_2.toInt + 3 * v32_3.toInt + 1 = x102.toInt by omega))).trans c104
            refine wk_top x97 (c104.symm.trans c98) ?_
            refine lv_aload_n hx hb dX12_doing_90 rfl (lv_at hl 1 rfl) ?_
            refine tk_getA hC hK hw hT hinX12 kM_at0 (by decide) rfl 5 (by decide) (List.mem_cons_of_mem _ uw_6_17) rfl rfl dX12_doing_91 ?_
            refine lv_iload hx hb dX12_doing_94 (lv_at hl 0 rfl) ?_
            refine lv_iconst (v := 2) hx hb dX12_doing_96 (by decide) ?_
            refine lv_iadd hx hb dX12_doing_97 ?_
            refine lv_topi (fun x105 ex105 => ?_)
            have ex105 : x105.toInt = x39.toInt + (2 : Int) := by rw [ex105]; exact wk_add (show (-2147483648) ≤ x39.toInt + (2 : Int) by omega) (show x39.toInt + (2 : Int) ≤ 2147483647 by omega)
            refine tk_iald hC hK hw hT kM_at4 rfl rfl (show 0 ≤ x105.toInt by omega) (show x105.toInt < 216 by omega) dX12_doing_98 (fun x106 c107 rx106 tx106 => ?_)
            have c107 : gi w1 4 (36 * v32_2.toInt + 3 * v32_3.toInt + 2).toNat = x106 := (congrArg (gi w1 4) (congrArg Int.toNat (show 36 * v32_2.toInt + 3 * v32_3.toInt + 2 = x105.toInt by omega))).trans c107
            have hz := (hRW v32_2.toInt v32_3.toInt (by omega) (by omega) (by omega) (by rw [c35]; omega)).resolve_left (by rw [c98]; omega)
            rw [c98, c107] at hz
            obtain ⟨hz1, hz2, hz3⟩ := hz
            obtain ⟨x108, c109, rx108, tx108⟩ := hT.rdi (lo := 0) (hi := 64) (k := 24) kM_at0 (by decide) rfl
            refine tk_Vl hC hK hw hT hA hE hSR kM_at0 (by decide) rfl (k_X12_reckons_1 l adK adV dC dI cy ad B (by omega) (by omega) qr s1   v32_2 (show 0 ≤ v32_2.toInt from r4) (show v32_2.toInt ≤ 5 from t5) x97 (show 0 ≤ x97.toInt from c99) (show x97.toInt ≤ 400 by omega) x106 (show 0 ≤ x106.toInt by omega) (show x106.toInt ≤ 400 by omega) w1 H.size hT x108 c109 (show 0 ≤ x108.toInt by omega) (show x108.toInt ≤ 64 by omega) ⟨hz1, hz3⟩) (cwV 3 hC.2.2.2.2 uV_RX12_401 rfl rfl rfl (by decide +kernel) ⟨Nat.le_of_ble_eq_true rfl, Nat.le_of_ble_eq_true rfl⟩) rfl hl.1 rfl (Nat.le_of_ble_eq_true rfl) dX12_doing_99 (fun r110 w112 H locs hp111 hw => ?_)
            obtain ⟨hT, k113, hg116⟩ := hp111
            have hRW := RW_FE k113 (fun _ => rfl) (fun _ => rfl) (fun _ => rfl) hRW
            have hF := hF.tr k113 (by decide)
            have c117 := k113.gi kM_at0 (by decide) c10
            have c118 := k113.gi kM_at12 rfl c13
            have c119 := k113.gi kM_at5 rfl c35
            have c120 := k113.gi kM_at4 rfl c41
            have c121 := k113.gi kM_at0 (by decide) c54
            have c122 := k113.gi kM_at4 rfl c98
            have c123 := k113.gi kM_at4 rfl c107
            obtain ⟨x114, c115, rx114, tx114⟩ := hg116
            refine lv_lconst (v := 1) hx hb dX12_doing_102 (by decide) ?_
            refine W.lcmp hx hb dX12_doing_103 ?_
            refine lv_if_ne (tgt := 115) hx hb dX12_doing_104 (by decide) (fun c124 => ?_) (fun c124 => ?_)
            · have c124 : ¬ r110.toInt = (1 : Int) := wk_ceF c124
              exact J115 x39 x40 x34 H locs ls w112 (show 0 ≤ a1.toInt from r2) (show a1.toInt ≤ 3 from t3) (show 0 ≤ v32_2.toInt from r4) (show v32_2.toInt ≤ 5 from t5) (show 0 ≤ v32_3.toInt from r6) (show v32_3.toInt ≤ 11 by omega) (show 0 ≤ x39.toInt by omega) (show x39.toInt ≤ 213 by omega) (show 0 ≤ f32_0_30.toInt from r8) (show f32_0_30.toInt ≤ 1 from t9) (show 0 ≤ f32_12__9_a1_toInt_219_toNat.toInt from r11) (show f32_12__9_a1_toInt_219_toNat.toInt ≤ 5 from t12) (show 1 ≤ x34.toInt by omega) (show x34.toInt ≤ 12 from tx34)  hw hT hF hRW c117 c118 c120 c119 (lv_sub hl [1, 2, 3, 4, 0] rfl)
            · have c124 : r110.toInt = (1 : Int) := wk_ceT c124
              refine lv_aload_n hx hb dX12_doing_107 rfl (lv_at hl 1 rfl) ?_
              refine tk_getA hC hK hw hT hinX12 kM_at0 (by decide) rfl 5 (by decide) (List.mem_cons_of_mem _ uw_6_17) rfl rfl dX12_doing_108 ?_
              refine lv_iload hx hb dX12_doing_111 (lv_at hl 0 rfl) ?_
              refine tk_iald hC hK hw hT kM_at4 rfl rfl (show 0 ≤ x39.toInt by omega) (show x39.toInt < 216 by omega) dX12_doing_113 (fun x125 c126 rx125 tx125 => ?_)
              have c126 : gi w112 4 (36 * v32_2.toInt + 3 * v32_3.toInt + 0).toNat = x125 := (congrArg (gi w112 4) (congrArg Int.toNat (show 36 * v32_2.toInt + 3 * v32_3.toInt + 0 = x39.toInt by omega))).trans c126
              refine wk_top x40 (c126.symm.trans c120) ?_
              exact tk_iret hC hr hlocks hK ⟨hT, hF, (Or.inr (Or.inr (Or.inl ⟨(wk_eq.mpr (show x40.toInt = 0 by omega)), ⟨x53, c121, (show 0 ≤ x53.toInt by omega), (show x53.toInt ≤ 11 by omega)⟩⟩)))⟩ hw dX12_doing_114
        · refine lv_if_eq (tgt := 115) hx hb dX12_doing_64 (by decide) (fun c => absurd c (by decide)) (fun _ => ?_)
          refine lv_aload_n hx hb dX12_doing_67 rfl (lv_at hl 1 rfl) ?_
          refine tk_getA hC hK hw hT hinX12 kM_at0 (by decide) rfl 5 (by decide) (List.mem_cons_of_mem _ uw_6_17) rfl rfl dX12_doing_68 ?_
          refine lv_iload hx hb dX12_doing_71 (lv_at hl 0 rfl) ?_
          refine lv_iconst (v := 1) hx hb dX12_doing_73 (by decide) ?_
          refine lv_iadd hx hb dX12_doing_74 ?_
          refine lv_topi (fun x127 ex127 => ?_)
          have ex127 : x127.toInt = x39.toInt + (1 : Int) := by rw [ex127]; exact wk_add (show (-2147483648) ≤ x39.toInt + (1 : Int) by omega) (show x39.toInt + (1 : Int) ≤ 2147483647 by omega)
          refine tk_iald hC hK hw hT kM_at4 rfl rfl (show 0 ≤ x127.toInt by omega) (show x127.toInt < 216 by omega) dX12_doing_75 (fun x128 c129 rx128 tx128 => ?_)
          have c129 : gi w1 4 (36 * v32_2.toInt + 3 * v32_3.toInt + 1).toNat = x128 := (congrArg (gi w1 4) (congrArg Int.toNat (show 36 * v32_2.toInt + 3 * v32_3.toInt + 1 = x127.toInt by omega))).trans c129
          refine lv_if_lt (tgt := 107) hx hb dX12_doing_76 (by decide) (fun c130 => ?_) (fun c130 => ?_)
          · have c130 : x128.toInt < (0 : Int) := wk_lt.mp c130
            refine lv_aload_n hx hb dX12_doing_107 rfl (lv_at hl 1 rfl) ?_
            refine tk_getA hC hK hw hT hinX12 kM_at0 (by decide) rfl 5 (by decide) (List.mem_cons_of_mem _ uw_6_17) rfl rfl dX12_doing_108 ?_
            refine lv_iload hx hb dX12_doing_111 (lv_at hl 0 rfl) ?_
            refine tk_iald hC hK hw hT kM_at4 rfl rfl (show 0 ≤ x39.toInt by omega) (show x39.toInt < 216 by omega) dX12_doing_113 (fun x131 c132 rx131 tx131 => ?_)
            have c132 : gi w1 4 (36 * v32_2.toInt + 3 * v32_3.toInt + 0).toNat = x131 := (congrArg (gi w1 4) (congrArg Int.toNat (show 36 * v32_2.toInt + 3 * v32_3.toInt + 0 = x39.toInt by omega))).trans c132
            refine wk_top x40 (c132.symm.trans c41) ?_
            exact tk_iret hC hr hlocks hK ⟨hT, hF, (Or.inr (Or.inr (Or.inr (Or.inl ⟨(wk_eq.mpr (show x40.toInt = 1 by omega)), ⟨x57, c58, (show 1 ≤ x57.toInt by omega), (show x57.toInt ≤ 12 by omega)⟩, (by exact hq59)⟩))))⟩ hw dX12_doing_114
          · have c130 : (0 : Int) ≤ x128.toInt := wk_ltF c130
            refine lv_aload_n hx hb dX12_doing_79 rfl (lv_at hl 1 rfl) ?_
            refine lv_iload_n hx hb dX12_doing_80 rfl (lv_at hl 3 rfl) ?_
            refine lv_aload_n hx hb dX12_doing_81 rfl (lv_at hl 1 rfl) ?_
            refine tk_getA hC hK hw hT hinX12 kM_at0 (by decide) rfl 5 (by decide) (List.mem_cons_of_mem _ uw_6_17) rfl rfl dX12_doing_82 ?_
            refine lv_iload hx hb dX12_doing_85 (lv_at hl 0 rfl) ?_
            refine lv_iconst (v := 1) hx hb dX12_doing_87 (by decide) ?_
            refine lv_iadd hx hb dX12_doing_88 ?_
            refine lv_topi (fun x133 ex133 => ?_)
            have ex133 : x133.toInt = x39.toInt + (1 : Int) := by rw [ex133]; exact wk_add (show (-2147483648) ≤ x39.toInt + (1 : Int) by omega) (show x39.toInt + (1 : Int) ≤ 2147483647 by omega)
            refine tk_iald hC hK hw hT kM_at4 rfl rfl (show 0 ≤ x133.toInt by omega) (show x133.toInt < 216 by omega) dX12_doing_89 (fun x134 c135 rx134 tx134 => ?_)
            have c135 : gi w1 4 (36 * v32_2.toInt + 3 * v32_3.toInt + 1).toNat = x134 := (congrArg (gi w1 4) (congrArg Int.toNat (show 36 * v32_2.toInt + 3 * v32_3.toInt + 1 = x133.toInt by omega))).trans c135
            refine wk_top x128 (c135.symm.trans c129) ?_
            refine lv_aload_n hx hb dX12_doing_90 rfl (lv_at hl 1 rfl) ?_
            refine tk_getA hC hK hw hT hinX12 kM_at0 (by decide) rfl 5 (by decide) (List.mem_cons_of_mem _ uw_6_17) rfl rfl dX12_doing_91 ?_
            refine lv_iload hx hb dX12_doing_94 (lv_at hl 0 rfl) ?_
            refine lv_iconst (v := 2) hx hb dX12_doing_96 (by decide) ?_
            refine lv_iadd hx hb dX12_doing_97 ?_
            refine lv_topi (fun x136 ex136 => ?_)
            have ex136 : x136.toInt = x39.toInt + (2 : Int) := by rw [ex136]; exact wk_add (show (-2147483648) ≤ x39.toInt + (2 : Int) by omega) (show x39.toInt + (2 : Int) ≤ 2147483647 by omega)
            refine tk_iald hC hK hw hT kM_at4 rfl rfl (show 0 ≤ x136.toInt by omega) (show x136.toInt < 216 by omega) dX12_doing_98 (fun x137 c138 rx137 tx137 => ?_)
            have c138 : gi w1 4 (36 * v32_2.toInt + 3 * v32_3.toInt + 2).toNat = x137 := (congrArg (gi w1 4) (congrArg Int.toNat (show 36 * v32_2.toInt + 3 * v32_3.toInt + 2 = x136.toInt by omega))).trans c138
            have hz := (hRW v32_2.toInt v32_3.toInt (by omega) (by omega) (by omega) (by rw [c35]; omega)).resolve_left (by rw [c129]; omega)
            rw [c129, c138] at hz
            obtain ⟨hz1, hz2, hz3⟩ := hz
            obtain ⟨x139, c140, rx139, tx139⟩ := hT.rdi (lo := 0) (hi := 64) (k := 24) kM_at0 (by decide) rfl
            refine tk_Vl hC hK hw hT hA hE hSR kM_at0 (by decide) rfl (k_X12_reckons_1 l adK adV dC dI cy ad B (by omega) (by omega) qr s1   v32_2 (show 0 ≤ v32_2.toInt from r4) (show v32_2.toInt ≤ 5 from t5) x128 (show 0 ≤ x128.toInt from c130) (show x128.toInt ≤ 400 by omega) x137 (show 0 ≤ x137.toInt by omega) (show x137.toInt ≤ 400 by omega) w1 H.size hT x139 c140 (show 0 ≤ x139.toInt by omega) (show x139.toInt ≤ 64 by omega) ⟨hz1, hz3⟩) (cwV 3 hC.2.2.2.2 uV_RX12_401 rfl rfl rfl (by decide +kernel) ⟨Nat.le_of_ble_eq_true rfl, Nat.le_of_ble_eq_true rfl⟩) rfl hl.1 rfl (Nat.le_of_ble_eq_true rfl) dX12_doing_99 (fun r141 w143 H locs hp142 hw => ?_)
            obtain ⟨hT, k144, hg147⟩ := hp142
            have hRW := RW_FE k144 (fun _ => rfl) (fun _ => rfl) (fun _ => rfl) hRW
            have hq148 := mAS_FE k144 (fun _ => rfl) (by decide) hq59
            have hF := hF.tr k144 (by decide)
            have c149 := k144.gi kM_at0 (by decide) c10
            have c150 := k144.gi kM_at12 rfl c13
            have c151 := k144.gi kM_at5 rfl c35
            have c152 := k144.gi kM_at4 rfl c41
            have c153 := k144.gi kM_at12 (by decide) c58
            have c154 := k144.gi kM_at4 rfl c129
            have c155 := k144.gi kM_at4 rfl c138
            obtain ⟨x145, c146, rx145, tx145⟩ := hg147
            refine lv_lconst (v := 1) hx hb dX12_doing_102 (by decide) ?_
            refine W.lcmp hx hb dX12_doing_103 ?_
            refine lv_if_ne (tgt := 115) hx hb dX12_doing_104 (by decide) (fun c156 => ?_) (fun c156 => ?_)
            · have c156 : ¬ r141.toInt = (1 : Int) := wk_ceF c156
              exact J115 x39 x40 x34 H locs ls w143 (show 0 ≤ a1.toInt from r2) (show a1.toInt ≤ 3 from t3) (show 0 ≤ v32_2.toInt from r4) (show v32_2.toInt ≤ 5 from t5) (show 0 ≤ v32_3.toInt from r6) (show v32_3.toInt ≤ 11 by omega) (show 0 ≤ x39.toInt by omega) (show x39.toInt ≤ 213 by omega) (show 0 ≤ f32_0_30.toInt from r8) (show f32_0_30.toInt ≤ 1 from t9) (show 0 ≤ f32_12__9_a1_toInt_219_toNat.toInt from r11) (show f32_12__9_a1_toInt_219_toNat.toInt ≤ 5 from t12) (show 1 ≤ x34.toInt by omega) (show x34.toInt ≤ 12 from tx34)  hw hT hF hRW c149 c150 c152 c151 (lv_sub hl [1, 2, 3, 4, 0] rfl)
            · have c156 : r141.toInt = (1 : Int) := wk_ceT c156
              refine lv_aload_n hx hb dX12_doing_107 rfl (lv_at hl 1 rfl) ?_
              refine tk_getA hC hK hw hT hinX12 kM_at0 (by decide) rfl 5 (by decide) (List.mem_cons_of_mem _ uw_6_17) rfl rfl dX12_doing_108 ?_
              refine lv_iload hx hb dX12_doing_111 (lv_at hl 0 rfl) ?_
              refine tk_iald hC hK hw hT kM_at4 rfl rfl (show 0 ≤ x39.toInt by omega) (show x39.toInt < 216 by omega) dX12_doing_113 (fun x157 c158 rx157 tx157 => ?_)
              have c158 : gi w143 4 (36 * v32_2.toInt + 3 * v32_3.toInt + 0).toNat = x157 := (congrArg (gi w143 4) (congrArg Int.toNat (show 36 * v32_2.toInt + 3 * v32_3.toInt + 0 = x39.toInt by omega))).trans c158
              refine wk_top x40 (c158.symm.trans c152) ?_
              exact tk_iret hC hr hlocks hK ⟨hT, hF, (Or.inr (Or.inr (Or.inr (Or.inl ⟨(wk_eq.mpr (show x40.toInt = 1 by omega)), ⟨x57, c153, (show 1 ≤ x57.toInt by omega), (show x57.toInt ≤ 12 by omega)⟩, (by exact hq148)⟩))))⟩ hw dX12_doing_114
        · have ex62 : x62.toInt = f32_0_30.toInt := by rw [← c10.symm.trans c63]
          refine lv_if_eq (tgt := 115) hx hb dX12_doing_64 (by decide) (fun c => absurd c (by decide)) (fun _ => ?_)
          refine lv_aload_n hx hb dX12_doing_67 rfl (lv_at hl 1 rfl) ?_
          refine tk_getA hC hK hw hT hinX12 kM_at0 (by decide) rfl 5 (by decide) (List.mem_cons_of_mem _ uw_6_17) rfl rfl dX12_doing_68 ?_
          refine lv_iload hx hb dX12_doing_71 (lv_at hl 0 rfl) ?_
          refine lv_iconst (v := 1) hx hb dX12_doing_73 (by decide) ?_
          refine lv_iadd hx hb dX12_doing_74 ?_
          refine lv_topi (fun x159 ex159 => ?_)
          have ex159 : x159.toInt = x39.toInt + (1 : Int) := by rw [ex159]; exact wk_add (show (-2147483648) ≤ x39.toInt + (1 : Int) by omega) (show x39.toInt + (1 : Int) ≤ 2147483647 by omega)
          refine tk_iald hC hK hw hT kM_at4 rfl rfl (show 0 ≤ x159.toInt by omega) (show x159.toInt < 216 by omega) dX12_doing_75 (fun x160 c161 rx160 tx160 => ?_)
          have c161 : gi w1 4 (36 * v32_2.toInt + 3 * v32_3.toInt + 1).toNat = x160 := (congrArg (gi w1 4) (congrArg Int.toNat (show 36 * v32_2.toInt + 3 * v32_3.toInt + 1 = x159.toInt by omega))).trans c161
          refine lv_if_lt (tgt := 107) hx hb dX12_doing_76 (by decide) (fun c162 => ?_) (fun c162 => ?_)
          · have c162 : x160.toInt < (0 : Int) := wk_lt.mp c162
            refine lv_aload_n hx hb dX12_doing_107 rfl (lv_at hl 1 rfl) ?_
            refine tk_getA hC hK hw hT hinX12 kM_at0 (by decide) rfl 5 (by decide) (List.mem_cons_of_mem _ uw_6_17) rfl rfl dX12_doing_108 ?_
            refine lv_iload hx hb dX12_doing_111 (lv_at hl 0 rfl) ?_
            refine tk_iald hC hK hw hT kM_at4 rfl rfl (show 0 ≤ x39.toInt by omega) (show x39.toInt < 216 by omega) dX12_doing_113 (fun x163 c164 rx163 tx163 => ?_)
            have c164 : gi w1 4 (36 * v32_2.toInt + 3 * v32_3.toInt + 0).toNat = x163 := (congrArg (gi w1 4) (congrArg Int.toNat (show 36 * v32_2.toInt + 3 * v32_3.toInt + 0 = x39.toInt by omega))).trans c164
            refine wk_top x40 (c164.symm.trans c41) ?_
            exact tk_iret hC hr hlocks hK ⟨hT, hF, (Or.inr (Or.inr (Or.inr (Or.inr (Or.inl ⟨(wk_eq.mpr (show x40.toInt = 2 by omega)), ⟨f32_0_30, c10, (show 0 ≤ f32_0_30.toInt from r8), (show f32_0_30.toInt ≤ 0 by omega)⟩⟩)))))⟩ hw dX12_doing_114
          · have c162 : (0 : Int) ≤ x160.toInt := wk_ltF c162
            refine lv_aload_n hx hb dX12_doing_79 rfl (lv_at hl 1 rfl) ?_
            refine lv_iload_n hx hb dX12_doing_80 rfl (lv_at hl 3 rfl) ?_
            refine lv_aload_n hx hb dX12_doing_81 rfl (lv_at hl 1 rfl) ?_
            refine tk_getA hC hK hw hT hinX12 kM_at0 (by decide) rfl 5 (by decide) (List.mem_cons_of_mem _ uw_6_17) rfl rfl dX12_doing_82 ?_
            refine lv_iload hx hb dX12_doing_85 (lv_at hl 0 rfl) ?_
            refine lv_iconst (v := 1) hx hb dX12_doing_87 (by decide) ?_
            refine lv_iadd hx hb dX12_doing_88 ?_
            refine lv_topi (fun x165 ex165 => ?_)
            have ex165 : x165.toInt = x39.toInt + (1 : Int) := by rw [ex165]; exact wk_add (show (-2147483648) ≤ x39.toInt + (1 : Int) by omega) (show x39.toInt + (1 : Int) ≤ 2147483647 by omega)
            refine tk_iald hC hK hw hT kM_at4 rfl rfl (show 0 ≤ x165.toInt by omega) (show x165.toInt < 216 by omega) dX12_doing_89 (fun x166 c167 rx166 tx166 => ?_)
            have c167 : gi w1 4 (36 * v32_2.toInt + 3 * v32_3.toInt + 1).toNat = x166 := (congrArg (gi w1 4) (congrArg Int.toNat (show 36 * v32_2.toInt + 3 * v32_3.toInt + 1 = x165.toInt by omega))).trans c167
            refine wk_top x160 (c167.symm.trans c161) ?_
            refine lv_aload_n hx hb dX12_doing_90 rfl (lv_at hl 1 rfl) ?_
            refine tk_getA hC hK hw hT hinX12 kM_at0 (by decide) rfl 5 (by decide) (List.mem_cons_of_mem _ uw_6_17) rfl rfl dX12_doing_91 ?_
            refine lv_iload hx hb dX12_doing_94 (lv_at hl 0 rfl) ?_
            refine lv_iconst (v := 2) hx hb dX12_doing_96 (by decide) ?_
            refine lv_iadd hx hb dX12_doing_97 ?_
            refine lv_topi (fun x168 ex168 => ?_)
            have ex168 : x168.toInt = x39.toInt + (2 : Int) := by rw [ex168]; exact wk_add (show (-2147483648) ≤ x39.toInt + (2 : Int) by omega) (show x39.toInt + (2 : Int) ≤ 2147483647 by omega)
            refine tk_iald hC hK hw hT kM_at4 rfl rfl (show 0 ≤ x168.toInt by omega) (show x168.toInt < 216 by omega) dX12_doing_98 (fun x169 c170 rx169 tx169 => ?_)
            have c170 : gi w1 4 (36 * v32_2.toInt + 3 * v32_3.toInt + 2).toNat = x169 := (congrArg (gi w1 4) (congrArg Int.toNat (show 36 * v32_2.toInt + 3 * v32_3.toInt + 2 = x168.toInt by omega))).trans c170
            have hz := (hRW v32_2.toInt v32_3.toInt (by omega) (by omega) (by omega) (by rw [c35]; omega)).resolve_left (by rw [c161]; omega)
            rw [c161, c170] at hz
            obtain ⟨hz1, hz2, hz3⟩ := hz
            obtain ⟨x171, c172, rx171, tx171⟩ := hT.rdi (lo := 0) (hi := 64) (k := 24) kM_at0 (by decide) rfl
            refine tk_Vl hC hK hw hT hA hE hSR kM_at0 (by decide) rfl (k_X12_reckons_1 l adK adV dC dI cy ad B (by omega) (by omega) qr s1   v32_2 (show 0 ≤ v32_2.toInt from r4) (show v32_2.toInt ≤ 5 from t5) x160 (show 0 ≤ x160.toInt from c162) (show x160.toInt ≤ 400 by omega) x169 (show 0 ≤ x169.toInt by omega) (show x169.toInt ≤ 400 by omega) w1 H.size hT x171 c172 (show 0 ≤ x171.toInt by omega) (show x171.toInt ≤ 64 by omega) ⟨hz1, hz3⟩) (cwV 3 hC.2.2.2.2 uV_RX12_401 rfl rfl rfl (by decide +kernel) ⟨Nat.le_of_ble_eq_true rfl, Nat.le_of_ble_eq_true rfl⟩) rfl hl.1 rfl (Nat.le_of_ble_eq_true rfl) dX12_doing_99 (fun r173 w175 H locs hp174 hw => ?_)
            obtain ⟨hT, k176, hg179⟩ := hp174
            have hRW := RW_FE k176 (fun _ => rfl) (fun _ => rfl) (fun _ => rfl) hRW
            have hF := hF.tr k176 (by decide)
            have c180 := k176.gi kM_at0 (by decide) c10
            have c181 := k176.gi kM_at12 rfl c13
            have c182 := k176.gi kM_at5 rfl c35
            have c183 := k176.gi kM_at4 rfl c41
            have c184 := k176.gi kM_at4 rfl c161
            have c185 := k176.gi kM_at4 rfl c170
            obtain ⟨x177, c178, rx177, tx177⟩ := hg179
            refine lv_lconst (v := 1) hx hb dX12_doing_102 (by decide) ?_
            refine W.lcmp hx hb dX12_doing_103 ?_
            refine lv_if_ne (tgt := 115) hx hb dX12_doing_104 (by decide) (fun c186 => ?_) (fun c186 => ?_)
            · have c186 : ¬ r173.toInt = (1 : Int) := wk_ceF c186
              exact J115 x39 x40 x34 H locs ls w175 (show 0 ≤ a1.toInt from r2) (show a1.toInt ≤ 3 from t3) (show 0 ≤ v32_2.toInt from r4) (show v32_2.toInt ≤ 5 from t5) (show 0 ≤ v32_3.toInt from r6) (show v32_3.toInt ≤ 11 by omega) (show 0 ≤ x39.toInt by omega) (show x39.toInt ≤ 213 by omega) (show 0 ≤ f32_0_30.toInt from r8) (show f32_0_30.toInt ≤ 1 from t9) (show 0 ≤ f32_12__9_a1_toInt_219_toNat.toInt from r11) (show f32_12__9_a1_toInt_219_toNat.toInt ≤ 5 from t12) (show 1 ≤ x34.toInt by omega) (show x34.toInt ≤ 12 from tx34)  hw hT hF hRW c180 c181 c183 c182 (lv_sub hl [1, 2, 3, 4, 0] rfl)
            · have c186 : r173.toInt = (1 : Int) := wk_ceT c186
              refine lv_aload_n hx hb dX12_doing_107 rfl (lv_at hl 1 rfl) ?_
              refine tk_getA hC hK hw hT hinX12 kM_at0 (by decide) rfl 5 (by decide) (List.mem_cons_of_mem _ uw_6_17) rfl rfl dX12_doing_108 ?_
              refine lv_iload hx hb dX12_doing_111 (lv_at hl 0 rfl) ?_
              refine tk_iald hC hK hw hT kM_at4 rfl rfl (show 0 ≤ x39.toInt by omega) (show x39.toInt < 216 by omega) dX12_doing_113 (fun x187 c188 rx187 tx187 => ?_)
              have c188 : gi w175 4 (36 * v32_2.toInt + 3 * v32_3.toInt + 0).toNat = x187 := (congrArg (gi w175 4) (congrArg Int.toNat (show 36 * v32_2.toInt + 3 * v32_3.toInt + 0 = x39.toInt by omega))).trans c188
              refine wk_top x40 (c188.symm.trans c183) ?_
              exact tk_iret hC hr hlocks hK ⟨hT, hF, (Or.inr (Or.inr (Or.inr (Or.inr (Or.inl ⟨(wk_eq.mpr (show x40.toInt = 2 by omega)), ⟨f32_0_30, c180, (show 0 ≤ f32_0_30.toInt from r8), (show f32_0_30.toInt ≤ 0 by omega)⟩⟩)))))⟩ hw dX12_doing_114
        · refine lv_if_eq (tgt := 115) hx hb dX12_doing_64 (by decide) (fun c => absurd c (by decide)) (fun _ => ?_)
          refine lv_aload_n hx hb dX12_doing_67 rfl (lv_at hl 1 rfl) ?_
          refine tk_getA hC hK hw hT hinX12 kM_at0 (by decide) rfl 5 (by decide) (List.mem_cons_of_mem _ uw_6_17) rfl rfl dX12_doing_68 ?_
          refine lv_iload hx hb dX12_doing_71 (lv_at hl 0 rfl) ?_
          refine lv_iconst (v := 1) hx hb dX12_doing_73 (by decide) ?_
          refine lv_iadd hx hb dX12_doing_74 ?_
          refine lv_topi (fun x189 ex189 => ?_)
          have ex189 : x189.toInt = x39.toInt + (1 : Int) := by rw [ex189]; exact wk_add (show (-2147483648) ≤ x39.toInt + (1 : Int) by omega) (show x39.toInt + (1 : Int) ≤ 2147483647 by omega)
          refine tk_iald hC hK hw hT kM_at4 rfl rfl (show 0 ≤ x189.toInt by omega) (show x189.toInt < 216 by omega) dX12_doing_75 (fun x190 c191 rx190 tx190 => ?_)
          have c191 : gi w1 4 (36 * v32_2.toInt + 3 * v32_3.toInt + 1).toNat = x190 := (congrArg (gi w1 4) (congrArg Int.toNat (show 36 * v32_2.toInt + 3 * v32_3.toInt + 1 = x189.toInt by omega))).trans c191
          refine lv_if_lt (tgt := 107) hx hb dX12_doing_76 (by decide) (fun c192 => ?_) (fun c192 => ?_)
          · have c192 : x190.toInt < (0 : Int) := wk_lt.mp c192
            refine lv_aload_n hx hb dX12_doing_107 rfl (lv_at hl 1 rfl) ?_
            refine tk_getA hC hK hw hT hinX12 kM_at0 (by decide) rfl 5 (by decide) (List.mem_cons_of_mem _ uw_6_17) rfl rfl dX12_doing_108 ?_
            refine lv_iload hx hb dX12_doing_111 (lv_at hl 0 rfl) ?_
            refine tk_iald hC hK hw hT kM_at4 rfl rfl (show 0 ≤ x39.toInt by omega) (show x39.toInt < 216 by omega) dX12_doing_113 (fun x193 c194 rx193 tx193 => ?_)
            have c194 : gi w1 4 (36 * v32_2.toInt + 3 * v32_3.toInt + 0).toNat = x193 := (congrArg (gi w1 4) (congrArg Int.toNat (show 36 * v32_2.toInt + 3 * v32_3.toInt + 0 = x39.toInt by omega))).trans c194
            refine wk_top x40 (c194.symm.trans c41) ?_
            exact tk_iret hC hr hlocks hK ⟨hT, hF, (Or.inr (Or.inl (show 3 ≤ x40.toInt by omega)))⟩ hw dX12_doing_114
          · have c192 : (0 : Int) ≤ x190.toInt := wk_ltF c192
            refine lv_aload_n hx hb dX12_doing_79 rfl (lv_at hl 1 rfl) ?_
            refine lv_iload_n hx hb dX12_doing_80 rfl (lv_at hl 3 rfl) ?_
            refine lv_aload_n hx hb dX12_doing_81 rfl (lv_at hl 1 rfl) ?_
            refine tk_getA hC hK hw hT hinX12 kM_at0 (by decide) rfl 5 (by decide) (List.mem_cons_of_mem _ uw_6_17) rfl rfl dX12_doing_82 ?_
            refine lv_iload hx hb dX12_doing_85 (lv_at hl 0 rfl) ?_
            refine lv_iconst (v := 1) hx hb dX12_doing_87 (by decide) ?_
            refine lv_iadd hx hb dX12_doing_88 ?_
            refine lv_topi (fun x195 ex195 => ?_)
            have ex195 : x195.toInt = x39.toInt + (1 : Int) := by rw [ex195]; exact wk_add (show (-2147483648) ≤ x39.toInt + (1 : Int) by omega) (show x39.toInt + (1 : Int) ≤ 2147483647 by omega)
            refine tk_iald hC hK hw hT kM_at4 rfl rfl (show 0 ≤ x195.toInt by omega) (show x195.toInt < 216 by omega) dX12_doing_89 (fun x196 c197 rx196 tx196 => ?_)
            have c197 : gi w1 4 (36 * v32_2.toInt + 3 * v32_3.toInt + 1).toNat = x196 := (congrArg (gi w1 4) (congrArg Int.toNat (show 36 * v32_2.toInt + 3 * v32_3.toInt + 1 = x195.toInt by omega))).trans c197
            refine wk_top x190 (c197.symm.trans c191) ?_
            refine lv_aload_n hx hb dX12_doing_90 rfl (lv_at hl 1 rfl) ?_
            refine tk_getA hC hK hw hT hinX12 kM_at0 (by decide) rfl 5 (by decide) (List.mem_cons_of_mem _ uw_6_17) rfl rfl dX12_doing_91 ?_
            refine lv_iload hx hb dX12_doing_94 (lv_at hl 0 rfl) ?_
            refine lv_iconst (v := 2) hx hb dX12_doing_96 (by decide) ?_
            refine lv_iadd hx hb dX12_doing_97 ?_
            refine lv_topi (fun x198 ex198 => ?_)
            have ex198 : x198.toInt = x39.toInt + (2 : Int) := by rw [ex198]; exact wk_add (show (-2147483648) ≤ x39.toInt + (2 : Int) by omega) (show x39.toInt + (2 : Int) ≤ 2147483647 by omega)
            refine tk_iald hC hK hw hT kM_at4 rfl rfl (show 0 ≤ x198.toInt by omega) (show x198.toInt < 216 by omega) dX12_doing_98 (fun x199 c200 rx199 tx199 => ?_)
            have c200 : gi w1 4 (36 * v32_2.toInt + 3 * v32_3.toInt + 2).toNat = x199 := (congrArg (gi w1 4) (congrArg Int.toNat (show 36 * v32_2.toInt + 3 * v32_3.toInt + 2 = x198.toInt by omega))).trans c200
            have hz := (hRW v32_2.toInt v32_3.toInt (by omega) (by omega) (by omega) (by rw [c35]; omega)).resolve_left (by rw [c191]; omega)
            rw [c191, c200] at hz
            obtain ⟨hz1, hz2, hz3⟩ := hz
            obtain ⟨x201, c202, rx201, tx201⟩ := hT.rdi (lo := 0) (hi := 64) (k := 24) kM_at0 (by decide) rfl
            refine tk_Vl hC hK hw hT hA hE hSR kM_at0 (by decide) rfl (k_X12_reckons_1 l adK adV dC dI cy ad B (by omega) (by omega) qr s1   v32_2 (show 0 ≤ v32_2.toInt from r4) (show v32_2.toInt ≤ 5 from t5) x190 (show 0 ≤ x190.toInt from c192) (show x190.toInt ≤ 400 by omega) x199 (show 0 ≤ x199.toInt by omega) (show x199.toInt ≤ 400 by omega) w1 H.size hT x201 c202 (show 0 ≤ x201.toInt by omega) (show x201.toInt ≤ 64 by omega) ⟨hz1, hz3⟩) (cwV 3 hC.2.2.2.2 uV_RX12_401 rfl rfl rfl (by decide +kernel) ⟨Nat.le_of_ble_eq_true rfl, Nat.le_of_ble_eq_true rfl⟩) rfl hl.1 rfl (Nat.le_of_ble_eq_true rfl) dX12_doing_99 (fun r203 w205 H locs hp204 hw => ?_)
            obtain ⟨hT, k206, hg209⟩ := hp204
            have hRW := RW_FE k206 (fun _ => rfl) (fun _ => rfl) (fun _ => rfl) hRW
            have hF := hF.tr k206 (by decide)
            have c210 := k206.gi kM_at0 (by decide) c10
            have c211 := k206.gi kM_at12 rfl c13
            have c212 := k206.gi kM_at5 rfl c35
            have c213 := k206.gi kM_at4 rfl c41
            have c214 := k206.gi kM_at4 rfl c191
            have c215 := k206.gi kM_at4 rfl c200
            obtain ⟨x207, c208, rx207, tx207⟩ := hg209
            refine lv_lconst (v := 1) hx hb dX12_doing_102 (by decide) ?_
            refine W.lcmp hx hb dX12_doing_103 ?_
            refine lv_if_ne (tgt := 115) hx hb dX12_doing_104 (by decide) (fun c216 => ?_) (fun c216 => ?_)
            · have c216 : ¬ r203.toInt = (1 : Int) := wk_ceF c216
              exact J115 x39 x40 x34 H locs ls w205 (show 0 ≤ a1.toInt from r2) (show a1.toInt ≤ 3 from t3) (show 0 ≤ v32_2.toInt from r4) (show v32_2.toInt ≤ 5 from t5) (show 0 ≤ v32_3.toInt from r6) (show v32_3.toInt ≤ 11 by omega) (show 0 ≤ x39.toInt by omega) (show x39.toInt ≤ 213 by omega) (show 0 ≤ f32_0_30.toInt from r8) (show f32_0_30.toInt ≤ 1 from t9) (show 0 ≤ f32_12__9_a1_toInt_219_toNat.toInt from r11) (show f32_12__9_a1_toInt_219_toNat.toInt ≤ 5 from t12) (show 1 ≤ x34.toInt by omega) (show x34.toInt ≤ 12 from tx34)  hw hT hF hRW c210 c211 c213 c212 (lv_sub hl [1, 2, 3, 4, 0] rfl)
            · have c216 : r203.toInt = (1 : Int) := wk_ceT c216
              refine lv_aload_n hx hb dX12_doing_107 rfl (lv_at hl 1 rfl) ?_
              refine tk_getA hC hK hw hT hinX12 kM_at0 (by decide) rfl 5 (by decide) (List.mem_cons_of_mem _ uw_6_17) rfl rfl dX12_doing_108 ?_
              refine lv_iload hx hb dX12_doing_111 (lv_at hl 0 rfl) ?_
              refine tk_iald hC hK hw hT kM_at4 rfl rfl (show 0 ≤ x39.toInt by omega) (show x39.toInt < 216 by omega) dX12_doing_113 (fun x217 c218 rx217 tx217 => ?_)
              have c218 : gi w205 4 (36 * v32_2.toInt + 3 * v32_3.toInt + 0).toNat = x217 := (congrArg (gi w205 4) (congrArg Int.toNat (show 36 * v32_2.toInt + 3 * v32_3.toInt + 0 = x39.toInt by omega))).trans c218
              refine wk_top x40 (c218.symm.trans c213) ?_
              exact tk_iret hC hr hlocks hK ⟨hT, hF, (Or.inr (Or.inl (show 3 ≤ x40.toInt by omega)))⟩ hw dX12_doing_114
  refine lv_aload_n hx hb dX12_doing_0 rfl (lv_at hl 0 rfl) ?_
  refine lv_iload_n hx hb dX12_doing_1 rfl (lv_at hl 1 rfl) ?_
  refine lv_iconst (v := 3) hx hb dX12_doing_2 (by decide) ?_
  refine tk_Vi hC hK hw hT hA hE hSR kM_at0 (by decide) rfl (k_X12_walkerOf_6 l adK adV dC dI cy ad B (by omega) (by omega) qr s1   a1 (show 0 ≤ a1.toInt from ra1) (show a1.toInt ≤ 3 from ta1) w0 s.heap.size hT ) (cwV 2 hC.2.2.2.2 uV_RX12_372 rfl rfl rfl (by decide +kernel) ⟨Nat.le_of_ble_eq_true rfl, Nat.le_of_ble_eq_true rfl⟩) rfl hl.1 rfl (Nat.le_of_ble_eq_true rfl) dX12_doing_3 (fun r219 w221 H locs hp220 hw => ?_)
  obtain ⟨rfl, hg226⟩ := hp220
  obtain ⟨g223, g224, c225⟩ := hg226
  refine lv_istore_n (lv' := [(2, .int r219), (0, .ref (ad 0)), (1, .int a1)]) hx hb dX12_doing_6 rfl hl (by decide) rfl (fun ls hl => ?_)
  refine lv_iload_n hx hb dX12_doing_7 rfl (lv_at hl 0 rfl) ?_
  refine lv_if_ge (tgt := 25) hx hb dX12_doing_8 (by decide) (fun c227 => ?_) (fun c227 => ?_)
  · have c227 : (0 : Int) ≤ r219.toInt := wk_le.mp c227
    refine lv_aload_n hx hb dX12_doing_25 rfl (lv_at hl 1 rfl) ?_
    refine lv_iload_n hx hb dX12_doing_26 rfl (lv_at hl 2 rfl) ?_
    refine tk_Vv hC hK hw hT hA hE hSR kM_at0 (by decide) rfl (k_X12_words_1 l adK adV dC dI cy ad B (by omega) (by omega) qr s1   a1 (show 0 ≤ a1.toInt from ra1) (show a1.toInt ≤ 3 from ta1) w0 H.size hT ) (cwV 1 hC.2.2.2.2 uV_RX12_395 rfl rfl rfl (by decide +kernel) ⟨Nat.le_of_ble_eq_true rfl, Nat.le_of_ble_eq_true rfl⟩) rfl hl.1 rfl (Nat.le_of_ble_eq_true rfl) dX12_doing_27 (fun w230 H locs hp229 hw => ?_)
    obtain ⟨hT, k231, hg234⟩ := hp229
    have hRW := RW_FE k231 (fun _ => rfl) (fun _ => rfl) (fun _ => rfl) hRW
    have hF := hF.tr k231 (by decide)
    have c235 := k231.gi kM_at12 rfl c225
    obtain ⟨x232, c233, rx232, tx232⟩ := hg234
    refine lv_iconst (v := 0) hx hb dX12_doing_30 (by decide) ?_
    refine lv_istore_n (lv' := [(3, .int 0), (2, .int r219), (0, .ref (ad 0)), (1, .int a1)]) hx hb dX12_doing_31 rfl hl (by decide) rfl (fun ls hl => ?_)
    exact L32 ((12 - (0 : Int)).toNat + 1) r219 0 x232 r219 H locs ls w230 (show 0 ≤ a1.toInt from ra1) (show a1.toInt ≤ 3 from ta1) (show 0 ≤ r219.toInt from c227) (show r219.toInt ≤ 5 by omega) (by decide) (by decide) (show 0 ≤ x232.toInt by omega) (show x232.toInt ≤ 1 by omega) (show 0 ≤ r219.toInt from c227) (show r219.toInt ≤ 5 by omega) (Nat.lt_succ_self _) hw hT hF hRW c233 c235 (lv_sub hl [2, 3, 1, 0] rfl)
  · have c227 : r219.toInt < (0 : Int) := wk_leF c227
    refine lv_aload_n hx hb dX12_doing_11 rfl (lv_at hl 1 rfl) ?_
    refine lv_iload_n hx hb dX12_doing_12 rfl (lv_at hl 2 rfl) ?_
    refine tk_Vi hC hK hw hT hA hE hSR kM_at0 (by decide) rfl (k_X12_canGo_1 l adK adV dC dI cy ad B (by omega) (by omega) qr s1   a1 (show 0 ≤ a1.toInt from ra1) (show a1.toInt ≤ 3 from ta1) w0 H.size hT ) (cwV 1 hC.2.2.2.2 uV_RX12_387 rfl rfl rfl (by decide +kernel) ⟨Nat.le_of_ble_eq_true rfl, Nat.le_of_ble_eq_true rfl⟩) rfl hl.1 rfl (Nat.le_of_ble_eq_true rfl) dX12_doing_13 (fun r236 w238 H locs hp237 hw => ?_)
    obtain ⟨rfl, hg242⟩ := hp237
    rcases hg242 with rfl | ⟨rfl, ⟨x240, c241, rx240, tx240⟩⟩
    · refine lv_if_eq (tgt := 23) hx hb dX12_doing_16 (by decide) (fun _ => ?_) (fun c => absurd (by decide) c)
      refine lv_iconst (v := 3) hx hb dX12_doing_23 (by decide) ?_
      exact tk_iret hC hr hlocks hK ⟨hT, hF, (Or.inr (Or.inr (Or.inr (Or.inr (Or.inr rfl)))))⟩ hw dX12_doing_24
    · refine lv_if_eq (tgt := 23) hx hb dX12_doing_16 (by decide) (fun c => absurd c (by decide)) (fun _ => ?_)
      refine lv_iconst (v := 0) hx hb dX12_doing_19 (by decide) ?_
      refine lv_goto (tgt := 24) hx hb dX12_doing_20 (by decide) ?_
      exact tk_iret hC hr hlocks hK ⟨hT, hF, (Or.inr (Or.inr (Or.inl ⟨rfl, ⟨x240, c241, (show 0 ≤ x240.toInt by omega), (show x240.toInt ≤ 11 by omega)⟩⟩)))⟩ hw dX12_doing_24
abbrev P_X12_takesDay_1 (ad : Nat → Nat) (cy : Nat → ClassId) (B : Int) (qr : Nat) (s1 : Int) (a1 : Int32) (w0 : va_W) : va_W → Prop := fun u => TW ksM ad cy B qr 12 u ∧ FE ksM [(72, 0, 12)] w0 u ∧ ((True))
set_option maxHeartbeats 4000000 in
set_option maxRecDepth 100000 in
theorem k_X12_takesDay_1 (l : Launch) (adK adV : Nat → Nat) (dC : Nat → ClassId) (dI : Nat → Nat → Nat) (cy : Nat → ClassId) (ad : Nat → Nat) (B : Int) (hB0 : 100000 ≤ B) (hB1 : B ≤ 1073741824) (qr : Nat) (s1 : Int)  (a1 : Int32) (ra1 : 0 ≤ a1.toInt) (ta1 : a1.toInt ≤ 6) (w0 : va_W) (sz : Nat) (hT : TW ksM ad cy B qr 12 w0)  : Met l yX12_takesDay (wu yX12_takesDay cX12_takesDay 3 none) ({ frames := 2, cells := 0, slots := 0, locals := 34 }) (va_Pc [.ref (ad 0), .int a1] (wpreS adK adV dC dI cy sz w0)) (va_Qv (P_X12_takesDay_1 ad cy B qr s1 a1 w0) (fun u : va_W => wpost dC dI cy (va_A w0 sz) u) (va_A w0 sz)) 0 0 (va_A w0 sz) := by
  refine Met.ofW (cc := cX12_takesDay) (maxL := 3) (ret := none) (by decide) rfl ?_
  intro p e s m args below meth c s₁ Bk hml hv
  obtain ⟨rfl, ⟨hsz, hP, hK, hD0⟩, hE, hSR⟩ := hv
  have hx := Bk.exec
  have hb := Bk.bytes
  have hr := Bk.returns
  have hlocks := Bk.notSynchronized
  have hC : CallFix p m c cX12_takesDay 3 s _ (wu yX12_takesDay cX12_takesDay 3 none) RX12 := ⟨hx, hb, hml, findClass_of_methodNamed Bk.named, atoms_spec (ws := (wu yX12_takesDay cX12_takesDay 3 none)) Bk.pre⟩
  subst hsz
  have hD := hD0.self (sz := s.heap.size)
  generalize hAe : va_A w0 s.heap.size = A at hD hE ⊢
  have hA : ∀ q : Nat, s.heap.size ≤ q → A q := fun q h => by rw [← hAe]; exact Or.inr h
  have hw : Wd dC dI A s.heap s.heap [] w0 := ⟨hP, hD, va_S.rf⟩
  have hF : FE ksM [(72, 0, 12)] w0 w0 := FE.rf
  have hl := lv_entry ([.ref (ad 0), .int a1]) (n := 3) (Nat.le_of_ble_eq_true rfl)
  rw [lg_entry_eq]
  generalize (lg_sl ([.ref (ad 0), .int a1]) ++ List.replicate (3 - (lg_sl ([.ref (ad 0), .int a1])).length) Slot.unset).toArray = ls at hl ⊢
  have hl : lv_has ls 3 [(0, .ref (ad 0)), (1, .int a1)] := hl
  generalize hloc : ([] : List Loc) = locs at hw ⊢
  have hinX12 : ∀ w ∈ u_ws RX12 TX12 42, w ∈ (wu yX12_takesDay cX12_takesDay 3 none) := fun _ h => List.mem_cons_of_mem _ (up_71 h)
  have L2 : ∀ (n2 : Nat) (v2_2 : Int32) (H : Heap) (locs : List Loc) (ls : Array Slot) (w1 : va_W), 0 ≤ a1.toInt → a1.toInt ≤ 6 → 0 ≤ v2_2.toInt → v2_2.toInt ≤ 12 → (12 - v2_2.toInt).toNat < n2 → Wd dC dI A s.heap H locs w1 → TW ksM ad cy B qr 12 w1 → FE ksM [(72, 0, 12)] w0 w1 → lv_has ls 3 [(0, .ref (ad 0)), (1, .int a1), (2, .int v2_2)] → W p l e ({ frames := 2, cells := 0, slots := 0, locals := 34 }) s m (List.toArray [.ref (ad 0), .int a1]) below meth c H locs 0 0 (MQ below (va_Qv (P_X12_takesDay_1 ad cy B qr s1 a1 w0) (fun u : va_W => wpost dC dI cy A u) A) (List.toArray [.ref (ad 0), .int a1]) s 0 0 A) (F0 m 2 ls []) := by
    intro n2
    induction n2 with
    | zero => intro v2_2 H locs ls w1 r2 t3 r4 t5 hm2 hw hT hF hl; omega
    | succ n2 ih2 =>
      intro v2_2 H locs ls w1 r2 t3 r4 t5 hm2 hw hT hF hl
      refine lv_iload_n hx hb dX12_takesDay_2 rfl (lv_at hl 2 rfl) ?_
      refine lv_aload_n hx hb dX12_takesDay_3 rfl (lv_at hl 0 rfl) ?_
      refine tk_getA hC hK hw hT hinX12 kM_at0 (by decide) rfl 26 (by decide) (List.mem_cons_of_mem _ uw_7_1) rfl rfl dX12_takesDay_4 ?_
      refine lv_iconst (v := 1) hx hb dX12_takesDay_7 (by decide) ?_
      refine tk_ialdR hC hK hw hT kM_at12 rfl (by decide) (by decide) dX12_takesDay_8 (fun x6 c7 Ex6 => ?_)
      have bx6 : 0 ≤ x6.toInt ∧ x6.toInt ≤ 12 := (tk_rg1 rfl).mp Ex6
      have c7 : gi w1 12 1 = x6 := c7
      refine lv_icmp_ge (tgt := 32) hx hb dX12_takesDay_9 (by decide) (fun c8 => ?_) (fun c8 => ?_)
      · have c8 : x6.toInt ≤ v2_2.toInt := wk_le.mp c8
        exact tk_vret hC hr hlocks hK ⟨hT, hF, trivial⟩ hw dX12_takesDay_32
      · have c8 : v2_2.toInt < x6.toInt := wk_leF c8
        refine lv_aload_n hx hb dX12_takesDay_12 rfl (lv_at hl 0 rfl) ?_
        refine tk_getA hC hK hw hT hinX12 kM_at0 (by decide) rfl 28 (by decide) (List.mem_cons_of_mem _ uw_7_3) rfl rfl dX12_takesDay_13 ?_
        refine lv_iload_n hx hb dX12_takesDay_16 rfl (lv_at hl 2 rfl) ?_
        refine lv_aload_n hx hb dX12_takesDay_17 rfl (lv_at hl 0 rfl) ?_
        refine lv_iload_n hx hb dX12_takesDay_18 rfl (lv_at hl 2 rfl) ?_
        refine lv_iconst (v := 3) hx hb dX12_takesDay_19 (by decide) ?_
        refine lv_iload_n hx hb dX12_takesDay_20 rfl (lv_at hl 1 rfl) ?_
        refine lv_iadd hx hb dX12_takesDay_21 ?_
        refine lv_topi (fun x9 ex9 => ?_)
        have ex9 : x9.toInt = (3 : Int) + a1.toInt := by rw [ex9]; exact wk_add (show (-2147483648) ≤ (3 : Int) + a1.toInt by omega) (show (3 : Int) + a1.toInt ≤ 2147483647 by omega)
        refine tk_Vi hC hK hw hT hA hE hSR kM_at0 (by decide) rfl (k_X12_streetOf_4 l adK adV dC dI cy ad B (by omega) (by omega) qr s1   v2_2 (show 0 ≤ v2_2.toInt from r4) (show v2_2.toInt ≤ 11 by omega) x9 (show 3 ≤ x9.toInt by omega) (show x9.toInt ≤ 9 by omega) w1 H.size hT ) (cwV 2 hC.2.2.2.2 uV_RX12_300 rfl rfl rfl (by decide +kernel) ⟨Nat.le_of_ble_eq_true rfl, Nat.le_of_ble_eq_true rfl⟩) rfl hl.1 rfl (Nat.le_of_ble_eq_true rfl) dX12_takesDay_22 (fun r10 w12 H locs hp11 hw => ?_)
        obtain ⟨rfl, hg17⟩ := hp11
        obtain ⟨g14, g15, c16⟩ := hg17
        refine tk_iast hC hK hw hT kM_at13 (by decide) rfl rfl (show 0 ≤ v2_2.toInt from r4) (show v2_2.toInt < 12 by omega) (wk_i32 r10).1 (wk_i32 r10).2 dX12_takesDay_25 (fun H locs w18 hw hT k20 c19 => ?_)
        have hF := hF.put kM_at13 (inE_of (a := 0) (b := 12) (by decide) (show 0 ≤ v2_2.toInt.toNat by omega) (show v2_2.toInt.toNat ≤ 12 by omega)) k20
        have c21 := k20.gi (Or.inl (tk_ne kM_at12 kM_at13 (by decide))) c7
        have c22 := k20.gi (Or.inl (tk_ne kM_at12 kM_at13 (by decide))) c16
        obtain ⟨x23, ex23⟩ : ∃ y : Int32, y = v2_2 + Int32.ofInt 1 := ⟨_, rfl⟩
        refine lv_iinc (v := x23) (lv' := [(2, .int x23), (0, .ref (ad 0)), (1, .int a1)]) hx hb dX12_takesDay_26 hl (k := 2) rfl ex23.symm (by decide) rfl (fun ls hl => ?_)
        have ex23 : x23.toInt = v2_2.toInt + 1 := by rw [ex23]; exact wk_add (y := 1) (show -2147483648 ≤ v2_2.toInt + 1 by omega) (show v2_2.toInt + 1 ≤ 2147483647 by omega)
        refine lv_goto (tgt := 2) hx hb dX12_takesDay_29 (by decide) ?_
        exact ih2 x23 H locs ls w18 (show 0 ≤ a1.toInt from r2) (show a1.toInt ≤ 6 from t3) (show 0 ≤ x23.toInt by omega) (show x23.toInt ≤ 12 by omega) (show (12 - x23.toInt).toNat < n2 by omega) hw hT hF  (lv_sub hl [1, 2, 0] rfl)
  refine lv_iconst (v := 0) hx hb dX12_takesDay_0 (by decide) ?_
  refine lv_istore_n (lv' := [(2, .int 0), (0, .ref (ad 0)), (1, .int a1)]) hx hb dX12_takesDay_1 rfl hl (by decide) rfl (fun ls hl => ?_)
  exact L2 ((12 - (0 : Int)).toNat + 1) 0 s.heap locs ls w0 (show 0 ≤ a1.toInt from ra1) (show a1.toInt ≤ 6 from ta1) (by decide) (by decide) (Nat.lt_succ_self _) hw hT hF  (lv_sub hl [1, 2, 0] rfl)
abbrev P_X12_walkerOf_10 (ad : Nat → Nat) (cy : Nat → ClassId) (B : Int) (qr : Nat) (s1 : Int) (a1 : Int32) (w0 : va_W) : Int32 → va_W → Prop := fun r u => w0 = u ∧ ((0 ≤ r.toInt ∧ r.toInt ≤ 3 ∧ gi u 12 (9 * a1.toInt + 218).toNat = r))
set_option maxHeartbeats 4000000 in
set_option maxRecDepth 100000 in
theorem k_X12_walkerOf_10 (l : Launch) (adK adV : Nat → Nat) (dC : Nat → ClassId) (dI : Nat → Nat → Nat) (cy : Nat → ClassId) (ad : Nat → Nat) (B : Int) (hB0 : 100000 ≤ B) (hB1 : B ≤ 1073741824) (qr : Nat) (s1 : Int)  (a1 : Int32) (ra1 : 0 ≤ a1.toInt) (ta1 : a1.toInt ≤ 3) (w0 : va_W) (sz : Nat) (hT : TW ksM ad cy B qr 12 w0)  : Met l yX12_walkerOf (wu yX12_walkerOf cX12_walkerOf 3 (some .int)) ({ frames := 1, cells := 0, slots := 0, locals := 12 }) (va_Pc [.ref (ad 0), .int a1, .int 2] (wpreS adK adV dC dI cy sz w0)) (va_Qi (P_X12_walkerOf_10 ad cy B qr s1 a1 w0) (fun u : va_W => wpost dC dI cy (va_A w0 sz) u) (va_A w0 sz)) 0 0 (va_A w0 sz) := by
  refine Met.ofW (cc := cX12_walkerOf) (maxL := 3) (ret := (some .int)) (by decide) rfl ?_
  intro p e s m args below meth c s₁ Bk hml hv
  obtain ⟨rfl, ⟨hsz, hP, hK, hD0⟩, hE, hSR⟩ := hv
  have hx := Bk.exec
  have hb := Bk.bytes
  have hr := Bk.returns
  have hlocks := Bk.notSynchronized
  have hC : CallFix p m c cX12_walkerOf 3 s _ (wu yX12_walkerOf cX12_walkerOf 3 (some .int)) RX12 := ⟨hx, hb, hml, findClass_of_methodNamed Bk.named, atoms_spec (ws := (wu yX12_walkerOf cX12_walkerOf 3 (some .int))) Bk.pre⟩
  subst hsz
  have hD := hD0.self (sz := s.heap.size)
  generalize hAe : va_A w0 s.heap.size = A at hD hE ⊢
  have hA : ∀ q : Nat, s.heap.size ≤ q → A q := fun q h => by rw [← hAe]; exact Or.inr h
  have hw : Wd dC dI A s.heap s.heap [] w0 := ⟨hP, hD, va_S.rf⟩
  have hF : FE ksM ([] : List (Nat × Nat × Nat)) w0 w0 := FE.rf
  have hl := lv_entry ([.ref (ad 0), .int a1, .int 2]) (n := 3) (Nat.le_of_ble_eq_true rfl)
  rw [lg_entry_eq]
  generalize (lg_sl ([.ref (ad 0), .int a1, .int 2]) ++ List.replicate (3 - (lg_sl ([.ref (ad 0), .int a1, .int 2])).length) Slot.unset).toArray = ls at hl ⊢
  have hl : lv_has ls 3 [(0, .ref (ad 0)), (1, .int a1), (2, .int 2)] := hl
  generalize hloc : ([] : List Loc) = locs at hw ⊢
  have hinX12 : ∀ w ∈ u_ws RX12 TX12 42, w ∈ (wu yX12_walkerOf cX12_walkerOf 3 (some .int)) := fun _ h => List.mem_cons_of_mem _ (up_71 h)
  refine lv_aload_n hx hb dX12_walkerOf_0 rfl (lv_at hl 0 rfl) ?_
  refine tk_getA hC hK hw hT hinX12 kM_at0 (by decide) rfl 26 (by decide) (List.mem_cons_of_mem _ uw_7_1) rfl rfl dX12_walkerOf_1 ?_
  refine lv_sipush (v := 216) hx hb dX12_walkerOf_4 (by decide) ?_
  refine lv_bipush (v := 9) hx hb dX12_walkerOf_7 (by decide) ?_
  refine lv_iload_n hx hb dX12_walkerOf_9 rfl (lv_at hl 1 rfl) ?_
  refine lv_imul hx hb dX12_walkerOf_10 ?_
  refine lv_topi (fun x1 ex1 => ?_)
  have ex1 : x1.toInt = (9 : Int) * a1.toInt := by rw [ex1]; exact wk_mul (show (-2147483648) ≤ (9 : Int) * a1.toInt by omega) (show (9 : Int) * a1.toInt ≤ 2147483647 by omega)
  refine lv_iadd hx hb dX12_walkerOf_11 ?_
  refine lv_topi (fun x2 ex2 => ?_)
  have ex2 : x2.toInt = (216 : Int) + x1.toInt := by rw [ex2]; exact wk_add (show (-2147483648) ≤ (216 : Int) + x1.toInt by omega) (show (216 : Int) + x1.toInt ≤ 2147483647 by omega)
  refine lv_iload_n hx hb dX12_walkerOf_12 rfl (lv_at hl 2 rfl) ?_
  refine lv_iadd hx hb dX12_walkerOf_13 ?_
  refine lv_topi (fun x3 ex3 => ?_)
  have ex3 : x3.toInt = x2.toInt + (2 : Int) := by rw [ex3]; exact wk_add (show (-2147483648) ≤ x2.toInt + (2 : Int) by omega) (show x2.toInt + (2 : Int) ≤ 2147483647 by omega)
  refine tk_ialdR hC hK hw hT kM_at12 rfl (show 0 ≤ x3.toInt by omega) (show x3.toInt < 296 by omega) dX12_walkerOf_14 (fun x4 c5 Ex4 => ?_)
  have c5 : gi w0 12 (9 * a1.toInt + 218).toNat = x4 := (congrArg (gi w0 12) (congrArg Int.toNat (show 9 * a1.toInt + 218 = x3.toInt by omega))).trans c5
  have bx4 := tk_rgI rfl 218 9 4 0 3 (by decide +kernel) ⟨(a1.toInt - 0).toNat, by omega, show x3.toInt.toNat = 218 + 9 * (a1.toInt - 0).toNat by omega⟩ Ex4
  exact tk_iret hC hr hlocks hK ⟨rfl, ⟨(show 0 ≤ x4.toInt by omega), (show x4.toInt ≤ 3 by omega), c5⟩⟩ hw dX12_walkerOf_15
abbrev P_X12_looks_1 (ad : Nat → Nat) (cy : Nat → ClassId) (B : Int) (qr : Nat) (s1 : Int) (a1 : Int32) (w0 : va_W) : va_W → Prop := fun u => TW ksM ad cy B qr 12 u ∧ FE ksM [(12, 31, 31), (72, 0, 12), (73, 0, 10)] w0 u ∧ (((∃ y : Int32, gi u 0 31 = y ∧ (-1) ≤ y.toInt ∧ y.toInt ≤ 11)))
set_option maxHeartbeats 4000000 in
set_option maxRecDepth 100000 in
theorem k_X12_looks_1 (l : Launch) (adK adV : Nat → Nat) (dC : Nat → ClassId) (dI : Nat → Nat → Nat) (cy : Nat → ClassId) (ad : Nat → Nat) (B : Int) (hB0 : 100000 ≤ B) (hB1 : B ≤ 1073741824) (qr : Nat) (s1 : Int)  (a1 : Int32) (ra1 : 0 ≤ a1.toInt) (ta1 : a1.toInt ≤ 3) (w0 : va_W) (sz : Nat) (hT : TW ksM ad cy B qr 12 w0)  : Met l yX12_looks (wu yX12_looks cX12_looks 2 none) ({ frames := 4, cells := 0, slots := 0, locals := 79 }) (va_Pc [.ref (ad 0), .int a1] (wpreS adK adV dC dI cy sz w0)) (va_Qv (P_X12_looks_1 ad cy B qr s1 a1 w0) (fun u : va_W => wpost dC dI cy (va_A w0 sz) u) (va_A w0 sz)) 0 0 (va_A w0 sz) := by
  refine Met.ofW (cc := cX12_looks) (maxL := 2) (ret := none) (by decide) rfl ?_
  intro p e s m args below meth c s₁ Bk hml hv
  obtain ⟨rfl, ⟨hsz, hP, hK, hD0⟩, hE, hSR⟩ := hv
  have hx := Bk.exec
  have hb := Bk.bytes
  have hr := Bk.returns
  have hlocks := Bk.notSynchronized
  have hC : CallFix p m c cX12_looks 2 s _ (wu yX12_looks cX12_looks 2 none) RX12 := ⟨hx, hb, hml, findClass_of_methodNamed Bk.named, atoms_spec (ws := (wu yX12_looks cX12_looks 2 none)) Bk.pre⟩
  subst hsz
  have hD := hD0.self (sz := s.heap.size)
  generalize hAe : va_A w0 s.heap.size = A at hD hE ⊢
  have hA : ∀ q : Nat, s.heap.size ≤ q → A q := fun q h => by rw [← hAe]; exact Or.inr h
  have hw : Wd dC dI A s.heap s.heap [] w0 := ⟨hP, hD, va_S.rf⟩
  have hF : FE ksM [(12, 31, 31), (72, 0, 12), (73, 0, 10)] w0 w0 := FE.rf
  have hl := lv_entry ([.ref (ad 0), .int a1]) (n := 2) (Nat.le_of_ble_eq_true rfl)
  rw [lg_entry_eq]
  generalize (lg_sl ([.ref (ad 0), .int a1]) ++ List.replicate (2 - (lg_sl ([.ref (ad 0), .int a1])).length) Slot.unset).toArray = ls at hl ⊢
  have hl : lv_has ls 2 [(0, .ref (ad 0)), (1, .int a1)] := hl
  generalize hloc : ([] : List Loc) = locs at hw ⊢
  have hinX12 : ∀ w ∈ u_ws RX12 TX12 42, w ∈ (wu yX12_looks cX12_looks 2 none) := fun _ h => List.mem_cons_of_mem _ (up_71 h)
  have J44 : ∀ (H : Heap) (locs : List Loc) (ls : Array Slot) (w1 : va_W), 0 ≤ a1.toInt → a1.toInt ≤ 3 → Wd dC dI A s.heap H locs w1 → TW ksM ad cy B qr 12 w1 → FE ksM [(12, 31, 31), (72, 0, 12), (73, 0, 10)] w0 w1 → lv_has ls 2 [(0, .ref (ad 0)), (1, .int a1)] → W p l e ({ frames := 4, cells := 0, slots := 0, locals := 79 }) s m (List.toArray [.ref (ad 0), .int a1]) below meth c H locs 0 0 (MQ below (va_Qv (P_X12_looks_1 ad cy B qr s1 a1 w0) (fun u : va_W => wpost dC dI cy A u) A) (List.toArray [.ref (ad 0), .int a1]) s 0 0 A) (F0 m 44 ls []) := by
    intro H locs ls w1 r2 t3 hw hT hF hl
    refine lv_aload_n hx hb dX12_looks_44 rfl (lv_at hl 0 rfl) ?_
    refine lv_aload_n hx hb dX12_looks_45 rfl (lv_at hl 0 rfl) ?_
    refine lv_iload_n hx hb dX12_looks_46 rfl (lv_at hl 1 rfl) ?_
    refine lv_iconst (v := 1) hx hb dX12_looks_47 (by decide) ?_
    refine tk_Vi hC hK hw hT hA hE hSR kM_at0 (by decide) rfl (k_X12_walkerOf_3 l adK adV dC dI cy ad B (by omega) (by omega) qr s1   a1 (show 0 ≤ a1.toInt from r2) (show a1.toInt ≤ 3 from t3) w1 H.size hT ) (cwV 2 hC.2.2.2.2 uV_RX12_372 rfl rfl rfl (by decide +kernel) ⟨Nat.le_of_ble_eq_true rfl, Nat.le_of_ble_eq_true rfl⟩) rfl hl.1 rfl (Nat.le_of_ble_eq_true rfl) dX12_looks_48 (fun r4 w6 H locs hp5 hw => ?_)
    obtain ⟨rfl, hg11⟩ := hp5
    obtain ⟨g8, g9, c10⟩ := hg11
    refine tk_Vv hC hK hw hT hA hE hSR kM_at0 (by decide) rfl (k_X12_spreads_1 l adK adV dC dI cy ad B (by omega) (by omega) qr s1   r4 (show 0 ≤ r4.toInt by omega) (show r4.toInt ≤ 9 by omega) w1 H.size hT ) (cwV 1 hC.2.2.2.2 uV_RX12_354 rfl rfl rfl (by decide +kernel) ⟨Nat.le_of_ble_eq_true rfl, Nat.le_of_ble_eq_true rfl⟩) rfl hl.1 rfl (Nat.le_of_ble_eq_true rfl) dX12_looks_51 (fun w14 H locs hp13 hw => ?_)
    obtain ⟨hT, k15, hg16⟩ := hp13
    have hF := hF.tr k15 (by decide)
    have c17 := k15.gi kM_at12 rfl c10
    clear hg16
    refine lv_aload_n hx hb dX12_looks_54 rfl (lv_at hl 0 rfl) ?_
    refine lv_aload_n hx hb dX12_looks_55 rfl (lv_at hl 0 rfl) ?_
    refine lv_aload_n hx hb dX12_looks_56 rfl (lv_at hl 0 rfl) ?_
    refine lv_iload_n hx hb dX12_looks_57 rfl (lv_at hl 1 rfl) ?_
    refine lv_iconst (v := 0) hx hb dX12_looks_58 (by decide) ?_
    refine tk_Vi hC hK hw hT hA hE hSR kM_at0 (by decide) rfl (k_X12_walkerOf_2 l adK adV dC dI cy ad B (by omega) (by omega) qr s1   a1 (show 0 ≤ a1.toInt from r2) (show a1.toInt ≤ 3 from t3) w14 H.size hT ) (cwV 2 hC.2.2.2.2 uV_RX12_372 rfl rfl rfl (by decide +kernel) ⟨Nat.le_of_ble_eq_true rfl, Nat.le_of_ble_eq_true rfl⟩) rfl hl.1 rfl (Nat.le_of_ble_eq_true rfl) dX12_looks_59 (fun r18 w20 H locs hp19 hw => ?_)
    obtain ⟨rfl, hg25⟩ := hp19
    obtain ⟨g22, g23, c24⟩ := hg25
    refine tk_Vi hC hK hw hT hA hE hSR kM_at0 (by decide) rfl (k_X12_streetFrom_1 l adK adV dC dI cy ad B (by omega) (by omega) qr s1   r18 (show 0 ≤ r18.toInt by omega) (show r18.toInt ≤ 9 by omega) w14 H.size hT ) (cwV 1 hC.2.2.2.2 uV_RX12_357 rfl rfl rfl (by decide +kernel) ⟨Nat.le_of_ble_eq_true rfl, Nat.le_of_ble_eq_true rfl⟩) rfl hl.1 rfl (Nat.le_of_ble_eq_true rfl) dX12_looks_62 (fun r26 w28 H locs hp27 hw => ?_)
    obtain ⟨rfl, hg46⟩ := hp27
    rcases hg46 with ⟨g30, g31, ⟨x32, c33, rx32, tx32⟩, c34, c35⟩ | ⟨g36, g37, ⟨x38, c39, rx38, tx38⟩, c40⟩ | ⟨g41, g42, ⟨x43, c44, rx43, tx43⟩, c45⟩ | rfl
    · refine tk_puti hC hK hw hT hinX12 tyX12_ok nmX12 kM_at0 (by decide) rfl rfl 31 (by decide) (List.mem_cons_of_mem _ uw_46_23) rfl rfl rfl rfl (show (-1) ≤ r26.toInt by omega) (show r26.toInt ≤ 11 by omega) dX12_looks_65 (fun H locs w47 hw hT k49 c48 => ?_)
      have hF := hF.put kM_at0 (k := 31) (by decide) k49
      have c50 := k49.gi (Or.inl (tk_ne kM_at12 kM_at0 (by decide))) c17
      have c51 := k49.gi (Or.inl (tk_ne kM_at12 kM_at0 (by decide))) c24
      have c52 := k49.gi (Or.inr (by decide)) c33
      have c53 := k49.gi (Or.inl (tk_ne kM_at12 kM_at0 (by decide))) c34
      have c54 := k49.gi (Or.inl (tk_ne kM_at12 kM_at0 (by decide))) c35
      exact tk_vret hC hr hlocks hK ⟨hT, hF, ⟨r26, c48, (show (-1) ≤ r26.toInt by omega), (show r26.toInt ≤ 11 by omega)⟩⟩ hw dX12_looks_68
    · refine tk_puti hC hK hw hT hinX12 tyX12_ok nmX12 kM_at0 (by decide) rfl rfl 31 (by decide) (List.mem_cons_of_mem _ uw_46_23) rfl rfl rfl rfl (show (-1) ≤ r26.toInt by omega) (show r26.toInt ≤ 11 by omega) dX12_looks_65 (fun H locs w55 hw hT k57 c56 => ?_)
      have hF := hF.put kM_at0 (k := 31) (by decide) k57
      have c58 := k57.gi (Or.inl (tk_ne kM_at12 kM_at0 (by decide))) c17
      have c59 := k57.gi (Or.inl (tk_ne kM_at12 kM_at0 (by decide))) c24
      have c60 := k57.gi (Or.inr (by decide)) c39
      have c61 := k57.gi (Or.inl (tk_ne kM_at12 kM_at0 (by decide))) c40
      exact tk_vret hC hr hlocks hK ⟨hT, hF, ⟨r26, c56, (show (-1) ≤ r26.toInt by omega), (show r26.toInt ≤ 11 by omega)⟩⟩ hw dX12_looks_68
    · refine tk_puti hC hK hw hT hinX12 tyX12_ok nmX12 kM_at0 (by decide) rfl rfl 31 (by decide) (List.mem_cons_of_mem _ uw_46_23) rfl rfl rfl rfl (show (-1) ≤ r26.toInt by omega) (show r26.toInt ≤ 11 by omega) dX12_looks_65 (fun H locs w62 hw hT k64 c63 => ?_)
      have hF := hF.put kM_at0 (k := 31) (by decide) k64
      have c65 := k64.gi (Or.inl (tk_ne kM_at12 kM_at0 (by decide))) c17
      have c66 := k64.gi (Or.inl (tk_ne kM_at12 kM_at0 (by decide))) c24
      have c67 := k64.gi (Or.inr (by decide)) c44
      have c68 := k64.gi (Or.inl (tk_ne kM_at12 kM_at0 (by decide))) c45
      exact tk_vret hC hr hlocks hK ⟨hT, hF, ⟨r26, c63, (show (-1) ≤ r26.toInt by omega), (show r26.toInt ≤ 11 by omega)⟩⟩ hw dX12_looks_68
    · refine tk_puti hC hK hw hT hinX12 tyX12_ok nmX12 kM_at0 (by decide) rfl rfl 31 (by decide) (List.mem_cons_of_mem _ uw_46_23) rfl rfl rfl rfl (by decide) (by decide) dX12_looks_65 (fun H locs w69 hw hT k71 c70 => ?_)
      have hF := hF.put kM_at0 (k := 31) (by decide) k71
      have c72 := k71.gi (Or.inl (tk_ne kM_at12 kM_at0 (by decide))) c17
      have c73 := k71.gi (Or.inl (tk_ne kM_at12 kM_at0 (by decide))) c24
      exact tk_vret hC hr hlocks hK ⟨hT, hF, ⟨(-1), c70, (by decide), (by decide)⟩⟩ hw dX12_looks_68
  have J34 : ∀ (H : Heap) (locs : List Loc) (ls : Array Slot) (w74 : va_W), 0 ≤ a1.toInt → a1.toInt ≤ 3 → Wd dC dI A s.heap H locs w74 → TW ksM ad cy B qr 12 w74 → FE ksM [(12, 31, 31), (72, 0, 12), (73, 0, 10)] w0 w74 → lv_has ls 2 [(0, .ref (ad 0)), (1, .int a1)] → W p l e ({ frames := 4, cells := 0, slots := 0, locals := 79 }) s m (List.toArray [.ref (ad 0), .int a1]) below meth c H locs 0 0 (MQ below (va_Qv (P_X12_looks_1 ad cy B qr s1 a1 w0) (fun u : va_W => wpost dC dI cy A u) A) (List.toArray [.ref (ad 0), .int a1]) s 0 0 A) (F0 m 34 ls []) := by
    intro H locs ls w74 r75 t76 hw hT hF hl
    refine lv_aload_n hx hb dX12_looks_34 rfl (lv_at hl 0 rfl) ?_
    refine lv_aload_n hx hb dX12_looks_35 rfl (lv_at hl 0 rfl) ?_
    refine lv_iload_n hx hb dX12_looks_36 rfl (lv_at hl 1 rfl) ?_
    refine lv_iconst (v := 2) hx hb dX12_looks_37 (by decide) ?_
    refine tk_Vi hC hK hw hT hA hE hSR kM_at0 (by decide) rfl (k_X12_walkerOf_10 l adK adV dC dI cy ad B (by omega) (by omega) qr s1   a1 (show 0 ≤ a1.toInt from r75) (show a1.toInt ≤ 3 from t76) w74 H.size hT ) (cwV 2 hC.2.2.2.2 uV_RX12_372 rfl rfl rfl (by decide +kernel) ⟨Nat.le_of_ble_eq_true rfl, Nat.le_of_ble_eq_true rfl⟩) rfl hl.1 rfl (Nat.le_of_ble_eq_true rfl) dX12_looks_38 (fun r77 w79 H locs hp78 hw => ?_)
    obtain ⟨rfl, hg84⟩ := hp78
    obtain ⟨g81, g82, c83⟩ := hg84
    refine tk_Vv hC hK hw hT hA hE hSR kM_at0 (by decide) rfl (k_X12_takesMap_1 l adK adV dC dI cy ad B (by omega) (by omega) qr s1   r77 (show 0 ≤ r77.toInt by omega) (show r77.toInt ≤ 3 by omega) w74 H.size hT ) (cwV 1 hC.2.2.2.2 uV_RX12_351 rfl rfl rfl (by decide +kernel) ⟨Nat.le_of_ble_eq_true rfl, Nat.le_of_ble_eq_true rfl⟩) rfl hl.1 rfl (Nat.le_of_ble_eq_true rfl) dX12_looks_41 (fun w87 H locs hp86 hw => ?_)
    obtain ⟨hT, k88, hg89⟩ := hp86
    have hF := hF.tr k88 (by decide)
    have c90 := k88.gi kM_at12 rfl c83
    clear hg89
    exact J44  H locs ls w87 (show 0 ≤ a1.toInt from r75) (show a1.toInt ≤ 3 from t76)  hw hT hF  (lv_sub hl [0, 1] rfl)
  refine lv_aload_n hx hb dX12_looks_0 rfl (lv_at hl 0 rfl) ?_
  refine lv_iload_n hx hb dX12_looks_1 rfl (lv_at hl 1 rfl) ?_
  refine tk_Vi hC hK hw hT hA hE hSR kM_at0 (by decide) rfl (k_X12_askedToday_1 l adK adV dC dI cy ad B (by omega) (by omega) qr s1   a1 (show 0 ≤ a1.toInt from ra1) (show a1.toInt ≤ 3 from ta1) w0 s.heap.size hT ) (cwV 1 hC.2.2.2.2 uV_RX12_375 rfl rfl rfl (by decide +kernel) ⟨Nat.le_of_ble_eq_true rfl, Nat.le_of_ble_eq_true rfl⟩) rfl hl.1 rfl (Nat.le_of_ble_eq_true rfl) dX12_looks_2 (fun r91 w93 H locs hp92 hw => ?_)
  obtain ⟨rfl, hg95⟩ := hp92
  rcases hg95 with rfl | rfl
  · refine lv_if_eq (tgt := 34) hx hb dX12_looks_5 (by decide) (fun _ => ?_) (fun c => absurd (by decide) c)
    exact J34  H locs ls w0 (show 0 ≤ a1.toInt from ra1) (show a1.toInt ≤ 3 from ta1)  hw hT hF  (lv_sub hl [0, 1] rfl)
  · refine lv_if_eq (tgt := 34) hx hb dX12_looks_5 (by decide) (fun c => absurd c (by decide)) (fun _ => ?_)
    refine lv_aload_n hx hb dX12_looks_8 rfl (lv_at hl 0 rfl) ?_
    refine tk_geti hC hK hw hT hinX12 kM_at0 (by decide) rfl 30 (by decide) (List.mem_cons_of_mem _ uw_47_4) rfl rfl dX12_looks_9 (fun x96 c97 rx96 tx96 => ?_)
    refine lv_if_ne (tgt := 34) hx hb dX12_looks_12 (by decide) (fun c98 => ?_) (fun c98 => ?_)
    · have c98 : ¬ x96.toInt = (0 : Int) := wk_eqF c98
      exact J34  H locs ls w0 (show 0 ≤ a1.toInt from ra1) (show a1.toInt ≤ 3 from ta1)  hw hT hF  (lv_sub hl [0, 1] rfl)
    · have c98 : x96.toInt = (0 : Int) := wk_eq.mp c98
      refine lv_aload_n hx hb dX12_looks_15 rfl (lv_at hl 0 rfl) ?_
      refine lv_aload_n hx hb dX12_looks_16 rfl (lv_at hl 0 rfl) ?_
      refine lv_iload_n hx hb dX12_looks_17 rfl (lv_at hl 1 rfl) ?_
      refine lv_iconst (v := 4) hx hb dX12_looks_18 (by decide) ?_
      refine tk_Vi hC hK hw hT hA hE hSR kM_at0 (by decide) rfl (k_X12_walkerOf_4 l adK adV dC dI cy ad B (by omega) (by omega) qr s1   a1 (show 0 ≤ a1.toInt from ra1) (show a1.toInt ≤ 3 from ta1) w0 H.size hT ) (cwV 2 hC.2.2.2.2 uV_RX12_372 rfl rfl rfl (by decide +kernel) ⟨Nat.le_of_ble_eq_true rfl, Nat.le_of_ble_eq_true rfl⟩) rfl hl.1 rfl (Nat.le_of_ble_eq_true rfl) dX12_looks_19 (fun r99 w101 H locs hp100 hw => ?_)
      obtain ⟨rfl, hg106⟩ := hp100
      obtain ⟨g103, g104, c105⟩ := hg106
      refine lv_bipush (v := 24) hx hb dX12_looks_22 (by decide) ?_
      refine lv_idiv hx hb dX12_looks_24 (by decide) ?_
      refine lv_topi (fun x107 ex107 => ?_)
      have ex107 : x107.toInt = r99.toInt / (24 : Int) := by rw [ex107]; exact wk_div (show 0 ≤ r99.toInt by omega) (show 0 < (24 : Int) by decide)
      refine lv_bipush (v := 7) hx hb dX12_looks_25 (by decide) ?_
      refine lv_irem hx hb dX12_looks_27 (by decide) ?_
      refine lv_topi (fun x108 ex108 => ?_)
      have ex108 : x108.toInt = x107.toInt % (7 : Int) := by rw [ex108]; exact wk_rem (show 0 ≤ x107.toInt by omega) (show 0 < (7 : Int) by decide)
      refine tk_Vv hC hK hw hT hA hE hSR kM_at0 (by decide) rfl (k_X12_takesDay_1 l adK adV dC dI cy ad B (by omega) (by omega) qr s1   x108 (show 0 ≤ x108.toInt by omega) (show x108.toInt ≤ 6 by omega) w0 H.size hT ) (cwV 1 hC.2.2.2.2 uV_RX12_381 rfl rfl rfl (by decide +kernel) ⟨Nat.le_of_ble_eq_true rfl, Nat.le_of_ble_eq_true rfl⟩) rfl hl.1 rfl (Nat.le_of_ble_eq_true rfl) dX12_looks_28 (fun w111 H locs hp110 hw => ?_)
      obtain ⟨hT, k112, hg113⟩ := hp110
      have hF := hF.tr k112 (by decide)
      have c114 := k112.gi kM_at0 (by decide) c97
      clear hg113
      refine lv_goto (tgt := 44) hx hb dX12_looks_31 (by decide) ?_
      exact J44  H locs ls w111 (show 0 ≤ a1.toInt from ra1) (show a1.toInt ≤ 3 from ta1)  hw hT hF  (lv_sub hl [0, 1] rfl)
abbrev P_X12_takesStreet_1 (ad : Nat → Nat) (cy : Nat → ClassId) (B : Int) (qr : Nat) (s1 : Int) (a1 : Int32) (a2 : Int32) (w0 : va_W) : va_W → Prop := fun u => TW ksM ad cy (B + 9) qr 12 u ∧ FE ksM [(71, 216, 243), (71, 220, 247), (71, 223, 250)] w0 u ∧ ((True))
set_option maxHeartbeats 4000000 in
set_option maxRecDepth 100000 in
theorem k_X12_takesStreet_1 (l : Launch) (adK adV : Nat → Nat) (dC : Nat → ClassId) (dI : Nat → Nat → Nat) (cy : Nat → ClassId) (ad : Nat → Nat) (B : Int) (hB0 : 100000 ≤ B) (hB1 : B ≤ 1073741824) (qr : Nat) (s1 : Int)  (a1 : Int32) (ra1 : 0 ≤ a1.toInt) (ta1 : a1.toInt ≤ 3) (a2 : Int32) (ra2 : 0 ≤ a2.toInt) (ta2 : a2.toInt ≤ 11) (w0 : va_W) (sz : Nat) (hT : TW ksM ad cy B qr 12 w0)  : Met l yX12_takesStreet (wu yX12_takesStreet cX12_takesStreet 5 none) ({ frames := 3, cells := 0, slots := 0, locals := 56 }) (va_Pc [.ref (ad 0), .int a1, .int a2] (wpreS adK adV dC dI cy sz w0)) (va_Qv (P_X12_takesStreet_1 ad cy B qr s1 a1 a2 w0) (fun u : va_W => wpost dC dI cy (va_A w0 sz) u) (va_A w0 sz)) 0 0 (va_A w0 sz) := by
  refine Met.ofW (cc := cX12_takesStreet) (maxL := 5) (ret := none) (by decide) rfl ?_
  intro p e s m args below meth c s₁ Bk hml hv
  obtain ⟨rfl, ⟨hsz, hP, hK, hD0⟩, hE, hSR⟩ := hv
  have hx := Bk.exec
  have hb := Bk.bytes
  have hr := Bk.returns
  have hlocks := Bk.notSynchronized
  have hC : CallFix p m c cX12_takesStreet 5 s _ (wu yX12_takesStreet cX12_takesStreet 5 none) RX12 := ⟨hx, hb, hml, findClass_of_methodNamed Bk.named, atoms_spec (ws := (wu yX12_takesStreet cX12_takesStreet 5 none)) Bk.pre⟩
  subst hsz
  have hD := hD0.self (sz := s.heap.size)
  generalize hAe : va_A w0 s.heap.size = A at hD hE ⊢
  have hA : ∀ q : Nat, s.heap.size ≤ q → A q := fun q h => by rw [← hAe]; exact Or.inr h
  have hw : Wd dC dI A s.heap s.heap [] w0 := ⟨hP, hD, va_S.rf⟩
  have hF : FE ksM [(71, 216, 243), (71, 220, 247), (71, 223, 250)] w0 w0 := FE.rf
  have hl := lv_entry ([.ref (ad 0), .int a1, .int a2]) (n := 5) (Nat.le_of_ble_eq_true rfl)
  rw [lg_entry_eq]
  generalize (lg_sl ([.ref (ad 0), .int a1, .int a2]) ++ List.replicate (5 - (lg_sl ([.ref (ad 0), .int a1, .int a2])).length) Slot.unset).toArray = ls at hl ⊢
  have hl : lv_has ls 5 [(0, .ref (ad 0)), (1, .int a1), (2, .int a2)] := hl
  generalize hloc : ([] : List Loc) = locs at hw ⊢
  have hinX12 : ∀ w ∈ u_ws RX12 TX12 42, w ∈ (wu yX12_takesStreet cX12_takesStreet 5 none) := fun _ h => List.mem_cons_of_mem _ (up_71 h)
  refine lv_sipush (v := 216) hx hb dX12_takesStreet_0 (by decide) ?_
  refine lv_bipush (v := 9) hx hb dX12_takesStreet_3 (by decide) ?_
  refine lv_iload_n hx hb dX12_takesStreet_5 rfl (lv_at hl 1 rfl) ?_
  refine lv_imul hx hb dX12_takesStreet_6 ?_
  refine lv_topi (fun x1 ex1 => ?_)
  have ex1 : x1.toInt = (9 : Int) * a1.toInt := by rw [ex1]; exact wk_mul (show (-2147483648) ≤ (9 : Int) * a1.toInt by omega) (show (9 : Int) * a1.toInt ≤ 2147483647 by omega)
  refine lv_iadd hx hb dX12_takesStreet_7 ?_
  refine lv_topi (fun x2 ex2 => ?_)
  have ex2 : x2.toInt = (216 : Int) + x1.toInt := by rw [ex2]; exact wk_add (show (-2147483648) ≤ (216 : Int) + x1.toInt by omega) (show (216 : Int) + x1.toInt ≤ 2147483647 by omega)
  refine lv_istore_n (lv' := [(3, .int x2), (0, .ref (ad 0)), (1, .int a1), (2, .int a2)]) hx hb dX12_takesStreet_8 rfl hl (by decide) rfl (fun ls hl => ?_)
  refine lv_aload_n hx hb dX12_takesStreet_9 rfl (lv_at hl 1 rfl) ?_
  refine tk_getA hC hK hw hT hinX12 kM_at0 (by decide) rfl 26 (by decide) (List.mem_cons_of_mem _ uw_7_1) rfl rfl dX12_takesStreet_10 ?_
  refine lv_iload_n hx hb dX12_takesStreet_13 rfl (lv_at hl 0 rfl) ?_
  refine tk_ialdR hC hK hw hT kM_at12 rfl (show 0 ≤ x2.toInt by omega) (show x2.toInt < 296 by omega) dX12_takesStreet_14 (fun x3 c4 Ex3 => ?_)
  have c4 : gi w0 12 (9 * a1.toInt + 216).toNat = x3 := (congrArg (gi w0 12) (congrArg Int.toNat (show 9 * a1.toInt + 216 = x2.toInt by omega))).trans c4
  have bx3 := tk_rgI rfl 216 9 4 0 9 (by decide +kernel) ⟨(a1.toInt - 0).toNat, by omega, show x2.toInt.toNat = 216 + 9 * (a1.toInt - 0).toNat by omega⟩ Ex3
  refine lv_istore (lv' := [(4, .int x3), (3, .int x2), (0, .ref (ad 0)), (1, .int a1), (2, .int a2)]) hx hb dX12_takesStreet_15 hl (by decide) rfl (fun ls hl => ?_)
  refine lv_aload_n hx hb dX12_takesStreet_17 rfl (lv_at hl 2 rfl) ?_
  refine tk_getA hC hK hw hT hinX12 kM_at0 (by decide) rfl 26 (by decide) (List.mem_cons_of_mem _ uw_7_1) rfl rfl dX12_takesStreet_18 ?_
  refine lv_iload_n hx hb dX12_takesStreet_21 rfl (lv_at hl 1 rfl) ?_
  refine lv_aload_n hx hb dX12_takesStreet_22 rfl (lv_at hl 2 rfl) ?_
  refine lv_iload_n hx hb dX12_takesStreet_23 rfl (lv_at hl 4 rfl) ?_
  refine lv_iload hx hb dX12_takesStreet_24 (lv_at hl 0 rfl) ?_
  refine tk_Vi hC hK hw hT hA hE hSR kM_at0 (by decide) rfl (k_X12_otherOf_1 l adK adV dC dI cy ad B (by omega) (by omega) qr s1   a2 (show 0 ≤ a2.toInt from ra2) (show a2.toInt ≤ 11 from ta2) x3 (show 0 ≤ x3.toInt by omega) (show x3.toInt ≤ 9 by omega) w0 s.heap.size hT ) (cwV 2 hC.2.2.2.2 uV_RX12_348 rfl rfl rfl (by decide +kernel) ⟨Nat.le_of_ble_eq_true rfl, Nat.le_of_ble_eq_true rfl⟩) rfl hl.1 rfl (Nat.le_of_ble_eq_true rfl) dX12_takesStreet_26 (fun r5 w7 H locs hp6 hw => ?_)
  obtain ⟨rfl, hg14⟩ := hp6
  rcases hg14 with ⟨g9, g10⟩ | ⟨g11, g12, c13⟩
  · refine tk_iastR hC hK hw hT kM_at12 (by decide) rfl (show 0 ≤ x2.toInt by omega) (show x2.toInt < 296 by omega) (tk_rgS rfl 216 9 4 0 9 (by decide +kernel) ⟨(a1.toInt - 0).toNat, by omega, show x2.toInt.toNat = 216 + 9 * (a1.toInt - 0).toNat by omega⟩ (show 0 ≤ r5.toInt by omega) (show r5.toInt ≤ 9 by omega)) dX12_takesStreet_29 (fun H locs w15 hw hT k17 c16 => ?_)
    have hF := hF.put kM_at12 (inE_of (a := 216) (b := 243) (by decide) (show 216 ≤ x2.toInt.toNat by omega) (show x2.toInt.toNat ≤ 243 by omega)) k17
    refine lv_aload_n hx hb dX12_takesStreet_30 rfl (lv_at hl 2 rfl) ?_
    refine tk_getA hC hK hw hT hinX12 kM_at0 (by decide) rfl 26 (by decide) (List.mem_cons_of_mem _ uw_7_1) rfl rfl dX12_takesStreet_31 ?_
    refine lv_iload_n hx hb dX12_takesStreet_34 rfl (lv_at hl 1 rfl) ?_
    refine lv_bipush (v := 7) hx hb dX12_takesStreet_35 (by decide) ?_
    refine lv_iadd hx hb dX12_takesStreet_37 ?_
    refine lv_topi (fun x18 ex18 => ?_)
    have ex18 : x18.toInt = x2.toInt + (7 : Int) := by rw [ex18]; exact wk_add (show (-2147483648) ≤ x2.toInt + (7 : Int) by omega) (show x2.toInt + (7 : Int) ≤ 2147483647 by omega)
    refine lv_iload hx hb dX12_takesStreet_38 (lv_at hl 0 rfl) ?_
    refine tk_iastR hC hK hw hT kM_at12 (by decide) rfl (show 0 ≤ x18.toInt by omega) (show x18.toInt < 296 by omega) (tk_rgS rfl 223 9 4 0 9 (by decide +kernel) ⟨(a1.toInt - 0).toNat, by omega, show x18.toInt.toNat = 223 + 9 * (a1.toInt - 0).toNat by omega⟩ (show 0 ≤ x3.toInt by omega) (show x3.toInt ≤ 9 by omega)) dX12_takesStreet_40 (fun H locs w19 hw hT k21 c20 => ?_)
    have hF := hF.put kM_at12 (inE_of (a := 223) (b := 250) (by decide) (show 223 ≤ x18.toInt.toNat by omega) (show x18.toInt.toNat ≤ 250 by omega)) k21
    refine lv_aload_n hx hb dX12_takesStreet_41 rfl (lv_at hl 2 rfl) ?_
    refine tk_getA hC hK hw hT hinX12 kM_at0 (by decide) rfl 26 (by decide) (List.mem_cons_of_mem _ uw_7_1) rfl rfl dX12_takesStreet_42 ?_
    refine lv_iload_n hx hb dX12_takesStreet_45 rfl (lv_at hl 1 rfl) ?_
    refine lv_iconst (v := 4) hx hb dX12_takesStreet_46 (by decide) ?_
    refine lv_iadd hx hb dX12_takesStreet_47 ?_
    refine lv_topi (fun x22 ex22 => ?_)
    have ex22 : x22.toInt = x2.toInt + (4 : Int) := by rw [ex22]; exact wk_add (show (-2147483648) ≤ x2.toInt + (4 : Int) by omega) (show x2.toInt + (4 : Int) ≤ 2147483647 by omega)
    refine lv_dup2_11 hx hb dX12_takesStreet_48 rfl rfl ?_
    refine tk_ialdR hC hK hw hT kM_at12 rfl (show 0 ≤ x22.toInt by omega) (show x22.toInt < 296 by omega) dX12_takesStreet_49 (fun x23 c24 Ex23 => ?_)
    have c24 : gi w19 12 (9 * a1.toInt + 220).toNat = x23 := (congrArg (gi w19 12) (congrArg Int.toNat (show 9 * a1.toInt + 220 = x22.toInt by omega))).trans c24
    have bx23 := (tk_rgB rfl 220 9 4 (by decide +kernel) ⟨(a1.toInt - 0).toNat, by omega, show x22.toInt.toNat = 220 + 9 * (a1.toInt - 0).toNat by omega⟩).mp Ex23
    refine lv_aload_n hx hb dX12_takesStreet_50 rfl (lv_at hl 2 rfl) ?_
    refine lv_iload_n hx hb dX12_takesStreet_51 rfl (lv_at hl 4 rfl) ?_
    refine lv_iconst (v := 2) hx hb dX12_takesStreet_52 (by decide) ?_
    refine tk_Vi hC hK hw hT hA hE hSR kM_at0 (by decide) rfl (k_X12_streetOf_6 l adK adV dC dI cy ad B (by omega) (by omega) qr s1   a2 (show 0 ≤ a2.toInt from ra2) (show a2.toInt ≤ 11 from ta2) w19 H.size hT ) (cwV 2 hC.2.2.2.2 uV_RX12_300 rfl rfl rfl (by decide +kernel) ⟨Nat.le_of_ble_eq_true rfl, Nat.le_of_ble_eq_true rfl⟩) rfl hl.1 rfl (Nat.le_of_ble_eq_true rfl) dX12_takesStreet_53 (fun r25 w27 H locs hp26 hw => ?_)
    obtain ⟨rfl, hg32⟩ := hp26
    obtain ⟨g29, g30, c31⟩ := hg32
    refine lv_iadd hx hb dX12_takesStreet_56 ?_
    refine lv_topi (fun x33 ex33 => ?_)
    have ex33 : x33.toInt = x23.toInt + r25.toInt := by rw [ex33]; exact wk_add (show (-2147483648) ≤ x23.toInt + r25.toInt by omega) (show x23.toInt + r25.toInt ≤ 2147483647 by omega)
    have hT := hT.up (show B ≤ (B + 9) by omega)
    refine tk_iastR hC hK hw hT kM_at12 (by decide) rfl (show 0 ≤ x22.toInt by omega) (show x22.toInt < 296 by omega) ((tk_rgB rfl 220 9 4 (by decide +kernel) ⟨(a1.toInt - 0).toNat, by omega, show x22.toInt.toNat = 220 + 9 * (a1.toInt - 0).toNat by omega⟩).mpr ⟨(show 0 ≤ x33.toInt by omega), (show x33.toInt ≤ (B + 9) by omega)⟩) dX12_takesStreet_57 (fun H locs w34 hw hT k36 c35 => ?_)
    have hF := hF.put kM_at12 (inE_of (a := 220) (b := 247) (by decide) (show 220 ≤ x22.toInt.toNat by omega) (show x22.toInt.toNat ≤ 247 by omega)) k36
    exact tk_vret hC hr hlocks hK ⟨hT, hF, trivial⟩ hw dX12_takesStreet_58
  · refine tk_iastR hC hK hw hT kM_at12 (by decide) rfl (show 0 ≤ x2.toInt by omega) (show x2.toInt < 296 by omega) (tk_rgS rfl 216 9 4 0 9 (by decide +kernel) ⟨(a1.toInt - 0).toNat, by omega, show x2.toInt.toNat = 216 + 9 * (a1.toInt - 0).toNat by omega⟩ (show 0 ≤ r5.toInt by omega) (show r5.toInt ≤ 9 by omega)) dX12_takesStreet_29 (fun H locs w37 hw hT k39 c38 => ?_)
    have hF := hF.put kM_at12 (inE_of (a := 216) (b := 243) (by decide) (show 216 ≤ x2.toInt.toNat by omega) (show x2.toInt.toNat ≤ 243 by omega)) k39
    refine lv_aload_n hx hb dX12_takesStreet_30 rfl (lv_at hl 2 rfl) ?_
    refine tk_getA hC hK hw hT hinX12 kM_at0 (by decide) rfl 26 (by decide) (List.mem_cons_of_mem _ uw_7_1) rfl rfl dX12_takesStreet_31 ?_
    refine lv_iload_n hx hb dX12_takesStreet_34 rfl (lv_at hl 1 rfl) ?_
    refine lv_bipush (v := 7) hx hb dX12_takesStreet_35 (by decide) ?_
    refine lv_iadd hx hb dX12_takesStreet_37 ?_
    refine lv_topi (fun x40 ex40 => ?_)
    have ex40 : x40.toInt = x2.toInt + (7 : Int) := by rw [ex40]; exact wk_add (show (-2147483648) ≤ x2.toInt + (7 : Int) by omega) (show x2.toInt + (7 : Int) ≤ 2147483647 by omega)
    refine lv_iload hx hb dX12_takesStreet_38 (lv_at hl 0 rfl) ?_
    refine tk_iastR hC hK hw hT kM_at12 (by decide) rfl (show 0 ≤ x40.toInt by omega) (show x40.toInt < 296 by omega) (tk_rgS rfl 223 9 4 0 9 (by decide +kernel) ⟨(a1.toInt - 0).toNat, by omega, show x40.toInt.toNat = 223 + 9 * (a1.toInt - 0).toNat by omega⟩ (show 0 ≤ x3.toInt by omega) (show x3.toInt ≤ 9 by omega)) dX12_takesStreet_40 (fun H locs w41 hw hT k43 c42 => ?_)
    have hF := hF.put kM_at12 (inE_of (a := 223) (b := 250) (by decide) (show 223 ≤ x40.toInt.toNat by omega) (show x40.toInt.toNat ≤ 250 by omega)) k43
    refine lv_aload_n hx hb dX12_takesStreet_41 rfl (lv_at hl 2 rfl) ?_
    refine tk_getA hC hK hw hT hinX12 kM_at0 (by decide) rfl 26 (by decide) (List.mem_cons_of_mem _ uw_7_1) rfl rfl dX12_takesStreet_42 ?_
    refine lv_iload_n hx hb dX12_takesStreet_45 rfl (lv_at hl 1 rfl) ?_
    refine lv_iconst (v := 4) hx hb dX12_takesStreet_46 (by decide) ?_
    refine lv_iadd hx hb dX12_takesStreet_47 ?_
    refine lv_topi (fun x44 ex44 => ?_)
    have ex44 : x44.toInt = x2.toInt + (4 : Int) := by rw [ex44]; exact wk_add (show (-2147483648) ≤ x2.toInt + (4 : Int) by omega) (show x2.toInt + (4 : Int) ≤ 2147483647 by omega)
    refine lv_dup2_11 hx hb dX12_takesStreet_48 rfl rfl ?_
    refine tk_ialdR hC hK hw hT kM_at12 rfl (show 0 ≤ x44.toInt by omega) (show x44.toInt < 296 by omega) dX12_takesStreet_49 (fun x45 c46 Ex45 => ?_)
    have c46 : gi w41 12 (9 * a1.toInt + 220).toNat = x45 := (congrArg (gi w41 12) (congrArg Int.toNat (show 9 * a1.toInt + 220 = x44.toInt by omega))).trans c46
    have bx45 := (tk_rgB rfl 220 9 4 (by decide +kernel) ⟨(a1.toInt - 0).toNat, by omega, show x44.toInt.toNat = 220 + 9 * (a1.toInt - 0).toNat by omega⟩).mp Ex45
    refine lv_aload_n hx hb dX12_takesStreet_50 rfl (lv_at hl 2 rfl) ?_
    refine lv_iload_n hx hb dX12_takesStreet_51 rfl (lv_at hl 4 rfl) ?_
    refine lv_iconst (v := 2) hx hb dX12_takesStreet_52 (by decide) ?_
    refine tk_Vi hC hK hw hT hA hE hSR kM_at0 (by decide) rfl (k_X12_streetOf_6 l adK adV dC dI cy ad B (by omega) (by omega) qr s1   a2 (show 0 ≤ a2.toInt from ra2) (show a2.toInt ≤ 11 from ta2) w41 H.size hT ) (cwV 2 hC.2.2.2.2 uV_RX12_300 rfl rfl rfl (by decide +kernel) ⟨Nat.le_of_ble_eq_true rfl, Nat.le_of_ble_eq_true rfl⟩) rfl hl.1 rfl (Nat.le_of_ble_eq_true rfl) dX12_takesStreet_53 (fun r47 w49 H locs hp48 hw => ?_)
    obtain ⟨rfl, hg54⟩ := hp48
    obtain ⟨g51, g52, c53⟩ := hg54
    refine lv_iadd hx hb dX12_takesStreet_56 ?_
    refine lv_topi (fun x55 ex55 => ?_)
    have ex55 : x55.toInt = x45.toInt + r47.toInt := by rw [ex55]; exact wk_add (show (-2147483648) ≤ x45.toInt + r47.toInt by omega) (show x45.toInt + r47.toInt ≤ 2147483647 by omega)
    have hT := hT.up (show B ≤ (B + 9) by omega)
    refine tk_iastR hC hK hw hT kM_at12 (by decide) rfl (show 0 ≤ x44.toInt by omega) (show x44.toInt < 296 by omega) ((tk_rgB rfl 220 9 4 (by decide +kernel) ⟨(a1.toInt - 0).toNat, by omega, show x44.toInt.toNat = 220 + 9 * (a1.toInt - 0).toNat by omega⟩).mpr ⟨(show 0 ≤ x55.toInt by omega), (show x55.toInt ≤ (B + 9) by omega)⟩) dX12_takesStreet_57 (fun H locs w56 hw hT k58 c57 => ?_)
    have hF := hF.put kM_at12 (inE_of (a := 220) (b := 247) (by decide) (show 220 ≤ x44.toInt.toNat by omega) (show x44.toInt.toNat ≤ 247 by omega)) k58
    exact tk_vret hC hr hlocks hK ⟨hT, hF, trivial⟩ hw dX12_takesStreet_58
abbrev P_X12_steps_1 (ad : Nat → Nat) (cy : Nat → ClassId) (B : Int) (qr : Nat) (s1 : Int) (a1 : Int32) (w0 : va_W) : Int32 → va_W → Prop := fun r u => TW ksM ad cy (B + 9) qr 12 u ∧ FE ksM [(12, 24, 24), (12, 31, 31), (69, 0, 64), (70, 0, 10), (71, 216, 243), (71, 220, 247), (71, 221, 248), (71, 222, 249), (71, 223, 250), (71, 224, 251), (72, 0, 12), (73, 0, 10)] w0 u ∧ ((r = 0) ∨ (r = 1))
set_option maxHeartbeats 4000000 in
set_option maxRecDepth 100000 in
theorem k_X12_steps_1 (l : Launch) (adK adV : Nat → Nat) (dC : Nat → ClassId) (dI : Nat → Nat → Nat) (cy : Nat → ClassId) (ad : Nat → Nat) (B : Int) (hB0 : 100000 ≤ B) (hB1 : B ≤ 1073741824) (qr : Nat) (s1 : Int)  (a1 : Int32) (ra1 : 0 ≤ a1.toInt) (ta1 : a1.toInt ≤ 3) (w0 : va_W) (sz : Nat) (hT : TW ksM ad cy B qr 12 w0) (hRW : RW w0) : Met l yX12_steps (wu yX12_steps cX12_steps 4 (some .boolean)) ({ frames := 8, cells := 0, slots := 0, locals := 171 }) (va_Pc [.ref (ad 0), .int a1] (wpreS adK adV dC dI cy sz w0)) (va_Qi (P_X12_steps_1 ad cy B qr s1 a1 w0) (fun u : va_W => wpost dC dI cy (va_A w0 sz) u) (va_A w0 sz)) 0 0 (va_A w0 sz) := by
  refine Met.ofW (cc := cX12_steps) (maxL := 4) (ret := (some .boolean)) (by decide) rfl ?_
  intro p e s m args below meth c s₁ Bk hml hv
  obtain ⟨rfl, ⟨hsz, hP, hK, hD0⟩, hE, hSR⟩ := hv
  have hx := Bk.exec
  have hb := Bk.bytes
  have hr := Bk.returns
  have hlocks := Bk.notSynchronized
  have hC : CallFix p m c cX12_steps 4 s _ (wu yX12_steps cX12_steps 4 (some .boolean)) RX12 := ⟨hx, hb, hml, findClass_of_methodNamed Bk.named, atoms_spec (ws := (wu yX12_steps cX12_steps 4 (some .boolean))) Bk.pre⟩
  subst hsz
  have hD := hD0.self (sz := s.heap.size)
  generalize hAe : va_A w0 s.heap.size = A at hD hE ⊢
  have hA : ∀ q : Nat, s.heap.size ≤ q → A q := fun q h => by rw [← hAe]; exact Or.inr h
  have hw : Wd dC dI A s.heap s.heap [] w0 := ⟨hP, hD, va_S.rf⟩
  have hF : FE ksM [(12, 24, 24), (12, 31, 31), (69, 0, 64), (70, 0, 10), (71, 216, 243), (71, 220, 247), (71, 221, 248), (71, 222, 249), (71, 223, 250), (71, 224, 251), (72, 0, 12), (73, 0, 10)] w0 w0 := FE.rf
  have hl := lv_entry ([.ref (ad 0), .int a1]) (n := 4) (Nat.le_of_ble_eq_true rfl)
  rw [lg_entry_eq]
  generalize (lg_sl ([.ref (ad 0), .int a1]) ++ List.replicate (4 - (lg_sl ([.ref (ad 0), .int a1])).length) Slot.unset).toArray = ls at hl ⊢
  have hl : lv_has ls 4 [(0, .ref (ad 0)), (1, .int a1)] := hl
  generalize hloc : ([] : List Loc) = locs at hw ⊢
  have hinX12 : ∀ w ∈ u_ws RX12 TX12 42, w ∈ (wu yX12_steps cX12_steps 4 (some .boolean)) := fun _ h => List.mem_cons_of_mem _ (up_71 h)
  have J125 : ∀ (v125_2 : Int32) (v125_3 : Int32) (f125_0_31 : Int32) (H : Heap) (locs : List Loc) (ls : Array Slot) (w1 : va_W), 0 ≤ a1.toInt → a1.toInt ≤ 3 → 0 ≤ v125_2.toInt → v125_2.toInt ≤ 1 → 216 ≤ v125_3.toInt → v125_3.toInt ≤ 243 → v125_3.toInt = 9 * a1.toInt + 216 → (-1) ≤ f125_0_31.toInt → f125_0_31.toInt ≤ 11 → Wd dC dI A s.heap H locs w1 → TW ksM ad cy (B + 9) qr 12 w1 → FE ksM [(12, 24, 24), (12, 31, 31), (69, 0, 64), (70, 0, 10), (71, 216, 243), (71, 220, 247), (71, 221, 248), (71, 222, 249), (71, 223, 250), (71, 224, 251), (72, 0, 12), (73, 0, 10)] w0 w1 → RW w1 → gi w1 0 31 = f125_0_31 → lv_has ls 4 [(0, .ref (ad 0)), (1, .int a1), (2, .int v125_2), (3, .int v125_3)] → W p l e ({ frames := 8, cells := 0, slots := 0, locals := 171 }) s m (List.toArray [.ref (ad 0), .int a1]) below meth c H locs 0 0 (MQ below (va_Qi (P_X12_steps_1 ad cy B qr s1 a1 w0) (fun u : va_W => wpost dC dI cy A u) A) (List.toArray [.ref (ad 0), .int a1]) s 0 0 A) (F0 m 125 ls []) := by
    intro v125_2 v125_3 f125_0_31 H locs ls w1 r2 t3 r4 t5 r6 t7 l8 r9 t10 hw hT hF hRW c11 hl
    refine lv_iconst (v := 1) hx hb dX12_steps_125 (by decide) ?_
    refine lv_goto (tgt := 130) hx hb dX12_steps_126 (by decide) ?_
    exact tk_zret hC hr rfl hlocks hK ⟨hT, hF, (Or.inr rfl)⟩ hw dX12_steps_130
  have J104 : ∀ (v104_2 : Int32) (v104_3 : Int32) (f104_0_31 : Int32) (H : Heap) (locs : List Loc) (ls : Array Slot) (w12 : va_W), 0 ≤ a1.toInt → a1.toInt ≤ 3 → 216 ≤ v104_3.toInt → v104_3.toInt ≤ 243 → v104_3.toInt = 9 * a1.toInt + 216 → (-1) ≤ f104_0_31.toInt → f104_0_31.toInt ≤ 11 → Wd dC dI A s.heap H locs w12 → TW ksM ad cy (B + 9) qr 12 w12 → FE ksM [(12, 24, 24), (12, 31, 31), (69, 0, 64), (70, 0, 10), (71, 216, 243), (71, 220, 247), (71, 221, 248), (71, 222, 249), (71, 223, 250), (71, 224, 251), (72, 0, 12), (73, 0, 10)] w0 w12 → RW w12 → gi w12 0 31 = f104_0_31 → lv_has ls 4 [(0, .ref (ad 0)), (1, .int a1), (2, .int v104_2), (3, .int v104_3)] → W p l e ({ frames := 8, cells := 0, slots := 0, locals := 171 }) s m (List.toArray [.ref (ad 0), .int a1]) below meth c H locs 0 0 (MQ below (va_Qi (P_X12_steps_1 ad cy B qr s1 a1 w0) (fun u : va_W => wpost dC dI cy A u) A) (List.toArray [.ref (ad 0), .int a1]) s 0 0 A) (F0 m 104 ls []) := by
    intro v104_2 v104_3 f104_0_31 H locs ls w12 r13 t14 r15 t16 l17 r18 t19 hw hT hF hRW c20 hl
    refine lv_aload_n hx hb dX12_steps_104 rfl (lv_at hl 0 rfl) ?_
    refine tk_getA hC hK hw hT hinX12 kM_at0 (by decide) rfl 26 (by decide) (List.mem_cons_of_mem _ uw_7_1) rfl rfl dX12_steps_105 ?_
    refine lv_iload_n hx hb dX12_steps_108 rfl (lv_at hl 3 rfl) ?_
    refine lv_iconst (v := 5) hx hb dX12_steps_109 (by decide) ?_
    refine lv_iadd hx hb dX12_steps_110 ?_
    refine lv_topi (fun x21 ex21 => ?_)
    have ex21 : x21.toInt = v104_3.toInt + (5 : Int) := by rw [ex21]; exact wk_add (show (-2147483648) ≤ v104_3.toInt + (5 : Int) by omega) (show v104_3.toInt + (5 : Int) ≤ 2147483647 by omega)
    refine lv_dup2_11 hx hb dX12_steps_111 rfl rfl ?_
    refine tk_ialdR hC hK hw hT kM_at12 rfl (show 0 ≤ x21.toInt by omega) (show x21.toInt < 296 by omega) dX12_steps_112 (fun x22 c23 Ex22 => ?_)
    have c23 : gi w12 12 (9 * a1.toInt + 221).toNat = x22 := (congrArg (gi w12 12) (congrArg Int.toNat (show 9 * a1.toInt + 221 = x21.toInt by omega))).trans c23
    refine lv_iconst (v := 1) hx hb dX12_steps_113 (by decide) ?_
    refine lv_iadd hx hb dX12_steps_114 ?_
    have nx24 := wk_i32 x22
    refine lv_topi (fun x25 ex25 => ?_)
    refine tk_iastR hC hK hw hT kM_at12 (by decide) rfl (show 0 ≤ x21.toInt by omega) (show x21.toInt < 296 by omega) (tk_rgS rfl 221 9 4 (-2147483648) 2147483647 (by decide +kernel) ⟨(a1.toInt - 0).toNat, by omega, show x21.toInt.toNat = 221 + 9 * (a1.toInt - 0).toNat by omega⟩ (wk_i32 x25).1 (wk_i32 x25).2) dX12_steps_115 (fun H locs w26 hw hT k28 c27 => ?_)
    have hRW := RW_F1 k28 (by decide) (by decide) (by decide) hRW
    have hF := hF.put kM_at12 (inE_of (a := 221) (b := 248) (by decide) (show 221 ≤ x21.toInt.toNat by omega) (show x21.toInt.toNat ≤ 248 by omega)) k28
    have c29 := k28.gi (Or.inl (tk_ne kM_at0 kM_at12 (by decide))) c20
    refine lv_iload_n hx hb dX12_steps_116 rfl (lv_at hl 2 rfl) ?_
    refine lv_if_eq (tgt := 125) hx hb dX12_steps_117 (by decide) (fun c30 => ?_) (fun c30 => ?_)
    · have c30 : v104_2.toInt = (0 : Int) := wk_eq.mp c30
      exact J125 v104_2 v104_3 f104_0_31 H locs ls w26 (show 0 ≤ a1.toInt from r13) (show a1.toInt ≤ 3 from t14) (show 0 ≤ v104_2.toInt by omega) (show v104_2.toInt ≤ 1 by omega) (show 216 ≤ v104_3.toInt from r15) (show v104_3.toInt ≤ 243 from t16) (show v104_3.toInt = 9 * a1.toInt + 216 by omega) (show (-1) ≤ f104_0_31.toInt from r18) (show f104_0_31.toInt ≤ 11 from t19)  hw hT hF hRW c29 (lv_sub hl [0, 1, 2, 3] rfl)
    · have c30 : ¬ v104_2.toInt = (0 : Int) := wk_eqF c30
      refine lv_iload_n hx hb dX12_steps_120 rfl (lv_at hl 2 rfl) ?_
      refine lv_iconst (v := 1) hx hb dX12_steps_121 (by decide) ?_
      refine lv_icmp_ne (tgt := 129) hx hb dX12_steps_122 (by decide) (fun c31 => ?_) (fun c31 => ?_)
      · have c31 : ¬ v104_2.toInt = (1 : Int) := wk_eqF c31
        refine lv_iconst (v := 0) hx hb dX12_steps_129 (by decide) ?_
        exact tk_zret hC hr rfl hlocks hK ⟨hT, hF, (Or.inl rfl)⟩ hw dX12_steps_130
      · have c31 : v104_2.toInt = (1 : Int) := wk_eq.mp c31
        exact J125 v104_2 v104_3 f104_0_31 H locs ls w26 (show 0 ≤ a1.toInt from r13) (show a1.toInt ≤ 3 from t14) (show 0 ≤ v104_2.toInt by omega) (show v104_2.toInt ≤ 1 by omega) (show 216 ≤ v104_3.toInt from r15) (show v104_3.toInt ≤ 243 from t16) (show v104_3.toInt = 9 * a1.toInt + 216 by omega) (show (-1) ≤ f104_0_31.toInt from r18) (show f104_0_31.toInt ≤ 11 from t19)  hw hT hF hRW c29 (lv_sub hl [0, 1, 2, 3] rfl)
  have J92 : ∀ (v92_2 : Int32) (v92_3 : Int32) (f92_0_31 : Int32) (H : Heap) (locs : List Loc) (ls : Array Slot) (w32 : va_W), 0 ≤ a1.toInt → a1.toInt ≤ 3 → 216 ≤ v92_3.toInt → v92_3.toInt ≤ 243 → v92_3.toInt = 9 * a1.toInt + 216 → (-1) ≤ f92_0_31.toInt → f92_0_31.toInt ≤ 11 → Wd dC dI A s.heap H locs w32 → TW ksM ad cy B qr 12 w32 → FE ksM [(12, 24, 24), (12, 31, 31), (69, 0, 64), (70, 0, 10), (71, 216, 243), (71, 220, 247), (71, 221, 248), (71, 222, 249), (71, 223, 250), (71, 224, 251), (72, 0, 12), (73, 0, 10)] w0 w32 → RW w32 → gi w32 0 31 = f92_0_31 → lv_has ls 4 [(0, .ref (ad 0)), (1, .int a1), (2, .int v92_2), (3, .int v92_3)] → W p l e ({ frames := 8, cells := 0, slots := 0, locals := 171 }) s m (List.toArray [.ref (ad 0), .int a1]) below meth c H locs 0 0 (MQ below (va_Qi (P_X12_steps_1 ad cy B qr s1 a1 w0) (fun u : va_W => wpost dC dI cy A u) A) (List.toArray [.ref (ad 0), .int a1]) s 0 0 A) (F0 m 92 ls []) := by
    intro v92_2 v92_3 f92_0_31 H locs ls w32 r33 t34 r35 t36 l37 r38 t39 hw hT hF hRW c40 hl
    refine lv_aload_n hx hb dX12_steps_92 rfl (lv_at hl 0 rfl) ?_
    refine tk_getA hC hK hw hT hinX12 kM_at0 (by decide) rfl 26 (by decide) (List.mem_cons_of_mem _ uw_7_1) rfl rfl dX12_steps_93 ?_
    refine lv_iload_n hx hb dX12_steps_96 rfl (lv_at hl 3 rfl) ?_
    refine lv_iconst (v := 4) hx hb dX12_steps_97 (by decide) ?_
    refine lv_iadd hx hb dX12_steps_98 ?_
    refine lv_topi (fun x41 ex41 => ?_)
    have ex41 : x41.toInt = v92_3.toInt + (4 : Int) := by rw [ex41]; exact wk_add (show (-2147483648) ≤ v92_3.toInt + (4 : Int) by omega) (show v92_3.toInt + (4 : Int) ≤ 2147483647 by omega)
    refine lv_dup2_11 hx hb dX12_steps_99 rfl rfl ?_
    refine tk_ialdR hC hK hw hT kM_at12 rfl (show 0 ≤ x41.toInt by omega) (show x41.toInt < 296 by omega) dX12_steps_100 (fun x42 c43 Ex42 => ?_)
    have c43 : gi w32 12 (9 * a1.toInt + 220).toNat = x42 := (congrArg (gi w32 12) (congrArg Int.toNat (show 9 * a1.toInt + 220 = x41.toInt by omega))).trans c43
    have bx42 := (tk_rgB rfl 220 9 4 (by decide +kernel) ⟨(a1.toInt - 0).toNat, by omega, show x41.toInt.toNat = 220 + 9 * (a1.toInt - 0).toNat by omega⟩).mp Ex42
    refine lv_iconst (v := 1) hx hb dX12_steps_101 (by decide) ?_
    refine lv_iadd hx hb dX12_steps_102 ?_
    refine lv_topi (fun x44 ex44 => ?_)
    have ex44 : x44.toInt = x42.toInt + (1 : Int) := by rw [ex44]; exact wk_add (show (-2147483648) ≤ x42.toInt + (1 : Int) by omega) (show x42.toInt + (1 : Int) ≤ 2147483647 by omega)
    have hT := hT.up (show B ≤ (B + 1) by omega)
    refine tk_iastR hC hK hw hT kM_at12 (by decide) rfl (show 0 ≤ x41.toInt by omega) (show x41.toInt < 296 by omega) ((tk_rgB rfl 220 9 4 (by decide +kernel) ⟨(a1.toInt - 0).toNat, by omega, show x41.toInt.toNat = 220 + 9 * (a1.toInt - 0).toNat by omega⟩).mpr ⟨(show 0 ≤ x44.toInt by omega), (show x44.toInt ≤ (B + 1) by omega)⟩) dX12_steps_103 (fun H locs w45 hw hT k47 c46 => ?_)
    have hRW := RW_F1 k47 (by decide) (by decide) (by decide) hRW
    have hF := hF.put kM_at12 (inE_of (a := 220) (b := 247) (by decide) (show 220 ≤ x41.toInt.toNat by omega) (show x41.toInt.toNat ≤ 247 by omega)) k47
    have c48 := k47.gi (Or.inl (tk_ne kM_at0 kM_at12 (by decide))) c40
    exact J104 v92_2 v92_3 f92_0_31 H locs ls w45 (show 0 ≤ a1.toInt from r33) (show a1.toInt ≤ 3 from t34) (show 216 ≤ v92_3.toInt from r35) (show v92_3.toInt ≤ 243 from t36) (show v92_3.toInt = 9 * a1.toInt + 216 by omega) (show (-1) ≤ f92_0_31.toInt from r38) (show f92_0_31.toInt ≤ 11 from t39)  hw (hT.up (show (B + 1) ≤ (B + 9) by omega)) hF hRW c48 (lv_sub hl [0, 1, 2, 3] rfl)
  refine lv_aload_n hx hb dX12_steps_0 rfl (lv_at hl 0 rfl) ?_
  refine lv_iload_n hx hb dX12_steps_1 rfl (lv_at hl 1 rfl) ?_
  refine tk_Vv hC hK hw hT hA hE hSR kM_at0 (by decide) rfl (k_X12_looks_1 l adK adV dC dI cy ad B (by omega) (by omega) qr s1   a1 (show 0 ≤ a1.toInt from ra1) (show a1.toInt ≤ 3 from ta1) w0 s.heap.size hT ) (cwV 1 hC.2.2.2.2 uV_RX12_405 rfl rfl rfl (by decide +kernel) ⟨Nat.le_of_ble_eq_true rfl, Nat.le_of_ble_eq_true rfl⟩) rfl hl.1 rfl (Nat.le_of_ble_eq_true rfl) dX12_steps_2 (fun w51 H locs hp50 hw => ?_)
  obtain ⟨hT, k52, hg55⟩ := hp50
  have hRW := RW_FE k52 (fun _ => rfl) (fun _ => rfl) (fun _ => rfl) hRW
  have hF := hF.tr k52 (by decide)
  obtain ⟨x53, c54, rx53, tx53⟩ := hg55
  refine lv_aload_n hx hb dX12_steps_5 rfl (lv_at hl 0 rfl) ?_
  refine lv_iload_n hx hb dX12_steps_6 rfl (lv_at hl 1 rfl) ?_
  refine tk_Vi hC hK hw hT hA hE hSR kM_at0 (by decide) rfl (k_X12_doing_1 l adK adV dC dI cy ad B (by omega) (by omega) qr s1   a1 (show 0 ≤ a1.toInt from ra1) (show a1.toInt ≤ 3 from ta1) w51 H.size hT hRW) (cwV 1 hC.2.2.2.2 uV_RX12_408 rfl rfl rfl (by decide +kernel) ⟨Nat.le_of_ble_eq_true rfl, Nat.le_of_ble_eq_true rfl⟩) rfl hl.1 rfl (Nat.le_of_ble_eq_true rfl) dX12_steps_7 (fun r56 w58 H locs hp57 hw => ?_)
  obtain ⟨hT, k59, hg69⟩ := hp57
  have hRW := RW_FE k59 (fun _ => rfl) (fun _ => rfl) (fun _ => rfl) hRW
  have hF := hF.tr k59 (by decide)
  have c70 := k59.gi kM_at0 (by decide) c54
  rcases hg69 with g60 | g61 | ⟨rfl, ⟨x62, c63, rx62, tx62⟩⟩ | ⟨rfl, ⟨x64, c65, rx64, tx64⟩, hq66⟩ | ⟨rfl, ⟨x67, c68, rx67, tx67⟩⟩ | rfl
  · refine lv_istore_n (lv' := [(2, .int r56), (0, .ref (ad 0)), (1, .int a1)]) hx hb dX12_steps_10 rfl hl (by decide) rfl (fun ls hl => ?_)
    refine lv_sipush (v := 216) hx hb dX12_steps_11 (by decide) ?_
    refine lv_bipush (v := 9) hx hb dX12_steps_14 (by decide) ?_
    refine lv_iload_n hx hb dX12_steps_16 rfl (lv_at hl 2 rfl) ?_
    refine lv_imul hx hb dX12_steps_17 ?_
    refine lv_topi (fun x71 ex71 => ?_)
    have ex71 : x71.toInt = (9 : Int) * a1.toInt := by rw [ex71]; exact wk_mul (show (-2147483648) ≤ (9 : Int) * a1.toInt by omega) (show (9 : Int) * a1.toInt ≤ 2147483647 by omega)
    refine lv_iadd hx hb dX12_steps_18 ?_
    refine lv_topi (fun x72 ex72 => ?_)
    have ex72 : x72.toInt = (216 : Int) + x71.toInt := by rw [ex72]; exact wk_add (show (-2147483648) ≤ (216 : Int) + x71.toInt by omega) (show (216 : Int) + x71.toInt ≤ 2147483647 by omega)
    refine lv_istore_n (lv' := [(3, .int x72), (2, .int r56), (0, .ref (ad 0)), (1, .int a1)]) hx hb dX12_steps_19 rfl hl (by decide) rfl (fun ls hl => ?_)
    refine lv_iload_n hx hb dX12_steps_20 rfl (lv_at hl 1 rfl) ?_
    refine lv_if_ne (tgt := 36) hx hb dX12_steps_21 (by decide) (fun _ => ?_) (fun c => absurd (show r56.toInt = (0 : Int) from wk_eq.mp c) (by omega))
    refine lv_iload_n hx hb dX12_steps_36 rfl (lv_at hl 1 rfl) ?_
    refine lv_iconst (v := 1) hx hb dX12_steps_37 (by decide) ?_
    refine lv_icmp_ne (tgt := 54) hx hb dX12_steps_38 (by decide) (fun _ => ?_) (fun c => absurd (show r56.toInt = (1 : Int) from wk_eq.mp c) (by omega))
    refine lv_iload_n hx hb dX12_steps_54 rfl (lv_at hl 1 rfl) ?_
    refine lv_iconst (v := 2) hx hb dX12_steps_55 (by decide) ?_
    refine lv_icmp_ne (tgt := 92) hx hb dX12_steps_56 (by decide) (fun _ => ?_) (fun c => absurd (show r56.toInt = (2 : Int) from wk_eq.mp c) (by omega))
    exact J92 r56 x72 x53 H locs ls w58 (show 0 ≤ a1.toInt from ra1) (show a1.toInt ≤ 3 from ta1) (show 216 ≤ x72.toInt by omega) (show x72.toInt ≤ 243 by omega) (show x72.toInt = 9 * a1.toInt + 216 by omega) (show (-1) ≤ x53.toInt by omega) (show x53.toInt ≤ 11 by omega)  hw hT hF hRW c70 (lv_sub hl [2, 3, 1, 0] rfl)
  · refine lv_istore_n (lv' := [(2, .int r56), (0, .ref (ad 0)), (1, .int a1)]) hx hb dX12_steps_10 rfl hl (by decide) rfl (fun ls hl => ?_)
    refine lv_sipush (v := 216) hx hb dX12_steps_11 (by decide) ?_
    refine lv_bipush (v := 9) hx hb dX12_steps_14 (by decide) ?_
    refine lv_iload_n hx hb dX12_steps_16 rfl (lv_at hl 2 rfl) ?_
    refine lv_imul hx hb dX12_steps_17 ?_
    refine lv_topi (fun x73 ex73 => ?_)
    have ex73 : x73.toInt = (9 : Int) * a1.toInt := by rw [ex73]; exact wk_mul (show (-2147483648) ≤ (9 : Int) * a1.toInt by omega) (show (9 : Int) * a1.toInt ≤ 2147483647 by omega)
    refine lv_iadd hx hb dX12_steps_18 ?_
    refine lv_topi (fun x74 ex74 => ?_)
    have ex74 : x74.toInt = (216 : Int) + x73.toInt := by rw [ex74]; exact wk_add (show (-2147483648) ≤ (216 : Int) + x73.toInt by omega) (show (216 : Int) + x73.toInt ≤ 2147483647 by omega)
    refine lv_istore_n (lv' := [(3, .int x74), (2, .int r56), (0, .ref (ad 0)), (1, .int a1)]) hx hb dX12_steps_19 rfl hl (by decide) rfl (fun ls hl => ?_)
    refine lv_iload_n hx hb dX12_steps_20 rfl (lv_at hl 1 rfl) ?_
    refine lv_if_ne (tgt := 36) hx hb dX12_steps_21 (by decide) (fun _ => ?_) (fun c => absurd (show r56.toInt = (0 : Int) from wk_eq.mp c) (by omega))
    refine lv_iload_n hx hb dX12_steps_36 rfl (lv_at hl 1 rfl) ?_
    refine lv_iconst (v := 1) hx hb dX12_steps_37 (by decide) ?_
    refine lv_icmp_ne (tgt := 54) hx hb dX12_steps_38 (by decide) (fun _ => ?_) (fun c => absurd (show r56.toInt = (1 : Int) from wk_eq.mp c) (by omega))
    refine lv_iload_n hx hb dX12_steps_54 rfl (lv_at hl 1 rfl) ?_
    refine lv_iconst (v := 2) hx hb dX12_steps_55 (by decide) ?_
    refine lv_icmp_ne (tgt := 92) hx hb dX12_steps_56 (by decide) (fun _ => ?_) (fun c => absurd (show r56.toInt = (2 : Int) from wk_eq.mp c) (by omega))
    exact J92 r56 x74 x53 H locs ls w58 (show 0 ≤ a1.toInt from ra1) (show a1.toInt ≤ 3 from ta1) (show 216 ≤ x74.toInt by omega) (show x74.toInt ≤ 243 by omega) (show x74.toInt = 9 * a1.toInt + 216 by omega) (show (-1) ≤ x53.toInt by omega) (show x53.toInt ≤ 11 by omega)  hw hT hF hRW c70 (lv_sub hl [2, 3, 1, 0] rfl)
  · have ex62 : x62.toInt = x53.toInt := by rw [← c70.symm.trans c63]
    refine lv_istore_n (lv' := [(2, .int 0), (0, .ref (ad 0)), (1, .int a1)]) hx hb dX12_steps_10 rfl hl (by decide) rfl (fun ls hl => ?_)
    refine lv_sipush (v := 216) hx hb dX12_steps_11 (by decide) ?_
    refine lv_bipush (v := 9) hx hb dX12_steps_14 (by decide) ?_
    refine lv_iload_n hx hb dX12_steps_16 rfl (lv_at hl 2 rfl) ?_
    refine lv_imul hx hb dX12_steps_17 ?_
    refine lv_topi (fun x75 ex75 => ?_)
    have ex75 : x75.toInt = (9 : Int) * a1.toInt := by rw [ex75]; exact wk_mul (show (-2147483648) ≤ (9 : Int) * a1.toInt by omega) (show (9 : Int) * a1.toInt ≤ 2147483647 by omega)
    refine lv_iadd hx hb dX12_steps_18 ?_
    refine lv_topi (fun x76 ex76 => ?_)
    have ex76 : x76.toInt = (216 : Int) + x75.toInt := by rw [ex76]; exact wk_add (show (-2147483648) ≤ (216 : Int) + x75.toInt by omega) (show (216 : Int) + x75.toInt ≤ 2147483647 by omega)
    refine lv_istore_n (lv' := [(3, .int x76), (2, .int 0), (0, .ref (ad 0)), (1, .int a1)]) hx hb dX12_steps_19 rfl hl (by decide) rfl (fun ls hl => ?_)
    refine lv_iload_n hx hb dX12_steps_20 rfl (lv_at hl 1 rfl) ?_
    refine lv_if_ne (tgt := 36) hx hb dX12_steps_21 (by decide) (fun c => absurd (by decide) c) (fun _ => ?_)
    refine lv_aload_n hx hb dX12_steps_24 rfl (lv_at hl 2 rfl) ?_
    refine lv_iload_n hx hb dX12_steps_25 rfl (lv_at hl 3 rfl) ?_
    refine lv_aload_n hx hb dX12_steps_26 rfl (lv_at hl 2 rfl) ?_
    refine tk_geti hC hK hw hT hinX12 kM_at0 (by decide) rfl 31 (by decide) (List.mem_cons_of_mem _ uw_46_23) rfl rfl dX12_steps_27 (fun x77 c78 rx77 tx77 => ?_)
    refine wk_top x53 (c78.symm.trans c70) ?_
    refine tk_Vv hC hK hw hT hA hE hSR kM_at0 (by decide) rfl (k_X12_takesStreet_1 l adK adV dC dI cy ad B (by omega) (by omega) qr s1   a1 (show 0 ≤ a1.toInt from ra1) (show a1.toInt ≤ 3 from ta1) x53 (show 0 ≤ x53.toInt by omega) (show x53.toInt ≤ 11 by omega) w58 H.size hT ) (cwV 2 hC.2.2.2.2 uV_RX12_411 rfl rfl rfl (by decide +kernel) ⟨Nat.le_of_ble_eq_true rfl, Nat.le_of_ble_eq_true rfl⟩) rfl hl.1 rfl (Nat.le_of_ble_eq_true rfl) dX12_steps_30 (fun w81 H locs hp80 hw => ?_)
    obtain ⟨hT, k82, hg83⟩ := hp80
    have hRW := RW_FE k82 (fun _ => rfl) (fun _ => rfl) (fun _ => rfl) hRW
    have hF := hF.tr k82 (by decide)
    have c84 := k82.gi kM_at0 (by decide) c70
    clear hg83
    refine lv_goto (tgt := 104) hx hb dX12_steps_33 (by decide) ?_
    exact J104 0 x76 x53 H locs ls w81 (show 0 ≤ a1.toInt from ra1) (show a1.toInt ≤ 3 from ta1) (show 216 ≤ x76.toInt by omega) (show x76.toInt ≤ 243 by omega) (show x76.toInt = 9 * a1.toInt + 216 by omega) (show (-1) ≤ x53.toInt by omega) (show x53.toInt ≤ 11 by omega)  hw hT hF hRW c84 (lv_sub hl [2, 3, 1, 0] rfl)
  · refine lv_istore_n (lv' := [(2, .int 1), (0, .ref (ad 0)), (1, .int a1)]) hx hb dX12_steps_10 rfl hl (by decide) rfl (fun ls hl => ?_)
    refine lv_sipush (v := 216) hx hb dX12_steps_11 (by decide) ?_
    refine lv_bipush (v := 9) hx hb dX12_steps_14 (by decide) ?_
    refine lv_iload_n hx hb dX12_steps_16 rfl (lv_at hl 2 rfl) ?_
    refine lv_imul hx hb dX12_steps_17 ?_
    refine lv_topi (fun x85 ex85 => ?_)
    have ex85 : x85.toInt = (9 : Int) * a1.toInt := by rw [ex85]; exact wk_mul (show (-2147483648) ≤ (9 : Int) * a1.toInt by omega) (show (9 : Int) * a1.toInt ≤ 2147483647 by omega)
    refine lv_iadd hx hb dX12_steps_18 ?_
    refine lv_topi (fun x86 ex86 => ?_)
    have ex86 : x86.toInt = (216 : Int) + x85.toInt := by rw [ex86]; exact wk_add (show (-2147483648) ≤ (216 : Int) + x85.toInt by omega) (show (216 : Int) + x85.toInt ≤ 2147483647 by omega)
    refine lv_istore_n (lv' := [(3, .int x86), (2, .int 1), (0, .ref (ad 0)), (1, .int a1)]) hx hb dX12_steps_19 rfl hl (by decide) rfl (fun ls hl => ?_)
    refine lv_iload_n hx hb dX12_steps_20 rfl (lv_at hl 1 rfl) ?_
    refine lv_if_ne (tgt := 36) hx hb dX12_steps_21 (by decide) (fun _ => ?_) (fun c => absurd c (by decide))
    refine lv_iload_n hx hb dX12_steps_36 rfl (lv_at hl 1 rfl) ?_
    refine lv_iconst (v := 1) hx hb dX12_steps_37 (by decide) ?_
    refine lv_icmp_ne (tgt := 54) hx hb dX12_steps_38 (by decide) (fun c => absurd (by decide) c) (fun _ => ?_)
    refine lv_aload_n hx hb dX12_steps_41 rfl (lv_at hl 2 rfl) ?_
    refine lv_iload_n hx hb dX12_steps_42 rfl (lv_at hl 3 rfl) ?_
    refine lv_aload_n hx hb dX12_steps_43 rfl (lv_at hl 2 rfl) ?_
    refine lv_iload_n hx hb dX12_steps_44 rfl (lv_at hl 3 rfl) ?_
    refine tk_Vi hC hK hw hT hA hE hSR kM_at0 (by decide) rfl (k_X12_asideOf_1 l adK adV dC dI cy ad B (by omega) (by omega) qr s1   a1 (show 0 ≤ a1.toInt from ra1) (show a1.toInt ≤ 3 from ta1) w58 H.size hT ) (cwV 1 hC.2.2.2.2 uV_RX12_390 rfl rfl rfl (by decide +kernel) ⟨Nat.le_of_ble_eq_true rfl, Nat.le_of_ble_eq_true rfl⟩) rfl hl.1 rfl (Nat.le_of_ble_eq_true rfl) dX12_steps_45 (fun r87 w89 H locs hp88 hw => ?_)
    obtain ⟨rfl, hg97⟩ := hp88
    rcases hg97 with ⟨g91, g92, ⟨x93, c94, rx93, tx93⟩, hq95⟩ | ⟨rfl, hq96⟩
    · have ex93 : x93.toInt = x64.toInt := by rw [← c65.symm.trans c94]
      refine tk_Vv hC hK hw hT hA hE hSR kM_at0 (by decide) rfl (k_X12_takesStreet_1 l adK adV dC dI cy ad B (by omega) (by omega) qr s1   a1 (show 0 ≤ a1.toInt from ra1) (show a1.toInt ≤ 3 from ta1) r87 (show 0 ≤ r87.toInt by omega) (show r87.toInt ≤ 11 by omega) w58 H.size hT ) (cwV 2 hC.2.2.2.2 uV_RX12_411 rfl rfl rfl (by decide +kernel) ⟨Nat.le_of_ble_eq_true rfl, Nat.le_of_ble_eq_true rfl⟩) rfl hl.1 rfl (Nat.le_of_ble_eq_true rfl) dX12_steps_48 (fun w100 H locs hp99 hw => ?_)
      obtain ⟨hT, k101, hg102⟩ := hp99
      have hRW := RW_FE k101 (fun _ => rfl) (fun _ => rfl) (fun _ => rfl) hRW
      have hF := hF.tr k101 (by decide)
      have c103 := k101.gi kM_at0 (by decide) c70
      have c104 := k101.gi kM_at12 (by decide) c65
      clear hg102
      refine lv_goto (tgt := 104) hx hb dX12_steps_51 (by decide) ?_
      exact J104 1 x86 x53 H locs ls w100 (show 0 ≤ a1.toInt from ra1) (show a1.toInt ≤ 3 from ta1) (show 216 ≤ x86.toInt by omega) (show x86.toInt ≤ 243 by omega) (show x86.toInt = 9 * a1.toInt + 216 by omega) (show (-1) ≤ x53.toInt by omega) (show x53.toInt ≤ 11 by omega)  hw hT hF hRW c103 (lv_sub hl [2, 3, 1, 0] rfl)
    · exact (mAS_no hq66 hq96).elim
  · refine lv_istore_n (lv' := [(2, .int 2), (0, .ref (ad 0)), (1, .int a1)]) hx hb dX12_steps_10 rfl hl (by decide) rfl (fun ls hl => ?_)
    refine lv_sipush (v := 216) hx hb dX12_steps_11 (by decide) ?_
    refine lv_bipush (v := 9) hx hb dX12_steps_14 (by decide) ?_
    refine lv_iload_n hx hb dX12_steps_16 rfl (lv_at hl 2 rfl) ?_
    refine lv_imul hx hb dX12_steps_17 ?_
    refine lv_topi (fun x105 ex105 => ?_)
    have ex105 : x105.toInt = (9 : Int) * a1.toInt := by rw [ex105]; exact wk_mul (show (-2147483648) ≤ (9 : Int) * a1.toInt by omega) (show (9 : Int) * a1.toInt ≤ 2147483647 by omega)
    refine lv_iadd hx hb dX12_steps_18 ?_
    refine lv_topi (fun x106 ex106 => ?_)
    have ex106 : x106.toInt = (216 : Int) + x105.toInt := by rw [ex106]; exact wk_add (show (-2147483648) ≤ (216 : Int) + x105.toInt by omega) (show (216 : Int) + x105.toInt ≤ 2147483647 by omega)
    refine lv_istore_n (lv' := [(3, .int x106), (2, .int 2), (0, .ref (ad 0)), (1, .int a1)]) hx hb dX12_steps_19 rfl hl (by decide) rfl (fun ls hl => ?_)
    refine lv_iload_n hx hb dX12_steps_20 rfl (lv_at hl 1 rfl) ?_
    refine lv_if_ne (tgt := 36) hx hb dX12_steps_21 (by decide) (fun _ => ?_) (fun c => absurd c (by decide))
    refine lv_iload_n hx hb dX12_steps_36 rfl (lv_at hl 1 rfl) ?_
    refine lv_iconst (v := 1) hx hb dX12_steps_37 (by decide) ?_
    refine lv_icmp_ne (tgt := 54) hx hb dX12_steps_38 (by decide) (fun _ => ?_) (fun c => absurd c (by decide))
    refine lv_iload_n hx hb dX12_steps_54 rfl (lv_at hl 1 rfl) ?_
    refine lv_iconst (v := 2) hx hb dX12_steps_55 (by decide) ?_
    refine lv_icmp_ne (tgt := 92) hx hb dX12_steps_56 (by decide) (fun c => absurd (by decide) c) (fun _ => ?_)
    refine lv_aload_n hx hb dX12_steps_59 rfl (lv_at hl 2 rfl) ?_
    refine tk_getA hC hK hw hT hinX12 kM_at0 (by decide) rfl 26 (by decide) (List.mem_cons_of_mem _ uw_7_1) rfl rfl dX12_steps_60 ?_
    refine lv_iload_n hx hb dX12_steps_63 rfl (lv_at hl 0 rfl) ?_
    refine lv_bipush (v := 8) hx hb dX12_steps_64 (by decide) ?_
    refine lv_iadd hx hb dX12_steps_66 ?_
    refine lv_topi (fun x107 ex107 => ?_)
    have ex107 : x107.toInt = x106.toInt + (8 : Int) := by rw [ex107]; exact wk_add (show (-2147483648) ≤ x106.toInt + (8 : Int) by omega) (show x106.toInt + (8 : Int) ≤ 2147483647 by omega)
    refine lv_aload_n hx hb dX12_steps_67 rfl (lv_at hl 2 rfl) ?_
    refine tk_getA hC hK hw hT hinX12 kM_at0 (by decide) rfl 26 (by decide) (List.mem_cons_of_mem _ uw_7_1) rfl rfl dX12_steps_68 ?_
    refine lv_iload_n hx hb dX12_steps_71 rfl (lv_at hl 0 rfl) ?_
    refine lv_iconst (v := 4) hx hb dX12_steps_72 (by decide) ?_
    refine lv_iadd hx hb dX12_steps_73 ?_
    refine lv_topi (fun x108 ex108 => ?_)
    have ex108 : x108.toInt = x106.toInt + (4 : Int) := by rw [ex108]; exact wk_add (show (-2147483648) ≤ x106.toInt + (4 : Int) by omega) (show x106.toInt + (4 : Int) ≤ 2147483647 by omega)
    refine tk_ialdR hC hK hw hT kM_at12 rfl (show 0 ≤ x108.toInt by omega) (show x108.toInt < 296 by omega) dX12_steps_74 (fun x109 c110 Ex109 => ?_)
    have c110 : gi w58 12 (9 * a1.toInt + 220).toNat = x109 := (congrArg (gi w58 12) (congrArg Int.toNat (show 9 * a1.toInt + 220 = x108.toInt by omega))).trans c110
    have bx109 := (tk_rgB rfl 220 9 4 (by decide +kernel) ⟨(a1.toInt - 0).toNat, by omega, show x108.toInt.toNat = 220 + 9 * (a1.toInt - 0).toNat by omega⟩).mp Ex109
    refine lv_bipush (v := 24) hx hb dX12_steps_75 (by decide) ?_
    refine lv_idiv hx hb dX12_steps_77 (by decide) ?_
    refine lv_topi (fun x111 ex111 => ?_)
    have ex111 : x111.toInt = x109.toInt / (24 : Int) := by rw [ex111]; exact wk_div (show 0 ≤ x109.toInt by omega) (show 0 < (24 : Int) by decide)
    refine tk_iastR hC hK hw hT kM_at12 (by decide) rfl (show 0 ≤ x107.toInt by omega) (show x107.toInt < 296 by omega) (tk_rgS rfl 224 9 4 0 44739242 (by decide +kernel) ⟨(a1.toInt - 0).toNat, by omega, show x107.toInt.toNat = 224 + 9 * (a1.toInt - 0).toNat by omega⟩ (show 0 ≤ x111.toInt by omega) (show x111.toInt ≤ 44739242 by omega)) dX12_steps_78 (fun H locs w112 hw hT k114 c113 => ?_)
    have hRW := RW_F1 k114 (by decide) (by decide) (by decide) hRW
    have hF := hF.put kM_at12 (inE_of (a := 224) (b := 251) (by decide) (show 224 ≤ x107.toInt.toNat by omega) (show x107.toInt.toNat ≤ 251 by omega)) k114
    have c115 := k114.gi (Or.inl (tk_ne kM_at0 kM_at12 (by decide))) c70
    have c116 := k114.gi (Or.inl (tk_ne kM_at0 kM_at12 (by decide))) c68
    refine lv_aload_n hx hb dX12_steps_79 rfl (lv_at hl 2 rfl) ?_
    refine tk_getA hC hK hw hT hinX12 kM_at0 (by decide) rfl 26 (by decide) (List.mem_cons_of_mem _ uw_7_1) rfl rfl dX12_steps_80 ?_
    refine lv_iload_n hx hb dX12_steps_83 rfl (lv_at hl 0 rfl) ?_
    refine lv_bipush (v := 6) hx hb dX12_steps_84 (by decide) ?_
    refine lv_iadd hx hb dX12_steps_86 ?_
    refine lv_topi (fun x117 ex117 => ?_)
    have ex117 : x117.toInt = x106.toInt + (6 : Int) := by rw [ex117]; exact wk_add (show (-2147483648) ≤ x106.toInt + (6 : Int) by omega) (show x106.toInt + (6 : Int) ≤ 2147483647 by omega)
    refine lv_dup2_11 hx hb dX12_steps_87 rfl rfl ?_
    refine tk_ialdR hC hK hw hT kM_at12 rfl (show 0 ≤ x117.toInt by omega) (show x117.toInt < 296 by omega) dX12_steps_88 (fun x118 c119 Ex118 => ?_)
    have c119 : gi w112 12 (9 * a1.toInt + 222).toNat = x118 := (congrArg (gi w112 12) (congrArg Int.toNat (show 9 * a1.toInt + 222 = x117.toInt by omega))).trans c119
    refine lv_iconst (v := 1) hx hb dX12_steps_89 (by decide) ?_
    refine lv_iadd hx hb dX12_steps_90 ?_
    have nx120 := wk_i32 x118
    refine lv_topi (fun x121 ex121 => ?_)
    refine tk_iastR hC hK hw hT kM_at12 (by decide) rfl (show 0 ≤ x117.toInt by omega) (show x117.toInt < 296 by omega) (tk_rgS rfl 222 9 4 (-2147483648) 2147483647 (by decide +kernel) ⟨(a1.toInt - 0).toNat, by omega, show x117.toInt.toNat = 222 + 9 * (a1.toInt - 0).toNat by omega⟩ (wk_i32 x121).1 (wk_i32 x121).2) dX12_steps_91 (fun H locs w122 hw hT k124 c123 => ?_)
    have hRW := RW_F1 k124 (by decide) (by decide) (by decide) hRW
    have hF := hF.put kM_at12 (inE_of (a := 222) (b := 249) (by decide) (show 222 ≤ x117.toInt.toNat by omega) (show x117.toInt.toNat ≤ 249 by omega)) k124
    have c125 := k124.gi (Or.inl (tk_ne kM_at0 kM_at12 (by decide))) c115
    have c126 := k124.gi (Or.inl (tk_ne kM_at0 kM_at12 (by decide))) c116
    exact J92 2 x106 x53 H locs ls w122 (show 0 ≤ a1.toInt from ra1) (show a1.toInt ≤ 3 from ta1) (show 216 ≤ x106.toInt by omega) (show x106.toInt ≤ 243 by omega) (show x106.toInt = 9 * a1.toInt + 216 by omega) (show (-1) ≤ x53.toInt by omega) (show x53.toInt ≤ 11 by omega)  hw hT hF hRW c125 (lv_sub hl [2, 3, 1, 0] rfl)
  · refine lv_istore_n (lv' := [(2, .int 3), (0, .ref (ad 0)), (1, .int a1)]) hx hb dX12_steps_10 rfl hl (by decide) rfl (fun ls hl => ?_)
    refine lv_sipush (v := 216) hx hb dX12_steps_11 (by decide) ?_
    refine lv_bipush (v := 9) hx hb dX12_steps_14 (by decide) ?_
    refine lv_iload_n hx hb dX12_steps_16 rfl (lv_at hl 2 rfl) ?_
    refine lv_imul hx hb dX12_steps_17 ?_
    refine lv_topi (fun x127 ex127 => ?_)
    have ex127 : x127.toInt = (9 : Int) * a1.toInt := by rw [ex127]; exact wk_mul (show (-2147483648) ≤ (9 : Int) * a1.toInt by omega) (show (9 : Int) * a1.toInt ≤ 2147483647 by omega)
    refine lv_iadd hx hb dX12_steps_18 ?_
    refine lv_topi (fun x128 ex128 => ?_)
    have ex128 : x128.toInt = (216 : Int) + x127.toInt := by rw [ex128]; exact wk_add (show (-2147483648) ≤ (216 : Int) + x127.toInt by omega) (show (216 : Int) + x127.toInt ≤ 2147483647 by omega)
    refine lv_istore_n (lv' := [(3, .int x128), (2, .int 3), (0, .ref (ad 0)), (1, .int a1)]) hx hb dX12_steps_19 rfl hl (by decide) rfl (fun ls hl => ?_)
    refine lv_iload_n hx hb dX12_steps_20 rfl (lv_at hl 1 rfl) ?_
    refine lv_if_ne (tgt := 36) hx hb dX12_steps_21 (by decide) (fun _ => ?_) (fun c => absurd c (by decide))
    refine lv_iload_n hx hb dX12_steps_36 rfl (lv_at hl 1 rfl) ?_
    refine lv_iconst (v := 1) hx hb dX12_steps_37 (by decide) ?_
    refine lv_icmp_ne (tgt := 54) hx hb dX12_steps_38 (by decide) (fun _ => ?_) (fun c => absurd c (by decide))
    refine lv_iload_n hx hb dX12_steps_54 rfl (lv_at hl 1 rfl) ?_
    refine lv_iconst (v := 2) hx hb dX12_steps_55 (by decide) ?_
    refine lv_icmp_ne (tgt := 92) hx hb dX12_steps_56 (by decide) (fun _ => ?_) (fun c => absurd c (by decide))
    exact J92 3 x128 x53 H locs ls w58 (show 0 ≤ a1.toInt from ra1) (show a1.toInt ≤ 3 from ta1) (show 216 ≤ x128.toInt by omega) (show x128.toInt ≤ 243 by omega) (show x128.toInt = 9 * a1.toInt + 216 by omega) (show (-1) ≤ x53.toInt by omega) (show x53.toInt ≤ 11 by omega)  hw hT hF hRW c70 (lv_sub hl [2, 3, 1, 0] rfl)
abbrev P_X12_step_1 (ad : Nat → Nat) (cy : Nat → ClassId) (B : Int) (qr : Nat) (s1 : Int) (a1 : Int32) (a2 : Int32) (w0 : va_W) : Int32 → va_W → Prop := fun r u => TW ksM ad cy (B + 1800) qr 12 u ∧ FE ksM [(12, 24, 24), (12, 31, 31), (69, 0, 64), (70, 0, 10), (71, 216, 243), (71, 220, 247), (71, 221, 248), (71, 222, 249), (71, 223, 250), (71, 224, 251), (72, 0, 12), (73, 0, 10)] w0 u ∧ ((0 ≤ r.toInt ∧ r.toInt ≤ 9 ∧ 0 ≤ a1.toInt ∧ a1.toInt ≤ 3 ∧ 1 ≤ a2.toInt ∧ a2.toInt ≤ 200 ∧ (∃ y : Int32, gi u 12 5 = y ∧ 1 ≤ y.toInt ∧ y.toInt ≤ 4)) ∨ (r = (-1)))
set_option maxHeartbeats 4000000 in
set_option maxRecDepth 100000 in
theorem k_X12_step_1 (l : Launch) (adK adV : Nat → Nat) (dC : Nat → ClassId) (dI : Nat → Nat → Nat) (cy : Nat → ClassId) (ad : Nat → Nat) (B : Int) (hB0 : 100000 ≤ B) (hB1 : B ≤ 1073740024) (qr : Nat) (s1 : Int)  (a1 : Int32) (a2 : Int32) (w0 : va_W) (sz : Nat) (hT : TW ksM ad cy B qr 12 w0) (hRW : RW w0) : Met l yX12_step (wu yX12_step cX12_step 4 (some .int)) ({ frames := 9, cells := 0, slots := 0, locals := 194 }) (va_Pc [.ref (ad 0), .int a1, .int a2] (wpreS adK adV dC dI cy sz w0)) (va_Qi (P_X12_step_1 ad cy B qr s1 a1 a2 w0) (fun u : va_W => wpost dC dI cy (va_A w0 sz) u) (va_A w0 sz)) 0 0 (va_A w0 sz) := by
  refine Met.ofW (cc := cX12_step) (maxL := 4) (ret := (some .int)) (by decide) rfl ?_
  intro p e s m args below meth c s₁ Bk hml hv
  obtain ⟨rfl, ⟨hsz, hP, hK, hD0⟩, hE, hSR⟩ := hv
  have hx := Bk.exec
  have hb := Bk.bytes
  have hr := Bk.returns
  have hlocks := Bk.notSynchronized
  have hC : CallFix p m c cX12_step 4 s _ (wu yX12_step cX12_step 4 (some .int)) RX12 := ⟨hx, hb, hml, findClass_of_methodNamed Bk.named, atoms_spec (ws := (wu yX12_step cX12_step 4 (some .int))) Bk.pre⟩
  subst hsz
  have hD := hD0.self (sz := s.heap.size)
  generalize hAe : va_A w0 s.heap.size = A at hD hE ⊢
  have hA : ∀ q : Nat, s.heap.size ≤ q → A q := fun q h => by rw [← hAe]; exact Or.inr h
  have hw : Wd dC dI A s.heap s.heap [] w0 := ⟨hP, hD, va_S.rf⟩
  have hF : FE ksM [(12, 24, 24), (12, 31, 31), (69, 0, 64), (70, 0, 10), (71, 216, 243), (71, 220, 247), (71, 221, 248), (71, 222, 249), (71, 223, 250), (71, 224, 251), (72, 0, 12), (73, 0, 10)] w0 w0 := FE.rf
  have hl := lv_entry ([.ref (ad 0), .int a1, .int a2]) (n := 4) (Nat.le_of_ble_eq_true rfl)
  rw [lg_entry_eq]
  generalize (lg_sl ([.ref (ad 0), .int a1, .int a2]) ++ List.replicate (4 - (lg_sl ([.ref (ad 0), .int a1, .int a2])).length) Slot.unset).toArray = ls at hl ⊢
  have hl : lv_has ls 4 [(0, .ref (ad 0)), (1, .int a1), (2, .int a2)] := hl
  generalize hloc : ([] : List Loc) = locs at hw ⊢
  have J20 : ∀ (H : Heap) (locs : List Loc) (ls : Array Slot) (w1 : va_W), Wd dC dI A s.heap H locs w1 → TW ksM ad cy B qr 12 w1 → FE ksM [(12, 24, 24), (12, 31, 31), (69, 0, 64), (70, 0, 10), (71, 216, 243), (71, 220, 247), (71, 221, 248), (71, 222, 249), (71, 223, 250), (71, 224, 251), (72, 0, 12), (73, 0, 10)] w0 w1 → RW w1 → lv_has ls 4 [(0, .ref (ad 0)), (1, .int a1), (2, .int a2)] → W p l e ({ frames := 9, cells := 0, slots := 0, locals := 194 }) s m (List.toArray [.ref (ad 0), .int a1, .int a2]) below meth c H locs 0 0 (MQ below (va_Qi (P_X12_step_1 ad cy B qr s1 a1 a2 w0) (fun u : va_W => wpost dC dI cy A u) A) (List.toArray [.ref (ad 0), .int a1, .int a2]) s 0 0 A) (F0 m 20 ls []) := by
    intro H locs ls w1 hw hT hF hRW hl
    refine lv_iconst (v := (-1)) hx hb dX12_step_20 (by decide) ?_
    exact tk_iret hC hr hlocks hK ⟨(hT.up (show B ≤ (B + 1800) by omega)), hF, (Or.inr rfl)⟩ hw dX12_step_21
  have J49 : ∀ (v49_3 : Int32) (f49_12_5 : Int32) (H : Heap) (locs : List Loc) (ls : Array Slot) (w2 : va_W), 0 ≤ a1.toInt → a1.toInt ≤ 3 → 1 ≤ a2.toInt → a2.toInt ≤ 200 → 0 ≤ v49_3.toInt → v49_3.toInt ≤ 200 → 1 ≤ f49_12_5.toInt → f49_12_5.toInt ≤ 4 → Wd dC dI A s.heap H locs w2 → TW ksM ad cy (B + 1800) qr 12 w2 → FE ksM [(12, 24, 24), (12, 31, 31), (69, 0, 64), (70, 0, 10), (71, 216, 243), (71, 220, 247), (71, 221, 248), (71, 222, 249), (71, 223, 250), (71, 224, 251), (72, 0, 12), (73, 0, 10)] w0 w2 → RW w2 → gi w2 12 5 = f49_12_5 → lv_has ls 4 [(0, .ref (ad 0)), (1, .int a1), (2, .int a2), (3, .int v49_3)] → W p l e ({ frames := 9, cells := 0, slots := 0, locals := 194 }) s m (List.toArray [.ref (ad 0), .int a1, .int a2]) below meth c H locs 0 0 (MQ below (va_Qi (P_X12_step_1 ad cy B qr s1 a1 a2 w0) (fun u : va_W => wpost dC dI cy A u) A) (List.toArray [.ref (ad 0), .int a1, .int a2]) s 0 0 A) (F0 m 49 ls []) := by
    intro v49_3 f49_12_5 H locs ls w2 r3 t4 r5 t6 r7 t8 r9 t10 hw hT hF hRW c11 hl
    refine lv_aload_n hx hb dX12_step_49 rfl (lv_at hl 0 rfl) ?_
    refine lv_iload_n hx hb dX12_step_50 rfl (lv_at hl 1 rfl) ?_
    refine lv_iconst (v := 0) hx hb dX12_step_51 (by decide) ?_
    refine tk_Vi hC hK hw hT hA hE hSR kM_at0 (by decide) rfl (k_X12_walkerOf_2 l adK adV dC dI cy ad (B + 1800) (by omega) (by omega) qr s1   a1 (show 0 ≤ a1.toInt from r3) (show a1.toInt ≤ 3 from t4) w2 H.size hT ) (cwV 2 hC.2.2.2.2 uV_RX12_372 rfl rfl rfl (by decide +kernel) ⟨Nat.le_of_ble_eq_true rfl, Nat.le_of_ble_eq_true rfl⟩) rfl hl.1 rfl (Nat.le_of_ble_eq_true rfl) dX12_step_52 (fun r12 w14 H locs hp13 hw => ?_)
    obtain ⟨rfl, hg19⟩ := hp13
    obtain ⟨g16, g17, c18⟩ := hg19
    exact tk_iret hC hr hlocks hK ⟨hT, hF, (Or.inl ⟨(show 0 ≤ r12.toInt by omega), (show r12.toInt ≤ 9 by omega), (show 0 ≤ a1.toInt from r3), (show a1.toInt ≤ 3 from t4), (show 1 ≤ a2.toInt from r5), (show a2.toInt ≤ 200 from t6), ⟨f49_12_5, c11, (show 1 ≤ f49_12_5.toInt from r9), (show f49_12_5.toInt ≤ 4 from t10)⟩⟩)⟩ hw dX12_step_55
  have L24 : ∀ (n24 : Nat) (v24_3 : Int32) (f24_12_5 : Int32) (H : Heap) (locs : List Loc) (ls : Array Slot) (w20 : va_W), 0 ≤ a1.toInt → a1.toInt ≤ 3 → 1 ≤ a2.toInt → a2.toInt ≤ 200 → 0 ≤ v24_3.toInt → v24_3.toInt ≤ 200 → 1 ≤ f24_12_5.toInt → f24_12_5.toInt ≤ 4 → (200 - v24_3.toInt).toNat < n24 → Wd dC dI A s.heap H locs w20 → TW ksM ad cy (B + 0 + 9 * v24_3.toInt) qr 12 w20 → FE ksM [(12, 24, 24), (12, 31, 31), (69, 0, 64), (70, 0, 10), (71, 216, 243), (71, 220, 247), (71, 221, 248), (71, 222, 249), (71, 223, 250), (71, 224, 251), (72, 0, 12), (73, 0, 10)] w0 w20 → RW w20 → gi w20 12 5 = f24_12_5 → lv_has ls 4 [(0, .ref (ad 0)), (1, .int a1), (2, .int a2), (3, .int v24_3)] → W p l e ({ frames := 9, cells := 0, slots := 0, locals := 194 }) s m (List.toArray [.ref (ad 0), .int a1, .int a2]) below meth c H locs 0 0 (MQ below (va_Qi (P_X12_step_1 ad cy B qr s1 a1 a2 w0) (fun u : va_W => wpost dC dI cy A u) A) (List.toArray [.ref (ad 0), .int a1, .int a2]) s 0 0 A) (F0 m 24 ls []) := by
    intro n24
    induction n24 with
    | zero => intro v24_3 f24_12_5 H locs ls w20 r21 t22 r23 t24 r25 t26 r27 t28 hm24 hw hT hF hRW c29 hl; omega
    | succ n24 ih24 =>
      intro v24_3 f24_12_5 H locs ls w20 r21 t22 r23 t24 r25 t26 r27 t28 hm24 hw hT hF hRW c29 hl
      refine lv_iload_n hx hb dX12_step_24 rfl (lv_at hl 3 rfl) ?_
      refine lv_iload_n hx hb dX12_step_25 rfl (lv_at hl 2 rfl) ?_
      refine lv_icmp_ge (tgt := 49) hx hb dX12_step_26 (by decide) (fun c30 => ?_) (fun c30 => ?_)
      · have c30 : a2.toInt ≤ v24_3.toInt := wk_le.mp c30
        exact J49 v24_3 f24_12_5 H locs ls w20 (show 0 ≤ a1.toInt from r21) (show a1.toInt ≤ 3 from t22) (show 1 ≤ a2.toInt from r23) (show a2.toInt ≤ 200 from t24) (show 0 ≤ v24_3.toInt from r25) (show v24_3.toInt ≤ 200 from t26) (show 1 ≤ f24_12_5.toInt from r27) (show f24_12_5.toInt ≤ 4 from t28)  hw (hT.up (show (B + 0 + 9 * v24_3.toInt) ≤ (B + 1800) by omega)) hF hRW c29 (lv_sub hl [0, 1, 2, 3] rfl)
      · have c30 : v24_3.toInt < a2.toInt := wk_leF c30
        refine lv_aload_n hx hb dX12_step_29 rfl (lv_at hl 0 rfl) ?_
        refine lv_iload_n hx hb dX12_step_30 rfl (lv_at hl 1 rfl) ?_
        refine tk_Vi hC hK hw hT hA hE hSR kM_at0 (by decide) rfl (k_X12_isThere_1 l adK adV dC dI cy ad (B + 0 + 9 * v24_3.toInt) (by omega) (by omega) qr s1   a1 (show 0 ≤ a1.toInt from r21) (show a1.toInt ≤ 3 from t22) w20 H.size hT ) (cwV 1 hC.2.2.2.2 uV_RX12_416 rfl rfl rfl (by decide +kernel) ⟨Nat.le_of_ble_eq_true rfl, Nat.le_of_ble_eq_true rfl⟩) rfl hl.1 rfl (Nat.le_of_ble_eq_true rfl) dX12_step_31 (fun r31 w33 H locs hp32 hw => ?_)
        obtain ⟨rfl, hg35⟩ := hp32
        rcases hg35 with rfl | rfl
        · refine lv_if_ne (tgt := 49) hx hb dX12_step_34 (by decide) (fun c => absurd (by decide) c) (fun _ => ?_)
          refine lv_aload_n hx hb dX12_step_37 rfl (lv_at hl 0 rfl) ?_
          refine lv_iload_n hx hb dX12_step_38 rfl (lv_at hl 1 rfl) ?_
          refine tk_Vi hC hK hw hT hA hE hSR kM_at0 (by decide) rfl (k_X12_steps_1 l adK adV dC dI cy ad (B + 0 + 9 * v24_3.toInt) (by omega) (by omega) qr s1   a1 (show 0 ≤ a1.toInt from r21) (show a1.toInt ≤ 3 from t22) w20 H.size hT hRW) (cwV 1 hC.2.2.2.2 uV_RX12_419 rfl rfl rfl (by decide +kernel) ⟨Nat.le_of_ble_eq_true rfl, Nat.le_of_ble_eq_true rfl⟩) rfl hl.1 rfl (Nat.le_of_ble_eq_true rfl) dX12_step_39 (fun r36 w38 H locs hp37 hw => ?_)
          obtain ⟨hT, k39, hg40⟩ := hp37
          have hT := hT.up (B' := (B + 9 + 9 * v24_3.toInt)) (by omega)
          have hRW := RW_FE k39 (fun _ => rfl) (fun _ => rfl) (fun _ => rfl) hRW
          have hF := hF.tr k39 (by decide)
          have c41 := k39.gi kM_at12 (by decide) c29
          rcases hg40 with rfl | rfl
          · refine lv_pop hx hb dX12_step_42 rfl ?_
            obtain ⟨x42, ex42⟩ : ∃ y : Int32, y = v24_3 + Int32.ofInt 1 := ⟨_, rfl⟩
            refine lv_iinc (v := x42) (lv' := [(3, .int x42), (0, .ref (ad 0)), (1, .int a1), (2, .int a2)]) hx hb dX12_step_43 hl (k := 3) rfl ex42.symm (by decide) rfl (fun ls hl => ?_)
            have ex42 : x42.toInt = v24_3.toInt + 1 := by rw [ex42]; exact wk_add (y := 1) (show -2147483648 ≤ v24_3.toInt + 1 by omega) (show v24_3.toInt + 1 ≤ 2147483647 by omega)
            refine lv_goto (tgt := 24) hx hb dX12_step_46 (by decide) ?_
            exact ih24 x42 f24_12_5 H locs ls w38 (show 0 ≤ a1.toInt from r21) (show a1.toInt ≤ 3 from t22) (show 1 ≤ a2.toInt from r23) (show a2.toInt ≤ 200 from t24) (show 0 ≤ x42.toInt by omega) (show x42.toInt ≤ 200 by omega) (show 1 ≤ f24_12_5.toInt from r27) (show f24_12_5.toInt ≤ 4 from t28) (show (200 - x42.toInt).toNat < n24 by omega) hw (hT.up (show (B + 9 + 9 * v24_3.toInt) ≤ (B + 0 + 9 * x42.toInt) by omega)) hF hRW c41 (lv_sub hl [1, 2, 3, 0] rfl)
          · refine lv_pop hx hb dX12_step_42 rfl ?_
            obtain ⟨x43, ex43⟩ : ∃ y : Int32, y = v24_3 + Int32.ofInt 1 := ⟨_, rfl⟩
            refine lv_iinc (v := x43) (lv' := [(3, .int x43), (0, .ref (ad 0)), (1, .int a1), (2, .int a2)]) hx hb dX12_step_43 hl (k := 3) rfl ex43.symm (by decide) rfl (fun ls hl => ?_)
            have ex43 : x43.toInt = v24_3.toInt + 1 := by rw [ex43]; exact wk_add (y := 1) (show -2147483648 ≤ v24_3.toInt + 1 by omega) (show v24_3.toInt + 1 ≤ 2147483647 by omega)
            refine lv_goto (tgt := 24) hx hb dX12_step_46 (by decide) ?_
            exact ih24 x43 f24_12_5 H locs ls w38 (show 0 ≤ a1.toInt from r21) (show a1.toInt ≤ 3 from t22) (show 1 ≤ a2.toInt from r23) (show a2.toInt ≤ 200 from t24) (show 0 ≤ x43.toInt by omega) (show x43.toInt ≤ 200 by omega) (show 1 ≤ f24_12_5.toInt from r27) (show f24_12_5.toInt ≤ 4 from t28) (show (200 - x43.toInt).toNat < n24 by omega) hw (hT.up (show (B + 9 + 9 * v24_3.toInt) ≤ (B + 0 + 9 * x43.toInt) by omega)) hF hRW c41 (lv_sub hl [1, 2, 3, 0] rfl)
        · refine lv_if_ne (tgt := 49) hx hb dX12_step_34 (by decide) (fun _ => ?_) (fun c => absurd c (by decide))
          exact J49 v24_3 f24_12_5 H locs ls w20 (show 0 ≤ a1.toInt from r21) (show a1.toInt ≤ 3 from t22) (show 1 ≤ a2.toInt from r23) (show a2.toInt ≤ 200 from t24) (show 0 ≤ v24_3.toInt from r25) (show v24_3.toInt ≤ 200 from t26) (show 1 ≤ f24_12_5.toInt from r27) (show f24_12_5.toInt ≤ 4 from t28)  hw (hT.up (show (B + 0 + 9 * v24_3.toInt) ≤ (B + 1800) by omega)) hF hRW c29 (lv_sub hl [0, 1, 2, 3] rfl)
  refine lv_aload_n hx hb dX12_step_0 rfl (lv_at hl 0 rfl) ?_
  refine lv_iload_n hx hb dX12_step_1 rfl (lv_at hl 1 rfl) ?_
  refine tk_Vi hC hK hw hT hA hE hSR kM_at0 (by decide) rfl (k_X12_isWalker_1 l adK adV dC dI cy ad B (by omega) (by omega) qr s1   a1 w0 s.heap.size hT ) (cwV 1 hC.2.2.2.2 uV_RX12_367 rfl rfl rfl (by decide +kernel) ⟨Nat.le_of_ble_eq_true rfl, Nat.le_of_ble_eq_true rfl⟩) rfl hl.1 rfl (Nat.le_of_ble_eq_true rfl) dX12_step_2 (fun r44 w46 H locs hp45 hw => ?_)
  obtain ⟨rfl, hg52⟩ := hp45
  rcases hg52 with rfl | ⟨rfl, g48, g49, ⟨x50, c51, rx50, tx50⟩⟩
  · refine lv_if_eq (tgt := 20) hx hb dX12_step_5 (by decide) (fun _ => ?_) (fun c => absurd (by decide) c)
    exact J20  H locs ls w0   hw hT hF hRW  (lv_sub hl [0, 1, 2] rfl)
  · refine lv_if_eq (tgt := 20) hx hb dX12_step_5 (by decide) (fun c => absurd c (by decide)) (fun _ => ?_)
    refine lv_iload_n hx hb dX12_step_8 rfl (lv_at hl 2 rfl) ?_
    refine lv_i2l hx hb dX12_step_9 rfl ?_
    refine lv_topl (fun x53 ex53 => ?_)
    have ex53 : x53.toInt = a2.toInt := by rw [ex53]; exact wk_i2l _
    have bx53 := wk_i32 a2
    refine lv_lconst (v := 1) hx hb dX12_step_10 (by decide) ?_
    refine lv_ldc2 (v := 200) hx hb hC.2.2.2.1 (hC.2.2.2.2 _ (List.mem_cons_of_mem _ uw_46_14)) dX12_step_11 ?_
    refine tk_Si hC hK hw hT hA hE hSR (k_X12_in_14 l adK adV dC dI cy ad B (by omega) (by omega) qr s1   x53 (show (-2147483648) ≤ x53.toInt by omega) (show x53.toInt ≤ 2147483647 by omega) w0 H.size hT ) (va_cwS 3 hC.2.2.2.2 uS_RX12_122 rfl rfl rfl (by decide +kernel) ⟨Nat.le_of_ble_eq_true rfl, Nat.le_of_ble_eq_true rfl⟩) rfl hl.1 rfl (Nat.le_of_ble_eq_true rfl) dX12_step_14 (fun r54 w56 H locs hp55 hw => ?_)
    obtain ⟨rfl, hg60⟩ := hp55
    rcases hg60 with rfl | ⟨rfl, g58, g59⟩
    · refine lv_if_ne (tgt := 22) hx hb dX12_step_17 (by decide) (fun c => absurd (by decide) c) (fun _ => ?_)
      exact J20  H locs ls w0   hw hT hF hRW  (lv_sub hl [0, 1, 2] rfl)
    · refine lv_if_ne (tgt := 22) hx hb dX12_step_17 (by decide) (fun _ => ?_) (fun c => absurd c (by decide))
      refine lv_iconst (v := 0) hx hb dX12_step_22 (by decide) ?_
      refine lv_istore_n (lv' := [(3, .int 0), (0, .ref (ad 0)), (1, .int a1), (2, .int a2)]) hx hb dX12_step_23 rfl hl (by decide) rfl (fun ls hl => ?_)
      exact L24 ((200 - (0 : Int)).toNat + 1) 0 x50 H locs ls w0 (show 0 ≤ a1.toInt by omega) (show a1.toInt ≤ 3 by omega) (show 1 ≤ a2.toInt by omega) (show a2.toInt ≤ 200 by omega) (by decide) (by decide) (show 1 ≤ x50.toInt by omega) (show x50.toInt ≤ 4 by omega) (Nat.lt_succ_self _) hw (hT.up (show B ≤ (B + 0 + 9 * (0 : Int32).toInt) by rw [show (0 : Int32).toInt = 0 by decide]; omega)) hF hRW c51 (lv_sub hl [1, 2, 3, 0] rfl)
abbrev P_X12_canLook_1 (ad : Nat → Nat) (cy : Nat → ClassId) (B : Int) (qr : Nat) (s1 : Int) (a1 : Int32) (a2 : Int32) (a3 : Int32) (w0 : va_W) : Int32 → va_W → Prop := fun r u => w0 = u ∧ ((r = 0) ∨ (r = 1 ∧ 0 ≤ a1.toInt ∧ a1.toInt ≤ 9 ∧ 0 ≤ a2.toInt ∧ a2.toInt ≤ 9 ∧ 0 ≤ a3.toInt ∧ a3.toInt ≤ 99999 ∧ (∃ y : Int32, gi u 12 0 = y ∧ 1 ≤ y.toInt ∧ y.toInt ≤ 10)))
set_option maxHeartbeats 4000000 in
set_option maxRecDepth 100000 in
theorem k_X12_canLook_1 (l : Launch) (adK adV : Nat → Nat) (dC : Nat → ClassId) (dI : Nat → Nat → Nat) (cy : Nat → ClassId) (ad : Nat → Nat) (B : Int) (hB0 : 100000 ≤ B) (hB1 : B ≤ 1073741824) (qr : Nat) (s1 : Int)  (a1 : Int32) (a2 : Int32) (a3 : Int32) (w0 : va_W) (sz : Nat) (hT : TW ksM ad cy B qr 12 w0)  : Met l yX12_canLook (wu yX12_canLook cX12_canLook 4 (some .boolean)) ({ frames := 2, cells := 0, slots := 0, locals := 33 }) (va_Pc [.ref (ad 0), .int a1, .int a2, .int a3] (wpreS adK adV dC dI cy sz w0)) (va_Qi (P_X12_canLook_1 ad cy B qr s1 a1 a2 a3 w0) (fun u : va_W => wpost dC dI cy (va_A w0 sz) u) (va_A w0 sz)) 0 0 (va_A w0 sz) := by
  refine Met.ofW (cc := cX12_canLook) (maxL := 4) (ret := (some .boolean)) (by decide) rfl ?_
  intro p e s m args below meth c s₁ Bk hml hv
  obtain ⟨rfl, ⟨hsz, hP, hK, hD0⟩, hE, hSR⟩ := hv
  have hx := Bk.exec
  have hb := Bk.bytes
  have hr := Bk.returns
  have hlocks := Bk.notSynchronized
  have hC : CallFix p m c cX12_canLook 4 s _ (wu yX12_canLook cX12_canLook 4 (some .boolean)) RX12 := ⟨hx, hb, hml, findClass_of_methodNamed Bk.named, atoms_spec (ws := (wu yX12_canLook cX12_canLook 4 (some .boolean))) Bk.pre⟩
  subst hsz
  have hD := hD0.self (sz := s.heap.size)
  generalize hAe : va_A w0 s.heap.size = A at hD hE ⊢
  have hA : ∀ q : Nat, s.heap.size ≤ q → A q := fun q h => by rw [← hAe]; exact Or.inr h
  have hw : Wd dC dI A s.heap s.heap [] w0 := ⟨hP, hD, va_S.rf⟩
  have hF : FE ksM ([] : List (Nat × Nat × Nat)) w0 w0 := FE.rf
  have hl := lv_entry ([.ref (ad 0), .int a1, .int a2, .int a3]) (n := 4) (Nat.le_of_ble_eq_true rfl)
  rw [lg_entry_eq]
  generalize (lg_sl ([.ref (ad 0), .int a1, .int a2, .int a3]) ++ List.replicate (4 - (lg_sl ([.ref (ad 0), .int a1, .int a2, .int a3])).length) Slot.unset).toArray = ls at hl ⊢
  have hl : lv_has ls 4 [(0, .ref (ad 0)), (1, .int a1), (2, .int a2), (3, .int a3)] := hl
  generalize hloc : ([] : List Loc) = locs at hw ⊢
  have J27 : ∀ (H : Heap) (locs : List Loc) (ls : Array Slot), Wd dC dI A s.heap H locs w0 → lv_has ls 4 [(0, .ref (ad 0)), (1, .int a1), (2, .int a2), (3, .int a3)] → W p l e ({ frames := 2, cells := 0, slots := 0, locals := 33 }) s m (List.toArray [.ref (ad 0), .int a1, .int a2, .int a3]) below meth c H locs 0 0 (MQ below (va_Qi (P_X12_canLook_1 ad cy B qr s1 a1 a2 a3 w0) (fun u : va_W => wpost dC dI cy A u) A) (List.toArray [.ref (ad 0), .int a1, .int a2, .int a3]) s 0 0 A) (F0 m 27 ls []) := by
    intro H locs ls hw hl
    refine lv_iconst (v := 0) hx hb dX12_canLook_27 (by decide) ?_
    exact tk_zret hC hr rfl hlocks hK ⟨rfl, (Or.inl rfl)⟩ hw dX12_canLook_28
  refine lv_aload_n hx hb dX12_canLook_0 rfl (lv_at hl 0 rfl) ?_
  refine lv_iload_n hx hb dX12_canLook_1 rfl (lv_at hl 1 rfl) ?_
  refine tk_Vi hC hK hw hT hA hE hSR kM_at0 (by decide) rfl (k_X12_isCorner_1 l adK adV dC dI cy ad B (by omega) (by omega) qr s1   a1 w0 s.heap.size hT ) (cwV 1 hC.2.2.2.2 uV_RX12_328 rfl rfl rfl (by decide +kernel) ⟨Nat.le_of_ble_eq_true rfl, Nat.le_of_ble_eq_true rfl⟩) rfl hl.1 rfl (Nat.le_of_ble_eq_true rfl) dX12_canLook_2 (fun r1 w3 H locs hp2 hw => ?_)
  obtain ⟨rfl, hg9⟩ := hp2
  rcases hg9 with rfl | ⟨rfl, g5, g6, ⟨x7, c8, rx7, tx7⟩⟩
  · refine lv_if_eq (tgt := 27) hx hb dX12_canLook_5 (by decide) (fun _ => ?_) (fun c => absurd (by decide) c)
    exact J27  H locs ls    hw   (lv_sub hl [0, 1, 2, 3] rfl)
  · refine lv_if_eq (tgt := 27) hx hb dX12_canLook_5 (by decide) (fun c => absurd c (by decide)) (fun _ => ?_)
    refine lv_aload_n hx hb dX12_canLook_8 rfl (lv_at hl 0 rfl) ?_
    refine lv_iload_n hx hb dX12_canLook_9 rfl (lv_at hl 2 rfl) ?_
    refine tk_Vi hC hK hw hT hA hE hSR kM_at0 (by decide) rfl (k_X12_isCorner_1 l adK adV dC dI cy ad B (by omega) (by omega) qr s1   a2 w0 H.size hT ) (cwV 1 hC.2.2.2.2 uV_RX12_328 rfl rfl rfl (by decide +kernel) ⟨Nat.le_of_ble_eq_true rfl, Nat.le_of_ble_eq_true rfl⟩) rfl hl.1 rfl (Nat.le_of_ble_eq_true rfl) dX12_canLook_10 (fun r10 w12 H locs hp11 hw => ?_)
    obtain ⟨rfl, hg18⟩ := hp11
    rcases hg18 with rfl | ⟨rfl, g14, g15, ⟨x16, c17, rx16, tx16⟩⟩
    · refine lv_if_eq (tgt := 27) hx hb dX12_canLook_13 (by decide) (fun _ => ?_) (fun c => absurd (by decide) c)
      exact J27  H locs ls    hw   (lv_sub hl [0, 1, 2, 3] rfl)
    · have ex16 : x16.toInt = x7.toInt := by rw [← c8.symm.trans c17]
      refine lv_if_eq (tgt := 27) hx hb dX12_canLook_13 (by decide) (fun c => absurd c (by decide)) (fun _ => ?_)
      refine lv_iload_n hx hb dX12_canLook_16 rfl (lv_at hl 3 rfl) ?_
      refine tk_Si hC hK hw hT hA hE hSR (k_X12_isHour_1 l adK adV dC dI cy ad B (by omega) (by omega) qr s1   a3 w0 H.size hT ) (va_cwS 1 hC.2.2.2.2 uS_RX12_331 rfl rfl rfl (by decide +kernel) ⟨Nat.le_of_ble_eq_true rfl, Nat.le_of_ble_eq_true rfl⟩) rfl hl.1 rfl (Nat.le_of_ble_eq_true rfl) dX12_canLook_17 (fun r19 w21 H locs hp20 hw => ?_)
      obtain ⟨rfl, hg25⟩ := hp20
      rcases hg25 with rfl | ⟨rfl, g23, g24⟩
      · refine lv_if_eq (tgt := 27) hx hb dX12_canLook_20 (by decide) (fun _ => ?_) (fun c => absurd (by decide) c)
        exact J27  H locs ls    hw   (lv_sub hl [0, 1, 2, 3] rfl)
      · refine lv_if_eq (tgt := 27) hx hb dX12_canLook_20 (by decide) (fun c => absurd c (by decide)) (fun _ => ?_)
        refine lv_iconst (v := 1) hx hb dX12_canLook_23 (by decide) ?_
        refine lv_goto (tgt := 28) hx hb dX12_canLook_24 (by decide) ?_
        exact tk_zret hC hr rfl hlocks hK ⟨rfl, (Or.inr ⟨rfl, (show 0 ≤ a1.toInt by omega), (show a1.toInt ≤ 9 by omega), (show 0 ≤ a2.toInt by omega), (show a2.toInt ≤ 9 by omega), (show 0 ≤ a3.toInt by omega), (show a3.toInt ≤ 99999 by omega), ⟨x7, c8, (show 1 ≤ x7.toInt by omega), (show x7.toInt ≤ 10 by omega)⟩⟩)⟩ hw dX12_canLook_28
abbrev P_X12_isDayFor_3 (ad : Nat → Nat) (cy : Nat → ClassId) (B : Int) (qr : Nat) (s1 : Int) (a1 : Int32) (a2 : Int32) (a3 : Int32) (w0 : va_W) : Int32 → va_W → Prop := fun r u => w0 = u ∧ ((r = 0 ∧ (¬ mDay w0 a1.toInt a2.toInt a3.toInt)) ∨ (r = 0 ∧ gi u 12 (10 * a1.toInt + 10).toNat = a2 ∧ (¬ mDay w0 a1.toInt a2.toInt a3.toInt)) ∨ (r = 1 ∧ (mDay w0 a1.toInt a2.toInt a3.toInt)) ∨ (r = 1 ∧ gi u 12 (10 * a1.toInt + 10).toNat = a2 ∧ (mDay w0 a1.toInt a2.toInt a3.toInt)))
set_option maxHeartbeats 4000000 in
set_option maxRecDepth 100000 in
theorem k_X12_isDayFor_3 (l : Launch) (adK adV : Nat → Nat) (dC : Nat → ClassId) (dI : Nat → Nat → Nat) (cy : Nat → ClassId) (ad : Nat → Nat) (B : Int) (hB0 : 100000 ≤ B) (hB1 : B ≤ 1073741824) (qr : Nat) (s1 : Int)  (a1 : Int32) (ra1 : 0 ≤ a1.toInt) (ta1 : a1.toInt ≤ 11) (a2 : Int32) (ra2 : 0 ≤ a2.toInt) (ta2 : a2.toInt ≤ 9) (a3 : Int32) (ra3 : 0 ≤ a3.toInt) (ta3 : a3.toInt ≤ 4249) (w0 : va_W) (sz : Nat) (hT : TW ksM ad cy B qr 12 w0)  : Met l yX12_isDayFor (wu yX12_isDayFor cX12_isDayFor 4 (some .boolean)) ({ frames := 3, cells := 0, slots := 0, locals := 57 }) (va_Pc [.ref (ad 0), .int a1, .int a2, .int a3] (wpreS adK adV dC dI cy sz w0)) (va_Qi (P_X12_isDayFor_3 ad cy B qr s1 a1 a2 a3 w0) (fun u : va_W => wpost dC dI cy (va_A w0 sz) u) (va_A w0 sz)) 0 0 (va_A w0 sz) := by
  refine Met.ofW (cc := cX12_isDayFor) (maxL := 4) (ret := (some .boolean)) (by decide) rfl ?_
  intro p e s m args below meth c s₁ Bk hml hv
  obtain ⟨rfl, ⟨hsz, hP, hK, hD0⟩, hE, hSR⟩ := hv
  have hx := Bk.exec
  have hb := Bk.bytes
  have hr := Bk.returns
  have hlocks := Bk.notSynchronized
  have hC : CallFix p m c cX12_isDayFor 4 s _ (wu yX12_isDayFor cX12_isDayFor 4 (some .boolean)) RX12 := ⟨hx, hb, hml, findClass_of_methodNamed Bk.named, atoms_spec (ws := (wu yX12_isDayFor cX12_isDayFor 4 (some .boolean))) Bk.pre⟩
  subst hsz
  have hD := hD0.self (sz := s.heap.size)
  generalize hAe : va_A w0 s.heap.size = A at hD hE ⊢
  have hA : ∀ q : Nat, s.heap.size ≤ q → A q := fun q h => by rw [← hAe]; exact Or.inr h
  have hw : Wd dC dI A s.heap s.heap [] w0 := ⟨hP, hD, va_S.rf⟩
  have hF : FE ksM ([] : List (Nat × Nat × Nat)) w0 w0 := FE.rf
  have hl := lv_entry ([.ref (ad 0), .int a1, .int a2, .int a3]) (n := 4) (Nat.le_of_ble_eq_true rfl)
  rw [lg_entry_eq]
  generalize (lg_sl ([.ref (ad 0), .int a1, .int a2, .int a3]) ++ List.replicate (4 - (lg_sl ([.ref (ad 0), .int a1, .int a2, .int a3])).length) Slot.unset).toArray = ls at hl ⊢
  have hl : lv_has ls 4 [(0, .ref (ad 0)), (1, .int a1), (2, .int a2), (3, .int a3)] := hl
  generalize hloc : ([] : List Loc) = locs at hw ⊢
  refine lv_aload_n hx hb dX12_isDayFor_0 rfl (lv_at hl 0 rfl) ?_
  refine lv_aload_n hx hb dX12_isDayFor_1 rfl (lv_at hl 0 rfl) ?_
  refine lv_iload_n hx hb dX12_isDayFor_2 rfl (lv_at hl 1 rfl) ?_
  refine lv_iconst (v := 3) hx hb dX12_isDayFor_3 (by decide) ?_
  refine lv_iload_n hx hb dX12_isDayFor_4 rfl (lv_at hl 3 rfl) ?_
  refine lv_bipush (v := 7) hx hb dX12_isDayFor_5 (by decide) ?_
  refine lv_irem hx hb dX12_isDayFor_7 (by decide) ?_
  refine lv_topi (fun x1 ex1 => ?_)
  have ex1 : x1.toInt = a3.toInt % (7 : Int) := by rw [ex1]; exact wk_rem (show 0 ≤ a3.toInt from ra3) (show 0 < (7 : Int) by decide)
  refine lv_iadd hx hb dX12_isDayFor_8 ?_
  refine lv_topi (fun x2 ex2 => ?_)
  have ex2 : x2.toInt = (3 : Int) + x1.toInt := by rw [ex2]; exact wk_add (show (-2147483648) ≤ (3 : Int) + x1.toInt by omega) (show (3 : Int) + x1.toInt ≤ 2147483647 by omega)
  refine tk_Vi hC hK hw hT hA hE hSR kM_at0 (by decide) rfl (k_X12_streetOf_4 l adK adV dC dI cy ad B (by omega) (by omega) qr s1   a1 (show 0 ≤ a1.toInt from ra1) (show a1.toInt ≤ 11 from ta1) x2 (show 3 ≤ x2.toInt by omega) (show x2.toInt ≤ 9 by omega) w0 s.heap.size hT ) (cwV 2 hC.2.2.2.2 uV_RX12_300 rfl rfl rfl (by decide +kernel) ⟨Nat.le_of_ble_eq_true rfl, Nat.le_of_ble_eq_true rfl⟩) rfl hl.1 rfl (Nat.le_of_ble_eq_true rfl) dX12_isDayFor_9 (fun r3 w5 H locs hp4 hw => ?_)
  obtain ⟨rfl, hg10⟩ := hp4
  obtain ⟨g7, g8, c9⟩ := hg10
  refine lv_iload_n hx hb dX12_isDayFor_12 rfl (lv_at hl 1 rfl) ?_
  refine lv_iload_n hx hb dX12_isDayFor_13 rfl (lv_at hl 2 rfl) ?_
  refine tk_Vi hC hK hw hT hA hE hSR kM_at0 (by decide) rfl (k_X12_hasSign_1 l adK adV dC dI cy ad B (by omega) (by omega) qr s1   r3 (show 0 ≤ r3.toInt by omega) (show r3.toInt ≤ 9 by omega) a1 (show 0 ≤ a1.toInt from ra1) (show a1.toInt ≤ 11 from ta1) a2 (show 0 ≤ a2.toInt from ra2) (show a2.toInt ≤ 9 from ta2) w0 H.size hT ) (cwV 3 hC.2.2.2.2 uV_RX12_307 rfl rfl rfl (by decide +kernel) ⟨Nat.le_of_ble_eq_true rfl, Nat.le_of_ble_eq_true rfl⟩) rfl hl.1 rfl (Nat.le_of_ble_eq_true rfl) dX12_isDayFor_14 (fun r11 w13 H locs hp12 hw => ?_)
  obtain ⟨rfl, hg21⟩ := hp12
  rcases hg21 with ⟨rfl, hq15⟩ | ⟨rfl, c16, hq17⟩ | ⟨rfl, hq18⟩ | ⟨rfl, c19, hq20⟩
  · refine lv_if_ne (tgt := 22) hx hb dX12_isDayFor_17 (by decide) (fun c => absurd (by decide) c) (fun _ => ?_)
    refine lv_iconst (v := 0) hx hb dX12_isDayFor_20 (by decide) ?_
    exact tk_zret hC hr rfl hlocks hK ⟨rfl, (Or.inl ⟨rfl, (by unfold mDay; rw [show (10 * a1.toInt + (3 + a3.toInt % 7) + 10) = 10 * a1.toInt + 1 * x2.toInt + 10 by omega]; simp only [c9]; first | exact ⟨by assumption, by assumption, by assumption⟩ | (rintro ⟨q1, q2, q3⟩; first | exact absurd q1 (by assumption) | exact q2 (by assumption) | exact q3 (by assumption)))⟩)⟩ hw dX12_isDayFor_21
  · refine lv_if_ne (tgt := 22) hx hb dX12_isDayFor_17 (by decide) (fun c => absurd (by decide) c) (fun _ => ?_)
    refine lv_iconst (v := 0) hx hb dX12_isDayFor_20 (by decide) ?_
    exact tk_zret hC hr rfl hlocks hK ⟨rfl, (Or.inr (Or.inl ⟨rfl, c16, (by unfold mDay; rw [show (10 * a1.toInt + (3 + a3.toInt % 7) + 10) = 10 * a1.toInt + 1 * x2.toInt + 10 by omega]; simp only [c9, c16]; first | exact ⟨by assumption, by assumption, by assumption⟩ | (rintro ⟨q1, q2, q3⟩; first | exact absurd q1 (by assumption) | exact q2 (by assumption) | exact q3 (by assumption)))⟩))⟩ hw dX12_isDayFor_21
  · refine lv_if_ne (tgt := 22) hx hb dX12_isDayFor_17 (by decide) (fun _ => ?_) (fun c => absurd c (by decide))
    refine lv_aload_n hx hb dX12_isDayFor_22 rfl (lv_at hl 0 rfl) ?_
    refine lv_aload_n hx hb dX12_isDayFor_23 rfl (lv_at hl 0 rfl) ?_
    refine lv_iload_n hx hb dX12_isDayFor_24 rfl (lv_at hl 1 rfl) ?_
    refine lv_iconst (v := 0) hx hb dX12_isDayFor_25 (by decide) ?_
    refine tk_Vi hC hK hw hT hA hE hSR kM_at0 (by decide) rfl (k_X12_streetOf_2 l adK adV dC dI cy ad B (by omega) (by omega) qr s1   a1 (show 0 ≤ a1.toInt from ra1) (show a1.toInt ≤ 11 from ta1) w0 H.size hT ) (cwV 2 hC.2.2.2.2 uV_RX12_300 rfl rfl rfl (by decide +kernel) ⟨Nat.le_of_ble_eq_true rfl, Nat.le_of_ble_eq_true rfl⟩) rfl hl.1 rfl (Nat.le_of_ble_eq_true rfl) dX12_isDayFor_26 (fun r22 w24 H locs hp23 hw => ?_)
    obtain ⟨rfl, hg29⟩ := hp23
    obtain ⟨g26, g27, c28⟩ := hg29
    refine lv_iload_n hx hb dX12_isDayFor_29 rfl (lv_at hl 3 rfl) ?_
    refine lv_sipush (v := 360) hx hb dX12_isDayFor_30 (by decide) ?_
    refine lv_irem hx hb dX12_isDayFor_33 (by decide) ?_
    refine lv_topi (fun x30 ex30 => ?_)
    have ex30 : x30.toInt = a3.toInt % (360 : Int) := by rw [ex30]; exact wk_rem (show 0 ≤ a3.toInt from ra3) (show 0 < (360 : Int) by decide)
    refine tk_Vi hC hK hw hT hA hE hSR kM_at0 (by decide) rfl (k_X12_isClosed_1 l adK adV dC dI cy ad B (by omega) (by omega) qr s1   r22 (show 0 ≤ r22.toInt by omega) (show r22.toInt ≤ 9 by omega) x30 (show 0 ≤ x30.toInt by omega) (show x30.toInt ≤ 359 by omega) w0 H.size hT ) (cwV 2 hC.2.2.2.2 uV_RX12_311 rfl rfl rfl (by decide +kernel) ⟨Nat.le_of_ble_eq_true rfl, Nat.le_of_ble_eq_true rfl⟩) rfl hl.1 rfl (Nat.le_of_ble_eq_true rfl) dX12_isDayFor_34 (fun r31 w33 H locs hp32 hw => ?_)
    obtain ⟨rfl, hg41⟩ := hp32
    rcases hg41 with ⟨rfl, hq35⟩ | ⟨rfl, ⟨x36, c37, rx36, tx36⟩, ⟨x38, c39, rx38, tx38⟩, hq40⟩
    · refine lv_if_ne (tgt := 62) hx hb dX12_isDayFor_37 (by decide) (fun c => absurd (by decide) c) (fun _ => ?_)
      refine lv_aload_n hx hb dX12_isDayFor_40 rfl (lv_at hl 0 rfl) ?_
      refine lv_aload_n hx hb dX12_isDayFor_41 rfl (lv_at hl 0 rfl) ?_
      refine lv_iload_n hx hb dX12_isDayFor_42 rfl (lv_at hl 1 rfl) ?_
      refine lv_iconst (v := 1) hx hb dX12_isDayFor_43 (by decide) ?_
      refine tk_Vi hC hK hw hT hA hE hSR kM_at0 (by decide) rfl (k_X12_streetOf_3 l adK adV dC dI cy ad B (by omega) (by omega) qr s1   a1 (show 0 ≤ a1.toInt from ra1) (show a1.toInt ≤ 11 from ta1) w0 H.size hT ) (cwV 2 hC.2.2.2.2 uV_RX12_300 rfl rfl rfl (by decide +kernel) ⟨Nat.le_of_ble_eq_true rfl, Nat.le_of_ble_eq_true rfl⟩) rfl hl.1 rfl (Nat.le_of_ble_eq_true rfl) dX12_isDayFor_44 (fun r42 w44 H locs hp43 hw => ?_)
      obtain ⟨rfl, hg49⟩ := hp43
      obtain ⟨g46, g47, c48⟩ := hg49
      refine lv_iload_n hx hb dX12_isDayFor_47 rfl (lv_at hl 3 rfl) ?_
      refine lv_sipush (v := 360) hx hb dX12_isDayFor_48 (by decide) ?_
      refine lv_irem hx hb dX12_isDayFor_51 (by decide) ?_
      refine lv_topi (fun x50 ex50 => ?_)
      have ex50 : x50.toInt = a3.toInt % (360 : Int) := by rw [ex50]; exact wk_rem (show 0 ≤ a3.toInt from ra3) (show 0 < (360 : Int) by decide)
      refine tk_Vi hC hK hw hT hA hE hSR kM_at0 (by decide) rfl (k_X12_isClosed_1 l adK adV dC dI cy ad B (by omega) (by omega) qr s1   r42 (show 0 ≤ r42.toInt by omega) (show r42.toInt ≤ 9 by omega) x50 (show 0 ≤ x50.toInt by omega) (show x50.toInt ≤ 359 by omega) w0 H.size hT ) (cwV 2 hC.2.2.2.2 uV_RX12_311 rfl rfl rfl (by decide +kernel) ⟨Nat.le_of_ble_eq_true rfl, Nat.le_of_ble_eq_true rfl⟩) rfl hl.1 rfl (Nat.le_of_ble_eq_true rfl) dX12_isDayFor_52 (fun r51 w53 H locs hp52 hw => ?_)
      obtain ⟨rfl, hg61⟩ := hp52
      rcases hg61 with ⟨rfl, hq55⟩ | ⟨rfl, ⟨x56, c57, rx56, tx56⟩, ⟨x58, c59, rx58, tx58⟩, hq60⟩
      · refine lv_if_ne (tgt := 62) hx hb dX12_isDayFor_55 (by decide) (fun c => absurd (by decide) c) (fun _ => ?_)
        refine lv_iconst (v := 1) hx hb dX12_isDayFor_58 (by decide) ?_
        refine lv_goto (tgt := 63) hx hb dX12_isDayFor_59 (by decide) ?_
        exact tk_zret hC hr rfl hlocks hK ⟨rfl, (Or.inr (Or.inr (Or.inl ⟨rfl, (by have hq35 := hq35; rw [show x30.toInt = a3.toInt % 360 by omega] at hq35; have hq55 := hq55; rw [show x50.toInt = a3.toInt % 360 by omega] at hq55; unfold mDay; rw [show (10 * a1.toInt + (3 + a3.toInt % 7) + 10) = 10 * a1.toInt + 1 * x2.toInt + 10 by omega]; simp only [c9, c28, c48]; first | exact ⟨by assumption, by assumption, by assumption⟩ | (rintro ⟨q1, q2, q3⟩; first | exact absurd q1 (by assumption) | exact q2 (by assumption) | exact q3 (by assumption)))⟩)))⟩ hw dX12_isDayFor_63
      · refine lv_if_ne (tgt := 62) hx hb dX12_isDayFor_55 (by decide) (fun _ => ?_) (fun c => absurd c (by decide))
        refine lv_iconst (v := 0) hx hb dX12_isDayFor_62 (by decide) ?_
        exact tk_zret hC hr rfl hlocks hK ⟨rfl, (Or.inl ⟨rfl, (by have hq35 := hq35; rw [show x30.toInt = a3.toInt % 360 by omega] at hq35; have hq60 := hq60; rw [show x50.toInt = a3.toInt % 360 by omega] at hq60; unfold mDay; rw [show (10 * a1.toInt + (3 + a3.toInt % 7) + 10) = 10 * a1.toInt + 1 * x2.toInt + 10 by omega]; simp only [c9, c28, c48, c57, c59]; first | exact ⟨by assumption, by assumption, by assumption⟩ | (rintro ⟨q1, q2, q3⟩; first | exact absurd q1 (by assumption) | exact q2 (by assumption) | exact q3 (by assumption)))⟩)⟩ hw dX12_isDayFor_63
    · refine lv_if_ne (tgt := 62) hx hb dX12_isDayFor_37 (by decide) (fun _ => ?_) (fun c => absurd c (by decide))
      refine lv_iconst (v := 0) hx hb dX12_isDayFor_62 (by decide) ?_
      exact tk_zret hC hr rfl hlocks hK ⟨rfl, (Or.inl ⟨rfl, (by have hq40 := hq40; rw [show x30.toInt = a3.toInt % 360 by omega] at hq40; unfold mDay; rw [show (10 * a1.toInt + (3 + a3.toInt % 7) + 10) = 10 * a1.toInt + 1 * x2.toInt + 10 by omega]; simp only [c9, c28, c37, c39]; first | exact ⟨by assumption, by assumption, by assumption⟩ | (rintro ⟨q1, q2, q3⟩; first | exact absurd q1 (by assumption) | exact q2 (by assumption) | exact q3 (by assumption)))⟩)⟩ hw dX12_isDayFor_63
  · refine lv_if_ne (tgt := 22) hx hb dX12_isDayFor_17 (by decide) (fun _ => ?_) (fun c => absurd c (by decide))
    refine lv_aload_n hx hb dX12_isDayFor_22 rfl (lv_at hl 0 rfl) ?_
    refine lv_aload_n hx hb dX12_isDayFor_23 rfl (lv_at hl 0 rfl) ?_
    refine lv_iload_n hx hb dX12_isDayFor_24 rfl (lv_at hl 1 rfl) ?_
    refine lv_iconst (v := 0) hx hb dX12_isDayFor_25 (by decide) ?_
    refine tk_Vi hC hK hw hT hA hE hSR kM_at0 (by decide) rfl (k_X12_streetOf_2 l adK adV dC dI cy ad B (by omega) (by omega) qr s1   a1 (show 0 ≤ a1.toInt from ra1) (show a1.toInt ≤ 11 from ta1) w0 H.size hT ) (cwV 2 hC.2.2.2.2 uV_RX12_300 rfl rfl rfl (by decide +kernel) ⟨Nat.le_of_ble_eq_true rfl, Nat.le_of_ble_eq_true rfl⟩) rfl hl.1 rfl (Nat.le_of_ble_eq_true rfl) dX12_isDayFor_26 (fun r62 w64 H locs hp63 hw => ?_)
    obtain ⟨rfl, hg69⟩ := hp63
    obtain ⟨g66, g67, c68⟩ := hg69
    obtain rfl : a2 = r62 := c19.symm.trans c68
    refine lv_iload_n hx hb dX12_isDayFor_29 rfl (lv_at hl 3 rfl) ?_
    refine lv_sipush (v := 360) hx hb dX12_isDayFor_30 (by decide) ?_
    refine lv_irem hx hb dX12_isDayFor_33 (by decide) ?_
    refine lv_topi (fun x70 ex70 => ?_)
    have ex70 : x70.toInt = a3.toInt % (360 : Int) := by rw [ex70]; exact wk_rem (show 0 ≤ a3.toInt from ra3) (show 0 < (360 : Int) by decide)
    refine tk_Vi hC hK hw hT hA hE hSR kM_at0 (by decide) rfl (k_X12_isClosed_1 l adK adV dC dI cy ad B (by omega) (by omega) qr s1   a2 (show 0 ≤ a2.toInt from ra2) (show a2.toInt ≤ 9 from ta2) x70 (show 0 ≤ x70.toInt by omega) (show x70.toInt ≤ 359 by omega) w0 H.size hT ) (cwV 2 hC.2.2.2.2 uV_RX12_311 rfl rfl rfl (by decide +kernel) ⟨Nat.le_of_ble_eq_true rfl, Nat.le_of_ble_eq_true rfl⟩) rfl hl.1 rfl (Nat.le_of_ble_eq_true rfl) dX12_isDayFor_34 (fun r71 w73 H locs hp72 hw => ?_)
    obtain ⟨rfl, hg81⟩ := hp72
    rcases hg81 with ⟨rfl, hq75⟩ | ⟨rfl, ⟨x76, c77, rx76, tx76⟩, ⟨x78, c79, rx78, tx78⟩, hq80⟩
    · refine lv_if_ne (tgt := 62) hx hb dX12_isDayFor_37 (by decide) (fun c => absurd (by decide) c) (fun _ => ?_)
      refine lv_aload_n hx hb dX12_isDayFor_40 rfl (lv_at hl 0 rfl) ?_
      refine lv_aload_n hx hb dX12_isDayFor_41 rfl (lv_at hl 0 rfl) ?_
      refine lv_iload_n hx hb dX12_isDayFor_42 rfl (lv_at hl 1 rfl) ?_
      refine lv_iconst (v := 1) hx hb dX12_isDayFor_43 (by decide) ?_
      refine tk_Vi hC hK hw hT hA hE hSR kM_at0 (by decide) rfl (k_X12_streetOf_3 l adK adV dC dI cy ad B (by omega) (by omega) qr s1   a1 (show 0 ≤ a1.toInt from ra1) (show a1.toInt ≤ 11 from ta1) w0 H.size hT ) (cwV 2 hC.2.2.2.2 uV_RX12_300 rfl rfl rfl (by decide +kernel) ⟨Nat.le_of_ble_eq_true rfl, Nat.le_of_ble_eq_true rfl⟩) rfl hl.1 rfl (Nat.le_of_ble_eq_true rfl) dX12_isDayFor_44 (fun r82 w84 H locs hp83 hw => ?_)
      obtain ⟨rfl, hg89⟩ := hp83
      obtain ⟨g86, g87, c88⟩ := hg89
      refine lv_iload_n hx hb dX12_isDayFor_47 rfl (lv_at hl 3 rfl) ?_
      refine lv_sipush (v := 360) hx hb dX12_isDayFor_48 (by decide) ?_
      refine lv_irem hx hb dX12_isDayFor_51 (by decide) ?_
      refine lv_topi (fun x90 ex90 => ?_)
      have ex90 : x90.toInt = a3.toInt % (360 : Int) := by rw [ex90]; exact wk_rem (show 0 ≤ a3.toInt from ra3) (show 0 < (360 : Int) by decide)
      refine tk_Vi hC hK hw hT hA hE hSR kM_at0 (by decide) rfl (k_X12_isClosed_1 l adK adV dC dI cy ad B (by omega) (by omega) qr s1   r82 (show 0 ≤ r82.toInt by omega) (show r82.toInt ≤ 9 by omega) x90 (show 0 ≤ x90.toInt by omega) (show x90.toInt ≤ 359 by omega) w0 H.size hT ) (cwV 2 hC.2.2.2.2 uV_RX12_311 rfl rfl rfl (by decide +kernel) ⟨Nat.le_of_ble_eq_true rfl, Nat.le_of_ble_eq_true rfl⟩) rfl hl.1 rfl (Nat.le_of_ble_eq_true rfl) dX12_isDayFor_52 (fun r91 w93 H locs hp92 hw => ?_)
      obtain ⟨rfl, hg101⟩ := hp92
      rcases hg101 with ⟨rfl, hq95⟩ | ⟨rfl, ⟨x96, c97, rx96, tx96⟩, ⟨x98, c99, rx98, tx98⟩, hq100⟩
      · refine lv_if_ne (tgt := 62) hx hb dX12_isDayFor_55 (by decide) (fun c => absurd (by decide) c) (fun _ => ?_)
        refine lv_iconst (v := 1) hx hb dX12_isDayFor_58 (by decide) ?_
        refine lv_goto (tgt := 63) hx hb dX12_isDayFor_59 (by decide) ?_
        exact tk_zret hC hr rfl hlocks hK ⟨rfl, (Or.inr (Or.inr (Or.inr ⟨rfl, c19, (by have hq75 := hq75; rw [show x70.toInt = a3.toInt % 360 by omega] at hq75; have hq95 := hq95; rw [show x90.toInt = a3.toInt % 360 by omega] at hq95; unfold mDay; rw [show (10 * a1.toInt + (3 + a3.toInt % 7) + 10) = 10 * a1.toInt + 1 * x2.toInt + 10 by omega]; simp only [c9, c19, c88]; first | exact ⟨by assumption, by assumption, by assumption⟩ | (rintro ⟨q1, q2, q3⟩; first | exact absurd q1 (by assumption) | exact q2 (by assumption) | exact q3 (by assumption)))⟩)))⟩ hw dX12_isDayFor_63
      · refine lv_if_ne (tgt := 62) hx hb dX12_isDayFor_55 (by decide) (fun _ => ?_) (fun c => absurd c (by decide))
        refine lv_iconst (v := 0) hx hb dX12_isDayFor_62 (by decide) ?_
        exact tk_zret hC hr rfl hlocks hK ⟨rfl, (Or.inr (Or.inl ⟨rfl, c19, (by have hq75 := hq75; rw [show x70.toInt = a3.toInt % 360 by omega] at hq75; have hq100 := hq100; rw [show x90.toInt = a3.toInt % 360 by omega] at hq100; unfold mDay; rw [show (10 * a1.toInt + (3 + a3.toInt % 7) + 10) = 10 * a1.toInt + 1 * x2.toInt + 10 by omega]; simp only [c9, c19, c88, c97, c99]; first | exact ⟨by assumption, by assumption, by assumption⟩ | (rintro ⟨q1, q2, q3⟩; first | exact absurd q1 (by assumption) | exact q2 (by assumption) | exact q3 (by assumption)))⟩))⟩ hw dX12_isDayFor_63
    · refine lv_if_ne (tgt := 62) hx hb dX12_isDayFor_37 (by decide) (fun _ => ?_) (fun c => absurd c (by decide))
      refine lv_iconst (v := 0) hx hb dX12_isDayFor_62 (by decide) ?_
      exact tk_zret hC hr rfl hlocks hK ⟨rfl, (Or.inr (Or.inl ⟨rfl, c19, (by have hq80 := hq80; rw [show x70.toInt = a3.toInt % 360 by omega] at hq80; unfold mDay; rw [show (10 * a1.toInt + (3 + a3.toInt % 7) + 10) = 10 * a1.toInt + 1 * x2.toInt + 10 by omega]; simp only [c9, c19, c77, c79]; first | exact ⟨by assumption, by assumption, by assumption⟩ | (rintro ⟨q1, q2, q3⟩; first | exact absurd q1 (by assumption) | exact q2 (by assumption) | exact q3 (by assumption)))⟩))⟩ hw dX12_isDayFor_63
abbrev P_X12_isLifted_3 (ad : Nat → Nat) (cy : Nat → ClassId) (B : Int) (qr : Nat) (s1 : Int) (a1 : Int32) (a2 : Int32) (w0 : va_W) : Int32 → va_W → Prop := fun r u => w0 = u ∧ ((r = 0 ∧ (¬ mLf w0 a1.toInt a2.toInt)) ∨ (r = 1 ∧ (∃ y : Int32, gi u 12 3 = y ∧ 1 ≤ y.toInt ∧ y.toInt ≤ 4) ∧ (mLf w0 a1.toInt a2.toInt)))
set_option maxHeartbeats 4000000 in
set_option maxRecDepth 100000 in
theorem k_X12_isLifted_3 (l : Launch) (adK adV : Nat → Nat) (dC : Nat → ClassId) (dI : Nat → Nat → Nat) (cy : Nat → ClassId) (ad : Nat → Nat) (B : Int) (hB0 : 100000 ≤ B) (hB1 : B ≤ 1073741824) (qr : Nat) (s1 : Int)  (a1 : Int32) (ra1 : 0 ≤ a1.toInt) (ta1 : a1.toInt ≤ 11) (a2 : Int32) (ra2 : 0 ≤ a2.toInt) (ta2 : a2.toInt ≤ 101999) (w0 : va_W) (sz : Nat) (hT : TW ksM ad cy B qr 12 w0)  : Met l yX12_isLifted (wu yX12_isLifted cX12_isLifted 5 (some .boolean)) ({ frames := 1, cells := 0, slots := 0, locals := 12 }) (va_Pc [.ref (ad 0), .int a1, .int a2] (wpreS adK adV dC dI cy sz w0)) (va_Qi (P_X12_isLifted_3 ad cy B qr s1 a1 a2 w0) (fun u : va_W => wpost dC dI cy (va_A w0 sz) u) (va_A w0 sz)) 0 0 (va_A w0 sz) := by
  refine Met.ofW (cc := cX12_isLifted) (maxL := 5) (ret := (some .boolean)) (by decide) rfl ?_
  intro p e s m args below meth c s₁ Bk hml hv
  obtain ⟨rfl, ⟨hsz, hP, hK, hD0⟩, hE, hSR⟩ := hv
  have hx := Bk.exec
  have hb := Bk.bytes
  have hr := Bk.returns
  have hlocks := Bk.notSynchronized
  have hC : CallFix p m c cX12_isLifted 5 s _ (wu yX12_isLifted cX12_isLifted 5 (some .boolean)) RX12 := ⟨hx, hb, hml, findClass_of_methodNamed Bk.named, atoms_spec (ws := (wu yX12_isLifted cX12_isLifted 5 (some .boolean))) Bk.pre⟩
  subst hsz
  have hD := hD0.self (sz := s.heap.size)
  generalize hAe : va_A w0 s.heap.size = A at hD hE ⊢
  have hA : ∀ q : Nat, s.heap.size ≤ q → A q := fun q h => by rw [← hAe]; exact Or.inr h
  have hw : Wd dC dI A s.heap s.heap [] w0 := ⟨hP, hD, va_S.rf⟩
  have hF : FE ksM ([] : List (Nat × Nat × Nat)) w0 w0 := FE.rf
  have hl := lv_entry ([.ref (ad 0), .int a1, .int a2]) (n := 5) (Nat.le_of_ble_eq_true rfl)
  rw [lg_entry_eq]
  generalize (lg_sl ([.ref (ad 0), .int a1, .int a2]) ++ List.replicate (5 - (lg_sl ([.ref (ad 0), .int a1, .int a2])).length) Slot.unset).toArray = ls at hl ⊢
  have hl : lv_has ls 5 [(0, .ref (ad 0)), (1, .int a1), (2, .int a2)] := hl
  generalize hloc : ([] : List Loc) = locs at hw ⊢
  have hinX12 : ∀ w ∈ u_ws RX12 TX12 42, w ∈ (wu yX12_isLifted cX12_isLifted 5 (some .boolean)) := fun _ h => List.mem_cons_of_mem _ (up_71 h)
  have L2 : ∀ (n2 : Nat) (v2_3 : Int32) (H : Heap) (locs : List Loc) (ls : Array Slot), 0 ≤ a1.toInt → a1.toInt ≤ 11 → 0 ≤ a2.toInt → a2.toInt ≤ 101999 → 0 ≤ v2_3.toInt → v2_3.toInt ≤ 4 → (∀ k : Int, 0 ≤ k → k < v2_3.toInt → ¬ mLf1 w0 k a1.toInt a2.toInt) → (4 - v2_3.toInt).toNat < n2 → Wd dC dI A s.heap H locs w0 → lv_has ls 5 [(0, .ref (ad 0)), (1, .int a1), (2, .int a2), (3, .int v2_3)] → W p l e ({ frames := 1, cells := 0, slots := 0, locals := 12 }) s m (List.toArray [.ref (ad 0), .int a1, .int a2]) below meth c H locs 0 0 (MQ below (va_Qi (P_X12_isLifted_3 ad cy B qr s1 a1 a2 w0) (fun u : va_W => wpost dC dI cy A u) A) (List.toArray [.ref (ad 0), .int a1, .int a2]) s 0 0 A) (F0 m 2 ls []) := by
    intro n2
    induction n2 with
    | zero => intro v2_3 H locs ls r1 t2 r3 t4 r5 t6 hcr2_0 hm2 hw hl; omega
    | succ n2 ih2 =>
      intro v2_3 H locs ls r1 t2 r3 t4 r5 t6 hcr2_0 hm2 hw hl
      refine lv_iload_n hx hb dX12_isLifted_2 rfl (lv_at hl 3 rfl) ?_
      refine lv_aload_n hx hb dX12_isLifted_3 rfl (lv_at hl 0 rfl) ?_
      refine tk_getA hC hK hw hT hinX12 kM_at0 (by decide) rfl 26 (by decide) (List.mem_cons_of_mem _ uw_7_1) rfl rfl dX12_isLifted_4 ?_
      refine lv_iconst (v := 3) hx hb dX12_isLifted_7 (by decide) ?_
      refine tk_ialdR hC hK hw hT kM_at12 rfl (by decide) (by decide) dX12_isLifted_8 (fun x7 c8 Ex7 => ?_)
      have bx7 := tk_rgI rfl 3 1 1 0 4 (by decide +kernel) ⟨0, by decide, by decide⟩ Ex7
      have c8 : gi w0 12 3 = x7 := c8
      refine lv_icmp_ge (tgt := 72) hx hb dX12_isLifted_9 (by decide) (fun c9 => ?_) (fun c9 => ?_)
      · have c9 : x7.toInt ≤ v2_3.toInt := wk_le.mp c9
        refine lv_iconst (v := 0) hx hb dX12_isLifted_72 (by decide) ?_
        exact tk_zret hC hr rfl hlocks hK ⟨rfl, (Or.inl ⟨rfl, (by exact mLf_no hcr2_0 (by simp only [c8]; omega))⟩)⟩ hw dX12_isLifted_73
      · have c9 : v2_3.toInt < x7.toInt := wk_leF c9
        refine lv_sipush (v := 156) hx hb dX12_isLifted_12 (by decide) ?_
        refine lv_iconst (v := 3) hx hb dX12_isLifted_15 (by decide) ?_
        refine lv_iload_n hx hb dX12_isLifted_16 rfl (lv_at hl 3 rfl) ?_
        refine lv_imul hx hb dX12_isLifted_17 ?_
        refine lv_topi (fun x10 ex10 => ?_)
        have ex10 : x10.toInt = (3 : Int) * v2_3.toInt := by rw [ex10]; exact wk_mul (show (-2147483648) ≤ (3 : Int) * v2_3.toInt by omega) (show (3 : Int) * v2_3.toInt ≤ 2147483647 by omega)
        refine lv_iadd hx hb dX12_isLifted_18 ?_
        refine lv_topi (fun x11 ex11 => ?_)
        have ex11 : x11.toInt = (156 : Int) + x10.toInt := by rw [ex11]; exact wk_add (show (-2147483648) ≤ (156 : Int) + x10.toInt by omega) (show (156 : Int) + x10.toInt ≤ 2147483647 by omega)
        refine lv_istore (lv' := [(4, .int x11), (0, .ref (ad 0)), (1, .int a1), (2, .int a2), (3, .int v2_3)]) hx hb dX12_isLifted_19 hl (by decide) rfl (fun ls hl => ?_)
        refine lv_aload_n hx hb dX12_isLifted_21 rfl (lv_at hl 1 rfl) ?_
        refine tk_getA hC hK hw hT hinX12 kM_at0 (by decide) rfl 26 (by decide) (List.mem_cons_of_mem _ uw_7_1) rfl rfl dX12_isLifted_22 ?_
        refine lv_iload hx hb dX12_isLifted_25 (lv_at hl 0 rfl) ?_
        refine tk_ialdR hC hK hw hT kM_at12 rfl (show 0 ≤ x11.toInt by omega) (show x11.toInt < 296 by omega) dX12_isLifted_27 (fun x12 c13 Ex12 => ?_)
        have c13 : gi w0 12 (3 * v2_3.toInt + 156).toNat = x12 := (congrArg (gi w0 12) (congrArg Int.toNat (show 3 * v2_3.toInt + 156 = x11.toInt by omega))).trans c13
        refine lv_iload_n hx hb dX12_isLifted_28 rfl (lv_at hl 2 rfl) ?_
        refine lv_icmp_ne (tgt := 66) hx hb dX12_isLifted_29 (by decide) (fun c14 => ?_) (fun c14 => ?_)
        · have c14 : ¬ x12.toInt = a1.toInt := wk_eqF c14
          obtain ⟨x15, ex15⟩ : ∃ y : Int32, y = v2_3 + Int32.ofInt 1 := ⟨_, rfl⟩
          refine lv_iinc (v := x15) (lv' := [(3, .int x15), (4, .int x11), (0, .ref (ad 0)), (1, .int a1), (2, .int a2)]) hx hb dX12_isLifted_66 hl (k := 4) rfl ex15.symm (by decide) rfl (fun ls hl => ?_)
          have ex15 : x15.toInt = v2_3.toInt + 1 := by rw [ex15]; exact wk_add (y := 1) (show -2147483648 ≤ v2_3.toInt + 1 by omega) (show v2_3.toInt + 1 ≤ 2147483647 by omega)
          refine lv_goto (tgt := 2) hx hb dX12_isLifted_69 (by decide) ?_
          exact ih2 x15 H locs ls  (show 0 ≤ a1.toInt from r1) (show a1.toInt ≤ 11 from t2) (show 0 ≤ a2.toInt from r3) (show a2.toInt ≤ 101999 from t4) (show 0 ≤ x15.toInt by omega) (show x15.toInt ≤ 4 by omega) (show ∀ k : Int, 0 ≤ k → k < x15.toInt → ¬ mLf1 w0 k a1.toInt a2.toInt from all_step hcr2_0 (show ¬ mLf1 w0 v2_3.toInt a1.toInt a2.toInt by unfold mLf1; simp only [c8, c13]; omega) (by omega)) (show (4 - x15.toInt).toNat < n2 by omega) hw   (lv_sub hl [2, 3, 4, 0] rfl)
        · have c14 : x12.toInt = a1.toInt := wk_eq.mp c14
          refine lv_iload_n hx hb dX12_isLifted_32 rfl (lv_at hl 3 rfl) ?_
          refine lv_bipush (v := 24) hx hb dX12_isLifted_33 (by decide) ?_
          refine lv_irem hx hb dX12_isLifted_35 (by decide) ?_
          refine lv_topi (fun x16 ex16 => ?_)
          have ex16 : x16.toInt = a2.toInt % (24 : Int) := by rw [ex16]; exact wk_rem (show 0 ≤ a2.toInt from r3) (show 0 < (24 : Int) by decide)
          refine lv_aload_n hx hb dX12_isLifted_36 rfl (lv_at hl 1 rfl) ?_
          refine tk_getA hC hK hw hT hinX12 kM_at0 (by decide) rfl 26 (by decide) (List.mem_cons_of_mem _ uw_7_1) rfl rfl dX12_isLifted_37 ?_
          refine lv_iload hx hb dX12_isLifted_40 (lv_at hl 0 rfl) ?_
          refine lv_iconst (v := 1) hx hb dX12_isLifted_42 (by decide) ?_
          refine lv_iadd hx hb dX12_isLifted_43 ?_
          refine lv_topi (fun x17 ex17 => ?_)
          have ex17 : x17.toInt = x11.toInt + (1 : Int) := by rw [ex17]; exact wk_add (show (-2147483648) ≤ x11.toInt + (1 : Int) by omega) (show x11.toInt + (1 : Int) ≤ 2147483647 by omega)
          refine tk_ialdR hC hK hw hT kM_at12 rfl (show 0 ≤ x17.toInt by omega) (show x17.toInt < 296 by omega) dX12_isLifted_44 (fun x18 c19 Ex18 => ?_)
          have c19 : gi w0 12 (3 * v2_3.toInt + 157).toNat = x18 := (congrArg (gi w0 12) (congrArg Int.toNat (show 3 * v2_3.toInt + 157 = x17.toInt by omega))).trans c19
          refine lv_icmp_lt (tgt := 66) hx hb dX12_isLifted_45 (by decide) (fun c20 => ?_) (fun c20 => ?_)
          · have c20 : x16.toInt < x18.toInt := wk_lt.mp c20
            obtain ⟨x21, ex21⟩ : ∃ y : Int32, y = v2_3 + Int32.ofInt 1 := ⟨_, rfl⟩
            refine lv_iinc (v := x21) (lv' := [(3, .int x21), (4, .int x11), (0, .ref (ad 0)), (1, .int a1), (2, .int a2)]) hx hb dX12_isLifted_66 hl (k := 4) rfl ex21.symm (by decide) rfl (fun ls hl => ?_)
            have ex21 : x21.toInt = v2_3.toInt + 1 := by rw [ex21]; exact wk_add (y := 1) (show -2147483648 ≤ v2_3.toInt + 1 by omega) (show v2_3.toInt + 1 ≤ 2147483647 by omega)
            refine lv_goto (tgt := 2) hx hb dX12_isLifted_69 (by decide) ?_
            exact ih2 x21 H locs ls  (show 0 ≤ a1.toInt from r1) (show a1.toInt ≤ 11 from t2) (show 0 ≤ a2.toInt from r3) (show a2.toInt ≤ 101999 from t4) (show 0 ≤ x21.toInt by omega) (show x21.toInt ≤ 4 by omega) (show ∀ k : Int, 0 ≤ k → k < x21.toInt → ¬ mLf1 w0 k a1.toInt a2.toInt from all_step hcr2_0 (show ¬ mLf1 w0 v2_3.toInt a1.toInt a2.toInt by unfold mLf1; simp only [c8, c13, c19]; omega) (by omega)) (show (4 - x21.toInt).toNat < n2 by omega) hw   (lv_sub hl [2, 3, 4, 0] rfl)
          · have c20 : x18.toInt ≤ x16.toInt := wk_ltF c20
            refine lv_iload_n hx hb dX12_isLifted_48 rfl (lv_at hl 3 rfl) ?_
            refine lv_bipush (v := 24) hx hb dX12_isLifted_49 (by decide) ?_
            refine lv_irem hx hb dX12_isLifted_51 (by decide) ?_
            refine lv_topi (fun x22 ex22 => ?_)
            have ex22 : x22.toInt = a2.toInt % (24 : Int) := by rw [ex22]; exact wk_rem (show 0 ≤ a2.toInt from r3) (show 0 < (24 : Int) by decide)
            refine lv_aload_n hx hb dX12_isLifted_52 rfl (lv_at hl 1 rfl) ?_
            refine tk_getA hC hK hw hT hinX12 kM_at0 (by decide) rfl 26 (by decide) (List.mem_cons_of_mem _ uw_7_1) rfl rfl dX12_isLifted_53 ?_
            refine lv_iload hx hb dX12_isLifted_56 (lv_at hl 0 rfl) ?_
            refine lv_iconst (v := 2) hx hb dX12_isLifted_58 (by decide) ?_
            refine lv_iadd hx hb dX12_isLifted_59 ?_
            refine lv_topi (fun x23 ex23 => ?_)
            have ex23 : x23.toInt = x11.toInt + (2 : Int) := by rw [ex23]; exact wk_add (show (-2147483648) ≤ x11.toInt + (2 : Int) by omega) (show x11.toInt + (2 : Int) ≤ 2147483647 by omega)
            refine tk_ialdR hC hK hw hT kM_at12 rfl (show 0 ≤ x23.toInt by omega) (show x23.toInt < 296 by omega) dX12_isLifted_60 (fun x24 c25 Ex24 => ?_)
            have c25 : gi w0 12 (3 * v2_3.toInt + 158).toNat = x24 := (congrArg (gi w0 12) (congrArg Int.toNat (show 3 * v2_3.toInt + 158 = x23.toInt by omega))).trans c25
            refine lv_icmp_ge (tgt := 66) hx hb dX12_isLifted_61 (by decide) (fun c26 => ?_) (fun c26 => ?_)
            · have c26 : x24.toInt ≤ x22.toInt := wk_le.mp c26
              obtain ⟨x27, ex27⟩ : ∃ y : Int32, y = v2_3 + Int32.ofInt 1 := ⟨_, rfl⟩
              refine lv_iinc (v := x27) (lv' := [(3, .int x27), (4, .int x11), (0, .ref (ad 0)), (1, .int a1), (2, .int a2)]) hx hb dX12_isLifted_66 hl (k := 4) rfl ex27.symm (by decide) rfl (fun ls hl => ?_)
              have ex27 : x27.toInt = v2_3.toInt + 1 := by rw [ex27]; exact wk_add (y := 1) (show -2147483648 ≤ v2_3.toInt + 1 by omega) (show v2_3.toInt + 1 ≤ 2147483647 by omega)
              refine lv_goto (tgt := 2) hx hb dX12_isLifted_69 (by decide) ?_
              exact ih2 x27 H locs ls  (show 0 ≤ a1.toInt from r1) (show a1.toInt ≤ 11 from t2) (show 0 ≤ a2.toInt from r3) (show a2.toInt ≤ 101999 from t4) (show 0 ≤ x27.toInt by omega) (show x27.toInt ≤ 4 by omega) (show ∀ k : Int, 0 ≤ k → k < x27.toInt → ¬ mLf1 w0 k a1.toInt a2.toInt from all_step hcr2_0 (show ¬ mLf1 w0 v2_3.toInt a1.toInt a2.toInt by unfold mLf1; simp only [c8, c13, c19, c25]; omega) (by omega)) (show (4 - x27.toInt).toNat < n2 by omega) hw   (lv_sub hl [2, 3, 4, 0] rfl)
            · have c26 : x22.toInt < x24.toInt := wk_leF c26
              refine lv_iconst (v := 1) hx hb dX12_isLifted_64 (by decide) ?_
              exact tk_zret hC hr rfl hlocks hK ⟨rfl, (Or.inr ⟨rfl, ⟨x7, c8, (show 1 ≤ x7.toInt by omega), (show x7.toInt ≤ 4 by omega)⟩, (by exact ⟨v2_3.toInt, by omega, by simp only [c8, c13, c19, c25]; omega, by unfold mLf1; simp only [c8, c13, c19, c25]; omega⟩)⟩)⟩ hw dX12_isLifted_65
  refine lv_iconst (v := 0) hx hb dX12_isLifted_0 (by decide) ?_
  refine lv_istore_n (lv' := [(3, .int 0), (0, .ref (ad 0)), (1, .int a1), (2, .int a2)]) hx hb dX12_isLifted_1 rfl hl (by decide) rfl (fun ls hl => ?_)
  exact L2 ((4 - (0 : Int)).toNat + 1) 0 s.heap locs ls  (show 0 ≤ a1.toInt from ra1) (show a1.toInt ≤ 11 from ta1) (show 0 ≤ a2.toInt from ra2) (show a2.toInt ≤ 101999 from ta2) (by decide) (by decide) (show ∀ k : Int, 0 ≤ k → k < (0 : Int) → ¬ mLf1 w0 k a1.toInt a2.toInt from all_none) (Nat.lt_succ_self _) hw   (lv_sub hl [1, 2, 3, 0] rfl)
abbrev P_X12_firstOpen_1 (ad : Nat → Nat) (cy : Nat → ClassId) (B : Int) (qr : Nat) (s1 : Int) (a1 : Int32) (a2 : Int32) (a3 : Int32) (a4 : Int32) (w0 : va_W) : Int32 → va_W → Prop := fun r u => w0 = u ∧ ((0 ≤ r.toInt ∧ r.toInt ≤ 100000000) ∨ (0 ≤ r.toInt ∧ r.toInt ≤ 101999 ∧ gi u 12 (10 * a1.toInt + 10).toNat = a2))
set_option maxHeartbeats 4000000 in
set_option maxRecDepth 100000 in
theorem k_X12_firstOpen_1 (l : Launch) (adK adV : Nat → Nat) (dC : Nat → ClassId) (dI : Nat → Nat → Nat) (cy : Nat → ClassId) (ad : Nat → Nat) (B : Int) (hB0 : 100000 ≤ B) (hB1 : B ≤ 1073741824) (qr : Nat) (s1 : Int)  (a1 : Int32) (ra1 : 0 ≤ a1.toInt) (ta1 : a1.toInt ≤ 11) (a2 : Int32) (ra2 : 0 ≤ a2.toInt) (ta2 : a2.toInt ≤ 9) (a3 : Int32) (ra3 : 0 ≤ a3.toInt) (ta3 : a3.toInt ≤ 100000100) (a4 : Int32) (ra4 : 2000 ≤ a4.toInt) (ta4 : a4.toInt ≤ 101999) (w0 : va_W) (sz : Nat) (hT : TW ksM ad cy B qr 12 w0)  : Met l yX12_firstOpen (wu yX12_firstOpen cX12_firstOpen 6 (some .int)) ({ frames := 4, cells := 0, slots := 0, locals := 80 }) (va_Pc [.ref (ad 0), .int a1, .int a2, .int a3, .int a4] (wpreS adK adV dC dI cy sz w0)) (va_Qi (P_X12_firstOpen_1 ad cy B qr s1 a1 a2 a3 a4 w0) (fun u : va_W => wpost dC dI cy (va_A w0 sz) u) (va_A w0 sz)) 0 0 (va_A w0 sz) := by
  refine Met.ofW (cc := cX12_firstOpen) (maxL := 6) (ret := (some .int)) (by decide) rfl ?_
  intro p e s m args below meth c s₁ Bk hml hv
  obtain ⟨rfl, ⟨hsz, hP, hK, hD0⟩, hE, hSR⟩ := hv
  have hx := Bk.exec
  have hb := Bk.bytes
  have hr := Bk.returns
  have hlocks := Bk.notSynchronized
  have hC : CallFix p m c cX12_firstOpen 6 s _ (wu yX12_firstOpen cX12_firstOpen 6 (some .int)) RX12 := ⟨hx, hb, hml, findClass_of_methodNamed Bk.named, atoms_spec (ws := (wu yX12_firstOpen cX12_firstOpen 6 (some .int))) Bk.pre⟩
  subst hsz
  have hD := hD0.self (sz := s.heap.size)
  generalize hAe : va_A w0 s.heap.size = A at hD hE ⊢
  have hA : ∀ q : Nat, s.heap.size ≤ q → A q := fun q h => by rw [← hAe]; exact Or.inr h
  have hw : Wd dC dI A s.heap s.heap [] w0 := ⟨hP, hD, va_S.rf⟩
  have hF : FE ksM ([] : List (Nat × Nat × Nat)) w0 w0 := FE.rf
  have hl := lv_entry ([.ref (ad 0), .int a1, .int a2, .int a3, .int a4]) (n := 6) (Nat.le_of_ble_eq_true rfl)
  rw [lg_entry_eq]
  generalize (lg_sl ([.ref (ad 0), .int a1, .int a2, .int a3, .int a4]) ++ List.replicate (6 - (lg_sl ([.ref (ad 0), .int a1, .int a2, .int a3, .int a4])).length) Slot.unset).toArray = ls at hl ⊢
  have hl : lv_has ls 6 [(0, .ref (ad 0)), (1, .int a1), (2, .int a2), (3, .int a3), (4, .int a4)] := hl
  generalize hloc : ([] : List Loc) = locs at hw ⊢
  have L3 : ∀ (n3 : Nat) (v3_5 : Int32) (H : Heap) (locs : List Loc) (ls : Array Slot), 0 ≤ a1.toInt → a1.toInt ≤ 11 → 0 ≤ a2.toInt → a2.toInt ≤ 9 → 0 ≤ a3.toInt → a3.toInt ≤ 100000100 → 2000 ≤ a4.toInt → a4.toInt ≤ 101999 → 0 ≤ v3_5.toInt → v3_5.toInt ≤ 100000100 → (100000100 - v3_5.toInt).toNat < n3 → Wd dC dI A s.heap H locs w0 → lv_has ls 6 [(0, .ref (ad 0)), (1, .int a1), (2, .int a2), (3, .int a3), (4, .int a4), (5, .int v3_5)] → W p l e ({ frames := 4, cells := 0, slots := 0, locals := 80 }) s m (List.toArray [.ref (ad 0), .int a1, .int a2, .int a3, .int a4]) below meth c H locs 0 0 (MQ below (va_Qi (P_X12_firstOpen_1 ad cy B qr s1 a1 a2 a3 a4 w0) (fun u : va_W => wpost dC dI cy A u) A) (List.toArray [.ref (ad 0), .int a1, .int a2, .int a3, .int a4]) s 0 0 A) (F0 m 3 ls []) := by
    intro n3
    induction n3 with
    | zero => intro v3_5 H locs ls r1 t2 r3 t4 r5 t6 r7 t8 r9 t10 hm3 hw hl; omega
    | succ n3 ih3 =>
      intro v3_5 H locs ls r1 t2 r3 t4 r5 t6 r7 t8 r9 t10 hm3 hw hl
      refine lv_iload hx hb dX12_firstOpen_3 (lv_at hl 5 rfl) ?_
      refine lv_iload hx hb dX12_firstOpen_5 (lv_at hl 4 rfl) ?_
      refine lv_icmp_gt (tgt := 58) hx hb dX12_firstOpen_7 (by decide) (fun c11 => ?_) (fun c11 => ?_)
      · have c11 : a4.toInt < v3_5.toInt := wk_lt.mp c11
        refine lv_ldcw (v := 100000000) hx hb hC.2.2.2.1 (hC.2.2.2.2 _ (List.mem_cons_of_mem _ uw_38_2)) dX12_firstOpen_58 ?_
        exact tk_iret hC hr hlocks hK ⟨rfl, (Or.inl ⟨(by decide), (by decide)⟩)⟩ hw dX12_firstOpen_61
      · have c11 : v3_5.toInt ≤ a4.toInt := wk_ltF c11
        refine lv_aload_n hx hb dX12_firstOpen_10 rfl (lv_at hl 0 rfl) ?_
        refine lv_iload_n hx hb dX12_firstOpen_11 rfl (lv_at hl 1 rfl) ?_
        refine lv_iload_n hx hb dX12_firstOpen_12 rfl (lv_at hl 2 rfl) ?_
        refine lv_iload hx hb dX12_firstOpen_13 (lv_at hl 5 rfl) ?_
        refine lv_bipush (v := 24) hx hb dX12_firstOpen_15 (by decide) ?_
        refine lv_idiv hx hb dX12_firstOpen_17 (by decide) ?_
        refine lv_topi (fun x12 ex12 => ?_)
        have ex12 : x12.toInt = v3_5.toInt / (24 : Int) := by rw [ex12]; exact wk_div (show 0 ≤ v3_5.toInt from r9) (show 0 < (24 : Int) by decide)
        refine tk_Vi hC hK hw hT hA hE hSR kM_at0 (by decide) rfl (k_X12_isDayFor_3 l adK adV dC dI cy ad B (by omega) (by omega) qr s1   a1 (show 0 ≤ a1.toInt from r1) (show a1.toInt ≤ 11 from t2) a2 (show 0 ≤ a2.toInt from r3) (show a2.toInt ≤ 9 from t4) x12 (show 0 ≤ x12.toInt by omega) (show x12.toInt ≤ 4249 by omega) w0 H.size hT ) (cwV 3 hC.2.2.2.2 uV_RX12_317 rfl rfl rfl (by decide +kernel) ⟨Nat.le_of_ble_eq_true rfl, Nat.le_of_ble_eq_true rfl⟩) rfl hl.1 rfl (Nat.le_of_ble_eq_true rfl) dX12_firstOpen_18 (fun r13 w15 H locs hp14 hw => ?_)
        obtain ⟨rfl, hg23⟩ := hp14
        rcases hg23 with ⟨rfl, hq17⟩ | ⟨rfl, c18, hq19⟩ | ⟨rfl, hq20⟩ | ⟨rfl, c21, hq22⟩
        · refine lv_if_ne (tgt := 39) hx hb dX12_firstOpen_21 (by decide) (fun c => absurd (by decide) c) (fun _ => ?_)
          refine lv_iload hx hb dX12_firstOpen_24 (lv_at hl 5 rfl) ?_
          refine lv_bipush (v := 24) hx hb dX12_firstOpen_26 (by decide) ?_
          refine lv_idiv hx hb dX12_firstOpen_28 (by decide) ?_
          refine lv_topi (fun x24 ex24 => ?_)
          have ex24 : x24.toInt = v3_5.toInt / (24 : Int) := by rw [ex24]; exact wk_div (show 0 ≤ v3_5.toInt from r9) (show 0 < (24 : Int) by decide)
          refine lv_iconst (v := 1) hx hb dX12_firstOpen_29 (by decide) ?_
          refine lv_iadd hx hb dX12_firstOpen_30 ?_
          refine lv_topi (fun x25 ex25 => ?_)
          have ex25 : x25.toInt = x24.toInt + (1 : Int) := by rw [ex25]; exact wk_add (show (-2147483648) ≤ x24.toInt + (1 : Int) by omega) (show x24.toInt + (1 : Int) ≤ 2147483647 by omega)
          refine lv_bipush (v := 24) hx hb dX12_firstOpen_31 (by decide) ?_
          refine lv_imul hx hb dX12_firstOpen_33 ?_
          refine lv_topi (fun x26 ex26 => ?_)
          have ex26 : x26.toInt = x25.toInt * (24 : Int) := by rw [ex26]; exact wk_mul (show (-2147483648) ≤ x25.toInt * (24 : Int) by omega) (show x25.toInt * (24 : Int) ≤ 2147483647 by omega)
          refine lv_istore (lv' := [(5, .int x26), (0, .ref (ad 0)), (1, .int a1), (2, .int a2), (3, .int a3), (4, .int a4)]) hx hb dX12_firstOpen_34 hl (by decide) rfl (fun ls hl => ?_)
          refine lv_goto (tgt := 3) hx hb dX12_firstOpen_36 (by decide) ?_
          exact ih3 x26 H locs ls  (show 0 ≤ a1.toInt from r1) (show a1.toInt ≤ 11 from t2) (show 0 ≤ a2.toInt from r3) (show a2.toInt ≤ 9 from t4) (show 0 ≤ a3.toInt from r5) (show a3.toInt ≤ 100000100 from t6) (show 2000 ≤ a4.toInt from r7) (show a4.toInt ≤ 101999 from t8) (show 0 ≤ x26.toInt by omega) (show x26.toInt ≤ 100000100 by omega) (show (100000100 - x26.toInt).toNat < n3 by omega) hw   (lv_sub hl [1, 2, 3, 4, 5, 0] rfl)
        · refine lv_if_ne (tgt := 39) hx hb dX12_firstOpen_21 (by decide) (fun c => absurd (by decide) c) (fun _ => ?_)
          refine lv_iload hx hb dX12_firstOpen_24 (lv_at hl 5 rfl) ?_
          refine lv_bipush (v := 24) hx hb dX12_firstOpen_26 (by decide) ?_
          refine lv_idiv hx hb dX12_firstOpen_28 (by decide) ?_
          refine lv_topi (fun x27 ex27 => ?_)
          have ex27 : x27.toInt = v3_5.toInt / (24 : Int) := by rw [ex27]; exact wk_div (show 0 ≤ v3_5.toInt from r9) (show 0 < (24 : Int) by decide)
          refine lv_iconst (v := 1) hx hb dX12_firstOpen_29 (by decide) ?_
          refine lv_iadd hx hb dX12_firstOpen_30 ?_
          refine lv_topi (fun x28 ex28 => ?_)
          have ex28 : x28.toInt = x27.toInt + (1 : Int) := by rw [ex28]; exact wk_add (show (-2147483648) ≤ x27.toInt + (1 : Int) by omega) (show x27.toInt + (1 : Int) ≤ 2147483647 by omega)
          refine lv_bipush (v := 24) hx hb dX12_firstOpen_31 (by decide) ?_
          refine lv_imul hx hb dX12_firstOpen_33 ?_
          refine lv_topi (fun x29 ex29 => ?_)
          have ex29 : x29.toInt = x28.toInt * (24 : Int) := by rw [ex29]; exact wk_mul (show (-2147483648) ≤ x28.toInt * (24 : Int) by omega) (show x28.toInt * (24 : Int) ≤ 2147483647 by omega)
          refine lv_istore (lv' := [(5, .int x29), (0, .ref (ad 0)), (1, .int a1), (2, .int a2), (3, .int a3), (4, .int a4)]) hx hb dX12_firstOpen_34 hl (by decide) rfl (fun ls hl => ?_)
          refine lv_goto (tgt := 3) hx hb dX12_firstOpen_36 (by decide) ?_
          exact ih3 x29 H locs ls  (show 0 ≤ a1.toInt from r1) (show a1.toInt ≤ 11 from t2) (show 0 ≤ a2.toInt from r3) (show a2.toInt ≤ 9 from t4) (show 0 ≤ a3.toInt from r5) (show a3.toInt ≤ 100000100 from t6) (show 2000 ≤ a4.toInt from r7) (show a4.toInt ≤ 101999 from t8) (show 0 ≤ x29.toInt by omega) (show x29.toInt ≤ 100000100 by omega) (show (100000100 - x29.toInt).toNat < n3 by omega) hw   (lv_sub hl [1, 2, 3, 4, 5, 0] rfl)
        · refine lv_if_ne (tgt := 39) hx hb dX12_firstOpen_21 (by decide) (fun _ => ?_) (fun c => absurd c (by decide))
          refine lv_aload_n hx hb dX12_firstOpen_39 rfl (lv_at hl 0 rfl) ?_
          refine lv_iload_n hx hb dX12_firstOpen_40 rfl (lv_at hl 1 rfl) ?_
          refine lv_iload hx hb dX12_firstOpen_41 (lv_at hl 5 rfl) ?_
          refine tk_Vi hC hK hw hT hA hE hSR kM_at0 (by decide) rfl (k_X12_isLifted_3 l adK adV dC dI cy ad B (by omega) (by omega) qr s1   a1 (show 0 ≤ a1.toInt from r1) (show a1.toInt ≤ 11 from t2) v3_5 (show 0 ≤ v3_5.toInt from r9) (show v3_5.toInt ≤ 101999 by omega) w0 H.size hT ) (cwV 2 hC.2.2.2.2 uV_RX12_320 rfl rfl rfl (by decide +kernel) ⟨Nat.le_of_ble_eq_true rfl, Nat.le_of_ble_eq_true rfl⟩) rfl hl.1 rfl (Nat.le_of_ble_eq_true rfl) dX12_firstOpen_43 (fun r30 w32 H locs hp31 hw => ?_)
          obtain ⟨rfl, hg38⟩ := hp31
          rcases hg38 with ⟨rfl, hq34⟩ | ⟨rfl, ⟨x35, c36, rx35, tx35⟩, hq37⟩
          · refine lv_if_eq (tgt := 55) hx hb dX12_firstOpen_46 (by decide) (fun _ => ?_) (fun c => absurd (by decide) c)
            refine lv_iload hx hb dX12_firstOpen_55 (lv_at hl 5 rfl) ?_
            exact tk_iret hC hr hlocks hK ⟨rfl, (Or.inl ⟨(show 0 ≤ v3_5.toInt from r9), (show v3_5.toInt ≤ 100000000 by omega)⟩)⟩ hw dX12_firstOpen_57
          · refine lv_if_eq (tgt := 55) hx hb dX12_firstOpen_46 (by decide) (fun c => absurd c (by decide)) (fun _ => ?_)
            obtain ⟨x39, ex39⟩ : ∃ y : Int32, y = v3_5 + Int32.ofInt 1 := ⟨_, rfl⟩
            refine lv_iinc (v := x39) (lv' := [(5, .int x39), (0, .ref (ad 0)), (1, .int a1), (2, .int a2), (3, .int a3), (4, .int a4)]) hx hb dX12_firstOpen_49 hl (k := 5) rfl ex39.symm (by decide) rfl (fun ls hl => ?_)
            have ex39 : x39.toInt = v3_5.toInt + 1 := by rw [ex39]; exact wk_add (y := 1) (show -2147483648 ≤ v3_5.toInt + 1 by omega) (show v3_5.toInt + 1 ≤ 2147483647 by omega)
            refine lv_goto (tgt := 3) hx hb dX12_firstOpen_52 (by decide) ?_
            exact ih3 x39 H locs ls  (show 0 ≤ a1.toInt from r1) (show a1.toInt ≤ 11 from t2) (show 0 ≤ a2.toInt from r3) (show a2.toInt ≤ 9 from t4) (show 0 ≤ a3.toInt from r5) (show a3.toInt ≤ 100000100 from t6) (show 2000 ≤ a4.toInt from r7) (show a4.toInt ≤ 101999 from t8) (show 0 ≤ x39.toInt by omega) (show x39.toInt ≤ 100000100 by omega) (show (100000100 - x39.toInt).toNat < n3 by omega) hw   (lv_sub hl [1, 2, 3, 4, 5, 0] rfl)
        · refine lv_if_ne (tgt := 39) hx hb dX12_firstOpen_21 (by decide) (fun _ => ?_) (fun c => absurd c (by decide))
          refine lv_aload_n hx hb dX12_firstOpen_39 rfl (lv_at hl 0 rfl) ?_
          refine lv_iload_n hx hb dX12_firstOpen_40 rfl (lv_at hl 1 rfl) ?_
          refine lv_iload hx hb dX12_firstOpen_41 (lv_at hl 5 rfl) ?_
          refine tk_Vi hC hK hw hT hA hE hSR kM_at0 (by decide) rfl (k_X12_isLifted_3 l adK adV dC dI cy ad B (by omega) (by omega) qr s1   a1 (show 0 ≤ a1.toInt from r1) (show a1.toInt ≤ 11 from t2) v3_5 (show 0 ≤ v3_5.toInt from r9) (show v3_5.toInt ≤ 101999 by omega) w0 H.size hT ) (cwV 2 hC.2.2.2.2 uV_RX12_320 rfl rfl rfl (by decide +kernel) ⟨Nat.le_of_ble_eq_true rfl, Nat.le_of_ble_eq_true rfl⟩) rfl hl.1 rfl (Nat.le_of_ble_eq_true rfl) dX12_firstOpen_43 (fun r40 w42 H locs hp41 hw => ?_)
          obtain ⟨rfl, hg48⟩ := hp41
          rcases hg48 with ⟨rfl, hq44⟩ | ⟨rfl, ⟨x45, c46, rx45, tx45⟩, hq47⟩
          · refine lv_if_eq (tgt := 55) hx hb dX12_firstOpen_46 (by decide) (fun _ => ?_) (fun c => absurd (by decide) c)
            refine lv_iload hx hb dX12_firstOpen_55 (lv_at hl 5 rfl) ?_
            exact tk_iret hC hr hlocks hK ⟨rfl, (Or.inr ⟨(show 0 ≤ v3_5.toInt from r9), (show v3_5.toInt ≤ 101999 by omega), c21⟩)⟩ hw dX12_firstOpen_57
          · refine lv_if_eq (tgt := 55) hx hb dX12_firstOpen_46 (by decide) (fun c => absurd c (by decide)) (fun _ => ?_)
            obtain ⟨x49, ex49⟩ : ∃ y : Int32, y = v3_5 + Int32.ofInt 1 := ⟨_, rfl⟩
            refine lv_iinc (v := x49) (lv' := [(5, .int x49), (0, .ref (ad 0)), (1, .int a1), (2, .int a2), (3, .int a3), (4, .int a4)]) hx hb dX12_firstOpen_49 hl (k := 5) rfl ex49.symm (by decide) rfl (fun ls hl => ?_)
            have ex49 : x49.toInt = v3_5.toInt + 1 := by rw [ex49]; exact wk_add (y := 1) (show -2147483648 ≤ v3_5.toInt + 1 by omega) (show v3_5.toInt + 1 ≤ 2147483647 by omega)
            refine lv_goto (tgt := 3) hx hb dX12_firstOpen_52 (by decide) ?_
            exact ih3 x49 H locs ls  (show 0 ≤ a1.toInt from r1) (show a1.toInt ≤ 11 from t2) (show 0 ≤ a2.toInt from r3) (show a2.toInt ≤ 9 from t4) (show 0 ≤ a3.toInt from r5) (show a3.toInt ≤ 100000100 from t6) (show 2000 ≤ a4.toInt from r7) (show a4.toInt ≤ 101999 from t8) (show 0 ≤ x49.toInt by omega) (show x49.toInt ≤ 100000100 by omega) (show (100000100 - x49.toInt).toNat < n3 by omega) hw   (lv_sub hl [1, 2, 3, 4, 5, 0] rfl)
  refine lv_iload_n hx hb dX12_firstOpen_0 rfl (lv_at hl 3 rfl) ?_
  refine lv_istore (lv' := [(5, .int a3), (0, .ref (ad 0)), (1, .int a1), (2, .int a2), (3, .int a3), (4, .int a4)]) hx hb dX12_firstOpen_1 hl (by decide) rfl (fun ls hl => ?_)
  exact L3 ((100000100 - a3.toInt).toNat + 1) a3 s.heap locs ls  (show 0 ≤ a1.toInt from ra1) (show a1.toInt ≤ 11 from ta1) (show 0 ≤ a2.toInt from ra2) (show a2.toInt ≤ 9 from ta2) (show 0 ≤ a3.toInt from ra3) (show a3.toInt ≤ 100000100 from ta3) (show 2000 ≤ a4.toInt from ra4) (show a4.toInt ≤ 101999 from ta4) (show 0 ≤ a3.toInt from ra3) (show a3.toInt ≤ 100000100 from ta3) (Nat.lt_succ_self _) hw   (lv_sub hl [1, 2, 3, 4, 5, 0] rfl)
abbrev P_X12_reaches_1 (ad : Nat → Nat) (cy : Nat → ClassId) (B : Int) (qr : Nat) (s1 : Int) (a1 : Int32) (a2 : Int32) (a3 : Int32) (a4 : Int32) (w0 : va_W) : Int32 → va_W → Prop := fun r u => TW ksM ad cy B qr 12 u ∧ FE ksM [(77, 0, 10), (78, 0, 10)] w0 u ∧ ((0 ≤ r.toInt ∧ r.toInt ≤ 100000100))
set_option maxHeartbeats 4000000 in
set_option maxRecDepth 100000 in
theorem k_X12_reaches_1 (l : Launch) (adK adV : Nat → Nat) (dC : Nat → ClassId) (dI : Nat → Nat → Nat) (cy : Nat → ClassId) (ad : Nat → Nat) (B : Int) (hB0 : 100000 ≤ B) (hB1 : B ≤ 1073741824) (qr : Nat) (s1 : Int)  (a1 : Int32) (ra1 : 0 ≤ a1.toInt) (ta1 : a1.toInt ≤ 9) (a2 : Int32) (ra2 : 0 ≤ a2.toInt) (ta2 : a2.toInt ≤ 9) (a3 : Int32) (ra3 : 0 ≤ a3.toInt) (ta3 : a3.toInt ≤ 99999) (a4 : Int32) (ra4 : 2000 ≤ a4.toInt) (ta4 : a4.toInt ≤ 101999) (w0 : va_W) (sz : Nat) (hT : TW ksM ad cy B qr 12 w0)  : Met l yX12_reaches (wu yX12_reaches cX12_reaches 9 (some .int)) ({ frames := 5, cells := 0, slots := 0, locals := 105 }) (va_Pc [.ref (ad 0), .int a1, .int a2, .int a3, .int a4] (wpreS adK adV dC dI cy sz w0)) (va_Qi (P_X12_reaches_1 ad cy B qr s1 a1 a2 a3 a4 w0) (fun u : va_W => wpost dC dI cy (va_A w0 sz) u) (va_A w0 sz)) 0 0 (va_A w0 sz) := by
  refine Met.ofW (cc := cX12_reaches) (maxL := 9) (ret := (some .int)) (by decide) rfl ?_
  intro p e s m args below meth c s₁ Bk hml hv
  obtain ⟨rfl, ⟨hsz, hP, hK, hD0⟩, hE, hSR⟩ := hv
  have hx := Bk.exec
  have hb := Bk.bytes
  have hr := Bk.returns
  have hlocks := Bk.notSynchronized
  have hC : CallFix p m c cX12_reaches 9 s _ (wu yX12_reaches cX12_reaches 9 (some .int)) RX12 := ⟨hx, hb, hml, findClass_of_methodNamed Bk.named, atoms_spec (ws := (wu yX12_reaches cX12_reaches 9 (some .int))) Bk.pre⟩
  subst hsz
  have hD := hD0.self (sz := s.heap.size)
  generalize hAe : va_A w0 s.heap.size = A at hD hE ⊢
  have hA : ∀ q : Nat, s.heap.size ≤ q → A q := fun q h => by rw [← hAe]; exact Or.inr h
  have hw : Wd dC dI A s.heap s.heap [] w0 := ⟨hP, hD, va_S.rf⟩
  have hF : FE ksM [(77, 0, 10), (78, 0, 10)] w0 w0 := FE.rf
  have hl := lv_entry ([.ref (ad 0), .int a1, .int a2, .int a3, .int a4]) (n := 9) (Nat.le_of_ble_eq_true rfl)
  rw [lg_entry_eq]
  generalize (lg_sl ([.ref (ad 0), .int a1, .int a2, .int a3, .int a4]) ++ List.replicate (9 - (lg_sl ([.ref (ad 0), .int a1, .int a2, .int a3, .int a4])).length) Slot.unset).toArray = ls at hl ⊢
  have hl : lv_has ls 9 [(0, .ref (ad 0)), (1, .int a1), (2, .int a2), (3, .int a3), (4, .int a4)] := hl
  generalize hloc : ([] : List Loc) = locs at hw ⊢
  have hinX12 : ∀ w ∈ u_ws RX12 TX12 42, w ∈ (wu yX12_reaches cX12_reaches 9 (some .int)) := fun _ h => List.mem_cons_of_mem _ (up_71 h)
  have L44 : ∀ (n44 : Nat) (v44_5 : Int32) (H : Heap) (locs : List Loc) (ls : Array Slot) (w1 : va_W), 0 ≤ a1.toInt → a1.toInt ≤ 9 → 0 ≤ a2.toInt → a2.toInt ≤ 9 → 0 ≤ a3.toInt → a3.toInt ≤ 99999 → 2000 ≤ a4.toInt → a4.toInt ≤ 101999 → 0 ≤ v44_5.toInt → v44_5.toInt ≤ 10 → (0 ≤ (sumG 19 10 w1)) → (10 - (sumG 19 10 w1)).toNat < n44 → Wd dC dI A s.heap H locs w1 → TW ksM ad cy B qr 12 w1 → FE ksM [(77, 0, 10), (78, 0, 10)] w0 w1 → lv_has ls 9 [(0, .ref (ad 0)), (1, .int a1), (2, .int a2), (3, .int a3), (4, .int a4), (5, .int v44_5)] → W p l e ({ frames := 5, cells := 0, slots := 0, locals := 105 }) s m (List.toArray [.ref (ad 0), .int a1, .int a2, .int a3, .int a4]) below meth c H locs 0 0 (MQ below (va_Qi (P_X12_reaches_1 ad cy B qr s1 a1 a2 a3 a4 w0) (fun u : va_W => wpost dC dI cy A u) A) (List.toArray [.ref (ad 0), .int a1, .int a2, .int a3, .int a4]) s 0 0 A) (F0 m 44 ls []) := by
    intro n44
    induction n44 with
    | zero => intro v44_5 H locs ls w1 r2 t3 r4 t5 r6 t7 r8 t9 r10 t11 hcr44_0 hm44 hw hT hF hl; omega
    | succ n44 ih44 =>
      intro v44_5 H locs ls w1 r2 t3 r4 t5 r6 t7 r8 t9 r10 t11 hcr44_0 hm44 hw hT hF hl
      have L145 : ∀ (n145 : Nat) (v145_5 : Int32) (v145_6 : Int32) (f145_12_0 : Int32) (H : Heap) (locs : List Loc) (ls : Array Slot) (w12 : va_W), 0 ≤ a1.toInt → a1.toInt ≤ 9 → 0 ≤ a2.toInt → a2.toInt ≤ 9 → 0 ≤ a3.toInt → a3.toInt ≤ 99999 → 2000 ≤ a4.toInt → a4.toInt ≤ 101999 → 0 ≤ v145_5.toInt → v145_5.toInt ≤ 9 → 0 ≤ v145_6.toInt → v145_6.toInt ≤ 12 → 0 ≤ f145_12_0.toInt → f145_12_0.toInt ≤ 10 → ((sumG 19 10 w1) + 1 ≤ (sumG 19 10 w12)) → (12 - v145_6.toInt).toNat < n145 → Wd dC dI A s.heap H locs w12 → TW ksM ad cy B qr 12 w12 → FE ksM [(77, 0, 10), (78, 0, 10)] w0 w12 → gi w12 12 0 = f145_12_0 → lv_has ls 9 [(0, .ref (ad 0)), (1, .int a1), (2, .int a2), (3, .int a3), (4, .int a4), (5, .int v145_5), (6, .int v145_6)] → W p l e ({ frames := 5, cells := 0, slots := 0, locals := 105 }) s m (List.toArray [.ref (ad 0), .int a1, .int a2, .int a3, .int a4]) below meth c H locs 0 0 (MQ below (va_Qi (P_X12_reaches_1 ad cy B qr s1 a1 a2 a3 a4 w0) (fun u : va_W => wpost dC dI cy A u) A) (List.toArray [.ref (ad 0), .int a1, .int a2, .int a3, .int a4]) s 0 0 A) (F0 m 145 ls []) := by
        intro n145
        induction n145 with
        | zero => intro v145_5 v145_6 f145_12_0 H locs ls w12 r13 t14 r15 t16 r17 t18 r19 t20 r21 t22 r23 t24 r25 t26 hcr145_0 hm145 hw hT hF c27 hl; omega
        | succ n145 ih145 =>
          intro v145_5 v145_6 f145_12_0 H locs ls w12 r13 t14 r15 t16 r17 t18 r19 t20 r21 t22 r23 t24 r25 t26 hcr145_0 hm145 hw hT hF c27 hl
          have J259 : ∀ (f259_12_1 : Int32) (H : Heap) (locs : List Loc) (ls : Array Slot) (w28 : va_W), 0 ≤ a1.toInt → a1.toInt ≤ 9 → 0 ≤ a2.toInt → a2.toInt ≤ 9 → 0 ≤ a3.toInt → a3.toInt ≤ 99999 → 2000 ≤ a4.toInt → a4.toInt ≤ 101999 → 0 ≤ v145_5.toInt → v145_5.toInt ≤ 9 → 0 ≤ v145_6.toInt → v145_6.toInt ≤ 11 → 0 ≤ f145_12_0.toInt → f145_12_0.toInt ≤ 10 → 1 ≤ f259_12_1.toInt → f259_12_1.toInt ≤ 12 → ((sumG 19 10 w1) + 1 ≤ (sumG 19 10 w28)) → Wd dC dI A s.heap H locs w28 → TW ksM ad cy B qr 12 w28 → FE ksM [(77, 0, 10), (78, 0, 10)] w0 w28 → gi w28 12 0 = f145_12_0 → gi w28 12 1 = f259_12_1 → lv_has ls 9 [(0, .ref (ad 0)), (1, .int a1), (2, .int a2), (3, .int a3), (4, .int a4), (5, .int v145_5), (6, .int v145_6)] → W p l e ({ frames := 5, cells := 0, slots := 0, locals := 105 }) s m (List.toArray [.ref (ad 0), .int a1, .int a2, .int a3, .int a4]) below meth c H locs 0 0 (MQ below (va_Qi (P_X12_reaches_1 ad cy B qr s1 a1 a2 a3 a4 w0) (fun u : va_W => wpost dC dI cy A u) A) (List.toArray [.ref (ad 0), .int a1, .int a2, .int a3, .int a4]) s 0 0 A) (F0 m 259 ls []) := by
            intro f259_12_1 H locs ls w28 r29 t30 r31 t32 r33 t34 r35 t36 r37 t38 r39 t40 r41 t42 r44 t45 hcr259_0 hw hT hF c43 c46 hl
            obtain ⟨x47, ex47⟩ : ∃ y : Int32, y = v145_6 + Int32.ofInt 1 := ⟨_, rfl⟩
            refine lv_iinc (v := x47) (lv' := [(6, .int x47), (0, .ref (ad 0)), (1, .int a1), (2, .int a2), (3, .int a3), (4, .int a4), (5, .int v145_5)]) hx hb dX12_reaches_259 hl (k := 6) rfl ex47.symm (by decide) rfl (fun ls hl => ?_)
            have ex47 : x47.toInt = v145_6.toInt + 1 := by rw [ex47]; exact wk_add (y := 1) (show -2147483648 ≤ v145_6.toInt + 1 by omega) (show v145_6.toInt + 1 ≤ 2147483647 by omega)
            refine lv_goto (tgt := 145) hx hb dX12_reaches_262 (by decide) ?_
            have gb48 : 0 ≤ sumG 19 10 w28 ∧ sumG 19 10 w28 ≤ 10 := hT.sum (lo := 0) (hi := 1) kM_at19 rfl (by decide) rfl
            exact ih145 v145_5 x47 f145_12_0 H locs ls w28 (show 0 ≤ a1.toInt from r29) (show a1.toInt ≤ 9 from t30) (show 0 ≤ a2.toInt from r31) (show a2.toInt ≤ 9 from t32) (show 0 ≤ a3.toInt from r33) (show a3.toInt ≤ 99999 from t34) (show 2000 ≤ a4.toInt from r35) (show a4.toInt ≤ 101999 from t36) (show 0 ≤ v145_5.toInt from r37) (show v145_5.toInt ≤ 9 from t38) (show 0 ≤ x47.toInt by omega) (show x47.toInt ≤ 12 by omega) (show 0 ≤ f145_12_0.toInt from r41) (show f145_12_0.toInt ≤ 10 from t42) (show (sumG 19 10 w1) + 1 ≤ (sumG 19 10 w28) by omega) (show (12 - x47.toInt).toNat < n145 by omega) hw hT hF c43 (lv_sub hl [1, 2, 3, 4, 5, 6, 0] rfl)
          refine lv_iload hx hb dX12_reaches_145 (lv_at hl 6 rfl) ?_
          refine lv_aload_n hx hb dX12_reaches_147 rfl (lv_at hl 0 rfl) ?_
          refine tk_getA hC hK hw hT hinX12 kM_at0 (by decide) rfl 26 (by decide) (List.mem_cons_of_mem _ uw_7_1) rfl rfl dX12_reaches_148 ?_
          refine lv_iconst (v := 1) hx hb dX12_reaches_151 (by decide) ?_
          refine tk_ialdR hC hK hw hT kM_at12 rfl (by decide) (by decide) dX12_reaches_152 (fun x49 c50 Ex49 => ?_)
          have bx49 : 0 ≤ x49.toInt ∧ x49.toInt ≤ 12 := (tk_rg1 rfl).mp Ex49
          have c50 : gi w12 12 1 = x49 := c50
          refine lv_icmp_ge (tgt := 265) hx hb dX12_reaches_153 (by decide) (fun c51 => ?_) (fun c51 => ?_)
          · have c51 : x49.toInt ≤ v145_6.toInt := wk_le.mp c51
            refine lv_goto (tgt := 44) hx hb dX12_reaches_265 (by decide) ?_
            have gb52 : 0 ≤ sumG 19 10 w12 ∧ sumG 19 10 w12 ≤ 10 := hT.sum (lo := 0) (hi := 1) kM_at19 rfl (by decide) rfl
            exact ih44 v145_5 H locs ls w12 (show 0 ≤ a1.toInt from r13) (show a1.toInt ≤ 9 from t14) (show 0 ≤ a2.toInt from r15) (show a2.toInt ≤ 9 from t16) (show 0 ≤ a3.toInt from r17) (show a3.toInt ≤ 99999 from t18) (show 2000 ≤ a4.toInt from r19) (show a4.toInt ≤ 101999 from t20) (show 0 ≤ v145_5.toInt from r21) (show v145_5.toInt ≤ 10 from Int.le_trans t22 (by decide)) (show 0 ≤ (sumG 19 10 w12) by omega) (show (10 - (sumG 19 10 w12)).toNat < n44 by omega) hw hT hF  (lv_sub hl [0, 1, 2, 3, 4, 5] rfl)
          · have c51 : v145_6.toInt < x49.toInt := wk_leF c51
            refine lv_aload_n hx hb dX12_reaches_156 rfl (lv_at hl 0 rfl) ?_
            refine lv_iload hx hb dX12_reaches_157 (lv_at hl 6 rfl) ?_
            refine lv_iload hx hb dX12_reaches_159 (lv_at hl 5 rfl) ?_
            refine tk_Vi hC hK hw hT hA hE hSR kM_at0 (by decide) rfl (k_X12_isAt_1 l adK adV dC dI cy ad B (by omega) (by omega) qr s1   v145_6 (show 0 ≤ v145_6.toInt from r23) (show v145_6.toInt ≤ 11 by omega) v145_5 (show 0 ≤ v145_5.toInt from r21) (show v145_5.toInt ≤ 9 from t22) w12 H.size hT ) (cwV 2 hC.2.2.2.2 uV_RX12_314 rfl rfl rfl (by decide +kernel) ⟨Nat.le_of_ble_eq_true rfl, Nat.le_of_ble_eq_true rfl⟩) rfl hl.1 rfl (Nat.le_of_ble_eq_true rfl) dX12_reaches_161 (fun r53 w55 H locs hp54 hw => ?_)
            obtain ⟨rfl, hg62⟩ := hp54
            rcases hg62 with ⟨rfl, hq57⟩ | ⟨rfl, c58, hq59⟩ | ⟨rfl, c60, hq61⟩
            · refine lv_if_ne (tgt := 170) hx hb dX12_reaches_164 (by decide) (fun c => absurd (by decide) c) (fun _ => ?_)
              refine lv_goto (tgt := 259) hx hb dX12_reaches_167 (by decide) ?_
              have gb63 : 0 ≤ sumG 19 10 w12 ∧ sumG 19 10 w12 ≤ 10 := hT.sum (lo := 0) (hi := 1) kM_at19 rfl (by decide) rfl
              exact J259 x49 H locs ls w12 (show 0 ≤ a1.toInt from r13) (show a1.toInt ≤ 9 from t14) (show 0 ≤ a2.toInt from r15) (show a2.toInt ≤ 9 from t16) (show 0 ≤ a3.toInt from r17) (show a3.toInt ≤ 99999 from t18) (show 2000 ≤ a4.toInt from r19) (show a4.toInt ≤ 101999 from t20) (show 0 ≤ v145_5.toInt from r21) (show v145_5.toInt ≤ 9 from t22) (show 0 ≤ v145_6.toInt from r23) (show v145_6.toInt ≤ 11 by omega) (show 0 ≤ f145_12_0.toInt from r25) (show f145_12_0.toInt ≤ 10 from t26) (show 1 ≤ x49.toInt by omega) (show x49.toInt ≤ 12 by omega) (show (sumG 19 10 w1) + 1 ≤ (sumG 19 10 w12) by omega)  hw hT hF c27 c50 (lv_sub hl [0, 1, 2, 3, 4, 5, 6] rfl)
            · refine lv_if_ne (tgt := 170) hx hb dX12_reaches_164 (by decide) (fun _ => ?_) (fun c => absurd c (by decide))
              refine lv_aload_n hx hb dX12_reaches_170 rfl (lv_at hl 0 rfl) ?_
              refine lv_iload hx hb dX12_reaches_171 (lv_at hl 6 rfl) ?_
              refine lv_iload hx hb dX12_reaches_173 (lv_at hl 5 rfl) ?_
              refine lv_aload_n hx hb dX12_reaches_175 rfl (lv_at hl 0 rfl) ?_
              refine tk_getA hC hK hw hT hinX12 kM_at0 (by decide) rfl 35 (by decide) (List.mem_cons_of_mem _ uw_7_8) rfl rfl dX12_reaches_176 ?_
              refine lv_iload hx hb dX12_reaches_179 (lv_at hl 5 rfl) ?_
              refine tk_iald hC hK hw hT kM_at18 rfl rfl (show 0 ≤ v145_5.toInt from r21) (show v145_5.toInt < 10 from Int.lt_of_le_of_lt t22 (by decide)) dX12_reaches_181 (fun x64 c65 rx64 tx64 => ?_)
              refine lv_iload hx hb dX12_reaches_182 (lv_at hl 4 rfl) ?_
              refine tk_Vi hC hK hw hT hA hE hSR kM_at0 (by decide) rfl (k_X12_firstOpen_1 l adK adV dC dI cy ad B (by omega) (by omega) qr s1   v145_6 (show 0 ≤ v145_6.toInt from r23) (show v145_6.toInt ≤ 11 by omega) v145_5 (show 0 ≤ v145_5.toInt from r21) (show v145_5.toInt ≤ 9 from t22) x64 (show 0 ≤ x64.toInt from rx64) (show x64.toInt ≤ 100000100 from tx64) a4 (show 2000 ≤ a4.toInt from r19) (show a4.toInt ≤ 101999 from t20) w12 H.size hT ) (cwV 4 hC.2.2.2.2 uV_RX12_449 rfl rfl rfl (by decide +kernel) ⟨Nat.le_of_ble_eq_true rfl, Nat.le_of_ble_eq_true rfl⟩) rfl hl.1 rfl (Nat.le_of_ble_eq_true rfl) dX12_reaches_184 (fun r66 w68 H locs hp67 hw => ?_)
              obtain ⟨rfl, hg75⟩ := hp67
              rcases hg75 with ⟨g70, g71⟩ | ⟨g72, g73, c74⟩
              · refine lv_istore (lv' := [(7, .int r66), (0, .ref (ad 0)), (1, .int a1), (2, .int a2), (3, .int a3), (4, .int a4), (5, .int v145_5), (6, .int v145_6)]) hx hb dX12_reaches_187 hl (by decide) rfl (fun ls hl => ?_)
                refine lv_aload_n hx hb dX12_reaches_189 rfl (lv_at hl 1 rfl) ?_
                refine lv_iload hx hb dX12_reaches_190 (lv_at hl 7 rfl) ?_
                refine lv_iload hx hb dX12_reaches_192 (lv_at hl 6 rfl) ?_
                refine tk_Vi hC hK hw hT hA hE hSR kM_at0 (by decide) rfl (k_X12_otherOf_1 l adK adV dC dI cy ad B (by omega) (by omega) qr s1   v145_6 (show 0 ≤ v145_6.toInt from r23) (show v145_6.toInt ≤ 11 by omega) v145_5 (show 0 ≤ v145_5.toInt from r21) (show v145_5.toInt ≤ 9 from t22) w12 H.size hT ) (cwV 2 hC.2.2.2.2 uV_RX12_348 rfl rfl rfl (by decide +kernel) ⟨Nat.le_of_ble_eq_true rfl, Nat.le_of_ble_eq_true rfl⟩) rfl hl.1 rfl (Nat.le_of_ble_eq_true rfl) dX12_reaches_194 (fun r76 w78 H locs hp77 hw => ?_)
                obtain ⟨rfl, hg85⟩ := hp77
                rcases hg85 with ⟨g80, g81⟩ | ⟨g82, g83, c84⟩
                · refine lv_istore (lv' := [(8, .int r76), (7, .int r66), (0, .ref (ad 0)), (1, .int a1), (2, .int a2), (3, .int a3), (4, .int a4), (5, .int v145_5), (6, .int v145_6)]) hx hb dX12_reaches_197 hl (by decide) rfl (fun ls hl => ?_)
                  refine lv_iload hx hb dX12_reaches_199 (lv_at hl 1 rfl) ?_
                  refine lv_ldcw (v := 100000000) hx hb hC.2.2.2.1 (hC.2.2.2.2 _ (List.mem_cons_of_mem _ uw_38_2)) dX12_reaches_201 ?_
                  refine lv_icmp_ge (tgt := 259) hx hb dX12_reaches_204 (by decide) (fun c86 => ?_) (fun c86 => ?_)
                  · have c86 : (100000000 : Int) ≤ r66.toInt := wk_le.mp c86
                    have gb87 : 0 ≤ sumG 19 10 w12 ∧ sumG 19 10 w12 ≤ 10 := hT.sum (lo := 0) (hi := 1) kM_at19 rfl (by decide) rfl
                    exact J259 x49 H locs ls w12 (show 0 ≤ a1.toInt from r13) (show a1.toInt ≤ 9 from t14) (show 0 ≤ a2.toInt from r15) (show a2.toInt ≤ 9 from t16) (show 0 ≤ a3.toInt from r17) (show a3.toInt ≤ 99999 from t18) (show 2000 ≤ a4.toInt from r19) (show a4.toInt ≤ 101999 from t20) (show 0 ≤ v145_5.toInt from r21) (show v145_5.toInt ≤ 9 from t22) (show 0 ≤ v145_6.toInt from r23) (show v145_6.toInt ≤ 11 by omega) (show 0 ≤ f145_12_0.toInt from r25) (show f145_12_0.toInt ≤ 10 from t26) (show 1 ≤ x49.toInt by omega) (show x49.toInt ≤ 12 by omega) (show (sumG 19 10 w1) + 1 ≤ (sumG 19 10 w12) by omega)  hw hT hF c27 c50 (lv_sub hl [2, 3, 4, 5, 6, 7, 8] rfl)
                  · have c86 : r66.toInt < (100000000 : Int) := wk_leF c86
                    refine lv_iload hx hb dX12_reaches_207 (lv_at hl 1 rfl) ?_
                    refine lv_aload_n hx hb dX12_reaches_209 rfl (lv_at hl 2 rfl) ?_
                    refine lv_iload hx hb dX12_reaches_210 (lv_at hl 8 rfl) ?_
                    refine lv_iconst (v := 2) hx hb dX12_reaches_212 (by decide) ?_
                    refine tk_Vi hC hK hw hT hA hE hSR kM_at0 (by decide) rfl (k_X12_streetOf_6 l adK adV dC dI cy ad B (by omega) (by omega) qr s1   v145_6 (show 0 ≤ v145_6.toInt from r23) (show v145_6.toInt ≤ 11 by omega) w12 H.size hT ) (cwV 2 hC.2.2.2.2 uV_RX12_300 rfl rfl rfl (by decide +kernel) ⟨Nat.le_of_ble_eq_true rfl, Nat.le_of_ble_eq_true rfl⟩) rfl hl.1 rfl (Nat.le_of_ble_eq_true rfl) dX12_reaches_213 (fun r88 w90 H locs hp89 hw => ?_)
                    obtain ⟨rfl, hg95⟩ := hp89
                    obtain ⟨g92, g93, c94⟩ := hg95
                    refine lv_iadd hx hb dX12_reaches_216 ?_
                    refine lv_topi (fun x96 ex96 => ?_)
                    have ex96 : x96.toInt = r66.toInt + r88.toInt := by rw [ex96]; exact wk_add (show (-2147483648) ≤ r66.toInt + r88.toInt by omega) (show r66.toInt + r88.toInt ≤ 2147483647 by omega)
                    refine lv_iload hx hb dX12_reaches_217 (lv_at hl 6 rfl) ?_
                    refine lv_icmp_gt (tgt := 259) hx hb dX12_reaches_219 (by decide) (fun c97 => ?_) (fun c97 => ?_)
                    · have c97 : a4.toInt < x96.toInt := wk_lt.mp c97
                      have gb98 : 0 ≤ sumG 19 10 w12 ∧ sumG 19 10 w12 ≤ 10 := hT.sum (lo := 0) (hi := 1) kM_at19 rfl (by decide) rfl
                      exact J259 x49 H locs ls w12 (show 0 ≤ a1.toInt from r13) (show a1.toInt ≤ 9 from t14) (show 0 ≤ a2.toInt from r15) (show a2.toInt ≤ 9 from t16) (show 0 ≤ a3.toInt from r17) (show a3.toInt ≤ 99999 from t18) (show 2000 ≤ a4.toInt from r19) (show a4.toInt ≤ 101999 from t20) (show 0 ≤ v145_5.toInt from r21) (show v145_5.toInt ≤ 9 from t22) (show 0 ≤ v145_6.toInt from r23) (show v145_6.toInt ≤ 11 by omega) (show 0 ≤ f145_12_0.toInt from r25) (show f145_12_0.toInt ≤ 10 from t26) (show 1 ≤ x49.toInt by omega) (show x49.toInt ≤ 12 by omega) (show (sumG 19 10 w1) + 1 ≤ (sumG 19 10 w12) by omega)  hw hT hF c27 c50 (lv_sub hl [2, 3, 4, 5, 6, 7, 8] rfl)
                    · have c97 : x96.toInt ≤ a4.toInt := wk_ltF c97
                      refine lv_iload hx hb dX12_reaches_222 (lv_at hl 1 rfl) ?_
                      refine lv_aload_n hx hb dX12_reaches_224 rfl (lv_at hl 2 rfl) ?_
                      refine lv_iload hx hb dX12_reaches_225 (lv_at hl 8 rfl) ?_
                      refine lv_iconst (v := 2) hx hb dX12_reaches_227 (by decide) ?_
                      refine tk_Vi hC hK hw hT hA hE hSR kM_at0 (by decide) rfl (k_X12_streetOf_6 l adK adV dC dI cy ad B (by omega) (by omega) qr s1   v145_6 (show 0 ≤ v145_6.toInt from r23) (show v145_6.toInt ≤ 11 by omega) w12 H.size hT ) (cwV 2 hC.2.2.2.2 uV_RX12_300 rfl rfl rfl (by decide +kernel) ⟨Nat.le_of_ble_eq_true rfl, Nat.le_of_ble_eq_true rfl⟩) rfl hl.1 rfl (Nat.le_of_ble_eq_true rfl) dX12_reaches_228 (fun r99 w101 H locs hp100 hw => ?_)
                      obtain ⟨rfl, hg106⟩ := hp100
                      obtain ⟨g103, g104, c105⟩ := hg106
                      obtain rfl : r88 = r99 := c94.symm.trans c105
                      refine lv_iadd hx hb dX12_reaches_231 ?_
                      refine lv_topi (fun x107 ex107 => ?_)
                      have ex107 : x107.toInt = r66.toInt + r88.toInt := by rw [ex107]; exact wk_add (show (-2147483648) ≤ r66.toInt + r88.toInt by omega) (show r66.toInt + r88.toInt ≤ 2147483647 by omega)
                      refine lv_aload_n hx hb dX12_reaches_232 rfl (lv_at hl 2 rfl) ?_
                      refine tk_getA hC hK hw hT hinX12 kM_at0 (by decide) rfl 35 (by decide) (List.mem_cons_of_mem _ uw_7_8) rfl rfl dX12_reaches_233 ?_
                      refine lv_iload hx hb dX12_reaches_236 (lv_at hl 0 rfl) ?_
                      refine tk_iald hC hK hw hT kM_at18 rfl rfl (show 0 ≤ r76.toInt by omega) (show r76.toInt < 10 by omega) dX12_reaches_238 (fun x108 c109 rx108 tx108 => ?_)
                      refine lv_icmp_ge (tgt := 259) hx hb dX12_reaches_239 (by decide) (fun c110 => ?_) (fun c110 => ?_)
                      · have c110 : x108.toInt ≤ x107.toInt := wk_le.mp c110
                        have gb111 : 0 ≤ sumG 19 10 w12 ∧ sumG 19 10 w12 ≤ 10 := hT.sum (lo := 0) (hi := 1) kM_at19 rfl (by decide) rfl
                        exact J259 x49 H locs ls w12 (show 0 ≤ a1.toInt from r13) (show a1.toInt ≤ 9 from t14) (show 0 ≤ a2.toInt from r15) (show a2.toInt ≤ 9 from t16) (show 0 ≤ a3.toInt from r17) (show a3.toInt ≤ 99999 from t18) (show 2000 ≤ a4.toInt from r19) (show a4.toInt ≤ 101999 from t20) (show 0 ≤ v145_5.toInt from r21) (show v145_5.toInt ≤ 9 from t22) (show 0 ≤ v145_6.toInt from r23) (show v145_6.toInt ≤ 11 by omega) (show 0 ≤ f145_12_0.toInt from r25) (show f145_12_0.toInt ≤ 10 from t26) (show 1 ≤ x49.toInt by omega) (show x49.toInt ≤ 12 by omega) (show (sumG 19 10 w1) + 1 ≤ (sumG 19 10 w12) by omega)  hw hT hF c27 c50 (lv_sub hl [2, 3, 4, 5, 6, 7, 8] rfl)
                      · have c110 : x107.toInt < x108.toInt := wk_leF c110
                        refine lv_aload_n hx hb dX12_reaches_242 rfl (lv_at hl 2 rfl) ?_
                        refine tk_getA hC hK hw hT hinX12 kM_at0 (by decide) rfl 35 (by decide) (List.mem_cons_of_mem _ uw_7_8) rfl rfl dX12_reaches_243 ?_
                        refine lv_iload hx hb dX12_reaches_246 (lv_at hl 0 rfl) ?_
                        refine lv_iload hx hb dX12_reaches_248 (lv_at hl 1 rfl) ?_
                        refine lv_aload_n hx hb dX12_reaches_250 rfl (lv_at hl 2 rfl) ?_
                        refine lv_iload hx hb dX12_reaches_251 (lv_at hl 8 rfl) ?_
                        refine lv_iconst (v := 2) hx hb dX12_reaches_253 (by decide) ?_
                        refine tk_Vi hC hK hw hT hA hE hSR kM_at0 (by decide) rfl (k_X12_streetOf_6 l adK adV dC dI cy ad B (by omega) (by omega) qr s1   v145_6 (show 0 ≤ v145_6.toInt from r23) (show v145_6.toInt ≤ 11 by omega) w12 H.size hT ) (cwV 2 hC.2.2.2.2 uV_RX12_300 rfl rfl rfl (by decide +kernel) ⟨Nat.le_of_ble_eq_true rfl, Nat.le_of_ble_eq_true rfl⟩) rfl hl.1 rfl (Nat.le_of_ble_eq_true rfl) dX12_reaches_254 (fun r112 w114 H locs hp113 hw => ?_)
                        obtain ⟨rfl, hg119⟩ := hp113
                        obtain ⟨g116, g117, c118⟩ := hg119
                        obtain rfl : r88 = r112 := c94.symm.trans c118
                        refine lv_iadd hx hb dX12_reaches_257 ?_
                        refine lv_topi (fun x120 ex120 => ?_)
                        have ex120 : x120.toInt = r66.toInt + r88.toInt := by rw [ex120]; exact wk_add (show (-2147483648) ≤ r66.toInt + r88.toInt by omega) (show r66.toInt + r88.toInt ≤ 2147483647 by omega)
                        refine tk_iast hC hK hw hT kM_at18 (by decide) rfl rfl (show 0 ≤ r76.toInt by omega) (show r76.toInt < 10 by omega) (show 0 ≤ x120.toInt by omega) (show x120.toInt ≤ 100000100 by omega) dX12_reaches_258 (fun H locs w121 hw hT k123 c122 => ?_)
                        have gs124 : sumG 19 10 w121 = sumG 19 10 w12 := sumG_ne 10 k123 (tk_ne kM_at19 kM_at18 (by decide))
                        have hF := hF.put kM_at18 (inE_of (a := 0) (b := 10) (by decide) (show 0 ≤ r76.toInt.toNat by omega) (show r76.toInt.toNat ≤ 10 by omega)) k123
                        have c125 := k123.gi (Or.inl (tk_ne kM_at12 kM_at18 (by decide))) c27
                        have c126 := k123.gi (Or.inl (tk_ne kM_at12 kM_at18 (by decide))) c50
                        have c127 := k123.gi (Or.inl (tk_ne kM_at12 kM_at18 (by decide))) c58
                        have c128 := k123.gi (Or.inl (tk_ne kM_at12 kM_at18 (by decide))) c94
                        have gb129 : 0 ≤ sumG 19 10 w121 ∧ sumG 19 10 w121 ≤ 10 := hT.sum (lo := 0) (hi := 1) kM_at19 rfl (by decide) rfl
                        exact J259 x49 H locs ls w121 (show 0 ≤ a1.toInt from r13) (show a1.toInt ≤ 9 from t14) (show 0 ≤ a2.toInt from r15) (show a2.toInt ≤ 9 from t16) (show 0 ≤ a3.toInt from r17) (show a3.toInt ≤ 99999 from t18) (show 2000 ≤ a4.toInt from r19) (show a4.toInt ≤ 101999 from t20) (show 0 ≤ v145_5.toInt from r21) (show v145_5.toInt ≤ 9 from t22) (show 0 ≤ v145_6.toInt from r23) (show v145_6.toInt ≤ 11 by omega) (show 0 ≤ f145_12_0.toInt from r25) (show f145_12_0.toInt ≤ 10 from t26) (show 1 ≤ x49.toInt by omega) (show x49.toInt ≤ 12 by omega) (show (sumG 19 10 w1) + 1 ≤ (sumG 19 10 w121) by omega)  hw hT hF c125 c126 (lv_sub hl [2, 3, 4, 5, 6, 7, 8] rfl)
                · refine lv_istore (lv' := [(8, .int r76), (7, .int r66), (0, .ref (ad 0)), (1, .int a1), (2, .int a2), (3, .int a3), (4, .int a4), (5, .int v145_5), (6, .int v145_6)]) hx hb dX12_reaches_197 hl (by decide) rfl (fun ls hl => ?_)
                  refine lv_iload hx hb dX12_reaches_199 (lv_at hl 1 rfl) ?_
                  refine lv_ldcw (v := 100000000) hx hb hC.2.2.2.1 (hC.2.2.2.2 _ (List.mem_cons_of_mem _ uw_38_2)) dX12_reaches_201 ?_
                  refine lv_icmp_ge (tgt := 259) hx hb dX12_reaches_204 (by decide) (fun c130 => ?_) (fun c130 => ?_)
                  · have c130 : (100000000 : Int) ≤ r66.toInt := wk_le.mp c130
                    have gb131 : 0 ≤ sumG 19 10 w12 ∧ sumG 19 10 w12 ≤ 10 := hT.sum (lo := 0) (hi := 1) kM_at19 rfl (by decide) rfl
                    exact J259 x49 H locs ls w12 (show 0 ≤ a1.toInt from r13) (show a1.toInt ≤ 9 from t14) (show 0 ≤ a2.toInt from r15) (show a2.toInt ≤ 9 from t16) (show 0 ≤ a3.toInt from r17) (show a3.toInt ≤ 99999 from t18) (show 2000 ≤ a4.toInt from r19) (show a4.toInt ≤ 101999 from t20) (show 0 ≤ v145_5.toInt from r21) (show v145_5.toInt ≤ 9 from t22) (show 0 ≤ v145_6.toInt from r23) (show v145_6.toInt ≤ 11 by omega) (show 0 ≤ f145_12_0.toInt from r25) (show f145_12_0.toInt ≤ 10 from t26) (show 1 ≤ x49.toInt by omega) (show x49.toInt ≤ 12 by omega) (show (sumG 19 10 w1) + 1 ≤ (sumG 19 10 w12) by omega)  hw hT hF c27 c50 (lv_sub hl [2, 3, 4, 5, 6, 7, 8] rfl)
                  · have c130 : r66.toInt < (100000000 : Int) := wk_leF c130
                    refine lv_iload hx hb dX12_reaches_207 (lv_at hl 1 rfl) ?_
                    refine lv_aload_n hx hb dX12_reaches_209 rfl (lv_at hl 2 rfl) ?_
                    refine lv_iload hx hb dX12_reaches_210 (lv_at hl 8 rfl) ?_
                    refine lv_iconst (v := 2) hx hb dX12_reaches_212 (by decide) ?_
                    refine tk_Vi hC hK hw hT hA hE hSR kM_at0 (by decide) rfl (k_X12_streetOf_6 l adK adV dC dI cy ad B (by omega) (by omega) qr s1   v145_6 (show 0 ≤ v145_6.toInt from r23) (show v145_6.toInt ≤ 11 by omega) w12 H.size hT ) (cwV 2 hC.2.2.2.2 uV_RX12_300 rfl rfl rfl (by decide +kernel) ⟨Nat.le_of_ble_eq_true rfl, Nat.le_of_ble_eq_true rfl⟩) rfl hl.1 rfl (Nat.le_of_ble_eq_true rfl) dX12_reaches_213 (fun r132 w134 H locs hp133 hw => ?_)
                    obtain ⟨rfl, hg139⟩ := hp133
                    obtain ⟨g136, g137, c138⟩ := hg139
                    refine lv_iadd hx hb dX12_reaches_216 ?_
                    refine lv_topi (fun x140 ex140 => ?_)
                    have ex140 : x140.toInt = r66.toInt + r132.toInt := by rw [ex140]; exact wk_add (show (-2147483648) ≤ r66.toInt + r132.toInt by omega) (show r66.toInt + r132.toInt ≤ 2147483647 by omega)
                    refine lv_iload hx hb dX12_reaches_217 (lv_at hl 6 rfl) ?_
                    refine lv_icmp_gt (tgt := 259) hx hb dX12_reaches_219 (by decide) (fun c141 => ?_) (fun c141 => ?_)
                    · have c141 : a4.toInt < x140.toInt := wk_lt.mp c141
                      have gb142 : 0 ≤ sumG 19 10 w12 ∧ sumG 19 10 w12 ≤ 10 := hT.sum (lo := 0) (hi := 1) kM_at19 rfl (by decide) rfl
                      exact J259 x49 H locs ls w12 (show 0 ≤ a1.toInt from r13) (show a1.toInt ≤ 9 from t14) (show 0 ≤ a2.toInt from r15) (show a2.toInt ≤ 9 from t16) (show 0 ≤ a3.toInt from r17) (show a3.toInt ≤ 99999 from t18) (show 2000 ≤ a4.toInt from r19) (show a4.toInt ≤ 101999 from t20) (show 0 ≤ v145_5.toInt from r21) (show v145_5.toInt ≤ 9 from t22) (show 0 ≤ v145_6.toInt from r23) (show v145_6.toInt ≤ 11 by omega) (show 0 ≤ f145_12_0.toInt from r25) (show f145_12_0.toInt ≤ 10 from t26) (show 1 ≤ x49.toInt by omega) (show x49.toInt ≤ 12 by omega) (show (sumG 19 10 w1) + 1 ≤ (sumG 19 10 w12) by omega)  hw hT hF c27 c50 (lv_sub hl [2, 3, 4, 5, 6, 7, 8] rfl)
                    · have c141 : x140.toInt ≤ a4.toInt := wk_ltF c141
                      refine lv_iload hx hb dX12_reaches_222 (lv_at hl 1 rfl) ?_
                      refine lv_aload_n hx hb dX12_reaches_224 rfl (lv_at hl 2 rfl) ?_
                      refine lv_iload hx hb dX12_reaches_225 (lv_at hl 8 rfl) ?_
                      refine lv_iconst (v := 2) hx hb dX12_reaches_227 (by decide) ?_
                      refine tk_Vi hC hK hw hT hA hE hSR kM_at0 (by decide) rfl (k_X12_streetOf_6 l adK adV dC dI cy ad B (by omega) (by omega) qr s1   v145_6 (show 0 ≤ v145_6.toInt from r23) (show v145_6.toInt ≤ 11 by omega) w12 H.size hT ) (cwV 2 hC.2.2.2.2 uV_RX12_300 rfl rfl rfl (by decide +kernel) ⟨Nat.le_of_ble_eq_true rfl, Nat.le_of_ble_eq_true rfl⟩) rfl hl.1 rfl (Nat.le_of_ble_eq_true rfl) dX12_reaches_228 (fun r143 w145 H locs hp144 hw => ?_)
                      obtain ⟨rfl, hg150⟩ := hp144
                      obtain ⟨g147, g148, c149⟩ := hg150
                      obtain rfl : r132 = r143 := c138.symm.trans c149
                      refine lv_iadd hx hb dX12_reaches_231 ?_
                      refine lv_topi (fun x151 ex151 => ?_)
                      have ex151 : x151.toInt = r66.toInt + r132.toInt := by rw [ex151]; exact wk_add (show (-2147483648) ≤ r66.toInt + r132.toInt by omega) (show r66.toInt + r132.toInt ≤ 2147483647 by omega)
                      refine lv_aload_n hx hb dX12_reaches_232 rfl (lv_at hl 2 rfl) ?_
                      refine tk_getA hC hK hw hT hinX12 kM_at0 (by decide) rfl 35 (by decide) (List.mem_cons_of_mem _ uw_7_8) rfl rfl dX12_reaches_233 ?_
                      refine lv_iload hx hb dX12_reaches_236 (lv_at hl 0 rfl) ?_
                      refine tk_iald hC hK hw hT kM_at18 rfl rfl (show 0 ≤ r76.toInt by omega) (show r76.toInt < 10 by omega) dX12_reaches_238 (fun x152 c153 rx152 tx152 => ?_)
                      refine lv_icmp_ge (tgt := 259) hx hb dX12_reaches_239 (by decide) (fun c154 => ?_) (fun c154 => ?_)
                      · have c154 : x152.toInt ≤ x151.toInt := wk_le.mp c154
                        have gb155 : 0 ≤ sumG 19 10 w12 ∧ sumG 19 10 w12 ≤ 10 := hT.sum (lo := 0) (hi := 1) kM_at19 rfl (by decide) rfl
                        exact J259 x49 H locs ls w12 (show 0 ≤ a1.toInt from r13) (show a1.toInt ≤ 9 from t14) (show 0 ≤ a2.toInt from r15) (show a2.toInt ≤ 9 from t16) (show 0 ≤ a3.toInt from r17) (show a3.toInt ≤ 99999 from t18) (show 2000 ≤ a4.toInt from r19) (show a4.toInt ≤ 101999 from t20) (show 0 ≤ v145_5.toInt from r21) (show v145_5.toInt ≤ 9 from t22) (show 0 ≤ v145_6.toInt from r23) (show v145_6.toInt ≤ 11 by omega) (show 0 ≤ f145_12_0.toInt from r25) (show f145_12_0.toInt ≤ 10 from t26) (show 1 ≤ x49.toInt by omega) (show x49.toInt ≤ 12 by omega) (show (sumG 19 10 w1) + 1 ≤ (sumG 19 10 w12) by omega)  hw hT hF c27 c50 (lv_sub hl [2, 3, 4, 5, 6, 7, 8] rfl)
                      · have c154 : x151.toInt < x152.toInt := wk_leF c154
                        refine lv_aload_n hx hb dX12_reaches_242 rfl (lv_at hl 2 rfl) ?_
                        refine tk_getA hC hK hw hT hinX12 kM_at0 (by decide) rfl 35 (by decide) (List.mem_cons_of_mem _ uw_7_8) rfl rfl dX12_reaches_243 ?_
                        refine lv_iload hx hb dX12_reaches_246 (lv_at hl 0 rfl) ?_
                        refine lv_iload hx hb dX12_reaches_248 (lv_at hl 1 rfl) ?_
                        refine lv_aload_n hx hb dX12_reaches_250 rfl (lv_at hl 2 rfl) ?_
                        refine lv_iload hx hb dX12_reaches_251 (lv_at hl 8 rfl) ?_
                        refine lv_iconst (v := 2) hx hb dX12_reaches_253 (by decide) ?_
                        refine tk_Vi hC hK hw hT hA hE hSR kM_at0 (by decide) rfl (k_X12_streetOf_6 l adK adV dC dI cy ad B (by omega) (by omega) qr s1   v145_6 (show 0 ≤ v145_6.toInt from r23) (show v145_6.toInt ≤ 11 by omega) w12 H.size hT ) (cwV 2 hC.2.2.2.2 uV_RX12_300 rfl rfl rfl (by decide +kernel) ⟨Nat.le_of_ble_eq_true rfl, Nat.le_of_ble_eq_true rfl⟩) rfl hl.1 rfl (Nat.le_of_ble_eq_true rfl) dX12_reaches_254 (fun r156 w158 H locs hp157 hw => ?_)
                        obtain ⟨rfl, hg163⟩ := hp157
                        obtain ⟨g160, g161, c162⟩ := hg163
                        obtain rfl : r132 = r156 := c138.symm.trans c162
                        refine lv_iadd hx hb dX12_reaches_257 ?_
                        refine lv_topi (fun x164 ex164 => ?_)
                        have ex164 : x164.toInt = r66.toInt + r132.toInt := by rw [ex164]; exact wk_add (show (-2147483648) ≤ r66.toInt + r132.toInt by omega) (show r66.toInt + r132.toInt ≤ 2147483647 by omega)
                        refine tk_iast hC hK hw hT kM_at18 (by decide) rfl rfl (show 0 ≤ r76.toInt by omega) (show r76.toInt < 10 by omega) (show 0 ≤ x164.toInt by omega) (show x164.toInt ≤ 100000100 by omega) dX12_reaches_258 (fun H locs w165 hw hT k167 c166 => ?_)
                        have gs168 : sumG 19 10 w165 = sumG 19 10 w12 := sumG_ne 10 k167 (tk_ne kM_at19 kM_at18 (by decide))
                        have hF := hF.put kM_at18 (inE_of (a := 0) (b := 10) (by decide) (show 0 ≤ r76.toInt.toNat by omega) (show r76.toInt.toNat ≤ 10 by omega)) k167
                        have c169 := k167.gi (Or.inl (tk_ne kM_at12 kM_at18 (by decide))) c27
                        have c170 := k167.gi (Or.inl (tk_ne kM_at12 kM_at18 (by decide))) c50
                        have c171 := k167.gi (Or.inl (tk_ne kM_at12 kM_at18 (by decide))) c58
                        have c172 := k167.gi (Or.inl (tk_ne kM_at12 kM_at18 (by decide))) c138
                        have gb173 : 0 ≤ sumG 19 10 w165 ∧ sumG 19 10 w165 ≤ 10 := hT.sum (lo := 0) (hi := 1) kM_at19 rfl (by decide) rfl
                        exact J259 x49 H locs ls w165 (show 0 ≤ a1.toInt from r13) (show a1.toInt ≤ 9 from t14) (show 0 ≤ a2.toInt from r15) (show a2.toInt ≤ 9 from t16) (show 0 ≤ a3.toInt from r17) (show a3.toInt ≤ 99999 from t18) (show 2000 ≤ a4.toInt from r19) (show a4.toInt ≤ 101999 from t20) (show 0 ≤ v145_5.toInt from r21) (show v145_5.toInt ≤ 9 from t22) (show 0 ≤ v145_6.toInt from r23) (show v145_6.toInt ≤ 11 by omega) (show 0 ≤ f145_12_0.toInt from r25) (show f145_12_0.toInt ≤ 10 from t26) (show 1 ≤ x49.toInt by omega) (show x49.toInt ≤ 12 by omega) (show (sumG 19 10 w1) + 1 ≤ (sumG 19 10 w165) by omega)  hw hT hF c169 c170 (lv_sub hl [2, 3, 4, 5, 6, 7, 8] rfl)
              · refine lv_istore (lv' := [(7, .int r66), (0, .ref (ad 0)), (1, .int a1), (2, .int a2), (3, .int a3), (4, .int a4), (5, .int v145_5), (6, .int v145_6)]) hx hb dX12_reaches_187 hl (by decide) rfl (fun ls hl => ?_)
                refine lv_aload_n hx hb dX12_reaches_189 rfl (lv_at hl 1 rfl) ?_
                refine lv_iload hx hb dX12_reaches_190 (lv_at hl 7 rfl) ?_
                refine lv_iload hx hb dX12_reaches_192 (lv_at hl 6 rfl) ?_
                refine tk_Vi hC hK hw hT hA hE hSR kM_at0 (by decide) rfl (k_X12_otherOf_1 l adK adV dC dI cy ad B (by omega) (by omega) qr s1   v145_6 (show 0 ≤ v145_6.toInt from r23) (show v145_6.toInt ≤ 11 by omega) v145_5 (show 0 ≤ v145_5.toInt from r21) (show v145_5.toInt ≤ 9 from t22) w12 H.size hT ) (cwV 2 hC.2.2.2.2 uV_RX12_348 rfl rfl rfl (by decide +kernel) ⟨Nat.le_of_ble_eq_true rfl, Nat.le_of_ble_eq_true rfl⟩) rfl hl.1 rfl (Nat.le_of_ble_eq_true rfl) dX12_reaches_194 (fun r174 w176 H locs hp175 hw => ?_)
                obtain ⟨rfl, hg183⟩ := hp175
                rcases hg183 with ⟨g178, g179⟩ | ⟨g180, g181, c182⟩
                · refine lv_istore (lv' := [(8, .int r174), (7, .int r66), (0, .ref (ad 0)), (1, .int a1), (2, .int a2), (3, .int a3), (4, .int a4), (5, .int v145_5), (6, .int v145_6)]) hx hb dX12_reaches_197 hl (by decide) rfl (fun ls hl => ?_)
                  refine lv_iload hx hb dX12_reaches_199 (lv_at hl 1 rfl) ?_
                  refine lv_ldcw (v := 100000000) hx hb hC.2.2.2.1 (hC.2.2.2.2 _ (List.mem_cons_of_mem _ uw_38_2)) dX12_reaches_201 ?_
                  refine lv_icmp_ge (tgt := 259) hx hb dX12_reaches_204 (by decide) (fun c => absurd c (fun h => absurd (show (100000000 : Int) ≤ r66.toInt from wk_le.mp h) (by omega))) (fun _ => ?_)
                  refine lv_iload hx hb dX12_reaches_207 (lv_at hl 1 rfl) ?_
                  refine lv_aload_n hx hb dX12_reaches_209 rfl (lv_at hl 2 rfl) ?_
                  refine lv_iload hx hb dX12_reaches_210 (lv_at hl 8 rfl) ?_
                  refine lv_iconst (v := 2) hx hb dX12_reaches_212 (by decide) ?_
                  refine tk_Vi hC hK hw hT hA hE hSR kM_at0 (by decide) rfl (k_X12_streetOf_6 l adK adV dC dI cy ad B (by omega) (by omega) qr s1   v145_6 (show 0 ≤ v145_6.toInt from r23) (show v145_6.toInt ≤ 11 by omega) w12 H.size hT ) (cwV 2 hC.2.2.2.2 uV_RX12_300 rfl rfl rfl (by decide +kernel) ⟨Nat.le_of_ble_eq_true rfl, Nat.le_of_ble_eq_true rfl⟩) rfl hl.1 rfl (Nat.le_of_ble_eq_true rfl) dX12_reaches_213 (fun r184 w186 H locs hp185 hw => ?_)
                  obtain ⟨rfl, hg191⟩ := hp185
                  obtain ⟨g188, g189, c190⟩ := hg191
                  refine lv_iadd hx hb dX12_reaches_216 ?_
                  refine lv_topi (fun x192 ex192 => ?_)
                  have ex192 : x192.toInt = r66.toInt + r184.toInt := by rw [ex192]; exact wk_add (show (-2147483648) ≤ r66.toInt + r184.toInt by omega) (show r66.toInt + r184.toInt ≤ 2147483647 by omega)
                  refine lv_iload hx hb dX12_reaches_217 (lv_at hl 6 rfl) ?_
                  refine lv_icmp_gt (tgt := 259) hx hb dX12_reaches_219 (by decide) (fun c193 => ?_) (fun c193 => ?_)
                  · have c193 : a4.toInt < x192.toInt := wk_lt.mp c193
                    have gb194 : 0 ≤ sumG 19 10 w12 ∧ sumG 19 10 w12 ≤ 10 := hT.sum (lo := 0) (hi := 1) kM_at19 rfl (by decide) rfl
                    exact J259 x49 H locs ls w12 (show 0 ≤ a1.toInt from r13) (show a1.toInt ≤ 9 from t14) (show 0 ≤ a2.toInt from r15) (show a2.toInt ≤ 9 from t16) (show 0 ≤ a3.toInt from r17) (show a3.toInt ≤ 99999 from t18) (show 2000 ≤ a4.toInt from r19) (show a4.toInt ≤ 101999 from t20) (show 0 ≤ v145_5.toInt from r21) (show v145_5.toInt ≤ 9 from t22) (show 0 ≤ v145_6.toInt from r23) (show v145_6.toInt ≤ 11 by omega) (show 0 ≤ f145_12_0.toInt from r25) (show f145_12_0.toInt ≤ 10 from t26) (show 1 ≤ x49.toInt by omega) (show x49.toInt ≤ 12 by omega) (show (sumG 19 10 w1) + 1 ≤ (sumG 19 10 w12) by omega)  hw hT hF c27 c50 (lv_sub hl [2, 3, 4, 5, 6, 7, 8] rfl)
                  · have c193 : x192.toInt ≤ a4.toInt := wk_ltF c193
                    refine lv_iload hx hb dX12_reaches_222 (lv_at hl 1 rfl) ?_
                    refine lv_aload_n hx hb dX12_reaches_224 rfl (lv_at hl 2 rfl) ?_
                    refine lv_iload hx hb dX12_reaches_225 (lv_at hl 8 rfl) ?_
                    refine lv_iconst (v := 2) hx hb dX12_reaches_227 (by decide) ?_
                    refine tk_Vi hC hK hw hT hA hE hSR kM_at0 (by decide) rfl (k_X12_streetOf_6 l adK adV dC dI cy ad B (by omega) (by omega) qr s1   v145_6 (show 0 ≤ v145_6.toInt from r23) (show v145_6.toInt ≤ 11 by omega) w12 H.size hT ) (cwV 2 hC.2.2.2.2 uV_RX12_300 rfl rfl rfl (by decide +kernel) ⟨Nat.le_of_ble_eq_true rfl, Nat.le_of_ble_eq_true rfl⟩) rfl hl.1 rfl (Nat.le_of_ble_eq_true rfl) dX12_reaches_228 (fun r195 w197 H locs hp196 hw => ?_)
                    obtain ⟨rfl, hg202⟩ := hp196
                    obtain ⟨g199, g200, c201⟩ := hg202
                    obtain rfl : r184 = r195 := c190.symm.trans c201
                    refine lv_iadd hx hb dX12_reaches_231 ?_
                    refine lv_topi (fun x203 ex203 => ?_)
                    have ex203 : x203.toInt = r66.toInt + r184.toInt := by rw [ex203]; exact wk_add (show (-2147483648) ≤ r66.toInt + r184.toInt by omega) (show r66.toInt + r184.toInt ≤ 2147483647 by omega)
                    refine lv_aload_n hx hb dX12_reaches_232 rfl (lv_at hl 2 rfl) ?_
                    refine tk_getA hC hK hw hT hinX12 kM_at0 (by decide) rfl 35 (by decide) (List.mem_cons_of_mem _ uw_7_8) rfl rfl dX12_reaches_233 ?_
                    refine lv_iload hx hb dX12_reaches_236 (lv_at hl 0 rfl) ?_
                    refine tk_iald hC hK hw hT kM_at18 rfl rfl (show 0 ≤ r174.toInt by omega) (show r174.toInt < 10 by omega) dX12_reaches_238 (fun x204 c205 rx204 tx204 => ?_)
                    refine lv_icmp_ge (tgt := 259) hx hb dX12_reaches_239 (by decide) (fun c206 => ?_) (fun c206 => ?_)
                    · have c206 : x204.toInt ≤ x203.toInt := wk_le.mp c206
                      have gb207 : 0 ≤ sumG 19 10 w12 ∧ sumG 19 10 w12 ≤ 10 := hT.sum (lo := 0) (hi := 1) kM_at19 rfl (by decide) rfl
                      exact J259 x49 H locs ls w12 (show 0 ≤ a1.toInt from r13) (show a1.toInt ≤ 9 from t14) (show 0 ≤ a2.toInt from r15) (show a2.toInt ≤ 9 from t16) (show 0 ≤ a3.toInt from r17) (show a3.toInt ≤ 99999 from t18) (show 2000 ≤ a4.toInt from r19) (show a4.toInt ≤ 101999 from t20) (show 0 ≤ v145_5.toInt from r21) (show v145_5.toInt ≤ 9 from t22) (show 0 ≤ v145_6.toInt from r23) (show v145_6.toInt ≤ 11 by omega) (show 0 ≤ f145_12_0.toInt from r25) (show f145_12_0.toInt ≤ 10 from t26) (show 1 ≤ x49.toInt by omega) (show x49.toInt ≤ 12 by omega) (show (sumG 19 10 w1) + 1 ≤ (sumG 19 10 w12) by omega)  hw hT hF c27 c50 (lv_sub hl [2, 3, 4, 5, 6, 7, 8] rfl)
                    · have c206 : x203.toInt < x204.toInt := wk_leF c206
                      refine lv_aload_n hx hb dX12_reaches_242 rfl (lv_at hl 2 rfl) ?_
                      refine tk_getA hC hK hw hT hinX12 kM_at0 (by decide) rfl 35 (by decide) (List.mem_cons_of_mem _ uw_7_8) rfl rfl dX12_reaches_243 ?_
                      refine lv_iload hx hb dX12_reaches_246 (lv_at hl 0 rfl) ?_
                      refine lv_iload hx hb dX12_reaches_248 (lv_at hl 1 rfl) ?_
                      refine lv_aload_n hx hb dX12_reaches_250 rfl (lv_at hl 2 rfl) ?_
                      refine lv_iload hx hb dX12_reaches_251 (lv_at hl 8 rfl) ?_
                      refine lv_iconst (v := 2) hx hb dX12_reaches_253 (by decide) ?_
                      refine tk_Vi hC hK hw hT hA hE hSR kM_at0 (by decide) rfl (k_X12_streetOf_6 l adK adV dC dI cy ad B (by omega) (by omega) qr s1   v145_6 (show 0 ≤ v145_6.toInt from r23) (show v145_6.toInt ≤ 11 by omega) w12 H.size hT ) (cwV 2 hC.2.2.2.2 uV_RX12_300 rfl rfl rfl (by decide +kernel) ⟨Nat.le_of_ble_eq_true rfl, Nat.le_of_ble_eq_true rfl⟩) rfl hl.1 rfl (Nat.le_of_ble_eq_true rfl) dX12_reaches_254 (fun r208 w210 H locs hp209 hw => ?_)
                      obtain ⟨rfl, hg215⟩ := hp209
                      obtain ⟨g212, g213, c214⟩ := hg215
                      obtain rfl : r184 = r208 := c190.symm.trans c214
                      refine lv_iadd hx hb dX12_reaches_257 ?_
                      refine lv_topi (fun x216 ex216 => ?_)
                      have ex216 : x216.toInt = r66.toInt + r184.toInt := by rw [ex216]; exact wk_add (show (-2147483648) ≤ r66.toInt + r184.toInt by omega) (show r66.toInt + r184.toInt ≤ 2147483647 by omega)
                      refine tk_iast hC hK hw hT kM_at18 (by decide) rfl rfl (show 0 ≤ r174.toInt by omega) (show r174.toInt < 10 by omega) (show 0 ≤ x216.toInt by omega) (show x216.toInt ≤ 100000100 by omega) dX12_reaches_258 (fun H locs w217 hw hT k219 c218 => ?_)
                      have gs220 : sumG 19 10 w217 = sumG 19 10 w12 := sumG_ne 10 k219 (tk_ne kM_at19 kM_at18 (by decide))
                      have hF := hF.put kM_at18 (inE_of (a := 0) (b := 10) (by decide) (show 0 ≤ r174.toInt.toNat by omega) (show r174.toInt.toNat ≤ 10 by omega)) k219
                      have c221 := k219.gi (Or.inl (tk_ne kM_at12 kM_at18 (by decide))) c27
                      have c222 := k219.gi (Or.inl (tk_ne kM_at12 kM_at18 (by decide))) c50
                      have c223 := k219.gi (Or.inl (tk_ne kM_at12 kM_at18 (by decide))) c58
                      have c224 := k219.gi (Or.inl (tk_ne kM_at12 kM_at18 (by decide))) c190
                      have gb225 : 0 ≤ sumG 19 10 w217 ∧ sumG 19 10 w217 ≤ 10 := hT.sum (lo := 0) (hi := 1) kM_at19 rfl (by decide) rfl
                      exact J259 x49 H locs ls w217 (show 0 ≤ a1.toInt from r13) (show a1.toInt ≤ 9 from t14) (show 0 ≤ a2.toInt from r15) (show a2.toInt ≤ 9 from t16) (show 0 ≤ a3.toInt from r17) (show a3.toInt ≤ 99999 from t18) (show 2000 ≤ a4.toInt from r19) (show a4.toInt ≤ 101999 from t20) (show 0 ≤ v145_5.toInt from r21) (show v145_5.toInt ≤ 9 from t22) (show 0 ≤ v145_6.toInt from r23) (show v145_6.toInt ≤ 11 by omega) (show 0 ≤ f145_12_0.toInt from r25) (show f145_12_0.toInt ≤ 10 from t26) (show 1 ≤ x49.toInt by omega) (show x49.toInt ≤ 12 by omega) (show (sumG 19 10 w1) + 1 ≤ (sumG 19 10 w217) by omega)  hw hT hF c221 c222 (lv_sub hl [2, 3, 4, 5, 6, 7, 8] rfl)
                · refine lv_istore (lv' := [(8, .int r174), (7, .int r66), (0, .ref (ad 0)), (1, .int a1), (2, .int a2), (3, .int a3), (4, .int a4), (5, .int v145_5), (6, .int v145_6)]) hx hb dX12_reaches_197 hl (by decide) rfl (fun ls hl => ?_)
                  refine lv_iload hx hb dX12_reaches_199 (lv_at hl 1 rfl) ?_
                  refine lv_ldcw (v := 100000000) hx hb hC.2.2.2.1 (hC.2.2.2.2 _ (List.mem_cons_of_mem _ uw_38_2)) dX12_reaches_201 ?_
                  refine lv_icmp_ge (tgt := 259) hx hb dX12_reaches_204 (by decide) (fun c => absurd c (fun h => absurd (show (100000000 : Int) ≤ r66.toInt from wk_le.mp h) (by omega))) (fun _ => ?_)
                  refine lv_iload hx hb dX12_reaches_207 (lv_at hl 1 rfl) ?_
                  refine lv_aload_n hx hb dX12_reaches_209 rfl (lv_at hl 2 rfl) ?_
                  refine lv_iload hx hb dX12_reaches_210 (lv_at hl 8 rfl) ?_
                  refine lv_iconst (v := 2) hx hb dX12_reaches_212 (by decide) ?_
                  refine tk_Vi hC hK hw hT hA hE hSR kM_at0 (by decide) rfl (k_X12_streetOf_6 l adK adV dC dI cy ad B (by omega) (by omega) qr s1   v145_6 (show 0 ≤ v145_6.toInt from r23) (show v145_6.toInt ≤ 11 by omega) w12 H.size hT ) (cwV 2 hC.2.2.2.2 uV_RX12_300 rfl rfl rfl (by decide +kernel) ⟨Nat.le_of_ble_eq_true rfl, Nat.le_of_ble_eq_true rfl⟩) rfl hl.1 rfl (Nat.le_of_ble_eq_true rfl) dX12_reaches_213 (fun r226 w228 H locs hp227 hw => ?_)
                  obtain ⟨rfl, hg233⟩ := hp227
                  obtain ⟨g230, g231, c232⟩ := hg233
                  refine lv_iadd hx hb dX12_reaches_216 ?_
                  refine lv_topi (fun x234 ex234 => ?_)
                  have ex234 : x234.toInt = r66.toInt + r226.toInt := by rw [ex234]; exact wk_add (show (-2147483648) ≤ r66.toInt + r226.toInt by omega) (show r66.toInt + r226.toInt ≤ 2147483647 by omega)
                  refine lv_iload hx hb dX12_reaches_217 (lv_at hl 6 rfl) ?_
                  refine lv_icmp_gt (tgt := 259) hx hb dX12_reaches_219 (by decide) (fun c235 => ?_) (fun c235 => ?_)
                  · have c235 : a4.toInt < x234.toInt := wk_lt.mp c235
                    have gb236 : 0 ≤ sumG 19 10 w12 ∧ sumG 19 10 w12 ≤ 10 := hT.sum (lo := 0) (hi := 1) kM_at19 rfl (by decide) rfl
                    exact J259 x49 H locs ls w12 (show 0 ≤ a1.toInt from r13) (show a1.toInt ≤ 9 from t14) (show 0 ≤ a2.toInt from r15) (show a2.toInt ≤ 9 from t16) (show 0 ≤ a3.toInt from r17) (show a3.toInt ≤ 99999 from t18) (show 2000 ≤ a4.toInt from r19) (show a4.toInt ≤ 101999 from t20) (show 0 ≤ v145_5.toInt from r21) (show v145_5.toInt ≤ 9 from t22) (show 0 ≤ v145_6.toInt from r23) (show v145_6.toInt ≤ 11 by omega) (show 0 ≤ f145_12_0.toInt from r25) (show f145_12_0.toInt ≤ 10 from t26) (show 1 ≤ x49.toInt by omega) (show x49.toInt ≤ 12 by omega) (show (sumG 19 10 w1) + 1 ≤ (sumG 19 10 w12) by omega)  hw hT hF c27 c50 (lv_sub hl [2, 3, 4, 5, 6, 7, 8] rfl)
                  · have c235 : x234.toInt ≤ a4.toInt := wk_ltF c235
                    refine lv_iload hx hb dX12_reaches_222 (lv_at hl 1 rfl) ?_
                    refine lv_aload_n hx hb dX12_reaches_224 rfl (lv_at hl 2 rfl) ?_
                    refine lv_iload hx hb dX12_reaches_225 (lv_at hl 8 rfl) ?_
                    refine lv_iconst (v := 2) hx hb dX12_reaches_227 (by decide) ?_
                    refine tk_Vi hC hK hw hT hA hE hSR kM_at0 (by decide) rfl (k_X12_streetOf_6 l adK adV dC dI cy ad B (by omega) (by omega) qr s1   v145_6 (show 0 ≤ v145_6.toInt from r23) (show v145_6.toInt ≤ 11 by omega) w12 H.size hT ) (cwV 2 hC.2.2.2.2 uV_RX12_300 rfl rfl rfl (by decide +kernel) ⟨Nat.le_of_ble_eq_true rfl, Nat.le_of_ble_eq_true rfl⟩) rfl hl.1 rfl (Nat.le_of_ble_eq_true rfl) dX12_reaches_228 (fun r237 w239 H locs hp238 hw => ?_)
                    obtain ⟨rfl, hg244⟩ := hp238
                    obtain ⟨g241, g242, c243⟩ := hg244
                    obtain rfl : r226 = r237 := c232.symm.trans c243
                    refine lv_iadd hx hb dX12_reaches_231 ?_
                    refine lv_topi (fun x245 ex245 => ?_)
                    have ex245 : x245.toInt = r66.toInt + r226.toInt := by rw [ex245]; exact wk_add (show (-2147483648) ≤ r66.toInt + r226.toInt by omega) (show r66.toInt + r226.toInt ≤ 2147483647 by omega)
                    refine lv_aload_n hx hb dX12_reaches_232 rfl (lv_at hl 2 rfl) ?_
                    refine tk_getA hC hK hw hT hinX12 kM_at0 (by decide) rfl 35 (by decide) (List.mem_cons_of_mem _ uw_7_8) rfl rfl dX12_reaches_233 ?_
                    refine lv_iload hx hb dX12_reaches_236 (lv_at hl 0 rfl) ?_
                    refine tk_iald hC hK hw hT kM_at18 rfl rfl (show 0 ≤ r174.toInt by omega) (show r174.toInt < 10 by omega) dX12_reaches_238 (fun x246 c247 rx246 tx246 => ?_)
                    refine lv_icmp_ge (tgt := 259) hx hb dX12_reaches_239 (by decide) (fun c248 => ?_) (fun c248 => ?_)
                    · have c248 : x246.toInt ≤ x245.toInt := wk_le.mp c248
                      have gb249 : 0 ≤ sumG 19 10 w12 ∧ sumG 19 10 w12 ≤ 10 := hT.sum (lo := 0) (hi := 1) kM_at19 rfl (by decide) rfl
                      exact J259 x49 H locs ls w12 (show 0 ≤ a1.toInt from r13) (show a1.toInt ≤ 9 from t14) (show 0 ≤ a2.toInt from r15) (show a2.toInt ≤ 9 from t16) (show 0 ≤ a3.toInt from r17) (show a3.toInt ≤ 99999 from t18) (show 2000 ≤ a4.toInt from r19) (show a4.toInt ≤ 101999 from t20) (show 0 ≤ v145_5.toInt from r21) (show v145_5.toInt ≤ 9 from t22) (show 0 ≤ v145_6.toInt from r23) (show v145_6.toInt ≤ 11 by omega) (show 0 ≤ f145_12_0.toInt from r25) (show f145_12_0.toInt ≤ 10 from t26) (show 1 ≤ x49.toInt by omega) (show x49.toInt ≤ 12 by omega) (show (sumG 19 10 w1) + 1 ≤ (sumG 19 10 w12) by omega)  hw hT hF c27 c50 (lv_sub hl [2, 3, 4, 5, 6, 7, 8] rfl)
                    · have c248 : x245.toInt < x246.toInt := wk_leF c248
                      refine lv_aload_n hx hb dX12_reaches_242 rfl (lv_at hl 2 rfl) ?_
                      refine tk_getA hC hK hw hT hinX12 kM_at0 (by decide) rfl 35 (by decide) (List.mem_cons_of_mem _ uw_7_8) rfl rfl dX12_reaches_243 ?_
                      refine lv_iload hx hb dX12_reaches_246 (lv_at hl 0 rfl) ?_
                      refine lv_iload hx hb dX12_reaches_248 (lv_at hl 1 rfl) ?_
                      refine lv_aload_n hx hb dX12_reaches_250 rfl (lv_at hl 2 rfl) ?_
                      refine lv_iload hx hb dX12_reaches_251 (lv_at hl 8 rfl) ?_
                      refine lv_iconst (v := 2) hx hb dX12_reaches_253 (by decide) ?_
                      refine tk_Vi hC hK hw hT hA hE hSR kM_at0 (by decide) rfl (k_X12_streetOf_6 l adK adV dC dI cy ad B (by omega) (by omega) qr s1   v145_6 (show 0 ≤ v145_6.toInt from r23) (show v145_6.toInt ≤ 11 by omega) w12 H.size hT ) (cwV 2 hC.2.2.2.2 uV_RX12_300 rfl rfl rfl (by decide +kernel) ⟨Nat.le_of_ble_eq_true rfl, Nat.le_of_ble_eq_true rfl⟩) rfl hl.1 rfl (Nat.le_of_ble_eq_true rfl) dX12_reaches_254 (fun r250 w252 H locs hp251 hw => ?_)
                      obtain ⟨rfl, hg257⟩ := hp251
                      obtain ⟨g254, g255, c256⟩ := hg257
                      obtain rfl : r226 = r250 := c232.symm.trans c256
                      refine lv_iadd hx hb dX12_reaches_257 ?_
                      refine lv_topi (fun x258 ex258 => ?_)
                      have ex258 : x258.toInt = r66.toInt + r226.toInt := by rw [ex258]; exact wk_add (show (-2147483648) ≤ r66.toInt + r226.toInt by omega) (show r66.toInt + r226.toInt ≤ 2147483647 by omega)
                      refine tk_iast hC hK hw hT kM_at18 (by decide) rfl rfl (show 0 ≤ r174.toInt by omega) (show r174.toInt < 10 by omega) (show 0 ≤ x258.toInt by omega) (show x258.toInt ≤ 100000100 by omega) dX12_reaches_258 (fun H locs w259 hw hT k261 c260 => ?_)
                      have gs262 : sumG 19 10 w259 = sumG 19 10 w12 := sumG_ne 10 k261 (tk_ne kM_at19 kM_at18 (by decide))
                      have hF := hF.put kM_at18 (inE_of (a := 0) (b := 10) (by decide) (show 0 ≤ r174.toInt.toNat by omega) (show r174.toInt.toNat ≤ 10 by omega)) k261
                      have c263 := k261.gi (Or.inl (tk_ne kM_at12 kM_at18 (by decide))) c27
                      have c264 := k261.gi (Or.inl (tk_ne kM_at12 kM_at18 (by decide))) c50
                      have c265 := k261.gi (Or.inl (tk_ne kM_at12 kM_at18 (by decide))) c58
                      have c266 := k261.gi (Or.inl (tk_ne kM_at12 kM_at18 (by decide))) c232
                      have gb267 : 0 ≤ sumG 19 10 w259 ∧ sumG 19 10 w259 ≤ 10 := hT.sum (lo := 0) (hi := 1) kM_at19 rfl (by decide) rfl
                      exact J259 x49 H locs ls w259 (show 0 ≤ a1.toInt from r13) (show a1.toInt ≤ 9 from t14) (show 0 ≤ a2.toInt from r15) (show a2.toInt ≤ 9 from t16) (show 0 ≤ a3.toInt from r17) (show a3.toInt ≤ 99999 from t18) (show 2000 ≤ a4.toInt from r19) (show a4.toInt ≤ 101999 from t20) (show 0 ≤ v145_5.toInt from r21) (show v145_5.toInt ≤ 9 from t22) (show 0 ≤ v145_6.toInt from r23) (show v145_6.toInt ≤ 11 by omega) (show 0 ≤ f145_12_0.toInt from r25) (show f145_12_0.toInt ≤ 10 from t26) (show 1 ≤ x49.toInt by omega) (show x49.toInt ≤ 12 by omega) (show (sumG 19 10 w1) + 1 ≤ (sumG 19 10 w259) by omega)  hw hT hF c263 c264 (lv_sub hl [2, 3, 4, 5, 6, 7, 8] rfl)
            · refine lv_if_ne (tgt := 170) hx hb dX12_reaches_164 (by decide) (fun _ => ?_) (fun c => absurd c (by decide))
              refine lv_aload_n hx hb dX12_reaches_170 rfl (lv_at hl 0 rfl) ?_
              refine lv_iload hx hb dX12_reaches_171 (lv_at hl 6 rfl) ?_
              refine lv_iload hx hb dX12_reaches_173 (lv_at hl 5 rfl) ?_
              refine lv_aload_n hx hb dX12_reaches_175 rfl (lv_at hl 0 rfl) ?_
              refine tk_getA hC hK hw hT hinX12 kM_at0 (by decide) rfl 35 (by decide) (List.mem_cons_of_mem _ uw_7_8) rfl rfl dX12_reaches_176 ?_
              refine lv_iload hx hb dX12_reaches_179 (lv_at hl 5 rfl) ?_
              refine tk_iald hC hK hw hT kM_at18 rfl rfl (show 0 ≤ v145_5.toInt from r21) (show v145_5.toInt < 10 from Int.lt_of_le_of_lt t22 (by decide)) dX12_reaches_181 (fun x268 c269 rx268 tx268 => ?_)
              refine lv_iload hx hb dX12_reaches_182 (lv_at hl 4 rfl) ?_
              refine tk_Vi hC hK hw hT hA hE hSR kM_at0 (by decide) rfl (k_X12_firstOpen_1 l adK adV dC dI cy ad B (by omega) (by omega) qr s1   v145_6 (show 0 ≤ v145_6.toInt from r23) (show v145_6.toInt ≤ 11 by omega) v145_5 (show 0 ≤ v145_5.toInt from r21) (show v145_5.toInt ≤ 9 from t22) x268 (show 0 ≤ x268.toInt from rx268) (show x268.toInt ≤ 100000100 from tx268) a4 (show 2000 ≤ a4.toInt from r19) (show a4.toInt ≤ 101999 from t20) w12 H.size hT ) (cwV 4 hC.2.2.2.2 uV_RX12_449 rfl rfl rfl (by decide +kernel) ⟨Nat.le_of_ble_eq_true rfl, Nat.le_of_ble_eq_true rfl⟩) rfl hl.1 rfl (Nat.le_of_ble_eq_true rfl) dX12_reaches_184 (fun r270 w272 H locs hp271 hw => ?_)
              obtain ⟨rfl, hg279⟩ := hp271
              rcases hg279 with ⟨g274, g275⟩ | ⟨g276, g277, c278⟩
              · refine lv_istore (lv' := [(7, .int r270), (0, .ref (ad 0)), (1, .int a1), (2, .int a2), (3, .int a3), (4, .int a4), (5, .int v145_5), (6, .int v145_6)]) hx hb dX12_reaches_187 hl (by decide) rfl (fun ls hl => ?_)
                refine lv_aload_n hx hb dX12_reaches_189 rfl (lv_at hl 1 rfl) ?_
                refine lv_iload hx hb dX12_reaches_190 (lv_at hl 7 rfl) ?_
                refine lv_iload hx hb dX12_reaches_192 (lv_at hl 6 rfl) ?_
                refine tk_Vi hC hK hw hT hA hE hSR kM_at0 (by decide) rfl (k_X12_otherOf_1 l adK adV dC dI cy ad B (by omega) (by omega) qr s1   v145_6 (show 0 ≤ v145_6.toInt from r23) (show v145_6.toInt ≤ 11 by omega) v145_5 (show 0 ≤ v145_5.toInt from r21) (show v145_5.toInt ≤ 9 from t22) w12 H.size hT ) (cwV 2 hC.2.2.2.2 uV_RX12_348 rfl rfl rfl (by decide +kernel) ⟨Nat.le_of_ble_eq_true rfl, Nat.le_of_ble_eq_true rfl⟩) rfl hl.1 rfl (Nat.le_of_ble_eq_true rfl) dX12_reaches_194 (fun r280 w282 H locs hp281 hw => ?_)
                obtain ⟨rfl, hg289⟩ := hp281
                rcases hg289 with ⟨g284, g285⟩ | ⟨g286, g287, c288⟩
                · refine lv_istore (lv' := [(8, .int r280), (7, .int r270), (0, .ref (ad 0)), (1, .int a1), (2, .int a2), (3, .int a3), (4, .int a4), (5, .int v145_5), (6, .int v145_6)]) hx hb dX12_reaches_197 hl (by decide) rfl (fun ls hl => ?_)
                  refine lv_iload hx hb dX12_reaches_199 (lv_at hl 1 rfl) ?_
                  refine lv_ldcw (v := 100000000) hx hb hC.2.2.2.1 (hC.2.2.2.2 _ (List.mem_cons_of_mem _ uw_38_2)) dX12_reaches_201 ?_
                  refine lv_icmp_ge (tgt := 259) hx hb dX12_reaches_204 (by decide) (fun c290 => ?_) (fun c290 => ?_)
                  · have c290 : (100000000 : Int) ≤ r270.toInt := wk_le.mp c290
                    have gb291 : 0 ≤ sumG 19 10 w12 ∧ sumG 19 10 w12 ≤ 10 := hT.sum (lo := 0) (hi := 1) kM_at19 rfl (by decide) rfl
                    exact J259 x49 H locs ls w12 (show 0 ≤ a1.toInt from r13) (show a1.toInt ≤ 9 from t14) (show 0 ≤ a2.toInt from r15) (show a2.toInt ≤ 9 from t16) (show 0 ≤ a3.toInt from r17) (show a3.toInt ≤ 99999 from t18) (show 2000 ≤ a4.toInt from r19) (show a4.toInt ≤ 101999 from t20) (show 0 ≤ v145_5.toInt from r21) (show v145_5.toInt ≤ 9 from t22) (show 0 ≤ v145_6.toInt from r23) (show v145_6.toInt ≤ 11 by omega) (show 0 ≤ f145_12_0.toInt from r25) (show f145_12_0.toInt ≤ 10 from t26) (show 1 ≤ x49.toInt by omega) (show x49.toInt ≤ 12 by omega) (show (sumG 19 10 w1) + 1 ≤ (sumG 19 10 w12) by omega)  hw hT hF c27 c50 (lv_sub hl [2, 3, 4, 5, 6, 7, 8] rfl)
                  · have c290 : r270.toInt < (100000000 : Int) := wk_leF c290
                    refine lv_iload hx hb dX12_reaches_207 (lv_at hl 1 rfl) ?_
                    refine lv_aload_n hx hb dX12_reaches_209 rfl (lv_at hl 2 rfl) ?_
                    refine lv_iload hx hb dX12_reaches_210 (lv_at hl 8 rfl) ?_
                    refine lv_iconst (v := 2) hx hb dX12_reaches_212 (by decide) ?_
                    refine tk_Vi hC hK hw hT hA hE hSR kM_at0 (by decide) rfl (k_X12_streetOf_6 l adK adV dC dI cy ad B (by omega) (by omega) qr s1   v145_6 (show 0 ≤ v145_6.toInt from r23) (show v145_6.toInt ≤ 11 by omega) w12 H.size hT ) (cwV 2 hC.2.2.2.2 uV_RX12_300 rfl rfl rfl (by decide +kernel) ⟨Nat.le_of_ble_eq_true rfl, Nat.le_of_ble_eq_true rfl⟩) rfl hl.1 rfl (Nat.le_of_ble_eq_true rfl) dX12_reaches_213 (fun r292 w294 H locs hp293 hw => ?_)
                    obtain ⟨rfl, hg299⟩ := hp293
                    obtain ⟨g296, g297, c298⟩ := hg299
                    refine lv_iadd hx hb dX12_reaches_216 ?_
                    refine lv_topi (fun x300 ex300 => ?_)
                    have ex300 : x300.toInt = r270.toInt + r292.toInt := by rw [ex300]; exact wk_add (show (-2147483648) ≤ r270.toInt + r292.toInt by omega) (show r270.toInt + r292.toInt ≤ 2147483647 by omega)
                    refine lv_iload hx hb dX12_reaches_217 (lv_at hl 6 rfl) ?_
                    refine lv_icmp_gt (tgt := 259) hx hb dX12_reaches_219 (by decide) (fun c301 => ?_) (fun c301 => ?_)
                    · have c301 : a4.toInt < x300.toInt := wk_lt.mp c301
                      have gb302 : 0 ≤ sumG 19 10 w12 ∧ sumG 19 10 w12 ≤ 10 := hT.sum (lo := 0) (hi := 1) kM_at19 rfl (by decide) rfl
                      exact J259 x49 H locs ls w12 (show 0 ≤ a1.toInt from r13) (show a1.toInt ≤ 9 from t14) (show 0 ≤ a2.toInt from r15) (show a2.toInt ≤ 9 from t16) (show 0 ≤ a3.toInt from r17) (show a3.toInt ≤ 99999 from t18) (show 2000 ≤ a4.toInt from r19) (show a4.toInt ≤ 101999 from t20) (show 0 ≤ v145_5.toInt from r21) (show v145_5.toInt ≤ 9 from t22) (show 0 ≤ v145_6.toInt from r23) (show v145_6.toInt ≤ 11 by omega) (show 0 ≤ f145_12_0.toInt from r25) (show f145_12_0.toInt ≤ 10 from t26) (show 1 ≤ x49.toInt by omega) (show x49.toInt ≤ 12 by omega) (show (sumG 19 10 w1) + 1 ≤ (sumG 19 10 w12) by omega)  hw hT hF c27 c50 (lv_sub hl [2, 3, 4, 5, 6, 7, 8] rfl)
                    · have c301 : x300.toInt ≤ a4.toInt := wk_ltF c301
                      refine lv_iload hx hb dX12_reaches_222 (lv_at hl 1 rfl) ?_
                      refine lv_aload_n hx hb dX12_reaches_224 rfl (lv_at hl 2 rfl) ?_
                      refine lv_iload hx hb dX12_reaches_225 (lv_at hl 8 rfl) ?_
                      refine lv_iconst (v := 2) hx hb dX12_reaches_227 (by decide) ?_
                      refine tk_Vi hC hK hw hT hA hE hSR kM_at0 (by decide) rfl (k_X12_streetOf_6 l adK adV dC dI cy ad B (by omega) (by omega) qr s1   v145_6 (show 0 ≤ v145_6.toInt from r23) (show v145_6.toInt ≤ 11 by omega) w12 H.size hT ) (cwV 2 hC.2.2.2.2 uV_RX12_300 rfl rfl rfl (by decide +kernel) ⟨Nat.le_of_ble_eq_true rfl, Nat.le_of_ble_eq_true rfl⟩) rfl hl.1 rfl (Nat.le_of_ble_eq_true rfl) dX12_reaches_228 (fun r303 w305 H locs hp304 hw => ?_)
                      obtain ⟨rfl, hg310⟩ := hp304
                      obtain ⟨g307, g308, c309⟩ := hg310
                      obtain rfl : r292 = r303 := c298.symm.trans c309
                      refine lv_iadd hx hb dX12_reaches_231 ?_
                      refine lv_topi (fun x311 ex311 => ?_)
                      have ex311 : x311.toInt = r270.toInt + r292.toInt := by rw [ex311]; exact wk_add (show (-2147483648) ≤ r270.toInt + r292.toInt by omega) (show r270.toInt + r292.toInt ≤ 2147483647 by omega)
                      refine lv_aload_n hx hb dX12_reaches_232 rfl (lv_at hl 2 rfl) ?_
                      refine tk_getA hC hK hw hT hinX12 kM_at0 (by decide) rfl 35 (by decide) (List.mem_cons_of_mem _ uw_7_8) rfl rfl dX12_reaches_233 ?_
                      refine lv_iload hx hb dX12_reaches_236 (lv_at hl 0 rfl) ?_
                      refine tk_iald hC hK hw hT kM_at18 rfl rfl (show 0 ≤ r280.toInt by omega) (show r280.toInt < 10 by omega) dX12_reaches_238 (fun x312 c313 rx312 tx312 => ?_)
                      refine lv_icmp_ge (tgt := 259) hx hb dX12_reaches_239 (by decide) (fun c314 => ?_) (fun c314 => ?_)
                      · have c314 : x312.toInt ≤ x311.toInt := wk_le.mp c314
                        have gb315 : 0 ≤ sumG 19 10 w12 ∧ sumG 19 10 w12 ≤ 10 := hT.sum (lo := 0) (hi := 1) kM_at19 rfl (by decide) rfl
                        exact J259 x49 H locs ls w12 (show 0 ≤ a1.toInt from r13) (show a1.toInt ≤ 9 from t14) (show 0 ≤ a2.toInt from r15) (show a2.toInt ≤ 9 from t16) (show 0 ≤ a3.toInt from r17) (show a3.toInt ≤ 99999 from t18) (show 2000 ≤ a4.toInt from r19) (show a4.toInt ≤ 101999 from t20) (show 0 ≤ v145_5.toInt from r21) (show v145_5.toInt ≤ 9 from t22) (show 0 ≤ v145_6.toInt from r23) (show v145_6.toInt ≤ 11 by omega) (show 0 ≤ f145_12_0.toInt from r25) (show f145_12_0.toInt ≤ 10 from t26) (show 1 ≤ x49.toInt by omega) (show x49.toInt ≤ 12 by omega) (show (sumG 19 10 w1) + 1 ≤ (sumG 19 10 w12) by omega)  hw hT hF c27 c50 (lv_sub hl [2, 3, 4, 5, 6, 7, 8] rfl)
                      · have c314 : x311.toInt < x312.toInt := wk_leF c314
                        refine lv_aload_n hx hb dX12_reaches_242 rfl (lv_at hl 2 rfl) ?_
                        refine tk_getA hC hK hw hT hinX12 kM_at0 (by decide) rfl 35 (by decide) (List.mem_cons_of_mem _ uw_7_8) rfl rfl dX12_reaches_243 ?_
                        refine lv_iload hx hb dX12_reaches_246 (lv_at hl 0 rfl) ?_
                        refine lv_iload hx hb dX12_reaches_248 (lv_at hl 1 rfl) ?_
                        refine lv_aload_n hx hb dX12_reaches_250 rfl (lv_at hl 2 rfl) ?_
                        refine lv_iload hx hb dX12_reaches_251 (lv_at hl 8 rfl) ?_
                        refine lv_iconst (v := 2) hx hb dX12_reaches_253 (by decide) ?_
                        refine tk_Vi hC hK hw hT hA hE hSR kM_at0 (by decide) rfl (k_X12_streetOf_6 l adK adV dC dI cy ad B (by omega) (by omega) qr s1   v145_6 (show 0 ≤ v145_6.toInt from r23) (show v145_6.toInt ≤ 11 by omega) w12 H.size hT ) (cwV 2 hC.2.2.2.2 uV_RX12_300 rfl rfl rfl (by decide +kernel) ⟨Nat.le_of_ble_eq_true rfl, Nat.le_of_ble_eq_true rfl⟩) rfl hl.1 rfl (Nat.le_of_ble_eq_true rfl) dX12_reaches_254 (fun r316 w318 H locs hp317 hw => ?_)
                        obtain ⟨rfl, hg323⟩ := hp317
                        obtain ⟨g320, g321, c322⟩ := hg323
                        obtain rfl : r292 = r316 := c298.symm.trans c322
                        refine lv_iadd hx hb dX12_reaches_257 ?_
                        refine lv_topi (fun x324 ex324 => ?_)
                        have ex324 : x324.toInt = r270.toInt + r292.toInt := by rw [ex324]; exact wk_add (show (-2147483648) ≤ r270.toInt + r292.toInt by omega) (show r270.toInt + r292.toInt ≤ 2147483647 by omega)
                        refine tk_iast hC hK hw hT kM_at18 (by decide) rfl rfl (show 0 ≤ r280.toInt by omega) (show r280.toInt < 10 by omega) (show 0 ≤ x324.toInt by omega) (show x324.toInt ≤ 100000100 by omega) dX12_reaches_258 (fun H locs w325 hw hT k327 c326 => ?_)
                        have gs328 : sumG 19 10 w325 = sumG 19 10 w12 := sumG_ne 10 k327 (tk_ne kM_at19 kM_at18 (by decide))
                        have hF := hF.put kM_at18 (inE_of (a := 0) (b := 10) (by decide) (show 0 ≤ r280.toInt.toNat by omega) (show r280.toInt.toNat ≤ 10 by omega)) k327
                        have c329 := k327.gi (Or.inl (tk_ne kM_at12 kM_at18 (by decide))) c27
                        have c330 := k327.gi (Or.inl (tk_ne kM_at12 kM_at18 (by decide))) c50
                        have c331 := k327.gi (Or.inl (tk_ne kM_at12 kM_at18 (by decide))) c60
                        have c332 := k327.gi (Or.inl (tk_ne kM_at12 kM_at18 (by decide))) c298
                        have gb333 : 0 ≤ sumG 19 10 w325 ∧ sumG 19 10 w325 ≤ 10 := hT.sum (lo := 0) (hi := 1) kM_at19 rfl (by decide) rfl
                        exact J259 x49 H locs ls w325 (show 0 ≤ a1.toInt from r13) (show a1.toInt ≤ 9 from t14) (show 0 ≤ a2.toInt from r15) (show a2.toInt ≤ 9 from t16) (show 0 ≤ a3.toInt from r17) (show a3.toInt ≤ 99999 from t18) (show 2000 ≤ a4.toInt from r19) (show a4.toInt ≤ 101999 from t20) (show 0 ≤ v145_5.toInt from r21) (show v145_5.toInt ≤ 9 from t22) (show 0 ≤ v145_6.toInt from r23) (show v145_6.toInt ≤ 11 by omega) (show 0 ≤ f145_12_0.toInt from r25) (show f145_12_0.toInt ≤ 10 from t26) (show 1 ≤ x49.toInt by omega) (show x49.toInt ≤ 12 by omega) (show (sumG 19 10 w1) + 1 ≤ (sumG 19 10 w325) by omega)  hw hT hF c329 c330 (lv_sub hl [2, 3, 4, 5, 6, 7, 8] rfl)
                · refine lv_istore (lv' := [(8, .int r280), (7, .int r270), (0, .ref (ad 0)), (1, .int a1), (2, .int a2), (3, .int a3), (4, .int a4), (5, .int v145_5), (6, .int v145_6)]) hx hb dX12_reaches_197 hl (by decide) rfl (fun ls hl => ?_)
                  refine lv_iload hx hb dX12_reaches_199 (lv_at hl 1 rfl) ?_
                  refine lv_ldcw (v := 100000000) hx hb hC.2.2.2.1 (hC.2.2.2.2 _ (List.mem_cons_of_mem _ uw_38_2)) dX12_reaches_201 ?_
                  refine lv_icmp_ge (tgt := 259) hx hb dX12_reaches_204 (by decide) (fun c334 => ?_) (fun c334 => ?_)
                  · have c334 : (100000000 : Int) ≤ r270.toInt := wk_le.mp c334
                    have gb335 : 0 ≤ sumG 19 10 w12 ∧ sumG 19 10 w12 ≤ 10 := hT.sum (lo := 0) (hi := 1) kM_at19 rfl (by decide) rfl
                    exact J259 x49 H locs ls w12 (show 0 ≤ a1.toInt from r13) (show a1.toInt ≤ 9 from t14) (show 0 ≤ a2.toInt from r15) (show a2.toInt ≤ 9 from t16) (show 0 ≤ a3.toInt from r17) (show a3.toInt ≤ 99999 from t18) (show 2000 ≤ a4.toInt from r19) (show a4.toInt ≤ 101999 from t20) (show 0 ≤ v145_5.toInt from r21) (show v145_5.toInt ≤ 9 from t22) (show 0 ≤ v145_6.toInt from r23) (show v145_6.toInt ≤ 11 by omega) (show 0 ≤ f145_12_0.toInt from r25) (show f145_12_0.toInt ≤ 10 from t26) (show 1 ≤ x49.toInt by omega) (show x49.toInt ≤ 12 by omega) (show (sumG 19 10 w1) + 1 ≤ (sumG 19 10 w12) by omega)  hw hT hF c27 c50 (lv_sub hl [2, 3, 4, 5, 6, 7, 8] rfl)
                  · have c334 : r270.toInt < (100000000 : Int) := wk_leF c334
                    refine lv_iload hx hb dX12_reaches_207 (lv_at hl 1 rfl) ?_
                    refine lv_aload_n hx hb dX12_reaches_209 rfl (lv_at hl 2 rfl) ?_
                    refine lv_iload hx hb dX12_reaches_210 (lv_at hl 8 rfl) ?_
                    refine lv_iconst (v := 2) hx hb dX12_reaches_212 (by decide) ?_
                    refine tk_Vi hC hK hw hT hA hE hSR kM_at0 (by decide) rfl (k_X12_streetOf_6 l adK adV dC dI cy ad B (by omega) (by omega) qr s1   v145_6 (show 0 ≤ v145_6.toInt from r23) (show v145_6.toInt ≤ 11 by omega) w12 H.size hT ) (cwV 2 hC.2.2.2.2 uV_RX12_300 rfl rfl rfl (by decide +kernel) ⟨Nat.le_of_ble_eq_true rfl, Nat.le_of_ble_eq_true rfl⟩) rfl hl.1 rfl (Nat.le_of_ble_eq_true rfl) dX12_reaches_213 (fun r336 w338 H locs hp337 hw => ?_)
                    obtain ⟨rfl, hg343⟩ := hp337
                    obtain ⟨g340, g341, c342⟩ := hg343
                    refine lv_iadd hx hb dX12_reaches_216 ?_
                    refine lv_topi (fun x344 ex344 => ?_)
                    have ex344 : x344.toInt = r270.toInt + r336.toInt := by rw [ex344]; exact wk_add (show (-2147483648) ≤ r270.toInt + r336.toInt by omega) (show r270.toInt + r336.toInt ≤ 2147483647 by omega)
                    refine lv_iload hx hb dX12_reaches_217 (lv_at hl 6 rfl) ?_
                    refine lv_icmp_gt (tgt := 259) hx hb dX12_reaches_219 (by decide) (fun c345 => ?_) (fun c345 => ?_)
                    · have c345 : a4.toInt < x344.toInt := wk_lt.mp c345
                      have gb346 : 0 ≤ sumG 19 10 w12 ∧ sumG 19 10 w12 ≤ 10 := hT.sum (lo := 0) (hi := 1) kM_at19 rfl (by decide) rfl
                      exact J259 x49 H locs ls w12 (show 0 ≤ a1.toInt from r13) (show a1.toInt ≤ 9 from t14) (show 0 ≤ a2.toInt from r15) (show a2.toInt ≤ 9 from t16) (show 0 ≤ a3.toInt from r17) (show a3.toInt ≤ 99999 from t18) (show 2000 ≤ a4.toInt from r19) (show a4.toInt ≤ 101999 from t20) (show 0 ≤ v145_5.toInt from r21) (show v145_5.toInt ≤ 9 from t22) (show 0 ≤ v145_6.toInt from r23) (show v145_6.toInt ≤ 11 by omega) (show 0 ≤ f145_12_0.toInt from r25) (show f145_12_0.toInt ≤ 10 from t26) (show 1 ≤ x49.toInt by omega) (show x49.toInt ≤ 12 by omega) (show (sumG 19 10 w1) + 1 ≤ (sumG 19 10 w12) by omega)  hw hT hF c27 c50 (lv_sub hl [2, 3, 4, 5, 6, 7, 8] rfl)
                    · have c345 : x344.toInt ≤ a4.toInt := wk_ltF c345
                      refine lv_iload hx hb dX12_reaches_222 (lv_at hl 1 rfl) ?_
                      refine lv_aload_n hx hb dX12_reaches_224 rfl (lv_at hl 2 rfl) ?_
                      refine lv_iload hx hb dX12_reaches_225 (lv_at hl 8 rfl) ?_
                      refine lv_iconst (v := 2) hx hb dX12_reaches_227 (by decide) ?_
                      refine tk_Vi hC hK hw hT hA hE hSR kM_at0 (by decide) rfl (k_X12_streetOf_6 l adK adV dC dI cy ad B (by omega) (by omega) qr s1   v145_6 (show 0 ≤ v145_6.toInt from r23) (show v145_6.toInt ≤ 11 by omega) w12 H.size hT ) (cwV 2 hC.2.2.2.2 uV_RX12_300 rfl rfl rfl (by decide +kernel) ⟨Nat.le_of_ble_eq_true rfl, Nat.le_of_ble_eq_true rfl⟩) rfl hl.1 rfl (Nat.le_of_ble_eq_true rfl) dX12_reaches_228 (fun r347 w349 H locs hp348 hw => ?_)
                      obtain ⟨rfl, hg354⟩ := hp348
                      obtain ⟨g351, g352, c353⟩ := hg354
                      obtain rfl : r336 = r347 := c342.symm.trans c353
                      refine lv_iadd hx hb dX12_reaches_231 ?_
                      refine lv_topi (fun x355 ex355 => ?_)
                      have ex355 : x355.toInt = r270.toInt + r336.toInt := by rw [ex355]; exact wk_add (show (-2147483648) ≤ r270.toInt + r336.toInt by omega) (show r270.toInt + r336.toInt ≤ 2147483647 by omega)
                      refine lv_aload_n hx hb dX12_reaches_232 rfl (lv_at hl 2 rfl) ?_
                      refine tk_getA hC hK hw hT hinX12 kM_at0 (by decide) rfl 35 (by decide) (List.mem_cons_of_mem _ uw_7_8) rfl rfl dX12_reaches_233 ?_
                      refine lv_iload hx hb dX12_reaches_236 (lv_at hl 0 rfl) ?_
                      refine tk_iald hC hK hw hT kM_at18 rfl rfl (show 0 ≤ r280.toInt by omega) (show r280.toInt < 10 by omega) dX12_reaches_238 (fun x356 c357 rx356 tx356 => ?_)
                      refine lv_icmp_ge (tgt := 259) hx hb dX12_reaches_239 (by decide) (fun c358 => ?_) (fun c358 => ?_)
                      · have c358 : x356.toInt ≤ x355.toInt := wk_le.mp c358
                        have gb359 : 0 ≤ sumG 19 10 w12 ∧ sumG 19 10 w12 ≤ 10 := hT.sum (lo := 0) (hi := 1) kM_at19 rfl (by decide) rfl
                        exact J259 x49 H locs ls w12 (show 0 ≤ a1.toInt from r13) (show a1.toInt ≤ 9 from t14) (show 0 ≤ a2.toInt from r15) (show a2.toInt ≤ 9 from t16) (show 0 ≤ a3.toInt from r17) (show a3.toInt ≤ 99999 from t18) (show 2000 ≤ a4.toInt from r19) (show a4.toInt ≤ 101999 from t20) (show 0 ≤ v145_5.toInt from r21) (show v145_5.toInt ≤ 9 from t22) (show 0 ≤ v145_6.toInt from r23) (show v145_6.toInt ≤ 11 by omega) (show 0 ≤ f145_12_0.toInt from r25) (show f145_12_0.toInt ≤ 10 from t26) (show 1 ≤ x49.toInt by omega) (show x49.toInt ≤ 12 by omega) (show (sumG 19 10 w1) + 1 ≤ (sumG 19 10 w12) by omega)  hw hT hF c27 c50 (lv_sub hl [2, 3, 4, 5, 6, 7, 8] rfl)
                      · have c358 : x355.toInt < x356.toInt := wk_leF c358
                        refine lv_aload_n hx hb dX12_reaches_242 rfl (lv_at hl 2 rfl) ?_
                        refine tk_getA hC hK hw hT hinX12 kM_at0 (by decide) rfl 35 (by decide) (List.mem_cons_of_mem _ uw_7_8) rfl rfl dX12_reaches_243 ?_
                        refine lv_iload hx hb dX12_reaches_246 (lv_at hl 0 rfl) ?_
                        refine lv_iload hx hb dX12_reaches_248 (lv_at hl 1 rfl) ?_
                        refine lv_aload_n hx hb dX12_reaches_250 rfl (lv_at hl 2 rfl) ?_
                        refine lv_iload hx hb dX12_reaches_251 (lv_at hl 8 rfl) ?_
                        refine lv_iconst (v := 2) hx hb dX12_reaches_253 (by decide) ?_
                        refine tk_Vi hC hK hw hT hA hE hSR kM_at0 (by decide) rfl (k_X12_streetOf_6 l adK adV dC dI cy ad B (by omega) (by omega) qr s1   v145_6 (show 0 ≤ v145_6.toInt from r23) (show v145_6.toInt ≤ 11 by omega) w12 H.size hT ) (cwV 2 hC.2.2.2.2 uV_RX12_300 rfl rfl rfl (by decide +kernel) ⟨Nat.le_of_ble_eq_true rfl, Nat.le_of_ble_eq_true rfl⟩) rfl hl.1 rfl (Nat.le_of_ble_eq_true rfl) dX12_reaches_254 (fun r360 w362 H locs hp361 hw => ?_)
                        obtain ⟨rfl, hg367⟩ := hp361
                        obtain ⟨g364, g365, c366⟩ := hg367
                        obtain rfl : r336 = r360 := c342.symm.trans c366
                        refine lv_iadd hx hb dX12_reaches_257 ?_
                        refine lv_topi (fun x368 ex368 => ?_)
                        have ex368 : x368.toInt = r270.toInt + r336.toInt := by rw [ex368]; exact wk_add (show (-2147483648) ≤ r270.toInt + r336.toInt by omega) (show r270.toInt + r336.toInt ≤ 2147483647 by omega)
                        refine tk_iast hC hK hw hT kM_at18 (by decide) rfl rfl (show 0 ≤ r280.toInt by omega) (show r280.toInt < 10 by omega) (show 0 ≤ x368.toInt by omega) (show x368.toInt ≤ 100000100 by omega) dX12_reaches_258 (fun H locs w369 hw hT k371 c370 => ?_)
                        have gs372 : sumG 19 10 w369 = sumG 19 10 w12 := sumG_ne 10 k371 (tk_ne kM_at19 kM_at18 (by decide))
                        have hF := hF.put kM_at18 (inE_of (a := 0) (b := 10) (by decide) (show 0 ≤ r280.toInt.toNat by omega) (show r280.toInt.toNat ≤ 10 by omega)) k371
                        have c373 := k371.gi (Or.inl (tk_ne kM_at12 kM_at18 (by decide))) c27
                        have c374 := k371.gi (Or.inl (tk_ne kM_at12 kM_at18 (by decide))) c50
                        have c375 := k371.gi (Or.inl (tk_ne kM_at12 kM_at18 (by decide))) c60
                        have c376 := k371.gi (Or.inl (tk_ne kM_at12 kM_at18 (by decide))) c288
                        have c377 := k371.gi (Or.inl (tk_ne kM_at12 kM_at18 (by decide))) c342
                        have gb378 : 0 ≤ sumG 19 10 w369 ∧ sumG 19 10 w369 ≤ 10 := hT.sum (lo := 0) (hi := 1) kM_at19 rfl (by decide) rfl
                        exact J259 x49 H locs ls w369 (show 0 ≤ a1.toInt from r13) (show a1.toInt ≤ 9 from t14) (show 0 ≤ a2.toInt from r15) (show a2.toInt ≤ 9 from t16) (show 0 ≤ a3.toInt from r17) (show a3.toInt ≤ 99999 from t18) (show 2000 ≤ a4.toInt from r19) (show a4.toInt ≤ 101999 from t20) (show 0 ≤ v145_5.toInt from r21) (show v145_5.toInt ≤ 9 from t22) (show 0 ≤ v145_6.toInt from r23) (show v145_6.toInt ≤ 11 by omega) (show 0 ≤ f145_12_0.toInt from r25) (show f145_12_0.toInt ≤ 10 from t26) (show 1 ≤ x49.toInt by omega) (show x49.toInt ≤ 12 by omega) (show (sumG 19 10 w1) + 1 ≤ (sumG 19 10 w369) by omega)  hw hT hF c373 c374 (lv_sub hl [2, 3, 4, 5, 6, 7, 8] rfl)
              · refine lv_istore (lv' := [(7, .int r270), (0, .ref (ad 0)), (1, .int a1), (2, .int a2), (3, .int a3), (4, .int a4), (5, .int v145_5), (6, .int v145_6)]) hx hb dX12_reaches_187 hl (by decide) rfl (fun ls hl => ?_)
                refine lv_aload_n hx hb dX12_reaches_189 rfl (lv_at hl 1 rfl) ?_
                refine lv_iload hx hb dX12_reaches_190 (lv_at hl 7 rfl) ?_
                refine lv_iload hx hb dX12_reaches_192 (lv_at hl 6 rfl) ?_
                refine tk_Vi hC hK hw hT hA hE hSR kM_at0 (by decide) rfl (k_X12_otherOf_1 l adK adV dC dI cy ad B (by omega) (by omega) qr s1   v145_6 (show 0 ≤ v145_6.toInt from r23) (show v145_6.toInt ≤ 11 by omega) v145_5 (show 0 ≤ v145_5.toInt from r21) (show v145_5.toInt ≤ 9 from t22) w12 H.size hT ) (cwV 2 hC.2.2.2.2 uV_RX12_348 rfl rfl rfl (by decide +kernel) ⟨Nat.le_of_ble_eq_true rfl, Nat.le_of_ble_eq_true rfl⟩) rfl hl.1 rfl (Nat.le_of_ble_eq_true rfl) dX12_reaches_194 (fun r379 w381 H locs hp380 hw => ?_)
                obtain ⟨rfl, hg388⟩ := hp380
                rcases hg388 with ⟨g383, g384⟩ | ⟨g385, g386, c387⟩
                · refine lv_istore (lv' := [(8, .int r379), (7, .int r270), (0, .ref (ad 0)), (1, .int a1), (2, .int a2), (3, .int a3), (4, .int a4), (5, .int v145_5), (6, .int v145_6)]) hx hb dX12_reaches_197 hl (by decide) rfl (fun ls hl => ?_)
                  refine lv_iload hx hb dX12_reaches_199 (lv_at hl 1 rfl) ?_
                  refine lv_ldcw (v := 100000000) hx hb hC.2.2.2.1 (hC.2.2.2.2 _ (List.mem_cons_of_mem _ uw_38_2)) dX12_reaches_201 ?_
                  refine lv_icmp_ge (tgt := 259) hx hb dX12_reaches_204 (by decide) (fun c => absurd c (fun h => absurd (show (100000000 : Int) ≤ r270.toInt from wk_le.mp h) (by omega))) (fun _ => ?_)
                  refine lv_iload hx hb dX12_reaches_207 (lv_at hl 1 rfl) ?_
                  refine lv_aload_n hx hb dX12_reaches_209 rfl (lv_at hl 2 rfl) ?_
                  refine lv_iload hx hb dX12_reaches_210 (lv_at hl 8 rfl) ?_
                  refine lv_iconst (v := 2) hx hb dX12_reaches_212 (by decide) ?_
                  refine tk_Vi hC hK hw hT hA hE hSR kM_at0 (by decide) rfl (k_X12_streetOf_6 l adK adV dC dI cy ad B (by omega) (by omega) qr s1   v145_6 (show 0 ≤ v145_6.toInt from r23) (show v145_6.toInt ≤ 11 by omega) w12 H.size hT ) (cwV 2 hC.2.2.2.2 uV_RX12_300 rfl rfl rfl (by decide +kernel) ⟨Nat.le_of_ble_eq_true rfl, Nat.le_of_ble_eq_true rfl⟩) rfl hl.1 rfl (Nat.le_of_ble_eq_true rfl) dX12_reaches_213 (fun r389 w391 H locs hp390 hw => ?_)
                  obtain ⟨rfl, hg396⟩ := hp390
                  obtain ⟨g393, g394, c395⟩ := hg396
                  refine lv_iadd hx hb dX12_reaches_216 ?_
                  refine lv_topi (fun x397 ex397 => ?_)
                  have ex397 : x397.toInt = r270.toInt + r389.toInt := by rw [ex397]; exact wk_add (show (-2147483648) ≤ r270.toInt + r389.toInt by omega) (show r270.toInt + r389.toInt ≤ 2147483647 by omega)
                  refine lv_iload hx hb dX12_reaches_217 (lv_at hl 6 rfl) ?_
                  refine lv_icmp_gt (tgt := 259) hx hb dX12_reaches_219 (by decide) (fun c398 => ?_) (fun c398 => ?_)
                  · have c398 : a4.toInt < x397.toInt := wk_lt.mp c398
                    have gb399 : 0 ≤ sumG 19 10 w12 ∧ sumG 19 10 w12 ≤ 10 := hT.sum (lo := 0) (hi := 1) kM_at19 rfl (by decide) rfl
                    exact J259 x49 H locs ls w12 (show 0 ≤ a1.toInt from r13) (show a1.toInt ≤ 9 from t14) (show 0 ≤ a2.toInt from r15) (show a2.toInt ≤ 9 from t16) (show 0 ≤ a3.toInt from r17) (show a3.toInt ≤ 99999 from t18) (show 2000 ≤ a4.toInt from r19) (show a4.toInt ≤ 101999 from t20) (show 0 ≤ v145_5.toInt from r21) (show v145_5.toInt ≤ 9 from t22) (show 0 ≤ v145_6.toInt from r23) (show v145_6.toInt ≤ 11 by omega) (show 0 ≤ f145_12_0.toInt from r25) (show f145_12_0.toInt ≤ 10 from t26) (show 1 ≤ x49.toInt by omega) (show x49.toInt ≤ 12 by omega) (show (sumG 19 10 w1) + 1 ≤ (sumG 19 10 w12) by omega)  hw hT hF c27 c50 (lv_sub hl [2, 3, 4, 5, 6, 7, 8] rfl)
                  · have c398 : x397.toInt ≤ a4.toInt := wk_ltF c398
                    refine lv_iload hx hb dX12_reaches_222 (lv_at hl 1 rfl) ?_
                    refine lv_aload_n hx hb dX12_reaches_224 rfl (lv_at hl 2 rfl) ?_
                    refine lv_iload hx hb dX12_reaches_225 (lv_at hl 8 rfl) ?_
                    refine lv_iconst (v := 2) hx hb dX12_reaches_227 (by decide) ?_
                    refine tk_Vi hC hK hw hT hA hE hSR kM_at0 (by decide) rfl (k_X12_streetOf_6 l adK adV dC dI cy ad B (by omega) (by omega) qr s1   v145_6 (show 0 ≤ v145_6.toInt from r23) (show v145_6.toInt ≤ 11 by omega) w12 H.size hT ) (cwV 2 hC.2.2.2.2 uV_RX12_300 rfl rfl rfl (by decide +kernel) ⟨Nat.le_of_ble_eq_true rfl, Nat.le_of_ble_eq_true rfl⟩) rfl hl.1 rfl (Nat.le_of_ble_eq_true rfl) dX12_reaches_228 (fun r400 w402 H locs hp401 hw => ?_)
                    obtain ⟨rfl, hg407⟩ := hp401
                    obtain ⟨g404, g405, c406⟩ := hg407
                    obtain rfl : r389 = r400 := c395.symm.trans c406
                    refine lv_iadd hx hb dX12_reaches_231 ?_
                    refine lv_topi (fun x408 ex408 => ?_)
                    have ex408 : x408.toInt = r270.toInt + r389.toInt := by rw [ex408]; exact wk_add (show (-2147483648) ≤ r270.toInt + r389.toInt by omega) (show r270.toInt + r389.toInt ≤ 2147483647 by omega)
                    refine lv_aload_n hx hb dX12_reaches_232 rfl (lv_at hl 2 rfl) ?_
                    refine tk_getA hC hK hw hT hinX12 kM_at0 (by decide) rfl 35 (by decide) (List.mem_cons_of_mem _ uw_7_8) rfl rfl dX12_reaches_233 ?_
                    refine lv_iload hx hb dX12_reaches_236 (lv_at hl 0 rfl) ?_
                    refine tk_iald hC hK hw hT kM_at18 rfl rfl (show 0 ≤ r379.toInt by omega) (show r379.toInt < 10 by omega) dX12_reaches_238 (fun x409 c410 rx409 tx409 => ?_)
                    refine lv_icmp_ge (tgt := 259) hx hb dX12_reaches_239 (by decide) (fun c411 => ?_) (fun c411 => ?_)
                    · have c411 : x409.toInt ≤ x408.toInt := wk_le.mp c411
                      have gb412 : 0 ≤ sumG 19 10 w12 ∧ sumG 19 10 w12 ≤ 10 := hT.sum (lo := 0) (hi := 1) kM_at19 rfl (by decide) rfl
                      exact J259 x49 H locs ls w12 (show 0 ≤ a1.toInt from r13) (show a1.toInt ≤ 9 from t14) (show 0 ≤ a2.toInt from r15) (show a2.toInt ≤ 9 from t16) (show 0 ≤ a3.toInt from r17) (show a3.toInt ≤ 99999 from t18) (show 2000 ≤ a4.toInt from r19) (show a4.toInt ≤ 101999 from t20) (show 0 ≤ v145_5.toInt from r21) (show v145_5.toInt ≤ 9 from t22) (show 0 ≤ v145_6.toInt from r23) (show v145_6.toInt ≤ 11 by omega) (show 0 ≤ f145_12_0.toInt from r25) (show f145_12_0.toInt ≤ 10 from t26) (show 1 ≤ x49.toInt by omega) (show x49.toInt ≤ 12 by omega) (show (sumG 19 10 w1) + 1 ≤ (sumG 19 10 w12) by omega)  hw hT hF c27 c50 (lv_sub hl [2, 3, 4, 5, 6, 7, 8] rfl)
                    · have c411 : x408.toInt < x409.toInt := wk_leF c411
                      refine lv_aload_n hx hb dX12_reaches_242 rfl (lv_at hl 2 rfl) ?_
                      refine tk_getA hC hK hw hT hinX12 kM_at0 (by decide) rfl 35 (by decide) (List.mem_cons_of_mem _ uw_7_8) rfl rfl dX12_reaches_243 ?_
                      refine lv_iload hx hb dX12_reaches_246 (lv_at hl 0 rfl) ?_
                      refine lv_iload hx hb dX12_reaches_248 (lv_at hl 1 rfl) ?_
                      refine lv_aload_n hx hb dX12_reaches_250 rfl (lv_at hl 2 rfl) ?_
                      refine lv_iload hx hb dX12_reaches_251 (lv_at hl 8 rfl) ?_
                      refine lv_iconst (v := 2) hx hb dX12_reaches_253 (by decide) ?_
                      refine tk_Vi hC hK hw hT hA hE hSR kM_at0 (by decide) rfl (k_X12_streetOf_6 l adK adV dC dI cy ad B (by omega) (by omega) qr s1   v145_6 (show 0 ≤ v145_6.toInt from r23) (show v145_6.toInt ≤ 11 by omega) w12 H.size hT ) (cwV 2 hC.2.2.2.2 uV_RX12_300 rfl rfl rfl (by decide +kernel) ⟨Nat.le_of_ble_eq_true rfl, Nat.le_of_ble_eq_true rfl⟩) rfl hl.1 rfl (Nat.le_of_ble_eq_true rfl) dX12_reaches_254 (fun r413 w415 H locs hp414 hw => ?_)
                      obtain ⟨rfl, hg420⟩ := hp414
                      obtain ⟨g417, g418, c419⟩ := hg420
                      obtain rfl : r389 = r413 := c395.symm.trans c419
                      refine lv_iadd hx hb dX12_reaches_257 ?_
                      refine lv_topi (fun x421 ex421 => ?_)
                      have ex421 : x421.toInt = r270.toInt + r389.toInt := by rw [ex421]; exact wk_add (show (-2147483648) ≤ r270.toInt + r389.toInt by omega) (show r270.toInt + r389.toInt ≤ 2147483647 by omega)
                      refine tk_iast hC hK hw hT kM_at18 (by decide) rfl rfl (show 0 ≤ r379.toInt by omega) (show r379.toInt < 10 by omega) (show 0 ≤ x421.toInt by omega) (show x421.toInt ≤ 100000100 by omega) dX12_reaches_258 (fun H locs w422 hw hT k424 c423 => ?_)
                      have gs425 : sumG 19 10 w422 = sumG 19 10 w12 := sumG_ne 10 k424 (tk_ne kM_at19 kM_at18 (by decide))
                      have hF := hF.put kM_at18 (inE_of (a := 0) (b := 10) (by decide) (show 0 ≤ r379.toInt.toNat by omega) (show r379.toInt.toNat ≤ 10 by omega)) k424
                      have c426 := k424.gi (Or.inl (tk_ne kM_at12 kM_at18 (by decide))) c27
                      have c427 := k424.gi (Or.inl (tk_ne kM_at12 kM_at18 (by decide))) c50
                      have c428 := k424.gi (Or.inl (tk_ne kM_at12 kM_at18 (by decide))) c60
                      have c429 := k424.gi (Or.inl (tk_ne kM_at12 kM_at18 (by decide))) c278
                      have c430 := k424.gi (Or.inl (tk_ne kM_at12 kM_at18 (by decide))) c395
                      have gb431 : 0 ≤ sumG 19 10 w422 ∧ sumG 19 10 w422 ≤ 10 := hT.sum (lo := 0) (hi := 1) kM_at19 rfl (by decide) rfl
                      exact J259 x49 H locs ls w422 (show 0 ≤ a1.toInt from r13) (show a1.toInt ≤ 9 from t14) (show 0 ≤ a2.toInt from r15) (show a2.toInt ≤ 9 from t16) (show 0 ≤ a3.toInt from r17) (show a3.toInt ≤ 99999 from t18) (show 2000 ≤ a4.toInt from r19) (show a4.toInt ≤ 101999 from t20) (show 0 ≤ v145_5.toInt from r21) (show v145_5.toInt ≤ 9 from t22) (show 0 ≤ v145_6.toInt from r23) (show v145_6.toInt ≤ 11 by omega) (show 0 ≤ f145_12_0.toInt from r25) (show f145_12_0.toInt ≤ 10 from t26) (show 1 ≤ x49.toInt by omega) (show x49.toInt ≤ 12 by omega) (show (sumG 19 10 w1) + 1 ≤ (sumG 19 10 w422) by omega)  hw hT hF c426 c427 (lv_sub hl [2, 3, 4, 5, 6, 7, 8] rfl)
                · refine lv_istore (lv' := [(8, .int r379), (7, .int r270), (0, .ref (ad 0)), (1, .int a1), (2, .int a2), (3, .int a3), (4, .int a4), (5, .int v145_5), (6, .int v145_6)]) hx hb dX12_reaches_197 hl (by decide) rfl (fun ls hl => ?_)
                  refine lv_iload hx hb dX12_reaches_199 (lv_at hl 1 rfl) ?_
                  refine lv_ldcw (v := 100000000) hx hb hC.2.2.2.1 (hC.2.2.2.2 _ (List.mem_cons_of_mem _ uw_38_2)) dX12_reaches_201 ?_
                  refine lv_icmp_ge (tgt := 259) hx hb dX12_reaches_204 (by decide) (fun c => absurd c (fun h => absurd (show (100000000 : Int) ≤ r270.toInt from wk_le.mp h) (by omega))) (fun _ => ?_)
                  refine lv_iload hx hb dX12_reaches_207 (lv_at hl 1 rfl) ?_
                  refine lv_aload_n hx hb dX12_reaches_209 rfl (lv_at hl 2 rfl) ?_
                  refine lv_iload hx hb dX12_reaches_210 (lv_at hl 8 rfl) ?_
                  refine lv_iconst (v := 2) hx hb dX12_reaches_212 (by decide) ?_
                  refine tk_Vi hC hK hw hT hA hE hSR kM_at0 (by decide) rfl (k_X12_streetOf_6 l adK adV dC dI cy ad B (by omega) (by omega) qr s1   v145_6 (show 0 ≤ v145_6.toInt from r23) (show v145_6.toInt ≤ 11 by omega) w12 H.size hT ) (cwV 2 hC.2.2.2.2 uV_RX12_300 rfl rfl rfl (by decide +kernel) ⟨Nat.le_of_ble_eq_true rfl, Nat.le_of_ble_eq_true rfl⟩) rfl hl.1 rfl (Nat.le_of_ble_eq_true rfl) dX12_reaches_213 (fun r432 w434 H locs hp433 hw => ?_)
                  obtain ⟨rfl, hg439⟩ := hp433
                  obtain ⟨g436, g437, c438⟩ := hg439
                  refine lv_iadd hx hb dX12_reaches_216 ?_
                  refine lv_topi (fun x440 ex440 => ?_)
                  have ex440 : x440.toInt = r270.toInt + r432.toInt := by rw [ex440]; exact wk_add (show (-2147483648) ≤ r270.toInt + r432.toInt by omega) (show r270.toInt + r432.toInt ≤ 2147483647 by omega)
                  refine lv_iload hx hb dX12_reaches_217 (lv_at hl 6 rfl) ?_
                  refine lv_icmp_gt (tgt := 259) hx hb dX12_reaches_219 (by decide) (fun c441 => ?_) (fun c441 => ?_)
                  · have c441 : a4.toInt < x440.toInt := wk_lt.mp c441
                    have gb442 : 0 ≤ sumG 19 10 w12 ∧ sumG 19 10 w12 ≤ 10 := hT.sum (lo := 0) (hi := 1) kM_at19 rfl (by decide) rfl
                    exact J259 x49 H locs ls w12 (show 0 ≤ a1.toInt from r13) (show a1.toInt ≤ 9 from t14) (show 0 ≤ a2.toInt from r15) (show a2.toInt ≤ 9 from t16) (show 0 ≤ a3.toInt from r17) (show a3.toInt ≤ 99999 from t18) (show 2000 ≤ a4.toInt from r19) (show a4.toInt ≤ 101999 from t20) (show 0 ≤ v145_5.toInt from r21) (show v145_5.toInt ≤ 9 from t22) (show 0 ≤ v145_6.toInt from r23) (show v145_6.toInt ≤ 11 by omega) (show 0 ≤ f145_12_0.toInt from r25) (show f145_12_0.toInt ≤ 10 from t26) (show 1 ≤ x49.toInt by omega) (show x49.toInt ≤ 12 by omega) (show (sumG 19 10 w1) + 1 ≤ (sumG 19 10 w12) by omega)  hw hT hF c27 c50 (lv_sub hl [2, 3, 4, 5, 6, 7, 8] rfl)
                  · have c441 : x440.toInt ≤ a4.toInt := wk_ltF c441
                    refine lv_iload hx hb dX12_reaches_222 (lv_at hl 1 rfl) ?_
                    refine lv_aload_n hx hb dX12_reaches_224 rfl (lv_at hl 2 rfl) ?_
                    refine lv_iload hx hb dX12_reaches_225 (lv_at hl 8 rfl) ?_
                    refine lv_iconst (v := 2) hx hb dX12_reaches_227 (by decide) ?_
                    refine tk_Vi hC hK hw hT hA hE hSR kM_at0 (by decide) rfl (k_X12_streetOf_6 l adK adV dC dI cy ad B (by omega) (by omega) qr s1   v145_6 (show 0 ≤ v145_6.toInt from r23) (show v145_6.toInt ≤ 11 by omega) w12 H.size hT ) (cwV 2 hC.2.2.2.2 uV_RX12_300 rfl rfl rfl (by decide +kernel) ⟨Nat.le_of_ble_eq_true rfl, Nat.le_of_ble_eq_true rfl⟩) rfl hl.1 rfl (Nat.le_of_ble_eq_true rfl) dX12_reaches_228 (fun r443 w445 H locs hp444 hw => ?_)
                    obtain ⟨rfl, hg450⟩ := hp444
                    obtain ⟨g447, g448, c449⟩ := hg450
                    obtain rfl : r432 = r443 := c438.symm.trans c449
                    refine lv_iadd hx hb dX12_reaches_231 ?_
                    refine lv_topi (fun x451 ex451 => ?_)
                    have ex451 : x451.toInt = r270.toInt + r432.toInt := by rw [ex451]; exact wk_add (show (-2147483648) ≤ r270.toInt + r432.toInt by omega) (show r270.toInt + r432.toInt ≤ 2147483647 by omega)
                    refine lv_aload_n hx hb dX12_reaches_232 rfl (lv_at hl 2 rfl) ?_
                    refine tk_getA hC hK hw hT hinX12 kM_at0 (by decide) rfl 35 (by decide) (List.mem_cons_of_mem _ uw_7_8) rfl rfl dX12_reaches_233 ?_
                    refine lv_iload hx hb dX12_reaches_236 (lv_at hl 0 rfl) ?_
                    refine tk_iald hC hK hw hT kM_at18 rfl rfl (show 0 ≤ r379.toInt by omega) (show r379.toInt < 10 by omega) dX12_reaches_238 (fun x452 c453 rx452 tx452 => ?_)
                    refine lv_icmp_ge (tgt := 259) hx hb dX12_reaches_239 (by decide) (fun c454 => ?_) (fun c454 => ?_)
                    · have c454 : x452.toInt ≤ x451.toInt := wk_le.mp c454
                      have gb455 : 0 ≤ sumG 19 10 w12 ∧ sumG 19 10 w12 ≤ 10 := hT.sum (lo := 0) (hi := 1) kM_at19 rfl (by decide) rfl
                      exact J259 x49 H locs ls w12 (show 0 ≤ a1.toInt from r13) (show a1.toInt ≤ 9 from t14) (show 0 ≤ a2.toInt from r15) (show a2.toInt ≤ 9 from t16) (show 0 ≤ a3.toInt from r17) (show a3.toInt ≤ 99999 from t18) (show 2000 ≤ a4.toInt from r19) (show a4.toInt ≤ 101999 from t20) (show 0 ≤ v145_5.toInt from r21) (show v145_5.toInt ≤ 9 from t22) (show 0 ≤ v145_6.toInt from r23) (show v145_6.toInt ≤ 11 by omega) (show 0 ≤ f145_12_0.toInt from r25) (show f145_12_0.toInt ≤ 10 from t26) (show 1 ≤ x49.toInt by omega) (show x49.toInt ≤ 12 by omega) (show (sumG 19 10 w1) + 1 ≤ (sumG 19 10 w12) by omega)  hw hT hF c27 c50 (lv_sub hl [2, 3, 4, 5, 6, 7, 8] rfl)
                    · have c454 : x451.toInt < x452.toInt := wk_leF c454
                      refine lv_aload_n hx hb dX12_reaches_242 rfl (lv_at hl 2 rfl) ?_
                      refine tk_getA hC hK hw hT hinX12 kM_at0 (by decide) rfl 35 (by decide) (List.mem_cons_of_mem _ uw_7_8) rfl rfl dX12_reaches_243 ?_
                      refine lv_iload hx hb dX12_reaches_246 (lv_at hl 0 rfl) ?_
                      refine lv_iload hx hb dX12_reaches_248 (lv_at hl 1 rfl) ?_
                      refine lv_aload_n hx hb dX12_reaches_250 rfl (lv_at hl 2 rfl) ?_
                      refine lv_iload hx hb dX12_reaches_251 (lv_at hl 8 rfl) ?_
                      refine lv_iconst (v := 2) hx hb dX12_reaches_253 (by decide) ?_
                      refine tk_Vi hC hK hw hT hA hE hSR kM_at0 (by decide) rfl (k_X12_streetOf_6 l adK adV dC dI cy ad B (by omega) (by omega) qr s1   v145_6 (show 0 ≤ v145_6.toInt from r23) (show v145_6.toInt ≤ 11 by omega) w12 H.size hT ) (cwV 2 hC.2.2.2.2 uV_RX12_300 rfl rfl rfl (by decide +kernel) ⟨Nat.le_of_ble_eq_true rfl, Nat.le_of_ble_eq_true rfl⟩) rfl hl.1 rfl (Nat.le_of_ble_eq_true rfl) dX12_reaches_254 (fun r456 w458 H locs hp457 hw => ?_)
                      obtain ⟨rfl, hg463⟩ := hp457
                      obtain ⟨g460, g461, c462⟩ := hg463
                      obtain rfl : r432 = r456 := c438.symm.trans c462
                      refine lv_iadd hx hb dX12_reaches_257 ?_
                      refine lv_topi (fun x464 ex464 => ?_)
                      have ex464 : x464.toInt = r270.toInt + r432.toInt := by rw [ex464]; exact wk_add (show (-2147483648) ≤ r270.toInt + r432.toInt by omega) (show r270.toInt + r432.toInt ≤ 2147483647 by omega)
                      refine tk_iast hC hK hw hT kM_at18 (by decide) rfl rfl (show 0 ≤ r379.toInt by omega) (show r379.toInt < 10 by omega) (show 0 ≤ x464.toInt by omega) (show x464.toInt ≤ 100000100 by omega) dX12_reaches_258 (fun H locs w465 hw hT k467 c466 => ?_)
                      have gs468 : sumG 19 10 w465 = sumG 19 10 w12 := sumG_ne 10 k467 (tk_ne kM_at19 kM_at18 (by decide))
                      have hF := hF.put kM_at18 (inE_of (a := 0) (b := 10) (by decide) (show 0 ≤ r379.toInt.toNat by omega) (show r379.toInt.toNat ≤ 10 by omega)) k467
                      have c469 := k467.gi (Or.inl (tk_ne kM_at12 kM_at18 (by decide))) c27
                      have c470 := k467.gi (Or.inl (tk_ne kM_at12 kM_at18 (by decide))) c50
                      have c471 := k467.gi (Or.inl (tk_ne kM_at12 kM_at18 (by decide))) c60
                      have c472 := k467.gi (Or.inl (tk_ne kM_at12 kM_at18 (by decide))) c278
                      have c473 := k467.gi (Or.inl (tk_ne kM_at12 kM_at18 (by decide))) c438
                      have gb474 : 0 ≤ sumG 19 10 w465 ∧ sumG 19 10 w465 ≤ 10 := hT.sum (lo := 0) (hi := 1) kM_at19 rfl (by decide) rfl
                      exact J259 x49 H locs ls w465 (show 0 ≤ a1.toInt from r13) (show a1.toInt ≤ 9 from t14) (show 0 ≤ a2.toInt from r15) (show a2.toInt ≤ 9 from t16) (show 0 ≤ a3.toInt from r17) (show a3.toInt ≤ 99999 from t18) (show 2000 ≤ a4.toInt from r19) (show a4.toInt ≤ 101999 from t20) (show 0 ≤ v145_5.toInt from r21) (show v145_5.toInt ≤ 9 from t22) (show 0 ≤ v145_6.toInt from r23) (show v145_6.toInt ≤ 11 by omega) (show 0 ≤ f145_12_0.toInt from r25) (show f145_12_0.toInt ≤ 10 from t26) (show 1 ≤ x49.toInt by omega) (show x49.toInt ≤ 12 by omega) (show (sumG 19 10 w1) + 1 ≤ (sumG 19 10 w465) by omega)  hw hT hF c469 c470 (lv_sub hl [2, 3, 4, 5, 6, 7, 8] rfl)
      have L59 : ∀ (n59 : Nat) (v59_5 : Int32) (v59_6 : Int32) (H : Heap) (locs : List Loc) (ls : Array Slot) (w475 : va_W), 0 ≤ a1.toInt → a1.toInt ≤ 9 → 0 ≤ a2.toInt → a2.toInt ≤ 9 → 0 ≤ a3.toInt → a3.toInt ≤ 99999 → 2000 ≤ a4.toInt → a4.toInt ≤ 101999 → (-1) ≤ v59_5.toInt → v59_5.toInt ≤ 9 → 0 ≤ v59_6.toInt → v59_6.toInt ≤ 10 → ((sumG 19 10 w475) ≤ (sumG 19 10 w1)) → ((sumG 19 10 w1) ≤ (sumG 19 10 w475)) → ((v59_5.toInt = -1 ∨ (gi w475 19 (v59_5.toInt).toNat).toInt = 0)) → (10 - v59_6.toInt).toNat < n59 → Wd dC dI A s.heap H locs w475 → TW ksM ad cy B qr 12 w475 → FE ksM [(77, 0, 10), (78, 0, 10)] w0 w475 → gi w475 19 (a2.toInt).toNat = 0 → lv_has ls 9 [(0, .ref (ad 0)), (1, .int a1), (2, .int a2), (3, .int a3), (4, .int a4), (5, .int v59_5), (6, .int v59_6)] → W p l e ({ frames := 5, cells := 0, slots := 0, locals := 105 }) s m (List.toArray [.ref (ad 0), .int a1, .int a2, .int a3, .int a4]) below meth c H locs 0 0 (MQ below (va_Qi (P_X12_reaches_1 ad cy B qr s1 a1 a2 a3 a4 w0) (fun u : va_W => wpost dC dI cy A u) A) (List.toArray [.ref (ad 0), .int a1, .int a2, .int a3, .int a4]) s 0 0 A) (F0 m 59 ls []) := by
        intro n59
        induction n59 with
        | zero => intro v59_5 v59_6 H locs ls w475 r476 t477 r478 t479 r480 t481 r482 t483 r484 t485 r486 t487 hcr59_0 hcr59_1 hcr59_2 hm59 hw hT hF c488 hl; omega
        | succ n59 ih59 =>
          intro v59_5 v59_6 H locs ls w475 r476 t477 r478 t479 r480 t481 r482 t483 r484 t485 r486 t487 hcr59_0 hcr59_1 hcr59_2 hm59 hw hT hF c488 hl
          have J119 : ∀ (v119_5 : Int32) (f119_12_0 : Int32) (f119_19__v59_6_toInt_toNat : Int32) (H : Heap) (locs : List Loc) (ls : Array Slot) (w489 : va_W), 0 ≤ a1.toInt → a1.toInt ≤ 9 → 0 ≤ a2.toInt → a2.toInt ≤ 9 → 0 ≤ a3.toInt → a3.toInt ≤ 99999 → 2000 ≤ a4.toInt → a4.toInt ≤ 101999 → (-1) ≤ v119_5.toInt → v119_5.toInt ≤ 9 → 0 ≤ v59_6.toInt → v59_6.toInt ≤ 9 → 1 ≤ f119_12_0.toInt → f119_12_0.toInt ≤ 10 → 0 ≤ f119_19__v59_6_toInt_toNat.toInt → f119_19__v59_6_toInt_toNat.toInt ≤ 1 → ((sumG 19 10 w489) ≤ (sumG 19 10 w1)) → ((sumG 19 10 w1) ≤ (sumG 19 10 w489)) → ((v119_5.toInt = -1 ∨ (gi w489 19 (v119_5.toInt).toNat).toInt = 0)) → Wd dC dI A s.heap H locs w489 → TW ksM ad cy B qr 12 w489 → FE ksM [(77, 0, 10), (78, 0, 10)] w0 w489 → gi w489 12 0 = f119_12_0 → gi w489 19 (a2.toInt).toNat = 0 → gi w489 19 (v59_6.toInt).toNat = f119_19__v59_6_toInt_toNat → lv_has ls 9 [(0, .ref (ad 0)), (1, .int a1), (2, .int a2), (3, .int a3), (4, .int a4), (5, .int v119_5), (6, .int v59_6)] → W p l e ({ frames := 5, cells := 0, slots := 0, locals := 105 }) s m (List.toArray [.ref (ad 0), .int a1, .int a2, .int a3, .int a4]) below meth c H locs 0 0 (MQ below (va_Qi (P_X12_reaches_1 ad cy B qr s1 a1 a2 a3 a4 w0) (fun u : va_W => wpost dC dI cy A u) A) (List.toArray [.ref (ad 0), .int a1, .int a2, .int a3, .int a4]) s 0 0 A) (F0 m 119 ls []) := by
            intro v119_5 f119_12_0 f119_19__v59_6_toInt_toNat H locs ls w489 r490 t491 r492 t493 r494 t495 r496 t497 r498 t499 r500 t501 r502 t503 r506 t507 hcr119_0 hcr119_1 hcr119_2 hw hT hF c504 c505 c508 hl
            obtain ⟨x509, ex509⟩ : ∃ y : Int32, y = v59_6 + Int32.ofInt 1 := ⟨_, rfl⟩
            refine lv_iinc (v := x509) (lv' := [(6, .int x509), (0, .ref (ad 0)), (1, .int a1), (2, .int a2), (3, .int a3), (4, .int a4), (5, .int v119_5)]) hx hb dX12_reaches_119 hl (k := 6) rfl ex509.symm (by decide) rfl (fun ls hl => ?_)
            have ex509 : x509.toInt = v59_6.toInt + 1 := by rw [ex509]; exact wk_add (y := 1) (show -2147483648 ≤ v59_6.toInt + 1 by omega) (show v59_6.toInt + 1 ≤ 2147483647 by omega)
            refine lv_goto (tgt := 59) hx hb dX12_reaches_122 (by decide) ?_
            have gb510 : 0 ≤ sumG 19 10 w489 ∧ sumG 19 10 w489 ≤ 10 := hT.sum (lo := 0) (hi := 1) kM_at19 rfl (by decide) rfl
            exact ih59 v119_5 x509 H locs ls w489 (show 0 ≤ a1.toInt from r490) (show a1.toInt ≤ 9 from t491) (show 0 ≤ a2.toInt from r492) (show a2.toInt ≤ 9 from t493) (show 0 ≤ a3.toInt from r494) (show a3.toInt ≤ 99999 from t495) (show 2000 ≤ a4.toInt from r496) (show a4.toInt ≤ 101999 from t497) (show (-1) ≤ v119_5.toInt from r498) (show v119_5.toInt ≤ 9 from t499) (show 0 ≤ x509.toInt by omega) (show x509.toInt ≤ 10 by omega) (show (sumG 19 10 w489) ≤ (sumG 19 10 w1) by omega) (show (sumG 19 10 w1) ≤ (sumG 19 10 w489) by omega) (show (v119_5.toInt = -1 ∨ (gi w489 19 (v119_5.toInt).toNat).toInt = 0) by first | omega | assumption | (left; omega) | (left; decide) | (right; assumption) | (right; rw [c505]; omega) | (right; rw [c505]; decide) | (right; rw [c508]; omega) | (right; rw [c508]; decide) | (right; rcases hcr59_2 with hx1 | hx1 <;> first | exact hx1 | (rw [← hx1]; exact (congrArg Int32.toInt ((hF.gi kM_at19 rfl rfl).symm.trans c505)).trans (by omega))) | (right; rcases hcr59_2 with hx1 | hx1 <;> first | exact hx1 | (rw [← hx1]; exact (congrArg Int32.toInt ((hF.gi kM_at19 rfl rfl).symm.trans c508)).trans (by omega)))) (show (10 - x509.toInt).toNat < n59 by omega) hw hT hF c505 (lv_sub hl [1, 2, 3, 4, 5, 6, 0] rfl)
          have J115 : ∀ (f115_12_0 : Int32) (H : Heap) (locs : List Loc) (ls : Array Slot) (w511 : va_W), 0 ≤ a1.toInt → a1.toInt ≤ 9 → 0 ≤ a2.toInt → a2.toInt ≤ 9 → 0 ≤ a3.toInt → a3.toInt ≤ 99999 → 2000 ≤ a4.toInt → a4.toInt ≤ 101999 → (-1) ≤ v59_5.toInt → v59_5.toInt ≤ 9 → 0 ≤ v59_6.toInt → v59_6.toInt ≤ 9 → 1 ≤ f115_12_0.toInt → f115_12_0.toInt ≤ 10 → ((sumG 19 10 w511) ≤ (sumG 19 10 w1)) → ((sumG 19 10 w1) ≤ (sumG 19 10 w511)) → ((v59_5.toInt = -1 ∨ (gi w511 19 (v59_5.toInt).toNat).toInt = 0)) → Wd dC dI A s.heap H locs w511 → TW ksM ad cy B qr 12 w511 → FE ksM [(77, 0, 10), (78, 0, 10)] w0 w511 → gi w511 12 0 = f115_12_0 → gi w511 19 (a2.toInt).toNat = 0 → gi w511 19 (v59_6.toInt).toNat = 0 → lv_has ls 9 [(0, .ref (ad 0)), (1, .int a1), (2, .int a2), (3, .int a3), (4, .int a4), (5, .int v59_5), (6, .int v59_6)] → W p l e ({ frames := 5, cells := 0, slots := 0, locals := 105 }) s m (List.toArray [.ref (ad 0), .int a1, .int a2, .int a3, .int a4]) below meth c H locs 0 0 (MQ below (va_Qi (P_X12_reaches_1 ad cy B qr s1 a1 a2 a3 a4 w0) (fun u : va_W => wpost dC dI cy A u) A) (List.toArray [.ref (ad 0), .int a1, .int a2, .int a3, .int a4]) s 0 0 A) (F0 m 115 ls []) := by
            intro f115_12_0 H locs ls w511 r512 t513 r514 t515 r516 t517 r518 t519 r520 t521 r522 t523 r524 t525 hcr115_0 hcr115_1 hcr115_2 hw hT hF c526 c527 c528 hl
            refine lv_iload hx hb dX12_reaches_115 (lv_at hl 6 rfl) ?_
            refine lv_istore (lv' := [(5, .int v59_6), (0, .ref (ad 0)), (1, .int a1), (2, .int a2), (3, .int a3), (4, .int a4), (6, .int v59_6)]) hx hb dX12_reaches_117 hl (by decide) rfl (fun ls hl => ?_)
            have gb529 : 0 ≤ sumG 19 10 w511 ∧ sumG 19 10 w511 ≤ 10 := hT.sum (lo := 0) (hi := 1) kM_at19 rfl (by decide) rfl
            exact J119 v59_6 f115_12_0 0 H locs ls w511 (show 0 ≤ a1.toInt from r512) (show a1.toInt ≤ 9 from t513) (show 0 ≤ a2.toInt from r514) (show a2.toInt ≤ 9 from t515) (show 0 ≤ a3.toInt from r516) (show a3.toInt ≤ 99999 from t517) (show 2000 ≤ a4.toInt from r518) (show a4.toInt ≤ 101999 from t519) (show (-1) ≤ v59_6.toInt from Int.le_trans (by decide) r522) (show v59_6.toInt ≤ 9 from t523) (show 0 ≤ v59_6.toInt from r522) (show v59_6.toInt ≤ 9 from t523) (show 1 ≤ f115_12_0.toInt from r524) (show f115_12_0.toInt ≤ 10 from t525) (by decide) (by decide) (show (sumG 19 10 w511) ≤ (sumG 19 10 w1) by omega) (show (sumG 19 10 w1) ≤ (sumG 19 10 w511) by omega) (show (v59_6.toInt = -1 ∨ (gi w511 19 (v59_6.toInt).toNat).toInt = 0) by first | omega | assumption | (left; omega) | (left; decide) | (right; assumption) | (right; rw [c527]; omega) | (right; rw [c527]; decide) | (right; rw [c528]; omega) | (right; rw [c528]; decide))  hw hT hF c526 c527 c528 (lv_sub hl [1, 2, 3, 4, 5, 0, 6] rfl)
          refine lv_iload hx hb dX12_reaches_59 (lv_at hl 6 rfl) ?_
          refine lv_aload_n hx hb dX12_reaches_61 rfl (lv_at hl 0 rfl) ?_
          refine tk_getA hC hK hw hT hinX12 kM_at0 (by decide) rfl 26 (by decide) (List.mem_cons_of_mem _ uw_7_1) rfl rfl dX12_reaches_62 ?_
          refine lv_iconst (v := 0) hx hb dX12_reaches_65 (by decide) ?_
          refine tk_ialdR hC hK hw hT kM_at12 rfl (by decide) (by decide) dX12_reaches_66 (fun x530 c531 Ex530 => ?_)
          have bx530 := tk_rgI rfl 0 1 1 0 10 (by decide +kernel) ⟨0, by decide, by decide⟩ Ex530
          have c531 : gi w475 12 0 = x530 := c531
          refine lv_icmp_ge (tgt := 125) hx hb dX12_reaches_67 (by decide) (fun c532 => ?_) (fun c532 => ?_)
          · have c532 : x530.toInt ≤ v59_6.toInt := wk_le.mp c532
            refine lv_iload hx hb dX12_reaches_125 (lv_at hl 5 rfl) ?_
            refine lv_if_ge (tgt := 134) hx hb dX12_reaches_127 (by decide) (fun c533 => ?_) (fun c533 => ?_)
            · have c533 : (0 : Int) ≤ v59_5.toInt := wk_le.mp c533
              refine lv_aload_n hx hb dX12_reaches_134 rfl (lv_at hl 0 rfl) ?_
              refine tk_getA hC hK hw hT hinX12 kM_at0 (by decide) rfl 36 (by decide) (List.mem_cons_of_mem _ uw_7_9) rfl rfl dX12_reaches_135 ?_
              refine lv_iload hx hb dX12_reaches_138 (lv_at hl 5 rfl) ?_
              refine lv_iconst (v := 1) hx hb dX12_reaches_140 (by decide) ?_
              refine tk_zast hC hK hw hT kM_at19 (by decide) rfl rfl (show 0 ≤ v59_5.toInt from c533) (show v59_5.toInt < 10 from Int.lt_of_le_of_lt t485 (by decide)) (by decide) (by decide) dX12_reaches_141 (fun H locs w534 hw hT k536 c535 => ?_)
              have gs537 : sumG 19 10 w534 = sumG 19 10 w475 - (gi w475 19 (v59_5.toInt.toNat)).toInt + (gi w534 19 (v59_5.toInt.toNat)).toInt := sumG_up (i := v59_5.toInt.toNat) k536 10 (show v59_5.toInt.toNat < 10 by omega)
              rw [show gi w534 19 (v59_5.toInt.toNat) = 1 from c535] at gs537
              rw [show (1 : Int32).toInt = 1 by decide] at gs537
              have hF := hF.put kM_at19 (inE_of (a := 0) (b := 10) (by decide) (show 0 ≤ v59_5.toInt.toNat by omega) (show v59_5.toInt.toNat ≤ 10 by omega)) k536
              have c538 := k536.gi (Or.inl (tk_ne kM_at12 kM_at19 (by decide))) c531
              refine lv_iconst (v := 0) hx hb dX12_reaches_142 (by decide) ?_
              refine lv_istore (lv' := [(6, .int 0), (0, .ref (ad 0)), (1, .int a1), (2, .int a2), (3, .int a3), (4, .int a4), (5, .int v59_5)]) hx hb dX12_reaches_143 hl (by decide) rfl (fun ls hl => ?_)
              have gb539 : 0 ≤ sumG 19 10 w534 ∧ sumG 19 10 w534 ≤ 10 := hT.sum (lo := 0) (hi := 1) kM_at19 rfl (by decide) rfl
              exact L145 ((12 - (0 : Int)).toNat + 1) v59_5 0 x530 H locs ls w534 (show 0 ≤ a1.toInt from r476) (show a1.toInt ≤ 9 from t477) (show 0 ≤ a2.toInt from r478) (show a2.toInt ≤ 9 from t479) (show 0 ≤ a3.toInt from r480) (show a3.toInt ≤ 99999 from t481) (show 2000 ≤ a4.toInt from r482) (show a4.toInt ≤ 101999 from t483) (show 0 ≤ v59_5.toInt from c533) (show v59_5.toInt ≤ 9 from t485) (by decide) (by decide) (show 0 ≤ x530.toInt by omega) (show x530.toInt ≤ 10 by omega) (show (sumG 19 10 w1) + 1 ≤ (sumG 19 10 w534) by omega) (Nat.lt_succ_self _) hw hT hF c538 (lv_sub hl [1, 2, 3, 4, 5, 6, 0] rfl)
            · have c533 : v59_5.toInt < (0 : Int) := wk_leF c533
              refine lv_ldcw (v := 100000000) hx hb hC.2.2.2.1 (hC.2.2.2.2 _ (List.mem_cons_of_mem _ uw_38_2)) dX12_reaches_130 ?_
              exact tk_iret hC hr hlocks hK ⟨hT, hF, ⟨(by decide), (by decide)⟩⟩ hw dX12_reaches_133
          · have c532 : v59_6.toInt < x530.toInt := wk_leF c532
            refine lv_aload_n hx hb dX12_reaches_70 rfl (lv_at hl 0 rfl) ?_
            refine tk_getA hC hK hw hT hinX12 kM_at0 (by decide) rfl 36 (by decide) (List.mem_cons_of_mem _ uw_7_9) rfl rfl dX12_reaches_71 ?_
            refine lv_iload hx hb dX12_reaches_74 (lv_at hl 6 rfl) ?_
            refine tk_zald hC hK hw hT kM_at19 rfl rfl (show 0 ≤ v59_6.toInt from r486) (show v59_6.toInt < 10 by omega) dX12_reaches_76 (fun x540 c541 rx540 tx540 => ?_)
            have c541 : gi w475 19 (v59_6.toInt).toNat = x540 := (congrArg (gi w475 19) (congrArg Int.toNat (show v59_6.toInt = v59_6.toInt by omega))).trans c541
            refine lv_if_ne (tgt := 119) hx hb dX12_reaches_77 (by decide) (fun c542 => ?_) (fun c542 => ?_)
            · have c542 : ¬ x540.toInt = (0 : Int) := wk_eqF c542
              have gb543 : 0 ≤ sumG 19 10 w475 ∧ sumG 19 10 w475 ≤ 10 := hT.sum (lo := 0) (hi := 1) kM_at19 rfl (by decide) rfl
              exact J119 v59_5 x530 x540 H locs ls w475 (show 0 ≤ a1.toInt from r476) (show a1.toInt ≤ 9 from t477) (show 0 ≤ a2.toInt from r478) (show a2.toInt ≤ 9 from t479) (show 0 ≤ a3.toInt from r480) (show a3.toInt ≤ 99999 from t481) (show 2000 ≤ a4.toInt from r482) (show a4.toInt ≤ 101999 from t483) (show (-1) ≤ v59_5.toInt from r484) (show v59_5.toInt ≤ 9 from t485) (show 0 ≤ v59_6.toInt from r486) (show v59_6.toInt ≤ 9 by omega) (show 1 ≤ x530.toInt by omega) (show x530.toInt ≤ 10 by omega) (show 0 ≤ x540.toInt from rx540) (show x540.toInt ≤ 1 from tx540) (show (sumG 19 10 w475) ≤ (sumG 19 10 w1) by omega) (show (sumG 19 10 w1) ≤ (sumG 19 10 w475) by omega) (show (v59_5.toInt = -1 ∨ (gi w475 19 (v59_5.toInt).toNat).toInt = 0) by first | omega | assumption | (left; omega) | (left; decide) | (right; assumption) | (right; rw [c488]; omega) | (right; rw [c488]; decide) | (right; rw [c541]; omega) | (right; rw [c541]; decide))  hw hT hF c531 c488 c541 (lv_sub hl [0, 1, 2, 3, 4, 5, 6] rfl)
            · have c542 : x540.toInt = (0 : Int) := wk_eq.mp c542
              refine lv_aload_n hx hb dX12_reaches_80 rfl (lv_at hl 0 rfl) ?_
              refine tk_getA hC hK hw hT hinX12 kM_at0 (by decide) rfl 35 (by decide) (List.mem_cons_of_mem _ uw_7_8) rfl rfl dX12_reaches_81 ?_
              refine lv_iload hx hb dX12_reaches_84 (lv_at hl 6 rfl) ?_
              refine tk_iald hC hK hw hT kM_at18 rfl rfl (show 0 ≤ v59_6.toInt from r486) (show v59_6.toInt < 10 by omega) dX12_reaches_86 (fun x544 c545 rx544 tx544 => ?_)
              refine lv_ldcw (v := 100000000) hx hb hC.2.2.2.1 (hC.2.2.2.2 _ (List.mem_cons_of_mem _ uw_38_2)) dX12_reaches_87 ?_
              refine lv_icmp_ge (tgt := 119) hx hb dX12_reaches_90 (by decide) (fun c546 => ?_) (fun c546 => ?_)
              · have c546 : (100000000 : Int) ≤ x544.toInt := wk_le.mp c546
                have gb547 : 0 ≤ sumG 19 10 w475 ∧ sumG 19 10 w475 ≤ 10 := hT.sum (lo := 0) (hi := 1) kM_at19 rfl (by decide) rfl
                exact J119 v59_5 x530 x540 H locs ls w475 (show 0 ≤ a1.toInt from r476) (show a1.toInt ≤ 9 from t477) (show 0 ≤ a2.toInt from r478) (show a2.toInt ≤ 9 from t479) (show 0 ≤ a3.toInt from r480) (show a3.toInt ≤ 99999 from t481) (show 2000 ≤ a4.toInt from r482) (show a4.toInt ≤ 101999 from t483) (show (-1) ≤ v59_5.toInt from r484) (show v59_5.toInt ≤ 9 from t485) (show 0 ≤ v59_6.toInt from r486) (show v59_6.toInt ≤ 9 by omega) (show 1 ≤ x530.toInt by omega) (show x530.toInt ≤ 10 by omega) (show 0 ≤ x540.toInt from rx540) (show x540.toInt ≤ 1 from tx540) (show (sumG 19 10 w475) ≤ (sumG 19 10 w1) by omega) (show (sumG 19 10 w1) ≤ (sumG 19 10 w475) by omega) (show (v59_5.toInt = -1 ∨ (gi w475 19 (v59_5.toInt).toNat).toInt = 0) by first | omega | assumption | (left; omega) | (left; decide) | (right; assumption) | (right; rw [c488]; omega) | (right; rw [c488]; decide) | (right; rw [c541]; omega) | (right; rw [c541]; decide))  hw hT hF c531 c488 c541 (lv_sub hl [0, 1, 2, 3, 4, 5, 6] rfl)
              · have c546 : x544.toInt < (100000000 : Int) := wk_leF c546
                refine lv_iload hx hb dX12_reaches_93 (lv_at hl 5 rfl) ?_
                refine lv_if_lt (tgt := 115) hx hb dX12_reaches_95 (by decide) (fun c548 => ?_) (fun c548 => ?_)
                · have c548 : v59_5.toInt < (0 : Int) := wk_lt.mp c548
                  have gb549 : 0 ≤ sumG 19 10 w475 ∧ sumG 19 10 w475 ≤ 10 := hT.sum (lo := 0) (hi := 1) kM_at19 rfl (by decide) rfl
                  obtain rfl : x540 = 0 := wk_eq.mpr (show x540.toInt = 0 by omega)
                  exact J115 x530 H locs ls w475 (show 0 ≤ a1.toInt from r476) (show a1.toInt ≤ 9 from t477) (show 0 ≤ a2.toInt from r478) (show a2.toInt ≤ 9 from t479) (show 0 ≤ a3.toInt from r480) (show a3.toInt ≤ 99999 from t481) (show 2000 ≤ a4.toInt from r482) (show a4.toInt ≤ 101999 from t483) (show (-1) ≤ v59_5.toInt from r484) (show v59_5.toInt ≤ 9 from t485) (show 0 ≤ v59_6.toInt from r486) (show v59_6.toInt ≤ 9 by omega) (show 1 ≤ x530.toInt by omega) (show x530.toInt ≤ 10 by omega) (show (sumG 19 10 w475) ≤ (sumG 19 10 w1) by omega) (show (sumG 19 10 w1) ≤ (sumG 19 10 w475) by omega) (show (v59_5.toInt = -1 ∨ (gi w475 19 (v59_5.toInt).toNat).toInt = 0) by first | omega | assumption | (left; omega) | (left; decide) | (right; assumption) | (right; rw [c488]; omega) | (right; rw [c488]; decide) | (right; rw [c541]; omega) | (right; rw [c541]; decide))  hw hT hF c531 c488 c541 (lv_sub hl [0, 1, 2, 3, 4, 5, 6] rfl)
                · have c548 : (0 : Int) ≤ v59_5.toInt := wk_ltF c548
                  refine lv_aload_n hx hb dX12_reaches_98 rfl (lv_at hl 0 rfl) ?_
                  refine tk_getA hC hK hw hT hinX12 kM_at0 (by decide) rfl 35 (by decide) (List.mem_cons_of_mem _ uw_7_8) rfl rfl dX12_reaches_99 ?_
                  refine lv_iload hx hb dX12_reaches_102 (lv_at hl 6 rfl) ?_
                  refine tk_iald hC hK hw hT kM_at18 rfl rfl (show 0 ≤ v59_6.toInt from r486) (show v59_6.toInt < 10 by omega) dX12_reaches_104 (fun x550 c551 rx550 tx550 => ?_)
                  refine lv_aload_n hx hb dX12_reaches_105 rfl (lv_at hl 0 rfl) ?_
                  refine tk_getA hC hK hw hT hinX12 kM_at0 (by decide) rfl 35 (by decide) (List.mem_cons_of_mem _ uw_7_8) rfl rfl dX12_reaches_106 ?_
                  refine lv_iload hx hb dX12_reaches_109 (lv_at hl 5 rfl) ?_
                  refine tk_iald hC hK hw hT kM_at18 rfl rfl (show 0 ≤ v59_5.toInt from c548) (show v59_5.toInt < 10 from Int.lt_of_le_of_lt t485 (by decide)) dX12_reaches_111 (fun x552 c553 rx552 tx552 => ?_)
                  refine lv_icmp_ge (tgt := 119) hx hb dX12_reaches_112 (by decide) (fun c554 => ?_) (fun c554 => ?_)
                  · have c554 : x552.toInt ≤ x550.toInt := wk_le.mp c554
                    have gb555 : 0 ≤ sumG 19 10 w475 ∧ sumG 19 10 w475 ≤ 10 := hT.sum (lo := 0) (hi := 1) kM_at19 rfl (by decide) rfl
                    exact J119 v59_5 x530 x540 H locs ls w475 (show 0 ≤ a1.toInt from r476) (show a1.toInt ≤ 9 from t477) (show 0 ≤ a2.toInt from r478) (show a2.toInt ≤ 9 from t479) (show 0 ≤ a3.toInt from r480) (show a3.toInt ≤ 99999 from t481) (show 2000 ≤ a4.toInt from r482) (show a4.toInt ≤ 101999 from t483) (show (-1) ≤ v59_5.toInt from r484) (show v59_5.toInt ≤ 9 from t485) (show 0 ≤ v59_6.toInt from r486) (show v59_6.toInt ≤ 9 by omega) (show 1 ≤ x530.toInt by omega) (show x530.toInt ≤ 10 by omega) (show 0 ≤ x540.toInt from rx540) (show x540.toInt ≤ 1 from tx540) (show (sumG 19 10 w475) ≤ (sumG 19 10 w1) by omega) (show (sumG 19 10 w1) ≤ (sumG 19 10 w475) by omega) (show (v59_5.toInt = -1 ∨ (gi w475 19 (v59_5.toInt).toNat).toInt = 0) by first | omega | assumption | (left; omega) | (left; decide) | (right; assumption) | (right; rw [c488]; omega) | (right; rw [c488]; decide) | (right; rw [c541]; omega) | (right; rw [c541]; decide))  hw hT hF c531 c488 c541 (lv_sub hl [0, 1, 2, 3, 4, 5, 6] rfl)
                  · have c554 : x550.toInt < x552.toInt := wk_leF c554
                    have gb556 : 0 ≤ sumG 19 10 w475 ∧ sumG 19 10 w475 ≤ 10 := hT.sum (lo := 0) (hi := 1) kM_at19 rfl (by decide) rfl
                    obtain rfl : x540 = 0 := wk_eq.mpr (show x540.toInt = 0 by omega)
                    exact J115 x530 H locs ls w475 (show 0 ≤ a1.toInt from r476) (show a1.toInt ≤ 9 from t477) (show 0 ≤ a2.toInt from r478) (show a2.toInt ≤ 9 from t479) (show 0 ≤ a3.toInt from r480) (show a3.toInt ≤ 99999 from t481) (show 2000 ≤ a4.toInt from r482) (show a4.toInt ≤ 101999 from t483) (show (-1) ≤ v59_5.toInt from r484) (show v59_5.toInt ≤ 9 from t485) (show 0 ≤ v59_6.toInt from r486) (show v59_6.toInt ≤ 9 by omega) (show 1 ≤ x530.toInt by omega) (show x530.toInt ≤ 10 by omega) (show (sumG 19 10 w475) ≤ (sumG 19 10 w1) by omega) (show (sumG 19 10 w1) ≤ (sumG 19 10 w475) by omega) (show (v59_5.toInt = -1 ∨ (gi w475 19 (v59_5.toInt).toNat).toInt = 0) by first | omega | assumption | (left; omega) | (left; decide) | (right; assumption) | (right; rw [c488]; omega) | (right; rw [c488]; decide) | (right; rw [c541]; omega) | (right; rw [c541]; decide))  hw hT hF c531 c488 c541 (lv_sub hl [0, 1, 2, 3, 4, 5, 6] rfl)
      refine lv_aload_n hx hb dX12_reaches_44 rfl (lv_at hl 0 rfl) ?_
      refine tk_getA hC hK hw hT hinX12 kM_at0 (by decide) rfl 36 (by decide) (List.mem_cons_of_mem _ uw_7_9) rfl rfl dX12_reaches_45 ?_
      refine lv_iload_n hx hb dX12_reaches_48 rfl (lv_at hl 2 rfl) ?_
      refine tk_zald hC hK hw hT kM_at19 rfl rfl (show 0 ≤ a2.toInt from r4) (show a2.toInt < 10 from Int.lt_of_le_of_lt t5 (by decide)) dX12_reaches_49 (fun x557 c558 rx557 tx557 => ?_)
      have c558 : gi w1 19 (a2.toInt).toNat = x557 := (congrArg (gi w1 19) (congrArg Int.toNat (show a2.toInt = a2.toInt by omega))).trans c558
      refine lv_if_ne (tgt := 268) hx hb dX12_reaches_50 (by decide) (fun c559 => ?_) (fun c559 => ?_)
      · have c559 : ¬ x557.toInt = (0 : Int) := wk_eqF c559
        refine lv_aload_n hx hb dX12_reaches_268 rfl (lv_at hl 0 rfl) ?_
        refine tk_getA hC hK hw hT hinX12 kM_at0 (by decide) rfl 35 (by decide) (List.mem_cons_of_mem _ uw_7_8) rfl rfl dX12_reaches_269 ?_
        refine lv_iload_n hx hb dX12_reaches_272 rfl (lv_at hl 2 rfl) ?_
        refine tk_iald hC hK hw hT kM_at18 rfl rfl (show 0 ≤ a2.toInt from r4) (show a2.toInt < 10 from Int.lt_of_le_of_lt t5 (by decide)) dX12_reaches_273 (fun x560 c561 rx560 tx560 => ?_)
        exact tk_iret hC hr hlocks hK ⟨hT, hF, ⟨(show 0 ≤ x560.toInt from rx560), (show x560.toInt ≤ 100000100 from tx560)⟩⟩ hw dX12_reaches_274
      · have c559 : x557.toInt = (0 : Int) := wk_eq.mp c559
        refine lv_iconst (v := (-1)) hx hb dX12_reaches_53 (by decide) ?_
        refine lv_istore (lv' := [(5, .int (-1)), (0, .ref (ad 0)), (1, .int a1), (2, .int a2), (3, .int a3), (4, .int a4)]) hx hb dX12_reaches_54 hl (by decide) rfl (fun ls hl => ?_)
        refine lv_iconst (v := 0) hx hb dX12_reaches_56 (by decide) ?_
        refine lv_istore (lv' := [(6, .int 0), (5, .int (-1)), (0, .ref (ad 0)), (1, .int a1), (2, .int a2), (3, .int a3), (4, .int a4)]) hx hb dX12_reaches_57 hl (by decide) rfl (fun ls hl => ?_)
        have gb562 : 0 ≤ sumG 19 10 w1 ∧ sumG 19 10 w1 ≤ 10 := hT.sum (lo := 0) (hi := 1) kM_at19 rfl (by decide) rfl
        obtain rfl : x557 = 0 := wk_eq.mpr (show x557.toInt = 0 by omega)
        exact L59 ((10 - (0 : Int)).toNat + 1) (-1) 0 H locs ls w1 (show 0 ≤ a1.toInt from r2) (show a1.toInt ≤ 9 from t3) (show 0 ≤ a2.toInt from r4) (show a2.toInt ≤ 9 from t5) (show 0 ≤ a3.toInt from r6) (show a3.toInt ≤ 99999 from t7) (show 2000 ≤ a4.toInt from r8) (show a4.toInt ≤ 101999 from t9) (by decide) (by decide) (by decide) (by decide) (show (sumG 19 10 w1) ≤ (sumG 19 10 w1) by omega) (show (sumG 19 10 w1) ≤ (sumG 19 10 w1) by omega) (show ((-1 : Int) = -1 ∨ (gi w1 19 ((-1 : Int)).toNat).toInt = 0) by first | omega | assumption | (left; omega) | (left; decide) | (right; assumption) | (right; rw [c558]; omega) | (right; rw [c558]; decide)) (Nat.lt_succ_self _) hw hT hF c558 (lv_sub hl [2, 3, 4, 5, 6, 1, 0] rfl)
  have L3 : ∀ (n3 : Nat) (v3_5 : Int32) (H : Heap) (locs : List Loc) (ls : Array Slot) (w563 : va_W), 0 ≤ a1.toInt → a1.toInt ≤ 9 → 0 ≤ a2.toInt → a2.toInt ≤ 9 → 0 ≤ a3.toInt → a3.toInt ≤ 99999 → 2000 ≤ a4.toInt → a4.toInt ≤ 101999 → 0 ≤ v3_5.toInt → v3_5.toInt ≤ 10 → (10 - v3_5.toInt).toNat < n3 → Wd dC dI A s.heap H locs w563 → TW ksM ad cy B qr 12 w563 → FE ksM [(77, 0, 10), (78, 0, 10)] w0 w563 → lv_has ls 9 [(0, .ref (ad 0)), (1, .int a1), (2, .int a2), (3, .int a3), (4, .int a4), (5, .int v3_5)] → W p l e ({ frames := 5, cells := 0, slots := 0, locals := 105 }) s m (List.toArray [.ref (ad 0), .int a1, .int a2, .int a3, .int a4]) below meth c H locs 0 0 (MQ below (va_Qi (P_X12_reaches_1 ad cy B qr s1 a1 a2 a3 a4 w0) (fun u : va_W => wpost dC dI cy A u) A) (List.toArray [.ref (ad 0), .int a1, .int a2, .int a3, .int a4]) s 0 0 A) (F0 m 3 ls []) := by
    intro n3
    induction n3 with
    | zero => intro v3_5 H locs ls w563 r564 t565 r566 t567 r568 t569 r570 t571 r572 t573 hm3 hw hT hF hl; omega
    | succ n3 ih3 =>
      intro v3_5 H locs ls w563 r564 t565 r566 t567 r568 t569 r570 t571 r572 t573 hm3 hw hT hF hl
      refine lv_iload hx hb dX12_reaches_3 (lv_at hl 5 rfl) ?_
      refine lv_bipush (v := 10) hx hb dX12_reaches_5 (by decide) ?_
      refine lv_icmp_ge (tgt := 44) hx hb dX12_reaches_7 (by decide) (fun c574 => ?_) (fun c574 => ?_)
      · have c574 : (10 : Int) ≤ v3_5.toInt := wk_le.mp c574
        have gb575 : 0 ≤ sumG 19 10 w563 ∧ sumG 19 10 w563 ≤ 10 := hT.sum (lo := 0) (hi := 1) kM_at19 rfl (by decide) rfl
        exact L44 ((10 - (sumG 19 10 w563)).toNat + 1) v3_5 H locs ls w563 (show 0 ≤ a1.toInt from r564) (show a1.toInt ≤ 9 from t565) (show 0 ≤ a2.toInt from r566) (show a2.toInt ≤ 9 from t567) (show 0 ≤ a3.toInt from r568) (show a3.toInt ≤ 99999 from t569) (show 2000 ≤ a4.toInt from r570) (show a4.toInt ≤ 101999 from t571) (show 0 ≤ v3_5.toInt from r572) (show v3_5.toInt ≤ 10 from t573) (show 0 ≤ (sumG 19 10 w563) by omega) (Nat.lt_succ_self _) hw hT hF  (lv_sub hl [0, 1, 2, 3, 4, 5] rfl)
      · have c574 : v3_5.toInt < (10 : Int) := wk_leF c574
        refine lv_aload_n hx hb dX12_reaches_10 rfl (lv_at hl 0 rfl) ?_
        refine tk_getA hC hK hw hT hinX12 kM_at0 (by decide) rfl 35 (by decide) (List.mem_cons_of_mem _ uw_7_8) rfl rfl dX12_reaches_11 ?_
        refine lv_iload hx hb dX12_reaches_14 (lv_at hl 5 rfl) ?_
        refine lv_iload hx hb dX12_reaches_16 (lv_at hl 5 rfl) ?_
        refine lv_iload_n hx hb dX12_reaches_18 rfl (lv_at hl 1 rfl) ?_
        refine lv_icmp_ne (tgt := 26) hx hb dX12_reaches_19 (by decide) (fun c576 => ?_) (fun c576 => ?_)
        · have c576 : ¬ v3_5.toInt = a1.toInt := wk_eqF c576
          refine lv_ldcw (v := 100000000) hx hb hC.2.2.2.1 (hC.2.2.2.2 _ (List.mem_cons_of_mem _ uw_38_2)) dX12_reaches_26 ?_
          refine tk_iast hC hK hw hT kM_at18 (by decide) rfl rfl (show 0 ≤ v3_5.toInt from r572) (show v3_5.toInt < 10 from c574) (by decide) (by decide) dX12_reaches_29 (fun H locs w577 hw hT k579 c578 => ?_)
          have gs580 : sumG 19 10 w577 = sumG 19 10 w563 := sumG_ne 10 k579 (tk_ne kM_at19 kM_at18 (by decide))
          have hF := hF.put kM_at18 (inE_of (a := 0) (b := 10) (by decide) (show 0 ≤ v3_5.toInt.toNat by omega) (show v3_5.toInt.toNat ≤ 10 by omega)) k579
          refine lv_aload_n hx hb dX12_reaches_30 rfl (lv_at hl 0 rfl) ?_
          refine tk_getA hC hK hw hT hinX12 kM_at0 (by decide) rfl 36 (by decide) (List.mem_cons_of_mem _ uw_7_9) rfl rfl dX12_reaches_31 ?_
          refine lv_iload hx hb dX12_reaches_34 (lv_at hl 5 rfl) ?_
          refine lv_iconst (v := 0) hx hb dX12_reaches_36 (by decide) ?_
          refine tk_zast hC hK hw hT kM_at19 (by decide) rfl rfl (show 0 ≤ v3_5.toInt from r572) (show v3_5.toInt < 10 from c574) (by decide) (by decide) dX12_reaches_37 (fun H locs w581 hw hT k583 c582 => ?_)
          have gs584 : sumG 19 10 w581 = sumG 19 10 w577 - (gi w577 19 (v3_5.toInt.toNat)).toInt + (gi w581 19 (v3_5.toInt.toNat)).toInt := sumG_up (i := v3_5.toInt.toNat) k583 10 (show v3_5.toInt.toNat < 10 by omega)
          rw [show gi w581 19 (v3_5.toInt.toNat) = 0 from c582] at gs584
          rw [show (0 : Int32).toInt = 0 by decide] at gs584
          have hF := hF.put kM_at19 (inE_of (a := 0) (b := 10) (by decide) (show 0 ≤ v3_5.toInt.toNat by omega) (show v3_5.toInt.toNat ≤ 10 by omega)) k583
          obtain ⟨x585, ex585⟩ : ∃ y : Int32, y = v3_5 + Int32.ofInt 1 := ⟨_, rfl⟩
          refine lv_iinc (v := x585) (lv' := [(5, .int x585), (0, .ref (ad 0)), (1, .int a1), (2, .int a2), (3, .int a3), (4, .int a4)]) hx hb dX12_reaches_38 hl (k := 5) rfl ex585.symm (by decide) rfl (fun ls hl => ?_)
          have ex585 : x585.toInt = v3_5.toInt + 1 := by rw [ex585]; exact wk_add (y := 1) (show -2147483648 ≤ v3_5.toInt + 1 by omega) (show v3_5.toInt + 1 ≤ 2147483647 by omega)
          refine lv_goto (tgt := 3) hx hb dX12_reaches_41 (by decide) ?_
          exact ih3 x585 H locs ls w581 (show 0 ≤ a1.toInt from r564) (show a1.toInt ≤ 9 from t565) (show 0 ≤ a2.toInt from r566) (show a2.toInt ≤ 9 from t567) (show 0 ≤ a3.toInt from r568) (show a3.toInt ≤ 99999 from t569) (show 2000 ≤ a4.toInt from r570) (show a4.toInt ≤ 101999 from t571) (show 0 ≤ x585.toInt by omega) (show x585.toInt ≤ 10 by omega) (show (10 - x585.toInt).toNat < n3 by omega) hw hT hF  (lv_sub hl [1, 2, 3, 4, 5, 0] rfl)
        · have c576 : v3_5.toInt = a1.toInt := wk_eq.mp c576
          refine lv_iload_n hx hb dX12_reaches_22 rfl (lv_at hl 3 rfl) ?_
          refine lv_goto (tgt := 29) hx hb dX12_reaches_23 (by decide) ?_
          refine tk_iast hC hK hw hT kM_at18 (by decide) rfl rfl (show 0 ≤ v3_5.toInt from r572) (show v3_5.toInt < 10 from c574) (show 0 ≤ a3.toInt from r568) (show a3.toInt ≤ 100000100 from Int.le_trans t569 (by decide)) dX12_reaches_29 (fun H locs w586 hw hT k588 c587 => ?_)
          have gs589 : sumG 19 10 w586 = sumG 19 10 w563 := sumG_ne 10 k588 (tk_ne kM_at19 kM_at18 (by decide))
          have hF := hF.put kM_at18 (inE_of (a := 0) (b := 10) (by decide) (show 0 ≤ v3_5.toInt.toNat by omega) (show v3_5.toInt.toNat ≤ 10 by omega)) k588
          refine lv_aload_n hx hb dX12_reaches_30 rfl (lv_at hl 0 rfl) ?_
          refine tk_getA hC hK hw hT hinX12 kM_at0 (by decide) rfl 36 (by decide) (List.mem_cons_of_mem _ uw_7_9) rfl rfl dX12_reaches_31 ?_
          refine lv_iload hx hb dX12_reaches_34 (lv_at hl 5 rfl) ?_
          refine lv_iconst (v := 0) hx hb dX12_reaches_36 (by decide) ?_
          refine tk_zast hC hK hw hT kM_at19 (by decide) rfl rfl (show 0 ≤ v3_5.toInt from r572) (show v3_5.toInt < 10 from c574) (by decide) (by decide) dX12_reaches_37 (fun H locs w590 hw hT k592 c591 => ?_)
          have gs593 : sumG 19 10 w590 = sumG 19 10 w586 - (gi w586 19 (v3_5.toInt.toNat)).toInt + (gi w590 19 (v3_5.toInt.toNat)).toInt := sumG_up (i := v3_5.toInt.toNat) k592 10 (show v3_5.toInt.toNat < 10 by omega)
          rw [show gi w590 19 (v3_5.toInt.toNat) = 0 from c591] at gs593
          rw [show (0 : Int32).toInt = 0 by decide] at gs593
          have hF := hF.put kM_at19 (inE_of (a := 0) (b := 10) (by decide) (show 0 ≤ v3_5.toInt.toNat by omega) (show v3_5.toInt.toNat ≤ 10 by omega)) k592
          obtain ⟨x594, ex594⟩ : ∃ y : Int32, y = v3_5 + Int32.ofInt 1 := ⟨_, rfl⟩
          refine lv_iinc (v := x594) (lv' := [(5, .int x594), (0, .ref (ad 0)), (1, .int a1), (2, .int a2), (3, .int a3), (4, .int a4)]) hx hb dX12_reaches_38 hl (k := 5) rfl ex594.symm (by decide) rfl (fun ls hl => ?_)
          have ex594 : x594.toInt = v3_5.toInt + 1 := by rw [ex594]; exact wk_add (y := 1) (show -2147483648 ≤ v3_5.toInt + 1 by omega) (show v3_5.toInt + 1 ≤ 2147483647 by omega)
          refine lv_goto (tgt := 3) hx hb dX12_reaches_41 (by decide) ?_
          exact ih3 x594 H locs ls w590 (show 0 ≤ a1.toInt from r564) (show a1.toInt ≤ 9 from t565) (show 0 ≤ a2.toInt from r566) (show a2.toInt ≤ 9 from t567) (show 0 ≤ a3.toInt from r568) (show a3.toInt ≤ 99999 from t569) (show 2000 ≤ a4.toInt from r570) (show a4.toInt ≤ 101999 from t571) (show 0 ≤ x594.toInt by omega) (show x594.toInt ≤ 10 by omega) (show (10 - x594.toInt).toNat < n3 by omega) hw hT hF  (lv_sub hl [1, 2, 3, 4, 5, 0] rfl)
  refine lv_iconst (v := 0) hx hb dX12_reaches_0 (by decide) ?_
  refine lv_istore (lv' := [(5, .int 0), (0, .ref (ad 0)), (1, .int a1), (2, .int a2), (3, .int a3), (4, .int a4)]) hx hb dX12_reaches_1 hl (by decide) rfl (fun ls hl => ?_)
  exact L3 ((10 - (0 : Int)).toNat + 1) 0 s.heap locs ls w0 (show 0 ≤ a1.toInt from ra1) (show a1.toInt ≤ 9 from ta1) (show 0 ≤ a2.toInt from ra2) (show a2.toInt ≤ 9 from ta2) (show 0 ≤ a3.toInt from ra3) (show a3.toInt ≤ 99999 from ta3) (show 2000 ≤ a4.toInt from ra4) (show a4.toInt ≤ 101999 from ta4) (by decide) (by decide) (Nat.lt_succ_self _) hw hT hF  (lv_sub hl [1, 2, 3, 4, 5, 0] rfl)
abbrev P_X12_soonest_1 (ad : Nat → Nat) (cy : Nat → ClassId) (B : Int) (qr : Nat) (s1 : Int) (a1 : Int32) (a2 : Int32) (a3 : Int32) (w0 : va_W) : Int32 → va_W → Prop := fun r u => TW ksM ad cy B qr 12 u ∧ FE ksM [(77, 0, 10), (78, 0, 10)] w0 u ∧ ((r = (-2) ∧ 0 ≤ a1.toInt ∧ a1.toInt ≤ 9 ∧ 0 ≤ a2.toInt ∧ a2.toInt ≤ 9 ∧ 0 ≤ a3.toInt ∧ a3.toInt ≤ 99999 ∧ (∃ y : Int32, gi u 12 0 = y ∧ 1 ≤ y.toInt ∧ y.toInt ≤ 10)) ∨ (0 ≤ r.toInt ∧ r.toInt ≤ 100000100 ∧ 0 ≤ a1.toInt ∧ a1.toInt ≤ 9 ∧ 0 ≤ a2.toInt ∧ a2.toInt ≤ 9 ∧ 0 ≤ a3.toInt ∧ a3.toInt ≤ 99999 ∧ (∃ y : Int32, gi u 12 0 = y ∧ 1 ≤ y.toInt ∧ y.toInt ≤ 10)) ∨ (r = (-1)))
set_option maxHeartbeats 4000000 in
set_option maxRecDepth 100000 in
theorem k_X12_soonest_1 (l : Launch) (adK adV : Nat → Nat) (dC : Nat → ClassId) (dI : Nat → Nat → Nat) (cy : Nat → ClassId) (ad : Nat → Nat) (B : Int) (hB0 : 100000 ≤ B) (hB1 : B ≤ 1073741824) (qr : Nat) (s1 : Int)  (a1 : Int32) (a2 : Int32) (a3 : Int32) (w0 : va_W) (sz : Nat) (hT : TW ksM ad cy B qr 12 w0)  : Met l yX12_soonest (wu yX12_soonest cX12_soonest 5 (some .int)) ({ frames := 6, cells := 0, slots := 0, locals := 133 }) (va_Pc [.ref (ad 0), .int a1, .int a2, .int a3] (wpreS adK adV dC dI cy sz w0)) (va_Qi (P_X12_soonest_1 ad cy B qr s1 a1 a2 a3 w0) (fun u : va_W => wpost dC dI cy (va_A w0 sz) u) (va_A w0 sz)) 0 0 (va_A w0 sz) := by
  refine Met.ofW (cc := cX12_soonest) (maxL := 5) (ret := (some .int)) (by decide) rfl ?_
  intro p e s m args below meth c s₁ Bk hml hv
  obtain ⟨rfl, ⟨hsz, hP, hK, hD0⟩, hE, hSR⟩ := hv
  have hx := Bk.exec
  have hb := Bk.bytes
  have hr := Bk.returns
  have hlocks := Bk.notSynchronized
  have hC : CallFix p m c cX12_soonest 5 s _ (wu yX12_soonest cX12_soonest 5 (some .int)) RX12 := ⟨hx, hb, hml, findClass_of_methodNamed Bk.named, atoms_spec (ws := (wu yX12_soonest cX12_soonest 5 (some .int))) Bk.pre⟩
  subst hsz
  have hD := hD0.self (sz := s.heap.size)
  generalize hAe : va_A w0 s.heap.size = A at hD hE ⊢
  have hA : ∀ q : Nat, s.heap.size ≤ q → A q := fun q h => by rw [← hAe]; exact Or.inr h
  have hw : Wd dC dI A s.heap s.heap [] w0 := ⟨hP, hD, va_S.rf⟩
  have hF : FE ksM [(77, 0, 10), (78, 0, 10)] w0 w0 := FE.rf
  have hl := lv_entry ([.ref (ad 0), .int a1, .int a2, .int a3]) (n := 5) (Nat.le_of_ble_eq_true rfl)
  rw [lg_entry_eq]
  generalize (lg_sl ([.ref (ad 0), .int a1, .int a2, .int a3]) ++ List.replicate (5 - (lg_sl ([.ref (ad 0), .int a1, .int a2, .int a3])).length) Slot.unset).toArray = ls at hl ⊢
  have hl : lv_has ls 5 [(0, .ref (ad 0)), (1, .int a1), (2, .int a2), (3, .int a3)] := hl
  generalize hloc : ([] : List Loc) = locs at hw ⊢
  refine lv_aload_n hx hb dX12_soonest_0 rfl (lv_at hl 0 rfl) ?_
  refine lv_iload_n hx hb dX12_soonest_1 rfl (lv_at hl 1 rfl) ?_
  refine lv_iload_n hx hb dX12_soonest_2 rfl (lv_at hl 2 rfl) ?_
  refine lv_iload_n hx hb dX12_soonest_3 rfl (lv_at hl 3 rfl) ?_
  refine tk_Vi hC hK hw hT hA hE hSR kM_at0 (by decide) rfl (k_X12_canLook_1 l adK adV dC dI cy ad B (by omega) (by omega) qr s1   a1 a2 a3 w0 s.heap.size hT ) (cwV 3 hC.2.2.2.2 uV_RX12_453 rfl rfl rfl (by decide +kernel) ⟨Nat.le_of_ble_eq_true rfl, Nat.le_of_ble_eq_true rfl⟩) rfl hl.1 rfl (Nat.le_of_ble_eq_true rfl) dX12_soonest_4 (fun r1 w3 H locs hp2 hw => ?_)
  obtain ⟨rfl, hg13⟩ := hp2
  rcases hg13 with rfl | ⟨rfl, g5, g6, g7, g8, g9, g10, ⟨x11, c12, rx11, tx11⟩⟩
  · refine lv_if_ne (tgt := 12) hx hb dX12_soonest_7 (by decide) (fun c => absurd (by decide) c) (fun _ => ?_)
    refine lv_iconst (v := (-1)) hx hb dX12_soonest_10 (by decide) ?_
    exact tk_iret hC hr hlocks hK ⟨hT, hF, (Or.inr (Or.inr rfl))⟩ hw dX12_soonest_11
  · refine lv_if_ne (tgt := 12) hx hb dX12_soonest_7 (by decide) (fun _ => ?_) (fun c => absurd c (by decide))
    refine lv_aload_n hx hb dX12_soonest_12 rfl (lv_at hl 0 rfl) ?_
    refine lv_iload_n hx hb dX12_soonest_13 rfl (lv_at hl 1 rfl) ?_
    refine lv_iload_n hx hb dX12_soonest_14 rfl (lv_at hl 2 rfl) ?_
    refine lv_iload_n hx hb dX12_soonest_15 rfl (lv_at hl 3 rfl) ?_
    refine lv_iload_n hx hb dX12_soonest_16 rfl (lv_at hl 3 rfl) ?_
    refine lv_sipush (v := 2000) hx hb dX12_soonest_17 (by decide) ?_
    refine lv_iadd hx hb dX12_soonest_20 ?_
    refine lv_topi (fun x14 ex14 => ?_)
    have ex14 : x14.toInt = a3.toInt + (2000 : Int) := by rw [ex14]; exact wk_add (show (-2147483648) ≤ a3.toInt + (2000 : Int) by omega) (show a3.toInt + (2000 : Int) ≤ 2147483647 by omega)
    refine tk_Vi hC hK hw hT hA hE hSR kM_at0 (by decide) rfl (k_X12_reaches_1 l adK adV dC dI cy ad B (by omega) (by omega) qr s1   a1 (show 0 ≤ a1.toInt by omega) (show a1.toInt ≤ 9 by omega) a2 (show 0 ≤ a2.toInt by omega) (show a2.toInt ≤ 9 by omega) a3 (show 0 ≤ a3.toInt by omega) (show a3.toInt ≤ 99999 by omega) x14 (show 2000 ≤ x14.toInt by omega) (show x14.toInt ≤ 101999 by omega) w0 H.size hT ) (cwV 4 hC.2.2.2.2 uV_RX12_456 rfl rfl rfl (by decide +kernel) ⟨Nat.le_of_ble_eq_true rfl, Nat.le_of_ble_eq_true rfl⟩) rfl hl.1 rfl (Nat.le_of_ble_eq_true rfl) dX12_soonest_21 (fun r15 w17 H locs hp16 hw => ?_)
    obtain ⟨hT, k18, hg21⟩ := hp16
    have hF := hF.tr k18 (by decide)
    have c22 := k18.gi kM_at12 (by decide) c12
    obtain ⟨g19, g20⟩ := hg21
    refine lv_istore (lv' := [(4, .int r15), (0, .ref (ad 0)), (1, .int a1), (2, .int a2), (3, .int a3)]) hx hb dX12_soonest_24 hl (by decide) rfl (fun ls hl => ?_)
    refine lv_iload hx hb dX12_soonest_26 (lv_at hl 0 rfl) ?_
    refine lv_ldcw (v := 100000000) hx hb hC.2.2.2.1 (hC.2.2.2.2 _ (List.mem_cons_of_mem _ uw_38_2)) dX12_soonest_28 ?_
    refine lv_icmp_ne (tgt := 39) hx hb dX12_soonest_31 (by decide) (fun c23 => ?_) (fun c23 => ?_)
    · have c23 : ¬ r15.toInt = (100000000 : Int) := wk_eqF c23
      refine lv_iload hx hb dX12_soonest_39 (lv_at hl 0 rfl) ?_
      exact tk_iret hC hr hlocks hK ⟨hT, hF, (Or.inr (Or.inl ⟨(show 0 ≤ r15.toInt by omega), (show r15.toInt ≤ 100000100 by omega), (show 0 ≤ a1.toInt by omega), (show a1.toInt ≤ 9 by omega), (show 0 ≤ a2.toInt by omega), (show a2.toInt ≤ 9 by omega), (show 0 ≤ a3.toInt by omega), (show a3.toInt ≤ 99999 by omega), ⟨x11, c22, (show 1 ≤ x11.toInt by omega), (show x11.toInt ≤ 10 by omega)⟩⟩))⟩ hw dX12_soonest_41
    · have c23 : r15.toInt = (100000000 : Int) := wk_eq.mp c23
      refine lv_bipush (v := (-2)) hx hb dX12_soonest_34 (by decide) ?_
      refine lv_goto (tgt := 41) hx hb dX12_soonest_36 (by decide) ?_
      exact tk_iret hC hr hlocks hK ⟨hT, hF, (Or.inl ⟨rfl, (show 0 ≤ a1.toInt by omega), (show a1.toInt ≤ 9 by omega), (show 0 ≤ a2.toInt by omega), (show a2.toInt ≤ 9 by omega), (show 0 ≤ a3.toInt by omega), (show a3.toInt ≤ 99999 by omega), ⟨x11, c22, (show 1 ≤ x11.toInt by omega), (show x11.toInt ≤ 10 by omega)⟩⟩)⟩ hw dX12_soonest_41
abbrev P_X12_streetOf_7 (ad : Nat → Nat) (cy : Nat → ClassId) (B : Int) (qr : Nat) (s1 : Int)  (w0 : va_W) : Int32 → va_W → Prop := fun r u => w0 = u ∧ ((0 ≤ r.toInt ∧ r.toInt ≤ 10 ∧ gi u 12 0 = r))
set_option maxHeartbeats 4000000 in
set_option maxRecDepth 100000 in
theorem k_X12_streetOf_7 (l : Launch) (adK adV : Nat → Nat) (dC : Nat → ClassId) (dI : Nat → Nat → Nat) (cy : Nat → ClassId) (ad : Nat → Nat) (B : Int) (hB0 : 100000 ≤ B) (hB1 : B ≤ 1073741824) (qr : Nat) (s1 : Int)   (w0 : va_W) (sz : Nat) (hT : TW ksM ad cy B qr 12 w0)  : Met l yX12_streetOf (wu yX12_streetOf cX12_streetOf 3 (some .int)) ({ frames := 1, cells := 0, slots := 0, locals := 12 }) (va_Pc [.ref (ad 0), .int (-1), .int 0] (wpreS adK adV dC dI cy sz w0)) (va_Qi (P_X12_streetOf_7 ad cy B qr s1  w0) (fun u : va_W => wpost dC dI cy (va_A w0 sz) u) (va_A w0 sz)) 0 0 (va_A w0 sz) := by
  refine Met.ofW (cc := cX12_streetOf) (maxL := 3) (ret := (some .int)) (by decide) rfl ?_
  intro p e s m args below meth c s₁ Bk hml hv
  obtain ⟨rfl, ⟨hsz, hP, hK, hD0⟩, hE, hSR⟩ := hv
  have hx := Bk.exec
  have hb := Bk.bytes
  have hr := Bk.returns
  have hlocks := Bk.notSynchronized
  have hC : CallFix p m c cX12_streetOf 3 s _ (wu yX12_streetOf cX12_streetOf 3 (some .int)) RX12 := ⟨hx, hb, hml, findClass_of_methodNamed Bk.named, atoms_spec (ws := (wu yX12_streetOf cX12_streetOf 3 (some .int))) Bk.pre⟩
  subst hsz
  have hD := hD0.self (sz := s.heap.size)
  generalize hAe : va_A w0 s.heap.size = A at hD hE ⊢
  have hA : ∀ q : Nat, s.heap.size ≤ q → A q := fun q h => by rw [← hAe]; exact Or.inr h
  have hw : Wd dC dI A s.heap s.heap [] w0 := ⟨hP, hD, va_S.rf⟩
  have hF : FE ksM ([] : List (Nat × Nat × Nat)) w0 w0 := FE.rf
  have hl := lv_entry ([.ref (ad 0), .int (-1), .int 0]) (n := 3) (Nat.le_of_ble_eq_true rfl)
  rw [lg_entry_eq]
  generalize (lg_sl ([.ref (ad 0), .int (-1), .int 0]) ++ List.replicate (3 - (lg_sl ([.ref (ad 0), .int (-1), .int 0])).length) Slot.unset).toArray = ls at hl ⊢
  have hl : lv_has ls 3 [(0, .ref (ad 0)), (1, .int (-1)), (2, .int 0)] := hl
  generalize hloc : ([] : List Loc) = locs at hw ⊢
  have hinX12 : ∀ w ∈ u_ws RX12 TX12 42, w ∈ (wu yX12_streetOf cX12_streetOf 3 (some .int)) := fun _ h => List.mem_cons_of_mem _ (up_71 h)
  refine lv_aload_n hx hb dX12_streetOf_0 rfl (lv_at hl 0 rfl) ?_
  refine tk_getA hC hK hw hT hinX12 kM_at0 (by decide) rfl 26 (by decide) (List.mem_cons_of_mem _ uw_7_1) rfl rfl dX12_streetOf_1 ?_
  refine lv_bipush (v := 10) hx hb dX12_streetOf_4 (by decide) ?_
  refine lv_bipush (v := 10) hx hb dX12_streetOf_6 (by decide) ?_
  refine lv_iload_n hx hb dX12_streetOf_8 rfl (lv_at hl 1 rfl) ?_
  refine lv_imul hx hb dX12_streetOf_9 ?_
  refine wk_top (-10) (by decide) ?_
  refine lv_iadd hx hb dX12_streetOf_10 ?_
  refine wk_top 0 (by decide) ?_
  refine lv_iload_n hx hb dX12_streetOf_11 rfl (lv_at hl 2 rfl) ?_
  refine lv_iadd hx hb dX12_streetOf_12 ?_
  refine wk_top 0 (by decide) ?_
  refine tk_ialdR hC hK hw hT kM_at12 rfl (by decide) (by decide) dX12_streetOf_13 (fun x1 c2 Ex1 => ?_)
  have bx1 := tk_rgI rfl 0 1 1 0 10 (by decide +kernel) ⟨0, by decide, by decide⟩ Ex1
  have c2 : gi w0 12 0 = x1 := c2
  exact tk_iret hC hr hlocks hK ⟨rfl, ⟨(show 0 ≤ x1.toInt by omega), (show x1.toInt ≤ 10 by omega), c2⟩⟩ hw dX12_streetOf_14
abbrev P_X12_streetOf_8 (ad : Nat → Nat) (cy : Nat → ClassId) (B : Int) (qr : Nat) (s1 : Int)  (w0 : va_W) : Int32 → va_W → Prop := fun r u => w0 = u ∧ ((0 ≤ r.toInt ∧ r.toInt ≤ 12 ∧ gi u 12 1 = r))
set_option maxHeartbeats 4000000 in
set_option maxRecDepth 100000 in
theorem k_X12_streetOf_8 (l : Launch) (adK adV : Nat → Nat) (dC : Nat → ClassId) (dI : Nat → Nat → Nat) (cy : Nat → ClassId) (ad : Nat → Nat) (B : Int) (hB0 : 100000 ≤ B) (hB1 : B ≤ 1073741824) (qr : Nat) (s1 : Int)   (w0 : va_W) (sz : Nat) (hT : TW ksM ad cy B qr 12 w0)  : Met l yX12_streetOf (wu yX12_streetOf cX12_streetOf 3 (some .int)) ({ frames := 1, cells := 0, slots := 0, locals := 12 }) (va_Pc [.ref (ad 0), .int (-1), .int 1] (wpreS adK adV dC dI cy sz w0)) (va_Qi (P_X12_streetOf_8 ad cy B qr s1  w0) (fun u : va_W => wpost dC dI cy (va_A w0 sz) u) (va_A w0 sz)) 0 0 (va_A w0 sz) := by
  refine Met.ofW (cc := cX12_streetOf) (maxL := 3) (ret := (some .int)) (by decide) rfl ?_
  intro p e s m args below meth c s₁ Bk hml hv
  obtain ⟨rfl, ⟨hsz, hP, hK, hD0⟩, hE, hSR⟩ := hv
  have hx := Bk.exec
  have hb := Bk.bytes
  have hr := Bk.returns
  have hlocks := Bk.notSynchronized
  have hC : CallFix p m c cX12_streetOf 3 s _ (wu yX12_streetOf cX12_streetOf 3 (some .int)) RX12 := ⟨hx, hb, hml, findClass_of_methodNamed Bk.named, atoms_spec (ws := (wu yX12_streetOf cX12_streetOf 3 (some .int))) Bk.pre⟩
  subst hsz
  have hD := hD0.self (sz := s.heap.size)
  generalize hAe : va_A w0 s.heap.size = A at hD hE ⊢
  have hA : ∀ q : Nat, s.heap.size ≤ q → A q := fun q h => by rw [← hAe]; exact Or.inr h
  have hw : Wd dC dI A s.heap s.heap [] w0 := ⟨hP, hD, va_S.rf⟩
  have hF : FE ksM ([] : List (Nat × Nat × Nat)) w0 w0 := FE.rf
  have hl := lv_entry ([.ref (ad 0), .int (-1), .int 1]) (n := 3) (Nat.le_of_ble_eq_true rfl)
  rw [lg_entry_eq]
  generalize (lg_sl ([.ref (ad 0), .int (-1), .int 1]) ++ List.replicate (3 - (lg_sl ([.ref (ad 0), .int (-1), .int 1])).length) Slot.unset).toArray = ls at hl ⊢
  have hl : lv_has ls 3 [(0, .ref (ad 0)), (1, .int (-1)), (2, .int 1)] := hl
  generalize hloc : ([] : List Loc) = locs at hw ⊢
  have hinX12 : ∀ w ∈ u_ws RX12 TX12 42, w ∈ (wu yX12_streetOf cX12_streetOf 3 (some .int)) := fun _ h => List.mem_cons_of_mem _ (up_71 h)
  refine lv_aload_n hx hb dX12_streetOf_0 rfl (lv_at hl 0 rfl) ?_
  refine tk_getA hC hK hw hT hinX12 kM_at0 (by decide) rfl 26 (by decide) (List.mem_cons_of_mem _ uw_7_1) rfl rfl dX12_streetOf_1 ?_
  refine lv_bipush (v := 10) hx hb dX12_streetOf_4 (by decide) ?_
  refine lv_bipush (v := 10) hx hb dX12_streetOf_6 (by decide) ?_
  refine lv_iload_n hx hb dX12_streetOf_8 rfl (lv_at hl 1 rfl) ?_
  refine lv_imul hx hb dX12_streetOf_9 ?_
  refine wk_top (-10) (by decide) ?_
  refine lv_iadd hx hb dX12_streetOf_10 ?_
  refine wk_top 0 (by decide) ?_
  refine lv_iload_n hx hb dX12_streetOf_11 rfl (lv_at hl 2 rfl) ?_
  refine lv_iadd hx hb dX12_streetOf_12 ?_
  refine wk_top 1 (by decide) ?_
  refine tk_ialdR hC hK hw hT kM_at12 rfl (by decide) (by decide) dX12_streetOf_13 (fun x1 c2 Ex1 => ?_)
  have bx1 : 0 ≤ x1.toInt ∧ x1.toInt ≤ 12 := (tk_rg1 rfl).mp Ex1
  have c2 : gi w0 12 1 = x1 := c2
  exact tk_iret hC hr hlocks hK ⟨rfl, ⟨(show 0 ≤ x1.toInt by omega), (show x1.toInt ≤ 12 by omega), c2⟩⟩ hw dX12_streetOf_14
abbrev P_X12_otherOf_2 (ad : Nat → Nat) (cy : Nat → ClassId) (B : Int) (qr : Nat) (s1 : Int) (a2 : Int32) (w0 : va_W) : Int32 → va_W → Prop := fun r u => w0 = u ∧ ((0 ≤ r.toInt ∧ r.toInt ≤ 12))
set_option maxHeartbeats 4000000 in
set_option maxRecDepth 100000 in
theorem k_X12_otherOf_2 (l : Launch) (adK adV : Nat → Nat) (dC : Nat → ClassId) (dI : Nat → Nat → Nat) (cy : Nat → ClassId) (ad : Nat → Nat) (B : Int) (hB0 : 100000 ≤ B) (hB1 : B ≤ 1073741824) (qr : Nat) (s1 : Int)  (a2 : Int32) (ra2 : 0 ≤ a2.toInt) (ta2 : a2.toInt ≤ 12) (w0 : va_W) (sz : Nat) (hT : TW ksM ad cy B qr 12 w0)  : Met l yX12_otherOf (wu yX12_otherOf cX12_otherOf 3 (some .int)) ({ frames := 2, cells := 0, slots := 0, locals := 34 }) (va_Pc [.ref (ad 0), .int (-1), .int a2] (wpreS adK adV dC dI cy sz w0)) (va_Qi (P_X12_otherOf_2 ad cy B qr s1 a2 w0) (fun u : va_W => wpost dC dI cy (va_A w0 sz) u) (va_A w0 sz)) 0 0 (va_A w0 sz) := by
  refine Met.ofW (cc := cX12_otherOf) (maxL := 3) (ret := (some .int)) (by decide) rfl ?_
  intro p e s m args below meth c s₁ Bk hml hv
  obtain ⟨rfl, ⟨hsz, hP, hK, hD0⟩, hE, hSR⟩ := hv
  have hx := Bk.exec
  have hb := Bk.bytes
  have hr := Bk.returns
  have hlocks := Bk.notSynchronized
  have hC : CallFix p m c cX12_otherOf 3 s _ (wu yX12_otherOf cX12_otherOf 3 (some .int)) RX12 := ⟨hx, hb, hml, findClass_of_methodNamed Bk.named, atoms_spec (ws := (wu yX12_otherOf cX12_otherOf 3 (some .int))) Bk.pre⟩
  subst hsz
  have hD := hD0.self (sz := s.heap.size)
  generalize hAe : va_A w0 s.heap.size = A at hD hE ⊢
  have hA : ∀ q : Nat, s.heap.size ≤ q → A q := fun q h => by rw [← hAe]; exact Or.inr h
  have hw : Wd dC dI A s.heap s.heap [] w0 := ⟨hP, hD, va_S.rf⟩
  have hF : FE ksM ([] : List (Nat × Nat × Nat)) w0 w0 := FE.rf
  have hl := lv_entry ([.ref (ad 0), .int (-1), .int a2]) (n := 3) (Nat.le_of_ble_eq_true rfl)
  rw [lg_entry_eq]
  generalize (lg_sl ([.ref (ad 0), .int (-1), .int a2]) ++ List.replicate (3 - (lg_sl ([.ref (ad 0), .int (-1), .int a2])).length) Slot.unset).toArray = ls at hl ⊢
  have hl : lv_has ls 3 [(0, .ref (ad 0)), (1, .int (-1)), (2, .int a2)] := hl
  generalize hloc : ([] : List Loc) = locs at hw ⊢
  refine lv_aload_n hx hb dX12_otherOf_0 rfl (lv_at hl 0 rfl) ?_
  refine lv_iload_n hx hb dX12_otherOf_1 rfl (lv_at hl 1 rfl) ?_
  refine lv_iconst (v := 0) hx hb dX12_otherOf_2 (by decide) ?_
  refine tk_Vi hC hK hw hT hA hE hSR kM_at0 (by decide) rfl (k_X12_streetOf_7 l adK adV dC dI cy ad B (by omega) (by omega) qr s1    w0 s.heap.size hT ) (cwV 2 hC.2.2.2.2 uV_RX12_300 rfl rfl rfl (by decide +kernel) ⟨Nat.le_of_ble_eq_true rfl, Nat.le_of_ble_eq_true rfl⟩) rfl hl.1 rfl (Nat.le_of_ble_eq_true rfl) dX12_otherOf_3 (fun r1 w3 H locs hp2 hw => ?_)
  obtain ⟨rfl, hg8⟩ := hp2
  obtain ⟨g5, g6, c7⟩ := hg8
  refine lv_iload_n hx hb dX12_otherOf_6 rfl (lv_at hl 2 rfl) ?_
  refine lv_icmp_ne (tgt := 19) hx hb dX12_otherOf_7 (by decide) (fun c9 => ?_) (fun c9 => ?_)
  · have c9 : ¬ r1.toInt = a2.toInt := wk_eqF c9
    refine lv_aload_n hx hb dX12_otherOf_19 rfl (lv_at hl 0 rfl) ?_
    refine lv_iload_n hx hb dX12_otherOf_20 rfl (lv_at hl 1 rfl) ?_
    refine lv_iconst (v := 0) hx hb dX12_otherOf_21 (by decide) ?_
    refine tk_Vi hC hK hw hT hA hE hSR kM_at0 (by decide) rfl (k_X12_streetOf_7 l adK adV dC dI cy ad B (by omega) (by omega) qr s1    w0 H.size hT ) (cwV 2 hC.2.2.2.2 uV_RX12_300 rfl rfl rfl (by decide +kernel) ⟨Nat.le_of_ble_eq_true rfl, Nat.le_of_ble_eq_true rfl⟩) rfl hl.1 rfl (Nat.le_of_ble_eq_true rfl) dX12_otherOf_22 (fun r10 w12 H locs hp11 hw => ?_)
    obtain ⟨rfl, hg17⟩ := hp11
    obtain ⟨g14, g15, c16⟩ := hg17
    obtain rfl : r1 = r10 := c7.symm.trans c16
    exact tk_iret hC hr hlocks hK ⟨rfl, ⟨(show 0 ≤ r1.toInt by omega), (show r1.toInt ≤ 12 by omega)⟩⟩ hw dX12_otherOf_25
  · have c9 : r1.toInt = a2.toInt := wk_eq.mp c9
    refine lv_aload_n hx hb dX12_otherOf_10 rfl (lv_at hl 0 rfl) ?_
    refine lv_iload_n hx hb dX12_otherOf_11 rfl (lv_at hl 1 rfl) ?_
    refine lv_iconst (v := 1) hx hb dX12_otherOf_12 (by decide) ?_
    refine tk_Vi hC hK hw hT hA hE hSR kM_at0 (by decide) rfl (k_X12_streetOf_8 l adK adV dC dI cy ad B (by omega) (by omega) qr s1    w0 H.size hT ) (cwV 2 hC.2.2.2.2 uV_RX12_300 rfl rfl rfl (by decide +kernel) ⟨Nat.le_of_ble_eq_true rfl, Nat.le_of_ble_eq_true rfl⟩) rfl hl.1 rfl (Nat.le_of_ble_eq_true rfl) dX12_otherOf_13 (fun r18 w20 H locs hp19 hw => ?_)
    obtain ⟨rfl, hg25⟩ := hp19
    obtain ⟨g22, g23, c24⟩ := hg25
    refine lv_goto (tgt := 25) hx hb dX12_otherOf_16 (by decide) ?_
    exact tk_iret hC hr hlocks hK ⟨rfl, ⟨(show 0 ≤ r18.toInt by omega), (show r18.toInt ≤ 12 by omega)⟩⟩ hw dX12_otherOf_25
abbrev P_X12_streetOf_9 (ad : Nat → Nat) (cy : Nat → ClassId) (B : Int) (qr : Nat) (s1 : Int)  (w0 : va_W) : Int32 → va_W → Prop := fun r u => w0 = u ∧ ((0 ≤ r.toInt ∧ r.toInt ≤ 8 ∧ gi u 12 2 = r))
set_option maxHeartbeats 4000000 in
set_option maxRecDepth 100000 in
theorem k_X12_streetOf_9 (l : Launch) (adK adV : Nat → Nat) (dC : Nat → ClassId) (dI : Nat → Nat → Nat) (cy : Nat → ClassId) (ad : Nat → Nat) (B : Int) (hB0 : 100000 ≤ B) (hB1 : B ≤ 1073741824) (qr : Nat) (s1 : Int)   (w0 : va_W) (sz : Nat) (hT : TW ksM ad cy B qr 12 w0)  : Met l yX12_streetOf (wu yX12_streetOf cX12_streetOf 3 (some .int)) ({ frames := 1, cells := 0, slots := 0, locals := 12 }) (va_Pc [.ref (ad 0), .int (-1), .int 2] (wpreS adK adV dC dI cy sz w0)) (va_Qi (P_X12_streetOf_9 ad cy B qr s1  w0) (fun u : va_W => wpost dC dI cy (va_A w0 sz) u) (va_A w0 sz)) 0 0 (va_A w0 sz) := by
  refine Met.ofW (cc := cX12_streetOf) (maxL := 3) (ret := (some .int)) (by decide) rfl ?_
  intro p e s m args below meth c s₁ Bk hml hv
  obtain ⟨rfl, ⟨hsz, hP, hK, hD0⟩, hE, hSR⟩ := hv
  have hx := Bk.exec
  have hb := Bk.bytes
  have hr := Bk.returns
  have hlocks := Bk.notSynchronized
  have hC : CallFix p m c cX12_streetOf 3 s _ (wu yX12_streetOf cX12_streetOf 3 (some .int)) RX12 := ⟨hx, hb, hml, findClass_of_methodNamed Bk.named, atoms_spec (ws := (wu yX12_streetOf cX12_streetOf 3 (some .int))) Bk.pre⟩
  subst hsz
  have hD := hD0.self (sz := s.heap.size)
  generalize hAe : va_A w0 s.heap.size = A at hD hE ⊢
  have hA : ∀ q : Nat, s.heap.size ≤ q → A q := fun q h => by rw [← hAe]; exact Or.inr h
  have hw : Wd dC dI A s.heap s.heap [] w0 := ⟨hP, hD, va_S.rf⟩
  have hF : FE ksM ([] : List (Nat × Nat × Nat)) w0 w0 := FE.rf
  have hl := lv_entry ([.ref (ad 0), .int (-1), .int 2]) (n := 3) (Nat.le_of_ble_eq_true rfl)
  rw [lg_entry_eq]
  generalize (lg_sl ([.ref (ad 0), .int (-1), .int 2]) ++ List.replicate (3 - (lg_sl ([.ref (ad 0), .int (-1), .int 2])).length) Slot.unset).toArray = ls at hl ⊢
  have hl : lv_has ls 3 [(0, .ref (ad 0)), (1, .int (-1)), (2, .int 2)] := hl
  generalize hloc : ([] : List Loc) = locs at hw ⊢
  have hinX12 : ∀ w ∈ u_ws RX12 TX12 42, w ∈ (wu yX12_streetOf cX12_streetOf 3 (some .int)) := fun _ h => List.mem_cons_of_mem _ (up_71 h)
  refine lv_aload_n hx hb dX12_streetOf_0 rfl (lv_at hl 0 rfl) ?_
  refine tk_getA hC hK hw hT hinX12 kM_at0 (by decide) rfl 26 (by decide) (List.mem_cons_of_mem _ uw_7_1) rfl rfl dX12_streetOf_1 ?_
  refine lv_bipush (v := 10) hx hb dX12_streetOf_4 (by decide) ?_
  refine lv_bipush (v := 10) hx hb dX12_streetOf_6 (by decide) ?_
  refine lv_iload_n hx hb dX12_streetOf_8 rfl (lv_at hl 1 rfl) ?_
  refine lv_imul hx hb dX12_streetOf_9 ?_
  refine wk_top (-10) (by decide) ?_
  refine lv_iadd hx hb dX12_streetOf_10 ?_
  refine wk_top 0 (by decide) ?_
  refine lv_iload_n hx hb dX12_streetOf_11 rfl (lv_at hl 2 rfl) ?_
  refine lv_iadd hx hb dX12_streetOf_12 ?_
  refine wk_top 2 (by decide) ?_
  refine tk_ialdR hC hK hw hT kM_at12 rfl (by decide) (by decide) dX12_streetOf_13 (fun x1 c2 Ex1 => ?_)
  have bx1 := tk_rgI rfl 2 1 1 0 8 (by decide +kernel) ⟨0, by decide, by decide⟩ Ex1
  have c2 : gi w0 12 2 = x1 := c2
  exact tk_iret hC hr hlocks hK ⟨rfl, ⟨(show 0 ≤ x1.toInt by omega), (show x1.toInt ≤ 8 by omega), c2⟩⟩ hw dX12_streetOf_14
abbrev P_X12_isDayFor_4 (ad : Nat → Nat) (cy : Nat → ClassId) (B : Int) (qr : Nat) (s1 : Int) (a1 : Int32) (a2 : Int32) (a3 : Int32) (w0 : va_W) : Int32 → va_W → Prop := fun r u => w0 = u ∧ ((r = 0 ∧ (¬ mDay w0 a1.toInt a2.toInt a3.toInt)) ∨ (r = 0 ∧ gi u 12 (10 * a1.toInt + 10).toNat = a2 ∧ (¬ mDay w0 a1.toInt a2.toInt a3.toInt)) ∨ (r = 1 ∧ (mDay w0 a1.toInt a2.toInt a3.toInt)) ∨ (r = 1 ∧ gi u 12 (10 * a1.toInt + 10).toNat = a2 ∧ (mDay w0 a1.toInt a2.toInt a3.toInt)))
set_option maxHeartbeats 4000000 in
set_option maxRecDepth 100000 in
theorem k_X12_isDayFor_4 (l : Launch) (adK adV : Nat → Nat) (dC : Nat → ClassId) (dI : Nat → Nat → Nat) (cy : Nat → ClassId) (ad : Nat → Nat) (B : Int) (hB0 : 100000 ≤ B) (hB1 : B ≤ 1073741824) (qr : Nat) (s1 : Int)  (a1 : Int32) (ra1 : 0 ≤ a1.toInt) (ta1 : a1.toInt ≤ 11) (a2 : Int32) (ra2 : 0 ≤ a2.toInt) (ta2 : a2.toInt ≤ 9) (a3 : Int32) (ra3 : 0 ≤ a3.toInt) (ta3 : a3.toInt ≤ 4166670) (w0 : va_W) (sz : Nat) (hT : TW ksM ad cy B qr 12 w0)  : Met l yX12_isDayFor (wu yX12_isDayFor cX12_isDayFor 4 (some .boolean)) ({ frames := 3, cells := 0, slots := 0, locals := 57 }) (va_Pc [.ref (ad 0), .int a1, .int a2, .int a3] (wpreS adK adV dC dI cy sz w0)) (va_Qi (P_X12_isDayFor_4 ad cy B qr s1 a1 a2 a3 w0) (fun u : va_W => wpost dC dI cy (va_A w0 sz) u) (va_A w0 sz)) 0 0 (va_A w0 sz) := by
  refine Met.ofW (cc := cX12_isDayFor) (maxL := 4) (ret := (some .boolean)) (by decide) rfl ?_
  intro p e s m args below meth c s₁ Bk hml hv
  obtain ⟨rfl, ⟨hsz, hP, hK, hD0⟩, hE, hSR⟩ := hv
  have hx := Bk.exec
  have hb := Bk.bytes
  have hr := Bk.returns
  have hlocks := Bk.notSynchronized
  have hC : CallFix p m c cX12_isDayFor 4 s _ (wu yX12_isDayFor cX12_isDayFor 4 (some .boolean)) RX12 := ⟨hx, hb, hml, findClass_of_methodNamed Bk.named, atoms_spec (ws := (wu yX12_isDayFor cX12_isDayFor 4 (some .boolean))) Bk.pre⟩
  subst hsz
  have hD := hD0.self (sz := s.heap.size)
  generalize hAe : va_A w0 s.heap.size = A at hD hE ⊢
  have hA : ∀ q : Nat, s.heap.size ≤ q → A q := fun q h => by rw [← hAe]; exact Or.inr h
  have hw : Wd dC dI A s.heap s.heap [] w0 := ⟨hP, hD, va_S.rf⟩
  have hF : FE ksM ([] : List (Nat × Nat × Nat)) w0 w0 := FE.rf
  have hl := lv_entry ([.ref (ad 0), .int a1, .int a2, .int a3]) (n := 4) (Nat.le_of_ble_eq_true rfl)
  rw [lg_entry_eq]
  generalize (lg_sl ([.ref (ad 0), .int a1, .int a2, .int a3]) ++ List.replicate (4 - (lg_sl ([.ref (ad 0), .int a1, .int a2, .int a3])).length) Slot.unset).toArray = ls at hl ⊢
  have hl : lv_has ls 4 [(0, .ref (ad 0)), (1, .int a1), (2, .int a2), (3, .int a3)] := hl
  generalize hloc : ([] : List Loc) = locs at hw ⊢
  refine lv_aload_n hx hb dX12_isDayFor_0 rfl (lv_at hl 0 rfl) ?_
  refine lv_aload_n hx hb dX12_isDayFor_1 rfl (lv_at hl 0 rfl) ?_
  refine lv_iload_n hx hb dX12_isDayFor_2 rfl (lv_at hl 1 rfl) ?_
  refine lv_iconst (v := 3) hx hb dX12_isDayFor_3 (by decide) ?_
  refine lv_iload_n hx hb dX12_isDayFor_4 rfl (lv_at hl 3 rfl) ?_
  refine lv_bipush (v := 7) hx hb dX12_isDayFor_5 (by decide) ?_
  refine lv_irem hx hb dX12_isDayFor_7 (by decide) ?_
  refine lv_topi (fun x1 ex1 => ?_)
  have ex1 : x1.toInt = a3.toInt % (7 : Int) := by rw [ex1]; exact wk_rem (show 0 ≤ a3.toInt from ra3) (show 0 < (7 : Int) by decide)
  refine lv_iadd hx hb dX12_isDayFor_8 ?_
  refine lv_topi (fun x2 ex2 => ?_)
  have ex2 : x2.toInt = (3 : Int) + x1.toInt := by rw [ex2]; exact wk_add (show (-2147483648) ≤ (3 : Int) + x1.toInt by omega) (show (3 : Int) + x1.toInt ≤ 2147483647 by omega)
  refine tk_Vi hC hK hw hT hA hE hSR kM_at0 (by decide) rfl (k_X12_streetOf_4 l adK adV dC dI cy ad B (by omega) (by omega) qr s1   a1 (show 0 ≤ a1.toInt from ra1) (show a1.toInt ≤ 11 from ta1) x2 (show 3 ≤ x2.toInt by omega) (show x2.toInt ≤ 9 by omega) w0 s.heap.size hT ) (cwV 2 hC.2.2.2.2 uV_RX12_300 rfl rfl rfl (by decide +kernel) ⟨Nat.le_of_ble_eq_true rfl, Nat.le_of_ble_eq_true rfl⟩) rfl hl.1 rfl (Nat.le_of_ble_eq_true rfl) dX12_isDayFor_9 (fun r3 w5 H locs hp4 hw => ?_)
  obtain ⟨rfl, hg10⟩ := hp4
  obtain ⟨g7, g8, c9⟩ := hg10
  refine lv_iload_n hx hb dX12_isDayFor_12 rfl (lv_at hl 1 rfl) ?_
  refine lv_iload_n hx hb dX12_isDayFor_13 rfl (lv_at hl 2 rfl) ?_
  refine tk_Vi hC hK hw hT hA hE hSR kM_at0 (by decide) rfl (k_X12_hasSign_1 l adK adV dC dI cy ad B (by omega) (by omega) qr s1   r3 (show 0 ≤ r3.toInt by omega) (show r3.toInt ≤ 9 by omega) a1 (show 0 ≤ a1.toInt from ra1) (show a1.toInt ≤ 11 from ta1) a2 (show 0 ≤ a2.toInt from ra2) (show a2.toInt ≤ 9 from ta2) w0 H.size hT ) (cwV 3 hC.2.2.2.2 uV_RX12_307 rfl rfl rfl (by decide +kernel) ⟨Nat.le_of_ble_eq_true rfl, Nat.le_of_ble_eq_true rfl⟩) rfl hl.1 rfl (Nat.le_of_ble_eq_true rfl) dX12_isDayFor_14 (fun r11 w13 H locs hp12 hw => ?_)
  obtain ⟨rfl, hg21⟩ := hp12
  rcases hg21 with ⟨rfl, hq15⟩ | ⟨rfl, c16, hq17⟩ | ⟨rfl, hq18⟩ | ⟨rfl, c19, hq20⟩
  · refine lv_if_ne (tgt := 22) hx hb dX12_isDayFor_17 (by decide) (fun c => absurd (by decide) c) (fun _ => ?_)
    refine lv_iconst (v := 0) hx hb dX12_isDayFor_20 (by decide) ?_
    exact tk_zret hC hr rfl hlocks hK ⟨rfl, (Or.inl ⟨rfl, (by unfold mDay; rw [show (10 * a1.toInt + (3 + a3.toInt % 7) + 10) = 10 * a1.toInt + 1 * x2.toInt + 10 by omega]; simp only [c9]; first | exact ⟨by assumption, by assumption, by assumption⟩ | (rintro ⟨q1, q2, q3⟩; first | exact absurd q1 (by assumption) | exact q2 (by assumption) | exact q3 (by assumption)))⟩)⟩ hw dX12_isDayFor_21
  · refine lv_if_ne (tgt := 22) hx hb dX12_isDayFor_17 (by decide) (fun c => absurd (by decide) c) (fun _ => ?_)
    refine lv_iconst (v := 0) hx hb dX12_isDayFor_20 (by decide) ?_
    exact tk_zret hC hr rfl hlocks hK ⟨rfl, (Or.inr (Or.inl ⟨rfl, c16, (by unfold mDay; rw [show (10 * a1.toInt + (3 + a3.toInt % 7) + 10) = 10 * a1.toInt + 1 * x2.toInt + 10 by omega]; simp only [c9, c16]; first | exact ⟨by assumption, by assumption, by assumption⟩ | (rintro ⟨q1, q2, q3⟩; first | exact absurd q1 (by assumption) | exact q2 (by assumption) | exact q3 (by assumption)))⟩))⟩ hw dX12_isDayFor_21
  · refine lv_if_ne (tgt := 22) hx hb dX12_isDayFor_17 (by decide) (fun _ => ?_) (fun c => absurd c (by decide))
    refine lv_aload_n hx hb dX12_isDayFor_22 rfl (lv_at hl 0 rfl) ?_
    refine lv_aload_n hx hb dX12_isDayFor_23 rfl (lv_at hl 0 rfl) ?_
    refine lv_iload_n hx hb dX12_isDayFor_24 rfl (lv_at hl 1 rfl) ?_
    refine lv_iconst (v := 0) hx hb dX12_isDayFor_25 (by decide) ?_
    refine tk_Vi hC hK hw hT hA hE hSR kM_at0 (by decide) rfl (k_X12_streetOf_2 l adK adV dC dI cy ad B (by omega) (by omega) qr s1   a1 (show 0 ≤ a1.toInt from ra1) (show a1.toInt ≤ 11 from ta1) w0 H.size hT ) (cwV 2 hC.2.2.2.2 uV_RX12_300 rfl rfl rfl (by decide +kernel) ⟨Nat.le_of_ble_eq_true rfl, Nat.le_of_ble_eq_true rfl⟩) rfl hl.1 rfl (Nat.le_of_ble_eq_true rfl) dX12_isDayFor_26 (fun r22 w24 H locs hp23 hw => ?_)
    obtain ⟨rfl, hg29⟩ := hp23
    obtain ⟨g26, g27, c28⟩ := hg29
    refine lv_iload_n hx hb dX12_isDayFor_29 rfl (lv_at hl 3 rfl) ?_
    refine lv_sipush (v := 360) hx hb dX12_isDayFor_30 (by decide) ?_
    refine lv_irem hx hb dX12_isDayFor_33 (by decide) ?_
    refine lv_topi (fun x30 ex30 => ?_)
    have ex30 : x30.toInt = a3.toInt % (360 : Int) := by rw [ex30]; exact wk_rem (show 0 ≤ a3.toInt from ra3) (show 0 < (360 : Int) by decide)
    refine tk_Vi hC hK hw hT hA hE hSR kM_at0 (by decide) rfl (k_X12_isClosed_1 l adK adV dC dI cy ad B (by omega) (by omega) qr s1   r22 (show 0 ≤ r22.toInt by omega) (show r22.toInt ≤ 9 by omega) x30 (show 0 ≤ x30.toInt by omega) (show x30.toInt ≤ 359 by omega) w0 H.size hT ) (cwV 2 hC.2.2.2.2 uV_RX12_311 rfl rfl rfl (by decide +kernel) ⟨Nat.le_of_ble_eq_true rfl, Nat.le_of_ble_eq_true rfl⟩) rfl hl.1 rfl (Nat.le_of_ble_eq_true rfl) dX12_isDayFor_34 (fun r31 w33 H locs hp32 hw => ?_)
    obtain ⟨rfl, hg41⟩ := hp32
    rcases hg41 with ⟨rfl, hq35⟩ | ⟨rfl, ⟨x36, c37, rx36, tx36⟩, ⟨x38, c39, rx38, tx38⟩, hq40⟩
    · refine lv_if_ne (tgt := 62) hx hb dX12_isDayFor_37 (by decide) (fun c => absurd (by decide) c) (fun _ => ?_)
      refine lv_aload_n hx hb dX12_isDayFor_40 rfl (lv_at hl 0 rfl) ?_
      refine lv_aload_n hx hb dX12_isDayFor_41 rfl (lv_at hl 0 rfl) ?_
      refine lv_iload_n hx hb dX12_isDayFor_42 rfl (lv_at hl 1 rfl) ?_
      refine lv_iconst (v := 1) hx hb dX12_isDayFor_43 (by decide) ?_
      refine tk_Vi hC hK hw hT hA hE hSR kM_at0 (by decide) rfl (k_X12_streetOf_3 l adK adV dC dI cy ad B (by omega) (by omega) qr s1   a1 (show 0 ≤ a1.toInt from ra1) (show a1.toInt ≤ 11 from ta1) w0 H.size hT ) (cwV 2 hC.2.2.2.2 uV_RX12_300 rfl rfl rfl (by decide +kernel) ⟨Nat.le_of_ble_eq_true rfl, Nat.le_of_ble_eq_true rfl⟩) rfl hl.1 rfl (Nat.le_of_ble_eq_true rfl) dX12_isDayFor_44 (fun r42 w44 H locs hp43 hw => ?_)
      obtain ⟨rfl, hg49⟩ := hp43
      obtain ⟨g46, g47, c48⟩ := hg49
      refine lv_iload_n hx hb dX12_isDayFor_47 rfl (lv_at hl 3 rfl) ?_
      refine lv_sipush (v := 360) hx hb dX12_isDayFor_48 (by decide) ?_
      refine lv_irem hx hb dX12_isDayFor_51 (by decide) ?_
      refine lv_topi (fun x50 ex50 => ?_)
      have ex50 : x50.toInt = a3.toInt % (360 : Int) := by rw [ex50]; exact wk_rem (show 0 ≤ a3.toInt from ra3) (show 0 < (360 : Int) by decide)
      refine tk_Vi hC hK hw hT hA hE hSR kM_at0 (by decide) rfl (k_X12_isClosed_1 l adK adV dC dI cy ad B (by omega) (by omega) qr s1   r42 (show 0 ≤ r42.toInt by omega) (show r42.toInt ≤ 9 by omega) x50 (show 0 ≤ x50.toInt by omega) (show x50.toInt ≤ 359 by omega) w0 H.size hT ) (cwV 2 hC.2.2.2.2 uV_RX12_311 rfl rfl rfl (by decide +kernel) ⟨Nat.le_of_ble_eq_true rfl, Nat.le_of_ble_eq_true rfl⟩) rfl hl.1 rfl (Nat.le_of_ble_eq_true rfl) dX12_isDayFor_52 (fun r51 w53 H locs hp52 hw => ?_)
      obtain ⟨rfl, hg61⟩ := hp52
      rcases hg61 with ⟨rfl, hq55⟩ | ⟨rfl, ⟨x56, c57, rx56, tx56⟩, ⟨x58, c59, rx58, tx58⟩, hq60⟩
      · refine lv_if_ne (tgt := 62) hx hb dX12_isDayFor_55 (by decide) (fun c => absurd (by decide) c) (fun _ => ?_)
        refine lv_iconst (v := 1) hx hb dX12_isDayFor_58 (by decide) ?_
        refine lv_goto (tgt := 63) hx hb dX12_isDayFor_59 (by decide) ?_
        exact tk_zret hC hr rfl hlocks hK ⟨rfl, (Or.inr (Or.inr (Or.inl ⟨rfl, (by have hq35 := hq35; rw [show x30.toInt = a3.toInt % 360 by omega] at hq35; have hq55 := hq55; rw [show x50.toInt = a3.toInt % 360 by omega] at hq55; unfold mDay; rw [show (10 * a1.toInt + (3 + a3.toInt % 7) + 10) = 10 * a1.toInt + 1 * x2.toInt + 10 by omega]; simp only [c9, c28, c48]; first | exact ⟨by assumption, by assumption, by assumption⟩ | (rintro ⟨q1, q2, q3⟩; first | exact absurd q1 (by assumption) | exact q2 (by assumption) | exact q3 (by assumption)))⟩)))⟩ hw dX12_isDayFor_63
      · refine lv_if_ne (tgt := 62) hx hb dX12_isDayFor_55 (by decide) (fun _ => ?_) (fun c => absurd c (by decide))
        refine lv_iconst (v := 0) hx hb dX12_isDayFor_62 (by decide) ?_
        exact tk_zret hC hr rfl hlocks hK ⟨rfl, (Or.inl ⟨rfl, (by have hq35 := hq35; rw [show x30.toInt = a3.toInt % 360 by omega] at hq35; have hq60 := hq60; rw [show x50.toInt = a3.toInt % 360 by omega] at hq60; unfold mDay; rw [show (10 * a1.toInt + (3 + a3.toInt % 7) + 10) = 10 * a1.toInt + 1 * x2.toInt + 10 by omega]; simp only [c9, c28, c48, c57, c59]; first | exact ⟨by assumption, by assumption, by assumption⟩ | (rintro ⟨q1, q2, q3⟩; first | exact absurd q1 (by assumption) | exact q2 (by assumption) | exact q3 (by assumption)))⟩)⟩ hw dX12_isDayFor_63
    · refine lv_if_ne (tgt := 62) hx hb dX12_isDayFor_37 (by decide) (fun _ => ?_) (fun c => absurd c (by decide))
      refine lv_iconst (v := 0) hx hb dX12_isDayFor_62 (by decide) ?_
      exact tk_zret hC hr rfl hlocks hK ⟨rfl, (Or.inl ⟨rfl, (by have hq40 := hq40; rw [show x30.toInt = a3.toInt % 360 by omega] at hq40; unfold mDay; rw [show (10 * a1.toInt + (3 + a3.toInt % 7) + 10) = 10 * a1.toInt + 1 * x2.toInt + 10 by omega]; simp only [c9, c28, c37, c39]; first | exact ⟨by assumption, by assumption, by assumption⟩ | (rintro ⟨q1, q2, q3⟩; first | exact absurd q1 (by assumption) | exact q2 (by assumption) | exact q3 (by assumption)))⟩)⟩ hw dX12_isDayFor_63
  · refine lv_if_ne (tgt := 22) hx hb dX12_isDayFor_17 (by decide) (fun _ => ?_) (fun c => absurd c (by decide))
    refine lv_aload_n hx hb dX12_isDayFor_22 rfl (lv_at hl 0 rfl) ?_
    refine lv_aload_n hx hb dX12_isDayFor_23 rfl (lv_at hl 0 rfl) ?_
    refine lv_iload_n hx hb dX12_isDayFor_24 rfl (lv_at hl 1 rfl) ?_
    refine lv_iconst (v := 0) hx hb dX12_isDayFor_25 (by decide) ?_
    refine tk_Vi hC hK hw hT hA hE hSR kM_at0 (by decide) rfl (k_X12_streetOf_2 l adK adV dC dI cy ad B (by omega) (by omega) qr s1   a1 (show 0 ≤ a1.toInt from ra1) (show a1.toInt ≤ 11 from ta1) w0 H.size hT ) (cwV 2 hC.2.2.2.2 uV_RX12_300 rfl rfl rfl (by decide +kernel) ⟨Nat.le_of_ble_eq_true rfl, Nat.le_of_ble_eq_true rfl⟩) rfl hl.1 rfl (Nat.le_of_ble_eq_true rfl) dX12_isDayFor_26 (fun r62 w64 H locs hp63 hw => ?_)
    obtain ⟨rfl, hg69⟩ := hp63
    obtain ⟨g66, g67, c68⟩ := hg69
    obtain rfl : a2 = r62 := c19.symm.trans c68
    refine lv_iload_n hx hb dX12_isDayFor_29 rfl (lv_at hl 3 rfl) ?_
    refine lv_sipush (v := 360) hx hb dX12_isDayFor_30 (by decide) ?_
    refine lv_irem hx hb dX12_isDayFor_33 (by decide) ?_
    refine lv_topi (fun x70 ex70 => ?_)
    have ex70 : x70.toInt = a3.toInt % (360 : Int) := by rw [ex70]; exact wk_rem (show 0 ≤ a3.toInt from ra3) (show 0 < (360 : Int) by decide)
    refine tk_Vi hC hK hw hT hA hE hSR kM_at0 (by decide) rfl (k_X12_isClosed_1 l adK adV dC dI cy ad B (by omega) (by omega) qr s1   a2 (show 0 ≤ a2.toInt from ra2) (show a2.toInt ≤ 9 from ta2) x70 (show 0 ≤ x70.toInt by omega) (show x70.toInt ≤ 359 by omega) w0 H.size hT ) (cwV 2 hC.2.2.2.2 uV_RX12_311 rfl rfl rfl (by decide +kernel) ⟨Nat.le_of_ble_eq_true rfl, Nat.le_of_ble_eq_true rfl⟩) rfl hl.1 rfl (Nat.le_of_ble_eq_true rfl) dX12_isDayFor_34 (fun r71 w73 H locs hp72 hw => ?_)
    obtain ⟨rfl, hg81⟩ := hp72
    rcases hg81 with ⟨rfl, hq75⟩ | ⟨rfl, ⟨x76, c77, rx76, tx76⟩, ⟨x78, c79, rx78, tx78⟩, hq80⟩
    · refine lv_if_ne (tgt := 62) hx hb dX12_isDayFor_37 (by decide) (fun c => absurd (by decide) c) (fun _ => ?_)
      refine lv_aload_n hx hb dX12_isDayFor_40 rfl (lv_at hl 0 rfl) ?_
      refine lv_aload_n hx hb dX12_isDayFor_41 rfl (lv_at hl 0 rfl) ?_
      refine lv_iload_n hx hb dX12_isDayFor_42 rfl (lv_at hl 1 rfl) ?_
      refine lv_iconst (v := 1) hx hb dX12_isDayFor_43 (by decide) ?_
      refine tk_Vi hC hK hw hT hA hE hSR kM_at0 (by decide) rfl (k_X12_streetOf_3 l adK adV dC dI cy ad B (by omega) (by omega) qr s1   a1 (show 0 ≤ a1.toInt from ra1) (show a1.toInt ≤ 11 from ta1) w0 H.size hT ) (cwV 2 hC.2.2.2.2 uV_RX12_300 rfl rfl rfl (by decide +kernel) ⟨Nat.le_of_ble_eq_true rfl, Nat.le_of_ble_eq_true rfl⟩) rfl hl.1 rfl (Nat.le_of_ble_eq_true rfl) dX12_isDayFor_44 (fun r82 w84 H locs hp83 hw => ?_)
      obtain ⟨rfl, hg89⟩ := hp83
      obtain ⟨g86, g87, c88⟩ := hg89
      refine lv_iload_n hx hb dX12_isDayFor_47 rfl (lv_at hl 3 rfl) ?_
      refine lv_sipush (v := 360) hx hb dX12_isDayFor_48 (by decide) ?_
      refine lv_irem hx hb dX12_isDayFor_51 (by decide) ?_
      refine lv_topi (fun x90 ex90 => ?_)
      have ex90 : x90.toInt = a3.toInt % (360 : Int) := by rw [ex90]; exact wk_rem (show 0 ≤ a3.toInt from ra3) (show 0 < (360 : Int) by decide)
      refine tk_Vi hC hK hw hT hA hE hSR kM_at0 (by decide) rfl (k_X12_isClosed_1 l adK adV dC dI cy ad B (by omega) (by omega) qr s1   r82 (show 0 ≤ r82.toInt by omega) (show r82.toInt ≤ 9 by omega) x90 (show 0 ≤ x90.toInt by omega) (show x90.toInt ≤ 359 by omega) w0 H.size hT ) (cwV 2 hC.2.2.2.2 uV_RX12_311 rfl rfl rfl (by decide +kernel) ⟨Nat.le_of_ble_eq_true rfl, Nat.le_of_ble_eq_true rfl⟩) rfl hl.1 rfl (Nat.le_of_ble_eq_true rfl) dX12_isDayFor_52 (fun r91 w93 H locs hp92 hw => ?_)
      obtain ⟨rfl, hg101⟩ := hp92
      rcases hg101 with ⟨rfl, hq95⟩ | ⟨rfl, ⟨x96, c97, rx96, tx96⟩, ⟨x98, c99, rx98, tx98⟩, hq100⟩
      · refine lv_if_ne (tgt := 62) hx hb dX12_isDayFor_55 (by decide) (fun c => absurd (by decide) c) (fun _ => ?_)
        refine lv_iconst (v := 1) hx hb dX12_isDayFor_58 (by decide) ?_
        refine lv_goto (tgt := 63) hx hb dX12_isDayFor_59 (by decide) ?_
        exact tk_zret hC hr rfl hlocks hK ⟨rfl, (Or.inr (Or.inr (Or.inr ⟨rfl, c19, (by have hq75 := hq75; rw [show x70.toInt = a3.toInt % 360 by omega] at hq75; have hq95 := hq95; rw [show x90.toInt = a3.toInt % 360 by omega] at hq95; unfold mDay; rw [show (10 * a1.toInt + (3 + a3.toInt % 7) + 10) = 10 * a1.toInt + 1 * x2.toInt + 10 by omega]; simp only [c9, c19, c88]; first | exact ⟨by assumption, by assumption, by assumption⟩ | (rintro ⟨q1, q2, q3⟩; first | exact absurd q1 (by assumption) | exact q2 (by assumption) | exact q3 (by assumption)))⟩)))⟩ hw dX12_isDayFor_63
      · refine lv_if_ne (tgt := 62) hx hb dX12_isDayFor_55 (by decide) (fun _ => ?_) (fun c => absurd c (by decide))
        refine lv_iconst (v := 0) hx hb dX12_isDayFor_62 (by decide) ?_
        exact tk_zret hC hr rfl hlocks hK ⟨rfl, (Or.inr (Or.inl ⟨rfl, c19, (by have hq75 := hq75; rw [show x70.toInt = a3.toInt % 360 by omega] at hq75; have hq100 := hq100; rw [show x90.toInt = a3.toInt % 360 by omega] at hq100; unfold mDay; rw [show (10 * a1.toInt + (3 + a3.toInt % 7) + 10) = 10 * a1.toInt + 1 * x2.toInt + 10 by omega]; simp only [c9, c19, c88, c97, c99]; first | exact ⟨by assumption, by assumption, by assumption⟩ | (rintro ⟨q1, q2, q3⟩; first | exact absurd q1 (by assumption) | exact q2 (by assumption) | exact q3 (by assumption)))⟩))⟩ hw dX12_isDayFor_63
    · refine lv_if_ne (tgt := 62) hx hb dX12_isDayFor_37 (by decide) (fun _ => ?_) (fun c => absurd c (by decide))
      refine lv_iconst (v := 0) hx hb dX12_isDayFor_62 (by decide) ?_
      exact tk_zret hC hr rfl hlocks hK ⟨rfl, (Or.inr (Or.inl ⟨rfl, c19, (by have hq80 := hq80; rw [show x70.toInt = a3.toInt % 360 by omega] at hq80; unfold mDay; rw [show (10 * a1.toInt + (3 + a3.toInt % 7) + 10) = 10 * a1.toInt + 1 * x2.toInt + 10 by omega]; simp only [c9, c19, c77, c79]; first | exact ⟨by assumption, by assumption, by assumption⟩ | (rintro ⟨q1, q2, q3⟩; first | exact absurd q1 (by assumption) | exact q2 (by assumption) | exact q3 (by assumption)))⟩))⟩ hw dX12_isDayFor_63
abbrev P_X12_isLifted_4 (ad : Nat → Nat) (cy : Nat → ClassId) (B : Int) (qr : Nat) (s1 : Int) (a1 : Int32) (a2 : Int32) (w0 : va_W) : Int32 → va_W → Prop := fun r u => w0 = u ∧ ((r = 0 ∧ (¬ mLf w0 a1.toInt a2.toInt)) ∨ (r = 1 ∧ (∃ y : Int32, gi u 12 3 = y ∧ 1 ≤ y.toInt ∧ y.toInt ≤ 4) ∧ (mLf w0 a1.toInt a2.toInt)))
set_option maxHeartbeats 4000000 in
set_option maxRecDepth 100000 in
theorem k_X12_isLifted_4 (l : Launch) (adK adV : Nat → Nat) (dC : Nat → ClassId) (dI : Nat → Nat → Nat) (cy : Nat → ClassId) (ad : Nat → Nat) (B : Int) (hB0 : 100000 ≤ B) (hB1 : B ≤ 1073741824) (qr : Nat) (s1 : Int)  (a1 : Int32) (ra1 : 0 ≤ a1.toInt) (ta1 : a1.toInt ≤ 11) (a2 : Int32) (ra2 : 0 ≤ a2.toInt) (ta2 : a2.toInt ≤ 100000100) (w0 : va_W) (sz : Nat) (hT : TW ksM ad cy B qr 12 w0)  : Met l yX12_isLifted (wu yX12_isLifted cX12_isLifted 5 (some .boolean)) ({ frames := 1, cells := 0, slots := 0, locals := 12 }) (va_Pc [.ref (ad 0), .int a1, .int a2] (wpreS adK adV dC dI cy sz w0)) (va_Qi (P_X12_isLifted_4 ad cy B qr s1 a1 a2 w0) (fun u : va_W => wpost dC dI cy (va_A w0 sz) u) (va_A w0 sz)) 0 0 (va_A w0 sz) := by
  refine Met.ofW (cc := cX12_isLifted) (maxL := 5) (ret := (some .boolean)) (by decide) rfl ?_
  intro p e s m args below meth c s₁ Bk hml hv
  obtain ⟨rfl, ⟨hsz, hP, hK, hD0⟩, hE, hSR⟩ := hv
  have hx := Bk.exec
  have hb := Bk.bytes
  have hr := Bk.returns
  have hlocks := Bk.notSynchronized
  have hC : CallFix p m c cX12_isLifted 5 s _ (wu yX12_isLifted cX12_isLifted 5 (some .boolean)) RX12 := ⟨hx, hb, hml, findClass_of_methodNamed Bk.named, atoms_spec (ws := (wu yX12_isLifted cX12_isLifted 5 (some .boolean))) Bk.pre⟩
  subst hsz
  have hD := hD0.self (sz := s.heap.size)
  generalize hAe : va_A w0 s.heap.size = A at hD hE ⊢
  have hA : ∀ q : Nat, s.heap.size ≤ q → A q := fun q h => by rw [← hAe]; exact Or.inr h
  have hw : Wd dC dI A s.heap s.heap [] w0 := ⟨hP, hD, va_S.rf⟩
  have hF : FE ksM ([] : List (Nat × Nat × Nat)) w0 w0 := FE.rf
  have hl := lv_entry ([.ref (ad 0), .int a1, .int a2]) (n := 5) (Nat.le_of_ble_eq_true rfl)
  rw [lg_entry_eq]
  generalize (lg_sl ([.ref (ad 0), .int a1, .int a2]) ++ List.replicate (5 - (lg_sl ([.ref (ad 0), .int a1, .int a2])).length) Slot.unset).toArray = ls at hl ⊢
  have hl : lv_has ls 5 [(0, .ref (ad 0)), (1, .int a1), (2, .int a2)] := hl
  generalize hloc : ([] : List Loc) = locs at hw ⊢
  have hinX12 : ∀ w ∈ u_ws RX12 TX12 42, w ∈ (wu yX12_isLifted cX12_isLifted 5 (some .boolean)) := fun _ h => List.mem_cons_of_mem _ (up_71 h)
  have L2 : ∀ (n2 : Nat) (v2_3 : Int32) (H : Heap) (locs : List Loc) (ls : Array Slot), 0 ≤ a1.toInt → a1.toInt ≤ 11 → 0 ≤ a2.toInt → a2.toInt ≤ 100000100 → 0 ≤ v2_3.toInt → v2_3.toInt ≤ 4 → (∀ k : Int, 0 ≤ k → k < v2_3.toInt → ¬ mLf1 w0 k a1.toInt a2.toInt) → (4 - v2_3.toInt).toNat < n2 → Wd dC dI A s.heap H locs w0 → lv_has ls 5 [(0, .ref (ad 0)), (1, .int a1), (2, .int a2), (3, .int v2_3)] → W p l e ({ frames := 1, cells := 0, slots := 0, locals := 12 }) s m (List.toArray [.ref (ad 0), .int a1, .int a2]) below meth c H locs 0 0 (MQ below (va_Qi (P_X12_isLifted_4 ad cy B qr s1 a1 a2 w0) (fun u : va_W => wpost dC dI cy A u) A) (List.toArray [.ref (ad 0), .int a1, .int a2]) s 0 0 A) (F0 m 2 ls []) := by
    intro n2
    induction n2 with
    | zero => intro v2_3 H locs ls r1 t2 r3 t4 r5 t6 hcr2_0 hm2 hw hl; omega
    | succ n2 ih2 =>
      intro v2_3 H locs ls r1 t2 r3 t4 r5 t6 hcr2_0 hm2 hw hl
      refine lv_iload_n hx hb dX12_isLifted_2 rfl (lv_at hl 3 rfl) ?_
      refine lv_aload_n hx hb dX12_isLifted_3 rfl (lv_at hl 0 rfl) ?_
      refine tk_getA hC hK hw hT hinX12 kM_at0 (by decide) rfl 26 (by decide) (List.mem_cons_of_mem _ uw_7_1) rfl rfl dX12_isLifted_4 ?_
      refine lv_iconst (v := 3) hx hb dX12_isLifted_7 (by decide) ?_
      refine tk_ialdR hC hK hw hT kM_at12 rfl (by decide) (by decide) dX12_isLifted_8 (fun x7 c8 Ex7 => ?_)
      have bx7 := tk_rgI rfl 3 1 1 0 4 (by decide +kernel) ⟨0, by decide, by decide⟩ Ex7
      have c8 : gi w0 12 3 = x7 := c8
      refine lv_icmp_ge (tgt := 72) hx hb dX12_isLifted_9 (by decide) (fun c9 => ?_) (fun c9 => ?_)
      · have c9 : x7.toInt ≤ v2_3.toInt := wk_le.mp c9
        refine lv_iconst (v := 0) hx hb dX12_isLifted_72 (by decide) ?_
        exact tk_zret hC hr rfl hlocks hK ⟨rfl, (Or.inl ⟨rfl, (by exact mLf_no hcr2_0 (by simp only [c8]; omega))⟩)⟩ hw dX12_isLifted_73
      · have c9 : v2_3.toInt < x7.toInt := wk_leF c9
        refine lv_sipush (v := 156) hx hb dX12_isLifted_12 (by decide) ?_
        refine lv_iconst (v := 3) hx hb dX12_isLifted_15 (by decide) ?_
        refine lv_iload_n hx hb dX12_isLifted_16 rfl (lv_at hl 3 rfl) ?_
        refine lv_imul hx hb dX12_isLifted_17 ?_
        refine lv_topi (fun x10 ex10 => ?_)
        have ex10 : x10.toInt = (3 : Int) * v2_3.toInt := by rw [ex10]; exact wk_mul (show (-2147483648) ≤ (3 : Int) * v2_3.toInt by omega) (show (3 : Int) * v2_3.toInt ≤ 2147483647 by omega)
        refine lv_iadd hx hb dX12_isLifted_18 ?_
        refine lv_topi (fun x11 ex11 => ?_)
        have ex11 : x11.toInt = (156 : Int) + x10.toInt := by rw [ex11]; exact wk_add (show (-2147483648) ≤ (156 : Int) + x10.toInt by omega) (show (156 : Int) + x10.toInt ≤ 2147483647 by omega)
        refine lv_istore (lv' := [(4, .int x11), (0, .ref (ad 0)), (1, .int a1), (2, .int a2), (3, .int v2_3)]) hx hb dX12_isLifted_19 hl (by decide) rfl (fun ls hl => ?_)
        refine lv_aload_n hx hb dX12_isLifted_21 rfl (lv_at hl 1 rfl) ?_
        refine tk_getA hC hK hw hT hinX12 kM_at0 (by decide) rfl 26 (by decide) (List.mem_cons_of_mem _ uw_7_1) rfl rfl dX12_isLifted_22 ?_
        refine lv_iload hx hb dX12_isLifted_25 (lv_at hl 0 rfl) ?_
        refine tk_ialdR hC hK hw hT kM_at12 rfl (show 0 ≤ x11.toInt by omega) (show x11.toInt < 296 by omega) dX12_isLifted_27 (fun x12 c13 Ex12 => ?_)
        have c13 : gi w0 12 (3 * v2_3.toInt + 156).toNat = x12 := (congrArg (gi w0 12) (congrArg Int.toNat (show 3 * v2_3.toInt + 156 = x11.toInt by omega))).trans c13
        refine lv_iload_n hx hb dX12_isLifted_28 rfl (lv_at hl 2 rfl) ?_
        refine lv_icmp_ne (tgt := 66) hx hb dX12_isLifted_29 (by decide) (fun c14 => ?_) (fun c14 => ?_)
        · have c14 : ¬ x12.toInt = a1.toInt := wk_eqF c14
          obtain ⟨x15, ex15⟩ : ∃ y : Int32, y = v2_3 + Int32.ofInt 1 := ⟨_, rfl⟩
          refine lv_iinc (v := x15) (lv' := [(3, .int x15), (4, .int x11), (0, .ref (ad 0)), (1, .int a1), (2, .int a2)]) hx hb dX12_isLifted_66 hl (k := 4) rfl ex15.symm (by decide) rfl (fun ls hl => ?_)
          have ex15 : x15.toInt = v2_3.toInt + 1 := by rw [ex15]; exact wk_add (y := 1) (show -2147483648 ≤ v2_3.toInt + 1 by omega) (show v2_3.toInt + 1 ≤ 2147483647 by omega)
          refine lv_goto (tgt := 2) hx hb dX12_isLifted_69 (by decide) ?_
          exact ih2 x15 H locs ls  (show 0 ≤ a1.toInt from r1) (show a1.toInt ≤ 11 from t2) (show 0 ≤ a2.toInt from r3) (show a2.toInt ≤ 100000100 from t4) (show 0 ≤ x15.toInt by omega) (show x15.toInt ≤ 4 by omega) (show ∀ k : Int, 0 ≤ k → k < x15.toInt → ¬ mLf1 w0 k a1.toInt a2.toInt from all_step hcr2_0 (show ¬ mLf1 w0 v2_3.toInt a1.toInt a2.toInt by unfold mLf1; simp only [c8, c13]; omega) (by omega)) (show (4 - x15.toInt).toNat < n2 by omega) hw   (lv_sub hl [2, 3, 4, 0] rfl)
        · have c14 : x12.toInt = a1.toInt := wk_eq.mp c14
          refine lv_iload_n hx hb dX12_isLifted_32 rfl (lv_at hl 3 rfl) ?_
          refine lv_bipush (v := 24) hx hb dX12_isLifted_33 (by decide) ?_
          refine lv_irem hx hb dX12_isLifted_35 (by decide) ?_
          refine lv_topi (fun x16 ex16 => ?_)
          have ex16 : x16.toInt = a2.toInt % (24 : Int) := by rw [ex16]; exact wk_rem (show 0 ≤ a2.toInt from r3) (show 0 < (24 : Int) by decide)
          refine lv_aload_n hx hb dX12_isLifted_36 rfl (lv_at hl 1 rfl) ?_
          refine tk_getA hC hK hw hT hinX12 kM_at0 (by decide) rfl 26 (by decide) (List.mem_cons_of_mem _ uw_7_1) rfl rfl dX12_isLifted_37 ?_
          refine lv_iload hx hb dX12_isLifted_40 (lv_at hl 0 rfl) ?_
          refine lv_iconst (v := 1) hx hb dX12_isLifted_42 (by decide) ?_
          refine lv_iadd hx hb dX12_isLifted_43 ?_
          refine lv_topi (fun x17 ex17 => ?_)
          have ex17 : x17.toInt = x11.toInt + (1 : Int) := by rw [ex17]; exact wk_add (show (-2147483648) ≤ x11.toInt + (1 : Int) by omega) (show x11.toInt + (1 : Int) ≤ 2147483647 by omega)
          refine tk_ialdR hC hK hw hT kM_at12 rfl (show 0 ≤ x17.toInt by omega) (show x17.toInt < 296 by omega) dX12_isLifted_44 (fun x18 c19 Ex18 => ?_)
          have c19 : gi w0 12 (3 * v2_3.toInt + 157).toNat = x18 := (congrArg (gi w0 12) (congrArg Int.toNat (show 3 * v2_3.toInt + 157 = x17.toInt by omega))).trans c19
          refine lv_icmp_lt (tgt := 66) hx hb dX12_isLifted_45 (by decide) (fun c20 => ?_) (fun c20 => ?_)
          · have c20 : x16.toInt < x18.toInt := wk_lt.mp c20
            obtain ⟨x21, ex21⟩ : ∃ y : Int32, y = v2_3 + Int32.ofInt 1 := ⟨_, rfl⟩
            refine lv_iinc (v := x21) (lv' := [(3, .int x21), (4, .int x11), (0, .ref (ad 0)), (1, .int a1), (2, .int a2)]) hx hb dX12_isLifted_66 hl (k := 4) rfl ex21.symm (by decide) rfl (fun ls hl => ?_)
            have ex21 : x21.toInt = v2_3.toInt + 1 := by rw [ex21]; exact wk_add (y := 1) (show -2147483648 ≤ v2_3.toInt + 1 by omega) (show v2_3.toInt + 1 ≤ 2147483647 by omega)
            refine lv_goto (tgt := 2) hx hb dX12_isLifted_69 (by decide) ?_
            exact ih2 x21 H locs ls  (show 0 ≤ a1.toInt from r1) (show a1.toInt ≤ 11 from t2) (show 0 ≤ a2.toInt from r3) (show a2.toInt ≤ 100000100 from t4) (show 0 ≤ x21.toInt by omega) (show x21.toInt ≤ 4 by omega) (show ∀ k : Int, 0 ≤ k → k < x21.toInt → ¬ mLf1 w0 k a1.toInt a2.toInt from all_step hcr2_0 (show ¬ mLf1 w0 v2_3.toInt a1.toInt a2.toInt by unfold mLf1; simp only [c8, c13, c19]; omega) (by omega)) (show (4 - x21.toInt).toNat < n2 by omega) hw   (lv_sub hl [2, 3, 4, 0] rfl)
          · have c20 : x18.toInt ≤ x16.toInt := wk_ltF c20
            refine lv_iload_n hx hb dX12_isLifted_48 rfl (lv_at hl 3 rfl) ?_
            refine lv_bipush (v := 24) hx hb dX12_isLifted_49 (by decide) ?_
            refine lv_irem hx hb dX12_isLifted_51 (by decide) ?_
            refine lv_topi (fun x22 ex22 => ?_)
            have ex22 : x22.toInt = a2.toInt % (24 : Int) := by rw [ex22]; exact wk_rem (show 0 ≤ a2.toInt from r3) (show 0 < (24 : Int) by decide)
            refine lv_aload_n hx hb dX12_isLifted_52 rfl (lv_at hl 1 rfl) ?_
            refine tk_getA hC hK hw hT hinX12 kM_at0 (by decide) rfl 26 (by decide) (List.mem_cons_of_mem _ uw_7_1) rfl rfl dX12_isLifted_53 ?_
            refine lv_iload hx hb dX12_isLifted_56 (lv_at hl 0 rfl) ?_
            refine lv_iconst (v := 2) hx hb dX12_isLifted_58 (by decide) ?_
            refine lv_iadd hx hb dX12_isLifted_59 ?_
            refine lv_topi (fun x23 ex23 => ?_)
            have ex23 : x23.toInt = x11.toInt + (2 : Int) := by rw [ex23]; exact wk_add (show (-2147483648) ≤ x11.toInt + (2 : Int) by omega) (show x11.toInt + (2 : Int) ≤ 2147483647 by omega)
            refine tk_ialdR hC hK hw hT kM_at12 rfl (show 0 ≤ x23.toInt by omega) (show x23.toInt < 296 by omega) dX12_isLifted_60 (fun x24 c25 Ex24 => ?_)
            have c25 : gi w0 12 (3 * v2_3.toInt + 158).toNat = x24 := (congrArg (gi w0 12) (congrArg Int.toNat (show 3 * v2_3.toInt + 158 = x23.toInt by omega))).trans c25
            refine lv_icmp_ge (tgt := 66) hx hb dX12_isLifted_61 (by decide) (fun c26 => ?_) (fun c26 => ?_)
            · have c26 : x24.toInt ≤ x22.toInt := wk_le.mp c26
              obtain ⟨x27, ex27⟩ : ∃ y : Int32, y = v2_3 + Int32.ofInt 1 := ⟨_, rfl⟩
              refine lv_iinc (v := x27) (lv' := [(3, .int x27), (4, .int x11), (0, .ref (ad 0)), (1, .int a1), (2, .int a2)]) hx hb dX12_isLifted_66 hl (k := 4) rfl ex27.symm (by decide) rfl (fun ls hl => ?_)
              have ex27 : x27.toInt = v2_3.toInt + 1 := by rw [ex27]; exact wk_add (y := 1) (show -2147483648 ≤ v2_3.toInt + 1 by omega) (show v2_3.toInt + 1 ≤ 2147483647 by omega)
              refine lv_goto (tgt := 2) hx hb dX12_isLifted_69 (by decide) ?_
              exact ih2 x27 H locs ls  (show 0 ≤ a1.toInt from r1) (show a1.toInt ≤ 11 from t2) (show 0 ≤ a2.toInt from r3) (show a2.toInt ≤ 100000100 from t4) (show 0 ≤ x27.toInt by omega) (show x27.toInt ≤ 4 by omega) (show ∀ k : Int, 0 ≤ k → k < x27.toInt → ¬ mLf1 w0 k a1.toInt a2.toInt from all_step hcr2_0 (show ¬ mLf1 w0 v2_3.toInt a1.toInt a2.toInt by unfold mLf1; simp only [c8, c13, c19, c25]; omega) (by omega)) (show (4 - x27.toInt).toNat < n2 by omega) hw   (lv_sub hl [2, 3, 4, 0] rfl)
            · have c26 : x22.toInt < x24.toInt := wk_leF c26
              refine lv_iconst (v := 1) hx hb dX12_isLifted_64 (by decide) ?_
              exact tk_zret hC hr rfl hlocks hK ⟨rfl, (Or.inr ⟨rfl, ⟨x7, c8, (show 1 ≤ x7.toInt by omega), (show x7.toInt ≤ 4 by omega)⟩, (by exact ⟨v2_3.toInt, by omega, by simp only [c8, c13, c19, c25]; omega, by unfold mLf1; simp only [c8, c13, c19, c25]; omega⟩)⟩)⟩ hw dX12_isLifted_65
  refine lv_iconst (v := 0) hx hb dX12_isLifted_0 (by decide) ?_
  refine lv_istore_n (lv' := [(3, .int 0), (0, .ref (ad 0)), (1, .int a1), (2, .int a2)]) hx hb dX12_isLifted_1 rfl hl (by decide) rfl (fun ls hl => ?_)
  exact L2 ((4 - (0 : Int)).toNat + 1) 0 s.heap locs ls  (show 0 ≤ a1.toInt from ra1) (show a1.toInt ≤ 11 from ta1) (show 0 ≤ a2.toInt from ra2) (show a2.toInt ≤ 100000100 from ta2) (by decide) (by decide) (show ∀ k : Int, 0 ≤ k → k < (0 : Int) → ¬ mLf1 w0 k a1.toInt a2.toInt from all_none) (Nat.lt_succ_self _) hw   (lv_sub hl [1, 2, 3, 0] rfl)
abbrev P_X12_firstOpen_2 (ad : Nat → Nat) (cy : Nat → ClassId) (B : Int) (qr : Nat) (s1 : Int) (a1 : Int32) (a2 : Int32) (a3 : Int32) (a4 : Int32) (w0 : va_W) : Int32 → va_W → Prop := fun r u => w0 = u ∧ ((0 ≤ r.toInt ∧ r.toInt ≤ 100000100) ∨ (0 ≤ r.toInt ∧ r.toInt ≤ 100000100 ∧ gi u 12 (10 * a1.toInt + 10).toNat = a2))
set_option maxHeartbeats 4000000 in
set_option maxRecDepth 100000 in
theorem k_X12_firstOpen_2 (l : Launch) (adK adV : Nat → Nat) (dC : Nat → ClassId) (dI : Nat → Nat → Nat) (cy : Nat → ClassId) (ad : Nat → Nat) (B : Int) (hB0 : 100000 ≤ B) (hB1 : B ≤ 1073741824) (qr : Nat) (s1 : Int)  (a1 : Int32) (ra1 : 0 ≤ a1.toInt) (ta1 : a1.toInt ≤ 11) (a2 : Int32) (ra2 : 0 ≤ a2.toInt) (ta2 : a2.toInt ≤ 9) (a3 : Int32) (ra3 : 0 ≤ a3.toInt) (ta3 : a3.toInt ≤ 100000208) (a4 : Int32) (ra4 : 0 ≤ a4.toInt) (ta4 : a4.toInt ≤ 100000100) (w0 : va_W) (sz : Nat) (hT : TW ksM ad cy B qr 12 w0)  : Met l yX12_firstOpen (wu yX12_firstOpen cX12_firstOpen 6 (some .int)) ({ frames := 4, cells := 0, slots := 0, locals := 80 }) (va_Pc [.ref (ad 0), .int a1, .int a2, .int a3, .int a4] (wpreS adK adV dC dI cy sz w0)) (va_Qi (P_X12_firstOpen_2 ad cy B qr s1 a1 a2 a3 a4 w0) (fun u : va_W => wpost dC dI cy (va_A w0 sz) u) (va_A w0 sz)) 0 0 (va_A w0 sz) := by
  refine Met.ofW (cc := cX12_firstOpen) (maxL := 6) (ret := (some .int)) (by decide) rfl ?_
  intro p e s m args below meth c s₁ Bk hml hv
  obtain ⟨rfl, ⟨hsz, hP, hK, hD0⟩, hE, hSR⟩ := hv
  have hx := Bk.exec
  have hb := Bk.bytes
  have hr := Bk.returns
  have hlocks := Bk.notSynchronized
  have hC : CallFix p m c cX12_firstOpen 6 s _ (wu yX12_firstOpen cX12_firstOpen 6 (some .int)) RX12 := ⟨hx, hb, hml, findClass_of_methodNamed Bk.named, atoms_spec (ws := (wu yX12_firstOpen cX12_firstOpen 6 (some .int))) Bk.pre⟩
  subst hsz
  have hD := hD0.self (sz := s.heap.size)
  generalize hAe : va_A w0 s.heap.size = A at hD hE ⊢
  have hA : ∀ q : Nat, s.heap.size ≤ q → A q := fun q h => by rw [← hAe]; exact Or.inr h
  have hw : Wd dC dI A s.heap s.heap [] w0 := ⟨hP, hD, va_S.rf⟩
  have hF : FE ksM ([] : List (Nat × Nat × Nat)) w0 w0 := FE.rf
  have hl := lv_entry ([.ref (ad 0), .int a1, .int a2, .int a3, .int a4]) (n := 6) (Nat.le_of_ble_eq_true rfl)
  rw [lg_entry_eq]
  generalize (lg_sl ([.ref (ad 0), .int a1, .int a2, .int a3, .int a4]) ++ List.replicate (6 - (lg_sl ([.ref (ad 0), .int a1, .int a2, .int a3, .int a4])).length) Slot.unset).toArray = ls at hl ⊢
  have hl : lv_has ls 6 [(0, .ref (ad 0)), (1, .int a1), (2, .int a2), (3, .int a3), (4, .int a4)] := hl
  generalize hloc : ([] : List Loc) = locs at hw ⊢
  have L3 : ∀ (n3 : Nat) (v3_5 : Int32) (H : Heap) (locs : List Loc) (ls : Array Slot), 0 ≤ a1.toInt → a1.toInt ≤ 11 → 0 ≤ a2.toInt → a2.toInt ≤ 9 → 0 ≤ a3.toInt → a3.toInt ≤ 100000208 → 0 ≤ a4.toInt → a4.toInt ≤ 100000100 → 0 ≤ v3_5.toInt → v3_5.toInt ≤ 100000208 → (100000208 - v3_5.toInt).toNat < n3 → Wd dC dI A s.heap H locs w0 → lv_has ls 6 [(0, .ref (ad 0)), (1, .int a1), (2, .int a2), (3, .int a3), (4, .int a4), (5, .int v3_5)] → W p l e ({ frames := 4, cells := 0, slots := 0, locals := 80 }) s m (List.toArray [.ref (ad 0), .int a1, .int a2, .int a3, .int a4]) below meth c H locs 0 0 (MQ below (va_Qi (P_X12_firstOpen_2 ad cy B qr s1 a1 a2 a3 a4 w0) (fun u : va_W => wpost dC dI cy A u) A) (List.toArray [.ref (ad 0), .int a1, .int a2, .int a3, .int a4]) s 0 0 A) (F0 m 3 ls []) := by
    intro n3
    induction n3 with
    | zero => intro v3_5 H locs ls r1 t2 r3 t4 r5 t6 r7 t8 r9 t10 hm3 hw hl; omega
    | succ n3 ih3 =>
      intro v3_5 H locs ls r1 t2 r3 t4 r5 t6 r7 t8 r9 t10 hm3 hw hl
      refine lv_iload hx hb dX12_firstOpen_3 (lv_at hl 5 rfl) ?_
      refine lv_iload hx hb dX12_firstOpen_5 (lv_at hl 4 rfl) ?_
      refine lv_icmp_gt (tgt := 58) hx hb dX12_firstOpen_7 (by decide) (fun c11 => ?_) (fun c11 => ?_)
      · have c11 : a4.toInt < v3_5.toInt := wk_lt.mp c11
        refine lv_ldcw (v := 100000000) hx hb hC.2.2.2.1 (hC.2.2.2.2 _ (List.mem_cons_of_mem _ uw_38_2)) dX12_firstOpen_58 ?_
        exact tk_iret hC hr hlocks hK ⟨rfl, (Or.inl ⟨(by decide), (by decide)⟩)⟩ hw dX12_firstOpen_61
      · have c11 : v3_5.toInt ≤ a4.toInt := wk_ltF c11
        refine lv_aload_n hx hb dX12_firstOpen_10 rfl (lv_at hl 0 rfl) ?_
        refine lv_iload_n hx hb dX12_firstOpen_11 rfl (lv_at hl 1 rfl) ?_
        refine lv_iload_n hx hb dX12_firstOpen_12 rfl (lv_at hl 2 rfl) ?_
        refine lv_iload hx hb dX12_firstOpen_13 (lv_at hl 5 rfl) ?_
        refine lv_bipush (v := 24) hx hb dX12_firstOpen_15 (by decide) ?_
        refine lv_idiv hx hb dX12_firstOpen_17 (by decide) ?_
        refine lv_topi (fun x12 ex12 => ?_)
        have ex12 : x12.toInt = v3_5.toInt / (24 : Int) := by rw [ex12]; exact wk_div (show 0 ≤ v3_5.toInt from r9) (show 0 < (24 : Int) by decide)
        refine tk_Vi hC hK hw hT hA hE hSR kM_at0 (by decide) rfl (k_X12_isDayFor_4 l adK adV dC dI cy ad B (by omega) (by omega) qr s1   a1 (show 0 ≤ a1.toInt from r1) (show a1.toInt ≤ 11 from t2) a2 (show 0 ≤ a2.toInt from r3) (show a2.toInt ≤ 9 from t4) x12 (show 0 ≤ x12.toInt by omega) (show x12.toInt ≤ 4166670 by omega) w0 H.size hT ) (cwV 3 hC.2.2.2.2 uV_RX12_317 rfl rfl rfl (by decide +kernel) ⟨Nat.le_of_ble_eq_true rfl, Nat.le_of_ble_eq_true rfl⟩) rfl hl.1 rfl (Nat.le_of_ble_eq_true rfl) dX12_firstOpen_18 (fun r13 w15 H locs hp14 hw => ?_)
        obtain ⟨rfl, hg23⟩ := hp14
        rcases hg23 with ⟨rfl, hq17⟩ | ⟨rfl, c18, hq19⟩ | ⟨rfl, hq20⟩ | ⟨rfl, c21, hq22⟩
        · refine lv_if_ne (tgt := 39) hx hb dX12_firstOpen_21 (by decide) (fun c => absurd (by decide) c) (fun _ => ?_)
          refine lv_iload hx hb dX12_firstOpen_24 (lv_at hl 5 rfl) ?_
          refine lv_bipush (v := 24) hx hb dX12_firstOpen_26 (by decide) ?_
          refine lv_idiv hx hb dX12_firstOpen_28 (by decide) ?_
          refine lv_topi (fun x24 ex24 => ?_)
          have ex24 : x24.toInt = v3_5.toInt / (24 : Int) := by rw [ex24]; exact wk_div (show 0 ≤ v3_5.toInt from r9) (show 0 < (24 : Int) by decide)
          refine lv_iconst (v := 1) hx hb dX12_firstOpen_29 (by decide) ?_
          refine lv_iadd hx hb dX12_firstOpen_30 ?_
          refine lv_topi (fun x25 ex25 => ?_)
          have ex25 : x25.toInt = x24.toInt + (1 : Int) := by rw [ex25]; exact wk_add (show (-2147483648) ≤ x24.toInt + (1 : Int) by omega) (show x24.toInt + (1 : Int) ≤ 2147483647 by omega)
          refine lv_bipush (v := 24) hx hb dX12_firstOpen_31 (by decide) ?_
          refine lv_imul hx hb dX12_firstOpen_33 ?_
          refine lv_topi (fun x26 ex26 => ?_)
          have ex26 : x26.toInt = x25.toInt * (24 : Int) := by rw [ex26]; exact wk_mul (show (-2147483648) ≤ x25.toInt * (24 : Int) by omega) (show x25.toInt * (24 : Int) ≤ 2147483647 by omega)
          refine lv_istore (lv' := [(5, .int x26), (0, .ref (ad 0)), (1, .int a1), (2, .int a2), (3, .int a3), (4, .int a4)]) hx hb dX12_firstOpen_34 hl (by decide) rfl (fun ls hl => ?_)
          refine lv_goto (tgt := 3) hx hb dX12_firstOpen_36 (by decide) ?_
          exact ih3 x26 H locs ls  (show 0 ≤ a1.toInt from r1) (show a1.toInt ≤ 11 from t2) (show 0 ≤ a2.toInt from r3) (show a2.toInt ≤ 9 from t4) (show 0 ≤ a3.toInt from r5) (show a3.toInt ≤ 100000208 from t6) (show 0 ≤ a4.toInt from r7) (show a4.toInt ≤ 100000100 from t8) (show 0 ≤ x26.toInt by omega) (show x26.toInt ≤ 100000208 by omega) (show (100000208 - x26.toInt).toNat < n3 by omega) hw   (lv_sub hl [1, 2, 3, 4, 5, 0] rfl)
        · refine lv_if_ne (tgt := 39) hx hb dX12_firstOpen_21 (by decide) (fun c => absurd (by decide) c) (fun _ => ?_)
          refine lv_iload hx hb dX12_firstOpen_24 (lv_at hl 5 rfl) ?_
          refine lv_bipush (v := 24) hx hb dX12_firstOpen_26 (by decide) ?_
          refine lv_idiv hx hb dX12_firstOpen_28 (by decide) ?_
          refine lv_topi (fun x27 ex27 => ?_)
          have ex27 : x27.toInt = v3_5.toInt / (24 : Int) := by rw [ex27]; exact wk_div (show 0 ≤ v3_5.toInt from r9) (show 0 < (24 : Int) by decide)
          refine lv_iconst (v := 1) hx hb dX12_firstOpen_29 (by decide) ?_
          refine lv_iadd hx hb dX12_firstOpen_30 ?_
          refine lv_topi (fun x28 ex28 => ?_)
          have ex28 : x28.toInt = x27.toInt + (1 : Int) := by rw [ex28]; exact wk_add (show (-2147483648) ≤ x27.toInt + (1 : Int) by omega) (show x27.toInt + (1 : Int) ≤ 2147483647 by omega)
          refine lv_bipush (v := 24) hx hb dX12_firstOpen_31 (by decide) ?_
          refine lv_imul hx hb dX12_firstOpen_33 ?_
          refine lv_topi (fun x29 ex29 => ?_)
          have ex29 : x29.toInt = x28.toInt * (24 : Int) := by rw [ex29]; exact wk_mul (show (-2147483648) ≤ x28.toInt * (24 : Int) by omega) (show x28.toInt * (24 : Int) ≤ 2147483647 by omega)
          refine lv_istore (lv' := [(5, .int x29), (0, .ref (ad 0)), (1, .int a1), (2, .int a2), (3, .int a3), (4, .int a4)]) hx hb dX12_firstOpen_34 hl (by decide) rfl (fun ls hl => ?_)
          refine lv_goto (tgt := 3) hx hb dX12_firstOpen_36 (by decide) ?_
          exact ih3 x29 H locs ls  (show 0 ≤ a1.toInt from r1) (show a1.toInt ≤ 11 from t2) (show 0 ≤ a2.toInt from r3) (show a2.toInt ≤ 9 from t4) (show 0 ≤ a3.toInt from r5) (show a3.toInt ≤ 100000208 from t6) (show 0 ≤ a4.toInt from r7) (show a4.toInt ≤ 100000100 from t8) (show 0 ≤ x29.toInt by omega) (show x29.toInt ≤ 100000208 by omega) (show (100000208 - x29.toInt).toNat < n3 by omega) hw   (lv_sub hl [1, 2, 3, 4, 5, 0] rfl)
        · refine lv_if_ne (tgt := 39) hx hb dX12_firstOpen_21 (by decide) (fun _ => ?_) (fun c => absurd c (by decide))
          refine lv_aload_n hx hb dX12_firstOpen_39 rfl (lv_at hl 0 rfl) ?_
          refine lv_iload_n hx hb dX12_firstOpen_40 rfl (lv_at hl 1 rfl) ?_
          refine lv_iload hx hb dX12_firstOpen_41 (lv_at hl 5 rfl) ?_
          refine tk_Vi hC hK hw hT hA hE hSR kM_at0 (by decide) rfl (k_X12_isLifted_4 l adK adV dC dI cy ad B (by omega) (by omega) qr s1   a1 (show 0 ≤ a1.toInt from r1) (show a1.toInt ≤ 11 from t2) v3_5 (show 0 ≤ v3_5.toInt from r9) (show v3_5.toInt ≤ 100000100 by omega) w0 H.size hT ) (cwV 2 hC.2.2.2.2 uV_RX12_320 rfl rfl rfl (by decide +kernel) ⟨Nat.le_of_ble_eq_true rfl, Nat.le_of_ble_eq_true rfl⟩) rfl hl.1 rfl (Nat.le_of_ble_eq_true rfl) dX12_firstOpen_43 (fun r30 w32 H locs hp31 hw => ?_)
          obtain ⟨rfl, hg38⟩ := hp31
          rcases hg38 with ⟨rfl, hq34⟩ | ⟨rfl, ⟨x35, c36, rx35, tx35⟩, hq37⟩
          · refine lv_if_eq (tgt := 55) hx hb dX12_firstOpen_46 (by decide) (fun _ => ?_) (fun c => absurd (by decide) c)
            refine lv_iload hx hb dX12_firstOpen_55 (lv_at hl 5 rfl) ?_
            exact tk_iret hC hr hlocks hK ⟨rfl, (Or.inl ⟨(show 0 ≤ v3_5.toInt from r9), (show v3_5.toInt ≤ 100000100 by omega)⟩)⟩ hw dX12_firstOpen_57
          · refine lv_if_eq (tgt := 55) hx hb dX12_firstOpen_46 (by decide) (fun c => absurd c (by decide)) (fun _ => ?_)
            obtain ⟨x39, ex39⟩ : ∃ y : Int32, y = v3_5 + Int32.ofInt 1 := ⟨_, rfl⟩
            refine lv_iinc (v := x39) (lv' := [(5, .int x39), (0, .ref (ad 0)), (1, .int a1), (2, .int a2), (3, .int a3), (4, .int a4)]) hx hb dX12_firstOpen_49 hl (k := 5) rfl ex39.symm (by decide) rfl (fun ls hl => ?_)
            have ex39 : x39.toInt = v3_5.toInt + 1 := by rw [ex39]; exact wk_add (y := 1) (show -2147483648 ≤ v3_5.toInt + 1 by omega) (show v3_5.toInt + 1 ≤ 2147483647 by omega)
            refine lv_goto (tgt := 3) hx hb dX12_firstOpen_52 (by decide) ?_
            exact ih3 x39 H locs ls  (show 0 ≤ a1.toInt from r1) (show a1.toInt ≤ 11 from t2) (show 0 ≤ a2.toInt from r3) (show a2.toInt ≤ 9 from t4) (show 0 ≤ a3.toInt from r5) (show a3.toInt ≤ 100000208 from t6) (show 0 ≤ a4.toInt from r7) (show a4.toInt ≤ 100000100 from t8) (show 0 ≤ x39.toInt by omega) (show x39.toInt ≤ 100000208 by omega) (show (100000208 - x39.toInt).toNat < n3 by omega) hw   (lv_sub hl [1, 2, 3, 4, 5, 0] rfl)
        · refine lv_if_ne (tgt := 39) hx hb dX12_firstOpen_21 (by decide) (fun _ => ?_) (fun c => absurd c (by decide))
          refine lv_aload_n hx hb dX12_firstOpen_39 rfl (lv_at hl 0 rfl) ?_
          refine lv_iload_n hx hb dX12_firstOpen_40 rfl (lv_at hl 1 rfl) ?_
          refine lv_iload hx hb dX12_firstOpen_41 (lv_at hl 5 rfl) ?_
          refine tk_Vi hC hK hw hT hA hE hSR kM_at0 (by decide) rfl (k_X12_isLifted_4 l adK adV dC dI cy ad B (by omega) (by omega) qr s1   a1 (show 0 ≤ a1.toInt from r1) (show a1.toInt ≤ 11 from t2) v3_5 (show 0 ≤ v3_5.toInt from r9) (show v3_5.toInt ≤ 100000100 by omega) w0 H.size hT ) (cwV 2 hC.2.2.2.2 uV_RX12_320 rfl rfl rfl (by decide +kernel) ⟨Nat.le_of_ble_eq_true rfl, Nat.le_of_ble_eq_true rfl⟩) rfl hl.1 rfl (Nat.le_of_ble_eq_true rfl) dX12_firstOpen_43 (fun r40 w42 H locs hp41 hw => ?_)
          obtain ⟨rfl, hg48⟩ := hp41
          rcases hg48 with ⟨rfl, hq44⟩ | ⟨rfl, ⟨x45, c46, rx45, tx45⟩, hq47⟩
          · refine lv_if_eq (tgt := 55) hx hb dX12_firstOpen_46 (by decide) (fun _ => ?_) (fun c => absurd (by decide) c)
            refine lv_iload hx hb dX12_firstOpen_55 (lv_at hl 5 rfl) ?_
            exact tk_iret hC hr hlocks hK ⟨rfl, (Or.inr ⟨(show 0 ≤ v3_5.toInt from r9), (show v3_5.toInt ≤ 100000100 by omega), c21⟩)⟩ hw dX12_firstOpen_57
          · refine lv_if_eq (tgt := 55) hx hb dX12_firstOpen_46 (by decide) (fun c => absurd c (by decide)) (fun _ => ?_)
            obtain ⟨x49, ex49⟩ : ∃ y : Int32, y = v3_5 + Int32.ofInt 1 := ⟨_, rfl⟩
            refine lv_iinc (v := x49) (lv' := [(5, .int x49), (0, .ref (ad 0)), (1, .int a1), (2, .int a2), (3, .int a3), (4, .int a4)]) hx hb dX12_firstOpen_49 hl (k := 5) rfl ex49.symm (by decide) rfl (fun ls hl => ?_)
            have ex49 : x49.toInt = v3_5.toInt + 1 := by rw [ex49]; exact wk_add (y := 1) (show -2147483648 ≤ v3_5.toInt + 1 by omega) (show v3_5.toInt + 1 ≤ 2147483647 by omega)
            refine lv_goto (tgt := 3) hx hb dX12_firstOpen_52 (by decide) ?_
            exact ih3 x49 H locs ls  (show 0 ≤ a1.toInt from r1) (show a1.toInt ≤ 11 from t2) (show 0 ≤ a2.toInt from r3) (show a2.toInt ≤ 9 from t4) (show 0 ≤ a3.toInt from r5) (show a3.toInt ≤ 100000208 from t6) (show 0 ≤ a4.toInt from r7) (show a4.toInt ≤ 100000100 from t8) (show 0 ≤ x49.toInt by omega) (show x49.toInt ≤ 100000208 by omega) (show (100000208 - x49.toInt).toNat < n3 by omega) hw   (lv_sub hl [1, 2, 3, 4, 5, 0] rfl)
  refine lv_iload_n hx hb dX12_firstOpen_0 rfl (lv_at hl 3 rfl) ?_
  refine lv_istore (lv' := [(5, .int a3), (0, .ref (ad 0)), (1, .int a1), (2, .int a2), (3, .int a3), (4, .int a4)]) hx hb dX12_firstOpen_1 hl (by decide) rfl (fun ls hl => ?_)
  exact L3 ((100000208 - a3.toInt).toNat + 1) a3 s.heap locs ls  (show 0 ≤ a1.toInt from ra1) (show a1.toInt ≤ 11 from ta1) (show 0 ≤ a2.toInt from ra2) (show a2.toInt ≤ 9 from ta2) (show 0 ≤ a3.toInt from ra3) (show a3.toInt ≤ 100000208 from ta3) (show 0 ≤ a4.toInt from ra4) (show a4.toInt ≤ 100000100 from ta4) (show 0 ≤ a3.toInt from ra3) (show a3.toInt ≤ 100000208 from ta3) (Nat.lt_succ_self _) hw   (lv_sub hl [1, 2, 3, 4, 5, 0] rfl)
abbrev P_X12_isAt_2 (ad : Nat → Nat) (cy : Nat → ClassId) (B : Int) (qr : Nat) (s1 : Int) (a1 : Int32) (a2 : Int32) (w0 : va_W) : Int32 → va_W → Prop := fun r u => w0 = u ∧ ((r = 0 ∧ (¬ mAt w0 a1.toInt a2.toInt)) ∨ (r = 1 ∧ a2.toInt ≤ 9 ∧ gi u 12 (10 * a1.toInt + 10).toNat = a2 ∧ (mAt w0 a1.toInt a2.toInt)) ∨ (r = 1 ∧ a2.toInt ≤ 9 ∧ gi u 12 (10 * a1.toInt + 11).toNat = a2 ∧ (mAt w0 a1.toInt a2.toInt)))
set_option maxHeartbeats 4000000 in
set_option maxRecDepth 100000 in
theorem k_X12_isAt_2 (l : Launch) (adK adV : Nat → Nat) (dC : Nat → ClassId) (dI : Nat → Nat → Nat) (cy : Nat → ClassId) (ad : Nat → Nat) (B : Int) (hB0 : 100000 ≤ B) (hB1 : B ≤ 1073741824) (qr : Nat) (s1 : Int)  (a1 : Int32) (ra1 : 0 ≤ a1.toInt) (ta1 : a1.toInt ≤ 11) (a2 : Int32) (ra2 : 0 ≤ a2.toInt) (ta2 : a2.toInt ≤ 12) (w0 : va_W) (sz : Nat) (hT : TW ksM ad cy B qr 12 w0)  : Met l yX12_isAt (wu yX12_isAt cX12_isAt 3 (some .boolean)) ({ frames := 2, cells := 0, slots := 0, locals := 34 }) (va_Pc [.ref (ad 0), .int a1, .int a2] (wpreS adK adV dC dI cy sz w0)) (va_Qi (P_X12_isAt_2 ad cy B qr s1 a1 a2 w0) (fun u : va_W => wpost dC dI cy (va_A w0 sz) u) (va_A w0 sz)) 0 0 (va_A w0 sz) := by
  refine Met.ofW (cc := cX12_isAt) (maxL := 3) (ret := (some .boolean)) (by decide) rfl ?_
  intro p e s m args below meth c s₁ Bk hml hv
  obtain ⟨rfl, ⟨hsz, hP, hK, hD0⟩, hE, hSR⟩ := hv
  have hx := Bk.exec
  have hb := Bk.bytes
  have hr := Bk.returns
  have hlocks := Bk.notSynchronized
  have hC : CallFix p m c cX12_isAt 3 s _ (wu yX12_isAt cX12_isAt 3 (some .boolean)) RX12 := ⟨hx, hb, hml, findClass_of_methodNamed Bk.named, atoms_spec (ws := (wu yX12_isAt cX12_isAt 3 (some .boolean))) Bk.pre⟩
  subst hsz
  have hD := hD0.self (sz := s.heap.size)
  generalize hAe : va_A w0 s.heap.size = A at hD hE ⊢
  have hA : ∀ q : Nat, s.heap.size ≤ q → A q := fun q h => by rw [← hAe]; exact Or.inr h
  have hw : Wd dC dI A s.heap s.heap [] w0 := ⟨hP, hD, va_S.rf⟩
  have hF : FE ksM ([] : List (Nat × Nat × Nat)) w0 w0 := FE.rf
  have hl := lv_entry ([.ref (ad 0), .int a1, .int a2]) (n := 3) (Nat.le_of_ble_eq_true rfl)
  rw [lg_entry_eq]
  generalize (lg_sl ([.ref (ad 0), .int a1, .int a2]) ++ List.replicate (3 - (lg_sl ([.ref (ad 0), .int a1, .int a2])).length) Slot.unset).toArray = ls at hl ⊢
  have hl : lv_has ls 3 [(0, .ref (ad 0)), (1, .int a1), (2, .int a2)] := hl
  generalize hloc : ([] : List Loc) = locs at hw ⊢
  refine lv_aload_n hx hb dX12_isAt_0 rfl (lv_at hl 0 rfl) ?_
  refine lv_iload_n hx hb dX12_isAt_1 rfl (lv_at hl 1 rfl) ?_
  refine lv_iconst (v := 0) hx hb dX12_isAt_2 (by decide) ?_
  refine tk_Vi hC hK hw hT hA hE hSR kM_at0 (by decide) rfl (k_X12_streetOf_2 l adK adV dC dI cy ad B (by omega) (by omega) qr s1   a1 (show 0 ≤ a1.toInt from ra1) (show a1.toInt ≤ 11 from ta1) w0 s.heap.size hT ) (cwV 2 hC.2.2.2.2 uV_RX12_300 rfl rfl rfl (by decide +kernel) ⟨Nat.le_of_ble_eq_true rfl, Nat.le_of_ble_eq_true rfl⟩) rfl hl.1 rfl (Nat.le_of_ble_eq_true rfl) dX12_isAt_3 (fun r1 w3 H locs hp2 hw => ?_)
  obtain ⟨rfl, hg8⟩ := hp2
  obtain ⟨g5, g6, c7⟩ := hg8
  refine lv_iload_n hx hb dX12_isAt_6 rfl (lv_at hl 2 rfl) ?_
  refine lv_icmp_eq (tgt := 20) hx hb dX12_isAt_7 (by decide) (fun c9 => ?_) (fun c9 => ?_)
  · have c9 : r1.toInt = a2.toInt := wk_eq.mp c9
    refine lv_iconst (v := 1) hx hb dX12_isAt_20 (by decide) ?_
    refine lv_goto (tgt := 25) hx hb dX12_isAt_21 (by decide) ?_
    exact tk_zret hC hr rfl hlocks hK ⟨rfl, (Or.inr (Or.inl ⟨rfl, (show a2.toInt ≤ 9 by omega), (c7.trans (wk_eq.mpr (show r1.toInt = a2.toInt by omega))), (by unfold mAt; simp only [c7]; omega)⟩))⟩ hw dX12_isAt_25
  · have c9 : ¬ r1.toInt = a2.toInt := wk_eqF c9
    refine lv_aload_n hx hb dX12_isAt_10 rfl (lv_at hl 0 rfl) ?_
    refine lv_iload_n hx hb dX12_isAt_11 rfl (lv_at hl 1 rfl) ?_
    refine lv_iconst (v := 1) hx hb dX12_isAt_12 (by decide) ?_
    refine tk_Vi hC hK hw hT hA hE hSR kM_at0 (by decide) rfl (k_X12_streetOf_3 l adK adV dC dI cy ad B (by omega) (by omega) qr s1   a1 (show 0 ≤ a1.toInt from ra1) (show a1.toInt ≤ 11 from ta1) w0 H.size hT ) (cwV 2 hC.2.2.2.2 uV_RX12_300 rfl rfl rfl (by decide +kernel) ⟨Nat.le_of_ble_eq_true rfl, Nat.le_of_ble_eq_true rfl⟩) rfl hl.1 rfl (Nat.le_of_ble_eq_true rfl) dX12_isAt_13 (fun r10 w12 H locs hp11 hw => ?_)
    obtain ⟨rfl, hg17⟩ := hp11
    obtain ⟨g14, g15, c16⟩ := hg17
    refine lv_iload_n hx hb dX12_isAt_16 rfl (lv_at hl 2 rfl) ?_
    refine lv_icmp_ne (tgt := 24) hx hb dX12_isAt_17 (by decide) (fun c18 => ?_) (fun c18 => ?_)
    · have c18 : ¬ r10.toInt = a2.toInt := wk_eqF c18
      refine lv_iconst (v := 0) hx hb dX12_isAt_24 (by decide) ?_
      exact tk_zret hC hr rfl hlocks hK ⟨rfl, (Or.inl ⟨rfl, (by unfold mAt; simp only [c7, c16]; omega)⟩)⟩ hw dX12_isAt_25
    · have c18 : r10.toInt = a2.toInt := wk_eq.mp c18
      refine lv_iconst (v := 1) hx hb dX12_isAt_20 (by decide) ?_
      refine lv_goto (tgt := 25) hx hb dX12_isAt_21 (by decide) ?_
      exact tk_zret hC hr rfl hlocks hK ⟨rfl, (Or.inr (Or.inr ⟨rfl, (show a2.toInt ≤ 9 by omega), (c16.trans (wk_eq.mpr (show r10.toInt = a2.toInt by omega))), (by unfold mAt; simp only [c7, c16]; omega)⟩))⟩ hw dX12_isAt_25
abbrev P_X12_firstOpen_3 (ad : Nat → Nat) (cy : Nat → ClassId) (B : Int) (qr : Nat) (s1 : Int) (a1 : Int32) (a2 : Int32) (a3 : Int32) (a4 : Int32) (w0 : va_W) : Int32 → va_W → Prop := fun r u => w0 = u ∧ ((0 ≤ r.toInt ∧ r.toInt ≤ 100000100) ∨ (0 ≤ r.toInt ∧ r.toInt ≤ 100000100 ∧ gi u 12 (10 * a1.toInt + 10).toNat = a2))
set_option maxHeartbeats 4000000 in
set_option maxRecDepth 100000 in
theorem k_X12_firstOpen_3 (l : Launch) (adK adV : Nat → Nat) (dC : Nat → ClassId) (dI : Nat → Nat → Nat) (cy : Nat → ClassId) (ad : Nat → Nat) (B : Int) (hB0 : 100000 ≤ B) (hB1 : B ≤ 1073741824) (qr : Nat) (s1 : Int)  (a1 : Int32) (ra1 : 0 ≤ a1.toInt) (ta1 : a1.toInt ≤ 11) (a2 : Int32) (ra2 : 0 ≤ a2.toInt) (ta2 : a2.toInt ≤ 9) (a3 : Int32) (ra3 : 0 ≤ a3.toInt) (ta3 : a3.toInt ≤ 100000100) (a4 : Int32) (ra4 : 0 ≤ a4.toInt) (ta4 : a4.toInt ≤ 100000100) (w0 : va_W) (sz : Nat) (hT : TW ksM ad cy B qr 12 w0)  : Met l yX12_firstOpen (wu yX12_firstOpen cX12_firstOpen 6 (some .int)) ({ frames := 4, cells := 0, slots := 0, locals := 80 }) (va_Pc [.ref (ad 0), .int a1, .int a2, .int a3, .int a4] (wpreS adK adV dC dI cy sz w0)) (va_Qi (P_X12_firstOpen_3 ad cy B qr s1 a1 a2 a3 a4 w0) (fun u : va_W => wpost dC dI cy (va_A w0 sz) u) (va_A w0 sz)) 0 0 (va_A w0 sz) := by
  refine Met.ofW (cc := cX12_firstOpen) (maxL := 6) (ret := (some .int)) (by decide) rfl ?_
  intro p e s m args below meth c s₁ Bk hml hv
  obtain ⟨rfl, ⟨hsz, hP, hK, hD0⟩, hE, hSR⟩ := hv
  have hx := Bk.exec
  have hb := Bk.bytes
  have hr := Bk.returns
  have hlocks := Bk.notSynchronized
  have hC : CallFix p m c cX12_firstOpen 6 s _ (wu yX12_firstOpen cX12_firstOpen 6 (some .int)) RX12 := ⟨hx, hb, hml, findClass_of_methodNamed Bk.named, atoms_spec (ws := (wu yX12_firstOpen cX12_firstOpen 6 (some .int))) Bk.pre⟩
  subst hsz
  have hD := hD0.self (sz := s.heap.size)
  generalize hAe : va_A w0 s.heap.size = A at hD hE ⊢
  have hA : ∀ q : Nat, s.heap.size ≤ q → A q := fun q h => by rw [← hAe]; exact Or.inr h
  have hw : Wd dC dI A s.heap s.heap [] w0 := ⟨hP, hD, va_S.rf⟩
  have hF : FE ksM ([] : List (Nat × Nat × Nat)) w0 w0 := FE.rf
  have hl := lv_entry ([.ref (ad 0), .int a1, .int a2, .int a3, .int a4]) (n := 6) (Nat.le_of_ble_eq_true rfl)
  rw [lg_entry_eq]
  generalize (lg_sl ([.ref (ad 0), .int a1, .int a2, .int a3, .int a4]) ++ List.replicate (6 - (lg_sl ([.ref (ad 0), .int a1, .int a2, .int a3, .int a4])).length) Slot.unset).toArray = ls at hl ⊢
  have hl : lv_has ls 6 [(0, .ref (ad 0)), (1, .int a1), (2, .int a2), (3, .int a3), (4, .int a4)] := hl
  generalize hloc : ([] : List Loc) = locs at hw ⊢
  have L3 : ∀ (n3 : Nat) (v3_5 : Int32) (H : Heap) (locs : List Loc) (ls : Array Slot), 0 ≤ a1.toInt → a1.toInt ≤ 11 → 0 ≤ a2.toInt → a2.toInt ≤ 9 → 0 ≤ a3.toInt → a3.toInt ≤ 100000100 → 0 ≤ a4.toInt → a4.toInt ≤ 100000100 → 0 ≤ v3_5.toInt → v3_5.toInt ≤ 100000104 → (100000104 - v3_5.toInt).toNat < n3 → Wd dC dI A s.heap H locs w0 → lv_has ls 6 [(0, .ref (ad 0)), (1, .int a1), (2, .int a2), (3, .int a3), (4, .int a4), (5, .int v3_5)] → W p l e ({ frames := 4, cells := 0, slots := 0, locals := 80 }) s m (List.toArray [.ref (ad 0), .int a1, .int a2, .int a3, .int a4]) below meth c H locs 0 0 (MQ below (va_Qi (P_X12_firstOpen_3 ad cy B qr s1 a1 a2 a3 a4 w0) (fun u : va_W => wpost dC dI cy A u) A) (List.toArray [.ref (ad 0), .int a1, .int a2, .int a3, .int a4]) s 0 0 A) (F0 m 3 ls []) := by
    intro n3
    induction n3 with
    | zero => intro v3_5 H locs ls r1 t2 r3 t4 r5 t6 r7 t8 r9 t10 hm3 hw hl; omega
    | succ n3 ih3 =>
      intro v3_5 H locs ls r1 t2 r3 t4 r5 t6 r7 t8 r9 t10 hm3 hw hl
      refine lv_iload hx hb dX12_firstOpen_3 (lv_at hl 5 rfl) ?_
      refine lv_iload hx hb dX12_firstOpen_5 (lv_at hl 4 rfl) ?_
      refine lv_icmp_gt (tgt := 58) hx hb dX12_firstOpen_7 (by decide) (fun c11 => ?_) (fun c11 => ?_)
      · have c11 : a4.toInt < v3_5.toInt := wk_lt.mp c11
        refine lv_ldcw (v := 100000000) hx hb hC.2.2.2.1 (hC.2.2.2.2 _ (List.mem_cons_of_mem _ uw_38_2)) dX12_firstOpen_58 ?_
        exact tk_iret hC hr hlocks hK ⟨rfl, (Or.inl ⟨(by decide), (by decide)⟩)⟩ hw dX12_firstOpen_61
      · have c11 : v3_5.toInt ≤ a4.toInt := wk_ltF c11
        refine lv_aload_n hx hb dX12_firstOpen_10 rfl (lv_at hl 0 rfl) ?_
        refine lv_iload_n hx hb dX12_firstOpen_11 rfl (lv_at hl 1 rfl) ?_
        refine lv_iload_n hx hb dX12_firstOpen_12 rfl (lv_at hl 2 rfl) ?_
        refine lv_iload hx hb dX12_firstOpen_13 (lv_at hl 5 rfl) ?_
        refine lv_bipush (v := 24) hx hb dX12_firstOpen_15 (by decide) ?_
        refine lv_idiv hx hb dX12_firstOpen_17 (by decide) ?_
        refine lv_topi (fun x12 ex12 => ?_)
        have ex12 : x12.toInt = v3_5.toInt / (24 : Int) := by rw [ex12]; exact wk_div (show 0 ≤ v3_5.toInt from r9) (show 0 < (24 : Int) by decide)
        refine tk_Vi hC hK hw hT hA hE hSR kM_at0 (by decide) rfl (k_X12_isDayFor_4 l adK adV dC dI cy ad B (by omega) (by omega) qr s1   a1 (show 0 ≤ a1.toInt from r1) (show a1.toInt ≤ 11 from t2) a2 (show 0 ≤ a2.toInt from r3) (show a2.toInt ≤ 9 from t4) x12 (show 0 ≤ x12.toInt by omega) (show x12.toInt ≤ 4166670 by omega) w0 H.size hT ) (cwV 3 hC.2.2.2.2 uV_RX12_317 rfl rfl rfl (by decide +kernel) ⟨Nat.le_of_ble_eq_true rfl, Nat.le_of_ble_eq_true rfl⟩) rfl hl.1 rfl (Nat.le_of_ble_eq_true rfl) dX12_firstOpen_18 (fun r13 w15 H locs hp14 hw => ?_)
        obtain ⟨rfl, hg23⟩ := hp14
        rcases hg23 with ⟨rfl, hq17⟩ | ⟨rfl, c18, hq19⟩ | ⟨rfl, hq20⟩ | ⟨rfl, c21, hq22⟩
        · refine lv_if_ne (tgt := 39) hx hb dX12_firstOpen_21 (by decide) (fun c => absurd (by decide) c) (fun _ => ?_)
          refine lv_iload hx hb dX12_firstOpen_24 (lv_at hl 5 rfl) ?_
          refine lv_bipush (v := 24) hx hb dX12_firstOpen_26 (by decide) ?_
          refine lv_idiv hx hb dX12_firstOpen_28 (by decide) ?_
          refine lv_topi (fun x24 ex24 => ?_)
          have ex24 : x24.toInt = v3_5.toInt / (24 : Int) := by rw [ex24]; exact wk_div (show 0 ≤ v3_5.toInt from r9) (show 0 < (24 : Int) by decide)
          refine lv_iconst (v := 1) hx hb dX12_firstOpen_29 (by decide) ?_
          refine lv_iadd hx hb dX12_firstOpen_30 ?_
          refine lv_topi (fun x25 ex25 => ?_)
          have ex25 : x25.toInt = x24.toInt + (1 : Int) := by rw [ex25]; exact wk_add (show (-2147483648) ≤ x24.toInt + (1 : Int) by omega) (show x24.toInt + (1 : Int) ≤ 2147483647 by omega)
          refine lv_bipush (v := 24) hx hb dX12_firstOpen_31 (by decide) ?_
          refine lv_imul hx hb dX12_firstOpen_33 ?_
          refine lv_topi (fun x26 ex26 => ?_)
          have ex26 : x26.toInt = x25.toInt * (24 : Int) := by rw [ex26]; exact wk_mul (show (-2147483648) ≤ x25.toInt * (24 : Int) by omega) (show x25.toInt * (24 : Int) ≤ 2147483647 by omega)
          refine lv_istore (lv' := [(5, .int x26), (0, .ref (ad 0)), (1, .int a1), (2, .int a2), (3, .int a3), (4, .int a4)]) hx hb dX12_firstOpen_34 hl (by decide) rfl (fun ls hl => ?_)
          refine lv_goto (tgt := 3) hx hb dX12_firstOpen_36 (by decide) ?_
          exact ih3 x26 H locs ls  (show 0 ≤ a1.toInt from r1) (show a1.toInt ≤ 11 from t2) (show 0 ≤ a2.toInt from r3) (show a2.toInt ≤ 9 from t4) (show 0 ≤ a3.toInt from r5) (show a3.toInt ≤ 100000100 from t6) (show 0 ≤ a4.toInt from r7) (show a4.toInt ≤ 100000100 from t8) (show 0 ≤ x26.toInt by omega) (show x26.toInt ≤ 100000104 by omega) (show (100000104 - x26.toInt).toNat < n3 by omega) hw   (lv_sub hl [1, 2, 3, 4, 5, 0] rfl)
        · refine lv_if_ne (tgt := 39) hx hb dX12_firstOpen_21 (by decide) (fun c => absurd (by decide) c) (fun _ => ?_)
          refine lv_iload hx hb dX12_firstOpen_24 (lv_at hl 5 rfl) ?_
          refine lv_bipush (v := 24) hx hb dX12_firstOpen_26 (by decide) ?_
          refine lv_idiv hx hb dX12_firstOpen_28 (by decide) ?_
          refine lv_topi (fun x27 ex27 => ?_)
          have ex27 : x27.toInt = v3_5.toInt / (24 : Int) := by rw [ex27]; exact wk_div (show 0 ≤ v3_5.toInt from r9) (show 0 < (24 : Int) by decide)
          refine lv_iconst (v := 1) hx hb dX12_firstOpen_29 (by decide) ?_
          refine lv_iadd hx hb dX12_firstOpen_30 ?_
          refine lv_topi (fun x28 ex28 => ?_)
          have ex28 : x28.toInt = x27.toInt + (1 : Int) := by rw [ex28]; exact wk_add (show (-2147483648) ≤ x27.toInt + (1 : Int) by omega) (show x27.toInt + (1 : Int) ≤ 2147483647 by omega)
          refine lv_bipush (v := 24) hx hb dX12_firstOpen_31 (by decide) ?_
          refine lv_imul hx hb dX12_firstOpen_33 ?_
          refine lv_topi (fun x29 ex29 => ?_)
          have ex29 : x29.toInt = x28.toInt * (24 : Int) := by rw [ex29]; exact wk_mul (show (-2147483648) ≤ x28.toInt * (24 : Int) by omega) (show x28.toInt * (24 : Int) ≤ 2147483647 by omega)
          refine lv_istore (lv' := [(5, .int x29), (0, .ref (ad 0)), (1, .int a1), (2, .int a2), (3, .int a3), (4, .int a4)]) hx hb dX12_firstOpen_34 hl (by decide) rfl (fun ls hl => ?_)
          refine lv_goto (tgt := 3) hx hb dX12_firstOpen_36 (by decide) ?_
          exact ih3 x29 H locs ls  (show 0 ≤ a1.toInt from r1) (show a1.toInt ≤ 11 from t2) (show 0 ≤ a2.toInt from r3) (show a2.toInt ≤ 9 from t4) (show 0 ≤ a3.toInt from r5) (show a3.toInt ≤ 100000100 from t6) (show 0 ≤ a4.toInt from r7) (show a4.toInt ≤ 100000100 from t8) (show 0 ≤ x29.toInt by omega) (show x29.toInt ≤ 100000104 by omega) (show (100000104 - x29.toInt).toNat < n3 by omega) hw   (lv_sub hl [1, 2, 3, 4, 5, 0] rfl)
        · refine lv_if_ne (tgt := 39) hx hb dX12_firstOpen_21 (by decide) (fun _ => ?_) (fun c => absurd c (by decide))
          refine lv_aload_n hx hb dX12_firstOpen_39 rfl (lv_at hl 0 rfl) ?_
          refine lv_iload_n hx hb dX12_firstOpen_40 rfl (lv_at hl 1 rfl) ?_
          refine lv_iload hx hb dX12_firstOpen_41 (lv_at hl 5 rfl) ?_
          refine tk_Vi hC hK hw hT hA hE hSR kM_at0 (by decide) rfl (k_X12_isLifted_4 l adK adV dC dI cy ad B (by omega) (by omega) qr s1   a1 (show 0 ≤ a1.toInt from r1) (show a1.toInt ≤ 11 from t2) v3_5 (show 0 ≤ v3_5.toInt from r9) (show v3_5.toInt ≤ 100000100 by omega) w0 H.size hT ) (cwV 2 hC.2.2.2.2 uV_RX12_320 rfl rfl rfl (by decide +kernel) ⟨Nat.le_of_ble_eq_true rfl, Nat.le_of_ble_eq_true rfl⟩) rfl hl.1 rfl (Nat.le_of_ble_eq_true rfl) dX12_firstOpen_43 (fun r30 w32 H locs hp31 hw => ?_)
          obtain ⟨rfl, hg38⟩ := hp31
          rcases hg38 with ⟨rfl, hq34⟩ | ⟨rfl, ⟨x35, c36, rx35, tx35⟩, hq37⟩
          · refine lv_if_eq (tgt := 55) hx hb dX12_firstOpen_46 (by decide) (fun _ => ?_) (fun c => absurd (by decide) c)
            refine lv_iload hx hb dX12_firstOpen_55 (lv_at hl 5 rfl) ?_
            exact tk_iret hC hr hlocks hK ⟨rfl, (Or.inl ⟨(show 0 ≤ v3_5.toInt from r9), (show v3_5.toInt ≤ 100000100 by omega)⟩)⟩ hw dX12_firstOpen_57
          · refine lv_if_eq (tgt := 55) hx hb dX12_firstOpen_46 (by decide) (fun c => absurd c (by decide)) (fun _ => ?_)
            obtain ⟨x39, ex39⟩ : ∃ y : Int32, y = v3_5 + Int32.ofInt 1 := ⟨_, rfl⟩
            refine lv_iinc (v := x39) (lv' := [(5, .int x39), (0, .ref (ad 0)), (1, .int a1), (2, .int a2), (3, .int a3), (4, .int a4)]) hx hb dX12_firstOpen_49 hl (k := 5) rfl ex39.symm (by decide) rfl (fun ls hl => ?_)
            have ex39 : x39.toInt = v3_5.toInt + 1 := by rw [ex39]; exact wk_add (y := 1) (show -2147483648 ≤ v3_5.toInt + 1 by omega) (show v3_5.toInt + 1 ≤ 2147483647 by omega)
            refine lv_goto (tgt := 3) hx hb dX12_firstOpen_52 (by decide) ?_
            exact ih3 x39 H locs ls  (show 0 ≤ a1.toInt from r1) (show a1.toInt ≤ 11 from t2) (show 0 ≤ a2.toInt from r3) (show a2.toInt ≤ 9 from t4) (show 0 ≤ a3.toInt from r5) (show a3.toInt ≤ 100000100 from t6) (show 0 ≤ a4.toInt from r7) (show a4.toInt ≤ 100000100 from t8) (show 0 ≤ x39.toInt by omega) (show x39.toInt ≤ 100000104 by omega) (show (100000104 - x39.toInt).toNat < n3 by omega) hw   (lv_sub hl [1, 2, 3, 4, 5, 0] rfl)
        · refine lv_if_ne (tgt := 39) hx hb dX12_firstOpen_21 (by decide) (fun _ => ?_) (fun c => absurd c (by decide))
          refine lv_aload_n hx hb dX12_firstOpen_39 rfl (lv_at hl 0 rfl) ?_
          refine lv_iload_n hx hb dX12_firstOpen_40 rfl (lv_at hl 1 rfl) ?_
          refine lv_iload hx hb dX12_firstOpen_41 (lv_at hl 5 rfl) ?_
          refine tk_Vi hC hK hw hT hA hE hSR kM_at0 (by decide) rfl (k_X12_isLifted_4 l adK adV dC dI cy ad B (by omega) (by omega) qr s1   a1 (show 0 ≤ a1.toInt from r1) (show a1.toInt ≤ 11 from t2) v3_5 (show 0 ≤ v3_5.toInt from r9) (show v3_5.toInt ≤ 100000100 by omega) w0 H.size hT ) (cwV 2 hC.2.2.2.2 uV_RX12_320 rfl rfl rfl (by decide +kernel) ⟨Nat.le_of_ble_eq_true rfl, Nat.le_of_ble_eq_true rfl⟩) rfl hl.1 rfl (Nat.le_of_ble_eq_true rfl) dX12_firstOpen_43 (fun r40 w42 H locs hp41 hw => ?_)
          obtain ⟨rfl, hg48⟩ := hp41
          rcases hg48 with ⟨rfl, hq44⟩ | ⟨rfl, ⟨x45, c46, rx45, tx45⟩, hq47⟩
          · refine lv_if_eq (tgt := 55) hx hb dX12_firstOpen_46 (by decide) (fun _ => ?_) (fun c => absurd (by decide) c)
            refine lv_iload hx hb dX12_firstOpen_55 (lv_at hl 5 rfl) ?_
            exact tk_iret hC hr hlocks hK ⟨rfl, (Or.inr ⟨(show 0 ≤ v3_5.toInt from r9), (show v3_5.toInt ≤ 100000100 by omega), c21⟩)⟩ hw dX12_firstOpen_57
          · refine lv_if_eq (tgt := 55) hx hb dX12_firstOpen_46 (by decide) (fun c => absurd c (by decide)) (fun _ => ?_)
            obtain ⟨x49, ex49⟩ : ∃ y : Int32, y = v3_5 + Int32.ofInt 1 := ⟨_, rfl⟩
            refine lv_iinc (v := x49) (lv' := [(5, .int x49), (0, .ref (ad 0)), (1, .int a1), (2, .int a2), (3, .int a3), (4, .int a4)]) hx hb dX12_firstOpen_49 hl (k := 5) rfl ex49.symm (by decide) rfl (fun ls hl => ?_)
            have ex49 : x49.toInt = v3_5.toInt + 1 := by rw [ex49]; exact wk_add (y := 1) (show -2147483648 ≤ v3_5.toInt + 1 by omega) (show v3_5.toInt + 1 ≤ 2147483647 by omega)
            refine lv_goto (tgt := 3) hx hb dX12_firstOpen_52 (by decide) ?_
            exact ih3 x49 H locs ls  (show 0 ≤ a1.toInt from r1) (show a1.toInt ≤ 11 from t2) (show 0 ≤ a2.toInt from r3) (show a2.toInt ≤ 9 from t4) (show 0 ≤ a3.toInt from r5) (show a3.toInt ≤ 100000100 from t6) (show 0 ≤ a4.toInt from r7) (show a4.toInt ≤ 100000100 from t8) (show 0 ≤ x49.toInt by omega) (show x49.toInt ≤ 100000104 by omega) (show (100000104 - x49.toInt).toNat < n3 by omega) hw   (lv_sub hl [1, 2, 3, 4, 5, 0] rfl)
  refine lv_iload_n hx hb dX12_firstOpen_0 rfl (lv_at hl 3 rfl) ?_
  refine lv_istore (lv' := [(5, .int a3), (0, .ref (ad 0)), (1, .int a1), (2, .int a2), (3, .int a3), (4, .int a4)]) hx hb dX12_firstOpen_1 hl (by decide) rfl (fun ls hl => ?_)
  exact L3 ((100000104 - a3.toInt).toNat + 1) a3 s.heap locs ls  (show 0 ≤ a1.toInt from ra1) (show a1.toInt ≤ 11 from ta1) (show 0 ≤ a2.toInt from ra2) (show a2.toInt ≤ 9 from ta2) (show 0 ≤ a3.toInt from ra3) (show a3.toInt ≤ 100000100 from ta3) (show 0 ≤ a4.toInt from ra4) (show a4.toInt ≤ 100000100 from ta4) (show 0 ≤ a3.toInt from ra3) (show a3.toInt ≤ 100000104 from Int.le_trans ta3 (by decide)) (Nat.lt_succ_self _) hw   (lv_sub hl [1, 2, 3, 4, 5, 0] rfl)
