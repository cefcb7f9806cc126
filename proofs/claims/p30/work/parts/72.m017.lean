abbrev P_X12_doing_1 (ad : Nat → Nat) (cy : Nat → ClassId) (B : Int) (qr : Nat) (s1 : Int) (a1 : Int32) (w0 : va_W) : Int32 → va_W → Prop := fun r u => TW ksM ad cy B qr 12 u ∧ FE ksM [(12, 24, 24), (69, 0, 64), (70, 0, 10)] w0 u ∧ ((r.toInt ≤ (-1)) ∨ (3 ≤ r.toInt) ∨ (r = 0 ∧ (∃ y : Int32, gi u 0 31 = y ∧ 0 ≤ y.toInt ∧ y.toInt ≤ 11)) ∨ (r = 1 ∧ (∃ y : Int32, gi u 12 1 = y ∧ 1 ≤ y.toInt ∧ y.toInt ≤ 12) ∧ (mAS u a1.toInt)) ∨ (r = 2 ∧ (∃ y : Int32, gi u 0 30 = y ∧ 0 ≤ y.toInt ∧ y.toInt ≤ 0)) ∨ (r = 3))
set_option maxHeartbeats 4000000 in
set_option maxRecDepth 100000 in
theorem k_X12_doing_1 (l : Launch) (adK adV : Nat → Nat) (dC : Nat → ClassId) (dI : Nat → Nat → Nat) (cy : Nat → ClassId) (ad : Nat → Nat) (B : Int) (hB0 : 100000 ≤ B) (hB1 : B ≤ 1073741824) (qr : Nat) (s1 : Int)  (a1 : Int32) (ra1 : 0 ≤ a1.toInt) (ta1 : a1.toInt ≤ 3) (w0 : va_W) (sz : Nat) (hT : TW ksM ad cy B qr 12 w0) (hRW : RW w0) : Met l yX12_doing (wu yX12_doing cX12_doing 5 (some .int)) ({ frames := 7, cells := 0, slots := 0, locals := 147 }) (va_Pc [.ref (ad 0), .int a1] (wpreS adK adV dC dI cy sz w0)) (va_Qi (P_X12_doing_1 ad cy B qr s1 a1 w0) (fun u : va_W => wpost dC dI cy (va_A w0 sz) u) (va_A w0 sz)) 0 0 (va_A w0 sz) := by
  refine Met.ofW (cc := cX12_doing) (maxL := 5) (ret := (some .int)) (by decide) rfl ?_
  intro p e s m args below meth c s₁ Bk hml hv
  obtain ⟨rfl, ⟨hsz, hP, hK, hD0⟩, hE, hSR⟩ := hv
  have hx := Bk.exec
  have hb := Bk.bytes
  have hr := Bk.returns
  have hlocks := Bk.notSynchronized
  have hC : CallFix p m c cX12_doing 5 s _ (wu yX12_doing cX12_doing 5 (some .int)) RX12 := ⟨hx, hb, hml, findClass_of_methodNamed Bk.named, atoms_spec (ws := (wu yX12_doing cX12_doing 5 (some .int))) Bk.pre⟩
  subst hsz
  have hD := hD0.self (sz := s.heap.size)
  generalize hAe : va_A w0 s.heap.size = A at hD hE ⊢
  have hA : ∀ q : Nat, s.heap.size ≤ q → A q := fun q h => by rw [← hAe]; exact Or.inr h
  have hw : Wd dC dI A s.heap s.heap [] w0 := ⟨hP, hD, va_S.rf⟩
  have hF : FE ksM [(12, 24, 24), (69, 0, 64), (70, 0, 10)] w0 w0 := FE.rf
  have hl := lv_entry ([.ref (ad 0), .int a1]) (n := 5) (Nat.le_of_ble_eq_true rfl)
  rw [lg_entry_eq]
  generalize (lg_sl ([.ref (ad 0), .int a1]) ++ List.replicate (5 - (lg_sl ([.ref (ad 0), .int a1])).length) Slot.unset).toArray = ls at hl ⊢
  have hl : lv_has ls 5 [(0, .ref (ad 0)), (1, .int a1)] := hl
  generalize hloc : ([] : List Loc) = locs at hw ⊢
  have hinX12 : ∀ w ∈ u_ws RX12 TX12 42, w ∈ (wu yX12_doing cX12_doing 5 (some .int)) := fun _ h => List.mem_cons_of_mem _ (up_71 h)
  have L32 : ∀ (n32 : Nat) (v32_2 : Int32) (v32_3 : Int32) (f32_0_30 : Int32) (f32_12__9_a1_toInt_219_toNat : Int32) (H : Heap) (locs : List Loc) (ls : Array Slot) (w1 : va_W), 0 ≤ a1.toInt → a1.toInt ≤ 3 → 0 ≤ v32_2.toInt → v32_2.toInt ≤ 5 → 0 ≤ v32_3.toInt → v32_3.toInt ≤ 12 → 0 ≤ f32_0_30.toInt → f32_0_30.toInt ≤ 1 → 0 ≤ f32_12__9_a1_toInt_219_toNat.toInt → f32_12__9_a1_toInt_219_toNat.toInt ≤ 5 → (12 - v32_3.toInt).toNat < n32 → Wd dC dI A s.heap H locs w1 → TW ksM ad cy B qr 12 w1 → FE ksM [(12, 24, 24), (69, 0, 64), (70, 0, 10)] w0 w1 → RW w1 → gi w1 0 30 = f32_0_30 → gi w1 12 (9 * a1.toInt + 219).toNat = f32_12__9_a1_toInt_219_toNat → lv_has ls 5 [(0, .ref (ad 0)), (1, .int a1), (2, .int v32_2), (3, .int v32_3)] → W p l e ({ frames := 7, cells := 0, slots := 0, locals := 147 }) s m (List.toArray [.ref (ad 0), .int a1]) below meth c H locs 0 0 (MQ below (va_Qi (P_X12_doing_1 ad cy B qr s1 a1 w0) (fun u : va_W => wpost dC dI cy A u) A) (List.toArray [.ref (ad 0), .int a1]) s 0 0 A) (F0 m 32 ls []) := by
    intro n32
    induction n32 with
    | zero => intro v32_2 v32_3 f32_0_30 f32_12__9_a1_toInt_219_toNat H locs ls w1 r2 t3 r4 t5 r6 t7 r8 t9 r11 t12 hm32 hw hT hF hRW c10 c13 hl; omega
    | succ n32 ih32 =>
      intro v32_2 v32_3 f32_0_30 f32_12__9_a1_toInt_219_toNat H locs ls w1 r2 t3 r4 t5 r6 t7 r8 t9 r11 t12 hm32 hw hT hF hRW c10 c13 hl
      have J115 : ∀ (v115_4 : Int32) (f115_4__36_v32_2_toInt_3_v32_3_toInt_0_toNat : Int32) (f115_5__v32_2_toInt_toNat : Int32) (H : Heap) (locs : List Loc) (ls : Array Slot) (w14 : va_W), 0 ≤ a1.toInt → a1.toInt ≤ 3 → 0 ≤ v32_2.toInt → v32_2.toInt ≤ 5 → 0 ≤ v32_3.toInt → v32_3.toInt ≤ 11 → 0 ≤ v115_4.toInt → v115_4.toInt ≤ 213 → 0 ≤ f32_0_30.toInt → f32_0_30.toInt ≤ 1 → 0 ≤ f32_12__9_a1_toInt_219_toNat.toInt → f32_12__9_a1_toInt_219_toNat.toInt ≤ 5 → 1 ≤ f115_5__v32_2_toInt_toNat.toInt → f115_5__v32_2_toInt_toNat.toInt ≤ 12 → Wd dC dI A s.heap H locs w14 → TW ksM ad cy B qr 12 w14 → FE ksM [(12, 24, 24), (69, 0, 64), (70, 0, 10)] w0 w14 → RW w14 → gi w14 0 30 = f32_0_30 → gi w14 12 (9 * a1.toInt + 219).toNat = f32_12__9_a1_toInt_219_toNat → gi w14 4 (36 * v32_2.toInt + 3 * v32_3.toInt + 0).toNat = f115_4__36_v32_2_toInt_3_v32_3_toInt_0_toNat → gi w14 5 (v32_2.toInt).toNat = f115_5__v32_2_toInt_toNat → lv_has ls 5 [(0, .ref (ad 0)), (1, .int a1), (2, .int v32_2), (3, .int v32_3), (4, .int v115_4)] → W p l e ({ frames := 7, cells := 0, slots := 0, locals := 147 }) s m (List.toArray [.ref (ad 0), .int a1]) below meth c H locs 0 0 (MQ below (va_Qi (P_X12_doing_1 ad cy B qr s1 a1 w0) (fun u : va_W => wpost dC dI cy A u) A) (List.toArray [.ref (ad 0), .int a1]) s 0 0 A) (F0 m 115 ls []) := by
        intro v115_4 f115_4__36_v32_2_toInt_3_v32_3_toInt_0_toNat f115_5__v32_2_toInt_toNat H locs ls w14 r15 t16 r17 t18 r19 t20 r21 t22 r23 t24 r26 t27 r30 t31 hw hT hF hRW c25 c28 c29 c32 hl
        obtain ⟨x33, ex33⟩ : ∃ y : Int32, y = v32_3 + Int32.ofInt 1 := ⟨_, rfl⟩
        refine lv_iinc (v := x33) (lv' := [(3, .int x33), (0, .ref (ad 0)), (1, .int a1), (2, .int v32_2), (4, .int v115_4)]) hx hb dX12_doing_115 hl (k := 3) rfl ex33.symm (by decide) rfl (fun ls hl => ?_)
        have ex33 : x33.toInt = v32_3.toInt + 1 := by rw [ex33]; exact wk_add (y := 1) (show -2147483648 ≤ v32_3.toInt + 1 by omega) (show v32_3.toInt + 1 ≤ 2147483647 by omega)
        refine lv_goto (tgt := 32) hx hb dX12_doing_118 (by decide) ?_
        exact ih32 v32_2 x33 f32_0_30 f32_12__9_a1_toInt_219_toNat H locs ls w14 (show 0 ≤ a1.toInt from r15) (show a1.toInt ≤ 3 from t16) (show 0 ≤ v32_2.toInt from r17) (show v32_2.toInt ≤ 5 from t18) (show 0 ≤ x33.toInt by first | with_reducible assumption | omega) (show x33.toInt ≤ 12 by first | with_reducible assumption | omega) (show 0 ≤ f32_0_30.toInt from r23) (show f32_0_30.toInt ≤ 1 from t24) (show 0 ≤ f32_12__9_a1_toInt_219_toNat.toInt from r26) (show f32_12__9_a1_toInt_219_toNat.toInt ≤ 5 from t27) (show (12 - x33.toInt).toNat < n32 by first | exact tn_lt hm32 (by omega) (by omega) | omega) hw hT hF hRW c25 c28 (lv_sub hl [1, 2, 3, 0] rfl)
      refine lv_iload_n hx hb dX12_doing_32 rfl (lv_at hl 3 rfl) ?_
      refine lv_aload_n hx hb dX12_doing_33 rfl (lv_at hl 0 rfl) ?_
      refine tk_getA hC hK hw hT hinX12 kM_at0 (by decide) rfl 6 (by decide) (List.mem_cons_of_mem _ uw_6_18) rfl rfl dX12_doing_34 ?_
      refine lv_iload_n hx hb dX12_doing_37 rfl (lv_at hl 2 rfl) ?_
      refine tk_iald hC hK hw hT kM_at5 rfl rfl (show 0 ≤ v32_2.toInt from r4) (show v32_2.toInt < 6 from Int.lt_of_le_of_lt t5 (by decide)) dX12_doing_38 (fun x34 c35 rx34 tx34 => ?_)
      have c35 : gi w1 5 (v32_2.toInt).toNat = x34 := (congrArg (gi w1 5) (congrArg Int.toNat (show v32_2.toInt = v32_2.toInt from rfl))).trans c35
      refine lv_icmp_ge (tgt := 121) hx hb dX12_doing_39 (by decide) (fun c36 => ?_) (fun c36 => ?_)
      · have c36 : x34.toInt ≤ v32_3.toInt := wk_le.mp c36
        refine lv_iconst (v := 3) hx hb dX12_doing_121 (by decide) ?_
        exact tk_iret hC hr hlocks hK ⟨hT, hF, (Or.inr (Or.inr (Or.inr (Or.inr (Or.inr rfl)))))⟩ hw dX12_doing_122
      · have c36 : v32_3.toInt < x34.toInt := wk_leF c36
        refine lv_bipush (v := 36) hx hb dX12_doing_42 (by decide) ?_
        refine lv_iload_n hx hb dX12_doing_44 rfl (lv_at hl 2 rfl) ?_
        refine lv_imul hx hb dX12_doing_45 ?_
        refine lv_topi (fun x37 ex37 => ?_)
        have ex37 : x37.toInt = (36 : Int) * v32_2.toInt := by rw [ex37]; exact wk_mul (show (-2147483648) ≤ (36 : Int) * v32_2.toInt by omega) (show (36 : Int) * v32_2.toInt ≤ 2147483647 by omega)
        refine lv_iconst (v := 3) hx hb dX12_doing_46 (by decide) ?_
        refine lv_iload_n hx hb dX12_doing_47 rfl (lv_at hl 3 rfl) ?_
        refine lv_imul hx hb dX12_doing_48 ?_
        refine lv_topi (fun x38 ex38 => ?_)
        have ex38 : x38.toInt = (3 : Int) * v32_3.toInt := by rw [ex38]; exact wk_mul (show (-2147483648) ≤ (3 : Int) * v32_3.toInt by omega) (show (3 : Int) * v32_3.toInt ≤ 2147483647 by omega)
        refine lv_iadd hx hb dX12_doing_49 ?_
        refine lv_topi (fun x39 ex39 => ?_)
        have ex39 : x39.toInt = x37.toInt + x38.toInt := by rw [ex39]; exact wk_add (show (-2147483648) ≤ x37.toInt + x38.toInt by omega) (show x37.toInt + x38.toInt ≤ 2147483647 by omega)
        refine lv_istore (lv' := [(4, .int x39), (0, .ref (ad 0)), (1, .int a1), (2, .int v32_2), (3, .int v32_3)]) hx hb dX12_doing_50 hl (by decide) rfl (fun ls hl => ?_)
        refine lv_aload_n hx hb dX12_doing_52 rfl (lv_at hl 1 rfl) ?_
        refine lv_iload_n hx hb dX12_doing_53 rfl (lv_at hl 2 rfl) ?_
        refine lv_aload_n hx hb dX12_doing_54 rfl (lv_at hl 1 rfl) ?_
        refine tk_getA hC hK hw hT hinX12 kM_at0 (by decide) rfl 5 (by decide) (List.mem_cons_of_mem _ uw_6_17) rfl rfl dX12_doing_55 ?_
        refine lv_iload hx hb dX12_doing_58 (lv_at hl 0 rfl) ?_
        refine tk_iald hC hK hw hT kM_at4 rfl rfl (show 0 ≤ x39.toInt by first | with_reducible assumption | omega) (show x39.toInt < 216 by first | with_reducible assumption | omega) dX12_doing_60 (fun x40 c41 rx40 tx40 => ?_)
        have c41 : gi w1 4 (36 * v32_2.toInt + 3 * v32_3.toInt + 0).toNat = x40 := (congrArg (gi w1 4) (congrArg Int.toNat (show 36 * v32_2.toInt + 3 * v32_3.toInt + 0 = x39.toInt by first | exact Int.le_antisymm (by omega) (by omega) | omega))).trans c41
        refine tk_Vi hC hK hw hT hA hE hSR kM_at0 (by decide) rfl (k_X12_mayDo_1 l adK adV dC dI cy ad B hB0 (Int.le_trans hB1 (by decide)) qr s1   a1 (show 0 ≤ a1.toInt from r2) (show a1.toInt ≤ 3 from t3) x40 w1 H.size hT ) (cwV 2 hC.2.2.2.2 uV_RX12_398 rfl rfl rfl (by decide +kernel) ⟨Nat.le_of_ble_eq_true rfl, Nat.le_of_ble_eq_true rfl⟩) rfl hl.1 rfl (Nat.le_of_ble_eq_true rfl) dX12_doing_61 (fun r42 w44 H locs hp43 hw => ?_)
        obtain ⟨rfl, hg65⟩ := hp43
        rcases hg65 with rfl | ⟨rfl, g46, g47⟩ | ⟨rfl, g48, g49⟩ | ⟨rfl, g50⟩ | ⟨rfl, g51, g52, ⟨x53, c54, rx53, tx53⟩⟩ | ⟨rfl, g55, g56, ⟨x57, c58, rx57, tx57⟩, hq59⟩ | ⟨rfl, g60, g61, ⟨x62, c63, rx62, tx62⟩⟩ | ⟨rfl, g64⟩
        · refine lv_if_eq (tgt := 115) hx hb dX12_doing_64 (by decide) (fun _ => ?_) (fun c => absurd (by decide) c)
          exact J115 x39 x40 x34 H locs ls w1 (show 0 ≤ a1.toInt from r2) (show a1.toInt ≤ 3 from t3) (show 0 ≤ v32_2.toInt from r4) (show v32_2.toInt ≤ 5 from t5) (show 0 ≤ v32_3.toInt from r6) (show v32_3.toInt ≤ 11 by first | with_reducible assumption | omega) (show 0 ≤ x39.toInt by first | with_reducible assumption | omega) (show x39.toInt ≤ 213 by first | with_reducible assumption | omega) (show 0 ≤ f32_0_30.toInt from r8) (show f32_0_30.toInt ≤ 1 from t9) (show 0 ≤ f32_12__9_a1_toInt_219_toNat.toInt from r11) (show f32_12__9_a1_toInt_219_toNat.toInt ≤ 5 from t12) (show 1 ≤ x34.toInt by first | with_reducible assumption | omega) (show x34.toInt ≤ 12 from tx34)  hw hT hF hRW c10 c13 c41 c35 (lv_sub hl [1, 2, 3, 4, 0] rfl)
        · refine lv_if_eq (tgt := 115) hx hb dX12_doing_64 (by decide) (fun _ => ?_) (fun c => absurd (by decide) c)
          exact J115 x39 x40 x34 H locs ls w1 (show 0 ≤ a1.toInt from r2) (show a1.toInt ≤ 3 from t3) (show 0 ≤ v32_2.toInt from r4) (show v32_2.toInt ≤ 5 from t5) (show 0 ≤ v32_3.toInt from r6) (show v32_3.toInt ≤ 11 by first | with_reducible assumption | omega) (show 0 ≤ x39.toInt by first | with_reducible assumption | omega) (show x39.toInt ≤ 213 by first | with_reducible assumption | omega) (show 0 ≤ f32_0_30.toInt from r8) (show f32_0_30.toInt ≤ 1 from t9) (show 0 ≤ f32_12__9_a1_toInt_219_toNat.toInt from r11) (show f32_12__9_a1_toInt_219_toNat.toInt ≤ 5 from t12) (show 1 ≤ x34.toInt by first | with_reducible assumption | omega) (show x34.toInt ≤ 12 from tx34)  hw hT hF hRW c10 c13 c41 c35 (lv_sub hl [1, 2, 3, 4, 0] rfl)
        · refine lv_if_eq (tgt := 115) hx hb dX12_doing_64 (by decide) (fun _ => ?_) (fun c => absurd (by decide) c)
          exact J115 x39 x40 x34 H locs ls w1 (show 0 ≤ a1.toInt from r2) (show a1.toInt ≤ 3 from t3) (show 0 ≤ v32_2.toInt from r4) (show v32_2.toInt ≤ 5 from t5) (show 0 ≤ v32_3.toInt from r6) (show v32_3.toInt ≤ 11 by first | with_reducible assumption | omega) (show 0 ≤ x39.toInt by first | with_reducible assumption | omega) (show x39.toInt ≤ 213 by first | with_reducible assumption | omega) (show 0 ≤ f32_0_30.toInt from r8) (show f32_0_30.toInt ≤ 1 from t9) (show 0 ≤ f32_12__9_a1_toInt_219_toNat.toInt from r11) (show f32_12__9_a1_toInt_219_toNat.toInt ≤ 5 from t12) (show 1 ≤ x34.toInt by first | with_reducible assumption | omega) (show x34.toInt ≤ 12 from tx34)  hw hT hF hRW c10 c13 c41 c35 (lv_sub hl [1, 2, 3, 4, 0] rfl)
        · refine lv_if_eq (tgt := 115) hx hb dX12_doing_64 (by decide) (fun c => absurd c (by decide)) (fun _ => ?_)
          refine lv_aload_n hx hb dX12_doing_67 rfl (lv_at hl 1 rfl) ?_
          refine tk_getA hC hK hw hT hinX12 kM_at0 (by decide) rfl 5 (by decide) (List.mem_cons_of_mem _ uw_6_17) rfl rfl dX12_doing_68 ?_
          refine lv_iload hx hb dX12_doing_71 (lv_at hl 0 rfl) ?_
          refine lv_iconst (v := 1) hx hb dX12_doing_73 (by decide) ?_
          refine lv_iadd hx hb dX12_doing_74 ?_
          refine lv_topi (fun x66 ex66 => ?_)
          have ex66 : x66.toInt = x39.toInt + (1 : Int) := by rw [ex66]; exact wk_add (show (-2147483648) ≤ x39.toInt + (1 : Int) by omega) (show x39.toInt + (1 : Int) ≤ 2147483647 by omega)
          refine tk_iald hC hK hw hT kM_at4 rfl rfl (show 0 ≤ x66.toInt by first | with_reducible assumption | omega) (show x66.toInt < 216 by first | with_reducible assumption | omega) dX12_doing_75 (fun x67 c68 rx67 tx67 => ?_)
          have c68 : gi w1 4 (36 * v32_2.toInt + 3 * v32_3.toInt + 1).toNat = x67 := (congrArg (gi w1 4) (congrArg Int.toNat (show 36 * v32_2.toInt + 3 * v32_3.toInt + 1 = x66.toInt by first | exact Int.le_antisymm (by omega) (by omega) | omega))).trans c68
          refine lv_if_lt (tgt := 107) hx hb dX12_doing_76 (by decide) (fun c69 => ?_) (fun c69 => ?_)
          · have c69 : x67.toInt < (0 : Int) := wk_lt.mp c69
            refine lv_aload_n hx hb dX12_doing_107 rfl (lv_at hl 1 rfl) ?_
            refine tk_getA hC hK hw hT hinX12 kM_at0 (by decide) rfl 5 (by decide) (List.mem_cons_of_mem _ uw_6_17) rfl rfl dX12_doing_108 ?_
            refine lv_iload hx hb dX12_doing_111 (lv_at hl 0 rfl) ?_
            refine tk_iald hC hK hw hT kM_at4 rfl rfl (show 0 ≤ x39.toInt by first | with_reducible assumption | omega) (show x39.toInt < 216 by first | with_reducible assumption | omega) dX12_doing_113 (fun x70 c71 rx70 tx70 => ?_)
            have c71 : gi w1 4 (36 * v32_2.toInt + 3 * v32_3.toInt + 0).toNat = x70 := (congrArg (gi w1 4) (congrArg Int.toNat (show 36 * v32_2.toInt + 3 * v32_3.toInt + 0 = x39.toInt by first | exact Int.le_antisymm (by omega) (by omega) | omega))).trans c71
            refine wk_top x40 (c71.symm.trans c41) ?_
            exact tk_iret hC hr hlocks hK ⟨hT, hF, (Or.inl (show x40.toInt ≤ (-1) by first | with_reducible assumption | omega))⟩ hw dX12_doing_114
          · have c69 : (0 : Int) ≤ x67.toInt := wk_ltF c69
            refine lv_aload_n hx hb dX12_doing_79 rfl (lv_at hl 1 rfl) ?_
            refine lv_iload_n hx hb dX12_doing_80 rfl (lv_at hl 3 rfl) ?_
            refine lv_aload_n hx hb dX12_doing_81 rfl (lv_at hl 1 rfl) ?_
            refine tk_getA hC hK hw hT hinX12 kM_at0 (by decide) rfl 5 (by decide) (List.mem_cons_of_mem _ uw_6_17) rfl rfl dX12_doing_82 ?_
            refine lv_iload hx hb dX12_doing_85 (lv_at hl 0 rfl) ?_
            refine lv_iconst (v := 1) hx hb dX12_doing_87 (by decide) ?_
            refine lv_iadd hx hb dX12_doing_88 ?_
            refine lv_topi (fun x72 ex72 => ?_)
            have ex72 : x72.toInt = x39.toInt + (1 : Int) := by rw [ex72]; exact wk_add (show (-2147483648) ≤ x39.toInt + (1 : Int) by omega) (show x39.toInt + (1 : Int) ≤ 2147483647 by omega)
            refine tk_iald hC hK hw hT kM_at4 rfl rfl (show 0 ≤ x72.toInt by first | with_reducible assumption | omega) (show x72.toInt < 216 by first | with_reducible assumption | omega) dX12_doing_89 (fun x73 c74 rx73 tx73 => ?_)
            have c74 : gi w1 4 (36 * v32_2.toInt + 3 * v32_3.toInt + 1).toNat = x73 := (congrArg (gi w1 4) (congrArg Int.toNat (show 36 * v32_2.toInt + 3 * v32_3.toInt + 1 = x72.toInt by first | exact Int.le_antisymm (by omega) (by omega) | omega))).trans c74
            refine wk_top x67 (c74.symm.trans c68) ?_
            refine lv_aload_n hx hb dX12_doing_90 rfl (lv_at hl 1 rfl) ?_
            refine tk_getA hC hK hw hT hinX12 kM_at0 (by decide) rfl 5 (by decide) (List.mem_cons_of_mem _ uw_6_17) rfl rfl dX12_doing_91 ?_
            refine lv_iload hx hb dX12_doing_94 (lv_at hl 0 rfl) ?_
            refine lv_iconst (v := 2) hx hb dX12_doing_96 (by decide) ?_
            refine lv_iadd hx hb dX12_doing_97 ?_
            refine lv_topi (fun x75 ex75 => ?_)
            have ex75 : x75.toInt = x39.toInt + (2 : Int) := by rw [ex75]; exact wk_add (show (-2147483648) ≤ x39.toInt + (2 : Int) by omega) (show x39.toInt + (2 : Int) ≤ 2147483647 by omega)
            refine tk_iald hC hK hw hT kM_at4 rfl rfl (show 0 ≤ x75.toInt by first | with_reducible assumption | omega) (show x75.toInt < 216 by first | with_reducible assumption | omega) dX12_doing_98 (fun x76 c77 rx76 tx76 => ?_)
            have c77 : gi w1 4 (36 * v32_2.toInt + 3 * v32_3.toInt + 2).toNat = x76 := (congrArg (gi w1 4) (congrArg Int.toNat (show 36 * v32_2.toInt + 3 * v32_3.toInt + 2 = x75.toInt by first | exact Int.le_antisymm (by omega) (by omega) | omega))).trans c77
            have hz := (hRW v32_2.toInt v32_3.toInt (by omega) (by omega) (by omega) (by rw [c35]; omega)).resolve_left (by rw [c68]; omega)
            rw [c68, c77] at hz
            obtain ⟨hz1, hz2, hz3⟩ := hz
            obtain ⟨x78, c79, rx78, tx78⟩ := hT.rdi (lo := 0) (hi := 64) (k := 24) kM_at0 (by decide) rfl
            refine tk_Vl hC hK hw hT hA hE hSR kM_at0 (by decide) rfl (k_X12_reckons_1 l adK adV dC dI cy ad B hB0 (Int.le_trans hB1 (by decide)) qr s1   v32_2 (show 0 ≤ v32_2.toInt from r4) (show v32_2.toInt ≤ 5 from t5) x67 (show 0 ≤ x67.toInt from c69) (show x67.toInt ≤ 400 by first | with_reducible assumption | omega) x76 (show 0 ≤ x76.toInt by first | with_reducible assumption | omega) (show x76.toInt ≤ 400 by first | with_reducible assumption | omega) w1 H.size hT x78 c79 (show 0 ≤ x78.toInt by first | with_reducible assumption | omega) (show x78.toInt ≤ 64 by first | with_reducible assumption | omega) ⟨hz1, hz3⟩) (cwV 3 hC.2.2.2.2 uV_RX12_401 rfl rfl rfl (by decide +kernel) ⟨Nat.le_of_ble_eq_true rfl, Nat.le_of_ble_eq_true rfl⟩) rfl hl.1 rfl (Nat.le_of_ble_eq_true rfl) dX12_doing_99 (fun r80 w82 H locs hp81 hw => ?_)
            obtain ⟨hT, k83, hg86⟩ := hp81
            have hRW := RW_FE k83 (fun _ => rfl) (fun _ => rfl) (fun _ => rfl) hRW
            have hF := hF.tr k83 (by decide)
            have c87 := k83.gi kM_at0 (by decide) c10
            have c88 := k83.gi kM_at12 rfl c13
            have c89 := k83.gi kM_at5 rfl c35
            have c90 := k83.gi kM_at4 rfl c41
            have c91 := k83.gi kM_at4 rfl c68
            have c92 := k83.gi kM_at4 rfl c77
            obtain ⟨x84, c85, rx84, tx84⟩ := hg86
            refine lv_lconst (v := 1) hx hb dX12_doing_102 (by decide) ?_
            refine W.lcmp hx hb dX12_doing_103 ?_
            refine lv_if_ne (tgt := 115) hx hb dX12_doing_104 (by decide) (fun c93 => ?_) (fun c93 => ?_)
            · have c93 : ¬ r80.toInt = (1 : Int) := wk_ceF c93
              exact J115 x39 x40 x34 H locs ls w82 (show 0 ≤ a1.toInt from r2) (show a1.toInt ≤ 3 from t3) (show 0 ≤ v32_2.toInt from r4) (show v32_2.toInt ≤ 5 from t5) (show 0 ≤ v32_3.toInt from r6) (show v32_3.toInt ≤ 11 by first | with_reducible assumption | omega) (show 0 ≤ x39.toInt by first | with_reducible assumption | omega) (show x39.toInt ≤ 213 by first | with_reducible assumption | omega) (show 0 ≤ f32_0_30.toInt from r8) (show f32_0_30.toInt ≤ 1 from t9) (show 0 ≤ f32_12__9_a1_toInt_219_toNat.toInt from r11) (show f32_12__9_a1_toInt_219_toNat.toInt ≤ 5 from t12) (show 1 ≤ x34.toInt by first | with_reducible assumption | omega) (show x34.toInt ≤ 12 from tx34)  hw hT hF hRW c87 c88 c90 c89 (lv_sub hl [1, 2, 3, 4, 0] rfl)
            · have c93 : r80.toInt = (1 : Int) := wk_ceT c93
              refine lv_aload_n hx hb dX12_doing_107 rfl (lv_at hl 1 rfl) ?_
              refine tk_getA hC hK hw hT hinX12 kM_at0 (by decide) rfl 5 (by decide) (List.mem_cons_of_mem _ uw_6_17) rfl rfl dX12_doing_108 ?_
              refine lv_iload hx hb dX12_doing_111 (lv_at hl 0 rfl) ?_
              refine tk_iald hC hK hw hT kM_at4 rfl rfl (show 0 ≤ x39.toInt by first | with_reducible assumption | omega) (show x39.toInt < 216 by first | with_reducible assumption | omega) dX12_doing_113 (fun x94 c95 rx94 tx94 => ?_)
              have c95 : gi w82 4 (36 * v32_2.toInt + 3 * v32_3.toInt + 0).toNat = x94 := (congrArg (gi w82 4) (congrArg Int.toNat (show 36 * v32_2.toInt + 3 * v32_3.toInt + 0 = x39.toInt by first | exact Int.le_antisymm (by omega) (by omega) | omega))).trans c95
              refine wk_top x40 (c95.symm.trans c90) ?_
              exact tk_iret hC hr hlocks hK ⟨hT, hF, (Or.inl (show x40.toInt ≤ (-1) by first | with_reducible assumption | omega))⟩ hw dX12_doing_114
        · refine lv_if_eq (tgt := 115) hx hb dX12_doing_64 (by decide) (fun c => absurd c (by decide)) (fun _ => ?_)
          refine lv_aload_n hx hb dX12_doing_67 rfl (lv_at hl 1 rfl) ?_
          refine tk_getA hC hK hw hT hinX12 kM_at0 (by decide) rfl 5 (by decide) (List.mem_cons_of_mem _ uw_6_17) rfl rfl dX12_doing_68 ?_
          refine lv_iload hx hb dX12_doing_71 (lv_at hl 0 rfl) ?_
          refine lv_iconst (v := 1) hx hb dX12_doing_73 (by decide) ?_
          refine lv_iadd hx hb dX12_doing_74 ?_
          refine lv_topi (fun x96 ex96 => ?_)
          have ex96 : x96.toInt = x39.toInt + (1 : Int) := by rw [ex96]; exact wk_add (show (-2147483648) ≤ x39.toInt + (1 : Int) by omega) (show x39.toInt + (1 : Int) ≤ 2147483647 by omega)
          refine tk_iald hC hK hw hT kM_at4 rfl rfl (show 0 ≤ x96.toInt by first | with_reducible assumption | omega) (show x96.toInt < 216 by first | with_reducible assumption | omega) dX12_doing_75 (fun x97 c98 rx97 tx97 => ?_)
          have c98 : gi w1 4 (36 * v32_2.toInt + 3 * v32_3.toInt + 1).toNat = x97 := (congrArg (gi w1 4) (congrArg Int.toNat (show 36 * v32_2.toInt + 3 * v32_3.toInt + 1 = x96.toInt by first | exact Int.le_antisymm (by omega) (by omega) | omega))).trans c98
          refine lv_if_lt (tgt := 107) hx hb dX12_doing_76 (by decide) (fun c99 => ?_) (fun c99 => ?_)
          · have c99 : x97.toInt < (0 : Int) := wk_lt.mp c99
            refine lv_aload_n hx hb dX12_doing_107 rfl (lv_at hl 1 rfl) ?_
            refine tk_getA hC hK hw hT hinX12 kM_at0 (by decide) rfl 5 (by decide) (List.mem_cons_of_mem _ uw_6_17) rfl rfl dX12_doing_108 ?_
            refine lv_iload hx hb dX12_doing_111 (lv_at hl 0 rfl) ?_
            refine tk_iald hC hK hw hT kM_at4 rfl rfl (show 0 ≤ x39.toInt by first | with_reducible assumption | omega) (show x39.toInt < 216 by first | with_reducible assumption | omega) dX12_doing_113 (fun x100 c101 rx100 tx100 => ?_)
            have c101 : gi w1 4 (36 * v32_2.toInt + 3 * v32_3.toInt + 0).toNat = x100 := (congrArg (gi w1 4) (congrArg Int.toNat (show 36 * v32_2.toInt + 3 * v32_3.toInt + 0 = x39.toInt by first | exact Int.le_antisymm (by omega) (by omega) | omega))).trans c101
            refine wk_top x40 (c101.symm.trans c41) ?_
            exact tk_iret hC hr hlocks hK ⟨hT, hF, (Or.inr (Or.inr (Or.inl ⟨(wk_eq.mpr (show x40.toInt = 0 by first | exact Int.le_antisymm (by omega) (by omega) | omega)), ⟨x53, c54, (show 0 ≤ x53.toInt by first | with_reducible assumption | omega), (show x53.toInt ≤ 11 by first | with_reducible assumption | omega)⟩⟩)))⟩ hw dX12_doing_114
          · have c99 : (0 : Int) ≤ x97.toInt := wk_ltF c99
            refine lv_aload_n hx hb dX12_doing_79 rfl (lv_at hl 1 rfl) ?_
            refine lv_iload_n hx hb dX12_doing_80 rfl (lv_at hl 3 rfl) ?_
            refine lv_aload_n hx hb dX12_doing_81 rfl (lv_at hl 1 rfl) ?_
            refine tk_getA hC hK hw hT hinX12 kM_at0 (by decide) rfl 5 (by decide) (List.mem_cons_of_mem _ uw_6_17) rfl rfl dX12_doing_82 ?_
            refine lv_iload hx hb dX12_doing_85 (lv_at hl 0 rfl) ?_
            refine lv_iconst (v := 1) hx hb dX12_doing_87 (by decide) ?_
            refine lv_iadd hx hb dX12_doing_88 ?_
            refine lv_topi (fun x102 ex102 => ?_)
            have ex102 : x102.toInt = x39.toInt + (1 : Int) := by rw [ex102]; exact wk_add (show (-2147483648) ≤ x39.toInt + (1 : Int) by omega) (show x39.toInt + (1 : Int) ≤ 2147483647 by omega)
            refine tk_iald hC hK hw hT kM_at4 rfl rfl (show 0 ≤ x102.toInt by first | with_reducible assumption | omega) (show x102.toInt < 216 by first | with_reducible assumption | omega) dX12_doing_89 (fun x103 c104 rx103 tx103 => ?_)
            have c104 : gi w1 4 (36 * v32_2.toInt + 3 * v32_3.toInt + 1).toNat = x103 := (congrArg (gi w1 4) (congrArg Int.toNat (show 36 * v32_2.toInt + 3 * v32_3.toInt + 1 = x102.toInt by first | exact Int.le_antisymm (by omega) (by omega) | omega))).trans c104
            refine wk_top x97 (c104.symm.trans c98) ?_
            refine lv_aload_n hx hb dX12_doing_90 rfl (lv_at hl 1 rfl) ?_
            refine tk_getA hC hK hw hT hinX12 kM_at0 (by decide) rfl 5 (by decide) (List.mem_cons_of_mem _ uw_6_17) rfl rfl dX12_doing_91 ?_
            refine lv_iload hx hb dX12_doing_94 (lv_at hl 0 rfl) ?_
            refine lv_iconst (v := 2) hx hb dX12_doing_96 (by decide) ?_
            refine lv_iadd hx hb dX12_doing_97 ?_
            refine lv_topi (fun x105 ex105 => ?_)
            have ex105 : x105.toInt = x39.toInt + (2 : Int) := by rw [ex105]; exact wk_add (show (-2147483648) ≤ x39.toInt + (2 : Int) by omega) (show x39.toInt + (2 : Int) ≤ 2147483647 by omega)
            refine tk_iald hC hK hw hT kM_at4 rfl rfl (show 0 ≤ x105.toInt by first | with_reducible assumption | omega) (show x105.toInt < 216 by first | with_reducible assumption | omega) dX12_doing_98 (fun x106 c107 rx106 tx106 => ?_)
            have c107 : gi w1 4 (36 * v32_2.toInt + 3 * v32_3.toInt + 2).toNat = x106 := (congrArg (gi w1 4) (congrArg Int.toNat (show 36 * v32_2.toInt + 3 * v32_3.toInt + 2 = x105.toInt by first | exact Int.le_antisymm (by omega) (by omega) | omega))).trans c107
            have hz := (hRW v32_2.toInt v32_3.toInt (by omega) (by omega) (by omega) (by rw [c35]; omega)).resolve_left (by rw [c98]; omega)
            rw [c98, c107] at hz
            obtain ⟨hz1, hz2, hz3⟩ := hz
            obtain ⟨x108, c109, rx108, tx108⟩ := hT.rdi (lo := 0) (hi := 64) (k := 24) kM_at0 (by decide) rfl
            refine tk_Vl hC hK hw hT hA hE hSR kM_at0 (by decide) rfl (k_X12_reckons_1 l adK adV dC dI cy ad B hB0 (Int.le_trans hB1 (by decide)) qr s1   v32_2 (show 0 ≤ v32_2.toInt from r4) (show v32_2.toInt ≤ 5 from t5) x97 (show 0 ≤ x97.toInt from c99) (show x97.toInt ≤ 400 by first | with_reducible assumption | omega) x106 (show 0 ≤ x106.toInt by first | with_reducible assumption | omega) (show x106.toInt ≤ 400 by first | with_reducible assumption | omega) w1 H.size hT x108 c109 (show 0 ≤ x108.toInt by first | with_reducible assumption | omega) (show x108.toInt ≤ 64 by first | with_reducible assumption | omega) ⟨hz1, hz3⟩) (cwV 3 hC.2.2.2.2 uV_RX12_401 rfl rfl rfl (by decide +kernel) ⟨Nat.le_of_ble_eq_true rfl, Nat.le_of_ble_eq_true rfl⟩) rfl hl.1 rfl (Nat.le_of_ble_eq_true rfl) dX12_doing_99 (fun r110 w112 H locs hp111 hw => ?_)
            obtain ⟨hT, k113, hg116⟩ := hp111
            have hRW := RW_FE k113 (fun _ => rfl) (fun _ => rfl) (fun _ => rfl) hRW
            have hF := hF.tr k113 (by decide)
            have c117 := k113.gi kM_at0 (by decide) c10
            have c118 := k113.gi kM_at12 rfl c13
            have c119 := k113.gi kM_at5 rfl c35
            have c120 := k113.gi kM_at4 rfl c41
            have c121 := k113.gi kM_at0 (by decide) c54
            have c122 := k113.gi kM_at4 rfl c98
            have c123 := k113.gi kM_at4 rfl c107
            obtain ⟨x114, c115, rx114, tx114⟩ := hg116
            refine lv_lconst (v := 1) hx hb dX12_doing_102 (by decide) ?_
            refine W.lcmp hx hb dX12_doing_103 ?_
            refine lv_if_ne (tgt := 115) hx hb dX12_doing_104 (by decide) (fun c124 => ?_) (fun c124 => ?_)
            · have c124 : ¬ r110.toInt = (1 : Int) := wk_ceF c124
              exact J115 x39 x40 x34 H locs ls w112 (show 0 ≤ a1.toInt from r2) (show a1.toInt ≤ 3 from t3) (show 0 ≤ v32_2.toInt from r4) (show v32_2.toInt ≤ 5 from t5) (show 0 ≤ v32_3.toInt from r6) (show v32_3.toInt ≤ 11 by first | with_reducible assumption | omega) (show 0 ≤ x39.toInt by first | with_reducible assumption | omega) (show x39.toInt ≤ 213 by first | with_reducible assumption | omega) (show 0 ≤ f32_0_30.toInt from r8) (show f32_0_30.toInt ≤ 1 from t9) (show 0 ≤ f32_12__9_a1_toInt_219_toNat.toInt from r11) (show f32_12__9_a1_toInt_219_toNat.toInt ≤ 5 from t12) (show 1 ≤ x34.toInt by first | with_reducible assumption | omega) (show x34.toInt ≤ 12 from tx34)  hw hT hF hRW c117 c118 c120 c119 (lv_sub hl [1, 2, 3, 4, 0] rfl)
            · have c124 : r110.toInt = (1 : Int) := wk_ceT c124
              refine lv_aload_n hx hb dX12_doing_107 rfl (lv_at hl 1 rfl) ?_
              refine tk_getA hC hK hw hT hinX12 kM_at0 (by decide) rfl 5 (by decide) (List.mem_cons_of_mem _ uw_6_17) rfl rfl dX12_doing_108 ?_
              refine lv_iload hx hb dX12_doing_111 (lv_at hl 0 rfl) ?_
              refine tk_iald hC hK hw hT kM_at4 rfl rfl (show 0 ≤ x39.toInt by first | with_reducible assumption | omega) (show x39.toInt < 216 by first | with_reducible assumption | omega) dX12_doing_113 (fun x125 c126 rx125 tx125 => ?_)
              have c126 : gi w112 4 (36 * v32_2.toInt + 3 * v32_3.toInt + 0).toNat = x125 := (congrArg (gi w112 4) (congrArg Int.toNat (show 36 * v32_2.toInt + 3 * v32_3.toInt + 0 = x39.toInt by first | exact Int.le_antisymm (by omega) (by omega) | omega))).trans c126
              refine wk_top x40 (c126.symm.trans c120) ?_
              exact tk_iret hC hr hlocks hK ⟨hT, hF, (Or.inr (Or.inr (Or.inl ⟨(wk_eq.mpr (show x40.toInt = 0 by first | exact Int.le_antisymm (by omega) (by omega) | omega)), ⟨x53, c121, (show 0 ≤ x53.toInt by first | with_reducible assumption | omega), (show x53.toInt ≤ 11 by first | with_reducible assumption | omega)⟩⟩)))⟩ hw dX12_doing_114
        · refine lv_if_eq (tgt := 115) hx hb dX12_doing_64 (by decide) (fun c => absurd c (by decide)) (fun _ => ?_)
          refine lv_aload_n hx hb dX12_doing_67 rfl (lv_at hl 1 rfl) ?_
          refine tk_getA hC hK hw hT hinX12 kM_at0 (by decide) rfl 5 (by decide) (List.mem_cons_of_mem _ uw_6_17) rfl rfl dX12_doing_68 ?_
          refine lv_iload hx hb dX12_doing_71 (lv_at hl 0 rfl) ?_
          refine lv_iconst (v := 1) hx hb dX12_doing_73 (by decide) ?_
          refine lv_iadd hx hb dX12_doing_74 ?_
          refine lv_topi (fun x127 ex127 => ?_)
          have ex127 : x127.toInt = x39.toInt + (1 : Int) := by rw [ex127]; exact wk_add (show (-2147483648) ≤ x39.toInt + (1 : Int) by omega) (show x39.toInt + (1 : Int) ≤ 2147483647 by omega)
          refine tk_iald hC hK hw hT kM_at4 rfl rfl (show 0 ≤ x127.toInt by first | with_reducible assumption | omega) (show x127.toInt < 216 by first | with_reducible assumption | omega) dX12_doing_75 (fun x128 c129 rx128 tx128 => ?_)
          have c129 : gi w1 4 (36 * v32_2.toInt + 3 * v32_3.toInt + 1).toNat = x128 := (congrArg (gi w1 4) (congrArg Int.toNat (show 36 * v32_2.toInt + 3 * v32_3.toInt + 1 = x127.toInt by first | exact Int.le_antisymm (by omega) (by omega) | omega))).trans c129
          refine lv_if_lt (tgt := 107) hx hb dX12_doing_76 (by decide) (fun c130 => ?_) (fun c130 => ?_)
          · have c130 : x128.toInt < (0 : Int) := wk_lt.mp c130
            refine lv_aload_n hx hb dX12_doing_107 rfl (lv_at hl 1 rfl) ?_
            refine tk_getA hC hK hw hT hinX12 kM_at0 (by decide) rfl 5 (by decide) (List.mem_cons_of_mem _ uw_6_17) rfl rfl dX12_doing_108 ?_
            refine lv_iload hx hb dX12_doing_111 (lv_at hl 0 rfl) ?_
            refine tk_iald hC hK hw hT kM_at4 rfl rfl (show 0 ≤ x39.toInt by first | with_reducible assumption | omega) (show x39.toInt < 216 by first | with_reducible assumption | omega) dX12_doing_113 (fun x131 c132 rx131 tx131 => ?_)
            have c132 : gi w1 4 (36 * v32_2.toInt + 3 * v32_3.toInt + 0).toNat = x131 := (congrArg (gi w1 4) (congrArg Int.toNat (show 36 * v32_2.toInt + 3 * v32_3.toInt + 0 = x39.toInt by first | exact Int.le_antisymm (by omega) (by omega) | omega))).trans c132
            refine wk_top x40 (c132.symm.trans c41) ?_
            exact tk_iret hC hr hlocks hK ⟨hT, hF, (Or.inr (Or.inr (Or.inr (Or.inl ⟨(wk_eq.mpr (show x40.toInt = 1 by first | exact Int.le_antisymm (by omega) (by omega) | omega)), ⟨x57, c58, (show 1 ≤ x57.toInt by first | with_reducible assumption | omega), (show x57.toInt ≤ 12 by first | with_reducible assumption | omega)⟩, (by exact hq59)⟩))))⟩ hw dX12_doing_114
          · have c130 : (0 : Int) ≤ x128.toInt := wk_ltF c130
            refine lv_aload_n hx hb dX12_doing_79 rfl (lv_at hl 1 rfl) ?_
            refine lv_iload_n hx hb dX12_doing_80 rfl (lv_at hl 3 rfl) ?_
            refine lv_aload_n hx hb dX12_doing_81 rfl (lv_at hl 1 rfl) ?_
            refine tk_getA hC hK hw hT hinX12 kM_at0 (by decide) rfl 5 (by decide) (List.mem_cons_of_mem _ uw_6_17) rfl rfl dX12_doing_82 ?_
            refine lv_iload hx hb dX12_doing_85 (lv_at hl 0 rfl) ?_
            refine lv_iconst (v := 1) hx hb dX12_doing_87 (by decide) ?_
            refine lv_iadd hx hb dX12_doing_88 ?_
            refine lv_topi (fun x133 ex133 => ?_)
            have ex133 : x133.toInt = x39.toInt + (1 : Int) := by rw [ex133]; exact wk_add (show (-2147483648) ≤ x39.toInt + (1 : Int) by omega) (show x39.toInt + (1 : Int) ≤ 2147483647 by omega)
            refine tk_iald hC hK hw hT kM_at4 rfl rfl (show 0 ≤ x133.toInt by first | with_reducible assumption | omega) (show x133.toInt < 216 by first | with_reducible assumption | omega) dX12_doing_89 (fun x134 c135 rx134 tx134 => ?_)
            have c135 : gi w1 4 (36 * v32_2.toInt + 3 * v32_3.toInt + 1).toNat = x134 := (congrArg (gi w1 4) (congrArg Int.toNat (show 36 * v32_2.toInt + 3 * v32_3.toInt + 1 = x133.toInt by first | exact Int.le_antisymm (by omega) (by omega) | omega))).trans c135
            refine wk_top x128 (c135.symm.trans c129) ?_
            refine lv_aload_n hx hb dX12_doing_90 rfl (lv_at hl 1 rfl) ?_
            refine tk_getA hC hK hw hT hinX12 kM_at0 (by decide) rfl 5 (by decide) (List.mem_cons_of_mem _ uw_6_17) rfl rfl dX12_doing_91 ?_
            refine lv_iload hx hb dX12_doing_94 (lv_at hl 0 rfl) ?_
            refine lv_iconst (v := 2) hx hb dX12_doing_96 (by decide) ?_
            refine lv_iadd hx hb dX12_doing_97 ?_
            refine lv_topi (fun x136 ex136 => ?_)
            have ex136 : x136.toInt = x39.toInt + (2 : Int) := by rw [ex136]; exact wk_add (show (-2147483648) ≤ x39.toInt + (2 : Int) by omega) (show x39.toInt + (2 : Int) ≤ 2147483647 by omega)
            refine tk_iald hC hK hw hT kM_at4 rfl rfl (show 0 ≤ x136.toInt by first | with_reducible assumption | omega) (show x136.toInt < 216 by first | with_reducible assumption | omega) dX12_doing_98 (fun x137 c138 rx137 tx137 => ?_)
            have c138 : gi w1 4 (36 * v32_2.toInt + 3 * v32_3.toInt + 2).toNat = x137 := (congrArg (gi w1 4) (congrArg Int.toNat (show 36 * v32_2.toInt + 3 * v32_3.toInt + 2 = x136.toInt by first | exact Int.le_antisymm (by omega) (by omega) | omega))).trans c138
            have hz := (hRW v32_2.toInt v32_3.toInt (by omega) (by omega) (by omega) (by rw [c35]; omega)).resolve_left (by rw [c129]; omega)
            rw [c129, c138] at hz
            obtain ⟨hz1, hz2, hz3⟩ := hz
            obtain ⟨x139, c140, rx139, tx139⟩ := hT.rdi (lo := 0) (hi := 64) (k := 24) kM_at0 (by decide) rfl
            refine tk_Vl hC hK hw hT hA hE hSR kM_at0 (by decide) rfl (k_X12_reckons_1 l adK adV dC dI cy ad B hB0 (Int.le_trans hB1 (by decide)) qr s1   v32_2 (show 0 ≤ v32_2.toInt from r4) (show v32_2.toInt ≤ 5 from t5) x128 (show 0 ≤ x128.toInt from c130) (show x128.toInt ≤ 400 by first | with_reducible assumption | omega) x137 (show 0 ≤ x137.toInt by first | with_reducible assumption | omega) (show x137.toInt ≤ 400 by first | with_reducible assumption | omega) w1 H.size hT x139 c140 (show 0 ≤ x139.toInt by first | with_reducible assumption | omega) (show x139.toInt ≤ 64 by first | with_reducible assumption | omega) ⟨hz1, hz3⟩) (cwV 3 hC.2.2.2.2 uV_RX12_401 rfl rfl rfl (by decide +kernel) ⟨Nat.le_of_ble_eq_true rfl, Nat.le_of_ble_eq_true rfl⟩) rfl hl.1 rfl (Nat.le_of_ble_eq_true rfl) dX12_doing_99 (fun r141 w143 H locs hp142 hw => ?_)
            obtain ⟨hT, k144, hg147⟩ := hp142
            have hRW := RW_FE k144 (fun _ => rfl) (fun _ => rfl) (fun _ => rfl) hRW
            have hq148 := mAS_FE k144 (fun _ => rfl) (by decide) hq59
            have hF := hF.tr k144 (by decide)
            have c149 := k144.gi kM_at0 (by decide) c10
            have c150 := k144.gi kM_at12 rfl c13
            have c151 := k144.gi kM_at5 rfl c35
            have c152 := k144.gi kM_at4 rfl c41
            have c153 := k144.gi kM_at12 (by decide) c58
            have c154 := k144.gi kM_at4 rfl c129
            have c155 := k144.gi kM_at4 rfl c138
            obtain ⟨x145, c146, rx145, tx145⟩ := hg147
            refine lv_lconst (v := 1) hx hb dX12_doing_102 (by decide) ?_
            refine W.lcmp hx hb dX12_doing_103 ?_
            refine lv_if_ne (tgt := 115) hx hb dX12_doing_104 (by decide) (fun c156 => ?_) (fun c156 => ?_)
            · have c156 : ¬ r141.toInt = (1 : Int) := wk_ceF c156
              exact J115 x39 x40 x34 H locs ls w143 (show 0 ≤ a1.toInt from r2) (show a1.toInt ≤ 3 from t3) (show 0 ≤ v32_2.toInt from r4) (show v32_2.toInt ≤ 5 from t5) (show 0 ≤ v32_3.toInt from r6) (show v32_3.toInt ≤ 11 by first | with_reducible assumption | omega) (show 0 ≤ x39.toInt by first | with_reducible assumption | omega) (show x39.toInt ≤ 213 by first | with_reducible assumption | omega) (show 0 ≤ f32_0_30.toInt from r8) (show f32_0_30.toInt ≤ 1 from t9) (show 0 ≤ f32_12__9_a1_toInt_219_toNat.toInt from r11) (show f32_12__9_a1_toInt_219_toNat.toInt ≤ 5 from t12) (show 1 ≤ x34.toInt by first | with_reducible assumption | omega) (show x34.toInt ≤ 12 from tx34)  hw hT hF hRW c149 c150 c152 c151 (lv_sub hl [1, 2, 3, 4, 0] rfl)
            · have c156 : r141.toInt = (1 : Int) := wk_ceT c156
              refine lv_aload_n hx hb dX12_doing_107 rfl (lv_at hl 1 rfl) ?_
              refine tk_getA hC hK hw hT hinX12 kM_at0 (by decide) rfl 5 (by decide) (List.mem_cons_of_mem _ uw_6_17) rfl rfl dX12_doing_108 ?_
              refine lv_iload hx hb dX12_doing_111 (lv_at hl 0 rfl) ?_
              refine tk_iald hC hK hw hT kM_at4 rfl rfl (show 0 ≤ x39.toInt by first | with_reducible assumption | omega) (show x39.toInt < 216 by first | with_reducible assumption | omega) dX12_doing_113 (fun x157 c158 rx157 tx157 => ?_)
              have c158 : gi w143 4 (36 * v32_2.toInt + 3 * v32_3.toInt + 0).toNat = x157 := (congrArg (gi w143 4) (congrArg Int.toNat (show 36 * v32_2.toInt + 3 * v32_3.toInt + 0 = x39.toInt by first | exact Int.le_antisymm (by omega) (by omega) | omega))).trans c158
              refine wk_top x40 (c158.symm.trans c152) ?_
              exact tk_iret hC hr hlocks hK ⟨hT, hF, (Or.inr (Or.inr (Or.inr (Or.inl ⟨(wk_eq.mpr (show x40.toInt = 1 by first | exact Int.le_antisymm (by omega) (by omega) | omega)), ⟨x57, c153, (show 1 ≤ x57.toInt by first | with_reducible assumption | omega), (show x57.toInt ≤ 12 by first | with_reducible assumption | omega)⟩, (by exact hq148)⟩))))⟩ hw dX12_doing_114
        · have ex62 : x62.toInt = f32_0_30.toInt := by rw [← c10.symm.trans c63]
          refine lv_if_eq (tgt := 115) hx hb dX12_doing_64 (by decide) (fun c => absurd c (by decide)) (fun _ => ?_)
          refine lv_aload_n hx hb dX12_doing_67 rfl (lv_at hl 1 rfl) ?_
          refine tk_getA hC hK hw hT hinX12 kM_at0 (by decide) rfl 5 (by decide) (List.mem_cons_of_mem _ uw_6_17) rfl rfl dX12_doing_68 ?_
          refine lv_iload hx hb dX12_doing_71 (lv_at hl 0 rfl) ?_
          refine lv_iconst (v := 1) hx hb dX12_doing_73 (by decide) ?_
          refine lv_iadd hx hb dX12_doing_74 ?_
          refine lv_topi (fun x159 ex159 => ?_)
          have ex159 : x159.toInt = x39.toInt + (1 : Int) := by rw [ex159]; exact wk_add (show (-2147483648) ≤ x39.toInt + (1 : Int) by omega) (show x39.toInt + (1 : Int) ≤ 2147483647 by omega)
          refine tk_iald hC hK hw hT kM_at4 rfl rfl (show 0 ≤ x159.toInt by first | with_reducible assumption | omega) (show x159.toInt < 216 by first | with_reducible assumption | omega) dX12_doing_75 (fun x160 c161 rx160 tx160 => ?_)
          have c161 : gi w1 4 (36 * v32_2.toInt + 3 * v32_3.toInt + 1).toNat = x160 := (congrArg (gi w1 4) (congrArg Int.toNat (show 36 * v32_2.toInt + 3 * v32_3.toInt + 1 = x159.toInt by first | exact Int.le_antisymm (by omega) (by omega) | omega))).trans c161
          refine lv_if_lt (tgt := 107) hx hb dX12_doing_76 (by decide) (fun c162 => ?_) (fun c162 => ?_)
          · have c162 : x160.toInt < (0 : Int) := wk_lt.mp c162
            refine lv_aload_n hx hb dX12_doing_107 rfl (lv_at hl 1 rfl) ?_
            refine tk_getA hC hK hw hT hinX12 kM_at0 (by decide) rfl 5 (by decide) (List.mem_cons_of_mem _ uw_6_17) rfl rfl dX12_doing_108 ?_
            refine lv_iload hx hb dX12_doing_111 (lv_at hl 0 rfl) ?_
            refine tk_iald hC hK hw hT kM_at4 rfl rfl (show 0 ≤ x39.toInt by first | with_reducible assumption | omega) (show x39.toInt < 216 by first | with_reducible assumption | omega) dX12_doing_113 (fun x163 c164 rx163 tx163 => ?_)
            have c164 : gi w1 4 (36 * v32_2.toInt + 3 * v32_3.toInt + 0).toNat = x163 := (congrArg (gi w1 4) (congrArg Int.toNat (show 36 * v32_2.toInt + 3 * v32_3.toInt + 0 = x39.toInt by first | exact Int.le_antisymm (by omega) (by omega) | omega))).trans c164
            refine wk_top x40 (c164.symm.trans c41) ?_
            exact tk_iret hC hr hlocks hK ⟨hT, hF, (Or.inr (Or.inr (Or.inr (Or.inr (Or.inl ⟨(wk_eq.mpr (show x40.toInt = 2 by first | exact Int.le_antisymm (by omega) (by omega) | omega)), ⟨f32_0_30, c10, (show 0 ≤ f32_0_30.toInt from r8), (show f32_0_30.toInt ≤ 0 by first | with_reducible assumption | omega)⟩⟩)))))⟩ hw dX12_doing_114
          · have c162 : (0 : Int) ≤ x160.toInt := wk_ltF c162
            refine lv_aload_n hx hb dX12_doing_79 rfl (lv_at hl 1 rfl) ?_
            refine lv_iload_n hx hb dX12_doing_80 rfl (lv_at hl 3 rfl) ?_
            refine lv_aload_n hx hb dX12_doing_81 rfl (lv_at hl 1 rfl) ?_
            refine tk_getA hC hK hw hT hinX12 kM_at0 (by decide) rfl 5 (by decide) (List.mem_cons_of_mem _ uw_6_17) rfl rfl dX12_doing_82 ?_
            refine lv_iload hx hb dX12_doing_85 (lv_at hl 0 rfl) ?_
            refine lv_iconst (v := 1) hx hb dX12_doing_87 (by decide) ?_
            refine lv_iadd hx hb dX12_doing_88 ?_
            refine lv_topi (fun x165 ex165 => ?_)
            have ex165 : x165.toInt = x39.toInt + (1 : Int) := by rw [ex165]; exact wk_add (show (-2147483648) ≤ x39.toInt + (1 : Int) by omega) (show x39.toInt + (1 : Int) ≤ 2147483647 by omega)
            refine tk_iald hC hK hw hT kM_at4 rfl rfl (show 0 ≤ x165.toInt by first | with_reducible assumption | omega) (show x165.toInt < 216 by first | with_reducible assumption | omega) dX12_doing_89 (fun x166 c167 rx166 tx166 => ?_)
            have c167 : gi w1 4 (36 * v32_2.toInt + 3 * v32_3.toInt + 1).toNat = x166 := (congrArg (gi w1 4) (congrArg Int.toNat (show 36 * v32_2.toInt + 3 * v32_3.toInt + 1 = x165.toInt by first | exact Int.le_antisymm (by omega) (by omega) | omega))).trans c167
            refine wk_top x160 (c167.symm.trans c161) ?_
            refine lv_aload_n hx hb dX12_doing_90 rfl (lv_at hl 1 rfl) ?_
            refine tk_getA hC hK hw hT hinX12 kM_at0 (by decide) rfl 5 (by decide) (List.mem_cons_of_mem _ uw_6_17) rfl rfl dX12_doing_91 ?_
            refine lv_iload hx hb dX12_doing_94 (lv_at hl 0 rfl) ?_
            refine lv_iconst (v := 2) hx hb dX12_doing_96 (by decide) ?_
            refine lv_iadd hx hb dX12_doing_97 ?_
            refine lv_topi (fun x168 ex168 => ?_)
            have ex168 : x168.toInt = x39.toInt + (2 : Int) := by rw [ex168]; exact wk_add (show (-2147483648) ≤ x39.toInt + (2 : Int) by omega) (show x39.toInt + (2 : Int) ≤ 2147483647 by omega)
            refine tk_iald hC hK hw hT kM_at4 rfl rfl (show 0 ≤ x168.toInt by first | with_reducible assumption | omega) (show x168.toInt < 216 by first | with_reducible assumption | omega) dX12_doing_98 (fun x169 c170 rx169 tx169 => ?_)
            have c170 : gi w1 4 (36 * v32_2.toInt + 3 * v32_3.toInt + 2).toNat = x169 := (congrArg (gi w1 4) (congrArg Int.toNat (show 36 * v32_2.toInt + 3 * v32_3.toInt + 2 = x168.toInt by first | exact Int.le_antisymm (by omega) (by omega) | omega))).trans c170
            have hz := (hRW v32_2.toInt v32_3.toInt (by omega) (by omega) (by omega) (by rw [c35]; omega)).resolve_left (by rw [c161]; omega)
            rw [c161, c170] at hz
            obtain ⟨hz1, hz2, hz3⟩ := hz
            obtain ⟨x171, c172, rx171, tx171⟩ := hT.rdi (lo := 0) (hi := 64) (k := 24) kM_at0 (by decide) rfl
            refine tk_Vl hC hK hw hT hA hE hSR kM_at0 (by decide) rfl (k_X12_reckons_1 l adK adV dC dI cy ad B hB0 (Int.le_trans hB1 (by decide)) qr s1   v32_2 (show 0 ≤ v32_2.toInt from r4) (show v32_2.toInt ≤ 5 from t5) x160 (show 0 ≤ x160.toInt from c162) (show x160.toInt ≤ 400 by first | with_reducible assumption | omega) x169 (show 0 ≤ x169.toInt by first | with_reducible assumption | omega) (show x169.toInt ≤ 400 by first | with_reducible assumption | omega) w1 H.size hT x171 c172 (show 0 ≤ x171.toInt by first | with_reducible assumption | omega) (show x171.toInt ≤ 64 by first | with_reducible assumption | omega) ⟨hz1, hz3⟩) (cwV 3 hC.2.2.2.2 uV_RX12_401 rfl rfl rfl (by decide +kernel) ⟨Nat.le_of_ble_eq_true rfl, Nat.le_of_ble_eq_true rfl⟩) rfl hl.1 rfl (Nat.le_of_ble_eq_true rfl) dX12_doing_99 (fun r173 w175 H locs hp174 hw => ?_)
            obtain ⟨hT, k176, hg179⟩ := hp174
            have hRW := RW_FE k176 (fun _ => rfl) (fun _ => rfl) (fun _ => rfl) hRW
            have hF := hF.tr k176 (by decide)
            have c180 := k176.gi kM_at0 (by decide) c10
            have c181 := k176.gi kM_at12 rfl c13
            have c182 := k176.gi kM_at5 rfl c35
            have c183 := k176.gi kM_at4 rfl c41
            have c184 := k176.gi kM_at4 rfl c161
            have c185 := k176.gi kM_at4 rfl c170
            obtain ⟨x177, c178, rx177, tx177⟩ := hg179
            refine lv_lconst (v := 1) hx hb dX12_doing_102 (by decide) ?_
            refine W.lcmp hx hb dX12_doing_103 ?_
            refine lv_if_ne (tgt := 115) hx hb dX12_doing_104 (by decide) (fun c186 => ?_) (fun c186 => ?_)
            · have c186 : ¬ r173.toInt = (1 : Int) := wk_ceF c186
              exact J115 x39 x40 x34 H locs ls w175 (show 0 ≤ a1.toInt from r2) (show a1.toInt ≤ 3 from t3) (show 0 ≤ v32_2.toInt from r4) (show v32_2.toInt ≤ 5 from t5) (show 0 ≤ v32_3.toInt from r6) (show v32_3.toInt ≤ 11 by first | with_reducible assumption | omega) (show 0 ≤ x39.toInt by first | with_reducible assumption | omega) (show x39.toInt ≤ 213 by first | with_reducible assumption | omega) (show 0 ≤ f32_0_30.toInt from r8) (show f32_0_30.toInt ≤ 1 from t9) (show 0 ≤ f32_12__9_a1_toInt_219_toNat.toInt from r11) (show f32_12__9_a1_toInt_219_toNat.toInt ≤ 5 from t12) (show 1 ≤ x34.toInt by first | with_reducible assumption | omega) (show x34.toInt ≤ 12 from tx34)  hw hT hF hRW c180 c181 c183 c182 (lv_sub hl [1, 2, 3, 4, 0] rfl)
            · have c186 : r173.toInt = (1 : Int) := wk_ceT c186
              refine lv_aload_n hx hb dX12_doing_107 rfl (lv_at hl 1 rfl) ?_
              refine tk_getA hC hK hw hT hinX12 kM_at0 (by decide) rfl 5 (by decide) (List.mem_cons_of_mem _ uw_6_17) rfl rfl dX12_doing_108 ?_
              refine lv_iload hx hb dX12_doing_111 (lv_at hl 0 rfl) ?_
              refine tk_iald hC hK hw hT kM_at4 rfl rfl (show 0 ≤ x39.toInt by first | with_reducible assumption | omega) (show x39.toInt < 216 by first | with_reducible assumption | omega) dX12_doing_113 (fun x187 c188 rx187 tx187 => ?_)
              have c188 : gi w175 4 (36 * v32_2.toInt + 3 * v32_3.toInt + 0).toNat = x187 := (congrArg (gi w175 4) (congrArg Int.toNat (show 36 * v32_2.toInt + 3 * v32_3.toInt + 0 = x39.toInt by first | exact Int.le_antisymm (by omega) (by omega) | omega))).trans c188
              refine wk_top x40 (c188.symm.trans c183) ?_
              exact tk_iret hC hr hlocks hK ⟨hT, hF, (Or.inr (Or.inr (Or.inr (Or.inr (Or.inl ⟨(wk_eq.mpr (show x40.toInt = 2 by first | exact Int.le_antisymm (by omega) (by omega) | omega)), ⟨f32_0_30, c180, (show 0 ≤ f32_0_30.toInt from r8), (show f32_0_30.toInt ≤ 0 by first | with_reducible assumption | omega)⟩⟩)))))⟩ hw dX12_doing_114
        · refine lv_if_eq (tgt := 115) hx hb dX12_doing_64 (by decide) (fun c => absurd c (by decide)) (fun _ => ?_)
          refine lv_aload_n hx hb dX12_doing_67 rfl (lv_at hl 1 rfl) ?_
          refine tk_getA hC hK hw hT hinX12 kM_at0 (by decide) rfl 5 (by decide) (List.mem_cons_of_mem _ uw_6_17) rfl rfl dX12_doing_68 ?_
          refine lv_iload hx hb dX12_doing_71 (lv_at hl 0 rfl) ?_
          refine lv_iconst (v := 1) hx hb dX12_doing_73 (by decide) ?_
          refine lv_iadd hx hb dX12_doing_74 ?_
          refine lv_topi (fun x189 ex189 => ?_)
          have ex189 : x189.toInt = x39.toInt + (1 : Int) := by rw [ex189]; exact wk_add (show (-2147483648) ≤ x39.toInt + (1 : Int) by omega) (show x39.toInt + (1 : Int) ≤ 2147483647 by omega)
          refine tk_iald hC hK hw hT kM_at4 rfl rfl (show 0 ≤ x189.toInt by first | with_reducible assumption | omega) (show x189.toInt < 216 by first | with_reducible assumption | omega) dX12_doing_75 (fun x190 c191 rx190 tx190 => ?_)
          have c191 : gi w1 4 (36 * v32_2.toInt + 3 * v32_3.toInt + 1).toNat = x190 := (congrArg (gi w1 4) (congrArg Int.toNat (show 36 * v32_2.toInt + 3 * v32_3.toInt + 1 = x189.toInt by first | exact Int.le_antisymm (by omega) (by omega) | omega))).trans c191
          refine lv_if_lt (tgt := 107) hx hb dX12_doing_76 (by decide) (fun c192 => ?_) (fun c192 => ?_)
          · have c192 : x190.toInt < (0 : Int) := wk_lt.mp c192
            refine lv_aload_n hx hb dX12_doing_107 rfl (lv_at hl 1 rfl) ?_
            refine tk_getA hC hK hw hT hinX12 kM_at0 (by decide) rfl 5 (by decide) (List.mem_cons_of_mem _ uw_6_17) rfl rfl dX12_doing_108 ?_
            refine lv_iload hx hb dX12_doing_111 (lv_at hl 0 rfl) ?_
            refine tk_iald hC hK hw hT kM_at4 rfl rfl (show 0 ≤ x39.toInt by first | with_reducible assumption | omega) (show x39.toInt < 216 by first | with_reducible assumption | omega) dX12_doing_113 (fun x193 c194 rx193 tx193 => ?_)
            have c194 : gi w1 4 (36 * v32_2.toInt + 3 * v32_3.toInt + 0).toNat = x193 := (congrArg (gi w1 4) (congrArg Int.toNat (show 36 * v32_2.toInt + 3 * v32_3.toInt + 0 = x39.toInt by first | exact Int.le_antisymm (by omega) (by omega) | omega))).trans c194
            refine wk_top x40 (c194.symm.trans c41) ?_
            exact tk_iret hC hr hlocks hK ⟨hT, hF, (Or.inr (Or.inl (show 3 ≤ x40.toInt by first | with_reducible assumption | omega)))⟩ hw dX12_doing_114
          · have c192 : (0 : Int) ≤ x190.toInt := wk_ltF c192
            refine lv_aload_n hx hb dX12_doing_79 rfl (lv_at hl 1 rfl) ?_
            refine lv_iload_n hx hb dX12_doing_80 rfl (lv_at hl 3 rfl) ?_
            refine lv_aload_n hx hb dX12_doing_81 rfl (lv_at hl 1 rfl) ?_
            refine tk_getA hC hK hw hT hinX12 kM_at0 (by decide) rfl 5 (by decide) (List.mem_cons_of_mem _ uw_6_17) rfl rfl dX12_doing_82 ?_
            refine lv_iload hx hb dX12_doing_85 (lv_at hl 0 rfl) ?_
            refine lv_iconst (v := 1) hx hb dX12_doing_87 (by decide) ?_
            refine lv_iadd hx hb dX12_doing_88 ?_
            refine lv_topi (fun x195 ex195 => ?_)
            have ex195 : x195.toInt = x39.toInt + (1 : Int) := by rw [ex195]; exact wk_add (show (-2147483648) ≤ x39.toInt + (1 : Int) by omega) (show x39.toInt + (1 : Int) ≤ 2147483647 by omega)
            refine tk_iald hC hK hw hT kM_at4 rfl rfl (show 0 ≤ x195.toInt by first | with_reducible assumption | omega) (show x195.toInt < 216 by first | with_reducible assumption | omega) dX12_doing_89 (fun x196 c197 rx196 tx196 => ?_)
            have c197 : gi w1 4 (36 * v32_2.toInt + 3 * v32_3.toInt + 1).toNat = x196 := (congrArg (gi w1 4) (congrArg Int.toNat (show 36 * v32_2.toInt + 3 * v32_3.toInt + 1 = x195.toInt by first | exact Int.le_antisymm (by omega) (by omega) | omega))).trans c197
            refine wk_top x190 (c197.symm.trans c191) ?_
            refine lv_aload_n hx hb dX12_doing_90 rfl (lv_at hl 1 rfl) ?_
            refine tk_getA hC hK hw hT hinX12 kM_at0 (by decide) rfl 5 (by decide) (List.mem_cons_of_mem _ uw_6_17) rfl rfl dX12_doing_91 ?_
            refine lv_iload hx hb dX12_doing_94 (lv_at hl 0 rfl) ?_
            refine lv_iconst (v := 2) hx hb dX12_doing_96 (by decide) ?_
            refine lv_iadd hx hb dX12_doing_97 ?_
            refine lv_topi (fun x198 ex198 => ?_)
            have ex198 : x198.toInt = x39.toInt + (2 : Int) := by rw [ex198]; exact wk_add (show (-2147483648) ≤ x39.toInt + (2 : Int) by omega) (show x39.toInt + (2 : Int) ≤ 2147483647 by omega)
            refine tk_iald hC hK hw hT kM_at4 rfl rfl (show 0 ≤ x198.toInt by first | with_reducible assumption | omega) (show x198.toInt < 216 by first | with_reducible assumption | omega) dX12_doing_98 (fun x199 c200 rx199 tx199 => ?_)
            have c200 : gi w1 4 (36 * v32_2.toInt + 3 * v32_3.toInt + 2).toNat = x199 := (congrArg (gi w1 4) (congrArg Int.toNat (show 36 * v32_2.toInt + 3 * v32_3.toInt + 2 = x198.toInt by first | exact Int.le_antisymm (by omega) (by omega) | omega))).trans c200
            have hz := (hRW v32_2.toInt v32_3.toInt (by omega) (by omega) (by omega) (by rw [c35]; omega)).resolve_left (by rw [c191]; omega)
            rw [c191, c200] at hz
            obtain ⟨hz1, hz2, hz3⟩ := hz
            obtain ⟨x201, c202, rx201, tx201⟩ := hT.rdi (lo := 0) (hi := 64) (k := 24) kM_at0 (by decide) rfl
            refine tk_Vl hC hK hw hT hA hE hSR kM_at0 (by decide) rfl (k_X12_reckons_1 l adK adV dC dI cy ad B hB0 (Int.le_trans hB1 (by decide)) qr s1   v32_2 (show 0 ≤ v32_2.toInt from r4) (show v32_2.toInt ≤ 5 from t5) x190 (show 0 ≤ x190.toInt from c192) (show x190.toInt ≤ 400 by first | with_reducible assumption | omega) x199 (show 0 ≤ x199.toInt by first | with_reducible assumption | omega) (show x199.toInt ≤ 400 by first | with_reducible assumption | omega) w1 H.size hT x201 c202 (show 0 ≤ x201.toInt by first | with_reducible assumption | omega) (show x201.toInt ≤ 64 by first | with_reducible assumption | omega) ⟨hz1, hz3⟩) (cwV 3 hC.2.2.2.2 uV_RX12_401 rfl rfl rfl (by decide +kernel) ⟨Nat.le_of_ble_eq_true rfl, Nat.le_of_ble_eq_true rfl⟩) rfl hl.1 rfl (Nat.le_of_ble_eq_true rfl) dX12_doing_99 (fun r203 w205 H locs hp204 hw => ?_)
            obtain ⟨hT, k206, hg209⟩ := hp204
            have hRW := RW_FE k206 (fun _ => rfl) (fun _ => rfl) (fun _ => rfl) hRW
            have hF := hF.tr k206 (by decide)
            have c210 := k206.gi kM_at0 (by decide) c10
            have c211 := k206.gi kM_at12 rfl c13
            have c212 := k206.gi kM_at5 rfl c35
            have c213 := k206.gi kM_at4 rfl c41
            have c214 := k206.gi kM_at4 rfl c191
            have c215 := k206.gi kM_at4 rfl c200
            obtain ⟨x207, c208, rx207, tx207⟩ := hg209
            refine lv_lconst (v := 1) hx hb dX12_doing_102 (by decide) ?_
            refine W.lcmp hx hb dX12_doing_103 ?_
            refine lv_if_ne (tgt := 115) hx hb dX12_doing_104 (by decide) (fun c216 => ?_) (fun c216 => ?_)
            · have c216 : ¬ r203.toInt = (1 : Int) := wk_ceF c216
              exact J115 x39 x40 x34 H locs ls w205 (show 0 ≤ a1.toInt from r2) (show a1.toInt ≤ 3 from t3) (show 0 ≤ v32_2.toInt from r4) (show v32_2.toInt ≤ 5 from t5) (show 0 ≤ v32_3.toInt from r6) (show v32_3.toInt ≤ 11 by first | with_reducible assumption | omega) (show 0 ≤ x39.toInt by first | with_reducible assumption | omega) (show x39.toInt ≤ 213 by first | with_reducible assumption | omega) (show 0 ≤ f32_0_30.toInt from r8) (show f32_0_30.toInt ≤ 1 from t9) (show 0 ≤ f32_12__9_a1_toInt_219_toNat.toInt from r11) (show f32_12__9_a1_toInt_219_toNat.toInt ≤ 5 from t12) (show 1 ≤ x34.toInt by first | with_reducible assumption | omega) (show x34.toInt ≤ 12 from tx34)  hw hT hF hRW c210 c211 c213 c212 (lv_sub hl [1, 2, 3, 4, 0] rfl)
            · have c216 : r203.toInt = (1 : Int) := wk_ceT c216
              refine lv_aload_n hx hb dX12_doing_107 rfl (lv_at hl 1 rfl) ?_
              refine tk_getA hC hK hw hT hinX12 kM_at0 (by decide) rfl 5 (by decide) (List.mem_cons_of_mem _ uw_6_17) rfl rfl dX12_doing_108 ?_
              refine lv_iload hx hb dX12_doing_111 (lv_at hl 0 rfl) ?_
              refine tk_iald hC hK hw hT kM_at4 rfl rfl (show 0 ≤ x39.toInt by first | with_reducible assumption | omega) (show x39.toInt < 216 by first | with_reducible assumption | omega) dX12_doing_113 (fun x217 c218 rx217 tx217 => ?_)
              have c218 : gi w205 4 (36 * v32_2.toInt + 3 * v32_3.toInt + 0).toNat = x217 := (congrArg (gi w205 4) (congrArg Int.toNat (show 36 * v32_2.toInt + 3 * v32_3.toInt + 0 = x39.toInt by first | exact Int.le_antisymm (by omega) (by omega) | omega))).trans c218
              refine wk_top x40 (c218.symm.trans c213) ?_
              exact tk_iret hC hr hlocks hK ⟨hT, hF, (Or.inr (Or.inl (show 3 ≤ x40.toInt by first | with_reducible assumption | omega)))⟩ hw dX12_doing_114
  refine lv_aload_n hx hb dX12_doing_0 rfl (lv_at hl 0 rfl) ?_
  refine lv_iload_n hx hb dX12_doing_1 rfl (lv_at hl 1 rfl) ?_
  refine lv_iconst (v := 3) hx hb dX12_doing_2 (by decide) ?_
  refine tk_Vi hC hK hw hT hA hE hSR kM_at0 (by decide) rfl (k_X12_walkerOf_6 l adK adV dC dI cy ad B hB0 (Int.le_trans hB1 (by decide)) qr s1   a1 (show 0 ≤ a1.toInt from ra1) (show a1.toInt ≤ 3 from ta1) w0 s.heap.size hT ) (cwV 2 hC.2.2.2.2 uV_RX12_372 rfl rfl rfl (by decide +kernel) ⟨Nat.le_of_ble_eq_true rfl, Nat.le_of_ble_eq_true rfl⟩) rfl hl.1 rfl (Nat.le_of_ble_eq_true rfl) dX12_doing_3 (fun r219 w221 H locs hp220 hw => ?_)
  obtain ⟨rfl, hg226⟩ := hp220
  obtain ⟨g223, g224, c225⟩ := hg226
  refine lv_istore_n (lv' := [(2, .int r219), (0, .ref (ad 0)), (1, .int a1)]) hx hb dX12_doing_6 rfl hl (by decide) rfl (fun ls hl => ?_)
  refine lv_iload_n hx hb dX12_doing_7 rfl (lv_at hl 0 rfl) ?_
  refine lv_if_ge (tgt := 25) hx hb dX12_doing_8 (by decide) (fun c227 => ?_) (fun c227 => ?_)
  · have c227 : (0 : Int) ≤ r219.toInt := wk_le.mp c227
    refine lv_aload_n hx hb dX12_doing_25 rfl (lv_at hl 1 rfl) ?_
    refine lv_iload_n hx hb dX12_doing_26 rfl (lv_at hl 2 rfl) ?_
    refine tk_Vv hC hK hw hT hA hE hSR kM_at0 (by decide) rfl (k_X12_words_1 l adK adV dC dI cy ad B hB0 (Int.le_trans hB1 (by decide)) qr s1   a1 (show 0 ≤ a1.toInt from ra1) (show a1.toInt ≤ 3 from ta1) w0 H.size hT ) (cwV 1 hC.2.2.2.2 uV_RX12_395 rfl rfl rfl (by decide +kernel) ⟨Nat.le_of_ble_eq_true rfl, Nat.le_of_ble_eq_true rfl⟩) rfl hl.1 rfl (Nat.le_of_ble_eq_true rfl) dX12_doing_27 (fun w230 H locs hp229 hw => ?_)
    obtain ⟨hT, k231, hg234⟩ := hp229
    have hRW := RW_FE k231 (fun _ => rfl) (fun _ => rfl) (fun _ => rfl) hRW
    have hF := hF.tr k231 (by decide)
    have c235 := k231.gi kM_at12 rfl c225
    obtain ⟨x232, c233, rx232, tx232⟩ := hg234
    refine lv_iconst (v := 0) hx hb dX12_doing_30 (by decide) ?_
    refine lv_istore_n (lv' := [(3, .int 0), (2, .int r219), (0, .ref (ad 0)), (1, .int a1)]) hx hb dX12_doing_31 rfl hl (by decide) rfl (fun ls hl => ?_)
    exact L32 ((12 - (0 : Int)).toNat + 1) r219 0 x232 r219 H locs ls w230 (show 0 ≤ a1.toInt from ra1) (show a1.toInt ≤ 3 from ta1) (show 0 ≤ r219.toInt from c227) (show r219.toInt ≤ 5 by first | with_reducible assumption | omega) (by decide) (by decide) (show 0 ≤ x232.toInt by first | with_reducible assumption | omega) (show x232.toInt ≤ 1 by first | with_reducible assumption | omega) (show 0 ≤ r219.toInt from c227) (show r219.toInt ≤ 5 by first | with_reducible assumption | omega) (Nat.lt_succ_self _) hw hT hF hRW c233 c235 (lv_sub hl [2, 3, 1, 0] rfl)
  · have c227 : r219.toInt < (0 : Int) := wk_leF c227
    refine lv_aload_n hx hb dX12_doing_11 rfl (lv_at hl 1 rfl) ?_
    refine lv_iload_n hx hb dX12_doing_12 rfl (lv_at hl 2 rfl) ?_
    refine tk_Vi hC hK hw hT hA hE hSR kM_at0 (by decide) rfl (k_X12_canGo_1 l adK adV dC dI cy ad B hB0 (Int.le_trans hB1 (by decide)) qr s1   a1 (show 0 ≤ a1.toInt from ra1) (show a1.toInt ≤ 3 from ta1) w0 H.size hT ) (cwV 1 hC.2.2.2.2 uV_RX12_387 rfl rfl rfl (by decide +kernel) ⟨Nat.le_of_ble_eq_true rfl, Nat.le_of_ble_eq_true rfl⟩) rfl hl.1 rfl (Nat.le_of_ble_eq_true rfl) dX12_doing_13 (fun r236 w238 H locs hp237 hw => ?_)
    obtain ⟨rfl, hg242⟩ := hp237
    rcases hg242 with rfl | ⟨rfl, ⟨x240, c241, rx240, tx240⟩⟩
    · refine lv_if_eq (tgt := 23) hx hb dX12_doing_16 (by decide) (fun _ => ?_) (fun c => absurd (by decide) c)
      refine lv_iconst (v := 3) hx hb dX12_doing_23 (by decide) ?_
      exact tk_iret hC hr hlocks hK ⟨hT, hF, (Or.inr (Or.inr (Or.inr (Or.inr (Or.inr rfl)))))⟩ hw dX12_doing_24
    · refine lv_if_eq (tgt := 23) hx hb dX12_doing_16 (by decide) (fun c => absurd c (by decide)) (fun _ => ?_)
      refine lv_iconst (v := 0) hx hb dX12_doing_19 (by decide) ?_
      refine lv_goto (tgt := 24) hx hb dX12_doing_20 (by decide) ?_
      exact tk_iret hC hr hlocks hK ⟨hT, hF, (Or.inr (Or.inr (Or.inl ⟨rfl, ⟨x240, c241, (show 0 ≤ x240.toInt by first | with_reducible assumption | omega), (show x240.toInt ≤ 11 by first | with_reducible assumption | omega)⟩⟩)))⟩ hw dX12_doing_24
abbrev P_X12_takesDay_1 (ad : Nat → Nat) (cy : Nat → ClassId) (B : Int) (qr : Nat) (s1 : Int) (a1 : Int32) (w0 : va_W) : va_W → Prop := fun u => TW ksM ad cy B qr 12 u ∧ FE ksM [(72, 0, 12)] w0 u ∧ ((True))
set_option maxHeartbeats 4000000 in
set_option maxRecDepth 100000 in
theorem k_X12_takesDay_1 (l : Launch) (adK adV : Nat → Nat) (dC : Nat → ClassId) (dI : Nat → Nat → Nat) (cy : Nat → ClassId) (ad : Nat → Nat) (B : Int) (hB0 : 100000 ≤ B) (hB1 : B ≤ 1073741824) (qr : Nat) (s1 : Int)  (a1 : Int32) (ra1 : 0 ≤ a1.toInt) (ta1 : a1.toInt ≤ 6) (w0 : va_W) (sz : Nat) (hT : TW ksM ad cy B qr 12 w0)  : Met l yX12_takesDay (wu yX12_takesDay cX12_takesDay 3 none) ({ frames := 2, cells := 0, slots := 0, locals := 34 }) (va_Pc [.ref (ad 0), .int a1] (wpreS adK adV dC dI cy sz w0)) (va_Qv (P_X12_takesDay_1 ad cy B qr s1 a1 w0) (fun u : va_W => wpost dC dI cy (va_A w0 sz) u) (va_A w0 sz)) 0 0 (va_A w0 sz) := by
  refine Met.ofW (cc := cX12_takesDay) (maxL := 3) (ret := none) (by decide) rfl ?_
  intro p e s m args below meth c s₁ Bk hml hv
  obtain ⟨rfl, ⟨hsz, hP, hK, hD0⟩, hE, hSR⟩ := hv
  have hx := Bk.exec
  have hb := Bk.bytes
  have hr := Bk.returns
  have hlocks := Bk.notSynchronized
  have hC : CallFix p m c cX12_takesDay 3 s _ (wu yX12_takesDay cX12_takesDay 3 none) RX12 := ⟨hx, hb, hml, findClass_of_methodNamed Bk.named, atoms_spec (ws := (wu yX12_takesDay cX12_takesDay 3 none)) Bk.pre⟩
  subst hsz
  have hD := hD0.self (sz := s.heap.size)
  generalize hAe : va_A w0 s.heap.size = A at hD hE ⊢
  have hA : ∀ q : Nat, s.heap.size ≤ q → A q := fun q h => by rw [← hAe]; exact Or.inr h
  have hw : Wd dC dI A s.heap s.heap [] w0 := ⟨hP, hD, va_S.rf⟩
  have hF : FE ksM [(72, 0, 12)] w0 w0 := FE.rf
  have hl := lv_entry ([.ref (ad 0), .int a1]) (n := 3) (Nat.le_of_ble_eq_true rfl)
  rw [lg_entry_eq]
  generalize (lg_sl ([.ref (ad 0), .int a1]) ++ List.replicate (3 - (lg_sl ([.ref (ad 0), .int a1])).length) Slot.unset).toArray = ls at hl ⊢
  have hl : lv_has ls 3 [(0, .ref (ad 0)), (1, .int a1)] := hl
  generalize hloc : ([] : List Loc) = locs at hw ⊢
  have hinX12 : ∀ w ∈ u_ws RX12 TX12 42, w ∈ (wu yX12_takesDay cX12_takesDay 3 none) := fun _ h => List.mem_cons_of_mem _ (up_71 h)
  have L2 : ∀ (n2 : Nat) (v2_2 : Int32) (H : Heap) (locs : List Loc) (ls : Array Slot) (w1 : va_W), 0 ≤ a1.toInt → a1.toInt ≤ 6 → 0 ≤ v2_2.toInt → v2_2.toInt ≤ 12 → (12 - v2_2.toInt).toNat < n2 → Wd dC dI A s.heap H locs w1 → TW ksM ad cy B qr 12 w1 → FE ksM [(72, 0, 12)] w0 w1 → lv_has ls 3 [(0, .ref (ad 0)), (1, .int a1), (2, .int v2_2)] → W p l e ({ frames := 2, cells := 0, slots := 0, locals := 34 }) s m (List.toArray [.ref (ad 0), .int a1]) below meth c H locs 0 0 (MQ below (va_Qv (P_X12_takesDay_1 ad cy B qr s1 a1 w0) (fun u : va_W => wpost dC dI cy A u) A) (List.toArray [.ref (ad 0), .int a1]) s 0 0 A) (F0 m 2 ls []) := by
    intro n2
    induction n2 with
    | zero => intro v2_2 H locs ls w1 r2 t3 r4 t5 hm2 hw hT hF hl; omega
    | succ n2 ih2 =>
      intro v2_2 H locs ls w1 r2 t3 r4 t5 hm2 hw hT hF hl
      refine lv_iload_n hx hb dX12_takesDay_2 rfl (lv_at hl 2 rfl) ?_
      refine lv_aload_n hx hb dX12_takesDay_3 rfl (lv_at hl 0 rfl) ?_
      refine tk_getA hC hK hw hT hinX12 kM_at0 (by decide) rfl 26 (by decide) (List.mem_cons_of_mem _ uw_7_1) rfl rfl dX12_takesDay_4 ?_
      refine lv_iconst (v := 1) hx hb dX12_takesDay_7 (by decide) ?_
      refine tk_ialdR hC hK hw hT kM_at12 rfl (by decide) (by decide) dX12_takesDay_8 (fun x6 c7 Ex6 => ?_)
      have bx6 : 0 ≤ x6.toInt ∧ x6.toInt ≤ 12 := (tk_rg1 rfl).mp Ex6
      have c7 : gi w1 12 1 = x6 := c7
      refine lv_icmp_ge (tgt := 32) hx hb dX12_takesDay_9 (by decide) (fun c8 => ?_) (fun c8 => ?_)
      · have c8 : x6.toInt ≤ v2_2.toInt := wk_le.mp c8
        exact tk_vret hC hr hlocks hK ⟨hT, hF, trivial⟩ hw dX12_takesDay_32
      · have c8 : v2_2.toInt < x6.toInt := wk_leF c8
        refine lv_aload_n hx hb dX12_takesDay_12 rfl (lv_at hl 0 rfl) ?_
        refine tk_getA hC hK hw hT hinX12 kM_at0 (by decide) rfl 28 (by decide) (List.mem_cons_of_mem _ uw_7_3) rfl rfl dX12_takesDay_13 ?_
        refine lv_iload_n hx hb dX12_takesDay_16 rfl (lv_at hl 2 rfl) ?_
        refine lv_aload_n hx hb dX12_takesDay_17 rfl (lv_at hl 0 rfl) ?_
        refine lv_iload_n hx hb dX12_takesDay_18 rfl (lv_at hl 2 rfl) ?_
        refine lv_iconst (v := 3) hx hb dX12_takesDay_19 (by decide) ?_
        refine lv_iload_n hx hb dX12_takesDay_20 rfl (lv_at hl 1 rfl) ?_
        refine lv_iadd hx hb dX12_takesDay_21 ?_
        refine lv_topi (fun x9 ex9 => ?_)
        have ex9 : x9.toInt = (3 : Int) + a1.toInt := by rw [ex9]; exact wk_add (show (-2147483648) ≤ (3 : Int) + a1.toInt by omega) (show (3 : Int) + a1.toInt ≤ 2147483647 by omega)
        refine tk_Vi hC hK hw hT hA hE hSR kM_at0 (by decide) rfl (k_X12_streetOf_4 l adK adV dC dI cy ad B hB0 (Int.le_trans hB1 (by decide)) qr s1   v2_2 (show 0 ≤ v2_2.toInt from r4) (show v2_2.toInt ≤ 11 by first | with_reducible assumption | omega) x9 (show 3 ≤ x9.toInt by first | with_reducible assumption | omega) (show x9.toInt ≤ 9 by first | with_reducible assumption | omega) w1 H.size hT ) (cwV 2 hC.2.2.2.2 uV_RX12_300 rfl rfl rfl (by decide +kernel) ⟨Nat.le_of_ble_eq_true rfl, Nat.le_of_ble_eq_true rfl⟩) rfl hl.1 rfl (Nat.le_of_ble_eq_true rfl) dX12_takesDay_22 (fun r10 w12 H locs hp11 hw => ?_)
        obtain ⟨rfl, hg17⟩ := hp11
        obtain ⟨g14, g15, c16⟩ := hg17
        refine tk_iast hC hK hw hT kM_at13 (by decide) rfl rfl (show 0 ≤ v2_2.toInt from r4) (show v2_2.toInt < 12 by first | with_reducible assumption | omega) (wk_i32 r10).1 (wk_i32 r10).2 dX12_takesDay_25 (fun H locs w18 hw hT k20 c19 => ?_)
        have hF := hF.put kM_at13 (inE_of (a := 0) (b := 12) (by decide) (show 0 ≤ v2_2.toInt.toNat by omega) (show v2_2.toInt.toNat ≤ 12 by omega)) k20
        have c21 := k20.gi (Or.inl (tk_ne kM_at12 kM_at13 (by decide))) c7
        have c22 := k20.gi (Or.inl (tk_ne kM_at12 kM_at13 (by decide))) c16
        obtain ⟨x23, ex23⟩ : ∃ y : Int32, y = v2_2 + Int32.ofInt 1 := ⟨_, rfl⟩
        refine lv_iinc (v := x23) (lv' := [(2, .int x23), (0, .ref (ad 0)), (1, .int a1)]) hx hb dX12_takesDay_26 hl (k := 2) rfl ex23.symm (by decide) rfl (fun ls hl => ?_)
        have ex23 : x23.toInt = v2_2.toInt + 1 := by rw [ex23]; exact wk_add (y := 1) (show -2147483648 ≤ v2_2.toInt + 1 by omega) (show v2_2.toInt + 1 ≤ 2147483647 by omega)
        refine lv_goto (tgt := 2) hx hb dX12_takesDay_29 (by decide) ?_
        exact ih2 x23 H locs ls w18 (show 0 ≤ a1.toInt from r2) (show a1.toInt ≤ 6 from t3) (show 0 ≤ x23.toInt by first | with_reducible assumption | omega) (show x23.toInt ≤ 12 by first | with_reducible assumption | omega) (show (12 - x23.toInt).toNat < n2 by first | exact tn_lt hm2 (by omega) (by omega) | omega) hw hT hF  (lv_sub hl [1, 2, 0] rfl)
  refine lv_iconst (v := 0) hx hb dX12_takesDay_0 (by decide) ?_
  refine lv_istore_n (lv' := [(2, .int 0), (0, .ref (ad 0)), (1, .int a1)]) hx hb dX12_takesDay_1 rfl hl (by decide) rfl (fun ls hl => ?_)
  exact L2 ((12 - (0 : Int)).toNat + 1) 0 s.heap locs ls w0 (show 0 ≤ a1.toInt from ra1) (show a1.toInt ≤ 6 from ta1) (by decide) (by decide) (Nat.lt_succ_self _) hw hT hF  (lv_sub hl [1, 2, 0] rfl)
abbrev P_X12_walkerOf_10 (ad : Nat → Nat) (cy : Nat → ClassId) (B : Int) (qr : Nat) (s1 : Int) (a1 : Int32) (w0 : va_W) : Int32 → va_W → Prop := fun r u => w0 = u ∧ ((0 ≤ r.toInt ∧ r.toInt ≤ 3 ∧ gi u 12 (9 * a1.toInt + 218).toNat = r))
set_option maxHeartbeats 4000000 in
set_option maxRecDepth 100000 in
theorem k_X12_walkerOf_10 (l : Launch) (adK adV : Nat → Nat) (dC : Nat → ClassId) (dI : Nat → Nat → Nat) (cy : Nat → ClassId) (ad : Nat → Nat) (B : Int) (hB0 : 100000 ≤ B) (hB1 : B ≤ 1073741824) (qr : Nat) (s1 : Int)  (a1 : Int32) (ra1 : 0 ≤ a1.toInt) (ta1 : a1.toInt ≤ 3) (w0 : va_W) (sz : Nat) (hT : TW ksM ad cy B qr 12 w0)  : Met l yX12_walkerOf (wu yX12_walkerOf cX12_walkerOf 3 (some .int)) ({ frames := 1, cells := 0, slots := 0, locals := 12 }) (va_Pc [.ref (ad 0), .int a1, .int 2] (wpreS adK adV dC dI cy sz w0)) (va_Qi (P_X12_walkerOf_10 ad cy B qr s1 a1 w0) (fun u : va_W => wpost dC dI cy (va_A w0 sz) u) (va_A w0 sz)) 0 0 (va_A w0 sz) := by
  refine Met.ofW (cc := cX12_walkerOf) (maxL := 3) (ret := (some .int)) (by decide) rfl ?_
  intro p e s m args below meth c s₁ Bk hml hv
  obtain ⟨rfl, ⟨hsz, hP, hK, hD0⟩, hE, hSR⟩ := hv
  have hx := Bk.exec
  have hb := Bk.bytes
  have hr := Bk.returns
  have hlocks := Bk.notSynchronized
  have hC : CallFix p m c cX12_walkerOf 3 s _ (wu yX12_walkerOf cX12_walkerOf 3 (some .int)) RX12 := ⟨hx, hb, hml, findClass_of_methodNamed Bk.named, atoms_spec (ws := (wu yX12_walkerOf cX12_walkerOf 3 (some .int))) Bk.pre⟩
  subst hsz
  have hD := hD0.self (sz := s.heap.size)
  generalize hAe : va_A w0 s.heap.size = A at hD hE ⊢
  have hA : ∀ q : Nat, s.heap.size ≤ q → A q := fun q h => by rw [← hAe]; exact Or.inr h
  have hw : Wd dC dI A s.heap s.heap [] w0 := ⟨hP, hD, va_S.rf⟩
  have hF : FE ksM ([] : List (Nat × Nat × Nat)) w0 w0 := FE.rf
  have hl := lv_entry ([.ref (ad 0), .int a1, .int 2]) (n := 3) (Nat.le_of_ble_eq_true rfl)
  rw [lg_entry_eq]
  generalize (lg_sl ([.ref (ad 0), .int a1, .int 2]) ++ List.replicate (3 - (lg_sl ([.ref (ad 0), .int a1, .int 2])).length) Slot.unset).toArray = ls at hl ⊢
  have hl : lv_has ls 3 [(0, .ref (ad 0)), (1, .int a1), (2, .int 2)] := hl
  generalize hloc : ([] : List Loc) = locs at hw ⊢
  have hinX12 : ∀ w ∈ u_ws RX12 TX12 42, w ∈ (wu yX12_walkerOf cX12_walkerOf 3 (some .int)) := fun _ h => List.mem_cons_of_mem _ (up_71 h)
  refine lv_aload_n hx hb dX12_walkerOf_0 rfl (lv_at hl 0 rfl) ?_
  refine tk_getA hC hK hw hT hinX12 kM_at0 (by decide) rfl 26 (by decide) (List.mem_cons_of_mem _ uw_7_1) rfl rfl dX12_walkerOf_1 ?_
  refine lv_sipush (v := 216) hx hb dX12_walkerOf_4 (by decide) ?_
  refine lv_bipush (v := 9) hx hb dX12_walkerOf_7 (by decide) ?_
  refine lv_iload_n hx hb dX12_walkerOf_9 rfl (lv_at hl 1 rfl) ?_
  refine lv_imul hx hb dX12_walkerOf_10 ?_
  refine lv_topi (fun x1 ex1 => ?_)
  have ex1 : x1.toInt = (9 : Int) * a1.toInt := by rw [ex1]; exact wk_mul (show (-2147483648) ≤ (9 : Int) * a1.toInt by omega) (show (9 : Int) * a1.toInt ≤ 2147483647 by omega)
  refine lv_iadd hx hb dX12_walkerOf_11 ?_
  refine lv_topi (fun x2 ex2 => ?_)
  have ex2 : x2.toInt = (216 : Int) + x1.toInt := by rw [ex2]; exact wk_add (show (-2147483648) ≤ (216 : Int) + x1.toInt by omega) (show (216 : Int) + x1.toInt ≤ 2147483647 by omega)
  refine lv_iload_n hx hb dX12_walkerOf_12 rfl (lv_at hl 2 rfl) ?_
  refine lv_iadd hx hb dX12_walkerOf_13 ?_
  refine lv_topi (fun x3 ex3 => ?_)
  have ex3 : x3.toInt = x2.toInt + (2 : Int) := by rw [ex3]; exact wk_add (show (-2147483648) ≤ x2.toInt + (2 : Int) by omega) (show x2.toInt + (2 : Int) ≤ 2147483647 by omega)
  refine tk_ialdR hC hK hw hT kM_at12 rfl (show 0 ≤ x3.toInt by first | with_reducible assumption | omega) (show x3.toInt < 296 by first | with_reducible assumption | omega) dX12_walkerOf_14 (fun x4 c5 Ex4 => ?_)
  have c5 : gi w0 12 (9 * a1.toInt + 218).toNat = x4 := (congrArg (gi w0 12) (congrArg Int.toNat (show 9 * a1.toInt + 218 = x3.toInt by first | exact Int.le_antisymm (by omega) (by omega) | omega))).trans c5
  have bx4 := tk_rgI rfl 218 9 4 0 3 (by decide +kernel) ⟨(a1.toInt - 0).toNat, by omega, show x3.toInt.toNat = 218 + 9 * (a1.toInt - 0).toNat by omega⟩ Ex4
  exact tk_iret hC hr hlocks hK ⟨rfl, ⟨(show 0 ≤ x4.toInt by first | with_reducible assumption | omega), (show x4.toInt ≤ 3 by first | with_reducible assumption | omega), c5⟩⟩ hw dX12_walkerOf_15
abbrev P_X12_looks_1 (ad : Nat → Nat) (cy : Nat → ClassId) (B : Int) (qr : Nat) (s1 : Int) (a1 : Int32) (w0 : va_W) : va_W → Prop := fun u => TW ksM ad cy B qr 12 u ∧ FE ksM [(12, 31, 31), (72, 0, 12), (73, 0, 10)] w0 u ∧ (((∃ y : Int32, gi u 0 31 = y ∧ (-1) ≤ y.toInt ∧ y.toInt ≤ 11)))
set_option maxHeartbeats 4000000 in
set_option maxRecDepth 100000 in
theorem k_X12_looks_1 (l : Launch) (adK adV : Nat → Nat) (dC : Nat → ClassId) (dI : Nat → Nat → Nat) (cy : Nat → ClassId) (ad : Nat → Nat) (B : Int) (hB0 : 100000 ≤ B) (hB1 : B ≤ 1073741824) (qr : Nat) (s1 : Int)  (a1 : Int32) (ra1 : 0 ≤ a1.toInt) (ta1 : a1.toInt ≤ 3) (w0 : va_W) (sz : Nat) (hT : TW ksM ad cy B qr 12 w0)  : Met l yX12_looks (wu yX12_looks cX12_looks 2 none) ({ frames := 4, cells := 0, slots := 0, locals := 79 }) (va_Pc [.ref (ad 0), .int a1] (wpreS adK adV dC dI cy sz w0)) (va_Qv (P_X12_looks_1 ad cy B qr s1 a1 w0) (fun u : va_W => wpost dC dI cy (va_A w0 sz) u) (va_A w0 sz)) 0 0 (va_A w0 sz) := by
  refine Met.ofW (cc := cX12_looks) (maxL := 2) (ret := none) (by decide) rfl ?_
  intro p e s m args below meth c s₁ Bk hml hv
  obtain ⟨rfl, ⟨hsz, hP, hK, hD0⟩, hE, hSR⟩ := hv
  have hx := Bk.exec
  have hb := Bk.bytes
  have hr := Bk.returns
  have hlocks := Bk.notSynchronized
  have hC : CallFix p m c cX12_looks 2 s _ (wu yX12_looks cX12_looks 2 none) RX12 := ⟨hx, hb, hml, findClass_of_methodNamed Bk.named, atoms_spec (ws := (wu yX12_looks cX12_looks 2 none)) Bk.pre⟩
  subst hsz
  have hD := hD0.self (sz := s.heap.size)
  generalize hAe : va_A w0 s.heap.size = A at hD hE ⊢
  have hA : ∀ q : Nat, s.heap.size ≤ q → A q := fun q h => by rw [← hAe]; exact Or.inr h
  have hw : Wd dC dI A s.heap s.heap [] w0 := ⟨hP, hD, va_S.rf⟩
  have hF : FE ksM [(12, 31, 31), (72, 0, 12), (73, 0, 10)] w0 w0 := FE.rf
  have hl := lv_entry ([.ref (ad 0), .int a1]) (n := 2) (Nat.le_of_ble_eq_true rfl)
  rw [lg_entry_eq]
  generalize (lg_sl ([.ref (ad 0), .int a1]) ++ List.replicate (2 - (lg_sl ([.ref (ad 0), .int a1])).length) Slot.unset).toArray = ls at hl ⊢
  have hl : lv_has ls 2 [(0, .ref (ad 0)), (1, .int a1)] := hl
  generalize hloc : ([] : List Loc) = locs at hw ⊢
  have hinX12 : ∀ w ∈ u_ws RX12 TX12 42, w ∈ (wu yX12_looks cX12_looks 2 none) := fun _ h => List.mem_cons_of_mem _ (up_71 h)
  have J44 : ∀ (H : Heap) (locs : List Loc) (ls : Array Slot) (w1 : va_W), 0 ≤ a1.toInt → a1.toInt ≤ 3 → Wd dC dI A s.heap H locs w1 → TW ksM ad cy B qr 12 w1 → FE ksM [(12, 31, 31), (72, 0, 12), (73, 0, 10)] w0 w1 → lv_has ls 2 [(0, .ref (ad 0)), (1, .int a1)] → W p l e ({ frames := 4, cells := 0, slots := 0, locals := 79 }) s m (List.toArray [.ref (ad 0), .int a1]) below meth c H locs 0 0 (MQ below (va_Qv (P_X12_looks_1 ad cy B qr s1 a1 w0) (fun u : va_W => wpost dC dI cy A u) A) (List.toArray [.ref (ad 0), .int a1]) s 0 0 A) (F0 m 44 ls []) := by
    intro H locs ls w1 r2 t3 hw hT hF hl
    refine lv_aload_n hx hb dX12_looks_44 rfl (lv_at hl 0 rfl) ?_
    refine lv_aload_n hx hb dX12_looks_45 rfl (lv_at hl 0 rfl) ?_
    refine lv_iload_n hx hb dX12_looks_46 rfl (lv_at hl 1 rfl) ?_
    refine lv_iconst (v := 1) hx hb dX12_looks_47 (by decide) ?_
    refine tk_Vi hC hK hw hT hA hE hSR kM_at0 (by decide) rfl (k_X12_walkerOf_3 l adK adV dC dI cy ad B hB0 (Int.le_trans hB1 (by decide)) qr s1   a1 (show 0 ≤ a1.toInt from r2) (show a1.toInt ≤ 3 from t3) w1 H.size hT ) (cwV 2 hC.2.2.2.2 uV_RX12_372 rfl rfl rfl (by decide +kernel) ⟨Nat.le_of_ble_eq_true rfl, Nat.le_of_ble_eq_true rfl⟩) rfl hl.1 rfl (Nat.le_of_ble_eq_true rfl) dX12_looks_48 (fun r4 w6 H locs hp5 hw => ?_)
    obtain ⟨rfl, hg11⟩ := hp5
    obtain ⟨g8, g9, c10⟩ := hg11
    refine tk_Vv hC hK hw hT hA hE hSR kM_at0 (by decide) rfl (k_X12_spreads_1 l adK adV dC dI cy ad B hB0 (Int.le_trans hB1 (by decide)) qr s1   r4 (show 0 ≤ r4.toInt by first | with_reducible assumption | omega) (show r4.toInt ≤ 9 by first | with_reducible assumption | omega) w1 H.size hT ) (cwV 1 hC.2.2.2.2 uV_RX12_354 rfl rfl rfl (by decide +kernel) ⟨Nat.le_of_ble_eq_true rfl, Nat.le_of_ble_eq_true rfl⟩) rfl hl.1 rfl (Nat.le_of_ble_eq_true rfl) dX12_looks_51 (fun w14 H locs hp13 hw => ?_)
    obtain ⟨hT, k15, hg16⟩ := hp13
    have hF := hF.tr k15 (by decide)
    have c17 := k15.gi kM_at12 rfl c10
    clear hg16
    refine lv_aload_n hx hb dX12_looks_54 rfl (lv_at hl 0 rfl) ?_
    refine lv_aload_n hx hb dX12_looks_55 rfl (lv_at hl 0 rfl) ?_
    refine lv_aload_n hx hb dX12_looks_56 rfl (lv_at hl 0 rfl) ?_
    refine lv_iload_n hx hb dX12_looks_57 rfl (lv_at hl 1 rfl) ?_
    refine lv_iconst (v := 0) hx hb dX12_looks_58 (by decide) ?_
    refine tk_Vi hC hK hw hT hA hE hSR kM_at0 (by decide) rfl (k_X12_walkerOf_2 l adK adV dC dI cy ad B hB0 (Int.le_trans hB1 (by decide)) qr s1   a1 (show 0 ≤ a1.toInt from r2) (show a1.toInt ≤ 3 from t3) w14 H.size hT ) (cwV 2 hC.2.2.2.2 uV_RX12_372 rfl rfl rfl (by decide +kernel) ⟨Nat.le_of_ble_eq_true rfl, Nat.le_of_ble_eq_true rfl⟩) rfl hl.1 rfl (Nat.le_of_ble_eq_true rfl) dX12_looks_59 (fun r18 w20 H locs hp19 hw => ?_)
    obtain ⟨rfl, hg25⟩ := hp19
    obtain ⟨g22, g23, c24⟩ := hg25
    refine tk_Vi hC hK hw hT hA hE hSR kM_at0 (by decide) rfl (k_X12_streetFrom_1 l adK adV dC dI cy ad B hB0 (Int.le_trans hB1 (by decide)) qr s1   r18 (show 0 ≤ r18.toInt by first | with_reducible assumption | omega) (show r18.toInt ≤ 9 by first | with_reducible assumption | omega) w14 H.size hT ) (cwV 1 hC.2.2.2.2 uV_RX12_357 rfl rfl rfl (by decide +kernel) ⟨Nat.le_of_ble_eq_true rfl, Nat.le_of_ble_eq_true rfl⟩) rfl hl.1 rfl (Nat.le_of_ble_eq_true rfl) dX12_looks_62 (fun r26 w28 H locs hp27 hw => ?_)
    obtain ⟨rfl, hg46⟩ := hp27
    rcases hg46 with ⟨g30, g31, ⟨x32, c33, rx32, tx32⟩, c34, c35⟩ | ⟨g36, g37, ⟨x38, c39, rx38, tx38⟩, c40⟩ | ⟨g41, g42, ⟨x43, c44, rx43, tx43⟩, c45⟩ | rfl
    · refine tk_puti hC hK hw hT hinX12 tyX12_ok nmX12 kM_at0 (by decide) rfl rfl 31 (by decide) (List.mem_cons_of_mem _ uw_46_23) rfl rfl rfl rfl (show (-1) ≤ r26.toInt by first | with_reducible assumption | omega) (show r26.toInt ≤ 11 by first | with_reducible assumption | omega) dX12_looks_65 (fun H locs w47 hw hT k49 c48 => ?_)
      have hF := hF.put kM_at0 (k := 31) (by decide) k49
      have c50 := k49.gi (Or.inl (tk_ne kM_at12 kM_at0 (by decide))) c17
      have c51 := k49.gi (Or.inl (tk_ne kM_at12 kM_at0 (by decide))) c24
      have c52 := k49.gi (Or.inr (by decide)) c33
      have c53 := k49.gi (Or.inl (tk_ne kM_at12 kM_at0 (by decide))) c34
      have c54 := k49.gi (Or.inl (tk_ne kM_at12 kM_at0 (by decide))) c35
      exact tk_vret hC hr hlocks hK ⟨hT, hF, ⟨r26, c48, (show (-1) ≤ r26.toInt by first | with_reducible assumption | omega), (show r26.toInt ≤ 11 by first | with_reducible assumption | omega)⟩⟩ hw dX12_looks_68
    · refine tk_puti hC hK hw hT hinX12 tyX12_ok nmX12 kM_at0 (by decide) rfl rfl 31 (by decide) (List.mem_cons_of_mem _ uw_46_23) rfl rfl rfl rfl (show (-1) ≤ r26.toInt by first | with_reducible assumption | omega) (show r26.toInt ≤ 11 by first | with_reducible assumption | omega) dX12_looks_65 (fun H locs w55 hw hT k57 c56 => ?_)
      have hF := hF.put kM_at0 (k := 31) (by decide) k57
      have c58 := k57.gi (Or.inl (tk_ne kM_at12 kM_at0 (by decide))) c17
      have c59 := k57.gi (Or.inl (tk_ne kM_at12 kM_at0 (by decide))) c24
      have c60 := k57.gi (Or.inr (by decide)) c39
      have c61 := k57.gi (Or.inl (tk_ne kM_at12 kM_at0 (by decide))) c40
      exact tk_vret hC hr hlocks hK ⟨hT, hF, ⟨r26, c56, (show (-1) ≤ r26.toInt by first | with_reducible assumption | omega), (show r26.toInt ≤ 11 by first | with_reducible assumption | omega)⟩⟩ hw dX12_looks_68
    · refine tk_puti hC hK hw hT hinX12 tyX12_ok nmX12 kM_at0 (by decide) rfl rfl 31 (by decide) (List.mem_cons_of_mem _ uw_46_23) rfl rfl rfl rfl (show (-1) ≤ r26.toInt by first | with_reducible assumption | omega) (show r26.toInt ≤ 11 by first | with_reducible assumption | omega) dX12_looks_65 (fun H locs w62 hw hT k64 c63 => ?_)
      have hF := hF.put kM_at0 (k := 31) (by decide) k64
      have c65 := k64.gi (Or.inl (tk_ne kM_at12 kM_at0 (by decide))) c17
      have c66 := k64.gi (Or.inl (tk_ne kM_at12 kM_at0 (by decide))) c24
      have c67 := k64.gi (Or.inr (by decide)) c44
      have c68 := k64.gi (Or.inl (tk_ne kM_at12 kM_at0 (by decide))) c45
      exact tk_vret hC hr hlocks hK ⟨hT, hF, ⟨r26, c63, (show (-1) ≤ r26.toInt by first | with_reducible assumption | omega), (show r26.toInt ≤ 11 by first | with_reducible assumption | omega)⟩⟩ hw dX12_looks_68
    · refine tk_puti hC hK hw hT hinX12 tyX12_ok nmX12 kM_at0 (by decide) rfl rfl 31 (by decide) (List.mem_cons_of_mem _ uw_46_23) rfl rfl rfl rfl (by decide) (by decide) dX12_looks_65 (fun H locs w69 hw hT k71 c70 => ?_)
      have hF := hF.put kM_at0 (k := 31) (by decide) k71
      have c72 := k71.gi (Or.inl (tk_ne kM_at12 kM_at0 (by decide))) c17
      have c73 := k71.gi (Or.inl (tk_ne kM_at12 kM_at0 (by decide))) c24
      exact tk_vret hC hr hlocks hK ⟨hT, hF, ⟨(-1), c70, (by decide), (by decide)⟩⟩ hw dX12_looks_68
  have J34 : ∀ (H : Heap) (locs : List Loc) (ls : Array Slot) (w74 : va_W), 0 ≤ a1.toInt → a1.toInt ≤ 3 → Wd dC dI A s.heap H locs w74 → TW ksM ad cy B qr 12 w74 → FE ksM [(12, 31, 31), (72, 0, 12), (73, 0, 10)] w0 w74 → lv_has ls 2 [(0, .ref (ad 0)), (1, .int a1)] → W p l e ({ frames := 4, cells := 0, slots := 0, locals := 79 }) s m (List.toArray [.ref (ad 0), .int a1]) below meth c H locs 0 0 (MQ below (va_Qv (P_X12_looks_1 ad cy B qr s1 a1 w0) (fun u : va_W => wpost dC dI cy A u) A) (List.toArray [.ref (ad 0), .int a1]) s 0 0 A) (F0 m 34 ls []) := by
    intro H locs ls w74 r75 t76 hw hT hF hl
    refine lv_aload_n hx hb dX12_looks_34 rfl (lv_at hl 0 rfl) ?_
    refine lv_aload_n hx hb dX12_looks_35 rfl (lv_at hl 0 rfl) ?_
    refine lv_iload_n hx hb dX12_looks_36 rfl (lv_at hl 1 rfl) ?_
    refine lv_iconst (v := 2) hx hb dX12_looks_37 (by decide) ?_
    refine tk_Vi hC hK hw hT hA hE hSR kM_at0 (by decide) rfl (k_X12_walkerOf_10 l adK adV dC dI cy ad B hB0 (Int.le_trans hB1 (by decide)) qr s1   a1 (show 0 ≤ a1.toInt from r75) (show a1.toInt ≤ 3 from t76) w74 H.size hT ) (cwV 2 hC.2.2.2.2 uV_RX12_372 rfl rfl rfl (by decide +kernel) ⟨Nat.le_of_ble_eq_true rfl, Nat.le_of_ble_eq_true rfl⟩) rfl hl.1 rfl (Nat.le_of_ble_eq_true rfl) dX12_looks_38 (fun r77 w79 H locs hp78 hw => ?_)
    obtain ⟨rfl, hg84⟩ := hp78
    obtain ⟨g81, g82, c83⟩ := hg84
    refine tk_Vv hC hK hw hT hA hE hSR kM_at0 (by decide) rfl (k_X12_takesMap_1 l adK adV dC dI cy ad B hB0 (Int.le_trans hB1 (by decide)) qr s1   r77 (show 0 ≤ r77.toInt by first | with_reducible assumption | omega) (show r77.toInt ≤ 3 by first | with_reducible assumption | omega) w74 H.size hT ) (cwV 1 hC.2.2.2.2 uV_RX12_351 rfl rfl rfl (by decide +kernel) ⟨Nat.le_of_ble_eq_true rfl, Nat.le_of_ble_eq_true rfl⟩) rfl hl.1 rfl (Nat.le_of_ble_eq_true rfl) dX12_looks_41 (fun w87 H locs hp86 hw => ?_)
    obtain ⟨hT, k88, hg89⟩ := hp86
    have hF := hF.tr k88 (by decide)
    have c90 := k88.gi kM_at12 rfl c83
    clear hg89
    exact J44  H locs ls w87 (show 0 ≤ a1.toInt from r75) (show a1.toInt ≤ 3 from t76)  hw hT hF  (lv_sub hl [0, 1] rfl)
  refine lv_aload_n hx hb dX12_looks_0 rfl (lv_at hl 0 rfl) ?_
  refine lv_iload_n hx hb dX12_looks_1 rfl (lv_at hl 1 rfl) ?_
  refine tk_Vi hC hK hw hT hA hE hSR kM_at0 (by decide) rfl (k_X12_askedToday_1 l adK adV dC dI cy ad B hB0 (Int.le_trans hB1 (by decide)) qr s1   a1 (show 0 ≤ a1.toInt from ra1) (show a1.toInt ≤ 3 from ta1) w0 s.heap.size hT ) (cwV 1 hC.2.2.2.2 uV_RX12_375 rfl rfl rfl (by decide +kernel) ⟨Nat.le_of_ble_eq_true rfl, Nat.le_of_ble_eq_true rfl⟩) rfl hl.1 rfl (Nat.le_of_ble_eq_true rfl) dX12_looks_2 (fun r91 w93 H locs hp92 hw => ?_)
  obtain ⟨rfl, hg95⟩ := hp92
  rcases hg95 with rfl | rfl
  · refine lv_if_eq (tgt := 34) hx hb dX12_looks_5 (by decide) (fun _ => ?_) (fun c => absurd (by decide) c)
    exact J34  H locs ls w0 (show 0 ≤ a1.toInt from ra1) (show a1.toInt ≤ 3 from ta1)  hw hT hF  (lv_sub hl [0, 1] rfl)
  · refine lv_if_eq (tgt := 34) hx hb dX12_looks_5 (by decide) (fun c => absurd c (by decide)) (fun _ => ?_)
    refine lv_aload_n hx hb dX12_looks_8 rfl (lv_at hl 0 rfl) ?_
    refine tk_geti hC hK hw hT hinX12 kM_at0 (by decide) rfl 30 (by decide) (List.mem_cons_of_mem _ uw_47_4) rfl rfl dX12_looks_9 (fun x96 c97 rx96 tx96 => ?_)
    refine lv_if_ne (tgt := 34) hx hb dX12_looks_12 (by decide) (fun c98 => ?_) (fun c98 => ?_)
    · have c98 : ¬ x96.toInt = (0 : Int) := wk_eqF c98
      exact J34  H locs ls w0 (show 0 ≤ a1.toInt from ra1) (show a1.toInt ≤ 3 from ta1)  hw hT hF  (lv_sub hl [0, 1] rfl)
    · have c98 : x96.toInt = (0 : Int) := wk_eq.mp c98
      refine lv_aload_n hx hb dX12_looks_15 rfl (lv_at hl 0 rfl) ?_
      refine lv_aload_n hx hb dX12_looks_16 rfl (lv_at hl 0 rfl) ?_
      refine lv_iload_n hx hb dX12_looks_17 rfl (lv_at hl 1 rfl) ?_
      refine lv_iconst (v := 4) hx hb dX12_looks_18 (by decide) ?_
      refine tk_Vi hC hK hw hT hA hE hSR kM_at0 (by decide) rfl (k_X12_walkerOf_4 l adK adV dC dI cy ad B hB0 (Int.le_trans hB1 (by decide)) qr s1   a1 (show 0 ≤ a1.toInt from ra1) (show a1.toInt ≤ 3 from ta1) w0 H.size hT ) (cwV 2 hC.2.2.2.2 uV_RX12_372 rfl rfl rfl (by decide +kernel) ⟨Nat.le_of_ble_eq_true rfl, Nat.le_of_ble_eq_true rfl⟩) rfl hl.1 rfl (Nat.le_of_ble_eq_true rfl) dX12_looks_19 (fun r99 w101 H locs hp100 hw => ?_)
      obtain ⟨rfl, hg106⟩ := hp100
      obtain ⟨g103, g104, c105⟩ := hg106
      refine lv_bipush (v := 24) hx hb dX12_looks_22 (by decide) ?_
      refine lv_idiv hx hb dX12_looks_24 (by decide) ?_
      refine lv_topi (fun x107 ex107 => ?_)
      have ex107 : x107.toInt = r99.toInt / (24 : Int) := by rw [ex107]; exact wk_div (show 0 ≤ r99.toInt by first | with_reducible assumption | omega) (show 0 < (24 : Int) by decide)
      refine lv_bipush (v := 7) hx hb dX12_looks_25 (by decide) ?_
      refine lv_irem hx hb dX12_looks_27 (by decide) ?_
      refine lv_topi (fun x108 ex108 => ?_)
      have ex108 : x108.toInt = x107.toInt % (7 : Int) := by rw [ex108]; exact wk_rem (show 0 ≤ x107.toInt by first | with_reducible assumption | omega) (show 0 < (7 : Int) by decide)
      refine tk_Vv hC hK hw hT hA hE hSR kM_at0 (by decide) rfl (k_X12_takesDay_1 l adK adV dC dI cy ad B hB0 (Int.le_trans hB1 (by decide)) qr s1   x108 (show 0 ≤ x108.toInt by first | with_reducible assumption | omega) (show x108.toInt ≤ 6 by first | with_reducible assumption | omega) w0 H.size hT ) (cwV 1 hC.2.2.2.2 uV_RX12_381 rfl rfl rfl (by decide +kernel) ⟨Nat.le_of_ble_eq_true rfl, Nat.le_of_ble_eq_true rfl⟩) rfl hl.1 rfl (Nat.le_of_ble_eq_true rfl) dX12_looks_28 (fun w111 H locs hp110 hw => ?_)
      obtain ⟨hT, k112, hg113⟩ := hp110
      have hF := hF.tr k112 (by decide)
      have c114 := k112.gi kM_at0 (by decide) c97
      clear hg113
      refine lv_goto (tgt := 44) hx hb dX12_looks_31 (by decide) ?_
      exact J44  H locs ls w111 (show 0 ≤ a1.toInt from ra1) (show a1.toInt ≤ 3 from ta1)  hw hT hF  (lv_sub hl [0, 1] rfl)
abbrev P_X12_takesStreet_1 (ad : Nat → Nat) (cy : Nat → ClassId) (B : Int) (qr : Nat) (s1 : Int) (a1 : Int32) (a2 : Int32) (w0 : va_W) : va_W → Prop := fun u => TW ksM ad cy (B + 9) qr 12 u ∧ FE ksM [(71, 216, 243), (71, 220, 247), (71, 223, 250)] w0 u ∧ ((True))
set_option maxHeartbeats 4000000 in
set_option maxRecDepth 100000 in
theorem k_X12_takesStreet_1 (l : Launch) (adK adV : Nat → Nat) (dC : Nat → ClassId) (dI : Nat → Nat → Nat) (cy : Nat → ClassId) (ad : Nat → Nat) (B : Int) (hB0 : 100000 ≤ B) (hB1 : B ≤ 1073741824) (qr : Nat) (s1 : Int)  (a1 : Int32) (ra1 : 0 ≤ a1.toInt) (ta1 : a1.toInt ≤ 3) (a2 : Int32) (ra2 : 0 ≤ a2.toInt) (ta2 : a2.toInt ≤ 11) (w0 : va_W) (sz : Nat) (hT : TW ksM ad cy B qr 12 w0)  : Met l yX12_takesStreet (wu yX12_takesStreet cX12_takesStreet 5 none) ({ frames := 3, cells := 0, slots := 0, locals := 56 }) (va_Pc [.ref (ad 0), .int a1, .int a2] (wpreS adK adV dC dI cy sz w0)) (va_Qv (P_X12_takesStreet_1 ad cy B qr s1 a1 a2 w0) (fun u : va_W => wpost dC dI cy (va_A w0 sz) u) (va_A w0 sz)) 0 0 (va_A w0 sz) := by
  refine Met.ofW (cc := cX12_takesStreet) (maxL := 5) (ret := none) (by decide) rfl ?_
  intro p e s m args below meth c s₁ Bk hml hv
  obtain ⟨rfl, ⟨hsz, hP, hK, hD0⟩, hE, hSR⟩ := hv
  have hx := Bk.exec
  have hb := Bk.bytes
  have hr := Bk.returns
  have hlocks := Bk.notSynchronized
  have hC : CallFix p m c cX12_takesStreet 5 s _ (wu yX12_takesStreet cX12_takesStreet 5 none) RX12 := ⟨hx, hb, hml, findClass_of_methodNamed Bk.named, atoms_spec (ws := (wu yX12_takesStreet cX12_takesStreet 5 none)) Bk.pre⟩
  subst hsz
  have hD := hD0.self (sz := s.heap.size)
  generalize hAe : va_A w0 s.heap.size = A at hD hE ⊢
  have hA : ∀ q : Nat, s.heap.size ≤ q → A q := fun q h => by rw [← hAe]; exact Or.inr h
  have hw : Wd dC dI A s.heap s.heap [] w0 := ⟨hP, hD, va_S.rf⟩
  have hF : FE ksM [(71, 216, 243), (71, 220, 247), (71, 223, 250)] w0 w0 := FE.rf
  have hl := lv_entry ([.ref (ad 0), .int a1, .int a2]) (n := 5) (Nat.le_of_ble_eq_true rfl)
  rw [lg_entry_eq]
  generalize (lg_sl ([.ref (ad 0), .int a1, .int a2]) ++ List.replicate (5 - (lg_sl ([.ref (ad 0), .int a1, .int a2])).length) Slot.unset).toArray = ls at hl ⊢
  have hl : lv_has ls 5 [(0, .ref (ad 0)), (1, .int a1), (2, .int a2)] := hl
  generalize hloc : ([] : List Loc) = locs at hw ⊢
  have hinX12 : ∀ w ∈ u_ws RX12 TX12 42, w ∈ (wu yX12_takesStreet cX12_takesStreet 5 none) := fun _ h => List.mem_cons_of_mem _ (up_71 h)
  refine lv_sipush (v := 216) hx hb dX12_takesStreet_0 (by decide) ?_
  refine lv_bipush (v := 9) hx hb dX12_takesStreet_3 (by decide) ?_
  refine lv_iload_n hx hb dX12_takesStreet_5 rfl (lv_at hl 1 rfl) ?_
  refine lv_imul hx hb dX12_takesStreet_6 ?_
  refine lv_topi (fun x1 ex1 => ?_)
  have ex1 : x1.toInt = (9 : Int) * a1.toInt := by rw [ex1]; exact wk_mul (show (-2147483648) ≤ (9 : Int) * a1.toInt by omega) (show (9 : Int) * a1.toInt ≤ 2147483647 by omega)
  refine lv_iadd hx hb dX12_takesStreet_7 ?_
  refine lv_topi (fun x2 ex2 => ?_)
  have ex2 : x2.toInt = (216 : Int) + x1.toInt := by rw [ex2]; exact wk_add (show (-2147483648) ≤ (216 : Int) + x1.toInt by omega) (show (216 : Int) + x1.toInt ≤ 2147483647 by omega)
  refine lv_istore_n (lv' := [(3, .int x2), (0, .ref (ad 0)), (1, .int a1), (2, .int a2)]) hx hb dX12_takesStreet_8 rfl hl (by decide) rfl (fun ls hl => ?_)
  refine lv_aload_n hx hb dX12_takesStreet_9 rfl (lv_at hl 1 rfl) ?_
  refine tk_getA hC hK hw hT hinX12 kM_at0 (by decide) rfl 26 (by decide) (List.mem_cons_of_mem _ uw_7_1) rfl rfl dX12_takesStreet_10 ?_
  refine lv_iload_n hx hb dX12_takesStreet_13 rfl (lv_at hl 0 rfl) ?_
  refine tk_ialdR hC hK hw hT kM_at12 rfl (show 0 ≤ x2.toInt by first | with_reducible assumption | omega) (show x2.toInt < 296 by first | with_reducible assumption | omega) dX12_takesStreet_14 (fun x3 c4 Ex3 => ?_)
  have c4 : gi w0 12 (9 * a1.toInt + 216).toNat = x3 := (congrArg (gi w0 12) (congrArg Int.toNat (show 9 * a1.toInt + 216 = x2.toInt by first | exact Int.le_antisymm (by omega) (by omega) | omega))).trans c4
  have bx3 := tk_rgI rfl 216 9 4 0 9 (by decide +kernel) ⟨(a1.toInt - 0).toNat, by omega, show x2.toInt.toNat = 216 + 9 * (a1.toInt - 0).toNat by omega⟩ Ex3
  refine lv_istore (lv' := [(4, .int x3), (3, .int x2), (0, .ref (ad 0)), (1, .int a1), (2, .int a2)]) hx hb dX12_takesStreet_15 hl (by decide) rfl (fun ls hl => ?_)
  refine lv_aload_n hx hb dX12_takesStreet_17 rfl (lv_at hl 2 rfl) ?_
  refine tk_getA hC hK hw hT hinX12 kM_at0 (by decide) rfl 26 (by decide) (List.mem_cons_of_mem _ uw_7_1) rfl rfl dX12_takesStreet_18 ?_
  refine lv_iload_n hx hb dX12_takesStreet_21 rfl (lv_at hl 1 rfl) ?_
  refine lv_aload_n hx hb dX12_takesStreet_22 rfl (lv_at hl 2 rfl) ?_
  refine lv_iload_n hx hb dX12_takesStreet_23 rfl (lv_at hl 4 rfl) ?_
  refine lv_iload hx hb dX12_takesStreet_24 (lv_at hl 0 rfl) ?_
  refine tk_Vi hC hK hw hT hA hE hSR kM_at0 (by decide) rfl (k_X12_otherOf_1 l adK adV dC dI cy ad B hB0 (Int.le_trans hB1 (by decide)) qr s1   a2 (show 0 ≤ a2.toInt from ra2) (show a2.toInt ≤ 11 from ta2) x3 (show 0 ≤ x3.toInt by first | with_reducible assumption | omega) (show x3.toInt ≤ 9 by first | with_reducible assumption | omega) w0 s.heap.size hT ) (cwV 2 hC.2.2.2.2 uV_RX12_348 rfl rfl rfl (by decide +kernel) ⟨Nat.le_of_ble_eq_true rfl, Nat.le_of_ble_eq_true rfl⟩) rfl hl.1 rfl (Nat.le_of_ble_eq_true rfl) dX12_takesStreet_26 (fun r5 w7 H locs hp6 hw => ?_)
  obtain ⟨rfl, hg14⟩ := hp6
  rcases hg14 with ⟨g9, g10⟩ | ⟨g11, g12, c13⟩
  · refine tk_iastR hC hK hw hT kM_at12 (by decide) rfl (show 0 ≤ x2.toInt by first | with_reducible assumption | omega) (show x2.toInt < 296 by first | with_reducible assumption | omega) (tk_rgS rfl 216 9 4 0 9 (by decide +kernel) ⟨(a1.toInt - 0).toNat, by omega, show x2.toInt.toNat = 216 + 9 * (a1.toInt - 0).toNat by omega⟩ (show 0 ≤ r5.toInt by first | with_reducible assumption | omega) (show r5.toInt ≤ 9 by first | with_reducible assumption | omega)) dX12_takesStreet_29 (fun H locs w15 hw hT k17 c16 => ?_)
    have hF := hF.put kM_at12 (inE_of (a := 216) (b := 243) (by decide) (show 216 ≤ x2.toInt.toNat by omega) (show x2.toInt.toNat ≤ 243 by omega)) k17
    refine lv_aload_n hx hb dX12_takesStreet_30 rfl (lv_at hl 2 rfl) ?_
    refine tk_getA hC hK hw hT hinX12 kM_at0 (by decide) rfl 26 (by decide) (List.mem_cons_of_mem _ uw_7_1) rfl rfl dX12_takesStreet_31 ?_
    refine lv_iload_n hx hb dX12_takesStreet_34 rfl (lv_at hl 1 rfl) ?_
    refine lv_bipush (v := 7) hx hb dX12_takesStreet_35 (by decide) ?_
    refine lv_iadd hx hb dX12_takesStreet_37 ?_
    refine lv_topi (fun x18 ex18 => ?_)
    have ex18 : x18.toInt = x2.toInt + (7 : Int) := by rw [ex18]; exact wk_add (show (-2147483648) ≤ x2.toInt + (7 : Int) by omega) (show x2.toInt + (7 : Int) ≤ 2147483647 by omega)
    refine lv_iload hx hb dX12_takesStreet_38 (lv_at hl 0 rfl) ?_
    refine tk_iastR hC hK hw hT kM_at12 (by decide) rfl (show 0 ≤ x18.toInt by first | with_reducible assumption | omega) (show x18.toInt < 296 by first | with_reducible assumption | omega) (tk_rgS rfl 223 9 4 0 9 (by decide +kernel) ⟨(a1.toInt - 0).toNat, by omega, show x18.toInt.toNat = 223 + 9 * (a1.toInt - 0).toNat by omega⟩ (show 0 ≤ x3.toInt by first | with_reducible assumption | omega) (show x3.toInt ≤ 9 by first | with_reducible assumption | omega)) dX12_takesStreet_40 (fun H locs w19 hw hT k21 c20 => ?_)
    have hF := hF.put kM_at12 (inE_of (a := 223) (b := 250) (by decide) (show 223 ≤ x18.toInt.toNat by omega) (show x18.toInt.toNat ≤ 250 by omega)) k21
    refine lv_aload_n hx hb dX12_takesStreet_41 rfl (lv_at hl 2 rfl) ?_
    refine tk_getA hC hK hw hT hinX12 kM_at0 (by decide) rfl 26 (by decide) (List.mem_cons_of_mem _ uw_7_1) rfl rfl dX12_takesStreet_42 ?_
    refine lv_iload_n hx hb dX12_takesStreet_45 rfl (lv_at hl 1 rfl) ?_
    refine lv_iconst (v := 4) hx hb dX12_takesStreet_46 (by decide) ?_
    refine lv_iadd hx hb dX12_takesStreet_47 ?_
    refine lv_topi (fun x22 ex22 => ?_)
    have ex22 : x22.toInt = x2.toInt + (4 : Int) := by rw [ex22]; exact wk_add (show (-2147483648) ≤ x2.toInt + (4 : Int) by omega) (show x2.toInt + (4 : Int) ≤ 2147483647 by omega)
    refine lv_dup2_11 hx hb dX12_takesStreet_48 rfl rfl ?_
    refine tk_ialdR hC hK hw hT kM_at12 rfl (show 0 ≤ x22.toInt by first | with_reducible assumption | omega) (show x22.toInt < 296 by first | with_reducible assumption | omega) dX12_takesStreet_49 (fun x23 c24 Ex23 => ?_)
    have c24 : gi w19 12 (9 * a1.toInt + 220).toNat = x23 := (congrArg (gi w19 12) (congrArg Int.toNat (show 9 * a1.toInt + 220 = x22.toInt by first | exact Int.le_antisymm (by omega) (by omega) | omega))).trans c24
    have bx23 := (tk_rgB rfl 220 9 4 (by decide +kernel) ⟨(a1.toInt - 0).toNat, by omega, show x22.toInt.toNat = 220 + 9 * (a1.toInt - 0).toNat by omega⟩).mp Ex23
    refine lv_aload_n hx hb dX12_takesStreet_50 rfl (lv_at hl 2 rfl) ?_
    refine lv_iload_n hx hb dX12_takesStreet_51 rfl (lv_at hl 4 rfl) ?_
    refine lv_iconst (v := 2) hx hb dX12_takesStreet_52 (by decide) ?_
    refine tk_Vi hC hK hw hT hA hE hSR kM_at0 (by decide) rfl (k_X12_streetOf_6 l adK adV dC dI cy ad B hB0 (Int.le_trans hB1 (by decide)) qr s1   a2 (show 0 ≤ a2.toInt from ra2) (show a2.toInt ≤ 11 from ta2) w19 H.size hT ) (cwV 2 hC.2.2.2.2 uV_RX12_300 rfl rfl rfl (by decide +kernel) ⟨Nat.le_of_ble_eq_true rfl, Nat.le_of_ble_eq_true rfl⟩) rfl hl.1 rfl (Nat.le_of_ble_eq_true rfl) dX12_takesStreet_53 (fun r25 w27 H locs hp26 hw => ?_)
    obtain ⟨rfl, hg32⟩ := hp26
    obtain ⟨g29, g30, c31⟩ := hg32
    refine lv_iadd hx hb dX12_takesStreet_56 ?_
    refine lv_topi (fun x33 ex33 => ?_)
    have ex33 : x33.toInt = x23.toInt + r25.toInt := by rw [ex33]; exact wk_add (show (-2147483648) ≤ x23.toInt + r25.toInt by omega) (show x23.toInt + r25.toInt ≤ 2147483647 by omega)
    have hT := hT.up (show B ≤ (B + 9) by omega)
    refine tk_iastR hC hK hw hT kM_at12 (by decide) rfl (show 0 ≤ x22.toInt by first | with_reducible assumption | omega) (show x22.toInt < 296 by first | with_reducible assumption | omega) ((tk_rgB rfl 220 9 4 (by decide +kernel) ⟨(a1.toInt - 0).toNat, by omega, show x22.toInt.toNat = 220 + 9 * (a1.toInt - 0).toNat by omega⟩).mpr ⟨(show 0 ≤ x33.toInt by first | with_reducible assumption | omega), (show x33.toInt ≤ (B + 9) by omega)⟩) dX12_takesStreet_57 (fun H locs w34 hw hT k36 c35 => ?_)
    have hF := hF.put kM_at12 (inE_of (a := 220) (b := 247) (by decide) (show 220 ≤ x22.toInt.toNat by omega) (show x22.toInt.toNat ≤ 247 by omega)) k36
    exact tk_vret hC hr hlocks hK ⟨hT, hF, trivial⟩ hw dX12_takesStreet_58
  · refine tk_iastR hC hK hw hT kM_at12 (by decide) rfl (show 0 ≤ x2.toInt by first | with_reducible assumption | omega) (show x2.toInt < 296 by first | with_reducible assumption | omega) (tk_rgS rfl 216 9 4 0 9 (by decide +kernel) ⟨(a1.toInt - 0).toNat, by omega, show x2.toInt.toNat = 216 + 9 * (a1.toInt - 0).toNat by omega⟩ (show 0 ≤ r5.toInt by first | with_reducible assumption | omega) (show r5.toInt ≤ 9 by first | with_reducible assumption | omega)) dX12_takesStreet_29 (fun H locs w37 hw hT k39 c38 => ?_)
    have hF := hF.put kM_at12 (inE_of (a := 216) (b := 243) (by decide) (show 216 ≤ x2.toInt.toNat by omega) (show x2.toInt.toNat ≤ 243 by omega)) k39
    refine lv_aload_n hx hb dX12_takesStreet_30 rfl (lv_at hl 2 rfl) ?_
    refine tk_getA hC hK hw hT hinX12 kM_at0 (by decide) rfl 26 (by decide) (List.mem_cons_of_mem _ uw_7_1) rfl rfl dX12_takesStreet_31 ?_
    refine lv_iload_n hx hb dX12_takesStreet_34 rfl (lv_at hl 1 rfl) ?_
    refine lv_bipush (v := 7) hx hb dX12_takesStreet_35 (by decide) ?_
    refine lv_iadd hx hb dX12_takesStreet_37 ?_
    refine lv_topi (fun x40 ex40 => ?_)
    have ex40 : x40.toInt = x2.toInt + (7 : Int) := by rw [ex40]; exact wk_add (show (-2147483648) ≤ x2.toInt + (7 : Int) by omega) (show x2.toInt + (7 : Int) ≤ 2147483647 by omega)
    refine lv_iload hx hb dX12_takesStreet_38 (lv_at hl 0 rfl) ?_
    refine tk_iastR hC hK hw hT kM_at12 (by decide) rfl (show 0 ≤ x40.toInt by first | with_reducible assumption | omega) (show x40.toInt < 296 by first | with_reducible assumption | omega) (tk_rgS rfl 223 9 4 0 9 (by decide +kernel) ⟨(a1.toInt - 0).toNat, by omega, show x40.toInt.toNat = 223 + 9 * (a1.toInt - 0).toNat by omega⟩ (show 0 ≤ x3.toInt by first | with_reducible assumption | omega) (show x3.toInt ≤ 9 by first | with_reducible assumption | omega)) dX12_takesStreet_40 (fun H locs w41 hw hT k43 c42 => ?_)
    have hF := hF.put kM_at12 (inE_of (a := 223) (b := 250) (by decide) (show 223 ≤ x40.toInt.toNat by omega) (show x40.toInt.toNat ≤ 250 by omega)) k43
    refine lv_aload_n hx hb dX12_takesStreet_41 rfl (lv_at hl 2 rfl) ?_
    refine tk_getA hC hK hw hT hinX12 kM_at0 (by decide) rfl 26 (by decide) (List.mem_cons_of_mem _ uw_7_1) rfl rfl dX12_takesStreet_42 ?_
    refine lv_iload_n hx hb dX12_takesStreet_45 rfl (lv_at hl 1 rfl) ?_
    refine lv_iconst (v := 4) hx hb dX12_takesStreet_46 (by decide) ?_
    refine lv_iadd hx hb dX12_takesStreet_47 ?_
    refine lv_topi (fun x44 ex44 => ?_)
    have ex44 : x44.toInt = x2.toInt + (4 : Int) := by rw [ex44]; exact wk_add (show (-2147483648) ≤ x2.toInt + (4 : Int) by omega) (show x2.toInt + (4 : Int) ≤ 2147483647 by omega)
    refine lv_dup2_11 hx hb dX12_takesStreet_48 rfl rfl ?_
    refine tk_ialdR hC hK hw hT kM_at12 rfl (show 0 ≤ x44.toInt by first | with_reducible assumption | omega) (show x44.toInt < 296 by first | with_reducible assumption | omega) dX12_takesStreet_49 (fun x45 c46 Ex45 => ?_)
    have c46 : gi w41 12 (9 * a1.toInt + 220).toNat = x45 := (congrArg (gi w41 12) (congrArg Int.toNat (show 9 * a1.toInt + 220 = x44.toInt by first | exact Int.le_antisymm (by omega) (by omega) | omega))).trans c46
    have bx45 := (tk_rgB rfl 220 9 4 (by decide +kernel) ⟨(a1.toInt - 0).toNat, by omega, show x44.toInt.toNat = 220 + 9 * (a1.toInt - 0).toNat by omega⟩).mp Ex45
    refine lv_aload_n hx hb dX12_takesStreet_50 rfl (lv_at hl 2 rfl) ?_
    refine lv_iload_n hx hb dX12_takesStreet_51 rfl (lv_at hl 4 rfl) ?_
    refine lv_iconst (v := 2) hx hb dX12_takesStreet_52 (by decide) ?_
    refine tk_Vi hC hK hw hT hA hE hSR kM_at0 (by decide) rfl (k_X12_streetOf_6 l adK adV dC dI cy ad B hB0 (Int.le_trans hB1 (by decide)) qr s1   a2 (show 0 ≤ a2.toInt from ra2) (show a2.toInt ≤ 11 from ta2) w41 H.size hT ) (cwV 2 hC.2.2.2.2 uV_RX12_300 rfl rfl rfl (by decide +kernel) ⟨Nat.le_of_ble_eq_true rfl, Nat.le_of_ble_eq_true rfl⟩) rfl hl.1 rfl (Nat.le_of_ble_eq_true rfl) dX12_takesStreet_53 (fun r47 w49 H locs hp48 hw => ?_)
    obtain ⟨rfl, hg54⟩ := hp48
    obtain ⟨g51, g52, c53⟩ := hg54
    refine lv_iadd hx hb dX12_takesStreet_56 ?_
    refine lv_topi (fun x55 ex55 => ?_)
    have ex55 : x55.toInt = x45.toInt + r47.toInt := by rw [ex55]; exact wk_add (show (-2147483648) ≤ x45.toInt + r47.toInt by omega) (show x45.toInt + r47.toInt ≤ 2147483647 by omega)
    have hT := hT.up (show B ≤ (B + 9) by omega)
    refine tk_iastR hC hK hw hT kM_at12 (by decide) rfl (show 0 ≤ x44.toInt by first | with_reducible assumption | omega) (show x44.toInt < 296 by first | with_reducible assumption | omega) ((tk_rgB rfl 220 9 4 (by decide +kernel) ⟨(a1.toInt - 0).toNat, by omega, show x44.toInt.toNat = 220 + 9 * (a1.toInt - 0).toNat by omega⟩).mpr ⟨(show 0 ≤ x55.toInt by first | with_reducible assumption | omega), (show x55.toInt ≤ (B + 9) by omega)⟩) dX12_takesStreet_57 (fun H locs w56 hw hT k58 c57 => ?_)
    have hF := hF.put kM_at12 (inE_of (a := 220) (b := 247) (by decide) (show 220 ≤ x44.toInt.toNat by omega) (show x44.toInt.toNat ≤ 247 by omega)) k58
    exact tk_vret hC hr hlocks hK ⟨hT, hF, trivial⟩ hw dX12_takesStreet_58
abbrev P_X12_steps_1 (ad : Nat → Nat) (cy : Nat → ClassId) (B : Int) (qr : Nat) (s1 : Int) (a1 : Int32) (w0 : va_W) : Int32 → va_W → Prop := fun r u => TW ksM ad cy (B + 9) qr 12 u ∧ FE ksM [(12, 24, 24), (12, 31, 31), (69, 0, 64), (70, 0, 10), (71, 216, 243), (71, 220, 247), (71, 221, 248), (71, 222, 249), (71, 223, 250), (71, 224, 251), (72, 0, 12), (73, 0, 10)] w0 u ∧ ((r = 0) ∨ (r = 1))
set_option maxHeartbeats 4000000 in
set_option maxRecDepth 100000 in
theorem k_X12_steps_1 (l : Launch) (adK adV : Nat → Nat) (dC : Nat → ClassId) (dI : Nat → Nat → Nat) (cy : Nat → ClassId) (ad : Nat → Nat) (B : Int) (hB0 : 100000 ≤ B) (hB1 : B ≤ 1073741824) (qr : Nat) (s1 : Int)  (a1 : Int32) (ra1 : 0 ≤ a1.toInt) (ta1 : a1.toInt ≤ 3) (w0 : va_W) (sz : Nat) (hT : TW ksM ad cy B qr 12 w0) (hRW : RW w0) : Met l yX12_steps (wu yX12_steps cX12_steps 4 (some .boolean)) ({ frames := 8, cells := 0, slots := 0, locals := 171 }) (va_Pc [.ref (ad 0), .int a1] (wpreS adK adV dC dI cy sz w0)) (va_Qi (P_X12_steps_1 ad cy B qr s1 a1 w0) (fun u : va_W => wpost dC dI cy (va_A w0 sz) u) (va_A w0 sz)) 0 0 (va_A w0 sz) := by
  refine Met.ofW (cc := cX12_steps) (maxL := 4) (ret := (some .boolean)) (by decide) rfl ?_
  intro p e s m args below meth c s₁ Bk hml hv
  obtain ⟨rfl, ⟨hsz, hP, hK, hD0⟩, hE, hSR⟩ := hv
  have hx := Bk.exec
  have hb := Bk.bytes
  have hr := Bk.returns
  have hlocks := Bk.notSynchronized
  have hC : CallFix p m c cX12_steps 4 s _ (wu yX12_steps cX12_steps 4 (some .boolean)) RX12 := ⟨hx, hb, hml, findClass_of_methodNamed Bk.named, atoms_spec (ws := (wu yX12_steps cX12_steps 4 (some .boolean))) Bk.pre⟩
  subst hsz
  have hD := hD0.self (sz := s.heap.size)
  generalize hAe : va_A w0 s.heap.size = A at hD hE ⊢
  have hA : ∀ q : Nat, s.heap.size ≤ q → A q := fun q h => by rw [← hAe]; exact Or.inr h
  have hw : Wd dC dI A s.heap s.heap [] w0 := ⟨hP, hD, va_S.rf⟩
  have hF : FE ksM [(12, 24, 24), (12, 31, 31), (69, 0, 64), (70, 0, 10), (71, 216, 243), (71, 220, 247), (71, 221, 248), (71, 222, 249), (71, 223, 250), (71, 224, 251), (72, 0, 12), (73, 0, 10)] w0 w0 := FE.rf
  have hl := lv_entry ([.ref (ad 0), .int a1]) (n := 4) (Nat.le_of_ble_eq_true rfl)
  rw [lg_entry_eq]
  generalize (lg_sl ([.ref (ad 0), .int a1]) ++ List.replicate (4 - (lg_sl ([.ref (ad 0), .int a1])).length) Slot.unset).toArray = ls at hl ⊢
  have hl : lv_has ls 4 [(0, .ref (ad 0)), (1, .int a1)] := hl
  generalize hloc : ([] : List Loc) = locs at hw ⊢
  have hinX12 : ∀ w ∈ u_ws RX12 TX12 42, w ∈ (wu yX12_steps cX12_steps 4 (some .boolean)) := fun _ h => List.mem_cons_of_mem _ (up_71 h)
  have J125 : ∀ (v125_2 : Int32) (v125_3 : Int32) (f125_0_31 : Int32) (H : Heap) (locs : List Loc) (ls : Array Slot) (w1 : va_W), 0 ≤ a1.toInt → a1.toInt ≤ 3 → 0 ≤ v125_2.toInt → v125_2.toInt ≤ 1 → 216 ≤ v125_3.toInt → v125_3.toInt ≤ 243 → v125_3.toInt = 9 * a1.toInt + 216 → (-1) ≤ f125_0_31.toInt → f125_0_31.toInt ≤ 11 → Wd dC dI A s.heap H locs w1 → TW ksM ad cy (B + 9) qr 12 w1 → FE ksM [(12, 24, 24), (12, 31, 31), (69, 0, 64), (70, 0, 10), (71, 216, 243), (71, 220, 247), (71, 221, 248), (71, 222, 249), (71, 223, 250), (71, 224, 251), (72, 0, 12), (73, 0, 10)] w0 w1 → RW w1 → gi w1 0 31 = f125_0_31 → lv_has ls 4 [(0, .ref (ad 0)), (1, .int a1), (2, .int v125_2), (3, .int v125_3)] → W p l e ({ frames := 8, cells := 0, slots := 0, locals := 171 }) s m (List.toArray [.ref (ad 0), .int a1]) below meth c H locs 0 0 (MQ below (va_Qi (P_X12_steps_1 ad cy B qr s1 a1 w0) (fun u : va_W => wpost dC dI cy A u) A) (List.toArray [.ref (ad 0), .int a1]) s 0 0 A) (F0 m 125 ls []) := by
    intro v125_2 v125_3 f125_0_31 H locs ls w1 r2 t3 r4 t5 r6 t7 l8 r9 t10 hw hT hF hRW c11 hl
    refine lv_iconst (v := 1) hx hb dX12_steps_125 (by decide) ?_
    refine lv_goto (tgt := 130) hx hb dX12_steps_126 (by decide) ?_
    exact tk_zret hC hr rfl hlocks hK ⟨hT, hF, (Or.inr rfl)⟩ hw dX12_steps_130
  have J104 : ∀ (v104_2 : Int32) (v104_3 : Int32) (f104_0_31 : Int32) (H : Heap) (locs : List Loc) (ls : Array Slot) (w12 : va_W), 0 ≤ a1.toInt → a1.toInt ≤ 3 → 216 ≤ v104_3.toInt → v104_3.toInt ≤ 243 → v104_3.toInt = 9 * a1.toInt + 216 → (-1) ≤ f104_0_31.toInt → f104_0_31.toInt ≤ 11 → Wd dC dI A s.heap H locs w12 → TW ksM ad cy (B + 9) qr 12 w12 → FE ksM [(12, 24, 24), (12, 31, 31), (69, 0, 64), (70, 0, 10), (71, 216, 243), (71, 220, 247), (71, 221, 248), (71, 222, 249), (71, 223, 250), (71, 224, 251), (72, 0, 12), (73, 0, 10)] w0 w12 → RW w12 → gi w12 0 31 = f104_0_31 → lv_has ls 4 [(0, .ref (ad 0)), (1, .int a1), (2, .int v104_2), (3, .int v104_3)] → W p l e ({ frames := 8, cells := 0, slots := 0, locals := 171 }) s m (List.toArray [.ref (ad 0), .int a1]) below meth c H locs 0 0 (MQ below (va_Qi (P_X12_steps_1 ad cy B qr s1 a1 w0) (fun u : va_W => wpost dC dI cy A u) A) (List.toArray [.ref (ad 0), .int a1]) s 0 0 A) (F0 m 104 ls []) := by
    intro v104_2 v104_3 f104_0_31 H locs ls w12 r13 t14 r15 t16 l17 r18 t19 hw hT hF hRW c20 hl
    refine lv_aload_n hx hb dX12_steps_104 rfl (lv_at hl 0 rfl) ?_
    refine tk_getA hC hK hw hT hinX12 kM_at0 (by decide) rfl 26 (by decide) (List.mem_cons_of_mem _ uw_7_1) rfl rfl dX12_steps_105 ?_
    refine lv_iload_n hx hb dX12_steps_108 rfl (lv_at hl 3 rfl) ?_
    refine lv_iconst (v := 5) hx hb dX12_steps_109 (by decide) ?_
    refine lv_iadd hx hb dX12_steps_110 ?_
    refine lv_topi (fun x21 ex21 => ?_)
    have ex21 : x21.toInt = v104_3.toInt + (5 : Int) := by rw [ex21]; exact wk_add (show (-2147483648) ≤ v104_3.toInt + (5 : Int) by omega) (show v104_3.toInt + (5 : Int) ≤ 2147483647 by omega)
    refine lv_dup2_11 hx hb dX12_steps_111 rfl rfl ?_
    refine tk_ialdR hC hK hw hT kM_at12 rfl (show 0 ≤ x21.toInt by first | with_reducible assumption | omega) (show x21.toInt < 296 by first | with_reducible assumption | omega) dX12_steps_112 (fun x22 c23 Ex22 => ?_)
    have c23 : gi w12 12 (9 * a1.toInt + 221).toNat = x22 := (congrArg (gi w12 12) (congrArg Int.toNat (show 9 * a1.toInt + 221 = x21.toInt by first | exact Int.le_antisymm (by omega) (by omega) | omega))).trans c23
    refine lv_iconst (v := 1) hx hb dX12_steps_113 (by decide) ?_
    refine lv_iadd hx hb dX12_steps_114 ?_
    have nx24 := wk_i32 x22
    refine lv_topi (fun x25 ex25 => ?_)
    refine tk_iastR hC hK hw hT kM_at12 (by decide) rfl (show 0 ≤ x21.toInt by first | with_reducible assumption | omega) (show x21.toInt < 296 by first | with_reducible assumption | omega) (tk_rgS rfl 221 9 4 (-2147483648) 2147483647 (by decide +kernel) ⟨(a1.toInt - 0).toNat, by omega, show x21.toInt.toNat = 221 + 9 * (a1.toInt - 0).toNat by omega⟩ (wk_i32 x25).1 (wk_i32 x25).2) dX12_steps_115 (fun H locs w26 hw hT k28 c27 => ?_)
    have hRW := RW_F1 k28 (by decide) (by decide) (by decide) hRW
    have hF := hF.put kM_at12 (inE_of (a := 221) (b := 248) (by decide) (show 221 ≤ x21.toInt.toNat by omega) (show x21.toInt.toNat ≤ 248 by omega)) k28
    have c29 := k28.gi (Or.inl (tk_ne kM_at0 kM_at12 (by decide))) c20
    refine lv_iload_n hx hb dX12_steps_116 rfl (lv_at hl 2 rfl) ?_
    refine lv_if_eq (tgt := 125) hx hb dX12_steps_117 (by decide) (fun c30 => ?_) (fun c30 => ?_)
    · have c30 : v104_2.toInt = (0 : Int) := wk_eq.mp c30
      exact J125 v104_2 v104_3 f104_0_31 H locs ls w26 (show 0 ≤ a1.toInt from r13) (show a1.toInt ≤ 3 from t14) (show 0 ≤ v104_2.toInt by first | with_reducible assumption | omega) (show v104_2.toInt ≤ 1 by first | with_reducible assumption | omega) (show 216 ≤ v104_3.toInt from r15) (show v104_3.toInt ≤ 243 from t16) (show v104_3.toInt = 9 * a1.toInt + 216 by first | exact Int.le_antisymm (by omega) (by omega) | omega) (show (-1) ≤ f104_0_31.toInt from r18) (show f104_0_31.toInt ≤ 11 from t19)  hw hT hF hRW c29 (lv_sub hl [0, 1, 2, 3] rfl)
    · have c30 : ¬ v104_2.toInt = (0 : Int) := wk_eqF c30
      refine lv_iload_n hx hb dX12_steps_120 rfl (lv_at hl 2 rfl) ?_
      refine lv_iconst (v := 1) hx hb dX12_steps_121 (by decide) ?_
      refine lv_icmp_ne (tgt := 129) hx hb dX12_steps_122 (by decide) (fun c31 => ?_) (fun c31 => ?_)
      · have c31 : ¬ v104_2.toInt = (1 : Int) := wk_eqF c31
        refine lv_iconst (v := 0) hx hb dX12_steps_129 (by decide) ?_
        exact tk_zret hC hr rfl hlocks hK ⟨hT, hF, (Or.inl rfl)⟩ hw dX12_steps_130
      · have c31 : v104_2.toInt = (1 : Int) := wk_eq.mp c31
        exact J125 v104_2 v104_3 f104_0_31 H locs ls w26 (show 0 ≤ a1.toInt from r13) (show a1.toInt ≤ 3 from t14) (show 0 ≤ v104_2.toInt by first | with_reducible assumption | omega) (show v104_2.toInt ≤ 1 by first | with_reducible assumption | omega) (show 216 ≤ v104_3.toInt from r15) (show v104_3.toInt ≤ 243 from t16) (show v104_3.toInt = 9 * a1.toInt + 216 by first | exact Int.le_antisymm (by omega) (by omega) | omega) (show (-1) ≤ f104_0_31.toInt from r18) (show f104_0_31.toInt ≤ 11 from t19)  hw hT hF hRW c29 (lv_sub hl [0, 1, 2, 3] rfl)
  have J92 : ∀ (v92_2 : Int32) (v92_3 : Int32) (f92_0_31 : Int32) (H : Heap) (locs : List Loc) (ls : Array Slot) (w32 : va_W), 0 ≤ a1.toInt → a1.toInt ≤ 3 → 216 ≤ v92_3.toInt → v92_3.toInt ≤ 243 → v92_3.toInt = 9 * a1.toInt + 216 → (-1) ≤ f92_0_31.toInt → f92_0_31.toInt ≤ 11 → Wd dC dI A s.heap H locs w32 → TW ksM ad cy B qr 12 w32 → FE ksM [(12, 24, 24), (12, 31, 31), (69, 0, 64), (70, 0, 10), (71, 216, 243), (71, 220, 247), (71, 221, 248), (71, 222, 249), (71, 223, 250), (71, 224, 251), (72, 0, 12), (73, 0, 10)] w0 w32 → RW w32 → gi w32 0 31 = f92_0_31 → lv_has ls 4 [(0, .ref (ad 0)), (1, .int a1), (2, .int v92_2), (3, .int v92_3)] → W p l e ({ frames := 8, cells := 0, slots := 0, locals := 171 }) s m (List.toArray [.ref (ad 0), .int a1]) below meth c H locs 0 0 (MQ below (va_Qi (P_X12_steps_1 ad cy B qr s1 a1 w0) (fun u : va_W => wpost dC dI cy A u) A) (List.toArray [.ref (ad 0), .int a1]) s 0 0 A) (F0 m 92 ls []) := by
    intro v92_2 v92_3 f92_0_31 H locs ls w32 r33 t34 r35 t36 l37 r38 t39 hw hT hF hRW c40 hl
    refine lv_aload_n hx hb dX12_steps_92 rfl (lv_at hl 0 rfl) ?_
    refine tk_getA hC hK hw hT hinX12 kM_at0 (by decide) rfl 26 (by decide) (List.mem_cons_of_mem _ uw_7_1) rfl rfl dX12_steps_93 ?_
    refine lv_iload_n hx hb dX12_steps_96 rfl (lv_at hl 3 rfl) ?_
    refine lv_iconst (v := 4) hx hb dX12_steps_97 (by decide) ?_
    refine lv_iadd hx hb dX12_steps_98 ?_
    refine lv_topi (fun x41 ex41 => ?_)
    have ex41 : x41.toInt = v92_3.toInt + (4 : Int) := by rw [ex41]; exact wk_add (show (-2147483648) ≤ v92_3.toInt + (4 : Int) by omega) (show v92_3.toInt + (4 : Int) ≤ 2147483647 by omega)
    refine lv_dup2_11 hx hb dX12_steps_99 rfl rfl ?_
    refine tk_ialdR hC hK hw hT kM_at12 rfl (show 0 ≤ x41.toInt by first | with_reducible assumption | omega) (show x41.toInt < 296 by first | with_reducible assumption | omega) dX12_steps_100 (fun x42 c43 Ex42 => ?_)
    have c43 : gi w32 12 (9 * a1.toInt + 220).toNat = x42 := (congrArg (gi w32 12) (congrArg Int.toNat (show 9 * a1.toInt + 220 = x41.toInt by first | exact Int.le_antisymm (by omega) (by omega) | omega))).trans c43
    have bx42 := (tk_rgB rfl 220 9 4 (by decide +kernel) ⟨(a1.toInt - 0).toNat, by omega, show x41.toInt.toNat = 220 + 9 * (a1.toInt - 0).toNat by omega⟩).mp Ex42
    refine lv_iconst (v := 1) hx hb dX12_steps_101 (by decide) ?_
    refine lv_iadd hx hb dX12_steps_102 ?_
    refine lv_topi (fun x44 ex44 => ?_)
    have ex44 : x44.toInt = x42.toInt + (1 : Int) := by rw [ex44]; exact wk_add (show (-2147483648) ≤ x42.toInt + (1 : Int) by omega) (show x42.toInt + (1 : Int) ≤ 2147483647 by omega)
    have hT := hT.up (show B ≤ (B + 1) by omega)
    refine tk_iastR hC hK hw hT kM_at12 (by decide) rfl (show 0 ≤ x41.toInt by first | with_reducible assumption | omega) (show x41.toInt < 296 by first | with_reducible assumption | omega) ((tk_rgB rfl 220 9 4 (by decide +kernel) ⟨(a1.toInt - 0).toNat, by omega, show x41.toInt.toNat = 220 + 9 * (a1.toInt - 0).toNat by omega⟩).mpr ⟨(show 0 ≤ x44.toInt by first | with_reducible assumption | omega), (show x44.toInt ≤ (B + 1) by omega)⟩) dX12_steps_103 (fun H locs w45 hw hT k47 c46 => ?_)
    have hRW := RW_F1 k47 (by decide) (by decide) (by decide) hRW
    have hF := hF.put kM_at12 (inE_of (a := 220) (b := 247) (by decide) (show 220 ≤ x41.toInt.toNat by omega) (show x41.toInt.toNat ≤ 247 by omega)) k47
    have c48 := k47.gi (Or.inl (tk_ne kM_at0 kM_at12 (by decide))) c40
    exact J104 v92_2 v92_3 f92_0_31 H locs ls w45 (show 0 ≤ a1.toInt from r33) (show a1.toInt ≤ 3 from t34) (show 216 ≤ v92_3.toInt from r35) (show v92_3.toInt ≤ 243 from t36) (show v92_3.toInt = 9 * a1.toInt + 216 by first | exact Int.le_antisymm (by omega) (by omega) | omega) (show (-1) ≤ f92_0_31.toInt from r38) (show f92_0_31.toInt ≤ 11 from t39)  hw (hT.up (show (B + 1) ≤ (B + 9) by omega)) hF hRW c48 (lv_sub hl [0, 1, 2, 3] rfl)
  refine lv_aload_n hx hb dX12_steps_0 rfl (lv_at hl 0 rfl) ?_
  refine lv_iload_n hx hb dX12_steps_1 rfl (lv_at hl 1 rfl) ?_
  refine tk_Vv hC hK hw hT hA hE hSR kM_at0 (by decide) rfl (k_X12_looks_1 l adK adV dC dI cy ad B hB0 (Int.le_trans hB1 (by decide)) qr s1   a1 (show 0 ≤ a1.toInt from ra1) (show a1.toInt ≤ 3 from ta1) w0 s.heap.size hT ) (cwV 1 hC.2.2.2.2 uV_RX12_405 rfl rfl rfl (by decide +kernel) ⟨Nat.le_of_ble_eq_true rfl, Nat.le_of_ble_eq_true rfl⟩) rfl hl.1 rfl (Nat.le_of_ble_eq_true rfl) dX12_steps_2 (fun w51 H locs hp50 hw => ?_)
  obtain ⟨hT, k52, hg55⟩ := hp50
  have hRW := RW_FE k52 (fun _ => rfl) (fun _ => rfl) (fun _ => rfl) hRW
  have hF := hF.tr k52 (by decide)
  obtain ⟨x53, c54, rx53, tx53⟩ := hg55
  refine lv_aload_n hx hb dX12_steps_5 rfl (lv_at hl 0 rfl) ?_
  refine lv_iload_n hx hb dX12_steps_6 rfl (lv_at hl 1 rfl) ?_
  refine tk_Vi hC hK hw hT hA hE hSR kM_at0 (by decide) rfl (k_X12_doing_1 l adK adV dC dI cy ad B hB0 (Int.le_trans hB1 (by decide)) qr s1   a1 (show 0 ≤ a1.toInt from ra1) (show a1.toInt ≤ 3 from ta1) w51 H.size hT hRW) (cwV 1 hC.2.2.2.2 uV_RX12_408 rfl rfl rfl (by decide +kernel) ⟨Nat.le_of_ble_eq_true rfl, Nat.le_of_ble_eq_true rfl⟩) rfl hl.1 rfl (Nat.le_of_ble_eq_true rfl) dX12_steps_7 (fun r56 w58 H locs hp57 hw => ?_)
  obtain ⟨hT, k59, hg69⟩ := hp57
  have hRW := RW_FE k59 (fun _ => rfl) (fun _ => rfl) (fun _ => rfl) hRW
  have hF := hF.tr k59 (by decide)
  have c70 := k59.gi kM_at0 (by decide) c54
  rcases hg69 with g60 | g61 | ⟨rfl, ⟨x62, c63, rx62, tx62⟩⟩ | ⟨rfl, ⟨x64, c65, rx64, tx64⟩, hq66⟩ | ⟨rfl, ⟨x67, c68, rx67, tx67⟩⟩ | rfl
  · refine lv_istore_n (lv' := [(2, .int r56), (0, .ref (ad 0)), (1, .int a1)]) hx hb dX12_steps_10 rfl hl (by decide) rfl (fun ls hl => ?_)
    refine lv_sipush (v := 216) hx hb dX12_steps_11 (by decide) ?_
    refine lv_bipush (v := 9) hx hb dX12_steps_14 (by decide) ?_
    refine lv_iload_n hx hb dX12_steps_16 rfl (lv_at hl 2 rfl) ?_
    refine lv_imul hx hb dX12_steps_17 ?_
    refine lv_topi (fun x71 ex71 => ?_)
    have ex71 : x71.toInt = (9 : Int) * a1.toInt := by rw [ex71]; exact wk_mul (show (-2147483648) ≤ (9 : Int) * a1.toInt by omega) (show (9 : Int) * a1.toInt ≤ 2147483647 by omega)
    refine lv_iadd hx hb dX12_steps_18 ?_
    refine lv_topi (fun x72 ex72 => ?_)
    have ex72 : x72.toInt = (216 : Int) + x71.toInt := by rw [ex72]; exact wk_add (show (-2147483648) ≤ (216 : Int) + x71.toInt by omega) (show (216 : Int) + x71.toInt ≤ 2147483647 by omega)
    refine lv_istore_n (lv' := [(3, .int x72), (2, .int r56), (0, .ref (ad 0)), (1, .int a1)]) hx hb dX12_steps_19 rfl hl (by decide) rfl (fun ls hl => ?_)
    refine lv_iload_n hx hb dX12_steps_20 rfl (lv_at hl 1 rfl) ?_
    refine lv_if_ne (tgt := 36) hx hb dX12_steps_21 (by decide) (fun _ => ?_) (fun c => absurd (show r56.toInt = (0 : Int) from wk_eq.mp c) (by omega))
    refine lv_iload_n hx hb dX12_steps_36 rfl (lv_at hl 1 rfl) ?_
    refine lv_iconst (v := 1) hx hb dX12_steps_37 (by decide) ?_
    refine lv_icmp_ne (tgt := 54) hx hb dX12_steps_38 (by decide) (fun _ => ?_) (fun c => absurd (show r56.toInt = (1 : Int) from wk_eq.mp c) (by omega))
    refine lv_iload_n hx hb dX12_steps_54 rfl (lv_at hl 1 rfl) ?_
    refine lv_iconst (v := 2) hx hb dX12_steps_55 (by decide) ?_
    refine lv_icmp_ne (tgt := 92) hx hb dX12_steps_56 (by decide) (fun _ => ?_) (fun c => absurd (show r56.toInt = (2 : Int) from wk_eq.mp c) (by omega))
    exact J92 r56 x72 x53 H locs ls w58 (show 0 ≤ a1.toInt from ra1) (show a1.toInt ≤ 3 from ta1) (show 216 ≤ x72.toInt by first | with_reducible assumption | omega) (show x72.toInt ≤ 243 by first | with_reducible assumption | omega) (show x72.toInt = 9 * a1.toInt + 216 by first | exact Int.le_antisymm (by omega) (by omega) | omega) (show (-1) ≤ x53.toInt by first | with_reducible assumption | omega) (show x53.toInt ≤ 11 by first | with_reducible assumption | omega)  hw hT hF hRW c70 (lv_sub hl [2, 3, 1, 0] rfl)
  · refine lv_istore_n (lv' := [(2, .int r56), (0, .ref (ad 0)), (1, .int a1)]) hx hb dX12_steps_10 rfl hl (by decide) rfl (fun ls hl => ?_)
    refine lv_sipush (v := 216) hx hb dX12_steps_11 (by decide) ?_
    refine lv_bipush (v := 9) hx hb dX12_steps_14 (by decide) ?_
    refine lv_iload_n hx hb dX12_steps_16 rfl (lv_at hl 2 rfl) ?_
    refine lv_imul hx hb dX12_steps_17 ?_
    refine lv_topi (fun x73 ex73 => ?_)
    have ex73 : x73.toInt = (9 : Int) * a1.toInt := by rw [ex73]; exact wk_mul (show (-2147483648) ≤ (9 : Int) * a1.toInt by omega) (show (9 : Int) * a1.toInt ≤ 2147483647 by omega)
    refine lv_iadd hx hb dX12_steps_18 ?_
    refine lv_topi (fun x74 ex74 => ?_)
    have ex74 : x74.toInt = (216 : Int) + x73.toInt := by rw [ex74]; exact wk_add (show (-2147483648) ≤ (216 : Int) + x73.toInt by omega) (show (216 : Int) + x73.toInt ≤ 2147483647 by omega)
    refine lv_istore_n (lv' := [(3, .int x74), (2, .int r56), (0, .ref (ad 0)), (1, .int a1)]) hx hb dX12_steps_19 rfl hl (by decide) rfl (fun ls hl => ?_)
    refine lv_iload_n hx hb dX12_steps_20 rfl (lv_at hl 1 rfl) ?_
    refine lv_if_ne (tgt := 36) hx hb dX12_steps_21 (by decide) (fun _ => ?_) (fun c => absurd (show r56.toInt = (0 : Int) from wk_eq.mp c) (by omega))
    refine lv_iload_n hx hb dX12_steps_36 rfl (lv_at hl 1 rfl) ?_
    refine lv_iconst (v := 1) hx hb dX12_steps_37 (by decide) ?_
    refine lv_icmp_ne (tgt := 54) hx hb dX12_steps_38 (by decide) (fun _ => ?_) (fun c => absurd (show r56.toInt = (1 : Int) from wk_eq.mp c) (by omega))
    refine lv_iload_n hx hb dX12_steps_54 rfl (lv_at hl 1 rfl) ?_
    refine lv_iconst (v := 2) hx hb dX12_steps_55 (by decide) ?_
    refine lv_icmp_ne (tgt := 92) hx hb dX12_steps_56 (by decide) (fun _ => ?_) (fun c => absurd (show r56.toInt = (2 : Int) from wk_eq.mp c) (by omega))
    exact J92 r56 x74 x53 H locs ls w58 (show 0 ≤ a1.toInt from ra1) (show a1.toInt ≤ 3 from ta1) (show 216 ≤ x74.toInt by first | with_reducible assumption | omega) (show x74.toInt ≤ 243 by first | with_reducible assumption | omega) (show x74.toInt = 9 * a1.toInt + 216 by first | exact Int.le_antisymm (by omega) (by omega) | omega) (show (-1) ≤ x53.toInt by first | with_reducible assumption | omega) (show x53.toInt ≤ 11 by first | with_reducible assumption | omega)  hw hT hF hRW c70 (lv_sub hl [2, 3, 1, 0] rfl)
  · have ex62 : x62.toInt = x53.toInt := by rw [← c70.symm.trans c63]
    refine lv_istore_n (lv' := [(2, .int 0), (0, .ref (ad 0)), (1, .int a1)]) hx hb dX12_steps_10 rfl hl (by decide) rfl (fun ls hl => ?_)
    refine lv_sipush (v := 216) hx hb dX12_steps_11 (by decide) ?_
    refine lv_bipush (v := 9) hx hb dX12_steps_14 (by decide) ?_
    refine lv_iload_n hx hb dX12_steps_16 rfl (lv_at hl 2 rfl) ?_
    refine lv_imul hx hb dX12_steps_17 ?_
    refine lv_topi (fun x75 ex75 => ?_)
    have ex75 : x75.toInt = (9 : Int) * a1.toInt := by rw [ex75]; exact wk_mul (show (-2147483648) ≤ (9 : Int) * a1.toInt by omega) (show (9 : Int) * a1.toInt ≤ 2147483647 by omega)
    refine lv_iadd hx hb dX12_steps_18 ?_
    refine lv_topi (fun x76 ex76 => ?_)
    have ex76 : x76.toInt = (216 : Int) + x75.toInt := by rw [ex76]; exact wk_add (show (-2147483648) ≤ (216 : Int) + x75.toInt by omega) (show (216 : Int) + x75.toInt ≤ 2147483647 by omega)
    refine lv_istore_n (lv' := [(3, .int x76), (2, .int 0), (0, .ref (ad 0)), (1, .int a1)]) hx hb dX12_steps_19 rfl hl (by decide) rfl (fun ls hl => ?_)
    refine lv_iload_n hx hb dX12_steps_20 rfl (lv_at hl 1 rfl) ?_
    refine lv_if_ne (tgt := 36) hx hb dX12_steps_21 (by decide) (fun c => absurd (by decide) c) (fun _ => ?_)
    refine lv_aload_n hx hb dX12_steps_24 rfl (lv_at hl 2 rfl) ?_
    refine lv_iload_n hx hb dX12_steps_25 rfl (lv_at hl 3 rfl) ?_
    refine lv_aload_n hx hb dX12_steps_26 rfl (lv_at hl 2 rfl) ?_
    refine tk_geti hC hK hw hT hinX12 kM_at0 (by decide) rfl 31 (by decide) (List.mem_cons_of_mem _ uw_46_23) rfl rfl dX12_steps_27 (fun x77 c78 rx77 tx77 => ?_)
    refine wk_top x53 (c78.symm.trans c70) ?_
    refine tk_Vv hC hK hw hT hA hE hSR kM_at0 (by decide) rfl (k_X12_takesStreet_1 l adK adV dC dI cy ad B hB0 (Int.le_trans hB1 (by decide)) qr s1   a1 (show 0 ≤ a1.toInt from ra1) (show a1.toInt ≤ 3 from ta1) x53 (show 0 ≤ x53.toInt by first | with_reducible assumption | omega) (show x53.toInt ≤ 11 by first | with_reducible assumption | omega) w58 H.size hT ) (cwV 2 hC.2.2.2.2 uV_RX12_411 rfl rfl rfl (by decide +kernel) ⟨Nat.le_of_ble_eq_true rfl, Nat.le_of_ble_eq_true rfl⟩) rfl hl.1 rfl (Nat.le_of_ble_eq_true rfl) dX12_steps_30 (fun w81 H locs hp80 hw => ?_)
    obtain ⟨hT, k82, hg83⟩ := hp80
    have hRW := RW_FE k82 (fun _ => rfl) (fun _ => rfl) (fun _ => rfl) hRW
    have hF := hF.tr k82 (by decide)
    have c84 := k82.gi kM_at0 (by decide) c70
    clear hg83
    refine lv_goto (tgt := 104) hx hb dX12_steps_33 (by decide) ?_
    exact J104 0 x76 x53 H locs ls w81 (show 0 ≤ a1.toInt from ra1) (show a1.toInt ≤ 3 from ta1) (show 216 ≤ x76.toInt by first | with_reducible assumption | omega) (show x76.toInt ≤ 243 by first | with_reducible assumption | omega) (show x76.toInt = 9 * a1.toInt + 216 by first | exact Int.le_antisymm (by omega) (by omega) | omega) (show (-1) ≤ x53.toInt by first | with_reducible assumption | omega) (show x53.toInt ≤ 11 by first | with_reducible assumption | omega)  hw hT hF hRW c84 (lv_sub hl [2, 3, 1, 0] rfl)
  · refine lv_istore_n (lv' := [(2, .int 1), (0, .ref (ad 0)), (1, .int a1)]) hx hb dX12_steps_10 rfl hl (by decide) rfl (fun ls hl => ?_)
    refine lv_sipush (v := 216) hx hb dX12_steps_11 (by decide) ?_
    refine lv_bipush (v := 9) hx hb dX12_steps_14 (by decide) ?_
    refine lv_iload_n hx hb dX12_steps_16 rfl (lv_at hl 2 rfl) ?_
    refine lv_imul hx hb dX12_steps_17 ?_
    refine lv_topi (fun x85 ex85 => ?_)
    have ex85 : x85.toInt = (9 : Int) * a1.toInt := by rw [ex85]; exact wk_mul (show (-2147483648) ≤ (9 : Int) * a1.toInt by omega) (show (9 : Int) * a1.toInt ≤ 2147483647 by omega)
    refine lv_iadd hx hb dX12_steps_18 ?_
    refine lv_topi (fun x86 ex86 => ?_)
    have ex86 : x86.toInt = (216 : Int) + x85.toInt := by rw [ex86]; exact wk_add (show (-2147483648) ≤ (216 : Int) + x85.toInt by omega) (show (216 : Int) + x85.toInt ≤ 2147483647 by omega)
    refine lv_istore_n (lv' := [(3, .int x86), (2, .int 1), (0, .ref (ad 0)), (1, .int a1)]) hx hb dX12_steps_19 rfl hl (by decide) rfl (fun ls hl => ?_)
    refine lv_iload_n hx hb dX12_steps_20 rfl (lv_at hl 1 rfl) ?_
    refine lv_if_ne (tgt := 36) hx hb dX12_steps_21 (by decide) (fun _ => ?_) (fun c => absurd c (by decide))
    refine lv_iload_n hx hb dX12_steps_36 rfl (lv_at hl 1 rfl) ?_
    refine lv_iconst (v := 1) hx hb dX12_steps_37 (by decide) ?_
    refine lv_icmp_ne (tgt := 54) hx hb dX12_steps_38 (by decide) (fun c => absurd (by decide) c) (fun _ => ?_)
    refine lv_aload_n hx hb dX12_steps_41 rfl (lv_at hl 2 rfl) ?_
    refine lv_iload_n hx hb dX12_steps_42 rfl (lv_at hl 3 rfl) ?_
    refine lv_aload_n hx hb dX12_steps_43 rfl (lv_at hl 2 rfl) ?_
    refine lv_iload_n hx hb dX12_steps_44 rfl (lv_at hl 3 rfl) ?_
    refine tk_Vi hC hK hw hT hA hE hSR kM_at0 (by decide) rfl (k_X12_asideOf_1 l adK adV dC dI cy ad B hB0 (Int.le_trans hB1 (by decide)) qr s1   a1 (show 0 ≤ a1.toInt from ra1) (show a1.toInt ≤ 3 from ta1) w58 H.size hT ) (cwV 1 hC.2.2.2.2 uV_RX12_390 rfl rfl rfl (by decide +kernel) ⟨Nat.le_of_ble_eq_true rfl, Nat.le_of_ble_eq_true rfl⟩) rfl hl.1 rfl (Nat.le_of_ble_eq_true rfl) dX12_steps_45 (fun r87 w89 H locs hp88 hw => ?_)
    obtain ⟨rfl, hg97⟩ := hp88
    rcases hg97 with ⟨g91, g92, ⟨x93, c94, rx93, tx93⟩, hq95⟩ | ⟨rfl, hq96⟩
    · have ex93 : x93.toInt = x64.toInt := by rw [← c65.symm.trans c94]
      refine tk_Vv hC hK hw hT hA hE hSR kM_at0 (by decide) rfl (k_X12_takesStreet_1 l adK adV dC dI cy ad B hB0 (Int.le_trans hB1 (by decide)) qr s1   a1 (show 0 ≤ a1.toInt from ra1) (show a1.toInt ≤ 3 from ta1) r87 (show 0 ≤ r87.toInt by first | with_reducible assumption | omega) (show r87.toInt ≤ 11 by first | with_reducible assumption | omega) w58 H.size hT ) (cwV 2 hC.2.2.2.2 uV_RX12_411 rfl rfl rfl (by decide +kernel) ⟨Nat.le_of_ble_eq_true rfl, Nat.le_of_ble_eq_true rfl⟩) rfl hl.1 rfl (Nat.le_of_ble_eq_true rfl) dX12_steps_48 (fun w100 H locs hp99 hw => ?_)
      obtain ⟨hT, k101, hg102⟩ := hp99
      have hRW := RW_FE k101 (fun _ => rfl) (fun _ => rfl) (fun _ => rfl) hRW
      have hF := hF.tr k101 (by decide)
      have c103 := k101.gi kM_at0 (by decide) c70
      have c104 := k101.gi kM_at12 (by decide) c65
      clear hg102
      refine lv_goto (tgt := 104) hx hb dX12_steps_51 (by decide) ?_
      exact J104 1 x86 x53 H locs ls w100 (show 0 ≤ a1.toInt from ra1) (show a1.toInt ≤ 3 from ta1) (show 216 ≤ x86.toInt by first | with_reducible assumption | omega) (show x86.toInt ≤ 243 by first | with_reducible assumption | omega) (show x86.toInt = 9 * a1.toInt + 216 by first | exact Int.le_antisymm (by omega) (by omega) | omega) (show (-1) ≤ x53.toInt by first | with_reducible assumption | omega) (show x53.toInt ≤ 11 by first | with_reducible assumption | omega)  hw hT hF hRW c103 (lv_sub hl [2, 3, 1, 0] rfl)
    · exact (mAS_no hq66 hq96).elim
  · refine lv_istore_n (lv' := [(2, .int 2), (0, .ref (ad 0)), (1, .int a1)]) hx hb dX12_steps_10 rfl hl (by decide) rfl (fun ls hl => ?_)
    refine lv_sipush (v := 216) hx hb dX12_steps_11 (by decide) ?_
    refine lv_bipush (v := 9) hx hb dX12_steps_14 (by decide) ?_
    refine lv_iload_n hx hb dX12_steps_16 rfl (lv_at hl 2 rfl) ?_
    refine lv_imul hx hb dX12_steps_17 ?_
    refine lv_topi (fun x105 ex105 => ?_)
    have ex105 : x105.toInt = (9 : Int) * a1.toInt := by rw [ex105]; exact wk_mul (show (-2147483648) ≤ (9 : Int) * a1.toInt by omega) (show (9 : Int) * a1.toInt ≤ 2147483647 by omega)
    refine lv_iadd hx hb dX12_steps_18 ?_
    refine lv_topi (fun x106 ex106 => ?_)
    have ex106 : x106.toInt = (216 : Int) + x105.toInt := by rw [ex106]; exact wk_add (show (-2147483648) ≤ (216 : Int) + x105.toInt by omega) (show (216 : Int) + x105.toInt ≤ 2147483647 by omega)
    refine lv_istore_n (lv' := [(3, .int x106), (2, .int 2), (0, .ref (ad 0)), (1, .int a1)]) hx hb dX12_steps_19 rfl hl (by decide) rfl (fun ls hl => ?_)
    refine lv_iload_n hx hb dX12_steps_20 rfl (lv_at hl 1 rfl) ?_
    refine lv_if_ne (tgt := 36) hx hb dX12_steps_21 (by decide) (fun _ => ?_) (fun c => absurd c (by decide))
    refine lv_iload_n hx hb dX12_steps_36 rfl (lv_at hl 1 rfl) ?_
    refine lv_iconst (v := 1) hx hb dX12_steps_37 (by decide) ?_
    refine lv_icmp_ne (tgt := 54) hx hb dX12_steps_38 (by decide) (fun _ => ?_) (fun c => absurd c (by decide))
    refine lv_iload_n hx hb dX12_steps_54 rfl (lv_at hl 1 rfl) ?_
    refine lv_iconst (v := 2) hx hb dX12_steps_55 (by decide) ?_
    refine lv_icmp_ne (tgt := 92) hx hb dX12_steps_56 (by decide) (fun c => absurd (by decide) c) (fun _ => ?_)
    refine lv_aload_n hx hb dX12_steps_59 rfl (lv_at hl 2 rfl) ?_
    refine tk_getA hC hK hw hT hinX12 kM_at0 (by decide) rfl 26 (by decide) (List.mem_cons_of_mem _ uw_7_1) rfl rfl dX12_steps_60 ?_
    refine lv_iload_n hx hb dX12_steps_63 rfl (lv_at hl 0 rfl) ?_
    refine lv_bipush (v := 8) hx hb dX12_steps_64 (by decide) ?_
    refine lv_iadd hx hb dX12_steps_66 ?_
    refine lv_topi (fun x107 ex107 => ?_)
    have ex107 : x107.toInt = x106.toInt + (8 : Int) := by rw [ex107]; exact wk_add (show (-2147483648) ≤ x106.toInt + (8 : Int) by omega) (show x106.toInt + (8 : Int) ≤ 2147483647 by omega)
    refine lv_aload_n hx hb dX12_steps_67 rfl (lv_at hl 2 rfl) ?_
    refine tk_getA hC hK hw hT hinX12 kM_at0 (by decide) rfl 26 (by decide) (List.mem_cons_of_mem _ uw_7_1) rfl rfl dX12_steps_68 ?_
    refine lv_iload_n hx hb dX12_steps_71 rfl (lv_at hl 0 rfl) ?_
    refine lv_iconst (v := 4) hx hb dX12_steps_72 (by decide) ?_
    refine lv_iadd hx hb dX12_steps_73 ?_
    refine lv_topi (fun x108 ex108 => ?_)
    have ex108 : x108.toInt = x106.toInt + (4 : Int) := by rw [ex108]; exact wk_add (show (-2147483648) ≤ x106.toInt + (4 : Int) by omega) (show x106.toInt + (4 : Int) ≤ 2147483647 by omega)
    refine tk_ialdR hC hK hw hT kM_at12 rfl (show 0 ≤ x108.toInt by first | with_reducible assumption | omega) (show x108.toInt < 296 by first | with_reducible assumption | omega) dX12_steps_74 (fun x109 c110 Ex109 => ?_)
    have c110 : gi w58 12 (9 * a1.toInt + 220).toNat = x109 := (congrArg (gi w58 12) (congrArg Int.toNat (show 9 * a1.toInt + 220 = x108.toInt by first | exact Int.le_antisymm (by omega) (by omega) | omega))).trans c110
    have bx109 := (tk_rgB rfl 220 9 4 (by decide +kernel) ⟨(a1.toInt - 0).toNat, by omega, show x108.toInt.toNat = 220 + 9 * (a1.toInt - 0).toNat by omega⟩).mp Ex109
    refine lv_bipush (v := 24) hx hb dX12_steps_75 (by decide) ?_
    refine lv_idiv hx hb dX12_steps_77 (by decide) ?_
    refine lv_topi (fun x111 ex111 => ?_)
    have ex111 : x111.toInt = x109.toInt / (24 : Int) := by rw [ex111]; exact wk_div (show 0 ≤ x109.toInt by first | with_reducible assumption | omega) (show 0 < (24 : Int) by decide)
    refine tk_iastR hC hK hw hT kM_at12 (by decide) rfl (show 0 ≤ x107.toInt by first | with_reducible assumption | omega) (show x107.toInt < 296 by first | with_reducible assumption | omega) (tk_rgS rfl 224 9 4 0 44739242 (by decide +kernel) ⟨(a1.toInt - 0).toNat, by omega, show x107.toInt.toNat = 224 + 9 * (a1.toInt - 0).toNat by omega⟩ (show 0 ≤ x111.toInt by first | with_reducible assumption | omega) (show x111.toInt ≤ 44739242 by first | with_reducible assumption | omega)) dX12_steps_78 (fun H locs w112 hw hT k114 c113 => ?_)
    have hRW := RW_F1 k114 (by decide) (by decide) (by decide) hRW
    have hF := hF.put kM_at12 (inE_of (a := 224) (b := 251) (by decide) (show 224 ≤ x107.toInt.toNat by omega) (show x107.toInt.toNat ≤ 251 by omega)) k114
    have c115 := k114.gi (Or.inl (tk_ne kM_at0 kM_at12 (by decide))) c70
    have c116 := k114.gi (Or.inl (tk_ne kM_at0 kM_at12 (by decide))) c68
    refine lv_aload_n hx hb dX12_steps_79 rfl (lv_at hl 2 rfl) ?_
    refine tk_getA hC hK hw hT hinX12 kM_at0 (by decide) rfl 26 (by decide) (List.mem_cons_of_mem _ uw_7_1) rfl rfl dX12_steps_80 ?_
    refine lv_iload_n hx hb dX12_steps_83 rfl (lv_at hl 0 rfl) ?_
    refine lv_bipush (v := 6) hx hb dX12_steps_84 (by decide) ?_
    refine lv_iadd hx hb dX12_steps_86 ?_
    refine lv_topi (fun x117 ex117 => ?_)
    have ex117 : x117.toInt = x106.toInt + (6 : Int) := by rw [ex117]; exact wk_add (show (-2147483648) ≤ x106.toInt + (6 : Int) by omega) (show x106.toInt + (6 : Int) ≤ 2147483647 by omega)
    refine lv_dup2_11 hx hb dX12_steps_87 rfl rfl ?_
    refine tk_ialdR hC hK hw hT kM_at12 rfl (show 0 ≤ x117.toInt by first | with_reducible assumption | omega) (show x117.toInt < 296 by first | with_reducible assumption | omega) dX12_steps_88 (fun x118 c119 Ex118 => ?_)
    have c119 : gi w112 12 (9 * a1.toInt + 222).toNat = x118 := (congrArg (gi w112 12) (congrArg Int.toNat (show 9 * a1.toInt + 222 = x117.toInt by first | exact Int.le_antisymm (by omega) (by omega) | omega))).trans c119
    refine lv_iconst (v := 1) hx hb dX12_steps_89 (by decide) ?_
    refine lv_iadd hx hb dX12_steps_90 ?_
    have nx120 := wk_i32 x118
    refine lv_topi (fun x121 ex121 => ?_)
    refine tk_iastR hC hK hw hT kM_at12 (by decide) rfl (show 0 ≤ x117.toInt by first | with_reducible assumption | omega) (show x117.toInt < 296 by first | with_reducible assumption | omega) (tk_rgS rfl 222 9 4 (-2147483648) 2147483647 (by decide +kernel) ⟨(a1.toInt - 0).toNat, by omega, show x117.toInt.toNat = 222 + 9 * (a1.toInt - 0).toNat by omega⟩ (wk_i32 x121).1 (wk_i32 x121).2) dX12_steps_91 (fun H locs w122 hw hT k124 c123 => ?_)
    have hRW := RW_F1 k124 (by decide) (by decide) (by decide) hRW
    have hF := hF.put kM_at12 (inE_of (a := 222) (b := 249) (by decide) (show 222 ≤ x117.toInt.toNat by omega) (show x117.toInt.toNat ≤ 249 by omega)) k124
    have c125 := k124.gi (Or.inl (tk_ne kM_at0 kM_at12 (by decide))) c115
    have c126 := k124.gi (Or.inl (tk_ne kM_at0 kM_at12 (by decide))) c116
    exact J92 2 x106 x53 H locs ls w122 (show 0 ≤ a1.toInt from ra1) (show a1.toInt ≤ 3 from ta1) (show 216 ≤ x106.toInt by first | with_reducible assumption | omega) (show x106.toInt ≤ 243 by first | with_reducible assumption | omega) (show x106.toInt = 9 * a1.toInt + 216 by first | exact Int.le_antisymm (by omega) (by omega) | omega) (show (-1) ≤ x53.toInt by first | with_reducible assumption | omega) (show x53.toInt ≤ 11 by first | with_reducible assumption | omega)  hw hT hF hRW c125 (lv_sub hl [2, 3, 1, 0] rfl)
  · refine lv_istore_n (lv' := [(2, .int 3), (0, .ref (ad 0)), (1, .int a1)]) hx hb dX12_steps_10 rfl hl (by decide) rfl (fun ls hl => ?_)
    refine lv_sipush (v := 216) hx hb dX12_steps_11 (by decide) ?_
    refine lv_bipush (v := 9) hx hb dX12_steps_14 (by decide) ?_
    refine lv_iload_n hx hb dX12_steps_16 rfl (lv_at hl 2 rfl) ?_
    refine lv_imul hx hb dX12_steps_17 ?_
    refine lv_topi (fun x127 ex127 => ?_)
    have ex127 : x127.toInt = (9 : Int) * a1.toInt := by rw [ex127]; exact wk_mul (show (-2147483648) ≤ (9 : Int) * a1.toInt by omega) (show (9 : Int) * a1.toInt ≤ 2147483647 by omega)
    refine lv_iadd hx hb dX12_steps_18 ?_
    refine lv_topi (fun x128 ex128 => ?_)
    have ex128 : x128.toInt = (216 : Int) + x127.toInt := by rw [ex128]; exact wk_add (show (-2147483648) ≤ (216 : Int) + x127.toInt by omega) (show (216 : Int) + x127.toInt ≤ 2147483647 by omega)
    refine lv_istore_n (lv' := [(3, .int x128), (2, .int 3), (0, .ref (ad 0)), (1, .int a1)]) hx hb dX12_steps_19 rfl hl (by decide) rfl (fun ls hl => ?_)
    refine lv_iload_n hx hb dX12_steps_20 rfl (lv_at hl 1 rfl) ?_
    refine lv_if_ne (tgt := 36) hx hb dX12_steps_21 (by decide) (fun _ => ?_) (fun c => absurd c (by decide))
    refine lv_iload_n hx hb dX12_steps_36 rfl (lv_at hl 1 rfl) ?_
    refine lv_iconst (v := 1) hx hb dX12_steps_37 (by decide) ?_
    refine lv_icmp_ne (tgt := 54) hx hb dX12_steps_38 (by decide) (fun _ => ?_) (fun c => absurd c (by decide))
    refine lv_iload_n hx hb dX12_steps_54 rfl (lv_at hl 1 rfl) ?_
    refine lv_iconst (v := 2) hx hb dX12_steps_55 (by decide) ?_
    refine lv_icmp_ne (tgt := 92) hx hb dX12_steps_56 (by decide) (fun _ => ?_) (fun c => absurd c (by decide))
    exact J92 3 x128 x53 H locs ls w58 (show 0 ≤ a1.toInt from ra1) (show a1.toInt ≤ 3 from ta1) (show 216 ≤ x128.toInt by first | with_reducible assumption | omega) (show x128.toInt ≤ 243 by first | with_reducible assumption | omega) (show x128.toInt = 9 * a1.toInt + 216 by first | exact Int.le_antisymm (by omega) (by omega) | omega) (show (-1) ≤ x53.toInt by first | with_reducible assumption | omega) (show x53.toInt ≤ 11 by first | with_reducible assumption | omega)  hw hT hF hRW c70 (lv_sub hl [2, 3, 1, 0] rfl)
abbrev P_X12_step_1 (ad : Nat → Nat) (cy : Nat → ClassId) (B : Int) (qr : Nat) (s1 : Int) (a1 : Int32) (a2 : Int32) (w0 : va_W) : Int32 → va_W → Prop := fun r u => TW ksM ad cy (B + 1800) qr 12 u ∧ FE ksM [(12, 24, 24), (12, 31, 31), (69, 0, 64), (70, 0, 10), (71, 216, 243), (71, 220, 247), (71, 221, 248), (71, 222, 249), (71, 223, 250), (71, 224, 251), (72, 0, 12), (73, 0, 10)] w0 u ∧ ((0 ≤ r.toInt ∧ r.toInt ≤ 9 ∧ 0 ≤ a1.toInt ∧ a1.toInt ≤ 3 ∧ 1 ≤ a2.toInt ∧ a2.toInt ≤ 200 ∧ (∃ y : Int32, gi u 12 5 = y ∧ 1 ≤ y.toInt ∧ y.toInt ≤ 4)) ∨ (r = (-1)))
set_option maxHeartbeats 4000000 in
set_option maxRecDepth 100000 in
theorem k_X12_step_1 (l : Launch) (adK adV : Nat → Nat) (dC : Nat → ClassId) (dI : Nat → Nat → Nat) (cy : Nat → ClassId) (ad : Nat → Nat) (B : Int) (hB0 : 100000 ≤ B) (hB1 : B ≤ 1073740024) (qr : Nat) (s1 : Int)  (a1 : Int32) (a2 : Int32) (w0 : va_W) (sz : Nat) (hT : TW ksM ad cy B qr 12 w0) (hRW : RW w0) : Met l yX12_step (wu yX12_step cX12_step 4 (some .int)) ({ frames := 9, cells := 0, slots := 0, locals := 194 }) (va_Pc [.ref (ad 0), .int a1, .int a2] (wpreS adK adV dC dI cy sz w0)) (va_Qi (P_X12_step_1 ad cy B qr s1 a1 a2 w0) (fun u : va_W => wpost dC dI cy (va_A w0 sz) u) (va_A w0 sz)) 0 0 (va_A w0 sz) := by
  refine Met.ofW (cc := cX12_step) (maxL := 4) (ret := (some .int)) (by decide) rfl ?_
  intro p e s m args below meth c s₁ Bk hml hv
  obtain ⟨rfl, ⟨hsz, hP, hK, hD0⟩, hE, hSR⟩ := hv
  have hx := Bk.exec
  have hb := Bk.bytes
  have hr := Bk.returns
  have hlocks := Bk.notSynchronized
  have hC : CallFix p m c cX12_step 4 s _ (wu yX12_step cX12_step 4 (some .int)) RX12 := ⟨hx, hb, hml, findClass_of_methodNamed Bk.named, atoms_spec (ws := (wu yX12_step cX12_step 4 (some .int))) Bk.pre⟩
  subst hsz
  have hD := hD0.self (sz := s.heap.size)
  generalize hAe : va_A w0 s.heap.size = A at hD hE ⊢
  have hA : ∀ q : Nat, s.heap.size ≤ q → A q := fun q h => by rw [← hAe]; exact Or.inr h
  have hw : Wd dC dI A s.heap s.heap [] w0 := ⟨hP, hD, va_S.rf⟩
  have hF : FE ksM [(12, 24, 24), (12, 31, 31), (69, 0, 64), (70, 0, 10), (71, 216, 243), (71, 220, 247), (71, 221, 248), (71, 222, 249), (71, 223, 250), (71, 224, 251), (72, 0, 12), (73, 0, 10)] w0 w0 := FE.rf
  have hl := lv_entry ([.ref (ad 0), .int a1, .int a2]) (n := 4) (Nat.le_of_ble_eq_true rfl)
  rw [lg_entry_eq]
  generalize (lg_sl ([.ref (ad 0), .int a1, .int a2]) ++ List.replicate (4 - (lg_sl ([.ref (ad 0), .int a1, .int a2])).length) Slot.unset).toArray = ls at hl ⊢
  have hl : lv_has ls 4 [(0, .ref (ad 0)), (1, .int a1), (2, .int a2)] := hl
  generalize hloc : ([] : List Loc) = locs at hw ⊢
  have J20 : ∀ (H : Heap) (locs : List Loc) (ls : Array Slot) (w1 : va_W), Wd dC dI A s.heap H locs w1 → TW ksM ad cy B qr 12 w1 → FE ksM [(12, 24, 24), (12, 31, 31), (69, 0, 64), (70, 0, 10), (71, 216, 243), (71, 220, 247), (71, 221, 248), (71, 222, 249), (71, 223, 250), (71, 224, 251), (72, 0, 12), (73, 0, 10)] w0 w1 → RW w1 → lv_has ls 4 [(0, .ref (ad 0)), (1, .int a1), (2, .int a2)] → W p l e ({ frames := 9, cells := 0, slots := 0, locals := 194 }) s m (List.toArray [.ref (ad 0), .int a1, .int a2]) below meth c H locs 0 0 (MQ below (va_Qi (P_X12_step_1 ad cy B qr s1 a1 a2 w0) (fun u : va_W => wpost dC dI cy A u) A) (List.toArray [.ref (ad 0), .int a1, .int a2]) s 0 0 A) (F0 m 20 ls []) := by
    intro H locs ls w1 hw hT hF hRW hl
    refine lv_iconst (v := (-1)) hx hb dX12_step_20 (by decide) ?_
    exact tk_iret hC hr hlocks hK ⟨(hT.up (show B ≤ (B + 1800) by omega)), hF, (Or.inr rfl)⟩ hw dX12_step_21
  have J49 : ∀ (v49_3 : Int32) (f49_12_5 : Int32) (H : Heap) (locs : List Loc) (ls : Array Slot) (w2 : va_W), 0 ≤ a1.toInt → a1.toInt ≤ 3 → 1 ≤ a2.toInt → a2.toInt ≤ 200 → 0 ≤ v49_3.toInt → v49_3.toInt ≤ 200 → 1 ≤ f49_12_5.toInt → f49_12_5.toInt ≤ 4 → Wd dC dI A s.heap H locs w2 → TW ksM ad cy (B + 1800) qr 12 w2 → FE ksM [(12, 24, 24), (12, 31, 31), (69, 0, 64), (70, 0, 10), (71, 216, 243), (71, 220, 247), (71, 221, 248), (71, 222, 249), (71, 223, 250), (71, 224, 251), (72, 0, 12), (73, 0, 10)] w0 w2 → RW w2 → gi w2 12 5 = f49_12_5 → lv_has ls 4 [(0, .ref (ad 0)), (1, .int a1), (2, .int a2), (3, .int v49_3)] → W p l e ({ frames := 9, cells := 0, slots := 0, locals := 194 }) s m (List.toArray [.ref (ad 0), .int a1, .int a2]) below meth c H locs 0 0 (MQ below (va_Qi (P_X12_step_1 ad cy B qr s1 a1 a2 w0) (fun u : va_W => wpost dC dI cy A u) A) (List.toArray [.ref (ad 0), .int a1, .int a2]) s 0 0 A) (F0 m 49 ls []) := by
    intro v49_3 f49_12_5 H locs ls w2 r3 t4 r5 t6 r7 t8 r9 t10 hw hT hF hRW c11 hl
    refine lv_aload_n hx hb dX12_step_49 rfl (lv_at hl 0 rfl) ?_
    refine lv_iload_n hx hb dX12_step_50 rfl (lv_at hl 1 rfl) ?_
    refine lv_iconst (v := 0) hx hb dX12_step_51 (by decide) ?_
    refine tk_Vi hC hK hw hT hA hE hSR kM_at0 (by decide) rfl (k_X12_walkerOf_2 l adK adV dC dI cy ad (B + 1800) (by omega) (by omega) qr s1   a1 (show 0 ≤ a1.toInt from r3) (show a1.toInt ≤ 3 from t4) w2 H.size hT ) (cwV 2 hC.2.2.2.2 uV_RX12_372 rfl rfl rfl (by decide +kernel) ⟨Nat.le_of_ble_eq_true rfl, Nat.le_of_ble_eq_true rfl⟩) rfl hl.1 rfl (Nat.le_of_ble_eq_true rfl) dX12_step_52 (fun r12 w14 H locs hp13 hw => ?_)
    obtain ⟨rfl, hg19⟩ := hp13
    obtain ⟨g16, g17, c18⟩ := hg19
    exact tk_iret hC hr hlocks hK ⟨hT, hF, (Or.inl ⟨(show 0 ≤ r12.toInt by first | with_reducible assumption | omega), (show r12.toInt ≤ 9 by first | with_reducible assumption | omega), (show 0 ≤ a1.toInt from r3), (show a1.toInt ≤ 3 from t4), (show 1 ≤ a2.toInt from r5), (show a2.toInt ≤ 200 from t6), ⟨f49_12_5, c11, (show 1 ≤ f49_12_5.toInt from r9), (show f49_12_5.toInt ≤ 4 from t10)⟩⟩)⟩ hw dX12_step_55
  have L24 : ∀ (n24 : Nat) (v24_3 : Int32) (f24_12_5 : Int32) (H : Heap) (locs : List Loc) (ls : Array Slot) (w20 : va_W), 0 ≤ a1.toInt → a1.toInt ≤ 3 → 1 ≤ a2.toInt → a2.toInt ≤ 200 → 0 ≤ v24_3.toInt → v24_3.toInt ≤ 200 → 1 ≤ f24_12_5.toInt → f24_12_5.toInt ≤ 4 → (200 - v24_3.toInt).toNat < n24 → Wd dC dI A s.heap H locs w20 → TW ksM ad cy (B + 0 + 9 * v24_3.toInt) qr 12 w20 → FE ksM [(12, 24, 24), (12, 31, 31), (69, 0, 64), (70, 0, 10), (71, 216, 243), (71, 220, 247), (71, 221, 248), (71, 222, 249), (71, 223, 250), (71, 224, 251), (72, 0, 12), (73, 0, 10)] w0 w20 → RW w20 → gi w20 12 5 = f24_12_5 → lv_has ls 4 [(0, .ref (ad 0)), (1, .int a1), (2, .int a2), (3, .int v24_3)] → W p l e ({ frames := 9, cells := 0, slots := 0, locals := 194 }) s m (List.toArray [.ref (ad 0), .int a1, .int a2]) below meth c H locs 0 0 (MQ below (va_Qi (P_X12_step_1 ad cy B qr s1 a1 a2 w0) (fun u : va_W => wpost dC dI cy A u) A) (List.toArray [.ref (ad 0), .int a1, .int a2]) s 0 0 A) (F0 m 24 ls []) := by
    intro n24
    induction n24 with
    | zero => intro v24_3 f24_12_5 H locs ls w20 r21 t22 r23 t24 r25 t26 r27 t28 hm24 hw hT hF hRW c29 hl; omega
    | succ n24 ih24 =>
      intro v24_3 f24_12_5 H locs ls w20 r21 t22 r23 t24 r25 t26 r27 t28 hm24 hw hT hF hRW c29 hl
      refine lv_iload_n hx hb dX12_step_24 rfl (lv_at hl 3 rfl) ?_
      refine lv_iload_n hx hb dX12_step_25 rfl (lv_at hl 2 rfl) ?_
      refine lv_icmp_ge (tgt := 49) hx hb dX12_step_26 (by decide) (fun c30 => ?_) (fun c30 => ?_)
      · have c30 : a2.toInt ≤ v24_3.toInt := wk_le.mp c30
        exact J49 v24_3 f24_12_5 H locs ls w20 (show 0 ≤ a1.toInt from r21) (show a1.toInt ≤ 3 from t22) (show 1 ≤ a2.toInt from r23) (show a2.toInt ≤ 200 from t24) (show 0 ≤ v24_3.toInt from r25) (show v24_3.toInt ≤ 200 from t26) (show 1 ≤ f24_12_5.toInt from r27) (show f24_12_5.toInt ≤ 4 from t28)  hw (hT.up (show (B + 0 + 9 * v24_3.toInt) ≤ (B + 1800) by omega)) hF hRW c29 (lv_sub hl [0, 1, 2, 3] rfl)
      · have c30 : v24_3.toInt < a2.toInt := wk_leF c30
        refine lv_aload_n hx hb dX12_step_29 rfl (lv_at hl 0 rfl) ?_
        refine lv_iload_n hx hb dX12_step_30 rfl (lv_at hl 1 rfl) ?_
        refine tk_Vi hC hK hw hT hA hE hSR kM_at0 (by decide) rfl (k_X12_isThere_1 l adK adV dC dI cy ad (B + 0 + 9 * v24_3.toInt) (by omega) (by omega) qr s1   a1 (show 0 ≤ a1.toInt from r21) (show a1.toInt ≤ 3 from t22) w20 H.size hT ) (cwV 1 hC.2.2.2.2 uV_RX12_416 rfl rfl rfl (by decide +kernel) ⟨Nat.le_of_ble_eq_true rfl, Nat.le_of_ble_eq_true rfl⟩) rfl hl.1 rfl (Nat.le_of_ble_eq_true rfl) dX12_step_31 (fun r31 w33 H locs hp32 hw => ?_)
        obtain ⟨rfl, hg35⟩ := hp32
        rcases hg35 with rfl | rfl
        · refine lv_if_ne (tgt := 49) hx hb dX12_step_34 (by decide) (fun c => absurd (by decide) c) (fun _ => ?_)
          refine lv_aload_n hx hb dX12_step_37 rfl (lv_at hl 0 rfl) ?_
          refine lv_iload_n hx hb dX12_step_38 rfl (lv_at hl 1 rfl) ?_
          refine tk_Vi hC hK hw hT hA hE hSR kM_at0 (by decide) rfl (k_X12_steps_1 l adK adV dC dI cy ad (B + 0 + 9 * v24_3.toInt) (by omega) (by omega) qr s1   a1 (show 0 ≤ a1.toInt from r21) (show a1.toInt ≤ 3 from t22) w20 H.size hT hRW) (cwV 1 hC.2.2.2.2 uV_RX12_419 rfl rfl rfl (by decide +kernel) ⟨Nat.le_of_ble_eq_true rfl, Nat.le_of_ble_eq_true rfl⟩) rfl hl.1 rfl (Nat.le_of_ble_eq_true rfl) dX12_step_39 (fun r36 w38 H locs hp37 hw => ?_)
          obtain ⟨hT, k39, hg40⟩ := hp37
          have hT := hT.up (B' := (B + 9 + 9 * v24_3.toInt)) (by omega)
          have hRW := RW_FE k39 (fun _ => rfl) (fun _ => rfl) (fun _ => rfl) hRW
          have hF := hF.tr k39 (by decide)
          have c41 := k39.gi kM_at12 (by decide) c29
          rcases hg40 with rfl | rfl
          · refine lv_pop hx hb dX12_step_42 rfl ?_
            obtain ⟨x42, ex42⟩ : ∃ y : Int32, y = v24_3 + Int32.ofInt 1 := ⟨_, rfl⟩
            refine lv_iinc (v := x42) (lv' := [(3, .int x42), (0, .ref (ad 0)), (1, .int a1), (2, .int a2)]) hx hb dX12_step_43 hl (k := 3) rfl ex42.symm (by decide) rfl (fun ls hl => ?_)
            have ex42 : x42.toInt = v24_3.toInt + 1 := by rw [ex42]; exact wk_add (y := 1) (show -2147483648 ≤ v24_3.toInt + 1 by omega) (show v24_3.toInt + 1 ≤ 2147483647 by omega)
            refine lv_goto (tgt := 24) hx hb dX12_step_46 (by decide) ?_
            exact ih24 x42 f24_12_5 H locs ls w38 (show 0 ≤ a1.toInt from r21) (show a1.toInt ≤ 3 from t22) (show 1 ≤ a2.toInt from r23) (show a2.toInt ≤ 200 from t24) (show 0 ≤ x42.toInt by first | with_reducible assumption | omega) (show x42.toInt ≤ 200 by first | with_reducible assumption | omega) (show 1 ≤ f24_12_5.toInt from r27) (show f24_12_5.toInt ≤ 4 from t28) (show (200 - x42.toInt).toNat < n24 by first | exact tn_lt hm24 (by omega) (by omega) | omega) hw (hT.up (show (B + 9 + 9 * v24_3.toInt) ≤ (B + 0 + 9 * x42.toInt) by omega)) hF hRW c41 (lv_sub hl [1, 2, 3, 0] rfl)
          · refine lv_pop hx hb dX12_step_42 rfl ?_
            obtain ⟨x43, ex43⟩ : ∃ y : Int32, y = v24_3 + Int32.ofInt 1 := ⟨_, rfl⟩
            refine lv_iinc (v := x43) (lv' := [(3, .int x43), (0, .ref (ad 0)), (1, .int a1), (2, .int a2)]) hx hb dX12_step_43 hl (k := 3) rfl ex43.symm (by decide) rfl (fun ls hl => ?_)
            have ex43 : x43.toInt = v24_3.toInt + 1 := by rw [ex43]; exact wk_add (y := 1) (show -2147483648 ≤ v24_3.toInt + 1 by omega) (show v24_3.toInt + 1 ≤ 2147483647 by omega)
            refine lv_goto (tgt := 24) hx hb dX12_step_46 (by decide) ?_
            exact ih24 x43 f24_12_5 H locs ls w38 (show 0 ≤ a1.toInt from r21) (show a1.toInt ≤ 3 from t22) (show 1 ≤ a2.toInt from r23) (show a2.toInt ≤ 200 from t24) (show 0 ≤ x43.toInt by first | with_reducible assumption | omega) (show x43.toInt ≤ 200 by first | with_reducible assumption | omega) (show 1 ≤ f24_12_5.toInt from r27) (show f24_12_5.toInt ≤ 4 from t28) (show (200 - x43.toInt).toNat < n24 by first | exact tn_lt hm24 (by omega) (by omega) | omega) hw (hT.up (show (B + 9 + 9 * v24_3.toInt) ≤ (B + 0 + 9 * x43.toInt) by omega)) hF hRW c41 (lv_sub hl [1, 2, 3, 0] rfl)
        · refine lv_if_ne (tgt := 49) hx hb dX12_step_34 (by decide) (fun _ => ?_) (fun c => absurd c (by decide))
          exact J49 v24_3 f24_12_5 H locs ls w20 (show 0 ≤ a1.toInt from r21) (show a1.toInt ≤ 3 from t22) (show 1 ≤ a2.toInt from r23) (show a2.toInt ≤ 200 from t24) (show 0 ≤ v24_3.toInt from r25) (show v24_3.toInt ≤ 200 from t26) (show 1 ≤ f24_12_5.toInt from r27) (show f24_12_5.toInt ≤ 4 from t28)  hw (hT.up (show (B + 0 + 9 * v24_3.toInt) ≤ (B + 1800) by omega)) hF hRW c29 (lv_sub hl [0, 1, 2, 3] rfl)
  refine lv_aload_n hx hb dX12_step_0 rfl (lv_at hl 0 rfl) ?_
  refine lv_iload_n hx hb dX12_step_1 rfl (lv_at hl 1 rfl) ?_
  refine tk_Vi hC hK hw hT hA hE hSR kM_at0 (by decide) rfl (k_X12_isWalker_1 l adK adV dC dI cy ad B hB0 (Int.le_trans hB1 (by decide)) qr s1   a1 w0 s.heap.size hT ) (cwV 1 hC.2.2.2.2 uV_RX12_367 rfl rfl rfl (by decide +kernel) ⟨Nat.le_of_ble_eq_true rfl, Nat.le_of_ble_eq_true rfl⟩) rfl hl.1 rfl (Nat.le_of_ble_eq_true rfl) dX12_step_2 (fun r44 w46 H locs hp45 hw => ?_)
  obtain ⟨rfl, hg52⟩ := hp45
  rcases hg52 with rfl | ⟨rfl, g48, g49, ⟨x50, c51, rx50, tx50⟩⟩
  · refine lv_if_eq (tgt := 20) hx hb dX12_step_5 (by decide) (fun _ => ?_) (fun c => absurd (by decide) c)
    exact J20  H locs ls w0   hw hT hF hRW  (lv_sub hl [0, 1, 2] rfl)
  · refine lv_if_eq (tgt := 20) hx hb dX12_step_5 (by decide) (fun c => absurd c (by decide)) (fun _ => ?_)
    refine lv_iload_n hx hb dX12_step_8 rfl (lv_at hl 2 rfl) ?_
    refine lv_i2l hx hb dX12_step_9 rfl ?_
    refine lv_topl (fun x53 ex53 => ?_)
    have ex53 : x53.toInt = a2.toInt := by rw [ex53]; exact wk_i2l _
    have bx53 := wk_i32 a2
    refine lv_lconst (v := 1) hx hb dX12_step_10 (by decide) ?_
    refine lv_ldc2 (v := 200) hx hb hC.2.2.2.1 (hC.2.2.2.2 _ (List.mem_cons_of_mem _ uw_46_14)) dX12_step_11 ?_
    refine tk_Si hC hK hw hT hA hE hSR (k_X12_in_14 l adK adV dC dI cy ad B hB0 (Int.le_trans hB1 (by decide)) qr s1   x53 (show (-2147483648) ≤ x53.toInt by first | with_reducible assumption | omega) (show x53.toInt ≤ 2147483647 by first | with_reducible assumption | omega) w0 H.size hT ) (va_cwS 3 hC.2.2.2.2 uS_RX12_122 rfl rfl rfl (by decide +kernel) ⟨Nat.le_of_ble_eq_true rfl, Nat.le_of_ble_eq_true rfl⟩) rfl hl.1 rfl (Nat.le_of_ble_eq_true rfl) dX12_step_14 (fun r54 w56 H locs hp55 hw => ?_)
    obtain ⟨rfl, hg60⟩ := hp55
    rcases hg60 with rfl | ⟨rfl, g58, g59⟩
    · refine lv_if_ne (tgt := 22) hx hb dX12_step_17 (by decide) (fun c => absurd (by decide) c) (fun _ => ?_)
      exact J20  H locs ls w0   hw hT hF hRW  (lv_sub hl [0, 1, 2] rfl)
    · refine lv_if_ne (tgt := 22) hx hb dX12_step_17 (by decide) (fun _ => ?_) (fun c => absurd c (by decide))
      refine lv_iconst (v := 0) hx hb dX12_step_22 (by decide) ?_
      refine lv_istore_n (lv' := [(3, .int 0), (0, .ref (ad 0)), (1, .int a1), (2, .int a2)]) hx hb dX12_step_23 rfl hl (by decide) rfl (fun ls hl => ?_)
      exact L24 ((200 - (0 : Int)).toNat + 1) 0 x50 H locs ls w0 (show 0 ≤ a1.toInt by first | with_reducible assumption | omega) (show a1.toInt ≤ 3 by first | with_reducible assumption | omega) (show 1 ≤ a2.toInt by first | with_reducible assumption | omega) (show a2.toInt ≤ 200 by first | with_reducible assumption | omega) (by decide) (by decide) (show 1 ≤ x50.toInt by first | with_reducible assumption | omega) (show x50.toInt ≤ 4 by first | with_reducible assumption | omega) (Nat.lt_succ_self _) hw (hT.up (show B ≤ (B + 0 + 9 * (0 : Int32).toInt) by rw [show (0 : Int32).toInt = 0 by decide]; omega)) hF hRW c51 (lv_sub hl [1, 2, 3, 0] rfl)
