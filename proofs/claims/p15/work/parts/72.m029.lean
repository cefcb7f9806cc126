abbrev P_X12_doing_2 (ad : Nat → Nat) (cy : Nat → ClassId) (B : Int) (qr : Nat) (s1 : Int)  (w0 : va_W) : Int32 → va_W → Prop := fun r u => TW ksM ad cy B qr 12 u ∧ FE ksM [(12, 24, 24), (69, 0, 64), (70, 0, 10)] w0 u ∧ ((r.toInt ≤ (-1) ∧ (∃ y : Int32, gi u 12 219 = y ∧ 0 ≤ y.toInt ∧ y.toInt ≤ 5)) ∨ (3 ≤ r.toInt ∧ (∃ y : Int32, gi u 12 219 = y ∧ 0 ≤ y.toInt ∧ y.toInt ≤ 5)) ∨ (r = 0 ∧ (∃ y : Int32, gi u 0 31 = y ∧ 0 ≤ y.toInt ∧ y.toInt ≤ 11) ∧ (∃ y : Int32, gi u 12 219 = y ∧ (-1) ≤ y.toInt ∧ y.toInt ≤ 5)) ∨ (r = 1 ∧ (∃ y : Int32, gi u 12 1 = y ∧ 1 ≤ y.toInt ∧ y.toInt ≤ 12) ∧ (∃ y : Int32, gi u 12 219 = y ∧ 0 ≤ y.toInt ∧ y.toInt ≤ 5) ∧ (mAS u (0 : Int32).toInt)) ∨ (r = 2 ∧ (∃ y : Int32, gi u 0 30 = y ∧ 0 ≤ y.toInt ∧ y.toInt ≤ 0) ∧ (∃ y : Int32, gi u 12 219 = y ∧ 0 ≤ y.toInt ∧ y.toInt ≤ 5)) ∨ (r = 3 ∧ (∃ y : Int32, gi u 12 219 = y ∧ (-1) ≤ y.toInt ∧ y.toInt ≤ 5)))
set_option maxHeartbeats 4000000 in
set_option maxRecDepth 100000 in
theorem k_X12_doing_2 (l : Launch) (adK adV : Nat → Nat) (dC : Nat → ClassId) (dI : Nat → Nat → Nat) (cy : Nat → ClassId) (ad : Nat → Nat) (B : Int) (hB0 : 100000 ≤ B) (hB1 : B ≤ 1073741824) (qr : Nat) (s1 : Int)   (w0 : va_W) (sz : Nat) (hT : TW ksM ad cy B qr 12 w0) (hRW : RW w0) : Met l yX12_doing (wu yX12_doing cX12_doing 5 (some .int)) ({ frames := 7, cells := 0, slots := 0, locals := 147 }) (va_Pc [.ref (ad 0), .int 0] (wpreS adK adV dC dI cy sz w0)) (va_Qi (P_X12_doing_2 ad cy B qr s1  w0) (fun u : va_W => wpost dC dI cy (va_A w0 sz) u) (va_A w0 sz)) 0 0 (va_A w0 sz) := by
  refine Met.ofW (cc := cX12_doing) (maxL := 5) (ret := (some .int)) (by decide) rfl ?_
  intro p e s m args below meth c s₁ Bk hml hv
  obtain ⟨rfl, ⟨hsz, hP, hK, hD0⟩, hE, hSR⟩ := hv
  have hx := Bk.exec
  have hb := Bk.bytes
  have hr := Bk.returns
  have hlocks := Bk.notSynchronized
  have hC : CallFix p m c cX12_doing 5 s _ (wu yX12_doing cX12_doing 5 (some .int)) RX12 := ⟨hx, hb, hml, findClass_of_methodNamed Bk.named, atoms_spec (ws := (wu yX12_doing cX12_doing 5 (some .int))) Bk.pre⟩
  subst hsz
  have hD := hD0.self (sz := s.heap.size)
  generalize hAe : va_A w0 s.heap.size = A at hD hE ⊢
  have hA : ∀ q : Nat, s.heap.size ≤ q → A q := fun q h => by rw [← hAe]; exact Or.inr h
  have hw : Wd dC dI A s.heap s.heap [] w0 := ⟨hP, hD, va_S.rf⟩
  have hF : FE ksM [(12, 24, 24), (69, 0, 64), (70, 0, 10)] w0 w0 := FE.rf
  have hl := lv_entry ([.ref (ad 0), .int 0]) (n := 5) (Nat.le_of_ble_eq_true rfl)
  rw [lg_entry_eq]
  generalize (lg_sl ([.ref (ad 0), .int 0]) ++ List.replicate (5 - (lg_sl ([.ref (ad 0), .int 0])).length) Slot.unset).toArray = ls at hl ⊢
  have hl : lv_has ls 5 [(0, .ref (ad 0)), (1, .int 0)] := hl
  generalize hloc : ([] : List Loc) = locs at hw ⊢
  have hinX12 : ∀ w ∈ u_ws RX12 TX12 42, w ∈ (wu yX12_doing cX12_doing 5 (some .int)) := fun _ h => List.mem_cons_of_mem _ (up_71 h)
  have L32 : ∀ (n32 : Nat) (v32_2 : Int32) (v32_3 : Int32) (f32_0_30 : Int32) (f32_12_219 : Int32) (f32_12_223 : Int32) (H : Heap) (locs : List Loc) (ls : Array Slot) (w1 : va_W), 0 ≤ v32_2.toInt → v32_2.toInt ≤ 5 → 0 ≤ v32_3.toInt → v32_3.toInt ≤ 12 → 0 ≤ f32_0_30.toInt → f32_0_30.toInt ≤ 1 → 0 ≤ f32_12_219.toInt → f32_12_219.toInt ≤ 5 → (-1) ≤ f32_12_223.toInt → f32_12_223.toInt ≤ 9 → (12 - v32_3.toInt).toNat < n32 → Wd dC dI A s.heap H locs w1 → TW ksM ad cy B qr 12 w1 → FE ksM [(12, 24, 24), (69, 0, 64), (70, 0, 10)] w0 w1 → RW w1 → gi w1 0 30 = f32_0_30 → gi w1 12 219 = f32_12_219 → gi w1 12 223 = f32_12_223 → lv_has ls 5 [(0, .ref (ad 0)), (1, .int 0), (2, .int v32_2), (3, .int v32_3)] → W p l e ({ frames := 7, cells := 0, slots := 0, locals := 147 }) s m (List.toArray [.ref (ad 0), .int 0]) below meth c H locs 0 0 (MQ below (va_Qi (P_X12_doing_2 ad cy B qr s1  w0) (fun u : va_W => wpost dC dI cy A u) A) (List.toArray [.ref (ad 0), .int 0]) s 0 0 A) (F0 m 32 ls []) := by
    intro n32
    induction n32 with
    | zero => intro v32_2 v32_3 f32_0_30 f32_12_219 f32_12_223 H locs ls w1 r2 t3 r4 t5 r6 t7 r9 t10 r12 t13 hm32 hw hT hF hRW c8 c11 c14 hl; omega
    | succ n32 ih32 =>
      intro v32_2 v32_3 f32_0_30 f32_12_219 f32_12_223 H locs ls w1 r2 t3 r4 t5 r6 t7 r9 t10 r12 t13 hm32 hw hT hF hRW c8 c11 c14 hl
      have J115 : ∀ (v115_4 : Int32) (f115_4__36_v32_2_toInt_3_v32_3_toInt_0_toNat : Int32) (f115_5__v32_2_toInt_toNat : Int32) (H : Heap) (locs : List Loc) (ls : Array Slot) (w15 : va_W), 0 ≤ v32_2.toInt → v32_2.toInt ≤ 5 → 0 ≤ v32_3.toInt → v32_3.toInt ≤ 11 → 0 ≤ v115_4.toInt → v115_4.toInt ≤ 213 → 0 ≤ f32_0_30.toInt → f32_0_30.toInt ≤ 1 → 0 ≤ f32_12_219.toInt → f32_12_219.toInt ≤ 5 → (-1) ≤ f32_12_223.toInt → f32_12_223.toInt ≤ 9 → 1 ≤ f115_5__v32_2_toInt_toNat.toInt → f115_5__v32_2_toInt_toNat.toInt ≤ 12 → Wd dC dI A s.heap H locs w15 → TW ksM ad cy B qr 12 w15 → FE ksM [(12, 24, 24), (69, 0, 64), (70, 0, 10)] w0 w15 → RW w15 → gi w15 0 30 = f32_0_30 → gi w15 12 219 = f32_12_219 → gi w15 12 223 = f32_12_223 → gi w15 4 (36 * v32_2.toInt + 3 * v32_3.toInt + 0).toNat = f115_4__36_v32_2_toInt_3_v32_3_toInt_0_toNat → gi w15 5 (v32_2.toInt).toNat = f115_5__v32_2_toInt_toNat → lv_has ls 5 [(0, .ref (ad 0)), (1, .int 0), (2, .int v32_2), (3, .int v32_3), (4, .int v115_4)] → W p l e ({ frames := 7, cells := 0, slots := 0, locals := 147 }) s m (List.toArray [.ref (ad 0), .int 0]) below meth c H locs 0 0 (MQ below (va_Qi (P_X12_doing_2 ad cy B qr s1  w0) (fun u : va_W => wpost dC dI cy A u) A) (List.toArray [.ref (ad 0), .int 0]) s 0 0 A) (F0 m 115 ls []) := by
        intro v115_4 f115_4__36_v32_2_toInt_3_v32_3_toInt_0_toNat f115_5__v32_2_toInt_toNat H locs ls w15 r16 t17 r18 t19 r20 t21 r22 t23 r25 t26 r28 t29 r32 t33 hw hT hF hRW c24 c27 c30 c31 c34 hl
        obtain ⟨x35, ex35⟩ : ∃ y : Int32, y = v32_3 + Int32.ofInt 1 := ⟨_, rfl⟩
        refine lv_iinc (v := x35) (lv' := [(3, .int x35), (0, .ref (ad 0)), (1, .int 0), (2, .int v32_2), (4, .int v115_4)]) hx hb dX12_doing_115 hl (k := 3) rfl ex35.symm (by decide) rfl (fun ls hl => ?_)
        have ex35 : x35.toInt = v32_3.toInt + 1 := by rw [ex35]; exact wk_add (y := 1) (show -2147483648 ≤ v32_3.toInt + 1 by omega) (show v32_3.toInt + 1 ≤ 2147483647 by omega)
        refine lv_goto (tgt := 32) hx hb dX12_doing_118 (by decide) ?_
        exact ih32 v32_2 x35 f32_0_30 f32_12_219 f32_12_223 H locs ls w15 (show 0 ≤ v32_2.toInt from r16) (show v32_2.toInt ≤ 5 from t17) (show 0 ≤ x35.toInt by first | with_reducible assumption | omega) (show x35.toInt ≤ 12 by first | with_reducible assumption | omega) (show 0 ≤ f32_0_30.toInt from r22) (show f32_0_30.toInt ≤ 1 from t23) (show 0 ≤ f32_12_219.toInt from r25) (show f32_12_219.toInt ≤ 5 from t26) (show (-1) ≤ f32_12_223.toInt from r28) (show f32_12_223.toInt ≤ 9 from t29) (show (12 - x35.toInt).toNat < n32 by first | exact tn_lt hm32 (by omega) (by omega) | omega) hw hT hF hRW c24 c27 c30 (lv_sub hl [1, 2, 3, 0] rfl)
      refine lv_iload_n hx hb dX12_doing_32 rfl (lv_at hl 3 rfl) ?_
      refine lv_aload_n hx hb dX12_doing_33 rfl (lv_at hl 0 rfl) ?_
      refine tk_getA hC hK hw hT hinX12 kM_at0 (by decide) rfl 6 (by decide) (List.mem_cons_of_mem _ uw_6_18) rfl rfl dX12_doing_34 ?_
      refine lv_iload_n hx hb dX12_doing_37 rfl (lv_at hl 2 rfl) ?_
      refine tk_iald hC hK hw hT kM_at5 rfl rfl (show 0 ≤ v32_2.toInt from r2) (show v32_2.toInt < 6 from Int.lt_of_le_of_lt t3 (by decide)) dX12_doing_38 (fun x36 c37 rx36 tx36 => ?_)
      have c37 : gi w1 5 (v32_2.toInt).toNat = x36 := (congrArg (gi w1 5) (congrArg Int.toNat (show v32_2.toInt = v32_2.toInt from rfl))).trans c37
      refine lv_icmp_ge (tgt := 121) hx hb dX12_doing_39 (by decide) (fun c38 => ?_) (fun c38 => ?_)
      · have c38 : x36.toInt ≤ v32_3.toInt := wk_le.mp c38
        refine lv_iconst (v := 3) hx hb dX12_doing_121 (by decide) ?_
        exact tk_iret hC hr hlocks hK ⟨hT, hF, (Or.inr (Or.inr (Or.inr (Or.inr (Or.inr ⟨rfl, ⟨f32_12_219, c11, (show (-1) ≤ f32_12_219.toInt from Int.le_trans (by decide) r9), (show f32_12_219.toInt ≤ 5 from t10)⟩⟩)))))⟩ hw dX12_doing_122
      · have c38 : v32_3.toInt < x36.toInt := wk_leF c38
        refine lv_bipush (v := 36) hx hb dX12_doing_42 (by decide) ?_
        refine lv_iload_n hx hb dX12_doing_44 rfl (lv_at hl 2 rfl) ?_
        refine lv_imul hx hb dX12_doing_45 ?_
        refine lv_topi (fun x39 ex39 => ?_)
        have ex39 : x39.toInt = (36 : Int) * v32_2.toInt := by rw [ex39]; exact wk_mul (show (-2147483648) ≤ (36 : Int) * v32_2.toInt by omega) (show (36 : Int) * v32_2.toInt ≤ 2147483647 by omega)
        refine lv_iconst (v := 3) hx hb dX12_doing_46 (by decide) ?_
        refine lv_iload_n hx hb dX12_doing_47 rfl (lv_at hl 3 rfl) ?_
        refine lv_imul hx hb dX12_doing_48 ?_
        refine lv_topi (fun x40 ex40 => ?_)
        have ex40 : x40.toInt = (3 : Int) * v32_3.toInt := by rw [ex40]; exact wk_mul (show (-2147483648) ≤ (3 : Int) * v32_3.toInt by omega) (show (3 : Int) * v32_3.toInt ≤ 2147483647 by omega)
        refine lv_iadd hx hb dX12_doing_49 ?_
        refine lv_topi (fun x41 ex41 => ?_)
        have ex41 : x41.toInt = x39.toInt + x40.toInt := by rw [ex41]; exact wk_add (show (-2147483648) ≤ x39.toInt + x40.toInt by omega) (show x39.toInt + x40.toInt ≤ 2147483647 by omega)
        refine lv_istore (lv' := [(4, .int x41), (0, .ref (ad 0)), (1, .int 0), (2, .int v32_2), (3, .int v32_3)]) hx hb dX12_doing_50 hl (by decide) rfl (fun ls hl => ?_)
        refine lv_aload_n hx hb dX12_doing_52 rfl (lv_at hl 1 rfl) ?_
        refine lv_iload_n hx hb dX12_doing_53 rfl (lv_at hl 2 rfl) ?_
        refine lv_aload_n hx hb dX12_doing_54 rfl (lv_at hl 1 rfl) ?_
        refine tk_getA hC hK hw hT hinX12 kM_at0 (by decide) rfl 5 (by decide) (List.mem_cons_of_mem _ uw_6_17) rfl rfl dX12_doing_55 ?_
        refine lv_iload hx hb dX12_doing_58 (lv_at hl 0 rfl) ?_
        refine tk_iald hC hK hw hT kM_at4 rfl rfl (show 0 ≤ x41.toInt by first | with_reducible assumption | omega) (show x41.toInt < 216 by first | with_reducible assumption | omega) dX12_doing_60 (fun x42 c43 rx42 tx42 => ?_)
        have c43 : gi w1 4 (36 * v32_2.toInt + 3 * v32_3.toInt + 0).toNat = x42 := (congrArg (gi w1 4) (congrArg Int.toNat (show 36 * v32_2.toInt + 3 * v32_3.toInt + 0 = x41.toInt by first | exact Int.le_antisymm (by omega) (by omega) | omega))).trans c43
        refine tk_Vi hC hK hw hT hA hE hSR kM_at0 (by decide) rfl (k_X12_mayDo_2 l adK adV dC dI cy ad B hB0 (Int.le_trans hB1 (by decide)) qr s1   x42 w1 H.size hT ) (cwV 2 hC.2.2.2.2 uV_RX12_398 rfl rfl rfl (by decide +kernel) ⟨Nat.le_of_ble_eq_true rfl, Nat.le_of_ble_eq_true rfl⟩) rfl hl.1 rfl (Nat.le_of_ble_eq_true rfl) dX12_doing_61 (fun r44 w46 H locs hp45 hw => ?_)
        obtain ⟨rfl, hg67⟩ := hp45
        rcases hg67 with rfl | ⟨rfl, g48, g49⟩ | ⟨rfl, g50, g51⟩ | ⟨rfl, g52⟩ | ⟨rfl, g53, g54, ⟨x55, c56, rx55, tx55⟩⟩ | ⟨rfl, g57, g58, ⟨x59, c60, rx59, tx59⟩, hq61⟩ | ⟨rfl, g62, g63, ⟨x64, c65, rx64, tx64⟩⟩ | ⟨rfl, g66⟩
        · refine lv_if_eq (tgt := 115) hx hb dX12_doing_64 (by decide) (fun _ => ?_) (fun c => absurd (by decide) c)
          exact J115 x41 x42 x36 H locs ls w1 (show 0 ≤ v32_2.toInt from r2) (show v32_2.toInt ≤ 5 from t3) (show 0 ≤ v32_3.toInt from r4) (show v32_3.toInt ≤ 11 by first | with_reducible assumption | omega) (show 0 ≤ x41.toInt by first | with_reducible assumption | omega) (show x41.toInt ≤ 213 by first | with_reducible assumption | omega) (show 0 ≤ f32_0_30.toInt from r6) (show f32_0_30.toInt ≤ 1 from t7) (show 0 ≤ f32_12_219.toInt from r9) (show f32_12_219.toInt ≤ 5 from t10) (show (-1) ≤ f32_12_223.toInt from r12) (show f32_12_223.toInt ≤ 9 from t13) (show 1 ≤ x36.toInt by first | with_reducible assumption | omega) (show x36.toInt ≤ 12 from tx36)  hw hT hF hRW c8 c11 c14 c43 c37 (lv_sub hl [1, 2, 3, 4, 0] rfl)
        · refine lv_if_eq (tgt := 115) hx hb dX12_doing_64 (by decide) (fun _ => ?_) (fun c => absurd (by decide) c)
          exact J115 x41 x42 x36 H locs ls w1 (show 0 ≤ v32_2.toInt from r2) (show v32_2.toInt ≤ 5 from t3) (show 0 ≤ v32_3.toInt from r4) (show v32_3.toInt ≤ 11 by first | with_reducible assumption | omega) (show 0 ≤ x41.toInt by first | with_reducible assumption | omega) (show x41.toInt ≤ 213 by first | with_reducible assumption | omega) (show 0 ≤ f32_0_30.toInt from r6) (show f32_0_30.toInt ≤ 1 from t7) (show 0 ≤ f32_12_219.toInt from r9) (show f32_12_219.toInt ≤ 5 from t10) (show (-1) ≤ f32_12_223.toInt from r12) (show f32_12_223.toInt ≤ 9 from t13) (show 1 ≤ x36.toInt by first | with_reducible assumption | omega) (show x36.toInt ≤ 12 from tx36)  hw hT hF hRW c8 c11 c14 c43 c37 (lv_sub hl [1, 2, 3, 4, 0] rfl)
        · refine lv_if_eq (tgt := 115) hx hb dX12_doing_64 (by decide) (fun _ => ?_) (fun c => absurd (by decide) c)
          exact J115 x41 x42 x36 H locs ls w1 (show 0 ≤ v32_2.toInt from r2) (show v32_2.toInt ≤ 5 from t3) (show 0 ≤ v32_3.toInt from r4) (show v32_3.toInt ≤ 11 by first | with_reducible assumption | omega) (show 0 ≤ x41.toInt by first | with_reducible assumption | omega) (show x41.toInt ≤ 213 by first | with_reducible assumption | omega) (show 0 ≤ f32_0_30.toInt from r6) (show f32_0_30.toInt ≤ 1 from t7) (show 0 ≤ f32_12_219.toInt from r9) (show f32_12_219.toInt ≤ 5 from t10) (show (-1) ≤ f32_12_223.toInt from r12) (show f32_12_223.toInt ≤ 9 from t13) (show 1 ≤ x36.toInt by first | with_reducible assumption | omega) (show x36.toInt ≤ 12 from tx36)  hw hT hF hRW c8 c11 c14 c43 c37 (lv_sub hl [1, 2, 3, 4, 0] rfl)
        · refine lv_if_eq (tgt := 115) hx hb dX12_doing_64 (by decide) (fun c => absurd c (by decide)) (fun _ => ?_)
          refine lv_aload_n hx hb dX12_doing_67 rfl (lv_at hl 1 rfl) ?_
          refine tk_getA hC hK hw hT hinX12 kM_at0 (by decide) rfl 5 (by decide) (List.mem_cons_of_mem _ uw_6_17) rfl rfl dX12_doing_68 ?_
          refine lv_iload hx hb dX12_doing_71 (lv_at hl 0 rfl) ?_
          refine lv_iconst (v := 1) hx hb dX12_doing_73 (by decide) ?_
          refine lv_iadd hx hb dX12_doing_74 ?_
          refine lv_topi (fun x68 ex68 => ?_)
          have ex68 : x68.toInt = x41.toInt + (1 : Int) := by rw [ex68]; exact wk_add (show (-2147483648) ≤ x41.toInt + (1 : Int) by omega) (show x41.toInt + (1 : Int) ≤ 2147483647 by omega)
          refine tk_iald hC hK hw hT kM_at4 rfl rfl (show 0 ≤ x68.toInt by first | with_reducible assumption | omega) (show x68.toInt < 216 by first | with_reducible assumption | omega) dX12_doing_75 (fun x69 c70 rx69 tx69 => ?_)
          have c70 : gi w1 4 (36 * v32_2.toInt + 3 * v32_3.toInt + 1).toNat = x69 := (congrArg (gi w1 4) (congrArg Int.toNat (show 36 * v32_2.toInt + 3 * v32_3.toInt + 1 = x68.toInt by first | exact Int.le_antisymm (by omega) (by omega) | omega))).trans c70
          refine lv_if_lt (tgt := 107) hx hb dX12_doing_76 (by decide) (fun c71 => ?_) (fun c71 => ?_)
          · have c71 : x69.toInt < (0 : Int) := wk_lt.mp c71
            refine lv_aload_n hx hb dX12_doing_107 rfl (lv_at hl 1 rfl) ?_
            refine tk_getA hC hK hw hT hinX12 kM_at0 (by decide) rfl 5 (by decide) (List.mem_cons_of_mem _ uw_6_17) rfl rfl dX12_doing_108 ?_
            refine lv_iload hx hb dX12_doing_111 (lv_at hl 0 rfl) ?_
            refine tk_iald hC hK hw hT kM_at4 rfl rfl (show 0 ≤ x41.toInt by first | with_reducible assumption | omega) (show x41.toInt < 216 by first | with_reducible assumption | omega) dX12_doing_113 (fun x72 c73 rx72 tx72 => ?_)
            have c73 : gi w1 4 (36 * v32_2.toInt + 3 * v32_3.toInt + 0).toNat = x72 := (congrArg (gi w1 4) (congrArg Int.toNat (show 36 * v32_2.toInt + 3 * v32_3.toInt + 0 = x41.toInt by first | exact Int.le_antisymm (by omega) (by omega) | omega))).trans c73
            refine wk_top x42 (c73.symm.trans c43) ?_
            exact tk_iret hC hr hlocks hK ⟨hT, hF, (Or.inl ⟨(show x42.toInt ≤ (-1) by first | with_reducible assumption | omega), ⟨f32_12_219, c11, (show 0 ≤ f32_12_219.toInt from r9), (show f32_12_219.toInt ≤ 5 from t10)⟩⟩)⟩ hw dX12_doing_114
          · have c71 : (0 : Int) ≤ x69.toInt := wk_ltF c71
            refine lv_aload_n hx hb dX12_doing_79 rfl (lv_at hl 1 rfl) ?_
            refine lv_iload_n hx hb dX12_doing_80 rfl (lv_at hl 3 rfl) ?_
            refine lv_aload_n hx hb dX12_doing_81 rfl (lv_at hl 1 rfl) ?_
            refine tk_getA hC hK hw hT hinX12 kM_at0 (by decide) rfl 5 (by decide) (List.mem_cons_of_mem _ uw_6_17) rfl rfl dX12_doing_82 ?_
            refine lv_iload hx hb dX12_doing_85 (lv_at hl 0 rfl) ?_
            refine lv_iconst (v := 1) hx hb dX12_doing_87 (by decide) ?_
            refine lv_iadd hx hb dX12_doing_88 ?_
            refine lv_topi (fun x74 ex74 => ?_)
            have ex74 : x74.toInt = x41.toInt + (1 : Int) := by rw [ex74]; exact wk_add (show (-2147483648) ≤ x41.toInt + (1 : Int) by omega) (show x41.toInt + (1 : Int) ≤ 2147483647 by omega)
            refine tk_iald hC hK hw hT kM_at4 rfl rfl (show 0 ≤ x74.toInt by first | with_reducible assumption | omega) (show x74.toInt < 216 by first | with_reducible assumption | omega) dX12_doing_89 (fun x75 c76 rx75 tx75 => ?_)
            have c76 : gi w1 4 (36 * v32_2.toInt + 3 * v32_3.toInt + 1).toNat = x75 := (congrArg (gi w1 4) (congrArg Int.toNat (show 36 * v32_2.toInt + 3 * v32_3.toInt + 1 = x74.toInt by first | exact Int.le_antisymm (by omega) (by omega) | omega))).trans c76
            refine wk_top x69 (c76.symm.trans c70) ?_
            refine lv_aload_n hx hb dX12_doing_90 rfl (lv_at hl 1 rfl) ?_
            refine tk_getA hC hK hw hT hinX12 kM_at0 (by decide) rfl 5 (by decide) (List.mem_cons_of_mem _ uw_6_17) rfl rfl dX12_doing_91 ?_
            refine lv_iload hx hb dX12_doing_94 (lv_at hl 0 rfl) ?_
            refine lv_iconst (v := 2) hx hb dX12_doing_96 (by decide) ?_
            refine lv_iadd hx hb dX12_doing_97 ?_
            refine lv_topi (fun x77 ex77 => ?_)
            have ex77 : x77.toInt = x41.toInt + (2 : Int) := by rw [ex77]; exact wk_add (show (-2147483648) ≤ x41.toInt + (2 : Int) by omega) (show x41.toInt + (2 : Int) ≤ 2147483647 by omega)
            refine tk_iald hC hK hw hT kM_at4 rfl rfl (show 0 ≤ x77.toInt by first | with_reducible assumption | omega) (show x77.toInt < 216 by first | with_reducible assumption | omega) dX12_doing_98 (fun x78 c79 rx78 tx78 => ?_)
            have c79 : gi w1 4 (36 * v32_2.toInt + 3 * v32_3.toInt + 2).toNat = x78 := (congrArg (gi w1 4) (congrArg Int.toNat (show 36 * v32_2.toInt + 3 * v32_3.toInt + 2 = x77.toInt by first | exact Int.le_antisymm (by omega) (by omega) | omega))).trans c79
            have hz := (hRW v32_2.toInt v32_3.toInt (by omega) (by omega) (by omega) (by rw [c37]; omega)).resolve_left (by rw [c70]; omega)
            rw [c70, c79] at hz
            obtain ⟨hz1, hz2, hz3⟩ := hz
            obtain ⟨x80, c81, rx80, tx80⟩ := hT.rdi (lo := 0) (hi := 64) (k := 24) kM_at0 (by decide) rfl
            refine tk_Vl hC hK hw hT hA hE hSR kM_at0 (by decide) rfl (k_X12_reckons_1 l adK adV dC dI cy ad B hB0 (Int.le_trans hB1 (by decide)) qr s1   v32_2 (show 0 ≤ v32_2.toInt from r2) (show v32_2.toInt ≤ 5 from t3) x69 (show 0 ≤ x69.toInt from c71) (show x69.toInt ≤ 400 by first | with_reducible assumption | omega) x78 (show 0 ≤ x78.toInt by first | with_reducible assumption | omega) (show x78.toInt ≤ 400 by first | with_reducible assumption | omega) w1 H.size hT x80 c81 (show 0 ≤ x80.toInt by first | with_reducible assumption | omega) (show x80.toInt ≤ 64 by first | with_reducible assumption | omega) ⟨hz1, hz3⟩) (cwV 3 hC.2.2.2.2 uV_RX12_401 rfl rfl rfl (by decide +kernel) ⟨Nat.le_of_ble_eq_true rfl, Nat.le_of_ble_eq_true rfl⟩) rfl hl.1 rfl (Nat.le_of_ble_eq_true rfl) dX12_doing_99 (fun r82 w84 H locs hp83 hw => ?_)
            obtain ⟨hT, k85, hg88⟩ := hp83
            have hRW := RW_FE k85 (fun _ => rfl) (fun _ => rfl) (fun _ => rfl) hRW
            have hF := hF.tr k85 (by decide)
            have c89 := k85.gi kM_at0 (by decide) c8
            have c90 := k85.gi kM_at12 (by decide) c11
            have c91 := k85.gi kM_at12 (by decide) c14
            have c92 := k85.gi kM_at5 rfl c37
            have c93 := k85.gi kM_at4 rfl c43
            have c94 := k85.gi kM_at4 rfl c70
            have c95 := k85.gi kM_at4 rfl c79
            obtain ⟨x86, c87, rx86, tx86⟩ := hg88
            refine lv_lconst (v := 1) hx hb dX12_doing_102 (by decide) ?_
            refine W.lcmp hx hb dX12_doing_103 ?_
            refine lv_if_ne (tgt := 115) hx hb dX12_doing_104 (by decide) (fun c96 => ?_) (fun c96 => ?_)
            · have c96 : ¬ r82.toInt = (1 : Int) := wk_ceF c96
              exact J115 x41 x42 x36 H locs ls w84 (show 0 ≤ v32_2.toInt from r2) (show v32_2.toInt ≤ 5 from t3) (show 0 ≤ v32_3.toInt from r4) (show v32_3.toInt ≤ 11 by first | with_reducible assumption | omega) (show 0 ≤ x41.toInt by first | with_reducible assumption | omega) (show x41.toInt ≤ 213 by first | with_reducible assumption | omega) (show 0 ≤ f32_0_30.toInt from r6) (show f32_0_30.toInt ≤ 1 from t7) (show 0 ≤ f32_12_219.toInt from r9) (show f32_12_219.toInt ≤ 5 from t10) (show (-1) ≤ f32_12_223.toInt from r12) (show f32_12_223.toInt ≤ 9 from t13) (show 1 ≤ x36.toInt by first | with_reducible assumption | omega) (show x36.toInt ≤ 12 from tx36)  hw hT hF hRW c89 c90 c91 c93 c92 (lv_sub hl [1, 2, 3, 4, 0] rfl)
            · have c96 : r82.toInt = (1 : Int) := wk_ceT c96
              refine lv_aload_n hx hb dX12_doing_107 rfl (lv_at hl 1 rfl) ?_
              refine tk_getA hC hK hw hT hinX12 kM_at0 (by decide) rfl 5 (by decide) (List.mem_cons_of_mem _ uw_6_17) rfl rfl dX12_doing_108 ?_
              refine lv_iload hx hb dX12_doing_111 (lv_at hl 0 rfl) ?_
              refine tk_iald hC hK hw hT kM_at4 rfl rfl (show 0 ≤ x41.toInt by first | with_reducible assumption | omega) (show x41.toInt < 216 by first | with_reducible assumption | omega) dX12_doing_113 (fun x97 c98 rx97 tx97 => ?_)
              have c98 : gi w84 4 (36 * v32_2.toInt + 3 * v32_3.toInt + 0).toNat = x97 := (congrArg (gi w84 4) (congrArg Int.toNat (show 36 * v32_2.toInt + 3 * v32_3.toInt + 0 = x41.toInt by first | exact Int.le_antisymm (by omega) (by omega) | omega))).trans c98
              refine wk_top x42 (c98.symm.trans c93) ?_
              exact tk_iret hC hr hlocks hK ⟨hT, hF, (Or.inl ⟨(show x42.toInt ≤ (-1) by first | with_reducible assumption | omega), ⟨f32_12_219, c90, (show 0 ≤ f32_12_219.toInt from r9), (show f32_12_219.toInt ≤ 5 from t10)⟩⟩)⟩ hw dX12_doing_114
        · refine lv_if_eq (tgt := 115) hx hb dX12_doing_64 (by decide) (fun c => absurd c (by decide)) (fun _ => ?_)
          refine lv_aload_n hx hb dX12_doing_67 rfl (lv_at hl 1 rfl) ?_
          refine tk_getA hC hK hw hT hinX12 kM_at0 (by decide) rfl 5 (by decide) (List.mem_cons_of_mem _ uw_6_17) rfl rfl dX12_doing_68 ?_
          refine lv_iload hx hb dX12_doing_71 (lv_at hl 0 rfl) ?_
          refine lv_iconst (v := 1) hx hb dX12_doing_73 (by decide) ?_
          refine lv_iadd hx hb dX12_doing_74 ?_
          refine lv_topi (fun x99 ex99 => ?_)
          have ex99 : x99.toInt = x41.toInt + (1 : Int) := by rw [ex99]; exact wk_add (show (-2147483648) ≤ x41.toInt + (1 : Int) by omega) (show x41.toInt + (1 : Int) ≤ 2147483647 by omega)
          refine tk_iald hC hK hw hT kM_at4 rfl rfl (show 0 ≤ x99.toInt by first | with_reducible assumption | omega) (show x99.toInt < 216 by first | with_reducible assumption | omega) dX12_doing_75 (fun x100 c101 rx100 tx100 => ?_)
          have c101 : gi w1 4 (36 * v32_2.toInt + 3 * v32_3.toInt + 1).toNat = x100 := (congrArg (gi w1 4) (congrArg Int.toNat (show 36 * v32_2.toInt + 3 * v32_3.toInt + 1 = x99.toInt by first | exact Int.le_antisymm (by omega) (by omega) | omega))).trans c101
          refine lv_if_lt (tgt := 107) hx hb dX12_doing_76 (by decide) (fun c102 => ?_) (fun c102 => ?_)
          · have c102 : x100.toInt < (0 : Int) := wk_lt.mp c102
            refine lv_aload_n hx hb dX12_doing_107 rfl (lv_at hl 1 rfl) ?_
            refine tk_getA hC hK hw hT hinX12 kM_at0 (by decide) rfl 5 (by decide) (List.mem_cons_of_mem _ uw_6_17) rfl rfl dX12_doing_108 ?_
            refine lv_iload hx hb dX12_doing_111 (lv_at hl 0 rfl) ?_
            refine tk_iald hC hK hw hT kM_at4 rfl rfl (show 0 ≤ x41.toInt by first | with_reducible assumption | omega) (show x41.toInt < 216 by first | with_reducible assumption | omega) dX12_doing_113 (fun x103 c104 rx103 tx103 => ?_)
            have c104 : gi w1 4 (36 * v32_2.toInt + 3 * v32_3.toInt + 0).toNat = x103 := (congrArg (gi w1 4) (congrArg Int.toNat (show 36 * v32_2.toInt + 3 * v32_3.toInt + 0 = x41.toInt by first | exact Int.le_antisymm (by omega) (by omega) | omega))).trans c104
            refine wk_top x42 (c104.symm.trans c43) ?_
            exact tk_iret hC hr hlocks hK ⟨hT, hF, (Or.inr (Or.inr (Or.inl ⟨(wk_eq.mpr (show x42.toInt = 0 by first | exact Int.le_antisymm (by omega) (by omega) | omega)), ⟨x55, c56, (show 0 ≤ x55.toInt by first | with_reducible assumption | omega), (show x55.toInt ≤ 11 by first | with_reducible assumption | omega)⟩, ⟨f32_12_219, c11, (show (-1) ≤ f32_12_219.toInt from Int.le_trans (by decide) r9), (show f32_12_219.toInt ≤ 5 from t10)⟩⟩)))⟩ hw dX12_doing_114
          · have c102 : (0 : Int) ≤ x100.toInt := wk_ltF c102
            refine lv_aload_n hx hb dX12_doing_79 rfl (lv_at hl 1 rfl) ?_
            refine lv_iload_n hx hb dX12_doing_80 rfl (lv_at hl 3 rfl) ?_
            refine lv_aload_n hx hb dX12_doing_81 rfl (lv_at hl 1 rfl) ?_
            refine tk_getA hC hK hw hT hinX12 kM_at0 (by decide) rfl 5 (by decide) (List.mem_cons_of_mem _ uw_6_17) rfl rfl dX12_doing_82 ?_
            refine lv_iload hx hb dX12_doing_85 (lv_at hl 0 rfl) ?_
            refine lv_iconst (v := 1) hx hb dX12_doing_87 (by decide) ?_
            refine lv_iadd hx hb dX12_doing_88 ?_
            refine lv_topi (fun x105 ex105 => ?_)
            have ex105 : x105.toInt = x41.toInt + (1 : Int) := by rw [ex105]; exact wk_add (show (-2147483648) ≤ x41.toInt + (1 : Int) by omega) (show x41.toInt + (1 : Int) ≤ 2147483647 by omega)
            refine tk_iald hC hK hw hT kM_at4 rfl rfl (show 0 ≤ x105.toInt by first | with_reducible assumption | omega) (show x105.toInt < 216 by first | with_reducible assumption | omega) dX12_doing_89 (fun x106 c107 rx106 tx106 => ?_)
            have c107 : gi w1 4 (36 * v32_2.toInt + 3 * v32_3.toInt + 1).toNat = x106 := (congrArg (gi w1 4) (congrArg Int.toNat (show 36 * v32_2.toInt + 3 * v32_3.toInt + 1 = x105.toInt by first | exact Int.le_antisymm (by omega) (by omega) | omega))).trans c107
            refine wk_top x100 (c107.symm.trans c101) ?_
            refine lv_aload_n hx hb dX12_doing_90 rfl (lv_at hl 1 rfl) ?_
            refine tk_getA hC hK hw hT hinX12 kM_at0 (by decide) rfl 5 (by decide) (List.mem_cons_of_mem _ uw_6_17) rfl rfl dX12_doing_91 ?_
            refine lv_iload hx hb dX12_doing_94 (lv_at hl 0 rfl) ?_
            refine lv_iconst (v := 2) hx hb dX12_doing_96 (by decide) ?_
            refine lv_iadd hx hb dX12_doing_97 ?_
            refine lv_topi (fun x108 ex108 => ?_)
            have ex108 : x108.toInt = x41.toInt + (2 : Int) := by rw [ex108]; exact wk_add (show (-2147483648) ≤ x41.toInt + (2 : Int) by omega) (show x41.toInt + (2 : Int) ≤ 2147483647 by omega)
            refine tk_iald hC hK hw hT kM_at4 rfl rfl (show 0 ≤ x108.toInt by first | with_reducible assumption | omega) (show x108.toInt < 216 by first | with_reducible assumption | omega) dX12_doing_98 (fun x109 c110 rx109 tx109 => ?_)
            have c110 : gi w1 4 (36 * v32_2.toInt + 3 * v32_3.toInt + 2).toNat = x109 := (congrArg (gi w1 4) (congrArg Int.toNat (show 36 * v32_2.toInt + 3 * v32_3.toInt + 2 = x108.toInt by first | exact Int.le_antisymm (by omega) (by omega) | omega))).trans c110
            have hz := (hRW v32_2.toInt v32_3.toInt (by omega) (by omega) (by omega) (by rw [c37]; omega)).resolve_left (by rw [c101]; omega)
            rw [c101, c110] at hz
            obtain ⟨hz1, hz2, hz3⟩ := hz
            obtain ⟨x111, c112, rx111, tx111⟩ := hT.rdi (lo := 0) (hi := 64) (k := 24) kM_at0 (by decide) rfl
            refine tk_Vl hC hK hw hT hA hE hSR kM_at0 (by decide) rfl (k_X12_reckons_1 l adK adV dC dI cy ad B hB0 (Int.le_trans hB1 (by decide)) qr s1   v32_2 (show 0 ≤ v32_2.toInt from r2) (show v32_2.toInt ≤ 5 from t3) x100 (show 0 ≤ x100.toInt from c102) (show x100.toInt ≤ 400 by first | with_reducible assumption | omega) x109 (show 0 ≤ x109.toInt by first | with_reducible assumption | omega) (show x109.toInt ≤ 400 by first | with_reducible assumption | omega) w1 H.size hT x111 c112 (show 0 ≤ x111.toInt by first | with_reducible assumption | omega) (show x111.toInt ≤ 64 by first | with_reducible assumption | omega) ⟨hz1, hz3⟩) (cwV 3 hC.2.2.2.2 uV_RX12_401 rfl rfl rfl (by decide +kernel) ⟨Nat.le_of_ble_eq_true rfl, Nat.le_of_ble_eq_true rfl⟩) rfl hl.1 rfl (Nat.le_of_ble_eq_true rfl) dX12_doing_99 (fun r113 w115 H locs hp114 hw => ?_)
            obtain ⟨hT, k116, hg119⟩ := hp114
            have hRW := RW_FE k116 (fun _ => rfl) (fun _ => rfl) (fun _ => rfl) hRW
            have hF := hF.tr k116 (by decide)
            have c120 := k116.gi kM_at0 (by decide) c8
            have c121 := k116.gi kM_at12 (by decide) c11
            have c122 := k116.gi kM_at12 (by decide) c14
            have c123 := k116.gi kM_at5 rfl c37
            have c124 := k116.gi kM_at4 rfl c43
            have c125 := k116.gi kM_at0 (by decide) c56
            have c126 := k116.gi kM_at4 rfl c101
            have c127 := k116.gi kM_at4 rfl c110
            obtain ⟨x117, c118, rx117, tx117⟩ := hg119
            refine lv_lconst (v := 1) hx hb dX12_doing_102 (by decide) ?_
            refine W.lcmp hx hb dX12_doing_103 ?_
            refine lv_if_ne (tgt := 115) hx hb dX12_doing_104 (by decide) (fun c128 => ?_) (fun c128 => ?_)
            · have c128 : ¬ r113.toInt = (1 : Int) := wk_ceF c128
              exact J115 x41 x42 x36 H locs ls w115 (show 0 ≤ v32_2.toInt from r2) (show v32_2.toInt ≤ 5 from t3) (show 0 ≤ v32_3.toInt from r4) (show v32_3.toInt ≤ 11 by first | with_reducible assumption | omega) (show 0 ≤ x41.toInt by first | with_reducible assumption | omega) (show x41.toInt ≤ 213 by first | with_reducible assumption | omega) (show 0 ≤ f32_0_30.toInt from r6) (show f32_0_30.toInt ≤ 1 from t7) (show 0 ≤ f32_12_219.toInt from r9) (show f32_12_219.toInt ≤ 5 from t10) (show (-1) ≤ f32_12_223.toInt from r12) (show f32_12_223.toInt ≤ 9 from t13) (show 1 ≤ x36.toInt by first | with_reducible assumption | omega) (show x36.toInt ≤ 12 from tx36)  hw hT hF hRW c120 c121 c122 c124 c123 (lv_sub hl [1, 2, 3, 4, 0] rfl)
            · have c128 : r113.toInt = (1 : Int) := wk_ceT c128
              refine lv_aload_n hx hb dX12_doing_107 rfl (lv_at hl 1 rfl) ?_
              refine tk_getA hC hK hw hT hinX12 kM_at0 (by decide) rfl 5 (by decide) (List.mem_cons_of_mem _ uw_6_17) rfl rfl dX12_doing_108 ?_
              refine lv_iload hx hb dX12_doing_111 (lv_at hl 0 rfl) ?_
              refine tk_iald hC hK hw hT kM_at4 rfl rfl (show 0 ≤ x41.toInt by first | with_reducible assumption | omega) (show x41.toInt < 216 by first | with_reducible assumption | omega) dX12_doing_113 (fun x129 c130 rx129 tx129 => ?_)
              have c130 : gi w115 4 (36 * v32_2.toInt + 3 * v32_3.toInt + 0).toNat = x129 := (congrArg (gi w115 4) (congrArg Int.toNat (show 36 * v32_2.toInt + 3 * v32_3.toInt + 0 = x41.toInt by first | exact Int.le_antisymm (by omega) (by omega) | omega))).trans c130
              refine wk_top x42 (c130.symm.trans c124) ?_
              exact tk_iret hC hr hlocks hK ⟨hT, hF, (Or.inr (Or.inr (Or.inl ⟨(wk_eq.mpr (show x42.toInt = 0 by first | exact Int.le_antisymm (by omega) (by omega) | omega)), ⟨x55, c125, (show 0 ≤ x55.toInt by first | with_reducible assumption | omega), (show x55.toInt ≤ 11 by first | with_reducible assumption | omega)⟩, ⟨f32_12_219, c121, (show (-1) ≤ f32_12_219.toInt from Int.le_trans (by decide) r9), (show f32_12_219.toInt ≤ 5 from t10)⟩⟩)))⟩ hw dX12_doing_114
        · refine lv_if_eq (tgt := 115) hx hb dX12_doing_64 (by decide) (fun c => absurd c (by decide)) (fun _ => ?_)
          refine lv_aload_n hx hb dX12_doing_67 rfl (lv_at hl 1 rfl) ?_
          refine tk_getA hC hK hw hT hinX12 kM_at0 (by decide) rfl 5 (by decide) (List.mem_cons_of_mem _ uw_6_17) rfl rfl dX12_doing_68 ?_
          refine lv_iload hx hb dX12_doing_71 (lv_at hl 0 rfl) ?_
          refine lv_iconst (v := 1) hx hb dX12_doing_73 (by decide) ?_
          refine lv_iadd hx hb dX12_doing_74 ?_
          refine lv_topi (fun x131 ex131 => ?_)
          have ex131 : x131.toInt = x41.toInt + (1 : Int) := by rw [ex131]; exact wk_add (show (-2147483648) ≤ x41.toInt + (1 : Int) by omega) (show x41.toInt + (1 : Int) ≤ 2147483647 by omega)
          refine tk_iald hC hK hw hT kM_at4 rfl rfl (show 0 ≤ x131.toInt by first | with_reducible assumption | omega) (show x131.toInt < 216 by first | with_reducible assumption | omega) dX12_doing_75 (fun x132 c133 rx132 tx132 => ?_)
          have c133 : gi w1 4 (36 * v32_2.toInt + 3 * v32_3.toInt + 1).toNat = x132 := (congrArg (gi w1 4) (congrArg Int.toNat (show 36 * v32_2.toInt + 3 * v32_3.toInt + 1 = x131.toInt by first | exact Int.le_antisymm (by omega) (by omega) | omega))).trans c133
          refine lv_if_lt (tgt := 107) hx hb dX12_doing_76 (by decide) (fun c134 => ?_) (fun c134 => ?_)
          · have c134 : x132.toInt < (0 : Int) := wk_lt.mp c134
            refine lv_aload_n hx hb dX12_doing_107 rfl (lv_at hl 1 rfl) ?_
            refine tk_getA hC hK hw hT hinX12 kM_at0 (by decide) rfl 5 (by decide) (List.mem_cons_of_mem _ uw_6_17) rfl rfl dX12_doing_108 ?_
            refine lv_iload hx hb dX12_doing_111 (lv_at hl 0 rfl) ?_
            refine tk_iald hC hK hw hT kM_at4 rfl rfl (show 0 ≤ x41.toInt by first | with_reducible assumption | omega) (show x41.toInt < 216 by first | with_reducible assumption | omega) dX12_doing_113 (fun x135 c136 rx135 tx135 => ?_)
            have c136 : gi w1 4 (36 * v32_2.toInt + 3 * v32_3.toInt + 0).toNat = x135 := (congrArg (gi w1 4) (congrArg Int.toNat (show 36 * v32_2.toInt + 3 * v32_3.toInt + 0 = x41.toInt by first | exact Int.le_antisymm (by omega) (by omega) | omega))).trans c136
            refine wk_top x42 (c136.symm.trans c43) ?_
            exact tk_iret hC hr hlocks hK ⟨hT, hF, (Or.inr (Or.inr (Or.inr (Or.inl ⟨(wk_eq.mpr (show x42.toInt = 1 by first | exact Int.le_antisymm (by omega) (by omega) | omega)), ⟨x59, c60, (show 1 ≤ x59.toInt by first | with_reducible assumption | omega), (show x59.toInt ≤ 12 by first | with_reducible assumption | omega)⟩, ⟨f32_12_219, c11, (show 0 ≤ f32_12_219.toInt from r9), (show f32_12_219.toInt ≤ 5 from t10)⟩, (by exact hq61)⟩))))⟩ hw dX12_doing_114
          · have c134 : (0 : Int) ≤ x132.toInt := wk_ltF c134
            refine lv_aload_n hx hb dX12_doing_79 rfl (lv_at hl 1 rfl) ?_
            refine lv_iload_n hx hb dX12_doing_80 rfl (lv_at hl 3 rfl) ?_
            refine lv_aload_n hx hb dX12_doing_81 rfl (lv_at hl 1 rfl) ?_
            refine tk_getA hC hK hw hT hinX12 kM_at0 (by decide) rfl 5 (by decide) (List.mem_cons_of_mem _ uw_6_17) rfl rfl dX12_doing_82 ?_
            refine lv_iload hx hb dX12_doing_85 (lv_at hl 0 rfl) ?_
            refine lv_iconst (v := 1) hx hb dX12_doing_87 (by decide) ?_
            refine lv_iadd hx hb dX12_doing_88 ?_
            refine lv_topi (fun x137 ex137 => ?_)
            have ex137 : x137.toInt = x41.toInt + (1 : Int) := by rw [ex137]; exact wk_add (show (-2147483648) ≤ x41.toInt + (1 : Int) by omega) (show x41.toInt + (1 : Int) ≤ 2147483647 by omega)
            refine tk_iald hC hK hw hT kM_at4 rfl rfl (show 0 ≤ x137.toInt by first | with_reducible assumption | omega) (show x137.toInt < 216 by first | with_reducible assumption | omega) dX12_doing_89 (fun x138 c139 rx138 tx138 => ?_)
            have c139 : gi w1 4 (36 * v32_2.toInt + 3 * v32_3.toInt + 1).toNat = x138 := (congrArg (gi w1 4) (congrArg Int.toNat (show 36 * v32_2.toInt + 3 * v32_3.toInt + 1 = x137.toInt by first | exact Int.le_antisymm (by omega) (by omega) | omega))).trans c139
            refine wk_top x132 (c139.symm.trans c133) ?_
            refine lv_aload_n hx hb dX12_doing_90 rfl (lv_at hl 1 rfl) ?_
            refine tk_getA hC hK hw hT hinX12 kM_at0 (by decide) rfl 5 (by decide) (List.mem_cons_of_mem _ uw_6_17) rfl rfl dX12_doing_91 ?_
            refine lv_iload hx hb dX12_doing_94 (lv_at hl 0 rfl) ?_
            refine lv_iconst (v := 2) hx hb dX12_doing_96 (by decide) ?_
            refine lv_iadd hx hb dX12_doing_97 ?_
            refine lv_topi (fun x140 ex140 => ?_)
            have ex140 : x140.toInt = x41.toInt + (2 : Int) := by rw [ex140]; exact wk_add (show (-2147483648) ≤ x41.toInt + (2 : Int) by omega) (show x41.toInt + (2 : Int) ≤ 2147483647 by omega)
            refine tk_iald hC hK hw hT kM_at4 rfl rfl (show 0 ≤ x140.toInt by first | with_reducible assumption | omega) (show x140.toInt < 216 by first | with_reducible assumption | omega) dX12_doing_98 (fun x141 c142 rx141 tx141 => ?_)
            have c142 : gi w1 4 (36 * v32_2.toInt + 3 * v32_3.toInt + 2).toNat = x141 := (congrArg (gi w1 4) (congrArg Int.toNat (show 36 * v32_2.toInt + 3 * v32_3.toInt + 2 = x140.toInt by first | exact Int.le_antisymm (by omega) (by omega) | omega))).trans c142
            have hz := (hRW v32_2.toInt v32_3.toInt (by omega) (by omega) (by omega) (by rw [c37]; omega)).resolve_left (by rw [c133]; omega)
            rw [c133, c142] at hz
            obtain ⟨hz1, hz2, hz3⟩ := hz
            obtain ⟨x143, c144, rx143, tx143⟩ := hT.rdi (lo := 0) (hi := 64) (k := 24) kM_at0 (by decide) rfl
            refine tk_Vl hC hK hw hT hA hE hSR kM_at0 (by decide) rfl (k_X12_reckons_1 l adK adV dC dI cy ad B hB0 (Int.le_trans hB1 (by decide)) qr s1   v32_2 (show 0 ≤ v32_2.toInt from r2) (show v32_2.toInt ≤ 5 from t3) x132 (show 0 ≤ x132.toInt from c134) (show x132.toInt ≤ 400 by first | with_reducible assumption | omega) x141 (show 0 ≤ x141.toInt by first | with_reducible assumption | omega) (show x141.toInt ≤ 400 by first | with_reducible assumption | omega) w1 H.size hT x143 c144 (show 0 ≤ x143.toInt by first | with_reducible assumption | omega) (show x143.toInt ≤ 64 by first | with_reducible assumption | omega) ⟨hz1, hz3⟩) (cwV 3 hC.2.2.2.2 uV_RX12_401 rfl rfl rfl (by decide +kernel) ⟨Nat.le_of_ble_eq_true rfl, Nat.le_of_ble_eq_true rfl⟩) rfl hl.1 rfl (Nat.le_of_ble_eq_true rfl) dX12_doing_99 (fun r145 w147 H locs hp146 hw => ?_)
            obtain ⟨hT, k148, hg151⟩ := hp146
            have hRW := RW_FE k148 (fun _ => rfl) (fun _ => rfl) (fun _ => rfl) hRW
            have hq152 := mAS_FE k148 (fun _ => rfl) (by decide) hq61
            have hF := hF.tr k148 (by decide)
            have c153 := k148.gi kM_at0 (by decide) c8
            have c154 := k148.gi kM_at12 (by decide) c11
            have c155 := k148.gi kM_at12 (by decide) c14
            have c156 := k148.gi kM_at5 rfl c37
            have c157 := k148.gi kM_at4 rfl c43
            have c158 := k148.gi kM_at12 (by decide) c60
            have c159 := k148.gi kM_at4 rfl c133
            have c160 := k148.gi kM_at4 rfl c142
            obtain ⟨x149, c150, rx149, tx149⟩ := hg151
            refine lv_lconst (v := 1) hx hb dX12_doing_102 (by decide) ?_
            refine W.lcmp hx hb dX12_doing_103 ?_
            refine lv_if_ne (tgt := 115) hx hb dX12_doing_104 (by decide) (fun c161 => ?_) (fun c161 => ?_)
            · have c161 : ¬ r145.toInt = (1 : Int) := wk_ceF c161
              exact J115 x41 x42 x36 H locs ls w147 (show 0 ≤ v32_2.toInt from r2) (show v32_2.toInt ≤ 5 from t3) (show 0 ≤ v32_3.toInt from r4) (show v32_3.toInt ≤ 11 by first | with_reducible assumption | omega) (show 0 ≤ x41.toInt by first | with_reducible assumption | omega) (show x41.toInt ≤ 213 by first | with_reducible assumption | omega) (show 0 ≤ f32_0_30.toInt from r6) (show f32_0_30.toInt ≤ 1 from t7) (show 0 ≤ f32_12_219.toInt from r9) (show f32_12_219.toInt ≤ 5 from t10) (show (-1) ≤ f32_12_223.toInt from r12) (show f32_12_223.toInt ≤ 9 from t13) (show 1 ≤ x36.toInt by first | with_reducible assumption | omega) (show x36.toInt ≤ 12 from tx36)  hw hT hF hRW c153 c154 c155 c157 c156 (lv_sub hl [1, 2, 3, 4, 0] rfl)
            · have c161 : r145.toInt = (1 : Int) := wk_ceT c161
              refine lv_aload_n hx hb dX12_doing_107 rfl (lv_at hl 1 rfl) ?_
              refine tk_getA hC hK hw hT hinX12 kM_at0 (by decide) rfl 5 (by decide) (List.mem_cons_of_mem _ uw_6_17) rfl rfl dX12_doing_108 ?_
              refine lv_iload hx hb dX12_doing_111 (lv_at hl 0 rfl) ?_
              refine tk_iald hC hK hw hT kM_at4 rfl rfl (show 0 ≤ x41.toInt by first | with_reducible assumption | omega) (show x41.toInt < 216 by first | with_reducible assumption | omega) dX12_doing_113 (fun x162 c163 rx162 tx162 => ?_)
              have c163 : gi w147 4 (36 * v32_2.toInt + 3 * v32_3.toInt + 0).toNat = x162 := (congrArg (gi w147 4) (congrArg Int.toNat (show 36 * v32_2.toInt + 3 * v32_3.toInt + 0 = x41.toInt by first | exact Int.le_antisymm (by omega) (by omega) | omega))).trans c163
              refine wk_top x42 (c163.symm.trans c157) ?_
              exact tk_iret hC hr hlocks hK ⟨hT, hF, (Or.inr (Or.inr (Or.inr (Or.inl ⟨(wk_eq.mpr (show x42.toInt = 1 by first | exact Int.le_antisymm (by omega) (by omega) | omega)), ⟨x59, c158, (show 1 ≤ x59.toInt by first | with_reducible assumption | omega), (show x59.toInt ≤ 12 by first | with_reducible assumption | omega)⟩, ⟨f32_12_219, c154, (show 0 ≤ f32_12_219.toInt from r9), (show f32_12_219.toInt ≤ 5 from t10)⟩, (by exact hq152)⟩))))⟩ hw dX12_doing_114
        · have ex64 : x64.toInt = f32_0_30.toInt := by rw [← c8.symm.trans c65]
          refine lv_if_eq (tgt := 115) hx hb dX12_doing_64 (by decide) (fun c => absurd c (by decide)) (fun _ => ?_)
          refine lv_aload_n hx hb dX12_doing_67 rfl (lv_at hl 1 rfl) ?_
          refine tk_getA hC hK hw hT hinX12 kM_at0 (by decide) rfl 5 (by decide) (List.mem_cons_of_mem _ uw_6_17) rfl rfl dX12_doing_68 ?_
          refine lv_iload hx hb dX12_doing_71 (lv_at hl 0 rfl) ?_
          refine lv_iconst (v := 1) hx hb dX12_doing_73 (by decide) ?_
          refine lv_iadd hx hb dX12_doing_74 ?_
          refine lv_topi (fun x164 ex164 => ?_)
          have ex164 : x164.toInt = x41.toInt + (1 : Int) := by rw [ex164]; exact wk_add (show (-2147483648) ≤ x41.toInt + (1 : Int) by omega) (show x41.toInt + (1 : Int) ≤ 2147483647 by omega)
          refine tk_iald hC hK hw hT kM_at4 rfl rfl (show 0 ≤ x164.toInt by first | with_reducible assumption | omega) (show x164.toInt < 216 by first | with_reducible assumption | omega) dX12_doing_75 (fun x165 c166 rx165 tx165 => ?_)
          have c166 : gi w1 4 (36 * v32_2.toInt + 3 * v32_3.toInt + 1).toNat = x165 := (congrArg (gi w1 4) (congrArg Int.toNat (show 36 * v32_2.toInt + 3 * v32_3.toInt + 1 = x164.toInt by first | exact Int.le_antisymm (by omega) (by omega) | omega))).trans c166
          refine lv_if_lt (tgt := 107) hx hb dX12_doing_76 (by decide) (fun c167 => ?_) (fun c167 => ?_)
          · have c167 : x165.toInt < (0 : Int) := wk_lt.mp c167
            refine lv_aload_n hx hb dX12_doing_107 rfl (lv_at hl 1 rfl) ?_
            refine tk_getA hC hK hw hT hinX12 kM_at0 (by decide) rfl 5 (by decide) (List.mem_cons_of_mem _ uw_6_17) rfl rfl dX12_doing_108 ?_
            refine lv_iload hx hb dX12_doing_111 (lv_at hl 0 rfl) ?_
            refine tk_iald hC hK hw hT kM_at4 rfl rfl (show 0 ≤ x41.toInt by first | with_reducible assumption | omega) (show x41.toInt < 216 by first | with_reducible assumption | omega) dX12_doing_113 (fun x168 c169 rx168 tx168 => ?_)
            have c169 : gi w1 4 (36 * v32_2.toInt + 3 * v32_3.toInt + 0).toNat = x168 := (congrArg (gi w1 4) (congrArg Int.toNat (show 36 * v32_2.toInt + 3 * v32_3.toInt + 0 = x41.toInt by first | exact Int.le_antisymm (by omega) (by omega) | omega))).trans c169
            refine wk_top x42 (c169.symm.trans c43) ?_
            exact tk_iret hC hr hlocks hK ⟨hT, hF, (Or.inr (Or.inr (Or.inr (Or.inr (Or.inl ⟨(wk_eq.mpr (show x42.toInt = 2 by first | exact Int.le_antisymm (by omega) (by omega) | omega)), ⟨f32_0_30, c8, (show 0 ≤ f32_0_30.toInt from r6), (show f32_0_30.toInt ≤ 0 by first | with_reducible assumption | omega)⟩, ⟨f32_12_219, c11, (show 0 ≤ f32_12_219.toInt from r9), (show f32_12_219.toInt ≤ 5 from t10)⟩⟩)))))⟩ hw dX12_doing_114
          · have c167 : (0 : Int) ≤ x165.toInt := wk_ltF c167
            refine lv_aload_n hx hb dX12_doing_79 rfl (lv_at hl 1 rfl) ?_
            refine lv_iload_n hx hb dX12_doing_80 rfl (lv_at hl 3 rfl) ?_
            refine lv_aload_n hx hb dX12_doing_81 rfl (lv_at hl 1 rfl) ?_
            refine tk_getA hC hK hw hT hinX12 kM_at0 (by decide) rfl 5 (by decide) (List.mem_cons_of_mem _ uw_6_17) rfl rfl dX12_doing_82 ?_
            refine lv_iload hx hb dX12_doing_85 (lv_at hl 0 rfl) ?_
            refine lv_iconst (v := 1) hx hb dX12_doing_87 (by decide) ?_
            refine lv_iadd hx hb dX12_doing_88 ?_
            refine lv_topi (fun x170 ex170 => ?_)
            have ex170 : x170.toInt = x41.toInt + (1 : Int) := by rw [ex170]; exact wk_add (show (-2147483648) ≤ x41.toInt + (1 : Int) by omega) (show x41.toInt + (1 : Int) ≤ 2147483647 by omega)
            refine tk_iald hC hK hw hT kM_at4 rfl rfl (show 0 ≤ x170.toInt by first | with_reducible assumption | omega) (show x170.toInt < 216 by first | with_reducible assumption | omega) dX12_doing_89 (fun x171 c172 rx171 tx171 => ?_)
            have c172 : gi w1 4 (36 * v32_2.toInt + 3 * v32_3.toInt + 1).toNat = x171 := (congrArg (gi w1 4) (congrArg Int.toNat (show 36 * v32_2.toInt + 3 * v32_3.toInt + 1 = x170.toInt by first | exact Int.le_antisymm (by omega) (by omega) | omega))).trans c172
            refine wk_top x165 (c172.symm.trans c166) ?_
            refine lv_aload_n hx hb dX12_doing_90 rfl (lv_at hl 1 rfl) ?_
            refine tk_getA hC hK hw hT hinX12 kM_at0 (by decide) rfl 5 (by decide) (List.mem_cons_of_mem _ uw_6_17) rfl rfl dX12_doing_91 ?_
            refine lv_iload hx hb dX12_doing_94 (lv_at hl 0 rfl) ?_
            refine lv_iconst (v := 2) hx hb dX12_doing_96 (by decide) ?_
            refine lv_iadd hx hb dX12_doing_97 ?_
            refine lv_topi (fun x173 ex173 => ?_)
            have ex173 : x173.toInt = x41.toInt + (2 : Int) := by rw [ex173]; exact wk_add (show (-2147483648) ≤ x41.toInt + (2 : Int) by omega) (show x41.toInt + (2 : Int) ≤ 2147483647 by omega)
            refine tk_iald hC hK hw hT kM_at4 rfl rfl (show 0 ≤ x173.toInt by first | with_reducible assumption | omega) (show x173.toInt < 216 by first | with_reducible assumption | omega) dX12_doing_98 (fun x174 c175 rx174 tx174 => ?_)
            have c175 : gi w1 4 (36 * v32_2.toInt + 3 * v32_3.toInt + 2).toNat = x174 := (congrArg (gi w1 4) (congrArg Int.toNat (show 36 * v32_2.toInt + 3 * v32_3.toInt + 2 = x173.toInt by first | exact Int.le_antisymm (by omega) (by omega) | omega))).trans c175
            have hz := (hRW v32_2.toInt v32_3.toInt (by omega) (by omega) (by omega) (by rw [c37]; omega)).resolve_left (by rw [c166]; omega)
            rw [c166, c175] at hz
            obtain ⟨hz1, hz2, hz3⟩ := hz
            obtain ⟨x176, c177, rx176, tx176⟩ := hT.rdi (lo := 0) (hi := 64) (k := 24) kM_at0 (by decide) rfl
            refine tk_Vl hC hK hw hT hA hE hSR kM_at0 (by decide) rfl (k_X12_reckons_1 l adK adV dC dI cy ad B hB0 (Int.le_trans hB1 (by decide)) qr s1   v32_2 (show 0 ≤ v32_2.toInt from r2) (show v32_2.toInt ≤ 5 from t3) x165 (show 0 ≤ x165.toInt from c167) (show x165.toInt ≤ 400 by first | with_reducible assumption | omega) x174 (show 0 ≤ x174.toInt by first | with_reducible assumption | omega) (show x174.toInt ≤ 400 by first | with_reducible assumption | omega) w1 H.size hT x176 c177 (show 0 ≤ x176.toInt by first | with_reducible assumption | omega) (show x176.toInt ≤ 64 by first | with_reducible assumption | omega) ⟨hz1, hz3⟩) (cwV 3 hC.2.2.2.2 uV_RX12_401 rfl rfl rfl (by decide +kernel) ⟨Nat.le_of_ble_eq_true rfl, Nat.le_of_ble_eq_true rfl⟩) rfl hl.1 rfl (Nat.le_of_ble_eq_true rfl) dX12_doing_99 (fun r178 w180 H locs hp179 hw => ?_)
            obtain ⟨hT, k181, hg184⟩ := hp179
            have hRW := RW_FE k181 (fun _ => rfl) (fun _ => rfl) (fun _ => rfl) hRW
            have hF := hF.tr k181 (by decide)
            have c185 := k181.gi kM_at0 (by decide) c8
            have c186 := k181.gi kM_at12 (by decide) c11
            have c187 := k181.gi kM_at12 (by decide) c14
            have c188 := k181.gi kM_at5 rfl c37
            have c189 := k181.gi kM_at4 rfl c43
            have c190 := k181.gi kM_at4 rfl c166
            have c191 := k181.gi kM_at4 rfl c175
            obtain ⟨x182, c183, rx182, tx182⟩ := hg184
            refine lv_lconst (v := 1) hx hb dX12_doing_102 (by decide) ?_
            refine W.lcmp hx hb dX12_doing_103 ?_
            refine lv_if_ne (tgt := 115) hx hb dX12_doing_104 (by decide) (fun c192 => ?_) (fun c192 => ?_)
            · have c192 : ¬ r178.toInt = (1 : Int) := wk_ceF c192
              exact J115 x41 x42 x36 H locs ls w180 (show 0 ≤ v32_2.toInt from r2) (show v32_2.toInt ≤ 5 from t3) (show 0 ≤ v32_3.toInt from r4) (show v32_3.toInt ≤ 11 by first | with_reducible assumption | omega) (show 0 ≤ x41.toInt by first | with_reducible assumption | omega) (show x41.toInt ≤ 213 by first | with_reducible assumption | omega) (show 0 ≤ f32_0_30.toInt from r6) (show f32_0_30.toInt ≤ 1 from t7) (show 0 ≤ f32_12_219.toInt from r9) (show f32_12_219.toInt ≤ 5 from t10) (show (-1) ≤ f32_12_223.toInt from r12) (show f32_12_223.toInt ≤ 9 from t13) (show 1 ≤ x36.toInt by first | with_reducible assumption | omega) (show x36.toInt ≤ 12 from tx36)  hw hT hF hRW c185 c186 c187 c189 c188 (lv_sub hl [1, 2, 3, 4, 0] rfl)
            · have c192 : r178.toInt = (1 : Int) := wk_ceT c192
              refine lv_aload_n hx hb dX12_doing_107 rfl (lv_at hl 1 rfl) ?_
              refine tk_getA hC hK hw hT hinX12 kM_at0 (by decide) rfl 5 (by decide) (List.mem_cons_of_mem _ uw_6_17) rfl rfl dX12_doing_108 ?_
              refine lv_iload hx hb dX12_doing_111 (lv_at hl 0 rfl) ?_
              refine tk_iald hC hK hw hT kM_at4 rfl rfl (show 0 ≤ x41.toInt by first | with_reducible assumption | omega) (show x41.toInt < 216 by first | with_reducible assumption | omega) dX12_doing_113 (fun x193 c194 rx193 tx193 => ?_)
              have c194 : gi w180 4 (36 * v32_2.toInt + 3 * v32_3.toInt + 0).toNat = x193 := (congrArg (gi w180 4) (congrArg Int.toNat (show 36 * v32_2.toInt + 3 * v32_3.toInt + 0 = x41.toInt by first | exact Int.le_antisymm (by omega) (by omega) | omega))).trans c194
              refine wk_top x42 (c194.symm.trans c189) ?_
              exact tk_iret hC hr hlocks hK ⟨hT, hF, (Or.inr (Or.inr (Or.inr (Or.inr (Or.inl ⟨(wk_eq.mpr (show x42.toInt = 2 by first | exact Int.le_antisymm (by omega) (by omega) | omega)), ⟨f32_0_30, c185, (show 0 ≤ f32_0_30.toInt from r6), (show f32_0_30.toInt ≤ 0 by first | with_reducible assumption | omega)⟩, ⟨f32_12_219, c186, (show 0 ≤ f32_12_219.toInt from r9), (show f32_12_219.toInt ≤ 5 from t10)⟩⟩)))))⟩ hw dX12_doing_114
        · refine lv_if_eq (tgt := 115) hx hb dX12_doing_64 (by decide) (fun c => absurd c (by decide)) (fun _ => ?_)
          refine lv_aload_n hx hb dX12_doing_67 rfl (lv_at hl 1 rfl) ?_
          refine tk_getA hC hK hw hT hinX12 kM_at0 (by decide) rfl 5 (by decide) (List.mem_cons_of_mem _ uw_6_17) rfl rfl dX12_doing_68 ?_
          refine lv_iload hx hb dX12_doing_71 (lv_at hl 0 rfl) ?_
          refine lv_iconst (v := 1) hx hb dX12_doing_73 (by decide) ?_
          refine lv_iadd hx hb dX12_doing_74 ?_
          refine lv_topi (fun x195 ex195 => ?_)
          have ex195 : x195.toInt = x41.toInt + (1 : Int) := by rw [ex195]; exact wk_add (show (-2147483648) ≤ x41.toInt + (1 : Int) by omega) (show x41.toInt + (1 : Int) ≤ 2147483647 by omega)
          refine tk_iald hC hK hw hT kM_at4 rfl rfl (show 0 ≤ x195.toInt by first | with_reducible assumption | omega) (show x195.toInt < 216 by first | with_reducible assumption | omega) dX12_doing_75 (fun x196 c197 rx196 tx196 => ?_)
          have c197 : gi w1 4 (36 * v32_2.toInt + 3 * v32_3.toInt + 1).toNat = x196 := (congrArg (gi w1 4) (congrArg Int.toNat (show 36 * v32_2.toInt + 3 * v32_3.toInt + 1 = x195.toInt by first | exact Int.le_antisymm (by omega) (by omega) | omega))).trans c197
          refine lv_if_lt (tgt := 107) hx hb dX12_doing_76 (by decide) (fun c198 => ?_) (fun c198 => ?_)
          · have c198 : x196.toInt < (0 : Int) := wk_lt.mp c198
            refine lv_aload_n hx hb dX12_doing_107 rfl (lv_at hl 1 rfl) ?_
            refine tk_getA hC hK hw hT hinX12 kM_at0 (by decide) rfl 5 (by decide) (List.mem_cons_of_mem _ uw_6_17) rfl rfl dX12_doing_108 ?_
            refine lv_iload hx hb dX12_doing_111 (lv_at hl 0 rfl) ?_
            refine tk_iald hC hK hw hT kM_at4 rfl rfl (show 0 ≤ x41.toInt by first | with_reducible assumption | omega) (show x41.toInt < 216 by first | with_reducible assumption | omega) dX12_doing_113 (fun x199 c200 rx199 tx199 => ?_)
            have c200 : gi w1 4 (36 * v32_2.toInt + 3 * v32_3.toInt + 0).toNat = x199 := (congrArg (gi w1 4) (congrArg Int.toNat (show 36 * v32_2.toInt + 3 * v32_3.toInt + 0 = x41.toInt by first | exact Int.le_antisymm (by omega) (by omega) | omega))).trans c200
            refine wk_top x42 (c200.symm.trans c43) ?_
            exact tk_iret hC hr hlocks hK ⟨hT, hF, (Or.inr (Or.inl ⟨(show 3 ≤ x42.toInt by first | with_reducible assumption | omega), ⟨f32_12_219, c11, (show 0 ≤ f32_12_219.toInt from r9), (show f32_12_219.toInt ≤ 5 from t10)⟩⟩))⟩ hw dX12_doing_114
          · have c198 : (0 : Int) ≤ x196.toInt := wk_ltF c198
            refine lv_aload_n hx hb dX12_doing_79 rfl (lv_at hl 1 rfl) ?_
            refine lv_iload_n hx hb dX12_doing_80 rfl (lv_at hl 3 rfl) ?_
            refine lv_aload_n hx hb dX12_doing_81 rfl (lv_at hl 1 rfl) ?_
            refine tk_getA hC hK hw hT hinX12 kM_at0 (by decide) rfl 5 (by decide) (List.mem_cons_of_mem _ uw_6_17) rfl rfl dX12_doing_82 ?_
            refine lv_iload hx hb dX12_doing_85 (lv_at hl 0 rfl) ?_
            refine lv_iconst (v := 1) hx hb dX12_doing_87 (by decide) ?_
            refine lv_iadd hx hb dX12_doing_88 ?_
            refine lv_topi (fun x201 ex201 => ?_)
            have ex201 : x201.toInt = x41.toInt + (1 : Int) := by rw [ex201]; exact wk_add (show (-2147483648) ≤ x41.toInt + (1 : Int) by omega) (show x41.toInt + (1 : Int) ≤ 2147483647 by omega)
            refine tk_iald hC hK hw hT kM_at4 rfl rfl (show 0 ≤ x201.toInt by first | with_reducible assumption | omega) (show x201.toInt < 216 by first | with_reducible assumption | omega) dX12_doing_89 (fun x202 c203 rx202 tx202 => ?_)
            have c203 : gi w1 4 (36 * v32_2.toInt + 3 * v32_3.toInt + 1).toNat = x202 := (congrArg (gi w1 4) (congrArg Int.toNat (show 36 * v32_2.toInt + 3 * v32_3.toInt + 1 = x201.toInt by first | exact Int.le_antisymm (by omega) (by omega) | omega))).trans c203
            refine wk_top x196 (c203.symm.trans c197) ?_
            refine lv_aload_n hx hb dX12_doing_90 rfl (lv_at hl 1 rfl) ?_
            refine tk_getA hC hK hw hT hinX12 kM_at0 (by decide) rfl 5 (by decide) (List.mem_cons_of_mem _ uw_6_17) rfl rfl dX12_doing_91 ?_
            refine lv_iload hx hb dX12_doing_94 (lv_at hl 0 rfl) ?_
            refine lv_iconst (v := 2) hx hb dX12_doing_96 (by decide) ?_
            refine lv_iadd hx hb dX12_doing_97 ?_
            refine lv_topi (fun x204 ex204 => ?_)
            have ex204 : x204.toInt = x41.toInt + (2 : Int) := by rw [ex204]; exact wk_add (show (-2147483648) ≤ x41.toInt + (2 : Int) by omega) (show x41.toInt + (2 : Int) ≤ 2147483647 by omega)
            refine tk_iald hC hK hw hT kM_at4 rfl rfl (show 0 ≤ x204.toInt by first | with_reducible assumption | omega) (show x204.toInt < 216 by first | with_reducible assumption | omega) dX12_doing_98 (fun x205 c206 rx205 tx205 => ?_)
            have c206 : gi w1 4 (36 * v32_2.toInt + 3 * v32_3.toInt + 2).toNat = x205 := (congrArg (gi w1 4) (congrArg Int.toNat (show 36 * v32_2.toInt + 3 * v32_3.toInt + 2 = x204.toInt by first | exact Int.le_antisymm (by omega) (by omega) | omega))).trans c206
            have hz := (hRW v32_2.toInt v32_3.toInt (by omega) (by omega) (by omega) (by rw [c37]; omega)).resolve_left (by rw [c197]; omega)
            rw [c197, c206] at hz
            obtain ⟨hz1, hz2, hz3⟩ := hz
            obtain ⟨x207, c208, rx207, tx207⟩ := hT.rdi (lo := 0) (hi := 64) (k := 24) kM_at0 (by decide) rfl
            refine tk_Vl hC hK hw hT hA hE hSR kM_at0 (by decide) rfl (k_X12_reckons_1 l adK adV dC dI cy ad B hB0 (Int.le_trans hB1 (by decide)) qr s1   v32_2 (show 0 ≤ v32_2.toInt from r2) (show v32_2.toInt ≤ 5 from t3) x196 (show 0 ≤ x196.toInt from c198) (show x196.toInt ≤ 400 by first | with_reducible assumption | omega) x205 (show 0 ≤ x205.toInt by first | with_reducible assumption | omega) (show x205.toInt ≤ 400 by first | with_reducible assumption | omega) w1 H.size hT x207 c208 (show 0 ≤ x207.toInt by first | with_reducible assumption | omega) (show x207.toInt ≤ 64 by first | with_reducible assumption | omega) ⟨hz1, hz3⟩) (cwV 3 hC.2.2.2.2 uV_RX12_401 rfl rfl rfl (by decide +kernel) ⟨Nat.le_of_ble_eq_true rfl, Nat.le_of_ble_eq_true rfl⟩) rfl hl.1 rfl (Nat.le_of_ble_eq_true rfl) dX12_doing_99 (fun r209 w211 H locs hp210 hw => ?_)
            obtain ⟨hT, k212, hg215⟩ := hp210
            have hRW := RW_FE k212 (fun _ => rfl) (fun _ => rfl) (fun _ => rfl) hRW
            have hF := hF.tr k212 (by decide)
            have c216 := k212.gi kM_at0 (by decide) c8
            have c217 := k212.gi kM_at12 (by decide) c11
            have c218 := k212.gi kM_at12 (by decide) c14
            have c219 := k212.gi kM_at5 rfl c37
            have c220 := k212.gi kM_at4 rfl c43
            have c221 := k212.gi kM_at4 rfl c197
            have c222 := k212.gi kM_at4 rfl c206
            obtain ⟨x213, c214, rx213, tx213⟩ := hg215
            refine lv_lconst (v := 1) hx hb dX12_doing_102 (by decide) ?_
            refine W.lcmp hx hb dX12_doing_103 ?_
            refine lv_if_ne (tgt := 115) hx hb dX12_doing_104 (by decide) (fun c223 => ?_) (fun c223 => ?_)
            · have c223 : ¬ r209.toInt = (1 : Int) := wk_ceF c223
              exact J115 x41 x42 x36 H locs ls w211 (show 0 ≤ v32_2.toInt from r2) (show v32_2.toInt ≤ 5 from t3) (show 0 ≤ v32_3.toInt from r4) (show v32_3.toInt ≤ 11 by first | with_reducible assumption | omega) (show 0 ≤ x41.toInt by first | with_reducible assumption | omega) (show x41.toInt ≤ 213 by first | with_reducible assumption | omega) (show 0 ≤ f32_0_30.toInt from r6) (show f32_0_30.toInt ≤ 1 from t7) (show 0 ≤ f32_12_219.toInt from r9) (show f32_12_219.toInt ≤ 5 from t10) (show (-1) ≤ f32_12_223.toInt from r12) (show f32_12_223.toInt ≤ 9 from t13) (show 1 ≤ x36.toInt by first | with_reducible assumption | omega) (show x36.toInt ≤ 12 from tx36)  hw hT hF hRW c216 c217 c218 c220 c219 (lv_sub hl [1, 2, 3, 4, 0] rfl)
            · have c223 : r209.toInt = (1 : Int) := wk_ceT c223
              refine lv_aload_n hx hb dX12_doing_107 rfl (lv_at hl 1 rfl) ?_
              refine tk_getA hC hK hw hT hinX12 kM_at0 (by decide) rfl 5 (by decide) (List.mem_cons_of_mem _ uw_6_17) rfl rfl dX12_doing_108 ?_
              refine lv_iload hx hb dX12_doing_111 (lv_at hl 0 rfl) ?_
              refine tk_iald hC hK hw hT kM_at4 rfl rfl (show 0 ≤ x41.toInt by first | with_reducible assumption | omega) (show x41.toInt < 216 by first | with_reducible assumption | omega) dX12_doing_113 (fun x224 c225 rx224 tx224 => ?_)
              have c225 : gi w211 4 (36 * v32_2.toInt + 3 * v32_3.toInt + 0).toNat = x224 := (congrArg (gi w211 4) (congrArg Int.toNat (show 36 * v32_2.toInt + 3 * v32_3.toInt + 0 = x41.toInt by first | exact Int.le_antisymm (by omega) (by omega) | omega))).trans c225
              refine wk_top x42 (c225.symm.trans c220) ?_
              exact tk_iret hC hr hlocks hK ⟨hT, hF, (Or.inr (Or.inl ⟨(show 3 ≤ x42.toInt by first | with_reducible assumption | omega), ⟨f32_12_219, c217, (show 0 ≤ f32_12_219.toInt from r9), (show f32_12_219.toInt ≤ 5 from t10)⟩⟩))⟩ hw dX12_doing_114
  refine lv_aload_n hx hb dX12_doing_0 rfl (lv_at hl 0 rfl) ?_
  refine lv_iload_n hx hb dX12_doing_1 rfl (lv_at hl 1 rfl) ?_
  refine lv_iconst (v := 3) hx hb dX12_doing_2 (by decide) ?_
  refine tk_Vi hC hK hw hT hA hE hSR kM_at0 (by decide) rfl (k_X12_walkerOf_15 l adK adV dC dI cy ad B hB0 (Int.le_trans hB1 (by decide)) qr s1    w0 s.heap.size hT ) (cwV 2 hC.2.2.2.2 uV_RX12_372 rfl rfl rfl (by decide +kernel) ⟨Nat.le_of_ble_eq_true rfl, Nat.le_of_ble_eq_true rfl⟩) rfl hl.1 rfl (Nat.le_of_ble_eq_true rfl) dX12_doing_3 (fun r226 w228 H locs hp227 hw => ?_)
  obtain ⟨rfl, hg233⟩ := hp227
  obtain ⟨g230, g231, c232⟩ := hg233
  refine lv_istore_n (lv' := [(2, .int r226), (0, .ref (ad 0)), (1, .int 0)]) hx hb dX12_doing_6 rfl hl (by decide) rfl (fun ls hl => ?_)
  refine lv_iload_n hx hb dX12_doing_7 rfl (lv_at hl 0 rfl) ?_
  refine lv_if_ge (tgt := 25) hx hb dX12_doing_8 (by decide) (fun c234 => ?_) (fun c234 => ?_)
  · have c234 : (0 : Int) ≤ r226.toInt := wk_le.mp c234
    refine lv_aload_n hx hb dX12_doing_25 rfl (lv_at hl 1 rfl) ?_
    refine lv_iload_n hx hb dX12_doing_26 rfl (lv_at hl 2 rfl) ?_
    refine tk_Vv hC hK hw hT hA hE hSR kM_at0 (by decide) rfl (k_X12_words_2 l adK adV dC dI cy ad B hB0 (Int.le_trans hB1 (by decide)) qr s1    w0 H.size hT ) (cwV 1 hC.2.2.2.2 uV_RX12_395 rfl rfl rfl (by decide +kernel) ⟨Nat.le_of_ble_eq_true rfl, Nat.le_of_ble_eq_true rfl⟩) rfl hl.1 rfl (Nat.le_of_ble_eq_true rfl) dX12_doing_27 (fun w237 H locs hp236 hw => ?_)
    obtain ⟨hT, k238, hg243⟩ := hp236
    have hRW := RW_FE k238 (fun _ => rfl) (fun _ => rfl) (fun _ => rfl) hRW
    have hF := hF.tr k238 (by decide)
    have c244 := k238.gi kM_at12 (by decide) c232
    obtain ⟨⟨x239, c240, rx239, tx239⟩, ⟨x241, c242, rx241, tx241⟩⟩ := hg243
    refine lv_iconst (v := 0) hx hb dX12_doing_30 (by decide) ?_
    refine lv_istore_n (lv' := [(3, .int 0), (2, .int r226), (0, .ref (ad 0)), (1, .int 0)]) hx hb dX12_doing_31 rfl hl (by decide) rfl (fun ls hl => ?_)
    exact L32 ((12 - (0 : Int)).toNat + 1) r226 0 x239 r226 x241 H locs ls w237 (show 0 ≤ r226.toInt from c234) (show r226.toInt ≤ 5 by first | with_reducible assumption | omega) (by decide) (by decide) (show 0 ≤ x239.toInt by first | with_reducible assumption | omega) (show x239.toInt ≤ 1 by first | with_reducible assumption | omega) (show 0 ≤ r226.toInt from c234) (show r226.toInt ≤ 5 by first | with_reducible assumption | omega) (show (-1) ≤ x241.toInt by first | with_reducible assumption | omega) (show x241.toInt ≤ 9 by first | with_reducible assumption | omega) (Nat.lt_succ_self _) hw hT hF hRW c240 c244 c242 (lv_sub hl [2, 3, 1, 0] rfl)
  · have c234 : r226.toInt < (0 : Int) := wk_leF c234
    refine lv_aload_n hx hb dX12_doing_11 rfl (lv_at hl 1 rfl) ?_
    refine lv_iload_n hx hb dX12_doing_12 rfl (lv_at hl 2 rfl) ?_
    refine tk_Vi hC hK hw hT hA hE hSR kM_at0 (by decide) rfl (k_X12_canGo_2 l adK adV dC dI cy ad B hB0 (Int.le_trans hB1 (by decide)) qr s1    w0 H.size hT ) (cwV 1 hC.2.2.2.2 uV_RX12_387 rfl rfl rfl (by decide +kernel) ⟨Nat.le_of_ble_eq_true rfl, Nat.le_of_ble_eq_true rfl⟩) rfl hl.1 rfl (Nat.le_of_ble_eq_true rfl) dX12_doing_13 (fun r245 w247 H locs hp246 hw => ?_)
    obtain ⟨rfl, hg251⟩ := hp246
    rcases hg251 with rfl | ⟨rfl, ⟨x249, c250, rx249, tx249⟩⟩
    · refine lv_if_eq (tgt := 23) hx hb dX12_doing_16 (by decide) (fun _ => ?_) (fun c => absurd (by decide) c)
      refine lv_iconst (v := 3) hx hb dX12_doing_23 (by decide) ?_
      exact tk_iret hC hr hlocks hK ⟨hT, hF, (Or.inr (Or.inr (Or.inr (Or.inr (Or.inr ⟨rfl, ⟨r226, c232, (show (-1) ≤ r226.toInt by first | with_reducible assumption | omega), (show r226.toInt ≤ 5 by first | with_reducible assumption | omega)⟩⟩)))))⟩ hw dX12_doing_24
    · refine lv_if_eq (tgt := 23) hx hb dX12_doing_16 (by decide) (fun c => absurd c (by decide)) (fun _ => ?_)
      refine lv_iconst (v := 0) hx hb dX12_doing_19 (by decide) ?_
      refine lv_goto (tgt := 24) hx hb dX12_doing_20 (by decide) ?_
      exact tk_iret hC hr hlocks hK ⟨hT, hF, (Or.inr (Or.inr (Or.inl ⟨rfl, ⟨x249, c250, (show 0 ≤ x249.toInt by first | with_reducible assumption | omega), (show x249.toInt ≤ 11 by first | with_reducible assumption | omega)⟩, ⟨r226, c232, (show (-1) ≤ r226.toInt by first | with_reducible assumption | omega), (show r226.toInt ≤ 5 by first | with_reducible assumption | omega)⟩⟩)))⟩ hw dX12_doing_24
abbrev P_X12_walkerOf_19 (ad : Nat → Nat) (cy : Nat → ClassId) (B : Int) (qr : Nat) (s1 : Int)  (w0 : va_W) : Int32 → va_W → Prop := fun r u => w0 = u ∧ ((0 ≤ r.toInt ∧ r.toInt ≤ 3 ∧ gi u 12 218 = r))
set_option maxHeartbeats 4000000 in
set_option maxRecDepth 100000 in
theorem k_X12_walkerOf_19 (l : Launch) (adK adV : Nat → Nat) (dC : Nat → ClassId) (dI : Nat → Nat → Nat) (cy : Nat → ClassId) (ad : Nat → Nat) (B : Int) (hB0 : 100000 ≤ B) (hB1 : B ≤ 1073741824) (qr : Nat) (s1 : Int)   (w0 : va_W) (sz : Nat) (hT : TW ksM ad cy B qr 12 w0)  : Met l yX12_walkerOf (wu yX12_walkerOf cX12_walkerOf 3 (some .int)) ({ frames := 1, cells := 0, slots := 0, locals := 12 }) (va_Pc [.ref (ad 0), .int 0, .int 2] (wpreS adK adV dC dI cy sz w0)) (va_Qi (P_X12_walkerOf_19 ad cy B qr s1  w0) (fun u : va_W => wpost dC dI cy (va_A w0 sz) u) (va_A w0 sz)) 0 0 (va_A w0 sz) := by
  refine Met.ofW (cc := cX12_walkerOf) (maxL := 3) (ret := (some .int)) (by decide) rfl ?_
  intro p e s m args below meth c s₁ Bk hml hv
  obtain ⟨rfl, ⟨hsz, hP, hK, hD0⟩, hE, hSR⟩ := hv
  have hx := Bk.exec
  have hb := Bk.bytes
  have hr := Bk.returns
  have hlocks := Bk.notSynchronized
  have hC : CallFix p m c cX12_walkerOf 3 s _ (wu yX12_walkerOf cX12_walkerOf 3 (some .int)) RX12 := ⟨hx, hb, hml, findClass_of_methodNamed Bk.named, atoms_spec (ws := (wu yX12_walkerOf cX12_walkerOf 3 (some .int))) Bk.pre⟩
  subst hsz
  have hD := hD0.self (sz := s.heap.size)
  generalize hAe : va_A w0 s.heap.size = A at hD hE ⊢
  have hA : ∀ q : Nat, s.heap.size ≤ q → A q := fun q h => by rw [← hAe]; exact Or.inr h
  have hw : Wd dC dI A s.heap s.heap [] w0 := ⟨hP, hD, va_S.rf⟩
  have hF : FE ksM ([] : List (Nat × Nat × Nat)) w0 w0 := FE.rf
  have hl := lv_entry ([.ref (ad 0), .int 0, .int 2]) (n := 3) (Nat.le_of_ble_eq_true rfl)
  rw [lg_entry_eq]
  generalize (lg_sl ([.ref (ad 0), .int 0, .int 2]) ++ List.replicate (3 - (lg_sl ([.ref (ad 0), .int 0, .int 2])).length) Slot.unset).toArray = ls at hl ⊢
  have hl : lv_has ls 3 [(0, .ref (ad 0)), (1, .int 0), (2, .int 2)] := hl
  generalize hloc : ([] : List Loc) = locs at hw ⊢
  have hinX12 : ∀ w ∈ u_ws RX12 TX12 42, w ∈ (wu yX12_walkerOf cX12_walkerOf 3 (some .int)) := fun _ h => List.mem_cons_of_mem _ (up_71 h)
  refine lv_aload_n hx hb dX12_walkerOf_0 rfl (lv_at hl 0 rfl) ?_
  refine tk_getA hC hK hw hT hinX12 kM_at0 (by decide) rfl 26 (by decide) (List.mem_cons_of_mem _ uw_7_1) rfl rfl dX12_walkerOf_1 ?_
  refine lv_sipush (v := 216) hx hb dX12_walkerOf_4 (by decide) ?_
  refine lv_bipush (v := 9) hx hb dX12_walkerOf_7 (by decide) ?_
  refine lv_iload_n hx hb dX12_walkerOf_9 rfl (lv_at hl 1 rfl) ?_
  refine lv_imul hx hb dX12_walkerOf_10 ?_
  refine wk_top 0 (by decide) ?_
  refine lv_iadd hx hb dX12_walkerOf_11 ?_
  refine wk_top 216 (by decide) ?_
  refine lv_iload_n hx hb dX12_walkerOf_12 rfl (lv_at hl 2 rfl) ?_
  refine lv_iadd hx hb dX12_walkerOf_13 ?_
  refine wk_top 218 (by decide) ?_
  refine tk_ialdR hC hK hw hT kM_at12 rfl (by decide) (by decide) dX12_walkerOf_14 (fun x1 c2 Ex1 => ?_)
  have bx1 := tk_rgI rfl 218 1 1 0 3 (by decide +kernel) ⟨0, by decide, by decide⟩ Ex1
  have c2 : gi w0 12 218 = x1 := c2
  exact tk_iret hC hr hlocks hK ⟨rfl, ⟨(show 0 ≤ x1.toInt by first | with_reducible assumption | omega), (show x1.toInt ≤ 3 by first | with_reducible assumption | omega), c2⟩⟩ hw dX12_walkerOf_15
abbrev P_X12_looks_2 (ad : Nat → Nat) (cy : Nat → ClassId) (B : Int) (qr : Nat) (s1 : Int)  (w0 : va_W) : va_W → Prop := fun u => TW ksM ad cy B qr 12 u ∧ FE ksM [(12, 31, 31), (72, 0, 12), (73, 0, 10)] w0 u ∧ (((∃ y : Int32, gi u 0 31 = y ∧ (-1) ≤ y.toInt ∧ y.toInt ≤ 11)))
set_option maxHeartbeats 4000000 in
set_option maxRecDepth 100000 in
theorem k_X12_looks_2 (l : Launch) (adK adV : Nat → Nat) (dC : Nat → ClassId) (dI : Nat → Nat → Nat) (cy : Nat → ClassId) (ad : Nat → Nat) (B : Int) (hB0 : 100000 ≤ B) (hB1 : B ≤ 1073741824) (qr : Nat) (s1 : Int)   (w0 : va_W) (sz : Nat) (hT : TW ksM ad cy B qr 12 w0)  : Met l yX12_looks (wu yX12_looks cX12_looks 2 none) ({ frames := 4, cells := 0, slots := 0, locals := 79 }) (va_Pc [.ref (ad 0), .int 0] (wpreS adK adV dC dI cy sz w0)) (va_Qv (P_X12_looks_2 ad cy B qr s1  w0) (fun u : va_W => wpost dC dI cy (va_A w0 sz) u) (va_A w0 sz)) 0 0 (va_A w0 sz) := by
  refine Met.ofW (cc := cX12_looks) (maxL := 2) (ret := none) (by decide) rfl ?_
  intro p e s m args below meth c s₁ Bk hml hv
  obtain ⟨rfl, ⟨hsz, hP, hK, hD0⟩, hE, hSR⟩ := hv
  have hx := Bk.exec
  have hb := Bk.bytes
  have hr := Bk.returns
  have hlocks := Bk.notSynchronized
  have hC : CallFix p m c cX12_looks 2 s _ (wu yX12_looks cX12_looks 2 none) RX12 := ⟨hx, hb, hml, findClass_of_methodNamed Bk.named, atoms_spec (ws := (wu yX12_looks cX12_looks 2 none)) Bk.pre⟩
  subst hsz
  have hD := hD0.self (sz := s.heap.size)
  generalize hAe : va_A w0 s.heap.size = A at hD hE ⊢
  have hA : ∀ q : Nat, s.heap.size ≤ q → A q := fun q h => by rw [← hAe]; exact Or.inr h
  have hw : Wd dC dI A s.heap s.heap [] w0 := ⟨hP, hD, va_S.rf⟩
  have hF : FE ksM [(12, 31, 31), (72, 0, 12), (73, 0, 10)] w0 w0 := FE.rf
  have hl := lv_entry ([.ref (ad 0), .int 0]) (n := 2) (Nat.le_of_ble_eq_true rfl)
  rw [lg_entry_eq]
  generalize (lg_sl ([.ref (ad 0), .int 0]) ++ List.replicate (2 - (lg_sl ([.ref (ad 0), .int 0])).length) Slot.unset).toArray = ls at hl ⊢
  have hl : lv_has ls 2 [(0, .ref (ad 0)), (1, .int 0)] := hl
  generalize hloc : ([] : List Loc) = locs at hw ⊢
  have hinX12 : ∀ w ∈ u_ws RX12 TX12 42, w ∈ (wu yX12_looks cX12_looks 2 none) := fun _ h => List.mem_cons_of_mem _ (up_71 h)
  have J44 : ∀ (H : Heap) (locs : List Loc) (ls : Array Slot) (w1 : va_W), Wd dC dI A s.heap H locs w1 → TW ksM ad cy B qr 12 w1 → FE ksM [(12, 31, 31), (72, 0, 12), (73, 0, 10)] w0 w1 → lv_has ls 2 [(0, .ref (ad 0)), (1, .int 0)] → W p l e ({ frames := 4, cells := 0, slots := 0, locals := 79 }) s m (List.toArray [.ref (ad 0), .int 0]) below meth c H locs 0 0 (MQ below (va_Qv (P_X12_looks_2 ad cy B qr s1  w0) (fun u : va_W => wpost dC dI cy A u) A) (List.toArray [.ref (ad 0), .int 0]) s 0 0 A) (F0 m 44 ls []) := by
    intro H locs ls w1 hw hT hF hl
    refine lv_aload_n hx hb dX12_looks_44 rfl (lv_at hl 0 rfl) ?_
    refine lv_aload_n hx hb dX12_looks_45 rfl (lv_at hl 0 rfl) ?_
    refine lv_iload_n hx hb dX12_looks_46 rfl (lv_at hl 1 rfl) ?_
    refine lv_iconst (v := 1) hx hb dX12_looks_47 (by decide) ?_
    refine tk_Vi hC hK hw hT hA hE hSR kM_at0 (by decide) rfl (k_X12_walkerOf_12 l adK adV dC dI cy ad B hB0 (Int.le_trans hB1 (by decide)) qr s1    w1 H.size hT ) (cwV 2 hC.2.2.2.2 uV_RX12_372 rfl rfl rfl (by decide +kernel) ⟨Nat.le_of_ble_eq_true rfl, Nat.le_of_ble_eq_true rfl⟩) rfl hl.1 rfl (Nat.le_of_ble_eq_true rfl) dX12_looks_48 (fun r2 w4 H locs hp3 hw => ?_)
    obtain ⟨rfl, hg9⟩ := hp3
    obtain ⟨g6, g7, c8⟩ := hg9
    refine tk_Vv hC hK hw hT hA hE hSR kM_at0 (by decide) rfl (k_X12_spreads_1 l adK adV dC dI cy ad B hB0 (Int.le_trans hB1 (by decide)) qr s1   r2 (show 0 ≤ r2.toInt by first | with_reducible assumption | omega) (show r2.toInt ≤ 9 by first | with_reducible assumption | omega) w1 H.size hT ) (cwV 1 hC.2.2.2.2 uV_RX12_354 rfl rfl rfl (by decide +kernel) ⟨Nat.le_of_ble_eq_true rfl, Nat.le_of_ble_eq_true rfl⟩) rfl hl.1 rfl (Nat.le_of_ble_eq_true rfl) dX12_looks_51 (fun w12 H locs hp11 hw => ?_)
    obtain ⟨hT, k13, hg14⟩ := hp11
    have hF := hF.tr k13 (by decide)
    have c15 := k13.gi kM_at12 (by decide) c8
    clear hg14
    refine lv_aload_n hx hb dX12_looks_54 rfl (lv_at hl 0 rfl) ?_
    refine lv_aload_n hx hb dX12_looks_55 rfl (lv_at hl 0 rfl) ?_
    refine lv_aload_n hx hb dX12_looks_56 rfl (lv_at hl 0 rfl) ?_
    refine lv_iload_n hx hb dX12_looks_57 rfl (lv_at hl 1 rfl) ?_
    refine lv_iconst (v := 0) hx hb dX12_looks_58 (by decide) ?_
    refine tk_Vi hC hK hw hT hA hE hSR kM_at0 (by decide) rfl (k_X12_walkerOf_11 l adK adV dC dI cy ad B hB0 (Int.le_trans hB1 (by decide)) qr s1    w12 H.size hT ) (cwV 2 hC.2.2.2.2 uV_RX12_372 rfl rfl rfl (by decide +kernel) ⟨Nat.le_of_ble_eq_true rfl, Nat.le_of_ble_eq_true rfl⟩) rfl hl.1 rfl (Nat.le_of_ble_eq_true rfl) dX12_looks_59 (fun r16 w18 H locs hp17 hw => ?_)
    obtain ⟨rfl, hg23⟩ := hp17
    obtain ⟨g20, g21, c22⟩ := hg23
    refine tk_Vi hC hK hw hT hA hE hSR kM_at0 (by decide) rfl (k_X12_streetFrom_1 l adK adV dC dI cy ad B hB0 (Int.le_trans hB1 (by decide)) qr s1   r16 (show 0 ≤ r16.toInt by first | with_reducible assumption | omega) (show r16.toInt ≤ 9 by first | with_reducible assumption | omega) w12 H.size hT ) (cwV 1 hC.2.2.2.2 uV_RX12_357 rfl rfl rfl (by decide +kernel) ⟨Nat.le_of_ble_eq_true rfl, Nat.le_of_ble_eq_true rfl⟩) rfl hl.1 rfl (Nat.le_of_ble_eq_true rfl) dX12_looks_62 (fun r24 w26 H locs hp25 hw => ?_)
    obtain ⟨rfl, hg44⟩ := hp25
    rcases hg44 with ⟨g28, g29, ⟨x30, c31, rx30, tx30⟩, c32, c33⟩ | ⟨g34, g35, ⟨x36, c37, rx36, tx36⟩, c38⟩ | ⟨g39, g40, ⟨x41, c42, rx41, tx41⟩, c43⟩ | rfl
    · refine tk_puti hC hK hw hT hinX12 tyX12_ok nmX12 kM_at0 (by decide) rfl rfl 31 (by decide) (List.mem_cons_of_mem _ uw_46_23) rfl rfl rfl rfl (show (-1) ≤ r24.toInt by first | with_reducible assumption | omega) (show r24.toInt ≤ 11 by first | with_reducible assumption | omega) dX12_looks_65 (fun H locs w45 hw hT k47 c46 => ?_)
      have hF := hF.put kM_at0 (k := 31) (by decide) k47
      have c48 := k47.gi (Or.inr (by decide)) c15
      have c49 := k47.gi (Or.inr (by decide)) c22
      have c50 := k47.gi (Or.inr (by decide)) c31
      have c51 := k47.gi (Or.inl (tk_ne kM_at12 kM_at0 (by decide))) c32
      have c52 := k47.gi (Or.inl (tk_ne kM_at12 kM_at0 (by decide))) c33
      exact tk_vret hC hr hlocks hK ⟨hT, hF, ⟨r24, c46, (show (-1) ≤ r24.toInt by first | with_reducible assumption | omega), (show r24.toInt ≤ 11 by first | with_reducible assumption | omega)⟩⟩ hw dX12_looks_68
    · refine tk_puti hC hK hw hT hinX12 tyX12_ok nmX12 kM_at0 (by decide) rfl rfl 31 (by decide) (List.mem_cons_of_mem _ uw_46_23) rfl rfl rfl rfl (show (-1) ≤ r24.toInt by first | with_reducible assumption | omega) (show r24.toInt ≤ 11 by first | with_reducible assumption | omega) dX12_looks_65 (fun H locs w53 hw hT k55 c54 => ?_)
      have hF := hF.put kM_at0 (k := 31) (by decide) k55
      have c56 := k55.gi (Or.inr (by decide)) c15
      have c57 := k55.gi (Or.inr (by decide)) c22
      have c58 := k55.gi (Or.inr (by decide)) c37
      have c59 := k55.gi (Or.inl (tk_ne kM_at12 kM_at0 (by decide))) c38
      exact tk_vret hC hr hlocks hK ⟨hT, hF, ⟨r24, c54, (show (-1) ≤ r24.toInt by first | with_reducible assumption | omega), (show r24.toInt ≤ 11 by first | with_reducible assumption | omega)⟩⟩ hw dX12_looks_68
    · refine tk_puti hC hK hw hT hinX12 tyX12_ok nmX12 kM_at0 (by decide) rfl rfl 31 (by decide) (List.mem_cons_of_mem _ uw_46_23) rfl rfl rfl rfl (show (-1) ≤ r24.toInt by first | with_reducible assumption | omega) (show r24.toInt ≤ 11 by first | with_reducible assumption | omega) dX12_looks_65 (fun H locs w60 hw hT k62 c61 => ?_)
      have hF := hF.put kM_at0 (k := 31) (by decide) k62
      have c63 := k62.gi (Or.inr (by decide)) c15
      have c64 := k62.gi (Or.inr (by decide)) c22
      have c65 := k62.gi (Or.inr (by decide)) c42
      have c66 := k62.gi (Or.inl (tk_ne kM_at12 kM_at0 (by decide))) c43
      exact tk_vret hC hr hlocks hK ⟨hT, hF, ⟨r24, c61, (show (-1) ≤ r24.toInt by first | with_reducible assumption | omega), (show r24.toInt ≤ 11 by first | with_reducible assumption | omega)⟩⟩ hw dX12_looks_68
    · refine tk_puti hC hK hw hT hinX12 tyX12_ok nmX12 kM_at0 (by decide) rfl rfl 31 (by decide) (List.mem_cons_of_mem _ uw_46_23) rfl rfl rfl rfl (by decide) (by decide) dX12_looks_65 (fun H locs w67 hw hT k69 c68 => ?_)
      have hF := hF.put kM_at0 (k := 31) (by decide) k69
      have c70 := k69.gi (Or.inr (by decide)) c15
      have c71 := k69.gi (Or.inr (by decide)) c22
      exact tk_vret hC hr hlocks hK ⟨hT, hF, ⟨(-1), c68, (by decide), (by decide)⟩⟩ hw dX12_looks_68
  have J34 : ∀ (H : Heap) (locs : List Loc) (ls : Array Slot) (w72 : va_W), Wd dC dI A s.heap H locs w72 → TW ksM ad cy B qr 12 w72 → FE ksM [(12, 31, 31), (72, 0, 12), (73, 0, 10)] w0 w72 → lv_has ls 2 [(0, .ref (ad 0)), (1, .int 0)] → W p l e ({ frames := 4, cells := 0, slots := 0, locals := 79 }) s m (List.toArray [.ref (ad 0), .int 0]) below meth c H locs 0 0 (MQ below (va_Qv (P_X12_looks_2 ad cy B qr s1  w0) (fun u : va_W => wpost dC dI cy A u) A) (List.toArray [.ref (ad 0), .int 0]) s 0 0 A) (F0 m 34 ls []) := by
    intro H locs ls w72 hw hT hF hl
    refine lv_aload_n hx hb dX12_looks_34 rfl (lv_at hl 0 rfl) ?_
    refine lv_aload_n hx hb dX12_looks_35 rfl (lv_at hl 0 rfl) ?_
    refine lv_iload_n hx hb dX12_looks_36 rfl (lv_at hl 1 rfl) ?_
    refine lv_iconst (v := 2) hx hb dX12_looks_37 (by decide) ?_
    refine tk_Vi hC hK hw hT hA hE hSR kM_at0 (by decide) rfl (k_X12_walkerOf_19 l adK adV dC dI cy ad B hB0 (Int.le_trans hB1 (by decide)) qr s1    w72 H.size hT ) (cwV 2 hC.2.2.2.2 uV_RX12_372 rfl rfl rfl (by decide +kernel) ⟨Nat.le_of_ble_eq_true rfl, Nat.le_of_ble_eq_true rfl⟩) rfl hl.1 rfl (Nat.le_of_ble_eq_true rfl) dX12_looks_38 (fun r73 w75 H locs hp74 hw => ?_)
    obtain ⟨rfl, hg80⟩ := hp74
    obtain ⟨g77, g78, c79⟩ := hg80
    refine tk_Vv hC hK hw hT hA hE hSR kM_at0 (by decide) rfl (k_X12_takesMap_1 l adK adV dC dI cy ad B hB0 (Int.le_trans hB1 (by decide)) qr s1   r73 (show 0 ≤ r73.toInt by first | with_reducible assumption | omega) (show r73.toInt ≤ 3 by first | with_reducible assumption | omega) w72 H.size hT ) (cwV 1 hC.2.2.2.2 uV_RX12_351 rfl rfl rfl (by decide +kernel) ⟨Nat.le_of_ble_eq_true rfl, Nat.le_of_ble_eq_true rfl⟩) rfl hl.1 rfl (Nat.le_of_ble_eq_true rfl) dX12_looks_41 (fun w83 H locs hp82 hw => ?_)
    obtain ⟨hT, k84, hg85⟩ := hp82
    have hF := hF.tr k84 (by decide)
    have c86 := k84.gi kM_at12 (by decide) c79
    clear hg85
    exact J44  H locs ls w83   hw hT hF  (lv_sub hl [0, 1] rfl)
  refine lv_aload_n hx hb dX12_looks_0 rfl (lv_at hl 0 rfl) ?_
  refine lv_iload_n hx hb dX12_looks_1 rfl (lv_at hl 1 rfl) ?_
  refine tk_Vi hC hK hw hT hA hE hSR kM_at0 (by decide) rfl (k_X12_askedToday_2 l adK adV dC dI cy ad B hB0 (Int.le_trans hB1 (by decide)) qr s1    w0 s.heap.size hT ) (cwV 1 hC.2.2.2.2 uV_RX12_375 rfl rfl rfl (by decide +kernel) ⟨Nat.le_of_ble_eq_true rfl, Nat.le_of_ble_eq_true rfl⟩) rfl hl.1 rfl (Nat.le_of_ble_eq_true rfl) dX12_looks_2 (fun r87 w89 H locs hp88 hw => ?_)
  obtain ⟨rfl, hg93⟩ := hp88
  rcases hg93 with rfl | ⟨rfl, ⟨x91, c92, rx91, tx91⟩⟩
  · refine lv_if_eq (tgt := 34) hx hb dX12_looks_5 (by decide) (fun _ => ?_) (fun c => absurd (by decide) c)
    exact J34  H locs ls w0   hw hT hF  (lv_sub hl [0, 1] rfl)
  · refine lv_if_eq (tgt := 34) hx hb dX12_looks_5 (by decide) (fun c => absurd c (by decide)) (fun _ => ?_)
    refine lv_aload_n hx hb dX12_looks_8 rfl (lv_at hl 0 rfl) ?_
    refine tk_geti hC hK hw hT hinX12 kM_at0 (by decide) rfl 30 (by decide) (List.mem_cons_of_mem _ uw_47_4) rfl rfl dX12_looks_9 (fun x94 c95 rx94 tx94 => ?_)
    refine lv_if_ne (tgt := 34) hx hb dX12_looks_12 (by decide) (fun c96 => ?_) (fun c96 => ?_)
    · have c96 : ¬ x94.toInt = (0 : Int) := wk_eqF c96
      exact J34  H locs ls w0   hw hT hF  (lv_sub hl [0, 1] rfl)
    · have c96 : x94.toInt = (0 : Int) := wk_eq.mp c96
      refine lv_aload_n hx hb dX12_looks_15 rfl (lv_at hl 0 rfl) ?_
      refine lv_aload_n hx hb dX12_looks_16 rfl (lv_at hl 0 rfl) ?_
      refine lv_iload_n hx hb dX12_looks_17 rfl (lv_at hl 1 rfl) ?_
      refine lv_iconst (v := 4) hx hb dX12_looks_18 (by decide) ?_
      refine tk_Vi hC hK hw hT hA hE hSR kM_at0 (by decide) rfl (k_X12_walkerOf_13 l adK adV dC dI cy ad B hB0 (Int.le_trans hB1 (by decide)) qr s1    w0 H.size hT ) (cwV 2 hC.2.2.2.2 uV_RX12_372 rfl rfl rfl (by decide +kernel) ⟨Nat.le_of_ble_eq_true rfl, Nat.le_of_ble_eq_true rfl⟩) rfl hl.1 rfl (Nat.le_of_ble_eq_true rfl) dX12_looks_19 (fun r97 w99 H locs hp98 hw => ?_)
      obtain ⟨rfl, hg104⟩ := hp98
      obtain ⟨g101, g102, c103⟩ := hg104
      refine lv_bipush (v := 24) hx hb dX12_looks_22 (by decide) ?_
      refine lv_idiv hx hb dX12_looks_24 (by decide) ?_
      refine lv_topi (fun x105 ex105 => ?_)
      have ex105 : x105.toInt = r97.toInt / (24 : Int) := by rw [ex105]; exact wk_div (show 0 ≤ r97.toInt by first | with_reducible assumption | omega) (show 0 < (24 : Int) by decide)
      refine lv_bipush (v := 7) hx hb dX12_looks_25 (by decide) ?_
      refine lv_irem hx hb dX12_looks_27 (by decide) ?_
      refine lv_topi (fun x106 ex106 => ?_)
      have ex106 : x106.toInt = x105.toInt % (7 : Int) := by rw [ex106]; exact wk_rem (show 0 ≤ x105.toInt by first | with_reducible assumption | omega) (show 0 < (7 : Int) by decide)
      refine tk_Vv hC hK hw hT hA hE hSR kM_at0 (by decide) rfl (k_X12_takesDay_1 l adK adV dC dI cy ad B hB0 (Int.le_trans hB1 (by decide)) qr s1   x106 (show 0 ≤ x106.toInt by first | with_reducible assumption | omega) (show x106.toInt ≤ 6 by first | with_reducible assumption | omega) w0 H.size hT ) (cwV 1 hC.2.2.2.2 uV_RX12_381 rfl rfl rfl (by decide +kernel) ⟨Nat.le_of_ble_eq_true rfl, Nat.le_of_ble_eq_true rfl⟩) rfl hl.1 rfl (Nat.le_of_ble_eq_true rfl) dX12_looks_28 (fun w109 H locs hp108 hw => ?_)
      obtain ⟨hT, k110, hg111⟩ := hp108
      have hF := hF.tr k110 (by decide)
      have c112 := k110.gi kM_at12 (by decide) c92
      have c113 := k110.gi kM_at0 (by decide) c95
      clear hg111
      refine lv_goto (tgt := 44) hx hb dX12_looks_31 (by decide) ?_
      exact J44  H locs ls w109   hw hT hF  (lv_sub hl [0, 1] rfl)
abbrev P_X12_takesStreet_2 (ad : Nat → Nat) (cy : Nat → ClassId) (B : Int) (qr : Nat) (s1 : Int) (a2 : Int32) (w0 : va_W) : va_W → Prop := fun u => TW ksM ad cy (B + 9) qr 12 u ∧ FE ksM [(71, 216, 216), (71, 220, 220), (71, 223, 223)] w0 u ∧ (((∃ y : Int32, gi u 12 223 = y ∧ 0 ≤ y.toInt ∧ y.toInt ≤ 9)))
set_option maxHeartbeats 4000000 in
set_option maxRecDepth 100000 in
theorem k_X12_takesStreet_2 (l : Launch) (adK adV : Nat → Nat) (dC : Nat → ClassId) (dI : Nat → Nat → Nat) (cy : Nat → ClassId) (ad : Nat → Nat) (B : Int) (hB0 : 100000 ≤ B) (hB1 : B ≤ 1073741824) (qr : Nat) (s1 : Int)  (a2 : Int32) (ra2 : 0 ≤ a2.toInt) (ta2 : a2.toInt ≤ 11) (w0 : va_W) (sz : Nat) (hT : TW ksM ad cy B qr 12 w0)  : Met l yX12_takesStreet (wu yX12_takesStreet cX12_takesStreet 5 none) ({ frames := 3, cells := 0, slots := 0, locals := 56 }) (va_Pc [.ref (ad 0), .int 0, .int a2] (wpreS adK adV dC dI cy sz w0)) (va_Qv (P_X12_takesStreet_2 ad cy B qr s1 a2 w0) (fun u : va_W => wpost dC dI cy (va_A w0 sz) u) (va_A w0 sz)) 0 0 (va_A w0 sz) := by
  refine Met.ofW (cc := cX12_takesStreet) (maxL := 5) (ret := none) (by decide) rfl ?_
  intro p e s m args below meth c s₁ Bk hml hv
  obtain ⟨rfl, ⟨hsz, hP, hK, hD0⟩, hE, hSR⟩ := hv
  have hx := Bk.exec
  have hb := Bk.bytes
  have hr := Bk.returns
  have hlocks := Bk.notSynchronized
  have hC : CallFix p m c cX12_takesStreet 5 s _ (wu yX12_takesStreet cX12_takesStreet 5 none) RX12 := ⟨hx, hb, hml, findClass_of_methodNamed Bk.named, atoms_spec (ws := (wu yX12_takesStreet cX12_takesStreet 5 none)) Bk.pre⟩
  subst hsz
  have hD := hD0.self (sz := s.heap.size)
  generalize hAe : va_A w0 s.heap.size = A at hD hE ⊢
  have hA : ∀ q : Nat, s.heap.size ≤ q → A q := fun q h => by rw [← hAe]; exact Or.inr h
  have hw : Wd dC dI A s.heap s.heap [] w0 := ⟨hP, hD, va_S.rf⟩
  have hF : FE ksM [(71, 216, 216), (71, 220, 220), (71, 223, 223)] w0 w0 := FE.rf
  have hl := lv_entry ([.ref (ad 0), .int 0, .int a2]) (n := 5) (Nat.le_of_ble_eq_true rfl)
  rw [lg_entry_eq]
  generalize (lg_sl ([.ref (ad 0), .int 0, .int a2]) ++ List.replicate (5 - (lg_sl ([.ref (ad 0), .int 0, .int a2])).length) Slot.unset).toArray = ls at hl ⊢
  have hl : lv_has ls 5 [(0, .ref (ad 0)), (1, .int 0), (2, .int a2)] := hl
  generalize hloc : ([] : List Loc) = locs at hw ⊢
  have hinX12 : ∀ w ∈ u_ws RX12 TX12 42, w ∈ (wu yX12_takesStreet cX12_takesStreet 5 none) := fun _ h => List.mem_cons_of_mem _ (up_71 h)
  refine lv_sipush (v := 216) hx hb dX12_takesStreet_0 (by decide) ?_
  refine lv_bipush (v := 9) hx hb dX12_takesStreet_3 (by decide) ?_
  refine lv_iload_n hx hb dX12_takesStreet_5 rfl (lv_at hl 1 rfl) ?_
  refine lv_imul hx hb dX12_takesStreet_6 ?_
  refine wk_top 0 (by decide) ?_
  refine lv_iadd hx hb dX12_takesStreet_7 ?_
  refine wk_top 216 (by decide) ?_
  refine lv_istore_n (lv' := [(3, .int 216), (0, .ref (ad 0)), (1, .int 0), (2, .int a2)]) hx hb dX12_takesStreet_8 rfl hl (by decide) rfl (fun ls hl => ?_)
  refine lv_aload_n hx hb dX12_takesStreet_9 rfl (lv_at hl 1 rfl) ?_
  refine tk_getA hC hK hw hT hinX12 kM_at0 (by decide) rfl 26 (by decide) (List.mem_cons_of_mem _ uw_7_1) rfl rfl dX12_takesStreet_10 ?_
  refine lv_iload_n hx hb dX12_takesStreet_13 rfl (lv_at hl 0 rfl) ?_
  refine tk_ialdR hC hK hw hT kM_at12 rfl (by decide) (by decide) dX12_takesStreet_14 (fun x1 c2 Ex1 => ?_)
  have bx1 := tk_rgI rfl 216 1 1 0 9 (by decide +kernel) ⟨0, by decide, by decide⟩ Ex1
  have c2 : gi w0 12 216 = x1 := c2
  refine lv_istore (lv' := [(4, .int x1), (3, .int 216), (0, .ref (ad 0)), (1, .int 0), (2, .int a2)]) hx hb dX12_takesStreet_15 hl (by decide) rfl (fun ls hl => ?_)
  refine lv_aload_n hx hb dX12_takesStreet_17 rfl (lv_at hl 2 rfl) ?_
  refine tk_getA hC hK hw hT hinX12 kM_at0 (by decide) rfl 26 (by decide) (List.mem_cons_of_mem _ uw_7_1) rfl rfl dX12_takesStreet_18 ?_
  refine lv_iload_n hx hb dX12_takesStreet_21 rfl (lv_at hl 1 rfl) ?_
  refine lv_aload_n hx hb dX12_takesStreet_22 rfl (lv_at hl 2 rfl) ?_
  refine lv_iload_n hx hb dX12_takesStreet_23 rfl (lv_at hl 4 rfl) ?_
  refine lv_iload hx hb dX12_takesStreet_24 (lv_at hl 0 rfl) ?_
  refine tk_Vi hC hK hw hT hA hE hSR kM_at0 (by decide) rfl (k_X12_otherOf_1 l adK adV dC dI cy ad B hB0 (Int.le_trans hB1 (by decide)) qr s1   a2 (show 0 ≤ a2.toInt from ra2) (show a2.toInt ≤ 11 from ta2) x1 (show 0 ≤ x1.toInt by first | with_reducible assumption | omega) (show x1.toInt ≤ 9 by first | with_reducible assumption | omega) w0 s.heap.size hT ) (cwV 2 hC.2.2.2.2 uV_RX12_348 rfl rfl rfl (by decide +kernel) ⟨Nat.le_of_ble_eq_true rfl, Nat.le_of_ble_eq_true rfl⟩) rfl hl.1 rfl (Nat.le_of_ble_eq_true rfl) dX12_takesStreet_26 (fun r3 w5 H locs hp4 hw => ?_)
  obtain ⟨rfl, hg12⟩ := hp4
  rcases hg12 with ⟨g7, g8⟩ | ⟨g9, g10, c11⟩
  · refine tk_iastR hC hK hw hT kM_at12 (by decide) rfl (by decide) (by decide) (tk_rgS rfl 216 1 1 0 9 (by decide +kernel) ⟨0, by decide, by decide⟩ (show 0 ≤ r3.toInt by first | with_reducible assumption | omega) (show r3.toInt ≤ 9 by first | with_reducible assumption | omega)) dX12_takesStreet_29 (fun H locs w13 hw hT k15 c14 => ?_)
    have hF := hF.put kM_at12 (inE_of (a := 216) (b := 216) (by decide) (by decide) (by decide)) k15
    have c14 : gi w13 12 216 = r3 := c14
    refine lv_aload_n hx hb dX12_takesStreet_30 rfl (lv_at hl 2 rfl) ?_
    refine tk_getA hC hK hw hT hinX12 kM_at0 (by decide) rfl 26 (by decide) (List.mem_cons_of_mem _ uw_7_1) rfl rfl dX12_takesStreet_31 ?_
    refine lv_iload_n hx hb dX12_takesStreet_34 rfl (lv_at hl 1 rfl) ?_
    refine lv_bipush (v := 7) hx hb dX12_takesStreet_35 (by decide) ?_
    refine lv_iadd hx hb dX12_takesStreet_37 ?_
    refine wk_top 223 (by decide) ?_
    refine lv_iload hx hb dX12_takesStreet_38 (lv_at hl 0 rfl) ?_
    refine tk_iastR hC hK hw hT kM_at12 (by decide) rfl (by decide) (by decide) (tk_rgS rfl 223 1 1 0 9 (by decide +kernel) ⟨0, by decide, by decide⟩ (show 0 ≤ x1.toInt by first | with_reducible assumption | omega) (show x1.toInt ≤ 9 by first | with_reducible assumption | omega)) dX12_takesStreet_40 (fun H locs w16 hw hT k18 c17 => ?_)
    have hF := hF.put kM_at12 (inE_of (a := 223) (b := 223) (by decide) (by decide) (by decide)) k18
    have c19 := k18.gi (Or.inr (by decide)) c14
    have c17 : gi w16 12 223 = x1 := c17
    refine lv_aload_n hx hb dX12_takesStreet_41 rfl (lv_at hl 2 rfl) ?_
    refine tk_getA hC hK hw hT hinX12 kM_at0 (by decide) rfl 26 (by decide) (List.mem_cons_of_mem _ uw_7_1) rfl rfl dX12_takesStreet_42 ?_
    refine lv_iload_n hx hb dX12_takesStreet_45 rfl (lv_at hl 1 rfl) ?_
    refine lv_iconst (v := 4) hx hb dX12_takesStreet_46 (by decide) ?_
    refine lv_iadd hx hb dX12_takesStreet_47 ?_
    refine wk_top 220 (by decide) ?_
    refine lv_dup2_11 hx hb dX12_takesStreet_48 rfl rfl ?_
    refine tk_ialdR hC hK hw hT kM_at12 rfl (by decide) (by decide) dX12_takesStreet_49 (fun x20 c21 Ex20 => ?_)
    have bx20 := (tk_rgB rfl 220 1 1 (by decide +kernel) ⟨0, by decide, by decide⟩).mp Ex20
    have c21 : gi w16 12 220 = x20 := c21
    refine lv_aload_n hx hb dX12_takesStreet_50 rfl (lv_at hl 2 rfl) ?_
    refine lv_iload_n hx hb dX12_takesStreet_51 rfl (lv_at hl 4 rfl) ?_
    refine lv_iconst (v := 2) hx hb dX12_takesStreet_52 (by decide) ?_
    refine tk_Vi hC hK hw hT hA hE hSR kM_at0 (by decide) rfl (k_X12_streetOf_6 l adK adV dC dI cy ad B hB0 (Int.le_trans hB1 (by decide)) qr s1   a2 (show 0 ≤ a2.toInt from ra2) (show a2.toInt ≤ 11 from ta2) w16 H.size hT ) (cwV 2 hC.2.2.2.2 uV_RX12_300 rfl rfl rfl (by decide +kernel) ⟨Nat.le_of_ble_eq_true rfl, Nat.le_of_ble_eq_true rfl⟩) rfl hl.1 rfl (Nat.le_of_ble_eq_true rfl) dX12_takesStreet_53 (fun r22 w24 H locs hp23 hw => ?_)
    obtain ⟨rfl, hg29⟩ := hp23
    obtain ⟨g26, g27, c28⟩ := hg29
    refine lv_iadd hx hb dX12_takesStreet_56 ?_
    refine lv_topi (fun x30 ex30 => ?_)
    have ex30 : x30.toInt = x20.toInt + r22.toInt := by rw [ex30]; exact wk_add (show (-2147483648) ≤ x20.toInt + r22.toInt by omega) (show x20.toInt + r22.toInt ≤ 2147483647 by omega)
    have hT := hT.up (show B ≤ (B + 9) by omega)
    refine tk_iastR hC hK hw hT kM_at12 (by decide) rfl (by decide) (by decide) ((tk_rgB rfl 220 1 1 (by decide +kernel) ⟨0, by decide, by decide⟩).mpr ⟨(show 0 ≤ x30.toInt by first | with_reducible assumption | omega), (show x30.toInt ≤ (B + 9) by omega)⟩) dX12_takesStreet_57 (fun H locs w31 hw hT k33 c32 => ?_)
    have hF := hF.put kM_at12 (inE_of (a := 220) (b := 220) (by decide) (by decide) (by decide)) k33
    have c34 := k33.gi (Or.inr (by decide)) c19
    have c35 := k33.gi (Or.inr (by decide)) c17
    have c32 : gi w31 12 220 = x30 := c32
    exact tk_vret hC hr hlocks hK ⟨hT, hF, ⟨x1, c35, (show 0 ≤ x1.toInt by first | with_reducible assumption | omega), (show x1.toInt ≤ 9 by first | with_reducible assumption | omega)⟩⟩ hw dX12_takesStreet_58
  · refine tk_iastR hC hK hw hT kM_at12 (by decide) rfl (by decide) (by decide) (tk_rgS rfl 216 1 1 0 9 (by decide +kernel) ⟨0, by decide, by decide⟩ (show 0 ≤ r3.toInt by first | with_reducible assumption | omega) (show r3.toInt ≤ 9 by first | with_reducible assumption | omega)) dX12_takesStreet_29 (fun H locs w36 hw hT k38 c37 => ?_)
    have hF := hF.put kM_at12 (inE_of (a := 216) (b := 216) (by decide) (by decide) (by decide)) k38
    have c37 : gi w36 12 216 = r3 := c37
    refine lv_aload_n hx hb dX12_takesStreet_30 rfl (lv_at hl 2 rfl) ?_
    refine tk_getA hC hK hw hT hinX12 kM_at0 (by decide) rfl 26 (by decide) (List.mem_cons_of_mem _ uw_7_1) rfl rfl dX12_takesStreet_31 ?_
    refine lv_iload_n hx hb dX12_takesStreet_34 rfl (lv_at hl 1 rfl) ?_
    refine lv_bipush (v := 7) hx hb dX12_takesStreet_35 (by decide) ?_
    refine lv_iadd hx hb dX12_takesStreet_37 ?_
    refine wk_top 223 (by decide) ?_
    refine lv_iload hx hb dX12_takesStreet_38 (lv_at hl 0 rfl) ?_
    refine tk_iastR hC hK hw hT kM_at12 (by decide) rfl (by decide) (by decide) (tk_rgS rfl 223 1 1 0 9 (by decide +kernel) ⟨0, by decide, by decide⟩ (show 0 ≤ x1.toInt by first | with_reducible assumption | omega) (show x1.toInt ≤ 9 by first | with_reducible assumption | omega)) dX12_takesStreet_40 (fun H locs w39 hw hT k41 c40 => ?_)
    have hF := hF.put kM_at12 (inE_of (a := 223) (b := 223) (by decide) (by decide) (by decide)) k41
    have c42 := k41.gi (Or.inr (by decide)) c37
    have c40 : gi w39 12 223 = x1 := c40
    refine lv_aload_n hx hb dX12_takesStreet_41 rfl (lv_at hl 2 rfl) ?_
    refine tk_getA hC hK hw hT hinX12 kM_at0 (by decide) rfl 26 (by decide) (List.mem_cons_of_mem _ uw_7_1) rfl rfl dX12_takesStreet_42 ?_
    refine lv_iload_n hx hb dX12_takesStreet_45 rfl (lv_at hl 1 rfl) ?_
    refine lv_iconst (v := 4) hx hb dX12_takesStreet_46 (by decide) ?_
    refine lv_iadd hx hb dX12_takesStreet_47 ?_
    refine wk_top 220 (by decide) ?_
    refine lv_dup2_11 hx hb dX12_takesStreet_48 rfl rfl ?_
    refine tk_ialdR hC hK hw hT kM_at12 rfl (by decide) (by decide) dX12_takesStreet_49 (fun x43 c44 Ex43 => ?_)
    have bx43 := (tk_rgB rfl 220 1 1 (by decide +kernel) ⟨0, by decide, by decide⟩).mp Ex43
    have c44 : gi w39 12 220 = x43 := c44
    refine lv_aload_n hx hb dX12_takesStreet_50 rfl (lv_at hl 2 rfl) ?_
    refine lv_iload_n hx hb dX12_takesStreet_51 rfl (lv_at hl 4 rfl) ?_
    refine lv_iconst (v := 2) hx hb dX12_takesStreet_52 (by decide) ?_
    refine tk_Vi hC hK hw hT hA hE hSR kM_at0 (by decide) rfl (k_X12_streetOf_6 l adK adV dC dI cy ad B hB0 (Int.le_trans hB1 (by decide)) qr s1   a2 (show 0 ≤ a2.toInt from ra2) (show a2.toInt ≤ 11 from ta2) w39 H.size hT ) (cwV 2 hC.2.2.2.2 uV_RX12_300 rfl rfl rfl (by decide +kernel) ⟨Nat.le_of_ble_eq_true rfl, Nat.le_of_ble_eq_true rfl⟩) rfl hl.1 rfl (Nat.le_of_ble_eq_true rfl) dX12_takesStreet_53 (fun r45 w47 H locs hp46 hw => ?_)
    obtain ⟨rfl, hg52⟩ := hp46
    obtain ⟨g49, g50, c51⟩ := hg52
    refine lv_iadd hx hb dX12_takesStreet_56 ?_
    refine lv_topi (fun x53 ex53 => ?_)
    have ex53 : x53.toInt = x43.toInt + r45.toInt := by rw [ex53]; exact wk_add (show (-2147483648) ≤ x43.toInt + r45.toInt by omega) (show x43.toInt + r45.toInt ≤ 2147483647 by omega)
    have hT := hT.up (show B ≤ (B + 9) by omega)
    refine tk_iastR hC hK hw hT kM_at12 (by decide) rfl (by decide) (by decide) ((tk_rgB rfl 220 1 1 (by decide +kernel) ⟨0, by decide, by decide⟩).mpr ⟨(show 0 ≤ x53.toInt by first | with_reducible assumption | omega), (show x53.toInt ≤ (B + 9) by omega)⟩) dX12_takesStreet_57 (fun H locs w54 hw hT k56 c55 => ?_)
    have hF := hF.put kM_at12 (inE_of (a := 220) (b := 220) (by decide) (by decide) (by decide)) k56
    have c57 := k56.gi (Or.inr (by decide)) c42
    have c58 := k56.gi (Or.inr (by decide)) c40
    have c55 : gi w54 12 220 = x53 := c55
    exact tk_vret hC hr hlocks hK ⟨hT, hF, ⟨x1, c58, (show 0 ≤ x1.toInt by first | with_reducible assumption | omega), (show x1.toInt ≤ 9 by first | with_reducible assumption | omega)⟩⟩ hw dX12_takesStreet_58
abbrev P_X12_steps_2 (ad : Nat → Nat) (cy : Nat → ClassId) (B : Int) (qr : Nat) (s1 : Int)  (w0 : va_W) : Int32 → va_W → Prop := fun r u => TW ksM ad cy (B + 9) qr 12 u ∧ FE ksM [(12, 24, 24), (12, 31, 31), (69, 0, 64), (70, 0, 10), (71, 216, 216), (71, 220, 220), (71, 221, 221), (71, 222, 222), (71, 223, 223), (71, 224, 224), (72, 0, 12), (73, 0, 10)] w0 u ∧ ((r = 0) ∨ (r = 1))
set_option maxHeartbeats 4000000 in
set_option maxRecDepth 100000 in
theorem k_X12_steps_2 (l : Launch) (adK adV : Nat → Nat) (dC : Nat → ClassId) (dI : Nat → Nat → Nat) (cy : Nat → ClassId) (ad : Nat → Nat) (B : Int) (hB0 : 100000 ≤ B) (hB1 : B ≤ 1073741824) (qr : Nat) (s1 : Int)   (w0 : va_W) (sz : Nat) (hT : TW ksM ad cy B qr 12 w0) (hRW : RW w0) : Met l yX12_steps (wu yX12_steps cX12_steps 4 (some .boolean)) ({ frames := 8, cells := 0, slots := 0, locals := 171 }) (va_Pc [.ref (ad 0), .int 0] (wpreS adK adV dC dI cy sz w0)) (va_Qi (P_X12_steps_2 ad cy B qr s1  w0) (fun u : va_W => wpost dC dI cy (va_A w0 sz) u) (va_A w0 sz)) 0 0 (va_A w0 sz) := by
  refine Met.ofW (cc := cX12_steps) (maxL := 4) (ret := (some .boolean)) (by decide) rfl ?_
  intro p e s m args below meth c s₁ Bk hml hv
  obtain ⟨rfl, ⟨hsz, hP, hK, hD0⟩, hE, hSR⟩ := hv
  have hx := Bk.exec
  have hb := Bk.bytes
  have hr := Bk.returns
  have hlocks := Bk.notSynchronized
  have hC : CallFix p m c cX12_steps 4 s _ (wu yX12_steps cX12_steps 4 (some .boolean)) RX12 := ⟨hx, hb, hml, findClass_of_methodNamed Bk.named, atoms_spec (ws := (wu yX12_steps cX12_steps 4 (some .boolean))) Bk.pre⟩
  subst hsz
  have hD := hD0.self (sz := s.heap.size)
  generalize hAe : va_A w0 s.heap.size = A at hD hE ⊢
  have hA : ∀ q : Nat, s.heap.size ≤ q → A q := fun q h => by rw [← hAe]; exact Or.inr h
  have hw : Wd dC dI A s.heap s.heap [] w0 := ⟨hP, hD, va_S.rf⟩
  have hF : FE ksM [(12, 24, 24), (12, 31, 31), (69, 0, 64), (70, 0, 10), (71, 216, 216), (71, 220, 220), (71, 221, 221), (71, 222, 222), (71, 223, 223), (71, 224, 224), (72, 0, 12), (73, 0, 10)] w0 w0 := FE.rf
  have hl := lv_entry ([.ref (ad 0), .int 0]) (n := 4) (Nat.le_of_ble_eq_true rfl)
  rw [lg_entry_eq]
  generalize (lg_sl ([.ref (ad 0), .int 0]) ++ List.replicate (4 - (lg_sl ([.ref (ad 0), .int 0])).length) Slot.unset).toArray = ls at hl ⊢
  have hl : lv_has ls 4 [(0, .ref (ad 0)), (1, .int 0)] := hl
  generalize hloc : ([] : List Loc) = locs at hw ⊢
  have hinX12 : ∀ w ∈ u_ws RX12 TX12 42, w ∈ (wu yX12_steps cX12_steps 4 (some .boolean)) := fun _ h => List.mem_cons_of_mem _ (up_71 h)
  have J125 : ∀ (v125_2 : Int32) (f125_0_31 : Int32) (f125_12_219 : Int32) (f125_12_221 : Int32) (H : Heap) (locs : List Loc) (ls : Array Slot) (w1 : va_W), 0 ≤ v125_2.toInt → v125_2.toInt ≤ 1 → (-1) ≤ f125_0_31.toInt → f125_0_31.toInt ≤ 11 → (-1) ≤ f125_12_219.toInt → f125_12_219.toInt ≤ 5 → Wd dC dI A s.heap H locs w1 → TW ksM ad cy (B + 9) qr 12 w1 → FE ksM [(12, 24, 24), (12, 31, 31), (69, 0, 64), (70, 0, 10), (71, 216, 216), (71, 220, 220), (71, 221, 221), (71, 222, 222), (71, 223, 223), (71, 224, 224), (72, 0, 12), (73, 0, 10)] w0 w1 → RW w1 → gi w1 0 31 = f125_0_31 → gi w1 12 219 = f125_12_219 → gi w1 12 221 = f125_12_221 → lv_has ls 4 [(0, .ref (ad 0)), (1, .int 0), (2, .int v125_2), (3, .int 216)] → W p l e ({ frames := 8, cells := 0, slots := 0, locals := 171 }) s m (List.toArray [.ref (ad 0), .int 0]) below meth c H locs 0 0 (MQ below (va_Qi (P_X12_steps_2 ad cy B qr s1  w0) (fun u : va_W => wpost dC dI cy A u) A) (List.toArray [.ref (ad 0), .int 0]) s 0 0 A) (F0 m 125 ls []) := by
    intro v125_2 f125_0_31 f125_12_219 f125_12_221 H locs ls w1 r2 t3 r4 t5 r7 t8 hw hT hF hRW c6 c9 c10 hl
    refine lv_iconst (v := 1) hx hb dX12_steps_125 (by decide) ?_
    refine lv_goto (tgt := 130) hx hb dX12_steps_126 (by decide) ?_
    exact tk_zret hC hr rfl hlocks hK ⟨hT, hF, (Or.inr rfl)⟩ hw dX12_steps_130
  have J104 : ∀ (v104_2 : Int32) (f104_0_31 : Int32) (f104_12_219 : Int32) (H : Heap) (locs : List Loc) (ls : Array Slot) (w11 : va_W), (-1) ≤ f104_0_31.toInt → f104_0_31.toInt ≤ 11 → (-1) ≤ f104_12_219.toInt → f104_12_219.toInt ≤ 5 → Wd dC dI A s.heap H locs w11 → TW ksM ad cy (B + 9) qr 12 w11 → FE ksM [(12, 24, 24), (12, 31, 31), (69, 0, 64), (70, 0, 10), (71, 216, 216), (71, 220, 220), (71, 221, 221), (71, 222, 222), (71, 223, 223), (71, 224, 224), (72, 0, 12), (73, 0, 10)] w0 w11 → RW w11 → gi w11 0 31 = f104_0_31 → gi w11 12 219 = f104_12_219 → lv_has ls 4 [(0, .ref (ad 0)), (1, .int 0), (2, .int v104_2), (3, .int 216)] → W p l e ({ frames := 8, cells := 0, slots := 0, locals := 171 }) s m (List.toArray [.ref (ad 0), .int 0]) below meth c H locs 0 0 (MQ below (va_Qi (P_X12_steps_2 ad cy B qr s1  w0) (fun u : va_W => wpost dC dI cy A u) A) (List.toArray [.ref (ad 0), .int 0]) s 0 0 A) (F0 m 104 ls []) := by
    intro v104_2 f104_0_31 f104_12_219 H locs ls w11 r12 t13 r15 t16 hw hT hF hRW c14 c17 hl
    refine lv_aload_n hx hb dX12_steps_104 rfl (lv_at hl 0 rfl) ?_
    refine tk_getA hC hK hw hT hinX12 kM_at0 (by decide) rfl 26 (by decide) (List.mem_cons_of_mem _ uw_7_1) rfl rfl dX12_steps_105 ?_
    refine lv_iload_n hx hb dX12_steps_108 rfl (lv_at hl 3 rfl) ?_
    refine lv_iconst (v := 5) hx hb dX12_steps_109 (by decide) ?_
    refine lv_iadd hx hb dX12_steps_110 ?_
    refine wk_top 221 (by decide) ?_
    refine lv_dup2_11 hx hb dX12_steps_111 rfl rfl ?_
    refine tk_ialdR hC hK hw hT kM_at12 rfl (by decide) (by decide) dX12_steps_112 (fun x18 c19 Ex18 => ?_)
    have c19 : gi w11 12 221 = x18 := c19
    refine lv_iconst (v := 1) hx hb dX12_steps_113 (by decide) ?_
    refine lv_iadd hx hb dX12_steps_114 ?_
    have nx20 := wk_i32 x18
    refine lv_topi (fun x21 ex21 => ?_)
    refine tk_iastR hC hK hw hT kM_at12 (by decide) rfl (by decide) (by decide) (tk_rgS rfl 221 1 1 (-2147483648) 2147483647 (by decide +kernel) ⟨0, by decide, by decide⟩ (wk_i32 x21).1 (wk_i32 x21).2) dX12_steps_115 (fun H locs w22 hw hT k24 c23 => ?_)
    have hRW := RW_F1 k24 (by decide) (by decide) (by decide) hRW
    have hF := hF.put kM_at12 (inE_of (a := 221) (b := 221) (by decide) (by decide) (by decide)) k24
    have c25 := k24.gi (Or.inl (tk_ne kM_at0 kM_at12 (by decide))) c14
    have c26 := k24.gi (Or.inr (by decide)) c17
    have c23 : gi w22 12 221 = x21 := c23
    refine lv_iload_n hx hb dX12_steps_116 rfl (lv_at hl 2 rfl) ?_
    refine lv_if_eq (tgt := 125) hx hb dX12_steps_117 (by decide) (fun c27 => ?_) (fun c27 => ?_)
    · have c27 : v104_2.toInt = (0 : Int) := wk_eq.mp c27
      exact J125 v104_2 f104_0_31 f104_12_219 x21 H locs ls w22 (show 0 ≤ v104_2.toInt by first | with_reducible assumption | omega) (show v104_2.toInt ≤ 1 by first | with_reducible assumption | omega) (show (-1) ≤ f104_0_31.toInt from r12) (show f104_0_31.toInt ≤ 11 from t13) (show (-1) ≤ f104_12_219.toInt from r15) (show f104_12_219.toInt ≤ 5 from t16)  hw hT hF hRW c25 c26 c23 (lv_sub hl [0, 1, 2, 3] rfl)
    · have c27 : ¬ v104_2.toInt = (0 : Int) := wk_eqF c27
      refine lv_iload_n hx hb dX12_steps_120 rfl (lv_at hl 2 rfl) ?_
      refine lv_iconst (v := 1) hx hb dX12_steps_121 (by decide) ?_
      refine lv_icmp_ne (tgt := 129) hx hb dX12_steps_122 (by decide) (fun c28 => ?_) (fun c28 => ?_)
      · have c28 : ¬ v104_2.toInt = (1 : Int) := wk_eqF c28
        refine lv_iconst (v := 0) hx hb dX12_steps_129 (by decide) ?_
        exact tk_zret hC hr rfl hlocks hK ⟨hT, hF, (Or.inl rfl)⟩ hw dX12_steps_130
      · have c28 : v104_2.toInt = (1 : Int) := wk_eq.mp c28
        exact J125 v104_2 f104_0_31 f104_12_219 x21 H locs ls w22 (show 0 ≤ v104_2.toInt by first | with_reducible assumption | omega) (show v104_2.toInt ≤ 1 by first | with_reducible assumption | omega) (show (-1) ≤ f104_0_31.toInt from r12) (show f104_0_31.toInt ≤ 11 from t13) (show (-1) ≤ f104_12_219.toInt from r15) (show f104_12_219.toInt ≤ 5 from t16)  hw hT hF hRW c25 c26 c23 (lv_sub hl [0, 1, 2, 3] rfl)
  have J92 : ∀ (v92_2 : Int32) (f92_0_31 : Int32) (f92_12_219 : Int32) (H : Heap) (locs : List Loc) (ls : Array Slot) (w29 : va_W), (-1) ≤ f92_0_31.toInt → f92_0_31.toInt ≤ 11 → (-1) ≤ f92_12_219.toInt → f92_12_219.toInt ≤ 5 → Wd dC dI A s.heap H locs w29 → TW ksM ad cy B qr 12 w29 → FE ksM [(12, 24, 24), (12, 31, 31), (69, 0, 64), (70, 0, 10), (71, 216, 216), (71, 220, 220), (71, 221, 221), (71, 222, 222), (71, 223, 223), (71, 224, 224), (72, 0, 12), (73, 0, 10)] w0 w29 → RW w29 → gi w29 0 31 = f92_0_31 → gi w29 12 219 = f92_12_219 → lv_has ls 4 [(0, .ref (ad 0)), (1, .int 0), (2, .int v92_2), (3, .int 216)] → W p l e ({ frames := 8, cells := 0, slots := 0, locals := 171 }) s m (List.toArray [.ref (ad 0), .int 0]) below meth c H locs 0 0 (MQ below (va_Qi (P_X12_steps_2 ad cy B qr s1  w0) (fun u : va_W => wpost dC dI cy A u) A) (List.toArray [.ref (ad 0), .int 0]) s 0 0 A) (F0 m 92 ls []) := by
    intro v92_2 f92_0_31 f92_12_219 H locs ls w29 r30 t31 r33 t34 hw hT hF hRW c32 c35 hl
    refine lv_aload_n hx hb dX12_steps_92 rfl (lv_at hl 0 rfl) ?_
    refine tk_getA hC hK hw hT hinX12 kM_at0 (by decide) rfl 26 (by decide) (List.mem_cons_of_mem _ uw_7_1) rfl rfl dX12_steps_93 ?_
    refine lv_iload_n hx hb dX12_steps_96 rfl (lv_at hl 3 rfl) ?_
    refine lv_iconst (v := 4) hx hb dX12_steps_97 (by decide) ?_
    refine lv_iadd hx hb dX12_steps_98 ?_
    refine wk_top 220 (by decide) ?_
    refine lv_dup2_11 hx hb dX12_steps_99 rfl rfl ?_
    refine tk_ialdR hC hK hw hT kM_at12 rfl (by decide) (by decide) dX12_steps_100 (fun x36 c37 Ex36 => ?_)
    have bx36 := (tk_rgB rfl 220 1 1 (by decide +kernel) ⟨0, by decide, by decide⟩).mp Ex36
    have c37 : gi w29 12 220 = x36 := c37
    refine lv_iconst (v := 1) hx hb dX12_steps_101 (by decide) ?_
    refine lv_iadd hx hb dX12_steps_102 ?_
    refine lv_topi (fun x38 ex38 => ?_)
    have ex38 : x38.toInt = x36.toInt + (1 : Int) := by rw [ex38]; exact wk_add (show (-2147483648) ≤ x36.toInt + (1 : Int) by omega) (show x36.toInt + (1 : Int) ≤ 2147483647 by omega)
    have hT := hT.up (show B ≤ (B + 1) by omega)
    refine tk_iastR hC hK hw hT kM_at12 (by decide) rfl (by decide) (by decide) ((tk_rgB rfl 220 1 1 (by decide +kernel) ⟨0, by decide, by decide⟩).mpr ⟨(show 0 ≤ x38.toInt by first | with_reducible assumption | omega), (show x38.toInt ≤ (B + 1) by omega)⟩) dX12_steps_103 (fun H locs w39 hw hT k41 c40 => ?_)
    have hRW := RW_F1 k41 (by decide) (by decide) (by decide) hRW
    have hF := hF.put kM_at12 (inE_of (a := 220) (b := 220) (by decide) (by decide) (by decide)) k41
    have c42 := k41.gi (Or.inl (tk_ne kM_at0 kM_at12 (by decide))) c32
    have c43 := k41.gi (Or.inr (by decide)) c35
    have c40 : gi w39 12 220 = x38 := c40
    exact J104 v92_2 f92_0_31 f92_12_219 H locs ls w39 (show (-1) ≤ f92_0_31.toInt from r30) (show f92_0_31.toInt ≤ 11 from t31) (show (-1) ≤ f92_12_219.toInt from r33) (show f92_12_219.toInt ≤ 5 from t34)  hw (hT.up (show (B + 1) ≤ (B + 9) by omega)) hF hRW c42 c43 (lv_sub hl [0, 1, 2, 3] rfl)
  refine lv_aload_n hx hb dX12_steps_0 rfl (lv_at hl 0 rfl) ?_
  refine lv_iload_n hx hb dX12_steps_1 rfl (lv_at hl 1 rfl) ?_
  refine tk_Vv hC hK hw hT hA hE hSR kM_at0 (by decide) rfl (k_X12_looks_2 l adK adV dC dI cy ad B hB0 (Int.le_trans hB1 (by decide)) qr s1    w0 s.heap.size hT ) (cwV 1 hC.2.2.2.2 uV_RX12_405 rfl rfl rfl (by decide +kernel) ⟨Nat.le_of_ble_eq_true rfl, Nat.le_of_ble_eq_true rfl⟩) rfl hl.1 rfl (Nat.le_of_ble_eq_true rfl) dX12_steps_2 (fun w46 H locs hp45 hw => ?_)
  obtain ⟨hT, k47, hg50⟩ := hp45
  have hRW := RW_FE k47 (fun _ => rfl) (fun _ => rfl) (fun _ => rfl) hRW
  have hF := hF.tr k47 (by decide)
  obtain ⟨x48, c49, rx48, tx48⟩ := hg50
  refine lv_aload_n hx hb dX12_steps_5 rfl (lv_at hl 0 rfl) ?_
  refine lv_iload_n hx hb dX12_steps_6 rfl (lv_at hl 1 rfl) ?_
  refine tk_Vi hC hK hw hT hA hE hSR kM_at0 (by decide) rfl (k_X12_doing_2 l adK adV dC dI cy ad B hB0 (Int.le_trans hB1 (by decide)) qr s1    w46 H.size hT hRW) (cwV 1 hC.2.2.2.2 uV_RX12_408 rfl rfl rfl (by decide +kernel) ⟨Nat.le_of_ble_eq_true rfl, Nat.le_of_ble_eq_true rfl⟩) rfl hl.1 rfl (Nat.le_of_ble_eq_true rfl) dX12_steps_7 (fun r51 w53 H locs hp52 hw => ?_)
  obtain ⟨hT, k54, hg76⟩ := hp52
  have hRW := RW_FE k54 (fun _ => rfl) (fun _ => rfl) (fun _ => rfl) hRW
  have hF := hF.tr k54 (by decide)
  have c77 := k54.gi kM_at0 (by decide) c49
  rcases hg76 with ⟨g55, ⟨x56, c57, rx56, tx56⟩⟩ | ⟨g58, ⟨x59, c60, rx59, tx59⟩⟩ | ⟨rfl, ⟨x61, c62, rx61, tx61⟩, ⟨x63, c64, rx63, tx63⟩⟩ | ⟨rfl, ⟨x65, c66, rx65, tx65⟩, ⟨x67, c68, rx67, tx67⟩, hq69⟩ | ⟨rfl, ⟨x70, c71, rx70, tx70⟩, ⟨x72, c73, rx72, tx72⟩⟩ | ⟨rfl, ⟨x74, c75, rx74, tx74⟩⟩
  · refine lv_istore_n (lv' := [(2, .int r51), (0, .ref (ad 0)), (1, .int 0)]) hx hb dX12_steps_10 rfl hl (by decide) rfl (fun ls hl => ?_)
    refine lv_sipush (v := 216) hx hb dX12_steps_11 (by decide) ?_
    refine lv_bipush (v := 9) hx hb dX12_steps_14 (by decide) ?_
    refine lv_iload_n hx hb dX12_steps_16 rfl (lv_at hl 2 rfl) ?_
    refine lv_imul hx hb dX12_steps_17 ?_
    refine wk_top 0 (by decide) ?_
    refine lv_iadd hx hb dX12_steps_18 ?_
    refine wk_top 216 (by decide) ?_
    refine lv_istore_n (lv' := [(3, .int 216), (2, .int r51), (0, .ref (ad 0)), (1, .int 0)]) hx hb dX12_steps_19 rfl hl (by decide) rfl (fun ls hl => ?_)
    refine lv_iload_n hx hb dX12_steps_20 rfl (lv_at hl 1 rfl) ?_
    refine lv_if_ne (tgt := 36) hx hb dX12_steps_21 (by decide) (fun _ => ?_) (fun c => absurd (show r51.toInt = (0 : Int) from wk_eq.mp c) (by omega))
    refine lv_iload_n hx hb dX12_steps_36 rfl (lv_at hl 1 rfl) ?_
    refine lv_iconst (v := 1) hx hb dX12_steps_37 (by decide) ?_
    refine lv_icmp_ne (tgt := 54) hx hb dX12_steps_38 (by decide) (fun _ => ?_) (fun c => absurd (show r51.toInt = (1 : Int) from wk_eq.mp c) (by omega))
    refine lv_iload_n hx hb dX12_steps_54 rfl (lv_at hl 1 rfl) ?_
    refine lv_iconst (v := 2) hx hb dX12_steps_55 (by decide) ?_
    refine lv_icmp_ne (tgt := 92) hx hb dX12_steps_56 (by decide) (fun _ => ?_) (fun c => absurd (show r51.toInt = (2 : Int) from wk_eq.mp c) (by omega))
    exact J92 r51 x48 x56 H locs ls w53 (show (-1) ≤ x48.toInt by first | with_reducible assumption | omega) (show x48.toInt ≤ 11 by first | with_reducible assumption | omega) (show (-1) ≤ x56.toInt by first | with_reducible assumption | omega) (show x56.toInt ≤ 5 by first | with_reducible assumption | omega)  hw hT hF hRW c77 c57 (lv_sub hl [2, 3, 1, 0] rfl)
  · refine lv_istore_n (lv' := [(2, .int r51), (0, .ref (ad 0)), (1, .int 0)]) hx hb dX12_steps_10 rfl hl (by decide) rfl (fun ls hl => ?_)
    refine lv_sipush (v := 216) hx hb dX12_steps_11 (by decide) ?_
    refine lv_bipush (v := 9) hx hb dX12_steps_14 (by decide) ?_
    refine lv_iload_n hx hb dX12_steps_16 rfl (lv_at hl 2 rfl) ?_
    refine lv_imul hx hb dX12_steps_17 ?_
    refine wk_top 0 (by decide) ?_
    refine lv_iadd hx hb dX12_steps_18 ?_
    refine wk_top 216 (by decide) ?_
    refine lv_istore_n (lv' := [(3, .int 216), (2, .int r51), (0, .ref (ad 0)), (1, .int 0)]) hx hb dX12_steps_19 rfl hl (by decide) rfl (fun ls hl => ?_)
    refine lv_iload_n hx hb dX12_steps_20 rfl (lv_at hl 1 rfl) ?_
    refine lv_if_ne (tgt := 36) hx hb dX12_steps_21 (by decide) (fun _ => ?_) (fun c => absurd (show r51.toInt = (0 : Int) from wk_eq.mp c) (by omega))
    refine lv_iload_n hx hb dX12_steps_36 rfl (lv_at hl 1 rfl) ?_
    refine lv_iconst (v := 1) hx hb dX12_steps_37 (by decide) ?_
    refine lv_icmp_ne (tgt := 54) hx hb dX12_steps_38 (by decide) (fun _ => ?_) (fun c => absurd (show r51.toInt = (1 : Int) from wk_eq.mp c) (by omega))
    refine lv_iload_n hx hb dX12_steps_54 rfl (lv_at hl 1 rfl) ?_
    refine lv_iconst (v := 2) hx hb dX12_steps_55 (by decide) ?_
    refine lv_icmp_ne (tgt := 92) hx hb dX12_steps_56 (by decide) (fun _ => ?_) (fun c => absurd (show r51.toInt = (2 : Int) from wk_eq.mp c) (by omega))
    exact J92 r51 x48 x59 H locs ls w53 (show (-1) ≤ x48.toInt by first | with_reducible assumption | omega) (show x48.toInt ≤ 11 by first | with_reducible assumption | omega) (show (-1) ≤ x59.toInt by first | with_reducible assumption | omega) (show x59.toInt ≤ 5 by first | with_reducible assumption | omega)  hw hT hF hRW c77 c60 (lv_sub hl [2, 3, 1, 0] rfl)
  · have ex61 : x61.toInt = x48.toInt := by rw [← c77.symm.trans c62]
    refine lv_istore_n (lv' := [(2, .int 0), (0, .ref (ad 0)), (1, .int 0)]) hx hb dX12_steps_10 rfl hl (by decide) rfl (fun ls hl => ?_)
    refine lv_sipush (v := 216) hx hb dX12_steps_11 (by decide) ?_
    refine lv_bipush (v := 9) hx hb dX12_steps_14 (by decide) ?_
    refine lv_iload_n hx hb dX12_steps_16 rfl (lv_at hl 2 rfl) ?_
    refine lv_imul hx hb dX12_steps_17 ?_
    refine wk_top 0 (by decide) ?_
    refine lv_iadd hx hb dX12_steps_18 ?_
    refine wk_top 216 (by decide) ?_
    refine lv_istore_n (lv' := [(3, .int 216), (2, .int 0), (0, .ref (ad 0)), (1, .int 0)]) hx hb dX12_steps_19 rfl hl (by decide) rfl (fun ls hl => ?_)
    refine lv_iload_n hx hb dX12_steps_20 rfl (lv_at hl 1 rfl) ?_
    refine lv_if_ne (tgt := 36) hx hb dX12_steps_21 (by decide) (fun c => absurd (by decide) c) (fun _ => ?_)
    refine lv_aload_n hx hb dX12_steps_24 rfl (lv_at hl 2 rfl) ?_
    refine lv_iload_n hx hb dX12_steps_25 rfl (lv_at hl 3 rfl) ?_
    refine lv_aload_n hx hb dX12_steps_26 rfl (lv_at hl 2 rfl) ?_
    refine tk_geti hC hK hw hT hinX12 kM_at0 (by decide) rfl 31 (by decide) (List.mem_cons_of_mem _ uw_46_23) rfl rfl dX12_steps_27 (fun x78 c79 rx78 tx78 => ?_)
    refine wk_top x48 (c79.symm.trans c77) ?_
    refine tk_Vv hC hK hw hT hA hE hSR kM_at0 (by decide) rfl (k_X12_takesStreet_2 l adK adV dC dI cy ad B hB0 (Int.le_trans hB1 (by decide)) qr s1   x48 (show 0 ≤ x48.toInt by first | with_reducible assumption | omega) (show x48.toInt ≤ 11 by first | with_reducible assumption | omega) w53 H.size hT ) (cwV 2 hC.2.2.2.2 uV_RX12_411 rfl rfl rfl (by decide +kernel) ⟨Nat.le_of_ble_eq_true rfl, Nat.le_of_ble_eq_true rfl⟩) rfl hl.1 rfl (Nat.le_of_ble_eq_true rfl) dX12_steps_30 (fun w82 H locs hp81 hw => ?_)
    obtain ⟨hT, k83, hg86⟩ := hp81
    have hRW := RW_FE k83 (fun _ => rfl) (fun _ => rfl) (fun _ => rfl) hRW
    have hF := hF.tr k83 (by decide)
    have c87 := k83.gi kM_at0 (by decide) c77
    have c88 := k83.gi kM_at12 (by decide) c64
    obtain ⟨x84, c85, rx84, tx84⟩ := hg86
    refine lv_goto (tgt := 104) hx hb dX12_steps_33 (by decide) ?_
    exact J104 0 x48 x63 H locs ls w82 (show (-1) ≤ x48.toInt by first | with_reducible assumption | omega) (show x48.toInt ≤ 11 by first | with_reducible assumption | omega) (show (-1) ≤ x63.toInt by first | with_reducible assumption | omega) (show x63.toInt ≤ 5 by first | with_reducible assumption | omega)  hw hT hF hRW c87 c88 (lv_sub hl [2, 3, 1, 0] rfl)
  · refine lv_istore_n (lv' := [(2, .int 1), (0, .ref (ad 0)), (1, .int 0)]) hx hb dX12_steps_10 rfl hl (by decide) rfl (fun ls hl => ?_)
    refine lv_sipush (v := 216) hx hb dX12_steps_11 (by decide) ?_
    refine lv_bipush (v := 9) hx hb dX12_steps_14 (by decide) ?_
    refine lv_iload_n hx hb dX12_steps_16 rfl (lv_at hl 2 rfl) ?_
    refine lv_imul hx hb dX12_steps_17 ?_
    refine wk_top 0 (by decide) ?_
    refine lv_iadd hx hb dX12_steps_18 ?_
    refine wk_top 216 (by decide) ?_
    refine lv_istore_n (lv' := [(3, .int 216), (2, .int 1), (0, .ref (ad 0)), (1, .int 0)]) hx hb dX12_steps_19 rfl hl (by decide) rfl (fun ls hl => ?_)
    refine lv_iload_n hx hb dX12_steps_20 rfl (lv_at hl 1 rfl) ?_
    refine lv_if_ne (tgt := 36) hx hb dX12_steps_21 (by decide) (fun _ => ?_) (fun c => absurd c (by decide))
    refine lv_iload_n hx hb dX12_steps_36 rfl (lv_at hl 1 rfl) ?_
    refine lv_iconst (v := 1) hx hb dX12_steps_37 (by decide) ?_
    refine lv_icmp_ne (tgt := 54) hx hb dX12_steps_38 (by decide) (fun c => absurd (by decide) c) (fun _ => ?_)
    refine lv_aload_n hx hb dX12_steps_41 rfl (lv_at hl 2 rfl) ?_
    refine lv_iload_n hx hb dX12_steps_42 rfl (lv_at hl 3 rfl) ?_
    refine lv_aload_n hx hb dX12_steps_43 rfl (lv_at hl 2 rfl) ?_
    refine lv_iload_n hx hb dX12_steps_44 rfl (lv_at hl 3 rfl) ?_
    refine tk_Vi hC hK hw hT hA hE hSR kM_at0 (by decide) rfl (k_X12_asideOf_2 l adK adV dC dI cy ad B hB0 (Int.le_trans hB1 (by decide)) qr s1    w53 H.size hT ) (cwV 1 hC.2.2.2.2 uV_RX12_390 rfl rfl rfl (by decide +kernel) ⟨Nat.le_of_ble_eq_true rfl, Nat.le_of_ble_eq_true rfl⟩) rfl hl.1 rfl (Nat.le_of_ble_eq_true rfl) dX12_steps_45 (fun r89 w91 H locs hp90 hw => ?_)
    obtain ⟨rfl, hg99⟩ := hp90
    rcases hg99 with ⟨g93, g94, ⟨x95, c96, rx95, tx95⟩, hq97⟩ | ⟨rfl, hq98⟩
    · have ex95 : x95.toInt = x65.toInt := by rw [← c66.symm.trans c96]
      refine tk_Vv hC hK hw hT hA hE hSR kM_at0 (by decide) rfl (k_X12_takesStreet_2 l adK adV dC dI cy ad B hB0 (Int.le_trans hB1 (by decide)) qr s1   r89 (show 0 ≤ r89.toInt by first | with_reducible assumption | omega) (show r89.toInt ≤ 11 by first | with_reducible assumption | omega) w53 H.size hT ) (cwV 2 hC.2.2.2.2 uV_RX12_411 rfl rfl rfl (by decide +kernel) ⟨Nat.le_of_ble_eq_true rfl, Nat.le_of_ble_eq_true rfl⟩) rfl hl.1 rfl (Nat.le_of_ble_eq_true rfl) dX12_steps_48 (fun w102 H locs hp101 hw => ?_)
      obtain ⟨hT, k103, hg106⟩ := hp101
      have hRW := RW_FE k103 (fun _ => rfl) (fun _ => rfl) (fun _ => rfl) hRW
      have hF := hF.tr k103 (by decide)
      have c107 := k103.gi kM_at0 (by decide) c77
      have c108 := k103.gi kM_at12 (by decide) c66
      have c109 := k103.gi kM_at12 (by decide) c68
      obtain ⟨x104, c105, rx104, tx104⟩ := hg106
      refine lv_goto (tgt := 104) hx hb dX12_steps_51 (by decide) ?_
      exact J104 1 x48 x67 H locs ls w102 (show (-1) ≤ x48.toInt by first | with_reducible assumption | omega) (show x48.toInt ≤ 11 by first | with_reducible assumption | omega) (show (-1) ≤ x67.toInt by first | with_reducible assumption | omega) (show x67.toInt ≤ 5 by first | with_reducible assumption | omega)  hw hT hF hRW c107 c109 (lv_sub hl [2, 3, 1, 0] rfl)
    · exact (mAS_no hq69 hq98).elim
  · refine lv_istore_n (lv' := [(2, .int 2), (0, .ref (ad 0)), (1, .int 0)]) hx hb dX12_steps_10 rfl hl (by decide) rfl (fun ls hl => ?_)
    refine lv_sipush (v := 216) hx hb dX12_steps_11 (by decide) ?_
    refine lv_bipush (v := 9) hx hb dX12_steps_14 (by decide) ?_
    refine lv_iload_n hx hb dX12_steps_16 rfl (lv_at hl 2 rfl) ?_
    refine lv_imul hx hb dX12_steps_17 ?_
    refine wk_top 0 (by decide) ?_
    refine lv_iadd hx hb dX12_steps_18 ?_
    refine wk_top 216 (by decide) ?_
    refine lv_istore_n (lv' := [(3, .int 216), (2, .int 2), (0, .ref (ad 0)), (1, .int 0)]) hx hb dX12_steps_19 rfl hl (by decide) rfl (fun ls hl => ?_)
    refine lv_iload_n hx hb dX12_steps_20 rfl (lv_at hl 1 rfl) ?_
    refine lv_if_ne (tgt := 36) hx hb dX12_steps_21 (by decide) (fun _ => ?_) (fun c => absurd c (by decide))
    refine lv_iload_n hx hb dX12_steps_36 rfl (lv_at hl 1 rfl) ?_
    refine lv_iconst (v := 1) hx hb dX12_steps_37 (by decide) ?_
    refine lv_icmp_ne (tgt := 54) hx hb dX12_steps_38 (by decide) (fun _ => ?_) (fun c => absurd c (by decide))
    refine lv_iload_n hx hb dX12_steps_54 rfl (lv_at hl 1 rfl) ?_
    refine lv_iconst (v := 2) hx hb dX12_steps_55 (by decide) ?_
    refine lv_icmp_ne (tgt := 92) hx hb dX12_steps_56 (by decide) (fun c => absurd (by decide) c) (fun _ => ?_)
    refine lv_aload_n hx hb dX12_steps_59 rfl (lv_at hl 2 rfl) ?_
    refine tk_getA hC hK hw hT hinX12 kM_at0 (by decide) rfl 26 (by decide) (List.mem_cons_of_mem _ uw_7_1) rfl rfl dX12_steps_60 ?_
    refine lv_iload_n hx hb dX12_steps_63 rfl (lv_at hl 0 rfl) ?_
    refine lv_bipush (v := 8) hx hb dX12_steps_64 (by decide) ?_
    refine lv_iadd hx hb dX12_steps_66 ?_
    refine wk_top 224 (by decide) ?_
    refine lv_aload_n hx hb dX12_steps_67 rfl (lv_at hl 2 rfl) ?_
    refine tk_getA hC hK hw hT hinX12 kM_at0 (by decide) rfl 26 (by decide) (List.mem_cons_of_mem _ uw_7_1) rfl rfl dX12_steps_68 ?_
    refine lv_iload_n hx hb dX12_steps_71 rfl (lv_at hl 0 rfl) ?_
    refine lv_iconst (v := 4) hx hb dX12_steps_72 (by decide) ?_
    refine lv_iadd hx hb dX12_steps_73 ?_
    refine wk_top 220 (by decide) ?_
    refine tk_ialdR hC hK hw hT kM_at12 rfl (by decide) (by decide) dX12_steps_74 (fun x110 c111 Ex110 => ?_)
    have bx110 := (tk_rgB rfl 220 1 1 (by decide +kernel) ⟨0, by decide, by decide⟩).mp Ex110
    have c111 : gi w53 12 220 = x110 := c111
    refine lv_bipush (v := 24) hx hb dX12_steps_75 (by decide) ?_
    refine lv_idiv hx hb dX12_steps_77 (by decide) ?_
    refine lv_topi (fun x112 ex112 => ?_)
    have ex112 : x112.toInt = x110.toInt / (24 : Int) := by rw [ex112]; exact wk_div (show 0 ≤ x110.toInt by first | with_reducible assumption | omega) (show 0 < (24 : Int) by decide)
    refine tk_iastR hC hK hw hT kM_at12 (by decide) rfl (by decide) (by decide) (tk_rgS rfl 224 1 1 0 44739242 (by decide +kernel) ⟨0, by decide, by decide⟩ (show 0 ≤ x112.toInt by first | with_reducible assumption | omega) (show x112.toInt ≤ 44739242 by first | with_reducible assumption | omega)) dX12_steps_78 (fun H locs w113 hw hT k115 c114 => ?_)
    have hRW := RW_F1 k115 (by decide) (by decide) (by decide) hRW
    have hF := hF.put kM_at12 (inE_of (a := 224) (b := 224) (by decide) (by decide) (by decide)) k115
    have c116 := k115.gi (Or.inl (tk_ne kM_at0 kM_at12 (by decide))) c77
    have c117 := k115.gi (Or.inl (tk_ne kM_at0 kM_at12 (by decide))) c71
    have c118 := k115.gi (Or.inr (by decide)) c73
    have c119 := k115.gi (Or.inr (by decide)) c111
    have c114 : gi w113 12 224 = x112 := c114
    refine lv_aload_n hx hb dX12_steps_79 rfl (lv_at hl 2 rfl) ?_
    refine tk_getA hC hK hw hT hinX12 kM_at0 (by decide) rfl 26 (by decide) (List.mem_cons_of_mem _ uw_7_1) rfl rfl dX12_steps_80 ?_
    refine lv_iload_n hx hb dX12_steps_83 rfl (lv_at hl 0 rfl) ?_
    refine lv_bipush (v := 6) hx hb dX12_steps_84 (by decide) ?_
    refine lv_iadd hx hb dX12_steps_86 ?_
    refine wk_top 222 (by decide) ?_
    refine lv_dup2_11 hx hb dX12_steps_87 rfl rfl ?_
    refine tk_ialdR hC hK hw hT kM_at12 rfl (by decide) (by decide) dX12_steps_88 (fun x120 c121 Ex120 => ?_)
    have c121 : gi w113 12 222 = x120 := c121
    refine lv_iconst (v := 1) hx hb dX12_steps_89 (by decide) ?_
    refine lv_iadd hx hb dX12_steps_90 ?_
    have nx122 := wk_i32 x120
    refine lv_topi (fun x123 ex123 => ?_)
    refine tk_iastR hC hK hw hT kM_at12 (by decide) rfl (by decide) (by decide) (tk_rgS rfl 222 1 1 (-2147483648) 2147483647 (by decide +kernel) ⟨0, by decide, by decide⟩ (wk_i32 x123).1 (wk_i32 x123).2) dX12_steps_91 (fun H locs w124 hw hT k126 c125 => ?_)
    have hRW := RW_F1 k126 (by decide) (by decide) (by decide) hRW
    have hF := hF.put kM_at12 (inE_of (a := 222) (b := 222) (by decide) (by decide) (by decide)) k126
    have c127 := k126.gi (Or.inl (tk_ne kM_at0 kM_at12 (by decide))) c116
    have c128 := k126.gi (Or.inl (tk_ne kM_at0 kM_at12 (by decide))) c117
    have c129 := k126.gi (Or.inr (by decide)) c118
    have c130 := k126.gi (Or.inr (by decide)) c119
    have c131 := k126.gi (Or.inr (by decide)) c114
    have c125 : gi w124 12 222 = x123 := c125
    exact J92 2 x48 x72 H locs ls w124 (show (-1) ≤ x48.toInt by first | with_reducible assumption | omega) (show x48.toInt ≤ 11 by first | with_reducible assumption | omega) (show (-1) ≤ x72.toInt by first | with_reducible assumption | omega) (show x72.toInt ≤ 5 by first | with_reducible assumption | omega)  hw hT hF hRW c127 c129 (lv_sub hl [2, 3, 1, 0] rfl)
  · refine lv_istore_n (lv' := [(2, .int 3), (0, .ref (ad 0)), (1, .int 0)]) hx hb dX12_steps_10 rfl hl (by decide) rfl (fun ls hl => ?_)
    refine lv_sipush (v := 216) hx hb dX12_steps_11 (by decide) ?_
    refine lv_bipush (v := 9) hx hb dX12_steps_14 (by decide) ?_
    refine lv_iload_n hx hb dX12_steps_16 rfl (lv_at hl 2 rfl) ?_
    refine lv_imul hx hb dX12_steps_17 ?_
    refine wk_top 0 (by decide) ?_
    refine lv_iadd hx hb dX12_steps_18 ?_
    refine wk_top 216 (by decide) ?_
    refine lv_istore_n (lv' := [(3, .int 216), (2, .int 3), (0, .ref (ad 0)), (1, .int 0)]) hx hb dX12_steps_19 rfl hl (by decide) rfl (fun ls hl => ?_)
    refine lv_iload_n hx hb dX12_steps_20 rfl (lv_at hl 1 rfl) ?_
    refine lv_if_ne (tgt := 36) hx hb dX12_steps_21 (by decide) (fun _ => ?_) (fun c => absurd c (by decide))
    refine lv_iload_n hx hb dX12_steps_36 rfl (lv_at hl 1 rfl) ?_
    refine lv_iconst (v := 1) hx hb dX12_steps_37 (by decide) ?_
    refine lv_icmp_ne (tgt := 54) hx hb dX12_steps_38 (by decide) (fun _ => ?_) (fun c => absurd c (by decide))
    refine lv_iload_n hx hb dX12_steps_54 rfl (lv_at hl 1 rfl) ?_
    refine lv_iconst (v := 2) hx hb dX12_steps_55 (by decide) ?_
    refine lv_icmp_ne (tgt := 92) hx hb dX12_steps_56 (by decide) (fun _ => ?_) (fun c => absurd c (by decide))
    exact J92 3 x48 x74 H locs ls w53 (show (-1) ≤ x48.toInt by first | with_reducible assumption | omega) (show x48.toInt ≤ 11 by first | with_reducible assumption | omega) (show (-1) ≤ x74.toInt by first | with_reducible assumption | omega) (show x74.toInt ≤ 5 by first | with_reducible assumption | omega)  hw hT hF hRW c77 c75 (lv_sub hl [2, 3, 1, 0] rfl)
abbrev P_X12_strangers_1 (ad : Nat → Nat) (cy : Nat → ClassId) (B : Int) (qr : Nat) (s1 : Int) (a1 : Int32) (a2 : Int32) (a3 : Int32) (a4 : Int32) (w0 : va_W) : Int32 → va_W → Prop := fun r u => TW ksM ad cy (B + 54000) qr 12 u ∧ FE ksM [(12, 24, 24), (12, 31, 31), (12, 39, 39), (69, 0, 64), (70, 0, 10), (71, 0, 295), (71, 216, 216), (71, 217, 217), (71, 218, 218), (71, 219, 219), (71, 220, 220), (71, 221, 221), (71, 222, 222), (71, 223, 223), (71, 224, 224), (72, 0, 12), (73, 0, 10), (74, 0, 296)] w0 u ∧ (((-1) ≤ a1.toInt ∧ a1.toInt ≤ 5 ∧ 1 ≤ a2.toInt ∧ a2.toInt ≤ 30 ∧ 1 ≤ a3.toInt ∧ a3.toInt ≤ 200 ∧ 0 ≤ a4.toInt ∧ a4.toInt ≤ 1 ∧ (∃ y : Int32, gi u 12 0 = y ∧ 1 ≤ y.toInt ∧ y.toInt ≤ 10) ∧ (∃ y : Int32, gi u 12 4 = y ∧ 1 ≤ y.toInt ∧ y.toInt ≤ 4) ∧ (SA w0 u)) ∨ (r = (-1) ∧ (SA w0 u)))
set_option maxHeartbeats 4000000 in
set_option maxRecDepth 100000 in
theorem k_X12_strangers_1 (l : Launch) (adK adV : Nat → Nat) (dC : Nat → ClassId) (dI : Nat → Nat → Nat) (cy : Nat → ClassId) (ad : Nat → Nat) (B : Int) (hB0 : 100000 ≤ B) (hB1 : B ≤ 1073687824) (qr : Nat) (s1 : Int)  (a1 : Int32) (a2 : Int32) (a3 : Int32) (a4 : Int32) (w0 : va_W) (sz : Nat) (hT : TW ksM ad cy B qr 12 w0) (hRW : RW w0) : Met l yX12_strangers (wu yX12_strangers cX12_strangers 12 (some .int)) ({ frames := 9, cells := 0, slots := 0, locals := 194 }) (va_Pc [.ref (ad 0), .int a1, .int a2, .int a3, .int a4] (wpreS adK adV dC dI cy sz w0)) (va_Qi (P_X12_strangers_1 ad cy B qr s1 a1 a2 a3 a4 w0) (fun u : va_W => wpost dC dI cy (va_A w0 sz) u) (va_A w0 sz)) 0 0 (va_A w0 sz) := by
  refine Met.ofW (cc := cX12_strangers) (maxL := 12) (ret := (some .int)) (by decide) rfl ?_
  intro p e s m args below meth c s₁ Bk hml hv
  obtain ⟨rfl, ⟨hsz, hP, hK, hD0⟩, hE, hSR⟩ := hv
  have hx := Bk.exec
  have hb := Bk.bytes
  have hr := Bk.returns
  have hlocks := Bk.notSynchronized
  have hC : CallFix p m c cX12_strangers 12 s _ (wu yX12_strangers cX12_strangers 12 (some .int)) RX12 := ⟨hx, hb, hml, findClass_of_methodNamed Bk.named, atoms_spec (ws := (wu yX12_strangers cX12_strangers 12 (some .int))) Bk.pre⟩
  subst hsz
  have hD := hD0.self (sz := s.heap.size)
  generalize hAe : va_A w0 s.heap.size = A at hD hE ⊢
  have hA : ∀ q : Nat, s.heap.size ≤ q → A q := fun q h => by rw [← hAe]; exact Or.inr h
  have hw : Wd dC dI A s.heap s.heap [] w0 := ⟨hP, hD, va_S.rf⟩
  have hF : FE ksM [(12, 24, 24), (12, 31, 31), (12, 39, 39), (69, 0, 64), (70, 0, 10), (71, 0, 295), (71, 216, 216), (71, 217, 217), (71, 218, 218), (71, 219, 219), (71, 220, 220), (71, 221, 221), (71, 222, 222), (71, 223, 223), (71, 224, 224), (72, 0, 12), (73, 0, 10), (74, 0, 296)] w0 w0 := FE.rf
  have hSA : SA w0 w0 := fun _ _ => rfl
  have hl := lv_entry ([.ref (ad 0), .int a1, .int a2, .int a3, .int a4]) (n := 12) (Nat.le_of_ble_eq_true rfl)
  rw [lg_entry_eq]
  generalize (lg_sl ([.ref (ad 0), .int a1, .int a2, .int a3, .int a4]) ++ List.replicate (12 - (lg_sl ([.ref (ad 0), .int a1, .int a2, .int a3, .int a4])).length) Slot.unset).toArray = ls at hl ⊢
  have hl : lv_has ls 12 [(0, .ref (ad 0)), (1, .int a1), (2, .int a2), (3, .int a3), (4, .int a4)] := hl
  generalize hloc : ([] : List Loc) = locs at hw ⊢
  have hinX12 : ∀ w ∈ u_ws RX12 TX12 42, w ∈ (wu yX12_strangers cX12_strangers 12 (some .int)) := fun _ h => List.mem_cons_of_mem _ (up_71 h)
  have J64 : ∀ (f64_12_0 : Int32) (H : Heap) (locs : List Loc) (ls : Array Slot) (w1 : va_W), 0 ≤ f64_12_0.toInt → f64_12_0.toInt ≤ 10 → Wd dC dI A s.heap H locs w1 → TW ksM ad cy B qr 12 w1 → FE ksM [(12, 24, 24), (12, 31, 31), (12, 39, 39), (69, 0, 64), (70, 0, 10), (71, 0, 295), (71, 216, 216), (71, 217, 217), (71, 218, 218), (71, 219, 219), (71, 220, 220), (71, 221, 221), (71, 222, 222), (71, 223, 223), (71, 224, 224), (72, 0, 12), (73, 0, 10), (74, 0, 296)] w0 w1 → RW w1 → SA w0 w1 → gi w1 12 0 = f64_12_0 → lv_has ls 12 [(0, .ref (ad 0)), (1, .int a1), (2, .int a2), (3, .int a3), (4, .int a4)] → W p l e ({ frames := 9, cells := 0, slots := 0, locals := 194 }) s m (List.toArray [.ref (ad 0), .int a1, .int a2, .int a3, .int a4]) below meth c H locs 0 0 (MQ below (va_Qi (P_X12_strangers_1 ad cy B qr s1 a1 a2 a3 a4 w0) (fun u : va_W => wpost dC dI cy A u) A) (List.toArray [.ref (ad 0), .int a1, .int a2, .int a3, .int a4]) s 0 0 A) (F0 m 64 ls []) := by
    intro f64_12_0 H locs ls w1 r2 t3 hw hT hF hRW hSA c4 hl
    refine lv_iconst (v := (-1)) hx hb dX12_strangers_64 (by decide) ?_
    exact tk_iret hC hr hlocks hK ⟨(hT.up (show B ≤ (B + 54000) by omega)), hF, (Or.inr ⟨rfl, (by exact hSA)⟩)⟩ hw dX12_strangers_65
  have L88 : ∀ (n88 : Nat) (v88_5 : Int32) (v88_6 : Int32) (f88_12_0 : Int32) (f88_12_4 : Int32) (f88_12_9 : Int32) (f88_15_0 : Int32) (f88_15_4 : Int32) (f88_15_9 : Int32) (H : Heap) (locs : List Loc) (ls : Array Slot) (w5 : va_W), (-1) ≤ a1.toInt → a1.toInt ≤ 5 → 1 ≤ a2.toInt → a2.toInt ≤ 30 → 1 ≤ a3.toInt → a3.toInt ≤ 200 → 0 ≤ a4.toInt → a4.toInt ≤ 1 → 0 ≤ v88_6.toInt → v88_6.toInt ≤ 30 → 1 ≤ f88_12_0.toInt → f88_12_0.toInt ≤ 10 → 1 ≤ f88_12_4.toInt → f88_12_4.toInt ≤ 4 → 0 ≤ f88_12_9.toInt → 1 ≤ f88_15_0.toInt → f88_15_0.toInt ≤ 10 → 1 ≤ f88_15_4.toInt → f88_15_4.toInt ≤ 4 → 0 ≤ f88_15_9.toInt → (30 - v88_6.toInt).toNat < n88 → Wd dC dI A s.heap H locs w5 → TW ksM ad cy (B + 0 + 1800 * v88_6.toInt) qr 12 w5 → FE ksM [(12, 24, 24), (12, 31, 31), (12, 39, 39), (69, 0, 64), (70, 0, 10), (71, 0, 295), (71, 216, 216), (71, 217, 217), (71, 218, 218), (71, 219, 219), (71, 220, 220), (71, 221, 221), (71, 222, 222), (71, 223, 223), (71, 224, 224), (72, 0, 12), (73, 0, 10), (74, 0, 296)] w0 w5 → RW w5 → SA w0 w5 → KBk w0 w5 → gi w5 12 0 = f88_12_0 → gi w5 12 4 = f88_12_4 → gi w5 12 9 = f88_12_9 → gi w5 15 0 = f88_15_0 → gi w5 15 4 = f88_15_4 → gi w5 15 9 = f88_15_9 → lv_has ls 12 [(0, .ref (ad 0)), (1, .int a1), (2, .int a2), (3, .int a3), (4, .int a4), (5, .int v88_5), (6, .int v88_6)] → W p l e ({ frames := 9, cells := 0, slots := 0, locals := 194 }) s m (List.toArray [.ref (ad 0), .int a1, .int a2, .int a3, .int a4]) below meth c H locs 0 0 (MQ below (va_Qi (P_X12_strangers_1 ad cy B qr s1 a1 a2 a3 a4 w0) (fun u : va_W => wpost dC dI cy A u) A) (List.toArray [.ref (ad 0), .int a1, .int a2, .int a3, .int a4]) s 0 0 A) (F0 m 88 ls []) := by
    intro n88
    induction n88 with
    | zero => intro v88_5 v88_6 f88_12_0 f88_12_4 f88_12_9 f88_15_0 f88_15_4 f88_15_9 H locs ls w5 r6 t7 r8 t9 r10 t11 r12 t13 r14 t15 r16 t17 r19 t20 r22 r24 t25 r27 t28 r30 hm88 hw hT hF hRW hSA hKB c18 c21 c23 c26 c29 c31 hl; omega
    | succ n88 ih88 =>
      intro v88_5 v88_6 f88_12_0 f88_12_4 f88_12_9 f88_15_0 f88_15_4 f88_15_9 H locs ls w5 r6 t7 r8 t9 r10 t11 r12 t13 r14 t15 r16 t17 r19 t20 r22 r24 t25 r27 t28 r30 hm88 hw hT hF hRW hSA hKB c18 c21 c23 c26 c29 c31 hl
      have J213 : ∀ (v213_5 : Int32) (v213_7 : Int32) (v213_8 : Int32) (v213_9 : Int32) (v213_10 : Int32) (v213_11 : Int32) (H : Heap) (locs : List Loc) (ls : Array Slot) (w32 : va_W), (-1) ≤ a1.toInt → a1.toInt ≤ 5 → 1 ≤ a2.toInt → a2.toInt ≤ 30 → 1 ≤ a3.toInt → a3.toInt ≤ 200 → 0 ≤ a4.toInt → a4.toInt ≤ 1 → 0 ≤ v88_6.toInt → v88_6.toInt ≤ 29 → 0 ≤ v213_7.toInt → v213_7.toInt ≤ 9 → 0 ≤ v213_8.toInt → v213_8.toInt ≤ 9 → 0 ≤ v213_9.toInt → v213_9.toInt ≤ 3 → 0 ≤ v213_10.toInt → v213_10.toInt ≤ 167 → 0 ≤ v213_11.toInt → v213_11.toInt ≤ 200 → 1 ≤ f88_12_0.toInt → f88_12_0.toInt ≤ 10 → 1 ≤ f88_12_4.toInt → f88_12_4.toInt ≤ 4 → 0 ≤ f88_12_9.toInt → 1 ≤ f88_15_0.toInt → f88_15_0.toInt ≤ 10 → 1 ≤ f88_15_4.toInt → f88_15_4.toInt ≤ 4 → 0 ≤ f88_15_9.toInt → Wd dC dI A s.heap H locs w32 → TW ksM ad cy (B + 1800 + 1800 * v88_6.toInt) qr 12 w32 → FE ksM [(12, 24, 24), (12, 31, 31), (12, 39, 39), (69, 0, 64), (70, 0, 10), (71, 0, 295), (71, 216, 216), (71, 217, 217), (71, 218, 218), (71, 219, 219), (71, 220, 220), (71, 221, 221), (71, 222, 222), (71, 223, 223), (71, 224, 224), (72, 0, 12), (73, 0, 10), (74, 0, 296)] w0 w32 → RW w32 → KBk w0 w32 → gi w32 12 0 = f88_12_0 → gi w32 12 4 = f88_12_4 → gi w32 12 9 = f88_12_9 → gi w32 15 0 = f88_15_0 → gi w32 15 4 = f88_15_4 → gi w32 15 9 = f88_15_9 → lv_has ls 12 [(0, .ref (ad 0)), (1, .int a1), (2, .int a2), (3, .int a3), (4, .int a4), (5, .int v213_5), (6, .int v88_6), (7, .int v213_7), (8, .int v213_8), (9, .int v213_9), (10, .int v213_10), (11, .int v213_11)] → W p l e ({ frames := 9, cells := 0, slots := 0, locals := 194 }) s m (List.toArray [.ref (ad 0), .int a1, .int a2, .int a3, .int a4]) below meth c H locs 0 0 (MQ below (va_Qi (P_X12_strangers_1 ad cy B qr s1 a1 a2 a3 a4 w0) (fun u : va_W => wpost dC dI cy A u) A) (List.toArray [.ref (ad 0), .int a1, .int a2, .int a3, .int a4]) s 0 0 A) (F0 m 213 ls []) := by
        intro v213_5 v213_7 v213_8 v213_9 v213_10 v213_11 H locs ls w32 r33 t34 r35 t36 r37 t38 r39 t40 r41 t42 r43 t44 r45 t46 r47 t48 r49 t50 r51 t52 r53 t54 r56 t57 r59 r61 t62 r64 t65 r67 hw hT hF hRW hKB c55 c58 c60 c63 c66 c68 hl
        refine lv_aload_n hx hb dX12_strangers_213 rfl (lv_at hl 0 rfl) ?_
        refine tk_Vv hC hK hw hT hA hE hSR kM_at0 (by decide) rfl (k_X12_putsBack_1 l adK adV dC dI cy ad (B + 1800 + 1800 * v88_6.toInt) (by omega) (by omega) qr s1    w32 H.size hT ) (cwV 0 hC.2.2.2.2 uV_RX12_429 rfl rfl rfl (by decide +kernel) ⟨Nat.le_of_ble_eq_true rfl, Nat.le_of_ble_eq_true rfl⟩) rfl hl.1 rfl (Nat.le_of_ble_eq_true rfl) dX12_strangers_214 (fun w71 H locs hp70 hw => ?_)
        obtain ⟨hT, k72, hg77⟩ := hp70
        have hKB := KB_FE k72 (fun _ => rfl) hKB
        have hRW := RW_FE k72 (fun _ => rfl) (fun _ => rfl) (fun _ => rfl) hRW
        have hF := hF.tr k72 (by decide)
        have c78 := k72.gi kM_at15 (by decide) c63
        have c79 := k72.gi kM_at15 (by decide) c66
        have c80 := k72.gi kM_at15 (by decide) c68
        obtain ⟨c73, c74, c75, hq76⟩ := hg77
        have hSA : SA w0 w71 := fun j hj => (hq76 j hj).trans ((k72.gi kM_at15 rfl rfl).symm.trans (hKB j hj))
        obtain ⟨x81, ex81⟩ : ∃ y : Int32, y = v88_6 + Int32.ofInt 1 := ⟨_, rfl⟩
        refine lv_iinc (v := x81) (lv' := [(6, .int x81), (0, .ref (ad 0)), (1, .int a1), (2, .int a2), (3, .int a3), (4, .int a4), (5, .int v213_5), (7, .int v213_7), (8, .int v213_8), (9, .int v213_9), (10, .int v213_10), (11, .int v213_11)]) hx hb dX12_strangers_217 hl (k := 6) rfl ex81.symm (by decide) rfl (fun ls hl => ?_)
        have ex81 : x81.toInt = v88_6.toInt + 1 := by rw [ex81]; exact wk_add (y := 1) (show -2147483648 ≤ v88_6.toInt + 1 by omega) (show v88_6.toInt + 1 ≤ 2147483647 by omega)
        refine lv_goto (tgt := 88) hx hb dX12_strangers_220 (by decide) ?_
        exact ih88 v213_5 x81 f88_15_0 f88_15_4 f88_15_9 f88_15_0 f88_15_4 f88_15_9 H locs ls w71 (show (-1) ≤ a1.toInt from r33) (show a1.toInt ≤ 5 from t34) (show 1 ≤ a2.toInt from r35) (show a2.toInt ≤ 30 from t36) (show 1 ≤ a3.toInt from r37) (show a3.toInt ≤ 200 from t38) (show 0 ≤ a4.toInt from r39) (show a4.toInt ≤ 1 from t40) (show 0 ≤ x81.toInt by first | with_reducible assumption | omega) (show x81.toInt ≤ 30 by first | with_reducible assumption | omega) (show 1 ≤ f88_15_0.toInt from r61) (show f88_15_0.toInt ≤ 10 from t62) (show 1 ≤ f88_15_4.toInt from r64) (show f88_15_4.toInt ≤ 4 from t65) (show 0 ≤ f88_15_9.toInt from r67) (show 1 ≤ f88_15_0.toInt from r61) (show f88_15_0.toInt ≤ 10 from t62) (show 1 ≤ f88_15_4.toInt from r64) (show f88_15_4.toInt ≤ 4 from t65) (show 0 ≤ f88_15_9.toInt from r67) (show (30 - x81.toInt).toNat < n88 by first | exact tn_lt hm88 (by omega) (by omega) | omega) hw (hT.up (show (B + 1800 + 1800 * v88_6.toInt) ≤ (B + 0 + 1800 * x81.toInt) by omega)) hF hRW hSA hKB (c73.trans c63) (c74.trans c66) (c75.trans c68) c78 c79 c80 (lv_sub hl [1, 2, 3, 4, 5, 6, 0] rfl)
      have J182 : ∀ (v182_7 : Int32) (v182_8 : Int32) (v182_9 : Int32) (v182_10 : Int32) (v182_11 : Int32) (H : Heap) (locs : List Loc) (ls : Array Slot) (w82 : va_W), (-1) ≤ a1.toInt → a1.toInt ≤ 5 → 1 ≤ a2.toInt → a2.toInt ≤ 30 → 1 ≤ a3.toInt → a3.toInt ≤ 200 → 0 ≤ a4.toInt → a4.toInt ≤ 1 → 0 ≤ v88_6.toInt → v88_6.toInt ≤ 29 → 0 ≤ v182_7.toInt → v182_7.toInt ≤ 9 → 0 ≤ v182_8.toInt → v182_8.toInt ≤ 9 → 0 ≤ v182_9.toInt → v182_9.toInt ≤ 3 → 0 ≤ v182_10.toInt → v182_10.toInt ≤ 167 → 0 ≤ v182_11.toInt → v182_11.toInt ≤ 200 → 1 ≤ f88_12_0.toInt → f88_12_0.toInt ≤ 10 → 1 ≤ f88_12_4.toInt → f88_12_4.toInt ≤ 4 → 0 ≤ f88_12_9.toInt → 1 ≤ f88_15_0.toInt → f88_15_0.toInt ≤ 10 → 1 ≤ f88_15_4.toInt → f88_15_4.toInt ≤ 4 → 0 ≤ f88_15_9.toInt → Wd dC dI A s.heap H locs w82 → TW ksM ad cy (B + 1800 + 1800 * v88_6.toInt) qr 12 w82 → FE ksM [(12, 24, 24), (12, 31, 31), (12, 39, 39), (69, 0, 64), (70, 0, 10), (71, 0, 295), (71, 216, 216), (71, 217, 217), (71, 218, 218), (71, 219, 219), (71, 220, 220), (71, 221, 221), (71, 222, 222), (71, 223, 223), (71, 224, 224), (72, 0, 12), (73, 0, 10), (74, 0, 296)] w0 w82 → RW w82 → KBk w0 w82 → gi w82 12 0 = f88_12_0 → gi w82 12 4 = f88_12_4 → gi w82 12 9 = f88_12_9 → gi w82 15 0 = f88_15_0 → gi w82 15 4 = f88_15_4 → gi w82 15 9 = f88_15_9 → lv_has ls 12 [(0, .ref (ad 0)), (1, .int a1), (2, .int a2), (3, .int a3), (4, .int a4), (5, .int v88_5), (6, .int v88_6), (7, .int v182_7), (8, .int v182_8), (9, .int v182_9), (10, .int v182_10), (11, .int v182_11)] → W p l e ({ frames := 9, cells := 0, slots := 0, locals := 194 }) s m (List.toArray [.ref (ad 0), .int a1, .int a2, .int a3, .int a4]) below meth c H locs 0 0 (MQ below (va_Qi (P_X12_strangers_1 ad cy B qr s1 a1 a2 a3 a4 w0) (fun u : va_W => wpost dC dI cy A u) A) (List.toArray [.ref (ad 0), .int a1, .int a2, .int a3, .int a4]) s 0 0 A) (F0 m 182 ls []) := by
        intro v182_7 v182_8 v182_9 v182_10 v182_11 H locs ls w82 r83 t84 r85 t86 r87 t88 r89 t90 r91 t92 r93 t94 r95 t96 r97 t98 r99 t100 r101 t102 r103 t104 r106 t107 r109 r111 t112 r114 t115 r117 hw hT hF hRW hKB c105 c108 c110 c113 c116 c118 hl
        refine lv_aload_n hx hb dX12_strangers_182 rfl (lv_at hl 0 rfl) ?_
        refine lv_iconst (v := 0) hx hb dX12_strangers_183 (by decide) ?_
        refine tk_Vi hC hK hw hT hA hE hSR kM_at0 (by decide) rfl (k_X12_isThere_2 l adK adV dC dI cy ad (B + 1800 + 1800 * v88_6.toInt) (by omega) (by omega) qr s1    w82 H.size hT ) (cwV 1 hC.2.2.2.2 uV_RX12_416 rfl rfl rfl (by decide +kernel) ⟨Nat.le_of_ble_eq_true rfl, Nat.le_of_ble_eq_true rfl⟩) rfl hl.1 rfl (Nat.le_of_ble_eq_true rfl) dX12_strangers_184 (fun r119 w121 H locs hp120 hw => ?_)
        obtain ⟨rfl, hg123⟩ := hp120
        rcases hg123 with rfl | rfl
        · refine lv_if_eq (tgt := 213) hx hb dX12_strangers_187 (by decide) (fun _ => ?_) (fun c => absurd (by decide) c)
          exact J213 v88_5 v182_7 v182_8 v182_9 v182_10 v182_11 H locs ls w82 (show (-1) ≤ a1.toInt from r83) (show a1.toInt ≤ 5 from t84) (show 1 ≤ a2.toInt from r85) (show a2.toInt ≤ 30 from t86) (show 1 ≤ a3.toInt from r87) (show a3.toInt ≤ 200 from t88) (show 0 ≤ a4.toInt from r89) (show a4.toInt ≤ 1 from t90) (show 0 ≤ v88_6.toInt from r91) (show v88_6.toInt ≤ 29 from t92) (show 0 ≤ v182_7.toInt from r93) (show v182_7.toInt ≤ 9 from t94) (show 0 ≤ v182_8.toInt from r95) (show v182_8.toInt ≤ 9 from t96) (show 0 ≤ v182_9.toInt from r97) (show v182_9.toInt ≤ 3 from t98) (show 0 ≤ v182_10.toInt from r99) (show v182_10.toInt ≤ 167 from t100) (show 0 ≤ v182_11.toInt from r101) (show v182_11.toInt ≤ 200 from t102) (show 1 ≤ f88_12_0.toInt from r103) (show f88_12_0.toInt ≤ 10 from t104) (show 1 ≤ f88_12_4.toInt from r106) (show f88_12_4.toInt ≤ 4 from t107) (show 0 ≤ f88_12_9.toInt from r109) (show 1 ≤ f88_15_0.toInt from r111) (show f88_15_0.toInt ≤ 10 from t112) (show 1 ≤ f88_15_4.toInt from r114) (show f88_15_4.toInt ≤ 4 from t115) (show 0 ≤ f88_15_9.toInt from r117)  hw hT hF hRW hKB c105 c108 c110 c113 c116 c118 (lv_sub hl [0, 1, 2, 3, 4, 5, 6, 7, 8, 9, 10, 11] rfl)
        · refine lv_if_eq (tgt := 213) hx hb dX12_strangers_187 (by decide) (fun c => absurd c (by decide)) (fun _ => ?_)
          refine lv_iload hx hb dX12_strangers_190 (lv_at hl 5 rfl) ?_
          refine lv_iload hx hb dX12_strangers_192 (lv_at hl 4 rfl) ?_
          refine lv_if_ne (tgt := 201) hx hb dX12_strangers_194 (by decide) (fun c124 => ?_) (fun c124 => ?_)
          · have c124 : ¬ a4.toInt = (0 : Int) := wk_eqF c124
            refine lv_aload_n hx hb dX12_strangers_201 rfl (lv_at hl 0 rfl) ?_
            refine lv_iconst (v := 0) hx hb dX12_strangers_202 (by decide) ?_
            refine lv_iconst (v := 4) hx hb dX12_strangers_203 (by decide) ?_
            refine tk_Vi hC hK hw hT hA hE hSR kM_at0 (by decide) rfl (k_X12_walkerOf_13 l adK adV dC dI cy ad (B + 1800 + 1800 * v88_6.toInt) (by omega) (by omega) qr s1    w82 H.size hT ) (cwV 2 hC.2.2.2.2 uV_RX12_372 rfl rfl rfl (by decide +kernel) ⟨Nat.le_of_ble_eq_true rfl, Nat.le_of_ble_eq_true rfl⟩) rfl hl.1 rfl (Nat.le_of_ble_eq_true rfl) dX12_strangers_204 (fun r125 w127 H locs hp126 hw => ?_)
            obtain ⟨rfl, hg132⟩ := hp126
            obtain ⟨g129, g130, c131⟩ := hg132
            refine lv_iload hx hb dX12_strangers_207 (lv_at hl 10 rfl) ?_
            refine lv_isub hx hb dX12_strangers_209 ?_
            refine lv_topi (fun x133 ex133 => ?_)
            have ex133 : x133.toInt = r125.toInt - v182_10.toInt := by rw [ex133]; exact wk_sub (show (-2147483648) ≤ r125.toInt - v182_10.toInt by omega) (show r125.toInt - v182_10.toInt ≤ 2147483647 by omega)
            refine lv_iadd hx hb dX12_strangers_210 ?_
            have nx134 := wk_i32 v88_5
            refine lv_topi (fun x135 ex135 => ?_)
            refine lv_istore (lv' := [(5, .int x135), (0, .ref (ad 0)), (1, .int a1), (2, .int a2), (3, .int a3), (4, .int a4), (6, .int v88_6), (7, .int v182_7), (8, .int v182_8), (9, .int v182_9), (10, .int v182_10), (11, .int v182_11)]) hx hb dX12_strangers_211 hl (by decide) rfl (fun ls hl => ?_)
            exact J213 x135 v182_7 v182_8 v182_9 v182_10 v182_11 H locs ls w82 (show (-1) ≤ a1.toInt from r83) (show a1.toInt ≤ 5 from t84) (show 1 ≤ a2.toInt from r85) (show a2.toInt ≤ 30 from t86) (show 1 ≤ a3.toInt from r87) (show a3.toInt ≤ 200 from t88) (show 0 ≤ a4.toInt from r89) (show a4.toInt ≤ 1 from t90) (show 0 ≤ v88_6.toInt from r91) (show v88_6.toInt ≤ 29 from t92) (show 0 ≤ v182_7.toInt from r93) (show v182_7.toInt ≤ 9 from t94) (show 0 ≤ v182_8.toInt from r95) (show v182_8.toInt ≤ 9 from t96) (show 0 ≤ v182_9.toInt from r97) (show v182_9.toInt ≤ 3 from t98) (show 0 ≤ v182_10.toInt from r99) (show v182_10.toInt ≤ 167 from t100) (show 0 ≤ v182_11.toInt from r101) (show v182_11.toInt ≤ 200 from t102) (show 1 ≤ f88_12_0.toInt from r103) (show f88_12_0.toInt ≤ 10 from t104) (show 1 ≤ f88_12_4.toInt from r106) (show f88_12_4.toInt ≤ 4 from t107) (show 0 ≤ f88_12_9.toInt from r109) (show 1 ≤ f88_15_0.toInt from r111) (show f88_15_0.toInt ≤ 10 from t112) (show 1 ≤ f88_15_4.toInt from r114) (show f88_15_4.toInt ≤ 4 from t115) (show 0 ≤ f88_15_9.toInt from r117)  hw hT hF hRW hKB c105 c108 c110 c113 c116 c118 (lv_sub hl [1, 2, 3, 4, 5, 0, 6, 7, 8, 9, 10, 11] rfl)
          · have c124 : a4.toInt = (0 : Int) := wk_eq.mp c124
            refine lv_iconst (v := 1) hx hb dX12_strangers_197 (by decide) ?_
            refine lv_goto (tgt := 210) hx hb dX12_strangers_198 (by decide) ?_
            refine lv_iadd hx hb dX12_strangers_210 ?_
            have nx136 := wk_i32 v88_5
            refine lv_topi (fun x137 ex137 => ?_)
            refine lv_istore (lv' := [(5, .int x137), (0, .ref (ad 0)), (1, .int a1), (2, .int a2), (3, .int a3), (4, .int a4), (6, .int v88_6), (7, .int v182_7), (8, .int v182_8), (9, .int v182_9), (10, .int v182_10), (11, .int v182_11)]) hx hb dX12_strangers_211 hl (by decide) rfl (fun ls hl => ?_)
            exact J213 x137 v182_7 v182_8 v182_9 v182_10 v182_11 H locs ls w82 (show (-1) ≤ a1.toInt from r83) (show a1.toInt ≤ 5 from t84) (show 1 ≤ a2.toInt from r85) (show a2.toInt ≤ 30 from t86) (show 1 ≤ a3.toInt from r87) (show a3.toInt ≤ 200 from t88) (show 0 ≤ a4.toInt from r89) (show a4.toInt ≤ 1 from t90) (show 0 ≤ v88_6.toInt from r91) (show v88_6.toInt ≤ 29 from t92) (show 0 ≤ v182_7.toInt from r93) (show v182_7.toInt ≤ 9 from t94) (show 0 ≤ v182_8.toInt from r95) (show v182_8.toInt ≤ 9 from t96) (show 0 ≤ v182_9.toInt from r97) (show v182_9.toInt ≤ 3 from t98) (show 0 ≤ v182_10.toInt from r99) (show v182_10.toInt ≤ 167 from t100) (show 0 ≤ v182_11.toInt from r101) (show v182_11.toInt ≤ 200 from t102) (show 1 ≤ f88_12_0.toInt from r103) (show f88_12_0.toInt ≤ 10 from t104) (show 1 ≤ f88_12_4.toInt from r106) (show f88_12_4.toInt ≤ 4 from t107) (show 0 ≤ f88_12_9.toInt from r109) (show 1 ≤ f88_15_0.toInt from r111) (show f88_15_0.toInt ≤ 10 from t112) (show 1 ≤ f88_15_4.toInt from r114) (show f88_15_4.toInt ≤ 4 from t115) (show 0 ≤ f88_15_9.toInt from r117)  hw hT hF hRW hKB c105 c108 c110 c113 c116 c118 (lv_sub hl [1, 2, 3, 4, 5, 0, 6, 7, 8, 9, 10, 11] rfl)
      have L156 : ∀ (n156 : Nat) (v156_7 : Int32) (v156_8 : Int32) (v156_9 : Int32) (v156_10 : Int32) (v156_11 : Int32) (H : Heap) (locs : List Loc) (ls : Array Slot) (w138 : va_W), (-1) ≤ a1.toInt → a1.toInt ≤ 5 → 1 ≤ a2.toInt → a2.toInt ≤ 30 → 1 ≤ a3.toInt → a3.toInt ≤ 200 → 0 ≤ a4.toInt → a4.toInt ≤ 1 → 0 ≤ v88_6.toInt → v88_6.toInt ≤ 29 → 0 ≤ v156_7.toInt → v156_7.toInt ≤ 9 → 0 ≤ v156_8.toInt → v156_8.toInt ≤ 9 → 0 ≤ v156_9.toInt → v156_9.toInt ≤ 3 → 0 ≤ v156_10.toInt → v156_10.toInt ≤ 167 → 0 ≤ v156_11.toInt → v156_11.toInt ≤ 200 → 1 ≤ f88_12_0.toInt → f88_12_0.toInt ≤ 10 → 1 ≤ f88_12_4.toInt → f88_12_4.toInt ≤ 4 → 0 ≤ f88_12_9.toInt → 1 ≤ f88_15_0.toInt → f88_15_0.toInt ≤ 10 → 1 ≤ f88_15_4.toInt → f88_15_4.toInt ≤ 4 → 0 ≤ f88_15_9.toInt → (200 - v156_11.toInt).toNat < n156 → Wd dC dI A s.heap H locs w138 → TW ksM ad cy (B + 0 + 1800 * v88_6.toInt + 9 * v156_11.toInt) qr 12 w138 → FE ksM [(12, 24, 24), (12, 31, 31), (12, 39, 39), (69, 0, 64), (70, 0, 10), (71, 0, 295), (71, 216, 216), (71, 217, 217), (71, 218, 218), (71, 219, 219), (71, 220, 220), (71, 221, 221), (71, 222, 222), (71, 223, 223), (71, 224, 224), (72, 0, 12), (73, 0, 10), (74, 0, 296)] w0 w138 → RW w138 → KBk w0 w138 → gi w138 12 0 = f88_12_0 → gi w138 12 4 = f88_12_4 → gi w138 12 9 = f88_12_9 → gi w138 15 0 = f88_15_0 → gi w138 15 4 = f88_15_4 → gi w138 15 9 = f88_15_9 → lv_has ls 12 [(0, .ref (ad 0)), (1, .int a1), (2, .int a2), (3, .int a3), (4, .int a4), (5, .int v88_5), (6, .int v88_6), (7, .int v156_7), (8, .int v156_8), (9, .int v156_9), (10, .int v156_10), (11, .int v156_11)] → W p l e ({ frames := 9, cells := 0, slots := 0, locals := 194 }) s m (List.toArray [.ref (ad 0), .int a1, .int a2, .int a3, .int a4]) below meth c H locs 0 0 (MQ below (va_Qi (P_X12_strangers_1 ad cy B qr s1 a1 a2 a3 a4 w0) (fun u : va_W => wpost dC dI cy A u) A) (List.toArray [.ref (ad 0), .int a1, .int a2, .int a3, .int a4]) s 0 0 A) (F0 m 156 ls []) := by
        intro n156
        induction n156 with
        | zero => intro v156_7 v156_8 v156_9 v156_10 v156_11 H locs ls w138 r139 t140 r141 t142 r143 t144 r145 t146 r147 t148 r149 t150 r151 t152 r153 t154 r155 t156 r157 t158 r159 t160 r162 t163 r165 r167 t168 r170 t171 r173 hm156 hw hT hF hRW hKB c161 c164 c166 c169 c172 c174 hl; omega
        | succ n156 ih156 =>
          intro v156_7 v156_8 v156_9 v156_10 v156_11 H locs ls w138 r139 t140 r141 t142 r143 t144 r145 t146 r147 t148 r149 t150 r151 t152 r153 t154 r155 t156 r157 t158 r159 t160 r162 t163 r165 r167 t168 r170 t171 r173 hm156 hw hT hF hRW hKB c161 c164 c166 c169 c172 c174 hl
          refine lv_iload hx hb dX12_strangers_156 (lv_at hl 11 rfl) ?_
          refine lv_iload_n hx hb dX12_strangers_158 rfl (lv_at hl 3 rfl) ?_
          refine lv_icmp_ge (tgt := 182) hx hb dX12_strangers_159 (by decide) (fun c175 => ?_) (fun c175 => ?_)
          · have c175 : a3.toInt ≤ v156_11.toInt := wk_le.mp c175
            exact J182 v156_7 v156_8 v156_9 v156_10 v156_11 H locs ls w138 (show (-1) ≤ a1.toInt from r139) (show a1.toInt ≤ 5 from t140) (show 1 ≤ a2.toInt from r141) (show a2.toInt ≤ 30 from t142) (show 1 ≤ a3.toInt from r143) (show a3.toInt ≤ 200 from t144) (show 0 ≤ a4.toInt from r145) (show a4.toInt ≤ 1 from t146) (show 0 ≤ v88_6.toInt from r147) (show v88_6.toInt ≤ 29 from t148) (show 0 ≤ v156_7.toInt from r149) (show v156_7.toInt ≤ 9 from t150) (show 0 ≤ v156_8.toInt from r151) (show v156_8.toInt ≤ 9 from t152) (show 0 ≤ v156_9.toInt from r153) (show v156_9.toInt ≤ 3 from t154) (show 0 ≤ v156_10.toInt from r155) (show v156_10.toInt ≤ 167 from t156) (show 0 ≤ v156_11.toInt from r157) (show v156_11.toInt ≤ 200 from t158) (show 1 ≤ f88_12_0.toInt from r159) (show f88_12_0.toInt ≤ 10 from t160) (show 1 ≤ f88_12_4.toInt from r162) (show f88_12_4.toInt ≤ 4 from t163) (show 0 ≤ f88_12_9.toInt from r165) (show 1 ≤ f88_15_0.toInt from r167) (show f88_15_0.toInt ≤ 10 from t168) (show 1 ≤ f88_15_4.toInt from r170) (show f88_15_4.toInt ≤ 4 from t171) (show 0 ≤ f88_15_9.toInt from r173)  hw (hT.up (show (B + 0 + 1800 * v88_6.toInt + 9 * v156_11.toInt) ≤ (B + 1800 + 1800 * v88_6.toInt) by omega)) hF hRW hKB c161 c164 c166 c169 c172 c174 (lv_sub hl [0, 1, 2, 3, 4, 5, 6, 7, 8, 9, 10, 11] rfl)
          · have c175 : v156_11.toInt < a3.toInt := wk_leF c175
            refine lv_aload_n hx hb dX12_strangers_162 rfl (lv_at hl 0 rfl) ?_
            refine lv_iconst (v := 0) hx hb dX12_strangers_163 (by decide) ?_
            refine tk_Vi hC hK hw hT hA hE hSR kM_at0 (by decide) rfl (k_X12_isThere_2 l adK adV dC dI cy ad (B + 0 + 1800 * v88_6.toInt + 9 * v156_11.toInt) (by omega) (by omega) qr s1    w138 H.size hT ) (cwV 1 hC.2.2.2.2 uV_RX12_416 rfl rfl rfl (by decide +kernel) ⟨Nat.le_of_ble_eq_true rfl, Nat.le_of_ble_eq_true rfl⟩) rfl hl.1 rfl (Nat.le_of_ble_eq_true rfl) dX12_strangers_164 (fun r176 w178 H locs hp177 hw => ?_)
            obtain ⟨rfl, hg180⟩ := hp177
            rcases hg180 with rfl | rfl
            · refine lv_if_ne (tgt := 182) hx hb dX12_strangers_167 (by decide) (fun c => absurd (by decide) c) (fun _ => ?_)
              refine lv_aload_n hx hb dX12_strangers_170 rfl (lv_at hl 0 rfl) ?_
              refine lv_iconst (v := 0) hx hb dX12_strangers_171 (by decide) ?_
              refine tk_Vi hC hK hw hT hA hE hSR kM_at0 (by decide) rfl (k_X12_steps_2 l adK adV dC dI cy ad (B + 0 + 1800 * v88_6.toInt + 9 * v156_11.toInt) (by omega) (by omega) qr s1    w138 H.size hT hRW) (cwV 1 hC.2.2.2.2 uV_RX12_419 rfl rfl rfl (by decide +kernel) ⟨Nat.le_of_ble_eq_true rfl, Nat.le_of_ble_eq_true rfl⟩) rfl hl.1 rfl (Nat.le_of_ble_eq_true rfl) dX12_strangers_172 (fun r181 w183 H locs hp182 hw => ?_)
              obtain ⟨hT, k184, hg185⟩ := hp182
              have hT := hT.up (B' := (B + 9 + 1800 * v88_6.toInt + 9 * v156_11.toInt)) (by omega)
              have hKB := KB_FE k184 (fun _ => rfl) hKB
              have hRW := RW_FE k184 (fun _ => rfl) (fun _ => rfl) (fun _ => rfl) hRW
              have hF := hF.tr k184 (by decide)
              have c186 := k184.gi kM_at12 (by decide) c161
              have c187 := k184.gi kM_at12 (by decide) c164
              have c188 := k184.gi kM_at12 (by decide) c166
              have c189 := k184.gi kM_at15 (by decide) c169
              have c190 := k184.gi kM_at15 (by decide) c172
              have c191 := k184.gi kM_at15 (by decide) c174
              rcases hg185 with rfl | rfl
              · refine lv_pop hx hb dX12_strangers_175 rfl ?_
                obtain ⟨x192, ex192⟩ : ∃ y : Int32, y = v156_11 + Int32.ofInt 1 := ⟨_, rfl⟩
                refine lv_iinc (v := x192) (lv' := [(11, .int x192), (0, .ref (ad 0)), (1, .int a1), (2, .int a2), (3, .int a3), (4, .int a4), (5, .int v88_5), (6, .int v88_6), (7, .int v156_7), (8, .int v156_8), (9, .int v156_9), (10, .int v156_10)]) hx hb dX12_strangers_176 hl (k := 11) rfl ex192.symm (by decide) rfl (fun ls hl => ?_)
                have ex192 : x192.toInt = v156_11.toInt + 1 := by rw [ex192]; exact wk_add (y := 1) (show -2147483648 ≤ v156_11.toInt + 1 by omega) (show v156_11.toInt + 1 ≤ 2147483647 by omega)
                refine lv_goto (tgt := 156) hx hb dX12_strangers_179 (by decide) ?_
                exact ih156 v156_7 v156_8 v156_9 v156_10 x192 H locs ls w183 (show (-1) ≤ a1.toInt from r139) (show a1.toInt ≤ 5 from t140) (show 1 ≤ a2.toInt from r141) (show a2.toInt ≤ 30 from t142) (show 1 ≤ a3.toInt from r143) (show a3.toInt ≤ 200 from t144) (show 0 ≤ a4.toInt from r145) (show a4.toInt ≤ 1 from t146) (show 0 ≤ v88_6.toInt from r147) (show v88_6.toInt ≤ 29 from t148) (show 0 ≤ v156_7.toInt from r149) (show v156_7.toInt ≤ 9 from t150) (show 0 ≤ v156_8.toInt from r151) (show v156_8.toInt ≤ 9 from t152) (show 0 ≤ v156_9.toInt from r153) (show v156_9.toInt ≤ 3 from t154) (show 0 ≤ v156_10.toInt from r155) (show v156_10.toInt ≤ 167 from t156) (show 0 ≤ x192.toInt by first | with_reducible assumption | omega) (show x192.toInt ≤ 200 by first | with_reducible assumption | omega) (show 1 ≤ f88_12_0.toInt from r159) (show f88_12_0.toInt ≤ 10 from t160) (show 1 ≤ f88_12_4.toInt from r162) (show f88_12_4.toInt ≤ 4 from t163) (show 0 ≤ f88_12_9.toInt from r165) (show 1 ≤ f88_15_0.toInt from r167) (show f88_15_0.toInt ≤ 10 from t168) (show 1 ≤ f88_15_4.toInt from r170) (show f88_15_4.toInt ≤ 4 from t171) (show 0 ≤ f88_15_9.toInt from r173) (show (200 - x192.toInt).toNat < n156 by first | exact tn_lt hm156 (by omega) (by omega) | omega) hw (hT.up (show (B + 9 + 1800 * v88_6.toInt + 9 * v156_11.toInt) ≤ (B + 0 + 1800 * v88_6.toInt + 9 * x192.toInt) by omega)) hF hRW hKB c186 c187 c188 c189 c190 c191 (lv_sub hl [1, 2, 3, 4, 5, 6, 7, 8, 9, 10, 11, 0] rfl)
              · refine lv_pop hx hb dX12_strangers_175 rfl ?_
                obtain ⟨x193, ex193⟩ : ∃ y : Int32, y = v156_11 + Int32.ofInt 1 := ⟨_, rfl⟩
                refine lv_iinc (v := x193) (lv' := [(11, .int x193), (0, .ref (ad 0)), (1, .int a1), (2, .int a2), (3, .int a3), (4, .int a4), (5, .int v88_5), (6, .int v88_6), (7, .int v156_7), (8, .int v156_8), (9, .int v156_9), (10, .int v156_10)]) hx hb dX12_strangers_176 hl (k := 11) rfl ex193.symm (by decide) rfl (fun ls hl => ?_)
                have ex193 : x193.toInt = v156_11.toInt + 1 := by rw [ex193]; exact wk_add (y := 1) (show -2147483648 ≤ v156_11.toInt + 1 by omega) (show v156_11.toInt + 1 ≤ 2147483647 by omega)
                refine lv_goto (tgt := 156) hx hb dX12_strangers_179 (by decide) ?_
                exact ih156 v156_7 v156_8 v156_9 v156_10 x193 H locs ls w183 (show (-1) ≤ a1.toInt from r139) (show a1.toInt ≤ 5 from t140) (show 1 ≤ a2.toInt from r141) (show a2.toInt ≤ 30 from t142) (show 1 ≤ a3.toInt from r143) (show a3.toInt ≤ 200 from t144) (show 0 ≤ a4.toInt from r145) (show a4.toInt ≤ 1 from t146) (show 0 ≤ v88_6.toInt from r147) (show v88_6.toInt ≤ 29 from t148) (show 0 ≤ v156_7.toInt from r149) (show v156_7.toInt ≤ 9 from t150) (show 0 ≤ v156_8.toInt from r151) (show v156_8.toInt ≤ 9 from t152) (show 0 ≤ v156_9.toInt from r153) (show v156_9.toInt ≤ 3 from t154) (show 0 ≤ v156_10.toInt from r155) (show v156_10.toInt ≤ 167 from t156) (show 0 ≤ x193.toInt by first | with_reducible assumption | omega) (show x193.toInt ≤ 200 by first | with_reducible assumption | omega) (show 1 ≤ f88_12_0.toInt from r159) (show f88_12_0.toInt ≤ 10 from t160) (show 1 ≤ f88_12_4.toInt from r162) (show f88_12_4.toInt ≤ 4 from t163) (show 0 ≤ f88_12_9.toInt from r165) (show 1 ≤ f88_15_0.toInt from r167) (show f88_15_0.toInt ≤ 10 from t168) (show 1 ≤ f88_15_4.toInt from r170) (show f88_15_4.toInt ≤ 4 from t171) (show 0 ≤ f88_15_9.toInt from r173) (show (200 - x193.toInt).toNat < n156 by first | exact tn_lt hm156 (by omega) (by omega) | omega) hw (hT.up (show (B + 9 + 1800 * v88_6.toInt + 9 * v156_11.toInt) ≤ (B + 0 + 1800 * v88_6.toInt + 9 * x193.toInt) by omega)) hF hRW hKB c186 c187 c188 c189 c190 c191 (lv_sub hl [1, 2, 3, 4, 5, 6, 7, 8, 9, 10, 11, 0] rfl)
            · refine lv_if_ne (tgt := 182) hx hb dX12_strangers_167 (by decide) (fun _ => ?_) (fun c => absurd c (by decide))
              exact J182 v156_7 v156_8 v156_9 v156_10 v156_11 H locs ls w138 (show (-1) ≤ a1.toInt from r139) (show a1.toInt ≤ 5 from t140) (show 1 ≤ a2.toInt from r141) (show a2.toInt ≤ 30 from t142) (show 1 ≤ a3.toInt from r143) (show a3.toInt ≤ 200 from t144) (show 0 ≤ a4.toInt from r145) (show a4.toInt ≤ 1 from t146) (show 0 ≤ v88_6.toInt from r147) (show v88_6.toInt ≤ 29 from t148) (show 0 ≤ v156_7.toInt from r149) (show v156_7.toInt ≤ 9 from t150) (show 0 ≤ v156_8.toInt from r151) (show v156_8.toInt ≤ 9 from t152) (show 0 ≤ v156_9.toInt from r153) (show v156_9.toInt ≤ 3 from t154) (show 0 ≤ v156_10.toInt from r155) (show v156_10.toInt ≤ 167 from t156) (show 0 ≤ v156_11.toInt from r157) (show v156_11.toInt ≤ 200 from t158) (show 1 ≤ f88_12_0.toInt from r159) (show f88_12_0.toInt ≤ 10 from t160) (show 1 ≤ f88_12_4.toInt from r162) (show f88_12_4.toInt ≤ 4 from t163) (show 0 ≤ f88_12_9.toInt from r165) (show 1 ≤ f88_15_0.toInt from r167) (show f88_15_0.toInt ≤ 10 from t168) (show 1 ≤ f88_15_4.toInt from r170) (show f88_15_4.toInt ≤ 4 from t171) (show 0 ≤ f88_15_9.toInt from r173)  hw (hT.up (show (B + 0 + 1800 * v88_6.toInt + 9 * v156_11.toInt) ≤ (B + 1800 + 1800 * v88_6.toInt) by omega)) hF hRW hKB c161 c164 c166 c169 c172 c174 (lv_sub hl [0, 1, 2, 3, 4, 5, 6, 7, 8, 9, 10, 11] rfl)
      refine lv_iload hx hb dX12_strangers_88 (lv_at hl 6 rfl) ?_
      refine lv_iload_n hx hb dX12_strangers_90 rfl (lv_at hl 2 rfl) ?_
      refine lv_icmp_ge (tgt := 223) hx hb dX12_strangers_91 (by decide) (fun c194 => ?_) (fun c194 => ?_)
      · have c194 : a2.toInt ≤ v88_6.toInt := wk_le.mp c194
        refine lv_iload hx hb dX12_strangers_223 (lv_at hl 5 rfl) ?_
        exact tk_iret hC hr hlocks hK ⟨(hT.up (show (B + 0 + 1800 * v88_6.toInt) ≤ (B + 54000) by omega)), hF, (Or.inl ⟨(show (-1) ≤ a1.toInt from r6), (show a1.toInt ≤ 5 from t7), (show 1 ≤ a2.toInt from r8), (show a2.toInt ≤ 30 from t9), (show 1 ≤ a3.toInt from r10), (show a3.toInt ≤ 200 from t11), (show 0 ≤ a4.toInt from r12), (show a4.toInt ≤ 1 from t13), ⟨f88_12_0, c18, (show 1 ≤ f88_12_0.toInt from r16), (show f88_12_0.toInt ≤ 10 from t17)⟩, ⟨f88_12_4, c21, (show 1 ≤ f88_12_4.toInt from r19), (show f88_12_4.toInt ≤ 4 from t20)⟩, (by exact hSA)⟩)⟩ hw dX12_strangers_225
      · have c194 : v88_6.toInt < a2.toInt := wk_leF c194
        refine lv_aload_n hx hb dX12_strangers_94 rfl (lv_at hl 0 rfl) ?_
        refine lv_aload_n hx hb dX12_strangers_95 rfl (lv_at hl 0 rfl) ?_
        refine tk_getA hC hK hw hT hinX12 kM_at0 (by decide) rfl 26 (by decide) (List.mem_cons_of_mem _ uw_7_1) rfl rfl dX12_strangers_96 ?_
        refine lv_iconst (v := 0) hx hb dX12_strangers_99 (by decide) ?_
        refine tk_ialdR hC hK hw hT kM_at12 rfl (by decide) (by decide) dX12_strangers_100 (fun x195 c196 Ex195 => ?_)
        refine wk_top f88_12_0 (c196.symm.trans c18) ?_
        refine tk_Vi hC hK hw hT hA hE hSR kM_at0 (by decide) rfl (k_X12_draw_1 l adK adV dC dI cy ad (B + 0 + 1800 * v88_6.toInt) (by omega) (by omega) qr s1   f88_12_0 (show 1 ≤ f88_12_0.toInt from r16) (show f88_12_0.toInt ≤ 10 from t17) w5 H.size hT ) (cwV 1 hC.2.2.2.2 uV_RX12_507 rfl rfl rfl (by decide +kernel) ⟨Nat.le_of_ble_eq_true rfl, Nat.le_of_ble_eq_true rfl⟩) rfl hl.1 rfl (Nat.le_of_ble_eq_true rfl) dX12_strangers_101 (fun r197 w199 H locs hp198 hw => ?_)
        obtain ⟨hT, k200, hg203⟩ := hp198
        have hSA := SA_FE k200 (fun _ => rfl) hSA
        have hKB := KB_FE k200 (fun _ => rfl) hKB
        have hRW := RW_FE k200 (fun _ => rfl) (fun _ => rfl) (fun _ => rfl) hRW
        have hF := hF.tr k200 (by decide)
        have c204 := k200.gi kM_at12 (by decide) c18
        have c205 := k200.gi kM_at12 (by decide) c21
        have c206 := k200.gi kM_at12 (by decide) c23
        have c207 := k200.gi kM_at15 (by decide) c26
        have c208 := k200.gi kM_at15 (by decide) c29
        have c209 := k200.gi kM_at15 (by decide) c31
        obtain ⟨g201, g202⟩ := hg203
        refine lv_istore (lv' := [(7, .int r197), (0, .ref (ad 0)), (1, .int a1), (2, .int a2), (3, .int a3), (4, .int a4), (5, .int v88_5), (6, .int v88_6)]) hx hb dX12_strangers_104 hl (by decide) rfl (fun ls hl => ?_)
        refine lv_aload_n hx hb dX12_strangers_106 rfl (lv_at hl 1 rfl) ?_
        refine lv_aload_n hx hb dX12_strangers_107 rfl (lv_at hl 1 rfl) ?_
        refine tk_getA hC hK hw hT hinX12 kM_at0 (by decide) rfl 26 (by decide) (List.mem_cons_of_mem _ uw_7_1) rfl rfl dX12_strangers_108 ?_
        refine lv_iconst (v := 0) hx hb dX12_strangers_111 (by decide) ?_
        refine tk_ialdR hC hK hw hT kM_at12 rfl (by decide) (by decide) dX12_strangers_112 (fun x210 c211 Ex210 => ?_)
        refine wk_top f88_12_0 (c211.symm.trans c204) ?_
        refine tk_Vi hC hK hw hT hA hE hSR kM_at0 (by decide) rfl (k_X12_draw_1 l adK adV dC dI cy ad (B + 0 + 1800 * v88_6.toInt) (by omega) (by omega) qr s1   f88_12_0 (show 1 ≤ f88_12_0.toInt from r16) (show f88_12_0.toInt ≤ 10 from t17) w199 H.size hT ) (cwV 1 hC.2.2.2.2 uV_RX12_507 rfl rfl rfl (by decide +kernel) ⟨Nat.le_of_ble_eq_true rfl, Nat.le_of_ble_eq_true rfl⟩) rfl hl.1 rfl (Nat.le_of_ble_eq_true rfl) dX12_strangers_113 (fun r212 w214 H locs hp213 hw => ?_)
        obtain ⟨hT, k215, hg218⟩ := hp213
        have hSA := SA_FE k215 (fun _ => rfl) hSA
        have hKB := KB_FE k215 (fun _ => rfl) hKB
        have hRW := RW_FE k215 (fun _ => rfl) (fun _ => rfl) (fun _ => rfl) hRW
        have hF := hF.tr k215 (by decide)
        have c219 := k215.gi kM_at12 (by decide) c204
        have c220 := k215.gi kM_at12 (by decide) c205
        have c221 := k215.gi kM_at12 (by decide) c206
        have c222 := k215.gi kM_at15 (by decide) c207
        have c223 := k215.gi kM_at15 (by decide) c208
        have c224 := k215.gi kM_at15 (by decide) c209
        obtain ⟨g216, g217⟩ := hg218
        refine lv_istore (lv' := [(8, .int r212), (7, .int r197), (0, .ref (ad 0)), (1, .int a1), (2, .int a2), (3, .int a3), (4, .int a4), (5, .int v88_5), (6, .int v88_6)]) hx hb dX12_strangers_116 hl (by decide) rfl (fun ls hl => ?_)
        refine lv_aload_n hx hb dX12_strangers_118 rfl (lv_at hl 2 rfl) ?_
        refine lv_aload_n hx hb dX12_strangers_119 rfl (lv_at hl 2 rfl) ?_
        refine tk_getA hC hK hw hT hinX12 kM_at0 (by decide) rfl 26 (by decide) (List.mem_cons_of_mem _ uw_7_1) rfl rfl dX12_strangers_120 ?_
        refine lv_iconst (v := 4) hx hb dX12_strangers_123 (by decide) ?_
        refine tk_ialdR hC hK hw hT kM_at12 rfl (by decide) (by decide) dX12_strangers_124 (fun x225 c226 Ex225 => ?_)
        refine wk_top f88_12_4 (c226.symm.trans c220) ?_
        refine tk_Vi hC hK hw hT hA hE hSR kM_at0 (by decide) rfl (k_X12_draw_2 l adK adV dC dI cy ad (B + 0 + 1800 * v88_6.toInt) (by omega) (by omega) qr s1   f88_12_4 (show 1 ≤ f88_12_4.toInt from r19) (show f88_12_4.toInt ≤ 4 from t20) w214 H.size hT ) (cwV 1 hC.2.2.2.2 uV_RX12_507 rfl rfl rfl (by decide +kernel) ⟨Nat.le_of_ble_eq_true rfl, Nat.le_of_ble_eq_true rfl⟩) rfl hl.1 rfl (Nat.le_of_ble_eq_true rfl) dX12_strangers_125 (fun r227 w229 H locs hp228 hw => ?_)
        obtain ⟨hT, k230, hg233⟩ := hp228
        have hSA := SA_FE k230 (fun _ => rfl) hSA
        have hKB := KB_FE k230 (fun _ => rfl) hKB
        have hRW := RW_FE k230 (fun _ => rfl) (fun _ => rfl) (fun _ => rfl) hRW
        have hF := hF.tr k230 (by decide)
        have c234 := k230.gi kM_at12 (by decide) c219
        have c235 := k230.gi kM_at12 (by decide) c220
        have c236 := k230.gi kM_at12 (by decide) c221
        have c237 := k230.gi kM_at15 (by decide) c222
        have c238 := k230.gi kM_at15 (by decide) c223
        have c239 := k230.gi kM_at15 (by decide) c224
        obtain ⟨g231, g232⟩ := hg233
        refine lv_istore (lv' := [(9, .int r227), (8, .int r212), (7, .int r197), (0, .ref (ad 0)), (1, .int a1), (2, .int a2), (3, .int a3), (4, .int a4), (5, .int v88_5), (6, .int v88_6)]) hx hb dX12_strangers_128 hl (by decide) rfl (fun ls hl => ?_)
        refine lv_aload_n hx hb dX12_strangers_130 rfl (lv_at hl 3 rfl) ?_
        refine lv_sipush (v := 168) hx hb dX12_strangers_131 (by decide) ?_
        refine tk_Vi hC hK hw hT hA hE hSR kM_at0 (by decide) rfl (k_X12_draw_3 l adK adV dC dI cy ad (B + 0 + 1800 * v88_6.toInt) (by omega) (by omega) qr s1    w229 H.size hT ) (cwV 1 hC.2.2.2.2 uV_RX12_507 rfl rfl rfl (by decide +kernel) ⟨Nat.le_of_ble_eq_true rfl, Nat.le_of_ble_eq_true rfl⟩) rfl hl.1 rfl (Nat.le_of_ble_eq_true rfl) dX12_strangers_134 (fun r240 w242 H locs hp241 hw => ?_)
        obtain ⟨hT, k243, hg246⟩ := hp241
        have hSA := SA_FE k243 (fun _ => rfl) hSA
        have hKB := KB_FE k243 (fun _ => rfl) hKB
        have hRW := RW_FE k243 (fun _ => rfl) (fun _ => rfl) (fun _ => rfl) hRW
        have hF := hF.tr k243 (by decide)
        have c247 := k243.gi kM_at12 (by decide) c234
        have c248 := k243.gi kM_at12 (by decide) c235
        have c249 := k243.gi kM_at12 (by decide) c236
        have c250 := k243.gi kM_at15 (by decide) c237
        have c251 := k243.gi kM_at15 (by decide) c238
        have c252 := k243.gi kM_at15 (by decide) c239
        obtain ⟨g244, g245⟩ := hg246
        refine lv_istore (lv' := [(10, .int r240), (9, .int r227), (8, .int r212), (7, .int r197), (0, .ref (ad 0)), (1, .int a1), (2, .int a2), (3, .int a3), (4, .int a4), (5, .int v88_5), (6, .int v88_6)]) hx hb dX12_strangers_137 hl (by decide) rfl (fun ls hl => ?_)
        refine lv_aload_n hx hb dX12_strangers_139 rfl (lv_at hl 4 rfl) ?_
        refine lv_iconst (v := 0) hx hb dX12_strangers_140 (by decide) ?_
        refine lv_iload hx hb dX12_strangers_141 (lv_at hl 3 rfl) ?_
        refine lv_iload hx hb dX12_strangers_143 (lv_at hl 2 rfl) ?_
        refine lv_iload hx hb dX12_strangers_145 (lv_at hl 1 rfl) ?_
        refine lv_iload_n hx hb dX12_strangers_147 rfl (lv_at hl 5 rfl) ?_
        refine lv_iload hx hb dX12_strangers_148 (lv_at hl 0 rfl) ?_
        refine tk_Vv hC hK hw hT hA hE hSR kM_at0 (by decide) rfl (k_X12_setsOut_2 l adK adV dC dI cy ad (B + 0 + 1800 * v88_6.toInt) (by omega) (by omega) qr s1   r197 (show 0 ≤ r197.toInt by first | with_reducible assumption | omega) (show r197.toInt ≤ 9 by first | with_reducible assumption | omega) r212 (show 0 ≤ r212.toInt by first | with_reducible assumption | omega) (show r212.toInt ≤ 9 by first | with_reducible assumption | omega) r227 (show 0 ≤ r227.toInt by first | with_reducible assumption | omega) (show r227.toInt ≤ 3 by first | with_reducible assumption | omega) a1 (show (-1) ≤ a1.toInt from r6) (show a1.toInt ≤ 5 from t7) r240 (show 0 ≤ r240.toInt by first | with_reducible assumption | omega) (show r240.toInt ≤ 167 by first | with_reducible assumption | omega) w242 H.size hT ) (cwV 6 hC.2.2.2.2 uV_RX12_363 rfl rfl rfl (by decide +kernel) ⟨Nat.le_of_ble_eq_true rfl, Nat.le_of_ble_eq_true rfl⟩) rfl hl.1 rfl (Nat.le_of_ble_eq_true rfl) dX12_strangers_150 (fun w255 H locs hp254 hw => ?_)
        obtain ⟨hT, k256, hg267⟩ := hp254
        have hKB := KB_FE k256 (fun _ => rfl) hKB
        have hRW := RW_FE k256 (fun _ => rfl) (fun _ => rfl) (fun _ => rfl) hRW
        have hF := hF.tr k256 (by decide)
        have c268 := k256.gi kM_at12 (by decide) c247
        have c269 := k256.gi kM_at12 (by decide) c248
        have c270 := k256.gi kM_at12 (by decide) c249
        have c271 := k256.gi kM_at15 (by decide) c250
        have c272 := k256.gi kM_at15 (by decide) c251
        have c273 := k256.gi kM_at15 (by decide) c252
        obtain ⟨⟨x257, c258, rx257, tx257⟩, ⟨x259, c260, rx259, tx259⟩, ⟨x261, c262, rx261, tx261⟩, ⟨x263, c264, rx263, tx263⟩, ⟨x265, c266, rx265, tx265⟩⟩ := hg267
        refine lv_iconst (v := 0) hx hb dX12_strangers_153 (by decide) ?_
        refine lv_istore (lv' := [(11, .int 0), (10, .int r240), (9, .int r227), (8, .int r212), (7, .int r197), (0, .ref (ad 0)), (1, .int a1), (2, .int a2), (3, .int a3), (4, .int a4), (5, .int v88_5), (6, .int v88_6)]) hx hb dX12_strangers_154 hl (by decide) rfl (fun ls hl => ?_)
        exact L156 ((200 - (0 : Int)).toNat + 1) r197 r212 r227 r240 0 H locs ls w255 (show (-1) ≤ a1.toInt from r6) (show a1.toInt ≤ 5 from t7) (show 1 ≤ a2.toInt from r8) (show a2.toInt ≤ 30 from t9) (show 1 ≤ a3.toInt from r10) (show a3.toInt ≤ 200 from t11) (show 0 ≤ a4.toInt from r12) (show a4.toInt ≤ 1 from t13) (show 0 ≤ v88_6.toInt from r14) (show v88_6.toInt ≤ 29 by first | with_reducible assumption | omega) (show 0 ≤ r197.toInt by first | with_reducible assumption | omega) (show r197.toInt ≤ 9 by first | with_reducible assumption | omega) (show 0 ≤ r212.toInt by first | with_reducible assumption | omega) (show r212.toInt ≤ 9 by first | with_reducible assumption | omega) (show 0 ≤ r227.toInt by first | with_reducible assumption | omega) (show r227.toInt ≤ 3 by first | with_reducible assumption | omega) (show 0 ≤ r240.toInt by first | with_reducible assumption | omega) (show r240.toInt ≤ 167 by first | with_reducible assumption | omega) (by decide) (by decide) (show 1 ≤ f88_12_0.toInt from r16) (show f88_12_0.toInt ≤ 10 from t17) (show 1 ≤ f88_12_4.toInt from r19) (show f88_12_4.toInt ≤ 4 from t20) (show 0 ≤ f88_12_9.toInt from r22) (show 1 ≤ f88_15_0.toInt from r24) (show f88_15_0.toInt ≤ 10 from t25) (show 1 ≤ f88_15_4.toInt from r27) (show f88_15_4.toInt ≤ 4 from t28) (show 0 ≤ f88_15_9.toInt from r30) (Nat.lt_succ_self _) hw (hT.up (show (B + 0 + 1800 * v88_6.toInt) ≤ (B + 0 + 1800 * v88_6.toInt + 9 * (0 : Int32).toInt) by rw [show (0 : Int32).toInt = 0 by decide]; omega)) hF hRW hKB c268 c269 c270 c271 c272 c273 (lv_sub hl [5, 6, 7, 8, 9, 10, 11, 4, 3, 2, 1, 0] rfl)
  have J29 : ∀ (f29_12_0 : Int32) (f29_12_4 : Int32) (H : Heap) (locs : List Loc) (ls : Array Slot) (w274 : va_W), (-1) ≤ a1.toInt → a1.toInt ≤ 5 → 1 ≤ f29_12_0.toInt → f29_12_0.toInt ≤ 10 → 1 ≤ f29_12_4.toInt → f29_12_4.toInt ≤ 4 → Wd dC dI A s.heap H locs w274 → TW ksM ad cy B qr 12 w274 → FE ksM [(12, 24, 24), (12, 31, 31), (12, 39, 39), (69, 0, 64), (70, 0, 10), (71, 0, 295), (71, 216, 216), (71, 217, 217), (71, 218, 218), (71, 219, 219), (71, 220, 220), (71, 221, 221), (71, 222, 222), (71, 223, 223), (71, 224, 224), (72, 0, 12), (73, 0, 10), (74, 0, 296)] w0 w274 → RW w274 → SA w0 w274 → gi w274 12 0 = f29_12_0 → gi w274 12 4 = f29_12_4 → lv_has ls 12 [(0, .ref (ad 0)), (1, .int a1), (2, .int a2), (3, .int a3), (4, .int a4)] → W p l e ({ frames := 9, cells := 0, slots := 0, locals := 194 }) s m (List.toArray [.ref (ad 0), .int a1, .int a2, .int a3, .int a4]) below meth c H locs 0 0 (MQ below (va_Qi (P_X12_strangers_1 ad cy B qr s1 a1 a2 a3 a4 w0) (fun u : va_W => wpost dC dI cy A u) A) (List.toArray [.ref (ad 0), .int a1, .int a2, .int a3, .int a4]) s 0 0 A) (F0 m 29 ls []) := by
    intro f29_12_0 f29_12_4 H locs ls w274 r275 t276 r277 t278 r280 t281 hw hT hF hRW hSA c279 c282 hl
    refine lv_iload_n hx hb dX12_strangers_29 rfl (lv_at hl 2 rfl) ?_
    refine lv_i2l hx hb dX12_strangers_30 rfl ?_
    refine lv_topl (fun x283 ex283 => ?_)
    have ex283 : x283.toInt = a2.toInt := by rw [ex283]; exact wk_i2l _
    have bx283 := wk_i32 a2
    refine lv_lconst (v := 1) hx hb dX12_strangers_31 (by decide) ?_
    refine lv_ldc2 (v := 30) hx hb hC.2.2.2.1 (hC.2.2.2.2 _ (List.mem_cons_of_mem _ uw_68_3)) dX12_strangers_32 ?_
    refine tk_Si hC hK hw hT hA hE hSR (k_X12_in_18 l adK adV dC dI cy ad B hB0 (Int.le_trans hB1 (by decide)) qr s1   x283 (show (-2147483648) ≤ x283.toInt by first | with_reducible assumption | omega) (show x283.toInt ≤ 2147483647 by first | with_reducible assumption | omega) w274 H.size hT ) (va_cwS 3 hC.2.2.2.2 uS_RX12_122 rfl rfl rfl (by decide +kernel) ⟨Nat.le_of_ble_eq_true rfl, Nat.le_of_ble_eq_true rfl⟩) rfl hl.1 rfl (Nat.le_of_ble_eq_true rfl) dX12_strangers_35 (fun r284 w286 H locs hp285 hw => ?_)
    obtain ⟨rfl, hg290⟩ := hp285
    rcases hg290 with rfl | ⟨rfl, g288, g289⟩
    · refine lv_if_eq (tgt := 64) hx hb dX12_strangers_38 (by decide) (fun _ => ?_) (fun c => absurd (by decide) c)
      exact J64 f29_12_0 H locs ls w274 (show 0 ≤ f29_12_0.toInt from Int.le_trans (by decide) r277) (show f29_12_0.toInt ≤ 10 from t278)  hw hT hF hRW hSA c279 (lv_sub hl [0, 1, 2, 3, 4] rfl)
    · refine lv_if_eq (tgt := 64) hx hb dX12_strangers_38 (by decide) (fun c => absurd c (by decide)) (fun _ => ?_)
      refine lv_iload_n hx hb dX12_strangers_41 rfl (lv_at hl 3 rfl) ?_
      refine lv_i2l hx hb dX12_strangers_42 rfl ?_
      refine lv_topl (fun x291 ex291 => ?_)
      have ex291 : x291.toInt = a3.toInt := by rw [ex291]; exact wk_i2l _
      have bx291 := wk_i32 a3
      refine lv_lconst (v := 1) hx hb dX12_strangers_43 (by decide) ?_
      refine lv_ldc2 (v := 200) hx hb hC.2.2.2.1 (hC.2.2.2.2 _ (List.mem_cons_of_mem _ uw_46_14)) dX12_strangers_44 ?_
      refine tk_Si hC hK hw hT hA hE hSR (k_X12_in_14 l adK adV dC dI cy ad B hB0 (Int.le_trans hB1 (by decide)) qr s1   x291 (show (-2147483648) ≤ x291.toInt by first | with_reducible assumption | omega) (show x291.toInt ≤ 2147483647 by first | with_reducible assumption | omega) w274 H.size hT ) (va_cwS 3 hC.2.2.2.2 uS_RX12_122 rfl rfl rfl (by decide +kernel) ⟨Nat.le_of_ble_eq_true rfl, Nat.le_of_ble_eq_true rfl⟩) rfl hl.1 rfl (Nat.le_of_ble_eq_true rfl) dX12_strangers_47 (fun r292 w294 H locs hp293 hw => ?_)
      obtain ⟨rfl, hg298⟩ := hp293
      rcases hg298 with rfl | ⟨rfl, g296, g297⟩
      · refine lv_if_eq (tgt := 64) hx hb dX12_strangers_50 (by decide) (fun _ => ?_) (fun c => absurd (by decide) c)
        exact J64 f29_12_0 H locs ls w274 (show 0 ≤ f29_12_0.toInt from Int.le_trans (by decide) r277) (show f29_12_0.toInt ≤ 10 from t278)  hw hT hF hRW hSA c279 (lv_sub hl [0, 1, 2, 3, 4] rfl)
      · refine lv_if_eq (tgt := 64) hx hb dX12_strangers_50 (by decide) (fun c => absurd c (by decide)) (fun _ => ?_)
        refine lv_iload hx hb dX12_strangers_53 (lv_at hl 4 rfl) ?_
        refine lv_i2l hx hb dX12_strangers_55 rfl ?_
        refine lv_topl (fun x299 ex299 => ?_)
        have ex299 : x299.toInt = a4.toInt := by rw [ex299]; exact wk_i2l _
        have bx299 := wk_i32 a4
        refine lv_lconst (v := 0) hx hb dX12_strangers_56 (by decide) ?_
        refine lv_lconst (v := 1) hx hb dX12_strangers_57 (by decide) ?_
        refine tk_Si hC hK hw hT hA hE hSR (k_X12_in_12 l adK adV dC dI cy ad B hB0 (Int.le_trans hB1 (by decide)) qr s1   x299 (show (-2147483648) ≤ x299.toInt by first | with_reducible assumption | omega) (show x299.toInt ≤ 2147483647 by first | with_reducible assumption | omega) w274 H.size hT ) (va_cwS 3 hC.2.2.2.2 uS_RX12_122 rfl rfl rfl (by decide +kernel) ⟨Nat.le_of_ble_eq_true rfl, Nat.le_of_ble_eq_true rfl⟩) rfl hl.1 rfl (Nat.le_of_ble_eq_true rfl) dX12_strangers_58 (fun r300 w302 H locs hp301 hw => ?_)
        obtain ⟨rfl, hg306⟩ := hp301
        rcases hg306 with rfl | ⟨rfl, g304, g305⟩
        · refine lv_if_ne (tgt := 66) hx hb dX12_strangers_61 (by decide) (fun c => absurd (by decide) c) (fun _ => ?_)
          exact J64 f29_12_0 H locs ls w274 (show 0 ≤ f29_12_0.toInt from Int.le_trans (by decide) r277) (show f29_12_0.toInt ≤ 10 from t278)  hw hT hF hRW hSA c279 (lv_sub hl [0, 1, 2, 3, 4] rfl)
        · refine lv_if_ne (tgt := 66) hx hb dX12_strangers_61 (by decide) (fun _ => ?_) (fun c => absurd c (by decide))
          refine lv_aload_n hx hb dX12_strangers_66 rfl (lv_at hl 0 rfl) ?_
          refine lv_aload_n hx hb dX12_strangers_67 rfl (lv_at hl 0 rfl) ?_
          refine tk_getA hC hK hw hT hinX12 kM_at0 (by decide) rfl 26 (by decide) (List.mem_cons_of_mem _ uw_7_1) rfl rfl dX12_strangers_68 ?_
          refine lv_bipush (v := 9) hx hb dX12_strangers_71 (by decide) ?_
          refine tk_ialdR hC hK hw hT kM_at12 rfl (by decide) (by decide) dX12_strangers_73 (fun x307 c308 Ex307 => ?_)
          have bx307 := tk_rgI rfl 9 1 1 0 2147483647 (by decide +kernel) ⟨0, by decide, by decide⟩ Ex307
          have c308 : gi w274 12 9 = x307 := c308
          refine lv_i2l hx hb dX12_strangers_74 rfl ?_
          refine lv_topl (fun x309 ex309 => ?_)
          have ex309 : x309.toInt = x307.toInt := by rw [ex309]; exact wk_i2l _
          have bx309 := wk_i32 x307
          refine tk_putl hC hK hw hT hinX12 tyX12_ok nmX12 kM_at0 (by decide) rfl rfl 39 (by decide) (List.mem_cons_of_mem _ uw_68_4) rfl rfl rfl rfl (show 0 ≤ x309.toInt by first | with_reducible assumption | omega) (show x309.toInt ≤ 2147483648 by first | with_reducible assumption | omega) dX12_strangers_75 (fun H locs w310 hw hT k312 c311 => ?_)
          have hRW := RW_F1 k312 (by decide) (by decide) (by decide) hRW
          have hSA := SA_F1 k312 (by decide) hSA
          have hF := hF.put kM_at0 (k := 39) (by decide) k312
          have c313 := k312.gi (Or.inr (by decide)) c279
          have c314 := k312.gi (Or.inr (by decide)) c282
          have c315 := k312.gi (Or.inr (by decide)) c308
          refine lv_iconst (v := 0) hx hb dX12_strangers_78 (by decide) ?_
          refine lv_istore (lv' := [(5, .int 0), (0, .ref (ad 0)), (1, .int a1), (2, .int a2), (3, .int a3), (4, .int a4)]) hx hb dX12_strangers_79 hl (by decide) rfl (fun ls hl => ?_)
          refine lv_aload_n hx hb dX12_strangers_81 rfl (lv_at hl 1 rfl) ?_
          refine tk_Vv hC hK hw hT hA hE hSR kM_at0 (by decide) rfl (k_X12_keeps_1 l adK adV dC dI cy ad B hB0 (Int.le_trans hB1 (by decide)) qr s1    w310 H.size hT ) (cwV 0 hC.2.2.2.2 uV_RX12_426 rfl rfl rfl (by decide +kernel) ⟨Nat.le_of_ble_eq_true rfl, Nat.le_of_ble_eq_true rfl⟩) rfl hl.1 rfl (Nat.le_of_ble_eq_true rfl) dX12_strangers_82 (fun w318 H locs hp317 hw => ?_)
          obtain ⟨hT, k319, hg324⟩ := hp317
          have hSA := SA_FE k319 (fun _ => rfl) hSA
          have hRW := RW_FE k319 (fun _ => rfl) (fun _ => rfl) (fun _ => rfl) hRW
          have hF := hF.tr k319 (by decide)
          have c325 := k319.gi kM_at12 (by decide) c313
          have c326 := k319.gi kM_at12 (by decide) c314
          have c327 := k319.gi kM_at12 (by decide) c315
          have c328 := k319.gl kM_at0 (by decide) c311
          obtain ⟨c320, c321, c322, hq323⟩ := hg324
          have hKB : KBk w0 w318 := fun j hj => (hq323 j hj).trans ((k319.gi kM_at12 rfl rfl).symm.trans (hSA j hj))
          refine lv_iconst (v := 0) hx hb dX12_strangers_85 (by decide) ?_
          refine lv_istore (lv' := [(6, .int 0), (5, .int 0), (0, .ref (ad 0)), (1, .int a1), (2, .int a2), (3, .int a3), (4, .int a4)]) hx hb dX12_strangers_86 hl (by decide) rfl (fun ls hl => ?_)
          exact L88 ((30 - (0 : Int)).toNat + 1) 0 0 f29_12_0 f29_12_4 x307 f29_12_0 f29_12_4 x307 H locs ls w318 (show (-1) ≤ a1.toInt from r275) (show a1.toInt ≤ 5 from t276) (show 1 ≤ a2.toInt by first | with_reducible assumption | omega) (show a2.toInt ≤ 30 by first | with_reducible assumption | omega) (show 1 ≤ a3.toInt by first | with_reducible assumption | omega) (show a3.toInt ≤ 200 by first | with_reducible assumption | omega) (show 0 ≤ a4.toInt by first | with_reducible assumption | omega) (show a4.toInt ≤ 1 by first | with_reducible assumption | omega) (by decide) (by decide) (show 1 ≤ f29_12_0.toInt from r277) (show f29_12_0.toInt ≤ 10 from t278) (show 1 ≤ f29_12_4.toInt from r280) (show f29_12_4.toInt ≤ 4 from t281) (show 0 ≤ x307.toInt by first | with_reducible assumption | omega) (show 1 ≤ f29_12_0.toInt from r277) (show f29_12_0.toInt ≤ 10 from t278) (show 1 ≤ f29_12_4.toInt from r280) (show f29_12_4.toInt ≤ 4 from t281) (show 0 ≤ x307.toInt by first | with_reducible assumption | omega) (Nat.lt_succ_self _) hw (hT.up (show B ≤ (B + 0 + 1800 * (0 : Int32).toInt) by rw [show (0 : Int32).toInt = 0 by decide]; omega)) hF hRW hSA hKB c325 c326 c327 (c320.trans c313) (c321.trans c314) (c322.trans c315) (lv_sub hl [2, 3, 4, 5, 6, 1, 0] rfl)
  refine lv_aload_n hx hb dX12_strangers_0 rfl (lv_at hl 0 rfl) ?_
  refine tk_Vi hC hK hw hT hA hE hSR kM_at0 (by decide) rfl (k_X12_isTown_1 l adK adV dC dI cy ad B hB0 (Int.le_trans hB1 (by decide)) qr s1    w0 s.heap.size hT ) (cwV 0 hC.2.2.2.2 uV_RX12_337 rfl rfl rfl (by decide +kernel) ⟨Nat.le_of_ble_eq_true rfl, Nat.le_of_ble_eq_true rfl⟩) rfl hl.1 rfl (Nat.le_of_ble_eq_true rfl) dX12_strangers_1 (fun r329 w331 H locs hp330 hw => ?_)
  obtain ⟨rfl, hg337⟩ := hp330
  rcases hg337 with ⟨rfl, ⟨x333, c334, rx333, tx333⟩⟩ | ⟨rfl, ⟨x335, c336, rx335, tx335⟩⟩
  · refine lv_if_eq (tgt := 64) hx hb dX12_strangers_4 (by decide) (fun _ => ?_) (fun c => absurd (by decide) c)
    exact J64 x333 H locs ls w0 (show 0 ≤ x333.toInt by first | with_reducible assumption | omega) (show x333.toInt ≤ 10 by first | with_reducible assumption | omega)  hw hT hF hRW hSA c334 (lv_sub hl [0, 1, 2, 3, 4] rfl)
  · refine lv_if_eq (tgt := 64) hx hb dX12_strangers_4 (by decide) (fun c => absurd c (by decide)) (fun _ => ?_)
    refine lv_aload_n hx hb dX12_strangers_7 rfl (lv_at hl 0 rfl) ?_
    refine tk_getA hC hK hw hT hinX12 kM_at0 (by decide) rfl 26 (by decide) (List.mem_cons_of_mem _ uw_7_1) rfl rfl dX12_strangers_8 ?_
    refine lv_iconst (v := 4) hx hb dX12_strangers_11 (by decide) ?_
    refine tk_ialdR hC hK hw hT kM_at12 rfl (by decide) (by decide) dX12_strangers_12 (fun x338 c339 Ex338 => ?_)
    have bx338 := tk_rgI rfl 4 1 1 0 4 (by decide +kernel) ⟨0, by decide, by decide⟩ Ex338
    have c339 : gi w0 12 4 = x338 := c339
    refine lv_if_eq (tgt := 64) hx hb dX12_strangers_13 (by decide) (fun c340 => ?_) (fun c340 => ?_)
    · have c340 : x338.toInt = (0 : Int) := wk_eq.mp c340
      exact J64 x335 H locs ls w0 (show 0 ≤ x335.toInt by first | with_reducible assumption | omega) (show x335.toInt ≤ 10 by first | with_reducible assumption | omega)  hw hT hF hRW hSA c336 (lv_sub hl [0, 1, 2, 3, 4] rfl)
    · have c340 : ¬ x338.toInt = (0 : Int) := wk_eqF c340
      refine lv_iload_n hx hb dX12_strangers_16 rfl (lv_at hl 1 rfl) ?_
      refine lv_iconst (v := (-1)) hx hb dX12_strangers_17 (by decide) ?_
      refine lv_icmp_eq (tgt := 29) hx hb dX12_strangers_18 (by decide) (fun c341 => ?_) (fun c341 => ?_)
      · have c341 : a1.toInt = (-1 : Int) := wk_eq.mp c341
        exact J29 x335 x338 H locs ls w0 (show (-1) ≤ a1.toInt by first | with_reducible assumption | omega) (show a1.toInt ≤ 5 by first | with_reducible assumption | omega) (show 1 ≤ x335.toInt by first | with_reducible assumption | omega) (show x335.toInt ≤ 10 by first | with_reducible assumption | omega) (show 1 ≤ x338.toInt by first | with_reducible assumption | omega) (show x338.toInt ≤ 4 by first | with_reducible assumption | omega)  hw hT hF hRW hSA c336 c339 (lv_sub hl [0, 1, 2, 3, 4] rfl)
      · have c341 : ¬ a1.toInt = (-1 : Int) := wk_eqF c341
        refine lv_aload_n hx hb dX12_strangers_21 rfl (lv_at hl 0 rfl) ?_
        refine lv_iload_n hx hb dX12_strangers_22 rfl (lv_at hl 1 rfl) ?_
        refine tk_Vi hC hK hw hT hA hE hSR kM_at0 (by decide) rfl (k_X12_isRule_1 l adK adV dC dI cy ad B hB0 (Int.le_trans hB1 (by decide)) qr s1   a1 w0 H.size hT ) (cwV 1 hC.2.2.2.2 uV_RX12_360 rfl rfl rfl (by decide +kernel) ⟨Nat.le_of_ble_eq_true rfl, Nat.le_of_ble_eq_true rfl⟩) rfl hl.1 rfl (Nat.le_of_ble_eq_true rfl) dX12_strangers_23 (fun r342 w344 H locs hp343 hw => ?_)
        obtain ⟨rfl, hg350⟩ := hp343
        rcases hg350 with rfl | ⟨rfl, g346, g347, ⟨x348, c349, rx348, tx348⟩⟩
        · refine lv_if_eq (tgt := 64) hx hb dX12_strangers_26 (by decide) (fun _ => ?_) (fun c => absurd (by decide) c)
          exact J64 x335 H locs ls w0 (show 0 ≤ x335.toInt by first | with_reducible assumption | omega) (show x335.toInt ≤ 10 by first | with_reducible assumption | omega)  hw hT hF hRW hSA c336 (lv_sub hl [0, 1, 2, 3, 4] rfl)
        · refine lv_if_eq (tgt := 64) hx hb dX12_strangers_26 (by decide) (fun c => absurd c (by decide)) (fun _ => ?_)
          exact J29 x335 x338 H locs ls w0 (show (-1) ≤ a1.toInt by first | with_reducible assumption | omega) (show a1.toInt ≤ 5 by first | with_reducible assumption | omega) (show 1 ≤ x335.toInt by first | with_reducible assumption | omega) (show x335.toInt ≤ 10 by first | with_reducible assumption | omega) (show 1 ≤ x338.toInt by first | with_reducible assumption | omega) (show x338.toInt ≤ 4 by first | with_reducible assumption | omega)  hw hT hF hRW hSA c336 c339 (lv_sub hl [0, 1, 2, 3, 4] rfl)
