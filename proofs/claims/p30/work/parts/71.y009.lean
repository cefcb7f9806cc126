abbrev Py_X12_doing_1 (ad : Nat → Nat) (cy : Nat → ClassId) (B : Int) (qr : Nat) (s1 : Int)  (w0 : va_W) : Int32 → va_W → Prop := fun r u => TW ksM ad cy B qr 12 u ∧ FE ksM [(12, 24, 24), (69, 0, 64), (70, 0, 10)] w0 u ∧ Ev (fun n => m_X12_doing n 0 0 (sL w0)) (r.toInt, sL u) ∧ ((r.toInt ≤ (-1) ∧ (∃ y : Int32, gi u 12 219 = y ∧ 0 ≤ y.toInt ∧ y.toInt ≤ 5)) ∨ (3 ≤ r.toInt ∧ (∃ y : Int32, gi u 12 219 = y ∧ 0 ≤ y.toInt ∧ y.toInt ≤ 5)) ∨ (r = 0 ∧ (∃ y : Int32, gi u 0 31 = y ∧ 0 ≤ y.toInt ∧ y.toInt ≤ 11) ∧ (∃ y : Int32, gi u 12 219 = y ∧ (-1) ≤ y.toInt ∧ y.toInt ≤ 5)) ∨ (r = 1 ∧ (∃ y : Int32, gi u 12 1 = y ∧ 1 ≤ y.toInt ∧ y.toInt ≤ 12) ∧ (∃ y : Int32, gi u 12 219 = y ∧ 0 ≤ y.toInt ∧ y.toInt ≤ 5) ∧ (mAS u (0 : Int32).toInt)) ∨ (r = 2 ∧ (∃ y : Int32, gi u 0 30 = y ∧ 0 ≤ y.toInt ∧ y.toInt ≤ 0) ∧ (∃ y : Int32, gi u 12 219 = y ∧ 0 ≤ y.toInt ∧ y.toInt ≤ 5)) ∨ (r = 3 ∧ (∃ y : Int32, gi u 12 219 = y ∧ (-1) ≤ y.toInt ∧ y.toInt ≤ 5)))
set_option maxHeartbeats 4000000 in
set_option maxRecDepth 100000 in
theorem ky_X12_doing_1 (l : Launch) (adK adV : Nat → Nat) (dC : Nat → ClassId) (dI : Nat → Nat → Nat) (cy : Nat → ClassId) (ad : Nat → Nat) (B : Int) (hB0 : 100000 ≤ B) (hB1 : B ≤ 1073741824) (qr : Nat) (s1 : Int)   (w0 : va_W) (sz : Nat) (hT : TW ksM ad cy B qr 12 w0) (hRW : RW w0) : Met l yX12_doing (wu yX12_doing cX12_doing 5 (some .int)) ({ frames := 7, cells := 0, slots := 0, locals := 147 }) (va_Pc [.ref (ad 0), .int 0] (wpreS adK adV dC dI cy sz w0)) (va_Qi (Py_X12_doing_1 ad cy B qr s1  w0) (fun u : va_W => wpost dC dI cy (va_A w0 sz) u) (va_A w0 sz)) 0 0 (va_A w0 sz) := by
  refine Met.ofW (cc := cX12_doing) (maxL := 5) (ret := (some .int)) (by decide) rfl ?_
  intro p e s m args below meth c s₁ Bk hml hv
  obtain ⟨rfl, ⟨hsz, hP, hK, hD0⟩, hE, hSR⟩ := hv
  have hx := Bk.exec
  have hb := Bk.bytes
  have hr := Bk.returns
  have hlocks := Bk.notSynchronized
  have hC : CallFix p m c cX12_doing 5 s _ (wu yX12_doing cX12_doing 5 (some .int)) RX12 := ⟨hx, hb, hml, findClass_of_methodNamed Bk.named, atoms_spec (ws := (wu yX12_doing cX12_doing 5 (some .int))) Bk.pre⟩
  subst hsz
  have hD := hD0.self (sz := s.heap.size)
  generalize hAe : va_A w0 s.heap.size = A at hD hE ⊢
  have hA : ∀ q : Nat, s.heap.size ≤ q → A q := fun q h => by rw [← hAe]; exact Or.inr h
  have hw : Wd dC dI A s.heap s.heap [] w0 := ⟨hP, hD, va_S.rf⟩
  have hF : FE ksM [(12, 24, 24), (69, 0, 64), (70, 0, 10)] w0 w0 := FE.rf
  have hl := lv_entry ([.ref (ad 0), .int 0]) (n := 5) (Nat.le_of_ble_eq_true rfl)
  rw [lg_entry_eq]
  generalize (lg_sl ([.ref (ad 0), .int 0]) ++ List.replicate (5 - (lg_sl ([.ref (ad 0), .int 0])).length) Slot.unset).toArray = ls at hl ⊢
  have hl : lv_has ls 5 [(0, .ref (ad 0)), (1, .int 0)] := hl
  generalize hloc : ([] : List Loc) = locs at hw ⊢
  have hinX12 : ∀ w ∈ u_ws RX12 TX12 42, w ∈ (wu yX12_doing cX12_doing 5 (some .int)) := fun _ h => List.mem_cons_of_mem _ (up_71 h)
  have L32 : ∀ (n32 : Nat) (v32_2 : Int32) (v32_3 : Int32) (f32_0_30 : Int32) (f32_12_219 : Int32) (f32_12_223 : Int32) (H : Heap) (locs : List Loc) (ls : Array Slot) (w1 : va_W), 0 ≤ v32_2.toInt → v32_2.toInt ≤ 5 → 0 ≤ v32_3.toInt → v32_3.toInt ≤ 12 → 0 ≤ f32_0_30.toInt → f32_0_30.toInt ≤ 1 → 0 ≤ f32_12_219.toInt → f32_12_219.toInt ≤ 5 → (-1) ≤ f32_12_223.toInt → f32_12_223.toInt ≤ 9 → (12 - v32_3.toInt).toNat < n32 → Wd dC dI A s.heap H locs w1 → TW ksM ad cy B qr 12 w1 → FE ksM [(12, 24, 24), (69, 0, 64), (70, 0, 10)] w0 w1 → RW w1 → gi w1 0 30 = f32_0_30 → gi w1 12 219 = f32_12_219 → gi w1 12 223 = f32_12_223 → TT (fun n => m_X12_doing n 0 0 (sL w0)) (fun n => j_X12_doing 0 n 32 [(0 : Int), v32_2.toInt, v32_3.toInt] (sL w1)) → lv_has ls 5 [(0, .ref (ad 0)), (1, .int 0), (2, .int v32_2), (3, .int v32_3)] → W p l e ({ frames := 7, cells := 0, slots := 0, locals := 147 }) s m (List.toArray [.ref (ad 0), .int 0]) below meth c H locs 0 0 (MQ below (va_Qi (Py_X12_doing_1 ad cy B qr s1  w0) (fun u : va_W => wpost dC dI cy A u) A) (List.toArray [.ref (ad 0), .int 0]) s 0 0 A) (F0 m 32 ls []) := by
    intro n32
    induction n32 with
    | zero => intro v32_2 v32_3 f32_0_30 f32_12_219 f32_12_223 H locs ls w1 r2 t3 r4 t5 r6 t7 r9 t10 r12 t13 hm32 hw hT hF hRW c8 c11 c14 hM hl; omega
    | succ n32 ih32 =>
      intro v32_2 v32_3 f32_0_30 f32_12_219 f32_12_223 H locs ls w1 r2 t3 r4 t5 r6 t7 r9 t10 r12 t13 hm32 hw hT hF hRW c8 c11 c14 hM hl
      have J115 : ∀ (v115_4 : Int32) (f115_4__36_v32_2_toInt_3_v32_3_toInt_0_toNat : Int32) (f115_5__v32_2_toInt_toNat : Int32) (H : Heap) (locs : List Loc) (ls : Array Slot) (w15 : va_W), 0 ≤ v32_2.toInt → v32_2.toInt ≤ 5 → 0 ≤ v32_3.toInt → v32_3.toInt ≤ 11 → 0 ≤ v115_4.toInt → v115_4.toInt ≤ 213 → 0 ≤ f32_0_30.toInt → f32_0_30.toInt ≤ 1 → 0 ≤ f32_12_219.toInt → f32_12_219.toInt ≤ 5 → (-1) ≤ f32_12_223.toInt → f32_12_223.toInt ≤ 9 → 1 ≤ f115_5__v32_2_toInt_toNat.toInt → f115_5__v32_2_toInt_toNat.toInt ≤ 12 → Wd dC dI A s.heap H locs w15 → TW ksM ad cy B qr 12 w15 → FE ksM [(12, 24, 24), (69, 0, 64), (70, 0, 10)] w0 w15 → RW w15 → gi w15 0 30 = f32_0_30 → gi w15 12 219 = f32_12_219 → gi w15 12 223 = f32_12_223 → gi w15 4 (36 * v32_2.toInt + 3 * v32_3.toInt + 0).toNat = f115_4__36_v32_2_toInt_3_v32_3_toInt_0_toNat → gi w15 5 (v32_2.toInt).toNat = f115_5__v32_2_toInt_toNat → TT (fun n => m_X12_doing n 0 0 (sL w0)) (fun n => b_X12_doing_115 (j_X12_doing 0 n) n 0 (0 : Int) (v32_2.toInt) (v32_3.toInt) (sL w15)) → lv_has ls 5 [(0, .ref (ad 0)), (1, .int 0), (2, .int v32_2), (3, .int v32_3), (4, .int v115_4)] → W p l e ({ frames := 7, cells := 0, slots := 0, locals := 147 }) s m (List.toArray [.ref (ad 0), .int 0]) below meth c H locs 0 0 (MQ below (va_Qi (Py_X12_doing_1 ad cy B qr s1  w0) (fun u : va_W => wpost dC dI cy A u) A) (List.toArray [.ref (ad 0), .int 0]) s 0 0 A) (F0 m 115 ls []) := by
        intro v115_4 f115_4__36_v32_2_toInt_3_v32_3_toInt_0_toNat f115_5__v32_2_toInt_toNat H locs ls w15 r16 t17 r18 t19 r20 t21 r22 t23 r25 t26 r28 t29 r32 t33 hw hT hF hRW c24 c27 c30 c31 c34 hM hl
        obtain ⟨x35, ex35⟩ : ∃ y : Int32, y = v32_3 + Int32.ofInt 1 := ⟨_, rfl⟩
        have erx35 := ex35
        refine lv_iinc (v := x35) (lv' := [(3, .int x35), (0, .ref (ad 0)), (1, .int 0), (2, .int v32_2), (4, .int v115_4)]) hx hb dX12_doing_115 hl (k := 3) rfl ex35.symm (by decide) rfl (fun ls hl => ?_)
        have ex35 : x35.toInt = v32_3.toInt + 1 := by rw [ex35]; exact wk_add (y := 1) (show -2147483648 ≤ v32_3.toInt + 1 by omega) (show v32_3.toInt + 1 ≤ 2147483647 by omega)
        replace hM := hM.lt ex35.symm
        refine lv_goto (tgt := 32) hx hb dX12_doing_118 (by decide) ?_
        exact ih32 v32_2 x35 f32_0_30 f32_12_219 f32_12_223 H locs ls w15 (show 0 ≤ v32_2.toInt from r16) (show v32_2.toInt ≤ 5 from t17) (show 0 ≤ x35.toInt by first | with_reducible assumption | omega) (show x35.toInt ≤ 12 by first | with_reducible assumption | omega) (show 0 ≤ f32_0_30.toInt from r22) (show f32_0_30.toInt ≤ 1 from t23) (show 0 ≤ f32_12_219.toInt from r25) (show f32_12_219.toInt ≤ 5 from t26) (show (-1) ≤ f32_12_223.toInt from r28) (show f32_12_223.toInt ≤ 9 from t29) (show (12 - x35.toInt).toNat < n32 by first | exact tn_lt hm32 (by omega) (by omega) | omega) hw hT hF hRW c24 c27 c30 hM (lv_sub hl [1, 2, 3, 0] rfl)
      replace hM := hM.suc (fun _ => e_X12_doing_32)
      refine lv_iload_n hx hb dX12_doing_32 rfl (lv_at hl 3 rfl) ?_
      refine lv_aload_n hx hb dX12_doing_33 rfl (lv_at hl 0 rfl) ?_
      refine tk_getA hC hK hw hT hinX12 kM_at0 (by decide) rfl 6 (by decide) (List.mem_cons_of_mem _ uw_6_18) rfl rfl dX12_doing_34 ?_
      refine lv_iload_n hx hb dX12_doing_37 rfl (lv_at hl 2 rfl) ?_
      refine tk_iald hC hK hw hT kM_at5 rfl rfl (show 0 ≤ v32_2.toInt from r2) (show v32_2.toInt < 6 from Int.lt_of_le_of_lt t3 (by decide)) dX12_doing_38 (fun x36 c37 rx36 tx36 => ?_)
      have hox36 := c37
      replace hM := hM.rd (sL_at (kM_lt kM_at5) hox36)
      have c37 : gi w1 5 (v32_2.toInt).toNat = x36 := (congrArg (gi w1 5) (congrArg Int.toNat (show v32_2.toInt = v32_2.toInt from rfl))).trans c37
      refine lv_icmp_ge (tgt := 121) hx hb dX12_doing_39 (by decide) (fun c38 => ?_) (fun c38 => ?_)
      · have c38 : x36.toInt ≤ v32_3.toInt := wk_le.mp c38
        replace hM := hM.pos c38
        refine lv_iconst (v := 3) hx hb dX12_doing_121 (by decide) ?_
        exact tk_iret hC hr hlocks hK ⟨hT, hF, hM.ret (by decide), (Or.inr (Or.inr (Or.inr (Or.inr (Or.inr ⟨rfl, ⟨f32_12_219, c11, (show (-1) ≤ f32_12_219.toInt from Int.le_trans (by decide) r9), (show f32_12_219.toInt ≤ 5 from t10)⟩⟩)))))⟩ hw dX12_doing_122
      · have c38 : v32_3.toInt < x36.toInt := wk_leF c38
        replace hM := hM.neg (Int.not_le.mpr c38)
        refine lv_bipush (v := 36) hx hb dX12_doing_42 (by decide) ?_
        refine lv_iload_n hx hb dX12_doing_44 rfl (lv_at hl 2 rfl) ?_
        refine lv_imul hx hb dX12_doing_45 ?_
        refine lv_topi (fun x39 ex39 => ?_)
        have ezx39 := ex39
        have ex39 : x39.toInt = (36 : Int) * v32_2.toInt := by rw [ex39]; exact wk_mul (show (-2147483648) ≤ (36 : Int) * v32_2.toInt by omega) (show (36 : Int) * v32_2.toInt ≤ 2147483647 by omega)
        replace hM := hM.lt ex39.symm
        refine lv_iconst (v := 3) hx hb dX12_doing_46 (by decide) ?_
        refine lv_iload_n hx hb dX12_doing_47 rfl (lv_at hl 3 rfl) ?_
        refine lv_imul hx hb dX12_doing_48 ?_
        refine lv_topi (fun x40 ex40 => ?_)
        have ezx40 := ex40
        have ex40 : x40.toInt = (3 : Int) * v32_3.toInt := by rw [ex40]; exact wk_mul (show (-2147483648) ≤ (3 : Int) * v32_3.toInt by omega) (show (3 : Int) * v32_3.toInt ≤ 2147483647 by omega)
        replace hM := hM.lt ex40.symm
        refine lv_iadd hx hb dX12_doing_49 ?_
        refine lv_topi (fun x41 ex41 => ?_)
        have ezx41 := ex41
        have ex41 : x41.toInt = x39.toInt + x40.toInt := by rw [ex41]; exact wk_add (show (-2147483648) ≤ x39.toInt + x40.toInt by omega) (show x39.toInt + x40.toInt ≤ 2147483647 by omega)
        replace hM := hM.lt ex41.symm
        refine lv_istore (lv' := [(4, .int x41), (0, .ref (ad 0)), (1, .int 0), (2, .int v32_2), (3, .int v32_3)]) hx hb dX12_doing_50 hl (by decide) rfl (fun ls hl => ?_)
        refine lv_aload_n hx hb dX12_doing_52 rfl (lv_at hl 1 rfl) ?_
        refine lv_iload_n hx hb dX12_doing_53 rfl (lv_at hl 2 rfl) ?_
        refine lv_aload_n hx hb dX12_doing_54 rfl (lv_at hl 1 rfl) ?_
        refine tk_getA hC hK hw hT hinX12 kM_at0 (by decide) rfl 5 (by decide) (List.mem_cons_of_mem _ uw_6_17) rfl rfl dX12_doing_55 ?_
        refine lv_iload hx hb dX12_doing_58 (lv_at hl 0 rfl) ?_
        refine tk_iald hC hK hw hT kM_at4 rfl rfl (show 0 ≤ x41.toInt by first | with_reducible assumption | omega) (show x41.toInt < 216 by first | with_reducible assumption | omega) dX12_doing_60 (fun x42 c43 rx42 tx42 => ?_)
        have hox42 := c43
        replace hM := hM.rd (sL_at (kM_lt kM_at4) hox42)
        have c43 : gi w1 4 (36 * v32_2.toInt + 3 * v32_3.toInt + 0).toNat = x42 := (congrArg (gi w1 4) (congrArg Int.toNat (show 36 * v32_2.toInt + 3 * v32_3.toInt + 0 = x41.toInt by first | exact Int.le_antisymm (by omega) (by omega) | omega))).trans c43
        refine tk_Vi hC hK hw hT hA hE hSR kM_at0 (by decide) rfl (ky_X12_mayDo_1 l adK adV dC dI cy ad B hB0 (Int.le_trans hB1 (by decide)) qr s1   x42 w1 H.size hT ) (cwV 2 hC.2.2.2.2 uV_RX12_398 rfl rfl rfl (by decide +kernel) ⟨Nat.le_of_ble_eq_true rfl, Nat.le_of_ble_eq_true rfl⟩) rfl hl.1 rfl (Nat.le_of_ble_eq_true rfl) dX12_doing_61 (fun r44 w46 H locs hp45 hw => ?_)
        obtain ⟨rfl, hv68, hg67⟩ := hp45
        rcases hg67 with rfl | ⟨rfl, g48, g49⟩ | ⟨rfl, g50, g51⟩ | ⟨rfl, g52⟩ | ⟨rfl, g53, g54, ⟨x55, c56, rx55, tx55⟩⟩ | ⟨rfl, g57, g58, ⟨x59, c60, rx59, tx59⟩, hq61⟩ | ⟨rfl, g62, g63, ⟨x64, c65, rx64, tx64⟩⟩ | ⟨rfl, g66⟩
        · replace hM := hM.call (r' := 0) hv68 (by decide)
          refine lv_if_eq (tgt := 115) hx hb dX12_doing_64 (by decide) (fun _ => ?_) (fun c => absurd (by decide) c)
          replace hM := hM.pos (by decide)
          exact J115 x41 x42 x36 H locs ls w1 (show 0 ≤ v32_2.toInt from r2) (show v32_2.toInt ≤ 5 from t3) (show 0 ≤ v32_3.toInt from r4) (show v32_3.toInt ≤ 11 by first | with_reducible assumption | omega) (show 0 ≤ x41.toInt by first | with_reducible assumption | omega) (show x41.toInt ≤ 213 by first | with_reducible assumption | omega) (show 0 ≤ f32_0_30.toInt from r6) (show f32_0_30.toInt ≤ 1 from t7) (show 0 ≤ f32_12_219.toInt from r9) (show f32_12_219.toInt ≤ 5 from t10) (show (-1) ≤ f32_12_223.toInt from r12) (show f32_12_223.toInt ≤ 9 from t13) (show 1 ≤ x36.toInt by first | with_reducible assumption | omega) (show x36.toInt ≤ 12 from tx36)  hw hT hF hRW c8 c11 c14 c43 c37 hM (lv_sub hl [1, 2, 3, 4, 0] rfl)
        · replace hM := hM.call (r' := 0) hv68 (by decide)
          refine lv_if_eq (tgt := 115) hx hb dX12_doing_64 (by decide) (fun _ => ?_) (fun c => absurd (by decide) c)
          replace hM := hM.pos (by decide)
          exact J115 x41 x42 x36 H locs ls w1 (show 0 ≤ v32_2.toInt from r2) (show v32_2.toInt ≤ 5 from t3) (show 0 ≤ v32_3.toInt from r4) (show v32_3.toInt ≤ 11 by first | with_reducible assumption | omega) (show 0 ≤ x41.toInt by first | with_reducible assumption | omega) (show x41.toInt ≤ 213 by first | with_reducible assumption | omega) (show 0 ≤ f32_0_30.toInt from r6) (show f32_0_30.toInt ≤ 1 from t7) (show 0 ≤ f32_12_219.toInt from r9) (show f32_12_219.toInt ≤ 5 from t10) (show (-1) ≤ f32_12_223.toInt from r12) (show f32_12_223.toInt ≤ 9 from t13) (show 1 ≤ x36.toInt by first | with_reducible assumption | omega) (show x36.toInt ≤ 12 from tx36)  hw hT hF hRW c8 c11 c14 c43 c37 hM (lv_sub hl [1, 2, 3, 4, 0] rfl)
        · replace hM := hM.call (r' := 0) hv68 (by decide)
          refine lv_if_eq (tgt := 115) hx hb dX12_doing_64 (by decide) (fun _ => ?_) (fun c => absurd (by decide) c)
          replace hM := hM.pos (by decide)
          exact J115 x41 x42 x36 H locs ls w1 (show 0 ≤ v32_2.toInt from r2) (show v32_2.toInt ≤ 5 from t3) (show 0 ≤ v32_3.toInt from r4) (show v32_3.toInt ≤ 11 by first | with_reducible assumption | omega) (show 0 ≤ x41.toInt by first | with_reducible assumption | omega) (show x41.toInt ≤ 213 by first | with_reducible assumption | omega) (show 0 ≤ f32_0_30.toInt from r6) (show f32_0_30.toInt ≤ 1 from t7) (show 0 ≤ f32_12_219.toInt from r9) (show f32_12_219.toInt ≤ 5 from t10) (show (-1) ≤ f32_12_223.toInt from r12) (show f32_12_223.toInt ≤ 9 from t13) (show 1 ≤ x36.toInt by first | with_reducible assumption | omega) (show x36.toInt ≤ 12 from tx36)  hw hT hF hRW c8 c11 c14 c43 c37 hM (lv_sub hl [1, 2, 3, 4, 0] rfl)
        · replace hM := hM.call (r' := 1) hv68 (by decide)
          refine lv_if_eq (tgt := 115) hx hb dX12_doing_64 (by decide) (fun c => absurd c (by decide)) (fun _ => ?_)
          replace hM := hM.neg (by decide)
          refine lv_aload_n hx hb dX12_doing_67 rfl (lv_at hl 1 rfl) ?_
          refine tk_getA hC hK hw hT hinX12 kM_at0 (by decide) rfl 5 (by decide) (List.mem_cons_of_mem _ uw_6_17) rfl rfl dX12_doing_68 ?_
          refine lv_iload hx hb dX12_doing_71 (lv_at hl 0 rfl) ?_
          refine lv_iconst (v := 1) hx hb dX12_doing_73 (by decide) ?_
          refine lv_iadd hx hb dX12_doing_74 ?_
          refine lv_topi (fun x69 ex69 => ?_)
          have ezx69 := ex69
          have ex69 : x69.toInt = x41.toInt + (1 : Int) := by rw [ex69]; exact wk_add (show (-2147483648) ≤ x41.toInt + (1 : Int) by omega) (show x41.toInt + (1 : Int) ≤ 2147483647 by omega)
          replace hM := hM.lt ex69.symm
          refine tk_iald hC hK hw hT kM_at4 rfl rfl (show 0 ≤ x69.toInt by first | with_reducible assumption | omega) (show x69.toInt < 216 by first | with_reducible assumption | omega) dX12_doing_75 (fun x70 c71 rx70 tx70 => ?_)
          have hox70 := c71
          replace hM := hM.rd (sL_at (kM_lt kM_at4) hox70)
          have c71 : gi w1 4 (36 * v32_2.toInt + 3 * v32_3.toInt + 1).toNat = x70 := (congrArg (gi w1 4) (congrArg Int.toNat (show 36 * v32_2.toInt + 3 * v32_3.toInt + 1 = x69.toInt by first | exact Int.le_antisymm (by omega) (by omega) | omega))).trans c71
          refine lv_if_lt (tgt := 107) hx hb dX12_doing_76 (by decide) (fun c72 => ?_) (fun c72 => ?_)
          · have c72 : x70.toInt < (0 : Int) := wk_lt.mp c72
            replace hM := hM.pos c72
            refine lv_aload_n hx hb dX12_doing_107 rfl (lv_at hl 1 rfl) ?_
            refine tk_getA hC hK hw hT hinX12 kM_at0 (by decide) rfl 5 (by decide) (List.mem_cons_of_mem _ uw_6_17) rfl rfl dX12_doing_108 ?_
            refine lv_iload hx hb dX12_doing_111 (lv_at hl 0 rfl) ?_
            refine tk_iald hC hK hw hT kM_at4 rfl rfl (show 0 ≤ x41.toInt by first | with_reducible assumption | omega) (show x41.toInt < 216 by first | with_reducible assumption | omega) dX12_doing_113 (fun x73 c74 rx73 tx73 => ?_)
            have hox73 := c74
            have c74 : gi w1 4 (36 * v32_2.toInt + 3 * v32_3.toInt + 0).toNat = x73 := (congrArg (gi w1 4) (congrArg Int.toNat (show 36 * v32_2.toInt + 3 * v32_3.toInt + 0 = x41.toInt by first | exact Int.le_antisymm (by omega) (by omega) | omega))).trans c74
            refine wk_top x42 (c74.symm.trans c43) ?_
            replace hM := hM.rd ((sL_at (kM_lt kM_at4) hox73).trans (congrArg Int32.toInt (c74.symm.trans c43)))
            exact tk_iret hC hr hlocks hK ⟨hT, hF, hM.ret rfl, (Or.inl ⟨(show x42.toInt ≤ (-1) by first | with_reducible assumption | omega), ⟨f32_12_219, c11, (show 0 ≤ f32_12_219.toInt from r9), (show f32_12_219.toInt ≤ 5 from t10)⟩⟩)⟩ hw dX12_doing_114
          · have c72 : (0 : Int) ≤ x70.toInt := wk_ltF c72
            replace hM := hM.neg (Int.not_lt.mpr c72)
            refine lv_aload_n hx hb dX12_doing_79 rfl (lv_at hl 1 rfl) ?_
            refine lv_iload_n hx hb dX12_doing_80 rfl (lv_at hl 3 rfl) ?_
            refine lv_aload_n hx hb dX12_doing_81 rfl (lv_at hl 1 rfl) ?_
            refine tk_getA hC hK hw hT hinX12 kM_at0 (by decide) rfl 5 (by decide) (List.mem_cons_of_mem _ uw_6_17) rfl rfl dX12_doing_82 ?_
            refine lv_iload hx hb dX12_doing_85 (lv_at hl 0 rfl) ?_
            refine lv_iconst (v := 1) hx hb dX12_doing_87 (by decide) ?_
            refine lv_iadd hx hb dX12_doing_88 ?_
            refine lv_topi (fun x75 ex75 => ?_)
            have ezx75 := ex75
            have ex75 : x75.toInt = x41.toInt + (1 : Int) := by rw [ex75]; exact wk_add (show (-2147483648) ≤ x41.toInt + (1 : Int) by omega) (show x41.toInt + (1 : Int) ≤ 2147483647 by omega)
            replace hM := hM.lt ex75.symm
            refine tk_iald hC hK hw hT kM_at4 rfl rfl (show 0 ≤ x75.toInt by first | with_reducible assumption | omega) (show x75.toInt < 216 by first | with_reducible assumption | omega) dX12_doing_89 (fun x76 c77 rx76 tx76 => ?_)
            have hox76 := c77
            have c77 : gi w1 4 (36 * v32_2.toInt + 3 * v32_3.toInt + 1).toNat = x76 := (congrArg (gi w1 4) (congrArg Int.toNat (show 36 * v32_2.toInt + 3 * v32_3.toInt + 1 = x75.toInt by first | exact Int.le_antisymm (by omega) (by omega) | omega))).trans c77
            refine wk_top x70 (c77.symm.trans c71) ?_
            replace hM := hM.rd ((sL_at (kM_lt kM_at4) hox76).trans (congrArg Int32.toInt (c77.symm.trans c71)))
            refine lv_aload_n hx hb dX12_doing_90 rfl (lv_at hl 1 rfl) ?_
            refine tk_getA hC hK hw hT hinX12 kM_at0 (by decide) rfl 5 (by decide) (List.mem_cons_of_mem _ uw_6_17) rfl rfl dX12_doing_91 ?_
            refine lv_iload hx hb dX12_doing_94 (lv_at hl 0 rfl) ?_
            refine lv_iconst (v := 2) hx hb dX12_doing_96 (by decide) ?_
            refine lv_iadd hx hb dX12_doing_97 ?_
            refine lv_topi (fun x78 ex78 => ?_)
            have ezx78 := ex78
            have ex78 : x78.toInt = x41.toInt + (2 : Int) := by rw [ex78]; exact wk_add (show (-2147483648) ≤ x41.toInt + (2 : Int) by omega) (show x41.toInt + (2 : Int) ≤ 2147483647 by omega)
            replace hM := hM.lt ex78.symm
            refine tk_iald hC hK hw hT kM_at4 rfl rfl (show 0 ≤ x78.toInt by first | with_reducible assumption | omega) (show x78.toInt < 216 by first | with_reducible assumption | omega) dX12_doing_98 (fun x79 c80 rx79 tx79 => ?_)
            have hox79 := c80
            replace hM := hM.rd (sL_at (kM_lt kM_at4) hox79)
            have c80 : gi w1 4 (36 * v32_2.toInt + 3 * v32_3.toInt + 2).toNat = x79 := (congrArg (gi w1 4) (congrArg Int.toNat (show 36 * v32_2.toInt + 3 * v32_3.toInt + 2 = x78.toInt by first | exact Int.le_antisymm (by omega) (by omega) | omega))).trans c80
            have hz := (hRW v32_2.toInt v32_3.toInt (by omega) (by omega) (by omega) (by rw [c37]; omega)).resolve_left (by rw [c71]; omega)
            rw [c71, c80] at hz
            obtain ⟨hz1, hz2, hz3⟩ := hz
            obtain ⟨x81, c82, rx81, tx81⟩ := hT.rdi (lo := 0) (hi := 64) (k := 24) kM_at0 (by decide) rfl
            refine tk_Vl hC hK hw hT hA hE hSR kM_at0 (by decide) rfl (ky_X12_reckons_1 l adK adV dC dI cy ad B hB0 (Int.le_trans hB1 (by decide)) qr s1   v32_2 (show 0 ≤ v32_2.toInt from r2) (show v32_2.toInt ≤ 5 from t3) x70 (show 0 ≤ x70.toInt by first | with_reducible assumption | omega) (show x70.toInt ≤ 400 by first | with_reducible assumption | omega) x79 (show 0 ≤ x79.toInt by first | with_reducible assumption | omega) (show x79.toInt ≤ 400 by first | with_reducible assumption | omega) w1 H.size hT x81 c82 (show 0 ≤ x81.toInt by first | with_reducible assumption | omega) (show x81.toInt ≤ 64 by first | with_reducible assumption | omega) ⟨hz1, hz3⟩) (cwV 3 hC.2.2.2.2 uV_RX12_401 rfl rfl rfl (by decide +kernel) ⟨Nat.le_of_ble_eq_true rfl, Nat.le_of_ble_eq_true rfl⟩) rfl hl.1 rfl (Nat.le_of_ble_eq_true rfl) dX12_doing_99 (fun r83 w85 H locs hp84 hw => ?_)
            obtain ⟨hT, k86, hv90, hg89⟩ := hp84
            have hRW := RW_FE k86 (fun _ => rfl) (fun _ => rfl) (fun _ => rfl) hRW
            have hF := hF.tr k86 (by decide)
            have c91 := k86.gi kM_at0 (by decide) c8
            have c92 := k86.gi kM_at12 (by decide) c11
            have c93 := k86.gi kM_at12 (by decide) c14
            have c94 := k86.gi kM_at5 rfl c37
            have c95 := k86.gi kM_at4 rfl c43
            have c96 := k86.gi kM_at4 rfl c71
            have c97 := k86.gi kM_at4 rfl c80
            obtain ⟨x87, c88, rx87, tx87⟩ := hg89
            replace hM := hM.call hv90 rfl
            refine lv_lconst (v := 1) hx hb dX12_doing_102 (by decide) ?_
            refine W.lcmp hx hb dX12_doing_103 ?_
            refine lv_if_ne (tgt := 115) hx hb dX12_doing_104 (by decide) (fun c98 => ?_) (fun c98 => ?_)
            · have c98 : ¬ r83.toInt = (1 : Int) := wk_ceF c98
              replace hM := hM.pos c98
              exact J115 x41 x42 x36 H locs ls w85 (show 0 ≤ v32_2.toInt from r2) (show v32_2.toInt ≤ 5 from t3) (show 0 ≤ v32_3.toInt from r4) (show v32_3.toInt ≤ 11 by first | with_reducible assumption | omega) (show 0 ≤ x41.toInt by first | with_reducible assumption | omega) (show x41.toInt ≤ 213 by first | with_reducible assumption | omega) (show 0 ≤ f32_0_30.toInt from r6) (show f32_0_30.toInt ≤ 1 from t7) (show 0 ≤ f32_12_219.toInt from r9) (show f32_12_219.toInt ≤ 5 from t10) (show (-1) ≤ f32_12_223.toInt from r12) (show f32_12_223.toInt ≤ 9 from t13) (show 1 ≤ x36.toInt by first | with_reducible assumption | omega) (show x36.toInt ≤ 12 from tx36)  hw hT hF hRW c91 c92 c93 c95 c94 hM (lv_sub hl [1, 2, 3, 4, 0] rfl)
            · have c98 : r83.toInt = (1 : Int) := wk_ceT c98
              replace hM := hM.neg (fun q => q c98)
              refine lv_aload_n hx hb dX12_doing_107 rfl (lv_at hl 1 rfl) ?_
              refine tk_getA hC hK hw hT hinX12 kM_at0 (by decide) rfl 5 (by decide) (List.mem_cons_of_mem _ uw_6_17) rfl rfl dX12_doing_108 ?_
              refine lv_iload hx hb dX12_doing_111 (lv_at hl 0 rfl) ?_
              refine tk_iald hC hK hw hT kM_at4 rfl rfl (show 0 ≤ x41.toInt by first | with_reducible assumption | omega) (show x41.toInt < 216 by first | with_reducible assumption | omega) dX12_doing_113 (fun x99 c100 rx99 tx99 => ?_)
              have hox99 := c100
              have c100 : gi w85 4 (36 * v32_2.toInt + 3 * v32_3.toInt + 0).toNat = x99 := (congrArg (gi w85 4) (congrArg Int.toNat (show 36 * v32_2.toInt + 3 * v32_3.toInt + 0 = x41.toInt by first | exact Int.le_antisymm (by omega) (by omega) | omega))).trans c100
              refine wk_top x42 (c100.symm.trans c95) ?_
              replace hM := hM.rd ((sL_at (kM_lt kM_at4) hox99).trans (congrArg Int32.toInt (c100.symm.trans c95)))
              exact tk_iret hC hr hlocks hK ⟨hT, hF, hM.ret rfl, (Or.inl ⟨(show x42.toInt ≤ (-1) by first | with_reducible assumption | omega), ⟨f32_12_219, c92, (show 0 ≤ f32_12_219.toInt from r9), (show f32_12_219.toInt ≤ 5 from t10)⟩⟩)⟩ hw dX12_doing_114
        · replace hM := hM.call (r' := 1) hv68 (by decide)
          refine lv_if_eq (tgt := 115) hx hb dX12_doing_64 (by decide) (fun c => absurd c (by decide)) (fun _ => ?_)
          replace hM := hM.neg (by decide)
          refine lv_aload_n hx hb dX12_doing_67 rfl (lv_at hl 1 rfl) ?_
          refine tk_getA hC hK hw hT hinX12 kM_at0 (by decide) rfl 5 (by decide) (List.mem_cons_of_mem _ uw_6_17) rfl rfl dX12_doing_68 ?_
          refine lv_iload hx hb dX12_doing_71 (lv_at hl 0 rfl) ?_
          refine lv_iconst (v := 1) hx hb dX12_doing_73 (by decide) ?_
          refine lv_iadd hx hb dX12_doing_74 ?_
          refine lv_topi (fun x101 ex101 => ?_)
          have ezx101 := ex101
          have ex101 : x101.toInt = x41.toInt + (1 : Int) := by rw [ex101]; exact wk_add (show (-2147483648) ≤ x41.toInt + (1 : Int) by omega) (show x41.toInt + (1 : Int) ≤ 2147483647 by omega)
          replace hM := hM.lt ex101.symm
          refine tk_iald hC hK hw hT kM_at4 rfl rfl (show 0 ≤ x101.toInt by first | with_reducible assumption | omega) (show x101.toInt < 216 by first | with_reducible assumption | omega) dX12_doing_75 (fun x102 c103 rx102 tx102 => ?_)
          have hox102 := c103
          replace hM := hM.rd (sL_at (kM_lt kM_at4) hox102)
          have c103 : gi w1 4 (36 * v32_2.toInt + 3 * v32_3.toInt + 1).toNat = x102 := (congrArg (gi w1 4) (congrArg Int.toNat (show 36 * v32_2.toInt + 3 * v32_3.toInt + 1 = x101.toInt by first | exact Int.le_antisymm (by omega) (by omega) | omega))).trans c103
          refine lv_if_lt (tgt := 107) hx hb dX12_doing_76 (by decide) (fun c104 => ?_) (fun c104 => ?_)
          · have c104 : x102.toInt < (0 : Int) := wk_lt.mp c104
            replace hM := hM.pos c104
            refine lv_aload_n hx hb dX12_doing_107 rfl (lv_at hl 1 rfl) ?_
            refine tk_getA hC hK hw hT hinX12 kM_at0 (by decide) rfl 5 (by decide) (List.mem_cons_of_mem _ uw_6_17) rfl rfl dX12_doing_108 ?_
            refine lv_iload hx hb dX12_doing_111 (lv_at hl 0 rfl) ?_
            refine tk_iald hC hK hw hT kM_at4 rfl rfl (show 0 ≤ x41.toInt by first | with_reducible assumption | omega) (show x41.toInt < 216 by first | with_reducible assumption | omega) dX12_doing_113 (fun x105 c106 rx105 tx105 => ?_)
            have hox105 := c106
            have c106 : gi w1 4 (36 * v32_2.toInt + 3 * v32_3.toInt + 0).toNat = x105 := (congrArg (gi w1 4) (congrArg Int.toNat (show 36 * v32_2.toInt + 3 * v32_3.toInt + 0 = x41.toInt by first | exact Int.le_antisymm (by omega) (by omega) | omega))).trans c106
            refine wk_top x42 (c106.symm.trans c43) ?_
            replace hM := hM.rd ((sL_at (kM_lt kM_at4) hox105).trans (congrArg Int32.toInt (c106.symm.trans c43)))
            exact tk_iret hC hr hlocks hK ⟨hT, hF, hM.ret rfl, (Or.inr (Or.inr (Or.inl ⟨(wk_eq.mpr (show x42.toInt = 0 by first | exact Int.le_antisymm (by omega) (by omega) | omega)), ⟨x55, c56, (show 0 ≤ x55.toInt by first | with_reducible assumption | omega), (show x55.toInt ≤ 11 by first | with_reducible assumption | omega)⟩, ⟨f32_12_219, c11, (show (-1) ≤ f32_12_219.toInt from Int.le_trans (by decide) r9), (show f32_12_219.toInt ≤ 5 from t10)⟩⟩)))⟩ hw dX12_doing_114
          · have c104 : (0 : Int) ≤ x102.toInt := wk_ltF c104
            replace hM := hM.neg (Int.not_lt.mpr c104)
            refine lv_aload_n hx hb dX12_doing_79 rfl (lv_at hl 1 rfl) ?_
            refine lv_iload_n hx hb dX12_doing_80 rfl (lv_at hl 3 rfl) ?_
            refine lv_aload_n hx hb dX12_doing_81 rfl (lv_at hl 1 rfl) ?_
            refine tk_getA hC hK hw hT hinX12 kM_at0 (by decide) rfl 5 (by decide) (List.mem_cons_of_mem _ uw_6_17) rfl rfl dX12_doing_82 ?_
            refine lv_iload hx hb dX12_doing_85 (lv_at hl 0 rfl) ?_
            refine lv_iconst (v := 1) hx hb dX12_doing_87 (by decide) ?_
            refine lv_iadd hx hb dX12_doing_88 ?_
            refine lv_topi (fun x107 ex107 => ?_)
            have ezx107 := ex107
            have ex107 : x107.toInt = x41.toInt + (1 : Int) := by rw [ex107]; exact wk_add (show (-2147483648) ≤ x41.toInt + (1 : Int) by omega) (show x41.toInt + (1 : Int) ≤ 2147483647 by omega)
            replace hM := hM.lt ex107.symm
            refine tk_iald hC hK hw hT kM_at4 rfl rfl (show 0 ≤ x107.toInt by first | with_reducible assumption | omega) (show x107.toInt < 216 by first | with_reducible assumption | omega) dX12_doing_89 (fun x108 c109 rx108 tx108 => ?_)
            have hox108 := c109
            have c109 : gi w1 4 (36 * v32_2.toInt + 3 * v32_3.toInt + 1).toNat = x108 := (congrArg (gi w1 4) (congrArg Int.toNat (show 36 * v32_2.toInt + 3 * v32_3.toInt + 1 = x107.toInt by first | exact Int.le_antisymm (by omega) (by omega) | omega))).trans c109
            refine wk_top x102 (c109.symm.trans c103) ?_
            replace hM := hM.rd ((sL_at (kM_lt kM_at4) hox108).trans (congrArg Int32.toInt (c109.symm.trans c103)))
            refine lv_aload_n hx hb dX12_doing_90 rfl (lv_at hl 1 rfl) ?_
            refine tk_getA hC hK hw hT hinX12 kM_at0 (by decide) rfl 5 (by decide) (List.mem_cons_of_mem _ uw_6_17) rfl rfl dX12_doing_91 ?_
            refine lv_iload hx hb dX12_doing_94 (lv_at hl 0 rfl) ?_
            refine lv_iconst (v := 2) hx hb dX12_doing_96 (by decide) ?_
            refine lv_iadd hx hb dX12_doing_97 ?_
            refine lv_topi (fun x110 ex110 => ?_)
            have ezx110 := ex110
            have ex110 : x110.toInt = x41.toInt + (2 : Int) := by rw [ex110]; exact wk_add (show (-2147483648) ≤ x41.toInt + (2 : Int) by omega) (show x41.toInt + (2 : Int) ≤ 2147483647 by omega)
            replace hM := hM.lt ex110.symm
            refine tk_iald hC hK hw hT kM_at4 rfl rfl (show 0 ≤ x110.toInt by first | with_reducible assumption | omega) (show x110.toInt < 216 by first | with_reducible assumption | omega) dX12_doing_98 (fun x111 c112 rx111 tx111 => ?_)
            have hox111 := c112
            replace hM := hM.rd (sL_at (kM_lt kM_at4) hox111)
            have c112 : gi w1 4 (36 * v32_2.toInt + 3 * v32_3.toInt + 2).toNat = x111 := (congrArg (gi w1 4) (congrArg Int.toNat (show 36 * v32_2.toInt + 3 * v32_3.toInt + 2 = x110.toInt by first | exact Int.le_antisymm (by omega) (by omega) | omega))).trans c112
            have hz := (hRW v32_2.toInt v32_3.toInt (by omega) (by omega) (by omega) (by rw [c37]; omega)).resolve_left (by rw [c103]; omega)
            rw [c103, c112] at hz
            obtain ⟨hz1, hz2, hz3⟩ := hz
            obtain ⟨x113, c114, rx113, tx113⟩ := hT.rdi (lo := 0) (hi := 64) (k := 24) kM_at0 (by decide) rfl
            refine tk_Vl hC hK hw hT hA hE hSR kM_at0 (by decide) rfl (ky_X12_reckons_1 l adK adV dC dI cy ad B hB0 (Int.le_trans hB1 (by decide)) qr s1   v32_2 (show 0 ≤ v32_2.toInt from r2) (show v32_2.toInt ≤ 5 from t3) x102 (show 0 ≤ x102.toInt by first | with_reducible assumption | omega) (show x102.toInt ≤ 400 by first | with_reducible assumption | omega) x111 (show 0 ≤ x111.toInt by first | with_reducible assumption | omega) (show x111.toInt ≤ 400 by first | with_reducible assumption | omega) w1 H.size hT x113 c114 (show 0 ≤ x113.toInt by first | with_reducible assumption | omega) (show x113.toInt ≤ 64 by first | with_reducible assumption | omega) ⟨hz1, hz3⟩) (cwV 3 hC.2.2.2.2 uV_RX12_401 rfl rfl rfl (by decide +kernel) ⟨Nat.le_of_ble_eq_true rfl, Nat.le_of_ble_eq_true rfl⟩) rfl hl.1 rfl (Nat.le_of_ble_eq_true rfl) dX12_doing_99 (fun r115 w117 H locs hp116 hw => ?_)
            obtain ⟨hT, k118, hv122, hg121⟩ := hp116
            have hRW := RW_FE k118 (fun _ => rfl) (fun _ => rfl) (fun _ => rfl) hRW
            have hF := hF.tr k118 (by decide)
            have c123 := k118.gi kM_at0 (by decide) c8
            have c124 := k118.gi kM_at12 (by decide) c11
            have c125 := k118.gi kM_at12 (by decide) c14
            have c126 := k118.gi kM_at5 rfl c37
            have c127 := k118.gi kM_at4 rfl c43
            have c128 := k118.gi kM_at0 (by decide) c56
            have c129 := k118.gi kM_at4 rfl c103
            have c130 := k118.gi kM_at4 rfl c112
            obtain ⟨x119, c120, rx119, tx119⟩ := hg121
            replace hM := hM.call hv122 rfl
            refine lv_lconst (v := 1) hx hb dX12_doing_102 (by decide) ?_
            refine W.lcmp hx hb dX12_doing_103 ?_
            refine lv_if_ne (tgt := 115) hx hb dX12_doing_104 (by decide) (fun c131 => ?_) (fun c131 => ?_)
            · have c131 : ¬ r115.toInt = (1 : Int) := wk_ceF c131
              replace hM := hM.pos c131
              exact J115 x41 x42 x36 H locs ls w117 (show 0 ≤ v32_2.toInt from r2) (show v32_2.toInt ≤ 5 from t3) (show 0 ≤ v32_3.toInt from r4) (show v32_3.toInt ≤ 11 by first | with_reducible assumption | omega) (show 0 ≤ x41.toInt by first | with_reducible assumption | omega) (show x41.toInt ≤ 213 by first | with_reducible assumption | omega) (show 0 ≤ f32_0_30.toInt from r6) (show f32_0_30.toInt ≤ 1 from t7) (show 0 ≤ f32_12_219.toInt from r9) (show f32_12_219.toInt ≤ 5 from t10) (show (-1) ≤ f32_12_223.toInt from r12) (show f32_12_223.toInt ≤ 9 from t13) (show 1 ≤ x36.toInt by first | with_reducible assumption | omega) (show x36.toInt ≤ 12 from tx36)  hw hT hF hRW c123 c124 c125 c127 c126 hM (lv_sub hl [1, 2, 3, 4, 0] rfl)
            · have c131 : r115.toInt = (1 : Int) := wk_ceT c131
              replace hM := hM.neg (fun q => q c131)
              refine lv_aload_n hx hb dX12_doing_107 rfl (lv_at hl 1 rfl) ?_
              refine tk_getA hC hK hw hT hinX12 kM_at0 (by decide) rfl 5 (by decide) (List.mem_cons_of_mem _ uw_6_17) rfl rfl dX12_doing_108 ?_
              refine lv_iload hx hb dX12_doing_111 (lv_at hl 0 rfl) ?_
              refine tk_iald hC hK hw hT kM_at4 rfl rfl (show 0 ≤ x41.toInt by first | with_reducible assumption | omega) (show x41.toInt < 216 by first | with_reducible assumption | omega) dX12_doing_113 (fun x132 c133 rx132 tx132 => ?_)
              have hox132 := c133
              have c133 : gi w117 4 (36 * v32_2.toInt + 3 * v32_3.toInt + 0).toNat = x132 := (congrArg (gi w117 4) (congrArg Int.toNat (show 36 * v32_2.toInt + 3 * v32_3.toInt + 0 = x41.toInt by first | exact Int.le_antisymm (by omega) (by omega) | omega))).trans c133
              refine wk_top x42 (c133.symm.trans c127) ?_
              replace hM := hM.rd ((sL_at (kM_lt kM_at4) hox132).trans (congrArg Int32.toInt (c133.symm.trans c127)))
              exact tk_iret hC hr hlocks hK ⟨hT, hF, hM.ret rfl, (Or.inr (Or.inr (Or.inl ⟨(wk_eq.mpr (show x42.toInt = 0 by first | exact Int.le_antisymm (by omega) (by omega) | omega)), ⟨x55, c128, (show 0 ≤ x55.toInt by first | with_reducible assumption | omega), (show x55.toInt ≤ 11 by first | with_reducible assumption | omega)⟩, ⟨f32_12_219, c124, (show (-1) ≤ f32_12_219.toInt from Int.le_trans (by decide) r9), (show f32_12_219.toInt ≤ 5 from t10)⟩⟩)))⟩ hw dX12_doing_114
        · replace hM := hM.call (r' := 1) hv68 (by decide)
          refine lv_if_eq (tgt := 115) hx hb dX12_doing_64 (by decide) (fun c => absurd c (by decide)) (fun _ => ?_)
          replace hM := hM.neg (by decide)
          refine lv_aload_n hx hb dX12_doing_67 rfl (lv_at hl 1 rfl) ?_
          refine tk_getA hC hK hw hT hinX12 kM_at0 (by decide) rfl 5 (by decide) (List.mem_cons_of_mem _ uw_6_17) rfl rfl dX12_doing_68 ?_
          refine lv_iload hx hb dX12_doing_71 (lv_at hl 0 rfl) ?_
          refine lv_iconst (v := 1) hx hb dX12_doing_73 (by decide) ?_
          refine lv_iadd hx hb dX12_doing_74 ?_
          refine lv_topi (fun x134 ex134 => ?_)
          have ezx134 := ex134
          have ex134 : x134.toInt = x41.toInt + (1 : Int) := by rw [ex134]; exact wk_add (show (-2147483648) ≤ x41.toInt + (1 : Int) by omega) (show x41.toInt + (1 : Int) ≤ 2147483647 by omega)
          replace hM := hM.lt ex134.symm
          refine tk_iald hC hK hw hT kM_at4 rfl rfl (show 0 ≤ x134.toInt by first | with_reducible assumption | omega) (show x134.toInt < 216 by first | with_reducible assumption | omega) dX12_doing_75 (fun x135 c136 rx135 tx135 => ?_)
          have hox135 := c136
          replace hM := hM.rd (sL_at (kM_lt kM_at4) hox135)
          have c136 : gi w1 4 (36 * v32_2.toInt + 3 * v32_3.toInt + 1).toNat = x135 := (congrArg (gi w1 4) (congrArg Int.toNat (show 36 * v32_2.toInt + 3 * v32_3.toInt + 1 = x134.toInt by first | exact Int.le_antisymm (by omega) (by omega) | omega))).trans c136
          refine lv_if_lt (tgt := 107) hx hb dX12_doing_76 (by decide) (fun c137 => ?_) (fun c137 => ?_)
          · have c137 : x135.toInt < (0 : Int) := wk_lt.mp c137
            replace hM := hM.pos c137
            refine lv_aload_n hx hb dX12_doing_107 rfl (lv_at hl 1 rfl) ?_
            refine tk_getA hC hK hw hT hinX12 kM_at0 (by decide) rfl 5 (by decide) (List.mem_cons_of_mem _ uw_6_17) rfl rfl dX12_doing_108 ?_
            refine lv_iload hx hb dX12_doing_111 (lv_at hl 0 rfl) ?_
            refine tk_iald hC hK hw hT kM_at4 rfl rfl (show 0 ≤ x41.toInt by first | with_reducible assumption | omega) (show x41.toInt < 216 by first | with_reducible assumption | omega) dX12_doing_113 (fun x138 c139 rx138 tx138 => ?_)
            have hox138 := c139
            have c139 : gi w1 4 (36 * v32_2.toInt + 3 * v32_3.toInt + 0).toNat = x138 := (congrArg (gi w1 4) (congrArg Int.toNat (show 36 * v32_2.toInt + 3 * v32_3.toInt + 0 = x41.toInt by first | exact Int.le_antisymm (by omega) (by omega) | omega))).trans c139
            refine wk_top x42 (c139.symm.trans c43) ?_
            replace hM := hM.rd ((sL_at (kM_lt kM_at4) hox138).trans (congrArg Int32.toInt (c139.symm.trans c43)))
            exact tk_iret hC hr hlocks hK ⟨hT, hF, hM.ret rfl, (Or.inr (Or.inr (Or.inr (Or.inl ⟨(wk_eq.mpr (show x42.toInt = 1 by first | exact Int.le_antisymm (by omega) (by omega) | omega)), ⟨x59, c60, (show 1 ≤ x59.toInt by first | with_reducible assumption | omega), (show x59.toInt ≤ 12 by first | with_reducible assumption | omega)⟩, ⟨f32_12_219, c11, (show 0 ≤ f32_12_219.toInt from r9), (show f32_12_219.toInt ≤ 5 from t10)⟩, (by exact hq61)⟩))))⟩ hw dX12_doing_114
          · have c137 : (0 : Int) ≤ x135.toInt := wk_ltF c137
            replace hM := hM.neg (Int.not_lt.mpr c137)
            refine lv_aload_n hx hb dX12_doing_79 rfl (lv_at hl 1 rfl) ?_
            refine lv_iload_n hx hb dX12_doing_80 rfl (lv_at hl 3 rfl) ?_
            refine lv_aload_n hx hb dX12_doing_81 rfl (lv_at hl 1 rfl) ?_
            refine tk_getA hC hK hw hT hinX12 kM_at0 (by decide) rfl 5 (by decide) (List.mem_cons_of_mem _ uw_6_17) rfl rfl dX12_doing_82 ?_
            refine lv_iload hx hb dX12_doing_85 (lv_at hl 0 rfl) ?_
            refine lv_iconst (v := 1) hx hb dX12_doing_87 (by decide) ?_
            refine lv_iadd hx hb dX12_doing_88 ?_
            refine lv_topi (fun x140 ex140 => ?_)
            have ezx140 := ex140
            have ex140 : x140.toInt = x41.toInt + (1 : Int) := by rw [ex140]; exact wk_add (show (-2147483648) ≤ x41.toInt + (1 : Int) by omega) (show x41.toInt + (1 : Int) ≤ 2147483647 by omega)
            replace hM := hM.lt ex140.symm
            refine tk_iald hC hK hw hT kM_at4 rfl rfl (show 0 ≤ x140.toInt by first | with_reducible assumption | omega) (show x140.toInt < 216 by first | with_reducible assumption | omega) dX12_doing_89 (fun x141 c142 rx141 tx141 => ?_)
            have hox141 := c142
            have c142 : gi w1 4 (36 * v32_2.toInt + 3 * v32_3.toInt + 1).toNat = x141 := (congrArg (gi w1 4) (congrArg Int.toNat (show 36 * v32_2.toInt + 3 * v32_3.toInt + 1 = x140.toInt by first | exact Int.le_antisymm (by omega) (by omega) | omega))).trans c142
            refine wk_top x135 (c142.symm.trans c136) ?_
            replace hM := hM.rd ((sL_at (kM_lt kM_at4) hox141).trans (congrArg Int32.toInt (c142.symm.trans c136)))
            refine lv_aload_n hx hb dX12_doing_90 rfl (lv_at hl 1 rfl) ?_
            refine tk_getA hC hK hw hT hinX12 kM_at0 (by decide) rfl 5 (by decide) (List.mem_cons_of_mem _ uw_6_17) rfl rfl dX12_doing_91 ?_
            refine lv_iload hx hb dX12_doing_94 (lv_at hl 0 rfl) ?_
            refine lv_iconst (v := 2) hx hb dX12_doing_96 (by decide) ?_
            refine lv_iadd hx hb dX12_doing_97 ?_
            refine lv_topi (fun x143 ex143 => ?_)
            have ezx143 := ex143
            have ex143 : x143.toInt = x41.toInt + (2 : Int) := by rw [ex143]; exact wk_add (show (-2147483648) ≤ x41.toInt + (2 : Int) by omega) (show x41.toInt + (2 : Int) ≤ 2147483647 by omega)
            replace hM := hM.lt ex143.symm
            refine tk_iald hC hK hw hT kM_at4 rfl rfl (show 0 ≤ x143.toInt by first | with_reducible assumption | omega) (show x143.toInt < 216 by first | with_reducible assumption | omega) dX12_doing_98 (fun x144 c145 rx144 tx144 => ?_)
            have hox144 := c145
            replace hM := hM.rd (sL_at (kM_lt kM_at4) hox144)
            have c145 : gi w1 4 (36 * v32_2.toInt + 3 * v32_3.toInt + 2).toNat = x144 := (congrArg (gi w1 4) (congrArg Int.toNat (show 36 * v32_2.toInt + 3 * v32_3.toInt + 2 = x143.toInt by first | exact Int.le_antisymm (by omega) (by omega) | omega))).trans c145
            have hz := (hRW v32_2.toInt v32_3.toInt (by omega) (by omega) (by omega) (by rw [c37]; omega)).resolve_left (by rw [c136]; omega)
            rw [c136, c145] at hz
            obtain ⟨hz1, hz2, hz3⟩ := hz
            obtain ⟨x146, c147, rx146, tx146⟩ := hT.rdi (lo := 0) (hi := 64) (k := 24) kM_at0 (by decide) rfl
            refine tk_Vl hC hK hw hT hA hE hSR kM_at0 (by decide) rfl (ky_X12_reckons_1 l adK adV dC dI cy ad B hB0 (Int.le_trans hB1 (by decide)) qr s1   v32_2 (show 0 ≤ v32_2.toInt from r2) (show v32_2.toInt ≤ 5 from t3) x135 (show 0 ≤ x135.toInt by first | with_reducible assumption | omega) (show x135.toInt ≤ 400 by first | with_reducible assumption | omega) x144 (show 0 ≤ x144.toInt by first | with_reducible assumption | omega) (show x144.toInt ≤ 400 by first | with_reducible assumption | omega) w1 H.size hT x146 c147 (show 0 ≤ x146.toInt by first | with_reducible assumption | omega) (show x146.toInt ≤ 64 by first | with_reducible assumption | omega) ⟨hz1, hz3⟩) (cwV 3 hC.2.2.2.2 uV_RX12_401 rfl rfl rfl (by decide +kernel) ⟨Nat.le_of_ble_eq_true rfl, Nat.le_of_ble_eq_true rfl⟩) rfl hl.1 rfl (Nat.le_of_ble_eq_true rfl) dX12_doing_99 (fun r148 w150 H locs hp149 hw => ?_)
            obtain ⟨hT, k151, hv155, hg154⟩ := hp149
            have hRW := RW_FE k151 (fun _ => rfl) (fun _ => rfl) (fun _ => rfl) hRW
            have hq156 := mAS_FE k151 (fun _ => rfl) (by decide) hq61
            have hF := hF.tr k151 (by decide)
            have c157 := k151.gi kM_at0 (by decide) c8
            have c158 := k151.gi kM_at12 (by decide) c11
            have c159 := k151.gi kM_at12 (by decide) c14
            have c160 := k151.gi kM_at5 rfl c37
            have c161 := k151.gi kM_at4 rfl c43
            have c162 := k151.gi kM_at12 (by decide) c60
            have c163 := k151.gi kM_at4 rfl c136
            have c164 := k151.gi kM_at4 rfl c145
            obtain ⟨x152, c153, rx152, tx152⟩ := hg154
            replace hM := hM.call hv155 rfl
            refine lv_lconst (v := 1) hx hb dX12_doing_102 (by decide) ?_
            refine W.lcmp hx hb dX12_doing_103 ?_
            refine lv_if_ne (tgt := 115) hx hb dX12_doing_104 (by decide) (fun c165 => ?_) (fun c165 => ?_)
            · have c165 : ¬ r148.toInt = (1 : Int) := wk_ceF c165
              replace hM := hM.pos c165
              exact J115 x41 x42 x36 H locs ls w150 (show 0 ≤ v32_2.toInt from r2) (show v32_2.toInt ≤ 5 from t3) (show 0 ≤ v32_3.toInt from r4) (show v32_3.toInt ≤ 11 by first | with_reducible assumption | omega) (show 0 ≤ x41.toInt by first | with_reducible assumption | omega) (show x41.toInt ≤ 213 by first | with_reducible assumption | omega) (show 0 ≤ f32_0_30.toInt from r6) (show f32_0_30.toInt ≤ 1 from t7) (show 0 ≤ f32_12_219.toInt from r9) (show f32_12_219.toInt ≤ 5 from t10) (show (-1) ≤ f32_12_223.toInt from r12) (show f32_12_223.toInt ≤ 9 from t13) (show 1 ≤ x36.toInt by first | with_reducible assumption | omega) (show x36.toInt ≤ 12 from tx36)  hw hT hF hRW c157 c158 c159 c161 c160 hM (lv_sub hl [1, 2, 3, 4, 0] rfl)
            · have c165 : r148.toInt = (1 : Int) := wk_ceT c165
              replace hM := hM.neg (fun q => q c165)
              refine lv_aload_n hx hb dX12_doing_107 rfl (lv_at hl 1 rfl) ?_
              refine tk_getA hC hK hw hT hinX12 kM_at0 (by decide) rfl 5 (by decide) (List.mem_cons_of_mem _ uw_6_17) rfl rfl dX12_doing_108 ?_
              refine lv_iload hx hb dX12_doing_111 (lv_at hl 0 rfl) ?_
              refine tk_iald hC hK hw hT kM_at4 rfl rfl (show 0 ≤ x41.toInt by first | with_reducible assumption | omega) (show x41.toInt < 216 by first | with_reducible assumption | omega) dX12_doing_113 (fun x166 c167 rx166 tx166 => ?_)
              have hox166 := c167
              have c167 : gi w150 4 (36 * v32_2.toInt + 3 * v32_3.toInt + 0).toNat = x166 := (congrArg (gi w150 4) (congrArg Int.toNat (show 36 * v32_2.toInt + 3 * v32_3.toInt + 0 = x41.toInt by first | exact Int.le_antisymm (by omega) (by omega) | omega))).trans c167
              refine wk_top x42 (c167.symm.trans c161) ?_
              replace hM := hM.rd ((sL_at (kM_lt kM_at4) hox166).trans (congrArg Int32.toInt (c167.symm.trans c161)))
              exact tk_iret hC hr hlocks hK ⟨hT, hF, hM.ret rfl, (Or.inr (Or.inr (Or.inr (Or.inl ⟨(wk_eq.mpr (show x42.toInt = 1 by first | exact Int.le_antisymm (by omega) (by omega) | omega)), ⟨x59, c162, (show 1 ≤ x59.toInt by first | with_reducible assumption | omega), (show x59.toInt ≤ 12 by first | with_reducible assumption | omega)⟩, ⟨f32_12_219, c158, (show 0 ≤ f32_12_219.toInt from r9), (show f32_12_219.toInt ≤ 5 from t10)⟩, (by exact hq156)⟩))))⟩ hw dX12_doing_114
        · replace hM := hM.call (r' := 1) hv68 (by decide)
          have ex64 : x64.toInt = f32_0_30.toInt := by rw [← c8.symm.trans c65]
          refine lv_if_eq (tgt := 115) hx hb dX12_doing_64 (by decide) (fun c => absurd c (by decide)) (fun _ => ?_)
          replace hM := hM.neg (by decide)
          refine lv_aload_n hx hb dX12_doing_67 rfl (lv_at hl 1 rfl) ?_
          refine tk_getA hC hK hw hT hinX12 kM_at0 (by decide) rfl 5 (by decide) (List.mem_cons_of_mem _ uw_6_17) rfl rfl dX12_doing_68 ?_
          refine lv_iload hx hb dX12_doing_71 (lv_at hl 0 rfl) ?_
          refine lv_iconst (v := 1) hx hb dX12_doing_73 (by decide) ?_
          refine lv_iadd hx hb dX12_doing_74 ?_
          refine lv_topi (fun x168 ex168 => ?_)
          have ezx168 := ex168
          have ex168 : x168.toInt = x41.toInt + (1 : Int) := by rw [ex168]; exact wk_add (show (-2147483648) ≤ x41.toInt + (1 : Int) by omega) (show x41.toInt + (1 : Int) ≤ 2147483647 by omega)
          replace hM := hM.lt ex168.symm
          refine tk_iald hC hK hw hT kM_at4 rfl rfl (show 0 ≤ x168.toInt by first | with_reducible assumption | omega) (show x168.toInt < 216 by first | with_reducible assumption | omega) dX12_doing_75 (fun x169 c170 rx169 tx169 => ?_)
          have hox169 := c170
          replace hM := hM.rd (sL_at (kM_lt kM_at4) hox169)
          have c170 : gi w1 4 (36 * v32_2.toInt + 3 * v32_3.toInt + 1).toNat = x169 := (congrArg (gi w1 4) (congrArg Int.toNat (show 36 * v32_2.toInt + 3 * v32_3.toInt + 1 = x168.toInt by first | exact Int.le_antisymm (by omega) (by omega) | omega))).trans c170
          refine lv_if_lt (tgt := 107) hx hb dX12_doing_76 (by decide) (fun c171 => ?_) (fun c171 => ?_)
          · have c171 : x169.toInt < (0 : Int) := wk_lt.mp c171
            replace hM := hM.pos c171
            refine lv_aload_n hx hb dX12_doing_107 rfl (lv_at hl 1 rfl) ?_
            refine tk_getA hC hK hw hT hinX12 kM_at0 (by decide) rfl 5 (by decide) (List.mem_cons_of_mem _ uw_6_17) rfl rfl dX12_doing_108 ?_
            refine lv_iload hx hb dX12_doing_111 (lv_at hl 0 rfl) ?_
            refine tk_iald hC hK hw hT kM_at4 rfl rfl (show 0 ≤ x41.toInt by first | with_reducible assumption | omega) (show x41.toInt < 216 by first | with_reducible assumption | omega) dX12_doing_113 (fun x172 c173 rx172 tx172 => ?_)
            have hox172 := c173
            have c173 : gi w1 4 (36 * v32_2.toInt + 3 * v32_3.toInt + 0).toNat = x172 := (congrArg (gi w1 4) (congrArg Int.toNat (show 36 * v32_2.toInt + 3 * v32_3.toInt + 0 = x41.toInt by first | exact Int.le_antisymm (by omega) (by omega) | omega))).trans c173
            refine wk_top x42 (c173.symm.trans c43) ?_
            replace hM := hM.rd ((sL_at (kM_lt kM_at4) hox172).trans (congrArg Int32.toInt (c173.symm.trans c43)))
            exact tk_iret hC hr hlocks hK ⟨hT, hF, hM.ret rfl, (Or.inr (Or.inr (Or.inr (Or.inr (Or.inl ⟨(wk_eq.mpr (show x42.toInt = 2 by first | exact Int.le_antisymm (by omega) (by omega) | omega)), ⟨f32_0_30, c8, (show 0 ≤ f32_0_30.toInt from r6), (show f32_0_30.toInt ≤ 0 by first | with_reducible assumption | omega)⟩, ⟨f32_12_219, c11, (show 0 ≤ f32_12_219.toInt from r9), (show f32_12_219.toInt ≤ 5 from t10)⟩⟩)))))⟩ hw dX12_doing_114
          · have c171 : (0 : Int) ≤ x169.toInt := wk_ltF c171
            replace hM := hM.neg (Int.not_lt.mpr c171)
            refine lv_aload_n hx hb dX12_doing_79 rfl (lv_at hl 1 rfl) ?_
            refine lv_iload_n hx hb dX12_doing_80 rfl (lv_at hl 3 rfl) ?_
            refine lv_aload_n hx hb dX12_doing_81 rfl (lv_at hl 1 rfl) ?_
            refine tk_getA hC hK hw hT hinX12 kM_at0 (by decide) rfl 5 (by decide) (List.mem_cons_of_mem _ uw_6_17) rfl rfl dX12_doing_82 ?_
            refine lv_iload hx hb dX12_doing_85 (lv_at hl 0 rfl) ?_
            refine lv_iconst (v := 1) hx hb dX12_doing_87 (by decide) ?_
            refine lv_iadd hx hb dX12_doing_88 ?_
            refine lv_topi (fun x174 ex174 => ?_)
            have ezx174 := ex174
            have ex174 : x174.toInt = x41.toInt + (1 : Int) := by rw [ex174]; exact wk_add (show (-2147483648) ≤ x41.toInt + (1 : Int) by omega) (show x41.toInt + (1 : Int) ≤ 2147483647 by omega)
            replace hM := hM.lt ex174.symm
            refine tk_iald hC hK hw hT kM_at4 rfl rfl (show 0 ≤ x174.toInt by first | with_reducible assumption | omega) (show x174.toInt < 216 by first | with_reducible assumption | omega) dX12_doing_89 (fun x175 c176 rx175 tx175 => ?_)
            have hox175 := c176
            have c176 : gi w1 4 (36 * v32_2.toInt + 3 * v32_3.toInt + 1).toNat = x175 := (congrArg (gi w1 4) (congrArg Int.toNat (show 36 * v32_2.toInt + 3 * v32_3.toInt + 1 = x174.toInt by first | exact Int.le_antisymm (by omega) (by omega) | omega))).trans c176
            refine wk_top x169 (c176.symm.trans c170) ?_
            replace hM := hM.rd ((sL_at (kM_lt kM_at4) hox175).trans (congrArg Int32.toInt (c176.symm.trans c170)))
            refine lv_aload_n hx hb dX12_doing_90 rfl (lv_at hl 1 rfl) ?_
            refine tk_getA hC hK hw hT hinX12 kM_at0 (by decide) rfl 5 (by decide) (List.mem_cons_of_mem _ uw_6_17) rfl rfl dX12_doing_91 ?_
            refine lv_iload hx hb dX12_doing_94 (lv_at hl 0 rfl) ?_
            refine lv_iconst (v := 2) hx hb dX12_doing_96 (by decide) ?_
            refine lv_iadd hx hb dX12_doing_97 ?_
            refine lv_topi (fun x177 ex177 => ?_)
            have ezx177 := ex177
            have ex177 : x177.toInt = x41.toInt + (2 : Int) := by rw [ex177]; exact wk_add (show (-2147483648) ≤ x41.toInt + (2 : Int) by omega) (show x41.toInt + (2 : Int) ≤ 2147483647 by omega)
            replace hM := hM.lt ex177.symm
            refine tk_iald hC hK hw hT kM_at4 rfl rfl (show 0 ≤ x177.toInt by first | with_reducible assumption | omega) (show x177.toInt < 216 by first | with_reducible assumption | omega) dX12_doing_98 (fun x178 c179 rx178 tx178 => ?_)
            have hox178 := c179
            replace hM := hM.rd (sL_at (kM_lt kM_at4) hox178)
            have c179 : gi w1 4 (36 * v32_2.toInt + 3 * v32_3.toInt + 2).toNat = x178 := (congrArg (gi w1 4) (congrArg Int.toNat (show 36 * v32_2.toInt + 3 * v32_3.toInt + 2 = x177.toInt by first | exact Int.le_antisymm (by omega) (by omega) | omega))).trans c179
            have hz := (hRW v32_2.toInt v32_3.toInt (by omega) (by omega) (by omega) (by rw [c37]; omega)).resolve_left (by rw [c170]; omega)
            rw [c170, c179] at hz
            obtain ⟨hz1, hz2, hz3⟩ := hz
            obtain ⟨x180, c181, rx180, tx180⟩ := hT.rdi (lo := 0) (hi := 64) (k := 24) kM_at0 (by decide) rfl
            refine tk_Vl hC hK hw hT hA hE hSR kM_at0 (by decide) rfl (ky_X12_reckons_1 l adK adV dC dI cy ad B hB0 (Int.le_trans hB1 (by decide)) qr s1   v32_2 (show 0 ≤ v32_2.toInt from r2) (show v32_2.toInt ≤ 5 from t3) x169 (show 0 ≤ x169.toInt by first | with_reducible assumption | omega) (show x169.toInt ≤ 400 by first | with_reducible assumption | omega) x178 (show 0 ≤ x178.toInt by first | with_reducible assumption | omega) (show x178.toInt ≤ 400 by first | with_reducible assumption | omega) w1 H.size hT x180 c181 (show 0 ≤ x180.toInt by first | with_reducible assumption | omega) (show x180.toInt ≤ 64 by first | with_reducible assumption | omega) ⟨hz1, hz3⟩) (cwV 3 hC.2.2.2.2 uV_RX12_401 rfl rfl rfl (by decide +kernel) ⟨Nat.le_of_ble_eq_true rfl, Nat.le_of_ble_eq_true rfl⟩) rfl hl.1 rfl (Nat.le_of_ble_eq_true rfl) dX12_doing_99 (fun r182 w184 H locs hp183 hw => ?_)
            obtain ⟨hT, k185, hv189, hg188⟩ := hp183
            have hRW := RW_FE k185 (fun _ => rfl) (fun _ => rfl) (fun _ => rfl) hRW
            have hF := hF.tr k185 (by decide)
            have c190 := k185.gi kM_at0 (by decide) c8
            have c191 := k185.gi kM_at12 (by decide) c11
            have c192 := k185.gi kM_at12 (by decide) c14
            have c193 := k185.gi kM_at5 rfl c37
            have c194 := k185.gi kM_at4 rfl c43
            have c195 := k185.gi kM_at4 rfl c170
            have c196 := k185.gi kM_at4 rfl c179
            obtain ⟨x186, c187, rx186, tx186⟩ := hg188
            replace hM := hM.call hv189 rfl
            refine lv_lconst (v := 1) hx hb dX12_doing_102 (by decide) ?_
            refine W.lcmp hx hb dX12_doing_103 ?_
            refine lv_if_ne (tgt := 115) hx hb dX12_doing_104 (by decide) (fun c197 => ?_) (fun c197 => ?_)
            · have c197 : ¬ r182.toInt = (1 : Int) := wk_ceF c197
              replace hM := hM.pos c197
              exact J115 x41 x42 x36 H locs ls w184 (show 0 ≤ v32_2.toInt from r2) (show v32_2.toInt ≤ 5 from t3) (show 0 ≤ v32_3.toInt from r4) (show v32_3.toInt ≤ 11 by first | with_reducible assumption | omega) (show 0 ≤ x41.toInt by first | with_reducible assumption | omega) (show x41.toInt ≤ 213 by first | with_reducible assumption | omega) (show 0 ≤ f32_0_30.toInt from r6) (show f32_0_30.toInt ≤ 1 from t7) (show 0 ≤ f32_12_219.toInt from r9) (show f32_12_219.toInt ≤ 5 from t10) (show (-1) ≤ f32_12_223.toInt from r12) (show f32_12_223.toInt ≤ 9 from t13) (show 1 ≤ x36.toInt by first | with_reducible assumption | omega) (show x36.toInt ≤ 12 from tx36)  hw hT hF hRW c190 c191 c192 c194 c193 hM (lv_sub hl [1, 2, 3, 4, 0] rfl)
            · have c197 : r182.toInt = (1 : Int) := wk_ceT c197
              replace hM := hM.neg (fun q => q c197)
              refine lv_aload_n hx hb dX12_doing_107 rfl (lv_at hl 1 rfl) ?_
              refine tk_getA hC hK hw hT hinX12 kM_at0 (by decide) rfl 5 (by decide) (List.mem_cons_of_mem _ uw_6_17) rfl rfl dX12_doing_108 ?_
              refine lv_iload hx hb dX12_doing_111 (lv_at hl 0 rfl) ?_
              refine tk_iald hC hK hw hT kM_at4 rfl rfl (show 0 ≤ x41.toInt by first | with_reducible assumption | omega) (show x41.toInt < 216 by first | with_reducible assumption | omega) dX12_doing_113 (fun x198 c199 rx198 tx198 => ?_)
              have hox198 := c199
              have c199 : gi w184 4 (36 * v32_2.toInt + 3 * v32_3.toInt + 0).toNat = x198 := (congrArg (gi w184 4) (congrArg Int.toNat (show 36 * v32_2.toInt + 3 * v32_3.toInt + 0 = x41.toInt by first | exact Int.le_antisymm (by omega) (by omega) | omega))).trans c199
              refine wk_top x42 (c199.symm.trans c194) ?_
              replace hM := hM.rd ((sL_at (kM_lt kM_at4) hox198).trans (congrArg Int32.toInt (c199.symm.trans c194)))
              exact tk_iret hC hr hlocks hK ⟨hT, hF, hM.ret rfl, (Or.inr (Or.inr (Or.inr (Or.inr (Or.inl ⟨(wk_eq.mpr (show x42.toInt = 2 by first | exact Int.le_antisymm (by omega) (by omega) | omega)), ⟨f32_0_30, c190, (show 0 ≤ f32_0_30.toInt from r6), (show f32_0_30.toInt ≤ 0 by first | with_reducible assumption | omega)⟩, ⟨f32_12_219, c191, (show 0 ≤ f32_12_219.toInt from r9), (show f32_12_219.toInt ≤ 5 from t10)⟩⟩)))))⟩ hw dX12_doing_114
        · replace hM := hM.call (r' := 1) hv68 (by decide)
          refine lv_if_eq (tgt := 115) hx hb dX12_doing_64 (by decide) (fun c => absurd c (by decide)) (fun _ => ?_)
          replace hM := hM.neg (by decide)
          refine lv_aload_n hx hb dX12_doing_67 rfl (lv_at hl 1 rfl) ?_
          refine tk_getA hC hK hw hT hinX12 kM_at0 (by decide) rfl 5 (by decide) (List.mem_cons_of_mem _ uw_6_17) rfl rfl dX12_doing_68 ?_
          refine lv_iload hx hb dX12_doing_71 (lv_at hl 0 rfl) ?_
          refine lv_iconst (v := 1) hx hb dX12_doing_73 (by decide) ?_
          refine lv_iadd hx hb dX12_doing_74 ?_
          refine lv_topi (fun x200 ex200 => ?_)
          have ezx200 := ex200
          have ex200 : x200.toInt = x41.toInt + (1 : Int) := by rw [ex200]; exact wk_add (show (-2147483648) ≤ x41.toInt + (1 : Int) by omega) (show x41.toInt + (1 : Int) ≤ 2147483647 by omega)
          replace hM := hM.lt ex200.symm
          refine tk_iald hC hK hw hT kM_at4 rfl rfl (show 0 ≤ x200.toInt by first | with_reducible assumption | omega) (show x200.toInt < 216 by first | with_reducible assumption | omega) dX12_doing_75 (fun x201 c202 rx201 tx201 => ?_)
          have hox201 := c202
          replace hM := hM.rd (sL_at (kM_lt kM_at4) hox201)
          have c202 : gi w1 4 (36 * v32_2.toInt + 3 * v32_3.toInt + 1).toNat = x201 := (congrArg (gi w1 4) (congrArg Int.toNat (show 36 * v32_2.toInt + 3 * v32_3.toInt + 1 = x200.toInt by first | exact Int.le_antisymm (by omega) (by omega) | omega))).trans c202
          refine lv_if_lt (tgt := 107) hx hb dX12_doing_76 (by decide) (fun c203 => ?_) (fun c203 => ?_)
          · have c203 : x201.toInt < (0 : Int) := wk_lt.mp c203
            replace hM := hM.pos c203
            refine lv_aload_n hx hb dX12_doing_107 rfl (lv_at hl 1 rfl) ?_
            refine tk_getA hC hK hw hT hinX12 kM_at0 (by decide) rfl 5 (by decide) (List.mem_cons_of_mem _ uw_6_17) rfl rfl dX12_doing_108 ?_
            refine lv_iload hx hb dX12_doing_111 (lv_at hl 0 rfl) ?_
            refine tk_iald hC hK hw hT kM_at4 rfl rfl (show 0 ≤ x41.toInt by first | with_reducible assumption | omega) (show x41.toInt < 216 by first | with_reducible assumption | omega) dX12_doing_113 (fun x204 c205 rx204 tx204 => ?_)
            have hox204 := c205
            have c205 : gi w1 4 (36 * v32_2.toInt + 3 * v32_3.toInt + 0).toNat = x204 := (congrArg (gi w1 4) (congrArg Int.toNat (show 36 * v32_2.toInt + 3 * v32_3.toInt + 0 = x41.toInt by first | exact Int.le_antisymm (by omega) (by omega) | omega))).trans c205
            refine wk_top x42 (c205.symm.trans c43) ?_
            replace hM := hM.rd ((sL_at (kM_lt kM_at4) hox204).trans (congrArg Int32.toInt (c205.symm.trans c43)))
            exact tk_iret hC hr hlocks hK ⟨hT, hF, hM.ret rfl, (Or.inr (Or.inl ⟨(show 3 ≤ x42.toInt by first | with_reducible assumption | omega), ⟨f32_12_219, c11, (show 0 ≤ f32_12_219.toInt from r9), (show f32_12_219.toInt ≤ 5 from t10)⟩⟩))⟩ hw dX12_doing_114
          · have c203 : (0 : Int) ≤ x201.toInt := wk_ltF c203
            replace hM := hM.neg (Int.not_lt.mpr c203)
            refine lv_aload_n hx hb dX12_doing_79 rfl (lv_at hl 1 rfl) ?_
            refine lv_iload_n hx hb dX12_doing_80 rfl (lv_at hl 3 rfl) ?_
            refine lv_aload_n hx hb dX12_doing_81 rfl (lv_at hl 1 rfl) ?_
            refine tk_getA hC hK hw hT hinX12 kM_at0 (by decide) rfl 5 (by decide) (List.mem_cons_of_mem _ uw_6_17) rfl rfl dX12_doing_82 ?_
            refine lv_iload hx hb dX12_doing_85 (lv_at hl 0 rfl) ?_
            refine lv_iconst (v := 1) hx hb dX12_doing_87 (by decide) ?_
            refine lv_iadd hx hb dX12_doing_88 ?_
            refine lv_topi (fun x206 ex206 => ?_)
            have ezx206 := ex206
            have ex206 : x206.toInt = x41.toInt + (1 : Int) := by rw [ex206]; exact wk_add (show (-2147483648) ≤ x41.toInt + (1 : Int) by omega) (show x41.toInt + (1 : Int) ≤ 2147483647 by omega)
            replace hM := hM.lt ex206.symm
            refine tk_iald hC hK hw hT kM_at4 rfl rfl (show 0 ≤ x206.toInt by first | with_reducible assumption | omega) (show x206.toInt < 216 by first | with_reducible assumption | omega) dX12_doing_89 (fun x207 c208 rx207 tx207 => ?_)
            have hox207 := c208
            have c208 : gi w1 4 (36 * v32_2.toInt + 3 * v32_3.toInt + 1).toNat = x207 := (congrArg (gi w1 4) (congrArg Int.toNat (show 36 * v32_2.toInt + 3 * v32_3.toInt + 1 = x206.toInt by first | exact Int.le_antisymm (by omega) (by omega) | omega))).trans c208
            refine wk_top x201 (c208.symm.trans c202) ?_
            replace hM := hM.rd ((sL_at (kM_lt kM_at4) hox207).trans (congrArg Int32.toInt (c208.symm.trans c202)))
            refine lv_aload_n hx hb dX12_doing_90 rfl (lv_at hl 1 rfl) ?_
            refine tk_getA hC hK hw hT hinX12 kM_at0 (by decide) rfl 5 (by decide) (List.mem_cons_of_mem _ uw_6_17) rfl rfl dX12_doing_91 ?_
            refine lv_iload hx hb dX12_doing_94 (lv_at hl 0 rfl) ?_
            refine lv_iconst (v := 2) hx hb dX12_doing_96 (by decide) ?_
            refine lv_iadd hx hb dX12_doing_97 ?_
            refine lv_topi (fun x209 ex209 => ?_)
            have ezx209 := ex209
            have ex209 : x209.toInt = x41.toInt + (2 : Int) := by rw [ex209]; exact wk_add (show (-2147483648) ≤ x41.toInt + (2 : Int) by omega) (show x41.toInt + (2 : Int) ≤ 2147483647 by omega)
            replace hM := hM.lt ex209.symm
            refine tk_iald hC hK hw hT kM_at4 rfl rfl (show 0 ≤ x209.toInt by first | with_reducible assumption | omega) (show x209.toInt < 216 by first | with_reducible assumption | omega) dX12_doing_98 (fun x210 c211 rx210 tx210 => ?_)
            have hox210 := c211
            replace hM := hM.rd (sL_at (kM_lt kM_at4) hox210)
            have c211 : gi w1 4 (36 * v32_2.toInt + 3 * v32_3.toInt + 2).toNat = x210 := (congrArg (gi w1 4) (congrArg Int.toNat (show 36 * v32_2.toInt + 3 * v32_3.toInt + 2 = x209.toInt by first | exact Int.le_antisymm (by omega) (by omega) | omega))).trans c211
            have hz := (hRW v32_2.toInt v32_3.toInt (by omega) (by omega) (by omega) (by rw [c37]; omega)).resolve_left (by rw [c202]; omega)
            rw [c202, c211] at hz
            obtain ⟨hz1, hz2, hz3⟩ := hz
            obtain ⟨x212, c213, rx212, tx212⟩ := hT.rdi (lo := 0) (hi := 64) (k := 24) kM_at0 (by decide) rfl
            refine tk_Vl hC hK hw hT hA hE hSR kM_at0 (by decide) rfl (ky_X12_reckons_1 l adK adV dC dI cy ad B hB0 (Int.le_trans hB1 (by decide)) qr s1   v32_2 (show 0 ≤ v32_2.toInt from r2) (show v32_2.toInt ≤ 5 from t3) x201 (show 0 ≤ x201.toInt by first | with_reducible assumption | omega) (show x201.toInt ≤ 400 by first | with_reducible assumption | omega) x210 (show 0 ≤ x210.toInt by first | with_reducible assumption | omega) (show x210.toInt ≤ 400 by first | with_reducible assumption | omega) w1 H.size hT x212 c213 (show 0 ≤ x212.toInt by first | with_reducible assumption | omega) (show x212.toInt ≤ 64 by first | with_reducible assumption | omega) ⟨hz1, hz3⟩) (cwV 3 hC.2.2.2.2 uV_RX12_401 rfl rfl rfl (by decide +kernel) ⟨Nat.le_of_ble_eq_true rfl, Nat.le_of_ble_eq_true rfl⟩) rfl hl.1 rfl (Nat.le_of_ble_eq_true rfl) dX12_doing_99 (fun r214 w216 H locs hp215 hw => ?_)
            obtain ⟨hT, k217, hv221, hg220⟩ := hp215
            have hRW := RW_FE k217 (fun _ => rfl) (fun _ => rfl) (fun _ => rfl) hRW
            have hF := hF.tr k217 (by decide)
            have c222 := k217.gi kM_at0 (by decide) c8
            have c223 := k217.gi kM_at12 (by decide) c11
            have c224 := k217.gi kM_at12 (by decide) c14
            have c225 := k217.gi kM_at5 rfl c37
            have c226 := k217.gi kM_at4 rfl c43
            have c227 := k217.gi kM_at4 rfl c202
            have c228 := k217.gi kM_at4 rfl c211
            obtain ⟨x218, c219, rx218, tx218⟩ := hg220
            replace hM := hM.call hv221 rfl
            refine lv_lconst (v := 1) hx hb dX12_doing_102 (by decide) ?_
            refine W.lcmp hx hb dX12_doing_103 ?_
            refine lv_if_ne (tgt := 115) hx hb dX12_doing_104 (by decide) (fun c229 => ?_) (fun c229 => ?_)
            · have c229 : ¬ r214.toInt = (1 : Int) := wk_ceF c229
              replace hM := hM.pos c229
              exact J115 x41 x42 x36 H locs ls w216 (show 0 ≤ v32_2.toInt from r2) (show v32_2.toInt ≤ 5 from t3) (show 0 ≤ v32_3.toInt from r4) (show v32_3.toInt ≤ 11 by first | with_reducible assumption | omega) (show 0 ≤ x41.toInt by first | with_reducible assumption | omega) (show x41.toInt ≤ 213 by first | with_reducible assumption | omega) (show 0 ≤ f32_0_30.toInt from r6) (show f32_0_30.toInt ≤ 1 from t7) (show 0 ≤ f32_12_219.toInt from r9) (show f32_12_219.toInt ≤ 5 from t10) (show (-1) ≤ f32_12_223.toInt from r12) (show f32_12_223.toInt ≤ 9 from t13) (show 1 ≤ x36.toInt by first | with_reducible assumption | omega) (show x36.toInt ≤ 12 from tx36)  hw hT hF hRW c222 c223 c224 c226 c225 hM (lv_sub hl [1, 2, 3, 4, 0] rfl)
            · have c229 : r214.toInt = (1 : Int) := wk_ceT c229
              replace hM := hM.neg (fun q => q c229)
              refine lv_aload_n hx hb dX12_doing_107 rfl (lv_at hl 1 rfl) ?_
              refine tk_getA hC hK hw hT hinX12 kM_at0 (by decide) rfl 5 (by decide) (List.mem_cons_of_mem _ uw_6_17) rfl rfl dX12_doing_108 ?_
              refine lv_iload hx hb dX12_doing_111 (lv_at hl 0 rfl) ?_
              refine tk_iald hC hK hw hT kM_at4 rfl rfl (show 0 ≤ x41.toInt by first | with_reducible assumption | omega) (show x41.toInt < 216 by first | with_reducible assumption | omega) dX12_doing_113 (fun x230 c231 rx230 tx230 => ?_)
              have hox230 := c231
              have c231 : gi w216 4 (36 * v32_2.toInt + 3 * v32_3.toInt + 0).toNat = x230 := (congrArg (gi w216 4) (congrArg Int.toNat (show 36 * v32_2.toInt + 3 * v32_3.toInt + 0 = x41.toInt by first | exact Int.le_antisymm (by omega) (by omega) | omega))).trans c231
              refine wk_top x42 (c231.symm.trans c226) ?_
              replace hM := hM.rd ((sL_at (kM_lt kM_at4) hox230).trans (congrArg Int32.toInt (c231.symm.trans c226)))
              exact tk_iret hC hr hlocks hK ⟨hT, hF, hM.ret rfl, (Or.inr (Or.inl ⟨(show 3 ≤ x42.toInt by first | with_reducible assumption | omega), ⟨f32_12_219, c223, (show 0 ≤ f32_12_219.toInt from r9), (show f32_12_219.toInt ≤ 5 from t10)⟩⟩))⟩ hw dX12_doing_114
  have hM : TT (fun n => m_X12_doing n 0 0 (sL w0)) (fun n => m_X12_doing n 0 0 (sL w0)) := TT.rf
  refine lv_aload_n hx hb dX12_doing_0 rfl (lv_at hl 0 rfl) ?_
  refine lv_iload_n hx hb dX12_doing_1 rfl (lv_at hl 1 rfl) ?_
  refine lv_iconst (v := 3) hx hb dX12_doing_2 (by decide) ?_
  refine tk_Vi hC hK hw hT hA hE hSR kM_at0 (by decide) rfl (ky_X12_walkerOf_6 l adK adV dC dI cy ad B hB0 (Int.le_trans hB1 (by decide)) qr s1    w0 s.heap.size hT ) (cwV 2 hC.2.2.2.2 uV_RX12_372 rfl rfl rfl (by decide +kernel) ⟨Nat.le_of_ble_eq_true rfl, Nat.le_of_ble_eq_true rfl⟩) rfl hl.1 rfl (Nat.le_of_ble_eq_true rfl) dX12_doing_3 (fun r232 w234 H locs hp233 hw => ?_)
  obtain ⟨rfl, hv240, hg239⟩ := hp233
  obtain ⟨g236, g237, c238⟩ := hg239
  replace hM := hM.call hv240 rfl
  refine lv_istore_n (lv' := [(2, .int r232), (0, .ref (ad 0)), (1, .int 0)]) hx hb dX12_doing_6 rfl hl (by decide) rfl (fun ls hl => ?_)
  refine lv_iload_n hx hb dX12_doing_7 rfl (lv_at hl 0 rfl) ?_
  refine lv_if_ge (tgt := 25) hx hb dX12_doing_8 (by decide) (fun c241 => ?_) (fun c241 => ?_)
  · have c241 : (0 : Int) ≤ r232.toInt := wk_le.mp c241
    replace hM := hM.pos c241
    refine lv_aload_n hx hb dX12_doing_25 rfl (lv_at hl 1 rfl) ?_
    refine lv_iload_n hx hb dX12_doing_26 rfl (lv_at hl 2 rfl) ?_
    refine tk_Vv hC hK hw hT hA hE hSR kM_at0 (by decide) rfl (ky_X12_words_1 l adK adV dC dI cy ad B hB0 (Int.le_trans hB1 (by decide)) qr s1    w0 H.size hT ) (cwV 1 hC.2.2.2.2 uV_RX12_395 rfl rfl rfl (by decide +kernel) ⟨Nat.le_of_ble_eq_true rfl, Nat.le_of_ble_eq_true rfl⟩) rfl hl.1 rfl (Nat.le_of_ble_eq_true rfl) dX12_doing_27 (fun w244 H locs hp243 hw => ?_)
    obtain ⟨hT, k245, hv251, hg250⟩ := hp243
    have hRW := RW_FE k245 (fun _ => rfl) (fun _ => rfl) (fun _ => rfl) hRW
    have hF := hF.tr k245 (by decide)
    have c252 := k245.gi kM_at12 (by decide) c238
    obtain ⟨⟨x246, c247, rx246, tx246⟩, ⟨x248, c249, rx248, tx248⟩⟩ := hg250
    replace hM := hM.call hv251 rfl
    refine lv_iconst (v := 0) hx hb dX12_doing_30 (by decide) ?_
    refine lv_istore_n (lv' := [(3, .int 0), (2, .int r232), (0, .ref (ad 0)), (1, .int 0)]) hx hb dX12_doing_31 rfl hl (by decide) rfl (fun ls hl => ?_)
    exact L32 ((12 - (0 : Int)).toNat + 1) r232 0 x246 r232 x248 H locs ls w244 (show 0 ≤ r232.toInt by first | with_reducible assumption | omega) (show r232.toInt ≤ 5 by first | with_reducible assumption | omega) (by decide) (by decide) (show 0 ≤ x246.toInt by first | with_reducible assumption | omega) (show x246.toInt ≤ 1 by first | with_reducible assumption | omega) (show 0 ≤ r232.toInt by first | with_reducible assumption | omega) (show r232.toInt ≤ 5 by first | with_reducible assumption | omega) (show (-1) ≤ x248.toInt by first | with_reducible assumption | omega) (show x248.toInt ≤ 9 by first | with_reducible assumption | omega) (Nat.lt_succ_self _) hw hT hF hRW c247 c252 c249 hM (lv_sub hl [2, 3, 1, 0] rfl)
  · have c241 : r232.toInt < (0 : Int) := wk_leF c241
    replace hM := hM.neg (Int.not_le.mpr c241)
    refine lv_aload_n hx hb dX12_doing_11 rfl (lv_at hl 1 rfl) ?_
    refine lv_iload_n hx hb dX12_doing_12 rfl (lv_at hl 2 rfl) ?_
    refine tk_Vi hC hK hw hT hA hE hSR kM_at0 (by decide) rfl (ky_X12_canGo_1 l adK adV dC dI cy ad B hB0 (Int.le_trans hB1 (by decide)) qr s1    w0 H.size hT ) (cwV 1 hC.2.2.2.2 uV_RX12_387 rfl rfl rfl (by decide +kernel) ⟨Nat.le_of_ble_eq_true rfl, Nat.le_of_ble_eq_true rfl⟩) rfl hl.1 rfl (Nat.le_of_ble_eq_true rfl) dX12_doing_13 (fun r253 w255 H locs hp254 hw => ?_)
    obtain ⟨rfl, hv260, hg259⟩ := hp254
    rcases hg259 with rfl | ⟨rfl, ⟨x257, c258, rx257, tx257⟩⟩
    · replace hM := hM.call (r' := 0) hv260 (by decide)
      refine lv_if_eq (tgt := 23) hx hb dX12_doing_16 (by decide) (fun _ => ?_) (fun c => absurd (by decide) c)
      replace hM := hM.pos (by decide)
      refine lv_iconst (v := 3) hx hb dX12_doing_23 (by decide) ?_
      exact tk_iret hC hr hlocks hK ⟨hT, hF, hM.ret (by decide), (Or.inr (Or.inr (Or.inr (Or.inr (Or.inr ⟨rfl, ⟨r232, c238, (show (-1) ≤ r232.toInt by first | with_reducible assumption | omega), (show r232.toInt ≤ 5 by first | with_reducible assumption | omega)⟩⟩)))))⟩ hw dX12_doing_24
    · replace hM := hM.call (r' := 1) hv260 (by decide)
      refine lv_if_eq (tgt := 23) hx hb dX12_doing_16 (by decide) (fun c => absurd c (by decide)) (fun _ => ?_)
      replace hM := hM.neg (by decide)
      refine lv_iconst (v := 0) hx hb dX12_doing_19 (by decide) ?_
      refine lv_goto (tgt := 24) hx hb dX12_doing_20 (by decide) ?_
      exact tk_iret hC hr hlocks hK ⟨hT, hF, hM.ret (by decide), (Or.inr (Or.inr (Or.inl ⟨rfl, ⟨x257, c258, (show 0 ≤ x257.toInt by first | with_reducible assumption | omega), (show x257.toInt ≤ 11 by first | with_reducible assumption | omega)⟩, ⟨r232, c238, (show (-1) ≤ r232.toInt by first | with_reducible assumption | omega), (show r232.toInt ≤ 5 by first | with_reducible assumption | omega)⟩⟩)))⟩ hw dX12_doing_24
abbrev Py_X12_takesStreet_1 (ad : Nat → Nat) (cy : Nat → ClassId) (B : Int) (qr : Nat) (s1 : Int) (a2 : Int32) (w0 : va_W) : va_W → Prop := fun u => TW ksM ad cy (B + 9) qr 12 u ∧ FE ksM [(71, 216, 216), (71, 220, 220), (71, 223, 223)] w0 u ∧ Ev (fun n => m_X12_takesStreet n 0 0 a2.toInt (sL w0)) (0, sL u) ∧ (((∃ y : Int32, gi u 12 223 = y ∧ 0 ≤ y.toInt ∧ y.toInt ≤ 9)))
set_option maxHeartbeats 4000000 in
set_option maxRecDepth 100000 in
theorem ky_X12_takesStreet_1 (l : Launch) (adK adV : Nat → Nat) (dC : Nat → ClassId) (dI : Nat → Nat → Nat) (cy : Nat → ClassId) (ad : Nat → Nat) (B : Int) (hB0 : 100000 ≤ B) (hB1 : B ≤ 1073741824) (qr : Nat) (s1 : Int)  (a2 : Int32) (ra2 : 0 ≤ a2.toInt) (ta2 : a2.toInt ≤ 11) (w0 : va_W) (sz : Nat) (hT : TW ksM ad cy B qr 12 w0)  : Met l yX12_takesStreet (wu yX12_takesStreet cX12_takesStreet 5 none) ({ frames := 3, cells := 0, slots := 0, locals := 56 }) (va_Pc [.ref (ad 0), .int 0, .int a2] (wpreS adK adV dC dI cy sz w0)) (va_Qv (Py_X12_takesStreet_1 ad cy B qr s1 a2 w0) (fun u : va_W => wpost dC dI cy (va_A w0 sz) u) (va_A w0 sz)) 0 0 (va_A w0 sz) := by
  refine Met.ofW (cc := cX12_takesStreet) (maxL := 5) (ret := none) (by decide) rfl ?_
  intro p e s m args below meth c s₁ Bk hml hv
  obtain ⟨rfl, ⟨hsz, hP, hK, hD0⟩, hE, hSR⟩ := hv
  have hx := Bk.exec
  have hb := Bk.bytes
  have hr := Bk.returns
  have hlocks := Bk.notSynchronized
  have hC : CallFix p m c cX12_takesStreet 5 s _ (wu yX12_takesStreet cX12_takesStreet 5 none) RX12 := ⟨hx, hb, hml, findClass_of_methodNamed Bk.named, atoms_spec (ws := (wu yX12_takesStreet cX12_takesStreet 5 none)) Bk.pre⟩
  subst hsz
  have hD := hD0.self (sz := s.heap.size)
  generalize hAe : va_A w0 s.heap.size = A at hD hE ⊢
  have hA : ∀ q : Nat, s.heap.size ≤ q → A q := fun q h => by rw [← hAe]; exact Or.inr h
  have hw : Wd dC dI A s.heap s.heap [] w0 := ⟨hP, hD, va_S.rf⟩
  have hF : FE ksM [(71, 216, 216), (71, 220, 220), (71, 223, 223)] w0 w0 := FE.rf
  have hl := lv_entry ([.ref (ad 0), .int 0, .int a2]) (n := 5) (Nat.le_of_ble_eq_true rfl)
  rw [lg_entry_eq]
  generalize (lg_sl ([.ref (ad 0), .int 0, .int a2]) ++ List.replicate (5 - (lg_sl ([.ref (ad 0), .int 0, .int a2])).length) Slot.unset).toArray = ls at hl ⊢
  have hl : lv_has ls 5 [(0, .ref (ad 0)), (1, .int 0), (2, .int a2)] := hl
  generalize hloc : ([] : List Loc) = locs at hw ⊢
  have hinX12 : ∀ w ∈ u_ws RX12 TX12 42, w ∈ (wu yX12_takesStreet cX12_takesStreet 5 none) := fun _ h => List.mem_cons_of_mem _ (up_71 h)
  have hM : TT (fun n => m_X12_takesStreet n 0 0 a2.toInt (sL w0)) (fun n => m_X12_takesStreet n 0 0 a2.toInt (sL w0)) := TT.rf
  refine lv_sipush (v := 216) hx hb dX12_takesStreet_0 (by decide) ?_
  refine lv_bipush (v := 9) hx hb dX12_takesStreet_3 (by decide) ?_
  refine lv_iload_n hx hb dX12_takesStreet_5 rfl (lv_at hl 1 rfl) ?_
  refine lv_imul hx hb dX12_takesStreet_6 ?_
  refine wk_top 0 (by decide) ?_
  replace hM := hM.lt (v := 0) (by decide)
  refine lv_iadd hx hb dX12_takesStreet_7 ?_
  refine wk_top 216 (by decide) ?_
  replace hM := hM.lt (v := 216) (by decide)
  refine lv_istore_n (lv' := [(3, .int 216), (0, .ref (ad 0)), (1, .int 0), (2, .int a2)]) hx hb dX12_takesStreet_8 rfl hl (by decide) rfl (fun ls hl => ?_)
  refine lv_aload_n hx hb dX12_takesStreet_9 rfl (lv_at hl 1 rfl) ?_
  refine tk_getA hC hK hw hT hinX12 kM_at0 (by decide) rfl 26 (by decide) (List.mem_cons_of_mem _ uw_7_1) rfl rfl dX12_takesStreet_10 ?_
  refine lv_iload_n hx hb dX12_takesStreet_13 rfl (lv_at hl 0 rfl) ?_
  refine tk_ialdR hC hK hw hT kM_at12 rfl (by decide) (by decide) dX12_takesStreet_14 (fun x1 c2 Ex1 => ?_)
  have hox1 := c2
  replace hM := hM.rd (sL_at (kM_lt kM_at12) hox1)
  have bx1 := tk_rgI rfl 216 1 1 0 9 (by decide +kernel) ⟨0, by decide, by decide⟩ Ex1
  have c2 : gi w0 12 216 = x1 := c2
  refine lv_istore (lv' := [(4, .int x1), (3, .int 216), (0, .ref (ad 0)), (1, .int 0), (2, .int a2)]) hx hb dX12_takesStreet_15 hl (by decide) rfl (fun ls hl => ?_)
  refine lv_aload_n hx hb dX12_takesStreet_17 rfl (lv_at hl 2 rfl) ?_
  refine tk_getA hC hK hw hT hinX12 kM_at0 (by decide) rfl 26 (by decide) (List.mem_cons_of_mem _ uw_7_1) rfl rfl dX12_takesStreet_18 ?_
  refine lv_iload_n hx hb dX12_takesStreet_21 rfl (lv_at hl 1 rfl) ?_
  refine lv_aload_n hx hb dX12_takesStreet_22 rfl (lv_at hl 2 rfl) ?_
  refine lv_iload_n hx hb dX12_takesStreet_23 rfl (lv_at hl 4 rfl) ?_
  refine lv_iload hx hb dX12_takesStreet_24 (lv_at hl 0 rfl) ?_
  refine tk_Vi hC hK hw hT hA hE hSR kM_at0 (by decide) rfl (ky_X12_otherOf_1 l adK adV dC dI cy ad B hB0 (Int.le_trans hB1 (by decide)) qr s1   a2 (show 0 ≤ a2.toInt from ra2) (show a2.toInt ≤ 11 from ta2) x1 (show 0 ≤ x1.toInt by first | with_reducible assumption | omega) (show x1.toInt ≤ 9 by first | with_reducible assumption | omega) w0 s.heap.size hT ) (cwV 2 hC.2.2.2.2 uV_RX12_348 rfl rfl rfl (by decide +kernel) ⟨Nat.le_of_ble_eq_true rfl, Nat.le_of_ble_eq_true rfl⟩) rfl hl.1 rfl (Nat.le_of_ble_eq_true rfl) dX12_takesStreet_26 (fun r3 w5 H locs hp4 hw => ?_)
  obtain ⟨rfl, hv13, hg12⟩ := hp4
  rcases hg12 with ⟨g7, g8⟩ | ⟨g9, g10, c11⟩
  · replace hM := hM.call hv13 rfl
    have hTq := hT
    refine tk_iastR hC hK hw hT kM_at12 (by decide) rfl (by decide) (by decide) (tk_rgS rfl 216 1 1 0 9 (by decide +kernel) ⟨0, by decide, by decide⟩ (show 0 ≤ r3.toInt by first | with_reducible assumption | omega) (show r3.toInt ≤ 9 by first | with_reducible assumption | omega)) dX12_takesStreet_29 (fun H locs w14 hw hT k16 c15 => ?_)
    replace hM := hM.wr (sL_upa hTq hT kM_at12 (kM_lt kM_at12) rfl (by decide) k16 c15 rfl)
    have hF := hF.put kM_at12 (inE_of (a := 216) (b := 216) (by decide) (by decide) (by decide)) k16
    have c15 : gi w14 12 216 = r3 := c15
    refine lv_aload_n hx hb dX12_takesStreet_30 rfl (lv_at hl 2 rfl) ?_
    refine tk_getA hC hK hw hT hinX12 kM_at0 (by decide) rfl 26 (by decide) (List.mem_cons_of_mem _ uw_7_1) rfl rfl dX12_takesStreet_31 ?_
    refine lv_iload_n hx hb dX12_takesStreet_34 rfl (lv_at hl 1 rfl) ?_
    refine lv_bipush (v := 7) hx hb dX12_takesStreet_35 (by decide) ?_
    refine lv_iadd hx hb dX12_takesStreet_37 ?_
    refine wk_top 223 (by decide) ?_
    replace hM := hM.lt (v := 223) (by decide)
    refine lv_iload hx hb dX12_takesStreet_38 (lv_at hl 0 rfl) ?_
    have hTq := hT
    refine tk_iastR hC hK hw hT kM_at12 (by decide) rfl (by decide) (by decide) (tk_rgS rfl 223 1 1 0 9 (by decide +kernel) ⟨0, by decide, by decide⟩ (show 0 ≤ x1.toInt by first | with_reducible assumption | omega) (show x1.toInt ≤ 9 by first | with_reducible assumption | omega)) dX12_takesStreet_40 (fun H locs w17 hw hT k19 c18 => ?_)
    replace hM := hM.wr (sL_upa hTq hT kM_at12 (kM_lt kM_at12) rfl (by decide) k19 c18 rfl)
    have hF := hF.put kM_at12 (inE_of (a := 223) (b := 223) (by decide) (by decide) (by decide)) k19
    have c20 := k19.gi (Or.inr (by decide)) c15
    have c18 : gi w17 12 223 = x1 := c18
    refine lv_aload_n hx hb dX12_takesStreet_41 rfl (lv_at hl 2 rfl) ?_
    refine tk_getA hC hK hw hT hinX12 kM_at0 (by decide) rfl 26 (by decide) (List.mem_cons_of_mem _ uw_7_1) rfl rfl dX12_takesStreet_42 ?_
    refine lv_iload_n hx hb dX12_takesStreet_45 rfl (lv_at hl 1 rfl) ?_
    refine lv_iconst (v := 4) hx hb dX12_takesStreet_46 (by decide) ?_
    refine lv_iadd hx hb dX12_takesStreet_47 ?_
    refine wk_top 220 (by decide) ?_
    replace hM := hM.lt (v := 220) (by decide)
    refine lv_dup2_11 hx hb dX12_takesStreet_48 rfl rfl ?_
    refine tk_ialdR hC hK hw hT kM_at12 rfl (by decide) (by decide) dX12_takesStreet_49 (fun x21 c22 Ex21 => ?_)
    have hox21 := c22
    replace hM := hM.rd (sL_at (kM_lt kM_at12) hox21)
    have bx21 := (tk_rgB rfl 220 1 1 (by decide +kernel) ⟨0, by decide, by decide⟩).mp Ex21
    have c22 : gi w17 12 220 = x21 := c22
    refine lv_aload_n hx hb dX12_takesStreet_50 rfl (lv_at hl 2 rfl) ?_
    refine lv_iload_n hx hb dX12_takesStreet_51 rfl (lv_at hl 4 rfl) ?_
    refine lv_iconst (v := 2) hx hb dX12_takesStreet_52 (by decide) ?_
    refine tk_Vi hC hK hw hT hA hE hSR kM_at0 (by decide) rfl (ky_X12_streetOf_2 l adK adV dC dI cy ad B hB0 (Int.le_trans hB1 (by decide)) qr s1   a2 (show 0 ≤ a2.toInt from ra2) (show a2.toInt ≤ 11 from ta2) w17 H.size hT ) (cwV 2 hC.2.2.2.2 uV_RX12_300 rfl rfl rfl (by decide +kernel) ⟨Nat.le_of_ble_eq_true rfl, Nat.le_of_ble_eq_true rfl⟩) rfl hl.1 rfl (Nat.le_of_ble_eq_true rfl) dX12_takesStreet_53 (fun r23 w25 H locs hp24 hw => ?_)
    obtain ⟨rfl, hv31, hg30⟩ := hp24
    obtain ⟨g27, g28, c29⟩ := hg30
    replace hM := hM.call hv31 rfl
    refine lv_iadd hx hb dX12_takesStreet_56 ?_
    refine lv_topi (fun x32 ex32 => ?_)
    have ezx32 := ex32
    have ex32 : x32.toInt = x21.toInt + r23.toInt := by rw [ex32]; exact wk_add (show (-2147483648) ≤ x21.toInt + r23.toInt by omega) (show x21.toInt + r23.toInt ≤ 2147483647 by omega)
    replace hM := hM.lt ex32.symm
    have hTq := hT
    have hT := hT.up (show B ≤ (B + 9) by omega)
    refine tk_iastR hC hK hw hT kM_at12 (by decide) rfl (by decide) (by decide) ((tk_rgB rfl 220 1 1 (by decide +kernel) ⟨0, by decide, by decide⟩).mpr ⟨(show 0 ≤ x32.toInt by first | with_reducible assumption | omega), (show x32.toInt ≤ (B + 9) by omega)⟩) dX12_takesStreet_57 (fun H locs w33 hw hT k35 c34 => ?_)
    replace hM := hM.wr (sL_upa hTq hT kM_at12 (kM_lt kM_at12) rfl (by decide) k35 c34 rfl)
    have hF := hF.put kM_at12 (inE_of (a := 220) (b := 220) (by decide) (by decide) (by decide)) k35
    have c36 := k35.gi (Or.inr (by decide)) c20
    have c37 := k35.gi (Or.inr (by decide)) c18
    have c34 : gi w33 12 220 = x32 := c34
    exact tk_vret hC hr hlocks hK ⟨hT, hF, hM.ret rfl, ⟨x1, c37, (show 0 ≤ x1.toInt by first | with_reducible assumption | omega), (show x1.toInt ≤ 9 by first | with_reducible assumption | omega)⟩⟩ hw dX12_takesStreet_58
  · replace hM := hM.call hv13 rfl
    have hTq := hT
    refine tk_iastR hC hK hw hT kM_at12 (by decide) rfl (by decide) (by decide) (tk_rgS rfl 216 1 1 0 9 (by decide +kernel) ⟨0, by decide, by decide⟩ (show 0 ≤ r3.toInt by first | with_reducible assumption | omega) (show r3.toInt ≤ 9 by first | with_reducible assumption | omega)) dX12_takesStreet_29 (fun H locs w38 hw hT k40 c39 => ?_)
    replace hM := hM.wr (sL_upa hTq hT kM_at12 (kM_lt kM_at12) rfl (by decide) k40 c39 rfl)
    have hF := hF.put kM_at12 (inE_of (a := 216) (b := 216) (by decide) (by decide) (by decide)) k40
    have c39 : gi w38 12 216 = r3 := c39
    refine lv_aload_n hx hb dX12_takesStreet_30 rfl (lv_at hl 2 rfl) ?_
    refine tk_getA hC hK hw hT hinX12 kM_at0 (by decide) rfl 26 (by decide) (List.mem_cons_of_mem _ uw_7_1) rfl rfl dX12_takesStreet_31 ?_
    refine lv_iload_n hx hb dX12_takesStreet_34 rfl (lv_at hl 1 rfl) ?_
    refine lv_bipush (v := 7) hx hb dX12_takesStreet_35 (by decide) ?_
    refine lv_iadd hx hb dX12_takesStreet_37 ?_
    refine wk_top 223 (by decide) ?_
    replace hM := hM.lt (v := 223) (by decide)
    refine lv_iload hx hb dX12_takesStreet_38 (lv_at hl 0 rfl) ?_
    have hTq := hT
    refine tk_iastR hC hK hw hT kM_at12 (by decide) rfl (by decide) (by decide) (tk_rgS rfl 223 1 1 0 9 (by decide +kernel) ⟨0, by decide, by decide⟩ (show 0 ≤ x1.toInt by first | with_reducible assumption | omega) (show x1.toInt ≤ 9 by first | with_reducible assumption | omega)) dX12_takesStreet_40 (fun H locs w41 hw hT k43 c42 => ?_)
    replace hM := hM.wr (sL_upa hTq hT kM_at12 (kM_lt kM_at12) rfl (by decide) k43 c42 rfl)
    have hF := hF.put kM_at12 (inE_of (a := 223) (b := 223) (by decide) (by decide) (by decide)) k43
    have c44 := k43.gi (Or.inr (by decide)) c39
    have c42 : gi w41 12 223 = x1 := c42
    refine lv_aload_n hx hb dX12_takesStreet_41 rfl (lv_at hl 2 rfl) ?_
    refine tk_getA hC hK hw hT hinX12 kM_at0 (by decide) rfl 26 (by decide) (List.mem_cons_of_mem _ uw_7_1) rfl rfl dX12_takesStreet_42 ?_
    refine lv_iload_n hx hb dX12_takesStreet_45 rfl (lv_at hl 1 rfl) ?_
    refine lv_iconst (v := 4) hx hb dX12_takesStreet_46 (by decide) ?_
    refine lv_iadd hx hb dX12_takesStreet_47 ?_
    refine wk_top 220 (by decide) ?_
    replace hM := hM.lt (v := 220) (by decide)
    refine lv_dup2_11 hx hb dX12_takesStreet_48 rfl rfl ?_
    refine tk_ialdR hC hK hw hT kM_at12 rfl (by decide) (by decide) dX12_takesStreet_49 (fun x45 c46 Ex45 => ?_)
    have hox45 := c46
    replace hM := hM.rd (sL_at (kM_lt kM_at12) hox45)
    have bx45 := (tk_rgB rfl 220 1 1 (by decide +kernel) ⟨0, by decide, by decide⟩).mp Ex45
    have c46 : gi w41 12 220 = x45 := c46
    refine lv_aload_n hx hb dX12_takesStreet_50 rfl (lv_at hl 2 rfl) ?_
    refine lv_iload_n hx hb dX12_takesStreet_51 rfl (lv_at hl 4 rfl) ?_
    refine lv_iconst (v := 2) hx hb dX12_takesStreet_52 (by decide) ?_
    refine tk_Vi hC hK hw hT hA hE hSR kM_at0 (by decide) rfl (ky_X12_streetOf_2 l adK adV dC dI cy ad B hB0 (Int.le_trans hB1 (by decide)) qr s1   a2 (show 0 ≤ a2.toInt from ra2) (show a2.toInt ≤ 11 from ta2) w41 H.size hT ) (cwV 2 hC.2.2.2.2 uV_RX12_300 rfl rfl rfl (by decide +kernel) ⟨Nat.le_of_ble_eq_true rfl, Nat.le_of_ble_eq_true rfl⟩) rfl hl.1 rfl (Nat.le_of_ble_eq_true rfl) dX12_takesStreet_53 (fun r47 w49 H locs hp48 hw => ?_)
    obtain ⟨rfl, hv55, hg54⟩ := hp48
    obtain ⟨g51, g52, c53⟩ := hg54
    replace hM := hM.call hv55 rfl
    refine lv_iadd hx hb dX12_takesStreet_56 ?_
    refine lv_topi (fun x56 ex56 => ?_)
    have ezx56 := ex56
    have ex56 : x56.toInt = x45.toInt + r47.toInt := by rw [ex56]; exact wk_add (show (-2147483648) ≤ x45.toInt + r47.toInt by omega) (show x45.toInt + r47.toInt ≤ 2147483647 by omega)
    replace hM := hM.lt ex56.symm
    have hTq := hT
    have hT := hT.up (show B ≤ (B + 9) by omega)
    refine tk_iastR hC hK hw hT kM_at12 (by decide) rfl (by decide) (by decide) ((tk_rgB rfl 220 1 1 (by decide +kernel) ⟨0, by decide, by decide⟩).mpr ⟨(show 0 ≤ x56.toInt by first | with_reducible assumption | omega), (show x56.toInt ≤ (B + 9) by omega)⟩) dX12_takesStreet_57 (fun H locs w57 hw hT k59 c58 => ?_)
    replace hM := hM.wr (sL_upa hTq hT kM_at12 (kM_lt kM_at12) rfl (by decide) k59 c58 rfl)
    have hF := hF.put kM_at12 (inE_of (a := 220) (b := 220) (by decide) (by decide) (by decide)) k59
    have c60 := k59.gi (Or.inr (by decide)) c44
    have c61 := k59.gi (Or.inr (by decide)) c42
    have c58 : gi w57 12 220 = x56 := c58
    exact tk_vret hC hr hlocks hK ⟨hT, hF, hM.ret rfl, ⟨x1, c61, (show 0 ≤ x1.toInt by first | with_reducible assumption | omega), (show x1.toInt ≤ 9 by first | with_reducible assumption | omega)⟩⟩ hw dX12_takesStreet_58
abbrev Py_X12_steps_1 (ad : Nat → Nat) (cy : Nat → ClassId) (B : Int) (qr : Nat) (s1 : Int)  (w0 : va_W) : Int32 → va_W → Prop := fun r u => TW ksM ad cy (B + 9) qr 12 u ∧ FE ksM [(12, 24, 24), (12, 31, 31), (69, 0, 64), (70, 0, 10), (71, 216, 216), (71, 220, 220), (71, 221, 221), (71, 222, 222), (71, 223, 223), (71, 224, 224), (72, 0, 12), (73, 0, 10)] w0 u ∧ Ev (fun n => m_X12_steps n 0 0 (sL w0)) (r.toInt, sL u) ∧ ((r = 0) ∨ (r = 1))
set_option maxHeartbeats 4000000 in
set_option maxRecDepth 100000 in
theorem ky_X12_steps_1 (l : Launch) (adK adV : Nat → Nat) (dC : Nat → ClassId) (dI : Nat → Nat → Nat) (cy : Nat → ClassId) (ad : Nat → Nat) (B : Int) (hB0 : 100000 ≤ B) (hB1 : B ≤ 1073741824) (qr : Nat) (s1 : Int)   (w0 : va_W) (sz : Nat) (hT : TW ksM ad cy B qr 12 w0) (hRW : RW w0) : Met l yX12_steps (wu yX12_steps cX12_steps 4 (some .boolean)) ({ frames := 8, cells := 0, slots := 0, locals := 171 }) (va_Pc [.ref (ad 0), .int 0] (wpreS adK adV dC dI cy sz w0)) (va_Qi (Py_X12_steps_1 ad cy B qr s1  w0) (fun u : va_W => wpost dC dI cy (va_A w0 sz) u) (va_A w0 sz)) 0 0 (va_A w0 sz) := by
  refine Met.ofW (cc := cX12_steps) (maxL := 4) (ret := (some .boolean)) (by decide) rfl ?_
  intro p e s m args below meth c s₁ Bk hml hv
  obtain ⟨rfl, ⟨hsz, hP, hK, hD0⟩, hE, hSR⟩ := hv
  have hx := Bk.exec
  have hb := Bk.bytes
  have hr := Bk.returns
  have hlocks := Bk.notSynchronized
  have hC : CallFix p m c cX12_steps 4 s _ (wu yX12_steps cX12_steps 4 (some .boolean)) RX12 := ⟨hx, hb, hml, findClass_of_methodNamed Bk.named, atoms_spec (ws := (wu yX12_steps cX12_steps 4 (some .boolean))) Bk.pre⟩
  subst hsz
  have hD := hD0.self (sz := s.heap.size)
  generalize hAe : va_A w0 s.heap.size = A at hD hE ⊢
  have hA : ∀ q : Nat, s.heap.size ≤ q → A q := fun q h => by rw [← hAe]; exact Or.inr h
  have hw : Wd dC dI A s.heap s.heap [] w0 := ⟨hP, hD, va_S.rf⟩
  have hF : FE ksM [(12, 24, 24), (12, 31, 31), (69, 0, 64), (70, 0, 10), (71, 216, 216), (71, 220, 220), (71, 221, 221), (71, 222, 222), (71, 223, 223), (71, 224, 224), (72, 0, 12), (73, 0, 10)] w0 w0 := FE.rf
  have hl := lv_entry ([.ref (ad 0), .int 0]) (n := 4) (Nat.le_of_ble_eq_true rfl)
  rw [lg_entry_eq]
  generalize (lg_sl ([.ref (ad 0), .int 0]) ++ List.replicate (4 - (lg_sl ([.ref (ad 0), .int 0])).length) Slot.unset).toArray = ls at hl ⊢
  have hl : lv_has ls 4 [(0, .ref (ad 0)), (1, .int 0)] := hl
  generalize hloc : ([] : List Loc) = locs at hw ⊢
  have hinX12 : ∀ w ∈ u_ws RX12 TX12 42, w ∈ (wu yX12_steps cX12_steps 4 (some .boolean)) := fun _ h => List.mem_cons_of_mem _ (up_71 h)
  have J125 : ∀ (v125_2 : Int32) (f125_0_31 : Int32) (f125_12_219 : Int32) (f125_12_221 : Int32) (H : Heap) (locs : List Loc) (ls : Array Slot) (w1 : va_W), 0 ≤ v125_2.toInt → v125_2.toInt ≤ 1 → (-1) ≤ f125_0_31.toInt → f125_0_31.toInt ≤ 11 → (-1) ≤ f125_12_219.toInt → f125_12_219.toInt ≤ 5 → Wd dC dI A s.heap H locs w1 → TW ksM ad cy (B + 9) qr 12 w1 → FE ksM [(12, 24, 24), (12, 31, 31), (69, 0, 64), (70, 0, 10), (71, 216, 216), (71, 220, 220), (71, 221, 221), (71, 222, 222), (71, 223, 223), (71, 224, 224), (72, 0, 12), (73, 0, 10)] w0 w1 → RW w1 → gi w1 0 31 = f125_0_31 → gi w1 12 219 = f125_12_219 → gi w1 12 221 = f125_12_221 → TT (fun n => m_X12_steps n 0 0 (sL w0)) (fun n => b_X12_steps_125 n 0 (sL w1)) → lv_has ls 4 [(0, .ref (ad 0)), (1, .int 0), (2, .int v125_2), (3, .int 216)] → W p l e ({ frames := 8, cells := 0, slots := 0, locals := 171 }) s m (List.toArray [.ref (ad 0), .int 0]) below meth c H locs 0 0 (MQ below (va_Qi (Py_X12_steps_1 ad cy B qr s1  w0) (fun u : va_W => wpost dC dI cy A u) A) (List.toArray [.ref (ad 0), .int 0]) s 0 0 A) (F0 m 125 ls []) := by
    intro v125_2 f125_0_31 f125_12_219 f125_12_221 H locs ls w1 r2 t3 r4 t5 r7 t8 hw hT hF hRW c6 c9 c10 hM hl
    refine lv_iconst (v := 1) hx hb dX12_steps_125 (by decide) ?_
    refine lv_goto (tgt := 130) hx hb dX12_steps_126 (by decide) ?_
    exact tk_zret hC hr rfl hlocks hK ⟨hT, hF, hM.ret (by decide), (Or.inr rfl)⟩ hw dX12_steps_130
  have J104 : ∀ (v104_2 : Int32) (f104_0_31 : Int32) (f104_12_219 : Int32) (H : Heap) (locs : List Loc) (ls : Array Slot) (w11 : va_W), (-1) ≤ f104_0_31.toInt → f104_0_31.toInt ≤ 11 → (-1) ≤ f104_12_219.toInt → f104_12_219.toInt ≤ 5 → Wd dC dI A s.heap H locs w11 → TW ksM ad cy (B + 9) qr 12 w11 → FE ksM [(12, 24, 24), (12, 31, 31), (69, 0, 64), (70, 0, 10), (71, 216, 216), (71, 220, 220), (71, 221, 221), (71, 222, 222), (71, 223, 223), (71, 224, 224), (72, 0, 12), (73, 0, 10)] w0 w11 → RW w11 → gi w11 0 31 = f104_0_31 → gi w11 12 219 = f104_12_219 → TT (fun n => m_X12_steps n 0 0 (sL w0)) (fun n => b_X12_steps_104 n 0 (v104_2.toInt) (216 : Int) (sL w11)) → lv_has ls 4 [(0, .ref (ad 0)), (1, .int 0), (2, .int v104_2), (3, .int 216)] → W p l e ({ frames := 8, cells := 0, slots := 0, locals := 171 }) s m (List.toArray [.ref (ad 0), .int 0]) below meth c H locs 0 0 (MQ below (va_Qi (Py_X12_steps_1 ad cy B qr s1  w0) (fun u : va_W => wpost dC dI cy A u) A) (List.toArray [.ref (ad 0), .int 0]) s 0 0 A) (F0 m 104 ls []) := by
    intro v104_2 f104_0_31 f104_12_219 H locs ls w11 r12 t13 r15 t16 hw hT hF hRW c14 c17 hM hl
    refine lv_aload_n hx hb dX12_steps_104 rfl (lv_at hl 0 rfl) ?_
    refine tk_getA hC hK hw hT hinX12 kM_at0 (by decide) rfl 26 (by decide) (List.mem_cons_of_mem _ uw_7_1) rfl rfl dX12_steps_105 ?_
    refine lv_iload_n hx hb dX12_steps_108 rfl (lv_at hl 3 rfl) ?_
    refine lv_iconst (v := 5) hx hb dX12_steps_109 (by decide) ?_
    refine lv_iadd hx hb dX12_steps_110 ?_
    refine wk_top 221 (by decide) ?_
    replace hM := hM.lt (v := 221) (by decide)
    refine lv_dup2_11 hx hb dX12_steps_111 rfl rfl ?_
    refine tk_ialdR hC hK hw hT kM_at12 rfl (by decide) (by decide) dX12_steps_112 (fun x18 c19 Ex18 => ?_)
    have hox18 := c19
    replace hM := hM.rd (sL_at (kM_lt kM_at12) hox18)
    have c19 : gi w11 12 221 = x18 := c19
    refine lv_iconst (v := 1) hx hb dX12_steps_113 (by decide) ?_
    refine lv_iadd hx hb dX12_steps_114 ?_
    have nx20 := wk_i32 x18
    refine lv_topi (fun x21 ex21 => ?_)
    have ezx21 := ex21
    replace hM := hM.lt (o32_e (f := fun x y => x + y) ezx21 rfl (by decide))
    have hTq := hT
    refine tk_iastR hC hK hw hT kM_at12 (by decide) rfl (by decide) (by decide) (tk_rgS rfl 221 1 1 (-2147483648) 2147483647 (by decide +kernel) ⟨0, by decide, by decide⟩ (wk_i32 x21).1 (wk_i32 x21).2) dX12_steps_115 (fun H locs w22 hw hT k24 c23 => ?_)
    replace hM := hM.wr (sL_upa hTq hT kM_at12 (kM_lt kM_at12) rfl (by decide) k24 c23 rfl)
    have hRW := RW_F1 k24 (by decide) (by decide) (by decide) hRW
    have hF := hF.put kM_at12 (inE_of (a := 221) (b := 221) (by decide) (by decide) (by decide)) k24
    have c25 := k24.gi (Or.inl (tk_ne kM_at0 kM_at12 (by decide))) c14
    have c26 := k24.gi (Or.inr (by decide)) c17
    have c23 : gi w22 12 221 = x21 := c23
    refine lv_iload_n hx hb dX12_steps_116 rfl (lv_at hl 2 rfl) ?_
    refine lv_if_eq (tgt := 125) hx hb dX12_steps_117 (by decide) (fun c27 => ?_) (fun c27 => ?_)
    · have c27 : v104_2.toInt = (0 : Int) := wk_eq.mp c27
      replace hM := hM.pos c27
      exact J125 v104_2 f104_0_31 f104_12_219 x21 H locs ls w22 (show 0 ≤ v104_2.toInt by first | with_reducible assumption | omega) (show v104_2.toInt ≤ 1 by first | with_reducible assumption | omega) (show (-1) ≤ f104_0_31.toInt from r12) (show f104_0_31.toInt ≤ 11 from t13) (show (-1) ≤ f104_12_219.toInt from r15) (show f104_12_219.toInt ≤ 5 from t16)  hw hT hF hRW c25 c26 c23 hM (lv_sub hl [0, 1, 2, 3] rfl)
    · have c27 : ¬ v104_2.toInt = (0 : Int) := wk_eqF c27
      replace hM := hM.neg c27
      refine lv_iload_n hx hb dX12_steps_120 rfl (lv_at hl 2 rfl) ?_
      refine lv_iconst (v := 1) hx hb dX12_steps_121 (by decide) ?_
      refine lv_icmp_ne (tgt := 129) hx hb dX12_steps_122 (by decide) (fun c28 => ?_) (fun c28 => ?_)
      · have c28 : ¬ v104_2.toInt = (1 : Int) := wk_eqF c28
        replace hM := hM.pos c28
        refine lv_iconst (v := 0) hx hb dX12_steps_129 (by decide) ?_
        exact tk_zret hC hr rfl hlocks hK ⟨hT, hF, hM.ret (by decide), (Or.inl rfl)⟩ hw dX12_steps_130
      · have c28 : v104_2.toInt = (1 : Int) := wk_eq.mp c28
        replace hM := hM.neg (fun q => q c28)
        exact J125 v104_2 f104_0_31 f104_12_219 x21 H locs ls w22 (show 0 ≤ v104_2.toInt by first | with_reducible assumption | omega) (show v104_2.toInt ≤ 1 by first | with_reducible assumption | omega) (show (-1) ≤ f104_0_31.toInt from r12) (show f104_0_31.toInt ≤ 11 from t13) (show (-1) ≤ f104_12_219.toInt from r15) (show f104_12_219.toInt ≤ 5 from t16)  hw hT hF hRW c25 c26 c23 hM (lv_sub hl [0, 1, 2, 3] rfl)
  have J92 : ∀ (v92_2 : Int32) (f92_0_31 : Int32) (f92_12_219 : Int32) (H : Heap) (locs : List Loc) (ls : Array Slot) (w29 : va_W), (-1) ≤ f92_0_31.toInt → f92_0_31.toInt ≤ 11 → (-1) ≤ f92_12_219.toInt → f92_12_219.toInt ≤ 5 → Wd dC dI A s.heap H locs w29 → TW ksM ad cy B qr 12 w29 → FE ksM [(12, 24, 24), (12, 31, 31), (69, 0, 64), (70, 0, 10), (71, 216, 216), (71, 220, 220), (71, 221, 221), (71, 222, 222), (71, 223, 223), (71, 224, 224), (72, 0, 12), (73, 0, 10)] w0 w29 → RW w29 → gi w29 0 31 = f92_0_31 → gi w29 12 219 = f92_12_219 → TT (fun n => m_X12_steps n 0 0 (sL w0)) (fun n => b_X12_steps_92 n 0 (v92_2.toInt) (216 : Int) (sL w29)) → lv_has ls 4 [(0, .ref (ad 0)), (1, .int 0), (2, .int v92_2), (3, .int 216)] → W p l e ({ frames := 8, cells := 0, slots := 0, locals := 171 }) s m (List.toArray [.ref (ad 0), .int 0]) below meth c H locs 0 0 (MQ below (va_Qi (Py_X12_steps_1 ad cy B qr s1  w0) (fun u : va_W => wpost dC dI cy A u) A) (List.toArray [.ref (ad 0), .int 0]) s 0 0 A) (F0 m 92 ls []) := by
    intro v92_2 f92_0_31 f92_12_219 H locs ls w29 r30 t31 r33 t34 hw hT hF hRW c32 c35 hM hl
    refine lv_aload_n hx hb dX12_steps_92 rfl (lv_at hl 0 rfl) ?_
    refine tk_getA hC hK hw hT hinX12 kM_at0 (by decide) rfl 26 (by decide) (List.mem_cons_of_mem _ uw_7_1) rfl rfl dX12_steps_93 ?_
    refine lv_iload_n hx hb dX12_steps_96 rfl (lv_at hl 3 rfl) ?_
    refine lv_iconst (v := 4) hx hb dX12_steps_97 (by decide) ?_
    refine lv_iadd hx hb dX12_steps_98 ?_
    refine wk_top 220 (by decide) ?_
    replace hM := hM.lt (v := 220) (by decide)
    refine lv_dup2_11 hx hb dX12_steps_99 rfl rfl ?_
    refine tk_ialdR hC hK hw hT kM_at12 rfl (by decide) (by decide) dX12_steps_100 (fun x36 c37 Ex36 => ?_)
    have hox36 := c37
    replace hM := hM.rd (sL_at (kM_lt kM_at12) hox36)
    have bx36 := (tk_rgB rfl 220 1 1 (by decide +kernel) ⟨0, by decide, by decide⟩).mp Ex36
    have c37 : gi w29 12 220 = x36 := c37
    refine lv_iconst (v := 1) hx hb dX12_steps_101 (by decide) ?_
    refine lv_iadd hx hb dX12_steps_102 ?_
    refine lv_topi (fun x38 ex38 => ?_)
    have ezx38 := ex38
    have ex38 : x38.toInt = x36.toInt + (1 : Int) := by rw [ex38]; exact wk_add (show (-2147483648) ≤ x36.toInt + (1 : Int) by omega) (show x36.toInt + (1 : Int) ≤ 2147483647 by omega)
    replace hM := hM.lt ex38.symm
    have hTq := hT
    have hT := hT.up (show B ≤ (B + 1) by omega)
    refine tk_iastR hC hK hw hT kM_at12 (by decide) rfl (by decide) (by decide) ((tk_rgB rfl 220 1 1 (by decide +kernel) ⟨0, by decide, by decide⟩).mpr ⟨(show 0 ≤ x38.toInt by first | with_reducible assumption | omega), (show x38.toInt ≤ (B + 1) by omega)⟩) dX12_steps_103 (fun H locs w39 hw hT k41 c40 => ?_)
    replace hM := hM.wr (sL_upa hTq hT kM_at12 (kM_lt kM_at12) rfl (by decide) k41 c40 rfl)
    have hRW := RW_F1 k41 (by decide) (by decide) (by decide) hRW
    have hF := hF.put kM_at12 (inE_of (a := 220) (b := 220) (by decide) (by decide) (by decide)) k41
    have c42 := k41.gi (Or.inl (tk_ne kM_at0 kM_at12 (by decide))) c32
    have c43 := k41.gi (Or.inr (by decide)) c35
    have c40 : gi w39 12 220 = x38 := c40
    exact J104 v92_2 f92_0_31 f92_12_219 H locs ls w39 (show (-1) ≤ f92_0_31.toInt from r30) (show f92_0_31.toInt ≤ 11 from t31) (show (-1) ≤ f92_12_219.toInt from r33) (show f92_12_219.toInt ≤ 5 from t34)  hw (hT.up (show (B + 1) ≤ (B + 9) by omega)) hF hRW c42 c43 hM (lv_sub hl [0, 1, 2, 3] rfl)
  have hM : TT (fun n => m_X12_steps n 0 0 (sL w0)) (fun n => m_X12_steps n 0 0 (sL w0)) := TT.rf
  refine lv_aload_n hx hb dX12_steps_0 rfl (lv_at hl 0 rfl) ?_
  refine lv_iload_n hx hb dX12_steps_1 rfl (lv_at hl 1 rfl) ?_
  refine tk_Vv hC hK hw hT hA hE hSR kM_at0 (by decide) rfl (ky_X12_looks_1 l adK adV dC dI cy ad B hB0 (Int.le_trans hB1 (by decide)) qr s1    w0 s.heap.size hT ) (cwV 1 hC.2.2.2.2 uV_RX12_405 rfl rfl rfl (by decide +kernel) ⟨Nat.le_of_ble_eq_true rfl, Nat.le_of_ble_eq_true rfl⟩) rfl hl.1 rfl (Nat.le_of_ble_eq_true rfl) dX12_steps_2 (fun w46 H locs hp45 hw => ?_)
  obtain ⟨hT, k47, hv51, hg50⟩ := hp45
  have hRW := RW_FE k47 (fun _ => rfl) (fun _ => rfl) (fun _ => rfl) hRW
  have hF := hF.tr k47 (by decide)
  obtain ⟨x48, c49, rx48, tx48⟩ := hg50
  replace hM := hM.call hv51 rfl
  refine lv_aload_n hx hb dX12_steps_5 rfl (lv_at hl 0 rfl) ?_
  refine lv_iload_n hx hb dX12_steps_6 rfl (lv_at hl 1 rfl) ?_
  refine tk_Vi hC hK hw hT hA hE hSR kM_at0 (by decide) rfl (ky_X12_doing_1 l adK adV dC dI cy ad B hB0 (Int.le_trans hB1 (by decide)) qr s1    w46 H.size hT hRW) (cwV 1 hC.2.2.2.2 uV_RX12_408 rfl rfl rfl (by decide +kernel) ⟨Nat.le_of_ble_eq_true rfl, Nat.le_of_ble_eq_true rfl⟩) rfl hl.1 rfl (Nat.le_of_ble_eq_true rfl) dX12_steps_7 (fun r52 w54 H locs hp53 hw => ?_)
  obtain ⟨hT, k55, hv78, hg77⟩ := hp53
  have hRW := RW_FE k55 (fun _ => rfl) (fun _ => rfl) (fun _ => rfl) hRW
  have hF := hF.tr k55 (by decide)
  have c79 := k55.gi kM_at0 (by decide) c49
  rcases hg77 with ⟨g56, ⟨x57, c58, rx57, tx57⟩⟩ | ⟨g59, ⟨x60, c61, rx60, tx60⟩⟩ | ⟨rfl, ⟨x62, c63, rx62, tx62⟩, ⟨x64, c65, rx64, tx64⟩⟩ | ⟨rfl, ⟨x66, c67, rx66, tx66⟩, ⟨x68, c69, rx68, tx68⟩, hq70⟩ | ⟨rfl, ⟨x71, c72, rx71, tx71⟩, ⟨x73, c74, rx73, tx73⟩⟩ | ⟨rfl, ⟨x75, c76, rx75, tx75⟩⟩
  · replace hM := hM.call hv78 rfl
    refine lv_istore_n (lv' := [(2, .int r52), (0, .ref (ad 0)), (1, .int 0)]) hx hb dX12_steps_10 rfl hl (by decide) rfl (fun ls hl => ?_)
    refine lv_sipush (v := 216) hx hb dX12_steps_11 (by decide) ?_
    refine lv_bipush (v := 9) hx hb dX12_steps_14 (by decide) ?_
    refine lv_iload_n hx hb dX12_steps_16 rfl (lv_at hl 2 rfl) ?_
    refine lv_imul hx hb dX12_steps_17 ?_
    refine wk_top 0 (by decide) ?_
    replace hM := hM.lt (v := 0) (by decide)
    refine lv_iadd hx hb dX12_steps_18 ?_
    refine wk_top 216 (by decide) ?_
    replace hM := hM.lt (v := 216) (by decide)
    refine lv_istore_n (lv' := [(3, .int 216), (2, .int r52), (0, .ref (ad 0)), (1, .int 0)]) hx hb dX12_steps_19 rfl hl (by decide) rfl (fun ls hl => ?_)
    refine lv_iload_n hx hb dX12_steps_20 rfl (lv_at hl 1 rfl) ?_
    refine lv_if_ne (tgt := 36) hx hb dX12_steps_21 (by decide) (fun _ => ?_) (fun c => absurd (show r52.toInt = (0 : Int) from wk_eq.mp c) (by omega))
    replace hM := hM.pos (by omega)
    refine lv_iload_n hx hb dX12_steps_36 rfl (lv_at hl 1 rfl) ?_
    refine lv_iconst (v := 1) hx hb dX12_steps_37 (by decide) ?_
    refine lv_icmp_ne (tgt := 54) hx hb dX12_steps_38 (by decide) (fun _ => ?_) (fun c => absurd (show r52.toInt = (1 : Int) from wk_eq.mp c) (by omega))
    replace hM := hM.pos (by omega)
    refine lv_iload_n hx hb dX12_steps_54 rfl (lv_at hl 1 rfl) ?_
    refine lv_iconst (v := 2) hx hb dX12_steps_55 (by decide) ?_
    refine lv_icmp_ne (tgt := 92) hx hb dX12_steps_56 (by decide) (fun _ => ?_) (fun c => absurd (show r52.toInt = (2 : Int) from wk_eq.mp c) (by omega))
    replace hM := hM.pos (by omega)
    exact J92 r52 x48 x57 H locs ls w54 (show (-1) ≤ x48.toInt by first | with_reducible assumption | omega) (show x48.toInt ≤ 11 by first | with_reducible assumption | omega) (show (-1) ≤ x57.toInt by first | with_reducible assumption | omega) (show x57.toInt ≤ 5 by first | with_reducible assumption | omega)  hw hT hF hRW c79 c58 hM (lv_sub hl [2, 3, 1, 0] rfl)
  · replace hM := hM.call hv78 rfl
    refine lv_istore_n (lv' := [(2, .int r52), (0, .ref (ad 0)), (1, .int 0)]) hx hb dX12_steps_10 rfl hl (by decide) rfl (fun ls hl => ?_)
    refine lv_sipush (v := 216) hx hb dX12_steps_11 (by decide) ?_
    refine lv_bipush (v := 9) hx hb dX12_steps_14 (by decide) ?_
    refine lv_iload_n hx hb dX12_steps_16 rfl (lv_at hl 2 rfl) ?_
    refine lv_imul hx hb dX12_steps_17 ?_
    refine wk_top 0 (by decide) ?_
    replace hM := hM.lt (v := 0) (by decide)
    refine lv_iadd hx hb dX12_steps_18 ?_
    refine wk_top 216 (by decide) ?_
    replace hM := hM.lt (v := 216) (by decide)
    refine lv_istore_n (lv' := [(3, .int 216), (2, .int r52), (0, .ref (ad 0)), (1, .int 0)]) hx hb dX12_steps_19 rfl hl (by decide) rfl (fun ls hl => ?_)
    refine lv_iload_n hx hb dX12_steps_20 rfl (lv_at hl 1 rfl) ?_
    refine lv_if_ne (tgt := 36) hx hb dX12_steps_21 (by decide) (fun _ => ?_) (fun c => absurd (show r52.toInt = (0 : Int) from wk_eq.mp c) (by omega))
    replace hM := hM.pos (by omega)
    refine lv_iload_n hx hb dX12_steps_36 rfl (lv_at hl 1 rfl) ?_
    refine lv_iconst (v := 1) hx hb dX12_steps_37 (by decide) ?_
    refine lv_icmp_ne (tgt := 54) hx hb dX12_steps_38 (by decide) (fun _ => ?_) (fun c => absurd (show r52.toInt = (1 : Int) from wk_eq.mp c) (by omega))
    replace hM := hM.pos (by omega)
    refine lv_iload_n hx hb dX12_steps_54 rfl (lv_at hl 1 rfl) ?_
    refine lv_iconst (v := 2) hx hb dX12_steps_55 (by decide) ?_
    refine lv_icmp_ne (tgt := 92) hx hb dX12_steps_56 (by decide) (fun _ => ?_) (fun c => absurd (show r52.toInt = (2 : Int) from wk_eq.mp c) (by omega))
    replace hM := hM.pos (by omega)
    exact J92 r52 x48 x60 H locs ls w54 (show (-1) ≤ x48.toInt by first | with_reducible assumption | omega) (show x48.toInt ≤ 11 by first | with_reducible assumption | omega) (show (-1) ≤ x60.toInt by first | with_reducible assumption | omega) (show x60.toInt ≤ 5 by first | with_reducible assumption | omega)  hw hT hF hRW c79 c61 hM (lv_sub hl [2, 3, 1, 0] rfl)
  · replace hM := hM.call (r' := 0) hv78 (by decide)
    have ex62 : x62.toInt = x48.toInt := by rw [← c79.symm.trans c63]
    refine lv_istore_n (lv' := [(2, .int 0), (0, .ref (ad 0)), (1, .int 0)]) hx hb dX12_steps_10 rfl hl (by decide) rfl (fun ls hl => ?_)
    refine lv_sipush (v := 216) hx hb dX12_steps_11 (by decide) ?_
    refine lv_bipush (v := 9) hx hb dX12_steps_14 (by decide) ?_
    refine lv_iload_n hx hb dX12_steps_16 rfl (lv_at hl 2 rfl) ?_
    refine lv_imul hx hb dX12_steps_17 ?_
    refine wk_top 0 (by decide) ?_
    replace hM := hM.lt (v := 0) (by decide)
    refine lv_iadd hx hb dX12_steps_18 ?_
    refine wk_top 216 (by decide) ?_
    replace hM := hM.lt (v := 216) (by decide)
    refine lv_istore_n (lv' := [(3, .int 216), (2, .int 0), (0, .ref (ad 0)), (1, .int 0)]) hx hb dX12_steps_19 rfl hl (by decide) rfl (fun ls hl => ?_)
    refine lv_iload_n hx hb dX12_steps_20 rfl (lv_at hl 1 rfl) ?_
    refine lv_if_ne (tgt := 36) hx hb dX12_steps_21 (by decide) (fun c => absurd (by decide) c) (fun _ => ?_)
    replace hM := hM.neg (by decide)
    refine lv_aload_n hx hb dX12_steps_24 rfl (lv_at hl 2 rfl) ?_
    refine lv_iload_n hx hb dX12_steps_25 rfl (lv_at hl 3 rfl) ?_
    refine lv_aload_n hx hb dX12_steps_26 rfl (lv_at hl 2 rfl) ?_
    refine tk_geti hC hK hw hT hinX12 kM_at0 (by decide) rfl 31 (by decide) (List.mem_cons_of_mem _ uw_46_23) rfl rfl dX12_steps_27 (fun x80 c81 rx80 tx80 => ?_)
    refine wk_top x48 (c81.symm.trans c79) ?_
    replace hM := hM.rd (sL_at (kM_lt kM_at0) c79)
    refine tk_Vv hC hK hw hT hA hE hSR kM_at0 (by decide) rfl (ky_X12_takesStreet_1 l adK adV dC dI cy ad B hB0 (Int.le_trans hB1 (by decide)) qr s1   x48 (show 0 ≤ x48.toInt by first | with_reducible assumption | omega) (show x48.toInt ≤ 11 by first | with_reducible assumption | omega) w54 H.size hT ) (cwV 2 hC.2.2.2.2 uV_RX12_411 rfl rfl rfl (by decide +kernel) ⟨Nat.le_of_ble_eq_true rfl, Nat.le_of_ble_eq_true rfl⟩) rfl hl.1 rfl (Nat.le_of_ble_eq_true rfl) dX12_steps_30 (fun w84 H locs hp83 hw => ?_)
    obtain ⟨hT, k85, hv89, hg88⟩ := hp83
    have hRW := RW_FE k85 (fun _ => rfl) (fun _ => rfl) (fun _ => rfl) hRW
    have hF := hF.tr k85 (by decide)
    have c90 := k85.gi kM_at0 (by decide) c79
    have c91 := k85.gi kM_at12 (by decide) c65
    obtain ⟨x86, c87, rx86, tx86⟩ := hg88
    replace hM := hM.call hv89 rfl
    refine lv_goto (tgt := 104) hx hb dX12_steps_33 (by decide) ?_
    exact J104 0 x48 x64 H locs ls w84 (show (-1) ≤ x48.toInt by first | with_reducible assumption | omega) (show x48.toInt ≤ 11 by first | with_reducible assumption | omega) (show (-1) ≤ x64.toInt by first | with_reducible assumption | omega) (show x64.toInt ≤ 5 by first | with_reducible assumption | omega)  hw hT hF hRW c90 c91 hM (lv_sub hl [2, 3, 1, 0] rfl)
  · replace hM := hM.call (r' := 1) hv78 (by decide)
    refine lv_istore_n (lv' := [(2, .int 1), (0, .ref (ad 0)), (1, .int 0)]) hx hb dX12_steps_10 rfl hl (by decide) rfl (fun ls hl => ?_)
    refine lv_sipush (v := 216) hx hb dX12_steps_11 (by decide) ?_
    refine lv_bipush (v := 9) hx hb dX12_steps_14 (by decide) ?_
    refine lv_iload_n hx hb dX12_steps_16 rfl (lv_at hl 2 rfl) ?_
    refine lv_imul hx hb dX12_steps_17 ?_
    refine wk_top 0 (by decide) ?_
    replace hM := hM.lt (v := 0) (by decide)
    refine lv_iadd hx hb dX12_steps_18 ?_
    refine wk_top 216 (by decide) ?_
    replace hM := hM.lt (v := 216) (by decide)
    refine lv_istore_n (lv' := [(3, .int 216), (2, .int 1), (0, .ref (ad 0)), (1, .int 0)]) hx hb dX12_steps_19 rfl hl (by decide) rfl (fun ls hl => ?_)
    refine lv_iload_n hx hb dX12_steps_20 rfl (lv_at hl 1 rfl) ?_
    refine lv_if_ne (tgt := 36) hx hb dX12_steps_21 (by decide) (fun _ => ?_) (fun c => absurd c (by decide))
    replace hM := hM.pos (by decide)
    refine lv_iload_n hx hb dX12_steps_36 rfl (lv_at hl 1 rfl) ?_
    refine lv_iconst (v := 1) hx hb dX12_steps_37 (by decide) ?_
    refine lv_icmp_ne (tgt := 54) hx hb dX12_steps_38 (by decide) (fun c => absurd (by decide) c) (fun _ => ?_)
    replace hM := hM.neg (by decide)
    refine lv_aload_n hx hb dX12_steps_41 rfl (lv_at hl 2 rfl) ?_
    refine lv_iload_n hx hb dX12_steps_42 rfl (lv_at hl 3 rfl) ?_
    refine lv_aload_n hx hb dX12_steps_43 rfl (lv_at hl 2 rfl) ?_
    refine lv_iload_n hx hb dX12_steps_44 rfl (lv_at hl 3 rfl) ?_
    refine tk_Vi hC hK hw hT hA hE hSR kM_at0 (by decide) rfl (ky_X12_asideOf_1 l adK adV dC dI cy ad B hB0 (Int.le_trans hB1 (by decide)) qr s1    w54 H.size hT ) (cwV 1 hC.2.2.2.2 uV_RX12_390 rfl rfl rfl (by decide +kernel) ⟨Nat.le_of_ble_eq_true rfl, Nat.le_of_ble_eq_true rfl⟩) rfl hl.1 rfl (Nat.le_of_ble_eq_true rfl) dX12_steps_45 (fun r92 w94 H locs hp93 hw => ?_)
    obtain ⟨rfl, hv103, hg102⟩ := hp93
    rcases hg102 with ⟨g96, g97, ⟨x98, c99, rx98, tx98⟩, hq100⟩ | ⟨rfl, hq101⟩
    · replace hM := hM.call hv103 rfl
      have ex98 : x98.toInt = x66.toInt := by rw [← c67.symm.trans c99]
      refine tk_Vv hC hK hw hT hA hE hSR kM_at0 (by decide) rfl (ky_X12_takesStreet_1 l adK adV dC dI cy ad B hB0 (Int.le_trans hB1 (by decide)) qr s1   r92 (show 0 ≤ r92.toInt by first | with_reducible assumption | omega) (show r92.toInt ≤ 11 by first | with_reducible assumption | omega) w54 H.size hT ) (cwV 2 hC.2.2.2.2 uV_RX12_411 rfl rfl rfl (by decide +kernel) ⟨Nat.le_of_ble_eq_true rfl, Nat.le_of_ble_eq_true rfl⟩) rfl hl.1 rfl (Nat.le_of_ble_eq_true rfl) dX12_steps_48 (fun w106 H locs hp105 hw => ?_)
      obtain ⟨hT, k107, hv111, hg110⟩ := hp105
      have hRW := RW_FE k107 (fun _ => rfl) (fun _ => rfl) (fun _ => rfl) hRW
      have hF := hF.tr k107 (by decide)
      have c112 := k107.gi kM_at0 (by decide) c79
      have c113 := k107.gi kM_at12 (by decide) c67
      have c114 := k107.gi kM_at12 (by decide) c69
      obtain ⟨x108, c109, rx108, tx108⟩ := hg110
      replace hM := hM.call hv111 rfl
      refine lv_goto (tgt := 104) hx hb dX12_steps_51 (by decide) ?_
      exact J104 1 x48 x68 H locs ls w106 (show (-1) ≤ x48.toInt by first | with_reducible assumption | omega) (show x48.toInt ≤ 11 by first | with_reducible assumption | omega) (show (-1) ≤ x68.toInt by first | with_reducible assumption | omega) (show x68.toInt ≤ 5 by first | with_reducible assumption | omega)  hw hT hF hRW c112 c114 hM (lv_sub hl [2, 3, 1, 0] rfl)
    · replace hM := hM.call (r' := (-1)) hv103 (by decide)
      exact (mAS_no hq70 hq101).elim
  · replace hM := hM.call (r' := 2) hv78 (by decide)
    refine lv_istore_n (lv' := [(2, .int 2), (0, .ref (ad 0)), (1, .int 0)]) hx hb dX12_steps_10 rfl hl (by decide) rfl (fun ls hl => ?_)
    refine lv_sipush (v := 216) hx hb dX12_steps_11 (by decide) ?_
    refine lv_bipush (v := 9) hx hb dX12_steps_14 (by decide) ?_
    refine lv_iload_n hx hb dX12_steps_16 rfl (lv_at hl 2 rfl) ?_
    refine lv_imul hx hb dX12_steps_17 ?_
    refine wk_top 0 (by decide) ?_
    replace hM := hM.lt (v := 0) (by decide)
    refine lv_iadd hx hb dX12_steps_18 ?_
    refine wk_top 216 (by decide) ?_
    replace hM := hM.lt (v := 216) (by decide)
    refine lv_istore_n (lv' := [(3, .int 216), (2, .int 2), (0, .ref (ad 0)), (1, .int 0)]) hx hb dX12_steps_19 rfl hl (by decide) rfl (fun ls hl => ?_)
    refine lv_iload_n hx hb dX12_steps_20 rfl (lv_at hl 1 rfl) ?_
    refine lv_if_ne (tgt := 36) hx hb dX12_steps_21 (by decide) (fun _ => ?_) (fun c => absurd c (by decide))
    replace hM := hM.pos (by decide)
    refine lv_iload_n hx hb dX12_steps_36 rfl (lv_at hl 1 rfl) ?_
    refine lv_iconst (v := 1) hx hb dX12_steps_37 (by decide) ?_
    refine lv_icmp_ne (tgt := 54) hx hb dX12_steps_38 (by decide) (fun _ => ?_) (fun c => absurd c (by decide))
    replace hM := hM.pos (by decide)
    refine lv_iload_n hx hb dX12_steps_54 rfl (lv_at hl 1 rfl) ?_
    refine lv_iconst (v := 2) hx hb dX12_steps_55 (by decide) ?_
    refine lv_icmp_ne (tgt := 92) hx hb dX12_steps_56 (by decide) (fun c => absurd (by decide) c) (fun _ => ?_)
    replace hM := hM.neg (by decide)
    refine lv_aload_n hx hb dX12_steps_59 rfl (lv_at hl 2 rfl) ?_
    refine tk_getA hC hK hw hT hinX12 kM_at0 (by decide) rfl 26 (by decide) (List.mem_cons_of_mem _ uw_7_1) rfl rfl dX12_steps_60 ?_
    refine lv_iload_n hx hb dX12_steps_63 rfl (lv_at hl 0 rfl) ?_
    refine lv_bipush (v := 8) hx hb dX12_steps_64 (by decide) ?_
    refine lv_iadd hx hb dX12_steps_66 ?_
    refine wk_top 224 (by decide) ?_
    replace hM := hM.lt (v := 224) (by decide)
    refine lv_aload_n hx hb dX12_steps_67 rfl (lv_at hl 2 rfl) ?_
    refine tk_getA hC hK hw hT hinX12 kM_at0 (by decide) rfl 26 (by decide) (List.mem_cons_of_mem _ uw_7_1) rfl rfl dX12_steps_68 ?_
    refine lv_iload_n hx hb dX12_steps_71 rfl (lv_at hl 0 rfl) ?_
    refine lv_iconst (v := 4) hx hb dX12_steps_72 (by decide) ?_
    refine lv_iadd hx hb dX12_steps_73 ?_
    refine wk_top 220 (by decide) ?_
    replace hM := hM.lt (v := 220) (by decide)
    refine tk_ialdR hC hK hw hT kM_at12 rfl (by decide) (by decide) dX12_steps_74 (fun x115 c116 Ex115 => ?_)
    have hox115 := c116
    replace hM := hM.rd (sL_at (kM_lt kM_at12) hox115)
    have bx115 := (tk_rgB rfl 220 1 1 (by decide +kernel) ⟨0, by decide, by decide⟩).mp Ex115
    have c116 : gi w54 12 220 = x115 := c116
    refine lv_bipush (v := 24) hx hb dX12_steps_75 (by decide) ?_
    refine lv_idiv hx hb dX12_steps_77 (by decide) ?_
    refine lv_topi (fun x117 ex117 => ?_)
    have ezx117 := ex117
    have ex117 : x117.toInt = x115.toInt / (24 : Int) := by rw [ex117]; exact wk_div (show 0 ≤ x115.toInt by first | with_reducible assumption | omega) (show 0 < (24 : Int) by decide)
    replace hM := hM.lt ex117.symm
    have hTq := hT
    refine tk_iastR hC hK hw hT kM_at12 (by decide) rfl (by decide) (by decide) (tk_rgS rfl 224 1 1 0 44739242 (by decide +kernel) ⟨0, by decide, by decide⟩ (show 0 ≤ x117.toInt by first | with_reducible assumption | omega) (show x117.toInt ≤ 44739242 by first | with_reducible assumption | omega)) dX12_steps_78 (fun H locs w118 hw hT k120 c119 => ?_)
    replace hM := hM.wr (sL_upa hTq hT kM_at12 (kM_lt kM_at12) rfl (by decide) k120 c119 rfl)
    have hRW := RW_F1 k120 (by decide) (by decide) (by decide) hRW
    have hF := hF.put kM_at12 (inE_of (a := 224) (b := 224) (by decide) (by decide) (by decide)) k120
    have c121 := k120.gi (Or.inl (tk_ne kM_at0 kM_at12 (by decide))) c79
    have c122 := k120.gi (Or.inl (tk_ne kM_at0 kM_at12 (by decide))) c72
    have c123 := k120.gi (Or.inr (by decide)) c74
    have c124 := k120.gi (Or.inr (by decide)) c116
    have c119 : gi w118 12 224 = x117 := c119
    refine lv_aload_n hx hb dX12_steps_79 rfl (lv_at hl 2 rfl) ?_
    refine tk_getA hC hK hw hT hinX12 kM_at0 (by decide) rfl 26 (by decide) (List.mem_cons_of_mem _ uw_7_1) rfl rfl dX12_steps_80 ?_
    refine lv_iload_n hx hb dX12_steps_83 rfl (lv_at hl 0 rfl) ?_
    refine lv_bipush (v := 6) hx hb dX12_steps_84 (by decide) ?_
    refine lv_iadd hx hb dX12_steps_86 ?_
    refine wk_top 222 (by decide) ?_
    replace hM := hM.lt (v := 222) (by decide)
    refine lv_dup2_11 hx hb dX12_steps_87 rfl rfl ?_
    refine tk_ialdR hC hK hw hT kM_at12 rfl (by decide) (by decide) dX12_steps_88 (fun x125 c126 Ex125 => ?_)
    have hox125 := c126
    replace hM := hM.rd (sL_at (kM_lt kM_at12) hox125)
    have c126 : gi w118 12 222 = x125 := c126
    refine lv_iconst (v := 1) hx hb dX12_steps_89 (by decide) ?_
    refine lv_iadd hx hb dX12_steps_90 ?_
    have nx127 := wk_i32 x125
    refine lv_topi (fun x128 ex128 => ?_)
    have ezx128 := ex128
    replace hM := hM.lt (o32_e (f := fun x y => x + y) ezx128 rfl (by decide))
    have hTq := hT
    refine tk_iastR hC hK hw hT kM_at12 (by decide) rfl (by decide) (by decide) (tk_rgS rfl 222 1 1 (-2147483648) 2147483647 (by decide +kernel) ⟨0, by decide, by decide⟩ (wk_i32 x128).1 (wk_i32 x128).2) dX12_steps_91 (fun H locs w129 hw hT k131 c130 => ?_)
    replace hM := hM.wr (sL_upa hTq hT kM_at12 (kM_lt kM_at12) rfl (by decide) k131 c130 rfl)
    have hRW := RW_F1 k131 (by decide) (by decide) (by decide) hRW
    have hF := hF.put kM_at12 (inE_of (a := 222) (b := 222) (by decide) (by decide) (by decide)) k131
    have c132 := k131.gi (Or.inl (tk_ne kM_at0 kM_at12 (by decide))) c121
    have c133 := k131.gi (Or.inl (tk_ne kM_at0 kM_at12 (by decide))) c122
    have c134 := k131.gi (Or.inr (by decide)) c123
    have c135 := k131.gi (Or.inr (by decide)) c124
    have c136 := k131.gi (Or.inr (by decide)) c119
    have c130 : gi w129 12 222 = x128 := c130
    exact J92 2 x48 x73 H locs ls w129 (show (-1) ≤ x48.toInt by first | with_reducible assumption | omega) (show x48.toInt ≤ 11 by first | with_reducible assumption | omega) (show (-1) ≤ x73.toInt by first | with_reducible assumption | omega) (show x73.toInt ≤ 5 by first | with_reducible assumption | omega)  hw hT hF hRW c132 c134 hM (lv_sub hl [2, 3, 1, 0] rfl)
  · replace hM := hM.call (r' := 3) hv78 (by decide)
    refine lv_istore_n (lv' := [(2, .int 3), (0, .ref (ad 0)), (1, .int 0)]) hx hb dX12_steps_10 rfl hl (by decide) rfl (fun ls hl => ?_)
    refine lv_sipush (v := 216) hx hb dX12_steps_11 (by decide) ?_
    refine lv_bipush (v := 9) hx hb dX12_steps_14 (by decide) ?_
    refine lv_iload_n hx hb dX12_steps_16 rfl (lv_at hl 2 rfl) ?_
    refine lv_imul hx hb dX12_steps_17 ?_
    refine wk_top 0 (by decide) ?_
    replace hM := hM.lt (v := 0) (by decide)
    refine lv_iadd hx hb dX12_steps_18 ?_
    refine wk_top 216 (by decide) ?_
    replace hM := hM.lt (v := 216) (by decide)
    refine lv_istore_n (lv' := [(3, .int 216), (2, .int 3), (0, .ref (ad 0)), (1, .int 0)]) hx hb dX12_steps_19 rfl hl (by decide) rfl (fun ls hl => ?_)
    refine lv_iload_n hx hb dX12_steps_20 rfl (lv_at hl 1 rfl) ?_
    refine lv_if_ne (tgt := 36) hx hb dX12_steps_21 (by decide) (fun _ => ?_) (fun c => absurd c (by decide))
    replace hM := hM.pos (by decide)
    refine lv_iload_n hx hb dX12_steps_36 rfl (lv_at hl 1 rfl) ?_
    refine lv_iconst (v := 1) hx hb dX12_steps_37 (by decide) ?_
    refine lv_icmp_ne (tgt := 54) hx hb dX12_steps_38 (by decide) (fun _ => ?_) (fun c => absurd c (by decide))
    replace hM := hM.pos (by decide)
    refine lv_iload_n hx hb dX12_steps_54 rfl (lv_at hl 1 rfl) ?_
    refine lv_iconst (v := 2) hx hb dX12_steps_55 (by decide) ?_
    refine lv_icmp_ne (tgt := 92) hx hb dX12_steps_56 (by decide) (fun _ => ?_) (fun c => absurd c (by decide))
    replace hM := hM.pos (by decide)
    exact J92 3 x48 x75 H locs ls w54 (show (-1) ≤ x48.toInt by first | with_reducible assumption | omega) (show x48.toInt ≤ 11 by first | with_reducible assumption | omega) (show (-1) ≤ x75.toInt by first | with_reducible assumption | omega) (show x75.toInt ≤ 5 by first | with_reducible assumption | omega)  hw hT hF hRW c79 c76 hM (lv_sub hl [2, 3, 1, 0] rfl)
abbrev Py_X12_draw_1 (ad : Nat → Nat) (cy : Nat → ClassId) (B : Int) (qr : Nat) (s1 : Int) (a1 : Int32) (w0 : va_W) : Int32 → va_W → Prop := fun r u => TW ksM ad cy B qr 12 u ∧ FE ksM [(12, 39, 39)] w0 u ∧ Ev (fun n => m_X12_draw n 0 a1.toInt (sL w0)) (r.toInt, sL u) ∧ ((0 ≤ r.toInt ∧ r.toInt ≤ 9))
set_option maxHeartbeats 4000000 in
set_option maxRecDepth 100000 in
theorem ky_X12_draw_1 (l : Launch) (adK adV : Nat → Nat) (dC : Nat → ClassId) (dI : Nat → Nat → Nat) (cy : Nat → ClassId) (ad : Nat → Nat) (B : Int) (hB0 : 100000 ≤ B) (hB1 : B ≤ 1073741824) (qr : Nat) (s1 : Int)  (a1 : Int32) (ra1 : 1 ≤ a1.toInt) (ta1 : a1.toInt ≤ 10) (w0 : va_W) (sz : Nat) (hT : TW ksM ad cy B qr 12 w0)  : Met l yX12_draw (wu yX12_draw cX12_draw 2 (some .int)) ({ frames := 1, cells := 0, slots := 0, locals := 12 }) (va_Pc [.ref (ad 0), .int a1] (wpreS adK adV dC dI cy sz w0)) (va_Qi (Py_X12_draw_1 ad cy B qr s1 a1 w0) (fun u : va_W => wpost dC dI cy (va_A w0 sz) u) (va_A w0 sz)) 0 0 (va_A w0 sz) := by
  refine Met.ofW (cc := cX12_draw) (maxL := 2) (ret := (some .int)) (by decide) rfl ?_
  intro p e s m args below meth c s₁ Bk hml hv
  obtain ⟨rfl, ⟨hsz, hP, hK, hD0⟩, hE, hSR⟩ := hv
  have hx := Bk.exec
  have hb := Bk.bytes
  have hr := Bk.returns
  have hlocks := Bk.notSynchronized
  have hC : CallFix p m c cX12_draw 2 s _ (wu yX12_draw cX12_draw 2 (some .int)) RX12 := ⟨hx, hb, hml, findClass_of_methodNamed Bk.named, atoms_spec (ws := (wu yX12_draw cX12_draw 2 (some .int))) Bk.pre⟩
  subst hsz
  have hD := hD0.self (sz := s.heap.size)
  generalize hAe : va_A w0 s.heap.size = A at hD hE ⊢
  have hA : ∀ q : Nat, s.heap.size ≤ q → A q := fun q h => by rw [← hAe]; exact Or.inr h
  have hw : Wd dC dI A s.heap s.heap [] w0 := ⟨hP, hD, va_S.rf⟩
  have hF : FE ksM [(12, 39, 39)] w0 w0 := FE.rf
  have hl := lv_entry ([.ref (ad 0), .int a1]) (n := 2) (Nat.le_of_ble_eq_true rfl)
  rw [lg_entry_eq]
  generalize (lg_sl ([.ref (ad 0), .int a1]) ++ List.replicate (2 - (lg_sl ([.ref (ad 0), .int a1])).length) Slot.unset).toArray = ls at hl ⊢
  have hl : lv_has ls 2 [(0, .ref (ad 0)), (1, .int a1)] := hl
  generalize hloc : ([] : List Loc) = locs at hw ⊢
  have hinX12 : ∀ w ∈ u_ws RX12 TX12 42, w ∈ (wu yX12_draw cX12_draw 2 (some .int)) := fun _ h => List.mem_cons_of_mem _ (up_71 h)
  have hM : TT (fun n => m_X12_draw n 0 a1.toInt (sL w0)) (fun n => m_X12_draw n 0 a1.toInt (sL w0)) := TT.rf
  refine lv_aload_n hx hb dX12_draw_0 rfl (lv_at hl 0 rfl) ?_
  refine lv_aload_n hx hb dX12_draw_1 rfl (lv_at hl 0 rfl) ?_
  refine tk_getl hC hK hw hT hinX12 kM_at0 (by decide) rfl 39 (by decide) (List.mem_cons_of_mem _ uw_68_4) rfl rfl dX12_draw_2 (fun x1 c2 rx1 tx1 => ?_)
  replace hM := hM.rd (sL_atl (kM_lt kM_at0) c2)
  refine lv_ldc2 (v := 1103515245) hx hb hC.2.2.2.1 (hC.2.2.2.2 _ (List.mem_cons_of_mem _ uw_68_9)) dX12_draw_5 ?_
  refine lv_lmul hx hb dX12_draw_8 ?_
  refine lv_topl (fun x3 ex3 => ?_)
  have ezx3 := ex3
  have ex3 : x3.toInt = x1.toInt * (1103515245 : Int) := by rw [ex3]; exact wk_mull (show (-9223372036854775808) ≤ x1.toInt * (1103515245 : Int) by omega) (show x1.toInt * (1103515245 : Int) ≤ 9223372036854775807 by omega)
  replace hM := hM.lt ex3.symm
  refine lv_ldc2 (v := 12345) hx hb hC.2.2.2.1 (hC.2.2.2.2 _ (List.mem_cons_of_mem _ uw_68_10)) dX12_draw_9 ?_
  refine lv_ladd hx hb dX12_draw_12 ?_
  refine lv_topl (fun x4 ex4 => ?_)
  have ezx4 := ex4
  have ex4 : x4.toInt = x3.toInt + (12345 : Int) := by rw [ex4]; exact wk_addl (show (-9223372036854775808) ≤ x3.toInt + (12345 : Int) by omega) (show x3.toInt + (12345 : Int) ≤ 9223372036854775807 by omega)
  replace hM := hM.lt ex4.symm
  refine lv_ldc2 (v := 2147483648) hx hb hC.2.2.2.1 (hC.2.2.2.2 _ (List.mem_cons_of_mem _ uw_68_11)) dX12_draw_13 ?_
  refine lv_lrem hx hb dX12_draw_16 (by decide) ?_
  refine lv_topl (fun x5 ex5 => ?_)
  have ezx5 := ex5
  have ex5 : x5.toInt = x4.toInt % (2147483648 : Int) := by rw [ex5]; exact wk_reml (show 0 ≤ x4.toInt by first | with_reducible assumption | omega) (show 0 < (2147483648 : Int) by decide)
  replace hM := hM.lt ex5.symm
  have hTq := hT
  refine tk_putl hC hK hw hT hinX12 tyX12_ok nmX12 kM_at0 (by decide) rfl rfl 39 (by decide) (List.mem_cons_of_mem _ uw_68_4) rfl rfl rfl rfl (show 0 ≤ x5.toInt by first | with_reducible assumption | omega) (show x5.toInt ≤ 2147483648 by first | with_reducible assumption | omega) dX12_draw_17 (fun H locs w6 hw hT k8 c7 => ?_)
  replace hM := hM.wr (sL_upl hTq hT kM_at0 (kM_lt kM_at0) (by decide) rfl (by decide) k8 c7 rfl)
  have hF := hF.put kM_at0 (k := 39) (by decide) k8
  refine lv_aload_n hx hb dX12_draw_20 rfl (lv_at hl 0 rfl) ?_
  refine tk_getl hC hK hw hT hinX12 kM_at0 (by decide) rfl 39 (by decide) (List.mem_cons_of_mem _ uw_68_4) rfl rfl dX12_draw_21 (fun x9 c10 rx9 tx9 => ?_)
  refine wk_topl x5 (c10.symm.trans c7) ?_
  replace hM := hM.rd (sL_atl (kM_lt kM_at0) c7)
  refine lv_ldc2 (v := 65536) hx hb hC.2.2.2.1 (hC.2.2.2.2 _ (List.mem_cons_of_mem _ uw_68_12)) dX12_draw_24 ?_
  refine lv_ldiv hx hb dX12_draw_27 (by decide) ?_
  refine lv_topl (fun x11 ex11 => ?_)
  have ezx11 := ex11
  have ex11 : x11.toInt = x5.toInt / (65536 : Int) := by rw [ex11]; exact wk_divl (show 0 ≤ x5.toInt by first | with_reducible assumption | omega) (show 0 < (65536 : Int) by decide)
  replace hM := hM.lt ex11.symm
  refine lv_iload_n hx hb dX12_draw_28 rfl (lv_at hl 1 rfl) ?_
  refine lv_i2l hx hb dX12_draw_29 rfl ?_
  refine lv_topl (fun x12 ex12 => ?_)
  have ex12 : x12.toInt = a1.toInt := by rw [ex12]; exact wk_i2l _
  have bx12 := wk_i32 a1
  replace hM := hM.lt ex12.symm
  refine lv_lrem hx hb dX12_draw_30 (fun h => absurd (show x12.toInt = 0 from wk_eql.mp h) (by omega)) ?_
  refine lv_topl (fun x13 ex13 => ?_)
  have ezx13 := ex13
  have bx13 : 0 ≤ x13.toInt ∧ x13.toInt < x12.toInt := by rw [ex13]; exact wk_remRl (by omega) (by omega)
  replace hM := hM.lt (o64_e (f := fun x y => x - x / y * y) ezx13 rfl rfl)
  refine lv_l2i hx hb dX12_draw_31 rfl ?_
  refine lv_topi (fun x14 ex14 => ?_)
  have ex14 : x14.toInt = x13.toInt := by rw [ex14]; exact wk_l2i (by omega) (by omega)
  replace hM := hM.lt ex14.symm
  exact tk_iret hC hr hlocks hK ⟨hT, hF, hM.ret rfl, ⟨(show 0 ≤ x14.toInt by first | with_reducible assumption | omega), (show x14.toInt ≤ 9 by first | with_reducible assumption | omega)⟩⟩ hw dX12_draw_32
abbrev Py_X12_draw_2 (ad : Nat → Nat) (cy : Nat → ClassId) (B : Int) (qr : Nat) (s1 : Int) (a1 : Int32) (w0 : va_W) : Int32 → va_W → Prop := fun r u => TW ksM ad cy B qr 12 u ∧ FE ksM [(12, 39, 39)] w0 u ∧ Ev (fun n => m_X12_draw n 0 a1.toInt (sL w0)) (r.toInt, sL u) ∧ ((0 ≤ r.toInt ∧ r.toInt ≤ 3))
set_option maxHeartbeats 4000000 in
set_option maxRecDepth 100000 in
theorem ky_X12_draw_2 (l : Launch) (adK adV : Nat → Nat) (dC : Nat → ClassId) (dI : Nat → Nat → Nat) (cy : Nat → ClassId) (ad : Nat → Nat) (B : Int) (hB0 : 100000 ≤ B) (hB1 : B ≤ 1073741824) (qr : Nat) (s1 : Int)  (a1 : Int32) (ra1 : 1 ≤ a1.toInt) (ta1 : a1.toInt ≤ 4) (w0 : va_W) (sz : Nat) (hT : TW ksM ad cy B qr 12 w0)  : Met l yX12_draw (wu yX12_draw cX12_draw 2 (some .int)) ({ frames := 1, cells := 0, slots := 0, locals := 12 }) (va_Pc [.ref (ad 0), .int a1] (wpreS adK adV dC dI cy sz w0)) (va_Qi (Py_X12_draw_2 ad cy B qr s1 a1 w0) (fun u : va_W => wpost dC dI cy (va_A w0 sz) u) (va_A w0 sz)) 0 0 (va_A w0 sz) := by
  refine Met.ofW (cc := cX12_draw) (maxL := 2) (ret := (some .int)) (by decide) rfl ?_
  intro p e s m args below meth c s₁ Bk hml hv
  obtain ⟨rfl, ⟨hsz, hP, hK, hD0⟩, hE, hSR⟩ := hv
  have hx := Bk.exec
  have hb := Bk.bytes
  have hr := Bk.returns
  have hlocks := Bk.notSynchronized
  have hC : CallFix p m c cX12_draw 2 s _ (wu yX12_draw cX12_draw 2 (some .int)) RX12 := ⟨hx, hb, hml, findClass_of_methodNamed Bk.named, atoms_spec (ws := (wu yX12_draw cX12_draw 2 (some .int))) Bk.pre⟩
  subst hsz
  have hD := hD0.self (sz := s.heap.size)
  generalize hAe : va_A w0 s.heap.size = A at hD hE ⊢
  have hA : ∀ q : Nat, s.heap.size ≤ q → A q := fun q h => by rw [← hAe]; exact Or.inr h
  have hw : Wd dC dI A s.heap s.heap [] w0 := ⟨hP, hD, va_S.rf⟩
  have hF : FE ksM [(12, 39, 39)] w0 w0 := FE.rf
  have hl := lv_entry ([.ref (ad 0), .int a1]) (n := 2) (Nat.le_of_ble_eq_true rfl)
  rw [lg_entry_eq]
  generalize (lg_sl ([.ref (ad 0), .int a1]) ++ List.replicate (2 - (lg_sl ([.ref (ad 0), .int a1])).length) Slot.unset).toArray = ls at hl ⊢
  have hl : lv_has ls 2 [(0, .ref (ad 0)), (1, .int a1)] := hl
  generalize hloc : ([] : List Loc) = locs at hw ⊢
  have hinX12 : ∀ w ∈ u_ws RX12 TX12 42, w ∈ (wu yX12_draw cX12_draw 2 (some .int)) := fun _ h => List.mem_cons_of_mem _ (up_71 h)
  have hM : TT (fun n => m_X12_draw n 0 a1.toInt (sL w0)) (fun n => m_X12_draw n 0 a1.toInt (sL w0)) := TT.rf
  refine lv_aload_n hx hb dX12_draw_0 rfl (lv_at hl 0 rfl) ?_
  refine lv_aload_n hx hb dX12_draw_1 rfl (lv_at hl 0 rfl) ?_
  refine tk_getl hC hK hw hT hinX12 kM_at0 (by decide) rfl 39 (by decide) (List.mem_cons_of_mem _ uw_68_4) rfl rfl dX12_draw_2 (fun x1 c2 rx1 tx1 => ?_)
  replace hM := hM.rd (sL_atl (kM_lt kM_at0) c2)
  refine lv_ldc2 (v := 1103515245) hx hb hC.2.2.2.1 (hC.2.2.2.2 _ (List.mem_cons_of_mem _ uw_68_9)) dX12_draw_5 ?_
  refine lv_lmul hx hb dX12_draw_8 ?_
  refine lv_topl (fun x3 ex3 => ?_)
  have ezx3 := ex3
  have ex3 : x3.toInt = x1.toInt * (1103515245 : Int) := by rw [ex3]; exact wk_mull (show (-9223372036854775808) ≤ x1.toInt * (1103515245 : Int) by omega) (show x1.toInt * (1103515245 : Int) ≤ 9223372036854775807 by omega)
  replace hM := hM.lt ex3.symm
  refine lv_ldc2 (v := 12345) hx hb hC.2.2.2.1 (hC.2.2.2.2 _ (List.mem_cons_of_mem _ uw_68_10)) dX12_draw_9 ?_
  refine lv_ladd hx hb dX12_draw_12 ?_
  refine lv_topl (fun x4 ex4 => ?_)
  have ezx4 := ex4
  have ex4 : x4.toInt = x3.toInt + (12345 : Int) := by rw [ex4]; exact wk_addl (show (-9223372036854775808) ≤ x3.toInt + (12345 : Int) by omega) (show x3.toInt + (12345 : Int) ≤ 9223372036854775807 by omega)
  replace hM := hM.lt ex4.symm
  refine lv_ldc2 (v := 2147483648) hx hb hC.2.2.2.1 (hC.2.2.2.2 _ (List.mem_cons_of_mem _ uw_68_11)) dX12_draw_13 ?_
  refine lv_lrem hx hb dX12_draw_16 (by decide) ?_
  refine lv_topl (fun x5 ex5 => ?_)
  have ezx5 := ex5
  have ex5 : x5.toInt = x4.toInt % (2147483648 : Int) := by rw [ex5]; exact wk_reml (show 0 ≤ x4.toInt by first | with_reducible assumption | omega) (show 0 < (2147483648 : Int) by decide)
  replace hM := hM.lt ex5.symm
  have hTq := hT
  refine tk_putl hC hK hw hT hinX12 tyX12_ok nmX12 kM_at0 (by decide) rfl rfl 39 (by decide) (List.mem_cons_of_mem _ uw_68_4) rfl rfl rfl rfl (show 0 ≤ x5.toInt by first | with_reducible assumption | omega) (show x5.toInt ≤ 2147483648 by first | with_reducible assumption | omega) dX12_draw_17 (fun H locs w6 hw hT k8 c7 => ?_)
  replace hM := hM.wr (sL_upl hTq hT kM_at0 (kM_lt kM_at0) (by decide) rfl (by decide) k8 c7 rfl)
  have hF := hF.put kM_at0 (k := 39) (by decide) k8
  refine lv_aload_n hx hb dX12_draw_20 rfl (lv_at hl 0 rfl) ?_
  refine tk_getl hC hK hw hT hinX12 kM_at0 (by decide) rfl 39 (by decide) (List.mem_cons_of_mem _ uw_68_4) rfl rfl dX12_draw_21 (fun x9 c10 rx9 tx9 => ?_)
  refine wk_topl x5 (c10.symm.trans c7) ?_
  replace hM := hM.rd (sL_atl (kM_lt kM_at0) c7)
  refine lv_ldc2 (v := 65536) hx hb hC.2.2.2.1 (hC.2.2.2.2 _ (List.mem_cons_of_mem _ uw_68_12)) dX12_draw_24 ?_
  refine lv_ldiv hx hb dX12_draw_27 (by decide) ?_
  refine lv_topl (fun x11 ex11 => ?_)
  have ezx11 := ex11
  have ex11 : x11.toInt = x5.toInt / (65536 : Int) := by rw [ex11]; exact wk_divl (show 0 ≤ x5.toInt by first | with_reducible assumption | omega) (show 0 < (65536 : Int) by decide)
  replace hM := hM.lt ex11.symm
  refine lv_iload_n hx hb dX12_draw_28 rfl (lv_at hl 1 rfl) ?_
  refine lv_i2l hx hb dX12_draw_29 rfl ?_
  refine lv_topl (fun x12 ex12 => ?_)
  have ex12 : x12.toInt = a1.toInt := by rw [ex12]; exact wk_i2l _
  have bx12 := wk_i32 a1
  replace hM := hM.lt ex12.symm
  refine lv_lrem hx hb dX12_draw_30 (fun h => absurd (show x12.toInt = 0 from wk_eql.mp h) (by omega)) ?_
  refine lv_topl (fun x13 ex13 => ?_)
  have ezx13 := ex13
  have bx13 : 0 ≤ x13.toInt ∧ x13.toInt < x12.toInt := by rw [ex13]; exact wk_remRl (by omega) (by omega)
  replace hM := hM.lt (o64_e (f := fun x y => x - x / y * y) ezx13 rfl rfl)
  refine lv_l2i hx hb dX12_draw_31 rfl ?_
  refine lv_topi (fun x14 ex14 => ?_)
  have ex14 : x14.toInt = x13.toInt := by rw [ex14]; exact wk_l2i (by omega) (by omega)
  replace hM := hM.lt ex14.symm
  exact tk_iret hC hr hlocks hK ⟨hT, hF, hM.ret rfl, ⟨(show 0 ≤ x14.toInt by first | with_reducible assumption | omega), (show x14.toInt ≤ 3 by first | with_reducible assumption | omega)⟩⟩ hw dX12_draw_32
abbrev Py_X12_draw_3 (ad : Nat → Nat) (cy : Nat → ClassId) (B : Int) (qr : Nat) (s1 : Int)  (w0 : va_W) : Int32 → va_W → Prop := fun r u => TW ksM ad cy B qr 12 u ∧ FE ksM [(12, 39, 39)] w0 u ∧ Ev (fun n => m_X12_draw n 0 168 (sL w0)) (r.toInt, sL u) ∧ ((0 ≤ r.toInt ∧ r.toInt ≤ 167))
set_option maxHeartbeats 4000000 in
set_option maxRecDepth 100000 in
theorem ky_X12_draw_3 (l : Launch) (adK adV : Nat → Nat) (dC : Nat → ClassId) (dI : Nat → Nat → Nat) (cy : Nat → ClassId) (ad : Nat → Nat) (B : Int) (hB0 : 100000 ≤ B) (hB1 : B ≤ 1073741824) (qr : Nat) (s1 : Int)   (w0 : va_W) (sz : Nat) (hT : TW ksM ad cy B qr 12 w0)  : Met l yX12_draw (wu yX12_draw cX12_draw 2 (some .int)) ({ frames := 1, cells := 0, slots := 0, locals := 12 }) (va_Pc [.ref (ad 0), .int 168] (wpreS adK adV dC dI cy sz w0)) (va_Qi (Py_X12_draw_3 ad cy B qr s1  w0) (fun u : va_W => wpost dC dI cy (va_A w0 sz) u) (va_A w0 sz)) 0 0 (va_A w0 sz) := by
  refine Met.ofW (cc := cX12_draw) (maxL := 2) (ret := (some .int)) (by decide) rfl ?_
  intro p e s m args below meth c s₁ Bk hml hv
  obtain ⟨rfl, ⟨hsz, hP, hK, hD0⟩, hE, hSR⟩ := hv
  have hx := Bk.exec
  have hb := Bk.bytes
  have hr := Bk.returns
  have hlocks := Bk.notSynchronized
  have hC : CallFix p m c cX12_draw 2 s _ (wu yX12_draw cX12_draw 2 (some .int)) RX12 := ⟨hx, hb, hml, findClass_of_methodNamed Bk.named, atoms_spec (ws := (wu yX12_draw cX12_draw 2 (some .int))) Bk.pre⟩
  subst hsz
  have hD := hD0.self (sz := s.heap.size)
  generalize hAe : va_A w0 s.heap.size = A at hD hE ⊢
  have hA : ∀ q : Nat, s.heap.size ≤ q → A q := fun q h => by rw [← hAe]; exact Or.inr h
  have hw : Wd dC dI A s.heap s.heap [] w0 := ⟨hP, hD, va_S.rf⟩
  have hF : FE ksM [(12, 39, 39)] w0 w0 := FE.rf
  have hl := lv_entry ([.ref (ad 0), .int 168]) (n := 2) (Nat.le_of_ble_eq_true rfl)
  rw [lg_entry_eq]
  generalize (lg_sl ([.ref (ad 0), .int 168]) ++ List.replicate (2 - (lg_sl ([.ref (ad 0), .int 168])).length) Slot.unset).toArray = ls at hl ⊢
  have hl : lv_has ls 2 [(0, .ref (ad 0)), (1, .int 168)] := hl
  generalize hloc : ([] : List Loc) = locs at hw ⊢
  have hinX12 : ∀ w ∈ u_ws RX12 TX12 42, w ∈ (wu yX12_draw cX12_draw 2 (some .int)) := fun _ h => List.mem_cons_of_mem _ (up_71 h)
  have hM : TT (fun n => m_X12_draw n 0 168 (sL w0)) (fun n => m_X12_draw n 0 168 (sL w0)) := TT.rf
  refine lv_aload_n hx hb dX12_draw_0 rfl (lv_at hl 0 rfl) ?_
  refine lv_aload_n hx hb dX12_draw_1 rfl (lv_at hl 0 rfl) ?_
  refine tk_getl hC hK hw hT hinX12 kM_at0 (by decide) rfl 39 (by decide) (List.mem_cons_of_mem _ uw_68_4) rfl rfl dX12_draw_2 (fun x1 c2 rx1 tx1 => ?_)
  replace hM := hM.rd (sL_atl (kM_lt kM_at0) c2)
  refine lv_ldc2 (v := 1103515245) hx hb hC.2.2.2.1 (hC.2.2.2.2 _ (List.mem_cons_of_mem _ uw_68_9)) dX12_draw_5 ?_
  refine lv_lmul hx hb dX12_draw_8 ?_
  refine lv_topl (fun x3 ex3 => ?_)
  have ezx3 := ex3
  have ex3 : x3.toInt = x1.toInt * (1103515245 : Int) := by rw [ex3]; exact wk_mull (show (-9223372036854775808) ≤ x1.toInt * (1103515245 : Int) by omega) (show x1.toInt * (1103515245 : Int) ≤ 9223372036854775807 by omega)
  replace hM := hM.lt ex3.symm
  refine lv_ldc2 (v := 12345) hx hb hC.2.2.2.1 (hC.2.2.2.2 _ (List.mem_cons_of_mem _ uw_68_10)) dX12_draw_9 ?_
  refine lv_ladd hx hb dX12_draw_12 ?_
  refine lv_topl (fun x4 ex4 => ?_)
  have ezx4 := ex4
  have ex4 : x4.toInt = x3.toInt + (12345 : Int) := by rw [ex4]; exact wk_addl (show (-9223372036854775808) ≤ x3.toInt + (12345 : Int) by omega) (show x3.toInt + (12345 : Int) ≤ 9223372036854775807 by omega)
  replace hM := hM.lt ex4.symm
  refine lv_ldc2 (v := 2147483648) hx hb hC.2.2.2.1 (hC.2.2.2.2 _ (List.mem_cons_of_mem _ uw_68_11)) dX12_draw_13 ?_
  refine lv_lrem hx hb dX12_draw_16 (by decide) ?_
  refine lv_topl (fun x5 ex5 => ?_)
  have ezx5 := ex5
  have ex5 : x5.toInt = x4.toInt % (2147483648 : Int) := by rw [ex5]; exact wk_reml (show 0 ≤ x4.toInt by first | with_reducible assumption | omega) (show 0 < (2147483648 : Int) by decide)
  replace hM := hM.lt ex5.symm
  have hTq := hT
  refine tk_putl hC hK hw hT hinX12 tyX12_ok nmX12 kM_at0 (by decide) rfl rfl 39 (by decide) (List.mem_cons_of_mem _ uw_68_4) rfl rfl rfl rfl (show 0 ≤ x5.toInt by first | with_reducible assumption | omega) (show x5.toInt ≤ 2147483648 by first | with_reducible assumption | omega) dX12_draw_17 (fun H locs w6 hw hT k8 c7 => ?_)
  replace hM := hM.wr (sL_upl hTq hT kM_at0 (kM_lt kM_at0) (by decide) rfl (by decide) k8 c7 rfl)
  have hF := hF.put kM_at0 (k := 39) (by decide) k8
  refine lv_aload_n hx hb dX12_draw_20 rfl (lv_at hl 0 rfl) ?_
  refine tk_getl hC hK hw hT hinX12 kM_at0 (by decide) rfl 39 (by decide) (List.mem_cons_of_mem _ uw_68_4) rfl rfl dX12_draw_21 (fun x9 c10 rx9 tx9 => ?_)
  refine wk_topl x5 (c10.symm.trans c7) ?_
  replace hM := hM.rd (sL_atl (kM_lt kM_at0) c7)
  refine lv_ldc2 (v := 65536) hx hb hC.2.2.2.1 (hC.2.2.2.2 _ (List.mem_cons_of_mem _ uw_68_12)) dX12_draw_24 ?_
  refine lv_ldiv hx hb dX12_draw_27 (by decide) ?_
  refine lv_topl (fun x11 ex11 => ?_)
  have ezx11 := ex11
  have ex11 : x11.toInt = x5.toInt / (65536 : Int) := by rw [ex11]; exact wk_divl (show 0 ≤ x5.toInt by first | with_reducible assumption | omega) (show 0 < (65536 : Int) by decide)
  replace hM := hM.lt ex11.symm
  refine lv_iload_n hx hb dX12_draw_28 rfl (lv_at hl 1 rfl) ?_
  refine lv_i2l hx hb dX12_draw_29 rfl ?_
  refine wk_topl 168 (by decide) ?_
  replace hM := hM.lt rfl
  refine lv_lrem hx hb dX12_draw_30 (by decide) ?_
  refine lv_topl (fun x12 ex12 => ?_)
  have ezx12 := ex12
  have ex12 : x12.toInt = x11.toInt % (168 : Int) := by rw [ex12]; exact wk_reml (show 0 ≤ x11.toInt by first | with_reducible assumption | omega) (show 0 < (168 : Int) by decide)
  replace hM := hM.lt (o64_e (f := fun x y => x - x / y * y) ezx12 rfl (by decide))
  refine lv_l2i hx hb dX12_draw_31 rfl ?_
  refine lv_topi (fun x13 ex13 => ?_)
  have ex13 : x13.toInt = x12.toInt := by rw [ex13]; exact wk_l2i (by omega) (by omega)
  replace hM := hM.lt ex13.symm
  exact tk_iret hC hr hlocks hK ⟨hT, hF, hM.ret rfl, ⟨(show 0 ≤ x13.toInt by first | with_reducible assumption | omega), (show x13.toInt ≤ 167 by first | with_reducible assumption | omega)⟩⟩ hw dX12_draw_32
abbrev Py_X12_setsOut_1 (ad : Nat → Nat) (cy : Nat → ClassId) (B : Int) (qr : Nat) (s1 : Int) (a2 : Int32) (a3 : Int32) (a4 : Int32) (a5 : Int32) (a6 : Int32) (w0 : va_W) : va_W → Prop := fun u => TW ksM ad cy B qr 12 u ∧ FE ksM [(71, 216, 216), (71, 217, 217), (71, 218, 218), (71, 219, 219), (71, 220, 220), (71, 221, 221), (71, 222, 222), (71, 223, 223), (71, 224, 224)] w0 u ∧ Ev (fun n => m_X12_setsOut n 0 0 a2.toInt a3.toInt a4.toInt a5.toInt a6.toInt (sL w0)) (0, sL u) ∧ (((∃ y : Int32, gi u 12 220 = y ∧ 0 ≤ y.toInt ∧ y.toInt ≤ 167) ∧ (∃ y : Int32, gi u 12 221 = y ∧ 0 ≤ y.toInt ∧ y.toInt ≤ 0) ∧ (∃ y : Int32, gi u 12 222 = y ∧ 0 ≤ y.toInt ∧ y.toInt ≤ 0) ∧ (∃ y : Int32, gi u 12 223 = y ∧ (-1) ≤ y.toInt ∧ y.toInt ≤ (-1)) ∧ (∃ y : Int32, gi u 12 224 = y ∧ (-1) ≤ y.toInt ∧ y.toInt ≤ (-1))))
set_option maxHeartbeats 4000000 in
set_option maxRecDepth 100000 in
theorem ky_X12_setsOut_1 (l : Launch) (adK adV : Nat → Nat) (dC : Nat → ClassId) (dI : Nat → Nat → Nat) (cy : Nat → ClassId) (ad : Nat → Nat) (B : Int) (hB0 : 100000 ≤ B) (hB1 : B ≤ 1073741824) (qr : Nat) (s1 : Int)  (a2 : Int32) (ra2 : 0 ≤ a2.toInt) (ta2 : a2.toInt ≤ 9) (a3 : Int32) (ra3 : 0 ≤ a3.toInt) (ta3 : a3.toInt ≤ 9) (a4 : Int32) (ra4 : 0 ≤ a4.toInt) (ta4 : a4.toInt ≤ 3) (a5 : Int32) (ra5 : (-1) ≤ a5.toInt) (ta5 : a5.toInt ≤ 5) (a6 : Int32) (ra6 : 0 ≤ a6.toInt) (ta6 : a6.toInt ≤ 167) (w0 : va_W) (sz : Nat) (hT : TW ksM ad cy B qr 12 w0)  : Met l yX12_setsOut (wu yX12_setsOut cX12_setsOut 8 none) ({ frames := 1, cells := 0, slots := 0, locals := 12 }) (va_Pc [.ref (ad 0), .int 0, .int a2, .int a3, .int a4, .int a5, .int a6] (wpreS adK adV dC dI cy sz w0)) (va_Qv (Py_X12_setsOut_1 ad cy B qr s1 a2 a3 a4 a5 a6 w0) (fun u : va_W => wpost dC dI cy (va_A w0 sz) u) (va_A w0 sz)) 0 0 (va_A w0 sz) := by
  refine Met.ofW (cc := cX12_setsOut) (maxL := 8) (ret := none) (by decide) rfl ?_
  intro p e s m args below meth c s₁ Bk hml hv
  obtain ⟨rfl, ⟨hsz, hP, hK, hD0⟩, hE, hSR⟩ := hv
  have hx := Bk.exec
  have hb := Bk.bytes
  have hr := Bk.returns
  have hlocks := Bk.notSynchronized
  have hC : CallFix p m c cX12_setsOut 8 s _ (wu yX12_setsOut cX12_setsOut 8 none) RX12 := ⟨hx, hb, hml, findClass_of_methodNamed Bk.named, atoms_spec (ws := (wu yX12_setsOut cX12_setsOut 8 none)) Bk.pre⟩
  subst hsz
  have hD := hD0.self (sz := s.heap.size)
  generalize hAe : va_A w0 s.heap.size = A at hD hE ⊢
  have hA : ∀ q : Nat, s.heap.size ≤ q → A q := fun q h => by rw [← hAe]; exact Or.inr h
  have hw : Wd dC dI A s.heap s.heap [] w0 := ⟨hP, hD, va_S.rf⟩
  have hF : FE ksM [(71, 216, 216), (71, 217, 217), (71, 218, 218), (71, 219, 219), (71, 220, 220), (71, 221, 221), (71, 222, 222), (71, 223, 223), (71, 224, 224)] w0 w0 := FE.rf
  have hl := lv_entry ([.ref (ad 0), .int 0, .int a2, .int a3, .int a4, .int a5, .int a6]) (n := 8) (Nat.le_of_ble_eq_true rfl)
  rw [lg_entry_eq]
  generalize (lg_sl ([.ref (ad 0), .int 0, .int a2, .int a3, .int a4, .int a5, .int a6]) ++ List.replicate (8 - (lg_sl ([.ref (ad 0), .int 0, .int a2, .int a3, .int a4, .int a5, .int a6])).length) Slot.unset).toArray = ls at hl ⊢
  have hl : lv_has ls 8 [(0, .ref (ad 0)), (1, .int 0), (2, .int a2), (3, .int a3), (4, .int a4), (5, .int a5), (6, .int a6)] := hl
  generalize hloc : ([] : List Loc) = locs at hw ⊢
  have hinX12 : ∀ w ∈ u_ws RX12 TX12 42, w ∈ (wu yX12_setsOut cX12_setsOut 8 none) := fun _ h => List.mem_cons_of_mem _ (up_71 h)
  have hM : TT (fun n => m_X12_setsOut n 0 0 a2.toInt a3.toInt a4.toInt a5.toInt a6.toInt (sL w0)) (fun n => m_X12_setsOut n 0 0 a2.toInt a3.toInt a4.toInt a5.toInt a6.toInt (sL w0)) := TT.rf
  refine lv_sipush (v := 216) hx hb dX12_setsOut_0 (by decide) ?_
  refine lv_bipush (v := 9) hx hb dX12_setsOut_3 (by decide) ?_
  refine lv_iload_n hx hb dX12_setsOut_5 rfl (lv_at hl 1 rfl) ?_
  refine lv_imul hx hb dX12_setsOut_6 ?_
  refine wk_top 0 (by decide) ?_
  replace hM := hM.lt (v := 0) (by decide)
  refine lv_iadd hx hb dX12_setsOut_7 ?_
  refine wk_top 216 (by decide) ?_
  replace hM := hM.lt (v := 216) (by decide)
  refine lv_istore (lv' := [(7, .int 216), (0, .ref (ad 0)), (1, .int 0), (2, .int a2), (3, .int a3), (4, .int a4), (5, .int a5), (6, .int a6)]) hx hb dX12_setsOut_8 hl (by decide) rfl (fun ls hl => ?_)
  refine lv_aload_n hx hb dX12_setsOut_10 rfl (lv_at hl 1 rfl) ?_
  refine tk_getA hC hK hw hT hinX12 kM_at0 (by decide) rfl 26 (by decide) (List.mem_cons_of_mem _ uw_7_1) rfl rfl dX12_setsOut_11 ?_
  refine lv_iload hx hb dX12_setsOut_14 (lv_at hl 0 rfl) ?_
  refine lv_iload_n hx hb dX12_setsOut_16 rfl (lv_at hl 3 rfl) ?_
  have hTq := hT
  refine tk_iastR hC hK hw hT kM_at12 (by decide) rfl (by decide) (by decide) (tk_rgS rfl 216 1 1 0 9 (by decide +kernel) ⟨0, by decide, by decide⟩ (show 0 ≤ a2.toInt from ra2) (show a2.toInt ≤ 9 from ta2)) dX12_setsOut_17 (fun H locs w1 hw hT k3 c2 => ?_)
  replace hM := hM.wr (sL_upa hTq hT kM_at12 (kM_lt kM_at12) rfl (by decide) k3 c2 rfl)
  have hF := hF.put kM_at12 (inE_of (a := 216) (b := 216) (by decide) (by decide) (by decide)) k3
  have c2 : gi w1 12 216 = a2 := c2
  refine lv_aload_n hx hb dX12_setsOut_18 rfl (lv_at hl 1 rfl) ?_
  refine tk_getA hC hK hw hT hinX12 kM_at0 (by decide) rfl 26 (by decide) (List.mem_cons_of_mem _ uw_7_1) rfl rfl dX12_setsOut_19 ?_
  refine lv_iload hx hb dX12_setsOut_22 (lv_at hl 0 rfl) ?_
  refine lv_iconst (v := 1) hx hb dX12_setsOut_24 (by decide) ?_
  refine lv_iadd hx hb dX12_setsOut_25 ?_
  refine wk_top 217 (by decide) ?_
  replace hM := hM.lt (v := 217) (by decide)
  refine lv_iload_n hx hb dX12_setsOut_26 rfl (lv_at hl 4 rfl) ?_
  have hTq := hT
  refine tk_iastR hC hK hw hT kM_at12 (by decide) rfl (by decide) (by decide) (tk_rgS rfl 217 1 1 0 9 (by decide +kernel) ⟨0, by decide, by decide⟩ (show 0 ≤ a3.toInt from ra3) (show a3.toInt ≤ 9 from ta3)) dX12_setsOut_27 (fun H locs w4 hw hT k6 c5 => ?_)
  replace hM := hM.wr (sL_upa hTq hT kM_at12 (kM_lt kM_at12) rfl (by decide) k6 c5 rfl)
  have hF := hF.put kM_at12 (inE_of (a := 217) (b := 217) (by decide) (by decide) (by decide)) k6
  have c7 := k6.gi (Or.inr (by decide)) c2
  have c5 : gi w4 12 217 = a3 := c5
  refine lv_aload_n hx hb dX12_setsOut_28 rfl (lv_at hl 1 rfl) ?_
  refine tk_getA hC hK hw hT hinX12 kM_at0 (by decide) rfl 26 (by decide) (List.mem_cons_of_mem _ uw_7_1) rfl rfl dX12_setsOut_29 ?_
  refine lv_iload hx hb dX12_setsOut_32 (lv_at hl 0 rfl) ?_
  refine lv_iconst (v := 2) hx hb dX12_setsOut_34 (by decide) ?_
  refine lv_iadd hx hb dX12_setsOut_35 ?_
  refine wk_top 218 (by decide) ?_
  replace hM := hM.lt (v := 218) (by decide)
  refine lv_iload hx hb dX12_setsOut_36 (lv_at hl 5 rfl) ?_
  have hTq := hT
  refine tk_iastR hC hK hw hT kM_at12 (by decide) rfl (by decide) (by decide) (tk_rgS rfl 218 1 1 0 3 (by decide +kernel) ⟨0, by decide, by decide⟩ (show 0 ≤ a4.toInt from ra4) (show a4.toInt ≤ 3 from ta4)) dX12_setsOut_38 (fun H locs w8 hw hT k10 c9 => ?_)
  replace hM := hM.wr (sL_upa hTq hT kM_at12 (kM_lt kM_at12) rfl (by decide) k10 c9 rfl)
  have hF := hF.put kM_at12 (inE_of (a := 218) (b := 218) (by decide) (by decide) (by decide)) k10
  have c11 := k10.gi (Or.inr (by decide)) c7
  have c12 := k10.gi (Or.inr (by decide)) c5
  have c9 : gi w8 12 218 = a4 := c9
  refine lv_aload_n hx hb dX12_setsOut_39 rfl (lv_at hl 1 rfl) ?_
  refine tk_getA hC hK hw hT hinX12 kM_at0 (by decide) rfl 26 (by decide) (List.mem_cons_of_mem _ uw_7_1) rfl rfl dX12_setsOut_40 ?_
  refine lv_iload hx hb dX12_setsOut_43 (lv_at hl 0 rfl) ?_
  refine lv_iconst (v := 3) hx hb dX12_setsOut_45 (by decide) ?_
  refine lv_iadd hx hb dX12_setsOut_46 ?_
  refine wk_top 219 (by decide) ?_
  replace hM := hM.lt (v := 219) (by decide)
  refine lv_iload hx hb dX12_setsOut_47 (lv_at hl 6 rfl) ?_
  have hTq := hT
  refine tk_iastR hC hK hw hT kM_at12 (by decide) rfl (by decide) (by decide) (tk_rgS rfl 219 1 1 (-1) 5 (by decide +kernel) ⟨0, by decide, by decide⟩ (show (-1) ≤ a5.toInt from ra5) (show a5.toInt ≤ 5 from ta5)) dX12_setsOut_49 (fun H locs w13 hw hT k15 c14 => ?_)
  replace hM := hM.wr (sL_upa hTq hT kM_at12 (kM_lt kM_at12) rfl (by decide) k15 c14 rfl)
  have hF := hF.put kM_at12 (inE_of (a := 219) (b := 219) (by decide) (by decide) (by decide)) k15
  have c16 := k15.gi (Or.inr (by decide)) c11
  have c17 := k15.gi (Or.inr (by decide)) c12
  have c18 := k15.gi (Or.inr (by decide)) c9
  have c14 : gi w13 12 219 = a5 := c14
  refine lv_aload_n hx hb dX12_setsOut_50 rfl (lv_at hl 1 rfl) ?_
  refine tk_getA hC hK hw hT hinX12 kM_at0 (by decide) rfl 26 (by decide) (List.mem_cons_of_mem _ uw_7_1) rfl rfl dX12_setsOut_51 ?_
  refine lv_iload hx hb dX12_setsOut_54 (lv_at hl 0 rfl) ?_
  refine lv_iconst (v := 4) hx hb dX12_setsOut_56 (by decide) ?_
  refine lv_iadd hx hb dX12_setsOut_57 ?_
  refine wk_top 220 (by decide) ?_
  replace hM := hM.lt (v := 220) (by decide)
  refine lv_iload hx hb dX12_setsOut_58 (lv_at hl 7 rfl) ?_
  have hTq := hT
  refine tk_iastR hC hK hw hT kM_at12 (by decide) rfl (by decide) (by decide) ((tk_rgB rfl 220 1 1 (by decide +kernel) ⟨0, by decide, by decide⟩).mpr ⟨(show 0 ≤ a6.toInt from ra6), (show a6.toInt ≤ B by omega)⟩) dX12_setsOut_60 (fun H locs w19 hw hT k21 c20 => ?_)
  replace hM := hM.wr (sL_upa hTq hT kM_at12 (kM_lt kM_at12) rfl (by decide) k21 c20 rfl)
  have hF := hF.put kM_at12 (inE_of (a := 220) (b := 220) (by decide) (by decide) (by decide)) k21
  have c22 := k21.gi (Or.inr (by decide)) c16
  have c23 := k21.gi (Or.inr (by decide)) c17
  have c24 := k21.gi (Or.inr (by decide)) c18
  have c25 := k21.gi (Or.inr (by decide)) c14
  have c20 : gi w19 12 220 = a6 := c20
  refine lv_aload_n hx hb dX12_setsOut_61 rfl (lv_at hl 1 rfl) ?_
  refine tk_getA hC hK hw hT hinX12 kM_at0 (by decide) rfl 26 (by decide) (List.mem_cons_of_mem _ uw_7_1) rfl rfl dX12_setsOut_62 ?_
  refine lv_iload hx hb dX12_setsOut_65 (lv_at hl 0 rfl) ?_
  refine lv_iconst (v := 5) hx hb dX12_setsOut_67 (by decide) ?_
  refine lv_iadd hx hb dX12_setsOut_68 ?_
  refine wk_top 221 (by decide) ?_
  replace hM := hM.lt (v := 221) (by decide)
  refine lv_iconst (v := 0) hx hb dX12_setsOut_69 (by decide) ?_
  have hTq := hT
  refine tk_iastR hC hK hw hT kM_at12 (by decide) rfl (by decide) (by decide) (tk_rg0 rfl (show 0 ≤ B from Int.le_trans (by decide) hB0) (by decide)) dX12_setsOut_70 (fun H locs w26 hw hT k28 c27 => ?_)
  replace hM := hM.wr (sL_upa hTq hT kM_at12 (kM_lt kM_at12) rfl (by decide) k28 c27 (by decide))
  have hF := hF.put kM_at12 (inE_of (a := 221) (b := 221) (by decide) (by decide) (by decide)) k28
  have c29 := k28.gi (Or.inr (by decide)) c22
  have c30 := k28.gi (Or.inr (by decide)) c23
  have c31 := k28.gi (Or.inr (by decide)) c24
  have c32 := k28.gi (Or.inr (by decide)) c25
  have c33 := k28.gi (Or.inr (by decide)) c20
  have c27 : gi w26 12 221 = 0 := c27
  refine lv_aload_n hx hb dX12_setsOut_71 rfl (lv_at hl 1 rfl) ?_
  refine tk_getA hC hK hw hT hinX12 kM_at0 (by decide) rfl 26 (by decide) (List.mem_cons_of_mem _ uw_7_1) rfl rfl dX12_setsOut_72 ?_
  refine lv_iload hx hb dX12_setsOut_75 (lv_at hl 0 rfl) ?_
  refine lv_bipush (v := 6) hx hb dX12_setsOut_77 (by decide) ?_
  refine lv_iadd hx hb dX12_setsOut_79 ?_
  refine wk_top 222 (by decide) ?_
  replace hM := hM.lt (v := 222) (by decide)
  refine lv_iconst (v := 0) hx hb dX12_setsOut_80 (by decide) ?_
  have hTq := hT
  refine tk_iastR hC hK hw hT kM_at12 (by decide) rfl (by decide) (by decide) (tk_rg0 rfl (show 0 ≤ B from Int.le_trans (by decide) hB0) (by decide)) dX12_setsOut_81 (fun H locs w34 hw hT k36 c35 => ?_)
  replace hM := hM.wr (sL_upa hTq hT kM_at12 (kM_lt kM_at12) rfl (by decide) k36 c35 (by decide))
  have hF := hF.put kM_at12 (inE_of (a := 222) (b := 222) (by decide) (by decide) (by decide)) k36
  have c37 := k36.gi (Or.inr (by decide)) c29
  have c38 := k36.gi (Or.inr (by decide)) c30
  have c39 := k36.gi (Or.inr (by decide)) c31
  have c40 := k36.gi (Or.inr (by decide)) c32
  have c41 := k36.gi (Or.inr (by decide)) c33
  have c42 := k36.gi (Or.inr (by decide)) c27
  have c35 : gi w34 12 222 = 0 := c35
  refine lv_aload_n hx hb dX12_setsOut_82 rfl (lv_at hl 1 rfl) ?_
  refine tk_getA hC hK hw hT hinX12 kM_at0 (by decide) rfl 26 (by decide) (List.mem_cons_of_mem _ uw_7_1) rfl rfl dX12_setsOut_83 ?_
  refine lv_iload hx hb dX12_setsOut_86 (lv_at hl 0 rfl) ?_
  refine lv_bipush (v := 7) hx hb dX12_setsOut_88 (by decide) ?_
  refine lv_iadd hx hb dX12_setsOut_90 ?_
  refine wk_top 223 (by decide) ?_
  replace hM := hM.lt (v := 223) (by decide)
  refine lv_iconst (v := (-1)) hx hb dX12_setsOut_91 (by decide) ?_
  have hTq := hT
  refine tk_iastR hC hK hw hT kM_at12 (by decide) rfl (by decide) (by decide) (tk_rgS rfl 223 1 1 (-1) (-1) (by decide +kernel) ⟨0, by decide, by decide⟩ (by decide) (by decide)) dX12_setsOut_92 (fun H locs w43 hw hT k45 c44 => ?_)
  replace hM := hM.wr (sL_upa hTq hT kM_at12 (kM_lt kM_at12) rfl (by decide) k45 c44 (by decide))
  have hF := hF.put kM_at12 (inE_of (a := 223) (b := 223) (by decide) (by decide) (by decide)) k45
  have c46 := k45.gi (Or.inr (by decide)) c37
  have c47 := k45.gi (Or.inr (by decide)) c38
  have c48 := k45.gi (Or.inr (by decide)) c39
  have c49 := k45.gi (Or.inr (by decide)) c40
  have c50 := k45.gi (Or.inr (by decide)) c41
  have c51 := k45.gi (Or.inr (by decide)) c42
  have c52 := k45.gi (Or.inr (by decide)) c35
  have c44 : gi w43 12 223 = (-1) := c44
  refine lv_aload_n hx hb dX12_setsOut_93 rfl (lv_at hl 1 rfl) ?_
  refine tk_getA hC hK hw hT hinX12 kM_at0 (by decide) rfl 26 (by decide) (List.mem_cons_of_mem _ uw_7_1) rfl rfl dX12_setsOut_94 ?_
  refine lv_iload hx hb dX12_setsOut_97 (lv_at hl 0 rfl) ?_
  refine lv_bipush (v := 8) hx hb dX12_setsOut_99 (by decide) ?_
  refine lv_iadd hx hb dX12_setsOut_101 ?_
  refine wk_top 224 (by decide) ?_
  replace hM := hM.lt (v := 224) (by decide)
  refine lv_iconst (v := (-1)) hx hb dX12_setsOut_102 (by decide) ?_
  have hTq := hT
  refine tk_iastR hC hK hw hT kM_at12 (by decide) rfl (by decide) (by decide) (tk_rgS rfl 224 1 1 (-1) (-1) (by decide +kernel) ⟨0, by decide, by decide⟩ (by decide) (by decide)) dX12_setsOut_103 (fun H locs w53 hw hT k55 c54 => ?_)
  replace hM := hM.wr (sL_upa hTq hT kM_at12 (kM_lt kM_at12) rfl (by decide) k55 c54 (by decide))
  have hF := hF.put kM_at12 (inE_of (a := 224) (b := 224) (by decide) (by decide) (by decide)) k55
  have c56 := k55.gi (Or.inr (by decide)) c46
  have c57 := k55.gi (Or.inr (by decide)) c47
  have c58 := k55.gi (Or.inr (by decide)) c48
  have c59 := k55.gi (Or.inr (by decide)) c49
  have c60 := k55.gi (Or.inr (by decide)) c50
  have c61 := k55.gi (Or.inr (by decide)) c51
  have c62 := k55.gi (Or.inr (by decide)) c52
  have c63 := k55.gi (Or.inr (by decide)) c44
  have c54 : gi w53 12 224 = (-1) := c54
  exact tk_vret hC hr hlocks hK ⟨hT, hF, hM.ret rfl, ⟨⟨a6, c60, (show 0 ≤ a6.toInt from ra6), (show a6.toInt ≤ 167 from ta6)⟩, ⟨0, c61, (by decide), (by decide)⟩, ⟨0, c62, (by decide), (by decide)⟩, ⟨(-1), c63, (by decide), (by decide)⟩, ⟨(-1), c54, (by decide), (by decide)⟩⟩⟩ hw dX12_setsOut_104
