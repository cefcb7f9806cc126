abbrev Py_X12_reckons_1 (ad : Nat → Nat) (cy : Nat → ClassId) (B : Int) (qr : Nat) (s1 : Int) (a1 : Int32) (a2 : Int32) (a3 : Int32) (w0 : va_W) : Int64 → va_W → Prop := fun r u => TW ksM ad cy B qr 12 u ∧ FE ksM [(12, 24, 24), (69, 0, 64)] w0 u ∧ Ev (fun n => m_X12_reckons n 0 a1.toInt a2.toInt a3.toInt (sL w0)) (r.toInt, sL u) ∧ (((∃ y : Int32, gi u 0 24 = y ∧ 0 ≤ y.toInt ∧ y.toInt ≤ 63)))
set_option maxHeartbeats 4000000 in
set_option maxRecDepth 100000 in
theorem ky_X12_reckons_1 (l : Launch) (adK adV : Nat → Nat) (dC : Nat → ClassId) (dI : Nat → Nat → Nat) (cy : Nat → ClassId) (ad : Nat → Nat) (B : Int) (hB0 : 100000 ≤ B) (hB1 : B ≤ 1073741824) (qr : Nat) (s1 : Int)  (a1 : Int32) (ra1 : 0 ≤ a1.toInt) (ta1 : a1.toInt ≤ 5) (a2 : Int32) (ra2 : 0 ≤ a2.toInt) (ta2 : a2.toInt ≤ 400) (a3 : Int32) (ra3 : 0 ≤ a3.toInt) (ta3 : a3.toInt ≤ 400) (w0 : va_W) (sz : Nat) (hT : TW ksM ad cy B qr 12 w0) (f0_ : Int32) (cf0_ : gi w0 0 24 = f0_) (rf0_ : 0 ≤ f0_.toInt) (tf0_ : f0_.toInt ≤ 64) (hok : a2.toInt ≤ a3.toInt ∧ okC w0 a1.toInt a2.toInt a3.toInt) : Met l yX12_reckons (wu yX12_reckons cX12_reckons 11 (some .long)) ({ frames := 2, cells := 0, slots := 0, locals := 36 }) (va_Pc [.ref (ad 0), .int a1, .int a2, .int a3] (wpreS adK adV dC dI cy sz w0)) (va_Ql (Py_X12_reckons_1 ad cy B qr s1 a1 a2 a3 w0) (fun u : va_W => wpost dC dI cy (va_A w0 sz) u) (va_A w0 sz)) 0 0 (va_A w0 sz) := by
  refine Met.ofW (cc := cX12_reckons) (maxL := 11) (ret := (some .long)) (by decide) rfl ?_
  intro p e s m args below meth c s₁ Bk hml hv
  obtain ⟨rfl, ⟨hsz, hP, hK, hD0⟩, hE, hSR⟩ := hv
  have hx := Bk.exec
  have hb := Bk.bytes
  have hr := Bk.returns
  have hlocks := Bk.notSynchronized
  have hC : CallFix p m c cX12_reckons 11 s _ (wu yX12_reckons cX12_reckons 11 (some .long)) RX12 := ⟨hx, hb, hml, findClass_of_methodNamed Bk.named, atoms_spec (ws := (wu yX12_reckons cX12_reckons 11 (some .long))) Bk.pre⟩
  subst hsz
  have hD := hD0.self (sz := s.heap.size)
  generalize hAe : va_A w0 s.heap.size = A at hD hE ⊢
  have hA : ∀ q : Nat, s.heap.size ≤ q → A q := fun q h => by rw [← hAe]; exact Or.inr h
  have hw : Wd dC dI A s.heap s.heap [] w0 := ⟨hP, hD, va_S.rf⟩
  have hF : FE ksM [(12, 24, 24), (69, 0, 64)] w0 w0 := FE.rf
  have hl := lv_entry ([.ref (ad 0), .int a1, .int a2, .int a3]) (n := 11) (Nat.le_of_ble_eq_true rfl)
  rw [lg_entry_eq]
  generalize (lg_sl ([.ref (ad 0), .int a1, .int a2, .int a3]) ++ List.replicate (11 - (lg_sl ([.ref (ad 0), .int a1, .int a2, .int a3])).length) Slot.unset).toArray = ls at hl ⊢
  have hl : lv_has ls 11 [(0, .ref (ad 0)), (1, .int a1), (2, .int a2), (3, .int a3)] := hl
  generalize hloc : ([] : List Loc) = locs at hw ⊢
  have hinX12 : ∀ w ∈ u_ws RX12 TX12 42, w ∈ (wu yX12_reckons cX12_reckons 11 (some .long)) := fun _ h => List.mem_cons_of_mem _ (up_71 h)
  obtain ⟨hle, D, hD0, hD1, hDs⟩ := hok
  have L8 : ∀ (n8 : Nat) (v8_4 : Int32) (f8_0_24 : Int32) (H : Heap) (locs : List Loc) (ls : Array Slot) (w1 : va_W), 0 ≤ a1.toInt → a1.toInt ≤ 5 → 0 ≤ a2.toInt → a2.toInt ≤ 400 → 0 ≤ a3.toInt → a3.toInt ≤ 400 → 0 ≤ v8_4.toInt → v8_4.toInt ≤ 400 → 0 ≤ f8_0_24.toInt → f8_0_24.toInt ≤ 64 → (f8_0_24.toInt = D (v8_4.toInt)) → (a2.toInt ≤ v8_4.toInt) → (v8_4.toInt ≤ a3.toInt) → (400 - v8_4.toInt).toNat < n8 → Wd dC dI A s.heap H locs w1 → TW ksM ad cy B qr 12 w1 → FE ksM [(12, 24, 24), (69, 0, 64)] w0 w1 → gi w1 0 24 = f8_0_24 → TT (fun n => m_X12_reckons n 0 a1.toInt a2.toInt a3.toInt (sL w0)) (fun n => j_X12_reckons 0 n 8 [a1.toInt, a3.toInt, v8_4.toInt] (sL w1)) → lv_has ls 11 [(0, .ref (ad 0)), (1, .int a1), (2, .int a2), (3, .int a3), (4, .int v8_4)] → W p l e ({ frames := 2, cells := 0, slots := 0, locals := 36 }) s m (List.toArray [.ref (ad 0), .int a1, .int a2, .int a3]) below meth c H locs 0 0 (MQ below (va_Ql (Py_X12_reckons_1 ad cy B qr s1 a1 a2 a3 w0) (fun u : va_W => wpost dC dI cy A u) A) (List.toArray [.ref (ad 0), .int a1, .int a2, .int a3]) s 0 0 A) (F0 m 8 ls []) := by
    intro n8
    induction n8 with
    | zero => intro v8_4 f8_0_24 H locs ls w1 r2 t3 r4 t5 r6 t7 r8 t9 r10 t11 hcr8_0 hcr8_1 hcr8_2 hm8 hw hT hF c12 hM hl; omega
    | succ n8 ih8 =>
      intro v8_4 f8_0_24 H locs ls w1 r2 t3 r4 t5 r6 t7 r8 t9 r10 t11 hcr8_0 hcr8_1 hcr8_2 hm8 hw hT hF c12 hM hl
      have J129 : ∀ (v129_5 : Int32) (v129_6 : Int32) (f129_0_24 : Int32) (f129_2__400_a1_toInt_1_v8_4_toInt_0_toNat : Int32) (H : Heap) (locs : List Loc) (ls : Array Slot) (w13 : va_W), 0 ≤ a1.toInt → a1.toInt ≤ 5 → 0 ≤ a2.toInt → a2.toInt ≤ 400 → 1 ≤ a3.toInt → a3.toInt ≤ 400 → 0 ≤ v8_4.toInt → v8_4.toInt ≤ 399 → 0 ≤ v129_5.toInt → v129_5.toInt ≤ 15 → 1 ≤ f129_0_24.toInt → f129_0_24.toInt ≤ 64 → (f129_0_24.toInt = D (v8_4.toInt + 1)) → (a2.toInt ≤ v8_4.toInt) → (v8_4.toInt < a3.toInt) → Wd dC dI A s.heap H locs w13 → TW ksM ad cy B qr 12 w13 → FE ksM [(12, 24, 24), (69, 0, 64)] w0 w13 → gi w13 0 24 = f129_0_24 → gi w13 2 (400 * a1.toInt + 1 * v8_4.toInt + 0).toNat = f129_2__400_a1_toInt_1_v8_4_toInt_0_toNat → TT (fun n => m_X12_reckons n 0 a1.toInt a2.toInt a3.toInt (sL w0)) (fun n => b_X12_reckons_129 (j_X12_reckons 0 n) n 0 (a1.toInt) (a3.toInt) (v8_4.toInt) (sL w13)) → lv_has ls 11 [(0, .ref (ad 0)), (1, .int a1), (2, .int a2), (3, .int a3), (4, .int v8_4), (5, .int v129_5), (6, .int v129_6)] → W p l e ({ frames := 2, cells := 0, slots := 0, locals := 36 }) s m (List.toArray [.ref (ad 0), .int a1, .int a2, .int a3]) below meth c H locs 0 0 (MQ below (va_Ql (Py_X12_reckons_1 ad cy B qr s1 a1 a2 a3 w0) (fun u : va_W => wpost dC dI cy A u) A) (List.toArray [.ref (ad 0), .int a1, .int a2, .int a3]) s 0 0 A) (F0 m 129 ls []) := by
        intro v129_5 v129_6 f129_0_24 f129_2__400_a1_toInt_1_v8_4_toInt_0_toNat H locs ls w13 r14 t15 r16 t17 r18 t19 r20 t21 r22 t23 r24 t25 hcr129_0 hcr129_1 hcr129_2 hw hT hF c26 c27 hM hl
        obtain ⟨x28, ex28⟩ : ∃ y : Int32, y = v8_4 + Int32.ofInt 1 := ⟨_, rfl⟩
        have erx28 := ex28
        refine lv_iinc (v := x28) (lv' := [(4, .int x28), (0, .ref (ad 0)), (1, .int a1), (2, .int a2), (3, .int a3), (5, .int v129_5), (6, .int v129_6)]) hx hb dX12_reckons_129 hl (k := 4) rfl ex28.symm (by decide) rfl (fun ls hl => ?_)
        have ex28 : x28.toInt = v8_4.toInt + 1 := by rw [ex28]; exact wk_add (y := 1) (show -2147483648 ≤ v8_4.toInt + 1 by omega) (show v8_4.toInt + 1 ≤ 2147483647 by omega)
        replace hM := hM.lt ex28.symm
        refine lv_goto (tgt := 8) hx hb dX12_reckons_132 (by decide) ?_
        exact ih8 x28 f129_0_24 H locs ls w13 (show 0 ≤ a1.toInt from r14) (show a1.toInt ≤ 5 from t15) (show 0 ≤ a2.toInt from r16) (show a2.toInt ≤ 400 from t17) (show 0 ≤ a3.toInt from r6) (show a3.toInt ≤ 400 from t19) (show 0 ≤ x28.toInt by first | with_reducible assumption | omega) (show x28.toInt ≤ 400 by first | with_reducible assumption | omega) (show 0 ≤ f129_0_24.toInt from Int.le_trans (by decide) r24) (show f129_0_24.toInt ≤ 64 from t25) (show f129_0_24.toInt = D (x28.toInt) from hcr129_0.trans (congrArg D (show v8_4.toInt + 1 = x28.toInt by first | exact Int.le_antisymm (by omega) (by omega) | omega))) (show a2.toInt ≤ x28.toInt by omega) (show x28.toInt ≤ a3.toInt by omega) (show (400 - x28.toInt).toNat < n8 by first | exact tn_lt hm8 (by omega) (by omega) | omega) hw hT hF c26 hM (lv_sub hl [1, 2, 3, 4, 0] rfl)
      replace hM := hM.suc (fun _ => e_X12_reckons_8)
      refine lv_iload hx hb dX12_reckons_8 (lv_at hl 4 rfl) ?_
      refine lv_iload_n hx hb dX12_reckons_10 rfl (lv_at hl 3 rfl) ?_
      refine lv_icmp_ge (tgt := 135) hx hb dX12_reckons_11 (by decide) (fun c29 => ?_) (fun c29 => ?_)
      · have c29 : a3.toInt ≤ v8_4.toInt := wk_le.mp c29
        replace hM := hM.pos c29
        have hDe : D v8_4.toInt = 1 := by rw [show v8_4.toInt = a3.toInt by omega]; exact hD1
        refine lv_aload_n hx hb dX12_reckons_135 rfl (lv_at hl 0 rfl) ?_
        refine tk_Vl hC hK hw hT hA hE hSR kM_at0 (by decide) rfl (ky_X12_pop_1 l adK adV dC dI cy ad B hB0 (Int.le_trans hB1 (by decide)) qr s1    w1 H.size hT f8_0_24 c12 (show 0 ≤ f8_0_24.toInt from r10) (show f8_0_24.toInt ≤ 64 from t11) (show 1 ≤ f8_0_24.toInt by first | with_reducible assumption | omega)) (cwV 0 hC.2.2.2.2 uV_RX12_292 rfl rfl rfl (by decide +kernel) ⟨Nat.le_of_ble_eq_true rfl, Nat.le_of_ble_eq_true rfl⟩) rfl hl.1 rfl (Nat.le_of_ble_eq_true rfl) dX12_reckons_136 (fun r30 w32 H locs hp31 hw => ?_)
        obtain ⟨hT, k33, hv38, hg37⟩ := hp31
        have hF := hF.tr k33 (by decide)
        obtain ⟨⟨x34, c35, rx34, tx34⟩, g36⟩ := hg37
        replace hM := hM.call hv38 rfl
        have g36 : x34.toInt = f8_0_24.toInt - 1 := by have q := g36; simp only [c12, c35] at q; first | with_reducible exact q | omega
        exact tk_lret hC hr hlocks hK ⟨hT, hF, hM.ret rfl, ⟨x34, c35, (show 0 ≤ x34.toInt by first | with_reducible assumption | omega), (show x34.toInt ≤ 63 by first | with_reducible assumption | omega)⟩⟩ hw dX12_reckons_139
      · have c29 : v8_4.toInt < a3.toInt := wk_leF c29
        replace hM := hM.neg (Int.not_le.mpr c29)
        refine lv_aload_n hx hb dX12_reckons_14 rfl (lv_at hl 0 rfl) ?_
        refine tk_getA hC hK hw hT hinX12 kM_at0 (by decide) rfl 3 (by decide) (List.mem_cons_of_mem _ uw_6_15) rfl rfl dX12_reckons_15 ?_
        refine lv_sipush (v := 400) hx hb dX12_reckons_18 (by decide) ?_
        refine lv_iload_n hx hb dX12_reckons_21 rfl (lv_at hl 1 rfl) ?_
        refine lv_imul hx hb dX12_reckons_22 ?_
        refine lv_topi (fun x39 ex39 => ?_)
        have ezx39 := ex39
        have ex39 : x39.toInt = (400 : Int) * a1.toInt := by rw [ex39]; exact wk_mul (show (-2147483648) ≤ (400 : Int) * a1.toInt by omega) (show (400 : Int) * a1.toInt ≤ 2147483647 by omega)
        replace hM := hM.lt ex39.symm
        refine lv_iload hx hb dX12_reckons_23 (lv_at hl 4 rfl) ?_
        refine lv_iadd hx hb dX12_reckons_25 ?_
        refine lv_topi (fun x40 ex40 => ?_)
        have ezx40 := ex40
        have ex40 : x40.toInt = x39.toInt + v8_4.toInt := by rw [ex40]; exact wk_add (show (-2147483648) ≤ x39.toInt + v8_4.toInt by omega) (show x39.toInt + v8_4.toInt ≤ 2147483647 by omega)
        replace hM := hM.lt ex40.symm
        refine tk_iald hC hK hw hT kM_at2 rfl rfl (show 0 ≤ x40.toInt by first | with_reducible assumption | omega) (show x40.toInt < 2400 by first | with_reducible assumption | omega) dX12_reckons_26 (fun x41 c42 rx41 tx41 => ?_)
        have hox41 := c42
        replace hM := hM.rd (sL_at (kM_lt kM_at2) hox41)
        have c42 : gi w1 2 (400 * a1.toInt + 1 * v8_4.toInt + 0).toNat = x41 := (congrArg (gi w1 2) (congrArg Int.toNat (show 400 * a1.toInt + 1 * v8_4.toInt + 0 = x40.toInt by first | exact Int.le_antisymm (by omega) (by omega) | omega))).trans c42
        refine lv_bipush (v := 15) hx hb dX12_reckons_27 (by decide) ?_
        refine lv_iand hx hb dX12_reckons_29 ?_
        refine lv_topi (fun x43 ex43 => ?_)
        have ezx43 := ex43
        have bx43 : 0 ≤ x43.toInt ∧ x43.toInt ≤ (15 : Int) := by rw [ex43]; exact wk_and (by decide)
        replace hM := hM.lt (o32_e (f := fun x y => x &&& y) ezx43 rfl (by decide))
        obtain ⟨hk, hk1, hk2⟩ := hDs v8_4.toInt (by omega) (by omega)
        rw [← hF.gi kM_at2 rfl rfl, c42] at hk
        unfold okT at hk
        rw [← ex43] at hk
        refine lv_istore (lv' := [(5, .int x43), (0, .ref (ad 0)), (1, .int a1), (2, .int a2), (3, .int a3), (4, .int v8_4)]) hx hb dX12_reckons_30 hl (by decide) rfl (fun ls hl => ?_)
        refine lv_aload_n hx hb dX12_reckons_32 rfl (lv_at hl 1 rfl) ?_
        refine tk_getA hC hK hw hT hinX12 kM_at0 (by decide) rfl 3 (by decide) (List.mem_cons_of_mem _ uw_6_15) rfl rfl dX12_reckons_33 ?_
        refine lv_sipush (v := 400) hx hb dX12_reckons_36 (by decide) ?_
        refine lv_iload_n hx hb dX12_reckons_39 rfl (lv_at hl 2 rfl) ?_
        refine lv_imul hx hb dX12_reckons_40 ?_
        refine lv_topi (fun x44 ex44 => ?_)
        have ezx44 := ex44
        have ex44 : x44.toInt = (400 : Int) * a1.toInt := by rw [ex44]; exact wk_mul (show (-2147483648) ≤ (400 : Int) * a1.toInt by omega) (show (400 : Int) * a1.toInt ≤ 2147483647 by omega)
        replace hM := hM.lt ex44.symm
        refine lv_iload hx hb dX12_reckons_41 (lv_at hl 5 rfl) ?_
        refine lv_iadd hx hb dX12_reckons_43 ?_
        refine lv_topi (fun x45 ex45 => ?_)
        have ezx45 := ex45
        have ex45 : x45.toInt = x44.toInt + v8_4.toInt := by rw [ex45]; exact wk_add (show (-2147483648) ≤ x44.toInt + v8_4.toInt by omega) (show x44.toInt + v8_4.toInt ≤ 2147483647 by omega)
        replace hM := hM.lt ex45.symm
        refine tk_iald hC hK hw hT kM_at2 rfl rfl (show 0 ≤ x45.toInt by first | with_reducible assumption | omega) (show x45.toInt < 2400 by first | with_reducible assumption | omega) dX12_reckons_44 (fun x46 c47 rx46 tx46 => ?_)
        have hox46 := c47
        have c47 : gi w1 2 (400 * a1.toInt + 1 * v8_4.toInt + 0).toNat = x46 := (congrArg (gi w1 2) (congrArg Int.toNat (show 400 * a1.toInt + 1 * v8_4.toInt + 0 = x45.toInt by first | exact Int.le_antisymm (by omega) (by omega) | omega))).trans c47
        refine wk_top x41 (c47.symm.trans c42) ?_
        replace hM := hM.rd ((sL_at (kM_lt kM_at2) hox46).trans (congrArg Int32.toInt (c47.symm.trans c42)))
        refine lv_iconst (v := 4) hx hb dX12_reckons_45 (by decide) ?_
        refine lv_ishr hx hb dX12_reckons_46 ?_
        refine lv_topi (fun x48 ex48 => ?_)
        have ezx48 := ex48
        replace hM := hM.lt (o32_e (f := fun x y => x >>> (y &&& 31)) ezx48 rfl (by decide))
        rw [← ex48] at hk
        refine lv_istore (lv' := [(6, .int x48), (5, .int x43), (0, .ref (ad 0)), (1, .int a1), (2, .int a2), (3, .int a3), (4, .int v8_4)]) hx hb dX12_reckons_47 hl (by decide) rfl (fun ls hl => ?_)
        refine lv_iload hx hb dX12_reckons_49 (lv_at hl 1 rfl) ?_
        refine lv_if_ne (tgt := 64) hx hb dX12_reckons_51 (by decide) (fun c49 => ?_) (fun c49 => ?_)
        · have c49 : ¬ x43.toInt = (0 : Int) := wk_eqF c49
          replace hM := hM.pos c49
          refine lv_iload hx hb dX12_reckons_64 (lv_at hl 1 rfl) ?_
          refine lv_iconst (v := 1) hx hb dX12_reckons_66 (by decide) ?_
          refine lv_icmp_ne (tgt := 84) hx hb dX12_reckons_67 (by decide) (fun c50 => ?_) (fun c50 => ?_)
          · have c50 : ¬ x43.toInt = (1 : Int) := wk_eqF c50
            replace hM := hM.pos c50
            refine lv_iload hx hb dX12_reckons_84 (lv_at hl 1 rfl) ?_
            refine lv_bipush (v := 11) hx hb dX12_reckons_86 (by decide) ?_
            refine lv_icmp_ne (tgt := 104) hx hb dX12_reckons_88 (by decide) (fun c51 => ?_) (fun c51 => ?_)
            · have c51 : ¬ x43.toInt = (11 : Int) := wk_eqF c51
              replace hM := hM.pos c51
              refine lv_aload_n hx hb dX12_reckons_104 rfl (lv_at hl 2 rfl) ?_
              refine tk_Vl hC hK hw hT hA hE hSR kM_at0 (by decide) rfl (ky_X12_pop_1 l adK adV dC dI cy ad B hB0 (Int.le_trans hB1 (by decide)) qr s1    w1 H.size hT f8_0_24 c12 (show 0 ≤ f8_0_24.toInt from r10) (show f8_0_24.toInt ≤ 64 from t11) (show 1 ≤ f8_0_24.toInt by first | with_reducible assumption | omega)) (cwV 0 hC.2.2.2.2 uV_RX12_292 rfl rfl rfl (by decide +kernel) ⟨Nat.le_of_ble_eq_true rfl, Nat.le_of_ble_eq_true rfl⟩) rfl hl.1 rfl (Nat.le_of_ble_eq_true rfl) dX12_reckons_105 (fun r52 w54 H locs hp53 hw => ?_)
              obtain ⟨hT, k55, hv60, hg59⟩ := hp53
              have hF := hF.tr k55 (by decide)
              have c61 := k55.gi kM_at2 rfl c42
              obtain ⟨⟨x56, c57, rx56, tx56⟩, g58⟩ := hg59
              replace hM := hM.call hv60 rfl
              have g58 : x56.toInt = f8_0_24.toInt - 1 := by have q := g58; simp only [c12, c57] at q; first | with_reducible exact q | omega
              refine lv_lstore (lv' := [(7, .long r52), (6, .int x48), (5, .int x43), (0, .ref (ad 0)), (1, .int a1), (2, .int a2), (3, .int a3), (4, .int v8_4)]) hx hb dX12_reckons_108 hl (by decide) rfl (fun ls hl => ?_)
              refine lv_aload_n hx hb dX12_reckons_110 rfl (lv_at hl 3 rfl) ?_
              refine tk_Vl hC hK hw hT hA hE hSR kM_at0 (by decide) rfl (ky_X12_pop_1 l adK adV dC dI cy ad B hB0 (Int.le_trans hB1 (by decide)) qr s1    w54 H.size hT x56 c57 (show 0 ≤ x56.toInt by first | with_reducible assumption | omega) (show x56.toInt ≤ 64 by first | with_reducible assumption | omega) (show 1 ≤ x56.toInt by first | with_reducible assumption | omega)) (cwV 0 hC.2.2.2.2 uV_RX12_292 rfl rfl rfl (by decide +kernel) ⟨Nat.le_of_ble_eq_true rfl, Nat.le_of_ble_eq_true rfl⟩) rfl hl.1 rfl (Nat.le_of_ble_eq_true rfl) dX12_reckons_111 (fun r62 w64 H locs hp63 hw => ?_)
              obtain ⟨hT, k65, hv70, hg69⟩ := hp63
              have hF := hF.tr k65 (by decide)
              have c71 := k65.gi kM_at2 rfl c61
              obtain ⟨⟨x66, c67, rx66, tx66⟩, g68⟩ := hg69
              replace hM := hM.call hv70 rfl
              have g68 : x66.toInt = x56.toInt - 1 := by have q := g68; simp only [c57, c67] at q; first | with_reducible exact q | omega
              refine lv_lstore (lv' := [(9, .long r62), (7, .long r52), (6, .int x48), (5, .int x43), (0, .ref (ad 0)), (1, .int a1), (2, .int a2), (3, .int a3), (4, .int v8_4)]) hx hb dX12_reckons_114 hl (by decide) rfl (fun ls hl => ?_)
              refine lv_aload_n hx hb dX12_reckons_116 rfl (lv_at hl 4 rfl) ?_
              refine lv_iload hx hb dX12_reckons_117 (lv_at hl 3 rfl) ?_
              refine lv_lload hx hb dX12_reckons_119 (lv_at hl 0 rfl) ?_
              refine lv_lload hx hb dX12_reckons_121 (lv_at hl 1 rfl) ?_
              refine tk_Sl hC hK hw hT hA hE hSR (ky_X12_one_1 l adK adV dC dI cy ad B hB0 (Int.le_trans hB1 (by decide)) qr s1   x43 (show 2 ≤ x43.toInt by first | with_reducible assumption | omega) (show x43.toInt ≤ 15 by first | with_reducible assumption | omega) r62 r52 w64 H.size hT ) (va_cwS 3 hC.2.2.2.2 uS_RX12_296 rfl rfl rfl (by decide +kernel) ⟨Nat.le_of_ble_eq_true rfl, Nat.le_of_ble_eq_true rfl⟩) rfl hl.1 rfl (Nat.le_of_ble_eq_true rfl) dX12_reckons_123 (fun r72 w74 H locs hp73 hw => ?_)
              obtain ⟨rfl, hv77, hg76⟩ := hp73
              clear hg76
              replace hM := hM.call hv77 rfl
              refine tk_Vv hC hK hw hT hA hE hSR kM_at0 (by decide) rfl (ky_X12_push_1 l adK adV dC dI cy ad B hB0 (Int.le_trans hB1 (by decide)) qr s1   r72 w64 H.size hT x66 c67 (show 0 ≤ x66.toInt by first | with_reducible assumption | omega) (show x66.toInt ≤ 64 by first | with_reducible assumption | omega) (show x66.toInt ≤ 63 by first | with_reducible assumption | omega)) (cwV 1 hC.2.2.2.2 uV_RX12_288 rfl rfl rfl (by decide +kernel) ⟨Nat.le_of_ble_eq_true rfl, Nat.le_of_ble_eq_true rfl⟩) rfl hl.1 rfl (Nat.le_of_ble_eq_true rfl) dX12_reckons_126 (fun w80 H locs hp79 hw => ?_)
              obtain ⟨hT, k81, hv86, hg85⟩ := hp79
              have hF := hF.tr k81 (by decide)
              have c87 := k81.gi kM_at2 rfl c71
              obtain ⟨⟨x82, c83, rx82, tx82⟩, g84⟩ := hg85
              replace hM := hM.call hv86 rfl
              have g84 : x82.toInt = x66.toInt + 1 := by have q := g84; simp only [c67, c83] at q; first | with_reducible exact q | omega
              exact J129 x43 x48 x82 x41 H locs ls w80 (show 0 ≤ a1.toInt from r2) (show a1.toInt ≤ 5 from t3) (show 0 ≤ a2.toInt from r4) (show a2.toInt ≤ 400 from t5) (show 1 ≤ a3.toInt by first | with_reducible assumption | omega) (show a3.toInt ≤ 400 from t7) (show 0 ≤ v8_4.toInt from r8) (show v8_4.toInt ≤ 399 by first | with_reducible assumption | omega) (show 0 ≤ x43.toInt by first | with_reducible assumption | omega) (show x43.toInt ≤ 15 by first | with_reducible assumption | omega) (show 1 ≤ x82.toInt by first | with_reducible assumption | omega) (show x82.toInt ≤ 64 by first | with_reducible assumption | omega) (show x82.toInt = D (v8_4.toInt + 1) by first | exact Int.le_antisymm (by omega) (by omega) | omega) (show a2.toInt ≤ v8_4.toInt by omega) (show v8_4.toInt < a3.toInt by omega)  hw hT hF c83 c87 hM (lv_sub hl [4, 5, 6, 7, 8, 3, 2] rfl)
            · have c51 : x43.toInt = (11 : Int) := wk_eq.mp c51
              replace hM := hM.neg (fun q => q c51)
              refine lv_aload_n hx hb dX12_reckons_91 rfl (lv_at hl 2 rfl) ?_
              refine lv_lconst (v := 1) hx hb dX12_reckons_92 (by decide) ?_
              refine lv_aload_n hx hb dX12_reckons_93 rfl (lv_at hl 2 rfl) ?_
              refine tk_Vl hC hK hw hT hA hE hSR kM_at0 (by decide) rfl (ky_X12_pop_1 l adK adV dC dI cy ad B hB0 (Int.le_trans hB1 (by decide)) qr s1    w1 H.size hT f8_0_24 c12 (show 0 ≤ f8_0_24.toInt from r10) (show f8_0_24.toInt ≤ 64 from t11) (show 1 ≤ f8_0_24.toInt by first | with_reducible assumption | omega)) (cwV 0 hC.2.2.2.2 uV_RX12_292 rfl rfl rfl (by decide +kernel) ⟨Nat.le_of_ble_eq_true rfl, Nat.le_of_ble_eq_true rfl⟩) rfl hl.1 rfl (Nat.le_of_ble_eq_true rfl) dX12_reckons_94 (fun r88 w90 H locs hp89 hw => ?_)
              obtain ⟨hT, k91, hv96, hg95⟩ := hp89
              have hF := hF.tr k91 (by decide)
              have c97 := k91.gi kM_at2 rfl c42
              obtain ⟨⟨x92, c93, rx92, tx92⟩, g94⟩ := hg95
              replace hM := hM.call hv96 rfl
              have g94 : x92.toInt = f8_0_24.toInt - 1 := by have q := g94; simp only [c12, c93] at q; first | with_reducible exact q | omega
              refine lv_lsub hx hb dX12_reckons_97 ?_
              have nx98 := wk_i64 r88
              refine lv_topl (fun x99 ex99 => ?_)
              have ezx99 := ex99
              replace hM := hM.lt (o64_e (f := fun x y => x - y) ezx99 (by decide) rfl)
              refine tk_Vv hC hK hw hT hA hE hSR kM_at0 (by decide) rfl (ky_X12_push_1 l adK adV dC dI cy ad B hB0 (Int.le_trans hB1 (by decide)) qr s1   x99 w90 H.size hT x92 c93 (show 0 ≤ x92.toInt by first | with_reducible assumption | omega) (show x92.toInt ≤ 64 by first | with_reducible assumption | omega) (show x92.toInt ≤ 63 by first | with_reducible assumption | omega)) (cwV 1 hC.2.2.2.2 uV_RX12_288 rfl rfl rfl (by decide +kernel) ⟨Nat.le_of_ble_eq_true rfl, Nat.le_of_ble_eq_true rfl⟩) rfl hl.1 rfl (Nat.le_of_ble_eq_true rfl) dX12_reckons_98 (fun w102 H locs hp101 hw => ?_)
              obtain ⟨hT, k103, hv108, hg107⟩ := hp101
              have hF := hF.tr k103 (by decide)
              have c109 := k103.gi kM_at2 rfl c97
              obtain ⟨⟨x104, c105, rx104, tx104⟩, g106⟩ := hg107
              replace hM := hM.call hv108 rfl
              have g106 : x104.toInt = x92.toInt + 1 := by have q := g106; simp only [c93, c105] at q; first | with_reducible exact q | omega
              refine lv_goto (tgt := 129) hx hb dX12_reckons_101 (by decide) ?_
              exact J129 x43 x48 x104 x41 H locs ls w102 (show 0 ≤ a1.toInt from r2) (show a1.toInt ≤ 5 from t3) (show 0 ≤ a2.toInt from r4) (show a2.toInt ≤ 400 from t5) (show 1 ≤ a3.toInt by first | with_reducible assumption | omega) (show a3.toInt ≤ 400 from t7) (show 0 ≤ v8_4.toInt from r8) (show v8_4.toInt ≤ 399 by first | with_reducible assumption | omega) (show 0 ≤ x43.toInt by first | with_reducible assumption | omega) (show x43.toInt ≤ 15 by first | with_reducible assumption | omega) (show 1 ≤ x104.toInt by first | with_reducible assumption | omega) (show x104.toInt ≤ 64 by first | with_reducible assumption | omega) (show x104.toInt = D (v8_4.toInt + 1) by first | exact Int.le_antisymm (by omega) (by omega) | omega) (show a2.toInt ≤ v8_4.toInt by omega) (show v8_4.toInt < a3.toInt by omega)  hw hT hF c105 c109 hM (lv_sub hl [2, 3, 4, 5, 6, 1, 0] rfl)
          · have c50 : x43.toInt = (1 : Int) := wk_eq.mp c50
            replace hM := hM.neg (fun q => q c50)
            refine lv_aload_n hx hb dX12_reckons_70 rfl (lv_at hl 2 rfl) ?_
            refine lv_aload_n hx hb dX12_reckons_71 rfl (lv_at hl 2 rfl) ?_
            refine tk_getA hC hK hw hT hinX12 kM_at0 (by decide) rfl 25 (by decide) (List.mem_cons_of_mem _ uw_7_0) rfl rfl dX12_reckons_72 ?_
            refine lv_iload hx hb dX12_reckons_75 (lv_at hl 0 rfl) ?_
            have g110 : 0 ≤ x48.toInt ∧ x48.toInt ≤ 9 := by omega
            refine tk_laldv hC hK hw hT kM_at11 rfl (show 0 ≤ x48.toInt by first | with_reducible assumption | omega) (show x48.toInt < 10 by first | with_reducible assumption | omega) dX12_reckons_77 (fun x111 c112 => ?_)
            replace hM := hM.rd (sL_atl (kM_lt kM_at11) c112)
            refine tk_Vv hC hK hw hT hA hE hSR kM_at0 (by decide) rfl (ky_X12_push_1 l adK adV dC dI cy ad B hB0 (Int.le_trans hB1 (by decide)) qr s1   x111 w1 H.size hT f8_0_24 c12 (show 0 ≤ f8_0_24.toInt from r10) (show f8_0_24.toInt ≤ 64 from t11) (show f8_0_24.toInt ≤ 63 by first | with_reducible assumption | omega)) (cwV 1 hC.2.2.2.2 uV_RX12_288 rfl rfl rfl (by decide +kernel) ⟨Nat.le_of_ble_eq_true rfl, Nat.le_of_ble_eq_true rfl⟩) rfl hl.1 rfl (Nat.le_of_ble_eq_true rfl) dX12_reckons_78 (fun w115 H locs hp114 hw => ?_)
            obtain ⟨hT, k116, hv121, hg120⟩ := hp114
            have hF := hF.tr k116 (by decide)
            have c122 := k116.gi kM_at2 rfl c42
            obtain ⟨⟨x117, c118, rx117, tx117⟩, g119⟩ := hg120
            replace hM := hM.call hv121 rfl
            have g119 : x117.toInt = f8_0_24.toInt + 1 := by have q := g119; simp only [c12, c118] at q; first | with_reducible exact q | omega
            refine lv_goto (tgt := 129) hx hb dX12_reckons_81 (by decide) ?_
            exact J129 x43 x48 x117 x41 H locs ls w115 (show 0 ≤ a1.toInt from r2) (show a1.toInt ≤ 5 from t3) (show 0 ≤ a2.toInt from r4) (show a2.toInt ≤ 400 from t5) (show 1 ≤ a3.toInt by first | with_reducible assumption | omega) (show a3.toInt ≤ 400 from t7) (show 0 ≤ v8_4.toInt from r8) (show v8_4.toInt ≤ 399 by first | with_reducible assumption | omega) (show 0 ≤ x43.toInt by first | with_reducible assumption | omega) (show x43.toInt ≤ 15 by first | with_reducible assumption | omega) (show 1 ≤ x117.toInt by first | with_reducible assumption | omega) (show x117.toInt ≤ 64 by first | with_reducible assumption | omega) (show x117.toInt = D (v8_4.toInt + 1) by first | exact Int.le_antisymm (by omega) (by omega) | omega) (show a2.toInt ≤ v8_4.toInt by omega) (show v8_4.toInt < a3.toInt by omega)  hw hT hF c118 c122 hM (lv_sub hl [2, 3, 4, 5, 6, 1, 0] rfl)
        · have c49 : x43.toInt = (0 : Int) := wk_eq.mp c49
          replace hM := hM.neg (fun q => q c49)
          refine lv_aload_n hx hb dX12_reckons_54 rfl (lv_at hl 2 rfl) ?_
          refine lv_iload hx hb dX12_reckons_55 (lv_at hl 0 rfl) ?_
          refine lv_i2l hx hb dX12_reckons_57 rfl ?_
          refine lv_topl (fun x123 ex123 => ?_)
          have ex123 : x123.toInt = x48.toInt := by rw [ex123]; exact wk_i2l _
          have bx123 := wk_i32 x48
          replace hM := hM.lt ex123.symm
          refine tk_Vv hC hK hw hT hA hE hSR kM_at0 (by decide) rfl (ky_X12_push_2 l adK adV dC dI cy ad B hB0 (Int.le_trans hB1 (by decide)) qr s1   x123 (show (-2147483648) ≤ x123.toInt by first | with_reducible assumption | omega) (show x123.toInt ≤ 2147483647 by first | with_reducible assumption | omega) w1 H.size hT f8_0_24 c12 (show 0 ≤ f8_0_24.toInt from r10) (show f8_0_24.toInt ≤ 64 from t11) (show f8_0_24.toInt ≤ 63 by first | with_reducible assumption | omega)) (cwV 1 hC.2.2.2.2 uV_RX12_288 rfl rfl rfl (by decide +kernel) ⟨Nat.le_of_ble_eq_true rfl, Nat.le_of_ble_eq_true rfl⟩) rfl hl.1 rfl (Nat.le_of_ble_eq_true rfl) dX12_reckons_58 (fun w126 H locs hp125 hw => ?_)
          obtain ⟨hT, k127, hv132, hg131⟩ := hp125
          have hF := hF.tr k127 (by decide)
          have c133 := k127.gi kM_at2 rfl c42
          obtain ⟨⟨x128, c129, rx128, tx128⟩, g130⟩ := hg131
          replace hM := hM.call hv132 rfl
          have g130 : x128.toInt = f8_0_24.toInt + 1 := by have q := g130; simp only [c12, c129] at q; first | with_reducible exact q | omega
          refine lv_goto (tgt := 129) hx hb dX12_reckons_61 (by decide) ?_
          exact J129 x43 x48 x128 x41 H locs ls w126 (show 0 ≤ a1.toInt from r2) (show a1.toInt ≤ 5 from t3) (show 0 ≤ a2.toInt from r4) (show a2.toInt ≤ 400 from t5) (show 1 ≤ a3.toInt by first | with_reducible assumption | omega) (show a3.toInt ≤ 400 from t7) (show 0 ≤ v8_4.toInt from r8) (show v8_4.toInt ≤ 399 by first | with_reducible assumption | omega) (show 0 ≤ x43.toInt by first | with_reducible assumption | omega) (show x43.toInt ≤ 15 by first | with_reducible assumption | omega) (show 1 ≤ x128.toInt by first | with_reducible assumption | omega) (show x128.toInt ≤ 64 by first | with_reducible assumption | omega) (show x128.toInt = D (v8_4.toInt + 1) by first | exact Int.le_antisymm (by omega) (by omega) | omega) (show a2.toInt ≤ v8_4.toInt by omega) (show v8_4.toInt < a3.toInt by omega)  hw hT hF c129 c133 hM (lv_sub hl [2, 3, 4, 5, 6, 1, 0] rfl)
  have hM : TT (fun n => m_X12_reckons n 0 a1.toInt a2.toInt a3.toInt (sL w0)) (fun n => m_X12_reckons n 0 a1.toInt a2.toInt a3.toInt (sL w0)) := TT.rf
  refine lv_aload_n hx hb dX12_reckons_0 rfl (lv_at hl 0 rfl) ?_
  refine lv_iconst (v := 0) hx hb dX12_reckons_1 (by decide) ?_
  have hTq := hT
  refine tk_puti hC hK hw hT hinX12 tyX12_ok nmX12 kM_at0 (by decide) rfl rfl 24 (by decide) (List.mem_cons_of_mem _ uw_48_14) rfl rfl rfl rfl (by decide) (by decide) dX12_reckons_2 (fun H locs w134 hw hT k136 c135 => ?_)
  replace hM := hM.wr (sL_upf hTq hT kM_at0 (kM_lt kM_at0) (by decide) rfl k136 c135 (by decide))
  have hF := hF.put kM_at0 (k := 24) (by decide) k136
  refine lv_iload_n hx hb dX12_reckons_5 rfl (lv_at hl 2 rfl) ?_
  refine lv_istore (lv' := [(4, .int a2), (0, .ref (ad 0)), (1, .int a1), (2, .int a2), (3, .int a3)]) hx hb dX12_reckons_6 hl (by decide) rfl (fun ls hl => ?_)
  exact L8 ((400 - a2.toInt).toNat + 1) a2 0 H locs ls w134 (show 0 ≤ a1.toInt from ra1) (show a1.toInt ≤ 5 from ta1) (show 0 ≤ a2.toInt from ra2) (show a2.toInt ≤ 400 from ta2) (show 0 ≤ a3.toInt from ra3) (show a3.toInt ≤ 400 from ta3) (show 0 ≤ a2.toInt from ra2) (show a2.toInt ≤ 400 from ta2) (by decide) (by decide) (show (0 : Int) = D (a2.toInt) from hD0.symm) (show a2.toInt ≤ a2.toInt from Int.le_refl _) (show a2.toInt ≤ a3.toInt by omega) (Nat.lt_succ_self _) hw hT hF c135 hM (lv_sub hl [1, 2, 3, 4, 0] rfl)
abbrev Py_X12_walkerOf_6 (ad : Nat → Nat) (cy : Nat → ClassId) (B : Int) (qr : Nat) (s1 : Int)  (w0 : va_W) : Int32 → va_W → Prop := fun r u => w0 = u ∧ Ev (fun n => m_X12_walkerOf n 0 0 3 (sL w0)) (r.toInt, sL w0) ∧ (((-1) ≤ r.toInt ∧ r.toInt ≤ 5 ∧ gi u 12 219 = r))
set_option maxHeartbeats 4000000 in
set_option maxRecDepth 100000 in
theorem ky_X12_walkerOf_6 (l : Launch) (adK adV : Nat → Nat) (dC : Nat → ClassId) (dI : Nat → Nat → Nat) (cy : Nat → ClassId) (ad : Nat → Nat) (B : Int) (hB0 : 100000 ≤ B) (hB1 : B ≤ 1073741824) (qr : Nat) (s1 : Int)   (w0 : va_W) (sz : Nat) (hT : TW ksM ad cy B qr 12 w0)  : Met l yX12_walkerOf (wu yX12_walkerOf cX12_walkerOf 3 (some .int)) ({ frames := 1, cells := 0, slots := 0, locals := 12 }) (va_Pc [.ref (ad 0), .int 0, .int 3] (wpreS adK adV dC dI cy sz w0)) (va_Qi (Py_X12_walkerOf_6 ad cy B qr s1  w0) (fun u : va_W => wpost dC dI cy (va_A w0 sz) u) (va_A w0 sz)) 0 0 (va_A w0 sz) := by
  refine Met.ofW (cc := cX12_walkerOf) (maxL := 3) (ret := (some .int)) (by decide) rfl ?_
  intro p e s m args below meth c s₁ Bk hml hv
  obtain ⟨rfl, ⟨hsz, hP, hK, hD0⟩, hE, hSR⟩ := hv
  have hx := Bk.exec
  have hb := Bk.bytes
  have hr := Bk.returns
  have hlocks := Bk.notSynchronized
  have hC : CallFix p m c cX12_walkerOf 3 s _ (wu yX12_walkerOf cX12_walkerOf 3 (some .int)) RX12 := ⟨hx, hb, hml, findClass_of_methodNamed Bk.named, atoms_spec (ws := (wu yX12_walkerOf cX12_walkerOf 3 (some .int))) Bk.pre⟩
  subst hsz
  have hD := hD0.self (sz := s.heap.size)
  generalize hAe : va_A w0 s.heap.size = A at hD hE ⊢
  have hA : ∀ q : Nat, s.heap.size ≤ q → A q := fun q h => by rw [← hAe]; exact Or.inr h
  have hw : Wd dC dI A s.heap s.heap [] w0 := ⟨hP, hD, va_S.rf⟩
  have hF : FE ksM ([] : List (Nat × Nat × Nat)) w0 w0 := FE.rf
  have hl := lv_entry ([.ref (ad 0), .int 0, .int 3]) (n := 3) (Nat.le_of_ble_eq_true rfl)
  rw [lg_entry_eq]
  generalize (lg_sl ([.ref (ad 0), .int 0, .int 3]) ++ List.replicate (3 - (lg_sl ([.ref (ad 0), .int 0, .int 3])).length) Slot.unset).toArray = ls at hl ⊢
  have hl : lv_has ls 3 [(0, .ref (ad 0)), (1, .int 0), (2, .int 3)] := hl
  generalize hloc : ([] : List Loc) = locs at hw ⊢
  have hinX12 : ∀ w ∈ u_ws RX12 TX12 42, w ∈ (wu yX12_walkerOf cX12_walkerOf 3 (some .int)) := fun _ h => List.mem_cons_of_mem _ (up_71 h)
  have hM : TT (fun n => m_X12_walkerOf n 0 0 3 (sL w0)) (fun n => m_X12_walkerOf n 0 0 3 (sL w0)) := TT.rf
  refine lv_aload_n hx hb dX12_walkerOf_0 rfl (lv_at hl 0 rfl) ?_
  refine tk_getA hC hK hw hT hinX12 kM_at0 (by decide) rfl 26 (by decide) (List.mem_cons_of_mem _ uw_7_1) rfl rfl dX12_walkerOf_1 ?_
  refine lv_sipush (v := 216) hx hb dX12_walkerOf_4 (by decide) ?_
  refine lv_bipush (v := 9) hx hb dX12_walkerOf_7 (by decide) ?_
  refine lv_iload_n hx hb dX12_walkerOf_9 rfl (lv_at hl 1 rfl) ?_
  refine lv_imul hx hb dX12_walkerOf_10 ?_
  refine wk_top 0 (by decide) ?_
  replace hM := hM.lt (v := 0) (by decide)
  refine lv_iadd hx hb dX12_walkerOf_11 ?_
  refine wk_top 216 (by decide) ?_
  replace hM := hM.lt (v := 216) (by decide)
  refine lv_iload_n hx hb dX12_walkerOf_12 rfl (lv_at hl 2 rfl) ?_
  refine lv_iadd hx hb dX12_walkerOf_13 ?_
  refine wk_top 219 (by decide) ?_
  replace hM := hM.lt (v := 219) (by decide)
  refine tk_ialdR hC hK hw hT kM_at12 rfl (by decide) (by decide) dX12_walkerOf_14 (fun x1 c2 Ex1 => ?_)
  have hox1 := c2
  replace hM := hM.rd (sL_at (kM_lt kM_at12) hox1)
  have bx1 := tk_rgI rfl 219 1 1 (-1) 5 (by decide +kernel) ⟨0, by decide, by decide⟩ Ex1
  have c2 : gi w0 12 219 = x1 := c2
  exact tk_iret hC hr hlocks hK ⟨rfl, hM.ret rfl, ⟨(show (-1) ≤ x1.toInt by first | with_reducible assumption | omega), (show x1.toInt ≤ 5 by first | with_reducible assumption | omega), c2⟩⟩ hw dX12_walkerOf_15
abbrev Py_X12_walkerOf_7 (ad : Nat → Nat) (cy : Nat → ClassId) (B : Int) (qr : Nat) (s1 : Int)  (w0 : va_W) : Int32 → va_W → Prop := fun r u => w0 = u ∧ Ev (fun n => m_X12_walkerOf n 0 0 5 (sL w0)) (r.toInt, sL w0) ∧ ((gi u 12 221 = r))
set_option maxHeartbeats 4000000 in
set_option maxRecDepth 100000 in
theorem ky_X12_walkerOf_7 (l : Launch) (adK adV : Nat → Nat) (dC : Nat → ClassId) (dI : Nat → Nat → Nat) (cy : Nat → ClassId) (ad : Nat → Nat) (B : Int) (hB0 : 100000 ≤ B) (hB1 : B ≤ 1073741824) (qr : Nat) (s1 : Int)   (w0 : va_W) (sz : Nat) (hT : TW ksM ad cy B qr 12 w0)  : Met l yX12_walkerOf (wu yX12_walkerOf cX12_walkerOf 3 (some .int)) ({ frames := 1, cells := 0, slots := 0, locals := 12 }) (va_Pc [.ref (ad 0), .int 0, .int 5] (wpreS adK adV dC dI cy sz w0)) (va_Qi (Py_X12_walkerOf_7 ad cy B qr s1  w0) (fun u : va_W => wpost dC dI cy (va_A w0 sz) u) (va_A w0 sz)) 0 0 (va_A w0 sz) := by
  refine Met.ofW (cc := cX12_walkerOf) (maxL := 3) (ret := (some .int)) (by decide) rfl ?_
  intro p e s m args below meth c s₁ Bk hml hv
  obtain ⟨rfl, ⟨hsz, hP, hK, hD0⟩, hE, hSR⟩ := hv
  have hx := Bk.exec
  have hb := Bk.bytes
  have hr := Bk.returns
  have hlocks := Bk.notSynchronized
  have hC : CallFix p m c cX12_walkerOf 3 s _ (wu yX12_walkerOf cX12_walkerOf 3 (some .int)) RX12 := ⟨hx, hb, hml, findClass_of_methodNamed Bk.named, atoms_spec (ws := (wu yX12_walkerOf cX12_walkerOf 3 (some .int))) Bk.pre⟩
  subst hsz
  have hD := hD0.self (sz := s.heap.size)
  generalize hAe : va_A w0 s.heap.size = A at hD hE ⊢
  have hA : ∀ q : Nat, s.heap.size ≤ q → A q := fun q h => by rw [← hAe]; exact Or.inr h
  have hw : Wd dC dI A s.heap s.heap [] w0 := ⟨hP, hD, va_S.rf⟩
  have hF : FE ksM ([] : List (Nat × Nat × Nat)) w0 w0 := FE.rf
  have hl := lv_entry ([.ref (ad 0), .int 0, .int 5]) (n := 3) (Nat.le_of_ble_eq_true rfl)
  rw [lg_entry_eq]
  generalize (lg_sl ([.ref (ad 0), .int 0, .int 5]) ++ List.replicate (3 - (lg_sl ([.ref (ad 0), .int 0, .int 5])).length) Slot.unset).toArray = ls at hl ⊢
  have hl : lv_has ls 3 [(0, .ref (ad 0)), (1, .int 0), (2, .int 5)] := hl
  generalize hloc : ([] : List Loc) = locs at hw ⊢
  have hinX12 : ∀ w ∈ u_ws RX12 TX12 42, w ∈ (wu yX12_walkerOf cX12_walkerOf 3 (some .int)) := fun _ h => List.mem_cons_of_mem _ (up_71 h)
  have hM : TT (fun n => m_X12_walkerOf n 0 0 5 (sL w0)) (fun n => m_X12_walkerOf n 0 0 5 (sL w0)) := TT.rf
  refine lv_aload_n hx hb dX12_walkerOf_0 rfl (lv_at hl 0 rfl) ?_
  refine tk_getA hC hK hw hT hinX12 kM_at0 (by decide) rfl 26 (by decide) (List.mem_cons_of_mem _ uw_7_1) rfl rfl dX12_walkerOf_1 ?_
  refine lv_sipush (v := 216) hx hb dX12_walkerOf_4 (by decide) ?_
  refine lv_bipush (v := 9) hx hb dX12_walkerOf_7 (by decide) ?_
  refine lv_iload_n hx hb dX12_walkerOf_9 rfl (lv_at hl 1 rfl) ?_
  refine lv_imul hx hb dX12_walkerOf_10 ?_
  refine wk_top 0 (by decide) ?_
  replace hM := hM.lt (v := 0) (by decide)
  refine lv_iadd hx hb dX12_walkerOf_11 ?_
  refine wk_top 216 (by decide) ?_
  replace hM := hM.lt (v := 216) (by decide)
  refine lv_iload_n hx hb dX12_walkerOf_12 rfl (lv_at hl 2 rfl) ?_
  refine lv_iadd hx hb dX12_walkerOf_13 ?_
  refine wk_top 221 (by decide) ?_
  replace hM := hM.lt (v := 221) (by decide)
  refine tk_ialdR hC hK hw hT kM_at12 rfl (by decide) (by decide) dX12_walkerOf_14 (fun x1 c2 Ex1 => ?_)
  have hox1 := c2
  replace hM := hM.rd (sL_at (kM_lt kM_at12) hox1)
  have c2 : gi w0 12 221 = x1 := c2
  exact tk_iret hC hr hlocks hK ⟨rfl, hM.ret rfl, c2⟩ hw dX12_walkerOf_15
abbrev Py_X12_walkerOf_8 (ad : Nat → Nat) (cy : Nat → ClassId) (B : Int) (qr : Nat) (s1 : Int)  (w0 : va_W) : Int32 → va_W → Prop := fun r u => w0 = u ∧ Ev (fun n => m_X12_walkerOf n 0 0 6 (sL w0)) (r.toInt, sL w0) ∧ ((gi u 12 222 = r))
set_option maxHeartbeats 4000000 in
set_option maxRecDepth 100000 in
theorem ky_X12_walkerOf_8 (l : Launch) (adK adV : Nat → Nat) (dC : Nat → ClassId) (dI : Nat → Nat → Nat) (cy : Nat → ClassId) (ad : Nat → Nat) (B : Int) (hB0 : 100000 ≤ B) (hB1 : B ≤ 1073741824) (qr : Nat) (s1 : Int)   (w0 : va_W) (sz : Nat) (hT : TW ksM ad cy B qr 12 w0)  : Met l yX12_walkerOf (wu yX12_walkerOf cX12_walkerOf 3 (some .int)) ({ frames := 1, cells := 0, slots := 0, locals := 12 }) (va_Pc [.ref (ad 0), .int 0, .int 6] (wpreS adK adV dC dI cy sz w0)) (va_Qi (Py_X12_walkerOf_8 ad cy B qr s1  w0) (fun u : va_W => wpost dC dI cy (va_A w0 sz) u) (va_A w0 sz)) 0 0 (va_A w0 sz) := by
  refine Met.ofW (cc := cX12_walkerOf) (maxL := 3) (ret := (some .int)) (by decide) rfl ?_
  intro p e s m args below meth c s₁ Bk hml hv
  obtain ⟨rfl, ⟨hsz, hP, hK, hD0⟩, hE, hSR⟩ := hv
  have hx := Bk.exec
  have hb := Bk.bytes
  have hr := Bk.returns
  have hlocks := Bk.notSynchronized
  have hC : CallFix p m c cX12_walkerOf 3 s _ (wu yX12_walkerOf cX12_walkerOf 3 (some .int)) RX12 := ⟨hx, hb, hml, findClass_of_methodNamed Bk.named, atoms_spec (ws := (wu yX12_walkerOf cX12_walkerOf 3 (some .int))) Bk.pre⟩
  subst hsz
  have hD := hD0.self (sz := s.heap.size)
  generalize hAe : va_A w0 s.heap.size = A at hD hE ⊢
  have hA : ∀ q : Nat, s.heap.size ≤ q → A q := fun q h => by rw [← hAe]; exact Or.inr h
  have hw : Wd dC dI A s.heap s.heap [] w0 := ⟨hP, hD, va_S.rf⟩
  have hF : FE ksM ([] : List (Nat × Nat × Nat)) w0 w0 := FE.rf
  have hl := lv_entry ([.ref (ad 0), .int 0, .int 6]) (n := 3) (Nat.le_of_ble_eq_true rfl)
  rw [lg_entry_eq]
  generalize (lg_sl ([.ref (ad 0), .int 0, .int 6]) ++ List.replicate (3 - (lg_sl ([.ref (ad 0), .int 0, .int 6])).length) Slot.unset).toArray = ls at hl ⊢
  have hl : lv_has ls 3 [(0, .ref (ad 0)), (1, .int 0), (2, .int 6)] := hl
  generalize hloc : ([] : List Loc) = locs at hw ⊢
  have hinX12 : ∀ w ∈ u_ws RX12 TX12 42, w ∈ (wu yX12_walkerOf cX12_walkerOf 3 (some .int)) := fun _ h => List.mem_cons_of_mem _ (up_71 h)
  have hM : TT (fun n => m_X12_walkerOf n 0 0 6 (sL w0)) (fun n => m_X12_walkerOf n 0 0 6 (sL w0)) := TT.rf
  refine lv_aload_n hx hb dX12_walkerOf_0 rfl (lv_at hl 0 rfl) ?_
  refine tk_getA hC hK hw hT hinX12 kM_at0 (by decide) rfl 26 (by decide) (List.mem_cons_of_mem _ uw_7_1) rfl rfl dX12_walkerOf_1 ?_
  refine lv_sipush (v := 216) hx hb dX12_walkerOf_4 (by decide) ?_
  refine lv_bipush (v := 9) hx hb dX12_walkerOf_7 (by decide) ?_
  refine lv_iload_n hx hb dX12_walkerOf_9 rfl (lv_at hl 1 rfl) ?_
  refine lv_imul hx hb dX12_walkerOf_10 ?_
  refine wk_top 0 (by decide) ?_
  replace hM := hM.lt (v := 0) (by decide)
  refine lv_iadd hx hb dX12_walkerOf_11 ?_
  refine wk_top 216 (by decide) ?_
  replace hM := hM.lt (v := 216) (by decide)
  refine lv_iload_n hx hb dX12_walkerOf_12 rfl (lv_at hl 2 rfl) ?_
  refine lv_iadd hx hb dX12_walkerOf_13 ?_
  refine wk_top 222 (by decide) ?_
  replace hM := hM.lt (v := 222) (by decide)
  refine tk_ialdR hC hK hw hT kM_at12 rfl (by decide) (by decide) dX12_walkerOf_14 (fun x1 c2 Ex1 => ?_)
  have hox1 := c2
  replace hM := hM.rd (sL_at (kM_lt kM_at12) hox1)
  have c2 : gi w0 12 222 = x1 := c2
  exact tk_iret hC hr hlocks hK ⟨rfl, hM.ret rfl, c2⟩ hw dX12_walkerOf_15
abbrev Py_X12_walkerOf_9 (ad : Nat → Nat) (cy : Nat → ClassId) (B : Int) (qr : Nat) (s1 : Int)  (w0 : va_W) : Int32 → va_W → Prop := fun r u => w0 = u ∧ Ev (fun n => m_X12_walkerOf n 0 0 7 (sL w0)) (r.toInt, sL w0) ∧ (((-1) ≤ r.toInt ∧ r.toInt ≤ 9 ∧ gi u 12 223 = r))
set_option maxHeartbeats 4000000 in
set_option maxRecDepth 100000 in
theorem ky_X12_walkerOf_9 (l : Launch) (adK adV : Nat → Nat) (dC : Nat → ClassId) (dI : Nat → Nat → Nat) (cy : Nat → ClassId) (ad : Nat → Nat) (B : Int) (hB0 : 100000 ≤ B) (hB1 : B ≤ 1073741824) (qr : Nat) (s1 : Int)   (w0 : va_W) (sz : Nat) (hT : TW ksM ad cy B qr 12 w0)  : Met l yX12_walkerOf (wu yX12_walkerOf cX12_walkerOf 3 (some .int)) ({ frames := 1, cells := 0, slots := 0, locals := 12 }) (va_Pc [.ref (ad 0), .int 0, .int 7] (wpreS adK adV dC dI cy sz w0)) (va_Qi (Py_X12_walkerOf_9 ad cy B qr s1  w0) (fun u : va_W => wpost dC dI cy (va_A w0 sz) u) (va_A w0 sz)) 0 0 (va_A w0 sz) := by
  refine Met.ofW (cc := cX12_walkerOf) (maxL := 3) (ret := (some .int)) (by decide) rfl ?_
  intro p e s m args below meth c s₁ Bk hml hv
  obtain ⟨rfl, ⟨hsz, hP, hK, hD0⟩, hE, hSR⟩ := hv
  have hx := Bk.exec
  have hb := Bk.bytes
  have hr := Bk.returns
  have hlocks := Bk.notSynchronized
  have hC : CallFix p m c cX12_walkerOf 3 s _ (wu yX12_walkerOf cX12_walkerOf 3 (some .int)) RX12 := ⟨hx, hb, hml, findClass_of_methodNamed Bk.named, atoms_spec (ws := (wu yX12_walkerOf cX12_walkerOf 3 (some .int))) Bk.pre⟩
  subst hsz
  have hD := hD0.self (sz := s.heap.size)
  generalize hAe : va_A w0 s.heap.size = A at hD hE ⊢
  have hA : ∀ q : Nat, s.heap.size ≤ q → A q := fun q h => by rw [← hAe]; exact Or.inr h
  have hw : Wd dC dI A s.heap s.heap [] w0 := ⟨hP, hD, va_S.rf⟩
  have hF : FE ksM ([] : List (Nat × Nat × Nat)) w0 w0 := FE.rf
  have hl := lv_entry ([.ref (ad 0), .int 0, .int 7]) (n := 3) (Nat.le_of_ble_eq_true rfl)
  rw [lg_entry_eq]
  generalize (lg_sl ([.ref (ad 0), .int 0, .int 7]) ++ List.replicate (3 - (lg_sl ([.ref (ad 0), .int 0, .int 7])).length) Slot.unset).toArray = ls at hl ⊢
  have hl : lv_has ls 3 [(0, .ref (ad 0)), (1, .int 0), (2, .int 7)] := hl
  generalize hloc : ([] : List Loc) = locs at hw ⊢
  have hinX12 : ∀ w ∈ u_ws RX12 TX12 42, w ∈ (wu yX12_walkerOf cX12_walkerOf 3 (some .int)) := fun _ h => List.mem_cons_of_mem _ (up_71 h)
  have hM : TT (fun n => m_X12_walkerOf n 0 0 7 (sL w0)) (fun n => m_X12_walkerOf n 0 0 7 (sL w0)) := TT.rf
  refine lv_aload_n hx hb dX12_walkerOf_0 rfl (lv_at hl 0 rfl) ?_
  refine tk_getA hC hK hw hT hinX12 kM_at0 (by decide) rfl 26 (by decide) (List.mem_cons_of_mem _ uw_7_1) rfl rfl dX12_walkerOf_1 ?_
  refine lv_sipush (v := 216) hx hb dX12_walkerOf_4 (by decide) ?_
  refine lv_bipush (v := 9) hx hb dX12_walkerOf_7 (by decide) ?_
  refine lv_iload_n hx hb dX12_walkerOf_9 rfl (lv_at hl 1 rfl) ?_
  refine lv_imul hx hb dX12_walkerOf_10 ?_
  refine wk_top 0 (by decide) ?_
  replace hM := hM.lt (v := 0) (by decide)
  refine lv_iadd hx hb dX12_walkerOf_11 ?_
  refine wk_top 216 (by decide) ?_
  replace hM := hM.lt (v := 216) (by decide)
  refine lv_iload_n hx hb dX12_walkerOf_12 rfl (lv_at hl 2 rfl) ?_
  refine lv_iadd hx hb dX12_walkerOf_13 ?_
  refine wk_top 223 (by decide) ?_
  replace hM := hM.lt (v := 223) (by decide)
  refine tk_ialdR hC hK hw hT kM_at12 rfl (by decide) (by decide) dX12_walkerOf_14 (fun x1 c2 Ex1 => ?_)
  have hox1 := c2
  replace hM := hM.rd (sL_at (kM_lt kM_at12) hox1)
  have bx1 := tk_rgI rfl 223 1 1 (-1) 9 (by decide +kernel) ⟨0, by decide, by decide⟩ Ex1
  have c2 : gi w0 12 223 = x1 := c2
  exact tk_iret hC hr hlocks hK ⟨rfl, hM.ret rfl, ⟨(show (-1) ≤ x1.toInt by first | with_reducible assumption | omega), (show x1.toInt ≤ 9 by first | with_reducible assumption | omega), c2⟩⟩ hw dX12_walkerOf_15
abbrev Py_X12_words_1 (ad : Nat → Nat) (cy : Nat → ClassId) (B : Int) (qr : Nat) (s1 : Int)  (w0 : va_W) : va_W → Prop := fun u => TW ksM ad cy B qr 12 u ∧ FE ksM [(70, 0, 10)] w0 u ∧ Ev (fun n => m_X12_words n 0 0 (sL w0)) (0, sL u) ∧ (((∃ y : Int32, gi u 0 30 = y ∧ 0 ≤ y.toInt ∧ y.toInt ≤ 1) ∧ (∃ y : Int32, gi u 12 223 = y ∧ (-1) ≤ y.toInt ∧ y.toInt ≤ 9)))
set_option maxHeartbeats 4000000 in
set_option maxRecDepth 100000 in
theorem ky_X12_words_1 (l : Launch) (adK adV : Nat → Nat) (dC : Nat → ClassId) (dI : Nat → Nat → Nat) (cy : Nat → ClassId) (ad : Nat → Nat) (B : Int) (hB0 : 100000 ≤ B) (hB1 : B ≤ 1073741824) (qr : Nat) (s1 : Int)   (w0 : va_W) (sz : Nat) (hT : TW ksM ad cy B qr 12 w0)  : Met l yX12_words (wu yX12_words cX12_words 4 none) ({ frames := 6, cells := 0, slots := 0, locals := 124 }) (va_Pc [.ref (ad 0), .int 0] (wpreS adK adV dC dI cy sz w0)) (va_Qv (Py_X12_words_1 ad cy B qr s1  w0) (fun u : va_W => wpost dC dI cy (va_A w0 sz) u) (va_A w0 sz)) 0 0 (va_A w0 sz) := by
  refine Met.ofW (cc := cX12_words) (maxL := 4) (ret := none) (by decide) rfl ?_
  intro p e s m args below meth c s₁ Bk hml hv
  obtain ⟨rfl, ⟨hsz, hP, hK, hD0⟩, hE, hSR⟩ := hv
  have hx := Bk.exec
  have hb := Bk.bytes
  have hr := Bk.returns
  have hlocks := Bk.notSynchronized
  have hC : CallFix p m c cX12_words 4 s _ (wu yX12_words cX12_words 4 none) RX12 := ⟨hx, hb, hml, findClass_of_methodNamed Bk.named, atoms_spec (ws := (wu yX12_words cX12_words 4 none)) Bk.pre⟩
  subst hsz
  have hD := hD0.self (sz := s.heap.size)
  generalize hAe : va_A w0 s.heap.size = A at hD hE ⊢
  have hA : ∀ q : Nat, s.heap.size ≤ q → A q := fun q h => by rw [← hAe]; exact Or.inr h
  have hw : Wd dC dI A s.heap s.heap [] w0 := ⟨hP, hD, va_S.rf⟩
  have hF : FE ksM [(70, 0, 10)] w0 w0 := FE.rf
  have hl := lv_entry ([.ref (ad 0), .int 0]) (n := 4) (Nat.le_of_ble_eq_true rfl)
  rw [lg_entry_eq]
  generalize (lg_sl ([.ref (ad 0), .int 0]) ++ List.replicate (4 - (lg_sl ([.ref (ad 0), .int 0])).length) Slot.unset).toArray = ls at hl ⊢
  have hl : lv_has ls 4 [(0, .ref (ad 0)), (1, .int 0)] := hl
  generalize hloc : ([] : List Loc) = locs at hw ⊢
  have hinX12 : ∀ w ∈ u_ws RX12 TX12 42, w ∈ (wu yX12_words cX12_words 4 none) := fun _ h => List.mem_cons_of_mem _ (up_71 h)
  have hM : TT (fun n => m_X12_words n 0 0 (sL w0)) (fun n => m_X12_words n 0 0 (sL w0)) := TT.rf
  refine lv_aload_n hx hb dX12_words_0 rfl (lv_at hl 0 rfl) ?_
  refine lv_iload_n hx hb dX12_words_1 rfl (lv_at hl 1 rfl) ?_
  refine lv_iconst (v := 4) hx hb dX12_words_2 (by decide) ?_
  refine tk_Vi hC hK hw hT hA hE hSR kM_at0 (by decide) rfl (ky_X12_walkerOf_3 l adK adV dC dI cy ad B hB0 (Int.le_trans hB1 (by decide)) qr s1    w0 s.heap.size hT ) (cwV 2 hC.2.2.2.2 uV_RX12_372 rfl rfl rfl (by decide +kernel) ⟨Nat.le_of_ble_eq_true rfl, Nat.le_of_ble_eq_true rfl⟩) rfl hl.1 rfl (Nat.le_of_ble_eq_true rfl) dX12_words_3 (fun r1 w3 H locs hp2 hw => ?_)
  obtain ⟨rfl, hv9, hg8⟩ := hp2
  obtain ⟨g5, g6, c7⟩ := hg8
  replace hM := hM.call hv9 rfl
  refine lv_istore_n (lv' := [(2, .int r1), (0, .ref (ad 0)), (1, .int 0)]) hx hb dX12_words_6 rfl hl (by decide) rfl (fun ls hl => ?_)
  refine lv_aload_n hx hb dX12_words_7 rfl (lv_at hl 1 rfl) ?_
  refine lv_iload_n hx hb dX12_words_8 rfl (lv_at hl 2 rfl) ?_
  refine lv_iconst (v := 0) hx hb dX12_words_9 (by decide) ?_
  refine tk_Vi hC hK hw hT hA hE hSR kM_at0 (by decide) rfl (ky_X12_walkerOf_1 l adK adV dC dI cy ad B hB0 (Int.le_trans hB1 (by decide)) qr s1    w0 H.size hT ) (cwV 2 hC.2.2.2.2 uV_RX12_372 rfl rfl rfl (by decide +kernel) ⟨Nat.le_of_ble_eq_true rfl, Nat.le_of_ble_eq_true rfl⟩) rfl hl.1 rfl (Nat.le_of_ble_eq_true rfl) dX12_words_10 (fun r10 w12 H locs hp11 hw => ?_)
  obtain ⟨rfl, hv18, hg17⟩ := hp11
  obtain ⟨g14, g15, c16⟩ := hg17
  replace hM := hM.call hv18 rfl
  refine lv_istore_n (lv' := [(3, .int r10), (2, .int r1), (0, .ref (ad 0)), (1, .int 0)]) hx hb dX12_words_13 rfl hl (by decide) rfl (fun ls hl => ?_)
  refine lv_aload_n hx hb dX12_words_14 rfl (lv_at hl 2 rfl) ?_
  refine tk_getA hC hK hw hT hinX12 kM_at0 (by decide) rfl 25 (by decide) (List.mem_cons_of_mem _ uw_7_0) rfl rfl dX12_words_15 ?_
  refine lv_iconst (v := 0) hx hb dX12_words_18 (by decide) ?_
  refine lv_iload_n hx hb dX12_words_19 rfl (lv_at hl 1 rfl) ?_
  refine lv_bipush (v := 24) hx hb dX12_words_20 (by decide) ?_
  refine lv_irem hx hb dX12_words_22 (by decide) ?_
  refine lv_topi (fun x19 ex19 => ?_)
  have ezx19 := ex19
  have ex19 : x19.toInt = r1.toInt % (24 : Int) := by rw [ex19]; exact wk_rem (show 0 ≤ r1.toInt by first | with_reducible assumption | omega) (show 0 < (24 : Int) by decide)
  replace hM := hM.lt ex19.symm
  refine lv_i2l hx hb dX12_words_23 rfl ?_
  refine lv_topl (fun x20 ex20 => ?_)
  have ex20 : x20.toInt = x19.toInt := by rw [ex20]; exact wk_i2l _
  have bx20 := wk_i32 x19
  replace hM := hM.lt ex20.symm
  have hTq := hT
  refine tk_lastv hC hK hw hT kM_at11 (by decide) rfl (by decide) (by decide) dX12_words_24 (fun H locs w21 hw hT k23 c22 => ?_)
  replace hM := hM.wr (sL_upk hTq hT kM_at11 (kM_lt kM_at11) rfl k23 c22 rfl)
  have hF := hF.put kM_at11 (inE_of (a := 0) (b := 10) (by decide) (by decide) (by decide)) k23
  have c24 := k23.gi (Or.inl (tk_ne kM_at12 kM_at11 (by decide))) c16
  refine lv_aload_n hx hb dX12_words_25 rfl (lv_at hl 2 rfl) ?_
  refine tk_getA hC hK hw hT hinX12 kM_at0 (by decide) rfl 25 (by decide) (List.mem_cons_of_mem _ uw_7_0) rfl rfl dX12_words_26 ?_
  refine lv_iconst (v := 1) hx hb dX12_words_29 (by decide) ?_
  refine lv_iload_n hx hb dX12_words_30 rfl (lv_at hl 1 rfl) ?_
  refine lv_bipush (v := 24) hx hb dX12_words_31 (by decide) ?_
  refine lv_idiv hx hb dX12_words_33 (by decide) ?_
  refine lv_topi (fun x25 ex25 => ?_)
  have ezx25 := ex25
  have ex25 : x25.toInt = r1.toInt / (24 : Int) := by rw [ex25]; exact wk_div (show 0 ≤ r1.toInt by first | with_reducible assumption | omega) (show 0 < (24 : Int) by decide)
  replace hM := hM.lt ex25.symm
  refine lv_bipush (v := 7) hx hb dX12_words_34 (by decide) ?_
  refine lv_irem hx hb dX12_words_36 (by decide) ?_
  refine lv_topi (fun x26 ex26 => ?_)
  have ezx26 := ex26
  have ex26 : x26.toInt = x25.toInt % (7 : Int) := by rw [ex26]; exact wk_rem (show 0 ≤ x25.toInt by first | with_reducible assumption | omega) (show 0 < (7 : Int) by decide)
  replace hM := hM.lt ex26.symm
  refine lv_i2l hx hb dX12_words_37 rfl ?_
  refine lv_topl (fun x27 ex27 => ?_)
  have ex27 : x27.toInt = x26.toInt := by rw [ex27]; exact wk_i2l _
  have bx27 := wk_i32 x26
  replace hM := hM.lt ex27.symm
  have hTq := hT
  refine tk_lastv hC hK hw hT kM_at11 (by decide) rfl (by decide) (by decide) dX12_words_38 (fun H locs w28 hw hT k30 c29 => ?_)
  replace hM := hM.wr (sL_upk hTq hT kM_at11 (kM_lt kM_at11) rfl k30 c29 rfl)
  have hF := hF.put kM_at11 (inE_of (a := 0) (b := 10) (by decide) (by decide) (by decide)) k30
  have c31 := k30.gi (Or.inl (tk_ne kM_at12 kM_at11 (by decide))) c24
  refine lv_aload_n hx hb dX12_words_39 rfl (lv_at hl 2 rfl) ?_
  refine tk_getA hC hK hw hT hinX12 kM_at0 (by decide) rfl 25 (by decide) (List.mem_cons_of_mem _ uw_7_0) rfl rfl dX12_words_40 ?_
  refine lv_iconst (v := 2) hx hb dX12_words_43 (by decide) ?_
  refine lv_aload_n hx hb dX12_words_44 rfl (lv_at hl 2 rfl) ?_
  refine tk_geti hC hK hw hT hinX12 kM_at0 (by decide) rfl 30 (by decide) (List.mem_cons_of_mem _ uw_47_4) rfl rfl dX12_words_45 (fun x32 c33 rx32 tx32 => ?_)
  replace hM := hM.rd (sL_at (kM_lt kM_at0) c33)
  refine lv_if_eq (tgt := 55) hx hb dX12_words_48 (by decide) (fun c34 => ?_) (fun c34 => ?_)
  · have c34 : x32.toInt = (0 : Int) := wk_eq.mp c34
    replace hM := hM.pos c34
    refine lv_iload_n hx hb dX12_words_55 rfl (lv_at hl 1 rfl) ?_
    refine lv_bipush (v := 24) hx hb dX12_words_56 (by decide) ?_
    refine lv_idiv hx hb dX12_words_58 (by decide) ?_
    refine lv_topi (fun x35 ex35 => ?_)
    have ezx35 := ex35
    have ex35 : x35.toInt = r1.toInt / (24 : Int) := by rw [ex35]; exact wk_div (show 0 ≤ r1.toInt by first | with_reducible assumption | omega) (show 0 < (24 : Int) by decide)
    replace hM := hM.lt ex35.symm
    refine lv_sipush (v := 360) hx hb dX12_words_59 (by decide) ?_
    refine lv_irem hx hb dX12_words_62 (by decide) ?_
    refine lv_topi (fun x36 ex36 => ?_)
    have ezx36 := ex36
    have ex36 : x36.toInt = x35.toInt % (360 : Int) := by rw [ex36]; exact wk_rem (show 0 ≤ x35.toInt by first | with_reducible assumption | omega) (show 0 < (360 : Int) by decide)
    replace hM := hM.lt ex36.symm
    refine lv_i2l hx hb dX12_words_63 rfl ?_
    refine lv_topl (fun x37 ex37 => ?_)
    have ex37 : x37.toInt = x36.toInt := by rw [ex37]; exact wk_i2l _
    have bx37 := wk_i32 x36
    replace hM := hM.lt ex37.symm
    have hTq := hT
    refine tk_lastv hC hK hw hT kM_at11 (by decide) rfl (by decide) (by decide) dX12_words_64 (fun H locs w38 hw hT k40 c39 => ?_)
    replace hM := hM.wr (sL_upk hTq hT kM_at11 (kM_lt kM_at11) rfl k40 c39 rfl)
    have hF := hF.put kM_at11 (inE_of (a := 0) (b := 10) (by decide) (by decide) (by decide)) k40
    have c41 := k40.gi (Or.inl (tk_ne kM_at12 kM_at11 (by decide))) c31
    have c42 := k40.gi (Or.inl (tk_ne kM_at0 kM_at11 (by decide))) c33
    refine lv_aload_n hx hb dX12_words_65 rfl (lv_at hl 2 rfl) ?_
    refine tk_getA hC hK hw hT hinX12 kM_at0 (by decide) rfl 25 (by decide) (List.mem_cons_of_mem _ uw_7_0) rfl rfl dX12_words_66 ?_
    refine lv_iconst (v := 3) hx hb dX12_words_69 (by decide) ?_
    refine lv_iload_n hx hb dX12_words_70 rfl (lv_at hl 0 rfl) ?_
    refine lv_i2l hx hb dX12_words_71 rfl ?_
    refine lv_topl (fun x43 ex43 => ?_)
    have ex43 : x43.toInt = r10.toInt := by rw [ex43]; exact wk_i2l _
    have bx43 := wk_i32 r10
    replace hM := hM.lt ex43.symm
    have hTq := hT
    refine tk_lastv hC hK hw hT kM_at11 (by decide) rfl (by decide) (by decide) dX12_words_72 (fun H locs w44 hw hT k46 c45 => ?_)
    replace hM := hM.wr (sL_upk hTq hT kM_at11 (kM_lt kM_at11) rfl k46 c45 rfl)
    have hF := hF.put kM_at11 (inE_of (a := 0) (b := 10) (by decide) (by decide) (by decide)) k46
    have c47 := k46.gi (Or.inl (tk_ne kM_at12 kM_at11 (by decide))) c41
    have c48 := k46.gi (Or.inl (tk_ne kM_at0 kM_at11 (by decide))) c42
    refine lv_aload_n hx hb dX12_words_73 rfl (lv_at hl 2 rfl) ?_
    refine tk_getA hC hK hw hT hinX12 kM_at0 (by decide) rfl 25 (by decide) (List.mem_cons_of_mem _ uw_7_0) rfl rfl dX12_words_74 ?_
    refine lv_iconst (v := 4) hx hb dX12_words_77 (by decide) ?_
    refine lv_aload_n hx hb dX12_words_78 rfl (lv_at hl 2 rfl) ?_
    refine lv_iload_n hx hb dX12_words_79 rfl (lv_at hl 3 rfl) ?_
    refine lv_iconst (v := 1) hx hb dX12_words_80 (by decide) ?_
    refine tk_Vi hC hK hw hT hA hE hSR kM_at0 (by decide) rfl (ky_X12_walkerOf_2 l adK adV dC dI cy ad B hB0 (Int.le_trans hB1 (by decide)) qr s1    w44 H.size hT ) (cwV 2 hC.2.2.2.2 uV_RX12_372 rfl rfl rfl (by decide +kernel) ⟨Nat.le_of_ble_eq_true rfl, Nat.le_of_ble_eq_true rfl⟩) rfl hl.1 rfl (Nat.le_of_ble_eq_true rfl) dX12_words_81 (fun r49 w51 H locs hp50 hw => ?_)
    obtain ⟨rfl, hv57, hg56⟩ := hp50
    obtain ⟨g53, g54, c55⟩ := hg56
    replace hM := hM.call hv57 rfl
    refine lv_i2l hx hb dX12_words_84 rfl ?_
    refine lv_topl (fun x58 ex58 => ?_)
    have ex58 : x58.toInt = r49.toInt := by rw [ex58]; exact wk_i2l _
    have bx58 := wk_i32 r49
    replace hM := hM.lt ex58.symm
    have hTq := hT
    refine tk_lastv hC hK hw hT kM_at11 (by decide) rfl (by decide) (by decide) dX12_words_85 (fun H locs w59 hw hT k61 c60 => ?_)
    replace hM := hM.wr (sL_upk hTq hT kM_at11 (kM_lt kM_at11) rfl k61 c60 rfl)
    have hF := hF.put kM_at11 (inE_of (a := 0) (b := 10) (by decide) (by decide) (by decide)) k61
    have c62 := k61.gi (Or.inl (tk_ne kM_at12 kM_at11 (by decide))) c47
    have c63 := k61.gi (Or.inl (tk_ne kM_at0 kM_at11 (by decide))) c48
    have c64 := k61.gi (Or.inl (tk_ne kM_at12 kM_at11 (by decide))) c55
    refine lv_aload_n hx hb dX12_words_86 rfl (lv_at hl 2 rfl) ?_
    refine tk_getA hC hK hw hT hinX12 kM_at0 (by decide) rfl 25 (by decide) (List.mem_cons_of_mem _ uw_7_0) rfl rfl dX12_words_87 ?_
    refine lv_iconst (v := 5) hx hb dX12_words_90 (by decide) ?_
    refine lv_aload_n hx hb dX12_words_91 rfl (lv_at hl 2 rfl) ?_
    refine lv_iload_n hx hb dX12_words_92 rfl (lv_at hl 3 rfl) ?_
    refine tk_Vi hC hK hw hT hA hE hSR kM_at0 (by decide) rfl (ky_X12_canGo_1 l adK adV dC dI cy ad B hB0 (Int.le_trans hB1 (by decide)) qr s1    w59 H.size hT ) (cwV 1 hC.2.2.2.2 uV_RX12_387 rfl rfl rfl (by decide +kernel) ⟨Nat.le_of_ble_eq_true rfl, Nat.le_of_ble_eq_true rfl⟩) rfl hl.1 rfl (Nat.le_of_ble_eq_true rfl) dX12_words_93 (fun r65 w67 H locs hp66 hw => ?_)
    obtain ⟨rfl, hv72, hg71⟩ := hp66
    rcases hg71 with rfl | ⟨rfl, ⟨x69, c70, rx69, tx69⟩⟩
    · replace hM := hM.call (r' := 0) hv72 (by decide)
      refine lv_if_eq (tgt := 103) hx hb dX12_words_96 (by decide) (fun _ => ?_) (fun c => absurd (by decide) c)
      replace hM := hM.pos (by decide)
      refine lv_lconst (v := 1) hx hb dX12_words_103 (by decide) ?_
      have hTq := hT
      refine tk_lastv hC hK hw hT kM_at11 (by decide) rfl (by decide) (by decide) dX12_words_104 (fun H locs w73 hw hT k75 c74 => ?_)
      replace hM := hM.wr (sL_upk hTq hT kM_at11 (kM_lt kM_at11) rfl k75 c74 (by decide))
      have hF := hF.put kM_at11 (inE_of (a := 0) (b := 10) (by decide) (by decide) (by decide)) k75
      have c76 := k75.gi (Or.inl (tk_ne kM_at12 kM_at11 (by decide))) c62
      have c77 := k75.gi (Or.inl (tk_ne kM_at0 kM_at11 (by decide))) c63
      have c78 := k75.gi (Or.inl (tk_ne kM_at12 kM_at11 (by decide))) c64
      refine lv_aload_n hx hb dX12_words_105 rfl (lv_at hl 2 rfl) ?_
      refine tk_getA hC hK hw hT hinX12 kM_at0 (by decide) rfl 25 (by decide) (List.mem_cons_of_mem _ uw_7_0) rfl rfl dX12_words_106 ?_
      refine lv_bipush (v := 6) hx hb dX12_words_109 (by decide) ?_
      refine lv_aload_n hx hb dX12_words_111 rfl (lv_at hl 2 rfl) ?_
      refine tk_getA hC hK hw hT hinX12 kM_at0 (by decide) rfl 29 (by decide) (List.mem_cons_of_mem _ uw_7_4) rfl rfl dX12_words_112 ?_
      refine lv_iload_n hx hb dX12_words_115 rfl (lv_at hl 0 rfl) ?_
      refine tk_iald hC hK hw hT kM_at14 rfl rfl (show 0 ≤ r10.toInt by first | with_reducible assumption | omega) (show r10.toInt < 10 by first | with_reducible assumption | omega) dX12_words_116 (fun x79 c80 rx79 tx79 => ?_)
      have hox79 := c80
      replace hM := hM.rd (sL_at (kM_lt kM_at14) hox79)
      have c80 : gi w73 14 (r10.toInt).toNat = x79 := (congrArg (gi w73 14) (congrArg Int.toNat (show r10.toInt = r10.toInt from rfl))).trans c80
      refine lv_ldcw (v := 100000000) hx hb hC.2.2.2.1 (hC.2.2.2.2 _ (List.mem_cons_of_mem _ uw_38_2)) dX12_words_117 ?_
      refine lv_icmp_ne (tgt := 127) hx hb dX12_words_120 (by decide) (fun c81 => ?_) (fun c81 => ?_)
      · have c81 : ¬ x79.toInt = (100000000 : Int) := wk_eqF c81
        replace hM := hM.pos c81
        refine lv_aload_n hx hb dX12_words_127 rfl (lv_at hl 2 rfl) ?_
        refine tk_getA hC hK hw hT hinX12 kM_at0 (by decide) rfl 29 (by decide) (List.mem_cons_of_mem _ uw_7_4) rfl rfl dX12_words_128 ?_
        refine lv_iload_n hx hb dX12_words_131 rfl (lv_at hl 0 rfl) ?_
        refine tk_iald hC hK hw hT kM_at14 rfl rfl (show 0 ≤ r10.toInt by first | with_reducible assumption | omega) (show r10.toInt < 10 by first | with_reducible assumption | omega) dX12_words_132 (fun x82 c83 rx82 tx82 => ?_)
        have hox82 := c83
        have c83 : gi w73 14 (r10.toInt).toNat = x82 := (congrArg (gi w73 14) (congrArg Int.toNat (show r10.toInt = r10.toInt from rfl))).trans c83
        refine wk_top x79 (c83.symm.trans c80) ?_
        replace hM := hM.rd ((sL_at (kM_lt kM_at14) hox82).trans (congrArg Int32.toInt (c83.symm.trans c80)))
        refine lv_i2l hx hb dX12_words_133 rfl ?_
        refine lv_topl (fun x84 ex84 => ?_)
        have ex84 : x84.toInt = x79.toInt := by rw [ex84]; exact wk_i2l _
        have bx84 := wk_i32 x79
        replace hM := hM.lt ex84.symm
        have hTq := hT
        refine tk_lastv hC hK hw hT kM_at11 (by decide) rfl (by decide) (by decide) dX12_words_134 (fun H locs w85 hw hT k87 c86 => ?_)
        replace hM := hM.wr (sL_upk hTq hT kM_at11 (kM_lt kM_at11) rfl k87 c86 rfl)
        have hF := hF.put kM_at11 (inE_of (a := 0) (b := 10) (by decide) (by decide) (by decide)) k87
        have c88 := k87.gi (Or.inl (tk_ne kM_at12 kM_at11 (by decide))) c76
        have c89 := k87.gi (Or.inl (tk_ne kM_at0 kM_at11 (by decide))) c77
        have c90 := k87.gi (Or.inl (tk_ne kM_at12 kM_at11 (by decide))) c78
        have c91 := k87.gi (Or.inl (tk_ne kM_at14 kM_at11 (by decide))) c80
        refine lv_aload_n hx hb dX12_words_135 rfl (lv_at hl 2 rfl) ?_
        refine tk_getA hC hK hw hT hinX12 kM_at0 (by decide) rfl 25 (by decide) (List.mem_cons_of_mem _ uw_7_0) rfl rfl dX12_words_136 ?_
        refine lv_bipush (v := 7) hx hb dX12_words_139 (by decide) ?_
        refine lv_aload_n hx hb dX12_words_141 rfl (lv_at hl 2 rfl) ?_
        refine tk_geti hC hK hw hT hinX12 kM_at0 (by decide) rfl 30 (by decide) (List.mem_cons_of_mem _ uw_47_4) rfl rfl dX12_words_142 (fun x92 c93 rx92 tx92 => ?_)
        refine wk_top x32 (c93.symm.trans c89) ?_
        replace hM := hM.rd (sL_at (kM_lt kM_at0) c89)
        refine lv_if_eq (tgt := 152) hx hb dX12_words_145 (by decide) (fun _ => ?_) (fun c => (c (wk_eq.mpr (show x32.toInt = (0 : Int) by first | exact Int.le_antisymm (by omega) (by omega) | omega))).elim)
        replace hM := hM.pos (by omega)
        refine lv_aload_n hx hb dX12_words_152 rfl (lv_at hl 2 rfl) ?_
        refine lv_iload_n hx hb dX12_words_153 rfl (lv_at hl 3 rfl) ?_
        refine lv_iconst (v := 5) hx hb dX12_words_154 (by decide) ?_
        refine tk_Vi hC hK hw hT hA hE hSR kM_at0 (by decide) rfl (ky_X12_walkerOf_7 l adK adV dC dI cy ad B hB0 (Int.le_trans hB1 (by decide)) qr s1    w85 H.size hT ) (cwV 2 hC.2.2.2.2 uV_RX12_372 rfl rfl rfl (by decide +kernel) ⟨Nat.le_of_ble_eq_true rfl, Nat.le_of_ble_eq_true rfl⟩) rfl hl.1 rfl (Nat.le_of_ble_eq_true rfl) dX12_words_155 (fun r94 w96 H locs hp95 hw => ?_)
        obtain ⟨rfl, hv100, hg99⟩ := hp95
        have c98 := hg99
        replace hM := hM.call hv100 rfl
        refine lv_i2l hx hb dX12_words_158 rfl ?_
        refine lv_topl (fun x101 ex101 => ?_)
        have ex101 : x101.toInt = r94.toInt := by rw [ex101]; exact wk_i2l _
        have bx101 := wk_i32 r94
        replace hM := hM.lt ex101.symm
        have hTq := hT
        refine tk_lastv hC hK hw hT kM_at11 (by decide) rfl (by decide) (by decide) dX12_words_159 (fun H locs w102 hw hT k104 c103 => ?_)
        replace hM := hM.wr (sL_upk hTq hT kM_at11 (kM_lt kM_at11) rfl k104 c103 rfl)
        have hF := hF.put kM_at11 (inE_of (a := 0) (b := 10) (by decide) (by decide) (by decide)) k104
        have c105 := k104.gi (Or.inl (tk_ne kM_at12 kM_at11 (by decide))) c88
        have c106 := k104.gi (Or.inl (tk_ne kM_at0 kM_at11 (by decide))) c89
        have c107 := k104.gi (Or.inl (tk_ne kM_at12 kM_at11 (by decide))) c90
        have c108 := k104.gi (Or.inl (tk_ne kM_at14 kM_at11 (by decide))) c91
        have c109 := k104.gi (Or.inl (tk_ne kM_at12 kM_at11 (by decide))) c98
        refine lv_aload_n hx hb dX12_words_160 rfl (lv_at hl 2 rfl) ?_
        refine tk_getA hC hK hw hT hinX12 kM_at0 (by decide) rfl 25 (by decide) (List.mem_cons_of_mem _ uw_7_0) rfl rfl dX12_words_161 ?_
        refine lv_bipush (v := 8) hx hb dX12_words_164 (by decide) ?_
        refine lv_aload_n hx hb dX12_words_166 rfl (lv_at hl 2 rfl) ?_
        refine lv_iload_n hx hb dX12_words_167 rfl (lv_at hl 3 rfl) ?_
        refine lv_bipush (v := 6) hx hb dX12_words_168 (by decide) ?_
        refine tk_Vi hC hK hw hT hA hE hSR kM_at0 (by decide) rfl (ky_X12_walkerOf_8 l adK adV dC dI cy ad B hB0 (Int.le_trans hB1 (by decide)) qr s1    w102 H.size hT ) (cwV 2 hC.2.2.2.2 uV_RX12_372 rfl rfl rfl (by decide +kernel) ⟨Nat.le_of_ble_eq_true rfl, Nat.le_of_ble_eq_true rfl⟩) rfl hl.1 rfl (Nat.le_of_ble_eq_true rfl) dX12_words_170 (fun r110 w112 H locs hp111 hw => ?_)
        obtain ⟨rfl, hv116, hg115⟩ := hp111
        have c114 := hg115
        replace hM := hM.call hv116 rfl
        refine lv_i2l hx hb dX12_words_173 rfl ?_
        refine lv_topl (fun x117 ex117 => ?_)
        have ex117 : x117.toInt = r110.toInt := by rw [ex117]; exact wk_i2l _
        have bx117 := wk_i32 r110
        replace hM := hM.lt ex117.symm
        have hTq := hT
        refine tk_lastv hC hK hw hT kM_at11 (by decide) rfl (by decide) (by decide) dX12_words_174 (fun H locs w118 hw hT k120 c119 => ?_)
        replace hM := hM.wr (sL_upk hTq hT kM_at11 (kM_lt kM_at11) rfl k120 c119 rfl)
        have hF := hF.put kM_at11 (inE_of (a := 0) (b := 10) (by decide) (by decide) (by decide)) k120
        have c121 := k120.gi (Or.inl (tk_ne kM_at12 kM_at11 (by decide))) c105
        have c122 := k120.gi (Or.inl (tk_ne kM_at0 kM_at11 (by decide))) c106
        have c123 := k120.gi (Or.inl (tk_ne kM_at12 kM_at11 (by decide))) c107
        have c124 := k120.gi (Or.inl (tk_ne kM_at14 kM_at11 (by decide))) c108
        have c125 := k120.gi (Or.inl (tk_ne kM_at12 kM_at11 (by decide))) c109
        have c126 := k120.gi (Or.inl (tk_ne kM_at12 kM_at11 (by decide))) c114
        refine lv_aload_n hx hb dX12_words_175 rfl (lv_at hl 2 rfl) ?_
        refine tk_getA hC hK hw hT hinX12 kM_at0 (by decide) rfl 25 (by decide) (List.mem_cons_of_mem _ uw_7_0) rfl rfl dX12_words_176 ?_
        refine lv_bipush (v := 9) hx hb dX12_words_179 (by decide) ?_
        refine lv_aload_n hx hb dX12_words_181 rfl (lv_at hl 2 rfl) ?_
        refine lv_iload_n hx hb dX12_words_182 rfl (lv_at hl 3 rfl) ?_
        refine lv_bipush (v := 7) hx hb dX12_words_183 (by decide) ?_
        refine tk_Vi hC hK hw hT hA hE hSR kM_at0 (by decide) rfl (ky_X12_walkerOf_9 l adK adV dC dI cy ad B hB0 (Int.le_trans hB1 (by decide)) qr s1    w118 H.size hT ) (cwV 2 hC.2.2.2.2 uV_RX12_372 rfl rfl rfl (by decide +kernel) ⟨Nat.le_of_ble_eq_true rfl, Nat.le_of_ble_eq_true rfl⟩) rfl hl.1 rfl (Nat.le_of_ble_eq_true rfl) dX12_words_185 (fun r127 w129 H locs hp128 hw => ?_)
        obtain ⟨rfl, hv135, hg134⟩ := hp128
        obtain ⟨g131, g132, c133⟩ := hg134
        replace hM := hM.call hv135 rfl
        refine lv_if_ge (tgt := 197) hx hb dX12_words_188 (by decide) (fun c136 => ?_) (fun c136 => ?_)
        · have c136 : (0 : Int) ≤ r127.toInt := wk_le.mp c136
          replace hM := hM.pos c136
          refine lv_aload_n hx hb dX12_words_197 rfl (lv_at hl 2 rfl) ?_
          refine lv_iload_n hx hb dX12_words_198 rfl (lv_at hl 3 rfl) ?_
          refine lv_bipush (v := 7) hx hb dX12_words_199 (by decide) ?_
          refine tk_Vi hC hK hw hT hA hE hSR kM_at0 (by decide) rfl (ky_X12_walkerOf_9 l adK adV dC dI cy ad B hB0 (Int.le_trans hB1 (by decide)) qr s1    w118 H.size hT ) (cwV 2 hC.2.2.2.2 uV_RX12_372 rfl rfl rfl (by decide +kernel) ⟨Nat.le_of_ble_eq_true rfl, Nat.le_of_ble_eq_true rfl⟩) rfl hl.1 rfl (Nat.le_of_ble_eq_true rfl) dX12_words_201 (fun r137 w139 H locs hp138 hw => ?_)
          obtain ⟨rfl, hv145, hg144⟩ := hp138
          obtain ⟨g141, g142, c143⟩ := hg144
          replace hM := hM.call hv145 rfl
          obtain rfl : r127 = r137 := c133.symm.trans c143
          refine lv_i2l hx hb dX12_words_204 rfl ?_
          refine lv_topl (fun x146 ex146 => ?_)
          have ex146 : x146.toInt = r127.toInt := by rw [ex146]; exact wk_i2l _
          have bx146 := wk_i32 r127
          replace hM := hM.lt ex146.symm
          have hTq := hT
          refine tk_lastv hC hK hw hT kM_at11 (by decide) rfl (by decide) (by decide) dX12_words_205 (fun H locs w147 hw hT k149 c148 => ?_)
          replace hM := hM.wr (sL_upk hTq hT kM_at11 (kM_lt kM_at11) rfl k149 c148 rfl)
          have hF := hF.put kM_at11 (inE_of (a := 0) (b := 10) (by decide) (by decide) (by decide)) k149
          have c150 := k149.gi (Or.inl (tk_ne kM_at12 kM_at11 (by decide))) c121
          have c151 := k149.gi (Or.inl (tk_ne kM_at0 kM_at11 (by decide))) c122
          have c152 := k149.gi (Or.inl (tk_ne kM_at12 kM_at11 (by decide))) c123
          have c153 := k149.gi (Or.inl (tk_ne kM_at14 kM_at11 (by decide))) c124
          have c154 := k149.gi (Or.inl (tk_ne kM_at12 kM_at11 (by decide))) c125
          have c155 := k149.gi (Or.inl (tk_ne kM_at12 kM_at11 (by decide))) c126
          have c156 := k149.gi (Or.inl (tk_ne kM_at12 kM_at11 (by decide))) c133
          exact tk_vret hC hr hlocks hK ⟨hT, hF, hM.ret rfl, ⟨⟨x32, c151, (show 0 ≤ x32.toInt from rx32), (show x32.toInt ≤ 1 from tx32)⟩, ⟨r127, c156, (show (-1) ≤ r127.toInt by first | with_reducible assumption | omega), (show r127.toInt ≤ 9 by first | with_reducible assumption | omega)⟩⟩⟩ hw dX12_words_206
        · have c136 : r127.toInt < (0 : Int) := wk_leF c136
          replace hM := hM.neg (Int.not_le.mpr c136)
          refine lv_ldc2 (v := 99) hx hb hC.2.2.2.1 (hC.2.2.2.2 _ (List.mem_cons_of_mem _ uw_48_1)) dX12_words_191 ?_
          refine lv_goto (tgt := 205) hx hb dX12_words_194 (by decide) ?_
          have hTq := hT
          refine tk_lastv hC hK hw hT kM_at11 (by decide) rfl (by decide) (by decide) dX12_words_205 (fun H locs w157 hw hT k159 c158 => ?_)
          replace hM := hM.wr (sL_upk hTq hT kM_at11 (kM_lt kM_at11) rfl k159 c158 (by decide))
          have hF := hF.put kM_at11 (inE_of (a := 0) (b := 10) (by decide) (by decide) (by decide)) k159
          have c160 := k159.gi (Or.inl (tk_ne kM_at12 kM_at11 (by decide))) c121
          have c161 := k159.gi (Or.inl (tk_ne kM_at0 kM_at11 (by decide))) c122
          have c162 := k159.gi (Or.inl (tk_ne kM_at12 kM_at11 (by decide))) c123
          have c163 := k159.gi (Or.inl (tk_ne kM_at14 kM_at11 (by decide))) c124
          have c164 := k159.gi (Or.inl (tk_ne kM_at12 kM_at11 (by decide))) c125
          have c165 := k159.gi (Or.inl (tk_ne kM_at12 kM_at11 (by decide))) c126
          have c166 := k159.gi (Or.inl (tk_ne kM_at12 kM_at11 (by decide))) c133
          exact tk_vret hC hr hlocks hK ⟨hT, hF, hM.ret rfl, ⟨⟨x32, c161, (show 0 ≤ x32.toInt from rx32), (show x32.toInt ≤ 1 from tx32)⟩, ⟨r127, c166, (show (-1) ≤ r127.toInt by first | with_reducible assumption | omega), (show r127.toInt ≤ 9 by first | with_reducible assumption | omega)⟩⟩⟩ hw dX12_words_206
      · have c81 : x79.toInt = (100000000 : Int) := wk_eq.mp c81
        replace hM := hM.neg (fun q => q c81)
        refine lv_lconst (v := 0) hx hb dX12_words_123 (by decide) ?_
        refine lv_goto (tgt := 134) hx hb dX12_words_124 (by decide) ?_
        have hTq := hT
        refine tk_lastv hC hK hw hT kM_at11 (by decide) rfl (by decide) (by decide) dX12_words_134 (fun H locs w167 hw hT k169 c168 => ?_)
        replace hM := hM.wr (sL_upk hTq hT kM_at11 (kM_lt kM_at11) rfl k169 c168 (by decide))
        have hF := hF.put kM_at11 (inE_of (a := 0) (b := 10) (by decide) (by decide) (by decide)) k169
        have c170 := k169.gi (Or.inl (tk_ne kM_at12 kM_at11 (by decide))) c76
        have c171 := k169.gi (Or.inl (tk_ne kM_at0 kM_at11 (by decide))) c77
        have c172 := k169.gi (Or.inl (tk_ne kM_at12 kM_at11 (by decide))) c78
        have c173 := k169.gi (Or.inl (tk_ne kM_at14 kM_at11 (by decide))) c80
        refine lv_aload_n hx hb dX12_words_135 rfl (lv_at hl 2 rfl) ?_
        refine tk_getA hC hK hw hT hinX12 kM_at0 (by decide) rfl 25 (by decide) (List.mem_cons_of_mem _ uw_7_0) rfl rfl dX12_words_136 ?_
        refine lv_bipush (v := 7) hx hb dX12_words_139 (by decide) ?_
        refine lv_aload_n hx hb dX12_words_141 rfl (lv_at hl 2 rfl) ?_
        refine tk_geti hC hK hw hT hinX12 kM_at0 (by decide) rfl 30 (by decide) (List.mem_cons_of_mem _ uw_47_4) rfl rfl dX12_words_142 (fun x174 c175 rx174 tx174 => ?_)
        refine wk_top x32 (c175.symm.trans c171) ?_
        replace hM := hM.rd (sL_at (kM_lt kM_at0) c171)
        refine lv_if_eq (tgt := 152) hx hb dX12_words_145 (by decide) (fun _ => ?_) (fun c => (c (wk_eq.mpr (show x32.toInt = (0 : Int) by first | exact Int.le_antisymm (by omega) (by omega) | omega))).elim)
        replace hM := hM.pos (by omega)
        refine lv_aload_n hx hb dX12_words_152 rfl (lv_at hl 2 rfl) ?_
        refine lv_iload_n hx hb dX12_words_153 rfl (lv_at hl 3 rfl) ?_
        refine lv_iconst (v := 5) hx hb dX12_words_154 (by decide) ?_
        refine tk_Vi hC hK hw hT hA hE hSR kM_at0 (by decide) rfl (ky_X12_walkerOf_7 l adK adV dC dI cy ad B hB0 (Int.le_trans hB1 (by decide)) qr s1    w167 H.size hT ) (cwV 2 hC.2.2.2.2 uV_RX12_372 rfl rfl rfl (by decide +kernel) ⟨Nat.le_of_ble_eq_true rfl, Nat.le_of_ble_eq_true rfl⟩) rfl hl.1 rfl (Nat.le_of_ble_eq_true rfl) dX12_words_155 (fun r176 w178 H locs hp177 hw => ?_)
        obtain ⟨rfl, hv182, hg181⟩ := hp177
        have c180 := hg181
        replace hM := hM.call hv182 rfl
        refine lv_i2l hx hb dX12_words_158 rfl ?_
        refine lv_topl (fun x183 ex183 => ?_)
        have ex183 : x183.toInt = r176.toInt := by rw [ex183]; exact wk_i2l _
        have bx183 := wk_i32 r176
        replace hM := hM.lt ex183.symm
        have hTq := hT
        refine tk_lastv hC hK hw hT kM_at11 (by decide) rfl (by decide) (by decide) dX12_words_159 (fun H locs w184 hw hT k186 c185 => ?_)
        replace hM := hM.wr (sL_upk hTq hT kM_at11 (kM_lt kM_at11) rfl k186 c185 rfl)
        have hF := hF.put kM_at11 (inE_of (a := 0) (b := 10) (by decide) (by decide) (by decide)) k186
        have c187 := k186.gi (Or.inl (tk_ne kM_at12 kM_at11 (by decide))) c170
        have c188 := k186.gi (Or.inl (tk_ne kM_at0 kM_at11 (by decide))) c171
        have c189 := k186.gi (Or.inl (tk_ne kM_at12 kM_at11 (by decide))) c172
        have c190 := k186.gi (Or.inl (tk_ne kM_at14 kM_at11 (by decide))) c173
        have c191 := k186.gi (Or.inl (tk_ne kM_at12 kM_at11 (by decide))) c180
        refine lv_aload_n hx hb dX12_words_160 rfl (lv_at hl 2 rfl) ?_
        refine tk_getA hC hK hw hT hinX12 kM_at0 (by decide) rfl 25 (by decide) (List.mem_cons_of_mem _ uw_7_0) rfl rfl dX12_words_161 ?_
        refine lv_bipush (v := 8) hx hb dX12_words_164 (by decide) ?_
        refine lv_aload_n hx hb dX12_words_166 rfl (lv_at hl 2 rfl) ?_
        refine lv_iload_n hx hb dX12_words_167 rfl (lv_at hl 3 rfl) ?_
        refine lv_bipush (v := 6) hx hb dX12_words_168 (by decide) ?_
        refine tk_Vi hC hK hw hT hA hE hSR kM_at0 (by decide) rfl (ky_X12_walkerOf_8 l adK adV dC dI cy ad B hB0 (Int.le_trans hB1 (by decide)) qr s1    w184 H.size hT ) (cwV 2 hC.2.2.2.2 uV_RX12_372 rfl rfl rfl (by decide +kernel) ⟨Nat.le_of_ble_eq_true rfl, Nat.le_of_ble_eq_true rfl⟩) rfl hl.1 rfl (Nat.le_of_ble_eq_true rfl) dX12_words_170 (fun r192 w194 H locs hp193 hw => ?_)
        obtain ⟨rfl, hv198, hg197⟩ := hp193
        have c196 := hg197
        replace hM := hM.call hv198 rfl
        refine lv_i2l hx hb dX12_words_173 rfl ?_
        refine lv_topl (fun x199 ex199 => ?_)
        have ex199 : x199.toInt = r192.toInt := by rw [ex199]; exact wk_i2l _
        have bx199 := wk_i32 r192
        replace hM := hM.lt ex199.symm
        have hTq := hT
        refine tk_lastv hC hK hw hT kM_at11 (by decide) rfl (by decide) (by decide) dX12_words_174 (fun H locs w200 hw hT k202 c201 => ?_)
        replace hM := hM.wr (sL_upk hTq hT kM_at11 (kM_lt kM_at11) rfl k202 c201 rfl)
        have hF := hF.put kM_at11 (inE_of (a := 0) (b := 10) (by decide) (by decide) (by decide)) k202
        have c203 := k202.gi (Or.inl (tk_ne kM_at12 kM_at11 (by decide))) c187
        have c204 := k202.gi (Or.inl (tk_ne kM_at0 kM_at11 (by decide))) c188
        have c205 := k202.gi (Or.inl (tk_ne kM_at12 kM_at11 (by decide))) c189
        have c206 := k202.gi (Or.inl (tk_ne kM_at14 kM_at11 (by decide))) c190
        have c207 := k202.gi (Or.inl (tk_ne kM_at12 kM_at11 (by decide))) c191
        have c208 := k202.gi (Or.inl (tk_ne kM_at12 kM_at11 (by decide))) c196
        refine lv_aload_n hx hb dX12_words_175 rfl (lv_at hl 2 rfl) ?_
        refine tk_getA hC hK hw hT hinX12 kM_at0 (by decide) rfl 25 (by decide) (List.mem_cons_of_mem _ uw_7_0) rfl rfl dX12_words_176 ?_
        refine lv_bipush (v := 9) hx hb dX12_words_179 (by decide) ?_
        refine lv_aload_n hx hb dX12_words_181 rfl (lv_at hl 2 rfl) ?_
        refine lv_iload_n hx hb dX12_words_182 rfl (lv_at hl 3 rfl) ?_
        refine lv_bipush (v := 7) hx hb dX12_words_183 (by decide) ?_
        refine tk_Vi hC hK hw hT hA hE hSR kM_at0 (by decide) rfl (ky_X12_walkerOf_9 l adK adV dC dI cy ad B hB0 (Int.le_trans hB1 (by decide)) qr s1    w200 H.size hT ) (cwV 2 hC.2.2.2.2 uV_RX12_372 rfl rfl rfl (by decide +kernel) ⟨Nat.le_of_ble_eq_true rfl, Nat.le_of_ble_eq_true rfl⟩) rfl hl.1 rfl (Nat.le_of_ble_eq_true rfl) dX12_words_185 (fun r209 w211 H locs hp210 hw => ?_)
        obtain ⟨rfl, hv217, hg216⟩ := hp210
        obtain ⟨g213, g214, c215⟩ := hg216
        replace hM := hM.call hv217 rfl
        refine lv_if_ge (tgt := 197) hx hb dX12_words_188 (by decide) (fun c218 => ?_) (fun c218 => ?_)
        · have c218 : (0 : Int) ≤ r209.toInt := wk_le.mp c218
          replace hM := hM.pos c218
          refine lv_aload_n hx hb dX12_words_197 rfl (lv_at hl 2 rfl) ?_
          refine lv_iload_n hx hb dX12_words_198 rfl (lv_at hl 3 rfl) ?_
          refine lv_bipush (v := 7) hx hb dX12_words_199 (by decide) ?_
          refine tk_Vi hC hK hw hT hA hE hSR kM_at0 (by decide) rfl (ky_X12_walkerOf_9 l adK adV dC dI cy ad B hB0 (Int.le_trans hB1 (by decide)) qr s1    w200 H.size hT ) (cwV 2 hC.2.2.2.2 uV_RX12_372 rfl rfl rfl (by decide +kernel) ⟨Nat.le_of_ble_eq_true rfl, Nat.le_of_ble_eq_true rfl⟩) rfl hl.1 rfl (Nat.le_of_ble_eq_true rfl) dX12_words_201 (fun r219 w221 H locs hp220 hw => ?_)
          obtain ⟨rfl, hv227, hg226⟩ := hp220
          obtain ⟨g223, g224, c225⟩ := hg226
          replace hM := hM.call hv227 rfl
          obtain rfl : r209 = r219 := c215.symm.trans c225
          refine lv_i2l hx hb dX12_words_204 rfl ?_
          refine lv_topl (fun x228 ex228 => ?_)
          have ex228 : x228.toInt = r209.toInt := by rw [ex228]; exact wk_i2l _
          have bx228 := wk_i32 r209
          replace hM := hM.lt ex228.symm
          have hTq := hT
          refine tk_lastv hC hK hw hT kM_at11 (by decide) rfl (by decide) (by decide) dX12_words_205 (fun H locs w229 hw hT k231 c230 => ?_)
          replace hM := hM.wr (sL_upk hTq hT kM_at11 (kM_lt kM_at11) rfl k231 c230 rfl)
          have hF := hF.put kM_at11 (inE_of (a := 0) (b := 10) (by decide) (by decide) (by decide)) k231
          have c232 := k231.gi (Or.inl (tk_ne kM_at12 kM_at11 (by decide))) c203
          have c233 := k231.gi (Or.inl (tk_ne kM_at0 kM_at11 (by decide))) c204
          have c234 := k231.gi (Or.inl (tk_ne kM_at12 kM_at11 (by decide))) c205
          have c235 := k231.gi (Or.inl (tk_ne kM_at14 kM_at11 (by decide))) c206
          have c236 := k231.gi (Or.inl (tk_ne kM_at12 kM_at11 (by decide))) c207
          have c237 := k231.gi (Or.inl (tk_ne kM_at12 kM_at11 (by decide))) c208
          have c238 := k231.gi (Or.inl (tk_ne kM_at12 kM_at11 (by decide))) c215
          exact tk_vret hC hr hlocks hK ⟨hT, hF, hM.ret rfl, ⟨⟨x32, c233, (show 0 ≤ x32.toInt from rx32), (show x32.toInt ≤ 1 from tx32)⟩, ⟨r209, c238, (show (-1) ≤ r209.toInt by first | with_reducible assumption | omega), (show r209.toInt ≤ 9 by first | with_reducible assumption | omega)⟩⟩⟩ hw dX12_words_206
        · have c218 : r209.toInt < (0 : Int) := wk_leF c218
          replace hM := hM.neg (Int.not_le.mpr c218)
          refine lv_ldc2 (v := 99) hx hb hC.2.2.2.1 (hC.2.2.2.2 _ (List.mem_cons_of_mem _ uw_48_1)) dX12_words_191 ?_
          refine lv_goto (tgt := 205) hx hb dX12_words_194 (by decide) ?_
          have hTq := hT
          refine tk_lastv hC hK hw hT kM_at11 (by decide) rfl (by decide) (by decide) dX12_words_205 (fun H locs w239 hw hT k241 c240 => ?_)
          replace hM := hM.wr (sL_upk hTq hT kM_at11 (kM_lt kM_at11) rfl k241 c240 (by decide))
          have hF := hF.put kM_at11 (inE_of (a := 0) (b := 10) (by decide) (by decide) (by decide)) k241
          have c242 := k241.gi (Or.inl (tk_ne kM_at12 kM_at11 (by decide))) c203
          have c243 := k241.gi (Or.inl (tk_ne kM_at0 kM_at11 (by decide))) c204
          have c244 := k241.gi (Or.inl (tk_ne kM_at12 kM_at11 (by decide))) c205
          have c245 := k241.gi (Or.inl (tk_ne kM_at14 kM_at11 (by decide))) c206
          have c246 := k241.gi (Or.inl (tk_ne kM_at12 kM_at11 (by decide))) c207
          have c247 := k241.gi (Or.inl (tk_ne kM_at12 kM_at11 (by decide))) c208
          have c248 := k241.gi (Or.inl (tk_ne kM_at12 kM_at11 (by decide))) c215
          exact tk_vret hC hr hlocks hK ⟨hT, hF, hM.ret rfl, ⟨⟨x32, c243, (show 0 ≤ x32.toInt from rx32), (show x32.toInt ≤ 1 from tx32)⟩, ⟨r209, c248, (show (-1) ≤ r209.toInt by first | with_reducible assumption | omega), (show r209.toInt ≤ 9 by first | with_reducible assumption | omega)⟩⟩⟩ hw dX12_words_206
    · replace hM := hM.call (r' := 1) hv72 (by decide)
      refine lv_if_eq (tgt := 103) hx hb dX12_words_96 (by decide) (fun c => absurd c (by decide)) (fun _ => ?_)
      replace hM := hM.neg (by decide)
      refine lv_lconst (v := 0) hx hb dX12_words_99 (by decide) ?_
      refine lv_goto (tgt := 104) hx hb dX12_words_100 (by decide) ?_
      have hTq := hT
      refine tk_lastv hC hK hw hT kM_at11 (by decide) rfl (by decide) (by decide) dX12_words_104 (fun H locs w249 hw hT k251 c250 => ?_)
      replace hM := hM.wr (sL_upk hTq hT kM_at11 (kM_lt kM_at11) rfl k251 c250 (by decide))
      have hF := hF.put kM_at11 (inE_of (a := 0) (b := 10) (by decide) (by decide) (by decide)) k251
      have c252 := k251.gi (Or.inl (tk_ne kM_at12 kM_at11 (by decide))) c62
      have c253 := k251.gi (Or.inl (tk_ne kM_at0 kM_at11 (by decide))) c63
      have c254 := k251.gi (Or.inl (tk_ne kM_at12 kM_at11 (by decide))) c64
      have c255 := k251.gi (Or.inl (tk_ne kM_at0 kM_at11 (by decide))) c70
      refine lv_aload_n hx hb dX12_words_105 rfl (lv_at hl 2 rfl) ?_
      refine tk_getA hC hK hw hT hinX12 kM_at0 (by decide) rfl 25 (by decide) (List.mem_cons_of_mem _ uw_7_0) rfl rfl dX12_words_106 ?_
      refine lv_bipush (v := 6) hx hb dX12_words_109 (by decide) ?_
      refine lv_aload_n hx hb dX12_words_111 rfl (lv_at hl 2 rfl) ?_
      refine tk_getA hC hK hw hT hinX12 kM_at0 (by decide) rfl 29 (by decide) (List.mem_cons_of_mem _ uw_7_4) rfl rfl dX12_words_112 ?_
      refine lv_iload_n hx hb dX12_words_115 rfl (lv_at hl 0 rfl) ?_
      refine tk_iald hC hK hw hT kM_at14 rfl rfl (show 0 ≤ r10.toInt by first | with_reducible assumption | omega) (show r10.toInt < 10 by first | with_reducible assumption | omega) dX12_words_116 (fun x256 c257 rx256 tx256 => ?_)
      have hox256 := c257
      replace hM := hM.rd (sL_at (kM_lt kM_at14) hox256)
      have c257 : gi w249 14 (r10.toInt).toNat = x256 := (congrArg (gi w249 14) (congrArg Int.toNat (show r10.toInt = r10.toInt from rfl))).trans c257
      refine lv_ldcw (v := 100000000) hx hb hC.2.2.2.1 (hC.2.2.2.2 _ (List.mem_cons_of_mem _ uw_38_2)) dX12_words_117 ?_
      refine lv_icmp_ne (tgt := 127) hx hb dX12_words_120 (by decide) (fun c258 => ?_) (fun c258 => ?_)
      · have c258 : ¬ x256.toInt = (100000000 : Int) := wk_eqF c258
        replace hM := hM.pos c258
        refine lv_aload_n hx hb dX12_words_127 rfl (lv_at hl 2 rfl) ?_
        refine tk_getA hC hK hw hT hinX12 kM_at0 (by decide) rfl 29 (by decide) (List.mem_cons_of_mem _ uw_7_4) rfl rfl dX12_words_128 ?_
        refine lv_iload_n hx hb dX12_words_131 rfl (lv_at hl 0 rfl) ?_
        refine tk_iald hC hK hw hT kM_at14 rfl rfl (show 0 ≤ r10.toInt by first | with_reducible assumption | omega) (show r10.toInt < 10 by first | with_reducible assumption | omega) dX12_words_132 (fun x259 c260 rx259 tx259 => ?_)
        have hox259 := c260
        have c260 : gi w249 14 (r10.toInt).toNat = x259 := (congrArg (gi w249 14) (congrArg Int.toNat (show r10.toInt = r10.toInt from rfl))).trans c260
        refine wk_top x256 (c260.symm.trans c257) ?_
        replace hM := hM.rd ((sL_at (kM_lt kM_at14) hox259).trans (congrArg Int32.toInt (c260.symm.trans c257)))
        refine lv_i2l hx hb dX12_words_133 rfl ?_
        refine lv_topl (fun x261 ex261 => ?_)
        have ex261 : x261.toInt = x256.toInt := by rw [ex261]; exact wk_i2l _
        have bx261 := wk_i32 x256
        replace hM := hM.lt ex261.symm
        have hTq := hT
        refine tk_lastv hC hK hw hT kM_at11 (by decide) rfl (by decide) (by decide) dX12_words_134 (fun H locs w262 hw hT k264 c263 => ?_)
        replace hM := hM.wr (sL_upk hTq hT kM_at11 (kM_lt kM_at11) rfl k264 c263 rfl)
        have hF := hF.put kM_at11 (inE_of (a := 0) (b := 10) (by decide) (by decide) (by decide)) k264
        have c265 := k264.gi (Or.inl (tk_ne kM_at12 kM_at11 (by decide))) c252
        have c266 := k264.gi (Or.inl (tk_ne kM_at0 kM_at11 (by decide))) c253
        have c267 := k264.gi (Or.inl (tk_ne kM_at12 kM_at11 (by decide))) c254
        have c268 := k264.gi (Or.inl (tk_ne kM_at0 kM_at11 (by decide))) c255
        have c269 := k264.gi (Or.inl (tk_ne kM_at14 kM_at11 (by decide))) c257
        refine lv_aload_n hx hb dX12_words_135 rfl (lv_at hl 2 rfl) ?_
        refine tk_getA hC hK hw hT hinX12 kM_at0 (by decide) rfl 25 (by decide) (List.mem_cons_of_mem _ uw_7_0) rfl rfl dX12_words_136 ?_
        refine lv_bipush (v := 7) hx hb dX12_words_139 (by decide) ?_
        refine lv_aload_n hx hb dX12_words_141 rfl (lv_at hl 2 rfl) ?_
        refine tk_geti hC hK hw hT hinX12 kM_at0 (by decide) rfl 30 (by decide) (List.mem_cons_of_mem _ uw_47_4) rfl rfl dX12_words_142 (fun x270 c271 rx270 tx270 => ?_)
        refine wk_top x32 (c271.symm.trans c266) ?_
        replace hM := hM.rd (sL_at (kM_lt kM_at0) c266)
        refine lv_if_eq (tgt := 152) hx hb dX12_words_145 (by decide) (fun _ => ?_) (fun c => (c (wk_eq.mpr (show x32.toInt = (0 : Int) by first | exact Int.le_antisymm (by omega) (by omega) | omega))).elim)
        replace hM := hM.pos (by omega)
        refine lv_aload_n hx hb dX12_words_152 rfl (lv_at hl 2 rfl) ?_
        refine lv_iload_n hx hb dX12_words_153 rfl (lv_at hl 3 rfl) ?_
        refine lv_iconst (v := 5) hx hb dX12_words_154 (by decide) ?_
        refine tk_Vi hC hK hw hT hA hE hSR kM_at0 (by decide) rfl (ky_X12_walkerOf_7 l adK adV dC dI cy ad B hB0 (Int.le_trans hB1 (by decide)) qr s1    w262 H.size hT ) (cwV 2 hC.2.2.2.2 uV_RX12_372 rfl rfl rfl (by decide +kernel) ⟨Nat.le_of_ble_eq_true rfl, Nat.le_of_ble_eq_true rfl⟩) rfl hl.1 rfl (Nat.le_of_ble_eq_true rfl) dX12_words_155 (fun r272 w274 H locs hp273 hw => ?_)
        obtain ⟨rfl, hv278, hg277⟩ := hp273
        have c276 := hg277
        replace hM := hM.call hv278 rfl
        refine lv_i2l hx hb dX12_words_158 rfl ?_
        refine lv_topl (fun x279 ex279 => ?_)
        have ex279 : x279.toInt = r272.toInt := by rw [ex279]; exact wk_i2l _
        have bx279 := wk_i32 r272
        replace hM := hM.lt ex279.symm
        have hTq := hT
        refine tk_lastv hC hK hw hT kM_at11 (by decide) rfl (by decide) (by decide) dX12_words_159 (fun H locs w280 hw hT k282 c281 => ?_)
        replace hM := hM.wr (sL_upk hTq hT kM_at11 (kM_lt kM_at11) rfl k282 c281 rfl)
        have hF := hF.put kM_at11 (inE_of (a := 0) (b := 10) (by decide) (by decide) (by decide)) k282
        have c283 := k282.gi (Or.inl (tk_ne kM_at12 kM_at11 (by decide))) c265
        have c284 := k282.gi (Or.inl (tk_ne kM_at0 kM_at11 (by decide))) c266
        have c285 := k282.gi (Or.inl (tk_ne kM_at12 kM_at11 (by decide))) c267
        have c286 := k282.gi (Or.inl (tk_ne kM_at0 kM_at11 (by decide))) c268
        have c287 := k282.gi (Or.inl (tk_ne kM_at14 kM_at11 (by decide))) c269
        have c288 := k282.gi (Or.inl (tk_ne kM_at12 kM_at11 (by decide))) c276
        refine lv_aload_n hx hb dX12_words_160 rfl (lv_at hl 2 rfl) ?_
        refine tk_getA hC hK hw hT hinX12 kM_at0 (by decide) rfl 25 (by decide) (List.mem_cons_of_mem _ uw_7_0) rfl rfl dX12_words_161 ?_
        refine lv_bipush (v := 8) hx hb dX12_words_164 (by decide) ?_
        refine lv_aload_n hx hb dX12_words_166 rfl (lv_at hl 2 rfl) ?_
        refine lv_iload_n hx hb dX12_words_167 rfl (lv_at hl 3 rfl) ?_
        refine lv_bipush (v := 6) hx hb dX12_words_168 (by decide) ?_
        refine tk_Vi hC hK hw hT hA hE hSR kM_at0 (by decide) rfl (ky_X12_walkerOf_8 l adK adV dC dI cy ad B hB0 (Int.le_trans hB1 (by decide)) qr s1    w280 H.size hT ) (cwV 2 hC.2.2.2.2 uV_RX12_372 rfl rfl rfl (by decide +kernel) ⟨Nat.le_of_ble_eq_true rfl, Nat.le_of_ble_eq_true rfl⟩) rfl hl.1 rfl (Nat.le_of_ble_eq_true rfl) dX12_words_170 (fun r289 w291 H locs hp290 hw => ?_)
        obtain ⟨rfl, hv295, hg294⟩ := hp290
        have c293 := hg294
        replace hM := hM.call hv295 rfl
        refine lv_i2l hx hb dX12_words_173 rfl ?_
        refine lv_topl (fun x296 ex296 => ?_)
        have ex296 : x296.toInt = r289.toInt := by rw [ex296]; exact wk_i2l _
        have bx296 := wk_i32 r289
        replace hM := hM.lt ex296.symm
        have hTq := hT
        refine tk_lastv hC hK hw hT kM_at11 (by decide) rfl (by decide) (by decide) dX12_words_174 (fun H locs w297 hw hT k299 c298 => ?_)
        replace hM := hM.wr (sL_upk hTq hT kM_at11 (kM_lt kM_at11) rfl k299 c298 rfl)
        have hF := hF.put kM_at11 (inE_of (a := 0) (b := 10) (by decide) (by decide) (by decide)) k299
        have c300 := k299.gi (Or.inl (tk_ne kM_at12 kM_at11 (by decide))) c283
        have c301 := k299.gi (Or.inl (tk_ne kM_at0 kM_at11 (by decide))) c284
        have c302 := k299.gi (Or.inl (tk_ne kM_at12 kM_at11 (by decide))) c285
        have c303 := k299.gi (Or.inl (tk_ne kM_at0 kM_at11 (by decide))) c286
        have c304 := k299.gi (Or.inl (tk_ne kM_at14 kM_at11 (by decide))) c287
        have c305 := k299.gi (Or.inl (tk_ne kM_at12 kM_at11 (by decide))) c288
        have c306 := k299.gi (Or.inl (tk_ne kM_at12 kM_at11 (by decide))) c293
        refine lv_aload_n hx hb dX12_words_175 rfl (lv_at hl 2 rfl) ?_
        refine tk_getA hC hK hw hT hinX12 kM_at0 (by decide) rfl 25 (by decide) (List.mem_cons_of_mem _ uw_7_0) rfl rfl dX12_words_176 ?_
        refine lv_bipush (v := 9) hx hb dX12_words_179 (by decide) ?_
        refine lv_aload_n hx hb dX12_words_181 rfl (lv_at hl 2 rfl) ?_
        refine lv_iload_n hx hb dX12_words_182 rfl (lv_at hl 3 rfl) ?_
        refine lv_bipush (v := 7) hx hb dX12_words_183 (by decide) ?_
        refine tk_Vi hC hK hw hT hA hE hSR kM_at0 (by decide) rfl (ky_X12_walkerOf_9 l adK adV dC dI cy ad B hB0 (Int.le_trans hB1 (by decide)) qr s1    w297 H.size hT ) (cwV 2 hC.2.2.2.2 uV_RX12_372 rfl rfl rfl (by decide +kernel) ⟨Nat.le_of_ble_eq_true rfl, Nat.le_of_ble_eq_true rfl⟩) rfl hl.1 rfl (Nat.le_of_ble_eq_true rfl) dX12_words_185 (fun r307 w309 H locs hp308 hw => ?_)
        obtain ⟨rfl, hv315, hg314⟩ := hp308
        obtain ⟨g311, g312, c313⟩ := hg314
        replace hM := hM.call hv315 rfl
        refine lv_if_ge (tgt := 197) hx hb dX12_words_188 (by decide) (fun c316 => ?_) (fun c316 => ?_)
        · have c316 : (0 : Int) ≤ r307.toInt := wk_le.mp c316
          replace hM := hM.pos c316
          refine lv_aload_n hx hb dX12_words_197 rfl (lv_at hl 2 rfl) ?_
          refine lv_iload_n hx hb dX12_words_198 rfl (lv_at hl 3 rfl) ?_
          refine lv_bipush (v := 7) hx hb dX12_words_199 (by decide) ?_
          refine tk_Vi hC hK hw hT hA hE hSR kM_at0 (by decide) rfl (ky_X12_walkerOf_9 l adK adV dC dI cy ad B hB0 (Int.le_trans hB1 (by decide)) qr s1    w297 H.size hT ) (cwV 2 hC.2.2.2.2 uV_RX12_372 rfl rfl rfl (by decide +kernel) ⟨Nat.le_of_ble_eq_true rfl, Nat.le_of_ble_eq_true rfl⟩) rfl hl.1 rfl (Nat.le_of_ble_eq_true rfl) dX12_words_201 (fun r317 w319 H locs hp318 hw => ?_)
          obtain ⟨rfl, hv325, hg324⟩ := hp318
          obtain ⟨g321, g322, c323⟩ := hg324
          replace hM := hM.call hv325 rfl
          obtain rfl : r307 = r317 := c313.symm.trans c323
          refine lv_i2l hx hb dX12_words_204 rfl ?_
          refine lv_topl (fun x326 ex326 => ?_)
          have ex326 : x326.toInt = r307.toInt := by rw [ex326]; exact wk_i2l _
          have bx326 := wk_i32 r307
          replace hM := hM.lt ex326.symm
          have hTq := hT
          refine tk_lastv hC hK hw hT kM_at11 (by decide) rfl (by decide) (by decide) dX12_words_205 (fun H locs w327 hw hT k329 c328 => ?_)
          replace hM := hM.wr (sL_upk hTq hT kM_at11 (kM_lt kM_at11) rfl k329 c328 rfl)
          have hF := hF.put kM_at11 (inE_of (a := 0) (b := 10) (by decide) (by decide) (by decide)) k329
          have c330 := k329.gi (Or.inl (tk_ne kM_at12 kM_at11 (by decide))) c300
          have c331 := k329.gi (Or.inl (tk_ne kM_at0 kM_at11 (by decide))) c301
          have c332 := k329.gi (Or.inl (tk_ne kM_at12 kM_at11 (by decide))) c302
          have c333 := k329.gi (Or.inl (tk_ne kM_at0 kM_at11 (by decide))) c303
          have c334 := k329.gi (Or.inl (tk_ne kM_at14 kM_at11 (by decide))) c304
          have c335 := k329.gi (Or.inl (tk_ne kM_at12 kM_at11 (by decide))) c305
          have c336 := k329.gi (Or.inl (tk_ne kM_at12 kM_at11 (by decide))) c306
          have c337 := k329.gi (Or.inl (tk_ne kM_at12 kM_at11 (by decide))) c313
          exact tk_vret hC hr hlocks hK ⟨hT, hF, hM.ret rfl, ⟨⟨x32, c331, (show 0 ≤ x32.toInt from rx32), (show x32.toInt ≤ 1 from tx32)⟩, ⟨r307, c337, (show (-1) ≤ r307.toInt by first | with_reducible assumption | omega), (show r307.toInt ≤ 9 by first | with_reducible assumption | omega)⟩⟩⟩ hw dX12_words_206
        · have c316 : r307.toInt < (0 : Int) := wk_leF c316
          replace hM := hM.neg (Int.not_le.mpr c316)
          refine lv_ldc2 (v := 99) hx hb hC.2.2.2.1 (hC.2.2.2.2 _ (List.mem_cons_of_mem _ uw_48_1)) dX12_words_191 ?_
          refine lv_goto (tgt := 205) hx hb dX12_words_194 (by decide) ?_
          have hTq := hT
          refine tk_lastv hC hK hw hT kM_at11 (by decide) rfl (by decide) (by decide) dX12_words_205 (fun H locs w338 hw hT k340 c339 => ?_)
          replace hM := hM.wr (sL_upk hTq hT kM_at11 (kM_lt kM_at11) rfl k340 c339 (by decide))
          have hF := hF.put kM_at11 (inE_of (a := 0) (b := 10) (by decide) (by decide) (by decide)) k340
          have c341 := k340.gi (Or.inl (tk_ne kM_at12 kM_at11 (by decide))) c300
          have c342 := k340.gi (Or.inl (tk_ne kM_at0 kM_at11 (by decide))) c301
          have c343 := k340.gi (Or.inl (tk_ne kM_at12 kM_at11 (by decide))) c302
          have c344 := k340.gi (Or.inl (tk_ne kM_at0 kM_at11 (by decide))) c303
          have c345 := k340.gi (Or.inl (tk_ne kM_at14 kM_at11 (by decide))) c304
          have c346 := k340.gi (Or.inl (tk_ne kM_at12 kM_at11 (by decide))) c305
          have c347 := k340.gi (Or.inl (tk_ne kM_at12 kM_at11 (by decide))) c306
          have c348 := k340.gi (Or.inl (tk_ne kM_at12 kM_at11 (by decide))) c313
          exact tk_vret hC hr hlocks hK ⟨hT, hF, hM.ret rfl, ⟨⟨x32, c342, (show 0 ≤ x32.toInt from rx32), (show x32.toInt ≤ 1 from tx32)⟩, ⟨r307, c348, (show (-1) ≤ r307.toInt by first | with_reducible assumption | omega), (show r307.toInt ≤ 9 by first | with_reducible assumption | omega)⟩⟩⟩ hw dX12_words_206
      · have c258 : x256.toInt = (100000000 : Int) := wk_eq.mp c258
        replace hM := hM.neg (fun q => q c258)
        refine lv_lconst (v := 0) hx hb dX12_words_123 (by decide) ?_
        refine lv_goto (tgt := 134) hx hb dX12_words_124 (by decide) ?_
        have hTq := hT
        refine tk_lastv hC hK hw hT kM_at11 (by decide) rfl (by decide) (by decide) dX12_words_134 (fun H locs w349 hw hT k351 c350 => ?_)
        replace hM := hM.wr (sL_upk hTq hT kM_at11 (kM_lt kM_at11) rfl k351 c350 (by decide))
        have hF := hF.put kM_at11 (inE_of (a := 0) (b := 10) (by decide) (by decide) (by decide)) k351
        have c352 := k351.gi (Or.inl (tk_ne kM_at12 kM_at11 (by decide))) c252
        have c353 := k351.gi (Or.inl (tk_ne kM_at0 kM_at11 (by decide))) c253
        have c354 := k351.gi (Or.inl (tk_ne kM_at12 kM_at11 (by decide))) c254
        have c355 := k351.gi (Or.inl (tk_ne kM_at0 kM_at11 (by decide))) c255
        have c356 := k351.gi (Or.inl (tk_ne kM_at14 kM_at11 (by decide))) c257
        refine lv_aload_n hx hb dX12_words_135 rfl (lv_at hl 2 rfl) ?_
        refine tk_getA hC hK hw hT hinX12 kM_at0 (by decide) rfl 25 (by decide) (List.mem_cons_of_mem _ uw_7_0) rfl rfl dX12_words_136 ?_
        refine lv_bipush (v := 7) hx hb dX12_words_139 (by decide) ?_
        refine lv_aload_n hx hb dX12_words_141 rfl (lv_at hl 2 rfl) ?_
        refine tk_geti hC hK hw hT hinX12 kM_at0 (by decide) rfl 30 (by decide) (List.mem_cons_of_mem _ uw_47_4) rfl rfl dX12_words_142 (fun x357 c358 rx357 tx357 => ?_)
        refine wk_top x32 (c358.symm.trans c353) ?_
        replace hM := hM.rd (sL_at (kM_lt kM_at0) c353)
        refine lv_if_eq (tgt := 152) hx hb dX12_words_145 (by decide) (fun _ => ?_) (fun c => (c (wk_eq.mpr (show x32.toInt = (0 : Int) by first | exact Int.le_antisymm (by omega) (by omega) | omega))).elim)
        replace hM := hM.pos (by omega)
        refine lv_aload_n hx hb dX12_words_152 rfl (lv_at hl 2 rfl) ?_
        refine lv_iload_n hx hb dX12_words_153 rfl (lv_at hl 3 rfl) ?_
        refine lv_iconst (v := 5) hx hb dX12_words_154 (by decide) ?_
        refine tk_Vi hC hK hw hT hA hE hSR kM_at0 (by decide) rfl (ky_X12_walkerOf_7 l adK adV dC dI cy ad B hB0 (Int.le_trans hB1 (by decide)) qr s1    w349 H.size hT ) (cwV 2 hC.2.2.2.2 uV_RX12_372 rfl rfl rfl (by decide +kernel) ⟨Nat.le_of_ble_eq_true rfl, Nat.le_of_ble_eq_true rfl⟩) rfl hl.1 rfl (Nat.le_of_ble_eq_true rfl) dX12_words_155 (fun r359 w361 H locs hp360 hw => ?_)
        obtain ⟨rfl, hv365, hg364⟩ := hp360
        have c363 := hg364
        replace hM := hM.call hv365 rfl
        refine lv_i2l hx hb dX12_words_158 rfl ?_
        refine lv_topl (fun x366 ex366 => ?_)
        have ex366 : x366.toInt = r359.toInt := by rw [ex366]; exact wk_i2l _
        have bx366 := wk_i32 r359
        replace hM := hM.lt ex366.symm
        have hTq := hT
        refine tk_lastv hC hK hw hT kM_at11 (by decide) rfl (by decide) (by decide) dX12_words_159 (fun H locs w367 hw hT k369 c368 => ?_)
        replace hM := hM.wr (sL_upk hTq hT kM_at11 (kM_lt kM_at11) rfl k369 c368 rfl)
        have hF := hF.put kM_at11 (inE_of (a := 0) (b := 10) (by decide) (by decide) (by decide)) k369
        have c370 := k369.gi (Or.inl (tk_ne kM_at12 kM_at11 (by decide))) c352
        have c371 := k369.gi (Or.inl (tk_ne kM_at0 kM_at11 (by decide))) c353
        have c372 := k369.gi (Or.inl (tk_ne kM_at12 kM_at11 (by decide))) c354
        have c373 := k369.gi (Or.inl (tk_ne kM_at0 kM_at11 (by decide))) c355
        have c374 := k369.gi (Or.inl (tk_ne kM_at14 kM_at11 (by decide))) c356
        have c375 := k369.gi (Or.inl (tk_ne kM_at12 kM_at11 (by decide))) c363
        refine lv_aload_n hx hb dX12_words_160 rfl (lv_at hl 2 rfl) ?_
        refine tk_getA hC hK hw hT hinX12 kM_at0 (by decide) rfl 25 (by decide) (List.mem_cons_of_mem _ uw_7_0) rfl rfl dX12_words_161 ?_
        refine lv_bipush (v := 8) hx hb dX12_words_164 (by decide) ?_
        refine lv_aload_n hx hb dX12_words_166 rfl (lv_at hl 2 rfl) ?_
        refine lv_iload_n hx hb dX12_words_167 rfl (lv_at hl 3 rfl) ?_
        refine lv_bipush (v := 6) hx hb dX12_words_168 (by decide) ?_
        refine tk_Vi hC hK hw hT hA hE hSR kM_at0 (by decide) rfl (ky_X12_walkerOf_8 l adK adV dC dI cy ad B hB0 (Int.le_trans hB1 (by decide)) qr s1    w367 H.size hT ) (cwV 2 hC.2.2.2.2 uV_RX12_372 rfl rfl rfl (by decide +kernel) ⟨Nat.le_of_ble_eq_true rfl, Nat.le_of_ble_eq_true rfl⟩) rfl hl.1 rfl (Nat.le_of_ble_eq_true rfl) dX12_words_170 (fun r376 w378 H locs hp377 hw => ?_)
        obtain ⟨rfl, hv382, hg381⟩ := hp377
        have c380 := hg381
        replace hM := hM.call hv382 rfl
        refine lv_i2l hx hb dX12_words_173 rfl ?_
        refine lv_topl (fun x383 ex383 => ?_)
        have ex383 : x383.toInt = r376.toInt := by rw [ex383]; exact wk_i2l _
        have bx383 := wk_i32 r376
        replace hM := hM.lt ex383.symm
        have hTq := hT
        refine tk_lastv hC hK hw hT kM_at11 (by decide) rfl (by decide) (by decide) dX12_words_174 (fun H locs w384 hw hT k386 c385 => ?_)
        replace hM := hM.wr (sL_upk hTq hT kM_at11 (kM_lt kM_at11) rfl k386 c385 rfl)
        have hF := hF.put kM_at11 (inE_of (a := 0) (b := 10) (by decide) (by decide) (by decide)) k386
        have c387 := k386.gi (Or.inl (tk_ne kM_at12 kM_at11 (by decide))) c370
        have c388 := k386.gi (Or.inl (tk_ne kM_at0 kM_at11 (by decide))) c371
        have c389 := k386.gi (Or.inl (tk_ne kM_at12 kM_at11 (by decide))) c372
        have c390 := k386.gi (Or.inl (tk_ne kM_at0 kM_at11 (by decide))) c373
        have c391 := k386.gi (Or.inl (tk_ne kM_at14 kM_at11 (by decide))) c374
        have c392 := k386.gi (Or.inl (tk_ne kM_at12 kM_at11 (by decide))) c375
        have c393 := k386.gi (Or.inl (tk_ne kM_at12 kM_at11 (by decide))) c380
        refine lv_aload_n hx hb dX12_words_175 rfl (lv_at hl 2 rfl) ?_
        refine tk_getA hC hK hw hT hinX12 kM_at0 (by decide) rfl 25 (by decide) (List.mem_cons_of_mem _ uw_7_0) rfl rfl dX12_words_176 ?_
        refine lv_bipush (v := 9) hx hb dX12_words_179 (by decide) ?_
        refine lv_aload_n hx hb dX12_words_181 rfl (lv_at hl 2 rfl) ?_
        refine lv_iload_n hx hb dX12_words_182 rfl (lv_at hl 3 rfl) ?_
        refine lv_bipush (v := 7) hx hb dX12_words_183 (by decide) ?_
        refine tk_Vi hC hK hw hT hA hE hSR kM_at0 (by decide) rfl (ky_X12_walkerOf_9 l adK adV dC dI cy ad B hB0 (Int.le_trans hB1 (by decide)) qr s1    w384 H.size hT ) (cwV 2 hC.2.2.2.2 uV_RX12_372 rfl rfl rfl (by decide +kernel) ⟨Nat.le_of_ble_eq_true rfl, Nat.le_of_ble_eq_true rfl⟩) rfl hl.1 rfl (Nat.le_of_ble_eq_true rfl) dX12_words_185 (fun r394 w396 H locs hp395 hw => ?_)
        obtain ⟨rfl, hv402, hg401⟩ := hp395
        obtain ⟨g398, g399, c400⟩ := hg401
        replace hM := hM.call hv402 rfl
        refine lv_if_ge (tgt := 197) hx hb dX12_words_188 (by decide) (fun c403 => ?_) (fun c403 => ?_)
        · have c403 : (0 : Int) ≤ r394.toInt := wk_le.mp c403
          replace hM := hM.pos c403
          refine lv_aload_n hx hb dX12_words_197 rfl (lv_at hl 2 rfl) ?_
          refine lv_iload_n hx hb dX12_words_198 rfl (lv_at hl 3 rfl) ?_
          refine lv_bipush (v := 7) hx hb dX12_words_199 (by decide) ?_
          refine tk_Vi hC hK hw hT hA hE hSR kM_at0 (by decide) rfl (ky_X12_walkerOf_9 l adK adV dC dI cy ad B hB0 (Int.le_trans hB1 (by decide)) qr s1    w384 H.size hT ) (cwV 2 hC.2.2.2.2 uV_RX12_372 rfl rfl rfl (by decide +kernel) ⟨Nat.le_of_ble_eq_true rfl, Nat.le_of_ble_eq_true rfl⟩) rfl hl.1 rfl (Nat.le_of_ble_eq_true rfl) dX12_words_201 (fun r404 w406 H locs hp405 hw => ?_)
          obtain ⟨rfl, hv412, hg411⟩ := hp405
          obtain ⟨g408, g409, c410⟩ := hg411
          replace hM := hM.call hv412 rfl
          obtain rfl : r394 = r404 := c400.symm.trans c410
          refine lv_i2l hx hb dX12_words_204 rfl ?_
          refine lv_topl (fun x413 ex413 => ?_)
          have ex413 : x413.toInt = r394.toInt := by rw [ex413]; exact wk_i2l _
          have bx413 := wk_i32 r394
          replace hM := hM.lt ex413.symm
          have hTq := hT
          refine tk_lastv hC hK hw hT kM_at11 (by decide) rfl (by decide) (by decide) dX12_words_205 (fun H locs w414 hw hT k416 c415 => ?_)
          replace hM := hM.wr (sL_upk hTq hT kM_at11 (kM_lt kM_at11) rfl k416 c415 rfl)
          have hF := hF.put kM_at11 (inE_of (a := 0) (b := 10) (by decide) (by decide) (by decide)) k416
          have c417 := k416.gi (Or.inl (tk_ne kM_at12 kM_at11 (by decide))) c387
          have c418 := k416.gi (Or.inl (tk_ne kM_at0 kM_at11 (by decide))) c388
          have c419 := k416.gi (Or.inl (tk_ne kM_at12 kM_at11 (by decide))) c389
          have c420 := k416.gi (Or.inl (tk_ne kM_at0 kM_at11 (by decide))) c390
          have c421 := k416.gi (Or.inl (tk_ne kM_at14 kM_at11 (by decide))) c391
          have c422 := k416.gi (Or.inl (tk_ne kM_at12 kM_at11 (by decide))) c392
          have c423 := k416.gi (Or.inl (tk_ne kM_at12 kM_at11 (by decide))) c393
          have c424 := k416.gi (Or.inl (tk_ne kM_at12 kM_at11 (by decide))) c400
          exact tk_vret hC hr hlocks hK ⟨hT, hF, hM.ret rfl, ⟨⟨x32, c418, (show 0 ≤ x32.toInt from rx32), (show x32.toInt ≤ 1 from tx32)⟩, ⟨r394, c424, (show (-1) ≤ r394.toInt by first | with_reducible assumption | omega), (show r394.toInt ≤ 9 by first | with_reducible assumption | omega)⟩⟩⟩ hw dX12_words_206
        · have c403 : r394.toInt < (0 : Int) := wk_leF c403
          replace hM := hM.neg (Int.not_le.mpr c403)
          refine lv_ldc2 (v := 99) hx hb hC.2.2.2.1 (hC.2.2.2.2 _ (List.mem_cons_of_mem _ uw_48_1)) dX12_words_191 ?_
          refine lv_goto (tgt := 205) hx hb dX12_words_194 (by decide) ?_
          have hTq := hT
          refine tk_lastv hC hK hw hT kM_at11 (by decide) rfl (by decide) (by decide) dX12_words_205 (fun H locs w425 hw hT k427 c426 => ?_)
          replace hM := hM.wr (sL_upk hTq hT kM_at11 (kM_lt kM_at11) rfl k427 c426 (by decide))
          have hF := hF.put kM_at11 (inE_of (a := 0) (b := 10) (by decide) (by decide) (by decide)) k427
          have c428 := k427.gi (Or.inl (tk_ne kM_at12 kM_at11 (by decide))) c387
          have c429 := k427.gi (Or.inl (tk_ne kM_at0 kM_at11 (by decide))) c388
          have c430 := k427.gi (Or.inl (tk_ne kM_at12 kM_at11 (by decide))) c389
          have c431 := k427.gi (Or.inl (tk_ne kM_at0 kM_at11 (by decide))) c390
          have c432 := k427.gi (Or.inl (tk_ne kM_at14 kM_at11 (by decide))) c391
          have c433 := k427.gi (Or.inl (tk_ne kM_at12 kM_at11 (by decide))) c392
          have c434 := k427.gi (Or.inl (tk_ne kM_at12 kM_at11 (by decide))) c393
          have c435 := k427.gi (Or.inl (tk_ne kM_at12 kM_at11 (by decide))) c400
          exact tk_vret hC hr hlocks hK ⟨hT, hF, hM.ret rfl, ⟨⟨x32, c429, (show 0 ≤ x32.toInt from rx32), (show x32.toInt ≤ 1 from tx32)⟩, ⟨r394, c435, (show (-1) ≤ r394.toInt by first | with_reducible assumption | omega), (show r394.toInt ≤ 9 by first | with_reducible assumption | omega)⟩⟩⟩ hw dX12_words_206
  · have c34 : ¬ x32.toInt = (0 : Int) := wk_eqF c34
    replace hM := hM.neg c34
    refine lv_lconst (v := 0) hx hb dX12_words_51 (by decide) ?_
    refine lv_goto (tgt := 64) hx hb dX12_words_52 (by decide) ?_
    have hTq := hT
    refine tk_lastv hC hK hw hT kM_at11 (by decide) rfl (by decide) (by decide) dX12_words_64 (fun H locs w436 hw hT k438 c437 => ?_)
    replace hM := hM.wr (sL_upk hTq hT kM_at11 (kM_lt kM_at11) rfl k438 c437 (by decide))
    have hF := hF.put kM_at11 (inE_of (a := 0) (b := 10) (by decide) (by decide) (by decide)) k438
    have c439 := k438.gi (Or.inl (tk_ne kM_at12 kM_at11 (by decide))) c31
    have c440 := k438.gi (Or.inl (tk_ne kM_at0 kM_at11 (by decide))) c33
    refine lv_aload_n hx hb dX12_words_65 rfl (lv_at hl 2 rfl) ?_
    refine tk_getA hC hK hw hT hinX12 kM_at0 (by decide) rfl 25 (by decide) (List.mem_cons_of_mem _ uw_7_0) rfl rfl dX12_words_66 ?_
    refine lv_iconst (v := 3) hx hb dX12_words_69 (by decide) ?_
    refine lv_iload_n hx hb dX12_words_70 rfl (lv_at hl 0 rfl) ?_
    refine lv_i2l hx hb dX12_words_71 rfl ?_
    refine lv_topl (fun x441 ex441 => ?_)
    have ex441 : x441.toInt = r10.toInt := by rw [ex441]; exact wk_i2l _
    have bx441 := wk_i32 r10
    replace hM := hM.lt ex441.symm
    have hTq := hT
    refine tk_lastv hC hK hw hT kM_at11 (by decide) rfl (by decide) (by decide) dX12_words_72 (fun H locs w442 hw hT k444 c443 => ?_)
    replace hM := hM.wr (sL_upk hTq hT kM_at11 (kM_lt kM_at11) rfl k444 c443 rfl)
    have hF := hF.put kM_at11 (inE_of (a := 0) (b := 10) (by decide) (by decide) (by decide)) k444
    have c445 := k444.gi (Or.inl (tk_ne kM_at12 kM_at11 (by decide))) c439
    have c446 := k444.gi (Or.inl (tk_ne kM_at0 kM_at11 (by decide))) c440
    refine lv_aload_n hx hb dX12_words_73 rfl (lv_at hl 2 rfl) ?_
    refine tk_getA hC hK hw hT hinX12 kM_at0 (by decide) rfl 25 (by decide) (List.mem_cons_of_mem _ uw_7_0) rfl rfl dX12_words_74 ?_
    refine lv_iconst (v := 4) hx hb dX12_words_77 (by decide) ?_
    refine lv_aload_n hx hb dX12_words_78 rfl (lv_at hl 2 rfl) ?_
    refine lv_iload_n hx hb dX12_words_79 rfl (lv_at hl 3 rfl) ?_
    refine lv_iconst (v := 1) hx hb dX12_words_80 (by decide) ?_
    refine tk_Vi hC hK hw hT hA hE hSR kM_at0 (by decide) rfl (ky_X12_walkerOf_2 l adK adV dC dI cy ad B hB0 (Int.le_trans hB1 (by decide)) qr s1    w442 H.size hT ) (cwV 2 hC.2.2.2.2 uV_RX12_372 rfl rfl rfl (by decide +kernel) ⟨Nat.le_of_ble_eq_true rfl, Nat.le_of_ble_eq_true rfl⟩) rfl hl.1 rfl (Nat.le_of_ble_eq_true rfl) dX12_words_81 (fun r447 w449 H locs hp448 hw => ?_)
    obtain ⟨rfl, hv455, hg454⟩ := hp448
    obtain ⟨g451, g452, c453⟩ := hg454
    replace hM := hM.call hv455 rfl
    refine lv_i2l hx hb dX12_words_84 rfl ?_
    refine lv_topl (fun x456 ex456 => ?_)
    have ex456 : x456.toInt = r447.toInt := by rw [ex456]; exact wk_i2l _
    have bx456 := wk_i32 r447
    replace hM := hM.lt ex456.symm
    have hTq := hT
    refine tk_lastv hC hK hw hT kM_at11 (by decide) rfl (by decide) (by decide) dX12_words_85 (fun H locs w457 hw hT k459 c458 => ?_)
    replace hM := hM.wr (sL_upk hTq hT kM_at11 (kM_lt kM_at11) rfl k459 c458 rfl)
    have hF := hF.put kM_at11 (inE_of (a := 0) (b := 10) (by decide) (by decide) (by decide)) k459
    have c460 := k459.gi (Or.inl (tk_ne kM_at12 kM_at11 (by decide))) c445
    have c461 := k459.gi (Or.inl (tk_ne kM_at0 kM_at11 (by decide))) c446
    have c462 := k459.gi (Or.inl (tk_ne kM_at12 kM_at11 (by decide))) c453
    refine lv_aload_n hx hb dX12_words_86 rfl (lv_at hl 2 rfl) ?_
    refine tk_getA hC hK hw hT hinX12 kM_at0 (by decide) rfl 25 (by decide) (List.mem_cons_of_mem _ uw_7_0) rfl rfl dX12_words_87 ?_
    refine lv_iconst (v := 5) hx hb dX12_words_90 (by decide) ?_
    refine lv_aload_n hx hb dX12_words_91 rfl (lv_at hl 2 rfl) ?_
    refine lv_iload_n hx hb dX12_words_92 rfl (lv_at hl 3 rfl) ?_
    refine tk_Vi hC hK hw hT hA hE hSR kM_at0 (by decide) rfl (ky_X12_canGo_1 l adK adV dC dI cy ad B hB0 (Int.le_trans hB1 (by decide)) qr s1    w457 H.size hT ) (cwV 1 hC.2.2.2.2 uV_RX12_387 rfl rfl rfl (by decide +kernel) ⟨Nat.le_of_ble_eq_true rfl, Nat.le_of_ble_eq_true rfl⟩) rfl hl.1 rfl (Nat.le_of_ble_eq_true rfl) dX12_words_93 (fun r463 w465 H locs hp464 hw => ?_)
    obtain ⟨rfl, hv470, hg469⟩ := hp464
    rcases hg469 with rfl | ⟨rfl, ⟨x467, c468, rx467, tx467⟩⟩
    · replace hM := hM.call (r' := 0) hv470 (by decide)
      refine lv_if_eq (tgt := 103) hx hb dX12_words_96 (by decide) (fun _ => ?_) (fun c => absurd (by decide) c)
      replace hM := hM.pos (by decide)
      refine lv_lconst (v := 1) hx hb dX12_words_103 (by decide) ?_
      have hTq := hT
      refine tk_lastv hC hK hw hT kM_at11 (by decide) rfl (by decide) (by decide) dX12_words_104 (fun H locs w471 hw hT k473 c472 => ?_)
      replace hM := hM.wr (sL_upk hTq hT kM_at11 (kM_lt kM_at11) rfl k473 c472 (by decide))
      have hF := hF.put kM_at11 (inE_of (a := 0) (b := 10) (by decide) (by decide) (by decide)) k473
      have c474 := k473.gi (Or.inl (tk_ne kM_at12 kM_at11 (by decide))) c460
      have c475 := k473.gi (Or.inl (tk_ne kM_at0 kM_at11 (by decide))) c461
      have c476 := k473.gi (Or.inl (tk_ne kM_at12 kM_at11 (by decide))) c462
      refine lv_aload_n hx hb dX12_words_105 rfl (lv_at hl 2 rfl) ?_
      refine tk_getA hC hK hw hT hinX12 kM_at0 (by decide) rfl 25 (by decide) (List.mem_cons_of_mem _ uw_7_0) rfl rfl dX12_words_106 ?_
      refine lv_bipush (v := 6) hx hb dX12_words_109 (by decide) ?_
      refine lv_aload_n hx hb dX12_words_111 rfl (lv_at hl 2 rfl) ?_
      refine tk_getA hC hK hw hT hinX12 kM_at0 (by decide) rfl 29 (by decide) (List.mem_cons_of_mem _ uw_7_4) rfl rfl dX12_words_112 ?_
      refine lv_iload_n hx hb dX12_words_115 rfl (lv_at hl 0 rfl) ?_
      refine tk_iald hC hK hw hT kM_at14 rfl rfl (show 0 ≤ r10.toInt by first | with_reducible assumption | omega) (show r10.toInt < 10 by first | with_reducible assumption | omega) dX12_words_116 (fun x477 c478 rx477 tx477 => ?_)
      have hox477 := c478
      replace hM := hM.rd (sL_at (kM_lt kM_at14) hox477)
      have c478 : gi w471 14 (r10.toInt).toNat = x477 := (congrArg (gi w471 14) (congrArg Int.toNat (show r10.toInt = r10.toInt from rfl))).trans c478
      refine lv_ldcw (v := 100000000) hx hb hC.2.2.2.1 (hC.2.2.2.2 _ (List.mem_cons_of_mem _ uw_38_2)) dX12_words_117 ?_
      refine lv_icmp_ne (tgt := 127) hx hb dX12_words_120 (by decide) (fun c479 => ?_) (fun c479 => ?_)
      · have c479 : ¬ x477.toInt = (100000000 : Int) := wk_eqF c479
        replace hM := hM.pos c479
        refine lv_aload_n hx hb dX12_words_127 rfl (lv_at hl 2 rfl) ?_
        refine tk_getA hC hK hw hT hinX12 kM_at0 (by decide) rfl 29 (by decide) (List.mem_cons_of_mem _ uw_7_4) rfl rfl dX12_words_128 ?_
        refine lv_iload_n hx hb dX12_words_131 rfl (lv_at hl 0 rfl) ?_
        refine tk_iald hC hK hw hT kM_at14 rfl rfl (show 0 ≤ r10.toInt by first | with_reducible assumption | omega) (show r10.toInt < 10 by first | with_reducible assumption | omega) dX12_words_132 (fun x480 c481 rx480 tx480 => ?_)
        have hox480 := c481
        have c481 : gi w471 14 (r10.toInt).toNat = x480 := (congrArg (gi w471 14) (congrArg Int.toNat (show r10.toInt = r10.toInt from rfl))).trans c481
        refine wk_top x477 (c481.symm.trans c478) ?_
        replace hM := hM.rd ((sL_at (kM_lt kM_at14) hox480).trans (congrArg Int32.toInt (c481.symm.trans c478)))
        refine lv_i2l hx hb dX12_words_133 rfl ?_
        refine lv_topl (fun x482 ex482 => ?_)
        have ex482 : x482.toInt = x477.toInt := by rw [ex482]; exact wk_i2l _
        have bx482 := wk_i32 x477
        replace hM := hM.lt ex482.symm
        have hTq := hT
        refine tk_lastv hC hK hw hT kM_at11 (by decide) rfl (by decide) (by decide) dX12_words_134 (fun H locs w483 hw hT k485 c484 => ?_)
        replace hM := hM.wr (sL_upk hTq hT kM_at11 (kM_lt kM_at11) rfl k485 c484 rfl)
        have hF := hF.put kM_at11 (inE_of (a := 0) (b := 10) (by decide) (by decide) (by decide)) k485
        have c486 := k485.gi (Or.inl (tk_ne kM_at12 kM_at11 (by decide))) c474
        have c487 := k485.gi (Or.inl (tk_ne kM_at0 kM_at11 (by decide))) c475
        have c488 := k485.gi (Or.inl (tk_ne kM_at12 kM_at11 (by decide))) c476
        have c489 := k485.gi (Or.inl (tk_ne kM_at14 kM_at11 (by decide))) c478
        refine lv_aload_n hx hb dX12_words_135 rfl (lv_at hl 2 rfl) ?_
        refine tk_getA hC hK hw hT hinX12 kM_at0 (by decide) rfl 25 (by decide) (List.mem_cons_of_mem _ uw_7_0) rfl rfl dX12_words_136 ?_
        refine lv_bipush (v := 7) hx hb dX12_words_139 (by decide) ?_
        refine lv_aload_n hx hb dX12_words_141 rfl (lv_at hl 2 rfl) ?_
        refine tk_geti hC hK hw hT hinX12 kM_at0 (by decide) rfl 30 (by decide) (List.mem_cons_of_mem _ uw_47_4) rfl rfl dX12_words_142 (fun x490 c491 rx490 tx490 => ?_)
        refine wk_top x32 (c491.symm.trans c487) ?_
        replace hM := hM.rd (sL_at (kM_lt kM_at0) c487)
        refine lv_if_eq (tgt := 152) hx hb dX12_words_145 (by decide) (fun c => absurd c (fun h => absurd (show x32.toInt = (0 : Int) from wk_eq.mp h) (by omega))) (fun _ => ?_)
        replace hM := hM.neg (by omega)
        refine lv_lconst (v := 0) hx hb dX12_words_148 (by decide) ?_
        refine lv_goto (tgt := 159) hx hb dX12_words_149 (by decide) ?_
        have hTq := hT
        refine tk_lastv hC hK hw hT kM_at11 (by decide) rfl (by decide) (by decide) dX12_words_159 (fun H locs w492 hw hT k494 c493 => ?_)
        replace hM := hM.wr (sL_upk hTq hT kM_at11 (kM_lt kM_at11) rfl k494 c493 (by decide))
        have hF := hF.put kM_at11 (inE_of (a := 0) (b := 10) (by decide) (by decide) (by decide)) k494
        have c495 := k494.gi (Or.inl (tk_ne kM_at12 kM_at11 (by decide))) c486
        have c496 := k494.gi (Or.inl (tk_ne kM_at0 kM_at11 (by decide))) c487
        have c497 := k494.gi (Or.inl (tk_ne kM_at12 kM_at11 (by decide))) c488
        have c498 := k494.gi (Or.inl (tk_ne kM_at14 kM_at11 (by decide))) c489
        refine lv_aload_n hx hb dX12_words_160 rfl (lv_at hl 2 rfl) ?_
        refine tk_getA hC hK hw hT hinX12 kM_at0 (by decide) rfl 25 (by decide) (List.mem_cons_of_mem _ uw_7_0) rfl rfl dX12_words_161 ?_
        refine lv_bipush (v := 8) hx hb dX12_words_164 (by decide) ?_
        refine lv_aload_n hx hb dX12_words_166 rfl (lv_at hl 2 rfl) ?_
        refine lv_iload_n hx hb dX12_words_167 rfl (lv_at hl 3 rfl) ?_
        refine lv_bipush (v := 6) hx hb dX12_words_168 (by decide) ?_
        refine tk_Vi hC hK hw hT hA hE hSR kM_at0 (by decide) rfl (ky_X12_walkerOf_8 l adK adV dC dI cy ad B hB0 (Int.le_trans hB1 (by decide)) qr s1    w492 H.size hT ) (cwV 2 hC.2.2.2.2 uV_RX12_372 rfl rfl rfl (by decide +kernel) ⟨Nat.le_of_ble_eq_true rfl, Nat.le_of_ble_eq_true rfl⟩) rfl hl.1 rfl (Nat.le_of_ble_eq_true rfl) dX12_words_170 (fun r499 w501 H locs hp500 hw => ?_)
        obtain ⟨rfl, hv505, hg504⟩ := hp500
        have c503 := hg504
        replace hM := hM.call hv505 rfl
        refine lv_i2l hx hb dX12_words_173 rfl ?_
        refine lv_topl (fun x506 ex506 => ?_)
        have ex506 : x506.toInt = r499.toInt := by rw [ex506]; exact wk_i2l _
        have bx506 := wk_i32 r499
        replace hM := hM.lt ex506.symm
        have hTq := hT
        refine tk_lastv hC hK hw hT kM_at11 (by decide) rfl (by decide) (by decide) dX12_words_174 (fun H locs w507 hw hT k509 c508 => ?_)
        replace hM := hM.wr (sL_upk hTq hT kM_at11 (kM_lt kM_at11) rfl k509 c508 rfl)
        have hF := hF.put kM_at11 (inE_of (a := 0) (b := 10) (by decide) (by decide) (by decide)) k509
        have c510 := k509.gi (Or.inl (tk_ne kM_at12 kM_at11 (by decide))) c495
        have c511 := k509.gi (Or.inl (tk_ne kM_at0 kM_at11 (by decide))) c496
        have c512 := k509.gi (Or.inl (tk_ne kM_at12 kM_at11 (by decide))) c497
        have c513 := k509.gi (Or.inl (tk_ne kM_at14 kM_at11 (by decide))) c498
        have c514 := k509.gi (Or.inl (tk_ne kM_at12 kM_at11 (by decide))) c503
        refine lv_aload_n hx hb dX12_words_175 rfl (lv_at hl 2 rfl) ?_
        refine tk_getA hC hK hw hT hinX12 kM_at0 (by decide) rfl 25 (by decide) (List.mem_cons_of_mem _ uw_7_0) rfl rfl dX12_words_176 ?_
        refine lv_bipush (v := 9) hx hb dX12_words_179 (by decide) ?_
        refine lv_aload_n hx hb dX12_words_181 rfl (lv_at hl 2 rfl) ?_
        refine lv_iload_n hx hb dX12_words_182 rfl (lv_at hl 3 rfl) ?_
        refine lv_bipush (v := 7) hx hb dX12_words_183 (by decide) ?_
        refine tk_Vi hC hK hw hT hA hE hSR kM_at0 (by decide) rfl (ky_X12_walkerOf_9 l adK adV dC dI cy ad B hB0 (Int.le_trans hB1 (by decide)) qr s1    w507 H.size hT ) (cwV 2 hC.2.2.2.2 uV_RX12_372 rfl rfl rfl (by decide +kernel) ⟨Nat.le_of_ble_eq_true rfl, Nat.le_of_ble_eq_true rfl⟩) rfl hl.1 rfl (Nat.le_of_ble_eq_true rfl) dX12_words_185 (fun r515 w517 H locs hp516 hw => ?_)
        obtain ⟨rfl, hv523, hg522⟩ := hp516
        obtain ⟨g519, g520, c521⟩ := hg522
        replace hM := hM.call hv523 rfl
        refine lv_if_ge (tgt := 197) hx hb dX12_words_188 (by decide) (fun c524 => ?_) (fun c524 => ?_)
        · have c524 : (0 : Int) ≤ r515.toInt := wk_le.mp c524
          replace hM := hM.pos c524
          refine lv_aload_n hx hb dX12_words_197 rfl (lv_at hl 2 rfl) ?_
          refine lv_iload_n hx hb dX12_words_198 rfl (lv_at hl 3 rfl) ?_
          refine lv_bipush (v := 7) hx hb dX12_words_199 (by decide) ?_
          refine tk_Vi hC hK hw hT hA hE hSR kM_at0 (by decide) rfl (ky_X12_walkerOf_9 l adK adV dC dI cy ad B hB0 (Int.le_trans hB1 (by decide)) qr s1    w507 H.size hT ) (cwV 2 hC.2.2.2.2 uV_RX12_372 rfl rfl rfl (by decide +kernel) ⟨Nat.le_of_ble_eq_true rfl, Nat.le_of_ble_eq_true rfl⟩) rfl hl.1 rfl (Nat.le_of_ble_eq_true rfl) dX12_words_201 (fun r525 w527 H locs hp526 hw => ?_)
          obtain ⟨rfl, hv533, hg532⟩ := hp526
          obtain ⟨g529, g530, c531⟩ := hg532
          replace hM := hM.call hv533 rfl
          obtain rfl : r515 = r525 := c521.symm.trans c531
          refine lv_i2l hx hb dX12_words_204 rfl ?_
          refine lv_topl (fun x534 ex534 => ?_)
          have ex534 : x534.toInt = r515.toInt := by rw [ex534]; exact wk_i2l _
          have bx534 := wk_i32 r515
          replace hM := hM.lt ex534.symm
          have hTq := hT
          refine tk_lastv hC hK hw hT kM_at11 (by decide) rfl (by decide) (by decide) dX12_words_205 (fun H locs w535 hw hT k537 c536 => ?_)
          replace hM := hM.wr (sL_upk hTq hT kM_at11 (kM_lt kM_at11) rfl k537 c536 rfl)
          have hF := hF.put kM_at11 (inE_of (a := 0) (b := 10) (by decide) (by decide) (by decide)) k537
          have c538 := k537.gi (Or.inl (tk_ne kM_at12 kM_at11 (by decide))) c510
          have c539 := k537.gi (Or.inl (tk_ne kM_at0 kM_at11 (by decide))) c511
          have c540 := k537.gi (Or.inl (tk_ne kM_at12 kM_at11 (by decide))) c512
          have c541 := k537.gi (Or.inl (tk_ne kM_at14 kM_at11 (by decide))) c513
          have c542 := k537.gi (Or.inl (tk_ne kM_at12 kM_at11 (by decide))) c514
          have c543 := k537.gi (Or.inl (tk_ne kM_at12 kM_at11 (by decide))) c521
          exact tk_vret hC hr hlocks hK ⟨hT, hF, hM.ret rfl, ⟨⟨x32, c539, (show 0 ≤ x32.toInt from rx32), (show x32.toInt ≤ 1 from tx32)⟩, ⟨r515, c543, (show (-1) ≤ r515.toInt by first | with_reducible assumption | omega), (show r515.toInt ≤ 9 by first | with_reducible assumption | omega)⟩⟩⟩ hw dX12_words_206
        · have c524 : r515.toInt < (0 : Int) := wk_leF c524
          replace hM := hM.neg (Int.not_le.mpr c524)
          refine lv_ldc2 (v := 99) hx hb hC.2.2.2.1 (hC.2.2.2.2 _ (List.mem_cons_of_mem _ uw_48_1)) dX12_words_191 ?_
          refine lv_goto (tgt := 205) hx hb dX12_words_194 (by decide) ?_
          have hTq := hT
          refine tk_lastv hC hK hw hT kM_at11 (by decide) rfl (by decide) (by decide) dX12_words_205 (fun H locs w544 hw hT k546 c545 => ?_)
          replace hM := hM.wr (sL_upk hTq hT kM_at11 (kM_lt kM_at11) rfl k546 c545 (by decide))
          have hF := hF.put kM_at11 (inE_of (a := 0) (b := 10) (by decide) (by decide) (by decide)) k546
          have c547 := k546.gi (Or.inl (tk_ne kM_at12 kM_at11 (by decide))) c510
          have c548 := k546.gi (Or.inl (tk_ne kM_at0 kM_at11 (by decide))) c511
          have c549 := k546.gi (Or.inl (tk_ne kM_at12 kM_at11 (by decide))) c512
          have c550 := k546.gi (Or.inl (tk_ne kM_at14 kM_at11 (by decide))) c513
          have c551 := k546.gi (Or.inl (tk_ne kM_at12 kM_at11 (by decide))) c514
          have c552 := k546.gi (Or.inl (tk_ne kM_at12 kM_at11 (by decide))) c521
          exact tk_vret hC hr hlocks hK ⟨hT, hF, hM.ret rfl, ⟨⟨x32, c548, (show 0 ≤ x32.toInt from rx32), (show x32.toInt ≤ 1 from tx32)⟩, ⟨r515, c552, (show (-1) ≤ r515.toInt by first | with_reducible assumption | omega), (show r515.toInt ≤ 9 by first | with_reducible assumption | omega)⟩⟩⟩ hw dX12_words_206
      · have c479 : x477.toInt = (100000000 : Int) := wk_eq.mp c479
        replace hM := hM.neg (fun q => q c479)
        refine lv_lconst (v := 0) hx hb dX12_words_123 (by decide) ?_
        refine lv_goto (tgt := 134) hx hb dX12_words_124 (by decide) ?_
        have hTq := hT
        refine tk_lastv hC hK hw hT kM_at11 (by decide) rfl (by decide) (by decide) dX12_words_134 (fun H locs w553 hw hT k555 c554 => ?_)
        replace hM := hM.wr (sL_upk hTq hT kM_at11 (kM_lt kM_at11) rfl k555 c554 (by decide))
        have hF := hF.put kM_at11 (inE_of (a := 0) (b := 10) (by decide) (by decide) (by decide)) k555
        have c556 := k555.gi (Or.inl (tk_ne kM_at12 kM_at11 (by decide))) c474
        have c557 := k555.gi (Or.inl (tk_ne kM_at0 kM_at11 (by decide))) c475
        have c558 := k555.gi (Or.inl (tk_ne kM_at12 kM_at11 (by decide))) c476
        have c559 := k555.gi (Or.inl (tk_ne kM_at14 kM_at11 (by decide))) c478
        refine lv_aload_n hx hb dX12_words_135 rfl (lv_at hl 2 rfl) ?_
        refine tk_getA hC hK hw hT hinX12 kM_at0 (by decide) rfl 25 (by decide) (List.mem_cons_of_mem _ uw_7_0) rfl rfl dX12_words_136 ?_
        refine lv_bipush (v := 7) hx hb dX12_words_139 (by decide) ?_
        refine lv_aload_n hx hb dX12_words_141 rfl (lv_at hl 2 rfl) ?_
        refine tk_geti hC hK hw hT hinX12 kM_at0 (by decide) rfl 30 (by decide) (List.mem_cons_of_mem _ uw_47_4) rfl rfl dX12_words_142 (fun x560 c561 rx560 tx560 => ?_)
        refine wk_top x32 (c561.symm.trans c557) ?_
        replace hM := hM.rd (sL_at (kM_lt kM_at0) c557)
        refine lv_if_eq (tgt := 152) hx hb dX12_words_145 (by decide) (fun c => absurd c (fun h => absurd (show x32.toInt = (0 : Int) from wk_eq.mp h) (by omega))) (fun _ => ?_)
        replace hM := hM.neg (by omega)
        refine lv_lconst (v := 0) hx hb dX12_words_148 (by decide) ?_
        refine lv_goto (tgt := 159) hx hb dX12_words_149 (by decide) ?_
        have hTq := hT
        refine tk_lastv hC hK hw hT kM_at11 (by decide) rfl (by decide) (by decide) dX12_words_159 (fun H locs w562 hw hT k564 c563 => ?_)
        replace hM := hM.wr (sL_upk hTq hT kM_at11 (kM_lt kM_at11) rfl k564 c563 (by decide))
        have hF := hF.put kM_at11 (inE_of (a := 0) (b := 10) (by decide) (by decide) (by decide)) k564
        have c565 := k564.gi (Or.inl (tk_ne kM_at12 kM_at11 (by decide))) c556
        have c566 := k564.gi (Or.inl (tk_ne kM_at0 kM_at11 (by decide))) c557
        have c567 := k564.gi (Or.inl (tk_ne kM_at12 kM_at11 (by decide))) c558
        have c568 := k564.gi (Or.inl (tk_ne kM_at14 kM_at11 (by decide))) c559
        refine lv_aload_n hx hb dX12_words_160 rfl (lv_at hl 2 rfl) ?_
        refine tk_getA hC hK hw hT hinX12 kM_at0 (by decide) rfl 25 (by decide) (List.mem_cons_of_mem _ uw_7_0) rfl rfl dX12_words_161 ?_
        refine lv_bipush (v := 8) hx hb dX12_words_164 (by decide) ?_
        refine lv_aload_n hx hb dX12_words_166 rfl (lv_at hl 2 rfl) ?_
        refine lv_iload_n hx hb dX12_words_167 rfl (lv_at hl 3 rfl) ?_
        refine lv_bipush (v := 6) hx hb dX12_words_168 (by decide) ?_
        refine tk_Vi hC hK hw hT hA hE hSR kM_at0 (by decide) rfl (ky_X12_walkerOf_8 l adK adV dC dI cy ad B hB0 (Int.le_trans hB1 (by decide)) qr s1    w562 H.size hT ) (cwV 2 hC.2.2.2.2 uV_RX12_372 rfl rfl rfl (by decide +kernel) ⟨Nat.le_of_ble_eq_true rfl, Nat.le_of_ble_eq_true rfl⟩) rfl hl.1 rfl (Nat.le_of_ble_eq_true rfl) dX12_words_170 (fun r569 w571 H locs hp570 hw => ?_)
        obtain ⟨rfl, hv575, hg574⟩ := hp570
        have c573 := hg574
        replace hM := hM.call hv575 rfl
        refine lv_i2l hx hb dX12_words_173 rfl ?_
        refine lv_topl (fun x576 ex576 => ?_)
        have ex576 : x576.toInt = r569.toInt := by rw [ex576]; exact wk_i2l _
        have bx576 := wk_i32 r569
        replace hM := hM.lt ex576.symm
        have hTq := hT
        refine tk_lastv hC hK hw hT kM_at11 (by decide) rfl (by decide) (by decide) dX12_words_174 (fun H locs w577 hw hT k579 c578 => ?_)
        replace hM := hM.wr (sL_upk hTq hT kM_at11 (kM_lt kM_at11) rfl k579 c578 rfl)
        have hF := hF.put kM_at11 (inE_of (a := 0) (b := 10) (by decide) (by decide) (by decide)) k579
        have c580 := k579.gi (Or.inl (tk_ne kM_at12 kM_at11 (by decide))) c565
        have c581 := k579.gi (Or.inl (tk_ne kM_at0 kM_at11 (by decide))) c566
        have c582 := k579.gi (Or.inl (tk_ne kM_at12 kM_at11 (by decide))) c567
        have c583 := k579.gi (Or.inl (tk_ne kM_at14 kM_at11 (by decide))) c568
        have c584 := k579.gi (Or.inl (tk_ne kM_at12 kM_at11 (by decide))) c573
        refine lv_aload_n hx hb dX12_words_175 rfl (lv_at hl 2 rfl) ?_
        refine tk_getA hC hK hw hT hinX12 kM_at0 (by decide) rfl 25 (by decide) (List.mem_cons_of_mem _ uw_7_0) rfl rfl dX12_words_176 ?_
        refine lv_bipush (v := 9) hx hb dX12_words_179 (by decide) ?_
        refine lv_aload_n hx hb dX12_words_181 rfl (lv_at hl 2 rfl) ?_
        refine lv_iload_n hx hb dX12_words_182 rfl (lv_at hl 3 rfl) ?_
        refine lv_bipush (v := 7) hx hb dX12_words_183 (by decide) ?_
        refine tk_Vi hC hK hw hT hA hE hSR kM_at0 (by decide) rfl (ky_X12_walkerOf_9 l adK adV dC dI cy ad B hB0 (Int.le_trans hB1 (by decide)) qr s1    w577 H.size hT ) (cwV 2 hC.2.2.2.2 uV_RX12_372 rfl rfl rfl (by decide +kernel) ⟨Nat.le_of_ble_eq_true rfl, Nat.le_of_ble_eq_true rfl⟩) rfl hl.1 rfl (Nat.le_of_ble_eq_true rfl) dX12_words_185 (fun r585 w587 H locs hp586 hw => ?_)
        obtain ⟨rfl, hv593, hg592⟩ := hp586
        obtain ⟨g589, g590, c591⟩ := hg592
        replace hM := hM.call hv593 rfl
        refine lv_if_ge (tgt := 197) hx hb dX12_words_188 (by decide) (fun c594 => ?_) (fun c594 => ?_)
        · have c594 : (0 : Int) ≤ r585.toInt := wk_le.mp c594
          replace hM := hM.pos c594
          refine lv_aload_n hx hb dX12_words_197 rfl (lv_at hl 2 rfl) ?_
          refine lv_iload_n hx hb dX12_words_198 rfl (lv_at hl 3 rfl) ?_
          refine lv_bipush (v := 7) hx hb dX12_words_199 (by decide) ?_
          refine tk_Vi hC hK hw hT hA hE hSR kM_at0 (by decide) rfl (ky_X12_walkerOf_9 l adK adV dC dI cy ad B hB0 (Int.le_trans hB1 (by decide)) qr s1    w577 H.size hT ) (cwV 2 hC.2.2.2.2 uV_RX12_372 rfl rfl rfl (by decide +kernel) ⟨Nat.le_of_ble_eq_true rfl, Nat.le_of_ble_eq_true rfl⟩) rfl hl.1 rfl (Nat.le_of_ble_eq_true rfl) dX12_words_201 (fun r595 w597 H locs hp596 hw => ?_)
          obtain ⟨rfl, hv603, hg602⟩ := hp596
          obtain ⟨g599, g600, c601⟩ := hg602
          replace hM := hM.call hv603 rfl
          obtain rfl : r585 = r595 := c591.symm.trans c601
          refine lv_i2l hx hb dX12_words_204 rfl ?_
          refine lv_topl (fun x604 ex604 => ?_)
          have ex604 : x604.toInt = r585.toInt := by rw [ex604]; exact wk_i2l _
          have bx604 := wk_i32 r585
          replace hM := hM.lt ex604.symm
          have hTq := hT
          refine tk_lastv hC hK hw hT kM_at11 (by decide) rfl (by decide) (by decide) dX12_words_205 (fun H locs w605 hw hT k607 c606 => ?_)
          replace hM := hM.wr (sL_upk hTq hT kM_at11 (kM_lt kM_at11) rfl k607 c606 rfl)
          have hF := hF.put kM_at11 (inE_of (a := 0) (b := 10) (by decide) (by decide) (by decide)) k607
          have c608 := k607.gi (Or.inl (tk_ne kM_at12 kM_at11 (by decide))) c580
          have c609 := k607.gi (Or.inl (tk_ne kM_at0 kM_at11 (by decide))) c581
          have c610 := k607.gi (Or.inl (tk_ne kM_at12 kM_at11 (by decide))) c582
          have c611 := k607.gi (Or.inl (tk_ne kM_at14 kM_at11 (by decide))) c583
          have c612 := k607.gi (Or.inl (tk_ne kM_at12 kM_at11 (by decide))) c584
          have c613 := k607.gi (Or.inl (tk_ne kM_at12 kM_at11 (by decide))) c591
          exact tk_vret hC hr hlocks hK ⟨hT, hF, hM.ret rfl, ⟨⟨x32, c609, (show 0 ≤ x32.toInt from rx32), (show x32.toInt ≤ 1 from tx32)⟩, ⟨r585, c613, (show (-1) ≤ r585.toInt by first | with_reducible assumption | omega), (show r585.toInt ≤ 9 by first | with_reducible assumption | omega)⟩⟩⟩ hw dX12_words_206
        · have c594 : r585.toInt < (0 : Int) := wk_leF c594
          replace hM := hM.neg (Int.not_le.mpr c594)
          refine lv_ldc2 (v := 99) hx hb hC.2.2.2.1 (hC.2.2.2.2 _ (List.mem_cons_of_mem _ uw_48_1)) dX12_words_191 ?_
          refine lv_goto (tgt := 205) hx hb dX12_words_194 (by decide) ?_
          have hTq := hT
          refine tk_lastv hC hK hw hT kM_at11 (by decide) rfl (by decide) (by decide) dX12_words_205 (fun H locs w614 hw hT k616 c615 => ?_)
          replace hM := hM.wr (sL_upk hTq hT kM_at11 (kM_lt kM_at11) rfl k616 c615 (by decide))
          have hF := hF.put kM_at11 (inE_of (a := 0) (b := 10) (by decide) (by decide) (by decide)) k616
          have c617 := k616.gi (Or.inl (tk_ne kM_at12 kM_at11 (by decide))) c580
          have c618 := k616.gi (Or.inl (tk_ne kM_at0 kM_at11 (by decide))) c581
          have c619 := k616.gi (Or.inl (tk_ne kM_at12 kM_at11 (by decide))) c582
          have c620 := k616.gi (Or.inl (tk_ne kM_at14 kM_at11 (by decide))) c583
          have c621 := k616.gi (Or.inl (tk_ne kM_at12 kM_at11 (by decide))) c584
          have c622 := k616.gi (Or.inl (tk_ne kM_at12 kM_at11 (by decide))) c591
          exact tk_vret hC hr hlocks hK ⟨hT, hF, hM.ret rfl, ⟨⟨x32, c618, (show 0 ≤ x32.toInt from rx32), (show x32.toInt ≤ 1 from tx32)⟩, ⟨r585, c622, (show (-1) ≤ r585.toInt by first | with_reducible assumption | omega), (show r585.toInt ≤ 9 by first | with_reducible assumption | omega)⟩⟩⟩ hw dX12_words_206
    · replace hM := hM.call (r' := 1) hv470 (by decide)
      refine lv_if_eq (tgt := 103) hx hb dX12_words_96 (by decide) (fun c => absurd c (by decide)) (fun _ => ?_)
      replace hM := hM.neg (by decide)
      refine lv_lconst (v := 0) hx hb dX12_words_99 (by decide) ?_
      refine lv_goto (tgt := 104) hx hb dX12_words_100 (by decide) ?_
      have hTq := hT
      refine tk_lastv hC hK hw hT kM_at11 (by decide) rfl (by decide) (by decide) dX12_words_104 (fun H locs w623 hw hT k625 c624 => ?_)
      replace hM := hM.wr (sL_upk hTq hT kM_at11 (kM_lt kM_at11) rfl k625 c624 (by decide))
      have hF := hF.put kM_at11 (inE_of (a := 0) (b := 10) (by decide) (by decide) (by decide)) k625
      have c626 := k625.gi (Or.inl (tk_ne kM_at12 kM_at11 (by decide))) c460
      have c627 := k625.gi (Or.inl (tk_ne kM_at0 kM_at11 (by decide))) c461
      have c628 := k625.gi (Or.inl (tk_ne kM_at12 kM_at11 (by decide))) c462
      have c629 := k625.gi (Or.inl (tk_ne kM_at0 kM_at11 (by decide))) c468
      refine lv_aload_n hx hb dX12_words_105 rfl (lv_at hl 2 rfl) ?_
      refine tk_getA hC hK hw hT hinX12 kM_at0 (by decide) rfl 25 (by decide) (List.mem_cons_of_mem _ uw_7_0) rfl rfl dX12_words_106 ?_
      refine lv_bipush (v := 6) hx hb dX12_words_109 (by decide) ?_
      refine lv_aload_n hx hb dX12_words_111 rfl (lv_at hl 2 rfl) ?_
      refine tk_getA hC hK hw hT hinX12 kM_at0 (by decide) rfl 29 (by decide) (List.mem_cons_of_mem _ uw_7_4) rfl rfl dX12_words_112 ?_
      refine lv_iload_n hx hb dX12_words_115 rfl (lv_at hl 0 rfl) ?_
      refine tk_iald hC hK hw hT kM_at14 rfl rfl (show 0 ≤ r10.toInt by first | with_reducible assumption | omega) (show r10.toInt < 10 by first | with_reducible assumption | omega) dX12_words_116 (fun x630 c631 rx630 tx630 => ?_)
      have hox630 := c631
      replace hM := hM.rd (sL_at (kM_lt kM_at14) hox630)
      have c631 : gi w623 14 (r10.toInt).toNat = x630 := (congrArg (gi w623 14) (congrArg Int.toNat (show r10.toInt = r10.toInt from rfl))).trans c631
      refine lv_ldcw (v := 100000000) hx hb hC.2.2.2.1 (hC.2.2.2.2 _ (List.mem_cons_of_mem _ uw_38_2)) dX12_words_117 ?_
      refine lv_icmp_ne (tgt := 127) hx hb dX12_words_120 (by decide) (fun c632 => ?_) (fun c632 => ?_)
      · have c632 : ¬ x630.toInt = (100000000 : Int) := wk_eqF c632
        replace hM := hM.pos c632
        refine lv_aload_n hx hb dX12_words_127 rfl (lv_at hl 2 rfl) ?_
        refine tk_getA hC hK hw hT hinX12 kM_at0 (by decide) rfl 29 (by decide) (List.mem_cons_of_mem _ uw_7_4) rfl rfl dX12_words_128 ?_
        refine lv_iload_n hx hb dX12_words_131 rfl (lv_at hl 0 rfl) ?_
        refine tk_iald hC hK hw hT kM_at14 rfl rfl (show 0 ≤ r10.toInt by first | with_reducible assumption | omega) (show r10.toInt < 10 by first | with_reducible assumption | omega) dX12_words_132 (fun x633 c634 rx633 tx633 => ?_)
        have hox633 := c634
        have c634 : gi w623 14 (r10.toInt).toNat = x633 := (congrArg (gi w623 14) (congrArg Int.toNat (show r10.toInt = r10.toInt from rfl))).trans c634
        refine wk_top x630 (c634.symm.trans c631) ?_
        replace hM := hM.rd ((sL_at (kM_lt kM_at14) hox633).trans (congrArg Int32.toInt (c634.symm.trans c631)))
        refine lv_i2l hx hb dX12_words_133 rfl ?_
        refine lv_topl (fun x635 ex635 => ?_)
        have ex635 : x635.toInt = x630.toInt := by rw [ex635]; exact wk_i2l _
        have bx635 := wk_i32 x630
        replace hM := hM.lt ex635.symm
        have hTq := hT
        refine tk_lastv hC hK hw hT kM_at11 (by decide) rfl (by decide) (by decide) dX12_words_134 (fun H locs w636 hw hT k638 c637 => ?_)
        replace hM := hM.wr (sL_upk hTq hT kM_at11 (kM_lt kM_at11) rfl k638 c637 rfl)
        have hF := hF.put kM_at11 (inE_of (a := 0) (b := 10) (by decide) (by decide) (by decide)) k638
        have c639 := k638.gi (Or.inl (tk_ne kM_at12 kM_at11 (by decide))) c626
        have c640 := k638.gi (Or.inl (tk_ne kM_at0 kM_at11 (by decide))) c627
        have c641 := k638.gi (Or.inl (tk_ne kM_at12 kM_at11 (by decide))) c628
        have c642 := k638.gi (Or.inl (tk_ne kM_at0 kM_at11 (by decide))) c629
        have c643 := k638.gi (Or.inl (tk_ne kM_at14 kM_at11 (by decide))) c631
        refine lv_aload_n hx hb dX12_words_135 rfl (lv_at hl 2 rfl) ?_
        refine tk_getA hC hK hw hT hinX12 kM_at0 (by decide) rfl 25 (by decide) (List.mem_cons_of_mem _ uw_7_0) rfl rfl dX12_words_136 ?_
        refine lv_bipush (v := 7) hx hb dX12_words_139 (by decide) ?_
        refine lv_aload_n hx hb dX12_words_141 rfl (lv_at hl 2 rfl) ?_
        refine tk_geti hC hK hw hT hinX12 kM_at0 (by decide) rfl 30 (by decide) (List.mem_cons_of_mem _ uw_47_4) rfl rfl dX12_words_142 (fun x644 c645 rx644 tx644 => ?_)
        refine wk_top x32 (c645.symm.trans c640) ?_
        replace hM := hM.rd (sL_at (kM_lt kM_at0) c640)
        refine lv_if_eq (tgt := 152) hx hb dX12_words_145 (by decide) (fun c => absurd c (fun h => absurd (show x32.toInt = (0 : Int) from wk_eq.mp h) (by omega))) (fun _ => ?_)
        replace hM := hM.neg (by omega)
        refine lv_lconst (v := 0) hx hb dX12_words_148 (by decide) ?_
        refine lv_goto (tgt := 159) hx hb dX12_words_149 (by decide) ?_
        have hTq := hT
        refine tk_lastv hC hK hw hT kM_at11 (by decide) rfl (by decide) (by decide) dX12_words_159 (fun H locs w646 hw hT k648 c647 => ?_)
        replace hM := hM.wr (sL_upk hTq hT kM_at11 (kM_lt kM_at11) rfl k648 c647 (by decide))
        have hF := hF.put kM_at11 (inE_of (a := 0) (b := 10) (by decide) (by decide) (by decide)) k648
        have c649 := k648.gi (Or.inl (tk_ne kM_at12 kM_at11 (by decide))) c639
        have c650 := k648.gi (Or.inl (tk_ne kM_at0 kM_at11 (by decide))) c640
        have c651 := k648.gi (Or.inl (tk_ne kM_at12 kM_at11 (by decide))) c641
        have c652 := k648.gi (Or.inl (tk_ne kM_at0 kM_at11 (by decide))) c642
        have c653 := k648.gi (Or.inl (tk_ne kM_at14 kM_at11 (by decide))) c643
        refine lv_aload_n hx hb dX12_words_160 rfl (lv_at hl 2 rfl) ?_
        refine tk_getA hC hK hw hT hinX12 kM_at0 (by decide) rfl 25 (by decide) (List.mem_cons_of_mem _ uw_7_0) rfl rfl dX12_words_161 ?_
        refine lv_bipush (v := 8) hx hb dX12_words_164 (by decide) ?_
        refine lv_aload_n hx hb dX12_words_166 rfl (lv_at hl 2 rfl) ?_
        refine lv_iload_n hx hb dX12_words_167 rfl (lv_at hl 3 rfl) ?_
        refine lv_bipush (v := 6) hx hb dX12_words_168 (by decide) ?_
        refine tk_Vi hC hK hw hT hA hE hSR kM_at0 (by decide) rfl (ky_X12_walkerOf_8 l adK adV dC dI cy ad B hB0 (Int.le_trans hB1 (by decide)) qr s1    w646 H.size hT ) (cwV 2 hC.2.2.2.2 uV_RX12_372 rfl rfl rfl (by decide +kernel) ⟨Nat.le_of_ble_eq_true rfl, Nat.le_of_ble_eq_true rfl⟩) rfl hl.1 rfl (Nat.le_of_ble_eq_true rfl) dX12_words_170 (fun r654 w656 H locs hp655 hw => ?_)
        obtain ⟨rfl, hv660, hg659⟩ := hp655
        have c658 := hg659
        replace hM := hM.call hv660 rfl
        refine lv_i2l hx hb dX12_words_173 rfl ?_
        refine lv_topl (fun x661 ex661 => ?_)
        have ex661 : x661.toInt = r654.toInt := by rw [ex661]; exact wk_i2l _
        have bx661 := wk_i32 r654
        replace hM := hM.lt ex661.symm
        have hTq := hT
        refine tk_lastv hC hK hw hT kM_at11 (by decide) rfl (by decide) (by decide) dX12_words_174 (fun H locs w662 hw hT k664 c663 => ?_)
        replace hM := hM.wr (sL_upk hTq hT kM_at11 (kM_lt kM_at11) rfl k664 c663 rfl)
        have hF := hF.put kM_at11 (inE_of (a := 0) (b := 10) (by decide) (by decide) (by decide)) k664
        have c665 := k664.gi (Or.inl (tk_ne kM_at12 kM_at11 (by decide))) c649
        have c666 := k664.gi (Or.inl (tk_ne kM_at0 kM_at11 (by decide))) c650
        have c667 := k664.gi (Or.inl (tk_ne kM_at12 kM_at11 (by decide))) c651
        have c668 := k664.gi (Or.inl (tk_ne kM_at0 kM_at11 (by decide))) c652
        have c669 := k664.gi (Or.inl (tk_ne kM_at14 kM_at11 (by decide))) c653
        have c670 := k664.gi (Or.inl (tk_ne kM_at12 kM_at11 (by decide))) c658
        refine lv_aload_n hx hb dX12_words_175 rfl (lv_at hl 2 rfl) ?_
        refine tk_getA hC hK hw hT hinX12 kM_at0 (by decide) rfl 25 (by decide) (List.mem_cons_of_mem _ uw_7_0) rfl rfl dX12_words_176 ?_
        refine lv_bipush (v := 9) hx hb dX12_words_179 (by decide) ?_
        refine lv_aload_n hx hb dX12_words_181 rfl (lv_at hl 2 rfl) ?_
        refine lv_iload_n hx hb dX12_words_182 rfl (lv_at hl 3 rfl) ?_
        refine lv_bipush (v := 7) hx hb dX12_words_183 (by decide) ?_
        refine tk_Vi hC hK hw hT hA hE hSR kM_at0 (by decide) rfl (ky_X12_walkerOf_9 l adK adV dC dI cy ad B hB0 (Int.le_trans hB1 (by decide)) qr s1    w662 H.size hT ) (cwV 2 hC.2.2.2.2 uV_RX12_372 rfl rfl rfl (by decide +kernel) ⟨Nat.le_of_ble_eq_true rfl, Nat.le_of_ble_eq_true rfl⟩) rfl hl.1 rfl (Nat.le_of_ble_eq_true rfl) dX12_words_185 (fun r671 w673 H locs hp672 hw => ?_)
        obtain ⟨rfl, hv679, hg678⟩ := hp672
        obtain ⟨g675, g676, c677⟩ := hg678
        replace hM := hM.call hv679 rfl
        refine lv_if_ge (tgt := 197) hx hb dX12_words_188 (by decide) (fun c680 => ?_) (fun c680 => ?_)
        · have c680 : (0 : Int) ≤ r671.toInt := wk_le.mp c680
          replace hM := hM.pos c680
          refine lv_aload_n hx hb dX12_words_197 rfl (lv_at hl 2 rfl) ?_
          refine lv_iload_n hx hb dX12_words_198 rfl (lv_at hl 3 rfl) ?_
          refine lv_bipush (v := 7) hx hb dX12_words_199 (by decide) ?_
          refine tk_Vi hC hK hw hT hA hE hSR kM_at0 (by decide) rfl (ky_X12_walkerOf_9 l adK adV dC dI cy ad B hB0 (Int.le_trans hB1 (by decide)) qr s1    w662 H.size hT ) (cwV 2 hC.2.2.2.2 uV_RX12_372 rfl rfl rfl (by decide +kernel) ⟨Nat.le_of_ble_eq_true rfl, Nat.le_of_ble_eq_true rfl⟩) rfl hl.1 rfl (Nat.le_of_ble_eq_true rfl) dX12_words_201 (fun r681 w683 H locs hp682 hw => ?_)
          obtain ⟨rfl, hv689, hg688⟩ := hp682
          obtain ⟨g685, g686, c687⟩ := hg688
          replace hM := hM.call hv689 rfl
          obtain rfl : r671 = r681 := c677.symm.trans c687
          refine lv_i2l hx hb dX12_words_204 rfl ?_
          refine lv_topl (fun x690 ex690 => ?_)
          have ex690 : x690.toInt = r671.toInt := by rw [ex690]; exact wk_i2l _
          have bx690 := wk_i32 r671
          replace hM := hM.lt ex690.symm
          have hTq := hT
          refine tk_lastv hC hK hw hT kM_at11 (by decide) rfl (by decide) (by decide) dX12_words_205 (fun H locs w691 hw hT k693 c692 => ?_)
          replace hM := hM.wr (sL_upk hTq hT kM_at11 (kM_lt kM_at11) rfl k693 c692 rfl)
          have hF := hF.put kM_at11 (inE_of (a := 0) (b := 10) (by decide) (by decide) (by decide)) k693
          have c694 := k693.gi (Or.inl (tk_ne kM_at12 kM_at11 (by decide))) c665
          have c695 := k693.gi (Or.inl (tk_ne kM_at0 kM_at11 (by decide))) c666
          have c696 := k693.gi (Or.inl (tk_ne kM_at12 kM_at11 (by decide))) c667
          have c697 := k693.gi (Or.inl (tk_ne kM_at0 kM_at11 (by decide))) c668
          have c698 := k693.gi (Or.inl (tk_ne kM_at14 kM_at11 (by decide))) c669
          have c699 := k693.gi (Or.inl (tk_ne kM_at12 kM_at11 (by decide))) c670
          have c700 := k693.gi (Or.inl (tk_ne kM_at12 kM_at11 (by decide))) c677
          exact tk_vret hC hr hlocks hK ⟨hT, hF, hM.ret rfl, ⟨⟨x32, c695, (show 0 ≤ x32.toInt from rx32), (show x32.toInt ≤ 1 from tx32)⟩, ⟨r671, c700, (show (-1) ≤ r671.toInt by first | with_reducible assumption | omega), (show r671.toInt ≤ 9 by first | with_reducible assumption | omega)⟩⟩⟩ hw dX12_words_206
        · have c680 : r671.toInt < (0 : Int) := wk_leF c680
          replace hM := hM.neg (Int.not_le.mpr c680)
          refine lv_ldc2 (v := 99) hx hb hC.2.2.2.1 (hC.2.2.2.2 _ (List.mem_cons_of_mem _ uw_48_1)) dX12_words_191 ?_
          refine lv_goto (tgt := 205) hx hb dX12_words_194 (by decide) ?_
          have hTq := hT
          refine tk_lastv hC hK hw hT kM_at11 (by decide) rfl (by decide) (by decide) dX12_words_205 (fun H locs w701 hw hT k703 c702 => ?_)
          replace hM := hM.wr (sL_upk hTq hT kM_at11 (kM_lt kM_at11) rfl k703 c702 (by decide))
          have hF := hF.put kM_at11 (inE_of (a := 0) (b := 10) (by decide) (by decide) (by decide)) k703
          have c704 := k703.gi (Or.inl (tk_ne kM_at12 kM_at11 (by decide))) c665
          have c705 := k703.gi (Or.inl (tk_ne kM_at0 kM_at11 (by decide))) c666
          have c706 := k703.gi (Or.inl (tk_ne kM_at12 kM_at11 (by decide))) c667
          have c707 := k703.gi (Or.inl (tk_ne kM_at0 kM_at11 (by decide))) c668
          have c708 := k703.gi (Or.inl (tk_ne kM_at14 kM_at11 (by decide))) c669
          have c709 := k703.gi (Or.inl (tk_ne kM_at12 kM_at11 (by decide))) c670
          have c710 := k703.gi (Or.inl (tk_ne kM_at12 kM_at11 (by decide))) c677
          exact tk_vret hC hr hlocks hK ⟨hT, hF, hM.ret rfl, ⟨⟨x32, c705, (show 0 ≤ x32.toInt from rx32), (show x32.toInt ≤ 1 from tx32)⟩, ⟨r671, c710, (show (-1) ≤ r671.toInt by first | with_reducible assumption | omega), (show r671.toInt ≤ 9 by first | with_reducible assumption | omega)⟩⟩⟩ hw dX12_words_206
      · have c632 : x630.toInt = (100000000 : Int) := wk_eq.mp c632
        replace hM := hM.neg (fun q => q c632)
        refine lv_lconst (v := 0) hx hb dX12_words_123 (by decide) ?_
        refine lv_goto (tgt := 134) hx hb dX12_words_124 (by decide) ?_
        have hTq := hT
        refine tk_lastv hC hK hw hT kM_at11 (by decide) rfl (by decide) (by decide) dX12_words_134 (fun H locs w711 hw hT k713 c712 => ?_)
        replace hM := hM.wr (sL_upk hTq hT kM_at11 (kM_lt kM_at11) rfl k713 c712 (by decide))
        have hF := hF.put kM_at11 (inE_of (a := 0) (b := 10) (by decide) (by decide) (by decide)) k713
        have c714 := k713.gi (Or.inl (tk_ne kM_at12 kM_at11 (by decide))) c626
        have c715 := k713.gi (Or.inl (tk_ne kM_at0 kM_at11 (by decide))) c627
        have c716 := k713.gi (Or.inl (tk_ne kM_at12 kM_at11 (by decide))) c628
        have c717 := k713.gi (Or.inl (tk_ne kM_at0 kM_at11 (by decide))) c629
        have c718 := k713.gi (Or.inl (tk_ne kM_at14 kM_at11 (by decide))) c631
        refine lv_aload_n hx hb dX12_words_135 rfl (lv_at hl 2 rfl) ?_
        refine tk_getA hC hK hw hT hinX12 kM_at0 (by decide) rfl 25 (by decide) (List.mem_cons_of_mem _ uw_7_0) rfl rfl dX12_words_136 ?_
        refine lv_bipush (v := 7) hx hb dX12_words_139 (by decide) ?_
        refine lv_aload_n hx hb dX12_words_141 rfl (lv_at hl 2 rfl) ?_
        refine tk_geti hC hK hw hT hinX12 kM_at0 (by decide) rfl 30 (by decide) (List.mem_cons_of_mem _ uw_47_4) rfl rfl dX12_words_142 (fun x719 c720 rx719 tx719 => ?_)
        refine wk_top x32 (c720.symm.trans c715) ?_
        replace hM := hM.rd (sL_at (kM_lt kM_at0) c715)
        refine lv_if_eq (tgt := 152) hx hb dX12_words_145 (by decide) (fun c => absurd c (fun h => absurd (show x32.toInt = (0 : Int) from wk_eq.mp h) (by omega))) (fun _ => ?_)
        replace hM := hM.neg (by omega)
        refine lv_lconst (v := 0) hx hb dX12_words_148 (by decide) ?_
        refine lv_goto (tgt := 159) hx hb dX12_words_149 (by decide) ?_
        have hTq := hT
        refine tk_lastv hC hK hw hT kM_at11 (by decide) rfl (by decide) (by decide) dX12_words_159 (fun H locs w721 hw hT k723 c722 => ?_)
        replace hM := hM.wr (sL_upk hTq hT kM_at11 (kM_lt kM_at11) rfl k723 c722 (by decide))
        have hF := hF.put kM_at11 (inE_of (a := 0) (b := 10) (by decide) (by decide) (by decide)) k723
        have c724 := k723.gi (Or.inl (tk_ne kM_at12 kM_at11 (by decide))) c714
        have c725 := k723.gi (Or.inl (tk_ne kM_at0 kM_at11 (by decide))) c715
        have c726 := k723.gi (Or.inl (tk_ne kM_at12 kM_at11 (by decide))) c716
        have c727 := k723.gi (Or.inl (tk_ne kM_at0 kM_at11 (by decide))) c717
        have c728 := k723.gi (Or.inl (tk_ne kM_at14 kM_at11 (by decide))) c718
        refine lv_aload_n hx hb dX12_words_160 rfl (lv_at hl 2 rfl) ?_
        refine tk_getA hC hK hw hT hinX12 kM_at0 (by decide) rfl 25 (by decide) (List.mem_cons_of_mem _ uw_7_0) rfl rfl dX12_words_161 ?_
        refine lv_bipush (v := 8) hx hb dX12_words_164 (by decide) ?_
        refine lv_aload_n hx hb dX12_words_166 rfl (lv_at hl 2 rfl) ?_
        refine lv_iload_n hx hb dX12_words_167 rfl (lv_at hl 3 rfl) ?_
        refine lv_bipush (v := 6) hx hb dX12_words_168 (by decide) ?_
        refine tk_Vi hC hK hw hT hA hE hSR kM_at0 (by decide) rfl (ky_X12_walkerOf_8 l adK adV dC dI cy ad B hB0 (Int.le_trans hB1 (by decide)) qr s1    w721 H.size hT ) (cwV 2 hC.2.2.2.2 uV_RX12_372 rfl rfl rfl (by decide +kernel) ⟨Nat.le_of_ble_eq_true rfl, Nat.le_of_ble_eq_true rfl⟩) rfl hl.1 rfl (Nat.le_of_ble_eq_true rfl) dX12_words_170 (fun r729 w731 H locs hp730 hw => ?_)
        obtain ⟨rfl, hv735, hg734⟩ := hp730
        have c733 := hg734
        replace hM := hM.call hv735 rfl
        refine lv_i2l hx hb dX12_words_173 rfl ?_
        refine lv_topl (fun x736 ex736 => ?_)
        have ex736 : x736.toInt = r729.toInt := by rw [ex736]; exact wk_i2l _
        have bx736 := wk_i32 r729
        replace hM := hM.lt ex736.symm
        have hTq := hT
        refine tk_lastv hC hK hw hT kM_at11 (by decide) rfl (by decide) (by decide) dX12_words_174 (fun H locs w737 hw hT k739 c738 => ?_)
        replace hM := hM.wr (sL_upk hTq hT kM_at11 (kM_lt kM_at11) rfl k739 c738 rfl)
        have hF := hF.put kM_at11 (inE_of (a := 0) (b := 10) (by decide) (by decide) (by decide)) k739
        have c740 := k739.gi (Or.inl (tk_ne kM_at12 kM_at11 (by decide))) c724
        have c741 := k739.gi (Or.inl (tk_ne kM_at0 kM_at11 (by decide))) c725
        have c742 := k739.gi (Or.inl (tk_ne kM_at12 kM_at11 (by decide))) c726
        have c743 := k739.gi (Or.inl (tk_ne kM_at0 kM_at11 (by decide))) c727
        have c744 := k739.gi (Or.inl (tk_ne kM_at14 kM_at11 (by decide))) c728
        have c745 := k739.gi (Or.inl (tk_ne kM_at12 kM_at11 (by decide))) c733
        refine lv_aload_n hx hb dX12_words_175 rfl (lv_at hl 2 rfl) ?_
        refine tk_getA hC hK hw hT hinX12 kM_at0 (by decide) rfl 25 (by decide) (List.mem_cons_of_mem _ uw_7_0) rfl rfl dX12_words_176 ?_
        refine lv_bipush (v := 9) hx hb dX12_words_179 (by decide) ?_
        refine lv_aload_n hx hb dX12_words_181 rfl (lv_at hl 2 rfl) ?_
        refine lv_iload_n hx hb dX12_words_182 rfl (lv_at hl 3 rfl) ?_
        refine lv_bipush (v := 7) hx hb dX12_words_183 (by decide) ?_
        refine tk_Vi hC hK hw hT hA hE hSR kM_at0 (by decide) rfl (ky_X12_walkerOf_9 l adK adV dC dI cy ad B hB0 (Int.le_trans hB1 (by decide)) qr s1    w737 H.size hT ) (cwV 2 hC.2.2.2.2 uV_RX12_372 rfl rfl rfl (by decide +kernel) ⟨Nat.le_of_ble_eq_true rfl, Nat.le_of_ble_eq_true rfl⟩) rfl hl.1 rfl (Nat.le_of_ble_eq_true rfl) dX12_words_185 (fun r746 w748 H locs hp747 hw => ?_)
        obtain ⟨rfl, hv754, hg753⟩ := hp747
        obtain ⟨g750, g751, c752⟩ := hg753
        replace hM := hM.call hv754 rfl
        refine lv_if_ge (tgt := 197) hx hb dX12_words_188 (by decide) (fun c755 => ?_) (fun c755 => ?_)
        · have c755 : (0 : Int) ≤ r746.toInt := wk_le.mp c755
          replace hM := hM.pos c755
          refine lv_aload_n hx hb dX12_words_197 rfl (lv_at hl 2 rfl) ?_
          refine lv_iload_n hx hb dX12_words_198 rfl (lv_at hl 3 rfl) ?_
          refine lv_bipush (v := 7) hx hb dX12_words_199 (by decide) ?_
          refine tk_Vi hC hK hw hT hA hE hSR kM_at0 (by decide) rfl (ky_X12_walkerOf_9 l adK adV dC dI cy ad B hB0 (Int.le_trans hB1 (by decide)) qr s1    w737 H.size hT ) (cwV 2 hC.2.2.2.2 uV_RX12_372 rfl rfl rfl (by decide +kernel) ⟨Nat.le_of_ble_eq_true rfl, Nat.le_of_ble_eq_true rfl⟩) rfl hl.1 rfl (Nat.le_of_ble_eq_true rfl) dX12_words_201 (fun r756 w758 H locs hp757 hw => ?_)
          obtain ⟨rfl, hv764, hg763⟩ := hp757
          obtain ⟨g760, g761, c762⟩ := hg763
          replace hM := hM.call hv764 rfl
          obtain rfl : r746 = r756 := c752.symm.trans c762
          refine lv_i2l hx hb dX12_words_204 rfl ?_
          refine lv_topl (fun x765 ex765 => ?_)
          have ex765 : x765.toInt = r746.toInt := by rw [ex765]; exact wk_i2l _
          have bx765 := wk_i32 r746
          replace hM := hM.lt ex765.symm
          have hTq := hT
          refine tk_lastv hC hK hw hT kM_at11 (by decide) rfl (by decide) (by decide) dX12_words_205 (fun H locs w766 hw hT k768 c767 => ?_)
          replace hM := hM.wr (sL_upk hTq hT kM_at11 (kM_lt kM_at11) rfl k768 c767 rfl)
          have hF := hF.put kM_at11 (inE_of (a := 0) (b := 10) (by decide) (by decide) (by decide)) k768
          have c769 := k768.gi (Or.inl (tk_ne kM_at12 kM_at11 (by decide))) c740
          have c770 := k768.gi (Or.inl (tk_ne kM_at0 kM_at11 (by decide))) c741
          have c771 := k768.gi (Or.inl (tk_ne kM_at12 kM_at11 (by decide))) c742
          have c772 := k768.gi (Or.inl (tk_ne kM_at0 kM_at11 (by decide))) c743
          have c773 := k768.gi (Or.inl (tk_ne kM_at14 kM_at11 (by decide))) c744
          have c774 := k768.gi (Or.inl (tk_ne kM_at12 kM_at11 (by decide))) c745
          have c775 := k768.gi (Or.inl (tk_ne kM_at12 kM_at11 (by decide))) c752
          exact tk_vret hC hr hlocks hK ⟨hT, hF, hM.ret rfl, ⟨⟨x32, c770, (show 0 ≤ x32.toInt from rx32), (show x32.toInt ≤ 1 from tx32)⟩, ⟨r746, c775, (show (-1) ≤ r746.toInt by first | with_reducible assumption | omega), (show r746.toInt ≤ 9 by first | with_reducible assumption | omega)⟩⟩⟩ hw dX12_words_206
        · have c755 : r746.toInt < (0 : Int) := wk_leF c755
          replace hM := hM.neg (Int.not_le.mpr c755)
          refine lv_ldc2 (v := 99) hx hb hC.2.2.2.1 (hC.2.2.2.2 _ (List.mem_cons_of_mem _ uw_48_1)) dX12_words_191 ?_
          refine lv_goto (tgt := 205) hx hb dX12_words_194 (by decide) ?_
          have hTq := hT
          refine tk_lastv hC hK hw hT kM_at11 (by decide) rfl (by decide) (by decide) dX12_words_205 (fun H locs w776 hw hT k778 c777 => ?_)
          replace hM := hM.wr (sL_upk hTq hT kM_at11 (kM_lt kM_at11) rfl k778 c777 (by decide))
          have hF := hF.put kM_at11 (inE_of (a := 0) (b := 10) (by decide) (by decide) (by decide)) k778
          have c779 := k778.gi (Or.inl (tk_ne kM_at12 kM_at11 (by decide))) c740
          have c780 := k778.gi (Or.inl (tk_ne kM_at0 kM_at11 (by decide))) c741
          have c781 := k778.gi (Or.inl (tk_ne kM_at12 kM_at11 (by decide))) c742
          have c782 := k778.gi (Or.inl (tk_ne kM_at0 kM_at11 (by decide))) c743
          have c783 := k778.gi (Or.inl (tk_ne kM_at14 kM_at11 (by decide))) c744
          have c784 := k778.gi (Or.inl (tk_ne kM_at12 kM_at11 (by decide))) c745
          have c785 := k778.gi (Or.inl (tk_ne kM_at12 kM_at11 (by decide))) c752
          exact tk_vret hC hr hlocks hK ⟨hT, hF, hM.ret rfl, ⟨⟨x32, c780, (show 0 ≤ x32.toInt from rx32), (show x32.toInt ≤ 1 from tx32)⟩, ⟨r746, c785, (show (-1) ≤ r746.toInt by first | with_reducible assumption | omega), (show r746.toInt ≤ 9 by first | with_reducible assumption | omega)⟩⟩⟩ hw dX12_words_206
