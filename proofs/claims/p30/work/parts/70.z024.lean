abbrev Pz_X12_strength_3 (ad : Nat → Nat) (cy : Nat → ClassId) (B : Int) (qr : Nat) (s1 : Int)  (w0 : va_W) : Int32 → va_W → Prop := fun r u => w0 = u ∧ Ev (fun n => m_X12_strength n 12 (sI w0)) (r.toInt, sI w0) ∧ ((r = 2))
set_option maxHeartbeats 4000000 in
set_option maxRecDepth 100000 in
theorem kz_X12_strength_3 (l : Launch) (adK adV : Nat → Nat) (dC : Nat → ClassId) (dI : Nat → Nat → Nat) (cy : Nat → ClassId) (ad : Nat → Nat) (B : Int) (hB0 : 100000 ≤ B) (hB1 : B ≤ 1073741824) (qr : Nat) (s1 : Int)   (w0 : va_W) (sz : Nat) (hT : TW ksM ad cy B qr 12 w0)  : Met l yX12_strength (wu yX12_strength cX12_strength 1 (some .int)) ({ frames := 1, cells := 0, slots := 0, locals := 12 }) (va_Pc [.int 12] (wpreS adK adV dC dI cy sz w0)) (va_Qi (Pz_X12_strength_3 ad cy B qr s1  w0) (fun u : va_W => wpost dC dI cy (va_A w0 sz) u) (va_A w0 sz)) 0 0 (va_A w0 sz) := by
  refine Met.ofW (cc := cX12_strength) (maxL := 1) (ret := (some .int)) (by decide) rfl ?_
  intro p e s m args below meth c s₁ Bk hml hv
  obtain ⟨rfl, ⟨hsz, hP, hK, hD0⟩, hE, hSR⟩ := hv
  have hx := Bk.exec
  have hb := Bk.bytes
  have hr := Bk.returns
  have hlocks := Bk.notSynchronized
  have hC : CallFix p m c cX12_strength 1 s _ (wu yX12_strength cX12_strength 1 (some .int)) RX12 := ⟨hx, hb, hml, findClass_of_methodNamed Bk.named, atoms_spec (ws := (wu yX12_strength cX12_strength 1 (some .int))) Bk.pre⟩
  subst hsz
  have hD := hD0.self (sz := s.heap.size)
  generalize hAe : va_A w0 s.heap.size = A at hD hE ⊢
  have hA : ∀ q : Nat, s.heap.size ≤ q → A q := fun q h => by rw [← hAe]; exact Or.inr h
  have hw : Wd dC dI A s.heap s.heap [] w0 := ⟨hP, hD, va_S.rf⟩
  have hF : FE ksM ([] : List (Nat × Nat × Nat)) w0 w0 := FE.rf
  have hl := lv_entry ([.int 12]) (n := 1) (Nat.le_of_ble_eq_true rfl)
  rw [lg_entry_eq]
  generalize (lg_sl ([.int 12]) ++ List.replicate (1 - (lg_sl ([.int 12])).length) Slot.unset).toArray = ls at hl ⊢
  have hl : lv_has ls 1 [(0, .int 12)] := hl
  generalize hloc : ([] : List Loc) = locs at hw ⊢
  have hM : TT (fun n => m_X12_strength n 12 (sI w0)) (fun n => m_X12_strength n 12 (sI w0)) := TT.rf
  refine lv_iload_n hx hb dX12_strength_0 rfl (lv_at hl 0 rfl) ?_
  refine lv_bipush (v := 13) hx hb dX12_strength_1 (by decide) ?_
  refine lv_icmp_ne (tgt := 10) hx hb dX12_strength_3 (by decide) (fun _ => ?_) (fun c => absurd c (by decide))
  replace hM := hM.pos (by decide)
  refine lv_iload_n hx hb dX12_strength_10 rfl (lv_at hl 0 rfl) ?_
  refine lv_bipush (v := 12) hx hb dX12_strength_11 (by decide) ?_
  refine lv_icmp_ne (tgt := 20) hx hb dX12_strength_13 (by decide) (fun c => absurd (by decide) c) (fun _ => ?_)
  replace hM := hM.neg (by decide)
  refine lv_iconst (v := 2) hx hb dX12_strength_16 (by decide) ?_
  refine lv_goto (tgt := 31) hx hb dX12_strength_17 (by decide) ?_
  exact tk_iret hC hr hlocks hK ⟨rfl, hM.ret (by decide), rfl⟩ hw dX12_strength_31
abbrev Pz_X12_settles_2 (ad : Nat → Nat) (cy : Nat → ClassId) (B : Int) (qr : Nat) (s1 : Int)  (gT gb gd : Int) (w0 : va_W) : va_W → Prop := fun u => TW ksM ad cy B qr 12 u ∧ FE ksM [(12, 19, 19), (12, 22, 22), (61, 0, 2400), (62, 0, 7)] w0 u ∧ Ev (fun n => m_X12_settles n 0 2 (sI w0)) (0, sI u) ∧ (((∃ y : Int32, gi u 0 17 = y ∧ 0 ≤ y.toInt ∧ y.toInt ≤ 5) ∧ (∃ y : Int32, gi u 0 19 = y ∧ (-60) ≤ y.toInt ∧ y.toInt ≤ 10) ∧ (∃ y : Int32, gi u 0 22 = y ∧ 0 ≤ y.toInt ∧ y.toInt ≤ 390) ∧ OKW u gT gb ((gi u 0 22).toInt - (gi u 0 19).toInt + 1) ∧ E9 u (gi u 0 22).toInt ∧ ((gi u 3 ((gi u 0 17).toInt).toNat).toInt + (gi u 0 22).toInt = (gi w0 3 ((gi w0 0 17).toInt).toNat).toInt + (gi w0 0 22).toInt) ∧ ((gi u 0 22).toInt ≤ (gi w0 0 22).toInt) ∧ ((gi u 0 22).toInt + (gi w0 0 19).toInt ≤ (gi w0 0 22).toInt + (gi u 0 19).toInt) ∧ ((gi u 0 22).toInt ≤ (gi u 0 19).toInt + (gi w0 0 18).toInt) ∧ ((gi u 0 22).toInt ≤ 390) ∧ ((gi u 3 ((gi u 0 17).toInt).toNat).toInt ≤ 390) ∧ (brkN w0 ((gi u 0 22).toInt).toNat = brkN w0 ((gi w0 0 22).toInt).toNat) ∧ ((binN u ((gi u 0 22).toInt).toNat : Int) = (gi u 0 22).toInt - (gi u 0 19).toInt)))
set_option maxHeartbeats 4000000 in
set_option maxRecDepth 100000 in
theorem kz_X12_settles_2 (l : Launch) (adK adV : Nat → Nat) (dC : Nat → ClassId) (dI : Nat → Nat → Nat) (cy : Nat → ClassId) (ad : Nat → Nat) (B : Int) (hB0 : 100000 ≤ B) (hB1 : B ≤ 1073741824) (qr : Nat) (s1 : Int)   (w0 : va_W) (sz : Nat) (hT : TW ksM ad cy B qr 12 w0) (f0_ : Int32) (cf0_ : gi w0 0 17 = f0_) (rf0_ : 0 ≤ f0_.toInt) (tf0_ : f0_.toInt ≤ 5) (f1_ : Int32) (cf1_ : gi w0 0 18 = f1_) (rf1_ : 0 ≤ f1_.toInt) (tf1_ : f1_.toInt ≤ 60) (f2_ : Int32) (cf2_ : gi w0 0 19 = f2_) (rf2_ : (-100) ≤ f2_.toInt) (tf2_ : f2_.toInt ≤ 10) (f3_ : Int32) (cf3_ : gi w0 0 22 = f3_) (rf3_ : 0 ≤ f3_.toInt) (tf3_ : f3_.toInt ≤ 400) (f4_ : Int32) (cf4_ : gi w0 3 (f0_.toInt).toNat = f4_) (rf4_ : 0 ≤ f4_.toInt) (tf4_ : f4_.toInt ≤ 400) (pr0_ : f4_.toInt + f3_.toInt ≤ 390) (pr1_ : f3_.toInt ≤ f2_.toInt + f1_.toInt) (pr2_ : f4_.toInt ≤ 390) (pr3_ : f3_.toInt ≤ 390) (pr4_ : (binN w0 (f3_.toInt).toNat : Int) = f3_.toInt - f2_.toInt) (gb gd : Int) (hO : OKW w0 f0_.toInt gb (f3_.toInt - f2_.toInt + 1)) (hE9 : E9 w0 (f3_.toInt)) : Met l yX12_settles (wu yX12_settles cX12_settles 2 none) ({ frames := 2, cells := 0, slots := 0, locals := 34 }) (va_Pc [.ref (ad 0), .int 2] (wpreS adK adV dC dI cy sz w0)) (va_Qv (Pz_X12_settles_2 ad cy B qr s1  f0_.toInt gb gd w0) (fun u : va_W => wpost dC dI cy (va_A w0 sz) u) (va_A w0 sz)) 0 0 (va_A w0 sz) := by
  refine Met.ofW (cc := cX12_settles) (maxL := 2) (ret := none) (by decide) rfl ?_
  intro p e s m args below meth c s₁ Bk hml hv
  obtain ⟨rfl, ⟨hsz, hP, hK, hD0⟩, hE, hSR⟩ := hv
  have hx := Bk.exec
  have hb := Bk.bytes
  have hr := Bk.returns
  have hlocks := Bk.notSynchronized
  have hC : CallFix p m c cX12_settles 2 s _ (wu yX12_settles cX12_settles 2 none) RX12 := ⟨hx, hb, hml, findClass_of_methodNamed Bk.named, atoms_spec (ws := (wu yX12_settles cX12_settles 2 none)) Bk.pre⟩
  subst hsz
  have hD := hD0.self (sz := s.heap.size)
  generalize hAe : va_A w0 s.heap.size = A at hD hE ⊢
  have hA : ∀ q : Nat, s.heap.size ≤ q → A q := fun q h => by rw [← hAe]; exact Or.inr h
  have hw : Wd dC dI A s.heap s.heap [] w0 := ⟨hP, hD, va_S.rf⟩
  have hF : FE ksM [(12, 19, 19), (12, 22, 22), (61, 0, 2400), (62, 0, 7)] w0 w0 := FE.rf
  have hl := lv_entry ([.ref (ad 0), .int 2]) (n := 2) (Nat.le_of_ble_eq_true rfl)
  rw [lg_entry_eq]
  generalize (lg_sl ([.ref (ad 0), .int 2]) ++ List.replicate (2 - (lg_sl ([.ref (ad 0), .int 2])).length) Slot.unset).toArray = ls at hl ⊢
  have hl : lv_has ls 2 [(0, .ref (ad 0)), (1, .int 2)] := hl
  generalize hloc : ([] : List Loc) = locs at hw ⊢
  have hinX12 : ∀ w ∈ u_ws RX12 TX12 42, w ∈ (wu yX12_settles cX12_settles 2 none) := fun _ h => List.mem_cons_of_mem _ (up_71 h)
  have L0 : ∀ (n0 : Nat) (f0_0_19 : Int32) (f0_0_22 : Int32) (f0_3__f0__toInt_toNat : Int32) (H : Heap) (locs : List Loc) (ls : Array Slot) (w1 : va_W), 0 ≤ f0_.toInt → f0_.toInt ≤ 5 → 0 ≤ f1_.toInt → f1_.toInt ≤ 60 → (-60) ≤ f0_0_19.toInt → f0_0_19.toInt ≤ 10 → 0 ≤ f0_0_22.toInt → f0_0_22.toInt ≤ 390 → 0 ≤ f0_3__f0__toInt_toNat.toInt → f0_3__f0__toInt_toNat.toInt ≤ 390 → ((binN w1 (f0_0_22.toInt).toNat : Int) = f0_0_22.toInt - f0_0_19.toInt) → (f0_3__f0__toInt_toNat.toInt + f0_0_22.toInt = f4_.toInt + f3_.toInt) → (f0_0_22.toInt ≤ f3_.toInt) → (f0_0_22.toInt + f2_.toInt ≤ f3_.toInt + f0_0_19.toInt) → (f0_0_22.toInt ≤ f0_0_19.toInt + f1_.toInt) → (f0_3__f0__toInt_toNat.toInt ≤ 390) → (f0_0_22.toInt ≤ 390) → (-60 ≤ f0_0_19.toInt) → (brkN w0 (f0_0_22.toInt).toNat = brkN w0 (f3_.toInt).toNat) → (f0_0_22.toInt - 0).toNat < n0 → Wd dC dI A s.heap H locs w1 → TW ksM ad cy B qr 12 w1 → FE ksM [(12, 19, 19), (12, 22, 22), (61, 0, 2400), (62, 0, 7)] w0 w1 → OKW w1 f0_.toInt gb (f0_0_22.toInt - f0_0_19.toInt + 1) → E9 w1 (f0_0_22.toInt) → gi w1 0 17 = f0_ → gi w1 0 18 = f1_ → gi w1 0 19 = f0_0_19 → gi w1 0 22 = f0_0_22 → gi w1 3 (f0_.toInt).toNat = f0_3__f0__toInt_toNat → TT (fun n => m_X12_settles n 0 2 (sI w0)) (fun n => j_X12_settles 0 n 0 [(2 : Int)] (sI w1)) → lv_has ls 2 [(0, .ref (ad 0)), (1, .int 2)] → W p l e ({ frames := 2, cells := 0, slots := 0, locals := 34 }) s m (List.toArray [.ref (ad 0), .int 2]) below meth c H locs 0 0 (MQ below (va_Qv (Pz_X12_settles_2 ad cy B qr s1  f0_.toInt gb gd w0) (fun u : va_W => wpost dC dI cy A u) A) (List.toArray [.ref (ad 0), .int 2]) s 0 0 A) (F0 m 0 ls []) := by
    intro n0
    induction n0 with
    | zero => intro f0_0_19 f0_0_22 f0_3__f0__toInt_toNat H locs ls w1 r2 t3 r5 t6 r8 t9 r11 t12 r14 t15 hcr0_0 hcr0_1 hcr0_2 hcr0_3 hcr0_4 hcr0_5 hcr0_6 hcr0_7 hcr0_8 hm0 hw hT hF hO hE9 c4 c7 c10 c13 c16 hM hl; omega
    | succ n0 ih0 =>
      intro f0_0_19 f0_0_22 f0_3__f0__toInt_toNat H locs ls w1 r2 t3 r5 t6 r8 t9 r11 t12 r14 t15 hcr0_0 hcr0_1 hcr0_2 hcr0_3 hcr0_4 hcr0_5 hcr0_6 hcr0_7 hcr0_8 hm0 hw hT hF hO hE9 c4 c7 c10 c13 c16 hM hl
      replace hM := hM.suc (fun _ => e_X12_settles_0)
      have gl17 := bin_le w1 (f0_0_22.toInt).toNat
      refine lv_aload_n hx hb dX12_settles_0 rfl (lv_at hl 0 rfl) ?_
      refine tk_geti hC hK hw hT hinX12 kM_at0 (by decide) rfl 22 (by decide) (List.mem_cons_of_mem _ uw_23_13) rfl rfl dX12_settles_1 (fun x18 c19 rx18 tx18 => ?_)
      refine wk_top f0_0_22 (c19.symm.trans c13) ?_
      replace hM := hM.rd (sI_at c13)
      refine lv_if_le (tgt := 76) hx hb dX12_settles_4 (by decide) (fun c20 => ?_) (fun c20 => ?_)
      · have c20 : f0_0_22.toInt ≤ (0 : Int) := wk_le.mp c20
        replace hM := hM.pos c20
        exact tk_vret hC hr hlocks hK ⟨hT, hF, hM.ret rfl, ⟨⟨f0_, c4, (show 0 ≤ f0_.toInt from r2), (show f0_.toInt ≤ 5 from t3)⟩, ⟨f0_0_19, c10, (show (-60) ≤ f0_0_19.toInt from r8), (show f0_0_19.toInt ≤ 10 from t9)⟩, ⟨f0_0_22, c13, (show 0 ≤ f0_0_22.toInt from r11), (show f0_0_22.toInt ≤ 390 from t12)⟩, (OKW_cast hO (by simp only [c10, c13] <;> omega)), (E9_le hE9 (by simp only [c13] <;> omega)), (by simp only [c4, cf0_, cf4_, c16, cf3_, c13]; omega), (by simp only [c4, cf0_, cf3_, c13]; omega), (by simp only [c4, cf0_, cf2_, c10, cf3_, c13]; omega), (by simp only [c4, cf0_, c10, cf1_, c13]; omega), (by simp only [c4, cf0_, c13]; omega), (by simp only [c4, cf0_, c16]; omega), (by simp only [c4, cf0_, cf3_, c13, c16]; omega), (by simp only [c4, cf0_, c10, c13]; omega)⟩⟩ hw dX12_settles_76
      · have c20 : (0 : Int) < f0_0_22.toInt := wk_leF c20
        replace hM := hM.neg (Int.not_le.mpr c20)
        refine lv_aload_n hx hb dX12_settles_7 rfl (lv_at hl 0 rfl) ?_
        refine tk_getA hC hK hw hT hinX12 kM_at0 (by decide) rfl 21 (by decide) (List.mem_cons_of_mem _ uw_6_22) rfl rfl dX12_settles_8 ?_
        refine lv_aload_n hx hb dX12_settles_11 rfl (lv_at hl 0 rfl) ?_
        refine tk_geti hC hK hw hT hinX12 kM_at0 (by decide) rfl 22 (by decide) (List.mem_cons_of_mem _ uw_23_13) rfl rfl dX12_settles_12 (fun x21 c22 rx21 tx21 => ?_)
        refine wk_top f0_0_22 (c22.symm.trans c13) ?_
        replace hM := hM.rd (sI_at c13)
        refine lv_iconst (v := 1) hx hb dX12_settles_15 (by decide) ?_
        refine lv_isub hx hb dX12_settles_16 ?_
        refine lv_topi (fun x23 ex23 => ?_)
        have ezx23 := ex23
        have ex23 : x23.toInt = f0_0_22.toInt - (1 : Int) := by rw [ex23]; exact wk_sub (show (-2147483648) ≤ f0_0_22.toInt - (1 : Int) by omega) (show f0_0_22.toInt - (1 : Int) ≤ 2147483647 by omega)
        replace hM := hM.lt ex23.symm
        refine tk_iald hC hK hw hT kM_at9 rfl rfl (show 0 ≤ x23.toInt by first | with_reducible assumption | omega) (show x23.toInt < 400 by first | with_reducible assumption | omega) dX12_settles_17 (fun x24 c25 rx24 tx24 => ?_)
        have hox24 := c25
        replace hM := hM.rd (sI_at hox24)
        have c25 : gi w1 9 (1 * f0_0_22.toInt + -1).toNat = x24 := (congrArg (gi w1 9) (congrArg Int.toNat (show 1 * f0_0_22.toInt + -1 = x23.toInt by first | exact Int.le_antisymm (by omega) (by omega) | omega))).trans c25
        refine tk_Si hC hK hw hT hA hE hSR (kz_X12_strength_2 l adK adV dC dI cy ad B hB0 (Int.le_trans hB1 (by decide)) qr s1   x24 w1 H.size hT ) (va_cwS 1 hC.2.2.2.2 uS_RX12_158 rfl rfl rfl (by decide +kernel) ⟨Nat.le_of_ble_eq_true rfl, Nat.le_of_ble_eq_true rfl⟩) rfl hl.1 rfl (Nat.le_of_ble_eq_true rfl) dX12_settles_18 (fun r26 w28 H locs hp27 hw => ?_)
        obtain ⟨rfl, hv38, hg37⟩ := hp27
        rcases hg37 with ⟨rfl, hq30⟩ | ⟨rfl, g31, g32⟩ | ⟨rfl, g33, g34⟩ | ⟨rfl, g35, g36⟩
        · replace hM := hM.call (r' := 0) hv38 (by decide)
          refine lv_iload_n hx hb dX12_settles_21 rfl (lv_at hl 1 rfl) ?_
          refine lv_icmp_lt (tgt := 76) hx hb dX12_settles_22 (by decide) (fun _ => ?_) (fun c => absurd (by decide) c)
          replace hM := hM.pos (by decide)
          exact tk_vret hC hr hlocks hK ⟨hT, hF, hM.ret rfl, ⟨⟨f0_, c4, (show 0 ≤ f0_.toInt from r2), (show f0_.toInt ≤ 5 from t3)⟩, ⟨f0_0_19, c10, (show (-60) ≤ f0_0_19.toInt from r8), (show f0_0_19.toInt ≤ 10 from t9)⟩, ⟨f0_0_22, c13, (show 0 ≤ f0_0_22.toInt from r11), (show f0_0_22.toInt ≤ 390 from t12)⟩, (OKW_cast hO (by simp only [c10, c13] <;> omega)), (E9_le hE9 (by simp only [c13] <;> omega)), (by simp only [c4, cf0_, cf4_, c16, cf3_, c13]; omega), (by simp only [c4, cf0_, cf3_, c13]; omega), (by simp only [c4, cf0_, cf2_, c10, cf3_, c13]; omega), (by simp only [c4, cf0_, c10, cf1_, c13]; omega), (by simp only [c4, cf0_, c13]; omega), (by simp only [c4, cf0_, c16]; omega), (by simp only [c4, cf0_, cf3_, c13, c16, c25]; omega), (by simp only [c4, cf0_, c10, c13]; omega)⟩⟩ hw dX12_settles_76
        · replace hM := hM.call (r' := 1) hv38 (by decide)
          refine lv_iload_n hx hb dX12_settles_21 rfl (lv_at hl 1 rfl) ?_
          refine lv_icmp_lt (tgt := 76) hx hb dX12_settles_22 (by decide) (fun _ => ?_) (fun c => absurd (by decide) c)
          replace hM := hM.pos (by decide)
          exact tk_vret hC hr hlocks hK ⟨hT, hF, hM.ret rfl, ⟨⟨f0_, c4, (show 0 ≤ f0_.toInt from r2), (show f0_.toInt ≤ 5 from t3)⟩, ⟨f0_0_19, c10, (show (-60) ≤ f0_0_19.toInt from r8), (show f0_0_19.toInt ≤ 10 from t9)⟩, ⟨f0_0_22, c13, (show 0 ≤ f0_0_22.toInt from r11), (show f0_0_22.toInt ≤ 390 from t12)⟩, (OKW_cast hO (by simp only [c10, c13] <;> omega)), (E9_le hE9 (by simp only [c13] <;> omega)), (by simp only [c4, cf0_, cf4_, c16, cf3_, c13]; omega), (by simp only [c4, cf0_, cf3_, c13]; omega), (by simp only [c4, cf0_, cf2_, c10, cf3_, c13]; omega), (by simp only [c4, cf0_, c10, cf1_, c13]; omega), (by simp only [c4, cf0_, c13]; omega), (by simp only [c4, cf0_, c16]; omega), (by simp only [c4, cf0_, cf3_, c13, c16, c25]; omega), (by simp only [c4, cf0_, c10, c13]; omega)⟩⟩ hw dX12_settles_76
        · replace hM := hM.call (r' := 2) hv38 (by decide)
          refine lv_iload_n hx hb dX12_settles_21 rfl (lv_at hl 1 rfl) ?_
          refine lv_icmp_lt (tgt := 76) hx hb dX12_settles_22 (by decide) (fun c => absurd c (by decide)) (fun _ => ?_)
          replace hM := hM.neg (by decide)
          refine lv_aload_n hx hb dX12_settles_25 rfl (lv_at hl 0 rfl) ?_
          refine lv_dup hx hb dX12_settles_26 rfl ?_
          refine tk_geti hC hK hw hT hinX12 kM_at0 (by decide) rfl 22 (by decide) (List.mem_cons_of_mem _ uw_23_13) rfl rfl dX12_settles_27 (fun x39 c40 rx39 tx39 => ?_)
          refine wk_top f0_0_22 (c40.symm.trans c13) ?_
          replace hM := hM.rd (sI_at c13)
          refine lv_iconst (v := 1) hx hb dX12_settles_30 (by decide) ?_
          refine lv_isub hx hb dX12_settles_31 ?_
          refine lv_topi (fun x41 ex41 => ?_)
          have ezx41 := ex41
          have ex41 : x41.toInt = f0_0_22.toInt - (1 : Int) := by rw [ex41]; exact wk_sub (show (-2147483648) ≤ f0_0_22.toInt - (1 : Int) by omega) (show f0_0_22.toInt - (1 : Int) ≤ 2147483647 by omega)
          replace hM := hM.lt ex41.symm
          refine tk_puti hC hK hw hT hinX12 tyX12_ok nmX12 kM_at0 (by decide) rfl rfl 22 (by decide) (List.mem_cons_of_mem _ uw_23_13) rfl rfl rfl rfl (show 0 ≤ x41.toInt by first | with_reducible assumption | omega) (show x41.toInt ≤ 400 by first | with_reducible assumption | omega) dX12_settles_32 (fun H locs w42 hw hT k44 c43 => ?_)
          replace hM := hM.wr (sI_up k44 c43)
          have gn45 : binN w42 (f0_0_22.toInt).toNat = binN w1 (f0_0_22.toInt).toNat := bin_F1 _ k44 (by decide)
          have gn46 : binN w42 (x41.toInt).toNat = binN w1 (x41.toInt).toNat := bin_F1 _ k44 (by decide)
          have gt47 := bin_top (w := w1) (a := f0_0_22.toInt) (b := x41.toInt) (by omega) (by omega)
          have gx48 : (gi w1 9 (x41.toInt).toNat).toInt = x24.toInt := by rw [show (x41.toInt) = 1 * f0_0_22.toInt + -1 by omega, c25]
          have hO := OKW_F1 k44 (by decide) (by decide) (by decide) (by decide) hO
          have hE9 := E9_F1 k44 (by decide) hE9
          have hF := hF.put kM_at0 (k := 22) (by decide) k44
          have c49 := k44.gi (Or.inr (by decide)) c4
          have c50 := k44.gi (Or.inr (by decide)) c7
          have c51 := k44.gi (Or.inr (by decide)) c10
          have c52 := k44.gi (Or.inl (tk_ne kM_at3 kM_at0 (by decide))) c16
          have c53 := k44.gi (Or.inl (tk_ne kM_at9 kM_at0 (by decide))) c25
          refine lv_aload_n hx hb dX12_settles_35 rfl (lv_at hl 0 rfl) ?_
          refine lv_aload_n hx hb dX12_settles_36 rfl (lv_at hl 0 rfl) ?_
          refine tk_getA hC hK hw hT hinX12 kM_at0 (by decide) rfl 21 (by decide) (List.mem_cons_of_mem _ uw_6_22) rfl rfl dX12_settles_37 ?_
          refine lv_aload_n hx hb dX12_settles_40 rfl (lv_at hl 0 rfl) ?_
          refine tk_geti hC hK hw hT hinX12 kM_at0 (by decide) rfl 22 (by decide) (List.mem_cons_of_mem _ uw_23_13) rfl rfl dX12_settles_41 (fun x54 c55 rx54 tx54 => ?_)
          refine wk_top x41 (c55.symm.trans c43) ?_
          replace hM := hM.rd (sI_at c43)
          refine tk_iald hC hK hw hT kM_at9 rfl rfl (show 0 ≤ x41.toInt by first | with_reducible assumption | omega) (show x41.toInt < 400 by first | with_reducible assumption | omega) dX12_settles_44 (fun x56 c57 rx56 tx56 => ?_)
          have hox56 := c57
          have c57 : gi w42 9 (1 * f0_0_22.toInt + -1).toNat = x56 := (congrArg (gi w42 9) (congrArg Int.toNat (show 1 * f0_0_22.toInt + -1 = x41.toInt by first | exact Int.le_antisymm (by omega) (by omega) | omega))).trans c57
          refine wk_top x24 (c57.symm.trans c53) ?_
          replace hM := hM.rd ((sI_at hox56).trans (congrArg Int32.toInt (c57.symm.trans c53)))
          refine lv_iconst (v := 0) hx hb dX12_settles_45 (by decide) ?_
          obtain rfl : x24 = 12 := wk_eq.mpr (show x24.toInt = 12 by first | exact Int.le_antisymm (by omega) (by omega) | omega)
          try simp only [show (12 : Int32).toInt = 12 by decide] at hM
          refine tk_Vv hC hK hw hT hA hE hSR kM_at0 (by decide) rfl (kz_X12_puts_1 l adK adV dC dI cy ad B hB0 (Int.le_trans hB1 (by decide)) qr s1   12 (by decide) (by decide) 0 (by decide) (by decide) w42 H.size hT f0_ c49 (show 0 ≤ f0_.toInt from r2) (show f0_.toInt ≤ 5 from t3) f0_3__f0__toInt_toNat c52 (show 0 ≤ f0_3__f0__toInt_toNat.toInt from r14) (show f0_3__f0__toInt_toNat.toInt ≤ 400 from Int.le_trans t15 (by decide)) (show f0_3__f0__toInt_toNat.toInt ≤ 399 from Int.le_trans t15 (by decide))) (cwV 2 hC.2.2.2.2 uV_RX12_162 rfl rfl rfl (by decide +kernel) ⟨Nat.le_of_ble_eq_true rfl, Nat.le_of_ble_eq_true rfl⟩) rfl hl.1 rfl (Nat.le_of_ble_eq_true rfl) dX12_settles_46 (fun w60 H locs hp59 hw => ?_)
          obtain ⟨hT, k61, hv67, hg66⟩ := hp59
          try simp only [show (12 : Int32).toInt = 12 by decide] at hv67
          try simp only [show (0 : Int32).toInt = 0 by decide] at hv67
          have hE9 := E9_FE k61 (fun _ => rfl) hE9
          have gn68 : binN w60 (x41.toInt).toNat = binN w42 (x41.toInt).toNat := bin_FE _ k61 (fun _ => rfl)
          have hF := hF.tr k61 (by decide)
          have c69 := k61.gi kM_at0 (by decide) c49
          have c70 := k61.gi kM_at0 (by decide) c50
          have c71 := k61.gi kM_at0 (by decide) c51
          have c72 := k61.gi kM_at9 rfl c53
          have c73 := k61.gi kM_at0 (by decide) c43
          obtain ⟨⟨x62, c63, rx62, tx62⟩, hq64, g65⟩ := hg66
          replace hM := hM.call hv67 rfl
          have ex62 : x62.toInt = f0_.toInt := by rw [← c69.symm.trans c63]
          obtain ⟨x74, c75, rx74, tx74⟩ := hT.rda (lo := 0) (hi := 400) (i := (f0_.toInt).toNat) kM_at3 rfl rfl (by omega)
          have g65 : x74.toInt = f0_3__f0__toInt_toNat.toInt + 1 := by have q := g65; simp only [c49, c69, c52, c75] at q; first | with_reducible exact q | omega
          have hO : OKW w60 f0_.toInt gb ((f0_0_22.toInt - f0_0_19.toInt + 1) - 1) := OKW_put hO (by have q := hq64; rw [c49] at q; exact q) (by rw [c52]; omega) (fun x hx => by simp only [(show (12 : Int32).toInt = 12 by decide), (show (0 : Int32).toInt = 0 by decide)] at hx; exact okT_bin (by omega) (by omega) (by omega) (by omega)) (by omega) (by omega)
          refine lv_aload_n hx hb dX12_settles_49 rfl (lv_at hl 0 rfl) ?_
          refine tk_getA hC hK hw hT hinX12 kM_at0 (by decide) rfl 21 (by decide) (List.mem_cons_of_mem _ uw_6_22) rfl rfl dX12_settles_50 ?_
          refine lv_aload_n hx hb dX12_settles_53 rfl (lv_at hl 0 rfl) ?_
          refine tk_geti hC hK hw hT hinX12 kM_at0 (by decide) rfl 22 (by decide) (List.mem_cons_of_mem _ uw_23_13) rfl rfl dX12_settles_54 (fun x76 c77 rx76 tx76 => ?_)
          refine wk_top x41 (c77.symm.trans c73) ?_
          replace hM := hM.rd (sI_at c73)
          refine tk_iald hC hK hw hT kM_at9 rfl rfl (show 0 ≤ x41.toInt by first | with_reducible assumption | omega) (show x41.toInt < 400 by first | with_reducible assumption | omega) dX12_settles_57 (fun x78 c79 rx78 tx78 => ?_)
          have hox78 := c79
          have c79 : gi w60 9 (1 * f0_0_22.toInt + -1).toNat = x78 := (congrArg (gi w60 9) (congrArg Int.toNat (show 1 * f0_0_22.toInt + -1 = x41.toInt by first | exact Int.le_antisymm (by omega) (by omega) | omega))).trans c79
          refine wk_top 12 (c79.symm.trans c72) ?_
          replace hM := hM.rd (v := 12) ((sI_at hox78).trans ((congrArg Int32.toInt (c79.symm.trans c72)).trans (by decide)))
          refine lv_bipush (v := 11) hx hb dX12_settles_58 (by decide) ?_
          refine lv_icmp_ne (tgt := 0) hx hb dX12_settles_60 (by decide) (fun _ => ?_) (fun c => absurd c (by decide))
          replace hM := hM.pos (by decide)
          exact ih0 f0_0_19 x41 x74 H locs ls w60 (show 0 ≤ f0_.toInt from r2) (show f0_.toInt ≤ 5 from t3) (show 0 ≤ f1_.toInt from r5) (show f1_.toInt ≤ 60 from t6) (show (-60) ≤ f0_0_19.toInt from r8) (show f0_0_19.toInt ≤ 10 from t9) (show 0 ≤ x41.toInt by first | with_reducible assumption | omega) (show x41.toInt ≤ 390 by first | with_reducible assumption | omega) (show 0 ≤ x74.toInt by first | with_reducible assumption | omega) (show x74.toInt ≤ 390 by first | with_reducible assumption | omega) (show (binN w60 (x41.toInt).toNat : Int) = x41.toInt - f0_0_19.toInt by first | exact Int.le_antisymm (by omega) (by omega) | omega) (show x74.toInt + x41.toInt = f4_.toInt + f3_.toInt by first | exact Int.le_antisymm (by omega) (by omega) | omega) (show x41.toInt ≤ f3_.toInt by omega) (show x41.toInt + f2_.toInt ≤ f3_.toInt + f0_0_19.toInt by omega) (show x41.toInt ≤ f0_0_19.toInt + f1_.toInt by omega) (show x74.toInt ≤ 390 by first | with_reducible assumption | omega) (show x41.toInt ≤ 390 by first | with_reducible assumption | omega) (show -60 ≤ f0_0_19.toInt from r8) (show brkN w0 (x41.toInt).toNat = brkN w0 (f3_.toInt).toNat from ((brk_step (by omega) (show f0_0_22.toInt = x41.toInt + 1 by first | exact Int.le_antisymm (by omega) (by omega) | omega) (show ¬ (gi w0 9 (x41.toInt).toNat).toInt = 91 by first | (rw [show (x41.toInt) = 1 * f0_0_22.toInt + -1 by omega, ← hF.gi kM_at9 rfl rfl, c72]; omega) | (rw [show (x41.toInt) = 1 * f0_0_22.toInt + -1 by omega, ← hF.gi kM_at9 rfl rfl, c72]; decide))).trans hcr0_8)) (show (x41.toInt - 0).toNat < n0 by first | exact tn_lt hm0 (by omega) (by omega) | omega) hw hT hF (OKW_cast hO (show (f0_0_22.toInt - f0_0_19.toInt + 1) - 1 = x41.toInt - f0_0_19.toInt + 1 by first | exact Int.le_antisymm (by omega) (by omega) | omega)) (E9_le hE9 (show x41.toInt ≤ _ by omega)) c69 c70 c71 c73 c75 hM (lv_sub hl [0, 1] rfl)
        · replace hM := hM.call (r' := 3) hv38 (by decide)
          refine lv_iload_n hx hb dX12_settles_21 rfl (lv_at hl 1 rfl) ?_
          refine lv_icmp_lt (tgt := 76) hx hb dX12_settles_22 (by decide) (fun c => absurd c (by decide)) (fun _ => ?_)
          replace hM := hM.neg (by decide)
          refine lv_aload_n hx hb dX12_settles_25 rfl (lv_at hl 0 rfl) ?_
          refine lv_dup hx hb dX12_settles_26 rfl ?_
          refine tk_geti hC hK hw hT hinX12 kM_at0 (by decide) rfl 22 (by decide) (List.mem_cons_of_mem _ uw_23_13) rfl rfl dX12_settles_27 (fun x80 c81 rx80 tx80 => ?_)
          refine wk_top f0_0_22 (c81.symm.trans c13) ?_
          replace hM := hM.rd (sI_at c13)
          refine lv_iconst (v := 1) hx hb dX12_settles_30 (by decide) ?_
          refine lv_isub hx hb dX12_settles_31 ?_
          refine lv_topi (fun x82 ex82 => ?_)
          have ezx82 := ex82
          have ex82 : x82.toInt = f0_0_22.toInt - (1 : Int) := by rw [ex82]; exact wk_sub (show (-2147483648) ≤ f0_0_22.toInt - (1 : Int) by omega) (show f0_0_22.toInt - (1 : Int) ≤ 2147483647 by omega)
          replace hM := hM.lt ex82.symm
          refine tk_puti hC hK hw hT hinX12 tyX12_ok nmX12 kM_at0 (by decide) rfl rfl 22 (by decide) (List.mem_cons_of_mem _ uw_23_13) rfl rfl rfl rfl (show 0 ≤ x82.toInt by first | with_reducible assumption | omega) (show x82.toInt ≤ 400 by first | with_reducible assumption | omega) dX12_settles_32 (fun H locs w83 hw hT k85 c84 => ?_)
          replace hM := hM.wr (sI_up k85 c84)
          have gn86 : binN w83 (f0_0_22.toInt).toNat = binN w1 (f0_0_22.toInt).toNat := bin_F1 _ k85 (by decide)
          have gn87 : binN w83 (x82.toInt).toNat = binN w1 (x82.toInt).toNat := bin_F1 _ k85 (by decide)
          have gt88 := bin_top (w := w1) (a := f0_0_22.toInt) (b := x82.toInt) (by omega) (by omega)
          have gx89 : (gi w1 9 (x82.toInt).toNat).toInt = x24.toInt := by rw [show (x82.toInt) = 1 * f0_0_22.toInt + -1 by omega, c25]
          have hO := OKW_F1 k85 (by decide) (by decide) (by decide) (by decide) hO
          have hE9 := E9_F1 k85 (by decide) hE9
          have hF := hF.put kM_at0 (k := 22) (by decide) k85
          have c90 := k85.gi (Or.inr (by decide)) c4
          have c91 := k85.gi (Or.inr (by decide)) c7
          have c92 := k85.gi (Or.inr (by decide)) c10
          have c93 := k85.gi (Or.inl (tk_ne kM_at3 kM_at0 (by decide))) c16
          have c94 := k85.gi (Or.inl (tk_ne kM_at9 kM_at0 (by decide))) c25
          refine lv_aload_n hx hb dX12_settles_35 rfl (lv_at hl 0 rfl) ?_
          refine lv_aload_n hx hb dX12_settles_36 rfl (lv_at hl 0 rfl) ?_
          refine tk_getA hC hK hw hT hinX12 kM_at0 (by decide) rfl 21 (by decide) (List.mem_cons_of_mem _ uw_6_22) rfl rfl dX12_settles_37 ?_
          refine lv_aload_n hx hb dX12_settles_40 rfl (lv_at hl 0 rfl) ?_
          refine tk_geti hC hK hw hT hinX12 kM_at0 (by decide) rfl 22 (by decide) (List.mem_cons_of_mem _ uw_23_13) rfl rfl dX12_settles_41 (fun x95 c96 rx95 tx95 => ?_)
          refine wk_top x82 (c96.symm.trans c84) ?_
          replace hM := hM.rd (sI_at c84)
          refine tk_iald hC hK hw hT kM_at9 rfl rfl (show 0 ≤ x82.toInt by first | with_reducible assumption | omega) (show x82.toInt < 400 by first | with_reducible assumption | omega) dX12_settles_44 (fun x97 c98 rx97 tx97 => ?_)
          have hox97 := c98
          have c98 : gi w83 9 (1 * f0_0_22.toInt + -1).toNat = x97 := (congrArg (gi w83 9) (congrArg Int.toNat (show 1 * f0_0_22.toInt + -1 = x82.toInt by first | exact Int.le_antisymm (by omega) (by omega) | omega))).trans c98
          refine wk_top x24 (c98.symm.trans c94) ?_
          replace hM := hM.rd ((sI_at hox97).trans (congrArg Int32.toInt (c98.symm.trans c94)))
          refine lv_iconst (v := 0) hx hb dX12_settles_45 (by decide) ?_
          obtain rfl : x24 = 11 := wk_eq.mpr (show x24.toInt = 11 by first | exact Int.le_antisymm (by omega) (by omega) | omega)
          try simp only [show (11 : Int32).toInt = 11 by decide] at hM
          refine tk_Vv hC hK hw hT hA hE hSR kM_at0 (by decide) rfl (kz_X12_puts_1 l adK adV dC dI cy ad B hB0 (Int.le_trans hB1 (by decide)) qr s1   11 (by decide) (by decide) 0 (by decide) (by decide) w83 H.size hT f0_ c90 (show 0 ≤ f0_.toInt from r2) (show f0_.toInt ≤ 5 from t3) f0_3__f0__toInt_toNat c93 (show 0 ≤ f0_3__f0__toInt_toNat.toInt from r14) (show f0_3__f0__toInt_toNat.toInt ≤ 400 from Int.le_trans t15 (by decide)) (show f0_3__f0__toInt_toNat.toInt ≤ 399 from Int.le_trans t15 (by decide))) (cwV 2 hC.2.2.2.2 uV_RX12_162 rfl rfl rfl (by decide +kernel) ⟨Nat.le_of_ble_eq_true rfl, Nat.le_of_ble_eq_true rfl⟩) rfl hl.1 rfl (Nat.le_of_ble_eq_true rfl) dX12_settles_46 (fun w101 H locs hp100 hw => ?_)
          obtain ⟨hT, k102, hv108, hg107⟩ := hp100
          try simp only [show (11 : Int32).toInt = 11 by decide] at hv108
          try simp only [show (0 : Int32).toInt = 0 by decide] at hv108
          have hE9 := E9_FE k102 (fun _ => rfl) hE9
          have gn109 : binN w101 (x82.toInt).toNat = binN w83 (x82.toInt).toNat := bin_FE _ k102 (fun _ => rfl)
          have hF := hF.tr k102 (by decide)
          have c110 := k102.gi kM_at0 (by decide) c90
          have c111 := k102.gi kM_at0 (by decide) c91
          have c112 := k102.gi kM_at0 (by decide) c92
          have c113 := k102.gi kM_at9 rfl c94
          have c114 := k102.gi kM_at0 (by decide) c84
          obtain ⟨⟨x103, c104, rx103, tx103⟩, hq105, g106⟩ := hg107
          replace hM := hM.call hv108 rfl
          have ex103 : x103.toInt = f0_.toInt := by rw [← c110.symm.trans c104]
          obtain ⟨x115, c116, rx115, tx115⟩ := hT.rda (lo := 0) (hi := 400) (i := (f0_.toInt).toNat) kM_at3 rfl rfl (by omega)
          have g106 : x115.toInt = f0_3__f0__toInt_toNat.toInt + 1 := by have q := g106; simp only [c90, c110, c93, c116] at q; first | with_reducible exact q | omega
          have hO : OKW w101 f0_.toInt gb ((f0_0_22.toInt - f0_0_19.toInt + 1)) := OKW_put hO (by have q := hq105; rw [c90] at q; exact q) (by rw [c93]; omega) (fun x hx => by simp only [(show (11 : Int32).toInt = 11 by decide), (show (0 : Int32).toInt = 0 by decide)] at hx; exact okT_not (by omega) (by omega)) (by omega) (by omega)
          refine lv_aload_n hx hb dX12_settles_49 rfl (lv_at hl 0 rfl) ?_
          refine tk_getA hC hK hw hT hinX12 kM_at0 (by decide) rfl 21 (by decide) (List.mem_cons_of_mem _ uw_6_22) rfl rfl dX12_settles_50 ?_
          refine lv_aload_n hx hb dX12_settles_53 rfl (lv_at hl 0 rfl) ?_
          refine tk_geti hC hK hw hT hinX12 kM_at0 (by decide) rfl 22 (by decide) (List.mem_cons_of_mem _ uw_23_13) rfl rfl dX12_settles_54 (fun x117 c118 rx117 tx117 => ?_)
          refine wk_top x82 (c118.symm.trans c114) ?_
          replace hM := hM.rd (sI_at c114)
          refine tk_iald hC hK hw hT kM_at9 rfl rfl (show 0 ≤ x82.toInt by first | with_reducible assumption | omega) (show x82.toInt < 400 by first | with_reducible assumption | omega) dX12_settles_57 (fun x119 c120 rx119 tx119 => ?_)
          have hox119 := c120
          have c120 : gi w101 9 (1 * f0_0_22.toInt + -1).toNat = x119 := (congrArg (gi w101 9) (congrArg Int.toNat (show 1 * f0_0_22.toInt + -1 = x82.toInt by first | exact Int.le_antisymm (by omega) (by omega) | omega))).trans c120
          refine wk_top 11 (c120.symm.trans c113) ?_
          replace hM := hM.rd (v := 11) ((sI_at hox119).trans ((congrArg Int32.toInt (c120.symm.trans c113)).trans (by decide)))
          refine lv_bipush (v := 11) hx hb dX12_settles_58 (by decide) ?_
          refine lv_icmp_ne (tgt := 0) hx hb dX12_settles_60 (by decide) (fun c => absurd (by decide) c) (fun _ => ?_)
          replace hM := hM.neg (by decide)
          refine lv_aload_n hx hb dX12_settles_63 rfl (lv_at hl 0 rfl) ?_
          refine lv_dup hx hb dX12_settles_64 rfl ?_
          refine tk_geti hC hK hw hT hinX12 kM_at0 (by decide) rfl 19 (by decide) (List.mem_cons_of_mem _ uw_23_14) rfl rfl dX12_settles_65 (fun x121 c122 rx121 tx121 => ?_)
          refine wk_top f0_0_19 (c122.symm.trans c112) ?_
          replace hM := hM.rd (sI_at c112)
          refine lv_iconst (v := 1) hx hb dX12_settles_68 (by decide) ?_
          refine lv_isub hx hb dX12_settles_69 ?_
          refine lv_topi (fun x123 ex123 => ?_)
          have ezx123 := ex123
          have ex123 : x123.toInt = f0_0_19.toInt - (1 : Int) := by rw [ex123]; exact wk_sub (show (-2147483648) ≤ f0_0_19.toInt - (1 : Int) by omega) (show f0_0_19.toInt - (1 : Int) ≤ 2147483647 by omega)
          replace hM := hM.lt ex123.symm
          refine tk_puti hC hK hw hT hinX12 tyX12_ok nmX12 kM_at0 (by decide) rfl rfl 19 (by decide) (List.mem_cons_of_mem _ uw_23_14) rfl rfl rfl rfl (show (-100) ≤ x123.toInt by first | with_reducible assumption | omega) (show x123.toInt ≤ 10 by first | with_reducible assumption | omega) dX12_settles_70 (fun H locs w124 hw hT k126 c125 => ?_)
          replace hM := hM.wr (sI_up k126 c125)
          have gn127 : binN w124 (x82.toInt).toNat = binN w101 (x82.toInt).toNat := bin_F1 _ k126 (by decide)
          have hO := OKW_F1 k126 (by decide) (by decide) (by decide) (by decide) hO
          have hE9 := E9_F1 k126 (by decide) hE9
          have hF := hF.put kM_at0 (k := 19) (by decide) k126
          have c128 := k126.gi (Or.inr (by decide)) c110
          have c129 := k126.gi (Or.inr (by decide)) c111
          have c130 := k126.gi (Or.inl (tk_ne kM_at9 kM_at0 (by decide))) c113
          have c131 := k126.gi (Or.inr (by decide)) c114
          have c132 := k126.gi (Or.inl (tk_ne kM_at3 kM_at0 (by decide))) c116
          refine lv_goto (tgt := 0) hx hb dX12_settles_73 (by decide) ?_
          exact ih0 x123 x82 x115 H locs ls w124 (show 0 ≤ f0_.toInt from r2) (show f0_.toInt ≤ 5 from t3) (show 0 ≤ f1_.toInt from r5) (show f1_.toInt ≤ 60 from t6) (show (-60) ≤ x123.toInt by first | with_reducible assumption | omega) (show x123.toInt ≤ 10 by first | with_reducible assumption | omega) (show 0 ≤ x82.toInt by first | with_reducible assumption | omega) (show x82.toInt ≤ 390 by first | with_reducible assumption | omega) (show 0 ≤ x115.toInt by first | with_reducible assumption | omega) (show x115.toInt ≤ 390 by first | with_reducible assumption | omega) (show (binN w124 (x82.toInt).toNat : Int) = x82.toInt - x123.toInt by first | exact Int.le_antisymm (by omega) (by omega) | omega) (show x115.toInt + x82.toInt = f4_.toInt + f3_.toInt by first | exact Int.le_antisymm (by omega) (by omega) | omega) (show x82.toInt ≤ f3_.toInt by omega) (show x82.toInt + f2_.toInt ≤ f3_.toInt + x123.toInt by omega) (show x82.toInt ≤ x123.toInt + f1_.toInt by omega) (show x115.toInt ≤ 390 by first | with_reducible assumption | omega) (show x82.toInt ≤ 390 by first | with_reducible assumption | omega) (show -60 ≤ x123.toInt by first | with_reducible assumption | omega) (show brkN w0 (x82.toInt).toNat = brkN w0 (f3_.toInt).toNat from ((brk_step (by omega) (show f0_0_22.toInt = x82.toInt + 1 by first | exact Int.le_antisymm (by omega) (by omega) | omega) (show ¬ (gi w0 9 (x82.toInt).toNat).toInt = 91 by first | (rw [show (x82.toInt) = 1 * f0_0_22.toInt + -1 by omega, ← hF.gi kM_at9 rfl rfl, c130]; omega) | (rw [show (x82.toInt) = 1 * f0_0_22.toInt + -1 by omega, ← hF.gi kM_at9 rfl rfl, c130]; decide))).trans hcr0_8)) (show (x82.toInt - 0).toNat < n0 by first | exact tn_lt hm0 (by omega) (by omega) | omega) hw hT hF (OKW_cast hO (show (f0_0_22.toInt - f0_0_19.toInt + 1) = x82.toInt - x123.toInt + 1 by first | exact Int.le_antisymm (by omega) (by omega) | omega)) (E9_le hE9 (show x82.toInt ≤ _ by omega)) c128 c129 c125 c131 c132 hM (lv_sub hl [0, 1] rfl)
  have hM : TT (fun n => m_X12_settles n 0 2 (sI w0)) (fun n => j_X12_settles 0 n 0 [2] (sI w0)) := TT.rf
  exact L0 ((f3_.toInt - 0).toNat + 1) f2_ f3_ f4_ s.heap locs ls w0 (show 0 ≤ f0_.toInt from rf0_) (show f0_.toInt ≤ 5 from tf0_) (show 0 ≤ f1_.toInt from rf1_) (show f1_.toInt ≤ 60 from tf1_) (show (-60) ≤ f2_.toInt by first | with_reducible assumption | omega) (show f2_.toInt ≤ 10 from tf2_) (show 0 ≤ f3_.toInt from rf3_) (show f3_.toInt ≤ 390 from pr3_) (show 0 ≤ f4_.toInt from rf4_) (show f4_.toInt ≤ 390 from pr2_) (show (binN w0 (f3_.toInt).toNat : Int) = f3_.toInt - f2_.toInt by first | exact Int.le_antisymm (by omega) (by omega) | omega) (show f4_.toInt + f3_.toInt = f4_.toInt + f3_.toInt from rfl) (show f3_.toInt ≤ f3_.toInt from Int.le_refl _) (show f3_.toInt + f2_.toInt ≤ f3_.toInt + f2_.toInt from Int.le_refl _) (show f3_.toInt ≤ f2_.toInt + f1_.toInt from pr1_) (show f4_.toInt ≤ 390 from pr2_) (show f3_.toInt ≤ 390 from pr3_) (show -60 ≤ f2_.toInt by first | with_reducible assumption | omega) (show brkN w0 (f3_.toInt).toNat = brkN w0 (f3_.toInt).toNat from rfl) (Nat.lt_succ_self _) hw hT hF (OKW_cast hO (show f3_.toInt - f2_.toInt + 1 = f3_.toInt - f2_.toInt + 1 from rfl)) (E9_le hE9 (show f3_.toInt ≤ _ by omega)) cf0_ cf1_ cf2_ cf3_ cf4_ hM (lv_sub hl [0, 1] rfl)
abbrev Pz_X12_isInside_1 (ad : Nat → Nat) (cy : Nat → ClassId) (B : Int) (qr : Nat) (s1 : Int)  (w0 : va_W) : Int32 → va_W → Prop := fun r u => w0 = u ∧ Ev (fun n => m_X12_isInside n 0 (sI w0)) (r.toInt, sI w0) ∧ ((r = 0 ∧ (∀ k : Int, 0 ≤ k → k < (gi w0 0 22).toInt → ¬ (gi w0 9 k.toNat).toInt = 91)) ∨ (r = 1 ∧ (∃ y : Int32, gi u 0 22 = y ∧ 1 ≤ y.toInt ∧ y.toInt ≤ 400) ∧ (1 ≤ brkN w0 ((gi w0 0 22).toInt).toNat)))
set_option maxHeartbeats 4000000 in
set_option maxRecDepth 100000 in
theorem kz_X12_isInside_1 (l : Launch) (adK adV : Nat → Nat) (dC : Nat → ClassId) (dI : Nat → Nat → Nat) (cy : Nat → ClassId) (ad : Nat → Nat) (B : Int) (hB0 : 100000 ≤ B) (hB1 : B ≤ 1073741824) (qr : Nat) (s1 : Int)   (w0 : va_W) (sz : Nat) (hT : TW ksM ad cy B qr 12 w0)  : Met l yX12_isInside (wu yX12_isInside cX12_isInside 2 (some .boolean)) ({ frames := 1, cells := 0, slots := 0, locals := 12 }) (va_Pc [.ref (ad 0)] (wpreS adK adV dC dI cy sz w0)) (va_Qi (Pz_X12_isInside_1 ad cy B qr s1  w0) (fun u : va_W => wpost dC dI cy (va_A w0 sz) u) (va_A w0 sz)) 0 0 (va_A w0 sz) := by
  refine Met.ofW (cc := cX12_isInside) (maxL := 2) (ret := (some .boolean)) (by decide) rfl ?_
  intro p e s m args below meth c s₁ Bk hml hv
  obtain ⟨rfl, ⟨hsz, hP, hK, hD0⟩, hE, hSR⟩ := hv
  have hx := Bk.exec
  have hb := Bk.bytes
  have hr := Bk.returns
  have hlocks := Bk.notSynchronized
  have hC : CallFix p m c cX12_isInside 2 s _ (wu yX12_isInside cX12_isInside 2 (some .boolean)) RX12 := ⟨hx, hb, hml, findClass_of_methodNamed Bk.named, atoms_spec (ws := (wu yX12_isInside cX12_isInside 2 (some .boolean))) Bk.pre⟩
  subst hsz
  have hD := hD0.self (sz := s.heap.size)
  generalize hAe : va_A w0 s.heap.size = A at hD hE ⊢
  have hA : ∀ q : Nat, s.heap.size ≤ q → A q := fun q h => by rw [← hAe]; exact Or.inr h
  have hw : Wd dC dI A s.heap s.heap [] w0 := ⟨hP, hD, va_S.rf⟩
  have hF : FE ksM ([] : List (Nat × Nat × Nat)) w0 w0 := FE.rf
  have hl := lv_entry ([.ref (ad 0)]) (n := 2) (Nat.le_of_ble_eq_true rfl)
  rw [lg_entry_eq]
  generalize (lg_sl ([.ref (ad 0)]) ++ List.replicate (2 - (lg_sl ([.ref (ad 0)])).length) Slot.unset).toArray = ls at hl ⊢
  have hl : lv_has ls 2 [(0, .ref (ad 0))] := hl
  generalize hloc : ([] : List Loc) = locs at hw ⊢
  have hinX12 : ∀ w ∈ u_ws RX12 TX12 42, w ∈ (wu yX12_isInside cX12_isInside 2 (some .boolean)) := fun _ h => List.mem_cons_of_mem _ (up_71 h)
  have L2 : ∀ (n2 : Nat) (v2_1 : Int32) (H : Heap) (locs : List Loc) (ls : Array Slot), 0 ≤ v2_1.toInt → v2_1.toInt ≤ 400 → (∀ k : Int, 0 ≤ k → k < v2_1.toInt → ¬ (gi w0 9 k.toNat).toInt = 91) → (400 - v2_1.toInt).toNat < n2 → Wd dC dI A s.heap H locs w0 → TT (fun n => m_X12_isInside n 0 (sI w0)) (fun n => j_X12_isInside 0 n 2 [v2_1.toInt] (sI w0)) → lv_has ls 2 [(0, .ref (ad 0)), (1, .int v2_1)] → W p l e ({ frames := 1, cells := 0, slots := 0, locals := 12 }) s m (List.toArray [.ref (ad 0)]) below meth c H locs 0 0 (MQ below (va_Qi (Pz_X12_isInside_1 ad cy B qr s1  w0) (fun u : va_W => wpost dC dI cy A u) A) (List.toArray [.ref (ad 0)]) s 0 0 A) (F0 m 2 ls []) := by
    intro n2
    induction n2 with
    | zero => intro v2_1 H locs ls r1 t2 hcr2_0 hm2 hw hM hl; omega
    | succ n2 ih2 =>
      intro v2_1 H locs ls r1 t2 hcr2_0 hm2 hw hM hl
      replace hM := hM.suc (fun _ => e_X12_isInside_2)
      refine lv_iload_n hx hb dX12_isInside_2 rfl (lv_at hl 1 rfl) ?_
      refine lv_aload_n hx hb dX12_isInside_3 rfl (lv_at hl 0 rfl) ?_
      refine tk_geti hC hK hw hT hinX12 kM_at0 (by decide) rfl 22 (by decide) (List.mem_cons_of_mem _ uw_23_13) rfl rfl dX12_isInside_4 (fun x3 c4 rx3 tx3 => ?_)
      replace hM := hM.rd (sI_at c4)
      refine lv_icmp_ge (tgt := 29) hx hb dX12_isInside_7 (by decide) (fun c5 => ?_) (fun c5 => ?_)
      · have c5 : x3.toInt ≤ v2_1.toInt := wk_le.mp c5
        replace hM := hM.pos c5
        refine lv_iconst (v := 0) hx hb dX12_isInside_29 (by decide) ?_
        exact tk_zret hC hr rfl hlocks hK ⟨rfl, hM.ret (by decide), (Or.inl ⟨rfl, (by intro k h0 h1; rw [c4] at h1; exact hcr2_0 k h0 (by omega))⟩)⟩ hw dX12_isInside_30
      · have c5 : v2_1.toInt < x3.toInt := wk_leF c5
        replace hM := hM.neg (Int.not_le.mpr c5)
        refine lv_aload_n hx hb dX12_isInside_10 rfl (lv_at hl 0 rfl) ?_
        refine tk_getA hC hK hw hT hinX12 kM_at0 (by decide) rfl 21 (by decide) (List.mem_cons_of_mem _ uw_6_22) rfl rfl dX12_isInside_11 ?_
        refine lv_iload_n hx hb dX12_isInside_14 rfl (lv_at hl 1 rfl) ?_
        refine tk_iald hC hK hw hT kM_at9 rfl rfl (show 0 ≤ v2_1.toInt from r1) (show v2_1.toInt < 400 by first | with_reducible assumption | omega) dX12_isInside_15 (fun x6 c7 rx6 tx6 => ?_)
        have hox6 := c7
        replace hM := hM.rd (sI_at hox6)
        have c7 : gi w0 9 (v2_1.toInt).toNat = x6 := (congrArg (gi w0 9) (congrArg Int.toNat (show v2_1.toInt = v2_1.toInt from rfl))).trans c7
        refine lv_bipush (v := 91) hx hb dX12_isInside_16 (by decide) ?_
        refine lv_icmp_ne (tgt := 23) hx hb dX12_isInside_18 (by decide) (fun c8 => ?_) (fun c8 => ?_)
        · have c8 : ¬ x6.toInt = (91 : Int) := wk_eqF c8
          replace hM := hM.pos c8
          obtain ⟨x9, ex9⟩ : ∃ y : Int32, y = v2_1 + Int32.ofInt 1 := ⟨_, rfl⟩
          have erx9 := ex9
          refine lv_iinc (v := x9) (lv' := [(1, .int x9), (0, .ref (ad 0))]) hx hb dX12_isInside_23 hl (k := 1) rfl ex9.symm (by decide) rfl (fun ls hl => ?_)
          have ex9 : x9.toInt = v2_1.toInt + 1 := by rw [ex9]; exact wk_add (y := 1) (show -2147483648 ≤ v2_1.toInt + 1 by omega) (show v2_1.toInt + 1 ≤ 2147483647 by omega)
          replace hM := hM.lt ex9.symm
          refine lv_goto (tgt := 2) hx hb dX12_isInside_26 (by decide) ?_
          exact ih2 x9 H locs ls  (show 0 ≤ x9.toInt by first | with_reducible assumption | omega) (show x9.toInt ≤ 400 by first | with_reducible assumption | omega) (show ∀ k : Int, 0 ≤ k → k < x9.toInt → ¬ (gi w0 9 k.toNat).toInt = 91 from all_step (P := fun k => (gi w0 9 k.toNat).toInt = 91) hcr2_0 (show ¬ (gi w0 9 (v2_1.toInt).toNat).toInt = 91 by rw [c7]; omega) (by omega)) (show (400 - x9.toInt).toNat < n2 by first | exact tn_lt hm2 (by omega) (by omega) | omega) hw  hM (lv_sub hl [1, 0] rfl)
        · have c8 : x6.toInt = (91 : Int) := wk_eq.mp c8
          replace hM := hM.neg (fun q => q c8)
          refine lv_iconst (v := 1) hx hb dX12_isInside_21 (by decide) ?_
          exact tk_zret hC hr rfl hlocks hK ⟨rfl, hM.ret (by decide), (Or.inr ⟨rfl, ⟨x3, c4, (show 1 ≤ x3.toInt by first | with_reducible assumption | omega), (show x3.toInt ≤ 400 from tx3)⟩, (by rw [c4]; exact brk_pos (j := (v2_1.toInt).toNat) (by rw [c7]; omega) _ (by omega))⟩)⟩ hw dX12_isInside_22
  have hM : TT (fun n => m_X12_isInside n 0 (sI w0)) (fun n => m_X12_isInside n 0 (sI w0)) := TT.rf
  refine lv_iconst (v := 0) hx hb dX12_isInside_0 (by decide) ?_
  refine lv_istore_n (lv' := [(1, .int 0), (0, .ref (ad 0))]) hx hb dX12_isInside_1 rfl hl (by decide) rfl (fun ls hl => ?_)
  exact L2 ((400 - (0 : Int)).toNat + 1) 0 s.heap locs ls  (by decide) (by decide) (show ∀ k : Int, 0 ≤ k → k < (0 : Int) → ¬ (gi w0 9 k.toNat).toInt = 91 from all_none) (Nat.lt_succ_self _) hw  hM (lv_sub hl [1, 0] rfl)
abbrev Pz_X12_isWord_11 (ad : Nat → Nat) (cy : Nat → ClassId) (B : Int) (qr : Nat) (s1 : Int)  (w0 : va_W) : Int32 → va_W → Prop := fun r u => TW ksM ad cy B qr 12 u ∧ FE ksM [(12, 14, 14)] w0 u ∧ Ev (fun n => m_X12_isWord n 0 1752135026 (sI w0)) (r.toInt, sI u) ∧ ((r = 0 ∧ (∃ y : Int32, gi u 0 1 = y ∧ 0 ≤ y.toInt ∧ y.toInt ≤ 400) ∧ (((gi u 0 14).toInt = (gi w0 0 14).toInt ∨ (gi w0 1 ((gi w0 0 14).toInt).toNat).toInt = 32))) ∨ (r = 1 ∧ (∃ y : Int32, gi u 0 1 = y ∧ 0 ≤ y.toInt ∧ y.toInt ≤ 400) ∧ (((gi u 0 14).toInt = (gi w0 0 14).toInt ∨ (gi w0 1 ((gi w0 0 14).toInt).toNat).toInt = 32))))
set_option maxHeartbeats 4000000 in
set_option maxRecDepth 100000 in
theorem kz_X12_isWord_11 (l : Launch) (adK adV : Nat → Nat) (dC : Nat → ClassId) (dI : Nat → Nat → Nat) (cy : Nat → ClassId) (ad : Nat → Nat) (B : Int) (hB0 : 100000 ≤ B) (hB1 : B ≤ 1073741824) (qr : Nat) (s1 : Int)   (w0 : va_W) (sz : Nat) (hT : TW ksM ad cy B qr 12 w0) (f0_ : Int32) (cf0_ : gi w0 0 14 = f0_) (rf0_ : 0 ≤ f0_.toInt) (tf0_ : f0_.toInt ≤ 400) : Met l yX12_isWord (wu yX12_isWord cX12_isWord 6 (some .boolean)) ({ frames := 2, cells := 0, slots := 0, locals := 33 }) (va_Pc [.ref (ad 0), .long 1752135026] (wpreS adK adV dC dI cy sz w0)) (va_Qi (Pz_X12_isWord_11 ad cy B qr s1  w0) (fun u : va_W => wpost dC dI cy (va_A w0 sz) u) (va_A w0 sz)) 0 0 (va_A w0 sz) := by
  refine Met.ofW (cc := cX12_isWord) (maxL := 6) (ret := (some .boolean)) (by decide) rfl ?_
  intro p e s m args below meth c s₁ Bk hml hv
  obtain ⟨rfl, ⟨hsz, hP, hK, hD0⟩, hE, hSR⟩ := hv
  have hx := Bk.exec
  have hb := Bk.bytes
  have hr := Bk.returns
  have hlocks := Bk.notSynchronized
  have hC : CallFix p m c cX12_isWord 6 s _ (wu yX12_isWord cX12_isWord 6 (some .boolean)) RX12 := ⟨hx, hb, hml, findClass_of_methodNamed Bk.named, atoms_spec (ws := (wu yX12_isWord cX12_isWord 6 (some .boolean))) Bk.pre⟩
  subst hsz
  have hD := hD0.self (sz := s.heap.size)
  generalize hAe : va_A w0 s.heap.size = A at hD hE ⊢
  have hA : ∀ q : Nat, s.heap.size ≤ q → A q := fun q h => by rw [← hAe]; exact Or.inr h
  have hw : Wd dC dI A s.heap s.heap [] w0 := ⟨hP, hD, va_S.rf⟩
  have hF : FE ksM [(12, 14, 14)] w0 w0 := FE.rf
  have hl := lv_entry ([.ref (ad 0), .long 1752135026]) (n := 6) (Nat.le_of_ble_eq_true rfl)
  rw [lg_entry_eq]
  generalize (lg_sl ([.ref (ad 0), .long 1752135026]) ++ List.replicate (6 - (lg_sl ([.ref (ad 0), .long 1752135026])).length) Slot.unset).toArray = ls at hl ⊢
  have hl : lv_has ls 6 [(0, .ref (ad 0)), (1, .long 1752135026)] := hl
  generalize hloc : ([] : List Loc) = locs at hw ⊢
  have hinX12 : ∀ w ∈ u_ws RX12 TX12 42, w ∈ (wu yX12_isWord cX12_isWord 6 (some .boolean)) := fun _ h => List.mem_cons_of_mem _ (up_71 h)
  have J78 : ∀ (v78_3 : Int64) (v78_5 : Int32) (f78_0_1 : Int32) (f78_0_14 : Int32) (H : Heap) (locs : List Loc) (ls : Array Slot) (w1 : va_W), 0 ≤ v78_5.toInt → v78_5.toInt ≤ 400 → 0 ≤ f78_0_1.toInt → f78_0_1.toInt ≤ 400 → 0 ≤ f78_0_14.toInt → f78_0_14.toInt ≤ 400 → ((f78_0_14.toInt = f0_.toInt ∨ (gi w0 1 (f0_.toInt).toNat).toInt = 32)) → Wd dC dI A s.heap H locs w1 → TW ksM ad cy B qr 12 w1 → FE ksM [(12, 14, 14)] w0 w1 → gi w1 0 1 = f78_0_1 → gi w1 0 14 = f78_0_14 → TT (fun n => m_X12_isWord n 0 1752135026 (sI w0)) (fun n => b_X12_isWord_78 (j_X12_isWord 0 n) n 0 (sI w1)) → lv_has ls 6 [(0, .ref (ad 0)), (1, .long 1752135026), (3, .long v78_3), (5, .int v78_5)] → W p l e ({ frames := 2, cells := 0, slots := 0, locals := 33 }) s m (List.toArray [.ref (ad 0), .long 1752135026]) below meth c H locs 0 0 (MQ below (va_Qi (Pz_X12_isWord_11 ad cy B qr s1  w0) (fun u : va_W => wpost dC dI cy A u) A) (List.toArray [.ref (ad 0), .long 1752135026]) s 0 0 A) (F0 m 78 ls []) := by
    intro v78_3 v78_5 f78_0_1 f78_0_14 H locs ls w1 r2 t3 r4 t5 r7 t8 hcr78_0 hw hT hF c6 c9 hM hl
    refine lv_iconst (v := 0) hx hb dX12_isWord_78 (by decide) ?_
    exact tk_zret hC hr rfl hlocks hK ⟨hT, hF, hM.ret (by decide), (Or.inl ⟨rfl, ⟨f78_0_1, c6, (show 0 ≤ f78_0_1.toInt from r4), (show f78_0_1.toInt ≤ 400 from t5)⟩, (by simp only [cf0_, c9]; omega)⟩)⟩ hw dX12_isWord_79
  have L10 : ∀ (n10 : Nat) (v10_3 : Int64) (v10_5 : Int32) (f10_0_1 : Int32) (f10_0_14 : Int32) (H : Heap) (locs : List Loc) (ls : Array Slot) (w10 : va_W), 0 ≤ v10_5.toInt → v10_5.toInt ≤ 400 → 0 ≤ f10_0_1.toInt → f10_0_1.toInt ≤ 400 → 0 ≤ f10_0_14.toInt → f10_0_14.toInt ≤ 400 → ((f10_0_14.toInt = f0_.toInt ∨ (gi w0 1 (f0_.toInt).toNat).toInt = 32)) → (400 - v10_5.toInt).toNat < n10 → Wd dC dI A s.heap H locs w10 → TW ksM ad cy B qr 12 w10 → FE ksM [(12, 14, 14)] w0 w10 → gi w10 0 1 = f10_0_1 → gi w10 0 14 = f10_0_14 → TT (fun n => m_X12_isWord n 0 1752135026 (sI w0)) (fun n => j_X12_isWord 0 n 10 [(1752135026 : Int), v10_3.toInt, v10_5.toInt] (sI w10)) → lv_has ls 6 [(0, .ref (ad 0)), (1, .long 1752135026), (3, .long v10_3), (5, .int v10_5)] → W p l e ({ frames := 2, cells := 0, slots := 0, locals := 33 }) s m (List.toArray [.ref (ad 0), .long 1752135026]) below meth c H locs 0 0 (MQ below (va_Qi (Pz_X12_isWord_11 ad cy B qr s1  w0) (fun u : va_W => wpost dC dI cy A u) A) (List.toArray [.ref (ad 0), .long 1752135026]) s 0 0 A) (F0 m 10 ls []) := by
    intro n10
    induction n10 with
    | zero => intro v10_3 v10_5 f10_0_1 f10_0_14 H locs ls w10 r11 t12 r13 t14 r16 t17 hcr10_0 hm10 hw hT hF c15 c18 hM hl; omega
    | succ n10 ih10 =>
      intro v10_3 v10_5 f10_0_1 f10_0_14 H locs ls w10 r11 t12 r13 t14 r16 t17 hcr10_0 hm10 hw hT hF c15 c18 hM hl
      have J50 : ∀ (v50_3 : Int64) (H : Heap) (locs : List Loc) (ls : Array Slot) (w19 : va_W), 0 ≤ v10_5.toInt → v10_5.toInt ≤ 399 → 1 ≤ f10_0_1.toInt → f10_0_1.toInt ≤ 400 → 0 ≤ f10_0_14.toInt → f10_0_14.toInt ≤ 399 → ((f10_0_14.toInt = f0_.toInt ∨ (gi w0 1 (f0_.toInt).toNat).toInt = 32)) → Wd dC dI A s.heap H locs w19 → TW ksM ad cy B qr 12 w19 → FE ksM [(12, 14, 14)] w0 w19 → gi w19 0 1 = f10_0_1 → gi w19 0 14 = f10_0_14 → TT (fun n => m_X12_isWord n 0 1752135026 (sI w0)) (fun n => b_X12_isWord_50 (j_X12_isWord 0 n) n 0 (1752135026 : Int) (v50_3.toInt) (v10_5.toInt) (sI w19)) → lv_has ls 6 [(0, .ref (ad 0)), (1, .long 1752135026), (3, .long v50_3), (5, .int v10_5)] → W p l e ({ frames := 2, cells := 0, slots := 0, locals := 33 }) s m (List.toArray [.ref (ad 0), .long 1752135026]) below meth c H locs 0 0 (MQ below (va_Qi (Pz_X12_isWord_11 ad cy B qr s1  w0) (fun u : va_W => wpost dC dI cy A u) A) (List.toArray [.ref (ad 0), .long 1752135026]) s 0 0 A) (F0 m 50 ls []) := by
        intro v50_3 H locs ls w19 r20 t21 r22 t23 r25 t26 hcr50_0 hw hT hF c24 c27 hM hl
        obtain ⟨x28, ex28⟩ : ∃ y : Int32, y = v10_5 + Int32.ofInt 1 := ⟨_, rfl⟩
        have erx28 := ex28
        refine lv_iinc (v := x28) (lv' := [(5, .int x28), (0, .ref (ad 0)), (1, .long 1752135026), (3, .long v50_3)]) hx hb dX12_isWord_50 hl (k := 3) rfl ex28.symm (by decide) rfl (fun ls hl => ?_)
        have ex28 : x28.toInt = v10_5.toInt + 1 := by rw [ex28]; exact wk_add (y := 1) (show -2147483648 ≤ v10_5.toInt + 1 by omega) (show v10_5.toInt + 1 ≤ 2147483647 by omega)
        replace hM := hM.lt ex28.symm
        refine lv_goto (tgt := 10) hx hb dX12_isWord_53 (by decide) ?_
        exact ih10 v50_3 x28 f10_0_1 f10_0_14 H locs ls w19 (show 0 ≤ x28.toInt by first | with_reducible assumption | omega) (show x28.toInt ≤ 400 by first | with_reducible assumption | omega) (show 0 ≤ f10_0_1.toInt from r13) (show f10_0_1.toInt ≤ 400 from t23) (show 0 ≤ f10_0_14.toInt from r25) (show f10_0_14.toInt ≤ 400 from t17) (show (f10_0_14.toInt = f0_.toInt ∨ (gi w0 1 (f0_.toInt).toNat).toInt = 32) by first | omega | assumption | (left; omega) | (left; decide) | (right; assumption)) (show (400 - x28.toInt).toNat < n10 by first | exact tn_lt hm10 (by omega) (by omega) | omega) hw hT hF c24 c27 hM (lv_sub hl [1, 2, 3, 0] rfl)
      replace hM := hM.suc (fun _ => e_X12_isWord_10)
      refine lv_aload_n hx hb dX12_isWord_10 rfl (lv_at hl 0 rfl) ?_
      refine lv_aload_n hx hb dX12_isWord_11 rfl (lv_at hl 0 rfl) ?_
      refine tk_geti hC hK hw hT hinX12 kM_at0 (by decide) rfl 14 (by decide) (List.mem_cons_of_mem _ uw_19_18) rfl rfl dX12_isWord_12 (fun x29 c30 rx29 tx29 => ?_)
      refine wk_top f10_0_14 (c30.symm.trans c18) ?_
      replace hM := hM.rd (sI_at c18)
      refine lv_iload hx hb dX12_isWord_15 (lv_at hl 3 rfl) ?_
      refine lv_iadd hx hb dX12_isWord_17 ?_
      refine lv_topi (fun x31 ex31 => ?_)
      have ezx31 := ex31
      have ex31 : x31.toInt = f10_0_14.toInt + v10_5.toInt := by rw [ex31]; exact wk_add (show (-2147483648) ≤ f10_0_14.toInt + v10_5.toInt by omega) (show f10_0_14.toInt + v10_5.toInt ≤ 2147483647 by omega)
      replace hM := hM.lt ex31.symm
      refine tk_Vi hC hK hw hT hA hE hSR kM_at0 (by decide) rfl (kz_X12_isLetter_1 l adK adV dC dI cy ad B hB0 (Int.le_trans hB1 (by decide)) qr s1   x31 (show 0 ≤ x31.toInt by first | with_reducible assumption | omega) (show x31.toInt ≤ 800 by first | with_reducible assumption | omega) w10 H.size hT ) (cwV 1 hC.2.2.2.2 uV_RX12_101 rfl rfl rfl (by decide +kernel) ⟨Nat.le_of_ble_eq_true rfl, Nat.le_of_ble_eq_true rfl⟩) rfl hl.1 rfl (Nat.le_of_ble_eq_true rfl) dX12_isWord_18 (fun r32 w34 H locs hp33 hw => ?_)
      obtain ⟨rfl, hv42, hg41⟩ := hp33
      rcases hg41 with ⟨rfl, ⟨x36, c37, rx36, tx36⟩⟩ | ⟨rfl, g38, ⟨x39, c40, rx39, tx39⟩⟩
      · replace hM := hM.call (r' := 0) hv42 (by decide)
        have ex36 : x36.toInt = f10_0_1.toInt := by rw [← c15.symm.trans c37]
        refine lv_if_eq (tgt := 56) hx hb dX12_isWord_21 (by decide) (fun _ => ?_) (fun c => absurd (by decide) c)
        replace hM := hM.pos (by decide)
        refine lv_iload hx hb dX12_isWord_56 (lv_at hl 3 rfl) ?_
        refine lv_if_le (tgt := 78) hx hb dX12_isWord_58 (by decide) (fun c43 => ?_) (fun c43 => ?_)
        · have c43 : v10_5.toInt ≤ (0 : Int) := wk_le.mp c43
          replace hM := hM.pos c43
          exact J78 v10_3 v10_5 f10_0_1 f10_0_14 H locs ls w10 (show 0 ≤ v10_5.toInt from r11) (show v10_5.toInt ≤ 400 from t12) (show 0 ≤ f10_0_1.toInt from r13) (show f10_0_1.toInt ≤ 400 from t14) (show 0 ≤ f10_0_14.toInt from r16) (show f10_0_14.toInt ≤ 400 from t17) (show (f10_0_14.toInt = f0_.toInt ∨ (gi w0 1 (f0_.toInt).toNat).toInt = 32) by first | omega | assumption | (left; omega) | (left; decide) | (right; assumption))  hw hT hF c15 c18 hM (lv_sub hl [0, 1, 2, 3] rfl)
        · have c43 : (0 : Int) < v10_5.toInt := wk_leF c43
          replace hM := hM.neg (Int.not_le.mpr c43)
          refine lv_iload hx hb dX12_isWord_61 (lv_at hl 3 rfl) ?_
          refine lv_bipush (v := 8) hx hb dX12_isWord_63 (by decide) ?_
          refine lv_icmp_ge (tgt := 78) hx hb dX12_isWord_65 (by decide) (fun c44 => ?_) (fun c44 => ?_)
          · have c44 : (8 : Int) ≤ v10_5.toInt := wk_le.mp c44
            replace hM := hM.pos c44
            exact J78 v10_3 v10_5 f10_0_1 f10_0_14 H locs ls w10 (show 0 ≤ v10_5.toInt from r11) (show v10_5.toInt ≤ 400 from t12) (show 0 ≤ f10_0_1.toInt from r13) (show f10_0_1.toInt ≤ 400 from t14) (show 0 ≤ f10_0_14.toInt from r16) (show f10_0_14.toInt ≤ 400 from t17) (show (f10_0_14.toInt = f0_.toInt ∨ (gi w0 1 (f0_.toInt).toNat).toInt = 32) by first | omega | assumption | (left; omega) | (left; decide) | (right; assumption))  hw hT hF c15 c18 hM (lv_sub hl [0, 1, 2, 3] rfl)
          · have c44 : v10_5.toInt < (8 : Int) := wk_leF c44
            replace hM := hM.neg (Int.not_le.mpr c44)
            refine lv_lload_n hx hb dX12_isWord_68 rfl (lv_at hl 2 rfl) ?_
            refine lv_lload_n hx hb dX12_isWord_69 rfl (lv_at hl 1 rfl) ?_
            refine W.lcmp hx hb dX12_isWord_70 ?_
            refine lv_if_ne (tgt := 78) hx hb dX12_isWord_71 (by decide) (fun c45 => ?_) (fun c45 => ?_)
            · have c45 : ¬ v10_3.toInt = (1752135026 : Int) := wk_ceF c45
              replace hM := hM.pos c45
              exact J78 v10_3 v10_5 f10_0_1 f10_0_14 H locs ls w10 (show 0 ≤ v10_5.toInt from r11) (show v10_5.toInt ≤ 400 from t12) (show 0 ≤ f10_0_1.toInt from r13) (show f10_0_1.toInt ≤ 400 from t14) (show 0 ≤ f10_0_14.toInt from r16) (show f10_0_14.toInt ≤ 400 from t17) (show (f10_0_14.toInt = f0_.toInt ∨ (gi w0 1 (f0_.toInt).toNat).toInt = 32) by first | omega | assumption | (left; omega) | (left; decide) | (right; assumption))  hw hT hF c15 c18 hM (lv_sub hl [0, 1, 2, 3] rfl)
            · have c45 : v10_3.toInt = (1752135026 : Int) := wk_ceT c45
              replace hM := hM.neg (fun q => q c45)
              refine lv_iconst (v := 1) hx hb dX12_isWord_74 (by decide) ?_
              refine lv_goto (tgt := 79) hx hb dX12_isWord_75 (by decide) ?_
              exact tk_zret hC hr rfl hlocks hK ⟨hT, hF, hM.ret (by decide), (Or.inr ⟨rfl, ⟨f10_0_1, c15, (show 0 ≤ f10_0_1.toInt from r13), (show f10_0_1.toInt ≤ 400 from t14)⟩, (by simp only [cf0_, c18]; omega)⟩)⟩ hw dX12_isWord_79
      · replace hM := hM.call (r' := 1) hv42 (by decide)
        have ex39 : x39.toInt = f10_0_1.toInt := by rw [← c15.symm.trans c40]
        refine lv_if_eq (tgt := 56) hx hb dX12_isWord_21 (by decide) (fun c => absurd c (by decide)) (fun _ => ?_)
        replace hM := hM.neg (by decide)
        refine lv_iload hx hb dX12_isWord_24 (lv_at hl 3 rfl) ?_
        refine lv_bipush (v := 8) hx hb dX12_isWord_26 (by decide) ?_
        refine lv_icmp_ge (tgt := 50) hx hb dX12_isWord_28 (by decide) (fun c46 => ?_) (fun c46 => ?_)
        · have c46 : (8 : Int) ≤ v10_5.toInt := wk_le.mp c46
          replace hM := hM.pos c46
          exact J50 v10_3 H locs ls w10 (show 0 ≤ v10_5.toInt from r11) (show v10_5.toInt ≤ 399 by first | with_reducible assumption | omega) (show 1 ≤ f10_0_1.toInt by first | with_reducible assumption | omega) (show f10_0_1.toInt ≤ 400 from t14) (show 0 ≤ f10_0_14.toInt from r16) (show f10_0_14.toInt ≤ 399 by first | with_reducible assumption | omega) (show (f10_0_14.toInt = f0_.toInt ∨ (gi w0 1 (f0_.toInt).toNat).toInt = 32) by first | omega | assumption | (left; omega) | (left; decide) | (right; assumption))  hw hT hF c15 c18 hM (lv_sub hl [0, 1, 2, 3] rfl)
        · have c46 : v10_5.toInt < (8 : Int) := wk_leF c46
          replace hM := hM.neg (Int.not_le.mpr c46)
          refine lv_lload_n hx hb dX12_isWord_31 rfl (lv_at hl 2 rfl) ?_
          refine lv_bipush (v := 8) hx hb dX12_isWord_32 (by decide) ?_
          refine lv_lshl hx hb dX12_isWord_34 rfl ?_
          refine lv_topl (fun x47 ex47 => ?_)
          replace hM := hM.lt (mShlL_e ex47 rfl (by decide))
          refine lv_aload_n hx hb dX12_isWord_35 rfl (lv_at hl 0 rfl) ?_
          refine tk_getA hC hK hw hT hinX12 kM_at0 (by decide) rfl 0 (by decide) (List.mem_cons_of_mem _ uw_6_14) rfl rfl dX12_isWord_36 ?_
          refine lv_aload_n hx hb dX12_isWord_39 rfl (lv_at hl 0 rfl) ?_
          refine tk_geti hC hK hw hT hinX12 kM_at0 (by decide) rfl 14 (by decide) (List.mem_cons_of_mem _ uw_19_18) rfl rfl dX12_isWord_40 (fun x48 c49 rx48 tx48 => ?_)
          refine wk_top f10_0_14 (c49.symm.trans c18) ?_
          replace hM := hM.rd (sI_at c18)
          refine lv_iload hx hb dX12_isWord_43 (lv_at hl 3 rfl) ?_
          refine lv_iadd hx hb dX12_isWord_45 ?_
          refine lv_topi (fun x50 ex50 => ?_)
          have ezx50 := ex50
          have ex50 : x50.toInt = f10_0_14.toInt + v10_5.toInt := by rw [ex50]; exact wk_add (show (-2147483648) ≤ f10_0_14.toInt + v10_5.toInt by omega) (show f10_0_14.toInt + v10_5.toInt ≤ 2147483647 by omega)
          replace hM := hM.lt ex50.symm
          refine tk_bald hC hK hw hT kM_at1 rfl rfl (show 0 ≤ x50.toInt by first | with_reducible assumption | omega) (show x50.toInt < 400 by first | with_reducible assumption | omega) dX12_isWord_46 (fun x51 c52 rx51 tx51 => ?_)
          have hox51 := c52
          replace hM := hM.rd (sI_at hox51)
          have c52 : gi w10 1 (1 * f10_0_14.toInt + 1 * v10_5.toInt + 0).toNat = x51 := (congrArg (gi w10 1) (congrArg Int.toNat (show 1 * f10_0_14.toInt + 1 * v10_5.toInt + 0 = x50.toInt by first | exact Int.le_antisymm (by omega) (by omega) | omega))).trans c52
          refine lv_i2l hx hb dX12_isWord_47 rfl ?_
          refine lv_topl (fun x53 ex53 => ?_)
          have ex53 : x53.toInt = x51.toInt := by rw [ex53]; exact wk_i2l _
          have bx53 := wk_i32 x51
          replace hM := hM.lt ex53.symm
          refine lv_lor hx hb dX12_isWord_48 ?_
          refine lv_topl (fun x54 ex54 => ?_)
          have ezx54 := ex54
          replace hM := hM.lt (o64_e (f := fun x y => x ||| y) ezx54 rfl rfl)
          refine lv_lstore_n (lv' := [(3, .long x54), (0, .ref (ad 0)), (1, .long 1752135026), (5, .int v10_5)]) hx hb dX12_isWord_49 rfl hl (by decide) rfl (fun ls hl => ?_)
          exact J50 x54 H locs ls w10 (show 0 ≤ v10_5.toInt from r11) (show v10_5.toInt ≤ 399 by first | with_reducible assumption | omega) (show 1 ≤ f10_0_1.toInt by first | with_reducible assumption | omega) (show f10_0_1.toInt ≤ 400 from t14) (show 0 ≤ f10_0_14.toInt from r16) (show f10_0_14.toInt ≤ 399 by first | with_reducible assumption | omega) (show (f10_0_14.toInt = f0_.toInt ∨ (gi w0 1 (f0_.toInt).toNat).toInt = 32) by first | omega | assumption | (left; omega) | (left; decide) | (right; assumption) | (right; rw [c52]; omega) | (right; rw [c52]; decide))  hw hT hF c15 c18 hM (lv_sub hl [1, 2, 0, 3] rfl)
  have hM : TT (fun n => m_X12_isWord n 0 1752135026 (sI w0)) (fun n => m_X12_isWord n 0 1752135026 (sI w0)) := TT.rf
  refine lv_aload_n hx hb dX12_isWord_0 rfl (lv_at hl 0 rfl) ?_
  refine tk_Vi hC hK hw hT hA hE hSR kM_at0 (by decide) rfl (kz_X12_see_1 l adK adV dC dI cy ad B hB0 (Int.le_trans hB1 (by decide)) qr s1    w0 s.heap.size hT f0_ cf0_ (show 0 ≤ f0_.toInt from rf0_) (show f0_.toInt ≤ 400 from tf0_)) (cwV 0 hC.2.2.2.2 uV_RX12_97 rfl rfl rfl (by decide +kernel) ⟨Nat.le_of_ble_eq_true rfl, Nat.le_of_ble_eq_true rfl⟩) rfl hl.1 rfl (Nat.le_of_ble_eq_true rfl) dX12_isWord_1 (fun r55 w57 H locs hp56 hw => ?_)
  obtain ⟨hT, k58, hv76, hg75⟩ := hp56
  have hF := hF.tr k58 (by decide)
  rcases hg75 with ⟨g59, g60, ⟨x61, c62, rx61, tx61⟩, ⟨x63, c64, rx63, tx63⟩, g65, g66⟩ | ⟨rfl, ⟨x67, c68, rx67, tx67⟩, ⟨x69, c70, rx69, tx69⟩, g71⟩ | ⟨rfl, ⟨x72, c73, rx72, tx72⟩, g74⟩
  · replace hM := hM.call hv76 rfl
    have g65 : (gi w57 1 (x63.toInt).toNat).toInt ≠ 32 := by have q := g65; simp only [c64] at q; first | with_reducible exact q | omega
    have g66 : (x63.toInt = f0_.toInt ∨ (gi w0 1 (f0_.toInt).toNat).toInt = 32) := by have q := g66; simp only [cf0_, c64] at q; first | with_reducible exact q | omega
    refine lv_pop hx hb dX12_isWord_4 rfl ?_
    refine lv_lconst (v := 0) hx hb dX12_isWord_5 (by decide) ?_
    refine lv_lstore_n (lv' := [(3, .long 0), (0, .ref (ad 0)), (1, .long 1752135026)]) hx hb dX12_isWord_6 rfl hl (by decide) rfl (fun ls hl => ?_)
    refine lv_iconst (v := 0) hx hb dX12_isWord_7 (by decide) ?_
    refine lv_istore (lv' := [(5, .int 0), (3, .long 0), (0, .ref (ad 0)), (1, .long 1752135026)]) hx hb dX12_isWord_8 hl (by decide) rfl (fun ls hl => ?_)
    exact L10 ((400 - (0 : Int)).toNat + 1) 0 0 x61 x63 H locs ls w57 (by decide) (by decide) (show 0 ≤ x61.toInt by first | with_reducible assumption | omega) (show x61.toInt ≤ 400 by first | with_reducible assumption | omega) (show 0 ≤ x63.toInt by first | with_reducible assumption | omega) (show x63.toInt ≤ 400 by first | with_reducible assumption | omega) (show (x63.toInt = f0_.toInt ∨ (gi w0 1 (f0_.toInt).toNat).toInt = 32) by first | omega | assumption | (left; omega) | (left; decide) | (right; assumption)) (Nat.lt_succ_self _) hw hT hF c62 c64 hM (lv_sub hl [2, 3, 1, 0] rfl)
  · replace hM := hM.call (r' := (-1)) hv76 (by decide)
    have g71 : (x69.toInt = f0_.toInt ∨ (gi w0 1 (f0_.toInt).toNat).toInt = 32) := by have q := g71; simp only [cf0_, c70] at q; first | with_reducible exact q | omega
    refine lv_pop hx hb dX12_isWord_4 rfl ?_
    refine lv_lconst (v := 0) hx hb dX12_isWord_5 (by decide) ?_
    refine lv_lstore_n (lv' := [(3, .long 0), (0, .ref (ad 0)), (1, .long 1752135026)]) hx hb dX12_isWord_6 rfl hl (by decide) rfl (fun ls hl => ?_)
    refine lv_iconst (v := 0) hx hb dX12_isWord_7 (by decide) ?_
    refine lv_istore (lv' := [(5, .int 0), (3, .long 0), (0, .ref (ad 0)), (1, .long 1752135026)]) hx hb dX12_isWord_8 hl (by decide) rfl (fun ls hl => ?_)
    exact L10 ((400 - (0 : Int)).toNat + 1) 0 0 x67 x69 H locs ls w57 (by decide) (by decide) (show 0 ≤ x67.toInt by first | with_reducible assumption | omega) (show x67.toInt ≤ 400 by first | with_reducible assumption | omega) (show 0 ≤ x69.toInt by first | with_reducible assumption | omega) (show x69.toInt ≤ 400 by first | with_reducible assumption | omega) (show (x69.toInt = f0_.toInt ∨ (gi w0 1 (f0_.toInt).toNat).toInt = 32) by first | omega | assumption | (left; omega) | (left; decide) | (right; assumption)) (Nat.lt_succ_self _) hw hT hF c68 c70 hM (lv_sub hl [2, 3, 1, 0] rfl)
  · replace hM := hM.call (r' := (-1)) hv76 (by decide)
    obtain ⟨x77, c78, rx77, tx77⟩ := hT.rdi (lo := 0) (hi := 400) (k := 14) kM_at0 (by decide) rfl
    have g74 : (x77.toInt = f0_.toInt ∨ (gi w0 1 (f0_.toInt).toNat).toInt = 32) := by have q := g74; simp only [cf0_, c78] at q; first | with_reducible exact q | omega
    refine lv_pop hx hb dX12_isWord_4 rfl ?_
    refine lv_lconst (v := 0) hx hb dX12_isWord_5 (by decide) ?_
    refine lv_lstore_n (lv' := [(3, .long 0), (0, .ref (ad 0)), (1, .long 1752135026)]) hx hb dX12_isWord_6 rfl hl (by decide) rfl (fun ls hl => ?_)
    refine lv_iconst (v := 0) hx hb dX12_isWord_7 (by decide) ?_
    refine lv_istore (lv' := [(5, .int 0), (3, .long 0), (0, .ref (ad 0)), (1, .long 1752135026)]) hx hb dX12_isWord_8 hl (by decide) rfl (fun ls hl => ?_)
    exact L10 ((400 - (0 : Int)).toNat + 1) 0 0 x72 x77 H locs ls w57 (by decide) (by decide) (show 0 ≤ x72.toInt by first | with_reducible assumption | omega) (show x72.toInt ≤ 400 by first | with_reducible assumption | omega) (show 0 ≤ x77.toInt by first | with_reducible assumption | omega) (show x77.toInt ≤ 400 by first | with_reducible assumption | omega) (show (x77.toInt = f0_.toInt ∨ (gi w0 1 (f0_.toInt).toNat).toInt = 32) by first | omega | assumption | (left; omega) | (left; decide) | (right; assumption)) (Nat.lt_succ_self _) hw hT hF c73 c78 hM (lv_sub hl [2, 3, 1, 0] rfl)
abbrev Pz_X12_isWord_12 (ad : Nat → Nat) (cy : Nat → ClassId) (B : Int) (qr : Nat) (s1 : Int)  (w0 : va_W) : Int32 → va_W → Prop := fun r u => TW ksM ad cy B qr 12 u ∧ FE ksM [(12, 14, 14)] w0 u ∧ Ev (fun n => m_X12_isWord n 0 6578553 (sI w0)) (r.toInt, sI u) ∧ ((r = 0 ∧ (∃ y : Int32, gi u 0 1 = y ∧ 0 ≤ y.toInt ∧ y.toInt ≤ 400) ∧ (((gi u 0 14).toInt = (gi w0 0 14).toInt ∨ (gi w0 1 ((gi w0 0 14).toInt).toNat).toInt = 32))) ∨ (r = 1 ∧ (∃ y : Int32, gi u 0 1 = y ∧ 0 ≤ y.toInt ∧ y.toInt ≤ 400) ∧ (((gi u 0 14).toInt = (gi w0 0 14).toInt ∨ (gi w0 1 ((gi w0 0 14).toInt).toNat).toInt = 32))))
set_option maxHeartbeats 4000000 in
set_option maxRecDepth 100000 in
theorem kz_X12_isWord_12 (l : Launch) (adK adV : Nat → Nat) (dC : Nat → ClassId) (dI : Nat → Nat → Nat) (cy : Nat → ClassId) (ad : Nat → Nat) (B : Int) (hB0 : 100000 ≤ B) (hB1 : B ≤ 1073741824) (qr : Nat) (s1 : Int)   (w0 : va_W) (sz : Nat) (hT : TW ksM ad cy B qr 12 w0) (f0_ : Int32) (cf0_ : gi w0 0 14 = f0_) (rf0_ : 0 ≤ f0_.toInt) (tf0_ : f0_.toInt ≤ 400) : Met l yX12_isWord (wu yX12_isWord cX12_isWord 6 (some .boolean)) ({ frames := 2, cells := 0, slots := 0, locals := 33 }) (va_Pc [.ref (ad 0), .long 6578553] (wpreS adK adV dC dI cy sz w0)) (va_Qi (Pz_X12_isWord_12 ad cy B qr s1  w0) (fun u : va_W => wpost dC dI cy (va_A w0 sz) u) (va_A w0 sz)) 0 0 (va_A w0 sz) := by
  refine Met.ofW (cc := cX12_isWord) (maxL := 6) (ret := (some .boolean)) (by decide) rfl ?_
  intro p e s m args below meth c s₁ Bk hml hv
  obtain ⟨rfl, ⟨hsz, hP, hK, hD0⟩, hE, hSR⟩ := hv
  have hx := Bk.exec
  have hb := Bk.bytes
  have hr := Bk.returns
  have hlocks := Bk.notSynchronized
  have hC : CallFix p m c cX12_isWord 6 s _ (wu yX12_isWord cX12_isWord 6 (some .boolean)) RX12 := ⟨hx, hb, hml, findClass_of_methodNamed Bk.named, atoms_spec (ws := (wu yX12_isWord cX12_isWord 6 (some .boolean))) Bk.pre⟩
  subst hsz
  have hD := hD0.self (sz := s.heap.size)
  generalize hAe : va_A w0 s.heap.size = A at hD hE ⊢
  have hA : ∀ q : Nat, s.heap.size ≤ q → A q := fun q h => by rw [← hAe]; exact Or.inr h
  have hw : Wd dC dI A s.heap s.heap [] w0 := ⟨hP, hD, va_S.rf⟩
  have hF : FE ksM [(12, 14, 14)] w0 w0 := FE.rf
  have hl := lv_entry ([.ref (ad 0), .long 6578553]) (n := 6) (Nat.le_of_ble_eq_true rfl)
  rw [lg_entry_eq]
  generalize (lg_sl ([.ref (ad 0), .long 6578553]) ++ List.replicate (6 - (lg_sl ([.ref (ad 0), .long 6578553])).length) Slot.unset).toArray = ls at hl ⊢
  have hl : lv_has ls 6 [(0, .ref (ad 0)), (1, .long 6578553)] := hl
  generalize hloc : ([] : List Loc) = locs at hw ⊢
  have hinX12 : ∀ w ∈ u_ws RX12 TX12 42, w ∈ (wu yX12_isWord cX12_isWord 6 (some .boolean)) := fun _ h => List.mem_cons_of_mem _ (up_71 h)
  have J78 : ∀ (v78_3 : Int64) (v78_5 : Int32) (f78_0_1 : Int32) (f78_0_14 : Int32) (H : Heap) (locs : List Loc) (ls : Array Slot) (w1 : va_W), 0 ≤ v78_5.toInt → v78_5.toInt ≤ 400 → 0 ≤ f78_0_1.toInt → f78_0_1.toInt ≤ 400 → 0 ≤ f78_0_14.toInt → f78_0_14.toInt ≤ 400 → ((f78_0_14.toInt = f0_.toInt ∨ (gi w0 1 (f0_.toInt).toNat).toInt = 32)) → Wd dC dI A s.heap H locs w1 → TW ksM ad cy B qr 12 w1 → FE ksM [(12, 14, 14)] w0 w1 → gi w1 0 1 = f78_0_1 → gi w1 0 14 = f78_0_14 → TT (fun n => m_X12_isWord n 0 6578553 (sI w0)) (fun n => b_X12_isWord_78 (j_X12_isWord 0 n) n 0 (sI w1)) → lv_has ls 6 [(0, .ref (ad 0)), (1, .long 6578553), (3, .long v78_3), (5, .int v78_5)] → W p l e ({ frames := 2, cells := 0, slots := 0, locals := 33 }) s m (List.toArray [.ref (ad 0), .long 6578553]) below meth c H locs 0 0 (MQ below (va_Qi (Pz_X12_isWord_12 ad cy B qr s1  w0) (fun u : va_W => wpost dC dI cy A u) A) (List.toArray [.ref (ad 0), .long 6578553]) s 0 0 A) (F0 m 78 ls []) := by
    intro v78_3 v78_5 f78_0_1 f78_0_14 H locs ls w1 r2 t3 r4 t5 r7 t8 hcr78_0 hw hT hF c6 c9 hM hl
    refine lv_iconst (v := 0) hx hb dX12_isWord_78 (by decide) ?_
    exact tk_zret hC hr rfl hlocks hK ⟨hT, hF, hM.ret (by decide), (Or.inl ⟨rfl, ⟨f78_0_1, c6, (show 0 ≤ f78_0_1.toInt from r4), (show f78_0_1.toInt ≤ 400 from t5)⟩, (by simp only [cf0_, c9]; omega)⟩)⟩ hw dX12_isWord_79
  have L10 : ∀ (n10 : Nat) (v10_3 : Int64) (v10_5 : Int32) (f10_0_1 : Int32) (f10_0_14 : Int32) (H : Heap) (locs : List Loc) (ls : Array Slot) (w10 : va_W), 0 ≤ v10_5.toInt → v10_5.toInt ≤ 400 → 0 ≤ f10_0_1.toInt → f10_0_1.toInt ≤ 400 → 0 ≤ f10_0_14.toInt → f10_0_14.toInt ≤ 400 → ((f10_0_14.toInt = f0_.toInt ∨ (gi w0 1 (f0_.toInt).toNat).toInt = 32)) → (400 - v10_5.toInt).toNat < n10 → Wd dC dI A s.heap H locs w10 → TW ksM ad cy B qr 12 w10 → FE ksM [(12, 14, 14)] w0 w10 → gi w10 0 1 = f10_0_1 → gi w10 0 14 = f10_0_14 → TT (fun n => m_X12_isWord n 0 6578553 (sI w0)) (fun n => j_X12_isWord 0 n 10 [(6578553 : Int), v10_3.toInt, v10_5.toInt] (sI w10)) → lv_has ls 6 [(0, .ref (ad 0)), (1, .long 6578553), (3, .long v10_3), (5, .int v10_5)] → W p l e ({ frames := 2, cells := 0, slots := 0, locals := 33 }) s m (List.toArray [.ref (ad 0), .long 6578553]) below meth c H locs 0 0 (MQ below (va_Qi (Pz_X12_isWord_12 ad cy B qr s1  w0) (fun u : va_W => wpost dC dI cy A u) A) (List.toArray [.ref (ad 0), .long 6578553]) s 0 0 A) (F0 m 10 ls []) := by
    intro n10
    induction n10 with
    | zero => intro v10_3 v10_5 f10_0_1 f10_0_14 H locs ls w10 r11 t12 r13 t14 r16 t17 hcr10_0 hm10 hw hT hF c15 c18 hM hl; omega
    | succ n10 ih10 =>
      intro v10_3 v10_5 f10_0_1 f10_0_14 H locs ls w10 r11 t12 r13 t14 r16 t17 hcr10_0 hm10 hw hT hF c15 c18 hM hl
      have J50 : ∀ (v50_3 : Int64) (H : Heap) (locs : List Loc) (ls : Array Slot) (w19 : va_W), 0 ≤ v10_5.toInt → v10_5.toInt ≤ 399 → 1 ≤ f10_0_1.toInt → f10_0_1.toInt ≤ 400 → 0 ≤ f10_0_14.toInt → f10_0_14.toInt ≤ 399 → ((f10_0_14.toInt = f0_.toInt ∨ (gi w0 1 (f0_.toInt).toNat).toInt = 32)) → Wd dC dI A s.heap H locs w19 → TW ksM ad cy B qr 12 w19 → FE ksM [(12, 14, 14)] w0 w19 → gi w19 0 1 = f10_0_1 → gi w19 0 14 = f10_0_14 → TT (fun n => m_X12_isWord n 0 6578553 (sI w0)) (fun n => b_X12_isWord_50 (j_X12_isWord 0 n) n 0 (6578553 : Int) (v50_3.toInt) (v10_5.toInt) (sI w19)) → lv_has ls 6 [(0, .ref (ad 0)), (1, .long 6578553), (3, .long v50_3), (5, .int v10_5)] → W p l e ({ frames := 2, cells := 0, slots := 0, locals := 33 }) s m (List.toArray [.ref (ad 0), .long 6578553]) below meth c H locs 0 0 (MQ below (va_Qi (Pz_X12_isWord_12 ad cy B qr s1  w0) (fun u : va_W => wpost dC dI cy A u) A) (List.toArray [.ref (ad 0), .long 6578553]) s 0 0 A) (F0 m 50 ls []) := by
        intro v50_3 H locs ls w19 r20 t21 r22 t23 r25 t26 hcr50_0 hw hT hF c24 c27 hM hl
        obtain ⟨x28, ex28⟩ : ∃ y : Int32, y = v10_5 + Int32.ofInt 1 := ⟨_, rfl⟩
        have erx28 := ex28
        refine lv_iinc (v := x28) (lv' := [(5, .int x28), (0, .ref (ad 0)), (1, .long 6578553), (3, .long v50_3)]) hx hb dX12_isWord_50 hl (k := 3) rfl ex28.symm (by decide) rfl (fun ls hl => ?_)
        have ex28 : x28.toInt = v10_5.toInt + 1 := by rw [ex28]; exact wk_add (y := 1) (show -2147483648 ≤ v10_5.toInt + 1 by omega) (show v10_5.toInt + 1 ≤ 2147483647 by omega)
        replace hM := hM.lt ex28.symm
        refine lv_goto (tgt := 10) hx hb dX12_isWord_53 (by decide) ?_
        exact ih10 v50_3 x28 f10_0_1 f10_0_14 H locs ls w19 (show 0 ≤ x28.toInt by first | with_reducible assumption | omega) (show x28.toInt ≤ 400 by first | with_reducible assumption | omega) (show 0 ≤ f10_0_1.toInt from r13) (show f10_0_1.toInt ≤ 400 from t23) (show 0 ≤ f10_0_14.toInt from r25) (show f10_0_14.toInt ≤ 400 from t17) (show (f10_0_14.toInt = f0_.toInt ∨ (gi w0 1 (f0_.toInt).toNat).toInt = 32) by first | omega | assumption | (left; omega) | (left; decide) | (right; assumption)) (show (400 - x28.toInt).toNat < n10 by first | exact tn_lt hm10 (by omega) (by omega) | omega) hw hT hF c24 c27 hM (lv_sub hl [1, 2, 3, 0] rfl)
      replace hM := hM.suc (fun _ => e_X12_isWord_10)
      refine lv_aload_n hx hb dX12_isWord_10 rfl (lv_at hl 0 rfl) ?_
      refine lv_aload_n hx hb dX12_isWord_11 rfl (lv_at hl 0 rfl) ?_
      refine tk_geti hC hK hw hT hinX12 kM_at0 (by decide) rfl 14 (by decide) (List.mem_cons_of_mem _ uw_19_18) rfl rfl dX12_isWord_12 (fun x29 c30 rx29 tx29 => ?_)
      refine wk_top f10_0_14 (c30.symm.trans c18) ?_
      replace hM := hM.rd (sI_at c18)
      refine lv_iload hx hb dX12_isWord_15 (lv_at hl 3 rfl) ?_
      refine lv_iadd hx hb dX12_isWord_17 ?_
      refine lv_topi (fun x31 ex31 => ?_)
      have ezx31 := ex31
      have ex31 : x31.toInt = f10_0_14.toInt + v10_5.toInt := by rw [ex31]; exact wk_add (show (-2147483648) ≤ f10_0_14.toInt + v10_5.toInt by omega) (show f10_0_14.toInt + v10_5.toInt ≤ 2147483647 by omega)
      replace hM := hM.lt ex31.symm
      refine tk_Vi hC hK hw hT hA hE hSR kM_at0 (by decide) rfl (kz_X12_isLetter_1 l adK adV dC dI cy ad B hB0 (Int.le_trans hB1 (by decide)) qr s1   x31 (show 0 ≤ x31.toInt by first | with_reducible assumption | omega) (show x31.toInt ≤ 800 by first | with_reducible assumption | omega) w10 H.size hT ) (cwV 1 hC.2.2.2.2 uV_RX12_101 rfl rfl rfl (by decide +kernel) ⟨Nat.le_of_ble_eq_true rfl, Nat.le_of_ble_eq_true rfl⟩) rfl hl.1 rfl (Nat.le_of_ble_eq_true rfl) dX12_isWord_18 (fun r32 w34 H locs hp33 hw => ?_)
      obtain ⟨rfl, hv42, hg41⟩ := hp33
      rcases hg41 with ⟨rfl, ⟨x36, c37, rx36, tx36⟩⟩ | ⟨rfl, g38, ⟨x39, c40, rx39, tx39⟩⟩
      · replace hM := hM.call (r' := 0) hv42 (by decide)
        have ex36 : x36.toInt = f10_0_1.toInt := by rw [← c15.symm.trans c37]
        refine lv_if_eq (tgt := 56) hx hb dX12_isWord_21 (by decide) (fun _ => ?_) (fun c => absurd (by decide) c)
        replace hM := hM.pos (by decide)
        refine lv_iload hx hb dX12_isWord_56 (lv_at hl 3 rfl) ?_
        refine lv_if_le (tgt := 78) hx hb dX12_isWord_58 (by decide) (fun c43 => ?_) (fun c43 => ?_)
        · have c43 : v10_5.toInt ≤ (0 : Int) := wk_le.mp c43
          replace hM := hM.pos c43
          exact J78 v10_3 v10_5 f10_0_1 f10_0_14 H locs ls w10 (show 0 ≤ v10_5.toInt from r11) (show v10_5.toInt ≤ 400 from t12) (show 0 ≤ f10_0_1.toInt from r13) (show f10_0_1.toInt ≤ 400 from t14) (show 0 ≤ f10_0_14.toInt from r16) (show f10_0_14.toInt ≤ 400 from t17) (show (f10_0_14.toInt = f0_.toInt ∨ (gi w0 1 (f0_.toInt).toNat).toInt = 32) by first | omega | assumption | (left; omega) | (left; decide) | (right; assumption))  hw hT hF c15 c18 hM (lv_sub hl [0, 1, 2, 3] rfl)
        · have c43 : (0 : Int) < v10_5.toInt := wk_leF c43
          replace hM := hM.neg (Int.not_le.mpr c43)
          refine lv_iload hx hb dX12_isWord_61 (lv_at hl 3 rfl) ?_
          refine lv_bipush (v := 8) hx hb dX12_isWord_63 (by decide) ?_
          refine lv_icmp_ge (tgt := 78) hx hb dX12_isWord_65 (by decide) (fun c44 => ?_) (fun c44 => ?_)
          · have c44 : (8 : Int) ≤ v10_5.toInt := wk_le.mp c44
            replace hM := hM.pos c44
            exact J78 v10_3 v10_5 f10_0_1 f10_0_14 H locs ls w10 (show 0 ≤ v10_5.toInt from r11) (show v10_5.toInt ≤ 400 from t12) (show 0 ≤ f10_0_1.toInt from r13) (show f10_0_1.toInt ≤ 400 from t14) (show 0 ≤ f10_0_14.toInt from r16) (show f10_0_14.toInt ≤ 400 from t17) (show (f10_0_14.toInt = f0_.toInt ∨ (gi w0 1 (f0_.toInt).toNat).toInt = 32) by first | omega | assumption | (left; omega) | (left; decide) | (right; assumption))  hw hT hF c15 c18 hM (lv_sub hl [0, 1, 2, 3] rfl)
          · have c44 : v10_5.toInt < (8 : Int) := wk_leF c44
            replace hM := hM.neg (Int.not_le.mpr c44)
            refine lv_lload_n hx hb dX12_isWord_68 rfl (lv_at hl 2 rfl) ?_
            refine lv_lload_n hx hb dX12_isWord_69 rfl (lv_at hl 1 rfl) ?_
            refine W.lcmp hx hb dX12_isWord_70 ?_
            refine lv_if_ne (tgt := 78) hx hb dX12_isWord_71 (by decide) (fun c45 => ?_) (fun c45 => ?_)
            · have c45 : ¬ v10_3.toInt = (6578553 : Int) := wk_ceF c45
              replace hM := hM.pos c45
              exact J78 v10_3 v10_5 f10_0_1 f10_0_14 H locs ls w10 (show 0 ≤ v10_5.toInt from r11) (show v10_5.toInt ≤ 400 from t12) (show 0 ≤ f10_0_1.toInt from r13) (show f10_0_1.toInt ≤ 400 from t14) (show 0 ≤ f10_0_14.toInt from r16) (show f10_0_14.toInt ≤ 400 from t17) (show (f10_0_14.toInt = f0_.toInt ∨ (gi w0 1 (f0_.toInt).toNat).toInt = 32) by first | omega | assumption | (left; omega) | (left; decide) | (right; assumption))  hw hT hF c15 c18 hM (lv_sub hl [0, 1, 2, 3] rfl)
            · have c45 : v10_3.toInt = (6578553 : Int) := wk_ceT c45
              replace hM := hM.neg (fun q => q c45)
              refine lv_iconst (v := 1) hx hb dX12_isWord_74 (by decide) ?_
              refine lv_goto (tgt := 79) hx hb dX12_isWord_75 (by decide) ?_
              exact tk_zret hC hr rfl hlocks hK ⟨hT, hF, hM.ret (by decide), (Or.inr ⟨rfl, ⟨f10_0_1, c15, (show 0 ≤ f10_0_1.toInt from r13), (show f10_0_1.toInt ≤ 400 from t14)⟩, (by simp only [cf0_, c18]; omega)⟩)⟩ hw dX12_isWord_79
      · replace hM := hM.call (r' := 1) hv42 (by decide)
        have ex39 : x39.toInt = f10_0_1.toInt := by rw [← c15.symm.trans c40]
        refine lv_if_eq (tgt := 56) hx hb dX12_isWord_21 (by decide) (fun c => absurd c (by decide)) (fun _ => ?_)
        replace hM := hM.neg (by decide)
        refine lv_iload hx hb dX12_isWord_24 (lv_at hl 3 rfl) ?_
        refine lv_bipush (v := 8) hx hb dX12_isWord_26 (by decide) ?_
        refine lv_icmp_ge (tgt := 50) hx hb dX12_isWord_28 (by decide) (fun c46 => ?_) (fun c46 => ?_)
        · have c46 : (8 : Int) ≤ v10_5.toInt := wk_le.mp c46
          replace hM := hM.pos c46
          exact J50 v10_3 H locs ls w10 (show 0 ≤ v10_5.toInt from r11) (show v10_5.toInt ≤ 399 by first | with_reducible assumption | omega) (show 1 ≤ f10_0_1.toInt by first | with_reducible assumption | omega) (show f10_0_1.toInt ≤ 400 from t14) (show 0 ≤ f10_0_14.toInt from r16) (show f10_0_14.toInt ≤ 399 by first | with_reducible assumption | omega) (show (f10_0_14.toInt = f0_.toInt ∨ (gi w0 1 (f0_.toInt).toNat).toInt = 32) by first | omega | assumption | (left; omega) | (left; decide) | (right; assumption))  hw hT hF c15 c18 hM (lv_sub hl [0, 1, 2, 3] rfl)
        · have c46 : v10_5.toInt < (8 : Int) := wk_leF c46
          replace hM := hM.neg (Int.not_le.mpr c46)
          refine lv_lload_n hx hb dX12_isWord_31 rfl (lv_at hl 2 rfl) ?_
          refine lv_bipush (v := 8) hx hb dX12_isWord_32 (by decide) ?_
          refine lv_lshl hx hb dX12_isWord_34 rfl ?_
          refine lv_topl (fun x47 ex47 => ?_)
          replace hM := hM.lt (mShlL_e ex47 rfl (by decide))
          refine lv_aload_n hx hb dX12_isWord_35 rfl (lv_at hl 0 rfl) ?_
          refine tk_getA hC hK hw hT hinX12 kM_at0 (by decide) rfl 0 (by decide) (List.mem_cons_of_mem _ uw_6_14) rfl rfl dX12_isWord_36 ?_
          refine lv_aload_n hx hb dX12_isWord_39 rfl (lv_at hl 0 rfl) ?_
          refine tk_geti hC hK hw hT hinX12 kM_at0 (by decide) rfl 14 (by decide) (List.mem_cons_of_mem _ uw_19_18) rfl rfl dX12_isWord_40 (fun x48 c49 rx48 tx48 => ?_)
          refine wk_top f10_0_14 (c49.symm.trans c18) ?_
          replace hM := hM.rd (sI_at c18)
          refine lv_iload hx hb dX12_isWord_43 (lv_at hl 3 rfl) ?_
          refine lv_iadd hx hb dX12_isWord_45 ?_
          refine lv_topi (fun x50 ex50 => ?_)
          have ezx50 := ex50
          have ex50 : x50.toInt = f10_0_14.toInt + v10_5.toInt := by rw [ex50]; exact wk_add (show (-2147483648) ≤ f10_0_14.toInt + v10_5.toInt by omega) (show f10_0_14.toInt + v10_5.toInt ≤ 2147483647 by omega)
          replace hM := hM.lt ex50.symm
          refine tk_bald hC hK hw hT kM_at1 rfl rfl (show 0 ≤ x50.toInt by first | with_reducible assumption | omega) (show x50.toInt < 400 by first | with_reducible assumption | omega) dX12_isWord_46 (fun x51 c52 rx51 tx51 => ?_)
          have hox51 := c52
          replace hM := hM.rd (sI_at hox51)
          have c52 : gi w10 1 (1 * f10_0_14.toInt + 1 * v10_5.toInt + 0).toNat = x51 := (congrArg (gi w10 1) (congrArg Int.toNat (show 1 * f10_0_14.toInt + 1 * v10_5.toInt + 0 = x50.toInt by first | exact Int.le_antisymm (by omega) (by omega) | omega))).trans c52
          refine lv_i2l hx hb dX12_isWord_47 rfl ?_
          refine lv_topl (fun x53 ex53 => ?_)
          have ex53 : x53.toInt = x51.toInt := by rw [ex53]; exact wk_i2l _
          have bx53 := wk_i32 x51
          replace hM := hM.lt ex53.symm
          refine lv_lor hx hb dX12_isWord_48 ?_
          refine lv_topl (fun x54 ex54 => ?_)
          have ezx54 := ex54
          replace hM := hM.lt (o64_e (f := fun x y => x ||| y) ezx54 rfl rfl)
          refine lv_lstore_n (lv' := [(3, .long x54), (0, .ref (ad 0)), (1, .long 6578553), (5, .int v10_5)]) hx hb dX12_isWord_49 rfl hl (by decide) rfl (fun ls hl => ?_)
          exact J50 x54 H locs ls w10 (show 0 ≤ v10_5.toInt from r11) (show v10_5.toInt ≤ 399 by first | with_reducible assumption | omega) (show 1 ≤ f10_0_1.toInt by first | with_reducible assumption | omega) (show f10_0_1.toInt ≤ 400 from t14) (show 0 ≤ f10_0_14.toInt from r16) (show f10_0_14.toInt ≤ 399 by first | with_reducible assumption | omega) (show (f10_0_14.toInt = f0_.toInt ∨ (gi w0 1 (f0_.toInt).toNat).toInt = 32) by first | omega | assumption | (left; omega) | (left; decide) | (right; assumption) | (right; rw [c52]; omega) | (right; rw [c52]; decide))  hw hT hF c15 c18 hM (lv_sub hl [1, 2, 0, 3] rfl)
  have hM : TT (fun n => m_X12_isWord n 0 6578553 (sI w0)) (fun n => m_X12_isWord n 0 6578553 (sI w0)) := TT.rf
  refine lv_aload_n hx hb dX12_isWord_0 rfl (lv_at hl 0 rfl) ?_
  refine tk_Vi hC hK hw hT hA hE hSR kM_at0 (by decide) rfl (kz_X12_see_1 l adK adV dC dI cy ad B hB0 (Int.le_trans hB1 (by decide)) qr s1    w0 s.heap.size hT f0_ cf0_ (show 0 ≤ f0_.toInt from rf0_) (show f0_.toInt ≤ 400 from tf0_)) (cwV 0 hC.2.2.2.2 uV_RX12_97 rfl rfl rfl (by decide +kernel) ⟨Nat.le_of_ble_eq_true rfl, Nat.le_of_ble_eq_true rfl⟩) rfl hl.1 rfl (Nat.le_of_ble_eq_true rfl) dX12_isWord_1 (fun r55 w57 H locs hp56 hw => ?_)
  obtain ⟨hT, k58, hv76, hg75⟩ := hp56
  have hF := hF.tr k58 (by decide)
  rcases hg75 with ⟨g59, g60, ⟨x61, c62, rx61, tx61⟩, ⟨x63, c64, rx63, tx63⟩, g65, g66⟩ | ⟨rfl, ⟨x67, c68, rx67, tx67⟩, ⟨x69, c70, rx69, tx69⟩, g71⟩ | ⟨rfl, ⟨x72, c73, rx72, tx72⟩, g74⟩
  · replace hM := hM.call hv76 rfl
    have g65 : (gi w57 1 (x63.toInt).toNat).toInt ≠ 32 := by have q := g65; simp only [c64] at q; first | with_reducible exact q | omega
    have g66 : (x63.toInt = f0_.toInt ∨ (gi w0 1 (f0_.toInt).toNat).toInt = 32) := by have q := g66; simp only [cf0_, c64] at q; first | with_reducible exact q | omega
    refine lv_pop hx hb dX12_isWord_4 rfl ?_
    refine lv_lconst (v := 0) hx hb dX12_isWord_5 (by decide) ?_
    refine lv_lstore_n (lv' := [(3, .long 0), (0, .ref (ad 0)), (1, .long 6578553)]) hx hb dX12_isWord_6 rfl hl (by decide) rfl (fun ls hl => ?_)
    refine lv_iconst (v := 0) hx hb dX12_isWord_7 (by decide) ?_
    refine lv_istore (lv' := [(5, .int 0), (3, .long 0), (0, .ref (ad 0)), (1, .long 6578553)]) hx hb dX12_isWord_8 hl (by decide) rfl (fun ls hl => ?_)
    exact L10 ((400 - (0 : Int)).toNat + 1) 0 0 x61 x63 H locs ls w57 (by decide) (by decide) (show 0 ≤ x61.toInt by first | with_reducible assumption | omega) (show x61.toInt ≤ 400 by first | with_reducible assumption | omega) (show 0 ≤ x63.toInt by first | with_reducible assumption | omega) (show x63.toInt ≤ 400 by first | with_reducible assumption | omega) (show (x63.toInt = f0_.toInt ∨ (gi w0 1 (f0_.toInt).toNat).toInt = 32) by first | omega | assumption | (left; omega) | (left; decide) | (right; assumption)) (Nat.lt_succ_self _) hw hT hF c62 c64 hM (lv_sub hl [2, 3, 1, 0] rfl)
  · replace hM := hM.call (r' := (-1)) hv76 (by decide)
    have g71 : (x69.toInt = f0_.toInt ∨ (gi w0 1 (f0_.toInt).toNat).toInt = 32) := by have q := g71; simp only [cf0_, c70] at q; first | with_reducible exact q | omega
    refine lv_pop hx hb dX12_isWord_4 rfl ?_
    refine lv_lconst (v := 0) hx hb dX12_isWord_5 (by decide) ?_
    refine lv_lstore_n (lv' := [(3, .long 0), (0, .ref (ad 0)), (1, .long 6578553)]) hx hb dX12_isWord_6 rfl hl (by decide) rfl (fun ls hl => ?_)
    refine lv_iconst (v := 0) hx hb dX12_isWord_7 (by decide) ?_
    refine lv_istore (lv' := [(5, .int 0), (3, .long 0), (0, .ref (ad 0)), (1, .long 6578553)]) hx hb dX12_isWord_8 hl (by decide) rfl (fun ls hl => ?_)
    exact L10 ((400 - (0 : Int)).toNat + 1) 0 0 x67 x69 H locs ls w57 (by decide) (by decide) (show 0 ≤ x67.toInt by first | with_reducible assumption | omega) (show x67.toInt ≤ 400 by first | with_reducible assumption | omega) (show 0 ≤ x69.toInt by first | with_reducible assumption | omega) (show x69.toInt ≤ 400 by first | with_reducible assumption | omega) (show (x69.toInt = f0_.toInt ∨ (gi w0 1 (f0_.toInt).toNat).toInt = 32) by first | omega | assumption | (left; omega) | (left; decide) | (right; assumption)) (Nat.lt_succ_self _) hw hT hF c68 c70 hM (lv_sub hl [2, 3, 1, 0] rfl)
  · replace hM := hM.call (r' := (-1)) hv76 (by decide)
    obtain ⟨x77, c78, rx77, tx77⟩ := hT.rdi (lo := 0) (hi := 400) (k := 14) kM_at0 (by decide) rfl
    have g74 : (x77.toInt = f0_.toInt ∨ (gi w0 1 (f0_.toInt).toNat).toInt = 32) := by have q := g74; simp only [cf0_, c78] at q; first | with_reducible exact q | omega
    refine lv_pop hx hb dX12_isWord_4 rfl ?_
    refine lv_lconst (v := 0) hx hb dX12_isWord_5 (by decide) ?_
    refine lv_lstore_n (lv' := [(3, .long 0), (0, .ref (ad 0)), (1, .long 6578553)]) hx hb dX12_isWord_6 rfl hl (by decide) rfl (fun ls hl => ?_)
    refine lv_iconst (v := 0) hx hb dX12_isWord_7 (by decide) ?_
    refine lv_istore (lv' := [(5, .int 0), (3, .long 0), (0, .ref (ad 0)), (1, .long 6578553)]) hx hb dX12_isWord_8 hl (by decide) rfl (fun ls hl => ?_)
    exact L10 ((400 - (0 : Int)).toNat + 1) 0 0 x72 x77 H locs ls w57 (by decide) (by decide) (show 0 ≤ x72.toInt by first | with_reducible assumption | omega) (show x72.toInt ≤ 400 by first | with_reducible assumption | omega) (show 0 ≤ x77.toInt by first | with_reducible assumption | omega) (show x77.toInt ≤ 400 by first | with_reducible assumption | omega) (show (x77.toInt = f0_.toInt ∨ (gi w0 1 (f0_.toInt).toNat).toInt = 32) by first | omega | assumption | (left; omega) | (left; decide) | (right; assumption)) (Nat.lt_succ_self _) hw hT hF c73 c78 hM (lv_sub hl [2, 3, 1, 0] rfl)
abbrev Pz_X12_isWord_13 (ad : Nat → Nat) (cy : Nat → ClassId) (B : Int) (qr : Nat) (s1 : Int)  (w0 : va_W) : Int32 → va_W → Prop := fun r u => TW ksM ad cy B qr 12 u ∧ FE ksM [(12, 14, 14)] w0 u ∧ Ev (fun n => m_X12_isWord n 0 1684108389 (sI w0)) (r.toInt, sI u) ∧ ((r = 0 ∧ (∃ y : Int32, gi u 0 1 = y ∧ 0 ≤ y.toInt ∧ y.toInt ≤ 400) ∧ (((gi u 0 14).toInt = (gi w0 0 14).toInt ∨ (gi w0 1 ((gi w0 0 14).toInt).toNat).toInt = 32))) ∨ (r = 1 ∧ (∃ y : Int32, gi u 0 1 = y ∧ 0 ≤ y.toInt ∧ y.toInt ≤ 400) ∧ (((gi u 0 14).toInt = (gi w0 0 14).toInt ∨ (gi w0 1 ((gi w0 0 14).toInt).toNat).toInt = 32))))
set_option maxHeartbeats 4000000 in
set_option maxRecDepth 100000 in
theorem kz_X12_isWord_13 (l : Launch) (adK adV : Nat → Nat) (dC : Nat → ClassId) (dI : Nat → Nat → Nat) (cy : Nat → ClassId) (ad : Nat → Nat) (B : Int) (hB0 : 100000 ≤ B) (hB1 : B ≤ 1073741824) (qr : Nat) (s1 : Int)   (w0 : va_W) (sz : Nat) (hT : TW ksM ad cy B qr 12 w0) (f0_ : Int32) (cf0_ : gi w0 0 14 = f0_) (rf0_ : 0 ≤ f0_.toInt) (tf0_ : f0_.toInt ≤ 400) : Met l yX12_isWord (wu yX12_isWord cX12_isWord 6 (some .boolean)) ({ frames := 2, cells := 0, slots := 0, locals := 33 }) (va_Pc [.ref (ad 0), .long 1684108389] (wpreS adK adV dC dI cy sz w0)) (va_Qi (Pz_X12_isWord_13 ad cy B qr s1  w0) (fun u : va_W => wpost dC dI cy (va_A w0 sz) u) (va_A w0 sz)) 0 0 (va_A w0 sz) := by
  refine Met.ofW (cc := cX12_isWord) (maxL := 6) (ret := (some .boolean)) (by decide) rfl ?_
  intro p e s m args below meth c s₁ Bk hml hv
  obtain ⟨rfl, ⟨hsz, hP, hK, hD0⟩, hE, hSR⟩ := hv
  have hx := Bk.exec
  have hb := Bk.bytes
  have hr := Bk.returns
  have hlocks := Bk.notSynchronized
  have hC : CallFix p m c cX12_isWord 6 s _ (wu yX12_isWord cX12_isWord 6 (some .boolean)) RX12 := ⟨hx, hb, hml, findClass_of_methodNamed Bk.named, atoms_spec (ws := (wu yX12_isWord cX12_isWord 6 (some .boolean))) Bk.pre⟩
  subst hsz
  have hD := hD0.self (sz := s.heap.size)
  generalize hAe : va_A w0 s.heap.size = A at hD hE ⊢
  have hA : ∀ q : Nat, s.heap.size ≤ q → A q := fun q h => by rw [← hAe]; exact Or.inr h
  have hw : Wd dC dI A s.heap s.heap [] w0 := ⟨hP, hD, va_S.rf⟩
  have hF : FE ksM [(12, 14, 14)] w0 w0 := FE.rf
  have hl := lv_entry ([.ref (ad 0), .long 1684108389]) (n := 6) (Nat.le_of_ble_eq_true rfl)
  rw [lg_entry_eq]
  generalize (lg_sl ([.ref (ad 0), .long 1684108389]) ++ List.replicate (6 - (lg_sl ([.ref (ad 0), .long 1684108389])).length) Slot.unset).toArray = ls at hl ⊢
  have hl : lv_has ls 6 [(0, .ref (ad 0)), (1, .long 1684108389)] := hl
  generalize hloc : ([] : List Loc) = locs at hw ⊢
  have hinX12 : ∀ w ∈ u_ws RX12 TX12 42, w ∈ (wu yX12_isWord cX12_isWord 6 (some .boolean)) := fun _ h => List.mem_cons_of_mem _ (up_71 h)
  have J78 : ∀ (v78_3 : Int64) (v78_5 : Int32) (f78_0_1 : Int32) (f78_0_14 : Int32) (H : Heap) (locs : List Loc) (ls : Array Slot) (w1 : va_W), 0 ≤ v78_5.toInt → v78_5.toInt ≤ 400 → 0 ≤ f78_0_1.toInt → f78_0_1.toInt ≤ 400 → 0 ≤ f78_0_14.toInt → f78_0_14.toInt ≤ 400 → ((f78_0_14.toInt = f0_.toInt ∨ (gi w0 1 (f0_.toInt).toNat).toInt = 32)) → Wd dC dI A s.heap H locs w1 → TW ksM ad cy B qr 12 w1 → FE ksM [(12, 14, 14)] w0 w1 → gi w1 0 1 = f78_0_1 → gi w1 0 14 = f78_0_14 → TT (fun n => m_X12_isWord n 0 1684108389 (sI w0)) (fun n => b_X12_isWord_78 (j_X12_isWord 0 n) n 0 (sI w1)) → lv_has ls 6 [(0, .ref (ad 0)), (1, .long 1684108389), (3, .long v78_3), (5, .int v78_5)] → W p l e ({ frames := 2, cells := 0, slots := 0, locals := 33 }) s m (List.toArray [.ref (ad 0), .long 1684108389]) below meth c H locs 0 0 (MQ below (va_Qi (Pz_X12_isWord_13 ad cy B qr s1  w0) (fun u : va_W => wpost dC dI cy A u) A) (List.toArray [.ref (ad 0), .long 1684108389]) s 0 0 A) (F0 m 78 ls []) := by
    intro v78_3 v78_5 f78_0_1 f78_0_14 H locs ls w1 r2 t3 r4 t5 r7 t8 hcr78_0 hw hT hF c6 c9 hM hl
    refine lv_iconst (v := 0) hx hb dX12_isWord_78 (by decide) ?_
    exact tk_zret hC hr rfl hlocks hK ⟨hT, hF, hM.ret (by decide), (Or.inl ⟨rfl, ⟨f78_0_1, c6, (show 0 ≤ f78_0_1.toInt from r4), (show f78_0_1.toInt ≤ 400 from t5)⟩, (by simp only [cf0_, c9]; omega)⟩)⟩ hw dX12_isWord_79
  have L10 : ∀ (n10 : Nat) (v10_3 : Int64) (v10_5 : Int32) (f10_0_1 : Int32) (f10_0_14 : Int32) (H : Heap) (locs : List Loc) (ls : Array Slot) (w10 : va_W), 0 ≤ v10_5.toInt → v10_5.toInt ≤ 400 → 0 ≤ f10_0_1.toInt → f10_0_1.toInt ≤ 400 → 0 ≤ f10_0_14.toInt → f10_0_14.toInt ≤ 400 → ((f10_0_14.toInt = f0_.toInt ∨ (gi w0 1 (f0_.toInt).toNat).toInt = 32)) → (400 - v10_5.toInt).toNat < n10 → Wd dC dI A s.heap H locs w10 → TW ksM ad cy B qr 12 w10 → FE ksM [(12, 14, 14)] w0 w10 → gi w10 0 1 = f10_0_1 → gi w10 0 14 = f10_0_14 → TT (fun n => m_X12_isWord n 0 1684108389 (sI w0)) (fun n => j_X12_isWord 0 n 10 [(1684108389 : Int), v10_3.toInt, v10_5.toInt] (sI w10)) → lv_has ls 6 [(0, .ref (ad 0)), (1, .long 1684108389), (3, .long v10_3), (5, .int v10_5)] → W p l e ({ frames := 2, cells := 0, slots := 0, locals := 33 }) s m (List.toArray [.ref (ad 0), .long 1684108389]) below meth c H locs 0 0 (MQ below (va_Qi (Pz_X12_isWord_13 ad cy B qr s1  w0) (fun u : va_W => wpost dC dI cy A u) A) (List.toArray [.ref (ad 0), .long 1684108389]) s 0 0 A) (F0 m 10 ls []) := by
    intro n10
    induction n10 with
    | zero => intro v10_3 v10_5 f10_0_1 f10_0_14 H locs ls w10 r11 t12 r13 t14 r16 t17 hcr10_0 hm10 hw hT hF c15 c18 hM hl; omega
    | succ n10 ih10 =>
      intro v10_3 v10_5 f10_0_1 f10_0_14 H locs ls w10 r11 t12 r13 t14 r16 t17 hcr10_0 hm10 hw hT hF c15 c18 hM hl
      have J50 : ∀ (v50_3 : Int64) (H : Heap) (locs : List Loc) (ls : Array Slot) (w19 : va_W), 0 ≤ v10_5.toInt → v10_5.toInt ≤ 399 → 1 ≤ f10_0_1.toInt → f10_0_1.toInt ≤ 400 → 0 ≤ f10_0_14.toInt → f10_0_14.toInt ≤ 399 → ((f10_0_14.toInt = f0_.toInt ∨ (gi w0 1 (f0_.toInt).toNat).toInt = 32)) → Wd dC dI A s.heap H locs w19 → TW ksM ad cy B qr 12 w19 → FE ksM [(12, 14, 14)] w0 w19 → gi w19 0 1 = f10_0_1 → gi w19 0 14 = f10_0_14 → TT (fun n => m_X12_isWord n 0 1684108389 (sI w0)) (fun n => b_X12_isWord_50 (j_X12_isWord 0 n) n 0 (1684108389 : Int) (v50_3.toInt) (v10_5.toInt) (sI w19)) → lv_has ls 6 [(0, .ref (ad 0)), (1, .long 1684108389), (3, .long v50_3), (5, .int v10_5)] → W p l e ({ frames := 2, cells := 0, slots := 0, locals := 33 }) s m (List.toArray [.ref (ad 0), .long 1684108389]) below meth c H locs 0 0 (MQ below (va_Qi (Pz_X12_isWord_13 ad cy B qr s1  w0) (fun u : va_W => wpost dC dI cy A u) A) (List.toArray [.ref (ad 0), .long 1684108389]) s 0 0 A) (F0 m 50 ls []) := by
        intro v50_3 H locs ls w19 r20 t21 r22 t23 r25 t26 hcr50_0 hw hT hF c24 c27 hM hl
        obtain ⟨x28, ex28⟩ : ∃ y : Int32, y = v10_5 + Int32.ofInt 1 := ⟨_, rfl⟩
        have erx28 := ex28
        refine lv_iinc (v := x28) (lv' := [(5, .int x28), (0, .ref (ad 0)), (1, .long 1684108389), (3, .long v50_3)]) hx hb dX12_isWord_50 hl (k := 3) rfl ex28.symm (by decide) rfl (fun ls hl => ?_)
        have ex28 : x28.toInt = v10_5.toInt + 1 := by rw [ex28]; exact wk_add (y := 1) (show -2147483648 ≤ v10_5.toInt + 1 by omega) (show v10_5.toInt + 1 ≤ 2147483647 by omega)
        replace hM := hM.lt ex28.symm
        refine lv_goto (tgt := 10) hx hb dX12_isWord_53 (by decide) ?_
        exact ih10 v50_3 x28 f10_0_1 f10_0_14 H locs ls w19 (show 0 ≤ x28.toInt by first | with_reducible assumption | omega) (show x28.toInt ≤ 400 by first | with_reducible assumption | omega) (show 0 ≤ f10_0_1.toInt from r13) (show f10_0_1.toInt ≤ 400 from t23) (show 0 ≤ f10_0_14.toInt from r25) (show f10_0_14.toInt ≤ 400 from t17) (show (f10_0_14.toInt = f0_.toInt ∨ (gi w0 1 (f0_.toInt).toNat).toInt = 32) by first | omega | assumption | (left; omega) | (left; decide) | (right; assumption)) (show (400 - x28.toInt).toNat < n10 by first | exact tn_lt hm10 (by omega) (by omega) | omega) hw hT hF c24 c27 hM (lv_sub hl [1, 2, 3, 0] rfl)
      replace hM := hM.suc (fun _ => e_X12_isWord_10)
      refine lv_aload_n hx hb dX12_isWord_10 rfl (lv_at hl 0 rfl) ?_
      refine lv_aload_n hx hb dX12_isWord_11 rfl (lv_at hl 0 rfl) ?_
      refine tk_geti hC hK hw hT hinX12 kM_at0 (by decide) rfl 14 (by decide) (List.mem_cons_of_mem _ uw_19_18) rfl rfl dX12_isWord_12 (fun x29 c30 rx29 tx29 => ?_)
      refine wk_top f10_0_14 (c30.symm.trans c18) ?_
      replace hM := hM.rd (sI_at c18)
      refine lv_iload hx hb dX12_isWord_15 (lv_at hl 3 rfl) ?_
      refine lv_iadd hx hb dX12_isWord_17 ?_
      refine lv_topi (fun x31 ex31 => ?_)
      have ezx31 := ex31
      have ex31 : x31.toInt = f10_0_14.toInt + v10_5.toInt := by rw [ex31]; exact wk_add (show (-2147483648) ≤ f10_0_14.toInt + v10_5.toInt by omega) (show f10_0_14.toInt + v10_5.toInt ≤ 2147483647 by omega)
      replace hM := hM.lt ex31.symm
      refine tk_Vi hC hK hw hT hA hE hSR kM_at0 (by decide) rfl (kz_X12_isLetter_1 l adK adV dC dI cy ad B hB0 (Int.le_trans hB1 (by decide)) qr s1   x31 (show 0 ≤ x31.toInt by first | with_reducible assumption | omega) (show x31.toInt ≤ 800 by first | with_reducible assumption | omega) w10 H.size hT ) (cwV 1 hC.2.2.2.2 uV_RX12_101 rfl rfl rfl (by decide +kernel) ⟨Nat.le_of_ble_eq_true rfl, Nat.le_of_ble_eq_true rfl⟩) rfl hl.1 rfl (Nat.le_of_ble_eq_true rfl) dX12_isWord_18 (fun r32 w34 H locs hp33 hw => ?_)
      obtain ⟨rfl, hv42, hg41⟩ := hp33
      rcases hg41 with ⟨rfl, ⟨x36, c37, rx36, tx36⟩⟩ | ⟨rfl, g38, ⟨x39, c40, rx39, tx39⟩⟩
      · replace hM := hM.call (r' := 0) hv42 (by decide)
        have ex36 : x36.toInt = f10_0_1.toInt := by rw [← c15.symm.trans c37]
        refine lv_if_eq (tgt := 56) hx hb dX12_isWord_21 (by decide) (fun _ => ?_) (fun c => absurd (by decide) c)
        replace hM := hM.pos (by decide)
        refine lv_iload hx hb dX12_isWord_56 (lv_at hl 3 rfl) ?_
        refine lv_if_le (tgt := 78) hx hb dX12_isWord_58 (by decide) (fun c43 => ?_) (fun c43 => ?_)
        · have c43 : v10_5.toInt ≤ (0 : Int) := wk_le.mp c43
          replace hM := hM.pos c43
          exact J78 v10_3 v10_5 f10_0_1 f10_0_14 H locs ls w10 (show 0 ≤ v10_5.toInt from r11) (show v10_5.toInt ≤ 400 from t12) (show 0 ≤ f10_0_1.toInt from r13) (show f10_0_1.toInt ≤ 400 from t14) (show 0 ≤ f10_0_14.toInt from r16) (show f10_0_14.toInt ≤ 400 from t17) (show (f10_0_14.toInt = f0_.toInt ∨ (gi w0 1 (f0_.toInt).toNat).toInt = 32) by first | omega | assumption | (left; omega) | (left; decide) | (right; assumption))  hw hT hF c15 c18 hM (lv_sub hl [0, 1, 2, 3] rfl)
        · have c43 : (0 : Int) < v10_5.toInt := wk_leF c43
          replace hM := hM.neg (Int.not_le.mpr c43)
          refine lv_iload hx hb dX12_isWord_61 (lv_at hl 3 rfl) ?_
          refine lv_bipush (v := 8) hx hb dX12_isWord_63 (by decide) ?_
          refine lv_icmp_ge (tgt := 78) hx hb dX12_isWord_65 (by decide) (fun c44 => ?_) (fun c44 => ?_)
          · have c44 : (8 : Int) ≤ v10_5.toInt := wk_le.mp c44
            replace hM := hM.pos c44
            exact J78 v10_3 v10_5 f10_0_1 f10_0_14 H locs ls w10 (show 0 ≤ v10_5.toInt from r11) (show v10_5.toInt ≤ 400 from t12) (show 0 ≤ f10_0_1.toInt from r13) (show f10_0_1.toInt ≤ 400 from t14) (show 0 ≤ f10_0_14.toInt from r16) (show f10_0_14.toInt ≤ 400 from t17) (show (f10_0_14.toInt = f0_.toInt ∨ (gi w0 1 (f0_.toInt).toNat).toInt = 32) by first | omega | assumption | (left; omega) | (left; decide) | (right; assumption))  hw hT hF c15 c18 hM (lv_sub hl [0, 1, 2, 3] rfl)
          · have c44 : v10_5.toInt < (8 : Int) := wk_leF c44
            replace hM := hM.neg (Int.not_le.mpr c44)
            refine lv_lload_n hx hb dX12_isWord_68 rfl (lv_at hl 2 rfl) ?_
            refine lv_lload_n hx hb dX12_isWord_69 rfl (lv_at hl 1 rfl) ?_
            refine W.lcmp hx hb dX12_isWord_70 ?_
            refine lv_if_ne (tgt := 78) hx hb dX12_isWord_71 (by decide) (fun c45 => ?_) (fun c45 => ?_)
            · have c45 : ¬ v10_3.toInt = (1684108389 : Int) := wk_ceF c45
              replace hM := hM.pos c45
              exact J78 v10_3 v10_5 f10_0_1 f10_0_14 H locs ls w10 (show 0 ≤ v10_5.toInt from r11) (show v10_5.toInt ≤ 400 from t12) (show 0 ≤ f10_0_1.toInt from r13) (show f10_0_1.toInt ≤ 400 from t14) (show 0 ≤ f10_0_14.toInt from r16) (show f10_0_14.toInt ≤ 400 from t17) (show (f10_0_14.toInt = f0_.toInt ∨ (gi w0 1 (f0_.toInt).toNat).toInt = 32) by first | omega | assumption | (left; omega) | (left; decide) | (right; assumption))  hw hT hF c15 c18 hM (lv_sub hl [0, 1, 2, 3] rfl)
            · have c45 : v10_3.toInt = (1684108389 : Int) := wk_ceT c45
              replace hM := hM.neg (fun q => q c45)
              refine lv_iconst (v := 1) hx hb dX12_isWord_74 (by decide) ?_
              refine lv_goto (tgt := 79) hx hb dX12_isWord_75 (by decide) ?_
              exact tk_zret hC hr rfl hlocks hK ⟨hT, hF, hM.ret (by decide), (Or.inr ⟨rfl, ⟨f10_0_1, c15, (show 0 ≤ f10_0_1.toInt from r13), (show f10_0_1.toInt ≤ 400 from t14)⟩, (by simp only [cf0_, c18]; omega)⟩)⟩ hw dX12_isWord_79
      · replace hM := hM.call (r' := 1) hv42 (by decide)
        have ex39 : x39.toInt = f10_0_1.toInt := by rw [← c15.symm.trans c40]
        refine lv_if_eq (tgt := 56) hx hb dX12_isWord_21 (by decide) (fun c => absurd c (by decide)) (fun _ => ?_)
        replace hM := hM.neg (by decide)
        refine lv_iload hx hb dX12_isWord_24 (lv_at hl 3 rfl) ?_
        refine lv_bipush (v := 8) hx hb dX12_isWord_26 (by decide) ?_
        refine lv_icmp_ge (tgt := 50) hx hb dX12_isWord_28 (by decide) (fun c46 => ?_) (fun c46 => ?_)
        · have c46 : (8 : Int) ≤ v10_5.toInt := wk_le.mp c46
          replace hM := hM.pos c46
          exact J50 v10_3 H locs ls w10 (show 0 ≤ v10_5.toInt from r11) (show v10_5.toInt ≤ 399 by first | with_reducible assumption | omega) (show 1 ≤ f10_0_1.toInt by first | with_reducible assumption | omega) (show f10_0_1.toInt ≤ 400 from t14) (show 0 ≤ f10_0_14.toInt from r16) (show f10_0_14.toInt ≤ 399 by first | with_reducible assumption | omega) (show (f10_0_14.toInt = f0_.toInt ∨ (gi w0 1 (f0_.toInt).toNat).toInt = 32) by first | omega | assumption | (left; omega) | (left; decide) | (right; assumption))  hw hT hF c15 c18 hM (lv_sub hl [0, 1, 2, 3] rfl)
        · have c46 : v10_5.toInt < (8 : Int) := wk_leF c46
          replace hM := hM.neg (Int.not_le.mpr c46)
          refine lv_lload_n hx hb dX12_isWord_31 rfl (lv_at hl 2 rfl) ?_
          refine lv_bipush (v := 8) hx hb dX12_isWord_32 (by decide) ?_
          refine lv_lshl hx hb dX12_isWord_34 rfl ?_
          refine lv_topl (fun x47 ex47 => ?_)
          replace hM := hM.lt (mShlL_e ex47 rfl (by decide))
          refine lv_aload_n hx hb dX12_isWord_35 rfl (lv_at hl 0 rfl) ?_
          refine tk_getA hC hK hw hT hinX12 kM_at0 (by decide) rfl 0 (by decide) (List.mem_cons_of_mem _ uw_6_14) rfl rfl dX12_isWord_36 ?_
          refine lv_aload_n hx hb dX12_isWord_39 rfl (lv_at hl 0 rfl) ?_
          refine tk_geti hC hK hw hT hinX12 kM_at0 (by decide) rfl 14 (by decide) (List.mem_cons_of_mem _ uw_19_18) rfl rfl dX12_isWord_40 (fun x48 c49 rx48 tx48 => ?_)
          refine wk_top f10_0_14 (c49.symm.trans c18) ?_
          replace hM := hM.rd (sI_at c18)
          refine lv_iload hx hb dX12_isWord_43 (lv_at hl 3 rfl) ?_
          refine lv_iadd hx hb dX12_isWord_45 ?_
          refine lv_topi (fun x50 ex50 => ?_)
          have ezx50 := ex50
          have ex50 : x50.toInt = f10_0_14.toInt + v10_5.toInt := by rw [ex50]; exact wk_add (show (-2147483648) ≤ f10_0_14.toInt + v10_5.toInt by omega) (show f10_0_14.toInt + v10_5.toInt ≤ 2147483647 by omega)
          replace hM := hM.lt ex50.symm
          refine tk_bald hC hK hw hT kM_at1 rfl rfl (show 0 ≤ x50.toInt by first | with_reducible assumption | omega) (show x50.toInt < 400 by first | with_reducible assumption | omega) dX12_isWord_46 (fun x51 c52 rx51 tx51 => ?_)
          have hox51 := c52
          replace hM := hM.rd (sI_at hox51)
          have c52 : gi w10 1 (1 * f10_0_14.toInt + 1 * v10_5.toInt + 0).toNat = x51 := (congrArg (gi w10 1) (congrArg Int.toNat (show 1 * f10_0_14.toInt + 1 * v10_5.toInt + 0 = x50.toInt by first | exact Int.le_antisymm (by omega) (by omega) | omega))).trans c52
          refine lv_i2l hx hb dX12_isWord_47 rfl ?_
          refine lv_topl (fun x53 ex53 => ?_)
          have ex53 : x53.toInt = x51.toInt := by rw [ex53]; exact wk_i2l _
          have bx53 := wk_i32 x51
          replace hM := hM.lt ex53.symm
          refine lv_lor hx hb dX12_isWord_48 ?_
          refine lv_topl (fun x54 ex54 => ?_)
          have ezx54 := ex54
          replace hM := hM.lt (o64_e (f := fun x y => x ||| y) ezx54 rfl rfl)
          refine lv_lstore_n (lv' := [(3, .long x54), (0, .ref (ad 0)), (1, .long 1684108389), (5, .int v10_5)]) hx hb dX12_isWord_49 rfl hl (by decide) rfl (fun ls hl => ?_)
          exact J50 x54 H locs ls w10 (show 0 ≤ v10_5.toInt from r11) (show v10_5.toInt ≤ 399 by first | with_reducible assumption | omega) (show 1 ≤ f10_0_1.toInt by first | with_reducible assumption | omega) (show f10_0_1.toInt ≤ 400 from t14) (show 0 ≤ f10_0_14.toInt from r16) (show f10_0_14.toInt ≤ 399 by first | with_reducible assumption | omega) (show (f10_0_14.toInt = f0_.toInt ∨ (gi w0 1 (f0_.toInt).toNat).toInt = 32) by first | omega | assumption | (left; omega) | (left; decide) | (right; assumption) | (right; rw [c52]; omega) | (right; rw [c52]; decide))  hw hT hF c15 c18 hM (lv_sub hl [1, 2, 0, 3] rfl)
  have hM : TT (fun n => m_X12_isWord n 0 1684108389 (sI w0)) (fun n => m_X12_isWord n 0 1684108389 (sI w0)) := TT.rf
  refine lv_aload_n hx hb dX12_isWord_0 rfl (lv_at hl 0 rfl) ?_
  refine tk_Vi hC hK hw hT hA hE hSR kM_at0 (by decide) rfl (kz_X12_see_1 l adK adV dC dI cy ad B hB0 (Int.le_trans hB1 (by decide)) qr s1    w0 s.heap.size hT f0_ cf0_ (show 0 ≤ f0_.toInt from rf0_) (show f0_.toInt ≤ 400 from tf0_)) (cwV 0 hC.2.2.2.2 uV_RX12_97 rfl rfl rfl (by decide +kernel) ⟨Nat.le_of_ble_eq_true rfl, Nat.le_of_ble_eq_true rfl⟩) rfl hl.1 rfl (Nat.le_of_ble_eq_true rfl) dX12_isWord_1 (fun r55 w57 H locs hp56 hw => ?_)
  obtain ⟨hT, k58, hv76, hg75⟩ := hp56
  have hF := hF.tr k58 (by decide)
  rcases hg75 with ⟨g59, g60, ⟨x61, c62, rx61, tx61⟩, ⟨x63, c64, rx63, tx63⟩, g65, g66⟩ | ⟨rfl, ⟨x67, c68, rx67, tx67⟩, ⟨x69, c70, rx69, tx69⟩, g71⟩ | ⟨rfl, ⟨x72, c73, rx72, tx72⟩, g74⟩
  · replace hM := hM.call hv76 rfl
    have g65 : (gi w57 1 (x63.toInt).toNat).toInt ≠ 32 := by have q := g65; simp only [c64] at q; first | with_reducible exact q | omega
    have g66 : (x63.toInt = f0_.toInt ∨ (gi w0 1 (f0_.toInt).toNat).toInt = 32) := by have q := g66; simp only [cf0_, c64] at q; first | with_reducible exact q | omega
    refine lv_pop hx hb dX12_isWord_4 rfl ?_
    refine lv_lconst (v := 0) hx hb dX12_isWord_5 (by decide) ?_
    refine lv_lstore_n (lv' := [(3, .long 0), (0, .ref (ad 0)), (1, .long 1684108389)]) hx hb dX12_isWord_6 rfl hl (by decide) rfl (fun ls hl => ?_)
    refine lv_iconst (v := 0) hx hb dX12_isWord_7 (by decide) ?_
    refine lv_istore (lv' := [(5, .int 0), (3, .long 0), (0, .ref (ad 0)), (1, .long 1684108389)]) hx hb dX12_isWord_8 hl (by decide) rfl (fun ls hl => ?_)
    exact L10 ((400 - (0 : Int)).toNat + 1) 0 0 x61 x63 H locs ls w57 (by decide) (by decide) (show 0 ≤ x61.toInt by first | with_reducible assumption | omega) (show x61.toInt ≤ 400 by first | with_reducible assumption | omega) (show 0 ≤ x63.toInt by first | with_reducible assumption | omega) (show x63.toInt ≤ 400 by first | with_reducible assumption | omega) (show (x63.toInt = f0_.toInt ∨ (gi w0 1 (f0_.toInt).toNat).toInt = 32) by first | omega | assumption | (left; omega) | (left; decide) | (right; assumption)) (Nat.lt_succ_self _) hw hT hF c62 c64 hM (lv_sub hl [2, 3, 1, 0] rfl)
  · replace hM := hM.call (r' := (-1)) hv76 (by decide)
    have g71 : (x69.toInt = f0_.toInt ∨ (gi w0 1 (f0_.toInt).toNat).toInt = 32) := by have q := g71; simp only [cf0_, c70] at q; first | with_reducible exact q | omega
    refine lv_pop hx hb dX12_isWord_4 rfl ?_
    refine lv_lconst (v := 0) hx hb dX12_isWord_5 (by decide) ?_
    refine lv_lstore_n (lv' := [(3, .long 0), (0, .ref (ad 0)), (1, .long 1684108389)]) hx hb dX12_isWord_6 rfl hl (by decide) rfl (fun ls hl => ?_)
    refine lv_iconst (v := 0) hx hb dX12_isWord_7 (by decide) ?_
    refine lv_istore (lv' := [(5, .int 0), (3, .long 0), (0, .ref (ad 0)), (1, .long 1684108389)]) hx hb dX12_isWord_8 hl (by decide) rfl (fun ls hl => ?_)
    exact L10 ((400 - (0 : Int)).toNat + 1) 0 0 x67 x69 H locs ls w57 (by decide) (by decide) (show 0 ≤ x67.toInt by first | with_reducible assumption | omega) (show x67.toInt ≤ 400 by first | with_reducible assumption | omega) (show 0 ≤ x69.toInt by first | with_reducible assumption | omega) (show x69.toInt ≤ 400 by first | with_reducible assumption | omega) (show (x69.toInt = f0_.toInt ∨ (gi w0 1 (f0_.toInt).toNat).toInt = 32) by first | omega | assumption | (left; omega) | (left; decide) | (right; assumption)) (Nat.lt_succ_self _) hw hT hF c68 c70 hM (lv_sub hl [2, 3, 1, 0] rfl)
  · replace hM := hM.call (r' := (-1)) hv76 (by decide)
    obtain ⟨x77, c78, rx77, tx77⟩ := hT.rdi (lo := 0) (hi := 400) (k := 14) kM_at0 (by decide) rfl
    have g74 : (x77.toInt = f0_.toInt ∨ (gi w0 1 (f0_.toInt).toNat).toInt = 32) := by have q := g74; simp only [cf0_, c78] at q; first | with_reducible exact q | omega
    refine lv_pop hx hb dX12_isWord_4 rfl ?_
    refine lv_lconst (v := 0) hx hb dX12_isWord_5 (by decide) ?_
    refine lv_lstore_n (lv' := [(3, .long 0), (0, .ref (ad 0)), (1, .long 1684108389)]) hx hb dX12_isWord_6 rfl hl (by decide) rfl (fun ls hl => ?_)
    refine lv_iconst (v := 0) hx hb dX12_isWord_7 (by decide) ?_
    refine lv_istore (lv' := [(5, .int 0), (3, .long 0), (0, .ref (ad 0)), (1, .long 1684108389)]) hx hb dX12_isWord_8 hl (by decide) rfl (fun ls hl => ?_)
    exact L10 ((400 - (0 : Int)).toNat + 1) 0 0 x72 x77 H locs ls w57 (by decide) (by decide) (show 0 ≤ x72.toInt by first | with_reducible assumption | omega) (show x72.toInt ≤ 400 by first | with_reducible assumption | omega) (show 0 ≤ x77.toInt by first | with_reducible assumption | omega) (show x77.toInt ≤ 400 by first | with_reducible assumption | omega) (show (x77.toInt = f0_.toInt ∨ (gi w0 1 (f0_.toInt).toNat).toInt = 32) by first | omega | assumption | (left; omega) | (left; decide) | (right; assumption)) (Nat.lt_succ_self _) hw hT hF c73 c78 hM (lv_sub hl [2, 3, 1, 0] rfl)
abbrev Pz_X12_isWord_14 (ad : Nat → Nat) (cy : Nat → ClassId) (B : Int) (qr : Nat) (s1 : Int)  (w0 : va_W) : Int32 → va_W → Prop := fun r u => TW ksM ad cy B qr 12 u ∧ FE ksM [(12, 14, 14)] w0 u ∧ Ev (fun n => m_X12_isWord n 0 109330312357234 (sI w0)) (r.toInt, sI u) ∧ ((r = 0 ∧ (∃ y : Int32, gi u 0 1 = y ∧ 0 ≤ y.toInt ∧ y.toInt ≤ 400) ∧ (((gi u 0 14).toInt = (gi w0 0 14).toInt ∨ (gi w0 1 ((gi w0 0 14).toInt).toNat).toInt = 32))) ∨ (r = 1 ∧ (∃ y : Int32, gi u 0 1 = y ∧ 0 ≤ y.toInt ∧ y.toInt ≤ 400) ∧ (((gi u 0 14).toInt = (gi w0 0 14).toInt ∨ (gi w0 1 ((gi w0 0 14).toInt).toNat).toInt = 32))))
set_option maxHeartbeats 4000000 in
set_option maxRecDepth 100000 in
theorem kz_X12_isWord_14 (l : Launch) (adK adV : Nat → Nat) (dC : Nat → ClassId) (dI : Nat → Nat → Nat) (cy : Nat → ClassId) (ad : Nat → Nat) (B : Int) (hB0 : 100000 ≤ B) (hB1 : B ≤ 1073741824) (qr : Nat) (s1 : Int)   (w0 : va_W) (sz : Nat) (hT : TW ksM ad cy B qr 12 w0) (f0_ : Int32) (cf0_ : gi w0 0 14 = f0_) (rf0_ : 0 ≤ f0_.toInt) (tf0_ : f0_.toInt ≤ 400) : Met l yX12_isWord (wu yX12_isWord cX12_isWord 6 (some .boolean)) ({ frames := 2, cells := 0, slots := 0, locals := 33 }) (va_Pc [.ref (ad 0), .long 109330312357234] (wpreS adK adV dC dI cy sz w0)) (va_Qi (Pz_X12_isWord_14 ad cy B qr s1  w0) (fun u : va_W => wpost dC dI cy (va_A w0 sz) u) (va_A w0 sz)) 0 0 (va_A w0 sz) := by
  refine Met.ofW (cc := cX12_isWord) (maxL := 6) (ret := (some .boolean)) (by decide) rfl ?_
  intro p e s m args below meth c s₁ Bk hml hv
  obtain ⟨rfl, ⟨hsz, hP, hK, hD0⟩, hE, hSR⟩ := hv
  have hx := Bk.exec
  have hb := Bk.bytes
  have hr := Bk.returns
  have hlocks := Bk.notSynchronized
  have hC : CallFix p m c cX12_isWord 6 s _ (wu yX12_isWord cX12_isWord 6 (some .boolean)) RX12 := ⟨hx, hb, hml, findClass_of_methodNamed Bk.named, atoms_spec (ws := (wu yX12_isWord cX12_isWord 6 (some .boolean))) Bk.pre⟩
  subst hsz
  have hD := hD0.self (sz := s.heap.size)
  generalize hAe : va_A w0 s.heap.size = A at hD hE ⊢
  have hA : ∀ q : Nat, s.heap.size ≤ q → A q := fun q h => by rw [← hAe]; exact Or.inr h
  have hw : Wd dC dI A s.heap s.heap [] w0 := ⟨hP, hD, va_S.rf⟩
  have hF : FE ksM [(12, 14, 14)] w0 w0 := FE.rf
  have hl := lv_entry ([.ref (ad 0), .long 109330312357234]) (n := 6) (Nat.le_of_ble_eq_true rfl)
  rw [lg_entry_eq]
  generalize (lg_sl ([.ref (ad 0), .long 109330312357234]) ++ List.replicate (6 - (lg_sl ([.ref (ad 0), .long 109330312357234])).length) Slot.unset).toArray = ls at hl ⊢
  have hl : lv_has ls 6 [(0, .ref (ad 0)), (1, .long 109330312357234)] := hl
  generalize hloc : ([] : List Loc) = locs at hw ⊢
  have hinX12 : ∀ w ∈ u_ws RX12 TX12 42, w ∈ (wu yX12_isWord cX12_isWord 6 (some .boolean)) := fun _ h => List.mem_cons_of_mem _ (up_71 h)
  have J78 : ∀ (v78_3 : Int64) (v78_5 : Int32) (f78_0_1 : Int32) (f78_0_14 : Int32) (H : Heap) (locs : List Loc) (ls : Array Slot) (w1 : va_W), 0 ≤ v78_5.toInt → v78_5.toInt ≤ 400 → 0 ≤ f78_0_1.toInt → f78_0_1.toInt ≤ 400 → 0 ≤ f78_0_14.toInt → f78_0_14.toInt ≤ 400 → ((f78_0_14.toInt = f0_.toInt ∨ (gi w0 1 (f0_.toInt).toNat).toInt = 32)) → Wd dC dI A s.heap H locs w1 → TW ksM ad cy B qr 12 w1 → FE ksM [(12, 14, 14)] w0 w1 → gi w1 0 1 = f78_0_1 → gi w1 0 14 = f78_0_14 → TT (fun n => m_X12_isWord n 0 109330312357234 (sI w0)) (fun n => b_X12_isWord_78 (j_X12_isWord 0 n) n 0 (sI w1)) → lv_has ls 6 [(0, .ref (ad 0)), (1, .long 109330312357234), (3, .long v78_3), (5, .int v78_5)] → W p l e ({ frames := 2, cells := 0, slots := 0, locals := 33 }) s m (List.toArray [.ref (ad 0), .long 109330312357234]) below meth c H locs 0 0 (MQ below (va_Qi (Pz_X12_isWord_14 ad cy B qr s1  w0) (fun u : va_W => wpost dC dI cy A u) A) (List.toArray [.ref (ad 0), .long 109330312357234]) s 0 0 A) (F0 m 78 ls []) := by
    intro v78_3 v78_5 f78_0_1 f78_0_14 H locs ls w1 r2 t3 r4 t5 r7 t8 hcr78_0 hw hT hF c6 c9 hM hl
    refine lv_iconst (v := 0) hx hb dX12_isWord_78 (by decide) ?_
    exact tk_zret hC hr rfl hlocks hK ⟨hT, hF, hM.ret (by decide), (Or.inl ⟨rfl, ⟨f78_0_1, c6, (show 0 ≤ f78_0_1.toInt from r4), (show f78_0_1.toInt ≤ 400 from t5)⟩, (by simp only [cf0_, c9]; omega)⟩)⟩ hw dX12_isWord_79
  have L10 : ∀ (n10 : Nat) (v10_3 : Int64) (v10_5 : Int32) (f10_0_1 : Int32) (f10_0_14 : Int32) (H : Heap) (locs : List Loc) (ls : Array Slot) (w10 : va_W), 0 ≤ v10_5.toInt → v10_5.toInt ≤ 400 → 0 ≤ f10_0_1.toInt → f10_0_1.toInt ≤ 400 → 0 ≤ f10_0_14.toInt → f10_0_14.toInt ≤ 400 → ((f10_0_14.toInt = f0_.toInt ∨ (gi w0 1 (f0_.toInt).toNat).toInt = 32)) → (400 - v10_5.toInt).toNat < n10 → Wd dC dI A s.heap H locs w10 → TW ksM ad cy B qr 12 w10 → FE ksM [(12, 14, 14)] w0 w10 → gi w10 0 1 = f10_0_1 → gi w10 0 14 = f10_0_14 → TT (fun n => m_X12_isWord n 0 109330312357234 (sI w0)) (fun n => j_X12_isWord 0 n 10 [(109330312357234 : Int), v10_3.toInt, v10_5.toInt] (sI w10)) → lv_has ls 6 [(0, .ref (ad 0)), (1, .long 109330312357234), (3, .long v10_3), (5, .int v10_5)] → W p l e ({ frames := 2, cells := 0, slots := 0, locals := 33 }) s m (List.toArray [.ref (ad 0), .long 109330312357234]) below meth c H locs 0 0 (MQ below (va_Qi (Pz_X12_isWord_14 ad cy B qr s1  w0) (fun u : va_W => wpost dC dI cy A u) A) (List.toArray [.ref (ad 0), .long 109330312357234]) s 0 0 A) (F0 m 10 ls []) := by
    intro n10
    induction n10 with
    | zero => intro v10_3 v10_5 f10_0_1 f10_0_14 H locs ls w10 r11 t12 r13 t14 r16 t17 hcr10_0 hm10 hw hT hF c15 c18 hM hl; omega
    | succ n10 ih10 =>
      intro v10_3 v10_5 f10_0_1 f10_0_14 H locs ls w10 r11 t12 r13 t14 r16 t17 hcr10_0 hm10 hw hT hF c15 c18 hM hl
      have J50 : ∀ (v50_3 : Int64) (H : Heap) (locs : List Loc) (ls : Array Slot) (w19 : va_W), 0 ≤ v10_5.toInt → v10_5.toInt ≤ 399 → 1 ≤ f10_0_1.toInt → f10_0_1.toInt ≤ 400 → 0 ≤ f10_0_14.toInt → f10_0_14.toInt ≤ 399 → ((f10_0_14.toInt = f0_.toInt ∨ (gi w0 1 (f0_.toInt).toNat).toInt = 32)) → Wd dC dI A s.heap H locs w19 → TW ksM ad cy B qr 12 w19 → FE ksM [(12, 14, 14)] w0 w19 → gi w19 0 1 = f10_0_1 → gi w19 0 14 = f10_0_14 → TT (fun n => m_X12_isWord n 0 109330312357234 (sI w0)) (fun n => b_X12_isWord_50 (j_X12_isWord 0 n) n 0 (109330312357234 : Int) (v50_3.toInt) (v10_5.toInt) (sI w19)) → lv_has ls 6 [(0, .ref (ad 0)), (1, .long 109330312357234), (3, .long v50_3), (5, .int v10_5)] → W p l e ({ frames := 2, cells := 0, slots := 0, locals := 33 }) s m (List.toArray [.ref (ad 0), .long 109330312357234]) below meth c H locs 0 0 (MQ below (va_Qi (Pz_X12_isWord_14 ad cy B qr s1  w0) (fun u : va_W => wpost dC dI cy A u) A) (List.toArray [.ref (ad 0), .long 109330312357234]) s 0 0 A) (F0 m 50 ls []) := by
        intro v50_3 H locs ls w19 r20 t21 r22 t23 r25 t26 hcr50_0 hw hT hF c24 c27 hM hl
        obtain ⟨x28, ex28⟩ : ∃ y : Int32, y = v10_5 + Int32.ofInt 1 := ⟨_, rfl⟩
        have erx28 := ex28
        refine lv_iinc (v := x28) (lv' := [(5, .int x28), (0, .ref (ad 0)), (1, .long 109330312357234), (3, .long v50_3)]) hx hb dX12_isWord_50 hl (k := 3) rfl ex28.symm (by decide) rfl (fun ls hl => ?_)
        have ex28 : x28.toInt = v10_5.toInt + 1 := by rw [ex28]; exact wk_add (y := 1) (show -2147483648 ≤ v10_5.toInt + 1 by omega) (show v10_5.toInt + 1 ≤ 2147483647 by omega)
        replace hM := hM.lt ex28.symm
        refine lv_goto (tgt := 10) hx hb dX12_isWord_53 (by decide) ?_
        exact ih10 v50_3 x28 f10_0_1 f10_0_14 H locs ls w19 (show 0 ≤ x28.toInt by first | with_reducible assumption | omega) (show x28.toInt ≤ 400 by first | with_reducible assumption | omega) (show 0 ≤ f10_0_1.toInt from r13) (show f10_0_1.toInt ≤ 400 from t23) (show 0 ≤ f10_0_14.toInt from r25) (show f10_0_14.toInt ≤ 400 from t17) (show (f10_0_14.toInt = f0_.toInt ∨ (gi w0 1 (f0_.toInt).toNat).toInt = 32) by first | omega | assumption | (left; omega) | (left; decide) | (right; assumption)) (show (400 - x28.toInt).toNat < n10 by first | exact tn_lt hm10 (by omega) (by omega) | omega) hw hT hF c24 c27 hM (lv_sub hl [1, 2, 3, 0] rfl)
      replace hM := hM.suc (fun _ => e_X12_isWord_10)
      refine lv_aload_n hx hb dX12_isWord_10 rfl (lv_at hl 0 rfl) ?_
      refine lv_aload_n hx hb dX12_isWord_11 rfl (lv_at hl 0 rfl) ?_
      refine tk_geti hC hK hw hT hinX12 kM_at0 (by decide) rfl 14 (by decide) (List.mem_cons_of_mem _ uw_19_18) rfl rfl dX12_isWord_12 (fun x29 c30 rx29 tx29 => ?_)
      refine wk_top f10_0_14 (c30.symm.trans c18) ?_
      replace hM := hM.rd (sI_at c18)
      refine lv_iload hx hb dX12_isWord_15 (lv_at hl 3 rfl) ?_
      refine lv_iadd hx hb dX12_isWord_17 ?_
      refine lv_topi (fun x31 ex31 => ?_)
      have ezx31 := ex31
      have ex31 : x31.toInt = f10_0_14.toInt + v10_5.toInt := by rw [ex31]; exact wk_add (show (-2147483648) ≤ f10_0_14.toInt + v10_5.toInt by omega) (show f10_0_14.toInt + v10_5.toInt ≤ 2147483647 by omega)
      replace hM := hM.lt ex31.symm
      refine tk_Vi hC hK hw hT hA hE hSR kM_at0 (by decide) rfl (kz_X12_isLetter_1 l adK adV dC dI cy ad B hB0 (Int.le_trans hB1 (by decide)) qr s1   x31 (show 0 ≤ x31.toInt by first | with_reducible assumption | omega) (show x31.toInt ≤ 800 by first | with_reducible assumption | omega) w10 H.size hT ) (cwV 1 hC.2.2.2.2 uV_RX12_101 rfl rfl rfl (by decide +kernel) ⟨Nat.le_of_ble_eq_true rfl, Nat.le_of_ble_eq_true rfl⟩) rfl hl.1 rfl (Nat.le_of_ble_eq_true rfl) dX12_isWord_18 (fun r32 w34 H locs hp33 hw => ?_)
      obtain ⟨rfl, hv42, hg41⟩ := hp33
      rcases hg41 with ⟨rfl, ⟨x36, c37, rx36, tx36⟩⟩ | ⟨rfl, g38, ⟨x39, c40, rx39, tx39⟩⟩
      · replace hM := hM.call (r' := 0) hv42 (by decide)
        have ex36 : x36.toInt = f10_0_1.toInt := by rw [← c15.symm.trans c37]
        refine lv_if_eq (tgt := 56) hx hb dX12_isWord_21 (by decide) (fun _ => ?_) (fun c => absurd (by decide) c)
        replace hM := hM.pos (by decide)
        refine lv_iload hx hb dX12_isWord_56 (lv_at hl 3 rfl) ?_
        refine lv_if_le (tgt := 78) hx hb dX12_isWord_58 (by decide) (fun c43 => ?_) (fun c43 => ?_)
        · have c43 : v10_5.toInt ≤ (0 : Int) := wk_le.mp c43
          replace hM := hM.pos c43
          exact J78 v10_3 v10_5 f10_0_1 f10_0_14 H locs ls w10 (show 0 ≤ v10_5.toInt from r11) (show v10_5.toInt ≤ 400 from t12) (show 0 ≤ f10_0_1.toInt from r13) (show f10_0_1.toInt ≤ 400 from t14) (show 0 ≤ f10_0_14.toInt from r16) (show f10_0_14.toInt ≤ 400 from t17) (show (f10_0_14.toInt = f0_.toInt ∨ (gi w0 1 (f0_.toInt).toNat).toInt = 32) by first | omega | assumption | (left; omega) | (left; decide) | (right; assumption))  hw hT hF c15 c18 hM (lv_sub hl [0, 1, 2, 3] rfl)
        · have c43 : (0 : Int) < v10_5.toInt := wk_leF c43
          replace hM := hM.neg (Int.not_le.mpr c43)
          refine lv_iload hx hb dX12_isWord_61 (lv_at hl 3 rfl) ?_
          refine lv_bipush (v := 8) hx hb dX12_isWord_63 (by decide) ?_
          refine lv_icmp_ge (tgt := 78) hx hb dX12_isWord_65 (by decide) (fun c44 => ?_) (fun c44 => ?_)
          · have c44 : (8 : Int) ≤ v10_5.toInt := wk_le.mp c44
            replace hM := hM.pos c44
            exact J78 v10_3 v10_5 f10_0_1 f10_0_14 H locs ls w10 (show 0 ≤ v10_5.toInt from r11) (show v10_5.toInt ≤ 400 from t12) (show 0 ≤ f10_0_1.toInt from r13) (show f10_0_1.toInt ≤ 400 from t14) (show 0 ≤ f10_0_14.toInt from r16) (show f10_0_14.toInt ≤ 400 from t17) (show (f10_0_14.toInt = f0_.toInt ∨ (gi w0 1 (f0_.toInt).toNat).toInt = 32) by first | omega | assumption | (left; omega) | (left; decide) | (right; assumption))  hw hT hF c15 c18 hM (lv_sub hl [0, 1, 2, 3] rfl)
          · have c44 : v10_5.toInt < (8 : Int) := wk_leF c44
            replace hM := hM.neg (Int.not_le.mpr c44)
            refine lv_lload_n hx hb dX12_isWord_68 rfl (lv_at hl 2 rfl) ?_
            refine lv_lload_n hx hb dX12_isWord_69 rfl (lv_at hl 1 rfl) ?_
            refine W.lcmp hx hb dX12_isWord_70 ?_
            refine lv_if_ne (tgt := 78) hx hb dX12_isWord_71 (by decide) (fun c45 => ?_) (fun c45 => ?_)
            · have c45 : ¬ v10_3.toInt = (109330312357234 : Int) := wk_ceF c45
              replace hM := hM.pos c45
              exact J78 v10_3 v10_5 f10_0_1 f10_0_14 H locs ls w10 (show 0 ≤ v10_5.toInt from r11) (show v10_5.toInt ≤ 400 from t12) (show 0 ≤ f10_0_1.toInt from r13) (show f10_0_1.toInt ≤ 400 from t14) (show 0 ≤ f10_0_14.toInt from r16) (show f10_0_14.toInt ≤ 400 from t17) (show (f10_0_14.toInt = f0_.toInt ∨ (gi w0 1 (f0_.toInt).toNat).toInt = 32) by first | omega | assumption | (left; omega) | (left; decide) | (right; assumption))  hw hT hF c15 c18 hM (lv_sub hl [0, 1, 2, 3] rfl)
            · have c45 : v10_3.toInt = (109330312357234 : Int) := wk_ceT c45
              replace hM := hM.neg (fun q => q c45)
              refine lv_iconst (v := 1) hx hb dX12_isWord_74 (by decide) ?_
              refine lv_goto (tgt := 79) hx hb dX12_isWord_75 (by decide) ?_
              exact tk_zret hC hr rfl hlocks hK ⟨hT, hF, hM.ret (by decide), (Or.inr ⟨rfl, ⟨f10_0_1, c15, (show 0 ≤ f10_0_1.toInt from r13), (show f10_0_1.toInt ≤ 400 from t14)⟩, (by simp only [cf0_, c18]; omega)⟩)⟩ hw dX12_isWord_79
      · replace hM := hM.call (r' := 1) hv42 (by decide)
        have ex39 : x39.toInt = f10_0_1.toInt := by rw [← c15.symm.trans c40]
        refine lv_if_eq (tgt := 56) hx hb dX12_isWord_21 (by decide) (fun c => absurd c (by decide)) (fun _ => ?_)
        replace hM := hM.neg (by decide)
        refine lv_iload hx hb dX12_isWord_24 (lv_at hl 3 rfl) ?_
        refine lv_bipush (v := 8) hx hb dX12_isWord_26 (by decide) ?_
        refine lv_icmp_ge (tgt := 50) hx hb dX12_isWord_28 (by decide) (fun c46 => ?_) (fun c46 => ?_)
        · have c46 : (8 : Int) ≤ v10_5.toInt := wk_le.mp c46
          replace hM := hM.pos c46
          exact J50 v10_3 H locs ls w10 (show 0 ≤ v10_5.toInt from r11) (show v10_5.toInt ≤ 399 by first | with_reducible assumption | omega) (show 1 ≤ f10_0_1.toInt by first | with_reducible assumption | omega) (show f10_0_1.toInt ≤ 400 from t14) (show 0 ≤ f10_0_14.toInt from r16) (show f10_0_14.toInt ≤ 399 by first | with_reducible assumption | omega) (show (f10_0_14.toInt = f0_.toInt ∨ (gi w0 1 (f0_.toInt).toNat).toInt = 32) by first | omega | assumption | (left; omega) | (left; decide) | (right; assumption))  hw hT hF c15 c18 hM (lv_sub hl [0, 1, 2, 3] rfl)
        · have c46 : v10_5.toInt < (8 : Int) := wk_leF c46
          replace hM := hM.neg (Int.not_le.mpr c46)
          refine lv_lload_n hx hb dX12_isWord_31 rfl (lv_at hl 2 rfl) ?_
          refine lv_bipush (v := 8) hx hb dX12_isWord_32 (by decide) ?_
          refine lv_lshl hx hb dX12_isWord_34 rfl ?_
          refine lv_topl (fun x47 ex47 => ?_)
          replace hM := hM.lt (mShlL_e ex47 rfl (by decide))
          refine lv_aload_n hx hb dX12_isWord_35 rfl (lv_at hl 0 rfl) ?_
          refine tk_getA hC hK hw hT hinX12 kM_at0 (by decide) rfl 0 (by decide) (List.mem_cons_of_mem _ uw_6_14) rfl rfl dX12_isWord_36 ?_
          refine lv_aload_n hx hb dX12_isWord_39 rfl (lv_at hl 0 rfl) ?_
          refine tk_geti hC hK hw hT hinX12 kM_at0 (by decide) rfl 14 (by decide) (List.mem_cons_of_mem _ uw_19_18) rfl rfl dX12_isWord_40 (fun x48 c49 rx48 tx48 => ?_)
          refine wk_top f10_0_14 (c49.symm.trans c18) ?_
          replace hM := hM.rd (sI_at c18)
          refine lv_iload hx hb dX12_isWord_43 (lv_at hl 3 rfl) ?_
          refine lv_iadd hx hb dX12_isWord_45 ?_
          refine lv_topi (fun x50 ex50 => ?_)
          have ezx50 := ex50
          have ex50 : x50.toInt = f10_0_14.toInt + v10_5.toInt := by rw [ex50]; exact wk_add (show (-2147483648) ≤ f10_0_14.toInt + v10_5.toInt by omega) (show f10_0_14.toInt + v10_5.toInt ≤ 2147483647 by omega)
          replace hM := hM.lt ex50.symm
          refine tk_bald hC hK hw hT kM_at1 rfl rfl (show 0 ≤ x50.toInt by first | with_reducible assumption | omega) (show x50.toInt < 400 by first | with_reducible assumption | omega) dX12_isWord_46 (fun x51 c52 rx51 tx51 => ?_)
          have hox51 := c52
          replace hM := hM.rd (sI_at hox51)
          have c52 : gi w10 1 (1 * f10_0_14.toInt + 1 * v10_5.toInt + 0).toNat = x51 := (congrArg (gi w10 1) (congrArg Int.toNat (show 1 * f10_0_14.toInt + 1 * v10_5.toInt + 0 = x50.toInt by first | exact Int.le_antisymm (by omega) (by omega) | omega))).trans c52
          refine lv_i2l hx hb dX12_isWord_47 rfl ?_
          refine lv_topl (fun x53 ex53 => ?_)
          have ex53 : x53.toInt = x51.toInt := by rw [ex53]; exact wk_i2l _
          have bx53 := wk_i32 x51
          replace hM := hM.lt ex53.symm
          refine lv_lor hx hb dX12_isWord_48 ?_
          refine lv_topl (fun x54 ex54 => ?_)
          have ezx54 := ex54
          replace hM := hM.lt (o64_e (f := fun x y => x ||| y) ezx54 rfl rfl)
          refine lv_lstore_n (lv' := [(3, .long x54), (0, .ref (ad 0)), (1, .long 109330312357234), (5, .int v10_5)]) hx hb dX12_isWord_49 rfl hl (by decide) rfl (fun ls hl => ?_)
          exact J50 x54 H locs ls w10 (show 0 ≤ v10_5.toInt from r11) (show v10_5.toInt ≤ 399 by first | with_reducible assumption | omega) (show 1 ≤ f10_0_1.toInt by first | with_reducible assumption | omega) (show f10_0_1.toInt ≤ 400 from t14) (show 0 ≤ f10_0_14.toInt from r16) (show f10_0_14.toInt ≤ 399 by first | with_reducible assumption | omega) (show (f10_0_14.toInt = f0_.toInt ∨ (gi w0 1 (f0_.toInt).toNat).toInt = 32) by first | omega | assumption | (left; omega) | (left; decide) | (right; assumption) | (right; rw [c52]; omega) | (right; rw [c52]; decide))  hw hT hF c15 c18 hM (lv_sub hl [1, 2, 0, 3] rfl)
  have hM : TT (fun n => m_X12_isWord n 0 109330312357234 (sI w0)) (fun n => m_X12_isWord n 0 109330312357234 (sI w0)) := TT.rf
  refine lv_aload_n hx hb dX12_isWord_0 rfl (lv_at hl 0 rfl) ?_
  refine tk_Vi hC hK hw hT hA hE hSR kM_at0 (by decide) rfl (kz_X12_see_1 l adK adV dC dI cy ad B hB0 (Int.le_trans hB1 (by decide)) qr s1    w0 s.heap.size hT f0_ cf0_ (show 0 ≤ f0_.toInt from rf0_) (show f0_.toInt ≤ 400 from tf0_)) (cwV 0 hC.2.2.2.2 uV_RX12_97 rfl rfl rfl (by decide +kernel) ⟨Nat.le_of_ble_eq_true rfl, Nat.le_of_ble_eq_true rfl⟩) rfl hl.1 rfl (Nat.le_of_ble_eq_true rfl) dX12_isWord_1 (fun r55 w57 H locs hp56 hw => ?_)
  obtain ⟨hT, k58, hv76, hg75⟩ := hp56
  have hF := hF.tr k58 (by decide)
  rcases hg75 with ⟨g59, g60, ⟨x61, c62, rx61, tx61⟩, ⟨x63, c64, rx63, tx63⟩, g65, g66⟩ | ⟨rfl, ⟨x67, c68, rx67, tx67⟩, ⟨x69, c70, rx69, tx69⟩, g71⟩ | ⟨rfl, ⟨x72, c73, rx72, tx72⟩, g74⟩
  · replace hM := hM.call hv76 rfl
    have g65 : (gi w57 1 (x63.toInt).toNat).toInt ≠ 32 := by have q := g65; simp only [c64] at q; first | with_reducible exact q | omega
    have g66 : (x63.toInt = f0_.toInt ∨ (gi w0 1 (f0_.toInt).toNat).toInt = 32) := by have q := g66; simp only [cf0_, c64] at q; first | with_reducible exact q | omega
    refine lv_pop hx hb dX12_isWord_4 rfl ?_
    refine lv_lconst (v := 0) hx hb dX12_isWord_5 (by decide) ?_
    refine lv_lstore_n (lv' := [(3, .long 0), (0, .ref (ad 0)), (1, .long 109330312357234)]) hx hb dX12_isWord_6 rfl hl (by decide) rfl (fun ls hl => ?_)
    refine lv_iconst (v := 0) hx hb dX12_isWord_7 (by decide) ?_
    refine lv_istore (lv' := [(5, .int 0), (3, .long 0), (0, .ref (ad 0)), (1, .long 109330312357234)]) hx hb dX12_isWord_8 hl (by decide) rfl (fun ls hl => ?_)
    exact L10 ((400 - (0 : Int)).toNat + 1) 0 0 x61 x63 H locs ls w57 (by decide) (by decide) (show 0 ≤ x61.toInt by first | with_reducible assumption | omega) (show x61.toInt ≤ 400 by first | with_reducible assumption | omega) (show 0 ≤ x63.toInt by first | with_reducible assumption | omega) (show x63.toInt ≤ 400 by first | with_reducible assumption | omega) (show (x63.toInt = f0_.toInt ∨ (gi w0 1 (f0_.toInt).toNat).toInt = 32) by first | omega | assumption | (left; omega) | (left; decide) | (right; assumption)) (Nat.lt_succ_self _) hw hT hF c62 c64 hM (lv_sub hl [2, 3, 1, 0] rfl)
  · replace hM := hM.call (r' := (-1)) hv76 (by decide)
    have g71 : (x69.toInt = f0_.toInt ∨ (gi w0 1 (f0_.toInt).toNat).toInt = 32) := by have q := g71; simp only [cf0_, c70] at q; first | with_reducible exact q | omega
    refine lv_pop hx hb dX12_isWord_4 rfl ?_
    refine lv_lconst (v := 0) hx hb dX12_isWord_5 (by decide) ?_
    refine lv_lstore_n (lv' := [(3, .long 0), (0, .ref (ad 0)), (1, .long 109330312357234)]) hx hb dX12_isWord_6 rfl hl (by decide) rfl (fun ls hl => ?_)
    refine lv_iconst (v := 0) hx hb dX12_isWord_7 (by decide) ?_
    refine lv_istore (lv' := [(5, .int 0), (3, .long 0), (0, .ref (ad 0)), (1, .long 109330312357234)]) hx hb dX12_isWord_8 hl (by decide) rfl (fun ls hl => ?_)
    exact L10 ((400 - (0 : Int)).toNat + 1) 0 0 x67 x69 H locs ls w57 (by decide) (by decide) (show 0 ≤ x67.toInt by first | with_reducible assumption | omega) (show x67.toInt ≤ 400 by first | with_reducible assumption | omega) (show 0 ≤ x69.toInt by first | with_reducible assumption | omega) (show x69.toInt ≤ 400 by first | with_reducible assumption | omega) (show (x69.toInt = f0_.toInt ∨ (gi w0 1 (f0_.toInt).toNat).toInt = 32) by first | omega | assumption | (left; omega) | (left; decide) | (right; assumption)) (Nat.lt_succ_self _) hw hT hF c68 c70 hM (lv_sub hl [2, 3, 1, 0] rfl)
  · replace hM := hM.call (r' := (-1)) hv76 (by decide)
    obtain ⟨x77, c78, rx77, tx77⟩ := hT.rdi (lo := 0) (hi := 400) (k := 14) kM_at0 (by decide) rfl
    have g74 : (x77.toInt = f0_.toInt ∨ (gi w0 1 (f0_.toInt).toNat).toInt = 32) := by have q := g74; simp only [cf0_, c78] at q; first | with_reducible exact q | omega
    refine lv_pop hx hb dX12_isWord_4 rfl ?_
    refine lv_lconst (v := 0) hx hb dX12_isWord_5 (by decide) ?_
    refine lv_lstore_n (lv' := [(3, .long 0), (0, .ref (ad 0)), (1, .long 109330312357234)]) hx hb dX12_isWord_6 rfl hl (by decide) rfl (fun ls hl => ?_)
    refine lv_iconst (v := 0) hx hb dX12_isWord_7 (by decide) ?_
    refine lv_istore (lv' := [(5, .int 0), (3, .long 0), (0, .ref (ad 0)), (1, .long 109330312357234)]) hx hb dX12_isWord_8 hl (by decide) rfl (fun ls hl => ?_)
    exact L10 ((400 - (0 : Int)).toNat + 1) 0 0 x72 x77 H locs ls w57 (by decide) (by decide) (show 0 ≤ x72.toInt by first | with_reducible assumption | omega) (show x72.toInt ≤ 400 by first | with_reducible assumption | omega) (show 0 ≤ x77.toInt by first | with_reducible assumption | omega) (show x77.toInt ≤ 400 by first | with_reducible assumption | omega) (show (x77.toInt = f0_.toInt ∨ (gi w0 1 (f0_.toInt).toNat).toInt = 32) by first | omega | assumption | (left; omega) | (left; decide) | (right; assumption)) (Nat.lt_succ_self _) hw hT hF c73 c78 hM (lv_sub hl [2, 3, 1, 0] rfl)
abbrev Pz_X12_isWord_15 (ad : Nat → Nat) (cy : Nat → ClassId) (B : Int) (qr : Nat) (s1 : Int)  (w0 : va_W) : Int32 → va_W → Prop := fun r u => TW ksM ad cy B qr 12 u ∧ FE ksM [(12, 14, 14)] w0 u ∧ Ev (fun n => m_X12_isWord n 0 1735352684 (sI w0)) (r.toInt, sI u) ∧ ((r = 0 ∧ (∃ y : Int32, gi u 0 1 = y ∧ 0 ≤ y.toInt ∧ y.toInt ≤ 400) ∧ (((gi u 0 14).toInt = (gi w0 0 14).toInt ∨ (gi w0 1 ((gi w0 0 14).toInt).toNat).toInt = 32))) ∨ (r = 1 ∧ (∃ y : Int32, gi u 0 1 = y ∧ 0 ≤ y.toInt ∧ y.toInt ≤ 400) ∧ (((gi u 0 14).toInt = (gi w0 0 14).toInt ∨ (gi w0 1 ((gi w0 0 14).toInt).toNat).toInt = 32))))
set_option maxHeartbeats 4000000 in
set_option maxRecDepth 100000 in
theorem kz_X12_isWord_15 (l : Launch) (adK adV : Nat → Nat) (dC : Nat → ClassId) (dI : Nat → Nat → Nat) (cy : Nat → ClassId) (ad : Nat → Nat) (B : Int) (hB0 : 100000 ≤ B) (hB1 : B ≤ 1073741824) (qr : Nat) (s1 : Int)   (w0 : va_W) (sz : Nat) (hT : TW ksM ad cy B qr 12 w0) (f0_ : Int32) (cf0_ : gi w0 0 14 = f0_) (rf0_ : 0 ≤ f0_.toInt) (tf0_ : f0_.toInt ≤ 400) : Met l yX12_isWord (wu yX12_isWord cX12_isWord 6 (some .boolean)) ({ frames := 2, cells := 0, slots := 0, locals := 33 }) (va_Pc [.ref (ad 0), .long 1735352684] (wpreS adK adV dC dI cy sz w0)) (va_Qi (Pz_X12_isWord_15 ad cy B qr s1  w0) (fun u : va_W => wpost dC dI cy (va_A w0 sz) u) (va_A w0 sz)) 0 0 (va_A w0 sz) := by
  refine Met.ofW (cc := cX12_isWord) (maxL := 6) (ret := (some .boolean)) (by decide) rfl ?_
  intro p e s m args below meth c s₁ Bk hml hv
  obtain ⟨rfl, ⟨hsz, hP, hK, hD0⟩, hE, hSR⟩ := hv
  have hx := Bk.exec
  have hb := Bk.bytes
  have hr := Bk.returns
  have hlocks := Bk.notSynchronized
  have hC : CallFix p m c cX12_isWord 6 s _ (wu yX12_isWord cX12_isWord 6 (some .boolean)) RX12 := ⟨hx, hb, hml, findClass_of_methodNamed Bk.named, atoms_spec (ws := (wu yX12_isWord cX12_isWord 6 (some .boolean))) Bk.pre⟩
  subst hsz
  have hD := hD0.self (sz := s.heap.size)
  generalize hAe : va_A w0 s.heap.size = A at hD hE ⊢
  have hA : ∀ q : Nat, s.heap.size ≤ q → A q := fun q h => by rw [← hAe]; exact Or.inr h
  have hw : Wd dC dI A s.heap s.heap [] w0 := ⟨hP, hD, va_S.rf⟩
  have hF : FE ksM [(12, 14, 14)] w0 w0 := FE.rf
  have hl := lv_entry ([.ref (ad 0), .long 1735352684]) (n := 6) (Nat.le_of_ble_eq_true rfl)
  rw [lg_entry_eq]
  generalize (lg_sl ([.ref (ad 0), .long 1735352684]) ++ List.replicate (6 - (lg_sl ([.ref (ad 0), .long 1735352684])).length) Slot.unset).toArray = ls at hl ⊢
  have hl : lv_has ls 6 [(0, .ref (ad 0)), (1, .long 1735352684)] := hl
  generalize hloc : ([] : List Loc) = locs at hw ⊢
  have hinX12 : ∀ w ∈ u_ws RX12 TX12 42, w ∈ (wu yX12_isWord cX12_isWord 6 (some .boolean)) := fun _ h => List.mem_cons_of_mem _ (up_71 h)
  have J78 : ∀ (v78_3 : Int64) (v78_5 : Int32) (f78_0_1 : Int32) (f78_0_14 : Int32) (H : Heap) (locs : List Loc) (ls : Array Slot) (w1 : va_W), 0 ≤ v78_5.toInt → v78_5.toInt ≤ 400 → 0 ≤ f78_0_1.toInt → f78_0_1.toInt ≤ 400 → 0 ≤ f78_0_14.toInt → f78_0_14.toInt ≤ 400 → ((f78_0_14.toInt = f0_.toInt ∨ (gi w0 1 (f0_.toInt).toNat).toInt = 32)) → Wd dC dI A s.heap H locs w1 → TW ksM ad cy B qr 12 w1 → FE ksM [(12, 14, 14)] w0 w1 → gi w1 0 1 = f78_0_1 → gi w1 0 14 = f78_0_14 → TT (fun n => m_X12_isWord n 0 1735352684 (sI w0)) (fun n => b_X12_isWord_78 (j_X12_isWord 0 n) n 0 (sI w1)) → lv_has ls 6 [(0, .ref (ad 0)), (1, .long 1735352684), (3, .long v78_3), (5, .int v78_5)] → W p l e ({ frames := 2, cells := 0, slots := 0, locals := 33 }) s m (List.toArray [.ref (ad 0), .long 1735352684]) below meth c H locs 0 0 (MQ below (va_Qi (Pz_X12_isWord_15 ad cy B qr s1  w0) (fun u : va_W => wpost dC dI cy A u) A) (List.toArray [.ref (ad 0), .long 1735352684]) s 0 0 A) (F0 m 78 ls []) := by
    intro v78_3 v78_5 f78_0_1 f78_0_14 H locs ls w1 r2 t3 r4 t5 r7 t8 hcr78_0 hw hT hF c6 c9 hM hl
    refine lv_iconst (v := 0) hx hb dX12_isWord_78 (by decide) ?_
    exact tk_zret hC hr rfl hlocks hK ⟨hT, hF, hM.ret (by decide), (Or.inl ⟨rfl, ⟨f78_0_1, c6, (show 0 ≤ f78_0_1.toInt from r4), (show f78_0_1.toInt ≤ 400 from t5)⟩, (by simp only [cf0_, c9]; omega)⟩)⟩ hw dX12_isWord_79
  have L10 : ∀ (n10 : Nat) (v10_3 : Int64) (v10_5 : Int32) (f10_0_1 : Int32) (f10_0_14 : Int32) (H : Heap) (locs : List Loc) (ls : Array Slot) (w10 : va_W), 0 ≤ v10_5.toInt → v10_5.toInt ≤ 400 → 0 ≤ f10_0_1.toInt → f10_0_1.toInt ≤ 400 → 0 ≤ f10_0_14.toInt → f10_0_14.toInt ≤ 400 → ((f10_0_14.toInt = f0_.toInt ∨ (gi w0 1 (f0_.toInt).toNat).toInt = 32)) → (400 - v10_5.toInt).toNat < n10 → Wd dC dI A s.heap H locs w10 → TW ksM ad cy B qr 12 w10 → FE ksM [(12, 14, 14)] w0 w10 → gi w10 0 1 = f10_0_1 → gi w10 0 14 = f10_0_14 → TT (fun n => m_X12_isWord n 0 1735352684 (sI w0)) (fun n => j_X12_isWord 0 n 10 [(1735352684 : Int), v10_3.toInt, v10_5.toInt] (sI w10)) → lv_has ls 6 [(0, .ref (ad 0)), (1, .long 1735352684), (3, .long v10_3), (5, .int v10_5)] → W p l e ({ frames := 2, cells := 0, slots := 0, locals := 33 }) s m (List.toArray [.ref (ad 0), .long 1735352684]) below meth c H locs 0 0 (MQ below (va_Qi (Pz_X12_isWord_15 ad cy B qr s1  w0) (fun u : va_W => wpost dC dI cy A u) A) (List.toArray [.ref (ad 0), .long 1735352684]) s 0 0 A) (F0 m 10 ls []) := by
    intro n10
    induction n10 with
    | zero => intro v10_3 v10_5 f10_0_1 f10_0_14 H locs ls w10 r11 t12 r13 t14 r16 t17 hcr10_0 hm10 hw hT hF c15 c18 hM hl; omega
    | succ n10 ih10 =>
      intro v10_3 v10_5 f10_0_1 f10_0_14 H locs ls w10 r11 t12 r13 t14 r16 t17 hcr10_0 hm10 hw hT hF c15 c18 hM hl
      have J50 : ∀ (v50_3 : Int64) (H : Heap) (locs : List Loc) (ls : Array Slot) (w19 : va_W), 0 ≤ v10_5.toInt → v10_5.toInt ≤ 399 → 1 ≤ f10_0_1.toInt → f10_0_1.toInt ≤ 400 → 0 ≤ f10_0_14.toInt → f10_0_14.toInt ≤ 399 → ((f10_0_14.toInt = f0_.toInt ∨ (gi w0 1 (f0_.toInt).toNat).toInt = 32)) → Wd dC dI A s.heap H locs w19 → TW ksM ad cy B qr 12 w19 → FE ksM [(12, 14, 14)] w0 w19 → gi w19 0 1 = f10_0_1 → gi w19 0 14 = f10_0_14 → TT (fun n => m_X12_isWord n 0 1735352684 (sI w0)) (fun n => b_X12_isWord_50 (j_X12_isWord 0 n) n 0 (1735352684 : Int) (v50_3.toInt) (v10_5.toInt) (sI w19)) → lv_has ls 6 [(0, .ref (ad 0)), (1, .long 1735352684), (3, .long v50_3), (5, .int v10_5)] → W p l e ({ frames := 2, cells := 0, slots := 0, locals := 33 }) s m (List.toArray [.ref (ad 0), .long 1735352684]) below meth c H locs 0 0 (MQ below (va_Qi (Pz_X12_isWord_15 ad cy B qr s1  w0) (fun u : va_W => wpost dC dI cy A u) A) (List.toArray [.ref (ad 0), .long 1735352684]) s 0 0 A) (F0 m 50 ls []) := by
        intro v50_3 H locs ls w19 r20 t21 r22 t23 r25 t26 hcr50_0 hw hT hF c24 c27 hM hl
        obtain ⟨x28, ex28⟩ : ∃ y : Int32, y = v10_5 + Int32.ofInt 1 := ⟨_, rfl⟩
        have erx28 := ex28
        refine lv_iinc (v := x28) (lv' := [(5, .int x28), (0, .ref (ad 0)), (1, .long 1735352684), (3, .long v50_3)]) hx hb dX12_isWord_50 hl (k := 3) rfl ex28.symm (by decide) rfl (fun ls hl => ?_)
        have ex28 : x28.toInt = v10_5.toInt + 1 := by rw [ex28]; exact wk_add (y := 1) (show -2147483648 ≤ v10_5.toInt + 1 by omega) (show v10_5.toInt + 1 ≤ 2147483647 by omega)
        replace hM := hM.lt ex28.symm
        refine lv_goto (tgt := 10) hx hb dX12_isWord_53 (by decide) ?_
        exact ih10 v50_3 x28 f10_0_1 f10_0_14 H locs ls w19 (show 0 ≤ x28.toInt by first | with_reducible assumption | omega) (show x28.toInt ≤ 400 by first | with_reducible assumption | omega) (show 0 ≤ f10_0_1.toInt from r13) (show f10_0_1.toInt ≤ 400 from t23) (show 0 ≤ f10_0_14.toInt from r25) (show f10_0_14.toInt ≤ 400 from t17) (show (f10_0_14.toInt = f0_.toInt ∨ (gi w0 1 (f0_.toInt).toNat).toInt = 32) by first | omega | assumption | (left; omega) | (left; decide) | (right; assumption)) (show (400 - x28.toInt).toNat < n10 by first | exact tn_lt hm10 (by omega) (by omega) | omega) hw hT hF c24 c27 hM (lv_sub hl [1, 2, 3, 0] rfl)
      replace hM := hM.suc (fun _ => e_X12_isWord_10)
      refine lv_aload_n hx hb dX12_isWord_10 rfl (lv_at hl 0 rfl) ?_
      refine lv_aload_n hx hb dX12_isWord_11 rfl (lv_at hl 0 rfl) ?_
      refine tk_geti hC hK hw hT hinX12 kM_at0 (by decide) rfl 14 (by decide) (List.mem_cons_of_mem _ uw_19_18) rfl rfl dX12_isWord_12 (fun x29 c30 rx29 tx29 => ?_)
      refine wk_top f10_0_14 (c30.symm.trans c18) ?_
      replace hM := hM.rd (sI_at c18)
      refine lv_iload hx hb dX12_isWord_15 (lv_at hl 3 rfl) ?_
      refine lv_iadd hx hb dX12_isWord_17 ?_
      refine lv_topi (fun x31 ex31 => ?_)
      have ezx31 := ex31
      have ex31 : x31.toInt = f10_0_14.toInt + v10_5.toInt := by rw [ex31]; exact wk_add (show (-2147483648) ≤ f10_0_14.toInt + v10_5.toInt by omega) (show f10_0_14.toInt + v10_5.toInt ≤ 2147483647 by omega)
      replace hM := hM.lt ex31.symm
      refine tk_Vi hC hK hw hT hA hE hSR kM_at0 (by decide) rfl (kz_X12_isLetter_1 l adK adV dC dI cy ad B hB0 (Int.le_trans hB1 (by decide)) qr s1   x31 (show 0 ≤ x31.toInt by first | with_reducible assumption | omega) (show x31.toInt ≤ 800 by first | with_reducible assumption | omega) w10 H.size hT ) (cwV 1 hC.2.2.2.2 uV_RX12_101 rfl rfl rfl (by decide +kernel) ⟨Nat.le_of_ble_eq_true rfl, Nat.le_of_ble_eq_true rfl⟩) rfl hl.1 rfl (Nat.le_of_ble_eq_true rfl) dX12_isWord_18 (fun r32 w34 H locs hp33 hw => ?_)
      obtain ⟨rfl, hv42, hg41⟩ := hp33
      rcases hg41 with ⟨rfl, ⟨x36, c37, rx36, tx36⟩⟩ | ⟨rfl, g38, ⟨x39, c40, rx39, tx39⟩⟩
      · replace hM := hM.call (r' := 0) hv42 (by decide)
        have ex36 : x36.toInt = f10_0_1.toInt := by rw [← c15.symm.trans c37]
        refine lv_if_eq (tgt := 56) hx hb dX12_isWord_21 (by decide) (fun _ => ?_) (fun c => absurd (by decide) c)
        replace hM := hM.pos (by decide)
        refine lv_iload hx hb dX12_isWord_56 (lv_at hl 3 rfl) ?_
        refine lv_if_le (tgt := 78) hx hb dX12_isWord_58 (by decide) (fun c43 => ?_) (fun c43 => ?_)
        · have c43 : v10_5.toInt ≤ (0 : Int) := wk_le.mp c43
          replace hM := hM.pos c43
          exact J78 v10_3 v10_5 f10_0_1 f10_0_14 H locs ls w10 (show 0 ≤ v10_5.toInt from r11) (show v10_5.toInt ≤ 400 from t12) (show 0 ≤ f10_0_1.toInt from r13) (show f10_0_1.toInt ≤ 400 from t14) (show 0 ≤ f10_0_14.toInt from r16) (show f10_0_14.toInt ≤ 400 from t17) (show (f10_0_14.toInt = f0_.toInt ∨ (gi w0 1 (f0_.toInt).toNat).toInt = 32) by first | omega | assumption | (left; omega) | (left; decide) | (right; assumption))  hw hT hF c15 c18 hM (lv_sub hl [0, 1, 2, 3] rfl)
        · have c43 : (0 : Int) < v10_5.toInt := wk_leF c43
          replace hM := hM.neg (Int.not_le.mpr c43)
          refine lv_iload hx hb dX12_isWord_61 (lv_at hl 3 rfl) ?_
          refine lv_bipush (v := 8) hx hb dX12_isWord_63 (by decide) ?_
          refine lv_icmp_ge (tgt := 78) hx hb dX12_isWord_65 (by decide) (fun c44 => ?_) (fun c44 => ?_)
          · have c44 : (8 : Int) ≤ v10_5.toInt := wk_le.mp c44
            replace hM := hM.pos c44
            exact J78 v10_3 v10_5 f10_0_1 f10_0_14 H locs ls w10 (show 0 ≤ v10_5.toInt from r11) (show v10_5.toInt ≤ 400 from t12) (show 0 ≤ f10_0_1.toInt from r13) (show f10_0_1.toInt ≤ 400 from t14) (show 0 ≤ f10_0_14.toInt from r16) (show f10_0_14.toInt ≤ 400 from t17) (show (f10_0_14.toInt = f0_.toInt ∨ (gi w0 1 (f0_.toInt).toNat).toInt = 32) by first | omega | assumption | (left; omega) | (left; decide) | (right; assumption))  hw hT hF c15 c18 hM (lv_sub hl [0, 1, 2, 3] rfl)
          · have c44 : v10_5.toInt < (8 : Int) := wk_leF c44
            replace hM := hM.neg (Int.not_le.mpr c44)
            refine lv_lload_n hx hb dX12_isWord_68 rfl (lv_at hl 2 rfl) ?_
            refine lv_lload_n hx hb dX12_isWord_69 rfl (lv_at hl 1 rfl) ?_
            refine W.lcmp hx hb dX12_isWord_70 ?_
            refine lv_if_ne (tgt := 78) hx hb dX12_isWord_71 (by decide) (fun c45 => ?_) (fun c45 => ?_)
            · have c45 : ¬ v10_3.toInt = (1735352684 : Int) := wk_ceF c45
              replace hM := hM.pos c45
              exact J78 v10_3 v10_5 f10_0_1 f10_0_14 H locs ls w10 (show 0 ≤ v10_5.toInt from r11) (show v10_5.toInt ≤ 400 from t12) (show 0 ≤ f10_0_1.toInt from r13) (show f10_0_1.toInt ≤ 400 from t14) (show 0 ≤ f10_0_14.toInt from r16) (show f10_0_14.toInt ≤ 400 from t17) (show (f10_0_14.toInt = f0_.toInt ∨ (gi w0 1 (f0_.toInt).toNat).toInt = 32) by first | omega | assumption | (left; omega) | (left; decide) | (right; assumption))  hw hT hF c15 c18 hM (lv_sub hl [0, 1, 2, 3] rfl)
            · have c45 : v10_3.toInt = (1735352684 : Int) := wk_ceT c45
              replace hM := hM.neg (fun q => q c45)
              refine lv_iconst (v := 1) hx hb dX12_isWord_74 (by decide) ?_
              refine lv_goto (tgt := 79) hx hb dX12_isWord_75 (by decide) ?_
              exact tk_zret hC hr rfl hlocks hK ⟨hT, hF, hM.ret (by decide), (Or.inr ⟨rfl, ⟨f10_0_1, c15, (show 0 ≤ f10_0_1.toInt from r13), (show f10_0_1.toInt ≤ 400 from t14)⟩, (by simp only [cf0_, c18]; omega)⟩)⟩ hw dX12_isWord_79
      · replace hM := hM.call (r' := 1) hv42 (by decide)
        have ex39 : x39.toInt = f10_0_1.toInt := by rw [← c15.symm.trans c40]
        refine lv_if_eq (tgt := 56) hx hb dX12_isWord_21 (by decide) (fun c => absurd c (by decide)) (fun _ => ?_)
        replace hM := hM.neg (by decide)
        refine lv_iload hx hb dX12_isWord_24 (lv_at hl 3 rfl) ?_
        refine lv_bipush (v := 8) hx hb dX12_isWord_26 (by decide) ?_
        refine lv_icmp_ge (tgt := 50) hx hb dX12_isWord_28 (by decide) (fun c46 => ?_) (fun c46 => ?_)
        · have c46 : (8 : Int) ≤ v10_5.toInt := wk_le.mp c46
          replace hM := hM.pos c46
          exact J50 v10_3 H locs ls w10 (show 0 ≤ v10_5.toInt from r11) (show v10_5.toInt ≤ 399 by first | with_reducible assumption | omega) (show 1 ≤ f10_0_1.toInt by first | with_reducible assumption | omega) (show f10_0_1.toInt ≤ 400 from t14) (show 0 ≤ f10_0_14.toInt from r16) (show f10_0_14.toInt ≤ 399 by first | with_reducible assumption | omega) (show (f10_0_14.toInt = f0_.toInt ∨ (gi w0 1 (f0_.toInt).toNat).toInt = 32) by first | omega | assumption | (left; omega) | (left; decide) | (right; assumption))  hw hT hF c15 c18 hM (lv_sub hl [0, 1, 2, 3] rfl)
        · have c46 : v10_5.toInt < (8 : Int) := wk_leF c46
          replace hM := hM.neg (Int.not_le.mpr c46)
          refine lv_lload_n hx hb dX12_isWord_31 rfl (lv_at hl 2 rfl) ?_
          refine lv_bipush (v := 8) hx hb dX12_isWord_32 (by decide) ?_
          refine lv_lshl hx hb dX12_isWord_34 rfl ?_
          refine lv_topl (fun x47 ex47 => ?_)
          replace hM := hM.lt (mShlL_e ex47 rfl (by decide))
          refine lv_aload_n hx hb dX12_isWord_35 rfl (lv_at hl 0 rfl) ?_
          refine tk_getA hC hK hw hT hinX12 kM_at0 (by decide) rfl 0 (by decide) (List.mem_cons_of_mem _ uw_6_14) rfl rfl dX12_isWord_36 ?_
          refine lv_aload_n hx hb dX12_isWord_39 rfl (lv_at hl 0 rfl) ?_
          refine tk_geti hC hK hw hT hinX12 kM_at0 (by decide) rfl 14 (by decide) (List.mem_cons_of_mem _ uw_19_18) rfl rfl dX12_isWord_40 (fun x48 c49 rx48 tx48 => ?_)
          refine wk_top f10_0_14 (c49.symm.trans c18) ?_
          replace hM := hM.rd (sI_at c18)
          refine lv_iload hx hb dX12_isWord_43 (lv_at hl 3 rfl) ?_
          refine lv_iadd hx hb dX12_isWord_45 ?_
          refine lv_topi (fun x50 ex50 => ?_)
          have ezx50 := ex50
          have ex50 : x50.toInt = f10_0_14.toInt + v10_5.toInt := by rw [ex50]; exact wk_add (show (-2147483648) ≤ f10_0_14.toInt + v10_5.toInt by omega) (show f10_0_14.toInt + v10_5.toInt ≤ 2147483647 by omega)
          replace hM := hM.lt ex50.symm
          refine tk_bald hC hK hw hT kM_at1 rfl rfl (show 0 ≤ x50.toInt by first | with_reducible assumption | omega) (show x50.toInt < 400 by first | with_reducible assumption | omega) dX12_isWord_46 (fun x51 c52 rx51 tx51 => ?_)
          have hox51 := c52
          replace hM := hM.rd (sI_at hox51)
          have c52 : gi w10 1 (1 * f10_0_14.toInt + 1 * v10_5.toInt + 0).toNat = x51 := (congrArg (gi w10 1) (congrArg Int.toNat (show 1 * f10_0_14.toInt + 1 * v10_5.toInt + 0 = x50.toInt by first | exact Int.le_antisymm (by omega) (by omega) | omega))).trans c52
          refine lv_i2l hx hb dX12_isWord_47 rfl ?_
          refine lv_topl (fun x53 ex53 => ?_)
          have ex53 : x53.toInt = x51.toInt := by rw [ex53]; exact wk_i2l _
          have bx53 := wk_i32 x51
          replace hM := hM.lt ex53.symm
          refine lv_lor hx hb dX12_isWord_48 ?_
          refine lv_topl (fun x54 ex54 => ?_)
          have ezx54 := ex54
          replace hM := hM.lt (o64_e (f := fun x y => x ||| y) ezx54 rfl rfl)
          refine lv_lstore_n (lv' := [(3, .long x54), (0, .ref (ad 0)), (1, .long 1735352684), (5, .int v10_5)]) hx hb dX12_isWord_49 rfl hl (by decide) rfl (fun ls hl => ?_)
          exact J50 x54 H locs ls w10 (show 0 ≤ v10_5.toInt from r11) (show v10_5.toInt ≤ 399 by first | with_reducible assumption | omega) (show 1 ≤ f10_0_1.toInt by first | with_reducible assumption | omega) (show f10_0_1.toInt ≤ 400 from t14) (show 0 ≤ f10_0_14.toInt from r16) (show f10_0_14.toInt ≤ 399 by first | with_reducible assumption | omega) (show (f10_0_14.toInt = f0_.toInt ∨ (gi w0 1 (f0_.toInt).toNat).toInt = 32) by first | omega | assumption | (left; omega) | (left; decide) | (right; assumption) | (right; rw [c52]; omega) | (right; rw [c52]; decide))  hw hT hF c15 c18 hM (lv_sub hl [1, 2, 0, 3] rfl)
  have hM : TT (fun n => m_X12_isWord n 0 1735352684 (sI w0)) (fun n => m_X12_isWord n 0 1735352684 (sI w0)) := TT.rf
  refine lv_aload_n hx hb dX12_isWord_0 rfl (lv_at hl 0 rfl) ?_
  refine tk_Vi hC hK hw hT hA hE hSR kM_at0 (by decide) rfl (kz_X12_see_1 l adK adV dC dI cy ad B hB0 (Int.le_trans hB1 (by decide)) qr s1    w0 s.heap.size hT f0_ cf0_ (show 0 ≤ f0_.toInt from rf0_) (show f0_.toInt ≤ 400 from tf0_)) (cwV 0 hC.2.2.2.2 uV_RX12_97 rfl rfl rfl (by decide +kernel) ⟨Nat.le_of_ble_eq_true rfl, Nat.le_of_ble_eq_true rfl⟩) rfl hl.1 rfl (Nat.le_of_ble_eq_true rfl) dX12_isWord_1 (fun r55 w57 H locs hp56 hw => ?_)
  obtain ⟨hT, k58, hv76, hg75⟩ := hp56
  have hF := hF.tr k58 (by decide)
  rcases hg75 with ⟨g59, g60, ⟨x61, c62, rx61, tx61⟩, ⟨x63, c64, rx63, tx63⟩, g65, g66⟩ | ⟨rfl, ⟨x67, c68, rx67, tx67⟩, ⟨x69, c70, rx69, tx69⟩, g71⟩ | ⟨rfl, ⟨x72, c73, rx72, tx72⟩, g74⟩
  · replace hM := hM.call hv76 rfl
    have g65 : (gi w57 1 (x63.toInt).toNat).toInt ≠ 32 := by have q := g65; simp only [c64] at q; first | with_reducible exact q | omega
    have g66 : (x63.toInt = f0_.toInt ∨ (gi w0 1 (f0_.toInt).toNat).toInt = 32) := by have q := g66; simp only [cf0_, c64] at q; first | with_reducible exact q | omega
    refine lv_pop hx hb dX12_isWord_4 rfl ?_
    refine lv_lconst (v := 0) hx hb dX12_isWord_5 (by decide) ?_
    refine lv_lstore_n (lv' := [(3, .long 0), (0, .ref (ad 0)), (1, .long 1735352684)]) hx hb dX12_isWord_6 rfl hl (by decide) rfl (fun ls hl => ?_)
    refine lv_iconst (v := 0) hx hb dX12_isWord_7 (by decide) ?_
    refine lv_istore (lv' := [(5, .int 0), (3, .long 0), (0, .ref (ad 0)), (1, .long 1735352684)]) hx hb dX12_isWord_8 hl (by decide) rfl (fun ls hl => ?_)
    exact L10 ((400 - (0 : Int)).toNat + 1) 0 0 x61 x63 H locs ls w57 (by decide) (by decide) (show 0 ≤ x61.toInt by first | with_reducible assumption | omega) (show x61.toInt ≤ 400 by first | with_reducible assumption | omega) (show 0 ≤ x63.toInt by first | with_reducible assumption | omega) (show x63.toInt ≤ 400 by first | with_reducible assumption | omega) (show (x63.toInt = f0_.toInt ∨ (gi w0 1 (f0_.toInt).toNat).toInt = 32) by first | omega | assumption | (left; omega) | (left; decide) | (right; assumption)) (Nat.lt_succ_self _) hw hT hF c62 c64 hM (lv_sub hl [2, 3, 1, 0] rfl)
  · replace hM := hM.call (r' := (-1)) hv76 (by decide)
    have g71 : (x69.toInt = f0_.toInt ∨ (gi w0 1 (f0_.toInt).toNat).toInt = 32) := by have q := g71; simp only [cf0_, c70] at q; first | with_reducible exact q | omega
    refine lv_pop hx hb dX12_isWord_4 rfl ?_
    refine lv_lconst (v := 0) hx hb dX12_isWord_5 (by decide) ?_
    refine lv_lstore_n (lv' := [(3, .long 0), (0, .ref (ad 0)), (1, .long 1735352684)]) hx hb dX12_isWord_6 rfl hl (by decide) rfl (fun ls hl => ?_)
    refine lv_iconst (v := 0) hx hb dX12_isWord_7 (by decide) ?_
    refine lv_istore (lv' := [(5, .int 0), (3, .long 0), (0, .ref (ad 0)), (1, .long 1735352684)]) hx hb dX12_isWord_8 hl (by decide) rfl (fun ls hl => ?_)
    exact L10 ((400 - (0 : Int)).toNat + 1) 0 0 x67 x69 H locs ls w57 (by decide) (by decide) (show 0 ≤ x67.toInt by first | with_reducible assumption | omega) (show x67.toInt ≤ 400 by first | with_reducible assumption | omega) (show 0 ≤ x69.toInt by first | with_reducible assumption | omega) (show x69.toInt ≤ 400 by first | with_reducible assumption | omega) (show (x69.toInt = f0_.toInt ∨ (gi w0 1 (f0_.toInt).toNat).toInt = 32) by first | omega | assumption | (left; omega) | (left; decide) | (right; assumption)) (Nat.lt_succ_self _) hw hT hF c68 c70 hM (lv_sub hl [2, 3, 1, 0] rfl)
  · replace hM := hM.call (r' := (-1)) hv76 (by decide)
    obtain ⟨x77, c78, rx77, tx77⟩ := hT.rdi (lo := 0) (hi := 400) (k := 14) kM_at0 (by decide) rfl
    have g74 : (x77.toInt = f0_.toInt ∨ (gi w0 1 (f0_.toInt).toNat).toInt = 32) := by have q := g74; simp only [cf0_, c78] at q; first | with_reducible exact q | omega
    refine lv_pop hx hb dX12_isWord_4 rfl ?_
    refine lv_lconst (v := 0) hx hb dX12_isWord_5 (by decide) ?_
    refine lv_lstore_n (lv' := [(3, .long 0), (0, .ref (ad 0)), (1, .long 1735352684)]) hx hb dX12_isWord_6 rfl hl (by decide) rfl (fun ls hl => ?_)
    refine lv_iconst (v := 0) hx hb dX12_isWord_7 (by decide) ?_
    refine lv_istore (lv' := [(5, .int 0), (3, .long 0), (0, .ref (ad 0)), (1, .long 1735352684)]) hx hb dX12_isWord_8 hl (by decide) rfl (fun ls hl => ?_)
    exact L10 ((400 - (0 : Int)).toNat + 1) 0 0 x72 x77 H locs ls w57 (by decide) (by decide) (show 0 ≤ x72.toInt by first | with_reducible assumption | omega) (show x72.toInt ≤ 400 by first | with_reducible assumption | omega) (show 0 ≤ x77.toInt by first | with_reducible assumption | omega) (show x77.toInt ≤ 400 by first | with_reducible assumption | omega) (show (x77.toInt = f0_.toInt ∨ (gi w0 1 (f0_.toInt).toNat).toInt = 32) by first | omega | assumption | (left; omega) | (left; decide) | (right; assumption)) (Nat.lt_succ_self _) hw hT hF c73 c78 hM (lv_sub hl [2, 3, 1, 0] rfl)
