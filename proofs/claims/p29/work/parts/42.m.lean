abbrev P_X12_settles_5 (ad : Nat → Nat) (cy : Nat → ClassId) (B : Int) (qr : Nat) (s1 : Int)  (w0 : va_W) : va_W → Prop := fun u => TW ksM ad cy B qr 12 u ∧ FE ksM [(12, 19, 19), (12, 22, 22), (61, 0, 2400), (62, 0, 7)] w0 u ∧ (((∃ y : Int32, gi u 0 17 = y ∧ 1 ≤ y.toInt ∧ y.toInt ≤ 1) ∧ (∃ y : Int32, gi u 0 19 = y ∧ (-60) ≤ y.toInt ∧ y.toInt ≤ 10) ∧ (∃ y : Int32, gi u 0 22 = y ∧ 0 ≤ y.toInt ∧ y.toInt ≤ 390) ∧ ((gi u 3 1).toInt + (gi u 0 22).toInt = (gi w0 3 1).toInt + (gi w0 0 22).toInt) ∧ ((gi u 0 22).toInt ≤ (gi w0 0 22).toInt) ∧ ((gi u 0 22).toInt + (gi w0 0 19).toInt ≤ (gi w0 0 22).toInt + (gi u 0 19).toInt) ∧ ((gi u 0 22).toInt ≤ (gi u 0 19).toInt + (gi w0 0 18).toInt) ∧ ((gi u 0 22).toInt ≤ 390) ∧ ((gi u 3 1).toInt ≤ 390) ∧ (brkN w0 ((gi u 0 22).toInt).toNat = brkN w0 ((gi w0 0 22).toInt).toNat)))
set_option maxHeartbeats 4000000 in
set_option maxRecDepth 100000 in
theorem k_X12_settles_5 (l : Launch) (adK adV : Nat → Nat) (dC : Nat → ClassId) (dI : Nat → Nat → Nat) (cy : Nat → ClassId) (ad : Nat → Nat) (B : Int) (hB0 : 100000 ≤ B) (hB1 : B ≤ 1073741824) (qr : Nat) (s1 : Int)   (w0 : va_W) (sz : Nat) (hT : TW ksM ad cy B qr 12 w0) (cf0_ : gi w0 0 17 = 1) (f1_ : Int32) (cf1_ : gi w0 0 18 = f1_) (rf1_ : 0 ≤ f1_.toInt) (tf1_ : f1_.toInt ≤ 60) (f2_ : Int32) (cf2_ : gi w0 0 19 = f2_) (rf2_ : (-100) ≤ f2_.toInt) (tf2_ : f2_.toInt ≤ 10) (f3_ : Int32) (cf3_ : gi w0 0 22 = f3_) (rf3_ : 0 ≤ f3_.toInt) (tf3_ : f3_.toInt ≤ 400) (f4_ : Int32) (cf4_ : gi w0 3 1 = f4_) (rf4_ : 0 ≤ f4_.toInt) (tf4_ : f4_.toInt ≤ 400) (pr0_ : f4_.toInt + f3_.toInt ≤ 390) (pr1_ : f3_.toInt ≤ f2_.toInt + f1_.toInt) (pr2_ : f4_.toInt ≤ 390) (pr3_ : f3_.toInt ≤ 390) : Met l yX12_settles wsX12_settles ({ frames := 2, cells := 0, slots := 0, locals := 34 }) (va_Pc [.ref (ad 0), .int 3] (wpreS adK adV dC dI cy sz w0)) (va_Qv (P_X12_settles_5 ad cy B qr s1  w0) (fun u : va_W => wpost dC dI cy (va_A w0 sz) u) (va_A w0 sz)) 0 0 (va_A w0 sz) := by
  refine Met.ofW (cc := cX12_settles) (maxL := 2) (ret := none) (by decide) rfl ?_
  intro p e s m args below meth c s₁ Bk hml hv
  obtain ⟨rfl, ⟨hsz, hP, hK, hD0⟩, hE, hSR⟩ := hv
  have hx := Bk.exec
  have hb := Bk.bytes
  have hr := Bk.returns
  have hlocks := Bk.notSynchronized
  have hC : CallFix p m c cX12_settles 2 s _ wsX12_settles RX12 := ⟨hx, hb, hml, findClass_of_methodNamed Bk.named, atoms_spec (ws := wsX12_settles) Bk.pre⟩
  subst hsz
  have hD := hD0.self (sz := s.heap.size)
  generalize hAe : va_A w0 s.heap.size = A at hD hE ⊢
  have hA : ∀ q : Nat, s.heap.size ≤ q → A q := fun q h => by rw [← hAe]; exact Or.inr h
  have hw : Wd dC dI A s.heap s.heap [] w0 := ⟨hP, hD, va_S.rf⟩
  have hF : FE ksM [(12, 19, 19), (12, 22, 22), (61, 0, 2400), (62, 0, 7)] w0 w0 := FE.rf
  have hl := lv_entry ([.ref (ad 0), .int 3]) (n := 2) (Nat.le_of_ble_eq_true rfl)
  rw [lg_entry_eq]
  generalize (lg_sl ([.ref (ad 0), .int 3]) ++ List.replicate (2 - (lg_sl ([.ref (ad 0), .int 3])).length) Slot.unset).toArray = ls at hl ⊢
  have hl : lv_has ls 2 [(0, .ref (ad 0)), (1, .int 3)] := hl
  generalize hloc : ([] : List Loc) = locs at hw ⊢
  have hinX12 : ∀ w ∈ u_ws RX12 TX12 42, w ∈ wsX12_settles := fun _ h => List.mem_cons_of_mem _ (List.mem_append_right _ (h))
  have J76 : ∀ (f76_0_19 : Int32) (f76_0_22 : Int32) (f76_3_1 : Int32) (H : Heap) (locs : List Loc) (ls : Array Slot) (w1 : va_W), 0 ≤ f1_.toInt → f1_.toInt ≤ 60 → (-60) ≤ f76_0_19.toInt → f76_0_19.toInt ≤ 10 → 0 ≤ f76_0_22.toInt → f76_0_22.toInt ≤ 390 → 0 ≤ f76_3_1.toInt → f76_3_1.toInt ≤ 390 → (f76_3_1.toInt + f76_0_22.toInt = f4_.toInt + f3_.toInt) → (f76_0_22.toInt ≤ f3_.toInt) → (f76_0_22.toInt + f2_.toInt ≤ f3_.toInt + f76_0_19.toInt) → (f76_0_22.toInt ≤ f76_0_19.toInt + f1_.toInt) → (f76_3_1.toInt ≤ 390) → (f76_0_22.toInt ≤ 390) → (-60 ≤ f76_0_19.toInt) → (brkN w0 (f76_0_22.toInt).toNat = brkN w0 (f3_.toInt).toNat) → Wd dC dI A s.heap H locs w1 → TW ksM ad cy B qr 12 w1 → FE ksM [(12, 19, 19), (12, 22, 22), (61, 0, 2400), (62, 0, 7)] w0 w1 → gi w1 0 17 = 1 → gi w1 0 18 = f1_ → gi w1 0 19 = f76_0_19 → gi w1 0 22 = f76_0_22 → gi w1 3 1 = f76_3_1 → lv_has ls 2 [(0, .ref (ad 0)), (1, .int 3)] → W p l e ({ frames := 2, cells := 0, slots := 0, locals := 34 }) s m (List.toArray [.ref (ad 0), .int 3]) below meth c H locs 0 0 (MQ below (va_Qv (P_X12_settles_5 ad cy B qr s1  w0) (fun u : va_W => wpost dC dI cy A u) A) (List.toArray [.ref (ad 0), .int 3]) s 0 0 A) (F0 m 76 ls []) := by
    intro f76_0_19 f76_0_22 f76_3_1 H locs ls w1 r3 t4 r6 t7 r9 t10 r12 t13 hcr76_0 hcr76_1 hcr76_2 hcr76_3 hcr76_4 hcr76_5 hcr76_6 hcr76_7 hw hT hF c2 c5 c8 c11 c14 hl
    exact tk_vret hC hr hlocks hK ⟨hT, hF, ⟨⟨1, c2, (by decide), (by decide)⟩, ⟨f76_0_19, c8, (show (-60) ≤ f76_0_19.toInt by omega), (show f76_0_19.toInt ≤ 10 by omega)⟩, ⟨f76_0_22, c11, (show 0 ≤ f76_0_22.toInt by omega), (show f76_0_22.toInt ≤ 390 by omega)⟩, (by simp only [cf4_, c14, cf3_, c11]; omega), (by simp only [cf3_, c11]; omega), (by simp only [cf2_, c8, cf3_, c11]; omega), (by simp only [c8, cf1_, c11]; omega), (by simp only [c11]; omega), (by simp only [c14]; omega), (by simp only [cf3_, c11]; omega)⟩⟩ hw dX12_settles_76
  have L0 : ∀ (n0 : Nat) (f0_0_19 : Int32) (f0_0_22 : Int32) (f0_3_1 : Int32) (H : Heap) (locs : List Loc) (ls : Array Slot) (w15 : va_W), 0 ≤ f1_.toInt → f1_.toInt ≤ 60 → (-60) ≤ f0_0_19.toInt → f0_0_19.toInt ≤ 10 → 0 ≤ f0_0_22.toInt → f0_0_22.toInt ≤ 390 → 0 ≤ f0_3_1.toInt → f0_3_1.toInt ≤ 390 → (f0_3_1.toInt + f0_0_22.toInt = f4_.toInt + f3_.toInt) → (f0_0_22.toInt ≤ f3_.toInt) → (f0_0_22.toInt + f2_.toInt ≤ f3_.toInt + f0_0_19.toInt) → (f0_0_22.toInt ≤ f0_0_19.toInt + f1_.toInt) → (f0_3_1.toInt ≤ 390) → (f0_0_22.toInt ≤ 390) → (-60 ≤ f0_0_19.toInt) → (brkN w0 (f0_0_22.toInt).toNat = brkN w0 (f3_.toInt).toNat) → (f0_0_19.toInt - (-60)).toNat < n0 → Wd dC dI A s.heap H locs w15 → TW ksM ad cy B qr 12 w15 → FE ksM [(12, 19, 19), (12, 22, 22), (61, 0, 2400), (62, 0, 7)] w0 w15 → gi w15 0 17 = 1 → gi w15 0 18 = f1_ → gi w15 0 19 = f0_0_19 → gi w15 0 22 = f0_0_22 → gi w15 3 1 = f0_3_1 → lv_has ls 2 [(0, .ref (ad 0)), (1, .int 3)] → W p l e ({ frames := 2, cells := 0, slots := 0, locals := 34 }) s m (List.toArray [.ref (ad 0), .int 3]) below meth c H locs 0 0 (MQ below (va_Qv (P_X12_settles_5 ad cy B qr s1  w0) (fun u : va_W => wpost dC dI cy A u) A) (List.toArray [.ref (ad 0), .int 3]) s 0 0 A) (F0 m 0 ls []) := by
    intro n0
    induction n0 with
    | zero => intro f0_0_19 f0_0_22 f0_3_1 H locs ls w15 r17 t18 r20 t21 r23 t24 r26 t27 hcr0_0 hcr0_1 hcr0_2 hcr0_3 hcr0_4 hcr0_5 hcr0_6 hcr0_7 hm0 hw hT hF c16 c19 c22 c25 c28 hl; omega
    | succ n0 ih0 =>
      intro f0_0_19 f0_0_22 f0_3_1 H locs ls w15 r17 t18 r20 t21 r23 t24 r26 t27 hcr0_0 hcr0_1 hcr0_2 hcr0_3 hcr0_4 hcr0_5 hcr0_6 hcr0_7 hm0 hw hT hF c16 c19 c22 c25 c28 hl
      refine lv_aload_n hx hb dX12_settles_0 rfl (lv_at hl 0 rfl) ?_
      refine tk_geti hC hK hw hT hinX12 kM_at0 (by decide) rfl 22 (by decide) (List.mem_of_getElem? (i := 1) rfl) rfl rfl dX12_settles_1 (fun x29 c30 rx29 tx29 => ?_)
      refine wk_top f0_0_22 (c30.symm.trans c25) ?_
      refine lv_if_le (tgt := 76) hx hb dX12_settles_4 (by decide) (fun c31 => ?_) (fun c31 => ?_)
      · have c31 : f0_0_22.toInt ≤ (0 : Int) := wk_le.mp c31
        exact J76 f0_0_19 f0_0_22 f0_3_1 H locs ls w15 (show 0 ≤ f1_.toInt by omega) (show f1_.toInt ≤ 60 by omega) (show (-60) ≤ f0_0_19.toInt by omega) (show f0_0_19.toInt ≤ 10 by omega) (show 0 ≤ f0_0_22.toInt by omega) (show f0_0_22.toInt ≤ 390 by omega) (show 0 ≤ f0_3_1.toInt by omega) (show f0_3_1.toInt ≤ 390 by omega) (show f0_3_1.toInt + f0_0_22.toInt = f4_.toInt + f3_.toInt by omega) (show f0_0_22.toInt ≤ f3_.toInt by omega) (show f0_0_22.toInt + f2_.toInt ≤ f3_.toInt + f0_0_19.toInt by omega) (show f0_0_22.toInt ≤ f0_0_19.toInt + f1_.toInt by omega) (show f0_3_1.toInt ≤ 390 by omega) (show f0_0_22.toInt ≤ 390 by omega) (show -60 ≤ f0_0_19.toInt by omega) (show brkN w0 (f0_0_22.toInt).toNat = brkN w0 (f3_.toInt).toNat from hcr0_7)  hw hT hF c16 c19 c22 c25 c28 (lv_sub hl [0, 1] rfl)
      · have c31 : (0 : Int) < f0_0_22.toInt := wk_leF c31
        refine lv_aload_n hx hb dX12_settles_7 rfl (lv_at hl 0 rfl) ?_
        refine tk_getA hC hK hw hT hinX12 kM_at0 (by decide) rfl 21 (by decide) (List.mem_of_getElem? (i := 2) rfl) rfl rfl dX12_settles_8 ?_
        refine lv_aload_n hx hb dX12_settles_11 rfl (lv_at hl 0 rfl) ?_
        refine tk_geti hC hK hw hT hinX12 kM_at0 (by decide) rfl 22 (by decide) (List.mem_of_getElem? (i := 1) rfl) rfl rfl dX12_settles_12 (fun x32 c33 rx32 tx32 => ?_)
        refine wk_top f0_0_22 (c33.symm.trans c25) ?_
        refine lv_iconst (v := 1) hx hb dX12_settles_15 (by decide) ?_
        refine lv_isub hx hb dX12_settles_16 ?_
        refine lv_topi (fun x34 ex34 => ?_)
        have ex34 : x34.toInt = f0_0_22.toInt - (1 : Int) := by rw [ex34]; exact wk_sub (show (-2147483648) ≤ f0_0_22.toInt - (1 : Int) by omega) (show f0_0_22.toInt - (1 : Int) ≤ 2147483647 by omega)
        refine tk_iald hC hK hw hT kM_at9 rfl rfl (show 0 ≤ x34.toInt by omega) (show x34.toInt < 400 by omega) dX12_settles_17 (fun x35 c36 rx35 tx35 => ?_)
        have c36 : gi w15 9 (1 * f0_0_22.toInt + -1).toNat = x35 := (congrArg (gi w15 9) (congrArg Int.toNat (show 1 * f0_0_22.toInt + -1 = x34.toInt by omega))).trans c36
        refine tk_Si hC hK hw hT hA hE hSR (k_X12_strength_1 l adK adV dC dI cy ad B (by omega) (by omega) qr s1   x35 w15 H.size hT ) (va_cwS 1 hC.2.2.2.2 gX12_settles_X12_strength rfl rfl rfl (by decide +kernel) ⟨Nat.le_of_ble_eq_true rfl, Nat.le_of_ble_eq_true rfl⟩) rfl hl.1 rfl (Nat.le_of_ble_eq_true rfl) dX12_settles_18 (fun r37 w39 H locs hp38 hw => ?_)
        obtain ⟨rfl, hg47⟩ := hp38
        rcases hg47 with rfl | ⟨rfl, g41, g42⟩ | ⟨rfl, g43, g44⟩ | ⟨rfl, g45, g46⟩
        · refine lv_iload_n hx hb dX12_settles_21 rfl (lv_at hl 1 rfl) ?_
          refine lv_icmp_lt (tgt := 76) hx hb dX12_settles_22 (by decide) (fun _ => ?_) (fun c => absurd (by decide) c)
          exact J76 f0_0_19 f0_0_22 f0_3_1 H locs ls w15 (show 0 ≤ f1_.toInt by omega) (show f1_.toInt ≤ 60 by omega) (show (-60) ≤ f0_0_19.toInt by omega) (show f0_0_19.toInt ≤ 10 by omega) (show 0 ≤ f0_0_22.toInt by omega) (show f0_0_22.toInt ≤ 390 by omega) (show 0 ≤ f0_3_1.toInt by omega) (show f0_3_1.toInt ≤ 390 by omega) (show f0_3_1.toInt + f0_0_22.toInt = f4_.toInt + f3_.toInt by omega) (show f0_0_22.toInt ≤ f3_.toInt by omega) (show f0_0_22.toInt + f2_.toInt ≤ f3_.toInt + f0_0_19.toInt by omega) (show f0_0_22.toInt ≤ f0_0_19.toInt + f1_.toInt by omega) (show f0_3_1.toInt ≤ 390 by omega) (show f0_0_22.toInt ≤ 390 by omega) (show -60 ≤ f0_0_19.toInt by omega) (show brkN w0 (f0_0_22.toInt).toNat = brkN w0 (f3_.toInt).toNat from hcr0_7)  hw hT hF c16 c19 c22 c25 c28 (lv_sub hl [0, 1] rfl)
        · refine lv_iload_n hx hb dX12_settles_21 rfl (lv_at hl 1 rfl) ?_
          refine lv_icmp_lt (tgt := 76) hx hb dX12_settles_22 (by decide) (fun _ => ?_) (fun c => absurd (by decide) c)
          exact J76 f0_0_19 f0_0_22 f0_3_1 H locs ls w15 (show 0 ≤ f1_.toInt by omega) (show f1_.toInt ≤ 60 by omega) (show (-60) ≤ f0_0_19.toInt by omega) (show f0_0_19.toInt ≤ 10 by omega) (show 0 ≤ f0_0_22.toInt by omega) (show f0_0_22.toInt ≤ 390 by omega) (show 0 ≤ f0_3_1.toInt by omega) (show f0_3_1.toInt ≤ 390 by omega) (show f0_3_1.toInt + f0_0_22.toInt = f4_.toInt + f3_.toInt by omega) (show f0_0_22.toInt ≤ f3_.toInt by omega) (show f0_0_22.toInt + f2_.toInt ≤ f3_.toInt + f0_0_19.toInt by omega) (show f0_0_22.toInt ≤ f0_0_19.toInt + f1_.toInt by omega) (show f0_3_1.toInt ≤ 390 by omega) (show f0_0_22.toInt ≤ 390 by omega) (show -60 ≤ f0_0_19.toInt by omega) (show brkN w0 (f0_0_22.toInt).toNat = brkN w0 (f3_.toInt).toNat from hcr0_7)  hw hT hF c16 c19 c22 c25 c28 (lv_sub hl [0, 1] rfl)
        · refine lv_iload_n hx hb dX12_settles_21 rfl (lv_at hl 1 rfl) ?_
          refine lv_icmp_lt (tgt := 76) hx hb dX12_settles_22 (by decide) (fun _ => ?_) (fun c => absurd (by decide) c)
          exact J76 f0_0_19 f0_0_22 f0_3_1 H locs ls w15 (show 0 ≤ f1_.toInt by omega) (show f1_.toInt ≤ 60 by omega) (show (-60) ≤ f0_0_19.toInt by omega) (show f0_0_19.toInt ≤ 10 by omega) (show 0 ≤ f0_0_22.toInt by omega) (show f0_0_22.toInt ≤ 390 by omega) (show 0 ≤ f0_3_1.toInt by omega) (show f0_3_1.toInt ≤ 390 by omega) (show f0_3_1.toInt + f0_0_22.toInt = f4_.toInt + f3_.toInt by omega) (show f0_0_22.toInt ≤ f3_.toInt by omega) (show f0_0_22.toInt + f2_.toInt ≤ f3_.toInt + f0_0_19.toInt by omega) (show f0_0_22.toInt ≤ f0_0_19.toInt + f1_.toInt by omega) (show f0_3_1.toInt ≤ 390 by omega) (show f0_0_22.toInt ≤ 390 by omega) (show -60 ≤ f0_0_19.toInt by omega) (show brkN w0 (f0_0_22.toInt).toNat = brkN w0 (f3_.toInt).toNat from hcr0_7)  hw hT hF c16 c19 c22 c25 c28 (lv_sub hl [0, 1] rfl)
        · refine lv_iload_n hx hb dX12_settles_21 rfl (lv_at hl 1 rfl) ?_
          refine lv_icmp_lt (tgt := 76) hx hb dX12_settles_22 (by decide) (fun c => absurd c (by decide)) (fun _ => ?_)
          refine lv_aload_n hx hb dX12_settles_25 rfl (lv_at hl 0 rfl) ?_
          refine lv_dup hx hb dX12_settles_26 rfl ?_
          refine tk_geti hC hK hw hT hinX12 kM_at0 (by decide) rfl 22 (by decide) (List.mem_of_getElem? (i := 1) rfl) rfl rfl dX12_settles_27 (fun x48 c49 rx48 tx48 => ?_)
          refine wk_top f0_0_22 (c49.symm.trans c25) ?_
          refine lv_iconst (v := 1) hx hb dX12_settles_30 (by decide) ?_
          refine lv_isub hx hb dX12_settles_31 ?_
          refine lv_topi (fun x50 ex50 => ?_)
          have ex50 : x50.toInt = f0_0_22.toInt - (1 : Int) := by rw [ex50]; exact wk_sub (show (-2147483648) ≤ f0_0_22.toInt - (1 : Int) by omega) (show f0_0_22.toInt - (1 : Int) ≤ 2147483647 by omega)
          refine tk_puti hC hK hw hT hinX12 tyX12_ok nmX12 kM_at0 (by decide) rfl rfl 22 (by decide) (List.mem_of_getElem? (i := 1) rfl) rfl rfl rfl rfl (show 0 ≤ x50.toInt by omega) (show x50.toInt ≤ 400 by omega) dX12_settles_32 (fun H locs w51 hw hT k53 c52 => ?_)
          have hF := hF.put kM_at0 (k := 22) (by decide) k53
          have c54 := k53.gi (Or.inr (by decide)) c16
          have c55 := k53.gi (Or.inr (by decide)) c19
          have c56 := k53.gi (Or.inr (by decide)) c22
          have c57 := k53.gi (Or.inr (by decide)) c28
          have c58 := k53.gi (Or.inl (tk_ne kM_at9 kM_at0 (by decide))) c36
          refine lv_aload_n hx hb dX12_settles_35 rfl (lv_at hl 0 rfl) ?_
          refine lv_aload_n hx hb dX12_settles_36 rfl (lv_at hl 0 rfl) ?_
          refine tk_getA hC hK hw hT hinX12 kM_at0 (by decide) rfl 21 (by decide) (List.mem_of_getElem? (i := 2) rfl) rfl rfl dX12_settles_37 ?_
          refine lv_aload_n hx hb dX12_settles_40 rfl (lv_at hl 0 rfl) ?_
          refine tk_geti hC hK hw hT hinX12 kM_at0 (by decide) rfl 22 (by decide) (List.mem_of_getElem? (i := 1) rfl) rfl rfl dX12_settles_41 (fun x59 c60 rx59 tx59 => ?_)
          refine wk_top x50 (c60.symm.trans c52) ?_
          refine tk_iald hC hK hw hT kM_at9 rfl rfl (show 0 ≤ x50.toInt by omega) (show x50.toInt < 400 by omega) dX12_settles_44 (fun x61 c62 rx61 tx61 => ?_)
          have c62 : gi w51 9 (1 * f0_0_22.toInt + -1).toNat = x61 := (congrArg (gi w51 9) (congrArg Int.toNat (show 1 * f0_0_22.toInt + -1 = x50.toInt by omega))).trans c62
          refine wk_top x35 (c62.symm.trans c58) ?_
          refine lv_iconst (v := 0) hx hb dX12_settles_45 (by decide) ?_
          obtain rfl : x35 = 11 := wk_eq.mpr (show x35.toInt = 11 by omega)
          refine tk_Vv hC hK hw hT hA hE hSR kM_at0 (by decide) rfl (k_X12_puts_2 l adK adV dC dI cy ad B (by omega) (by omega) qr s1   11 (by decide) (by decide) 0 w51 H.size hT c54 f0_3_1 c57 (show 0 ≤ f0_3_1.toInt by omega) (show f0_3_1.toInt ≤ 400 by omega) (show f0_3_1.toInt ≤ 399 by omega)) (cwV 2 hC.2.2.2.2 gX12_settles_X12_puts rfl rfl rfl (by decide +kernel) ⟨Nat.le_of_ble_eq_true rfl, Nat.le_of_ble_eq_true rfl⟩) rfl hl.1 rfl (Nat.le_of_ble_eq_true rfl) dX12_settles_46 (fun w65 H locs hp64 hw => ?_)
          obtain ⟨hT, k66, hg70⟩ := hp64
          have hF := hF.tr k66 (by decide)
          have c71 := k66.gi kM_at0 (by decide) c54
          have c72 := k66.gi kM_at0 (by decide) c55
          have c73 := k66.gi kM_at0 (by decide) c56
          have c74 := k66.gi kM_at9 rfl c58
          have c75 := k66.gi kM_at0 (by decide) c52
          obtain ⟨⟨x67, c68, rx67, tx67⟩, g69⟩ := hg70
          have ex67 : x67.toInt = (1 : Int) := by rw [show x67 = 1 from c68.symm.trans c71]; decide
          obtain ⟨x76, c77, rx76, tx76⟩ := hT.rda (lo := 0) (hi := 400) (i := 1) kM_at3 rfl rfl (by decide)
          have g69 : x76.toInt = f0_3_1.toInt + 1 := by have q := g69; simp only [c57, c77] at q; omega
          refine lv_aload_n hx hb dX12_settles_49 rfl (lv_at hl 0 rfl) ?_
          refine tk_getA hC hK hw hT hinX12 kM_at0 (by decide) rfl 21 (by decide) (List.mem_of_getElem? (i := 2) rfl) rfl rfl dX12_settles_50 ?_
          refine lv_aload_n hx hb dX12_settles_53 rfl (lv_at hl 0 rfl) ?_
          refine tk_geti hC hK hw hT hinX12 kM_at0 (by decide) rfl 22 (by decide) (List.mem_of_getElem? (i := 1) rfl) rfl rfl dX12_settles_54 (fun x78 c79 rx78 tx78 => ?_)
          refine wk_top x50 (c79.symm.trans c75) ?_
          refine tk_iald hC hK hw hT kM_at9 rfl rfl (show 0 ≤ x50.toInt by omega) (show x50.toInt < 400 by omega) dX12_settles_57 (fun x80 c81 rx80 tx80 => ?_)
          have c81 : gi w65 9 (1 * f0_0_22.toInt + -1).toNat = x80 := (congrArg (gi w65 9) (congrArg Int.toNat (show 1 * f0_0_22.toInt + -1 = x50.toInt by omega))).trans c81
          refine wk_top 11 (c81.symm.trans c74) ?_
          refine lv_bipush (v := 11) hx hb dX12_settles_58 (by decide) ?_
          refine lv_icmp_ne (tgt := 0) hx hb dX12_settles_60 (by decide) (fun c => absurd (by decide) c) (fun _ => ?_)
          refine lv_aload_n hx hb dX12_settles_63 rfl (lv_at hl 0 rfl) ?_
          refine lv_dup hx hb dX12_settles_64 rfl ?_
          refine tk_geti hC hK hw hT hinX12 kM_at0 (by decide) rfl 19 (by decide) (List.mem_of_getElem? (i := 3) rfl) rfl rfl dX12_settles_65 (fun x82 c83 rx82 tx82 => ?_)
          refine wk_top f0_0_19 (c83.symm.trans c73) ?_
          refine lv_iconst (v := 1) hx hb dX12_settles_68 (by decide) ?_
          refine lv_isub hx hb dX12_settles_69 ?_
          refine lv_topi (fun x84 ex84 => ?_)
          have ex84 : x84.toInt = f0_0_19.toInt - (1 : Int) := by rw [ex84]; exact wk_sub (show (-2147483648) ≤ f0_0_19.toInt - (1 : Int) by omega) (show f0_0_19.toInt - (1 : Int) ≤ 2147483647 by omega)
          refine tk_puti hC hK hw hT hinX12 tyX12_ok nmX12 kM_at0 (by decide) rfl rfl 19 (by decide) (List.mem_of_getElem? (i := 3) rfl) rfl rfl rfl rfl (show (-100) ≤ x84.toInt by omega) (show x84.toInt ≤ 10 by omega) dX12_settles_70 (fun H locs w85 hw hT k87 c86 => ?_)
          have hF := hF.put kM_at0 (k := 19) (by decide) k87
          have c88 := k87.gi (Or.inr (by decide)) c71
          have c89 := k87.gi (Or.inr (by decide)) c72
          have c90 := k87.gi (Or.inl (tk_ne kM_at9 kM_at0 (by decide))) c74
          have c91 := k87.gi (Or.inr (by decide)) c75
          have c92 := k87.gi (Or.inr (by decide)) c77
          refine lv_goto (tgt := 0) hx hb dX12_settles_73 (by decide) ?_
          exact ih0 x84 x50 x76 H locs ls w85 (show 0 ≤ f1_.toInt by omega) (show f1_.toInt ≤ 60 by omega) (show (-60) ≤ x84.toInt by omega) (show x84.toInt ≤ 10 by omega) (show 0 ≤ x50.toInt by omega) (show x50.toInt ≤ 390 by omega) (show 0 ≤ x76.toInt by omega) (show x76.toInt ≤ 390 by omega) (show x76.toInt + x50.toInt = f4_.toInt + f3_.toInt by omega) (show x50.toInt ≤ f3_.toInt by omega) (show x50.toInt + f2_.toInt ≤ f3_.toInt + x84.toInt by omega) (show x50.toInt ≤ x84.toInt + f1_.toInt by omega) (show x76.toInt ≤ 390 by omega) (show x50.toInt ≤ 390 by omega) (show -60 ≤ x84.toInt by omega) (show brkN w0 (x50.toInt).toNat = brkN w0 (f3_.toInt).toNat from ((brk_step (by omega) (show f0_0_22.toInt = x50.toInt + 1 by omega) (show ¬ (gi w0 9 (x50.toInt).toNat).toInt = 91 by first | (rw [show (x50.toInt) = 1 * f0_0_22.toInt + -1 by omega, ← hF.gi kM_at9 rfl rfl, c90]; omega) | (rw [show (x50.toInt) = 1 * f0_0_22.toInt + -1 by omega, ← hF.gi kM_at9 rfl rfl, c90]; decide))).trans hcr0_7)) (show (x84.toInt - (-60)).toNat < n0 by omega) hw hT hF c88 c89 c86 c91 c92 (lv_sub hl [0, 1] rfl)
  exact L0 ((f2_.toInt - (-60)).toNat + 1) f2_ f3_ f4_ s.heap locs ls w0 (show 0 ≤ f1_.toInt by omega) (show f1_.toInt ≤ 60 by omega) (show (-60) ≤ f2_.toInt by omega) (show f2_.toInt ≤ 10 by omega) (show 0 ≤ f3_.toInt by omega) (show f3_.toInt ≤ 390 by omega) (show 0 ≤ f4_.toInt by omega) (show f4_.toInt ≤ 390 by omega) (show f4_.toInt + f3_.toInt = f4_.toInt + f3_.toInt by omega) (show f3_.toInt ≤ f3_.toInt by omega) (show f3_.toInt + f2_.toInt ≤ f3_.toInt + f2_.toInt by omega) (show f3_.toInt ≤ f2_.toInt + f1_.toInt by omega) (show f4_.toInt ≤ 390 by omega) (show f3_.toInt ≤ 390 by omega) (show -60 ≤ f2_.toInt by omega) (show brkN w0 (f3_.toInt).toNat = brkN w0 (f3_.toInt).toNat from rfl) (Nat.lt_succ_self _) hw hT hF cf0_ cf1_ cf2_ cf3_ cf4_ (lv_sub hl [0, 1] rfl)
abbrev P_X12_closes_2 (ad : Nat → Nat) (cy : Nat → ClassId) (B : Int) (qr : Nat) (s1 : Int)  (w0 : va_W) : va_W → Prop := fun u => TW ksM ad cy B qr 12 u ∧ FE ksM [(12, 14, 14), (12, 19, 19), (12, 22, 22), (61, 0, 2400), (62, 0, 7)] w0 u ∧ (((∃ y : Int32, gi u 0 1 = y ∧ 0 ≤ y.toInt ∧ y.toInt ≤ 400) ∧ (∃ y : Int32, gi u 0 17 = y ∧ 1 ≤ y.toInt ∧ y.toInt ≤ 1) ∧ (∃ y : Int32, gi u 0 19 = y ∧ (-60) ≤ y.toInt ∧ y.toInt ≤ 10) ∧ (∃ y : Int32, gi u 0 22 = y ∧ 0 ≤ y.toInt ∧ y.toInt ≤ 390) ∧ ((gi u 3 1).toInt + (gi u 0 22).toInt ≤ (gi w0 3 1).toInt + (gi w0 0 22).toInt) ∧ ((gi u 0 22).toInt + (gi w0 0 19).toInt ≤ (gi w0 0 22).toInt + (gi u 0 19).toInt) ∧ ((gi u 0 22).toInt ≤ (gi u 0 19).toInt + (gi w0 0 18).toInt) ∧ ((gi u 0 22).toInt ≤ 390) ∧ ((gi u 3 1).toInt ≤ 390)))
set_option maxHeartbeats 4000000 in
set_option maxRecDepth 100000 in
theorem k_X12_closes_2 (l : Launch) (adK adV : Nat → Nat) (dC : Nat → ClassId) (dI : Nat → Nat → Nat) (cy : Nat → ClassId) (ad : Nat → Nat) (B : Int) (hB0 : 100000 ≤ B) (hB1 : B ≤ 1073741824) (qr : Nat) (s1 : Int)   (w0 : va_W) (sz : Nat) (hT : TW ksM ad cy B qr 12 w0) (cf0_ : gi w0 0 17 = 1) (f1_ : Int32) (cf1_ : gi w0 0 18 = f1_) (rf1_ : 0 ≤ f1_.toInt) (tf1_ : f1_.toInt ≤ 60) (f2_ : Int32) (cf2_ : gi w0 0 19 = f2_) (rf2_ : (-100) ≤ f2_.toInt) (tf2_ : f2_.toInt ≤ 10) (f3_ : Int32) (cf3_ : gi w0 0 22 = f3_) (rf3_ : 0 ≤ f3_.toInt) (tf3_ : f3_.toInt ≤ 400) (f4_ : Int32) (cf4_ : gi w0 3 1 = f4_) (rf4_ : 0 ≤ f4_.toInt) (tf4_ : f4_.toInt ≤ 400) (pr0_ : f4_.toInt + f3_.toInt ≤ 390) (pr1_ : f3_.toInt ≤ f2_.toInt + f1_.toInt) (pr2_ : f4_.toInt ≤ 390) (pr3_ : f3_.toInt ≤ 390) : Met l yX12_closes wsX12_closes ({ frames := 3, cells := 0, slots := 0, locals := 55 }) (va_Pc [.ref (ad 0)] (wpreS adK adV dC dI cy sz w0)) (va_Qv (P_X12_closes_2 ad cy B qr s1  w0) (fun u : va_W => wpost dC dI cy (va_A w0 sz) u) (va_A w0 sz)) 0 0 (va_A w0 sz) := by
  refine Met.ofW (cc := cX12_closes) (maxL := 1) (ret := none) (by decide) rfl ?_
  intro p e s m args below meth c s₁ Bk hml hv
  obtain ⟨rfl, ⟨hsz, hP, hK, hD0⟩, hE, hSR⟩ := hv
  have hx := Bk.exec
  have hb := Bk.bytes
  have hr := Bk.returns
  have hlocks := Bk.notSynchronized
  have hC : CallFix p m c cX12_closes 1 s _ wsX12_closes RX12 := ⟨hx, hb, hml, findClass_of_methodNamed Bk.named, atoms_spec (ws := wsX12_closes) Bk.pre⟩
  subst hsz
  have hD := hD0.self (sz := s.heap.size)
  generalize hAe : va_A w0 s.heap.size = A at hD hE ⊢
  have hA : ∀ q : Nat, s.heap.size ≤ q → A q := fun q h => by rw [← hAe]; exact Or.inr h
  have hw : Wd dC dI A s.heap s.heap [] w0 := ⟨hP, hD, va_S.rf⟩
  have hF : FE ksM [(12, 14, 14), (12, 19, 19), (12, 22, 22), (61, 0, 2400), (62, 0, 7)] w0 w0 := FE.rf
  have hl := lv_entry ([.ref (ad 0)]) (n := 1) (Nat.le_of_ble_eq_true rfl)
  rw [lg_entry_eq]
  generalize (lg_sl ([.ref (ad 0)]) ++ List.replicate (1 - (lg_sl ([.ref (ad 0)])).length) Slot.unset).toArray = ls at hl ⊢
  have hl : lv_has ls 1 [(0, .ref (ad 0))] := hl
  generalize hloc : ([] : List Loc) = locs at hw ⊢
  have hinX12 : ∀ w ∈ u_ws RX12 TX12 42, w ∈ wsX12_closes := fun _ h => List.mem_cons_of_mem _ (List.mem_append_right _ (h))
  have J64 : ∀ (f64_0_1 : Int32) (f64_0_14 : Int32) (f64_0_19 : Int32) (f64_0_22 : Int32) (f64_3_1 : Int32) (H : Heap) (locs : List Loc) (ls : Array Slot) (w1 : va_W), 0 ≤ f64_0_1.toInt → f64_0_1.toInt ≤ 400 → 0 ≤ f64_0_14.toInt → f64_0_14.toInt ≤ 400 → 0 ≤ f1_.toInt → f1_.toInt ≤ 60 → (-60) ≤ f64_0_19.toInt → f64_0_19.toInt ≤ 10 → 0 ≤ f64_0_22.toInt → f64_0_22.toInt ≤ 390 → 0 ≤ f64_3_1.toInt → f64_3_1.toInt ≤ 390 → (f64_3_1.toInt + f64_0_22.toInt ≤ f4_.toInt + f3_.toInt) → (f64_0_22.toInt + f2_.toInt ≤ f3_.toInt + f64_0_19.toInt) → (f64_0_22.toInt ≤ f64_0_19.toInt + f1_.toInt) → (f64_3_1.toInt ≤ 390) → (f64_0_22.toInt ≤ 390) → (-60 ≤ f64_0_19.toInt) → Wd dC dI A s.heap H locs w1 → TW ksM ad cy B qr 12 w1 → FE ksM [(12, 14, 14), (12, 19, 19), (12, 22, 22), (61, 0, 2400), (62, 0, 7)] w0 w1 → gi w1 0 1 = f64_0_1 → gi w1 0 14 = f64_0_14 → gi w1 0 17 = 1 → gi w1 0 18 = f1_ → gi w1 0 19 = f64_0_19 → gi w1 0 22 = f64_0_22 → gi w1 3 1 = f64_3_1 → lv_has ls 1 [(0, .ref (ad 0))] → W p l e ({ frames := 3, cells := 0, slots := 0, locals := 55 }) s m (List.toArray [.ref (ad 0)]) below meth c H locs 0 0 (MQ below (va_Qv (P_X12_closes_2 ad cy B qr s1  w0) (fun u : va_W => wpost dC dI cy A u) A) (List.toArray [.ref (ad 0)]) s 0 0 A) (F0 m 64 ls []) := by
    intro f64_0_1 f64_0_14 f64_0_19 f64_0_22 f64_3_1 H locs ls w1 r2 t3 r5 t6 r9 t10 r12 t13 r15 t16 r18 t19 hcr64_0 hcr64_1 hcr64_2 hcr64_3 hcr64_4 hcr64_5 hw hT hF c4 c7 c8 c11 c14 c17 c20 hl
    exact tk_vret hC hr hlocks hK ⟨hT, hF, ⟨⟨f64_0_1, c4, (show 0 ≤ f64_0_1.toInt by omega), (show f64_0_1.toInt ≤ 400 by omega)⟩, ⟨1, c8, (by decide), (by decide)⟩, ⟨f64_0_19, c14, (show (-60) ≤ f64_0_19.toInt by omega), (show f64_0_19.toInt ≤ 10 by omega)⟩, ⟨f64_0_22, c17, (show 0 ≤ f64_0_22.toInt by omega), (show f64_0_22.toInt ≤ 390 by omega)⟩, (by simp only [cf4_, c20, cf3_, c17]; omega), (by simp only [cf2_, c14, cf3_, c17]; omega), (by simp only [c14, cf1_, c17]; omega), (by simp only [c17]; omega), (by simp only [c20]; omega)⟩⟩ hw dX12_closes_64
  have L5 : ∀ (n5 : Nat) (f5_0_19 : Int32) (f5_0_22 : Int32) (f5_3_1 : Int32) (H : Heap) (locs : List Loc) (ls : Array Slot) (w21 : va_W), 0 ≤ f1_.toInt → f1_.toInt ≤ 60 → (-60) ≤ f5_0_19.toInt → f5_0_19.toInt ≤ 10 → 0 ≤ f5_0_22.toInt → f5_0_22.toInt ≤ 390 → 0 ≤ f5_3_1.toInt → f5_3_1.toInt ≤ 390 → (f5_3_1.toInt + f5_0_22.toInt ≤ f4_.toInt + f3_.toInt) → (f5_0_22.toInt + f2_.toInt ≤ f3_.toInt + f5_0_19.toInt) → (f5_0_22.toInt ≤ f5_0_19.toInt + f1_.toInt) → (f5_3_1.toInt ≤ 390) → (f5_0_22.toInt ≤ 390) → (-60 ≤ f5_0_19.toInt) → (f5_0_22.toInt - 0).toNat < n5 → Wd dC dI A s.heap H locs w21 → TW ksM ad cy B qr 12 w21 → FE ksM [(12, 14, 14), (12, 19, 19), (12, 22, 22), (61, 0, 2400), (62, 0, 7)] w0 w21 → gi w21 0 17 = 1 → gi w21 0 18 = f1_ → gi w21 0 19 = f5_0_19 → gi w21 0 22 = f5_0_22 → gi w21 3 1 = f5_3_1 → lv_has ls 1 [(0, .ref (ad 0))] → W p l e ({ frames := 3, cells := 0, slots := 0, locals := 55 }) s m (List.toArray [.ref (ad 0)]) below meth c H locs 0 0 (MQ below (va_Qv (P_X12_closes_2 ad cy B qr s1  w0) (fun u : va_W => wpost dC dI cy A u) A) (List.toArray [.ref (ad 0)]) s 0 0 A) (F0 m 5 ls []) := by
    intro n5
    induction n5 with
    | zero => intro f5_0_19 f5_0_22 f5_3_1 H locs ls w21 r23 t24 r26 t27 r29 t30 r32 t33 hcr5_0 hcr5_1 hcr5_2 hcr5_3 hcr5_4 hcr5_5 hm5 hw hT hF c22 c25 c28 c31 c34 hl; omega
    | succ n5 ih5 =>
      intro f5_0_19 f5_0_22 f5_3_1 H locs ls w21 r23 t24 r26 t27 r29 t30 r32 t33 hcr5_0 hcr5_1 hcr5_2 hcr5_3 hcr5_4 hcr5_5 hm5 hw hT hF c22 c25 c28 c31 c34 hl
      refine lv_aload_n hx hb dX12_closes_5 rfl (lv_at hl 0 rfl) ?_
      obtain ⟨x35, c36, rx35, tx35⟩ := hT.rdi (lo := 0) (hi := 400) (k := 14) kM_at0 (by decide) rfl
      refine tk_Vi hC hK hw hT hA hE hSR kM_at0 (by decide) rfl (k_X12_see_1 l adK adV dC dI cy ad B (by omega) (by omega) qr s1    w21 H.size hT x35 c36 (show 0 ≤ x35.toInt by omega) (show x35.toInt ≤ 400 by omega)) (cwV 0 hC.2.2.2.2 gX12_closes_X12_see rfl rfl rfl (by decide +kernel) ⟨Nat.le_of_ble_eq_true rfl, Nat.le_of_ble_eq_true rfl⟩) rfl hl.1 rfl (Nat.le_of_ble_eq_true rfl) dX12_closes_6 (fun r37 w39 H locs hp38 hw => ?_)
      obtain ⟨hT, k40, hg57⟩ := hp38
      have hF := hF.tr k40 (by decide)
      have c58 := k40.gi kM_at0 (by decide) c22
      have c59 := k40.gi kM_at0 (by decide) c25
      have c60 := k40.gi kM_at0 (by decide) c28
      have c61 := k40.gi kM_at0 (by decide) c31
      have c62 := k40.gi kM_at3 (by decide) c34
      rcases hg57 with ⟨g41, g42, ⟨x43, c44, rx43, tx43⟩, ⟨x45, c46, rx45, tx45⟩, g47, g48⟩ | ⟨rfl, ⟨x49, c50, rx49, tx49⟩, ⟨x51, c52, rx51, tx51⟩, g53⟩ | ⟨rfl, ⟨x54, c55, rx54, tx54⟩, g56⟩
      · have g47 : (gi w39 1 (x45.toInt).toNat).toInt ≠ 32 := by have q := g47; simp only [c46] at q; omega
        have g48 : (x45.toInt = x35.toInt ∨ (gi w21 1 (x35.toInt).toNat).toInt = 32) := by have q := g48; simp only [c36, c46] at q; omega
        refine lv_bipush (v := 93) hx hb dX12_closes_9 (by decide) ?_
        refine lv_icmp_ne (tgt := 64) hx hb dX12_closes_11 (by decide) (fun c65 => ?_) (fun c65 => ?_)
        · have c65 : ¬ r37.toInt = (93 : Int) := wk_eqF c65
          exact J64 x43 x45 f5_0_19 f5_0_22 f5_3_1 H locs ls w39 (show 0 ≤ x43.toInt by omega) (show x43.toInt ≤ 400 by omega) (show 0 ≤ x45.toInt by omega) (show x45.toInt ≤ 400 by omega) (show 0 ≤ f1_.toInt by omega) (show f1_.toInt ≤ 60 by omega) (show (-60) ≤ f5_0_19.toInt by omega) (show f5_0_19.toInt ≤ 10 by omega) (show 0 ≤ f5_0_22.toInt by omega) (show f5_0_22.toInt ≤ 390 by omega) (show 0 ≤ f5_3_1.toInt by omega) (show f5_3_1.toInt ≤ 390 by omega) (show f5_3_1.toInt + f5_0_22.toInt ≤ f4_.toInt + f3_.toInt by omega) (show f5_0_22.toInt + f2_.toInt ≤ f3_.toInt + f5_0_19.toInt by omega) (show f5_0_22.toInt ≤ f5_0_19.toInt + f1_.toInt by omega) (show f5_3_1.toInt ≤ 390 by omega) (show f5_0_22.toInt ≤ 390 by omega) (show -60 ≤ f5_0_19.toInt by omega)  hw hT hF c44 c46 c58 c59 c60 c61 c62 (lv_sub hl [0] rfl)
        · have c65 : r37.toInt = (93 : Int) := wk_eq.mp c65
          refine lv_aload_n hx hb dX12_closes_14 rfl (lv_at hl 0 rfl) ?_
          refine tk_Vi hC hK hw hT hA hE hSR kM_at0 (by decide) rfl (k_X12_isInside_1 l adK adV dC dI cy ad B (by omega) (by omega) qr s1    w39 H.size hT ) (cwV 0 hC.2.2.2.2 gX12_closes_X12_isInside rfl rfl rfl (by decide +kernel) ⟨Nat.le_of_ble_eq_true rfl, Nat.le_of_ble_eq_true rfl⟩) rfl hl.1 rfl (Nat.le_of_ble_eq_true rfl) dX12_closes_15 (fun r66 w68 H locs hp67 hw => ?_)
          obtain ⟨rfl, hg73⟩ := hp67
          rcases hg73 with rfl | ⟨rfl, ⟨x70, c71, rx70, tx70⟩, hq72⟩
          · refine lv_if_eq (tgt := 64) hx hb dX12_closes_18 (by decide) (fun _ => ?_) (fun c => absurd (by decide) c)
            exact J64 x43 x45 f5_0_19 f5_0_22 f5_3_1 H locs ls w39 (show 0 ≤ x43.toInt by omega) (show x43.toInt ≤ 400 by omega) (show 0 ≤ x45.toInt by omega) (show x45.toInt ≤ 400 by omega) (show 0 ≤ f1_.toInt by omega) (show f1_.toInt ≤ 60 by omega) (show (-60) ≤ f5_0_19.toInt by omega) (show f5_0_19.toInt ≤ 10 by omega) (show 0 ≤ f5_0_22.toInt by omega) (show f5_0_22.toInt ≤ 390 by omega) (show 0 ≤ f5_3_1.toInt by omega) (show f5_3_1.toInt ≤ 390 by omega) (show f5_3_1.toInt + f5_0_22.toInt ≤ f4_.toInt + f3_.toInt by omega) (show f5_0_22.toInt + f2_.toInt ≤ f3_.toInt + f5_0_19.toInt by omega) (show f5_0_22.toInt ≤ f5_0_19.toInt + f1_.toInt by omega) (show f5_3_1.toInt ≤ 390 by omega) (show f5_0_22.toInt ≤ 390 by omega) (show -60 ≤ f5_0_19.toInt by omega)  hw hT hF c44 c46 c58 c59 c60 c61 c62 (lv_sub hl [0] rfl)
          · have ex70 : x70.toInt = f5_0_22.toInt := by rw [← c61.symm.trans c71]
            refine lv_if_eq (tgt := 64) hx hb dX12_closes_18 (by decide) (fun c => absurd c (by decide)) (fun _ => ?_)
            refine lv_aload_n hx hb dX12_closes_21 rfl (lv_at hl 0 rfl) ?_
            refine lv_iconst (v := 1) hx hb dX12_closes_22 (by decide) ?_
            refine tk_Vv hC hK hw hT hA hE hSR kM_at0 (by decide) rfl (k_X12_settles_4 l adK adV dC dI cy ad B (by omega) (by omega) qr s1    w39 H.size hT c58 f1_ c59 (show 0 ≤ f1_.toInt by omega) (show f1_.toInt ≤ 60 by omega) f5_0_19 c60 (show (-100) ≤ f5_0_19.toInt by omega) (show f5_0_19.toInt ≤ 10 by omega) f5_0_22 c61 (show 0 ≤ f5_0_22.toInt by omega) (show f5_0_22.toInt ≤ 400 by omega) f5_3_1 c62 (show 0 ≤ f5_3_1.toInt by omega) (show f5_3_1.toInt ≤ 400 by omega) (show f5_3_1.toInt + f5_0_22.toInt ≤ 390 by omega) (show f5_0_22.toInt ≤ f5_0_19.toInt + f1_.toInt by omega) (show f5_3_1.toInt ≤ 390 by omega) (show f5_0_22.toInt ≤ 390 by omega)) (cwV 1 hC.2.2.2.2 gX12_closes_X12_settles rfl rfl rfl (by decide +kernel) ⟨Nat.le_of_ble_eq_true rfl, Nat.le_of_ble_eq_true rfl⟩) rfl hl.1 rfl (Nat.le_of_ble_eq_true rfl) dX12_closes_23 (fun w76 H locs hp75 hw => ?_)
            obtain ⟨hT, k77, hg91⟩ := hp75
            have hF := hF.tr k77 (by decide)
            have c92 := k77.gi kM_at0 (by decide) c58
            have c93 := k77.gi kM_at0 (by decide) c59
            have c94 := k77.gi kM_at0 (by decide) c44
            have c95 := k77.gi kM_at0 (by decide) c46
            obtain ⟨⟨x78, c79, rx78, tx78⟩, ⟨x80, c81, rx80, tx80⟩, ⟨x82, c83, rx82, tx82⟩, g84, g85, g86, g87, g88, g89, g90⟩ := hg91
            have ex78 : x78.toInt = (1 : Int) := by rw [show x78 = 1 from c79.symm.trans c92]; decide
            obtain ⟨x96, c97, rx96, tx96⟩ := hT.rda (lo := 0) (hi := 400) (i := 1) kM_at3 rfl rfl (by decide)
            have g84 : x96.toInt + x82.toInt = f5_3_1.toInt + f5_0_22.toInt := by have q := g84; simp only [c62, c97, c61, c83] at q; omega
            have g85 : x82.toInt ≤ f5_0_22.toInt := by have q := g85; simp only [c61, c83] at q; omega
            have g86 : x82.toInt + f5_0_19.toInt ≤ f5_0_22.toInt + x80.toInt := by have q := g86; simp only [c60, c81, c61, c83] at q; omega
            have g87 : x82.toInt ≤ x80.toInt + f1_.toInt := by have q := g87; simp only [c81, c59, c83] at q; omega
            have g88 : x82.toInt ≤ 390 := by have q := g88; simp only [c83] at q; omega
            have g89 : x96.toInt ≤ 390 := by have q := g89; simp only [c97] at q; omega
            have g90 : brkN w39 (x82.toInt).toNat = brkN w39 (f5_0_22.toInt).toNat := by have q := g90; simp only [c61, c83] at q; omega
            have hbl := brk_le w39 (x82.toInt).toNat
            have hbi := hq72
            rw [c61] at hbi
            have g98 : 1 ≤ x82.toInt := by omega
            refine lv_aload_n hx hb dX12_closes_26 rfl (lv_at hl 0 rfl) ?_
            refine lv_dup hx hb dX12_closes_27 rfl ?_
            refine tk_geti hC hK hw hT hinX12 kM_at0 (by decide) rfl 22 (by decide) (List.mem_of_getElem? (i := 1) rfl) rfl rfl dX12_closes_28 (fun x99 c100 rx99 tx99 => ?_)
            refine wk_top x82 (c100.symm.trans c83) ?_
            refine lv_iconst (v := 1) hx hb dX12_closes_31 (by decide) ?_
            refine lv_isub hx hb dX12_closes_32 ?_
            refine lv_topi (fun x101 ex101 => ?_)
            have ex101 : x101.toInt = x82.toInt - (1 : Int) := by rw [ex101]; exact wk_sub (show (-2147483648) ≤ x82.toInt - (1 : Int) by omega) (show x82.toInt - (1 : Int) ≤ 2147483647 by omega)
            refine tk_puti hC hK hw hT hinX12 tyX12_ok nmX12 kM_at0 (by decide) rfl rfl 22 (by decide) (List.mem_of_getElem? (i := 1) rfl) rfl rfl rfl rfl (show 0 ≤ x101.toInt by omega) (show x101.toInt ≤ 400 by omega) dX12_closes_33 (fun H locs w102 hw hT k104 c103 => ?_)
            have hF := hF.put kM_at0 (k := 22) (by decide) k104
            have c105 := k104.gi (Or.inr (by decide)) c92
            have c106 := k104.gi (Or.inr (by decide)) c93
            have c107 := k104.gi (Or.inr (by decide)) c94
            have c108 := k104.gi (Or.inr (by decide)) c95
            have c109 := k104.gi (Or.inr (by decide)) c81
            have c110 := k104.gi (Or.inr (by decide)) c97
            refine lv_aload_n hx hb dX12_closes_36 rfl (lv_at hl 0 rfl) ?_
            refine lv_dup hx hb dX12_closes_37 rfl ?_
            refine tk_geti hC hK hw hT hinX12 kM_at0 (by decide) rfl 19 (by decide) (List.mem_of_getElem? (i := 2) rfl) rfl rfl dX12_closes_38 (fun x111 c112 rx111 tx111 => ?_)
            refine wk_top x80 (c112.symm.trans c109) ?_
            refine lv_iconst (v := 1) hx hb dX12_closes_41 (by decide) ?_
            refine lv_isub hx hb dX12_closes_42 ?_
            refine lv_topi (fun x113 ex113 => ?_)
            have ex113 : x113.toInt = x80.toInt - (1 : Int) := by rw [ex113]; exact wk_sub (show (-2147483648) ≤ x80.toInt - (1 : Int) by omega) (show x80.toInt - (1 : Int) ≤ 2147483647 by omega)
            refine tk_puti hC hK hw hT hinX12 tyX12_ok nmX12 kM_at0 (by decide) rfl rfl 19 (by decide) (List.mem_of_getElem? (i := 2) rfl) rfl rfl rfl rfl (show (-100) ≤ x113.toInt by omega) (show x113.toInt ≤ 10 by omega) dX12_closes_43 (fun H locs w114 hw hT k116 c115 => ?_)
            have hF := hF.put kM_at0 (k := 19) (by decide) k116
            have c117 := k116.gi (Or.inr (by decide)) c105
            have c118 := k116.gi (Or.inr (by decide)) c106
            have c119 := k116.gi (Or.inr (by decide)) c107
            have c120 := k116.gi (Or.inr (by decide)) c108
            have c121 := k116.gi (Or.inr (by decide)) c110
            have c122 := k116.gi (Or.inr (by decide)) c103
            refine lv_aload_n hx hb dX12_closes_46 rfl (lv_at hl 0 rfl) ?_
            refine lv_dup hx hb dX12_closes_47 rfl ?_
            refine tk_geti hC hK hw hT hinX12 kM_at0 (by decide) rfl 14 (by decide) (List.mem_of_getElem? (i := 3) rfl) rfl rfl dX12_closes_48 (fun x123 c124 rx123 tx123 => ?_)
            refine wk_top x45 (c124.symm.trans c120) ?_
            refine lv_iconst (v := 1) hx hb dX12_closes_51 (by decide) ?_
            refine lv_iadd hx hb dX12_closes_52 ?_
            refine lv_topi (fun x125 ex125 => ?_)
            have ex125 : x125.toInt = x45.toInt + (1 : Int) := by rw [ex125]; exact wk_add (show (-2147483648) ≤ x45.toInt + (1 : Int) by omega) (show x45.toInt + (1 : Int) ≤ 2147483647 by omega)
            refine tk_puti hC hK hw hT hinX12 tyX12_ok nmX12 kM_at0 (by decide) rfl rfl 14 (by decide) (List.mem_of_getElem? (i := 3) rfl) rfl rfl rfl rfl (show 0 ≤ x125.toInt by omega) (show x125.toInt ≤ 400 by omega) dX12_closes_53 (fun H locs w126 hw hT k128 c127 => ?_)
            have hF := hF.put kM_at0 (k := 14) (by decide) k128
            have c129 := k128.gi (Or.inr (by decide)) c117
            have c130 := k128.gi (Or.inr (by decide)) c118
            have c131 := k128.gi (Or.inr (by decide)) c119
            have c132 := k128.gi (Or.inr (by decide)) c121
            have c133 := k128.gi (Or.inr (by decide)) c122
            have c134 := k128.gi (Or.inr (by decide)) c115
            refine lv_aload_n hx hb dX12_closes_56 rfl (lv_at hl 0 rfl) ?_
            refine lv_iconst (v := 3) hx hb dX12_closes_57 (by decide) ?_
            refine tk_Vv hC hK hw hT hA hE hSR kM_at0 (by decide) rfl (k_X12_settles_5 l adK adV dC dI cy ad B (by omega) (by omega) qr s1    w126 H.size hT c129 f1_ c130 (show 0 ≤ f1_.toInt by omega) (show f1_.toInt ≤ 60 by omega) x113 c134 (show (-100) ≤ x113.toInt by omega) (show x113.toInt ≤ 10 by omega) x101 c133 (show 0 ≤ x101.toInt by omega) (show x101.toInt ≤ 400 by omega) x96 c132 (show 0 ≤ x96.toInt by omega) (show x96.toInt ≤ 400 by omega) (show x96.toInt + x101.toInt ≤ 390 by omega) (show x101.toInt ≤ x113.toInt + f1_.toInt by omega) (show x96.toInt ≤ 390 by omega) (show x101.toInt ≤ 390 by omega)) (cwV 1 hC.2.2.2.2 gX12_closes_X12_settles rfl rfl rfl (by decide +kernel) ⟨Nat.le_of_ble_eq_true rfl, Nat.le_of_ble_eq_true rfl⟩) rfl hl.1 rfl (Nat.le_of_ble_eq_true rfl) dX12_closes_58 (fun w137 H locs hp136 hw => ?_)
            obtain ⟨hT, k138, hg152⟩ := hp136
            have hF := hF.tr k138 (by decide)
            have c153 := k138.gi kM_at0 (by decide) c129
            have c154 := k138.gi kM_at0 (by decide) c130
            have c155 := k138.gi kM_at0 (by decide) c131
            have c156 := k138.gi kM_at0 (by decide) c127
            obtain ⟨⟨x139, c140, rx139, tx139⟩, ⟨x141, c142, rx141, tx141⟩, ⟨x143, c144, rx143, tx143⟩, g145, g146, g147, g148, g149, g150, g151⟩ := hg152
            have ex139 : x139.toInt = (1 : Int) := by rw [show x139 = 1 from c140.symm.trans c153]; decide
            obtain ⟨x157, c158, rx157, tx157⟩ := hT.rda (lo := 0) (hi := 400) (i := 1) kM_at3 rfl rfl (by decide)
            have g145 : x157.toInt + x143.toInt = x96.toInt + x101.toInt := by have q := g145; simp only [c132, c158, c133, c144] at q; omega
            have g146 : x143.toInt ≤ x101.toInt := by have q := g146; simp only [c133, c144] at q; omega
            have g147 : x143.toInt + x113.toInt ≤ x101.toInt + x141.toInt := by have q := g147; simp only [c134, c142, c133, c144] at q; omega
            have g148 : x143.toInt ≤ x141.toInt + f1_.toInt := by have q := g148; simp only [c142, c130, c144] at q; omega
            have g149 : x143.toInt ≤ 390 := by have q := g149; simp only [c144] at q; omega
            have g150 : x157.toInt ≤ 390 := by have q := g150; simp only [c158] at q; omega
            have g151 : brkN w126 (x143.toInt).toNat = brkN w126 (x101.toInt).toNat := by have q := g151; simp only [c133, c144] at q; omega
            refine lv_goto (tgt := 5) hx hb dX12_closes_61 (by decide) ?_
            exact ih5 x141 x143 x157 H locs ls w137 (show 0 ≤ f1_.toInt by omega) (show f1_.toInt ≤ 60 by omega) (show (-60) ≤ x141.toInt by omega) (show x141.toInt ≤ 10 by omega) (show 0 ≤ x143.toInt by omega) (show x143.toInt ≤ 390 by omega) (show 0 ≤ x157.toInt by omega) (show x157.toInt ≤ 390 by omega) (show x157.toInt + x143.toInt ≤ f4_.toInt + f3_.toInt by omega) (show x143.toInt + f2_.toInt ≤ f3_.toInt + x141.toInt by omega) (show x143.toInt ≤ x141.toInt + f1_.toInt by omega) (show x157.toInt ≤ 390 by omega) (show x143.toInt ≤ 390 by omega) (show -60 ≤ x141.toInt by omega) (show (x143.toInt - 0).toNat < n5 by omega) hw hT hF c153 c154 c142 c144 c158 (lv_sub hl [0] rfl)
      · have g53 : (x51.toInt = x35.toInt ∨ (gi w21 1 (x35.toInt).toNat).toInt = 32) := by have q := g53; simp only [c36, c52] at q; omega
        refine lv_bipush (v := 93) hx hb dX12_closes_9 (by decide) ?_
        refine lv_icmp_ne (tgt := 64) hx hb dX12_closes_11 (by decide) (fun _ => ?_) (fun c => absurd c (by decide))
        exact J64 x49 x51 f5_0_19 f5_0_22 f5_3_1 H locs ls w39 (show 0 ≤ x49.toInt by omega) (show x49.toInt ≤ 400 by omega) (show 0 ≤ x51.toInt by omega) (show x51.toInt ≤ 400 by omega) (show 0 ≤ f1_.toInt by omega) (show f1_.toInt ≤ 60 by omega) (show (-60) ≤ f5_0_19.toInt by omega) (show f5_0_19.toInt ≤ 10 by omega) (show 0 ≤ f5_0_22.toInt by omega) (show f5_0_22.toInt ≤ 390 by omega) (show 0 ≤ f5_3_1.toInt by omega) (show f5_3_1.toInt ≤ 390 by omega) (show f5_3_1.toInt + f5_0_22.toInt ≤ f4_.toInt + f3_.toInt by omega) (show f5_0_22.toInt + f2_.toInt ≤ f3_.toInt + f5_0_19.toInt by omega) (show f5_0_22.toInt ≤ f5_0_19.toInt + f1_.toInt by omega) (show f5_3_1.toInt ≤ 390 by omega) (show f5_0_22.toInt ≤ 390 by omega) (show -60 ≤ f5_0_19.toInt by omega)  hw hT hF c50 c52 c58 c59 c60 c61 c62 (lv_sub hl [0] rfl)
      · obtain ⟨x63, c64, rx63, tx63⟩ := hT.rdi (lo := 0) (hi := 400) (k := 14) kM_at0 (by decide) rfl
        have g56 : (x63.toInt = x35.toInt ∨ (gi w21 1 (x35.toInt).toNat).toInt = 32) := by have q := g56; simp only [c36, c64] at q; omega
        refine lv_bipush (v := 93) hx hb dX12_closes_9 (by decide) ?_
        refine lv_icmp_ne (tgt := 64) hx hb dX12_closes_11 (by decide) (fun _ => ?_) (fun c => absurd c (by decide))
        exact J64 x54 x63 f5_0_19 f5_0_22 f5_3_1 H locs ls w39 (show 0 ≤ x54.toInt by omega) (show x54.toInt ≤ 400 by omega) (show 0 ≤ x63.toInt by omega) (show x63.toInt ≤ 400 by omega) (show 0 ≤ f1_.toInt by omega) (show f1_.toInt ≤ 60 by omega) (show (-60) ≤ f5_0_19.toInt by omega) (show f5_0_19.toInt ≤ 10 by omega) (show 0 ≤ f5_0_22.toInt by omega) (show f5_0_22.toInt ≤ 390 by omega) (show 0 ≤ f5_3_1.toInt by omega) (show f5_3_1.toInt ≤ 390 by omega) (show f5_3_1.toInt + f5_0_22.toInt ≤ f4_.toInt + f3_.toInt by omega) (show f5_0_22.toInt + f2_.toInt ≤ f3_.toInt + f5_0_19.toInt by omega) (show f5_0_22.toInt ≤ f5_0_19.toInt + f1_.toInt by omega) (show f5_3_1.toInt ≤ 390 by omega) (show f5_0_22.toInt ≤ 390 by omega) (show -60 ≤ f5_0_19.toInt by omega)  hw hT hF c55 c64 c58 c59 c60 c61 c62 (lv_sub hl [0] rfl)
  refine lv_aload_n hx hb dX12_closes_0 rfl (lv_at hl 0 rfl) ?_
  refine lv_iconst (v := 3) hx hb dX12_closes_1 (by decide) ?_
  refine tk_Vv hC hK hw hT hA hE hSR kM_at0 (by decide) rfl (k_X12_settles_5 l adK adV dC dI cy ad B (by omega) (by omega) qr s1    w0 s.heap.size hT cf0_ f1_ cf1_ (show 0 ≤ f1_.toInt by omega) (show f1_.toInt ≤ 60 by omega) f2_ cf2_ (show (-100) ≤ f2_.toInt by omega) (show f2_.toInt ≤ 10 by omega) f3_ cf3_ (show 0 ≤ f3_.toInt by omega) (show f3_.toInt ≤ 400 by omega) f4_ cf4_ (show 0 ≤ f4_.toInt by omega) (show f4_.toInt ≤ 400 by omega) (show f4_.toInt + f3_.toInt ≤ 390 by omega) (show f3_.toInt ≤ f2_.toInt + f1_.toInt by omega) (show f4_.toInt ≤ 390 by omega) (show f3_.toInt ≤ 390 by omega)) (cwV 1 hC.2.2.2.2 gX12_closes_X12_settles rfl rfl rfl (by decide +kernel) ⟨Nat.le_of_ble_eq_true rfl, Nat.le_of_ble_eq_true rfl⟩) rfl hl.1 rfl (Nat.le_of_ble_eq_true rfl) dX12_closes_2 (fun w161 H locs hp160 hw => ?_)
  obtain ⟨hT, k162, hg176⟩ := hp160
  have hF := hF.tr k162 (by decide)
  have c177 := k162.gi kM_at0 (by decide) cf0_
  have c178 := k162.gi kM_at0 (by decide) cf1_
  obtain ⟨⟨x163, c164, rx163, tx163⟩, ⟨x165, c166, rx165, tx165⟩, ⟨x167, c168, rx167, tx167⟩, g169, g170, g171, g172, g173, g174, g175⟩ := hg176
  have ex163 : x163.toInt = (1 : Int) := by rw [show x163 = 1 from c164.symm.trans c177]; decide
  obtain ⟨x179, c180, rx179, tx179⟩ := hT.rda (lo := 0) (hi := 400) (i := 1) kM_at3 rfl rfl (by decide)
  have g169 : x179.toInt + x167.toInt = f4_.toInt + f3_.toInt := by have q := g169; simp only [cf4_, c180, cf3_, c168] at q; omega
  have g170 : x167.toInt ≤ f3_.toInt := by have q := g170; simp only [cf3_, c168] at q; omega
  have g171 : x167.toInt + f2_.toInt ≤ f3_.toInt + x165.toInt := by have q := g171; simp only [cf2_, c166, cf3_, c168] at q; omega
  have g172 : x167.toInt ≤ x165.toInt + f1_.toInt := by have q := g172; simp only [c166, cf1_, c168] at q; omega
  have g173 : x167.toInt ≤ 390 := by have q := g173; simp only [c168] at q; omega
  have g174 : x179.toInt ≤ 390 := by have q := g174; simp only [c180] at q; omega
  have g175 : brkN w0 (x167.toInt).toNat = brkN w0 (f3_.toInt).toNat := by have q := g175; simp only [cf3_, c168] at q; omega
  exact L5 ((x167.toInt - 0).toNat + 1) x165 x167 x179 H locs ls w161 (show 0 ≤ f1_.toInt by omega) (show f1_.toInt ≤ 60 by omega) (show (-60) ≤ x165.toInt by omega) (show x165.toInt ≤ 10 by omega) (show 0 ≤ x167.toInt by omega) (show x167.toInt ≤ 390 by omega) (show 0 ≤ x179.toInt by omega) (show x179.toInt ≤ 390 by omega) (show x179.toInt + x167.toInt ≤ f4_.toInt + f3_.toInt by omega) (show x167.toInt + f2_.toInt ≤ f3_.toInt + x165.toInt by omega) (show x167.toInt ≤ x165.toInt + f1_.toInt by omega) (show x179.toInt ≤ 390 by omega) (show x167.toInt ≤ 390 by omega) (show -60 ≤ x165.toInt by omega) (Nat.lt_succ_self _) hw hT hF c177 c178 c166 c168 c180 (lv_sub hl [0] rfl)
abbrev P_X12_value_2 (ad : Nat → Nat) (cy : Nat → ClassId) (B : Int) (qr : Nat) (s1 : Int)  (w0 : va_W) : Int32 → va_W → Prop := fun r u => TW ksM ad cy B qr 12 u ∧ FE ksM [(12, 14, 14), (12, 15, 15), (12, 16, 16), (12, 18, 18), (61, 0, 2400), (62, 0, 7)] w0 u ∧ ((r = 0 ∧ (∃ y : Int32, gi u 0 1 = y ∧ 1 ≤ y.toInt ∧ y.toInt ≤ 400) ∧ (∃ y : Int32, gi u 0 15 = y ∧ 1 ≤ y.toInt ∧ y.toInt ≤ 3205) ∧ (∃ y : Int32, gi u 0 17 = y ∧ 1 ≤ y.toInt ∧ y.toInt ≤ 1)) ∨ (r = 0 ∧ (∃ y : Int32, gi u 0 1 = y ∧ 0 ≤ y.toInt ∧ y.toInt ≤ 400) ∧ (∃ y : Int32, gi u 0 15 = y ∧ 1 ≤ y.toInt ∧ y.toInt ≤ 3205) ∧ (∃ y : Int32, gi u 0 17 = y ∧ 1 ≤ y.toInt ∧ y.toInt ≤ 1)) ∨ (r = 1 ∧ (∃ y : Int32, gi u 0 1 = y ∧ 1 ≤ y.toInt ∧ y.toInt ≤ 400) ∧ (∃ y : Int32, gi u 0 17 = y ∧ 1 ≤ y.toInt ∧ y.toInt ≤ 1) ∧ (∃ y : Int32, gi u 0 18 = y ∧ 1 ≤ y.toInt ∧ y.toInt ≤ 60) ∧ ((gi u 3 1).toInt = (gi w0 3 1).toInt + 1) ∧ ((gi u 0 18).toInt = (gi w0 0 18).toInt + 1)) ∨ (r = 1 ∧ (∃ y : Int32, gi u 0 1 = y ∧ 0 ≤ y.toInt ∧ y.toInt ≤ 400) ∧ (∃ y : Int32, gi u 0 17 = y ∧ 1 ≤ y.toInt ∧ y.toInt ≤ 1) ∧ (∃ y : Int32, gi u 0 18 = y ∧ 1 ≤ y.toInt ∧ y.toInt ≤ 60) ∧ ((gi u 3 1).toInt = (gi w0 3 1).toInt + 1) ∧ ((gi u 0 18).toInt = (gi w0 0 18).toInt + 1)))
set_option maxHeartbeats 4000000 in
set_option maxRecDepth 100000 in
theorem k_X12_value_2 (l : Launch) (adK adV : Nat → Nat) (dC : Nat → ClassId) (dI : Nat → Nat → Nat) (cy : Nat → ClassId) (ad : Nat → Nat) (B : Int) (hB0 : 100000 ≤ B) (hB1 : B ≤ 1073741824) (qr : Nat) (s1 : Int)   (w0 : va_W) (sz : Nat) (hT : TW ksM ad cy B qr 12 w0) (cf0_ : gi w0 0 17 = 1) (f1_ : Int32) (cf1_ : gi w0 0 18 = f1_) (rf1_ : 0 ≤ f1_.toInt) (tf1_ : f1_.toInt ≤ 60) (f2_ : Int32) (cf2_ : gi w0 3 1 = f2_) (rf2_ : 0 ≤ f2_.toInt) (tf2_ : f2_.toInt ≤ 400) (pr0_ : f2_.toInt ≤ 399) : Met l yX12_value wsX12_value ({ frames := 4, cells := 0, slots := 0, locals := 78 }) (va_Pc [.ref (ad 0)] (wpreS adK adV dC dI cy sz w0)) (va_Qi (P_X12_value_2 ad cy B qr s1  w0) (fun u : va_W => wpost dC dI cy (va_A w0 sz) u) (va_A w0 sz)) 0 0 (va_A w0 sz) := by
  refine Met.ofW (cc := cX12_value) (maxL := 3) (ret := (some .boolean)) (by decide) rfl ?_
  intro p e s m args below meth c s₁ Bk hml hv
  obtain ⟨rfl, ⟨hsz, hP, hK, hD0⟩, hE, hSR⟩ := hv
  have hx := Bk.exec
  have hb := Bk.bytes
  have hr := Bk.returns
  have hlocks := Bk.notSynchronized
  have hC : CallFix p m c cX12_value 3 s _ wsX12_value RX12 := ⟨hx, hb, hml, findClass_of_methodNamed Bk.named, atoms_spec (ws := wsX12_value) Bk.pre⟩
  subst hsz
  have hD := hD0.self (sz := s.heap.size)
  generalize hAe : va_A w0 s.heap.size = A at hD hE ⊢
  have hA : ∀ q : Nat, s.heap.size ≤ q → A q := fun q h => by rw [← hAe]; exact Or.inr h
  have hw : Wd dC dI A s.heap s.heap [] w0 := ⟨hP, hD, va_S.rf⟩
  have hF : FE ksM [(12, 14, 14), (12, 15, 15), (12, 16, 16), (12, 18, 18), (61, 0, 2400), (62, 0, 7)] w0 w0 := FE.rf
  have hl := lv_entry ([.ref (ad 0)]) (n := 3) (Nat.le_of_ble_eq_true rfl)
  rw [lg_entry_eq]
  generalize (lg_sl ([.ref (ad 0)]) ++ List.replicate (3 - (lg_sl ([.ref (ad 0)])).length) Slot.unset).toArray = ls at hl ⊢
  have hl : lv_has ls 3 [(0, .ref (ad 0))] := hl
  generalize hloc : ([] : List Loc) = locs at hw ⊢
  have hinX12 : ∀ w ∈ u_ws RX12 TX12 42, w ∈ wsX12_value := fun _ h => List.mem_cons_of_mem _ (List.mem_append_right _ (h))
  have J39 : ∀ (v39_1 : Int32) (f39_0_1 : Int32) (f39_0_15 : Int32) (f39_0_18 : Int32) (H : Heap) (locs : List Loc) (ls : Array Slot) (w1 : va_W), 0 ≤ v39_1.toInt → v39_1.toInt ≤ 399 → 1 ≤ f39_0_1.toInt → f39_0_1.toInt ≤ 400 → 1 ≤ f39_0_15.toInt → f39_0_15.toInt ≤ 3205 → 0 ≤ f39_0_18.toInt → f39_0_18.toInt ≤ 60 → 0 ≤ f2_.toInt → f2_.toInt ≤ 399 → Wd dC dI A s.heap H locs w1 → TW ksM ad cy B qr 12 w1 → FE ksM [(12, 14, 14), (12, 15, 15), (12, 16, 16), (12, 18, 18), (61, 0, 2400), (62, 0, 7)] w0 w1 → gi w1 0 1 = f39_0_1 → gi w1 0 15 = f39_0_15 → gi w1 0 17 = 1 → gi w1 0 18 = f39_0_18 → gi w1 3 1 = f2_ → lv_has ls 3 [(0, .ref (ad 0)), (1, .int v39_1)] → W p l e ({ frames := 4, cells := 0, slots := 0, locals := 78 }) s m (List.toArray [.ref (ad 0)]) below meth c H locs 0 0 (MQ below (va_Qi (P_X12_value_2 ad cy B qr s1  w0) (fun u : va_W => wpost dC dI cy A u) A) (List.toArray [.ref (ad 0)]) s 0 0 A) (F0 m 39 ls []) := by
    intro v39_1 f39_0_1 f39_0_15 f39_0_18 H locs ls w1 r2 t3 r4 t5 r7 t8 r11 t12 r14 t15 hw hT hF c6 c9 c10 c13 c16 hl
    refine lv_iconst (v := 0) hx hb dX12_value_39 (by decide) ?_
    exact tk_zret hC hr rfl hlocks hK ⟨hT, hF, (Or.inl ⟨rfl, ⟨f39_0_1, c6, (show 1 ≤ f39_0_1.toInt by omega), (show f39_0_1.toInt ≤ 400 by omega)⟩, ⟨f39_0_15, c9, (show 1 ≤ f39_0_15.toInt by omega), (show f39_0_15.toInt ≤ 3205 by omega)⟩, ⟨1, c10, (by decide), (by decide)⟩⟩)⟩ hw dX12_value_40
  refine lv_aload_n hx hb dX12_value_0 rfl (lv_at hl 0 rfl) ?_
  obtain ⟨x17, c18, rx17, tx17⟩ := hT.rdi (lo := 0) (hi := 400) (k := 14) kM_at0 (by decide) rfl
  refine tk_Vi hC hK hw hT hA hE hSR kM_at0 (by decide) rfl (k_X12_see_1 l adK adV dC dI cy ad B (by omega) (by omega) qr s1    w0 s.heap.size hT x17 c18 (show 0 ≤ x17.toInt by omega) (show x17.toInt ≤ 400 by omega)) (cwV 0 hC.2.2.2.2 gX12_value_X12_see rfl rfl rfl (by decide +kernel) ⟨Nat.le_of_ble_eq_true rfl, Nat.le_of_ble_eq_true rfl⟩) rfl hl.1 rfl (Nat.le_of_ble_eq_true rfl) dX12_value_1 (fun r19 w21 H locs hp20 hw => ?_)
  obtain ⟨hT, k22, hg39⟩ := hp20
  have hF := hF.tr k22 (by decide)
  have c40 := k22.gi kM_at0 (by decide) cf0_
  have c41 := k22.gi kM_at0 (by decide) cf1_
  have c42 := k22.gi kM_at3 (by decide) cf2_
  rcases hg39 with ⟨g23, g24, ⟨x25, c26, rx25, tx25⟩, ⟨x27, c28, rx27, tx27⟩, g29, g30⟩ | ⟨rfl, ⟨x31, c32, rx31, tx31⟩, ⟨x33, c34, rx33, tx33⟩, g35⟩ | ⟨rfl, ⟨x36, c37, rx36, tx36⟩, g38⟩
  · have g29 : (gi w21 1 (x27.toInt).toNat).toInt ≠ 32 := by have q := g29; simp only [c28] at q; omega
    have g30 : (x27.toInt = x17.toInt ∨ (gi w0 1 (x17.toInt).toNat).toInt = 32) := by have q := g30; simp only [c18, c28] at q; omega
    refine lv_pop hx hb dX12_value_4 rfl ?_
    refine lv_aload_n hx hb dX12_value_5 rfl (lv_at hl 0 rfl) ?_
    refine tk_geti hC hK hw hT hinX12 kM_at0 (by decide) rfl 14 (by decide) (List.mem_of_getElem? (i := 1) rfl) rfl rfl dX12_value_6 (fun x45 c46 rx45 tx45 => ?_)
    refine wk_top x27 (c46.symm.trans c28) ?_
    refine lv_istore_n (lv' := [(1, .int x27), (0, .ref (ad 0))]) hx hb dX12_value_9 rfl hl (by decide) rfl (fun ls hl => ?_)
    refine lv_aload_n hx hb dX12_value_10 rfl (lv_at hl 1 rfl) ?_
    refine lv_aload_n hx hb dX12_value_11 rfl (lv_at hl 1 rfl) ?_
    refine tk_geti hC hK hw hT hinX12 kM_at0 (by decide) rfl 14 (by decide) (List.mem_of_getElem? (i := 1) rfl) rfl rfl dX12_value_12 (fun x47 c48 rx47 tx47 => ?_)
    refine wk_top x27 (c48.symm.trans c28) ?_
    refine tk_Vi hC hK hw hT hA hE hSR kM_at0 (by decide) rfl (k_X12_isDigit_1 l adK adV dC dI cy ad B (by omega) (by omega) qr s1   x27 (show 0 ≤ x27.toInt by omega) (show x27.toInt ≤ 399 by omega) w21 H.size hT ) (cwV 1 hC.2.2.2.2 gX12_value_X12_isDigit rfl rfl rfl (by decide +kernel) ⟨Nat.le_of_ble_eq_true rfl, Nat.le_of_ble_eq_true rfl⟩) rfl hl.1 rfl (Nat.le_of_ble_eq_true rfl) dX12_value_15 (fun r49 w51 H locs hp50 hw => ?_)
    obtain ⟨rfl, hg57⟩ := hp50
    rcases hg57 with ⟨rfl, ⟨x53, c54, rx53, tx53⟩⟩ | ⟨rfl, ⟨x55, c56, rx55, tx55⟩⟩
    · have ex53 : x53.toInt = x25.toInt := by rw [← c26.symm.trans c54]
      refine lv_if_eq (tgt := 52) hx hb dX12_value_18 (by decide) (fun _ => ?_) (fun c => absurd (by decide) c)
      refine lv_aload_n hx hb dX12_value_52 rfl (lv_at hl 1 rfl) ?_
      refine tk_Vi hC hK hw hT hA hE hSR kM_at0 (by decide) rfl (k_X12_wordHere_1 l adK adV dC dI cy ad B (by omega) (by omega) qr s1    w21 H.size hT ) (cwV 0 hC.2.2.2.2 gX12_value_X12_wordHere rfl rfl rfl (by decide +kernel) ⟨Nat.le_of_ble_eq_true rfl, Nat.le_of_ble_eq_true rfl⟩) rfl hl.1 rfl (Nat.le_of_ble_eq_true rfl) dX12_value_53 (fun r58 w60 H locs hp59 hw => ?_)
      obtain ⟨hT, k61, hg68⟩ := hp59
      have hF := hF.tr k61 (by decide)
      have c69 := k61.gi kM_at0 (by decide) c40
      have c70 := k61.gi kM_at0 (by decide) c41
      have c71 := k61.gi kM_at3 (by decide) c42
      have c72 := k61.gi kM_at0 (by decide) c26
      rcases hg68 with ⟨g62, g63, ⟨x64, c65, rx64, tx64⟩⟩ | ⟨rfl, ⟨x66, c67, rx66, tx66⟩⟩
      · have ex64 : x64.toInt = x25.toInt := by rw [← c72.symm.trans c65]
        refine lv_istore_n (lv' := [(2, .int r58), (1, .int x27), (0, .ref (ad 0))]) hx hb dX12_value_56 rfl hl (by decide) rfl (fun ls hl => ?_)
        refine lv_iload_n hx hb dX12_value_57 rfl (lv_at hl 0 rfl) ?_
        refine lv_if_ge (tgt := 68) hx hb dX12_value_58 (by decide) (fun _ => ?_) (fun c => (c (wk_le.mpr (show (0 : Int) ≤ r58.toInt by omega))).elim)
        refine lv_aload_n hx hb dX12_value_68 rfl (lv_at hl 2 rfl) ?_
        refine lv_iload_n hx hb dX12_value_69 rfl (lv_at hl 1 rfl) ?_
        refine tk_Vi hC hK hw hT hA hE hSR kM_at0 (by decide) rfl (k_X12_makes_2 l adK adV dC dI cy ad B (by omega) (by omega) qr s1   x27 (show 0 ≤ x27.toInt by omega) (show x27.toInt ≤ 399 by omega) w60 H.size hT f1_ c70 (show 0 ≤ f1_.toInt by omega) (show f1_.toInt ≤ 60 by omega)) (cwV 1 hC.2.2.2.2 gX12_value_X12_makes rfl rfl rfl (by decide +kernel) ⟨Nat.le_of_ble_eq_true rfl, Nat.le_of_ble_eq_true rfl⟩) rfl hl.1 rfl (Nat.le_of_ble_eq_true rfl) dX12_value_70 (fun r73 w75 H locs hp74 hw => ?_)
        obtain ⟨hT, k76, hg84⟩ := hp74
        have hF := hF.tr k76 (by decide)
        have c85 := k76.gi kM_at0 (by decide) c69
        have c86 := k76.gi kM_at3 (by decide) c71
        have c87 := k76.gi kM_at0 (by decide) c72
        rcases hg84 with ⟨rfl, ⟨x77, c78, rx77, tx77⟩, ⟨x79, c80, rx79, tx79⟩⟩ | ⟨rfl, ⟨x81, c82, rx81, tx81⟩, g83⟩
        · refine lv_if_ne (tgt := 78) hx hb dX12_value_73 (by decide) (fun c => absurd (by decide) c) (fun _ => ?_)
          refine lv_iconst (v := 0) hx hb dX12_value_76 (by decide) ?_
          exact tk_zret hC hr rfl hlocks hK ⟨hT, hF, (Or.inl ⟨rfl, ⟨x25, c87, (show 1 ≤ x25.toInt by omega), (show x25.toInt ≤ 400 by omega)⟩, ⟨x77, c78, (show 1 ≤ x77.toInt by omega), (show x77.toInt ≤ 3205 by omega)⟩, ⟨1, c85, (by decide), (by decide)⟩⟩)⟩ hw dX12_value_77
        · have g83 : x81.toInt = f1_.toInt + 1 := by have q := g83; simp only [c70, c82] at q; omega
          refine lv_if_ne (tgt := 78) hx hb dX12_value_73 (by decide) (fun _ => ?_) (fun c => absurd c (by decide))
          refine lv_aload_n hx hb dX12_value_78 rfl (lv_at hl 2 rfl) ?_
          refine tk_Vv hC hK hw hT hA hE hSR kM_at0 (by decide) rfl (k_X12_passWord_1 l adK adV dC dI cy ad B (by omega) (by omega) qr s1    w75 H.size hT ) (cwV 0 hC.2.2.2.2 gX12_value_X12_passWord rfl rfl rfl (by decide +kernel) ⟨Nat.le_of_ble_eq_true rfl, Nat.le_of_ble_eq_true rfl⟩) rfl hl.1 rfl (Nat.le_of_ble_eq_true rfl) dX12_value_79 (fun w90 H locs hp89 hw => ?_)
          obtain ⟨hT, k91, hg98⟩ := hp89
          have hF := hF.tr k91 (by decide)
          have c99 := k91.gi kM_at0 (by decide) c85
          have c100 := k91.gi kM_at3 (by decide) c86
          have c101 := k91.gi kM_at0 (by decide) c87
          have c102 := k91.gi kM_at0 (by decide) c82
          rcases hg98 with ⟨⟨x92, c93, rx92, tx92⟩, ⟨x94, c95, rx94, tx94⟩⟩ | ⟨x96, c97, rx96, tx96⟩
          · have ex92 : x92.toInt = x25.toInt := by rw [← c101.symm.trans c93]
            refine lv_aload_n hx hb dX12_value_82 rfl (lv_at hl 2 rfl) ?_
            refine lv_iconst (v := 1) hx hb dX12_value_83 (by decide) ?_
            refine lv_iload_n hx hb dX12_value_84 rfl (lv_at hl 0 rfl) ?_
            refine tk_Vv hC hK hw hT hA hE hSR kM_at0 (by decide) rfl (k_X12_puts_2 l adK adV dC dI cy ad B (by omega) (by omega) qr s1   1 (by decide) (by decide) r58 w90 H.size hT c99 f2_ c100 (show 0 ≤ f2_.toInt by omega) (show f2_.toInt ≤ 400 by omega) (show f2_.toInt ≤ 399 by omega)) (cwV 2 hC.2.2.2.2 gX12_value_X12_puts rfl rfl rfl (by decide +kernel) ⟨Nat.le_of_ble_eq_true rfl, Nat.le_of_ble_eq_true rfl⟩) rfl hl.1 rfl (Nat.le_of_ble_eq_true rfl) dX12_value_85 (fun w105 H locs hp104 hw => ?_)
            obtain ⟨hT, k106, hg110⟩ := hp104
            have hF := hF.tr k106 (by decide)
            have c111 := k106.gi kM_at0 (by decide) c99
            have c112 := k106.gi kM_at0 (by decide) c101
            have c113 := k106.gi kM_at0 (by decide) c102
            have c114 := k106.gi kM_at0 (by decide) c95
            obtain ⟨⟨x107, c108, rx107, tx107⟩, g109⟩ := hg110
            have ex107 : x107.toInt = (1 : Int) := by rw [show x107 = 1 from c108.symm.trans c111]; decide
            obtain ⟨x115, c116, rx115, tx115⟩ := hT.rda (lo := 0) (hi := 400) (i := 1) kM_at3 rfl rfl (by decide)
            have g109 : x115.toInt = f2_.toInt + 1 := by have q := g109; simp only [c100, c116] at q; omega
            refine lv_iconst (v := 1) hx hb dX12_value_88 (by decide) ?_
            exact tk_zret hC hr rfl hlocks hK ⟨hT, hF, (Or.inr (Or.inr (Or.inl ⟨rfl, ⟨x25, c112, (show 1 ≤ x25.toInt by omega), (show x25.toInt ≤ 400 by omega)⟩, ⟨1, c111, (by decide), (by decide)⟩, ⟨x81, c113, (show 1 ≤ x81.toInt by omega), (show x81.toInt ≤ 60 by omega)⟩, (by simp only [cf2_, c116]; omega), (by simp only [cf1_, c113]; omega)⟩)))⟩ hw dX12_value_89
          · have ex96 : x96.toInt = x25.toInt := by rw [← c101.symm.trans c97]
            refine lv_aload_n hx hb dX12_value_82 rfl (lv_at hl 2 rfl) ?_
            refine lv_iconst (v := 1) hx hb dX12_value_83 (by decide) ?_
            refine lv_iload_n hx hb dX12_value_84 rfl (lv_at hl 0 rfl) ?_
            refine tk_Vv hC hK hw hT hA hE hSR kM_at0 (by decide) rfl (k_X12_puts_2 l adK adV dC dI cy ad B (by omega) (by omega) qr s1   1 (by decide) (by decide) r58 w90 H.size hT c99 f2_ c100 (show 0 ≤ f2_.toInt by omega) (show f2_.toInt ≤ 400 by omega) (show f2_.toInt ≤ 399 by omega)) (cwV 2 hC.2.2.2.2 gX12_value_X12_puts rfl rfl rfl (by decide +kernel) ⟨Nat.le_of_ble_eq_true rfl, Nat.le_of_ble_eq_true rfl⟩) rfl hl.1 rfl (Nat.le_of_ble_eq_true rfl) dX12_value_85 (fun w119 H locs hp118 hw => ?_)
            obtain ⟨hT, k120, hg124⟩ := hp118
            have hF := hF.tr k120 (by decide)
            have c125 := k120.gi kM_at0 (by decide) c99
            have c126 := k120.gi kM_at0 (by decide) c101
            have c127 := k120.gi kM_at0 (by decide) c102
            obtain ⟨⟨x121, c122, rx121, tx121⟩, g123⟩ := hg124
            have ex121 : x121.toInt = (1 : Int) := by rw [show x121 = 1 from c122.symm.trans c125]; decide
            obtain ⟨x128, c129, rx128, tx128⟩ := hT.rda (lo := 0) (hi := 400) (i := 1) kM_at3 rfl rfl (by decide)
            have g123 : x128.toInt = f2_.toInt + 1 := by have q := g123; simp only [c100, c129] at q; omega
            refine lv_iconst (v := 1) hx hb dX12_value_88 (by decide) ?_
            exact tk_zret hC hr rfl hlocks hK ⟨hT, hF, (Or.inr (Or.inr (Or.inl ⟨rfl, ⟨x25, c126, (show 1 ≤ x25.toInt by omega), (show x25.toInt ≤ 400 by omega)⟩, ⟨1, c125, (by decide), (by decide)⟩, ⟨x81, c127, (show 1 ≤ x81.toInt by omega), (show x81.toInt ≤ 60 by omega)⟩, (by simp only [cf2_, c129]; omega), (by simp only [cf1_, c127]; omega)⟩)))⟩ hw dX12_value_89
      · have ex66 : x66.toInt = x25.toInt := by rw [← c72.symm.trans c67]
        refine lv_istore_n (lv' := [(2, .int (-1)), (1, .int x27), (0, .ref (ad 0))]) hx hb dX12_value_56 rfl hl (by decide) rfl (fun ls hl => ?_)
        refine lv_iload_n hx hb dX12_value_57 rfl (lv_at hl 0 rfl) ?_
        refine lv_if_ge (tgt := 68) hx hb dX12_value_58 (by decide) (fun c => absurd c (by decide)) (fun _ => ?_)
        refine lv_aload_n hx hb dX12_value_61 rfl (lv_at hl 2 rfl) ?_
        refine lv_iconst (v := 0) hx hb dX12_value_62 (by decide) ?_
        refine lv_iload_n hx hb dX12_value_63 rfl (lv_at hl 1 rfl) ?_
        refine tk_Vi hC hK hw hT hA hE hSR kM_at0 (by decide) rfl (k_X12_fails_1 l adK adV dC dI cy ad B (by omega) (by omega) qr s1   0 (by decide) (by decide) x27 (show 0 ≤ x27.toInt by omega) (show x27.toInt ≤ 400 by omega) w60 H.size hT ) (cwV 2 hC.2.2.2.2 gX12_value_X12_fails rfl rfl rfl (by decide +kernel) ⟨Nat.le_of_ble_eq_true rfl, Nat.le_of_ble_eq_true rfl⟩) rfl hl.1 rfl (Nat.le_of_ble_eq_true rfl) dX12_value_64 (fun r130 w132 H locs hp131 hw => ?_)
        obtain ⟨hT, k133, hg136⟩ := hp131
        have hF := hF.tr k133 (by decide)
        have c137 := k133.gi kM_at0 (by decide) c69
        have c138 := k133.gi kM_at0 (by decide) c70
        have c139 := k133.gi kM_at3 (by decide) c71
        have c140 := k133.gi kM_at0 (by decide) c72
        obtain ⟨rfl, ⟨x134, c135, rx134, tx134⟩⟩ := hg136
        exact tk_zret hC hr rfl hlocks hK ⟨hT, hF, (Or.inl ⟨rfl, ⟨x25, c140, (show 1 ≤ x25.toInt by omega), (show x25.toInt ≤ 400 by omega)⟩, ⟨x134, c135, (show 1 ≤ x134.toInt by omega), (show x134.toInt ≤ 3205 by omega)⟩, ⟨1, c137, (by decide), (by decide)⟩⟩)⟩ hw dX12_value_67
    · have ex55 : x55.toInt = x25.toInt := by rw [← c26.symm.trans c56]
      refine lv_if_eq (tgt := 52) hx hb dX12_value_18 (by decide) (fun c => absurd c (by decide)) (fun _ => ?_)
      refine lv_aload_n hx hb dX12_value_21 rfl (lv_at hl 1 rfl) ?_
      refine lv_iconst (v := 0) hx hb dX12_value_22 (by decide) ?_
      refine lv_ldc (v := 99999) hx hb hC.2.2.2.1 (hC.2.2.2.2 _ (List.mem_of_getElem? (i := 2) rfl)) dX12_value_23 ?_
      refine tk_Vi hC hK hw hT hA hE hSR kM_at0 (by decide) rfl (k_X12_numberHere_9 l adK adV dC dI cy ad B (by omega) (by omega) qr s1    w21 H.size hT ) (cwV 2 hC.2.2.2.2 gX12_value_X12_numberHere rfl rfl rfl (by decide +kernel) ⟨Nat.le_of_ble_eq_true rfl, Nat.le_of_ble_eq_true rfl⟩) rfl hl.1 rfl (Nat.le_of_ble_eq_true rfl) dX12_value_25 (fun r141 w143 H locs hp142 hw => ?_)
      obtain ⟨hT, k144, hg157⟩ := hp142
      have hF := hF.tr k144 (by decide)
      have c158 := k144.gi kM_at0 (by decide) c40
      have c159 := k144.gi kM_at0 (by decide) c41
      have c160 := k144.gi kM_at3 (by decide) c42
      have c161 := k144.gi kM_at0 (by decide) c26
      rcases hg157 with ⟨rfl, ⟨x145, c146, rx145, tx145⟩, ⟨x147, c148, rx147, tx147⟩⟩ | ⟨rfl, ⟨x149, c150, rx149, tx149⟩, ⟨x151, c152, rx151, tx151⟩⟩ | ⟨rfl, ⟨x153, c154, rx153, tx153⟩, ⟨x155, c156, rx155, tx155⟩⟩
      · have ex145 : x145.toInt = x25.toInt := by rw [← c161.symm.trans c146]
        refine lv_if_eq (tgt := 39) hx hb dX12_value_28 (by decide) (fun _ => ?_) (fun c => absurd (by decide) c)
        exact J39 x27 x25 x147 f1_ H locs ls w143 (show 0 ≤ x27.toInt by omega) (show x27.toInt ≤ 399 by omega) (show 1 ≤ x25.toInt by omega) (show x25.toInt ≤ 400 by omega) (show 1 ≤ x147.toInt by omega) (show x147.toInt ≤ 3205 by omega) (show 0 ≤ f1_.toInt by omega) (show f1_.toInt ≤ 60 by omega) (show 0 ≤ f2_.toInt by omega) (show f2_.toInt ≤ 399 by omega)  hw hT hF c161 c148 c158 c159 c160 (lv_sub hl [1, 0] rfl)
      · have ex149 : x149.toInt = x25.toInt := by rw [← c161.symm.trans c150]
        refine lv_if_eq (tgt := 39) hx hb dX12_value_28 (by decide) (fun _ => ?_) (fun c => absurd (by decide) c)
        exact J39 x27 x25 x151 f1_ H locs ls w143 (show 0 ≤ x27.toInt by omega) (show x27.toInt ≤ 399 by omega) (show 1 ≤ x25.toInt by omega) (show x25.toInt ≤ 400 by omega) (show 1 ≤ x151.toInt by omega) (show x151.toInt ≤ 3205 by omega) (show 0 ≤ f1_.toInt by omega) (show f1_.toInt ≤ 60 by omega) (show 0 ≤ f2_.toInt by omega) (show f2_.toInt ≤ 399 by omega)  hw hT hF c161 c152 c158 c159 c160 (lv_sub hl [1, 0] rfl)
      · have ex153 : x153.toInt = x25.toInt := by rw [← c161.symm.trans c154]
        refine lv_if_eq (tgt := 39) hx hb dX12_value_28 (by decide) (fun c => absurd c (by decide)) (fun _ => ?_)
        refine lv_aload_n hx hb dX12_value_31 rfl (lv_at hl 1 rfl) ?_
        refine lv_iload_n hx hb dX12_value_32 rfl (lv_at hl 0 rfl) ?_
        refine tk_Vi hC hK hw hT hA hE hSR kM_at0 (by decide) rfl (k_X12_makes_2 l adK adV dC dI cy ad B (by omega) (by omega) qr s1   x27 (show 0 ≤ x27.toInt by omega) (show x27.toInt ≤ 399 by omega) w143 H.size hT f1_ c159 (show 0 ≤ f1_.toInt by omega) (show f1_.toInt ≤ 60 by omega)) (cwV 1 hC.2.2.2.2 gX12_value_X12_makes rfl rfl rfl (by decide +kernel) ⟨Nat.le_of_ble_eq_true rfl, Nat.le_of_ble_eq_true rfl⟩) rfl hl.1 rfl (Nat.le_of_ble_eq_true rfl) dX12_value_33 (fun r162 w164 H locs hp163 hw => ?_)
        obtain ⟨hT, k165, hg173⟩ := hp163
        have hF := hF.tr k165 (by decide)
        have c174 := k165.gi kM_at0 (by decide) c158
        have c175 := k165.gi kM_at3 (by decide) c160
        have c176 := k165.gi kM_at0 (by decide) c161
        have c177 := k165.gi kM_at0 (by decide) c156
        rcases hg173 with ⟨rfl, ⟨x166, c167, rx166, tx166⟩, ⟨x168, c169, rx168, tx168⟩⟩ | ⟨rfl, ⟨x170, c171, rx170, tx170⟩, g172⟩
        · refine lv_if_ne (tgt := 41) hx hb dX12_value_36 (by decide) (fun c => absurd (by decide) c) (fun _ => ?_)
          exact J39 x27 x25 x166 x168 H locs ls w164 (show 0 ≤ x27.toInt by omega) (show x27.toInt ≤ 399 by omega) (show 1 ≤ x25.toInt by omega) (show x25.toInt ≤ 400 by omega) (show 1 ≤ x166.toInt by omega) (show x166.toInt ≤ 3205 by omega) (show 0 ≤ x168.toInt by omega) (show x168.toInt ≤ 60 by omega) (show 0 ≤ f2_.toInt by omega) (show f2_.toInt ≤ 399 by omega)  hw hT hF c176 c167 c174 c169 c175 (lv_sub hl [1, 0] rfl)
        · have g172 : x170.toInt = f1_.toInt + 1 := by have q := g172; simp only [c159, c171] at q; omega
          refine lv_if_ne (tgt := 41) hx hb dX12_value_36 (by decide) (fun _ => ?_) (fun c => absurd c (by decide))
          refine lv_aload_n hx hb dX12_value_41 rfl (lv_at hl 1 rfl) ?_
          refine lv_iconst (v := 0) hx hb dX12_value_42 (by decide) ?_
          refine lv_aload_n hx hb dX12_value_43 rfl (lv_at hl 1 rfl) ?_
          refine tk_geti hC hK hw hT hinX12 kM_at0 (by decide) rfl 16 (by decide) (List.mem_of_getElem? (i := 3) rfl) rfl rfl dX12_value_44 (fun x178 c179 rx178 tx178 => ?_)
          refine wk_top x155 (c179.symm.trans c177) ?_
          refine tk_Vv hC hK hw hT hA hE hSR kM_at0 (by decide) rfl (k_X12_puts_2 l adK adV dC dI cy ad B (by omega) (by omega) qr s1   0 (by decide) (by decide) x155 w164 H.size hT c174 f2_ c175 (show 0 ≤ f2_.toInt by omega) (show f2_.toInt ≤ 400 by omega) (show f2_.toInt ≤ 399 by omega)) (cwV 2 hC.2.2.2.2 gX12_value_X12_puts rfl rfl rfl (by decide +kernel) ⟨Nat.le_of_ble_eq_true rfl, Nat.le_of_ble_eq_true rfl⟩) rfl hl.1 rfl (Nat.le_of_ble_eq_true rfl) dX12_value_47 (fun w182 H locs hp181 hw => ?_)
          obtain ⟨hT, k183, hg187⟩ := hp181
          have hF := hF.tr k183 (by decide)
          have c188 := k183.gi kM_at0 (by decide) c174
          have c189 := k183.gi kM_at0 (by decide) c176
          have c190 := k183.gi kM_at0 (by decide) c177
          have c191 := k183.gi kM_at0 (by decide) c171
          obtain ⟨⟨x184, c185, rx184, tx184⟩, g186⟩ := hg187
          have ex184 : x184.toInt = (1 : Int) := by rw [show x184 = 1 from c185.symm.trans c188]; decide
          obtain ⟨x192, c193, rx192, tx192⟩ := hT.rda (lo := 0) (hi := 400) (i := 1) kM_at3 rfl rfl (by decide)
          have g186 : x192.toInt = f2_.toInt + 1 := by have q := g186; simp only [c175, c193] at q; omega
          refine lv_iconst (v := 1) hx hb dX12_value_50 (by decide) ?_
          exact tk_zret hC hr rfl hlocks hK ⟨hT, hF, (Or.inr (Or.inr (Or.inl ⟨rfl, ⟨x25, c189, (show 1 ≤ x25.toInt by omega), (show x25.toInt ≤ 400 by omega)⟩, ⟨1, c188, (by decide), (by decide)⟩, ⟨x170, c191, (show 1 ≤ x170.toInt by omega), (show x170.toInt ≤ 60 by omega)⟩, (by simp only [cf2_, c193]; omega), (by simp only [cf1_, c191]; omega)⟩)))⟩ hw dX12_value_51
  · have g35 : (x33.toInt = x17.toInt ∨ (gi w0 1 (x17.toInt).toNat).toInt = 32) := by have q := g35; simp only [c18, c34] at q; omega
    refine lv_pop hx hb dX12_value_4 rfl ?_
    refine lv_aload_n hx hb dX12_value_5 rfl (lv_at hl 0 rfl) ?_
    refine tk_geti hC hK hw hT hinX12 kM_at0 (by decide) rfl 14 (by decide) (List.mem_of_getElem? (i := 1) rfl) rfl rfl dX12_value_6 (fun x194 c195 rx194 tx194 => ?_)
    refine wk_top x33 (c195.symm.trans c34) ?_
    refine lv_istore_n (lv' := [(1, .int x33), (0, .ref (ad 0))]) hx hb dX12_value_9 rfl hl (by decide) rfl (fun ls hl => ?_)
    refine lv_aload_n hx hb dX12_value_10 rfl (lv_at hl 1 rfl) ?_
    refine lv_aload_n hx hb dX12_value_11 rfl (lv_at hl 1 rfl) ?_
    refine tk_geti hC hK hw hT hinX12 kM_at0 (by decide) rfl 14 (by decide) (List.mem_of_getElem? (i := 1) rfl) rfl rfl dX12_value_12 (fun x196 c197 rx196 tx196 => ?_)
    refine wk_top x33 (c197.symm.trans c34) ?_
    refine tk_Vi hC hK hw hT hA hE hSR kM_at0 (by decide) rfl (k_X12_isDigit_3 l adK adV dC dI cy ad B (by omega) (by omega) qr s1   x33 (show 1 ≤ x33.toInt by omega) (show x33.toInt ≤ 399 by omega) w21 H.size hT ) (cwV 1 hC.2.2.2.2 gX12_value_X12_isDigit rfl rfl rfl (by decide +kernel) ⟨Nat.le_of_ble_eq_true rfl, Nat.le_of_ble_eq_true rfl⟩) rfl hl.1 rfl (Nat.le_of_ble_eq_true rfl) dX12_value_15 (fun r198 w200 H locs hp199 hw => ?_)
    obtain ⟨rfl, hg206⟩ := hp199
    rcases hg206 with ⟨rfl, ⟨x202, c203, rx202, tx202⟩⟩ | ⟨rfl, ⟨x204, c205, rx204, tx204⟩⟩
    · have ex202 : x202.toInt = x31.toInt := by rw [← c32.symm.trans c203]
      refine lv_if_eq (tgt := 52) hx hb dX12_value_18 (by decide) (fun _ => ?_) (fun c => absurd (by decide) c)
      refine lv_aload_n hx hb dX12_value_52 rfl (lv_at hl 1 rfl) ?_
      refine tk_Vi hC hK hw hT hA hE hSR kM_at0 (by decide) rfl (k_X12_wordHere_1 l adK adV dC dI cy ad B (by omega) (by omega) qr s1    w21 H.size hT ) (cwV 0 hC.2.2.2.2 gX12_value_X12_wordHere rfl rfl rfl (by decide +kernel) ⟨Nat.le_of_ble_eq_true rfl, Nat.le_of_ble_eq_true rfl⟩) rfl hl.1 rfl (Nat.le_of_ble_eq_true rfl) dX12_value_53 (fun r207 w209 H locs hp208 hw => ?_)
      obtain ⟨hT, k210, hg217⟩ := hp208
      have hF := hF.tr k210 (by decide)
      have c218 := k210.gi kM_at0 (by decide) c40
      have c219 := k210.gi kM_at0 (by decide) c41
      have c220 := k210.gi kM_at3 (by decide) c42
      have c221 := k210.gi kM_at0 (by decide) c32
      rcases hg217 with ⟨g211, g212, ⟨x213, c214, rx213, tx213⟩⟩ | ⟨rfl, ⟨x215, c216, rx215, tx215⟩⟩
      · have ex213 : x213.toInt = x31.toInt := by rw [← c221.symm.trans c214]
        refine lv_istore_n (lv' := [(2, .int r207), (1, .int x33), (0, .ref (ad 0))]) hx hb dX12_value_56 rfl hl (by decide) rfl (fun ls hl => ?_)
        refine lv_iload_n hx hb dX12_value_57 rfl (lv_at hl 0 rfl) ?_
        refine lv_if_ge (tgt := 68) hx hb dX12_value_58 (by decide) (fun _ => ?_) (fun c => (c (wk_le.mpr (show (0 : Int) ≤ r207.toInt by omega))).elim)
        refine lv_aload_n hx hb dX12_value_68 rfl (lv_at hl 2 rfl) ?_
        refine lv_iload_n hx hb dX12_value_69 rfl (lv_at hl 1 rfl) ?_
        refine tk_Vi hC hK hw hT hA hE hSR kM_at0 (by decide) rfl (k_X12_makes_4 l adK adV dC dI cy ad B (by omega) (by omega) qr s1   x33 (show 1 ≤ x33.toInt by omega) (show x33.toInt ≤ 399 by omega) w209 H.size hT f1_ c219 (show 0 ≤ f1_.toInt by omega) (show f1_.toInt ≤ 60 by omega)) (cwV 1 hC.2.2.2.2 gX12_value_X12_makes rfl rfl rfl (by decide +kernel) ⟨Nat.le_of_ble_eq_true rfl, Nat.le_of_ble_eq_true rfl⟩) rfl hl.1 rfl (Nat.le_of_ble_eq_true rfl) dX12_value_70 (fun r222 w224 H locs hp223 hw => ?_)
        obtain ⟨hT, k225, hg233⟩ := hp223
        have hF := hF.tr k225 (by decide)
        have c234 := k225.gi kM_at0 (by decide) c218
        have c235 := k225.gi kM_at3 (by decide) c220
        have c236 := k225.gi kM_at0 (by decide) c221
        rcases hg233 with ⟨rfl, ⟨x226, c227, rx226, tx226⟩, ⟨x228, c229, rx228, tx228⟩⟩ | ⟨rfl, ⟨x230, c231, rx230, tx230⟩, g232⟩
        · refine lv_if_ne (tgt := 78) hx hb dX12_value_73 (by decide) (fun c => absurd (by decide) c) (fun _ => ?_)
          refine lv_iconst (v := 0) hx hb dX12_value_76 (by decide) ?_
          exact tk_zret hC hr rfl hlocks hK ⟨hT, hF, (Or.inl ⟨rfl, ⟨x31, c236, (show 1 ≤ x31.toInt by omega), (show x31.toInt ≤ 400 by omega)⟩, ⟨x226, c227, (show 1 ≤ x226.toInt by omega), (show x226.toInt ≤ 3205 by omega)⟩, ⟨1, c234, (by decide), (by decide)⟩⟩)⟩ hw dX12_value_77
        · have g232 : x230.toInt = f1_.toInt + 1 := by have q := g232; simp only [c219, c231] at q; omega
          refine lv_if_ne (tgt := 78) hx hb dX12_value_73 (by decide) (fun _ => ?_) (fun c => absurd c (by decide))
          refine lv_aload_n hx hb dX12_value_78 rfl (lv_at hl 2 rfl) ?_
          refine tk_Vv hC hK hw hT hA hE hSR kM_at0 (by decide) rfl (k_X12_passWord_1 l adK adV dC dI cy ad B (by omega) (by omega) qr s1    w224 H.size hT ) (cwV 0 hC.2.2.2.2 gX12_value_X12_passWord rfl rfl rfl (by decide +kernel) ⟨Nat.le_of_ble_eq_true rfl, Nat.le_of_ble_eq_true rfl⟩) rfl hl.1 rfl (Nat.le_of_ble_eq_true rfl) dX12_value_79 (fun w239 H locs hp238 hw => ?_)
          obtain ⟨hT, k240, hg247⟩ := hp238
          have hF := hF.tr k240 (by decide)
          have c248 := k240.gi kM_at0 (by decide) c234
          have c249 := k240.gi kM_at3 (by decide) c235
          have c250 := k240.gi kM_at0 (by decide) c236
          have c251 := k240.gi kM_at0 (by decide) c231
          rcases hg247 with ⟨⟨x241, c242, rx241, tx241⟩, ⟨x243, c244, rx243, tx243⟩⟩ | ⟨x245, c246, rx245, tx245⟩
          · have ex241 : x241.toInt = x31.toInt := by rw [← c250.symm.trans c242]
            refine lv_aload_n hx hb dX12_value_82 rfl (lv_at hl 2 rfl) ?_
            refine lv_iconst (v := 1) hx hb dX12_value_83 (by decide) ?_
            refine lv_iload_n hx hb dX12_value_84 rfl (lv_at hl 0 rfl) ?_
            refine tk_Vv hC hK hw hT hA hE hSR kM_at0 (by decide) rfl (k_X12_puts_2 l adK adV dC dI cy ad B (by omega) (by omega) qr s1   1 (by decide) (by decide) r207 w239 H.size hT c248 f2_ c249 (show 0 ≤ f2_.toInt by omega) (show f2_.toInt ≤ 400 by omega) (show f2_.toInt ≤ 399 by omega)) (cwV 2 hC.2.2.2.2 gX12_value_X12_puts rfl rfl rfl (by decide +kernel) ⟨Nat.le_of_ble_eq_true rfl, Nat.le_of_ble_eq_true rfl⟩) rfl hl.1 rfl (Nat.le_of_ble_eq_true rfl) dX12_value_85 (fun w254 H locs hp253 hw => ?_)
            obtain ⟨hT, k255, hg259⟩ := hp253
            have hF := hF.tr k255 (by decide)
            have c260 := k255.gi kM_at0 (by decide) c248
            have c261 := k255.gi kM_at0 (by decide) c250
            have c262 := k255.gi kM_at0 (by decide) c251
            have c263 := k255.gi kM_at0 (by decide) c244
            obtain ⟨⟨x256, c257, rx256, tx256⟩, g258⟩ := hg259
            have ex256 : x256.toInt = (1 : Int) := by rw [show x256 = 1 from c257.symm.trans c260]; decide
            obtain ⟨x264, c265, rx264, tx264⟩ := hT.rda (lo := 0) (hi := 400) (i := 1) kM_at3 rfl rfl (by decide)
            have g258 : x264.toInt = f2_.toInt + 1 := by have q := g258; simp only [c249, c265] at q; omega
            refine lv_iconst (v := 1) hx hb dX12_value_88 (by decide) ?_
            exact tk_zret hC hr rfl hlocks hK ⟨hT, hF, (Or.inr (Or.inr (Or.inl ⟨rfl, ⟨x31, c261, (show 1 ≤ x31.toInt by omega), (show x31.toInt ≤ 400 by omega)⟩, ⟨1, c260, (by decide), (by decide)⟩, ⟨x230, c262, (show 1 ≤ x230.toInt by omega), (show x230.toInt ≤ 60 by omega)⟩, (by simp only [cf2_, c265]; omega), (by simp only [cf1_, c262]; omega)⟩)))⟩ hw dX12_value_89
          · have ex245 : x245.toInt = x31.toInt := by rw [← c250.symm.trans c246]
            refine lv_aload_n hx hb dX12_value_82 rfl (lv_at hl 2 rfl) ?_
            refine lv_iconst (v := 1) hx hb dX12_value_83 (by decide) ?_
            refine lv_iload_n hx hb dX12_value_84 rfl (lv_at hl 0 rfl) ?_
            refine tk_Vv hC hK hw hT hA hE hSR kM_at0 (by decide) rfl (k_X12_puts_2 l adK adV dC dI cy ad B (by omega) (by omega) qr s1   1 (by decide) (by decide) r207 w239 H.size hT c248 f2_ c249 (show 0 ≤ f2_.toInt by omega) (show f2_.toInt ≤ 400 by omega) (show f2_.toInt ≤ 399 by omega)) (cwV 2 hC.2.2.2.2 gX12_value_X12_puts rfl rfl rfl (by decide +kernel) ⟨Nat.le_of_ble_eq_true rfl, Nat.le_of_ble_eq_true rfl⟩) rfl hl.1 rfl (Nat.le_of_ble_eq_true rfl) dX12_value_85 (fun w268 H locs hp267 hw => ?_)
            obtain ⟨hT, k269, hg273⟩ := hp267
            have hF := hF.tr k269 (by decide)
            have c274 := k269.gi kM_at0 (by decide) c248
            have c275 := k269.gi kM_at0 (by decide) c250
            have c276 := k269.gi kM_at0 (by decide) c251
            obtain ⟨⟨x270, c271, rx270, tx270⟩, g272⟩ := hg273
            have ex270 : x270.toInt = (1 : Int) := by rw [show x270 = 1 from c271.symm.trans c274]; decide
            obtain ⟨x277, c278, rx277, tx277⟩ := hT.rda (lo := 0) (hi := 400) (i := 1) kM_at3 rfl rfl (by decide)
            have g272 : x277.toInt = f2_.toInt + 1 := by have q := g272; simp only [c249, c278] at q; omega
            refine lv_iconst (v := 1) hx hb dX12_value_88 (by decide) ?_
            exact tk_zret hC hr rfl hlocks hK ⟨hT, hF, (Or.inr (Or.inr (Or.inl ⟨rfl, ⟨x31, c275, (show 1 ≤ x31.toInt by omega), (show x31.toInt ≤ 400 by omega)⟩, ⟨1, c274, (by decide), (by decide)⟩, ⟨x230, c276, (show 1 ≤ x230.toInt by omega), (show x230.toInt ≤ 60 by omega)⟩, (by simp only [cf2_, c278]; omega), (by simp only [cf1_, c276]; omega)⟩)))⟩ hw dX12_value_89
      · have ex215 : x215.toInt = x31.toInt := by rw [← c221.symm.trans c216]
        refine lv_istore_n (lv' := [(2, .int (-1)), (1, .int x33), (0, .ref (ad 0))]) hx hb dX12_value_56 rfl hl (by decide) rfl (fun ls hl => ?_)
        refine lv_iload_n hx hb dX12_value_57 rfl (lv_at hl 0 rfl) ?_
        refine lv_if_ge (tgt := 68) hx hb dX12_value_58 (by decide) (fun c => absurd c (by decide)) (fun _ => ?_)
        refine lv_aload_n hx hb dX12_value_61 rfl (lv_at hl 2 rfl) ?_
        refine lv_iconst (v := 0) hx hb dX12_value_62 (by decide) ?_
        refine lv_iload_n hx hb dX12_value_63 rfl (lv_at hl 1 rfl) ?_
        refine tk_Vi hC hK hw hT hA hE hSR kM_at0 (by decide) rfl (k_X12_fails_1 l adK adV dC dI cy ad B (by omega) (by omega) qr s1   0 (by decide) (by decide) x33 (show 0 ≤ x33.toInt by omega) (show x33.toInt ≤ 400 by omega) w209 H.size hT ) (cwV 2 hC.2.2.2.2 gX12_value_X12_fails rfl rfl rfl (by decide +kernel) ⟨Nat.le_of_ble_eq_true rfl, Nat.le_of_ble_eq_true rfl⟩) rfl hl.1 rfl (Nat.le_of_ble_eq_true rfl) dX12_value_64 (fun r279 w281 H locs hp280 hw => ?_)
        obtain ⟨hT, k282, hg285⟩ := hp280
        have hF := hF.tr k282 (by decide)
        have c286 := k282.gi kM_at0 (by decide) c218
        have c287 := k282.gi kM_at0 (by decide) c219
        have c288 := k282.gi kM_at3 (by decide) c220
        have c289 := k282.gi kM_at0 (by decide) c221
        obtain ⟨rfl, ⟨x283, c284, rx283, tx283⟩⟩ := hg285
        exact tk_zret hC hr rfl hlocks hK ⟨hT, hF, (Or.inl ⟨rfl, ⟨x31, c289, (show 1 ≤ x31.toInt by omega), (show x31.toInt ≤ 400 by omega)⟩, ⟨x283, c284, (show 1 ≤ x283.toInt by omega), (show x283.toInt ≤ 3205 by omega)⟩, ⟨1, c286, (by decide), (by decide)⟩⟩)⟩ hw dX12_value_67
    · have ex204 : x204.toInt = x31.toInt := by rw [← c32.symm.trans c205]
      refine lv_if_eq (tgt := 52) hx hb dX12_value_18 (by decide) (fun c => absurd c (by decide)) (fun _ => ?_)
      refine lv_aload_n hx hb dX12_value_21 rfl (lv_at hl 1 rfl) ?_
      refine lv_iconst (v := 0) hx hb dX12_value_22 (by decide) ?_
      refine lv_ldc (v := 99999) hx hb hC.2.2.2.1 (hC.2.2.2.2 _ (List.mem_of_getElem? (i := 2) rfl)) dX12_value_23 ?_
      refine tk_Vi hC hK hw hT hA hE hSR kM_at0 (by decide) rfl (k_X12_numberHere_9 l adK adV dC dI cy ad B (by omega) (by omega) qr s1    w21 H.size hT ) (cwV 2 hC.2.2.2.2 gX12_value_X12_numberHere rfl rfl rfl (by decide +kernel) ⟨Nat.le_of_ble_eq_true rfl, Nat.le_of_ble_eq_true rfl⟩) rfl hl.1 rfl (Nat.le_of_ble_eq_true rfl) dX12_value_25 (fun r290 w292 H locs hp291 hw => ?_)
      obtain ⟨hT, k293, hg306⟩ := hp291
      have hF := hF.tr k293 (by decide)
      have c307 := k293.gi kM_at0 (by decide) c40
      have c308 := k293.gi kM_at0 (by decide) c41
      have c309 := k293.gi kM_at3 (by decide) c42
      have c310 := k293.gi kM_at0 (by decide) c32
      rcases hg306 with ⟨rfl, ⟨x294, c295, rx294, tx294⟩, ⟨x296, c297, rx296, tx296⟩⟩ | ⟨rfl, ⟨x298, c299, rx298, tx298⟩, ⟨x300, c301, rx300, tx300⟩⟩ | ⟨rfl, ⟨x302, c303, rx302, tx302⟩, ⟨x304, c305, rx304, tx304⟩⟩
      · have ex294 : x294.toInt = x31.toInt := by rw [← c310.symm.trans c295]
        refine lv_if_eq (tgt := 39) hx hb dX12_value_28 (by decide) (fun _ => ?_) (fun c => absurd (by decide) c)
        exact J39 x33 x31 x296 f1_ H locs ls w292 (show 0 ≤ x33.toInt by omega) (show x33.toInt ≤ 399 by omega) (show 1 ≤ x31.toInt by omega) (show x31.toInt ≤ 400 by omega) (show 1 ≤ x296.toInt by omega) (show x296.toInt ≤ 3205 by omega) (show 0 ≤ f1_.toInt by omega) (show f1_.toInt ≤ 60 by omega) (show 0 ≤ f2_.toInt by omega) (show f2_.toInt ≤ 399 by omega)  hw hT hF c310 c297 c307 c308 c309 (lv_sub hl [1, 0] rfl)
      · have ex298 : x298.toInt = x31.toInt := by rw [← c310.symm.trans c299]
        refine lv_if_eq (tgt := 39) hx hb dX12_value_28 (by decide) (fun _ => ?_) (fun c => absurd (by decide) c)
        exact J39 x33 x31 x300 f1_ H locs ls w292 (show 0 ≤ x33.toInt by omega) (show x33.toInt ≤ 399 by omega) (show 1 ≤ x31.toInt by omega) (show x31.toInt ≤ 400 by omega) (show 1 ≤ x300.toInt by omega) (show x300.toInt ≤ 3205 by omega) (show 0 ≤ f1_.toInt by omega) (show f1_.toInt ≤ 60 by omega) (show 0 ≤ f2_.toInt by omega) (show f2_.toInt ≤ 399 by omega)  hw hT hF c310 c301 c307 c308 c309 (lv_sub hl [1, 0] rfl)
      · have ex302 : x302.toInt = x31.toInt := by rw [← c310.symm.trans c303]
        refine lv_if_eq (tgt := 39) hx hb dX12_value_28 (by decide) (fun c => absurd c (by decide)) (fun _ => ?_)
        refine lv_aload_n hx hb dX12_value_31 rfl (lv_at hl 1 rfl) ?_
        refine lv_iload_n hx hb dX12_value_32 rfl (lv_at hl 0 rfl) ?_
        refine tk_Vi hC hK hw hT hA hE hSR kM_at0 (by decide) rfl (k_X12_makes_4 l adK adV dC dI cy ad B (by omega) (by omega) qr s1   x33 (show 1 ≤ x33.toInt by omega) (show x33.toInt ≤ 399 by omega) w292 H.size hT f1_ c308 (show 0 ≤ f1_.toInt by omega) (show f1_.toInt ≤ 60 by omega)) (cwV 1 hC.2.2.2.2 gX12_value_X12_makes rfl rfl rfl (by decide +kernel) ⟨Nat.le_of_ble_eq_true rfl, Nat.le_of_ble_eq_true rfl⟩) rfl hl.1 rfl (Nat.le_of_ble_eq_true rfl) dX12_value_33 (fun r311 w313 H locs hp312 hw => ?_)
        obtain ⟨hT, k314, hg322⟩ := hp312
        have hF := hF.tr k314 (by decide)
        have c323 := k314.gi kM_at0 (by decide) c307
        have c324 := k314.gi kM_at3 (by decide) c309
        have c325 := k314.gi kM_at0 (by decide) c310
        have c326 := k314.gi kM_at0 (by decide) c305
        rcases hg322 with ⟨rfl, ⟨x315, c316, rx315, tx315⟩, ⟨x317, c318, rx317, tx317⟩⟩ | ⟨rfl, ⟨x319, c320, rx319, tx319⟩, g321⟩
        · refine lv_if_ne (tgt := 41) hx hb dX12_value_36 (by decide) (fun c => absurd (by decide) c) (fun _ => ?_)
          exact J39 x33 x31 x315 x317 H locs ls w313 (show 0 ≤ x33.toInt by omega) (show x33.toInt ≤ 399 by omega) (show 1 ≤ x31.toInt by omega) (show x31.toInt ≤ 400 by omega) (show 1 ≤ x315.toInt by omega) (show x315.toInt ≤ 3205 by omega) (show 0 ≤ x317.toInt by omega) (show x317.toInt ≤ 60 by omega) (show 0 ≤ f2_.toInt by omega) (show f2_.toInt ≤ 399 by omega)  hw hT hF c325 c316 c323 c318 c324 (lv_sub hl [1, 0] rfl)
        · have g321 : x319.toInt = f1_.toInt + 1 := by have q := g321; simp only [c308, c320] at q; omega
          refine lv_if_ne (tgt := 41) hx hb dX12_value_36 (by decide) (fun _ => ?_) (fun c => absurd c (by decide))
          refine lv_aload_n hx hb dX12_value_41 rfl (lv_at hl 1 rfl) ?_
          refine lv_iconst (v := 0) hx hb dX12_value_42 (by decide) ?_
          refine lv_aload_n hx hb dX12_value_43 rfl (lv_at hl 1 rfl) ?_
          refine tk_geti hC hK hw hT hinX12 kM_at0 (by decide) rfl 16 (by decide) (List.mem_of_getElem? (i := 3) rfl) rfl rfl dX12_value_44 (fun x327 c328 rx327 tx327 => ?_)
          refine wk_top x304 (c328.symm.trans c326) ?_
          refine tk_Vv hC hK hw hT hA hE hSR kM_at0 (by decide) rfl (k_X12_puts_2 l adK adV dC dI cy ad B (by omega) (by omega) qr s1   0 (by decide) (by decide) x304 w313 H.size hT c323 f2_ c324 (show 0 ≤ f2_.toInt by omega) (show f2_.toInt ≤ 400 by omega) (show f2_.toInt ≤ 399 by omega)) (cwV 2 hC.2.2.2.2 gX12_value_X12_puts rfl rfl rfl (by decide +kernel) ⟨Nat.le_of_ble_eq_true rfl, Nat.le_of_ble_eq_true rfl⟩) rfl hl.1 rfl (Nat.le_of_ble_eq_true rfl) dX12_value_47 (fun w331 H locs hp330 hw => ?_)
          obtain ⟨hT, k332, hg336⟩ := hp330
          have hF := hF.tr k332 (by decide)
          have c337 := k332.gi kM_at0 (by decide) c323
          have c338 := k332.gi kM_at0 (by decide) c325
          have c339 := k332.gi kM_at0 (by decide) c326
          have c340 := k332.gi kM_at0 (by decide) c320
          obtain ⟨⟨x333, c334, rx333, tx333⟩, g335⟩ := hg336
          have ex333 : x333.toInt = (1 : Int) := by rw [show x333 = 1 from c334.symm.trans c337]; decide
          obtain ⟨x341, c342, rx341, tx341⟩ := hT.rda (lo := 0) (hi := 400) (i := 1) kM_at3 rfl rfl (by decide)
          have g335 : x341.toInt = f2_.toInt + 1 := by have q := g335; simp only [c324, c342] at q; omega
          refine lv_iconst (v := 1) hx hb dX12_value_50 (by decide) ?_
          exact tk_zret hC hr rfl hlocks hK ⟨hT, hF, (Or.inr (Or.inr (Or.inl ⟨rfl, ⟨x31, c338, (show 1 ≤ x31.toInt by omega), (show x31.toInt ≤ 400 by omega)⟩, ⟨1, c337, (by decide), (by decide)⟩, ⟨x319, c340, (show 1 ≤ x319.toInt by omega), (show x319.toInt ≤ 60 by omega)⟩, (by simp only [cf2_, c342]; omega), (by simp only [cf1_, c340]; omega)⟩)))⟩ hw dX12_value_51
  · obtain ⟨x43, c44, rx43, tx43⟩ := hT.rdi (lo := 0) (hi := 400) (k := 14) kM_at0 (by decide) rfl
    have g38 : (x43.toInt = x17.toInt ∨ (gi w0 1 (x17.toInt).toNat).toInt = 32) := by have q := g38; simp only [c18, c44] at q; omega
    refine lv_pop hx hb dX12_value_4 rfl ?_
    refine lv_aload_n hx hb dX12_value_5 rfl (lv_at hl 0 rfl) ?_
    refine tk_geti hC hK hw hT hinX12 kM_at0 (by decide) rfl 14 (by decide) (List.mem_of_getElem? (i := 1) rfl) rfl rfl dX12_value_6 (fun x343 c344 rx343 tx343 => ?_)
    refine wk_top x43 (c344.symm.trans c44) ?_
    refine lv_istore_n (lv' := [(1, .int x43), (0, .ref (ad 0))]) hx hb dX12_value_9 rfl hl (by decide) rfl (fun ls hl => ?_)
    refine lv_aload_n hx hb dX12_value_10 rfl (lv_at hl 1 rfl) ?_
    refine lv_aload_n hx hb dX12_value_11 rfl (lv_at hl 1 rfl) ?_
    refine tk_geti hC hK hw hT hinX12 kM_at0 (by decide) rfl 14 (by decide) (List.mem_of_getElem? (i := 1) rfl) rfl rfl dX12_value_12 (fun x345 c346 rx345 tx345 => ?_)
    refine wk_top x43 (c346.symm.trans c44) ?_
    refine tk_Vi hC hK hw hT hA hE hSR kM_at0 (by decide) rfl (k_X12_isDigit_2 l adK adV dC dI cy ad B (by omega) (by omega) qr s1   x43 (show 0 ≤ x43.toInt by omega) (show x43.toInt ≤ 400 by omega) w21 H.size hT ) (cwV 1 hC.2.2.2.2 gX12_value_X12_isDigit rfl rfl rfl (by decide +kernel) ⟨Nat.le_of_ble_eq_true rfl, Nat.le_of_ble_eq_true rfl⟩) rfl hl.1 rfl (Nat.le_of_ble_eq_true rfl) dX12_value_15 (fun r347 w349 H locs hp348 hw => ?_)
    obtain ⟨rfl, hg356⟩ := hp348
    rcases hg356 with ⟨rfl, ⟨x351, c352, rx351, tx351⟩⟩ | ⟨rfl, g353, ⟨x354, c355, rx354, tx354⟩⟩
    · have ex351 : x351.toInt = x36.toInt := by rw [← c37.symm.trans c352]
      refine lv_if_eq (tgt := 52) hx hb dX12_value_18 (by decide) (fun _ => ?_) (fun c => absurd (by decide) c)
      refine lv_aload_n hx hb dX12_value_52 rfl (lv_at hl 1 rfl) ?_
      refine tk_Vi hC hK hw hT hA hE hSR kM_at0 (by decide) rfl (k_X12_wordHere_1 l adK adV dC dI cy ad B (by omega) (by omega) qr s1    w21 H.size hT ) (cwV 0 hC.2.2.2.2 gX12_value_X12_wordHere rfl rfl rfl (by decide +kernel) ⟨Nat.le_of_ble_eq_true rfl, Nat.le_of_ble_eq_true rfl⟩) rfl hl.1 rfl (Nat.le_of_ble_eq_true rfl) dX12_value_53 (fun r357 w359 H locs hp358 hw => ?_)
      obtain ⟨hT, k360, hg367⟩ := hp358
      have hF := hF.tr k360 (by decide)
      have c368 := k360.gi kM_at0 (by decide) c40
      have c369 := k360.gi kM_at0 (by decide) c41
      have c370 := k360.gi kM_at3 (by decide) c42
      have c371 := k360.gi kM_at0 (by decide) c37
      rcases hg367 with ⟨g361, g362, ⟨x363, c364, rx363, tx363⟩⟩ | ⟨rfl, ⟨x365, c366, rx365, tx365⟩⟩
      · have ex363 : x363.toInt = x36.toInt := by rw [← c371.symm.trans c364]
        refine lv_istore_n (lv' := [(2, .int r357), (1, .int x43), (0, .ref (ad 0))]) hx hb dX12_value_56 rfl hl (by decide) rfl (fun ls hl => ?_)
        refine lv_iload_n hx hb dX12_value_57 rfl (lv_at hl 0 rfl) ?_
        refine lv_if_ge (tgt := 68) hx hb dX12_value_58 (by decide) (fun _ => ?_) (fun c => (c (wk_le.mpr (show (0 : Int) ≤ r357.toInt by omega))).elim)
        refine lv_aload_n hx hb dX12_value_68 rfl (lv_at hl 2 rfl) ?_
        refine lv_iload_n hx hb dX12_value_69 rfl (lv_at hl 1 rfl) ?_
        refine tk_Vi hC hK hw hT hA hE hSR kM_at0 (by decide) rfl (k_X12_makes_3 l adK adV dC dI cy ad B (by omega) (by omega) qr s1   x43 (show 0 ≤ x43.toInt by omega) (show x43.toInt ≤ 400 by omega) w359 H.size hT f1_ c369 (show 0 ≤ f1_.toInt by omega) (show f1_.toInt ≤ 60 by omega)) (cwV 1 hC.2.2.2.2 gX12_value_X12_makes rfl rfl rfl (by decide +kernel) ⟨Nat.le_of_ble_eq_true rfl, Nat.le_of_ble_eq_true rfl⟩) rfl hl.1 rfl (Nat.le_of_ble_eq_true rfl) dX12_value_70 (fun r372 w374 H locs hp373 hw => ?_)
        obtain ⟨hT, k375, hg383⟩ := hp373
        have hF := hF.tr k375 (by decide)
        have c384 := k375.gi kM_at0 (by decide) c368
        have c385 := k375.gi kM_at3 (by decide) c370
        have c386 := k375.gi kM_at0 (by decide) c371
        rcases hg383 with ⟨rfl, ⟨x376, c377, rx376, tx376⟩, ⟨x378, c379, rx378, tx378⟩⟩ | ⟨rfl, ⟨x380, c381, rx380, tx380⟩, g382⟩
        · refine lv_if_ne (tgt := 78) hx hb dX12_value_73 (by decide) (fun c => absurd (by decide) c) (fun _ => ?_)
          refine lv_iconst (v := 0) hx hb dX12_value_76 (by decide) ?_
          exact tk_zret hC hr rfl hlocks hK ⟨hT, hF, (Or.inr (Or.inl ⟨rfl, ⟨x36, c386, (show 0 ≤ x36.toInt by omega), (show x36.toInt ≤ 400 by omega)⟩, ⟨x376, c377, (show 1 ≤ x376.toInt by omega), (show x376.toInt ≤ 3205 by omega)⟩, ⟨1, c384, (by decide), (by decide)⟩⟩))⟩ hw dX12_value_77
        · have g382 : x380.toInt = f1_.toInt + 1 := by have q := g382; simp only [c369, c381] at q; omega
          refine lv_if_ne (tgt := 78) hx hb dX12_value_73 (by decide) (fun _ => ?_) (fun c => absurd c (by decide))
          refine lv_aload_n hx hb dX12_value_78 rfl (lv_at hl 2 rfl) ?_
          refine tk_Vv hC hK hw hT hA hE hSR kM_at0 (by decide) rfl (k_X12_passWord_1 l adK adV dC dI cy ad B (by omega) (by omega) qr s1    w374 H.size hT ) (cwV 0 hC.2.2.2.2 gX12_value_X12_passWord rfl rfl rfl (by decide +kernel) ⟨Nat.le_of_ble_eq_true rfl, Nat.le_of_ble_eq_true rfl⟩) rfl hl.1 rfl (Nat.le_of_ble_eq_true rfl) dX12_value_79 (fun w389 H locs hp388 hw => ?_)
          obtain ⟨hT, k390, hg397⟩ := hp388
          have hF := hF.tr k390 (by decide)
          have c398 := k390.gi kM_at0 (by decide) c384
          have c399 := k390.gi kM_at3 (by decide) c385
          have c400 := k390.gi kM_at0 (by decide) c386
          have c401 := k390.gi kM_at0 (by decide) c381
          rcases hg397 with ⟨⟨x391, c392, rx391, tx391⟩, ⟨x393, c394, rx393, tx393⟩⟩ | ⟨x395, c396, rx395, tx395⟩
          · have ex391 : x391.toInt = x36.toInt := by rw [← c400.symm.trans c392]
            refine lv_aload_n hx hb dX12_value_82 rfl (lv_at hl 2 rfl) ?_
            refine lv_iconst (v := 1) hx hb dX12_value_83 (by decide) ?_
            refine lv_iload_n hx hb dX12_value_84 rfl (lv_at hl 0 rfl) ?_
            refine tk_Vv hC hK hw hT hA hE hSR kM_at0 (by decide) rfl (k_X12_puts_2 l adK adV dC dI cy ad B (by omega) (by omega) qr s1   1 (by decide) (by decide) r357 w389 H.size hT c398 f2_ c399 (show 0 ≤ f2_.toInt by omega) (show f2_.toInt ≤ 400 by omega) (show f2_.toInt ≤ 399 by omega)) (cwV 2 hC.2.2.2.2 gX12_value_X12_puts rfl rfl rfl (by decide +kernel) ⟨Nat.le_of_ble_eq_true rfl, Nat.le_of_ble_eq_true rfl⟩) rfl hl.1 rfl (Nat.le_of_ble_eq_true rfl) dX12_value_85 (fun w404 H locs hp403 hw => ?_)
            obtain ⟨hT, k405, hg409⟩ := hp403
            have hF := hF.tr k405 (by decide)
            have c410 := k405.gi kM_at0 (by decide) c398
            have c411 := k405.gi kM_at0 (by decide) c400
            have c412 := k405.gi kM_at0 (by decide) c401
            have c413 := k405.gi kM_at0 (by decide) c394
            obtain ⟨⟨x406, c407, rx406, tx406⟩, g408⟩ := hg409
            have ex406 : x406.toInt = (1 : Int) := by rw [show x406 = 1 from c407.symm.trans c410]; decide
            obtain ⟨x414, c415, rx414, tx414⟩ := hT.rda (lo := 0) (hi := 400) (i := 1) kM_at3 rfl rfl (by decide)
            have g408 : x414.toInt = f2_.toInt + 1 := by have q := g408; simp only [c399, c415] at q; omega
            refine lv_iconst (v := 1) hx hb dX12_value_88 (by decide) ?_
            exact tk_zret hC hr rfl hlocks hK ⟨hT, hF, (Or.inr (Or.inr (Or.inl ⟨rfl, ⟨x36, c411, (show 1 ≤ x36.toInt by omega), (show x36.toInt ≤ 400 by omega)⟩, ⟨1, c410, (by decide), (by decide)⟩, ⟨x380, c412, (show 1 ≤ x380.toInt by omega), (show x380.toInt ≤ 60 by omega)⟩, (by simp only [cf2_, c415]; omega), (by simp only [cf1_, c412]; omega)⟩)))⟩ hw dX12_value_89
          · have ex395 : x395.toInt = x36.toInt := by rw [← c400.symm.trans c396]
            refine lv_aload_n hx hb dX12_value_82 rfl (lv_at hl 2 rfl) ?_
            refine lv_iconst (v := 1) hx hb dX12_value_83 (by decide) ?_
            refine lv_iload_n hx hb dX12_value_84 rfl (lv_at hl 0 rfl) ?_
            refine tk_Vv hC hK hw hT hA hE hSR kM_at0 (by decide) rfl (k_X12_puts_2 l adK adV dC dI cy ad B (by omega) (by omega) qr s1   1 (by decide) (by decide) r357 w389 H.size hT c398 f2_ c399 (show 0 ≤ f2_.toInt by omega) (show f2_.toInt ≤ 400 by omega) (show f2_.toInt ≤ 399 by omega)) (cwV 2 hC.2.2.2.2 gX12_value_X12_puts rfl rfl rfl (by decide +kernel) ⟨Nat.le_of_ble_eq_true rfl, Nat.le_of_ble_eq_true rfl⟩) rfl hl.1 rfl (Nat.le_of_ble_eq_true rfl) dX12_value_85 (fun w418 H locs hp417 hw => ?_)
            obtain ⟨hT, k419, hg423⟩ := hp417
            have hF := hF.tr k419 (by decide)
            have c424 := k419.gi kM_at0 (by decide) c398
            have c425 := k419.gi kM_at0 (by decide) c400
            have c426 := k419.gi kM_at0 (by decide) c401
            obtain ⟨⟨x420, c421, rx420, tx420⟩, g422⟩ := hg423
            have ex420 : x420.toInt = (1 : Int) := by rw [show x420 = 1 from c421.symm.trans c424]; decide
            obtain ⟨x427, c428, rx427, tx427⟩ := hT.rda (lo := 0) (hi := 400) (i := 1) kM_at3 rfl rfl (by decide)
            have g422 : x427.toInt = f2_.toInt + 1 := by have q := g422; simp only [c399, c428] at q; omega
            refine lv_iconst (v := 1) hx hb dX12_value_88 (by decide) ?_
            exact tk_zret hC hr rfl hlocks hK ⟨hT, hF, (Or.inr (Or.inr (Or.inr ⟨rfl, ⟨x36, c425, (show 0 ≤ x36.toInt by omega), (show x36.toInt ≤ 400 by omega)⟩, ⟨1, c424, (by decide), (by decide)⟩, ⟨x380, c426, (show 1 ≤ x380.toInt by omega), (show x380.toInt ≤ 60 by omega)⟩, (by simp only [cf2_, c428]; omega), (by simp only [cf1_, c426]; omega)⟩)))⟩ hw dX12_value_89
      · have ex365 : x365.toInt = x36.toInt := by rw [← c371.symm.trans c366]
        refine lv_istore_n (lv' := [(2, .int (-1)), (1, .int x43), (0, .ref (ad 0))]) hx hb dX12_value_56 rfl hl (by decide) rfl (fun ls hl => ?_)
        refine lv_iload_n hx hb dX12_value_57 rfl (lv_at hl 0 rfl) ?_
        refine lv_if_ge (tgt := 68) hx hb dX12_value_58 (by decide) (fun c => absurd c (by decide)) (fun _ => ?_)
        refine lv_aload_n hx hb dX12_value_61 rfl (lv_at hl 2 rfl) ?_
        refine lv_iconst (v := 0) hx hb dX12_value_62 (by decide) ?_
        refine lv_iload_n hx hb dX12_value_63 rfl (lv_at hl 1 rfl) ?_
        refine tk_Vi hC hK hw hT hA hE hSR kM_at0 (by decide) rfl (k_X12_fails_1 l adK adV dC dI cy ad B (by omega) (by omega) qr s1   0 (by decide) (by decide) x43 (show 0 ≤ x43.toInt by omega) (show x43.toInt ≤ 400 by omega) w359 H.size hT ) (cwV 2 hC.2.2.2.2 gX12_value_X12_fails rfl rfl rfl (by decide +kernel) ⟨Nat.le_of_ble_eq_true rfl, Nat.le_of_ble_eq_true rfl⟩) rfl hl.1 rfl (Nat.le_of_ble_eq_true rfl) dX12_value_64 (fun r429 w431 H locs hp430 hw => ?_)
        obtain ⟨hT, k432, hg435⟩ := hp430
        have hF := hF.tr k432 (by decide)
        have c436 := k432.gi kM_at0 (by decide) c368
        have c437 := k432.gi kM_at0 (by decide) c369
        have c438 := k432.gi kM_at3 (by decide) c370
        have c439 := k432.gi kM_at0 (by decide) c371
        obtain ⟨rfl, ⟨x433, c434, rx433, tx433⟩⟩ := hg435
        exact tk_zret hC hr rfl hlocks hK ⟨hT, hF, (Or.inr (Or.inl ⟨rfl, ⟨x36, c439, (show 0 ≤ x36.toInt by omega), (show x36.toInt ≤ 400 by omega)⟩, ⟨x433, c434, (show 1 ≤ x433.toInt by omega), (show x433.toInt ≤ 3205 by omega)⟩, ⟨1, c436, (by decide), (by decide)⟩⟩))⟩ hw dX12_value_67
    · have ex354 : x354.toInt = x36.toInt := by rw [← c37.symm.trans c355]
      refine lv_if_eq (tgt := 52) hx hb dX12_value_18 (by decide) (fun c => absurd c (by decide)) (fun _ => ?_)
      refine lv_aload_n hx hb dX12_value_21 rfl (lv_at hl 1 rfl) ?_
      refine lv_iconst (v := 0) hx hb dX12_value_22 (by decide) ?_
      refine lv_ldc (v := 99999) hx hb hC.2.2.2.1 (hC.2.2.2.2 _ (List.mem_of_getElem? (i := 2) rfl)) dX12_value_23 ?_
      refine tk_Vi hC hK hw hT hA hE hSR kM_at0 (by decide) rfl (k_X12_numberHere_9 l adK adV dC dI cy ad B (by omega) (by omega) qr s1    w21 H.size hT ) (cwV 2 hC.2.2.2.2 gX12_value_X12_numberHere rfl rfl rfl (by decide +kernel) ⟨Nat.le_of_ble_eq_true rfl, Nat.le_of_ble_eq_true rfl⟩) rfl hl.1 rfl (Nat.le_of_ble_eq_true rfl) dX12_value_25 (fun r440 w442 H locs hp441 hw => ?_)
      obtain ⟨hT, k443, hg456⟩ := hp441
      have hF := hF.tr k443 (by decide)
      have c457 := k443.gi kM_at0 (by decide) c40
      have c458 := k443.gi kM_at0 (by decide) c41
      have c459 := k443.gi kM_at3 (by decide) c42
      have c460 := k443.gi kM_at0 (by decide) c37
      rcases hg456 with ⟨rfl, ⟨x444, c445, rx444, tx444⟩, ⟨x446, c447, rx446, tx446⟩⟩ | ⟨rfl, ⟨x448, c449, rx448, tx448⟩, ⟨x450, c451, rx450, tx450⟩⟩ | ⟨rfl, ⟨x452, c453, rx452, tx452⟩, ⟨x454, c455, rx454, tx454⟩⟩
      · have ex444 : x444.toInt = x36.toInt := by rw [← c460.symm.trans c445]
        refine lv_if_eq (tgt := 39) hx hb dX12_value_28 (by decide) (fun _ => ?_) (fun c => absurd (by decide) c)
        exact J39 x43 x36 x446 f1_ H locs ls w442 (show 0 ≤ x43.toInt by omega) (show x43.toInt ≤ 399 by omega) (show 1 ≤ x36.toInt by omega) (show x36.toInt ≤ 400 by omega) (show 1 ≤ x446.toInt by omega) (show x446.toInt ≤ 3205 by omega) (show 0 ≤ f1_.toInt by omega) (show f1_.toInt ≤ 60 by omega) (show 0 ≤ f2_.toInt by omega) (show f2_.toInt ≤ 399 by omega)  hw hT hF c460 c447 c457 c458 c459 (lv_sub hl [1, 0] rfl)
      · have ex448 : x448.toInt = x36.toInt := by rw [← c460.symm.trans c449]
        refine lv_if_eq (tgt := 39) hx hb dX12_value_28 (by decide) (fun _ => ?_) (fun c => absurd (by decide) c)
        exact J39 x43 x36 x450 f1_ H locs ls w442 (show 0 ≤ x43.toInt by omega) (show x43.toInt ≤ 399 by omega) (show 1 ≤ x36.toInt by omega) (show x36.toInt ≤ 400 by omega) (show 1 ≤ x450.toInt by omega) (show x450.toInt ≤ 3205 by omega) (show 0 ≤ f1_.toInt by omega) (show f1_.toInt ≤ 60 by omega) (show 0 ≤ f2_.toInt by omega) (show f2_.toInt ≤ 399 by omega)  hw hT hF c460 c451 c457 c458 c459 (lv_sub hl [1, 0] rfl)
      · have ex452 : x452.toInt = x36.toInt := by rw [← c460.symm.trans c453]
        refine lv_if_eq (tgt := 39) hx hb dX12_value_28 (by decide) (fun c => absurd c (by decide)) (fun _ => ?_)
        refine lv_aload_n hx hb dX12_value_31 rfl (lv_at hl 1 rfl) ?_
        refine lv_iload_n hx hb dX12_value_32 rfl (lv_at hl 0 rfl) ?_
        refine tk_Vi hC hK hw hT hA hE hSR kM_at0 (by decide) rfl (k_X12_makes_2 l adK adV dC dI cy ad B (by omega) (by omega) qr s1   x43 (show 0 ≤ x43.toInt by omega) (show x43.toInt ≤ 399 by omega) w442 H.size hT f1_ c458 (show 0 ≤ f1_.toInt by omega) (show f1_.toInt ≤ 60 by omega)) (cwV 1 hC.2.2.2.2 gX12_value_X12_makes rfl rfl rfl (by decide +kernel) ⟨Nat.le_of_ble_eq_true rfl, Nat.le_of_ble_eq_true rfl⟩) rfl hl.1 rfl (Nat.le_of_ble_eq_true rfl) dX12_value_33 (fun r461 w463 H locs hp462 hw => ?_)
        obtain ⟨hT, k464, hg472⟩ := hp462
        have hF := hF.tr k464 (by decide)
        have c473 := k464.gi kM_at0 (by decide) c457
        have c474 := k464.gi kM_at3 (by decide) c459
        have c475 := k464.gi kM_at0 (by decide) c460
        have c476 := k464.gi kM_at0 (by decide) c455
        rcases hg472 with ⟨rfl, ⟨x465, c466, rx465, tx465⟩, ⟨x467, c468, rx467, tx467⟩⟩ | ⟨rfl, ⟨x469, c470, rx469, tx469⟩, g471⟩
        · refine lv_if_ne (tgt := 41) hx hb dX12_value_36 (by decide) (fun c => absurd (by decide) c) (fun _ => ?_)
          exact J39 x43 x36 x465 x467 H locs ls w463 (show 0 ≤ x43.toInt by omega) (show x43.toInt ≤ 399 by omega) (show 1 ≤ x36.toInt by omega) (show x36.toInt ≤ 400 by omega) (show 1 ≤ x465.toInt by omega) (show x465.toInt ≤ 3205 by omega) (show 0 ≤ x467.toInt by omega) (show x467.toInt ≤ 60 by omega) (show 0 ≤ f2_.toInt by omega) (show f2_.toInt ≤ 399 by omega)  hw hT hF c475 c466 c473 c468 c474 (lv_sub hl [1, 0] rfl)
        · have g471 : x469.toInt = f1_.toInt + 1 := by have q := g471; simp only [c458, c470] at q; omega
          refine lv_if_ne (tgt := 41) hx hb dX12_value_36 (by decide) (fun _ => ?_) (fun c => absurd c (by decide))
          refine lv_aload_n hx hb dX12_value_41 rfl (lv_at hl 1 rfl) ?_
          refine lv_iconst (v := 0) hx hb dX12_value_42 (by decide) ?_
          refine lv_aload_n hx hb dX12_value_43 rfl (lv_at hl 1 rfl) ?_
          refine tk_geti hC hK hw hT hinX12 kM_at0 (by decide) rfl 16 (by decide) (List.mem_of_getElem? (i := 3) rfl) rfl rfl dX12_value_44 (fun x477 c478 rx477 tx477 => ?_)
          refine wk_top x454 (c478.symm.trans c476) ?_
          refine tk_Vv hC hK hw hT hA hE hSR kM_at0 (by decide) rfl (k_X12_puts_2 l adK adV dC dI cy ad B (by omega) (by omega) qr s1   0 (by decide) (by decide) x454 w463 H.size hT c473 f2_ c474 (show 0 ≤ f2_.toInt by omega) (show f2_.toInt ≤ 400 by omega) (show f2_.toInt ≤ 399 by omega)) (cwV 2 hC.2.2.2.2 gX12_value_X12_puts rfl rfl rfl (by decide +kernel) ⟨Nat.le_of_ble_eq_true rfl, Nat.le_of_ble_eq_true rfl⟩) rfl hl.1 rfl (Nat.le_of_ble_eq_true rfl) dX12_value_47 (fun w481 H locs hp480 hw => ?_)
          obtain ⟨hT, k482, hg486⟩ := hp480
          have hF := hF.tr k482 (by decide)
          have c487 := k482.gi kM_at0 (by decide) c473
          have c488 := k482.gi kM_at0 (by decide) c475
          have c489 := k482.gi kM_at0 (by decide) c476
          have c490 := k482.gi kM_at0 (by decide) c470
          obtain ⟨⟨x483, c484, rx483, tx483⟩, g485⟩ := hg486
          have ex483 : x483.toInt = (1 : Int) := by rw [show x483 = 1 from c484.symm.trans c487]; decide
          obtain ⟨x491, c492, rx491, tx491⟩ := hT.rda (lo := 0) (hi := 400) (i := 1) kM_at3 rfl rfl (by decide)
          have g485 : x491.toInt = f2_.toInt + 1 := by have q := g485; simp only [c474, c492] at q; omega
          refine lv_iconst (v := 1) hx hb dX12_value_50 (by decide) ?_
          exact tk_zret hC hr rfl hlocks hK ⟨hT, hF, (Or.inr (Or.inr (Or.inl ⟨rfl, ⟨x36, c488, (show 1 ≤ x36.toInt by omega), (show x36.toInt ≤ 400 by omega)⟩, ⟨1, c487, (by decide), (by decide)⟩, ⟨x469, c490, (show 1 ≤ x469.toInt by omega), (show x469.toInt ≤ 60 by omega)⟩, (by simp only [cf2_, c492]; omega), (by simp only [cf1_, c490]; omega)⟩)))⟩ hw dX12_value_51
abbrev P_X12_term_2 (ad : Nat → Nat) (cy : Nat → ClassId) (B : Int) (qr : Nat) (s1 : Int)  (w0 : va_W) : Int32 → va_W → Prop := fun r u => TW ksM ad cy B qr 12 u ∧ FE ksM [(12, 14, 14), (12, 15, 15), (12, 16, 16), (12, 18, 18), (61, 0, 2400), (62, 0, 7)] w0 u ∧ ((r = 0 ∧ (∃ y : Int32, gi u 0 1 = y ∧ 1 ≤ y.toInt ∧ y.toInt ≤ 400) ∧ (∃ y : Int32, gi u 0 15 = y ∧ 1 ≤ y.toInt ∧ y.toInt ≤ 3205) ∧ (∃ y : Int32, gi u 0 17 = y ∧ 1 ≤ y.toInt ∧ y.toInt ≤ 1)) ∨ (r = 0 ∧ (∃ y : Int32, gi u 0 1 = y ∧ 0 ≤ y.toInt ∧ y.toInt ≤ 400) ∧ (∃ y : Int32, gi u 0 15 = y ∧ 1 ≤ y.toInt ∧ y.toInt ≤ 3205) ∧ (∃ y : Int32, gi u 0 17 = y ∧ 1 ≤ y.toInt ∧ y.toInt ≤ 1)) ∨ (r = 1 ∧ (∃ y : Int32, gi u 0 1 = y ∧ 1 ≤ y.toInt ∧ y.toInt ≤ 400) ∧ (∃ y : Int32, gi u 0 17 = y ∧ 1 ≤ y.toInt ∧ y.toInt ≤ 1) ∧ (∃ y : Int32, gi u 0 18 = y ∧ 1 ≤ y.toInt ∧ y.toInt ≤ 60) ∧ (3 * (gi u 3 1).toInt + 11 ≤ 3 * (gi w0 3 1).toInt + 14 * ((gi u 0 18).toInt - (gi w0 0 18).toInt)) ∧ ((gi w0 0 18).toInt + 1 ≤ (gi u 0 18).toInt)) ∨ (r = 1 ∧ (∃ y : Int32, gi u 0 1 = y ∧ 0 ≤ y.toInt ∧ y.toInt ≤ 400) ∧ (∃ y : Int32, gi u 0 17 = y ∧ 1 ≤ y.toInt ∧ y.toInt ≤ 1) ∧ (∃ y : Int32, gi u 0 18 = y ∧ 1 ≤ y.toInt ∧ y.toInt ≤ 60) ∧ (3 * (gi u 3 1).toInt + 11 ≤ 3 * (gi w0 3 1).toInt + 14 * ((gi u 0 18).toInt - (gi w0 0 18).toInt)) ∧ ((gi w0 0 18).toInt + 1 ≤ (gi u 0 18).toInt)))
set_option maxHeartbeats 4000000 in
set_option maxRecDepth 100000 in
theorem k_X12_term_2 (l : Launch) (adK adV : Nat → Nat) (dC : Nat → ClassId) (dI : Nat → Nat → Nat) (cy : Nat → ClassId) (ad : Nat → Nat) (B : Int) (hB0 : 100000 ≤ B) (hB1 : B ≤ 1073741824) (qr : Nat) (s1 : Int)   (w0 : va_W) (sz : Nat) (hT : TW ksM ad cy B qr 12 w0) (cf0_ : gi w0 0 17 = 1) (f1_ : Int32) (cf1_ : gi w0 0 18 = f1_) (rf1_ : 0 ≤ f1_.toInt) (tf1_ : f1_.toInt ≤ 60) (f2_ : Int32) (cf2_ : gi w0 3 1 = f2_) (rf2_ : 0 ≤ f2_.toInt) (tf2_ : f2_.toInt ≤ 400) (pr0_ : 3 * f2_.toInt ≤ 14 * f1_.toInt + 60) (pr1_ : f2_.toInt ≤ 300) : Met l yX12_term wsX12_term ({ frames := 5, cells := 0, slots := 0, locals := 100 }) (va_Pc [.ref (ad 0)] (wpreS adK adV dC dI cy sz w0)) (va_Qi (P_X12_term_2 ad cy B qr s1  w0) (fun u : va_W => wpost dC dI cy (va_A w0 sz) u) (va_A w0 sz)) 0 0 (va_A w0 sz) := by
  refine Met.ofW (cc := cX12_term) (maxL := 2) (ret := (some .boolean)) (by decide) rfl ?_
  intro p e s m args below meth c s₁ Bk hml hv
  obtain ⟨rfl, ⟨hsz, hP, hK, hD0⟩, hE, hSR⟩ := hv
  have hx := Bk.exec
  have hb := Bk.bytes
  have hr := Bk.returns
  have hlocks := Bk.notSynchronized
  have hC : CallFix p m c cX12_term 2 s _ wsX12_term RX12 := ⟨hx, hb, hml, findClass_of_methodNamed Bk.named, atoms_spec (ws := wsX12_term) Bk.pre⟩
  subst hsz
  have hD := hD0.self (sz := s.heap.size)
  generalize hAe : va_A w0 s.heap.size = A at hD hE ⊢
  have hA : ∀ q : Nat, s.heap.size ≤ q → A q := fun q h => by rw [← hAe]; exact Or.inr h
  have hw : Wd dC dI A s.heap s.heap [] w0 := ⟨hP, hD, va_S.rf⟩
  have hF : FE ksM [(12, 14, 14), (12, 15, 15), (12, 16, 16), (12, 18, 18), (61, 0, 2400), (62, 0, 7)] w0 w0 := FE.rf
  have hl := lv_entry ([.ref (ad 0)]) (n := 2) (Nat.le_of_ble_eq_true rfl)
  rw [lg_entry_eq]
  generalize (lg_sl ([.ref (ad 0)]) ++ List.replicate (2 - (lg_sl ([.ref (ad 0)])).length) Slot.unset).toArray = ls at hl ⊢
  have hl : lv_has ls 2 [(0, .ref (ad 0))] := hl
  generalize hloc : ([] : List Loc) = locs at hw ⊢
  have hinX12 : ∀ w ∈ u_ws RX12 TX12 42, w ∈ wsX12_term := fun _ h => List.mem_cons_of_mem _ (List.mem_append_right _ (h))
  have L9 : ∀ (n9 : Nat) (f9_0_1 : Int32) (f9_0_18 : Int32) (f9_3_1 : Int32) (H : Heap) (locs : List Loc) (ls : Array Slot) (w1 : va_W), 0 ≤ f9_0_1.toInt → f9_0_1.toInt ≤ 400 → 1 ≤ f9_0_18.toInt → f9_0_18.toInt ≤ 60 → 0 ≤ f9_3_1.toInt → f9_3_1.toInt ≤ 300 → (3 * f9_3_1.toInt + 11 ≤ 3 * f2_.toInt + 14 * (f9_0_18.toInt - f1_.toInt)) → (f1_.toInt + 1 ≤ f9_0_18.toInt) → (f9_3_1.toInt ≤ 300) → (60 - f9_0_18.toInt).toNat < n9 → Wd dC dI A s.heap H locs w1 → TW ksM ad cy B qr 12 w1 → FE ksM [(12, 14, 14), (12, 15, 15), (12, 16, 16), (12, 18, 18), (61, 0, 2400), (62, 0, 7)] w0 w1 → gi w1 0 1 = f9_0_1 → gi w1 0 17 = 1 → gi w1 0 18 = f9_0_18 → gi w1 3 1 = f9_3_1 → lv_has ls 2 [(0, .ref (ad 0))] → W p l e ({ frames := 5, cells := 0, slots := 0, locals := 100 }) s m (List.toArray [.ref (ad 0)]) below meth c H locs 0 0 (MQ below (va_Qi (P_X12_term_2 ad cy B qr s1  w0) (fun u : va_W => wpost dC dI cy A u) A) (List.toArray [.ref (ad 0)]) s 0 0 A) (F0 m 9 ls []) := by
    intro n9
    induction n9 with
    | zero => intro f9_0_1 f9_0_18 f9_3_1 H locs ls w1 r2 t3 r6 t7 r9 t10 hcr9_0 hcr9_1 hcr9_2 hm9 hw hT hF c4 c5 c8 c11 hl; omega
    | succ n9 ih9 =>
      intro f9_0_1 f9_0_18 f9_3_1 H locs ls w1 r2 t3 r6 t7 r9 t10 hcr9_0 hcr9_1 hcr9_2 hm9 hw hT hF c4 c5 c8 c11 hl
      have J27 : ∀ (f27_0_14 : Int32) (H : Heap) (locs : List Loc) (ls : Array Slot) (w12 : va_W), 1 ≤ f9_0_1.toInt → f9_0_1.toInt ≤ 400 → 0 ≤ f27_0_14.toInt → f27_0_14.toInt ≤ 399 → 1 ≤ f9_0_18.toInt → f9_0_18.toInt ≤ 60 → 0 ≤ f9_3_1.toInt → f9_3_1.toInt ≤ 300 → (3 * f9_3_1.toInt + 11 ≤ 3 * f2_.toInt + 14 * (f9_0_18.toInt - f1_.toInt)) → (f1_.toInt + 1 ≤ f9_0_18.toInt) → (f9_3_1.toInt ≤ 300) → Wd dC dI A s.heap H locs w12 → TW ksM ad cy B qr 12 w12 → FE ksM [(12, 14, 14), (12, 15, 15), (12, 16, 16), (12, 18, 18), (61, 0, 2400), (62, 0, 7)] w0 w12 → gi w12 0 1 = f9_0_1 → gi w12 0 14 = f27_0_14 → gi w12 0 17 = 1 → gi w12 0 18 = f9_0_18 → gi w12 3 1 = f9_3_1 → lv_has ls 2 [(0, .ref (ad 0))] → W p l e ({ frames := 5, cells := 0, slots := 0, locals := 100 }) s m (List.toArray [.ref (ad 0)]) below meth c H locs 0 0 (MQ below (va_Qi (P_X12_term_2 ad cy B qr s1  w0) (fun u : va_W => wpost dC dI cy A u) A) (List.toArray [.ref (ad 0)]) s 0 0 A) (F0 m 27 ls []) := by
        intro f27_0_14 H locs ls w12 r13 t14 r16 t17 r20 t21 r23 t24 hcr27_0 hcr27_1 hcr27_2 hw hT hF c15 c18 c19 c22 c25 hl
        refine lv_aload_n hx hb dX12_term_27 rfl (lv_at hl 0 rfl) ?_
        refine tk_getA hC hK hw hT hinX12 kM_at0 (by decide) rfl 0 (by decide) (List.mem_of_getElem? (i := 1) rfl) rfl rfl dX12_term_28 ?_
        refine lv_aload_n hx hb dX12_term_31 rfl (lv_at hl 0 rfl) ?_
        refine tk_geti hC hK hw hT hinX12 kM_at0 (by decide) rfl 14 (by decide) (List.mem_of_getElem? (i := 2) rfl) rfl rfl dX12_term_32 (fun x26 c27 rx26 tx26 => ?_)
        refine wk_top f27_0_14 (c27.symm.trans c18) ?_
        refine tk_bald hC hK hw hT kM_at1 rfl rfl (show 0 ≤ f27_0_14.toInt by omega) (show f27_0_14.toInt < 400 by omega) dX12_term_35 (fun x28 c29 rx28 tx28 => ?_)
        have c29 : gi w12 1 (f27_0_14.toInt).toNat = x28 := (congrArg (gi w12 1) (congrArg Int.toNat (show f27_0_14.toInt = f27_0_14.toInt by omega))).trans c29
        refine lv_bipush (v := 42) hx hb dX12_term_36 (by decide) ?_
        refine lv_icmp_ne (tgt := 45) hx hb dX12_term_38 (by decide) (fun c30 => ?_) (fun c30 => ?_)
        · have c30 : ¬ x28.toInt = (42 : Int) := wk_eqF c30
          refine lv_iconst (v := 5) hx hb dX12_term_45 (by decide) ?_
          refine lv_istore_n (lv' := [(1, .int 5), (0, .ref (ad 0))]) hx hb dX12_term_46 rfl hl (by decide) rfl (fun ls hl => ?_)
          refine lv_aload_n hx hb dX12_term_47 rfl (lv_at hl 1 rfl) ?_
          refine lv_dup hx hb dX12_term_48 rfl ?_
          refine tk_geti hC hK hw hT hinX12 kM_at0 (by decide) rfl 14 (by decide) (List.mem_of_getElem? (i := 2) rfl) rfl rfl dX12_term_49 (fun x31 c32 rx31 tx31 => ?_)
          refine wk_top f27_0_14 (c32.symm.trans c18) ?_
          refine lv_iconst (v := 1) hx hb dX12_term_52 (by decide) ?_
          refine lv_iadd hx hb dX12_term_53 ?_
          refine lv_topi (fun x33 ex33 => ?_)
          have ex33 : x33.toInt = f27_0_14.toInt + (1 : Int) := by rw [ex33]; exact wk_add (show (-2147483648) ≤ f27_0_14.toInt + (1 : Int) by omega) (show f27_0_14.toInt + (1 : Int) ≤ 2147483647 by omega)
          refine tk_puti hC hK hw hT hinX12 tyX12_ok nmX12 kM_at0 (by decide) rfl rfl 14 (by decide) (List.mem_of_getElem? (i := 2) rfl) rfl rfl rfl rfl (show 0 ≤ x33.toInt by omega) (show x33.toInt ≤ 400 by omega) dX12_term_54 (fun H locs w34 hw hT k36 c35 => ?_)
          have hF := hF.put kM_at0 (k := 14) (by decide) k36
          have c37 := k36.gi (Or.inr (by decide)) c15
          have c38 := k36.gi (Or.inr (by decide)) c19
          have c39 := k36.gi (Or.inr (by decide)) c22
          have c40 := k36.gi (Or.inr (by decide)) c25
          have c41 := k36.gi (Or.inl (tk_ne kM_at1 kM_at0 (by decide))) c29
          refine lv_aload_n hx hb dX12_term_57 rfl (lv_at hl 1 rfl) ?_
          refine tk_Vi hC hK hw hT hA hE hSR kM_at0 (by decide) rfl (k_X12_value_2 l adK adV dC dI cy ad B (by omega) (by omega) qr s1    w34 H.size hT c38 f9_0_18 c39 (show 0 ≤ f9_0_18.toInt by omega) (show f9_0_18.toInt ≤ 60 by omega) f9_3_1 c40 (show 0 ≤ f9_3_1.toInt by omega) (show f9_3_1.toInt ≤ 400 by omega) (show f9_3_1.toInt ≤ 399 by omega)) (cwV 0 hC.2.2.2.2 gX12_term_X12_value rfl rfl rfl (by decide +kernel) ⟨Nat.le_of_ble_eq_true rfl, Nat.le_of_ble_eq_true rfl⟩) rfl hl.1 rfl (Nat.le_of_ble_eq_true rfl) dX12_term_58 (fun r42 w44 H locs hp43 hw => ?_)
          obtain ⟨hT, k45, hg74⟩ := hp43
          have hF := hF.tr k45 (by decide)
          have c75 := k45.gi kM_at0 (by decide) c37
          have c76 := k45.gi kM_at0 (by decide) c38
          have c77 := k45.gi kM_at1 rfl c41
          rcases hg74 with ⟨rfl, ⟨x46, c47, rx46, tx46⟩, ⟨x48, c49, rx48, tx48⟩, ⟨x50, c51, rx50, tx50⟩⟩ | ⟨rfl, ⟨x52, c53, rx52, tx52⟩, ⟨x54, c55, rx54, tx54⟩, ⟨x56, c57, rx56, tx56⟩⟩ | ⟨rfl, ⟨x58, c59, rx58, tx58⟩, ⟨x60, c61, rx60, tx60⟩, ⟨x62, c63, rx62, tx62⟩, g64, g65⟩ | ⟨rfl, ⟨x66, c67, rx66, tx66⟩, ⟨x68, c69, rx68, tx68⟩, ⟨x70, c71, rx70, tx70⟩, g72, g73⟩
          · have ex46 : x46.toInt = f9_0_1.toInt := by rw [← c75.symm.trans c47]
            have ex50 : x50.toInt = (1 : Int) := by rw [show x50 = 1 from c51.symm.trans c76]; decide
            obtain ⟨x78, c79, rx78, tx78⟩ := hT.rda (lo := 0) (hi := 400) (i := 1) kM_at3 rfl rfl (by decide)
            obtain ⟨x80, c81, rx80, tx80⟩ := hT.rdi (lo := 0) (hi := 60) (k := 18) kM_at0 (by decide) rfl
            refine lv_if_ne (tgt := 66) hx hb dX12_term_61 (by decide) (fun c => absurd (by decide) c) (fun _ => ?_)
            refine lv_iconst (v := 0) hx hb dX12_term_64 (by decide) ?_
            exact tk_zret hC hr rfl hlocks hK ⟨hT, hF, (Or.inl ⟨rfl, ⟨f9_0_1, c75, (show 1 ≤ f9_0_1.toInt by omega), (show f9_0_1.toInt ≤ 400 by omega)⟩, ⟨x48, c49, (show 1 ≤ x48.toInt by omega), (show x48.toInt ≤ 3205 by omega)⟩, ⟨1, c76, (by decide), (by decide)⟩⟩)⟩ hw dX12_term_65
          · have ex52 : x52.toInt = f9_0_1.toInt := by rw [← c75.symm.trans c53]
            have ex56 : x56.toInt = (1 : Int) := by rw [show x56 = 1 from c57.symm.trans c76]; decide
            obtain ⟨x82, c83, rx82, tx82⟩ := hT.rda (lo := 0) (hi := 400) (i := 1) kM_at3 rfl rfl (by decide)
            obtain ⟨x84, c85, rx84, tx84⟩ := hT.rdi (lo := 0) (hi := 60) (k := 18) kM_at0 (by decide) rfl
            refine lv_if_ne (tgt := 66) hx hb dX12_term_61 (by decide) (fun c => absurd (by decide) c) (fun _ => ?_)
            refine lv_iconst (v := 0) hx hb dX12_term_64 (by decide) ?_
            exact tk_zret hC hr rfl hlocks hK ⟨hT, hF, (Or.inl ⟨rfl, ⟨f9_0_1, c75, (show 1 ≤ f9_0_1.toInt by omega), (show f9_0_1.toInt ≤ 400 by omega)⟩, ⟨x54, c55, (show 1 ≤ x54.toInt by omega), (show x54.toInt ≤ 3205 by omega)⟩, ⟨1, c76, (by decide), (by decide)⟩⟩)⟩ hw dX12_term_65
          · have ex58 : x58.toInt = f9_0_1.toInt := by rw [← c75.symm.trans c59]
            have ex60 : x60.toInt = (1 : Int) := by rw [show x60 = 1 from c61.symm.trans c76]; decide
            obtain ⟨x86, c87, rx86, tx86⟩ := hT.rda (lo := 0) (hi := 400) (i := 1) kM_at3 rfl rfl (by decide)
            have g64 : x86.toInt = f9_3_1.toInt + 1 := by have q := g64; simp only [c40, c87] at q; omega
            have g65 : x62.toInt = f9_0_18.toInt + 1 := by have q := g65; simp only [c39, c63] at q; omega
            refine lv_if_ne (tgt := 66) hx hb dX12_term_61 (by decide) (fun _ => ?_) (fun c => absurd c (by decide))
            refine lv_aload_n hx hb dX12_term_66 rfl (lv_at hl 1 rfl) ?_
            refine lv_iload_n hx hb dX12_term_67 rfl (lv_at hl 0 rfl) ?_
            refine lv_iconst (v := 0) hx hb dX12_term_68 (by decide) ?_
            refine tk_Vv hC hK hw hT hA hE hSR kM_at0 (by decide) rfl (k_X12_puts_2 l adK adV dC dI cy ad B (by omega) (by omega) qr s1   5 (by decide) (by decide) 0 w44 H.size hT c76 x86 c87 (show 0 ≤ x86.toInt by omega) (show x86.toInt ≤ 400 by omega) (show x86.toInt ≤ 399 by omega)) (cwV 2 hC.2.2.2.2 gX12_term_X12_puts rfl rfl rfl (by decide +kernel) ⟨Nat.le_of_ble_eq_true rfl, Nat.le_of_ble_eq_true rfl⟩) rfl hl.1 rfl (Nat.le_of_ble_eq_true rfl) dX12_term_69 (fun w92 H locs hp91 hw => ?_)
            obtain ⟨hT, k93, hg97⟩ := hp91
            have hF := hF.tr k93 (by decide)
            have c98 := k93.gi kM_at0 (by decide) c75
            have c99 := k93.gi kM_at0 (by decide) c76
            have c100 := k93.gi kM_at1 rfl c77
            have c101 := k93.gi kM_at0 (by decide) c63
            obtain ⟨⟨x94, c95, rx94, tx94⟩, g96⟩ := hg97
            have ex94 : x94.toInt = (1 : Int) := by rw [show x94 = 1 from c95.symm.trans c99]; decide
            obtain ⟨x102, c103, rx102, tx102⟩ := hT.rda (lo := 0) (hi := 400) (i := 1) kM_at3 rfl rfl (by decide)
            have g96 : x102.toInt = x86.toInt + 1 := by have q := g96; simp only [c87, c103] at q; omega
            refine lv_goto (tgt := 9) hx hb dX12_term_72 (by decide) ?_
            exact ih9 f9_0_1 x62 x102 H locs ls w92 (show 0 ≤ f9_0_1.toInt by omega) (show f9_0_1.toInt ≤ 400 by omega) (show 1 ≤ x62.toInt by omega) (show x62.toInt ≤ 60 by omega) (show 0 ≤ x102.toInt by omega) (show x102.toInt ≤ 300 by omega) (show 3 * x102.toInt + 11 ≤ 3 * f2_.toInt + 14 * (x62.toInt - f1_.toInt) by omega) (show f1_.toInt + 1 ≤ x62.toInt by omega) (show x102.toInt ≤ 300 by omega) (show (60 - x62.toInt).toNat < n9 by omega) hw hT hF c98 c99 c101 c103 (lv_sub hl [1] rfl)
          · have ex66 : x66.toInt = f9_0_1.toInt := by rw [← c75.symm.trans c67]
            have ex68 : x68.toInt = (1 : Int) := by rw [show x68 = 1 from c69.symm.trans c76]; decide
            obtain ⟨x88, c89, rx88, tx88⟩ := hT.rda (lo := 0) (hi := 400) (i := 1) kM_at3 rfl rfl (by decide)
            have g72 : x88.toInt = f9_3_1.toInt + 1 := by have q := g72; simp only [c40, c89] at q; omega
            have g73 : x70.toInt = f9_0_18.toInt + 1 := by have q := g73; simp only [c39, c71] at q; omega
            refine lv_if_ne (tgt := 66) hx hb dX12_term_61 (by decide) (fun _ => ?_) (fun c => absurd c (by decide))
            refine lv_aload_n hx hb dX12_term_66 rfl (lv_at hl 1 rfl) ?_
            refine lv_iload_n hx hb dX12_term_67 rfl (lv_at hl 0 rfl) ?_
            refine lv_iconst (v := 0) hx hb dX12_term_68 (by decide) ?_
            refine tk_Vv hC hK hw hT hA hE hSR kM_at0 (by decide) rfl (k_X12_puts_2 l adK adV dC dI cy ad B (by omega) (by omega) qr s1   5 (by decide) (by decide) 0 w44 H.size hT c76 x88 c89 (show 0 ≤ x88.toInt by omega) (show x88.toInt ≤ 400 by omega) (show x88.toInt ≤ 399 by omega)) (cwV 2 hC.2.2.2.2 gX12_term_X12_puts rfl rfl rfl (by decide +kernel) ⟨Nat.le_of_ble_eq_true rfl, Nat.le_of_ble_eq_true rfl⟩) rfl hl.1 rfl (Nat.le_of_ble_eq_true rfl) dX12_term_69 (fun w106 H locs hp105 hw => ?_)
            obtain ⟨hT, k107, hg111⟩ := hp105
            have hF := hF.tr k107 (by decide)
            have c112 := k107.gi kM_at0 (by decide) c75
            have c113 := k107.gi kM_at0 (by decide) c76
            have c114 := k107.gi kM_at1 rfl c77
            have c115 := k107.gi kM_at0 (by decide) c71
            obtain ⟨⟨x108, c109, rx108, tx108⟩, g110⟩ := hg111
            have ex108 : x108.toInt = (1 : Int) := by rw [show x108 = 1 from c109.symm.trans c113]; decide
            obtain ⟨x116, c117, rx116, tx116⟩ := hT.rda (lo := 0) (hi := 400) (i := 1) kM_at3 rfl rfl (by decide)
            have g110 : x116.toInt = x88.toInt + 1 := by have q := g110; simp only [c89, c117] at q; omega
            refine lv_goto (tgt := 9) hx hb dX12_term_72 (by decide) ?_
            exact ih9 f9_0_1 x70 x116 H locs ls w106 (show 0 ≤ f9_0_1.toInt by omega) (show f9_0_1.toInt ≤ 400 by omega) (show 1 ≤ x70.toInt by omega) (show x70.toInt ≤ 60 by omega) (show 0 ≤ x116.toInt by omega) (show x116.toInt ≤ 300 by omega) (show 3 * x116.toInt + 11 ≤ 3 * f2_.toInt + 14 * (x70.toInt - f1_.toInt) by omega) (show f1_.toInt + 1 ≤ x70.toInt by omega) (show x116.toInt ≤ 300 by omega) (show (60 - x70.toInt).toNat < n9 by omega) hw hT hF c112 c113 c115 c117 (lv_sub hl [1] rfl)
        · have c30 : x28.toInt = (42 : Int) := wk_eq.mp c30
          refine lv_iconst (v := 4) hx hb dX12_term_41 (by decide) ?_
          refine lv_goto (tgt := 46) hx hb dX12_term_42 (by decide) ?_
          refine lv_istore_n (lv' := [(1, .int 4), (0, .ref (ad 0))]) hx hb dX12_term_46 rfl hl (by decide) rfl (fun ls hl => ?_)
          refine lv_aload_n hx hb dX12_term_47 rfl (lv_at hl 1 rfl) ?_
          refine lv_dup hx hb dX12_term_48 rfl ?_
          refine tk_geti hC hK hw hT hinX12 kM_at0 (by decide) rfl 14 (by decide) (List.mem_of_getElem? (i := 2) rfl) rfl rfl dX12_term_49 (fun x118 c119 rx118 tx118 => ?_)
          refine wk_top f27_0_14 (c119.symm.trans c18) ?_
          refine lv_iconst (v := 1) hx hb dX12_term_52 (by decide) ?_
          refine lv_iadd hx hb dX12_term_53 ?_
          refine lv_topi (fun x120 ex120 => ?_)
          have ex120 : x120.toInt = f27_0_14.toInt + (1 : Int) := by rw [ex120]; exact wk_add (show (-2147483648) ≤ f27_0_14.toInt + (1 : Int) by omega) (show f27_0_14.toInt + (1 : Int) ≤ 2147483647 by omega)
          refine tk_puti hC hK hw hT hinX12 tyX12_ok nmX12 kM_at0 (by decide) rfl rfl 14 (by decide) (List.mem_of_getElem? (i := 2) rfl) rfl rfl rfl rfl (show 0 ≤ x120.toInt by omega) (show x120.toInt ≤ 400 by omega) dX12_term_54 (fun H locs w121 hw hT k123 c122 => ?_)
          have hF := hF.put kM_at0 (k := 14) (by decide) k123
          have c124 := k123.gi (Or.inr (by decide)) c15
          have c125 := k123.gi (Or.inr (by decide)) c19
          have c126 := k123.gi (Or.inr (by decide)) c22
          have c127 := k123.gi (Or.inr (by decide)) c25
          have c128 := k123.gi (Or.inl (tk_ne kM_at1 kM_at0 (by decide))) c29
          refine lv_aload_n hx hb dX12_term_57 rfl (lv_at hl 1 rfl) ?_
          refine tk_Vi hC hK hw hT hA hE hSR kM_at0 (by decide) rfl (k_X12_value_2 l adK adV dC dI cy ad B (by omega) (by omega) qr s1    w121 H.size hT c125 f9_0_18 c126 (show 0 ≤ f9_0_18.toInt by omega) (show f9_0_18.toInt ≤ 60 by omega) f9_3_1 c127 (show 0 ≤ f9_3_1.toInt by omega) (show f9_3_1.toInt ≤ 400 by omega) (show f9_3_1.toInt ≤ 399 by omega)) (cwV 0 hC.2.2.2.2 gX12_term_X12_value rfl rfl rfl (by decide +kernel) ⟨Nat.le_of_ble_eq_true rfl, Nat.le_of_ble_eq_true rfl⟩) rfl hl.1 rfl (Nat.le_of_ble_eq_true rfl) dX12_term_58 (fun r129 w131 H locs hp130 hw => ?_)
          obtain ⟨hT, k132, hg161⟩ := hp130
          have hF := hF.tr k132 (by decide)
          have c162 := k132.gi kM_at0 (by decide) c124
          have c163 := k132.gi kM_at0 (by decide) c125
          have c164 := k132.gi kM_at1 rfl c128
          rcases hg161 with ⟨rfl, ⟨x133, c134, rx133, tx133⟩, ⟨x135, c136, rx135, tx135⟩, ⟨x137, c138, rx137, tx137⟩⟩ | ⟨rfl, ⟨x139, c140, rx139, tx139⟩, ⟨x141, c142, rx141, tx141⟩, ⟨x143, c144, rx143, tx143⟩⟩ | ⟨rfl, ⟨x145, c146, rx145, tx145⟩, ⟨x147, c148, rx147, tx147⟩, ⟨x149, c150, rx149, tx149⟩, g151, g152⟩ | ⟨rfl, ⟨x153, c154, rx153, tx153⟩, ⟨x155, c156, rx155, tx155⟩, ⟨x157, c158, rx157, tx157⟩, g159, g160⟩
          · have ex133 : x133.toInt = f9_0_1.toInt := by rw [← c162.symm.trans c134]
            have ex137 : x137.toInt = (1 : Int) := by rw [show x137 = 1 from c138.symm.trans c163]; decide
            obtain ⟨x165, c166, rx165, tx165⟩ := hT.rda (lo := 0) (hi := 400) (i := 1) kM_at3 rfl rfl (by decide)
            obtain ⟨x167, c168, rx167, tx167⟩ := hT.rdi (lo := 0) (hi := 60) (k := 18) kM_at0 (by decide) rfl
            refine lv_if_ne (tgt := 66) hx hb dX12_term_61 (by decide) (fun c => absurd (by decide) c) (fun _ => ?_)
            refine lv_iconst (v := 0) hx hb dX12_term_64 (by decide) ?_
            exact tk_zret hC hr rfl hlocks hK ⟨hT, hF, (Or.inl ⟨rfl, ⟨f9_0_1, c162, (show 1 ≤ f9_0_1.toInt by omega), (show f9_0_1.toInt ≤ 400 by omega)⟩, ⟨x135, c136, (show 1 ≤ x135.toInt by omega), (show x135.toInt ≤ 3205 by omega)⟩, ⟨1, c163, (by decide), (by decide)⟩⟩)⟩ hw dX12_term_65
          · have ex139 : x139.toInt = f9_0_1.toInt := by rw [← c162.symm.trans c140]
            have ex143 : x143.toInt = (1 : Int) := by rw [show x143 = 1 from c144.symm.trans c163]; decide
            obtain ⟨x169, c170, rx169, tx169⟩ := hT.rda (lo := 0) (hi := 400) (i := 1) kM_at3 rfl rfl (by decide)
            obtain ⟨x171, c172, rx171, tx171⟩ := hT.rdi (lo := 0) (hi := 60) (k := 18) kM_at0 (by decide) rfl
            refine lv_if_ne (tgt := 66) hx hb dX12_term_61 (by decide) (fun c => absurd (by decide) c) (fun _ => ?_)
            refine lv_iconst (v := 0) hx hb dX12_term_64 (by decide) ?_
            exact tk_zret hC hr rfl hlocks hK ⟨hT, hF, (Or.inl ⟨rfl, ⟨f9_0_1, c162, (show 1 ≤ f9_0_1.toInt by omega), (show f9_0_1.toInt ≤ 400 by omega)⟩, ⟨x141, c142, (show 1 ≤ x141.toInt by omega), (show x141.toInt ≤ 3205 by omega)⟩, ⟨1, c163, (by decide), (by decide)⟩⟩)⟩ hw dX12_term_65
          · have ex145 : x145.toInt = f9_0_1.toInt := by rw [← c162.symm.trans c146]
            have ex147 : x147.toInt = (1 : Int) := by rw [show x147 = 1 from c148.symm.trans c163]; decide
            obtain ⟨x173, c174, rx173, tx173⟩ := hT.rda (lo := 0) (hi := 400) (i := 1) kM_at3 rfl rfl (by decide)
            have g151 : x173.toInt = f9_3_1.toInt + 1 := by have q := g151; simp only [c127, c174] at q; omega
            have g152 : x149.toInt = f9_0_18.toInt + 1 := by have q := g152; simp only [c126, c150] at q; omega
            refine lv_if_ne (tgt := 66) hx hb dX12_term_61 (by decide) (fun _ => ?_) (fun c => absurd c (by decide))
            refine lv_aload_n hx hb dX12_term_66 rfl (lv_at hl 1 rfl) ?_
            refine lv_iload_n hx hb dX12_term_67 rfl (lv_at hl 0 rfl) ?_
            refine lv_iconst (v := 0) hx hb dX12_term_68 (by decide) ?_
            refine tk_Vv hC hK hw hT hA hE hSR kM_at0 (by decide) rfl (k_X12_puts_2 l adK adV dC dI cy ad B (by omega) (by omega) qr s1   4 (by decide) (by decide) 0 w131 H.size hT c163 x173 c174 (show 0 ≤ x173.toInt by omega) (show x173.toInt ≤ 400 by omega) (show x173.toInt ≤ 399 by omega)) (cwV 2 hC.2.2.2.2 gX12_term_X12_puts rfl rfl rfl (by decide +kernel) ⟨Nat.le_of_ble_eq_true rfl, Nat.le_of_ble_eq_true rfl⟩) rfl hl.1 rfl (Nat.le_of_ble_eq_true rfl) dX12_term_69 (fun w179 H locs hp178 hw => ?_)
            obtain ⟨hT, k180, hg184⟩ := hp178
            have hF := hF.tr k180 (by decide)
            have c185 := k180.gi kM_at0 (by decide) c162
            have c186 := k180.gi kM_at0 (by decide) c163
            have c187 := k180.gi kM_at1 rfl c164
            have c188 := k180.gi kM_at0 (by decide) c150
            obtain ⟨⟨x181, c182, rx181, tx181⟩, g183⟩ := hg184
            have ex181 : x181.toInt = (1 : Int) := by rw [show x181 = 1 from c182.symm.trans c186]; decide
            obtain ⟨x189, c190, rx189, tx189⟩ := hT.rda (lo := 0) (hi := 400) (i := 1) kM_at3 rfl rfl (by decide)
            have g183 : x189.toInt = x173.toInt + 1 := by have q := g183; simp only [c174, c190] at q; omega
            refine lv_goto (tgt := 9) hx hb dX12_term_72 (by decide) ?_
            exact ih9 f9_0_1 x149 x189 H locs ls w179 (show 0 ≤ f9_0_1.toInt by omega) (show f9_0_1.toInt ≤ 400 by omega) (show 1 ≤ x149.toInt by omega) (show x149.toInt ≤ 60 by omega) (show 0 ≤ x189.toInt by omega) (show x189.toInt ≤ 300 by omega) (show 3 * x189.toInt + 11 ≤ 3 * f2_.toInt + 14 * (x149.toInt - f1_.toInt) by omega) (show f1_.toInt + 1 ≤ x149.toInt by omega) (show x189.toInt ≤ 300 by omega) (show (60 - x149.toInt).toNat < n9 by omega) hw hT hF c185 c186 c188 c190 (lv_sub hl [1] rfl)
          · have ex153 : x153.toInt = f9_0_1.toInt := by rw [← c162.symm.trans c154]
            have ex155 : x155.toInt = (1 : Int) := by rw [show x155 = 1 from c156.symm.trans c163]; decide
            obtain ⟨x175, c176, rx175, tx175⟩ := hT.rda (lo := 0) (hi := 400) (i := 1) kM_at3 rfl rfl (by decide)
            have g159 : x175.toInt = f9_3_1.toInt + 1 := by have q := g159; simp only [c127, c176] at q; omega
            have g160 : x157.toInt = f9_0_18.toInt + 1 := by have q := g160; simp only [c126, c158] at q; omega
            refine lv_if_ne (tgt := 66) hx hb dX12_term_61 (by decide) (fun _ => ?_) (fun c => absurd c (by decide))
            refine lv_aload_n hx hb dX12_term_66 rfl (lv_at hl 1 rfl) ?_
            refine lv_iload_n hx hb dX12_term_67 rfl (lv_at hl 0 rfl) ?_
            refine lv_iconst (v := 0) hx hb dX12_term_68 (by decide) ?_
            refine tk_Vv hC hK hw hT hA hE hSR kM_at0 (by decide) rfl (k_X12_puts_2 l adK adV dC dI cy ad B (by omega) (by omega) qr s1   4 (by decide) (by decide) 0 w131 H.size hT c163 x175 c176 (show 0 ≤ x175.toInt by omega) (show x175.toInt ≤ 400 by omega) (show x175.toInt ≤ 399 by omega)) (cwV 2 hC.2.2.2.2 gX12_term_X12_puts rfl rfl rfl (by decide +kernel) ⟨Nat.le_of_ble_eq_true rfl, Nat.le_of_ble_eq_true rfl⟩) rfl hl.1 rfl (Nat.le_of_ble_eq_true rfl) dX12_term_69 (fun w193 H locs hp192 hw => ?_)
            obtain ⟨hT, k194, hg198⟩ := hp192
            have hF := hF.tr k194 (by decide)
            have c199 := k194.gi kM_at0 (by decide) c162
            have c200 := k194.gi kM_at0 (by decide) c163
            have c201 := k194.gi kM_at1 rfl c164
            have c202 := k194.gi kM_at0 (by decide) c158
            obtain ⟨⟨x195, c196, rx195, tx195⟩, g197⟩ := hg198
            have ex195 : x195.toInt = (1 : Int) := by rw [show x195 = 1 from c196.symm.trans c200]; decide
            obtain ⟨x203, c204, rx203, tx203⟩ := hT.rda (lo := 0) (hi := 400) (i := 1) kM_at3 rfl rfl (by decide)
            have g197 : x203.toInt = x175.toInt + 1 := by have q := g197; simp only [c176, c204] at q; omega
            refine lv_goto (tgt := 9) hx hb dX12_term_72 (by decide) ?_
            exact ih9 f9_0_1 x157 x203 H locs ls w193 (show 0 ≤ f9_0_1.toInt by omega) (show f9_0_1.toInt ≤ 400 by omega) (show 1 ≤ x157.toInt by omega) (show x157.toInt ≤ 60 by omega) (show 0 ≤ x203.toInt by omega) (show x203.toInt ≤ 300 by omega) (show 3 * x203.toInt + 11 ≤ 3 * f2_.toInt + 14 * (x157.toInt - f1_.toInt) by omega) (show f1_.toInt + 1 ≤ x157.toInt by omega) (show x203.toInt ≤ 300 by omega) (show (60 - x157.toInt).toNat < n9 by omega) hw hT hF c199 c200 c202 c204 (lv_sub hl [1] rfl)
      refine lv_aload_n hx hb dX12_term_9 rfl (lv_at hl 0 rfl) ?_
      obtain ⟨x205, c206, rx205, tx205⟩ := hT.rdi (lo := 0) (hi := 400) (k := 14) kM_at0 (by decide) rfl
      refine tk_Vi hC hK hw hT hA hE hSR kM_at0 (by decide) rfl (k_X12_see_1 l adK adV dC dI cy ad B (by omega) (by omega) qr s1    w1 H.size hT x205 c206 (show 0 ≤ x205.toInt by omega) (show x205.toInt ≤ 400 by omega)) (cwV 0 hC.2.2.2.2 gX12_term_X12_see rfl rfl rfl (by decide +kernel) ⟨Nat.le_of_ble_eq_true rfl, Nat.le_of_ble_eq_true rfl⟩) rfl hl.1 rfl (Nat.le_of_ble_eq_true rfl) dX12_term_10 (fun r207 w209 H locs hp208 hw => ?_)
      obtain ⟨hT, k210, hg227⟩ := hp208
      have hF := hF.tr k210 (by decide)
      have c228 := k210.gi kM_at0 (by decide) c4
      have c229 := k210.gi kM_at0 (by decide) c5
      have c230 := k210.gi kM_at0 (by decide) c8
      have c231 := k210.gi kM_at3 (by decide) c11
      rcases hg227 with ⟨g211, g212, ⟨x213, c214, rx213, tx213⟩, ⟨x215, c216, rx215, tx215⟩, g217, g218⟩ | ⟨rfl, ⟨x219, c220, rx219, tx219⟩, ⟨x221, c222, rx221, tx221⟩, g223⟩ | ⟨rfl, ⟨x224, c225, rx224, tx224⟩, g226⟩
      · have ex213 : x213.toInt = f9_0_1.toInt := by rw [← c228.symm.trans c214]
        have g217 : (gi w209 1 (x215.toInt).toNat).toInt ≠ 32 := by have q := g217; simp only [c216] at q; omega
        have g218 : (x215.toInt = x205.toInt ∨ (gi w1 1 (x205.toInt).toNat).toInt = 32) := by have q := g218; simp only [c206, c216] at q; omega
        refine lv_bipush (v := 42) hx hb dX12_term_13 (by decide) ?_
        refine lv_icmp_eq (tgt := 27) hx hb dX12_term_15 (by decide) (fun c234 => ?_) (fun c234 => ?_)
        · have c234 : r207.toInt = (42 : Int) := wk_eq.mp c234
          exact J27 x215 H locs ls w209 (show 1 ≤ f9_0_1.toInt by omega) (show f9_0_1.toInt ≤ 400 by omega) (show 0 ≤ x215.toInt by omega) (show x215.toInt ≤ 399 by omega) (show 1 ≤ f9_0_18.toInt by omega) (show f9_0_18.toInt ≤ 60 by omega) (show 0 ≤ f9_3_1.toInt by omega) (show f9_3_1.toInt ≤ 300 by omega) (show 3 * f9_3_1.toInt + 11 ≤ 3 * f2_.toInt + 14 * (f9_0_18.toInt - f1_.toInt) by omega) (show f1_.toInt + 1 ≤ f9_0_18.toInt by omega) (show f9_3_1.toInt ≤ 300 by omega)  hw hT hF c228 c216 c229 c230 c231 (lv_sub hl [0] rfl)
        · have c234 : ¬ r207.toInt = (42 : Int) := wk_eqF c234
          refine lv_aload_n hx hb dX12_term_18 rfl (lv_at hl 0 rfl) ?_
          refine tk_Vi hC hK hw hT hA hE hSR kM_at0 (by decide) rfl (k_X12_see_1 l adK adV dC dI cy ad B (by omega) (by omega) qr s1    w209 H.size hT x215 c216 (show 0 ≤ x215.toInt by omega) (show x215.toInt ≤ 400 by omega)) (cwV 0 hC.2.2.2.2 gX12_term_X12_see rfl rfl rfl (by decide +kernel) ⟨Nat.le_of_ble_eq_true rfl, Nat.le_of_ble_eq_true rfl⟩) rfl hl.1 rfl (Nat.le_of_ble_eq_true rfl) dX12_term_19 (fun r235 w237 H locs hp236 hw => ?_)
          obtain ⟨hT, k238, hg255⟩ := hp236
          have hF := hF.tr k238 (by decide)
          have c256 := k238.gi kM_at0 (by decide) c228
          have c257 := k238.gi kM_at0 (by decide) c229
          have c258 := k238.gi kM_at0 (by decide) c230
          have c259 := k238.gi kM_at3 (by decide) c231
          rcases hg255 with ⟨g239, g240, ⟨x241, c242, rx241, tx241⟩, ⟨x243, c244, rx243, tx243⟩, g245, g246⟩ | ⟨rfl, ⟨x247, c248, rx247, tx247⟩, ⟨x249, c250, rx249, tx249⟩, g251⟩ | ⟨rfl, ⟨x252, c253, rx252, tx252⟩, g254⟩
          · have ex241 : x241.toInt = f9_0_1.toInt := by rw [← c256.symm.trans c242]
            have g245 : (gi w237 1 (x243.toInt).toNat).toInt ≠ 32 := by have q := g245; simp only [c244] at q; omega
            have g246 : (x243.toInt = x215.toInt ∨ (gi w209 1 (x215.toInt).toNat).toInt = 32) := by have q := g246; simp only [c216, c244] at q; omega
            refine lv_bipush (v := 47) hx hb dX12_term_22 (by decide) ?_
            refine lv_icmp_ne (tgt := 75) hx hb dX12_term_24 (by decide) (fun c262 => ?_) (fun c262 => ?_)
            · have c262 : ¬ r235.toInt = (47 : Int) := wk_eqF c262
              refine lv_iconst (v := 1) hx hb dX12_term_75 (by decide) ?_
              exact tk_zret hC hr rfl hlocks hK ⟨hT, hF, (Or.inr (Or.inr (Or.inl ⟨rfl, ⟨f9_0_1, c256, (show 1 ≤ f9_0_1.toInt by omega), (show f9_0_1.toInt ≤ 400 by omega)⟩, ⟨1, c257, (by decide), (by decide)⟩, ⟨f9_0_18, c258, (show 1 ≤ f9_0_18.toInt by omega), (show f9_0_18.toInt ≤ 60 by omega)⟩, (by simp only [cf2_, c259, cf1_, c258]; omega), (by simp only [cf1_, c258]; omega)⟩)))⟩ hw dX12_term_76
            · have c262 : r235.toInt = (47 : Int) := wk_eq.mp c262
              exact J27 x243 H locs ls w237 (show 1 ≤ f9_0_1.toInt by omega) (show f9_0_1.toInt ≤ 400 by omega) (show 0 ≤ x243.toInt by omega) (show x243.toInt ≤ 399 by omega) (show 1 ≤ f9_0_18.toInt by omega) (show f9_0_18.toInt ≤ 60 by omega) (show 0 ≤ f9_3_1.toInt by omega) (show f9_3_1.toInt ≤ 300 by omega) (show 3 * f9_3_1.toInt + 11 ≤ 3 * f2_.toInt + 14 * (f9_0_18.toInt - f1_.toInt) by omega) (show f1_.toInt + 1 ≤ f9_0_18.toInt by omega) (show f9_3_1.toInt ≤ 300 by omega)  hw hT hF c256 c244 c257 c258 c259 (lv_sub hl [0] rfl)
          · have ex247 : x247.toInt = f9_0_1.toInt := by rw [← c256.symm.trans c248]
            have g251 : (x249.toInt = x215.toInt ∨ (gi w209 1 (x215.toInt).toNat).toInt = 32) := by have q := g251; simp only [c216, c250] at q; omega
            refine lv_bipush (v := 47) hx hb dX12_term_22 (by decide) ?_
            refine lv_icmp_ne (tgt := 75) hx hb dX12_term_24 (by decide) (fun _ => ?_) (fun c => absurd c (by decide))
            refine lv_iconst (v := 1) hx hb dX12_term_75 (by decide) ?_
            exact tk_zret hC hr rfl hlocks hK ⟨hT, hF, (Or.inr (Or.inr (Or.inl ⟨rfl, ⟨f9_0_1, c256, (show 1 ≤ f9_0_1.toInt by omega), (show f9_0_1.toInt ≤ 400 by omega)⟩, ⟨1, c257, (by decide), (by decide)⟩, ⟨f9_0_18, c258, (show 1 ≤ f9_0_18.toInt by omega), (show f9_0_18.toInt ≤ 60 by omega)⟩, (by simp only [cf2_, c259, cf1_, c258]; omega), (by simp only [cf1_, c258]; omega)⟩)))⟩ hw dX12_term_76
          · have ex252 : x252.toInt = f9_0_1.toInt := by rw [← c256.symm.trans c253]
            obtain ⟨x260, c261, rx260, tx260⟩ := hT.rdi (lo := 0) (hi := 400) (k := 14) kM_at0 (by decide) rfl
            have g254 : (x260.toInt = x215.toInt ∨ (gi w209 1 (x215.toInt).toNat).toInt = 32) := by have q := g254; simp only [c216, c261] at q; omega
            refine lv_bipush (v := 47) hx hb dX12_term_22 (by decide) ?_
            refine lv_icmp_ne (tgt := 75) hx hb dX12_term_24 (by decide) (fun _ => ?_) (fun c => absurd c (by decide))
            refine lv_iconst (v := 1) hx hb dX12_term_75 (by decide) ?_
            exact tk_zret hC hr rfl hlocks hK ⟨hT, hF, (Or.inr (Or.inr (Or.inl ⟨rfl, ⟨f9_0_1, c256, (show 1 ≤ f9_0_1.toInt by omega), (show f9_0_1.toInt ≤ 400 by omega)⟩, ⟨1, c257, (by decide), (by decide)⟩, ⟨f9_0_18, c258, (show 1 ≤ f9_0_18.toInt by omega), (show f9_0_18.toInt ≤ 60 by omega)⟩, (by simp only [cf2_, c259, cf1_, c258]; omega), (by simp only [cf1_, c258]; omega)⟩)))⟩ hw dX12_term_76
      · have ex219 : x219.toInt = f9_0_1.toInt := by rw [← c228.symm.trans c220]
        have g223 : (x221.toInt = x205.toInt ∨ (gi w1 1 (x205.toInt).toNat).toInt = 32) := by have q := g223; simp only [c206, c222] at q; omega
        refine lv_bipush (v := 42) hx hb dX12_term_13 (by decide) ?_
        refine lv_icmp_eq (tgt := 27) hx hb dX12_term_15 (by decide) (fun c => absurd c (by decide)) (fun _ => ?_)
        refine lv_aload_n hx hb dX12_term_18 rfl (lv_at hl 0 rfl) ?_
        refine tk_Vi hC hK hw hT hA hE hSR kM_at0 (by decide) rfl (k_X12_see_1 l adK adV dC dI cy ad B (by omega) (by omega) qr s1    w209 H.size hT x221 c222 (show 0 ≤ x221.toInt by omega) (show x221.toInt ≤ 400 by omega)) (cwV 0 hC.2.2.2.2 gX12_term_X12_see rfl rfl rfl (by decide +kernel) ⟨Nat.le_of_ble_eq_true rfl, Nat.le_of_ble_eq_true rfl⟩) rfl hl.1 rfl (Nat.le_of_ble_eq_true rfl) dX12_term_19 (fun r263 w265 H locs hp264 hw => ?_)
        obtain ⟨hT, k266, hg283⟩ := hp264
        have hF := hF.tr k266 (by decide)
        have c284 := k266.gi kM_at0 (by decide) c228
        have c285 := k266.gi kM_at0 (by decide) c229
        have c286 := k266.gi kM_at0 (by decide) c230
        have c287 := k266.gi kM_at3 (by decide) c231
        rcases hg283 with ⟨g267, g268, ⟨x269, c270, rx269, tx269⟩, ⟨x271, c272, rx271, tx271⟩, g273, g274⟩ | ⟨rfl, ⟨x275, c276, rx275, tx275⟩, ⟨x277, c278, rx277, tx277⟩, g279⟩ | ⟨rfl, ⟨x280, c281, rx280, tx280⟩, g282⟩
        · have ex269 : x269.toInt = f9_0_1.toInt := by rw [← c284.symm.trans c270]
          have g273 : (gi w265 1 (x271.toInt).toNat).toInt ≠ 32 := by have q := g273; simp only [c272] at q; omega
          have g274 : (x271.toInt = x221.toInt ∨ (gi w209 1 (x221.toInt).toNat).toInt = 32) := by have q := g274; simp only [c222, c272] at q; omega
          refine lv_bipush (v := 47) hx hb dX12_term_22 (by decide) ?_
          refine lv_icmp_ne (tgt := 75) hx hb dX12_term_24 (by decide) (fun c290 => ?_) (fun c290 => ?_)
          · have c290 : ¬ r263.toInt = (47 : Int) := wk_eqF c290
            refine lv_iconst (v := 1) hx hb dX12_term_75 (by decide) ?_
            exact tk_zret hC hr rfl hlocks hK ⟨hT, hF, (Or.inr (Or.inr (Or.inl ⟨rfl, ⟨f9_0_1, c284, (show 1 ≤ f9_0_1.toInt by omega), (show f9_0_1.toInt ≤ 400 by omega)⟩, ⟨1, c285, (by decide), (by decide)⟩, ⟨f9_0_18, c286, (show 1 ≤ f9_0_18.toInt by omega), (show f9_0_18.toInt ≤ 60 by omega)⟩, (by simp only [cf2_, c287, cf1_, c286]; omega), (by simp only [cf1_, c286]; omega)⟩)))⟩ hw dX12_term_76
          · have c290 : r263.toInt = (47 : Int) := wk_eq.mp c290
            exact J27 x271 H locs ls w265 (show 1 ≤ f9_0_1.toInt by omega) (show f9_0_1.toInt ≤ 400 by omega) (show 0 ≤ x271.toInt by omega) (show x271.toInt ≤ 399 by omega) (show 1 ≤ f9_0_18.toInt by omega) (show f9_0_18.toInt ≤ 60 by omega) (show 0 ≤ f9_3_1.toInt by omega) (show f9_3_1.toInt ≤ 300 by omega) (show 3 * f9_3_1.toInt + 11 ≤ 3 * f2_.toInt + 14 * (f9_0_18.toInt - f1_.toInt) by omega) (show f1_.toInt + 1 ≤ f9_0_18.toInt by omega) (show f9_3_1.toInt ≤ 300 by omega)  hw hT hF c284 c272 c285 c286 c287 (lv_sub hl [0] rfl)
        · have ex275 : x275.toInt = f9_0_1.toInt := by rw [← c284.symm.trans c276]
          have g279 : (x277.toInt = x221.toInt ∨ (gi w209 1 (x221.toInt).toNat).toInt = 32) := by have q := g279; simp only [c222, c278] at q; omega
          refine lv_bipush (v := 47) hx hb dX12_term_22 (by decide) ?_
          refine lv_icmp_ne (tgt := 75) hx hb dX12_term_24 (by decide) (fun _ => ?_) (fun c => absurd c (by decide))
          refine lv_iconst (v := 1) hx hb dX12_term_75 (by decide) ?_
          exact tk_zret hC hr rfl hlocks hK ⟨hT, hF, (Or.inr (Or.inr (Or.inl ⟨rfl, ⟨f9_0_1, c284, (show 1 ≤ f9_0_1.toInt by omega), (show f9_0_1.toInt ≤ 400 by omega)⟩, ⟨1, c285, (by decide), (by decide)⟩, ⟨f9_0_18, c286, (show 1 ≤ f9_0_18.toInt by omega), (show f9_0_18.toInt ≤ 60 by omega)⟩, (by simp only [cf2_, c287, cf1_, c286]; omega), (by simp only [cf1_, c286]; omega)⟩)))⟩ hw dX12_term_76
        · have ex280 : x280.toInt = f9_0_1.toInt := by rw [← c284.symm.trans c281]
          obtain ⟨x288, c289, rx288, tx288⟩ := hT.rdi (lo := 0) (hi := 400) (k := 14) kM_at0 (by decide) rfl
          have g282 : (x288.toInt = x221.toInt ∨ (gi w209 1 (x221.toInt).toNat).toInt = 32) := by have q := g282; simp only [c222, c289] at q; omega
          refine lv_bipush (v := 47) hx hb dX12_term_22 (by decide) ?_
          refine lv_icmp_ne (tgt := 75) hx hb dX12_term_24 (by decide) (fun _ => ?_) (fun c => absurd c (by decide))
          refine lv_iconst (v := 1) hx hb dX12_term_75 (by decide) ?_
          exact tk_zret hC hr rfl hlocks hK ⟨hT, hF, (Or.inr (Or.inr (Or.inl ⟨rfl, ⟨f9_0_1, c284, (show 1 ≤ f9_0_1.toInt by omega), (show f9_0_1.toInt ≤ 400 by omega)⟩, ⟨1, c285, (by decide), (by decide)⟩, ⟨f9_0_18, c286, (show 1 ≤ f9_0_18.toInt by omega), (show f9_0_18.toInt ≤ 60 by omega)⟩, (by simp only [cf2_, c287, cf1_, c286]; omega), (by simp only [cf1_, c286]; omega)⟩)))⟩ hw dX12_term_76
      · have ex224 : x224.toInt = f9_0_1.toInt := by rw [← c228.symm.trans c225]
        obtain ⟨x232, c233, rx232, tx232⟩ := hT.rdi (lo := 0) (hi := 400) (k := 14) kM_at0 (by decide) rfl
        have g226 : (x232.toInt = x205.toInt ∨ (gi w1 1 (x205.toInt).toNat).toInt = 32) := by have q := g226; simp only [c206, c233] at q; omega
        refine lv_bipush (v := 42) hx hb dX12_term_13 (by decide) ?_
        refine lv_icmp_eq (tgt := 27) hx hb dX12_term_15 (by decide) (fun c => absurd c (by decide)) (fun _ => ?_)
        refine lv_aload_n hx hb dX12_term_18 rfl (lv_at hl 0 rfl) ?_
        refine tk_Vi hC hK hw hT hA hE hSR kM_at0 (by decide) rfl (k_X12_see_1 l adK adV dC dI cy ad B (by omega) (by omega) qr s1    w209 H.size hT x232 c233 (show 0 ≤ x232.toInt by omega) (show x232.toInt ≤ 400 by omega)) (cwV 0 hC.2.2.2.2 gX12_term_X12_see rfl rfl rfl (by decide +kernel) ⟨Nat.le_of_ble_eq_true rfl, Nat.le_of_ble_eq_true rfl⟩) rfl hl.1 rfl (Nat.le_of_ble_eq_true rfl) dX12_term_19 (fun r291 w293 H locs hp292 hw => ?_)
        obtain ⟨hT, k294, hg311⟩ := hp292
        have hF := hF.tr k294 (by decide)
        have c312 := k294.gi kM_at0 (by decide) c228
        have c313 := k294.gi kM_at0 (by decide) c229
        have c314 := k294.gi kM_at0 (by decide) c230
        have c315 := k294.gi kM_at3 (by decide) c231
        rcases hg311 with ⟨g295, g296, ⟨x297, c298, rx297, tx297⟩, ⟨x299, c300, rx299, tx299⟩, g301, g302⟩ | ⟨rfl, ⟨x303, c304, rx303, tx303⟩, ⟨x305, c306, rx305, tx305⟩, g307⟩ | ⟨rfl, ⟨x308, c309, rx308, tx308⟩, g310⟩
        · have ex297 : x297.toInt = f9_0_1.toInt := by rw [← c312.symm.trans c298]
          have g301 : (gi w293 1 (x299.toInt).toNat).toInt ≠ 32 := by have q := g301; simp only [c300] at q; omega
          have g302 : (x299.toInt = x232.toInt ∨ (gi w209 1 (x232.toInt).toNat).toInt = 32) := by have q := g302; simp only [c233, c300] at q; omega
          refine lv_bipush (v := 47) hx hb dX12_term_22 (by decide) ?_
          refine lv_icmp_ne (tgt := 75) hx hb dX12_term_24 (by decide) (fun c318 => ?_) (fun c318 => ?_)
          · have c318 : ¬ r291.toInt = (47 : Int) := wk_eqF c318
            refine lv_iconst (v := 1) hx hb dX12_term_75 (by decide) ?_
            exact tk_zret hC hr rfl hlocks hK ⟨hT, hF, (Or.inr (Or.inr (Or.inl ⟨rfl, ⟨f9_0_1, c312, (show 1 ≤ f9_0_1.toInt by omega), (show f9_0_1.toInt ≤ 400 by omega)⟩, ⟨1, c313, (by decide), (by decide)⟩, ⟨f9_0_18, c314, (show 1 ≤ f9_0_18.toInt by omega), (show f9_0_18.toInt ≤ 60 by omega)⟩, (by simp only [cf2_, c315, cf1_, c314]; omega), (by simp only [cf1_, c314]; omega)⟩)))⟩ hw dX12_term_76
          · have c318 : r291.toInt = (47 : Int) := wk_eq.mp c318
            exact J27 x299 H locs ls w293 (show 1 ≤ f9_0_1.toInt by omega) (show f9_0_1.toInt ≤ 400 by omega) (show 0 ≤ x299.toInt by omega) (show x299.toInt ≤ 399 by omega) (show 1 ≤ f9_0_18.toInt by omega) (show f9_0_18.toInt ≤ 60 by omega) (show 0 ≤ f9_3_1.toInt by omega) (show f9_3_1.toInt ≤ 300 by omega) (show 3 * f9_3_1.toInt + 11 ≤ 3 * f2_.toInt + 14 * (f9_0_18.toInt - f1_.toInt) by omega) (show f1_.toInt + 1 ≤ f9_0_18.toInt by omega) (show f9_3_1.toInt ≤ 300 by omega)  hw hT hF c312 c300 c313 c314 c315 (lv_sub hl [0] rfl)
        · have ex303 : x303.toInt = f9_0_1.toInt := by rw [← c312.symm.trans c304]
          have g307 : (x305.toInt = x232.toInt ∨ (gi w209 1 (x232.toInt).toNat).toInt = 32) := by have q := g307; simp only [c233, c306] at q; omega
          refine lv_bipush (v := 47) hx hb dX12_term_22 (by decide) ?_
          refine lv_icmp_ne (tgt := 75) hx hb dX12_term_24 (by decide) (fun _ => ?_) (fun c => absurd c (by decide))
          refine lv_iconst (v := 1) hx hb dX12_term_75 (by decide) ?_
          exact tk_zret hC hr rfl hlocks hK ⟨hT, hF, (Or.inr (Or.inr (Or.inl ⟨rfl, ⟨f9_0_1, c312, (show 1 ≤ f9_0_1.toInt by omega), (show f9_0_1.toInt ≤ 400 by omega)⟩, ⟨1, c313, (by decide), (by decide)⟩, ⟨f9_0_18, c314, (show 1 ≤ f9_0_18.toInt by omega), (show f9_0_18.toInt ≤ 60 by omega)⟩, (by simp only [cf2_, c315, cf1_, c314]; omega), (by simp only [cf1_, c314]; omega)⟩)))⟩ hw dX12_term_76
        · have ex308 : x308.toInt = f9_0_1.toInt := by rw [← c312.symm.trans c309]
          obtain ⟨x316, c317, rx316, tx316⟩ := hT.rdi (lo := 0) (hi := 400) (k := 14) kM_at0 (by decide) rfl
          have g310 : (x316.toInt = x232.toInt ∨ (gi w209 1 (x232.toInt).toNat).toInt = 32) := by have q := g310; simp only [c233, c317] at q; omega
          refine lv_bipush (v := 47) hx hb dX12_term_22 (by decide) ?_
          refine lv_icmp_ne (tgt := 75) hx hb dX12_term_24 (by decide) (fun _ => ?_) (fun c => absurd c (by decide))
          refine lv_iconst (v := 1) hx hb dX12_term_75 (by decide) ?_
          exact tk_zret hC hr rfl hlocks hK ⟨hT, hF, (Or.inr (Or.inr (Or.inr ⟨rfl, ⟨f9_0_1, c312, (show 0 ≤ f9_0_1.toInt by omega), (show f9_0_1.toInt ≤ 400 by omega)⟩, ⟨1, c313, (by decide), (by decide)⟩, ⟨f9_0_18, c314, (show 1 ≤ f9_0_18.toInt by omega), (show f9_0_18.toInt ≤ 60 by omega)⟩, (by simp only [cf2_, c315, cf1_, c314]; omega), (by simp only [cf1_, c314]; omega)⟩)))⟩ hw dX12_term_76
  refine lv_aload_n hx hb dX12_term_0 rfl (lv_at hl 0 rfl) ?_
  refine tk_Vi hC hK hw hT hA hE hSR kM_at0 (by decide) rfl (k_X12_value_2 l adK adV dC dI cy ad B (by omega) (by omega) qr s1    w0 s.heap.size hT cf0_ f1_ cf1_ (show 0 ≤ f1_.toInt by omega) (show f1_.toInt ≤ 60 by omega) f2_ cf2_ (show 0 ≤ f2_.toInt by omega) (show f2_.toInt ≤ 400 by omega) (show f2_.toInt ≤ 399 by omega)) (cwV 0 hC.2.2.2.2 gX12_term_X12_value rfl rfl rfl (by decide +kernel) ⟨Nat.le_of_ble_eq_true rfl, Nat.le_of_ble_eq_true rfl⟩) rfl hl.1 rfl (Nat.le_of_ble_eq_true rfl) dX12_term_1 (fun r319 w321 H locs hp320 hw => ?_)
  obtain ⟨hT, k322, hg351⟩ := hp320
  have hF := hF.tr k322 (by decide)
  have c352 := k322.gi kM_at0 (by decide) cf0_
  rcases hg351 with ⟨rfl, ⟨x323, c324, rx323, tx323⟩, ⟨x325, c326, rx325, tx325⟩, ⟨x327, c328, rx327, tx327⟩⟩ | ⟨rfl, ⟨x329, c330, rx329, tx329⟩, ⟨x331, c332, rx331, tx331⟩, ⟨x333, c334, rx333, tx333⟩⟩ | ⟨rfl, ⟨x335, c336, rx335, tx335⟩, ⟨x337, c338, rx337, tx337⟩, ⟨x339, c340, rx339, tx339⟩, g341, g342⟩ | ⟨rfl, ⟨x343, c344, rx343, tx343⟩, ⟨x345, c346, rx345, tx345⟩, ⟨x347, c348, rx347, tx347⟩, g349, g350⟩
  · have ex327 : x327.toInt = (1 : Int) := by rw [show x327 = 1 from c328.symm.trans c352]; decide
    obtain ⟨x353, c354, rx353, tx353⟩ := hT.rda (lo := 0) (hi := 400) (i := 1) kM_at3 rfl rfl (by decide)
    obtain ⟨x355, c356, rx355, tx355⟩ := hT.rdi (lo := 0) (hi := 60) (k := 18) kM_at0 (by decide) rfl
    refine lv_if_ne (tgt := 9) hx hb dX12_term_4 (by decide) (fun c => absurd (by decide) c) (fun _ => ?_)
    refine lv_iconst (v := 0) hx hb dX12_term_7 (by decide) ?_
    exact tk_zret hC hr rfl hlocks hK ⟨hT, hF, (Or.inl ⟨rfl, ⟨x323, c324, (show 1 ≤ x323.toInt by omega), (show x323.toInt ≤ 400 by omega)⟩, ⟨x325, c326, (show 1 ≤ x325.toInt by omega), (show x325.toInt ≤ 3205 by omega)⟩, ⟨1, c352, (by decide), (by decide)⟩⟩)⟩ hw dX12_term_8
  · have ex333 : x333.toInt = (1 : Int) := by rw [show x333 = 1 from c334.symm.trans c352]; decide
    obtain ⟨x357, c358, rx357, tx357⟩ := hT.rda (lo := 0) (hi := 400) (i := 1) kM_at3 rfl rfl (by decide)
    obtain ⟨x359, c360, rx359, tx359⟩ := hT.rdi (lo := 0) (hi := 60) (k := 18) kM_at0 (by decide) rfl
    refine lv_if_ne (tgt := 9) hx hb dX12_term_4 (by decide) (fun c => absurd (by decide) c) (fun _ => ?_)
    refine lv_iconst (v := 0) hx hb dX12_term_7 (by decide) ?_
    exact tk_zret hC hr rfl hlocks hK ⟨hT, hF, (Or.inr (Or.inl ⟨rfl, ⟨x329, c330, (show 0 ≤ x329.toInt by omega), (show x329.toInt ≤ 400 by omega)⟩, ⟨x331, c332, (show 1 ≤ x331.toInt by omega), (show x331.toInt ≤ 3205 by omega)⟩, ⟨1, c352, (by decide), (by decide)⟩⟩))⟩ hw dX12_term_8
  · have ex337 : x337.toInt = (1 : Int) := by rw [show x337 = 1 from c338.symm.trans c352]; decide
    obtain ⟨x361, c362, rx361, tx361⟩ := hT.rda (lo := 0) (hi := 400) (i := 1) kM_at3 rfl rfl (by decide)
    have g341 : x361.toInt = f2_.toInt + 1 := by have q := g341; simp only [cf2_, c362] at q; omega
    have g342 : x339.toInt = f1_.toInt + 1 := by have q := g342; simp only [cf1_, c340] at q; omega
    refine lv_if_ne (tgt := 9) hx hb dX12_term_4 (by decide) (fun _ => ?_) (fun c => absurd c (by decide))
    exact L9 ((60 - x339.toInt).toNat + 1) x335 x339 x361 H locs ls w321 (show 0 ≤ x335.toInt by omega) (show x335.toInt ≤ 400 by omega) (show 1 ≤ x339.toInt by omega) (show x339.toInt ≤ 60 by omega) (show 0 ≤ x361.toInt by omega) (show x361.toInt ≤ 300 by omega) (show 3 * x361.toInt + 11 ≤ 3 * f2_.toInt + 14 * (x339.toInt - f1_.toInt) by omega) (show f1_.toInt + 1 ≤ x339.toInt by omega) (show x361.toInt ≤ 300 by omega) (Nat.lt_succ_self _) hw hT hF c336 c352 c340 c362 (lv_sub hl [0] rfl)
  · have ex345 : x345.toInt = (1 : Int) := by rw [show x345 = 1 from c346.symm.trans c352]; decide
    obtain ⟨x363, c364, rx363, tx363⟩ := hT.rda (lo := 0) (hi := 400) (i := 1) kM_at3 rfl rfl (by decide)
    have g349 : x363.toInt = f2_.toInt + 1 := by have q := g349; simp only [cf2_, c364] at q; omega
    have g350 : x347.toInt = f1_.toInt + 1 := by have q := g350; simp only [cf1_, c348] at q; omega
    refine lv_if_ne (tgt := 9) hx hb dX12_term_4 (by decide) (fun _ => ?_) (fun c => absurd c (by decide))
    exact L9 ((60 - x347.toInt).toNat + 1) x343 x347 x363 H locs ls w321 (show 0 ≤ x343.toInt by omega) (show x343.toInt ≤ 400 by omega) (show 1 ≤ x347.toInt by omega) (show x347.toInt ≤ 60 by omega) (show 0 ≤ x363.toInt by omega) (show x363.toInt ≤ 300 by omega) (show 3 * x363.toInt + 11 ≤ 3 * f2_.toInt + 14 * (x347.toInt - f1_.toInt) by omega) (show f1_.toInt + 1 ≤ x347.toInt by omega) (show x363.toInt ≤ 300 by omega) (Nat.lt_succ_self _) hw hT hF c344 c352 c348 c364 (lv_sub hl [0] rfl)
abbrev P_X12_sum_2 (ad : Nat → Nat) (cy : Nat → ClassId) (B : Int) (qr : Nat) (s1 : Int)  (w0 : va_W) : Int32 → va_W → Prop := fun r u => TW ksM ad cy B qr 12 u ∧ FE ksM [(12, 14, 14), (12, 15, 15), (12, 16, 16), (12, 18, 18), (61, 0, 2400), (62, 0, 7)] w0 u ∧ ((r = 0 ∧ (∃ y : Int32, gi u 0 1 = y ∧ 1 ≤ y.toInt ∧ y.toInt ≤ 400) ∧ (∃ y : Int32, gi u 0 15 = y ∧ 1 ≤ y.toInt ∧ y.toInt ≤ 3205) ∧ (∃ y : Int32, gi u 0 17 = y ∧ 1 ≤ y.toInt ∧ y.toInt ≤ 1)) ∨ (r = 0 ∧ (∃ y : Int32, gi u 0 1 = y ∧ 0 ≤ y.toInt ∧ y.toInt ≤ 400) ∧ (∃ y : Int32, gi u 0 15 = y ∧ 1 ≤ y.toInt ∧ y.toInt ≤ 3205) ∧ (∃ y : Int32, gi u 0 17 = y ∧ 1 ≤ y.toInt ∧ y.toInt ≤ 1)) ∨ (r = 1 ∧ (∃ y : Int32, gi u 0 1 = y ∧ 1 ≤ y.toInt ∧ y.toInt ≤ 400) ∧ (∃ y : Int32, gi u 0 17 = y ∧ 1 ≤ y.toInt ∧ y.toInt ≤ 1) ∧ (∃ y : Int32, gi u 0 18 = y ∧ 1 ≤ y.toInt ∧ y.toInt ≤ 60) ∧ (3 * (gi u 3 1).toInt + 11 ≤ 3 * (gi w0 3 1).toInt + 14 * ((gi u 0 18).toInt - (gi w0 0 18).toInt)) ∧ ((gi w0 0 18).toInt + 1 ≤ (gi u 0 18).toInt)) ∨ (r = 1 ∧ (∃ y : Int32, gi u 0 1 = y ∧ 0 ≤ y.toInt ∧ y.toInt ≤ 400) ∧ (∃ y : Int32, gi u 0 17 = y ∧ 1 ≤ y.toInt ∧ y.toInt ≤ 1) ∧ (∃ y : Int32, gi u 0 18 = y ∧ 1 ≤ y.toInt ∧ y.toInt ≤ 60) ∧ (3 * (gi u 3 1).toInt + 11 ≤ 3 * (gi w0 3 1).toInt + 14 * ((gi u 0 18).toInt - (gi w0 0 18).toInt)) ∧ ((gi w0 0 18).toInt + 1 ≤ (gi u 0 18).toInt)))
set_option maxHeartbeats 4000000 in
set_option maxRecDepth 100000 in
theorem k_X12_sum_2 (l : Launch) (adK adV : Nat → Nat) (dC : Nat → ClassId) (dI : Nat → Nat → Nat) (cy : Nat → ClassId) (ad : Nat → Nat) (B : Int) (hB0 : 100000 ≤ B) (hB1 : B ≤ 1073741824) (qr : Nat) (s1 : Int)   (w0 : va_W) (sz : Nat) (hT : TW ksM ad cy B qr 12 w0) (cf0_ : gi w0 0 17 = 1) (f1_ : Int32) (cf1_ : gi w0 0 18 = f1_) (rf1_ : 0 ≤ f1_.toInt) (tf1_ : f1_.toInt ≤ 60) (f2_ : Int32) (cf2_ : gi w0 3 1 = f2_) (rf2_ : 0 ≤ f2_.toInt) (tf2_ : f2_.toInt ≤ 400) (pr0_ : 3 * f2_.toInt ≤ 14 * f1_.toInt + 60) (pr1_ : f2_.toInt ≤ 300) : Met l yX12_sum wsX12_sum ({ frames := 6, cells := 0, slots := 0, locals := 121 }) (va_Pc [.ref (ad 0)] (wpreS adK adV dC dI cy sz w0)) (va_Qi (P_X12_sum_2 ad cy B qr s1  w0) (fun u : va_W => wpost dC dI cy (va_A w0 sz) u) (va_A w0 sz)) 0 0 (va_A w0 sz) := by
  refine Met.ofW (cc := cX12_sum) (maxL := 2) (ret := (some .boolean)) (by decide) rfl ?_
  intro p e s m args below meth c s₁ Bk hml hv
  obtain ⟨rfl, ⟨hsz, hP, hK, hD0⟩, hE, hSR⟩ := hv
  have hx := Bk.exec
  have hb := Bk.bytes
  have hr := Bk.returns
  have hlocks := Bk.notSynchronized
  have hC : CallFix p m c cX12_sum 2 s _ wsX12_sum RX12 := ⟨hx, hb, hml, findClass_of_methodNamed Bk.named, atoms_spec (ws := wsX12_sum) Bk.pre⟩
  subst hsz
  have hD := hD0.self (sz := s.heap.size)
  generalize hAe : va_A w0 s.heap.size = A at hD hE ⊢
  have hA : ∀ q : Nat, s.heap.size ≤ q → A q := fun q h => by rw [← hAe]; exact Or.inr h
  have hw : Wd dC dI A s.heap s.heap [] w0 := ⟨hP, hD, va_S.rf⟩
  have hF : FE ksM [(12, 14, 14), (12, 15, 15), (12, 16, 16), (12, 18, 18), (61, 0, 2400), (62, 0, 7)] w0 w0 := FE.rf
  have hl := lv_entry ([.ref (ad 0)]) (n := 2) (Nat.le_of_ble_eq_true rfl)
  rw [lg_entry_eq]
  generalize (lg_sl ([.ref (ad 0)]) ++ List.replicate (2 - (lg_sl ([.ref (ad 0)])).length) Slot.unset).toArray = ls at hl ⊢
  have hl : lv_has ls 2 [(0, .ref (ad 0))] := hl
  generalize hloc : ([] : List Loc) = locs at hw ⊢
  have hinX12 : ∀ w ∈ u_ws RX12 TX12 42, w ∈ wsX12_sum := fun _ h => List.mem_cons_of_mem _ (List.mem_append_right _ (h))
  have L9 : ∀ (n9 : Nat) (f9_0_1 : Int32) (f9_0_18 : Int32) (f9_3_1 : Int32) (H : Heap) (locs : List Loc) (ls : Array Slot) (w1 : va_W), 0 ≤ f9_0_1.toInt → f9_0_1.toInt ≤ 400 → 1 ≤ f9_0_18.toInt → f9_0_18.toInt ≤ 60 → 0 ≤ f9_3_1.toInt → f9_3_1.toInt ≤ 300 → (3 * f9_3_1.toInt + 11 ≤ 3 * f2_.toInt + 14 * (f9_0_18.toInt - f1_.toInt)) → (f1_.toInt + 1 ≤ f9_0_18.toInt) → (f9_3_1.toInt ≤ 300) → (60 - f9_0_18.toInt).toNat < n9 → Wd dC dI A s.heap H locs w1 → TW ksM ad cy B qr 12 w1 → FE ksM [(12, 14, 14), (12, 15, 15), (12, 16, 16), (12, 18, 18), (61, 0, 2400), (62, 0, 7)] w0 w1 → gi w1 0 1 = f9_0_1 → gi w1 0 17 = 1 → gi w1 0 18 = f9_0_18 → gi w1 3 1 = f9_3_1 → lv_has ls 2 [(0, .ref (ad 0))] → W p l e ({ frames := 6, cells := 0, slots := 0, locals := 121 }) s m (List.toArray [.ref (ad 0)]) below meth c H locs 0 0 (MQ below (va_Qi (P_X12_sum_2 ad cy B qr s1  w0) (fun u : va_W => wpost dC dI cy A u) A) (List.toArray [.ref (ad 0)]) s 0 0 A) (F0 m 9 ls []) := by
    intro n9
    induction n9 with
    | zero => intro f9_0_1 f9_0_18 f9_3_1 H locs ls w1 r2 t3 r6 t7 r9 t10 hcr9_0 hcr9_1 hcr9_2 hm9 hw hT hF c4 c5 c8 c11 hl; omega
    | succ n9 ih9 =>
      intro f9_0_1 f9_0_18 f9_3_1 H locs ls w1 r2 t3 r6 t7 r9 t10 hcr9_0 hcr9_1 hcr9_2 hm9 hw hT hF c4 c5 c8 c11 hl
      have J27 : ∀ (f27_0_14 : Int32) (H : Heap) (locs : List Loc) (ls : Array Slot) (w12 : va_W), 1 ≤ f9_0_1.toInt → f9_0_1.toInt ≤ 400 → 0 ≤ f27_0_14.toInt → f27_0_14.toInt ≤ 399 → 1 ≤ f9_0_18.toInt → f9_0_18.toInt ≤ 60 → 0 ≤ f9_3_1.toInt → f9_3_1.toInt ≤ 300 → (3 * f9_3_1.toInt + 11 ≤ 3 * f2_.toInt + 14 * (f9_0_18.toInt - f1_.toInt)) → (f1_.toInt + 1 ≤ f9_0_18.toInt) → (f9_3_1.toInt ≤ 300) → Wd dC dI A s.heap H locs w12 → TW ksM ad cy B qr 12 w12 → FE ksM [(12, 14, 14), (12, 15, 15), (12, 16, 16), (12, 18, 18), (61, 0, 2400), (62, 0, 7)] w0 w12 → gi w12 0 1 = f9_0_1 → gi w12 0 14 = f27_0_14 → gi w12 0 17 = 1 → gi w12 0 18 = f9_0_18 → gi w12 3 1 = f9_3_1 → lv_has ls 2 [(0, .ref (ad 0))] → W p l e ({ frames := 6, cells := 0, slots := 0, locals := 121 }) s m (List.toArray [.ref (ad 0)]) below meth c H locs 0 0 (MQ below (va_Qi (P_X12_sum_2 ad cy B qr s1  w0) (fun u : va_W => wpost dC dI cy A u) A) (List.toArray [.ref (ad 0)]) s 0 0 A) (F0 m 27 ls []) := by
        intro f27_0_14 H locs ls w12 r13 t14 r16 t17 r20 t21 r23 t24 hcr27_0 hcr27_1 hcr27_2 hw hT hF c15 c18 c19 c22 c25 hl
        refine lv_aload_n hx hb dX12_sum_27 rfl (lv_at hl 0 rfl) ?_
        refine tk_getA hC hK hw hT hinX12 kM_at0 (by decide) rfl 0 (by decide) (List.mem_of_getElem? (i := 1) rfl) rfl rfl dX12_sum_28 ?_
        refine lv_aload_n hx hb dX12_sum_31 rfl (lv_at hl 0 rfl) ?_
        refine tk_geti hC hK hw hT hinX12 kM_at0 (by decide) rfl 14 (by decide) (List.mem_of_getElem? (i := 2) rfl) rfl rfl dX12_sum_32 (fun x26 c27 rx26 tx26 => ?_)
        refine wk_top f27_0_14 (c27.symm.trans c18) ?_
        refine tk_bald hC hK hw hT kM_at1 rfl rfl (show 0 ≤ f27_0_14.toInt by omega) (show f27_0_14.toInt < 400 by omega) dX12_sum_35 (fun x28 c29 rx28 tx28 => ?_)
        have c29 : gi w12 1 (f27_0_14.toInt).toNat = x28 := (congrArg (gi w12 1) (congrArg Int.toNat (show f27_0_14.toInt = f27_0_14.toInt by omega))).trans c29
        refine lv_bipush (v := 43) hx hb dX12_sum_36 (by decide) ?_
        refine lv_icmp_ne (tgt := 45) hx hb dX12_sum_38 (by decide) (fun c30 => ?_) (fun c30 => ?_)
        · have c30 : ¬ x28.toInt = (43 : Int) := wk_eqF c30
          refine lv_iconst (v := 3) hx hb dX12_sum_45 (by decide) ?_
          refine lv_istore_n (lv' := [(1, .int 3), (0, .ref (ad 0))]) hx hb dX12_sum_46 rfl hl (by decide) rfl (fun ls hl => ?_)
          refine lv_aload_n hx hb dX12_sum_47 rfl (lv_at hl 1 rfl) ?_
          refine lv_dup hx hb dX12_sum_48 rfl ?_
          refine tk_geti hC hK hw hT hinX12 kM_at0 (by decide) rfl 14 (by decide) (List.mem_of_getElem? (i := 2) rfl) rfl rfl dX12_sum_49 (fun x31 c32 rx31 tx31 => ?_)
          refine wk_top f27_0_14 (c32.symm.trans c18) ?_
          refine lv_iconst (v := 1) hx hb dX12_sum_52 (by decide) ?_
          refine lv_iadd hx hb dX12_sum_53 ?_
          refine lv_topi (fun x33 ex33 => ?_)
          have ex33 : x33.toInt = f27_0_14.toInt + (1 : Int) := by rw [ex33]; exact wk_add (show (-2147483648) ≤ f27_0_14.toInt + (1 : Int) by omega) (show f27_0_14.toInt + (1 : Int) ≤ 2147483647 by omega)
          refine tk_puti hC hK hw hT hinX12 tyX12_ok nmX12 kM_at0 (by decide) rfl rfl 14 (by decide) (List.mem_of_getElem? (i := 2) rfl) rfl rfl rfl rfl (show 0 ≤ x33.toInt by omega) (show x33.toInt ≤ 400 by omega) dX12_sum_54 (fun H locs w34 hw hT k36 c35 => ?_)
          have hF := hF.put kM_at0 (k := 14) (by decide) k36
          have c37 := k36.gi (Or.inr (by decide)) c15
          have c38 := k36.gi (Or.inr (by decide)) c19
          have c39 := k36.gi (Or.inr (by decide)) c22
          have c40 := k36.gi (Or.inr (by decide)) c25
          have c41 := k36.gi (Or.inl (tk_ne kM_at1 kM_at0 (by decide))) c29
          refine lv_aload_n hx hb dX12_sum_57 rfl (lv_at hl 1 rfl) ?_
          refine tk_Vi hC hK hw hT hA hE hSR kM_at0 (by decide) rfl (k_X12_term_2 l adK adV dC dI cy ad B (by omega) (by omega) qr s1    w34 H.size hT c38 f9_0_18 c39 (show 0 ≤ f9_0_18.toInt by omega) (show f9_0_18.toInt ≤ 60 by omega) f9_3_1 c40 (show 0 ≤ f9_3_1.toInt by omega) (show f9_3_1.toInt ≤ 400 by omega) (show 3 * f9_3_1.toInt ≤ 14 * f9_0_18.toInt + 60 by omega) (show f9_3_1.toInt ≤ 300 by omega)) (cwV 0 hC.2.2.2.2 gX12_sum_X12_term rfl rfl rfl (by decide +kernel) ⟨Nat.le_of_ble_eq_true rfl, Nat.le_of_ble_eq_true rfl⟩) rfl hl.1 rfl (Nat.le_of_ble_eq_true rfl) dX12_sum_58 (fun r42 w44 H locs hp43 hw => ?_)
          obtain ⟨hT, k45, hg74⟩ := hp43
          have hF := hF.tr k45 (by decide)
          have c75 := k45.gi kM_at0 (by decide) c37
          have c76 := k45.gi kM_at0 (by decide) c38
          have c77 := k45.gi kM_at1 rfl c41
          rcases hg74 with ⟨rfl, ⟨x46, c47, rx46, tx46⟩, ⟨x48, c49, rx48, tx48⟩, ⟨x50, c51, rx50, tx50⟩⟩ | ⟨rfl, ⟨x52, c53, rx52, tx52⟩, ⟨x54, c55, rx54, tx54⟩, ⟨x56, c57, rx56, tx56⟩⟩ | ⟨rfl, ⟨x58, c59, rx58, tx58⟩, ⟨x60, c61, rx60, tx60⟩, ⟨x62, c63, rx62, tx62⟩, g64, g65⟩ | ⟨rfl, ⟨x66, c67, rx66, tx66⟩, ⟨x68, c69, rx68, tx68⟩, ⟨x70, c71, rx70, tx70⟩, g72, g73⟩
          · have ex46 : x46.toInt = f9_0_1.toInt := by rw [← c75.symm.trans c47]
            have ex50 : x50.toInt = (1 : Int) := by rw [show x50 = 1 from c51.symm.trans c76]; decide
            obtain ⟨x78, c79, rx78, tx78⟩ := hT.rda (lo := 0) (hi := 400) (i := 1) kM_at3 rfl rfl (by decide)
            obtain ⟨x80, c81, rx80, tx80⟩ := hT.rdi (lo := 0) (hi := 60) (k := 18) kM_at0 (by decide) rfl
            refine lv_if_ne (tgt := 66) hx hb dX12_sum_61 (by decide) (fun c => absurd (by decide) c) (fun _ => ?_)
            refine lv_iconst (v := 0) hx hb dX12_sum_64 (by decide) ?_
            exact tk_zret hC hr rfl hlocks hK ⟨hT, hF, (Or.inl ⟨rfl, ⟨f9_0_1, c75, (show 1 ≤ f9_0_1.toInt by omega), (show f9_0_1.toInt ≤ 400 by omega)⟩, ⟨x48, c49, (show 1 ≤ x48.toInt by omega), (show x48.toInt ≤ 3205 by omega)⟩, ⟨1, c76, (by decide), (by decide)⟩⟩)⟩ hw dX12_sum_65
          · have ex52 : x52.toInt = f9_0_1.toInt := by rw [← c75.symm.trans c53]
            have ex56 : x56.toInt = (1 : Int) := by rw [show x56 = 1 from c57.symm.trans c76]; decide
            obtain ⟨x82, c83, rx82, tx82⟩ := hT.rda (lo := 0) (hi := 400) (i := 1) kM_at3 rfl rfl (by decide)
            obtain ⟨x84, c85, rx84, tx84⟩ := hT.rdi (lo := 0) (hi := 60) (k := 18) kM_at0 (by decide) rfl
            refine lv_if_ne (tgt := 66) hx hb dX12_sum_61 (by decide) (fun c => absurd (by decide) c) (fun _ => ?_)
            refine lv_iconst (v := 0) hx hb dX12_sum_64 (by decide) ?_
            exact tk_zret hC hr rfl hlocks hK ⟨hT, hF, (Or.inl ⟨rfl, ⟨f9_0_1, c75, (show 1 ≤ f9_0_1.toInt by omega), (show f9_0_1.toInt ≤ 400 by omega)⟩, ⟨x54, c55, (show 1 ≤ x54.toInt by omega), (show x54.toInt ≤ 3205 by omega)⟩, ⟨1, c76, (by decide), (by decide)⟩⟩)⟩ hw dX12_sum_65
          · have ex58 : x58.toInt = f9_0_1.toInt := by rw [← c75.symm.trans c59]
            have ex60 : x60.toInt = (1 : Int) := by rw [show x60 = 1 from c61.symm.trans c76]; decide
            obtain ⟨x86, c87, rx86, tx86⟩ := hT.rda (lo := 0) (hi := 400) (i := 1) kM_at3 rfl rfl (by decide)
            have g64 : 3 * x86.toInt + 11 ≤ 3 * f9_3_1.toInt + 14 * (x62.toInt - f9_0_18.toInt) := by have q := g64; simp only [c40, c87, c39, c63] at q; omega
            have g65 : f9_0_18.toInt + 1 ≤ x62.toInt := by have q := g65; simp only [c39, c63] at q; omega
            refine lv_if_ne (tgt := 66) hx hb dX12_sum_61 (by decide) (fun _ => ?_) (fun c => absurd c (by decide))
            refine lv_aload_n hx hb dX12_sum_66 rfl (lv_at hl 1 rfl) ?_
            refine lv_iload_n hx hb dX12_sum_67 rfl (lv_at hl 0 rfl) ?_
            refine lv_iconst (v := 0) hx hb dX12_sum_68 (by decide) ?_
            refine tk_Vv hC hK hw hT hA hE hSR kM_at0 (by decide) rfl (k_X12_puts_2 l adK adV dC dI cy ad B (by omega) (by omega) qr s1   3 (by decide) (by decide) 0 w44 H.size hT c76 x86 c87 (show 0 ≤ x86.toInt by omega) (show x86.toInt ≤ 400 by omega) (show x86.toInt ≤ 399 by omega)) (cwV 2 hC.2.2.2.2 gX12_sum_X12_puts rfl rfl rfl (by decide +kernel) ⟨Nat.le_of_ble_eq_true rfl, Nat.le_of_ble_eq_true rfl⟩) rfl hl.1 rfl (Nat.le_of_ble_eq_true rfl) dX12_sum_69 (fun w92 H locs hp91 hw => ?_)
            obtain ⟨hT, k93, hg97⟩ := hp91
            have hF := hF.tr k93 (by decide)
            have c98 := k93.gi kM_at0 (by decide) c75
            have c99 := k93.gi kM_at0 (by decide) c76
            have c100 := k93.gi kM_at1 rfl c77
            have c101 := k93.gi kM_at0 (by decide) c63
            obtain ⟨⟨x94, c95, rx94, tx94⟩, g96⟩ := hg97
            have ex94 : x94.toInt = (1 : Int) := by rw [show x94 = 1 from c95.symm.trans c99]; decide
            obtain ⟨x102, c103, rx102, tx102⟩ := hT.rda (lo := 0) (hi := 400) (i := 1) kM_at3 rfl rfl (by decide)
            have g96 : x102.toInt = x86.toInt + 1 := by have q := g96; simp only [c87, c103] at q; omega
            refine lv_goto (tgt := 9) hx hb dX12_sum_72 (by decide) ?_
            exact ih9 f9_0_1 x62 x102 H locs ls w92 (show 0 ≤ f9_0_1.toInt by omega) (show f9_0_1.toInt ≤ 400 by omega) (show 1 ≤ x62.toInt by omega) (show x62.toInt ≤ 60 by omega) (show 0 ≤ x102.toInt by omega) (show x102.toInt ≤ 300 by omega) (show 3 * x102.toInt + 11 ≤ 3 * f2_.toInt + 14 * (x62.toInt - f1_.toInt) by omega) (show f1_.toInt + 1 ≤ x62.toInt by omega) (show x102.toInt ≤ 300 by omega) (show (60 - x62.toInt).toNat < n9 by omega) hw hT hF c98 c99 c101 c103 (lv_sub hl [1] rfl)
          · have ex66 : x66.toInt = f9_0_1.toInt := by rw [← c75.symm.trans c67]
            have ex68 : x68.toInt = (1 : Int) := by rw [show x68 = 1 from c69.symm.trans c76]; decide
            obtain ⟨x88, c89, rx88, tx88⟩ := hT.rda (lo := 0) (hi := 400) (i := 1) kM_at3 rfl rfl (by decide)
            have g72 : 3 * x88.toInt + 11 ≤ 3 * f9_3_1.toInt + 14 * (x70.toInt - f9_0_18.toInt) := by have q := g72; simp only [c40, c89, c39, c71] at q; omega
            have g73 : f9_0_18.toInt + 1 ≤ x70.toInt := by have q := g73; simp only [c39, c71] at q; omega
            refine lv_if_ne (tgt := 66) hx hb dX12_sum_61 (by decide) (fun _ => ?_) (fun c => absurd c (by decide))
            refine lv_aload_n hx hb dX12_sum_66 rfl (lv_at hl 1 rfl) ?_
            refine lv_iload_n hx hb dX12_sum_67 rfl (lv_at hl 0 rfl) ?_
            refine lv_iconst (v := 0) hx hb dX12_sum_68 (by decide) ?_
            refine tk_Vv hC hK hw hT hA hE hSR kM_at0 (by decide) rfl (k_X12_puts_2 l adK adV dC dI cy ad B (by omega) (by omega) qr s1   3 (by decide) (by decide) 0 w44 H.size hT c76 x88 c89 (show 0 ≤ x88.toInt by omega) (show x88.toInt ≤ 400 by omega) (show x88.toInt ≤ 399 by omega)) (cwV 2 hC.2.2.2.2 gX12_sum_X12_puts rfl rfl rfl (by decide +kernel) ⟨Nat.le_of_ble_eq_true rfl, Nat.le_of_ble_eq_true rfl⟩) rfl hl.1 rfl (Nat.le_of_ble_eq_true rfl) dX12_sum_69 (fun w106 H locs hp105 hw => ?_)
            obtain ⟨hT, k107, hg111⟩ := hp105
            have hF := hF.tr k107 (by decide)
            have c112 := k107.gi kM_at0 (by decide) c75
            have c113 := k107.gi kM_at0 (by decide) c76
            have c114 := k107.gi kM_at1 rfl c77
            have c115 := k107.gi kM_at0 (by decide) c71
            obtain ⟨⟨x108, c109, rx108, tx108⟩, g110⟩ := hg111
            have ex108 : x108.toInt = (1 : Int) := by rw [show x108 = 1 from c109.symm.trans c113]; decide
            obtain ⟨x116, c117, rx116, tx116⟩ := hT.rda (lo := 0) (hi := 400) (i := 1) kM_at3 rfl rfl (by decide)
            have g110 : x116.toInt = x88.toInt + 1 := by have q := g110; simp only [c89, c117] at q; omega
            refine lv_goto (tgt := 9) hx hb dX12_sum_72 (by decide) ?_
            exact ih9 f9_0_1 x70 x116 H locs ls w106 (show 0 ≤ f9_0_1.toInt by omega) (show f9_0_1.toInt ≤ 400 by omega) (show 1 ≤ x70.toInt by omega) (show x70.toInt ≤ 60 by omega) (show 0 ≤ x116.toInt by omega) (show x116.toInt ≤ 300 by omega) (show 3 * x116.toInt + 11 ≤ 3 * f2_.toInt + 14 * (x70.toInt - f1_.toInt) by omega) (show f1_.toInt + 1 ≤ x70.toInt by omega) (show x116.toInt ≤ 300 by omega) (show (60 - x70.toInt).toNat < n9 by omega) hw hT hF c112 c113 c115 c117 (lv_sub hl [1] rfl)
        · have c30 : x28.toInt = (43 : Int) := wk_eq.mp c30
          refine lv_iconst (v := 2) hx hb dX12_sum_41 (by decide) ?_
          refine lv_goto (tgt := 46) hx hb dX12_sum_42 (by decide) ?_
          refine lv_istore_n (lv' := [(1, .int 2), (0, .ref (ad 0))]) hx hb dX12_sum_46 rfl hl (by decide) rfl (fun ls hl => ?_)
          refine lv_aload_n hx hb dX12_sum_47 rfl (lv_at hl 1 rfl) ?_
          refine lv_dup hx hb dX12_sum_48 rfl ?_
          refine tk_geti hC hK hw hT hinX12 kM_at0 (by decide) rfl 14 (by decide) (List.mem_of_getElem? (i := 2) rfl) rfl rfl dX12_sum_49 (fun x118 c119 rx118 tx118 => ?_)
          refine wk_top f27_0_14 (c119.symm.trans c18) ?_
          refine lv_iconst (v := 1) hx hb dX12_sum_52 (by decide) ?_
          refine lv_iadd hx hb dX12_sum_53 ?_
          refine lv_topi (fun x120 ex120 => ?_)
          have ex120 : x120.toInt = f27_0_14.toInt + (1 : Int) := by rw [ex120]; exact wk_add (show (-2147483648) ≤ f27_0_14.toInt + (1 : Int) by omega) (show f27_0_14.toInt + (1 : Int) ≤ 2147483647 by omega)
          refine tk_puti hC hK hw hT hinX12 tyX12_ok nmX12 kM_at0 (by decide) rfl rfl 14 (by decide) (List.mem_of_getElem? (i := 2) rfl) rfl rfl rfl rfl (show 0 ≤ x120.toInt by omega) (show x120.toInt ≤ 400 by omega) dX12_sum_54 (fun H locs w121 hw hT k123 c122 => ?_)
          have hF := hF.put kM_at0 (k := 14) (by decide) k123
          have c124 := k123.gi (Or.inr (by decide)) c15
          have c125 := k123.gi (Or.inr (by decide)) c19
          have c126 := k123.gi (Or.inr (by decide)) c22
          have c127 := k123.gi (Or.inr (by decide)) c25
          have c128 := k123.gi (Or.inl (tk_ne kM_at1 kM_at0 (by decide))) c29
          refine lv_aload_n hx hb dX12_sum_57 rfl (lv_at hl 1 rfl) ?_
          refine tk_Vi hC hK hw hT hA hE hSR kM_at0 (by decide) rfl (k_X12_term_2 l adK adV dC dI cy ad B (by omega) (by omega) qr s1    w121 H.size hT c125 f9_0_18 c126 (show 0 ≤ f9_0_18.toInt by omega) (show f9_0_18.toInt ≤ 60 by omega) f9_3_1 c127 (show 0 ≤ f9_3_1.toInt by omega) (show f9_3_1.toInt ≤ 400 by omega) (show 3 * f9_3_1.toInt ≤ 14 * f9_0_18.toInt + 60 by omega) (show f9_3_1.toInt ≤ 300 by omega)) (cwV 0 hC.2.2.2.2 gX12_sum_X12_term rfl rfl rfl (by decide +kernel) ⟨Nat.le_of_ble_eq_true rfl, Nat.le_of_ble_eq_true rfl⟩) rfl hl.1 rfl (Nat.le_of_ble_eq_true rfl) dX12_sum_58 (fun r129 w131 H locs hp130 hw => ?_)
          obtain ⟨hT, k132, hg161⟩ := hp130
          have hF := hF.tr k132 (by decide)
          have c162 := k132.gi kM_at0 (by decide) c124
          have c163 := k132.gi kM_at0 (by decide) c125
          have c164 := k132.gi kM_at1 rfl c128
          rcases hg161 with ⟨rfl, ⟨x133, c134, rx133, tx133⟩, ⟨x135, c136, rx135, tx135⟩, ⟨x137, c138, rx137, tx137⟩⟩ | ⟨rfl, ⟨x139, c140, rx139, tx139⟩, ⟨x141, c142, rx141, tx141⟩, ⟨x143, c144, rx143, tx143⟩⟩ | ⟨rfl, ⟨x145, c146, rx145, tx145⟩, ⟨x147, c148, rx147, tx147⟩, ⟨x149, c150, rx149, tx149⟩, g151, g152⟩ | ⟨rfl, ⟨x153, c154, rx153, tx153⟩, ⟨x155, c156, rx155, tx155⟩, ⟨x157, c158, rx157, tx157⟩, g159, g160⟩
          · have ex133 : x133.toInt = f9_0_1.toInt := by rw [← c162.symm.trans c134]
            have ex137 : x137.toInt = (1 : Int) := by rw [show x137 = 1 from c138.symm.trans c163]; decide
            obtain ⟨x165, c166, rx165, tx165⟩ := hT.rda (lo := 0) (hi := 400) (i := 1) kM_at3 rfl rfl (by decide)
            obtain ⟨x167, c168, rx167, tx167⟩ := hT.rdi (lo := 0) (hi := 60) (k := 18) kM_at0 (by decide) rfl
            refine lv_if_ne (tgt := 66) hx hb dX12_sum_61 (by decide) (fun c => absurd (by decide) c) (fun _ => ?_)
            refine lv_iconst (v := 0) hx hb dX12_sum_64 (by decide) ?_
            exact tk_zret hC hr rfl hlocks hK ⟨hT, hF, (Or.inl ⟨rfl, ⟨f9_0_1, c162, (show 1 ≤ f9_0_1.toInt by omega), (show f9_0_1.toInt ≤ 400 by omega)⟩, ⟨x135, c136, (show 1 ≤ x135.toInt by omega), (show x135.toInt ≤ 3205 by omega)⟩, ⟨1, c163, (by decide), (by decide)⟩⟩)⟩ hw dX12_sum_65
          · have ex139 : x139.toInt = f9_0_1.toInt := by rw [← c162.symm.trans c140]
            have ex143 : x143.toInt = (1 : Int) := by rw [show x143 = 1 from c144.symm.trans c163]; decide
            obtain ⟨x169, c170, rx169, tx169⟩ := hT.rda (lo := 0) (hi := 400) (i := 1) kM_at3 rfl rfl (by decide)
            obtain ⟨x171, c172, rx171, tx171⟩ := hT.rdi (lo := 0) (hi := 60) (k := 18) kM_at0 (by decide) rfl
            refine lv_if_ne (tgt := 66) hx hb dX12_sum_61 (by decide) (fun c => absurd (by decide) c) (fun _ => ?_)
            refine lv_iconst (v := 0) hx hb dX12_sum_64 (by decide) ?_
            exact tk_zret hC hr rfl hlocks hK ⟨hT, hF, (Or.inl ⟨rfl, ⟨f9_0_1, c162, (show 1 ≤ f9_0_1.toInt by omega), (show f9_0_1.toInt ≤ 400 by omega)⟩, ⟨x141, c142, (show 1 ≤ x141.toInt by omega), (show x141.toInt ≤ 3205 by omega)⟩, ⟨1, c163, (by decide), (by decide)⟩⟩)⟩ hw dX12_sum_65
          · have ex145 : x145.toInt = f9_0_1.toInt := by rw [← c162.symm.trans c146]
            have ex147 : x147.toInt = (1 : Int) := by rw [show x147 = 1 from c148.symm.trans c163]; decide
            obtain ⟨x173, c174, rx173, tx173⟩ := hT.rda (lo := 0) (hi := 400) (i := 1) kM_at3 rfl rfl (by decide)
            have g151 : 3 * x173.toInt + 11 ≤ 3 * f9_3_1.toInt + 14 * (x149.toInt - f9_0_18.toInt) := by have q := g151; simp only [c127, c174, c126, c150] at q; omega
            have g152 : f9_0_18.toInt + 1 ≤ x149.toInt := by have q := g152; simp only [c126, c150] at q; omega
            refine lv_if_ne (tgt := 66) hx hb dX12_sum_61 (by decide) (fun _ => ?_) (fun c => absurd c (by decide))
            refine lv_aload_n hx hb dX12_sum_66 rfl (lv_at hl 1 rfl) ?_
            refine lv_iload_n hx hb dX12_sum_67 rfl (lv_at hl 0 rfl) ?_
            refine lv_iconst (v := 0) hx hb dX12_sum_68 (by decide) ?_
            refine tk_Vv hC hK hw hT hA hE hSR kM_at0 (by decide) rfl (k_X12_puts_2 l adK adV dC dI cy ad B (by omega) (by omega) qr s1   2 (by decide) (by decide) 0 w131 H.size hT c163 x173 c174 (show 0 ≤ x173.toInt by omega) (show x173.toInt ≤ 400 by omega) (show x173.toInt ≤ 399 by omega)) (cwV 2 hC.2.2.2.2 gX12_sum_X12_puts rfl rfl rfl (by decide +kernel) ⟨Nat.le_of_ble_eq_true rfl, Nat.le_of_ble_eq_true rfl⟩) rfl hl.1 rfl (Nat.le_of_ble_eq_true rfl) dX12_sum_69 (fun w179 H locs hp178 hw => ?_)
            obtain ⟨hT, k180, hg184⟩ := hp178
            have hF := hF.tr k180 (by decide)
            have c185 := k180.gi kM_at0 (by decide) c162
            have c186 := k180.gi kM_at0 (by decide) c163
            have c187 := k180.gi kM_at1 rfl c164
            have c188 := k180.gi kM_at0 (by decide) c150
            obtain ⟨⟨x181, c182, rx181, tx181⟩, g183⟩ := hg184
            have ex181 : x181.toInt = (1 : Int) := by rw [show x181 = 1 from c182.symm.trans c186]; decide
            obtain ⟨x189, c190, rx189, tx189⟩ := hT.rda (lo := 0) (hi := 400) (i := 1) kM_at3 rfl rfl (by decide)
            have g183 : x189.toInt = x173.toInt + 1 := by have q := g183; simp only [c174, c190] at q; omega
            refine lv_goto (tgt := 9) hx hb dX12_sum_72 (by decide) ?_
            exact ih9 f9_0_1 x149 x189 H locs ls w179 (show 0 ≤ f9_0_1.toInt by omega) (show f9_0_1.toInt ≤ 400 by omega) (show 1 ≤ x149.toInt by omega) (show x149.toInt ≤ 60 by omega) (show 0 ≤ x189.toInt by omega) (show x189.toInt ≤ 300 by omega) (show 3 * x189.toInt + 11 ≤ 3 * f2_.toInt + 14 * (x149.toInt - f1_.toInt) by omega) (show f1_.toInt + 1 ≤ x149.toInt by omega) (show x189.toInt ≤ 300 by omega) (show (60 - x149.toInt).toNat < n9 by omega) hw hT hF c185 c186 c188 c190 (lv_sub hl [1] rfl)
          · have ex153 : x153.toInt = f9_0_1.toInt := by rw [← c162.symm.trans c154]
            have ex155 : x155.toInt = (1 : Int) := by rw [show x155 = 1 from c156.symm.trans c163]; decide
            obtain ⟨x175, c176, rx175, tx175⟩ := hT.rda (lo := 0) (hi := 400) (i := 1) kM_at3 rfl rfl (by decide)
            have g159 : 3 * x175.toInt + 11 ≤ 3 * f9_3_1.toInt + 14 * (x157.toInt - f9_0_18.toInt) := by have q := g159; simp only [c127, c176, c126, c158] at q; omega
            have g160 : f9_0_18.toInt + 1 ≤ x157.toInt := by have q := g160; simp only [c126, c158] at q; omega
            refine lv_if_ne (tgt := 66) hx hb dX12_sum_61 (by decide) (fun _ => ?_) (fun c => absurd c (by decide))
            refine lv_aload_n hx hb dX12_sum_66 rfl (lv_at hl 1 rfl) ?_
            refine lv_iload_n hx hb dX12_sum_67 rfl (lv_at hl 0 rfl) ?_
            refine lv_iconst (v := 0) hx hb dX12_sum_68 (by decide) ?_
            refine tk_Vv hC hK hw hT hA hE hSR kM_at0 (by decide) rfl (k_X12_puts_2 l adK adV dC dI cy ad B (by omega) (by omega) qr s1   2 (by decide) (by decide) 0 w131 H.size hT c163 x175 c176 (show 0 ≤ x175.toInt by omega) (show x175.toInt ≤ 400 by omega) (show x175.toInt ≤ 399 by omega)) (cwV 2 hC.2.2.2.2 gX12_sum_X12_puts rfl rfl rfl (by decide +kernel) ⟨Nat.le_of_ble_eq_true rfl, Nat.le_of_ble_eq_true rfl⟩) rfl hl.1 rfl (Nat.le_of_ble_eq_true rfl) dX12_sum_69 (fun w193 H locs hp192 hw => ?_)
            obtain ⟨hT, k194, hg198⟩ := hp192
            have hF := hF.tr k194 (by decide)
            have c199 := k194.gi kM_at0 (by decide) c162
            have c200 := k194.gi kM_at0 (by decide) c163
            have c201 := k194.gi kM_at1 rfl c164
            have c202 := k194.gi kM_at0 (by decide) c158
            obtain ⟨⟨x195, c196, rx195, tx195⟩, g197⟩ := hg198
            have ex195 : x195.toInt = (1 : Int) := by rw [show x195 = 1 from c196.symm.trans c200]; decide
            obtain ⟨x203, c204, rx203, tx203⟩ := hT.rda (lo := 0) (hi := 400) (i := 1) kM_at3 rfl rfl (by decide)
            have g197 : x203.toInt = x175.toInt + 1 := by have q := g197; simp only [c176, c204] at q; omega
            refine lv_goto (tgt := 9) hx hb dX12_sum_72 (by decide) ?_
            exact ih9 f9_0_1 x157 x203 H locs ls w193 (show 0 ≤ f9_0_1.toInt by omega) (show f9_0_1.toInt ≤ 400 by omega) (show 1 ≤ x157.toInt by omega) (show x157.toInt ≤ 60 by omega) (show 0 ≤ x203.toInt by omega) (show x203.toInt ≤ 300 by omega) (show 3 * x203.toInt + 11 ≤ 3 * f2_.toInt + 14 * (x157.toInt - f1_.toInt) by omega) (show f1_.toInt + 1 ≤ x157.toInt by omega) (show x203.toInt ≤ 300 by omega) (show (60 - x157.toInt).toNat < n9 by omega) hw hT hF c199 c200 c202 c204 (lv_sub hl [1] rfl)
      refine lv_aload_n hx hb dX12_sum_9 rfl (lv_at hl 0 rfl) ?_
      obtain ⟨x205, c206, rx205, tx205⟩ := hT.rdi (lo := 0) (hi := 400) (k := 14) kM_at0 (by decide) rfl
      refine tk_Vi hC hK hw hT hA hE hSR kM_at0 (by decide) rfl (k_X12_see_1 l adK adV dC dI cy ad B (by omega) (by omega) qr s1    w1 H.size hT x205 c206 (show 0 ≤ x205.toInt by omega) (show x205.toInt ≤ 400 by omega)) (cwV 0 hC.2.2.2.2 gX12_sum_X12_see rfl rfl rfl (by decide +kernel) ⟨Nat.le_of_ble_eq_true rfl, Nat.le_of_ble_eq_true rfl⟩) rfl hl.1 rfl (Nat.le_of_ble_eq_true rfl) dX12_sum_10 (fun r207 w209 H locs hp208 hw => ?_)
      obtain ⟨hT, k210, hg227⟩ := hp208
      have hF := hF.tr k210 (by decide)
      have c228 := k210.gi kM_at0 (by decide) c4
      have c229 := k210.gi kM_at0 (by decide) c5
      have c230 := k210.gi kM_at0 (by decide) c8
      have c231 := k210.gi kM_at3 (by decide) c11
      rcases hg227 with ⟨g211, g212, ⟨x213, c214, rx213, tx213⟩, ⟨x215, c216, rx215, tx215⟩, g217, g218⟩ | ⟨rfl, ⟨x219, c220, rx219, tx219⟩, ⟨x221, c222, rx221, tx221⟩, g223⟩ | ⟨rfl, ⟨x224, c225, rx224, tx224⟩, g226⟩
      · have ex213 : x213.toInt = f9_0_1.toInt := by rw [← c228.symm.trans c214]
        have g217 : (gi w209 1 (x215.toInt).toNat).toInt ≠ 32 := by have q := g217; simp only [c216] at q; omega
        have g218 : (x215.toInt = x205.toInt ∨ (gi w1 1 (x205.toInt).toNat).toInt = 32) := by have q := g218; simp only [c206, c216] at q; omega
        refine lv_bipush (v := 43) hx hb dX12_sum_13 (by decide) ?_
        refine lv_icmp_eq (tgt := 27) hx hb dX12_sum_15 (by decide) (fun c234 => ?_) (fun c234 => ?_)
        · have c234 : r207.toInt = (43 : Int) := wk_eq.mp c234
          exact J27 x215 H locs ls w209 (show 1 ≤ f9_0_1.toInt by omega) (show f9_0_1.toInt ≤ 400 by omega) (show 0 ≤ x215.toInt by omega) (show x215.toInt ≤ 399 by omega) (show 1 ≤ f9_0_18.toInt by omega) (show f9_0_18.toInt ≤ 60 by omega) (show 0 ≤ f9_3_1.toInt by omega) (show f9_3_1.toInt ≤ 300 by omega) (show 3 * f9_3_1.toInt + 11 ≤ 3 * f2_.toInt + 14 * (f9_0_18.toInt - f1_.toInt) by omega) (show f1_.toInt + 1 ≤ f9_0_18.toInt by omega) (show f9_3_1.toInt ≤ 300 by omega)  hw hT hF c228 c216 c229 c230 c231 (lv_sub hl [0] rfl)
        · have c234 : ¬ r207.toInt = (43 : Int) := wk_eqF c234
          refine lv_aload_n hx hb dX12_sum_18 rfl (lv_at hl 0 rfl) ?_
          refine tk_Vi hC hK hw hT hA hE hSR kM_at0 (by decide) rfl (k_X12_see_1 l adK adV dC dI cy ad B (by omega) (by omega) qr s1    w209 H.size hT x215 c216 (show 0 ≤ x215.toInt by omega) (show x215.toInt ≤ 400 by omega)) (cwV 0 hC.2.2.2.2 gX12_sum_X12_see rfl rfl rfl (by decide +kernel) ⟨Nat.le_of_ble_eq_true rfl, Nat.le_of_ble_eq_true rfl⟩) rfl hl.1 rfl (Nat.le_of_ble_eq_true rfl) dX12_sum_19 (fun r235 w237 H locs hp236 hw => ?_)
          obtain ⟨hT, k238, hg255⟩ := hp236
          have hF := hF.tr k238 (by decide)
          have c256 := k238.gi kM_at0 (by decide) c228
          have c257 := k238.gi kM_at0 (by decide) c229
          have c258 := k238.gi kM_at0 (by decide) c230
          have c259 := k238.gi kM_at3 (by decide) c231
          rcases hg255 with ⟨g239, g240, ⟨x241, c242, rx241, tx241⟩, ⟨x243, c244, rx243, tx243⟩, g245, g246⟩ | ⟨rfl, ⟨x247, c248, rx247, tx247⟩, ⟨x249, c250, rx249, tx249⟩, g251⟩ | ⟨rfl, ⟨x252, c253, rx252, tx252⟩, g254⟩
          · have ex241 : x241.toInt = f9_0_1.toInt := by rw [← c256.symm.trans c242]
            have g245 : (gi w237 1 (x243.toInt).toNat).toInt ≠ 32 := by have q := g245; simp only [c244] at q; omega
            have g246 : (x243.toInt = x215.toInt ∨ (gi w209 1 (x215.toInt).toNat).toInt = 32) := by have q := g246; simp only [c216, c244] at q; omega
            refine lv_bipush (v := 45) hx hb dX12_sum_22 (by decide) ?_
            refine lv_icmp_ne (tgt := 75) hx hb dX12_sum_24 (by decide) (fun c262 => ?_) (fun c262 => ?_)
            · have c262 : ¬ r235.toInt = (45 : Int) := wk_eqF c262
              refine lv_iconst (v := 1) hx hb dX12_sum_75 (by decide) ?_
              exact tk_zret hC hr rfl hlocks hK ⟨hT, hF, (Or.inr (Or.inr (Or.inl ⟨rfl, ⟨f9_0_1, c256, (show 1 ≤ f9_0_1.toInt by omega), (show f9_0_1.toInt ≤ 400 by omega)⟩, ⟨1, c257, (by decide), (by decide)⟩, ⟨f9_0_18, c258, (show 1 ≤ f9_0_18.toInt by omega), (show f9_0_18.toInt ≤ 60 by omega)⟩, (by simp only [cf2_, c259, cf1_, c258]; omega), (by simp only [cf1_, c258]; omega)⟩)))⟩ hw dX12_sum_76
            · have c262 : r235.toInt = (45 : Int) := wk_eq.mp c262
              exact J27 x243 H locs ls w237 (show 1 ≤ f9_0_1.toInt by omega) (show f9_0_1.toInt ≤ 400 by omega) (show 0 ≤ x243.toInt by omega) (show x243.toInt ≤ 399 by omega) (show 1 ≤ f9_0_18.toInt by omega) (show f9_0_18.toInt ≤ 60 by omega) (show 0 ≤ f9_3_1.toInt by omega) (show f9_3_1.toInt ≤ 300 by omega) (show 3 * f9_3_1.toInt + 11 ≤ 3 * f2_.toInt + 14 * (f9_0_18.toInt - f1_.toInt) by omega) (show f1_.toInt + 1 ≤ f9_0_18.toInt by omega) (show f9_3_1.toInt ≤ 300 by omega)  hw hT hF c256 c244 c257 c258 c259 (lv_sub hl [0] rfl)
          · have ex247 : x247.toInt = f9_0_1.toInt := by rw [← c256.symm.trans c248]
            have g251 : (x249.toInt = x215.toInt ∨ (gi w209 1 (x215.toInt).toNat).toInt = 32) := by have q := g251; simp only [c216, c250] at q; omega
            refine lv_bipush (v := 45) hx hb dX12_sum_22 (by decide) ?_
            refine lv_icmp_ne (tgt := 75) hx hb dX12_sum_24 (by decide) (fun _ => ?_) (fun c => absurd c (by decide))
            refine lv_iconst (v := 1) hx hb dX12_sum_75 (by decide) ?_
            exact tk_zret hC hr rfl hlocks hK ⟨hT, hF, (Or.inr (Or.inr (Or.inl ⟨rfl, ⟨f9_0_1, c256, (show 1 ≤ f9_0_1.toInt by omega), (show f9_0_1.toInt ≤ 400 by omega)⟩, ⟨1, c257, (by decide), (by decide)⟩, ⟨f9_0_18, c258, (show 1 ≤ f9_0_18.toInt by omega), (show f9_0_18.toInt ≤ 60 by omega)⟩, (by simp only [cf2_, c259, cf1_, c258]; omega), (by simp only [cf1_, c258]; omega)⟩)))⟩ hw dX12_sum_76
          · have ex252 : x252.toInt = f9_0_1.toInt := by rw [← c256.symm.trans c253]
            obtain ⟨x260, c261, rx260, tx260⟩ := hT.rdi (lo := 0) (hi := 400) (k := 14) kM_at0 (by decide) rfl
            have g254 : (x260.toInt = x215.toInt ∨ (gi w209 1 (x215.toInt).toNat).toInt = 32) := by have q := g254; simp only [c216, c261] at q; omega
            refine lv_bipush (v := 45) hx hb dX12_sum_22 (by decide) ?_
            refine lv_icmp_ne (tgt := 75) hx hb dX12_sum_24 (by decide) (fun _ => ?_) (fun c => absurd c (by decide))
            refine lv_iconst (v := 1) hx hb dX12_sum_75 (by decide) ?_
            exact tk_zret hC hr rfl hlocks hK ⟨hT, hF, (Or.inr (Or.inr (Or.inl ⟨rfl, ⟨f9_0_1, c256, (show 1 ≤ f9_0_1.toInt by omega), (show f9_0_1.toInt ≤ 400 by omega)⟩, ⟨1, c257, (by decide), (by decide)⟩, ⟨f9_0_18, c258, (show 1 ≤ f9_0_18.toInt by omega), (show f9_0_18.toInt ≤ 60 by omega)⟩, (by simp only [cf2_, c259, cf1_, c258]; omega), (by simp only [cf1_, c258]; omega)⟩)))⟩ hw dX12_sum_76
      · have ex219 : x219.toInt = f9_0_1.toInt := by rw [← c228.symm.trans c220]
        have g223 : (x221.toInt = x205.toInt ∨ (gi w1 1 (x205.toInt).toNat).toInt = 32) := by have q := g223; simp only [c206, c222] at q; omega
        refine lv_bipush (v := 43) hx hb dX12_sum_13 (by decide) ?_
        refine lv_icmp_eq (tgt := 27) hx hb dX12_sum_15 (by decide) (fun c => absurd c (by decide)) (fun _ => ?_)
        refine lv_aload_n hx hb dX12_sum_18 rfl (lv_at hl 0 rfl) ?_
        refine tk_Vi hC hK hw hT hA hE hSR kM_at0 (by decide) rfl (k_X12_see_1 l adK adV dC dI cy ad B (by omega) (by omega) qr s1    w209 H.size hT x221 c222 (show 0 ≤ x221.toInt by omega) (show x221.toInt ≤ 400 by omega)) (cwV 0 hC.2.2.2.2 gX12_sum_X12_see rfl rfl rfl (by decide +kernel) ⟨Nat.le_of_ble_eq_true rfl, Nat.le_of_ble_eq_true rfl⟩) rfl hl.1 rfl (Nat.le_of_ble_eq_true rfl) dX12_sum_19 (fun r263 w265 H locs hp264 hw => ?_)
        obtain ⟨hT, k266, hg283⟩ := hp264
        have hF := hF.tr k266 (by decide)
        have c284 := k266.gi kM_at0 (by decide) c228
        have c285 := k266.gi kM_at0 (by decide) c229
        have c286 := k266.gi kM_at0 (by decide) c230
        have c287 := k266.gi kM_at3 (by decide) c231
        rcases hg283 with ⟨g267, g268, ⟨x269, c270, rx269, tx269⟩, ⟨x271, c272, rx271, tx271⟩, g273, g274⟩ | ⟨rfl, ⟨x275, c276, rx275, tx275⟩, ⟨x277, c278, rx277, tx277⟩, g279⟩ | ⟨rfl, ⟨x280, c281, rx280, tx280⟩, g282⟩
        · have ex269 : x269.toInt = f9_0_1.toInt := by rw [← c284.symm.trans c270]
          have g273 : (gi w265 1 (x271.toInt).toNat).toInt ≠ 32 := by have q := g273; simp only [c272] at q; omega
          have g274 : (x271.toInt = x221.toInt ∨ (gi w209 1 (x221.toInt).toNat).toInt = 32) := by have q := g274; simp only [c222, c272] at q; omega
          refine lv_bipush (v := 45) hx hb dX12_sum_22 (by decide) ?_
          refine lv_icmp_ne (tgt := 75) hx hb dX12_sum_24 (by decide) (fun c290 => ?_) (fun c290 => ?_)
          · have c290 : ¬ r263.toInt = (45 : Int) := wk_eqF c290
            refine lv_iconst (v := 1) hx hb dX12_sum_75 (by decide) ?_
            exact tk_zret hC hr rfl hlocks hK ⟨hT, hF, (Or.inr (Or.inr (Or.inl ⟨rfl, ⟨f9_0_1, c284, (show 1 ≤ f9_0_1.toInt by omega), (show f9_0_1.toInt ≤ 400 by omega)⟩, ⟨1, c285, (by decide), (by decide)⟩, ⟨f9_0_18, c286, (show 1 ≤ f9_0_18.toInt by omega), (show f9_0_18.toInt ≤ 60 by omega)⟩, (by simp only [cf2_, c287, cf1_, c286]; omega), (by simp only [cf1_, c286]; omega)⟩)))⟩ hw dX12_sum_76
          · have c290 : r263.toInt = (45 : Int) := wk_eq.mp c290
            exact J27 x271 H locs ls w265 (show 1 ≤ f9_0_1.toInt by omega) (show f9_0_1.toInt ≤ 400 by omega) (show 0 ≤ x271.toInt by omega) (show x271.toInt ≤ 399 by omega) (show 1 ≤ f9_0_18.toInt by omega) (show f9_0_18.toInt ≤ 60 by omega) (show 0 ≤ f9_3_1.toInt by omega) (show f9_3_1.toInt ≤ 300 by omega) (show 3 * f9_3_1.toInt + 11 ≤ 3 * f2_.toInt + 14 * (f9_0_18.toInt - f1_.toInt) by omega) (show f1_.toInt + 1 ≤ f9_0_18.toInt by omega) (show f9_3_1.toInt ≤ 300 by omega)  hw hT hF c284 c272 c285 c286 c287 (lv_sub hl [0] rfl)
        · have ex275 : x275.toInt = f9_0_1.toInt := by rw [← c284.symm.trans c276]
          have g279 : (x277.toInt = x221.toInt ∨ (gi w209 1 (x221.toInt).toNat).toInt = 32) := by have q := g279; simp only [c222, c278] at q; omega
          refine lv_bipush (v := 45) hx hb dX12_sum_22 (by decide) ?_
          refine lv_icmp_ne (tgt := 75) hx hb dX12_sum_24 (by decide) (fun _ => ?_) (fun c => absurd c (by decide))
          refine lv_iconst (v := 1) hx hb dX12_sum_75 (by decide) ?_
          exact tk_zret hC hr rfl hlocks hK ⟨hT, hF, (Or.inr (Or.inr (Or.inl ⟨rfl, ⟨f9_0_1, c284, (show 1 ≤ f9_0_1.toInt by omega), (show f9_0_1.toInt ≤ 400 by omega)⟩, ⟨1, c285, (by decide), (by decide)⟩, ⟨f9_0_18, c286, (show 1 ≤ f9_0_18.toInt by omega), (show f9_0_18.toInt ≤ 60 by omega)⟩, (by simp only [cf2_, c287, cf1_, c286]; omega), (by simp only [cf1_, c286]; omega)⟩)))⟩ hw dX12_sum_76
        · have ex280 : x280.toInt = f9_0_1.toInt := by rw [← c284.symm.trans c281]
          obtain ⟨x288, c289, rx288, tx288⟩ := hT.rdi (lo := 0) (hi := 400) (k := 14) kM_at0 (by decide) rfl
          have g282 : (x288.toInt = x221.toInt ∨ (gi w209 1 (x221.toInt).toNat).toInt = 32) := by have q := g282; simp only [c222, c289] at q; omega
          refine lv_bipush (v := 45) hx hb dX12_sum_22 (by decide) ?_
          refine lv_icmp_ne (tgt := 75) hx hb dX12_sum_24 (by decide) (fun _ => ?_) (fun c => absurd c (by decide))
          refine lv_iconst (v := 1) hx hb dX12_sum_75 (by decide) ?_
          exact tk_zret hC hr rfl hlocks hK ⟨hT, hF, (Or.inr (Or.inr (Or.inl ⟨rfl, ⟨f9_0_1, c284, (show 1 ≤ f9_0_1.toInt by omega), (show f9_0_1.toInt ≤ 400 by omega)⟩, ⟨1, c285, (by decide), (by decide)⟩, ⟨f9_0_18, c286, (show 1 ≤ f9_0_18.toInt by omega), (show f9_0_18.toInt ≤ 60 by omega)⟩, (by simp only [cf2_, c287, cf1_, c286]; omega), (by simp only [cf1_, c286]; omega)⟩)))⟩ hw dX12_sum_76
      · have ex224 : x224.toInt = f9_0_1.toInt := by rw [← c228.symm.trans c225]
        obtain ⟨x232, c233, rx232, tx232⟩ := hT.rdi (lo := 0) (hi := 400) (k := 14) kM_at0 (by decide) rfl
        have g226 : (x232.toInt = x205.toInt ∨ (gi w1 1 (x205.toInt).toNat).toInt = 32) := by have q := g226; simp only [c206, c233] at q; omega
        refine lv_bipush (v := 43) hx hb dX12_sum_13 (by decide) ?_
        refine lv_icmp_eq (tgt := 27) hx hb dX12_sum_15 (by decide) (fun c => absurd c (by decide)) (fun _ => ?_)
        refine lv_aload_n hx hb dX12_sum_18 rfl (lv_at hl 0 rfl) ?_
        refine tk_Vi hC hK hw hT hA hE hSR kM_at0 (by decide) rfl (k_X12_see_1 l adK adV dC dI cy ad B (by omega) (by omega) qr s1    w209 H.size hT x232 c233 (show 0 ≤ x232.toInt by omega) (show x232.toInt ≤ 400 by omega)) (cwV 0 hC.2.2.2.2 gX12_sum_X12_see rfl rfl rfl (by decide +kernel) ⟨Nat.le_of_ble_eq_true rfl, Nat.le_of_ble_eq_true rfl⟩) rfl hl.1 rfl (Nat.le_of_ble_eq_true rfl) dX12_sum_19 (fun r291 w293 H locs hp292 hw => ?_)
        obtain ⟨hT, k294, hg311⟩ := hp292
        have hF := hF.tr k294 (by decide)
        have c312 := k294.gi kM_at0 (by decide) c228
        have c313 := k294.gi kM_at0 (by decide) c229
        have c314 := k294.gi kM_at0 (by decide) c230
        have c315 := k294.gi kM_at3 (by decide) c231
        rcases hg311 with ⟨g295, g296, ⟨x297, c298, rx297, tx297⟩, ⟨x299, c300, rx299, tx299⟩, g301, g302⟩ | ⟨rfl, ⟨x303, c304, rx303, tx303⟩, ⟨x305, c306, rx305, tx305⟩, g307⟩ | ⟨rfl, ⟨x308, c309, rx308, tx308⟩, g310⟩
        · have ex297 : x297.toInt = f9_0_1.toInt := by rw [← c312.symm.trans c298]
          have g301 : (gi w293 1 (x299.toInt).toNat).toInt ≠ 32 := by have q := g301; simp only [c300] at q; omega
          have g302 : (x299.toInt = x232.toInt ∨ (gi w209 1 (x232.toInt).toNat).toInt = 32) := by have q := g302; simp only [c233, c300] at q; omega
          refine lv_bipush (v := 45) hx hb dX12_sum_22 (by decide) ?_
          refine lv_icmp_ne (tgt := 75) hx hb dX12_sum_24 (by decide) (fun c318 => ?_) (fun c318 => ?_)
          · have c318 : ¬ r291.toInt = (45 : Int) := wk_eqF c318
            refine lv_iconst (v := 1) hx hb dX12_sum_75 (by decide) ?_
            exact tk_zret hC hr rfl hlocks hK ⟨hT, hF, (Or.inr (Or.inr (Or.inl ⟨rfl, ⟨f9_0_1, c312, (show 1 ≤ f9_0_1.toInt by omega), (show f9_0_1.toInt ≤ 400 by omega)⟩, ⟨1, c313, (by decide), (by decide)⟩, ⟨f9_0_18, c314, (show 1 ≤ f9_0_18.toInt by omega), (show f9_0_18.toInt ≤ 60 by omega)⟩, (by simp only [cf2_, c315, cf1_, c314]; omega), (by simp only [cf1_, c314]; omega)⟩)))⟩ hw dX12_sum_76
          · have c318 : r291.toInt = (45 : Int) := wk_eq.mp c318
            exact J27 x299 H locs ls w293 (show 1 ≤ f9_0_1.toInt by omega) (show f9_0_1.toInt ≤ 400 by omega) (show 0 ≤ x299.toInt by omega) (show x299.toInt ≤ 399 by omega) (show 1 ≤ f9_0_18.toInt by omega) (show f9_0_18.toInt ≤ 60 by omega) (show 0 ≤ f9_3_1.toInt by omega) (show f9_3_1.toInt ≤ 300 by omega) (show 3 * f9_3_1.toInt + 11 ≤ 3 * f2_.toInt + 14 * (f9_0_18.toInt - f1_.toInt) by omega) (show f1_.toInt + 1 ≤ f9_0_18.toInt by omega) (show f9_3_1.toInt ≤ 300 by omega)  hw hT hF c312 c300 c313 c314 c315 (lv_sub hl [0] rfl)
        · have ex303 : x303.toInt = f9_0_1.toInt := by rw [← c312.symm.trans c304]
          have g307 : (x305.toInt = x232.toInt ∨ (gi w209 1 (x232.toInt).toNat).toInt = 32) := by have q := g307; simp only [c233, c306] at q; omega
          refine lv_bipush (v := 45) hx hb dX12_sum_22 (by decide) ?_
          refine lv_icmp_ne (tgt := 75) hx hb dX12_sum_24 (by decide) (fun _ => ?_) (fun c => absurd c (by decide))
          refine lv_iconst (v := 1) hx hb dX12_sum_75 (by decide) ?_
          exact tk_zret hC hr rfl hlocks hK ⟨hT, hF, (Or.inr (Or.inr (Or.inl ⟨rfl, ⟨f9_0_1, c312, (show 1 ≤ f9_0_1.toInt by omega), (show f9_0_1.toInt ≤ 400 by omega)⟩, ⟨1, c313, (by decide), (by decide)⟩, ⟨f9_0_18, c314, (show 1 ≤ f9_0_18.toInt by omega), (show f9_0_18.toInt ≤ 60 by omega)⟩, (by simp only [cf2_, c315, cf1_, c314]; omega), (by simp only [cf1_, c314]; omega)⟩)))⟩ hw dX12_sum_76
        · have ex308 : x308.toInt = f9_0_1.toInt := by rw [← c312.symm.trans c309]
          obtain ⟨x316, c317, rx316, tx316⟩ := hT.rdi (lo := 0) (hi := 400) (k := 14) kM_at0 (by decide) rfl
          have g310 : (x316.toInt = x232.toInt ∨ (gi w209 1 (x232.toInt).toNat).toInt = 32) := by have q := g310; simp only [c233, c317] at q; omega
          refine lv_bipush (v := 45) hx hb dX12_sum_22 (by decide) ?_
          refine lv_icmp_ne (tgt := 75) hx hb dX12_sum_24 (by decide) (fun _ => ?_) (fun c => absurd c (by decide))
          refine lv_iconst (v := 1) hx hb dX12_sum_75 (by decide) ?_
          exact tk_zret hC hr rfl hlocks hK ⟨hT, hF, (Or.inr (Or.inr (Or.inr ⟨rfl, ⟨f9_0_1, c312, (show 0 ≤ f9_0_1.toInt by omega), (show f9_0_1.toInt ≤ 400 by omega)⟩, ⟨1, c313, (by decide), (by decide)⟩, ⟨f9_0_18, c314, (show 1 ≤ f9_0_18.toInt by omega), (show f9_0_18.toInt ≤ 60 by omega)⟩, (by simp only [cf2_, c315, cf1_, c314]; omega), (by simp only [cf1_, c314]; omega)⟩)))⟩ hw dX12_sum_76
  refine lv_aload_n hx hb dX12_sum_0 rfl (lv_at hl 0 rfl) ?_
  refine tk_Vi hC hK hw hT hA hE hSR kM_at0 (by decide) rfl (k_X12_term_2 l adK adV dC dI cy ad B (by omega) (by omega) qr s1    w0 s.heap.size hT cf0_ f1_ cf1_ (show 0 ≤ f1_.toInt by omega) (show f1_.toInt ≤ 60 by omega) f2_ cf2_ (show 0 ≤ f2_.toInt by omega) (show f2_.toInt ≤ 400 by omega) (show 3 * f2_.toInt ≤ 14 * f1_.toInt + 60 by omega) (show f2_.toInt ≤ 300 by omega)) (cwV 0 hC.2.2.2.2 gX12_sum_X12_term rfl rfl rfl (by decide +kernel) ⟨Nat.le_of_ble_eq_true rfl, Nat.le_of_ble_eq_true rfl⟩) rfl hl.1 rfl (Nat.le_of_ble_eq_true rfl) dX12_sum_1 (fun r319 w321 H locs hp320 hw => ?_)
  obtain ⟨hT, k322, hg351⟩ := hp320
  have hF := hF.tr k322 (by decide)
  have c352 := k322.gi kM_at0 (by decide) cf0_
  rcases hg351 with ⟨rfl, ⟨x323, c324, rx323, tx323⟩, ⟨x325, c326, rx325, tx325⟩, ⟨x327, c328, rx327, tx327⟩⟩ | ⟨rfl, ⟨x329, c330, rx329, tx329⟩, ⟨x331, c332, rx331, tx331⟩, ⟨x333, c334, rx333, tx333⟩⟩ | ⟨rfl, ⟨x335, c336, rx335, tx335⟩, ⟨x337, c338, rx337, tx337⟩, ⟨x339, c340, rx339, tx339⟩, g341, g342⟩ | ⟨rfl, ⟨x343, c344, rx343, tx343⟩, ⟨x345, c346, rx345, tx345⟩, ⟨x347, c348, rx347, tx347⟩, g349, g350⟩
  · have ex327 : x327.toInt = (1 : Int) := by rw [show x327 = 1 from c328.symm.trans c352]; decide
    obtain ⟨x353, c354, rx353, tx353⟩ := hT.rda (lo := 0) (hi := 400) (i := 1) kM_at3 rfl rfl (by decide)
    obtain ⟨x355, c356, rx355, tx355⟩ := hT.rdi (lo := 0) (hi := 60) (k := 18) kM_at0 (by decide) rfl
    refine lv_if_ne (tgt := 9) hx hb dX12_sum_4 (by decide) (fun c => absurd (by decide) c) (fun _ => ?_)
    refine lv_iconst (v := 0) hx hb dX12_sum_7 (by decide) ?_
    exact tk_zret hC hr rfl hlocks hK ⟨hT, hF, (Or.inl ⟨rfl, ⟨x323, c324, (show 1 ≤ x323.toInt by omega), (show x323.toInt ≤ 400 by omega)⟩, ⟨x325, c326, (show 1 ≤ x325.toInt by omega), (show x325.toInt ≤ 3205 by omega)⟩, ⟨1, c352, (by decide), (by decide)⟩⟩)⟩ hw dX12_sum_8
  · have ex333 : x333.toInt = (1 : Int) := by rw [show x333 = 1 from c334.symm.trans c352]; decide
    obtain ⟨x357, c358, rx357, tx357⟩ := hT.rda (lo := 0) (hi := 400) (i := 1) kM_at3 rfl rfl (by decide)
    obtain ⟨x359, c360, rx359, tx359⟩ := hT.rdi (lo := 0) (hi := 60) (k := 18) kM_at0 (by decide) rfl
    refine lv_if_ne (tgt := 9) hx hb dX12_sum_4 (by decide) (fun c => absurd (by decide) c) (fun _ => ?_)
    refine lv_iconst (v := 0) hx hb dX12_sum_7 (by decide) ?_
    exact tk_zret hC hr rfl hlocks hK ⟨hT, hF, (Or.inr (Or.inl ⟨rfl, ⟨x329, c330, (show 0 ≤ x329.toInt by omega), (show x329.toInt ≤ 400 by omega)⟩, ⟨x331, c332, (show 1 ≤ x331.toInt by omega), (show x331.toInt ≤ 3205 by omega)⟩, ⟨1, c352, (by decide), (by decide)⟩⟩))⟩ hw dX12_sum_8
  · have ex337 : x337.toInt = (1 : Int) := by rw [show x337 = 1 from c338.symm.trans c352]; decide
    obtain ⟨x361, c362, rx361, tx361⟩ := hT.rda (lo := 0) (hi := 400) (i := 1) kM_at3 rfl rfl (by decide)
    have g341 : 3 * x361.toInt + 11 ≤ 3 * f2_.toInt + 14 * (x339.toInt - f1_.toInt) := by have q := g341; simp only [cf2_, c362, cf1_, c340] at q; omega
    have g342 : f1_.toInt + 1 ≤ x339.toInt := by have q := g342; simp only [cf1_, c340] at q; omega
    refine lv_if_ne (tgt := 9) hx hb dX12_sum_4 (by decide) (fun _ => ?_) (fun c => absurd c (by decide))
    exact L9 ((60 - x339.toInt).toNat + 1) x335 x339 x361 H locs ls w321 (show 0 ≤ x335.toInt by omega) (show x335.toInt ≤ 400 by omega) (show 1 ≤ x339.toInt by omega) (show x339.toInt ≤ 60 by omega) (show 0 ≤ x361.toInt by omega) (show x361.toInt ≤ 300 by omega) (show 3 * x361.toInt + 11 ≤ 3 * f2_.toInt + 14 * (x339.toInt - f1_.toInt) by omega) (show f1_.toInt + 1 ≤ x339.toInt by omega) (show x361.toInt ≤ 300 by omega) (Nat.lt_succ_self _) hw hT hF c336 c352 c340 c362 (lv_sub hl [0] rfl)
  · have ex345 : x345.toInt = (1 : Int) := by rw [show x345 = 1 from c346.symm.trans c352]; decide
    obtain ⟨x363, c364, rx363, tx363⟩ := hT.rda (lo := 0) (hi := 400) (i := 1) kM_at3 rfl rfl (by decide)
    have g349 : 3 * x363.toInt + 11 ≤ 3 * f2_.toInt + 14 * (x347.toInt - f1_.toInt) := by have q := g349; simp only [cf2_, c364, cf1_, c348] at q; omega
    have g350 : f1_.toInt + 1 ≤ x347.toInt := by have q := g350; simp only [cf1_, c348] at q; omega
    refine lv_if_ne (tgt := 9) hx hb dX12_sum_4 (by decide) (fun _ => ?_) (fun c => absurd c (by decide))
    exact L9 ((60 - x347.toInt).toNat + 1) x343 x347 x363 H locs ls w321 (show 0 ≤ x343.toInt by omega) (show x343.toInt ≤ 400 by omega) (show 1 ≤ x347.toInt by omega) (show x347.toInt ≤ 60 by omega) (show 0 ≤ x363.toInt by omega) (show x363.toInt ≤ 300 by omega) (show 3 * x363.toInt + 11 ≤ 3 * f2_.toInt + 14 * (x347.toInt - f1_.toInt) by omega) (show f1_.toInt + 1 ≤ x347.toInt by omega) (show x363.toInt ≤ 300 by omega) (Nat.lt_succ_self _) hw hT hF c344 c352 c348 c364 (lv_sub hl [0] rfl)
abbrev P_X12_settles_6 (ad : Nat → Nat) (cy : Nat → ClassId) (B : Int) (qr : Nat) (s1 : Int)  (w0 : va_W) : va_W → Prop := fun u => TW ksM ad cy B qr 12 u ∧ FE ksM [(12, 19, 19), (12, 22, 22), (61, 0, 2400), (62, 0, 7)] w0 u ∧ (((∃ y : Int32, gi u 0 17 = y ∧ 1 ≤ y.toInt ∧ y.toInt ≤ 1) ∧ (∃ y : Int32, gi u 0 19 = y ∧ (-60) ≤ y.toInt ∧ y.toInt ≤ 10) ∧ (∃ y : Int32, gi u 0 22 = y ∧ 0 ≤ y.toInt ∧ y.toInt ≤ 390) ∧ ((gi u 3 1).toInt + (gi u 0 22).toInt = (gi w0 3 1).toInt + (gi w0 0 22).toInt) ∧ ((gi u 0 22).toInt ≤ (gi w0 0 22).toInt) ∧ ((gi u 0 22).toInt + (gi w0 0 19).toInt ≤ (gi w0 0 22).toInt + (gi u 0 19).toInt) ∧ ((gi u 0 22).toInt ≤ (gi u 0 19).toInt + (gi w0 0 18).toInt) ∧ ((gi u 0 22).toInt ≤ 390) ∧ ((gi u 3 1).toInt ≤ 390) ∧ (brkN w0 ((gi u 0 22).toInt).toNat = brkN w0 ((gi w0 0 22).toInt).toNat)))
set_option maxHeartbeats 4000000 in
set_option maxRecDepth 100000 in
theorem k_X12_settles_6 (l : Launch) (adK adV : Nat → Nat) (dC : Nat → ClassId) (dI : Nat → Nat → Nat) (cy : Nat → ClassId) (ad : Nat → Nat) (B : Int) (hB0 : 100000 ≤ B) (hB1 : B ≤ 1073741824) (qr : Nat) (s1 : Int)   (w0 : va_W) (sz : Nat) (hT : TW ksM ad cy B qr 12 w0) (cf0_ : gi w0 0 17 = 1) (f1_ : Int32) (cf1_ : gi w0 0 18 = f1_) (rf1_ : 0 ≤ f1_.toInt) (tf1_ : f1_.toInt ≤ 60) (f2_ : Int32) (cf2_ : gi w0 0 19 = f2_) (rf2_ : (-100) ≤ f2_.toInt) (tf2_ : f2_.toInt ≤ 10) (f3_ : Int32) (cf3_ : gi w0 0 22 = f3_) (rf3_ : 0 ≤ f3_.toInt) (tf3_ : f3_.toInt ≤ 400) (f4_ : Int32) (cf4_ : gi w0 3 1 = f4_) (rf4_ : 0 ≤ f4_.toInt) (tf4_ : f4_.toInt ≤ 400) (pr0_ : f4_.toInt + f3_.toInt ≤ 390) (pr1_ : f3_.toInt ≤ f2_.toInt + f1_.toInt) (pr2_ : f4_.toInt ≤ 390) (pr3_ : f3_.toInt ≤ 390) : Met l yX12_settles wsX12_settles ({ frames := 2, cells := 0, slots := 0, locals := 34 }) (va_Pc [.ref (ad 0), .int 2] (wpreS adK adV dC dI cy sz w0)) (va_Qv (P_X12_settles_6 ad cy B qr s1  w0) (fun u : va_W => wpost dC dI cy (va_A w0 sz) u) (va_A w0 sz)) 0 0 (va_A w0 sz) := by
  refine Met.ofW (cc := cX12_settles) (maxL := 2) (ret := none) (by decide) rfl ?_
  intro p e s m args below meth c s₁ Bk hml hv
  obtain ⟨rfl, ⟨hsz, hP, hK, hD0⟩, hE, hSR⟩ := hv
  have hx := Bk.exec
  have hb := Bk.bytes
  have hr := Bk.returns
  have hlocks := Bk.notSynchronized
  have hC : CallFix p m c cX12_settles 2 s _ wsX12_settles RX12 := ⟨hx, hb, hml, findClass_of_methodNamed Bk.named, atoms_spec (ws := wsX12_settles) Bk.pre⟩
  subst hsz
  have hD := hD0.self (sz := s.heap.size)
  generalize hAe : va_A w0 s.heap.size = A at hD hE ⊢
  have hA : ∀ q : Nat, s.heap.size ≤ q → A q := fun q h => by rw [← hAe]; exact Or.inr h
  have hw : Wd dC dI A s.heap s.heap [] w0 := ⟨hP, hD, va_S.rf⟩
  have hF : FE ksM [(12, 19, 19), (12, 22, 22), (61, 0, 2400), (62, 0, 7)] w0 w0 := FE.rf
  have hl := lv_entry ([.ref (ad 0), .int 2]) (n := 2) (Nat.le_of_ble_eq_true rfl)
  rw [lg_entry_eq]
  generalize (lg_sl ([.ref (ad 0), .int 2]) ++ List.replicate (2 - (lg_sl ([.ref (ad 0), .int 2])).length) Slot.unset).toArray = ls at hl ⊢
  have hl : lv_has ls 2 [(0, .ref (ad 0)), (1, .int 2)] := hl
  generalize hloc : ([] : List Loc) = locs at hw ⊢
  have hinX12 : ∀ w ∈ u_ws RX12 TX12 42, w ∈ wsX12_settles := fun _ h => List.mem_cons_of_mem _ (List.mem_append_right _ (h))
  have J76 : ∀ (f76_0_19 : Int32) (f76_0_22 : Int32) (f76_3_1 : Int32) (H : Heap) (locs : List Loc) (ls : Array Slot) (w1 : va_W), 0 ≤ f1_.toInt → f1_.toInt ≤ 60 → (-60) ≤ f76_0_19.toInt → f76_0_19.toInt ≤ 10 → 0 ≤ f76_0_22.toInt → f76_0_22.toInt ≤ 390 → 0 ≤ f76_3_1.toInt → f76_3_1.toInt ≤ 390 → (f76_3_1.toInt + f76_0_22.toInt = f4_.toInt + f3_.toInt) → (f76_0_22.toInt ≤ f3_.toInt) → (f76_0_22.toInt + f2_.toInt ≤ f3_.toInt + f76_0_19.toInt) → (f76_0_22.toInt ≤ f76_0_19.toInt + f1_.toInt) → (f76_3_1.toInt ≤ 390) → (f76_0_22.toInt ≤ 390) → (-60 ≤ f76_0_19.toInt) → (brkN w0 (f76_0_22.toInt).toNat = brkN w0 (f3_.toInt).toNat) → Wd dC dI A s.heap H locs w1 → TW ksM ad cy B qr 12 w1 → FE ksM [(12, 19, 19), (12, 22, 22), (61, 0, 2400), (62, 0, 7)] w0 w1 → gi w1 0 17 = 1 → gi w1 0 18 = f1_ → gi w1 0 19 = f76_0_19 → gi w1 0 22 = f76_0_22 → gi w1 3 1 = f76_3_1 → lv_has ls 2 [(0, .ref (ad 0)), (1, .int 2)] → W p l e ({ frames := 2, cells := 0, slots := 0, locals := 34 }) s m (List.toArray [.ref (ad 0), .int 2]) below meth c H locs 0 0 (MQ below (va_Qv (P_X12_settles_6 ad cy B qr s1  w0) (fun u : va_W => wpost dC dI cy A u) A) (List.toArray [.ref (ad 0), .int 2]) s 0 0 A) (F0 m 76 ls []) := by
    intro f76_0_19 f76_0_22 f76_3_1 H locs ls w1 r3 t4 r6 t7 r9 t10 r12 t13 hcr76_0 hcr76_1 hcr76_2 hcr76_3 hcr76_4 hcr76_5 hcr76_6 hcr76_7 hw hT hF c2 c5 c8 c11 c14 hl
    exact tk_vret hC hr hlocks hK ⟨hT, hF, ⟨⟨1, c2, (by decide), (by decide)⟩, ⟨f76_0_19, c8, (show (-60) ≤ f76_0_19.toInt by omega), (show f76_0_19.toInt ≤ 10 by omega)⟩, ⟨f76_0_22, c11, (show 0 ≤ f76_0_22.toInt by omega), (show f76_0_22.toInt ≤ 390 by omega)⟩, (by simp only [cf4_, c14, cf3_, c11]; omega), (by simp only [cf3_, c11]; omega), (by simp only [cf2_, c8, cf3_, c11]; omega), (by simp only [c8, cf1_, c11]; omega), (by simp only [c11]; omega), (by simp only [c14]; omega), (by simp only [cf3_, c11]; omega)⟩⟩ hw dX12_settles_76
  have L0 : ∀ (n0 : Nat) (f0_0_19 : Int32) (f0_0_22 : Int32) (f0_3_1 : Int32) (H : Heap) (locs : List Loc) (ls : Array Slot) (w15 : va_W), 0 ≤ f1_.toInt → f1_.toInt ≤ 60 → (-60) ≤ f0_0_19.toInt → f0_0_19.toInt ≤ 10 → 0 ≤ f0_0_22.toInt → f0_0_22.toInt ≤ 390 → 0 ≤ f0_3_1.toInt → f0_3_1.toInt ≤ 390 → (f0_3_1.toInt + f0_0_22.toInt = f4_.toInt + f3_.toInt) → (f0_0_22.toInt ≤ f3_.toInt) → (f0_0_22.toInt + f2_.toInt ≤ f3_.toInt + f0_0_19.toInt) → (f0_0_22.toInt ≤ f0_0_19.toInt + f1_.toInt) → (f0_3_1.toInt ≤ 390) → (f0_0_22.toInt ≤ 390) → (-60 ≤ f0_0_19.toInt) → (brkN w0 (f0_0_22.toInt).toNat = brkN w0 (f3_.toInt).toNat) → (f0_0_22.toInt - 0).toNat < n0 → Wd dC dI A s.heap H locs w15 → TW ksM ad cy B qr 12 w15 → FE ksM [(12, 19, 19), (12, 22, 22), (61, 0, 2400), (62, 0, 7)] w0 w15 → gi w15 0 17 = 1 → gi w15 0 18 = f1_ → gi w15 0 19 = f0_0_19 → gi w15 0 22 = f0_0_22 → gi w15 3 1 = f0_3_1 → lv_has ls 2 [(0, .ref (ad 0)), (1, .int 2)] → W p l e ({ frames := 2, cells := 0, slots := 0, locals := 34 }) s m (List.toArray [.ref (ad 0), .int 2]) below meth c H locs 0 0 (MQ below (va_Qv (P_X12_settles_6 ad cy B qr s1  w0) (fun u : va_W => wpost dC dI cy A u) A) (List.toArray [.ref (ad 0), .int 2]) s 0 0 A) (F0 m 0 ls []) := by
    intro n0
    induction n0 with
    | zero => intro f0_0_19 f0_0_22 f0_3_1 H locs ls w15 r17 t18 r20 t21 r23 t24 r26 t27 hcr0_0 hcr0_1 hcr0_2 hcr0_3 hcr0_4 hcr0_5 hcr0_6 hcr0_7 hm0 hw hT hF c16 c19 c22 c25 c28 hl; omega
    | succ n0 ih0 =>
      intro f0_0_19 f0_0_22 f0_3_1 H locs ls w15 r17 t18 r20 t21 r23 t24 r26 t27 hcr0_0 hcr0_1 hcr0_2 hcr0_3 hcr0_4 hcr0_5 hcr0_6 hcr0_7 hm0 hw hT hF c16 c19 c22 c25 c28 hl
      refine lv_aload_n hx hb dX12_settles_0 rfl (lv_at hl 0 rfl) ?_
      refine tk_geti hC hK hw hT hinX12 kM_at0 (by decide) rfl 22 (by decide) (List.mem_of_getElem? (i := 1) rfl) rfl rfl dX12_settles_1 (fun x29 c30 rx29 tx29 => ?_)
      refine wk_top f0_0_22 (c30.symm.trans c25) ?_
      refine lv_if_le (tgt := 76) hx hb dX12_settles_4 (by decide) (fun c31 => ?_) (fun c31 => ?_)
      · have c31 : f0_0_22.toInt ≤ (0 : Int) := wk_le.mp c31
        exact J76 f0_0_19 f0_0_22 f0_3_1 H locs ls w15 (show 0 ≤ f1_.toInt by omega) (show f1_.toInt ≤ 60 by omega) (show (-60) ≤ f0_0_19.toInt by omega) (show f0_0_19.toInt ≤ 10 by omega) (show 0 ≤ f0_0_22.toInt by omega) (show f0_0_22.toInt ≤ 390 by omega) (show 0 ≤ f0_3_1.toInt by omega) (show f0_3_1.toInt ≤ 390 by omega) (show f0_3_1.toInt + f0_0_22.toInt = f4_.toInt + f3_.toInt by omega) (show f0_0_22.toInt ≤ f3_.toInt by omega) (show f0_0_22.toInt + f2_.toInt ≤ f3_.toInt + f0_0_19.toInt by omega) (show f0_0_22.toInt ≤ f0_0_19.toInt + f1_.toInt by omega) (show f0_3_1.toInt ≤ 390 by omega) (show f0_0_22.toInt ≤ 390 by omega) (show -60 ≤ f0_0_19.toInt by omega) (show brkN w0 (f0_0_22.toInt).toNat = brkN w0 (f3_.toInt).toNat from hcr0_7)  hw hT hF c16 c19 c22 c25 c28 (lv_sub hl [0, 1] rfl)
      · have c31 : (0 : Int) < f0_0_22.toInt := wk_leF c31
        refine lv_aload_n hx hb dX12_settles_7 rfl (lv_at hl 0 rfl) ?_
        refine tk_getA hC hK hw hT hinX12 kM_at0 (by decide) rfl 21 (by decide) (List.mem_of_getElem? (i := 2) rfl) rfl rfl dX12_settles_8 ?_
        refine lv_aload_n hx hb dX12_settles_11 rfl (lv_at hl 0 rfl) ?_
        refine tk_geti hC hK hw hT hinX12 kM_at0 (by decide) rfl 22 (by decide) (List.mem_of_getElem? (i := 1) rfl) rfl rfl dX12_settles_12 (fun x32 c33 rx32 tx32 => ?_)
        refine wk_top f0_0_22 (c33.symm.trans c25) ?_
        refine lv_iconst (v := 1) hx hb dX12_settles_15 (by decide) ?_
        refine lv_isub hx hb dX12_settles_16 ?_
        refine lv_topi (fun x34 ex34 => ?_)
        have ex34 : x34.toInt = f0_0_22.toInt - (1 : Int) := by rw [ex34]; exact wk_sub (show (-2147483648) ≤ f0_0_22.toInt - (1 : Int) by omega) (show f0_0_22.toInt - (1 : Int) ≤ 2147483647 by omega)
        refine tk_iald hC hK hw hT kM_at9 rfl rfl (show 0 ≤ x34.toInt by omega) (show x34.toInt < 400 by omega) dX12_settles_17 (fun x35 c36 rx35 tx35 => ?_)
        have c36 : gi w15 9 (1 * f0_0_22.toInt + -1).toNat = x35 := (congrArg (gi w15 9) (congrArg Int.toNat (show 1 * f0_0_22.toInt + -1 = x34.toInt by omega))).trans c36
        refine tk_Si hC hK hw hT hA hE hSR (k_X12_strength_1 l adK adV dC dI cy ad B (by omega) (by omega) qr s1   x35 w15 H.size hT ) (va_cwS 1 hC.2.2.2.2 gX12_settles_X12_strength rfl rfl rfl (by decide +kernel) ⟨Nat.le_of_ble_eq_true rfl, Nat.le_of_ble_eq_true rfl⟩) rfl hl.1 rfl (Nat.le_of_ble_eq_true rfl) dX12_settles_18 (fun r37 w39 H locs hp38 hw => ?_)
        obtain ⟨rfl, hg47⟩ := hp38
        rcases hg47 with rfl | ⟨rfl, g41, g42⟩ | ⟨rfl, g43, g44⟩ | ⟨rfl, g45, g46⟩
        · refine lv_iload_n hx hb dX12_settles_21 rfl (lv_at hl 1 rfl) ?_
          refine lv_icmp_lt (tgt := 76) hx hb dX12_settles_22 (by decide) (fun _ => ?_) (fun c => absurd (by decide) c)
          exact J76 f0_0_19 f0_0_22 f0_3_1 H locs ls w15 (show 0 ≤ f1_.toInt by omega) (show f1_.toInt ≤ 60 by omega) (show (-60) ≤ f0_0_19.toInt by omega) (show f0_0_19.toInt ≤ 10 by omega) (show 0 ≤ f0_0_22.toInt by omega) (show f0_0_22.toInt ≤ 390 by omega) (show 0 ≤ f0_3_1.toInt by omega) (show f0_3_1.toInt ≤ 390 by omega) (show f0_3_1.toInt + f0_0_22.toInt = f4_.toInt + f3_.toInt by omega) (show f0_0_22.toInt ≤ f3_.toInt by omega) (show f0_0_22.toInt + f2_.toInt ≤ f3_.toInt + f0_0_19.toInt by omega) (show f0_0_22.toInt ≤ f0_0_19.toInt + f1_.toInt by omega) (show f0_3_1.toInt ≤ 390 by omega) (show f0_0_22.toInt ≤ 390 by omega) (show -60 ≤ f0_0_19.toInt by omega) (show brkN w0 (f0_0_22.toInt).toNat = brkN w0 (f3_.toInt).toNat from hcr0_7)  hw hT hF c16 c19 c22 c25 c28 (lv_sub hl [0, 1] rfl)
        · refine lv_iload_n hx hb dX12_settles_21 rfl (lv_at hl 1 rfl) ?_
          refine lv_icmp_lt (tgt := 76) hx hb dX12_settles_22 (by decide) (fun _ => ?_) (fun c => absurd (by decide) c)
          exact J76 f0_0_19 f0_0_22 f0_3_1 H locs ls w15 (show 0 ≤ f1_.toInt by omega) (show f1_.toInt ≤ 60 by omega) (show (-60) ≤ f0_0_19.toInt by omega) (show f0_0_19.toInt ≤ 10 by omega) (show 0 ≤ f0_0_22.toInt by omega) (show f0_0_22.toInt ≤ 390 by omega) (show 0 ≤ f0_3_1.toInt by omega) (show f0_3_1.toInt ≤ 390 by omega) (show f0_3_1.toInt + f0_0_22.toInt = f4_.toInt + f3_.toInt by omega) (show f0_0_22.toInt ≤ f3_.toInt by omega) (show f0_0_22.toInt + f2_.toInt ≤ f3_.toInt + f0_0_19.toInt by omega) (show f0_0_22.toInt ≤ f0_0_19.toInt + f1_.toInt by omega) (show f0_3_1.toInt ≤ 390 by omega) (show f0_0_22.toInt ≤ 390 by omega) (show -60 ≤ f0_0_19.toInt by omega) (show brkN w0 (f0_0_22.toInt).toNat = brkN w0 (f3_.toInt).toNat from hcr0_7)  hw hT hF c16 c19 c22 c25 c28 (lv_sub hl [0, 1] rfl)
        · refine lv_iload_n hx hb dX12_settles_21 rfl (lv_at hl 1 rfl) ?_
          refine lv_icmp_lt (tgt := 76) hx hb dX12_settles_22 (by decide) (fun c => absurd c (by decide)) (fun _ => ?_)
          refine lv_aload_n hx hb dX12_settles_25 rfl (lv_at hl 0 rfl) ?_
          refine lv_dup hx hb dX12_settles_26 rfl ?_
          refine tk_geti hC hK hw hT hinX12 kM_at0 (by decide) rfl 22 (by decide) (List.mem_of_getElem? (i := 1) rfl) rfl rfl dX12_settles_27 (fun x48 c49 rx48 tx48 => ?_)
          refine wk_top f0_0_22 (c49.symm.trans c25) ?_
          refine lv_iconst (v := 1) hx hb dX12_settles_30 (by decide) ?_
          refine lv_isub hx hb dX12_settles_31 ?_
          refine lv_topi (fun x50 ex50 => ?_)
          have ex50 : x50.toInt = f0_0_22.toInt - (1 : Int) := by rw [ex50]; exact wk_sub (show (-2147483648) ≤ f0_0_22.toInt - (1 : Int) by omega) (show f0_0_22.toInt - (1 : Int) ≤ 2147483647 by omega)
          refine tk_puti hC hK hw hT hinX12 tyX12_ok nmX12 kM_at0 (by decide) rfl rfl 22 (by decide) (List.mem_of_getElem? (i := 1) rfl) rfl rfl rfl rfl (show 0 ≤ x50.toInt by omega) (show x50.toInt ≤ 400 by omega) dX12_settles_32 (fun H locs w51 hw hT k53 c52 => ?_)
          have hF := hF.put kM_at0 (k := 22) (by decide) k53
          have c54 := k53.gi (Or.inr (by decide)) c16
          have c55 := k53.gi (Or.inr (by decide)) c19
          have c56 := k53.gi (Or.inr (by decide)) c22
          have c57 := k53.gi (Or.inr (by decide)) c28
          have c58 := k53.gi (Or.inl (tk_ne kM_at9 kM_at0 (by decide))) c36
          refine lv_aload_n hx hb dX12_settles_35 rfl (lv_at hl 0 rfl) ?_
          refine lv_aload_n hx hb dX12_settles_36 rfl (lv_at hl 0 rfl) ?_
          refine tk_getA hC hK hw hT hinX12 kM_at0 (by decide) rfl 21 (by decide) (List.mem_of_getElem? (i := 2) rfl) rfl rfl dX12_settles_37 ?_
          refine lv_aload_n hx hb dX12_settles_40 rfl (lv_at hl 0 rfl) ?_
          refine tk_geti hC hK hw hT hinX12 kM_at0 (by decide) rfl 22 (by decide) (List.mem_of_getElem? (i := 1) rfl) rfl rfl dX12_settles_41 (fun x59 c60 rx59 tx59 => ?_)
          refine wk_top x50 (c60.symm.trans c52) ?_
          refine tk_iald hC hK hw hT kM_at9 rfl rfl (show 0 ≤ x50.toInt by omega) (show x50.toInt < 400 by omega) dX12_settles_44 (fun x61 c62 rx61 tx61 => ?_)
          have c62 : gi w51 9 (1 * f0_0_22.toInt + -1).toNat = x61 := (congrArg (gi w51 9) (congrArg Int.toNat (show 1 * f0_0_22.toInt + -1 = x50.toInt by omega))).trans c62
          refine wk_top x35 (c62.symm.trans c58) ?_
          refine lv_iconst (v := 0) hx hb dX12_settles_45 (by decide) ?_
          obtain rfl : x35 = 12 := wk_eq.mpr (show x35.toInt = 12 by omega)
          refine tk_Vv hC hK hw hT hA hE hSR kM_at0 (by decide) rfl (k_X12_puts_2 l adK adV dC dI cy ad B (by omega) (by omega) qr s1   12 (by decide) (by decide) 0 w51 H.size hT c54 f0_3_1 c57 (show 0 ≤ f0_3_1.toInt by omega) (show f0_3_1.toInt ≤ 400 by omega) (show f0_3_1.toInt ≤ 399 by omega)) (cwV 2 hC.2.2.2.2 gX12_settles_X12_puts rfl rfl rfl (by decide +kernel) ⟨Nat.le_of_ble_eq_true rfl, Nat.le_of_ble_eq_true rfl⟩) rfl hl.1 rfl (Nat.le_of_ble_eq_true rfl) dX12_settles_46 (fun w65 H locs hp64 hw => ?_)
          obtain ⟨hT, k66, hg70⟩ := hp64
          have hF := hF.tr k66 (by decide)
          have c71 := k66.gi kM_at0 (by decide) c54
          have c72 := k66.gi kM_at0 (by decide) c55
          have c73 := k66.gi kM_at0 (by decide) c56
          have c74 := k66.gi kM_at9 rfl c58
          have c75 := k66.gi kM_at0 (by decide) c52
          obtain ⟨⟨x67, c68, rx67, tx67⟩, g69⟩ := hg70
          have ex67 : x67.toInt = (1 : Int) := by rw [show x67 = 1 from c68.symm.trans c71]; decide
          obtain ⟨x76, c77, rx76, tx76⟩ := hT.rda (lo := 0) (hi := 400) (i := 1) kM_at3 rfl rfl (by decide)
          have g69 : x76.toInt = f0_3_1.toInt + 1 := by have q := g69; simp only [c57, c77] at q; omega
          refine lv_aload_n hx hb dX12_settles_49 rfl (lv_at hl 0 rfl) ?_
          refine tk_getA hC hK hw hT hinX12 kM_at0 (by decide) rfl 21 (by decide) (List.mem_of_getElem? (i := 2) rfl) rfl rfl dX12_settles_50 ?_
          refine lv_aload_n hx hb dX12_settles_53 rfl (lv_at hl 0 rfl) ?_
          refine tk_geti hC hK hw hT hinX12 kM_at0 (by decide) rfl 22 (by decide) (List.mem_of_getElem? (i := 1) rfl) rfl rfl dX12_settles_54 (fun x78 c79 rx78 tx78 => ?_)
          refine wk_top x50 (c79.symm.trans c75) ?_
          refine tk_iald hC hK hw hT kM_at9 rfl rfl (show 0 ≤ x50.toInt by omega) (show x50.toInt < 400 by omega) dX12_settles_57 (fun x80 c81 rx80 tx80 => ?_)
          have c81 : gi w65 9 (1 * f0_0_22.toInt + -1).toNat = x80 := (congrArg (gi w65 9) (congrArg Int.toNat (show 1 * f0_0_22.toInt + -1 = x50.toInt by omega))).trans c81
          refine wk_top 12 (c81.symm.trans c74) ?_
          refine lv_bipush (v := 11) hx hb dX12_settles_58 (by decide) ?_
          refine lv_icmp_ne (tgt := 0) hx hb dX12_settles_60 (by decide) (fun _ => ?_) (fun c => absurd c (by decide))
          exact ih0 f0_0_19 x50 x76 H locs ls w65 (show 0 ≤ f1_.toInt by omega) (show f1_.toInt ≤ 60 by omega) (show (-60) ≤ f0_0_19.toInt by omega) (show f0_0_19.toInt ≤ 10 by omega) (show 0 ≤ x50.toInt by omega) (show x50.toInt ≤ 390 by omega) (show 0 ≤ x76.toInt by omega) (show x76.toInt ≤ 390 by omega) (show x76.toInt + x50.toInt = f4_.toInt + f3_.toInt by omega) (show x50.toInt ≤ f3_.toInt by omega) (show x50.toInt + f2_.toInt ≤ f3_.toInt + f0_0_19.toInt by omega) (show x50.toInt ≤ f0_0_19.toInt + f1_.toInt by omega) (show x76.toInt ≤ 390 by omega) (show x50.toInt ≤ 390 by omega) (show -60 ≤ f0_0_19.toInt by omega) (show brkN w0 (x50.toInt).toNat = brkN w0 (f3_.toInt).toNat from ((brk_step (by omega) (show f0_0_22.toInt = x50.toInt + 1 by omega) (show ¬ (gi w0 9 (x50.toInt).toNat).toInt = 91 by first | (rw [show (x50.toInt) = 1 * f0_0_22.toInt + -1 by omega, ← hF.gi kM_at9 rfl rfl, c74]; omega) | (rw [show (x50.toInt) = 1 * f0_0_22.toInt + -1 by omega, ← hF.gi kM_at9 rfl rfl, c74]; decide))).trans hcr0_7)) (show (x50.toInt - 0).toNat < n0 by omega) hw hT hF c71 c72 c73 c75 c77 (lv_sub hl [0, 1] rfl)
        · refine lv_iload_n hx hb dX12_settles_21 rfl (lv_at hl 1 rfl) ?_
          refine lv_icmp_lt (tgt := 76) hx hb dX12_settles_22 (by decide) (fun c => absurd c (by decide)) (fun _ => ?_)
          refine lv_aload_n hx hb dX12_settles_25 rfl (lv_at hl 0 rfl) ?_
          refine lv_dup hx hb dX12_settles_26 rfl ?_
          refine tk_geti hC hK hw hT hinX12 kM_at0 (by decide) rfl 22 (by decide) (List.mem_of_getElem? (i := 1) rfl) rfl rfl dX12_settles_27 (fun x82 c83 rx82 tx82 => ?_)
          refine wk_top f0_0_22 (c83.symm.trans c25) ?_
          refine lv_iconst (v := 1) hx hb dX12_settles_30 (by decide) ?_
          refine lv_isub hx hb dX12_settles_31 ?_
          refine lv_topi (fun x84 ex84 => ?_)
          have ex84 : x84.toInt = f0_0_22.toInt - (1 : Int) := by rw [ex84]; exact wk_sub (show (-2147483648) ≤ f0_0_22.toInt - (1 : Int) by omega) (show f0_0_22.toInt - (1 : Int) ≤ 2147483647 by omega)
          refine tk_puti hC hK hw hT hinX12 tyX12_ok nmX12 kM_at0 (by decide) rfl rfl 22 (by decide) (List.mem_of_getElem? (i := 1) rfl) rfl rfl rfl rfl (show 0 ≤ x84.toInt by omega) (show x84.toInt ≤ 400 by omega) dX12_settles_32 (fun H locs w85 hw hT k87 c86 => ?_)
          have hF := hF.put kM_at0 (k := 22) (by decide) k87
          have c88 := k87.gi (Or.inr (by decide)) c16
          have c89 := k87.gi (Or.inr (by decide)) c19
          have c90 := k87.gi (Or.inr (by decide)) c22
          have c91 := k87.gi (Or.inr (by decide)) c28
          have c92 := k87.gi (Or.inl (tk_ne kM_at9 kM_at0 (by decide))) c36
          refine lv_aload_n hx hb dX12_settles_35 rfl (lv_at hl 0 rfl) ?_
          refine lv_aload_n hx hb dX12_settles_36 rfl (lv_at hl 0 rfl) ?_
          refine tk_getA hC hK hw hT hinX12 kM_at0 (by decide) rfl 21 (by decide) (List.mem_of_getElem? (i := 2) rfl) rfl rfl dX12_settles_37 ?_
          refine lv_aload_n hx hb dX12_settles_40 rfl (lv_at hl 0 rfl) ?_
          refine tk_geti hC hK hw hT hinX12 kM_at0 (by decide) rfl 22 (by decide) (List.mem_of_getElem? (i := 1) rfl) rfl rfl dX12_settles_41 (fun x93 c94 rx93 tx93 => ?_)
          refine wk_top x84 (c94.symm.trans c86) ?_
          refine tk_iald hC hK hw hT kM_at9 rfl rfl (show 0 ≤ x84.toInt by omega) (show x84.toInt < 400 by omega) dX12_settles_44 (fun x95 c96 rx95 tx95 => ?_)
          have c96 : gi w85 9 (1 * f0_0_22.toInt + -1).toNat = x95 := (congrArg (gi w85 9) (congrArg Int.toNat (show 1 * f0_0_22.toInt + -1 = x84.toInt by omega))).trans c96
          refine wk_top x35 (c96.symm.trans c92) ?_
          refine lv_iconst (v := 0) hx hb dX12_settles_45 (by decide) ?_
          obtain rfl : x35 = 11 := wk_eq.mpr (show x35.toInt = 11 by omega)
          refine tk_Vv hC hK hw hT hA hE hSR kM_at0 (by decide) rfl (k_X12_puts_2 l adK adV dC dI cy ad B (by omega) (by omega) qr s1   11 (by decide) (by decide) 0 w85 H.size hT c88 f0_3_1 c91 (show 0 ≤ f0_3_1.toInt by omega) (show f0_3_1.toInt ≤ 400 by omega) (show f0_3_1.toInt ≤ 399 by omega)) (cwV 2 hC.2.2.2.2 gX12_settles_X12_puts rfl rfl rfl (by decide +kernel) ⟨Nat.le_of_ble_eq_true rfl, Nat.le_of_ble_eq_true rfl⟩) rfl hl.1 rfl (Nat.le_of_ble_eq_true rfl) dX12_settles_46 (fun w99 H locs hp98 hw => ?_)
          obtain ⟨hT, k100, hg104⟩ := hp98
          have hF := hF.tr k100 (by decide)
          have c105 := k100.gi kM_at0 (by decide) c88
          have c106 := k100.gi kM_at0 (by decide) c89
          have c107 := k100.gi kM_at0 (by decide) c90
          have c108 := k100.gi kM_at9 rfl c92
          have c109 := k100.gi kM_at0 (by decide) c86
          obtain ⟨⟨x101, c102, rx101, tx101⟩, g103⟩ := hg104
          have ex101 : x101.toInt = (1 : Int) := by rw [show x101 = 1 from c102.symm.trans c105]; decide
          obtain ⟨x110, c111, rx110, tx110⟩ := hT.rda (lo := 0) (hi := 400) (i := 1) kM_at3 rfl rfl (by decide)
          have g103 : x110.toInt = f0_3_1.toInt + 1 := by have q := g103; simp only [c91, c111] at q; omega
          refine lv_aload_n hx hb dX12_settles_49 rfl (lv_at hl 0 rfl) ?_
          refine tk_getA hC hK hw hT hinX12 kM_at0 (by decide) rfl 21 (by decide) (List.mem_of_getElem? (i := 2) rfl) rfl rfl dX12_settles_50 ?_
          refine lv_aload_n hx hb dX12_settles_53 rfl (lv_at hl 0 rfl) ?_
          refine tk_geti hC hK hw hT hinX12 kM_at0 (by decide) rfl 22 (by decide) (List.mem_of_getElem? (i := 1) rfl) rfl rfl dX12_settles_54 (fun x112 c113 rx112 tx112 => ?_)
          refine wk_top x84 (c113.symm.trans c109) ?_
          refine tk_iald hC hK hw hT kM_at9 rfl rfl (show 0 ≤ x84.toInt by omega) (show x84.toInt < 400 by omega) dX12_settles_57 (fun x114 c115 rx114 tx114 => ?_)
          have c115 : gi w99 9 (1 * f0_0_22.toInt + -1).toNat = x114 := (congrArg (gi w99 9) (congrArg Int.toNat (show 1 * f0_0_22.toInt + -1 = x84.toInt by omega))).trans c115
          refine wk_top 11 (c115.symm.trans c108) ?_
          refine lv_bipush (v := 11) hx hb dX12_settles_58 (by decide) ?_
          refine lv_icmp_ne (tgt := 0) hx hb dX12_settles_60 (by decide) (fun c => absurd (by decide) c) (fun _ => ?_)
          refine lv_aload_n hx hb dX12_settles_63 rfl (lv_at hl 0 rfl) ?_
          refine lv_dup hx hb dX12_settles_64 rfl ?_
          refine tk_geti hC hK hw hT hinX12 kM_at0 (by decide) rfl 19 (by decide) (List.mem_of_getElem? (i := 3) rfl) rfl rfl dX12_settles_65 (fun x116 c117 rx116 tx116 => ?_)
          refine wk_top f0_0_19 (c117.symm.trans c107) ?_
          refine lv_iconst (v := 1) hx hb dX12_settles_68 (by decide) ?_
          refine lv_isub hx hb dX12_settles_69 ?_
          refine lv_topi (fun x118 ex118 => ?_)
          have ex118 : x118.toInt = f0_0_19.toInt - (1 : Int) := by rw [ex118]; exact wk_sub (show (-2147483648) ≤ f0_0_19.toInt - (1 : Int) by omega) (show f0_0_19.toInt - (1 : Int) ≤ 2147483647 by omega)
          refine tk_puti hC hK hw hT hinX12 tyX12_ok nmX12 kM_at0 (by decide) rfl rfl 19 (by decide) (List.mem_of_getElem? (i := 3) rfl) rfl rfl rfl rfl (show (-100) ≤ x118.toInt by omega) (show x118.toInt ≤ 10 by omega) dX12_settles_70 (fun H locs w119 hw hT k121 c120 => ?_)
          have hF := hF.put kM_at0 (k := 19) (by decide) k121
          have c122 := k121.gi (Or.inr (by decide)) c105
          have c123 := k121.gi (Or.inr (by decide)) c106
          have c124 := k121.gi (Or.inl (tk_ne kM_at9 kM_at0 (by decide))) c108
          have c125 := k121.gi (Or.inr (by decide)) c109
          have c126 := k121.gi (Or.inr (by decide)) c111
          refine lv_goto (tgt := 0) hx hb dX12_settles_73 (by decide) ?_
          exact ih0 x118 x84 x110 H locs ls w119 (show 0 ≤ f1_.toInt by omega) (show f1_.toInt ≤ 60 by omega) (show (-60) ≤ x118.toInt by omega) (show x118.toInt ≤ 10 by omega) (show 0 ≤ x84.toInt by omega) (show x84.toInt ≤ 390 by omega) (show 0 ≤ x110.toInt by omega) (show x110.toInt ≤ 390 by omega) (show x110.toInt + x84.toInt = f4_.toInt + f3_.toInt by omega) (show x84.toInt ≤ f3_.toInt by omega) (show x84.toInt + f2_.toInt ≤ f3_.toInt + x118.toInt by omega) (show x84.toInt ≤ x118.toInt + f1_.toInt by omega) (show x110.toInt ≤ 390 by omega) (show x84.toInt ≤ 390 by omega) (show -60 ≤ x118.toInt by omega) (show brkN w0 (x84.toInt).toNat = brkN w0 (f3_.toInt).toNat from ((brk_step (by omega) (show f0_0_22.toInt = x84.toInt + 1 by omega) (show ¬ (gi w0 9 (x84.toInt).toNat).toInt = 91 by first | (rw [show (x84.toInt) = 1 * f0_0_22.toInt + -1 by omega, ← hF.gi kM_at9 rfl rfl, c124]; omega) | (rw [show (x84.toInt) = 1 * f0_0_22.toInt + -1 by omega, ← hF.gi kM_at9 rfl rfl, c124]; decide))).trans hcr0_7)) (show (x84.toInt - 0).toNat < n0 by omega) hw hT hF c122 c123 c120 c125 c126 (lv_sub hl [0, 1] rfl)
  exact L0 ((f3_.toInt - 0).toNat + 1) f2_ f3_ f4_ s.heap locs ls w0 (show 0 ≤ f1_.toInt by omega) (show f1_.toInt ≤ 60 by omega) (show (-60) ≤ f2_.toInt by omega) (show f2_.toInt ≤ 10 by omega) (show 0 ≤ f3_.toInt by omega) (show f3_.toInt ≤ 390 by omega) (show 0 ≤ f4_.toInt by omega) (show f4_.toInt ≤ 390 by omega) (show f4_.toInt + f3_.toInt = f4_.toInt + f3_.toInt by omega) (show f3_.toInt ≤ f3_.toInt by omega) (show f3_.toInt + f2_.toInt ≤ f3_.toInt + f2_.toInt by omega) (show f3_.toInt ≤ f2_.toInt + f1_.toInt by omega) (show f4_.toInt ≤ 390 by omega) (show f3_.toInt ≤ 390 by omega) (show -60 ≤ f2_.toInt by omega) (show brkN w0 (f3_.toInt).toNat = brkN w0 (f3_.toInt).toNat from rfl) (Nat.lt_succ_self _) hw hT hF cf0_ cf1_ cf2_ cf3_ cf4_ (lv_sub hl [0, 1] rfl)
abbrev P_X12_puts_3 (ad : Nat → Nat) (cy : Nat → ClassId) (B : Int) (qr : Nat) (s1 : Int) (a1 : Int32) (a2 : Int32) (w0 : va_W) : va_W → Prop := fun u => TW ksM ad cy B qr 12 u ∧ FE ksM [(61, 0, 2400), (62, 0, 7)] w0 u ∧ (((∃ y : Int32, gi u 0 17 = y ∧ 2 ≤ y.toInt ∧ y.toInt ≤ 2) ∧ ((gi u 3 2).toInt = (gi w0 3 2).toInt + 1)))
set_option maxHeartbeats 4000000 in
set_option maxRecDepth 100000 in
theorem k_X12_puts_3 (l : Launch) (adK adV : Nat → Nat) (dC : Nat → ClassId) (dI : Nat → Nat → Nat) (cy : Nat → ClassId) (ad : Nat → Nat) (B : Int) (hB0 : 100000 ≤ B) (hB1 : B ≤ 1073741824) (qr : Nat) (s1 : Int)  (a1 : Int32) (ra1 : 0 ≤ a1.toInt) (ta1 : a1.toInt ≤ 400) (a2 : Int32) (w0 : va_W) (sz : Nat) (hT : TW ksM ad cy B qr 12 w0) (cf0_ : gi w0 0 17 = 2) (f1_ : Int32) (cf1_ : gi w0 3 2 = f1_) (rf1_ : 0 ≤ f1_.toInt) (tf1_ : f1_.toInt ≤ 400) (pr0_ : f1_.toInt ≤ 399) : Met l yX12_puts wsX12_puts ({ frames := 1, cells := 0, slots := 0, locals := 12 }) (va_Pc [.ref (ad 0), .int a1, .int a2] (wpreS adK adV dC dI cy sz w0)) (va_Qv (P_X12_puts_3 ad cy B qr s1 a1 a2 w0) (fun u : va_W => wpost dC dI cy (va_A w0 sz) u) (va_A w0 sz)) 0 0 (va_A w0 sz) := by
  refine Met.ofW (cc := cX12_puts) (maxL := 3) (ret := none) (by decide) rfl ?_
  intro p e s m args below meth c s₁ Bk hml hv
  obtain ⟨rfl, ⟨hsz, hP, hK, hD0⟩, hE, hSR⟩ := hv
  have hx := Bk.exec
  have hb := Bk.bytes
  have hr := Bk.returns
  have hlocks := Bk.notSynchronized
  have hC : CallFix p m c cX12_puts 3 s _ wsX12_puts RX12 := ⟨hx, hb, hml, findClass_of_methodNamed Bk.named, atoms_spec (ws := wsX12_puts) Bk.pre⟩
  subst hsz
  have hD := hD0.self (sz := s.heap.size)
  generalize hAe : va_A w0 s.heap.size = A at hD hE ⊢
  have hA : ∀ q : Nat, s.heap.size ≤ q → A q := fun q h => by rw [← hAe]; exact Or.inr h
  have hw : Wd dC dI A s.heap s.heap [] w0 := ⟨hP, hD, va_S.rf⟩
  have hF : FE ksM [(61, 0, 2400), (62, 0, 7)] w0 w0 := FE.rf
  have hl := lv_entry ([.ref (ad 0), .int a1, .int a2]) (n := 3) (Nat.le_of_ble_eq_true rfl)
  rw [lg_entry_eq]
  generalize (lg_sl ([.ref (ad 0), .int a1, .int a2]) ++ List.replicate (3 - (lg_sl ([.ref (ad 0), .int a1, .int a2])).length) Slot.unset).toArray = ls at hl ⊢
  have hl : lv_has ls 3 [(0, .ref (ad 0)), (1, .int a1), (2, .int a2)] := hl
  generalize hloc : ([] : List Loc) = locs at hw ⊢
  have hinX12 : ∀ w ∈ u_ws RX12 TX12 42, w ∈ wsX12_puts := fun _ h => List.mem_cons_of_mem _ (List.mem_append_right _ (h))
  refine lv_aload_n hx hb dX12_puts_0 rfl (lv_at hl 0 rfl) ?_
  refine tk_getA hC hK hw hT hinX12 kM_at0 (by decide) rfl 3 (by decide) (List.mem_of_getElem? (i := 1) rfl) rfl rfl dX12_puts_1 ?_
  refine lv_sipush (v := 400) hx hb dX12_puts_4 (by decide) ?_
  refine lv_aload_n hx hb dX12_puts_7 rfl (lv_at hl 0 rfl) ?_
  refine tk_geti hC hK hw hT hinX12 kM_at0 (by decide) rfl 17 (by decide) (List.mem_of_getElem? (i := 2) rfl) rfl rfl dX12_puts_8 (fun x1 c2 rx1 tx1 => ?_)
  refine wk_top 2 (c2.symm.trans cf0_) ?_
  refine lv_imul hx hb dX12_puts_11 ?_
  refine wk_top 800 (by decide) ?_
  refine lv_aload_n hx hb dX12_puts_12 rfl (lv_at hl 0 rfl) ?_
  refine tk_getA hC hK hw hT hinX12 kM_at0 (by decide) rfl 4 (by decide) (List.mem_of_getElem? (i := 3) rfl) rfl rfl dX12_puts_13 ?_
  refine lv_aload_n hx hb dX12_puts_16 rfl (lv_at hl 0 rfl) ?_
  refine tk_geti hC hK hw hT hinX12 kM_at0 (by decide) rfl 17 (by decide) (List.mem_of_getElem? (i := 2) rfl) rfl rfl dX12_puts_17 (fun x3 c4 rx3 tx3 => ?_)
  refine wk_top 2 (c4.symm.trans cf0_) ?_
  refine tk_iald hC hK hw hT kM_at3 rfl rfl (by decide) (by decide) dX12_puts_20 (fun x5 c6 rx5 tx5 => ?_)
  refine wk_top f1_ (c6.symm.trans cf1_) ?_
  refine lv_iadd hx hb dX12_puts_21 ?_
  refine lv_topi (fun x7 ex7 => ?_)
  have ex7 : x7.toInt = (800 : Int) + f1_.toInt := by rw [ex7]; exact wk_add (show (-2147483648) ≤ (800 : Int) + f1_.toInt by omega) (show (800 : Int) + f1_.toInt ≤ 2147483647 by omega)
  refine lv_iload_n hx hb dX12_puts_22 rfl (lv_at hl 1 rfl) ?_
  refine lv_bipush (v := 16) hx hb dX12_puts_23 (by decide) ?_
  refine lv_iload_n hx hb dX12_puts_25 rfl (lv_at hl 2 rfl) ?_
  refine lv_imul hx hb dX12_puts_26 ?_
  have nx8 := wk_i32 a2
  refine lv_topi (fun x9 ex9 => ?_)
  refine lv_iadd hx hb dX12_puts_27 ?_
  have nx10 := wk_i32 x9
  refine lv_topi (fun x11 ex11 => ?_)
  refine tk_iast hC hK hw hT kM_at2 (by decide) rfl rfl (show 0 ≤ x7.toInt by omega) (show x7.toInt < 2400 by omega) (wk_i32 x11).1 (wk_i32 x11).2 dX12_puts_28 (fun H locs w12 hw hT k14 c13 => ?_)
  have hF := hF.put kM_at2 (inE_of (a := 0) (b := 2400) (by decide) (show 0 ≤ x7.toInt.toNat by omega) (show x7.toInt.toNat ≤ 2400 by omega)) k14
  have c15 := k14.gi (Or.inl (tk_ne kM_at0 kM_at2 (by decide))) cf0_
  have c16 := k14.gi (Or.inl (tk_ne kM_at3 kM_at2 (by decide))) cf1_
  refine lv_aload_n hx hb dX12_puts_29 rfl (lv_at hl 0 rfl) ?_
  refine tk_getA hC hK hw hT hinX12 kM_at0 (by decide) rfl 4 (by decide) (List.mem_of_getElem? (i := 3) rfl) rfl rfl dX12_puts_30 ?_
  refine lv_aload_n hx hb dX12_puts_33 rfl (lv_at hl 0 rfl) ?_
  refine tk_geti hC hK hw hT hinX12 kM_at0 (by decide) rfl 17 (by decide) (List.mem_of_getElem? (i := 2) rfl) rfl rfl dX12_puts_34 (fun x17 c18 rx17 tx17 => ?_)
  refine wk_top 2 (c18.symm.trans c15) ?_
  refine lv_dup2_11 hx hb dX12_puts_37 rfl rfl ?_
  refine tk_iald hC hK hw hT kM_at3 rfl rfl (by decide) (by decide) dX12_puts_38 (fun x19 c20 rx19 tx19 => ?_)
  refine wk_top f1_ (c20.symm.trans c16) ?_
  refine lv_iconst (v := 1) hx hb dX12_puts_39 (by decide) ?_
  refine lv_iadd hx hb dX12_puts_40 ?_
  refine lv_topi (fun x21 ex21 => ?_)
  have ex21 : x21.toInt = f1_.toInt + (1 : Int) := by rw [ex21]; exact wk_add (show (-2147483648) ≤ f1_.toInt + (1 : Int) by omega) (show f1_.toInt + (1 : Int) ≤ 2147483647 by omega)
  refine tk_iast hC hK hw hT kM_at3 (by decide) rfl rfl (by decide) (by decide) (show 0 ≤ x21.toInt by omega) (show x21.toInt ≤ 400 by omega) dX12_puts_41 (fun H locs w22 hw hT k24 c23 => ?_)
  have hF := hF.put kM_at3 (inE_of (a := 0) (b := 7) (by decide) (by decide) (by decide)) k24
  have c25 := k24.gi (Or.inl (tk_ne kM_at0 kM_at3 (by decide))) c15
  have c23 : gi w22 3 2 = x21 := c23
  exact tk_vret hC hr hlocks hK ⟨hT, hF, ⟨⟨2, c25, (by decide), (by decide)⟩, (by simp only [cf1_, c23]; omega)⟩⟩ hw dX12_puts_42
abbrev P_X12_settles_7 (ad : Nat → Nat) (cy : Nat → ClassId) (B : Int) (qr : Nat) (s1 : Int)  (w0 : va_W) : va_W → Prop := fun u => TW ksM ad cy B qr 12 u ∧ FE ksM [(12, 19, 19), (12, 22, 22), (61, 0, 2400), (62, 0, 7)] w0 u ∧ (((∃ y : Int32, gi u 0 17 = y ∧ 2 ≤ y.toInt ∧ y.toInt ≤ 2) ∧ (∃ y : Int32, gi u 0 19 = y ∧ (-60) ≤ y.toInt ∧ y.toInt ≤ 10) ∧ (∃ y : Int32, gi u 0 22 = y ∧ 0 ≤ y.toInt ∧ y.toInt ≤ 390) ∧ ((gi u 3 2).toInt + (gi u 0 22).toInt = (gi w0 3 2).toInt + (gi w0 0 22).toInt) ∧ ((gi u 0 22).toInt ≤ (gi w0 0 22).toInt) ∧ ((gi u 0 22).toInt + (gi w0 0 19).toInt ≤ (gi w0 0 22).toInt + (gi u 0 19).toInt) ∧ ((gi u 0 22).toInt ≤ (gi u 0 19).toInt + (gi w0 0 18).toInt) ∧ ((gi u 0 22).toInt ≤ 390) ∧ ((gi u 3 2).toInt ≤ 390) ∧ (brkN w0 ((gi u 0 22).toInt).toNat = brkN w0 ((gi w0 0 22).toInt).toNat)))
set_option maxHeartbeats 4000000 in
set_option maxRecDepth 100000 in
theorem k_X12_settles_7 (l : Launch) (adK adV : Nat → Nat) (dC : Nat → ClassId) (dI : Nat → Nat → Nat) (cy : Nat → ClassId) (ad : Nat → Nat) (B : Int) (hB0 : 100000 ≤ B) (hB1 : B ≤ 1073741824) (qr : Nat) (s1 : Int)   (w0 : va_W) (sz : Nat) (hT : TW ksM ad cy B qr 12 w0) (cf0_ : gi w0 0 17 = 2) (f1_ : Int32) (cf1_ : gi w0 0 18 = f1_) (rf1_ : 0 ≤ f1_.toInt) (tf1_ : f1_.toInt ≤ 60) (f2_ : Int32) (cf2_ : gi w0 0 19 = f2_) (rf2_ : (-100) ≤ f2_.toInt) (tf2_ : f2_.toInt ≤ 10) (f3_ : Int32) (cf3_ : gi w0 0 22 = f3_) (rf3_ : 0 ≤ f3_.toInt) (tf3_ : f3_.toInt ≤ 400) (f4_ : Int32) (cf4_ : gi w0 3 2 = f4_) (rf4_ : 0 ≤ f4_.toInt) (tf4_ : f4_.toInt ≤ 400) (pr0_ : f4_.toInt + f3_.toInt ≤ 390) (pr1_ : f3_.toInt ≤ f2_.toInt + f1_.toInt) (pr2_ : f4_.toInt ≤ 390) (pr3_ : f3_.toInt ≤ 390) : Met l yX12_settles wsX12_settles ({ frames := 2, cells := 0, slots := 0, locals := 34 }) (va_Pc [.ref (ad 0), .int 1] (wpreS adK adV dC dI cy sz w0)) (va_Qv (P_X12_settles_7 ad cy B qr s1  w0) (fun u : va_W => wpost dC dI cy (va_A w0 sz) u) (va_A w0 sz)) 0 0 (va_A w0 sz) := by
  refine Met.ofW (cc := cX12_settles) (maxL := 2) (ret := none) (by decide) rfl ?_
  intro p e s m args below meth c s₁ Bk hml hv
  obtain ⟨rfl, ⟨hsz, hP, hK, hD0⟩, hE, hSR⟩ := hv
  have hx := Bk.exec
  have hb := Bk.bytes
  have hr := Bk.returns
  have hlocks := Bk.notSynchronized
  have hC : CallFix p m c cX12_settles 2 s _ wsX12_settles RX12 := ⟨hx, hb, hml, findClass_of_methodNamed Bk.named, atoms_spec (ws := wsX12_settles) Bk.pre⟩
  subst hsz
  have hD := hD0.self (sz := s.heap.size)
  generalize hAe : va_A w0 s.heap.size = A at hD hE ⊢
  have hA : ∀ q : Nat, s.heap.size ≤ q → A q := fun q h => by rw [← hAe]; exact Or.inr h
  have hw : Wd dC dI A s.heap s.heap [] w0 := ⟨hP, hD, va_S.rf⟩
  have hF : FE ksM [(12, 19, 19), (12, 22, 22), (61, 0, 2400), (62, 0, 7)] w0 w0 := FE.rf
  have hl := lv_entry ([.ref (ad 0), .int 1]) (n := 2) (Nat.le_of_ble_eq_true rfl)
  rw [lg_entry_eq]
  generalize (lg_sl ([.ref (ad 0), .int 1]) ++ List.replicate (2 - (lg_sl ([.ref (ad 0), .int 1])).length) Slot.unset).toArray = ls at hl ⊢
  have hl : lv_has ls 2 [(0, .ref (ad 0)), (1, .int 1)] := hl
  generalize hloc : ([] : List Loc) = locs at hw ⊢
  have hinX12 : ∀ w ∈ u_ws RX12 TX12 42, w ∈ wsX12_settles := fun _ h => List.mem_cons_of_mem _ (List.mem_append_right _ (h))
  have J76 : ∀ (f76_0_19 : Int32) (f76_0_22 : Int32) (f76_3_2 : Int32) (H : Heap) (locs : List Loc) (ls : Array Slot) (w1 : va_W), 0 ≤ f1_.toInt → f1_.toInt ≤ 60 → (-60) ≤ f76_0_19.toInt → f76_0_19.toInt ≤ 10 → 0 ≤ f76_0_22.toInt → f76_0_22.toInt ≤ 390 → 0 ≤ f76_3_2.toInt → f76_3_2.toInt ≤ 390 → (f76_3_2.toInt + f76_0_22.toInt = f4_.toInt + f3_.toInt) → (f76_0_22.toInt ≤ f3_.toInt) → (f76_0_22.toInt + f2_.toInt ≤ f3_.toInt + f76_0_19.toInt) → (f76_0_22.toInt ≤ f76_0_19.toInt + f1_.toInt) → (f76_3_2.toInt ≤ 390) → (f76_0_22.toInt ≤ 390) → (-60 ≤ f76_0_19.toInt) → (brkN w0 (f76_0_22.toInt).toNat = brkN w0 (f3_.toInt).toNat) → Wd dC dI A s.heap H locs w1 → TW ksM ad cy B qr 12 w1 → FE ksM [(12, 19, 19), (12, 22, 22), (61, 0, 2400), (62, 0, 7)] w0 w1 → gi w1 0 17 = 2 → gi w1 0 18 = f1_ → gi w1 0 19 = f76_0_19 → gi w1 0 22 = f76_0_22 → gi w1 3 2 = f76_3_2 → lv_has ls 2 [(0, .ref (ad 0)), (1, .int 1)] → W p l e ({ frames := 2, cells := 0, slots := 0, locals := 34 }) s m (List.toArray [.ref (ad 0), .int 1]) below meth c H locs 0 0 (MQ below (va_Qv (P_X12_settles_7 ad cy B qr s1  w0) (fun u : va_W => wpost dC dI cy A u) A) (List.toArray [.ref (ad 0), .int 1]) s 0 0 A) (F0 m 76 ls []) := by
    intro f76_0_19 f76_0_22 f76_3_2 H locs ls w1 r3 t4 r6 t7 r9 t10 r12 t13 hcr76_0 hcr76_1 hcr76_2 hcr76_3 hcr76_4 hcr76_5 hcr76_6 hcr76_7 hw hT hF c2 c5 c8 c11 c14 hl
    exact tk_vret hC hr hlocks hK ⟨hT, hF, ⟨⟨2, c2, (by decide), (by decide)⟩, ⟨f76_0_19, c8, (show (-60) ≤ f76_0_19.toInt by omega), (show f76_0_19.toInt ≤ 10 by omega)⟩, ⟨f76_0_22, c11, (show 0 ≤ f76_0_22.toInt by omega), (show f76_0_22.toInt ≤ 390 by omega)⟩, (by simp only [cf4_, c14, cf3_, c11]; omega), (by simp only [cf3_, c11]; omega), (by simp only [cf2_, c8, cf3_, c11]; omega), (by simp only [c8, cf1_, c11]; omega), (by simp only [c11]; omega), (by simp only [c14]; omega), (by simp only [cf3_, c11]; omega)⟩⟩ hw dX12_settles_76
  have L0 : ∀ (n0 : Nat) (f0_0_19 : Int32) (f0_0_22 : Int32) (f0_3_2 : Int32) (H : Heap) (locs : List Loc) (ls : Array Slot) (w15 : va_W), 0 ≤ f1_.toInt → f1_.toInt ≤ 60 → (-60) ≤ f0_0_19.toInt → f0_0_19.toInt ≤ 10 → 0 ≤ f0_0_22.toInt → f0_0_22.toInt ≤ 390 → 0 ≤ f0_3_2.toInt → f0_3_2.toInt ≤ 390 → (f0_3_2.toInt + f0_0_22.toInt = f4_.toInt + f3_.toInt) → (f0_0_22.toInt ≤ f3_.toInt) → (f0_0_22.toInt + f2_.toInt ≤ f3_.toInt + f0_0_19.toInt) → (f0_0_22.toInt ≤ f0_0_19.toInt + f1_.toInt) → (f0_3_2.toInt ≤ 390) → (f0_0_22.toInt ≤ 390) → (-60 ≤ f0_0_19.toInt) → (brkN w0 (f0_0_22.toInt).toNat = brkN w0 (f3_.toInt).toNat) → (f0_0_22.toInt - 0).toNat < n0 → Wd dC dI A s.heap H locs w15 → TW ksM ad cy B qr 12 w15 → FE ksM [(12, 19, 19), (12, 22, 22), (61, 0, 2400), (62, 0, 7)] w0 w15 → gi w15 0 17 = 2 → gi w15 0 18 = f1_ → gi w15 0 19 = f0_0_19 → gi w15 0 22 = f0_0_22 → gi w15 3 2 = f0_3_2 → lv_has ls 2 [(0, .ref (ad 0)), (1, .int 1)] → W p l e ({ frames := 2, cells := 0, slots := 0, locals := 34 }) s m (List.toArray [.ref (ad 0), .int 1]) below meth c H locs 0 0 (MQ below (va_Qv (P_X12_settles_7 ad cy B qr s1  w0) (fun u : va_W => wpost dC dI cy A u) A) (List.toArray [.ref (ad 0), .int 1]) s 0 0 A) (F0 m 0 ls []) := by
    intro n0
    induction n0 with
    | zero => intro f0_0_19 f0_0_22 f0_3_2 H locs ls w15 r17 t18 r20 t21 r23 t24 r26 t27 hcr0_0 hcr0_1 hcr0_2 hcr0_3 hcr0_4 hcr0_5 hcr0_6 hcr0_7 hm0 hw hT hF c16 c19 c22 c25 c28 hl; omega
    | succ n0 ih0 =>
      intro f0_0_19 f0_0_22 f0_3_2 H locs ls w15 r17 t18 r20 t21 r23 t24 r26 t27 hcr0_0 hcr0_1 hcr0_2 hcr0_3 hcr0_4 hcr0_5 hcr0_6 hcr0_7 hm0 hw hT hF c16 c19 c22 c25 c28 hl
      refine lv_aload_n hx hb dX12_settles_0 rfl (lv_at hl 0 rfl) ?_
      refine tk_geti hC hK hw hT hinX12 kM_at0 (by decide) rfl 22 (by decide) (List.mem_of_getElem? (i := 1) rfl) rfl rfl dX12_settles_1 (fun x29 c30 rx29 tx29 => ?_)
      refine wk_top f0_0_22 (c30.symm.trans c25) ?_
      refine lv_if_le (tgt := 76) hx hb dX12_settles_4 (by decide) (fun c31 => ?_) (fun c31 => ?_)
      · have c31 : f0_0_22.toInt ≤ (0 : Int) := wk_le.mp c31
        exact J76 f0_0_19 f0_0_22 f0_3_2 H locs ls w15 (show 0 ≤ f1_.toInt by omega) (show f1_.toInt ≤ 60 by omega) (show (-60) ≤ f0_0_19.toInt by omega) (show f0_0_19.toInt ≤ 10 by omega) (show 0 ≤ f0_0_22.toInt by omega) (show f0_0_22.toInt ≤ 390 by omega) (show 0 ≤ f0_3_2.toInt by omega) (show f0_3_2.toInt ≤ 390 by omega) (show f0_3_2.toInt + f0_0_22.toInt = f4_.toInt + f3_.toInt by omega) (show f0_0_22.toInt ≤ f3_.toInt by omega) (show f0_0_22.toInt + f2_.toInt ≤ f3_.toInt + f0_0_19.toInt by omega) (show f0_0_22.toInt ≤ f0_0_19.toInt + f1_.toInt by omega) (show f0_3_2.toInt ≤ 390 by omega) (show f0_0_22.toInt ≤ 390 by omega) (show -60 ≤ f0_0_19.toInt by omega) (show brkN w0 (f0_0_22.toInt).toNat = brkN w0 (f3_.toInt).toNat from hcr0_7)  hw hT hF c16 c19 c22 c25 c28 (lv_sub hl [0, 1] rfl)
      · have c31 : (0 : Int) < f0_0_22.toInt := wk_leF c31
        refine lv_aload_n hx hb dX12_settles_7 rfl (lv_at hl 0 rfl) ?_
        refine tk_getA hC hK hw hT hinX12 kM_at0 (by decide) rfl 21 (by decide) (List.mem_of_getElem? (i := 2) rfl) rfl rfl dX12_settles_8 ?_
        refine lv_aload_n hx hb dX12_settles_11 rfl (lv_at hl 0 rfl) ?_
        refine tk_geti hC hK hw hT hinX12 kM_at0 (by decide) rfl 22 (by decide) (List.mem_of_getElem? (i := 1) rfl) rfl rfl dX12_settles_12 (fun x32 c33 rx32 tx32 => ?_)
        refine wk_top f0_0_22 (c33.symm.trans c25) ?_
        refine lv_iconst (v := 1) hx hb dX12_settles_15 (by decide) ?_
        refine lv_isub hx hb dX12_settles_16 ?_
        refine lv_topi (fun x34 ex34 => ?_)
        have ex34 : x34.toInt = f0_0_22.toInt - (1 : Int) := by rw [ex34]; exact wk_sub (show (-2147483648) ≤ f0_0_22.toInt - (1 : Int) by omega) (show f0_0_22.toInt - (1 : Int) ≤ 2147483647 by omega)
        refine tk_iald hC hK hw hT kM_at9 rfl rfl (show 0 ≤ x34.toInt by omega) (show x34.toInt < 400 by omega) dX12_settles_17 (fun x35 c36 rx35 tx35 => ?_)
        have c36 : gi w15 9 (1 * f0_0_22.toInt + -1).toNat = x35 := (congrArg (gi w15 9) (congrArg Int.toNat (show 1 * f0_0_22.toInt + -1 = x34.toInt by omega))).trans c36
        refine tk_Si hC hK hw hT hA hE hSR (k_X12_strength_1 l adK adV dC dI cy ad B (by omega) (by omega) qr s1   x35 w15 H.size hT ) (va_cwS 1 hC.2.2.2.2 gX12_settles_X12_strength rfl rfl rfl (by decide +kernel) ⟨Nat.le_of_ble_eq_true rfl, Nat.le_of_ble_eq_true rfl⟩) rfl hl.1 rfl (Nat.le_of_ble_eq_true rfl) dX12_settles_18 (fun r37 w39 H locs hp38 hw => ?_)
        obtain ⟨rfl, hg47⟩ := hp38
        rcases hg47 with rfl | ⟨rfl, g41, g42⟩ | ⟨rfl, g43, g44⟩ | ⟨rfl, g45, g46⟩
        · refine lv_iload_n hx hb dX12_settles_21 rfl (lv_at hl 1 rfl) ?_
          refine lv_icmp_lt (tgt := 76) hx hb dX12_settles_22 (by decide) (fun _ => ?_) (fun c => absurd (by decide) c)
          exact J76 f0_0_19 f0_0_22 f0_3_2 H locs ls w15 (show 0 ≤ f1_.toInt by omega) (show f1_.toInt ≤ 60 by omega) (show (-60) ≤ f0_0_19.toInt by omega) (show f0_0_19.toInt ≤ 10 by omega) (show 0 ≤ f0_0_22.toInt by omega) (show f0_0_22.toInt ≤ 390 by omega) (show 0 ≤ f0_3_2.toInt by omega) (show f0_3_2.toInt ≤ 390 by omega) (show f0_3_2.toInt + f0_0_22.toInt = f4_.toInt + f3_.toInt by omega) (show f0_0_22.toInt ≤ f3_.toInt by omega) (show f0_0_22.toInt + f2_.toInt ≤ f3_.toInt + f0_0_19.toInt by omega) (show f0_0_22.toInt ≤ f0_0_19.toInt + f1_.toInt by omega) (show f0_3_2.toInt ≤ 390 by omega) (show f0_0_22.toInt ≤ 390 by omega) (show -60 ≤ f0_0_19.toInt by omega) (show brkN w0 (f0_0_22.toInt).toNat = brkN w0 (f3_.toInt).toNat from hcr0_7)  hw hT hF c16 c19 c22 c25 c28 (lv_sub hl [0, 1] rfl)
        · refine lv_iload_n hx hb dX12_settles_21 rfl (lv_at hl 1 rfl) ?_
          refine lv_icmp_lt (tgt := 76) hx hb dX12_settles_22 (by decide) (fun c => absurd c (by decide)) (fun _ => ?_)
          refine lv_aload_n hx hb dX12_settles_25 rfl (lv_at hl 0 rfl) ?_
          refine lv_dup hx hb dX12_settles_26 rfl ?_
          refine tk_geti hC hK hw hT hinX12 kM_at0 (by decide) rfl 22 (by decide) (List.mem_of_getElem? (i := 1) rfl) rfl rfl dX12_settles_27 (fun x48 c49 rx48 tx48 => ?_)
          refine wk_top f0_0_22 (c49.symm.trans c25) ?_
          refine lv_iconst (v := 1) hx hb dX12_settles_30 (by decide) ?_
          refine lv_isub hx hb dX12_settles_31 ?_
          refine lv_topi (fun x50 ex50 => ?_)
          have ex50 : x50.toInt = f0_0_22.toInt - (1 : Int) := by rw [ex50]; exact wk_sub (show (-2147483648) ≤ f0_0_22.toInt - (1 : Int) by omega) (show f0_0_22.toInt - (1 : Int) ≤ 2147483647 by omega)
          refine tk_puti hC hK hw hT hinX12 tyX12_ok nmX12 kM_at0 (by decide) rfl rfl 22 (by decide) (List.mem_of_getElem? (i := 1) rfl) rfl rfl rfl rfl (show 0 ≤ x50.toInt by omega) (show x50.toInt ≤ 400 by omega) dX12_settles_32 (fun H locs w51 hw hT k53 c52 => ?_)
          have hF := hF.put kM_at0 (k := 22) (by decide) k53
          have c54 := k53.gi (Or.inr (by decide)) c16
          have c55 := k53.gi (Or.inr (by decide)) c19
          have c56 := k53.gi (Or.inr (by decide)) c22
          have c57 := k53.gi (Or.inr (by decide)) c28
          have c58 := k53.gi (Or.inl (tk_ne kM_at9 kM_at0 (by decide))) c36
          refine lv_aload_n hx hb dX12_settles_35 rfl (lv_at hl 0 rfl) ?_
          refine lv_aload_n hx hb dX12_settles_36 rfl (lv_at hl 0 rfl) ?_
          refine tk_getA hC hK hw hT hinX12 kM_at0 (by decide) rfl 21 (by decide) (List.mem_of_getElem? (i := 2) rfl) rfl rfl dX12_settles_37 ?_
          refine lv_aload_n hx hb dX12_settles_40 rfl (lv_at hl 0 rfl) ?_
          refine tk_geti hC hK hw hT hinX12 kM_at0 (by decide) rfl 22 (by decide) (List.mem_of_getElem? (i := 1) rfl) rfl rfl dX12_settles_41 (fun x59 c60 rx59 tx59 => ?_)
          refine wk_top x50 (c60.symm.trans c52) ?_
          refine tk_iald hC hK hw hT kM_at9 rfl rfl (show 0 ≤ x50.toInt by omega) (show x50.toInt < 400 by omega) dX12_settles_44 (fun x61 c62 rx61 tx61 => ?_)
          have c62 : gi w51 9 (1 * f0_0_22.toInt + -1).toNat = x61 := (congrArg (gi w51 9) (congrArg Int.toNat (show 1 * f0_0_22.toInt + -1 = x50.toInt by omega))).trans c62
          refine wk_top x35 (c62.symm.trans c58) ?_
          refine lv_iconst (v := 0) hx hb dX12_settles_45 (by decide) ?_
          obtain rfl : x35 = 13 := wk_eq.mpr (show x35.toInt = 13 by omega)
          refine tk_Vv hC hK hw hT hA hE hSR kM_at0 (by decide) rfl (k_X12_puts_3 l adK adV dC dI cy ad B (by omega) (by omega) qr s1   13 (by decide) (by decide) 0 w51 H.size hT c54 f0_3_2 c57 (show 0 ≤ f0_3_2.toInt by omega) (show f0_3_2.toInt ≤ 400 by omega) (show f0_3_2.toInt ≤ 399 by omega)) (cwV 2 hC.2.2.2.2 gX12_settles_X12_puts rfl rfl rfl (by decide +kernel) ⟨Nat.le_of_ble_eq_true rfl, Nat.le_of_ble_eq_true rfl⟩) rfl hl.1 rfl (Nat.le_of_ble_eq_true rfl) dX12_settles_46 (fun w65 H locs hp64 hw => ?_)
          obtain ⟨hT, k66, hg70⟩ := hp64
          have hF := hF.tr k66 (by decide)
          have c71 := k66.gi kM_at0 (by decide) c54
          have c72 := k66.gi kM_at0 (by decide) c55
          have c73 := k66.gi kM_at0 (by decide) c56
          have c74 := k66.gi kM_at9 rfl c58
          have c75 := k66.gi kM_at0 (by decide) c52
          obtain ⟨⟨x67, c68, rx67, tx67⟩, g69⟩ := hg70
          have ex67 : x67.toInt = (2 : Int) := by rw [show x67 = 2 from c68.symm.trans c71]; decide
          obtain ⟨x76, c77, rx76, tx76⟩ := hT.rda (lo := 0) (hi := 400) (i := 2) kM_at3 rfl rfl (by decide)
          have g69 : x76.toInt = f0_3_2.toInt + 1 := by have q := g69; simp only [c57, c77] at q; omega
          refine lv_aload_n hx hb dX12_settles_49 rfl (lv_at hl 0 rfl) ?_
          refine tk_getA hC hK hw hT hinX12 kM_at0 (by decide) rfl 21 (by decide) (List.mem_of_getElem? (i := 2) rfl) rfl rfl dX12_settles_50 ?_
          refine lv_aload_n hx hb dX12_settles_53 rfl (lv_at hl 0 rfl) ?_
          refine tk_geti hC hK hw hT hinX12 kM_at0 (by decide) rfl 22 (by decide) (List.mem_of_getElem? (i := 1) rfl) rfl rfl dX12_settles_54 (fun x78 c79 rx78 tx78 => ?_)
          refine wk_top x50 (c79.symm.trans c75) ?_
          refine tk_iald hC hK hw hT kM_at9 rfl rfl (show 0 ≤ x50.toInt by omega) (show x50.toInt < 400 by omega) dX12_settles_57 (fun x80 c81 rx80 tx80 => ?_)
          have c81 : gi w65 9 (1 * f0_0_22.toInt + -1).toNat = x80 := (congrArg (gi w65 9) (congrArg Int.toNat (show 1 * f0_0_22.toInt + -1 = x50.toInt by omega))).trans c81
          refine wk_top 13 (c81.symm.trans c74) ?_
          refine lv_bipush (v := 11) hx hb dX12_settles_58 (by decide) ?_
          refine lv_icmp_ne (tgt := 0) hx hb dX12_settles_60 (by decide) (fun _ => ?_) (fun c => absurd c (by decide))
          exact ih0 f0_0_19 x50 x76 H locs ls w65 (show 0 ≤ f1_.toInt by omega) (show f1_.toInt ≤ 60 by omega) (show (-60) ≤ f0_0_19.toInt by omega) (show f0_0_19.toInt ≤ 10 by omega) (show 0 ≤ x50.toInt by omega) (show x50.toInt ≤ 390 by omega) (show 0 ≤ x76.toInt by omega) (show x76.toInt ≤ 390 by omega) (show x76.toInt + x50.toInt = f4_.toInt + f3_.toInt by omega) (show x50.toInt ≤ f3_.toInt by omega) (show x50.toInt + f2_.toInt ≤ f3_.toInt + f0_0_19.toInt by omega) (show x50.toInt ≤ f0_0_19.toInt + f1_.toInt by omega) (show x76.toInt ≤ 390 by omega) (show x50.toInt ≤ 390 by omega) (show -60 ≤ f0_0_19.toInt by omega) (show brkN w0 (x50.toInt).toNat = brkN w0 (f3_.toInt).toNat from ((brk_step (by omega) (show f0_0_22.toInt = x50.toInt + 1 by omega) (show ¬ (gi w0 9 (x50.toInt).toNat).toInt = 91 by first | (rw [show (x50.toInt) = 1 * f0_0_22.toInt + -1 by omega, ← hF.gi kM_at9 rfl rfl, c74]; omega) | (rw [show (x50.toInt) = 1 * f0_0_22.toInt + -1 by omega, ← hF.gi kM_at9 rfl rfl, c74]; decide))).trans hcr0_7)) (show (x50.toInt - 0).toNat < n0 by omega) hw hT hF c71 c72 c73 c75 c77 (lv_sub hl [0, 1] rfl)
        · refine lv_iload_n hx hb dX12_settles_21 rfl (lv_at hl 1 rfl) ?_
          refine lv_icmp_lt (tgt := 76) hx hb dX12_settles_22 (by decide) (fun c => absurd c (by decide)) (fun _ => ?_)
          refine lv_aload_n hx hb dX12_settles_25 rfl (lv_at hl 0 rfl) ?_
          refine lv_dup hx hb dX12_settles_26 rfl ?_
          refine tk_geti hC hK hw hT hinX12 kM_at0 (by decide) rfl 22 (by decide) (List.mem_of_getElem? (i := 1) rfl) rfl rfl dX12_settles_27 (fun x82 c83 rx82 tx82 => ?_)
          refine wk_top f0_0_22 (c83.symm.trans c25) ?_
          refine lv_iconst (v := 1) hx hb dX12_settles_30 (by decide) ?_
          refine lv_isub hx hb dX12_settles_31 ?_
          refine lv_topi (fun x84 ex84 => ?_)
          have ex84 : x84.toInt = f0_0_22.toInt - (1 : Int) := by rw [ex84]; exact wk_sub (show (-2147483648) ≤ f0_0_22.toInt - (1 : Int) by omega) (show f0_0_22.toInt - (1 : Int) ≤ 2147483647 by omega)
          refine tk_puti hC hK hw hT hinX12 tyX12_ok nmX12 kM_at0 (by decide) rfl rfl 22 (by decide) (List.mem_of_getElem? (i := 1) rfl) rfl rfl rfl rfl (show 0 ≤ x84.toInt by omega) (show x84.toInt ≤ 400 by omega) dX12_settles_32 (fun H locs w85 hw hT k87 c86 => ?_)
          have hF := hF.put kM_at0 (k := 22) (by decide) k87
          have c88 := k87.gi (Or.inr (by decide)) c16
          have c89 := k87.gi (Or.inr (by decide)) c19
          have c90 := k87.gi (Or.inr (by decide)) c22
          have c91 := k87.gi (Or.inr (by decide)) c28
          have c92 := k87.gi (Or.inl (tk_ne kM_at9 kM_at0 (by decide))) c36
          refine lv_aload_n hx hb dX12_settles_35 rfl (lv_at hl 0 rfl) ?_
          refine lv_aload_n hx hb dX12_settles_36 rfl (lv_at hl 0 rfl) ?_
          refine tk_getA hC hK hw hT hinX12 kM_at0 (by decide) rfl 21 (by decide) (List.mem_of_getElem? (i := 2) rfl) rfl rfl dX12_settles_37 ?_
          refine lv_aload_n hx hb dX12_settles_40 rfl (lv_at hl 0 rfl) ?_
          refine tk_geti hC hK hw hT hinX12 kM_at0 (by decide) rfl 22 (by decide) (List.mem_of_getElem? (i := 1) rfl) rfl rfl dX12_settles_41 (fun x93 c94 rx93 tx93 => ?_)
          refine wk_top x84 (c94.symm.trans c86) ?_
          refine tk_iald hC hK hw hT kM_at9 rfl rfl (show 0 ≤ x84.toInt by omega) (show x84.toInt < 400 by omega) dX12_settles_44 (fun x95 c96 rx95 tx95 => ?_)
          have c96 : gi w85 9 (1 * f0_0_22.toInt + -1).toNat = x95 := (congrArg (gi w85 9) (congrArg Int.toNat (show 1 * f0_0_22.toInt + -1 = x84.toInt by omega))).trans c96
          refine wk_top x35 (c96.symm.trans c92) ?_
          refine lv_iconst (v := 0) hx hb dX12_settles_45 (by decide) ?_
          obtain rfl : x35 = 12 := wk_eq.mpr (show x35.toInt = 12 by omega)
          refine tk_Vv hC hK hw hT hA hE hSR kM_at0 (by decide) rfl (k_X12_puts_3 l adK adV dC dI cy ad B (by omega) (by omega) qr s1   12 (by decide) (by decide) 0 w85 H.size hT c88 f0_3_2 c91 (show 0 ≤ f0_3_2.toInt by omega) (show f0_3_2.toInt ≤ 400 by omega) (show f0_3_2.toInt ≤ 399 by omega)) (cwV 2 hC.2.2.2.2 gX12_settles_X12_puts rfl rfl rfl (by decide +kernel) ⟨Nat.le_of_ble_eq_true rfl, Nat.le_of_ble_eq_true rfl⟩) rfl hl.1 rfl (Nat.le_of_ble_eq_true rfl) dX12_settles_46 (fun w99 H locs hp98 hw => ?_)
          obtain ⟨hT, k100, hg104⟩ := hp98
          have hF := hF.tr k100 (by decide)
          have c105 := k100.gi kM_at0 (by decide) c88
          have c106 := k100.gi kM_at0 (by decide) c89
          have c107 := k100.gi kM_at0 (by decide) c90
          have c108 := k100.gi kM_at9 rfl c92
          have c109 := k100.gi kM_at0 (by decide) c86
          obtain ⟨⟨x101, c102, rx101, tx101⟩, g103⟩ := hg104
          have ex101 : x101.toInt = (2 : Int) := by rw [show x101 = 2 from c102.symm.trans c105]; decide
          obtain ⟨x110, c111, rx110, tx110⟩ := hT.rda (lo := 0) (hi := 400) (i := 2) kM_at3 rfl rfl (by decide)
          have g103 : x110.toInt = f0_3_2.toInt + 1 := by have q := g103; simp only [c91, c111] at q; omega
          refine lv_aload_n hx hb dX12_settles_49 rfl (lv_at hl 0 rfl) ?_
          refine tk_getA hC hK hw hT hinX12 kM_at0 (by decide) rfl 21 (by decide) (List.mem_of_getElem? (i := 2) rfl) rfl rfl dX12_settles_50 ?_
          refine lv_aload_n hx hb dX12_settles_53 rfl (lv_at hl 0 rfl) ?_
          refine tk_geti hC hK hw hT hinX12 kM_at0 (by decide) rfl 22 (by decide) (List.mem_of_getElem? (i := 1) rfl) rfl rfl dX12_settles_54 (fun x112 c113 rx112 tx112 => ?_)
          refine wk_top x84 (c113.symm.trans c109) ?_
          refine tk_iald hC hK hw hT kM_at9 rfl rfl (show 0 ≤ x84.toInt by omega) (show x84.toInt < 400 by omega) dX12_settles_57 (fun x114 c115 rx114 tx114 => ?_)
          have c115 : gi w99 9 (1 * f0_0_22.toInt + -1).toNat = x114 := (congrArg (gi w99 9) (congrArg Int.toNat (show 1 * f0_0_22.toInt + -1 = x84.toInt by omega))).trans c115
          refine wk_top 12 (c115.symm.trans c108) ?_
          refine lv_bipush (v := 11) hx hb dX12_settles_58 (by decide) ?_
          refine lv_icmp_ne (tgt := 0) hx hb dX12_settles_60 (by decide) (fun _ => ?_) (fun c => absurd c (by decide))
          exact ih0 f0_0_19 x84 x110 H locs ls w99 (show 0 ≤ f1_.toInt by omega) (show f1_.toInt ≤ 60 by omega) (show (-60) ≤ f0_0_19.toInt by omega) (show f0_0_19.toInt ≤ 10 by omega) (show 0 ≤ x84.toInt by omega) (show x84.toInt ≤ 390 by omega) (show 0 ≤ x110.toInt by omega) (show x110.toInt ≤ 390 by omega) (show x110.toInt + x84.toInt = f4_.toInt + f3_.toInt by omega) (show x84.toInt ≤ f3_.toInt by omega) (show x84.toInt + f2_.toInt ≤ f3_.toInt + f0_0_19.toInt by omega) (show x84.toInt ≤ f0_0_19.toInt + f1_.toInt by omega) (show x110.toInt ≤ 390 by omega) (show x84.toInt ≤ 390 by omega) (show -60 ≤ f0_0_19.toInt by omega) (show brkN w0 (x84.toInt).toNat = brkN w0 (f3_.toInt).toNat from ((brk_step (by omega) (show f0_0_22.toInt = x84.toInt + 1 by omega) (show ¬ (gi w0 9 (x84.toInt).toNat).toInt = 91 by first | (rw [show (x84.toInt) = 1 * f0_0_22.toInt + -1 by omega, ← hF.gi kM_at9 rfl rfl, c108]; omega) | (rw [show (x84.toInt) = 1 * f0_0_22.toInt + -1 by omega, ← hF.gi kM_at9 rfl rfl, c108]; decide))).trans hcr0_7)) (show (x84.toInt - 0).toNat < n0 by omega) hw hT hF c105 c106 c107 c109 c111 (lv_sub hl [0, 1] rfl)
        · refine lv_iload_n hx hb dX12_settles_21 rfl (lv_at hl 1 rfl) ?_
          refine lv_icmp_lt (tgt := 76) hx hb dX12_settles_22 (by decide) (fun c => absurd c (by decide)) (fun _ => ?_)
          refine lv_aload_n hx hb dX12_settles_25 rfl (lv_at hl 0 rfl) ?_
          refine lv_dup hx hb dX12_settles_26 rfl ?_
          refine tk_geti hC hK hw hT hinX12 kM_at0 (by decide) rfl 22 (by decide) (List.mem_of_getElem? (i := 1) rfl) rfl rfl dX12_settles_27 (fun x116 c117 rx116 tx116 => ?_)
          refine wk_top f0_0_22 (c117.symm.trans c25) ?_
          refine lv_iconst (v := 1) hx hb dX12_settles_30 (by decide) ?_
          refine lv_isub hx hb dX12_settles_31 ?_
          refine lv_topi (fun x118 ex118 => ?_)
          have ex118 : x118.toInt = f0_0_22.toInt - (1 : Int) := by rw [ex118]; exact wk_sub (show (-2147483648) ≤ f0_0_22.toInt - (1 : Int) by omega) (show f0_0_22.toInt - (1 : Int) ≤ 2147483647 by omega)
          refine tk_puti hC hK hw hT hinX12 tyX12_ok nmX12 kM_at0 (by decide) rfl rfl 22 (by decide) (List.mem_of_getElem? (i := 1) rfl) rfl rfl rfl rfl (show 0 ≤ x118.toInt by omega) (show x118.toInt ≤ 400 by omega) dX12_settles_32 (fun H locs w119 hw hT k121 c120 => ?_)
          have hF := hF.put kM_at0 (k := 22) (by decide) k121
          have c122 := k121.gi (Or.inr (by decide)) c16
          have c123 := k121.gi (Or.inr (by decide)) c19
          have c124 := k121.gi (Or.inr (by decide)) c22
          have c125 := k121.gi (Or.inr (by decide)) c28
          have c126 := k121.gi (Or.inl (tk_ne kM_at9 kM_at0 (by decide))) c36
          refine lv_aload_n hx hb dX12_settles_35 rfl (lv_at hl 0 rfl) ?_
          refine lv_aload_n hx hb dX12_settles_36 rfl (lv_at hl 0 rfl) ?_
          refine tk_getA hC hK hw hT hinX12 kM_at0 (by decide) rfl 21 (by decide) (List.mem_of_getElem? (i := 2) rfl) rfl rfl dX12_settles_37 ?_
          refine lv_aload_n hx hb dX12_settles_40 rfl (lv_at hl 0 rfl) ?_
          refine tk_geti hC hK hw hT hinX12 kM_at0 (by decide) rfl 22 (by decide) (List.mem_of_getElem? (i := 1) rfl) rfl rfl dX12_settles_41 (fun x127 c128 rx127 tx127 => ?_)
          refine wk_top x118 (c128.symm.trans c120) ?_
          refine tk_iald hC hK hw hT kM_at9 rfl rfl (show 0 ≤ x118.toInt by omega) (show x118.toInt < 400 by omega) dX12_settles_44 (fun x129 c130 rx129 tx129 => ?_)
          have c130 : gi w119 9 (1 * f0_0_22.toInt + -1).toNat = x129 := (congrArg (gi w119 9) (congrArg Int.toNat (show 1 * f0_0_22.toInt + -1 = x118.toInt by omega))).trans c130
          refine wk_top x35 (c130.symm.trans c126) ?_
          refine lv_iconst (v := 0) hx hb dX12_settles_45 (by decide) ?_
          obtain rfl : x35 = 11 := wk_eq.mpr (show x35.toInt = 11 by omega)
          refine tk_Vv hC hK hw hT hA hE hSR kM_at0 (by decide) rfl (k_X12_puts_3 l adK adV dC dI cy ad B (by omega) (by omega) qr s1   11 (by decide) (by decide) 0 w119 H.size hT c122 f0_3_2 c125 (show 0 ≤ f0_3_2.toInt by omega) (show f0_3_2.toInt ≤ 400 by omega) (show f0_3_2.toInt ≤ 399 by omega)) (cwV 2 hC.2.2.2.2 gX12_settles_X12_puts rfl rfl rfl (by decide +kernel) ⟨Nat.le_of_ble_eq_true rfl, Nat.le_of_ble_eq_true rfl⟩) rfl hl.1 rfl (Nat.le_of_ble_eq_true rfl) dX12_settles_46 (fun w133 H locs hp132 hw => ?_)
          obtain ⟨hT, k134, hg138⟩ := hp132
          have hF := hF.tr k134 (by decide)
          have c139 := k134.gi kM_at0 (by decide) c122
          have c140 := k134.gi kM_at0 (by decide) c123
          have c141 := k134.gi kM_at0 (by decide) c124
          have c142 := k134.gi kM_at9 rfl c126
          have c143 := k134.gi kM_at0 (by decide) c120
          obtain ⟨⟨x135, c136, rx135, tx135⟩, g137⟩ := hg138
          have ex135 : x135.toInt = (2 : Int) := by rw [show x135 = 2 from c136.symm.trans c139]; decide
          obtain ⟨x144, c145, rx144, tx144⟩ := hT.rda (lo := 0) (hi := 400) (i := 2) kM_at3 rfl rfl (by decide)
          have g137 : x144.toInt = f0_3_2.toInt + 1 := by have q := g137; simp only [c125, c145] at q; omega
          refine lv_aload_n hx hb dX12_settles_49 rfl (lv_at hl 0 rfl) ?_
          refine tk_getA hC hK hw hT hinX12 kM_at0 (by decide) rfl 21 (by decide) (List.mem_of_getElem? (i := 2) rfl) rfl rfl dX12_settles_50 ?_
          refine lv_aload_n hx hb dX12_settles_53 rfl (lv_at hl 0 rfl) ?_
          refine tk_geti hC hK hw hT hinX12 kM_at0 (by decide) rfl 22 (by decide) (List.mem_of_getElem? (i := 1) rfl) rfl rfl dX12_settles_54 (fun x146 c147 rx146 tx146 => ?_)
          refine wk_top x118 (c147.symm.trans c143) ?_
          refine tk_iald hC hK hw hT kM_at9 rfl rfl (show 0 ≤ x118.toInt by omega) (show x118.toInt < 400 by omega) dX12_settles_57 (fun x148 c149 rx148 tx148 => ?_)
          have c149 : gi w133 9 (1 * f0_0_22.toInt + -1).toNat = x148 := (congrArg (gi w133 9) (congrArg Int.toNat (show 1 * f0_0_22.toInt + -1 = x118.toInt by omega))).trans c149
          refine wk_top 11 (c149.symm.trans c142) ?_
          refine lv_bipush (v := 11) hx hb dX12_settles_58 (by decide) ?_
          refine lv_icmp_ne (tgt := 0) hx hb dX12_settles_60 (by decide) (fun c => absurd (by decide) c) (fun _ => ?_)
          refine lv_aload_n hx hb dX12_settles_63 rfl (lv_at hl 0 rfl) ?_
          refine lv_dup hx hb dX12_settles_64 rfl ?_
          refine tk_geti hC hK hw hT hinX12 kM_at0 (by decide) rfl 19 (by decide) (List.mem_of_getElem? (i := 3) rfl) rfl rfl dX12_settles_65 (fun x150 c151 rx150 tx150 => ?_)
          refine wk_top f0_0_19 (c151.symm.trans c141) ?_
          refine lv_iconst (v := 1) hx hb dX12_settles_68 (by decide) ?_
          refine lv_isub hx hb dX12_settles_69 ?_
          refine lv_topi (fun x152 ex152 => ?_)
          have ex152 : x152.toInt = f0_0_19.toInt - (1 : Int) := by rw [ex152]; exact wk_sub (show (-2147483648) ≤ f0_0_19.toInt - (1 : Int) by omega) (show f0_0_19.toInt - (1 : Int) ≤ 2147483647 by omega)
          refine tk_puti hC hK hw hT hinX12 tyX12_ok nmX12 kM_at0 (by decide) rfl rfl 19 (by decide) (List.mem_of_getElem? (i := 3) rfl) rfl rfl rfl rfl (show (-100) ≤ x152.toInt by omega) (show x152.toInt ≤ 10 by omega) dX12_settles_70 (fun H locs w153 hw hT k155 c154 => ?_)
          have hF := hF.put kM_at0 (k := 19) (by decide) k155
          have c156 := k155.gi (Or.inr (by decide)) c139
          have c157 := k155.gi (Or.inr (by decide)) c140
          have c158 := k155.gi (Or.inl (tk_ne kM_at9 kM_at0 (by decide))) c142
          have c159 := k155.gi (Or.inr (by decide)) c143
          have c160 := k155.gi (Or.inr (by decide)) c145
          refine lv_goto (tgt := 0) hx hb dX12_settles_73 (by decide) ?_
          exact ih0 x152 x118 x144 H locs ls w153 (show 0 ≤ f1_.toInt by omega) (show f1_.toInt ≤ 60 by omega) (show (-60) ≤ x152.toInt by omega) (show x152.toInt ≤ 10 by omega) (show 0 ≤ x118.toInt by omega) (show x118.toInt ≤ 390 by omega) (show 0 ≤ x144.toInt by omega) (show x144.toInt ≤ 390 by omega) (show x144.toInt + x118.toInt = f4_.toInt + f3_.toInt by omega) (show x118.toInt ≤ f3_.toInt by omega) (show x118.toInt + f2_.toInt ≤ f3_.toInt + x152.toInt by omega) (show x118.toInt ≤ x152.toInt + f1_.toInt by omega) (show x144.toInt ≤ 390 by omega) (show x118.toInt ≤ 390 by omega) (show -60 ≤ x152.toInt by omega) (show brkN w0 (x118.toInt).toNat = brkN w0 (f3_.toInt).toNat from ((brk_step (by omega) (show f0_0_22.toInt = x118.toInt + 1 by omega) (show ¬ (gi w0 9 (x118.toInt).toNat).toInt = 91 by first | (rw [show (x118.toInt) = 1 * f0_0_22.toInt + -1 by omega, ← hF.gi kM_at9 rfl rfl, c158]; omega) | (rw [show (x118.toInt) = 1 * f0_0_22.toInt + -1 by omega, ← hF.gi kM_at9 rfl rfl, c158]; decide))).trans hcr0_7)) (show (x118.toInt - 0).toNat < n0 by omega) hw hT hF c156 c157 c154 c159 c160 (lv_sub hl [0, 1] rfl)
  exact L0 ((f3_.toInt - 0).toNat + 1) f2_ f3_ f4_ s.heap locs ls w0 (show 0 ≤ f1_.toInt by omega) (show f1_.toInt ≤ 60 by omega) (show (-60) ≤ f2_.toInt by omega) (show f2_.toInt ≤ 10 by omega) (show 0 ≤ f3_.toInt by omega) (show f3_.toInt ≤ 390 by omega) (show 0 ≤ f4_.toInt by omega) (show f4_.toInt ≤ 390 by omega) (show f4_.toInt + f3_.toInt = f4_.toInt + f3_.toInt by omega) (show f3_.toInt ≤ f3_.toInt by omega) (show f3_.toInt + f2_.toInt ≤ f3_.toInt + f2_.toInt by omega) (show f3_.toInt ≤ f2_.toInt + f1_.toInt by omega) (show f4_.toInt ≤ 390 by omega) (show f3_.toInt ≤ 390 by omega) (show -60 ≤ f2_.toInt by omega) (show brkN w0 (f3_.toInt).toNat = brkN w0 (f3_.toInt).toNat from rfl) (Nat.lt_succ_self _) hw hT hF cf0_ cf1_ cf2_ cf3_ cf4_ (lv_sub hl [0, 1] rfl)
abbrev P_X12_settles_8 (ad : Nat → Nat) (cy : Nat → ClassId) (B : Int) (qr : Nat) (s1 : Int)  (w0 : va_W) : va_W → Prop := fun u => TW ksM ad cy B qr 12 u ∧ FE ksM [(12, 19, 19), (12, 22, 22), (61, 0, 2400), (62, 0, 7)] w0 u ∧ (((∃ y : Int32, gi u 0 17 = y ∧ 2 ≤ y.toInt ∧ y.toInt ≤ 2) ∧ (∃ y : Int32, gi u 0 19 = y ∧ (-60) ≤ y.toInt ∧ y.toInt ≤ 10) ∧ (∃ y : Int32, gi u 0 22 = y ∧ 0 ≤ y.toInt ∧ y.toInt ≤ 390) ∧ ((gi u 3 2).toInt + (gi u 0 22).toInt = (gi w0 3 2).toInt + (gi w0 0 22).toInt) ∧ ((gi u 0 22).toInt ≤ (gi w0 0 22).toInt) ∧ ((gi u 0 22).toInt + (gi w0 0 19).toInt ≤ (gi w0 0 22).toInt + (gi u 0 19).toInt) ∧ ((gi u 0 22).toInt ≤ (gi u 0 19).toInt + (gi w0 0 18).toInt) ∧ ((gi u 0 22).toInt ≤ 390) ∧ ((gi u 3 2).toInt ≤ 390) ∧ (brkN w0 ((gi u 0 22).toInt).toNat = brkN w0 ((gi w0 0 22).toInt).toNat)))
set_option maxHeartbeats 4000000 in
set_option maxRecDepth 100000 in
theorem k_X12_settles_8 (l : Launch) (adK adV : Nat → Nat) (dC : Nat → ClassId) (dI : Nat → Nat → Nat) (cy : Nat → ClassId) (ad : Nat → Nat) (B : Int) (hB0 : 100000 ≤ B) (hB1 : B ≤ 1073741824) (qr : Nat) (s1 : Int)   (w0 : va_W) (sz : Nat) (hT : TW ksM ad cy B qr 12 w0) (cf0_ : gi w0 0 17 = 2) (f1_ : Int32) (cf1_ : gi w0 0 18 = f1_) (rf1_ : 0 ≤ f1_.toInt) (tf1_ : f1_.toInt ≤ 60) (f2_ : Int32) (cf2_ : gi w0 0 19 = f2_) (rf2_ : (-100) ≤ f2_.toInt) (tf2_ : f2_.toInt ≤ 10) (f3_ : Int32) (cf3_ : gi w0 0 22 = f3_) (rf3_ : 0 ≤ f3_.toInt) (tf3_ : f3_.toInt ≤ 400) (f4_ : Int32) (cf4_ : gi w0 3 2 = f4_) (rf4_ : 0 ≤ f4_.toInt) (tf4_ : f4_.toInt ≤ 400) (pr0_ : f4_.toInt + f3_.toInt ≤ 390) (pr1_ : f3_.toInt ≤ f2_.toInt + f1_.toInt) (pr2_ : f4_.toInt ≤ 390) (pr3_ : f3_.toInt ≤ 390) : Met l yX12_settles wsX12_settles ({ frames := 2, cells := 0, slots := 0, locals := 34 }) (va_Pc [.ref (ad 0), .int 3] (wpreS adK adV dC dI cy sz w0)) (va_Qv (P_X12_settles_8 ad cy B qr s1  w0) (fun u : va_W => wpost dC dI cy (va_A w0 sz) u) (va_A w0 sz)) 0 0 (va_A w0 sz) := by
  refine Met.ofW (cc := cX12_settles) (maxL := 2) (ret := none) (by decide) rfl ?_
  intro p e s m args below meth c s₁ Bk hml hv
  obtain ⟨rfl, ⟨hsz, hP, hK, hD0⟩, hE, hSR⟩ := hv
  have hx := Bk.exec
  have hb := Bk.bytes
  have hr := Bk.returns
  have hlocks := Bk.notSynchronized
  have hC : CallFix p m c cX12_settles 2 s _ wsX12_settles RX12 := ⟨hx, hb, hml, findClass_of_methodNamed Bk.named, atoms_spec (ws := wsX12_settles) Bk.pre⟩
  subst hsz
  have hD := hD0.self (sz := s.heap.size)
  generalize hAe : va_A w0 s.heap.size = A at hD hE ⊢
  have hA : ∀ q : Nat, s.heap.size ≤ q → A q := fun q h => by rw [← hAe]; exact Or.inr h
  have hw : Wd dC dI A s.heap s.heap [] w0 := ⟨hP, hD, va_S.rf⟩
  have hF : FE ksM [(12, 19, 19), (12, 22, 22), (61, 0, 2400), (62, 0, 7)] w0 w0 := FE.rf
  have hl := lv_entry ([.ref (ad 0), .int 3]) (n := 2) (Nat.le_of_ble_eq_true rfl)
  rw [lg_entry_eq]
  generalize (lg_sl ([.ref (ad 0), .int 3]) ++ List.replicate (2 - (lg_sl ([.ref (ad 0), .int 3])).length) Slot.unset).toArray = ls at hl ⊢
  have hl : lv_has ls 2 [(0, .ref (ad 0)), (1, .int 3)] := hl
  generalize hloc : ([] : List Loc) = locs at hw ⊢
  have hinX12 : ∀ w ∈ u_ws RX12 TX12 42, w ∈ wsX12_settles := fun _ h => List.mem_cons_of_mem _ (List.mem_append_right _ (h))
  have J76 : ∀ (f76_0_19 : Int32) (f76_0_22 : Int32) (f76_3_2 : Int32) (H : Heap) (locs : List Loc) (ls : Array Slot) (w1 : va_W), 0 ≤ f1_.toInt → f1_.toInt ≤ 60 → (-60) ≤ f76_0_19.toInt → f76_0_19.toInt ≤ 10 → 0 ≤ f76_0_22.toInt → f76_0_22.toInt ≤ 390 → 0 ≤ f76_3_2.toInt → f76_3_2.toInt ≤ 390 → (f76_3_2.toInt + f76_0_22.toInt = f4_.toInt + f3_.toInt) → (f76_0_22.toInt ≤ f3_.toInt) → (f76_0_22.toInt + f2_.toInt ≤ f3_.toInt + f76_0_19.toInt) → (f76_0_22.toInt ≤ f76_0_19.toInt + f1_.toInt) → (f76_3_2.toInt ≤ 390) → (f76_0_22.toInt ≤ 390) → (-60 ≤ f76_0_19.toInt) → (brkN w0 (f76_0_22.toInt).toNat = brkN w0 (f3_.toInt).toNat) → Wd dC dI A s.heap H locs w1 → TW ksM ad cy B qr 12 w1 → FE ksM [(12, 19, 19), (12, 22, 22), (61, 0, 2400), (62, 0, 7)] w0 w1 → gi w1 0 17 = 2 → gi w1 0 18 = f1_ → gi w1 0 19 = f76_0_19 → gi w1 0 22 = f76_0_22 → gi w1 3 2 = f76_3_2 → lv_has ls 2 [(0, .ref (ad 0)), (1, .int 3)] → W p l e ({ frames := 2, cells := 0, slots := 0, locals := 34 }) s m (List.toArray [.ref (ad 0), .int 3]) below meth c H locs 0 0 (MQ below (va_Qv (P_X12_settles_8 ad cy B qr s1  w0) (fun u : va_W => wpost dC dI cy A u) A) (List.toArray [.ref (ad 0), .int 3]) s 0 0 A) (F0 m 76 ls []) := by
    intro f76_0_19 f76_0_22 f76_3_2 H locs ls w1 r3 t4 r6 t7 r9 t10 r12 t13 hcr76_0 hcr76_1 hcr76_2 hcr76_3 hcr76_4 hcr76_5 hcr76_6 hcr76_7 hw hT hF c2 c5 c8 c11 c14 hl
    exact tk_vret hC hr hlocks hK ⟨hT, hF, ⟨⟨2, c2, (by decide), (by decide)⟩, ⟨f76_0_19, c8, (show (-60) ≤ f76_0_19.toInt by omega), (show f76_0_19.toInt ≤ 10 by omega)⟩, ⟨f76_0_22, c11, (show 0 ≤ f76_0_22.toInt by omega), (show f76_0_22.toInt ≤ 390 by omega)⟩, (by simp only [cf4_, c14, cf3_, c11]; omega), (by simp only [cf3_, c11]; omega), (by simp only [cf2_, c8, cf3_, c11]; omega), (by simp only [c8, cf1_, c11]; omega), (by simp only [c11]; omega), (by simp only [c14]; omega), (by simp only [cf3_, c11]; omega)⟩⟩ hw dX12_settles_76
  have L0 : ∀ (n0 : Nat) (f0_0_19 : Int32) (f0_0_22 : Int32) (f0_3_2 : Int32) (H : Heap) (locs : List Loc) (ls : Array Slot) (w15 : va_W), 0 ≤ f1_.toInt → f1_.toInt ≤ 60 → (-60) ≤ f0_0_19.toInt → f0_0_19.toInt ≤ 10 → 0 ≤ f0_0_22.toInt → f0_0_22.toInt ≤ 390 → 0 ≤ f0_3_2.toInt → f0_3_2.toInt ≤ 390 → (f0_3_2.toInt + f0_0_22.toInt = f4_.toInt + f3_.toInt) → (f0_0_22.toInt ≤ f3_.toInt) → (f0_0_22.toInt + f2_.toInt ≤ f3_.toInt + f0_0_19.toInt) → (f0_0_22.toInt ≤ f0_0_19.toInt + f1_.toInt) → (f0_3_2.toInt ≤ 390) → (f0_0_22.toInt ≤ 390) → (-60 ≤ f0_0_19.toInt) → (brkN w0 (f0_0_22.toInt).toNat = brkN w0 (f3_.toInt).toNat) → (f0_0_19.toInt - (-60)).toNat < n0 → Wd dC dI A s.heap H locs w15 → TW ksM ad cy B qr 12 w15 → FE ksM [(12, 19, 19), (12, 22, 22), (61, 0, 2400), (62, 0, 7)] w0 w15 → gi w15 0 17 = 2 → gi w15 0 18 = f1_ → gi w15 0 19 = f0_0_19 → gi w15 0 22 = f0_0_22 → gi w15 3 2 = f0_3_2 → lv_has ls 2 [(0, .ref (ad 0)), (1, .int 3)] → W p l e ({ frames := 2, cells := 0, slots := 0, locals := 34 }) s m (List.toArray [.ref (ad 0), .int 3]) below meth c H locs 0 0 (MQ below (va_Qv (P_X12_settles_8 ad cy B qr s1  w0) (fun u : va_W => wpost dC dI cy A u) A) (List.toArray [.ref (ad 0), .int 3]) s 0 0 A) (F0 m 0 ls []) := by
    intro n0
    induction n0 with
    | zero => intro f0_0_19 f0_0_22 f0_3_2 H locs ls w15 r17 t18 r20 t21 r23 t24 r26 t27 hcr0_0 hcr0_1 hcr0_2 hcr0_3 hcr0_4 hcr0_5 hcr0_6 hcr0_7 hm0 hw hT hF c16 c19 c22 c25 c28 hl; omega
    | succ n0 ih0 =>
      intro f0_0_19 f0_0_22 f0_3_2 H locs ls w15 r17 t18 r20 t21 r23 t24 r26 t27 hcr0_0 hcr0_1 hcr0_2 hcr0_3 hcr0_4 hcr0_5 hcr0_6 hcr0_7 hm0 hw hT hF c16 c19 c22 c25 c28 hl
      refine lv_aload_n hx hb dX12_settles_0 rfl (lv_at hl 0 rfl) ?_
      refine tk_geti hC hK hw hT hinX12 kM_at0 (by decide) rfl 22 (by decide) (List.mem_of_getElem? (i := 1) rfl) rfl rfl dX12_settles_1 (fun x29 c30 rx29 tx29 => ?_)
      refine wk_top f0_0_22 (c30.symm.trans c25) ?_
      refine lv_if_le (tgt := 76) hx hb dX12_settles_4 (by decide) (fun c31 => ?_) (fun c31 => ?_)
      · have c31 : f0_0_22.toInt ≤ (0 : Int) := wk_le.mp c31
        exact J76 f0_0_19 f0_0_22 f0_3_2 H locs ls w15 (show 0 ≤ f1_.toInt by omega) (show f1_.toInt ≤ 60 by omega) (show (-60) ≤ f0_0_19.toInt by omega) (show f0_0_19.toInt ≤ 10 by omega) (show 0 ≤ f0_0_22.toInt by omega) (show f0_0_22.toInt ≤ 390 by omega) (show 0 ≤ f0_3_2.toInt by omega) (show f0_3_2.toInt ≤ 390 by omega) (show f0_3_2.toInt + f0_0_22.toInt = f4_.toInt + f3_.toInt by omega) (show f0_0_22.toInt ≤ f3_.toInt by omega) (show f0_0_22.toInt + f2_.toInt ≤ f3_.toInt + f0_0_19.toInt by omega) (show f0_0_22.toInt ≤ f0_0_19.toInt + f1_.toInt by omega) (show f0_3_2.toInt ≤ 390 by omega) (show f0_0_22.toInt ≤ 390 by omega) (show -60 ≤ f0_0_19.toInt by omega) (show brkN w0 (f0_0_22.toInt).toNat = brkN w0 (f3_.toInt).toNat from hcr0_7)  hw hT hF c16 c19 c22 c25 c28 (lv_sub hl [0, 1] rfl)
      · have c31 : (0 : Int) < f0_0_22.toInt := wk_leF c31
        refine lv_aload_n hx hb dX12_settles_7 rfl (lv_at hl 0 rfl) ?_
        refine tk_getA hC hK hw hT hinX12 kM_at0 (by decide) rfl 21 (by decide) (List.mem_of_getElem? (i := 2) rfl) rfl rfl dX12_settles_8 ?_
        refine lv_aload_n hx hb dX12_settles_11 rfl (lv_at hl 0 rfl) ?_
        refine tk_geti hC hK hw hT hinX12 kM_at0 (by decide) rfl 22 (by decide) (List.mem_of_getElem? (i := 1) rfl) rfl rfl dX12_settles_12 (fun x32 c33 rx32 tx32 => ?_)
        refine wk_top f0_0_22 (c33.symm.trans c25) ?_
        refine lv_iconst (v := 1) hx hb dX12_settles_15 (by decide) ?_
        refine lv_isub hx hb dX12_settles_16 ?_
        refine lv_topi (fun x34 ex34 => ?_)
        have ex34 : x34.toInt = f0_0_22.toInt - (1 : Int) := by rw [ex34]; exact wk_sub (show (-2147483648) ≤ f0_0_22.toInt - (1 : Int) by omega) (show f0_0_22.toInt - (1 : Int) ≤ 2147483647 by omega)
        refine tk_iald hC hK hw hT kM_at9 rfl rfl (show 0 ≤ x34.toInt by omega) (show x34.toInt < 400 by omega) dX12_settles_17 (fun x35 c36 rx35 tx35 => ?_)
        have c36 : gi w15 9 (1 * f0_0_22.toInt + -1).toNat = x35 := (congrArg (gi w15 9) (congrArg Int.toNat (show 1 * f0_0_22.toInt + -1 = x34.toInt by omega))).trans c36
        refine tk_Si hC hK hw hT hA hE hSR (k_X12_strength_1 l adK adV dC dI cy ad B (by omega) (by omega) qr s1   x35 w15 H.size hT ) (va_cwS 1 hC.2.2.2.2 gX12_settles_X12_strength rfl rfl rfl (by decide +kernel) ⟨Nat.le_of_ble_eq_true rfl, Nat.le_of_ble_eq_true rfl⟩) rfl hl.1 rfl (Nat.le_of_ble_eq_true rfl) dX12_settles_18 (fun r37 w39 H locs hp38 hw => ?_)
        obtain ⟨rfl, hg47⟩ := hp38
        rcases hg47 with rfl | ⟨rfl, g41, g42⟩ | ⟨rfl, g43, g44⟩ | ⟨rfl, g45, g46⟩
        · refine lv_iload_n hx hb dX12_settles_21 rfl (lv_at hl 1 rfl) ?_
          refine lv_icmp_lt (tgt := 76) hx hb dX12_settles_22 (by decide) (fun _ => ?_) (fun c => absurd (by decide) c)
          exact J76 f0_0_19 f0_0_22 f0_3_2 H locs ls w15 (show 0 ≤ f1_.toInt by omega) (show f1_.toInt ≤ 60 by omega) (show (-60) ≤ f0_0_19.toInt by omega) (show f0_0_19.toInt ≤ 10 by omega) (show 0 ≤ f0_0_22.toInt by omega) (show f0_0_22.toInt ≤ 390 by omega) (show 0 ≤ f0_3_2.toInt by omega) (show f0_3_2.toInt ≤ 390 by omega) (show f0_3_2.toInt + f0_0_22.toInt = f4_.toInt + f3_.toInt by omega) (show f0_0_22.toInt ≤ f3_.toInt by omega) (show f0_0_22.toInt + f2_.toInt ≤ f3_.toInt + f0_0_19.toInt by omega) (show f0_0_22.toInt ≤ f0_0_19.toInt + f1_.toInt by omega) (show f0_3_2.toInt ≤ 390 by omega) (show f0_0_22.toInt ≤ 390 by omega) (show -60 ≤ f0_0_19.toInt by omega) (show brkN w0 (f0_0_22.toInt).toNat = brkN w0 (f3_.toInt).toNat from hcr0_7)  hw hT hF c16 c19 c22 c25 c28 (lv_sub hl [0, 1] rfl)
        · refine lv_iload_n hx hb dX12_settles_21 rfl (lv_at hl 1 rfl) ?_
          refine lv_icmp_lt (tgt := 76) hx hb dX12_settles_22 (by decide) (fun _ => ?_) (fun c => absurd (by decide) c)
          exact J76 f0_0_19 f0_0_22 f0_3_2 H locs ls w15 (show 0 ≤ f1_.toInt by omega) (show f1_.toInt ≤ 60 by omega) (show (-60) ≤ f0_0_19.toInt by omega) (show f0_0_19.toInt ≤ 10 by omega) (show 0 ≤ f0_0_22.toInt by omega) (show f0_0_22.toInt ≤ 390 by omega) (show 0 ≤ f0_3_2.toInt by omega) (show f0_3_2.toInt ≤ 390 by omega) (show f0_3_2.toInt + f0_0_22.toInt = f4_.toInt + f3_.toInt by omega) (show f0_0_22.toInt ≤ f3_.toInt by omega) (show f0_0_22.toInt + f2_.toInt ≤ f3_.toInt + f0_0_19.toInt by omega) (show f0_0_22.toInt ≤ f0_0_19.toInt + f1_.toInt by omega) (show f0_3_2.toInt ≤ 390 by omega) (show f0_0_22.toInt ≤ 390 by omega) (show -60 ≤ f0_0_19.toInt by omega) (show brkN w0 (f0_0_22.toInt).toNat = brkN w0 (f3_.toInt).toNat from hcr0_7)  hw hT hF c16 c19 c22 c25 c28 (lv_sub hl [0, 1] rfl)
        · refine lv_iload_n hx hb dX12_settles_21 rfl (lv_at hl 1 rfl) ?_
          refine lv_icmp_lt (tgt := 76) hx hb dX12_settles_22 (by decide) (fun _ => ?_) (fun c => absurd (by decide) c)
          exact J76 f0_0_19 f0_0_22 f0_3_2 H locs ls w15 (show 0 ≤ f1_.toInt by omega) (show f1_.toInt ≤ 60 by omega) (show (-60) ≤ f0_0_19.toInt by omega) (show f0_0_19.toInt ≤ 10 by omega) (show 0 ≤ f0_0_22.toInt by omega) (show f0_0_22.toInt ≤ 390 by omega) (show 0 ≤ f0_3_2.toInt by omega) (show f0_3_2.toInt ≤ 390 by omega) (show f0_3_2.toInt + f0_0_22.toInt = f4_.toInt + f3_.toInt by omega) (show f0_0_22.toInt ≤ f3_.toInt by omega) (show f0_0_22.toInt + f2_.toInt ≤ f3_.toInt + f0_0_19.toInt by omega) (show f0_0_22.toInt ≤ f0_0_19.toInt + f1_.toInt by omega) (show f0_3_2.toInt ≤ 390 by omega) (show f0_0_22.toInt ≤ 390 by omega) (show -60 ≤ f0_0_19.toInt by omega) (show brkN w0 (f0_0_22.toInt).toNat = brkN w0 (f3_.toInt).toNat from hcr0_7)  hw hT hF c16 c19 c22 c25 c28 (lv_sub hl [0, 1] rfl)
        · refine lv_iload_n hx hb dX12_settles_21 rfl (lv_at hl 1 rfl) ?_
          refine lv_icmp_lt (tgt := 76) hx hb dX12_settles_22 (by decide) (fun c => absurd c (by decide)) (fun _ => ?_)
          refine lv_aload_n hx hb dX12_settles_25 rfl (lv_at hl 0 rfl) ?_
          refine lv_dup hx hb dX12_settles_26 rfl ?_
          refine tk_geti hC hK hw hT hinX12 kM_at0 (by decide) rfl 22 (by decide) (List.mem_of_getElem? (i := 1) rfl) rfl rfl dX12_settles_27 (fun x48 c49 rx48 tx48 => ?_)
          refine wk_top f0_0_22 (c49.symm.trans c25) ?_
          refine lv_iconst (v := 1) hx hb dX12_settles_30 (by decide) ?_
          refine lv_isub hx hb dX12_settles_31 ?_
          refine lv_topi (fun x50 ex50 => ?_)
          have ex50 : x50.toInt = f0_0_22.toInt - (1 : Int) := by rw [ex50]; exact wk_sub (show (-2147483648) ≤ f0_0_22.toInt - (1 : Int) by omega) (show f0_0_22.toInt - (1 : Int) ≤ 2147483647 by omega)
          refine tk_puti hC hK hw hT hinX12 tyX12_ok nmX12 kM_at0 (by decide) rfl rfl 22 (by decide) (List.mem_of_getElem? (i := 1) rfl) rfl rfl rfl rfl (show 0 ≤ x50.toInt by omega) (show x50.toInt ≤ 400 by omega) dX12_settles_32 (fun H locs w51 hw hT k53 c52 => ?_)
          have hF := hF.put kM_at0 (k := 22) (by decide) k53
          have c54 := k53.gi (Or.inr (by decide)) c16
          have c55 := k53.gi (Or.inr (by decide)) c19
          have c56 := k53.gi (Or.inr (by decide)) c22
          have c57 := k53.gi (Or.inr (by decide)) c28
          have c58 := k53.gi (Or.inl (tk_ne kM_at9 kM_at0 (by decide))) c36
          refine lv_aload_n hx hb dX12_settles_35 rfl (lv_at hl 0 rfl) ?_
          refine lv_aload_n hx hb dX12_settles_36 rfl (lv_at hl 0 rfl) ?_
          refine tk_getA hC hK hw hT hinX12 kM_at0 (by decide) rfl 21 (by decide) (List.mem_of_getElem? (i := 2) rfl) rfl rfl dX12_settles_37 ?_
          refine lv_aload_n hx hb dX12_settles_40 rfl (lv_at hl 0 rfl) ?_
          refine tk_geti hC hK hw hT hinX12 kM_at0 (by decide) rfl 22 (by decide) (List.mem_of_getElem? (i := 1) rfl) rfl rfl dX12_settles_41 (fun x59 c60 rx59 tx59 => ?_)
          refine wk_top x50 (c60.symm.trans c52) ?_
          refine tk_iald hC hK hw hT kM_at9 rfl rfl (show 0 ≤ x50.toInt by omega) (show x50.toInt < 400 by omega) dX12_settles_44 (fun x61 c62 rx61 tx61 => ?_)
          have c62 : gi w51 9 (1 * f0_0_22.toInt + -1).toNat = x61 := (congrArg (gi w51 9) (congrArg Int.toNat (show 1 * f0_0_22.toInt + -1 = x50.toInt by omega))).trans c62
          refine wk_top x35 (c62.symm.trans c58) ?_
          refine lv_iconst (v := 0) hx hb dX12_settles_45 (by decide) ?_
          obtain rfl : x35 = 11 := wk_eq.mpr (show x35.toInt = 11 by omega)
          refine tk_Vv hC hK hw hT hA hE hSR kM_at0 (by decide) rfl (k_X12_puts_3 l adK adV dC dI cy ad B (by omega) (by omega) qr s1   11 (by decide) (by decide) 0 w51 H.size hT c54 f0_3_2 c57 (show 0 ≤ f0_3_2.toInt by omega) (show f0_3_2.toInt ≤ 400 by omega) (show f0_3_2.toInt ≤ 399 by omega)) (cwV 2 hC.2.2.2.2 gX12_settles_X12_puts rfl rfl rfl (by decide +kernel) ⟨Nat.le_of_ble_eq_true rfl, Nat.le_of_ble_eq_true rfl⟩) rfl hl.1 rfl (Nat.le_of_ble_eq_true rfl) dX12_settles_46 (fun w65 H locs hp64 hw => ?_)
          obtain ⟨hT, k66, hg70⟩ := hp64
          have hF := hF.tr k66 (by decide)
          have c71 := k66.gi kM_at0 (by decide) c54
          have c72 := k66.gi kM_at0 (by decide) c55
          have c73 := k66.gi kM_at0 (by decide) c56
          have c74 := k66.gi kM_at9 rfl c58
          have c75 := k66.gi kM_at0 (by decide) c52
          obtain ⟨⟨x67, c68, rx67, tx67⟩, g69⟩ := hg70
          have ex67 : x67.toInt = (2 : Int) := by rw [show x67 = 2 from c68.symm.trans c71]; decide
          obtain ⟨x76, c77, rx76, tx76⟩ := hT.rda (lo := 0) (hi := 400) (i := 2) kM_at3 rfl rfl (by decide)
          have g69 : x76.toInt = f0_3_2.toInt + 1 := by have q := g69; simp only [c57, c77] at q; omega
          refine lv_aload_n hx hb dX12_settles_49 rfl (lv_at hl 0 rfl) ?_
          refine tk_getA hC hK hw hT hinX12 kM_at0 (by decide) rfl 21 (by decide) (List.mem_of_getElem? (i := 2) rfl) rfl rfl dX12_settles_50 ?_
          refine lv_aload_n hx hb dX12_settles_53 rfl (lv_at hl 0 rfl) ?_
          refine tk_geti hC hK hw hT hinX12 kM_at0 (by decide) rfl 22 (by decide) (List.mem_of_getElem? (i := 1) rfl) rfl rfl dX12_settles_54 (fun x78 c79 rx78 tx78 => ?_)
          refine wk_top x50 (c79.symm.trans c75) ?_
          refine tk_iald hC hK hw hT kM_at9 rfl rfl (show 0 ≤ x50.toInt by omega) (show x50.toInt < 400 by omega) dX12_settles_57 (fun x80 c81 rx80 tx80 => ?_)
          have c81 : gi w65 9 (1 * f0_0_22.toInt + -1).toNat = x80 := (congrArg (gi w65 9) (congrArg Int.toNat (show 1 * f0_0_22.toInt + -1 = x50.toInt by omega))).trans c81
          refine wk_top 11 (c81.symm.trans c74) ?_
          refine lv_bipush (v := 11) hx hb dX12_settles_58 (by decide) ?_
          refine lv_icmp_ne (tgt := 0) hx hb dX12_settles_60 (by decide) (fun c => absurd (by decide) c) (fun _ => ?_)
          refine lv_aload_n hx hb dX12_settles_63 rfl (lv_at hl 0 rfl) ?_
          refine lv_dup hx hb dX12_settles_64 rfl ?_
          refine tk_geti hC hK hw hT hinX12 kM_at0 (by decide) rfl 19 (by decide) (List.mem_of_getElem? (i := 3) rfl) rfl rfl dX12_settles_65 (fun x82 c83 rx82 tx82 => ?_)
          refine wk_top f0_0_19 (c83.symm.trans c73) ?_
          refine lv_iconst (v := 1) hx hb dX12_settles_68 (by decide) ?_
          refine lv_isub hx hb dX12_settles_69 ?_
          refine lv_topi (fun x84 ex84 => ?_)
          have ex84 : x84.toInt = f0_0_19.toInt - (1 : Int) := by rw [ex84]; exact wk_sub (show (-2147483648) ≤ f0_0_19.toInt - (1 : Int) by omega) (show f0_0_19.toInt - (1 : Int) ≤ 2147483647 by omega)
          refine tk_puti hC hK hw hT hinX12 tyX12_ok nmX12 kM_at0 (by decide) rfl rfl 19 (by decide) (List.mem_of_getElem? (i := 3) rfl) rfl rfl rfl rfl (show (-100) ≤ x84.toInt by omega) (show x84.toInt ≤ 10 by omega) dX12_settles_70 (fun H locs w85 hw hT k87 c86 => ?_)
          have hF := hF.put kM_at0 (k := 19) (by decide) k87
          have c88 := k87.gi (Or.inr (by decide)) c71
          have c89 := k87.gi (Or.inr (by decide)) c72
          have c90 := k87.gi (Or.inl (tk_ne kM_at9 kM_at0 (by decide))) c74
          have c91 := k87.gi (Or.inr (by decide)) c75
          have c92 := k87.gi (Or.inr (by decide)) c77
          refine lv_goto (tgt := 0) hx hb dX12_settles_73 (by decide) ?_
          exact ih0 x84 x50 x76 H locs ls w85 (show 0 ≤ f1_.toInt by omega) (show f1_.toInt ≤ 60 by omega) (show (-60) ≤ x84.toInt by omega) (show x84.toInt ≤ 10 by omega) (show 0 ≤ x50.toInt by omega) (show x50.toInt ≤ 390 by omega) (show 0 ≤ x76.toInt by omega) (show x76.toInt ≤ 390 by omega) (show x76.toInt + x50.toInt = f4_.toInt + f3_.toInt by omega) (show x50.toInt ≤ f3_.toInt by omega) (show x50.toInt + f2_.toInt ≤ f3_.toInt + x84.toInt by omega) (show x50.toInt ≤ x84.toInt + f1_.toInt by omega) (show x76.toInt ≤ 390 by omega) (show x50.toInt ≤ 390 by omega) (show -60 ≤ x84.toInt by omega) (show brkN w0 (x50.toInt).toNat = brkN w0 (f3_.toInt).toNat from ((brk_step (by omega) (show f0_0_22.toInt = x50.toInt + 1 by omega) (show ¬ (gi w0 9 (x50.toInt).toNat).toInt = 91 by first | (rw [show (x50.toInt) = 1 * f0_0_22.toInt + -1 by omega, ← hF.gi kM_at9 rfl rfl, c90]; omega) | (rw [show (x50.toInt) = 1 * f0_0_22.toInt + -1 by omega, ← hF.gi kM_at9 rfl rfl, c90]; decide))).trans hcr0_7)) (show (x84.toInt - (-60)).toNat < n0 by omega) hw hT hF c88 c89 c86 c91 c92 (lv_sub hl [0, 1] rfl)
  exact L0 ((f2_.toInt - (-60)).toNat + 1) f2_ f3_ f4_ s.heap locs ls w0 (show 0 ≤ f1_.toInt by omega) (show f1_.toInt ≤ 60 by omega) (show (-60) ≤ f2_.toInt by omega) (show f2_.toInt ≤ 10 by omega) (show 0 ≤ f3_.toInt by omega) (show f3_.toInt ≤ 390 by omega) (show 0 ≤ f4_.toInt by omega) (show f4_.toInt ≤ 390 by omega) (show f4_.toInt + f3_.toInt = f4_.toInt + f3_.toInt by omega) (show f3_.toInt ≤ f3_.toInt by omega) (show f3_.toInt + f2_.toInt ≤ f3_.toInt + f2_.toInt by omega) (show f3_.toInt ≤ f2_.toInt + f1_.toInt by omega) (show f4_.toInt ≤ 390 by omega) (show f3_.toInt ≤ 390 by omega) (show -60 ≤ f2_.toInt by omega) (show brkN w0 (f3_.toInt).toNat = brkN w0 (f3_.toInt).toNat from rfl) (Nat.lt_succ_self _) hw hT hF cf0_ cf1_ cf2_ cf3_ cf4_ (lv_sub hl [0, 1] rfl)
abbrev P_X12_closes_3 (ad : Nat → Nat) (cy : Nat → ClassId) (B : Int) (qr : Nat) (s1 : Int)  (w0 : va_W) : va_W → Prop := fun u => TW ksM ad cy B qr 12 u ∧ FE ksM [(12, 14, 14), (12, 19, 19), (12, 22, 22), (61, 0, 2400), (62, 0, 7)] w0 u ∧ (((∃ y : Int32, gi u 0 1 = y ∧ 0 ≤ y.toInt ∧ y.toInt ≤ 400) ∧ (∃ y : Int32, gi u 0 17 = y ∧ 2 ≤ y.toInt ∧ y.toInt ≤ 2) ∧ (∃ y : Int32, gi u 0 19 = y ∧ (-60) ≤ y.toInt ∧ y.toInt ≤ 10) ∧ (∃ y : Int32, gi u 0 22 = y ∧ 0 ≤ y.toInt ∧ y.toInt ≤ 390) ∧ ((gi u 3 2).toInt + (gi u 0 22).toInt ≤ (gi w0 3 2).toInt + (gi w0 0 22).toInt) ∧ ((gi u 0 22).toInt + (gi w0 0 19).toInt ≤ (gi w0 0 22).toInt + (gi u 0 19).toInt) ∧ ((gi u 0 22).toInt ≤ (gi u 0 19).toInt + (gi w0 0 18).toInt) ∧ ((gi u 0 22).toInt ≤ 390) ∧ ((gi u 3 2).toInt ≤ 390)))
set_option maxHeartbeats 4000000 in
set_option maxRecDepth 100000 in
theorem k_X12_closes_3 (l : Launch) (adK adV : Nat → Nat) (dC : Nat → ClassId) (dI : Nat → Nat → Nat) (cy : Nat → ClassId) (ad : Nat → Nat) (B : Int) (hB0 : 100000 ≤ B) (hB1 : B ≤ 1073741824) (qr : Nat) (s1 : Int)   (w0 : va_W) (sz : Nat) (hT : TW ksM ad cy B qr 12 w0) (cf0_ : gi w0 0 17 = 2) (f1_ : Int32) (cf1_ : gi w0 0 18 = f1_) (rf1_ : 0 ≤ f1_.toInt) (tf1_ : f1_.toInt ≤ 60) (f2_ : Int32) (cf2_ : gi w0 0 19 = f2_) (rf2_ : (-100) ≤ f2_.toInt) (tf2_ : f2_.toInt ≤ 10) (f3_ : Int32) (cf3_ : gi w0 0 22 = f3_) (rf3_ : 0 ≤ f3_.toInt) (tf3_ : f3_.toInt ≤ 400) (f4_ : Int32) (cf4_ : gi w0 3 2 = f4_) (rf4_ : 0 ≤ f4_.toInt) (tf4_ : f4_.toInt ≤ 400) (pr0_ : f4_.toInt + f3_.toInt ≤ 390) (pr1_ : f3_.toInt ≤ f2_.toInt + f1_.toInt) (pr2_ : f4_.toInt ≤ 390) (pr3_ : f3_.toInt ≤ 390) : Met l yX12_closes wsX12_closes ({ frames := 3, cells := 0, slots := 0, locals := 55 }) (va_Pc [.ref (ad 0)] (wpreS adK adV dC dI cy sz w0)) (va_Qv (P_X12_closes_3 ad cy B qr s1  w0) (fun u : va_W => wpost dC dI cy (va_A w0 sz) u) (va_A w0 sz)) 0 0 (va_A w0 sz) := by
  refine Met.ofW (cc := cX12_closes) (maxL := 1) (ret := none) (by decide) rfl ?_
  intro p e s m args below meth c s₁ Bk hml hv
  obtain ⟨rfl, ⟨hsz, hP, hK, hD0⟩, hE, hSR⟩ := hv
  have hx := Bk.exec
  have hb := Bk.bytes
  have hr := Bk.returns
  have hlocks := Bk.notSynchronized
  have hC : CallFix p m c cX12_closes 1 s _ wsX12_closes RX12 := ⟨hx, hb, hml, findClass_of_methodNamed Bk.named, atoms_spec (ws := wsX12_closes) Bk.pre⟩
  subst hsz
  have hD := hD0.self (sz := s.heap.size)
  generalize hAe : va_A w0 s.heap.size = A at hD hE ⊢
  have hA : ∀ q : Nat, s.heap.size ≤ q → A q := fun q h => by rw [← hAe]; exact Or.inr h
  have hw : Wd dC dI A s.heap s.heap [] w0 := ⟨hP, hD, va_S.rf⟩
  have hF : FE ksM [(12, 14, 14), (12, 19, 19), (12, 22, 22), (61, 0, 2400), (62, 0, 7)] w0 w0 := FE.rf
  have hl := lv_entry ([.ref (ad 0)]) (n := 1) (Nat.le_of_ble_eq_true rfl)
  rw [lg_entry_eq]
  generalize (lg_sl ([.ref (ad 0)]) ++ List.replicate (1 - (lg_sl ([.ref (ad 0)])).length) Slot.unset).toArray = ls at hl ⊢
  have hl : lv_has ls 1 [(0, .ref (ad 0))] := hl
  generalize hloc : ([] : List Loc) = locs at hw ⊢
  have hinX12 : ∀ w ∈ u_ws RX12 TX12 42, w ∈ wsX12_closes := fun _ h => List.mem_cons_of_mem _ (List.mem_append_right _ (h))
  have J64 : ∀ (f64_0_1 : Int32) (f64_0_14 : Int32) (f64_0_19 : Int32) (f64_0_22 : Int32) (f64_3_2 : Int32) (H : Heap) (locs : List Loc) (ls : Array Slot) (w1 : va_W), 0 ≤ f64_0_1.toInt → f64_0_1.toInt ≤ 400 → 0 ≤ f64_0_14.toInt → f64_0_14.toInt ≤ 400 → 0 ≤ f1_.toInt → f1_.toInt ≤ 60 → (-60) ≤ f64_0_19.toInt → f64_0_19.toInt ≤ 10 → 0 ≤ f64_0_22.toInt → f64_0_22.toInt ≤ 390 → 0 ≤ f64_3_2.toInt → f64_3_2.toInt ≤ 390 → (f64_3_2.toInt + f64_0_22.toInt ≤ f4_.toInt + f3_.toInt) → (f64_0_22.toInt + f2_.toInt ≤ f3_.toInt + f64_0_19.toInt) → (f64_0_22.toInt ≤ f64_0_19.toInt + f1_.toInt) → (f64_3_2.toInt ≤ 390) → (f64_0_22.toInt ≤ 390) → (-60 ≤ f64_0_19.toInt) → Wd dC dI A s.heap H locs w1 → TW ksM ad cy B qr 12 w1 → FE ksM [(12, 14, 14), (12, 19, 19), (12, 22, 22), (61, 0, 2400), (62, 0, 7)] w0 w1 → gi w1 0 1 = f64_0_1 → gi w1 0 14 = f64_0_14 → gi w1 0 17 = 2 → gi w1 0 18 = f1_ → gi w1 0 19 = f64_0_19 → gi w1 0 22 = f64_0_22 → gi w1 3 2 = f64_3_2 → lv_has ls 1 [(0, .ref (ad 0))] → W p l e ({ frames := 3, cells := 0, slots := 0, locals := 55 }) s m (List.toArray [.ref (ad 0)]) below meth c H locs 0 0 (MQ below (va_Qv (P_X12_closes_3 ad cy B qr s1  w0) (fun u : va_W => wpost dC dI cy A u) A) (List.toArray [.ref (ad 0)]) s 0 0 A) (F0 m 64 ls []) := by
    intro f64_0_1 f64_0_14 f64_0_19 f64_0_22 f64_3_2 H locs ls w1 r2 t3 r5 t6 r9 t10 r12 t13 r15 t16 r18 t19 hcr64_0 hcr64_1 hcr64_2 hcr64_3 hcr64_4 hcr64_5 hw hT hF c4 c7 c8 c11 c14 c17 c20 hl
    exact tk_vret hC hr hlocks hK ⟨hT, hF, ⟨⟨f64_0_1, c4, (show 0 ≤ f64_0_1.toInt by omega), (show f64_0_1.toInt ≤ 400 by omega)⟩, ⟨2, c8, (by decide), (by decide)⟩, ⟨f64_0_19, c14, (show (-60) ≤ f64_0_19.toInt by omega), (show f64_0_19.toInt ≤ 10 by omega)⟩, ⟨f64_0_22, c17, (show 0 ≤ f64_0_22.toInt by omega), (show f64_0_22.toInt ≤ 390 by omega)⟩, (by simp only [cf4_, c20, cf3_, c17]; omega), (by simp only [cf2_, c14, cf3_, c17]; omega), (by simp only [c14, cf1_, c17]; omega), (by simp only [c17]; omega), (by simp only [c20]; omega)⟩⟩ hw dX12_closes_64
  have L5 : ∀ (n5 : Nat) (f5_0_19 : Int32) (f5_0_22 : Int32) (f5_3_2 : Int32) (H : Heap) (locs : List Loc) (ls : Array Slot) (w21 : va_W), 0 ≤ f1_.toInt → f1_.toInt ≤ 60 → (-60) ≤ f5_0_19.toInt → f5_0_19.toInt ≤ 10 → 0 ≤ f5_0_22.toInt → f5_0_22.toInt ≤ 390 → 0 ≤ f5_3_2.toInt → f5_3_2.toInt ≤ 390 → (f5_3_2.toInt + f5_0_22.toInt ≤ f4_.toInt + f3_.toInt) → (f5_0_22.toInt + f2_.toInt ≤ f3_.toInt + f5_0_19.toInt) → (f5_0_22.toInt ≤ f5_0_19.toInt + f1_.toInt) → (f5_3_2.toInt ≤ 390) → (f5_0_22.toInt ≤ 390) → (-60 ≤ f5_0_19.toInt) → (f5_0_22.toInt - 0).toNat < n5 → Wd dC dI A s.heap H locs w21 → TW ksM ad cy B qr 12 w21 → FE ksM [(12, 14, 14), (12, 19, 19), (12, 22, 22), (61, 0, 2400), (62, 0, 7)] w0 w21 → gi w21 0 17 = 2 → gi w21 0 18 = f1_ → gi w21 0 19 = f5_0_19 → gi w21 0 22 = f5_0_22 → gi w21 3 2 = f5_3_2 → lv_has ls 1 [(0, .ref (ad 0))] → W p l e ({ frames := 3, cells := 0, slots := 0, locals := 55 }) s m (List.toArray [.ref (ad 0)]) below meth c H locs 0 0 (MQ below (va_Qv (P_X12_closes_3 ad cy B qr s1  w0) (fun u : va_W => wpost dC dI cy A u) A) (List.toArray [.ref (ad 0)]) s 0 0 A) (F0 m 5 ls []) := by
    intro n5
    induction n5 with
    | zero => intro f5_0_19 f5_0_22 f5_3_2 H locs ls w21 r23 t24 r26 t27 r29 t30 r32 t33 hcr5_0 hcr5_1 hcr5_2 hcr5_3 hcr5_4 hcr5_5 hm5 hw hT hF c22 c25 c28 c31 c34 hl; omega
    | succ n5 ih5 =>
      intro f5_0_19 f5_0_22 f5_3_2 H locs ls w21 r23 t24 r26 t27 r29 t30 r32 t33 hcr5_0 hcr5_1 hcr5_2 hcr5_3 hcr5_4 hcr5_5 hm5 hw hT hF c22 c25 c28 c31 c34 hl
      refine lv_aload_n hx hb dX12_closes_5 rfl (lv_at hl 0 rfl) ?_
      obtain ⟨x35, c36, rx35, tx35⟩ := hT.rdi (lo := 0) (hi := 400) (k := 14) kM_at0 (by decide) rfl
      refine tk_Vi hC hK hw hT hA hE hSR kM_at0 (by decide) rfl (k_X12_see_1 l adK adV dC dI cy ad B (by omega) (by omega) qr s1    w21 H.size hT x35 c36 (show 0 ≤ x35.toInt by omega) (show x35.toInt ≤ 400 by omega)) (cwV 0 hC.2.2.2.2 gX12_closes_X12_see rfl rfl rfl (by decide +kernel) ⟨Nat.le_of_ble_eq_true rfl, Nat.le_of_ble_eq_true rfl⟩) rfl hl.1 rfl (Nat.le_of_ble_eq_true rfl) dX12_closes_6 (fun r37 w39 H locs hp38 hw => ?_)
      obtain ⟨hT, k40, hg57⟩ := hp38
      have hF := hF.tr k40 (by decide)
      have c58 := k40.gi kM_at0 (by decide) c22
      have c59 := k40.gi kM_at0 (by decide) c25
      have c60 := k40.gi kM_at0 (by decide) c28
      have c61 := k40.gi kM_at0 (by decide) c31
      have c62 := k40.gi kM_at3 (by decide) c34
      rcases hg57 with ⟨g41, g42, ⟨x43, c44, rx43, tx43⟩, ⟨x45, c46, rx45, tx45⟩, g47, g48⟩ | ⟨rfl, ⟨x49, c50, rx49, tx49⟩, ⟨x51, c52, rx51, tx51⟩, g53⟩ | ⟨rfl, ⟨x54, c55, rx54, tx54⟩, g56⟩
      · have g47 : (gi w39 1 (x45.toInt).toNat).toInt ≠ 32 := by have q := g47; simp only [c46] at q; omega
        have g48 : (x45.toInt = x35.toInt ∨ (gi w21 1 (x35.toInt).toNat).toInt = 32) := by have q := g48; simp only [c36, c46] at q; omega
        refine lv_bipush (v := 93) hx hb dX12_closes_9 (by decide) ?_
        refine lv_icmp_ne (tgt := 64) hx hb dX12_closes_11 (by decide) (fun c65 => ?_) (fun c65 => ?_)
        · have c65 : ¬ r37.toInt = (93 : Int) := wk_eqF c65
          exact J64 x43 x45 f5_0_19 f5_0_22 f5_3_2 H locs ls w39 (show 0 ≤ x43.toInt by omega) (show x43.toInt ≤ 400 by omega) (show 0 ≤ x45.toInt by omega) (show x45.toInt ≤ 400 by omega) (show 0 ≤ f1_.toInt by omega) (show f1_.toInt ≤ 60 by omega) (show (-60) ≤ f5_0_19.toInt by omega) (show f5_0_19.toInt ≤ 10 by omega) (show 0 ≤ f5_0_22.toInt by omega) (show f5_0_22.toInt ≤ 390 by omega) (show 0 ≤ f5_3_2.toInt by omega) (show f5_3_2.toInt ≤ 390 by omega) (show f5_3_2.toInt + f5_0_22.toInt ≤ f4_.toInt + f3_.toInt by omega) (show f5_0_22.toInt + f2_.toInt ≤ f3_.toInt + f5_0_19.toInt by omega) (show f5_0_22.toInt ≤ f5_0_19.toInt + f1_.toInt by omega) (show f5_3_2.toInt ≤ 390 by omega) (show f5_0_22.toInt ≤ 390 by omega) (show -60 ≤ f5_0_19.toInt by omega)  hw hT hF c44 c46 c58 c59 c60 c61 c62 (lv_sub hl [0] rfl)
        · have c65 : r37.toInt = (93 : Int) := wk_eq.mp c65
          refine lv_aload_n hx hb dX12_closes_14 rfl (lv_at hl 0 rfl) ?_
          refine tk_Vi hC hK hw hT hA hE hSR kM_at0 (by decide) rfl (k_X12_isInside_1 l adK adV dC dI cy ad B (by omega) (by omega) qr s1    w39 H.size hT ) (cwV 0 hC.2.2.2.2 gX12_closes_X12_isInside rfl rfl rfl (by decide +kernel) ⟨Nat.le_of_ble_eq_true rfl, Nat.le_of_ble_eq_true rfl⟩) rfl hl.1 rfl (Nat.le_of_ble_eq_true rfl) dX12_closes_15 (fun r66 w68 H locs hp67 hw => ?_)
          obtain ⟨rfl, hg73⟩ := hp67
          rcases hg73 with rfl | ⟨rfl, ⟨x70, c71, rx70, tx70⟩, hq72⟩
          · refine lv_if_eq (tgt := 64) hx hb dX12_closes_18 (by decide) (fun _ => ?_) (fun c => absurd (by decide) c)
            exact J64 x43 x45 f5_0_19 f5_0_22 f5_3_2 H locs ls w39 (show 0 ≤ x43.toInt by omega) (show x43.toInt ≤ 400 by omega) (show 0 ≤ x45.toInt by omega) (show x45.toInt ≤ 400 by omega) (show 0 ≤ f1_.toInt by omega) (show f1_.toInt ≤ 60 by omega) (show (-60) ≤ f5_0_19.toInt by omega) (show f5_0_19.toInt ≤ 10 by omega) (show 0 ≤ f5_0_22.toInt by omega) (show f5_0_22.toInt ≤ 390 by omega) (show 0 ≤ f5_3_2.toInt by omega) (show f5_3_2.toInt ≤ 390 by omega) (show f5_3_2.toInt + f5_0_22.toInt ≤ f4_.toInt + f3_.toInt by omega) (show f5_0_22.toInt + f2_.toInt ≤ f3_.toInt + f5_0_19.toInt by omega) (show f5_0_22.toInt ≤ f5_0_19.toInt + f1_.toInt by omega) (show f5_3_2.toInt ≤ 390 by omega) (show f5_0_22.toInt ≤ 390 by omega) (show -60 ≤ f5_0_19.toInt by omega)  hw hT hF c44 c46 c58 c59 c60 c61 c62 (lv_sub hl [0] rfl)
          · have ex70 : x70.toInt = f5_0_22.toInt := by rw [← c61.symm.trans c71]
            refine lv_if_eq (tgt := 64) hx hb dX12_closes_18 (by decide) (fun c => absurd c (by decide)) (fun _ => ?_)
            refine lv_aload_n hx hb dX12_closes_21 rfl (lv_at hl 0 rfl) ?_
            refine lv_iconst (v := 1) hx hb dX12_closes_22 (by decide) ?_
            refine tk_Vv hC hK hw hT hA hE hSR kM_at0 (by decide) rfl (k_X12_settles_7 l adK adV dC dI cy ad B (by omega) (by omega) qr s1    w39 H.size hT c58 f1_ c59 (show 0 ≤ f1_.toInt by omega) (show f1_.toInt ≤ 60 by omega) f5_0_19 c60 (show (-100) ≤ f5_0_19.toInt by omega) (show f5_0_19.toInt ≤ 10 by omega) f5_0_22 c61 (show 0 ≤ f5_0_22.toInt by omega) (show f5_0_22.toInt ≤ 400 by omega) f5_3_2 c62 (show 0 ≤ f5_3_2.toInt by omega) (show f5_3_2.toInt ≤ 400 by omega) (show f5_3_2.toInt + f5_0_22.toInt ≤ 390 by omega) (show f5_0_22.toInt ≤ f5_0_19.toInt + f1_.toInt by omega) (show f5_3_2.toInt ≤ 390 by omega) (show f5_0_22.toInt ≤ 390 by omega)) (cwV 1 hC.2.2.2.2 gX12_closes_X12_settles rfl rfl rfl (by decide +kernel) ⟨Nat.le_of_ble_eq_true rfl, Nat.le_of_ble_eq_true rfl⟩) rfl hl.1 rfl (Nat.le_of_ble_eq_true rfl) dX12_closes_23 (fun w76 H locs hp75 hw => ?_)
            obtain ⟨hT, k77, hg91⟩ := hp75
            have hF := hF.tr k77 (by decide)
            have c92 := k77.gi kM_at0 (by decide) c58
            have c93 := k77.gi kM_at0 (by decide) c59
            have c94 := k77.gi kM_at0 (by decide) c44
            have c95 := k77.gi kM_at0 (by decide) c46
            obtain ⟨⟨x78, c79, rx78, tx78⟩, ⟨x80, c81, rx80, tx80⟩, ⟨x82, c83, rx82, tx82⟩, g84, g85, g86, g87, g88, g89, g90⟩ := hg91
            have ex78 : x78.toInt = (2 : Int) := by rw [show x78 = 2 from c79.symm.trans c92]; decide
            obtain ⟨x96, c97, rx96, tx96⟩ := hT.rda (lo := 0) (hi := 400) (i := 2) kM_at3 rfl rfl (by decide)
            have g84 : x96.toInt + x82.toInt = f5_3_2.toInt + f5_0_22.toInt := by have q := g84; simp only [c62, c97, c61, c83] at q; omega
            have g85 : x82.toInt ≤ f5_0_22.toInt := by have q := g85; simp only [c61, c83] at q; omega
            have g86 : x82.toInt + f5_0_19.toInt ≤ f5_0_22.toInt + x80.toInt := by have q := g86; simp only [c60, c81, c61, c83] at q; omega
            have g87 : x82.toInt ≤ x80.toInt + f1_.toInt := by have q := g87; simp only [c81, c59, c83] at q; omega
            have g88 : x82.toInt ≤ 390 := by have q := g88; simp only [c83] at q; omega
            have g89 : x96.toInt ≤ 390 := by have q := g89; simp only [c97] at q; omega
            have g90 : brkN w39 (x82.toInt).toNat = brkN w39 (f5_0_22.toInt).toNat := by have q := g90; simp only [c61, c83] at q; omega
            have hbl := brk_le w39 (x82.toInt).toNat
            have hbi := hq72
            rw [c61] at hbi
            have g98 : 1 ≤ x82.toInt := by omega
            refine lv_aload_n hx hb dX12_closes_26 rfl (lv_at hl 0 rfl) ?_
            refine lv_dup hx hb dX12_closes_27 rfl ?_
            refine tk_geti hC hK hw hT hinX12 kM_at0 (by decide) rfl 22 (by decide) (List.mem_of_getElem? (i := 1) rfl) rfl rfl dX12_closes_28 (fun x99 c100 rx99 tx99 => ?_)
            refine wk_top x82 (c100.symm.trans c83) ?_
            refine lv_iconst (v := 1) hx hb dX12_closes_31 (by decide) ?_
            refine lv_isub hx hb dX12_closes_32 ?_
            refine lv_topi (fun x101 ex101 => ?_)
            have ex101 : x101.toInt = x82.toInt - (1 : Int) := by rw [ex101]; exact wk_sub (show (-2147483648) ≤ x82.toInt - (1 : Int) by omega) (show x82.toInt - (1 : Int) ≤ 2147483647 by omega)
            refine tk_puti hC hK hw hT hinX12 tyX12_ok nmX12 kM_at0 (by decide) rfl rfl 22 (by decide) (List.mem_of_getElem? (i := 1) rfl) rfl rfl rfl rfl (show 0 ≤ x101.toInt by omega) (show x101.toInt ≤ 400 by omega) dX12_closes_33 (fun H locs w102 hw hT k104 c103 => ?_)
            have hF := hF.put kM_at0 (k := 22) (by decide) k104
            have c105 := k104.gi (Or.inr (by decide)) c92
            have c106 := k104.gi (Or.inr (by decide)) c93
            have c107 := k104.gi (Or.inr (by decide)) c94
            have c108 := k104.gi (Or.inr (by decide)) c95
            have c109 := k104.gi (Or.inr (by decide)) c81
            have c110 := k104.gi (Or.inr (by decide)) c97
            refine lv_aload_n hx hb dX12_closes_36 rfl (lv_at hl 0 rfl) ?_
            refine lv_dup hx hb dX12_closes_37 rfl ?_
            refine tk_geti hC hK hw hT hinX12 kM_at0 (by decide) rfl 19 (by decide) (List.mem_of_getElem? (i := 2) rfl) rfl rfl dX12_closes_38 (fun x111 c112 rx111 tx111 => ?_)
            refine wk_top x80 (c112.symm.trans c109) ?_
            refine lv_iconst (v := 1) hx hb dX12_closes_41 (by decide) ?_
            refine lv_isub hx hb dX12_closes_42 ?_
            refine lv_topi (fun x113 ex113 => ?_)
            have ex113 : x113.toInt = x80.toInt - (1 : Int) := by rw [ex113]; exact wk_sub (show (-2147483648) ≤ x80.toInt - (1 : Int) by omega) (show x80.toInt - (1 : Int) ≤ 2147483647 by omega)
            refine tk_puti hC hK hw hT hinX12 tyX12_ok nmX12 kM_at0 (by decide) rfl rfl 19 (by decide) (List.mem_of_getElem? (i := 2) rfl) rfl rfl rfl rfl (show (-100) ≤ x113.toInt by omega) (show x113.toInt ≤ 10 by omega) dX12_closes_43 (fun H locs w114 hw hT k116 c115 => ?_)
            have hF := hF.put kM_at0 (k := 19) (by decide) k116
            have c117 := k116.gi (Or.inr (by decide)) c105
            have c118 := k116.gi (Or.inr (by decide)) c106
            have c119 := k116.gi (Or.inr (by decide)) c107
            have c120 := k116.gi (Or.inr (by decide)) c108
            have c121 := k116.gi (Or.inr (by decide)) c110
            have c122 := k116.gi (Or.inr (by decide)) c103
            refine lv_aload_n hx hb dX12_closes_46 rfl (lv_at hl 0 rfl) ?_
            refine lv_dup hx hb dX12_closes_47 rfl ?_
            refine tk_geti hC hK hw hT hinX12 kM_at0 (by decide) rfl 14 (by decide) (List.mem_of_getElem? (i := 3) rfl) rfl rfl dX12_closes_48 (fun x123 c124 rx123 tx123 => ?_)
            refine wk_top x45 (c124.symm.trans c120) ?_
            refine lv_iconst (v := 1) hx hb dX12_closes_51 (by decide) ?_
            refine lv_iadd hx hb dX12_closes_52 ?_
            refine lv_topi (fun x125 ex125 => ?_)
            have ex125 : x125.toInt = x45.toInt + (1 : Int) := by rw [ex125]; exact wk_add (show (-2147483648) ≤ x45.toInt + (1 : Int) by omega) (show x45.toInt + (1 : Int) ≤ 2147483647 by omega)
            refine tk_puti hC hK hw hT hinX12 tyX12_ok nmX12 kM_at0 (by decide) rfl rfl 14 (by decide) (List.mem_of_getElem? (i := 3) rfl) rfl rfl rfl rfl (show 0 ≤ x125.toInt by omega) (show x125.toInt ≤ 400 by omega) dX12_closes_53 (fun H locs w126 hw hT k128 c127 => ?_)
            have hF := hF.put kM_at0 (k := 14) (by decide) k128
            have c129 := k128.gi (Or.inr (by decide)) c117
            have c130 := k128.gi (Or.inr (by decide)) c118
            have c131 := k128.gi (Or.inr (by decide)) c119
            have c132 := k128.gi (Or.inr (by decide)) c121
            have c133 := k128.gi (Or.inr (by decide)) c122
            have c134 := k128.gi (Or.inr (by decide)) c115
            refine lv_aload_n hx hb dX12_closes_56 rfl (lv_at hl 0 rfl) ?_
            refine lv_iconst (v := 3) hx hb dX12_closes_57 (by decide) ?_
            refine tk_Vv hC hK hw hT hA hE hSR kM_at0 (by decide) rfl (k_X12_settles_8 l adK adV dC dI cy ad B (by omega) (by omega) qr s1    w126 H.size hT c129 f1_ c130 (show 0 ≤ f1_.toInt by omega) (show f1_.toInt ≤ 60 by omega) x113 c134 (show (-100) ≤ x113.toInt by omega) (show x113.toInt ≤ 10 by omega) x101 c133 (show 0 ≤ x101.toInt by omega) (show x101.toInt ≤ 400 by omega) x96 c132 (show 0 ≤ x96.toInt by omega) (show x96.toInt ≤ 400 by omega) (show x96.toInt + x101.toInt ≤ 390 by omega) (show x101.toInt ≤ x113.toInt + f1_.toInt by omega) (show x96.toInt ≤ 390 by omega) (show x101.toInt ≤ 390 by omega)) (cwV 1 hC.2.2.2.2 gX12_closes_X12_settles rfl rfl rfl (by decide +kernel) ⟨Nat.le_of_ble_eq_true rfl, Nat.le_of_ble_eq_true rfl⟩) rfl hl.1 rfl (Nat.le_of_ble_eq_true rfl) dX12_closes_58 (fun w137 H locs hp136 hw => ?_)
            obtain ⟨hT, k138, hg152⟩ := hp136
            have hF := hF.tr k138 (by decide)
            have c153 := k138.gi kM_at0 (by decide) c129
            have c154 := k138.gi kM_at0 (by decide) c130
            have c155 := k138.gi kM_at0 (by decide) c131
            have c156 := k138.gi kM_at0 (by decide) c127
            obtain ⟨⟨x139, c140, rx139, tx139⟩, ⟨x141, c142, rx141, tx141⟩, ⟨x143, c144, rx143, tx143⟩, g145, g146, g147, g148, g149, g150, g151⟩ := hg152
            have ex139 : x139.toInt = (2 : Int) := by rw [show x139 = 2 from c140.symm.trans c153]; decide
            obtain ⟨x157, c158, rx157, tx157⟩ := hT.rda (lo := 0) (hi := 400) (i := 2) kM_at3 rfl rfl (by decide)
            have g145 : x157.toInt + x143.toInt = x96.toInt + x101.toInt := by have q := g145; simp only [c132, c158, c133, c144] at q; omega
            have g146 : x143.toInt ≤ x101.toInt := by have q := g146; simp only [c133, c144] at q; omega
            have g147 : x143.toInt + x113.toInt ≤ x101.toInt + x141.toInt := by have q := g147; simp only [c134, c142, c133, c144] at q; omega
            have g148 : x143.toInt ≤ x141.toInt + f1_.toInt := by have q := g148; simp only [c142, c130, c144] at q; omega
            have g149 : x143.toInt ≤ 390 := by have q := g149; simp only [c144] at q; omega
            have g150 : x157.toInt ≤ 390 := by have q := g150; simp only [c158] at q; omega
            have g151 : brkN w126 (x143.toInt).toNat = brkN w126 (x101.toInt).toNat := by have q := g151; simp only [c133, c144] at q; omega
            refine lv_goto (tgt := 5) hx hb dX12_closes_61 (by decide) ?_
            exact ih5 x141 x143 x157 H locs ls w137 (show 0 ≤ f1_.toInt by omega) (show f1_.toInt ≤ 60 by omega) (show (-60) ≤ x141.toInt by omega) (show x141.toInt ≤ 10 by omega) (show 0 ≤ x143.toInt by omega) (show x143.toInt ≤ 390 by omega) (show 0 ≤ x157.toInt by omega) (show x157.toInt ≤ 390 by omega) (show x157.toInt + x143.toInt ≤ f4_.toInt + f3_.toInt by omega) (show x143.toInt + f2_.toInt ≤ f3_.toInt + x141.toInt by omega) (show x143.toInt ≤ x141.toInt + f1_.toInt by omega) (show x157.toInt ≤ 390 by omega) (show x143.toInt ≤ 390 by omega) (show -60 ≤ x141.toInt by omega) (show (x143.toInt - 0).toNat < n5 by omega) hw hT hF c153 c154 c142 c144 c158 (lv_sub hl [0] rfl)
      · have g53 : (x51.toInt = x35.toInt ∨ (gi w21 1 (x35.toInt).toNat).toInt = 32) := by have q := g53; simp only [c36, c52] at q; omega
        refine lv_bipush (v := 93) hx hb dX12_closes_9 (by decide) ?_
        refine lv_icmp_ne (tgt := 64) hx hb dX12_closes_11 (by decide) (fun _ => ?_) (fun c => absurd c (by decide))
        exact J64 x49 x51 f5_0_19 f5_0_22 f5_3_2 H locs ls w39 (show 0 ≤ x49.toInt by omega) (show x49.toInt ≤ 400 by omega) (show 0 ≤ x51.toInt by omega) (show x51.toInt ≤ 400 by omega) (show 0 ≤ f1_.toInt by omega) (show f1_.toInt ≤ 60 by omega) (show (-60) ≤ f5_0_19.toInt by omega) (show f5_0_19.toInt ≤ 10 by omega) (show 0 ≤ f5_0_22.toInt by omega) (show f5_0_22.toInt ≤ 390 by omega) (show 0 ≤ f5_3_2.toInt by omega) (show f5_3_2.toInt ≤ 390 by omega) (show f5_3_2.toInt + f5_0_22.toInt ≤ f4_.toInt + f3_.toInt by omega) (show f5_0_22.toInt + f2_.toInt ≤ f3_.toInt + f5_0_19.toInt by omega) (show f5_0_22.toInt ≤ f5_0_19.toInt + f1_.toInt by omega) (show f5_3_2.toInt ≤ 390 by omega) (show f5_0_22.toInt ≤ 390 by omega) (show -60 ≤ f5_0_19.toInt by omega)  hw hT hF c50 c52 c58 c59 c60 c61 c62 (lv_sub hl [0] rfl)
      · obtain ⟨x63, c64, rx63, tx63⟩ := hT.rdi (lo := 0) (hi := 400) (k := 14) kM_at0 (by decide) rfl
        have g56 : (x63.toInt = x35.toInt ∨ (gi w21 1 (x35.toInt).toNat).toInt = 32) := by have q := g56; simp only [c36, c64] at q; omega
        refine lv_bipush (v := 93) hx hb dX12_closes_9 (by decide) ?_
        refine lv_icmp_ne (tgt := 64) hx hb dX12_closes_11 (by decide) (fun _ => ?_) (fun c => absurd c (by decide))
        exact J64 x54 x63 f5_0_19 f5_0_22 f5_3_2 H locs ls w39 (show 0 ≤ x54.toInt by omega) (show x54.toInt ≤ 400 by omega) (show 0 ≤ x63.toInt by omega) (show x63.toInt ≤ 400 by omega) (show 0 ≤ f1_.toInt by omega) (show f1_.toInt ≤ 60 by omega) (show (-60) ≤ f5_0_19.toInt by omega) (show f5_0_19.toInt ≤ 10 by omega) (show 0 ≤ f5_0_22.toInt by omega) (show f5_0_22.toInt ≤ 390 by omega) (show 0 ≤ f5_3_2.toInt by omega) (show f5_3_2.toInt ≤ 390 by omega) (show f5_3_2.toInt + f5_0_22.toInt ≤ f4_.toInt + f3_.toInt by omega) (show f5_0_22.toInt + f2_.toInt ≤ f3_.toInt + f5_0_19.toInt by omega) (show f5_0_22.toInt ≤ f5_0_19.toInt + f1_.toInt by omega) (show f5_3_2.toInt ≤ 390 by omega) (show f5_0_22.toInt ≤ 390 by omega) (show -60 ≤ f5_0_19.toInt by omega)  hw hT hF c55 c64 c58 c59 c60 c61 c62 (lv_sub hl [0] rfl)
  refine lv_aload_n hx hb dX12_closes_0 rfl (lv_at hl 0 rfl) ?_
  refine lv_iconst (v := 3) hx hb dX12_closes_1 (by decide) ?_
  refine tk_Vv hC hK hw hT hA hE hSR kM_at0 (by decide) rfl (k_X12_settles_8 l adK adV dC dI cy ad B (by omega) (by omega) qr s1    w0 s.heap.size hT cf0_ f1_ cf1_ (show 0 ≤ f1_.toInt by omega) (show f1_.toInt ≤ 60 by omega) f2_ cf2_ (show (-100) ≤ f2_.toInt by omega) (show f2_.toInt ≤ 10 by omega) f3_ cf3_ (show 0 ≤ f3_.toInt by omega) (show f3_.toInt ≤ 400 by omega) f4_ cf4_ (show 0 ≤ f4_.toInt by omega) (show f4_.toInt ≤ 400 by omega) (show f4_.toInt + f3_.toInt ≤ 390 by omega) (show f3_.toInt ≤ f2_.toInt + f1_.toInt by omega) (show f4_.toInt ≤ 390 by omega) (show f3_.toInt ≤ 390 by omega)) (cwV 1 hC.2.2.2.2 gX12_closes_X12_settles rfl rfl rfl (by decide +kernel) ⟨Nat.le_of_ble_eq_true rfl, Nat.le_of_ble_eq_true rfl⟩) rfl hl.1 rfl (Nat.le_of_ble_eq_true rfl) dX12_closes_2 (fun w161 H locs hp160 hw => ?_)
  obtain ⟨hT, k162, hg176⟩ := hp160
  have hF := hF.tr k162 (by decide)
  have c177 := k162.gi kM_at0 (by decide) cf0_
  have c178 := k162.gi kM_at0 (by decide) cf1_
  obtain ⟨⟨x163, c164, rx163, tx163⟩, ⟨x165, c166, rx165, tx165⟩, ⟨x167, c168, rx167, tx167⟩, g169, g170, g171, g172, g173, g174, g175⟩ := hg176
  have ex163 : x163.toInt = (2 : Int) := by rw [show x163 = 2 from c164.symm.trans c177]; decide
  obtain ⟨x179, c180, rx179, tx179⟩ := hT.rda (lo := 0) (hi := 400) (i := 2) kM_at3 rfl rfl (by decide)
  have g169 : x179.toInt + x167.toInt = f4_.toInt + f3_.toInt := by have q := g169; simp only [cf4_, c180, cf3_, c168] at q; omega
  have g170 : x167.toInt ≤ f3_.toInt := by have q := g170; simp only [cf3_, c168] at q; omega
  have g171 : x167.toInt + f2_.toInt ≤ f3_.toInt + x165.toInt := by have q := g171; simp only [cf2_, c166, cf3_, c168] at q; omega
  have g172 : x167.toInt ≤ x165.toInt + f1_.toInt := by have q := g172; simp only [c166, cf1_, c168] at q; omega
  have g173 : x167.toInt ≤ 390 := by have q := g173; simp only [c168] at q; omega
  have g174 : x179.toInt ≤ 390 := by have q := g174; simp only [c180] at q; omega
  have g175 : brkN w0 (x167.toInt).toNat = brkN w0 (f3_.toInt).toNat := by have q := g175; simp only [cf3_, c168] at q; omega
  exact L5 ((x167.toInt - 0).toNat + 1) x165 x167 x179 H locs ls w161 (show 0 ≤ f1_.toInt by omega) (show f1_.toInt ≤ 60 by omega) (show (-60) ≤ x165.toInt by omega) (show x165.toInt ≤ 10 by omega) (show 0 ≤ x167.toInt by omega) (show x167.toInt ≤ 390 by omega) (show 0 ≤ x179.toInt by omega) (show x179.toInt ≤ 390 by omega) (show x179.toInt + x167.toInt ≤ f4_.toInt + f3_.toInt by omega) (show x167.toInt + f2_.toInt ≤ f3_.toInt + x165.toInt by omega) (show x167.toInt ≤ x165.toInt + f1_.toInt by omega) (show x179.toInt ≤ 390 by omega) (show x167.toInt ≤ 390 by omega) (show -60 ≤ x165.toInt by omega) (Nat.lt_succ_self _) hw hT hF c177 c178 c166 c168 c180 (lv_sub hl [0] rfl)
abbrev P_X12_value_3 (ad : Nat → Nat) (cy : Nat → ClassId) (B : Int) (qr : Nat) (s1 : Int)  (w0 : va_W) : Int32 → va_W → Prop := fun r u => TW ksM ad cy B qr 12 u ∧ FE ksM [(12, 14, 14), (12, 15, 15), (12, 16, 16), (12, 18, 18), (61, 0, 2400), (62, 0, 7)] w0 u ∧ ((r = 0 ∧ (∃ y : Int32, gi u 0 1 = y ∧ 1 ≤ y.toInt ∧ y.toInt ≤ 400) ∧ (∃ y : Int32, gi u 0 15 = y ∧ 1 ≤ y.toInt ∧ y.toInt ≤ 3205) ∧ (∃ y : Int32, gi u 0 17 = y ∧ 2 ≤ y.toInt ∧ y.toInt ≤ 2)) ∨ (r = 0 ∧ (∃ y : Int32, gi u 0 1 = y ∧ 0 ≤ y.toInt ∧ y.toInt ≤ 400) ∧ (∃ y : Int32, gi u 0 15 = y ∧ 1 ≤ y.toInt ∧ y.toInt ≤ 3205) ∧ (∃ y : Int32, gi u 0 17 = y ∧ 2 ≤ y.toInt ∧ y.toInt ≤ 2)) ∨ (r = 1 ∧ (∃ y : Int32, gi u 0 1 = y ∧ 1 ≤ y.toInt ∧ y.toInt ≤ 400) ∧ (∃ y : Int32, gi u 0 17 = y ∧ 2 ≤ y.toInt ∧ y.toInt ≤ 2) ∧ (∃ y : Int32, gi u 0 18 = y ∧ 1 ≤ y.toInt ∧ y.toInt ≤ 60) ∧ ((gi u 3 2).toInt = (gi w0 3 2).toInt + 1) ∧ ((gi u 0 18).toInt = (gi w0 0 18).toInt + 1)) ∨ (r = 1 ∧ (∃ y : Int32, gi u 0 1 = y ∧ 0 ≤ y.toInt ∧ y.toInt ≤ 400) ∧ (∃ y : Int32, gi u 0 17 = y ∧ 2 ≤ y.toInt ∧ y.toInt ≤ 2) ∧ (∃ y : Int32, gi u 0 18 = y ∧ 1 ≤ y.toInt ∧ y.toInt ≤ 60) ∧ ((gi u 3 2).toInt = (gi w0 3 2).toInt + 1) ∧ ((gi u 0 18).toInt = (gi w0 0 18).toInt + 1)))
set_option maxHeartbeats 4000000 in
set_option maxRecDepth 100000 in
theorem k_X12_value_3 (l : Launch) (adK adV : Nat → Nat) (dC : Nat → ClassId) (dI : Nat → Nat → Nat) (cy : Nat → ClassId) (ad : Nat → Nat) (B : Int) (hB0 : 100000 ≤ B) (hB1 : B ≤ 1073741824) (qr : Nat) (s1 : Int)   (w0 : va_W) (sz : Nat) (hT : TW ksM ad cy B qr 12 w0) (cf0_ : gi w0 0 17 = 2) (f1_ : Int32) (cf1_ : gi w0 0 18 = f1_) (rf1_ : 0 ≤ f1_.toInt) (tf1_ : f1_.toInt ≤ 60) (f2_ : Int32) (cf2_ : gi w0 3 2 = f2_) (rf2_ : 0 ≤ f2_.toInt) (tf2_ : f2_.toInt ≤ 400) (pr0_ : f2_.toInt ≤ 399) : Met l yX12_value wsX12_value ({ frames := 4, cells := 0, slots := 0, locals := 78 }) (va_Pc [.ref (ad 0)] (wpreS adK adV dC dI cy sz w0)) (va_Qi (P_X12_value_3 ad cy B qr s1  w0) (fun u : va_W => wpost dC dI cy (va_A w0 sz) u) (va_A w0 sz)) 0 0 (va_A w0 sz) := by
  refine Met.ofW (cc := cX12_value) (maxL := 3) (ret := (some .boolean)) (by decide) rfl ?_
  intro p e s m args below meth c s₁ Bk hml hv
  obtain ⟨rfl, ⟨hsz, hP, hK, hD0⟩, hE, hSR⟩ := hv
  have hx := Bk.exec
  have hb := Bk.bytes
  have hr := Bk.returns
  have hlocks := Bk.notSynchronized
  have hC : CallFix p m c cX12_value 3 s _ wsX12_value RX12 := ⟨hx, hb, hml, findClass_of_methodNamed Bk.named, atoms_spec (ws := wsX12_value) Bk.pre⟩
  subst hsz
  have hD := hD0.self (sz := s.heap.size)
  generalize hAe : va_A w0 s.heap.size = A at hD hE ⊢
  have hA : ∀ q : Nat, s.heap.size ≤ q → A q := fun q h => by rw [← hAe]; exact Or.inr h
  have hw : Wd dC dI A s.heap s.heap [] w0 := ⟨hP, hD, va_S.rf⟩
  have hF : FE ksM [(12, 14, 14), (12, 15, 15), (12, 16, 16), (12, 18, 18), (61, 0, 2400), (62, 0, 7)] w0 w0 := FE.rf
  have hl := lv_entry ([.ref (ad 0)]) (n := 3) (Nat.le_of_ble_eq_true rfl)
  rw [lg_entry_eq]
  generalize (lg_sl ([.ref (ad 0)]) ++ List.replicate (3 - (lg_sl ([.ref (ad 0)])).length) Slot.unset).toArray = ls at hl ⊢
  have hl : lv_has ls 3 [(0, .ref (ad 0))] := hl
  generalize hloc : ([] : List Loc) = locs at hw ⊢
  have hinX12 : ∀ w ∈ u_ws RX12 TX12 42, w ∈ wsX12_value := fun _ h => List.mem_cons_of_mem _ (List.mem_append_right _ (h))
  have J39 : ∀ (v39_1 : Int32) (f39_0_1 : Int32) (f39_0_15 : Int32) (f39_0_18 : Int32) (H : Heap) (locs : List Loc) (ls : Array Slot) (w1 : va_W), 0 ≤ v39_1.toInt → v39_1.toInt ≤ 399 → 1 ≤ f39_0_1.toInt → f39_0_1.toInt ≤ 400 → 1 ≤ f39_0_15.toInt → f39_0_15.toInt ≤ 3205 → 0 ≤ f39_0_18.toInt → f39_0_18.toInt ≤ 60 → 0 ≤ f2_.toInt → f2_.toInt ≤ 399 → Wd dC dI A s.heap H locs w1 → TW ksM ad cy B qr 12 w1 → FE ksM [(12, 14, 14), (12, 15, 15), (12, 16, 16), (12, 18, 18), (61, 0, 2400), (62, 0, 7)] w0 w1 → gi w1 0 1 = f39_0_1 → gi w1 0 15 = f39_0_15 → gi w1 0 17 = 2 → gi w1 0 18 = f39_0_18 → gi w1 3 2 = f2_ → lv_has ls 3 [(0, .ref (ad 0)), (1, .int v39_1)] → W p l e ({ frames := 4, cells := 0, slots := 0, locals := 78 }) s m (List.toArray [.ref (ad 0)]) below meth c H locs 0 0 (MQ below (va_Qi (P_X12_value_3 ad cy B qr s1  w0) (fun u : va_W => wpost dC dI cy A u) A) (List.toArray [.ref (ad 0)]) s 0 0 A) (F0 m 39 ls []) := by
    intro v39_1 f39_0_1 f39_0_15 f39_0_18 H locs ls w1 r2 t3 r4 t5 r7 t8 r11 t12 r14 t15 hw hT hF c6 c9 c10 c13 c16 hl
    refine lv_iconst (v := 0) hx hb dX12_value_39 (by decide) ?_
    exact tk_zret hC hr rfl hlocks hK ⟨hT, hF, (Or.inl ⟨rfl, ⟨f39_0_1, c6, (show 1 ≤ f39_0_1.toInt by omega), (show f39_0_1.toInt ≤ 400 by omega)⟩, ⟨f39_0_15, c9, (show 1 ≤ f39_0_15.toInt by omega), (show f39_0_15.toInt ≤ 3205 by omega)⟩, ⟨2, c10, (by decide), (by decide)⟩⟩)⟩ hw dX12_value_40
  refine lv_aload_n hx hb dX12_value_0 rfl (lv_at hl 0 rfl) ?_
  obtain ⟨x17, c18, rx17, tx17⟩ := hT.rdi (lo := 0) (hi := 400) (k := 14) kM_at0 (by decide) rfl
  refine tk_Vi hC hK hw hT hA hE hSR kM_at0 (by decide) rfl (k_X12_see_1 l adK adV dC dI cy ad B (by omega) (by omega) qr s1    w0 s.heap.size hT x17 c18 (show 0 ≤ x17.toInt by omega) (show x17.toInt ≤ 400 by omega)) (cwV 0 hC.2.2.2.2 gX12_value_X12_see rfl rfl rfl (by decide +kernel) ⟨Nat.le_of_ble_eq_true rfl, Nat.le_of_ble_eq_true rfl⟩) rfl hl.1 rfl (Nat.le_of_ble_eq_true rfl) dX12_value_1 (fun r19 w21 H locs hp20 hw => ?_)
  obtain ⟨hT, k22, hg39⟩ := hp20
  have hF := hF.tr k22 (by decide)
  have c40 := k22.gi kM_at0 (by decide) cf0_
  have c41 := k22.gi kM_at0 (by decide) cf1_
  have c42 := k22.gi kM_at3 (by decide) cf2_
  rcases hg39 with ⟨g23, g24, ⟨x25, c26, rx25, tx25⟩, ⟨x27, c28, rx27, tx27⟩, g29, g30⟩ | ⟨rfl, ⟨x31, c32, rx31, tx31⟩, ⟨x33, c34, rx33, tx33⟩, g35⟩ | ⟨rfl, ⟨x36, c37, rx36, tx36⟩, g38⟩
  · have g29 : (gi w21 1 (x27.toInt).toNat).toInt ≠ 32 := by have q := g29; simp only [c28] at q; omega
    have g30 : (x27.toInt = x17.toInt ∨ (gi w0 1 (x17.toInt).toNat).toInt = 32) := by have q := g30; simp only [c18, c28] at q; omega
    refine lv_pop hx hb dX12_value_4 rfl ?_
    refine lv_aload_n hx hb dX12_value_5 rfl (lv_at hl 0 rfl) ?_
    refine tk_geti hC hK hw hT hinX12 kM_at0 (by decide) rfl 14 (by decide) (List.mem_of_getElem? (i := 1) rfl) rfl rfl dX12_value_6 (fun x45 c46 rx45 tx45 => ?_)
    refine wk_top x27 (c46.symm.trans c28) ?_
    refine lv_istore_n (lv' := [(1, .int x27), (0, .ref (ad 0))]) hx hb dX12_value_9 rfl hl (by decide) rfl (fun ls hl => ?_)
    refine lv_aload_n hx hb dX12_value_10 rfl (lv_at hl 1 rfl) ?_
    refine lv_aload_n hx hb dX12_value_11 rfl (lv_at hl 1 rfl) ?_
    refine tk_geti hC hK hw hT hinX12 kM_at0 (by decide) rfl 14 (by decide) (List.mem_of_getElem? (i := 1) rfl) rfl rfl dX12_value_12 (fun x47 c48 rx47 tx47 => ?_)
    refine wk_top x27 (c48.symm.trans c28) ?_
    refine tk_Vi hC hK hw hT hA hE hSR kM_at0 (by decide) rfl (k_X12_isDigit_1 l adK adV dC dI cy ad B (by omega) (by omega) qr s1   x27 (show 0 ≤ x27.toInt by omega) (show x27.toInt ≤ 399 by omega) w21 H.size hT ) (cwV 1 hC.2.2.2.2 gX12_value_X12_isDigit rfl rfl rfl (by decide +kernel) ⟨Nat.le_of_ble_eq_true rfl, Nat.le_of_ble_eq_true rfl⟩) rfl hl.1 rfl (Nat.le_of_ble_eq_true rfl) dX12_value_15 (fun r49 w51 H locs hp50 hw => ?_)
    obtain ⟨rfl, hg57⟩ := hp50
    rcases hg57 with ⟨rfl, ⟨x53, c54, rx53, tx53⟩⟩ | ⟨rfl, ⟨x55, c56, rx55, tx55⟩⟩
    · have ex53 : x53.toInt = x25.toInt := by rw [← c26.symm.trans c54]
      refine lv_if_eq (tgt := 52) hx hb dX12_value_18 (by decide) (fun _ => ?_) (fun c => absurd (by decide) c)
      refine lv_aload_n hx hb dX12_value_52 rfl (lv_at hl 1 rfl) ?_
      refine tk_Vi hC hK hw hT hA hE hSR kM_at0 (by decide) rfl (k_X12_wordHere_1 l adK adV dC dI cy ad B (by omega) (by omega) qr s1    w21 H.size hT ) (cwV 0 hC.2.2.2.2 gX12_value_X12_wordHere rfl rfl rfl (by decide +kernel) ⟨Nat.le_of_ble_eq_true rfl, Nat.le_of_ble_eq_true rfl⟩) rfl hl.1 rfl (Nat.le_of_ble_eq_true rfl) dX12_value_53 (fun r58 w60 H locs hp59 hw => ?_)
      obtain ⟨hT, k61, hg68⟩ := hp59
      have hF := hF.tr k61 (by decide)
      have c69 := k61.gi kM_at0 (by decide) c40
      have c70 := k61.gi kM_at0 (by decide) c41
      have c71 := k61.gi kM_at3 (by decide) c42
      have c72 := k61.gi kM_at0 (by decide) c26
      rcases hg68 with ⟨g62, g63, ⟨x64, c65, rx64, tx64⟩⟩ | ⟨rfl, ⟨x66, c67, rx66, tx66⟩⟩
      · have ex64 : x64.toInt = x25.toInt := by rw [← c72.symm.trans c65]
        refine lv_istore_n (lv' := [(2, .int r58), (1, .int x27), (0, .ref (ad 0))]) hx hb dX12_value_56 rfl hl (by decide) rfl (fun ls hl => ?_)
        refine lv_iload_n hx hb dX12_value_57 rfl (lv_at hl 0 rfl) ?_
        refine lv_if_ge (tgt := 68) hx hb dX12_value_58 (by decide) (fun _ => ?_) (fun c => (c (wk_le.mpr (show (0 : Int) ≤ r58.toInt by omega))).elim)
        refine lv_aload_n hx hb dX12_value_68 rfl (lv_at hl 2 rfl) ?_
        refine lv_iload_n hx hb dX12_value_69 rfl (lv_at hl 1 rfl) ?_
        refine tk_Vi hC hK hw hT hA hE hSR kM_at0 (by decide) rfl (k_X12_makes_2 l adK adV dC dI cy ad B (by omega) (by omega) qr s1   x27 (show 0 ≤ x27.toInt by omega) (show x27.toInt ≤ 399 by omega) w60 H.size hT f1_ c70 (show 0 ≤ f1_.toInt by omega) (show f1_.toInt ≤ 60 by omega)) (cwV 1 hC.2.2.2.2 gX12_value_X12_makes rfl rfl rfl (by decide +kernel) ⟨Nat.le_of_ble_eq_true rfl, Nat.le_of_ble_eq_true rfl⟩) rfl hl.1 rfl (Nat.le_of_ble_eq_true rfl) dX12_value_70 (fun r73 w75 H locs hp74 hw => ?_)
        obtain ⟨hT, k76, hg84⟩ := hp74
        have hF := hF.tr k76 (by decide)
        have c85 := k76.gi kM_at0 (by decide) c69
        have c86 := k76.gi kM_at3 (by decide) c71
        have c87 := k76.gi kM_at0 (by decide) c72
        rcases hg84 with ⟨rfl, ⟨x77, c78, rx77, tx77⟩, ⟨x79, c80, rx79, tx79⟩⟩ | ⟨rfl, ⟨x81, c82, rx81, tx81⟩, g83⟩
        · refine lv_if_ne (tgt := 78) hx hb dX12_value_73 (by decide) (fun c => absurd (by decide) c) (fun _ => ?_)
          refine lv_iconst (v := 0) hx hb dX12_value_76 (by decide) ?_
          exact tk_zret hC hr rfl hlocks hK ⟨hT, hF, (Or.inl ⟨rfl, ⟨x25, c87, (show 1 ≤ x25.toInt by omega), (show x25.toInt ≤ 400 by omega)⟩, ⟨x77, c78, (show 1 ≤ x77.toInt by omega), (show x77.toInt ≤ 3205 by omega)⟩, ⟨2, c85, (by decide), (by decide)⟩⟩)⟩ hw dX12_value_77
        · have g83 : x81.toInt = f1_.toInt + 1 := by have q := g83; simp only [c70, c82] at q; omega
          refine lv_if_ne (tgt := 78) hx hb dX12_value_73 (by decide) (fun _ => ?_) (fun c => absurd c (by decide))
          refine lv_aload_n hx hb dX12_value_78 rfl (lv_at hl 2 rfl) ?_
          refine tk_Vv hC hK hw hT hA hE hSR kM_at0 (by decide) rfl (k_X12_passWord_1 l adK adV dC dI cy ad B (by omega) (by omega) qr s1    w75 H.size hT ) (cwV 0 hC.2.2.2.2 gX12_value_X12_passWord rfl rfl rfl (by decide +kernel) ⟨Nat.le_of_ble_eq_true rfl, Nat.le_of_ble_eq_true rfl⟩) rfl hl.1 rfl (Nat.le_of_ble_eq_true rfl) dX12_value_79 (fun w90 H locs hp89 hw => ?_)
          obtain ⟨hT, k91, hg98⟩ := hp89
          have hF := hF.tr k91 (by decide)
          have c99 := k91.gi kM_at0 (by decide) c85
          have c100 := k91.gi kM_at3 (by decide) c86
          have c101 := k91.gi kM_at0 (by decide) c87
          have c102 := k91.gi kM_at0 (by decide) c82
          rcases hg98 with ⟨⟨x92, c93, rx92, tx92⟩, ⟨x94, c95, rx94, tx94⟩⟩ | ⟨x96, c97, rx96, tx96⟩
          · have ex92 : x92.toInt = x25.toInt := by rw [← c101.symm.trans c93]
            refine lv_aload_n hx hb dX12_value_82 rfl (lv_at hl 2 rfl) ?_
            refine lv_iconst (v := 1) hx hb dX12_value_83 (by decide) ?_
            refine lv_iload_n hx hb dX12_value_84 rfl (lv_at hl 0 rfl) ?_
            refine tk_Vv hC hK hw hT hA hE hSR kM_at0 (by decide) rfl (k_X12_puts_3 l adK adV dC dI cy ad B (by omega) (by omega) qr s1   1 (by decide) (by decide) r58 w90 H.size hT c99 f2_ c100 (show 0 ≤ f2_.toInt by omega) (show f2_.toInt ≤ 400 by omega) (show f2_.toInt ≤ 399 by omega)) (cwV 2 hC.2.2.2.2 gX12_value_X12_puts rfl rfl rfl (by decide +kernel) ⟨Nat.le_of_ble_eq_true rfl, Nat.le_of_ble_eq_true rfl⟩) rfl hl.1 rfl (Nat.le_of_ble_eq_true rfl) dX12_value_85 (fun w105 H locs hp104 hw => ?_)
            obtain ⟨hT, k106, hg110⟩ := hp104
            have hF := hF.tr k106 (by decide)
            have c111 := k106.gi kM_at0 (by decide) c99
            have c112 := k106.gi kM_at0 (by decide) c101
            have c113 := k106.gi kM_at0 (by decide) c102
            have c114 := k106.gi kM_at0 (by decide) c95
            obtain ⟨⟨x107, c108, rx107, tx107⟩, g109⟩ := hg110
            have ex107 : x107.toInt = (2 : Int) := by rw [show x107 = 2 from c108.symm.trans c111]; decide
            obtain ⟨x115, c116, rx115, tx115⟩ := hT.rda (lo := 0) (hi := 400) (i := 2) kM_at3 rfl rfl (by decide)
            have g109 : x115.toInt = f2_.toInt + 1 := by have q := g109; simp only [c100, c116] at q; omega
            refine lv_iconst (v := 1) hx hb dX12_value_88 (by decide) ?_
            exact tk_zret hC hr rfl hlocks hK ⟨hT, hF, (Or.inr (Or.inr (Or.inl ⟨rfl, ⟨x25, c112, (show 1 ≤ x25.toInt by omega), (show x25.toInt ≤ 400 by omega)⟩, ⟨2, c111, (by decide), (by decide)⟩, ⟨x81, c113, (show 1 ≤ x81.toInt by omega), (show x81.toInt ≤ 60 by omega)⟩, (by simp only [cf2_, c116]; omega), (by simp only [cf1_, c113]; omega)⟩)))⟩ hw dX12_value_89
          · have ex96 : x96.toInt = x25.toInt := by rw [← c101.symm.trans c97]
            refine lv_aload_n hx hb dX12_value_82 rfl (lv_at hl 2 rfl) ?_
            refine lv_iconst (v := 1) hx hb dX12_value_83 (by decide) ?_
            refine lv_iload_n hx hb dX12_value_84 rfl (lv_at hl 0 rfl) ?_
            refine tk_Vv hC hK hw hT hA hE hSR kM_at0 (by decide) rfl (k_X12_puts_3 l adK adV dC dI cy ad B (by omega) (by omega) qr s1   1 (by decide) (by decide) r58 w90 H.size hT c99 f2_ c100 (show 0 ≤ f2_.toInt by omega) (show f2_.toInt ≤ 400 by omega) (show f2_.toInt ≤ 399 by omega)) (cwV 2 hC.2.2.2.2 gX12_value_X12_puts rfl rfl rfl (by decide +kernel) ⟨Nat.le_of_ble_eq_true rfl, Nat.le_of_ble_eq_true rfl⟩) rfl hl.1 rfl (Nat.le_of_ble_eq_true rfl) dX12_value_85 (fun w119 H locs hp118 hw => ?_)
            obtain ⟨hT, k120, hg124⟩ := hp118
            have hF := hF.tr k120 (by decide)
            have c125 := k120.gi kM_at0 (by decide) c99
            have c126 := k120.gi kM_at0 (by decide) c101
            have c127 := k120.gi kM_at0 (by decide) c102
            obtain ⟨⟨x121, c122, rx121, tx121⟩, g123⟩ := hg124
            have ex121 : x121.toInt = (2 : Int) := by rw [show x121 = 2 from c122.symm.trans c125]; decide
            obtain ⟨x128, c129, rx128, tx128⟩ := hT.rda (lo := 0) (hi := 400) (i := 2) kM_at3 rfl rfl (by decide)
            have g123 : x128.toInt = f2_.toInt + 1 := by have q := g123; simp only [c100, c129] at q; omega
            refine lv_iconst (v := 1) hx hb dX12_value_88 (by decide) ?_
            exact tk_zret hC hr rfl hlocks hK ⟨hT, hF, (Or.inr (Or.inr (Or.inl ⟨rfl, ⟨x25, c126, (show 1 ≤ x25.toInt by omega), (show x25.toInt ≤ 400 by omega)⟩, ⟨2, c125, (by decide), (by decide)⟩, ⟨x81, c127, (show 1 ≤ x81.toInt by omega), (show x81.toInt ≤ 60 by omega)⟩, (by simp only [cf2_, c129]; omega), (by simp only [cf1_, c127]; omega)⟩)))⟩ hw dX12_value_89
      · have ex66 : x66.toInt = x25.toInt := by rw [← c72.symm.trans c67]
        refine lv_istore_n (lv' := [(2, .int (-1)), (1, .int x27), (0, .ref (ad 0))]) hx hb dX12_value_56 rfl hl (by decide) rfl (fun ls hl => ?_)
        refine lv_iload_n hx hb dX12_value_57 rfl (lv_at hl 0 rfl) ?_
        refine lv_if_ge (tgt := 68) hx hb dX12_value_58 (by decide) (fun c => absurd c (by decide)) (fun _ => ?_)
        refine lv_aload_n hx hb dX12_value_61 rfl (lv_at hl 2 rfl) ?_
        refine lv_iconst (v := 0) hx hb dX12_value_62 (by decide) ?_
        refine lv_iload_n hx hb dX12_value_63 rfl (lv_at hl 1 rfl) ?_
        refine tk_Vi hC hK hw hT hA hE hSR kM_at0 (by decide) rfl (k_X12_fails_1 l adK adV dC dI cy ad B (by omega) (by omega) qr s1   0 (by decide) (by decide) x27 (show 0 ≤ x27.toInt by omega) (show x27.toInt ≤ 400 by omega) w60 H.size hT ) (cwV 2 hC.2.2.2.2 gX12_value_X12_fails rfl rfl rfl (by decide +kernel) ⟨Nat.le_of_ble_eq_true rfl, Nat.le_of_ble_eq_true rfl⟩) rfl hl.1 rfl (Nat.le_of_ble_eq_true rfl) dX12_value_64 (fun r130 w132 H locs hp131 hw => ?_)
        obtain ⟨hT, k133, hg136⟩ := hp131
        have hF := hF.tr k133 (by decide)
        have c137 := k133.gi kM_at0 (by decide) c69
        have c138 := k133.gi kM_at0 (by decide) c70
        have c139 := k133.gi kM_at3 (by decide) c71
        have c140 := k133.gi kM_at0 (by decide) c72
        obtain ⟨rfl, ⟨x134, c135, rx134, tx134⟩⟩ := hg136
        exact tk_zret hC hr rfl hlocks hK ⟨hT, hF, (Or.inl ⟨rfl, ⟨x25, c140, (show 1 ≤ x25.toInt by omega), (show x25.toInt ≤ 400 by omega)⟩, ⟨x134, c135, (show 1 ≤ x134.toInt by omega), (show x134.toInt ≤ 3205 by omega)⟩, ⟨2, c137, (by decide), (by decide)⟩⟩)⟩ hw dX12_value_67
    · have ex55 : x55.toInt = x25.toInt := by rw [← c26.symm.trans c56]
      refine lv_if_eq (tgt := 52) hx hb dX12_value_18 (by decide) (fun c => absurd c (by decide)) (fun _ => ?_)
      refine lv_aload_n hx hb dX12_value_21 rfl (lv_at hl 1 rfl) ?_
      refine lv_iconst (v := 0) hx hb dX12_value_22 (by decide) ?_
      refine lv_ldc (v := 99999) hx hb hC.2.2.2.1 (hC.2.2.2.2 _ (List.mem_of_getElem? (i := 2) rfl)) dX12_value_23 ?_
      refine tk_Vi hC hK hw hT hA hE hSR kM_at0 (by decide) rfl (k_X12_numberHere_9 l adK adV dC dI cy ad B (by omega) (by omega) qr s1    w21 H.size hT ) (cwV 2 hC.2.2.2.2 gX12_value_X12_numberHere rfl rfl rfl (by decide +kernel) ⟨Nat.le_of_ble_eq_true rfl, Nat.le_of_ble_eq_true rfl⟩) rfl hl.1 rfl (Nat.le_of_ble_eq_true rfl) dX12_value_25 (fun r141 w143 H locs hp142 hw => ?_)
      obtain ⟨hT, k144, hg157⟩ := hp142
      have hF := hF.tr k144 (by decide)
      have c158 := k144.gi kM_at0 (by decide) c40
      have c159 := k144.gi kM_at0 (by decide) c41
      have c160 := k144.gi kM_at3 (by decide) c42
      have c161 := k144.gi kM_at0 (by decide) c26
      rcases hg157 with ⟨rfl, ⟨x145, c146, rx145, tx145⟩, ⟨x147, c148, rx147, tx147⟩⟩ | ⟨rfl, ⟨x149, c150, rx149, tx149⟩, ⟨x151, c152, rx151, tx151⟩⟩ | ⟨rfl, ⟨x153, c154, rx153, tx153⟩, ⟨x155, c156, rx155, tx155⟩⟩
      · have ex145 : x145.toInt = x25.toInt := by rw [← c161.symm.trans c146]
        refine lv_if_eq (tgt := 39) hx hb dX12_value_28 (by decide) (fun _ => ?_) (fun c => absurd (by decide) c)
        exact J39 x27 x25 x147 f1_ H locs ls w143 (show 0 ≤ x27.toInt by omega) (show x27.toInt ≤ 399 by omega) (show 1 ≤ x25.toInt by omega) (show x25.toInt ≤ 400 by omega) (show 1 ≤ x147.toInt by omega) (show x147.toInt ≤ 3205 by omega) (show 0 ≤ f1_.toInt by omega) (show f1_.toInt ≤ 60 by omega) (show 0 ≤ f2_.toInt by omega) (show f2_.toInt ≤ 399 by omega)  hw hT hF c161 c148 c158 c159 c160 (lv_sub hl [1, 0] rfl)
      · have ex149 : x149.toInt = x25.toInt := by rw [← c161.symm.trans c150]
        refine lv_if_eq (tgt := 39) hx hb dX12_value_28 (by decide) (fun _ => ?_) (fun c => absurd (by decide) c)
        exact J39 x27 x25 x151 f1_ H locs ls w143 (show 0 ≤ x27.toInt by omega) (show x27.toInt ≤ 399 by omega) (show 1 ≤ x25.toInt by omega) (show x25.toInt ≤ 400 by omega) (show 1 ≤ x151.toInt by omega) (show x151.toInt ≤ 3205 by omega) (show 0 ≤ f1_.toInt by omega) (show f1_.toInt ≤ 60 by omega) (show 0 ≤ f2_.toInt by omega) (show f2_.toInt ≤ 399 by omega)  hw hT hF c161 c152 c158 c159 c160 (lv_sub hl [1, 0] rfl)
      · have ex153 : x153.toInt = x25.toInt := by rw [← c161.symm.trans c154]
        refine lv_if_eq (tgt := 39) hx hb dX12_value_28 (by decide) (fun c => absurd c (by decide)) (fun _ => ?_)
        refine lv_aload_n hx hb dX12_value_31 rfl (lv_at hl 1 rfl) ?_
        refine lv_iload_n hx hb dX12_value_32 rfl (lv_at hl 0 rfl) ?_
        refine tk_Vi hC hK hw hT hA hE hSR kM_at0 (by decide) rfl (k_X12_makes_2 l adK adV dC dI cy ad B (by omega) (by omega) qr s1   x27 (show 0 ≤ x27.toInt by omega) (show x27.toInt ≤ 399 by omega) w143 H.size hT f1_ c159 (show 0 ≤ f1_.toInt by omega) (show f1_.toInt ≤ 60 by omega)) (cwV 1 hC.2.2.2.2 gX12_value_X12_makes rfl rfl rfl (by decide +kernel) ⟨Nat.le_of_ble_eq_true rfl, Nat.le_of_ble_eq_true rfl⟩) rfl hl.1 rfl (Nat.le_of_ble_eq_true rfl) dX12_value_33 (fun r162 w164 H locs hp163 hw => ?_)
        obtain ⟨hT, k165, hg173⟩ := hp163
        have hF := hF.tr k165 (by decide)
        have c174 := k165.gi kM_at0 (by decide) c158
        have c175 := k165.gi kM_at3 (by decide) c160
        have c176 := k165.gi kM_at0 (by decide) c161
        have c177 := k165.gi kM_at0 (by decide) c156
        rcases hg173 with ⟨rfl, ⟨x166, c167, rx166, tx166⟩, ⟨x168, c169, rx168, tx168⟩⟩ | ⟨rfl, ⟨x170, c171, rx170, tx170⟩, g172⟩
        · refine lv_if_ne (tgt := 41) hx hb dX12_value_36 (by decide) (fun c => absurd (by decide) c) (fun _ => ?_)
          exact J39 x27 x25 x166 x168 H locs ls w164 (show 0 ≤ x27.toInt by omega) (show x27.toInt ≤ 399 by omega) (show 1 ≤ x25.toInt by omega) (show x25.toInt ≤ 400 by omega) (show 1 ≤ x166.toInt by omega) (show x166.toInt ≤ 3205 by omega) (show 0 ≤ x168.toInt by omega) (show x168.toInt ≤ 60 by omega) (show 0 ≤ f2_.toInt by omega) (show f2_.toInt ≤ 399 by omega)  hw hT hF c176 c167 c174 c169 c175 (lv_sub hl [1, 0] rfl)
        · have g172 : x170.toInt = f1_.toInt + 1 := by have q := g172; simp only [c159, c171] at q; omega
          refine lv_if_ne (tgt := 41) hx hb dX12_value_36 (by decide) (fun _ => ?_) (fun c => absurd c (by decide))
          refine lv_aload_n hx hb dX12_value_41 rfl (lv_at hl 1 rfl) ?_
          refine lv_iconst (v := 0) hx hb dX12_value_42 (by decide) ?_
          refine lv_aload_n hx hb dX12_value_43 rfl (lv_at hl 1 rfl) ?_
          refine tk_geti hC hK hw hT hinX12 kM_at0 (by decide) rfl 16 (by decide) (List.mem_of_getElem? (i := 3) rfl) rfl rfl dX12_value_44 (fun x178 c179 rx178 tx178 => ?_)
          refine wk_top x155 (c179.symm.trans c177) ?_
          refine tk_Vv hC hK hw hT hA hE hSR kM_at0 (by decide) rfl (k_X12_puts_3 l adK adV dC dI cy ad B (by omega) (by omega) qr s1   0 (by decide) (by decide) x155 w164 H.size hT c174 f2_ c175 (show 0 ≤ f2_.toInt by omega) (show f2_.toInt ≤ 400 by omega) (show f2_.toInt ≤ 399 by omega)) (cwV 2 hC.2.2.2.2 gX12_value_X12_puts rfl rfl rfl (by decide +kernel) ⟨Nat.le_of_ble_eq_true rfl, Nat.le_of_ble_eq_true rfl⟩) rfl hl.1 rfl (Nat.le_of_ble_eq_true rfl) dX12_value_47 (fun w182 H locs hp181 hw => ?_)
          obtain ⟨hT, k183, hg187⟩ := hp181
          have hF := hF.tr k183 (by decide)
          have c188 := k183.gi kM_at0 (by decide) c174
          have c189 := k183.gi kM_at0 (by decide) c176
          have c190 := k183.gi kM_at0 (by decide) c177
          have c191 := k183.gi kM_at0 (by decide) c171
          obtain ⟨⟨x184, c185, rx184, tx184⟩, g186⟩ := hg187
          have ex184 : x184.toInt = (2 : Int) := by rw [show x184 = 2 from c185.symm.trans c188]; decide
          obtain ⟨x192, c193, rx192, tx192⟩ := hT.rda (lo := 0) (hi := 400) (i := 2) kM_at3 rfl rfl (by decide)
          have g186 : x192.toInt = f2_.toInt + 1 := by have q := g186; simp only [c175, c193] at q; omega
          refine lv_iconst (v := 1) hx hb dX12_value_50 (by decide) ?_
          exact tk_zret hC hr rfl hlocks hK ⟨hT, hF, (Or.inr (Or.inr (Or.inl ⟨rfl, ⟨x25, c189, (show 1 ≤ x25.toInt by omega), (show x25.toInt ≤ 400 by omega)⟩, ⟨2, c188, (by decide), (by decide)⟩, ⟨x170, c191, (show 1 ≤ x170.toInt by omega), (show x170.toInt ≤ 60 by omega)⟩, (by simp only [cf2_, c193]; omega), (by simp only [cf1_, c191]; omega)⟩)))⟩ hw dX12_value_51
  · have g35 : (x33.toInt = x17.toInt ∨ (gi w0 1 (x17.toInt).toNat).toInt = 32) := by have q := g35; simp only [c18, c34] at q; omega
    refine lv_pop hx hb dX12_value_4 rfl ?_
    refine lv_aload_n hx hb dX12_value_5 rfl (lv_at hl 0 rfl) ?_
    refine tk_geti hC hK hw hT hinX12 kM_at0 (by decide) rfl 14 (by decide) (List.mem_of_getElem? (i := 1) rfl) rfl rfl dX12_value_6 (fun x194 c195 rx194 tx194 => ?_)
    refine wk_top x33 (c195.symm.trans c34) ?_
    refine lv_istore_n (lv' := [(1, .int x33), (0, .ref (ad 0))]) hx hb dX12_value_9 rfl hl (by decide) rfl (fun ls hl => ?_)
    refine lv_aload_n hx hb dX12_value_10 rfl (lv_at hl 1 rfl) ?_
    refine lv_aload_n hx hb dX12_value_11 rfl (lv_at hl 1 rfl) ?_
    refine tk_geti hC hK hw hT hinX12 kM_at0 (by decide) rfl 14 (by decide) (List.mem_of_getElem? (i := 1) rfl) rfl rfl dX12_value_12 (fun x196 c197 rx196 tx196 => ?_)
    refine wk_top x33 (c197.symm.trans c34) ?_
    refine tk_Vi hC hK hw hT hA hE hSR kM_at0 (by decide) rfl (k_X12_isDigit_3 l adK adV dC dI cy ad B (by omega) (by omega) qr s1   x33 (show 1 ≤ x33.toInt by omega) (show x33.toInt ≤ 399 by omega) w21 H.size hT ) (cwV 1 hC.2.2.2.2 gX12_value_X12_isDigit rfl rfl rfl (by decide +kernel) ⟨Nat.le_of_ble_eq_true rfl, Nat.le_of_ble_eq_true rfl⟩) rfl hl.1 rfl (Nat.le_of_ble_eq_true rfl) dX12_value_15 (fun r198 w200 H locs hp199 hw => ?_)
    obtain ⟨rfl, hg206⟩ := hp199
    rcases hg206 with ⟨rfl, ⟨x202, c203, rx202, tx202⟩⟩ | ⟨rfl, ⟨x204, c205, rx204, tx204⟩⟩
    · have ex202 : x202.toInt = x31.toInt := by rw [← c32.symm.trans c203]
      refine lv_if_eq (tgt := 52) hx hb dX12_value_18 (by decide) (fun _ => ?_) (fun c => absurd (by decide) c)
      refine lv_aload_n hx hb dX12_value_52 rfl (lv_at hl 1 rfl) ?_
      refine tk_Vi hC hK hw hT hA hE hSR kM_at0 (by decide) rfl (k_X12_wordHere_1 l adK adV dC dI cy ad B (by omega) (by omega) qr s1    w21 H.size hT ) (cwV 0 hC.2.2.2.2 gX12_value_X12_wordHere rfl rfl rfl (by decide +kernel) ⟨Nat.le_of_ble_eq_true rfl, Nat.le_of_ble_eq_true rfl⟩) rfl hl.1 rfl (Nat.le_of_ble_eq_true rfl) dX12_value_53 (fun r207 w209 H locs hp208 hw => ?_)
      obtain ⟨hT, k210, hg217⟩ := hp208
      have hF := hF.tr k210 (by decide)
      have c218 := k210.gi kM_at0 (by decide) c40
      have c219 := k210.gi kM_at0 (by decide) c41
      have c220 := k210.gi kM_at3 (by decide) c42
      have c221 := k210.gi kM_at0 (by decide) c32
      rcases hg217 with ⟨g211, g212, ⟨x213, c214, rx213, tx213⟩⟩ | ⟨rfl, ⟨x215, c216, rx215, tx215⟩⟩
      · have ex213 : x213.toInt = x31.toInt := by rw [← c221.symm.trans c214]
        refine lv_istore_n (lv' := [(2, .int r207), (1, .int x33), (0, .ref (ad 0))]) hx hb dX12_value_56 rfl hl (by decide) rfl (fun ls hl => ?_)
        refine lv_iload_n hx hb dX12_value_57 rfl (lv_at hl 0 rfl) ?_
        refine lv_if_ge (tgt := 68) hx hb dX12_value_58 (by decide) (fun _ => ?_) (fun c => (c (wk_le.mpr (show (0 : Int) ≤ r207.toInt by omega))).elim)
        refine lv_aload_n hx hb dX12_value_68 rfl (lv_at hl 2 rfl) ?_
        refine lv_iload_n hx hb dX12_value_69 rfl (lv_at hl 1 rfl) ?_
        refine tk_Vi hC hK hw hT hA hE hSR kM_at0 (by decide) rfl (k_X12_makes_4 l adK adV dC dI cy ad B (by omega) (by omega) qr s1   x33 (show 1 ≤ x33.toInt by omega) (show x33.toInt ≤ 399 by omega) w209 H.size hT f1_ c219 (show 0 ≤ f1_.toInt by omega) (show f1_.toInt ≤ 60 by omega)) (cwV 1 hC.2.2.2.2 gX12_value_X12_makes rfl rfl rfl (by decide +kernel) ⟨Nat.le_of_ble_eq_true rfl, Nat.le_of_ble_eq_true rfl⟩) rfl hl.1 rfl (Nat.le_of_ble_eq_true rfl) dX12_value_70 (fun r222 w224 H locs hp223 hw => ?_)
        obtain ⟨hT, k225, hg233⟩ := hp223
        have hF := hF.tr k225 (by decide)
        have c234 := k225.gi kM_at0 (by decide) c218
        have c235 := k225.gi kM_at3 (by decide) c220
        have c236 := k225.gi kM_at0 (by decide) c221
        rcases hg233 with ⟨rfl, ⟨x226, c227, rx226, tx226⟩, ⟨x228, c229, rx228, tx228⟩⟩ | ⟨rfl, ⟨x230, c231, rx230, tx230⟩, g232⟩
        · refine lv_if_ne (tgt := 78) hx hb dX12_value_73 (by decide) (fun c => absurd (by decide) c) (fun _ => ?_)
          refine lv_iconst (v := 0) hx hb dX12_value_76 (by decide) ?_
          exact tk_zret hC hr rfl hlocks hK ⟨hT, hF, (Or.inl ⟨rfl, ⟨x31, c236, (show 1 ≤ x31.toInt by omega), (show x31.toInt ≤ 400 by omega)⟩, ⟨x226, c227, (show 1 ≤ x226.toInt by omega), (show x226.toInt ≤ 3205 by omega)⟩, ⟨2, c234, (by decide), (by decide)⟩⟩)⟩ hw dX12_value_77
        · have g232 : x230.toInt = f1_.toInt + 1 := by have q := g232; simp only [c219, c231] at q; omega
          refine lv_if_ne (tgt := 78) hx hb dX12_value_73 (by decide) (fun _ => ?_) (fun c => absurd c (by decide))
          refine lv_aload_n hx hb dX12_value_78 rfl (lv_at hl 2 rfl) ?_
          refine tk_Vv hC hK hw hT hA hE hSR kM_at0 (by decide) rfl (k_X12_passWord_1 l adK adV dC dI cy ad B (by omega) (by omega) qr s1    w224 H.size hT ) (cwV 0 hC.2.2.2.2 gX12_value_X12_passWord rfl rfl rfl (by decide +kernel) ⟨Nat.le_of_ble_eq_true rfl, Nat.le_of_ble_eq_true rfl⟩) rfl hl.1 rfl (Nat.le_of_ble_eq_true rfl) dX12_value_79 (fun w239 H locs hp238 hw => ?_)
          obtain ⟨hT, k240, hg247⟩ := hp238
          have hF := hF.tr k240 (by decide)
          have c248 := k240.gi kM_at0 (by decide) c234
          have c249 := k240.gi kM_at3 (by decide) c235
          have c250 := k240.gi kM_at0 (by decide) c236
          have c251 := k240.gi kM_at0 (by decide) c231
          rcases hg247 with ⟨⟨x241, c242, rx241, tx241⟩, ⟨x243, c244, rx243, tx243⟩⟩ | ⟨x245, c246, rx245, tx245⟩
          · have ex241 : x241.toInt = x31.toInt := by rw [← c250.symm.trans c242]
            refine lv_aload_n hx hb dX12_value_82 rfl (lv_at hl 2 rfl) ?_
            refine lv_iconst (v := 1) hx hb dX12_value_83 (by decide) ?_
            refine lv_iload_n hx hb dX12_value_84 rfl (lv_at hl 0 rfl) ?_
            refine tk_Vv hC hK hw hT hA hE hSR kM_at0 (by decide) rfl (k_X12_puts_3 l adK adV dC dI cy ad B (by omega) (by omega) qr s1   1 (by decide) (by decide) r207 w239 H.size hT c248 f2_ c249 (show 0 ≤ f2_.toInt by omega) (show f2_.toInt ≤ 400 by omega) (show f2_.toInt ≤ 399 by omega)) (cwV 2 hC.2.2.2.2 gX12_value_X12_puts rfl rfl rfl (by decide +kernel) ⟨Nat.le_of_ble_eq_true rfl, Nat.le_of_ble_eq_true rfl⟩) rfl hl.1 rfl (Nat.le_of_ble_eq_true rfl) dX12_value_85 (fun w254 H locs hp253 hw => ?_)
            obtain ⟨hT, k255, hg259⟩ := hp253
            have hF := hF.tr k255 (by decide)
            have c260 := k255.gi kM_at0 (by decide) c248
            have c261 := k255.gi kM_at0 (by decide) c250
            have c262 := k255.gi kM_at0 (by decide) c251
            have c263 := k255.gi kM_at0 (by decide) c244
            obtain ⟨⟨x256, c257, rx256, tx256⟩, g258⟩ := hg259
            have ex256 : x256.toInt = (2 : Int) := by rw [show x256 = 2 from c257.symm.trans c260]; decide
            obtain ⟨x264, c265, rx264, tx264⟩ := hT.rda (lo := 0) (hi := 400) (i := 2) kM_at3 rfl rfl (by decide)
            have g258 : x264.toInt = f2_.toInt + 1 := by have q := g258; simp only [c249, c265] at q; omega
            refine lv_iconst (v := 1) hx hb dX12_value_88 (by decide) ?_
            exact tk_zret hC hr rfl hlocks hK ⟨hT, hF, (Or.inr (Or.inr (Or.inl ⟨rfl, ⟨x31, c261, (show 1 ≤ x31.toInt by omega), (show x31.toInt ≤ 400 by omega)⟩, ⟨2, c260, (by decide), (by decide)⟩, ⟨x230, c262, (show 1 ≤ x230.toInt by omega), (show x230.toInt ≤ 60 by omega)⟩, (by simp only [cf2_, c265]; omega), (by simp only [cf1_, c262]; omega)⟩)))⟩ hw dX12_value_89
          · have ex245 : x245.toInt = x31.toInt := by rw [← c250.symm.trans c246]
            refine lv_aload_n hx hb dX12_value_82 rfl (lv_at hl 2 rfl) ?_
            refine lv_iconst (v := 1) hx hb dX12_value_83 (by decide) ?_
            refine lv_iload_n hx hb dX12_value_84 rfl (lv_at hl 0 rfl) ?_
            refine tk_Vv hC hK hw hT hA hE hSR kM_at0 (by decide) rfl (k_X12_puts_3 l adK adV dC dI cy ad B (by omega) (by omega) qr s1   1 (by decide) (by decide) r207 w239 H.size hT c248 f2_ c249 (show 0 ≤ f2_.toInt by omega) (show f2_.toInt ≤ 400 by omega) (show f2_.toInt ≤ 399 by omega)) (cwV 2 hC.2.2.2.2 gX12_value_X12_puts rfl rfl rfl (by decide +kernel) ⟨Nat.le_of_ble_eq_true rfl, Nat.le_of_ble_eq_true rfl⟩) rfl hl.1 rfl (Nat.le_of_ble_eq_true rfl) dX12_value_85 (fun w268 H locs hp267 hw => ?_)
            obtain ⟨hT, k269, hg273⟩ := hp267
            have hF := hF.tr k269 (by decide)
            have c274 := k269.gi kM_at0 (by decide) c248
            have c275 := k269.gi kM_at0 (by decide) c250
            have c276 := k269.gi kM_at0 (by decide) c251
            obtain ⟨⟨x270, c271, rx270, tx270⟩, g272⟩ := hg273
            have ex270 : x270.toInt = (2 : Int) := by rw [show x270 = 2 from c271.symm.trans c274]; decide
            obtain ⟨x277, c278, rx277, tx277⟩ := hT.rda (lo := 0) (hi := 400) (i := 2) kM_at3 rfl rfl (by decide)
            have g272 : x277.toInt = f2_.toInt + 1 := by have q := g272; simp only [c249, c278] at q; omega
            refine lv_iconst (v := 1) hx hb dX12_value_88 (by decide) ?_
            exact tk_zret hC hr rfl hlocks hK ⟨hT, hF, (Or.inr (Or.inr (Or.inl ⟨rfl, ⟨x31, c275, (show 1 ≤ x31.toInt by omega), (show x31.toInt ≤ 400 by omega)⟩, ⟨2, c274, (by decide), (by decide)⟩, ⟨x230, c276, (show 1 ≤ x230.toInt by omega), (show x230.toInt ≤ 60 by omega)⟩, (by simp only [cf2_, c278]; omega), (by simp only [cf1_, c276]; omega)⟩)))⟩ hw dX12_value_89
      · have ex215 : x215.toInt = x31.toInt := by rw [← c221.symm.trans c216]
        refine lv_istore_n (lv' := [(2, .int (-1)), (1, .int x33), (0, .ref (ad 0))]) hx hb dX12_value_56 rfl hl (by decide) rfl (fun ls hl => ?_)
        refine lv_iload_n hx hb dX12_value_57 rfl (lv_at hl 0 rfl) ?_
        refine lv_if_ge (tgt := 68) hx hb dX12_value_58 (by decide) (fun c => absurd c (by decide)) (fun _ => ?_)
        refine lv_aload_n hx hb dX12_value_61 rfl (lv_at hl 2 rfl) ?_
        refine lv_iconst (v := 0) hx hb dX12_value_62 (by decide) ?_
        refine lv_iload_n hx hb dX12_value_63 rfl (lv_at hl 1 rfl) ?_
        refine tk_Vi hC hK hw hT hA hE hSR kM_at0 (by decide) rfl (k_X12_fails_1 l adK adV dC dI cy ad B (by omega) (by omega) qr s1   0 (by decide) (by decide) x33 (show 0 ≤ x33.toInt by omega) (show x33.toInt ≤ 400 by omega) w209 H.size hT ) (cwV 2 hC.2.2.2.2 gX12_value_X12_fails rfl rfl rfl (by decide +kernel) ⟨Nat.le_of_ble_eq_true rfl, Nat.le_of_ble_eq_true rfl⟩) rfl hl.1 rfl (Nat.le_of_ble_eq_true rfl) dX12_value_64 (fun r279 w281 H locs hp280 hw => ?_)
        obtain ⟨hT, k282, hg285⟩ := hp280
        have hF := hF.tr k282 (by decide)
        have c286 := k282.gi kM_at0 (by decide) c218
        have c287 := k282.gi kM_at0 (by decide) c219
        have c288 := k282.gi kM_at3 (by decide) c220
        have c289 := k282.gi kM_at0 (by decide) c221
        obtain ⟨rfl, ⟨x283, c284, rx283, tx283⟩⟩ := hg285
        exact tk_zret hC hr rfl hlocks hK ⟨hT, hF, (Or.inl ⟨rfl, ⟨x31, c289, (show 1 ≤ x31.toInt by omega), (show x31.toInt ≤ 400 by omega)⟩, ⟨x283, c284, (show 1 ≤ x283.toInt by omega), (show x283.toInt ≤ 3205 by omega)⟩, ⟨2, c286, (by decide), (by decide)⟩⟩)⟩ hw dX12_value_67
    · have ex204 : x204.toInt = x31.toInt := by rw [← c32.symm.trans c205]
      refine lv_if_eq (tgt := 52) hx hb dX12_value_18 (by decide) (fun c => absurd c (by decide)) (fun _ => ?_)
      refine lv_aload_n hx hb dX12_value_21 rfl (lv_at hl 1 rfl) ?_
      refine lv_iconst (v := 0) hx hb dX12_value_22 (by decide) ?_
      refine lv_ldc (v := 99999) hx hb hC.2.2.2.1 (hC.2.2.2.2 _ (List.mem_of_getElem? (i := 2) rfl)) dX12_value_23 ?_
      refine tk_Vi hC hK hw hT hA hE hSR kM_at0 (by decide) rfl (k_X12_numberHere_9 l adK adV dC dI cy ad B (by omega) (by omega) qr s1    w21 H.size hT ) (cwV 2 hC.2.2.2.2 gX12_value_X12_numberHere rfl rfl rfl (by decide +kernel) ⟨Nat.le_of_ble_eq_true rfl, Nat.le_of_ble_eq_true rfl⟩) rfl hl.1 rfl (Nat.le_of_ble_eq_true rfl) dX12_value_25 (fun r290 w292 H locs hp291 hw => ?_)
      obtain ⟨hT, k293, hg306⟩ := hp291
      have hF := hF.tr k293 (by decide)
      have c307 := k293.gi kM_at0 (by decide) c40
      have c308 := k293.gi kM_at0 (by decide) c41
      have c309 := k293.gi kM_at3 (by decide) c42
      have c310 := k293.gi kM_at0 (by decide) c32
      rcases hg306 with ⟨rfl, ⟨x294, c295, rx294, tx294⟩, ⟨x296, c297, rx296, tx296⟩⟩ | ⟨rfl, ⟨x298, c299, rx298, tx298⟩, ⟨x300, c301, rx300, tx300⟩⟩ | ⟨rfl, ⟨x302, c303, rx302, tx302⟩, ⟨x304, c305, rx304, tx304⟩⟩
      · have ex294 : x294.toInt = x31.toInt := by rw [← c310.symm.trans c295]
        refine lv_if_eq (tgt := 39) hx hb dX12_value_28 (by decide) (fun _ => ?_) (fun c => absurd (by decide) c)
        exact J39 x33 x31 x296 f1_ H locs ls w292 (show 0 ≤ x33.toInt by omega) (show x33.toInt ≤ 399 by omega) (show 1 ≤ x31.toInt by omega) (show x31.toInt ≤ 400 by omega) (show 1 ≤ x296.toInt by omega) (show x296.toInt ≤ 3205 by omega) (show 0 ≤ f1_.toInt by omega) (show f1_.toInt ≤ 60 by omega) (show 0 ≤ f2_.toInt by omega) (show f2_.toInt ≤ 399 by omega)  hw hT hF c310 c297 c307 c308 c309 (lv_sub hl [1, 0] rfl)
      · have ex298 : x298.toInt = x31.toInt := by rw [← c310.symm.trans c299]
        refine lv_if_eq (tgt := 39) hx hb dX12_value_28 (by decide) (fun _ => ?_) (fun c => absurd (by decide) c)
        exact J39 x33 x31 x300 f1_ H locs ls w292 (show 0 ≤ x33.toInt by omega) (show x33.toInt ≤ 399 by omega) (show 1 ≤ x31.toInt by omega) (show x31.toInt ≤ 400 by omega) (show 1 ≤ x300.toInt by omega) (show x300.toInt ≤ 3205 by omega) (show 0 ≤ f1_.toInt by omega) (show f1_.toInt ≤ 60 by omega) (show 0 ≤ f2_.toInt by omega) (show f2_.toInt ≤ 399 by omega)  hw hT hF c310 c301 c307 c308 c309 (lv_sub hl [1, 0] rfl)
      · have ex302 : x302.toInt = x31.toInt := by rw [← c310.symm.trans c303]
        refine lv_if_eq (tgt := 39) hx hb dX12_value_28 (by decide) (fun c => absurd c (by decide)) (fun _ => ?_)
        refine lv_aload_n hx hb dX12_value_31 rfl (lv_at hl 1 rfl) ?_
        refine lv_iload_n hx hb dX12_value_32 rfl (lv_at hl 0 rfl) ?_
        refine tk_Vi hC hK hw hT hA hE hSR kM_at0 (by decide) rfl (k_X12_makes_4 l adK adV dC dI cy ad B (by omega) (by omega) qr s1   x33 (show 1 ≤ x33.toInt by omega) (show x33.toInt ≤ 399 by omega) w292 H.size hT f1_ c308 (show 0 ≤ f1_.toInt by omega) (show f1_.toInt ≤ 60 by omega)) (cwV 1 hC.2.2.2.2 gX12_value_X12_makes rfl rfl rfl (by decide +kernel) ⟨Nat.le_of_ble_eq_true rfl, Nat.le_of_ble_eq_true rfl⟩) rfl hl.1 rfl (Nat.le_of_ble_eq_true rfl) dX12_value_33 (fun r311 w313 H locs hp312 hw => ?_)
        obtain ⟨hT, k314, hg322⟩ := hp312
        have hF := hF.tr k314 (by decide)
        have c323 := k314.gi kM_at0 (by decide) c307
        have c324 := k314.gi kM_at3 (by decide) c309
        have c325 := k314.gi kM_at0 (by decide) c310
        have c326 := k314.gi kM_at0 (by decide) c305
        rcases hg322 with ⟨rfl, ⟨x315, c316, rx315, tx315⟩, ⟨x317, c318, rx317, tx317⟩⟩ | ⟨rfl, ⟨x319, c320, rx319, tx319⟩, g321⟩
        · refine lv_if_ne (tgt := 41) hx hb dX12_value_36 (by decide) (fun c => absurd (by decide) c) (fun _ => ?_)
          exact J39 x33 x31 x315 x317 H locs ls w313 (show 0 ≤ x33.toInt by omega) (show x33.toInt ≤ 399 by omega) (show 1 ≤ x31.toInt by omega) (show x31.toInt ≤ 400 by omega) (show 1 ≤ x315.toInt by omega) (show x315.toInt ≤ 3205 by omega) (show 0 ≤ x317.toInt by omega) (show x317.toInt ≤ 60 by omega) (show 0 ≤ f2_.toInt by omega) (show f2_.toInt ≤ 399 by omega)  hw hT hF c325 c316 c323 c318 c324 (lv_sub hl [1, 0] rfl)
        · have g321 : x319.toInt = f1_.toInt + 1 := by have q := g321; simp only [c308, c320] at q; omega
          refine lv_if_ne (tgt := 41) hx hb dX12_value_36 (by decide) (fun _ => ?_) (fun c => absurd c (by decide))
          refine lv_aload_n hx hb dX12_value_41 rfl (lv_at hl 1 rfl) ?_
          refine lv_iconst (v := 0) hx hb dX12_value_42 (by decide) ?_
          refine lv_aload_n hx hb dX12_value_43 rfl (lv_at hl 1 rfl) ?_
          refine tk_geti hC hK hw hT hinX12 kM_at0 (by decide) rfl 16 (by decide) (List.mem_of_getElem? (i := 3) rfl) rfl rfl dX12_value_44 (fun x327 c328 rx327 tx327 => ?_)
          refine wk_top x304 (c328.symm.trans c326) ?_
          refine tk_Vv hC hK hw hT hA hE hSR kM_at0 (by decide) rfl (k_X12_puts_3 l adK adV dC dI cy ad B (by omega) (by omega) qr s1   0 (by decide) (by decide) x304 w313 H.size hT c323 f2_ c324 (show 0 ≤ f2_.toInt by omega) (show f2_.toInt ≤ 400 by omega) (show f2_.toInt ≤ 399 by omega)) (cwV 2 hC.2.2.2.2 gX12_value_X12_puts rfl rfl rfl (by decide +kernel) ⟨Nat.le_of_ble_eq_true rfl, Nat.le_of_ble_eq_true rfl⟩) rfl hl.1 rfl (Nat.le_of_ble_eq_true rfl) dX12_value_47 (fun w331 H locs hp330 hw => ?_)
          obtain ⟨hT, k332, hg336⟩ := hp330
          have hF := hF.tr k332 (by decide)
          have c337 := k332.gi kM_at0 (by decide) c323
          have c338 := k332.gi kM_at0 (by decide) c325
          have c339 := k332.gi kM_at0 (by decide) c326
          have c340 := k332.gi kM_at0 (by decide) c320
          obtain ⟨⟨x333, c334, rx333, tx333⟩, g335⟩ := hg336
          have ex333 : x333.toInt = (2 : Int) := by rw [show x333 = 2 from c334.symm.trans c337]; decide
          obtain ⟨x341, c342, rx341, tx341⟩ := hT.rda (lo := 0) (hi := 400) (i := 2) kM_at3 rfl rfl (by decide)
          have g335 : x341.toInt = f2_.toInt + 1 := by have q := g335; simp only [c324, c342] at q; omega
          refine lv_iconst (v := 1) hx hb dX12_value_50 (by decide) ?_
          exact tk_zret hC hr rfl hlocks hK ⟨hT, hF, (Or.inr (Or.inr (Or.inl ⟨rfl, ⟨x31, c338, (show 1 ≤ x31.toInt by omega), (show x31.toInt ≤ 400 by omega)⟩, ⟨2, c337, (by decide), (by decide)⟩, ⟨x319, c340, (show 1 ≤ x319.toInt by omega), (show x319.toInt ≤ 60 by omega)⟩, (by simp only [cf2_, c342]; omega), (by simp only [cf1_, c340]; omega)⟩)))⟩ hw dX12_value_51
  · obtain ⟨x43, c44, rx43, tx43⟩ := hT.rdi (lo := 0) (hi := 400) (k := 14) kM_at0 (by decide) rfl
    have g38 : (x43.toInt = x17.toInt ∨ (gi w0 1 (x17.toInt).toNat).toInt = 32) := by have q := g38; simp only [c18, c44] at q; omega
    refine lv_pop hx hb dX12_value_4 rfl ?_
    refine lv_aload_n hx hb dX12_value_5 rfl (lv_at hl 0 rfl) ?_
    refine tk_geti hC hK hw hT hinX12 kM_at0 (by decide) rfl 14 (by decide) (List.mem_of_getElem? (i := 1) rfl) rfl rfl dX12_value_6 (fun x343 c344 rx343 tx343 => ?_)
    refine wk_top x43 (c344.symm.trans c44) ?_
    refine lv_istore_n (lv' := [(1, .int x43), (0, .ref (ad 0))]) hx hb dX12_value_9 rfl hl (by decide) rfl (fun ls hl => ?_)
    refine lv_aload_n hx hb dX12_value_10 rfl (lv_at hl 1 rfl) ?_
    refine lv_aload_n hx hb dX12_value_11 rfl (lv_at hl 1 rfl) ?_
    refine tk_geti hC hK hw hT hinX12 kM_at0 (by decide) rfl 14 (by decide) (List.mem_of_getElem? (i := 1) rfl) rfl rfl dX12_value_12 (fun x345 c346 rx345 tx345 => ?_)
    refine wk_top x43 (c346.symm.trans c44) ?_
    refine tk_Vi hC hK hw hT hA hE hSR kM_at0 (by decide) rfl (k_X12_isDigit_2 l adK adV dC dI cy ad B (by omega) (by omega) qr s1   x43 (show 0 ≤ x43.toInt by omega) (show x43.toInt ≤ 400 by omega) w21 H.size hT ) (cwV 1 hC.2.2.2.2 gX12_value_X12_isDigit rfl rfl rfl (by decide +kernel) ⟨Nat.le_of_ble_eq_true rfl, Nat.le_of_ble_eq_true rfl⟩) rfl hl.1 rfl (Nat.le_of_ble_eq_true rfl) dX12_value_15 (fun r347 w349 H locs hp348 hw => ?_)
    obtain ⟨rfl, hg356⟩ := hp348
    rcases hg356 with ⟨rfl, ⟨x351, c352, rx351, tx351⟩⟩ | ⟨rfl, g353, ⟨x354, c355, rx354, tx354⟩⟩
    · have ex351 : x351.toInt = x36.toInt := by rw [← c37.symm.trans c352]
      refine lv_if_eq (tgt := 52) hx hb dX12_value_18 (by decide) (fun _ => ?_) (fun c => absurd (by decide) c)
      refine lv_aload_n hx hb dX12_value_52 rfl (lv_at hl 1 rfl) ?_
      refine tk_Vi hC hK hw hT hA hE hSR kM_at0 (by decide) rfl (k_X12_wordHere_1 l adK adV dC dI cy ad B (by omega) (by omega) qr s1    w21 H.size hT ) (cwV 0 hC.2.2.2.2 gX12_value_X12_wordHere rfl rfl rfl (by decide +kernel) ⟨Nat.le_of_ble_eq_true rfl, Nat.le_of_ble_eq_true rfl⟩) rfl hl.1 rfl (Nat.le_of_ble_eq_true rfl) dX12_value_53 (fun r357 w359 H locs hp358 hw => ?_)
      obtain ⟨hT, k360, hg367⟩ := hp358
      have hF := hF.tr k360 (by decide)
      have c368 := k360.gi kM_at0 (by decide) c40
      have c369 := k360.gi kM_at0 (by decide) c41
      have c370 := k360.gi kM_at3 (by decide) c42
      have c371 := k360.gi kM_at0 (by decide) c37
      rcases hg367 with ⟨g361, g362, ⟨x363, c364, rx363, tx363⟩⟩ | ⟨rfl, ⟨x365, c366, rx365, tx365⟩⟩
      · have ex363 : x363.toInt = x36.toInt := by rw [← c371.symm.trans c364]
        refine lv_istore_n (lv' := [(2, .int r357), (1, .int x43), (0, .ref (ad 0))]) hx hb dX12_value_56 rfl hl (by decide) rfl (fun ls hl => ?_)
        refine lv_iload_n hx hb dX12_value_57 rfl (lv_at hl 0 rfl) ?_
        refine lv_if_ge (tgt := 68) hx hb dX12_value_58 (by decide) (fun _ => ?_) (fun c => (c (wk_le.mpr (show (0 : Int) ≤ r357.toInt by omega))).elim)
        refine lv_aload_n hx hb dX12_value_68 rfl (lv_at hl 2 rfl) ?_
        refine lv_iload_n hx hb dX12_value_69 rfl (lv_at hl 1 rfl) ?_
        refine tk_Vi hC hK hw hT hA hE hSR kM_at0 (by decide) rfl (k_X12_makes_3 l adK adV dC dI cy ad B (by omega) (by omega) qr s1   x43 (show 0 ≤ x43.toInt by omega) (show x43.toInt ≤ 400 by omega) w359 H.size hT f1_ c369 (show 0 ≤ f1_.toInt by omega) (show f1_.toInt ≤ 60 by omega)) (cwV 1 hC.2.2.2.2 gX12_value_X12_makes rfl rfl rfl (by decide +kernel) ⟨Nat.le_of_ble_eq_true rfl, Nat.le_of_ble_eq_true rfl⟩) rfl hl.1 rfl (Nat.le_of_ble_eq_true rfl) dX12_value_70 (fun r372 w374 H locs hp373 hw => ?_)
        obtain ⟨hT, k375, hg383⟩ := hp373
        have hF := hF.tr k375 (by decide)
        have c384 := k375.gi kM_at0 (by decide) c368
        have c385 := k375.gi kM_at3 (by decide) c370
        have c386 := k375.gi kM_at0 (by decide) c371
        rcases hg383 with ⟨rfl, ⟨x376, c377, rx376, tx376⟩, ⟨x378, c379, rx378, tx378⟩⟩ | ⟨rfl, ⟨x380, c381, rx380, tx380⟩, g382⟩
        · refine lv_if_ne (tgt := 78) hx hb dX12_value_73 (by decide) (fun c => absurd (by decide) c) (fun _ => ?_)
          refine lv_iconst (v := 0) hx hb dX12_value_76 (by decide) ?_
          exact tk_zret hC hr rfl hlocks hK ⟨hT, hF, (Or.inr (Or.inl ⟨rfl, ⟨x36, c386, (show 0 ≤ x36.toInt by omega), (show x36.toInt ≤ 400 by omega)⟩, ⟨x376, c377, (show 1 ≤ x376.toInt by omega), (show x376.toInt ≤ 3205 by omega)⟩, ⟨2, c384, (by decide), (by decide)⟩⟩))⟩ hw dX12_value_77
        · have g382 : x380.toInt = f1_.toInt + 1 := by have q := g382; simp only [c369, c381] at q; omega
          refine lv_if_ne (tgt := 78) hx hb dX12_value_73 (by decide) (fun _ => ?_) (fun c => absurd c (by decide))
          refine lv_aload_n hx hb dX12_value_78 rfl (lv_at hl 2 rfl) ?_
          refine tk_Vv hC hK hw hT hA hE hSR kM_at0 (by decide) rfl (k_X12_passWord_1 l adK adV dC dI cy ad B (by omega) (by omega) qr s1    w374 H.size hT ) (cwV 0 hC.2.2.2.2 gX12_value_X12_passWord rfl rfl rfl (by decide +kernel) ⟨Nat.le_of_ble_eq_true rfl, Nat.le_of_ble_eq_true rfl⟩) rfl hl.1 rfl (Nat.le_of_ble_eq_true rfl) dX12_value_79 (fun w389 H locs hp388 hw => ?_)
          obtain ⟨hT, k390, hg397⟩ := hp388
          have hF := hF.tr k390 (by decide)
          have c398 := k390.gi kM_at0 (by decide) c384
          have c399 := k390.gi kM_at3 (by decide) c385
          have c400 := k390.gi kM_at0 (by decide) c386
          have c401 := k390.gi kM_at0 (by decide) c381
          rcases hg397 with ⟨⟨x391, c392, rx391, tx391⟩, ⟨x393, c394, rx393, tx393⟩⟩ | ⟨x395, c396, rx395, tx395⟩
          · have ex391 : x391.toInt = x36.toInt := by rw [← c400.symm.trans c392]
            refine lv_aload_n hx hb dX12_value_82 rfl (lv_at hl 2 rfl) ?_
            refine lv_iconst (v := 1) hx hb dX12_value_83 (by decide) ?_
            refine lv_iload_n hx hb dX12_value_84 rfl (lv_at hl 0 rfl) ?_
            refine tk_Vv hC hK hw hT hA hE hSR kM_at0 (by decide) rfl (k_X12_puts_3 l adK adV dC dI cy ad B (by omega) (by omega) qr s1   1 (by decide) (by decide) r357 w389 H.size hT c398 f2_ c399 (show 0 ≤ f2_.toInt by omega) (show f2_.toInt ≤ 400 by omega) (show f2_.toInt ≤ 399 by omega)) (cwV 2 hC.2.2.2.2 gX12_value_X12_puts rfl rfl rfl (by decide +kernel) ⟨Nat.le_of_ble_eq_true rfl, Nat.le_of_ble_eq_true rfl⟩) rfl hl.1 rfl (Nat.le_of_ble_eq_true rfl) dX12_value_85 (fun w404 H locs hp403 hw => ?_)
            obtain ⟨hT, k405, hg409⟩ := hp403
            have hF := hF.tr k405 (by decide)
            have c410 := k405.gi kM_at0 (by decide) c398
            have c411 := k405.gi kM_at0 (by decide) c400
            have c412 := k405.gi kM_at0 (by decide) c401
            have c413 := k405.gi kM_at0 (by decide) c394
            obtain ⟨⟨x406, c407, rx406, tx406⟩, g408⟩ := hg409
            have ex406 : x406.toInt = (2 : Int) := by rw [show x406 = 2 from c407.symm.trans c410]; decide
            obtain ⟨x414, c415, rx414, tx414⟩ := hT.rda (lo := 0) (hi := 400) (i := 2) kM_at3 rfl rfl (by decide)
            have g408 : x414.toInt = f2_.toInt + 1 := by have q := g408; simp only [c399, c415] at q; omega
            refine lv_iconst (v := 1) hx hb dX12_value_88 (by decide) ?_
            exact tk_zret hC hr rfl hlocks hK ⟨hT, hF, (Or.inr (Or.inr (Or.inl ⟨rfl, ⟨x36, c411, (show 1 ≤ x36.toInt by omega), (show x36.toInt ≤ 400 by omega)⟩, ⟨2, c410, (by decide), (by decide)⟩, ⟨x380, c412, (show 1 ≤ x380.toInt by omega), (show x380.toInt ≤ 60 by omega)⟩, (by simp only [cf2_, c415]; omega), (by simp only [cf1_, c412]; omega)⟩)))⟩ hw dX12_value_89
          · have ex395 : x395.toInt = x36.toInt := by rw [← c400.symm.trans c396]
            refine lv_aload_n hx hb dX12_value_82 rfl (lv_at hl 2 rfl) ?_
            refine lv_iconst (v := 1) hx hb dX12_value_83 (by decide) ?_
            refine lv_iload_n hx hb dX12_value_84 rfl (lv_at hl 0 rfl) ?_
            refine tk_Vv hC hK hw hT hA hE hSR kM_at0 (by decide) rfl (k_X12_puts_3 l adK adV dC dI cy ad B (by omega) (by omega) qr s1   1 (by decide) (by decide) r357 w389 H.size hT c398 f2_ c399 (show 0 ≤ f2_.toInt by omega) (show f2_.toInt ≤ 400 by omega) (show f2_.toInt ≤ 399 by omega)) (cwV 2 hC.2.2.2.2 gX12_value_X12_puts rfl rfl rfl (by decide +kernel) ⟨Nat.le_of_ble_eq_true rfl, Nat.le_of_ble_eq_true rfl⟩) rfl hl.1 rfl (Nat.le_of_ble_eq_true rfl) dX12_value_85 (fun w418 H locs hp417 hw => ?_)
            obtain ⟨hT, k419, hg423⟩ := hp417
            have hF := hF.tr k419 (by decide)
            have c424 := k419.gi kM_at0 (by decide) c398
            have c425 := k419.gi kM_at0 (by decide) c400
            have c426 := k419.gi kM_at0 (by decide) c401
            obtain ⟨⟨x420, c421, rx420, tx420⟩, g422⟩ := hg423
            have ex420 : x420.toInt = (2 : Int) := by rw [show x420 = 2 from c421.symm.trans c424]; decide
            obtain ⟨x427, c428, rx427, tx427⟩ := hT.rda (lo := 0) (hi := 400) (i := 2) kM_at3 rfl rfl (by decide)
            have g422 : x427.toInt = f2_.toInt + 1 := by have q := g422; simp only [c399, c428] at q; omega
            refine lv_iconst (v := 1) hx hb dX12_value_88 (by decide) ?_
            exact tk_zret hC hr rfl hlocks hK ⟨hT, hF, (Or.inr (Or.inr (Or.inr ⟨rfl, ⟨x36, c425, (show 0 ≤ x36.toInt by omega), (show x36.toInt ≤ 400 by omega)⟩, ⟨2, c424, (by decide), (by decide)⟩, ⟨x380, c426, (show 1 ≤ x380.toInt by omega), (show x380.toInt ≤ 60 by omega)⟩, (by simp only [cf2_, c428]; omega), (by simp only [cf1_, c426]; omega)⟩)))⟩ hw dX12_value_89
      · have ex365 : x365.toInt = x36.toInt := by rw [← c371.symm.trans c366]
        refine lv_istore_n (lv' := [(2, .int (-1)), (1, .int x43), (0, .ref (ad 0))]) hx hb dX12_value_56 rfl hl (by decide) rfl (fun ls hl => ?_)
        refine lv_iload_n hx hb dX12_value_57 rfl (lv_at hl 0 rfl) ?_
        refine lv_if_ge (tgt := 68) hx hb dX12_value_58 (by decide) (fun c => absurd c (by decide)) (fun _ => ?_)
        refine lv_aload_n hx hb dX12_value_61 rfl (lv_at hl 2 rfl) ?_
        refine lv_iconst (v := 0) hx hb dX12_value_62 (by decide) ?_
        refine lv_iload_n hx hb dX12_value_63 rfl (lv_at hl 1 rfl) ?_
        refine tk_Vi hC hK hw hT hA hE hSR kM_at0 (by decide) rfl (k_X12_fails_1 l adK adV dC dI cy ad B (by omega) (by omega) qr s1   0 (by decide) (by decide) x43 (show 0 ≤ x43.toInt by omega) (show x43.toInt ≤ 400 by omega) w359 H.size hT ) (cwV 2 hC.2.2.2.2 gX12_value_X12_fails rfl rfl rfl (by decide +kernel) ⟨Nat.le_of_ble_eq_true rfl, Nat.le_of_ble_eq_true rfl⟩) rfl hl.1 rfl (Nat.le_of_ble_eq_true rfl) dX12_value_64 (fun r429 w431 H locs hp430 hw => ?_)
        obtain ⟨hT, k432, hg435⟩ := hp430
        have hF := hF.tr k432 (by decide)
        have c436 := k432.gi kM_at0 (by decide) c368
        have c437 := k432.gi kM_at0 (by decide) c369
        have c438 := k432.gi kM_at3 (by decide) c370
        have c439 := k432.gi kM_at0 (by decide) c371
        obtain ⟨rfl, ⟨x433, c434, rx433, tx433⟩⟩ := hg435
        exact tk_zret hC hr rfl hlocks hK ⟨hT, hF, (Or.inr (Or.inl ⟨rfl, ⟨x36, c439, (show 0 ≤ x36.toInt by omega), (show x36.toInt ≤ 400 by omega)⟩, ⟨x433, c434, (show 1 ≤ x433.toInt by omega), (show x433.toInt ≤ 3205 by omega)⟩, ⟨2, c436, (by decide), (by decide)⟩⟩))⟩ hw dX12_value_67
    · have ex354 : x354.toInt = x36.toInt := by rw [← c37.symm.trans c355]
      refine lv_if_eq (tgt := 52) hx hb dX12_value_18 (by decide) (fun c => absurd c (by decide)) (fun _ => ?_)
      refine lv_aload_n hx hb dX12_value_21 rfl (lv_at hl 1 rfl) ?_
      refine lv_iconst (v := 0) hx hb dX12_value_22 (by decide) ?_
      refine lv_ldc (v := 99999) hx hb hC.2.2.2.1 (hC.2.2.2.2 _ (List.mem_of_getElem? (i := 2) rfl)) dX12_value_23 ?_
      refine tk_Vi hC hK hw hT hA hE hSR kM_at0 (by decide) rfl (k_X12_numberHere_9 l adK adV dC dI cy ad B (by omega) (by omega) qr s1    w21 H.size hT ) (cwV 2 hC.2.2.2.2 gX12_value_X12_numberHere rfl rfl rfl (by decide +kernel) ⟨Nat.le_of_ble_eq_true rfl, Nat.le_of_ble_eq_true rfl⟩) rfl hl.1 rfl (Nat.le_of_ble_eq_true rfl) dX12_value_25 (fun r440 w442 H locs hp441 hw => ?_)
      obtain ⟨hT, k443, hg456⟩ := hp441
      have hF := hF.tr k443 (by decide)
      have c457 := k443.gi kM_at0 (by decide) c40
      have c458 := k443.gi kM_at0 (by decide) c41
      have c459 := k443.gi kM_at3 (by decide) c42
      have c460 := k443.gi kM_at0 (by decide) c37
      rcases hg456 with ⟨rfl, ⟨x444, c445, rx444, tx444⟩, ⟨x446, c447, rx446, tx446⟩⟩ | ⟨rfl, ⟨x448, c449, rx448, tx448⟩, ⟨x450, c451, rx450, tx450⟩⟩ | ⟨rfl, ⟨x452, c453, rx452, tx452⟩, ⟨x454, c455, rx454, tx454⟩⟩
      · have ex444 : x444.toInt = x36.toInt := by rw [← c460.symm.trans c445]
        refine lv_if_eq (tgt := 39) hx hb dX12_value_28 (by decide) (fun _ => ?_) (fun c => absurd (by decide) c)
        exact J39 x43 x36 x446 f1_ H locs ls w442 (show 0 ≤ x43.toInt by omega) (show x43.toInt ≤ 399 by omega) (show 1 ≤ x36.toInt by omega) (show x36.toInt ≤ 400 by omega) (show 1 ≤ x446.toInt by omega) (show x446.toInt ≤ 3205 by omega) (show 0 ≤ f1_.toInt by omega) (show f1_.toInt ≤ 60 by omega) (show 0 ≤ f2_.toInt by omega) (show f2_.toInt ≤ 399 by omega)  hw hT hF c460 c447 c457 c458 c459 (lv_sub hl [1, 0] rfl)
      · have ex448 : x448.toInt = x36.toInt := by rw [← c460.symm.trans c449]
        refine lv_if_eq (tgt := 39) hx hb dX12_value_28 (by decide) (fun _ => ?_) (fun c => absurd (by decide) c)
        exact J39 x43 x36 x450 f1_ H locs ls w442 (show 0 ≤ x43.toInt by omega) (show x43.toInt ≤ 399 by omega) (show 1 ≤ x36.toInt by omega) (show x36.toInt ≤ 400 by omega) (show 1 ≤ x450.toInt by omega) (show x450.toInt ≤ 3205 by omega) (show 0 ≤ f1_.toInt by omega) (show f1_.toInt ≤ 60 by omega) (show 0 ≤ f2_.toInt by omega) (show f2_.toInt ≤ 399 by omega)  hw hT hF c460 c451 c457 c458 c459 (lv_sub hl [1, 0] rfl)
      · have ex452 : x452.toInt = x36.toInt := by rw [← c460.symm.trans c453]
        refine lv_if_eq (tgt := 39) hx hb dX12_value_28 (by decide) (fun c => absurd c (by decide)) (fun _ => ?_)
        refine lv_aload_n hx hb dX12_value_31 rfl (lv_at hl 1 rfl) ?_
        refine lv_iload_n hx hb dX12_value_32 rfl (lv_at hl 0 rfl) ?_
        refine tk_Vi hC hK hw hT hA hE hSR kM_at0 (by decide) rfl (k_X12_makes_2 l adK adV dC dI cy ad B (by omega) (by omega) qr s1   x43 (show 0 ≤ x43.toInt by omega) (show x43.toInt ≤ 399 by omega) w442 H.size hT f1_ c458 (show 0 ≤ f1_.toInt by omega) (show f1_.toInt ≤ 60 by omega)) (cwV 1 hC.2.2.2.2 gX12_value_X12_makes rfl rfl rfl (by decide +kernel) ⟨Nat.le_of_ble_eq_true rfl, Nat.le_of_ble_eq_true rfl⟩) rfl hl.1 rfl (Nat.le_of_ble_eq_true rfl) dX12_value_33 (fun r461 w463 H locs hp462 hw => ?_)
        obtain ⟨hT, k464, hg472⟩ := hp462
        have hF := hF.tr k464 (by decide)
        have c473 := k464.gi kM_at0 (by decide) c457
        have c474 := k464.gi kM_at3 (by decide) c459
        have c475 := k464.gi kM_at0 (by decide) c460
        have c476 := k464.gi kM_at0 (by decide) c455
        rcases hg472 with ⟨rfl, ⟨x465, c466, rx465, tx465⟩, ⟨x467, c468, rx467, tx467⟩⟩ | ⟨rfl, ⟨x469, c470, rx469, tx469⟩, g471⟩
        · refine lv_if_ne (tgt := 41) hx hb dX12_value_36 (by decide) (fun c => absurd (by decide) c) (fun _ => ?_)
          exact J39 x43 x36 x465 x467 H locs ls w463 (show 0 ≤ x43.toInt by omega) (show x43.toInt ≤ 399 by omega) (show 1 ≤ x36.toInt by omega) (show x36.toInt ≤ 400 by omega) (show 1 ≤ x465.toInt by omega) (show x465.toInt ≤ 3205 by omega) (show 0 ≤ x467.toInt by omega) (show x467.toInt ≤ 60 by omega) (show 0 ≤ f2_.toInt by omega) (show f2_.toInt ≤ 399 by omega)  hw hT hF c475 c466 c473 c468 c474 (lv_sub hl [1, 0] rfl)
        · have g471 : x469.toInt = f1_.toInt + 1 := by have q := g471; simp only [c458, c470] at q; omega
          refine lv_if_ne (tgt := 41) hx hb dX12_value_36 (by decide) (fun _ => ?_) (fun c => absurd c (by decide))
          refine lv_aload_n hx hb dX12_value_41 rfl (lv_at hl 1 rfl) ?_
          refine lv_iconst (v := 0) hx hb dX12_value_42 (by decide) ?_
          refine lv_aload_n hx hb dX12_value_43 rfl (lv_at hl 1 rfl) ?_
          refine tk_geti hC hK hw hT hinX12 kM_at0 (by decide) rfl 16 (by decide) (List.mem_of_getElem? (i := 3) rfl) rfl rfl dX12_value_44 (fun x477 c478 rx477 tx477 => ?_)
          refine wk_top x454 (c478.symm.trans c476) ?_
          refine tk_Vv hC hK hw hT hA hE hSR kM_at0 (by decide) rfl (k_X12_puts_3 l adK adV dC dI cy ad B (by omega) (by omega) qr s1   0 (by decide) (by decide) x454 w463 H.size hT c473 f2_ c474 (show 0 ≤ f2_.toInt by omega) (show f2_.toInt ≤ 400 by omega) (show f2_.toInt ≤ 399 by omega)) (cwV 2 hC.2.2.2.2 gX12_value_X12_puts rfl rfl rfl (by decide +kernel) ⟨Nat.le_of_ble_eq_true rfl, Nat.le_of_ble_eq_true rfl⟩) rfl hl.1 rfl (Nat.le_of_ble_eq_true rfl) dX12_value_47 (fun w481 H locs hp480 hw => ?_)
          obtain ⟨hT, k482, hg486⟩ := hp480
          have hF := hF.tr k482 (by decide)
          have c487 := k482.gi kM_at0 (by decide) c473
          have c488 := k482.gi kM_at0 (by decide) c475
          have c489 := k482.gi kM_at0 (by decide) c476
          have c490 := k482.gi kM_at0 (by decide) c470
          obtain ⟨⟨x483, c484, rx483, tx483⟩, g485⟩ := hg486
          have ex483 : x483.toInt = (2 : Int) := by rw [show x483 = 2 from c484.symm.trans c487]; decide
          obtain ⟨x491, c492, rx491, tx491⟩ := hT.rda (lo := 0) (hi := 400) (i := 2) kM_at3 rfl rfl (by decide)
          have g485 : x491.toInt = f2_.toInt + 1 := by have q := g485; simp only [c474, c492] at q; omega
          refine lv_iconst (v := 1) hx hb dX12_value_50 (by decide) ?_
          exact tk_zret hC hr rfl hlocks hK ⟨hT, hF, (Or.inr (Or.inr (Or.inl ⟨rfl, ⟨x36, c488, (show 1 ≤ x36.toInt by omega), (show x36.toInt ≤ 400 by omega)⟩, ⟨2, c487, (by decide), (by decide)⟩, ⟨x469, c490, (show 1 ≤ x469.toInt by omega), (show x469.toInt ≤ 60 by omega)⟩, (by simp only [cf2_, c492]; omega), (by simp only [cf1_, c490]; omega)⟩)))⟩ hw dX12_value_51
abbrev P_X12_term_3 (ad : Nat → Nat) (cy : Nat → ClassId) (B : Int) (qr : Nat) (s1 : Int)  (w0 : va_W) : Int32 → va_W → Prop := fun r u => TW ksM ad cy B qr 12 u ∧ FE ksM [(12, 14, 14), (12, 15, 15), (12, 16, 16), (12, 18, 18), (61, 0, 2400), (62, 0, 7)] w0 u ∧ ((r = 0 ∧ (∃ y : Int32, gi u 0 1 = y ∧ 1 ≤ y.toInt ∧ y.toInt ≤ 400) ∧ (∃ y : Int32, gi u 0 15 = y ∧ 1 ≤ y.toInt ∧ y.toInt ≤ 3205) ∧ (∃ y : Int32, gi u 0 17 = y ∧ 2 ≤ y.toInt ∧ y.toInt ≤ 2)) ∨ (r = 0 ∧ (∃ y : Int32, gi u 0 1 = y ∧ 0 ≤ y.toInt ∧ y.toInt ≤ 400) ∧ (∃ y : Int32, gi u 0 15 = y ∧ 1 ≤ y.toInt ∧ y.toInt ≤ 3205) ∧ (∃ y : Int32, gi u 0 17 = y ∧ 2 ≤ y.toInt ∧ y.toInt ≤ 2)) ∨ (r = 1 ∧ (∃ y : Int32, gi u 0 1 = y ∧ 1 ≤ y.toInt ∧ y.toInt ≤ 400) ∧ (∃ y : Int32, gi u 0 17 = y ∧ 2 ≤ y.toInt ∧ y.toInt ≤ 2) ∧ (∃ y : Int32, gi u 0 18 = y ∧ 1 ≤ y.toInt ∧ y.toInt ≤ 60) ∧ (3 * (gi u 3 2).toInt + 11 ≤ 3 * (gi w0 3 2).toInt + 14 * ((gi u 0 18).toInt - (gi w0 0 18).toInt)) ∧ ((gi w0 0 18).toInt + 1 ≤ (gi u 0 18).toInt)) ∨ (r = 1 ∧ (∃ y : Int32, gi u 0 1 = y ∧ 0 ≤ y.toInt ∧ y.toInt ≤ 400) ∧ (∃ y : Int32, gi u 0 17 = y ∧ 2 ≤ y.toInt ∧ y.toInt ≤ 2) ∧ (∃ y : Int32, gi u 0 18 = y ∧ 1 ≤ y.toInt ∧ y.toInt ≤ 60) ∧ (3 * (gi u 3 2).toInt + 11 ≤ 3 * (gi w0 3 2).toInt + 14 * ((gi u 0 18).toInt - (gi w0 0 18).toInt)) ∧ ((gi w0 0 18).toInt + 1 ≤ (gi u 0 18).toInt)))
set_option maxHeartbeats 4000000 in
set_option maxRecDepth 100000 in
theorem k_X12_term_3 (l : Launch) (adK adV : Nat → Nat) (dC : Nat → ClassId) (dI : Nat → Nat → Nat) (cy : Nat → ClassId) (ad : Nat → Nat) (B : Int) (hB0 : 100000 ≤ B) (hB1 : B ≤ 1073741824) (qr : Nat) (s1 : Int)   (w0 : va_W) (sz : Nat) (hT : TW ksM ad cy B qr 12 w0) (cf0_ : gi w0 0 17 = 2) (f1_ : Int32) (cf1_ : gi w0 0 18 = f1_) (rf1_ : 0 ≤ f1_.toInt) (tf1_ : f1_.toInt ≤ 60) (f2_ : Int32) (cf2_ : gi w0 3 2 = f2_) (rf2_ : 0 ≤ f2_.toInt) (tf2_ : f2_.toInt ≤ 400) (pr0_ : 3 * f2_.toInt ≤ 14 * f1_.toInt + 60) (pr1_ : f2_.toInt ≤ 300) : Met l yX12_term wsX12_term ({ frames := 5, cells := 0, slots := 0, locals := 100 }) (va_Pc [.ref (ad 0)] (wpreS adK adV dC dI cy sz w0)) (va_Qi (P_X12_term_3 ad cy B qr s1  w0) (fun u : va_W => wpost dC dI cy (va_A w0 sz) u) (va_A w0 sz)) 0 0 (va_A w0 sz) := by
  refine Met.ofW (cc := cX12_term) (maxL := 2) (ret := (some .boolean)) (by decide) rfl ?_
  intro p e s m args below meth c s₁ Bk hml hv
  obtain ⟨rfl, ⟨hsz, hP, hK, hD0⟩, hE, hSR⟩ := hv
  have hx := Bk.exec
  have hb := Bk.bytes
  have hr := Bk.returns
  have hlocks := Bk.notSynchronized
  have hC : CallFix p m c cX12_term 2 s _ wsX12_term RX12 := ⟨hx, hb, hml, findClass_of_methodNamed Bk.named, atoms_spec (ws := wsX12_term) Bk.pre⟩
  subst hsz
  have hD := hD0.self (sz := s.heap.size)
  generalize hAe : va_A w0 s.heap.size = A at hD hE ⊢
  have hA : ∀ q : Nat, s.heap.size ≤ q → A q := fun q h => by rw [← hAe]; exact Or.inr h
  have hw : Wd dC dI A s.heap s.heap [] w0 := ⟨hP, hD, va_S.rf⟩
  have hF : FE ksM [(12, 14, 14), (12, 15, 15), (12, 16, 16), (12, 18, 18), (61, 0, 2400), (62, 0, 7)] w0 w0 := FE.rf
  have hl := lv_entry ([.ref (ad 0)]) (n := 2) (Nat.le_of_ble_eq_true rfl)
  rw [lg_entry_eq]
  generalize (lg_sl ([.ref (ad 0)]) ++ List.replicate (2 - (lg_sl ([.ref (ad 0)])).length) Slot.unset).toArray = ls at hl ⊢
  have hl : lv_has ls 2 [(0, .ref (ad 0))] := hl
  generalize hloc : ([] : List Loc) = locs at hw ⊢
  have hinX12 : ∀ w ∈ u_ws RX12 TX12 42, w ∈ wsX12_term := fun _ h => List.mem_cons_of_mem _ (List.mem_append_right _ (h))
  have L9 : ∀ (n9 : Nat) (f9_0_1 : Int32) (f9_0_18 : Int32) (f9_3_2 : Int32) (H : Heap) (locs : List Loc) (ls : Array Slot) (w1 : va_W), 0 ≤ f9_0_1.toInt → f9_0_1.toInt ≤ 400 → 1 ≤ f9_0_18.toInt → f9_0_18.toInt ≤ 60 → 0 ≤ f9_3_2.toInt → f9_3_2.toInt ≤ 300 → (3 * f9_3_2.toInt + 11 ≤ 3 * f2_.toInt + 14 * (f9_0_18.toInt - f1_.toInt)) → (f1_.toInt + 1 ≤ f9_0_18.toInt) → (f9_3_2.toInt ≤ 300) → (60 - f9_0_18.toInt).toNat < n9 → Wd dC dI A s.heap H locs w1 → TW ksM ad cy B qr 12 w1 → FE ksM [(12, 14, 14), (12, 15, 15), (12, 16, 16), (12, 18, 18), (61, 0, 2400), (62, 0, 7)] w0 w1 → gi w1 0 1 = f9_0_1 → gi w1 0 17 = 2 → gi w1 0 18 = f9_0_18 → gi w1 3 2 = f9_3_2 → lv_has ls 2 [(0, .ref (ad 0))] → W p l e ({ frames := 5, cells := 0, slots := 0, locals := 100 }) s m (List.toArray [.ref (ad 0)]) below meth c H locs 0 0 (MQ below (va_Qi (P_X12_term_3 ad cy B qr s1  w0) (fun u : va_W => wpost dC dI cy A u) A) (List.toArray [.ref (ad 0)]) s 0 0 A) (F0 m 9 ls []) := by
    intro n9
    induction n9 with
    | zero => intro f9_0_1 f9_0_18 f9_3_2 H locs ls w1 r2 t3 r6 t7 r9 t10 hcr9_0 hcr9_1 hcr9_2 hm9 hw hT hF c4 c5 c8 c11 hl; omega
    | succ n9 ih9 =>
      intro f9_0_1 f9_0_18 f9_3_2 H locs ls w1 r2 t3 r6 t7 r9 t10 hcr9_0 hcr9_1 hcr9_2 hm9 hw hT hF c4 c5 c8 c11 hl
      have J27 : ∀ (f27_0_14 : Int32) (H : Heap) (locs : List Loc) (ls : Array Slot) (w12 : va_W), 1 ≤ f9_0_1.toInt → f9_0_1.toInt ≤ 400 → 0 ≤ f27_0_14.toInt → f27_0_14.toInt ≤ 399 → 1 ≤ f9_0_18.toInt → f9_0_18.toInt ≤ 60 → 0 ≤ f9_3_2.toInt → f9_3_2.toInt ≤ 300 → (3 * f9_3_2.toInt + 11 ≤ 3 * f2_.toInt + 14 * (f9_0_18.toInt - f1_.toInt)) → (f1_.toInt + 1 ≤ f9_0_18.toInt) → (f9_3_2.toInt ≤ 300) → Wd dC dI A s.heap H locs w12 → TW ksM ad cy B qr 12 w12 → FE ksM [(12, 14, 14), (12, 15, 15), (12, 16, 16), (12, 18, 18), (61, 0, 2400), (62, 0, 7)] w0 w12 → gi w12 0 1 = f9_0_1 → gi w12 0 14 = f27_0_14 → gi w12 0 17 = 2 → gi w12 0 18 = f9_0_18 → gi w12 3 2 = f9_3_2 → lv_has ls 2 [(0, .ref (ad 0))] → W p l e ({ frames := 5, cells := 0, slots := 0, locals := 100 }) s m (List.toArray [.ref (ad 0)]) below meth c H locs 0 0 (MQ below (va_Qi (P_X12_term_3 ad cy B qr s1  w0) (fun u : va_W => wpost dC dI cy A u) A) (List.toArray [.ref (ad 0)]) s 0 0 A) (F0 m 27 ls []) := by
        intro f27_0_14 H locs ls w12 r13 t14 r16 t17 r20 t21 r23 t24 hcr27_0 hcr27_1 hcr27_2 hw hT hF c15 c18 c19 c22 c25 hl
        refine lv_aload_n hx hb dX12_term_27 rfl (lv_at hl 0 rfl) ?_
        refine tk_getA hC hK hw hT hinX12 kM_at0 (by decide) rfl 0 (by decide) (List.mem_of_getElem? (i := 1) rfl) rfl rfl dX12_term_28 ?_
        refine lv_aload_n hx hb dX12_term_31 rfl (lv_at hl 0 rfl) ?_
        refine tk_geti hC hK hw hT hinX12 kM_at0 (by decide) rfl 14 (by decide) (List.mem_of_getElem? (i := 2) rfl) rfl rfl dX12_term_32 (fun x26 c27 rx26 tx26 => ?_)
        refine wk_top f27_0_14 (c27.symm.trans c18) ?_
        refine tk_bald hC hK hw hT kM_at1 rfl rfl (show 0 ≤ f27_0_14.toInt by omega) (show f27_0_14.toInt < 400 by omega) dX12_term_35 (fun x28 c29 rx28 tx28 => ?_)
        have c29 : gi w12 1 (f27_0_14.toInt).toNat = x28 := (congrArg (gi w12 1) (congrArg Int.toNat (show f27_0_14.toInt = f27_0_14.toInt by omega))).trans c29
        refine lv_bipush (v := 42) hx hb dX12_term_36 (by decide) ?_
        refine lv_icmp_ne (tgt := 45) hx hb dX12_term_38 (by decide) (fun c30 => ?_) (fun c30 => ?_)
        · have c30 : ¬ x28.toInt = (42 : Int) := wk_eqF c30
          refine lv_iconst (v := 5) hx hb dX12_term_45 (by decide) ?_
          refine lv_istore_n (lv' := [(1, .int 5), (0, .ref (ad 0))]) hx hb dX12_term_46 rfl hl (by decide) rfl (fun ls hl => ?_)
          refine lv_aload_n hx hb dX12_term_47 rfl (lv_at hl 1 rfl) ?_
          refine lv_dup hx hb dX12_term_48 rfl ?_
          refine tk_geti hC hK hw hT hinX12 kM_at0 (by decide) rfl 14 (by decide) (List.mem_of_getElem? (i := 2) rfl) rfl rfl dX12_term_49 (fun x31 c32 rx31 tx31 => ?_)
          refine wk_top f27_0_14 (c32.symm.trans c18) ?_
          refine lv_iconst (v := 1) hx hb dX12_term_52 (by decide) ?_
          refine lv_iadd hx hb dX12_term_53 ?_
          refine lv_topi (fun x33 ex33 => ?_)
          have ex33 : x33.toInt = f27_0_14.toInt + (1 : Int) := by rw [ex33]; exact wk_add (show (-2147483648) ≤ f27_0_14.toInt + (1 : Int) by omega) (show f27_0_14.toInt + (1 : Int) ≤ 2147483647 by omega)
          refine tk_puti hC hK hw hT hinX12 tyX12_ok nmX12 kM_at0 (by decide) rfl rfl 14 (by decide) (List.mem_of_getElem? (i := 2) rfl) rfl rfl rfl rfl (show 0 ≤ x33.toInt by omega) (show x33.toInt ≤ 400 by omega) dX12_term_54 (fun H locs w34 hw hT k36 c35 => ?_)
          have hF := hF.put kM_at0 (k := 14) (by decide) k36
          have c37 := k36.gi (Or.inr (by decide)) c15
          have c38 := k36.gi (Or.inr (by decide)) c19
          have c39 := k36.gi (Or.inr (by decide)) c22
          have c40 := k36.gi (Or.inr (by decide)) c25
          have c41 := k36.gi (Or.inl (tk_ne kM_at1 kM_at0 (by decide))) c29
          refine lv_aload_n hx hb dX12_term_57 rfl (lv_at hl 1 rfl) ?_
          refine tk_Vi hC hK hw hT hA hE hSR kM_at0 (by decide) rfl (k_X12_value_3 l adK adV dC dI cy ad B (by omega) (by omega) qr s1    w34 H.size hT c38 f9_0_18 c39 (show 0 ≤ f9_0_18.toInt by omega) (show f9_0_18.toInt ≤ 60 by omega) f9_3_2 c40 (show 0 ≤ f9_3_2.toInt by omega) (show f9_3_2.toInt ≤ 400 by omega) (show f9_3_2.toInt ≤ 399 by omega)) (cwV 0 hC.2.2.2.2 gX12_term_X12_value rfl rfl rfl (by decide +kernel) ⟨Nat.le_of_ble_eq_true rfl, Nat.le_of_ble_eq_true rfl⟩) rfl hl.1 rfl (Nat.le_of_ble_eq_true rfl) dX12_term_58 (fun r42 w44 H locs hp43 hw => ?_)
          obtain ⟨hT, k45, hg74⟩ := hp43
          have hF := hF.tr k45 (by decide)
          have c75 := k45.gi kM_at0 (by decide) c37
          have c76 := k45.gi kM_at0 (by decide) c38
          have c77 := k45.gi kM_at1 rfl c41
          rcases hg74 with ⟨rfl, ⟨x46, c47, rx46, tx46⟩, ⟨x48, c49, rx48, tx48⟩, ⟨x50, c51, rx50, tx50⟩⟩ | ⟨rfl, ⟨x52, c53, rx52, tx52⟩, ⟨x54, c55, rx54, tx54⟩, ⟨x56, c57, rx56, tx56⟩⟩ | ⟨rfl, ⟨x58, c59, rx58, tx58⟩, ⟨x60, c61, rx60, tx60⟩, ⟨x62, c63, rx62, tx62⟩, g64, g65⟩ | ⟨rfl, ⟨x66, c67, rx66, tx66⟩, ⟨x68, c69, rx68, tx68⟩, ⟨x70, c71, rx70, tx70⟩, g72, g73⟩
          · have ex46 : x46.toInt = f9_0_1.toInt := by rw [← c75.symm.trans c47]
            have ex50 : x50.toInt = (2 : Int) := by rw [show x50 = 2 from c51.symm.trans c76]; decide
            obtain ⟨x78, c79, rx78, tx78⟩ := hT.rda (lo := 0) (hi := 400) (i := 2) kM_at3 rfl rfl (by decide)
            obtain ⟨x80, c81, rx80, tx80⟩ := hT.rdi (lo := 0) (hi := 60) (k := 18) kM_at0 (by decide) rfl
            refine lv_if_ne (tgt := 66) hx hb dX12_term_61 (by decide) (fun c => absurd (by decide) c) (fun _ => ?_)
            refine lv_iconst (v := 0) hx hb dX12_term_64 (by decide) ?_
            exact tk_zret hC hr rfl hlocks hK ⟨hT, hF, (Or.inl ⟨rfl, ⟨f9_0_1, c75, (show 1 ≤ f9_0_1.toInt by omega), (show f9_0_1.toInt ≤ 400 by omega)⟩, ⟨x48, c49, (show 1 ≤ x48.toInt by omega), (show x48.toInt ≤ 3205 by omega)⟩, ⟨2, c76, (by decide), (by decide)⟩⟩)⟩ hw dX12_term_65
          · have ex52 : x52.toInt = f9_0_1.toInt := by rw [← c75.symm.trans c53]
            have ex56 : x56.toInt = (2 : Int) := by rw [show x56 = 2 from c57.symm.trans c76]; decide
            obtain ⟨x82, c83, rx82, tx82⟩ := hT.rda (lo := 0) (hi := 400) (i := 2) kM_at3 rfl rfl (by decide)
            obtain ⟨x84, c85, rx84, tx84⟩ := hT.rdi (lo := 0) (hi := 60) (k := 18) kM_at0 (by decide) rfl
            refine lv_if_ne (tgt := 66) hx hb dX12_term_61 (by decide) (fun c => absurd (by decide) c) (fun _ => ?_)
            refine lv_iconst (v := 0) hx hb dX12_term_64 (by decide) ?_
            exact tk_zret hC hr rfl hlocks hK ⟨hT, hF, (Or.inl ⟨rfl, ⟨f9_0_1, c75, (show 1 ≤ f9_0_1.toInt by omega), (show f9_0_1.toInt ≤ 400 by omega)⟩, ⟨x54, c55, (show 1 ≤ x54.toInt by omega), (show x54.toInt ≤ 3205 by omega)⟩, ⟨2, c76, (by decide), (by decide)⟩⟩)⟩ hw dX12_term_65
          · have ex58 : x58.toInt = f9_0_1.toInt := by rw [← c75.symm.trans c59]
            have ex60 : x60.toInt = (2 : Int) := by rw [show x60 = 2 from c61.symm.trans c76]; decide
            obtain ⟨x86, c87, rx86, tx86⟩ := hT.rda (lo := 0) (hi := 400) (i := 2) kM_at3 rfl rfl (by decide)
            have g64 : x86.toInt = f9_3_2.toInt + 1 := by have q := g64; simp only [c40, c87] at q; omega
            have g65 : x62.toInt = f9_0_18.toInt + 1 := by have q := g65; simp only [c39, c63] at q; omega
            refine lv_if_ne (tgt := 66) hx hb dX12_term_61 (by decide) (fun _ => ?_) (fun c => absurd c (by decide))
            refine lv_aload_n hx hb dX12_term_66 rfl (lv_at hl 1 rfl) ?_
            refine lv_iload_n hx hb dX12_term_67 rfl (lv_at hl 0 rfl) ?_
            refine lv_iconst (v := 0) hx hb dX12_term_68 (by decide) ?_
            refine tk_Vv hC hK hw hT hA hE hSR kM_at0 (by decide) rfl (k_X12_puts_3 l adK adV dC dI cy ad B (by omega) (by omega) qr s1   5 (by decide) (by decide) 0 w44 H.size hT c76 x86 c87 (show 0 ≤ x86.toInt by omega) (show x86.toInt ≤ 400 by omega) (show x86.toInt ≤ 399 by omega)) (cwV 2 hC.2.2.2.2 gX12_term_X12_puts rfl rfl rfl (by decide +kernel) ⟨Nat.le_of_ble_eq_true rfl, Nat.le_of_ble_eq_true rfl⟩) rfl hl.1 rfl (Nat.le_of_ble_eq_true rfl) dX12_term_69 (fun w92 H locs hp91 hw => ?_)
            obtain ⟨hT, k93, hg97⟩ := hp91
            have hF := hF.tr k93 (by decide)
            have c98 := k93.gi kM_at0 (by decide) c75
            have c99 := k93.gi kM_at0 (by decide) c76
            have c100 := k93.gi kM_at1 rfl c77
            have c101 := k93.gi kM_at0 (by decide) c63
            obtain ⟨⟨x94, c95, rx94, tx94⟩, g96⟩ := hg97
            have ex94 : x94.toInt = (2 : Int) := by rw [show x94 = 2 from c95.symm.trans c99]; decide
            obtain ⟨x102, c103, rx102, tx102⟩ := hT.rda (lo := 0) (hi := 400) (i := 2) kM_at3 rfl rfl (by decide)
            have g96 : x102.toInt = x86.toInt + 1 := by have q := g96; simp only [c87, c103] at q; omega
            refine lv_goto (tgt := 9) hx hb dX12_term_72 (by decide) ?_
            exact ih9 f9_0_1 x62 x102 H locs ls w92 (show 0 ≤ f9_0_1.toInt by omega) (show f9_0_1.toInt ≤ 400 by omega) (show 1 ≤ x62.toInt by omega) (show x62.toInt ≤ 60 by omega) (show 0 ≤ x102.toInt by omega) (show x102.toInt ≤ 300 by omega) (show 3 * x102.toInt + 11 ≤ 3 * f2_.toInt + 14 * (x62.toInt - f1_.toInt) by omega) (show f1_.toInt + 1 ≤ x62.toInt by omega) (show x102.toInt ≤ 300 by omega) (show (60 - x62.toInt).toNat < n9 by omega) hw hT hF c98 c99 c101 c103 (lv_sub hl [1] rfl)
          · have ex66 : x66.toInt = f9_0_1.toInt := by rw [← c75.symm.trans c67]
            have ex68 : x68.toInt = (2 : Int) := by rw [show x68 = 2 from c69.symm.trans c76]; decide
            obtain ⟨x88, c89, rx88, tx88⟩ := hT.rda (lo := 0) (hi := 400) (i := 2) kM_at3 rfl rfl (by decide)
            have g72 : x88.toInt = f9_3_2.toInt + 1 := by have q := g72; simp only [c40, c89] at q; omega
            have g73 : x70.toInt = f9_0_18.toInt + 1 := by have q := g73; simp only [c39, c71] at q; omega
            refine lv_if_ne (tgt := 66) hx hb dX12_term_61 (by decide) (fun _ => ?_) (fun c => absurd c (by decide))
            refine lv_aload_n hx hb dX12_term_66 rfl (lv_at hl 1 rfl) ?_
            refine lv_iload_n hx hb dX12_term_67 rfl (lv_at hl 0 rfl) ?_
            refine lv_iconst (v := 0) hx hb dX12_term_68 (by decide) ?_
            refine tk_Vv hC hK hw hT hA hE hSR kM_at0 (by decide) rfl (k_X12_puts_3 l adK adV dC dI cy ad B (by omega) (by omega) qr s1   5 (by decide) (by decide) 0 w44 H.size hT c76 x88 c89 (show 0 ≤ x88.toInt by omega) (show x88.toInt ≤ 400 by omega) (show x88.toInt ≤ 399 by omega)) (cwV 2 hC.2.2.2.2 gX12_term_X12_puts rfl rfl rfl (by decide +kernel) ⟨Nat.le_of_ble_eq_true rfl, Nat.le_of_ble_eq_true rfl⟩) rfl hl.1 rfl (Nat.le_of_ble_eq_true rfl) dX12_term_69 (fun w106 H locs hp105 hw => ?_)
            obtain ⟨hT, k107, hg111⟩ := hp105
            have hF := hF.tr k107 (by decide)
            have c112 := k107.gi kM_at0 (by decide) c75
            have c113 := k107.gi kM_at0 (by decide) c76
            have c114 := k107.gi kM_at1 rfl c77
            have c115 := k107.gi kM_at0 (by decide) c71
            obtain ⟨⟨x108, c109, rx108, tx108⟩, g110⟩ := hg111
            have ex108 : x108.toInt = (2 : Int) := by rw [show x108 = 2 from c109.symm.trans c113]; decide
            obtain ⟨x116, c117, rx116, tx116⟩ := hT.rda (lo := 0) (hi := 400) (i := 2) kM_at3 rfl rfl (by decide)
            have g110 : x116.toInt = x88.toInt + 1 := by have q := g110; simp only [c89, c117] at q; omega
            refine lv_goto (tgt := 9) hx hb dX12_term_72 (by decide) ?_
            exact ih9 f9_0_1 x70 x116 H locs ls w106 (show 0 ≤ f9_0_1.toInt by omega) (show f9_0_1.toInt ≤ 400 by omega) (show 1 ≤ x70.toInt by omega) (show x70.toInt ≤ 60 by omega) (show 0 ≤ x116.toInt by omega) (show x116.toInt ≤ 300 by omega) (show 3 * x116.toInt + 11 ≤ 3 * f2_.toInt + 14 * (x70.toInt - f1_.toInt) by omega) (show f1_.toInt + 1 ≤ x70.toInt by omega) (show x116.toInt ≤ 300 by omega) (show (60 - x70.toInt).toNat < n9 by omega) hw hT hF c112 c113 c115 c117 (lv_sub hl [1] rfl)
        · have c30 : x28.toInt = (42 : Int) := wk_eq.mp c30
          refine lv_iconst (v := 4) hx hb dX12_term_41 (by decide) ?_
          refine lv_goto (tgt := 46) hx hb dX12_term_42 (by decide) ?_
          refine lv_istore_n (lv' := [(1, .int 4), (0, .ref (ad 0))]) hx hb dX12_term_46 rfl hl (by decide) rfl (fun ls hl => ?_)
          refine lv_aload_n hx hb dX12_term_47 rfl (lv_at hl 1 rfl) ?_
          refine lv_dup hx hb dX12_term_48 rfl ?_
          refine tk_geti hC hK hw hT hinX12 kM_at0 (by decide) rfl 14 (by decide) (List.mem_of_getElem? (i := 2) rfl) rfl rfl dX12_term_49 (fun x118 c119 rx118 tx118 => ?_)
          refine wk_top f27_0_14 (c119.symm.trans c18) ?_
          refine lv_iconst (v := 1) hx hb dX12_term_52 (by decide) ?_
          refine lv_iadd hx hb dX12_term_53 ?_
          refine lv_topi (fun x120 ex120 => ?_)
          have ex120 : x120.toInt = f27_0_14.toInt + (1 : Int) := by rw [ex120]; exact wk_add (show (-2147483648) ≤ f27_0_14.toInt + (1 : Int) by omega) (show f27_0_14.toInt + (1 : Int) ≤ 2147483647 by omega)
          refine tk_puti hC hK hw hT hinX12 tyX12_ok nmX12 kM_at0 (by decide) rfl rfl 14 (by decide) (List.mem_of_getElem? (i := 2) rfl) rfl rfl rfl rfl (show 0 ≤ x120.toInt by omega) (show x120.toInt ≤ 400 by omega) dX12_term_54 (fun H locs w121 hw hT k123 c122 => ?_)
          have hF := hF.put kM_at0 (k := 14) (by decide) k123
          have c124 := k123.gi (Or.inr (by decide)) c15
          have c125 := k123.gi (Or.inr (by decide)) c19
          have c126 := k123.gi (Or.inr (by decide)) c22
          have c127 := k123.gi (Or.inr (by decide)) c25
          have c128 := k123.gi (Or.inl (tk_ne kM_at1 kM_at0 (by decide))) c29
          refine lv_aload_n hx hb dX12_term_57 rfl (lv_at hl 1 rfl) ?_
          refine tk_Vi hC hK hw hT hA hE hSR kM_at0 (by decide) rfl (k_X12_value_3 l adK adV dC dI cy ad B (by omega) (by omega) qr s1    w121 H.size hT c125 f9_0_18 c126 (show 0 ≤ f9_0_18.toInt by omega) (show f9_0_18.toInt ≤ 60 by omega) f9_3_2 c127 (show 0 ≤ f9_3_2.toInt by omega) (show f9_3_2.toInt ≤ 400 by omega) (show f9_3_2.toInt ≤ 399 by omega)) (cwV 0 hC.2.2.2.2 gX12_term_X12_value rfl rfl rfl (by decide +kernel) ⟨Nat.le_of_ble_eq_true rfl, Nat.le_of_ble_eq_true rfl⟩) rfl hl.1 rfl (Nat.le_of_ble_eq_true rfl) dX12_term_58 (fun r129 w131 H locs hp130 hw => ?_)
          obtain ⟨hT, k132, hg161⟩ := hp130
          have hF := hF.tr k132 (by decide)
          have c162 := k132.gi kM_at0 (by decide) c124
          have c163 := k132.gi kM_at0 (by decide) c125
          have c164 := k132.gi kM_at1 rfl c128
          rcases hg161 with ⟨rfl, ⟨x133, c134, rx133, tx133⟩, ⟨x135, c136, rx135, tx135⟩, ⟨x137, c138, rx137, tx137⟩⟩ | ⟨rfl, ⟨x139, c140, rx139, tx139⟩, ⟨x141, c142, rx141, tx141⟩, ⟨x143, c144, rx143, tx143⟩⟩ | ⟨rfl, ⟨x145, c146, rx145, tx145⟩, ⟨x147, c148, rx147, tx147⟩, ⟨x149, c150, rx149, tx149⟩, g151, g152⟩ | ⟨rfl, ⟨x153, c154, rx153, tx153⟩, ⟨x155, c156, rx155, tx155⟩, ⟨x157, c158, rx157, tx157⟩, g159, g160⟩
          · have ex133 : x133.toInt = f9_0_1.toInt := by rw [← c162.symm.trans c134]
            have ex137 : x137.toInt = (2 : Int) := by rw [show x137 = 2 from c138.symm.trans c163]; decide
            obtain ⟨x165, c166, rx165, tx165⟩ := hT.rda (lo := 0) (hi := 400) (i := 2) kM_at3 rfl rfl (by decide)
            obtain ⟨x167, c168, rx167, tx167⟩ := hT.rdi (lo := 0) (hi := 60) (k := 18) kM_at0 (by decide) rfl
            refine lv_if_ne (tgt := 66) hx hb dX12_term_61 (by decide) (fun c => absurd (by decide) c) (fun _ => ?_)
            refine lv_iconst (v := 0) hx hb dX12_term_64 (by decide) ?_
            exact tk_zret hC hr rfl hlocks hK ⟨hT, hF, (Or.inl ⟨rfl, ⟨f9_0_1, c162, (show 1 ≤ f9_0_1.toInt by omega), (show f9_0_1.toInt ≤ 400 by omega)⟩, ⟨x135, c136, (show 1 ≤ x135.toInt by omega), (show x135.toInt ≤ 3205 by omega)⟩, ⟨2, c163, (by decide), (by decide)⟩⟩)⟩ hw dX12_term_65
          · have ex139 : x139.toInt = f9_0_1.toInt := by rw [← c162.symm.trans c140]
            have ex143 : x143.toInt = (2 : Int) := by rw [show x143 = 2 from c144.symm.trans c163]; decide
            obtain ⟨x169, c170, rx169, tx169⟩ := hT.rda (lo := 0) (hi := 400) (i := 2) kM_at3 rfl rfl (by decide)
            obtain ⟨x171, c172, rx171, tx171⟩ := hT.rdi (lo := 0) (hi := 60) (k := 18) kM_at0 (by decide) rfl
            refine lv_if_ne (tgt := 66) hx hb dX12_term_61 (by decide) (fun c => absurd (by decide) c) (fun _ => ?_)
            refine lv_iconst (v := 0) hx hb dX12_term_64 (by decide) ?_
            exact tk_zret hC hr rfl hlocks hK ⟨hT, hF, (Or.inl ⟨rfl, ⟨f9_0_1, c162, (show 1 ≤ f9_0_1.toInt by omega), (show f9_0_1.toInt ≤ 400 by omega)⟩, ⟨x141, c142, (show 1 ≤ x141.toInt by omega), (show x141.toInt ≤ 3205 by omega)⟩, ⟨2, c163, (by decide), (by decide)⟩⟩)⟩ hw dX12_term_65
          · have ex145 : x145.toInt = f9_0_1.toInt := by rw [← c162.symm.trans c146]
            have ex147 : x147.toInt = (2 : Int) := by rw [show x147 = 2 from c148.symm.trans c163]; decide
            obtain ⟨x173, c174, rx173, tx173⟩ := hT.rda (lo := 0) (hi := 400) (i := 2) kM_at3 rfl rfl (by decide)
            have g151 : x173.toInt = f9_3_2.toInt + 1 := by have q := g151; simp only [c127, c174] at q; omega
            have g152 : x149.toInt = f9_0_18.toInt + 1 := by have q := g152; simp only [c126, c150] at q; omega
            refine lv_if_ne (tgt := 66) hx hb dX12_term_61 (by decide) (fun _ => ?_) (fun c => absurd c (by decide))
            refine lv_aload_n hx hb dX12_term_66 rfl (lv_at hl 1 rfl) ?_
            refine lv_iload_n hx hb dX12_term_67 rfl (lv_at hl 0 rfl) ?_
            refine lv_iconst (v := 0) hx hb dX12_term_68 (by decide) ?_
            refine tk_Vv hC hK hw hT hA hE hSR kM_at0 (by decide) rfl (k_X12_puts_3 l adK adV dC dI cy ad B (by omega) (by omega) qr s1   4 (by decide) (by decide) 0 w131 H.size hT c163 x173 c174 (show 0 ≤ x173.toInt by omega) (show x173.toInt ≤ 400 by omega) (show x173.toInt ≤ 399 by omega)) (cwV 2 hC.2.2.2.2 gX12_term_X12_puts rfl rfl rfl (by decide +kernel) ⟨Nat.le_of_ble_eq_true rfl, Nat.le_of_ble_eq_true rfl⟩) rfl hl.1 rfl (Nat.le_of_ble_eq_true rfl) dX12_term_69 (fun w179 H locs hp178 hw => ?_)
            obtain ⟨hT, k180, hg184⟩ := hp178
            have hF := hF.tr k180 (by decide)
            have c185 := k180.gi kM_at0 (by decide) c162
            have c186 := k180.gi kM_at0 (by decide) c163
            have c187 := k180.gi kM_at1 rfl c164
            have c188 := k180.gi kM_at0 (by decide) c150
            obtain ⟨⟨x181, c182, rx181, tx181⟩, g183⟩ := hg184
            have ex181 : x181.toInt = (2 : Int) := by rw [show x181 = 2 from c182.symm.trans c186]; decide
            obtain ⟨x189, c190, rx189, tx189⟩ := hT.rda (lo := 0) (hi := 400) (i := 2) kM_at3 rfl rfl (by decide)
            have g183 : x189.toInt = x173.toInt + 1 := by have q := g183; simp only [c174, c190] at q; omega
            refine lv_goto (tgt := 9) hx hb dX12_term_72 (by decide) ?_
            exact ih9 f9_0_1 x149 x189 H locs ls w179 (show 0 ≤ f9_0_1.toInt by omega) (show f9_0_1.toInt ≤ 400 by omega) (show 1 ≤ x149.toInt by omega) (show x149.toInt ≤ 60 by omega) (show 0 ≤ x189.toInt by omega) (show x189.toInt ≤ 300 by omega) (show 3 * x189.toInt + 11 ≤ 3 * f2_.toInt + 14 * (x149.toInt - f1_.toInt) by omega) (show f1_.toInt + 1 ≤ x149.toInt by omega) (show x189.toInt ≤ 300 by omega) (show (60 - x149.toInt).toNat < n9 by omega) hw hT hF c185 c186 c188 c190 (lv_sub hl [1] rfl)
          · have ex153 : x153.toInt = f9_0_1.toInt := by rw [← c162.symm.trans c154]
            have ex155 : x155.toInt = (2 : Int) := by rw [show x155 = 2 from c156.symm.trans c163]; decide
            obtain ⟨x175, c176, rx175, tx175⟩ := hT.rda (lo := 0) (hi := 400) (i := 2) kM_at3 rfl rfl (by decide)
            have g159 : x175.toInt = f9_3_2.toInt + 1 := by have q := g159; simp only [c127, c176] at q; omega
            have g160 : x157.toInt = f9_0_18.toInt + 1 := by have q := g160; simp only [c126, c158] at q; omega
            refine lv_if_ne (tgt := 66) hx hb dX12_term_61 (by decide) (fun _ => ?_) (fun c => absurd c (by decide))
            refine lv_aload_n hx hb dX12_term_66 rfl (lv_at hl 1 rfl) ?_
            refine lv_iload_n hx hb dX12_term_67 rfl (lv_at hl 0 rfl) ?_
            refine lv_iconst (v := 0) hx hb dX12_term_68 (by decide) ?_
            refine tk_Vv hC hK hw hT hA hE hSR kM_at0 (by decide) rfl (k_X12_puts_3 l adK adV dC dI cy ad B (by omega) (by omega) qr s1   4 (by decide) (by decide) 0 w131 H.size hT c163 x175 c176 (show 0 ≤ x175.toInt by omega) (show x175.toInt ≤ 400 by omega) (show x175.toInt ≤ 399 by omega)) (cwV 2 hC.2.2.2.2 gX12_term_X12_puts rfl rfl rfl (by decide +kernel) ⟨Nat.le_of_ble_eq_true rfl, Nat.le_of_ble_eq_true rfl⟩) rfl hl.1 rfl (Nat.le_of_ble_eq_true rfl) dX12_term_69 (fun w193 H locs hp192 hw => ?_)
            obtain ⟨hT, k194, hg198⟩ := hp192
            have hF := hF.tr k194 (by decide)
            have c199 := k194.gi kM_at0 (by decide) c162
            have c200 := k194.gi kM_at0 (by decide) c163
            have c201 := k194.gi kM_at1 rfl c164
            have c202 := k194.gi kM_at0 (by decide) c158
            obtain ⟨⟨x195, c196, rx195, tx195⟩, g197⟩ := hg198
            have ex195 : x195.toInt = (2 : Int) := by rw [show x195 = 2 from c196.symm.trans c200]; decide
            obtain ⟨x203, c204, rx203, tx203⟩ := hT.rda (lo := 0) (hi := 400) (i := 2) kM_at3 rfl rfl (by decide)
            have g197 : x203.toInt = x175.toInt + 1 := by have q := g197; simp only [c176, c204] at q; omega
            refine lv_goto (tgt := 9) hx hb dX12_term_72 (by decide) ?_
            exact ih9 f9_0_1 x157 x203 H locs ls w193 (show 0 ≤ f9_0_1.toInt by omega) (show f9_0_1.toInt ≤ 400 by omega) (show 1 ≤ x157.toInt by omega) (show x157.toInt ≤ 60 by omega) (show 0 ≤ x203.toInt by omega) (show x203.toInt ≤ 300 by omega) (show 3 * x203.toInt + 11 ≤ 3 * f2_.toInt + 14 * (x157.toInt - f1_.toInt) by omega) (show f1_.toInt + 1 ≤ x157.toInt by omega) (show x203.toInt ≤ 300 by omega) (show (60 - x157.toInt).toNat < n9 by omega) hw hT hF c199 c200 c202 c204 (lv_sub hl [1] rfl)
      refine lv_aload_n hx hb dX12_term_9 rfl (lv_at hl 0 rfl) ?_
      obtain ⟨x205, c206, rx205, tx205⟩ := hT.rdi (lo := 0) (hi := 400) (k := 14) kM_at0 (by decide) rfl
      refine tk_Vi hC hK hw hT hA hE hSR kM_at0 (by decide) rfl (k_X12_see_1 l adK adV dC dI cy ad B (by omega) (by omega) qr s1    w1 H.size hT x205 c206 (show 0 ≤ x205.toInt by omega) (show x205.toInt ≤ 400 by omega)) (cwV 0 hC.2.2.2.2 gX12_term_X12_see rfl rfl rfl (by decide +kernel) ⟨Nat.le_of_ble_eq_true rfl, Nat.le_of_ble_eq_true rfl⟩) rfl hl.1 rfl (Nat.le_of_ble_eq_true rfl) dX12_term_10 (fun r207 w209 H locs hp208 hw => ?_)
      obtain ⟨hT, k210, hg227⟩ := hp208
      have hF := hF.tr k210 (by decide)
      have c228 := k210.gi kM_at0 (by decide) c4
      have c229 := k210.gi kM_at0 (by decide) c5
      have c230 := k210.gi kM_at0 (by decide) c8
      have c231 := k210.gi kM_at3 (by decide) c11
      rcases hg227 with ⟨g211, g212, ⟨x213, c214, rx213, tx213⟩, ⟨x215, c216, rx215, tx215⟩, g217, g218⟩ | ⟨rfl, ⟨x219, c220, rx219, tx219⟩, ⟨x221, c222, rx221, tx221⟩, g223⟩ | ⟨rfl, ⟨x224, c225, rx224, tx224⟩, g226⟩
      · have ex213 : x213.toInt = f9_0_1.toInt := by rw [← c228.symm.trans c214]
        have g217 : (gi w209 1 (x215.toInt).toNat).toInt ≠ 32 := by have q := g217; simp only [c216] at q; omega
        have g218 : (x215.toInt = x205.toInt ∨ (gi w1 1 (x205.toInt).toNat).toInt = 32) := by have q := g218; simp only [c206, c216] at q; omega
        refine lv_bipush (v := 42) hx hb dX12_term_13 (by decide) ?_
        refine lv_icmp_eq (tgt := 27) hx hb dX12_term_15 (by decide) (fun c234 => ?_) (fun c234 => ?_)
        · have c234 : r207.toInt = (42 : Int) := wk_eq.mp c234
          exact J27 x215 H locs ls w209 (show 1 ≤ f9_0_1.toInt by omega) (show f9_0_1.toInt ≤ 400 by omega) (show 0 ≤ x215.toInt by omega) (show x215.toInt ≤ 399 by omega) (show 1 ≤ f9_0_18.toInt by omega) (show f9_0_18.toInt ≤ 60 by omega) (show 0 ≤ f9_3_2.toInt by omega) (show f9_3_2.toInt ≤ 300 by omega) (show 3 * f9_3_2.toInt + 11 ≤ 3 * f2_.toInt + 14 * (f9_0_18.toInt - f1_.toInt) by omega) (show f1_.toInt + 1 ≤ f9_0_18.toInt by omega) (show f9_3_2.toInt ≤ 300 by omega)  hw hT hF c228 c216 c229 c230 c231 (lv_sub hl [0] rfl)
        · have c234 : ¬ r207.toInt = (42 : Int) := wk_eqF c234
          refine lv_aload_n hx hb dX12_term_18 rfl (lv_at hl 0 rfl) ?_
          refine tk_Vi hC hK hw hT hA hE hSR kM_at0 (by decide) rfl (k_X12_see_1 l adK adV dC dI cy ad B (by omega) (by omega) qr s1    w209 H.size hT x215 c216 (show 0 ≤ x215.toInt by omega) (show x215.toInt ≤ 400 by omega)) (cwV 0 hC.2.2.2.2 gX12_term_X12_see rfl rfl rfl (by decide +kernel) ⟨Nat.le_of_ble_eq_true rfl, Nat.le_of_ble_eq_true rfl⟩) rfl hl.1 rfl (Nat.le_of_ble_eq_true rfl) dX12_term_19 (fun r235 w237 H locs hp236 hw => ?_)
          obtain ⟨hT, k238, hg255⟩ := hp236
          have hF := hF.tr k238 (by decide)
          have c256 := k238.gi kM_at0 (by decide) c228
          have c257 := k238.gi kM_at0 (by decide) c229
          have c258 := k238.gi kM_at0 (by decide) c230
          have c259 := k238.gi kM_at3 (by decide) c231
          rcases hg255 with ⟨g239, g240, ⟨x241, c242, rx241, tx241⟩, ⟨x243, c244, rx243, tx243⟩, g245, g246⟩ | ⟨rfl, ⟨x247, c248, rx247, tx247⟩, ⟨x249, c250, rx249, tx249⟩, g251⟩ | ⟨rfl, ⟨x252, c253, rx252, tx252⟩, g254⟩
          · have ex241 : x241.toInt = f9_0_1.toInt := by rw [← c256.symm.trans c242]
            have g245 : (gi w237 1 (x243.toInt).toNat).toInt ≠ 32 := by have q := g245; simp only [c244] at q; omega
            have g246 : (x243.toInt = x215.toInt ∨ (gi w209 1 (x215.toInt).toNat).toInt = 32) := by have q := g246; simp only [c216, c244] at q; omega
            refine lv_bipush (v := 47) hx hb dX12_term_22 (by decide) ?_
            refine lv_icmp_ne (tgt := 75) hx hb dX12_term_24 (by decide) (fun c262 => ?_) (fun c262 => ?_)
            · have c262 : ¬ r235.toInt = (47 : Int) := wk_eqF c262
              refine lv_iconst (v := 1) hx hb dX12_term_75 (by decide) ?_
              exact tk_zret hC hr rfl hlocks hK ⟨hT, hF, (Or.inr (Or.inr (Or.inl ⟨rfl, ⟨f9_0_1, c256, (show 1 ≤ f9_0_1.toInt by omega), (show f9_0_1.toInt ≤ 400 by omega)⟩, ⟨2, c257, (by decide), (by decide)⟩, ⟨f9_0_18, c258, (show 1 ≤ f9_0_18.toInt by omega), (show f9_0_18.toInt ≤ 60 by omega)⟩, (by simp only [cf2_, c259, cf1_, c258]; omega), (by simp only [cf1_, c258]; omega)⟩)))⟩ hw dX12_term_76
            · have c262 : r235.toInt = (47 : Int) := wk_eq.mp c262
              exact J27 x243 H locs ls w237 (show 1 ≤ f9_0_1.toInt by omega) (show f9_0_1.toInt ≤ 400 by omega) (show 0 ≤ x243.toInt by omega) (show x243.toInt ≤ 399 by omega) (show 1 ≤ f9_0_18.toInt by omega) (show f9_0_18.toInt ≤ 60 by omega) (show 0 ≤ f9_3_2.toInt by omega) (show f9_3_2.toInt ≤ 300 by omega) (show 3 * f9_3_2.toInt + 11 ≤ 3 * f2_.toInt + 14 * (f9_0_18.toInt - f1_.toInt) by omega) (show f1_.toInt + 1 ≤ f9_0_18.toInt by omega) (show f9_3_2.toInt ≤ 300 by omega)  hw hT hF c256 c244 c257 c258 c259 (lv_sub hl [0] rfl)
          · have ex247 : x247.toInt = f9_0_1.toInt := by rw [← c256.symm.trans c248]
            have g251 : (x249.toInt = x215.toInt ∨ (gi w209 1 (x215.toInt).toNat).toInt = 32) := by have q := g251; simp only [c216, c250] at q; omega
            refine lv_bipush (v := 47) hx hb dX12_term_22 (by decide) ?_
            refine lv_icmp_ne (tgt := 75) hx hb dX12_term_24 (by decide) (fun _ => ?_) (fun c => absurd c (by decide))
            refine lv_iconst (v := 1) hx hb dX12_term_75 (by decide) ?_
            exact tk_zret hC hr rfl hlocks hK ⟨hT, hF, (Or.inr (Or.inr (Or.inl ⟨rfl, ⟨f9_0_1, c256, (show 1 ≤ f9_0_1.toInt by omega), (show f9_0_1.toInt ≤ 400 by omega)⟩, ⟨2, c257, (by decide), (by decide)⟩, ⟨f9_0_18, c258, (show 1 ≤ f9_0_18.toInt by omega), (show f9_0_18.toInt ≤ 60 by omega)⟩, (by simp only [cf2_, c259, cf1_, c258]; omega), (by simp only [cf1_, c258]; omega)⟩)))⟩ hw dX12_term_76
          · have ex252 : x252.toInt = f9_0_1.toInt := by rw [← c256.symm.trans c253]
            obtain ⟨x260, c261, rx260, tx260⟩ := hT.rdi (lo := 0) (hi := 400) (k := 14) kM_at0 (by decide) rfl
            have g254 : (x260.toInt = x215.toInt ∨ (gi w209 1 (x215.toInt).toNat).toInt = 32) := by have q := g254; simp only [c216, c261] at q; omega
            refine lv_bipush (v := 47) hx hb dX12_term_22 (by decide) ?_
            refine lv_icmp_ne (tgt := 75) hx hb dX12_term_24 (by decide) (fun _ => ?_) (fun c => absurd c (by decide))
            refine lv_iconst (v := 1) hx hb dX12_term_75 (by decide) ?_
            exact tk_zret hC hr rfl hlocks hK ⟨hT, hF, (Or.inr (Or.inr (Or.inl ⟨rfl, ⟨f9_0_1, c256, (show 1 ≤ f9_0_1.toInt by omega), (show f9_0_1.toInt ≤ 400 by omega)⟩, ⟨2, c257, (by decide), (by decide)⟩, ⟨f9_0_18, c258, (show 1 ≤ f9_0_18.toInt by omega), (show f9_0_18.toInt ≤ 60 by omega)⟩, (by simp only [cf2_, c259, cf1_, c258]; omega), (by simp only [cf1_, c258]; omega)⟩)))⟩ hw dX12_term_76
      · have ex219 : x219.toInt = f9_0_1.toInt := by rw [← c228.symm.trans c220]
        have g223 : (x221.toInt = x205.toInt ∨ (gi w1 1 (x205.toInt).toNat).toInt = 32) := by have q := g223; simp only [c206, c222] at q; omega
        refine lv_bipush (v := 42) hx hb dX12_term_13 (by decide) ?_
        refine lv_icmp_eq (tgt := 27) hx hb dX12_term_15 (by decide) (fun c => absurd c (by decide)) (fun _ => ?_)
        refine lv_aload_n hx hb dX12_term_18 rfl (lv_at hl 0 rfl) ?_
        refine tk_Vi hC hK hw hT hA hE hSR kM_at0 (by decide) rfl (k_X12_see_1 l adK adV dC dI cy ad B (by omega) (by omega) qr s1    w209 H.size hT x221 c222 (show 0 ≤ x221.toInt by omega) (show x221.toInt ≤ 400 by omega)) (cwV 0 hC.2.2.2.2 gX12_term_X12_see rfl rfl rfl (by decide +kernel) ⟨Nat.le_of_ble_eq_true rfl, Nat.le_of_ble_eq_true rfl⟩) rfl hl.1 rfl (Nat.le_of_ble_eq_true rfl) dX12_term_19 (fun r263 w265 H locs hp264 hw => ?_)
        obtain ⟨hT, k266, hg283⟩ := hp264
        have hF := hF.tr k266 (by decide)
        have c284 := k266.gi kM_at0 (by decide) c228
        have c285 := k266.gi kM_at0 (by decide) c229
        have c286 := k266.gi kM_at0 (by decide) c230
        have c287 := k266.gi kM_at3 (by decide) c231
        rcases hg283 with ⟨g267, g268, ⟨x269, c270, rx269, tx269⟩, ⟨x271, c272, rx271, tx271⟩, g273, g274⟩ | ⟨rfl, ⟨x275, c276, rx275, tx275⟩, ⟨x277, c278, rx277, tx277⟩, g279⟩ | ⟨rfl, ⟨x280, c281, rx280, tx280⟩, g282⟩
        · have ex269 : x269.toInt = f9_0_1.toInt := by rw [← c284.symm.trans c270]
          have g273 : (gi w265 1 (x271.toInt).toNat).toInt ≠ 32 := by have q := g273; simp only [c272] at q; omega
          have g274 : (x271.toInt = x221.toInt ∨ (gi w209 1 (x221.toInt).toNat).toInt = 32) := by have q := g274; simp only [c222, c272] at q; omega
          refine lv_bipush (v := 47) hx hb dX12_term_22 (by decide) ?_
          refine lv_icmp_ne (tgt := 75) hx hb dX12_term_24 (by decide) (fun c290 => ?_) (fun c290 => ?_)
          · have c290 : ¬ r263.toInt = (47 : Int) := wk_eqF c290
            refine lv_iconst (v := 1) hx hb dX12_term_75 (by decide) ?_
            exact tk_zret hC hr rfl hlocks hK ⟨hT, hF, (Or.inr (Or.inr (Or.inl ⟨rfl, ⟨f9_0_1, c284, (show 1 ≤ f9_0_1.toInt by omega), (show f9_0_1.toInt ≤ 400 by omega)⟩, ⟨2, c285, (by decide), (by decide)⟩, ⟨f9_0_18, c286, (show 1 ≤ f9_0_18.toInt by omega), (show f9_0_18.toInt ≤ 60 by omega)⟩, (by simp only [cf2_, c287, cf1_, c286]; omega), (by simp only [cf1_, c286]; omega)⟩)))⟩ hw dX12_term_76
          · have c290 : r263.toInt = (47 : Int) := wk_eq.mp c290
            exact J27 x271 H locs ls w265 (show 1 ≤ f9_0_1.toInt by omega) (show f9_0_1.toInt ≤ 400 by omega) (show 0 ≤ x271.toInt by omega) (show x271.toInt ≤ 399 by omega) (show 1 ≤ f9_0_18.toInt by omega) (show f9_0_18.toInt ≤ 60 by omega) (show 0 ≤ f9_3_2.toInt by omega) (show f9_3_2.toInt ≤ 300 by omega) (show 3 * f9_3_2.toInt + 11 ≤ 3 * f2_.toInt + 14 * (f9_0_18.toInt - f1_.toInt) by omega) (show f1_.toInt + 1 ≤ f9_0_18.toInt by omega) (show f9_3_2.toInt ≤ 300 by omega)  hw hT hF c284 c272 c285 c286 c287 (lv_sub hl [0] rfl)
        · have ex275 : x275.toInt = f9_0_1.toInt := by rw [← c284.symm.trans c276]
          have g279 : (x277.toInt = x221.toInt ∨ (gi w209 1 (x221.toInt).toNat).toInt = 32) := by have q := g279; simp only [c222, c278] at q; omega
          refine lv_bipush (v := 47) hx hb dX12_term_22 (by decide) ?_
          refine lv_icmp_ne (tgt := 75) hx hb dX12_term_24 (by decide) (fun _ => ?_) (fun c => absurd c (by decide))
          refine lv_iconst (v := 1) hx hb dX12_term_75 (by decide) ?_
          exact tk_zret hC hr rfl hlocks hK ⟨hT, hF, (Or.inr (Or.inr (Or.inl ⟨rfl, ⟨f9_0_1, c284, (show 1 ≤ f9_0_1.toInt by omega), (show f9_0_1.toInt ≤ 400 by omega)⟩, ⟨2, c285, (by decide), (by decide)⟩, ⟨f9_0_18, c286, (show 1 ≤ f9_0_18.toInt by omega), (show f9_0_18.toInt ≤ 60 by omega)⟩, (by simp only [cf2_, c287, cf1_, c286]; omega), (by simp only [cf1_, c286]; omega)⟩)))⟩ hw dX12_term_76
        · have ex280 : x280.toInt = f9_0_1.toInt := by rw [← c284.symm.trans c281]
          obtain ⟨x288, c289, rx288, tx288⟩ := hT.rdi (lo := 0) (hi := 400) (k := 14) kM_at0 (by decide) rfl
          have g282 : (x288.toInt = x221.toInt ∨ (gi w209 1 (x221.toInt).toNat).toInt = 32) := by have q := g282; simp only [c222, c289] at q; omega
          refine lv_bipush (v := 47) hx hb dX12_term_22 (by decide) ?_
          refine lv_icmp_ne (tgt := 75) hx hb dX12_term_24 (by decide) (fun _ => ?_) (fun c => absurd c (by decide))
          refine lv_iconst (v := 1) hx hb dX12_term_75 (by decide) ?_
          exact tk_zret hC hr rfl hlocks hK ⟨hT, hF, (Or.inr (Or.inr (Or.inl ⟨rfl, ⟨f9_0_1, c284, (show 1 ≤ f9_0_1.toInt by omega), (show f9_0_1.toInt ≤ 400 by omega)⟩, ⟨2, c285, (by decide), (by decide)⟩, ⟨f9_0_18, c286, (show 1 ≤ f9_0_18.toInt by omega), (show f9_0_18.toInt ≤ 60 by omega)⟩, (by simp only [cf2_, c287, cf1_, c286]; omega), (by simp only [cf1_, c286]; omega)⟩)))⟩ hw dX12_term_76
      · have ex224 : x224.toInt = f9_0_1.toInt := by rw [← c228.symm.trans c225]
        obtain ⟨x232, c233, rx232, tx232⟩ := hT.rdi (lo := 0) (hi := 400) (k := 14) kM_at0 (by decide) rfl
        have g226 : (x232.toInt = x205.toInt ∨ (gi w1 1 (x205.toInt).toNat).toInt = 32) := by have q := g226; simp only [c206, c233] at q; omega
        refine lv_bipush (v := 42) hx hb dX12_term_13 (by decide) ?_
        refine lv_icmp_eq (tgt := 27) hx hb dX12_term_15 (by decide) (fun c => absurd c (by decide)) (fun _ => ?_)
        refine lv_aload_n hx hb dX12_term_18 rfl (lv_at hl 0 rfl) ?_
        refine tk_Vi hC hK hw hT hA hE hSR kM_at0 (by decide) rfl (k_X12_see_1 l adK adV dC dI cy ad B (by omega) (by omega) qr s1    w209 H.size hT x232 c233 (show 0 ≤ x232.toInt by omega) (show x232.toInt ≤ 400 by omega)) (cwV 0 hC.2.2.2.2 gX12_term_X12_see rfl rfl rfl (by decide +kernel) ⟨Nat.le_of_ble_eq_true rfl, Nat.le_of_ble_eq_true rfl⟩) rfl hl.1 rfl (Nat.le_of_ble_eq_true rfl) dX12_term_19 (fun r291 w293 H locs hp292 hw => ?_)
        obtain ⟨hT, k294, hg311⟩ := hp292
        have hF := hF.tr k294 (by decide)
        have c312 := k294.gi kM_at0 (by decide) c228
        have c313 := k294.gi kM_at0 (by decide) c229
        have c314 := k294.gi kM_at0 (by decide) c230
        have c315 := k294.gi kM_at3 (by decide) c231
        rcases hg311 with ⟨g295, g296, ⟨x297, c298, rx297, tx297⟩, ⟨x299, c300, rx299, tx299⟩, g301, g302⟩ | ⟨rfl, ⟨x303, c304, rx303, tx303⟩, ⟨x305, c306, rx305, tx305⟩, g307⟩ | ⟨rfl, ⟨x308, c309, rx308, tx308⟩, g310⟩
        · have ex297 : x297.toInt = f9_0_1.toInt := by rw [← c312.symm.trans c298]
          have g301 : (gi w293 1 (x299.toInt).toNat).toInt ≠ 32 := by have q := g301; simp only [c300] at q; omega
          have g302 : (x299.toInt = x232.toInt ∨ (gi w209 1 (x232.toInt).toNat).toInt = 32) := by have q := g302; simp only [c233, c300] at q; omega
          refine lv_bipush (v := 47) hx hb dX12_term_22 (by decide) ?_
          refine lv_icmp_ne (tgt := 75) hx hb dX12_term_24 (by decide) (fun c318 => ?_) (fun c318 => ?_)
          · have c318 : ¬ r291.toInt = (47 : Int) := wk_eqF c318
            refine lv_iconst (v := 1) hx hb dX12_term_75 (by decide) ?_
            exact tk_zret hC hr rfl hlocks hK ⟨hT, hF, (Or.inr (Or.inr (Or.inl ⟨rfl, ⟨f9_0_1, c312, (show 1 ≤ f9_0_1.toInt by omega), (show f9_0_1.toInt ≤ 400 by omega)⟩, ⟨2, c313, (by decide), (by decide)⟩, ⟨f9_0_18, c314, (show 1 ≤ f9_0_18.toInt by omega), (show f9_0_18.toInt ≤ 60 by omega)⟩, (by simp only [cf2_, c315, cf1_, c314]; omega), (by simp only [cf1_, c314]; omega)⟩)))⟩ hw dX12_term_76
          · have c318 : r291.toInt = (47 : Int) := wk_eq.mp c318
            exact J27 x299 H locs ls w293 (show 1 ≤ f9_0_1.toInt by omega) (show f9_0_1.toInt ≤ 400 by omega) (show 0 ≤ x299.toInt by omega) (show x299.toInt ≤ 399 by omega) (show 1 ≤ f9_0_18.toInt by omega) (show f9_0_18.toInt ≤ 60 by omega) (show 0 ≤ f9_3_2.toInt by omega) (show f9_3_2.toInt ≤ 300 by omega) (show 3 * f9_3_2.toInt + 11 ≤ 3 * f2_.toInt + 14 * (f9_0_18.toInt - f1_.toInt) by omega) (show f1_.toInt + 1 ≤ f9_0_18.toInt by omega) (show f9_3_2.toInt ≤ 300 by omega)  hw hT hF c312 c300 c313 c314 c315 (lv_sub hl [0] rfl)
        · have ex303 : x303.toInt = f9_0_1.toInt := by rw [← c312.symm.trans c304]
          have g307 : (x305.toInt = x232.toInt ∨ (gi w209 1 (x232.toInt).toNat).toInt = 32) := by have q := g307; simp only [c233, c306] at q; omega
          refine lv_bipush (v := 47) hx hb dX12_term_22 (by decide) ?_
          refine lv_icmp_ne (tgt := 75) hx hb dX12_term_24 (by decide) (fun _ => ?_) (fun c => absurd c (by decide))
          refine lv_iconst (v := 1) hx hb dX12_term_75 (by decide) ?_
          exact tk_zret hC hr rfl hlocks hK ⟨hT, hF, (Or.inr (Or.inr (Or.inl ⟨rfl, ⟨f9_0_1, c312, (show 1 ≤ f9_0_1.toInt by omega), (show f9_0_1.toInt ≤ 400 by omega)⟩, ⟨2, c313, (by decide), (by decide)⟩, ⟨f9_0_18, c314, (show 1 ≤ f9_0_18.toInt by omega), (show f9_0_18.toInt ≤ 60 by omega)⟩, (by simp only [cf2_, c315, cf1_, c314]; omega), (by simp only [cf1_, c314]; omega)⟩)))⟩ hw dX12_term_76
        · have ex308 : x308.toInt = f9_0_1.toInt := by rw [← c312.symm.trans c309]
          obtain ⟨x316, c317, rx316, tx316⟩ := hT.rdi (lo := 0) (hi := 400) (k := 14) kM_at0 (by decide) rfl
          have g310 : (x316.toInt = x232.toInt ∨ (gi w209 1 (x232.toInt).toNat).toInt = 32) := by have q := g310; simp only [c233, c317] at q; omega
          refine lv_bipush (v := 47) hx hb dX12_term_22 (by decide) ?_
          refine lv_icmp_ne (tgt := 75) hx hb dX12_term_24 (by decide) (fun _ => ?_) (fun c => absurd c (by decide))
          refine lv_iconst (v := 1) hx hb dX12_term_75 (by decide) ?_
          exact tk_zret hC hr rfl hlocks hK ⟨hT, hF, (Or.inr (Or.inr (Or.inr ⟨rfl, ⟨f9_0_1, c312, (show 0 ≤ f9_0_1.toInt by omega), (show f9_0_1.toInt ≤ 400 by omega)⟩, ⟨2, c313, (by decide), (by decide)⟩, ⟨f9_0_18, c314, (show 1 ≤ f9_0_18.toInt by omega), (show f9_0_18.toInt ≤ 60 by omega)⟩, (by simp only [cf2_, c315, cf1_, c314]; omega), (by simp only [cf1_, c314]; omega)⟩)))⟩ hw dX12_term_76
  refine lv_aload_n hx hb dX12_term_0 rfl (lv_at hl 0 rfl) ?_
  refine tk_Vi hC hK hw hT hA hE hSR kM_at0 (by decide) rfl (k_X12_value_3 l adK adV dC dI cy ad B (by omega) (by omega) qr s1    w0 s.heap.size hT cf0_ f1_ cf1_ (show 0 ≤ f1_.toInt by omega) (show f1_.toInt ≤ 60 by omega) f2_ cf2_ (show 0 ≤ f2_.toInt by omega) (show f2_.toInt ≤ 400 by omega) (show f2_.toInt ≤ 399 by omega)) (cwV 0 hC.2.2.2.2 gX12_term_X12_value rfl rfl rfl (by decide +kernel) ⟨Nat.le_of_ble_eq_true rfl, Nat.le_of_ble_eq_true rfl⟩) rfl hl.1 rfl (Nat.le_of_ble_eq_true rfl) dX12_term_1 (fun r319 w321 H locs hp320 hw => ?_)
  obtain ⟨hT, k322, hg351⟩ := hp320
  have hF := hF.tr k322 (by decide)
  have c352 := k322.gi kM_at0 (by decide) cf0_
  rcases hg351 with ⟨rfl, ⟨x323, c324, rx323, tx323⟩, ⟨x325, c326, rx325, tx325⟩, ⟨x327, c328, rx327, tx327⟩⟩ | ⟨rfl, ⟨x329, c330, rx329, tx329⟩, ⟨x331, c332, rx331, tx331⟩, ⟨x333, c334, rx333, tx333⟩⟩ | ⟨rfl, ⟨x335, c336, rx335, tx335⟩, ⟨x337, c338, rx337, tx337⟩, ⟨x339, c340, rx339, tx339⟩, g341, g342⟩ | ⟨rfl, ⟨x343, c344, rx343, tx343⟩, ⟨x345, c346, rx345, tx345⟩, ⟨x347, c348, rx347, tx347⟩, g349, g350⟩
  · have ex327 : x327.toInt = (2 : Int) := by rw [show x327 = 2 from c328.symm.trans c352]; decide
    obtain ⟨x353, c354, rx353, tx353⟩ := hT.rda (lo := 0) (hi := 400) (i := 2) kM_at3 rfl rfl (by decide)
    obtain ⟨x355, c356, rx355, tx355⟩ := hT.rdi (lo := 0) (hi := 60) (k := 18) kM_at0 (by decide) rfl
    refine lv_if_ne (tgt := 9) hx hb dX12_term_4 (by decide) (fun c => absurd (by decide) c) (fun _ => ?_)
    refine lv_iconst (v := 0) hx hb dX12_term_7 (by decide) ?_
    exact tk_zret hC hr rfl hlocks hK ⟨hT, hF, (Or.inl ⟨rfl, ⟨x323, c324, (show 1 ≤ x323.toInt by omega), (show x323.toInt ≤ 400 by omega)⟩, ⟨x325, c326, (show 1 ≤ x325.toInt by omega), (show x325.toInt ≤ 3205 by omega)⟩, ⟨2, c352, (by decide), (by decide)⟩⟩)⟩ hw dX12_term_8
  · have ex333 : x333.toInt = (2 : Int) := by rw [show x333 = 2 from c334.symm.trans c352]; decide
    obtain ⟨x357, c358, rx357, tx357⟩ := hT.rda (lo := 0) (hi := 400) (i := 2) kM_at3 rfl rfl (by decide)
    obtain ⟨x359, c360, rx359, tx359⟩ := hT.rdi (lo := 0) (hi := 60) (k := 18) kM_at0 (by decide) rfl
    refine lv_if_ne (tgt := 9) hx hb dX12_term_4 (by decide) (fun c => absurd (by decide) c) (fun _ => ?_)
    refine lv_iconst (v := 0) hx hb dX12_term_7 (by decide) ?_
    exact tk_zret hC hr rfl hlocks hK ⟨hT, hF, (Or.inr (Or.inl ⟨rfl, ⟨x329, c330, (show 0 ≤ x329.toInt by omega), (show x329.toInt ≤ 400 by omega)⟩, ⟨x331, c332, (show 1 ≤ x331.toInt by omega), (show x331.toInt ≤ 3205 by omega)⟩, ⟨2, c352, (by decide), (by decide)⟩⟩))⟩ hw dX12_term_8
  · have ex337 : x337.toInt = (2 : Int) := by rw [show x337 = 2 from c338.symm.trans c352]; decide
    obtain ⟨x361, c362, rx361, tx361⟩ := hT.rda (lo := 0) (hi := 400) (i := 2) kM_at3 rfl rfl (by decide)
    have g341 : x361.toInt = f2_.toInt + 1 := by have q := g341; simp only [cf2_, c362] at q; omega
    have g342 : x339.toInt = f1_.toInt + 1 := by have q := g342; simp only [cf1_, c340] at q; omega
    refine lv_if_ne (tgt := 9) hx hb dX12_term_4 (by decide) (fun _ => ?_) (fun c => absurd c (by decide))
    exact L9 ((60 - x339.toInt).toNat + 1) x335 x339 x361 H locs ls w321 (show 0 ≤ x335.toInt by omega) (show x335.toInt ≤ 400 by omega) (show 1 ≤ x339.toInt by omega) (show x339.toInt ≤ 60 by omega) (show 0 ≤ x361.toInt by omega) (show x361.toInt ≤ 300 by omega) (show 3 * x361.toInt + 11 ≤ 3 * f2_.toInt + 14 * (x339.toInt - f1_.toInt) by omega) (show f1_.toInt + 1 ≤ x339.toInt by omega) (show x361.toInt ≤ 300 by omega) (Nat.lt_succ_self _) hw hT hF c336 c352 c340 c362 (lv_sub hl [0] rfl)
  · have ex345 : x345.toInt = (2 : Int) := by rw [show x345 = 2 from c346.symm.trans c352]; decide
    obtain ⟨x363, c364, rx363, tx363⟩ := hT.rda (lo := 0) (hi := 400) (i := 2) kM_at3 rfl rfl (by decide)
    have g349 : x363.toInt = f2_.toInt + 1 := by have q := g349; simp only [cf2_, c364] at q; omega
    have g350 : x347.toInt = f1_.toInt + 1 := by have q := g350; simp only [cf1_, c348] at q; omega
    refine lv_if_ne (tgt := 9) hx hb dX12_term_4 (by decide) (fun _ => ?_) (fun c => absurd c (by decide))
    exact L9 ((60 - x347.toInt).toNat + 1) x343 x347 x363 H locs ls w321 (show 0 ≤ x343.toInt by omega) (show x343.toInt ≤ 400 by omega) (show 1 ≤ x347.toInt by omega) (show x347.toInt ≤ 60 by omega) (show 0 ≤ x363.toInt by omega) (show x363.toInt ≤ 300 by omega) (show 3 * x363.toInt + 11 ≤ 3 * f2_.toInt + 14 * (x347.toInt - f1_.toInt) by omega) (show f1_.toInt + 1 ≤ x347.toInt by omega) (show x363.toInt ≤ 300 by omega) (Nat.lt_succ_self _) hw hT hF c344 c352 c348 c364 (lv_sub hl [0] rfl)
