abbrev P_X12_settles_6 (ad : Nat → Nat) (cy : Nat → ClassId) (B : Int) (qr : Nat) (s1 : Int)  (w0 : va_W) : va_W → Prop := fun u => TW ksM ad cy B qr 12 u ∧ FE ksM [(12, 19, 19), (12, 22, 22), (61, 0, 2400), (62, 0, 7)] w0 u ∧ (((∃ y : Int32, gi u 0 17 = y ∧ 1 ≤ y.toInt ∧ y.toInt ≤ 1) ∧ (∃ y : Int32, gi u 0 19 = y ∧ (-60) ≤ y.toInt ∧ y.toInt ≤ 10) ∧ (∃ y : Int32, gi u 0 22 = y ∧ 0 ≤ y.toInt ∧ y.toInt ≤ 390) ∧ ((gi u 3 1).toInt + (gi u 0 22).toInt = (gi w0 3 1).toInt + (gi w0 0 22).toInt) ∧ ((gi u 0 22).toInt ≤ (gi w0 0 22).toInt) ∧ ((gi u 0 22).toInt + (gi w0 0 19).toInt ≤ (gi w0 0 22).toInt + (gi u 0 19).toInt) ∧ ((gi u 0 22).toInt ≤ (gi u 0 19).toInt + (gi w0 0 18).toInt) ∧ ((gi u 0 22).toInt ≤ 390) ∧ ((gi u 3 1).toInt ≤ 390) ∧ (brkN w0 ((gi u 0 22).toInt).toNat = brkN w0 ((gi w0 0 22).toInt).toNat)))
set_option maxHeartbeats 4000000 in
set_option maxRecDepth 100000 in
theorem k_X12_settles_6 (l : Launch) (adK adV : Nat → Nat) (dC : Nat → ClassId) (dI : Nat → Nat → Nat) (cy : Nat → ClassId) (ad : Nat → Nat) (B : Int) (hB0 : 100000 ≤ B) (hB1 : B ≤ 1073741824) (qr : Nat) (s1 : Int)   (w0 : va_W) (sz : Nat) (hT : TW ksM ad cy B qr 12 w0) (cf0_ : gi w0 0 17 = 1) (f1_ : Int32) (cf1_ : gi w0 0 18 = f1_) (rf1_ : 0 ≤ f1_.toInt) (tf1_ : f1_.toInt ≤ 60) (f2_ : Int32) (cf2_ : gi w0 0 19 = f2_) (rf2_ : (-100) ≤ f2_.toInt) (tf2_ : f2_.toInt ≤ 10) (f3_ : Int32) (cf3_ : gi w0 0 22 = f3_) (rf3_ : 0 ≤ f3_.toInt) (tf3_ : f3_.toInt ≤ 400) (f4_ : Int32) (cf4_ : gi w0 3 1 = f4_) (rf4_ : 0 ≤ f4_.toInt) (tf4_ : f4_.toInt ≤ 400) (pr0_ : f4_.toInt + f3_.toInt ≤ 390) (pr1_ : f3_.toInt ≤ f2_.toInt + f1_.toInt) (pr2_ : f4_.toInt ≤ 390) (pr3_ : f3_.toInt ≤ 390) : Met l yX12_settles wsX12_settles ({ frames := 2, cells := 0, slots := 0, locals := 34 }) (va_Pc [.ref (ad 0), .int 2] (wpreS adK adV dC dI cy sz w0)) (va_Qv (P_X12_settles_6 ad cy B qr s1  w0) (fun u : va_W => wpost dC dI cy (va_A w0 sz) u) (va_A w0 sz)) 0 0 (va_A w0 sz) := by
  refine Met.ofW (cc := cX12_settles) (maxL := 2) (ret := none) (by decide) rfl ?_
  intro p e s m args below meth c s₁ Bk hml hv
  obtain ⟨rfl, ⟨hsz, hP, hK, hD0⟩, hE, hSR⟩ := hv
  have hx := Bk.exec
  have hb := Bk.bytes
  have hr := Bk.returns
  have hlocks := Bk.notSynchronized
  have hC : CallFix p m c cX12_settles 2 s _ wsX12_settles RX12 := ⟨hx, hb, hml, findClass_of_methodNamed Bk.named, atoms_spec (ws := wsX12_settles) Bk.pre⟩
  subst hsz
  have hD := hD0.self (sz := s.heap.size)
  generalize hAe : va_A w0 s.heap.size = A at hD hE ⊢
  have hA : ∀ q : Nat, s.heap.size ≤ q → A q := fun q h => by rw [← hAe]; exact Or.inr h
  have hw : Wd dC dI A s.heap s.heap [] w0 := ⟨hP, hD, va_S.rf⟩
  have hF : FE ksM [(12, 19, 19), (12, 22, 22), (61, 0, 2400), (62, 0, 7)] w0 w0 := FE.rf
  have hl := lv_entry ([.ref (ad 0), .int 2]) (n := 2) (Nat.le_of_ble_eq_true rfl)
  rw [lg_entry_eq]
  generalize (lg_sl ([.ref (ad 0), .int 2]) ++ List.replicate (2 - (lg_sl ([.ref (ad 0), .int 2])).length) Slot.unset).toArray = ls at hl ⊢
  have hl : lv_has ls 2 [(0, .ref (ad 0)), (1, .int 2)] := hl
  generalize hloc : ([] : List Loc) = locs at hw ⊢
  have hinX12 : ∀ w ∈ u_ws RX12 TX12 42, w ∈ wsX12_settles := fun _ h => List.mem_cons_of_mem _ (List.mem_append_right _ (h))
  have J76 : ∀ (f76_0_19 : Int32) (f76_0_22 : Int32) (f76_3_1 : Int32) (H : Heap) (locs : List Loc) (ls : Array Slot) (w1 : va_W), 0 ≤ f1_.toInt → f1_.toInt ≤ 60 → (-60) ≤ f76_0_19.toInt → f76_0_19.toInt ≤ 10 → 0 ≤ f76_0_22.toInt → f76_0_22.toInt ≤ 390 → 0 ≤ f76_3_1.toInt → f76_3_1.toInt ≤ 390 → (f76_3_1.toInt + f76_0_22.toInt = f4_.toInt + f3_.toInt) → (f76_0_22.toInt ≤ f3_.toInt) → (f76_0_22.toInt + f2_.toInt ≤ f3_.toInt + f76_0_19.toInt) → (f76_0_22.toInt ≤ f76_0_19.toInt + f1_.toInt) → (f76_3_1.toInt ≤ 390) → (f76_0_22.toInt ≤ 390) → (-60 ≤ f76_0_19.toInt) → (brkN w0 (f76_0_22.toInt).toNat = brkN w0 (f3_.toInt).toNat) → Wd dC dI A s.heap H locs w1 → TW ksM ad cy B qr 12 w1 → FE ksM [(12, 19, 19), (12, 22, 22), (61, 0, 2400), (62, 0, 7)] w0 w1 → gi w1 0 17 = 1 → gi w1 0 18 = f1_ → gi w1 0 19 = f76_0_19 → gi w1 0 22 = f76_0_22 → gi w1 3 1 = f76_3_1 → lv_has ls 2 [(0, .ref (ad 0)), (1, .int 2)] → W p l e ({ frames := 2, cells := 0, slots := 0, locals := 34 }) s m (List.toArray [.ref (ad 0), .int 2]) below meth c H locs 0 0 (MQ below (va_Qv (P_X12_settles_6 ad cy B qr s1  w0) (fun u : va_W => wpost dC dI cy A u) A) (List.toArray [.ref (ad 0), .int 2]) s 0 0 A) (F0 m 76 ls []) := by
    intro f76_0_19 f76_0_22 f76_3_1 H locs ls w1 r3 t4 r6 t7 r9 t10 r12 t13 hcr76_0 hcr76_1 hcr76_2 hcr76_3 hcr76_4 hcr76_5 hcr76_6 hcr76_7 hw hT hF c2 c5 c8 c11 c14 hl
    exact tk_vret hC hr hlocks hK ⟨hT, hF, ⟨⟨1, c2, (by decide), (by decide)⟩, ⟨f76_0_19, c8, (show (-60) ≤ f76_0_19.toInt by omega), (show f76_0_19.toInt ≤ 10 by omega)⟩, ⟨f76_0_22, c11, (show 0 ≤ f76_0_22.toInt by omega), (show f76_0_22.toInt ≤ 390 by omega)⟩, (by simp only [cf4_, c14, cf3_, c11]; omega), (by simp only [cf3_, c11]; omega), (by simp only [cf2_, c8, cf3_, c11]; omega), (by simp only [c8, cf1_, c11]; omega), (by simp only [c11]; omega), (by simp only [c14]; omega), (by simp only [cf3_, c11]; omega)⟩⟩ hw dX12_settles_76
  have L0 : ∀ (n0 : Nat) (f0_0_19 : Int32) (f0_0_22 : Int32) (f0_3_1 : Int32) (H : Heap) (locs : List Loc) (ls : Array Slot) (w15 : va_W), 0 ≤ f1_.toInt → f1_.toInt ≤ 60 → (-60) ≤ f0_0_19.toInt → f0_0_19.toInt ≤ 10 → 0 ≤ f0_0_22.toInt → f0_0_22.toInt ≤ 390 → 0 ≤ f0_3_1.toInt → f0_3_1.toInt ≤ 390 → (f0_3_1.toInt + f0_0_22.toInt = f4_.toInt + f3_.toInt) → (f0_0_22.toInt ≤ f3_.toInt) → (f0_0_22.toInt + f2_.toInt ≤ f3_.toInt + f0_0_19.toInt) → (f0_0_22.toInt ≤ f0_0_19.toInt + f1_.toInt) → (f0_3_1.toInt ≤ 390) → (f0_0_22.toInt ≤ 390) → (-60 ≤ f0_0_19.toInt) → (brkN w0 (f0_0_22.toInt).toNat = brkN w0 (f3_.toInt).toNat) → (f0_0_22.toInt - 0).toNat < n0 → Wd dC dI A s.heap H locs w15 → TW ksM ad cy B qr 12 w15 → FE ksM [(12, 19, 19), (12, 22, 22), (61, 0, 2400), (62, 0, 7)] w0 w15 → gi w15 0 17 = 1 → gi w15 0 18 = f1_ → gi w15 0 19 = f0_0_19 → gi w15 0 22 = f0_0_22 → gi w15 3 1 = f0_3_1 → lv_has ls 2 [(0, .ref (ad 0)), (1, .int 2)] → W p l e ({ frames := 2, cells := 0, slots := 0, locals := 34 }) s m (List.toArray [.ref (ad 0), .int 2]) below meth c H locs 0 0 (MQ below (va_Qv (P_X12_settles_6 ad cy B qr s1  w0) (fun u : va_W => wpost dC dI cy A u) A) (List.toArray [.ref (ad 0), .int 2]) s 0 0 A) (F0 m 0 ls []) := by
    intro n0
    induction n0 with
    | zero => intro f0_0_19 f0_0_22 f0_3_1 H locs ls w15 r17 t18 r20 t21 r23 t24 r26 t27 hcr0_0 hcr0_1 hcr0_2 hcr0_3 hcr0_4 hcr0_5 hcr0_6 hcr0_7 hm0 hw hT hF c16 c19 c22 c25 c28 hl; omega
    | succ n0 ih0 =>
      intro f0_0_19 f0_0_22 f0_3_1 H locs ls w15 r17 t18 r20 t21 r23 t24 r26 t27 hcr0_0 hcr0_1 hcr0_2 hcr0_3 hcr0_4 hcr0_5 hcr0_6 hcr0_7 hm0 hw hT hF c16 c19 c22 c25 c28 hl
      refine lv_aload_n hx hb dX12_settles_0 rfl (lv_at hl 0 rfl) ?_
      refine tk_geti hC hK hw hT hinX12 kM_at0 (by decide) rfl 22 (by decide) (List.mem_of_getElem? (i := 1) rfl) rfl rfl dX12_settles_1 (fun x29 c30 rx29 tx29 => ?_)
      refine wk_top f0_0_22 (c30.symm.trans c25) ?_
      refine lv_if_le (tgt := 76) hx hb dX12_settles_4 (by decide) (fun c31 => ?_) (fun c31 => ?_)
      · have c31 : f0_0_22.toInt ≤ (0 : Int) := wk_le.mp c31
        exact J76 f0_0_19 f0_0_22 f0_3_1 H locs ls w15 (show 0 ≤ f1_.toInt by omega) (show f1_.toInt ≤ 60 by omega) (show (-60) ≤ f0_0_19.toInt by omega) (show f0_0_19.toInt ≤ 10 by omega) (show 0 ≤ f0_0_22.toInt by omega) (show f0_0_22.toInt ≤ 390 by omega) (show 0 ≤ f0_3_1.toInt by omega) (show f0_3_1.toInt ≤ 390 by omega) (show f0_3_1.toInt + f0_0_22.toInt = f4_.toInt + f3_.toInt by omega) (show f0_0_22.toInt ≤ f3_.toInt by omega) (show f0_0_22.toInt + f2_.toInt ≤ f3_.toInt + f0_0_19.toInt by omega) (show f0_0_22.toInt ≤ f0_0_19.toInt + f1_.toInt by omega) (show f0_3_1.toInt ≤ 390 by omega) (show f0_0_22.toInt ≤ 390 by omega) (show -60 ≤ f0_0_19.toInt by omega) (show brkN w0 (f0_0_22.toInt).toNat = brkN w0 (f3_.toInt).toNat from hcr0_7)  hw hT hF c16 c19 c22 c25 c28 (lv_sub hl [0, 1] rfl)
      · have c31 : (0 : Int) < f0_0_22.toInt := wk_leF c31
        refine lv_aload_n hx hb dX12_settles_7 rfl (lv_at hl 0 rfl) ?_
        refine tk_getA hC hK hw hT hinX12 kM_at0 (by decide) rfl 21 (by decide) (List.mem_of_getElem? (i := 2) rfl) rfl rfl dX12_settles_8 ?_
        refine lv_aload_n hx hb dX12_settles_11 rfl (lv_at hl 0 rfl) ?_
        refine tk_geti hC hK hw hT hinX12 kM_at0 (by decide) rfl 22 (by decide) (List.mem_of_getElem? (i := 1) rfl) rfl rfl dX12_settles_12 (fun x32 c33 rx32 tx32 => ?_)
        refine wk_top f0_0_22 (c33.symm.trans c25) ?_
        refine lv_iconst (v := 1) hx hb dX12_settles_15 (by decide) ?_
        refine lv_isub hx hb dX12_settles_16 ?_
        refine lv_topi (fun x34 ex34 => ?_)
        have ex34 : x34.toInt = f0_0_22.toInt - (1 : Int) := by rw [ex34]; exact wk_sub (show (-2147483648) ≤ f0_0_22.toInt - (1 : Int) by omega) (show f0_0_22.toInt - (1 : Int) ≤ 2147483647 by omega)
        refine tk_iald hC hK hw hT kM_at9 rfl rfl (show 0 ≤ x34.toInt by omega) (show x34.toInt < 400 by omega) dX12_settles_17 (fun x35 c36 rx35 tx35 => ?_)
        have c36 : gi w15 9 (1 * f0_0_22.toInt + -1).toNat = x35 := (congrArg (gi w15 9) (congrArg Int.toNat (show 1 * f0_0_22.toInt + -1 = x34.toInt by omega))).trans c36
        refine tk_Si hC hK hw hT hA hE hSR (k_X12_strength_1 l adK adV dC dI cy ad B (by omega) (by omega) qr s1   x35 w15 H.size hT ) (va_cwS 1 hC.2.2.2.2 gX12_settles_X12_strength rfl rfl rfl (by decide +kernel) ⟨Nat.le_of_ble_eq_true rfl, Nat.le_of_ble_eq_true rfl⟩) rfl hl.1 rfl (Nat.le_of_ble_eq_true rfl) dX12_settles_18 (fun r37 w39 H locs hp38 hw => ?_)
        obtain ⟨rfl, hg47⟩ := hp38
        rcases hg47 with rfl | ⟨rfl, g41, g42⟩ | ⟨rfl, g43, g44⟩ | ⟨rfl, g45, g46⟩
        · refine lv_iload_n hx hb dX12_settles_21 rfl (lv_at hl 1 rfl) ?_
          refine lv_icmp_lt (tgt := 76) hx hb dX12_settles_22 (by decide) (fun _ => ?_) (fun c => absurd (by decide) c)
          exact J76 f0_0_19 f0_0_22 f0_3_1 H locs ls w15 (show 0 ≤ f1_.toInt by omega) (show f1_.toInt ≤ 60 by omega) (show (-60) ≤ f0_0_19.toInt by omega) (show f0_0_19.toInt ≤ 10 by omega) (show 0 ≤ f0_0_22.toInt by omega) (show f0_0_22.toInt ≤ 390 by omega) (show 0 ≤ f0_3_1.toInt by omega) (show f0_3_1.toInt ≤ 390 by omega) (show f0_3_1.toInt + f0_0_22.toInt = f4_.toInt + f3_.toInt by omega) (show f0_0_22.toInt ≤ f3_.toInt by omega) (show f0_0_22.toInt + f2_.toInt ≤ f3_.toInt + f0_0_19.toInt by omega) (show f0_0_22.toInt ≤ f0_0_19.toInt + f1_.toInt by omega) (show f0_3_1.toInt ≤ 390 by omega) (show f0_0_22.toInt ≤ 390 by omega) (show -60 ≤ f0_0_19.toInt by omega) (show brkN w0 (f0_0_22.toInt).toNat = brkN w0 (f3_.toInt).toNat from hcr0_7)  hw hT hF c16 c19 c22 c25 c28 (lv_sub hl [0, 1] rfl)
        · refine lv_iload_n hx hb dX12_settles_21 rfl (lv_at hl 1 rfl) ?_
          refine lv_icmp_lt (tgt := 76) hx hb dX12_settles_22 (by decide) (fun _ => ?_) (fun c => absurd (by decide) c)
          exact J76 f0_0_19 f0_0_22 f0_3_1 H locs ls w15 (show 0 ≤ f1_.toInt by omega) (show f1_.toInt ≤ 60 by omega) (show (-60) ≤ f0_0_19.toInt by omega) (show f0_0_19.toInt ≤ 10 by omega) (show 0 ≤ f0_0_22.toInt by omega) (show f0_0_22.toInt ≤ 390 by omega) (show 0 ≤ f0_3_1.toInt by omega) (show f0_3_1.toInt ≤ 390 by omega) (show f0_3_1.toInt + f0_0_22.toInt = f4_.toInt + f3_.toInt by omega) (show f0_0_22.toInt ≤ f3_.toInt by omega) (show f0_0_22.toInt + f2_.toInt ≤ f3_.toInt + f0_0_19.toInt by omega) (show f0_0_22.toInt ≤ f0_0_19.toInt + f1_.toInt by omega) (show f0_3_1.toInt ≤ 390 by omega) (show f0_0_22.toInt ≤ 390 by omega) (show -60 ≤ f0_0_19.toInt by omega) (show brkN w0 (f0_0_22.toInt).toNat = brkN w0 (f3_.toInt).toNat from hcr0_7)  hw hT hF c16 c19 c22 c25 c28 (lv_sub hl [0, 1] rfl)
        · refine lv_iload_n hx hb dX12_settles_21 rfl (lv_at hl 1 rfl) ?_
          refine lv_icmp_lt (tgt := 76) hx hb dX12_settles_22 (by decide) (fun c => absurd c (by decide)) (fun _ => ?_)
          refine lv_aload_n hx hb dX12_settles_25 rfl (lv_at hl 0 rfl) ?_
          refine lv_dup hx hb dX12_settles_26 rfl ?_
          refine tk_geti hC hK hw hT hinX12 kM_at0 (by decide) rfl 22 (by decide) (List.mem_of_getElem? (i := 1) rfl) rfl rfl dX12_settles_27 (fun x48 c49 rx48 tx48 => ?_)
          refine wk_top f0_0_22 (c49.symm.trans c25) ?_
          refine lv_iconst (v := 1) hx hb dX12_settles_30 (by decide) ?_
          refine lv_isub hx hb dX12_settles_31 ?_
          refine lv_topi (fun x50 ex50 => ?_)
          have ex50 : x50.toInt = f0_0_22.toInt - (1 : Int) := by rw [ex50]; exact wk_sub (show (-2147483648) ≤ f0_0_22.toInt - (1 : Int) by omega) (show f0_0_22.toInt - (1 : Int) ≤ 2147483647 by omega)
          refine tk_puti hC hK hw hT hinX12 tyX12_ok nmX12 kM_at0 (by decide) rfl rfl 22 (by decide) (List.mem_of_getElem? (i := 1) rfl) rfl rfl rfl rfl (show 0 ≤ x50.toInt by omega) (show x50.toInt ≤ 400 by omega) dX12_settles_32 (fun H locs w51 hw hT k53 c52 => ?_)
          have hF := hF.put kM_at0 (k := 22) (by decide) k53
          have c54 := k53.gi (Or.inr (by decide)) c16
          have c55 := k53.gi (Or.inr (by decide)) c19
          have c56 := k53.gi (Or.inr (by decide)) c22
          have c57 := k53.gi (Or.inr (by decide)) c28
          have c58 := k53.gi (Or.inl (tk_ne kM_at9 kM_at0 (by decide))) c36
          refine lv_aload_n hx hb dX12_settles_35 rfl (lv_at hl 0 rfl) ?_
          refine lv_aload_n hx hb dX12_settles_36 rfl (lv_at hl 0 rfl) ?_
          refine tk_getA hC hK hw hT hinX12 kM_at0 (by decide) rfl 21 (by decide) (List.mem_of_getElem? (i := 2) rfl) rfl rfl dX12_settles_37 ?_
          refine lv_aload_n hx hb dX12_settles_40 rfl (lv_at hl 0 rfl) ?_
          refine tk_geti hC hK hw hT hinX12 kM_at0 (by decide) rfl 22 (by decide) (List.mem_of_getElem? (i := 1) rfl) rfl rfl dX12_settles_41 (fun x59 c60 rx59 tx59 => ?_)
          refine wk_top x50 (c60.symm.trans c52) ?_
          refine tk_iald hC hK hw hT kM_at9 rfl rfl (show 0 ≤ x50.toInt by omega) (show x50.toInt < 400 by omega) dX12_settles_44 (fun x61 c62 rx61 tx61 => ?_)
          have c62 : gi w51 9 (1 * f0_0_22.toInt + -1).toNat = x61 := (congrArg (gi w51 9) (congrArg Int.toNat (show 1 * f0_0_22.toInt + -1 = x50.toInt by omega))).trans c62
          refine wk_top x35 (c62.symm.trans c58) ?_
          refine lv_iconst (v := 0) hx hb dX12_settles_45 (by decide) ?_
          obtain rfl : x35 = 12 := wk_eq.mpr (show x35.toInt = 12 by omega)
          refine tk_Vv hC hK hw hT hA hE hSR kM_at0 (by decide) rfl (k_X12_puts_2 l adK adV dC dI cy ad B (by omega) (by omega) qr s1   12 (by decide) (by decide) 0 w51 H.size hT c54 f0_3_1 c57 (show 0 ≤ f0_3_1.toInt by omega) (show f0_3_1.toInt ≤ 400 by omega) (show f0_3_1.toInt ≤ 399 by omega)) (cwV 2 hC.2.2.2.2 gX12_settles_X12_puts rfl rfl rfl (by decide +kernel) ⟨Nat.le_of_ble_eq_true rfl, Nat.le_of_ble_eq_true rfl⟩) rfl hl.1 rfl (Nat.le_of_ble_eq_true rfl) dX12_settles_46 (fun w65 H locs hp64 hw => ?_)
          obtain ⟨hT, k66, hg70⟩ := hp64
          have hF := hF.tr k66 (by decide)
          have c71 := k66.gi kM_at0 (by decide) c54
          have c72 := k66.gi kM_at0 (by decide) c55
          have c73 := k66.gi kM_at0 (by decide) c56
          have c74 := k66.gi kM_at9 rfl c58
          have c75 := k66.gi kM_at0 (by decide) c52
          obtain ⟨⟨x67, c68, rx67, tx67⟩, g69⟩ := hg70
          have ex67 : x67.toInt = (1 : Int) := by rw [show x67 = 1 from c68.symm.trans c71]; decide
          obtain ⟨x76, c77, rx76, tx76⟩ := hT.rda (lo := 0) (hi := 400) (i := 1) kM_at3 rfl rfl (by decide)
          have g69 : x76.toInt = f0_3_1.toInt + 1 := by have q := g69; simp only [c57, c77] at q; omega
          refine lv_aload_n hx hb dX12_settles_49 rfl (lv_at hl 0 rfl) ?_
          refine tk_getA hC hK hw hT hinX12 kM_at0 (by decide) rfl 21 (by decide) (List.mem_of_getElem? (i := 2) rfl) rfl rfl dX12_settles_50 ?_
          refine lv_aload_n hx hb dX12_settles_53 rfl (lv_at hl 0 rfl) ?_
          refine tk_geti hC hK hw hT hinX12 kM_at0 (by decide) rfl 22 (by decide) (List.mem_of_getElem? (i := 1) rfl) rfl rfl dX12_settles_54 (fun x78 c79 rx78 tx78 => ?_)
          refine wk_top x50 (c79.symm.trans c75) ?_
          refine tk_iald hC hK hw hT kM_at9 rfl rfl (show 0 ≤ x50.toInt by omega) (show x50.toInt < 400 by omega) dX12_settles_57 (fun x80 c81 rx80 tx80 => ?_)
          have c81 : gi w65 9 (1 * f0_0_22.toInt + -1).toNat = x80 := (congrArg (gi w65 9) (congrArg Int.toNat (show 1 * f0_0_22.toInt + -1 = x50.toInt by omega))).trans c81
          refine wk_top 12 (c81.symm.trans c74) ?_
          refine lv_bipush (v := 11) hx hb dX12_settles_58 (by decide) ?_
          refine lv_icmp_ne (tgt := 0) hx hb dX12_settles_60 (by decide) (fun _ => ?_) (fun c => absurd c (by decide))
          exact ih0 f0_0_19 x50 x76 H locs ls w65 (show 0 ≤ f1_.toInt by omega) (show f1_.toInt ≤ 60 by omega) (show (-60) ≤ f0_0_19.toInt by omega) (show f0_0_19.toInt ≤ 10 by omega) (show 0 ≤ x50.toInt by omega) (show x50.toInt ≤ 390 by omega) (show 0 ≤ x76.toInt by omega) (show x76.toInt ≤ 390 by omega) (show x76.toInt + x50.toInt = f4_.toInt + f3_.toInt by omega) (show x50.toInt ≤ f3_.toInt by omega) (show x50.toInt + f2_.toInt ≤ f3_.toInt + f0_0_19.toInt by omega) (show x50.toInt ≤ f0_0_19.toInt + f1_.toInt by omega) (show x76.toInt ≤ 390 by omega) (show x50.toInt ≤ 390 by omega) (show -60 ≤ f0_0_19.toInt by omega) (show brkN w0 (x50.toInt).toNat = brkN w0 (f3_.toInt).toNat from ((brk_step (by omega) (show f0_0_22.toInt = x50.toInt + 1 by omega) (show ¬ (gi w0 9 (x50.toInt).toNat).toInt = 91 by first | (rw [show (x50.toInt) = 1 * f0_0_22.toInt + -1 by omega, ← hF.gi kM_at9 rfl rfl, c74]; omega) | (rw [show (x50.toInt) = 1 * f0_0_22.toInt + -1 by omega, ← hF.gi kM_at9 rfl rfl, c74]; decide))).trans hcr0_7)) (show (x50.toInt - 0).toNat < n0 by omega) hw hT hF c71 c72 c73 c75 c77 (lv_sub hl [0, 1] rfl)
        · refine lv_iload_n hx hb dX12_settles_21 rfl (lv_at hl 1 rfl) ?_
          refine lv_icmp_lt (tgt := 76) hx hb dX12_settles_22 (by decide) (fun c => absurd c (by decide)) (fun _ => ?_)
          refine lv_aload_n hx hb dX12_settles_25 rfl (lv_at hl 0 rfl) ?_
          refine lv_dup hx hb dX12_settles_26 rfl ?_
          refine tk_geti hC hK hw hT hinX12 kM_at0 (by decide) rfl 22 (by decide) (List.mem_of_getElem? (i := 1) rfl) rfl rfl dX12_settles_27 (fun x82 c83 rx82 tx82 => ?_)
          refine wk_top f0_0_22 (c83.symm.trans c25) ?_
          refine lv_iconst (v := 1) hx hb dX12_settles_30 (by decide) ?_
          refine lv_isub hx hb dX12_settles_31 ?_
          refine lv_topi (fun x84 ex84 => ?_)
          have ex84 : x84.toInt = f0_0_22.toInt - (1 : Int) := by rw [ex84]; exact wk_sub (show (-2147483648) ≤ f0_0_22.toInt - (1 : Int) by omega) (show f0_0_22.toInt - (1 : Int) ≤ 2147483647 by omega)
          refine tk_puti hC hK hw hT hinX12 tyX12_ok nmX12 kM_at0 (by decide) rfl rfl 22 (by decide) (List.mem_of_getElem? (i := 1) rfl) rfl rfl rfl rfl (show 0 ≤ x84.toInt by omega) (show x84.toInt ≤ 400 by omega) dX12_settles_32 (fun H locs w85 hw hT k87 c86 => ?_)
          have hF := hF.put kM_at0 (k := 22) (by decide) k87
          have c88 := k87.gi (Or.inr (by decide)) c16
          have c89 := k87.gi (Or.inr (by decide)) c19
          have c90 := k87.gi (Or.inr (by decide)) c22
          have c91 := k87.gi (Or.inr (by decide)) c28
          have c92 := k87.gi (Or.inl (tk_ne kM_at9 kM_at0 (by decide))) c36
          refine lv_aload_n hx hb dX12_settles_35 rfl (lv_at hl 0 rfl) ?_
          refine lv_aload_n hx hb dX12_settles_36 rfl (lv_at hl 0 rfl) ?_
          refine tk_getA hC hK hw hT hinX12 kM_at0 (by decide) rfl 21 (by decide) (List.mem_of_getElem? (i := 2) rfl) rfl rfl dX12_settles_37 ?_
          refine lv_aload_n hx hb dX12_settles_40 rfl (lv_at hl 0 rfl) ?_
          refine tk_geti hC hK hw hT hinX12 kM_at0 (by decide) rfl 22 (by decide) (List.mem_of_getElem? (i := 1) rfl) rfl rfl dX12_settles_41 (fun x93 c94 rx93 tx93 => ?_)
          refine wk_top x84 (c94.symm.trans c86) ?_
          refine tk_iald hC hK hw hT kM_at9 rfl rfl (show 0 ≤ x84.toInt by omega) (show x84.toInt < 400 by omega) dX12_settles_44 (fun x95 c96 rx95 tx95 => ?_)
          have c96 : gi w85 9 (1 * f0_0_22.toInt + -1).toNat = x95 := (congrArg (gi w85 9) (congrArg Int.toNat (show 1 * f0_0_22.toInt + -1 = x84.toInt by omega))).trans c96
          refine wk_top x35 (c96.symm.trans c92) ?_
          refine lv_iconst (v := 0) hx hb dX12_settles_45 (by decide) ?_
          obtain rfl : x35 = 11 := wk_eq.mpr (show x35.toInt = 11 by omega)
          refine tk_Vv hC hK hw hT hA hE hSR kM_at0 (by decide) rfl (k_X12_puts_2 l adK adV dC dI cy ad B (by omega) (by omega) qr s1   11 (by decide) (by decide) 0 w85 H.size hT c88 f0_3_1 c91 (show 0 ≤ f0_3_1.toInt by omega) (show f0_3_1.toInt ≤ 400 by omega) (show f0_3_1.toInt ≤ 399 by omega)) (cwV 2 hC.2.2.2.2 gX12_settles_X12_puts rfl rfl rfl (by decide +kernel) ⟨Nat.le_of_ble_eq_true rfl, Nat.le_of_ble_eq_true rfl⟩) rfl hl.1 rfl (Nat.le_of_ble_eq_true rfl) dX12_settles_46 (fun w99 H locs hp98 hw => ?_)
          obtain ⟨hT, k100, hg104⟩ := hp98
          have hF := hF.tr k100 (by decide)
          have c105 := k100.gi kM_at0 (by decide) c88
          have c106 := k100.gi kM_at0 (by decide) c89
          have c107 := k100.gi kM_at0 (by decide) c90
          have c108 := k100.gi kM_at9 rfl c92
          have c109 := k100.gi kM_at0 (by decide) c86
          obtain ⟨⟨x101, c102, rx101, tx101⟩, g103⟩ := hg104
          have ex101 : x101.toInt = (1 : Int) := by rw [show x101 = 1 from c102.symm.trans c105]; decide
          obtain ⟨x110, c111, rx110, tx110⟩ := hT.rda (lo := 0) (hi := 400) (i := 1) kM_at3 rfl rfl (by decide)
          have g103 : x110.toInt = f0_3_1.toInt + 1 := by have q := g103; simp only [c91, c111] at q; omega
          refine lv_aload_n hx hb dX12_settles_49 rfl (lv_at hl 0 rfl) ?_
          refine tk_getA hC hK hw hT hinX12 kM_at0 (by decide) rfl 21 (by decide) (List.mem_of_getElem? (i := 2) rfl) rfl rfl dX12_settles_50 ?_
          refine lv_aload_n hx hb dX12_settles_53 rfl (lv_at hl 0 rfl) ?_
          refine tk_geti hC hK hw hT hinX12 kM_at0 (by decide) rfl 22 (by decide) (List.mem_of_getElem? (i := 1) rfl) rfl rfl dX12_settles_54 (fun x112 c113 rx112 tx112 => ?_)
          refine wk_top x84 (c113.symm.trans c109) ?_
          refine tk_iald hC hK hw hT kM_at9 rfl rfl (show 0 ≤ x84.toInt by omega) (show x84.toInt < 400 by omega) dX12_settles_57 (fun x114 c115 rx114 tx114 => ?_)
          have c115 : gi w99 9 (1 * f0_0_22.toInt + -1).toNat = x114 := (congrArg (gi w99 9) (congrArg Int.toNat (show 1 * f0_0_22.toInt + -1 = x84.toInt by omega))).trans c115
          refine wk_top 11 (c115.symm.trans c108) ?_
          refine lv_bipush (v := 11) hx hb dX12_settles_58 (by decide) ?_
          refine lv_icmp_ne (tgt := 0) hx hb dX12_settles_60 (by decide) (fun c => absurd (by decide) c) (fun _ => ?_)
          refine lv_aload_n hx hb dX12_settles_63 rfl (lv_at hl 0 rfl) ?_
          refine lv_dup hx hb dX12_settles_64 rfl ?_
          refine tk_geti hC hK hw hT hinX12 kM_at0 (by decide) rfl 19 (by decide) (List.mem_of_getElem? (i := 3) rfl) rfl rfl dX12_settles_65 (fun x116 c117 rx116 tx116 => ?_)
          refine wk_top f0_0_19 (c117.symm.trans c107) ?_
          refine lv_iconst (v := 1) hx hb dX12_settles_68 (by decide) ?_
          refine lv_isub hx hb dX12_settles_69 ?_
          refine lv_topi (fun x118 ex118 => ?_)
          have ex118 : x118.toInt = f0_0_19.toInt - (1 : Int) := by rw [ex118]; exact wk_sub (show (-2147483648) ≤ f0_0_19.toInt - (1 : Int) by omega) (show f0_0_19.toInt - (1 : Int) ≤ 2147483647 by omega)
          refine tk_puti hC hK hw hT hinX12 tyX12_ok nmX12 kM_at0 (by decide) rfl rfl 19 (by decide) (List.mem_of_getElem? (i := 3) rfl) rfl rfl rfl rfl (show (-100) ≤ x118.toInt by omega) (show x118.toInt ≤ 10 by omega) dX12_settles_70 (fun H locs w119 hw hT k121 c120 => ?_)
          have hF := hF.put kM_at0 (k := 19) (by decide) k121
          have c122 := k121.gi (Or.inr (by decide)) c105
          have c123 := k121.gi (Or.inr (by decide)) c106
          have c124 := k121.gi (Or.inl (tk_ne kM_at9 kM_at0 (by decide))) c108
          have c125 := k121.gi (Or.inr (by decide)) c109
          have c126 := k121.gi (Or.inr (by decide)) c111
          refine lv_goto (tgt := 0) hx hb dX12_settles_73 (by decide) ?_
          exact ih0 x118 x84 x110 H locs ls w119 (show 0 ≤ f1_.toInt by omega) (show f1_.toInt ≤ 60 by omega) (show (-60) ≤ x118.toInt by omega) (show x118.toInt ≤ 10 by omega) (show 0 ≤ x84.toInt by omega) (show x84.toInt ≤ 390 by omega) (show 0 ≤ x110.toInt by omega) (show x110.toInt ≤ 390 by omega) (show x110.toInt + x84.toInt = f4_.toInt + f3_.toInt by omega) (show x84.toInt ≤ f3_.toInt by omega) (show x84.toInt + f2_.toInt ≤ f3_.toInt + x118.toInt by omega) (show x84.toInt ≤ x118.toInt + f1_.toInt by omega) (show x110.toInt ≤ 390 by omega) (show x84.toInt ≤ 390 by omega) (show -60 ≤ x118.toInt by omega) (show brkN w0 (x84.toInt).toNat = brkN w0 (f3_.toInt).toNat from ((brk_step (by omega) (show f0_0_22.toInt = x84.toInt + 1 by omega) (show ¬ (gi w0 9 (x84.toInt).toNat).toInt = 91 by first | (rw [show (x84.toInt) = 1 * f0_0_22.toInt + -1 by omega, ← hF.gi kM_at9 rfl rfl, c124]; omega) | (rw [show (x84.toInt) = 1 * f0_0_22.toInt + -1 by omega, ← hF.gi kM_at9 rfl rfl, c124]; decide))).trans hcr0_7)) (show (x84.toInt - 0).toNat < n0 by omega) hw hT hF c122 c123 c120 c125 c126 (lv_sub hl [0, 1] rfl)
  exact L0 ((f3_.toInt - 0).toNat + 1) f2_ f3_ f4_ s.heap locs ls w0 (show 0 ≤ f1_.toInt by omega) (show f1_.toInt ≤ 60 by omega) (show (-60) ≤ f2_.toInt by omega) (show f2_.toInt ≤ 10 by omega) (show 0 ≤ f3_.toInt by omega) (show f3_.toInt ≤ 390 by omega) (show 0 ≤ f4_.toInt by omega) (show f4_.toInt ≤ 390 by omega) (show f4_.toInt + f3_.toInt = f4_.toInt + f3_.toInt by omega) (show f3_.toInt ≤ f3_.toInt by omega) (show f3_.toInt + f2_.toInt ≤ f3_.toInt + f2_.toInt by omega) (show f3_.toInt ≤ f2_.toInt + f1_.toInt by omega) (show f4_.toInt ≤ 390 by omega) (show f3_.toInt ≤ 390 by omega) (show -60 ≤ f2_.toInt by omega) (show brkN w0 (f3_.toInt).toNat = brkN w0 (f3_.toInt).toNat from rfl) (Nat.lt_succ_self _) hw hT hF cf0_ cf1_ cf2_ cf3_ cf4_ (lv_sub hl [0, 1] rfl)
abbrev P_X12_puts_3 (ad : Nat → Nat) (cy : Nat → ClassId) (B : Int) (qr : Nat) (s1 : Int) (a1 : Int32) (a2 : Int32) (w0 : va_W) : va_W → Prop := fun u => TW ksM ad cy B qr 12 u ∧ FE ksM [(61, 0, 2400), (62, 0, 7)] w0 u ∧ (((∃ y : Int32, gi u 0 17 = y ∧ 2 ≤ y.toInt ∧ y.toInt ≤ 2) ∧ ((gi u 3 2).toInt = (gi w0 3 2).toInt + 1)))
set_option maxHeartbeats 4000000 in
set_option maxRecDepth 100000 in
theorem k_X12_puts_3 (l : Launch) (adK adV : Nat → Nat) (dC : Nat → ClassId) (dI : Nat → Nat → Nat) (cy : Nat → ClassId) (ad : Nat → Nat) (B : Int) (hB0 : 100000 ≤ B) (hB1 : B ≤ 1073741824) (qr : Nat) (s1 : Int)  (a1 : Int32) (ra1 : 0 ≤ a1.toInt) (ta1 : a1.toInt ≤ 400) (a2 : Int32) (w0 : va_W) (sz : Nat) (hT : TW ksM ad cy B qr 12 w0) (cf0_ : gi w0 0 17 = 2) (f1_ : Int32) (cf1_ : gi w0 3 2 = f1_) (rf1_ : 0 ≤ f1_.toInt) (tf1_ : f1_.toInt ≤ 400) (pr0_ : f1_.toInt ≤ 399) : Met l yX12_puts wsX12_puts ({ frames := 1, cells := 0, slots := 0, locals := 12 }) (va_Pc [.ref (ad 0), .int a1, .int a2] (wpreS adK adV dC dI cy sz w0)) (va_Qv (P_X12_puts_3 ad cy B qr s1 a1 a2 w0) (fun u : va_W => wpost dC dI cy (va_A w0 sz) u) (va_A w0 sz)) 0 0 (va_A w0 sz) := by
  refine Met.ofW (cc := cX12_puts) (maxL := 3) (ret := none) (by decide) rfl ?_
  intro p e s m args below meth c s₁ Bk hml hv
  obtain ⟨rfl, ⟨hsz, hP, hK, hD0⟩, hE, hSR⟩ := hv
  have hx := Bk.exec
  have hb := Bk.bytes
  have hr := Bk.returns
  have hlocks := Bk.notSynchronized
  have hC : CallFix p m c cX12_puts 3 s _ wsX12_puts RX12 := ⟨hx, hb, hml, findClass_of_methodNamed Bk.named, atoms_spec (ws := wsX12_puts) Bk.pre⟩
  subst hsz
  have hD := hD0.self (sz := s.heap.size)
  generalize hAe : va_A w0 s.heap.size = A at hD hE ⊢
  have hA : ∀ q : Nat, s.heap.size ≤ q → A q := fun q h => by rw [← hAe]; exact Or.inr h
  have hw : Wd dC dI A s.heap s.heap [] w0 := ⟨hP, hD, va_S.rf⟩
  have hF : FE ksM [(61, 0, 2400), (62, 0, 7)] w0 w0 := FE.rf
  have hl := lv_entry ([.ref (ad 0), .int a1, .int a2]) (n := 3) (Nat.le_of_ble_eq_true rfl)
  rw [lg_entry_eq]
  generalize (lg_sl ([.ref (ad 0), .int a1, .int a2]) ++ List.replicate (3 - (lg_sl ([.ref (ad 0), .int a1, .int a2])).length) Slot.unset).toArray = ls at hl ⊢
  have hl : lv_has ls 3 [(0, .ref (ad 0)), (1, .int a1), (2, .int a2)] := hl
  generalize hloc : ([] : List Loc) = locs at hw ⊢
  have hinX12 : ∀ w ∈ u_ws RX12 TX12 42, w ∈ wsX12_puts := fun _ h => List.mem_cons_of_mem _ (List.mem_append_right _ (h))
  refine lv_aload_n hx hb dX12_puts_0 rfl (lv_at hl 0 rfl) ?_
  refine tk_getA hC hK hw hT hinX12 kM_at0 (by decide) rfl 3 (by decide) (List.mem_of_getElem? (i := 1) rfl) rfl rfl dX12_puts_1 ?_
  refine lv_sipush (v := 400) hx hb dX12_puts_4 (by decide) ?_
  refine lv_aload_n hx hb dX12_puts_7 rfl (lv_at hl 0 rfl) ?_
  refine tk_geti hC hK hw hT hinX12 kM_at0 (by decide) rfl 17 (by decide) (List.mem_of_getElem? (i := 2) rfl) rfl rfl dX12_puts_8 (fun x1 c2 rx1 tx1 => ?_)
  refine wk_top 2 (c2.symm.trans cf0_) ?_
  refine lv_imul hx hb dX12_puts_11 ?_
  refine wk_top 800 (by decide) ?_
  refine lv_aload_n hx hb dX12_puts_12 rfl (lv_at hl 0 rfl) ?_
  refine tk_getA hC hK hw hT hinX12 kM_at0 (by decide) rfl 4 (by decide) (List.mem_of_getElem? (i := 3) rfl) rfl rfl dX12_puts_13 ?_
  refine lv_aload_n hx hb dX12_puts_16 rfl (lv_at hl 0 rfl) ?_
  refine tk_geti hC hK hw hT hinX12 kM_at0 (by decide) rfl 17 (by decide) (List.mem_of_getElem? (i := 2) rfl) rfl rfl dX12_puts_17 (fun x3 c4 rx3 tx3 => ?_)
  refine wk_top 2 (c4.symm.trans cf0_) ?_
  refine tk_iald hC hK hw hT kM_at3 rfl rfl (by decide) (by decide) dX12_puts_20 (fun x5 c6 rx5 tx5 => ?_)
  refine wk_top f1_ (c6.symm.trans cf1_) ?_
  refine lv_iadd hx hb dX12_puts_21 ?_
  refine lv_topi (fun x7 ex7 => ?_)
  have ex7 : x7.toInt = (800 : Int) + f1_.toInt := by rw [ex7]; exact wk_add (show (-2147483648) ≤ (800 : Int) + f1_.toInt by omega) (show (800 : Int) + f1_.toInt ≤ 2147483647 by omega)
  refine lv_iload_n hx hb dX12_puts_22 rfl (lv_at hl 1 rfl) ?_
  refine lv_bipush (v := 16) hx hb dX12_puts_23 (by decide) ?_
  refine lv_iload_n hx hb dX12_puts_25 rfl (lv_at hl 2 rfl) ?_
  refine lv_imul hx hb dX12_puts_26 ?_
  have nx8 := wk_i32 a2
  refine lv_topi (fun x9 ex9 => ?_)
  refine lv_iadd hx hb dX12_puts_27 ?_
  have nx10 := wk_i32 x9
  refine lv_topi (fun x11 ex11 => ?_)
  refine tk_iast hC hK hw hT kM_at2 (by decide) rfl rfl (show 0 ≤ x7.toInt by omega) (show x7.toInt < 2400 by omega) (wk_i32 x11).1 (wk_i32 x11).2 dX12_puts_28 (fun H locs w12 hw hT k14 c13 => ?_)
  have hF := hF.put kM_at2 (inE_of (a := 0) (b := 2400) (by decide) (show 0 ≤ x7.toInt.toNat by omega) (show x7.toInt.toNat ≤ 2400 by omega)) k14
  have c15 := k14.gi (Or.inl (tk_ne kM_at0 kM_at2 (by decide))) cf0_
  have c16 := k14.gi (Or.inl (tk_ne kM_at3 kM_at2 (by decide))) cf1_
  refine lv_aload_n hx hb dX12_puts_29 rfl (lv_at hl 0 rfl) ?_
  refine tk_getA hC hK hw hT hinX12 kM_at0 (by decide) rfl 4 (by decide) (List.mem_of_getElem? (i := 3) rfl) rfl rfl dX12_puts_30 ?_
  refine lv_aload_n hx hb dX12_puts_33 rfl (lv_at hl 0 rfl) ?_
  refine tk_geti hC hK hw hT hinX12 kM_at0 (by decide) rfl 17 (by decide) (List.mem_of_getElem? (i := 2) rfl) rfl rfl dX12_puts_34 (fun x17 c18 rx17 tx17 => ?_)
  refine wk_top 2 (c18.symm.trans c15) ?_
  refine lv_dup2_11 hx hb dX12_puts_37 rfl rfl ?_
  refine tk_iald hC hK hw hT kM_at3 rfl rfl (by decide) (by decide) dX12_puts_38 (fun x19 c20 rx19 tx19 => ?_)
  refine wk_top f1_ (c20.symm.trans c16) ?_
  refine lv_iconst (v := 1) hx hb dX12_puts_39 (by decide) ?_
  refine lv_iadd hx hb dX12_puts_40 ?_
  refine lv_topi (fun x21 ex21 => ?_)
  have ex21 : x21.toInt = f1_.toInt + (1 : Int) := by rw [ex21]; exact wk_add (show (-2147483648) ≤ f1_.toInt + (1 : Int) by omega) (show f1_.toInt + (1 : Int) ≤ 2147483647 by omega)
  refine tk_iast hC hK hw hT kM_at3 (by decide) rfl rfl (by decide) (by decide) (show 0 ≤ x21.toInt by omega) (show x21.toInt ≤ 400 by omega) dX12_puts_41 (fun H locs w22 hw hT k24 c23 => ?_)
  have hF := hF.put kM_at3 (inE_of (a := 0) (b := 7) (by decide) (by decide) (by decide)) k24
  have c25 := k24.gi (Or.inl (tk_ne kM_at0 kM_at3 (by decide))) c15
  have c23 : gi w22 3 2 = x21 := c23
  exact tk_vret hC hr hlocks hK ⟨hT, hF, ⟨⟨2, c25, (by decide), (by decide)⟩, (by simp only [cf1_, c23]; omega)⟩⟩ hw dX12_puts_42
abbrev P_X12_settles_7 (ad : Nat → Nat) (cy : Nat → ClassId) (B : Int) (qr : Nat) (s1 : Int)  (w0 : va_W) : va_W → Prop := fun u => TW ksM ad cy B qr 12 u ∧ FE ksM [(12, 19, 19), (12, 22, 22), (61, 0, 2400), (62, 0, 7)] w0 u ∧ (((∃ y : Int32, gi u 0 17 = y ∧ 2 ≤ y.toInt ∧ y.toInt ≤ 2) ∧ (∃ y : Int32, gi u 0 19 = y ∧ (-60) ≤ y.toInt ∧ y.toInt ≤ 10) ∧ (∃ y : Int32, gi u 0 22 = y ∧ 0 ≤ y.toInt ∧ y.toInt ≤ 390) ∧ ((gi u 3 2).toInt + (gi u 0 22).toInt = (gi w0 3 2).toInt + (gi w0 0 22).toInt) ∧ ((gi u 0 22).toInt ≤ (gi w0 0 22).toInt) ∧ ((gi u 0 22).toInt + (gi w0 0 19).toInt ≤ (gi w0 0 22).toInt + (gi u 0 19).toInt) ∧ ((gi u 0 22).toInt ≤ (gi u 0 19).toInt + (gi w0 0 18).toInt) ∧ ((gi u 0 22).toInt ≤ 390) ∧ ((gi u 3 2).toInt ≤ 390) ∧ (brkN w0 ((gi u 0 22).toInt).toNat = brkN w0 ((gi w0 0 22).toInt).toNat)))
set_option maxHeartbeats 4000000 in
set_option maxRecDepth 100000 in
theorem k_X12_settles_7 (l : Launch) (adK adV : Nat → Nat) (dC : Nat → ClassId) (dI : Nat → Nat → Nat) (cy : Nat → ClassId) (ad : Nat → Nat) (B : Int) (hB0 : 100000 ≤ B) (hB1 : B ≤ 1073741824) (qr : Nat) (s1 : Int)   (w0 : va_W) (sz : Nat) (hT : TW ksM ad cy B qr 12 w0) (cf0_ : gi w0 0 17 = 2) (f1_ : Int32) (cf1_ : gi w0 0 18 = f1_) (rf1_ : 0 ≤ f1_.toInt) (tf1_ : f1_.toInt ≤ 60) (f2_ : Int32) (cf2_ : gi w0 0 19 = f2_) (rf2_ : (-100) ≤ f2_.toInt) (tf2_ : f2_.toInt ≤ 10) (f3_ : Int32) (cf3_ : gi w0 0 22 = f3_) (rf3_ : 0 ≤ f3_.toInt) (tf3_ : f3_.toInt ≤ 400) (f4_ : Int32) (cf4_ : gi w0 3 2 = f4_) (rf4_ : 0 ≤ f4_.toInt) (tf4_ : f4_.toInt ≤ 400) (pr0_ : f4_.toInt + f3_.toInt ≤ 390) (pr1_ : f3_.toInt ≤ f2_.toInt + f1_.toInt) (pr2_ : f4_.toInt ≤ 390) (pr3_ : f3_.toInt ≤ 390) : Met l yX12_settles wsX12_settles ({ frames := 2, cells := 0, slots := 0, locals := 34 }) (va_Pc [.ref (ad 0), .int 1] (wpreS adK adV dC dI cy sz w0)) (va_Qv (P_X12_settles_7 ad cy B qr s1  w0) (fun u : va_W => wpost dC dI cy (va_A w0 sz) u) (va_A w0 sz)) 0 0 (va_A w0 sz) := by
  refine Met.ofW (cc := cX12_settles) (maxL := 2) (ret := none) (by decide) rfl ?_
  intro p e s m args below meth c s₁ Bk hml hv
  obtain ⟨rfl, ⟨hsz, hP, hK, hD0⟩, hE, hSR⟩ := hv
  have hx := Bk.exec
  have hb := Bk.bytes
  have hr := Bk.returns
  have hlocks := Bk.notSynchronized
  have hC : CallFix p m c cX12_settles 2 s _ wsX12_settles RX12 := ⟨hx, hb, hml, findClass_of_methodNamed Bk.named, atoms_spec (ws := wsX12_settles) Bk.pre⟩
  subst hsz
  have hD := hD0.self (sz := s.heap.size)
  generalize hAe : va_A w0 s.heap.size = A at hD hE ⊢
  have hA : ∀ q : Nat, s.heap.size ≤ q → A q := fun q h => by rw [← hAe]; exact Or.inr h
  have hw : Wd dC dI A s.heap s.heap [] w0 := ⟨hP, hD, va_S.rf⟩
  have hF : FE ksM [(12, 19, 19), (12, 22, 22), (61, 0, 2400), (62, 0, 7)] w0 w0 := FE.rf
  have hl := lv_entry ([.ref (ad 0), .int 1]) (n := 2) (Nat.le_of_ble_eq_true rfl)
  rw [lg_entry_eq]
  generalize (lg_sl ([.ref (ad 0), .int 1]) ++ List.replicate (2 - (lg_sl ([.ref (ad 0), .int 1])).length) Slot.unset).toArray = ls at hl ⊢
  have hl : lv_has ls 2 [(0, .ref (ad 0)), (1, .int 1)] := hl
  generalize hloc : ([] : List Loc) = locs at hw ⊢
  have hinX12 : ∀ w ∈ u_ws RX12 TX12 42, w ∈ wsX12_settles := fun _ h => List.mem_cons_of_mem _ (List.mem_append_right _ (h))
  have J76 : ∀ (f76_0_19 : Int32) (f76_0_22 : Int32) (f76_3_2 : Int32) (H : Heap) (locs : List Loc) (ls : Array Slot) (w1 : va_W), 0 ≤ f1_.toInt → f1_.toInt ≤ 60 → (-60) ≤ f76_0_19.toInt → f76_0_19.toInt ≤ 10 → 0 ≤ f76_0_22.toInt → f76_0_22.toInt ≤ 390 → 0 ≤ f76_3_2.toInt → f76_3_2.toInt ≤ 390 → (f76_3_2.toInt + f76_0_22.toInt = f4_.toInt + f3_.toInt) → (f76_0_22.toInt ≤ f3_.toInt) → (f76_0_22.toInt + f2_.toInt ≤ f3_.toInt + f76_0_19.toInt) → (f76_0_22.toInt ≤ f76_0_19.toInt + f1_.toInt) → (f76_3_2.toInt ≤ 390) → (f76_0_22.toInt ≤ 390) → (-60 ≤ f76_0_19.toInt) → (brkN w0 (f76_0_22.toInt).toNat = brkN w0 (f3_.toInt).toNat) → Wd dC dI A s.heap H locs w1 → TW ksM ad cy B qr 12 w1 → FE ksM [(12, 19, 19), (12, 22, 22), (61, 0, 2400), (62, 0, 7)] w0 w1 → gi w1 0 17 = 2 → gi w1 0 18 = f1_ → gi w1 0 19 = f76_0_19 → gi w1 0 22 = f76_0_22 → gi w1 3 2 = f76_3_2 → lv_has ls 2 [(0, .ref (ad 0)), (1, .int 1)] → W p l e ({ frames := 2, cells := 0, slots := 0, locals := 34 }) s m (List.toArray [.ref (ad 0), .int 1]) below meth c H locs 0 0 (MQ below (va_Qv (P_X12_settles_7 ad cy B qr s1  w0) (fun u : va_W => wpost dC dI cy A u) A) (List.toArray [.ref (ad 0), .int 1]) s 0 0 A) (F0 m 76 ls []) := by
    intro f76_0_19 f76_0_22 f76_3_2 H locs ls w1 r3 t4 r6 t7 r9 t10 r12 t13 hcr76_0 hcr76_1 hcr76_2 hcr76_3 hcr76_4 hcr76_5 hcr76_6 hcr76_7 hw hT hF c2 c5 c8 c11 c14 hl
    exact tk_vret hC hr hlocks hK ⟨hT, hF, ⟨⟨2, c2, (by decide), (by decide)⟩, ⟨f76_0_19, c8, (show (-60) ≤ f76_0_19.toInt by omega), (show f76_0_19.toInt ≤ 10 by omega)⟩, ⟨f76_0_22, c11, (show 0 ≤ f76_0_22.toInt by omega), (show f76_0_22.toInt ≤ 390 by omega)⟩, (by simp only [cf4_, c14, cf3_, c11]; omega), (by simp only [cf3_, c11]; omega), (by simp only [cf2_, c8, cf3_, c11]; omega), (by simp only [c8, cf1_, c11]; omega), (by simp only [c11]; omega), (by simp only [c14]; omega), (by simp only [cf3_, c11]; omega)⟩⟩ hw dX12_settles_76
  have L0 : ∀ (n0 : Nat) (f0_0_19 : Int32) (f0_0_22 : Int32) (f0_3_2 : Int32) (H : Heap) (locs : List Loc) (ls : Array Slot) (w15 : va_W), 0 ≤ f1_.toInt → f1_.toInt ≤ 60 → (-60) ≤ f0_0_19.toInt → f0_0_19.toInt ≤ 10 → 0 ≤ f0_0_22.toInt → f0_0_22.toInt ≤ 390 → 0 ≤ f0_3_2.toInt → f0_3_2.toInt ≤ 390 → (f0_3_2.toInt + f0_0_22.toInt = f4_.toInt + f3_.toInt) → (f0_0_22.toInt ≤ f3_.toInt) → (f0_0_22.toInt + f2_.toInt ≤ f3_.toInt + f0_0_19.toInt) → (f0_0_22.toInt ≤ f0_0_19.toInt + f1_.toInt) → (f0_3_2.toInt ≤ 390) → (f0_0_22.toInt ≤ 390) → (-60 ≤ f0_0_19.toInt) → (brkN w0 (f0_0_22.toInt).toNat = brkN w0 (f3_.toInt).toNat) → (f0_0_22.toInt - 0).toNat < n0 → Wd dC dI A s.heap H locs w15 → TW ksM ad cy B qr 12 w15 → FE ksM [(12, 19, 19), (12, 22, 22), (61, 0, 2400), (62, 0, 7)] w0 w15 → gi w15 0 17 = 2 → gi w15 0 18 = f1_ → gi w15 0 19 = f0_0_19 → gi w15 0 22 = f0_0_22 → gi w15 3 2 = f0_3_2 → lv_has ls 2 [(0, .ref (ad 0)), (1, .int 1)] → W p l e ({ frames := 2, cells := 0, slots := 0, locals := 34 }) s m (List.toArray [.ref (ad 0), .int 1]) below meth c H locs 0 0 (MQ below (va_Qv (P_X12_settles_7 ad cy B qr s1  w0) (fun u : va_W => wpost dC dI cy A u) A) (List.toArray [.ref (ad 0), .int 1]) s 0 0 A) (F0 m 0 ls []) := by
    intro n0
    induction n0 with
    | zero => intro f0_0_19 f0_0_22 f0_3_2 H locs ls w15 r17 t18 r20 t21 r23 t24 r26 t27 hcr0_0 hcr0_1 hcr0_2 hcr0_3 hcr0_4 hcr0_5 hcr0_6 hcr0_7 hm0 hw hT hF c16 c19 c22 c25 c28 hl; omega
    | succ n0 ih0 =>
      intro f0_0_19 f0_0_22 f0_3_2 H locs ls w15 r17 t18 r20 t21 r23 t24 r26 t27 hcr0_0 hcr0_1 hcr0_2 hcr0_3 hcr0_4 hcr0_5 hcr0_6 hcr0_7 hm0 hw hT hF c16 c19 c22 c25 c28 hl
      refine lv_aload_n hx hb dX12_settles_0 rfl (lv_at hl 0 rfl) ?_
      refine tk_geti hC hK hw hT hinX12 kM_at0 (by decide) rfl 22 (by decide) (List.mem_of_getElem? (i := 1) rfl) rfl rfl dX12_settles_1 (fun x29 c30 rx29 tx29 => ?_)
      refine wk_top f0_0_22 (c30.symm.trans c25) ?_
      refine lv_if_le (tgt := 76) hx hb dX12_settles_4 (by decide) (fun c31 => ?_) (fun c31 => ?_)
      · have c31 : f0_0_22.toInt ≤ (0 : Int) := wk_le.mp c31
        exact J76 f0_0_19 f0_0_22 f0_3_2 H locs ls w15 (show 0 ≤ f1_.toInt by omega) (show f1_.toInt ≤ 60 by omega) (show (-60) ≤ f0_0_19.toInt by omega) (show f0_0_19.toInt ≤ 10 by omega) (show 0 ≤ f0_0_22.toInt by omega) (show f0_0_22.toInt ≤ 390 by omega) (show 0 ≤ f0_3_2.toInt by omega) (show f0_3_2.toInt ≤ 390 by omega) (show f0_3_2.toInt + f0_0_22.toInt = f4_.toInt + f3_.toInt by omega) (show f0_0_22.toInt ≤ f3_.toInt by omega) (show f0_0_22.toInt + f2_.toInt ≤ f3_.toInt + f0_0_19.toInt by omega) (show f0_0_22.toInt ≤ f0_0_19.toInt + f1_.toInt by omega) (show f0_3_2.toInt ≤ 390 by omega) (show f0_0_22.toInt ≤ 390 by omega) (show -60 ≤ f0_0_19.toInt by omega) (show brkN w0 (f0_0_22.toInt).toNat = brkN w0 (f3_.toInt).toNat from hcr0_7)  hw hT hF c16 c19 c22 c25 c28 (lv_sub hl [0, 1] rfl)
      · have c31 : (0 : Int) < f0_0_22.toInt := wk_leF c31
        refine lv_aload_n hx hb dX12_settles_7 rfl (lv_at hl 0 rfl) ?_
        refine tk_getA hC hK hw hT hinX12 kM_at0 (by decide) rfl 21 (by decide) (List.mem_of_getElem? (i := 2) rfl) rfl rfl dX12_settles_8 ?_
        refine lv_aload_n hx hb dX12_settles_11 rfl (lv_at hl 0 rfl) ?_
        refine tk_geti hC hK hw hT hinX12 kM_at0 (by decide) rfl 22 (by decide) (List.mem_of_getElem? (i := 1) rfl) rfl rfl dX12_settles_12 (fun x32 c33 rx32 tx32 => ?_)
        refine wk_top f0_0_22 (c33.symm.trans c25) ?_
        refine lv_iconst (v := 1) hx hb dX12_settles_15 (by decide) ?_
        refine lv_isub hx hb dX12_settles_16 ?_
        refine lv_topi (fun x34 ex34 => ?_)
        have ex34 : x34.toInt = f0_0_22.toInt - (1 : Int) := by rw [ex34]; exact wk_sub (show (-2147483648) ≤ f0_0_22.toInt - (1 : Int) by omega) (show f0_0_22.toInt - (1 : Int) ≤ 2147483647 by omega)
        refine tk_iald hC hK hw hT kM_at9 rfl rfl (show 0 ≤ x34.toInt by omega) (show x34.toInt < 400 by omega) dX12_settles_17 (fun x35 c36 rx35 tx35 => ?_)
        have c36 : gi w15 9 (1 * f0_0_22.toInt + -1).toNat = x35 := (congrArg (gi w15 9) (congrArg Int.toNat (show 1 * f0_0_22.toInt + -1 = x34.toInt by omega))).trans c36
        refine tk_Si hC hK hw hT hA hE hSR (k_X12_strength_1 l adK adV dC dI cy ad B (by omega) (by omega) qr s1   x35 w15 H.size hT ) (va_cwS 1 hC.2.2.2.2 gX12_settles_X12_strength rfl rfl rfl (by decide +kernel) ⟨Nat.le_of_ble_eq_true rfl, Nat.le_of_ble_eq_true rfl⟩) rfl hl.1 rfl (Nat.le_of_ble_eq_true rfl) dX12_settles_18 (fun r37 w39 H locs hp38 hw => ?_)
        obtain ⟨rfl, hg47⟩ := hp38
        rcases hg47 with rfl | ⟨rfl, g41, g42⟩ | ⟨rfl, g43, g44⟩ | ⟨rfl, g45, g46⟩
        · refine lv_iload_n hx hb dX12_settles_21 rfl (lv_at hl 1 rfl) ?_
          refine lv_icmp_lt (tgt := 76) hx hb dX12_settles_22 (by decide) (fun _ => ?_) (fun c => absurd (by decide) c)
          exact J76 f0_0_19 f0_0_22 f0_3_2 H locs ls w15 (show 0 ≤ f1_.toInt by omega) (show f1_.toInt ≤ 60 by omega) (show (-60) ≤ f0_0_19.toInt by omega) (show f0_0_19.toInt ≤ 10 by omega) (show 0 ≤ f0_0_22.toInt by omega) (show f0_0_22.toInt ≤ 390 by omega) (show 0 ≤ f0_3_2.toInt by omega) (show f0_3_2.toInt ≤ 390 by omega) (show f0_3_2.toInt + f0_0_22.toInt = f4_.toInt + f3_.toInt by omega) (show f0_0_22.toInt ≤ f3_.toInt by omega) (show f0_0_22.toInt + f2_.toInt ≤ f3_.toInt + f0_0_19.toInt by omega) (show f0_0_22.toInt ≤ f0_0_19.toInt + f1_.toInt by omega) (show f0_3_2.toInt ≤ 390 by omega) (show f0_0_22.toInt ≤ 390 by omega) (show -60 ≤ f0_0_19.toInt by omega) (show brkN w0 (f0_0_22.toInt).toNat = brkN w0 (f3_.toInt).toNat from hcr0_7)  hw hT hF c16 c19 c22 c25 c28 (lv_sub hl [0, 1] rfl)
        · refine lv_iload_n hx hb dX12_settles_21 rfl (lv_at hl 1 rfl) ?_
          refine lv_icmp_lt (tgt := 76) hx hb dX12_settles_22 (by decide) (fun c => absurd c (by decide)) (fun _ => ?_)
          refine lv_aload_n hx hb dX12_settles_25 rfl (lv_at hl 0 rfl) ?_
          refine lv_dup hx hb dX12_settles_26 rfl ?_
          refine tk_geti hC hK hw hT hinX12 kM_at0 (by decide) rfl 22 (by decide) (List.mem_of_getElem? (i := 1) rfl) rfl rfl dX12_settles_27 (fun x48 c49 rx48 tx48 => ?_)
          refine wk_top f0_0_22 (c49.symm.trans c25) ?_
          refine lv_iconst (v := 1) hx hb dX12_settles_30 (by decide) ?_
          refine lv_isub hx hb dX12_settles_31 ?_
          refine lv_topi (fun x50 ex50 => ?_)
          have ex50 : x50.toInt = f0_0_22.toInt - (1 : Int) := by rw [ex50]; exact wk_sub (show (-2147483648) ≤ f0_0_22.toInt - (1 : Int) by omega) (show f0_0_22.toInt - (1 : Int) ≤ 2147483647 by omega)
          refine tk_puti hC hK hw hT hinX12 tyX12_ok nmX12 kM_at0 (by decide) rfl rfl 22 (by decide) (List.mem_of_getElem? (i := 1) rfl) rfl rfl rfl rfl (show 0 ≤ x50.toInt by omega) (show x50.toInt ≤ 400 by omega) dX12_settles_32 (fun H locs w51 hw hT k53 c52 => ?_)
          have hF := hF.put kM_at0 (k := 22) (by decide) k53
          have c54 := k53.gi (Or.inr (by decide)) c16
          have c55 := k53.gi (Or.inr (by decide)) c19
          have c56 := k53.gi (Or.inr (by decide)) c22
          have c57 := k53.gi (Or.inr (by decide)) c28
          have c58 := k53.gi (Or.inl (tk_ne kM_at9 kM_at0 (by decide))) c36
          refine lv_aload_n hx hb dX12_settles_35 rfl (lv_at hl 0 rfl) ?_
          refine lv_aload_n hx hb dX12_settles_36 rfl (lv_at hl 0 rfl) ?_
          refine tk_getA hC hK hw hT hinX12 kM_at0 (by decide) rfl 21 (by decide) (List.mem_of_getElem? (i := 2) rfl) rfl rfl dX12_settles_37 ?_
          refine lv_aload_n hx hb dX12_settles_40 rfl (lv_at hl 0 rfl) ?_
          refine tk_geti hC hK hw hT hinX12 kM_at0 (by decide) rfl 22 (by decide) (List.mem_of_getElem? (i := 1) rfl) rfl rfl dX12_settles_41 (fun x59 c60 rx59 tx59 => ?_)
          refine wk_top x50 (c60.symm.trans c52) ?_
          refine tk_iald hC hK hw hT kM_at9 rfl rfl (show 0 ≤ x50.toInt by omega) (show x50.toInt < 400 by omega) dX12_settles_44 (fun x61 c62 rx61 tx61 => ?_)
          have c62 : gi w51 9 (1 * f0_0_22.toInt + -1).toNat = x61 := (congrArg (gi w51 9) (congrArg Int.toNat (show 1 * f0_0_22.toInt + -1 = x50.toInt by omega))).trans c62
          refine wk_top x35 (c62.symm.trans c58) ?_
          refine lv_iconst (v := 0) hx hb dX12_settles_45 (by decide) ?_
          obtain rfl : x35 = 13 := wk_eq.mpr (show x35.toInt = 13 by omega)
          refine tk_Vv hC hK hw hT hA hE hSR kM_at0 (by decide) rfl (k_X12_puts_3 l adK adV dC dI cy ad B (by omega) (by omega) qr s1   13 (by decide) (by decide) 0 w51 H.size hT c54 f0_3_2 c57 (show 0 ≤ f0_3_2.toInt by omega) (show f0_3_2.toInt ≤ 400 by omega) (show f0_3_2.toInt ≤ 399 by omega)) (cwV 2 hC.2.2.2.2 gX12_settles_X12_puts rfl rfl rfl (by decide +kernel) ⟨Nat.le_of_ble_eq_true rfl, Nat.le_of_ble_eq_true rfl⟩) rfl hl.1 rfl (Nat.le_of_ble_eq_true rfl) dX12_settles_46 (fun w65 H locs hp64 hw => ?_)
          obtain ⟨hT, k66, hg70⟩ := hp64
          have hF := hF.tr k66 (by decide)
          have c71 := k66.gi kM_at0 (by decide) c54
          have c72 := k66.gi kM_at0 (by decide) c55
          have c73 := k66.gi kM_at0 (by decide) c56
          have c74 := k66.gi kM_at9 rfl c58
          have c75 := k66.gi kM_at0 (by decide) c52
          obtain ⟨⟨x67, c68, rx67, tx67⟩, g69⟩ := hg70
          have ex67 : x67.toInt = (2 : Int) := by rw [show x67 = 2 from c68.symm.trans c71]; decide
          obtain ⟨x76, c77, rx76, tx76⟩ := hT.rda (lo := 0) (hi := 400) (i := 2) kM_at3 rfl rfl (by decide)
          have g69 : x76.toInt = f0_3_2.toInt + 1 := by have q := g69; simp only [c57, c77] at q; omega
          refine lv_aload_n hx hb dX12_settles_49 rfl (lv_at hl 0 rfl) ?_
          refine tk_getA hC hK hw hT hinX12 kM_at0 (by decide) rfl 21 (by decide) (List.mem_of_getElem? (i := 2) rfl) rfl rfl dX12_settles_50 ?_
          refine lv_aload_n hx hb dX12_settles_53 rfl (lv_at hl 0 rfl) ?_
          refine tk_geti hC hK hw hT hinX12 kM_at0 (by decide) rfl 22 (by decide) (List.mem_of_getElem? (i := 1) rfl) rfl rfl dX12_settles_54 (fun x78 c79 rx78 tx78 => ?_)
          refine wk_top x50 (c79.symm.trans c75) ?_
          refine tk_iald hC hK hw hT kM_at9 rfl rfl (show 0 ≤ x50.toInt by omega) (show x50.toInt < 400 by omega) dX12_settles_57 (fun x80 c81 rx80 tx80 => ?_)
          have c81 : gi w65 9 (1 * f0_0_22.toInt + -1).toNat = x80 := (congrArg (gi w65 9) (congrArg Int.toNat (show 1 * f0_0_22.toInt + -1 = x50.toInt by omega))).trans c81
          refine wk_top 13 (c81.symm.trans c74) ?_
          refine lv_bipush (v := 11) hx hb dX12_settles_58 (by decide) ?_
          refine lv_icmp_ne (tgt := 0) hx hb dX12_settles_60 (by decide) (fun _ => ?_) (fun c => absurd c (by decide))
          exact ih0 f0_0_19 x50 x76 H locs ls w65 (show 0 ≤ f1_.toInt by omega) (show f1_.toInt ≤ 60 by omega) (show (-60) ≤ f0_0_19.toInt by omega) (show f0_0_19.toInt ≤ 10 by omega) (show 0 ≤ x50.toInt by omega) (show x50.toInt ≤ 390 by omega) (show 0 ≤ x76.toInt by omega) (show x76.toInt ≤ 390 by omega) (show x76.toInt + x50.toInt = f4_.toInt + f3_.toInt by omega) (show x50.toInt ≤ f3_.toInt by omega) (show x50.toInt + f2_.toInt ≤ f3_.toInt + f0_0_19.toInt by omega) (show x50.toInt ≤ f0_0_19.toInt + f1_.toInt by omega) (show x76.toInt ≤ 390 by omega) (show x50.toInt ≤ 390 by omega) (show -60 ≤ f0_0_19.toInt by omega) (show brkN w0 (x50.toInt).toNat = brkN w0 (f3_.toInt).toNat from ((brk_step (by omega) (show f0_0_22.toInt = x50.toInt + 1 by omega) (show ¬ (gi w0 9 (x50.toInt).toNat).toInt = 91 by first | (rw [show (x50.toInt) = 1 * f0_0_22.toInt + -1 by omega, ← hF.gi kM_at9 rfl rfl, c74]; omega) | (rw [show (x50.toInt) = 1 * f0_0_22.toInt + -1 by omega, ← hF.gi kM_at9 rfl rfl, c74]; decide))).trans hcr0_7)) (show (x50.toInt - 0).toNat < n0 by omega) hw hT hF c71 c72 c73 c75 c77 (lv_sub hl [0, 1] rfl)
        · refine lv_iload_n hx hb dX12_settles_21 rfl (lv_at hl 1 rfl) ?_
          refine lv_icmp_lt (tgt := 76) hx hb dX12_settles_22 (by decide) (fun c => absurd c (by decide)) (fun _ => ?_)
          refine lv_aload_n hx hb dX12_settles_25 rfl (lv_at hl 0 rfl) ?_
          refine lv_dup hx hb dX12_settles_26 rfl ?_
          refine tk_geti hC hK hw hT hinX12 kM_at0 (by decide) rfl 22 (by decide) (List.mem_of_getElem? (i := 1) rfl) rfl rfl dX12_settles_27 (fun x82 c83 rx82 tx82 => ?_)
          refine wk_top f0_0_22 (c83.symm.trans c25) ?_
          refine lv_iconst (v := 1) hx hb dX12_settles_30 (by decide) ?_
          refine lv_isub hx hb dX12_settles_31 ?_
          refine lv_topi (fun x84 ex84 => ?_)
          have ex84 : x84.toInt = f0_0_22.toInt - (1 : Int) := by rw [ex84]; exact wk_sub (show (-2147483648) ≤ f0_0_22.toInt - (1 : Int) by omega) (show f0_0_22.toInt - (1 : Int) ≤ 2147483647 by omega)
          refine tk_puti hC hK hw hT hinX12 tyX12_ok nmX12 kM_at0 (by decide) rfl rfl 22 (by decide) (List.mem_of_getElem? (i := 1) rfl) rfl rfl rfl rfl (show 0 ≤ x84.toInt by omega) (show x84.toInt ≤ 400 by omega) dX12_settles_32 (fun H locs w85 hw hT k87 c86 => ?_)
          have hF := hF.put kM_at0 (k := 22) (by decide) k87
          have c88 := k87.gi (Or.inr (by decide)) c16
          have c89 := k87.gi (Or.inr (by decide)) c19
          have c90 := k87.gi (Or.inr (by decide)) c22
          have c91 := k87.gi (Or.inr (by decide)) c28
          have c92 := k87.gi (Or.inl (tk_ne kM_at9 kM_at0 (by decide))) c36
          refine lv_aload_n hx hb dX12_settles_35 rfl (lv_at hl 0 rfl) ?_
          refine lv_aload_n hx hb dX12_settles_36 rfl (lv_at hl 0 rfl) ?_
          refine tk_getA hC hK hw hT hinX12 kM_at0 (by decide) rfl 21 (by decide) (List.mem_of_getElem? (i := 2) rfl) rfl rfl dX12_settles_37 ?_
          refine lv_aload_n hx hb dX12_settles_40 rfl (lv_at hl 0 rfl) ?_
          refine tk_geti hC hK hw hT hinX12 kM_at0 (by decide) rfl 22 (by decide) (List.mem_of_getElem? (i := 1) rfl) rfl rfl dX12_settles_41 (fun x93 c94 rx93 tx93 => ?_)
          refine wk_top x84 (c94.symm.trans c86) ?_
          refine tk_iald hC hK hw hT kM_at9 rfl rfl (show 0 ≤ x84.toInt by omega) (show x84.toInt < 400 by omega) dX12_settles_44 (fun x95 c96 rx95 tx95 => ?_)
          have c96 : gi w85 9 (1 * f0_0_22.toInt + -1).toNat = x95 := (congrArg (gi w85 9) (congrArg Int.toNat (show 1 * f0_0_22.toInt + -1 = x84.toInt by omega))).trans c96
          refine wk_top x35 (c96.symm.trans c92) ?_
          refine lv_iconst (v := 0) hx hb dX12_settles_45 (by decide) ?_
          obtain rfl : x35 = 12 := wk_eq.mpr (show x35.toInt = 12 by omega)
          refine tk_Vv hC hK hw hT hA hE hSR kM_at0 (by decide) rfl (k_X12_puts_3 l adK adV dC dI cy ad B (by omega) (by omega) qr s1   12 (by decide) (by decide) 0 w85 H.size hT c88 f0_3_2 c91 (show 0 ≤ f0_3_2.toInt by omega) (show f0_3_2.toInt ≤ 400 by omega) (show f0_3_2.toInt ≤ 399 by omega)) (cwV 2 hC.2.2.2.2 gX12_settles_X12_puts rfl rfl rfl (by decide +kernel) ⟨Nat.le_of_ble_eq_true rfl, Nat.le_of_ble_eq_true rfl⟩) rfl hl.1 rfl (Nat.le_of_ble_eq_true rfl) dX12_settles_46 (fun w99 H locs hp98 hw => ?_)
          obtain ⟨hT, k100, hg104⟩ := hp98
          have hF := hF.tr k100 (by decide)
          have c105 := k100.gi kM_at0 (by decide) c88
          have c106 := k100.gi kM_at0 (by decide) c89
          have c107 := k100.gi kM_at0 (by decide) c90
          have c108 := k100.gi kM_at9 rfl c92
          have c109 := k100.gi kM_at0 (by decide) c86
          obtain ⟨⟨x101, c102, rx101, tx101⟩, g103⟩ := hg104
          have ex101 : x101.toInt = (2 : Int) := by rw [show x101 = 2 from c102.symm.trans c105]; decide
          obtain ⟨x110, c111, rx110, tx110⟩ := hT.rda (lo := 0) (hi := 400) (i := 2) kM_at3 rfl rfl (by decide)
          have g103 : x110.toInt = f0_3_2.toInt + 1 := by have q := g103; simp only [c91, c111] at q; omega
          refine lv_aload_n hx hb dX12_settles_49 rfl (lv_at hl 0 rfl) ?_
          refine tk_getA hC hK hw hT hinX12 kM_at0 (by decide) rfl 21 (by decide) (List.mem_of_getElem? (i := 2) rfl) rfl rfl dX12_settles_50 ?_
          refine lv_aload_n hx hb dX12_settles_53 rfl (lv_at hl 0 rfl) ?_
          refine tk_geti hC hK hw hT hinX12 kM_at0 (by decide) rfl 22 (by decide) (List.mem_of_getElem? (i := 1) rfl) rfl rfl dX12_settles_54 (fun x112 c113 rx112 tx112 => ?_)
          refine wk_top x84 (c113.symm.trans c109) ?_
          refine tk_iald hC hK hw hT kM_at9 rfl rfl (show 0 ≤ x84.toInt by omega) (show x84.toInt < 400 by omega) dX12_settles_57 (fun x114 c115 rx114 tx114 => ?_)
          have c115 : gi w99 9 (1 * f0_0_22.toInt + -1).toNat = x114 := (congrArg (gi w99 9) (congrArg Int.toNat (show 1 * f0_0_22.toInt + -1 = x84.toInt by omega))).trans c115
          refine wk_top 12 (c115.symm.trans c108) ?_
          refine lv_bipush (v := 11) hx hb dX12_settles_58 (by decide) ?_
          refine lv_icmp_ne (tgt := 0) hx hb dX12_settles_60 (by decide) (fun _ => ?_) (fun c => absurd c (by decide))
          exact ih0 f0_0_19 x84 x110 H locs ls w99 (show 0 ≤ f1_.toInt by omega) (show f1_.toInt ≤ 60 by omega) (show (-60) ≤ f0_0_19.toInt by omega) (show f0_0_19.toInt ≤ 10 by omega) (show 0 ≤ x84.toInt by omega) (show x84.toInt ≤ 390 by omega) (show 0 ≤ x110.toInt by omega) (show x110.toInt ≤ 390 by omega) (show x110.toInt + x84.toInt = f4_.toInt + f3_.toInt by omega) (show x84.toInt ≤ f3_.toInt by omega) (show x84.toInt + f2_.toInt ≤ f3_.toInt + f0_0_19.toInt by omega) (show x84.toInt ≤ f0_0_19.toInt + f1_.toInt by omega) (show x110.toInt ≤ 390 by omega) (show x84.toInt ≤ 390 by omega) (show -60 ≤ f0_0_19.toInt by omega) (show brkN w0 (x84.toInt).toNat = brkN w0 (f3_.toInt).toNat from ((brk_step (by omega) (show f0_0_22.toInt = x84.toInt + 1 by omega) (show ¬ (gi w0 9 (x84.toInt).toNat).toInt = 91 by first | (rw [show (x84.toInt) = 1 * f0_0_22.toInt + -1 by omega, ← hF.gi kM_at9 rfl rfl, c108]; omega) | (rw [show (x84.toInt) = 1 * f0_0_22.toInt + -1 by omega, ← hF.gi kM_at9 rfl rfl, c108]; decide))).trans hcr0_7)) (show (x84.toInt - 0).toNat < n0 by omega) hw hT hF c105 c106 c107 c109 c111 (lv_sub hl [0, 1] rfl)
        · refine lv_iload_n hx hb dX12_settles_21 rfl (lv_at hl 1 rfl) ?_
          refine lv_icmp_lt (tgt := 76) hx hb dX12_settles_22 (by decide) (fun c => absurd c (by decide)) (fun _ => ?_)
          refine lv_aload_n hx hb dX12_settles_25 rfl (lv_at hl 0 rfl) ?_
          refine lv_dup hx hb dX12_settles_26 rfl ?_
          refine tk_geti hC hK hw hT hinX12 kM_at0 (by decide) rfl 22 (by decide) (List.mem_of_getElem? (i := 1) rfl) rfl rfl dX12_settles_27 (fun x116 c117 rx116 tx116 => ?_)
          refine wk_top f0_0_22 (c117.symm.trans c25) ?_
          refine lv_iconst (v := 1) hx hb dX12_settles_30 (by decide) ?_
          refine lv_isub hx hb dX12_settles_31 ?_
          refine lv_topi (fun x118 ex118 => ?_)
          have ex118 : x118.toInt = f0_0_22.toInt - (1 : Int) := by rw [ex118]; exact wk_sub (show (-2147483648) ≤ f0_0_22.toInt - (1 : Int) by omega) (show f0_0_22.toInt - (1 : Int) ≤ 2147483647 by omega)
          refine tk_puti hC hK hw hT hinX12 tyX12_ok nmX12 kM_at0 (by decide) rfl rfl 22 (by decide) (List.mem_of_getElem? (i := 1) rfl) rfl rfl rfl rfl (show 0 ≤ x118.toInt by omega) (show x118.toInt ≤ 400 by omega) dX12_settles_32 (fun H locs w119 hw hT k121 c120 => ?_)
          have hF := hF.put kM_at0 (k := 22) (by decide) k121
          have c122 := k121.gi (Or.inr (by decide)) c16
          have c123 := k121.gi (Or.inr (by decide)) c19
          have c124 := k121.gi (Or.inr (by decide)) c22
          have c125 := k121.gi (Or.inr (by decide)) c28
          have c126 := k121.gi (Or.inl (tk_ne kM_at9 kM_at0 (by decide))) c36
          refine lv_aload_n hx hb dX12_settles_35 rfl (lv_at hl 0 rfl) ?_
          refine lv_aload_n hx hb dX12_settles_36 rfl (lv_at hl 0 rfl) ?_
          refine tk_getA hC hK hw hT hinX12 kM_at0 (by decide) rfl 21 (by decide) (List.mem_of_getElem? (i := 2) rfl) rfl rfl dX12_settles_37 ?_
          refine lv_aload_n hx hb dX12_settles_40 rfl (lv_at hl 0 rfl) ?_
          refine tk_geti hC hK hw hT hinX12 kM_at0 (by decide) rfl 22 (by decide) (List.mem_of_getElem? (i := 1) rfl) rfl rfl dX12_settles_41 (fun x127 c128 rx127 tx127 => ?_)
          refine wk_top x118 (c128.symm.trans c120) ?_
          refine tk_iald hC hK hw hT kM_at9 rfl rfl (show 0 ≤ x118.toInt by omega) (show x118.toInt < 400 by omega) dX12_settles_44 (fun x129 c130 rx129 tx129 => ?_)
          have c130 : gi w119 9 (1 * f0_0_22.toInt + -1).toNat = x129 := (congrArg (gi w119 9) (congrArg Int.toNat (show 1 * f0_0_22.toInt + -1 = x118.toInt by omega))).trans c130
          refine wk_top x35 (c130.symm.trans c126) ?_
          refine lv_iconst (v := 0) hx hb dX12_settles_45 (by decide) ?_
          obtain rfl : x35 = 11 := wk_eq.mpr (show x35.toInt = 11 by omega)
          refine tk_Vv hC hK hw hT hA hE hSR kM_at0 (by decide) rfl (k_X12_puts_3 l adK adV dC dI cy ad B (by omega) (by omega) qr s1   11 (by decide) (by decide) 0 w119 H.size hT c122 f0_3_2 c125 (show 0 ≤ f0_3_2.toInt by omega) (show f0_3_2.toInt ≤ 400 by omega) (show f0_3_2.toInt ≤ 399 by omega)) (cwV 2 hC.2.2.2.2 gX12_settles_X12_puts rfl rfl rfl (by decide +kernel) ⟨Nat.le_of_ble_eq_true rfl, Nat.le_of_ble_eq_true rfl⟩) rfl hl.1 rfl (Nat.le_of_ble_eq_true rfl) dX12_settles_46 (fun w133 H locs hp132 hw => ?_)
          obtain ⟨hT, k134, hg138⟩ := hp132
          have hF := hF.tr k134 (by decide)
          have c139 := k134.gi kM_at0 (by decide) c122
          have c140 := k134.gi kM_at0 (by decide) c123
          have c141 := k134.gi kM_at0 (by decide) c124
          have c142 := k134.gi kM_at9 rfl c126
          have c143 := k134.gi kM_at0 (by decide) c120
          obtain ⟨⟨x135, c136, rx135, tx135⟩, g137⟩ := hg138
          have ex135 : x135.toInt = (2 : Int) := by rw [show x135 = 2 from c136.symm.trans c139]; decide
          obtain ⟨x144, c145, rx144, tx144⟩ := hT.rda (lo := 0) (hi := 400) (i := 2) kM_at3 rfl rfl (by decide)
          have g137 : x144.toInt = f0_3_2.toInt + 1 := by have q := g137; simp only [c125, c145] at q; omega
          refine lv_aload_n hx hb dX12_settles_49 rfl (lv_at hl 0 rfl) ?_
          refine tk_getA hC hK hw hT hinX12 kM_at0 (by decide) rfl 21 (by decide) (List.mem_of_getElem? (i := 2) rfl) rfl rfl dX12_settles_50 ?_
          refine lv_aload_n hx hb dX12_settles_53 rfl (lv_at hl 0 rfl) ?_
          refine tk_geti hC hK hw hT hinX12 kM_at0 (by decide) rfl 22 (by decide) (List.mem_of_getElem? (i := 1) rfl) rfl rfl dX12_settles_54 (fun x146 c147 rx146 tx146 => ?_)
          refine wk_top x118 (c147.symm.trans c143) ?_
          refine tk_iald hC hK hw hT kM_at9 rfl rfl (show 0 ≤ x118.toInt by omega) (show x118.toInt < 400 by omega) dX12_settles_57 (fun x148 c149 rx148 tx148 => ?_)
          have c149 : gi w133 9 (1 * f0_0_22.toInt + -1).toNat = x148 := (congrArg (gi w133 9) (congrArg Int.toNat (show 1 * f0_0_22.toInt + -1 = x118.toInt by omega))).trans c149
          refine wk_top 11 (c149.symm.trans c142) ?_
          refine lv_bipush (v := 11) hx hb dX12_settles_58 (by decide) ?_
          refine lv_icmp_ne (tgt := 0) hx hb dX12_settles_60 (by decide) (fun c => absurd (by decide) c) (fun _ => ?_)
          refine lv_aload_n hx hb dX12_settles_63 rfl (lv_at hl 0 rfl) ?_
          refine lv_dup hx hb dX12_settles_64 rfl ?_
          refine tk_geti hC hK hw hT hinX12 kM_at0 (by decide) rfl 19 (by decide) (List.mem_of_getElem? (i := 3) rfl) rfl rfl dX12_settles_65 (fun x150 c151 rx150 tx150 => ?_)
          refine wk_top f0_0_19 (c151.symm.trans c141) ?_
          refine lv_iconst (v := 1) hx hb dX12_settles_68 (by decide) ?_
          refine lv_isub hx hb dX12_settles_69 ?_
          refine lv_topi (fun x152 ex152 => ?_)
          have ex152 : x152.toInt = f0_0_19.toInt - (1 : Int) := by rw [ex152]; exact wk_sub (show (-2147483648) ≤ f0_0_19.toInt - (1 : Int) by omega) (show f0_0_19.toInt - (1 : Int) ≤ 2147483647 by omega)
          refine tk_puti hC hK hw hT hinX12 tyX12_ok nmX12 kM_at0 (by decide) rfl rfl 19 (by decide) (List.mem_of_getElem? (i := 3) rfl) rfl rfl rfl rfl (show (-100) ≤ x152.toInt by omega) (show x152.toInt ≤ 10 by omega) dX12_settles_70 (fun H locs w153 hw hT k155 c154 => ?_)
          have hF := hF.put kM_at0 (k := 19) (by decide) k155
          have c156 := k155.gi (Or.inr (by decide)) c139
          have c157 := k155.gi (Or.inr (by decide)) c140
          have c158 := k155.gi (Or.inl (tk_ne kM_at9 kM_at0 (by decide))) c142
          have c159 := k155.gi (Or.inr (by decide)) c143
          have c160 := k155.gi (Or.inr (by decide)) c145
          refine lv_goto (tgt := 0) hx hb dX12_settles_73 (by decide) ?_
          exact ih0 x152 x118 x144 H locs ls w153 (show 0 ≤ f1_.toInt by omega) (show f1_.toInt ≤ 60 by omega) (show (-60) ≤ x152.toInt by omega) (show x152.toInt ≤ 10 by omega) (show 0 ≤ x118.toInt by omega) (show x118.toInt ≤ 390 by omega) (show 0 ≤ x144.toInt by omega) (show x144.toInt ≤ 390 by omega) (show x144.toInt + x118.toInt = f4_.toInt + f3_.toInt by omega) (show x118.toInt ≤ f3_.toInt by omega) (show x118.toInt + f2_.toInt ≤ f3_.toInt + x152.toInt by omega) (show x118.toInt ≤ x152.toInt + f1_.toInt by omega) (show x144.toInt ≤ 390 by omega) (show x118.toInt ≤ 390 by omega) (show -60 ≤ x152.toInt by omega) (show brkN w0 (x118.toInt).toNat = brkN w0 (f3_.toInt).toNat from ((brk_step (by omega) (show f0_0_22.toInt = x118.toInt + 1 by omega) (show ¬ (gi w0 9 (x118.toInt).toNat).toInt = 91 by first | (rw [show (x118.toInt) = 1 * f0_0_22.toInt + -1 by omega, ← hF.gi kM_at9 rfl rfl, c158]; omega) | (rw [show (x118.toInt) = 1 * f0_0_22.toInt + -1 by omega, ← hF.gi kM_at9 rfl rfl, c158]; decide))).trans hcr0_7)) (show (x118.toInt - 0).toNat < n0 by omega) hw hT hF c156 c157 c154 c159 c160 (lv_sub hl [0, 1] rfl)
  exact L0 ((f3_.toInt - 0).toNat + 1) f2_ f3_ f4_ s.heap locs ls w0 (show 0 ≤ f1_.toInt by omega) (show f1_.toInt ≤ 60 by omega) (show (-60) ≤ f2_.toInt by omega) (show f2_.toInt ≤ 10 by omega) (show 0 ≤ f3_.toInt by omega) (show f3_.toInt ≤ 390 by omega) (show 0 ≤ f4_.toInt by omega) (show f4_.toInt ≤ 390 by omega) (show f4_.toInt + f3_.toInt = f4_.toInt + f3_.toInt by omega) (show f3_.toInt ≤ f3_.toInt by omega) (show f3_.toInt + f2_.toInt ≤ f3_.toInt + f2_.toInt by omega) (show f3_.toInt ≤ f2_.toInt + f1_.toInt by omega) (show f4_.toInt ≤ 390 by omega) (show f3_.toInt ≤ 390 by omega) (show -60 ≤ f2_.toInt by omega) (show brkN w0 (f3_.toInt).toNat = brkN w0 (f3_.toInt).toNat from rfl) (Nat.lt_succ_self _) hw hT hF cf0_ cf1_ cf2_ cf3_ cf4_ (lv_sub hl [0, 1] rfl)
abbrev P_X12_settles_8 (ad : Nat → Nat) (cy : Nat → ClassId) (B : Int) (qr : Nat) (s1 : Int)  (w0 : va_W) : va_W → Prop := fun u => TW ksM ad cy B qr 12 u ∧ FE ksM [(12, 19, 19), (12, 22, 22), (61, 0, 2400), (62, 0, 7)] w0 u ∧ (((∃ y : Int32, gi u 0 17 = y ∧ 2 ≤ y.toInt ∧ y.toInt ≤ 2) ∧ (∃ y : Int32, gi u 0 19 = y ∧ (-60) ≤ y.toInt ∧ y.toInt ≤ 10) ∧ (∃ y : Int32, gi u 0 22 = y ∧ 0 ≤ y.toInt ∧ y.toInt ≤ 390) ∧ ((gi u 3 2).toInt + (gi u 0 22).toInt = (gi w0 3 2).toInt + (gi w0 0 22).toInt) ∧ ((gi u 0 22).toInt ≤ (gi w0 0 22).toInt) ∧ ((gi u 0 22).toInt + (gi w0 0 19).toInt ≤ (gi w0 0 22).toInt + (gi u 0 19).toInt) ∧ ((gi u 0 22).toInt ≤ (gi u 0 19).toInt + (gi w0 0 18).toInt) ∧ ((gi u 0 22).toInt ≤ 390) ∧ ((gi u 3 2).toInt ≤ 390) ∧ (brkN w0 ((gi u 0 22).toInt).toNat = brkN w0 ((gi w0 0 22).toInt).toNat)))
set_option maxHeartbeats 4000000 in
set_option maxRecDepth 100000 in
theorem k_X12_settles_8 (l : Launch) (adK adV : Nat → Nat) (dC : Nat → ClassId) (dI : Nat → Nat → Nat) (cy : Nat → ClassId) (ad : Nat → Nat) (B : Int) (hB0 : 100000 ≤ B) (hB1 : B ≤ 1073741824) (qr : Nat) (s1 : Int)   (w0 : va_W) (sz : Nat) (hT : TW ksM ad cy B qr 12 w0) (cf0_ : gi w0 0 17 = 2) (f1_ : Int32) (cf1_ : gi w0 0 18 = f1_) (rf1_ : 0 ≤ f1_.toInt) (tf1_ : f1_.toInt ≤ 60) (f2_ : Int32) (cf2_ : gi w0 0 19 = f2_) (rf2_ : (-100) ≤ f2_.toInt) (tf2_ : f2_.toInt ≤ 10) (f3_ : Int32) (cf3_ : gi w0 0 22 = f3_) (rf3_ : 0 ≤ f3_.toInt) (tf3_ : f3_.toInt ≤ 400) (f4_ : Int32) (cf4_ : gi w0 3 2 = f4_) (rf4_ : 0 ≤ f4_.toInt) (tf4_ : f4_.toInt ≤ 400) (pr0_ : f4_.toInt + f3_.toInt ≤ 390) (pr1_ : f3_.toInt ≤ f2_.toInt + f1_.toInt) (pr2_ : f4_.toInt ≤ 390) (pr3_ : f3_.toInt ≤ 390) : Met l yX12_settles wsX12_settles ({ frames := 2, cells := 0, slots := 0, locals := 34 }) (va_Pc [.ref (ad 0), .int 3] (wpreS adK adV dC dI cy sz w0)) (va_Qv (P_X12_settles_8 ad cy B qr s1  w0) (fun u : va_W => wpost dC dI cy (va_A w0 sz) u) (va_A w0 sz)) 0 0 (va_A w0 sz) := by
  refine Met.ofW (cc := cX12_settles) (maxL := 2) (ret := none) (by decide) rfl ?_
  intro p e s m args below meth c s₁ Bk hml hv
  obtain ⟨rfl, ⟨hsz, hP, hK, hD0⟩, hE, hSR⟩ := hv
  have hx := Bk.exec
  have hb := Bk.bytes
  have hr := Bk.returns
  have hlocks := Bk.notSynchronized
  have hC : CallFix p m c cX12_settles 2 s _ wsX12_settles RX12 := ⟨hx, hb, hml, findClass_of_methodNamed Bk.named, atoms_spec (ws := wsX12_settles) Bk.pre⟩
  subst hsz
  have hD := hD0.self (sz := s.heap.size)
  generalize hAe : va_A w0 s.heap.size = A at hD hE ⊢
  have hA : ∀ q : Nat, s.heap.size ≤ q → A q := fun q h => by rw [← hAe]; exact Or.inr h
  have hw : Wd dC dI A s.heap s.heap [] w0 := ⟨hP, hD, va_S.rf⟩
  have hF : FE ksM [(12, 19, 19), (12, 22, 22), (61, 0, 2400), (62, 0, 7)] w0 w0 := FE.rf
  have hl := lv_entry ([.ref (ad 0), .int 3]) (n := 2) (Nat.le_of_ble_eq_true rfl)
  rw [lg_entry_eq]
  generalize (lg_sl ([.ref (ad 0), .int 3]) ++ List.replicate (2 - (lg_sl ([.ref (ad 0), .int 3])).length) Slot.unset).toArray = ls at hl ⊢
  have hl : lv_has ls 2 [(0, .ref (ad 0)), (1, .int 3)] := hl
  generalize hloc : ([] : List Loc) = locs at hw ⊢
  have hinX12 : ∀ w ∈ u_ws RX12 TX12 42, w ∈ wsX12_settles := fun _ h => List.mem_cons_of_mem _ (List.mem_append_right _ (h))
  have J76 : ∀ (f76_0_19 : Int32) (f76_0_22 : Int32) (f76_3_2 : Int32) (H : Heap) (locs : List Loc) (ls : Array Slot) (w1 : va_W), 0 ≤ f1_.toInt → f1_.toInt ≤ 60 → (-60) ≤ f76_0_19.toInt → f76_0_19.toInt ≤ 10 → 0 ≤ f76_0_22.toInt → f76_0_22.toInt ≤ 390 → 0 ≤ f76_3_2.toInt → f76_3_2.toInt ≤ 390 → (f76_3_2.toInt + f76_0_22.toInt = f4_.toInt + f3_.toInt) → (f76_0_22.toInt ≤ f3_.toInt) → (f76_0_22.toInt + f2_.toInt ≤ f3_.toInt + f76_0_19.toInt) → (f76_0_22.toInt ≤ f76_0_19.toInt + f1_.toInt) → (f76_3_2.toInt ≤ 390) → (f76_0_22.toInt ≤ 390) → (-60 ≤ f76_0_19.toInt) → (brkN w0 (f76_0_22.toInt).toNat = brkN w0 (f3_.toInt).toNat) → Wd dC dI A s.heap H locs w1 → TW ksM ad cy B qr 12 w1 → FE ksM [(12, 19, 19), (12, 22, 22), (61, 0, 2400), (62, 0, 7)] w0 w1 → gi w1 0 17 = 2 → gi w1 0 18 = f1_ → gi w1 0 19 = f76_0_19 → gi w1 0 22 = f76_0_22 → gi w1 3 2 = f76_3_2 → lv_has ls 2 [(0, .ref (ad 0)), (1, .int 3)] → W p l e ({ frames := 2, cells := 0, slots := 0, locals := 34 }) s m (List.toArray [.ref (ad 0), .int 3]) below meth c H locs 0 0 (MQ below (va_Qv (P_X12_settles_8 ad cy B qr s1  w0) (fun u : va_W => wpost dC dI cy A u) A) (List.toArray [.ref (ad 0), .int 3]) s 0 0 A) (F0 m 76 ls []) := by
    intro f76_0_19 f76_0_22 f76_3_2 H locs ls w1 r3 t4 r6 t7 r9 t10 r12 t13 hcr76_0 hcr76_1 hcr76_2 hcr76_3 hcr76_4 hcr76_5 hcr76_6 hcr76_7 hw hT hF c2 c5 c8 c11 c14 hl
    exact tk_vret hC hr hlocks hK ⟨hT, hF, ⟨⟨2, c2, (by decide), (by decide)⟩, ⟨f76_0_19, c8, (show (-60) ≤ f76_0_19.toInt by omega), (show f76_0_19.toInt ≤ 10 by omega)⟩, ⟨f76_0_22, c11, (show 0 ≤ f76_0_22.toInt by omega), (show f76_0_22.toInt ≤ 390 by omega)⟩, (by simp only [cf4_, c14, cf3_, c11]; omega), (by simp only [cf3_, c11]; omega), (by simp only [cf2_, c8, cf3_, c11]; omega), (by simp only [c8, cf1_, c11]; omega), (by simp only [c11]; omega), (by simp only [c14]; omega), (by simp only [cf3_, c11]; omega)⟩⟩ hw dX12_settles_76
  have L0 : ∀ (n0 : Nat) (f0_0_19 : Int32) (f0_0_22 : Int32) (f0_3_2 : Int32) (H : Heap) (locs : List Loc) (ls : Array Slot) (w15 : va_W), 0 ≤ f1_.toInt → f1_.toInt ≤ 60 → (-60) ≤ f0_0_19.toInt → f0_0_19.toInt ≤ 10 → 0 ≤ f0_0_22.toInt → f0_0_22.toInt ≤ 390 → 0 ≤ f0_3_2.toInt → f0_3_2.toInt ≤ 390 → (f0_3_2.toInt + f0_0_22.toInt = f4_.toInt + f3_.toInt) → (f0_0_22.toInt ≤ f3_.toInt) → (f0_0_22.toInt + f2_.toInt ≤ f3_.toInt + f0_0_19.toInt) → (f0_0_22.toInt ≤ f0_0_19.toInt + f1_.toInt) → (f0_3_2.toInt ≤ 390) → (f0_0_22.toInt ≤ 390) → (-60 ≤ f0_0_19.toInt) → (brkN w0 (f0_0_22.toInt).toNat = brkN w0 (f3_.toInt).toNat) → (f0_0_19.toInt - (-60)).toNat < n0 → Wd dC dI A s.heap H locs w15 → TW ksM ad cy B qr 12 w15 → FE ksM [(12, 19, 19), (12, 22, 22), (61, 0, 2400), (62, 0, 7)] w0 w15 → gi w15 0 17 = 2 → gi w15 0 18 = f1_ → gi w15 0 19 = f0_0_19 → gi w15 0 22 = f0_0_22 → gi w15 3 2 = f0_3_2 → lv_has ls 2 [(0, .ref (ad 0)), (1, .int 3)] → W p l e ({ frames := 2, cells := 0, slots := 0, locals := 34 }) s m (List.toArray [.ref (ad 0), .int 3]) below meth c H locs 0 0 (MQ below (va_Qv (P_X12_settles_8 ad cy B qr s1  w0) (fun u : va_W => wpost dC dI cy A u) A) (List.toArray [.ref (ad 0), .int 3]) s 0 0 A) (F0 m 0 ls []) := by
    intro n0
    induction n0 with
    | zero => intro f0_0_19 f0_0_22 f0_3_2 H locs ls w15 r17 t18 r20 t21 r23 t24 r26 t27 hcr0_0 hcr0_1 hcr0_2 hcr0_3 hcr0_4 hcr0_5 hcr0_6 hcr0_7 hm0 hw hT hF c16 c19 c22 c25 c28 hl; omega
    | succ n0 ih0 =>
      intro f0_0_19 f0_0_22 f0_3_2 H locs ls w15 r17 t18 r20 t21 r23 t24 r26 t27 hcr0_0 hcr0_1 hcr0_2 hcr0_3 hcr0_4 hcr0_5 hcr0_6 hcr0_7 hm0 hw hT hF c16 c19 c22 c25 c28 hl
      refine lv_aload_n hx hb dX12_settles_0 rfl (lv_at hl 0 rfl) ?_
      refine tk_geti hC hK hw hT hinX12 kM_at0 (by decide) rfl 22 (by decide) (List.mem_of_getElem? (i := 1) rfl) rfl rfl dX12_settles_1 (fun x29 c30 rx29 tx29 => ?_)
      refine wk_top f0_0_22 (c30.symm.trans c25) ?_
      refine lv_if_le (tgt := 76) hx hb dX12_settles_4 (by decide) (fun c31 => ?_) (fun c31 => ?_)
      · have c31 : f0_0_22.toInt ≤ (0 : Int) := wk_le.mp c31
        exact J76 f0_0_19 f0_0_22 f0_3_2 H locs ls w15 (show 0 ≤ f1_.toInt by omega) (show f1_.toInt ≤ 60 by omega) (show (-60) ≤ f0_0_19.toInt by omega) (show f0_0_19.toInt ≤ 10 by omega) (show 0 ≤ f0_0_22.toInt by omega) (show f0_0_22.toInt ≤ 390 by omega) (show 0 ≤ f0_3_2.toInt by omega) (show f0_3_2.toInt ≤ 390 by omega) (show f0_3_2.toInt + f0_0_22.toInt = f4_.toInt + f3_.toInt by omega) (show f0_0_22.toInt ≤ f3_.toInt by omega) (show f0_0_22.toInt + f2_.toInt ≤ f3_.toInt + f0_0_19.toInt by omega) (show f0_0_22.toInt ≤ f0_0_19.toInt + f1_.toInt by omega) (show f0_3_2.toInt ≤ 390 by omega) (show f0_0_22.toInt ≤ 390 by omega) (show -60 ≤ f0_0_19.toInt by omega) (show brkN w0 (f0_0_22.toInt).toNat = brkN w0 (f3_.toInt).toNat from hcr0_7)  hw hT hF c16 c19 c22 c25 c28 (lv_sub hl [0, 1] rfl)
      · have c31 : (0 : Int) < f0_0_22.toInt := wk_leF c31
        refine lv_aload_n hx hb dX12_settles_7 rfl (lv_at hl 0 rfl) ?_
        refine tk_getA hC hK hw hT hinX12 kM_at0 (by decide) rfl 21 (by decide) (List.mem_of_getElem? (i := 2) rfl) rfl rfl dX12_settles_8 ?_
        refine lv_aload_n hx hb dX12_settles_11 rfl (lv_at hl 0 rfl) ?_
        refine tk_geti hC hK hw hT hinX12 kM_at0 (by decide) rfl 22 (by decide) (List.mem_of_getElem? (i := 1) rfl) rfl rfl dX12_settles_12 (fun x32 c33 rx32 tx32 => ?_)
        refine wk_top f0_0_22 (c33.symm.trans c25) ?_
        refine lv_iconst (v := 1) hx hb dX12_settles_15 (by decide) ?_
        refine lv_isub hx hb dX12_settles_16 ?_
        refine lv_topi (fun x34 ex34 => ?_)
        have ex34 : x34.toInt = f0_0_22.toInt - (1 : Int) := by rw [ex34]; exact wk_sub (show (-2147483648) ≤ f0_0_22.toInt - (1 : Int) by omega) (show f0_0_22.toInt - (1 : Int) ≤ 2147483647 by omega)
        refine tk_iald hC hK hw hT kM_at9 rfl rfl (show 0 ≤ x34.toInt by omega) (show x34.toInt < 400 by omega) dX12_settles_17 (fun x35 c36 rx35 tx35 => ?_)
        have c36 : gi w15 9 (1 * f0_0_22.toInt + -1).toNat = x35 := (congrArg (gi w15 9) (congrArg Int.toNat (show 1 * f0_0_22.toInt + -1 = x34.toInt by omega))).trans c36
        refine tk_Si hC hK hw hT hA hE hSR (k_X12_strength_1 l adK adV dC dI cy ad B (by omega) (by omega) qr s1   x35 w15 H.size hT ) (va_cwS 1 hC.2.2.2.2 gX12_settles_X12_strength rfl rfl rfl (by decide +kernel) ⟨Nat.le_of_ble_eq_true rfl, Nat.le_of_ble_eq_true rfl⟩) rfl hl.1 rfl (Nat.le_of_ble_eq_true rfl) dX12_settles_18 (fun r37 w39 H locs hp38 hw => ?_)
        obtain ⟨rfl, hg47⟩ := hp38
        rcases hg47 with rfl | ⟨rfl, g41, g42⟩ | ⟨rfl, g43, g44⟩ | ⟨rfl, g45, g46⟩
        · refine lv_iload_n hx hb dX12_settles_21 rfl (lv_at hl 1 rfl) ?_
          refine lv_icmp_lt (tgt := 76) hx hb dX12_settles_22 (by decide) (fun _ => ?_) (fun c => absurd (by decide) c)
          exact J76 f0_0_19 f0_0_22 f0_3_2 H locs ls w15 (show 0 ≤ f1_.toInt by omega) (show f1_.toInt ≤ 60 by omega) (show (-60) ≤ f0_0_19.toInt by omega) (show f0_0_19.toInt ≤ 10 by omega) (show 0 ≤ f0_0_22.toInt by omega) (show f0_0_22.toInt ≤ 390 by omega) (show 0 ≤ f0_3_2.toInt by omega) (show f0_3_2.toInt ≤ 390 by omega) (show f0_3_2.toInt + f0_0_22.toInt = f4_.toInt + f3_.toInt by omega) (show f0_0_22.toInt ≤ f3_.toInt by omega) (show f0_0_22.toInt + f2_.toInt ≤ f3_.toInt + f0_0_19.toInt by omega) (show f0_0_22.toInt ≤ f0_0_19.toInt + f1_.toInt by omega) (show f0_3_2.toInt ≤ 390 by omega) (show f0_0_22.toInt ≤ 390 by omega) (show -60 ≤ f0_0_19.toInt by omega) (show brkN w0 (f0_0_22.toInt).toNat = brkN w0 (f3_.toInt).toNat from hcr0_7)  hw hT hF c16 c19 c22 c25 c28 (lv_sub hl [0, 1] rfl)
        · refine lv_iload_n hx hb dX12_settles_21 rfl (lv_at hl 1 rfl) ?_
          refine lv_icmp_lt (tgt := 76) hx hb dX12_settles_22 (by decide) (fun _ => ?_) (fun c => absurd (by decide) c)
          exact J76 f0_0_19 f0_0_22 f0_3_2 H locs ls w15 (show 0 ≤ f1_.toInt by omega) (show f1_.toInt ≤ 60 by omega) (show (-60) ≤ f0_0_19.toInt by omega) (show f0_0_19.toInt ≤ 10 by omega) (show 0 ≤ f0_0_22.toInt by omega) (show f0_0_22.toInt ≤ 390 by omega) (show 0 ≤ f0_3_2.toInt by omega) (show f0_3_2.toInt ≤ 390 by omega) (show f0_3_2.toInt + f0_0_22.toInt = f4_.toInt + f3_.toInt by omega) (show f0_0_22.toInt ≤ f3_.toInt by omega) (show f0_0_22.toInt + f2_.toInt ≤ f3_.toInt + f0_0_19.toInt by omega) (show f0_0_22.toInt ≤ f0_0_19.toInt + f1_.toInt by omega) (show f0_3_2.toInt ≤ 390 by omega) (show f0_0_22.toInt ≤ 390 by omega) (show -60 ≤ f0_0_19.toInt by omega) (show brkN w0 (f0_0_22.toInt).toNat = brkN w0 (f3_.toInt).toNat from hcr0_7)  hw hT hF c16 c19 c22 c25 c28 (lv_sub hl [0, 1] rfl)
        · refine lv_iload_n hx hb dX12_settles_21 rfl (lv_at hl 1 rfl) ?_
          refine lv_icmp_lt (tgt := 76) hx hb dX12_settles_22 (by decide) (fun _ => ?_) (fun c => absurd (by decide) c)
          exact J76 f0_0_19 f0_0_22 f0_3_2 H locs ls w15 (show 0 ≤ f1_.toInt by omega) (show f1_.toInt ≤ 60 by omega) (show (-60) ≤ f0_0_19.toInt by omega) (show f0_0_19.toInt ≤ 10 by omega) (show 0 ≤ f0_0_22.toInt by omega) (show f0_0_22.toInt ≤ 390 by omega) (show 0 ≤ f0_3_2.toInt by omega) (show f0_3_2.toInt ≤ 390 by omega) (show f0_3_2.toInt + f0_0_22.toInt = f4_.toInt + f3_.toInt by omega) (show f0_0_22.toInt ≤ f3_.toInt by omega) (show f0_0_22.toInt + f2_.toInt ≤ f3_.toInt + f0_0_19.toInt by omega) (show f0_0_22.toInt ≤ f0_0_19.toInt + f1_.toInt by omega) (show f0_3_2.toInt ≤ 390 by omega) (show f0_0_22.toInt ≤ 390 by omega) (show -60 ≤ f0_0_19.toInt by omega) (show brkN w0 (f0_0_22.toInt).toNat = brkN w0 (f3_.toInt).toNat from hcr0_7)  hw hT hF c16 c19 c22 c25 c28 (lv_sub hl [0, 1] rfl)
        · refine lv_iload_n hx hb dX12_settles_21 rfl (lv_at hl 1 rfl) ?_
          refine lv_icmp_lt (tgt := 76) hx hb dX12_settles_22 (by decide) (fun c => absurd c (by decide)) (fun _ => ?_)
          refine lv_aload_n hx hb dX12_settles_25 rfl (lv_at hl 0 rfl) ?_
          refine lv_dup hx hb dX12_settles_26 rfl ?_
          refine tk_geti hC hK hw hT hinX12 kM_at0 (by decide) rfl 22 (by decide) (List.mem_of_getElem? (i := 1) rfl) rfl rfl dX12_settles_27 (fun x48 c49 rx48 tx48 => ?_)
          refine wk_top f0_0_22 (c49.symm.trans c25) ?_
          refine lv_iconst (v := 1) hx hb dX12_settles_30 (by decide) ?_
          refine lv_isub hx hb dX12_settles_31 ?_
          refine lv_topi (fun x50 ex50 => ?_)
          have ex50 : x50.toInt = f0_0_22.toInt - (1 : Int) := by rw [ex50]; exact wk_sub (show (-2147483648) ≤ f0_0_22.toInt - (1 : Int) by omega) (show f0_0_22.toInt - (1 : Int) ≤ 2147483647 by omega)
          refine tk_puti hC hK hw hT hinX12 tyX12_ok nmX12 kM_at0 (by decide) rfl rfl 22 (by decide) (List.mem_of_getElem? (i := 1) rfl) rfl rfl rfl rfl (show 0 ≤ x50.toInt by omega) (show x50.toInt ≤ 400 by omega) dX12_settles_32 (fun H locs w51 hw hT k53 c52 => ?_)
          have hF := hF.put kM_at0 (k := 22) (by decide) k53
          have c54 := k53.gi (Or.inr (by decide)) c16
          have c55 := k53.gi (Or.inr (by decide)) c19
          have c56 := k53.gi (Or.inr (by decide)) c22
          have c57 := k53.gi (Or.inr (by decide)) c28
          have c58 := k53.gi (Or.inl (tk_ne kM_at9 kM_at0 (by decide))) c36
          refine lv_aload_n hx hb dX12_settles_35 rfl (lv_at hl 0 rfl) ?_
          refine lv_aload_n hx hb dX12_settles_36 rfl (lv_at hl 0 rfl) ?_
          refine tk_getA hC hK hw hT hinX12 kM_at0 (by decide) rfl 21 (by decide) (List.mem_of_getElem? (i := 2) rfl) rfl rfl dX12_settles_37 ?_
          refine lv_aload_n hx hb dX12_settles_40 rfl (lv_at hl 0 rfl) ?_
          refine tk_geti hC hK hw hT hinX12 kM_at0 (by decide) rfl 22 (by decide) (List.mem_of_getElem? (i := 1) rfl) rfl rfl dX12_settles_41 (fun x59 c60 rx59 tx59 => ?_)
          refine wk_top x50 (c60.symm.trans c52) ?_
          refine tk_iald hC hK hw hT kM_at9 rfl rfl (show 0 ≤ x50.toInt by omega) (show x50.toInt < 400 by omega) dX12_settles_44 (fun x61 c62 rx61 tx61 => ?_)
          have c62 : gi w51 9 (1 * f0_0_22.toInt + -1).toNat = x61 := (congrArg (gi w51 9) (congrArg Int.toNat (show 1 * f0_0_22.toInt + -1 = x50.toInt by omega))).trans c62
          refine wk_top x35 (c62.symm.trans c58) ?_
          refine lv_iconst (v := 0) hx hb dX12_settles_45 (by decide) ?_
          obtain rfl : x35 = 11 := wk_eq.mpr (show x35.toInt = 11 by omega)
          refine tk_Vv hC hK hw hT hA hE hSR kM_at0 (by decide) rfl (k_X12_puts_3 l adK adV dC dI cy ad B (by omega) (by omega) qr s1   11 (by decide) (by decide) 0 w51 H.size hT c54 f0_3_2 c57 (show 0 ≤ f0_3_2.toInt by omega) (show f0_3_2.toInt ≤ 400 by omega) (show f0_3_2.toInt ≤ 399 by omega)) (cwV 2 hC.2.2.2.2 gX12_settles_X12_puts rfl rfl rfl (by decide +kernel) ⟨Nat.le_of_ble_eq_true rfl, Nat.le_of_ble_eq_true rfl⟩) rfl hl.1 rfl (Nat.le_of_ble_eq_true rfl) dX12_settles_46 (fun w65 H locs hp64 hw => ?_)
          obtain ⟨hT, k66, hg70⟩ := hp64
          have hF := hF.tr k66 (by decide)
          have c71 := k66.gi kM_at0 (by decide) c54
          have c72 := k66.gi kM_at0 (by decide) c55
          have c73 := k66.gi kM_at0 (by decide) c56
          have c74 := k66.gi kM_at9 rfl c58
          have c75 := k66.gi kM_at0 (by decide) c52
          obtain ⟨⟨x67, c68, rx67, tx67⟩, g69⟩ := hg70
          have ex67 : x67.toInt = (2 : Int) := by rw [show x67 = 2 from c68.symm.trans c71]; decide
          obtain ⟨x76, c77, rx76, tx76⟩ := hT.rda (lo := 0) (hi := 400) (i := 2) kM_at3 rfl rfl (by decide)
          have g69 : x76.toInt = f0_3_2.toInt + 1 := by have q := g69; simp only [c57, c77] at q; omega
          refine lv_aload_n hx hb dX12_settles_49 rfl (lv_at hl 0 rfl) ?_
          refine tk_getA hC hK hw hT hinX12 kM_at0 (by decide) rfl 21 (by decide) (List.mem_of_getElem? (i := 2) rfl) rfl rfl dX12_settles_50 ?_
          refine lv_aload_n hx hb dX12_settles_53 rfl (lv_at hl 0 rfl) ?_
          refine tk_geti hC hK hw hT hinX12 kM_at0 (by decide) rfl 22 (by decide) (List.mem_of_getElem? (i := 1) rfl) rfl rfl dX12_settles_54 (fun x78 c79 rx78 tx78 => ?_)
          refine wk_top x50 (c79.symm.trans c75) ?_
          refine tk_iald hC hK hw hT kM_at9 rfl rfl (show 0 ≤ x50.toInt by omega) (show x50.toInt < 400 by omega) dX12_settles_57 (fun x80 c81 rx80 tx80 => ?_)
          have c81 : gi w65 9 (1 * f0_0_22.toInt + -1).toNat = x80 := (congrArg (gi w65 9) (congrArg Int.toNat (show 1 * f0_0_22.toInt + -1 = x50.toInt by omega))).trans c81
          refine wk_top 11 (c81.symm.trans c74) ?_
          refine lv_bipush (v := 11) hx hb dX12_settles_58 (by decide) ?_
          refine lv_icmp_ne (tgt := 0) hx hb dX12_settles_60 (by decide) (fun c => absurd (by decide) c) (fun _ => ?_)
          refine lv_aload_n hx hb dX12_settles_63 rfl (lv_at hl 0 rfl) ?_
          refine lv_dup hx hb dX12_settles_64 rfl ?_
          refine tk_geti hC hK hw hT hinX12 kM_at0 (by decide) rfl 19 (by decide) (List.mem_of_getElem? (i := 3) rfl) rfl rfl dX12_settles_65 (fun x82 c83 rx82 tx82 => ?_)
          refine wk_top f0_0_19 (c83.symm.trans c73) ?_
          refine lv_iconst (v := 1) hx hb dX12_settles_68 (by decide) ?_
          refine lv_isub hx hb dX12_settles_69 ?_
          refine lv_topi (fun x84 ex84 => ?_)
          have ex84 : x84.toInt = f0_0_19.toInt - (1 : Int) := by rw [ex84]; exact wk_sub (show (-2147483648) ≤ f0_0_19.toInt - (1 : Int) by omega) (show f0_0_19.toInt - (1 : Int) ≤ 2147483647 by omega)
          refine tk_puti hC hK hw hT hinX12 tyX12_ok nmX12 kM_at0 (by decide) rfl rfl 19 (by decide) (List.mem_of_getElem? (i := 3) rfl) rfl rfl rfl rfl (show (-100) ≤ x84.toInt by omega) (show x84.toInt ≤ 10 by omega) dX12_settles_70 (fun H locs w85 hw hT k87 c86 => ?_)
          have hF := hF.put kM_at0 (k := 19) (by decide) k87
          have c88 := k87.gi (Or.inr (by decide)) c71
          have c89 := k87.gi (Or.inr (by decide)) c72
          have c90 := k87.gi (Or.inl (tk_ne kM_at9 kM_at0 (by decide))) c74
          have c91 := k87.gi (Or.inr (by decide)) c75
          have c92 := k87.gi (Or.inr (by decide)) c77
          refine lv_goto (tgt := 0) hx hb dX12_settles_73 (by decide) ?_
          exact ih0 x84 x50 x76 H locs ls w85 (show 0 ≤ f1_.toInt by omega) (show f1_.toInt ≤ 60 by omega) (show (-60) ≤ x84.toInt by omega) (show x84.toInt ≤ 10 by omega) (show 0 ≤ x50.toInt by omega) (show x50.toInt ≤ 390 by omega) (show 0 ≤ x76.toInt by omega) (show x76.toInt ≤ 390 by omega) (show x76.toInt + x50.toInt = f4_.toInt + f3_.toInt by omega) (show x50.toInt ≤ f3_.toInt by omega) (show x50.toInt + f2_.toInt ≤ f3_.toInt + x84.toInt by omega) (show x50.toInt ≤ x84.toInt + f1_.toInt by omega) (show x76.toInt ≤ 390 by omega) (show x50.toInt ≤ 390 by omega) (show -60 ≤ x84.toInt by omega) (show brkN w0 (x50.toInt).toNat = brkN w0 (f3_.toInt).toNat from ((brk_step (by omega) (show f0_0_22.toInt = x50.toInt + 1 by omega) (show ¬ (gi w0 9 (x50.toInt).toNat).toInt = 91 by first | (rw [show (x50.toInt) = 1 * f0_0_22.toInt + -1 by omega, ← hF.gi kM_at9 rfl rfl, c90]; omega) | (rw [show (x50.toInt) = 1 * f0_0_22.toInt + -1 by omega, ← hF.gi kM_at9 rfl rfl, c90]; decide))).trans hcr0_7)) (show (x84.toInt - (-60)).toNat < n0 by omega) hw hT hF c88 c89 c86 c91 c92 (lv_sub hl [0, 1] rfl)
  exact L0 ((f2_.toInt - (-60)).toNat + 1) f2_ f3_ f4_ s.heap locs ls w0 (show 0 ≤ f1_.toInt by omega) (show f1_.toInt ≤ 60 by omega) (show (-60) ≤ f2_.toInt by omega) (show f2_.toInt ≤ 10 by omega) (show 0 ≤ f3_.toInt by omega) (show f3_.toInt ≤ 390 by omega) (show 0 ≤ f4_.toInt by omega) (show f4_.toInt ≤ 390 by omega) (show f4_.toInt + f3_.toInt = f4_.toInt + f3_.toInt by omega) (show f3_.toInt ≤ f3_.toInt by omega) (show f3_.toInt + f2_.toInt ≤ f3_.toInt + f2_.toInt by omega) (show f3_.toInt ≤ f2_.toInt + f1_.toInt by omega) (show f4_.toInt ≤ 390 by omega) (show f3_.toInt ≤ 390 by omega) (show -60 ≤ f2_.toInt by omega) (show brkN w0 (f3_.toInt).toNat = brkN w0 (f3_.toInt).toNat from rfl) (Nat.lt_succ_self _) hw hT hF cf0_ cf1_ cf2_ cf3_ cf4_ (lv_sub hl [0, 1] rfl)
abbrev P_X12_closes_3 (ad : Nat → Nat) (cy : Nat → ClassId) (B : Int) (qr : Nat) (s1 : Int)  (w0 : va_W) : va_W → Prop := fun u => TW ksM ad cy B qr 12 u ∧ FE ksM [(12, 14, 14), (12, 19, 19), (12, 22, 22), (61, 0, 2400), (62, 0, 7)] w0 u ∧ (((∃ y : Int32, gi u 0 1 = y ∧ 0 ≤ y.toInt ∧ y.toInt ≤ 400) ∧ (∃ y : Int32, gi u 0 17 = y ∧ 2 ≤ y.toInt ∧ y.toInt ≤ 2) ∧ (∃ y : Int32, gi u 0 19 = y ∧ (-60) ≤ y.toInt ∧ y.toInt ≤ 10) ∧ (∃ y : Int32, gi u 0 22 = y ∧ 0 ≤ y.toInt ∧ y.toInt ≤ 390) ∧ ((gi u 3 2).toInt + (gi u 0 22).toInt ≤ (gi w0 3 2).toInt + (gi w0 0 22).toInt) ∧ ((gi u 0 22).toInt + (gi w0 0 19).toInt ≤ (gi w0 0 22).toInt + (gi u 0 19).toInt) ∧ ((gi u 0 22).toInt ≤ (gi u 0 19).toInt + (gi w0 0 18).toInt) ∧ ((gi u 0 22).toInt ≤ 390) ∧ ((gi u 3 2).toInt ≤ 390)))
set_option maxHeartbeats 4000000 in
set_option maxRecDepth 100000 in
theorem k_X12_closes_3 (l : Launch) (adK adV : Nat → Nat) (dC : Nat → ClassId) (dI : Nat → Nat → Nat) (cy : Nat → ClassId) (ad : Nat → Nat) (B : Int) (hB0 : 100000 ≤ B) (hB1 : B ≤ 1073741824) (qr : Nat) (s1 : Int)   (w0 : va_W) (sz : Nat) (hT : TW ksM ad cy B qr 12 w0) (cf0_ : gi w0 0 17 = 2) (f1_ : Int32) (cf1_ : gi w0 0 18 = f1_) (rf1_ : 0 ≤ f1_.toInt) (tf1_ : f1_.toInt ≤ 60) (f2_ : Int32) (cf2_ : gi w0 0 19 = f2_) (rf2_ : (-100) ≤ f2_.toInt) (tf2_ : f2_.toInt ≤ 10) (f3_ : Int32) (cf3_ : gi w0 0 22 = f3_) (rf3_ : 0 ≤ f3_.toInt) (tf3_ : f3_.toInt ≤ 400) (f4_ : Int32) (cf4_ : gi w0 3 2 = f4_) (rf4_ : 0 ≤ f4_.toInt) (tf4_ : f4_.toInt ≤ 400) (pr0_ : f4_.toInt + f3_.toInt ≤ 390) (pr1_ : f3_.toInt ≤ f2_.toInt + f1_.toInt) (pr2_ : f4_.toInt ≤ 390) (pr3_ : f3_.toInt ≤ 390) : Met l yX12_closes wsX12_closes ({ frames := 3, cells := 0, slots := 0, locals := 55 }) (va_Pc [.ref (ad 0)] (wpreS adK adV dC dI cy sz w0)) (va_Qv (P_X12_closes_3 ad cy B qr s1  w0) (fun u : va_W => wpost dC dI cy (va_A w0 sz) u) (va_A w0 sz)) 0 0 (va_A w0 sz) := by
  refine Met.ofW (cc := cX12_closes) (maxL := 1) (ret := none) (by decide) rfl ?_
  intro p e s m args below meth c s₁ Bk hml hv
  obtain ⟨rfl, ⟨hsz, hP, hK, hD0⟩, hE, hSR⟩ := hv
  have hx := Bk.exec
  have hb := Bk.bytes
  have hr := Bk.returns
  have hlocks := Bk.notSynchronized
  have hC : CallFix p m c cX12_closes 1 s _ wsX12_closes RX12 := ⟨hx, hb, hml, findClass_of_methodNamed Bk.named, atoms_spec (ws := wsX12_closes) Bk.pre⟩
  subst hsz
  have hD := hD0.self (sz := s.heap.size)
  generalize hAe : va_A w0 s.heap.size = A at hD hE ⊢
  have hA : ∀ q : Nat, s.heap.size ≤ q → A q := fun q h => by rw [← hAe]; exact Or.inr h
  have hw : Wd dC dI A s.heap s.heap [] w0 := ⟨hP, hD, va_S.rf⟩
  have hF : FE ksM [(12, 14, 14), (12, 19, 19), (12, 22, 22), (61, 0, 2400), (62, 0, 7)] w0 w0 := FE.rf
  have hl := lv_entry ([.ref (ad 0)]) (n := 1) (Nat.le_of_ble_eq_true rfl)
  rw [lg_entry_eq]
  generalize (lg_sl ([.ref (ad 0)]) ++ List.replicate (1 - (lg_sl ([.ref (ad 0)])).length) Slot.unset).toArray = ls at hl ⊢
  have hl : lv_has ls 1 [(0, .ref (ad 0))] := hl
  generalize hloc : ([] : List Loc) = locs at hw ⊢
  have hinX12 : ∀ w ∈ u_ws RX12 TX12 42, w ∈ wsX12_closes := fun _ h => List.mem_cons_of_mem _ (List.mem_append_right _ (h))
  have J64 : ∀ (f64_0_1 : Int32) (f64_0_14 : Int32) (f64_0_19 : Int32) (f64_0_22 : Int32) (f64_3_2 : Int32) (H : Heap) (locs : List Loc) (ls : Array Slot) (w1 : va_W), 0 ≤ f64_0_1.toInt → f64_0_1.toInt ≤ 400 → 0 ≤ f64_0_14.toInt → f64_0_14.toInt ≤ 400 → 0 ≤ f1_.toInt → f1_.toInt ≤ 60 → (-60) ≤ f64_0_19.toInt → f64_0_19.toInt ≤ 10 → 0 ≤ f64_0_22.toInt → f64_0_22.toInt ≤ 390 → 0 ≤ f64_3_2.toInt → f64_3_2.toInt ≤ 390 → (f64_3_2.toInt + f64_0_22.toInt ≤ f4_.toInt + f3_.toInt) → (f64_0_22.toInt + f2_.toInt ≤ f3_.toInt + f64_0_19.toInt) → (f64_0_22.toInt ≤ f64_0_19.toInt + f1_.toInt) → (f64_3_2.toInt ≤ 390) → (f64_0_22.toInt ≤ 390) → (-60 ≤ f64_0_19.toInt) → Wd dC dI A s.heap H locs w1 → TW ksM ad cy B qr 12 w1 → FE ksM [(12, 14, 14), (12, 19, 19), (12, 22, 22), (61, 0, 2400), (62, 0, 7)] w0 w1 → gi w1 0 1 = f64_0_1 → gi w1 0 14 = f64_0_14 → gi w1 0 17 = 2 → gi w1 0 18 = f1_ → gi w1 0 19 = f64_0_19 → gi w1 0 22 = f64_0_22 → gi w1 3 2 = f64_3_2 → lv_has ls 1 [(0, .ref (ad 0))] → W p l e ({ frames := 3, cells := 0, slots := 0, locals := 55 }) s m (List.toArray [.ref (ad 0)]) below meth c H locs 0 0 (MQ below (va_Qv (P_X12_closes_3 ad cy B qr s1  w0) (fun u : va_W => wpost dC dI cy A u) A) (List.toArray [.ref (ad 0)]) s 0 0 A) (F0 m 64 ls []) := by
    intro f64_0_1 f64_0_14 f64_0_19 f64_0_22 f64_3_2 H locs ls w1 r2 t3 r5 t6 r9 t10 r12 t13 r15 t16 r18 t19 hcr64_0 hcr64_1 hcr64_2 hcr64_3 hcr64_4 hcr64_5 hw hT hF c4 c7 c8 c11 c14 c17 c20 hl
    exact tk_vret hC hr hlocks hK ⟨hT, hF, ⟨⟨f64_0_1, c4, (show 0 ≤ f64_0_1.toInt by omega), (show f64_0_1.toInt ≤ 400 by omega)⟩, ⟨2, c8, (by decide), (by decide)⟩, ⟨f64_0_19, c14, (show (-60) ≤ f64_0_19.toInt by omega), (show f64_0_19.toInt ≤ 10 by omega)⟩, ⟨f64_0_22, c17, (show 0 ≤ f64_0_22.toInt by omega), (show f64_0_22.toInt ≤ 390 by omega)⟩, (by simp only [cf4_, c20, cf3_, c17]; omega), (by simp only [cf2_, c14, cf3_, c17]; omega), (by simp only [c14, cf1_, c17]; omega), (by simp only [c17]; omega), (by simp only [c20]; omega)⟩⟩ hw dX12_closes_64
  have L5 : ∀ (n5 : Nat) (f5_0_19 : Int32) (f5_0_22 : Int32) (f5_3_2 : Int32) (H : Heap) (locs : List Loc) (ls : Array Slot) (w21 : va_W), 0 ≤ f1_.toInt → f1_.toInt ≤ 60 → (-60) ≤ f5_0_19.toInt → f5_0_19.toInt ≤ 10 → 0 ≤ f5_0_22.toInt → f5_0_22.toInt ≤ 390 → 0 ≤ f5_3_2.toInt → f5_3_2.toInt ≤ 390 → (f5_3_2.toInt + f5_0_22.toInt ≤ f4_.toInt + f3_.toInt) → (f5_0_22.toInt + f2_.toInt ≤ f3_.toInt + f5_0_19.toInt) → (f5_0_22.toInt ≤ f5_0_19.toInt + f1_.toInt) → (f5_3_2.toInt ≤ 390) → (f5_0_22.toInt ≤ 390) → (-60 ≤ f5_0_19.toInt) → (f5_0_22.toInt - 0).toNat < n5 → Wd dC dI A s.heap H locs w21 → TW ksM ad cy B qr 12 w21 → FE ksM [(12, 14, 14), (12, 19, 19), (12, 22, 22), (61, 0, 2400), (62, 0, 7)] w0 w21 → gi w21 0 17 = 2 → gi w21 0 18 = f1_ → gi w21 0 19 = f5_0_19 → gi w21 0 22 = f5_0_22 → gi w21 3 2 = f5_3_2 → lv_has ls 1 [(0, .ref (ad 0))] → W p l e ({ frames := 3, cells := 0, slots := 0, locals := 55 }) s m (List.toArray [.ref (ad 0)]) below meth c H locs 0 0 (MQ below (va_Qv (P_X12_closes_3 ad cy B qr s1  w0) (fun u : va_W => wpost dC dI cy A u) A) (List.toArray [.ref (ad 0)]) s 0 0 A) (F0 m 5 ls []) := by
    intro n5
    induction n5 with
    | zero => intro f5_0_19 f5_0_22 f5_3_2 H locs ls w21 r23 t24 r26 t27 r29 t30 r32 t33 hcr5_0 hcr5_1 hcr5_2 hcr5_3 hcr5_4 hcr5_5 hm5 hw hT hF c22 c25 c28 c31 c34 hl; omega
    | succ n5 ih5 =>
      intro f5_0_19 f5_0_22 f5_3_2 H locs ls w21 r23 t24 r26 t27 r29 t30 r32 t33 hcr5_0 hcr5_1 hcr5_2 hcr5_3 hcr5_4 hcr5_5 hm5 hw hT hF c22 c25 c28 c31 c34 hl
      refine lv_aload_n hx hb dX12_closes_5 rfl (lv_at hl 0 rfl) ?_
      obtain ⟨x35, c36, rx35, tx35⟩ := hT.rdi (lo := 0) (hi := 400) (k := 14) kM_at0 (by decide) rfl
      refine tk_Vi hC hK hw hT hA hE hSR kM_at0 (by decide) rfl (k_X12_see_1 l adK adV dC dI cy ad B (by omega) (by omega) qr s1    w21 H.size hT x35 c36 (show 0 ≤ x35.toInt by omega) (show x35.toInt ≤ 400 by omega)) (cwV 0 hC.2.2.2.2 gX12_closes_X12_see rfl rfl rfl (by decide +kernel) ⟨Nat.le_of_ble_eq_true rfl, Nat.le_of_ble_eq_true rfl⟩) rfl hl.1 rfl (Nat.le_of_ble_eq_true rfl) dX12_closes_6 (fun r37 w39 H locs hp38 hw => ?_)
      obtain ⟨hT, k40, hg57⟩ := hp38
      have hF := hF.tr k40 (by decide)
      have c58 := k40.gi kM_at0 (by decide) c22
      have c59 := k40.gi kM_at0 (by decide) c25
      have c60 := k40.gi kM_at0 (by decide) c28
      have c61 := k40.gi kM_at0 (by decide) c31
      have c62 := k40.gi kM_at3 (by decide) c34
      rcases hg57 with ⟨g41, g42, ⟨x43, c44, rx43, tx43⟩, ⟨x45, c46, rx45, tx45⟩, g47, g48⟩ | ⟨rfl, ⟨x49, c50, rx49, tx49⟩, ⟨x51, c52, rx51, tx51⟩, g53⟩ | ⟨rfl, ⟨x54, c55, rx54, tx54⟩, g56⟩
      · have g47 : (gi w39 1 (x45.toInt).toNat).toInt ≠ 32 := by have q := g47; simp only [c46] at q; omega
        have g48 : (x45.toInt = x35.toInt ∨ (gi w21 1 (x35.toInt).toNat).toInt = 32) := by have q := g48; simp only [c36, c46] at q; omega
        refine lv_bipush (v := 93) hx hb dX12_closes_9 (by decide) ?_
        refine lv_icmp_ne (tgt := 64) hx hb dX12_closes_11 (by decide) (fun c65 => ?_) (fun c65 => ?_)
        · have c65 : ¬ r37.toInt = (93 : Int) := wk_eqF c65
          exact J64 x43 x45 f5_0_19 f5_0_22 f5_3_2 H locs ls w39 (show 0 ≤ x43.toInt by omega) (show x43.toInt ≤ 400 by omega) (show 0 ≤ x45.toInt by omega) (show x45.toInt ≤ 400 by omega) (show 0 ≤ f1_.toInt by omega) (show f1_.toInt ≤ 60 by omega) (show (-60) ≤ f5_0_19.toInt by omega) (show f5_0_19.toInt ≤ 10 by omega) (show 0 ≤ f5_0_22.toInt by omega) (show f5_0_22.toInt ≤ 390 by omega) (show 0 ≤ f5_3_2.toInt by omega) (show f5_3_2.toInt ≤ 390 by omega) (show f5_3_2.toInt + f5_0_22.toInt ≤ f4_.toInt + f3_.toInt by omega) (show f5_0_22.toInt + f2_.toInt ≤ f3_.toInt + f5_0_19.toInt by omega) (show f5_0_22.toInt ≤ f5_0_19.toInt + f1_.toInt by omega) (show f5_3_2.toInt ≤ 390 by omega) (show f5_0_22.toInt ≤ 390 by omega) (show -60 ≤ f5_0_19.toInt by omega)  hw hT hF c44 c46 c58 c59 c60 c61 c62 (lv_sub hl [0] rfl)
        · have c65 : r37.toInt = (93 : Int) := wk_eq.mp c65
          refine lv_aload_n hx hb dX12_closes_14 rfl (lv_at hl 0 rfl) ?_
          refine tk_Vi hC hK hw hT hA hE hSR kM_at0 (by decide) rfl (k_X12_isInside_1 l adK adV dC dI cy ad B (by omega) (by omega) qr s1    w39 H.size hT ) (cwV 0 hC.2.2.2.2 gX12_closes_X12_isInside rfl rfl rfl (by decide +kernel) ⟨Nat.le_of_ble_eq_true rfl, Nat.le_of_ble_eq_true rfl⟩) rfl hl.1 rfl (Nat.le_of_ble_eq_true rfl) dX12_closes_15 (fun r66 w68 H locs hp67 hw => ?_)
          obtain ⟨rfl, hg73⟩ := hp67
          rcases hg73 with rfl | ⟨rfl, ⟨x70, c71, rx70, tx70⟩, hq72⟩
          · refine lv_if_eq (tgt := 64) hx hb dX12_closes_18 (by decide) (fun _ => ?_) (fun c => absurd (by decide) c)
            exact J64 x43 x45 f5_0_19 f5_0_22 f5_3_2 H locs ls w39 (show 0 ≤ x43.toInt by omega) (show x43.toInt ≤ 400 by omega) (show 0 ≤ x45.toInt by omega) (show x45.toInt ≤ 400 by omega) (show 0 ≤ f1_.toInt by omega) (show f1_.toInt ≤ 60 by omega) (show (-60) ≤ f5_0_19.toInt by omega) (show f5_0_19.toInt ≤ 10 by omega) (show 0 ≤ f5_0_22.toInt by omega) (show f5_0_22.toInt ≤ 390 by omega) (show 0 ≤ f5_3_2.toInt by omega) (show f5_3_2.toInt ≤ 390 by omega) (show f5_3_2.toInt + f5_0_22.toInt ≤ f4_.toInt + f3_.toInt by omega) (show f5_0_22.toInt + f2_.toInt ≤ f3_.toInt + f5_0_19.toInt by omega) (show f5_0_22.toInt ≤ f5_0_19.toInt + f1_.toInt by omega) (show f5_3_2.toInt ≤ 390 by omega) (show f5_0_22.toInt ≤ 390 by omega) (show -60 ≤ f5_0_19.toInt by omega)  hw hT hF c44 c46 c58 c59 c60 c61 c62 (lv_sub hl [0] rfl)
          · have ex70 : x70.toInt = f5_0_22.toInt := by rw [← c61.symm.trans c71]
            refine lv_if_eq (tgt := 64) hx hb dX12_closes_18 (by decide) (fun c => absurd c (by decide)) (fun _ => ?_)
            refine lv_aload_n hx hb dX12_closes_21 rfl (lv_at hl 0 rfl) ?_
            refine lv_iconst (v := 1) hx hb dX12_closes_22 (by decide) ?_
            refine tk_Vv hC hK hw hT hA hE hSR kM_at0 (by decide) rfl (k_X12_settles_7 l adK adV dC dI cy ad B (by omega) (by omega) qr s1    w39 H.size hT c58 f1_ c59 (show 0 ≤ f1_.toInt by omega) (show f1_.toInt ≤ 60 by omega) f5_0_19 c60 (show (-100) ≤ f5_0_19.toInt by omega) (show f5_0_19.toInt ≤ 10 by omega) f5_0_22 c61 (show 0 ≤ f5_0_22.toInt by omega) (show f5_0_22.toInt ≤ 400 by omega) f5_3_2 c62 (show 0 ≤ f5_3_2.toInt by omega) (show f5_3_2.toInt ≤ 400 by omega) (show f5_3_2.toInt + f5_0_22.toInt ≤ 390 by omega) (show f5_0_22.toInt ≤ f5_0_19.toInt + f1_.toInt by omega) (show f5_3_2.toInt ≤ 390 by omega) (show f5_0_22.toInt ≤ 390 by omega)) (cwV 1 hC.2.2.2.2 gX12_closes_X12_settles rfl rfl rfl (by decide +kernel) ⟨Nat.le_of_ble_eq_true rfl, Nat.le_of_ble_eq_true rfl⟩) rfl hl.1 rfl (Nat.le_of_ble_eq_true rfl) dX12_closes_23 (fun w76 H locs hp75 hw => ?_)
            obtain ⟨hT, k77, hg91⟩ := hp75
            have hF := hF.tr k77 (by decide)
            have c92 := k77.gi kM_at0 (by decide) c58
            have c93 := k77.gi kM_at0 (by decide) c59
            have c94 := k77.gi kM_at0 (by decide) c44
            have c95 := k77.gi kM_at0 (by decide) c46
            obtain ⟨⟨x78, c79, rx78, tx78⟩, ⟨x80, c81, rx80, tx80⟩, ⟨x82, c83, rx82, tx82⟩, g84, g85, g86, g87, g88, g89, g90⟩ := hg91
            have ex78 : x78.toInt = (2 : Int) := by rw [show x78 = 2 from c79.symm.trans c92]; decide
            obtain ⟨x96, c97, rx96, tx96⟩ := hT.rda (lo := 0) (hi := 400) (i := 2) kM_at3 rfl rfl (by decide)
            have g84 : x96.toInt + x82.toInt = f5_3_2.toInt + f5_0_22.toInt := by have q := g84; simp only [c62, c97, c61, c83] at q; omega
            have g85 : x82.toInt ≤ f5_0_22.toInt := by have q := g85; simp only [c61, c83] at q; omega
            have g86 : x82.toInt + f5_0_19.toInt ≤ f5_0_22.toInt + x80.toInt := by have q := g86; simp only [c60, c81, c61, c83] at q; omega
            have g87 : x82.toInt ≤ x80.toInt + f1_.toInt := by have q := g87; simp only [c81, c59, c83] at q; omega
            have g88 : x82.toInt ≤ 390 := by have q := g88; simp only [c83] at q; omega
            have g89 : x96.toInt ≤ 390 := by have q := g89; simp only [c97] at q; omega
            have g90 : brkN w39 (x82.toInt).toNat = brkN w39 (f5_0_22.toInt).toNat := by have q := g90; simp only [c61, c83] at q; omega
            have hbl := brk_le w39 (x82.toInt).toNat
            have hbi := hq72
            rw [c61] at hbi
            have g98 : 1 ≤ x82.toInt := by omega
            refine lv_aload_n hx hb dX12_closes_26 rfl (lv_at hl 0 rfl) ?_
            refine lv_dup hx hb dX12_closes_27 rfl ?_
            refine tk_geti hC hK hw hT hinX12 kM_at0 (by decide) rfl 22 (by decide) (List.mem_of_getElem? (i := 1) rfl) rfl rfl dX12_closes_28 (fun x99 c100 rx99 tx99 => ?_)
            refine wk_top x82 (c100.symm.trans c83) ?_
            refine lv_iconst (v := 1) hx hb dX12_closes_31 (by decide) ?_
            refine lv_isub hx hb dX12_closes_32 ?_
            refine lv_topi (fun x101 ex101 => ?_)
            have ex101 : x101.toInt = x82.toInt - (1 : Int) := by rw [ex101]; exact wk_sub (show (-2147483648) ≤ x82.toInt - (1 : Int) by omega) (show x82.toInt - (1 : Int) ≤ 2147483647 by omega)
            refine tk_puti hC hK hw hT hinX12 tyX12_ok nmX12 kM_at0 (by decide) rfl rfl 22 (by decide) (List.mem_of_getElem? (i := 1) rfl) rfl rfl rfl rfl (show 0 ≤ x101.toInt by omega) (show x101.toInt ≤ 400 by omega) dX12_closes_33 (fun H locs w102 hw hT k104 c103 => ?_)
            have hF := hF.put kM_at0 (k := 22) (by decide) k104
            have c105 := k104.gi (Or.inr (by decide)) c92
            have c106 := k104.gi (Or.inr (by decide)) c93
            have c107 := k104.gi (Or.inr (by decide)) c94
            have c108 := k104.gi (Or.inr (by decide)) c95
            have c109 := k104.gi (Or.inr (by decide)) c81
            have c110 := k104.gi (Or.inr (by decide)) c97
            refine lv_aload_n hx hb dX12_closes_36 rfl (lv_at hl 0 rfl) ?_
            refine lv_dup hx hb dX12_closes_37 rfl ?_
            refine tk_geti hC hK hw hT hinX12 kM_at0 (by decide) rfl 19 (by decide) (List.mem_of_getElem? (i := 2) rfl) rfl rfl dX12_closes_38 (fun x111 c112 rx111 tx111 => ?_)
            refine wk_top x80 (c112.symm.trans c109) ?_
            refine lv_iconst (v := 1) hx hb dX12_closes_41 (by decide) ?_
            refine lv_isub hx hb dX12_closes_42 ?_
            refine lv_topi (fun x113 ex113 => ?_)
            have ex113 : x113.toInt = x80.toInt - (1 : Int) := by rw [ex113]; exact wk_sub (show (-2147483648) ≤ x80.toInt - (1 : Int) by omega) (show x80.toInt - (1 : Int) ≤ 2147483647 by omega)
            refine tk_puti hC hK hw hT hinX12 tyX12_ok nmX12 kM_at0 (by decide) rfl rfl 19 (by decide) (List.mem_of_getElem? (i := 2) rfl) rfl rfl rfl rfl (show (-100) ≤ x113.toInt by omega) (show x113.toInt ≤ 10 by omega) dX12_closes_43 (fun H locs w114 hw hT k116 c115 => ?_)
            have hF := hF.put kM_at0 (k := 19) (by decide) k116
            have c117 := k116.gi (Or.inr (by decide)) c105
            have c118 := k116.gi (Or.inr (by decide)) c106
            have c119 := k116.gi (Or.inr (by decide)) c107
            have c120 := k116.gi (Or.inr (by decide)) c108
            have c121 := k116.gi (Or.inr (by decide)) c110
            have c122 := k116.gi (Or.inr (by decide)) c103
            refine lv_aload_n hx hb dX12_closes_46 rfl (lv_at hl 0 rfl) ?_
            refine lv_dup hx hb dX12_closes_47 rfl ?_
            refine tk_geti hC hK hw hT hinX12 kM_at0 (by decide) rfl 14 (by decide) (List.mem_of_getElem? (i := 3) rfl) rfl rfl dX12_closes_48 (fun x123 c124 rx123 tx123 => ?_)
            refine wk_top x45 (c124.symm.trans c120) ?_
            refine lv_iconst (v := 1) hx hb dX12_closes_51 (by decide) ?_
            refine lv_iadd hx hb dX12_closes_52 ?_
            refine lv_topi (fun x125 ex125 => ?_)
            have ex125 : x125.toInt = x45.toInt + (1 : Int) := by rw [ex125]; exact wk_add (show (-2147483648) ≤ x45.toInt + (1 : Int) by omega) (show x45.toInt + (1 : Int) ≤ 2147483647 by omega)
            refine tk_puti hC hK hw hT hinX12 tyX12_ok nmX12 kM_at0 (by decide) rfl rfl 14 (by decide) (List.mem_of_getElem? (i := 3) rfl) rfl rfl rfl rfl (show 0 ≤ x125.toInt by omega) (show x125.toInt ≤ 400 by omega) dX12_closes_53 (fun H locs w126 hw hT k128 c127 => ?_)
            have hF := hF.put kM_at0 (k := 14) (by decide) k128
            have c129 := k128.gi (Or.inr (by decide)) c117
            have c130 := k128.gi (Or.inr (by decide)) c118
            have c131 := k128.gi (Or.inr (by decide)) c119
            have c132 := k128.gi (Or.inr (by decide)) c121
            have c133 := k128.gi (Or.inr (by decide)) c122
            have c134 := k128.gi (Or.inr (by decide)) c115
            refine lv_aload_n hx hb dX12_closes_56 rfl (lv_at hl 0 rfl) ?_
            refine lv_iconst (v := 3) hx hb dX12_closes_57 (by decide) ?_
            refine tk_Vv hC hK hw hT hA hE hSR kM_at0 (by decide) rfl (k_X12_settles_8 l adK adV dC dI cy ad B (by omega) (by omega) qr s1    w126 H.size hT c129 f1_ c130 (show 0 ≤ f1_.toInt by omega) (show f1_.toInt ≤ 60 by omega) x113 c134 (show (-100) ≤ x113.toInt by omega) (show x113.toInt ≤ 10 by omega) x101 c133 (show 0 ≤ x101.toInt by omega) (show x101.toInt ≤ 400 by omega) x96 c132 (show 0 ≤ x96.toInt by omega) (show x96.toInt ≤ 400 by omega) (show x96.toInt + x101.toInt ≤ 390 by omega) (show x101.toInt ≤ x113.toInt + f1_.toInt by omega) (show x96.toInt ≤ 390 by omega) (show x101.toInt ≤ 390 by omega)) (cwV 1 hC.2.2.2.2 gX12_closes_X12_settles rfl rfl rfl (by decide +kernel) ⟨Nat.le_of_ble_eq_true rfl, Nat.le_of_ble_eq_true rfl⟩) rfl hl.1 rfl (Nat.le_of_ble_eq_true rfl) dX12_closes_58 (fun w137 H locs hp136 hw => ?_)
            obtain ⟨hT, k138, hg152⟩ := hp136
            have hF := hF.tr k138 (by decide)
            have c153 := k138.gi kM_at0 (by decide) c129
            have c154 := k138.gi kM_at0 (by decide) c130
            have c155 := k138.gi kM_at0 (by decide) c131
            have c156 := k138.gi kM_at0 (by decide) c127
            obtain ⟨⟨x139, c140, rx139, tx139⟩, ⟨x141, c142, rx141, tx141⟩, ⟨x143, c144, rx143, tx143⟩, g145, g146, g147, g148, g149, g150, g151⟩ := hg152
            have ex139 : x139.toInt = (2 : Int) := by rw [show x139 = 2 from c140.symm.trans c153]; decide
            obtain ⟨x157, c158, rx157, tx157⟩ := hT.rda (lo := 0) (hi := 400) (i := 2) kM_at3 rfl rfl (by decide)
            have g145 : x157.toInt + x143.toInt = x96.toInt + x101.toInt := by have q := g145; simp only [c132, c158, c133, c144] at q; omega
            have g146 : x143.toInt ≤ x101.toInt := by have q := g146; simp only [c133, c144] at q; omega
            have g147 : x143.toInt + x113.toInt ≤ x101.toInt + x141.toInt := by have q := g147; simp only [c134, c142, c133, c144] at q; omega
            have g148 : x143.toInt ≤ x141.toInt + f1_.toInt := by have q := g148; simp only [c142, c130, c144] at q; omega
            have g149 : x143.toInt ≤ 390 := by have q := g149; simp only [c144] at q; omega
            have g150 : x157.toInt ≤ 390 := by have q := g150; simp only [c158] at q; omega
            have g151 : brkN w126 (x143.toInt).toNat = brkN w126 (x101.toInt).toNat := by have q := g151; simp only [c133, c144] at q; omega
            refine lv_goto (tgt := 5) hx hb dX12_closes_61 (by decide) ?_
            exact ih5 x141 x143 x157 H locs ls w137 (show 0 ≤ f1_.toInt by omega) (show f1_.toInt ≤ 60 by omega) (show (-60) ≤ x141.toInt by omega) (show x141.toInt ≤ 10 by omega) (show 0 ≤ x143.toInt by omega) (show x143.toInt ≤ 390 by omega) (show 0 ≤ x157.toInt by omega) (show x157.toInt ≤ 390 by omega) (show x157.toInt + x143.toInt ≤ f4_.toInt + f3_.toInt by omega) (show x143.toInt + f2_.toInt ≤ f3_.toInt + x141.toInt by omega) (show x143.toInt ≤ x141.toInt + f1_.toInt by omega) (show x157.toInt ≤ 390 by omega) (show x143.toInt ≤ 390 by omega) (show -60 ≤ x141.toInt by omega) (show (x143.toInt - 0).toNat < n5 by omega) hw hT hF c153 c154 c142 c144 c158 (lv_sub hl [0] rfl)
      · have g53 : (x51.toInt = x35.toInt ∨ (gi w21 1 (x35.toInt).toNat).toInt = 32) := by have q := g53; simp only [c36, c52] at q; omega
        refine lv_bipush (v := 93) hx hb dX12_closes_9 (by decide) ?_
        refine lv_icmp_ne (tgt := 64) hx hb dX12_closes_11 (by decide) (fun _ => ?_) (fun c => absurd c (by decide))
        exact J64 x49 x51 f5_0_19 f5_0_22 f5_3_2 H locs ls w39 (show 0 ≤ x49.toInt by omega) (show x49.toInt ≤ 400 by omega) (show 0 ≤ x51.toInt by omega) (show x51.toInt ≤ 400 by omega) (show 0 ≤ f1_.toInt by omega) (show f1_.toInt ≤ 60 by omega) (show (-60) ≤ f5_0_19.toInt by omega) (show f5_0_19.toInt ≤ 10 by omega) (show 0 ≤ f5_0_22.toInt by omega) (show f5_0_22.toInt ≤ 390 by omega) (show 0 ≤ f5_3_2.toInt by omega) (show f5_3_2.toInt ≤ 390 by omega) (show f5_3_2.toInt + f5_0_22.toInt ≤ f4_.toInt + f3_.toInt by omega) (show f5_0_22.toInt + f2_.toInt ≤ f3_.toInt + f5_0_19.toInt by omega) (show f5_0_22.toInt ≤ f5_0_19.toInt + f1_.toInt by omega) (show f5_3_2.toInt ≤ 390 by omega) (show f5_0_22.toInt ≤ 390 by omega) (show -60 ≤ f5_0_19.toInt by omega)  hw hT hF c50 c52 c58 c59 c60 c61 c62 (lv_sub hl [0] rfl)
      · obtain ⟨x63, c64, rx63, tx63⟩ := hT.rdi (lo := 0) (hi := 400) (k := 14) kM_at0 (by decide) rfl
        have g56 : (x63.toInt = x35.toInt ∨ (gi w21 1 (x35.toInt).toNat).toInt = 32) := by have q := g56; simp only [c36, c64] at q; omega
        refine lv_bipush (v := 93) hx hb dX12_closes_9 (by decide) ?_
        refine lv_icmp_ne (tgt := 64) hx hb dX12_closes_11 (by decide) (fun _ => ?_) (fun c => absurd c (by decide))
        exact J64 x54 x63 f5_0_19 f5_0_22 f5_3_2 H locs ls w39 (show 0 ≤ x54.toInt by omega) (show x54.toInt ≤ 400 by omega) (show 0 ≤ x63.toInt by omega) (show x63.toInt ≤ 400 by omega) (show 0 ≤ f1_.toInt by omega) (show f1_.toInt ≤ 60 by omega) (show (-60) ≤ f5_0_19.toInt by omega) (show f5_0_19.toInt ≤ 10 by omega) (show 0 ≤ f5_0_22.toInt by omega) (show f5_0_22.toInt ≤ 390 by omega) (show 0 ≤ f5_3_2.toInt by omega) (show f5_3_2.toInt ≤ 390 by omega) (show f5_3_2.toInt + f5_0_22.toInt ≤ f4_.toInt + f3_.toInt by omega) (show f5_0_22.toInt + f2_.toInt ≤ f3_.toInt + f5_0_19.toInt by omega) (show f5_0_22.toInt ≤ f5_0_19.toInt + f1_.toInt by omega) (show f5_3_2.toInt ≤ 390 by omega) (show f5_0_22.toInt ≤ 390 by omega) (show -60 ≤ f5_0_19.toInt by omega)  hw hT hF c55 c64 c58 c59 c60 c61 c62 (lv_sub hl [0] rfl)
  refine lv_aload_n hx hb dX12_closes_0 rfl (lv_at hl 0 rfl) ?_
  refine lv_iconst (v := 3) hx hb dX12_closes_1 (by decide) ?_
  refine tk_Vv hC hK hw hT hA hE hSR kM_at0 (by decide) rfl (k_X12_settles_8 l adK adV dC dI cy ad B (by omega) (by omega) qr s1    w0 s.heap.size hT cf0_ f1_ cf1_ (show 0 ≤ f1_.toInt by omega) (show f1_.toInt ≤ 60 by omega) f2_ cf2_ (show (-100) ≤ f2_.toInt by omega) (show f2_.toInt ≤ 10 by omega) f3_ cf3_ (show 0 ≤ f3_.toInt by omega) (show f3_.toInt ≤ 400 by omega) f4_ cf4_ (show 0 ≤ f4_.toInt by omega) (show f4_.toInt ≤ 400 by omega) (show f4_.toInt + f3_.toInt ≤ 390 by omega) (show f3_.toInt ≤ f2_.toInt + f1_.toInt by omega) (show f4_.toInt ≤ 390 by omega) (show f3_.toInt ≤ 390 by omega)) (cwV 1 hC.2.2.2.2 gX12_closes_X12_settles rfl rfl rfl (by decide +kernel) ⟨Nat.le_of_ble_eq_true rfl, Nat.le_of_ble_eq_true rfl⟩) rfl hl.1 rfl (Nat.le_of_ble_eq_true rfl) dX12_closes_2 (fun w161 H locs hp160 hw => ?_)
  obtain ⟨hT, k162, hg176⟩ := hp160
  have hF := hF.tr k162 (by decide)
  have c177 := k162.gi kM_at0 (by decide) cf0_
  have c178 := k162.gi kM_at0 (by decide) cf1_
  obtain ⟨⟨x163, c164, rx163, tx163⟩, ⟨x165, c166, rx165, tx165⟩, ⟨x167, c168, rx167, tx167⟩, g169, g170, g171, g172, g173, g174, g175⟩ := hg176
  have ex163 : x163.toInt = (2 : Int) := by rw [show x163 = 2 from c164.symm.trans c177]; decide
  obtain ⟨x179, c180, rx179, tx179⟩ := hT.rda (lo := 0) (hi := 400) (i := 2) kM_at3 rfl rfl (by decide)
  have g169 : x179.toInt + x167.toInt = f4_.toInt + f3_.toInt := by have q := g169; simp only [cf4_, c180, cf3_, c168] at q; omega
  have g170 : x167.toInt ≤ f3_.toInt := by have q := g170; simp only [cf3_, c168] at q; omega
  have g171 : x167.toInt + f2_.toInt ≤ f3_.toInt + x165.toInt := by have q := g171; simp only [cf2_, c166, cf3_, c168] at q; omega
  have g172 : x167.toInt ≤ x165.toInt + f1_.toInt := by have q := g172; simp only [c166, cf1_, c168] at q; omega
  have g173 : x167.toInt ≤ 390 := by have q := g173; simp only [c168] at q; omega
  have g174 : x179.toInt ≤ 390 := by have q := g174; simp only [c180] at q; omega
  have g175 : brkN w0 (x167.toInt).toNat = brkN w0 (f3_.toInt).toNat := by have q := g175; simp only [cf3_, c168] at q; omega
  exact L5 ((x167.toInt - 0).toNat + 1) x165 x167 x179 H locs ls w161 (show 0 ≤ f1_.toInt by omega) (show f1_.toInt ≤ 60 by omega) (show (-60) ≤ x165.toInt by omega) (show x165.toInt ≤ 10 by omega) (show 0 ≤ x167.toInt by omega) (show x167.toInt ≤ 390 by omega) (show 0 ≤ x179.toInt by omega) (show x179.toInt ≤ 390 by omega) (show x179.toInt + x167.toInt ≤ f4_.toInt + f3_.toInt by omega) (show x167.toInt + f2_.toInt ≤ f3_.toInt + x165.toInt by omega) (show x167.toInt ≤ x165.toInt + f1_.toInt by omega) (show x179.toInt ≤ 390 by omega) (show x167.toInt ≤ 390 by omega) (show -60 ≤ x165.toInt by omega) (Nat.lt_succ_self _) hw hT hF c177 c178 c166 c168 c180 (lv_sub hl [0] rfl)
abbrev P_X12_value_3 (ad : Nat → Nat) (cy : Nat → ClassId) (B : Int) (qr : Nat) (s1 : Int)  (w0 : va_W) : Int32 → va_W → Prop := fun r u => TW ksM ad cy B qr 12 u ∧ FE ksM [(12, 14, 14), (12, 15, 15), (12, 16, 16), (12, 18, 18), (61, 0, 2400), (62, 0, 7)] w0 u ∧ ((r = 0 ∧ (∃ y : Int32, gi u 0 1 = y ∧ 1 ≤ y.toInt ∧ y.toInt ≤ 400) ∧ (∃ y : Int32, gi u 0 15 = y ∧ 1 ≤ y.toInt ∧ y.toInt ≤ 3205) ∧ (∃ y : Int32, gi u 0 17 = y ∧ 2 ≤ y.toInt ∧ y.toInt ≤ 2)) ∨ (r = 0 ∧ (∃ y : Int32, gi u 0 1 = y ∧ 0 ≤ y.toInt ∧ y.toInt ≤ 400) ∧ (∃ y : Int32, gi u 0 15 = y ∧ 1 ≤ y.toInt ∧ y.toInt ≤ 3205) ∧ (∃ y : Int32, gi u 0 17 = y ∧ 2 ≤ y.toInt ∧ y.toInt ≤ 2)) ∨ (r = 1 ∧ (∃ y : Int32, gi u 0 1 = y ∧ 1 ≤ y.toInt ∧ y.toInt ≤ 400) ∧ (∃ y : Int32, gi u 0 17 = y ∧ 2 ≤ y.toInt ∧ y.toInt ≤ 2) ∧ (∃ y : Int32, gi u 0 18 = y ∧ 1 ≤ y.toInt ∧ y.toInt ≤ 60) ∧ ((gi u 3 2).toInt = (gi w0 3 2).toInt + 1) ∧ ((gi u 0 18).toInt = (gi w0 0 18).toInt + 1)) ∨ (r = 1 ∧ (∃ y : Int32, gi u 0 1 = y ∧ 0 ≤ y.toInt ∧ y.toInt ≤ 400) ∧ (∃ y : Int32, gi u 0 17 = y ∧ 2 ≤ y.toInt ∧ y.toInt ≤ 2) ∧ (∃ y : Int32, gi u 0 18 = y ∧ 1 ≤ y.toInt ∧ y.toInt ≤ 60) ∧ ((gi u 3 2).toInt = (gi w0 3 2).toInt + 1) ∧ ((gi u 0 18).toInt = (gi w0 0 18).toInt + 1)))
set_option maxHeartbeats 4000000 in
set_option maxRecDepth 100000 in
theorem k_X12_value_3 (l : Launch) (adK adV : Nat → Nat) (dC : Nat → ClassId) (dI : Nat → Nat → Nat) (cy : Nat → ClassId) (ad : Nat → Nat) (B : Int) (hB0 : 100000 ≤ B) (hB1 : B ≤ 1073741824) (qr : Nat) (s1 : Int)   (w0 : va_W) (sz : Nat) (hT : TW ksM ad cy B qr 12 w0) (cf0_ : gi w0 0 17 = 2) (f1_ : Int32) (cf1_ : gi w0 0 18 = f1_) (rf1_ : 0 ≤ f1_.toInt) (tf1_ : f1_.toInt ≤ 60) (f2_ : Int32) (cf2_ : gi w0 3 2 = f2_) (rf2_ : 0 ≤ f2_.toInt) (tf2_ : f2_.toInt ≤ 400) (pr0_ : f2_.toInt ≤ 399) : Met l yX12_value wsX12_value ({ frames := 4, cells := 0, slots := 0, locals := 78 }) (va_Pc [.ref (ad 0)] (wpreS adK adV dC dI cy sz w0)) (va_Qi (P_X12_value_3 ad cy B qr s1  w0) (fun u : va_W => wpost dC dI cy (va_A w0 sz) u) (va_A w0 sz)) 0 0 (va_A w0 sz) := by
  refine Met.ofW (cc := cX12_value) (maxL := 3) (ret := (some .boolean)) (by decide) rfl ?_
  intro p e s m args below meth c s₁ Bk hml hv
  obtain ⟨rfl, ⟨hsz, hP, hK, hD0⟩, hE, hSR⟩ := hv
  have hx := Bk.exec
  have hb := Bk.bytes
  have hr := Bk.returns
  have hlocks := Bk.notSynchronized
  have hC : CallFix p m c cX12_value 3 s _ wsX12_value RX12 := ⟨hx, hb, hml, findClass_of_methodNamed Bk.named, atoms_spec (ws := wsX12_value) Bk.pre⟩
  subst hsz
  have hD := hD0.self (sz := s.heap.size)
  generalize hAe : va_A w0 s.heap.size = A at hD hE ⊢
  have hA : ∀ q : Nat, s.heap.size ≤ q → A q := fun q h => by rw [← hAe]; exact Or.inr h
  have hw : Wd dC dI A s.heap s.heap [] w0 := ⟨hP, hD, va_S.rf⟩
  have hF : FE ksM [(12, 14, 14), (12, 15, 15), (12, 16, 16), (12, 18, 18), (61, 0, 2400), (62, 0, 7)] w0 w0 := FE.rf
  have hl := lv_entry ([.ref (ad 0)]) (n := 3) (Nat.le_of_ble_eq_true rfl)
  rw [lg_entry_eq]
  generalize (lg_sl ([.ref (ad 0)]) ++ List.replicate (3 - (lg_sl ([.ref (ad 0)])).length) Slot.unset).toArray = ls at hl ⊢
  have hl : lv_has ls 3 [(0, .ref (ad 0))] := hl
  generalize hloc : ([] : List Loc) = locs at hw ⊢
  have hinX12 : ∀ w ∈ u_ws RX12 TX12 42, w ∈ wsX12_value := fun _ h => List.mem_cons_of_mem _ (List.mem_append_right _ (h))
  have J39 : ∀ (v39_1 : Int32) (f39_0_1 : Int32) (f39_0_15 : Int32) (f39_0_18 : Int32) (H : Heap) (locs : List Loc) (ls : Array Slot) (w1 : va_W), 0 ≤ v39_1.toInt → v39_1.toInt ≤ 399 → 1 ≤ f39_0_1.toInt → f39_0_1.toInt ≤ 400 → 1 ≤ f39_0_15.toInt → f39_0_15.toInt ≤ 3205 → 0 ≤ f39_0_18.toInt → f39_0_18.toInt ≤ 60 → 0 ≤ f2_.toInt → f2_.toInt ≤ 399 → Wd dC dI A s.heap H locs w1 → TW ksM ad cy B qr 12 w1 → FE ksM [(12, 14, 14), (12, 15, 15), (12, 16, 16), (12, 18, 18), (61, 0, 2400), (62, 0, 7)] w0 w1 → gi w1 0 1 = f39_0_1 → gi w1 0 15 = f39_0_15 → gi w1 0 17 = 2 → gi w1 0 18 = f39_0_18 → gi w1 3 2 = f2_ → lv_has ls 3 [(0, .ref (ad 0)), (1, .int v39_1)] → W p l e ({ frames := 4, cells := 0, slots := 0, locals := 78 }) s m (List.toArray [.ref (ad 0)]) below meth c H locs 0 0 (MQ below (va_Qi (P_X12_value_3 ad cy B qr s1  w0) (fun u : va_W => wpost dC dI cy A u) A) (List.toArray [.ref (ad 0)]) s 0 0 A) (F0 m 39 ls []) := by
    intro v39_1 f39_0_1 f39_0_15 f39_0_18 H locs ls w1 r2 t3 r4 t5 r7 t8 r11 t12 r14 t15 hw hT hF c6 c9 c10 c13 c16 hl
    refine lv_iconst (v := 0) hx hb dX12_value_39 (by decide) ?_
    exact tk_zret hC hr rfl hlocks hK ⟨hT, hF, (Or.inl ⟨rfl, ⟨f39_0_1, c6, (show 1 ≤ f39_0_1.toInt by omega), (show f39_0_1.toInt ≤ 400 by omega)⟩, ⟨f39_0_15, c9, (show 1 ≤ f39_0_15.toInt by omega), (show f39_0_15.toInt ≤ 3205 by omega)⟩, ⟨2, c10, (by decide), (by decide)⟩⟩)⟩ hw dX12_value_40
  refine lv_aload_n hx hb dX12_value_0 rfl (lv_at hl 0 rfl) ?_
  obtain ⟨x17, c18, rx17, tx17⟩ := hT.rdi (lo := 0) (hi := 400) (k := 14) kM_at0 (by decide) rfl
  refine tk_Vi hC hK hw hT hA hE hSR kM_at0 (by decide) rfl (k_X12_see_1 l adK adV dC dI cy ad B (by omega) (by omega) qr s1    w0 s.heap.size hT x17 c18 (show 0 ≤ x17.toInt by omega) (show x17.toInt ≤ 400 by omega)) (cwV 0 hC.2.2.2.2 gX12_value_X12_see rfl rfl rfl (by decide +kernel) ⟨Nat.le_of_ble_eq_true rfl, Nat.le_of_ble_eq_true rfl⟩) rfl hl.1 rfl (Nat.le_of_ble_eq_true rfl) dX12_value_1 (fun r19 w21 H locs hp20 hw => ?_)
  obtain ⟨hT, k22, hg39⟩ := hp20
  have hF := hF.tr k22 (by decide)
  have c40 := k22.gi kM_at0 (by decide) cf0_
  have c41 := k22.gi kM_at0 (by decide) cf1_
  have c42 := k22.gi kM_at3 (by decide) cf2_
  rcases hg39 with ⟨g23, g24, ⟨x25, c26, rx25, tx25⟩, ⟨x27, c28, rx27, tx27⟩, g29, g30⟩ | ⟨rfl, ⟨x31, c32, rx31, tx31⟩, ⟨x33, c34, rx33, tx33⟩, g35⟩ | ⟨rfl, ⟨x36, c37, rx36, tx36⟩, g38⟩
  · have g29 : (gi w21 1 (x27.toInt).toNat).toInt ≠ 32 := by have q := g29; simp only [c28] at q; omega
    have g30 : (x27.toInt = x17.toInt ∨ (gi w0 1 (x17.toInt).toNat).toInt = 32) := by have q := g30; simp only [c18, c28] at q; omega
    refine lv_pop hx hb dX12_value_4 rfl ?_
    refine lv_aload_n hx hb dX12_value_5 rfl (lv_at hl 0 rfl) ?_
    refine tk_geti hC hK hw hT hinX12 kM_at0 (by decide) rfl 14 (by decide) (List.mem_of_getElem? (i := 1) rfl) rfl rfl dX12_value_6 (fun x45 c46 rx45 tx45 => ?_)
    refine wk_top x27 (c46.symm.trans c28) ?_
    refine lv_istore_n (lv' := [(1, .int x27), (0, .ref (ad 0))]) hx hb dX12_value_9 rfl hl (by decide) rfl (fun ls hl => ?_)
    refine lv_aload_n hx hb dX12_value_10 rfl (lv_at hl 1 rfl) ?_
    refine lv_aload_n hx hb dX12_value_11 rfl (lv_at hl 1 rfl) ?_
    refine tk_geti hC hK hw hT hinX12 kM_at0 (by decide) rfl 14 (by decide) (List.mem_of_getElem? (i := 1) rfl) rfl rfl dX12_value_12 (fun x47 c48 rx47 tx47 => ?_)
    refine wk_top x27 (c48.symm.trans c28) ?_
    refine tk_Vi hC hK hw hT hA hE hSR kM_at0 (by decide) rfl (k_X12_isDigit_1 l adK adV dC dI cy ad B (by omega) (by omega) qr s1   x27 (show 0 ≤ x27.toInt by omega) (show x27.toInt ≤ 399 by omega) w21 H.size hT ) (cwV 1 hC.2.2.2.2 gX12_value_X12_isDigit rfl rfl rfl (by decide +kernel) ⟨Nat.le_of_ble_eq_true rfl, Nat.le_of_ble_eq_true rfl⟩) rfl hl.1 rfl (Nat.le_of_ble_eq_true rfl) dX12_value_15 (fun r49 w51 H locs hp50 hw => ?_)
    obtain ⟨rfl, hg57⟩ := hp50
    rcases hg57 with ⟨rfl, ⟨x53, c54, rx53, tx53⟩⟩ | ⟨rfl, ⟨x55, c56, rx55, tx55⟩⟩
    · have ex53 : x53.toInt = x25.toInt := by rw [← c26.symm.trans c54]
      refine lv_if_eq (tgt := 52) hx hb dX12_value_18 (by decide) (fun _ => ?_) (fun c => absurd (by decide) c)
      refine lv_aload_n hx hb dX12_value_52 rfl (lv_at hl 1 rfl) ?_
      refine tk_Vi hC hK hw hT hA hE hSR kM_at0 (by decide) rfl (k_X12_wordHere_1 l adK adV dC dI cy ad B (by omega) (by omega) qr s1    w21 H.size hT ) (cwV 0 hC.2.2.2.2 gX12_value_X12_wordHere rfl rfl rfl (by decide +kernel) ⟨Nat.le_of_ble_eq_true rfl, Nat.le_of_ble_eq_true rfl⟩) rfl hl.1 rfl (Nat.le_of_ble_eq_true rfl) dX12_value_53 (fun r58 w60 H locs hp59 hw => ?_)
      obtain ⟨hT, k61, hg68⟩ := hp59
      have hF := hF.tr k61 (by decide)
      have c69 := k61.gi kM_at0 (by decide) c40
      have c70 := k61.gi kM_at0 (by decide) c41
      have c71 := k61.gi kM_at3 (by decide) c42
      have c72 := k61.gi kM_at0 (by decide) c26
      rcases hg68 with ⟨g62, g63, ⟨x64, c65, rx64, tx64⟩⟩ | ⟨rfl, ⟨x66, c67, rx66, tx66⟩⟩
      · have ex64 : x64.toInt = x25.toInt := by rw [← c72.symm.trans c65]
        refine lv_istore_n (lv' := [(2, .int r58), (1, .int x27), (0, .ref (ad 0))]) hx hb dX12_value_56 rfl hl (by decide) rfl (fun ls hl => ?_)
        refine lv_iload_n hx hb dX12_value_57 rfl (lv_at hl 0 rfl) ?_
        refine lv_if_ge (tgt := 68) hx hb dX12_value_58 (by decide) (fun _ => ?_) (fun c => (c (wk_le.mpr (show (0 : Int) ≤ r58.toInt by omega))).elim)
        refine lv_aload_n hx hb dX12_value_68 rfl (lv_at hl 2 rfl) ?_
        refine lv_iload_n hx hb dX12_value_69 rfl (lv_at hl 1 rfl) ?_
        refine tk_Vi hC hK hw hT hA hE hSR kM_at0 (by decide) rfl (k_X12_makes_2 l adK adV dC dI cy ad B (by omega) (by omega) qr s1   x27 (show 0 ≤ x27.toInt by omega) (show x27.toInt ≤ 399 by omega) w60 H.size hT f1_ c70 (show 0 ≤ f1_.toInt by omega) (show f1_.toInt ≤ 60 by omega)) (cwV 1 hC.2.2.2.2 gX12_value_X12_makes rfl rfl rfl (by decide +kernel) ⟨Nat.le_of_ble_eq_true rfl, Nat.le_of_ble_eq_true rfl⟩) rfl hl.1 rfl (Nat.le_of_ble_eq_true rfl) dX12_value_70 (fun r73 w75 H locs hp74 hw => ?_)
        obtain ⟨hT, k76, hg84⟩ := hp74
        have hF := hF.tr k76 (by decide)
        have c85 := k76.gi kM_at0 (by decide) c69
        have c86 := k76.gi kM_at3 (by decide) c71
        have c87 := k76.gi kM_at0 (by decide) c72
        rcases hg84 with ⟨rfl, ⟨x77, c78, rx77, tx77⟩, ⟨x79, c80, rx79, tx79⟩⟩ | ⟨rfl, ⟨x81, c82, rx81, tx81⟩, g83⟩
        · refine lv_if_ne (tgt := 78) hx hb dX12_value_73 (by decide) (fun c => absurd (by decide) c) (fun _ => ?_)
          refine lv_iconst (v := 0) hx hb dX12_value_76 (by decide) ?_
          exact tk_zret hC hr rfl hlocks hK ⟨hT, hF, (Or.inl ⟨rfl, ⟨x25, c87, (show 1 ≤ x25.toInt by omega), (show x25.toInt ≤ 400 by omega)⟩, ⟨x77, c78, (show 1 ≤ x77.toInt by omega), (show x77.toInt ≤ 3205 by omega)⟩, ⟨2, c85, (by decide), (by decide)⟩⟩)⟩ hw dX12_value_77
        · have g83 : x81.toInt = f1_.toInt + 1 := by have q := g83; simp only [c70, c82] at q; omega
          refine lv_if_ne (tgt := 78) hx hb dX12_value_73 (by decide) (fun _ => ?_) (fun c => absurd c (by decide))
          refine lv_aload_n hx hb dX12_value_78 rfl (lv_at hl 2 rfl) ?_
          refine tk_Vv hC hK hw hT hA hE hSR kM_at0 (by decide) rfl (k_X12_passWord_1 l adK adV dC dI cy ad B (by omega) (by omega) qr s1    w75 H.size hT ) (cwV 0 hC.2.2.2.2 gX12_value_X12_passWord rfl rfl rfl (by decide +kernel) ⟨Nat.le_of_ble_eq_true rfl, Nat.le_of_ble_eq_true rfl⟩) rfl hl.1 rfl (Nat.le_of_ble_eq_true rfl) dX12_value_79 (fun w90 H locs hp89 hw => ?_)
          obtain ⟨hT, k91, hg98⟩ := hp89
          have hF := hF.tr k91 (by decide)
          have c99 := k91.gi kM_at0 (by decide) c85
          have c100 := k91.gi kM_at3 (by decide) c86
          have c101 := k91.gi kM_at0 (by decide) c87
          have c102 := k91.gi kM_at0 (by decide) c82
          rcases hg98 with ⟨⟨x92, c93, rx92, tx92⟩, ⟨x94, c95, rx94, tx94⟩⟩ | ⟨x96, c97, rx96, tx96⟩
          · have ex92 : x92.toInt = x25.toInt := by rw [← c101.symm.trans c93]
            refine lv_aload_n hx hb dX12_value_82 rfl (lv_at hl 2 rfl) ?_
            refine lv_iconst (v := 1) hx hb dX12_value_83 (by decide) ?_
            refine lv_iload_n hx hb dX12_value_84 rfl (lv_at hl 0 rfl) ?_
            refine tk_Vv hC hK hw hT hA hE hSR kM_at0 (by decide) rfl (k_X12_puts_3 l adK adV dC dI cy ad B (by omega) (by omega) qr s1   1 (by decide) (by decide) r58 w90 H.size hT c99 f2_ c100 (show 0 ≤ f2_.toInt by omega) (show f2_.toInt ≤ 400 by omega) (show f2_.toInt ≤ 399 by omega)) (cwV 2 hC.2.2.2.2 gX12_value_X12_puts rfl rfl rfl (by decide +kernel) ⟨Nat.le_of_ble_eq_true rfl, Nat.le_of_ble_eq_true rfl⟩) rfl hl.1 rfl (Nat.le_of_ble_eq_true rfl) dX12_value_85 (fun w105 H locs hp104 hw => ?_)
            obtain ⟨hT, k106, hg110⟩ := hp104
            have hF := hF.tr k106 (by decide)
            have c111 := k106.gi kM_at0 (by decide) c99
            have c112 := k106.gi kM_at0 (by decide) c101
            have c113 := k106.gi kM_at0 (by decide) c102
            have c114 := k106.gi kM_at0 (by decide) c95
            obtain ⟨⟨x107, c108, rx107, tx107⟩, g109⟩ := hg110
            have ex107 : x107.toInt = (2 : Int) := by rw [show x107 = 2 from c108.symm.trans c111]; decide
            obtain ⟨x115, c116, rx115, tx115⟩ := hT.rda (lo := 0) (hi := 400) (i := 2) kM_at3 rfl rfl (by decide)
            have g109 : x115.toInt = f2_.toInt + 1 := by have q := g109; simp only [c100, c116] at q; omega
            refine lv_iconst (v := 1) hx hb dX12_value_88 (by decide) ?_
            exact tk_zret hC hr rfl hlocks hK ⟨hT, hF, (Or.inr (Or.inr (Or.inl ⟨rfl, ⟨x25, c112, (show 1 ≤ x25.toInt by omega), (show x25.toInt ≤ 400 by omega)⟩, ⟨2, c111, (by decide), (by decide)⟩, ⟨x81, c113, (show 1 ≤ x81.toInt by omega), (show x81.toInt ≤ 60 by omega)⟩, (by simp only [cf2_, c116]; omega), (by simp only [cf1_, c113]; omega)⟩)))⟩ hw dX12_value_89
          · have ex96 : x96.toInt = x25.toInt := by rw [← c101.symm.trans c97]
            refine lv_aload_n hx hb dX12_value_82 rfl (lv_at hl 2 rfl) ?_
            refine lv_iconst (v := 1) hx hb dX12_value_83 (by decide) ?_
            refine lv_iload_n hx hb dX12_value_84 rfl (lv_at hl 0 rfl) ?_
            refine tk_Vv hC hK hw hT hA hE hSR kM_at0 (by decide) rfl (k_X12_puts_3 l adK adV dC dI cy ad B (by omega) (by omega) qr s1   1 (by decide) (by decide) r58 w90 H.size hT c99 f2_ c100 (show 0 ≤ f2_.toInt by omega) (show f2_.toInt ≤ 400 by omega) (show f2_.toInt ≤ 399 by omega)) (cwV 2 hC.2.2.2.2 gX12_value_X12_puts rfl rfl rfl (by decide +kernel) ⟨Nat.le_of_ble_eq_true rfl, Nat.le_of_ble_eq_true rfl⟩) rfl hl.1 rfl (Nat.le_of_ble_eq_true rfl) dX12_value_85 (fun w119 H locs hp118 hw => ?_)
            obtain ⟨hT, k120, hg124⟩ := hp118
            have hF := hF.tr k120 (by decide)
            have c125 := k120.gi kM_at0 (by decide) c99
            have c126 := k120.gi kM_at0 (by decide) c101
            have c127 := k120.gi kM_at0 (by decide) c102
            obtain ⟨⟨x121, c122, rx121, tx121⟩, g123⟩ := hg124
            have ex121 : x121.toInt = (2 : Int) := by rw [show x121 = 2 from c122.symm.trans c125]; decide
            obtain ⟨x128, c129, rx128, tx128⟩ := hT.rda (lo := 0) (hi := 400) (i := 2) kM_at3 rfl rfl (by decide)
            have g123 : x128.toInt = f2_.toInt + 1 := by have q := g123; simp only [c100, c129] at q; omega
            refine lv_iconst (v := 1) hx hb dX12_value_88 (by decide) ?_
            exact tk_zret hC hr rfl hlocks hK ⟨hT, hF, (Or.inr (Or.inr (Or.inl ⟨rfl, ⟨x25, c126, (show 1 ≤ x25.toInt by omega), (show x25.toInt ≤ 400 by omega)⟩, ⟨2, c125, (by decide), (by decide)⟩, ⟨x81, c127, (show 1 ≤ x81.toInt by omega), (show x81.toInt ≤ 60 by omega)⟩, (by simp only [cf2_, c129]; omega), (by simp only [cf1_, c127]; omega)⟩)))⟩ hw dX12_value_89
      · have ex66 : x66.toInt = x25.toInt := by rw [← c72.symm.trans c67]
        refine lv_istore_n (lv' := [(2, .int (-1)), (1, .int x27), (0, .ref (ad 0))]) hx hb dX12_value_56 rfl hl (by decide) rfl (fun ls hl => ?_)
        refine lv_iload_n hx hb dX12_value_57 rfl (lv_at hl 0 rfl) ?_
        refine lv_if_ge (tgt := 68) hx hb dX12_value_58 (by decide) (fun c => absurd c (by decide)) (fun _ => ?_)
        refine lv_aload_n hx hb dX12_value_61 rfl (lv_at hl 2 rfl) ?_
        refine lv_iconst (v := 0) hx hb dX12_value_62 (by decide) ?_
        refine lv_iload_n hx hb dX12_value_63 rfl (lv_at hl 1 rfl) ?_
        refine tk_Vi hC hK hw hT hA hE hSR kM_at0 (by decide) rfl (k_X12_fails_1 l adK adV dC dI cy ad B (by omega) (by omega) qr s1   0 (by decide) (by decide) x27 (show 0 ≤ x27.toInt by omega) (show x27.toInt ≤ 400 by omega) w60 H.size hT ) (cwV 2 hC.2.2.2.2 gX12_value_X12_fails rfl rfl rfl (by decide +kernel) ⟨Nat.le_of_ble_eq_true rfl, Nat.le_of_ble_eq_true rfl⟩) rfl hl.1 rfl (Nat.le_of_ble_eq_true rfl) dX12_value_64 (fun r130 w132 H locs hp131 hw => ?_)
        obtain ⟨hT, k133, hg136⟩ := hp131
        have hF := hF.tr k133 (by decide)
        have c137 := k133.gi kM_at0 (by decide) c69
        have c138 := k133.gi kM_at0 (by decide) c70
        have c139 := k133.gi kM_at3 (by decide) c71
        have c140 := k133.gi kM_at0 (by decide) c72
        obtain ⟨rfl, ⟨x134, c135, rx134, tx134⟩⟩ := hg136
        exact tk_zret hC hr rfl hlocks hK ⟨hT, hF, (Or.inl ⟨rfl, ⟨x25, c140, (show 1 ≤ x25.toInt by omega), (show x25.toInt ≤ 400 by omega)⟩, ⟨x134, c135, (show 1 ≤ x134.toInt by omega), (show x134.toInt ≤ 3205 by omega)⟩, ⟨2, c137, (by decide), (by decide)⟩⟩)⟩ hw dX12_value_67
    · have ex55 : x55.toInt = x25.toInt := by rw [← c26.symm.trans c56]
      refine lv_if_eq (tgt := 52) hx hb dX12_value_18 (by decide) (fun c => absurd c (by decide)) (fun _ => ?_)
      refine lv_aload_n hx hb dX12_value_21 rfl (lv_at hl 1 rfl) ?_
      refine lv_iconst (v := 0) hx hb dX12_value_22 (by decide) ?_
      refine lv_ldc (v := 99999) hx hb hC.2.2.2.1 (hC.2.2.2.2 _ (List.mem_of_getElem? (i := 2) rfl)) dX12_value_23 ?_
      refine tk_Vi hC hK hw hT hA hE hSR kM_at0 (by decide) rfl (k_X12_numberHere_9 l adK adV dC dI cy ad B (by omega) (by omega) qr s1    w21 H.size hT ) (cwV 2 hC.2.2.2.2 gX12_value_X12_numberHere rfl rfl rfl (by decide +kernel) ⟨Nat.le_of_ble_eq_true rfl, Nat.le_of_ble_eq_true rfl⟩) rfl hl.1 rfl (Nat.le_of_ble_eq_true rfl) dX12_value_25 (fun r141 w143 H locs hp142 hw => ?_)
      obtain ⟨hT, k144, hg157⟩ := hp142
      have hF := hF.tr k144 (by decide)
      have c158 := k144.gi kM_at0 (by decide) c40
      have c159 := k144.gi kM_at0 (by decide) c41
      have c160 := k144.gi kM_at3 (by decide) c42
      have c161 := k144.gi kM_at0 (by decide) c26
      rcases hg157 with ⟨rfl, ⟨x145, c146, rx145, tx145⟩, ⟨x147, c148, rx147, tx147⟩⟩ | ⟨rfl, ⟨x149, c150, rx149, tx149⟩, ⟨x151, c152, rx151, tx151⟩⟩ | ⟨rfl, ⟨x153, c154, rx153, tx153⟩, ⟨x155, c156, rx155, tx155⟩⟩
      · have ex145 : x145.toInt = x25.toInt := by rw [← c161.symm.trans c146]
        refine lv_if_eq (tgt := 39) hx hb dX12_value_28 (by decide) (fun _ => ?_) (fun c => absurd (by decide) c)
        exact J39 x27 x25 x147 f1_ H locs ls w143 (show 0 ≤ x27.toInt by omega) (show x27.toInt ≤ 399 by omega) (show 1 ≤ x25.toInt by omega) (show x25.toInt ≤ 400 by omega) (show 1 ≤ x147.toInt by omega) (show x147.toInt ≤ 3205 by omega) (show 0 ≤ f1_.toInt by omega) (show f1_.toInt ≤ 60 by omega) (show 0 ≤ f2_.toInt by omega) (show f2_.toInt ≤ 399 by omega)  hw hT hF c161 c148 c158 c159 c160 (lv_sub hl [1, 0] rfl)
      · have ex149 : x149.toInt = x25.toInt := by rw [← c161.symm.trans c150]
        refine lv_if_eq (tgt := 39) hx hb dX12_value_28 (by decide) (fun _ => ?_) (fun c => absurd (by decide) c)
        exact J39 x27 x25 x151 f1_ H locs ls w143 (show 0 ≤ x27.toInt by omega) (show x27.toInt ≤ 399 by omega) (show 1 ≤ x25.toInt by omega) (show x25.toInt ≤ 400 by omega) (show 1 ≤ x151.toInt by omega) (show x151.toInt ≤ 3205 by omega) (show 0 ≤ f1_.toInt by omega) (show f1_.toInt ≤ 60 by omega) (show 0 ≤ f2_.toInt by omega) (show f2_.toInt ≤ 399 by omega)  hw hT hF c161 c152 c158 c159 c160 (lv_sub hl [1, 0] rfl)
      · have ex153 : x153.toInt = x25.toInt := by rw [← c161.symm.trans c154]
        refine lv_if_eq (tgt := 39) hx hb dX12_value_28 (by decide) (fun c => absurd c (by decide)) (fun _ => ?_)
        refine lv_aload_n hx hb dX12_value_31 rfl (lv_at hl 1 rfl) ?_
        refine lv_iload_n hx hb dX12_value_32 rfl (lv_at hl 0 rfl) ?_
        refine tk_Vi hC hK hw hT hA hE hSR kM_at0 (by decide) rfl (k_X12_makes_2 l adK adV dC dI cy ad B (by omega) (by omega) qr s1   x27 (show 0 ≤ x27.toInt by omega) (show x27.toInt ≤ 399 by omega) w143 H.size hT f1_ c159 (show 0 ≤ f1_.toInt by omega) (show f1_.toInt ≤ 60 by omega)) (cwV 1 hC.2.2.2.2 gX12_value_X12_makes rfl rfl rfl (by decide +kernel) ⟨Nat.le_of_ble_eq_true rfl, Nat.le_of_ble_eq_true rfl⟩) rfl hl.1 rfl (Nat.le_of_ble_eq_true rfl) dX12_value_33 (fun r162 w164 H locs hp163 hw => ?_)
        obtain ⟨hT, k165, hg173⟩ := hp163
        have hF := hF.tr k165 (by decide)
        have c174 := k165.gi kM_at0 (by decide) c158
        have c175 := k165.gi kM_at3 (by decide) c160
        have c176 := k165.gi kM_at0 (by decide) c161
        have c177 := k165.gi kM_at0 (by decide) c156
        rcases hg173 with ⟨rfl, ⟨x166, c167, rx166, tx166⟩, ⟨x168, c169, rx168, tx168⟩⟩ | ⟨rfl, ⟨x170, c171, rx170, tx170⟩, g172⟩
        · refine lv_if_ne (tgt := 41) hx hb dX12_value_36 (by decide) (fun c => absurd (by decide) c) (fun _ => ?_)
          exact J39 x27 x25 x166 x168 H locs ls w164 (show 0 ≤ x27.toInt by omega) (show x27.toInt ≤ 399 by omega) (show 1 ≤ x25.toInt by omega) (show x25.toInt ≤ 400 by omega) (show 1 ≤ x166.toInt by omega) (show x166.toInt ≤ 3205 by omega) (show 0 ≤ x168.toInt by omega) (show x168.toInt ≤ 60 by omega) (show 0 ≤ f2_.toInt by omega) (show f2_.toInt ≤ 399 by omega)  hw hT hF c176 c167 c174 c169 c175 (lv_sub hl [1, 0] rfl)
        · have g172 : x170.toInt = f1_.toInt + 1 := by have q := g172; simp only [c159, c171] at q; omega
          refine lv_if_ne (tgt := 41) hx hb dX12_value_36 (by decide) (fun _ => ?_) (fun c => absurd c (by decide))
          refine lv_aload_n hx hb dX12_value_41 rfl (lv_at hl 1 rfl) ?_
          refine lv_iconst (v := 0) hx hb dX12_value_42 (by decide) ?_
          refine lv_aload_n hx hb dX12_value_43 rfl (lv_at hl 1 rfl) ?_
          refine tk_geti hC hK hw hT hinX12 kM_at0 (by decide) rfl 16 (by decide) (List.mem_of_getElem? (i := 3) rfl) rfl rfl dX12_value_44 (fun x178 c179 rx178 tx178 => ?_)
          refine wk_top x155 (c179.symm.trans c177) ?_
          refine tk_Vv hC hK hw hT hA hE hSR kM_at0 (by decide) rfl (k_X12_puts_3 l adK adV dC dI cy ad B (by omega) (by omega) qr s1   0 (by decide) (by decide) x155 w164 H.size hT c174 f2_ c175 (show 0 ≤ f2_.toInt by omega) (show f2_.toInt ≤ 400 by omega) (show f2_.toInt ≤ 399 by omega)) (cwV 2 hC.2.2.2.2 gX12_value_X12_puts rfl rfl rfl (by decide +kernel) ⟨Nat.le_of_ble_eq_true rfl, Nat.le_of_ble_eq_true rfl⟩) rfl hl.1 rfl (Nat.le_of_ble_eq_true rfl) dX12_value_47 (fun w182 H locs hp181 hw => ?_)
          obtain ⟨hT, k183, hg187⟩ := hp181
          have hF := hF.tr k183 (by decide)
          have c188 := k183.gi kM_at0 (by decide) c174
          have c189 := k183.gi kM_at0 (by decide) c176
          have c190 := k183.gi kM_at0 (by decide) c177
          have c191 := k183.gi kM_at0 (by decide) c171
          obtain ⟨⟨x184, c185, rx184, tx184⟩, g186⟩ := hg187
          have ex184 : x184.toInt = (2 : Int) := by rw [show x184 = 2 from c185.symm.trans c188]; decide
          obtain ⟨x192, c193, rx192, tx192⟩ := hT.rda (lo := 0) (hi := 400) (i := 2) kM_at3 rfl rfl (by decide)
          have g186 : x192.toInt = f2_.toInt + 1 := by have q := g186; simp only [c175, c193] at q; omega
          refine lv_iconst (v := 1) hx hb dX12_value_50 (by decide) ?_
          exact tk_zret hC hr rfl hlocks hK ⟨hT, hF, (Or.inr (Or.inr (Or.inl ⟨rfl, ⟨x25, c189, (show 1 ≤ x25.toInt by omega), (show x25.toInt ≤ 400 by omega)⟩, ⟨2, c188, (by decide), (by decide)⟩, ⟨x170, c191, (show 1 ≤ x170.toInt by omega), (show x170.toInt ≤ 60 by omega)⟩, (by simp only [cf2_, c193]; omega), (by simp only [cf1_, c191]; omega)⟩)))⟩ hw dX12_value_51
  · have g35 : (x33.toInt = x17.toInt ∨ (gi w0 1 (x17.toInt).toNat).toInt = 32) := by have q := g35; simp only [c18, c34] at q; omega
    refine lv_pop hx hb dX12_value_4 rfl ?_
    refine lv_aload_n hx hb dX12_value_5 rfl (lv_at hl 0 rfl) ?_
    refine tk_geti hC hK hw hT hinX12 kM_at0 (by decide) rfl 14 (by decide) (List.mem_of_getElem? (i := 1) rfl) rfl rfl dX12_value_6 (fun x194 c195 rx194 tx194 => ?_)
    refine wk_top x33 (c195.symm.trans c34) ?_
    refine lv_istore_n (lv' := [(1, .int x33), (0, .ref (ad 0))]) hx hb dX12_value_9 rfl hl (by decide) rfl (fun ls hl => ?_)
    refine lv_aload_n hx hb dX12_value_10 rfl (lv_at hl 1 rfl) ?_
    refine lv_aload_n hx hb dX12_value_11 rfl (lv_at hl 1 rfl) ?_
    refine tk_geti hC hK hw hT hinX12 kM_at0 (by decide) rfl 14 (by decide) (List.mem_of_getElem? (i := 1) rfl) rfl rfl dX12_value_12 (fun x196 c197 rx196 tx196 => ?_)
    refine wk_top x33 (c197.symm.trans c34) ?_
    refine tk_Vi hC hK hw hT hA hE hSR kM_at0 (by decide) rfl (k_X12_isDigit_3 l adK adV dC dI cy ad B (by omega) (by omega) qr s1   x33 (show 1 ≤ x33.toInt by omega) (show x33.toInt ≤ 399 by omega) w21 H.size hT ) (cwV 1 hC.2.2.2.2 gX12_value_X12_isDigit rfl rfl rfl (by decide +kernel) ⟨Nat.le_of_ble_eq_true rfl, Nat.le_of_ble_eq_true rfl⟩) rfl hl.1 rfl (Nat.le_of_ble_eq_true rfl) dX12_value_15 (fun r198 w200 H locs hp199 hw => ?_)
    obtain ⟨rfl, hg206⟩ := hp199
    rcases hg206 with ⟨rfl, ⟨x202, c203, rx202, tx202⟩⟩ | ⟨rfl, ⟨x204, c205, rx204, tx204⟩⟩
    · have ex202 : x202.toInt = x31.toInt := by rw [← c32.symm.trans c203]
      refine lv_if_eq (tgt := 52) hx hb dX12_value_18 (by decide) (fun _ => ?_) (fun c => absurd (by decide) c)
      refine lv_aload_n hx hb dX12_value_52 rfl (lv_at hl 1 rfl) ?_
      refine tk_Vi hC hK hw hT hA hE hSR kM_at0 (by decide) rfl (k_X12_wordHere_1 l adK adV dC dI cy ad B (by omega) (by omega) qr s1    w21 H.size hT ) (cwV 0 hC.2.2.2.2 gX12_value_X12_wordHere rfl rfl rfl (by decide +kernel) ⟨Nat.le_of_ble_eq_true rfl, Nat.le_of_ble_eq_true rfl⟩) rfl hl.1 rfl (Nat.le_of_ble_eq_true rfl) dX12_value_53 (fun r207 w209 H locs hp208 hw => ?_)
      obtain ⟨hT, k210, hg217⟩ := hp208
      have hF := hF.tr k210 (by decide)
      have c218 := k210.gi kM_at0 (by decide) c40
      have c219 := k210.gi kM_at0 (by decide) c41
      have c220 := k210.gi kM_at3 (by decide) c42
      have c221 := k210.gi kM_at0 (by decide) c32
      rcases hg217 with ⟨g211, g212, ⟨x213, c214, rx213, tx213⟩⟩ | ⟨rfl, ⟨x215, c216, rx215, tx215⟩⟩
      · have ex213 : x213.toInt = x31.toInt := by rw [← c221.symm.trans c214]
        refine lv_istore_n (lv' := [(2, .int r207), (1, .int x33), (0, .ref (ad 0))]) hx hb dX12_value_56 rfl hl (by decide) rfl (fun ls hl => ?_)
        refine lv_iload_n hx hb dX12_value_57 rfl (lv_at hl 0 rfl) ?_
        refine lv_if_ge (tgt := 68) hx hb dX12_value_58 (by decide) (fun _ => ?_) (fun c => (c (wk_le.mpr (show (0 : Int) ≤ r207.toInt by omega))).elim)
        refine lv_aload_n hx hb dX12_value_68 rfl (lv_at hl 2 rfl) ?_
        refine lv_iload_n hx hb dX12_value_69 rfl (lv_at hl 1 rfl) ?_
        refine tk_Vi hC hK hw hT hA hE hSR kM_at0 (by decide) rfl (k_X12_makes_4 l adK adV dC dI cy ad B (by omega) (by omega) qr s1   x33 (show 1 ≤ x33.toInt by omega) (show x33.toInt ≤ 399 by omega) w209 H.size hT f1_ c219 (show 0 ≤ f1_.toInt by omega) (show f1_.toInt ≤ 60 by omega)) (cwV 1 hC.2.2.2.2 gX12_value_X12_makes rfl rfl rfl (by decide +kernel) ⟨Nat.le_of_ble_eq_true rfl, Nat.le_of_ble_eq_true rfl⟩) rfl hl.1 rfl (Nat.le_of_ble_eq_true rfl) dX12_value_70 (fun r222 w224 H locs hp223 hw => ?_)
        obtain ⟨hT, k225, hg233⟩ := hp223
        have hF := hF.tr k225 (by decide)
        have c234 := k225.gi kM_at0 (by decide) c218
        have c235 := k225.gi kM_at3 (by decide) c220
        have c236 := k225.gi kM_at0 (by decide) c221
        rcases hg233 with ⟨rfl, ⟨x226, c227, rx226, tx226⟩, ⟨x228, c229, rx228, tx228⟩⟩ | ⟨rfl, ⟨x230, c231, rx230, tx230⟩, g232⟩
        · refine lv_if_ne (tgt := 78) hx hb dX12_value_73 (by decide) (fun c => absurd (by decide) c) (fun _ => ?_)
          refine lv_iconst (v := 0) hx hb dX12_value_76 (by decide) ?_
          exact tk_zret hC hr rfl hlocks hK ⟨hT, hF, (Or.inl ⟨rfl, ⟨x31, c236, (show 1 ≤ x31.toInt by omega), (show x31.toInt ≤ 400 by omega)⟩, ⟨x226, c227, (show 1 ≤ x226.toInt by omega), (show x226.toInt ≤ 3205 by omega)⟩, ⟨2, c234, (by decide), (by decide)⟩⟩)⟩ hw dX12_value_77
        · have g232 : x230.toInt = f1_.toInt + 1 := by have q := g232; simp only [c219, c231] at q; omega
          refine lv_if_ne (tgt := 78) hx hb dX12_value_73 (by decide) (fun _ => ?_) (fun c => absurd c (by decide))
          refine lv_aload_n hx hb dX12_value_78 rfl (lv_at hl 2 rfl) ?_
          refine tk_Vv hC hK hw hT hA hE hSR kM_at0 (by decide) rfl (k_X12_passWord_1 l adK adV dC dI cy ad B (by omega) (by omega) qr s1    w224 H.size hT ) (cwV 0 hC.2.2.2.2 gX12_value_X12_passWord rfl rfl rfl (by decide +kernel) ⟨Nat.le_of_ble_eq_true rfl, Nat.le_of_ble_eq_true rfl⟩) rfl hl.1 rfl (Nat.le_of_ble_eq_true rfl) dX12_value_79 (fun w239 H locs hp238 hw => ?_)
          obtain ⟨hT, k240, hg247⟩ := hp238
          have hF := hF.tr k240 (by decide)
          have c248 := k240.gi kM_at0 (by decide) c234
          have c249 := k240.gi kM_at3 (by decide) c235
          have c250 := k240.gi kM_at0 (by decide) c236
          have c251 := k240.gi kM_at0 (by decide) c231
          rcases hg247 with ⟨⟨x241, c242, rx241, tx241⟩, ⟨x243, c244, rx243, tx243⟩⟩ | ⟨x245, c246, rx245, tx245⟩
          · have ex241 : x241.toInt = x31.toInt := by rw [← c250.symm.trans c242]
            refine lv_aload_n hx hb dX12_value_82 rfl (lv_at hl 2 rfl) ?_
            refine lv_iconst (v := 1) hx hb dX12_value_83 (by decide) ?_
            refine lv_iload_n hx hb dX12_value_84 rfl (lv_at hl 0 rfl) ?_
            refine tk_Vv hC hK hw hT hA hE hSR kM_at0 (by decide) rfl (k_X12_puts_3 l adK adV dC dI cy ad B (by omega) (by omega) qr s1   1 (by decide) (by decide) r207 w239 H.size hT c248 f2_ c249 (show 0 ≤ f2_.toInt by omega) (show f2_.toInt ≤ 400 by omega) (show f2_.toInt ≤ 399 by omega)) (cwV 2 hC.2.2.2.2 gX12_value_X12_puts rfl rfl rfl (by decide +kernel) ⟨Nat.le_of_ble_eq_true rfl, Nat.le_of_ble_eq_true rfl⟩) rfl hl.1 rfl (Nat.le_of_ble_eq_true rfl) dX12_value_85 (fun w254 H locs hp253 hw => ?_)
            obtain ⟨hT, k255, hg259⟩ := hp253
            have hF := hF.tr k255 (by decide)
            have c260 := k255.gi kM_at0 (by decide) c248
            have c261 := k255.gi kM_at0 (by decide) c250
            have c262 := k255.gi kM_at0 (by decide) c251
            have c263 := k255.gi kM_at0 (by decide) c244
            obtain ⟨⟨x256, c257, rx256, tx256⟩, g258⟩ := hg259
            have ex256 : x256.toInt = (2 : Int) := by rw [show x256 = 2 from c257.symm.trans c260]; decide
            obtain ⟨x264, c265, rx264, tx264⟩ := hT.rda (lo := 0) (hi := 400) (i := 2) kM_at3 rfl rfl (by decide)
            have g258 : x264.toInt = f2_.toInt + 1 := by have q := g258; simp only [c249, c265] at q; omega
            refine lv_iconst (v := 1) hx hb dX12_value_88 (by decide) ?_
            exact tk_zret hC hr rfl hlocks hK ⟨hT, hF, (Or.inr (Or.inr (Or.inl ⟨rfl, ⟨x31, c261, (show 1 ≤ x31.toInt by omega), (show x31.toInt ≤ 400 by omega)⟩, ⟨2, c260, (by decide), (by decide)⟩, ⟨x230, c262, (show 1 ≤ x230.toInt by omega), (show x230.toInt ≤ 60 by omega)⟩, (by simp only [cf2_, c265]; omega), (by simp only [cf1_, c262]; omega)⟩)))⟩ hw dX12_value_89
          · have ex245 : x245.toInt = x31.toInt := by rw [← c250.symm.trans c246]
            refine lv_aload_n hx hb dX12_value_82 rfl (lv_at hl 2 rfl) ?_
            refine lv_iconst (v := 1) hx hb dX12_value_83 (by decide) ?_
            refine lv_iload_n hx hb dX12_value_84 rfl (lv_at hl 0 rfl) ?_
            refine tk_Vv hC hK hw hT hA hE hSR kM_at0 (by decide) rfl (k_X12_puts_3 l adK adV dC dI cy ad B (by omega) (by omega) qr s1   1 (by decide) (by decide) r207 w239 H.size hT c248 f2_ c249 (show 0 ≤ f2_.toInt by omega) (show f2_.toInt ≤ 400 by omega) (show f2_.toInt ≤ 399 by omega)) (cwV 2 hC.2.2.2.2 gX12_value_X12_puts rfl rfl rfl (by decide +kernel) ⟨Nat.le_of_ble_eq_true rfl, Nat.le_of_ble_eq_true rfl⟩) rfl hl.1 rfl (Nat.le_of_ble_eq_true rfl) dX12_value_85 (fun w268 H locs hp267 hw => ?_)
            obtain ⟨hT, k269, hg273⟩ := hp267
            have hF := hF.tr k269 (by decide)
            have c274 := k269.gi kM_at0 (by decide) c248
            have c275 := k269.gi kM_at0 (by decide) c250
            have c276 := k269.gi kM_at0 (by decide) c251
            obtain ⟨⟨x270, c271, rx270, tx270⟩, g272⟩ := hg273
            have ex270 : x270.toInt = (2 : Int) := by rw [show x270 = 2 from c271.symm.trans c274]; decide
            obtain ⟨x277, c278, rx277, tx277⟩ := hT.rda (lo := 0) (hi := 400) (i := 2) kM_at3 rfl rfl (by decide)
            have g272 : x277.toInt = f2_.toInt + 1 := by have q := g272; simp only [c249, c278] at q; omega
            refine lv_iconst (v := 1) hx hb dX12_value_88 (by decide) ?_
            exact tk_zret hC hr rfl hlocks hK ⟨hT, hF, (Or.inr (Or.inr (Or.inl ⟨rfl, ⟨x31, c275, (show 1 ≤ x31.toInt by omega), (show x31.toInt ≤ 400 by omega)⟩, ⟨2, c274, (by decide), (by decide)⟩, ⟨x230, c276, (show 1 ≤ x230.toInt by omega), (show x230.toInt ≤ 60 by omega)⟩, (by simp only [cf2_, c278]; omega), (by simp only [cf1_, c276]; omega)⟩)))⟩ hw dX12_value_89
      · have ex215 : x215.toInt = x31.toInt := by rw [← c221.symm.trans c216]
        refine lv_istore_n (lv' := [(2, .int (-1)), (1, .int x33), (0, .ref (ad 0))]) hx hb dX12_value_56 rfl hl (by decide) rfl (fun ls hl => ?_)
        refine lv_iload_n hx hb dX12_value_57 rfl (lv_at hl 0 rfl) ?_
        refine lv_if_ge (tgt := 68) hx hb dX12_value_58 (by decide) (fun c => absurd c (by decide)) (fun _ => ?_)
        refine lv_aload_n hx hb dX12_value_61 rfl (lv_at hl 2 rfl) ?_
        refine lv_iconst (v := 0) hx hb dX12_value_62 (by decide) ?_
        refine lv_iload_n hx hb dX12_value_63 rfl (lv_at hl 1 rfl) ?_
        refine tk_Vi hC hK hw hT hA hE hSR kM_at0 (by decide) rfl (k_X12_fails_1 l adK adV dC dI cy ad B (by omega) (by omega) qr s1   0 (by decide) (by decide) x33 (show 0 ≤ x33.toInt by omega) (show x33.toInt ≤ 400 by omega) w209 H.size hT ) (cwV 2 hC.2.2.2.2 gX12_value_X12_fails rfl rfl rfl (by decide +kernel) ⟨Nat.le_of_ble_eq_true rfl, Nat.le_of_ble_eq_true rfl⟩) rfl hl.1 rfl (Nat.le_of_ble_eq_true rfl) dX12_value_64 (fun r279 w281 H locs hp280 hw => ?_)
        obtain ⟨hT, k282, hg285⟩ := hp280
        have hF := hF.tr k282 (by decide)
        have c286 := k282.gi kM_at0 (by decide) c218
        have c287 := k282.gi kM_at0 (by decide) c219
        have c288 := k282.gi kM_at3 (by decide) c220
        have c289 := k282.gi kM_at0 (by decide) c221
        obtain ⟨rfl, ⟨x283, c284, rx283, tx283⟩⟩ := hg285
        exact tk_zret hC hr rfl hlocks hK ⟨hT, hF, (Or.inl ⟨rfl, ⟨x31, c289, (show 1 ≤ x31.toInt by omega), (show x31.toInt ≤ 400 by omega)⟩, ⟨x283, c284, (show 1 ≤ x283.toInt by omega), (show x283.toInt ≤ 3205 by omega)⟩, ⟨2, c286, (by decide), (by decide)⟩⟩)⟩ hw dX12_value_67
    · have ex204 : x204.toInt = x31.toInt := by rw [← c32.symm.trans c205]
      refine lv_if_eq (tgt := 52) hx hb dX12_value_18 (by decide) (fun c => absurd c (by decide)) (fun _ => ?_)
      refine lv_aload_n hx hb dX12_value_21 rfl (lv_at hl 1 rfl) ?_
      refine lv_iconst (v := 0) hx hb dX12_value_22 (by decide) ?_
      refine lv_ldc (v := 99999) hx hb hC.2.2.2.1 (hC.2.2.2.2 _ (List.mem_of_getElem? (i := 2) rfl)) dX12_value_23 ?_
      refine tk_Vi hC hK hw hT hA hE hSR kM_at0 (by decide) rfl (k_X12_numberHere_9 l adK adV dC dI cy ad B (by omega) (by omega) qr s1    w21 H.size hT ) (cwV 2 hC.2.2.2.2 gX12_value_X12_numberHere rfl rfl rfl (by decide +kernel) ⟨Nat.le_of_ble_eq_true rfl, Nat.le_of_ble_eq_true rfl⟩) rfl hl.1 rfl (Nat.le_of_ble_eq_true rfl) dX12_value_25 (fun r290 w292 H locs hp291 hw => ?_)
      obtain ⟨hT, k293, hg306⟩ := hp291
      have hF := hF.tr k293 (by decide)
      have c307 := k293.gi kM_at0 (by decide) c40
      have c308 := k293.gi kM_at0 (by decide) c41
      have c309 := k293.gi kM_at3 (by decide) c42
      have c310 := k293.gi kM_at0 (by decide) c32
      rcases hg306 with ⟨rfl, ⟨x294, c295, rx294, tx294⟩, ⟨x296, c297, rx296, tx296⟩⟩ | ⟨rfl, ⟨x298, c299, rx298, tx298⟩, ⟨x300, c301, rx300, tx300⟩⟩ | ⟨rfl, ⟨x302, c303, rx302, tx302⟩, ⟨x304, c305, rx304, tx304⟩⟩
      · have ex294 : x294.toInt = x31.toInt := by rw [← c310.symm.trans c295]
        refine lv_if_eq (tgt := 39) hx hb dX12_value_28 (by decide) (fun _ => ?_) (fun c => absurd (by decide) c)
        exact J39 x33 x31 x296 f1_ H locs ls w292 (show 0 ≤ x33.toInt by omega) (show x33.toInt ≤ 399 by omega) (show 1 ≤ x31.toInt by omega) (show x31.toInt ≤ 400 by omega) (show 1 ≤ x296.toInt by omega) (show x296.toInt ≤ 3205 by omega) (show 0 ≤ f1_.toInt by omega) (show f1_.toInt ≤ 60 by omega) (show 0 ≤ f2_.toInt by omega) (show f2_.toInt ≤ 399 by omega)  hw hT hF c310 c297 c307 c308 c309 (lv_sub hl [1, 0] rfl)
      · have ex298 : x298.toInt = x31.toInt := by rw [← c310.symm.trans c299]
        refine lv_if_eq (tgt := 39) hx hb dX12_value_28 (by decide) (fun _ => ?_) (fun c => absurd (by decide) c)
        exact J39 x33 x31 x300 f1_ H locs ls w292 (show 0 ≤ x33.toInt by omega) (show x33.toInt ≤ 399 by omega) (show 1 ≤ x31.toInt by omega) (show x31.toInt ≤ 400 by omega) (show 1 ≤ x300.toInt by omega) (show x300.toInt ≤ 3205 by omega) (show 0 ≤ f1_.toInt by omega) (show f1_.toInt ≤ 60 by omega) (show 0 ≤ f2_.toInt by omega) (show f2_.toInt ≤ 399 by omega)  hw hT hF c310 c301 c307 c308 c309 (lv_sub hl [1, 0] rfl)
      · have ex302 : x302.toInt = x31.toInt := by rw [← c310.symm.trans c303]
        refine lv_if_eq (tgt := 39) hx hb dX12_value_28 (by decide) (fun c => absurd c (by decide)) (fun _ => ?_)
        refine lv_aload_n hx hb dX12_value_31 rfl (lv_at hl 1 rfl) ?_
        refine lv_iload_n hx hb dX12_value_32 rfl (lv_at hl 0 rfl) ?_
        refine tk_Vi hC hK hw hT hA hE hSR kM_at0 (by decide) rfl (k_X12_makes_4 l adK adV dC dI cy ad B (by omega) (by omega) qr s1   x33 (show 1 ≤ x33.toInt by omega) (show x33.toInt ≤ 399 by omega) w292 H.size hT f1_ c308 (show 0 ≤ f1_.toInt by omega) (show f1_.toInt ≤ 60 by omega)) (cwV 1 hC.2.2.2.2 gX12_value_X12_makes rfl rfl rfl (by decide +kernel) ⟨Nat.le_of_ble_eq_true rfl, Nat.le_of_ble_eq_true rfl⟩) rfl hl.1 rfl (Nat.le_of_ble_eq_true rfl) dX12_value_33 (fun r311 w313 H locs hp312 hw => ?_)
        obtain ⟨hT, k314, hg322⟩ := hp312
        have hF := hF.tr k314 (by decide)
        have c323 := k314.gi kM_at0 (by decide) c307
        have c324 := k314.gi kM_at3 (by decide) c309
        have c325 := k314.gi kM_at0 (by decide) c310
        have c326 := k314.gi kM_at0 (by decide) c305
        rcases hg322 with ⟨rfl, ⟨x315, c316, rx315, tx315⟩, ⟨x317, c318, rx317, tx317⟩⟩ | ⟨rfl, ⟨x319, c320, rx319, tx319⟩, g321⟩
        · refine lv_if_ne (tgt := 41) hx hb dX12_value_36 (by decide) (fun c => absurd (by decide) c) (fun _ => ?_)
          exact J39 x33 x31 x315 x317 H locs ls w313 (show 0 ≤ x33.toInt by omega) (show x33.toInt ≤ 399 by omega) (show 1 ≤ x31.toInt by omega) (show x31.toInt ≤ 400 by omega) (show 1 ≤ x315.toInt by omega) (show x315.toInt ≤ 3205 by omega) (show 0 ≤ x317.toInt by omega) (show x317.toInt ≤ 60 by omega) (show 0 ≤ f2_.toInt by omega) (show f2_.toInt ≤ 399 by omega)  hw hT hF c325 c316 c323 c318 c324 (lv_sub hl [1, 0] rfl)
        · have g321 : x319.toInt = f1_.toInt + 1 := by have q := g321; simp only [c308, c320] at q; omega
          refine lv_if_ne (tgt := 41) hx hb dX12_value_36 (by decide) (fun _ => ?_) (fun c => absurd c (by decide))
          refine lv_aload_n hx hb dX12_value_41 rfl (lv_at hl 1 rfl) ?_
          refine lv_iconst (v := 0) hx hb dX12_value_42 (by decide) ?_
          refine lv_aload_n hx hb dX12_value_43 rfl (lv_at hl 1 rfl) ?_
          refine tk_geti hC hK hw hT hinX12 kM_at0 (by decide) rfl 16 (by decide) (List.mem_of_getElem? (i := 3) rfl) rfl rfl dX12_value_44 (fun x327 c328 rx327 tx327 => ?_)
          refine wk_top x304 (c328.symm.trans c326) ?_
          refine tk_Vv hC hK hw hT hA hE hSR kM_at0 (by decide) rfl (k_X12_puts_3 l adK adV dC dI cy ad B (by omega) (by omega) qr s1   0 (by decide) (by decide) x304 w313 H.size hT c323 f2_ c324 (show 0 ≤ f2_.toInt by omega) (show f2_.toInt ≤ 400 by omega) (show f2_.toInt ≤ 399 by omega)) (cwV 2 hC.2.2.2.2 gX12_value_X12_puts rfl rfl rfl (by decide +kernel) ⟨Nat.le_of_ble_eq_true rfl, Nat.le_of_ble_eq_true rfl⟩) rfl hl.1 rfl (Nat.le_of_ble_eq_true rfl) dX12_value_47 (fun w331 H locs hp330 hw => ?_)
          obtain ⟨hT, k332, hg336⟩ := hp330
          have hF := hF.tr k332 (by decide)
          have c337 := k332.gi kM_at0 (by decide) c323
          have c338 := k332.gi kM_at0 (by decide) c325
          have c339 := k332.gi kM_at0 (by decide) c326
          have c340 := k332.gi kM_at0 (by decide) c320
          obtain ⟨⟨x333, c334, rx333, tx333⟩, g335⟩ := hg336
          have ex333 : x333.toInt = (2 : Int) := by rw [show x333 = 2 from c334.symm.trans c337]; decide
          obtain ⟨x341, c342, rx341, tx341⟩ := hT.rda (lo := 0) (hi := 400) (i := 2) kM_at3 rfl rfl (by decide)
          have g335 : x341.toInt = f2_.toInt + 1 := by have q := g335; simp only [c324, c342] at q; omega
          refine lv_iconst (v := 1) hx hb dX12_value_50 (by decide) ?_
          exact tk_zret hC hr rfl hlocks hK ⟨hT, hF, (Or.inr (Or.inr (Or.inl ⟨rfl, ⟨x31, c338, (show 1 ≤ x31.toInt by omega), (show x31.toInt ≤ 400 by omega)⟩, ⟨2, c337, (by decide), (by decide)⟩, ⟨x319, c340, (show 1 ≤ x319.toInt by omega), (show x319.toInt ≤ 60 by omega)⟩, (by simp only [cf2_, c342]; omega), (by simp only [cf1_, c340]; omega)⟩)))⟩ hw dX12_value_51
  · obtain ⟨x43, c44, rx43, tx43⟩ := hT.rdi (lo := 0) (hi := 400) (k := 14) kM_at0 (by decide) rfl
    have g38 : (x43.toInt = x17.toInt ∨ (gi w0 1 (x17.toInt).toNat).toInt = 32) := by have q := g38; simp only [c18, c44] at q; omega
    refine lv_pop hx hb dX12_value_4 rfl ?_
    refine lv_aload_n hx hb dX12_value_5 rfl (lv_at hl 0 rfl) ?_
    refine tk_geti hC hK hw hT hinX12 kM_at0 (by decide) rfl 14 (by decide) (List.mem_of_getElem? (i := 1) rfl) rfl rfl dX12_value_6 (fun x343 c344 rx343 tx343 => ?_)
    refine wk_top x43 (c344.symm.trans c44) ?_
    refine lv_istore_n (lv' := [(1, .int x43), (0, .ref (ad 0))]) hx hb dX12_value_9 rfl hl (by decide) rfl (fun ls hl => ?_)
    refine lv_aload_n hx hb dX12_value_10 rfl (lv_at hl 1 rfl) ?_
    refine lv_aload_n hx hb dX12_value_11 rfl (lv_at hl 1 rfl) ?_
    refine tk_geti hC hK hw hT hinX12 kM_at0 (by decide) rfl 14 (by decide) (List.mem_of_getElem? (i := 1) rfl) rfl rfl dX12_value_12 (fun x345 c346 rx345 tx345 => ?_)
    refine wk_top x43 (c346.symm.trans c44) ?_
    refine tk_Vi hC hK hw hT hA hE hSR kM_at0 (by decide) rfl (k_X12_isDigit_2 l adK adV dC dI cy ad B (by omega) (by omega) qr s1   x43 (show 0 ≤ x43.toInt by omega) (show x43.toInt ≤ 400 by omega) w21 H.size hT ) (cwV 1 hC.2.2.2.2 gX12_value_X12_isDigit rfl rfl rfl (by decide +kernel) ⟨Nat.le_of_ble_eq_true rfl, Nat.le_of_ble_eq_true rfl⟩) rfl hl.1 rfl (Nat.le_of_ble_eq_true rfl) dX12_value_15 (fun r347 w349 H locs hp348 hw => ?_)
    obtain ⟨rfl, hg356⟩ := hp348
    rcases hg356 with ⟨rfl, ⟨x351, c352, rx351, tx351⟩⟩ | ⟨rfl, g353, ⟨x354, c355, rx354, tx354⟩⟩
    · have ex351 : x351.toInt = x36.toInt := by rw [← c37.symm.trans c352]
      refine lv_if_eq (tgt := 52) hx hb dX12_value_18 (by decide) (fun _ => ?_) (fun c => absurd (by decide) c)
      refine lv_aload_n hx hb dX12_value_52 rfl (lv_at hl 1 rfl) ?_
      refine tk_Vi hC hK hw hT hA hE hSR kM_at0 (by decide) rfl (k_X12_wordHere_1 l adK adV dC dI cy ad B (by omega) (by omega) qr s1    w21 H.size hT ) (cwV 0 hC.2.2.2.2 gX12_value_X12_wordHere rfl rfl rfl (by decide +kernel) ⟨Nat.le_of_ble_eq_true rfl, Nat.le_of_ble_eq_true rfl⟩) rfl hl.1 rfl (Nat.le_of_ble_eq_true rfl) dX12_value_53 (fun r357 w359 H locs hp358 hw => ?_)
      obtain ⟨hT, k360, hg367⟩ := hp358
      have hF := hF.tr k360 (by decide)
      have c368 := k360.gi kM_at0 (by decide) c40
      have c369 := k360.gi kM_at0 (by decide) c41
      have c370 := k360.gi kM_at3 (by decide) c42
      have c371 := k360.gi kM_at0 (by decide) c37
      rcases hg367 with ⟨g361, g362, ⟨x363, c364, rx363, tx363⟩⟩ | ⟨rfl, ⟨x365, c366, rx365, tx365⟩⟩
      · have ex363 : x363.toInt = x36.toInt := by rw [← c371.symm.trans c364]
        refine lv_istore_n (lv' := [(2, .int r357), (1, .int x43), (0, .ref (ad 0))]) hx hb dX12_value_56 rfl hl (by decide) rfl (fun ls hl => ?_)
        refine lv_iload_n hx hb dX12_value_57 rfl (lv_at hl 0 rfl) ?_
        refine lv_if_ge (tgt := 68) hx hb dX12_value_58 (by decide) (fun _ => ?_) (fun c => (c (wk_le.mpr (show (0 : Int) ≤ r357.toInt by omega))).elim)
        refine lv_aload_n hx hb dX12_value_68 rfl (lv_at hl 2 rfl) ?_
        refine lv_iload_n hx hb dX12_value_69 rfl (lv_at hl 1 rfl) ?_
        refine tk_Vi hC hK hw hT hA hE hSR kM_at0 (by decide) rfl (k_X12_makes_3 l adK adV dC dI cy ad B (by omega) (by omega) qr s1   x43 (show 0 ≤ x43.toInt by omega) (show x43.toInt ≤ 400 by omega) w359 H.size hT f1_ c369 (show 0 ≤ f1_.toInt by omega) (show f1_.toInt ≤ 60 by omega)) (cwV 1 hC.2.2.2.2 gX12_value_X12_makes rfl rfl rfl (by decide +kernel) ⟨Nat.le_of_ble_eq_true rfl, Nat.le_of_ble_eq_true rfl⟩) rfl hl.1 rfl (Nat.le_of_ble_eq_true rfl) dX12_value_70 (fun r372 w374 H locs hp373 hw => ?_)
        obtain ⟨hT, k375, hg383⟩ := hp373
        have hF := hF.tr k375 (by decide)
        have c384 := k375.gi kM_at0 (by decide) c368
        have c385 := k375.gi kM_at3 (by decide) c370
        have c386 := k375.gi kM_at0 (by decide) c371
        rcases hg383 with ⟨rfl, ⟨x376, c377, rx376, tx376⟩, ⟨x378, c379, rx378, tx378⟩⟩ | ⟨rfl, ⟨x380, c381, rx380, tx380⟩, g382⟩
        · refine lv_if_ne (tgt := 78) hx hb dX12_value_73 (by decide) (fun c => absurd (by decide) c) (fun _ => ?_)
          refine lv_iconst (v := 0) hx hb dX12_value_76 (by decide) ?_
          exact tk_zret hC hr rfl hlocks hK ⟨hT, hF, (Or.inr (Or.inl ⟨rfl, ⟨x36, c386, (show 0 ≤ x36.toInt by omega), (show x36.toInt ≤ 400 by omega)⟩, ⟨x376, c377, (show 1 ≤ x376.toInt by omega), (show x376.toInt ≤ 3205 by omega)⟩, ⟨2, c384, (by decide), (by decide)⟩⟩))⟩ hw dX12_value_77
        · have g382 : x380.toInt = f1_.toInt + 1 := by have q := g382; simp only [c369, c381] at q; omega
          refine lv_if_ne (tgt := 78) hx hb dX12_value_73 (by decide) (fun _ => ?_) (fun c => absurd c (by decide))
          refine lv_aload_n hx hb dX12_value_78 rfl (lv_at hl 2 rfl) ?_
          refine tk_Vv hC hK hw hT hA hE hSR kM_at0 (by decide) rfl (k_X12_passWord_1 l adK adV dC dI cy ad B (by omega) (by omega) qr s1    w374 H.size hT ) (cwV 0 hC.2.2.2.2 gX12_value_X12_passWord rfl rfl rfl (by decide +kernel) ⟨Nat.le_of_ble_eq_true rfl, Nat.le_of_ble_eq_true rfl⟩) rfl hl.1 rfl (Nat.le_of_ble_eq_true rfl) dX12_value_79 (fun w389 H locs hp388 hw => ?_)
          obtain ⟨hT, k390, hg397⟩ := hp388
          have hF := hF.tr k390 (by decide)
          have c398 := k390.gi kM_at0 (by decide) c384
          have c399 := k390.gi kM_at3 (by decide) c385
          have c400 := k390.gi kM_at0 (by decide) c386
          have c401 := k390.gi kM_at0 (by decide) c381
          rcases hg397 with ⟨⟨x391, c392, rx391, tx391⟩, ⟨x393, c394, rx393, tx393⟩⟩ | ⟨x395, c396, rx395, tx395⟩
          · have ex391 : x391.toInt = x36.toInt := by rw [← c400.symm.trans c392]
            refine lv_aload_n hx hb dX12_value_82 rfl (lv_at hl 2 rfl) ?_
            refine lv_iconst (v := 1) hx hb dX12_value_83 (by decide) ?_
            refine lv_iload_n hx hb dX12_value_84 rfl (lv_at hl 0 rfl) ?_
            refine tk_Vv hC hK hw hT hA hE hSR kM_at0 (by decide) rfl (k_X12_puts_3 l adK adV dC dI cy ad B (by omega) (by omega) qr s1   1 (by decide) (by decide) r357 w389 H.size hT c398 f2_ c399 (show 0 ≤ f2_.toInt by omega) (show f2_.toInt ≤ 400 by omega) (show f2_.toInt ≤ 399 by omega)) (cwV 2 hC.2.2.2.2 gX12_value_X12_puts rfl rfl rfl (by decide +kernel) ⟨Nat.le_of_ble_eq_true rfl, Nat.le_of_ble_eq_true rfl⟩) rfl hl.1 rfl (Nat.le_of_ble_eq_true rfl) dX12_value_85 (fun w404 H locs hp403 hw => ?_)
            obtain ⟨hT, k405, hg409⟩ := hp403
            have hF := hF.tr k405 (by decide)
            have c410 := k405.gi kM_at0 (by decide) c398
            have c411 := k405.gi kM_at0 (by decide) c400
            have c412 := k405.gi kM_at0 (by decide) c401
            have c413 := k405.gi kM_at0 (by decide) c394
            obtain ⟨⟨x406, c407, rx406, tx406⟩, g408⟩ := hg409
            have ex406 : x406.toInt = (2 : Int) := by rw [show x406 = 2 from c407.symm.trans c410]; decide
            obtain ⟨x414, c415, rx414, tx414⟩ := hT.rda (lo := 0) (hi := 400) (i := 2) kM_at3 rfl rfl (by decide)
            have g408 : x414.toInt = f2_.toInt + 1 := by have q := g408; simp only [c399, c415] at q; omega
            refine lv_iconst (v := 1) hx hb dX12_value_88 (by decide) ?_
            exact tk_zret hC hr rfl hlocks hK ⟨hT, hF, (Or.inr (Or.inr (Or.inl ⟨rfl, ⟨x36, c411, (show 1 ≤ x36.toInt by omega), (show x36.toInt ≤ 400 by omega)⟩, ⟨2, c410, (by decide), (by decide)⟩, ⟨x380, c412, (show 1 ≤ x380.toInt by omega), (show x380.toInt ≤ 60 by omega)⟩, (by simp only [cf2_, c415]; omega), (by simp only [cf1_, c412]; omega)⟩)))⟩ hw dX12_value_89
          · have ex395 : x395.toInt = x36.toInt := by rw [← c400.symm.trans c396]
            refine lv_aload_n hx hb dX12_value_82 rfl (lv_at hl 2 rfl) ?_
            refine lv_iconst (v := 1) hx hb dX12_value_83 (by decide) ?_
            refine lv_iload_n hx hb dX12_value_84 rfl (lv_at hl 0 rfl) ?_
            refine tk_Vv hC hK hw hT hA hE hSR kM_at0 (by decide) rfl (k_X12_puts_3 l adK adV dC dI cy ad B (by omega) (by omega) qr s1   1 (by decide) (by decide) r357 w389 H.size hT c398 f2_ c399 (show 0 ≤ f2_.toInt by omega) (show f2_.toInt ≤ 400 by omega) (show f2_.toInt ≤ 399 by omega)) (cwV 2 hC.2.2.2.2 gX12_value_X12_puts rfl rfl rfl (by decide +kernel) ⟨Nat.le_of_ble_eq_true rfl, Nat.le_of_ble_eq_true rfl⟩) rfl hl.1 rfl (Nat.le_of_ble_eq_true rfl) dX12_value_85 (fun w418 H locs hp417 hw => ?_)
            obtain ⟨hT, k419, hg423⟩ := hp417
            have hF := hF.tr k419 (by decide)
            have c424 := k419.gi kM_at0 (by decide) c398
            have c425 := k419.gi kM_at0 (by decide) c400
            have c426 := k419.gi kM_at0 (by decide) c401
            obtain ⟨⟨x420, c421, rx420, tx420⟩, g422⟩ := hg423
            have ex420 : x420.toInt = (2 : Int) := by rw [show x420 = 2 from c421.symm.trans c424]; decide
            obtain ⟨x427, c428, rx427, tx427⟩ := hT.rda (lo := 0) (hi := 400) (i := 2) kM_at3 rfl rfl (by decide)
            have g422 : x427.toInt = f2_.toInt + 1 := by have q := g422; simp only [c399, c428] at q; omega
            refine lv_iconst (v := 1) hx hb dX12_value_88 (by decide) ?_
            exact tk_zret hC hr rfl hlocks hK ⟨hT, hF, (Or.inr (Or.inr (Or.inr ⟨rfl, ⟨x36, c425, (show 0 ≤ x36.toInt by omega), (show x36.toInt ≤ 400 by omega)⟩, ⟨2, c424, (by decide), (by decide)⟩, ⟨x380, c426, (show 1 ≤ x380.toInt by omega), (show x380.toInt ≤ 60 by omega)⟩, (by simp only [cf2_, c428]; omega), (by simp only [cf1_, c426]; omega)⟩)))⟩ hw dX12_value_89
      · have ex365 : x365.toInt = x36.toInt := by rw [← c371.symm.trans c366]
        refine lv_istore_n (lv' := [(2, .int (-1)), (1, .int x43), (0, .ref (ad 0))]) hx hb dX12_value_56 rfl hl (by decide) rfl (fun ls hl => ?_)
        refine lv_iload_n hx hb dX12_value_57 rfl (lv_at hl 0 rfl) ?_
        refine lv_if_ge (tgt := 68) hx hb dX12_value_58 (by decide) (fun c => absurd c (by decide)) (fun _ => ?_)
        refine lv_aload_n hx hb dX12_value_61 rfl (lv_at hl 2 rfl) ?_
        refine lv_iconst (v := 0) hx hb dX12_value_62 (by decide) ?_
        refine lv_iload_n hx hb dX12_value_63 rfl (lv_at hl 1 rfl) ?_
        refine tk_Vi hC hK hw hT hA hE hSR kM_at0 (by decide) rfl (k_X12_fails_1 l adK adV dC dI cy ad B (by omega) (by omega) qr s1   0 (by decide) (by decide) x43 (show 0 ≤ x43.toInt by omega) (show x43.toInt ≤ 400 by omega) w359 H.size hT ) (cwV 2 hC.2.2.2.2 gX12_value_X12_fails rfl rfl rfl (by decide +kernel) ⟨Nat.le_of_ble_eq_true rfl, Nat.le_of_ble_eq_true rfl⟩) rfl hl.1 rfl (Nat.le_of_ble_eq_true rfl) dX12_value_64 (fun r429 w431 H locs hp430 hw => ?_)
        obtain ⟨hT, k432, hg435⟩ := hp430
        have hF := hF.tr k432 (by decide)
        have c436 := k432.gi kM_at0 (by decide) c368
        have c437 := k432.gi kM_at0 (by decide) c369
        have c438 := k432.gi kM_at3 (by decide) c370
        have c439 := k432.gi kM_at0 (by decide) c371
        obtain ⟨rfl, ⟨x433, c434, rx433, tx433⟩⟩ := hg435
        exact tk_zret hC hr rfl hlocks hK ⟨hT, hF, (Or.inr (Or.inl ⟨rfl, ⟨x36, c439, (show 0 ≤ x36.toInt by omega), (show x36.toInt ≤ 400 by omega)⟩, ⟨x433, c434, (show 1 ≤ x433.toInt by omega), (show x433.toInt ≤ 3205 by omega)⟩, ⟨2, c436, (by decide), (by decide)⟩⟩))⟩ hw dX12_value_67
    · have ex354 : x354.toInt = x36.toInt := by rw [← c37.symm.trans c355]
      refine lv_if_eq (tgt := 52) hx hb dX12_value_18 (by decide) (fun c => absurd c (by decide)) (fun _ => ?_)
      refine lv_aload_n hx hb dX12_value_21 rfl (lv_at hl 1 rfl) ?_
      refine lv_iconst (v := 0) hx hb dX12_value_22 (by decide) ?_
      refine lv_ldc (v := 99999) hx hb hC.2.2.2.1 (hC.2.2.2.2 _ (List.mem_of_getElem? (i := 2) rfl)) dX12_value_23 ?_
      refine tk_Vi hC hK hw hT hA hE hSR kM_at0 (by decide) rfl (k_X12_numberHere_9 l adK adV dC dI cy ad B (by omega) (by omega) qr s1    w21 H.size hT ) (cwV 2 hC.2.2.2.2 gX12_value_X12_numberHere rfl rfl rfl (by decide +kernel) ⟨Nat.le_of_ble_eq_true rfl, Nat.le_of_ble_eq_true rfl⟩) rfl hl.1 rfl (Nat.le_of_ble_eq_true rfl) dX12_value_25 (fun r440 w442 H locs hp441 hw => ?_)
      obtain ⟨hT, k443, hg456⟩ := hp441
      have hF := hF.tr k443 (by decide)
      have c457 := k443.gi kM_at0 (by decide) c40
      have c458 := k443.gi kM_at0 (by decide) c41
      have c459 := k443.gi kM_at3 (by decide) c42
      have c460 := k443.gi kM_at0 (by decide) c37
      rcases hg456 with ⟨rfl, ⟨x444, c445, rx444, tx444⟩, ⟨x446, c447, rx446, tx446⟩⟩ | ⟨rfl, ⟨x448, c449, rx448, tx448⟩, ⟨x450, c451, rx450, tx450⟩⟩ | ⟨rfl, ⟨x452, c453, rx452, tx452⟩, ⟨x454, c455, rx454, tx454⟩⟩
      · have ex444 : x444.toInt = x36.toInt := by rw [← c460.symm.trans c445]
        refine lv_if_eq (tgt := 39) hx hb dX12_value_28 (by decide) (fun _ => ?_) (fun c => absurd (by decide) c)
        exact J39 x43 x36 x446 f1_ H locs ls w442 (show 0 ≤ x43.toInt by omega) (show x43.toInt ≤ 399 by omega) (show 1 ≤ x36.toInt by omega) (show x36.toInt ≤ 400 by omega) (show 1 ≤ x446.toInt by omega) (show x446.toInt ≤ 3205 by omega) (show 0 ≤ f1_.toInt by omega) (show f1_.toInt ≤ 60 by omega) (show 0 ≤ f2_.toInt by omega) (show f2_.toInt ≤ 399 by omega)  hw hT hF c460 c447 c457 c458 c459 (lv_sub hl [1, 0] rfl)
      · have ex448 : x448.toInt = x36.toInt := by rw [← c460.symm.trans c449]
        refine lv_if_eq (tgt := 39) hx hb dX12_value_28 (by decide) (fun _ => ?_) (fun c => absurd (by decide) c)
        exact J39 x43 x36 x450 f1_ H locs ls w442 (show 0 ≤ x43.toInt by omega) (show x43.toInt ≤ 399 by omega) (show 1 ≤ x36.toInt by omega) (show x36.toInt ≤ 400 by omega) (show 1 ≤ x450.toInt by omega) (show x450.toInt ≤ 3205 by omega) (show 0 ≤ f1_.toInt by omega) (show f1_.toInt ≤ 60 by omega) (show 0 ≤ f2_.toInt by omega) (show f2_.toInt ≤ 399 by omega)  hw hT hF c460 c451 c457 c458 c459 (lv_sub hl [1, 0] rfl)
      · have ex452 : x452.toInt = x36.toInt := by rw [← c460.symm.trans c453]
        refine lv_if_eq (tgt := 39) hx hb dX12_value_28 (by decide) (fun c => absurd c (by decide)) (fun _ => ?_)
        refine lv_aload_n hx hb dX12_value_31 rfl (lv_at hl 1 rfl) ?_
        refine lv_iload_n hx hb dX12_value_32 rfl (lv_at hl 0 rfl) ?_
        refine tk_Vi hC hK hw hT hA hE hSR kM_at0 (by decide) rfl (k_X12_makes_2 l adK adV dC dI cy ad B (by omega) (by omega) qr s1   x43 (show 0 ≤ x43.toInt by omega) (show x43.toInt ≤ 399 by omega) w442 H.size hT f1_ c458 (show 0 ≤ f1_.toInt by omega) (show f1_.toInt ≤ 60 by omega)) (cwV 1 hC.2.2.2.2 gX12_value_X12_makes rfl rfl rfl (by decide +kernel) ⟨Nat.le_of_ble_eq_true rfl, Nat.le_of_ble_eq_true rfl⟩) rfl hl.1 rfl (Nat.le_of_ble_eq_true rfl) dX12_value_33 (fun r461 w463 H locs hp462 hw => ?_)
        obtain ⟨hT, k464, hg472⟩ := hp462
        have hF := hF.tr k464 (by decide)
        have c473 := k464.gi kM_at0 (by decide) c457
        have c474 := k464.gi kM_at3 (by decide) c459
        have c475 := k464.gi kM_at0 (by decide) c460
        have c476 := k464.gi kM_at0 (by decide) c455
        rcases hg472 with ⟨rfl, ⟨x465, c466, rx465, tx465⟩, ⟨x467, c468, rx467, tx467⟩⟩ | ⟨rfl, ⟨x469, c470, rx469, tx469⟩, g471⟩
        · refine lv_if_ne (tgt := 41) hx hb dX12_value_36 (by decide) (fun c => absurd (by decide) c) (fun _ => ?_)
          exact J39 x43 x36 x465 x467 H locs ls w463 (show 0 ≤ x43.toInt by omega) (show x43.toInt ≤ 399 by omega) (show 1 ≤ x36.toInt by omega) (show x36.toInt ≤ 400 by omega) (show 1 ≤ x465.toInt by omega) (show x465.toInt ≤ 3205 by omega) (show 0 ≤ x467.toInt by omega) (show x467.toInt ≤ 60 by omega) (show 0 ≤ f2_.toInt by omega) (show f2_.toInt ≤ 399 by omega)  hw hT hF c475 c466 c473 c468 c474 (lv_sub hl [1, 0] rfl)
        · have g471 : x469.toInt = f1_.toInt + 1 := by have q := g471; simp only [c458, c470] at q; omega
          refine lv_if_ne (tgt := 41) hx hb dX12_value_36 (by decide) (fun _ => ?_) (fun c => absurd c (by decide))
          refine lv_aload_n hx hb dX12_value_41 rfl (lv_at hl 1 rfl) ?_
          refine lv_iconst (v := 0) hx hb dX12_value_42 (by decide) ?_
          refine lv_aload_n hx hb dX12_value_43 rfl (lv_at hl 1 rfl) ?_
          refine tk_geti hC hK hw hT hinX12 kM_at0 (by decide) rfl 16 (by decide) (List.mem_of_getElem? (i := 3) rfl) rfl rfl dX12_value_44 (fun x477 c478 rx477 tx477 => ?_)
          refine wk_top x454 (c478.symm.trans c476) ?_
          refine tk_Vv hC hK hw hT hA hE hSR kM_at0 (by decide) rfl (k_X12_puts_3 l adK adV dC dI cy ad B (by omega) (by omega) qr s1   0 (by decide) (by decide) x454 w463 H.size hT c473 f2_ c474 (show 0 ≤ f2_.toInt by omega) (show f2_.toInt ≤ 400 by omega) (show f2_.toInt ≤ 399 by omega)) (cwV 2 hC.2.2.2.2 gX12_value_X12_puts rfl rfl rfl (by decide +kernel) ⟨Nat.le_of_ble_eq_true rfl, Nat.le_of_ble_eq_true rfl⟩) rfl hl.1 rfl (Nat.le_of_ble_eq_true rfl) dX12_value_47 (fun w481 H locs hp480 hw => ?_)
          obtain ⟨hT, k482, hg486⟩ := hp480
          have hF := hF.tr k482 (by decide)
          have c487 := k482.gi kM_at0 (by decide) c473
          have c488 := k482.gi kM_at0 (by decide) c475
          have c489 := k482.gi kM_at0 (by decide) c476
          have c490 := k482.gi kM_at0 (by decide) c470
          obtain ⟨⟨x483, c484, rx483, tx483⟩, g485⟩ := hg486
          have ex483 : x483.toInt = (2 : Int) := by rw [show x483 = 2 from c484.symm.trans c487]; decide
          obtain ⟨x491, c492, rx491, tx491⟩ := hT.rda (lo := 0) (hi := 400) (i := 2) kM_at3 rfl rfl (by decide)
          have g485 : x491.toInt = f2_.toInt + 1 := by have q := g485; simp only [c474, c492] at q; omega
          refine lv_iconst (v := 1) hx hb dX12_value_50 (by decide) ?_
          exact tk_zret hC hr rfl hlocks hK ⟨hT, hF, (Or.inr (Or.inr (Or.inl ⟨rfl, ⟨x36, c488, (show 1 ≤ x36.toInt by omega), (show x36.toInt ≤ 400 by omega)⟩, ⟨2, c487, (by decide), (by decide)⟩, ⟨x469, c490, (show 1 ≤ x469.toInt by omega), (show x469.toInt ≤ 60 by omega)⟩, (by simp only [cf2_, c492]; omega), (by simp only [cf1_, c490]; omega)⟩)))⟩ hw dX12_value_51
abbrev P_X12_term_3 (ad : Nat → Nat) (cy : Nat → ClassId) (B : Int) (qr : Nat) (s1 : Int)  (w0 : va_W) : Int32 → va_W → Prop := fun r u => TW ksM ad cy B qr 12 u ∧ FE ksM [(12, 14, 14), (12, 15, 15), (12, 16, 16), (12, 18, 18), (61, 0, 2400), (62, 0, 7)] w0 u ∧ ((r = 0 ∧ (∃ y : Int32, gi u 0 1 = y ∧ 1 ≤ y.toInt ∧ y.toInt ≤ 400) ∧ (∃ y : Int32, gi u 0 15 = y ∧ 1 ≤ y.toInt ∧ y.toInt ≤ 3205) ∧ (∃ y : Int32, gi u 0 17 = y ∧ 2 ≤ y.toInt ∧ y.toInt ≤ 2)) ∨ (r = 0 ∧ (∃ y : Int32, gi u 0 1 = y ∧ 0 ≤ y.toInt ∧ y.toInt ≤ 400) ∧ (∃ y : Int32, gi u 0 15 = y ∧ 1 ≤ y.toInt ∧ y.toInt ≤ 3205) ∧ (∃ y : Int32, gi u 0 17 = y ∧ 2 ≤ y.toInt ∧ y.toInt ≤ 2)) ∨ (r = 1 ∧ (∃ y : Int32, gi u 0 1 = y ∧ 1 ≤ y.toInt ∧ y.toInt ≤ 400) ∧ (∃ y : Int32, gi u 0 17 = y ∧ 2 ≤ y.toInt ∧ y.toInt ≤ 2) ∧ (∃ y : Int32, gi u 0 18 = y ∧ 1 ≤ y.toInt ∧ y.toInt ≤ 60) ∧ (3 * (gi u 3 2).toInt + 11 ≤ 3 * (gi w0 3 2).toInt + 14 * ((gi u 0 18).toInt - (gi w0 0 18).toInt)) ∧ ((gi w0 0 18).toInt + 1 ≤ (gi u 0 18).toInt)) ∨ (r = 1 ∧ (∃ y : Int32, gi u 0 1 = y ∧ 0 ≤ y.toInt ∧ y.toInt ≤ 400) ∧ (∃ y : Int32, gi u 0 17 = y ∧ 2 ≤ y.toInt ∧ y.toInt ≤ 2) ∧ (∃ y : Int32, gi u 0 18 = y ∧ 1 ≤ y.toInt ∧ y.toInt ≤ 60) ∧ (3 * (gi u 3 2).toInt + 11 ≤ 3 * (gi w0 3 2).toInt + 14 * ((gi u 0 18).toInt - (gi w0 0 18).toInt)) ∧ ((gi w0 0 18).toInt + 1 ≤ (gi u 0 18).toInt)))
set_option maxHeartbeats 4000000 in
set_option maxRecDepth 100000 in
theorem k_X12_term_3 (l : Launch) (adK adV : Nat → Nat) (dC : Nat → ClassId) (dI : Nat → Nat → Nat) (cy : Nat → ClassId) (ad : Nat → Nat) (B : Int) (hB0 : 100000 ≤ B) (hB1 : B ≤ 1073741824) (qr : Nat) (s1 : Int)   (w0 : va_W) (sz : Nat) (hT : TW ksM ad cy B qr 12 w0) (cf0_ : gi w0 0 17 = 2) (f1_ : Int32) (cf1_ : gi w0 0 18 = f1_) (rf1_ : 0 ≤ f1_.toInt) (tf1_ : f1_.toInt ≤ 60) (f2_ : Int32) (cf2_ : gi w0 3 2 = f2_) (rf2_ : 0 ≤ f2_.toInt) (tf2_ : f2_.toInt ≤ 400) (pr0_ : 3 * f2_.toInt ≤ 14 * f1_.toInt + 60) (pr1_ : f2_.toInt ≤ 300) : Met l yX12_term wsX12_term ({ frames := 5, cells := 0, slots := 0, locals := 100 }) (va_Pc [.ref (ad 0)] (wpreS adK adV dC dI cy sz w0)) (va_Qi (P_X12_term_3 ad cy B qr s1  w0) (fun u : va_W => wpost dC dI cy (va_A w0 sz) u) (va_A w0 sz)) 0 0 (va_A w0 sz) := by
  refine Met.ofW (cc := cX12_term) (maxL := 2) (ret := (some .boolean)) (by decide) rfl ?_
  intro p e s m args below meth c s₁ Bk hml hv
  obtain ⟨rfl, ⟨hsz, hP, hK, hD0⟩, hE, hSR⟩ := hv
  have hx := Bk.exec
  have hb := Bk.bytes
  have hr := Bk.returns
  have hlocks := Bk.notSynchronized
  have hC : CallFix p m c cX12_term 2 s _ wsX12_term RX12 := ⟨hx, hb, hml, findClass_of_methodNamed Bk.named, atoms_spec (ws := wsX12_term) Bk.pre⟩
  subst hsz
  have hD := hD0.self (sz := s.heap.size)
  generalize hAe : va_A w0 s.heap.size = A at hD hE ⊢
  have hA : ∀ q : Nat, s.heap.size ≤ q → A q := fun q h => by rw [← hAe]; exact Or.inr h
  have hw : Wd dC dI A s.heap s.heap [] w0 := ⟨hP, hD, va_S.rf⟩
  have hF : FE ksM [(12, 14, 14), (12, 15, 15), (12, 16, 16), (12, 18, 18), (61, 0, 2400), (62, 0, 7)] w0 w0 := FE.rf
  have hl := lv_entry ([.ref (ad 0)]) (n := 2) (Nat.le_of_ble_eq_true rfl)
  rw [lg_entry_eq]
  generalize (lg_sl ([.ref (ad 0)]) ++ List.replicate (2 - (lg_sl ([.ref (ad 0)])).length) Slot.unset).toArray = ls at hl ⊢
  have hl : lv_has ls 2 [(0, .ref (ad 0))] := hl
  generalize hloc : ([] : List Loc) = locs at hw ⊢
  have hinX12 : ∀ w ∈ u_ws RX12 TX12 42, w ∈ wsX12_term := fun _ h => List.mem_cons_of_mem _ (List.mem_append_right _ (h))
  have L9 : ∀ (n9 : Nat) (f9_0_1 : Int32) (f9_0_18 : Int32) (f9_3_2 : Int32) (H : Heap) (locs : List Loc) (ls : Array Slot) (w1 : va_W), 0 ≤ f9_0_1.toInt → f9_0_1.toInt ≤ 400 → 1 ≤ f9_0_18.toInt → f9_0_18.toInt ≤ 60 → 0 ≤ f9_3_2.toInt → f9_3_2.toInt ≤ 300 → (3 * f9_3_2.toInt + 11 ≤ 3 * f2_.toInt + 14 * (f9_0_18.toInt - f1_.toInt)) → (f1_.toInt + 1 ≤ f9_0_18.toInt) → (f9_3_2.toInt ≤ 300) → (60 - f9_0_18.toInt).toNat < n9 → Wd dC dI A s.heap H locs w1 → TW ksM ad cy B qr 12 w1 → FE ksM [(12, 14, 14), (12, 15, 15), (12, 16, 16), (12, 18, 18), (61, 0, 2400), (62, 0, 7)] w0 w1 → gi w1 0 1 = f9_0_1 → gi w1 0 17 = 2 → gi w1 0 18 = f9_0_18 → gi w1 3 2 = f9_3_2 → lv_has ls 2 [(0, .ref (ad 0))] → W p l e ({ frames := 5, cells := 0, slots := 0, locals := 100 }) s m (List.toArray [.ref (ad 0)]) below meth c H locs 0 0 (MQ below (va_Qi (P_X12_term_3 ad cy B qr s1  w0) (fun u : va_W => wpost dC dI cy A u) A) (List.toArray [.ref (ad 0)]) s 0 0 A) (F0 m 9 ls []) := by
    intro n9
    induction n9 with
    | zero => intro f9_0_1 f9_0_18 f9_3_2 H locs ls w1 r2 t3 r6 t7 r9 t10 hcr9_0 hcr9_1 hcr9_2 hm9 hw hT hF c4 c5 c8 c11 hl; omega
    | succ n9 ih9 =>
      intro f9_0_1 f9_0_18 f9_3_2 H locs ls w1 r2 t3 r6 t7 r9 t10 hcr9_0 hcr9_1 hcr9_2 hm9 hw hT hF c4 c5 c8 c11 hl
      have J27 : ∀ (f27_0_14 : Int32) (H : Heap) (locs : List Loc) (ls : Array Slot) (w12 : va_W), 1 ≤ f9_0_1.toInt → f9_0_1.toInt ≤ 400 → 0 ≤ f27_0_14.toInt → f27_0_14.toInt ≤ 399 → 1 ≤ f9_0_18.toInt → f9_0_18.toInt ≤ 60 → 0 ≤ f9_3_2.toInt → f9_3_2.toInt ≤ 300 → (3 * f9_3_2.toInt + 11 ≤ 3 * f2_.toInt + 14 * (f9_0_18.toInt - f1_.toInt)) → (f1_.toInt + 1 ≤ f9_0_18.toInt) → (f9_3_2.toInt ≤ 300) → Wd dC dI A s.heap H locs w12 → TW ksM ad cy B qr 12 w12 → FE ksM [(12, 14, 14), (12, 15, 15), (12, 16, 16), (12, 18, 18), (61, 0, 2400), (62, 0, 7)] w0 w12 → gi w12 0 1 = f9_0_1 → gi w12 0 14 = f27_0_14 → gi w12 0 17 = 2 → gi w12 0 18 = f9_0_18 → gi w12 3 2 = f9_3_2 → lv_has ls 2 [(0, .ref (ad 0))] → W p l e ({ frames := 5, cells := 0, slots := 0, locals := 100 }) s m (List.toArray [.ref (ad 0)]) below meth c H locs 0 0 (MQ below (va_Qi (P_X12_term_3 ad cy B qr s1  w0) (fun u : va_W => wpost dC dI cy A u) A) (List.toArray [.ref (ad 0)]) s 0 0 A) (F0 m 27 ls []) := by
        intro f27_0_14 H locs ls w12 r13 t14 r16 t17 r20 t21 r23 t24 hcr27_0 hcr27_1 hcr27_2 hw hT hF c15 c18 c19 c22 c25 hl
        refine lv_aload_n hx hb dX12_term_27 rfl (lv_at hl 0 rfl) ?_
        refine tk_getA hC hK hw hT hinX12 kM_at0 (by decide) rfl 0 (by decide) (List.mem_of_getElem? (i := 1) rfl) rfl rfl dX12_term_28 ?_
        refine lv_aload_n hx hb dX12_term_31 rfl (lv_at hl 0 rfl) ?_
        refine tk_geti hC hK hw hT hinX12 kM_at0 (by decide) rfl 14 (by decide) (List.mem_of_getElem? (i := 2) rfl) rfl rfl dX12_term_32 (fun x26 c27 rx26 tx26 => ?_)
        refine wk_top f27_0_14 (c27.symm.trans c18) ?_
        refine tk_bald hC hK hw hT kM_at1 rfl rfl (show 0 ≤ f27_0_14.toInt by omega) (show f27_0_14.toInt < 400 by omega) dX12_term_35 (fun x28 c29 rx28 tx28 => ?_)
        have c29 : gi w12 1 (f27_0_14.toInt).toNat = x28 := (congrArg (gi w12 1) (congrArg Int.toNat (show f27_0_14.toInt = f27_0_14.toInt by omega))).trans c29
        refine lv_bipush (v := 42) hx hb dX12_term_36 (by decide) ?_
        refine lv_icmp_ne (tgt := 45) hx hb dX12_term_38 (by decide) (fun c30 => ?_) (fun c30 => ?_)
        · have c30 : ¬ x28.toInt = (42 : Int) := wk_eqF c30
          refine lv_iconst (v := 5) hx hb dX12_term_45 (by decide) ?_
          refine lv_istore_n (lv' := [(1, .int 5), (0, .ref (ad 0))]) hx hb dX12_term_46 rfl hl (by decide) rfl (fun ls hl => ?_)
          refine lv_aload_n hx hb dX12_term_47 rfl (lv_at hl 1 rfl) ?_
          refine lv_dup hx hb dX12_term_48 rfl ?_
          refine tk_geti hC hK hw hT hinX12 kM_at0 (by decide) rfl 14 (by decide) (List.mem_of_getElem? (i := 2) rfl) rfl rfl dX12_term_49 (fun x31 c32 rx31 tx31 => ?_)
          refine wk_top f27_0_14 (c32.symm.trans c18) ?_
          refine lv_iconst (v := 1) hx hb dX12_term_52 (by decide) ?_
          refine lv_iadd hx hb dX12_term_53 ?_
          refine lv_topi (fun x33 ex33 => ?_)
          have ex33 : x33.toInt = f27_0_14.toInt + (1 : Int) := by rw [ex33]; exact wk_add (show (-2147483648) ≤ f27_0_14.toInt + (1 : Int) by omega) (show f27_0_14.toInt + (1 : Int) ≤ 2147483647 by omega)
          refine tk_puti hC hK hw hT hinX12 tyX12_ok nmX12 kM_at0 (by decide) rfl rfl 14 (by decide) (List.mem_of_getElem? (i := 2) rfl) rfl rfl rfl rfl (show 0 ≤ x33.toInt by omega) (show x33.toInt ≤ 400 by omega) dX12_term_54 (fun H locs w34 hw hT k36 c35 => ?_)
          have hF := hF.put kM_at0 (k := 14) (by decide) k36
          have c37 := k36.gi (Or.inr (by decide)) c15
          have c38 := k36.gi (Or.inr (by decide)) c19
          have c39 := k36.gi (Or.inr (by decide)) c22
          have c40 := k36.gi (Or.inr (by decide)) c25
          have c41 := k36.gi (Or.inl (tk_ne kM_at1 kM_at0 (by decide))) c29
          refine lv_aload_n hx hb dX12_term_57 rfl (lv_at hl 1 rfl) ?_
          refine tk_Vi hC hK hw hT hA hE hSR kM_at0 (by decide) rfl (k_X12_value_3 l adK adV dC dI cy ad B (by omega) (by omega) qr s1    w34 H.size hT c38 f9_0_18 c39 (show 0 ≤ f9_0_18.toInt by omega) (show f9_0_18.toInt ≤ 60 by omega) f9_3_2 c40 (show 0 ≤ f9_3_2.toInt by omega) (show f9_3_2.toInt ≤ 400 by omega) (show f9_3_2.toInt ≤ 399 by omega)) (cwV 0 hC.2.2.2.2 gX12_term_X12_value rfl rfl rfl (by decide +kernel) ⟨Nat.le_of_ble_eq_true rfl, Nat.le_of_ble_eq_true rfl⟩) rfl hl.1 rfl (Nat.le_of_ble_eq_true rfl) dX12_term_58 (fun r42 w44 H locs hp43 hw => ?_)
          obtain ⟨hT, k45, hg74⟩ := hp43
          have hF := hF.tr k45 (by decide)
          have c75 := k45.gi kM_at0 (by decide) c37
          have c76 := k45.gi kM_at0 (by decide) c38
          have c77 := k45.gi kM_at1 rfl c41
          rcases hg74 with ⟨rfl, ⟨x46, c47, rx46, tx46⟩, ⟨x48, c49, rx48, tx48⟩, ⟨x50, c51, rx50, tx50⟩⟩ | ⟨rfl, ⟨x52, c53, rx52, tx52⟩, ⟨x54, c55, rx54, tx54⟩, ⟨x56, c57, rx56, tx56⟩⟩ | ⟨rfl, ⟨x58, c59, rx58, tx58⟩, ⟨x60, c61, rx60, tx60⟩, ⟨x62, c63, rx62, tx62⟩, g64, g65⟩ | ⟨rfl, ⟨x66, c67, rx66, tx66⟩, ⟨x68, c69, rx68, tx68⟩, ⟨x70, c71, rx70, tx70⟩, g72, g73⟩
          · have ex46 : x46.toInt = f9_0_1.toInt := by rw [← c75.symm.trans c47]
            have ex50 : x50.toInt = (2 : Int) := by rw [show x50 = 2 from c51.symm.trans c76]; decide
            obtain ⟨x78, c79, rx78, tx78⟩ := hT.rda (lo := 0) (hi := 400) (i := 2) kM_at3 rfl rfl (by decide)
            obtain ⟨x80, c81, rx80, tx80⟩ := hT.rdi (lo := 0) (hi := 60) (k := 18) kM_at0 (by decide) rfl
            refine lv_if_ne (tgt := 66) hx hb dX12_term_61 (by decide) (fun c => absurd (by decide) c) (fun _ => ?_)
            refine lv_iconst (v := 0) hx hb dX12_term_64 (by decide) ?_
            exact tk_zret hC hr rfl hlocks hK ⟨hT, hF, (Or.inl ⟨rfl, ⟨f9_0_1, c75, (show 1 ≤ f9_0_1.toInt by omega), (show f9_0_1.toInt ≤ 400 by omega)⟩, ⟨x48, c49, (show 1 ≤ x48.toInt by omega), (show x48.toInt ≤ 3205 by omega)⟩, ⟨2, c76, (by decide), (by decide)⟩⟩)⟩ hw dX12_term_65
          · have ex52 : x52.toInt = f9_0_1.toInt := by rw [← c75.symm.trans c53]
            have ex56 : x56.toInt = (2 : Int) := by rw [show x56 = 2 from c57.symm.trans c76]; decide
            obtain ⟨x82, c83, rx82, tx82⟩ := hT.rda (lo := 0) (hi := 400) (i := 2) kM_at3 rfl rfl (by decide)
            obtain ⟨x84, c85, rx84, tx84⟩ := hT.rdi (lo := 0) (hi := 60) (k := 18) kM_at0 (by decide) rfl
            refine lv_if_ne (tgt := 66) hx hb dX12_term_61 (by decide) (fun c => absurd (by decide) c) (fun _ => ?_)
            refine lv_iconst (v := 0) hx hb dX12_term_64 (by decide) ?_
            exact tk_zret hC hr rfl hlocks hK ⟨hT, hF, (Or.inl ⟨rfl, ⟨f9_0_1, c75, (show 1 ≤ f9_0_1.toInt by omega), (show f9_0_1.toInt ≤ 400 by omega)⟩, ⟨x54, c55, (show 1 ≤ x54.toInt by omega), (show x54.toInt ≤ 3205 by omega)⟩, ⟨2, c76, (by decide), (by decide)⟩⟩)⟩ hw dX12_term_65
          · have ex58 : x58.toInt = f9_0_1.toInt := by rw [← c75.symm.trans c59]
            have ex60 : x60.toInt = (2 : Int) := by rw [show x60 = 2 from c61.symm.trans c76]; decide
            obtain ⟨x86, c87, rx86, tx86⟩ := hT.rda (lo := 0) (hi := 400) (i := 2) kM_at3 rfl rfl (by decide)
            have g64 : x86.toInt = f9_3_2.toInt + 1 := by have q := g64; simp only [c40, c87] at q; omega
            have g65 : x62.toInt = f9_0_18.toInt + 1 := by have q := g65; simp only [c39, c63] at q; omega
            refine lv_if_ne (tgt := 66) hx hb dX12_term_61 (by decide) (fun _ => ?_) (fun c => absurd c (by decide))
            refine lv_aload_n hx hb dX12_term_66 rfl (lv_at hl 1 rfl) ?_
            refine lv_iload_n hx hb dX12_term_67 rfl (lv_at hl 0 rfl) ?_
            refine lv_iconst (v := 0) hx hb dX12_term_68 (by decide) ?_
            refine tk_Vv hC hK hw hT hA hE hSR kM_at0 (by decide) rfl (k_X12_puts_3 l adK adV dC dI cy ad B (by omega) (by omega) qr s1   5 (by decide) (by decide) 0 w44 H.size hT c76 x86 c87 (show 0 ≤ x86.toInt by omega) (show x86.toInt ≤ 400 by omega) (show x86.toInt ≤ 399 by omega)) (cwV 2 hC.2.2.2.2 gX12_term_X12_puts rfl rfl rfl (by decide +kernel) ⟨Nat.le_of_ble_eq_true rfl, Nat.le_of_ble_eq_true rfl⟩) rfl hl.1 rfl (Nat.le_of_ble_eq_true rfl) dX12_term_69 (fun w92 H locs hp91 hw => ?_)
            obtain ⟨hT, k93, hg97⟩ := hp91
            have hF := hF.tr k93 (by decide)
            have c98 := k93.gi kM_at0 (by decide) c75
            have c99 := k93.gi kM_at0 (by decide) c76
            have c100 := k93.gi kM_at1 rfl c77
            have c101 := k93.gi kM_at0 (by decide) c63
            obtain ⟨⟨x94, c95, rx94, tx94⟩, g96⟩ := hg97
            have ex94 : x94.toInt = (2 : Int) := by rw [show x94 = 2 from c95.symm.trans c99]; decide
            obtain ⟨x102, c103, rx102, tx102⟩ := hT.rda (lo := 0) (hi := 400) (i := 2) kM_at3 rfl rfl (by decide)
            have g96 : x102.toInt = x86.toInt + 1 := by have q := g96; simp only [c87, c103] at q; omega
            refine lv_goto (tgt := 9) hx hb dX12_term_72 (by decide) ?_
            exact ih9 f9_0_1 x62 x102 H locs ls w92 (show 0 ≤ f9_0_1.toInt by omega) (show f9_0_1.toInt ≤ 400 by omega) (show 1 ≤ x62.toInt by omega) (show x62.toInt ≤ 60 by omega) (show 0 ≤ x102.toInt by omega) (show x102.toInt ≤ 300 by omega) (show 3 * x102.toInt + 11 ≤ 3 * f2_.toInt + 14 * (x62.toInt - f1_.toInt) by omega) (show f1_.toInt + 1 ≤ x62.toInt by omega) (show x102.toInt ≤ 300 by omega) (show (60 - x62.toInt).toNat < n9 by omega) hw hT hF c98 c99 c101 c103 (lv_sub hl [1] rfl)
          · have ex66 : x66.toInt = f9_0_1.toInt := by rw [← c75.symm.trans c67]
            have ex68 : x68.toInt = (2 : Int) := by rw [show x68 = 2 from c69.symm.trans c76]; decide
            obtain ⟨x88, c89, rx88, tx88⟩ := hT.rda (lo := 0) (hi := 400) (i := 2) kM_at3 rfl rfl (by decide)
            have g72 : x88.toInt = f9_3_2.toInt + 1 := by have q := g72; simp only [c40, c89] at q; omega
            have g73 : x70.toInt = f9_0_18.toInt + 1 := by have q := g73; simp only [c39, c71] at q; omega
            refine lv_if_ne (tgt := 66) hx hb dX12_term_61 (by decide) (fun _ => ?_) (fun c => absurd c (by decide))
            refine lv_aload_n hx hb dX12_term_66 rfl (lv_at hl 1 rfl) ?_
            refine lv_iload_n hx hb dX12_term_67 rfl (lv_at hl 0 rfl) ?_
            refine lv_iconst (v := 0) hx hb dX12_term_68 (by decide) ?_
            refine tk_Vv hC hK hw hT hA hE hSR kM_at0 (by decide) rfl (k_X12_puts_3 l adK adV dC dI cy ad B (by omega) (by omega) qr s1   5 (by decide) (by decide) 0 w44 H.size hT c76 x88 c89 (show 0 ≤ x88.toInt by omega) (show x88.toInt ≤ 400 by omega) (show x88.toInt ≤ 399 by omega)) (cwV 2 hC.2.2.2.2 gX12_term_X12_puts rfl rfl rfl (by decide +kernel) ⟨Nat.le_of_ble_eq_true rfl, Nat.le_of_ble_eq_true rfl⟩) rfl hl.1 rfl (Nat.le_of_ble_eq_true rfl) dX12_term_69 (fun w106 H locs hp105 hw => ?_)
            obtain ⟨hT, k107, hg111⟩ := hp105
            have hF := hF.tr k107 (by decide)
            have c112 := k107.gi kM_at0 (by decide) c75
            have c113 := k107.gi kM_at0 (by decide) c76
            have c114 := k107.gi kM_at1 rfl c77
            have c115 := k107.gi kM_at0 (by decide) c71
            obtain ⟨⟨x108, c109, rx108, tx108⟩, g110⟩ := hg111
            have ex108 : x108.toInt = (2 : Int) := by rw [show x108 = 2 from c109.symm.trans c113]; decide
            obtain ⟨x116, c117, rx116, tx116⟩ := hT.rda (lo := 0) (hi := 400) (i := 2) kM_at3 rfl rfl (by decide)
            have g110 : x116.toInt = x88.toInt + 1 := by have q := g110; simp only [c89, c117] at q; omega
            refine lv_goto (tgt := 9) hx hb dX12_term_72 (by decide) ?_
            exact ih9 f9_0_1 x70 x116 H locs ls w106 (show 0 ≤ f9_0_1.toInt by omega) (show f9_0_1.toInt ≤ 400 by omega) (show 1 ≤ x70.toInt by omega) (show x70.toInt ≤ 60 by omega) (show 0 ≤ x116.toInt by omega) (show x116.toInt ≤ 300 by omega) (show 3 * x116.toInt + 11 ≤ 3 * f2_.toInt + 14 * (x70.toInt - f1_.toInt) by omega) (show f1_.toInt + 1 ≤ x70.toInt by omega) (show x116.toInt ≤ 300 by omega) (show (60 - x70.toInt).toNat < n9 by omega) hw hT hF c112 c113 c115 c117 (lv_sub hl [1] rfl)
        · have c30 : x28.toInt = (42 : Int) := wk_eq.mp c30
          refine lv_iconst (v := 4) hx hb dX12_term_41 (by decide) ?_
          refine lv_goto (tgt := 46) hx hb dX12_term_42 (by decide) ?_
          refine lv_istore_n (lv' := [(1, .int 4), (0, .ref (ad 0))]) hx hb dX12_term_46 rfl hl (by decide) rfl (fun ls hl => ?_)
          refine lv_aload_n hx hb dX12_term_47 rfl (lv_at hl 1 rfl) ?_
          refine lv_dup hx hb dX12_term_48 rfl ?_
          refine tk_geti hC hK hw hT hinX12 kM_at0 (by decide) rfl 14 (by decide) (List.mem_of_getElem? (i := 2) rfl) rfl rfl dX12_term_49 (fun x118 c119 rx118 tx118 => ?_)
          refine wk_top f27_0_14 (c119.symm.trans c18) ?_
          refine lv_iconst (v := 1) hx hb dX12_term_52 (by decide) ?_
          refine lv_iadd hx hb dX12_term_53 ?_
          refine lv_topi (fun x120 ex120 => ?_)
          have ex120 : x120.toInt = f27_0_14.toInt + (1 : Int) := by rw [ex120]; exact wk_add (show (-2147483648) ≤ f27_0_14.toInt + (1 : Int) by omega) (show f27_0_14.toInt + (1 : Int) ≤ 2147483647 by omega)
          refine tk_puti hC hK hw hT hinX12 tyX12_ok nmX12 kM_at0 (by decide) rfl rfl 14 (by decide) (List.mem_of_getElem? (i := 2) rfl) rfl rfl rfl rfl (show 0 ≤ x120.toInt by omega) (show x120.toInt ≤ 400 by omega) dX12_term_54 (fun H locs w121 hw hT k123 c122 => ?_)
          have hF := hF.put kM_at0 (k := 14) (by decide) k123
          have c124 := k123.gi (Or.inr (by decide)) c15
          have c125 := k123.gi (Or.inr (by decide)) c19
          have c126 := k123.gi (Or.inr (by decide)) c22
          have c127 := k123.gi (Or.inr (by decide)) c25
          have c128 := k123.gi (Or.inl (tk_ne kM_at1 kM_at0 (by decide))) c29
          refine lv_aload_n hx hb dX12_term_57 rfl (lv_at hl 1 rfl) ?_
          refine tk_Vi hC hK hw hT hA hE hSR kM_at0 (by decide) rfl (k_X12_value_3 l adK adV dC dI cy ad B (by omega) (by omega) qr s1    w121 H.size hT c125 f9_0_18 c126 (show 0 ≤ f9_0_18.toInt by omega) (show f9_0_18.toInt ≤ 60 by omega) f9_3_2 c127 (show 0 ≤ f9_3_2.toInt by omega) (show f9_3_2.toInt ≤ 400 by omega) (show f9_3_2.toInt ≤ 399 by omega)) (cwV 0 hC.2.2.2.2 gX12_term_X12_value rfl rfl rfl (by decide +kernel) ⟨Nat.le_of_ble_eq_true rfl, Nat.le_of_ble_eq_true rfl⟩) rfl hl.1 rfl (Nat.le_of_ble_eq_true rfl) dX12_term_58 (fun r129 w131 H locs hp130 hw => ?_)
          obtain ⟨hT, k132, hg161⟩ := hp130
          have hF := hF.tr k132 (by decide)
          have c162 := k132.gi kM_at0 (by decide) c124
          have c163 := k132.gi kM_at0 (by decide) c125
          have c164 := k132.gi kM_at1 rfl c128
          rcases hg161 with ⟨rfl, ⟨x133, c134, rx133, tx133⟩, ⟨x135, c136, rx135, tx135⟩, ⟨x137, c138, rx137, tx137⟩⟩ | ⟨rfl, ⟨x139, c140, rx139, tx139⟩, ⟨x141, c142, rx141, tx141⟩, ⟨x143, c144, rx143, tx143⟩⟩ | ⟨rfl, ⟨x145, c146, rx145, tx145⟩, ⟨x147, c148, rx147, tx147⟩, ⟨x149, c150, rx149, tx149⟩, g151, g152⟩ | ⟨rfl, ⟨x153, c154, rx153, tx153⟩, ⟨x155, c156, rx155, tx155⟩, ⟨x157, c158, rx157, tx157⟩, g159, g160⟩
          · have ex133 : x133.toInt = f9_0_1.toInt := by rw [← c162.symm.trans c134]
            have ex137 : x137.toInt = (2 : Int) := by rw [show x137 = 2 from c138.symm.trans c163]; decide
            obtain ⟨x165, c166, rx165, tx165⟩ := hT.rda (lo := 0) (hi := 400) (i := 2) kM_at3 rfl rfl (by decide)
            obtain ⟨x167, c168, rx167, tx167⟩ := hT.rdi (lo := 0) (hi := 60) (k := 18) kM_at0 (by decide) rfl
            refine lv_if_ne (tgt := 66) hx hb dX12_term_61 (by decide) (fun c => absurd (by decide) c) (fun _ => ?_)
            refine lv_iconst (v := 0) hx hb dX12_term_64 (by decide) ?_
            exact tk_zret hC hr rfl hlocks hK ⟨hT, hF, (Or.inl ⟨rfl, ⟨f9_0_1, c162, (show 1 ≤ f9_0_1.toInt by omega), (show f9_0_1.toInt ≤ 400 by omega)⟩, ⟨x135, c136, (show 1 ≤ x135.toInt by omega), (show x135.toInt ≤ 3205 by omega)⟩, ⟨2, c163, (by decide), (by decide)⟩⟩)⟩ hw dX12_term_65
          · have ex139 : x139.toInt = f9_0_1.toInt := by rw [← c162.symm.trans c140]
            have ex143 : x143.toInt = (2 : Int) := by rw [show x143 = 2 from c144.symm.trans c163]; decide
            obtain ⟨x169, c170, rx169, tx169⟩ := hT.rda (lo := 0) (hi := 400) (i := 2) kM_at3 rfl rfl (by decide)
            obtain ⟨x171, c172, rx171, tx171⟩ := hT.rdi (lo := 0) (hi := 60) (k := 18) kM_at0 (by decide) rfl
            refine lv_if_ne (tgt := 66) hx hb dX12_term_61 (by decide) (fun c => absurd (by decide) c) (fun _ => ?_)
            refine lv_iconst (v := 0) hx hb dX12_term_64 (by decide) ?_
            exact tk_zret hC hr rfl hlocks hK ⟨hT, hF, (Or.inl ⟨rfl, ⟨f9_0_1, c162, (show 1 ≤ f9_0_1.toInt by omega), (show f9_0_1.toInt ≤ 400 by omega)⟩, ⟨x141, c142, (show 1 ≤ x141.toInt by omega), (show x141.toInt ≤ 3205 by omega)⟩, ⟨2, c163, (by decide), (by decide)⟩⟩)⟩ hw dX12_term_65
          · have ex145 : x145.toInt = f9_0_1.toInt := by rw [← c162.symm.trans c146]
            have ex147 : x147.toInt = (2 : Int) := by rw [show x147 = 2 from c148.symm.trans c163]; decide
            obtain ⟨x173, c174, rx173, tx173⟩ := hT.rda (lo := 0) (hi := 400) (i := 2) kM_at3 rfl rfl (by decide)
            have g151 : x173.toInt = f9_3_2.toInt + 1 := by have q := g151; simp only [c127, c174] at q; omega
            have g152 : x149.toInt = f9_0_18.toInt + 1 := by have q := g152; simp only [c126, c150] at q; omega
            refine lv_if_ne (tgt := 66) hx hb dX12_term_61 (by decide) (fun _ => ?_) (fun c => absurd c (by decide))
            refine lv_aload_n hx hb dX12_term_66 rfl (lv_at hl 1 rfl) ?_
            refine lv_iload_n hx hb dX12_term_67 rfl (lv_at hl 0 rfl) ?_
            refine lv_iconst (v := 0) hx hb dX12_term_68 (by decide) ?_
            refine tk_Vv hC hK hw hT hA hE hSR kM_at0 (by decide) rfl (k_X12_puts_3 l adK adV dC dI cy ad B (by omega) (by omega) qr s1   4 (by decide) (by decide) 0 w131 H.size hT c163 x173 c174 (show 0 ≤ x173.toInt by omega) (show x173.toInt ≤ 400 by omega) (show x173.toInt ≤ 399 by omega)) (cwV 2 hC.2.2.2.2 gX12_term_X12_puts rfl rfl rfl (by decide +kernel) ⟨Nat.le_of_ble_eq_true rfl, Nat.le_of_ble_eq_true rfl⟩) rfl hl.1 rfl (Nat.le_of_ble_eq_true rfl) dX12_term_69 (fun w179 H locs hp178 hw => ?_)
            obtain ⟨hT, k180, hg184⟩ := hp178
            have hF := hF.tr k180 (by decide)
            have c185 := k180.gi kM_at0 (by decide) c162
            have c186 := k180.gi kM_at0 (by decide) c163
            have c187 := k180.gi kM_at1 rfl c164
            have c188 := k180.gi kM_at0 (by decide) c150
            obtain ⟨⟨x181, c182, rx181, tx181⟩, g183⟩ := hg184
            have ex181 : x181.toInt = (2 : Int) := by rw [show x181 = 2 from c182.symm.trans c186]; decide
            obtain ⟨x189, c190, rx189, tx189⟩ := hT.rda (lo := 0) (hi := 400) (i := 2) kM_at3 rfl rfl (by decide)
            have g183 : x189.toInt = x173.toInt + 1 := by have q := g183; simp only [c174, c190] at q; omega
            refine lv_goto (tgt := 9) hx hb dX12_term_72 (by decide) ?_
            exact ih9 f9_0_1 x149 x189 H locs ls w179 (show 0 ≤ f9_0_1.toInt by omega) (show f9_0_1.toInt ≤ 400 by omega) (show 1 ≤ x149.toInt by omega) (show x149.toInt ≤ 60 by omega) (show 0 ≤ x189.toInt by omega) (show x189.toInt ≤ 300 by omega) (show 3 * x189.toInt + 11 ≤ 3 * f2_.toInt + 14 * (x149.toInt - f1_.toInt) by omega) (show f1_.toInt + 1 ≤ x149.toInt by omega) (show x189.toInt ≤ 300 by omega) (show (60 - x149.toInt).toNat < n9 by omega) hw hT hF c185 c186 c188 c190 (lv_sub hl [1] rfl)
          · have ex153 : x153.toInt = f9_0_1.toInt := by rw [← c162.symm.trans c154]
            have ex155 : x155.toInt = (2 : Int) := by rw [show x155 = 2 from c156.symm.trans c163]; decide
            obtain ⟨x175, c176, rx175, tx175⟩ := hT.rda (lo := 0) (hi := 400) (i := 2) kM_at3 rfl rfl (by decide)
            have g159 : x175.toInt = f9_3_2.toInt + 1 := by have q := g159; simp only [c127, c176] at q; omega
            have g160 : x157.toInt = f9_0_18.toInt + 1 := by have q := g160; simp only [c126, c158] at q; omega
            refine lv_if_ne (tgt := 66) hx hb dX12_term_61 (by decide) (fun _ => ?_) (fun c => absurd c (by decide))
            refine lv_aload_n hx hb dX12_term_66 rfl (lv_at hl 1 rfl) ?_
            refine lv_iload_n hx hb dX12_term_67 rfl (lv_at hl 0 rfl) ?_
            refine lv_iconst (v := 0) hx hb dX12_term_68 (by decide) ?_
            refine tk_Vv hC hK hw hT hA hE hSR kM_at0 (by decide) rfl (k_X12_puts_3 l adK adV dC dI cy ad B (by omega) (by omega) qr s1   4 (by decide) (by decide) 0 w131 H.size hT c163 x175 c176 (show 0 ≤ x175.toInt by omega) (show x175.toInt ≤ 400 by omega) (show x175.toInt ≤ 399 by omega)) (cwV 2 hC.2.2.2.2 gX12_term_X12_puts rfl rfl rfl (by decide +kernel) ⟨Nat.le_of_ble_eq_true rfl, Nat.le_of_ble_eq_true rfl⟩) rfl hl.1 rfl (Nat.le_of_ble_eq_true rfl) dX12_term_69 (fun w193 H locs hp192 hw => ?_)
            obtain ⟨hT, k194, hg198⟩ := hp192
            have hF := hF.tr k194 (by decide)
            have c199 := k194.gi kM_at0 (by decide) c162
            have c200 := k194.gi kM_at0 (by decide) c163
            have c201 := k194.gi kM_at1 rfl c164
            have c202 := k194.gi kM_at0 (by decide) c158
            obtain ⟨⟨x195, c196, rx195, tx195⟩, g197⟩ := hg198
            have ex195 : x195.toInt = (2 : Int) := by rw [show x195 = 2 from c196.symm.trans c200]; decide
            obtain ⟨x203, c204, rx203, tx203⟩ := hT.rda (lo := 0) (hi := 400) (i := 2) kM_at3 rfl rfl (by decide)
            have g197 : x203.toInt = x175.toInt + 1 := by have q := g197; simp only [c176, c204] at q; omega
            refine lv_goto (tgt := 9) hx hb dX12_term_72 (by decide) ?_
            exact ih9 f9_0_1 x157 x203 H locs ls w193 (show 0 ≤ f9_0_1.toInt by omega) (show f9_0_1.toInt ≤ 400 by omega) (show 1 ≤ x157.toInt by omega) (show x157.toInt ≤ 60 by omega) (show 0 ≤ x203.toInt by omega) (show x203.toInt ≤ 300 by omega) (show 3 * x203.toInt + 11 ≤ 3 * f2_.toInt + 14 * (x157.toInt - f1_.toInt) by omega) (show f1_.toInt + 1 ≤ x157.toInt by omega) (show x203.toInt ≤ 300 by omega) (show (60 - x157.toInt).toNat < n9 by omega) hw hT hF c199 c200 c202 c204 (lv_sub hl [1] rfl)
      refine lv_aload_n hx hb dX12_term_9 rfl (lv_at hl 0 rfl) ?_
      obtain ⟨x205, c206, rx205, tx205⟩ := hT.rdi (lo := 0) (hi := 400) (k := 14) kM_at0 (by decide) rfl
      refine tk_Vi hC hK hw hT hA hE hSR kM_at0 (by decide) rfl (k_X12_see_1 l adK adV dC dI cy ad B (by omega) (by omega) qr s1    w1 H.size hT x205 c206 (show 0 ≤ x205.toInt by omega) (show x205.toInt ≤ 400 by omega)) (cwV 0 hC.2.2.2.2 gX12_term_X12_see rfl rfl rfl (by decide +kernel) ⟨Nat.le_of_ble_eq_true rfl, Nat.le_of_ble_eq_true rfl⟩) rfl hl.1 rfl (Nat.le_of_ble_eq_true rfl) dX12_term_10 (fun r207 w209 H locs hp208 hw => ?_)
      obtain ⟨hT, k210, hg227⟩ := hp208
      have hF := hF.tr k210 (by decide)
      have c228 := k210.gi kM_at0 (by decide) c4
      have c229 := k210.gi kM_at0 (by decide) c5
      have c230 := k210.gi kM_at0 (by decide) c8
      have c231 := k210.gi kM_at3 (by decide) c11
      rcases hg227 with ⟨g211, g212, ⟨x213, c214, rx213, tx213⟩, ⟨x215, c216, rx215, tx215⟩, g217, g218⟩ | ⟨rfl, ⟨x219, c220, rx219, tx219⟩, ⟨x221, c222, rx221, tx221⟩, g223⟩ | ⟨rfl, ⟨x224, c225, rx224, tx224⟩, g226⟩
      · have ex213 : x213.toInt = f9_0_1.toInt := by rw [← c228.symm.trans c214]
        have g217 : (gi w209 1 (x215.toInt).toNat).toInt ≠ 32 := by have q := g217; simp only [c216] at q; omega
        have g218 : (x215.toInt = x205.toInt ∨ (gi w1 1 (x205.toInt).toNat).toInt = 32) := by have q := g218; simp only [c206, c216] at q; omega
        refine lv_bipush (v := 42) hx hb dX12_term_13 (by decide) ?_
        refine lv_icmp_eq (tgt := 27) hx hb dX12_term_15 (by decide) (fun c234 => ?_) (fun c234 => ?_)
        · have c234 : r207.toInt = (42 : Int) := wk_eq.mp c234
          exact J27 x215 H locs ls w209 (show 1 ≤ f9_0_1.toInt by omega) (show f9_0_1.toInt ≤ 400 by omega) (show 0 ≤ x215.toInt by omega) (show x215.toInt ≤ 399 by omega) (show 1 ≤ f9_0_18.toInt by omega) (show f9_0_18.toInt ≤ 60 by omega) (show 0 ≤ f9_3_2.toInt by omega) (show f9_3_2.toInt ≤ 300 by omega) (show 3 * f9_3_2.toInt + 11 ≤ 3 * f2_.toInt + 14 * (f9_0_18.toInt - f1_.toInt) by omega) (show f1_.toInt + 1 ≤ f9_0_18.toInt by omega) (show f9_3_2.toInt ≤ 300 by omega)  hw hT hF c228 c216 c229 c230 c231 (lv_sub hl [0] rfl)
        · have c234 : ¬ r207.toInt = (42 : Int) := wk_eqF c234
          refine lv_aload_n hx hb dX12_term_18 rfl (lv_at hl 0 rfl) ?_
          refine tk_Vi hC hK hw hT hA hE hSR kM_at0 (by decide) rfl (k_X12_see_1 l adK adV dC dI cy ad B (by omega) (by omega) qr s1    w209 H.size hT x215 c216 (show 0 ≤ x215.toInt by omega) (show x215.toInt ≤ 400 by omega)) (cwV 0 hC.2.2.2.2 gX12_term_X12_see rfl rfl rfl (by decide +kernel) ⟨Nat.le_of_ble_eq_true rfl, Nat.le_of_ble_eq_true rfl⟩) rfl hl.1 rfl (Nat.le_of_ble_eq_true rfl) dX12_term_19 (fun r235 w237 H locs hp236 hw => ?_)
          obtain ⟨hT, k238, hg255⟩ := hp236
          have hF := hF.tr k238 (by decide)
          have c256 := k238.gi kM_at0 (by decide) c228
          have c257 := k238.gi kM_at0 (by decide) c229
          have c258 := k238.gi kM_at0 (by decide) c230
          have c259 := k238.gi kM_at3 (by decide) c231
          rcases hg255 with ⟨g239, g240, ⟨x241, c242, rx241, tx241⟩, ⟨x243, c244, rx243, tx243⟩, g245, g246⟩ | ⟨rfl, ⟨x247, c248, rx247, tx247⟩, ⟨x249, c250, rx249, tx249⟩, g251⟩ | ⟨rfl, ⟨x252, c253, rx252, tx252⟩, g254⟩
          · have ex241 : x241.toInt = f9_0_1.toInt := by rw [← c256.symm.trans c242]
            have g245 : (gi w237 1 (x243.toInt).toNat).toInt ≠ 32 := by have q := g245; simp only [c244] at q; omega
            have g246 : (x243.toInt = x215.toInt ∨ (gi w209 1 (x215.toInt).toNat).toInt = 32) := by have q := g246; simp only [c216, c244] at q; omega
            refine lv_bipush (v := 47) hx hb dX12_term_22 (by decide) ?_
            refine lv_icmp_ne (tgt := 75) hx hb dX12_term_24 (by decide) (fun c262 => ?_) (fun c262 => ?_)
            · have c262 : ¬ r235.toInt = (47 : Int) := wk_eqF c262
              refine lv_iconst (v := 1) hx hb dX12_term_75 (by decide) ?_
              exact tk_zret hC hr rfl hlocks hK ⟨hT, hF, (Or.inr (Or.inr (Or.inl ⟨rfl, ⟨f9_0_1, c256, (show 1 ≤ f9_0_1.toInt by omega), (show f9_0_1.toInt ≤ 400 by omega)⟩, ⟨2, c257, (by decide), (by decide)⟩, ⟨f9_0_18, c258, (show 1 ≤ f9_0_18.toInt by omega), (show f9_0_18.toInt ≤ 60 by omega)⟩, (by simp only [cf2_, c259, cf1_, c258]; omega), (by simp only [cf1_, c258]; omega)⟩)))⟩ hw dX12_term_76
            · have c262 : r235.toInt = (47 : Int) := wk_eq.mp c262
              exact J27 x243 H locs ls w237 (show 1 ≤ f9_0_1.toInt by omega) (show f9_0_1.toInt ≤ 400 by omega) (show 0 ≤ x243.toInt by omega) (show x243.toInt ≤ 399 by omega) (show 1 ≤ f9_0_18.toInt by omega) (show f9_0_18.toInt ≤ 60 by omega) (show 0 ≤ f9_3_2.toInt by omega) (show f9_3_2.toInt ≤ 300 by omega) (show 3 * f9_3_2.toInt + 11 ≤ 3 * f2_.toInt + 14 * (f9_0_18.toInt - f1_.toInt) by omega) (show f1_.toInt + 1 ≤ f9_0_18.toInt by omega) (show f9_3_2.toInt ≤ 300 by omega)  hw hT hF c256 c244 c257 c258 c259 (lv_sub hl [0] rfl)
          · have ex247 : x247.toInt = f9_0_1.toInt := by rw [← c256.symm.trans c248]
            have g251 : (x249.toInt = x215.toInt ∨ (gi w209 1 (x215.toInt).toNat).toInt = 32) := by have q := g251; simp only [c216, c250] at q; omega
            refine lv_bipush (v := 47) hx hb dX12_term_22 (by decide) ?_
            refine lv_icmp_ne (tgt := 75) hx hb dX12_term_24 (by decide) (fun _ => ?_) (fun c => absurd c (by decide))
            refine lv_iconst (v := 1) hx hb dX12_term_75 (by decide) ?_
            exact tk_zret hC hr rfl hlocks hK ⟨hT, hF, (Or.inr (Or.inr (Or.inl ⟨rfl, ⟨f9_0_1, c256, (show 1 ≤ f9_0_1.toInt by omega), (show f9_0_1.toInt ≤ 400 by omega)⟩, ⟨2, c257, (by decide), (by decide)⟩, ⟨f9_0_18, c258, (show 1 ≤ f9_0_18.toInt by omega), (show f9_0_18.toInt ≤ 60 by omega)⟩, (by simp only [cf2_, c259, cf1_, c258]; omega), (by simp only [cf1_, c258]; omega)⟩)))⟩ hw dX12_term_76
          · have ex252 : x252.toInt = f9_0_1.toInt := by rw [← c256.symm.trans c253]
            obtain ⟨x260, c261, rx260, tx260⟩ := hT.rdi (lo := 0) (hi := 400) (k := 14) kM_at0 (by decide) rfl
            have g254 : (x260.toInt = x215.toInt ∨ (gi w209 1 (x215.toInt).toNat).toInt = 32) := by have q := g254; simp only [c216, c261] at q; omega
            refine lv_bipush (v := 47) hx hb dX12_term_22 (by decide) ?_
            refine lv_icmp_ne (tgt := 75) hx hb dX12_term_24 (by decide) (fun _ => ?_) (fun c => absurd c (by decide))
            refine lv_iconst (v := 1) hx hb dX12_term_75 (by decide) ?_
            exact tk_zret hC hr rfl hlocks hK ⟨hT, hF, (Or.inr (Or.inr (Or.inl ⟨rfl, ⟨f9_0_1, c256, (show 1 ≤ f9_0_1.toInt by omega), (show f9_0_1.toInt ≤ 400 by omega)⟩, ⟨2, c257, (by decide), (by decide)⟩, ⟨f9_0_18, c258, (show 1 ≤ f9_0_18.toInt by omega), (show f9_0_18.toInt ≤ 60 by omega)⟩, (by simp only [cf2_, c259, cf1_, c258]; omega), (by simp only [cf1_, c258]; omega)⟩)))⟩ hw dX12_term_76
      · have ex219 : x219.toInt = f9_0_1.toInt := by rw [← c228.symm.trans c220]
        have g223 : (x221.toInt = x205.toInt ∨ (gi w1 1 (x205.toInt).toNat).toInt = 32) := by have q := g223; simp only [c206, c222] at q; omega
        refine lv_bipush (v := 42) hx hb dX12_term_13 (by decide) ?_
        refine lv_icmp_eq (tgt := 27) hx hb dX12_term_15 (by decide) (fun c => absurd c (by decide)) (fun _ => ?_)
        refine lv_aload_n hx hb dX12_term_18 rfl (lv_at hl 0 rfl) ?_
        refine tk_Vi hC hK hw hT hA hE hSR kM_at0 (by decide) rfl (k_X12_see_1 l adK adV dC dI cy ad B (by omega) (by omega) qr s1    w209 H.size hT x221 c222 (show 0 ≤ x221.toInt by omega) (show x221.toInt ≤ 400 by omega)) (cwV 0 hC.2.2.2.2 gX12_term_X12_see rfl rfl rfl (by decide +kernel) ⟨Nat.le_of_ble_eq_true rfl, Nat.le_of_ble_eq_true rfl⟩) rfl hl.1 rfl (Nat.le_of_ble_eq_true rfl) dX12_term_19 (fun r263 w265 H locs hp264 hw => ?_)
        obtain ⟨hT, k266, hg283⟩ := hp264
        have hF := hF.tr k266 (by decide)
        have c284 := k266.gi kM_at0 (by decide) c228
        have c285 := k266.gi kM_at0 (by decide) c229
        have c286 := k266.gi kM_at0 (by decide) c230
        have c287 := k266.gi kM_at3 (by decide) c231
        rcases hg283 with ⟨g267, g268, ⟨x269, c270, rx269, tx269⟩, ⟨x271, c272, rx271, tx271⟩, g273, g274⟩ | ⟨rfl, ⟨x275, c276, rx275, tx275⟩, ⟨x277, c278, rx277, tx277⟩, g279⟩ | ⟨rfl, ⟨x280, c281, rx280, tx280⟩, g282⟩
        · have ex269 : x269.toInt = f9_0_1.toInt := by rw [← c284.symm.trans c270]
          have g273 : (gi w265 1 (x271.toInt).toNat).toInt ≠ 32 := by have q := g273; simp only [c272] at q; omega
          have g274 : (x271.toInt = x221.toInt ∨ (gi w209 1 (x221.toInt).toNat).toInt = 32) := by have q := g274; simp only [c222, c272] at q; omega
          refine lv_bipush (v := 47) hx hb dX12_term_22 (by decide) ?_
          refine lv_icmp_ne (tgt := 75) hx hb dX12_term_24 (by decide) (fun c290 => ?_) (fun c290 => ?_)
          · have c290 : ¬ r263.toInt = (47 : Int) := wk_eqF c290
            refine lv_iconst (v := 1) hx hb dX12_term_75 (by decide) ?_
            exact tk_zret hC hr rfl hlocks hK ⟨hT, hF, (Or.inr (Or.inr (Or.inl ⟨rfl, ⟨f9_0_1, c284, (show 1 ≤ f9_0_1.toInt by omega), (show f9_0_1.toInt ≤ 400 by omega)⟩, ⟨2, c285, (by decide), (by decide)⟩, ⟨f9_0_18, c286, (show 1 ≤ f9_0_18.toInt by omega), (show f9_0_18.toInt ≤ 60 by omega)⟩, (by simp only [cf2_, c287, cf1_, c286]; omega), (by simp only [cf1_, c286]; omega)⟩)))⟩ hw dX12_term_76
          · have c290 : r263.toInt = (47 : Int) := wk_eq.mp c290
            exact J27 x271 H locs ls w265 (show 1 ≤ f9_0_1.toInt by omega) (show f9_0_1.toInt ≤ 400 by omega) (show 0 ≤ x271.toInt by omega) (show x271.toInt ≤ 399 by omega) (show 1 ≤ f9_0_18.toInt by omega) (show f9_0_18.toInt ≤ 60 by omega) (show 0 ≤ f9_3_2.toInt by omega) (show f9_3_2.toInt ≤ 300 by omega) (show 3 * f9_3_2.toInt + 11 ≤ 3 * f2_.toInt + 14 * (f9_0_18.toInt - f1_.toInt) by omega) (show f1_.toInt + 1 ≤ f9_0_18.toInt by omega) (show f9_3_2.toInt ≤ 300 by omega)  hw hT hF c284 c272 c285 c286 c287 (lv_sub hl [0] rfl)
        · have ex275 : x275.toInt = f9_0_1.toInt := by rw [← c284.symm.trans c276]
          have g279 : (x277.toInt = x221.toInt ∨ (gi w209 1 (x221.toInt).toNat).toInt = 32) := by have q := g279; simp only [c222, c278] at q; omega
          refine lv_bipush (v := 47) hx hb dX12_term_22 (by decide) ?_
          refine lv_icmp_ne (tgt := 75) hx hb dX12_term_24 (by decide) (fun _ => ?_) (fun c => absurd c (by decide))
          refine lv_iconst (v := 1) hx hb dX12_term_75 (by decide) ?_
          exact tk_zret hC hr rfl hlocks hK ⟨hT, hF, (Or.inr (Or.inr (Or.inl ⟨rfl, ⟨f9_0_1, c284, (show 1 ≤ f9_0_1.toInt by omega), (show f9_0_1.toInt ≤ 400 by omega)⟩, ⟨2, c285, (by decide), (by decide)⟩, ⟨f9_0_18, c286, (show 1 ≤ f9_0_18.toInt by omega), (show f9_0_18.toInt ≤ 60 by omega)⟩, (by simp only [cf2_, c287, cf1_, c286]; omega), (by simp only [cf1_, c286]; omega)⟩)))⟩ hw dX12_term_76
        · have ex280 : x280.toInt = f9_0_1.toInt := by rw [← c284.symm.trans c281]
          obtain ⟨x288, c289, rx288, tx288⟩ := hT.rdi (lo := 0) (hi := 400) (k := 14) kM_at0 (by decide) rfl
          have g282 : (x288.toInt = x221.toInt ∨ (gi w209 1 (x221.toInt).toNat).toInt = 32) := by have q := g282; simp only [c222, c289] at q; omega
          refine lv_bipush (v := 47) hx hb dX12_term_22 (by decide) ?_
          refine lv_icmp_ne (tgt := 75) hx hb dX12_term_24 (by decide) (fun _ => ?_) (fun c => absurd c (by decide))
          refine lv_iconst (v := 1) hx hb dX12_term_75 (by decide) ?_
          exact tk_zret hC hr rfl hlocks hK ⟨hT, hF, (Or.inr (Or.inr (Or.inl ⟨rfl, ⟨f9_0_1, c284, (show 1 ≤ f9_0_1.toInt by omega), (show f9_0_1.toInt ≤ 400 by omega)⟩, ⟨2, c285, (by decide), (by decide)⟩, ⟨f9_0_18, c286, (show 1 ≤ f9_0_18.toInt by omega), (show f9_0_18.toInt ≤ 60 by omega)⟩, (by simp only [cf2_, c287, cf1_, c286]; omega), (by simp only [cf1_, c286]; omega)⟩)))⟩ hw dX12_term_76
      · have ex224 : x224.toInt = f9_0_1.toInt := by rw [← c228.symm.trans c225]
        obtain ⟨x232, c233, rx232, tx232⟩ := hT.rdi (lo := 0) (hi := 400) (k := 14) kM_at0 (by decide) rfl
        have g226 : (x232.toInt = x205.toInt ∨ (gi w1 1 (x205.toInt).toNat).toInt = 32) := by have q := g226; simp only [c206, c233] at q; omega
        refine lv_bipush (v := 42) hx hb dX12_term_13 (by decide) ?_
        refine lv_icmp_eq (tgt := 27) hx hb dX12_term_15 (by decide) (fun c => absurd c (by decide)) (fun _ => ?_)
        refine lv_aload_n hx hb dX12_term_18 rfl (lv_at hl 0 rfl) ?_
        refine tk_Vi hC hK hw hT hA hE hSR kM_at0 (by decide) rfl (k_X12_see_1 l adK adV dC dI cy ad B (by omega) (by omega) qr s1    w209 H.size hT x232 c233 (show 0 ≤ x232.toInt by omega) (show x232.toInt ≤ 400 by omega)) (cwV 0 hC.2.2.2.2 gX12_term_X12_see rfl rfl rfl (by decide +kernel) ⟨Nat.le_of_ble_eq_true rfl, Nat.le_of_ble_eq_true rfl⟩) rfl hl.1 rfl (Nat.le_of_ble_eq_true rfl) dX12_term_19 (fun r291 w293 H locs hp292 hw => ?_)
        obtain ⟨hT, k294, hg311⟩ := hp292
        have hF := hF.tr k294 (by decide)
        have c312 := k294.gi kM_at0 (by decide) c228
        have c313 := k294.gi kM_at0 (by decide) c229
        have c314 := k294.gi kM_at0 (by decide) c230
        have c315 := k294.gi kM_at3 (by decide) c231
        rcases hg311 with ⟨g295, g296, ⟨x297, c298, rx297, tx297⟩, ⟨x299, c300, rx299, tx299⟩, g301, g302⟩ | ⟨rfl, ⟨x303, c304, rx303, tx303⟩, ⟨x305, c306, rx305, tx305⟩, g307⟩ | ⟨rfl, ⟨x308, c309, rx308, tx308⟩, g310⟩
        · have ex297 : x297.toInt = f9_0_1.toInt := by rw [← c312.symm.trans c298]
          have g301 : (gi w293 1 (x299.toInt).toNat).toInt ≠ 32 := by have q := g301; simp only [c300] at q; omega
          have g302 : (x299.toInt = x232.toInt ∨ (gi w209 1 (x232.toInt).toNat).toInt = 32) := by have q := g302; simp only [c233, c300] at q; omega
          refine lv_bipush (v := 47) hx hb dX12_term_22 (by decide) ?_
          refine lv_icmp_ne (tgt := 75) hx hb dX12_term_24 (by decide) (fun c318 => ?_) (fun c318 => ?_)
          · have c318 : ¬ r291.toInt = (47 : Int) := wk_eqF c318
            refine lv_iconst (v := 1) hx hb dX12_term_75 (by decide) ?_
            exact tk_zret hC hr rfl hlocks hK ⟨hT, hF, (Or.inr (Or.inr (Or.inl ⟨rfl, ⟨f9_0_1, c312, (show 1 ≤ f9_0_1.toInt by omega), (show f9_0_1.toInt ≤ 400 by omega)⟩, ⟨2, c313, (by decide), (by decide)⟩, ⟨f9_0_18, c314, (show 1 ≤ f9_0_18.toInt by omega), (show f9_0_18.toInt ≤ 60 by omega)⟩, (by simp only [cf2_, c315, cf1_, c314]; omega), (by simp only [cf1_, c314]; omega)⟩)))⟩ hw dX12_term_76
          · have c318 : r291.toInt = (47 : Int) := wk_eq.mp c318
            exact J27 x299 H locs ls w293 (show 1 ≤ f9_0_1.toInt by omega) (show f9_0_1.toInt ≤ 400 by omega) (show 0 ≤ x299.toInt by omega) (show x299.toInt ≤ 399 by omega) (show 1 ≤ f9_0_18.toInt by omega) (show f9_0_18.toInt ≤ 60 by omega) (show 0 ≤ f9_3_2.toInt by omega) (show f9_3_2.toInt ≤ 300 by omega) (show 3 * f9_3_2.toInt + 11 ≤ 3 * f2_.toInt + 14 * (f9_0_18.toInt - f1_.toInt) by omega) (show f1_.toInt + 1 ≤ f9_0_18.toInt by omega) (show f9_3_2.toInt ≤ 300 by omega)  hw hT hF c312 c300 c313 c314 c315 (lv_sub hl [0] rfl)
        · have ex303 : x303.toInt = f9_0_1.toInt := by rw [← c312.symm.trans c304]
          have g307 : (x305.toInt = x232.toInt ∨ (gi w209 1 (x232.toInt).toNat).toInt = 32) := by have q := g307; simp only [c233, c306] at q; omega
          refine lv_bipush (v := 47) hx hb dX12_term_22 (by decide) ?_
          refine lv_icmp_ne (tgt := 75) hx hb dX12_term_24 (by decide) (fun _ => ?_) (fun c => absurd c (by decide))
          refine lv_iconst (v := 1) hx hb dX12_term_75 (by decide) ?_
          exact tk_zret hC hr rfl hlocks hK ⟨hT, hF, (Or.inr (Or.inr (Or.inl ⟨rfl, ⟨f9_0_1, c312, (show 1 ≤ f9_0_1.toInt by omega), (show f9_0_1.toInt ≤ 400 by omega)⟩, ⟨2, c313, (by decide), (by decide)⟩, ⟨f9_0_18, c314, (show 1 ≤ f9_0_18.toInt by omega), (show f9_0_18.toInt ≤ 60 by omega)⟩, (by simp only [cf2_, c315, cf1_, c314]; omega), (by simp only [cf1_, c314]; omega)⟩)))⟩ hw dX12_term_76
        · have ex308 : x308.toInt = f9_0_1.toInt := by rw [← c312.symm.trans c309]
          obtain ⟨x316, c317, rx316, tx316⟩ := hT.rdi (lo := 0) (hi := 400) (k := 14) kM_at0 (by decide) rfl
          have g310 : (x316.toInt = x232.toInt ∨ (gi w209 1 (x232.toInt).toNat).toInt = 32) := by have q := g310; simp only [c233, c317] at q; omega
          refine lv_bipush (v := 47) hx hb dX12_term_22 (by decide) ?_
          refine lv_icmp_ne (tgt := 75) hx hb dX12_term_24 (by decide) (fun _ => ?_) (fun c => absurd c (by decide))
          refine lv_iconst (v := 1) hx hb dX12_term_75 (by decide) ?_
          exact tk_zret hC hr rfl hlocks hK ⟨hT, hF, (Or.inr (Or.inr (Or.inr ⟨rfl, ⟨f9_0_1, c312, (show 0 ≤ f9_0_1.toInt by omega), (show f9_0_1.toInt ≤ 400 by omega)⟩, ⟨2, c313, (by decide), (by decide)⟩, ⟨f9_0_18, c314, (show 1 ≤ f9_0_18.toInt by omega), (show f9_0_18.toInt ≤ 60 by omega)⟩, (by simp only [cf2_, c315, cf1_, c314]; omega), (by simp only [cf1_, c314]; omega)⟩)))⟩ hw dX12_term_76
  refine lv_aload_n hx hb dX12_term_0 rfl (lv_at hl 0 rfl) ?_
  refine tk_Vi hC hK hw hT hA hE hSR kM_at0 (by decide) rfl (k_X12_value_3 l adK adV dC dI cy ad B (by omega) (by omega) qr s1    w0 s.heap.size hT cf0_ f1_ cf1_ (show 0 ≤ f1_.toInt by omega) (show f1_.toInt ≤ 60 by omega) f2_ cf2_ (show 0 ≤ f2_.toInt by omega) (show f2_.toInt ≤ 400 by omega) (show f2_.toInt ≤ 399 by omega)) (cwV 0 hC.2.2.2.2 gX12_term_X12_value rfl rfl rfl (by decide +kernel) ⟨Nat.le_of_ble_eq_true rfl, Nat.le_of_ble_eq_true rfl⟩) rfl hl.1 rfl (Nat.le_of_ble_eq_true rfl) dX12_term_1 (fun r319 w321 H locs hp320 hw => ?_)
  obtain ⟨hT, k322, hg351⟩ := hp320
  have hF := hF.tr k322 (by decide)
  have c352 := k322.gi kM_at0 (by decide) cf0_
  rcases hg351 with ⟨rfl, ⟨x323, c324, rx323, tx323⟩, ⟨x325, c326, rx325, tx325⟩, ⟨x327, c328, rx327, tx327⟩⟩ | ⟨rfl, ⟨x329, c330, rx329, tx329⟩, ⟨x331, c332, rx331, tx331⟩, ⟨x333, c334, rx333, tx333⟩⟩ | ⟨rfl, ⟨x335, c336, rx335, tx335⟩, ⟨x337, c338, rx337, tx337⟩, ⟨x339, c340, rx339, tx339⟩, g341, g342⟩ | ⟨rfl, ⟨x343, c344, rx343, tx343⟩, ⟨x345, c346, rx345, tx345⟩, ⟨x347, c348, rx347, tx347⟩, g349, g350⟩
  · have ex327 : x327.toInt = (2 : Int) := by rw [show x327 = 2 from c328.symm.trans c352]; decide
    obtain ⟨x353, c354, rx353, tx353⟩ := hT.rda (lo := 0) (hi := 400) (i := 2) kM_at3 rfl rfl (by decide)
    obtain ⟨x355, c356, rx355, tx355⟩ := hT.rdi (lo := 0) (hi := 60) (k := 18) kM_at0 (by decide) rfl
    refine lv_if_ne (tgt := 9) hx hb dX12_term_4 (by decide) (fun c => absurd (by decide) c) (fun _ => ?_)
    refine lv_iconst (v := 0) hx hb dX12_term_7 (by decide) ?_
    exact tk_zret hC hr rfl hlocks hK ⟨hT, hF, (Or.inl ⟨rfl, ⟨x323, c324, (show 1 ≤ x323.toInt by omega), (show x323.toInt ≤ 400 by omega)⟩, ⟨x325, c326, (show 1 ≤ x325.toInt by omega), (show x325.toInt ≤ 3205 by omega)⟩, ⟨2, c352, (by decide), (by decide)⟩⟩)⟩ hw dX12_term_8
  · have ex333 : x333.toInt = (2 : Int) := by rw [show x333 = 2 from c334.symm.trans c352]; decide
    obtain ⟨x357, c358, rx357, tx357⟩ := hT.rda (lo := 0) (hi := 400) (i := 2) kM_at3 rfl rfl (by decide)
    obtain ⟨x359, c360, rx359, tx359⟩ := hT.rdi (lo := 0) (hi := 60) (k := 18) kM_at0 (by decide) rfl
    refine lv_if_ne (tgt := 9) hx hb dX12_term_4 (by decide) (fun c => absurd (by decide) c) (fun _ => ?_)
    refine lv_iconst (v := 0) hx hb dX12_term_7 (by decide) ?_
    exact tk_zret hC hr rfl hlocks hK ⟨hT, hF, (Or.inr (Or.inl ⟨rfl, ⟨x329, c330, (show 0 ≤ x329.toInt by omega), (show x329.toInt ≤ 400 by omega)⟩, ⟨x331, c332, (show 1 ≤ x331.toInt by omega), (show x331.toInt ≤ 3205 by omega)⟩, ⟨2, c352, (by decide), (by decide)⟩⟩))⟩ hw dX12_term_8
  · have ex337 : x337.toInt = (2 : Int) := by rw [show x337 = 2 from c338.symm.trans c352]; decide
    obtain ⟨x361, c362, rx361, tx361⟩ := hT.rda (lo := 0) (hi := 400) (i := 2) kM_at3 rfl rfl (by decide)
    have g341 : x361.toInt = f2_.toInt + 1 := by have q := g341; simp only [cf2_, c362] at q; omega
    have g342 : x339.toInt = f1_.toInt + 1 := by have q := g342; simp only [cf1_, c340] at q; omega
    refine lv_if_ne (tgt := 9) hx hb dX12_term_4 (by decide) (fun _ => ?_) (fun c => absurd c (by decide))
    exact L9 ((60 - x339.toInt).toNat + 1) x335 x339 x361 H locs ls w321 (show 0 ≤ x335.toInt by omega) (show x335.toInt ≤ 400 by omega) (show 1 ≤ x339.toInt by omega) (show x339.toInt ≤ 60 by omega) (show 0 ≤ x361.toInt by omega) (show x361.toInt ≤ 300 by omega) (show 3 * x361.toInt + 11 ≤ 3 * f2_.toInt + 14 * (x339.toInt - f1_.toInt) by omega) (show f1_.toInt + 1 ≤ x339.toInt by omega) (show x361.toInt ≤ 300 by omega) (Nat.lt_succ_self _) hw hT hF c336 c352 c340 c362 (lv_sub hl [0] rfl)
  · have ex345 : x345.toInt = (2 : Int) := by rw [show x345 = 2 from c346.symm.trans c352]; decide
    obtain ⟨x363, c364, rx363, tx363⟩ := hT.rda (lo := 0) (hi := 400) (i := 2) kM_at3 rfl rfl (by decide)
    have g349 : x363.toInt = f2_.toInt + 1 := by have q := g349; simp only [cf2_, c364] at q; omega
    have g350 : x347.toInt = f1_.toInt + 1 := by have q := g350; simp only [cf1_, c348] at q; omega
    refine lv_if_ne (tgt := 9) hx hb dX12_term_4 (by decide) (fun _ => ?_) (fun c => absurd c (by decide))
    exact L9 ((60 - x347.toInt).toNat + 1) x343 x347 x363 H locs ls w321 (show 0 ≤ x343.toInt by omega) (show x343.toInt ≤ 400 by omega) (show 1 ≤ x347.toInt by omega) (show x347.toInt ≤ 60 by omega) (show 0 ≤ x363.toInt by omega) (show x363.toInt ≤ 300 by omega) (show 3 * x363.toInt + 11 ≤ 3 * f2_.toInt + 14 * (x347.toInt - f1_.toInt) by omega) (show f1_.toInt + 1 ≤ x347.toInt by omega) (show x363.toInt ≤ 300 by omega) (Nat.lt_succ_self _) hw hT hF c344 c352 c348 c364 (lv_sub hl [0] rfl)
abbrev P_X12_sum_3 (ad : Nat → Nat) (cy : Nat → ClassId) (B : Int) (qr : Nat) (s1 : Int)  (w0 : va_W) : Int32 → va_W → Prop := fun r u => TW ksM ad cy B qr 12 u ∧ FE ksM [(12, 14, 14), (12, 15, 15), (12, 16, 16), (12, 18, 18), (61, 0, 2400), (62, 0, 7)] w0 u ∧ ((r = 0 ∧ (∃ y : Int32, gi u 0 1 = y ∧ 1 ≤ y.toInt ∧ y.toInt ≤ 400) ∧ (∃ y : Int32, gi u 0 15 = y ∧ 1 ≤ y.toInt ∧ y.toInt ≤ 3205) ∧ (∃ y : Int32, gi u 0 17 = y ∧ 2 ≤ y.toInt ∧ y.toInt ≤ 2)) ∨ (r = 0 ∧ (∃ y : Int32, gi u 0 1 = y ∧ 0 ≤ y.toInt ∧ y.toInt ≤ 400) ∧ (∃ y : Int32, gi u 0 15 = y ∧ 1 ≤ y.toInt ∧ y.toInt ≤ 3205) ∧ (∃ y : Int32, gi u 0 17 = y ∧ 2 ≤ y.toInt ∧ y.toInt ≤ 2)) ∨ (r = 1 ∧ (∃ y : Int32, gi u 0 1 = y ∧ 1 ≤ y.toInt ∧ y.toInt ≤ 400) ∧ (∃ y : Int32, gi u 0 17 = y ∧ 2 ≤ y.toInt ∧ y.toInt ≤ 2) ∧ (∃ y : Int32, gi u 0 18 = y ∧ 1 ≤ y.toInt ∧ y.toInt ≤ 60) ∧ (3 * (gi u 3 2).toInt + 11 ≤ 3 * (gi w0 3 2).toInt + 14 * ((gi u 0 18).toInt - (gi w0 0 18).toInt)) ∧ ((gi w0 0 18).toInt + 1 ≤ (gi u 0 18).toInt)) ∨ (r = 1 ∧ (∃ y : Int32, gi u 0 1 = y ∧ 0 ≤ y.toInt ∧ y.toInt ≤ 400) ∧ (∃ y : Int32, gi u 0 17 = y ∧ 2 ≤ y.toInt ∧ y.toInt ≤ 2) ∧ (∃ y : Int32, gi u 0 18 = y ∧ 1 ≤ y.toInt ∧ y.toInt ≤ 60) ∧ (3 * (gi u 3 2).toInt + 11 ≤ 3 * (gi w0 3 2).toInt + 14 * ((gi u 0 18).toInt - (gi w0 0 18).toInt)) ∧ ((gi w0 0 18).toInt + 1 ≤ (gi u 0 18).toInt)))
set_option maxHeartbeats 4000000 in
set_option maxRecDepth 100000 in
theorem k_X12_sum_3 (l : Launch) (adK adV : Nat → Nat) (dC : Nat → ClassId) (dI : Nat → Nat → Nat) (cy : Nat → ClassId) (ad : Nat → Nat) (B : Int) (hB0 : 100000 ≤ B) (hB1 : B ≤ 1073741824) (qr : Nat) (s1 : Int)   (w0 : va_W) (sz : Nat) (hT : TW ksM ad cy B qr 12 w0) (cf0_ : gi w0 0 17 = 2) (f1_ : Int32) (cf1_ : gi w0 0 18 = f1_) (rf1_ : 0 ≤ f1_.toInt) (tf1_ : f1_.toInt ≤ 60) (f2_ : Int32) (cf2_ : gi w0 3 2 = f2_) (rf2_ : 0 ≤ f2_.toInt) (tf2_ : f2_.toInt ≤ 400) (pr0_ : 3 * f2_.toInt ≤ 14 * f1_.toInt + 60) (pr1_ : f2_.toInt ≤ 300) : Met l yX12_sum wsX12_sum ({ frames := 6, cells := 0, slots := 0, locals := 121 }) (va_Pc [.ref (ad 0)] (wpreS adK adV dC dI cy sz w0)) (va_Qi (P_X12_sum_3 ad cy B qr s1  w0) (fun u : va_W => wpost dC dI cy (va_A w0 sz) u) (va_A w0 sz)) 0 0 (va_A w0 sz) := by
  refine Met.ofW (cc := cX12_sum) (maxL := 2) (ret := (some .boolean)) (by decide) rfl ?_
  intro p e s m args below meth c s₁ Bk hml hv
  obtain ⟨rfl, ⟨hsz, hP, hK, hD0⟩, hE, hSR⟩ := hv
  have hx := Bk.exec
  have hb := Bk.bytes
  have hr := Bk.returns
  have hlocks := Bk.notSynchronized
  have hC : CallFix p m c cX12_sum 2 s _ wsX12_sum RX12 := ⟨hx, hb, hml, findClass_of_methodNamed Bk.named, atoms_spec (ws := wsX12_sum) Bk.pre⟩
  subst hsz
  have hD := hD0.self (sz := s.heap.size)
  generalize hAe : va_A w0 s.heap.size = A at hD hE ⊢
  have hA : ∀ q : Nat, s.heap.size ≤ q → A q := fun q h => by rw [← hAe]; exact Or.inr h
  have hw : Wd dC dI A s.heap s.heap [] w0 := ⟨hP, hD, va_S.rf⟩
  have hF : FE ksM [(12, 14, 14), (12, 15, 15), (12, 16, 16), (12, 18, 18), (61, 0, 2400), (62, 0, 7)] w0 w0 := FE.rf
  have hl := lv_entry ([.ref (ad 0)]) (n := 2) (Nat.le_of_ble_eq_true rfl)
  rw [lg_entry_eq]
  generalize (lg_sl ([.ref (ad 0)]) ++ List.replicate (2 - (lg_sl ([.ref (ad 0)])).length) Slot.unset).toArray = ls at hl ⊢
  have hl : lv_has ls 2 [(0, .ref (ad 0))] := hl
  generalize hloc : ([] : List Loc) = locs at hw ⊢
  have hinX12 : ∀ w ∈ u_ws RX12 TX12 42, w ∈ wsX12_sum := fun _ h => List.mem_cons_of_mem _ (List.mem_append_right _ (h))
  have L9 : ∀ (n9 : Nat) (f9_0_1 : Int32) (f9_0_18 : Int32) (f9_3_2 : Int32) (H : Heap) (locs : List Loc) (ls : Array Slot) (w1 : va_W), 0 ≤ f9_0_1.toInt → f9_0_1.toInt ≤ 400 → 1 ≤ f9_0_18.toInt → f9_0_18.toInt ≤ 60 → 0 ≤ f9_3_2.toInt → f9_3_2.toInt ≤ 300 → (3 * f9_3_2.toInt + 11 ≤ 3 * f2_.toInt + 14 * (f9_0_18.toInt - f1_.toInt)) → (f1_.toInt + 1 ≤ f9_0_18.toInt) → (f9_3_2.toInt ≤ 300) → (60 - f9_0_18.toInt).toNat < n9 → Wd dC dI A s.heap H locs w1 → TW ksM ad cy B qr 12 w1 → FE ksM [(12, 14, 14), (12, 15, 15), (12, 16, 16), (12, 18, 18), (61, 0, 2400), (62, 0, 7)] w0 w1 → gi w1 0 1 = f9_0_1 → gi w1 0 17 = 2 → gi w1 0 18 = f9_0_18 → gi w1 3 2 = f9_3_2 → lv_has ls 2 [(0, .ref (ad 0))] → W p l e ({ frames := 6, cells := 0, slots := 0, locals := 121 }) s m (List.toArray [.ref (ad 0)]) below meth c H locs 0 0 (MQ below (va_Qi (P_X12_sum_3 ad cy B qr s1  w0) (fun u : va_W => wpost dC dI cy A u) A) (List.toArray [.ref (ad 0)]) s 0 0 A) (F0 m 9 ls []) := by
    intro n9
    induction n9 with
    | zero => intro f9_0_1 f9_0_18 f9_3_2 H locs ls w1 r2 t3 r6 t7 r9 t10 hcr9_0 hcr9_1 hcr9_2 hm9 hw hT hF c4 c5 c8 c11 hl; omega
    | succ n9 ih9 =>
      intro f9_0_1 f9_0_18 f9_3_2 H locs ls w1 r2 t3 r6 t7 r9 t10 hcr9_0 hcr9_1 hcr9_2 hm9 hw hT hF c4 c5 c8 c11 hl
      have J27 : ∀ (f27_0_14 : Int32) (H : Heap) (locs : List Loc) (ls : Array Slot) (w12 : va_W), 1 ≤ f9_0_1.toInt → f9_0_1.toInt ≤ 400 → 0 ≤ f27_0_14.toInt → f27_0_14.toInt ≤ 399 → 1 ≤ f9_0_18.toInt → f9_0_18.toInt ≤ 60 → 0 ≤ f9_3_2.toInt → f9_3_2.toInt ≤ 300 → (3 * f9_3_2.toInt + 11 ≤ 3 * f2_.toInt + 14 * (f9_0_18.toInt - f1_.toInt)) → (f1_.toInt + 1 ≤ f9_0_18.toInt) → (f9_3_2.toInt ≤ 300) → Wd dC dI A s.heap H locs w12 → TW ksM ad cy B qr 12 w12 → FE ksM [(12, 14, 14), (12, 15, 15), (12, 16, 16), (12, 18, 18), (61, 0, 2400), (62, 0, 7)] w0 w12 → gi w12 0 1 = f9_0_1 → gi w12 0 14 = f27_0_14 → gi w12 0 17 = 2 → gi w12 0 18 = f9_0_18 → gi w12 3 2 = f9_3_2 → lv_has ls 2 [(0, .ref (ad 0))] → W p l e ({ frames := 6, cells := 0, slots := 0, locals := 121 }) s m (List.toArray [.ref (ad 0)]) below meth c H locs 0 0 (MQ below (va_Qi (P_X12_sum_3 ad cy B qr s1  w0) (fun u : va_W => wpost dC dI cy A u) A) (List.toArray [.ref (ad 0)]) s 0 0 A) (F0 m 27 ls []) := by
        intro f27_0_14 H locs ls w12 r13 t14 r16 t17 r20 t21 r23 t24 hcr27_0 hcr27_1 hcr27_2 hw hT hF c15 c18 c19 c22 c25 hl
        refine lv_aload_n hx hb dX12_sum_27 rfl (lv_at hl 0 rfl) ?_
        refine tk_getA hC hK hw hT hinX12 kM_at0 (by decide) rfl 0 (by decide) (List.mem_of_getElem? (i := 1) rfl) rfl rfl dX12_sum_28 ?_
        refine lv_aload_n hx hb dX12_sum_31 rfl (lv_at hl 0 rfl) ?_
        refine tk_geti hC hK hw hT hinX12 kM_at0 (by decide) rfl 14 (by decide) (List.mem_of_getElem? (i := 2) rfl) rfl rfl dX12_sum_32 (fun x26 c27 rx26 tx26 => ?_)
        refine wk_top f27_0_14 (c27.symm.trans c18) ?_
        refine tk_bald hC hK hw hT kM_at1 rfl rfl (show 0 ≤ f27_0_14.toInt by omega) (show f27_0_14.toInt < 400 by omega) dX12_sum_35 (fun x28 c29 rx28 tx28 => ?_)
        have c29 : gi w12 1 (f27_0_14.toInt).toNat = x28 := (congrArg (gi w12 1) (congrArg Int.toNat (show f27_0_14.toInt = f27_0_14.toInt by omega))).trans c29
        refine lv_bipush (v := 43) hx hb dX12_sum_36 (by decide) ?_
        refine lv_icmp_ne (tgt := 45) hx hb dX12_sum_38 (by decide) (fun c30 => ?_) (fun c30 => ?_)
        · have c30 : ¬ x28.toInt = (43 : Int) := wk_eqF c30
          refine lv_iconst (v := 3) hx hb dX12_sum_45 (by decide) ?_
          refine lv_istore_n (lv' := [(1, .int 3), (0, .ref (ad 0))]) hx hb dX12_sum_46 rfl hl (by decide) rfl (fun ls hl => ?_)
          refine lv_aload_n hx hb dX12_sum_47 rfl (lv_at hl 1 rfl) ?_
          refine lv_dup hx hb dX12_sum_48 rfl ?_
          refine tk_geti hC hK hw hT hinX12 kM_at0 (by decide) rfl 14 (by decide) (List.mem_of_getElem? (i := 2) rfl) rfl rfl dX12_sum_49 (fun x31 c32 rx31 tx31 => ?_)
          refine wk_top f27_0_14 (c32.symm.trans c18) ?_
          refine lv_iconst (v := 1) hx hb dX12_sum_52 (by decide) ?_
          refine lv_iadd hx hb dX12_sum_53 ?_
          refine lv_topi (fun x33 ex33 => ?_)
          have ex33 : x33.toInt = f27_0_14.toInt + (1 : Int) := by rw [ex33]; exact wk_add (show (-2147483648) ≤ f27_0_14.toInt + (1 : Int) by omega) (show f27_0_14.toInt + (1 : Int) ≤ 2147483647 by omega)
          refine tk_puti hC hK hw hT hinX12 tyX12_ok nmX12 kM_at0 (by decide) rfl rfl 14 (by decide) (List.mem_of_getElem? (i := 2) rfl) rfl rfl rfl rfl (show 0 ≤ x33.toInt by omega) (show x33.toInt ≤ 400 by omega) dX12_sum_54 (fun H locs w34 hw hT k36 c35 => ?_)
          have hF := hF.put kM_at0 (k := 14) (by decide) k36
          have c37 := k36.gi (Or.inr (by decide)) c15
          have c38 := k36.gi (Or.inr (by decide)) c19
          have c39 := k36.gi (Or.inr (by decide)) c22
          have c40 := k36.gi (Or.inr (by decide)) c25
          have c41 := k36.gi (Or.inl (tk_ne kM_at1 kM_at0 (by decide))) c29
          refine lv_aload_n hx hb dX12_sum_57 rfl (lv_at hl 1 rfl) ?_
          refine tk_Vi hC hK hw hT hA hE hSR kM_at0 (by decide) rfl (k_X12_term_3 l adK adV dC dI cy ad B (by omega) (by omega) qr s1    w34 H.size hT c38 f9_0_18 c39 (show 0 ≤ f9_0_18.toInt by omega) (show f9_0_18.toInt ≤ 60 by omega) f9_3_2 c40 (show 0 ≤ f9_3_2.toInt by omega) (show f9_3_2.toInt ≤ 400 by omega) (show 3 * f9_3_2.toInt ≤ 14 * f9_0_18.toInt + 60 by omega) (show f9_3_2.toInt ≤ 300 by omega)) (cwV 0 hC.2.2.2.2 gX12_sum_X12_term rfl rfl rfl (by decide +kernel) ⟨Nat.le_of_ble_eq_true rfl, Nat.le_of_ble_eq_true rfl⟩) rfl hl.1 rfl (Nat.le_of_ble_eq_true rfl) dX12_sum_58 (fun r42 w44 H locs hp43 hw => ?_)
          obtain ⟨hT, k45, hg74⟩ := hp43
          have hF := hF.tr k45 (by decide)
          have c75 := k45.gi kM_at0 (by decide) c37
          have c76 := k45.gi kM_at0 (by decide) c38
          have c77 := k45.gi kM_at1 rfl c41
          rcases hg74 with ⟨rfl, ⟨x46, c47, rx46, tx46⟩, ⟨x48, c49, rx48, tx48⟩, ⟨x50, c51, rx50, tx50⟩⟩ | ⟨rfl, ⟨x52, c53, rx52, tx52⟩, ⟨x54, c55, rx54, tx54⟩, ⟨x56, c57, rx56, tx56⟩⟩ | ⟨rfl, ⟨x58, c59, rx58, tx58⟩, ⟨x60, c61, rx60, tx60⟩, ⟨x62, c63, rx62, tx62⟩, g64, g65⟩ | ⟨rfl, ⟨x66, c67, rx66, tx66⟩, ⟨x68, c69, rx68, tx68⟩, ⟨x70, c71, rx70, tx70⟩, g72, g73⟩
          · have ex46 : x46.toInt = f9_0_1.toInt := by rw [← c75.symm.trans c47]
            have ex50 : x50.toInt = (2 : Int) := by rw [show x50 = 2 from c51.symm.trans c76]; decide
            obtain ⟨x78, c79, rx78, tx78⟩ := hT.rda (lo := 0) (hi := 400) (i := 2) kM_at3 rfl rfl (by decide)
            obtain ⟨x80, c81, rx80, tx80⟩ := hT.rdi (lo := 0) (hi := 60) (k := 18) kM_at0 (by decide) rfl
            refine lv_if_ne (tgt := 66) hx hb dX12_sum_61 (by decide) (fun c => absurd (by decide) c) (fun _ => ?_)
            refine lv_iconst (v := 0) hx hb dX12_sum_64 (by decide) ?_
            exact tk_zret hC hr rfl hlocks hK ⟨hT, hF, (Or.inl ⟨rfl, ⟨f9_0_1, c75, (show 1 ≤ f9_0_1.toInt by omega), (show f9_0_1.toInt ≤ 400 by omega)⟩, ⟨x48, c49, (show 1 ≤ x48.toInt by omega), (show x48.toInt ≤ 3205 by omega)⟩, ⟨2, c76, (by decide), (by decide)⟩⟩)⟩ hw dX12_sum_65
          · have ex52 : x52.toInt = f9_0_1.toInt := by rw [← c75.symm.trans c53]
            have ex56 : x56.toInt = (2 : Int) := by rw [show x56 = 2 from c57.symm.trans c76]; decide
            obtain ⟨x82, c83, rx82, tx82⟩ := hT.rda (lo := 0) (hi := 400) (i := 2) kM_at3 rfl rfl (by decide)
            obtain ⟨x84, c85, rx84, tx84⟩ := hT.rdi (lo := 0) (hi := 60) (k := 18) kM_at0 (by decide) rfl
            refine lv_if_ne (tgt := 66) hx hb dX12_sum_61 (by decide) (fun c => absurd (by decide) c) (fun _ => ?_)
            refine lv_iconst (v := 0) hx hb dX12_sum_64 (by decide) ?_
            exact tk_zret hC hr rfl hlocks hK ⟨hT, hF, (Or.inl ⟨rfl, ⟨f9_0_1, c75, (show 1 ≤ f9_0_1.toInt by omega), (show f9_0_1.toInt ≤ 400 by omega)⟩, ⟨x54, c55, (show 1 ≤ x54.toInt by omega), (show x54.toInt ≤ 3205 by omega)⟩, ⟨2, c76, (by decide), (by decide)⟩⟩)⟩ hw dX12_sum_65
          · have ex58 : x58.toInt = f9_0_1.toInt := by rw [← c75.symm.trans c59]
            have ex60 : x60.toInt = (2 : Int) := by rw [show x60 = 2 from c61.symm.trans c76]; decide
            obtain ⟨x86, c87, rx86, tx86⟩ := hT.rda (lo := 0) (hi := 400) (i := 2) kM_at3 rfl rfl (by decide)
            have g64 : 3 * x86.toInt + 11 ≤ 3 * f9_3_2.toInt + 14 * (x62.toInt - f9_0_18.toInt) := by have q := g64; simp only [c40, c87, c39, c63] at q; omega
            have g65 : f9_0_18.toInt + 1 ≤ x62.toInt := by have q := g65; simp only [c39, c63] at q; omega
            refine lv_if_ne (tgt := 66) hx hb dX12_sum_61 (by decide) (fun _ => ?_) (fun c => absurd c (by decide))
            refine lv_aload_n hx hb dX12_sum_66 rfl (lv_at hl 1 rfl) ?_
            refine lv_iload_n hx hb dX12_sum_67 rfl (lv_at hl 0 rfl) ?_
            refine lv_iconst (v := 0) hx hb dX12_sum_68 (by decide) ?_
            refine tk_Vv hC hK hw hT hA hE hSR kM_at0 (by decide) rfl (k_X12_puts_3 l adK adV dC dI cy ad B (by omega) (by omega) qr s1   3 (by decide) (by decide) 0 w44 H.size hT c76 x86 c87 (show 0 ≤ x86.toInt by omega) (show x86.toInt ≤ 400 by omega) (show x86.toInt ≤ 399 by omega)) (cwV 2 hC.2.2.2.2 gX12_sum_X12_puts rfl rfl rfl (by decide +kernel) ⟨Nat.le_of_ble_eq_true rfl, Nat.le_of_ble_eq_true rfl⟩) rfl hl.1 rfl (Nat.le_of_ble_eq_true rfl) dX12_sum_69 (fun w92 H locs hp91 hw => ?_)
            obtain ⟨hT, k93, hg97⟩ := hp91
            have hF := hF.tr k93 (by decide)
            have c98 := k93.gi kM_at0 (by decide) c75
            have c99 := k93.gi kM_at0 (by decide) c76
            have c100 := k93.gi kM_at1 rfl c77
            have c101 := k93.gi kM_at0 (by decide) c63
            obtain ⟨⟨x94, c95, rx94, tx94⟩, g96⟩ := hg97
            have ex94 : x94.toInt = (2 : Int) := by rw [show x94 = 2 from c95.symm.trans c99]; decide
            obtain ⟨x102, c103, rx102, tx102⟩ := hT.rda (lo := 0) (hi := 400) (i := 2) kM_at3 rfl rfl (by decide)
            have g96 : x102.toInt = x86.toInt + 1 := by have q := g96; simp only [c87, c103] at q; omega
            refine lv_goto (tgt := 9) hx hb dX12_sum_72 (by decide) ?_
            exact ih9 f9_0_1 x62 x102 H locs ls w92 (show 0 ≤ f9_0_1.toInt by omega) (show f9_0_1.toInt ≤ 400 by omega) (show 1 ≤ x62.toInt by omega) (show x62.toInt ≤ 60 by omega) (show 0 ≤ x102.toInt by omega) (show x102.toInt ≤ 300 by omega) (show 3 * x102.toInt + 11 ≤ 3 * f2_.toInt + 14 * (x62.toInt - f1_.toInt) by omega) (show f1_.toInt + 1 ≤ x62.toInt by omega) (show x102.toInt ≤ 300 by omega) (show (60 - x62.toInt).toNat < n9 by omega) hw hT hF c98 c99 c101 c103 (lv_sub hl [1] rfl)
          · have ex66 : x66.toInt = f9_0_1.toInt := by rw [← c75.symm.trans c67]
            have ex68 : x68.toInt = (2 : Int) := by rw [show x68 = 2 from c69.symm.trans c76]; decide
            obtain ⟨x88, c89, rx88, tx88⟩ := hT.rda (lo := 0) (hi := 400) (i := 2) kM_at3 rfl rfl (by decide)
            have g72 : 3 * x88.toInt + 11 ≤ 3 * f9_3_2.toInt + 14 * (x70.toInt - f9_0_18.toInt) := by have q := g72; simp only [c40, c89, c39, c71] at q; omega
            have g73 : f9_0_18.toInt + 1 ≤ x70.toInt := by have q := g73; simp only [c39, c71] at q; omega
            refine lv_if_ne (tgt := 66) hx hb dX12_sum_61 (by decide) (fun _ => ?_) (fun c => absurd c (by decide))
            refine lv_aload_n hx hb dX12_sum_66 rfl (lv_at hl 1 rfl) ?_
            refine lv_iload_n hx hb dX12_sum_67 rfl (lv_at hl 0 rfl) ?_
            refine lv_iconst (v := 0) hx hb dX12_sum_68 (by decide) ?_
            refine tk_Vv hC hK hw hT hA hE hSR kM_at0 (by decide) rfl (k_X12_puts_3 l adK adV dC dI cy ad B (by omega) (by omega) qr s1   3 (by decide) (by decide) 0 w44 H.size hT c76 x88 c89 (show 0 ≤ x88.toInt by omega) (show x88.toInt ≤ 400 by omega) (show x88.toInt ≤ 399 by omega)) (cwV 2 hC.2.2.2.2 gX12_sum_X12_puts rfl rfl rfl (by decide +kernel) ⟨Nat.le_of_ble_eq_true rfl, Nat.le_of_ble_eq_true rfl⟩) rfl hl.1 rfl (Nat.le_of_ble_eq_true rfl) dX12_sum_69 (fun w106 H locs hp105 hw => ?_)
            obtain ⟨hT, k107, hg111⟩ := hp105
            have hF := hF.tr k107 (by decide)
            have c112 := k107.gi kM_at0 (by decide) c75
            have c113 := k107.gi kM_at0 (by decide) c76
            have c114 := k107.gi kM_at1 rfl c77
            have c115 := k107.gi kM_at0 (by decide) c71
            obtain ⟨⟨x108, c109, rx108, tx108⟩, g110⟩ := hg111
            have ex108 : x108.toInt = (2 : Int) := by rw [show x108 = 2 from c109.symm.trans c113]; decide
            obtain ⟨x116, c117, rx116, tx116⟩ := hT.rda (lo := 0) (hi := 400) (i := 2) kM_at3 rfl rfl (by decide)
            have g110 : x116.toInt = x88.toInt + 1 := by have q := g110; simp only [c89, c117] at q; omega
            refine lv_goto (tgt := 9) hx hb dX12_sum_72 (by decide) ?_
            exact ih9 f9_0_1 x70 x116 H locs ls w106 (show 0 ≤ f9_0_1.toInt by omega) (show f9_0_1.toInt ≤ 400 by omega) (show 1 ≤ x70.toInt by omega) (show x70.toInt ≤ 60 by omega) (show 0 ≤ x116.toInt by omega) (show x116.toInt ≤ 300 by omega) (show 3 * x116.toInt + 11 ≤ 3 * f2_.toInt + 14 * (x70.toInt - f1_.toInt) by omega) (show f1_.toInt + 1 ≤ x70.toInt by omega) (show x116.toInt ≤ 300 by omega) (show (60 - x70.toInt).toNat < n9 by omega) hw hT hF c112 c113 c115 c117 (lv_sub hl [1] rfl)
        · have c30 : x28.toInt = (43 : Int) := wk_eq.mp c30
          refine lv_iconst (v := 2) hx hb dX12_sum_41 (by decide) ?_
          refine lv_goto (tgt := 46) hx hb dX12_sum_42 (by decide) ?_
          refine lv_istore_n (lv' := [(1, .int 2), (0, .ref (ad 0))]) hx hb dX12_sum_46 rfl hl (by decide) rfl (fun ls hl => ?_)
          refine lv_aload_n hx hb dX12_sum_47 rfl (lv_at hl 1 rfl) ?_
          refine lv_dup hx hb dX12_sum_48 rfl ?_
          refine tk_geti hC hK hw hT hinX12 kM_at0 (by decide) rfl 14 (by decide) (List.mem_of_getElem? (i := 2) rfl) rfl rfl dX12_sum_49 (fun x118 c119 rx118 tx118 => ?_)
          refine wk_top f27_0_14 (c119.symm.trans c18) ?_
          refine lv_iconst (v := 1) hx hb dX12_sum_52 (by decide) ?_
          refine lv_iadd hx hb dX12_sum_53 ?_
          refine lv_topi (fun x120 ex120 => ?_)
          have ex120 : x120.toInt = f27_0_14.toInt + (1 : Int) := by rw [ex120]; exact wk_add (show (-2147483648) ≤ f27_0_14.toInt + (1 : Int) by omega) (show f27_0_14.toInt + (1 : Int) ≤ 2147483647 by omega)
          refine tk_puti hC hK hw hT hinX12 tyX12_ok nmX12 kM_at0 (by decide) rfl rfl 14 (by decide) (List.mem_of_getElem? (i := 2) rfl) rfl rfl rfl rfl (show 0 ≤ x120.toInt by omega) (show x120.toInt ≤ 400 by omega) dX12_sum_54 (fun H locs w121 hw hT k123 c122 => ?_)
          have hF := hF.put kM_at0 (k := 14) (by decide) k123
          have c124 := k123.gi (Or.inr (by decide)) c15
          have c125 := k123.gi (Or.inr (by decide)) c19
          have c126 := k123.gi (Or.inr (by decide)) c22
          have c127 := k123.gi (Or.inr (by decide)) c25
          have c128 := k123.gi (Or.inl (tk_ne kM_at1 kM_at0 (by decide))) c29
          refine lv_aload_n hx hb dX12_sum_57 rfl (lv_at hl 1 rfl) ?_
          refine tk_Vi hC hK hw hT hA hE hSR kM_at0 (by decide) rfl (k_X12_term_3 l adK adV dC dI cy ad B (by omega) (by omega) qr s1    w121 H.size hT c125 f9_0_18 c126 (show 0 ≤ f9_0_18.toInt by omega) (show f9_0_18.toInt ≤ 60 by omega) f9_3_2 c127 (show 0 ≤ f9_3_2.toInt by omega) (show f9_3_2.toInt ≤ 400 by omega) (show 3 * f9_3_2.toInt ≤ 14 * f9_0_18.toInt + 60 by omega) (show f9_3_2.toInt ≤ 300 by omega)) (cwV 0 hC.2.2.2.2 gX12_sum_X12_term rfl rfl rfl (by decide +kernel) ⟨Nat.le_of_ble_eq_true rfl, Nat.le_of_ble_eq_true rfl⟩) rfl hl.1 rfl (Nat.le_of_ble_eq_true rfl) dX12_sum_58 (fun r129 w131 H locs hp130 hw => ?_)
          obtain ⟨hT, k132, hg161⟩ := hp130
          have hF := hF.tr k132 (by decide)
          have c162 := k132.gi kM_at0 (by decide) c124
          have c163 := k132.gi kM_at0 (by decide) c125
          have c164 := k132.gi kM_at1 rfl c128
          rcases hg161 with ⟨rfl, ⟨x133, c134, rx133, tx133⟩, ⟨x135, c136, rx135, tx135⟩, ⟨x137, c138, rx137, tx137⟩⟩ | ⟨rfl, ⟨x139, c140, rx139, tx139⟩, ⟨x141, c142, rx141, tx141⟩, ⟨x143, c144, rx143, tx143⟩⟩ | ⟨rfl, ⟨x145, c146, rx145, tx145⟩, ⟨x147, c148, rx147, tx147⟩, ⟨x149, c150, rx149, tx149⟩, g151, g152⟩ | ⟨rfl, ⟨x153, c154, rx153, tx153⟩, ⟨x155, c156, rx155, tx155⟩, ⟨x157, c158, rx157, tx157⟩, g159, g160⟩
          · have ex133 : x133.toInt = f9_0_1.toInt := by rw [← c162.symm.trans c134]
            have ex137 : x137.toInt = (2 : Int) := by rw [show x137 = 2 from c138.symm.trans c163]; decide
            obtain ⟨x165, c166, rx165, tx165⟩ := hT.rda (lo := 0) (hi := 400) (i := 2) kM_at3 rfl rfl (by decide)
            obtain ⟨x167, c168, rx167, tx167⟩ := hT.rdi (lo := 0) (hi := 60) (k := 18) kM_at0 (by decide) rfl
            refine lv_if_ne (tgt := 66) hx hb dX12_sum_61 (by decide) (fun c => absurd (by decide) c) (fun _ => ?_)
            refine lv_iconst (v := 0) hx hb dX12_sum_64 (by decide) ?_
            exact tk_zret hC hr rfl hlocks hK ⟨hT, hF, (Or.inl ⟨rfl, ⟨f9_0_1, c162, (show 1 ≤ f9_0_1.toInt by omega), (show f9_0_1.toInt ≤ 400 by omega)⟩, ⟨x135, c136, (show 1 ≤ x135.toInt by omega), (show x135.toInt ≤ 3205 by omega)⟩, ⟨2, c163, (by decide), (by decide)⟩⟩)⟩ hw dX12_sum_65
          · have ex139 : x139.toInt = f9_0_1.toInt := by rw [← c162.symm.trans c140]
            have ex143 : x143.toInt = (2 : Int) := by rw [show x143 = 2 from c144.symm.trans c163]; decide
            obtain ⟨x169, c170, rx169, tx169⟩ := hT.rda (lo := 0) (hi := 400) (i := 2) kM_at3 rfl rfl (by decide)
            obtain ⟨x171, c172, rx171, tx171⟩ := hT.rdi (lo := 0) (hi := 60) (k := 18) kM_at0 (by decide) rfl
            refine lv_if_ne (tgt := 66) hx hb dX12_sum_61 (by decide) (fun c => absurd (by decide) c) (fun _ => ?_)
            refine lv_iconst (v := 0) hx hb dX12_sum_64 (by decide) ?_
            exact tk_zret hC hr rfl hlocks hK ⟨hT, hF, (Or.inl ⟨rfl, ⟨f9_0_1, c162, (show 1 ≤ f9_0_1.toInt by omega), (show f9_0_1.toInt ≤ 400 by omega)⟩, ⟨x141, c142, (show 1 ≤ x141.toInt by omega), (show x141.toInt ≤ 3205 by omega)⟩, ⟨2, c163, (by decide), (by decide)⟩⟩)⟩ hw dX12_sum_65
          · have ex145 : x145.toInt = f9_0_1.toInt := by rw [← c162.symm.trans c146]
            have ex147 : x147.toInt = (2 : Int) := by rw [show x147 = 2 from c148.symm.trans c163]; decide
            obtain ⟨x173, c174, rx173, tx173⟩ := hT.rda (lo := 0) (hi := 400) (i := 2) kM_at3 rfl rfl (by decide)
            have g151 : 3 * x173.toInt + 11 ≤ 3 * f9_3_2.toInt + 14 * (x149.toInt - f9_0_18.toInt) := by have q := g151; simp only [c127, c174, c126, c150] at q; omega
            have g152 : f9_0_18.toInt + 1 ≤ x149.toInt := by have q := g152; simp only [c126, c150] at q; omega
            refine lv_if_ne (tgt := 66) hx hb dX12_sum_61 (by decide) (fun _ => ?_) (fun c => absurd c (by decide))
            refine lv_aload_n hx hb dX12_sum_66 rfl (lv_at hl 1 rfl) ?_
            refine lv_iload_n hx hb dX12_sum_67 rfl (lv_at hl 0 rfl) ?_
            refine lv_iconst (v := 0) hx hb dX12_sum_68 (by decide) ?_
            refine tk_Vv hC hK hw hT hA hE hSR kM_at0 (by decide) rfl (k_X12_puts_3 l adK adV dC dI cy ad B (by omega) (by omega) qr s1   2 (by decide) (by decide) 0 w131 H.size hT c163 x173 c174 (show 0 ≤ x173.toInt by omega) (show x173.toInt ≤ 400 by omega) (show x173.toInt ≤ 399 by omega)) (cwV 2 hC.2.2.2.2 gX12_sum_X12_puts rfl rfl rfl (by decide +kernel) ⟨Nat.le_of_ble_eq_true rfl, Nat.le_of_ble_eq_true rfl⟩) rfl hl.1 rfl (Nat.le_of_ble_eq_true rfl) dX12_sum_69 (fun w179 H locs hp178 hw => ?_)
            obtain ⟨hT, k180, hg184⟩ := hp178
            have hF := hF.tr k180 (by decide)
            have c185 := k180.gi kM_at0 (by decide) c162
            have c186 := k180.gi kM_at0 (by decide) c163
            have c187 := k180.gi kM_at1 rfl c164
            have c188 := k180.gi kM_at0 (by decide) c150
            obtain ⟨⟨x181, c182, rx181, tx181⟩, g183⟩ := hg184
            have ex181 : x181.toInt = (2 : Int) := by rw [show x181 = 2 from c182.symm.trans c186]; decide
            obtain ⟨x189, c190, rx189, tx189⟩ := hT.rda (lo := 0) (hi := 400) (i := 2) kM_at3 rfl rfl (by decide)
            have g183 : x189.toInt = x173.toInt + 1 := by have q := g183; simp only [c174, c190] at q; omega
            refine lv_goto (tgt := 9) hx hb dX12_sum_72 (by decide) ?_
            exact ih9 f9_0_1 x149 x189 H locs ls w179 (show 0 ≤ f9_0_1.toInt by omega) (show f9_0_1.toInt ≤ 400 by omega) (show 1 ≤ x149.toInt by omega) (show x149.toInt ≤ 60 by omega) (show 0 ≤ x189.toInt by omega) (show x189.toInt ≤ 300 by omega) (show 3 * x189.toInt + 11 ≤ 3 * f2_.toInt + 14 * (x149.toInt - f1_.toInt) by omega) (show f1_.toInt + 1 ≤ x149.toInt by omega) (show x189.toInt ≤ 300 by omega) (show (60 - x149.toInt).toNat < n9 by omega) hw hT hF c185 c186 c188 c190 (lv_sub hl [1] rfl)
          · have ex153 : x153.toInt = f9_0_1.toInt := by rw [← c162.symm.trans c154]
            have ex155 : x155.toInt = (2 : Int) := by rw [show x155 = 2 from c156.symm.trans c163]; decide
            obtain ⟨x175, c176, rx175, tx175⟩ := hT.rda (lo := 0) (hi := 400) (i := 2) kM_at3 rfl rfl (by decide)
            have g159 : 3 * x175.toInt + 11 ≤ 3 * f9_3_2.toInt + 14 * (x157.toInt - f9_0_18.toInt) := by have q := g159; simp only [c127, c176, c126, c158] at q; omega
            have g160 : f9_0_18.toInt + 1 ≤ x157.toInt := by have q := g160; simp only [c126, c158] at q; omega
            refine lv_if_ne (tgt := 66) hx hb dX12_sum_61 (by decide) (fun _ => ?_) (fun c => absurd c (by decide))
            refine lv_aload_n hx hb dX12_sum_66 rfl (lv_at hl 1 rfl) ?_
            refine lv_iload_n hx hb dX12_sum_67 rfl (lv_at hl 0 rfl) ?_
            refine lv_iconst (v := 0) hx hb dX12_sum_68 (by decide) ?_
            refine tk_Vv hC hK hw hT hA hE hSR kM_at0 (by decide) rfl (k_X12_puts_3 l adK adV dC dI cy ad B (by omega) (by omega) qr s1   2 (by decide) (by decide) 0 w131 H.size hT c163 x175 c176 (show 0 ≤ x175.toInt by omega) (show x175.toInt ≤ 400 by omega) (show x175.toInt ≤ 399 by omega)) (cwV 2 hC.2.2.2.2 gX12_sum_X12_puts rfl rfl rfl (by decide +kernel) ⟨Nat.le_of_ble_eq_true rfl, Nat.le_of_ble_eq_true rfl⟩) rfl hl.1 rfl (Nat.le_of_ble_eq_true rfl) dX12_sum_69 (fun w193 H locs hp192 hw => ?_)
            obtain ⟨hT, k194, hg198⟩ := hp192
            have hF := hF.tr k194 (by decide)
            have c199 := k194.gi kM_at0 (by decide) c162
            have c200 := k194.gi kM_at0 (by decide) c163
            have c201 := k194.gi kM_at1 rfl c164
            have c202 := k194.gi kM_at0 (by decide) c158
            obtain ⟨⟨x195, c196, rx195, tx195⟩, g197⟩ := hg198
            have ex195 : x195.toInt = (2 : Int) := by rw [show x195 = 2 from c196.symm.trans c200]; decide
            obtain ⟨x203, c204, rx203, tx203⟩ := hT.rda (lo := 0) (hi := 400) (i := 2) kM_at3 rfl rfl (by decide)
            have g197 : x203.toInt = x175.toInt + 1 := by have q := g197; simp only [c176, c204] at q; omega
            refine lv_goto (tgt := 9) hx hb dX12_sum_72 (by decide) ?_
            exact ih9 f9_0_1 x157 x203 H locs ls w193 (show 0 ≤ f9_0_1.toInt by omega) (show f9_0_1.toInt ≤ 400 by omega) (show 1 ≤ x157.toInt by omega) (show x157.toInt ≤ 60 by omega) (show 0 ≤ x203.toInt by omega) (show x203.toInt ≤ 300 by omega) (show 3 * x203.toInt + 11 ≤ 3 * f2_.toInt + 14 * (x157.toInt - f1_.toInt) by omega) (show f1_.toInt + 1 ≤ x157.toInt by omega) (show x203.toInt ≤ 300 by omega) (show (60 - x157.toInt).toNat < n9 by omega) hw hT hF c199 c200 c202 c204 (lv_sub hl [1] rfl)
      refine lv_aload_n hx hb dX12_sum_9 rfl (lv_at hl 0 rfl) ?_
      obtain ⟨x205, c206, rx205, tx205⟩ := hT.rdi (lo := 0) (hi := 400) (k := 14) kM_at0 (by decide) rfl
      refine tk_Vi hC hK hw hT hA hE hSR kM_at0 (by decide) rfl (k_X12_see_1 l adK adV dC dI cy ad B (by omega) (by omega) qr s1    w1 H.size hT x205 c206 (show 0 ≤ x205.toInt by omega) (show x205.toInt ≤ 400 by omega)) (cwV 0 hC.2.2.2.2 gX12_sum_X12_see rfl rfl rfl (by decide +kernel) ⟨Nat.le_of_ble_eq_true rfl, Nat.le_of_ble_eq_true rfl⟩) rfl hl.1 rfl (Nat.le_of_ble_eq_true rfl) dX12_sum_10 (fun r207 w209 H locs hp208 hw => ?_)
      obtain ⟨hT, k210, hg227⟩ := hp208
      have hF := hF.tr k210 (by decide)
      have c228 := k210.gi kM_at0 (by decide) c4
      have c229 := k210.gi kM_at0 (by decide) c5
      have c230 := k210.gi kM_at0 (by decide) c8
      have c231 := k210.gi kM_at3 (by decide) c11
      rcases hg227 with ⟨g211, g212, ⟨x213, c214, rx213, tx213⟩, ⟨x215, c216, rx215, tx215⟩, g217, g218⟩ | ⟨rfl, ⟨x219, c220, rx219, tx219⟩, ⟨x221, c222, rx221, tx221⟩, g223⟩ | ⟨rfl, ⟨x224, c225, rx224, tx224⟩, g226⟩
      · have ex213 : x213.toInt = f9_0_1.toInt := by rw [← c228.symm.trans c214]
        have g217 : (gi w209 1 (x215.toInt).toNat).toInt ≠ 32 := by have q := g217; simp only [c216] at q; omega
        have g218 : (x215.toInt = x205.toInt ∨ (gi w1 1 (x205.toInt).toNat).toInt = 32) := by have q := g218; simp only [c206, c216] at q; omega
        refine lv_bipush (v := 43) hx hb dX12_sum_13 (by decide) ?_
        refine lv_icmp_eq (tgt := 27) hx hb dX12_sum_15 (by decide) (fun c234 => ?_) (fun c234 => ?_)
        · have c234 : r207.toInt = (43 : Int) := wk_eq.mp c234
          exact J27 x215 H locs ls w209 (show 1 ≤ f9_0_1.toInt by omega) (show f9_0_1.toInt ≤ 400 by omega) (show 0 ≤ x215.toInt by omega) (show x215.toInt ≤ 399 by omega) (show 1 ≤ f9_0_18.toInt by omega) (show f9_0_18.toInt ≤ 60 by omega) (show 0 ≤ f9_3_2.toInt by omega) (show f9_3_2.toInt ≤ 300 by omega) (show 3 * f9_3_2.toInt + 11 ≤ 3 * f2_.toInt + 14 * (f9_0_18.toInt - f1_.toInt) by omega) (show f1_.toInt + 1 ≤ f9_0_18.toInt by omega) (show f9_3_2.toInt ≤ 300 by omega)  hw hT hF c228 c216 c229 c230 c231 (lv_sub hl [0] rfl)
        · have c234 : ¬ r207.toInt = (43 : Int) := wk_eqF c234
          refine lv_aload_n hx hb dX12_sum_18 rfl (lv_at hl 0 rfl) ?_
          refine tk_Vi hC hK hw hT hA hE hSR kM_at0 (by decide) rfl (k_X12_see_1 l adK adV dC dI cy ad B (by omega) (by omega) qr s1    w209 H.size hT x215 c216 (show 0 ≤ x215.toInt by omega) (show x215.toInt ≤ 400 by omega)) (cwV 0 hC.2.2.2.2 gX12_sum_X12_see rfl rfl rfl (by decide +kernel) ⟨Nat.le_of_ble_eq_true rfl, Nat.le_of_ble_eq_true rfl⟩) rfl hl.1 rfl (Nat.le_of_ble_eq_true rfl) dX12_sum_19 (fun r235 w237 H locs hp236 hw => ?_)
          obtain ⟨hT, k238, hg255⟩ := hp236
          have hF := hF.tr k238 (by decide)
          have c256 := k238.gi kM_at0 (by decide) c228
          have c257 := k238.gi kM_at0 (by decide) c229
          have c258 := k238.gi kM_at0 (by decide) c230
          have c259 := k238.gi kM_at3 (by decide) c231
          rcases hg255 with ⟨g239, g240, ⟨x241, c242, rx241, tx241⟩, ⟨x243, c244, rx243, tx243⟩, g245, g246⟩ | ⟨rfl, ⟨x247, c248, rx247, tx247⟩, ⟨x249, c250, rx249, tx249⟩, g251⟩ | ⟨rfl, ⟨x252, c253, rx252, tx252⟩, g254⟩
          · have ex241 : x241.toInt = f9_0_1.toInt := by rw [← c256.symm.trans c242]
            have g245 : (gi w237 1 (x243.toInt).toNat).toInt ≠ 32 := by have q := g245; simp only [c244] at q; omega
            have g246 : (x243.toInt = x215.toInt ∨ (gi w209 1 (x215.toInt).toNat).toInt = 32) := by have q := g246; simp only [c216, c244] at q; omega
            refine lv_bipush (v := 45) hx hb dX12_sum_22 (by decide) ?_
            refine lv_icmp_ne (tgt := 75) hx hb dX12_sum_24 (by decide) (fun c262 => ?_) (fun c262 => ?_)
            · have c262 : ¬ r235.toInt = (45 : Int) := wk_eqF c262
              refine lv_iconst (v := 1) hx hb dX12_sum_75 (by decide) ?_
              exact tk_zret hC hr rfl hlocks hK ⟨hT, hF, (Or.inr (Or.inr (Or.inl ⟨rfl, ⟨f9_0_1, c256, (show 1 ≤ f9_0_1.toInt by omega), (show f9_0_1.toInt ≤ 400 by omega)⟩, ⟨2, c257, (by decide), (by decide)⟩, ⟨f9_0_18, c258, (show 1 ≤ f9_0_18.toInt by omega), (show f9_0_18.toInt ≤ 60 by omega)⟩, (by simp only [cf2_, c259, cf1_, c258]; omega), (by simp only [cf1_, c258]; omega)⟩)))⟩ hw dX12_sum_76
            · have c262 : r235.toInt = (45 : Int) := wk_eq.mp c262
              exact J27 x243 H locs ls w237 (show 1 ≤ f9_0_1.toInt by omega) (show f9_0_1.toInt ≤ 400 by omega) (show 0 ≤ x243.toInt by omega) (show x243.toInt ≤ 399 by omega) (show 1 ≤ f9_0_18.toInt by omega) (show f9_0_18.toInt ≤ 60 by omega) (show 0 ≤ f9_3_2.toInt by omega) (show f9_3_2.toInt ≤ 300 by omega) (show 3 * f9_3_2.toInt + 11 ≤ 3 * f2_.toInt + 14 * (f9_0_18.toInt - f1_.toInt) by omega) (show f1_.toInt + 1 ≤ f9_0_18.toInt by omega) (show f9_3_2.toInt ≤ 300 by omega)  hw hT hF c256 c244 c257 c258 c259 (lv_sub hl [0] rfl)
          · have ex247 : x247.toInt = f9_0_1.toInt := by rw [← c256.symm.trans c248]
            have g251 : (x249.toInt = x215.toInt ∨ (gi w209 1 (x215.toInt).toNat).toInt = 32) := by have q := g251; simp only [c216, c250] at q; omega
            refine lv_bipush (v := 45) hx hb dX12_sum_22 (by decide) ?_
            refine lv_icmp_ne (tgt := 75) hx hb dX12_sum_24 (by decide) (fun _ => ?_) (fun c => absurd c (by decide))
            refine lv_iconst (v := 1) hx hb dX12_sum_75 (by decide) ?_
            exact tk_zret hC hr rfl hlocks hK ⟨hT, hF, (Or.inr (Or.inr (Or.inl ⟨rfl, ⟨f9_0_1, c256, (show 1 ≤ f9_0_1.toInt by omega), (show f9_0_1.toInt ≤ 400 by omega)⟩, ⟨2, c257, (by decide), (by decide)⟩, ⟨f9_0_18, c258, (show 1 ≤ f9_0_18.toInt by omega), (show f9_0_18.toInt ≤ 60 by omega)⟩, (by simp only [cf2_, c259, cf1_, c258]; omega), (by simp only [cf1_, c258]; omega)⟩)))⟩ hw dX12_sum_76
          · have ex252 : x252.toInt = f9_0_1.toInt := by rw [← c256.symm.trans c253]
            obtain ⟨x260, c261, rx260, tx260⟩ := hT.rdi (lo := 0) (hi := 400) (k := 14) kM_at0 (by decide) rfl
            have g254 : (x260.toInt = x215.toInt ∨ (gi w209 1 (x215.toInt).toNat).toInt = 32) := by have q := g254; simp only [c216, c261] at q; omega
            refine lv_bipush (v := 45) hx hb dX12_sum_22 (by decide) ?_
            refine lv_icmp_ne (tgt := 75) hx hb dX12_sum_24 (by decide) (fun _ => ?_) (fun c => absurd c (by decide))
            refine lv_iconst (v := 1) hx hb dX12_sum_75 (by decide) ?_
            exact tk_zret hC hr rfl hlocks hK ⟨hT, hF, (Or.inr (Or.inr (Or.inl ⟨rfl, ⟨f9_0_1, c256, (show 1 ≤ f9_0_1.toInt by omega), (show f9_0_1.toInt ≤ 400 by omega)⟩, ⟨2, c257, (by decide), (by decide)⟩, ⟨f9_0_18, c258, (show 1 ≤ f9_0_18.toInt by omega), (show f9_0_18.toInt ≤ 60 by omega)⟩, (by simp only [cf2_, c259, cf1_, c258]; omega), (by simp only [cf1_, c258]; omega)⟩)))⟩ hw dX12_sum_76
      · have ex219 : x219.toInt = f9_0_1.toInt := by rw [← c228.symm.trans c220]
        have g223 : (x221.toInt = x205.toInt ∨ (gi w1 1 (x205.toInt).toNat).toInt = 32) := by have q := g223; simp only [c206, c222] at q; omega
        refine lv_bipush (v := 43) hx hb dX12_sum_13 (by decide) ?_
        refine lv_icmp_eq (tgt := 27) hx hb dX12_sum_15 (by decide) (fun c => absurd c (by decide)) (fun _ => ?_)
        refine lv_aload_n hx hb dX12_sum_18 rfl (lv_at hl 0 rfl) ?_
        refine tk_Vi hC hK hw hT hA hE hSR kM_at0 (by decide) rfl (k_X12_see_1 l adK adV dC dI cy ad B (by omega) (by omega) qr s1    w209 H.size hT x221 c222 (show 0 ≤ x221.toInt by omega) (show x221.toInt ≤ 400 by omega)) (cwV 0 hC.2.2.2.2 gX12_sum_X12_see rfl rfl rfl (by decide +kernel) ⟨Nat.le_of_ble_eq_true rfl, Nat.le_of_ble_eq_true rfl⟩) rfl hl.1 rfl (Nat.le_of_ble_eq_true rfl) dX12_sum_19 (fun r263 w265 H locs hp264 hw => ?_)
        obtain ⟨hT, k266, hg283⟩ := hp264
        have hF := hF.tr k266 (by decide)
        have c284 := k266.gi kM_at0 (by decide) c228
        have c285 := k266.gi kM_at0 (by decide) c229
        have c286 := k266.gi kM_at0 (by decide) c230
        have c287 := k266.gi kM_at3 (by decide) c231
        rcases hg283 with ⟨g267, g268, ⟨x269, c270, rx269, tx269⟩, ⟨x271, c272, rx271, tx271⟩, g273, g274⟩ | ⟨rfl, ⟨x275, c276, rx275, tx275⟩, ⟨x277, c278, rx277, tx277⟩, g279⟩ | ⟨rfl, ⟨x280, c281, rx280, tx280⟩, g282⟩
        · have ex269 : x269.toInt = f9_0_1.toInt := by rw [← c284.symm.trans c270]
          have g273 : (gi w265 1 (x271.toInt).toNat).toInt ≠ 32 := by have q := g273; simp only [c272] at q; omega
          have g274 : (x271.toInt = x221.toInt ∨ (gi w209 1 (x221.toInt).toNat).toInt = 32) := by have q := g274; simp only [c222, c272] at q; omega
          refine lv_bipush (v := 45) hx hb dX12_sum_22 (by decide) ?_
          refine lv_icmp_ne (tgt := 75) hx hb dX12_sum_24 (by decide) (fun c290 => ?_) (fun c290 => ?_)
          · have c290 : ¬ r263.toInt = (45 : Int) := wk_eqF c290
            refine lv_iconst (v := 1) hx hb dX12_sum_75 (by decide) ?_
            exact tk_zret hC hr rfl hlocks hK ⟨hT, hF, (Or.inr (Or.inr (Or.inl ⟨rfl, ⟨f9_0_1, c284, (show 1 ≤ f9_0_1.toInt by omega), (show f9_0_1.toInt ≤ 400 by omega)⟩, ⟨2, c285, (by decide), (by decide)⟩, ⟨f9_0_18, c286, (show 1 ≤ f9_0_18.toInt by omega), (show f9_0_18.toInt ≤ 60 by omega)⟩, (by simp only [cf2_, c287, cf1_, c286]; omega), (by simp only [cf1_, c286]; omega)⟩)))⟩ hw dX12_sum_76
          · have c290 : r263.toInt = (45 : Int) := wk_eq.mp c290
            exact J27 x271 H locs ls w265 (show 1 ≤ f9_0_1.toInt by omega) (show f9_0_1.toInt ≤ 400 by omega) (show 0 ≤ x271.toInt by omega) (show x271.toInt ≤ 399 by omega) (show 1 ≤ f9_0_18.toInt by omega) (show f9_0_18.toInt ≤ 60 by omega) (show 0 ≤ f9_3_2.toInt by omega) (show f9_3_2.toInt ≤ 300 by omega) (show 3 * f9_3_2.toInt + 11 ≤ 3 * f2_.toInt + 14 * (f9_0_18.toInt - f1_.toInt) by omega) (show f1_.toInt + 1 ≤ f9_0_18.toInt by omega) (show f9_3_2.toInt ≤ 300 by omega)  hw hT hF c284 c272 c285 c286 c287 (lv_sub hl [0] rfl)
        · have ex275 : x275.toInt = f9_0_1.toInt := by rw [← c284.symm.trans c276]
          have g279 : (x277.toInt = x221.toInt ∨ (gi w209 1 (x221.toInt).toNat).toInt = 32) := by have q := g279; simp only [c222, c278] at q; omega
          refine lv_bipush (v := 45) hx hb dX12_sum_22 (by decide) ?_
          refine lv_icmp_ne (tgt := 75) hx hb dX12_sum_24 (by decide) (fun _ => ?_) (fun c => absurd c (by decide))
          refine lv_iconst (v := 1) hx hb dX12_sum_75 (by decide) ?_
          exact tk_zret hC hr rfl hlocks hK ⟨hT, hF, (Or.inr (Or.inr (Or.inl ⟨rfl, ⟨f9_0_1, c284, (show 1 ≤ f9_0_1.toInt by omega), (show f9_0_1.toInt ≤ 400 by omega)⟩, ⟨2, c285, (by decide), (by decide)⟩, ⟨f9_0_18, c286, (show 1 ≤ f9_0_18.toInt by omega), (show f9_0_18.toInt ≤ 60 by omega)⟩, (by simp only [cf2_, c287, cf1_, c286]; omega), (by simp only [cf1_, c286]; omega)⟩)))⟩ hw dX12_sum_76
        · have ex280 : x280.toInt = f9_0_1.toInt := by rw [← c284.symm.trans c281]
          obtain ⟨x288, c289, rx288, tx288⟩ := hT.rdi (lo := 0) (hi := 400) (k := 14) kM_at0 (by decide) rfl
          have g282 : (x288.toInt = x221.toInt ∨ (gi w209 1 (x221.toInt).toNat).toInt = 32) := by have q := g282; simp only [c222, c289] at q; omega
          refine lv_bipush (v := 45) hx hb dX12_sum_22 (by decide) ?_
          refine lv_icmp_ne (tgt := 75) hx hb dX12_sum_24 (by decide) (fun _ => ?_) (fun c => absurd c (by decide))
          refine lv_iconst (v := 1) hx hb dX12_sum_75 (by decide) ?_
          exact tk_zret hC hr rfl hlocks hK ⟨hT, hF, (Or.inr (Or.inr (Or.inl ⟨rfl, ⟨f9_0_1, c284, (show 1 ≤ f9_0_1.toInt by omega), (show f9_0_1.toInt ≤ 400 by omega)⟩, ⟨2, c285, (by decide), (by decide)⟩, ⟨f9_0_18, c286, (show 1 ≤ f9_0_18.toInt by omega), (show f9_0_18.toInt ≤ 60 by omega)⟩, (by simp only [cf2_, c287, cf1_, c286]; omega), (by simp only [cf1_, c286]; omega)⟩)))⟩ hw dX12_sum_76
      · have ex224 : x224.toInt = f9_0_1.toInt := by rw [← c228.symm.trans c225]
        obtain ⟨x232, c233, rx232, tx232⟩ := hT.rdi (lo := 0) (hi := 400) (k := 14) kM_at0 (by decide) rfl
        have g226 : (x232.toInt = x205.toInt ∨ (gi w1 1 (x205.toInt).toNat).toInt = 32) := by have q := g226; simp only [c206, c233] at q; omega
        refine lv_bipush (v := 43) hx hb dX12_sum_13 (by decide) ?_
        refine lv_icmp_eq (tgt := 27) hx hb dX12_sum_15 (by decide) (fun c => absurd c (by decide)) (fun _ => ?_)
        refine lv_aload_n hx hb dX12_sum_18 rfl (lv_at hl 0 rfl) ?_
        refine tk_Vi hC hK hw hT hA hE hSR kM_at0 (by decide) rfl (k_X12_see_1 l adK adV dC dI cy ad B (by omega) (by omega) qr s1    w209 H.size hT x232 c233 (show 0 ≤ x232.toInt by omega) (show x232.toInt ≤ 400 by omega)) (cwV 0 hC.2.2.2.2 gX12_sum_X12_see rfl rfl rfl (by decide +kernel) ⟨Nat.le_of_ble_eq_true rfl, Nat.le_of_ble_eq_true rfl⟩) rfl hl.1 rfl (Nat.le_of_ble_eq_true rfl) dX12_sum_19 (fun r291 w293 H locs hp292 hw => ?_)
        obtain ⟨hT, k294, hg311⟩ := hp292
        have hF := hF.tr k294 (by decide)
        have c312 := k294.gi kM_at0 (by decide) c228
        have c313 := k294.gi kM_at0 (by decide) c229
        have c314 := k294.gi kM_at0 (by decide) c230
        have c315 := k294.gi kM_at3 (by decide) c231
        rcases hg311 with ⟨g295, g296, ⟨x297, c298, rx297, tx297⟩, ⟨x299, c300, rx299, tx299⟩, g301, g302⟩ | ⟨rfl, ⟨x303, c304, rx303, tx303⟩, ⟨x305, c306, rx305, tx305⟩, g307⟩ | ⟨rfl, ⟨x308, c309, rx308, tx308⟩, g310⟩
        · have ex297 : x297.toInt = f9_0_1.toInt := by rw [← c312.symm.trans c298]
          have g301 : (gi w293 1 (x299.toInt).toNat).toInt ≠ 32 := by have q := g301; simp only [c300] at q; omega
          have g302 : (x299.toInt = x232.toInt ∨ (gi w209 1 (x232.toInt).toNat).toInt = 32) := by have q := g302; simp only [c233, c300] at q; omega
          refine lv_bipush (v := 45) hx hb dX12_sum_22 (by decide) ?_
          refine lv_icmp_ne (tgt := 75) hx hb dX12_sum_24 (by decide) (fun c318 => ?_) (fun c318 => ?_)
          · have c318 : ¬ r291.toInt = (45 : Int) := wk_eqF c318
            refine lv_iconst (v := 1) hx hb dX12_sum_75 (by decide) ?_
            exact tk_zret hC hr rfl hlocks hK ⟨hT, hF, (Or.inr (Or.inr (Or.inl ⟨rfl, ⟨f9_0_1, c312, (show 1 ≤ f9_0_1.toInt by omega), (show f9_0_1.toInt ≤ 400 by omega)⟩, ⟨2, c313, (by decide), (by decide)⟩, ⟨f9_0_18, c314, (show 1 ≤ f9_0_18.toInt by omega), (show f9_0_18.toInt ≤ 60 by omega)⟩, (by simp only [cf2_, c315, cf1_, c314]; omega), (by simp only [cf1_, c314]; omega)⟩)))⟩ hw dX12_sum_76
          · have c318 : r291.toInt = (45 : Int) := wk_eq.mp c318
            exact J27 x299 H locs ls w293 (show 1 ≤ f9_0_1.toInt by omega) (show f9_0_1.toInt ≤ 400 by omega) (show 0 ≤ x299.toInt by omega) (show x299.toInt ≤ 399 by omega) (show 1 ≤ f9_0_18.toInt by omega) (show f9_0_18.toInt ≤ 60 by omega) (show 0 ≤ f9_3_2.toInt by omega) (show f9_3_2.toInt ≤ 300 by omega) (show 3 * f9_3_2.toInt + 11 ≤ 3 * f2_.toInt + 14 * (f9_0_18.toInt - f1_.toInt) by omega) (show f1_.toInt + 1 ≤ f9_0_18.toInt by omega) (show f9_3_2.toInt ≤ 300 by omega)  hw hT hF c312 c300 c313 c314 c315 (lv_sub hl [0] rfl)
        · have ex303 : x303.toInt = f9_0_1.toInt := by rw [← c312.symm.trans c304]
          have g307 : (x305.toInt = x232.toInt ∨ (gi w209 1 (x232.toInt).toNat).toInt = 32) := by have q := g307; simp only [c233, c306] at q; omega
          refine lv_bipush (v := 45) hx hb dX12_sum_22 (by decide) ?_
          refine lv_icmp_ne (tgt := 75) hx hb dX12_sum_24 (by decide) (fun _ => ?_) (fun c => absurd c (by decide))
          refine lv_iconst (v := 1) hx hb dX12_sum_75 (by decide) ?_
          exact tk_zret hC hr rfl hlocks hK ⟨hT, hF, (Or.inr (Or.inr (Or.inl ⟨rfl, ⟨f9_0_1, c312, (show 1 ≤ f9_0_1.toInt by omega), (show f9_0_1.toInt ≤ 400 by omega)⟩, ⟨2, c313, (by decide), (by decide)⟩, ⟨f9_0_18, c314, (show 1 ≤ f9_0_18.toInt by omega), (show f9_0_18.toInt ≤ 60 by omega)⟩, (by simp only [cf2_, c315, cf1_, c314]; omega), (by simp only [cf1_, c314]; omega)⟩)))⟩ hw dX12_sum_76
        · have ex308 : x308.toInt = f9_0_1.toInt := by rw [← c312.symm.trans c309]
          obtain ⟨x316, c317, rx316, tx316⟩ := hT.rdi (lo := 0) (hi := 400) (k := 14) kM_at0 (by decide) rfl
          have g310 : (x316.toInt = x232.toInt ∨ (gi w209 1 (x232.toInt).toNat).toInt = 32) := by have q := g310; simp only [c233, c317] at q; omega
          refine lv_bipush (v := 45) hx hb dX12_sum_22 (by decide) ?_
          refine lv_icmp_ne (tgt := 75) hx hb dX12_sum_24 (by decide) (fun _ => ?_) (fun c => absurd c (by decide))
          refine lv_iconst (v := 1) hx hb dX12_sum_75 (by decide) ?_
          exact tk_zret hC hr rfl hlocks hK ⟨hT, hF, (Or.inr (Or.inr (Or.inr ⟨rfl, ⟨f9_0_1, c312, (show 0 ≤ f9_0_1.toInt by omega), (show f9_0_1.toInt ≤ 400 by omega)⟩, ⟨2, c313, (by decide), (by decide)⟩, ⟨f9_0_18, c314, (show 1 ≤ f9_0_18.toInt by omega), (show f9_0_18.toInt ≤ 60 by omega)⟩, (by simp only [cf2_, c315, cf1_, c314]; omega), (by simp only [cf1_, c314]; omega)⟩)))⟩ hw dX12_sum_76
  refine lv_aload_n hx hb dX12_sum_0 rfl (lv_at hl 0 rfl) ?_
  refine tk_Vi hC hK hw hT hA hE hSR kM_at0 (by decide) rfl (k_X12_term_3 l adK adV dC dI cy ad B (by omega) (by omega) qr s1    w0 s.heap.size hT cf0_ f1_ cf1_ (show 0 ≤ f1_.toInt by omega) (show f1_.toInt ≤ 60 by omega) f2_ cf2_ (show 0 ≤ f2_.toInt by omega) (show f2_.toInt ≤ 400 by omega) (show 3 * f2_.toInt ≤ 14 * f1_.toInt + 60 by omega) (show f2_.toInt ≤ 300 by omega)) (cwV 0 hC.2.2.2.2 gX12_sum_X12_term rfl rfl rfl (by decide +kernel) ⟨Nat.le_of_ble_eq_true rfl, Nat.le_of_ble_eq_true rfl⟩) rfl hl.1 rfl (Nat.le_of_ble_eq_true rfl) dX12_sum_1 (fun r319 w321 H locs hp320 hw => ?_)
  obtain ⟨hT, k322, hg351⟩ := hp320
  have hF := hF.tr k322 (by decide)
  have c352 := k322.gi kM_at0 (by decide) cf0_
  rcases hg351 with ⟨rfl, ⟨x323, c324, rx323, tx323⟩, ⟨x325, c326, rx325, tx325⟩, ⟨x327, c328, rx327, tx327⟩⟩ | ⟨rfl, ⟨x329, c330, rx329, tx329⟩, ⟨x331, c332, rx331, tx331⟩, ⟨x333, c334, rx333, tx333⟩⟩ | ⟨rfl, ⟨x335, c336, rx335, tx335⟩, ⟨x337, c338, rx337, tx337⟩, ⟨x339, c340, rx339, tx339⟩, g341, g342⟩ | ⟨rfl, ⟨x343, c344, rx343, tx343⟩, ⟨x345, c346, rx345, tx345⟩, ⟨x347, c348, rx347, tx347⟩, g349, g350⟩
  · have ex327 : x327.toInt = (2 : Int) := by rw [show x327 = 2 from c328.symm.trans c352]; decide
    obtain ⟨x353, c354, rx353, tx353⟩ := hT.rda (lo := 0) (hi := 400) (i := 2) kM_at3 rfl rfl (by decide)
    obtain ⟨x355, c356, rx355, tx355⟩ := hT.rdi (lo := 0) (hi := 60) (k := 18) kM_at0 (by decide) rfl
    refine lv_if_ne (tgt := 9) hx hb dX12_sum_4 (by decide) (fun c => absurd (by decide) c) (fun _ => ?_)
    refine lv_iconst (v := 0) hx hb dX12_sum_7 (by decide) ?_
    exact tk_zret hC hr rfl hlocks hK ⟨hT, hF, (Or.inl ⟨rfl, ⟨x323, c324, (show 1 ≤ x323.toInt by omega), (show x323.toInt ≤ 400 by omega)⟩, ⟨x325, c326, (show 1 ≤ x325.toInt by omega), (show x325.toInt ≤ 3205 by omega)⟩, ⟨2, c352, (by decide), (by decide)⟩⟩)⟩ hw dX12_sum_8
  · have ex333 : x333.toInt = (2 : Int) := by rw [show x333 = 2 from c334.symm.trans c352]; decide
    obtain ⟨x357, c358, rx357, tx357⟩ := hT.rda (lo := 0) (hi := 400) (i := 2) kM_at3 rfl rfl (by decide)
    obtain ⟨x359, c360, rx359, tx359⟩ := hT.rdi (lo := 0) (hi := 60) (k := 18) kM_at0 (by decide) rfl
    refine lv_if_ne (tgt := 9) hx hb dX12_sum_4 (by decide) (fun c => absurd (by decide) c) (fun _ => ?_)
    refine lv_iconst (v := 0) hx hb dX12_sum_7 (by decide) ?_
    exact tk_zret hC hr rfl hlocks hK ⟨hT, hF, (Or.inr (Or.inl ⟨rfl, ⟨x329, c330, (show 0 ≤ x329.toInt by omega), (show x329.toInt ≤ 400 by omega)⟩, ⟨x331, c332, (show 1 ≤ x331.toInt by omega), (show x331.toInt ≤ 3205 by omega)⟩, ⟨2, c352, (by decide), (by decide)⟩⟩))⟩ hw dX12_sum_8
  · have ex337 : x337.toInt = (2 : Int) := by rw [show x337 = 2 from c338.symm.trans c352]; decide
    obtain ⟨x361, c362, rx361, tx361⟩ := hT.rda (lo := 0) (hi := 400) (i := 2) kM_at3 rfl rfl (by decide)
    have g341 : 3 * x361.toInt + 11 ≤ 3 * f2_.toInt + 14 * (x339.toInt - f1_.toInt) := by have q := g341; simp only [cf2_, c362, cf1_, c340] at q; omega
    have g342 : f1_.toInt + 1 ≤ x339.toInt := by have q := g342; simp only [cf1_, c340] at q; omega
    refine lv_if_ne (tgt := 9) hx hb dX12_sum_4 (by decide) (fun _ => ?_) (fun c => absurd c (by decide))
    exact L9 ((60 - x339.toInt).toNat + 1) x335 x339 x361 H locs ls w321 (show 0 ≤ x335.toInt by omega) (show x335.toInt ≤ 400 by omega) (show 1 ≤ x339.toInt by omega) (show x339.toInt ≤ 60 by omega) (show 0 ≤ x361.toInt by omega) (show x361.toInt ≤ 300 by omega) (show 3 * x361.toInt + 11 ≤ 3 * f2_.toInt + 14 * (x339.toInt - f1_.toInt) by omega) (show f1_.toInt + 1 ≤ x339.toInt by omega) (show x361.toInt ≤ 300 by omega) (Nat.lt_succ_self _) hw hT hF c336 c352 c340 c362 (lv_sub hl [0] rfl)
  · have ex345 : x345.toInt = (2 : Int) := by rw [show x345 = 2 from c346.symm.trans c352]; decide
    obtain ⟨x363, c364, rx363, tx363⟩ := hT.rda (lo := 0) (hi := 400) (i := 2) kM_at3 rfl rfl (by decide)
    have g349 : 3 * x363.toInt + 11 ≤ 3 * f2_.toInt + 14 * (x347.toInt - f1_.toInt) := by have q := g349; simp only [cf2_, c364, cf1_, c348] at q; omega
    have g350 : f1_.toInt + 1 ≤ x347.toInt := by have q := g350; simp only [cf1_, c348] at q; omega
    refine lv_if_ne (tgt := 9) hx hb dX12_sum_4 (by decide) (fun _ => ?_) (fun c => absurd c (by decide))
    exact L9 ((60 - x347.toInt).toNat + 1) x343 x347 x363 H locs ls w321 (show 0 ≤ x343.toInt by omega) (show x343.toInt ≤ 400 by omega) (show 1 ≤ x347.toInt by omega) (show x347.toInt ≤ 60 by omega) (show 0 ≤ x363.toInt by omega) (show x363.toInt ≤ 300 by omega) (show 3 * x363.toInt + 11 ≤ 3 * f2_.toInt + 14 * (x347.toInt - f1_.toInt) by omega) (show f1_.toInt + 1 ≤ x347.toInt by omega) (show x363.toInt ≤ 300 by omega) (Nat.lt_succ_self _) hw hT hF c344 c352 c348 c364 (lv_sub hl [0] rfl)
abbrev P_X12_compare_3 (ad : Nat → Nat) (cy : Nat → ClassId) (B : Int) (qr : Nat) (s1 : Int)  (w0 : va_W) : Int32 → va_W → Prop := fun r u => TW ksM ad cy B qr 12 u ∧ FE ksM [(12, 14, 14), (12, 15, 15), (12, 16, 16), (12, 18, 18), (61, 0, 2400), (62, 0, 7)] w0 u ∧ ((r = 0 ∧ (∃ y : Int32, gi u 0 1 = y ∧ 1 ≤ y.toInt ∧ y.toInt ≤ 400) ∧ (∃ y : Int32, gi u 0 15 = y ∧ 1 ≤ y.toInt ∧ y.toInt ≤ 3205) ∧ (∃ y : Int32, gi u 0 17 = y ∧ 2 ≤ y.toInt ∧ y.toInt ≤ 2)) ∨ (r = 0 ∧ (∃ y : Int32, gi u 0 1 = y ∧ 0 ≤ y.toInt ∧ y.toInt ≤ 400) ∧ (∃ y : Int32, gi u 0 15 = y ∧ 1 ≤ y.toInt ∧ y.toInt ≤ 3205) ∧ (∃ y : Int32, gi u 0 17 = y ∧ 2 ≤ y.toInt ∧ y.toInt ≤ 2)) ∨ (r = 1 ∧ (∃ y : Int32, gi u 0 1 = y ∧ 1 ≤ y.toInt ∧ y.toInt ≤ 400) ∧ (∃ y : Int32, gi u 0 17 = y ∧ 2 ≤ y.toInt ∧ y.toInt ≤ 2) ∧ (∃ y : Int32, gi u 0 18 = y ∧ 1 ≤ y.toInt ∧ y.toInt ≤ 60) ∧ (3 * (gi u 3 2).toInt + 33 ≤ 3 * (gi w0 3 2).toInt + 14 * ((gi u 0 18).toInt - (gi w0 0 18).toInt)) ∧ ((gi w0 0 18).toInt + 3 ≤ (gi u 0 18).toInt)))
set_option maxHeartbeats 4000000 in
set_option maxRecDepth 100000 in
theorem k_X12_compare_3 (l : Launch) (adK adV : Nat → Nat) (dC : Nat → ClassId) (dI : Nat → Nat → Nat) (cy : Nat → ClassId) (ad : Nat → Nat) (B : Int) (hB0 : 100000 ≤ B) (hB1 : B ≤ 1073741824) (qr : Nat) (s1 : Int)   (w0 : va_W) (sz : Nat) (hT : TW ksM ad cy B qr 12 w0) (cf0_ : gi w0 0 17 = 2) (f1_ : Int32) (cf1_ : gi w0 0 18 = f1_) (rf1_ : 0 ≤ f1_.toInt) (tf1_ : f1_.toInt ≤ 60) (f2_ : Int32) (cf2_ : gi w0 3 2 = f2_) (rf2_ : 0 ≤ f2_.toInt) (tf2_ : f2_.toInt ≤ 400) (pr0_ : 3 * f2_.toInt ≤ 14 * f1_.toInt + 30) (pr1_ : f2_.toInt ≤ 290) : Met l yX12_compare wsX12_compare ({ frames := 7, cells := 0, slots := 0, locals := 142 }) (va_Pc [.ref (ad 0)] (wpreS adK adV dC dI cy sz w0)) (va_Qi (P_X12_compare_3 ad cy B qr s1  w0) (fun u : va_W => wpost dC dI cy (va_A w0 sz) u) (va_A w0 sz)) 0 0 (va_A w0 sz) := by
  refine Met.ofW (cc := cX12_compare) (maxL := 5) (ret := (some .boolean)) (by decide) rfl ?_
  intro p e s m args below meth c s₁ Bk hml hv
  obtain ⟨rfl, ⟨hsz, hP, hK, hD0⟩, hE, hSR⟩ := hv
  have hx := Bk.exec
  have hb := Bk.bytes
  have hr := Bk.returns
  have hlocks := Bk.notSynchronized
  have hC : CallFix p m c cX12_compare 5 s _ wsX12_compare RX12 := ⟨hx, hb, hml, findClass_of_methodNamed Bk.named, atoms_spec (ws := wsX12_compare) Bk.pre⟩
  subst hsz
  have hD := hD0.self (sz := s.heap.size)
  generalize hAe : va_A w0 s.heap.size = A at hD hE ⊢
  have hA : ∀ q : Nat, s.heap.size ≤ q → A q := fun q h => by rw [← hAe]; exact Or.inr h
  have hw : Wd dC dI A s.heap s.heap [] w0 := ⟨hP, hD, va_S.rf⟩
  have hF : FE ksM [(12, 14, 14), (12, 15, 15), (12, 16, 16), (12, 18, 18), (61, 0, 2400), (62, 0, 7)] w0 w0 := FE.rf
  have hl := lv_entry ([.ref (ad 0)]) (n := 5) (Nat.le_of_ble_eq_true rfl)
  rw [lg_entry_eq]
  generalize (lg_sl ([.ref (ad 0)]) ++ List.replicate (5 - (lg_sl ([.ref (ad 0)])).length) Slot.unset).toArray = ls at hl ⊢
  have hl : lv_has ls 5 [(0, .ref (ad 0))] := hl
  generalize hloc : ([] : List Loc) = locs at hw ⊢
  have hinX12 : ∀ w ∈ u_ws RX12 TX12 42, w ∈ wsX12_compare := fun _ h => List.mem_cons_of_mem _ (List.mem_append_right _ (h))
  refine lv_aload_n hx hb dX12_compare_0 rfl (lv_at hl 0 rfl) ?_
  refine tk_Vi hC hK hw hT hA hE hSR kM_at0 (by decide) rfl (k_X12_sum_3 l adK adV dC dI cy ad B (by omega) (by omega) qr s1    w0 s.heap.size hT cf0_ f1_ cf1_ (show 0 ≤ f1_.toInt by omega) (show f1_.toInt ≤ 60 by omega) f2_ cf2_ (show 0 ≤ f2_.toInt by omega) (show f2_.toInt ≤ 400 by omega) (show 3 * f2_.toInt ≤ 14 * f1_.toInt + 60 by omega) (show f2_.toInt ≤ 300 by omega)) (cwV 0 hC.2.2.2.2 gX12_compare_X12_sum rfl rfl rfl (by decide +kernel) ⟨Nat.le_of_ble_eq_true rfl, Nat.le_of_ble_eq_true rfl⟩) rfl hl.1 rfl (Nat.le_of_ble_eq_true rfl) dX12_compare_1 (fun r1 w3 H locs hp2 hw => ?_)
  obtain ⟨hT, k4, hg33⟩ := hp2
  have hF := hF.tr k4 (by decide)
  have c34 := k4.gi kM_at0 (by decide) cf0_
  rcases hg33 with ⟨rfl, ⟨x5, c6, rx5, tx5⟩, ⟨x7, c8, rx7, tx7⟩, ⟨x9, c10, rx9, tx9⟩⟩ | ⟨rfl, ⟨x11, c12, rx11, tx11⟩, ⟨x13, c14, rx13, tx13⟩, ⟨x15, c16, rx15, tx15⟩⟩ | ⟨rfl, ⟨x17, c18, rx17, tx17⟩, ⟨x19, c20, rx19, tx19⟩, ⟨x21, c22, rx21, tx21⟩, g23, g24⟩ | ⟨rfl, ⟨x25, c26, rx25, tx25⟩, ⟨x27, c28, rx27, tx27⟩, ⟨x29, c30, rx29, tx29⟩, g31, g32⟩
  · have ex9 : x9.toInt = (2 : Int) := by rw [show x9 = 2 from c10.symm.trans c34]; decide
    obtain ⟨x35, c36, rx35, tx35⟩ := hT.rda (lo := 0) (hi := 400) (i := 2) kM_at3 rfl rfl (by decide)
    obtain ⟨x37, c38, rx37, tx37⟩ := hT.rdi (lo := 0) (hi := 60) (k := 18) kM_at0 (by decide) rfl
    refine lv_if_ne (tgt := 9) hx hb dX12_compare_4 (by decide) (fun c => absurd (by decide) c) (fun _ => ?_)
    refine lv_iconst (v := 0) hx hb dX12_compare_7 (by decide) ?_
    exact tk_zret hC hr rfl hlocks hK ⟨hT, hF, (Or.inl ⟨rfl, ⟨x5, c6, (show 1 ≤ x5.toInt by omega), (show x5.toInt ≤ 400 by omega)⟩, ⟨x7, c8, (show 1 ≤ x7.toInt by omega), (show x7.toInt ≤ 3205 by omega)⟩, ⟨2, c34, (by decide), (by decide)⟩⟩)⟩ hw dX12_compare_8
  · have ex15 : x15.toInt = (2 : Int) := by rw [show x15 = 2 from c16.symm.trans c34]; decide
    obtain ⟨x39, c40, rx39, tx39⟩ := hT.rda (lo := 0) (hi := 400) (i := 2) kM_at3 rfl rfl (by decide)
    obtain ⟨x41, c42, rx41, tx41⟩ := hT.rdi (lo := 0) (hi := 60) (k := 18) kM_at0 (by decide) rfl
    refine lv_if_ne (tgt := 9) hx hb dX12_compare_4 (by decide) (fun c => absurd (by decide) c) (fun _ => ?_)
    refine lv_iconst (v := 0) hx hb dX12_compare_7 (by decide) ?_
    exact tk_zret hC hr rfl hlocks hK ⟨hT, hF, (Or.inr (Or.inl ⟨rfl, ⟨x11, c12, (show 0 ≤ x11.toInt by omega), (show x11.toInt ≤ 400 by omega)⟩, ⟨x13, c14, (show 1 ≤ x13.toInt by omega), (show x13.toInt ≤ 3205 by omega)⟩, ⟨2, c34, (by decide), (by decide)⟩⟩))⟩ hw dX12_compare_8
  · have ex19 : x19.toInt = (2 : Int) := by rw [show x19 = 2 from c20.symm.trans c34]; decide
    obtain ⟨x43, c44, rx43, tx43⟩ := hT.rda (lo := 0) (hi := 400) (i := 2) kM_at3 rfl rfl (by decide)
    have g23 : 3 * x43.toInt + 11 ≤ 3 * f2_.toInt + 14 * (x21.toInt - f1_.toInt) := by have q := g23; simp only [cf2_, c44, cf1_, c22] at q; omega
    have g24 : f1_.toInt + 1 ≤ x21.toInt := by have q := g24; simp only [cf1_, c22] at q; omega
    refine lv_if_ne (tgt := 9) hx hb dX12_compare_4 (by decide) (fun _ => ?_) (fun c => absurd c (by decide))
    refine lv_aload_n hx hb dX12_compare_9 rfl (lv_at hl 0 rfl) ?_
    obtain ⟨x47, c48, rx47, tx47⟩ := hT.rdi (lo := 0) (hi := 400) (k := 14) kM_at0 (by decide) rfl
    refine tk_Vi hC hK hw hT hA hE hSR kM_at0 (by decide) rfl (k_X12_see_1 l adK adV dC dI cy ad B (by omega) (by omega) qr s1    w3 H.size hT x47 c48 (show 0 ≤ x47.toInt by omega) (show x47.toInt ≤ 400 by omega)) (cwV 0 hC.2.2.2.2 gX12_compare_X12_see rfl rfl rfl (by decide +kernel) ⟨Nat.le_of_ble_eq_true rfl, Nat.le_of_ble_eq_true rfl⟩) rfl hl.1 rfl (Nat.le_of_ble_eq_true rfl) dX12_compare_10 (fun r49 w51 H locs hp50 hw => ?_)
    obtain ⟨hT, k52, hg69⟩ := hp50
    have hF := hF.tr k52 (by decide)
    have c70 := k52.gi kM_at0 (by decide) c34
    have c71 := k52.gi kM_at0 (by decide) c18
    have c72 := k52.gi kM_at0 (by decide) c22
    have c73 := k52.gi kM_at3 (by decide) c44
    rcases hg69 with ⟨g53, g54, ⟨x55, c56, rx55, tx55⟩, ⟨x57, c58, rx57, tx57⟩, g59, g60⟩ | ⟨rfl, ⟨x61, c62, rx61, tx61⟩, ⟨x63, c64, rx63, tx63⟩, g65⟩ | ⟨rfl, ⟨x66, c67, rx66, tx66⟩, g68⟩
    · have ex55 : x55.toInt = x17.toInt := by rw [← c71.symm.trans c56]
      have g59 : (gi w51 1 (x57.toInt).toNat).toInt ≠ 32 := by have q := g59; simp only [c58] at q; omega
      have g60 : (x57.toInt = x47.toInt ∨ (gi w3 1 (x47.toInt).toNat).toInt = 32) := by have q := g60; simp only [c48, c58] at q; omega
      refine lv_istore_n (lv' := [(1, .int r49), (0, .ref (ad 0))]) hx hb dX12_compare_13 rfl hl (by decide) rfl (fun ls hl => ?_)
      refine lv_aload_n hx hb dX12_compare_14 rfl (lv_at hl 1 rfl) ?_
      refine tk_geti hC hK hw hT hinX12 kM_at0 (by decide) rfl 14 (by decide) (List.mem_of_getElem? (i := 1) rfl) rfl rfl dX12_compare_15 (fun x76 c77 rx76 tx76 => ?_)
      refine wk_top x57 (c77.symm.trans c58) ?_
      refine lv_istore_n (lv' := [(2, .int x57), (1, .int r49), (0, .ref (ad 0))]) hx hb dX12_compare_18 rfl hl (by decide) rfl (fun ls hl => ?_)
      refine lv_iload_n hx hb dX12_compare_19 rfl (lv_at hl 1 rfl) ?_
      refine lv_bipush (v := 60) hx hb dX12_compare_20 (by decide) ?_
      refine lv_icmp_eq (tgt := 44) hx hb dX12_compare_22 (by decide) (fun c78 => ?_) (fun c78 => ?_)
      · have c78 : r49.toInt = (60 : Int) := wk_eq.mp c78
        refine lv_aload_n hx hb dX12_compare_44 rfl (lv_at hl 2 rfl) ?_
        refine lv_dup hx hb dX12_compare_45 rfl ?_
        refine tk_geti hC hK hw hT hinX12 kM_at0 (by decide) rfl 14 (by decide) (List.mem_of_getElem? (i := 1) rfl) rfl rfl dX12_compare_46 (fun x79 c80 rx79 tx79 => ?_)
        refine wk_top x57 (c80.symm.trans c58) ?_
        refine lv_iconst (v := 1) hx hb dX12_compare_49 (by decide) ?_
        refine lv_iadd hx hb dX12_compare_50 ?_
        refine lv_topi (fun x81 ex81 => ?_)
        have ex81 : x81.toInt = x57.toInt + (1 : Int) := by rw [ex81]; exact wk_add (show (-2147483648) ≤ x57.toInt + (1 : Int) by omega) (show x57.toInt + (1 : Int) ≤ 2147483647 by omega)
        refine tk_puti hC hK hw hT hinX12 tyX12_ok nmX12 kM_at0 (by decide) rfl rfl 14 (by decide) (List.mem_of_getElem? (i := 1) rfl) rfl rfl rfl rfl (show 0 ≤ x81.toInt by omega) (show x81.toInt ≤ 400 by omega) dX12_compare_51 (fun H locs w82 hw hT k84 c83 => ?_)
        have hF := hF.put kM_at0 (k := 14) (by decide) k84
        have c85 := k84.gi (Or.inr (by decide)) c70
        have c86 := k84.gi (Or.inr (by decide)) c71
        have c87 := k84.gi (Or.inr (by decide)) c72
        have c88 := k84.gi (Or.inr (by decide)) c73
        refine lv_iload_n hx hb dX12_compare_54 rfl (lv_at hl 1 rfl) ?_
        refine lv_bipush (v := 61) hx hb dX12_compare_55 (by decide) ?_
        refine lv_icmp_eq (tgt := 89) hx hb dX12_compare_57 (by decide) (fun c => absurd c (fun h => absurd (show r49.toInt = (61 : Int) from wk_eq.mp h) (by omega))) (fun _ => ?_)
        refine lv_aload_n hx hb dX12_compare_60 rfl (lv_at hl 2 rfl) ?_
        refine tk_geti hC hK hw hT hinX12 kM_at0 (by decide) rfl 14 (by decide) (List.mem_of_getElem? (i := 1) rfl) rfl rfl dX12_compare_61 (fun x89 c90 rx89 tx89 => ?_)
        refine wk_top x81 (c90.symm.trans c83) ?_
        refine lv_aload_n hx hb dX12_compare_64 rfl (lv_at hl 2 rfl) ?_
        refine tk_geti hC hK hw hT hinX12 kM_at0 (by decide) rfl 1 (by decide) (List.mem_of_getElem? (i := 2) rfl) rfl rfl dX12_compare_65 (fun x91 c92 rx91 tx91 => ?_)
        refine wk_top x17 (c92.symm.trans c86) ?_
        refine lv_icmp_ge (tgt := 89) hx hb dX12_compare_68 (by decide) (fun c93 => ?_) (fun c93 => ?_)
        · have c93 : x17.toInt ≤ x81.toInt := wk_le.mp c93
          refine lv_iconst (v := 0) hx hb dX12_compare_89 (by decide) ?_
          refine lv_istore_n (lv' := [(3, .int 0), (2, .int x57), (1, .int r49), (0, .ref (ad 0))]) hx hb dX12_compare_90 rfl hl (by decide) rfl (fun ls hl => ?_)
          refine lv_iload_n hx hb dX12_compare_91 rfl (lv_at hl 0 rfl) ?_
          refine lv_if_eq (tgt := 105) hx hb dX12_compare_92 (by decide) (fun _ => ?_) (fun c => absurd (by decide) c)
          refine lv_aload_n hx hb dX12_compare_105 rfl (lv_at hl 3 rfl) ?_
          refine lv_iload_n hx hb dX12_compare_106 rfl (lv_at hl 1 rfl) ?_
          refine tk_Vi hC hK hw hT hA hE hSR kM_at0 (by decide) rfl (k_X12_makes_2 l adK adV dC dI cy ad B (by omega) (by omega) qr s1   x57 (show 0 ≤ x57.toInt by omega) (show x57.toInt ≤ 399 by omega) w82 H.size hT x21 c87 (show 0 ≤ x21.toInt by omega) (show x21.toInt ≤ 60 by omega)) (cwV 1 hC.2.2.2.2 gX12_compare_X12_makes rfl rfl rfl (by decide +kernel) ⟨Nat.le_of_ble_eq_true rfl, Nat.le_of_ble_eq_true rfl⟩) rfl hl.1 rfl (Nat.le_of_ble_eq_true rfl) dX12_compare_107 (fun r94 w96 H locs hp95 hw => ?_)
          obtain ⟨hT, k97, hg105⟩ := hp95
          have hF := hF.tr k97 (by decide)
          have c106 := k97.gi kM_at0 (by decide) c85
          have c107 := k97.gi kM_at0 (by decide) c86
          have c108 := k97.gi kM_at3 (by decide) c88
          have c109 := k97.gi kM_at0 (by decide) c83
          rcases hg105 with ⟨rfl, ⟨x98, c99, rx98, tx98⟩, ⟨x100, c101, rx100, tx100⟩⟩ | ⟨rfl, ⟨x102, c103, rx102, tx102⟩, g104⟩
          · refine lv_if_ne (tgt := 115) hx hb dX12_compare_110 (by decide) (fun c => absurd (by decide) c) (fun _ => ?_)
            refine lv_iconst (v := 0) hx hb dX12_compare_113 (by decide) ?_
            exact tk_zret hC hr rfl hlocks hK ⟨hT, hF, (Or.inl ⟨rfl, ⟨x17, c107, (show 1 ≤ x17.toInt by omega), (show x17.toInt ≤ 400 by omega)⟩, ⟨x98, c99, (show 1 ≤ x98.toInt by omega), (show x98.toInt ≤ 3205 by omega)⟩, ⟨2, c106, (by decide), (by decide)⟩⟩)⟩ hw dX12_compare_114
          · have g104 : x102.toInt = x21.toInt + 1 := by have q := g104; simp only [c87, c103] at q; omega
            refine lv_if_ne (tgt := 115) hx hb dX12_compare_110 (by decide) (fun _ => ?_) (fun c => absurd c (by decide))
            refine lv_iload_n hx hb dX12_compare_115 rfl (lv_at hl 2 rfl) ?_
            refine lv_bipush (v := 60) hx hb dX12_compare_116 (by decide) ?_
            refine lv_icmp_ne (tgt := 133) hx hb dX12_compare_118 (by decide) (fun c => (c (wk_eq.mpr (show r49.toInt = (60 : Int) by omega))).elim) (fun _ => ?_)
            refine lv_iload_n hx hb dX12_compare_121 rfl (lv_at hl 0 rfl) ?_
            refine lv_if_eq (tgt := 129) hx hb dX12_compare_122 (by decide) (fun _ => ?_) (fun c => absurd (by decide) c)
            refine lv_iconst (v := 0) hx hb dX12_compare_129 (by decide) ?_
            refine lv_goto (tgt := 152) hx hb dX12_compare_130 (by decide) ?_
            refine lv_istore (lv' := [(4, .int 0), (3, .int 0), (2, .int x57), (1, .int r49), (0, .ref (ad 0))]) hx hb dX12_compare_152 hl (by decide) rfl (fun ls hl => ?_)
            refine lv_aload_n hx hb dX12_compare_154 rfl (lv_at hl 4 rfl) ?_
            refine tk_Vi hC hK hw hT hA hE hSR kM_at0 (by decide) rfl (k_X12_sum_3 l adK adV dC dI cy ad B (by omega) (by omega) qr s1    w96 H.size hT c106 x102 c103 (show 0 ≤ x102.toInt by omega) (show x102.toInt ≤ 60 by omega) x43 c108 (show 0 ≤ x43.toInt by omega) (show x43.toInt ≤ 400 by omega) (show 3 * x43.toInt ≤ 14 * x102.toInt + 60 by omega) (show x43.toInt ≤ 300 by omega)) (cwV 0 hC.2.2.2.2 gX12_compare_X12_sum rfl rfl rfl (by decide +kernel) ⟨Nat.le_of_ble_eq_true rfl, Nat.le_of_ble_eq_true rfl⟩) rfl hl.1 rfl (Nat.le_of_ble_eq_true rfl) dX12_compare_155 (fun r110 w112 H locs hp111 hw => ?_)
            obtain ⟨hT, k113, hg142⟩ := hp111
            have hF := hF.tr k113 (by decide)
            have c143 := k113.gi kM_at0 (by decide) c106
            have c144 := k113.gi kM_at0 (by decide) c107
            rcases hg142 with ⟨rfl, ⟨x114, c115, rx114, tx114⟩, ⟨x116, c117, rx116, tx116⟩, ⟨x118, c119, rx118, tx118⟩⟩ | ⟨rfl, ⟨x120, c121, rx120, tx120⟩, ⟨x122, c123, rx122, tx122⟩, ⟨x124, c125, rx124, tx124⟩⟩ | ⟨rfl, ⟨x126, c127, rx126, tx126⟩, ⟨x128, c129, rx128, tx128⟩, ⟨x130, c131, rx130, tx130⟩, g132, g133⟩ | ⟨rfl, ⟨x134, c135, rx134, tx134⟩, ⟨x136, c137, rx136, tx136⟩, ⟨x138, c139, rx138, tx138⟩, g140, g141⟩
            · have ex114 : x114.toInt = x17.toInt := by rw [← c144.symm.trans c115]
              have ex118 : x118.toInt = (2 : Int) := by rw [show x118 = 2 from c119.symm.trans c143]; decide
              obtain ⟨x145, c146, rx145, tx145⟩ := hT.rda (lo := 0) (hi := 400) (i := 2) kM_at3 rfl rfl (by decide)
              obtain ⟨x147, c148, rx147, tx147⟩ := hT.rdi (lo := 0) (hi := 60) (k := 18) kM_at0 (by decide) rfl
              refine lv_if_ne (tgt := 163) hx hb dX12_compare_158 (by decide) (fun c => absurd (by decide) c) (fun _ => ?_)
              refine lv_iconst (v := 0) hx hb dX12_compare_161 (by decide) ?_
              exact tk_zret hC hr rfl hlocks hK ⟨hT, hF, (Or.inl ⟨rfl, ⟨x17, c144, (show 1 ≤ x17.toInt by omega), (show x17.toInt ≤ 400 by omega)⟩, ⟨x116, c117, (show 1 ≤ x116.toInt by omega), (show x116.toInt ≤ 3205 by omega)⟩, ⟨2, c143, (by decide), (by decide)⟩⟩)⟩ hw dX12_compare_162
            · have ex120 : x120.toInt = x17.toInt := by rw [← c144.symm.trans c121]
              have ex124 : x124.toInt = (2 : Int) := by rw [show x124 = 2 from c125.symm.trans c143]; decide
              obtain ⟨x149, c150, rx149, tx149⟩ := hT.rda (lo := 0) (hi := 400) (i := 2) kM_at3 rfl rfl (by decide)
              obtain ⟨x151, c152, rx151, tx151⟩ := hT.rdi (lo := 0) (hi := 60) (k := 18) kM_at0 (by decide) rfl
              refine lv_if_ne (tgt := 163) hx hb dX12_compare_158 (by decide) (fun c => absurd (by decide) c) (fun _ => ?_)
              refine lv_iconst (v := 0) hx hb dX12_compare_161 (by decide) ?_
              exact tk_zret hC hr rfl hlocks hK ⟨hT, hF, (Or.inl ⟨rfl, ⟨x17, c144, (show 1 ≤ x17.toInt by omega), (show x17.toInt ≤ 400 by omega)⟩, ⟨x122, c123, (show 1 ≤ x122.toInt by omega), (show x122.toInt ≤ 3205 by omega)⟩, ⟨2, c143, (by decide), (by decide)⟩⟩)⟩ hw dX12_compare_162
            · have ex126 : x126.toInt = x17.toInt := by rw [← c144.symm.trans c127]
              have ex128 : x128.toInt = (2 : Int) := by rw [show x128 = 2 from c129.symm.trans c143]; decide
              obtain ⟨x153, c154, rx153, tx153⟩ := hT.rda (lo := 0) (hi := 400) (i := 2) kM_at3 rfl rfl (by decide)
              have g132 : 3 * x153.toInt + 11 ≤ 3 * x43.toInt + 14 * (x130.toInt - x102.toInt) := by have q := g132; simp only [c108, c154, c103, c131] at q; omega
              have g133 : x102.toInt + 1 ≤ x130.toInt := by have q := g133; simp only [c103, c131] at q; omega
              refine lv_if_ne (tgt := 163) hx hb dX12_compare_158 (by decide) (fun _ => ?_) (fun c => absurd c (by decide))
              refine lv_aload_n hx hb dX12_compare_163 rfl (lv_at hl 4 rfl) ?_
              refine lv_bipush (v := 6) hx hb dX12_compare_164 (by decide) ?_
              refine lv_iload hx hb dX12_compare_166 (lv_at hl 0 rfl) ?_
              refine lv_iadd hx hb dX12_compare_168 ?_
              refine wk_top 6 (by decide) ?_
              refine lv_iconst (v := 0) hx hb dX12_compare_169 (by decide) ?_
              refine tk_Vv hC hK hw hT hA hE hSR kM_at0 (by decide) rfl (k_X12_puts_3 l adK adV dC dI cy ad B (by omega) (by omega) qr s1   6 (by decide) (by decide) 0 w112 H.size hT c143 x153 c154 (show 0 ≤ x153.toInt by omega) (show x153.toInt ≤ 400 by omega) (show x153.toInt ≤ 399 by omega)) (cwV 2 hC.2.2.2.2 gX12_compare_X12_puts rfl rfl rfl (by decide +kernel) ⟨Nat.le_of_ble_eq_true rfl, Nat.le_of_ble_eq_true rfl⟩) rfl hl.1 rfl (Nat.le_of_ble_eq_true rfl) dX12_compare_170 (fun w159 H locs hp158 hw => ?_)
              obtain ⟨hT, k160, hg164⟩ := hp158
              have hF := hF.tr k160 (by decide)
              have c165 := k160.gi kM_at0 (by decide) c143
              have c166 := k160.gi kM_at0 (by decide) c144
              have c167 := k160.gi kM_at0 (by decide) c131
              obtain ⟨⟨x161, c162, rx161, tx161⟩, g163⟩ := hg164
              have ex161 : x161.toInt = (2 : Int) := by rw [show x161 = 2 from c162.symm.trans c165]; decide
              obtain ⟨x168, c169, rx168, tx168⟩ := hT.rda (lo := 0) (hi := 400) (i := 2) kM_at3 rfl rfl (by decide)
              have g163 : x168.toInt = x153.toInt + 1 := by have q := g163; simp only [c154, c169] at q; omega
              refine lv_iconst (v := 1) hx hb dX12_compare_173 (by decide) ?_
              exact tk_zret hC hr rfl hlocks hK ⟨hT, hF, (Or.inr (Or.inr ⟨rfl, ⟨x17, c166, (show 1 ≤ x17.toInt by omega), (show x17.toInt ≤ 400 by omega)⟩, ⟨2, c165, (by decide), (by decide)⟩, ⟨x130, c167, (show 1 ≤ x130.toInt by omega), (show x130.toInt ≤ 60 by omega)⟩, (by simp only [cf2_, c169, cf1_, c167]; omega), (by simp only [cf1_, c167]; omega)⟩))⟩ hw dX12_compare_174
            · have ex134 : x134.toInt = x17.toInt := by rw [← c144.symm.trans c135]
              have ex136 : x136.toInt = (2 : Int) := by rw [show x136 = 2 from c137.symm.trans c143]; decide
              obtain ⟨x155, c156, rx155, tx155⟩ := hT.rda (lo := 0) (hi := 400) (i := 2) kM_at3 rfl rfl (by decide)
              have g140 : 3 * x155.toInt + 11 ≤ 3 * x43.toInt + 14 * (x138.toInt - x102.toInt) := by have q := g140; simp only [c108, c156, c103, c139] at q; omega
              have g141 : x102.toInt + 1 ≤ x138.toInt := by have q := g141; simp only [c103, c139] at q; omega
              refine lv_if_ne (tgt := 163) hx hb dX12_compare_158 (by decide) (fun _ => ?_) (fun c => absurd c (by decide))
              refine lv_aload_n hx hb dX12_compare_163 rfl (lv_at hl 4 rfl) ?_
              refine lv_bipush (v := 6) hx hb dX12_compare_164 (by decide) ?_
              refine lv_iload hx hb dX12_compare_166 (lv_at hl 0 rfl) ?_
              refine lv_iadd hx hb dX12_compare_168 ?_
              refine wk_top 6 (by decide) ?_
              refine lv_iconst (v := 0) hx hb dX12_compare_169 (by decide) ?_
              refine tk_Vv hC hK hw hT hA hE hSR kM_at0 (by decide) rfl (k_X12_puts_3 l adK adV dC dI cy ad B (by omega) (by omega) qr s1   6 (by decide) (by decide) 0 w112 H.size hT c143 x155 c156 (show 0 ≤ x155.toInt by omega) (show x155.toInt ≤ 400 by omega) (show x155.toInt ≤ 399 by omega)) (cwV 2 hC.2.2.2.2 gX12_compare_X12_puts rfl rfl rfl (by decide +kernel) ⟨Nat.le_of_ble_eq_true rfl, Nat.le_of_ble_eq_true rfl⟩) rfl hl.1 rfl (Nat.le_of_ble_eq_true rfl) dX12_compare_170 (fun w172 H locs hp171 hw => ?_)
              obtain ⟨hT, k173, hg177⟩ := hp171
              have hF := hF.tr k173 (by decide)
              have c178 := k173.gi kM_at0 (by decide) c143
              have c179 := k173.gi kM_at0 (by decide) c144
              have c180 := k173.gi kM_at0 (by decide) c139
              obtain ⟨⟨x174, c175, rx174, tx174⟩, g176⟩ := hg177
              have ex174 : x174.toInt = (2 : Int) := by rw [show x174 = 2 from c175.symm.trans c178]; decide
              obtain ⟨x181, c182, rx181, tx181⟩ := hT.rda (lo := 0) (hi := 400) (i := 2) kM_at3 rfl rfl (by decide)
              have g176 : x181.toInt = x155.toInt + 1 := by have q := g176; simp only [c156, c182] at q; omega
              refine lv_iconst (v := 1) hx hb dX12_compare_173 (by decide) ?_
              exact tk_zret hC hr rfl hlocks hK ⟨hT, hF, (Or.inr (Or.inr ⟨rfl, ⟨x17, c179, (show 1 ≤ x17.toInt by omega), (show x17.toInt ≤ 400 by omega)⟩, ⟨2, c178, (by decide), (by decide)⟩, ⟨x138, c180, (show 1 ≤ x138.toInt by omega), (show x138.toInt ≤ 60 by omega)⟩, (by simp only [cf2_, c182, cf1_, c180]; omega), (by simp only [cf1_, c180]; omega)⟩))⟩ hw dX12_compare_174
        · have c93 : x81.toInt < x17.toInt := wk_leF c93
          refine lv_aload_n hx hb dX12_compare_71 rfl (lv_at hl 2 rfl) ?_
          refine tk_getA hC hK hw hT hinX12 kM_at0 (by decide) rfl 0 (by decide) (List.mem_of_getElem? (i := 3) rfl) rfl rfl dX12_compare_72 ?_
          refine lv_aload_n hx hb dX12_compare_75 rfl (lv_at hl 2 rfl) ?_
          refine tk_geti hC hK hw hT hinX12 kM_at0 (by decide) rfl 14 (by decide) (List.mem_of_getElem? (i := 1) rfl) rfl rfl dX12_compare_76 (fun x183 c184 rx183 tx183 => ?_)
          refine wk_top x81 (c184.symm.trans c83) ?_
          refine tk_bald hC hK hw hT kM_at1 rfl rfl (show 0 ≤ x81.toInt by omega) (show x81.toInt < 400 by omega) dX12_compare_79 (fun x185 c186 rx185 tx185 => ?_)
          have c186 : gi w82 1 (1 * x57.toInt + 1).toNat = x185 := (congrArg (gi w82 1) (congrArg Int.toNat (show 1 * x57.toInt + 1 = x81.toInt by omega))).trans c186
          refine lv_bipush (v := 61) hx hb dX12_compare_80 (by decide) ?_
          refine lv_icmp_ne (tgt := 89) hx hb dX12_compare_82 (by decide) (fun c187 => ?_) (fun c187 => ?_)
          · have c187 : ¬ x185.toInt = (61 : Int) := wk_eqF c187
            refine lv_iconst (v := 0) hx hb dX12_compare_89 (by decide) ?_
            refine lv_istore_n (lv' := [(3, .int 0), (2, .int x57), (1, .int r49), (0, .ref (ad 0))]) hx hb dX12_compare_90 rfl hl (by decide) rfl (fun ls hl => ?_)
            refine lv_iload_n hx hb dX12_compare_91 rfl (lv_at hl 0 rfl) ?_
            refine lv_if_eq (tgt := 105) hx hb dX12_compare_92 (by decide) (fun _ => ?_) (fun c => absurd (by decide) c)
            refine lv_aload_n hx hb dX12_compare_105 rfl (lv_at hl 3 rfl) ?_
            refine lv_iload_n hx hb dX12_compare_106 rfl (lv_at hl 1 rfl) ?_
            refine tk_Vi hC hK hw hT hA hE hSR kM_at0 (by decide) rfl (k_X12_makes_1 l adK adV dC dI cy ad B (by omega) (by omega) qr s1   x57 (show 0 ≤ x57.toInt by omega) (show x57.toInt ≤ 398 by omega) w82 H.size hT x21 c87 (show 0 ≤ x21.toInt by omega) (show x21.toInt ≤ 60 by omega)) (cwV 1 hC.2.2.2.2 gX12_compare_X12_makes rfl rfl rfl (by decide +kernel) ⟨Nat.le_of_ble_eq_true rfl, Nat.le_of_ble_eq_true rfl⟩) rfl hl.1 rfl (Nat.le_of_ble_eq_true rfl) dX12_compare_107 (fun r188 w190 H locs hp189 hw => ?_)
            obtain ⟨hT, k191, hg199⟩ := hp189
            have hF := hF.tr k191 (by decide)
            have c200 := k191.gi kM_at0 (by decide) c85
            have c201 := k191.gi kM_at0 (by decide) c86
            have c202 := k191.gi kM_at3 (by decide) c88
            have c203 := k191.gi kM_at0 (by decide) c83
            have c204 := k191.gi kM_at1 rfl c186
            rcases hg199 with ⟨rfl, ⟨x192, c193, rx192, tx192⟩, ⟨x194, c195, rx194, tx194⟩⟩ | ⟨rfl, ⟨x196, c197, rx196, tx196⟩, g198⟩
            · refine lv_if_ne (tgt := 115) hx hb dX12_compare_110 (by decide) (fun c => absurd (by decide) c) (fun _ => ?_)
              refine lv_iconst (v := 0) hx hb dX12_compare_113 (by decide) ?_
              exact tk_zret hC hr rfl hlocks hK ⟨hT, hF, (Or.inl ⟨rfl, ⟨x17, c201, (show 1 ≤ x17.toInt by omega), (show x17.toInt ≤ 400 by omega)⟩, ⟨x192, c193, (show 1 ≤ x192.toInt by omega), (show x192.toInt ≤ 3205 by omega)⟩, ⟨2, c200, (by decide), (by decide)⟩⟩)⟩ hw dX12_compare_114
            · have g198 : x196.toInt = x21.toInt + 1 := by have q := g198; simp only [c87, c197] at q; omega
              refine lv_if_ne (tgt := 115) hx hb dX12_compare_110 (by decide) (fun _ => ?_) (fun c => absurd c (by decide))
              refine lv_iload_n hx hb dX12_compare_115 rfl (lv_at hl 2 rfl) ?_
              refine lv_bipush (v := 60) hx hb dX12_compare_116 (by decide) ?_
              refine lv_icmp_ne (tgt := 133) hx hb dX12_compare_118 (by decide) (fun c => (c (wk_eq.mpr (show r49.toInt = (60 : Int) by omega))).elim) (fun _ => ?_)
              refine lv_iload_n hx hb dX12_compare_121 rfl (lv_at hl 0 rfl) ?_
              refine lv_if_eq (tgt := 129) hx hb dX12_compare_122 (by decide) (fun _ => ?_) (fun c => absurd (by decide) c)
              refine lv_iconst (v := 0) hx hb dX12_compare_129 (by decide) ?_
              refine lv_goto (tgt := 152) hx hb dX12_compare_130 (by decide) ?_
              refine lv_istore (lv' := [(4, .int 0), (3, .int 0), (2, .int x57), (1, .int r49), (0, .ref (ad 0))]) hx hb dX12_compare_152 hl (by decide) rfl (fun ls hl => ?_)
              refine lv_aload_n hx hb dX12_compare_154 rfl (lv_at hl 4 rfl) ?_
              refine tk_Vi hC hK hw hT hA hE hSR kM_at0 (by decide) rfl (k_X12_sum_3 l adK adV dC dI cy ad B (by omega) (by omega) qr s1    w190 H.size hT c200 x196 c197 (show 0 ≤ x196.toInt by omega) (show x196.toInt ≤ 60 by omega) x43 c202 (show 0 ≤ x43.toInt by omega) (show x43.toInt ≤ 400 by omega) (show 3 * x43.toInt ≤ 14 * x196.toInt + 60 by omega) (show x43.toInt ≤ 300 by omega)) (cwV 0 hC.2.2.2.2 gX12_compare_X12_sum rfl rfl rfl (by decide +kernel) ⟨Nat.le_of_ble_eq_true rfl, Nat.le_of_ble_eq_true rfl⟩) rfl hl.1 rfl (Nat.le_of_ble_eq_true rfl) dX12_compare_155 (fun r205 w207 H locs hp206 hw => ?_)
              obtain ⟨hT, k208, hg237⟩ := hp206
              have hF := hF.tr k208 (by decide)
              have c238 := k208.gi kM_at0 (by decide) c200
              have c239 := k208.gi kM_at0 (by decide) c201
              have c240 := k208.gi kM_at1 rfl c204
              rcases hg237 with ⟨rfl, ⟨x209, c210, rx209, tx209⟩, ⟨x211, c212, rx211, tx211⟩, ⟨x213, c214, rx213, tx213⟩⟩ | ⟨rfl, ⟨x215, c216, rx215, tx215⟩, ⟨x217, c218, rx217, tx217⟩, ⟨x219, c220, rx219, tx219⟩⟩ | ⟨rfl, ⟨x221, c222, rx221, tx221⟩, ⟨x223, c224, rx223, tx223⟩, ⟨x225, c226, rx225, tx225⟩, g227, g228⟩ | ⟨rfl, ⟨x229, c230, rx229, tx229⟩, ⟨x231, c232, rx231, tx231⟩, ⟨x233, c234, rx233, tx233⟩, g235, g236⟩
              · have ex209 : x209.toInt = x17.toInt := by rw [← c239.symm.trans c210]
                have ex213 : x213.toInt = (2 : Int) := by rw [show x213 = 2 from c214.symm.trans c238]; decide
                obtain ⟨x241, c242, rx241, tx241⟩ := hT.rda (lo := 0) (hi := 400) (i := 2) kM_at3 rfl rfl (by decide)
                obtain ⟨x243, c244, rx243, tx243⟩ := hT.rdi (lo := 0) (hi := 60) (k := 18) kM_at0 (by decide) rfl
                refine lv_if_ne (tgt := 163) hx hb dX12_compare_158 (by decide) (fun c => absurd (by decide) c) (fun _ => ?_)
                refine lv_iconst (v := 0) hx hb dX12_compare_161 (by decide) ?_
                exact tk_zret hC hr rfl hlocks hK ⟨hT, hF, (Or.inl ⟨rfl, ⟨x17, c239, (show 1 ≤ x17.toInt by omega), (show x17.toInt ≤ 400 by omega)⟩, ⟨x211, c212, (show 1 ≤ x211.toInt by omega), (show x211.toInt ≤ 3205 by omega)⟩, ⟨2, c238, (by decide), (by decide)⟩⟩)⟩ hw dX12_compare_162
              · have ex215 : x215.toInt = x17.toInt := by rw [← c239.symm.trans c216]
                have ex219 : x219.toInt = (2 : Int) := by rw [show x219 = 2 from c220.symm.trans c238]; decide
                obtain ⟨x245, c246, rx245, tx245⟩ := hT.rda (lo := 0) (hi := 400) (i := 2) kM_at3 rfl rfl (by decide)
                obtain ⟨x247, c248, rx247, tx247⟩ := hT.rdi (lo := 0) (hi := 60) (k := 18) kM_at0 (by decide) rfl
                refine lv_if_ne (tgt := 163) hx hb dX12_compare_158 (by decide) (fun c => absurd (by decide) c) (fun _ => ?_)
                refine lv_iconst (v := 0) hx hb dX12_compare_161 (by decide) ?_
                exact tk_zret hC hr rfl hlocks hK ⟨hT, hF, (Or.inl ⟨rfl, ⟨x17, c239, (show 1 ≤ x17.toInt by omega), (show x17.toInt ≤ 400 by omega)⟩, ⟨x217, c218, (show 1 ≤ x217.toInt by omega), (show x217.toInt ≤ 3205 by omega)⟩, ⟨2, c238, (by decide), (by decide)⟩⟩)⟩ hw dX12_compare_162
              · have ex221 : x221.toInt = x17.toInt := by rw [← c239.symm.trans c222]
                have ex223 : x223.toInt = (2 : Int) := by rw [show x223 = 2 from c224.symm.trans c238]; decide
                obtain ⟨x249, c250, rx249, tx249⟩ := hT.rda (lo := 0) (hi := 400) (i := 2) kM_at3 rfl rfl (by decide)
                have g227 : 3 * x249.toInt + 11 ≤ 3 * x43.toInt + 14 * (x225.toInt - x196.toInt) := by have q := g227; simp only [c202, c250, c197, c226] at q; omega
                have g228 : x196.toInt + 1 ≤ x225.toInt := by have q := g228; simp only [c197, c226] at q; omega
                refine lv_if_ne (tgt := 163) hx hb dX12_compare_158 (by decide) (fun _ => ?_) (fun c => absurd c (by decide))
                refine lv_aload_n hx hb dX12_compare_163 rfl (lv_at hl 4 rfl) ?_
                refine lv_bipush (v := 6) hx hb dX12_compare_164 (by decide) ?_
                refine lv_iload hx hb dX12_compare_166 (lv_at hl 0 rfl) ?_
                refine lv_iadd hx hb dX12_compare_168 ?_
                refine wk_top 6 (by decide) ?_
                refine lv_iconst (v := 0) hx hb dX12_compare_169 (by decide) ?_
                refine tk_Vv hC hK hw hT hA hE hSR kM_at0 (by decide) rfl (k_X12_puts_3 l adK adV dC dI cy ad B (by omega) (by omega) qr s1   6 (by decide) (by decide) 0 w207 H.size hT c238 x249 c250 (show 0 ≤ x249.toInt by omega) (show x249.toInt ≤ 400 by omega) (show x249.toInt ≤ 399 by omega)) (cwV 2 hC.2.2.2.2 gX12_compare_X12_puts rfl rfl rfl (by decide +kernel) ⟨Nat.le_of_ble_eq_true rfl, Nat.le_of_ble_eq_true rfl⟩) rfl hl.1 rfl (Nat.le_of_ble_eq_true rfl) dX12_compare_170 (fun w255 H locs hp254 hw => ?_)
                obtain ⟨hT, k256, hg260⟩ := hp254
                have hF := hF.tr k256 (by decide)
                have c261 := k256.gi kM_at0 (by decide) c238
                have c262 := k256.gi kM_at0 (by decide) c239
                have c263 := k256.gi kM_at1 rfl c240
                have c264 := k256.gi kM_at0 (by decide) c226
                obtain ⟨⟨x257, c258, rx257, tx257⟩, g259⟩ := hg260
                have ex257 : x257.toInt = (2 : Int) := by rw [show x257 = 2 from c258.symm.trans c261]; decide
                obtain ⟨x265, c266, rx265, tx265⟩ := hT.rda (lo := 0) (hi := 400) (i := 2) kM_at3 rfl rfl (by decide)
                have g259 : x265.toInt = x249.toInt + 1 := by have q := g259; simp only [c250, c266] at q; omega
                refine lv_iconst (v := 1) hx hb dX12_compare_173 (by decide) ?_
                exact tk_zret hC hr rfl hlocks hK ⟨hT, hF, (Or.inr (Or.inr ⟨rfl, ⟨x17, c262, (show 1 ≤ x17.toInt by omega), (show x17.toInt ≤ 400 by omega)⟩, ⟨2, c261, (by decide), (by decide)⟩, ⟨x225, c264, (show 1 ≤ x225.toInt by omega), (show x225.toInt ≤ 60 by omega)⟩, (by simp only [cf2_, c266, cf1_, c264]; omega), (by simp only [cf1_, c264]; omega)⟩))⟩ hw dX12_compare_174
              · have ex229 : x229.toInt = x17.toInt := by rw [← c239.symm.trans c230]
                have ex231 : x231.toInt = (2 : Int) := by rw [show x231 = 2 from c232.symm.trans c238]; decide
                obtain ⟨x251, c252, rx251, tx251⟩ := hT.rda (lo := 0) (hi := 400) (i := 2) kM_at3 rfl rfl (by decide)
                have g235 : 3 * x251.toInt + 11 ≤ 3 * x43.toInt + 14 * (x233.toInt - x196.toInt) := by have q := g235; simp only [c202, c252, c197, c234] at q; omega
                have g236 : x196.toInt + 1 ≤ x233.toInt := by have q := g236; simp only [c197, c234] at q; omega
                refine lv_if_ne (tgt := 163) hx hb dX12_compare_158 (by decide) (fun _ => ?_) (fun c => absurd c (by decide))
                refine lv_aload_n hx hb dX12_compare_163 rfl (lv_at hl 4 rfl) ?_
                refine lv_bipush (v := 6) hx hb dX12_compare_164 (by decide) ?_
                refine lv_iload hx hb dX12_compare_166 (lv_at hl 0 rfl) ?_
                refine lv_iadd hx hb dX12_compare_168 ?_
                refine wk_top 6 (by decide) ?_
                refine lv_iconst (v := 0) hx hb dX12_compare_169 (by decide) ?_
                refine tk_Vv hC hK hw hT hA hE hSR kM_at0 (by decide) rfl (k_X12_puts_3 l adK adV dC dI cy ad B (by omega) (by omega) qr s1   6 (by decide) (by decide) 0 w207 H.size hT c238 x251 c252 (show 0 ≤ x251.toInt by omega) (show x251.toInt ≤ 400 by omega) (show x251.toInt ≤ 399 by omega)) (cwV 2 hC.2.2.2.2 gX12_compare_X12_puts rfl rfl rfl (by decide +kernel) ⟨Nat.le_of_ble_eq_true rfl, Nat.le_of_ble_eq_true rfl⟩) rfl hl.1 rfl (Nat.le_of_ble_eq_true rfl) dX12_compare_170 (fun w269 H locs hp268 hw => ?_)
                obtain ⟨hT, k270, hg274⟩ := hp268
                have hF := hF.tr k270 (by decide)
                have c275 := k270.gi kM_at0 (by decide) c238
                have c276 := k270.gi kM_at0 (by decide) c239
                have c277 := k270.gi kM_at1 rfl c240
                have c278 := k270.gi kM_at0 (by decide) c234
                obtain ⟨⟨x271, c272, rx271, tx271⟩, g273⟩ := hg274
                have ex271 : x271.toInt = (2 : Int) := by rw [show x271 = 2 from c272.symm.trans c275]; decide
                obtain ⟨x279, c280, rx279, tx279⟩ := hT.rda (lo := 0) (hi := 400) (i := 2) kM_at3 rfl rfl (by decide)
                have g273 : x279.toInt = x251.toInt + 1 := by have q := g273; simp only [c252, c280] at q; omega
                refine lv_iconst (v := 1) hx hb dX12_compare_173 (by decide) ?_
                exact tk_zret hC hr rfl hlocks hK ⟨hT, hF, (Or.inr (Or.inr ⟨rfl, ⟨x17, c276, (show 1 ≤ x17.toInt by omega), (show x17.toInt ≤ 400 by omega)⟩, ⟨2, c275, (by decide), (by decide)⟩, ⟨x233, c278, (show 1 ≤ x233.toInt by omega), (show x233.toInt ≤ 60 by omega)⟩, (by simp only [cf2_, c280, cf1_, c278]; omega), (by simp only [cf1_, c278]; omega)⟩))⟩ hw dX12_compare_174
          · have c187 : x185.toInt = (61 : Int) := wk_eq.mp c187
            refine lv_iconst (v := 1) hx hb dX12_compare_85 (by decide) ?_
            refine lv_goto (tgt := 90) hx hb dX12_compare_86 (by decide) ?_
            refine lv_istore_n (lv' := [(3, .int 1), (2, .int x57), (1, .int r49), (0, .ref (ad 0))]) hx hb dX12_compare_90 rfl hl (by decide) rfl (fun ls hl => ?_)
            refine lv_iload_n hx hb dX12_compare_91 rfl (lv_at hl 0 rfl) ?_
            refine lv_if_eq (tgt := 105) hx hb dX12_compare_92 (by decide) (fun c => absurd c (by decide)) (fun _ => ?_)
            refine lv_aload_n hx hb dX12_compare_95 rfl (lv_at hl 3 rfl) ?_
            refine lv_dup hx hb dX12_compare_96 rfl ?_
            refine tk_geti hC hK hw hT hinX12 kM_at0 (by decide) rfl 14 (by decide) (List.mem_of_getElem? (i := 1) rfl) rfl rfl dX12_compare_97 (fun x281 c282 rx281 tx281 => ?_)
            refine wk_top x81 (c282.symm.trans c83) ?_
            refine lv_iconst (v := 1) hx hb dX12_compare_100 (by decide) ?_
            refine lv_iadd hx hb dX12_compare_101 ?_
            refine lv_topi (fun x283 ex283 => ?_)
            have ex283 : x283.toInt = x81.toInt + (1 : Int) := by rw [ex283]; exact wk_add (show (-2147483648) ≤ x81.toInt + (1 : Int) by omega) (show x81.toInt + (1 : Int) ≤ 2147483647 by omega)
            refine tk_puti hC hK hw hT hinX12 tyX12_ok nmX12 kM_at0 (by decide) rfl rfl 14 (by decide) (List.mem_of_getElem? (i := 1) rfl) rfl rfl rfl rfl (show 0 ≤ x283.toInt by omega) (show x283.toInt ≤ 400 by omega) dX12_compare_102 (fun H locs w284 hw hT k286 c285 => ?_)
            have hF := hF.put kM_at0 (k := 14) (by decide) k286
            have c287 := k286.gi (Or.inr (by decide)) c85
            have c288 := k286.gi (Or.inr (by decide)) c86
            have c289 := k286.gi (Or.inr (by decide)) c87
            have c290 := k286.gi (Or.inr (by decide)) c88
            have c291 := k286.gi (Or.inl (tk_ne kM_at1 kM_at0 (by decide))) c186
            refine lv_aload_n hx hb dX12_compare_105 rfl (lv_at hl 3 rfl) ?_
            refine lv_iload_n hx hb dX12_compare_106 rfl (lv_at hl 1 rfl) ?_
            refine tk_Vi hC hK hw hT hA hE hSR kM_at0 (by decide) rfl (k_X12_makes_1 l adK adV dC dI cy ad B (by omega) (by omega) qr s1   x57 (show 0 ≤ x57.toInt by omega) (show x57.toInt ≤ 398 by omega) w284 H.size hT x21 c289 (show 0 ≤ x21.toInt by omega) (show x21.toInt ≤ 60 by omega)) (cwV 1 hC.2.2.2.2 gX12_compare_X12_makes rfl rfl rfl (by decide +kernel) ⟨Nat.le_of_ble_eq_true rfl, Nat.le_of_ble_eq_true rfl⟩) rfl hl.1 rfl (Nat.le_of_ble_eq_true rfl) dX12_compare_107 (fun r292 w294 H locs hp293 hw => ?_)
            obtain ⟨hT, k295, hg303⟩ := hp293
            have hF := hF.tr k295 (by decide)
            have c304 := k295.gi kM_at0 (by decide) c287
            have c305 := k295.gi kM_at0 (by decide) c288
            have c306 := k295.gi kM_at3 (by decide) c290
            have c307 := k295.gi kM_at1 rfl c291
            have c308 := k295.gi kM_at0 (by decide) c285
            rcases hg303 with ⟨rfl, ⟨x296, c297, rx296, tx296⟩, ⟨x298, c299, rx298, tx298⟩⟩ | ⟨rfl, ⟨x300, c301, rx300, tx300⟩, g302⟩
            · refine lv_if_ne (tgt := 115) hx hb dX12_compare_110 (by decide) (fun c => absurd (by decide) c) (fun _ => ?_)
              refine lv_iconst (v := 0) hx hb dX12_compare_113 (by decide) ?_
              exact tk_zret hC hr rfl hlocks hK ⟨hT, hF, (Or.inl ⟨rfl, ⟨x17, c305, (show 1 ≤ x17.toInt by omega), (show x17.toInt ≤ 400 by omega)⟩, ⟨x296, c297, (show 1 ≤ x296.toInt by omega), (show x296.toInt ≤ 3205 by omega)⟩, ⟨2, c304, (by decide), (by decide)⟩⟩)⟩ hw dX12_compare_114
            · have g302 : x300.toInt = x21.toInt + 1 := by have q := g302; simp only [c289, c301] at q; omega
              refine lv_if_ne (tgt := 115) hx hb dX12_compare_110 (by decide) (fun _ => ?_) (fun c => absurd c (by decide))
              refine lv_iload_n hx hb dX12_compare_115 rfl (lv_at hl 2 rfl) ?_
              refine lv_bipush (v := 60) hx hb dX12_compare_116 (by decide) ?_
              refine lv_icmp_ne (tgt := 133) hx hb dX12_compare_118 (by decide) (fun c => (c (wk_eq.mpr (show r49.toInt = (60 : Int) by omega))).elim) (fun _ => ?_)
              refine lv_iload_n hx hb dX12_compare_121 rfl (lv_at hl 0 rfl) ?_
              refine lv_if_eq (tgt := 129) hx hb dX12_compare_122 (by decide) (fun c => absurd c (by decide)) (fun _ => ?_)
              refine lv_iconst (v := 1) hx hb dX12_compare_125 (by decide) ?_
              refine lv_goto (tgt := 152) hx hb dX12_compare_126 (by decide) ?_
              refine lv_istore (lv' := [(4, .int 1), (3, .int 1), (2, .int x57), (1, .int r49), (0, .ref (ad 0))]) hx hb dX12_compare_152 hl (by decide) rfl (fun ls hl => ?_)
              refine lv_aload_n hx hb dX12_compare_154 rfl (lv_at hl 4 rfl) ?_
              refine tk_Vi hC hK hw hT hA hE hSR kM_at0 (by decide) rfl (k_X12_sum_3 l adK adV dC dI cy ad B (by omega) (by omega) qr s1    w294 H.size hT c304 x300 c301 (show 0 ≤ x300.toInt by omega) (show x300.toInt ≤ 60 by omega) x43 c306 (show 0 ≤ x43.toInt by omega) (show x43.toInt ≤ 400 by omega) (show 3 * x43.toInt ≤ 14 * x300.toInt + 60 by omega) (show x43.toInt ≤ 300 by omega)) (cwV 0 hC.2.2.2.2 gX12_compare_X12_sum rfl rfl rfl (by decide +kernel) ⟨Nat.le_of_ble_eq_true rfl, Nat.le_of_ble_eq_true rfl⟩) rfl hl.1 rfl (Nat.le_of_ble_eq_true rfl) dX12_compare_155 (fun r309 w311 H locs hp310 hw => ?_)
              obtain ⟨hT, k312, hg341⟩ := hp310
              have hF := hF.tr k312 (by decide)
              have c342 := k312.gi kM_at0 (by decide) c304
              have c343 := k312.gi kM_at0 (by decide) c305
              have c344 := k312.gi kM_at1 rfl c307
              rcases hg341 with ⟨rfl, ⟨x313, c314, rx313, tx313⟩, ⟨x315, c316, rx315, tx315⟩, ⟨x317, c318, rx317, tx317⟩⟩ | ⟨rfl, ⟨x319, c320, rx319, tx319⟩, ⟨x321, c322, rx321, tx321⟩, ⟨x323, c324, rx323, tx323⟩⟩ | ⟨rfl, ⟨x325, c326, rx325, tx325⟩, ⟨x327, c328, rx327, tx327⟩, ⟨x329, c330, rx329, tx329⟩, g331, g332⟩ | ⟨rfl, ⟨x333, c334, rx333, tx333⟩, ⟨x335, c336, rx335, tx335⟩, ⟨x337, c338, rx337, tx337⟩, g339, g340⟩
              · have ex313 : x313.toInt = x17.toInt := by rw [← c343.symm.trans c314]
                have ex317 : x317.toInt = (2 : Int) := by rw [show x317 = 2 from c318.symm.trans c342]; decide
                obtain ⟨x345, c346, rx345, tx345⟩ := hT.rda (lo := 0) (hi := 400) (i := 2) kM_at3 rfl rfl (by decide)
                obtain ⟨x347, c348, rx347, tx347⟩ := hT.rdi (lo := 0) (hi := 60) (k := 18) kM_at0 (by decide) rfl
                refine lv_if_ne (tgt := 163) hx hb dX12_compare_158 (by decide) (fun c => absurd (by decide) c) (fun _ => ?_)
                refine lv_iconst (v := 0) hx hb dX12_compare_161 (by decide) ?_
                exact tk_zret hC hr rfl hlocks hK ⟨hT, hF, (Or.inl ⟨rfl, ⟨x17, c343, (show 1 ≤ x17.toInt by omega), (show x17.toInt ≤ 400 by omega)⟩, ⟨x315, c316, (show 1 ≤ x315.toInt by omega), (show x315.toInt ≤ 3205 by omega)⟩, ⟨2, c342, (by decide), (by decide)⟩⟩)⟩ hw dX12_compare_162
              · have ex319 : x319.toInt = x17.toInt := by rw [← c343.symm.trans c320]
                have ex323 : x323.toInt = (2 : Int) := by rw [show x323 = 2 from c324.symm.trans c342]; decide
                obtain ⟨x349, c350, rx349, tx349⟩ := hT.rda (lo := 0) (hi := 400) (i := 2) kM_at3 rfl rfl (by decide)
                obtain ⟨x351, c352, rx351, tx351⟩ := hT.rdi (lo := 0) (hi := 60) (k := 18) kM_at0 (by decide) rfl
                refine lv_if_ne (tgt := 163) hx hb dX12_compare_158 (by decide) (fun c => absurd (by decide) c) (fun _ => ?_)
                refine lv_iconst (v := 0) hx hb dX12_compare_161 (by decide) ?_
                exact tk_zret hC hr rfl hlocks hK ⟨hT, hF, (Or.inl ⟨rfl, ⟨x17, c343, (show 1 ≤ x17.toInt by omega), (show x17.toInt ≤ 400 by omega)⟩, ⟨x321, c322, (show 1 ≤ x321.toInt by omega), (show x321.toInt ≤ 3205 by omega)⟩, ⟨2, c342, (by decide), (by decide)⟩⟩)⟩ hw dX12_compare_162
              · have ex325 : x325.toInt = x17.toInt := by rw [← c343.symm.trans c326]
                have ex327 : x327.toInt = (2 : Int) := by rw [show x327 = 2 from c328.symm.trans c342]; decide
                obtain ⟨x353, c354, rx353, tx353⟩ := hT.rda (lo := 0) (hi := 400) (i := 2) kM_at3 rfl rfl (by decide)
                have g331 : 3 * x353.toInt + 11 ≤ 3 * x43.toInt + 14 * (x329.toInt - x300.toInt) := by have q := g331; simp only [c306, c354, c301, c330] at q; omega
                have g332 : x300.toInt + 1 ≤ x329.toInt := by have q := g332; simp only [c301, c330] at q; omega
                refine lv_if_ne (tgt := 163) hx hb dX12_compare_158 (by decide) (fun _ => ?_) (fun c => absurd c (by decide))
                refine lv_aload_n hx hb dX12_compare_163 rfl (lv_at hl 4 rfl) ?_
                refine lv_bipush (v := 6) hx hb dX12_compare_164 (by decide) ?_
                refine lv_iload hx hb dX12_compare_166 (lv_at hl 0 rfl) ?_
                refine lv_iadd hx hb dX12_compare_168 ?_
                refine wk_top 7 (by decide) ?_
                refine lv_iconst (v := 0) hx hb dX12_compare_169 (by decide) ?_
                refine tk_Vv hC hK hw hT hA hE hSR kM_at0 (by decide) rfl (k_X12_puts_3 l adK adV dC dI cy ad B (by omega) (by omega) qr s1   7 (by decide) (by decide) 0 w311 H.size hT c342 x353 c354 (show 0 ≤ x353.toInt by omega) (show x353.toInt ≤ 400 by omega) (show x353.toInt ≤ 399 by omega)) (cwV 2 hC.2.2.2.2 gX12_compare_X12_puts rfl rfl rfl (by decide +kernel) ⟨Nat.le_of_ble_eq_true rfl, Nat.le_of_ble_eq_true rfl⟩) rfl hl.1 rfl (Nat.le_of_ble_eq_true rfl) dX12_compare_170 (fun w359 H locs hp358 hw => ?_)
                obtain ⟨hT, k360, hg364⟩ := hp358
                have hF := hF.tr k360 (by decide)
                have c365 := k360.gi kM_at0 (by decide) c342
                have c366 := k360.gi kM_at0 (by decide) c343
                have c367 := k360.gi kM_at1 rfl c344
                have c368 := k360.gi kM_at0 (by decide) c330
                obtain ⟨⟨x361, c362, rx361, tx361⟩, g363⟩ := hg364
                have ex361 : x361.toInt = (2 : Int) := by rw [show x361 = 2 from c362.symm.trans c365]; decide
                obtain ⟨x369, c370, rx369, tx369⟩ := hT.rda (lo := 0) (hi := 400) (i := 2) kM_at3 rfl rfl (by decide)
                have g363 : x369.toInt = x353.toInt + 1 := by have q := g363; simp only [c354, c370] at q; omega
                refine lv_iconst (v := 1) hx hb dX12_compare_173 (by decide) ?_
                exact tk_zret hC hr rfl hlocks hK ⟨hT, hF, (Or.inr (Or.inr ⟨rfl, ⟨x17, c366, (show 1 ≤ x17.toInt by omega), (show x17.toInt ≤ 400 by omega)⟩, ⟨2, c365, (by decide), (by decide)⟩, ⟨x329, c368, (show 1 ≤ x329.toInt by omega), (show x329.toInt ≤ 60 by omega)⟩, (by simp only [cf2_, c370, cf1_, c368]; omega), (by simp only [cf1_, c368]; omega)⟩))⟩ hw dX12_compare_174
              · have ex333 : x333.toInt = x17.toInt := by rw [← c343.symm.trans c334]
                have ex335 : x335.toInt = (2 : Int) := by rw [show x335 = 2 from c336.symm.trans c342]; decide
                obtain ⟨x355, c356, rx355, tx355⟩ := hT.rda (lo := 0) (hi := 400) (i := 2) kM_at3 rfl rfl (by decide)
                have g339 : 3 * x355.toInt + 11 ≤ 3 * x43.toInt + 14 * (x337.toInt - x300.toInt) := by have q := g339; simp only [c306, c356, c301, c338] at q; omega
                have g340 : x300.toInt + 1 ≤ x337.toInt := by have q := g340; simp only [c301, c338] at q; omega
                refine lv_if_ne (tgt := 163) hx hb dX12_compare_158 (by decide) (fun _ => ?_) (fun c => absurd c (by decide))
                refine lv_aload_n hx hb dX12_compare_163 rfl (lv_at hl 4 rfl) ?_
                refine lv_bipush (v := 6) hx hb dX12_compare_164 (by decide) ?_
                refine lv_iload hx hb dX12_compare_166 (lv_at hl 0 rfl) ?_
                refine lv_iadd hx hb dX12_compare_168 ?_
                refine wk_top 7 (by decide) ?_
                refine lv_iconst (v := 0) hx hb dX12_compare_169 (by decide) ?_
                refine tk_Vv hC hK hw hT hA hE hSR kM_at0 (by decide) rfl (k_X12_puts_3 l adK adV dC dI cy ad B (by omega) (by omega) qr s1   7 (by decide) (by decide) 0 w311 H.size hT c342 x355 c356 (show 0 ≤ x355.toInt by omega) (show x355.toInt ≤ 400 by omega) (show x355.toInt ≤ 399 by omega)) (cwV 2 hC.2.2.2.2 gX12_compare_X12_puts rfl rfl rfl (by decide +kernel) ⟨Nat.le_of_ble_eq_true rfl, Nat.le_of_ble_eq_true rfl⟩) rfl hl.1 rfl (Nat.le_of_ble_eq_true rfl) dX12_compare_170 (fun w373 H locs hp372 hw => ?_)
                obtain ⟨hT, k374, hg378⟩ := hp372
                have hF := hF.tr k374 (by decide)
                have c379 := k374.gi kM_at0 (by decide) c342
                have c380 := k374.gi kM_at0 (by decide) c343
                have c381 := k374.gi kM_at1 rfl c344
                have c382 := k374.gi kM_at0 (by decide) c338
                obtain ⟨⟨x375, c376, rx375, tx375⟩, g377⟩ := hg378
                have ex375 : x375.toInt = (2 : Int) := by rw [show x375 = 2 from c376.symm.trans c379]; decide
                obtain ⟨x383, c384, rx383, tx383⟩ := hT.rda (lo := 0) (hi := 400) (i := 2) kM_at3 rfl rfl (by decide)
                have g377 : x383.toInt = x355.toInt + 1 := by have q := g377; simp only [c356, c384] at q; omega
                refine lv_iconst (v := 1) hx hb dX12_compare_173 (by decide) ?_
                exact tk_zret hC hr rfl hlocks hK ⟨hT, hF, (Or.inr (Or.inr ⟨rfl, ⟨x17, c380, (show 1 ≤ x17.toInt by omega), (show x17.toInt ≤ 400 by omega)⟩, ⟨2, c379, (by decide), (by decide)⟩, ⟨x337, c382, (show 1 ≤ x337.toInt by omega), (show x337.toInt ≤ 60 by omega)⟩, (by simp only [cf2_, c384, cf1_, c382]; omega), (by simp only [cf1_, c382]; omega)⟩))⟩ hw dX12_compare_174
      · have c78 : ¬ r49.toInt = (60 : Int) := wk_eqF c78
        refine lv_iload_n hx hb dX12_compare_25 rfl (lv_at hl 1 rfl) ?_
        refine lv_bipush (v := 61) hx hb dX12_compare_26 (by decide) ?_
        refine lv_icmp_eq (tgt := 44) hx hb dX12_compare_28 (by decide) (fun c385 => ?_) (fun c385 => ?_)
        · have c385 : r49.toInt = (61 : Int) := wk_eq.mp c385
          refine lv_aload_n hx hb dX12_compare_44 rfl (lv_at hl 2 rfl) ?_
          refine lv_dup hx hb dX12_compare_45 rfl ?_
          refine tk_geti hC hK hw hT hinX12 kM_at0 (by decide) rfl 14 (by decide) (List.mem_of_getElem? (i := 1) rfl) rfl rfl dX12_compare_46 (fun x386 c387 rx386 tx386 => ?_)
          refine wk_top x57 (c387.symm.trans c58) ?_
          refine lv_iconst (v := 1) hx hb dX12_compare_49 (by decide) ?_
          refine lv_iadd hx hb dX12_compare_50 ?_
          refine lv_topi (fun x388 ex388 => ?_)
          have ex388 : x388.toInt = x57.toInt + (1 : Int) := by rw [ex388]; exact wk_add (show (-2147483648) ≤ x57.toInt + (1 : Int) by omega) (show x57.toInt + (1 : Int) ≤ 2147483647 by omega)
          refine tk_puti hC hK hw hT hinX12 tyX12_ok nmX12 kM_at0 (by decide) rfl rfl 14 (by decide) (List.mem_of_getElem? (i := 1) rfl) rfl rfl rfl rfl (show 0 ≤ x388.toInt by omega) (show x388.toInt ≤ 400 by omega) dX12_compare_51 (fun H locs w389 hw hT k391 c390 => ?_)
          have hF := hF.put kM_at0 (k := 14) (by decide) k391
          have c392 := k391.gi (Or.inr (by decide)) c70
          have c393 := k391.gi (Or.inr (by decide)) c71
          have c394 := k391.gi (Or.inr (by decide)) c72
          have c395 := k391.gi (Or.inr (by decide)) c73
          refine lv_iload_n hx hb dX12_compare_54 rfl (lv_at hl 1 rfl) ?_
          refine lv_bipush (v := 61) hx hb dX12_compare_55 (by decide) ?_
          refine lv_icmp_eq (tgt := 89) hx hb dX12_compare_57 (by decide) (fun _ => ?_) (fun c => (c (wk_eq.mpr (show r49.toInt = (61 : Int) by omega))).elim)
          refine lv_iconst (v := 0) hx hb dX12_compare_89 (by decide) ?_
          refine lv_istore_n (lv' := [(3, .int 0), (2, .int x57), (1, .int r49), (0, .ref (ad 0))]) hx hb dX12_compare_90 rfl hl (by decide) rfl (fun ls hl => ?_)
          refine lv_iload_n hx hb dX12_compare_91 rfl (lv_at hl 0 rfl) ?_
          refine lv_if_eq (tgt := 105) hx hb dX12_compare_92 (by decide) (fun _ => ?_) (fun c => absurd (by decide) c)
          refine lv_aload_n hx hb dX12_compare_105 rfl (lv_at hl 3 rfl) ?_
          refine lv_iload_n hx hb dX12_compare_106 rfl (lv_at hl 1 rfl) ?_
          refine tk_Vi hC hK hw hT hA hE hSR kM_at0 (by decide) rfl (k_X12_makes_2 l adK adV dC dI cy ad B (by omega) (by omega) qr s1   x57 (show 0 ≤ x57.toInt by omega) (show x57.toInt ≤ 399 by omega) w389 H.size hT x21 c394 (show 0 ≤ x21.toInt by omega) (show x21.toInt ≤ 60 by omega)) (cwV 1 hC.2.2.2.2 gX12_compare_X12_makes rfl rfl rfl (by decide +kernel) ⟨Nat.le_of_ble_eq_true rfl, Nat.le_of_ble_eq_true rfl⟩) rfl hl.1 rfl (Nat.le_of_ble_eq_true rfl) dX12_compare_107 (fun r396 w398 H locs hp397 hw => ?_)
          obtain ⟨hT, k399, hg407⟩ := hp397
          have hF := hF.tr k399 (by decide)
          have c408 := k399.gi kM_at0 (by decide) c392
          have c409 := k399.gi kM_at0 (by decide) c393
          have c410 := k399.gi kM_at3 (by decide) c395
          have c411 := k399.gi kM_at0 (by decide) c390
          rcases hg407 with ⟨rfl, ⟨x400, c401, rx400, tx400⟩, ⟨x402, c403, rx402, tx402⟩⟩ | ⟨rfl, ⟨x404, c405, rx404, tx404⟩, g406⟩
          · refine lv_if_ne (tgt := 115) hx hb dX12_compare_110 (by decide) (fun c => absurd (by decide) c) (fun _ => ?_)
            refine lv_iconst (v := 0) hx hb dX12_compare_113 (by decide) ?_
            exact tk_zret hC hr rfl hlocks hK ⟨hT, hF, (Or.inl ⟨rfl, ⟨x17, c409, (show 1 ≤ x17.toInt by omega), (show x17.toInt ≤ 400 by omega)⟩, ⟨x400, c401, (show 1 ≤ x400.toInt by omega), (show x400.toInt ≤ 3205 by omega)⟩, ⟨2, c408, (by decide), (by decide)⟩⟩)⟩ hw dX12_compare_114
          · have g406 : x404.toInt = x21.toInt + 1 := by have q := g406; simp only [c394, c405] at q; omega
            refine lv_if_ne (tgt := 115) hx hb dX12_compare_110 (by decide) (fun _ => ?_) (fun c => absurd c (by decide))
            refine lv_iload_n hx hb dX12_compare_115 rfl (lv_at hl 2 rfl) ?_
            refine lv_bipush (v := 60) hx hb dX12_compare_116 (by decide) ?_
            refine lv_icmp_ne (tgt := 133) hx hb dX12_compare_118 (by decide) (fun _ => ?_) (fun c => absurd (show r49.toInt = (60 : Int) from wk_eq.mp c) (by omega))
            refine lv_iload_n hx hb dX12_compare_133 rfl (lv_at hl 2 rfl) ?_
            refine lv_bipush (v := 61) hx hb dX12_compare_134 (by decide) ?_
            refine lv_icmp_ne (tgt := 143) hx hb dX12_compare_136 (by decide) (fun c => (c (wk_eq.mpr (show r49.toInt = (61 : Int) by omega))).elim) (fun _ => ?_)
            refine lv_iconst (v := 2) hx hb dX12_compare_139 (by decide) ?_
            refine lv_goto (tgt := 152) hx hb dX12_compare_140 (by decide) ?_
            refine lv_istore (lv' := [(4, .int 2), (3, .int 0), (2, .int x57), (1, .int r49), (0, .ref (ad 0))]) hx hb dX12_compare_152 hl (by decide) rfl (fun ls hl => ?_)
            refine lv_aload_n hx hb dX12_compare_154 rfl (lv_at hl 4 rfl) ?_
            refine tk_Vi hC hK hw hT hA hE hSR kM_at0 (by decide) rfl (k_X12_sum_3 l adK adV dC dI cy ad B (by omega) (by omega) qr s1    w398 H.size hT c408 x404 c405 (show 0 ≤ x404.toInt by omega) (show x404.toInt ≤ 60 by omega) x43 c410 (show 0 ≤ x43.toInt by omega) (show x43.toInt ≤ 400 by omega) (show 3 * x43.toInt ≤ 14 * x404.toInt + 60 by omega) (show x43.toInt ≤ 300 by omega)) (cwV 0 hC.2.2.2.2 gX12_compare_X12_sum rfl rfl rfl (by decide +kernel) ⟨Nat.le_of_ble_eq_true rfl, Nat.le_of_ble_eq_true rfl⟩) rfl hl.1 rfl (Nat.le_of_ble_eq_true rfl) dX12_compare_155 (fun r412 w414 H locs hp413 hw => ?_)
            obtain ⟨hT, k415, hg444⟩ := hp413
            have hF := hF.tr k415 (by decide)
            have c445 := k415.gi kM_at0 (by decide) c408
            have c446 := k415.gi kM_at0 (by decide) c409
            rcases hg444 with ⟨rfl, ⟨x416, c417, rx416, tx416⟩, ⟨x418, c419, rx418, tx418⟩, ⟨x420, c421, rx420, tx420⟩⟩ | ⟨rfl, ⟨x422, c423, rx422, tx422⟩, ⟨x424, c425, rx424, tx424⟩, ⟨x426, c427, rx426, tx426⟩⟩ | ⟨rfl, ⟨x428, c429, rx428, tx428⟩, ⟨x430, c431, rx430, tx430⟩, ⟨x432, c433, rx432, tx432⟩, g434, g435⟩ | ⟨rfl, ⟨x436, c437, rx436, tx436⟩, ⟨x438, c439, rx438, tx438⟩, ⟨x440, c441, rx440, tx440⟩, g442, g443⟩
            · have ex416 : x416.toInt = x17.toInt := by rw [← c446.symm.trans c417]
              have ex420 : x420.toInt = (2 : Int) := by rw [show x420 = 2 from c421.symm.trans c445]; decide
              obtain ⟨x447, c448, rx447, tx447⟩ := hT.rda (lo := 0) (hi := 400) (i := 2) kM_at3 rfl rfl (by decide)
              obtain ⟨x449, c450, rx449, tx449⟩ := hT.rdi (lo := 0) (hi := 60) (k := 18) kM_at0 (by decide) rfl
              refine lv_if_ne (tgt := 163) hx hb dX12_compare_158 (by decide) (fun c => absurd (by decide) c) (fun _ => ?_)
              refine lv_iconst (v := 0) hx hb dX12_compare_161 (by decide) ?_
              exact tk_zret hC hr rfl hlocks hK ⟨hT, hF, (Or.inl ⟨rfl, ⟨x17, c446, (show 1 ≤ x17.toInt by omega), (show x17.toInt ≤ 400 by omega)⟩, ⟨x418, c419, (show 1 ≤ x418.toInt by omega), (show x418.toInt ≤ 3205 by omega)⟩, ⟨2, c445, (by decide), (by decide)⟩⟩)⟩ hw dX12_compare_162
            · have ex422 : x422.toInt = x17.toInt := by rw [← c446.symm.trans c423]
              have ex426 : x426.toInt = (2 : Int) := by rw [show x426 = 2 from c427.symm.trans c445]; decide
              obtain ⟨x451, c452, rx451, tx451⟩ := hT.rda (lo := 0) (hi := 400) (i := 2) kM_at3 rfl rfl (by decide)
              obtain ⟨x453, c454, rx453, tx453⟩ := hT.rdi (lo := 0) (hi := 60) (k := 18) kM_at0 (by decide) rfl
              refine lv_if_ne (tgt := 163) hx hb dX12_compare_158 (by decide) (fun c => absurd (by decide) c) (fun _ => ?_)
              refine lv_iconst (v := 0) hx hb dX12_compare_161 (by decide) ?_
              exact tk_zret hC hr rfl hlocks hK ⟨hT, hF, (Or.inl ⟨rfl, ⟨x17, c446, (show 1 ≤ x17.toInt by omega), (show x17.toInt ≤ 400 by omega)⟩, ⟨x424, c425, (show 1 ≤ x424.toInt by omega), (show x424.toInt ≤ 3205 by omega)⟩, ⟨2, c445, (by decide), (by decide)⟩⟩)⟩ hw dX12_compare_162
            · have ex428 : x428.toInt = x17.toInt := by rw [← c446.symm.trans c429]
              have ex430 : x430.toInt = (2 : Int) := by rw [show x430 = 2 from c431.symm.trans c445]; decide
              obtain ⟨x455, c456, rx455, tx455⟩ := hT.rda (lo := 0) (hi := 400) (i := 2) kM_at3 rfl rfl (by decide)
              have g434 : 3 * x455.toInt + 11 ≤ 3 * x43.toInt + 14 * (x432.toInt - x404.toInt) := by have q := g434; simp only [c410, c456, c405, c433] at q; omega
              have g435 : x404.toInt + 1 ≤ x432.toInt := by have q := g435; simp only [c405, c433] at q; omega
              refine lv_if_ne (tgt := 163) hx hb dX12_compare_158 (by decide) (fun _ => ?_) (fun c => absurd c (by decide))
              refine lv_aload_n hx hb dX12_compare_163 rfl (lv_at hl 4 rfl) ?_
              refine lv_bipush (v := 6) hx hb dX12_compare_164 (by decide) ?_
              refine lv_iload hx hb dX12_compare_166 (lv_at hl 0 rfl) ?_
              refine lv_iadd hx hb dX12_compare_168 ?_
              refine wk_top 8 (by decide) ?_
              refine lv_iconst (v := 0) hx hb dX12_compare_169 (by decide) ?_
              refine tk_Vv hC hK hw hT hA hE hSR kM_at0 (by decide) rfl (k_X12_puts_3 l adK adV dC dI cy ad B (by omega) (by omega) qr s1   8 (by decide) (by decide) 0 w414 H.size hT c445 x455 c456 (show 0 ≤ x455.toInt by omega) (show x455.toInt ≤ 400 by omega) (show x455.toInt ≤ 399 by omega)) (cwV 2 hC.2.2.2.2 gX12_compare_X12_puts rfl rfl rfl (by decide +kernel) ⟨Nat.le_of_ble_eq_true rfl, Nat.le_of_ble_eq_true rfl⟩) rfl hl.1 rfl (Nat.le_of_ble_eq_true rfl) dX12_compare_170 (fun w461 H locs hp460 hw => ?_)
              obtain ⟨hT, k462, hg466⟩ := hp460
              have hF := hF.tr k462 (by decide)
              have c467 := k462.gi kM_at0 (by decide) c445
              have c468 := k462.gi kM_at0 (by decide) c446
              have c469 := k462.gi kM_at0 (by decide) c433
              obtain ⟨⟨x463, c464, rx463, tx463⟩, g465⟩ := hg466
              have ex463 : x463.toInt = (2 : Int) := by rw [show x463 = 2 from c464.symm.trans c467]; decide
              obtain ⟨x470, c471, rx470, tx470⟩ := hT.rda (lo := 0) (hi := 400) (i := 2) kM_at3 rfl rfl (by decide)
              have g465 : x470.toInt = x455.toInt + 1 := by have q := g465; simp only [c456, c471] at q; omega
              refine lv_iconst (v := 1) hx hb dX12_compare_173 (by decide) ?_
              exact tk_zret hC hr rfl hlocks hK ⟨hT, hF, (Or.inr (Or.inr ⟨rfl, ⟨x17, c468, (show 1 ≤ x17.toInt by omega), (show x17.toInt ≤ 400 by omega)⟩, ⟨2, c467, (by decide), (by decide)⟩, ⟨x432, c469, (show 1 ≤ x432.toInt by omega), (show x432.toInt ≤ 60 by omega)⟩, (by simp only [cf2_, c471, cf1_, c469]; omega), (by simp only [cf1_, c469]; omega)⟩))⟩ hw dX12_compare_174
            · have ex436 : x436.toInt = x17.toInt := by rw [← c446.symm.trans c437]
              have ex438 : x438.toInt = (2 : Int) := by rw [show x438 = 2 from c439.symm.trans c445]; decide
              obtain ⟨x457, c458, rx457, tx457⟩ := hT.rda (lo := 0) (hi := 400) (i := 2) kM_at3 rfl rfl (by decide)
              have g442 : 3 * x457.toInt + 11 ≤ 3 * x43.toInt + 14 * (x440.toInt - x404.toInt) := by have q := g442; simp only [c410, c458, c405, c441] at q; omega
              have g443 : x404.toInt + 1 ≤ x440.toInt := by have q := g443; simp only [c405, c441] at q; omega
              refine lv_if_ne (tgt := 163) hx hb dX12_compare_158 (by decide) (fun _ => ?_) (fun c => absurd c (by decide))
              refine lv_aload_n hx hb dX12_compare_163 rfl (lv_at hl 4 rfl) ?_
              refine lv_bipush (v := 6) hx hb dX12_compare_164 (by decide) ?_
              refine lv_iload hx hb dX12_compare_166 (lv_at hl 0 rfl) ?_
              refine lv_iadd hx hb dX12_compare_168 ?_
              refine wk_top 8 (by decide) ?_
              refine lv_iconst (v := 0) hx hb dX12_compare_169 (by decide) ?_
              refine tk_Vv hC hK hw hT hA hE hSR kM_at0 (by decide) rfl (k_X12_puts_3 l adK adV dC dI cy ad B (by omega) (by omega) qr s1   8 (by decide) (by decide) 0 w414 H.size hT c445 x457 c458 (show 0 ≤ x457.toInt by omega) (show x457.toInt ≤ 400 by omega) (show x457.toInt ≤ 399 by omega)) (cwV 2 hC.2.2.2.2 gX12_compare_X12_puts rfl rfl rfl (by decide +kernel) ⟨Nat.le_of_ble_eq_true rfl, Nat.le_of_ble_eq_true rfl⟩) rfl hl.1 rfl (Nat.le_of_ble_eq_true rfl) dX12_compare_170 (fun w474 H locs hp473 hw => ?_)
              obtain ⟨hT, k475, hg479⟩ := hp473
              have hF := hF.tr k475 (by decide)
              have c480 := k475.gi kM_at0 (by decide) c445
              have c481 := k475.gi kM_at0 (by decide) c446
              have c482 := k475.gi kM_at0 (by decide) c441
              obtain ⟨⟨x476, c477, rx476, tx476⟩, g478⟩ := hg479
              have ex476 : x476.toInt = (2 : Int) := by rw [show x476 = 2 from c477.symm.trans c480]; decide
              obtain ⟨x483, c484, rx483, tx483⟩ := hT.rda (lo := 0) (hi := 400) (i := 2) kM_at3 rfl rfl (by decide)
              have g478 : x483.toInt = x457.toInt + 1 := by have q := g478; simp only [c458, c484] at q; omega
              refine lv_iconst (v := 1) hx hb dX12_compare_173 (by decide) ?_
              exact tk_zret hC hr rfl hlocks hK ⟨hT, hF, (Or.inr (Or.inr ⟨rfl, ⟨x17, c481, (show 1 ≤ x17.toInt by omega), (show x17.toInt ≤ 400 by omega)⟩, ⟨2, c480, (by decide), (by decide)⟩, ⟨x440, c482, (show 1 ≤ x440.toInt by omega), (show x440.toInt ≤ 60 by omega)⟩, (by simp only [cf2_, c484, cf1_, c482]; omega), (by simp only [cf1_, c482]; omega)⟩))⟩ hw dX12_compare_174
        · have c385 : ¬ r49.toInt = (61 : Int) := wk_eqF c385
          refine lv_iload_n hx hb dX12_compare_31 rfl (lv_at hl 1 rfl) ?_
          refine lv_bipush (v := 62) hx hb dX12_compare_32 (by decide) ?_
          refine lv_icmp_eq (tgt := 44) hx hb dX12_compare_34 (by decide) (fun c485 => ?_) (fun c485 => ?_)
          · have c485 : r49.toInt = (62 : Int) := wk_eq.mp c485
            refine lv_aload_n hx hb dX12_compare_44 rfl (lv_at hl 2 rfl) ?_
            refine lv_dup hx hb dX12_compare_45 rfl ?_
            refine tk_geti hC hK hw hT hinX12 kM_at0 (by decide) rfl 14 (by decide) (List.mem_of_getElem? (i := 1) rfl) rfl rfl dX12_compare_46 (fun x486 c487 rx486 tx486 => ?_)
            refine wk_top x57 (c487.symm.trans c58) ?_
            refine lv_iconst (v := 1) hx hb dX12_compare_49 (by decide) ?_
            refine lv_iadd hx hb dX12_compare_50 ?_
            refine lv_topi (fun x488 ex488 => ?_)
            have ex488 : x488.toInt = x57.toInt + (1 : Int) := by rw [ex488]; exact wk_add (show (-2147483648) ≤ x57.toInt + (1 : Int) by omega) (show x57.toInt + (1 : Int) ≤ 2147483647 by omega)
            refine tk_puti hC hK hw hT hinX12 tyX12_ok nmX12 kM_at0 (by decide) rfl rfl 14 (by decide) (List.mem_of_getElem? (i := 1) rfl) rfl rfl rfl rfl (show 0 ≤ x488.toInt by omega) (show x488.toInt ≤ 400 by omega) dX12_compare_51 (fun H locs w489 hw hT k491 c490 => ?_)
            have hF := hF.put kM_at0 (k := 14) (by decide) k491
            have c492 := k491.gi (Or.inr (by decide)) c70
            have c493 := k491.gi (Or.inr (by decide)) c71
            have c494 := k491.gi (Or.inr (by decide)) c72
            have c495 := k491.gi (Or.inr (by decide)) c73
            refine lv_iload_n hx hb dX12_compare_54 rfl (lv_at hl 1 rfl) ?_
            refine lv_bipush (v := 61) hx hb dX12_compare_55 (by decide) ?_
            refine lv_icmp_eq (tgt := 89) hx hb dX12_compare_57 (by decide) (fun c => absurd c (fun h => absurd (show r49.toInt = (61 : Int) from wk_eq.mp h) (by omega))) (fun _ => ?_)
            refine lv_aload_n hx hb dX12_compare_60 rfl (lv_at hl 2 rfl) ?_
            refine tk_geti hC hK hw hT hinX12 kM_at0 (by decide) rfl 14 (by decide) (List.mem_of_getElem? (i := 1) rfl) rfl rfl dX12_compare_61 (fun x496 c497 rx496 tx496 => ?_)
            refine wk_top x488 (c497.symm.trans c490) ?_
            refine lv_aload_n hx hb dX12_compare_64 rfl (lv_at hl 2 rfl) ?_
            refine tk_geti hC hK hw hT hinX12 kM_at0 (by decide) rfl 1 (by decide) (List.mem_of_getElem? (i := 2) rfl) rfl rfl dX12_compare_65 (fun x498 c499 rx498 tx498 => ?_)
            refine wk_top x17 (c499.symm.trans c493) ?_
            refine lv_icmp_ge (tgt := 89) hx hb dX12_compare_68 (by decide) (fun c500 => ?_) (fun c500 => ?_)
            · have c500 : x17.toInt ≤ x488.toInt := wk_le.mp c500
              refine lv_iconst (v := 0) hx hb dX12_compare_89 (by decide) ?_
              refine lv_istore_n (lv' := [(3, .int 0), (2, .int x57), (1, .int r49), (0, .ref (ad 0))]) hx hb dX12_compare_90 rfl hl (by decide) rfl (fun ls hl => ?_)
              refine lv_iload_n hx hb dX12_compare_91 rfl (lv_at hl 0 rfl) ?_
              refine lv_if_eq (tgt := 105) hx hb dX12_compare_92 (by decide) (fun _ => ?_) (fun c => absurd (by decide) c)
              refine lv_aload_n hx hb dX12_compare_105 rfl (lv_at hl 3 rfl) ?_
              refine lv_iload_n hx hb dX12_compare_106 rfl (lv_at hl 1 rfl) ?_
              refine tk_Vi hC hK hw hT hA hE hSR kM_at0 (by decide) rfl (k_X12_makes_2 l adK adV dC dI cy ad B (by omega) (by omega) qr s1   x57 (show 0 ≤ x57.toInt by omega) (show x57.toInt ≤ 399 by omega) w489 H.size hT x21 c494 (show 0 ≤ x21.toInt by omega) (show x21.toInt ≤ 60 by omega)) (cwV 1 hC.2.2.2.2 gX12_compare_X12_makes rfl rfl rfl (by decide +kernel) ⟨Nat.le_of_ble_eq_true rfl, Nat.le_of_ble_eq_true rfl⟩) rfl hl.1 rfl (Nat.le_of_ble_eq_true rfl) dX12_compare_107 (fun r501 w503 H locs hp502 hw => ?_)
              obtain ⟨hT, k504, hg512⟩ := hp502
              have hF := hF.tr k504 (by decide)
              have c513 := k504.gi kM_at0 (by decide) c492
              have c514 := k504.gi kM_at0 (by decide) c493
              have c515 := k504.gi kM_at3 (by decide) c495
              have c516 := k504.gi kM_at0 (by decide) c490
              rcases hg512 with ⟨rfl, ⟨x505, c506, rx505, tx505⟩, ⟨x507, c508, rx507, tx507⟩⟩ | ⟨rfl, ⟨x509, c510, rx509, tx509⟩, g511⟩
              · refine lv_if_ne (tgt := 115) hx hb dX12_compare_110 (by decide) (fun c => absurd (by decide) c) (fun _ => ?_)
                refine lv_iconst (v := 0) hx hb dX12_compare_113 (by decide) ?_
                exact tk_zret hC hr rfl hlocks hK ⟨hT, hF, (Or.inl ⟨rfl, ⟨x17, c514, (show 1 ≤ x17.toInt by omega), (show x17.toInt ≤ 400 by omega)⟩, ⟨x505, c506, (show 1 ≤ x505.toInt by omega), (show x505.toInt ≤ 3205 by omega)⟩, ⟨2, c513, (by decide), (by decide)⟩⟩)⟩ hw dX12_compare_114
              · have g511 : x509.toInt = x21.toInt + 1 := by have q := g511; simp only [c494, c510] at q; omega
                refine lv_if_ne (tgt := 115) hx hb dX12_compare_110 (by decide) (fun _ => ?_) (fun c => absurd c (by decide))
                refine lv_iload_n hx hb dX12_compare_115 rfl (lv_at hl 2 rfl) ?_
                refine lv_bipush (v := 60) hx hb dX12_compare_116 (by decide) ?_
                refine lv_icmp_ne (tgt := 133) hx hb dX12_compare_118 (by decide) (fun _ => ?_) (fun c => absurd (show r49.toInt = (60 : Int) from wk_eq.mp c) (by omega))
                refine lv_iload_n hx hb dX12_compare_133 rfl (lv_at hl 2 rfl) ?_
                refine lv_bipush (v := 61) hx hb dX12_compare_134 (by decide) ?_
                refine lv_icmp_ne (tgt := 143) hx hb dX12_compare_136 (by decide) (fun _ => ?_) (fun c => absurd (show r49.toInt = (61 : Int) from wk_eq.mp c) (by omega))
                refine lv_iload_n hx hb dX12_compare_143 rfl (lv_at hl 0 rfl) ?_
                refine lv_if_eq (tgt := 151) hx hb dX12_compare_144 (by decide) (fun _ => ?_) (fun c => absurd (by decide) c)
                refine lv_iconst (v := 4) hx hb dX12_compare_151 (by decide) ?_
                refine lv_istore (lv' := [(4, .int 4), (3, .int 0), (2, .int x57), (1, .int r49), (0, .ref (ad 0))]) hx hb dX12_compare_152 hl (by decide) rfl (fun ls hl => ?_)
                refine lv_aload_n hx hb dX12_compare_154 rfl (lv_at hl 4 rfl) ?_
                refine tk_Vi hC hK hw hT hA hE hSR kM_at0 (by decide) rfl (k_X12_sum_3 l adK adV dC dI cy ad B (by omega) (by omega) qr s1    w503 H.size hT c513 x509 c510 (show 0 ≤ x509.toInt by omega) (show x509.toInt ≤ 60 by omega) x43 c515 (show 0 ≤ x43.toInt by omega) (show x43.toInt ≤ 400 by omega) (show 3 * x43.toInt ≤ 14 * x509.toInt + 60 by omega) (show x43.toInt ≤ 300 by omega)) (cwV 0 hC.2.2.2.2 gX12_compare_X12_sum rfl rfl rfl (by decide +kernel) ⟨Nat.le_of_ble_eq_true rfl, Nat.le_of_ble_eq_true rfl⟩) rfl hl.1 rfl (Nat.le_of_ble_eq_true rfl) dX12_compare_155 (fun r517 w519 H locs hp518 hw => ?_)
                obtain ⟨hT, k520, hg549⟩ := hp518
                have hF := hF.tr k520 (by decide)
                have c550 := k520.gi kM_at0 (by decide) c513
                have c551 := k520.gi kM_at0 (by decide) c514
                rcases hg549 with ⟨rfl, ⟨x521, c522, rx521, tx521⟩, ⟨x523, c524, rx523, tx523⟩, ⟨x525, c526, rx525, tx525⟩⟩ | ⟨rfl, ⟨x527, c528, rx527, tx527⟩, ⟨x529, c530, rx529, tx529⟩, ⟨x531, c532, rx531, tx531⟩⟩ | ⟨rfl, ⟨x533, c534, rx533, tx533⟩, ⟨x535, c536, rx535, tx535⟩, ⟨x537, c538, rx537, tx537⟩, g539, g540⟩ | ⟨rfl, ⟨x541, c542, rx541, tx541⟩, ⟨x543, c544, rx543, tx543⟩, ⟨x545, c546, rx545, tx545⟩, g547, g548⟩
                · have ex521 : x521.toInt = x17.toInt := by rw [← c551.symm.trans c522]
                  have ex525 : x525.toInt = (2 : Int) := by rw [show x525 = 2 from c526.symm.trans c550]; decide
                  obtain ⟨x552, c553, rx552, tx552⟩ := hT.rda (lo := 0) (hi := 400) (i := 2) kM_at3 rfl rfl (by decide)
                  obtain ⟨x554, c555, rx554, tx554⟩ := hT.rdi (lo := 0) (hi := 60) (k := 18) kM_at0 (by decide) rfl
                  refine lv_if_ne (tgt := 163) hx hb dX12_compare_158 (by decide) (fun c => absurd (by decide) c) (fun _ => ?_)
                  refine lv_iconst (v := 0) hx hb dX12_compare_161 (by decide) ?_
                  exact tk_zret hC hr rfl hlocks hK ⟨hT, hF, (Or.inl ⟨rfl, ⟨x17, c551, (show 1 ≤ x17.toInt by omega), (show x17.toInt ≤ 400 by omega)⟩, ⟨x523, c524, (show 1 ≤ x523.toInt by omega), (show x523.toInt ≤ 3205 by omega)⟩, ⟨2, c550, (by decide), (by decide)⟩⟩)⟩ hw dX12_compare_162
                · have ex527 : x527.toInt = x17.toInt := by rw [← c551.symm.trans c528]
                  have ex531 : x531.toInt = (2 : Int) := by rw [show x531 = 2 from c532.symm.trans c550]; decide
                  obtain ⟨x556, c557, rx556, tx556⟩ := hT.rda (lo := 0) (hi := 400) (i := 2) kM_at3 rfl rfl (by decide)
                  obtain ⟨x558, c559, rx558, tx558⟩ := hT.rdi (lo := 0) (hi := 60) (k := 18) kM_at0 (by decide) rfl
                  refine lv_if_ne (tgt := 163) hx hb dX12_compare_158 (by decide) (fun c => absurd (by decide) c) (fun _ => ?_)
                  refine lv_iconst (v := 0) hx hb dX12_compare_161 (by decide) ?_
                  exact tk_zret hC hr rfl hlocks hK ⟨hT, hF, (Or.inl ⟨rfl, ⟨x17, c551, (show 1 ≤ x17.toInt by omega), (show x17.toInt ≤ 400 by omega)⟩, ⟨x529, c530, (show 1 ≤ x529.toInt by omega), (show x529.toInt ≤ 3205 by omega)⟩, ⟨2, c550, (by decide), (by decide)⟩⟩)⟩ hw dX12_compare_162
                · have ex533 : x533.toInt = x17.toInt := by rw [← c551.symm.trans c534]
                  have ex535 : x535.toInt = (2 : Int) := by rw [show x535 = 2 from c536.symm.trans c550]; decide
                  obtain ⟨x560, c561, rx560, tx560⟩ := hT.rda (lo := 0) (hi := 400) (i := 2) kM_at3 rfl rfl (by decide)
                  have g539 : 3 * x560.toInt + 11 ≤ 3 * x43.toInt + 14 * (x537.toInt - x509.toInt) := by have q := g539; simp only [c515, c561, c510, c538] at q; omega
                  have g540 : x509.toInt + 1 ≤ x537.toInt := by have q := g540; simp only [c510, c538] at q; omega
                  refine lv_if_ne (tgt := 163) hx hb dX12_compare_158 (by decide) (fun _ => ?_) (fun c => absurd c (by decide))
                  refine lv_aload_n hx hb dX12_compare_163 rfl (lv_at hl 4 rfl) ?_
                  refine lv_bipush (v := 6) hx hb dX12_compare_164 (by decide) ?_
                  refine lv_iload hx hb dX12_compare_166 (lv_at hl 0 rfl) ?_
                  refine lv_iadd hx hb dX12_compare_168 ?_
                  refine wk_top 10 (by decide) ?_
                  refine lv_iconst (v := 0) hx hb dX12_compare_169 (by decide) ?_
                  refine tk_Vv hC hK hw hT hA hE hSR kM_at0 (by decide) rfl (k_X12_puts_3 l adK adV dC dI cy ad B (by omega) (by omega) qr s1   10 (by decide) (by decide) 0 w519 H.size hT c550 x560 c561 (show 0 ≤ x560.toInt by omega) (show x560.toInt ≤ 400 by omega) (show x560.toInt ≤ 399 by omega)) (cwV 2 hC.2.2.2.2 gX12_compare_X12_puts rfl rfl rfl (by decide +kernel) ⟨Nat.le_of_ble_eq_true rfl, Nat.le_of_ble_eq_true rfl⟩) rfl hl.1 rfl (Nat.le_of_ble_eq_true rfl) dX12_compare_170 (fun w566 H locs hp565 hw => ?_)
                  obtain ⟨hT, k567, hg571⟩ := hp565
                  have hF := hF.tr k567 (by decide)
                  have c572 := k567.gi kM_at0 (by decide) c550
                  have c573 := k567.gi kM_at0 (by decide) c551
                  have c574 := k567.gi kM_at0 (by decide) c538
                  obtain ⟨⟨x568, c569, rx568, tx568⟩, g570⟩ := hg571
                  have ex568 : x568.toInt = (2 : Int) := by rw [show x568 = 2 from c569.symm.trans c572]; decide
                  obtain ⟨x575, c576, rx575, tx575⟩ := hT.rda (lo := 0) (hi := 400) (i := 2) kM_at3 rfl rfl (by decide)
                  have g570 : x575.toInt = x560.toInt + 1 := by have q := g570; simp only [c561, c576] at q; omega
                  refine lv_iconst (v := 1) hx hb dX12_compare_173 (by decide) ?_
                  exact tk_zret hC hr rfl hlocks hK ⟨hT, hF, (Or.inr (Or.inr ⟨rfl, ⟨x17, c573, (show 1 ≤ x17.toInt by omega), (show x17.toInt ≤ 400 by omega)⟩, ⟨2, c572, (by decide), (by decide)⟩, ⟨x537, c574, (show 1 ≤ x537.toInt by omega), (show x537.toInt ≤ 60 by omega)⟩, (by simp only [cf2_, c576, cf1_, c574]; omega), (by simp only [cf1_, c574]; omega)⟩))⟩ hw dX12_compare_174
                · have ex541 : x541.toInt = x17.toInt := by rw [← c551.symm.trans c542]
                  have ex543 : x543.toInt = (2 : Int) := by rw [show x543 = 2 from c544.symm.trans c550]; decide
                  obtain ⟨x562, c563, rx562, tx562⟩ := hT.rda (lo := 0) (hi := 400) (i := 2) kM_at3 rfl rfl (by decide)
                  have g547 : 3 * x562.toInt + 11 ≤ 3 * x43.toInt + 14 * (x545.toInt - x509.toInt) := by have q := g547; simp only [c515, c563, c510, c546] at q; omega
                  have g548 : x509.toInt + 1 ≤ x545.toInt := by have q := g548; simp only [c510, c546] at q; omega
                  refine lv_if_ne (tgt := 163) hx hb dX12_compare_158 (by decide) (fun _ => ?_) (fun c => absurd c (by decide))
                  refine lv_aload_n hx hb dX12_compare_163 rfl (lv_at hl 4 rfl) ?_
                  refine lv_bipush (v := 6) hx hb dX12_compare_164 (by decide) ?_
                  refine lv_iload hx hb dX12_compare_166 (lv_at hl 0 rfl) ?_
                  refine lv_iadd hx hb dX12_compare_168 ?_
                  refine wk_top 10 (by decide) ?_
                  refine lv_iconst (v := 0) hx hb dX12_compare_169 (by decide) ?_
                  refine tk_Vv hC hK hw hT hA hE hSR kM_at0 (by decide) rfl (k_X12_puts_3 l adK adV dC dI cy ad B (by omega) (by omega) qr s1   10 (by decide) (by decide) 0 w519 H.size hT c550 x562 c563 (show 0 ≤ x562.toInt by omega) (show x562.toInt ≤ 400 by omega) (show x562.toInt ≤ 399 by omega)) (cwV 2 hC.2.2.2.2 gX12_compare_X12_puts rfl rfl rfl (by decide +kernel) ⟨Nat.le_of_ble_eq_true rfl, Nat.le_of_ble_eq_true rfl⟩) rfl hl.1 rfl (Nat.le_of_ble_eq_true rfl) dX12_compare_170 (fun w579 H locs hp578 hw => ?_)
                  obtain ⟨hT, k580, hg584⟩ := hp578
                  have hF := hF.tr k580 (by decide)
                  have c585 := k580.gi kM_at0 (by decide) c550
                  have c586 := k580.gi kM_at0 (by decide) c551
                  have c587 := k580.gi kM_at0 (by decide) c546
                  obtain ⟨⟨x581, c582, rx581, tx581⟩, g583⟩ := hg584
                  have ex581 : x581.toInt = (2 : Int) := by rw [show x581 = 2 from c582.symm.trans c585]; decide
                  obtain ⟨x588, c589, rx588, tx588⟩ := hT.rda (lo := 0) (hi := 400) (i := 2) kM_at3 rfl rfl (by decide)
                  have g583 : x588.toInt = x562.toInt + 1 := by have q := g583; simp only [c563, c589] at q; omega
                  refine lv_iconst (v := 1) hx hb dX12_compare_173 (by decide) ?_
                  exact tk_zret hC hr rfl hlocks hK ⟨hT, hF, (Or.inr (Or.inr ⟨rfl, ⟨x17, c586, (show 1 ≤ x17.toInt by omega), (show x17.toInt ≤ 400 by omega)⟩, ⟨2, c585, (by decide), (by decide)⟩, ⟨x545, c587, (show 1 ≤ x545.toInt by omega), (show x545.toInt ≤ 60 by omega)⟩, (by simp only [cf2_, c589, cf1_, c587]; omega), (by simp only [cf1_, c587]; omega)⟩))⟩ hw dX12_compare_174
            · have c500 : x488.toInt < x17.toInt := wk_leF c500
              refine lv_aload_n hx hb dX12_compare_71 rfl (lv_at hl 2 rfl) ?_
              refine tk_getA hC hK hw hT hinX12 kM_at0 (by decide) rfl 0 (by decide) (List.mem_of_getElem? (i := 3) rfl) rfl rfl dX12_compare_72 ?_
              refine lv_aload_n hx hb dX12_compare_75 rfl (lv_at hl 2 rfl) ?_
              refine tk_geti hC hK hw hT hinX12 kM_at0 (by decide) rfl 14 (by decide) (List.mem_of_getElem? (i := 1) rfl) rfl rfl dX12_compare_76 (fun x590 c591 rx590 tx590 => ?_)
              refine wk_top x488 (c591.symm.trans c490) ?_
              refine tk_bald hC hK hw hT kM_at1 rfl rfl (show 0 ≤ x488.toInt by omega) (show x488.toInt < 400 by omega) dX12_compare_79 (fun x592 c593 rx592 tx592 => ?_)
              have c593 : gi w489 1 (1 * x57.toInt + 1).toNat = x592 := (congrArg (gi w489 1) (congrArg Int.toNat (show 1 * x57.toInt + 1 = x488.toInt by omega))).trans c593
              refine lv_bipush (v := 61) hx hb dX12_compare_80 (by decide) ?_
              refine lv_icmp_ne (tgt := 89) hx hb dX12_compare_82 (by decide) (fun c594 => ?_) (fun c594 => ?_)
              · have c594 : ¬ x592.toInt = (61 : Int) := wk_eqF c594
                refine lv_iconst (v := 0) hx hb dX12_compare_89 (by decide) ?_
                refine lv_istore_n (lv' := [(3, .int 0), (2, .int x57), (1, .int r49), (0, .ref (ad 0))]) hx hb dX12_compare_90 rfl hl (by decide) rfl (fun ls hl => ?_)
                refine lv_iload_n hx hb dX12_compare_91 rfl (lv_at hl 0 rfl) ?_
                refine lv_if_eq (tgt := 105) hx hb dX12_compare_92 (by decide) (fun _ => ?_) (fun c => absurd (by decide) c)
                refine lv_aload_n hx hb dX12_compare_105 rfl (lv_at hl 3 rfl) ?_
                refine lv_iload_n hx hb dX12_compare_106 rfl (lv_at hl 1 rfl) ?_
                refine tk_Vi hC hK hw hT hA hE hSR kM_at0 (by decide) rfl (k_X12_makes_1 l adK adV dC dI cy ad B (by omega) (by omega) qr s1   x57 (show 0 ≤ x57.toInt by omega) (show x57.toInt ≤ 398 by omega) w489 H.size hT x21 c494 (show 0 ≤ x21.toInt by omega) (show x21.toInt ≤ 60 by omega)) (cwV 1 hC.2.2.2.2 gX12_compare_X12_makes rfl rfl rfl (by decide +kernel) ⟨Nat.le_of_ble_eq_true rfl, Nat.le_of_ble_eq_true rfl⟩) rfl hl.1 rfl (Nat.le_of_ble_eq_true rfl) dX12_compare_107 (fun r595 w597 H locs hp596 hw => ?_)
                obtain ⟨hT, k598, hg606⟩ := hp596
                have hF := hF.tr k598 (by decide)
                have c607 := k598.gi kM_at0 (by decide) c492
                have c608 := k598.gi kM_at0 (by decide) c493
                have c609 := k598.gi kM_at3 (by decide) c495
                have c610 := k598.gi kM_at0 (by decide) c490
                have c611 := k598.gi kM_at1 rfl c593
                rcases hg606 with ⟨rfl, ⟨x599, c600, rx599, tx599⟩, ⟨x601, c602, rx601, tx601⟩⟩ | ⟨rfl, ⟨x603, c604, rx603, tx603⟩, g605⟩
                · refine lv_if_ne (tgt := 115) hx hb dX12_compare_110 (by decide) (fun c => absurd (by decide) c) (fun _ => ?_)
                  refine lv_iconst (v := 0) hx hb dX12_compare_113 (by decide) ?_
                  exact tk_zret hC hr rfl hlocks hK ⟨hT, hF, (Or.inl ⟨rfl, ⟨x17, c608, (show 1 ≤ x17.toInt by omega), (show x17.toInt ≤ 400 by omega)⟩, ⟨x599, c600, (show 1 ≤ x599.toInt by omega), (show x599.toInt ≤ 3205 by omega)⟩, ⟨2, c607, (by decide), (by decide)⟩⟩)⟩ hw dX12_compare_114
                · have g605 : x603.toInt = x21.toInt + 1 := by have q := g605; simp only [c494, c604] at q; omega
                  refine lv_if_ne (tgt := 115) hx hb dX12_compare_110 (by decide) (fun _ => ?_) (fun c => absurd c (by decide))
                  refine lv_iload_n hx hb dX12_compare_115 rfl (lv_at hl 2 rfl) ?_
                  refine lv_bipush (v := 60) hx hb dX12_compare_116 (by decide) ?_
                  refine lv_icmp_ne (tgt := 133) hx hb dX12_compare_118 (by decide) (fun _ => ?_) (fun c => absurd (show r49.toInt = (60 : Int) from wk_eq.mp c) (by omega))
                  refine lv_iload_n hx hb dX12_compare_133 rfl (lv_at hl 2 rfl) ?_
                  refine lv_bipush (v := 61) hx hb dX12_compare_134 (by decide) ?_
                  refine lv_icmp_ne (tgt := 143) hx hb dX12_compare_136 (by decide) (fun _ => ?_) (fun c => absurd (show r49.toInt = (61 : Int) from wk_eq.mp c) (by omega))
                  refine lv_iload_n hx hb dX12_compare_143 rfl (lv_at hl 0 rfl) ?_
                  refine lv_if_eq (tgt := 151) hx hb dX12_compare_144 (by decide) (fun _ => ?_) (fun c => absurd (by decide) c)
                  refine lv_iconst (v := 4) hx hb dX12_compare_151 (by decide) ?_
                  refine lv_istore (lv' := [(4, .int 4), (3, .int 0), (2, .int x57), (1, .int r49), (0, .ref (ad 0))]) hx hb dX12_compare_152 hl (by decide) rfl (fun ls hl => ?_)
                  refine lv_aload_n hx hb dX12_compare_154 rfl (lv_at hl 4 rfl) ?_
                  refine tk_Vi hC hK hw hT hA hE hSR kM_at0 (by decide) rfl (k_X12_sum_3 l adK adV dC dI cy ad B (by omega) (by omega) qr s1    w597 H.size hT c607 x603 c604 (show 0 ≤ x603.toInt by omega) (show x603.toInt ≤ 60 by omega) x43 c609 (show 0 ≤ x43.toInt by omega) (show x43.toInt ≤ 400 by omega) (show 3 * x43.toInt ≤ 14 * x603.toInt + 60 by omega) (show x43.toInt ≤ 300 by omega)) (cwV 0 hC.2.2.2.2 gX12_compare_X12_sum rfl rfl rfl (by decide +kernel) ⟨Nat.le_of_ble_eq_true rfl, Nat.le_of_ble_eq_true rfl⟩) rfl hl.1 rfl (Nat.le_of_ble_eq_true rfl) dX12_compare_155 (fun r612 w614 H locs hp613 hw => ?_)
                  obtain ⟨hT, k615, hg644⟩ := hp613
                  have hF := hF.tr k615 (by decide)
                  have c645 := k615.gi kM_at0 (by decide) c607
                  have c646 := k615.gi kM_at0 (by decide) c608
                  have c647 := k615.gi kM_at1 rfl c611
                  rcases hg644 with ⟨rfl, ⟨x616, c617, rx616, tx616⟩, ⟨x618, c619, rx618, tx618⟩, ⟨x620, c621, rx620, tx620⟩⟩ | ⟨rfl, ⟨x622, c623, rx622, tx622⟩, ⟨x624, c625, rx624, tx624⟩, ⟨x626, c627, rx626, tx626⟩⟩ | ⟨rfl, ⟨x628, c629, rx628, tx628⟩, ⟨x630, c631, rx630, tx630⟩, ⟨x632, c633, rx632, tx632⟩, g634, g635⟩ | ⟨rfl, ⟨x636, c637, rx636, tx636⟩, ⟨x638, c639, rx638, tx638⟩, ⟨x640, c641, rx640, tx640⟩, g642, g643⟩
                  · have ex616 : x616.toInt = x17.toInt := by rw [← c646.symm.trans c617]
                    have ex620 : x620.toInt = (2 : Int) := by rw [show x620 = 2 from c621.symm.trans c645]; decide
                    obtain ⟨x648, c649, rx648, tx648⟩ := hT.rda (lo := 0) (hi := 400) (i := 2) kM_at3 rfl rfl (by decide)
                    obtain ⟨x650, c651, rx650, tx650⟩ := hT.rdi (lo := 0) (hi := 60) (k := 18) kM_at0 (by decide) rfl
                    refine lv_if_ne (tgt := 163) hx hb dX12_compare_158 (by decide) (fun c => absurd (by decide) c) (fun _ => ?_)
                    refine lv_iconst (v := 0) hx hb dX12_compare_161 (by decide) ?_
                    exact tk_zret hC hr rfl hlocks hK ⟨hT, hF, (Or.inl ⟨rfl, ⟨x17, c646, (show 1 ≤ x17.toInt by omega), (show x17.toInt ≤ 400 by omega)⟩, ⟨x618, c619, (show 1 ≤ x618.toInt by omega), (show x618.toInt ≤ 3205 by omega)⟩, ⟨2, c645, (by decide), (by decide)⟩⟩)⟩ hw dX12_compare_162
                  · have ex622 : x622.toInt = x17.toInt := by rw [← c646.symm.trans c623]
                    have ex626 : x626.toInt = (2 : Int) := by rw [show x626 = 2 from c627.symm.trans c645]; decide
                    obtain ⟨x652, c653, rx652, tx652⟩ := hT.rda (lo := 0) (hi := 400) (i := 2) kM_at3 rfl rfl (by decide)
                    obtain ⟨x654, c655, rx654, tx654⟩ := hT.rdi (lo := 0) (hi := 60) (k := 18) kM_at0 (by decide) rfl
                    refine lv_if_ne (tgt := 163) hx hb dX12_compare_158 (by decide) (fun c => absurd (by decide) c) (fun _ => ?_)
                    refine lv_iconst (v := 0) hx hb dX12_compare_161 (by decide) ?_
                    exact tk_zret hC hr rfl hlocks hK ⟨hT, hF, (Or.inl ⟨rfl, ⟨x17, c646, (show 1 ≤ x17.toInt by omega), (show x17.toInt ≤ 400 by omega)⟩, ⟨x624, c625, (show 1 ≤ x624.toInt by omega), (show x624.toInt ≤ 3205 by omega)⟩, ⟨2, c645, (by decide), (by decide)⟩⟩)⟩ hw dX12_compare_162
                  · have ex628 : x628.toInt = x17.toInt := by rw [← c646.symm.trans c629]
                    have ex630 : x630.toInt = (2 : Int) := by rw [show x630 = 2 from c631.symm.trans c645]; decide
                    obtain ⟨x656, c657, rx656, tx656⟩ := hT.rda (lo := 0) (hi := 400) (i := 2) kM_at3 rfl rfl (by decide)
                    have g634 : 3 * x656.toInt + 11 ≤ 3 * x43.toInt + 14 * (x632.toInt - x603.toInt) := by have q := g634; simp only [c609, c657, c604, c633] at q; omega
                    have g635 : x603.toInt + 1 ≤ x632.toInt := by have q := g635; simp only [c604, c633] at q; omega
                    refine lv_if_ne (tgt := 163) hx hb dX12_compare_158 (by decide) (fun _ => ?_) (fun c => absurd c (by decide))
                    refine lv_aload_n hx hb dX12_compare_163 rfl (lv_at hl 4 rfl) ?_
                    refine lv_bipush (v := 6) hx hb dX12_compare_164 (by decide) ?_
                    refine lv_iload hx hb dX12_compare_166 (lv_at hl 0 rfl) ?_
                    refine lv_iadd hx hb dX12_compare_168 ?_
                    refine wk_top 10 (by decide) ?_
                    refine lv_iconst (v := 0) hx hb dX12_compare_169 (by decide) ?_
                    refine tk_Vv hC hK hw hT hA hE hSR kM_at0 (by decide) rfl (k_X12_puts_3 l adK adV dC dI cy ad B (by omega) (by omega) qr s1   10 (by decide) (by decide) 0 w614 H.size hT c645 x656 c657 (show 0 ≤ x656.toInt by omega) (show x656.toInt ≤ 400 by omega) (show x656.toInt ≤ 399 by omega)) (cwV 2 hC.2.2.2.2 gX12_compare_X12_puts rfl rfl rfl (by decide +kernel) ⟨Nat.le_of_ble_eq_true rfl, Nat.le_of_ble_eq_true rfl⟩) rfl hl.1 rfl (Nat.le_of_ble_eq_true rfl) dX12_compare_170 (fun w662 H locs hp661 hw => ?_)
                    obtain ⟨hT, k663, hg667⟩ := hp661
                    have hF := hF.tr k663 (by decide)
                    have c668 := k663.gi kM_at0 (by decide) c645
                    have c669 := k663.gi kM_at0 (by decide) c646
                    have c670 := k663.gi kM_at1 rfl c647
                    have c671 := k663.gi kM_at0 (by decide) c633
                    obtain ⟨⟨x664, c665, rx664, tx664⟩, g666⟩ := hg667
                    have ex664 : x664.toInt = (2 : Int) := by rw [show x664 = 2 from c665.symm.trans c668]; decide
                    obtain ⟨x672, c673, rx672, tx672⟩ := hT.rda (lo := 0) (hi := 400) (i := 2) kM_at3 rfl rfl (by decide)
                    have g666 : x672.toInt = x656.toInt + 1 := by have q := g666; simp only [c657, c673] at q; omega
                    refine lv_iconst (v := 1) hx hb dX12_compare_173 (by decide) ?_
                    exact tk_zret hC hr rfl hlocks hK ⟨hT, hF, (Or.inr (Or.inr ⟨rfl, ⟨x17, c669, (show 1 ≤ x17.toInt by omega), (show x17.toInt ≤ 400 by omega)⟩, ⟨2, c668, (by decide), (by decide)⟩, ⟨x632, c671, (show 1 ≤ x632.toInt by omega), (show x632.toInt ≤ 60 by omega)⟩, (by simp only [cf2_, c673, cf1_, c671]; omega), (by simp only [cf1_, c671]; omega)⟩))⟩ hw dX12_compare_174
                  · have ex636 : x636.toInt = x17.toInt := by rw [← c646.symm.trans c637]
                    have ex638 : x638.toInt = (2 : Int) := by rw [show x638 = 2 from c639.symm.trans c645]; decide
                    obtain ⟨x658, c659, rx658, tx658⟩ := hT.rda (lo := 0) (hi := 400) (i := 2) kM_at3 rfl rfl (by decide)
                    have g642 : 3 * x658.toInt + 11 ≤ 3 * x43.toInt + 14 * (x640.toInt - x603.toInt) := by have q := g642; simp only [c609, c659, c604, c641] at q; omega
                    have g643 : x603.toInt + 1 ≤ x640.toInt := by have q := g643; simp only [c604, c641] at q; omega
                    refine lv_if_ne (tgt := 163) hx hb dX12_compare_158 (by decide) (fun _ => ?_) (fun c => absurd c (by decide))
                    refine lv_aload_n hx hb dX12_compare_163 rfl (lv_at hl 4 rfl) ?_
                    refine lv_bipush (v := 6) hx hb dX12_compare_164 (by decide) ?_
                    refine lv_iload hx hb dX12_compare_166 (lv_at hl 0 rfl) ?_
                    refine lv_iadd hx hb dX12_compare_168 ?_
                    refine wk_top 10 (by decide) ?_
                    refine lv_iconst (v := 0) hx hb dX12_compare_169 (by decide) ?_
                    refine tk_Vv hC hK hw hT hA hE hSR kM_at0 (by decide) rfl (k_X12_puts_3 l adK adV dC dI cy ad B (by omega) (by omega) qr s1   10 (by decide) (by decide) 0 w614 H.size hT c645 x658 c659 (show 0 ≤ x658.toInt by omega) (show x658.toInt ≤ 400 by omega) (show x658.toInt ≤ 399 by omega)) (cwV 2 hC.2.2.2.2 gX12_compare_X12_puts rfl rfl rfl (by decide +kernel) ⟨Nat.le_of_ble_eq_true rfl, Nat.le_of_ble_eq_true rfl⟩) rfl hl.1 rfl (Nat.le_of_ble_eq_true rfl) dX12_compare_170 (fun w676 H locs hp675 hw => ?_)
                    obtain ⟨hT, k677, hg681⟩ := hp675
                    have hF := hF.tr k677 (by decide)
                    have c682 := k677.gi kM_at0 (by decide) c645
                    have c683 := k677.gi kM_at0 (by decide) c646
                    have c684 := k677.gi kM_at1 rfl c647
                    have c685 := k677.gi kM_at0 (by decide) c641
                    obtain ⟨⟨x678, c679, rx678, tx678⟩, g680⟩ := hg681
                    have ex678 : x678.toInt = (2 : Int) := by rw [show x678 = 2 from c679.symm.trans c682]; decide
                    obtain ⟨x686, c687, rx686, tx686⟩ := hT.rda (lo := 0) (hi := 400) (i := 2) kM_at3 rfl rfl (by decide)
                    have g680 : x686.toInt = x658.toInt + 1 := by have q := g680; simp only [c659, c687] at q; omega
                    refine lv_iconst (v := 1) hx hb dX12_compare_173 (by decide) ?_
                    exact tk_zret hC hr rfl hlocks hK ⟨hT, hF, (Or.inr (Or.inr ⟨rfl, ⟨x17, c683, (show 1 ≤ x17.toInt by omega), (show x17.toInt ≤ 400 by omega)⟩, ⟨2, c682, (by decide), (by decide)⟩, ⟨x640, c685, (show 1 ≤ x640.toInt by omega), (show x640.toInt ≤ 60 by omega)⟩, (by simp only [cf2_, c687, cf1_, c685]; omega), (by simp only [cf1_, c685]; omega)⟩))⟩ hw dX12_compare_174
              · have c594 : x592.toInt = (61 : Int) := wk_eq.mp c594
                refine lv_iconst (v := 1) hx hb dX12_compare_85 (by decide) ?_
                refine lv_goto (tgt := 90) hx hb dX12_compare_86 (by decide) ?_
                refine lv_istore_n (lv' := [(3, .int 1), (2, .int x57), (1, .int r49), (0, .ref (ad 0))]) hx hb dX12_compare_90 rfl hl (by decide) rfl (fun ls hl => ?_)
                refine lv_iload_n hx hb dX12_compare_91 rfl (lv_at hl 0 rfl) ?_
                refine lv_if_eq (tgt := 105) hx hb dX12_compare_92 (by decide) (fun c => absurd c (by decide)) (fun _ => ?_)
                refine lv_aload_n hx hb dX12_compare_95 rfl (lv_at hl 3 rfl) ?_
                refine lv_dup hx hb dX12_compare_96 rfl ?_
                refine tk_geti hC hK hw hT hinX12 kM_at0 (by decide) rfl 14 (by decide) (List.mem_of_getElem? (i := 1) rfl) rfl rfl dX12_compare_97 (fun x688 c689 rx688 tx688 => ?_)
                refine wk_top x488 (c689.symm.trans c490) ?_
                refine lv_iconst (v := 1) hx hb dX12_compare_100 (by decide) ?_
                refine lv_iadd hx hb dX12_compare_101 ?_
                refine lv_topi (fun x690 ex690 => ?_)
                have ex690 : x690.toInt = x488.toInt + (1 : Int) := by rw [ex690]; exact wk_add (show (-2147483648) ≤ x488.toInt + (1 : Int) by omega) (show x488.toInt + (1 : Int) ≤ 2147483647 by omega)
                refine tk_puti hC hK hw hT hinX12 tyX12_ok nmX12 kM_at0 (by decide) rfl rfl 14 (by decide) (List.mem_of_getElem? (i := 1) rfl) rfl rfl rfl rfl (show 0 ≤ x690.toInt by omega) (show x690.toInt ≤ 400 by omega) dX12_compare_102 (fun H locs w691 hw hT k693 c692 => ?_)
                have hF := hF.put kM_at0 (k := 14) (by decide) k693
                have c694 := k693.gi (Or.inr (by decide)) c492
                have c695 := k693.gi (Or.inr (by decide)) c493
                have c696 := k693.gi (Or.inr (by decide)) c494
                have c697 := k693.gi (Or.inr (by decide)) c495
                have c698 := k693.gi (Or.inl (tk_ne kM_at1 kM_at0 (by decide))) c593
                refine lv_aload_n hx hb dX12_compare_105 rfl (lv_at hl 3 rfl) ?_
                refine lv_iload_n hx hb dX12_compare_106 rfl (lv_at hl 1 rfl) ?_
                refine tk_Vi hC hK hw hT hA hE hSR kM_at0 (by decide) rfl (k_X12_makes_1 l adK adV dC dI cy ad B (by omega) (by omega) qr s1   x57 (show 0 ≤ x57.toInt by omega) (show x57.toInt ≤ 398 by omega) w691 H.size hT x21 c696 (show 0 ≤ x21.toInt by omega) (show x21.toInt ≤ 60 by omega)) (cwV 1 hC.2.2.2.2 gX12_compare_X12_makes rfl rfl rfl (by decide +kernel) ⟨Nat.le_of_ble_eq_true rfl, Nat.le_of_ble_eq_true rfl⟩) rfl hl.1 rfl (Nat.le_of_ble_eq_true rfl) dX12_compare_107 (fun r699 w701 H locs hp700 hw => ?_)
                obtain ⟨hT, k702, hg710⟩ := hp700
                have hF := hF.tr k702 (by decide)
                have c711 := k702.gi kM_at0 (by decide) c694
                have c712 := k702.gi kM_at0 (by decide) c695
                have c713 := k702.gi kM_at3 (by decide) c697
                have c714 := k702.gi kM_at1 rfl c698
                have c715 := k702.gi kM_at0 (by decide) c692
                rcases hg710 with ⟨rfl, ⟨x703, c704, rx703, tx703⟩, ⟨x705, c706, rx705, tx705⟩⟩ | ⟨rfl, ⟨x707, c708, rx707, tx707⟩, g709⟩
                · refine lv_if_ne (tgt := 115) hx hb dX12_compare_110 (by decide) (fun c => absurd (by decide) c) (fun _ => ?_)
                  refine lv_iconst (v := 0) hx hb dX12_compare_113 (by decide) ?_
                  exact tk_zret hC hr rfl hlocks hK ⟨hT, hF, (Or.inl ⟨rfl, ⟨x17, c712, (show 1 ≤ x17.toInt by omega), (show x17.toInt ≤ 400 by omega)⟩, ⟨x703, c704, (show 1 ≤ x703.toInt by omega), (show x703.toInt ≤ 3205 by omega)⟩, ⟨2, c711, (by decide), (by decide)⟩⟩)⟩ hw dX12_compare_114
                · have g709 : x707.toInt = x21.toInt + 1 := by have q := g709; simp only [c696, c708] at q; omega
                  refine lv_if_ne (tgt := 115) hx hb dX12_compare_110 (by decide) (fun _ => ?_) (fun c => absurd c (by decide))
                  refine lv_iload_n hx hb dX12_compare_115 rfl (lv_at hl 2 rfl) ?_
                  refine lv_bipush (v := 60) hx hb dX12_compare_116 (by decide) ?_
                  refine lv_icmp_ne (tgt := 133) hx hb dX12_compare_118 (by decide) (fun _ => ?_) (fun c => absurd (show r49.toInt = (60 : Int) from wk_eq.mp c) (by omega))
                  refine lv_iload_n hx hb dX12_compare_133 rfl (lv_at hl 2 rfl) ?_
                  refine lv_bipush (v := 61) hx hb dX12_compare_134 (by decide) ?_
                  refine lv_icmp_ne (tgt := 143) hx hb dX12_compare_136 (by decide) (fun _ => ?_) (fun c => absurd (show r49.toInt = (61 : Int) from wk_eq.mp c) (by omega))
                  refine lv_iload_n hx hb dX12_compare_143 rfl (lv_at hl 0 rfl) ?_
                  refine lv_if_eq (tgt := 151) hx hb dX12_compare_144 (by decide) (fun c => absurd c (by decide)) (fun _ => ?_)
                  refine lv_iconst (v := 3) hx hb dX12_compare_147 (by decide) ?_
                  refine lv_goto (tgt := 152) hx hb dX12_compare_148 (by decide) ?_
                  refine lv_istore (lv' := [(4, .int 3), (3, .int 1), (2, .int x57), (1, .int r49), (0, .ref (ad 0))]) hx hb dX12_compare_152 hl (by decide) rfl (fun ls hl => ?_)
                  refine lv_aload_n hx hb dX12_compare_154 rfl (lv_at hl 4 rfl) ?_
                  refine tk_Vi hC hK hw hT hA hE hSR kM_at0 (by decide) rfl (k_X12_sum_3 l adK adV dC dI cy ad B (by omega) (by omega) qr s1    w701 H.size hT c711 x707 c708 (show 0 ≤ x707.toInt by omega) (show x707.toInt ≤ 60 by omega) x43 c713 (show 0 ≤ x43.toInt by omega) (show x43.toInt ≤ 400 by omega) (show 3 * x43.toInt ≤ 14 * x707.toInt + 60 by omega) (show x43.toInt ≤ 300 by omega)) (cwV 0 hC.2.2.2.2 gX12_compare_X12_sum rfl rfl rfl (by decide +kernel) ⟨Nat.le_of_ble_eq_true rfl, Nat.le_of_ble_eq_true rfl⟩) rfl hl.1 rfl (Nat.le_of_ble_eq_true rfl) dX12_compare_155 (fun r716 w718 H locs hp717 hw => ?_)
                  obtain ⟨hT, k719, hg748⟩ := hp717
                  have hF := hF.tr k719 (by decide)
                  have c749 := k719.gi kM_at0 (by decide) c711
                  have c750 := k719.gi kM_at0 (by decide) c712
                  have c751 := k719.gi kM_at1 rfl c714
                  rcases hg748 with ⟨rfl, ⟨x720, c721, rx720, tx720⟩, ⟨x722, c723, rx722, tx722⟩, ⟨x724, c725, rx724, tx724⟩⟩ | ⟨rfl, ⟨x726, c727, rx726, tx726⟩, ⟨x728, c729, rx728, tx728⟩, ⟨x730, c731, rx730, tx730⟩⟩ | ⟨rfl, ⟨x732, c733, rx732, tx732⟩, ⟨x734, c735, rx734, tx734⟩, ⟨x736, c737, rx736, tx736⟩, g738, g739⟩ | ⟨rfl, ⟨x740, c741, rx740, tx740⟩, ⟨x742, c743, rx742, tx742⟩, ⟨x744, c745, rx744, tx744⟩, g746, g747⟩
                  · have ex720 : x720.toInt = x17.toInt := by rw [← c750.symm.trans c721]
                    have ex724 : x724.toInt = (2 : Int) := by rw [show x724 = 2 from c725.symm.trans c749]; decide
                    obtain ⟨x752, c753, rx752, tx752⟩ := hT.rda (lo := 0) (hi := 400) (i := 2) kM_at3 rfl rfl (by decide)
                    obtain ⟨x754, c755, rx754, tx754⟩ := hT.rdi (lo := 0) (hi := 60) (k := 18) kM_at0 (by decide) rfl
                    refine lv_if_ne (tgt := 163) hx hb dX12_compare_158 (by decide) (fun c => absurd (by decide) c) (fun _ => ?_)
                    refine lv_iconst (v := 0) hx hb dX12_compare_161 (by decide) ?_
                    exact tk_zret hC hr rfl hlocks hK ⟨hT, hF, (Or.inl ⟨rfl, ⟨x17, c750, (show 1 ≤ x17.toInt by omega), (show x17.toInt ≤ 400 by omega)⟩, ⟨x722, c723, (show 1 ≤ x722.toInt by omega), (show x722.toInt ≤ 3205 by omega)⟩, ⟨2, c749, (by decide), (by decide)⟩⟩)⟩ hw dX12_compare_162
                  · have ex726 : x726.toInt = x17.toInt := by rw [← c750.symm.trans c727]
                    have ex730 : x730.toInt = (2 : Int) := by rw [show x730 = 2 from c731.symm.trans c749]; decide
                    obtain ⟨x756, c757, rx756, tx756⟩ := hT.rda (lo := 0) (hi := 400) (i := 2) kM_at3 rfl rfl (by decide)
                    obtain ⟨x758, c759, rx758, tx758⟩ := hT.rdi (lo := 0) (hi := 60) (k := 18) kM_at0 (by decide) rfl
                    refine lv_if_ne (tgt := 163) hx hb dX12_compare_158 (by decide) (fun c => absurd (by decide) c) (fun _ => ?_)
                    refine lv_iconst (v := 0) hx hb dX12_compare_161 (by decide) ?_
                    exact tk_zret hC hr rfl hlocks hK ⟨hT, hF, (Or.inl ⟨rfl, ⟨x17, c750, (show 1 ≤ x17.toInt by omega), (show x17.toInt ≤ 400 by omega)⟩, ⟨x728, c729, (show 1 ≤ x728.toInt by omega), (show x728.toInt ≤ 3205 by omega)⟩, ⟨2, c749, (by decide), (by decide)⟩⟩)⟩ hw dX12_compare_162
                  · have ex732 : x732.toInt = x17.toInt := by rw [← c750.symm.trans c733]
                    have ex734 : x734.toInt = (2 : Int) := by rw [show x734 = 2 from c735.symm.trans c749]; decide
                    obtain ⟨x760, c761, rx760, tx760⟩ := hT.rda (lo := 0) (hi := 400) (i := 2) kM_at3 rfl rfl (by decide)
                    have g738 : 3 * x760.toInt + 11 ≤ 3 * x43.toInt + 14 * (x736.toInt - x707.toInt) := by have q := g738; simp only [c713, c761, c708, c737] at q; omega
                    have g739 : x707.toInt + 1 ≤ x736.toInt := by have q := g739; simp only [c708, c737] at q; omega
                    refine lv_if_ne (tgt := 163) hx hb dX12_compare_158 (by decide) (fun _ => ?_) (fun c => absurd c (by decide))
                    refine lv_aload_n hx hb dX12_compare_163 rfl (lv_at hl 4 rfl) ?_
                    refine lv_bipush (v := 6) hx hb dX12_compare_164 (by decide) ?_
                    refine lv_iload hx hb dX12_compare_166 (lv_at hl 0 rfl) ?_
                    refine lv_iadd hx hb dX12_compare_168 ?_
                    refine wk_top 9 (by decide) ?_
                    refine lv_iconst (v := 0) hx hb dX12_compare_169 (by decide) ?_
                    refine tk_Vv hC hK hw hT hA hE hSR kM_at0 (by decide) rfl (k_X12_puts_3 l adK adV dC dI cy ad B (by omega) (by omega) qr s1   9 (by decide) (by decide) 0 w718 H.size hT c749 x760 c761 (show 0 ≤ x760.toInt by omega) (show x760.toInt ≤ 400 by omega) (show x760.toInt ≤ 399 by omega)) (cwV 2 hC.2.2.2.2 gX12_compare_X12_puts rfl rfl rfl (by decide +kernel) ⟨Nat.le_of_ble_eq_true rfl, Nat.le_of_ble_eq_true rfl⟩) rfl hl.1 rfl (Nat.le_of_ble_eq_true rfl) dX12_compare_170 (fun w766 H locs hp765 hw => ?_)
                    obtain ⟨hT, k767, hg771⟩ := hp765
                    have hF := hF.tr k767 (by decide)
                    have c772 := k767.gi kM_at0 (by decide) c749
                    have c773 := k767.gi kM_at0 (by decide) c750
                    have c774 := k767.gi kM_at1 rfl c751
                    have c775 := k767.gi kM_at0 (by decide) c737
                    obtain ⟨⟨x768, c769, rx768, tx768⟩, g770⟩ := hg771
                    have ex768 : x768.toInt = (2 : Int) := by rw [show x768 = 2 from c769.symm.trans c772]; decide
                    obtain ⟨x776, c777, rx776, tx776⟩ := hT.rda (lo := 0) (hi := 400) (i := 2) kM_at3 rfl rfl (by decide)
                    have g770 : x776.toInt = x760.toInt + 1 := by have q := g770; simp only [c761, c777] at q; omega
                    refine lv_iconst (v := 1) hx hb dX12_compare_173 (by decide) ?_
                    exact tk_zret hC hr rfl hlocks hK ⟨hT, hF, (Or.inr (Or.inr ⟨rfl, ⟨x17, c773, (show 1 ≤ x17.toInt by omega), (show x17.toInt ≤ 400 by omega)⟩, ⟨2, c772, (by decide), (by decide)⟩, ⟨x736, c775, (show 1 ≤ x736.toInt by omega), (show x736.toInt ≤ 60 by omega)⟩, (by simp only [cf2_, c777, cf1_, c775]; omega), (by simp only [cf1_, c775]; omega)⟩))⟩ hw dX12_compare_174
                  · have ex740 : x740.toInt = x17.toInt := by rw [← c750.symm.trans c741]
                    have ex742 : x742.toInt = (2 : Int) := by rw [show x742 = 2 from c743.symm.trans c749]; decide
                    obtain ⟨x762, c763, rx762, tx762⟩ := hT.rda (lo := 0) (hi := 400) (i := 2) kM_at3 rfl rfl (by decide)
                    have g746 : 3 * x762.toInt + 11 ≤ 3 * x43.toInt + 14 * (x744.toInt - x707.toInt) := by have q := g746; simp only [c713, c763, c708, c745] at q; omega
                    have g747 : x707.toInt + 1 ≤ x744.toInt := by have q := g747; simp only [c708, c745] at q; omega
                    refine lv_if_ne (tgt := 163) hx hb dX12_compare_158 (by decide) (fun _ => ?_) (fun c => absurd c (by decide))
                    refine lv_aload_n hx hb dX12_compare_163 rfl (lv_at hl 4 rfl) ?_
                    refine lv_bipush (v := 6) hx hb dX12_compare_164 (by decide) ?_
                    refine lv_iload hx hb dX12_compare_166 (lv_at hl 0 rfl) ?_
                    refine lv_iadd hx hb dX12_compare_168 ?_
                    refine wk_top 9 (by decide) ?_
                    refine lv_iconst (v := 0) hx hb dX12_compare_169 (by decide) ?_
                    refine tk_Vv hC hK hw hT hA hE hSR kM_at0 (by decide) rfl (k_X12_puts_3 l adK adV dC dI cy ad B (by omega) (by omega) qr s1   9 (by decide) (by decide) 0 w718 H.size hT c749 x762 c763 (show 0 ≤ x762.toInt by omega) (show x762.toInt ≤ 400 by omega) (show x762.toInt ≤ 399 by omega)) (cwV 2 hC.2.2.2.2 gX12_compare_X12_puts rfl rfl rfl (by decide +kernel) ⟨Nat.le_of_ble_eq_true rfl, Nat.le_of_ble_eq_true rfl⟩) rfl hl.1 rfl (Nat.le_of_ble_eq_true rfl) dX12_compare_170 (fun w780 H locs hp779 hw => ?_)
                    obtain ⟨hT, k781, hg785⟩ := hp779
                    have hF := hF.tr k781 (by decide)
                    have c786 := k781.gi kM_at0 (by decide) c749
                    have c787 := k781.gi kM_at0 (by decide) c750
                    have c788 := k781.gi kM_at1 rfl c751
                    have c789 := k781.gi kM_at0 (by decide) c745
                    obtain ⟨⟨x782, c783, rx782, tx782⟩, g784⟩ := hg785
                    have ex782 : x782.toInt = (2 : Int) := by rw [show x782 = 2 from c783.symm.trans c786]; decide
                    obtain ⟨x790, c791, rx790, tx790⟩ := hT.rda (lo := 0) (hi := 400) (i := 2) kM_at3 rfl rfl (by decide)
                    have g784 : x790.toInt = x762.toInt + 1 := by have q := g784; simp only [c763, c791] at q; omega
                    refine lv_iconst (v := 1) hx hb dX12_compare_173 (by decide) ?_
                    exact tk_zret hC hr rfl hlocks hK ⟨hT, hF, (Or.inr (Or.inr ⟨rfl, ⟨x17, c787, (show 1 ≤ x17.toInt by omega), (show x17.toInt ≤ 400 by omega)⟩, ⟨2, c786, (by decide), (by decide)⟩, ⟨x744, c789, (show 1 ≤ x744.toInt by omega), (show x744.toInt ≤ 60 by omega)⟩, (by simp only [cf2_, c791, cf1_, c789]; omega), (by simp only [cf1_, c789]; omega)⟩))⟩ hw dX12_compare_174
          · have c485 : ¬ r49.toInt = (62 : Int) := wk_eqF c485
            refine lv_aload_n hx hb dX12_compare_37 rfl (lv_at hl 2 rfl) ?_
            refine lv_iconst (v := 0) hx hb dX12_compare_38 (by decide) ?_
            refine lv_iload_n hx hb dX12_compare_39 rfl (lv_at hl 0 rfl) ?_
            refine tk_Vi hC hK hw hT hA hE hSR kM_at0 (by decide) rfl (k_X12_fails_1 l adK adV dC dI cy ad B (by omega) (by omega) qr s1   0 (by decide) (by decide) x57 (show 0 ≤ x57.toInt by omega) (show x57.toInt ≤ 400 by omega) w51 H.size hT ) (cwV 2 hC.2.2.2.2 gX12_compare_X12_fails rfl rfl rfl (by decide +kernel) ⟨Nat.le_of_ble_eq_true rfl, Nat.le_of_ble_eq_true rfl⟩) rfl hl.1 rfl (Nat.le_of_ble_eq_true rfl) dX12_compare_40 (fun r792 w794 H locs hp793 hw => ?_)
            obtain ⟨hT, k795, hg798⟩ := hp793
            have hF := hF.tr k795 (by decide)
            have c799 := k795.gi kM_at0 (by decide) c70
            have c800 := k795.gi kM_at0 (by decide) c71
            have c801 := k795.gi kM_at0 (by decide) c72
            have c802 := k795.gi kM_at3 (by decide) c73
            have c803 := k795.gi kM_at0 (by decide) c58
            obtain ⟨rfl, ⟨x796, c797, rx796, tx796⟩⟩ := hg798
            exact tk_zret hC hr rfl hlocks hK ⟨hT, hF, (Or.inl ⟨rfl, ⟨x17, c800, (show 1 ≤ x17.toInt by omega), (show x17.toInt ≤ 400 by omega)⟩, ⟨x796, c797, (show 1 ≤ x796.toInt by omega), (show x796.toInt ≤ 3205 by omega)⟩, ⟨2, c799, (by decide), (by decide)⟩⟩)⟩ hw dX12_compare_43
    · have ex61 : x61.toInt = x17.toInt := by rw [← c71.symm.trans c62]
      have g65 : (x63.toInt = x47.toInt ∨ (gi w3 1 (x47.toInt).toNat).toInt = 32) := by have q := g65; simp only [c48, c64] at q; omega
      refine lv_istore_n (lv' := [(1, .int (-1)), (0, .ref (ad 0))]) hx hb dX12_compare_13 rfl hl (by decide) rfl (fun ls hl => ?_)
      refine lv_aload_n hx hb dX12_compare_14 rfl (lv_at hl 1 rfl) ?_
      refine tk_geti hC hK hw hT hinX12 kM_at0 (by decide) rfl 14 (by decide) (List.mem_of_getElem? (i := 1) rfl) rfl rfl dX12_compare_15 (fun x804 c805 rx804 tx804 => ?_)
      refine wk_top x63 (c805.symm.trans c64) ?_
      refine lv_istore_n (lv' := [(2, .int x63), (1, .int (-1)), (0, .ref (ad 0))]) hx hb dX12_compare_18 rfl hl (by decide) rfl (fun ls hl => ?_)
      refine lv_iload_n hx hb dX12_compare_19 rfl (lv_at hl 1 rfl) ?_
      refine lv_bipush (v := 60) hx hb dX12_compare_20 (by decide) ?_
      refine lv_icmp_eq (tgt := 44) hx hb dX12_compare_22 (by decide) (fun c => absurd c (by decide)) (fun _ => ?_)
      refine lv_iload_n hx hb dX12_compare_25 rfl (lv_at hl 1 rfl) ?_
      refine lv_bipush (v := 61) hx hb dX12_compare_26 (by decide) ?_
      refine lv_icmp_eq (tgt := 44) hx hb dX12_compare_28 (by decide) (fun c => absurd c (by decide)) (fun _ => ?_)
      refine lv_iload_n hx hb dX12_compare_31 rfl (lv_at hl 1 rfl) ?_
      refine lv_bipush (v := 62) hx hb dX12_compare_32 (by decide) ?_
      refine lv_icmp_eq (tgt := 44) hx hb dX12_compare_34 (by decide) (fun c => absurd c (by decide)) (fun _ => ?_)
      refine lv_aload_n hx hb dX12_compare_37 rfl (lv_at hl 2 rfl) ?_
      refine lv_iconst (v := 0) hx hb dX12_compare_38 (by decide) ?_
      refine lv_iload_n hx hb dX12_compare_39 rfl (lv_at hl 0 rfl) ?_
      refine tk_Vi hC hK hw hT hA hE hSR kM_at0 (by decide) rfl (k_X12_fails_1 l adK adV dC dI cy ad B (by omega) (by omega) qr s1   0 (by decide) (by decide) x63 (show 0 ≤ x63.toInt by omega) (show x63.toInt ≤ 400 by omega) w51 H.size hT ) (cwV 2 hC.2.2.2.2 gX12_compare_X12_fails rfl rfl rfl (by decide +kernel) ⟨Nat.le_of_ble_eq_true rfl, Nat.le_of_ble_eq_true rfl⟩) rfl hl.1 rfl (Nat.le_of_ble_eq_true rfl) dX12_compare_40 (fun r806 w808 H locs hp807 hw => ?_)
      obtain ⟨hT, k809, hg812⟩ := hp807
      have hF := hF.tr k809 (by decide)
      have c813 := k809.gi kM_at0 (by decide) c70
      have c814 := k809.gi kM_at0 (by decide) c71
      have c815 := k809.gi kM_at0 (by decide) c72
      have c816 := k809.gi kM_at3 (by decide) c73
      have c817 := k809.gi kM_at0 (by decide) c64
      obtain ⟨rfl, ⟨x810, c811, rx810, tx810⟩⟩ := hg812
      exact tk_zret hC hr rfl hlocks hK ⟨hT, hF, (Or.inl ⟨rfl, ⟨x17, c814, (show 1 ≤ x17.toInt by omega), (show x17.toInt ≤ 400 by omega)⟩, ⟨x810, c811, (show 1 ≤ x810.toInt by omega), (show x810.toInt ≤ 3205 by omega)⟩, ⟨2, c813, (by decide), (by decide)⟩⟩)⟩ hw dX12_compare_43
    · have ex66 : x66.toInt = x17.toInt := by rw [← c71.symm.trans c67]
      obtain ⟨x74, c75, rx74, tx74⟩ := hT.rdi (lo := 0) (hi := 400) (k := 14) kM_at0 (by decide) rfl
      have g68 : (x74.toInt = x47.toInt ∨ (gi w3 1 (x47.toInt).toNat).toInt = 32) := by have q := g68; simp only [c48, c75] at q; omega
      refine lv_istore_n (lv' := [(1, .int (-1)), (0, .ref (ad 0))]) hx hb dX12_compare_13 rfl hl (by decide) rfl (fun ls hl => ?_)
      refine lv_aload_n hx hb dX12_compare_14 rfl (lv_at hl 1 rfl) ?_
      refine tk_geti hC hK hw hT hinX12 kM_at0 (by decide) rfl 14 (by decide) (List.mem_of_getElem? (i := 1) rfl) rfl rfl dX12_compare_15 (fun x818 c819 rx818 tx818 => ?_)
      refine wk_top x74 (c819.symm.trans c75) ?_
      refine lv_istore_n (lv' := [(2, .int x74), (1, .int (-1)), (0, .ref (ad 0))]) hx hb dX12_compare_18 rfl hl (by decide) rfl (fun ls hl => ?_)
      refine lv_iload_n hx hb dX12_compare_19 rfl (lv_at hl 1 rfl) ?_
      refine lv_bipush (v := 60) hx hb dX12_compare_20 (by decide) ?_
      refine lv_icmp_eq (tgt := 44) hx hb dX12_compare_22 (by decide) (fun c => absurd c (by decide)) (fun _ => ?_)
      refine lv_iload_n hx hb dX12_compare_25 rfl (lv_at hl 1 rfl) ?_
      refine lv_bipush (v := 61) hx hb dX12_compare_26 (by decide) ?_
      refine lv_icmp_eq (tgt := 44) hx hb dX12_compare_28 (by decide) (fun c => absurd c (by decide)) (fun _ => ?_)
      refine lv_iload_n hx hb dX12_compare_31 rfl (lv_at hl 1 rfl) ?_
      refine lv_bipush (v := 62) hx hb dX12_compare_32 (by decide) ?_
      refine lv_icmp_eq (tgt := 44) hx hb dX12_compare_34 (by decide) (fun c => absurd c (by decide)) (fun _ => ?_)
      refine lv_aload_n hx hb dX12_compare_37 rfl (lv_at hl 2 rfl) ?_
      refine lv_iconst (v := 0) hx hb dX12_compare_38 (by decide) ?_
      refine lv_iload_n hx hb dX12_compare_39 rfl (lv_at hl 0 rfl) ?_
      refine tk_Vi hC hK hw hT hA hE hSR kM_at0 (by decide) rfl (k_X12_fails_1 l adK adV dC dI cy ad B (by omega) (by omega) qr s1   0 (by decide) (by decide) x74 (show 0 ≤ x74.toInt by omega) (show x74.toInt ≤ 400 by omega) w51 H.size hT ) (cwV 2 hC.2.2.2.2 gX12_compare_X12_fails rfl rfl rfl (by decide +kernel) ⟨Nat.le_of_ble_eq_true rfl, Nat.le_of_ble_eq_true rfl⟩) rfl hl.1 rfl (Nat.le_of_ble_eq_true rfl) dX12_compare_40 (fun r820 w822 H locs hp821 hw => ?_)
      obtain ⟨hT, k823, hg826⟩ := hp821
      have hF := hF.tr k823 (by decide)
      have c827 := k823.gi kM_at0 (by decide) c70
      have c828 := k823.gi kM_at0 (by decide) c71
      have c829 := k823.gi kM_at0 (by decide) c72
      have c830 := k823.gi kM_at3 (by decide) c73
      have c831 := k823.gi kM_at0 (by decide) c75
      obtain ⟨rfl, ⟨x824, c825, rx824, tx824⟩⟩ := hg826
      exact tk_zret hC hr rfl hlocks hK ⟨hT, hF, (Or.inl ⟨rfl, ⟨x17, c828, (show 1 ≤ x17.toInt by omega), (show x17.toInt ≤ 400 by omega)⟩, ⟨x824, c825, (show 1 ≤ x824.toInt by omega), (show x824.toInt ≤ 3205 by omega)⟩, ⟨2, c827, (by decide), (by decide)⟩⟩)⟩ hw dX12_compare_43
  · have ex27 : x27.toInt = (2 : Int) := by rw [show x27 = 2 from c28.symm.trans c34]; decide
    obtain ⟨x45, c46, rx45, tx45⟩ := hT.rda (lo := 0) (hi := 400) (i := 2) kM_at3 rfl rfl (by decide)
    have g31 : 3 * x45.toInt + 11 ≤ 3 * f2_.toInt + 14 * (x29.toInt - f1_.toInt) := by have q := g31; simp only [cf2_, c46, cf1_, c30] at q; omega
    have g32 : f1_.toInt + 1 ≤ x29.toInt := by have q := g32; simp only [cf1_, c30] at q; omega
    refine lv_if_ne (tgt := 9) hx hb dX12_compare_4 (by decide) (fun _ => ?_) (fun c => absurd c (by decide))
    refine lv_aload_n hx hb dX12_compare_9 rfl (lv_at hl 0 rfl) ?_
    obtain ⟨x832, c833, rx832, tx832⟩ := hT.rdi (lo := 0) (hi := 400) (k := 14) kM_at0 (by decide) rfl
    refine tk_Vi hC hK hw hT hA hE hSR kM_at0 (by decide) rfl (k_X12_see_1 l adK adV dC dI cy ad B (by omega) (by omega) qr s1    w3 H.size hT x832 c833 (show 0 ≤ x832.toInt by omega) (show x832.toInt ≤ 400 by omega)) (cwV 0 hC.2.2.2.2 gX12_compare_X12_see rfl rfl rfl (by decide +kernel) ⟨Nat.le_of_ble_eq_true rfl, Nat.le_of_ble_eq_true rfl⟩) rfl hl.1 rfl (Nat.le_of_ble_eq_true rfl) dX12_compare_10 (fun r834 w836 H locs hp835 hw => ?_)
    obtain ⟨hT, k837, hg854⟩ := hp835
    have hF := hF.tr k837 (by decide)
    have c855 := k837.gi kM_at0 (by decide) c34
    have c856 := k837.gi kM_at0 (by decide) c26
    have c857 := k837.gi kM_at0 (by decide) c30
    have c858 := k837.gi kM_at3 (by decide) c46
    rcases hg854 with ⟨g838, g839, ⟨x840, c841, rx840, tx840⟩, ⟨x842, c843, rx842, tx842⟩, g844, g845⟩ | ⟨rfl, ⟨x846, c847, rx846, tx846⟩, ⟨x848, c849, rx848, tx848⟩, g850⟩ | ⟨rfl, ⟨x851, c852, rx851, tx851⟩, g853⟩
    · have ex840 : x840.toInt = x25.toInt := by rw [← c856.symm.trans c841]
      have g844 : (gi w836 1 (x842.toInt).toNat).toInt ≠ 32 := by have q := g844; simp only [c843] at q; omega
      have g845 : (x842.toInt = x832.toInt ∨ (gi w3 1 (x832.toInt).toNat).toInt = 32) := by have q := g845; simp only [c833, c843] at q; omega
      refine lv_istore_n (lv' := [(1, .int r834), (0, .ref (ad 0))]) hx hb dX12_compare_13 rfl hl (by decide) rfl (fun ls hl => ?_)
      refine lv_aload_n hx hb dX12_compare_14 rfl (lv_at hl 1 rfl) ?_
      refine tk_geti hC hK hw hT hinX12 kM_at0 (by decide) rfl 14 (by decide) (List.mem_of_getElem? (i := 1) rfl) rfl rfl dX12_compare_15 (fun x861 c862 rx861 tx861 => ?_)
      refine wk_top x842 (c862.symm.trans c843) ?_
      refine lv_istore_n (lv' := [(2, .int x842), (1, .int r834), (0, .ref (ad 0))]) hx hb dX12_compare_18 rfl hl (by decide) rfl (fun ls hl => ?_)
      refine lv_iload_n hx hb dX12_compare_19 rfl (lv_at hl 1 rfl) ?_
      refine lv_bipush (v := 60) hx hb dX12_compare_20 (by decide) ?_
      refine lv_icmp_eq (tgt := 44) hx hb dX12_compare_22 (by decide) (fun c863 => ?_) (fun c863 => ?_)
      · have c863 : r834.toInt = (60 : Int) := wk_eq.mp c863
        refine lv_aload_n hx hb dX12_compare_44 rfl (lv_at hl 2 rfl) ?_
        refine lv_dup hx hb dX12_compare_45 rfl ?_
        refine tk_geti hC hK hw hT hinX12 kM_at0 (by decide) rfl 14 (by decide) (List.mem_of_getElem? (i := 1) rfl) rfl rfl dX12_compare_46 (fun x864 c865 rx864 tx864 => ?_)
        refine wk_top x842 (c865.symm.trans c843) ?_
        refine lv_iconst (v := 1) hx hb dX12_compare_49 (by decide) ?_
        refine lv_iadd hx hb dX12_compare_50 ?_
        refine lv_topi (fun x866 ex866 => ?_)
        have ex866 : x866.toInt = x842.toInt + (1 : Int) := by rw [ex866]; exact wk_add (show (-2147483648) ≤ x842.toInt + (1 : Int) by omega) (show x842.toInt + (1 : Int) ≤ 2147483647 by omega)
        refine tk_puti hC hK hw hT hinX12 tyX12_ok nmX12 kM_at0 (by decide) rfl rfl 14 (by decide) (List.mem_of_getElem? (i := 1) rfl) rfl rfl rfl rfl (show 0 ≤ x866.toInt by omega) (show x866.toInt ≤ 400 by omega) dX12_compare_51 (fun H locs w867 hw hT k869 c868 => ?_)
        have hF := hF.put kM_at0 (k := 14) (by decide) k869
        have c870 := k869.gi (Or.inr (by decide)) c855
        have c871 := k869.gi (Or.inr (by decide)) c856
        have c872 := k869.gi (Or.inr (by decide)) c857
        have c873 := k869.gi (Or.inr (by decide)) c858
        refine lv_iload_n hx hb dX12_compare_54 rfl (lv_at hl 1 rfl) ?_
        refine lv_bipush (v := 61) hx hb dX12_compare_55 (by decide) ?_
        refine lv_icmp_eq (tgt := 89) hx hb dX12_compare_57 (by decide) (fun c => absurd c (fun h => absurd (show r834.toInt = (61 : Int) from wk_eq.mp h) (by omega))) (fun _ => ?_)
        refine lv_aload_n hx hb dX12_compare_60 rfl (lv_at hl 2 rfl) ?_
        refine tk_geti hC hK hw hT hinX12 kM_at0 (by decide) rfl 14 (by decide) (List.mem_of_getElem? (i := 1) rfl) rfl rfl dX12_compare_61 (fun x874 c875 rx874 tx874 => ?_)
        refine wk_top x866 (c875.symm.trans c868) ?_
        refine lv_aload_n hx hb dX12_compare_64 rfl (lv_at hl 2 rfl) ?_
        refine tk_geti hC hK hw hT hinX12 kM_at0 (by decide) rfl 1 (by decide) (List.mem_of_getElem? (i := 2) rfl) rfl rfl dX12_compare_65 (fun x876 c877 rx876 tx876 => ?_)
        refine wk_top x25 (c877.symm.trans c871) ?_
        refine lv_icmp_ge (tgt := 89) hx hb dX12_compare_68 (by decide) (fun c878 => ?_) (fun c878 => ?_)
        · have c878 : x25.toInt ≤ x866.toInt := wk_le.mp c878
          refine lv_iconst (v := 0) hx hb dX12_compare_89 (by decide) ?_
          refine lv_istore_n (lv' := [(3, .int 0), (2, .int x842), (1, .int r834), (0, .ref (ad 0))]) hx hb dX12_compare_90 rfl hl (by decide) rfl (fun ls hl => ?_)
          refine lv_iload_n hx hb dX12_compare_91 rfl (lv_at hl 0 rfl) ?_
          refine lv_if_eq (tgt := 105) hx hb dX12_compare_92 (by decide) (fun _ => ?_) (fun c => absurd (by decide) c)
          refine lv_aload_n hx hb dX12_compare_105 rfl (lv_at hl 3 rfl) ?_
          refine lv_iload_n hx hb dX12_compare_106 rfl (lv_at hl 1 rfl) ?_
          refine tk_Vi hC hK hw hT hA hE hSR kM_at0 (by decide) rfl (k_X12_makes_2 l adK adV dC dI cy ad B (by omega) (by omega) qr s1   x842 (show 0 ≤ x842.toInt by omega) (show x842.toInt ≤ 399 by omega) w867 H.size hT x29 c872 (show 0 ≤ x29.toInt by omega) (show x29.toInt ≤ 60 by omega)) (cwV 1 hC.2.2.2.2 gX12_compare_X12_makes rfl rfl rfl (by decide +kernel) ⟨Nat.le_of_ble_eq_true rfl, Nat.le_of_ble_eq_true rfl⟩) rfl hl.1 rfl (Nat.le_of_ble_eq_true rfl) dX12_compare_107 (fun r879 w881 H locs hp880 hw => ?_)
          obtain ⟨hT, k882, hg890⟩ := hp880
          have hF := hF.tr k882 (by decide)
          have c891 := k882.gi kM_at0 (by decide) c870
          have c892 := k882.gi kM_at0 (by decide) c871
          have c893 := k882.gi kM_at3 (by decide) c873
          have c894 := k882.gi kM_at0 (by decide) c868
          rcases hg890 with ⟨rfl, ⟨x883, c884, rx883, tx883⟩, ⟨x885, c886, rx885, tx885⟩⟩ | ⟨rfl, ⟨x887, c888, rx887, tx887⟩, g889⟩
          · refine lv_if_ne (tgt := 115) hx hb dX12_compare_110 (by decide) (fun c => absurd (by decide) c) (fun _ => ?_)
            refine lv_iconst (v := 0) hx hb dX12_compare_113 (by decide) ?_
            exact tk_zret hC hr rfl hlocks hK ⟨hT, hF, (Or.inl ⟨rfl, ⟨x25, c892, (show 1 ≤ x25.toInt by omega), (show x25.toInt ≤ 400 by omega)⟩, ⟨x883, c884, (show 1 ≤ x883.toInt by omega), (show x883.toInt ≤ 3205 by omega)⟩, ⟨2, c891, (by decide), (by decide)⟩⟩)⟩ hw dX12_compare_114
          · have g889 : x887.toInt = x29.toInt + 1 := by have q := g889; simp only [c872, c888] at q; omega
            refine lv_if_ne (tgt := 115) hx hb dX12_compare_110 (by decide) (fun _ => ?_) (fun c => absurd c (by decide))
            refine lv_iload_n hx hb dX12_compare_115 rfl (lv_at hl 2 rfl) ?_
            refine lv_bipush (v := 60) hx hb dX12_compare_116 (by decide) ?_
            refine lv_icmp_ne (tgt := 133) hx hb dX12_compare_118 (by decide) (fun c => (c (wk_eq.mpr (show r834.toInt = (60 : Int) by omega))).elim) (fun _ => ?_)
            refine lv_iload_n hx hb dX12_compare_121 rfl (lv_at hl 0 rfl) ?_
            refine lv_if_eq (tgt := 129) hx hb dX12_compare_122 (by decide) (fun _ => ?_) (fun c => absurd (by decide) c)
            refine lv_iconst (v := 0) hx hb dX12_compare_129 (by decide) ?_
            refine lv_goto (tgt := 152) hx hb dX12_compare_130 (by decide) ?_
            refine lv_istore (lv' := [(4, .int 0), (3, .int 0), (2, .int x842), (1, .int r834), (0, .ref (ad 0))]) hx hb dX12_compare_152 hl (by decide) rfl (fun ls hl => ?_)
            refine lv_aload_n hx hb dX12_compare_154 rfl (lv_at hl 4 rfl) ?_
            refine tk_Vi hC hK hw hT hA hE hSR kM_at0 (by decide) rfl (k_X12_sum_3 l adK adV dC dI cy ad B (by omega) (by omega) qr s1    w881 H.size hT c891 x887 c888 (show 0 ≤ x887.toInt by omega) (show x887.toInt ≤ 60 by omega) x45 c893 (show 0 ≤ x45.toInt by omega) (show x45.toInt ≤ 400 by omega) (show 3 * x45.toInt ≤ 14 * x887.toInt + 60 by omega) (show x45.toInt ≤ 300 by omega)) (cwV 0 hC.2.2.2.2 gX12_compare_X12_sum rfl rfl rfl (by decide +kernel) ⟨Nat.le_of_ble_eq_true rfl, Nat.le_of_ble_eq_true rfl⟩) rfl hl.1 rfl (Nat.le_of_ble_eq_true rfl) dX12_compare_155 (fun r895 w897 H locs hp896 hw => ?_)
            obtain ⟨hT, k898, hg927⟩ := hp896
            have hF := hF.tr k898 (by decide)
            have c928 := k898.gi kM_at0 (by decide) c891
            have c929 := k898.gi kM_at0 (by decide) c892
            rcases hg927 with ⟨rfl, ⟨x899, c900, rx899, tx899⟩, ⟨x901, c902, rx901, tx901⟩, ⟨x903, c904, rx903, tx903⟩⟩ | ⟨rfl, ⟨x905, c906, rx905, tx905⟩, ⟨x907, c908, rx907, tx907⟩, ⟨x909, c910, rx909, tx909⟩⟩ | ⟨rfl, ⟨x911, c912, rx911, tx911⟩, ⟨x913, c914, rx913, tx913⟩, ⟨x915, c916, rx915, tx915⟩, g917, g918⟩ | ⟨rfl, ⟨x919, c920, rx919, tx919⟩, ⟨x921, c922, rx921, tx921⟩, ⟨x923, c924, rx923, tx923⟩, g925, g926⟩
            · have ex899 : x899.toInt = x25.toInt := by rw [← c929.symm.trans c900]
              have ex903 : x903.toInt = (2 : Int) := by rw [show x903 = 2 from c904.symm.trans c928]; decide
              obtain ⟨x930, c931, rx930, tx930⟩ := hT.rda (lo := 0) (hi := 400) (i := 2) kM_at3 rfl rfl (by decide)
              obtain ⟨x932, c933, rx932, tx932⟩ := hT.rdi (lo := 0) (hi := 60) (k := 18) kM_at0 (by decide) rfl
              refine lv_if_ne (tgt := 163) hx hb dX12_compare_158 (by decide) (fun c => absurd (by decide) c) (fun _ => ?_)
              refine lv_iconst (v := 0) hx hb dX12_compare_161 (by decide) ?_
              exact tk_zret hC hr rfl hlocks hK ⟨hT, hF, (Or.inl ⟨rfl, ⟨x25, c929, (show 1 ≤ x25.toInt by omega), (show x25.toInt ≤ 400 by omega)⟩, ⟨x901, c902, (show 1 ≤ x901.toInt by omega), (show x901.toInt ≤ 3205 by omega)⟩, ⟨2, c928, (by decide), (by decide)⟩⟩)⟩ hw dX12_compare_162
            · have ex905 : x905.toInt = x25.toInt := by rw [← c929.symm.trans c906]
              have ex909 : x909.toInt = (2 : Int) := by rw [show x909 = 2 from c910.symm.trans c928]; decide
              obtain ⟨x934, c935, rx934, tx934⟩ := hT.rda (lo := 0) (hi := 400) (i := 2) kM_at3 rfl rfl (by decide)
              obtain ⟨x936, c937, rx936, tx936⟩ := hT.rdi (lo := 0) (hi := 60) (k := 18) kM_at0 (by decide) rfl
              refine lv_if_ne (tgt := 163) hx hb dX12_compare_158 (by decide) (fun c => absurd (by decide) c) (fun _ => ?_)
              refine lv_iconst (v := 0) hx hb dX12_compare_161 (by decide) ?_
              exact tk_zret hC hr rfl hlocks hK ⟨hT, hF, (Or.inl ⟨rfl, ⟨x25, c929, (show 1 ≤ x25.toInt by omega), (show x25.toInt ≤ 400 by omega)⟩, ⟨x907, c908, (show 1 ≤ x907.toInt by omega), (show x907.toInt ≤ 3205 by omega)⟩, ⟨2, c928, (by decide), (by decide)⟩⟩)⟩ hw dX12_compare_162
            · have ex911 : x911.toInt = x25.toInt := by rw [← c929.symm.trans c912]
              have ex913 : x913.toInt = (2 : Int) := by rw [show x913 = 2 from c914.symm.trans c928]; decide
              obtain ⟨x938, c939, rx938, tx938⟩ := hT.rda (lo := 0) (hi := 400) (i := 2) kM_at3 rfl rfl (by decide)
              have g917 : 3 * x938.toInt + 11 ≤ 3 * x45.toInt + 14 * (x915.toInt - x887.toInt) := by have q := g917; simp only [c893, c939, c888, c916] at q; omega
              have g918 : x887.toInt + 1 ≤ x915.toInt := by have q := g918; simp only [c888, c916] at q; omega
              refine lv_if_ne (tgt := 163) hx hb dX12_compare_158 (by decide) (fun _ => ?_) (fun c => absurd c (by decide))
              refine lv_aload_n hx hb dX12_compare_163 rfl (lv_at hl 4 rfl) ?_
              refine lv_bipush (v := 6) hx hb dX12_compare_164 (by decide) ?_
              refine lv_iload hx hb dX12_compare_166 (lv_at hl 0 rfl) ?_
              refine lv_iadd hx hb dX12_compare_168 ?_
              refine wk_top 6 (by decide) ?_
              refine lv_iconst (v := 0) hx hb dX12_compare_169 (by decide) ?_
              refine tk_Vv hC hK hw hT hA hE hSR kM_at0 (by decide) rfl (k_X12_puts_3 l adK adV dC dI cy ad B (by omega) (by omega) qr s1   6 (by decide) (by decide) 0 w897 H.size hT c928 x938 c939 (show 0 ≤ x938.toInt by omega) (show x938.toInt ≤ 400 by omega) (show x938.toInt ≤ 399 by omega)) (cwV 2 hC.2.2.2.2 gX12_compare_X12_puts rfl rfl rfl (by decide +kernel) ⟨Nat.le_of_ble_eq_true rfl, Nat.le_of_ble_eq_true rfl⟩) rfl hl.1 rfl (Nat.le_of_ble_eq_true rfl) dX12_compare_170 (fun w944 H locs hp943 hw => ?_)
              obtain ⟨hT, k945, hg949⟩ := hp943
              have hF := hF.tr k945 (by decide)
              have c950 := k945.gi kM_at0 (by decide) c928
              have c951 := k945.gi kM_at0 (by decide) c929
              have c952 := k945.gi kM_at0 (by decide) c916
              obtain ⟨⟨x946, c947, rx946, tx946⟩, g948⟩ := hg949
              have ex946 : x946.toInt = (2 : Int) := by rw [show x946 = 2 from c947.symm.trans c950]; decide
              obtain ⟨x953, c954, rx953, tx953⟩ := hT.rda (lo := 0) (hi := 400) (i := 2) kM_at3 rfl rfl (by decide)
              have g948 : x953.toInt = x938.toInt + 1 := by have q := g948; simp only [c939, c954] at q; omega
              refine lv_iconst (v := 1) hx hb dX12_compare_173 (by decide) ?_
              exact tk_zret hC hr rfl hlocks hK ⟨hT, hF, (Or.inr (Or.inr ⟨rfl, ⟨x25, c951, (show 1 ≤ x25.toInt by omega), (show x25.toInt ≤ 400 by omega)⟩, ⟨2, c950, (by decide), (by decide)⟩, ⟨x915, c952, (show 1 ≤ x915.toInt by omega), (show x915.toInt ≤ 60 by omega)⟩, (by simp only [cf2_, c954, cf1_, c952]; omega), (by simp only [cf1_, c952]; omega)⟩))⟩ hw dX12_compare_174
            · have ex919 : x919.toInt = x25.toInt := by rw [← c929.symm.trans c920]
              have ex921 : x921.toInt = (2 : Int) := by rw [show x921 = 2 from c922.symm.trans c928]; decide
              obtain ⟨x940, c941, rx940, tx940⟩ := hT.rda (lo := 0) (hi := 400) (i := 2) kM_at3 rfl rfl (by decide)
              have g925 : 3 * x940.toInt + 11 ≤ 3 * x45.toInt + 14 * (x923.toInt - x887.toInt) := by have q := g925; simp only [c893, c941, c888, c924] at q; omega
              have g926 : x887.toInt + 1 ≤ x923.toInt := by have q := g926; simp only [c888, c924] at q; omega
              refine lv_if_ne (tgt := 163) hx hb dX12_compare_158 (by decide) (fun _ => ?_) (fun c => absurd c (by decide))
              refine lv_aload_n hx hb dX12_compare_163 rfl (lv_at hl 4 rfl) ?_
              refine lv_bipush (v := 6) hx hb dX12_compare_164 (by decide) ?_
              refine lv_iload hx hb dX12_compare_166 (lv_at hl 0 rfl) ?_
              refine lv_iadd hx hb dX12_compare_168 ?_
              refine wk_top 6 (by decide) ?_
              refine lv_iconst (v := 0) hx hb dX12_compare_169 (by decide) ?_
              refine tk_Vv hC hK hw hT hA hE hSR kM_at0 (by decide) rfl (k_X12_puts_3 l adK adV dC dI cy ad B (by omega) (by omega) qr s1   6 (by decide) (by decide) 0 w897 H.size hT c928 x940 c941 (show 0 ≤ x940.toInt by omega) (show x940.toInt ≤ 400 by omega) (show x940.toInt ≤ 399 by omega)) (cwV 2 hC.2.2.2.2 gX12_compare_X12_puts rfl rfl rfl (by decide +kernel) ⟨Nat.le_of_ble_eq_true rfl, Nat.le_of_ble_eq_true rfl⟩) rfl hl.1 rfl (Nat.le_of_ble_eq_true rfl) dX12_compare_170 (fun w957 H locs hp956 hw => ?_)
              obtain ⟨hT, k958, hg962⟩ := hp956
              have hF := hF.tr k958 (by decide)
              have c963 := k958.gi kM_at0 (by decide) c928
              have c964 := k958.gi kM_at0 (by decide) c929
              have c965 := k958.gi kM_at0 (by decide) c924
              obtain ⟨⟨x959, c960, rx959, tx959⟩, g961⟩ := hg962
              have ex959 : x959.toInt = (2 : Int) := by rw [show x959 = 2 from c960.symm.trans c963]; decide
              obtain ⟨x966, c967, rx966, tx966⟩ := hT.rda (lo := 0) (hi := 400) (i := 2) kM_at3 rfl rfl (by decide)
              have g961 : x966.toInt = x940.toInt + 1 := by have q := g961; simp only [c941, c967] at q; omega
              refine lv_iconst (v := 1) hx hb dX12_compare_173 (by decide) ?_
              exact tk_zret hC hr rfl hlocks hK ⟨hT, hF, (Or.inr (Or.inr ⟨rfl, ⟨x25, c964, (show 1 ≤ x25.toInt by omega), (show x25.toInt ≤ 400 by omega)⟩, ⟨2, c963, (by decide), (by decide)⟩, ⟨x923, c965, (show 1 ≤ x923.toInt by omega), (show x923.toInt ≤ 60 by omega)⟩, (by simp only [cf2_, c967, cf1_, c965]; omega), (by simp only [cf1_, c965]; omega)⟩))⟩ hw dX12_compare_174
        · have c878 : x866.toInt < x25.toInt := wk_leF c878
          refine lv_aload_n hx hb dX12_compare_71 rfl (lv_at hl 2 rfl) ?_
          refine tk_getA hC hK hw hT hinX12 kM_at0 (by decide) rfl 0 (by decide) (List.mem_of_getElem? (i := 3) rfl) rfl rfl dX12_compare_72 ?_
          refine lv_aload_n hx hb dX12_compare_75 rfl (lv_at hl 2 rfl) ?_
          refine tk_geti hC hK hw hT hinX12 kM_at0 (by decide) rfl 14 (by decide) (List.mem_of_getElem? (i := 1) rfl) rfl rfl dX12_compare_76 (fun x968 c969 rx968 tx968 => ?_)
          refine wk_top x866 (c969.symm.trans c868) ?_
          refine tk_bald hC hK hw hT kM_at1 rfl rfl (show 0 ≤ x866.toInt by omega) (show x866.toInt < 400 by omega) dX12_compare_79 (fun x970 c971 rx970 tx970 => ?_)
          have c971 : gi w867 1 (1 * x842.toInt + 1).toNat = x970 := (congrArg (gi w867 1) (congrArg Int.toNat (show 1 * x842.toInt + 1 = x866.toInt by omega))).trans c971
          refine lv_bipush (v := 61) hx hb dX12_compare_80 (by decide) ?_
          refine lv_icmp_ne (tgt := 89) hx hb dX12_compare_82 (by decide) (fun c972 => ?_) (fun c972 => ?_)
          · have c972 : ¬ x970.toInt = (61 : Int) := wk_eqF c972
            refine lv_iconst (v := 0) hx hb dX12_compare_89 (by decide) ?_
            refine lv_istore_n (lv' := [(3, .int 0), (2, .int x842), (1, .int r834), (0, .ref (ad 0))]) hx hb dX12_compare_90 rfl hl (by decide) rfl (fun ls hl => ?_)
            refine lv_iload_n hx hb dX12_compare_91 rfl (lv_at hl 0 rfl) ?_
            refine lv_if_eq (tgt := 105) hx hb dX12_compare_92 (by decide) (fun _ => ?_) (fun c => absurd (by decide) c)
            refine lv_aload_n hx hb dX12_compare_105 rfl (lv_at hl 3 rfl) ?_
            refine lv_iload_n hx hb dX12_compare_106 rfl (lv_at hl 1 rfl) ?_
            refine tk_Vi hC hK hw hT hA hE hSR kM_at0 (by decide) rfl (k_X12_makes_1 l adK adV dC dI cy ad B (by omega) (by omega) qr s1   x842 (show 0 ≤ x842.toInt by omega) (show x842.toInt ≤ 398 by omega) w867 H.size hT x29 c872 (show 0 ≤ x29.toInt by omega) (show x29.toInt ≤ 60 by omega)) (cwV 1 hC.2.2.2.2 gX12_compare_X12_makes rfl rfl rfl (by decide +kernel) ⟨Nat.le_of_ble_eq_true rfl, Nat.le_of_ble_eq_true rfl⟩) rfl hl.1 rfl (Nat.le_of_ble_eq_true rfl) dX12_compare_107 (fun r973 w975 H locs hp974 hw => ?_)
            obtain ⟨hT, k976, hg984⟩ := hp974
            have hF := hF.tr k976 (by decide)
            have c985 := k976.gi kM_at0 (by decide) c870
            have c986 := k976.gi kM_at0 (by decide) c871
            have c987 := k976.gi kM_at3 (by decide) c873
            have c988 := k976.gi kM_at0 (by decide) c868
            have c989 := k976.gi kM_at1 rfl c971
            rcases hg984 with ⟨rfl, ⟨x977, c978, rx977, tx977⟩, ⟨x979, c980, rx979, tx979⟩⟩ | ⟨rfl, ⟨x981, c982, rx981, tx981⟩, g983⟩
            · refine lv_if_ne (tgt := 115) hx hb dX12_compare_110 (by decide) (fun c => absurd (by decide) c) (fun _ => ?_)
              refine lv_iconst (v := 0) hx hb dX12_compare_113 (by decide) ?_
              exact tk_zret hC hr rfl hlocks hK ⟨hT, hF, (Or.inl ⟨rfl, ⟨x25, c986, (show 1 ≤ x25.toInt by omega), (show x25.toInt ≤ 400 by omega)⟩, ⟨x977, c978, (show 1 ≤ x977.toInt by omega), (show x977.toInt ≤ 3205 by omega)⟩, ⟨2, c985, (by decide), (by decide)⟩⟩)⟩ hw dX12_compare_114
            · have g983 : x981.toInt = x29.toInt + 1 := by have q := g983; simp only [c872, c982] at q; omega
              refine lv_if_ne (tgt := 115) hx hb dX12_compare_110 (by decide) (fun _ => ?_) (fun c => absurd c (by decide))
              refine lv_iload_n hx hb dX12_compare_115 rfl (lv_at hl 2 rfl) ?_
              refine lv_bipush (v := 60) hx hb dX12_compare_116 (by decide) ?_
              refine lv_icmp_ne (tgt := 133) hx hb dX12_compare_118 (by decide) (fun c => (c (wk_eq.mpr (show r834.toInt = (60 : Int) by omega))).elim) (fun _ => ?_)
              refine lv_iload_n hx hb dX12_compare_121 rfl (lv_at hl 0 rfl) ?_
              refine lv_if_eq (tgt := 129) hx hb dX12_compare_122 (by decide) (fun _ => ?_) (fun c => absurd (by decide) c)
              refine lv_iconst (v := 0) hx hb dX12_compare_129 (by decide) ?_
              refine lv_goto (tgt := 152) hx hb dX12_compare_130 (by decide) ?_
              refine lv_istore (lv' := [(4, .int 0), (3, .int 0), (2, .int x842), (1, .int r834), (0, .ref (ad 0))]) hx hb dX12_compare_152 hl (by decide) rfl (fun ls hl => ?_)
              refine lv_aload_n hx hb dX12_compare_154 rfl (lv_at hl 4 rfl) ?_
              refine tk_Vi hC hK hw hT hA hE hSR kM_at0 (by decide) rfl (k_X12_sum_3 l adK adV dC dI cy ad B (by omega) (by omega) qr s1    w975 H.size hT c985 x981 c982 (show 0 ≤ x981.toInt by omega) (show x981.toInt ≤ 60 by omega) x45 c987 (show 0 ≤ x45.toInt by omega) (show x45.toInt ≤ 400 by omega) (show 3 * x45.toInt ≤ 14 * x981.toInt + 60 by omega) (show x45.toInt ≤ 300 by omega)) (cwV 0 hC.2.2.2.2 gX12_compare_X12_sum rfl rfl rfl (by decide +kernel) ⟨Nat.le_of_ble_eq_true rfl, Nat.le_of_ble_eq_true rfl⟩) rfl hl.1 rfl (Nat.le_of_ble_eq_true rfl) dX12_compare_155 (fun r990 w992 H locs hp991 hw => ?_)
              obtain ⟨hT, k993, hg1022⟩ := hp991
              have hF := hF.tr k993 (by decide)
              have c1023 := k993.gi kM_at0 (by decide) c985
              have c1024 := k993.gi kM_at0 (by decide) c986
              have c1025 := k993.gi kM_at1 rfl c989
              rcases hg1022 with ⟨rfl, ⟨x994, c995, rx994, tx994⟩, ⟨x996, c997, rx996, tx996⟩, ⟨x998, c999, rx998, tx998⟩⟩ | ⟨rfl, ⟨x1000, c1001, rx1000, tx1000⟩, ⟨x1002, c1003, rx1002, tx1002⟩, ⟨x1004, c1005, rx1004, tx1004⟩⟩ | ⟨rfl, ⟨x1006, c1007, rx1006, tx1006⟩, ⟨x1008, c1009, rx1008, tx1008⟩, ⟨x1010, c1011, rx1010, tx1010⟩, g1012, g1013⟩ | ⟨rfl, ⟨x1014, c1015, rx1014, tx1014⟩, ⟨x1016, c1017, rx1016, tx1016⟩, ⟨x1018, c1019, rx1018, tx1018⟩, g1020, g1021⟩
              · have ex994 : x994.toInt = x25.toInt := by rw [← c1024.symm.trans c995]
                have ex998 : x998.toInt = (2 : Int) := by rw [show x998 = 2 from c999.symm.trans c1023]; decide
                obtain ⟨x1026, c1027, rx1026, tx1026⟩ := hT.rda (lo := 0) (hi := 400) (i := 2) kM_at3 rfl rfl (by decide)
                obtain ⟨x1028, c1029, rx1028, tx1028⟩ := hT.rdi (lo := 0) (hi := 60) (k := 18) kM_at0 (by decide) rfl
                refine lv_if_ne (tgt := 163) hx hb dX12_compare_158 (by decide) (fun c => absurd (by decide) c) (fun _ => ?_)
                refine lv_iconst (v := 0) hx hb dX12_compare_161 (by decide) ?_
                exact tk_zret hC hr rfl hlocks hK ⟨hT, hF, (Or.inl ⟨rfl, ⟨x25, c1024, (show 1 ≤ x25.toInt by omega), (show x25.toInt ≤ 400 by omega)⟩, ⟨x996, c997, (show 1 ≤ x996.toInt by omega), (show x996.toInt ≤ 3205 by omega)⟩, ⟨2, c1023, (by decide), (by decide)⟩⟩)⟩ hw dX12_compare_162
              · have ex1000 : x1000.toInt = x25.toInt := by rw [← c1024.symm.trans c1001]
                have ex1004 : x1004.toInt = (2 : Int) := by rw [show x1004 = 2 from c1005.symm.trans c1023]; decide
                obtain ⟨x1030, c1031, rx1030, tx1030⟩ := hT.rda (lo := 0) (hi := 400) (i := 2) kM_at3 rfl rfl (by decide)
                obtain ⟨x1032, c1033, rx1032, tx1032⟩ := hT.rdi (lo := 0) (hi := 60) (k := 18) kM_at0 (by decide) rfl
                refine lv_if_ne (tgt := 163) hx hb dX12_compare_158 (by decide) (fun c => absurd (by decide) c) (fun _ => ?_)
                refine lv_iconst (v := 0) hx hb dX12_compare_161 (by decide) ?_
                exact tk_zret hC hr rfl hlocks hK ⟨hT, hF, (Or.inl ⟨rfl, ⟨x25, c1024, (show 1 ≤ x25.toInt by omega), (show x25.toInt ≤ 400 by omega)⟩, ⟨x1002, c1003, (show 1 ≤ x1002.toInt by omega), (show x1002.toInt ≤ 3205 by omega)⟩, ⟨2, c1023, (by decide), (by decide)⟩⟩)⟩ hw dX12_compare_162
              · have ex1006 : x1006.toInt = x25.toInt := by rw [← c1024.symm.trans c1007]
                have ex1008 : x1008.toInt = (2 : Int) := by rw [show x1008 = 2 from c1009.symm.trans c1023]; decide
                obtain ⟨x1034, c1035, rx1034, tx1034⟩ := hT.rda (lo := 0) (hi := 400) (i := 2) kM_at3 rfl rfl (by decide)
                have g1012 : 3 * x1034.toInt + 11 ≤ 3 * x45.toInt + 14 * (x1010.toInt - x981.toInt) := by have q := g1012; simp only [c987, c1035, c982, c1011] at q; omega
                have g1013 : x981.toInt + 1 ≤ x1010.toInt := by have q := g1013; simp only [c982, c1011] at q; omega
                refine lv_if_ne (tgt := 163) hx hb dX12_compare_158 (by decide) (fun _ => ?_) (fun c => absurd c (by decide))
                refine lv_aload_n hx hb dX12_compare_163 rfl (lv_at hl 4 rfl) ?_
                refine lv_bipush (v := 6) hx hb dX12_compare_164 (by decide) ?_
                refine lv_iload hx hb dX12_compare_166 (lv_at hl 0 rfl) ?_
                refine lv_iadd hx hb dX12_compare_168 ?_
                refine wk_top 6 (by decide) ?_
                refine lv_iconst (v := 0) hx hb dX12_compare_169 (by decide) ?_
                refine tk_Vv hC hK hw hT hA hE hSR kM_at0 (by decide) rfl (k_X12_puts_3 l adK adV dC dI cy ad B (by omega) (by omega) qr s1   6 (by decide) (by decide) 0 w992 H.size hT c1023 x1034 c1035 (show 0 ≤ x1034.toInt by omega) (show x1034.toInt ≤ 400 by omega) (show x1034.toInt ≤ 399 by omega)) (cwV 2 hC.2.2.2.2 gX12_compare_X12_puts rfl rfl rfl (by decide +kernel) ⟨Nat.le_of_ble_eq_true rfl, Nat.le_of_ble_eq_true rfl⟩) rfl hl.1 rfl (Nat.le_of_ble_eq_true rfl) dX12_compare_170 (fun w1040 H locs hp1039 hw => ?_)
                obtain ⟨hT, k1041, hg1045⟩ := hp1039
                have hF := hF.tr k1041 (by decide)
                have c1046 := k1041.gi kM_at0 (by decide) c1023
                have c1047 := k1041.gi kM_at0 (by decide) c1024
                have c1048 := k1041.gi kM_at1 rfl c1025
                have c1049 := k1041.gi kM_at0 (by decide) c1011
                obtain ⟨⟨x1042, c1043, rx1042, tx1042⟩, g1044⟩ := hg1045
                have ex1042 : x1042.toInt = (2 : Int) := by rw [show x1042 = 2 from c1043.symm.trans c1046]; decide
                obtain ⟨x1050, c1051, rx1050, tx1050⟩ := hT.rda (lo := 0) (hi := 400) (i := 2) kM_at3 rfl rfl (by decide)
                have g1044 : x1050.toInt = x1034.toInt + 1 := by have q := g1044; simp only [c1035, c1051] at q; omega
                refine lv_iconst (v := 1) hx hb dX12_compare_173 (by decide) ?_
                exact tk_zret hC hr rfl hlocks hK ⟨hT, hF, (Or.inr (Or.inr ⟨rfl, ⟨x25, c1047, (show 1 ≤ x25.toInt by omega), (show x25.toInt ≤ 400 by omega)⟩, ⟨2, c1046, (by decide), (by decide)⟩, ⟨x1010, c1049, (show 1 ≤ x1010.toInt by omega), (show x1010.toInt ≤ 60 by omega)⟩, (by simp only [cf2_, c1051, cf1_, c1049]; omega), (by simp only [cf1_, c1049]; omega)⟩))⟩ hw dX12_compare_174
              · have ex1014 : x1014.toInt = x25.toInt := by rw [← c1024.symm.trans c1015]
                have ex1016 : x1016.toInt = (2 : Int) := by rw [show x1016 = 2 from c1017.symm.trans c1023]; decide
                obtain ⟨x1036, c1037, rx1036, tx1036⟩ := hT.rda (lo := 0) (hi := 400) (i := 2) kM_at3 rfl rfl (by decide)
                have g1020 : 3 * x1036.toInt + 11 ≤ 3 * x45.toInt + 14 * (x1018.toInt - x981.toInt) := by have q := g1020; simp only [c987, c1037, c982, c1019] at q; omega
                have g1021 : x981.toInt + 1 ≤ x1018.toInt := by have q := g1021; simp only [c982, c1019] at q; omega
                refine lv_if_ne (tgt := 163) hx hb dX12_compare_158 (by decide) (fun _ => ?_) (fun c => absurd c (by decide))
                refine lv_aload_n hx hb dX12_compare_163 rfl (lv_at hl 4 rfl) ?_
                refine lv_bipush (v := 6) hx hb dX12_compare_164 (by decide) ?_
                refine lv_iload hx hb dX12_compare_166 (lv_at hl 0 rfl) ?_
                refine lv_iadd hx hb dX12_compare_168 ?_
                refine wk_top 6 (by decide) ?_
                refine lv_iconst (v := 0) hx hb dX12_compare_169 (by decide) ?_
                refine tk_Vv hC hK hw hT hA hE hSR kM_at0 (by decide) rfl (k_X12_puts_3 l adK adV dC dI cy ad B (by omega) (by omega) qr s1   6 (by decide) (by decide) 0 w992 H.size hT c1023 x1036 c1037 (show 0 ≤ x1036.toInt by omega) (show x1036.toInt ≤ 400 by omega) (show x1036.toInt ≤ 399 by omega)) (cwV 2 hC.2.2.2.2 gX12_compare_X12_puts rfl rfl rfl (by decide +kernel) ⟨Nat.le_of_ble_eq_true rfl, Nat.le_of_ble_eq_true rfl⟩) rfl hl.1 rfl (Nat.le_of_ble_eq_true rfl) dX12_compare_170 (fun w1054 H locs hp1053 hw => ?_)
                obtain ⟨hT, k1055, hg1059⟩ := hp1053
                have hF := hF.tr k1055 (by decide)
                have c1060 := k1055.gi kM_at0 (by decide) c1023
                have c1061 := k1055.gi kM_at0 (by decide) c1024
                have c1062 := k1055.gi kM_at1 rfl c1025
                have c1063 := k1055.gi kM_at0 (by decide) c1019
                obtain ⟨⟨x1056, c1057, rx1056, tx1056⟩, g1058⟩ := hg1059
                have ex1056 : x1056.toInt = (2 : Int) := by rw [show x1056 = 2 from c1057.symm.trans c1060]; decide
                obtain ⟨x1064, c1065, rx1064, tx1064⟩ := hT.rda (lo := 0) (hi := 400) (i := 2) kM_at3 rfl rfl (by decide)
                have g1058 : x1064.toInt = x1036.toInt + 1 := by have q := g1058; simp only [c1037, c1065] at q; omega
                refine lv_iconst (v := 1) hx hb dX12_compare_173 (by decide) ?_
                exact tk_zret hC hr rfl hlocks hK ⟨hT, hF, (Or.inr (Or.inr ⟨rfl, ⟨x25, c1061, (show 1 ≤ x25.toInt by omega), (show x25.toInt ≤ 400 by omega)⟩, ⟨2, c1060, (by decide), (by decide)⟩, ⟨x1018, c1063, (show 1 ≤ x1018.toInt by omega), (show x1018.toInt ≤ 60 by omega)⟩, (by simp only [cf2_, c1065, cf1_, c1063]; omega), (by simp only [cf1_, c1063]; omega)⟩))⟩ hw dX12_compare_174
          · have c972 : x970.toInt = (61 : Int) := wk_eq.mp c972
            refine lv_iconst (v := 1) hx hb dX12_compare_85 (by decide) ?_
            refine lv_goto (tgt := 90) hx hb dX12_compare_86 (by decide) ?_
            refine lv_istore_n (lv' := [(3, .int 1), (2, .int x842), (1, .int r834), (0, .ref (ad 0))]) hx hb dX12_compare_90 rfl hl (by decide) rfl (fun ls hl => ?_)
            refine lv_iload_n hx hb dX12_compare_91 rfl (lv_at hl 0 rfl) ?_
            refine lv_if_eq (tgt := 105) hx hb dX12_compare_92 (by decide) (fun c => absurd c (by decide)) (fun _ => ?_)
            refine lv_aload_n hx hb dX12_compare_95 rfl (lv_at hl 3 rfl) ?_
            refine lv_dup hx hb dX12_compare_96 rfl ?_
            refine tk_geti hC hK hw hT hinX12 kM_at0 (by decide) rfl 14 (by decide) (List.mem_of_getElem? (i := 1) rfl) rfl rfl dX12_compare_97 (fun x1066 c1067 rx1066 tx1066 => ?_)
            refine wk_top x866 (c1067.symm.trans c868) ?_
            refine lv_iconst (v := 1) hx hb dX12_compare_100 (by decide) ?_
            refine lv_iadd hx hb dX12_compare_101 ?_
            refine lv_topi (fun x1068 ex1068 => ?_)
            have ex1068 : x1068.toInt = x866.toInt + (1 : Int) := by rw [ex1068]; exact wk_add (show (-2147483648) ≤ x866.toInt + (1 : Int) by omega) (show x866.toInt + (1 : Int) ≤ 2147483647 by omega)
            refine tk_puti hC hK hw hT hinX12 tyX12_ok nmX12 kM_at0 (by decide) rfl rfl 14 (by decide) (List.mem_of_getElem? (i := 1) rfl) rfl rfl rfl rfl (show 0 ≤ x1068.toInt by omega) (show x1068.toInt ≤ 400 by omega) dX12_compare_102 (fun H locs w1069 hw hT k1071 c1070 => ?_)
            have hF := hF.put kM_at0 (k := 14) (by decide) k1071
            have c1072 := k1071.gi (Or.inr (by decide)) c870
            have c1073 := k1071.gi (Or.inr (by decide)) c871
            have c1074 := k1071.gi (Or.inr (by decide)) c872
            have c1075 := k1071.gi (Or.inr (by decide)) c873
            have c1076 := k1071.gi (Or.inl (tk_ne kM_at1 kM_at0 (by decide))) c971
            refine lv_aload_n hx hb dX12_compare_105 rfl (lv_at hl 3 rfl) ?_
            refine lv_iload_n hx hb dX12_compare_106 rfl (lv_at hl 1 rfl) ?_
            refine tk_Vi hC hK hw hT hA hE hSR kM_at0 (by decide) rfl (k_X12_makes_1 l adK adV dC dI cy ad B (by omega) (by omega) qr s1   x842 (show 0 ≤ x842.toInt by omega) (show x842.toInt ≤ 398 by omega) w1069 H.size hT x29 c1074 (show 0 ≤ x29.toInt by omega) (show x29.toInt ≤ 60 by omega)) (cwV 1 hC.2.2.2.2 gX12_compare_X12_makes rfl rfl rfl (by decide +kernel) ⟨Nat.le_of_ble_eq_true rfl, Nat.le_of_ble_eq_true rfl⟩) rfl hl.1 rfl (Nat.le_of_ble_eq_true rfl) dX12_compare_107 (fun r1077 w1079 H locs hp1078 hw => ?_)
            obtain ⟨hT, k1080, hg1088⟩ := hp1078
            have hF := hF.tr k1080 (by decide)
            have c1089 := k1080.gi kM_at0 (by decide) c1072
            have c1090 := k1080.gi kM_at0 (by decide) c1073
            have c1091 := k1080.gi kM_at3 (by decide) c1075
            have c1092 := k1080.gi kM_at1 rfl c1076
            have c1093 := k1080.gi kM_at0 (by decide) c1070
            rcases hg1088 with ⟨rfl, ⟨x1081, c1082, rx1081, tx1081⟩, ⟨x1083, c1084, rx1083, tx1083⟩⟩ | ⟨rfl, ⟨x1085, c1086, rx1085, tx1085⟩, g1087⟩
            · refine lv_if_ne (tgt := 115) hx hb dX12_compare_110 (by decide) (fun c => absurd (by decide) c) (fun _ => ?_)
              refine lv_iconst (v := 0) hx hb dX12_compare_113 (by decide) ?_
              exact tk_zret hC hr rfl hlocks hK ⟨hT, hF, (Or.inl ⟨rfl, ⟨x25, c1090, (show 1 ≤ x25.toInt by omega), (show x25.toInt ≤ 400 by omega)⟩, ⟨x1081, c1082, (show 1 ≤ x1081.toInt by omega), (show x1081.toInt ≤ 3205 by omega)⟩, ⟨2, c1089, (by decide), (by decide)⟩⟩)⟩ hw dX12_compare_114
            · have g1087 : x1085.toInt = x29.toInt + 1 := by have q := g1087; simp only [c1074, c1086] at q; omega
              refine lv_if_ne (tgt := 115) hx hb dX12_compare_110 (by decide) (fun _ => ?_) (fun c => absurd c (by decide))
              refine lv_iload_n hx hb dX12_compare_115 rfl (lv_at hl 2 rfl) ?_
              refine lv_bipush (v := 60) hx hb dX12_compare_116 (by decide) ?_
              refine lv_icmp_ne (tgt := 133) hx hb dX12_compare_118 (by decide) (fun c => (c (wk_eq.mpr (show r834.toInt = (60 : Int) by omega))).elim) (fun _ => ?_)
              refine lv_iload_n hx hb dX12_compare_121 rfl (lv_at hl 0 rfl) ?_
              refine lv_if_eq (tgt := 129) hx hb dX12_compare_122 (by decide) (fun c => absurd c (by decide)) (fun _ => ?_)
              refine lv_iconst (v := 1) hx hb dX12_compare_125 (by decide) ?_
              refine lv_goto (tgt := 152) hx hb dX12_compare_126 (by decide) ?_
              refine lv_istore (lv' := [(4, .int 1), (3, .int 1), (2, .int x842), (1, .int r834), (0, .ref (ad 0))]) hx hb dX12_compare_152 hl (by decide) rfl (fun ls hl => ?_)
              refine lv_aload_n hx hb dX12_compare_154 rfl (lv_at hl 4 rfl) ?_
              refine tk_Vi hC hK hw hT hA hE hSR kM_at0 (by decide) rfl (k_X12_sum_3 l adK adV dC dI cy ad B (by omega) (by omega) qr s1    w1079 H.size hT c1089 x1085 c1086 (show 0 ≤ x1085.toInt by omega) (show x1085.toInt ≤ 60 by omega) x45 c1091 (show 0 ≤ x45.toInt by omega) (show x45.toInt ≤ 400 by omega) (show 3 * x45.toInt ≤ 14 * x1085.toInt + 60 by omega) (show x45.toInt ≤ 300 by omega)) (cwV 0 hC.2.2.2.2 gX12_compare_X12_sum rfl rfl rfl (by decide +kernel) ⟨Nat.le_of_ble_eq_true rfl, Nat.le_of_ble_eq_true rfl⟩) rfl hl.1 rfl (Nat.le_of_ble_eq_true rfl) dX12_compare_155 (fun r1094 w1096 H locs hp1095 hw => ?_)
              obtain ⟨hT, k1097, hg1126⟩ := hp1095
              have hF := hF.tr k1097 (by decide)
              have c1127 := k1097.gi kM_at0 (by decide) c1089
              have c1128 := k1097.gi kM_at0 (by decide) c1090
              have c1129 := k1097.gi kM_at1 rfl c1092
              rcases hg1126 with ⟨rfl, ⟨x1098, c1099, rx1098, tx1098⟩, ⟨x1100, c1101, rx1100, tx1100⟩, ⟨x1102, c1103, rx1102, tx1102⟩⟩ | ⟨rfl, ⟨x1104, c1105, rx1104, tx1104⟩, ⟨x1106, c1107, rx1106, tx1106⟩, ⟨x1108, c1109, rx1108, tx1108⟩⟩ | ⟨rfl, ⟨x1110, c1111, rx1110, tx1110⟩, ⟨x1112, c1113, rx1112, tx1112⟩, ⟨x1114, c1115, rx1114, tx1114⟩, g1116, g1117⟩ | ⟨rfl, ⟨x1118, c1119, rx1118, tx1118⟩, ⟨x1120, c1121, rx1120, tx1120⟩, ⟨x1122, c1123, rx1122, tx1122⟩, g1124, g1125⟩
              · have ex1098 : x1098.toInt = x25.toInt := by rw [← c1128.symm.trans c1099]
                have ex1102 : x1102.toInt = (2 : Int) := by rw [show x1102 = 2 from c1103.symm.trans c1127]; decide
                obtain ⟨x1130, c1131, rx1130, tx1130⟩ := hT.rda (lo := 0) (hi := 400) (i := 2) kM_at3 rfl rfl (by decide)
                obtain ⟨x1132, c1133, rx1132, tx1132⟩ := hT.rdi (lo := 0) (hi := 60) (k := 18) kM_at0 (by decide) rfl
                refine lv_if_ne (tgt := 163) hx hb dX12_compare_158 (by decide) (fun c => absurd (by decide) c) (fun _ => ?_)
                refine lv_iconst (v := 0) hx hb dX12_compare_161 (by decide) ?_
                exact tk_zret hC hr rfl hlocks hK ⟨hT, hF, (Or.inl ⟨rfl, ⟨x25, c1128, (show 1 ≤ x25.toInt by omega), (show x25.toInt ≤ 400 by omega)⟩, ⟨x1100, c1101, (show 1 ≤ x1100.toInt by omega), (show x1100.toInt ≤ 3205 by omega)⟩, ⟨2, c1127, (by decide), (by decide)⟩⟩)⟩ hw dX12_compare_162
              · have ex1104 : x1104.toInt = x25.toInt := by rw [← c1128.symm.trans c1105]
                have ex1108 : x1108.toInt = (2 : Int) := by rw [show x1108 = 2 from c1109.symm.trans c1127]; decide
                obtain ⟨x1134, c1135, rx1134, tx1134⟩ := hT.rda (lo := 0) (hi := 400) (i := 2) kM_at3 rfl rfl (by decide)
                obtain ⟨x1136, c1137, rx1136, tx1136⟩ := hT.rdi (lo := 0) (hi := 60) (k := 18) kM_at0 (by decide) rfl
                refine lv_if_ne (tgt := 163) hx hb dX12_compare_158 (by decide) (fun c => absurd (by decide) c) (fun _ => ?_)
                refine lv_iconst (v := 0) hx hb dX12_compare_161 (by decide) ?_
                exact tk_zret hC hr rfl hlocks hK ⟨hT, hF, (Or.inl ⟨rfl, ⟨x25, c1128, (show 1 ≤ x25.toInt by omega), (show x25.toInt ≤ 400 by omega)⟩, ⟨x1106, c1107, (show 1 ≤ x1106.toInt by omega), (show x1106.toInt ≤ 3205 by omega)⟩, ⟨2, c1127, (by decide), (by decide)⟩⟩)⟩ hw dX12_compare_162
              · have ex1110 : x1110.toInt = x25.toInt := by rw [← c1128.symm.trans c1111]
                have ex1112 : x1112.toInt = (2 : Int) := by rw [show x1112 = 2 from c1113.symm.trans c1127]; decide
                obtain ⟨x1138, c1139, rx1138, tx1138⟩ := hT.rda (lo := 0) (hi := 400) (i := 2) kM_at3 rfl rfl (by decide)
                have g1116 : 3 * x1138.toInt + 11 ≤ 3 * x45.toInt + 14 * (x1114.toInt - x1085.toInt) := by have q := g1116; simp only [c1091, c1139, c1086, c1115] at q; omega
                have g1117 : x1085.toInt + 1 ≤ x1114.toInt := by have q := g1117; simp only [c1086, c1115] at q; omega
                refine lv_if_ne (tgt := 163) hx hb dX12_compare_158 (by decide) (fun _ => ?_) (fun c => absurd c (by decide))
                refine lv_aload_n hx hb dX12_compare_163 rfl (lv_at hl 4 rfl) ?_
                refine lv_bipush (v := 6) hx hb dX12_compare_164 (by decide) ?_
                refine lv_iload hx hb dX12_compare_166 (lv_at hl 0 rfl) ?_
                refine lv_iadd hx hb dX12_compare_168 ?_
                refine wk_top 7 (by decide) ?_
                refine lv_iconst (v := 0) hx hb dX12_compare_169 (by decide) ?_
                refine tk_Vv hC hK hw hT hA hE hSR kM_at0 (by decide) rfl (k_X12_puts_3 l adK adV dC dI cy ad B (by omega) (by omega) qr s1   7 (by decide) (by decide) 0 w1096 H.size hT c1127 x1138 c1139 (show 0 ≤ x1138.toInt by omega) (show x1138.toInt ≤ 400 by omega) (show x1138.toInt ≤ 399 by omega)) (cwV 2 hC.2.2.2.2 gX12_compare_X12_puts rfl rfl rfl (by decide +kernel) ⟨Nat.le_of_ble_eq_true rfl, Nat.le_of_ble_eq_true rfl⟩) rfl hl.1 rfl (Nat.le_of_ble_eq_true rfl) dX12_compare_170 (fun w1144 H locs hp1143 hw => ?_)
                obtain ⟨hT, k1145, hg1149⟩ := hp1143
                have hF := hF.tr k1145 (by decide)
                have c1150 := k1145.gi kM_at0 (by decide) c1127
                have c1151 := k1145.gi kM_at0 (by decide) c1128
                have c1152 := k1145.gi kM_at1 rfl c1129
                have c1153 := k1145.gi kM_at0 (by decide) c1115
                obtain ⟨⟨x1146, c1147, rx1146, tx1146⟩, g1148⟩ := hg1149
                have ex1146 : x1146.toInt = (2 : Int) := by rw [show x1146 = 2 from c1147.symm.trans c1150]; decide
                obtain ⟨x1154, c1155, rx1154, tx1154⟩ := hT.rda (lo := 0) (hi := 400) (i := 2) kM_at3 rfl rfl (by decide)
                have g1148 : x1154.toInt = x1138.toInt + 1 := by have q := g1148; simp only [c1139, c1155] at q; omega
                refine lv_iconst (v := 1) hx hb dX12_compare_173 (by decide) ?_
                exact tk_zret hC hr rfl hlocks hK ⟨hT, hF, (Or.inr (Or.inr ⟨rfl, ⟨x25, c1151, (show 1 ≤ x25.toInt by omega), (show x25.toInt ≤ 400 by omega)⟩, ⟨2, c1150, (by decide), (by decide)⟩, ⟨x1114, c1153, (show 1 ≤ x1114.toInt by omega), (show x1114.toInt ≤ 60 by omega)⟩, (by simp only [cf2_, c1155, cf1_, c1153]; omega), (by simp only [cf1_, c1153]; omega)⟩))⟩ hw dX12_compare_174
              · have ex1118 : x1118.toInt = x25.toInt := by rw [← c1128.symm.trans c1119]
                have ex1120 : x1120.toInt = (2 : Int) := by rw [show x1120 = 2 from c1121.symm.trans c1127]; decide
                obtain ⟨x1140, c1141, rx1140, tx1140⟩ := hT.rda (lo := 0) (hi := 400) (i := 2) kM_at3 rfl rfl (by decide)
                have g1124 : 3 * x1140.toInt + 11 ≤ 3 * x45.toInt + 14 * (x1122.toInt - x1085.toInt) := by have q := g1124; simp only [c1091, c1141, c1086, c1123] at q; omega
                have g1125 : x1085.toInt + 1 ≤ x1122.toInt := by have q := g1125; simp only [c1086, c1123] at q; omega
                refine lv_if_ne (tgt := 163) hx hb dX12_compare_158 (by decide) (fun _ => ?_) (fun c => absurd c (by decide))
                refine lv_aload_n hx hb dX12_compare_163 rfl (lv_at hl 4 rfl) ?_
                refine lv_bipush (v := 6) hx hb dX12_compare_164 (by decide) ?_
                refine lv_iload hx hb dX12_compare_166 (lv_at hl 0 rfl) ?_
                refine lv_iadd hx hb dX12_compare_168 ?_
                refine wk_top 7 (by decide) ?_
                refine lv_iconst (v := 0) hx hb dX12_compare_169 (by decide) ?_
                refine tk_Vv hC hK hw hT hA hE hSR kM_at0 (by decide) rfl (k_X12_puts_3 l adK adV dC dI cy ad B (by omega) (by omega) qr s1   7 (by decide) (by decide) 0 w1096 H.size hT c1127 x1140 c1141 (show 0 ≤ x1140.toInt by omega) (show x1140.toInt ≤ 400 by omega) (show x1140.toInt ≤ 399 by omega)) (cwV 2 hC.2.2.2.2 gX12_compare_X12_puts rfl rfl rfl (by decide +kernel) ⟨Nat.le_of_ble_eq_true rfl, Nat.le_of_ble_eq_true rfl⟩) rfl hl.1 rfl (Nat.le_of_ble_eq_true rfl) dX12_compare_170 (fun w1158 H locs hp1157 hw => ?_)
                obtain ⟨hT, k1159, hg1163⟩ := hp1157
                have hF := hF.tr k1159 (by decide)
                have c1164 := k1159.gi kM_at0 (by decide) c1127
                have c1165 := k1159.gi kM_at0 (by decide) c1128
                have c1166 := k1159.gi kM_at1 rfl c1129
                have c1167 := k1159.gi kM_at0 (by decide) c1123
                obtain ⟨⟨x1160, c1161, rx1160, tx1160⟩, g1162⟩ := hg1163
                have ex1160 : x1160.toInt = (2 : Int) := by rw [show x1160 = 2 from c1161.symm.trans c1164]; decide
                obtain ⟨x1168, c1169, rx1168, tx1168⟩ := hT.rda (lo := 0) (hi := 400) (i := 2) kM_at3 rfl rfl (by decide)
                have g1162 : x1168.toInt = x1140.toInt + 1 := by have q := g1162; simp only [c1141, c1169] at q; omega
                refine lv_iconst (v := 1) hx hb dX12_compare_173 (by decide) ?_
                exact tk_zret hC hr rfl hlocks hK ⟨hT, hF, (Or.inr (Or.inr ⟨rfl, ⟨x25, c1165, (show 1 ≤ x25.toInt by omega), (show x25.toInt ≤ 400 by omega)⟩, ⟨2, c1164, (by decide), (by decide)⟩, ⟨x1122, c1167, (show 1 ≤ x1122.toInt by omega), (show x1122.toInt ≤ 60 by omega)⟩, (by simp only [cf2_, c1169, cf1_, c1167]; omega), (by simp only [cf1_, c1167]; omega)⟩))⟩ hw dX12_compare_174
      · have c863 : ¬ r834.toInt = (60 : Int) := wk_eqF c863
        refine lv_iload_n hx hb dX12_compare_25 rfl (lv_at hl 1 rfl) ?_
        refine lv_bipush (v := 61) hx hb dX12_compare_26 (by decide) ?_
        refine lv_icmp_eq (tgt := 44) hx hb dX12_compare_28 (by decide) (fun c1170 => ?_) (fun c1170 => ?_)
        · have c1170 : r834.toInt = (61 : Int) := wk_eq.mp c1170
          refine lv_aload_n hx hb dX12_compare_44 rfl (lv_at hl 2 rfl) ?_
          refine lv_dup hx hb dX12_compare_45 rfl ?_
          refine tk_geti hC hK hw hT hinX12 kM_at0 (by decide) rfl 14 (by decide) (List.mem_of_getElem? (i := 1) rfl) rfl rfl dX12_compare_46 (fun x1171 c1172 rx1171 tx1171 => ?_)
          refine wk_top x842 (c1172.symm.trans c843) ?_
          refine lv_iconst (v := 1) hx hb dX12_compare_49 (by decide) ?_
          refine lv_iadd hx hb dX12_compare_50 ?_
          refine lv_topi (fun x1173 ex1173 => ?_)
          have ex1173 : x1173.toInt = x842.toInt + (1 : Int) := by rw [ex1173]; exact wk_add (show (-2147483648) ≤ x842.toInt + (1 : Int) by omega) (show x842.toInt + (1 : Int) ≤ 2147483647 by omega)
          refine tk_puti hC hK hw hT hinX12 tyX12_ok nmX12 kM_at0 (by decide) rfl rfl 14 (by decide) (List.mem_of_getElem? (i := 1) rfl) rfl rfl rfl rfl (show 0 ≤ x1173.toInt by omega) (show x1173.toInt ≤ 400 by omega) dX12_compare_51 (fun H locs w1174 hw hT k1176 c1175 => ?_)
          have hF := hF.put kM_at0 (k := 14) (by decide) k1176
          have c1177 := k1176.gi (Or.inr (by decide)) c855
          have c1178 := k1176.gi (Or.inr (by decide)) c856
          have c1179 := k1176.gi (Or.inr (by decide)) c857
          have c1180 := k1176.gi (Or.inr (by decide)) c858
          refine lv_iload_n hx hb dX12_compare_54 rfl (lv_at hl 1 rfl) ?_
          refine lv_bipush (v := 61) hx hb dX12_compare_55 (by decide) ?_
          refine lv_icmp_eq (tgt := 89) hx hb dX12_compare_57 (by decide) (fun _ => ?_) (fun c => (c (wk_eq.mpr (show r834.toInt = (61 : Int) by omega))).elim)
          refine lv_iconst (v := 0) hx hb dX12_compare_89 (by decide) ?_
          refine lv_istore_n (lv' := [(3, .int 0), (2, .int x842), (1, .int r834), (0, .ref (ad 0))]) hx hb dX12_compare_90 rfl hl (by decide) rfl (fun ls hl => ?_)
          refine lv_iload_n hx hb dX12_compare_91 rfl (lv_at hl 0 rfl) ?_
          refine lv_if_eq (tgt := 105) hx hb dX12_compare_92 (by decide) (fun _ => ?_) (fun c => absurd (by decide) c)
          refine lv_aload_n hx hb dX12_compare_105 rfl (lv_at hl 3 rfl) ?_
          refine lv_iload_n hx hb dX12_compare_106 rfl (lv_at hl 1 rfl) ?_
          refine tk_Vi hC hK hw hT hA hE hSR kM_at0 (by decide) rfl (k_X12_makes_2 l adK adV dC dI cy ad B (by omega) (by omega) qr s1   x842 (show 0 ≤ x842.toInt by omega) (show x842.toInt ≤ 399 by omega) w1174 H.size hT x29 c1179 (show 0 ≤ x29.toInt by omega) (show x29.toInt ≤ 60 by omega)) (cwV 1 hC.2.2.2.2 gX12_compare_X12_makes rfl rfl rfl (by decide +kernel) ⟨Nat.le_of_ble_eq_true rfl, Nat.le_of_ble_eq_true rfl⟩) rfl hl.1 rfl (Nat.le_of_ble_eq_true rfl) dX12_compare_107 (fun r1181 w1183 H locs hp1182 hw => ?_)
          obtain ⟨hT, k1184, hg1192⟩ := hp1182
          have hF := hF.tr k1184 (by decide)
          have c1193 := k1184.gi kM_at0 (by decide) c1177
          have c1194 := k1184.gi kM_at0 (by decide) c1178
          have c1195 := k1184.gi kM_at3 (by decide) c1180
          have c1196 := k1184.gi kM_at0 (by decide) c1175
          rcases hg1192 with ⟨rfl, ⟨x1185, c1186, rx1185, tx1185⟩, ⟨x1187, c1188, rx1187, tx1187⟩⟩ | ⟨rfl, ⟨x1189, c1190, rx1189, tx1189⟩, g1191⟩
          · refine lv_if_ne (tgt := 115) hx hb dX12_compare_110 (by decide) (fun c => absurd (by decide) c) (fun _ => ?_)
            refine lv_iconst (v := 0) hx hb dX12_compare_113 (by decide) ?_
            exact tk_zret hC hr rfl hlocks hK ⟨hT, hF, (Or.inl ⟨rfl, ⟨x25, c1194, (show 1 ≤ x25.toInt by omega), (show x25.toInt ≤ 400 by omega)⟩, ⟨x1185, c1186, (show 1 ≤ x1185.toInt by omega), (show x1185.toInt ≤ 3205 by omega)⟩, ⟨2, c1193, (by decide), (by decide)⟩⟩)⟩ hw dX12_compare_114
          · have g1191 : x1189.toInt = x29.toInt + 1 := by have q := g1191; simp only [c1179, c1190] at q; omega
            refine lv_if_ne (tgt := 115) hx hb dX12_compare_110 (by decide) (fun _ => ?_) (fun c => absurd c (by decide))
            refine lv_iload_n hx hb dX12_compare_115 rfl (lv_at hl 2 rfl) ?_
            refine lv_bipush (v := 60) hx hb dX12_compare_116 (by decide) ?_
            refine lv_icmp_ne (tgt := 133) hx hb dX12_compare_118 (by decide) (fun _ => ?_) (fun c => absurd (show r834.toInt = (60 : Int) from wk_eq.mp c) (by omega))
            refine lv_iload_n hx hb dX12_compare_133 rfl (lv_at hl 2 rfl) ?_
            refine lv_bipush (v := 61) hx hb dX12_compare_134 (by decide) ?_
            refine lv_icmp_ne (tgt := 143) hx hb dX12_compare_136 (by decide) (fun c => (c (wk_eq.mpr (show r834.toInt = (61 : Int) by omega))).elim) (fun _ => ?_)
            refine lv_iconst (v := 2) hx hb dX12_compare_139 (by decide) ?_
            refine lv_goto (tgt := 152) hx hb dX12_compare_140 (by decide) ?_
            refine lv_istore (lv' := [(4, .int 2), (3, .int 0), (2, .int x842), (1, .int r834), (0, .ref (ad 0))]) hx hb dX12_compare_152 hl (by decide) rfl (fun ls hl => ?_)
            refine lv_aload_n hx hb dX12_compare_154 rfl (lv_at hl 4 rfl) ?_
            refine tk_Vi hC hK hw hT hA hE hSR kM_at0 (by decide) rfl (k_X12_sum_3 l adK adV dC dI cy ad B (by omega) (by omega) qr s1    w1183 H.size hT c1193 x1189 c1190 (show 0 ≤ x1189.toInt by omega) (show x1189.toInt ≤ 60 by omega) x45 c1195 (show 0 ≤ x45.toInt by omega) (show x45.toInt ≤ 400 by omega) (show 3 * x45.toInt ≤ 14 * x1189.toInt + 60 by omega) (show x45.toInt ≤ 300 by omega)) (cwV 0 hC.2.2.2.2 gX12_compare_X12_sum rfl rfl rfl (by decide +kernel) ⟨Nat.le_of_ble_eq_true rfl, Nat.le_of_ble_eq_true rfl⟩) rfl hl.1 rfl (Nat.le_of_ble_eq_true rfl) dX12_compare_155 (fun r1197 w1199 H locs hp1198 hw => ?_)
            obtain ⟨hT, k1200, hg1229⟩ := hp1198
            have hF := hF.tr k1200 (by decide)
            have c1230 := k1200.gi kM_at0 (by decide) c1193
            have c1231 := k1200.gi kM_at0 (by decide) c1194
            rcases hg1229 with ⟨rfl, ⟨x1201, c1202, rx1201, tx1201⟩, ⟨x1203, c1204, rx1203, tx1203⟩, ⟨x1205, c1206, rx1205, tx1205⟩⟩ | ⟨rfl, ⟨x1207, c1208, rx1207, tx1207⟩, ⟨x1209, c1210, rx1209, tx1209⟩, ⟨x1211, c1212, rx1211, tx1211⟩⟩ | ⟨rfl, ⟨x1213, c1214, rx1213, tx1213⟩, ⟨x1215, c1216, rx1215, tx1215⟩, ⟨x1217, c1218, rx1217, tx1217⟩, g1219, g1220⟩ | ⟨rfl, ⟨x1221, c1222, rx1221, tx1221⟩, ⟨x1223, c1224, rx1223, tx1223⟩, ⟨x1225, c1226, rx1225, tx1225⟩, g1227, g1228⟩
            · have ex1201 : x1201.toInt = x25.toInt := by rw [← c1231.symm.trans c1202]
              have ex1205 : x1205.toInt = (2 : Int) := by rw [show x1205 = 2 from c1206.symm.trans c1230]; decide
              obtain ⟨x1232, c1233, rx1232, tx1232⟩ := hT.rda (lo := 0) (hi := 400) (i := 2) kM_at3 rfl rfl (by decide)
              obtain ⟨x1234, c1235, rx1234, tx1234⟩ := hT.rdi (lo := 0) (hi := 60) (k := 18) kM_at0 (by decide) rfl
              refine lv_if_ne (tgt := 163) hx hb dX12_compare_158 (by decide) (fun c => absurd (by decide) c) (fun _ => ?_)
              refine lv_iconst (v := 0) hx hb dX12_compare_161 (by decide) ?_
              exact tk_zret hC hr rfl hlocks hK ⟨hT, hF, (Or.inl ⟨rfl, ⟨x25, c1231, (show 1 ≤ x25.toInt by omega), (show x25.toInt ≤ 400 by omega)⟩, ⟨x1203, c1204, (show 1 ≤ x1203.toInt by omega), (show x1203.toInt ≤ 3205 by omega)⟩, ⟨2, c1230, (by decide), (by decide)⟩⟩)⟩ hw dX12_compare_162
            · have ex1207 : x1207.toInt = x25.toInt := by rw [← c1231.symm.trans c1208]
              have ex1211 : x1211.toInt = (2 : Int) := by rw [show x1211 = 2 from c1212.symm.trans c1230]; decide
              obtain ⟨x1236, c1237, rx1236, tx1236⟩ := hT.rda (lo := 0) (hi := 400) (i := 2) kM_at3 rfl rfl (by decide)
              obtain ⟨x1238, c1239, rx1238, tx1238⟩ := hT.rdi (lo := 0) (hi := 60) (k := 18) kM_at0 (by decide) rfl
              refine lv_if_ne (tgt := 163) hx hb dX12_compare_158 (by decide) (fun c => absurd (by decide) c) (fun _ => ?_)
              refine lv_iconst (v := 0) hx hb dX12_compare_161 (by decide) ?_
              exact tk_zret hC hr rfl hlocks hK ⟨hT, hF, (Or.inl ⟨rfl, ⟨x25, c1231, (show 1 ≤ x25.toInt by omega), (show x25.toInt ≤ 400 by omega)⟩, ⟨x1209, c1210, (show 1 ≤ x1209.toInt by omega), (show x1209.toInt ≤ 3205 by omega)⟩, ⟨2, c1230, (by decide), (by decide)⟩⟩)⟩ hw dX12_compare_162
            · have ex1213 : x1213.toInt = x25.toInt := by rw [← c1231.symm.trans c1214]
              have ex1215 : x1215.toInt = (2 : Int) := by rw [show x1215 = 2 from c1216.symm.trans c1230]; decide
              obtain ⟨x1240, c1241, rx1240, tx1240⟩ := hT.rda (lo := 0) (hi := 400) (i := 2) kM_at3 rfl rfl (by decide)
              have g1219 : 3 * x1240.toInt + 11 ≤ 3 * x45.toInt + 14 * (x1217.toInt - x1189.toInt) := by have q := g1219; simp only [c1195, c1241, c1190, c1218] at q; omega
              have g1220 : x1189.toInt + 1 ≤ x1217.toInt := by have q := g1220; simp only [c1190, c1218] at q; omega
              refine lv_if_ne (tgt := 163) hx hb dX12_compare_158 (by decide) (fun _ => ?_) (fun c => absurd c (by decide))
              refine lv_aload_n hx hb dX12_compare_163 rfl (lv_at hl 4 rfl) ?_
              refine lv_bipush (v := 6) hx hb dX12_compare_164 (by decide) ?_
              refine lv_iload hx hb dX12_compare_166 (lv_at hl 0 rfl) ?_
              refine lv_iadd hx hb dX12_compare_168 ?_
              refine wk_top 8 (by decide) ?_
              refine lv_iconst (v := 0) hx hb dX12_compare_169 (by decide) ?_
              refine tk_Vv hC hK hw hT hA hE hSR kM_at0 (by decide) rfl (k_X12_puts_3 l adK adV dC dI cy ad B (by omega) (by omega) qr s1   8 (by decide) (by decide) 0 w1199 H.size hT c1230 x1240 c1241 (show 0 ≤ x1240.toInt by omega) (show x1240.toInt ≤ 400 by omega) (show x1240.toInt ≤ 399 by omega)) (cwV 2 hC.2.2.2.2 gX12_compare_X12_puts rfl rfl rfl (by decide +kernel) ⟨Nat.le_of_ble_eq_true rfl, Nat.le_of_ble_eq_true rfl⟩) rfl hl.1 rfl (Nat.le_of_ble_eq_true rfl) dX12_compare_170 (fun w1246 H locs hp1245 hw => ?_)
              obtain ⟨hT, k1247, hg1251⟩ := hp1245
              have hF := hF.tr k1247 (by decide)
              have c1252 := k1247.gi kM_at0 (by decide) c1230
              have c1253 := k1247.gi kM_at0 (by decide) c1231
              have c1254 := k1247.gi kM_at0 (by decide) c1218
              obtain ⟨⟨x1248, c1249, rx1248, tx1248⟩, g1250⟩ := hg1251
              have ex1248 : x1248.toInt = (2 : Int) := by rw [show x1248 = 2 from c1249.symm.trans c1252]; decide
              obtain ⟨x1255, c1256, rx1255, tx1255⟩ := hT.rda (lo := 0) (hi := 400) (i := 2) kM_at3 rfl rfl (by decide)
              have g1250 : x1255.toInt = x1240.toInt + 1 := by have q := g1250; simp only [c1241, c1256] at q; omega
              refine lv_iconst (v := 1) hx hb dX12_compare_173 (by decide) ?_
              exact tk_zret hC hr rfl hlocks hK ⟨hT, hF, (Or.inr (Or.inr ⟨rfl, ⟨x25, c1253, (show 1 ≤ x25.toInt by omega), (show x25.toInt ≤ 400 by omega)⟩, ⟨2, c1252, (by decide), (by decide)⟩, ⟨x1217, c1254, (show 1 ≤ x1217.toInt by omega), (show x1217.toInt ≤ 60 by omega)⟩, (by simp only [cf2_, c1256, cf1_, c1254]; omega), (by simp only [cf1_, c1254]; omega)⟩))⟩ hw dX12_compare_174
            · have ex1221 : x1221.toInt = x25.toInt := by rw [← c1231.symm.trans c1222]
              have ex1223 : x1223.toInt = (2 : Int) := by rw [show x1223 = 2 from c1224.symm.trans c1230]; decide
              obtain ⟨x1242, c1243, rx1242, tx1242⟩ := hT.rda (lo := 0) (hi := 400) (i := 2) kM_at3 rfl rfl (by decide)
              have g1227 : 3 * x1242.toInt + 11 ≤ 3 * x45.toInt + 14 * (x1225.toInt - x1189.toInt) := by have q := g1227; simp only [c1195, c1243, c1190, c1226] at q; omega
              have g1228 : x1189.toInt + 1 ≤ x1225.toInt := by have q := g1228; simp only [c1190, c1226] at q; omega
              refine lv_if_ne (tgt := 163) hx hb dX12_compare_158 (by decide) (fun _ => ?_) (fun c => absurd c (by decide))
              refine lv_aload_n hx hb dX12_compare_163 rfl (lv_at hl 4 rfl) ?_
              refine lv_bipush (v := 6) hx hb dX12_compare_164 (by decide) ?_
              refine lv_iload hx hb dX12_compare_166 (lv_at hl 0 rfl) ?_
              refine lv_iadd hx hb dX12_compare_168 ?_
              refine wk_top 8 (by decide) ?_
              refine lv_iconst (v := 0) hx hb dX12_compare_169 (by decide) ?_
              refine tk_Vv hC hK hw hT hA hE hSR kM_at0 (by decide) rfl (k_X12_puts_3 l adK adV dC dI cy ad B (by omega) (by omega) qr s1   8 (by decide) (by decide) 0 w1199 H.size hT c1230 x1242 c1243 (show 0 ≤ x1242.toInt by omega) (show x1242.toInt ≤ 400 by omega) (show x1242.toInt ≤ 399 by omega)) (cwV 2 hC.2.2.2.2 gX12_compare_X12_puts rfl rfl rfl (by decide +kernel) ⟨Nat.le_of_ble_eq_true rfl, Nat.le_of_ble_eq_true rfl⟩) rfl hl.1 rfl (Nat.le_of_ble_eq_true rfl) dX12_compare_170 (fun w1259 H locs hp1258 hw => ?_)
              obtain ⟨hT, k1260, hg1264⟩ := hp1258
              have hF := hF.tr k1260 (by decide)
              have c1265 := k1260.gi kM_at0 (by decide) c1230
              have c1266 := k1260.gi kM_at0 (by decide) c1231
              have c1267 := k1260.gi kM_at0 (by decide) c1226
              obtain ⟨⟨x1261, c1262, rx1261, tx1261⟩, g1263⟩ := hg1264
              have ex1261 : x1261.toInt = (2 : Int) := by rw [show x1261 = 2 from c1262.symm.trans c1265]; decide
              obtain ⟨x1268, c1269, rx1268, tx1268⟩ := hT.rda (lo := 0) (hi := 400) (i := 2) kM_at3 rfl rfl (by decide)
              have g1263 : x1268.toInt = x1242.toInt + 1 := by have q := g1263; simp only [c1243, c1269] at q; omega
              refine lv_iconst (v := 1) hx hb dX12_compare_173 (by decide) ?_
              exact tk_zret hC hr rfl hlocks hK ⟨hT, hF, (Or.inr (Or.inr ⟨rfl, ⟨x25, c1266, (show 1 ≤ x25.toInt by omega), (show x25.toInt ≤ 400 by omega)⟩, ⟨2, c1265, (by decide), (by decide)⟩, ⟨x1225, c1267, (show 1 ≤ x1225.toInt by omega), (show x1225.toInt ≤ 60 by omega)⟩, (by simp only [cf2_, c1269, cf1_, c1267]; omega), (by simp only [cf1_, c1267]; omega)⟩))⟩ hw dX12_compare_174
        · have c1170 : ¬ r834.toInt = (61 : Int) := wk_eqF c1170
          refine lv_iload_n hx hb dX12_compare_31 rfl (lv_at hl 1 rfl) ?_
          refine lv_bipush (v := 62) hx hb dX12_compare_32 (by decide) ?_
          refine lv_icmp_eq (tgt := 44) hx hb dX12_compare_34 (by decide) (fun c1270 => ?_) (fun c1270 => ?_)
          · have c1270 : r834.toInt = (62 : Int) := wk_eq.mp c1270
            refine lv_aload_n hx hb dX12_compare_44 rfl (lv_at hl 2 rfl) ?_
            refine lv_dup hx hb dX12_compare_45 rfl ?_
            refine tk_geti hC hK hw hT hinX12 kM_at0 (by decide) rfl 14 (by decide) (List.mem_of_getElem? (i := 1) rfl) rfl rfl dX12_compare_46 (fun x1271 c1272 rx1271 tx1271 => ?_)
            refine wk_top x842 (c1272.symm.trans c843) ?_
            refine lv_iconst (v := 1) hx hb dX12_compare_49 (by decide) ?_
            refine lv_iadd hx hb dX12_compare_50 ?_
            refine lv_topi (fun x1273 ex1273 => ?_)
            have ex1273 : x1273.toInt = x842.toInt + (1 : Int) := by rw [ex1273]; exact wk_add (show (-2147483648) ≤ x842.toInt + (1 : Int) by omega) (show x842.toInt + (1 : Int) ≤ 2147483647 by omega)
            refine tk_puti hC hK hw hT hinX12 tyX12_ok nmX12 kM_at0 (by decide) rfl rfl 14 (by decide) (List.mem_of_getElem? (i := 1) rfl) rfl rfl rfl rfl (show 0 ≤ x1273.toInt by omega) (show x1273.toInt ≤ 400 by omega) dX12_compare_51 (fun H locs w1274 hw hT k1276 c1275 => ?_)
            have hF := hF.put kM_at0 (k := 14) (by decide) k1276
            have c1277 := k1276.gi (Or.inr (by decide)) c855
            have c1278 := k1276.gi (Or.inr (by decide)) c856
            have c1279 := k1276.gi (Or.inr (by decide)) c857
            have c1280 := k1276.gi (Or.inr (by decide)) c858
            refine lv_iload_n hx hb dX12_compare_54 rfl (lv_at hl 1 rfl) ?_
            refine lv_bipush (v := 61) hx hb dX12_compare_55 (by decide) ?_
            refine lv_icmp_eq (tgt := 89) hx hb dX12_compare_57 (by decide) (fun c => absurd c (fun h => absurd (show r834.toInt = (61 : Int) from wk_eq.mp h) (by omega))) (fun _ => ?_)
            refine lv_aload_n hx hb dX12_compare_60 rfl (lv_at hl 2 rfl) ?_
            refine tk_geti hC hK hw hT hinX12 kM_at0 (by decide) rfl 14 (by decide) (List.mem_of_getElem? (i := 1) rfl) rfl rfl dX12_compare_61 (fun x1281 c1282 rx1281 tx1281 => ?_)
            refine wk_top x1273 (c1282.symm.trans c1275) ?_
            refine lv_aload_n hx hb dX12_compare_64 rfl (lv_at hl 2 rfl) ?_
            refine tk_geti hC hK hw hT hinX12 kM_at0 (by decide) rfl 1 (by decide) (List.mem_of_getElem? (i := 2) rfl) rfl rfl dX12_compare_65 (fun x1283 c1284 rx1283 tx1283 => ?_)
            refine wk_top x25 (c1284.symm.trans c1278) ?_
            refine lv_icmp_ge (tgt := 89) hx hb dX12_compare_68 (by decide) (fun c1285 => ?_) (fun c1285 => ?_)
            · have c1285 : x25.toInt ≤ x1273.toInt := wk_le.mp c1285
              refine lv_iconst (v := 0) hx hb dX12_compare_89 (by decide) ?_
              refine lv_istore_n (lv' := [(3, .int 0), (2, .int x842), (1, .int r834), (0, .ref (ad 0))]) hx hb dX12_compare_90 rfl hl (by decide) rfl (fun ls hl => ?_)
              refine lv_iload_n hx hb dX12_compare_91 rfl (lv_at hl 0 rfl) ?_
              refine lv_if_eq (tgt := 105) hx hb dX12_compare_92 (by decide) (fun _ => ?_) (fun c => absurd (by decide) c)
              refine lv_aload_n hx hb dX12_compare_105 rfl (lv_at hl 3 rfl) ?_
              refine lv_iload_n hx hb dX12_compare_106 rfl (lv_at hl 1 rfl) ?_
              refine tk_Vi hC hK hw hT hA hE hSR kM_at0 (by decide) rfl (k_X12_makes_2 l adK adV dC dI cy ad B (by omega) (by omega) qr s1   x842 (show 0 ≤ x842.toInt by omega) (show x842.toInt ≤ 399 by omega) w1274 H.size hT x29 c1279 (show 0 ≤ x29.toInt by omega) (show x29.toInt ≤ 60 by omega)) (cwV 1 hC.2.2.2.2 gX12_compare_X12_makes rfl rfl rfl (by decide +kernel) ⟨Nat.le_of_ble_eq_true rfl, Nat.le_of_ble_eq_true rfl⟩) rfl hl.1 rfl (Nat.le_of_ble_eq_true rfl) dX12_compare_107 (fun r1286 w1288 H locs hp1287 hw => ?_)
              obtain ⟨hT, k1289, hg1297⟩ := hp1287
              have hF := hF.tr k1289 (by decide)
              have c1298 := k1289.gi kM_at0 (by decide) c1277
              have c1299 := k1289.gi kM_at0 (by decide) c1278
              have c1300 := k1289.gi kM_at3 (by decide) c1280
              have c1301 := k1289.gi kM_at0 (by decide) c1275
              rcases hg1297 with ⟨rfl, ⟨x1290, c1291, rx1290, tx1290⟩, ⟨x1292, c1293, rx1292, tx1292⟩⟩ | ⟨rfl, ⟨x1294, c1295, rx1294, tx1294⟩, g1296⟩
              · refine lv_if_ne (tgt := 115) hx hb dX12_compare_110 (by decide) (fun c => absurd (by decide) c) (fun _ => ?_)
                refine lv_iconst (v := 0) hx hb dX12_compare_113 (by decide) ?_
                exact tk_zret hC hr rfl hlocks hK ⟨hT, hF, (Or.inl ⟨rfl, ⟨x25, c1299, (show 1 ≤ x25.toInt by omega), (show x25.toInt ≤ 400 by omega)⟩, ⟨x1290, c1291, (show 1 ≤ x1290.toInt by omega), (show x1290.toInt ≤ 3205 by omega)⟩, ⟨2, c1298, (by decide), (by decide)⟩⟩)⟩ hw dX12_compare_114
              · have g1296 : x1294.toInt = x29.toInt + 1 := by have q := g1296; simp only [c1279, c1295] at q; omega
                refine lv_if_ne (tgt := 115) hx hb dX12_compare_110 (by decide) (fun _ => ?_) (fun c => absurd c (by decide))
                refine lv_iload_n hx hb dX12_compare_115 rfl (lv_at hl 2 rfl) ?_
                refine lv_bipush (v := 60) hx hb dX12_compare_116 (by decide) ?_
                refine lv_icmp_ne (tgt := 133) hx hb dX12_compare_118 (by decide) (fun _ => ?_) (fun c => absurd (show r834.toInt = (60 : Int) from wk_eq.mp c) (by omega))
                refine lv_iload_n hx hb dX12_compare_133 rfl (lv_at hl 2 rfl) ?_
                refine lv_bipush (v := 61) hx hb dX12_compare_134 (by decide) ?_
                refine lv_icmp_ne (tgt := 143) hx hb dX12_compare_136 (by decide) (fun _ => ?_) (fun c => absurd (show r834.toInt = (61 : Int) from wk_eq.mp c) (by omega))
                refine lv_iload_n hx hb dX12_compare_143 rfl (lv_at hl 0 rfl) ?_
                refine lv_if_eq (tgt := 151) hx hb dX12_compare_144 (by decide) (fun _ => ?_) (fun c => absurd (by decide) c)
                refine lv_iconst (v := 4) hx hb dX12_compare_151 (by decide) ?_
                refine lv_istore (lv' := [(4, .int 4), (3, .int 0), (2, .int x842), (1, .int r834), (0, .ref (ad 0))]) hx hb dX12_compare_152 hl (by decide) rfl (fun ls hl => ?_)
                refine lv_aload_n hx hb dX12_compare_154 rfl (lv_at hl 4 rfl) ?_
                refine tk_Vi hC hK hw hT hA hE hSR kM_at0 (by decide) rfl (k_X12_sum_3 l adK adV dC dI cy ad B (by omega) (by omega) qr s1    w1288 H.size hT c1298 x1294 c1295 (show 0 ≤ x1294.toInt by omega) (show x1294.toInt ≤ 60 by omega) x45 c1300 (show 0 ≤ x45.toInt by omega) (show x45.toInt ≤ 400 by omega) (show 3 * x45.toInt ≤ 14 * x1294.toInt + 60 by omega) (show x45.toInt ≤ 300 by omega)) (cwV 0 hC.2.2.2.2 gX12_compare_X12_sum rfl rfl rfl (by decide +kernel) ⟨Nat.le_of_ble_eq_true rfl, Nat.le_of_ble_eq_true rfl⟩) rfl hl.1 rfl (Nat.le_of_ble_eq_true rfl) dX12_compare_155 (fun r1302 w1304 H locs hp1303 hw => ?_)
                obtain ⟨hT, k1305, hg1334⟩ := hp1303
                have hF := hF.tr k1305 (by decide)
                have c1335 := k1305.gi kM_at0 (by decide) c1298
                have c1336 := k1305.gi kM_at0 (by decide) c1299
                rcases hg1334 with ⟨rfl, ⟨x1306, c1307, rx1306, tx1306⟩, ⟨x1308, c1309, rx1308, tx1308⟩, ⟨x1310, c1311, rx1310, tx1310⟩⟩ | ⟨rfl, ⟨x1312, c1313, rx1312, tx1312⟩, ⟨x1314, c1315, rx1314, tx1314⟩, ⟨x1316, c1317, rx1316, tx1316⟩⟩ | ⟨rfl, ⟨x1318, c1319, rx1318, tx1318⟩, ⟨x1320, c1321, rx1320, tx1320⟩, ⟨x1322, c1323, rx1322, tx1322⟩, g1324, g1325⟩ | ⟨rfl, ⟨x1326, c1327, rx1326, tx1326⟩, ⟨x1328, c1329, rx1328, tx1328⟩, ⟨x1330, c1331, rx1330, tx1330⟩, g1332, g1333⟩
                · have ex1306 : x1306.toInt = x25.toInt := by rw [← c1336.symm.trans c1307]
                  have ex1310 : x1310.toInt = (2 : Int) := by rw [show x1310 = 2 from c1311.symm.trans c1335]; decide
                  obtain ⟨x1337, c1338, rx1337, tx1337⟩ := hT.rda (lo := 0) (hi := 400) (i := 2) kM_at3 rfl rfl (by decide)
                  obtain ⟨x1339, c1340, rx1339, tx1339⟩ := hT.rdi (lo := 0) (hi := 60) (k := 18) kM_at0 (by decide) rfl
                  refine lv_if_ne (tgt := 163) hx hb dX12_compare_158 (by decide) (fun c => absurd (by decide) c) (fun _ => ?_)
                  refine lv_iconst (v := 0) hx hb dX12_compare_161 (by decide) ?_
                  exact tk_zret hC hr rfl hlocks hK ⟨hT, hF, (Or.inl ⟨rfl, ⟨x25, c1336, (show 1 ≤ x25.toInt by omega), (show x25.toInt ≤ 400 by omega)⟩, ⟨x1308, c1309, (show 1 ≤ x1308.toInt by omega), (show x1308.toInt ≤ 3205 by omega)⟩, ⟨2, c1335, (by decide), (by decide)⟩⟩)⟩ hw dX12_compare_162
                · have ex1312 : x1312.toInt = x25.toInt := by rw [← c1336.symm.trans c1313]
                  have ex1316 : x1316.toInt = (2 : Int) := by rw [show x1316 = 2 from c1317.symm.trans c1335]; decide
                  obtain ⟨x1341, c1342, rx1341, tx1341⟩ := hT.rda (lo := 0) (hi := 400) (i := 2) kM_at3 rfl rfl (by decide)
                  obtain ⟨x1343, c1344, rx1343, tx1343⟩ := hT.rdi (lo := 0) (hi := 60) (k := 18) kM_at0 (by decide) rfl
                  refine lv_if_ne (tgt := 163) hx hb dX12_compare_158 (by decide) (fun c => absurd (by decide) c) (fun _ => ?_)
                  refine lv_iconst (v := 0) hx hb dX12_compare_161 (by decide) ?_
                  exact tk_zret hC hr rfl hlocks hK ⟨hT, hF, (Or.inl ⟨rfl, ⟨x25, c1336, (show 1 ≤ x25.toInt by omega), (show x25.toInt ≤ 400 by omega)⟩, ⟨x1314, c1315, (show 1 ≤ x1314.toInt by omega), (show x1314.toInt ≤ 3205 by omega)⟩, ⟨2, c1335, (by decide), (by decide)⟩⟩)⟩ hw dX12_compare_162
                · have ex1318 : x1318.toInt = x25.toInt := by rw [← c1336.symm.trans c1319]
                  have ex1320 : x1320.toInt = (2 : Int) := by rw [show x1320 = 2 from c1321.symm.trans c1335]; decide
                  obtain ⟨x1345, c1346, rx1345, tx1345⟩ := hT.rda (lo := 0) (hi := 400) (i := 2) kM_at3 rfl rfl (by decide)
                  have g1324 : 3 * x1345.toInt + 11 ≤ 3 * x45.toInt + 14 * (x1322.toInt - x1294.toInt) := by have q := g1324; simp only [c1300, c1346, c1295, c1323] at q; omega
                  have g1325 : x1294.toInt + 1 ≤ x1322.toInt := by have q := g1325; simp only [c1295, c1323] at q; omega
                  refine lv_if_ne (tgt := 163) hx hb dX12_compare_158 (by decide) (fun _ => ?_) (fun c => absurd c (by decide))
                  refine lv_aload_n hx hb dX12_compare_163 rfl (lv_at hl 4 rfl) ?_
                  refine lv_bipush (v := 6) hx hb dX12_compare_164 (by decide) ?_
                  refine lv_iload hx hb dX12_compare_166 (lv_at hl 0 rfl) ?_
                  refine lv_iadd hx hb dX12_compare_168 ?_
                  refine wk_top 10 (by decide) ?_
                  refine lv_iconst (v := 0) hx hb dX12_compare_169 (by decide) ?_
                  refine tk_Vv hC hK hw hT hA hE hSR kM_at0 (by decide) rfl (k_X12_puts_3 l adK adV dC dI cy ad B (by omega) (by omega) qr s1   10 (by decide) (by decide) 0 w1304 H.size hT c1335 x1345 c1346 (show 0 ≤ x1345.toInt by omega) (show x1345.toInt ≤ 400 by omega) (show x1345.toInt ≤ 399 by omega)) (cwV 2 hC.2.2.2.2 gX12_compare_X12_puts rfl rfl rfl (by decide +kernel) ⟨Nat.le_of_ble_eq_true rfl, Nat.le_of_ble_eq_true rfl⟩) rfl hl.1 rfl (Nat.le_of_ble_eq_true rfl) dX12_compare_170 (fun w1351 H locs hp1350 hw => ?_)
                  obtain ⟨hT, k1352, hg1356⟩ := hp1350
                  have hF := hF.tr k1352 (by decide)
                  have c1357 := k1352.gi kM_at0 (by decide) c1335
                  have c1358 := k1352.gi kM_at0 (by decide) c1336
                  have c1359 := k1352.gi kM_at0 (by decide) c1323
                  obtain ⟨⟨x1353, c1354, rx1353, tx1353⟩, g1355⟩ := hg1356
                  have ex1353 : x1353.toInt = (2 : Int) := by rw [show x1353 = 2 from c1354.symm.trans c1357]; decide
                  obtain ⟨x1360, c1361, rx1360, tx1360⟩ := hT.rda (lo := 0) (hi := 400) (i := 2) kM_at3 rfl rfl (by decide)
                  have g1355 : x1360.toInt = x1345.toInt + 1 := by have q := g1355; simp only [c1346, c1361] at q; omega
                  refine lv_iconst (v := 1) hx hb dX12_compare_173 (by decide) ?_
                  exact tk_zret hC hr rfl hlocks hK ⟨hT, hF, (Or.inr (Or.inr ⟨rfl, ⟨x25, c1358, (show 1 ≤ x25.toInt by omega), (show x25.toInt ≤ 400 by omega)⟩, ⟨2, c1357, (by decide), (by decide)⟩, ⟨x1322, c1359, (show 1 ≤ x1322.toInt by omega), (show x1322.toInt ≤ 60 by omega)⟩, (by simp only [cf2_, c1361, cf1_, c1359]; omega), (by simp only [cf1_, c1359]; omega)⟩))⟩ hw dX12_compare_174
                · have ex1326 : x1326.toInt = x25.toInt := by rw [← c1336.symm.trans c1327]
                  have ex1328 : x1328.toInt = (2 : Int) := by rw [show x1328 = 2 from c1329.symm.trans c1335]; decide
                  obtain ⟨x1347, c1348, rx1347, tx1347⟩ := hT.rda (lo := 0) (hi := 400) (i := 2) kM_at3 rfl rfl (by decide)
                  have g1332 : 3 * x1347.toInt + 11 ≤ 3 * x45.toInt + 14 * (x1330.toInt - x1294.toInt) := by have q := g1332; simp only [c1300, c1348, c1295, c1331] at q; omega
                  have g1333 : x1294.toInt + 1 ≤ x1330.toInt := by have q := g1333; simp only [c1295, c1331] at q; omega
                  refine lv_if_ne (tgt := 163) hx hb dX12_compare_158 (by decide) (fun _ => ?_) (fun c => absurd c (by decide))
                  refine lv_aload_n hx hb dX12_compare_163 rfl (lv_at hl 4 rfl) ?_
                  refine lv_bipush (v := 6) hx hb dX12_compare_164 (by decide) ?_
                  refine lv_iload hx hb dX12_compare_166 (lv_at hl 0 rfl) ?_
                  refine lv_iadd hx hb dX12_compare_168 ?_
                  refine wk_top 10 (by decide) ?_
                  refine lv_iconst (v := 0) hx hb dX12_compare_169 (by decide) ?_
                  refine tk_Vv hC hK hw hT hA hE hSR kM_at0 (by decide) rfl (k_X12_puts_3 l adK adV dC dI cy ad B (by omega) (by omega) qr s1   10 (by decide) (by decide) 0 w1304 H.size hT c1335 x1347 c1348 (show 0 ≤ x1347.toInt by omega) (show x1347.toInt ≤ 400 by omega) (show x1347.toInt ≤ 399 by omega)) (cwV 2 hC.2.2.2.2 gX12_compare_X12_puts rfl rfl rfl (by decide +kernel) ⟨Nat.le_of_ble_eq_true rfl, Nat.le_of_ble_eq_true rfl⟩) rfl hl.1 rfl (Nat.le_of_ble_eq_true rfl) dX12_compare_170 (fun w1364 H locs hp1363 hw => ?_)
                  obtain ⟨hT, k1365, hg1369⟩ := hp1363
                  have hF := hF.tr k1365 (by decide)
                  have c1370 := k1365.gi kM_at0 (by decide) c1335
                  have c1371 := k1365.gi kM_at0 (by decide) c1336
                  have c1372 := k1365.gi kM_at0 (by decide) c1331
                  obtain ⟨⟨x1366, c1367, rx1366, tx1366⟩, g1368⟩ := hg1369
                  have ex1366 : x1366.toInt = (2 : Int) := by rw [show x1366 = 2 from c1367.symm.trans c1370]; decide
                  obtain ⟨x1373, c1374, rx1373, tx1373⟩ := hT.rda (lo := 0) (hi := 400) (i := 2) kM_at3 rfl rfl (by decide)
                  have g1368 : x1373.toInt = x1347.toInt + 1 := by have q := g1368; simp only [c1348, c1374] at q; omega
                  refine lv_iconst (v := 1) hx hb dX12_compare_173 (by decide) ?_
                  exact tk_zret hC hr rfl hlocks hK ⟨hT, hF, (Or.inr (Or.inr ⟨rfl, ⟨x25, c1371, (show 1 ≤ x25.toInt by omega), (show x25.toInt ≤ 400 by omega)⟩, ⟨2, c1370, (by decide), (by decide)⟩, ⟨x1330, c1372, (show 1 ≤ x1330.toInt by omega), (show x1330.toInt ≤ 60 by omega)⟩, (by simp only [cf2_, c1374, cf1_, c1372]; omega), (by simp only [cf1_, c1372]; omega)⟩))⟩ hw dX12_compare_174
            · have c1285 : x1273.toInt < x25.toInt := wk_leF c1285
              refine lv_aload_n hx hb dX12_compare_71 rfl (lv_at hl 2 rfl) ?_
              refine tk_getA hC hK hw hT hinX12 kM_at0 (by decide) rfl 0 (by decide) (List.mem_of_getElem? (i := 3) rfl) rfl rfl dX12_compare_72 ?_
              refine lv_aload_n hx hb dX12_compare_75 rfl (lv_at hl 2 rfl) ?_
              refine tk_geti hC hK hw hT hinX12 kM_at0 (by decide) rfl 14 (by decide) (List.mem_of_getElem? (i := 1) rfl) rfl rfl dX12_compare_76 (fun x1375 c1376 rx1375 tx1375 => ?_)
              refine wk_top x1273 (c1376.symm.trans c1275) ?_
              refine tk_bald hC hK hw hT kM_at1 rfl rfl (show 0 ≤ x1273.toInt by omega) (show x1273.toInt < 400 by omega) dX12_compare_79 (fun x1377 c1378 rx1377 tx1377 => ?_)
              have c1378 : gi w1274 1 (1 * x842.toInt + 1).toNat = x1377 := (congrArg (gi w1274 1) (congrArg Int.toNat (show 1 * x842.toInt + 1 = x1273.toInt by omega))).trans c1378
              refine lv_bipush (v := 61) hx hb dX12_compare_80 (by decide) ?_
              refine lv_icmp_ne (tgt := 89) hx hb dX12_compare_82 (by decide) (fun c1379 => ?_) (fun c1379 => ?_)
              · have c1379 : ¬ x1377.toInt = (61 : Int) := wk_eqF c1379
                refine lv_iconst (v := 0) hx hb dX12_compare_89 (by decide) ?_
                refine lv_istore_n (lv' := [(3, .int 0), (2, .int x842), (1, .int r834), (0, .ref (ad 0))]) hx hb dX12_compare_90 rfl hl (by decide) rfl (fun ls hl => ?_)
                refine lv_iload_n hx hb dX12_compare_91 rfl (lv_at hl 0 rfl) ?_
                refine lv_if_eq (tgt := 105) hx hb dX12_compare_92 (by decide) (fun _ => ?_) (fun c => absurd (by decide) c)
                refine lv_aload_n hx hb dX12_compare_105 rfl (lv_at hl 3 rfl) ?_
                refine lv_iload_n hx hb dX12_compare_106 rfl (lv_at hl 1 rfl) ?_
                refine tk_Vi hC hK hw hT hA hE hSR kM_at0 (by decide) rfl (k_X12_makes_1 l adK adV dC dI cy ad B (by omega) (by omega) qr s1   x842 (show 0 ≤ x842.toInt by omega) (show x842.toInt ≤ 398 by omega) w1274 H.size hT x29 c1279 (show 0 ≤ x29.toInt by omega) (show x29.toInt ≤ 60 by omega)) (cwV 1 hC.2.2.2.2 gX12_compare_X12_makes rfl rfl rfl (by decide +kernel) ⟨Nat.le_of_ble_eq_true rfl, Nat.le_of_ble_eq_true rfl⟩) rfl hl.1 rfl (Nat.le_of_ble_eq_true rfl) dX12_compare_107 (fun r1380 w1382 H locs hp1381 hw => ?_)
                obtain ⟨hT, k1383, hg1391⟩ := hp1381
                have hF := hF.tr k1383 (by decide)
                have c1392 := k1383.gi kM_at0 (by decide) c1277
                have c1393 := k1383.gi kM_at0 (by decide) c1278
                have c1394 := k1383.gi kM_at3 (by decide) c1280
                have c1395 := k1383.gi kM_at0 (by decide) c1275
                have c1396 := k1383.gi kM_at1 rfl c1378
                rcases hg1391 with ⟨rfl, ⟨x1384, c1385, rx1384, tx1384⟩, ⟨x1386, c1387, rx1386, tx1386⟩⟩ | ⟨rfl, ⟨x1388, c1389, rx1388, tx1388⟩, g1390⟩
                · refine lv_if_ne (tgt := 115) hx hb dX12_compare_110 (by decide) (fun c => absurd (by decide) c) (fun _ => ?_)
                  refine lv_iconst (v := 0) hx hb dX12_compare_113 (by decide) ?_
                  exact tk_zret hC hr rfl hlocks hK ⟨hT, hF, (Or.inl ⟨rfl, ⟨x25, c1393, (show 1 ≤ x25.toInt by omega), (show x25.toInt ≤ 400 by omega)⟩, ⟨x1384, c1385, (show 1 ≤ x1384.toInt by omega), (show x1384.toInt ≤ 3205 by omega)⟩, ⟨2, c1392, (by decide), (by decide)⟩⟩)⟩ hw dX12_compare_114
                · have g1390 : x1388.toInt = x29.toInt + 1 := by have q := g1390; simp only [c1279, c1389] at q; omega
                  refine lv_if_ne (tgt := 115) hx hb dX12_compare_110 (by decide) (fun _ => ?_) (fun c => absurd c (by decide))
                  refine lv_iload_n hx hb dX12_compare_115 rfl (lv_at hl 2 rfl) ?_
                  refine lv_bipush (v := 60) hx hb dX12_compare_116 (by decide) ?_
                  refine lv_icmp_ne (tgt := 133) hx hb dX12_compare_118 (by decide) (fun _ => ?_) (fun c => absurd (show r834.toInt = (60 : Int) from wk_eq.mp c) (by omega))
                  refine lv_iload_n hx hb dX12_compare_133 rfl (lv_at hl 2 rfl) ?_
                  refine lv_bipush (v := 61) hx hb dX12_compare_134 (by decide) ?_
                  refine lv_icmp_ne (tgt := 143) hx hb dX12_compare_136 (by decide) (fun _ => ?_) (fun c => absurd (show r834.toInt = (61 : Int) from wk_eq.mp c) (by omega))
                  refine lv_iload_n hx hb dX12_compare_143 rfl (lv_at hl 0 rfl) ?_
                  refine lv_if_eq (tgt := 151) hx hb dX12_compare_144 (by decide) (fun _ => ?_) (fun c => absurd (by decide) c)
                  refine lv_iconst (v := 4) hx hb dX12_compare_151 (by decide) ?_
                  refine lv_istore (lv' := [(4, .int 4), (3, .int 0), (2, .int x842), (1, .int r834), (0, .ref (ad 0))]) hx hb dX12_compare_152 hl (by decide) rfl (fun ls hl => ?_)
                  refine lv_aload_n hx hb dX12_compare_154 rfl (lv_at hl 4 rfl) ?_
                  refine tk_Vi hC hK hw hT hA hE hSR kM_at0 (by decide) rfl (k_X12_sum_3 l adK adV dC dI cy ad B (by omega) (by omega) qr s1    w1382 H.size hT c1392 x1388 c1389 (show 0 ≤ x1388.toInt by omega) (show x1388.toInt ≤ 60 by omega) x45 c1394 (show 0 ≤ x45.toInt by omega) (show x45.toInt ≤ 400 by omega) (show 3 * x45.toInt ≤ 14 * x1388.toInt + 60 by omega) (show x45.toInt ≤ 300 by omega)) (cwV 0 hC.2.2.2.2 gX12_compare_X12_sum rfl rfl rfl (by decide +kernel) ⟨Nat.le_of_ble_eq_true rfl, Nat.le_of_ble_eq_true rfl⟩) rfl hl.1 rfl (Nat.le_of_ble_eq_true rfl) dX12_compare_155 (fun r1397 w1399 H locs hp1398 hw => ?_)
                  obtain ⟨hT, k1400, hg1429⟩ := hp1398
                  have hF := hF.tr k1400 (by decide)
                  have c1430 := k1400.gi kM_at0 (by decide) c1392
                  have c1431 := k1400.gi kM_at0 (by decide) c1393
                  have c1432 := k1400.gi kM_at1 rfl c1396
                  rcases hg1429 with ⟨rfl, ⟨x1401, c1402, rx1401, tx1401⟩, ⟨x1403, c1404, rx1403, tx1403⟩, ⟨x1405, c1406, rx1405, tx1405⟩⟩ | ⟨rfl, ⟨x1407, c1408, rx1407, tx1407⟩, ⟨x1409, c1410, rx1409, tx1409⟩, ⟨x1411, c1412, rx1411, tx1411⟩⟩ | ⟨rfl, ⟨x1413, c1414, rx1413, tx1413⟩, ⟨x1415, c1416, rx1415, tx1415⟩, ⟨x1417, c1418, rx1417, tx1417⟩, g1419, g1420⟩ | ⟨rfl, ⟨x1421, c1422, rx1421, tx1421⟩, ⟨x1423, c1424, rx1423, tx1423⟩, ⟨x1425, c1426, rx1425, tx1425⟩, g1427, g1428⟩
                  · have ex1401 : x1401.toInt = x25.toInt := by rw [← c1431.symm.trans c1402]
                    have ex1405 : x1405.toInt = (2 : Int) := by rw [show x1405 = 2 from c1406.symm.trans c1430]; decide
                    obtain ⟨x1433, c1434, rx1433, tx1433⟩ := hT.rda (lo := 0) (hi := 400) (i := 2) kM_at3 rfl rfl (by decide)
                    obtain ⟨x1435, c1436, rx1435, tx1435⟩ := hT.rdi (lo := 0) (hi := 60) (k := 18) kM_at0 (by decide) rfl
                    refine lv_if_ne (tgt := 163) hx hb dX12_compare_158 (by decide) (fun c => absurd (by decide) c) (fun _ => ?_)
                    refine lv_iconst (v := 0) hx hb dX12_compare_161 (by decide) ?_
                    exact tk_zret hC hr rfl hlocks hK ⟨hT, hF, (Or.inl ⟨rfl, ⟨x25, c1431, (show 1 ≤ x25.toInt by omega), (show x25.toInt ≤ 400 by omega)⟩, ⟨x1403, c1404, (show 1 ≤ x1403.toInt by omega), (show x1403.toInt ≤ 3205 by omega)⟩, ⟨2, c1430, (by decide), (by decide)⟩⟩)⟩ hw dX12_compare_162
                  · have ex1407 : x1407.toInt = x25.toInt := by rw [← c1431.symm.trans c1408]
                    have ex1411 : x1411.toInt = (2 : Int) := by rw [show x1411 = 2 from c1412.symm.trans c1430]; decide
                    obtain ⟨x1437, c1438, rx1437, tx1437⟩ := hT.rda (lo := 0) (hi := 400) (i := 2) kM_at3 rfl rfl (by decide)
                    obtain ⟨x1439, c1440, rx1439, tx1439⟩ := hT.rdi (lo := 0) (hi := 60) (k := 18) kM_at0 (by decide) rfl
                    refine lv_if_ne (tgt := 163) hx hb dX12_compare_158 (by decide) (fun c => absurd (by decide) c) (fun _ => ?_)
                    refine lv_iconst (v := 0) hx hb dX12_compare_161 (by decide) ?_
                    exact tk_zret hC hr rfl hlocks hK ⟨hT, hF, (Or.inl ⟨rfl, ⟨x25, c1431, (show 1 ≤ x25.toInt by omega), (show x25.toInt ≤ 400 by omega)⟩, ⟨x1409, c1410, (show 1 ≤ x1409.toInt by omega), (show x1409.toInt ≤ 3205 by omega)⟩, ⟨2, c1430, (by decide), (by decide)⟩⟩)⟩ hw dX12_compare_162
                  · have ex1413 : x1413.toInt = x25.toInt := by rw [← c1431.symm.trans c1414]
                    have ex1415 : x1415.toInt = (2 : Int) := by rw [show x1415 = 2 from c1416.symm.trans c1430]; decide
                    obtain ⟨x1441, c1442, rx1441, tx1441⟩ := hT.rda (lo := 0) (hi := 400) (i := 2) kM_at3 rfl rfl (by decide)
                    have g1419 : 3 * x1441.toInt + 11 ≤ 3 * x45.toInt + 14 * (x1417.toInt - x1388.toInt) := by have q := g1419; simp only [c1394, c1442, c1389, c1418] at q; omega
                    have g1420 : x1388.toInt + 1 ≤ x1417.toInt := by have q := g1420; simp only [c1389, c1418] at q; omega
                    refine lv_if_ne (tgt := 163) hx hb dX12_compare_158 (by decide) (fun _ => ?_) (fun c => absurd c (by decide))
                    refine lv_aload_n hx hb dX12_compare_163 rfl (lv_at hl 4 rfl) ?_
                    refine lv_bipush (v := 6) hx hb dX12_compare_164 (by decide) ?_
                    refine lv_iload hx hb dX12_compare_166 (lv_at hl 0 rfl) ?_
                    refine lv_iadd hx hb dX12_compare_168 ?_
                    refine wk_top 10 (by decide) ?_
                    refine lv_iconst (v := 0) hx hb dX12_compare_169 (by decide) ?_
                    refine tk_Vv hC hK hw hT hA hE hSR kM_at0 (by decide) rfl (k_X12_puts_3 l adK adV dC dI cy ad B (by omega) (by omega) qr s1   10 (by decide) (by decide) 0 w1399 H.size hT c1430 x1441 c1442 (show 0 ≤ x1441.toInt by omega) (show x1441.toInt ≤ 400 by omega) (show x1441.toInt ≤ 399 by omega)) (cwV 2 hC.2.2.2.2 gX12_compare_X12_puts rfl rfl rfl (by decide +kernel) ⟨Nat.le_of_ble_eq_true rfl, Nat.le_of_ble_eq_true rfl⟩) rfl hl.1 rfl (Nat.le_of_ble_eq_true rfl) dX12_compare_170 (fun w1447 H locs hp1446 hw => ?_)
                    obtain ⟨hT, k1448, hg1452⟩ := hp1446
                    have hF := hF.tr k1448 (by decide)
                    have c1453 := k1448.gi kM_at0 (by decide) c1430
                    have c1454 := k1448.gi kM_at0 (by decide) c1431
                    have c1455 := k1448.gi kM_at1 rfl c1432
                    have c1456 := k1448.gi kM_at0 (by decide) c1418
                    obtain ⟨⟨x1449, c1450, rx1449, tx1449⟩, g1451⟩ := hg1452
                    have ex1449 : x1449.toInt = (2 : Int) := by rw [show x1449 = 2 from c1450.symm.trans c1453]; decide
                    obtain ⟨x1457, c1458, rx1457, tx1457⟩ := hT.rda (lo := 0) (hi := 400) (i := 2) kM_at3 rfl rfl (by decide)
                    have g1451 : x1457.toInt = x1441.toInt + 1 := by have q := g1451; simp only [c1442, c1458] at q; omega
                    refine lv_iconst (v := 1) hx hb dX12_compare_173 (by decide) ?_
                    exact tk_zret hC hr rfl hlocks hK ⟨hT, hF, (Or.inr (Or.inr ⟨rfl, ⟨x25, c1454, (show 1 ≤ x25.toInt by omega), (show x25.toInt ≤ 400 by omega)⟩, ⟨2, c1453, (by decide), (by decide)⟩, ⟨x1417, c1456, (show 1 ≤ x1417.toInt by omega), (show x1417.toInt ≤ 60 by omega)⟩, (by simp only [cf2_, c1458, cf1_, c1456]; omega), (by simp only [cf1_, c1456]; omega)⟩))⟩ hw dX12_compare_174
                  · have ex1421 : x1421.toInt = x25.toInt := by rw [← c1431.symm.trans c1422]
                    have ex1423 : x1423.toInt = (2 : Int) := by rw [show x1423 = 2 from c1424.symm.trans c1430]; decide
                    obtain ⟨x1443, c1444, rx1443, tx1443⟩ := hT.rda (lo := 0) (hi := 400) (i := 2) kM_at3 rfl rfl (by decide)
                    have g1427 : 3 * x1443.toInt + 11 ≤ 3 * x45.toInt + 14 * (x1425.toInt - x1388.toInt) := by have q := g1427; simp only [c1394, c1444, c1389, c1426] at q; omega
                    have g1428 : x1388.toInt + 1 ≤ x1425.toInt := by have q := g1428; simp only [c1389, c1426] at q; omega
                    refine lv_if_ne (tgt := 163) hx hb dX12_compare_158 (by decide) (fun _ => ?_) (fun c => absurd c (by decide))
                    refine lv_aload_n hx hb dX12_compare_163 rfl (lv_at hl 4 rfl) ?_
                    refine lv_bipush (v := 6) hx hb dX12_compare_164 (by decide) ?_
                    refine lv_iload hx hb dX12_compare_166 (lv_at hl 0 rfl) ?_
                    refine lv_iadd hx hb dX12_compare_168 ?_
                    refine wk_top 10 (by decide) ?_
                    refine lv_iconst (v := 0) hx hb dX12_compare_169 (by decide) ?_
                    refine tk_Vv hC hK hw hT hA hE hSR kM_at0 (by decide) rfl (k_X12_puts_3 l adK adV dC dI cy ad B (by omega) (by omega) qr s1   10 (by decide) (by decide) 0 w1399 H.size hT c1430 x1443 c1444 (show 0 ≤ x1443.toInt by omega) (show x1443.toInt ≤ 400 by omega) (show x1443.toInt ≤ 399 by omega)) (cwV 2 hC.2.2.2.2 gX12_compare_X12_puts rfl rfl rfl (by decide +kernel) ⟨Nat.le_of_ble_eq_true rfl, Nat.le_of_ble_eq_true rfl⟩) rfl hl.1 rfl (Nat.le_of_ble_eq_true rfl) dX12_compare_170 (fun w1461 H locs hp1460 hw => ?_)
                    obtain ⟨hT, k1462, hg1466⟩ := hp1460
                    have hF := hF.tr k1462 (by decide)
                    have c1467 := k1462.gi kM_at0 (by decide) c1430
                    have c1468 := k1462.gi kM_at0 (by decide) c1431
                    have c1469 := k1462.gi kM_at1 rfl c1432
                    have c1470 := k1462.gi kM_at0 (by decide) c1426
                    obtain ⟨⟨x1463, c1464, rx1463, tx1463⟩, g1465⟩ := hg1466
                    have ex1463 : x1463.toInt = (2 : Int) := by rw [show x1463 = 2 from c1464.symm.trans c1467]; decide
                    obtain ⟨x1471, c1472, rx1471, tx1471⟩ := hT.rda (lo := 0) (hi := 400) (i := 2) kM_at3 rfl rfl (by decide)
                    have g1465 : x1471.toInt = x1443.toInt + 1 := by have q := g1465; simp only [c1444, c1472] at q; omega
                    refine lv_iconst (v := 1) hx hb dX12_compare_173 (by decide) ?_
                    exact tk_zret hC hr rfl hlocks hK ⟨hT, hF, (Or.inr (Or.inr ⟨rfl, ⟨x25, c1468, (show 1 ≤ x25.toInt by omega), (show x25.toInt ≤ 400 by omega)⟩, ⟨2, c1467, (by decide), (by decide)⟩, ⟨x1425, c1470, (show 1 ≤ x1425.toInt by omega), (show x1425.toInt ≤ 60 by omega)⟩, (by simp only [cf2_, c1472, cf1_, c1470]; omega), (by simp only [cf1_, c1470]; omega)⟩))⟩ hw dX12_compare_174
              · have c1379 : x1377.toInt = (61 : Int) := wk_eq.mp c1379
                refine lv_iconst (v := 1) hx hb dX12_compare_85 (by decide) ?_
                refine lv_goto (tgt := 90) hx hb dX12_compare_86 (by decide) ?_
                refine lv_istore_n (lv' := [(3, .int 1), (2, .int x842), (1, .int r834), (0, .ref (ad 0))]) hx hb dX12_compare_90 rfl hl (by decide) rfl (fun ls hl => ?_)
                refine lv_iload_n hx hb dX12_compare_91 rfl (lv_at hl 0 rfl) ?_
                refine lv_if_eq (tgt := 105) hx hb dX12_compare_92 (by decide) (fun c => absurd c (by decide)) (fun _ => ?_)
                refine lv_aload_n hx hb dX12_compare_95 rfl (lv_at hl 3 rfl) ?_
                refine lv_dup hx hb dX12_compare_96 rfl ?_
                refine tk_geti hC hK hw hT hinX12 kM_at0 (by decide) rfl 14 (by decide) (List.mem_of_getElem? (i := 1) rfl) rfl rfl dX12_compare_97 (fun x1473 c1474 rx1473 tx1473 => ?_)
                refine wk_top x1273 (c1474.symm.trans c1275) ?_
                refine lv_iconst (v := 1) hx hb dX12_compare_100 (by decide) ?_
                refine lv_iadd hx hb dX12_compare_101 ?_
                refine lv_topi (fun x1475 ex1475 => ?_)
                have ex1475 : x1475.toInt = x1273.toInt + (1 : Int) := by rw [ex1475]; exact wk_add (show (-2147483648) ≤ x1273.toInt + (1 : Int) by omega) (show x1273.toInt + (1 : Int) ≤ 2147483647 by omega)
                refine tk_puti hC hK hw hT hinX12 tyX12_ok nmX12 kM_at0 (by decide) rfl rfl 14 (by decide) (List.mem_of_getElem? (i := 1) rfl) rfl rfl rfl rfl (show 0 ≤ x1475.toInt by omega) (show x1475.toInt ≤ 400 by omega) dX12_compare_102 (fun H locs w1476 hw hT k1478 c1477 => ?_)
                have hF := hF.put kM_at0 (k := 14) (by decide) k1478
                have c1479 := k1478.gi (Or.inr (by decide)) c1277
                have c1480 := k1478.gi (Or.inr (by decide)) c1278
                have c1481 := k1478.gi (Or.inr (by decide)) c1279
                have c1482 := k1478.gi (Or.inr (by decide)) c1280
                have c1483 := k1478.gi (Or.inl (tk_ne kM_at1 kM_at0 (by decide))) c1378
                refine lv_aload_n hx hb dX12_compare_105 rfl (lv_at hl 3 rfl) ?_
                refine lv_iload_n hx hb dX12_compare_106 rfl (lv_at hl 1 rfl) ?_
                refine tk_Vi hC hK hw hT hA hE hSR kM_at0 (by decide) rfl (k_X12_makes_1 l adK adV dC dI cy ad B (by omega) (by omega) qr s1   x842 (show 0 ≤ x842.toInt by omega) (show x842.toInt ≤ 398 by omega) w1476 H.size hT x29 c1481 (show 0 ≤ x29.toInt by omega) (show x29.toInt ≤ 60 by omega)) (cwV 1 hC.2.2.2.2 gX12_compare_X12_makes rfl rfl rfl (by decide +kernel) ⟨Nat.le_of_ble_eq_true rfl, Nat.le_of_ble_eq_true rfl⟩) rfl hl.1 rfl (Nat.le_of_ble_eq_true rfl) dX12_compare_107 (fun r1484 w1486 H locs hp1485 hw => ?_)
                obtain ⟨hT, k1487, hg1495⟩ := hp1485
                have hF := hF.tr k1487 (by decide)
                have c1496 := k1487.gi kM_at0 (by decide) c1479
                have c1497 := k1487.gi kM_at0 (by decide) c1480
                have c1498 := k1487.gi kM_at3 (by decide) c1482
                have c1499 := k1487.gi kM_at1 rfl c1483
                have c1500 := k1487.gi kM_at0 (by decide) c1477
                rcases hg1495 with ⟨rfl, ⟨x1488, c1489, rx1488, tx1488⟩, ⟨x1490, c1491, rx1490, tx1490⟩⟩ | ⟨rfl, ⟨x1492, c1493, rx1492, tx1492⟩, g1494⟩
                · refine lv_if_ne (tgt := 115) hx hb dX12_compare_110 (by decide) (fun c => absurd (by decide) c) (fun _ => ?_)
                  refine lv_iconst (v := 0) hx hb dX12_compare_113 (by decide) ?_
                  exact tk_zret hC hr rfl hlocks hK ⟨hT, hF, (Or.inl ⟨rfl, ⟨x25, c1497, (show 1 ≤ x25.toInt by omega), (show x25.toInt ≤ 400 by omega)⟩, ⟨x1488, c1489, (show 1 ≤ x1488.toInt by omega), (show x1488.toInt ≤ 3205 by omega)⟩, ⟨2, c1496, (by decide), (by decide)⟩⟩)⟩ hw dX12_compare_114
                · have g1494 : x1492.toInt = x29.toInt + 1 := by have q := g1494; simp only [c1481, c1493] at q; omega
                  refine lv_if_ne (tgt := 115) hx hb dX12_compare_110 (by decide) (fun _ => ?_) (fun c => absurd c (by decide))
                  refine lv_iload_n hx hb dX12_compare_115 rfl (lv_at hl 2 rfl) ?_
                  refine lv_bipush (v := 60) hx hb dX12_compare_116 (by decide) ?_
                  refine lv_icmp_ne (tgt := 133) hx hb dX12_compare_118 (by decide) (fun _ => ?_) (fun c => absurd (show r834.toInt = (60 : Int) from wk_eq.mp c) (by omega))
                  refine lv_iload_n hx hb dX12_compare_133 rfl (lv_at hl 2 rfl) ?_
                  refine lv_bipush (v := 61) hx hb dX12_compare_134 (by decide) ?_
                  refine lv_icmp_ne (tgt := 143) hx hb dX12_compare_136 (by decide) (fun _ => ?_) (fun c => absurd (show r834.toInt = (61 : Int) from wk_eq.mp c) (by omega))
                  refine lv_iload_n hx hb dX12_compare_143 rfl (lv_at hl 0 rfl) ?_
                  refine lv_if_eq (tgt := 151) hx hb dX12_compare_144 (by decide) (fun c => absurd c (by decide)) (fun _ => ?_)
                  refine lv_iconst (v := 3) hx hb dX12_compare_147 (by decide) ?_
                  refine lv_goto (tgt := 152) hx hb dX12_compare_148 (by decide) ?_
                  refine lv_istore (lv' := [(4, .int 3), (3, .int 1), (2, .int x842), (1, .int r834), (0, .ref (ad 0))]) hx hb dX12_compare_152 hl (by decide) rfl (fun ls hl => ?_)
                  refine lv_aload_n hx hb dX12_compare_154 rfl (lv_at hl 4 rfl) ?_
                  refine tk_Vi hC hK hw hT hA hE hSR kM_at0 (by decide) rfl (k_X12_sum_3 l adK adV dC dI cy ad B (by omega) (by omega) qr s1    w1486 H.size hT c1496 x1492 c1493 (show 0 ≤ x1492.toInt by omega) (show x1492.toInt ≤ 60 by omega) x45 c1498 (show 0 ≤ x45.toInt by omega) (show x45.toInt ≤ 400 by omega) (show 3 * x45.toInt ≤ 14 * x1492.toInt + 60 by omega) (show x45.toInt ≤ 300 by omega)) (cwV 0 hC.2.2.2.2 gX12_compare_X12_sum rfl rfl rfl (by decide +kernel) ⟨Nat.le_of_ble_eq_true rfl, Nat.le_of_ble_eq_true rfl⟩) rfl hl.1 rfl (Nat.le_of_ble_eq_true rfl) dX12_compare_155 (fun r1501 w1503 H locs hp1502 hw => ?_)
                  obtain ⟨hT, k1504, hg1533⟩ := hp1502
                  have hF := hF.tr k1504 (by decide)
                  have c1534 := k1504.gi kM_at0 (by decide) c1496
                  have c1535 := k1504.gi kM_at0 (by decide) c1497
                  have c1536 := k1504.gi kM_at1 rfl c1499
                  rcases hg1533 with ⟨rfl, ⟨x1505, c1506, rx1505, tx1505⟩, ⟨x1507, c1508, rx1507, tx1507⟩, ⟨x1509, c1510, rx1509, tx1509⟩⟩ | ⟨rfl, ⟨x1511, c1512, rx1511, tx1511⟩, ⟨x1513, c1514, rx1513, tx1513⟩, ⟨x1515, c1516, rx1515, tx1515⟩⟩ | ⟨rfl, ⟨x1517, c1518, rx1517, tx1517⟩, ⟨x1519, c1520, rx1519, tx1519⟩, ⟨x1521, c1522, rx1521, tx1521⟩, g1523, g1524⟩ | ⟨rfl, ⟨x1525, c1526, rx1525, tx1525⟩, ⟨x1527, c1528, rx1527, tx1527⟩, ⟨x1529, c1530, rx1529, tx1529⟩, g1531, g1532⟩
                  · have ex1505 : x1505.toInt = x25.toInt := by rw [← c1535.symm.trans c1506]
                    have ex1509 : x1509.toInt = (2 : Int) := by rw [show x1509 = 2 from c1510.symm.trans c1534]; decide
                    obtain ⟨x1537, c1538, rx1537, tx1537⟩ := hT.rda (lo := 0) (hi := 400) (i := 2) kM_at3 rfl rfl (by decide)
                    obtain ⟨x1539, c1540, rx1539, tx1539⟩ := hT.rdi (lo := 0) (hi := 60) (k := 18) kM_at0 (by decide) rfl
                    refine lv_if_ne (tgt := 163) hx hb dX12_compare_158 (by decide) (fun c => absurd (by decide) c) (fun _ => ?_)
                    refine lv_iconst (v := 0) hx hb dX12_compare_161 (by decide) ?_
                    exact tk_zret hC hr rfl hlocks hK ⟨hT, hF, (Or.inl ⟨rfl, ⟨x25, c1535, (show 1 ≤ x25.toInt by omega), (show x25.toInt ≤ 400 by omega)⟩, ⟨x1507, c1508, (show 1 ≤ x1507.toInt by omega), (show x1507.toInt ≤ 3205 by omega)⟩, ⟨2, c1534, (by decide), (by decide)⟩⟩)⟩ hw dX12_compare_162
                  · have ex1511 : x1511.toInt = x25.toInt := by rw [← c1535.symm.trans c1512]
                    have ex1515 : x1515.toInt = (2 : Int) := by rw [show x1515 = 2 from c1516.symm.trans c1534]; decide
                    obtain ⟨x1541, c1542, rx1541, tx1541⟩ := hT.rda (lo := 0) (hi := 400) (i := 2) kM_at3 rfl rfl (by decide)
                    obtain ⟨x1543, c1544, rx1543, tx1543⟩ := hT.rdi (lo := 0) (hi := 60) (k := 18) kM_at0 (by decide) rfl
                    refine lv_if_ne (tgt := 163) hx hb dX12_compare_158 (by decide) (fun c => absurd (by decide) c) (fun _ => ?_)
                    refine lv_iconst (v := 0) hx hb dX12_compare_161 (by decide) ?_
                    exact tk_zret hC hr rfl hlocks hK ⟨hT, hF, (Or.inl ⟨rfl, ⟨x25, c1535, (show 1 ≤ x25.toInt by omega), (show x25.toInt ≤ 400 by omega)⟩, ⟨x1513, c1514, (show 1 ≤ x1513.toInt by omega), (show x1513.toInt ≤ 3205 by omega)⟩, ⟨2, c1534, (by decide), (by decide)⟩⟩)⟩ hw dX12_compare_162
                  · have ex1517 : x1517.toInt = x25.toInt := by rw [← c1535.symm.trans c1518]
                    have ex1519 : x1519.toInt = (2 : Int) := by rw [show x1519 = 2 from c1520.symm.trans c1534]; decide
                    obtain ⟨x1545, c1546, rx1545, tx1545⟩ := hT.rda (lo := 0) (hi := 400) (i := 2) kM_at3 rfl rfl (by decide)
                    have g1523 : 3 * x1545.toInt + 11 ≤ 3 * x45.toInt + 14 * (x1521.toInt - x1492.toInt) := by have q := g1523; simp only [c1498, c1546, c1493, c1522] at q; omega
                    have g1524 : x1492.toInt + 1 ≤ x1521.toInt := by have q := g1524; simp only [c1493, c1522] at q; omega
                    refine lv_if_ne (tgt := 163) hx hb dX12_compare_158 (by decide) (fun _ => ?_) (fun c => absurd c (by decide))
                    refine lv_aload_n hx hb dX12_compare_163 rfl (lv_at hl 4 rfl) ?_
                    refine lv_bipush (v := 6) hx hb dX12_compare_164 (by decide) ?_
                    refine lv_iload hx hb dX12_compare_166 (lv_at hl 0 rfl) ?_
                    refine lv_iadd hx hb dX12_compare_168 ?_
                    refine wk_top 9 (by decide) ?_
                    refine lv_iconst (v := 0) hx hb dX12_compare_169 (by decide) ?_
                    refine tk_Vv hC hK hw hT hA hE hSR kM_at0 (by decide) rfl (k_X12_puts_3 l adK adV dC dI cy ad B (by omega) (by omega) qr s1   9 (by decide) (by decide) 0 w1503 H.size hT c1534 x1545 c1546 (show 0 ≤ x1545.toInt by omega) (show x1545.toInt ≤ 400 by omega) (show x1545.toInt ≤ 399 by omega)) (cwV 2 hC.2.2.2.2 gX12_compare_X12_puts rfl rfl rfl (by decide +kernel) ⟨Nat.le_of_ble_eq_true rfl, Nat.le_of_ble_eq_true rfl⟩) rfl hl.1 rfl (Nat.le_of_ble_eq_true rfl) dX12_compare_170 (fun w1551 H locs hp1550 hw => ?_)
                    obtain ⟨hT, k1552, hg1556⟩ := hp1550
                    have hF := hF.tr k1552 (by decide)
                    have c1557 := k1552.gi kM_at0 (by decide) c1534
                    have c1558 := k1552.gi kM_at0 (by decide) c1535
                    have c1559 := k1552.gi kM_at1 rfl c1536
                    have c1560 := k1552.gi kM_at0 (by decide) c1522
                    obtain ⟨⟨x1553, c1554, rx1553, tx1553⟩, g1555⟩ := hg1556
                    have ex1553 : x1553.toInt = (2 : Int) := by rw [show x1553 = 2 from c1554.symm.trans c1557]; decide
                    obtain ⟨x1561, c1562, rx1561, tx1561⟩ := hT.rda (lo := 0) (hi := 400) (i := 2) kM_at3 rfl rfl (by decide)
                    have g1555 : x1561.toInt = x1545.toInt + 1 := by have q := g1555; simp only [c1546, c1562] at q; omega
                    refine lv_iconst (v := 1) hx hb dX12_compare_173 (by decide) ?_
                    exact tk_zret hC hr rfl hlocks hK ⟨hT, hF, (Or.inr (Or.inr ⟨rfl, ⟨x25, c1558, (show 1 ≤ x25.toInt by omega), (show x25.toInt ≤ 400 by omega)⟩, ⟨2, c1557, (by decide), (by decide)⟩, ⟨x1521, c1560, (show 1 ≤ x1521.toInt by omega), (show x1521.toInt ≤ 60 by omega)⟩, (by simp only [cf2_, c1562, cf1_, c1560]; omega), (by simp only [cf1_, c1560]; omega)⟩))⟩ hw dX12_compare_174
                  · have ex1525 : x1525.toInt = x25.toInt := by rw [← c1535.symm.trans c1526]
                    have ex1527 : x1527.toInt = (2 : Int) := by rw [show x1527 = 2 from c1528.symm.trans c1534]; decide
                    obtain ⟨x1547, c1548, rx1547, tx1547⟩ := hT.rda (lo := 0) (hi := 400) (i := 2) kM_at3 rfl rfl (by decide)
                    have g1531 : 3 * x1547.toInt + 11 ≤ 3 * x45.toInt + 14 * (x1529.toInt - x1492.toInt) := by have q := g1531; simp only [c1498, c1548, c1493, c1530] at q; omega
                    have g1532 : x1492.toInt + 1 ≤ x1529.toInt := by have q := g1532; simp only [c1493, c1530] at q; omega
                    refine lv_if_ne (tgt := 163) hx hb dX12_compare_158 (by decide) (fun _ => ?_) (fun c => absurd c (by decide))
                    refine lv_aload_n hx hb dX12_compare_163 rfl (lv_at hl 4 rfl) ?_
                    refine lv_bipush (v := 6) hx hb dX12_compare_164 (by decide) ?_
                    refine lv_iload hx hb dX12_compare_166 (lv_at hl 0 rfl) ?_
                    refine lv_iadd hx hb dX12_compare_168 ?_
                    refine wk_top 9 (by decide) ?_
                    refine lv_iconst (v := 0) hx hb dX12_compare_169 (by decide) ?_
                    refine tk_Vv hC hK hw hT hA hE hSR kM_at0 (by decide) rfl (k_X12_puts_3 l adK adV dC dI cy ad B (by omega) (by omega) qr s1   9 (by decide) (by decide) 0 w1503 H.size hT c1534 x1547 c1548 (show 0 ≤ x1547.toInt by omega) (show x1547.toInt ≤ 400 by omega) (show x1547.toInt ≤ 399 by omega)) (cwV 2 hC.2.2.2.2 gX12_compare_X12_puts rfl rfl rfl (by decide +kernel) ⟨Nat.le_of_ble_eq_true rfl, Nat.le_of_ble_eq_true rfl⟩) rfl hl.1 rfl (Nat.le_of_ble_eq_true rfl) dX12_compare_170 (fun w1565 H locs hp1564 hw => ?_)
                    obtain ⟨hT, k1566, hg1570⟩ := hp1564
                    have hF := hF.tr k1566 (by decide)
                    have c1571 := k1566.gi kM_at0 (by decide) c1534
                    have c1572 := k1566.gi kM_at0 (by decide) c1535
                    have c1573 := k1566.gi kM_at1 rfl c1536
                    have c1574 := k1566.gi kM_at0 (by decide) c1530
                    obtain ⟨⟨x1567, c1568, rx1567, tx1567⟩, g1569⟩ := hg1570
                    have ex1567 : x1567.toInt = (2 : Int) := by rw [show x1567 = 2 from c1568.symm.trans c1571]; decide
                    obtain ⟨x1575, c1576, rx1575, tx1575⟩ := hT.rda (lo := 0) (hi := 400) (i := 2) kM_at3 rfl rfl (by decide)
                    have g1569 : x1575.toInt = x1547.toInt + 1 := by have q := g1569; simp only [c1548, c1576] at q; omega
                    refine lv_iconst (v := 1) hx hb dX12_compare_173 (by decide) ?_
                    exact tk_zret hC hr rfl hlocks hK ⟨hT, hF, (Or.inr (Or.inr ⟨rfl, ⟨x25, c1572, (show 1 ≤ x25.toInt by omega), (show x25.toInt ≤ 400 by omega)⟩, ⟨2, c1571, (by decide), (by decide)⟩, ⟨x1529, c1574, (show 1 ≤ x1529.toInt by omega), (show x1529.toInt ≤ 60 by omega)⟩, (by simp only [cf2_, c1576, cf1_, c1574]; omega), (by simp only [cf1_, c1574]; omega)⟩))⟩ hw dX12_compare_174
          · have c1270 : ¬ r834.toInt = (62 : Int) := wk_eqF c1270
            refine lv_aload_n hx hb dX12_compare_37 rfl (lv_at hl 2 rfl) ?_
            refine lv_iconst (v := 0) hx hb dX12_compare_38 (by decide) ?_
            refine lv_iload_n hx hb dX12_compare_39 rfl (lv_at hl 0 rfl) ?_
            refine tk_Vi hC hK hw hT hA hE hSR kM_at0 (by decide) rfl (k_X12_fails_1 l adK adV dC dI cy ad B (by omega) (by omega) qr s1   0 (by decide) (by decide) x842 (show 0 ≤ x842.toInt by omega) (show x842.toInt ≤ 400 by omega) w836 H.size hT ) (cwV 2 hC.2.2.2.2 gX12_compare_X12_fails rfl rfl rfl (by decide +kernel) ⟨Nat.le_of_ble_eq_true rfl, Nat.le_of_ble_eq_true rfl⟩) rfl hl.1 rfl (Nat.le_of_ble_eq_true rfl) dX12_compare_40 (fun r1577 w1579 H locs hp1578 hw => ?_)
            obtain ⟨hT, k1580, hg1583⟩ := hp1578
            have hF := hF.tr k1580 (by decide)
            have c1584 := k1580.gi kM_at0 (by decide) c855
            have c1585 := k1580.gi kM_at0 (by decide) c856
            have c1586 := k1580.gi kM_at0 (by decide) c857
            have c1587 := k1580.gi kM_at3 (by decide) c858
            have c1588 := k1580.gi kM_at0 (by decide) c843
            obtain ⟨rfl, ⟨x1581, c1582, rx1581, tx1581⟩⟩ := hg1583
            exact tk_zret hC hr rfl hlocks hK ⟨hT, hF, (Or.inl ⟨rfl, ⟨x25, c1585, (show 1 ≤ x25.toInt by omega), (show x25.toInt ≤ 400 by omega)⟩, ⟨x1581, c1582, (show 1 ≤ x1581.toInt by omega), (show x1581.toInt ≤ 3205 by omega)⟩, ⟨2, c1584, (by decide), (by decide)⟩⟩)⟩ hw dX12_compare_43
    · have ex846 : x846.toInt = x25.toInt := by rw [← c856.symm.trans c847]
      have g850 : (x848.toInt = x832.toInt ∨ (gi w3 1 (x832.toInt).toNat).toInt = 32) := by have q := g850; simp only [c833, c849] at q; omega
      refine lv_istore_n (lv' := [(1, .int (-1)), (0, .ref (ad 0))]) hx hb dX12_compare_13 rfl hl (by decide) rfl (fun ls hl => ?_)
      refine lv_aload_n hx hb dX12_compare_14 rfl (lv_at hl 1 rfl) ?_
      refine tk_geti hC hK hw hT hinX12 kM_at0 (by decide) rfl 14 (by decide) (List.mem_of_getElem? (i := 1) rfl) rfl rfl dX12_compare_15 (fun x1589 c1590 rx1589 tx1589 => ?_)
      refine wk_top x848 (c1590.symm.trans c849) ?_
      refine lv_istore_n (lv' := [(2, .int x848), (1, .int (-1)), (0, .ref (ad 0))]) hx hb dX12_compare_18 rfl hl (by decide) rfl (fun ls hl => ?_)
      refine lv_iload_n hx hb dX12_compare_19 rfl (lv_at hl 1 rfl) ?_
      refine lv_bipush (v := 60) hx hb dX12_compare_20 (by decide) ?_
      refine lv_icmp_eq (tgt := 44) hx hb dX12_compare_22 (by decide) (fun c => absurd c (by decide)) (fun _ => ?_)
      refine lv_iload_n hx hb dX12_compare_25 rfl (lv_at hl 1 rfl) ?_
      refine lv_bipush (v := 61) hx hb dX12_compare_26 (by decide) ?_
      refine lv_icmp_eq (tgt := 44) hx hb dX12_compare_28 (by decide) (fun c => absurd c (by decide)) (fun _ => ?_)
      refine lv_iload_n hx hb dX12_compare_31 rfl (lv_at hl 1 rfl) ?_
      refine lv_bipush (v := 62) hx hb dX12_compare_32 (by decide) ?_
      refine lv_icmp_eq (tgt := 44) hx hb dX12_compare_34 (by decide) (fun c => absurd c (by decide)) (fun _ => ?_)
      refine lv_aload_n hx hb dX12_compare_37 rfl (lv_at hl 2 rfl) ?_
      refine lv_iconst (v := 0) hx hb dX12_compare_38 (by decide) ?_
      refine lv_iload_n hx hb dX12_compare_39 rfl (lv_at hl 0 rfl) ?_
      refine tk_Vi hC hK hw hT hA hE hSR kM_at0 (by decide) rfl (k_X12_fails_1 l adK adV dC dI cy ad B (by omega) (by omega) qr s1   0 (by decide) (by decide) x848 (show 0 ≤ x848.toInt by omega) (show x848.toInt ≤ 400 by omega) w836 H.size hT ) (cwV 2 hC.2.2.2.2 gX12_compare_X12_fails rfl rfl rfl (by decide +kernel) ⟨Nat.le_of_ble_eq_true rfl, Nat.le_of_ble_eq_true rfl⟩) rfl hl.1 rfl (Nat.le_of_ble_eq_true rfl) dX12_compare_40 (fun r1591 w1593 H locs hp1592 hw => ?_)
      obtain ⟨hT, k1594, hg1597⟩ := hp1592
      have hF := hF.tr k1594 (by decide)
      have c1598 := k1594.gi kM_at0 (by decide) c855
      have c1599 := k1594.gi kM_at0 (by decide) c856
      have c1600 := k1594.gi kM_at0 (by decide) c857
      have c1601 := k1594.gi kM_at3 (by decide) c858
      have c1602 := k1594.gi kM_at0 (by decide) c849
      obtain ⟨rfl, ⟨x1595, c1596, rx1595, tx1595⟩⟩ := hg1597
      exact tk_zret hC hr rfl hlocks hK ⟨hT, hF, (Or.inl ⟨rfl, ⟨x25, c1599, (show 1 ≤ x25.toInt by omega), (show x25.toInt ≤ 400 by omega)⟩, ⟨x1595, c1596, (show 1 ≤ x1595.toInt by omega), (show x1595.toInt ≤ 3205 by omega)⟩, ⟨2, c1598, (by decide), (by decide)⟩⟩)⟩ hw dX12_compare_43
    · have ex851 : x851.toInt = x25.toInt := by rw [← c856.symm.trans c852]
      obtain ⟨x859, c860, rx859, tx859⟩ := hT.rdi (lo := 0) (hi := 400) (k := 14) kM_at0 (by decide) rfl
      have g853 : (x859.toInt = x832.toInt ∨ (gi w3 1 (x832.toInt).toNat).toInt = 32) := by have q := g853; simp only [c833, c860] at q; omega
      refine lv_istore_n (lv' := [(1, .int (-1)), (0, .ref (ad 0))]) hx hb dX12_compare_13 rfl hl (by decide) rfl (fun ls hl => ?_)
      refine lv_aload_n hx hb dX12_compare_14 rfl (lv_at hl 1 rfl) ?_
      refine tk_geti hC hK hw hT hinX12 kM_at0 (by decide) rfl 14 (by decide) (List.mem_of_getElem? (i := 1) rfl) rfl rfl dX12_compare_15 (fun x1603 c1604 rx1603 tx1603 => ?_)
      refine wk_top x859 (c1604.symm.trans c860) ?_
      refine lv_istore_n (lv' := [(2, .int x859), (1, .int (-1)), (0, .ref (ad 0))]) hx hb dX12_compare_18 rfl hl (by decide) rfl (fun ls hl => ?_)
      refine lv_iload_n hx hb dX12_compare_19 rfl (lv_at hl 1 rfl) ?_
      refine lv_bipush (v := 60) hx hb dX12_compare_20 (by decide) ?_
      refine lv_icmp_eq (tgt := 44) hx hb dX12_compare_22 (by decide) (fun c => absurd c (by decide)) (fun _ => ?_)
      refine lv_iload_n hx hb dX12_compare_25 rfl (lv_at hl 1 rfl) ?_
      refine lv_bipush (v := 61) hx hb dX12_compare_26 (by decide) ?_
      refine lv_icmp_eq (tgt := 44) hx hb dX12_compare_28 (by decide) (fun c => absurd c (by decide)) (fun _ => ?_)
      refine lv_iload_n hx hb dX12_compare_31 rfl (lv_at hl 1 rfl) ?_
      refine lv_bipush (v := 62) hx hb dX12_compare_32 (by decide) ?_
      refine lv_icmp_eq (tgt := 44) hx hb dX12_compare_34 (by decide) (fun c => absurd c (by decide)) (fun _ => ?_)
      refine lv_aload_n hx hb dX12_compare_37 rfl (lv_at hl 2 rfl) ?_
      refine lv_iconst (v := 0) hx hb dX12_compare_38 (by decide) ?_
      refine lv_iload_n hx hb dX12_compare_39 rfl (lv_at hl 0 rfl) ?_
      refine tk_Vi hC hK hw hT hA hE hSR kM_at0 (by decide) rfl (k_X12_fails_1 l adK adV dC dI cy ad B (by omega) (by omega) qr s1   0 (by decide) (by decide) x859 (show 0 ≤ x859.toInt by omega) (show x859.toInt ≤ 400 by omega) w836 H.size hT ) (cwV 2 hC.2.2.2.2 gX12_compare_X12_fails rfl rfl rfl (by decide +kernel) ⟨Nat.le_of_ble_eq_true rfl, Nat.le_of_ble_eq_true rfl⟩) rfl hl.1 rfl (Nat.le_of_ble_eq_true rfl) dX12_compare_40 (fun r1605 w1607 H locs hp1606 hw => ?_)
      obtain ⟨hT, k1608, hg1611⟩ := hp1606
      have hF := hF.tr k1608 (by decide)
      have c1612 := k1608.gi kM_at0 (by decide) c855
      have c1613 := k1608.gi kM_at0 (by decide) c856
      have c1614 := k1608.gi kM_at0 (by decide) c857
      have c1615 := k1608.gi kM_at3 (by decide) c858
      have c1616 := k1608.gi kM_at0 (by decide) c860
      obtain ⟨rfl, ⟨x1609, c1610, rx1609, tx1609⟩⟩ := hg1611
      exact tk_zret hC hr rfl hlocks hK ⟨hT, hF, (Or.inr (Or.inl ⟨rfl, ⟨x25, c1613, (show 0 ≤ x25.toInt by omega), (show x25.toInt ≤ 400 by omega)⟩, ⟨x1609, c1610, (show 1 ≤ x1609.toInt by omega), (show x1609.toInt ≤ 3205 by omega)⟩, ⟨2, c1612, (by decide), (by decide)⟩⟩))⟩ hw dX12_compare_43
