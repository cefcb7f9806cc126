abbrev P_X12_settles_6 (ad : Nat → Nat) (cy : Nat → ClassId) (B : Int) (qr : Nat) (s1 : Int)  (w0 : va_W) : va_W → Prop := fun u => TW ksM ad cy B qr 12 u ∧ FE ksM [(12, 19, 19), (12, 22, 22), (61, 0, 2400), (62, 0, 7)] w0 u ∧ (((∃ y : Int32, gi u 0 17 = y ∧ 1 ≤ y.toInt ∧ y.toInt ≤ 1) ∧ (∃ y : Int32, gi u 0 19 = y ∧ (-60) ≤ y.toInt ∧ y.toInt ≤ 10) ∧ (∃ y : Int32, gi u 0 22 = y ∧ 0 ≤ y.toInt ∧ y.toInt ≤ 390) ∧ ((gi u 3 1).toInt + (gi u 0 22).toInt = (gi w0 3 1).toInt + (gi w0 0 22).toInt) ∧ ((gi u 0 22).toInt ≤ (gi w0 0 22).toInt) ∧ ((gi u 0 22).toInt + (gi w0 0 19).toInt ≤ (gi w0 0 22).toInt + (gi u 0 19).toInt) ∧ ((gi u 0 22).toInt ≤ (gi u 0 19).toInt + (gi w0 0 18).toInt) ∧ ((gi u 0 22).toInt ≤ 390) ∧ ((gi u 3 1).toInt ≤ 390)))
set_option maxHeartbeats 4000000 in
set_option maxRecDepth 100000 in
theorem k_X12_settles_6 (l : Launch) (adK adV : Nat → Nat) (dC : Nat → ClassId) (dI : Nat → Nat → Nat) (cy : Nat → ClassId) (ad : Nat → Nat) (B : Int) (hB0 : 100000 ≤ B) (hB1 : B ≤ 1073741824) (qr : Nat) (s1 : Int)   (w0 : va_W) (sz : Nat) (hT : TW ksM ad cy B qr 12 w0) (cf0_ : gi w0 0 17 = 1) (f1_ : Int32) (cf1_ : gi w0 0 18 = f1_) (rf1_ : 0 ≤ f1_.toInt) (tf1_ : f1_.toInt ≤ 60) (f2_ : Int32) (cf2_ : gi w0 0 19 = f2_) (rf2_ : (-100) ≤ f2_.toInt) (tf2_ : f2_.toInt ≤ 10) (f3_ : Int32) (cf3_ : gi w0 0 22 = f3_) (rf3_ : 0 ≤ f3_.toInt) (tf3_ : f3_.toInt ≤ 400) (f4_ : Int32) (cf4_ : gi w0 3 1 = f4_) (rf4_ : 0 ≤ f4_.toInt) (tf4_ : f4_.toInt ≤ 400) (pr0_ : f4_.toInt + f3_.toInt ≤ 390) (pr1_ : f3_.toInt ≤ f2_.toInt + f1_.toInt) (pr2_ : f4_.toInt ≤ 390) (pr3_ : f3_.toInt ≤ 390) : Met l yX12_settles wsX12_settles ({ frames := 2, cells := 0, slots := 0, locals := 34 }) (va_Pc [.ref (ad 0), .int 2] (wpreS adK adV dC dI cy sz w0)) (va_Qv (P_X12_settles_6 ad cy B qr s1  w0) (fun u : va_W => wpost dC dI cy (va_A w0 sz) u) (va_A w0 sz)) 0 0 (va_A w0 sz) := by
  refine Met.ofW (cc := cX12_settles) (maxL := 2) (ret := none) (by decide) rfl ?_
  intro p e s m args below meth c s₁ Bk hml hv
  obtain ⟨rfl, ⟨hsz, hP, hK, hD0⟩, hE, hSR⟩ := hv
  have hx := Bk.exec
  have hb := Bk.bytes
  have hr := Bk.returns
  have hlocks := Bk.notSynchronized
  have hC : CallFix p m c cX12_settles 2 s _ wsX12_settles RX12 := ⟨hx, hb, hml, findClass_of_methodNamed Bk.named, atoms_spec (ws := wsX12_settles) Bk.pre⟩
  subst hsz
  have hD := hD0.self (sz := s.heap.size)
  generalize hAe : va_A w0 s.heap.size = A at hD hE ⊢
  have hA : ∀ q : Nat, s.heap.size ≤ q → A q := fun q h => by rw [← hAe]; exact Or.inr h
  have hw : Wd dC dI A s.heap s.heap [] w0 := ⟨hP, hD, va_S.rf⟩
  have hF : FE ksM [(12, 19, 19), (12, 22, 22), (61, 0, 2400), (62, 0, 7)] w0 w0 := FE.rf
  have hl := lv_entry ([.ref (ad 0), .int 2]) (n := 2) (Nat.le_of_ble_eq_true rfl)
  rw [lg_entry_eq]
  generalize (lg_sl ([.ref (ad 0), .int 2]) ++ List.replicate (2 - (lg_sl ([.ref (ad 0), .int 2])).length) Slot.unset).toArray = ls at hl ⊢
  have hl : lv_has ls 2 [(0, .ref (ad 0)), (1, .int 2)] := hl
  generalize hloc : ([] : List Loc) = locs at hw ⊢
  have hinX12 : ∀ w ∈ u_ws RX12 TX12 42, w ∈ wsX12_settles := fun _ h => List.mem_cons_of_mem _ (List.mem_append_right _ (h))
  have J76 : ∀ (f76_0_19 : Int32) (f76_0_22 : Int32) (f76_3_1 : Int32) (H : Heap) (locs : List Loc) (ls : Array Slot) (w1 : va_W), 0 ≤ f1_.toInt → f1_.toInt ≤ 60 → (-60) ≤ f76_0_19.toInt → f76_0_19.toInt ≤ 10 → 0 ≤ f76_0_22.toInt → f76_0_22.toInt ≤ 390 → 0 ≤ f76_3_1.toInt → f76_3_1.toInt ≤ 390 → (f76_3_1.toInt + f76_0_22.toInt = f4_.toInt + f3_.toInt) → (f76_0_22.toInt ≤ f3_.toInt) → (f76_0_22.toInt + f2_.toInt ≤ f3_.toInt + f76_0_19.toInt) → (f76_0_22.toInt ≤ f76_0_19.toInt + f1_.toInt) → (f76_3_1.toInt ≤ 390) → (f76_0_22.toInt ≤ 390) → (-60 ≤ f76_0_19.toInt) → Wd dC dI A s.heap H locs w1 → TW ksM ad cy B qr 12 w1 → FE ksM [(12, 19, 19), (12, 22, 22), (61, 0, 2400), (62, 0, 7)] w0 w1 → gi w1 0 17 = 1 → gi w1 0 18 = f1_ → gi w1 0 19 = f76_0_19 → gi w1 0 22 = f76_0_22 → gi w1 3 1 = f76_3_1 → lv_has ls 2 [(0, .ref (ad 0)), (1, .int 2)] → W p l e ({ frames := 2, cells := 0, slots := 0, locals := 34 }) s m (List.toArray [.ref (ad 0), .int 2]) below meth c H locs 0 0 (MQ below (va_Qv (P_X12_settles_6 ad cy B qr s1  w0) (fun u : va_W => wpost dC dI cy A u) A) (List.toArray [.ref (ad 0), .int 2]) s 0 0 A) (F0 m 76 ls []) := by
    intro f76_0_19 f76_0_22 f76_3_1 H locs ls w1 r3 t4 r6 t7 r9 t10 r12 t13 hcr76_0 hcr76_1 hcr76_2 hcr76_3 hcr76_4 hcr76_5 hcr76_6 hw hT hF c2 c5 c8 c11 c14 hl
    exact tk_vret hC hr hlocks hK ⟨hT, hF, ⟨⟨1, c2, (by decide), (by decide)⟩, ⟨f76_0_19, c8, (show (-60) ≤ f76_0_19.toInt by omega), (show f76_0_19.toInt ≤ 10 by omega)⟩, ⟨f76_0_22, c11, (show 0 ≤ f76_0_22.toInt by omega), (show f76_0_22.toInt ≤ 390 by omega)⟩, (by simp only [cf4_, c14, cf3_, c11]; omega), (by simp only [cf3_, c11]; omega), (by simp only [cf2_, c8, cf3_, c11]; omega), (by simp only [c8, cf1_, c11]; omega), (by simp only [c11]; omega), (by simp only [c14]; omega)⟩⟩ hw dX12_settles_76
  have L0 : ∀ (n0 : Nat) (f0_0_19 : Int32) (f0_0_22 : Int32) (f0_3_1 : Int32) (H : Heap) (locs : List Loc) (ls : Array Slot) (w15 : va_W), 0 ≤ f1_.toInt → f1_.toInt ≤ 60 → (-60) ≤ f0_0_19.toInt → f0_0_19.toInt ≤ 10 → 0 ≤ f0_0_22.toInt → f0_0_22.toInt ≤ 390 → 0 ≤ f0_3_1.toInt → f0_3_1.toInt ≤ 390 → (f0_3_1.toInt + f0_0_22.toInt = f4_.toInt + f3_.toInt) → (f0_0_22.toInt ≤ f3_.toInt) → (f0_0_22.toInt + f2_.toInt ≤ f3_.toInt + f0_0_19.toInt) → (f0_0_22.toInt ≤ f0_0_19.toInt + f1_.toInt) → (f0_3_1.toInt ≤ 390) → (f0_0_22.toInt ≤ 390) → (-60 ≤ f0_0_19.toInt) → (f0_0_22.toInt - 0).toNat < n0 → Wd dC dI A s.heap H locs w15 → TW ksM ad cy B qr 12 w15 → FE ksM [(12, 19, 19), (12, 22, 22), (61, 0, 2400), (62, 0, 7)] w0 w15 → gi w15 0 17 = 1 → gi w15 0 18 = f1_ → gi w15 0 19 = f0_0_19 → gi w15 0 22 = f0_0_22 → gi w15 3 1 = f0_3_1 → lv_has ls 2 [(0, .ref (ad 0)), (1, .int 2)] → W p l e ({ frames := 2, cells := 0, slots := 0, locals := 34 }) s m (List.toArray [.ref (ad 0), .int 2]) below meth c H locs 0 0 (MQ below (va_Qv (P_X12_settles_6 ad cy B qr s1  w0) (fun u : va_W => wpost dC dI cy A u) A) (List.toArray [.ref (ad 0), .int 2]) s 0 0 A) (F0 m 0 ls []) := by
    intro n0
    induction n0 with
    | zero => intro f0_0_19 f0_0_22 f0_3_1 H locs ls w15 r17 t18 r20 t21 r23 t24 r26 t27 hcr0_0 hcr0_1 hcr0_2 hcr0_3 hcr0_4 hcr0_5 hcr0_6 hm0 hw hT hF c16 c19 c22 c25 c28 hl; omega
    | succ n0 ih0 =>
      intro f0_0_19 f0_0_22 f0_3_1 H locs ls w15 r17 t18 r20 t21 r23 t24 r26 t27 hcr0_0 hcr0_1 hcr0_2 hcr0_3 hcr0_4 hcr0_5 hcr0_6 hm0 hw hT hF c16 c19 c22 c25 c28 hl
      refine lv_aload_n hx hb dX12_settles_0 rfl (lv_at hl 0 rfl) ?_
      refine tk_geti hC hK hw hT hinX12 kM_at0 (by decide) rfl 22 (by decide) (List.mem_of_getElem? (i := 1) rfl) rfl rfl dX12_settles_1 (fun x29 c30 rx29 tx29 => ?_)
      refine wk_top f0_0_22 (c30.symm.trans c25) ?_
      refine lv_if_le (tgt := 76) hx hb dX12_settles_4 (by decide) (fun c31 => ?_) (fun c31 => ?_)
      · have c31 : f0_0_22.toInt ≤ (0 : Int) := wk_le.mp c31
        exact J76 f0_0_19 f0_0_22 f0_3_1 H locs ls w15 (show 0 ≤ f1_.toInt by omega) (show f1_.toInt ≤ 60 by omega) (show (-60) ≤ f0_0_19.toInt by omega) (show f0_0_19.toInt ≤ 10 by omega) (show 0 ≤ f0_0_22.toInt by omega) (show f0_0_22.toInt ≤ 390 by omega) (show 0 ≤ f0_3_1.toInt by omega) (show f0_3_1.toInt ≤ 390 by omega) (show f0_3_1.toInt + f0_0_22.toInt = f4_.toInt + f3_.toInt by omega) (show f0_0_22.toInt ≤ f3_.toInt by omega) (show f0_0_22.toInt + f2_.toInt ≤ f3_.toInt + f0_0_19.toInt by omega) (show f0_0_22.toInt ≤ f0_0_19.toInt + f1_.toInt by omega) (show f0_3_1.toInt ≤ 390 by omega) (show f0_0_22.toInt ≤ 390 by omega) (show -60 ≤ f0_0_19.toInt by omega)  hw hT hF c16 c19 c22 c25 c28 (lv_sub hl [0, 1] rfl)
      · have c31 : (0 : Int) < f0_0_22.toInt := wk_leF c31
        refine lv_aload_n hx hb dX12_settles_7 rfl (lv_at hl 0 rfl) ?_
        refine tk_getA hC hK hw hT hinX12 kM_at0 (by decide) rfl 21 (by decide) (List.mem_of_getElem? (i := 2) rfl) rfl rfl dX12_settles_8 ?_
        refine lv_aload_n hx hb dX12_settles_11 rfl (lv_at hl 0 rfl) ?_
        refine tk_geti hC hK hw hT hinX12 kM_at0 (by decide) rfl 22 (by decide) (List.mem_of_getElem? (i := 1) rfl) rfl rfl dX12_settles_12 (fun x32 c33 rx32 tx32 => ?_)
        refine wk_top f0_0_22 (c33.symm.trans c25) ?_
        refine lv_iconst (v := 1) hx hb dX12_settles_15 (by decide) ?_
        refine lv_isub hx hb dX12_settles_16 ?_
        refine lv_topi (fun x34 ex34 => ?_)
        have ex34 : x34.toInt = f0_0_22.toInt - (1 : Int) := by rw [ex34]; exact wk_sub (show (-2147483648) ≤ f0_0_22.toInt - (1 : Int) by omega) (show f0_0_22.toInt - (1 : Int) ≤ 2147483647 by omega)
        refine tk_iald hC hK hw hT kM_at9 rfl rfl (show 0 ≤ x34.toInt by omega) (show x34.toInt < 400 by omega) dX12_settles_17 (fun x35 c36 rx35 tx35 => ?_)
        refine tk_Si hC hK hw hT hA hE hSR (k_X12_strength_1 l adK adV dC dI cy ad B (by omega) (by omega) qr s1   x35 w15 H.size hT ) (va_cwS 1 hC.2.2.2.2 gX12_settles_X12_strength rfl rfl rfl (by decide +kernel) ⟨Nat.le_of_ble_eq_true rfl, Nat.le_of_ble_eq_true rfl⟩) rfl hl.1 rfl (Nat.le_of_ble_eq_true rfl) dX12_settles_18 (fun r37 w39 H locs hp38 hw => ?_)
        obtain ⟨rfl, hg43⟩ := hp38
        obtain ⟨g41, g42⟩ := hg43
        refine lv_iload_n hx hb dX12_settles_21 rfl (lv_at hl 1 rfl) ?_
        refine lv_icmp_lt (tgt := 76) hx hb dX12_settles_22 (by decide) (fun c44 => ?_) (fun c44 => ?_)
        · have c44 : r37.toInt < (2 : Int) := wk_lt.mp c44
          exact J76 f0_0_19 f0_0_22 f0_3_1 H locs ls w15 (show 0 ≤ f1_.toInt by omega) (show f1_.toInt ≤ 60 by omega) (show (-60) ≤ f0_0_19.toInt by omega) (show f0_0_19.toInt ≤ 10 by omega) (show 0 ≤ f0_0_22.toInt by omega) (show f0_0_22.toInt ≤ 390 by omega) (show 0 ≤ f0_3_1.toInt by omega) (show f0_3_1.toInt ≤ 390 by omega) (show f0_3_1.toInt + f0_0_22.toInt = f4_.toInt + f3_.toInt by omega) (show f0_0_22.toInt ≤ f3_.toInt by omega) (show f0_0_22.toInt + f2_.toInt ≤ f3_.toInt + f0_0_19.toInt by omega) (show f0_0_22.toInt ≤ f0_0_19.toInt + f1_.toInt by omega) (show f0_3_1.toInt ≤ 390 by omega) (show f0_0_22.toInt ≤ 390 by omega) (show -60 ≤ f0_0_19.toInt by omega)  hw hT hF c16 c19 c22 c25 c28 (lv_sub hl [0, 1] rfl)
        · have c44 : (2 : Int) ≤ r37.toInt := wk_ltF c44
          refine lv_aload_n hx hb dX12_settles_25 rfl (lv_at hl 0 rfl) ?_
          refine lv_dup hx hb dX12_settles_26 rfl ?_
          refine tk_geti hC hK hw hT hinX12 kM_at0 (by decide) rfl 22 (by decide) (List.mem_of_getElem? (i := 1) rfl) rfl rfl dX12_settles_27 (fun x45 c46 rx45 tx45 => ?_)
          refine wk_top f0_0_22 (c46.symm.trans c25) ?_
          refine lv_iconst (v := 1) hx hb dX12_settles_30 (by decide) ?_
          refine lv_isub hx hb dX12_settles_31 ?_
          refine lv_topi (fun x47 ex47 => ?_)
          have ex47 : x47.toInt = f0_0_22.toInt - (1 : Int) := by rw [ex47]; exact wk_sub (show (-2147483648) ≤ f0_0_22.toInt - (1 : Int) by omega) (show f0_0_22.toInt - (1 : Int) ≤ 2147483647 by omega)
          refine tk_puti hC hK hw hT hinX12 tyX12_ok nmX12 kM_at0 (by decide) rfl rfl 22 (by decide) (List.mem_of_getElem? (i := 1) rfl) rfl rfl rfl rfl (show 0 ≤ x47.toInt by omega) (show x47.toInt ≤ 400 by omega) dX12_settles_32 (fun H locs w48 hw hT k50 c49 => ?_)
          have hF := hF.put kM_at0 (k := 22) (by decide) k50
          have c51 := k50.gi (Or.inr (by decide)) c16
          have c52 := k50.gi (Or.inr (by decide)) c19
          have c53 := k50.gi (Or.inr (by decide)) c22
          have c54 := k50.gi (Or.inr (by decide)) c28
          refine lv_aload_n hx hb dX12_settles_35 rfl (lv_at hl 0 rfl) ?_
          refine lv_aload_n hx hb dX12_settles_36 rfl (lv_at hl 0 rfl) ?_
          refine tk_getA hC hK hw hT hinX12 kM_at0 (by decide) rfl 21 (by decide) (List.mem_of_getElem? (i := 2) rfl) rfl rfl dX12_settles_37 ?_
          refine lv_aload_n hx hb dX12_settles_40 rfl (lv_at hl 0 rfl) ?_
          refine tk_geti hC hK hw hT hinX12 kM_at0 (by decide) rfl 22 (by decide) (List.mem_of_getElem? (i := 1) rfl) rfl rfl dX12_settles_41 (fun x55 c56 rx55 tx55 => ?_)
          refine wk_top x47 (c56.symm.trans c49) ?_
          refine tk_iald hC hK hw hT kM_at9 rfl rfl (show 0 ≤ x47.toInt by omega) (show x47.toInt < 400 by omega) dX12_settles_44 (fun x57 c58 rx57 tx57 => ?_)
          refine lv_iconst (v := 0) hx hb dX12_settles_45 (by decide) ?_
          refine tk_Vv hC hK hw hT hA hE hSR kM_at0 (by decide) rfl (k_X12_puts_3 l adK adV dC dI cy ad B (by omega) (by omega) qr s1   x57 0 w48 H.size hT c51 f0_3_1 c54 (show 0 ≤ f0_3_1.toInt by omega) (show f0_3_1.toInt ≤ 400 by omega) (show f0_3_1.toInt ≤ 399 by omega)) (cwV 2 hC.2.2.2.2 gX12_settles_X12_puts rfl rfl rfl (by decide +kernel) ⟨Nat.le_of_ble_eq_true rfl, Nat.le_of_ble_eq_true rfl⟩) rfl hl.1 rfl (Nat.le_of_ble_eq_true rfl) dX12_settles_46 (fun w61 H locs hp60 hw => ?_)
          obtain ⟨hT, k62, hg66⟩ := hp60
          have hF := hF.tr k62 (by decide)
          have c67 := k62.gi kM_at0 (by decide) c51
          have c68 := k62.gi kM_at0 (by decide) c52
          have c69 := k62.gi kM_at0 (by decide) c53
          have c70 := k62.gi kM_at0 (by decide) c49
          obtain ⟨⟨x63, c64, rx63, tx63⟩, g65⟩ := hg66
          have ex63 : x63.toInt = (1 : Int) := by rw [show x63 = 1 from c64.symm.trans c67]; decide
          obtain ⟨x71, c72, rx71, tx71⟩ := hT.rda (lo := 0) (hi := 400) (i := 1) kM_at3 rfl rfl (by decide)
          have g65 : x71.toInt = f0_3_1.toInt + 1 := by have q := g65; simp only [c54, c72] at q; omega
          refine lv_aload_n hx hb dX12_settles_49 rfl (lv_at hl 0 rfl) ?_
          refine tk_getA hC hK hw hT hinX12 kM_at0 (by decide) rfl 21 (by decide) (List.mem_of_getElem? (i := 2) rfl) rfl rfl dX12_settles_50 ?_
          refine lv_aload_n hx hb dX12_settles_53 rfl (lv_at hl 0 rfl) ?_
          refine tk_geti hC hK hw hT hinX12 kM_at0 (by decide) rfl 22 (by decide) (List.mem_of_getElem? (i := 1) rfl) rfl rfl dX12_settles_54 (fun x73 c74 rx73 tx73 => ?_)
          refine wk_top x47 (c74.symm.trans c70) ?_
          refine tk_iald hC hK hw hT kM_at9 rfl rfl (show 0 ≤ x47.toInt by omega) (show x47.toInt < 400 by omega) dX12_settles_57 (fun x75 c76 rx75 tx75 => ?_)
          refine lv_bipush (v := 11) hx hb dX12_settles_58 (by decide) ?_
          refine lv_icmp_ne (tgt := 0) hx hb dX12_settles_60 (by decide) (fun c77 => ?_) (fun c77 => ?_)
          · have c77 : ¬ x75.toInt = (11 : Int) := wk_eqF c77
            exact ih0 f0_0_19 x47 x71 H locs ls w61 (show 0 ≤ f1_.toInt by omega) (show f1_.toInt ≤ 60 by omega) (show (-60) ≤ f0_0_19.toInt by omega) (show f0_0_19.toInt ≤ 10 by omega) (show 0 ≤ x47.toInt by omega) (show x47.toInt ≤ 390 by omega) (show 0 ≤ x71.toInt by omega) (show x71.toInt ≤ 390 by omega) (show x71.toInt + x47.toInt = f4_.toInt + f3_.toInt by omega) (show x47.toInt ≤ f3_.toInt by omega) (show x47.toInt + f2_.toInt ≤ f3_.toInt + f0_0_19.toInt by omega) (show x47.toInt ≤ f0_0_19.toInt + f1_.toInt by omega) (show x71.toInt ≤ 390 by omega) (show x47.toInt ≤ 390 by omega) (show -60 ≤ f0_0_19.toInt by omega) (show (x47.toInt - 0).toNat < n0 by omega) hw hT hF c67 c68 c69 c70 c72 (lv_sub hl [0, 1] rfl)
          · have c77 : x75.toInt = (11 : Int) := wk_eq.mp c77
            refine lv_aload_n hx hb dX12_settles_63 rfl (lv_at hl 0 rfl) ?_
            refine lv_dup hx hb dX12_settles_64 rfl ?_
            refine tk_geti hC hK hw hT hinX12 kM_at0 (by decide) rfl 19 (by decide) (List.mem_of_getElem? (i := 3) rfl) rfl rfl dX12_settles_65 (fun x78 c79 rx78 tx78 => ?_)
            refine wk_top f0_0_19 (c79.symm.trans c69) ?_
            refine lv_iconst (v := 1) hx hb dX12_settles_68 (by decide) ?_
            refine lv_isub hx hb dX12_settles_69 ?_
            refine lv_topi (fun x80 ex80 => ?_)
            have ex80 : x80.toInt = f0_0_19.toInt - (1 : Int) := by rw [ex80]; exact wk_sub (show (-2147483648) ≤ f0_0_19.toInt - (1 : Int) by omega) (show f0_0_19.toInt - (1 : Int) ≤ 2147483647 by omega)
            refine tk_puti hC hK hw hT hinX12 tyX12_ok nmX12 kM_at0 (by decide) rfl rfl 19 (by decide) (List.mem_of_getElem? (i := 3) rfl) rfl rfl rfl rfl (show (-100) ≤ x80.toInt by omega) (show x80.toInt ≤ 10 by omega) dX12_settles_70 (fun H locs w81 hw hT k83 c82 => ?_)
            have hF := hF.put kM_at0 (k := 19) (by decide) k83
            have c84 := k83.gi (Or.inr (by decide)) c67
            have c85 := k83.gi (Or.inr (by decide)) c68
            have c86 := k83.gi (Or.inr (by decide)) c70
            have c87 := k83.gi (Or.inr (by decide)) c72
            refine lv_goto (tgt := 0) hx hb dX12_settles_73 (by decide) ?_
            exact ih0 x80 x47 x71 H locs ls w81 (show 0 ≤ f1_.toInt by omega) (show f1_.toInt ≤ 60 by omega) (show (-60) ≤ x80.toInt by omega) (show x80.toInt ≤ 10 by omega) (show 0 ≤ x47.toInt by omega) (show x47.toInt ≤ 390 by omega) (show 0 ≤ x71.toInt by omega) (show x71.toInt ≤ 390 by omega) (show x71.toInt + x47.toInt = f4_.toInt + f3_.toInt by omega) (show x47.toInt ≤ f3_.toInt by omega) (show x47.toInt + f2_.toInt ≤ f3_.toInt + x80.toInt by omega) (show x47.toInt ≤ x80.toInt + f1_.toInt by omega) (show x71.toInt ≤ 390 by omega) (show x47.toInt ≤ 390 by omega) (show -60 ≤ x80.toInt by omega) (show (x47.toInt - 0).toNat < n0 by omega) hw hT hF c84 c85 c82 c86 c87 (lv_sub hl [0, 1] rfl)
  exact L0 ((f3_.toInt - 0).toNat + 1) f2_ f3_ f4_ s.heap locs ls w0 (show 0 ≤ f1_.toInt by omega) (show f1_.toInt ≤ 60 by omega) (show (-60) ≤ f2_.toInt by omega) (show f2_.toInt ≤ 10 by omega) (show 0 ≤ f3_.toInt by omega) (show f3_.toInt ≤ 390 by omega) (show 0 ≤ f4_.toInt by omega) (show f4_.toInt ≤ 390 by omega) (show f4_.toInt + f3_.toInt = f4_.toInt + f3_.toInt by omega) (show f3_.toInt ≤ f3_.toInt by omega) (show f3_.toInt + f2_.toInt ≤ f3_.toInt + f2_.toInt by omega) (show f3_.toInt ≤ f2_.toInt + f1_.toInt by omega) (show f4_.toInt ≤ 390 by omega) (show f3_.toInt ≤ 390 by omega) (show -60 ≤ f2_.toInt by omega) (Nat.lt_succ_self _) hw hT hF cf0_ cf1_ cf2_ cf3_ cf4_ (lv_sub hl [0, 1] rfl)
abbrev P_X12_puts_5 (ad : Nat → Nat) (cy : Nat → ClassId) (B : Int) (qr : Nat) (s1 : Int) (a1 : Int32) (a2 : Int32) (w0 : va_W) : va_W → Prop := fun u => TW ksM ad cy B qr 12 u ∧ FE ksM [(61, 0, 2400), (62, 0, 7)] w0 u ∧ (((∃ y : Int32, gi u 0 17 = y ∧ 2 ≤ y.toInt ∧ y.toInt ≤ 2) ∧ ((gi u 3 2).toInt = (gi w0 3 2).toInt + 1)))
set_option maxHeartbeats 4000000 in
set_option maxRecDepth 100000 in
theorem k_X12_puts_5 (l : Launch) (adK adV : Nat → Nat) (dC : Nat → ClassId) (dI : Nat → Nat → Nat) (cy : Nat → ClassId) (ad : Nat → Nat) (B : Int) (hB0 : 100000 ≤ B) (hB1 : B ≤ 1073741824) (qr : Nat) (s1 : Int)  (a1 : Int32) (a2 : Int32) (w0 : va_W) (sz : Nat) (hT : TW ksM ad cy B qr 12 w0) (cf0_ : gi w0 0 17 = 2) (f1_ : Int32) (cf1_ : gi w0 3 2 = f1_) (rf1_ : 0 ≤ f1_.toInt) (tf1_ : f1_.toInt ≤ 400) (pr0_ : f1_.toInt ≤ 399) : Met l yX12_puts wsX12_puts ({ frames := 1, cells := 0, slots := 0, locals := 12 }) (va_Pc [.ref (ad 0), .int a1, .int a2] (wpreS adK adV dC dI cy sz w0)) (va_Qv (P_X12_puts_5 ad cy B qr s1 a1 a2 w0) (fun u : va_W => wpost dC dI cy (va_A w0 sz) u) (va_A w0 sz)) 0 0 (va_A w0 sz) := by
  refine Met.ofW (cc := cX12_puts) (maxL := 3) (ret := none) (by decide) rfl ?_
  intro p e s m args below meth c s₁ Bk hml hv
  obtain ⟨rfl, ⟨hsz, hP, hK, hD0⟩, hE, hSR⟩ := hv
  have hx := Bk.exec
  have hb := Bk.bytes
  have hr := Bk.returns
  have hlocks := Bk.notSynchronized
  have hC : CallFix p m c cX12_puts 3 s _ wsX12_puts RX12 := ⟨hx, hb, hml, findClass_of_methodNamed Bk.named, atoms_spec (ws := wsX12_puts) Bk.pre⟩
  subst hsz
  have hD := hD0.self (sz := s.heap.size)
  generalize hAe : va_A w0 s.heap.size = A at hD hE ⊢
  have hA : ∀ q : Nat, s.heap.size ≤ q → A q := fun q h => by rw [← hAe]; exact Or.inr h
  have hw : Wd dC dI A s.heap s.heap [] w0 := ⟨hP, hD, va_S.rf⟩
  have hF : FE ksM [(61, 0, 2400), (62, 0, 7)] w0 w0 := FE.rf
  have hl := lv_entry ([.ref (ad 0), .int a1, .int a2]) (n := 3) (Nat.le_of_ble_eq_true rfl)
  rw [lg_entry_eq]
  generalize (lg_sl ([.ref (ad 0), .int a1, .int a2]) ++ List.replicate (3 - (lg_sl ([.ref (ad 0), .int a1, .int a2])).length) Slot.unset).toArray = ls at hl ⊢
  have hl : lv_has ls 3 [(0, .ref (ad 0)), (1, .int a1), (2, .int a2)] := hl
  generalize hloc : ([] : List Loc) = locs at hw ⊢
  have hinX12 : ∀ w ∈ u_ws RX12 TX12 42, w ∈ wsX12_puts := fun _ h => List.mem_cons_of_mem _ (List.mem_append_right _ (h))
  refine lv_aload_n hx hb dX12_puts_0 rfl (lv_at hl 0 rfl) ?_
  refine tk_getA hC hK hw hT hinX12 kM_at0 (by decide) rfl 3 (by decide) (List.mem_of_getElem? (i := 1) rfl) rfl rfl dX12_puts_1 ?_
  refine lv_sipush (v := 400) hx hb dX12_puts_4 (by decide) ?_
  refine lv_aload_n hx hb dX12_puts_7 rfl (lv_at hl 0 rfl) ?_
  refine tk_geti hC hK hw hT hinX12 kM_at0 (by decide) rfl 17 (by decide) (List.mem_of_getElem? (i := 2) rfl) rfl rfl dX12_puts_8 (fun x1 c2 rx1 tx1 => ?_)
  refine wk_top 2 (c2.symm.trans cf0_) ?_
  refine lv_imul hx hb dX12_puts_11 ?_
  refine wk_top 800 (by decide) ?_
  refine lv_aload_n hx hb dX12_puts_12 rfl (lv_at hl 0 rfl) ?_
  refine tk_getA hC hK hw hT hinX12 kM_at0 (by decide) rfl 4 (by decide) (List.mem_of_getElem? (i := 3) rfl) rfl rfl dX12_puts_13 ?_
  refine lv_aload_n hx hb dX12_puts_16 rfl (lv_at hl 0 rfl) ?_
  refine tk_geti hC hK hw hT hinX12 kM_at0 (by decide) rfl 17 (by decide) (List.mem_of_getElem? (i := 2) rfl) rfl rfl dX12_puts_17 (fun x3 c4 rx3 tx3 => ?_)
  refine wk_top 2 (c4.symm.trans cf0_) ?_
  refine tk_iald hC hK hw hT kM_at3 rfl rfl (by decide) (by decide) dX12_puts_20 (fun x5 c6 rx5 tx5 => ?_)
  refine wk_top f1_ (c6.symm.trans cf1_) ?_
  refine lv_iadd hx hb dX12_puts_21 ?_
  refine lv_topi (fun x7 ex7 => ?_)
  have ex7 : x7.toInt = (800 : Int) + f1_.toInt := by rw [ex7]; exact wk_add (show (-2147483648) ≤ (800 : Int) + f1_.toInt by omega) (show (800 : Int) + f1_.toInt ≤ 2147483647 by omega)
  refine lv_iload_n hx hb dX12_puts_22 rfl (lv_at hl 1 rfl) ?_
  refine lv_bipush (v := 16) hx hb dX12_puts_23 (by decide) ?_
  refine lv_iload_n hx hb dX12_puts_25 rfl (lv_at hl 2 rfl) ?_
  refine lv_imul hx hb dX12_puts_26 ?_
  have nx8 := wk_i32 a2
  refine lv_topi (fun x9 ex9 => ?_)
  refine lv_iadd hx hb dX12_puts_27 ?_
  have nx10 := wk_i32 a1
  have nx11 := wk_i32 x9
  refine lv_topi (fun x12 ex12 => ?_)
  refine tk_iast hC hK hw hT kM_at2 (by decide) rfl rfl (show 0 ≤ x7.toInt by omega) (show x7.toInt < 2400 by omega) (wk_i32 x12).1 (wk_i32 x12).2 dX12_puts_28 (fun H locs w13 hw hT k15 c14 => ?_)
  have hF := hF.put kM_at2 (inE_of (a := 0) (b := 2400) (by decide) (show 0 ≤ x7.toInt.toNat by omega) (show x7.toInt.toNat ≤ 2400 by omega)) k15
  have c16 := k15.gi (Or.inl (tk_ne kM_at0 kM_at2 (by decide))) cf0_
  have c17 := k15.gi (Or.inl (tk_ne kM_at3 kM_at2 (by decide))) cf1_
  refine lv_aload_n hx hb dX12_puts_29 rfl (lv_at hl 0 rfl) ?_
  refine tk_getA hC hK hw hT hinX12 kM_at0 (by decide) rfl 4 (by decide) (List.mem_of_getElem? (i := 3) rfl) rfl rfl dX12_puts_30 ?_
  refine lv_aload_n hx hb dX12_puts_33 rfl (lv_at hl 0 rfl) ?_
  refine tk_geti hC hK hw hT hinX12 kM_at0 (by decide) rfl 17 (by decide) (List.mem_of_getElem? (i := 2) rfl) rfl rfl dX12_puts_34 (fun x18 c19 rx18 tx18 => ?_)
  refine wk_top 2 (c19.symm.trans c16) ?_
  refine lv_dup2_11 hx hb dX12_puts_37 rfl rfl ?_
  refine tk_iald hC hK hw hT kM_at3 rfl rfl (by decide) (by decide) dX12_puts_38 (fun x20 c21 rx20 tx20 => ?_)
  refine wk_top f1_ (c21.symm.trans c17) ?_
  refine lv_iconst (v := 1) hx hb dX12_puts_39 (by decide) ?_
  refine lv_iadd hx hb dX12_puts_40 ?_
  refine lv_topi (fun x22 ex22 => ?_)
  have ex22 : x22.toInt = f1_.toInt + (1 : Int) := by rw [ex22]; exact wk_add (show (-2147483648) ≤ f1_.toInt + (1 : Int) by omega) (show f1_.toInt + (1 : Int) ≤ 2147483647 by omega)
  refine tk_iast hC hK hw hT kM_at3 (by decide) rfl rfl (by decide) (by decide) (show 0 ≤ x22.toInt by omega) (show x22.toInt ≤ 400 by omega) dX12_puts_41 (fun H locs w23 hw hT k25 c24 => ?_)
  have hF := hF.put kM_at3 (inE_of (a := 0) (b := 7) (by decide) (by decide) (by decide)) k25
  have c26 := k25.gi (Or.inl (tk_ne kM_at0 kM_at3 (by decide))) c16
  have c24 : gi w23 3 2 = x22 := c24
  exact tk_vret hC hr hlocks hK ⟨hT, hF, ⟨⟨2, c26, (by decide), (by decide)⟩, (by simp only [cf1_, c24]; omega)⟩⟩ hw dX12_puts_42
abbrev P_X12_settles_7 (ad : Nat → Nat) (cy : Nat → ClassId) (B : Int) (qr : Nat) (s1 : Int)  (w0 : va_W) : va_W → Prop := fun u => TW ksM ad cy B qr 12 u ∧ FE ksM [(12, 19, 19), (12, 22, 22), (61, 0, 2400), (62, 0, 7)] w0 u ∧ (((∃ y : Int32, gi u 0 17 = y ∧ 2 ≤ y.toInt ∧ y.toInt ≤ 2) ∧ (∃ y : Int32, gi u 0 19 = y ∧ (-60) ≤ y.toInt ∧ y.toInt ≤ 10) ∧ (∃ y : Int32, gi u 0 22 = y ∧ 0 ≤ y.toInt ∧ y.toInt ≤ 390) ∧ ((gi u 3 2).toInt + (gi u 0 22).toInt = (gi w0 3 2).toInt + (gi w0 0 22).toInt) ∧ ((gi u 0 22).toInt ≤ (gi w0 0 22).toInt) ∧ ((gi u 0 22).toInt + (gi w0 0 19).toInt ≤ (gi w0 0 22).toInt + (gi u 0 19).toInt) ∧ ((gi u 0 22).toInt ≤ (gi u 0 19).toInt + (gi w0 0 18).toInt) ∧ ((gi u 0 22).toInt ≤ 390) ∧ ((gi u 3 2).toInt ≤ 390)))
set_option maxHeartbeats 4000000 in
set_option maxRecDepth 100000 in
theorem k_X12_settles_7 (l : Launch) (adK adV : Nat → Nat) (dC : Nat → ClassId) (dI : Nat → Nat → Nat) (cy : Nat → ClassId) (ad : Nat → Nat) (B : Int) (hB0 : 100000 ≤ B) (hB1 : B ≤ 1073741824) (qr : Nat) (s1 : Int)   (w0 : va_W) (sz : Nat) (hT : TW ksM ad cy B qr 12 w0) (cf0_ : gi w0 0 17 = 2) (f1_ : Int32) (cf1_ : gi w0 0 18 = f1_) (rf1_ : 0 ≤ f1_.toInt) (tf1_ : f1_.toInt ≤ 60) (f2_ : Int32) (cf2_ : gi w0 0 19 = f2_) (rf2_ : (-100) ≤ f2_.toInt) (tf2_ : f2_.toInt ≤ 10) (f3_ : Int32) (cf3_ : gi w0 0 22 = f3_) (rf3_ : 0 ≤ f3_.toInt) (tf3_ : f3_.toInt ≤ 400) (f4_ : Int32) (cf4_ : gi w0 3 2 = f4_) (rf4_ : 0 ≤ f4_.toInt) (tf4_ : f4_.toInt ≤ 400) (pr0_ : f4_.toInt + f3_.toInt ≤ 390) (pr1_ : f3_.toInt ≤ f2_.toInt + f1_.toInt) (pr2_ : f4_.toInt ≤ 390) (pr3_ : f3_.toInt ≤ 390) : Met l yX12_settles wsX12_settles ({ frames := 2, cells := 0, slots := 0, locals := 34 }) (va_Pc [.ref (ad 0), .int 1] (wpreS adK adV dC dI cy sz w0)) (va_Qv (P_X12_settles_7 ad cy B qr s1  w0) (fun u : va_W => wpost dC dI cy (va_A w0 sz) u) (va_A w0 sz)) 0 0 (va_A w0 sz) := by
  refine Met.ofW (cc := cX12_settles) (maxL := 2) (ret := none) (by decide) rfl ?_
  intro p e s m args below meth c s₁ Bk hml hv
  obtain ⟨rfl, ⟨hsz, hP, hK, hD0⟩, hE, hSR⟩ := hv
  have hx := Bk.exec
  have hb := Bk.bytes
  have hr := Bk.returns
  have hlocks := Bk.notSynchronized
  have hC : CallFix p m c cX12_settles 2 s _ wsX12_settles RX12 := ⟨hx, hb, hml, findClass_of_methodNamed Bk.named, atoms_spec (ws := wsX12_settles) Bk.pre⟩
  subst hsz
  have hD := hD0.self (sz := s.heap.size)
  generalize hAe : va_A w0 s.heap.size = A at hD hE ⊢
  have hA : ∀ q : Nat, s.heap.size ≤ q → A q := fun q h => by rw [← hAe]; exact Or.inr h
  have hw : Wd dC dI A s.heap s.heap [] w0 := ⟨hP, hD, va_S.rf⟩
  have hF : FE ksM [(12, 19, 19), (12, 22, 22), (61, 0, 2400), (62, 0, 7)] w0 w0 := FE.rf
  have hl := lv_entry ([.ref (ad 0), .int 1]) (n := 2) (Nat.le_of_ble_eq_true rfl)
  rw [lg_entry_eq]
  generalize (lg_sl ([.ref (ad 0), .int 1]) ++ List.replicate (2 - (lg_sl ([.ref (ad 0), .int 1])).length) Slot.unset).toArray = ls at hl ⊢
  have hl : lv_has ls 2 [(0, .ref (ad 0)), (1, .int 1)] := hl
  generalize hloc : ([] : List Loc) = locs at hw ⊢
  have hinX12 : ∀ w ∈ u_ws RX12 TX12 42, w ∈ wsX12_settles := fun _ h => List.mem_cons_of_mem _ (List.mem_append_right _ (h))
  have J76 : ∀ (f76_0_19 : Int32) (f76_0_22 : Int32) (f76_3_2 : Int32) (H : Heap) (locs : List Loc) (ls : Array Slot) (w1 : va_W), 0 ≤ f1_.toInt → f1_.toInt ≤ 60 → (-60) ≤ f76_0_19.toInt → f76_0_19.toInt ≤ 10 → 0 ≤ f76_0_22.toInt → f76_0_22.toInt ≤ 390 → 0 ≤ f76_3_2.toInt → f76_3_2.toInt ≤ 390 → (f76_3_2.toInt + f76_0_22.toInt = f4_.toInt + f3_.toInt) → (f76_0_22.toInt ≤ f3_.toInt) → (f76_0_22.toInt + f2_.toInt ≤ f3_.toInt + f76_0_19.toInt) → (f76_0_22.toInt ≤ f76_0_19.toInt + f1_.toInt) → (f76_3_2.toInt ≤ 390) → (f76_0_22.toInt ≤ 390) → (-60 ≤ f76_0_19.toInt) → Wd dC dI A s.heap H locs w1 → TW ksM ad cy B qr 12 w1 → FE ksM [(12, 19, 19), (12, 22, 22), (61, 0, 2400), (62, 0, 7)] w0 w1 → gi w1 0 17 = 2 → gi w1 0 18 = f1_ → gi w1 0 19 = f76_0_19 → gi w1 0 22 = f76_0_22 → gi w1 3 2 = f76_3_2 → lv_has ls 2 [(0, .ref (ad 0)), (1, .int 1)] → W p l e ({ frames := 2, cells := 0, slots := 0, locals := 34 }) s m (List.toArray [.ref (ad 0), .int 1]) below meth c H locs 0 0 (MQ below (va_Qv (P_X12_settles_7 ad cy B qr s1  w0) (fun u : va_W => wpost dC dI cy A u) A) (List.toArray [.ref (ad 0), .int 1]) s 0 0 A) (F0 m 76 ls []) := by
    intro f76_0_19 f76_0_22 f76_3_2 H locs ls w1 r3 t4 r6 t7 r9 t10 r12 t13 hcr76_0 hcr76_1 hcr76_2 hcr76_3 hcr76_4 hcr76_5 hcr76_6 hw hT hF c2 c5 c8 c11 c14 hl
    exact tk_vret hC hr hlocks hK ⟨hT, hF, ⟨⟨2, c2, (by decide), (by decide)⟩, ⟨f76_0_19, c8, (show (-60) ≤ f76_0_19.toInt by omega), (show f76_0_19.toInt ≤ 10 by omega)⟩, ⟨f76_0_22, c11, (show 0 ≤ f76_0_22.toInt by omega), (show f76_0_22.toInt ≤ 390 by omega)⟩, (by simp only [cf4_, c14, cf3_, c11]; omega), (by simp only [cf3_, c11]; omega), (by simp only [cf2_, c8, cf3_, c11]; omega), (by simp only [c8, cf1_, c11]; omega), (by simp only [c11]; omega), (by simp only [c14]; omega)⟩⟩ hw dX12_settles_76
  have L0 : ∀ (n0 : Nat) (f0_0_19 : Int32) (f0_0_22 : Int32) (f0_3_2 : Int32) (H : Heap) (locs : List Loc) (ls : Array Slot) (w15 : va_W), 0 ≤ f1_.toInt → f1_.toInt ≤ 60 → (-60) ≤ f0_0_19.toInt → f0_0_19.toInt ≤ 10 → 0 ≤ f0_0_22.toInt → f0_0_22.toInt ≤ 390 → 0 ≤ f0_3_2.toInt → f0_3_2.toInt ≤ 390 → (f0_3_2.toInt + f0_0_22.toInt = f4_.toInt + f3_.toInt) → (f0_0_22.toInt ≤ f3_.toInt) → (f0_0_22.toInt + f2_.toInt ≤ f3_.toInt + f0_0_19.toInt) → (f0_0_22.toInt ≤ f0_0_19.toInt + f1_.toInt) → (f0_3_2.toInt ≤ 390) → (f0_0_22.toInt ≤ 390) → (-60 ≤ f0_0_19.toInt) → (f0_0_22.toInt - 0).toNat < n0 → Wd dC dI A s.heap H locs w15 → TW ksM ad cy B qr 12 w15 → FE ksM [(12, 19, 19), (12, 22, 22), (61, 0, 2400), (62, 0, 7)] w0 w15 → gi w15 0 17 = 2 → gi w15 0 18 = f1_ → gi w15 0 19 = f0_0_19 → gi w15 0 22 = f0_0_22 → gi w15 3 2 = f0_3_2 → lv_has ls 2 [(0, .ref (ad 0)), (1, .int 1)] → W p l e ({ frames := 2, cells := 0, slots := 0, locals := 34 }) s m (List.toArray [.ref (ad 0), .int 1]) below meth c H locs 0 0 (MQ below (va_Qv (P_X12_settles_7 ad cy B qr s1  w0) (fun u : va_W => wpost dC dI cy A u) A) (List.toArray [.ref (ad 0), .int 1]) s 0 0 A) (F0 m 0 ls []) := by
    intro n0
    induction n0 with
    | zero => intro f0_0_19 f0_0_22 f0_3_2 H locs ls w15 r17 t18 r20 t21 r23 t24 r26 t27 hcr0_0 hcr0_1 hcr0_2 hcr0_3 hcr0_4 hcr0_5 hcr0_6 hm0 hw hT hF c16 c19 c22 c25 c28 hl; omega
    | succ n0 ih0 =>
      intro f0_0_19 f0_0_22 f0_3_2 H locs ls w15 r17 t18 r20 t21 r23 t24 r26 t27 hcr0_0 hcr0_1 hcr0_2 hcr0_3 hcr0_4 hcr0_5 hcr0_6 hm0 hw hT hF c16 c19 c22 c25 c28 hl
      refine lv_aload_n hx hb dX12_settles_0 rfl (lv_at hl 0 rfl) ?_
      refine tk_geti hC hK hw hT hinX12 kM_at0 (by decide) rfl 22 (by decide) (List.mem_of_getElem? (i := 1) rfl) rfl rfl dX12_settles_1 (fun x29 c30 rx29 tx29 => ?_)
      refine wk_top f0_0_22 (c30.symm.trans c25) ?_
      refine lv_if_le (tgt := 76) hx hb dX12_settles_4 (by decide) (fun c31 => ?_) (fun c31 => ?_)
      · have c31 : f0_0_22.toInt ≤ (0 : Int) := wk_le.mp c31
        exact J76 f0_0_19 f0_0_22 f0_3_2 H locs ls w15 (show 0 ≤ f1_.toInt by omega) (show f1_.toInt ≤ 60 by omega) (show (-60) ≤ f0_0_19.toInt by omega) (show f0_0_19.toInt ≤ 10 by omega) (show 0 ≤ f0_0_22.toInt by omega) (show f0_0_22.toInt ≤ 390 by omega) (show 0 ≤ f0_3_2.toInt by omega) (show f0_3_2.toInt ≤ 390 by omega) (show f0_3_2.toInt + f0_0_22.toInt = f4_.toInt + f3_.toInt by omega) (show f0_0_22.toInt ≤ f3_.toInt by omega) (show f0_0_22.toInt + f2_.toInt ≤ f3_.toInt + f0_0_19.toInt by omega) (show f0_0_22.toInt ≤ f0_0_19.toInt + f1_.toInt by omega) (show f0_3_2.toInt ≤ 390 by omega) (show f0_0_22.toInt ≤ 390 by omega) (show -60 ≤ f0_0_19.toInt by omega)  hw hT hF c16 c19 c22 c25 c28 (lv_sub hl [0, 1] rfl)
      · have c31 : (0 : Int) < f0_0_22.toInt := wk_leF c31
        refine lv_aload_n hx hb dX12_settles_7 rfl (lv_at hl 0 rfl) ?_
        refine tk_getA hC hK hw hT hinX12 kM_at0 (by decide) rfl 21 (by decide) (List.mem_of_getElem? (i := 2) rfl) rfl rfl dX12_settles_8 ?_
        refine lv_aload_n hx hb dX12_settles_11 rfl (lv_at hl 0 rfl) ?_
        refine tk_geti hC hK hw hT hinX12 kM_at0 (by decide) rfl 22 (by decide) (List.mem_of_getElem? (i := 1) rfl) rfl rfl dX12_settles_12 (fun x32 c33 rx32 tx32 => ?_)
        refine wk_top f0_0_22 (c33.symm.trans c25) ?_
        refine lv_iconst (v := 1) hx hb dX12_settles_15 (by decide) ?_
        refine lv_isub hx hb dX12_settles_16 ?_
        refine lv_topi (fun x34 ex34 => ?_)
        have ex34 : x34.toInt = f0_0_22.toInt - (1 : Int) := by rw [ex34]; exact wk_sub (show (-2147483648) ≤ f0_0_22.toInt - (1 : Int) by omega) (show f0_0_22.toInt - (1 : Int) ≤ 2147483647 by omega)
        refine tk_iald hC hK hw hT kM_at9 rfl rfl (show 0 ≤ x34.toInt by omega) (show x34.toInt < 400 by omega) dX12_settles_17 (fun x35 c36 rx35 tx35 => ?_)
        refine tk_Si hC hK hw hT hA hE hSR (k_X12_strength_1 l adK adV dC dI cy ad B (by omega) (by omega) qr s1   x35 w15 H.size hT ) (va_cwS 1 hC.2.2.2.2 gX12_settles_X12_strength rfl rfl rfl (by decide +kernel) ⟨Nat.le_of_ble_eq_true rfl, Nat.le_of_ble_eq_true rfl⟩) rfl hl.1 rfl (Nat.le_of_ble_eq_true rfl) dX12_settles_18 (fun r37 w39 H locs hp38 hw => ?_)
        obtain ⟨rfl, hg43⟩ := hp38
        obtain ⟨g41, g42⟩ := hg43
        refine lv_iload_n hx hb dX12_settles_21 rfl (lv_at hl 1 rfl) ?_
        refine lv_icmp_lt (tgt := 76) hx hb dX12_settles_22 (by decide) (fun c44 => ?_) (fun c44 => ?_)
        · have c44 : r37.toInt < (1 : Int) := wk_lt.mp c44
          exact J76 f0_0_19 f0_0_22 f0_3_2 H locs ls w15 (show 0 ≤ f1_.toInt by omega) (show f1_.toInt ≤ 60 by omega) (show (-60) ≤ f0_0_19.toInt by omega) (show f0_0_19.toInt ≤ 10 by omega) (show 0 ≤ f0_0_22.toInt by omega) (show f0_0_22.toInt ≤ 390 by omega) (show 0 ≤ f0_3_2.toInt by omega) (show f0_3_2.toInt ≤ 390 by omega) (show f0_3_2.toInt + f0_0_22.toInt = f4_.toInt + f3_.toInt by omega) (show f0_0_22.toInt ≤ f3_.toInt by omega) (show f0_0_22.toInt + f2_.toInt ≤ f3_.toInt + f0_0_19.toInt by omega) (show f0_0_22.toInt ≤ f0_0_19.toInt + f1_.toInt by omega) (show f0_3_2.toInt ≤ 390 by omega) (show f0_0_22.toInt ≤ 390 by omega) (show -60 ≤ f0_0_19.toInt by omega)  hw hT hF c16 c19 c22 c25 c28 (lv_sub hl [0, 1] rfl)
        · have c44 : (1 : Int) ≤ r37.toInt := wk_ltF c44
          refine lv_aload_n hx hb dX12_settles_25 rfl (lv_at hl 0 rfl) ?_
          refine lv_dup hx hb dX12_settles_26 rfl ?_
          refine tk_geti hC hK hw hT hinX12 kM_at0 (by decide) rfl 22 (by decide) (List.mem_of_getElem? (i := 1) rfl) rfl rfl dX12_settles_27 (fun x45 c46 rx45 tx45 => ?_)
          refine wk_top f0_0_22 (c46.symm.trans c25) ?_
          refine lv_iconst (v := 1) hx hb dX12_settles_30 (by decide) ?_
          refine lv_isub hx hb dX12_settles_31 ?_
          refine lv_topi (fun x47 ex47 => ?_)
          have ex47 : x47.toInt = f0_0_22.toInt - (1 : Int) := by rw [ex47]; exact wk_sub (show (-2147483648) ≤ f0_0_22.toInt - (1 : Int) by omega) (show f0_0_22.toInt - (1 : Int) ≤ 2147483647 by omega)
          refine tk_puti hC hK hw hT hinX12 tyX12_ok nmX12 kM_at0 (by decide) rfl rfl 22 (by decide) (List.mem_of_getElem? (i := 1) rfl) rfl rfl rfl rfl (show 0 ≤ x47.toInt by omega) (show x47.toInt ≤ 400 by omega) dX12_settles_32 (fun H locs w48 hw hT k50 c49 => ?_)
          have hF := hF.put kM_at0 (k := 22) (by decide) k50
          have c51 := k50.gi (Or.inr (by decide)) c16
          have c52 := k50.gi (Or.inr (by decide)) c19
          have c53 := k50.gi (Or.inr (by decide)) c22
          have c54 := k50.gi (Or.inr (by decide)) c28
          refine lv_aload_n hx hb dX12_settles_35 rfl (lv_at hl 0 rfl) ?_
          refine lv_aload_n hx hb dX12_settles_36 rfl (lv_at hl 0 rfl) ?_
          refine tk_getA hC hK hw hT hinX12 kM_at0 (by decide) rfl 21 (by decide) (List.mem_of_getElem? (i := 2) rfl) rfl rfl dX12_settles_37 ?_
          refine lv_aload_n hx hb dX12_settles_40 rfl (lv_at hl 0 rfl) ?_
          refine tk_geti hC hK hw hT hinX12 kM_at0 (by decide) rfl 22 (by decide) (List.mem_of_getElem? (i := 1) rfl) rfl rfl dX12_settles_41 (fun x55 c56 rx55 tx55 => ?_)
          refine wk_top x47 (c56.symm.trans c49) ?_
          refine tk_iald hC hK hw hT kM_at9 rfl rfl (show 0 ≤ x47.toInt by omega) (show x47.toInt < 400 by omega) dX12_settles_44 (fun x57 c58 rx57 tx57 => ?_)
          refine lv_iconst (v := 0) hx hb dX12_settles_45 (by decide) ?_
          refine tk_Vv hC hK hw hT hA hE hSR kM_at0 (by decide) rfl (k_X12_puts_5 l adK adV dC dI cy ad B (by omega) (by omega) qr s1   x57 0 w48 H.size hT c51 f0_3_2 c54 (show 0 ≤ f0_3_2.toInt by omega) (show f0_3_2.toInt ≤ 400 by omega) (show f0_3_2.toInt ≤ 399 by omega)) (cwV 2 hC.2.2.2.2 gX12_settles_X12_puts rfl rfl rfl (by decide +kernel) ⟨Nat.le_of_ble_eq_true rfl, Nat.le_of_ble_eq_true rfl⟩) rfl hl.1 rfl (Nat.le_of_ble_eq_true rfl) dX12_settles_46 (fun w61 H locs hp60 hw => ?_)
          obtain ⟨hT, k62, hg66⟩ := hp60
          have hF := hF.tr k62 (by decide)
          have c67 := k62.gi kM_at0 (by decide) c51
          have c68 := k62.gi kM_at0 (by decide) c52
          have c69 := k62.gi kM_at0 (by decide) c53
          have c70 := k62.gi kM_at0 (by decide) c49
          obtain ⟨⟨x63, c64, rx63, tx63⟩, g65⟩ := hg66
          have ex63 : x63.toInt = (2 : Int) := by rw [show x63 = 2 from c64.symm.trans c67]; decide
          obtain ⟨x71, c72, rx71, tx71⟩ := hT.rda (lo := 0) (hi := 400) (i := 2) kM_at3 rfl rfl (by decide)
          have g65 : x71.toInt = f0_3_2.toInt + 1 := by have q := g65; simp only [c54, c72] at q; omega
          refine lv_aload_n hx hb dX12_settles_49 rfl (lv_at hl 0 rfl) ?_
          refine tk_getA hC hK hw hT hinX12 kM_at0 (by decide) rfl 21 (by decide) (List.mem_of_getElem? (i := 2) rfl) rfl rfl dX12_settles_50 ?_
          refine lv_aload_n hx hb dX12_settles_53 rfl (lv_at hl 0 rfl) ?_
          refine tk_geti hC hK hw hT hinX12 kM_at0 (by decide) rfl 22 (by decide) (List.mem_of_getElem? (i := 1) rfl) rfl rfl dX12_settles_54 (fun x73 c74 rx73 tx73 => ?_)
          refine wk_top x47 (c74.symm.trans c70) ?_
          refine tk_iald hC hK hw hT kM_at9 rfl rfl (show 0 ≤ x47.toInt by omega) (show x47.toInt < 400 by omega) dX12_settles_57 (fun x75 c76 rx75 tx75 => ?_)
          refine lv_bipush (v := 11) hx hb dX12_settles_58 (by decide) ?_
          refine lv_icmp_ne (tgt := 0) hx hb dX12_settles_60 (by decide) (fun c77 => ?_) (fun c77 => ?_)
          · have c77 : ¬ x75.toInt = (11 : Int) := wk_eqF c77
            exact ih0 f0_0_19 x47 x71 H locs ls w61 (show 0 ≤ f1_.toInt by omega) (show f1_.toInt ≤ 60 by omega) (show (-60) ≤ f0_0_19.toInt by omega) (show f0_0_19.toInt ≤ 10 by omega) (show 0 ≤ x47.toInt by omega) (show x47.toInt ≤ 390 by omega) (show 0 ≤ x71.toInt by omega) (show x71.toInt ≤ 390 by omega) (show x71.toInt + x47.toInt = f4_.toInt + f3_.toInt by omega) (show x47.toInt ≤ f3_.toInt by omega) (show x47.toInt + f2_.toInt ≤ f3_.toInt + f0_0_19.toInt by omega) (show x47.toInt ≤ f0_0_19.toInt + f1_.toInt by omega) (show x71.toInt ≤ 390 by omega) (show x47.toInt ≤ 390 by omega) (show -60 ≤ f0_0_19.toInt by omega) (show (x47.toInt - 0).toNat < n0 by omega) hw hT hF c67 c68 c69 c70 c72 (lv_sub hl [0, 1] rfl)
          · have c77 : x75.toInt = (11 : Int) := wk_eq.mp c77
            refine lv_aload_n hx hb dX12_settles_63 rfl (lv_at hl 0 rfl) ?_
            refine lv_dup hx hb dX12_settles_64 rfl ?_
            refine tk_geti hC hK hw hT hinX12 kM_at0 (by decide) rfl 19 (by decide) (List.mem_of_getElem? (i := 3) rfl) rfl rfl dX12_settles_65 (fun x78 c79 rx78 tx78 => ?_)
            refine wk_top f0_0_19 (c79.symm.trans c69) ?_
            refine lv_iconst (v := 1) hx hb dX12_settles_68 (by decide) ?_
            refine lv_isub hx hb dX12_settles_69 ?_
            refine lv_topi (fun x80 ex80 => ?_)
            have ex80 : x80.toInt = f0_0_19.toInt - (1 : Int) := by rw [ex80]; exact wk_sub (show (-2147483648) ≤ f0_0_19.toInt - (1 : Int) by omega) (show f0_0_19.toInt - (1 : Int) ≤ 2147483647 by omega)
            refine tk_puti hC hK hw hT hinX12 tyX12_ok nmX12 kM_at0 (by decide) rfl rfl 19 (by decide) (List.mem_of_getElem? (i := 3) rfl) rfl rfl rfl rfl (show (-100) ≤ x80.toInt by omega) (show x80.toInt ≤ 10 by omega) dX12_settles_70 (fun H locs w81 hw hT k83 c82 => ?_)
            have hF := hF.put kM_at0 (k := 19) (by decide) k83
            have c84 := k83.gi (Or.inr (by decide)) c67
            have c85 := k83.gi (Or.inr (by decide)) c68
            have c86 := k83.gi (Or.inr (by decide)) c70
            have c87 := k83.gi (Or.inr (by decide)) c72
            refine lv_goto (tgt := 0) hx hb dX12_settles_73 (by decide) ?_
            exact ih0 x80 x47 x71 H locs ls w81 (show 0 ≤ f1_.toInt by omega) (show f1_.toInt ≤ 60 by omega) (show (-60) ≤ x80.toInt by omega) (show x80.toInt ≤ 10 by omega) (show 0 ≤ x47.toInt by omega) (show x47.toInt ≤ 390 by omega) (show 0 ≤ x71.toInt by omega) (show x71.toInt ≤ 390 by omega) (show x71.toInt + x47.toInt = f4_.toInt + f3_.toInt by omega) (show x47.toInt ≤ f3_.toInt by omega) (show x47.toInt + f2_.toInt ≤ f3_.toInt + x80.toInt by omega) (show x47.toInt ≤ x80.toInt + f1_.toInt by omega) (show x71.toInt ≤ 390 by omega) (show x47.toInt ≤ 390 by omega) (show -60 ≤ x80.toInt by omega) (show (x47.toInt - 0).toNat < n0 by omega) hw hT hF c84 c85 c82 c86 c87 (lv_sub hl [0, 1] rfl)
  exact L0 ((f3_.toInt - 0).toNat + 1) f2_ f3_ f4_ s.heap locs ls w0 (show 0 ≤ f1_.toInt by omega) (show f1_.toInt ≤ 60 by omega) (show (-60) ≤ f2_.toInt by omega) (show f2_.toInt ≤ 10 by omega) (show 0 ≤ f3_.toInt by omega) (show f3_.toInt ≤ 390 by omega) (show 0 ≤ f4_.toInt by omega) (show f4_.toInt ≤ 390 by omega) (show f4_.toInt + f3_.toInt = f4_.toInt + f3_.toInt by omega) (show f3_.toInt ≤ f3_.toInt by omega) (show f3_.toInt + f2_.toInt ≤ f3_.toInt + f2_.toInt by omega) (show f3_.toInt ≤ f2_.toInt + f1_.toInt by omega) (show f4_.toInt ≤ 390 by omega) (show f3_.toInt ≤ 390 by omega) (show -60 ≤ f2_.toInt by omega) (Nat.lt_succ_self _) hw hT hF cf0_ cf1_ cf2_ cf3_ cf4_ (lv_sub hl [0, 1] rfl)
abbrev P_X12_settles_8 (ad : Nat → Nat) (cy : Nat → ClassId) (B : Int) (qr : Nat) (s1 : Int)  (w0 : va_W) : va_W → Prop := fun u => TW ksM ad cy B qr 12 u ∧ FE ksM [(12, 19, 19), (12, 22, 22), (61, 0, 2400), (62, 0, 7)] w0 u ∧ (((∃ y : Int32, gi u 0 17 = y ∧ 2 ≤ y.toInt ∧ y.toInt ≤ 2) ∧ (∃ y : Int32, gi u 0 19 = y ∧ (-60) ≤ y.toInt ∧ y.toInt ≤ 10) ∧ (∃ y : Int32, gi u 0 22 = y ∧ 0 ≤ y.toInt ∧ y.toInt ≤ 390) ∧ ((gi u 3 2).toInt + (gi u 0 22).toInt = (gi w0 3 2).toInt + (gi w0 0 22).toInt) ∧ ((gi u 0 22).toInt ≤ (gi w0 0 22).toInt) ∧ ((gi u 0 22).toInt + (gi w0 0 19).toInt ≤ (gi w0 0 22).toInt + (gi u 0 19).toInt) ∧ ((gi u 0 22).toInt ≤ (gi u 0 19).toInt + (gi w0 0 18).toInt) ∧ ((gi u 0 22).toInt ≤ 390) ∧ ((gi u 3 2).toInt ≤ 390)))
set_option maxHeartbeats 4000000 in
set_option maxRecDepth 100000 in
theorem k_X12_settles_8 (l : Launch) (adK adV : Nat → Nat) (dC : Nat → ClassId) (dI : Nat → Nat → Nat) (cy : Nat → ClassId) (ad : Nat → Nat) (B : Int) (hB0 : 100000 ≤ B) (hB1 : B ≤ 1073741824) (qr : Nat) (s1 : Int)   (w0 : va_W) (sz : Nat) (hT : TW ksM ad cy B qr 12 w0) (cf0_ : gi w0 0 17 = 2) (f1_ : Int32) (cf1_ : gi w0 0 18 = f1_) (rf1_ : 0 ≤ f1_.toInt) (tf1_ : f1_.toInt ≤ 60) (f2_ : Int32) (cf2_ : gi w0 0 19 = f2_) (rf2_ : (-100) ≤ f2_.toInt) (tf2_ : f2_.toInt ≤ 10) (f3_ : Int32) (cf3_ : gi w0 0 22 = f3_) (rf3_ : 0 ≤ f3_.toInt) (tf3_ : f3_.toInt ≤ 400) (f4_ : Int32) (cf4_ : gi w0 3 2 = f4_) (rf4_ : 0 ≤ f4_.toInt) (tf4_ : f4_.toInt ≤ 400) (pr0_ : f4_.toInt + f3_.toInt ≤ 390) (pr1_ : f3_.toInt ≤ f2_.toInt + f1_.toInt) (pr2_ : f4_.toInt ≤ 390) (pr3_ : f3_.toInt ≤ 390) : Met l yX12_settles wsX12_settles ({ frames := 2, cells := 0, slots := 0, locals := 34 }) (va_Pc [.ref (ad 0), .int 3] (wpreS adK adV dC dI cy sz w0)) (va_Qv (P_X12_settles_8 ad cy B qr s1  w0) (fun u : va_W => wpost dC dI cy (va_A w0 sz) u) (va_A w0 sz)) 0 0 (va_A w0 sz) := by
  refine Met.ofW (cc := cX12_settles) (maxL := 2) (ret := none) (by decide) rfl ?_
  intro p e s m args below meth c s₁ Bk hml hv
  obtain ⟨rfl, ⟨hsz, hP, hK, hD0⟩, hE, hSR⟩ := hv
  have hx := Bk.exec
  have hb := Bk.bytes
  have hr := Bk.returns
  have hlocks := Bk.notSynchronized
  have hC : CallFix p m c cX12_settles 2 s _ wsX12_settles RX12 := ⟨hx, hb, hml, findClass_of_methodNamed Bk.named, atoms_spec (ws := wsX12_settles) Bk.pre⟩
  subst hsz
  have hD := hD0.self (sz := s.heap.size)
  generalize hAe : va_A w0 s.heap.size = A at hD hE ⊢
  have hA : ∀ q : Nat, s.heap.size ≤ q → A q := fun q h => by rw [← hAe]; exact Or.inr h
  have hw : Wd dC dI A s.heap s.heap [] w0 := ⟨hP, hD, va_S.rf⟩
  have hF : FE ksM [(12, 19, 19), (12, 22, 22), (61, 0, 2400), (62, 0, 7)] w0 w0 := FE.rf
  have hl := lv_entry ([.ref (ad 0), .int 3]) (n := 2) (Nat.le_of_ble_eq_true rfl)
  rw [lg_entry_eq]
  generalize (lg_sl ([.ref (ad 0), .int 3]) ++ List.replicate (2 - (lg_sl ([.ref (ad 0), .int 3])).length) Slot.unset).toArray = ls at hl ⊢
  have hl : lv_has ls 2 [(0, .ref (ad 0)), (1, .int 3)] := hl
  generalize hloc : ([] : List Loc) = locs at hw ⊢
  have hinX12 : ∀ w ∈ u_ws RX12 TX12 42, w ∈ wsX12_settles := fun _ h => List.mem_cons_of_mem _ (List.mem_append_right _ (h))
  have J76 : ∀ (f76_0_19 : Int32) (f76_0_22 : Int32) (f76_3_2 : Int32) (H : Heap) (locs : List Loc) (ls : Array Slot) (w1 : va_W), 0 ≤ f1_.toInt → f1_.toInt ≤ 60 → (-60) ≤ f76_0_19.toInt → f76_0_19.toInt ≤ 10 → 0 ≤ f76_0_22.toInt → f76_0_22.toInt ≤ 390 → 0 ≤ f76_3_2.toInt → f76_3_2.toInt ≤ 390 → (f76_3_2.toInt + f76_0_22.toInt = f4_.toInt + f3_.toInt) → (f76_0_22.toInt ≤ f3_.toInt) → (f76_0_22.toInt + f2_.toInt ≤ f3_.toInt + f76_0_19.toInt) → (f76_0_22.toInt ≤ f76_0_19.toInt + f1_.toInt) → (f76_3_2.toInt ≤ 390) → (f76_0_22.toInt ≤ 390) → (-60 ≤ f76_0_19.toInt) → Wd dC dI A s.heap H locs w1 → TW ksM ad cy B qr 12 w1 → FE ksM [(12, 19, 19), (12, 22, 22), (61, 0, 2400), (62, 0, 7)] w0 w1 → gi w1 0 17 = 2 → gi w1 0 18 = f1_ → gi w1 0 19 = f76_0_19 → gi w1 0 22 = f76_0_22 → gi w1 3 2 = f76_3_2 → lv_has ls 2 [(0, .ref (ad 0)), (1, .int 3)] → W p l e ({ frames := 2, cells := 0, slots := 0, locals := 34 }) s m (List.toArray [.ref (ad 0), .int 3]) below meth c H locs 0 0 (MQ below (va_Qv (P_X12_settles_8 ad cy B qr s1  w0) (fun u : va_W => wpost dC dI cy A u) A) (List.toArray [.ref (ad 0), .int 3]) s 0 0 A) (F0 m 76 ls []) := by
    intro f76_0_19 f76_0_22 f76_3_2 H locs ls w1 r3 t4 r6 t7 r9 t10 r12 t13 hcr76_0 hcr76_1 hcr76_2 hcr76_3 hcr76_4 hcr76_5 hcr76_6 hw hT hF c2 c5 c8 c11 c14 hl
    exact tk_vret hC hr hlocks hK ⟨hT, hF, ⟨⟨2, c2, (by decide), (by decide)⟩, ⟨f76_0_19, c8, (show (-60) ≤ f76_0_19.toInt by omega), (show f76_0_19.toInt ≤ 10 by omega)⟩, ⟨f76_0_22, c11, (show 0 ≤ f76_0_22.toInt by omega), (show f76_0_22.toInt ≤ 390 by omega)⟩, (by simp only [cf4_, c14, cf3_, c11]; omega), (by simp only [cf3_, c11]; omega), (by simp only [cf2_, c8, cf3_, c11]; omega), (by simp only [c8, cf1_, c11]; omega), (by simp only [c11]; omega), (by simp only [c14]; omega)⟩⟩ hw dX12_settles_76
  have L0 : ∀ (n0 : Nat) (f0_0_19 : Int32) (f0_0_22 : Int32) (f0_3_2 : Int32) (H : Heap) (locs : List Loc) (ls : Array Slot) (w15 : va_W), 0 ≤ f1_.toInt → f1_.toInt ≤ 60 → (-60) ≤ f0_0_19.toInt → f0_0_19.toInt ≤ 10 → 0 ≤ f0_0_22.toInt → f0_0_22.toInt ≤ 390 → 0 ≤ f0_3_2.toInt → f0_3_2.toInt ≤ 390 → (f0_3_2.toInt + f0_0_22.toInt = f4_.toInt + f3_.toInt) → (f0_0_22.toInt ≤ f3_.toInt) → (f0_0_22.toInt + f2_.toInt ≤ f3_.toInt + f0_0_19.toInt) → (f0_0_22.toInt ≤ f0_0_19.toInt + f1_.toInt) → (f0_3_2.toInt ≤ 390) → (f0_0_22.toInt ≤ 390) → (-60 ≤ f0_0_19.toInt) → (f0_0_22.toInt - 0).toNat < n0 → Wd dC dI A s.heap H locs w15 → TW ksM ad cy B qr 12 w15 → FE ksM [(12, 19, 19), (12, 22, 22), (61, 0, 2400), (62, 0, 7)] w0 w15 → gi w15 0 17 = 2 → gi w15 0 18 = f1_ → gi w15 0 19 = f0_0_19 → gi w15 0 22 = f0_0_22 → gi w15 3 2 = f0_3_2 → lv_has ls 2 [(0, .ref (ad 0)), (1, .int 3)] → W p l e ({ frames := 2, cells := 0, slots := 0, locals := 34 }) s m (List.toArray [.ref (ad 0), .int 3]) below meth c H locs 0 0 (MQ below (va_Qv (P_X12_settles_8 ad cy B qr s1  w0) (fun u : va_W => wpost dC dI cy A u) A) (List.toArray [.ref (ad 0), .int 3]) s 0 0 A) (F0 m 0 ls []) := by
    intro n0
    induction n0 with
    | zero => intro f0_0_19 f0_0_22 f0_3_2 H locs ls w15 r17 t18 r20 t21 r23 t24 r26 t27 hcr0_0 hcr0_1 hcr0_2 hcr0_3 hcr0_4 hcr0_5 hcr0_6 hm0 hw hT hF c16 c19 c22 c25 c28 hl; omega
    | succ n0 ih0 =>
      intro f0_0_19 f0_0_22 f0_3_2 H locs ls w15 r17 t18 r20 t21 r23 t24 r26 t27 hcr0_0 hcr0_1 hcr0_2 hcr0_3 hcr0_4 hcr0_5 hcr0_6 hm0 hw hT hF c16 c19 c22 c25 c28 hl
      refine lv_aload_n hx hb dX12_settles_0 rfl (lv_at hl 0 rfl) ?_
      refine tk_geti hC hK hw hT hinX12 kM_at0 (by decide) rfl 22 (by decide) (List.mem_of_getElem? (i := 1) rfl) rfl rfl dX12_settles_1 (fun x29 c30 rx29 tx29 => ?_)
      refine wk_top f0_0_22 (c30.symm.trans c25) ?_
      refine lv_if_le (tgt := 76) hx hb dX12_settles_4 (by decide) (fun c31 => ?_) (fun c31 => ?_)
      · have c31 : f0_0_22.toInt ≤ (0 : Int) := wk_le.mp c31
        exact J76 f0_0_19 f0_0_22 f0_3_2 H locs ls w15 (show 0 ≤ f1_.toInt by omega) (show f1_.toInt ≤ 60 by omega) (show (-60) ≤ f0_0_19.toInt by omega) (show f0_0_19.toInt ≤ 10 by omega) (show 0 ≤ f0_0_22.toInt by omega) (show f0_0_22.toInt ≤ 390 by omega) (show 0 ≤ f0_3_2.toInt by omega) (show f0_3_2.toInt ≤ 390 by omega) (show f0_3_2.toInt + f0_0_22.toInt = f4_.toInt + f3_.toInt by omega) (show f0_0_22.toInt ≤ f3_.toInt by omega) (show f0_0_22.toInt + f2_.toInt ≤ f3_.toInt + f0_0_19.toInt by omega) (show f0_0_22.toInt ≤ f0_0_19.toInt + f1_.toInt by omega) (show f0_3_2.toInt ≤ 390 by omega) (show f0_0_22.toInt ≤ 390 by omega) (show -60 ≤ f0_0_19.toInt by omega)  hw hT hF c16 c19 c22 c25 c28 (lv_sub hl [0, 1] rfl)
      · have c31 : (0 : Int) < f0_0_22.toInt := wk_leF c31
        refine lv_aload_n hx hb dX12_settles_7 rfl (lv_at hl 0 rfl) ?_
        refine tk_getA hC hK hw hT hinX12 kM_at0 (by decide) rfl 21 (by decide) (List.mem_of_getElem? (i := 2) rfl) rfl rfl dX12_settles_8 ?_
        refine lv_aload_n hx hb dX12_settles_11 rfl (lv_at hl 0 rfl) ?_
        refine tk_geti hC hK hw hT hinX12 kM_at0 (by decide) rfl 22 (by decide) (List.mem_of_getElem? (i := 1) rfl) rfl rfl dX12_settles_12 (fun x32 c33 rx32 tx32 => ?_)
        refine wk_top f0_0_22 (c33.symm.trans c25) ?_
        refine lv_iconst (v := 1) hx hb dX12_settles_15 (by decide) ?_
        refine lv_isub hx hb dX12_settles_16 ?_
        refine lv_topi (fun x34 ex34 => ?_)
        have ex34 : x34.toInt = f0_0_22.toInt - (1 : Int) := by rw [ex34]; exact wk_sub (show (-2147483648) ≤ f0_0_22.toInt - (1 : Int) by omega) (show f0_0_22.toInt - (1 : Int) ≤ 2147483647 by omega)
        refine tk_iald hC hK hw hT kM_at9 rfl rfl (show 0 ≤ x34.toInt by omega) (show x34.toInt < 400 by omega) dX12_settles_17 (fun x35 c36 rx35 tx35 => ?_)
        refine tk_Si hC hK hw hT hA hE hSR (k_X12_strength_1 l adK adV dC dI cy ad B (by omega) (by omega) qr s1   x35 w15 H.size hT ) (va_cwS 1 hC.2.2.2.2 gX12_settles_X12_strength rfl rfl rfl (by decide +kernel) ⟨Nat.le_of_ble_eq_true rfl, Nat.le_of_ble_eq_true rfl⟩) rfl hl.1 rfl (Nat.le_of_ble_eq_true rfl) dX12_settles_18 (fun r37 w39 H locs hp38 hw => ?_)
        obtain ⟨rfl, hg43⟩ := hp38
        obtain ⟨g41, g42⟩ := hg43
        refine lv_iload_n hx hb dX12_settles_21 rfl (lv_at hl 1 rfl) ?_
        refine lv_icmp_lt (tgt := 76) hx hb dX12_settles_22 (by decide) (fun c44 => ?_) (fun c44 => ?_)
        · have c44 : r37.toInt < (3 : Int) := wk_lt.mp c44
          exact J76 f0_0_19 f0_0_22 f0_3_2 H locs ls w15 (show 0 ≤ f1_.toInt by omega) (show f1_.toInt ≤ 60 by omega) (show (-60) ≤ f0_0_19.toInt by omega) (show f0_0_19.toInt ≤ 10 by omega) (show 0 ≤ f0_0_22.toInt by omega) (show f0_0_22.toInt ≤ 390 by omega) (show 0 ≤ f0_3_2.toInt by omega) (show f0_3_2.toInt ≤ 390 by omega) (show f0_3_2.toInt + f0_0_22.toInt = f4_.toInt + f3_.toInt by omega) (show f0_0_22.toInt ≤ f3_.toInt by omega) (show f0_0_22.toInt + f2_.toInt ≤ f3_.toInt + f0_0_19.toInt by omega) (show f0_0_22.toInt ≤ f0_0_19.toInt + f1_.toInt by omega) (show f0_3_2.toInt ≤ 390 by omega) (show f0_0_22.toInt ≤ 390 by omega) (show -60 ≤ f0_0_19.toInt by omega)  hw hT hF c16 c19 c22 c25 c28 (lv_sub hl [0, 1] rfl)
        · have c44 : (3 : Int) ≤ r37.toInt := wk_ltF c44
          refine lv_aload_n hx hb dX12_settles_25 rfl (lv_at hl 0 rfl) ?_
          refine lv_dup hx hb dX12_settles_26 rfl ?_
          refine tk_geti hC hK hw hT hinX12 kM_at0 (by decide) rfl 22 (by decide) (List.mem_of_getElem? (i := 1) rfl) rfl rfl dX12_settles_27 (fun x45 c46 rx45 tx45 => ?_)
          refine wk_top f0_0_22 (c46.symm.trans c25) ?_
          refine lv_iconst (v := 1) hx hb dX12_settles_30 (by decide) ?_
          refine lv_isub hx hb dX12_settles_31 ?_
          refine lv_topi (fun x47 ex47 => ?_)
          have ex47 : x47.toInt = f0_0_22.toInt - (1 : Int) := by rw [ex47]; exact wk_sub (show (-2147483648) ≤ f0_0_22.toInt - (1 : Int) by omega) (show f0_0_22.toInt - (1 : Int) ≤ 2147483647 by omega)
          refine tk_puti hC hK hw hT hinX12 tyX12_ok nmX12 kM_at0 (by decide) rfl rfl 22 (by decide) (List.mem_of_getElem? (i := 1) rfl) rfl rfl rfl rfl (show 0 ≤ x47.toInt by omega) (show x47.toInt ≤ 400 by omega) dX12_settles_32 (fun H locs w48 hw hT k50 c49 => ?_)
          have hF := hF.put kM_at0 (k := 22) (by decide) k50
          have c51 := k50.gi (Or.inr (by decide)) c16
          have c52 := k50.gi (Or.inr (by decide)) c19
          have c53 := k50.gi (Or.inr (by decide)) c22
          have c54 := k50.gi (Or.inr (by decide)) c28
          refine lv_aload_n hx hb dX12_settles_35 rfl (lv_at hl 0 rfl) ?_
          refine lv_aload_n hx hb dX12_settles_36 rfl (lv_at hl 0 rfl) ?_
          refine tk_getA hC hK hw hT hinX12 kM_at0 (by decide) rfl 21 (by decide) (List.mem_of_getElem? (i := 2) rfl) rfl rfl dX12_settles_37 ?_
          refine lv_aload_n hx hb dX12_settles_40 rfl (lv_at hl 0 rfl) ?_
          refine tk_geti hC hK hw hT hinX12 kM_at0 (by decide) rfl 22 (by decide) (List.mem_of_getElem? (i := 1) rfl) rfl rfl dX12_settles_41 (fun x55 c56 rx55 tx55 => ?_)
          refine wk_top x47 (c56.symm.trans c49) ?_
          refine tk_iald hC hK hw hT kM_at9 rfl rfl (show 0 ≤ x47.toInt by omega) (show x47.toInt < 400 by omega) dX12_settles_44 (fun x57 c58 rx57 tx57 => ?_)
          refine lv_iconst (v := 0) hx hb dX12_settles_45 (by decide) ?_
          refine tk_Vv hC hK hw hT hA hE hSR kM_at0 (by decide) rfl (k_X12_puts_5 l adK adV dC dI cy ad B (by omega) (by omega) qr s1   x57 0 w48 H.size hT c51 f0_3_2 c54 (show 0 ≤ f0_3_2.toInt by omega) (show f0_3_2.toInt ≤ 400 by omega) (show f0_3_2.toInt ≤ 399 by omega)) (cwV 2 hC.2.2.2.2 gX12_settles_X12_puts rfl rfl rfl (by decide +kernel) ⟨Nat.le_of_ble_eq_true rfl, Nat.le_of_ble_eq_true rfl⟩) rfl hl.1 rfl (Nat.le_of_ble_eq_true rfl) dX12_settles_46 (fun w61 H locs hp60 hw => ?_)
          obtain ⟨hT, k62, hg66⟩ := hp60
          have hF := hF.tr k62 (by decide)
          have c67 := k62.gi kM_at0 (by decide) c51
          have c68 := k62.gi kM_at0 (by decide) c52
          have c69 := k62.gi kM_at0 (by decide) c53
          have c70 := k62.gi kM_at0 (by decide) c49
          obtain ⟨⟨x63, c64, rx63, tx63⟩, g65⟩ := hg66
          have ex63 : x63.toInt = (2 : Int) := by rw [show x63 = 2 from c64.symm.trans c67]; decide
          obtain ⟨x71, c72, rx71, tx71⟩ := hT.rda (lo := 0) (hi := 400) (i := 2) kM_at3 rfl rfl (by decide)
          have g65 : x71.toInt = f0_3_2.toInt + 1 := by have q := g65; simp only [c54, c72] at q; omega
          refine lv_aload_n hx hb dX12_settles_49 rfl (lv_at hl 0 rfl) ?_
          refine tk_getA hC hK hw hT hinX12 kM_at0 (by decide) rfl 21 (by decide) (List.mem_of_getElem? (i := 2) rfl) rfl rfl dX12_settles_50 ?_
          refine lv_aload_n hx hb dX12_settles_53 rfl (lv_at hl 0 rfl) ?_
          refine tk_geti hC hK hw hT hinX12 kM_at0 (by decide) rfl 22 (by decide) (List.mem_of_getElem? (i := 1) rfl) rfl rfl dX12_settles_54 (fun x73 c74 rx73 tx73 => ?_)
          refine wk_top x47 (c74.symm.trans c70) ?_
          refine tk_iald hC hK hw hT kM_at9 rfl rfl (show 0 ≤ x47.toInt by omega) (show x47.toInt < 400 by omega) dX12_settles_57 (fun x75 c76 rx75 tx75 => ?_)
          refine lv_bipush (v := 11) hx hb dX12_settles_58 (by decide) ?_
          refine lv_icmp_ne (tgt := 0) hx hb dX12_settles_60 (by decide) (fun c77 => ?_) (fun c77 => ?_)
          · have c77 : ¬ x75.toInt = (11 : Int) := wk_eqF c77
            exact ih0 f0_0_19 x47 x71 H locs ls w61 (show 0 ≤ f1_.toInt by omega) (show f1_.toInt ≤ 60 by omega) (show (-60) ≤ f0_0_19.toInt by omega) (show f0_0_19.toInt ≤ 10 by omega) (show 0 ≤ x47.toInt by omega) (show x47.toInt ≤ 390 by omega) (show 0 ≤ x71.toInt by omega) (show x71.toInt ≤ 390 by omega) (show x71.toInt + x47.toInt = f4_.toInt + f3_.toInt by omega) (show x47.toInt ≤ f3_.toInt by omega) (show x47.toInt + f2_.toInt ≤ f3_.toInt + f0_0_19.toInt by omega) (show x47.toInt ≤ f0_0_19.toInt + f1_.toInt by omega) (show x71.toInt ≤ 390 by omega) (show x47.toInt ≤ 390 by omega) (show -60 ≤ f0_0_19.toInt by omega) (show (x47.toInt - 0).toNat < n0 by omega) hw hT hF c67 c68 c69 c70 c72 (lv_sub hl [0, 1] rfl)
          · have c77 : x75.toInt = (11 : Int) := wk_eq.mp c77
            refine lv_aload_n hx hb dX12_settles_63 rfl (lv_at hl 0 rfl) ?_
            refine lv_dup hx hb dX12_settles_64 rfl ?_
            refine tk_geti hC hK hw hT hinX12 kM_at0 (by decide) rfl 19 (by decide) (List.mem_of_getElem? (i := 3) rfl) rfl rfl dX12_settles_65 (fun x78 c79 rx78 tx78 => ?_)
            refine wk_top f0_0_19 (c79.symm.trans c69) ?_
            refine lv_iconst (v := 1) hx hb dX12_settles_68 (by decide) ?_
            refine lv_isub hx hb dX12_settles_69 ?_
            refine lv_topi (fun x80 ex80 => ?_)
            have ex80 : x80.toInt = f0_0_19.toInt - (1 : Int) := by rw [ex80]; exact wk_sub (show (-2147483648) ≤ f0_0_19.toInt - (1 : Int) by omega) (show f0_0_19.toInt - (1 : Int) ≤ 2147483647 by omega)
            refine tk_puti hC hK hw hT hinX12 tyX12_ok nmX12 kM_at0 (by decide) rfl rfl 19 (by decide) (List.mem_of_getElem? (i := 3) rfl) rfl rfl rfl rfl (show (-100) ≤ x80.toInt by omega) (show x80.toInt ≤ 10 by omega) dX12_settles_70 (fun H locs w81 hw hT k83 c82 => ?_)
            have hF := hF.put kM_at0 (k := 19) (by decide) k83
            have c84 := k83.gi (Or.inr (by decide)) c67
            have c85 := k83.gi (Or.inr (by decide)) c68
            have c86 := k83.gi (Or.inr (by decide)) c70
            have c87 := k83.gi (Or.inr (by decide)) c72
            refine lv_goto (tgt := 0) hx hb dX12_settles_73 (by decide) ?_
            exact ih0 x80 x47 x71 H locs ls w81 (show 0 ≤ f1_.toInt by omega) (show f1_.toInt ≤ 60 by omega) (show (-60) ≤ x80.toInt by omega) (show x80.toInt ≤ 10 by omega) (show 0 ≤ x47.toInt by omega) (show x47.toInt ≤ 390 by omega) (show 0 ≤ x71.toInt by omega) (show x71.toInt ≤ 390 by omega) (show x71.toInt + x47.toInt = f4_.toInt + f3_.toInt by omega) (show x47.toInt ≤ f3_.toInt by omega) (show x47.toInt + f2_.toInt ≤ f3_.toInt + x80.toInt by omega) (show x47.toInt ≤ x80.toInt + f1_.toInt by omega) (show x71.toInt ≤ 390 by omega) (show x47.toInt ≤ 390 by omega) (show -60 ≤ x80.toInt by omega) (show (x47.toInt - 0).toNat < n0 by omega) hw hT hF c84 c85 c82 c86 c87 (lv_sub hl [0, 1] rfl)
  exact L0 ((f3_.toInt - 0).toNat + 1) f2_ f3_ f4_ s.heap locs ls w0 (show 0 ≤ f1_.toInt by omega) (show f1_.toInt ≤ 60 by omega) (show (-60) ≤ f2_.toInt by omega) (show f2_.toInt ≤ 10 by omega) (show 0 ≤ f3_.toInt by omega) (show f3_.toInt ≤ 390 by omega) (show 0 ≤ f4_.toInt by omega) (show f4_.toInt ≤ 390 by omega) (show f4_.toInt + f3_.toInt = f4_.toInt + f3_.toInt by omega) (show f3_.toInt ≤ f3_.toInt by omega) (show f3_.toInt + f2_.toInt ≤ f3_.toInt + f2_.toInt by omega) (show f3_.toInt ≤ f2_.toInt + f1_.toInt by omega) (show f4_.toInt ≤ 390 by omega) (show f3_.toInt ≤ 390 by omega) (show -60 ≤ f2_.toInt by omega) (Nat.lt_succ_self _) hw hT hF cf0_ cf1_ cf2_ cf3_ cf4_ (lv_sub hl [0, 1] rfl)
abbrev P_X12_puts_6 (ad : Nat → Nat) (cy : Nat → ClassId) (B : Int) (qr : Nat) (s1 : Int) (a1 : Int32) (a2 : Int32) (w0 : va_W) : va_W → Prop := fun u => TW ksM ad cy B qr 12 u ∧ FE ksM [(61, 0, 2400), (62, 0, 7)] w0 u ∧ (((∃ y : Int32, gi u 0 17 = y ∧ 2 ≤ y.toInt ∧ y.toInt ≤ 2) ∧ ((gi u 3 2).toInt = (gi w0 3 2).toInt + 1)))
set_option maxHeartbeats 4000000 in
set_option maxRecDepth 100000 in
theorem k_X12_puts_6 (l : Launch) (adK adV : Nat → Nat) (dC : Nat → ClassId) (dI : Nat → Nat → Nat) (cy : Nat → ClassId) (ad : Nat → Nat) (B : Int) (hB0 : 100000 ≤ B) (hB1 : B ≤ 1073741824) (qr : Nat) (s1 : Int)  (a1 : Int32) (ra1 : 0 ≤ a1.toInt) (ta1 : a1.toInt ≤ 400) (a2 : Int32) (w0 : va_W) (sz : Nat) (hT : TW ksM ad cy B qr 12 w0) (cf0_ : gi w0 0 17 = 2) (f1_ : Int32) (cf1_ : gi w0 3 2 = f1_) (rf1_ : 0 ≤ f1_.toInt) (tf1_ : f1_.toInt ≤ 400) (pr0_ : f1_.toInt ≤ 399) : Met l yX12_puts wsX12_puts ({ frames := 1, cells := 0, slots := 0, locals := 12 }) (va_Pc [.ref (ad 0), .int a1, .int a2] (wpreS adK adV dC dI cy sz w0)) (va_Qv (P_X12_puts_6 ad cy B qr s1 a1 a2 w0) (fun u : va_W => wpost dC dI cy (va_A w0 sz) u) (va_A w0 sz)) 0 0 (va_A w0 sz) := by
  refine Met.ofW (cc := cX12_puts) (maxL := 3) (ret := none) (by decide) rfl ?_
  intro p e s m args below meth c s₁ Bk hml hv
  obtain ⟨rfl, ⟨hsz, hP, hK, hD0⟩, hE, hSR⟩ := hv
  have hx := Bk.exec
  have hb := Bk.bytes
  have hr := Bk.returns
  have hlocks := Bk.notSynchronized
  have hC : CallFix p m c cX12_puts 3 s _ wsX12_puts RX12 := ⟨hx, hb, hml, findClass_of_methodNamed Bk.named, atoms_spec (ws := wsX12_puts) Bk.pre⟩
  subst hsz
  have hD := hD0.self (sz := s.heap.size)
  generalize hAe : va_A w0 s.heap.size = A at hD hE ⊢
  have hA : ∀ q : Nat, s.heap.size ≤ q → A q := fun q h => by rw [← hAe]; exact Or.inr h
  have hw : Wd dC dI A s.heap s.heap [] w0 := ⟨hP, hD, va_S.rf⟩
  have hF : FE ksM [(61, 0, 2400), (62, 0, 7)] w0 w0 := FE.rf
  have hl := lv_entry ([.ref (ad 0), .int a1, .int a2]) (n := 3) (Nat.le_of_ble_eq_true rfl)
  rw [lg_entry_eq]
  generalize (lg_sl ([.ref (ad 0), .int a1, .int a2]) ++ List.replicate (3 - (lg_sl ([.ref (ad 0), .int a1, .int a2])).length) Slot.unset).toArray = ls at hl ⊢
  have hl : lv_has ls 3 [(0, .ref (ad 0)), (1, .int a1), (2, .int a2)] := hl
  generalize hloc : ([] : List Loc) = locs at hw ⊢
  have hinX12 : ∀ w ∈ u_ws RX12 TX12 42, w ∈ wsX12_puts := fun _ h => List.mem_cons_of_mem _ (List.mem_append_right _ (h))
  refine lv_aload_n hx hb dX12_puts_0 rfl (lv_at hl 0 rfl) ?_
  refine tk_getA hC hK hw hT hinX12 kM_at0 (by decide) rfl 3 (by decide) (List.mem_of_getElem? (i := 1) rfl) rfl rfl dX12_puts_1 ?_
  refine lv_sipush (v := 400) hx hb dX12_puts_4 (by decide) ?_
  refine lv_aload_n hx hb dX12_puts_7 rfl (lv_at hl 0 rfl) ?_
  refine tk_geti hC hK hw hT hinX12 kM_at0 (by decide) rfl 17 (by decide) (List.mem_of_getElem? (i := 2) rfl) rfl rfl dX12_puts_8 (fun x1 c2 rx1 tx1 => ?_)
  refine wk_top 2 (c2.symm.trans cf0_) ?_
  refine lv_imul hx hb dX12_puts_11 ?_
  refine wk_top 800 (by decide) ?_
  refine lv_aload_n hx hb dX12_puts_12 rfl (lv_at hl 0 rfl) ?_
  refine tk_getA hC hK hw hT hinX12 kM_at0 (by decide) rfl 4 (by decide) (List.mem_of_getElem? (i := 3) rfl) rfl rfl dX12_puts_13 ?_
  refine lv_aload_n hx hb dX12_puts_16 rfl (lv_at hl 0 rfl) ?_
  refine tk_geti hC hK hw hT hinX12 kM_at0 (by decide) rfl 17 (by decide) (List.mem_of_getElem? (i := 2) rfl) rfl rfl dX12_puts_17 (fun x3 c4 rx3 tx3 => ?_)
  refine wk_top 2 (c4.symm.trans cf0_) ?_
  refine tk_iald hC hK hw hT kM_at3 rfl rfl (by decide) (by decide) dX12_puts_20 (fun x5 c6 rx5 tx5 => ?_)
  refine wk_top f1_ (c6.symm.trans cf1_) ?_
  refine lv_iadd hx hb dX12_puts_21 ?_
  refine lv_topi (fun x7 ex7 => ?_)
  have ex7 : x7.toInt = (800 : Int) + f1_.toInt := by rw [ex7]; exact wk_add (show (-2147483648) ≤ (800 : Int) + f1_.toInt by omega) (show (800 : Int) + f1_.toInt ≤ 2147483647 by omega)
  refine lv_iload_n hx hb dX12_puts_22 rfl (lv_at hl 1 rfl) ?_
  refine lv_bipush (v := 16) hx hb dX12_puts_23 (by decide) ?_
  refine lv_iload_n hx hb dX12_puts_25 rfl (lv_at hl 2 rfl) ?_
  refine lv_imul hx hb dX12_puts_26 ?_
  have nx8 := wk_i32 a2
  refine lv_topi (fun x9 ex9 => ?_)
  refine lv_iadd hx hb dX12_puts_27 ?_
  have nx10 := wk_i32 x9
  refine lv_topi (fun x11 ex11 => ?_)
  refine tk_iast hC hK hw hT kM_at2 (by decide) rfl rfl (show 0 ≤ x7.toInt by omega) (show x7.toInt < 2400 by omega) (wk_i32 x11).1 (wk_i32 x11).2 dX12_puts_28 (fun H locs w12 hw hT k14 c13 => ?_)
  have hF := hF.put kM_at2 (inE_of (a := 0) (b := 2400) (by decide) (show 0 ≤ x7.toInt.toNat by omega) (show x7.toInt.toNat ≤ 2400 by omega)) k14
  have c15 := k14.gi (Or.inl (tk_ne kM_at0 kM_at2 (by decide))) cf0_
  have c16 := k14.gi (Or.inl (tk_ne kM_at3 kM_at2 (by decide))) cf1_
  refine lv_aload_n hx hb dX12_puts_29 rfl (lv_at hl 0 rfl) ?_
  refine tk_getA hC hK hw hT hinX12 kM_at0 (by decide) rfl 4 (by decide) (List.mem_of_getElem? (i := 3) rfl) rfl rfl dX12_puts_30 ?_
  refine lv_aload_n hx hb dX12_puts_33 rfl (lv_at hl 0 rfl) ?_
  refine tk_geti hC hK hw hT hinX12 kM_at0 (by decide) rfl 17 (by decide) (List.mem_of_getElem? (i := 2) rfl) rfl rfl dX12_puts_34 (fun x17 c18 rx17 tx17 => ?_)
  refine wk_top 2 (c18.symm.trans c15) ?_
  refine lv_dup2_11 hx hb dX12_puts_37 rfl rfl ?_
  refine tk_iald hC hK hw hT kM_at3 rfl rfl (by decide) (by decide) dX12_puts_38 (fun x19 c20 rx19 tx19 => ?_)
  refine wk_top f1_ (c20.symm.trans c16) ?_
  refine lv_iconst (v := 1) hx hb dX12_puts_39 (by decide) ?_
  refine lv_iadd hx hb dX12_puts_40 ?_
  refine lv_topi (fun x21 ex21 => ?_)
  have ex21 : x21.toInt = f1_.toInt + (1 : Int) := by rw [ex21]; exact wk_add (show (-2147483648) ≤ f1_.toInt + (1 : Int) by omega) (show f1_.toInt + (1 : Int) ≤ 2147483647 by omega)
  refine tk_iast hC hK hw hT kM_at3 (by decide) rfl rfl (by decide) (by decide) (show 0 ≤ x21.toInt by omega) (show x21.toInt ≤ 400 by omega) dX12_puts_41 (fun H locs w22 hw hT k24 c23 => ?_)
  have hF := hF.put kM_at3 (inE_of (a := 0) (b := 7) (by decide) (by decide) (by decide)) k24
  have c25 := k24.gi (Or.inl (tk_ne kM_at0 kM_at3 (by decide))) c15
  have c23 : gi w22 3 2 = x21 := c23
  exact tk_vret hC hr hlocks hK ⟨hT, hF, ⟨⟨2, c25, (by decide), (by decide)⟩, (by simp only [cf1_, c23]; omega)⟩⟩ hw dX12_puts_42
abbrev P_X12_value_3 (ad : Nat → Nat) (cy : Nat → ClassId) (B : Int) (qr : Nat) (s1 : Int)  (w0 : va_W) : Int32 → va_W → Prop := fun r u => TW ksM ad cy B qr 12 u ∧ FE ksM [(12, 14, 14), (12, 15, 15), (12, 16, 16), (12, 18, 18), (61, 0, 2400), (62, 0, 7)] w0 u ∧ ((r = 0 ∧ (∃ y : Int32, gi u 0 1 = y ∧ 1 ≤ y.toInt ∧ y.toInt ≤ 400) ∧ (∃ y : Int32, gi u 0 15 = y ∧ 1 ≤ y.toInt ∧ y.toInt ≤ 3205) ∧ (∃ y : Int32, gi u 0 17 = y ∧ 2 ≤ y.toInt ∧ y.toInt ≤ 2)) ∨ (r = 0 ∧ (∃ y : Int32, gi u 0 1 = y ∧ 0 ≤ y.toInt ∧ y.toInt ≤ 400) ∧ (∃ y : Int32, gi u 0 15 = y ∧ 1 ≤ y.toInt ∧ y.toInt ≤ 3205) ∧ (∃ y : Int32, gi u 0 17 = y ∧ 2 ≤ y.toInt ∧ y.toInt ≤ 2)) ∨ (r = 1 ∧ (∃ y : Int32, gi u 0 1 = y ∧ 1 ≤ y.toInt ∧ y.toInt ≤ 400) ∧ (∃ y : Int32, gi u 0 17 = y ∧ 2 ≤ y.toInt ∧ y.toInt ≤ 2) ∧ (∃ y : Int32, gi u 0 18 = y ∧ 1 ≤ y.toInt ∧ y.toInt ≤ 60) ∧ ((gi u 3 2).toInt = (gi w0 3 2).toInt + 1) ∧ ((gi u 0 18).toInt = (gi w0 0 18).toInt + 1)) ∨ (r = 1 ∧ (∃ y : Int32, gi u 0 1 = y ∧ 0 ≤ y.toInt ∧ y.toInt ≤ 400) ∧ (∃ y : Int32, gi u 0 17 = y ∧ 2 ≤ y.toInt ∧ y.toInt ≤ 2) ∧ (∃ y : Int32, gi u 0 18 = y ∧ 1 ≤ y.toInt ∧ y.toInt ≤ 60) ∧ ((gi u 3 2).toInt = (gi w0 3 2).toInt + 1) ∧ ((gi u 0 18).toInt = (gi w0 0 18).toInt + 1)))
set_option maxHeartbeats 4000000 in
set_option maxRecDepth 100000 in
theorem k_X12_value_3 (l : Launch) (adK adV : Nat → Nat) (dC : Nat → ClassId) (dI : Nat → Nat → Nat) (cy : Nat → ClassId) (ad : Nat → Nat) (B : Int) (hB0 : 100000 ≤ B) (hB1 : B ≤ 1073741824) (qr : Nat) (s1 : Int)   (w0 : va_W) (sz : Nat) (hT : TW ksM ad cy B qr 12 w0) (cf0_ : gi w0 0 17 = 2) (f1_ : Int32) (cf1_ : gi w0 0 18 = f1_) (rf1_ : 0 ≤ f1_.toInt) (tf1_ : f1_.toInt ≤ 60) (f2_ : Int32) (cf2_ : gi w0 3 2 = f2_) (rf2_ : 0 ≤ f2_.toInt) (tf2_ : f2_.toInt ≤ 400) (pr0_ : f2_.toInt ≤ 399) : Met l yX12_value wsX12_value ({ frames := 4, cells := 0, slots := 0, locals := 78 }) (va_Pc [.ref (ad 0)] (wpreS adK adV dC dI cy sz w0)) (va_Qi (P_X12_value_3 ad cy B qr s1  w0) (fun u : va_W => wpost dC dI cy (va_A w0 sz) u) (va_A w0 sz)) 0 0 (va_A w0 sz) := by
  refine Met.ofW (cc := cX12_value) (maxL := 3) (ret := (some .boolean)) (by decide) rfl ?_
  intro p e s m args below meth c s₁ Bk hml hv
  obtain ⟨rfl, ⟨hsz, hP, hK, hD0⟩, hE, hSR⟩ := hv
  have hx := Bk.exec
  have hb := Bk.bytes
  have hr := Bk.returns
  have hlocks := Bk.notSynchronized
  have hC : CallFix p m c cX12_value 3 s _ wsX12_value RX12 := ⟨hx, hb, hml, findClass_of_methodNamed Bk.named, atoms_spec (ws := wsX12_value) Bk.pre⟩
  subst hsz
  have hD := hD0.self (sz := s.heap.size)
  generalize hAe : va_A w0 s.heap.size = A at hD hE ⊢
  have hA : ∀ q : Nat, s.heap.size ≤ q → A q := fun q h => by rw [← hAe]; exact Or.inr h
  have hw : Wd dC dI A s.heap s.heap [] w0 := ⟨hP, hD, va_S.rf⟩
  have hF : FE ksM [(12, 14, 14), (12, 15, 15), (12, 16, 16), (12, 18, 18), (61, 0, 2400), (62, 0, 7)] w0 w0 := FE.rf
  have hl := lv_entry ([.ref (ad 0)]) (n := 3) (Nat.le_of_ble_eq_true rfl)
  rw [lg_entry_eq]
  generalize (lg_sl ([.ref (ad 0)]) ++ List.replicate (3 - (lg_sl ([.ref (ad 0)])).length) Slot.unset).toArray = ls at hl ⊢
  have hl : lv_has ls 3 [(0, .ref (ad 0))] := hl
  generalize hloc : ([] : List Loc) = locs at hw ⊢
  have hinX12 : ∀ w ∈ u_ws RX12 TX12 42, w ∈ wsX12_value := fun _ h => List.mem_cons_of_mem _ (List.mem_append_right _ (h))
  have J39 : ∀ (v39_1 : Int32) (f39_0_1 : Int32) (f39_0_15 : Int32) (f39_0_18 : Int32) (H : Heap) (locs : List Loc) (ls : Array Slot) (w1 : va_W), 0 ≤ v39_1.toInt → v39_1.toInt ≤ 399 → 1 ≤ f39_0_1.toInt → f39_0_1.toInt ≤ 400 → 1 ≤ f39_0_15.toInt → f39_0_15.toInt ≤ 3205 → 0 ≤ f39_0_18.toInt → f39_0_18.toInt ≤ 60 → 0 ≤ f2_.toInt → f2_.toInt ≤ 399 → Wd dC dI A s.heap H locs w1 → TW ksM ad cy B qr 12 w1 → FE ksM [(12, 14, 14), (12, 15, 15), (12, 16, 16), (12, 18, 18), (61, 0, 2400), (62, 0, 7)] w0 w1 → gi w1 0 1 = f39_0_1 → gi w1 0 15 = f39_0_15 → gi w1 0 17 = 2 → gi w1 0 18 = f39_0_18 → gi w1 3 2 = f2_ → lv_has ls 3 [(0, .ref (ad 0)), (1, .int v39_1)] → W p l e ({ frames := 4, cells := 0, slots := 0, locals := 78 }) s m (List.toArray [.ref (ad 0)]) below meth c H locs 0 0 (MQ below (va_Qi (P_X12_value_3 ad cy B qr s1  w0) (fun u : va_W => wpost dC dI cy A u) A) (List.toArray [.ref (ad 0)]) s 0 0 A) (F0 m 39 ls []) := by
    intro v39_1 f39_0_1 f39_0_15 f39_0_18 H locs ls w1 r2 t3 r4 t5 r7 t8 r11 t12 r14 t15 hw hT hF c6 c9 c10 c13 c16 hl
    refine lv_iconst (v := 0) hx hb dX12_value_39 (by decide) ?_
    exact tk_zret hC hr rfl hlocks hK ⟨hT, hF, (Or.inl ⟨rfl, ⟨f39_0_1, c6, (show 1 ≤ f39_0_1.toInt by omega), (show f39_0_1.toInt ≤ 400 by omega)⟩, ⟨f39_0_15, c9, (show 1 ≤ f39_0_15.toInt by omega), (show f39_0_15.toInt ≤ 3205 by omega)⟩, ⟨2, c10, (by decide), (by decide)⟩⟩)⟩ hw dX12_value_40
  refine lv_aload_n hx hb dX12_value_0 rfl (lv_at hl 0 rfl) ?_
  obtain ⟨x17, c18, rx17, tx17⟩ := hT.rdi (lo := 0) (hi := 400) (k := 14) kM_at0 (by decide) rfl
  refine tk_Vi hC hK hw hT hA hE hSR kM_at0 (by decide) rfl (k_X12_see_1 l adK adV dC dI cy ad B (by omega) (by omega) qr s1    w0 s.heap.size hT x17 c18 (show 0 ≤ x17.toInt by omega) (show x17.toInt ≤ 400 by omega)) (cwV 0 hC.2.2.2.2 gX12_value_X12_see rfl rfl rfl (by decide +kernel) ⟨Nat.le_of_ble_eq_true rfl, Nat.le_of_ble_eq_true rfl⟩) rfl hl.1 rfl (Nat.le_of_ble_eq_true rfl) dX12_value_1 (fun r19 w21 H locs hp20 hw => ?_)
  obtain ⟨hT, k22, hg39⟩ := hp20
  have hF := hF.tr k22 (by decide)
  have c40 := k22.gi kM_at0 (by decide) cf0_
  have c41 := k22.gi kM_at0 (by decide) cf1_
  have c42 := k22.gi kM_at3 (by decide) cf2_
  rcases hg39 with ⟨g23, g24, ⟨x25, c26, rx25, tx25⟩, ⟨x27, c28, rx27, tx27⟩, g29, g30⟩ | ⟨rfl, ⟨x31, c32, rx31, tx31⟩, ⟨x33, c34, rx33, tx33⟩, g35⟩ | ⟨rfl, ⟨x36, c37, rx36, tx36⟩, g38⟩
  · have g29 : (gi w21 1 (x27.toInt).toNat).toInt ≠ 32 := by have q := g29; simp only [c28] at q; omega
    have g30 : (x27.toInt = x17.toInt ∨ (gi w0 1 (x17.toInt).toNat).toInt = 32) := by have q := g30; simp only [c18, c28] at q; omega
    refine lv_pop hx hb dX12_value_4 rfl ?_
    refine lv_aload_n hx hb dX12_value_5 rfl (lv_at hl 0 rfl) ?_
    refine tk_geti hC hK hw hT hinX12 kM_at0 (by decide) rfl 14 (by decide) (List.mem_of_getElem? (i := 1) rfl) rfl rfl dX12_value_6 (fun x45 c46 rx45 tx45 => ?_)
    refine wk_top x27 (c46.symm.trans c28) ?_
    refine lv_istore_n (lv' := [(1, .int x27), (0, .ref (ad 0))]) hx hb dX12_value_9 rfl hl (by decide) rfl (fun ls hl => ?_)
    refine lv_aload_n hx hb dX12_value_10 rfl (lv_at hl 1 rfl) ?_
    refine lv_aload_n hx hb dX12_value_11 rfl (lv_at hl 1 rfl) ?_
    refine tk_geti hC hK hw hT hinX12 kM_at0 (by decide) rfl 14 (by decide) (List.mem_of_getElem? (i := 1) rfl) rfl rfl dX12_value_12 (fun x47 c48 rx47 tx47 => ?_)
    refine wk_top x27 (c48.symm.trans c28) ?_
    refine tk_Vi hC hK hw hT hA hE hSR kM_at0 (by decide) rfl (k_X12_isDigit_1 l adK adV dC dI cy ad B (by omega) (by omega) qr s1   x27 (show 0 ≤ x27.toInt by omega) (show x27.toInt ≤ 399 by omega) w21 H.size hT ) (cwV 1 hC.2.2.2.2 gX12_value_X12_isDigit rfl rfl rfl (by decide +kernel) ⟨Nat.le_of_ble_eq_true rfl, Nat.le_of_ble_eq_true rfl⟩) rfl hl.1 rfl (Nat.le_of_ble_eq_true rfl) dX12_value_15 (fun r49 w51 H locs hp50 hw => ?_)
    obtain ⟨rfl, hg57⟩ := hp50
    rcases hg57 with ⟨rfl, ⟨x53, c54, rx53, tx53⟩⟩ | ⟨rfl, ⟨x55, c56, rx55, tx55⟩⟩
    · have ex53 : x53.toInt = x25.toInt := by rw [← c26.symm.trans c54]
      refine lv_if_eq (tgt := 52) hx hb dX12_value_18 (by decide) (fun _ => ?_) (fun c => absurd (by decide) c)
      refine lv_aload_n hx hb dX12_value_52 rfl (lv_at hl 1 rfl) ?_
      refine tk_Vi hC hK hw hT hA hE hSR kM_at0 (by decide) rfl (k_X12_wordHere_1 l adK adV dC dI cy ad B (by omega) (by omega) qr s1    w21 H.size hT ) (cwV 0 hC.2.2.2.2 gX12_value_X12_wordHere rfl rfl rfl (by decide +kernel) ⟨Nat.le_of_ble_eq_true rfl, Nat.le_of_ble_eq_true rfl⟩) rfl hl.1 rfl (Nat.le_of_ble_eq_true rfl) dX12_value_53 (fun r58 w60 H locs hp59 hw => ?_)
      obtain ⟨hT, k61, hg68⟩ := hp59
      have hF := hF.tr k61 (by decide)
      have c69 := k61.gi kM_at0 (by decide) c40
      have c70 := k61.gi kM_at0 (by decide) c41
      have c71 := k61.gi kM_at3 (by decide) c42
      have c72 := k61.gi kM_at0 (by decide) c26
      rcases hg68 with ⟨g62, g63, ⟨x64, c65, rx64, tx64⟩⟩ | ⟨rfl, ⟨x66, c67, rx66, tx66⟩⟩
      · have ex64 : x64.toInt = x25.toInt := by rw [← c72.symm.trans c65]
        refine lv_istore_n (lv' := [(2, .int r58), (1, .int x27), (0, .ref (ad 0))]) hx hb dX12_value_56 rfl hl (by decide) rfl (fun ls hl => ?_)
        refine lv_iload_n hx hb dX12_value_57 rfl (lv_at hl 0 rfl) ?_
        refine lv_if_ge (tgt := 68) hx hb dX12_value_58 (by decide) (fun _ => ?_) (fun c => (c (wk_le.mpr (show (0 : Int) ≤ r58.toInt by omega))).elim)
        refine lv_aload_n hx hb dX12_value_68 rfl (lv_at hl 2 rfl) ?_
        refine lv_iload_n hx hb dX12_value_69 rfl (lv_at hl 1 rfl) ?_
        refine tk_Vi hC hK hw hT hA hE hSR kM_at0 (by decide) rfl (k_X12_makes_1 l adK adV dC dI cy ad B (by omega) (by omega) qr s1   x27 (show 0 ≤ x27.toInt by omega) (show x27.toInt ≤ 399 by omega) w60 H.size hT f1_ c70 (show 0 ≤ f1_.toInt by omega) (show f1_.toInt ≤ 60 by omega)) (cwV 1 hC.2.2.2.2 gX12_value_X12_makes rfl rfl rfl (by decide +kernel) ⟨Nat.le_of_ble_eq_true rfl, Nat.le_of_ble_eq_true rfl⟩) rfl hl.1 rfl (Nat.le_of_ble_eq_true rfl) dX12_value_70 (fun r73 w75 H locs hp74 hw => ?_)
        obtain ⟨hT, k76, hg84⟩ := hp74
        have hF := hF.tr k76 (by decide)
        have c85 := k76.gi kM_at0 (by decide) c69
        have c86 := k76.gi kM_at3 (by decide) c71
        have c87 := k76.gi kM_at0 (by decide) c72
        rcases hg84 with ⟨rfl, ⟨x77, c78, rx77, tx77⟩, ⟨x79, c80, rx79, tx79⟩⟩ | ⟨rfl, ⟨x81, c82, rx81, tx81⟩, g83⟩
        · refine lv_if_ne (tgt := 78) hx hb dX12_value_73 (by decide) (fun c => absurd (by decide) c) (fun _ => ?_)
          refine lv_iconst (v := 0) hx hb dX12_value_76 (by decide) ?_
          exact tk_zret hC hr rfl hlocks hK ⟨hT, hF, (Or.inl ⟨rfl, ⟨x25, c87, (show 1 ≤ x25.toInt by omega), (show x25.toInt ≤ 400 by omega)⟩, ⟨x77, c78, (show 1 ≤ x77.toInt by omega), (show x77.toInt ≤ 3205 by omega)⟩, ⟨2, c85, (by decide), (by decide)⟩⟩)⟩ hw dX12_value_77
        · have g83 : x81.toInt = f1_.toInt + 1 := by have q := g83; simp only [c70, c82] at q; omega
          refine lv_if_ne (tgt := 78) hx hb dX12_value_73 (by decide) (fun _ => ?_) (fun c => absurd c (by decide))
          refine lv_aload_n hx hb dX12_value_78 rfl (lv_at hl 2 rfl) ?_
          refine tk_Vv hC hK hw hT hA hE hSR kM_at0 (by decide) rfl (k_X12_passWord_1 l adK adV dC dI cy ad B (by omega) (by omega) qr s1    w75 H.size hT ) (cwV 0 hC.2.2.2.2 gX12_value_X12_passWord rfl rfl rfl (by decide +kernel) ⟨Nat.le_of_ble_eq_true rfl, Nat.le_of_ble_eq_true rfl⟩) rfl hl.1 rfl (Nat.le_of_ble_eq_true rfl) dX12_value_79 (fun w90 H locs hp89 hw => ?_)
          obtain ⟨hT, k91, hg98⟩ := hp89
          have hF := hF.tr k91 (by decide)
          have c99 := k91.gi kM_at0 (by decide) c85
          have c100 := k91.gi kM_at3 (by decide) c86
          have c101 := k91.gi kM_at0 (by decide) c87
          have c102 := k91.gi kM_at0 (by decide) c82
          rcases hg98 with ⟨⟨x92, c93, rx92, tx92⟩, ⟨x94, c95, rx94, tx94⟩⟩ | ⟨x96, c97, rx96, tx96⟩
          · have ex92 : x92.toInt = x25.toInt := by rw [← c101.symm.trans c93]
            refine lv_aload_n hx hb dX12_value_82 rfl (lv_at hl 2 rfl) ?_
            refine lv_iconst (v := 1) hx hb dX12_value_83 (by decide) ?_
            refine lv_iload_n hx hb dX12_value_84 rfl (lv_at hl 0 rfl) ?_
            refine tk_Vv hC hK hw hT hA hE hSR kM_at0 (by decide) rfl (k_X12_puts_6 l adK adV dC dI cy ad B (by omega) (by omega) qr s1   1 (by decide) (by decide) r58 w90 H.size hT c99 f2_ c100 (show 0 ≤ f2_.toInt by omega) (show f2_.toInt ≤ 400 by omega) (show f2_.toInt ≤ 399 by omega)) (cwV 2 hC.2.2.2.2 gX12_value_X12_puts rfl rfl rfl (by decide +kernel) ⟨Nat.le_of_ble_eq_true rfl, Nat.le_of_ble_eq_true rfl⟩) rfl hl.1 rfl (Nat.le_of_ble_eq_true rfl) dX12_value_85 (fun w105 H locs hp104 hw => ?_)
            obtain ⟨hT, k106, hg110⟩ := hp104
            have hF := hF.tr k106 (by decide)
            have c111 := k106.gi kM_at0 (by decide) c99
            have c112 := k106.gi kM_at0 (by decide) c101
            have c113 := k106.gi kM_at0 (by decide) c102
            have c114 := k106.gi kM_at0 (by decide) c95
            obtain ⟨⟨x107, c108, rx107, tx107⟩, g109⟩ := hg110
            have ex107 : x107.toInt = (2 : Int) := by rw [show x107 = 2 from c108.symm.trans c111]; decide
            obtain ⟨x115, c116, rx115, tx115⟩ := hT.rda (lo := 0) (hi := 400) (i := 2) kM_at3 rfl rfl (by decide)
            have g109 : x115.toInt = f2_.toInt + 1 := by have q := g109; simp only [c100, c116] at q; omega
            refine lv_iconst (v := 1) hx hb dX12_value_88 (by decide) ?_
            exact tk_zret hC hr rfl hlocks hK ⟨hT, hF, (Or.inr (Or.inr (Or.inl ⟨rfl, ⟨x25, c112, (show 1 ≤ x25.toInt by omega), (show x25.toInt ≤ 400 by omega)⟩, ⟨2, c111, (by decide), (by decide)⟩, ⟨x81, c113, (show 1 ≤ x81.toInt by omega), (show x81.toInt ≤ 60 by omega)⟩, (by simp only [cf2_, c116]; omega), (by simp only [cf1_, c113]; omega)⟩)))⟩ hw dX12_value_89
          · have ex96 : x96.toInt = x25.toInt := by rw [← c101.symm.trans c97]
            refine lv_aload_n hx hb dX12_value_82 rfl (lv_at hl 2 rfl) ?_
            refine lv_iconst (v := 1) hx hb dX12_value_83 (by decide) ?_
            refine lv_iload_n hx hb dX12_value_84 rfl (lv_at hl 0 rfl) ?_
            refine tk_Vv hC hK hw hT hA hE hSR kM_at0 (by decide) rfl (k_X12_puts_6 l adK adV dC dI cy ad B (by omega) (by omega) qr s1   1 (by decide) (by decide) r58 w90 H.size hT c99 f2_ c100 (show 0 ≤ f2_.toInt by omega) (show f2_.toInt ≤ 400 by omega) (show f2_.toInt ≤ 399 by omega)) (cwV 2 hC.2.2.2.2 gX12_value_X12_puts rfl rfl rfl (by decide +kernel) ⟨Nat.le_of_ble_eq_true rfl, Nat.le_of_ble_eq_true rfl⟩) rfl hl.1 rfl (Nat.le_of_ble_eq_true rfl) dX12_value_85 (fun w119 H locs hp118 hw => ?_)
            obtain ⟨hT, k120, hg124⟩ := hp118
            have hF := hF.tr k120 (by decide)
            have c125 := k120.gi kM_at0 (by decide) c99
            have c126 := k120.gi kM_at0 (by decide) c101
            have c127 := k120.gi kM_at0 (by decide) c102
            obtain ⟨⟨x121, c122, rx121, tx121⟩, g123⟩ := hg124
            have ex121 : x121.toInt = (2 : Int) := by rw [show x121 = 2 from c122.symm.trans c125]; decide
            obtain ⟨x128, c129, rx128, tx128⟩ := hT.rda (lo := 0) (hi := 400) (i := 2) kM_at3 rfl rfl (by decide)
            have g123 : x128.toInt = f2_.toInt + 1 := by have q := g123; simp only [c100, c129] at q; omega
            refine lv_iconst (v := 1) hx hb dX12_value_88 (by decide) ?_
            exact tk_zret hC hr rfl hlocks hK ⟨hT, hF, (Or.inr (Or.inr (Or.inl ⟨rfl, ⟨x25, c126, (show 1 ≤ x25.toInt by omega), (show x25.toInt ≤ 400 by omega)⟩, ⟨2, c125, (by decide), (by decide)⟩, ⟨x81, c127, (show 1 ≤ x81.toInt by omega), (show x81.toInt ≤ 60 by omega)⟩, (by simp only [cf2_, c129]; omega), (by simp only [cf1_, c127]; omega)⟩)))⟩ hw dX12_value_89
      · have ex66 : x66.toInt = x25.toInt := by rw [← c72.symm.trans c67]
        refine lv_istore_n (lv' := [(2, .int (-1)), (1, .int x27), (0, .ref (ad 0))]) hx hb dX12_value_56 rfl hl (by decide) rfl (fun ls hl => ?_)
        refine lv_iload_n hx hb dX12_value_57 rfl (lv_at hl 0 rfl) ?_
        refine lv_if_ge (tgt := 68) hx hb dX12_value_58 (by decide) (fun c => absurd c (by decide)) (fun _ => ?_)
        refine lv_aload_n hx hb dX12_value_61 rfl (lv_at hl 2 rfl) ?_
        refine lv_iconst (v := 0) hx hb dX12_value_62 (by decide) ?_
        refine lv_iload_n hx hb dX12_value_63 rfl (lv_at hl 1 rfl) ?_
        refine tk_Vi hC hK hw hT hA hE hSR kM_at0 (by decide) rfl (k_X12_fails_1 l adK adV dC dI cy ad B (by omega) (by omega) qr s1   0 (by decide) (by decide) x27 (show 0 ≤ x27.toInt by omega) (show x27.toInt ≤ 400 by omega) w60 H.size hT ) (cwV 2 hC.2.2.2.2 gX12_value_X12_fails rfl rfl rfl (by decide +kernel) ⟨Nat.le_of_ble_eq_true rfl, Nat.le_of_ble_eq_true rfl⟩) rfl hl.1 rfl (Nat.le_of_ble_eq_true rfl) dX12_value_64 (fun r130 w132 H locs hp131 hw => ?_)
        obtain ⟨hT, k133, hg136⟩ := hp131
        have hF := hF.tr k133 (by decide)
        have c137 := k133.gi kM_at0 (by decide) c69
        have c138 := k133.gi kM_at0 (by decide) c70
        have c139 := k133.gi kM_at3 (by decide) c71
        have c140 := k133.gi kM_at0 (by decide) c72
        obtain ⟨rfl, ⟨x134, c135, rx134, tx134⟩⟩ := hg136
        exact tk_zret hC hr rfl hlocks hK ⟨hT, hF, (Or.inl ⟨rfl, ⟨x25, c140, (show 1 ≤ x25.toInt by omega), (show x25.toInt ≤ 400 by omega)⟩, ⟨x134, c135, (show 1 ≤ x134.toInt by omega), (show x134.toInt ≤ 3205 by omega)⟩, ⟨2, c137, (by decide), (by decide)⟩⟩)⟩ hw dX12_value_67
    · have ex55 : x55.toInt = x25.toInt := by rw [← c26.symm.trans c56]
      refine lv_if_eq (tgt := 52) hx hb dX12_value_18 (by decide) (fun c => absurd c (by decide)) (fun _ => ?_)
      refine lv_aload_n hx hb dX12_value_21 rfl (lv_at hl 1 rfl) ?_
      refine lv_iconst (v := 0) hx hb dX12_value_22 (by decide) ?_
      refine lv_ldc (v := 99999) hx hb hC.2.2.2.1 (hC.2.2.2.2 _ (List.mem_of_getElem? (i := 2) rfl)) dX12_value_23 ?_
      refine tk_Vi hC hK hw hT hA hE hSR kM_at0 (by decide) rfl (k_X12_numberHere_9 l adK adV dC dI cy ad B (by omega) (by omega) qr s1    w21 H.size hT ) (cwV 2 hC.2.2.2.2 gX12_value_X12_numberHere rfl rfl rfl (by decide +kernel) ⟨Nat.le_of_ble_eq_true rfl, Nat.le_of_ble_eq_true rfl⟩) rfl hl.1 rfl (Nat.le_of_ble_eq_true rfl) dX12_value_25 (fun r141 w143 H locs hp142 hw => ?_)
      obtain ⟨hT, k144, hg157⟩ := hp142
      have hF := hF.tr k144 (by decide)
      have c158 := k144.gi kM_at0 (by decide) c40
      have c159 := k144.gi kM_at0 (by decide) c41
      have c160 := k144.gi kM_at3 (by decide) c42
      have c161 := k144.gi kM_at0 (by decide) c26
      rcases hg157 with ⟨rfl, ⟨x145, c146, rx145, tx145⟩, ⟨x147, c148, rx147, tx147⟩⟩ | ⟨rfl, ⟨x149, c150, rx149, tx149⟩, ⟨x151, c152, rx151, tx151⟩⟩ | ⟨rfl, ⟨x153, c154, rx153, tx153⟩, ⟨x155, c156, rx155, tx155⟩⟩
      · have ex145 : x145.toInt = x25.toInt := by rw [← c161.symm.trans c146]
        refine lv_if_eq (tgt := 39) hx hb dX12_value_28 (by decide) (fun _ => ?_) (fun c => absurd (by decide) c)
        exact J39 x27 x25 x147 f1_ H locs ls w143 (show 0 ≤ x27.toInt by omega) (show x27.toInt ≤ 399 by omega) (show 1 ≤ x25.toInt by omega) (show x25.toInt ≤ 400 by omega) (show 1 ≤ x147.toInt by omega) (show x147.toInt ≤ 3205 by omega) (show 0 ≤ f1_.toInt by omega) (show f1_.toInt ≤ 60 by omega) (show 0 ≤ f2_.toInt by omega) (show f2_.toInt ≤ 399 by omega)  hw hT hF c161 c148 c158 c159 c160 (lv_sub hl [1, 0] rfl)
      · have ex149 : x149.toInt = x25.toInt := by rw [← c161.symm.trans c150]
        refine lv_if_eq (tgt := 39) hx hb dX12_value_28 (by decide) (fun _ => ?_) (fun c => absurd (by decide) c)
        exact J39 x27 x25 x151 f1_ H locs ls w143 (show 0 ≤ x27.toInt by omega) (show x27.toInt ≤ 399 by omega) (show 1 ≤ x25.toInt by omega) (show x25.toInt ≤ 400 by omega) (show 1 ≤ x151.toInt by omega) (show x151.toInt ≤ 3205 by omega) (show 0 ≤ f1_.toInt by omega) (show f1_.toInt ≤ 60 by omega) (show 0 ≤ f2_.toInt by omega) (show f2_.toInt ≤ 399 by omega)  hw hT hF c161 c152 c158 c159 c160 (lv_sub hl [1, 0] rfl)
      · have ex153 : x153.toInt = x25.toInt := by rw [← c161.symm.trans c154]
        refine lv_if_eq (tgt := 39) hx hb dX12_value_28 (by decide) (fun c => absurd c (by decide)) (fun _ => ?_)
        refine lv_aload_n hx hb dX12_value_31 rfl (lv_at hl 1 rfl) ?_
        refine lv_iload_n hx hb dX12_value_32 rfl (lv_at hl 0 rfl) ?_
        refine tk_Vi hC hK hw hT hA hE hSR kM_at0 (by decide) rfl (k_X12_makes_1 l adK adV dC dI cy ad B (by omega) (by omega) qr s1   x27 (show 0 ≤ x27.toInt by omega) (show x27.toInt ≤ 399 by omega) w143 H.size hT f1_ c159 (show 0 ≤ f1_.toInt by omega) (show f1_.toInt ≤ 60 by omega)) (cwV 1 hC.2.2.2.2 gX12_value_X12_makes rfl rfl rfl (by decide +kernel) ⟨Nat.le_of_ble_eq_true rfl, Nat.le_of_ble_eq_true rfl⟩) rfl hl.1 rfl (Nat.le_of_ble_eq_true rfl) dX12_value_33 (fun r162 w164 H locs hp163 hw => ?_)
        obtain ⟨hT, k165, hg173⟩ := hp163
        have hF := hF.tr k165 (by decide)
        have c174 := k165.gi kM_at0 (by decide) c158
        have c175 := k165.gi kM_at3 (by decide) c160
        have c176 := k165.gi kM_at0 (by decide) c161
        have c177 := k165.gi kM_at0 (by decide) c156
        rcases hg173 with ⟨rfl, ⟨x166, c167, rx166, tx166⟩, ⟨x168, c169, rx168, tx168⟩⟩ | ⟨rfl, ⟨x170, c171, rx170, tx170⟩, g172⟩
        · refine lv_if_ne (tgt := 41) hx hb dX12_value_36 (by decide) (fun c => absurd (by decide) c) (fun _ => ?_)
          exact J39 x27 x25 x166 x168 H locs ls w164 (show 0 ≤ x27.toInt by omega) (show x27.toInt ≤ 399 by omega) (show 1 ≤ x25.toInt by omega) (show x25.toInt ≤ 400 by omega) (show 1 ≤ x166.toInt by omega) (show x166.toInt ≤ 3205 by omega) (show 0 ≤ x168.toInt by omega) (show x168.toInt ≤ 60 by omega) (show 0 ≤ f2_.toInt by omega) (show f2_.toInt ≤ 399 by omega)  hw hT hF c176 c167 c174 c169 c175 (lv_sub hl [1, 0] rfl)
        · have g172 : x170.toInt = f1_.toInt + 1 := by have q := g172; simp only [c159, c171] at q; omega
          refine lv_if_ne (tgt := 41) hx hb dX12_value_36 (by decide) (fun _ => ?_) (fun c => absurd c (by decide))
          refine lv_aload_n hx hb dX12_value_41 rfl (lv_at hl 1 rfl) ?_
          refine lv_iconst (v := 0) hx hb dX12_value_42 (by decide) ?_
          refine lv_aload_n hx hb dX12_value_43 rfl (lv_at hl 1 rfl) ?_
          refine tk_geti hC hK hw hT hinX12 kM_at0 (by decide) rfl 16 (by decide) (List.mem_of_getElem? (i := 3) rfl) rfl rfl dX12_value_44 (fun x178 c179 rx178 tx178 => ?_)
          refine wk_top x155 (c179.symm.trans c177) ?_
          refine tk_Vv hC hK hw hT hA hE hSR kM_at0 (by decide) rfl (k_X12_puts_6 l adK adV dC dI cy ad B (by omega) (by omega) qr s1   0 (by decide) (by decide) x155 w164 H.size hT c174 f2_ c175 (show 0 ≤ f2_.toInt by omega) (show f2_.toInt ≤ 400 by omega) (show f2_.toInt ≤ 399 by omega)) (cwV 2 hC.2.2.2.2 gX12_value_X12_puts rfl rfl rfl (by decide +kernel) ⟨Nat.le_of_ble_eq_true rfl, Nat.le_of_ble_eq_true rfl⟩) rfl hl.1 rfl (Nat.le_of_ble_eq_true rfl) dX12_value_47 (fun w182 H locs hp181 hw => ?_)
          obtain ⟨hT, k183, hg187⟩ := hp181
          have hF := hF.tr k183 (by decide)
          have c188 := k183.gi kM_at0 (by decide) c174
          have c189 := k183.gi kM_at0 (by decide) c176
          have c190 := k183.gi kM_at0 (by decide) c177
          have c191 := k183.gi kM_at0 (by decide) c171
          obtain ⟨⟨x184, c185, rx184, tx184⟩, g186⟩ := hg187
          have ex184 : x184.toInt = (2 : Int) := by rw [show x184 = 2 from c185.symm.trans c188]; decide
          obtain ⟨x192, c193, rx192, tx192⟩ := hT.rda (lo := 0) (hi := 400) (i := 2) kM_at3 rfl rfl (by decide)
          have g186 : x192.toInt = f2_.toInt + 1 := by have q := g186; simp only [c175, c193] at q; omega
          refine lv_iconst (v := 1) hx hb dX12_value_50 (by decide) ?_
          exact tk_zret hC hr rfl hlocks hK ⟨hT, hF, (Or.inr (Or.inr (Or.inl ⟨rfl, ⟨x25, c189, (show 1 ≤ x25.toInt by omega), (show x25.toInt ≤ 400 by omega)⟩, ⟨2, c188, (by decide), (by decide)⟩, ⟨x170, c191, (show 1 ≤ x170.toInt by omega), (show x170.toInt ≤ 60 by omega)⟩, (by simp only [cf2_, c193]; omega), (by simp only [cf1_, c191]; omega)⟩)))⟩ hw dX12_value_51
  · have g35 : (x33.toInt = x17.toInt ∨ (gi w0 1 (x17.toInt).toNat).toInt = 32) := by have q := g35; simp only [c18, c34] at q; omega
    refine lv_pop hx hb dX12_value_4 rfl ?_
    refine lv_aload_n hx hb dX12_value_5 rfl (lv_at hl 0 rfl) ?_
    refine tk_geti hC hK hw hT hinX12 kM_at0 (by decide) rfl 14 (by decide) (List.mem_of_getElem? (i := 1) rfl) rfl rfl dX12_value_6 (fun x194 c195 rx194 tx194 => ?_)
    refine wk_top x33 (c195.symm.trans c34) ?_
    refine lv_istore_n (lv' := [(1, .int x33), (0, .ref (ad 0))]) hx hb dX12_value_9 rfl hl (by decide) rfl (fun ls hl => ?_)
    refine lv_aload_n hx hb dX12_value_10 rfl (lv_at hl 1 rfl) ?_
    refine lv_aload_n hx hb dX12_value_11 rfl (lv_at hl 1 rfl) ?_
    refine tk_geti hC hK hw hT hinX12 kM_at0 (by decide) rfl 14 (by decide) (List.mem_of_getElem? (i := 1) rfl) rfl rfl dX12_value_12 (fun x196 c197 rx196 tx196 => ?_)
    refine wk_top x33 (c197.symm.trans c34) ?_
    refine tk_Vi hC hK hw hT hA hE hSR kM_at0 (by decide) rfl (k_X12_isDigit_3 l adK adV dC dI cy ad B (by omega) (by omega) qr s1   x33 (show 1 ≤ x33.toInt by omega) (show x33.toInt ≤ 399 by omega) w21 H.size hT ) (cwV 1 hC.2.2.2.2 gX12_value_X12_isDigit rfl rfl rfl (by decide +kernel) ⟨Nat.le_of_ble_eq_true rfl, Nat.le_of_ble_eq_true rfl⟩) rfl hl.1 rfl (Nat.le_of_ble_eq_true rfl) dX12_value_15 (fun r198 w200 H locs hp199 hw => ?_)
    obtain ⟨rfl, hg206⟩ := hp199
    rcases hg206 with ⟨rfl, ⟨x202, c203, rx202, tx202⟩⟩ | ⟨rfl, ⟨x204, c205, rx204, tx204⟩⟩
    · have ex202 : x202.toInt = x31.toInt := by rw [← c32.symm.trans c203]
      refine lv_if_eq (tgt := 52) hx hb dX12_value_18 (by decide) (fun _ => ?_) (fun c => absurd (by decide) c)
      refine lv_aload_n hx hb dX12_value_52 rfl (lv_at hl 1 rfl) ?_
      refine tk_Vi hC hK hw hT hA hE hSR kM_at0 (by decide) rfl (k_X12_wordHere_1 l adK adV dC dI cy ad B (by omega) (by omega) qr s1    w21 H.size hT ) (cwV 0 hC.2.2.2.2 gX12_value_X12_wordHere rfl rfl rfl (by decide +kernel) ⟨Nat.le_of_ble_eq_true rfl, Nat.le_of_ble_eq_true rfl⟩) rfl hl.1 rfl (Nat.le_of_ble_eq_true rfl) dX12_value_53 (fun r207 w209 H locs hp208 hw => ?_)
      obtain ⟨hT, k210, hg217⟩ := hp208
      have hF := hF.tr k210 (by decide)
      have c218 := k210.gi kM_at0 (by decide) c40
      have c219 := k210.gi kM_at0 (by decide) c41
      have c220 := k210.gi kM_at3 (by decide) c42
      have c221 := k210.gi kM_at0 (by decide) c32
      rcases hg217 with ⟨g211, g212, ⟨x213, c214, rx213, tx213⟩⟩ | ⟨rfl, ⟨x215, c216, rx215, tx215⟩⟩
      · have ex213 : x213.toInt = x31.toInt := by rw [← c221.symm.trans c214]
        refine lv_istore_n (lv' := [(2, .int r207), (1, .int x33), (0, .ref (ad 0))]) hx hb dX12_value_56 rfl hl (by decide) rfl (fun ls hl => ?_)
        refine lv_iload_n hx hb dX12_value_57 rfl (lv_at hl 0 rfl) ?_
        refine lv_if_ge (tgt := 68) hx hb dX12_value_58 (by decide) (fun _ => ?_) (fun c => (c (wk_le.mpr (show (0 : Int) ≤ r207.toInt by omega))).elim)
        refine lv_aload_n hx hb dX12_value_68 rfl (lv_at hl 2 rfl) ?_
        refine lv_iload_n hx hb dX12_value_69 rfl (lv_at hl 1 rfl) ?_
        refine tk_Vi hC hK hw hT hA hE hSR kM_at0 (by decide) rfl (k_X12_makes_3 l adK adV dC dI cy ad B (by omega) (by omega) qr s1   x33 (show 1 ≤ x33.toInt by omega) (show x33.toInt ≤ 399 by omega) w209 H.size hT f1_ c219 (show 0 ≤ f1_.toInt by omega) (show f1_.toInt ≤ 60 by omega)) (cwV 1 hC.2.2.2.2 gX12_value_X12_makes rfl rfl rfl (by decide +kernel) ⟨Nat.le_of_ble_eq_true rfl, Nat.le_of_ble_eq_true rfl⟩) rfl hl.1 rfl (Nat.le_of_ble_eq_true rfl) dX12_value_70 (fun r222 w224 H locs hp223 hw => ?_)
        obtain ⟨hT, k225, hg233⟩ := hp223
        have hF := hF.tr k225 (by decide)
        have c234 := k225.gi kM_at0 (by decide) c218
        have c235 := k225.gi kM_at3 (by decide) c220
        have c236 := k225.gi kM_at0 (by decide) c221
        rcases hg233 with ⟨rfl, ⟨x226, c227, rx226, tx226⟩, ⟨x228, c229, rx228, tx228⟩⟩ | ⟨rfl, ⟨x230, c231, rx230, tx230⟩, g232⟩
        · refine lv_if_ne (tgt := 78) hx hb dX12_value_73 (by decide) (fun c => absurd (by decide) c) (fun _ => ?_)
          refine lv_iconst (v := 0) hx hb dX12_value_76 (by decide) ?_
          exact tk_zret hC hr rfl hlocks hK ⟨hT, hF, (Or.inl ⟨rfl, ⟨x31, c236, (show 1 ≤ x31.toInt by omega), (show x31.toInt ≤ 400 by omega)⟩, ⟨x226, c227, (show 1 ≤ x226.toInt by omega), (show x226.toInt ≤ 3205 by omega)⟩, ⟨2, c234, (by decide), (by decide)⟩⟩)⟩ hw dX12_value_77
        · have g232 : x230.toInt = f1_.toInt + 1 := by have q := g232; simp only [c219, c231] at q; omega
          refine lv_if_ne (tgt := 78) hx hb dX12_value_73 (by decide) (fun _ => ?_) (fun c => absurd c (by decide))
          refine lv_aload_n hx hb dX12_value_78 rfl (lv_at hl 2 rfl) ?_
          refine tk_Vv hC hK hw hT hA hE hSR kM_at0 (by decide) rfl (k_X12_passWord_1 l adK adV dC dI cy ad B (by omega) (by omega) qr s1    w224 H.size hT ) (cwV 0 hC.2.2.2.2 gX12_value_X12_passWord rfl rfl rfl (by decide +kernel) ⟨Nat.le_of_ble_eq_true rfl, Nat.le_of_ble_eq_true rfl⟩) rfl hl.1 rfl (Nat.le_of_ble_eq_true rfl) dX12_value_79 (fun w239 H locs hp238 hw => ?_)
          obtain ⟨hT, k240, hg247⟩ := hp238
          have hF := hF.tr k240 (by decide)
          have c248 := k240.gi kM_at0 (by decide) c234
          have c249 := k240.gi kM_at3 (by decide) c235
          have c250 := k240.gi kM_at0 (by decide) c236
          have c251 := k240.gi kM_at0 (by decide) c231
          rcases hg247 with ⟨⟨x241, c242, rx241, tx241⟩, ⟨x243, c244, rx243, tx243⟩⟩ | ⟨x245, c246, rx245, tx245⟩
          · have ex241 : x241.toInt = x31.toInt := by rw [← c250.symm.trans c242]
            refine lv_aload_n hx hb dX12_value_82 rfl (lv_at hl 2 rfl) ?_
            refine lv_iconst (v := 1) hx hb dX12_value_83 (by decide) ?_
            refine lv_iload_n hx hb dX12_value_84 rfl (lv_at hl 0 rfl) ?_
            refine tk_Vv hC hK hw hT hA hE hSR kM_at0 (by decide) rfl (k_X12_puts_6 l adK adV dC dI cy ad B (by omega) (by omega) qr s1   1 (by decide) (by decide) r207 w239 H.size hT c248 f2_ c249 (show 0 ≤ f2_.toInt by omega) (show f2_.toInt ≤ 400 by omega) (show f2_.toInt ≤ 399 by omega)) (cwV 2 hC.2.2.2.2 gX12_value_X12_puts rfl rfl rfl (by decide +kernel) ⟨Nat.le_of_ble_eq_true rfl, Nat.le_of_ble_eq_true rfl⟩) rfl hl.1 rfl (Nat.le_of_ble_eq_true rfl) dX12_value_85 (fun w254 H locs hp253 hw => ?_)
            obtain ⟨hT, k255, hg259⟩ := hp253
            have hF := hF.tr k255 (by decide)
            have c260 := k255.gi kM_at0 (by decide) c248
            have c261 := k255.gi kM_at0 (by decide) c250
            have c262 := k255.gi kM_at0 (by decide) c251
            have c263 := k255.gi kM_at0 (by decide) c244
            obtain ⟨⟨x256, c257, rx256, tx256⟩, g258⟩ := hg259
            have ex256 : x256.toInt = (2 : Int) := by rw [show x256 = 2 from c257.symm.trans c260]; decide
            obtain ⟨x264, c265, rx264, tx264⟩ := hT.rda (lo := 0) (hi := 400) (i := 2) kM_at3 rfl rfl (by decide)
            have g258 : x264.toInt = f2_.toInt + 1 := by have q := g258; simp only [c249, c265] at q; omega
            refine lv_iconst (v := 1) hx hb dX12_value_88 (by decide) ?_
            exact tk_zret hC hr rfl hlocks hK ⟨hT, hF, (Or.inr (Or.inr (Or.inl ⟨rfl, ⟨x31, c261, (show 1 ≤ x31.toInt by omega), (show x31.toInt ≤ 400 by omega)⟩, ⟨2, c260, (by decide), (by decide)⟩, ⟨x230, c262, (show 1 ≤ x230.toInt by omega), (show x230.toInt ≤ 60 by omega)⟩, (by simp only [cf2_, c265]; omega), (by simp only [cf1_, c262]; omega)⟩)))⟩ hw dX12_value_89
          · have ex245 : x245.toInt = x31.toInt := by rw [← c250.symm.trans c246]
            refine lv_aload_n hx hb dX12_value_82 rfl (lv_at hl 2 rfl) ?_
            refine lv_iconst (v := 1) hx hb dX12_value_83 (by decide) ?_
            refine lv_iload_n hx hb dX12_value_84 rfl (lv_at hl 0 rfl) ?_
            refine tk_Vv hC hK hw hT hA hE hSR kM_at0 (by decide) rfl (k_X12_puts_6 l adK adV dC dI cy ad B (by omega) (by omega) qr s1   1 (by decide) (by decide) r207 w239 H.size hT c248 f2_ c249 (show 0 ≤ f2_.toInt by omega) (show f2_.toInt ≤ 400 by omega) (show f2_.toInt ≤ 399 by omega)) (cwV 2 hC.2.2.2.2 gX12_value_X12_puts rfl rfl rfl (by decide +kernel) ⟨Nat.le_of_ble_eq_true rfl, Nat.le_of_ble_eq_true rfl⟩) rfl hl.1 rfl (Nat.le_of_ble_eq_true rfl) dX12_value_85 (fun w268 H locs hp267 hw => ?_)
            obtain ⟨hT, k269, hg273⟩ := hp267
            have hF := hF.tr k269 (by decide)
            have c274 := k269.gi kM_at0 (by decide) c248
            have c275 := k269.gi kM_at0 (by decide) c250
            have c276 := k269.gi kM_at0 (by decide) c251
            obtain ⟨⟨x270, c271, rx270, tx270⟩, g272⟩ := hg273
            have ex270 : x270.toInt = (2 : Int) := by rw [show x270 = 2 from c271.symm.trans c274]; decide
            obtain ⟨x277, c278, rx277, tx277⟩ := hT.rda (lo := 0) (hi := 400) (i := 2) kM_at3 rfl rfl (by decide)
            have g272 : x277.toInt = f2_.toInt + 1 := by have q := g272; simp only [c249, c278] at q; omega
            refine lv_iconst (v := 1) hx hb dX12_value_88 (by decide) ?_
            exact tk_zret hC hr rfl hlocks hK ⟨hT, hF, (Or.inr (Or.inr (Or.inl ⟨rfl, ⟨x31, c275, (show 1 ≤ x31.toInt by omega), (show x31.toInt ≤ 400 by omega)⟩, ⟨2, c274, (by decide), (by decide)⟩, ⟨x230, c276, (show 1 ≤ x230.toInt by omega), (show x230.toInt ≤ 60 by omega)⟩, (by simp only [cf2_, c278]; omega), (by simp only [cf1_, c276]; omega)⟩)))⟩ hw dX12_value_89
      · have ex215 : x215.toInt = x31.toInt := by rw [← c221.symm.trans c216]
        refine lv_istore_n (lv' := [(2, .int (-1)), (1, .int x33), (0, .ref (ad 0))]) hx hb dX12_value_56 rfl hl (by decide) rfl (fun ls hl => ?_)
        refine lv_iload_n hx hb dX12_value_57 rfl (lv_at hl 0 rfl) ?_
        refine lv_if_ge (tgt := 68) hx hb dX12_value_58 (by decide) (fun c => absurd c (by decide)) (fun _ => ?_)
        refine lv_aload_n hx hb dX12_value_61 rfl (lv_at hl 2 rfl) ?_
        refine lv_iconst (v := 0) hx hb dX12_value_62 (by decide) ?_
        refine lv_iload_n hx hb dX12_value_63 rfl (lv_at hl 1 rfl) ?_
        refine tk_Vi hC hK hw hT hA hE hSR kM_at0 (by decide) rfl (k_X12_fails_1 l adK adV dC dI cy ad B (by omega) (by omega) qr s1   0 (by decide) (by decide) x33 (show 0 ≤ x33.toInt by omega) (show x33.toInt ≤ 400 by omega) w209 H.size hT ) (cwV 2 hC.2.2.2.2 gX12_value_X12_fails rfl rfl rfl (by decide +kernel) ⟨Nat.le_of_ble_eq_true rfl, Nat.le_of_ble_eq_true rfl⟩) rfl hl.1 rfl (Nat.le_of_ble_eq_true rfl) dX12_value_64 (fun r279 w281 H locs hp280 hw => ?_)
        obtain ⟨hT, k282, hg285⟩ := hp280
        have hF := hF.tr k282 (by decide)
        have c286 := k282.gi kM_at0 (by decide) c218
        have c287 := k282.gi kM_at0 (by decide) c219
        have c288 := k282.gi kM_at3 (by decide) c220
        have c289 := k282.gi kM_at0 (by decide) c221
        obtain ⟨rfl, ⟨x283, c284, rx283, tx283⟩⟩ := hg285
        exact tk_zret hC hr rfl hlocks hK ⟨hT, hF, (Or.inl ⟨rfl, ⟨x31, c289, (show 1 ≤ x31.toInt by omega), (show x31.toInt ≤ 400 by omega)⟩, ⟨x283, c284, (show 1 ≤ x283.toInt by omega), (show x283.toInt ≤ 3205 by omega)⟩, ⟨2, c286, (by decide), (by decide)⟩⟩)⟩ hw dX12_value_67
    · have ex204 : x204.toInt = x31.toInt := by rw [← c32.symm.trans c205]
      refine lv_if_eq (tgt := 52) hx hb dX12_value_18 (by decide) (fun c => absurd c (by decide)) (fun _ => ?_)
      refine lv_aload_n hx hb dX12_value_21 rfl (lv_at hl 1 rfl) ?_
      refine lv_iconst (v := 0) hx hb dX12_value_22 (by decide) ?_
      refine lv_ldc (v := 99999) hx hb hC.2.2.2.1 (hC.2.2.2.2 _ (List.mem_of_getElem? (i := 2) rfl)) dX12_value_23 ?_
      refine tk_Vi hC hK hw hT hA hE hSR kM_at0 (by decide) rfl (k_X12_numberHere_9 l adK adV dC dI cy ad B (by omega) (by omega) qr s1    w21 H.size hT ) (cwV 2 hC.2.2.2.2 gX12_value_X12_numberHere rfl rfl rfl (by decide +kernel) ⟨Nat.le_of_ble_eq_true rfl, Nat.le_of_ble_eq_true rfl⟩) rfl hl.1 rfl (Nat.le_of_ble_eq_true rfl) dX12_value_25 (fun r290 w292 H locs hp291 hw => ?_)
      obtain ⟨hT, k293, hg306⟩ := hp291
      have hF := hF.tr k293 (by decide)
      have c307 := k293.gi kM_at0 (by decide) c40
      have c308 := k293.gi kM_at0 (by decide) c41
      have c309 := k293.gi kM_at3 (by decide) c42
      have c310 := k293.gi kM_at0 (by decide) c32
      rcases hg306 with ⟨rfl, ⟨x294, c295, rx294, tx294⟩, ⟨x296, c297, rx296, tx296⟩⟩ | ⟨rfl, ⟨x298, c299, rx298, tx298⟩, ⟨x300, c301, rx300, tx300⟩⟩ | ⟨rfl, ⟨x302, c303, rx302, tx302⟩, ⟨x304, c305, rx304, tx304⟩⟩
      · have ex294 : x294.toInt = x31.toInt := by rw [← c310.symm.trans c295]
        refine lv_if_eq (tgt := 39) hx hb dX12_value_28 (by decide) (fun _ => ?_) (fun c => absurd (by decide) c)
        exact J39 x33 x31 x296 f1_ H locs ls w292 (show 0 ≤ x33.toInt by omega) (show x33.toInt ≤ 399 by omega) (show 1 ≤ x31.toInt by omega) (show x31.toInt ≤ 400 by omega) (show 1 ≤ x296.toInt by omega) (show x296.toInt ≤ 3205 by omega) (show 0 ≤ f1_.toInt by omega) (show f1_.toInt ≤ 60 by omega) (show 0 ≤ f2_.toInt by omega) (show f2_.toInt ≤ 399 by omega)  hw hT hF c310 c297 c307 c308 c309 (lv_sub hl [1, 0] rfl)
      · have ex298 : x298.toInt = x31.toInt := by rw [← c310.symm.trans c299]
        refine lv_if_eq (tgt := 39) hx hb dX12_value_28 (by decide) (fun _ => ?_) (fun c => absurd (by decide) c)
        exact J39 x33 x31 x300 f1_ H locs ls w292 (show 0 ≤ x33.toInt by omega) (show x33.toInt ≤ 399 by omega) (show 1 ≤ x31.toInt by omega) (show x31.toInt ≤ 400 by omega) (show 1 ≤ x300.toInt by omega) (show x300.toInt ≤ 3205 by omega) (show 0 ≤ f1_.toInt by omega) (show f1_.toInt ≤ 60 by omega) (show 0 ≤ f2_.toInt by omega) (show f2_.toInt ≤ 399 by omega)  hw hT hF c310 c301 c307 c308 c309 (lv_sub hl [1, 0] rfl)
      · have ex302 : x302.toInt = x31.toInt := by rw [← c310.symm.trans c303]
        refine lv_if_eq (tgt := 39) hx hb dX12_value_28 (by decide) (fun c => absurd c (by decide)) (fun _ => ?_)
        refine lv_aload_n hx hb dX12_value_31 rfl (lv_at hl 1 rfl) ?_
        refine lv_iload_n hx hb dX12_value_32 rfl (lv_at hl 0 rfl) ?_
        refine tk_Vi hC hK hw hT hA hE hSR kM_at0 (by decide) rfl (k_X12_makes_3 l adK adV dC dI cy ad B (by omega) (by omega) qr s1   x33 (show 1 ≤ x33.toInt by omega) (show x33.toInt ≤ 399 by omega) w292 H.size hT f1_ c308 (show 0 ≤ f1_.toInt by omega) (show f1_.toInt ≤ 60 by omega)) (cwV 1 hC.2.2.2.2 gX12_value_X12_makes rfl rfl rfl (by decide +kernel) ⟨Nat.le_of_ble_eq_true rfl, Nat.le_of_ble_eq_true rfl⟩) rfl hl.1 rfl (Nat.le_of_ble_eq_true rfl) dX12_value_33 (fun r311 w313 H locs hp312 hw => ?_)
        obtain ⟨hT, k314, hg322⟩ := hp312
        have hF := hF.tr k314 (by decide)
        have c323 := k314.gi kM_at0 (by decide) c307
        have c324 := k314.gi kM_at3 (by decide) c309
        have c325 := k314.gi kM_at0 (by decide) c310
        have c326 := k314.gi kM_at0 (by decide) c305
        rcases hg322 with ⟨rfl, ⟨x315, c316, rx315, tx315⟩, ⟨x317, c318, rx317, tx317⟩⟩ | ⟨rfl, ⟨x319, c320, rx319, tx319⟩, g321⟩
        · refine lv_if_ne (tgt := 41) hx hb dX12_value_36 (by decide) (fun c => absurd (by decide) c) (fun _ => ?_)
          exact J39 x33 x31 x315 x317 H locs ls w313 (show 0 ≤ x33.toInt by omega) (show x33.toInt ≤ 399 by omega) (show 1 ≤ x31.toInt by omega) (show x31.toInt ≤ 400 by omega) (show 1 ≤ x315.toInt by omega) (show x315.toInt ≤ 3205 by omega) (show 0 ≤ x317.toInt by omega) (show x317.toInt ≤ 60 by omega) (show 0 ≤ f2_.toInt by omega) (show f2_.toInt ≤ 399 by omega)  hw hT hF c325 c316 c323 c318 c324 (lv_sub hl [1, 0] rfl)
        · have g321 : x319.toInt = f1_.toInt + 1 := by have q := g321; simp only [c308, c320] at q; omega
          refine lv_if_ne (tgt := 41) hx hb dX12_value_36 (by decide) (fun _ => ?_) (fun c => absurd c (by decide))
          refine lv_aload_n hx hb dX12_value_41 rfl (lv_at hl 1 rfl) ?_
          refine lv_iconst (v := 0) hx hb dX12_value_42 (by decide) ?_
          refine lv_aload_n hx hb dX12_value_43 rfl (lv_at hl 1 rfl) ?_
          refine tk_geti hC hK hw hT hinX12 kM_at0 (by decide) rfl 16 (by decide) (List.mem_of_getElem? (i := 3) rfl) rfl rfl dX12_value_44 (fun x327 c328 rx327 tx327 => ?_)
          refine wk_top x304 (c328.symm.trans c326) ?_
          refine tk_Vv hC hK hw hT hA hE hSR kM_at0 (by decide) rfl (k_X12_puts_6 l adK adV dC dI cy ad B (by omega) (by omega) qr s1   0 (by decide) (by decide) x304 w313 H.size hT c323 f2_ c324 (show 0 ≤ f2_.toInt by omega) (show f2_.toInt ≤ 400 by omega) (show f2_.toInt ≤ 399 by omega)) (cwV 2 hC.2.2.2.2 gX12_value_X12_puts rfl rfl rfl (by decide +kernel) ⟨Nat.le_of_ble_eq_true rfl, Nat.le_of_ble_eq_true rfl⟩) rfl hl.1 rfl (Nat.le_of_ble_eq_true rfl) dX12_value_47 (fun w331 H locs hp330 hw => ?_)
          obtain ⟨hT, k332, hg336⟩ := hp330
          have hF := hF.tr k332 (by decide)
          have c337 := k332.gi kM_at0 (by decide) c323
          have c338 := k332.gi kM_at0 (by decide) c325
          have c339 := k332.gi kM_at0 (by decide) c326
          have c340 := k332.gi kM_at0 (by decide) c320
          obtain ⟨⟨x333, c334, rx333, tx333⟩, g335⟩ := hg336
          have ex333 : x333.toInt = (2 : Int) := by rw [show x333 = 2 from c334.symm.trans c337]; decide
          obtain ⟨x341, c342, rx341, tx341⟩ := hT.rda (lo := 0) (hi := 400) (i := 2) kM_at3 rfl rfl (by decide)
          have g335 : x341.toInt = f2_.toInt + 1 := by have q := g335; simp only [c324, c342] at q; omega
          refine lv_iconst (v := 1) hx hb dX12_value_50 (by decide) ?_
          exact tk_zret hC hr rfl hlocks hK ⟨hT, hF, (Or.inr (Or.inr (Or.inl ⟨rfl, ⟨x31, c338, (show 1 ≤ x31.toInt by omega), (show x31.toInt ≤ 400 by omega)⟩, ⟨2, c337, (by decide), (by decide)⟩, ⟨x319, c340, (show 1 ≤ x319.toInt by omega), (show x319.toInt ≤ 60 by omega)⟩, (by simp only [cf2_, c342]; omega), (by simp only [cf1_, c340]; omega)⟩)))⟩ hw dX12_value_51
  · obtain ⟨x43, c44, rx43, tx43⟩ := hT.rdi (lo := 0) (hi := 400) (k := 14) kM_at0 (by decide) rfl
    have g38 : (x43.toInt = x17.toInt ∨ (gi w0 1 (x17.toInt).toNat).toInt = 32) := by have q := g38; simp only [c18, c44] at q; omega
    refine lv_pop hx hb dX12_value_4 rfl ?_
    refine lv_aload_n hx hb dX12_value_5 rfl (lv_at hl 0 rfl) ?_
    refine tk_geti hC hK hw hT hinX12 kM_at0 (by decide) rfl 14 (by decide) (List.mem_of_getElem? (i := 1) rfl) rfl rfl dX12_value_6 (fun x343 c344 rx343 tx343 => ?_)
    refine wk_top x43 (c344.symm.trans c44) ?_
    refine lv_istore_n (lv' := [(1, .int x43), (0, .ref (ad 0))]) hx hb dX12_value_9 rfl hl (by decide) rfl (fun ls hl => ?_)
    refine lv_aload_n hx hb dX12_value_10 rfl (lv_at hl 1 rfl) ?_
    refine lv_aload_n hx hb dX12_value_11 rfl (lv_at hl 1 rfl) ?_
    refine tk_geti hC hK hw hT hinX12 kM_at0 (by decide) rfl 14 (by decide) (List.mem_of_getElem? (i := 1) rfl) rfl rfl dX12_value_12 (fun x345 c346 rx345 tx345 => ?_)
    refine wk_top x43 (c346.symm.trans c44) ?_
    refine tk_Vi hC hK hw hT hA hE hSR kM_at0 (by decide) rfl (k_X12_isDigit_2 l adK adV dC dI cy ad B (by omega) (by omega) qr s1   x43 (show 0 ≤ x43.toInt by omega) (show x43.toInt ≤ 400 by omega) w21 H.size hT ) (cwV 1 hC.2.2.2.2 gX12_value_X12_isDigit rfl rfl rfl (by decide +kernel) ⟨Nat.le_of_ble_eq_true rfl, Nat.le_of_ble_eq_true rfl⟩) rfl hl.1 rfl (Nat.le_of_ble_eq_true rfl) dX12_value_15 (fun r347 w349 H locs hp348 hw => ?_)
    obtain ⟨rfl, hg356⟩ := hp348
    rcases hg356 with ⟨rfl, ⟨x351, c352, rx351, tx351⟩⟩ | ⟨rfl, g353, ⟨x354, c355, rx354, tx354⟩⟩
    · have ex351 : x351.toInt = x36.toInt := by rw [← c37.symm.trans c352]
      refine lv_if_eq (tgt := 52) hx hb dX12_value_18 (by decide) (fun _ => ?_) (fun c => absurd (by decide) c)
      refine lv_aload_n hx hb dX12_value_52 rfl (lv_at hl 1 rfl) ?_
      refine tk_Vi hC hK hw hT hA hE hSR kM_at0 (by decide) rfl (k_X12_wordHere_1 l adK adV dC dI cy ad B (by omega) (by omega) qr s1    w21 H.size hT ) (cwV 0 hC.2.2.2.2 gX12_value_X12_wordHere rfl rfl rfl (by decide +kernel) ⟨Nat.le_of_ble_eq_true rfl, Nat.le_of_ble_eq_true rfl⟩) rfl hl.1 rfl (Nat.le_of_ble_eq_true rfl) dX12_value_53 (fun r357 w359 H locs hp358 hw => ?_)
      obtain ⟨hT, k360, hg367⟩ := hp358
      have hF := hF.tr k360 (by decide)
      have c368 := k360.gi kM_at0 (by decide) c40
      have c369 := k360.gi kM_at0 (by decide) c41
      have c370 := k360.gi kM_at3 (by decide) c42
      have c371 := k360.gi kM_at0 (by decide) c37
      rcases hg367 with ⟨g361, g362, ⟨x363, c364, rx363, tx363⟩⟩ | ⟨rfl, ⟨x365, c366, rx365, tx365⟩⟩
      · have ex363 : x363.toInt = x36.toInt := by rw [← c371.symm.trans c364]
        refine lv_istore_n (lv' := [(2, .int r357), (1, .int x43), (0, .ref (ad 0))]) hx hb dX12_value_56 rfl hl (by decide) rfl (fun ls hl => ?_)
        refine lv_iload_n hx hb dX12_value_57 rfl (lv_at hl 0 rfl) ?_
        refine lv_if_ge (tgt := 68) hx hb dX12_value_58 (by decide) (fun _ => ?_) (fun c => (c (wk_le.mpr (show (0 : Int) ≤ r357.toInt by omega))).elim)
        refine lv_aload_n hx hb dX12_value_68 rfl (lv_at hl 2 rfl) ?_
        refine lv_iload_n hx hb dX12_value_69 rfl (lv_at hl 1 rfl) ?_
        refine tk_Vi hC hK hw hT hA hE hSR kM_at0 (by decide) rfl (k_X12_makes_2 l adK adV dC dI cy ad B (by omega) (by omega) qr s1   x43 (show 0 ≤ x43.toInt by omega) (show x43.toInt ≤ 400 by omega) w359 H.size hT f1_ c369 (show 0 ≤ f1_.toInt by omega) (show f1_.toInt ≤ 60 by omega)) (cwV 1 hC.2.2.2.2 gX12_value_X12_makes rfl rfl rfl (by decide +kernel) ⟨Nat.le_of_ble_eq_true rfl, Nat.le_of_ble_eq_true rfl⟩) rfl hl.1 rfl (Nat.le_of_ble_eq_true rfl) dX12_value_70 (fun r372 w374 H locs hp373 hw => ?_)
        obtain ⟨hT, k375, hg383⟩ := hp373
        have hF := hF.tr k375 (by decide)
        have c384 := k375.gi kM_at0 (by decide) c368
        have c385 := k375.gi kM_at3 (by decide) c370
        have c386 := k375.gi kM_at0 (by decide) c371
        rcases hg383 with ⟨rfl, ⟨x376, c377, rx376, tx376⟩, ⟨x378, c379, rx378, tx378⟩⟩ | ⟨rfl, ⟨x380, c381, rx380, tx380⟩, g382⟩
        · refine lv_if_ne (tgt := 78) hx hb dX12_value_73 (by decide) (fun c => absurd (by decide) c) (fun _ => ?_)
          refine lv_iconst (v := 0) hx hb dX12_value_76 (by decide) ?_
          exact tk_zret hC hr rfl hlocks hK ⟨hT, hF, (Or.inr (Or.inl ⟨rfl, ⟨x36, c386, (show 0 ≤ x36.toInt by omega), (show x36.toInt ≤ 400 by omega)⟩, ⟨x376, c377, (show 1 ≤ x376.toInt by omega), (show x376.toInt ≤ 3205 by omega)⟩, ⟨2, c384, (by decide), (by decide)⟩⟩))⟩ hw dX12_value_77
        · have g382 : x380.toInt = f1_.toInt + 1 := by have q := g382; simp only [c369, c381] at q; omega
          refine lv_if_ne (tgt := 78) hx hb dX12_value_73 (by decide) (fun _ => ?_) (fun c => absurd c (by decide))
          refine lv_aload_n hx hb dX12_value_78 rfl (lv_at hl 2 rfl) ?_
          refine tk_Vv hC hK hw hT hA hE hSR kM_at0 (by decide) rfl (k_X12_passWord_1 l adK adV dC dI cy ad B (by omega) (by omega) qr s1    w374 H.size hT ) (cwV 0 hC.2.2.2.2 gX12_value_X12_passWord rfl rfl rfl (by decide +kernel) ⟨Nat.le_of_ble_eq_true rfl, Nat.le_of_ble_eq_true rfl⟩) rfl hl.1 rfl (Nat.le_of_ble_eq_true rfl) dX12_value_79 (fun w389 H locs hp388 hw => ?_)
          obtain ⟨hT, k390, hg397⟩ := hp388
          have hF := hF.tr k390 (by decide)
          have c398 := k390.gi kM_at0 (by decide) c384
          have c399 := k390.gi kM_at3 (by decide) c385
          have c400 := k390.gi kM_at0 (by decide) c386
          have c401 := k390.gi kM_at0 (by decide) c381
          rcases hg397 with ⟨⟨x391, c392, rx391, tx391⟩, ⟨x393, c394, rx393, tx393⟩⟩ | ⟨x395, c396, rx395, tx395⟩
          · have ex391 : x391.toInt = x36.toInt := by rw [← c400.symm.trans c392]
            refine lv_aload_n hx hb dX12_value_82 rfl (lv_at hl 2 rfl) ?_
            refine lv_iconst (v := 1) hx hb dX12_value_83 (by decide) ?_
            refine lv_iload_n hx hb dX12_value_84 rfl (lv_at hl 0 rfl) ?_
            refine tk_Vv hC hK hw hT hA hE hSR kM_at0 (by decide) rfl (k_X12_puts_6 l adK adV dC dI cy ad B (by omega) (by omega) qr s1   1 (by decide) (by decide) r357 w389 H.size hT c398 f2_ c399 (show 0 ≤ f2_.toInt by omega) (show f2_.toInt ≤ 400 by omega) (show f2_.toInt ≤ 399 by omega)) (cwV 2 hC.2.2.2.2 gX12_value_X12_puts rfl rfl rfl (by decide +kernel) ⟨Nat.le_of_ble_eq_true rfl, Nat.le_of_ble_eq_true rfl⟩) rfl hl.1 rfl (Nat.le_of_ble_eq_true rfl) dX12_value_85 (fun w404 H locs hp403 hw => ?_)
            obtain ⟨hT, k405, hg409⟩ := hp403
            have hF := hF.tr k405 (by decide)
            have c410 := k405.gi kM_at0 (by decide) c398
            have c411 := k405.gi kM_at0 (by decide) c400
            have c412 := k405.gi kM_at0 (by decide) c401
            have c413 := k405.gi kM_at0 (by decide) c394
            obtain ⟨⟨x406, c407, rx406, tx406⟩, g408⟩ := hg409
            have ex406 : x406.toInt = (2 : Int) := by rw [show x406 = 2 from c407.symm.trans c410]; decide
            obtain ⟨x414, c415, rx414, tx414⟩ := hT.rda (lo := 0) (hi := 400) (i := 2) kM_at3 rfl rfl (by decide)
            have g408 : x414.toInt = f2_.toInt + 1 := by have q := g408; simp only [c399, c415] at q; omega
            refine lv_iconst (v := 1) hx hb dX12_value_88 (by decide) ?_
            exact tk_zret hC hr rfl hlocks hK ⟨hT, hF, (Or.inr (Or.inr (Or.inl ⟨rfl, ⟨x36, c411, (show 1 ≤ x36.toInt by omega), (show x36.toInt ≤ 400 by omega)⟩, ⟨2, c410, (by decide), (by decide)⟩, ⟨x380, c412, (show 1 ≤ x380.toInt by omega), (show x380.toInt ≤ 60 by omega)⟩, (by simp only [cf2_, c415]; omega), (by simp only [cf1_, c412]; omega)⟩)))⟩ hw dX12_value_89
          · have ex395 : x395.toInt = x36.toInt := by rw [← c400.symm.trans c396]
            refine lv_aload_n hx hb dX12_value_82 rfl (lv_at hl 2 rfl) ?_
            refine lv_iconst (v := 1) hx hb dX12_value_83 (by decide) ?_
            refine lv_iload_n hx hb dX12_value_84 rfl (lv_at hl 0 rfl) ?_
            refine tk_Vv hC hK hw hT hA hE hSR kM_at0 (by decide) rfl (k_X12_puts_6 l adK adV dC dI cy ad B (by omega) (by omega) qr s1   1 (by decide) (by decide) r357 w389 H.size hT c398 f2_ c399 (show 0 ≤ f2_.toInt by omega) (show f2_.toInt ≤ 400 by omega) (show f2_.toInt ≤ 399 by omega)) (cwV 2 hC.2.2.2.2 gX12_value_X12_puts rfl rfl rfl (by decide +kernel) ⟨Nat.le_of_ble_eq_true rfl, Nat.le_of_ble_eq_true rfl⟩) rfl hl.1 rfl (Nat.le_of_ble_eq_true rfl) dX12_value_85 (fun w418 H locs hp417 hw => ?_)
            obtain ⟨hT, k419, hg423⟩ := hp417
            have hF := hF.tr k419 (by decide)
            have c424 := k419.gi kM_at0 (by decide) c398
            have c425 := k419.gi kM_at0 (by decide) c400
            have c426 := k419.gi kM_at0 (by decide) c401
            obtain ⟨⟨x420, c421, rx420, tx420⟩, g422⟩ := hg423
            have ex420 : x420.toInt = (2 : Int) := by rw [show x420 = 2 from c421.symm.trans c424]; decide
            obtain ⟨x427, c428, rx427, tx427⟩ := hT.rda (lo := 0) (hi := 400) (i := 2) kM_at3 rfl rfl (by decide)
            have g422 : x427.toInt = f2_.toInt + 1 := by have q := g422; simp only [c399, c428] at q; omega
            refine lv_iconst (v := 1) hx hb dX12_value_88 (by decide) ?_
            exact tk_zret hC hr rfl hlocks hK ⟨hT, hF, (Or.inr (Or.inr (Or.inr ⟨rfl, ⟨x36, c425, (show 0 ≤ x36.toInt by omega), (show x36.toInt ≤ 400 by omega)⟩, ⟨2, c424, (by decide), (by decide)⟩, ⟨x380, c426, (show 1 ≤ x380.toInt by omega), (show x380.toInt ≤ 60 by omega)⟩, (by simp only [cf2_, c428]; omega), (by simp only [cf1_, c426]; omega)⟩)))⟩ hw dX12_value_89
      · have ex365 : x365.toInt = x36.toInt := by rw [← c371.symm.trans c366]
        refine lv_istore_n (lv' := [(2, .int (-1)), (1, .int x43), (0, .ref (ad 0))]) hx hb dX12_value_56 rfl hl (by decide) rfl (fun ls hl => ?_)
        refine lv_iload_n hx hb dX12_value_57 rfl (lv_at hl 0 rfl) ?_
        refine lv_if_ge (tgt := 68) hx hb dX12_value_58 (by decide) (fun c => absurd c (by decide)) (fun _ => ?_)
        refine lv_aload_n hx hb dX12_value_61 rfl (lv_at hl 2 rfl) ?_
        refine lv_iconst (v := 0) hx hb dX12_value_62 (by decide) ?_
        refine lv_iload_n hx hb dX12_value_63 rfl (lv_at hl 1 rfl) ?_
        refine tk_Vi hC hK hw hT hA hE hSR kM_at0 (by decide) rfl (k_X12_fails_1 l adK adV dC dI cy ad B (by omega) (by omega) qr s1   0 (by decide) (by decide) x43 (show 0 ≤ x43.toInt by omega) (show x43.toInt ≤ 400 by omega) w359 H.size hT ) (cwV 2 hC.2.2.2.2 gX12_value_X12_fails rfl rfl rfl (by decide +kernel) ⟨Nat.le_of_ble_eq_true rfl, Nat.le_of_ble_eq_true rfl⟩) rfl hl.1 rfl (Nat.le_of_ble_eq_true rfl) dX12_value_64 (fun r429 w431 H locs hp430 hw => ?_)
        obtain ⟨hT, k432, hg435⟩ := hp430
        have hF := hF.tr k432 (by decide)
        have c436 := k432.gi kM_at0 (by decide) c368
        have c437 := k432.gi kM_at0 (by decide) c369
        have c438 := k432.gi kM_at3 (by decide) c370
        have c439 := k432.gi kM_at0 (by decide) c371
        obtain ⟨rfl, ⟨x433, c434, rx433, tx433⟩⟩ := hg435
        exact tk_zret hC hr rfl hlocks hK ⟨hT, hF, (Or.inr (Or.inl ⟨rfl, ⟨x36, c439, (show 0 ≤ x36.toInt by omega), (show x36.toInt ≤ 400 by omega)⟩, ⟨x433, c434, (show 1 ≤ x433.toInt by omega), (show x433.toInt ≤ 3205 by omega)⟩, ⟨2, c436, (by decide), (by decide)⟩⟩))⟩ hw dX12_value_67
    · have ex354 : x354.toInt = x36.toInt := by rw [← c37.symm.trans c355]
      refine lv_if_eq (tgt := 52) hx hb dX12_value_18 (by decide) (fun c => absurd c (by decide)) (fun _ => ?_)
      refine lv_aload_n hx hb dX12_value_21 rfl (lv_at hl 1 rfl) ?_
      refine lv_iconst (v := 0) hx hb dX12_value_22 (by decide) ?_
      refine lv_ldc (v := 99999) hx hb hC.2.2.2.1 (hC.2.2.2.2 _ (List.mem_of_getElem? (i := 2) rfl)) dX12_value_23 ?_
      refine tk_Vi hC hK hw hT hA hE hSR kM_at0 (by decide) rfl (k_X12_numberHere_9 l adK adV dC dI cy ad B (by omega) (by omega) qr s1    w21 H.size hT ) (cwV 2 hC.2.2.2.2 gX12_value_X12_numberHere rfl rfl rfl (by decide +kernel) ⟨Nat.le_of_ble_eq_true rfl, Nat.le_of_ble_eq_true rfl⟩) rfl hl.1 rfl (Nat.le_of_ble_eq_true rfl) dX12_value_25 (fun r440 w442 H locs hp441 hw => ?_)
      obtain ⟨hT, k443, hg456⟩ := hp441
      have hF := hF.tr k443 (by decide)
      have c457 := k443.gi kM_at0 (by decide) c40
      have c458 := k443.gi kM_at0 (by decide) c41
      have c459 := k443.gi kM_at3 (by decide) c42
      have c460 := k443.gi kM_at0 (by decide) c37
      rcases hg456 with ⟨rfl, ⟨x444, c445, rx444, tx444⟩, ⟨x446, c447, rx446, tx446⟩⟩ | ⟨rfl, ⟨x448, c449, rx448, tx448⟩, ⟨x450, c451, rx450, tx450⟩⟩ | ⟨rfl, ⟨x452, c453, rx452, tx452⟩, ⟨x454, c455, rx454, tx454⟩⟩
      · have ex444 : x444.toInt = x36.toInt := by rw [← c460.symm.trans c445]
        refine lv_if_eq (tgt := 39) hx hb dX12_value_28 (by decide) (fun _ => ?_) (fun c => absurd (by decide) c)
        exact J39 x43 x36 x446 f1_ H locs ls w442 (show 0 ≤ x43.toInt by omega) (show x43.toInt ≤ 399 by omega) (show 1 ≤ x36.toInt by omega) (show x36.toInt ≤ 400 by omega) (show 1 ≤ x446.toInt by omega) (show x446.toInt ≤ 3205 by omega) (show 0 ≤ f1_.toInt by omega) (show f1_.toInt ≤ 60 by omega) (show 0 ≤ f2_.toInt by omega) (show f2_.toInt ≤ 399 by omega)  hw hT hF c460 c447 c457 c458 c459 (lv_sub hl [1, 0] rfl)
      · have ex448 : x448.toInt = x36.toInt := by rw [← c460.symm.trans c449]
        refine lv_if_eq (tgt := 39) hx hb dX12_value_28 (by decide) (fun _ => ?_) (fun c => absurd (by decide) c)
        exact J39 x43 x36 x450 f1_ H locs ls w442 (show 0 ≤ x43.toInt by omega) (show x43.toInt ≤ 399 by omega) (show 1 ≤ x36.toInt by omega) (show x36.toInt ≤ 400 by omega) (show 1 ≤ x450.toInt by omega) (show x450.toInt ≤ 3205 by omega) (show 0 ≤ f1_.toInt by omega) (show f1_.toInt ≤ 60 by omega) (show 0 ≤ f2_.toInt by omega) (show f2_.toInt ≤ 399 by omega)  hw hT hF c460 c451 c457 c458 c459 (lv_sub hl [1, 0] rfl)
      · have ex452 : x452.toInt = x36.toInt := by rw [← c460.symm.trans c453]
        refine lv_if_eq (tgt := 39) hx hb dX12_value_28 (by decide) (fun c => absurd c (by decide)) (fun _ => ?_)
        refine lv_aload_n hx hb dX12_value_31 rfl (lv_at hl 1 rfl) ?_
        refine lv_iload_n hx hb dX12_value_32 rfl (lv_at hl 0 rfl) ?_
        refine tk_Vi hC hK hw hT hA hE hSR kM_at0 (by decide) rfl (k_X12_makes_1 l adK adV dC dI cy ad B (by omega) (by omega) qr s1   x43 (show 0 ≤ x43.toInt by omega) (show x43.toInt ≤ 399 by omega) w442 H.size hT f1_ c458 (show 0 ≤ f1_.toInt by omega) (show f1_.toInt ≤ 60 by omega)) (cwV 1 hC.2.2.2.2 gX12_value_X12_makes rfl rfl rfl (by decide +kernel) ⟨Nat.le_of_ble_eq_true rfl, Nat.le_of_ble_eq_true rfl⟩) rfl hl.1 rfl (Nat.le_of_ble_eq_true rfl) dX12_value_33 (fun r461 w463 H locs hp462 hw => ?_)
        obtain ⟨hT, k464, hg472⟩ := hp462
        have hF := hF.tr k464 (by decide)
        have c473 := k464.gi kM_at0 (by decide) c457
        have c474 := k464.gi kM_at3 (by decide) c459
        have c475 := k464.gi kM_at0 (by decide) c460
        have c476 := k464.gi kM_at0 (by decide) c455
        rcases hg472 with ⟨rfl, ⟨x465, c466, rx465, tx465⟩, ⟨x467, c468, rx467, tx467⟩⟩ | ⟨rfl, ⟨x469, c470, rx469, tx469⟩, g471⟩
        · refine lv_if_ne (tgt := 41) hx hb dX12_value_36 (by decide) (fun c => absurd (by decide) c) (fun _ => ?_)
          exact J39 x43 x36 x465 x467 H locs ls w463 (show 0 ≤ x43.toInt by omega) (show x43.toInt ≤ 399 by omega) (show 1 ≤ x36.toInt by omega) (show x36.toInt ≤ 400 by omega) (show 1 ≤ x465.toInt by omega) (show x465.toInt ≤ 3205 by omega) (show 0 ≤ x467.toInt by omega) (show x467.toInt ≤ 60 by omega) (show 0 ≤ f2_.toInt by omega) (show f2_.toInt ≤ 399 by omega)  hw hT hF c475 c466 c473 c468 c474 (lv_sub hl [1, 0] rfl)
        · have g471 : x469.toInt = f1_.toInt + 1 := by have q := g471; simp only [c458, c470] at q; omega
          refine lv_if_ne (tgt := 41) hx hb dX12_value_36 (by decide) (fun _ => ?_) (fun c => absurd c (by decide))
          refine lv_aload_n hx hb dX12_value_41 rfl (lv_at hl 1 rfl) ?_
          refine lv_iconst (v := 0) hx hb dX12_value_42 (by decide) ?_
          refine lv_aload_n hx hb dX12_value_43 rfl (lv_at hl 1 rfl) ?_
          refine tk_geti hC hK hw hT hinX12 kM_at0 (by decide) rfl 16 (by decide) (List.mem_of_getElem? (i := 3) rfl) rfl rfl dX12_value_44 (fun x477 c478 rx477 tx477 => ?_)
          refine wk_top x454 (c478.symm.trans c476) ?_
          refine tk_Vv hC hK hw hT hA hE hSR kM_at0 (by decide) rfl (k_X12_puts_6 l adK adV dC dI cy ad B (by omega) (by omega) qr s1   0 (by decide) (by decide) x454 w463 H.size hT c473 f2_ c474 (show 0 ≤ f2_.toInt by omega) (show f2_.toInt ≤ 400 by omega) (show f2_.toInt ≤ 399 by omega)) (cwV 2 hC.2.2.2.2 gX12_value_X12_puts rfl rfl rfl (by decide +kernel) ⟨Nat.le_of_ble_eq_true rfl, Nat.le_of_ble_eq_true rfl⟩) rfl hl.1 rfl (Nat.le_of_ble_eq_true rfl) dX12_value_47 (fun w481 H locs hp480 hw => ?_)
          obtain ⟨hT, k482, hg486⟩ := hp480
          have hF := hF.tr k482 (by decide)
          have c487 := k482.gi kM_at0 (by decide) c473
          have c488 := k482.gi kM_at0 (by decide) c475
          have c489 := k482.gi kM_at0 (by decide) c476
          have c490 := k482.gi kM_at0 (by decide) c470
          obtain ⟨⟨x483, c484, rx483, tx483⟩, g485⟩ := hg486
          have ex483 : x483.toInt = (2 : Int) := by rw [show x483 = 2 from c484.symm.trans c487]; decide
          obtain ⟨x491, c492, rx491, tx491⟩ := hT.rda (lo := 0) (hi := 400) (i := 2) kM_at3 rfl rfl (by decide)
          have g485 : x491.toInt = f2_.toInt + 1 := by have q := g485; simp only [c474, c492] at q; omega
          refine lv_iconst (v := 1) hx hb dX12_value_50 (by decide) ?_
          exact tk_zret hC hr rfl hlocks hK ⟨hT, hF, (Or.inr (Or.inr (Or.inl ⟨rfl, ⟨x36, c488, (show 1 ≤ x36.toInt by omega), (show x36.toInt ≤ 400 by omega)⟩, ⟨2, c487, (by decide), (by decide)⟩, ⟨x469, c490, (show 1 ≤ x469.toInt by omega), (show x469.toInt ≤ 60 by omega)⟩, (by simp only [cf2_, c492]; omega), (by simp only [cf1_, c490]; omega)⟩)))⟩ hw dX12_value_51
abbrev P_X12_term_3 (ad : Nat → Nat) (cy : Nat → ClassId) (B : Int) (qr : Nat) (s1 : Int)  (w0 : va_W) : Int32 → va_W → Prop := fun r u => TW ksM ad cy B qr 12 u ∧ FE ksM [(12, 14, 14), (12, 15, 15), (12, 16, 16), (12, 18, 18), (61, 0, 2400), (62, 0, 7)] w0 u ∧ ((r = 0 ∧ (∃ y : Int32, gi u 0 1 = y ∧ 1 ≤ y.toInt ∧ y.toInt ≤ 400) ∧ (∃ y : Int32, gi u 0 15 = y ∧ 1 ≤ y.toInt ∧ y.toInt ≤ 3205) ∧ (∃ y : Int32, gi u 0 17 = y ∧ 2 ≤ y.toInt ∧ y.toInt ≤ 2)) ∨ (r = 0 ∧ (∃ y : Int32, gi u 0 1 = y ∧ 0 ≤ y.toInt ∧ y.toInt ≤ 400) ∧ (∃ y : Int32, gi u 0 15 = y ∧ 1 ≤ y.toInt ∧ y.toInt ≤ 3205) ∧ (∃ y : Int32, gi u 0 17 = y ∧ 2 ≤ y.toInt ∧ y.toInt ≤ 2)) ∨ (r = 1 ∧ (∃ y : Int32, gi u 0 1 = y ∧ 1 ≤ y.toInt ∧ y.toInt ≤ 400) ∧ (∃ y : Int32, gi u 0 17 = y ∧ 2 ≤ y.toInt ∧ y.toInt ≤ 2) ∧ (∃ y : Int32, gi u 0 18 = y ∧ 1 ≤ y.toInt ∧ y.toInt ≤ 60) ∧ (3 * (gi u 3 2).toInt + 11 ≤ 3 * (gi w0 3 2).toInt + 14 * ((gi u 0 18).toInt - (gi w0 0 18).toInt)) ∧ ((gi w0 0 18).toInt + 1 ≤ (gi u 0 18).toInt)) ∨ (r = 1 ∧ (∃ y : Int32, gi u 0 1 = y ∧ 0 ≤ y.toInt ∧ y.toInt ≤ 400) ∧ (∃ y : Int32, gi u 0 17 = y ∧ 2 ≤ y.toInt ∧ y.toInt ≤ 2) ∧ (∃ y : Int32, gi u 0 18 = y ∧ 1 ≤ y.toInt ∧ y.toInt ≤ 60) ∧ (3 * (gi u 3 2).toInt + 11 ≤ 3 * (gi w0 3 2).toInt + 14 * ((gi u 0 18).toInt - (gi w0 0 18).toInt)) ∧ ((gi w0 0 18).toInt + 1 ≤ (gi u 0 18).toInt)))
set_option maxHeartbeats 4000000 in
set_option maxRecDepth 100000 in
theorem k_X12_term_3 (l : Launch) (adK adV : Nat → Nat) (dC : Nat → ClassId) (dI : Nat → Nat → Nat) (cy : Nat → ClassId) (ad : Nat → Nat) (B : Int) (hB0 : 100000 ≤ B) (hB1 : B ≤ 1073741824) (qr : Nat) (s1 : Int)   (w0 : va_W) (sz : Nat) (hT : TW ksM ad cy B qr 12 w0) (cf0_ : gi w0 0 17 = 2) (f1_ : Int32) (cf1_ : gi w0 0 18 = f1_) (rf1_ : 0 ≤ f1_.toInt) (tf1_ : f1_.toInt ≤ 60) (f2_ : Int32) (cf2_ : gi w0 3 2 = f2_) (rf2_ : 0 ≤ f2_.toInt) (tf2_ : f2_.toInt ≤ 400) (pr0_ : 3 * f2_.toInt ≤ 14 * f1_.toInt + 60) (pr1_ : f2_.toInt ≤ 300) : Met l yX12_term wsX12_term ({ frames := 5, cells := 0, slots := 0, locals := 100 }) (va_Pc [.ref (ad 0)] (wpreS adK adV dC dI cy sz w0)) (va_Qi (P_X12_term_3 ad cy B qr s1  w0) (fun u : va_W => wpost dC dI cy (va_A w0 sz) u) (va_A w0 sz)) 0 0 (va_A w0 sz) := by
  refine Met.ofW (cc := cX12_term) (maxL := 2) (ret := (some .boolean)) (by decide) rfl ?_
  intro p e s m args below meth c s₁ Bk hml hv
  obtain ⟨rfl, ⟨hsz, hP, hK, hD0⟩, hE, hSR⟩ := hv
  have hx := Bk.exec
  have hb := Bk.bytes
  have hr := Bk.returns
  have hlocks := Bk.notSynchronized
  have hC : CallFix p m c cX12_term 2 s _ wsX12_term RX12 := ⟨hx, hb, hml, findClass_of_methodNamed Bk.named, atoms_spec (ws := wsX12_term) Bk.pre⟩
  subst hsz
  have hD := hD0.self (sz := s.heap.size)
  generalize hAe : va_A w0 s.heap.size = A at hD hE ⊢
  have hA : ∀ q : Nat, s.heap.size ≤ q → A q := fun q h => by rw [← hAe]; exact Or.inr h
  have hw : Wd dC dI A s.heap s.heap [] w0 := ⟨hP, hD, va_S.rf⟩
  have hF : FE ksM [(12, 14, 14), (12, 15, 15), (12, 16, 16), (12, 18, 18), (61, 0, 2400), (62, 0, 7)] w0 w0 := FE.rf
  have hl := lv_entry ([.ref (ad 0)]) (n := 2) (Nat.le_of_ble_eq_true rfl)
  rw [lg_entry_eq]
  generalize (lg_sl ([.ref (ad 0)]) ++ List.replicate (2 - (lg_sl ([.ref (ad 0)])).length) Slot.unset).toArray = ls at hl ⊢
  have hl : lv_has ls 2 [(0, .ref (ad 0))] := hl
  generalize hloc : ([] : List Loc) = locs at hw ⊢
  have hinX12 : ∀ w ∈ u_ws RX12 TX12 42, w ∈ wsX12_term := fun _ h => List.mem_cons_of_mem _ (List.mem_append_right _ (h))
  have L9 : ∀ (n9 : Nat) (f9_0_1 : Int32) (f9_0_18 : Int32) (f9_3_2 : Int32) (H : Heap) (locs : List Loc) (ls : Array Slot) (w1 : va_W), 0 ≤ f9_0_1.toInt → f9_0_1.toInt ≤ 400 → 1 ≤ f9_0_18.toInt → f9_0_18.toInt ≤ 60 → 0 ≤ f9_3_2.toInt → f9_3_2.toInt ≤ 300 → (3 * f9_3_2.toInt + 11 ≤ 3 * f2_.toInt + 14 * (f9_0_18.toInt - f1_.toInt)) → (f1_.toInt + 1 ≤ f9_0_18.toInt) → (f9_3_2.toInt ≤ 300) → (60 - f9_0_18.toInt).toNat < n9 → Wd dC dI A s.heap H locs w1 → TW ksM ad cy B qr 12 w1 → FE ksM [(12, 14, 14), (12, 15, 15), (12, 16, 16), (12, 18, 18), (61, 0, 2400), (62, 0, 7)] w0 w1 → gi w1 0 1 = f9_0_1 → gi w1 0 17 = 2 → gi w1 0 18 = f9_0_18 → gi w1 3 2 = f9_3_2 → lv_has ls 2 [(0, .ref (ad 0))] → W p l e ({ frames := 5, cells := 0, slots := 0, locals := 100 }) s m (List.toArray [.ref (ad 0)]) below meth c H locs 0 0 (MQ below (va_Qi (P_X12_term_3 ad cy B qr s1  w0) (fun u : va_W => wpost dC dI cy A u) A) (List.toArray [.ref (ad 0)]) s 0 0 A) (F0 m 9 ls []) := by
    intro n9
    induction n9 with
    | zero => intro f9_0_1 f9_0_18 f9_3_2 H locs ls w1 r2 t3 r6 t7 r9 t10 hcr9_0 hcr9_1 hcr9_2 hm9 hw hT hF c4 c5 c8 c11 hl; omega
    | succ n9 ih9 =>
      intro f9_0_1 f9_0_18 f9_3_2 H locs ls w1 r2 t3 r6 t7 r9 t10 hcr9_0 hcr9_1 hcr9_2 hm9 hw hT hF c4 c5 c8 c11 hl
      have J27 : ∀ (f27_0_14 : Int32) (H : Heap) (locs : List Loc) (ls : Array Slot) (w12 : va_W), 1 ≤ f9_0_1.toInt → f9_0_1.toInt ≤ 400 → 0 ≤ f27_0_14.toInt → f27_0_14.toInt ≤ 399 → 1 ≤ f9_0_18.toInt → f9_0_18.toInt ≤ 60 → 0 ≤ f9_3_2.toInt → f9_3_2.toInt ≤ 300 → (3 * f9_3_2.toInt + 11 ≤ 3 * f2_.toInt + 14 * (f9_0_18.toInt - f1_.toInt)) → (f1_.toInt + 1 ≤ f9_0_18.toInt) → (f9_3_2.toInt ≤ 300) → Wd dC dI A s.heap H locs w12 → TW ksM ad cy B qr 12 w12 → FE ksM [(12, 14, 14), (12, 15, 15), (12, 16, 16), (12, 18, 18), (61, 0, 2400), (62, 0, 7)] w0 w12 → gi w12 0 1 = f9_0_1 → gi w12 0 14 = f27_0_14 → gi w12 0 17 = 2 → gi w12 0 18 = f9_0_18 → gi w12 3 2 = f9_3_2 → lv_has ls 2 [(0, .ref (ad 0))] → W p l e ({ frames := 5, cells := 0, slots := 0, locals := 100 }) s m (List.toArray [.ref (ad 0)]) below meth c H locs 0 0 (MQ below (va_Qi (P_X12_term_3 ad cy B qr s1  w0) (fun u : va_W => wpost dC dI cy A u) A) (List.toArray [.ref (ad 0)]) s 0 0 A) (F0 m 27 ls []) := by
        intro f27_0_14 H locs ls w12 r13 t14 r16 t17 r20 t21 r23 t24 hcr27_0 hcr27_1 hcr27_2 hw hT hF c15 c18 c19 c22 c25 hl
        refine lv_aload_n hx hb dX12_term_27 rfl (lv_at hl 0 rfl) ?_
        refine tk_getA hC hK hw hT hinX12 kM_at0 (by decide) rfl 0 (by decide) (List.mem_of_getElem? (i := 1) rfl) rfl rfl dX12_term_28 ?_
        refine lv_aload_n hx hb dX12_term_31 rfl (lv_at hl 0 rfl) ?_
        refine tk_geti hC hK hw hT hinX12 kM_at0 (by decide) rfl 14 (by decide) (List.mem_of_getElem? (i := 2) rfl) rfl rfl dX12_term_32 (fun x26 c27 rx26 tx26 => ?_)
        refine wk_top f27_0_14 (c27.symm.trans c18) ?_
        refine tk_bald hC hK hw hT kM_at1 rfl rfl (show 0 ≤ f27_0_14.toInt by omega) (show f27_0_14.toInt < 400 by omega) dX12_term_35 (fun x28 c29 rx28 tx28 => ?_)
        have c29 : gi w12 1 (f27_0_14.toInt).toNat = x28 := (congrArg (gi w12 1) (congrArg Int.toNat (show f27_0_14.toInt = f27_0_14.toInt by omega))).trans c29
        refine lv_bipush (v := 42) hx hb dX12_term_36 (by decide) ?_
        refine lv_icmp_ne (tgt := 45) hx hb dX12_term_38 (by decide) (fun c30 => ?_) (fun c30 => ?_)
        · have c30 : ¬ x28.toInt = (42 : Int) := wk_eqF c30
          refine lv_iconst (v := 5) hx hb dX12_term_45 (by decide) ?_
          refine lv_istore_n (lv' := [(1, .int 5), (0, .ref (ad 0))]) hx hb dX12_term_46 rfl hl (by decide) rfl (fun ls hl => ?_)
          refine lv_aload_n hx hb dX12_term_47 rfl (lv_at hl 1 rfl) ?_
          refine lv_dup hx hb dX12_term_48 rfl ?_
          refine tk_geti hC hK hw hT hinX12 kM_at0 (by decide) rfl 14 (by decide) (List.mem_of_getElem? (i := 2) rfl) rfl rfl dX12_term_49 (fun x31 c32 rx31 tx31 => ?_)
          refine wk_top f27_0_14 (c32.symm.trans c18) ?_
          refine lv_iconst (v := 1) hx hb dX12_term_52 (by decide) ?_
          refine lv_iadd hx hb dX12_term_53 ?_
          refine lv_topi (fun x33 ex33 => ?_)
          have ex33 : x33.toInt = f27_0_14.toInt + (1 : Int) := by rw [ex33]; exact wk_add (show (-2147483648) ≤ f27_0_14.toInt + (1 : Int) by omega) (show f27_0_14.toInt + (1 : Int) ≤ 2147483647 by omega)
          refine tk_puti hC hK hw hT hinX12 tyX12_ok nmX12 kM_at0 (by decide) rfl rfl 14 (by decide) (List.mem_of_getElem? (i := 2) rfl) rfl rfl rfl rfl (show 0 ≤ x33.toInt by omega) (show x33.toInt ≤ 400 by omega) dX12_term_54 (fun H locs w34 hw hT k36 c35 => ?_)
          have hF := hF.put kM_at0 (k := 14) (by decide) k36
          have c37 := k36.gi (Or.inr (by decide)) c15
          have c38 := k36.gi (Or.inr (by decide)) c19
          have c39 := k36.gi (Or.inr (by decide)) c22
          have c40 := k36.gi (Or.inr (by decide)) c25
          have c41 := k36.gi (Or.inl (tk_ne kM_at1 kM_at0 (by decide))) c29
          refine lv_aload_n hx hb dX12_term_57 rfl (lv_at hl 1 rfl) ?_
          refine tk_Vi hC hK hw hT hA hE hSR kM_at0 (by decide) rfl (k_X12_value_3 l adK adV dC dI cy ad B (by omega) (by omega) qr s1    w34 H.size hT c38 f9_0_18 c39 (show 0 ≤ f9_0_18.toInt by omega) (show f9_0_18.toInt ≤ 60 by omega) f9_3_2 c40 (show 0 ≤ f9_3_2.toInt by omega) (show f9_3_2.toInt ≤ 400 by omega) (show f9_3_2.toInt ≤ 399 by omega)) (cwV 0 hC.2.2.2.2 gX12_term_X12_value rfl rfl rfl (by decide +kernel) ⟨Nat.le_of_ble_eq_true rfl, Nat.le_of_ble_eq_true rfl⟩) rfl hl.1 rfl (Nat.le_of_ble_eq_true rfl) dX12_term_58 (fun r42 w44 H locs hp43 hw => ?_)
          obtain ⟨hT, k45, hg74⟩ := hp43
          have hF := hF.tr k45 (by decide)
          have c75 := k45.gi kM_at0 (by decide) c37
          have c76 := k45.gi kM_at0 (by decide) c38
          have c77 := k45.gi kM_at1 rfl c41
          rcases hg74 with ⟨rfl, ⟨x46, c47, rx46, tx46⟩, ⟨x48, c49, rx48, tx48⟩, ⟨x50, c51, rx50, tx50⟩⟩ | ⟨rfl, ⟨x52, c53, rx52, tx52⟩, ⟨x54, c55, rx54, tx54⟩, ⟨x56, c57, rx56, tx56⟩⟩ | ⟨rfl, ⟨x58, c59, rx58, tx58⟩, ⟨x60, c61, rx60, tx60⟩, ⟨x62, c63, rx62, tx62⟩, g64, g65⟩ | ⟨rfl, ⟨x66, c67, rx66, tx66⟩, ⟨x68, c69, rx68, tx68⟩, ⟨x70, c71, rx70, tx70⟩, g72, g73⟩
          · have ex46 : x46.toInt = f9_0_1.toInt := by rw [← c75.symm.trans c47]
            have ex50 : x50.toInt = (2 : Int) := by rw [show x50 = 2 from c51.symm.trans c76]; decide
            obtain ⟨x78, c79, rx78, tx78⟩ := hT.rda (lo := 0) (hi := 400) (i := 2) kM_at3 rfl rfl (by decide)
            obtain ⟨x80, c81, rx80, tx80⟩ := hT.rdi (lo := 0) (hi := 60) (k := 18) kM_at0 (by decide) rfl
            refine lv_if_ne (tgt := 66) hx hb dX12_term_61 (by decide) (fun c => absurd (by decide) c) (fun _ => ?_)
            refine lv_iconst (v := 0) hx hb dX12_term_64 (by decide) ?_
            exact tk_zret hC hr rfl hlocks hK ⟨hT, hF, (Or.inl ⟨rfl, ⟨f9_0_1, c75, (show 1 ≤ f9_0_1.toInt by omega), (show f9_0_1.toInt ≤ 400 by omega)⟩, ⟨x48, c49, (show 1 ≤ x48.toInt by omega), (show x48.toInt ≤ 3205 by omega)⟩, ⟨2, c76, (by decide), (by decide)⟩⟩)⟩ hw dX12_term_65
          · have ex52 : x52.toInt = f9_0_1.toInt := by rw [← c75.symm.trans c53]
            have ex56 : x56.toInt = (2 : Int) := by rw [show x56 = 2 from c57.symm.trans c76]; decide
            obtain ⟨x82, c83, rx82, tx82⟩ := hT.rda (lo := 0) (hi := 400) (i := 2) kM_at3 rfl rfl (by decide)
            obtain ⟨x84, c85, rx84, tx84⟩ := hT.rdi (lo := 0) (hi := 60) (k := 18) kM_at0 (by decide) rfl
            refine lv_if_ne (tgt := 66) hx hb dX12_term_61 (by decide) (fun c => absurd (by decide) c) (fun _ => ?_)
            refine lv_iconst (v := 0) hx hb dX12_term_64 (by decide) ?_
            exact tk_zret hC hr rfl hlocks hK ⟨hT, hF, (Or.inl ⟨rfl, ⟨f9_0_1, c75, (show 1 ≤ f9_0_1.toInt by omega), (show f9_0_1.toInt ≤ 400 by omega)⟩, ⟨x54, c55, (show 1 ≤ x54.toInt by omega), (show x54.toInt ≤ 3205 by omega)⟩, ⟨2, c76, (by decide), (by decide)⟩⟩)⟩ hw dX12_term_65
          · have ex58 : x58.toInt = f9_0_1.toInt := by rw [← c75.symm.trans c59]
            have ex60 : x60.toInt = (2 : Int) := by rw [show x60 = 2 from c61.symm.trans c76]; decide
            obtain ⟨x86, c87, rx86, tx86⟩ := hT.rda (lo := 0) (hi := 400) (i := 2) kM_at3 rfl rfl (by decide)
            have g64 : x86.toInt = f9_3_2.toInt + 1 := by have q := g64; simp only [c40, c87] at q; omega
            have g65 : x62.toInt = f9_0_18.toInt + 1 := by have q := g65; simp only [c39, c63] at q; omega
            refine lv_if_ne (tgt := 66) hx hb dX12_term_61 (by decide) (fun _ => ?_) (fun c => absurd c (by decide))
            refine lv_aload_n hx hb dX12_term_66 rfl (lv_at hl 1 rfl) ?_
            refine lv_iload_n hx hb dX12_term_67 rfl (lv_at hl 0 rfl) ?_
            refine lv_iconst (v := 0) hx hb dX12_term_68 (by decide) ?_
            refine tk_Vv hC hK hw hT hA hE hSR kM_at0 (by decide) rfl (k_X12_puts_6 l adK adV dC dI cy ad B (by omega) (by omega) qr s1   5 (by decide) (by decide) 0 w44 H.size hT c76 x86 c87 (show 0 ≤ x86.toInt by omega) (show x86.toInt ≤ 400 by omega) (show x86.toInt ≤ 399 by omega)) (cwV 2 hC.2.2.2.2 gX12_term_X12_puts rfl rfl rfl (by decide +kernel) ⟨Nat.le_of_ble_eq_true rfl, Nat.le_of_ble_eq_true rfl⟩) rfl hl.1 rfl (Nat.le_of_ble_eq_true rfl) dX12_term_69 (fun w92 H locs hp91 hw => ?_)
            obtain ⟨hT, k93, hg97⟩ := hp91
            have hF := hF.tr k93 (by decide)
            have c98 := k93.gi kM_at0 (by decide) c75
            have c99 := k93.gi kM_at0 (by decide) c76
            have c100 := k93.gi kM_at1 rfl c77
            have c101 := k93.gi kM_at0 (by decide) c63
            obtain ⟨⟨x94, c95, rx94, tx94⟩, g96⟩ := hg97
            have ex94 : x94.toInt = (2 : Int) := by rw [show x94 = 2 from c95.symm.trans c99]; decide
            obtain ⟨x102, c103, rx102, tx102⟩ := hT.rda (lo := 0) (hi := 400) (i := 2) kM_at3 rfl rfl (by decide)
            have g96 : x102.toInt = x86.toInt + 1 := by have q := g96; simp only [c87, c103] at q; omega
            refine lv_goto (tgt := 9) hx hb dX12_term_72 (by decide) ?_
            exact ih9 f9_0_1 x62 x102 H locs ls w92 (show 0 ≤ f9_0_1.toInt by omega) (show f9_0_1.toInt ≤ 400 by omega) (show 1 ≤ x62.toInt by omega) (show x62.toInt ≤ 60 by omega) (show 0 ≤ x102.toInt by omega) (show x102.toInt ≤ 300 by omega) (show 3 * x102.toInt + 11 ≤ 3 * f2_.toInt + 14 * (x62.toInt - f1_.toInt) by omega) (show f1_.toInt + 1 ≤ x62.toInt by omega) (show x102.toInt ≤ 300 by omega) (show (60 - x62.toInt).toNat < n9 by omega) hw hT hF c98 c99 c101 c103 (lv_sub hl [1] rfl)
          · have ex66 : x66.toInt = f9_0_1.toInt := by rw [← c75.symm.trans c67]
            have ex68 : x68.toInt = (2 : Int) := by rw [show x68 = 2 from c69.symm.trans c76]; decide
            obtain ⟨x88, c89, rx88, tx88⟩ := hT.rda (lo := 0) (hi := 400) (i := 2) kM_at3 rfl rfl (by decide)
            have g72 : x88.toInt = f9_3_2.toInt + 1 := by have q := g72; simp only [c40, c89] at q; omega
            have g73 : x70.toInt = f9_0_18.toInt + 1 := by have q := g73; simp only [c39, c71] at q; omega
            refine lv_if_ne (tgt := 66) hx hb dX12_term_61 (by decide) (fun _ => ?_) (fun c => absurd c (by decide))
            refine lv_aload_n hx hb dX12_term_66 rfl (lv_at hl 1 rfl) ?_
            refine lv_iload_n hx hb dX12_term_67 rfl (lv_at hl 0 rfl) ?_
            refine lv_iconst (v := 0) hx hb dX12_term_68 (by decide) ?_
            refine tk_Vv hC hK hw hT hA hE hSR kM_at0 (by decide) rfl (k_X12_puts_6 l adK adV dC dI cy ad B (by omega) (by omega) qr s1   5 (by decide) (by decide) 0 w44 H.size hT c76 x88 c89 (show 0 ≤ x88.toInt by omega) (show x88.toInt ≤ 400 by omega) (show x88.toInt ≤ 399 by omega)) (cwV 2 hC.2.2.2.2 gX12_term_X12_puts rfl rfl rfl (by decide +kernel) ⟨Nat.le_of_ble_eq_true rfl, Nat.le_of_ble_eq_true rfl⟩) rfl hl.1 rfl (Nat.le_of_ble_eq_true rfl) dX12_term_69 (fun w106 H locs hp105 hw => ?_)
            obtain ⟨hT, k107, hg111⟩ := hp105
            have hF := hF.tr k107 (by decide)
            have c112 := k107.gi kM_at0 (by decide) c75
            have c113 := k107.gi kM_at0 (by decide) c76
            have c114 := k107.gi kM_at1 rfl c77
            have c115 := k107.gi kM_at0 (by decide) c71
            obtain ⟨⟨x108, c109, rx108, tx108⟩, g110⟩ := hg111
            have ex108 : x108.toInt = (2 : Int) := by rw [show x108 = 2 from c109.symm.trans c113]; decide
            obtain ⟨x116, c117, rx116, tx116⟩ := hT.rda (lo := 0) (hi := 400) (i := 2) kM_at3 rfl rfl (by decide)
            have g110 : x116.toInt = x88.toInt + 1 := by have q := g110; simp only [c89, c117] at q; omega
            refine lv_goto (tgt := 9) hx hb dX12_term_72 (by decide) ?_
            exact ih9 f9_0_1 x70 x116 H locs ls w106 (show 0 ≤ f9_0_1.toInt by omega) (show f9_0_1.toInt ≤ 400 by omega) (show 1 ≤ x70.toInt by omega) (show x70.toInt ≤ 60 by omega) (show 0 ≤ x116.toInt by omega) (show x116.toInt ≤ 300 by omega) (show 3 * x116.toInt + 11 ≤ 3 * f2_.toInt + 14 * (x70.toInt - f1_.toInt) by omega) (show f1_.toInt + 1 ≤ x70.toInt by omega) (show x116.toInt ≤ 300 by omega) (show (60 - x70.toInt).toNat < n9 by omega) hw hT hF c112 c113 c115 c117 (lv_sub hl [1] rfl)
        · have c30 : x28.toInt = (42 : Int) := wk_eq.mp c30
          refine lv_iconst (v := 4) hx hb dX12_term_41 (by decide) ?_
          refine lv_goto (tgt := 46) hx hb dX12_term_42 (by decide) ?_
          refine lv_istore_n (lv' := [(1, .int 4), (0, .ref (ad 0))]) hx hb dX12_term_46 rfl hl (by decide) rfl (fun ls hl => ?_)
          refine lv_aload_n hx hb dX12_term_47 rfl (lv_at hl 1 rfl) ?_
          refine lv_dup hx hb dX12_term_48 rfl ?_
          refine tk_geti hC hK hw hT hinX12 kM_at0 (by decide) rfl 14 (by decide) (List.mem_of_getElem? (i := 2) rfl) rfl rfl dX12_term_49 (fun x118 c119 rx118 tx118 => ?_)
          refine wk_top f27_0_14 (c119.symm.trans c18) ?_
          refine lv_iconst (v := 1) hx hb dX12_term_52 (by decide) ?_
          refine lv_iadd hx hb dX12_term_53 ?_
          refine lv_topi (fun x120 ex120 => ?_)
          have ex120 : x120.toInt = f27_0_14.toInt + (1 : Int) := by rw [ex120]; exact wk_add (show (-2147483648) ≤ f27_0_14.toInt + (1 : Int) by omega) (show f27_0_14.toInt + (1 : Int) ≤ 2147483647 by omega)
          refine tk_puti hC hK hw hT hinX12 tyX12_ok nmX12 kM_at0 (by decide) rfl rfl 14 (by decide) (List.mem_of_getElem? (i := 2) rfl) rfl rfl rfl rfl (show 0 ≤ x120.toInt by omega) (show x120.toInt ≤ 400 by omega) dX12_term_54 (fun H locs w121 hw hT k123 c122 => ?_)
          have hF := hF.put kM_at0 (k := 14) (by decide) k123
          have c124 := k123.gi (Or.inr (by decide)) c15
          have c125 := k123.gi (Or.inr (by decide)) c19
          have c126 := k123.gi (Or.inr (by decide)) c22
          have c127 := k123.gi (Or.inr (by decide)) c25
          have c128 := k123.gi (Or.inl (tk_ne kM_at1 kM_at0 (by decide))) c29
          refine lv_aload_n hx hb dX12_term_57 rfl (lv_at hl 1 rfl) ?_
          refine tk_Vi hC hK hw hT hA hE hSR kM_at0 (by decide) rfl (k_X12_value_3 l adK adV dC dI cy ad B (by omega) (by omega) qr s1    w121 H.size hT c125 f9_0_18 c126 (show 0 ≤ f9_0_18.toInt by omega) (show f9_0_18.toInt ≤ 60 by omega) f9_3_2 c127 (show 0 ≤ f9_3_2.toInt by omega) (show f9_3_2.toInt ≤ 400 by omega) (show f9_3_2.toInt ≤ 399 by omega)) (cwV 0 hC.2.2.2.2 gX12_term_X12_value rfl rfl rfl (by decide +kernel) ⟨Nat.le_of_ble_eq_true rfl, Nat.le_of_ble_eq_true rfl⟩) rfl hl.1 rfl (Nat.le_of_ble_eq_true rfl) dX12_term_58 (fun r129 w131 H locs hp130 hw => ?_)
          obtain ⟨hT, k132, hg161⟩ := hp130
          have hF := hF.tr k132 (by decide)
          have c162 := k132.gi kM_at0 (by decide) c124
          have c163 := k132.gi kM_at0 (by decide) c125
          have c164 := k132.gi kM_at1 rfl c128
          rcases hg161 with ⟨rfl, ⟨x133, c134, rx133, tx133⟩, ⟨x135, c136, rx135, tx135⟩, ⟨x137, c138, rx137, tx137⟩⟩ | ⟨rfl, ⟨x139, c140, rx139, tx139⟩, ⟨x141, c142, rx141, tx141⟩, ⟨x143, c144, rx143, tx143⟩⟩ | ⟨rfl, ⟨x145, c146, rx145, tx145⟩, ⟨x147, c148, rx147, tx147⟩, ⟨x149, c150, rx149, tx149⟩, g151, g152⟩ | ⟨rfl, ⟨x153, c154, rx153, tx153⟩, ⟨x155, c156, rx155, tx155⟩, ⟨x157, c158, rx157, tx157⟩, g159, g160⟩
          · have ex133 : x133.toInt = f9_0_1.toInt := by rw [← c162.symm.trans c134]
            have ex137 : x137.toInt = (2 : Int) := by rw [show x137 = 2 from c138.symm.trans c163]; decide
            obtain ⟨x165, c166, rx165, tx165⟩ := hT.rda (lo := 0) (hi := 400) (i := 2) kM_at3 rfl rfl (by decide)
            obtain ⟨x167, c168, rx167, tx167⟩ := hT.rdi (lo := 0) (hi := 60) (k := 18) kM_at0 (by decide) rfl
            refine lv_if_ne (tgt := 66) hx hb dX12_term_61 (by decide) (fun c => absurd (by decide) c) (fun _ => ?_)
            refine lv_iconst (v := 0) hx hb dX12_term_64 (by decide) ?_
            exact tk_zret hC hr rfl hlocks hK ⟨hT, hF, (Or.inl ⟨rfl, ⟨f9_0_1, c162, (show 1 ≤ f9_0_1.toInt by omega), (show f9_0_1.toInt ≤ 400 by omega)⟩, ⟨x135, c136, (show 1 ≤ x135.toInt by omega), (show x135.toInt ≤ 3205 by omega)⟩, ⟨2, c163, (by decide), (by decide)⟩⟩)⟩ hw dX12_term_65
          · have ex139 : x139.toInt = f9_0_1.toInt := by rw [← c162.symm.trans c140]
            have ex143 : x143.toInt = (2 : Int) := by rw [show x143 = 2 from c144.symm.trans c163]; decide
            obtain ⟨x169, c170, rx169, tx169⟩ := hT.rda (lo := 0) (hi := 400) (i := 2) kM_at3 rfl rfl (by decide)
            obtain ⟨x171, c172, rx171, tx171⟩ := hT.rdi (lo := 0) (hi := 60) (k := 18) kM_at0 (by decide) rfl
            refine lv_if_ne (tgt := 66) hx hb dX12_term_61 (by decide) (fun c => absurd (by decide) c) (fun _ => ?_)
            refine lv_iconst (v := 0) hx hb dX12_term_64 (by decide) ?_
            exact tk_zret hC hr rfl hlocks hK ⟨hT, hF, (Or.inl ⟨rfl, ⟨f9_0_1, c162, (show 1 ≤ f9_0_1.toInt by omega), (show f9_0_1.toInt ≤ 400 by omega)⟩, ⟨x141, c142, (show 1 ≤ x141.toInt by omega), (show x141.toInt ≤ 3205 by omega)⟩, ⟨2, c163, (by decide), (by decide)⟩⟩)⟩ hw dX12_term_65
          · have ex145 : x145.toInt = f9_0_1.toInt := by rw [← c162.symm.trans c146]
            have ex147 : x147.toInt = (2 : Int) := by rw [show x147 = 2 from c148.symm.trans c163]; decide
            obtain ⟨x173, c174, rx173, tx173⟩ := hT.rda (lo := 0) (hi := 400) (i := 2) kM_at3 rfl rfl (by decide)
            have g151 : x173.toInt = f9_3_2.toInt + 1 := by have q := g151; simp only [c127, c174] at q; omega
            have g152 : x149.toInt = f9_0_18.toInt + 1 := by have q := g152; simp only [c126, c150] at q; omega
            refine lv_if_ne (tgt := 66) hx hb dX12_term_61 (by decide) (fun _ => ?_) (fun c => absurd c (by decide))
            refine lv_aload_n hx hb dX12_term_66 rfl (lv_at hl 1 rfl) ?_
            refine lv_iload_n hx hb dX12_term_67 rfl (lv_at hl 0 rfl) ?_
            refine lv_iconst (v := 0) hx hb dX12_term_68 (by decide) ?_
            refine tk_Vv hC hK hw hT hA hE hSR kM_at0 (by decide) rfl (k_X12_puts_6 l adK adV dC dI cy ad B (by omega) (by omega) qr s1   4 (by decide) (by decide) 0 w131 H.size hT c163 x173 c174 (show 0 ≤ x173.toInt by omega) (show x173.toInt ≤ 400 by omega) (show x173.toInt ≤ 399 by omega)) (cwV 2 hC.2.2.2.2 gX12_term_X12_puts rfl rfl rfl (by decide +kernel) ⟨Nat.le_of_ble_eq_true rfl, Nat.le_of_ble_eq_true rfl⟩) rfl hl.1 rfl (Nat.le_of_ble_eq_true rfl) dX12_term_69 (fun w179 H locs hp178 hw => ?_)
            obtain ⟨hT, k180, hg184⟩ := hp178
            have hF := hF.tr k180 (by decide)
            have c185 := k180.gi kM_at0 (by decide) c162
            have c186 := k180.gi kM_at0 (by decide) c163
            have c187 := k180.gi kM_at1 rfl c164
            have c188 := k180.gi kM_at0 (by decide) c150
            obtain ⟨⟨x181, c182, rx181, tx181⟩, g183⟩ := hg184
            have ex181 : x181.toInt = (2 : Int) := by rw [show x181 = 2 from c182.symm.trans c186]; decide
            obtain ⟨x189, c190, rx189, tx189⟩ := hT.rda (lo := 0) (hi := 400) (i := 2) kM_at3 rfl rfl (by decide)
            have g183 : x189.toInt = x173.toInt + 1 := by have q := g183; simp only [c174, c190] at q; omega
            refine lv_goto (tgt := 9) hx hb dX12_term_72 (by decide) ?_
            exact ih9 f9_0_1 x149 x189 H locs ls w179 (show 0 ≤ f9_0_1.toInt by omega) (show f9_0_1.toInt ≤ 400 by omega) (show 1 ≤ x149.toInt by omega) (show x149.toInt ≤ 60 by omega) (show 0 ≤ x189.toInt by omega) (show x189.toInt ≤ 300 by omega) (show 3 * x189.toInt + 11 ≤ 3 * f2_.toInt + 14 * (x149.toInt - f1_.toInt) by omega) (show f1_.toInt + 1 ≤ x149.toInt by omega) (show x189.toInt ≤ 300 by omega) (show (60 - x149.toInt).toNat < n9 by omega) hw hT hF c185 c186 c188 c190 (lv_sub hl [1] rfl)
          · have ex153 : x153.toInt = f9_0_1.toInt := by rw [← c162.symm.trans c154]
            have ex155 : x155.toInt = (2 : Int) := by rw [show x155 = 2 from c156.symm.trans c163]; decide
            obtain ⟨x175, c176, rx175, tx175⟩ := hT.rda (lo := 0) (hi := 400) (i := 2) kM_at3 rfl rfl (by decide)
            have g159 : x175.toInt = f9_3_2.toInt + 1 := by have q := g159; simp only [c127, c176] at q; omega
            have g160 : x157.toInt = f9_0_18.toInt + 1 := by have q := g160; simp only [c126, c158] at q; omega
            refine lv_if_ne (tgt := 66) hx hb dX12_term_61 (by decide) (fun _ => ?_) (fun c => absurd c (by decide))
            refine lv_aload_n hx hb dX12_term_66 rfl (lv_at hl 1 rfl) ?_
            refine lv_iload_n hx hb dX12_term_67 rfl (lv_at hl 0 rfl) ?_
            refine lv_iconst (v := 0) hx hb dX12_term_68 (by decide) ?_
            refine tk_Vv hC hK hw hT hA hE hSR kM_at0 (by decide) rfl (k_X12_puts_6 l adK adV dC dI cy ad B (by omega) (by omega) qr s1   4 (by decide) (by decide) 0 w131 H.size hT c163 x175 c176 (show 0 ≤ x175.toInt by omega) (show x175.toInt ≤ 400 by omega) (show x175.toInt ≤ 399 by omega)) (cwV 2 hC.2.2.2.2 gX12_term_X12_puts rfl rfl rfl (by decide +kernel) ⟨Nat.le_of_ble_eq_true rfl, Nat.le_of_ble_eq_true rfl⟩) rfl hl.1 rfl (Nat.le_of_ble_eq_true rfl) dX12_term_69 (fun w193 H locs hp192 hw => ?_)
            obtain ⟨hT, k194, hg198⟩ := hp192
            have hF := hF.tr k194 (by decide)
            have c199 := k194.gi kM_at0 (by decide) c162
            have c200 := k194.gi kM_at0 (by decide) c163
            have c201 := k194.gi kM_at1 rfl c164
            have c202 := k194.gi kM_at0 (by decide) c158
            obtain ⟨⟨x195, c196, rx195, tx195⟩, g197⟩ := hg198
            have ex195 : x195.toInt = (2 : Int) := by rw [show x195 = 2 from c196.symm.trans c200]; decide
            obtain ⟨x203, c204, rx203, tx203⟩ := hT.rda (lo := 0) (hi := 400) (i := 2) kM_at3 rfl rfl (by decide)
            have g197 : x203.toInt = x175.toInt + 1 := by have q := g197; simp only [c176, c204] at q; omega
            refine lv_goto (tgt := 9) hx hb dX12_term_72 (by decide) ?_
            exact ih9 f9_0_1 x157 x203 H locs ls w193 (show 0 ≤ f9_0_1.toInt by omega) (show f9_0_1.toInt ≤ 400 by omega) (show 1 ≤ x157.toInt by omega) (show x157.toInt ≤ 60 by omega) (show 0 ≤ x203.toInt by omega) (show x203.toInt ≤ 300 by omega) (show 3 * x203.toInt + 11 ≤ 3 * f2_.toInt + 14 * (x157.toInt - f1_.toInt) by omega) (show f1_.toInt + 1 ≤ x157.toInt by omega) (show x203.toInt ≤ 300 by omega) (show (60 - x157.toInt).toNat < n9 by omega) hw hT hF c199 c200 c202 c204 (lv_sub hl [1] rfl)
      refine lv_aload_n hx hb dX12_term_9 rfl (lv_at hl 0 rfl) ?_
      obtain ⟨x205, c206, rx205, tx205⟩ := hT.rdi (lo := 0) (hi := 400) (k := 14) kM_at0 (by decide) rfl
      refine tk_Vi hC hK hw hT hA hE hSR kM_at0 (by decide) rfl (k_X12_see_1 l adK adV dC dI cy ad B (by omega) (by omega) qr s1    w1 H.size hT x205 c206 (show 0 ≤ x205.toInt by omega) (show x205.toInt ≤ 400 by omega)) (cwV 0 hC.2.2.2.2 gX12_term_X12_see rfl rfl rfl (by decide +kernel) ⟨Nat.le_of_ble_eq_true rfl, Nat.le_of_ble_eq_true rfl⟩) rfl hl.1 rfl (Nat.le_of_ble_eq_true rfl) dX12_term_10 (fun r207 w209 H locs hp208 hw => ?_)
      obtain ⟨hT, k210, hg227⟩ := hp208
      have hF := hF.tr k210 (by decide)
      have c228 := k210.gi kM_at0 (by decide) c4
      have c229 := k210.gi kM_at0 (by decide) c5
      have c230 := k210.gi kM_at0 (by decide) c8
      have c231 := k210.gi kM_at3 (by decide) c11
      rcases hg227 with ⟨g211, g212, ⟨x213, c214, rx213, tx213⟩, ⟨x215, c216, rx215, tx215⟩, g217, g218⟩ | ⟨rfl, ⟨x219, c220, rx219, tx219⟩, ⟨x221, c222, rx221, tx221⟩, g223⟩ | ⟨rfl, ⟨x224, c225, rx224, tx224⟩, g226⟩
      · have ex213 : x213.toInt = f9_0_1.toInt := by rw [← c228.symm.trans c214]
        have g217 : (gi w209 1 (x215.toInt).toNat).toInt ≠ 32 := by have q := g217; simp only [c216] at q; omega
        have g218 : (x215.toInt = x205.toInt ∨ (gi w1 1 (x205.toInt).toNat).toInt = 32) := by have q := g218; simp only [c206, c216] at q; omega
        refine lv_bipush (v := 42) hx hb dX12_term_13 (by decide) ?_
        refine lv_icmp_eq (tgt := 27) hx hb dX12_term_15 (by decide) (fun c234 => ?_) (fun c234 => ?_)
        · have c234 : r207.toInt = (42 : Int) := wk_eq.mp c234
          exact J27 x215 H locs ls w209 (show 1 ≤ f9_0_1.toInt by omega) (show f9_0_1.toInt ≤ 400 by omega) (show 0 ≤ x215.toInt by omega) (show x215.toInt ≤ 399 by omega) (show 1 ≤ f9_0_18.toInt by omega) (show f9_0_18.toInt ≤ 60 by omega) (show 0 ≤ f9_3_2.toInt by omega) (show f9_3_2.toInt ≤ 300 by omega) (show 3 * f9_3_2.toInt + 11 ≤ 3 * f2_.toInt + 14 * (f9_0_18.toInt - f1_.toInt) by omega) (show f1_.toInt + 1 ≤ f9_0_18.toInt by omega) (show f9_3_2.toInt ≤ 300 by omega)  hw hT hF c228 c216 c229 c230 c231 (lv_sub hl [0] rfl)
        · have c234 : ¬ r207.toInt = (42 : Int) := wk_eqF c234
          refine lv_aload_n hx hb dX12_term_18 rfl (lv_at hl 0 rfl) ?_
          refine tk_Vi hC hK hw hT hA hE hSR kM_at0 (by decide) rfl (k_X12_see_1 l adK adV dC dI cy ad B (by omega) (by omega) qr s1    w209 H.size hT x215 c216 (show 0 ≤ x215.toInt by omega) (show x215.toInt ≤ 400 by omega)) (cwV 0 hC.2.2.2.2 gX12_term_X12_see rfl rfl rfl (by decide +kernel) ⟨Nat.le_of_ble_eq_true rfl, Nat.le_of_ble_eq_true rfl⟩) rfl hl.1 rfl (Nat.le_of_ble_eq_true rfl) dX12_term_19 (fun r235 w237 H locs hp236 hw => ?_)
          obtain ⟨hT, k238, hg255⟩ := hp236
          have hF := hF.tr k238 (by decide)
          have c256 := k238.gi kM_at0 (by decide) c228
          have c257 := k238.gi kM_at0 (by decide) c229
          have c258 := k238.gi kM_at0 (by decide) c230
          have c259 := k238.gi kM_at3 (by decide) c231
          rcases hg255 with ⟨g239, g240, ⟨x241, c242, rx241, tx241⟩, ⟨x243, c244, rx243, tx243⟩, g245, g246⟩ | ⟨rfl, ⟨x247, c248, rx247, tx247⟩, ⟨x249, c250, rx249, tx249⟩, g251⟩ | ⟨rfl, ⟨x252, c253, rx252, tx252⟩, g254⟩
          · have ex241 : x241.toInt = f9_0_1.toInt := by rw [← c256.symm.trans c242]
            have g245 : (gi w237 1 (x243.toInt).toNat).toInt ≠ 32 := by have q := g245; simp only [c244] at q; omega
            have g246 : (x243.toInt = x215.toInt ∨ (gi w209 1 (x215.toInt).toNat).toInt = 32) := by have q := g246; simp only [c216, c244] at q; omega
            refine lv_bipush (v := 47) hx hb dX12_term_22 (by decide) ?_
            refine lv_icmp_ne (tgt := 75) hx hb dX12_term_24 (by decide) (fun c262 => ?_) (fun c262 => ?_)
            · have c262 : ¬ r235.toInt = (47 : Int) := wk_eqF c262
              refine lv_iconst (v := 1) hx hb dX12_term_75 (by decide) ?_
              exact tk_zret hC hr rfl hlocks hK ⟨hT, hF, (Or.inr (Or.inr (Or.inl ⟨rfl, ⟨f9_0_1, c256, (show 1 ≤ f9_0_1.toInt by omega), (show f9_0_1.toInt ≤ 400 by omega)⟩, ⟨2, c257, (by decide), (by decide)⟩, ⟨f9_0_18, c258, (show 1 ≤ f9_0_18.toInt by omega), (show f9_0_18.toInt ≤ 60 by omega)⟩, (by simp only [cf2_, c259, cf1_, c258]; omega), (by simp only [cf1_, c258]; omega)⟩)))⟩ hw dX12_term_76
            · have c262 : r235.toInt = (47 : Int) := wk_eq.mp c262
              exact J27 x243 H locs ls w237 (show 1 ≤ f9_0_1.toInt by omega) (show f9_0_1.toInt ≤ 400 by omega) (show 0 ≤ x243.toInt by omega) (show x243.toInt ≤ 399 by omega) (show 1 ≤ f9_0_18.toInt by omega) (show f9_0_18.toInt ≤ 60 by omega) (show 0 ≤ f9_3_2.toInt by omega) (show f9_3_2.toInt ≤ 300 by omega) (show 3 * f9_3_2.toInt + 11 ≤ 3 * f2_.toInt + 14 * (f9_0_18.toInt - f1_.toInt) by omega) (show f1_.toInt + 1 ≤ f9_0_18.toInt by omega) (show f9_3_2.toInt ≤ 300 by omega)  hw hT hF c256 c244 c257 c258 c259 (lv_sub hl [0] rfl)
          · have ex247 : x247.toInt = f9_0_1.toInt := by rw [← c256.symm.trans c248]
            have g251 : (x249.toInt = x215.toInt ∨ (gi w209 1 (x215.toInt).toNat).toInt = 32) := by have q := g251; simp only [c216, c250] at q; omega
            refine lv_bipush (v := 47) hx hb dX12_term_22 (by decide) ?_
            refine lv_icmp_ne (tgt := 75) hx hb dX12_term_24 (by decide) (fun _ => ?_) (fun c => absurd c (by decide))
            refine lv_iconst (v := 1) hx hb dX12_term_75 (by decide) ?_
            exact tk_zret hC hr rfl hlocks hK ⟨hT, hF, (Or.inr (Or.inr (Or.inl ⟨rfl, ⟨f9_0_1, c256, (show 1 ≤ f9_0_1.toInt by omega), (show f9_0_1.toInt ≤ 400 by omega)⟩, ⟨2, c257, (by decide), (by decide)⟩, ⟨f9_0_18, c258, (show 1 ≤ f9_0_18.toInt by omega), (show f9_0_18.toInt ≤ 60 by omega)⟩, (by simp only [cf2_, c259, cf1_, c258]; omega), (by simp only [cf1_, c258]; omega)⟩)))⟩ hw dX12_term_76
          · have ex252 : x252.toInt = f9_0_1.toInt := by rw [← c256.symm.trans c253]
            obtain ⟨x260, c261, rx260, tx260⟩ := hT.rdi (lo := 0) (hi := 400) (k := 14) kM_at0 (by decide) rfl
            have g254 : (x260.toInt = x215.toInt ∨ (gi w209 1 (x215.toInt).toNat).toInt = 32) := by have q := g254; simp only [c216, c261] at q; omega
            refine lv_bipush (v := 47) hx hb dX12_term_22 (by decide) ?_
            refine lv_icmp_ne (tgt := 75) hx hb dX12_term_24 (by decide) (fun _ => ?_) (fun c => absurd c (by decide))
            refine lv_iconst (v := 1) hx hb dX12_term_75 (by decide) ?_
            exact tk_zret hC hr rfl hlocks hK ⟨hT, hF, (Or.inr (Or.inr (Or.inl ⟨rfl, ⟨f9_0_1, c256, (show 1 ≤ f9_0_1.toInt by omega), (show f9_0_1.toInt ≤ 400 by omega)⟩, ⟨2, c257, (by decide), (by decide)⟩, ⟨f9_0_18, c258, (show 1 ≤ f9_0_18.toInt by omega), (show f9_0_18.toInt ≤ 60 by omega)⟩, (by simp only [cf2_, c259, cf1_, c258]; omega), (by simp only [cf1_, c258]; omega)⟩)))⟩ hw dX12_term_76
      · have ex219 : x219.toInt = f9_0_1.toInt := by rw [← c228.symm.trans c220]
        have g223 : (x221.toInt = x205.toInt ∨ (gi w1 1 (x205.toInt).toNat).toInt = 32) := by have q := g223; simp only [c206, c222] at q; omega
        refine lv_bipush (v := 42) hx hb dX12_term_13 (by decide) ?_
        refine lv_icmp_eq (tgt := 27) hx hb dX12_term_15 (by decide) (fun c => absurd c (by decide)) (fun _ => ?_)
        refine lv_aload_n hx hb dX12_term_18 rfl (lv_at hl 0 rfl) ?_
        refine tk_Vi hC hK hw hT hA hE hSR kM_at0 (by decide) rfl (k_X12_see_1 l adK adV dC dI cy ad B (by omega) (by omega) qr s1    w209 H.size hT x221 c222 (show 0 ≤ x221.toInt by omega) (show x221.toInt ≤ 400 by omega)) (cwV 0 hC.2.2.2.2 gX12_term_X12_see rfl rfl rfl (by decide +kernel) ⟨Nat.le_of_ble_eq_true rfl, Nat.le_of_ble_eq_true rfl⟩) rfl hl.1 rfl (Nat.le_of_ble_eq_true rfl) dX12_term_19 (fun r263 w265 H locs hp264 hw => ?_)
        obtain ⟨hT, k266, hg283⟩ := hp264
        have hF := hF.tr k266 (by decide)
        have c284 := k266.gi kM_at0 (by decide) c228
        have c285 := k266.gi kM_at0 (by decide) c229
        have c286 := k266.gi kM_at0 (by decide) c230
        have c287 := k266.gi kM_at3 (by decide) c231
        rcases hg283 with ⟨g267, g268, ⟨x269, c270, rx269, tx269⟩, ⟨x271, c272, rx271, tx271⟩, g273, g274⟩ | ⟨rfl, ⟨x275, c276, rx275, tx275⟩, ⟨x277, c278, rx277, tx277⟩, g279⟩ | ⟨rfl, ⟨x280, c281, rx280, tx280⟩, g282⟩
        · have ex269 : x269.toInt = f9_0_1.toInt := by rw [← c284.symm.trans c270]
          have g273 : (gi w265 1 (x271.toInt).toNat).toInt ≠ 32 := by have q := g273; simp only [c272] at q; omega
          have g274 : (x271.toInt = x221.toInt ∨ (gi w209 1 (x221.toInt).toNat).toInt = 32) := by have q := g274; simp only [c222, c272] at q; omega
          refine lv_bipush (v := 47) hx hb dX12_term_22 (by decide) ?_
          refine lv_icmp_ne (tgt := 75) hx hb dX12_term_24 (by decide) (fun c290 => ?_) (fun c290 => ?_)
          · have c290 : ¬ r263.toInt = (47 : Int) := wk_eqF c290
            refine lv_iconst (v := 1) hx hb dX12_term_75 (by decide) ?_
            exact tk_zret hC hr rfl hlocks hK ⟨hT, hF, (Or.inr (Or.inr (Or.inl ⟨rfl, ⟨f9_0_1, c284, (show 1 ≤ f9_0_1.toInt by omega), (show f9_0_1.toInt ≤ 400 by omega)⟩, ⟨2, c285, (by decide), (by decide)⟩, ⟨f9_0_18, c286, (show 1 ≤ f9_0_18.toInt by omega), (show f9_0_18.toInt ≤ 60 by omega)⟩, (by simp only [cf2_, c287, cf1_, c286]; omega), (by simp only [cf1_, c286]; omega)⟩)))⟩ hw dX12_term_76
          · have c290 : r263.toInt = (47 : Int) := wk_eq.mp c290
            exact J27 x271 H locs ls w265 (show 1 ≤ f9_0_1.toInt by omega) (show f9_0_1.toInt ≤ 400 by omega) (show 0 ≤ x271.toInt by omega) (show x271.toInt ≤ 399 by omega) (show 1 ≤ f9_0_18.toInt by omega) (show f9_0_18.toInt ≤ 60 by omega) (show 0 ≤ f9_3_2.toInt by omega) (show f9_3_2.toInt ≤ 300 by omega) (show 3 * f9_3_2.toInt + 11 ≤ 3 * f2_.toInt + 14 * (f9_0_18.toInt - f1_.toInt) by omega) (show f1_.toInt + 1 ≤ f9_0_18.toInt by omega) (show f9_3_2.toInt ≤ 300 by omega)  hw hT hF c284 c272 c285 c286 c287 (lv_sub hl [0] rfl)
        · have ex275 : x275.toInt = f9_0_1.toInt := by rw [← c284.symm.trans c276]
          have g279 : (x277.toInt = x221.toInt ∨ (gi w209 1 (x221.toInt).toNat).toInt = 32) := by have q := g279; simp only [c222, c278] at q; omega
          refine lv_bipush (v := 47) hx hb dX12_term_22 (by decide) ?_
          refine lv_icmp_ne (tgt := 75) hx hb dX12_term_24 (by decide) (fun _ => ?_) (fun c => absurd c (by decide))
          refine lv_iconst (v := 1) hx hb dX12_term_75 (by decide) ?_
          exact tk_zret hC hr rfl hlocks hK ⟨hT, hF, (Or.inr (Or.inr (Or.inl ⟨rfl, ⟨f9_0_1, c284, (show 1 ≤ f9_0_1.toInt by omega), (show f9_0_1.toInt ≤ 400 by omega)⟩, ⟨2, c285, (by decide), (by decide)⟩, ⟨f9_0_18, c286, (show 1 ≤ f9_0_18.toInt by omega), (show f9_0_18.toInt ≤ 60 by omega)⟩, (by simp only [cf2_, c287, cf1_, c286]; omega), (by simp only [cf1_, c286]; omega)⟩)))⟩ hw dX12_term_76
        · have ex280 : x280.toInt = f9_0_1.toInt := by rw [← c284.symm.trans c281]
          obtain ⟨x288, c289, rx288, tx288⟩ := hT.rdi (lo := 0) (hi := 400) (k := 14) kM_at0 (by decide) rfl
          have g282 : (x288.toInt = x221.toInt ∨ (gi w209 1 (x221.toInt).toNat).toInt = 32) := by have q := g282; simp only [c222, c289] at q; omega
          refine lv_bipush (v := 47) hx hb dX12_term_22 (by decide) ?_
          refine lv_icmp_ne (tgt := 75) hx hb dX12_term_24 (by decide) (fun _ => ?_) (fun c => absurd c (by decide))
          refine lv_iconst (v := 1) hx hb dX12_term_75 (by decide) ?_
          exact tk_zret hC hr rfl hlocks hK ⟨hT, hF, (Or.inr (Or.inr (Or.inl ⟨rfl, ⟨f9_0_1, c284, (show 1 ≤ f9_0_1.toInt by omega), (show f9_0_1.toInt ≤ 400 by omega)⟩, ⟨2, c285, (by decide), (by decide)⟩, ⟨f9_0_18, c286, (show 1 ≤ f9_0_18.toInt by omega), (show f9_0_18.toInt ≤ 60 by omega)⟩, (by simp only [cf2_, c287, cf1_, c286]; omega), (by simp only [cf1_, c286]; omega)⟩)))⟩ hw dX12_term_76
      · have ex224 : x224.toInt = f9_0_1.toInt := by rw [← c228.symm.trans c225]
        obtain ⟨x232, c233, rx232, tx232⟩ := hT.rdi (lo := 0) (hi := 400) (k := 14) kM_at0 (by decide) rfl
        have g226 : (x232.toInt = x205.toInt ∨ (gi w1 1 (x205.toInt).toNat).toInt = 32) := by have q := g226; simp only [c206, c233] at q; omega
        refine lv_bipush (v := 42) hx hb dX12_term_13 (by decide) ?_
        refine lv_icmp_eq (tgt := 27) hx hb dX12_term_15 (by decide) (fun c => absurd c (by decide)) (fun _ => ?_)
        refine lv_aload_n hx hb dX12_term_18 rfl (lv_at hl 0 rfl) ?_
        refine tk_Vi hC hK hw hT hA hE hSR kM_at0 (by decide) rfl (k_X12_see_1 l adK adV dC dI cy ad B (by omega) (by omega) qr s1    w209 H.size hT x232 c233 (show 0 ≤ x232.toInt by omega) (show x232.toInt ≤ 400 by omega)) (cwV 0 hC.2.2.2.2 gX12_term_X12_see rfl rfl rfl (by decide +kernel) ⟨Nat.le_of_ble_eq_true rfl, Nat.le_of_ble_eq_true rfl⟩) rfl hl.1 rfl (Nat.le_of_ble_eq_true rfl) dX12_term_19 (fun r291 w293 H locs hp292 hw => ?_)
        obtain ⟨hT, k294, hg311⟩ := hp292
        have hF := hF.tr k294 (by decide)
        have c312 := k294.gi kM_at0 (by decide) c228
        have c313 := k294.gi kM_at0 (by decide) c229
        have c314 := k294.gi kM_at0 (by decide) c230
        have c315 := k294.gi kM_at3 (by decide) c231
        rcases hg311 with ⟨g295, g296, ⟨x297, c298, rx297, tx297⟩, ⟨x299, c300, rx299, tx299⟩, g301, g302⟩ | ⟨rfl, ⟨x303, c304, rx303, tx303⟩, ⟨x305, c306, rx305, tx305⟩, g307⟩ | ⟨rfl, ⟨x308, c309, rx308, tx308⟩, g310⟩
        · have ex297 : x297.toInt = f9_0_1.toInt := by rw [← c312.symm.trans c298]
          have g301 : (gi w293 1 (x299.toInt).toNat).toInt ≠ 32 := by have q := g301; simp only [c300] at q; omega
          have g302 : (x299.toInt = x232.toInt ∨ (gi w209 1 (x232.toInt).toNat).toInt = 32) := by have q := g302; simp only [c233, c300] at q; omega
          refine lv_bipush (v := 47) hx hb dX12_term_22 (by decide) ?_
          refine lv_icmp_ne (tgt := 75) hx hb dX12_term_24 (by decide) (fun c318 => ?_) (fun c318 => ?_)
          · have c318 : ¬ r291.toInt = (47 : Int) := wk_eqF c318
            refine lv_iconst (v := 1) hx hb dX12_term_75 (by decide) ?_
            exact tk_zret hC hr rfl hlocks hK ⟨hT, hF, (Or.inr (Or.inr (Or.inl ⟨rfl, ⟨f9_0_1, c312, (show 1 ≤ f9_0_1.toInt by omega), (show f9_0_1.toInt ≤ 400 by omega)⟩, ⟨2, c313, (by decide), (by decide)⟩, ⟨f9_0_18, c314, (show 1 ≤ f9_0_18.toInt by omega), (show f9_0_18.toInt ≤ 60 by omega)⟩, (by simp only [cf2_, c315, cf1_, c314]; omega), (by simp only [cf1_, c314]; omega)⟩)))⟩ hw dX12_term_76
          · have c318 : r291.toInt = (47 : Int) := wk_eq.mp c318
            exact J27 x299 H locs ls w293 (show 1 ≤ f9_0_1.toInt by omega) (show f9_0_1.toInt ≤ 400 by omega) (show 0 ≤ x299.toInt by omega) (show x299.toInt ≤ 399 by omega) (show 1 ≤ f9_0_18.toInt by omega) (show f9_0_18.toInt ≤ 60 by omega) (show 0 ≤ f9_3_2.toInt by omega) (show f9_3_2.toInt ≤ 300 by omega) (show 3 * f9_3_2.toInt + 11 ≤ 3 * f2_.toInt + 14 * (f9_0_18.toInt - f1_.toInt) by omega) (show f1_.toInt + 1 ≤ f9_0_18.toInt by omega) (show f9_3_2.toInt ≤ 300 by omega)  hw hT hF c312 c300 c313 c314 c315 (lv_sub hl [0] rfl)
        · have ex303 : x303.toInt = f9_0_1.toInt := by rw [← c312.symm.trans c304]
          have g307 : (x305.toInt = x232.toInt ∨ (gi w209 1 (x232.toInt).toNat).toInt = 32) := by have q := g307; simp only [c233, c306] at q; omega
          refine lv_bipush (v := 47) hx hb dX12_term_22 (by decide) ?_
          refine lv_icmp_ne (tgt := 75) hx hb dX12_term_24 (by decide) (fun _ => ?_) (fun c => absurd c (by decide))
          refine lv_iconst (v := 1) hx hb dX12_term_75 (by decide) ?_
          exact tk_zret hC hr rfl hlocks hK ⟨hT, hF, (Or.inr (Or.inr (Or.inl ⟨rfl, ⟨f9_0_1, c312, (show 1 ≤ f9_0_1.toInt by omega), (show f9_0_1.toInt ≤ 400 by omega)⟩, ⟨2, c313, (by decide), (by decide)⟩, ⟨f9_0_18, c314, (show 1 ≤ f9_0_18.toInt by omega), (show f9_0_18.toInt ≤ 60 by omega)⟩, (by simp only [cf2_, c315, cf1_, c314]; omega), (by simp only [cf1_, c314]; omega)⟩)))⟩ hw dX12_term_76
        · have ex308 : x308.toInt = f9_0_1.toInt := by rw [← c312.symm.trans c309]
          obtain ⟨x316, c317, rx316, tx316⟩ := hT.rdi (lo := 0) (hi := 400) (k := 14) kM_at0 (by decide) rfl
          have g310 : (x316.toInt = x232.toInt ∨ (gi w209 1 (x232.toInt).toNat).toInt = 32) := by have q := g310; simp only [c233, c317] at q; omega
          refine lv_bipush (v := 47) hx hb dX12_term_22 (by decide) ?_
          refine lv_icmp_ne (tgt := 75) hx hb dX12_term_24 (by decide) (fun _ => ?_) (fun c => absurd c (by decide))
          refine lv_iconst (v := 1) hx hb dX12_term_75 (by decide) ?_
          exact tk_zret hC hr rfl hlocks hK ⟨hT, hF, (Or.inr (Or.inr (Or.inr ⟨rfl, ⟨f9_0_1, c312, (show 0 ≤ f9_0_1.toInt by omega), (show f9_0_1.toInt ≤ 400 by omega)⟩, ⟨2, c313, (by decide), (by decide)⟩, ⟨f9_0_18, c314, (show 1 ≤ f9_0_18.toInt by omega), (show f9_0_18.toInt ≤ 60 by omega)⟩, (by simp only [cf2_, c315, cf1_, c314]; omega), (by simp only [cf1_, c314]; omega)⟩)))⟩ hw dX12_term_76
  refine lv_aload_n hx hb dX12_term_0 rfl (lv_at hl 0 rfl) ?_
  refine tk_Vi hC hK hw hT hA hE hSR kM_at0 (by decide) rfl (k_X12_value_3 l adK adV dC dI cy ad B (by omega) (by omega) qr s1    w0 s.heap.size hT cf0_ f1_ cf1_ (show 0 ≤ f1_.toInt by omega) (show f1_.toInt ≤ 60 by omega) f2_ cf2_ (show 0 ≤ f2_.toInt by omega) (show f2_.toInt ≤ 400 by omega) (show f2_.toInt ≤ 399 by omega)) (cwV 0 hC.2.2.2.2 gX12_term_X12_value rfl rfl rfl (by decide +kernel) ⟨Nat.le_of_ble_eq_true rfl, Nat.le_of_ble_eq_true rfl⟩) rfl hl.1 rfl (Nat.le_of_ble_eq_true rfl) dX12_term_1 (fun r319 w321 H locs hp320 hw => ?_)
  obtain ⟨hT, k322, hg351⟩ := hp320
  have hF := hF.tr k322 (by decide)
  have c352 := k322.gi kM_at0 (by decide) cf0_
  rcases hg351 with ⟨rfl, ⟨x323, c324, rx323, tx323⟩, ⟨x325, c326, rx325, tx325⟩, ⟨x327, c328, rx327, tx327⟩⟩ | ⟨rfl, ⟨x329, c330, rx329, tx329⟩, ⟨x331, c332, rx331, tx331⟩, ⟨x333, c334, rx333, tx333⟩⟩ | ⟨rfl, ⟨x335, c336, rx335, tx335⟩, ⟨x337, c338, rx337, tx337⟩, ⟨x339, c340, rx339, tx339⟩, g341, g342⟩ | ⟨rfl, ⟨x343, c344, rx343, tx343⟩, ⟨x345, c346, rx345, tx345⟩, ⟨x347, c348, rx347, tx347⟩, g349, g350⟩
  · have ex327 : x327.toInt = (2 : Int) := by rw [show x327 = 2 from c328.symm.trans c352]; decide
    obtain ⟨x353, c354, rx353, tx353⟩ := hT.rda (lo := 0) (hi := 400) (i := 2) kM_at3 rfl rfl (by decide)
    obtain ⟨x355, c356, rx355, tx355⟩ := hT.rdi (lo := 0) (hi := 60) (k := 18) kM_at0 (by decide) rfl
    refine lv_if_ne (tgt := 9) hx hb dX12_term_4 (by decide) (fun c => absurd (by decide) c) (fun _ => ?_)
    refine lv_iconst (v := 0) hx hb dX12_term_7 (by decide) ?_
    exact tk_zret hC hr rfl hlocks hK ⟨hT, hF, (Or.inl ⟨rfl, ⟨x323, c324, (show 1 ≤ x323.toInt by omega), (show x323.toInt ≤ 400 by omega)⟩, ⟨x325, c326, (show 1 ≤ x325.toInt by omega), (show x325.toInt ≤ 3205 by omega)⟩, ⟨2, c352, (by decide), (by decide)⟩⟩)⟩ hw dX12_term_8
  · have ex333 : x333.toInt = (2 : Int) := by rw [show x333 = 2 from c334.symm.trans c352]; decide
    obtain ⟨x357, c358, rx357, tx357⟩ := hT.rda (lo := 0) (hi := 400) (i := 2) kM_at3 rfl rfl (by decide)
    obtain ⟨x359, c360, rx359, tx359⟩ := hT.rdi (lo := 0) (hi := 60) (k := 18) kM_at0 (by decide) rfl
    refine lv_if_ne (tgt := 9) hx hb dX12_term_4 (by decide) (fun c => absurd (by decide) c) (fun _ => ?_)
    refine lv_iconst (v := 0) hx hb dX12_term_7 (by decide) ?_
    exact tk_zret hC hr rfl hlocks hK ⟨hT, hF, (Or.inr (Or.inl ⟨rfl, ⟨x329, c330, (show 0 ≤ x329.toInt by omega), (show x329.toInt ≤ 400 by omega)⟩, ⟨x331, c332, (show 1 ≤ x331.toInt by omega), (show x331.toInt ≤ 3205 by omega)⟩, ⟨2, c352, (by decide), (by decide)⟩⟩))⟩ hw dX12_term_8
  · have ex337 : x337.toInt = (2 : Int) := by rw [show x337 = 2 from c338.symm.trans c352]; decide
    obtain ⟨x361, c362, rx361, tx361⟩ := hT.rda (lo := 0) (hi := 400) (i := 2) kM_at3 rfl rfl (by decide)
    have g341 : x361.toInt = f2_.toInt + 1 := by have q := g341; simp only [cf2_, c362] at q; omega
    have g342 : x339.toInt = f1_.toInt + 1 := by have q := g342; simp only [cf1_, c340] at q; omega
    refine lv_if_ne (tgt := 9) hx hb dX12_term_4 (by decide) (fun _ => ?_) (fun c => absurd c (by decide))
    exact L9 ((60 - x339.toInt).toNat + 1) x335 x339 x361 H locs ls w321 (show 0 ≤ x335.toInt by omega) (show x335.toInt ≤ 400 by omega) (show 1 ≤ x339.toInt by omega) (show x339.toInt ≤ 60 by omega) (show 0 ≤ x361.toInt by omega) (show x361.toInt ≤ 300 by omega) (show 3 * x361.toInt + 11 ≤ 3 * f2_.toInt + 14 * (x339.toInt - f1_.toInt) by omega) (show f1_.toInt + 1 ≤ x339.toInt by omega) (show x361.toInt ≤ 300 by omega) (Nat.lt_succ_self _) hw hT hF c336 c352 c340 c362 (lv_sub hl [0] rfl)
  · have ex345 : x345.toInt = (2 : Int) := by rw [show x345 = 2 from c346.symm.trans c352]; decide
    obtain ⟨x363, c364, rx363, tx363⟩ := hT.rda (lo := 0) (hi := 400) (i := 2) kM_at3 rfl rfl (by decide)
    have g349 : x363.toInt = f2_.toInt + 1 := by have q := g349; simp only [cf2_, c364] at q; omega
    have g350 : x347.toInt = f1_.toInt + 1 := by have q := g350; simp only [cf1_, c348] at q; omega
    refine lv_if_ne (tgt := 9) hx hb dX12_term_4 (by decide) (fun _ => ?_) (fun c => absurd c (by decide))
    exact L9 ((60 - x347.toInt).toNat + 1) x343 x347 x363 H locs ls w321 (show 0 ≤ x343.toInt by omega) (show x343.toInt ≤ 400 by omega) (show 1 ≤ x347.toInt by omega) (show x347.toInt ≤ 60 by omega) (show 0 ≤ x363.toInt by omega) (show x363.toInt ≤ 300 by omega) (show 3 * x363.toInt + 11 ≤ 3 * f2_.toInt + 14 * (x347.toInt - f1_.toInt) by omega) (show f1_.toInt + 1 ≤ x347.toInt by omega) (show x363.toInt ≤ 300 by omega) (Nat.lt_succ_self _) hw hT hF c344 c352 c348 c364 (lv_sub hl [0] rfl)
abbrev P_X12_sum_3 (ad : Nat → Nat) (cy : Nat → ClassId) (B : Int) (qr : Nat) (s1 : Int)  (w0 : va_W) : Int32 → va_W → Prop := fun r u => TW ksM ad cy B qr 12 u ∧ FE ksM [(12, 14, 14), (12, 15, 15), (12, 16, 16), (12, 18, 18), (61, 0, 2400), (62, 0, 7)] w0 u ∧ ((r = 0 ∧ (∃ y : Int32, gi u 0 1 = y ∧ 1 ≤ y.toInt ∧ y.toInt ≤ 400) ∧ (∃ y : Int32, gi u 0 15 = y ∧ 1 ≤ y.toInt ∧ y.toInt ≤ 3205) ∧ (∃ y : Int32, gi u 0 17 = y ∧ 2 ≤ y.toInt ∧ y.toInt ≤ 2)) ∨ (r = 0 ∧ (∃ y : Int32, gi u 0 1 = y ∧ 0 ≤ y.toInt ∧ y.toInt ≤ 400) ∧ (∃ y : Int32, gi u 0 15 = y ∧ 1 ≤ y.toInt ∧ y.toInt ≤ 3205) ∧ (∃ y : Int32, gi u 0 17 = y ∧ 2 ≤ y.toInt ∧ y.toInt ≤ 2)) ∨ (r = 1 ∧ (∃ y : Int32, gi u 0 1 = y ∧ 1 ≤ y.toInt ∧ y.toInt ≤ 400) ∧ (∃ y : Int32, gi u 0 17 = y ∧ 2 ≤ y.toInt ∧ y.toInt ≤ 2) ∧ (∃ y : Int32, gi u 0 18 = y ∧ 1 ≤ y.toInt ∧ y.toInt ≤ 60) ∧ (3 * (gi u 3 2).toInt + 11 ≤ 3 * (gi w0 3 2).toInt + 14 * ((gi u 0 18).toInt - (gi w0 0 18).toInt)) ∧ ((gi w0 0 18).toInt + 1 ≤ (gi u 0 18).toInt)) ∨ (r = 1 ∧ (∃ y : Int32, gi u 0 1 = y ∧ 0 ≤ y.toInt ∧ y.toInt ≤ 400) ∧ (∃ y : Int32, gi u 0 17 = y ∧ 2 ≤ y.toInt ∧ y.toInt ≤ 2) ∧ (∃ y : Int32, gi u 0 18 = y ∧ 1 ≤ y.toInt ∧ y.toInt ≤ 60) ∧ (3 * (gi u 3 2).toInt + 11 ≤ 3 * (gi w0 3 2).toInt + 14 * ((gi u 0 18).toInt - (gi w0 0 18).toInt)) ∧ ((gi w0 0 18).toInt + 1 ≤ (gi u 0 18).toInt)))
set_option maxHeartbeats 4000000 in
set_option maxRecDepth 100000 in
theorem k_X12_sum_3 (l : Launch) (adK adV : Nat → Nat) (dC : Nat → ClassId) (dI : Nat → Nat → Nat) (cy : Nat → ClassId) (ad : Nat → Nat) (B : Int) (hB0 : 100000 ≤ B) (hB1 : B ≤ 1073741824) (qr : Nat) (s1 : Int)   (w0 : va_W) (sz : Nat) (hT : TW ksM ad cy B qr 12 w0) (cf0_ : gi w0 0 17 = 2) (f1_ : Int32) (cf1_ : gi w0 0 18 = f1_) (rf1_ : 0 ≤ f1_.toInt) (tf1_ : f1_.toInt ≤ 60) (f2_ : Int32) (cf2_ : gi w0 3 2 = f2_) (rf2_ : 0 ≤ f2_.toInt) (tf2_ : f2_.toInt ≤ 400) (pr0_ : 3 * f2_.toInt ≤ 14 * f1_.toInt + 60) (pr1_ : f2_.toInt ≤ 300) : Met l yX12_sum wsX12_sum ({ frames := 6, cells := 0, slots := 0, locals := 121 }) (va_Pc [.ref (ad 0)] (wpreS adK adV dC dI cy sz w0)) (va_Qi (P_X12_sum_3 ad cy B qr s1  w0) (fun u : va_W => wpost dC dI cy (va_A w0 sz) u) (va_A w0 sz)) 0 0 (va_A w0 sz) := by
  refine Met.ofW (cc := cX12_sum) (maxL := 2) (ret := (some .boolean)) (by decide) rfl ?_
  intro p e s m args below meth c s₁ Bk hml hv
  obtain ⟨rfl, ⟨hsz, hP, hK, hD0⟩, hE, hSR⟩ := hv
  have hx := Bk.exec
  have hb := Bk.bytes
  have hr := Bk.returns
  have hlocks := Bk.notSynchronized
  have hC : CallFix p m c cX12_sum 2 s _ wsX12_sum RX12 := ⟨hx, hb, hml, findClass_of_methodNamed Bk.named, atoms_spec (ws := wsX12_sum) Bk.pre⟩
  subst hsz
  have hD := hD0.self (sz := s.heap.size)
  generalize hAe : va_A w0 s.heap.size = A at hD hE ⊢
  have hA : ∀ q : Nat, s.heap.size ≤ q → A q := fun q h => by rw [← hAe]; exact Or.inr h
  have hw : Wd dC dI A s.heap s.heap [] w0 := ⟨hP, hD, va_S.rf⟩
  have hF : FE ksM [(12, 14, 14), (12, 15, 15), (12, 16, 16), (12, 18, 18), (61, 0, 2400), (62, 0, 7)] w0 w0 := FE.rf
  have hl := lv_entry ([.ref (ad 0)]) (n := 2) (Nat.le_of_ble_eq_true rfl)
  rw [lg_entry_eq]
  generalize (lg_sl ([.ref (ad 0)]) ++ List.replicate (2 - (lg_sl ([.ref (ad 0)])).length) Slot.unset).toArray = ls at hl ⊢
  have hl : lv_has ls 2 [(0, .ref (ad 0))] := hl
  generalize hloc : ([] : List Loc) = locs at hw ⊢
  have hinX12 : ∀ w ∈ u_ws RX12 TX12 42, w ∈ wsX12_sum := fun _ h => List.mem_cons_of_mem _ (List.mem_append_right _ (h))
  have L9 : ∀ (n9 : Nat) (f9_0_1 : Int32) (f9_0_18 : Int32) (f9_3_2 : Int32) (H : Heap) (locs : List Loc) (ls : Array Slot) (w1 : va_W), 0 ≤ f9_0_1.toInt → f9_0_1.toInt ≤ 400 → 1 ≤ f9_0_18.toInt → f9_0_18.toInt ≤ 60 → 0 ≤ f9_3_2.toInt → f9_3_2.toInt ≤ 300 → (3 * f9_3_2.toInt + 11 ≤ 3 * f2_.toInt + 14 * (f9_0_18.toInt - f1_.toInt)) → (f1_.toInt + 1 ≤ f9_0_18.toInt) → (f9_3_2.toInt ≤ 300) → (60 - f9_0_18.toInt).toNat < n9 → Wd dC dI A s.heap H locs w1 → TW ksM ad cy B qr 12 w1 → FE ksM [(12, 14, 14), (12, 15, 15), (12, 16, 16), (12, 18, 18), (61, 0, 2400), (62, 0, 7)] w0 w1 → gi w1 0 1 = f9_0_1 → gi w1 0 17 = 2 → gi w1 0 18 = f9_0_18 → gi w1 3 2 = f9_3_2 → lv_has ls 2 [(0, .ref (ad 0))] → W p l e ({ frames := 6, cells := 0, slots := 0, locals := 121 }) s m (List.toArray [.ref (ad 0)]) below meth c H locs 0 0 (MQ below (va_Qi (P_X12_sum_3 ad cy B qr s1  w0) (fun u : va_W => wpost dC dI cy A u) A) (List.toArray [.ref (ad 0)]) s 0 0 A) (F0 m 9 ls []) := by
    intro n9
    induction n9 with
    | zero => intro f9_0_1 f9_0_18 f9_3_2 H locs ls w1 r2 t3 r6 t7 r9 t10 hcr9_0 hcr9_1 hcr9_2 hm9 hw hT hF c4 c5 c8 c11 hl; omega
    | succ n9 ih9 =>
      intro f9_0_1 f9_0_18 f9_3_2 H locs ls w1 r2 t3 r6 t7 r9 t10 hcr9_0 hcr9_1 hcr9_2 hm9 hw hT hF c4 c5 c8 c11 hl
      have J27 : ∀ (f27_0_14 : Int32) (H : Heap) (locs : List Loc) (ls : Array Slot) (w12 : va_W), 1 ≤ f9_0_1.toInt → f9_0_1.toInt ≤ 400 → 0 ≤ f27_0_14.toInt → f27_0_14.toInt ≤ 399 → 1 ≤ f9_0_18.toInt → f9_0_18.toInt ≤ 60 → 0 ≤ f9_3_2.toInt → f9_3_2.toInt ≤ 300 → (3 * f9_3_2.toInt + 11 ≤ 3 * f2_.toInt + 14 * (f9_0_18.toInt - f1_.toInt)) → (f1_.toInt + 1 ≤ f9_0_18.toInt) → (f9_3_2.toInt ≤ 300) → Wd dC dI A s.heap H locs w12 → TW ksM ad cy B qr 12 w12 → FE ksM [(12, 14, 14), (12, 15, 15), (12, 16, 16), (12, 18, 18), (61, 0, 2400), (62, 0, 7)] w0 w12 → gi w12 0 1 = f9_0_1 → gi w12 0 14 = f27_0_14 → gi w12 0 17 = 2 → gi w12 0 18 = f9_0_18 → gi w12 3 2 = f9_3_2 → lv_has ls 2 [(0, .ref (ad 0))] → W p l e ({ frames := 6, cells := 0, slots := 0, locals := 121 }) s m (List.toArray [.ref (ad 0)]) below meth c H locs 0 0 (MQ below (va_Qi (P_X12_sum_3 ad cy B qr s1  w0) (fun u : va_W => wpost dC dI cy A u) A) (List.toArray [.ref (ad 0)]) s 0 0 A) (F0 m 27 ls []) := by
        intro f27_0_14 H locs ls w12 r13 t14 r16 t17 r20 t21 r23 t24 hcr27_0 hcr27_1 hcr27_2 hw hT hF c15 c18 c19 c22 c25 hl
        refine lv_aload_n hx hb dX12_sum_27 rfl (lv_at hl 0 rfl) ?_
        refine tk_getA hC hK hw hT hinX12 kM_at0 (by decide) rfl 0 (by decide) (List.mem_of_getElem? (i := 1) rfl) rfl rfl dX12_sum_28 ?_
        refine lv_aload_n hx hb dX12_sum_31 rfl (lv_at hl 0 rfl) ?_
        refine tk_geti hC hK hw hT hinX12 kM_at0 (by decide) rfl 14 (by decide) (List.mem_of_getElem? (i := 2) rfl) rfl rfl dX12_sum_32 (fun x26 c27 rx26 tx26 => ?_)
        refine wk_top f27_0_14 (c27.symm.trans c18) ?_
        refine tk_bald hC hK hw hT kM_at1 rfl rfl (show 0 ≤ f27_0_14.toInt by omega) (show f27_0_14.toInt < 400 by omega) dX12_sum_35 (fun x28 c29 rx28 tx28 => ?_)
        have c29 : gi w12 1 (f27_0_14.toInt).toNat = x28 := (congrArg (gi w12 1) (congrArg Int.toNat (show f27_0_14.toInt = f27_0_14.toInt by omega))).trans c29
        refine lv_bipush (v := 43) hx hb dX12_sum_36 (by decide) ?_
        refine lv_icmp_ne (tgt := 45) hx hb dX12_sum_38 (by decide) (fun c30 => ?_) (fun c30 => ?_)
        · have c30 : ¬ x28.toInt = (43 : Int) := wk_eqF c30
          refine lv_iconst (v := 3) hx hb dX12_sum_45 (by decide) ?_
          refine lv_istore_n (lv' := [(1, .int 3), (0, .ref (ad 0))]) hx hb dX12_sum_46 rfl hl (by decide) rfl (fun ls hl => ?_)
          refine lv_aload_n hx hb dX12_sum_47 rfl (lv_at hl 1 rfl) ?_
          refine lv_dup hx hb dX12_sum_48 rfl ?_
          refine tk_geti hC hK hw hT hinX12 kM_at0 (by decide) rfl 14 (by decide) (List.mem_of_getElem? (i := 2) rfl) rfl rfl dX12_sum_49 (fun x31 c32 rx31 tx31 => ?_)
          refine wk_top f27_0_14 (c32.symm.trans c18) ?_
          refine lv_iconst (v := 1) hx hb dX12_sum_52 (by decide) ?_
          refine lv_iadd hx hb dX12_sum_53 ?_
          refine lv_topi (fun x33 ex33 => ?_)
          have ex33 : x33.toInt = f27_0_14.toInt + (1 : Int) := by rw [ex33]; exact wk_add (show (-2147483648) ≤ f27_0_14.toInt + (1 : Int) by omega) (show f27_0_14.toInt + (1 : Int) ≤ 2147483647 by omega)
          refine tk_puti hC hK hw hT hinX12 tyX12_ok nmX12 kM_at0 (by decide) rfl rfl 14 (by decide) (List.mem_of_getElem? (i := 2) rfl) rfl rfl rfl rfl (show 0 ≤ x33.toInt by omega) (show x33.toInt ≤ 400 by omega) dX12_sum_54 (fun H locs w34 hw hT k36 c35 => ?_)
          have hF := hF.put kM_at0 (k := 14) (by decide) k36
          have c37 := k36.gi (Or.inr (by decide)) c15
          have c38 := k36.gi (Or.inr (by decide)) c19
          have c39 := k36.gi (Or.inr (by decide)) c22
          have c40 := k36.gi (Or.inr (by decide)) c25
          have c41 := k36.gi (Or.inl (tk_ne kM_at1 kM_at0 (by decide))) c29
          refine lv_aload_n hx hb dX12_sum_57 rfl (lv_at hl 1 rfl) ?_
          refine tk_Vi hC hK hw hT hA hE hSR kM_at0 (by decide) rfl (k_X12_term_3 l adK adV dC dI cy ad B (by omega) (by omega) qr s1    w34 H.size hT c38 f9_0_18 c39 (show 0 ≤ f9_0_18.toInt by omega) (show f9_0_18.toInt ≤ 60 by omega) f9_3_2 c40 (show 0 ≤ f9_3_2.toInt by omega) (show f9_3_2.toInt ≤ 400 by omega) (show 3 * f9_3_2.toInt ≤ 14 * f9_0_18.toInt + 60 by omega) (show f9_3_2.toInt ≤ 300 by omega)) (cwV 0 hC.2.2.2.2 gX12_sum_X12_term rfl rfl rfl (by decide +kernel) ⟨Nat.le_of_ble_eq_true rfl, Nat.le_of_ble_eq_true rfl⟩) rfl hl.1 rfl (Nat.le_of_ble_eq_true rfl) dX12_sum_58 (fun r42 w44 H locs hp43 hw => ?_)
          obtain ⟨hT, k45, hg74⟩ := hp43
          have hF := hF.tr k45 (by decide)
          have c75 := k45.gi kM_at0 (by decide) c37
          have c76 := k45.gi kM_at0 (by decide) c38
          have c77 := k45.gi kM_at1 rfl c41
          rcases hg74 with ⟨rfl, ⟨x46, c47, rx46, tx46⟩, ⟨x48, c49, rx48, tx48⟩, ⟨x50, c51, rx50, tx50⟩⟩ | ⟨rfl, ⟨x52, c53, rx52, tx52⟩, ⟨x54, c55, rx54, tx54⟩, ⟨x56, c57, rx56, tx56⟩⟩ | ⟨rfl, ⟨x58, c59, rx58, tx58⟩, ⟨x60, c61, rx60, tx60⟩, ⟨x62, c63, rx62, tx62⟩, g64, g65⟩ | ⟨rfl, ⟨x66, c67, rx66, tx66⟩, ⟨x68, c69, rx68, tx68⟩, ⟨x70, c71, rx70, tx70⟩, g72, g73⟩
          · have ex46 : x46.toInt = f9_0_1.toInt := by rw [← c75.symm.trans c47]
            have ex50 : x50.toInt = (2 : Int) := by rw [show x50 = 2 from c51.symm.trans c76]; decide
            obtain ⟨x78, c79, rx78, tx78⟩ := hT.rda (lo := 0) (hi := 400) (i := 2) kM_at3 rfl rfl (by decide)
            obtain ⟨x80, c81, rx80, tx80⟩ := hT.rdi (lo := 0) (hi := 60) (k := 18) kM_at0 (by decide) rfl
            refine lv_if_ne (tgt := 66) hx hb dX12_sum_61 (by decide) (fun c => absurd (by decide) c) (fun _ => ?_)
            refine lv_iconst (v := 0) hx hb dX12_sum_64 (by decide) ?_
            exact tk_zret hC hr rfl hlocks hK ⟨hT, hF, (Or.inl ⟨rfl, ⟨f9_0_1, c75, (show 1 ≤ f9_0_1.toInt by omega), (show f9_0_1.toInt ≤ 400 by omega)⟩, ⟨x48, c49, (show 1 ≤ x48.toInt by omega), (show x48.toInt ≤ 3205 by omega)⟩, ⟨2, c76, (by decide), (by decide)⟩⟩)⟩ hw dX12_sum_65
          · have ex52 : x52.toInt = f9_0_1.toInt := by rw [← c75.symm.trans c53]
            have ex56 : x56.toInt = (2 : Int) := by rw [show x56 = 2 from c57.symm.trans c76]; decide
            obtain ⟨x82, c83, rx82, tx82⟩ := hT.rda (lo := 0) (hi := 400) (i := 2) kM_at3 rfl rfl (by decide)
            obtain ⟨x84, c85, rx84, tx84⟩ := hT.rdi (lo := 0) (hi := 60) (k := 18) kM_at0 (by decide) rfl
            refine lv_if_ne (tgt := 66) hx hb dX12_sum_61 (by decide) (fun c => absurd (by decide) c) (fun _ => ?_)
            refine lv_iconst (v := 0) hx hb dX12_sum_64 (by decide) ?_
            exact tk_zret hC hr rfl hlocks hK ⟨hT, hF, (Or.inl ⟨rfl, ⟨f9_0_1, c75, (show 1 ≤ f9_0_1.toInt by omega), (show f9_0_1.toInt ≤ 400 by omega)⟩, ⟨x54, c55, (show 1 ≤ x54.toInt by omega), (show x54.toInt ≤ 3205 by omega)⟩, ⟨2, c76, (by decide), (by decide)⟩⟩)⟩ hw dX12_sum_65
          · have ex58 : x58.toInt = f9_0_1.toInt := by rw [← c75.symm.trans c59]
            have ex60 : x60.toInt = (2 : Int) := by rw [show x60 = 2 from c61.symm.trans c76]; decide
            obtain ⟨x86, c87, rx86, tx86⟩ := hT.rda (lo := 0) (hi := 400) (i := 2) kM_at3 rfl rfl (by decide)
            have g64 : 3 * x86.toInt + 11 ≤ 3 * f9_3_2.toInt + 14 * (x62.toInt - f9_0_18.toInt) := by have q := g64; simp only [c40, c87, c39, c63] at q; omega
            have g65 : f9_0_18.toInt + 1 ≤ x62.toInt := by have q := g65; simp only [c39, c63] at q; omega
            refine lv_if_ne (tgt := 66) hx hb dX12_sum_61 (by decide) (fun _ => ?_) (fun c => absurd c (by decide))
            refine lv_aload_n hx hb dX12_sum_66 rfl (lv_at hl 1 rfl) ?_
            refine lv_iload_n hx hb dX12_sum_67 rfl (lv_at hl 0 rfl) ?_
            refine lv_iconst (v := 0) hx hb dX12_sum_68 (by decide) ?_
            refine tk_Vv hC hK hw hT hA hE hSR kM_at0 (by decide) rfl (k_X12_puts_6 l adK adV dC dI cy ad B (by omega) (by omega) qr s1   3 (by decide) (by decide) 0 w44 H.size hT c76 x86 c87 (show 0 ≤ x86.toInt by omega) (show x86.toInt ≤ 400 by omega) (show x86.toInt ≤ 399 by omega)) (cwV 2 hC.2.2.2.2 gX12_sum_X12_puts rfl rfl rfl (by decide +kernel) ⟨Nat.le_of_ble_eq_true rfl, Nat.le_of_ble_eq_true rfl⟩) rfl hl.1 rfl (Nat.le_of_ble_eq_true rfl) dX12_sum_69 (fun w92 H locs hp91 hw => ?_)
            obtain ⟨hT, k93, hg97⟩ := hp91
            have hF := hF.tr k93 (by decide)
            have c98 := k93.gi kM_at0 (by decide) c75
            have c99 := k93.gi kM_at0 (by decide) c76
            have c100 := k93.gi kM_at1 rfl c77
            have c101 := k93.gi kM_at0 (by decide) c63
            obtain ⟨⟨x94, c95, rx94, tx94⟩, g96⟩ := hg97
            have ex94 : x94.toInt = (2 : Int) := by rw [show x94 = 2 from c95.symm.trans c99]; decide
            obtain ⟨x102, c103, rx102, tx102⟩ := hT.rda (lo := 0) (hi := 400) (i := 2) kM_at3 rfl rfl (by decide)
            have g96 : x102.toInt = x86.toInt + 1 := by have q := g96; simp only [c87, c103] at q; omega
            refine lv_goto (tgt := 9) hx hb dX12_sum_72 (by decide) ?_
            exact ih9 f9_0_1 x62 x102 H locs ls w92 (show 0 ≤ f9_0_1.toInt by omega) (show f9_0_1.toInt ≤ 400 by omega) (show 1 ≤ x62.toInt by omega) (show x62.toInt ≤ 60 by omega) (show 0 ≤ x102.toInt by omega) (show x102.toInt ≤ 300 by omega) (show 3 * x102.toInt + 11 ≤ 3 * f2_.toInt + 14 * (x62.toInt - f1_.toInt) by omega) (show f1_.toInt + 1 ≤ x62.toInt by omega) (show x102.toInt ≤ 300 by omega) (show (60 - x62.toInt).toNat < n9 by omega) hw hT hF c98 c99 c101 c103 (lv_sub hl [1] rfl)
          · have ex66 : x66.toInt = f9_0_1.toInt := by rw [← c75.symm.trans c67]
            have ex68 : x68.toInt = (2 : Int) := by rw [show x68 = 2 from c69.symm.trans c76]; decide
            obtain ⟨x88, c89, rx88, tx88⟩ := hT.rda (lo := 0) (hi := 400) (i := 2) kM_at3 rfl rfl (by decide)
            have g72 : 3 * x88.toInt + 11 ≤ 3 * f9_3_2.toInt + 14 * (x70.toInt - f9_0_18.toInt) := by have q := g72; simp only [c40, c89, c39, c71] at q; omega
            have g73 : f9_0_18.toInt + 1 ≤ x70.toInt := by have q := g73; simp only [c39, c71] at q; omega
            refine lv_if_ne (tgt := 66) hx hb dX12_sum_61 (by decide) (fun _ => ?_) (fun c => absurd c (by decide))
            refine lv_aload_n hx hb dX12_sum_66 rfl (lv_at hl 1 rfl) ?_
            refine lv_iload_n hx hb dX12_sum_67 rfl (lv_at hl 0 rfl) ?_
            refine lv_iconst (v := 0) hx hb dX12_sum_68 (by decide) ?_
            refine tk_Vv hC hK hw hT hA hE hSR kM_at0 (by decide) rfl (k_X12_puts_6 l adK adV dC dI cy ad B (by omega) (by omega) qr s1   3 (by decide) (by decide) 0 w44 H.size hT c76 x88 c89 (show 0 ≤ x88.toInt by omega) (show x88.toInt ≤ 400 by omega) (show x88.toInt ≤ 399 by omega)) (cwV 2 hC.2.2.2.2 gX12_sum_X12_puts rfl rfl rfl (by decide +kernel) ⟨Nat.le_of_ble_eq_true rfl, Nat.le_of_ble_eq_true rfl⟩) rfl hl.1 rfl (Nat.le_of_ble_eq_true rfl) dX12_sum_69 (fun w106 H locs hp105 hw => ?_)
            obtain ⟨hT, k107, hg111⟩ := hp105
            have hF := hF.tr k107 (by decide)
            have c112 := k107.gi kM_at0 (by decide) c75
            have c113 := k107.gi kM_at0 (by decide) c76
            have c114 := k107.gi kM_at1 rfl c77
            have c115 := k107.gi kM_at0 (by decide) c71
            obtain ⟨⟨x108, c109, rx108, tx108⟩, g110⟩ := hg111
            have ex108 : x108.toInt = (2 : Int) := by rw [show x108 = 2 from c109.symm.trans c113]; decide
            obtain ⟨x116, c117, rx116, tx116⟩ := hT.rda (lo := 0) (hi := 400) (i := 2) kM_at3 rfl rfl (by decide)
            have g110 : x116.toInt = x88.toInt + 1 := by have q := g110; simp only [c89, c117] at q; omega
            refine lv_goto (tgt := 9) hx hb dX12_sum_72 (by decide) ?_
            exact ih9 f9_0_1 x70 x116 H locs ls w106 (show 0 ≤ f9_0_1.toInt by omega) (show f9_0_1.toInt ≤ 400 by omega) (show 1 ≤ x70.toInt by omega) (show x70.toInt ≤ 60 by omega) (show 0 ≤ x116.toInt by omega) (show x116.toInt ≤ 300 by omega) (show 3 * x116.toInt + 11 ≤ 3 * f2_.toInt + 14 * (x70.toInt - f1_.toInt) by omega) (show f1_.toInt + 1 ≤ x70.toInt by omega) (show x116.toInt ≤ 300 by omega) (show (60 - x70.toInt).toNat < n9 by omega) hw hT hF c112 c113 c115 c117 (lv_sub hl [1] rfl)
        · have c30 : x28.toInt = (43 : Int) := wk_eq.mp c30
          refine lv_iconst (v := 2) hx hb dX12_sum_41 (by decide) ?_
          refine lv_goto (tgt := 46) hx hb dX12_sum_42 (by decide) ?_
          refine lv_istore_n (lv' := [(1, .int 2), (0, .ref (ad 0))]) hx hb dX12_sum_46 rfl hl (by decide) rfl (fun ls hl => ?_)
          refine lv_aload_n hx hb dX12_sum_47 rfl (lv_at hl 1 rfl) ?_
          refine lv_dup hx hb dX12_sum_48 rfl ?_
          refine tk_geti hC hK hw hT hinX12 kM_at0 (by decide) rfl 14 (by decide) (List.mem_of_getElem? (i := 2) rfl) rfl rfl dX12_sum_49 (fun x118 c119 rx118 tx118 => ?_)
          refine wk_top f27_0_14 (c119.symm.trans c18) ?_
          refine lv_iconst (v := 1) hx hb dX12_sum_52 (by decide) ?_
          refine lv_iadd hx hb dX12_sum_53 ?_
          refine lv_topi (fun x120 ex120 => ?_)
          have ex120 : x120.toInt = f27_0_14.toInt + (1 : Int) := by rw [ex120]; exact wk_add (show (-2147483648) ≤ f27_0_14.toInt + (1 : Int) by omega) (show f27_0_14.toInt + (1 : Int) ≤ 2147483647 by omega)
          refine tk_puti hC hK hw hT hinX12 tyX12_ok nmX12 kM_at0 (by decide) rfl rfl 14 (by decide) (List.mem_of_getElem? (i := 2) rfl) rfl rfl rfl rfl (show 0 ≤ x120.toInt by omega) (show x120.toInt ≤ 400 by omega) dX12_sum_54 (fun H locs w121 hw hT k123 c122 => ?_)
          have hF := hF.put kM_at0 (k := 14) (by decide) k123
          have c124 := k123.gi (Or.inr (by decide)) c15
          have c125 := k123.gi (Or.inr (by decide)) c19
          have c126 := k123.gi (Or.inr (by decide)) c22
          have c127 := k123.gi (Or.inr (by decide)) c25
          have c128 := k123.gi (Or.inl (tk_ne kM_at1 kM_at0 (by decide))) c29
          refine lv_aload_n hx hb dX12_sum_57 rfl (lv_at hl 1 rfl) ?_
          refine tk_Vi hC hK hw hT hA hE hSR kM_at0 (by decide) rfl (k_X12_term_3 l adK adV dC dI cy ad B (by omega) (by omega) qr s1    w121 H.size hT c125 f9_0_18 c126 (show 0 ≤ f9_0_18.toInt by omega) (show f9_0_18.toInt ≤ 60 by omega) f9_3_2 c127 (show 0 ≤ f9_3_2.toInt by omega) (show f9_3_2.toInt ≤ 400 by omega) (show 3 * f9_3_2.toInt ≤ 14 * f9_0_18.toInt + 60 by omega) (show f9_3_2.toInt ≤ 300 by omega)) (cwV 0 hC.2.2.2.2 gX12_sum_X12_term rfl rfl rfl (by decide +kernel) ⟨Nat.le_of_ble_eq_true rfl, Nat.le_of_ble_eq_true rfl⟩) rfl hl.1 rfl (Nat.le_of_ble_eq_true rfl) dX12_sum_58 (fun r129 w131 H locs hp130 hw => ?_)
          obtain ⟨hT, k132, hg161⟩ := hp130
          have hF := hF.tr k132 (by decide)
          have c162 := k132.gi kM_at0 (by decide) c124
          have c163 := k132.gi kM_at0 (by decide) c125
          have c164 := k132.gi kM_at1 rfl c128
          rcases hg161 with ⟨rfl, ⟨x133, c134, rx133, tx133⟩, ⟨x135, c136, rx135, tx135⟩, ⟨x137, c138, rx137, tx137⟩⟩ | ⟨rfl, ⟨x139, c140, rx139, tx139⟩, ⟨x141, c142, rx141, tx141⟩, ⟨x143, c144, rx143, tx143⟩⟩ | ⟨rfl, ⟨x145, c146, rx145, tx145⟩, ⟨x147, c148, rx147, tx147⟩, ⟨x149, c150, rx149, tx149⟩, g151, g152⟩ | ⟨rfl, ⟨x153, c154, rx153, tx153⟩, ⟨x155, c156, rx155, tx155⟩, ⟨x157, c158, rx157, tx157⟩, g159, g160⟩
          · have ex133 : x133.toInt = f9_0_1.toInt := by rw [← c162.symm.trans c134]
            have ex137 : x137.toInt = (2 : Int) := by rw [show x137 = 2 from c138.symm.trans c163]; decide
            obtain ⟨x165, c166, rx165, tx165⟩ := hT.rda (lo := 0) (hi := 400) (i := 2) kM_at3 rfl rfl (by decide)
            obtain ⟨x167, c168, rx167, tx167⟩ := hT.rdi (lo := 0) (hi := 60) (k := 18) kM_at0 (by decide) rfl
            refine lv_if_ne (tgt := 66) hx hb dX12_sum_61 (by decide) (fun c => absurd (by decide) c) (fun _ => ?_)
            refine lv_iconst (v := 0) hx hb dX12_sum_64 (by decide) ?_
            exact tk_zret hC hr rfl hlocks hK ⟨hT, hF, (Or.inl ⟨rfl, ⟨f9_0_1, c162, (show 1 ≤ f9_0_1.toInt by omega), (show f9_0_1.toInt ≤ 400 by omega)⟩, ⟨x135, c136, (show 1 ≤ x135.toInt by omega), (show x135.toInt ≤ 3205 by omega)⟩, ⟨2, c163, (by decide), (by decide)⟩⟩)⟩ hw dX12_sum_65
          · have ex139 : x139.toInt = f9_0_1.toInt := by rw [← c162.symm.trans c140]
            have ex143 : x143.toInt = (2 : Int) := by rw [show x143 = 2 from c144.symm.trans c163]; decide
            obtain ⟨x169, c170, rx169, tx169⟩ := hT.rda (lo := 0) (hi := 400) (i := 2) kM_at3 rfl rfl (by decide)
            obtain ⟨x171, c172, rx171, tx171⟩ := hT.rdi (lo := 0) (hi := 60) (k := 18) kM_at0 (by decide) rfl
            refine lv_if_ne (tgt := 66) hx hb dX12_sum_61 (by decide) (fun c => absurd (by decide) c) (fun _ => ?_)
            refine lv_iconst (v := 0) hx hb dX12_sum_64 (by decide) ?_
            exact tk_zret hC hr rfl hlocks hK ⟨hT, hF, (Or.inl ⟨rfl, ⟨f9_0_1, c162, (show 1 ≤ f9_0_1.toInt by omega), (show f9_0_1.toInt ≤ 400 by omega)⟩, ⟨x141, c142, (show 1 ≤ x141.toInt by omega), (show x141.toInt ≤ 3205 by omega)⟩, ⟨2, c163, (by decide), (by decide)⟩⟩)⟩ hw dX12_sum_65
          · have ex145 : x145.toInt = f9_0_1.toInt := by rw [← c162.symm.trans c146]
            have ex147 : x147.toInt = (2 : Int) := by rw [show x147 = 2 from c148.symm.trans c163]; decide
            obtain ⟨x173, c174, rx173, tx173⟩ := hT.rda (lo := 0) (hi := 400) (i := 2) kM_at3 rfl rfl (by decide)
            have g151 : 3 * x173.toInt + 11 ≤ 3 * f9_3_2.toInt + 14 * (x149.toInt - f9_0_18.toInt) := by have q := g151; simp only [c127, c174, c126, c150] at q; omega
            have g152 : f9_0_18.toInt + 1 ≤ x149.toInt := by have q := g152; simp only [c126, c150] at q; omega
            refine lv_if_ne (tgt := 66) hx hb dX12_sum_61 (by decide) (fun _ => ?_) (fun c => absurd c (by decide))
            refine lv_aload_n hx hb dX12_sum_66 rfl (lv_at hl 1 rfl) ?_
            refine lv_iload_n hx hb dX12_sum_67 rfl (lv_at hl 0 rfl) ?_
            refine lv_iconst (v := 0) hx hb dX12_sum_68 (by decide) ?_
            refine tk_Vv hC hK hw hT hA hE hSR kM_at0 (by decide) rfl (k_X12_puts_6 l adK adV dC dI cy ad B (by omega) (by omega) qr s1   2 (by decide) (by decide) 0 w131 H.size hT c163 x173 c174 (show 0 ≤ x173.toInt by omega) (show x173.toInt ≤ 400 by omega) (show x173.toInt ≤ 399 by omega)) (cwV 2 hC.2.2.2.2 gX12_sum_X12_puts rfl rfl rfl (by decide +kernel) ⟨Nat.le_of_ble_eq_true rfl, Nat.le_of_ble_eq_true rfl⟩) rfl hl.1 rfl (Nat.le_of_ble_eq_true rfl) dX12_sum_69 (fun w179 H locs hp178 hw => ?_)
            obtain ⟨hT, k180, hg184⟩ := hp178
            have hF := hF.tr k180 (by decide)
            have c185 := k180.gi kM_at0 (by decide) c162
            have c186 := k180.gi kM_at0 (by decide) c163
            have c187 := k180.gi kM_at1 rfl c164
            have c188 := k180.gi kM_at0 (by decide) c150
            obtain ⟨⟨x181, c182, rx181, tx181⟩, g183⟩ := hg184
            have ex181 : x181.toInt = (2 : Int) := by rw [show x181 = 2 from c182.symm.trans c186]; decide
            obtain ⟨x189, c190, rx189, tx189⟩ := hT.rda (lo := 0) (hi := 400) (i := 2) kM_at3 rfl rfl (by decide)
            have g183 : x189.toInt = x173.toInt + 1 := by have q := g183; simp only [c174, c190] at q; omega
            refine lv_goto (tgt := 9) hx hb dX12_sum_72 (by decide) ?_
            exact ih9 f9_0_1 x149 x189 H locs ls w179 (show 0 ≤ f9_0_1.toInt by omega) (show f9_0_1.toInt ≤ 400 by omega) (show 1 ≤ x149.toInt by omega) (show x149.toInt ≤ 60 by omega) (show 0 ≤ x189.toInt by omega) (show x189.toInt ≤ 300 by omega) (show 3 * x189.toInt + 11 ≤ 3 * f2_.toInt + 14 * (x149.toInt - f1_.toInt) by omega) (show f1_.toInt + 1 ≤ x149.toInt by omega) (show x189.toInt ≤ 300 by omega) (show (60 - x149.toInt).toNat < n9 by omega) hw hT hF c185 c186 c188 c190 (lv_sub hl [1] rfl)
          · have ex153 : x153.toInt = f9_0_1.toInt := by rw [← c162.symm.trans c154]
            have ex155 : x155.toInt = (2 : Int) := by rw [show x155 = 2 from c156.symm.trans c163]; decide
            obtain ⟨x175, c176, rx175, tx175⟩ := hT.rda (lo := 0) (hi := 400) (i := 2) kM_at3 rfl rfl (by decide)
            have g159 : 3 * x175.toInt + 11 ≤ 3 * f9_3_2.toInt + 14 * (x157.toInt - f9_0_18.toInt) := by have q := g159; simp only [c127, c176, c126, c158] at q; omega
            have g160 : f9_0_18.toInt + 1 ≤ x157.toInt := by have q := g160; simp only [c126, c158] at q; omega
            refine lv_if_ne (tgt := 66) hx hb dX12_sum_61 (by decide) (fun _ => ?_) (fun c => absurd c (by decide))
            refine lv_aload_n hx hb dX12_sum_66 rfl (lv_at hl 1 rfl) ?_
            refine lv_iload_n hx hb dX12_sum_67 rfl (lv_at hl 0 rfl) ?_
            refine lv_iconst (v := 0) hx hb dX12_sum_68 (by decide) ?_
            refine tk_Vv hC hK hw hT hA hE hSR kM_at0 (by decide) rfl (k_X12_puts_6 l adK adV dC dI cy ad B (by omega) (by omega) qr s1   2 (by decide) (by decide) 0 w131 H.size hT c163 x175 c176 (show 0 ≤ x175.toInt by omega) (show x175.toInt ≤ 400 by omega) (show x175.toInt ≤ 399 by omega)) (cwV 2 hC.2.2.2.2 gX12_sum_X12_puts rfl rfl rfl (by decide +kernel) ⟨Nat.le_of_ble_eq_true rfl, Nat.le_of_ble_eq_true rfl⟩) rfl hl.1 rfl (Nat.le_of_ble_eq_true rfl) dX12_sum_69 (fun w193 H locs hp192 hw => ?_)
            obtain ⟨hT, k194, hg198⟩ := hp192
            have hF := hF.tr k194 (by decide)
            have c199 := k194.gi kM_at0 (by decide) c162
            have c200 := k194.gi kM_at0 (by decide) c163
            have c201 := k194.gi kM_at1 rfl c164
            have c202 := k194.gi kM_at0 (by decide) c158
            obtain ⟨⟨x195, c196, rx195, tx195⟩, g197⟩ := hg198
            have ex195 : x195.toInt = (2 : Int) := by rw [show x195 = 2 from c196.symm.trans c200]; decide
            obtain ⟨x203, c204, rx203, tx203⟩ := hT.rda (lo := 0) (hi := 400) (i := 2) kM_at3 rfl rfl (by decide)
            have g197 : x203.toInt = x175.toInt + 1 := by have q := g197; simp only [c176, c204] at q; omega
            refine lv_goto (tgt := 9) hx hb dX12_sum_72 (by decide) ?_
            exact ih9 f9_0_1 x157 x203 H locs ls w193 (show 0 ≤ f9_0_1.toInt by omega) (show f9_0_1.toInt ≤ 400 by omega) (show 1 ≤ x157.toInt by omega) (show x157.toInt ≤ 60 by omega) (show 0 ≤ x203.toInt by omega) (show x203.toInt ≤ 300 by omega) (show 3 * x203.toInt + 11 ≤ 3 * f2_.toInt + 14 * (x157.toInt - f1_.toInt) by omega) (show f1_.toInt + 1 ≤ x157.toInt by omega) (show x203.toInt ≤ 300 by omega) (show (60 - x157.toInt).toNat < n9 by omega) hw hT hF c199 c200 c202 c204 (lv_sub hl [1] rfl)
      refine lv_aload_n hx hb dX12_sum_9 rfl (lv_at hl 0 rfl) ?_
      obtain ⟨x205, c206, rx205, tx205⟩ := hT.rdi (lo := 0) (hi := 400) (k := 14) kM_at0 (by decide) rfl
      refine tk_Vi hC hK hw hT hA hE hSR kM_at0 (by decide) rfl (k_X12_see_1 l adK adV dC dI cy ad B (by omega) (by omega) qr s1    w1 H.size hT x205 c206 (show 0 ≤ x205.toInt by omega) (show x205.toInt ≤ 400 by omega)) (cwV 0 hC.2.2.2.2 gX12_sum_X12_see rfl rfl rfl (by decide +kernel) ⟨Nat.le_of_ble_eq_true rfl, Nat.le_of_ble_eq_true rfl⟩) rfl hl.1 rfl (Nat.le_of_ble_eq_true rfl) dX12_sum_10 (fun r207 w209 H locs hp208 hw => ?_)
      obtain ⟨hT, k210, hg227⟩ := hp208
      have hF := hF.tr k210 (by decide)
      have c228 := k210.gi kM_at0 (by decide) c4
      have c229 := k210.gi kM_at0 (by decide) c5
      have c230 := k210.gi kM_at0 (by decide) c8
      have c231 := k210.gi kM_at3 (by decide) c11
      rcases hg227 with ⟨g211, g212, ⟨x213, c214, rx213, tx213⟩, ⟨x215, c216, rx215, tx215⟩, g217, g218⟩ | ⟨rfl, ⟨x219, c220, rx219, tx219⟩, ⟨x221, c222, rx221, tx221⟩, g223⟩ | ⟨rfl, ⟨x224, c225, rx224, tx224⟩, g226⟩
      · have ex213 : x213.toInt = f9_0_1.toInt := by rw [← c228.symm.trans c214]
        have g217 : (gi w209 1 (x215.toInt).toNat).toInt ≠ 32 := by have q := g217; simp only [c216] at q; omega
        have g218 : (x215.toInt = x205.toInt ∨ (gi w1 1 (x205.toInt).toNat).toInt = 32) := by have q := g218; simp only [c206, c216] at q; omega
        refine lv_bipush (v := 43) hx hb dX12_sum_13 (by decide) ?_
        refine lv_icmp_eq (tgt := 27) hx hb dX12_sum_15 (by decide) (fun c234 => ?_) (fun c234 => ?_)
        · have c234 : r207.toInt = (43 : Int) := wk_eq.mp c234
          exact J27 x215 H locs ls w209 (show 1 ≤ f9_0_1.toInt by omega) (show f9_0_1.toInt ≤ 400 by omega) (show 0 ≤ x215.toInt by omega) (show x215.toInt ≤ 399 by omega) (show 1 ≤ f9_0_18.toInt by omega) (show f9_0_18.toInt ≤ 60 by omega) (show 0 ≤ f9_3_2.toInt by omega) (show f9_3_2.toInt ≤ 300 by omega) (show 3 * f9_3_2.toInt + 11 ≤ 3 * f2_.toInt + 14 * (f9_0_18.toInt - f1_.toInt) by omega) (show f1_.toInt + 1 ≤ f9_0_18.toInt by omega) (show f9_3_2.toInt ≤ 300 by omega)  hw hT hF c228 c216 c229 c230 c231 (lv_sub hl [0] rfl)
        · have c234 : ¬ r207.toInt = (43 : Int) := wk_eqF c234
          refine lv_aload_n hx hb dX12_sum_18 rfl (lv_at hl 0 rfl) ?_
          refine tk_Vi hC hK hw hT hA hE hSR kM_at0 (by decide) rfl (k_X12_see_1 l adK adV dC dI cy ad B (by omega) (by omega) qr s1    w209 H.size hT x215 c216 (show 0 ≤ x215.toInt by omega) (show x215.toInt ≤ 400 by omega)) (cwV 0 hC.2.2.2.2 gX12_sum_X12_see rfl rfl rfl (by decide +kernel) ⟨Nat.le_of_ble_eq_true rfl, Nat.le_of_ble_eq_true rfl⟩) rfl hl.1 rfl (Nat.le_of_ble_eq_true rfl) dX12_sum_19 (fun r235 w237 H locs hp236 hw => ?_)
          obtain ⟨hT, k238, hg255⟩ := hp236
          have hF := hF.tr k238 (by decide)
          have c256 := k238.gi kM_at0 (by decide) c228
          have c257 := k238.gi kM_at0 (by decide) c229
          have c258 := k238.gi kM_at0 (by decide) c230
          have c259 := k238.gi kM_at3 (by decide) c231
          rcases hg255 with ⟨g239, g240, ⟨x241, c242, rx241, tx241⟩, ⟨x243, c244, rx243, tx243⟩, g245, g246⟩ | ⟨rfl, ⟨x247, c248, rx247, tx247⟩, ⟨x249, c250, rx249, tx249⟩, g251⟩ | ⟨rfl, ⟨x252, c253, rx252, tx252⟩, g254⟩
          · have ex241 : x241.toInt = f9_0_1.toInt := by rw [← c256.symm.trans c242]
            have g245 : (gi w237 1 (x243.toInt).toNat).toInt ≠ 32 := by have q := g245; simp only [c244] at q; omega
            have g246 : (x243.toInt = x215.toInt ∨ (gi w209 1 (x215.toInt).toNat).toInt = 32) := by have q := g246; simp only [c216, c244] at q; omega
            refine lv_bipush (v := 45) hx hb dX12_sum_22 (by decide) ?_
            refine lv_icmp_ne (tgt := 75) hx hb dX12_sum_24 (by decide) (fun c262 => ?_) (fun c262 => ?_)
            · have c262 : ¬ r235.toInt = (45 : Int) := wk_eqF c262
              refine lv_iconst (v := 1) hx hb dX12_sum_75 (by decide) ?_
              exact tk_zret hC hr rfl hlocks hK ⟨hT, hF, (Or.inr (Or.inr (Or.inl ⟨rfl, ⟨f9_0_1, c256, (show 1 ≤ f9_0_1.toInt by omega), (show f9_0_1.toInt ≤ 400 by omega)⟩, ⟨2, c257, (by decide), (by decide)⟩, ⟨f9_0_18, c258, (show 1 ≤ f9_0_18.toInt by omega), (show f9_0_18.toInt ≤ 60 by omega)⟩, (by simp only [cf2_, c259, cf1_, c258]; omega), (by simp only [cf1_, c258]; omega)⟩)))⟩ hw dX12_sum_76
            · have c262 : r235.toInt = (45 : Int) := wk_eq.mp c262
              exact J27 x243 H locs ls w237 (show 1 ≤ f9_0_1.toInt by omega) (show f9_0_1.toInt ≤ 400 by omega) (show 0 ≤ x243.toInt by omega) (show x243.toInt ≤ 399 by omega) (show 1 ≤ f9_0_18.toInt by omega) (show f9_0_18.toInt ≤ 60 by omega) (show 0 ≤ f9_3_2.toInt by omega) (show f9_3_2.toInt ≤ 300 by omega) (show 3 * f9_3_2.toInt + 11 ≤ 3 * f2_.toInt + 14 * (f9_0_18.toInt - f1_.toInt) by omega) (show f1_.toInt + 1 ≤ f9_0_18.toInt by omega) (show f9_3_2.toInt ≤ 300 by omega)  hw hT hF c256 c244 c257 c258 c259 (lv_sub hl [0] rfl)
          · have ex247 : x247.toInt = f9_0_1.toInt := by rw [← c256.symm.trans c248]
            have g251 : (x249.toInt = x215.toInt ∨ (gi w209 1 (x215.toInt).toNat).toInt = 32) := by have q := g251; simp only [c216, c250] at q; omega
            refine lv_bipush (v := 45) hx hb dX12_sum_22 (by decide) ?_
            refine lv_icmp_ne (tgt := 75) hx hb dX12_sum_24 (by decide) (fun _ => ?_) (fun c => absurd c (by decide))
            refine lv_iconst (v := 1) hx hb dX12_sum_75 (by decide) ?_
            exact tk_zret hC hr rfl hlocks hK ⟨hT, hF, (Or.inr (Or.inr (Or.inl ⟨rfl, ⟨f9_0_1, c256, (show 1 ≤ f9_0_1.toInt by omega), (show f9_0_1.toInt ≤ 400 by omega)⟩, ⟨2, c257, (by decide), (by decide)⟩, ⟨f9_0_18, c258, (show 1 ≤ f9_0_18.toInt by omega), (show f9_0_18.toInt ≤ 60 by omega)⟩, (by simp only [cf2_, c259, cf1_, c258]; omega), (by simp only [cf1_, c258]; omega)⟩)))⟩ hw dX12_sum_76
          · have ex252 : x252.toInt = f9_0_1.toInt := by rw [← c256.symm.trans c253]
            obtain ⟨x260, c261, rx260, tx260⟩ := hT.rdi (lo := 0) (hi := 400) (k := 14) kM_at0 (by decide) rfl
            have g254 : (x260.toInt = x215.toInt ∨ (gi w209 1 (x215.toInt).toNat).toInt = 32) := by have q := g254; simp only [c216, c261] at q; omega
            refine lv_bipush (v := 45) hx hb dX12_sum_22 (by decide) ?_
            refine lv_icmp_ne (tgt := 75) hx hb dX12_sum_24 (by decide) (fun _ => ?_) (fun c => absurd c (by decide))
            refine lv_iconst (v := 1) hx hb dX12_sum_75 (by decide) ?_
            exact tk_zret hC hr rfl hlocks hK ⟨hT, hF, (Or.inr (Or.inr (Or.inl ⟨rfl, ⟨f9_0_1, c256, (show 1 ≤ f9_0_1.toInt by omega), (show f9_0_1.toInt ≤ 400 by omega)⟩, ⟨2, c257, (by decide), (by decide)⟩, ⟨f9_0_18, c258, (show 1 ≤ f9_0_18.toInt by omega), (show f9_0_18.toInt ≤ 60 by omega)⟩, (by simp only [cf2_, c259, cf1_, c258]; omega), (by simp only [cf1_, c258]; omega)⟩)))⟩ hw dX12_sum_76
      · have ex219 : x219.toInt = f9_0_1.toInt := by rw [← c228.symm.trans c220]
        have g223 : (x221.toInt = x205.toInt ∨ (gi w1 1 (x205.toInt).toNat).toInt = 32) := by have q := g223; simp only [c206, c222] at q; omega
        refine lv_bipush (v := 43) hx hb dX12_sum_13 (by decide) ?_
        refine lv_icmp_eq (tgt := 27) hx hb dX12_sum_15 (by decide) (fun c => absurd c (by decide)) (fun _ => ?_)
        refine lv_aload_n hx hb dX12_sum_18 rfl (lv_at hl 0 rfl) ?_
        refine tk_Vi hC hK hw hT hA hE hSR kM_at0 (by decide) rfl (k_X12_see_1 l adK adV dC dI cy ad B (by omega) (by omega) qr s1    w209 H.size hT x221 c222 (show 0 ≤ x221.toInt by omega) (show x221.toInt ≤ 400 by omega)) (cwV 0 hC.2.2.2.2 gX12_sum_X12_see rfl rfl rfl (by decide +kernel) ⟨Nat.le_of_ble_eq_true rfl, Nat.le_of_ble_eq_true rfl⟩) rfl hl.1 rfl (Nat.le_of_ble_eq_true rfl) dX12_sum_19 (fun r263 w265 H locs hp264 hw => ?_)
        obtain ⟨hT, k266, hg283⟩ := hp264
        have hF := hF.tr k266 (by decide)
        have c284 := k266.gi kM_at0 (by decide) c228
        have c285 := k266.gi kM_at0 (by decide) c229
        have c286 := k266.gi kM_at0 (by decide) c230
        have c287 := k266.gi kM_at3 (by decide) c231
        rcases hg283 with ⟨g267, g268, ⟨x269, c270, rx269, tx269⟩, ⟨x271, c272, rx271, tx271⟩, g273, g274⟩ | ⟨rfl, ⟨x275, c276, rx275, tx275⟩, ⟨x277, c278, rx277, tx277⟩, g279⟩ | ⟨rfl, ⟨x280, c281, rx280, tx280⟩, g282⟩
        · have ex269 : x269.toInt = f9_0_1.toInt := by rw [← c284.symm.trans c270]
          have g273 : (gi w265 1 (x271.toInt).toNat).toInt ≠ 32 := by have q := g273; simp only [c272] at q; omega
          have g274 : (x271.toInt = x221.toInt ∨ (gi w209 1 (x221.toInt).toNat).toInt = 32) := by have q := g274; simp only [c222, c272] at q; omega
          refine lv_bipush (v := 45) hx hb dX12_sum_22 (by decide) ?_
          refine lv_icmp_ne (tgt := 75) hx hb dX12_sum_24 (by decide) (fun c290 => ?_) (fun c290 => ?_)
          · have c290 : ¬ r263.toInt = (45 : Int) := wk_eqF c290
            refine lv_iconst (v := 1) hx hb dX12_sum_75 (by decide) ?_
            exact tk_zret hC hr rfl hlocks hK ⟨hT, hF, (Or.inr (Or.inr (Or.inl ⟨rfl, ⟨f9_0_1, c284, (show 1 ≤ f9_0_1.toInt by omega), (show f9_0_1.toInt ≤ 400 by omega)⟩, ⟨2, c285, (by decide), (by decide)⟩, ⟨f9_0_18, c286, (show 1 ≤ f9_0_18.toInt by omega), (show f9_0_18.toInt ≤ 60 by omega)⟩, (by simp only [cf2_, c287, cf1_, c286]; omega), (by simp only [cf1_, c286]; omega)⟩)))⟩ hw dX12_sum_76
          · have c290 : r263.toInt = (45 : Int) := wk_eq.mp c290
            exact J27 x271 H locs ls w265 (show 1 ≤ f9_0_1.toInt by omega) (show f9_0_1.toInt ≤ 400 by omega) (show 0 ≤ x271.toInt by omega) (show x271.toInt ≤ 399 by omega) (show 1 ≤ f9_0_18.toInt by omega) (show f9_0_18.toInt ≤ 60 by omega) (show 0 ≤ f9_3_2.toInt by omega) (show f9_3_2.toInt ≤ 300 by omega) (show 3 * f9_3_2.toInt + 11 ≤ 3 * f2_.toInt + 14 * (f9_0_18.toInt - f1_.toInt) by omega) (show f1_.toInt + 1 ≤ f9_0_18.toInt by omega) (show f9_3_2.toInt ≤ 300 by omega)  hw hT hF c284 c272 c285 c286 c287 (lv_sub hl [0] rfl)
        · have ex275 : x275.toInt = f9_0_1.toInt := by rw [← c284.symm.trans c276]
          have g279 : (x277.toInt = x221.toInt ∨ (gi w209 1 (x221.toInt).toNat).toInt = 32) := by have q := g279; simp only [c222, c278] at q; omega
          refine lv_bipush (v := 45) hx hb dX12_sum_22 (by decide) ?_
          refine lv_icmp_ne (tgt := 75) hx hb dX12_sum_24 (by decide) (fun _ => ?_) (fun c => absurd c (by decide))
          refine lv_iconst (v := 1) hx hb dX12_sum_75 (by decide) ?_
          exact tk_zret hC hr rfl hlocks hK ⟨hT, hF, (Or.inr (Or.inr (Or.inl ⟨rfl, ⟨f9_0_1, c284, (show 1 ≤ f9_0_1.toInt by omega), (show f9_0_1.toInt ≤ 400 by omega)⟩, ⟨2, c285, (by decide), (by decide)⟩, ⟨f9_0_18, c286, (show 1 ≤ f9_0_18.toInt by omega), (show f9_0_18.toInt ≤ 60 by omega)⟩, (by simp only [cf2_, c287, cf1_, c286]; omega), (by simp only [cf1_, c286]; omega)⟩)))⟩ hw dX12_sum_76
        · have ex280 : x280.toInt = f9_0_1.toInt := by rw [← c284.symm.trans c281]
          obtain ⟨x288, c289, rx288, tx288⟩ := hT.rdi (lo := 0) (hi := 400) (k := 14) kM_at0 (by decide) rfl
          have g282 : (x288.toInt = x221.toInt ∨ (gi w209 1 (x221.toInt).toNat).toInt = 32) := by have q := g282; simp only [c222, c289] at q; omega
          refine lv_bipush (v := 45) hx hb dX12_sum_22 (by decide) ?_
          refine lv_icmp_ne (tgt := 75) hx hb dX12_sum_24 (by decide) (fun _ => ?_) (fun c => absurd c (by decide))
          refine lv_iconst (v := 1) hx hb dX12_sum_75 (by decide) ?_
          exact tk_zret hC hr rfl hlocks hK ⟨hT, hF, (Or.inr (Or.inr (Or.inl ⟨rfl, ⟨f9_0_1, c284, (show 1 ≤ f9_0_1.toInt by omega), (show f9_0_1.toInt ≤ 400 by omega)⟩, ⟨2, c285, (by decide), (by decide)⟩, ⟨f9_0_18, c286, (show 1 ≤ f9_0_18.toInt by omega), (show f9_0_18.toInt ≤ 60 by omega)⟩, (by simp only [cf2_, c287, cf1_, c286]; omega), (by simp only [cf1_, c286]; omega)⟩)))⟩ hw dX12_sum_76
      · have ex224 : x224.toInt = f9_0_1.toInt := by rw [← c228.symm.trans c225]
        obtain ⟨x232, c233, rx232, tx232⟩ := hT.rdi (lo := 0) (hi := 400) (k := 14) kM_at0 (by decide) rfl
        have g226 : (x232.toInt = x205.toInt ∨ (gi w1 1 (x205.toInt).toNat).toInt = 32) := by have q := g226; simp only [c206, c233] at q; omega
        refine lv_bipush (v := 43) hx hb dX12_sum_13 (by decide) ?_
        refine lv_icmp_eq (tgt := 27) hx hb dX12_sum_15 (by decide) (fun c => absurd c (by decide)) (fun _ => ?_)
        refine lv_aload_n hx hb dX12_sum_18 rfl (lv_at hl 0 rfl) ?_
        refine tk_Vi hC hK hw hT hA hE hSR kM_at0 (by decide) rfl (k_X12_see_1 l adK adV dC dI cy ad B (by omega) (by omega) qr s1    w209 H.size hT x232 c233 (show 0 ≤ x232.toInt by omega) (show x232.toInt ≤ 400 by omega)) (cwV 0 hC.2.2.2.2 gX12_sum_X12_see rfl rfl rfl (by decide +kernel) ⟨Nat.le_of_ble_eq_true rfl, Nat.le_of_ble_eq_true rfl⟩) rfl hl.1 rfl (Nat.le_of_ble_eq_true rfl) dX12_sum_19 (fun r291 w293 H locs hp292 hw => ?_)
        obtain ⟨hT, k294, hg311⟩ := hp292
        have hF := hF.tr k294 (by decide)
        have c312 := k294.gi kM_at0 (by decide) c228
        have c313 := k294.gi kM_at0 (by decide) c229
        have c314 := k294.gi kM_at0 (by decide) c230
        have c315 := k294.gi kM_at3 (by decide) c231
        rcases hg311 with ⟨g295, g296, ⟨x297, c298, rx297, tx297⟩, ⟨x299, c300, rx299, tx299⟩, g301, g302⟩ | ⟨rfl, ⟨x303, c304, rx303, tx303⟩, ⟨x305, c306, rx305, tx305⟩, g307⟩ | ⟨rfl, ⟨x308, c309, rx308, tx308⟩, g310⟩
        · have ex297 : x297.toInt = f9_0_1.toInt := by rw [← c312.symm.trans c298]
          have g301 : (gi w293 1 (x299.toInt).toNat).toInt ≠ 32 := by have q := g301; simp only [c300] at q; omega
          have g302 : (x299.toInt = x232.toInt ∨ (gi w209 1 (x232.toInt).toNat).toInt = 32) := by have q := g302; simp only [c233, c300] at q; omega
          refine lv_bipush (v := 45) hx hb dX12_sum_22 (by decide) ?_
          refine lv_icmp_ne (tgt := 75) hx hb dX12_sum_24 (by decide) (fun c318 => ?_) (fun c318 => ?_)
          · have c318 : ¬ r291.toInt = (45 : Int) := wk_eqF c318
            refine lv_iconst (v := 1) hx hb dX12_sum_75 (by decide) ?_
            exact tk_zret hC hr rfl hlocks hK ⟨hT, hF, (Or.inr (Or.inr (Or.inl ⟨rfl, ⟨f9_0_1, c312, (show 1 ≤ f9_0_1.toInt by omega), (show f9_0_1.toInt ≤ 400 by omega)⟩, ⟨2, c313, (by decide), (by decide)⟩, ⟨f9_0_18, c314, (show 1 ≤ f9_0_18.toInt by omega), (show f9_0_18.toInt ≤ 60 by omega)⟩, (by simp only [cf2_, c315, cf1_, c314]; omega), (by simp only [cf1_, c314]; omega)⟩)))⟩ hw dX12_sum_76
          · have c318 : r291.toInt = (45 : Int) := wk_eq.mp c318
            exact J27 x299 H locs ls w293 (show 1 ≤ f9_0_1.toInt by omega) (show f9_0_1.toInt ≤ 400 by omega) (show 0 ≤ x299.toInt by omega) (show x299.toInt ≤ 399 by omega) (show 1 ≤ f9_0_18.toInt by omega) (show f9_0_18.toInt ≤ 60 by omega) (show 0 ≤ f9_3_2.toInt by omega) (show f9_3_2.toInt ≤ 300 by omega) (show 3 * f9_3_2.toInt + 11 ≤ 3 * f2_.toInt + 14 * (f9_0_18.toInt - f1_.toInt) by omega) (show f1_.toInt + 1 ≤ f9_0_18.toInt by omega) (show f9_3_2.toInt ≤ 300 by omega)  hw hT hF c312 c300 c313 c314 c315 (lv_sub hl [0] rfl)
        · have ex303 : x303.toInt = f9_0_1.toInt := by rw [← c312.symm.trans c304]
          have g307 : (x305.toInt = x232.toInt ∨ (gi w209 1 (x232.toInt).toNat).toInt = 32) := by have q := g307; simp only [c233, c306] at q; omega
          refine lv_bipush (v := 45) hx hb dX12_sum_22 (by decide) ?_
          refine lv_icmp_ne (tgt := 75) hx hb dX12_sum_24 (by decide) (fun _ => ?_) (fun c => absurd c (by decide))
          refine lv_iconst (v := 1) hx hb dX12_sum_75 (by decide) ?_
          exact tk_zret hC hr rfl hlocks hK ⟨hT, hF, (Or.inr (Or.inr (Or.inl ⟨rfl, ⟨f9_0_1, c312, (show 1 ≤ f9_0_1.toInt by omega), (show f9_0_1.toInt ≤ 400 by omega)⟩, ⟨2, c313, (by decide), (by decide)⟩, ⟨f9_0_18, c314, (show 1 ≤ f9_0_18.toInt by omega), (show f9_0_18.toInt ≤ 60 by omega)⟩, (by simp only [cf2_, c315, cf1_, c314]; omega), (by simp only [cf1_, c314]; omega)⟩)))⟩ hw dX12_sum_76
        · have ex308 : x308.toInt = f9_0_1.toInt := by rw [← c312.symm.trans c309]
          obtain ⟨x316, c317, rx316, tx316⟩ := hT.rdi (lo := 0) (hi := 400) (k := 14) kM_at0 (by decide) rfl
          have g310 : (x316.toInt = x232.toInt ∨ (gi w209 1 (x232.toInt).toNat).toInt = 32) := by have q := g310; simp only [c233, c317] at q; omega
          refine lv_bipush (v := 45) hx hb dX12_sum_22 (by decide) ?_
          refine lv_icmp_ne (tgt := 75) hx hb dX12_sum_24 (by decide) (fun _ => ?_) (fun c => absurd c (by decide))
          refine lv_iconst (v := 1) hx hb dX12_sum_75 (by decide) ?_
          exact tk_zret hC hr rfl hlocks hK ⟨hT, hF, (Or.inr (Or.inr (Or.inr ⟨rfl, ⟨f9_0_1, c312, (show 0 ≤ f9_0_1.toInt by omega), (show f9_0_1.toInt ≤ 400 by omega)⟩, ⟨2, c313, (by decide), (by decide)⟩, ⟨f9_0_18, c314, (show 1 ≤ f9_0_18.toInt by omega), (show f9_0_18.toInt ≤ 60 by omega)⟩, (by simp only [cf2_, c315, cf1_, c314]; omega), (by simp only [cf1_, c314]; omega)⟩)))⟩ hw dX12_sum_76
  refine lv_aload_n hx hb dX12_sum_0 rfl (lv_at hl 0 rfl) ?_
  refine tk_Vi hC hK hw hT hA hE hSR kM_at0 (by decide) rfl (k_X12_term_3 l adK adV dC dI cy ad B (by omega) (by omega) qr s1    w0 s.heap.size hT cf0_ f1_ cf1_ (show 0 ≤ f1_.toInt by omega) (show f1_.toInt ≤ 60 by omega) f2_ cf2_ (show 0 ≤ f2_.toInt by omega) (show f2_.toInt ≤ 400 by omega) (show 3 * f2_.toInt ≤ 14 * f1_.toInt + 60 by omega) (show f2_.toInt ≤ 300 by omega)) (cwV 0 hC.2.2.2.2 gX12_sum_X12_term rfl rfl rfl (by decide +kernel) ⟨Nat.le_of_ble_eq_true rfl, Nat.le_of_ble_eq_true rfl⟩) rfl hl.1 rfl (Nat.le_of_ble_eq_true rfl) dX12_sum_1 (fun r319 w321 H locs hp320 hw => ?_)
  obtain ⟨hT, k322, hg351⟩ := hp320
  have hF := hF.tr k322 (by decide)
  have c352 := k322.gi kM_at0 (by decide) cf0_
  rcases hg351 with ⟨rfl, ⟨x323, c324, rx323, tx323⟩, ⟨x325, c326, rx325, tx325⟩, ⟨x327, c328, rx327, tx327⟩⟩ | ⟨rfl, ⟨x329, c330, rx329, tx329⟩, ⟨x331, c332, rx331, tx331⟩, ⟨x333, c334, rx333, tx333⟩⟩ | ⟨rfl, ⟨x335, c336, rx335, tx335⟩, ⟨x337, c338, rx337, tx337⟩, ⟨x339, c340, rx339, tx339⟩, g341, g342⟩ | ⟨rfl, ⟨x343, c344, rx343, tx343⟩, ⟨x345, c346, rx345, tx345⟩, ⟨x347, c348, rx347, tx347⟩, g349, g350⟩
  · have ex327 : x327.toInt = (2 : Int) := by rw [show x327 = 2 from c328.symm.trans c352]; decide
    obtain ⟨x353, c354, rx353, tx353⟩ := hT.rda (lo := 0) (hi := 400) (i := 2) kM_at3 rfl rfl (by decide)
    obtain ⟨x355, c356, rx355, tx355⟩ := hT.rdi (lo := 0) (hi := 60) (k := 18) kM_at0 (by decide) rfl
    refine lv_if_ne (tgt := 9) hx hb dX12_sum_4 (by decide) (fun c => absurd (by decide) c) (fun _ => ?_)
    refine lv_iconst (v := 0) hx hb dX12_sum_7 (by decide) ?_
    exact tk_zret hC hr rfl hlocks hK ⟨hT, hF, (Or.inl ⟨rfl, ⟨x323, c324, (show 1 ≤ x323.toInt by omega), (show x323.toInt ≤ 400 by omega)⟩, ⟨x325, c326, (show 1 ≤ x325.toInt by omega), (show x325.toInt ≤ 3205 by omega)⟩, ⟨2, c352, (by decide), (by decide)⟩⟩)⟩ hw dX12_sum_8
  · have ex333 : x333.toInt = (2 : Int) := by rw [show x333 = 2 from c334.symm.trans c352]; decide
    obtain ⟨x357, c358, rx357, tx357⟩ := hT.rda (lo := 0) (hi := 400) (i := 2) kM_at3 rfl rfl (by decide)
    obtain ⟨x359, c360, rx359, tx359⟩ := hT.rdi (lo := 0) (hi := 60) (k := 18) kM_at0 (by decide) rfl
    refine lv_if_ne (tgt := 9) hx hb dX12_sum_4 (by decide) (fun c => absurd (by decide) c) (fun _ => ?_)
    refine lv_iconst (v := 0) hx hb dX12_sum_7 (by decide) ?_
    exact tk_zret hC hr rfl hlocks hK ⟨hT, hF, (Or.inr (Or.inl ⟨rfl, ⟨x329, c330, (show 0 ≤ x329.toInt by omega), (show x329.toInt ≤ 400 by omega)⟩, ⟨x331, c332, (show 1 ≤ x331.toInt by omega), (show x331.toInt ≤ 3205 by omega)⟩, ⟨2, c352, (by decide), (by decide)⟩⟩))⟩ hw dX12_sum_8
  · have ex337 : x337.toInt = (2 : Int) := by rw [show x337 = 2 from c338.symm.trans c352]; decide
    obtain ⟨x361, c362, rx361, tx361⟩ := hT.rda (lo := 0) (hi := 400) (i := 2) kM_at3 rfl rfl (by decide)
    have g341 : 3 * x361.toInt + 11 ≤ 3 * f2_.toInt + 14 * (x339.toInt - f1_.toInt) := by have q := g341; simp only [cf2_, c362, cf1_, c340] at q; omega
    have g342 : f1_.toInt + 1 ≤ x339.toInt := by have q := g342; simp only [cf1_, c340] at q; omega
    refine lv_if_ne (tgt := 9) hx hb dX12_sum_4 (by decide) (fun _ => ?_) (fun c => absurd c (by decide))
    exact L9 ((60 - x339.toInt).toNat + 1) x335 x339 x361 H locs ls w321 (show 0 ≤ x335.toInt by omega) (show x335.toInt ≤ 400 by omega) (show 1 ≤ x339.toInt by omega) (show x339.toInt ≤ 60 by omega) (show 0 ≤ x361.toInt by omega) (show x361.toInt ≤ 300 by omega) (show 3 * x361.toInt + 11 ≤ 3 * f2_.toInt + 14 * (x339.toInt - f1_.toInt) by omega) (show f1_.toInt + 1 ≤ x339.toInt by omega) (show x361.toInt ≤ 300 by omega) (Nat.lt_succ_self _) hw hT hF c336 c352 c340 c362 (lv_sub hl [0] rfl)
  · have ex345 : x345.toInt = (2 : Int) := by rw [show x345 = 2 from c346.symm.trans c352]; decide
    obtain ⟨x363, c364, rx363, tx363⟩ := hT.rda (lo := 0) (hi := 400) (i := 2) kM_at3 rfl rfl (by decide)
    have g349 : 3 * x363.toInt + 11 ≤ 3 * f2_.toInt + 14 * (x347.toInt - f1_.toInt) := by have q := g349; simp only [cf2_, c364, cf1_, c348] at q; omega
    have g350 : f1_.toInt + 1 ≤ x347.toInt := by have q := g350; simp only [cf1_, c348] at q; omega
    refine lv_if_ne (tgt := 9) hx hb dX12_sum_4 (by decide) (fun _ => ?_) (fun c => absurd c (by decide))
    exact L9 ((60 - x347.toInt).toNat + 1) x343 x347 x363 H locs ls w321 (show 0 ≤ x343.toInt by omega) (show x343.toInt ≤ 400 by omega) (show 1 ≤ x347.toInt by omega) (show x347.toInt ≤ 60 by omega) (show 0 ≤ x363.toInt by omega) (show x363.toInt ≤ 300 by omega) (show 3 * x363.toInt + 11 ≤ 3 * f2_.toInt + 14 * (x347.toInt - f1_.toInt) by omega) (show f1_.toInt + 1 ≤ x347.toInt by omega) (show x363.toInt ≤ 300 by omega) (Nat.lt_succ_self _) hw hT hF c344 c352 c348 c364 (lv_sub hl [0] rfl)
abbrev P_X12_compare_3 (ad : Nat → Nat) (cy : Nat → ClassId) (B : Int) (qr : Nat) (s1 : Int)  (w0 : va_W) : Int32 → va_W → Prop := fun r u => TW ksM ad cy B qr 12 u ∧ FE ksM [(12, 14, 14), (12, 15, 15), (12, 16, 16), (12, 18, 18), (61, 0, 2400), (62, 0, 7)] w0 u ∧ ((r = 0 ∧ (∃ y : Int32, gi u 0 1 = y ∧ 1 ≤ y.toInt ∧ y.toInt ≤ 400) ∧ (∃ y : Int32, gi u 0 15 = y ∧ 1 ≤ y.toInt ∧ y.toInt ≤ 3205) ∧ (∃ y : Int32, gi u 0 17 = y ∧ 2 ≤ y.toInt ∧ y.toInt ≤ 2)) ∨ (r = 0 ∧ (∃ y : Int32, gi u 0 1 = y ∧ 0 ≤ y.toInt ∧ y.toInt ≤ 400) ∧ (∃ y : Int32, gi u 0 15 = y ∧ 1 ≤ y.toInt ∧ y.toInt ≤ 3205) ∧ (∃ y : Int32, gi u 0 17 = y ∧ 2 ≤ y.toInt ∧ y.toInt ≤ 2)) ∨ (r = 1 ∧ (∃ y : Int32, gi u 0 1 = y ∧ 1 ≤ y.toInt ∧ y.toInt ≤ 400) ∧ (∃ y : Int32, gi u 0 17 = y ∧ 2 ≤ y.toInt ∧ y.toInt ≤ 2) ∧ (∃ y : Int32, gi u 0 18 = y ∧ 1 ≤ y.toInt ∧ y.toInt ≤ 60) ∧ (3 * (gi u 3 2).toInt + 33 ≤ 3 * (gi w0 3 2).toInt + 14 * ((gi u 0 18).toInt - (gi w0 0 18).toInt)) ∧ ((gi w0 0 18).toInt + 3 ≤ (gi u 0 18).toInt)))
set_option maxHeartbeats 4000000 in
set_option maxRecDepth 100000 in
theorem k_X12_compare_3 (l : Launch) (adK adV : Nat → Nat) (dC : Nat → ClassId) (dI : Nat → Nat → Nat) (cy : Nat → ClassId) (ad : Nat → Nat) (B : Int) (hB0 : 100000 ≤ B) (hB1 : B ≤ 1073741824) (qr : Nat) (s1 : Int)   (w0 : va_W) (sz : Nat) (hT : TW ksM ad cy B qr 12 w0) (cf0_ : gi w0 0 17 = 2) (f1_ : Int32) (cf1_ : gi w0 0 18 = f1_) (rf1_ : 0 ≤ f1_.toInt) (tf1_ : f1_.toInt ≤ 60) (f2_ : Int32) (cf2_ : gi w0 3 2 = f2_) (rf2_ : 0 ≤ f2_.toInt) (tf2_ : f2_.toInt ≤ 400) (pr0_ : 3 * f2_.toInt ≤ 14 * f1_.toInt + 30) (pr1_ : f2_.toInt ≤ 290) : Met l yX12_compare wsX12_compare ({ frames := 7, cells := 0, slots := 0, locals := 142 }) (va_Pc [.ref (ad 0)] (wpreS adK adV dC dI cy sz w0)) (va_Qi (P_X12_compare_3 ad cy B qr s1  w0) (fun u : va_W => wpost dC dI cy (va_A w0 sz) u) (va_A w0 sz)) 0 0 (va_A w0 sz) := by
  refine Met.ofW (cc := cX12_compare) (maxL := 5) (ret := (some .boolean)) (by decide) rfl ?_
  intro p e s m args below meth c s₁ Bk hml hv
  obtain ⟨rfl, ⟨hsz, hP, hK, hD0⟩, hE, hSR⟩ := hv
  have hx := Bk.exec
  have hb := Bk.bytes
  have hr := Bk.returns
  have hlocks := Bk.notSynchronized
  have hC : CallFix p m c cX12_compare 5 s _ wsX12_compare RX12 := ⟨hx, hb, hml, findClass_of_methodNamed Bk.named, atoms_spec (ws := wsX12_compare) Bk.pre⟩
  subst hsz
  have hD := hD0.self (sz := s.heap.size)
  generalize hAe : va_A w0 s.heap.size = A at hD hE ⊢
  have hA : ∀ q : Nat, s.heap.size ≤ q → A q := fun q h => by rw [← hAe]; exact Or.inr h
  have hw : Wd dC dI A s.heap s.heap [] w0 := ⟨hP, hD, va_S.rf⟩
  have hF : FE ksM [(12, 14, 14), (12, 15, 15), (12, 16, 16), (12, 18, 18), (61, 0, 2400), (62, 0, 7)] w0 w0 := FE.rf
  have hl := lv_entry ([.ref (ad 0)]) (n := 5) (Nat.le_of_ble_eq_true rfl)
  rw [lg_entry_eq]
  generalize (lg_sl ([.ref (ad 0)]) ++ List.replicate (5 - (lg_sl ([.ref (ad 0)])).length) Slot.unset).toArray = ls at hl ⊢
  have hl : lv_has ls 5 [(0, .ref (ad 0))] := hl
  generalize hloc : ([] : List Loc) = locs at hw ⊢
  have hinX12 : ∀ w ∈ u_ws RX12 TX12 42, w ∈ wsX12_compare := fun _ h => List.mem_cons_of_mem _ (List.mem_append_right _ (h))
  have J105 : ∀ (v105_1 : Int32) (v105_2 : Int32) (v105_3 : Int32) (f105_0_1 : Int32) (f105_0_14 : Int32) (f105_0_18 : Int32) (f105_3_2 : Int32) (H : Heap) (locs : List Loc) (ls : Array Slot) (w1 : va_W), 60 ≤ v105_1.toInt → v105_1.toInt ≤ 62 → 0 ≤ v105_2.toInt → v105_2.toInt ≤ 399 → 0 ≤ v105_3.toInt → v105_3.toInt ≤ 1 → 1 ≤ f105_0_1.toInt → f105_0_1.toInt ≤ 400 → 1 ≤ f105_0_14.toInt → f105_0_14.toInt ≤ 400 → 1 ≤ f105_0_18.toInt → f105_0_18.toInt ≤ 60 → 0 ≤ f105_3_2.toInt → f105_3_2.toInt ≤ 400 → Wd dC dI A s.heap H locs w1 → TW ksM ad cy B qr 12 w1 → FE ksM [(12, 14, 14), (12, 15, 15), (12, 16, 16), (12, 18, 18), (61, 0, 2400), (62, 0, 7)] w0 w1 → gi w1 0 1 = f105_0_1 → gi w1 0 14 = f105_0_14 → gi w1 0 17 = 2 → gi w1 0 18 = f105_0_18 → gi w1 3 2 = f105_3_2 → lv_has ls 5 [(0, .ref (ad 0)), (1, .int v105_1), (2, .int v105_2), (3, .int v105_3)] → W p l e ({ frames := 7, cells := 0, slots := 0, locals := 142 }) s m (List.toArray [.ref (ad 0)]) below meth c H locs 0 0 (MQ below (va_Qi (P_X12_compare_3 ad cy B qr s1  w0) (fun u : va_W => wpost dC dI cy A u) A) (List.toArray [.ref (ad 0)]) s 0 0 A) (F0 m 105 ls []) := by
    intro v105_1 v105_2 v105_3 f105_0_1 f105_0_14 f105_0_18 f105_3_2 H locs ls w1 r2 t3 r4 t5 r6 t7 r8 t9 r11 t12 r15 t16 r18 t19 hw hT hF c10 c13 c14 c17 c20 hl
    refine lv_aload_n hx hb dX12_compare_105 rfl (lv_at hl 0 rfl) ?_
    refine lv_iload_n hx hb dX12_compare_106 rfl (lv_at hl 2 rfl) ?_
    refine tk_Vi hC hK hw hT hA hE hSR kM_at0 (by decide) rfl (k_X12_makes_1 l adK adV dC dI cy ad B (by omega) (by omega) qr s1   v105_2 (show 0 ≤ v105_2.toInt by omega) (show v105_2.toInt ≤ 399 by omega) w1 H.size hT f105_0_18 c17 (show 0 ≤ f105_0_18.toInt by omega) (show f105_0_18.toInt ≤ 60 by omega)) (cwV 1 hC.2.2.2.2 gX12_compare_X12_makes rfl rfl rfl (by decide +kernel) ⟨Nat.le_of_ble_eq_true rfl, Nat.le_of_ble_eq_true rfl⟩) rfl hl.1 rfl (Nat.le_of_ble_eq_true rfl) dX12_compare_107 (fun r21 w23 H locs hp22 hw => ?_)
    obtain ⟨hT, k24, hg32⟩ := hp22
    have hF := hF.tr k24 (by decide)
    have c33 := k24.gi kM_at0 (by decide) c10
    have c34 := k24.gi kM_at0 (by decide) c13
    have c35 := k24.gi kM_at0 (by decide) c14
    have c36 := k24.gi kM_at3 (by decide) c20
    rcases hg32 with ⟨rfl, ⟨x25, c26, rx25, tx25⟩, ⟨x27, c28, rx27, tx27⟩⟩ | ⟨rfl, ⟨x29, c30, rx29, tx29⟩, g31⟩
    · refine lv_if_ne (tgt := 115) hx hb dX12_compare_110 (by decide) (fun c => absurd (by decide) c) (fun _ => ?_)
      refine lv_iconst (v := 0) hx hb dX12_compare_113 (by decide) ?_
      exact tk_zret hC hr rfl hlocks hK ⟨hT, hF, (Or.inl ⟨rfl, ⟨f105_0_1, c33, (show 1 ≤ f105_0_1.toInt by omega), (show f105_0_1.toInt ≤ 400 by omega)⟩, ⟨x25, c26, (show 1 ≤ x25.toInt by omega), (show x25.toInt ≤ 3205 by omega)⟩, ⟨2, c35, (by decide), (by decide)⟩⟩)⟩ hw dX12_compare_114
    · have g31 : x29.toInt = f105_0_18.toInt + 1 := by have q := g31; simp only [c17, c30] at q; omega
      refine lv_if_ne (tgt := 115) hx hb dX12_compare_110 (by decide) (fun _ => ?_) (fun c => absurd c (by decide))
      refine lv_iload_n hx hb dX12_compare_115 rfl (lv_at hl 1 rfl) ?_
      refine lv_bipush (v := 60) hx hb dX12_compare_116 (by decide) ?_
      refine lv_icmp_ne (tgt := 133) hx hb dX12_compare_118 (by decide) (fun c37 => ?_) (fun c37 => ?_)
      · have c37 : ¬ v105_1.toInt = (60 : Int) := wk_eqF c37
        refine lv_iload_n hx hb dX12_compare_133 rfl (lv_at hl 1 rfl) ?_
        refine lv_bipush (v := 61) hx hb dX12_compare_134 (by decide) ?_
        refine lv_icmp_ne (tgt := 143) hx hb dX12_compare_136 (by decide) (fun c38 => ?_) (fun c38 => ?_)
        · have c38 : ¬ v105_1.toInt = (61 : Int) := wk_eqF c38
          refine lv_iload_n hx hb dX12_compare_143 rfl (lv_at hl 3 rfl) ?_
          refine lv_if_eq (tgt := 151) hx hb dX12_compare_144 (by decide) (fun c39 => ?_) (fun c39 => ?_)
          · have c39 : v105_3.toInt = (0 : Int) := wk_eq.mp c39
            refine lv_iconst (v := 4) hx hb dX12_compare_151 (by decide) ?_
            refine lv_istore (lv' := [(4, .int 4), (0, .ref (ad 0)), (1, .int v105_1), (2, .int v105_2), (3, .int v105_3)]) hx hb dX12_compare_152 hl (by decide) rfl (fun ls hl => ?_)
            refine lv_aload_n hx hb dX12_compare_154 rfl (lv_at hl 1 rfl) ?_
            refine tk_Vi hC hK hw hT hA hE hSR kM_at0 (by decide) rfl (k_X12_sum_3 l adK adV dC dI cy ad B (by omega) (by omega) qr s1    w23 H.size hT c35 x29 c30 (show 0 ≤ x29.toInt by omega) (show x29.toInt ≤ 60 by omega) f105_3_2 c36 (show 0 ≤ f105_3_2.toInt by omega) (show f105_3_2.toInt ≤ 400 by omega) (show 3 * f105_3_2.toInt ≤ 14 * x29.toInt + 60 by omega) (show f105_3_2.toInt ≤ 300 by omega)) (cwV 0 hC.2.2.2.2 gX12_compare_X12_sum rfl rfl rfl (by decide +kernel) ⟨Nat.le_of_ble_eq_true rfl, Nat.le_of_ble_eq_true rfl⟩) rfl hl.1 rfl (Nat.le_of_ble_eq_true rfl) dX12_compare_155 (fun r40 w42 H locs hp41 hw => ?_)
            obtain ⟨hT, k43, hg72⟩ := hp41
            have hF := hF.tr k43 (by decide)
            have c73 := k43.gi kM_at0 (by decide) c33
            have c74 := k43.gi kM_at0 (by decide) c35
            rcases hg72 with ⟨rfl, ⟨x44, c45, rx44, tx44⟩, ⟨x46, c47, rx46, tx46⟩, ⟨x48, c49, rx48, tx48⟩⟩ | ⟨rfl, ⟨x50, c51, rx50, tx50⟩, ⟨x52, c53, rx52, tx52⟩, ⟨x54, c55, rx54, tx54⟩⟩ | ⟨rfl, ⟨x56, c57, rx56, tx56⟩, ⟨x58, c59, rx58, tx58⟩, ⟨x60, c61, rx60, tx60⟩, g62, g63⟩ | ⟨rfl, ⟨x64, c65, rx64, tx64⟩, ⟨x66, c67, rx66, tx66⟩, ⟨x68, c69, rx68, tx68⟩, g70, g71⟩
            · have ex44 : x44.toInt = f105_0_1.toInt := by rw [← c73.symm.trans c45]
              have ex48 : x48.toInt = (2 : Int) := by rw [show x48 = 2 from c49.symm.trans c74]; decide
              obtain ⟨x75, c76, rx75, tx75⟩ := hT.rda (lo := 0) (hi := 400) (i := 2) kM_at3 rfl rfl (by decide)
              obtain ⟨x77, c78, rx77, tx77⟩ := hT.rdi (lo := 0) (hi := 60) (k := 18) kM_at0 (by decide) rfl
              refine lv_if_ne (tgt := 163) hx hb dX12_compare_158 (by decide) (fun c => absurd (by decide) c) (fun _ => ?_)
              refine lv_iconst (v := 0) hx hb dX12_compare_161 (by decide) ?_
              exact tk_zret hC hr rfl hlocks hK ⟨hT, hF, (Or.inl ⟨rfl, ⟨f105_0_1, c73, (show 1 ≤ f105_0_1.toInt by omega), (show f105_0_1.toInt ≤ 400 by omega)⟩, ⟨x46, c47, (show 1 ≤ x46.toInt by omega), (show x46.toInt ≤ 3205 by omega)⟩, ⟨2, c74, (by decide), (by decide)⟩⟩)⟩ hw dX12_compare_162
            · have ex50 : x50.toInt = f105_0_1.toInt := by rw [← c73.symm.trans c51]
              have ex54 : x54.toInt = (2 : Int) := by rw [show x54 = 2 from c55.symm.trans c74]; decide
              obtain ⟨x79, c80, rx79, tx79⟩ := hT.rda (lo := 0) (hi := 400) (i := 2) kM_at3 rfl rfl (by decide)
              obtain ⟨x81, c82, rx81, tx81⟩ := hT.rdi (lo := 0) (hi := 60) (k := 18) kM_at0 (by decide) rfl
              refine lv_if_ne (tgt := 163) hx hb dX12_compare_158 (by decide) (fun c => absurd (by decide) c) (fun _ => ?_)
              refine lv_iconst (v := 0) hx hb dX12_compare_161 (by decide) ?_
              exact tk_zret hC hr rfl hlocks hK ⟨hT, hF, (Or.inl ⟨rfl, ⟨f105_0_1, c73, (show 1 ≤ f105_0_1.toInt by omega), (show f105_0_1.toInt ≤ 400 by omega)⟩, ⟨x52, c53, (show 1 ≤ x52.toInt by omega), (show x52.toInt ≤ 3205 by omega)⟩, ⟨2, c74, (by decide), (by decide)⟩⟩)⟩ hw dX12_compare_162
            · have ex56 : x56.toInt = f105_0_1.toInt := by rw [← c73.symm.trans c57]
              have ex58 : x58.toInt = (2 : Int) := by rw [show x58 = 2 from c59.symm.trans c74]; decide
              obtain ⟨x83, c84, rx83, tx83⟩ := hT.rda (lo := 0) (hi := 400) (i := 2) kM_at3 rfl rfl (by decide)
              have g62 : 3 * x83.toInt + 11 ≤ 3 * f105_3_2.toInt + 14 * (x60.toInt - x29.toInt) := by have q := g62; simp only [c36, c84, c30, c61] at q; omega
              have g63 : x29.toInt + 1 ≤ x60.toInt := by have q := g63; simp only [c30, c61] at q; omega
              refine lv_if_ne (tgt := 163) hx hb dX12_compare_158 (by decide) (fun _ => ?_) (fun c => absurd c (by decide))
              refine lv_aload_n hx hb dX12_compare_163 rfl (lv_at hl 1 rfl) ?_
              refine lv_bipush (v := 6) hx hb dX12_compare_164 (by decide) ?_
              refine lv_iload hx hb dX12_compare_166 (lv_at hl 0 rfl) ?_
              refine lv_iadd hx hb dX12_compare_168 ?_
              refine wk_top 10 (by decide) ?_
              refine lv_iconst (v := 0) hx hb dX12_compare_169 (by decide) ?_
              refine tk_Vv hC hK hw hT hA hE hSR kM_at0 (by decide) rfl (k_X12_puts_6 l adK adV dC dI cy ad B (by omega) (by omega) qr s1   10 (by decide) (by decide) 0 w42 H.size hT c74 x83 c84 (show 0 ≤ x83.toInt by omega) (show x83.toInt ≤ 400 by omega) (show x83.toInt ≤ 399 by omega)) (cwV 2 hC.2.2.2.2 gX12_compare_X12_puts rfl rfl rfl (by decide +kernel) ⟨Nat.le_of_ble_eq_true rfl, Nat.le_of_ble_eq_true rfl⟩) rfl hl.1 rfl (Nat.le_of_ble_eq_true rfl) dX12_compare_170 (fun w89 H locs hp88 hw => ?_)
              obtain ⟨hT, k90, hg94⟩ := hp88
              have hF := hF.tr k90 (by decide)
              have c95 := k90.gi kM_at0 (by decide) c73
              have c96 := k90.gi kM_at0 (by decide) c74
              have c97 := k90.gi kM_at0 (by decide) c61
              obtain ⟨⟨x91, c92, rx91, tx91⟩, g93⟩ := hg94
              have ex91 : x91.toInt = (2 : Int) := by rw [show x91 = 2 from c92.symm.trans c96]; decide
              obtain ⟨x98, c99, rx98, tx98⟩ := hT.rda (lo := 0) (hi := 400) (i := 2) kM_at3 rfl rfl (by decide)
              have g93 : x98.toInt = x83.toInt + 1 := by have q := g93; simp only [c84, c99] at q; omega
              refine lv_iconst (v := 1) hx hb dX12_compare_173 (by decide) ?_
              exact tk_zret hC hr rfl hlocks hK ⟨hT, hF, (Or.inr (Or.inr ⟨rfl, ⟨f105_0_1, c95, (show 1 ≤ f105_0_1.toInt by omega), (show f105_0_1.toInt ≤ 400 by omega)⟩, ⟨2, c96, (by decide), (by decide)⟩, ⟨x60, c97, (show 1 ≤ x60.toInt by omega), (show x60.toInt ≤ 60 by omega)⟩, (by simp only [cf2_, c99, cf1_, c97]; omega), (by simp only [cf1_, c97]; omega)⟩))⟩ hw dX12_compare_174
            · have ex64 : x64.toInt = f105_0_1.toInt := by rw [← c73.symm.trans c65]
              have ex66 : x66.toInt = (2 : Int) := by rw [show x66 = 2 from c67.symm.trans c74]; decide
              obtain ⟨x85, c86, rx85, tx85⟩ := hT.rda (lo := 0) (hi := 400) (i := 2) kM_at3 rfl rfl (by decide)
              have g70 : 3 * x85.toInt + 11 ≤ 3 * f105_3_2.toInt + 14 * (x68.toInt - x29.toInt) := by have q := g70; simp only [c36, c86, c30, c69] at q; omega
              have g71 : x29.toInt + 1 ≤ x68.toInt := by have q := g71; simp only [c30, c69] at q; omega
              refine lv_if_ne (tgt := 163) hx hb dX12_compare_158 (by decide) (fun _ => ?_) (fun c => absurd c (by decide))
              refine lv_aload_n hx hb dX12_compare_163 rfl (lv_at hl 1 rfl) ?_
              refine lv_bipush (v := 6) hx hb dX12_compare_164 (by decide) ?_
              refine lv_iload hx hb dX12_compare_166 (lv_at hl 0 rfl) ?_
              refine lv_iadd hx hb dX12_compare_168 ?_
              refine wk_top 10 (by decide) ?_
              refine lv_iconst (v := 0) hx hb dX12_compare_169 (by decide) ?_
              refine tk_Vv hC hK hw hT hA hE hSR kM_at0 (by decide) rfl (k_X12_puts_6 l adK adV dC dI cy ad B (by omega) (by omega) qr s1   10 (by decide) (by decide) 0 w42 H.size hT c74 x85 c86 (show 0 ≤ x85.toInt by omega) (show x85.toInt ≤ 400 by omega) (show x85.toInt ≤ 399 by omega)) (cwV 2 hC.2.2.2.2 gX12_compare_X12_puts rfl rfl rfl (by decide +kernel) ⟨Nat.le_of_ble_eq_true rfl, Nat.le_of_ble_eq_true rfl⟩) rfl hl.1 rfl (Nat.le_of_ble_eq_true rfl) dX12_compare_170 (fun w102 H locs hp101 hw => ?_)
              obtain ⟨hT, k103, hg107⟩ := hp101
              have hF := hF.tr k103 (by decide)
              have c108 := k103.gi kM_at0 (by decide) c73
              have c109 := k103.gi kM_at0 (by decide) c74
              have c110 := k103.gi kM_at0 (by decide) c69
              obtain ⟨⟨x104, c105, rx104, tx104⟩, g106⟩ := hg107
              have ex104 : x104.toInt = (2 : Int) := by rw [show x104 = 2 from c105.symm.trans c109]; decide
              obtain ⟨x111, c112, rx111, tx111⟩ := hT.rda (lo := 0) (hi := 400) (i := 2) kM_at3 rfl rfl (by decide)
              have g106 : x111.toInt = x85.toInt + 1 := by have q := g106; simp only [c86, c112] at q; omega
              refine lv_iconst (v := 1) hx hb dX12_compare_173 (by decide) ?_
              exact tk_zret hC hr rfl hlocks hK ⟨hT, hF, (Or.inr (Or.inr ⟨rfl, ⟨f105_0_1, c108, (show 1 ≤ f105_0_1.toInt by omega), (show f105_0_1.toInt ≤ 400 by omega)⟩, ⟨2, c109, (by decide), (by decide)⟩, ⟨x68, c110, (show 1 ≤ x68.toInt by omega), (show x68.toInt ≤ 60 by omega)⟩, (by simp only [cf2_, c112, cf1_, c110]; omega), (by simp only [cf1_, c110]; omega)⟩))⟩ hw dX12_compare_174
          · have c39 : ¬ v105_3.toInt = (0 : Int) := wk_eqF c39
            refine lv_iconst (v := 3) hx hb dX12_compare_147 (by decide) ?_
            refine lv_goto (tgt := 152) hx hb dX12_compare_148 (by decide) ?_
            refine lv_istore (lv' := [(4, .int 3), (0, .ref (ad 0)), (1, .int v105_1), (2, .int v105_2), (3, .int v105_3)]) hx hb dX12_compare_152 hl (by decide) rfl (fun ls hl => ?_)
            refine lv_aload_n hx hb dX12_compare_154 rfl (lv_at hl 1 rfl) ?_
            refine tk_Vi hC hK hw hT hA hE hSR kM_at0 (by decide) rfl (k_X12_sum_3 l adK adV dC dI cy ad B (by omega) (by omega) qr s1    w23 H.size hT c35 x29 c30 (show 0 ≤ x29.toInt by omega) (show x29.toInt ≤ 60 by omega) f105_3_2 c36 (show 0 ≤ f105_3_2.toInt by omega) (show f105_3_2.toInt ≤ 400 by omega) (show 3 * f105_3_2.toInt ≤ 14 * x29.toInt + 60 by omega) (show f105_3_2.toInt ≤ 300 by omega)) (cwV 0 hC.2.2.2.2 gX12_compare_X12_sum rfl rfl rfl (by decide +kernel) ⟨Nat.le_of_ble_eq_true rfl, Nat.le_of_ble_eq_true rfl⟩) rfl hl.1 rfl (Nat.le_of_ble_eq_true rfl) dX12_compare_155 (fun r113 w115 H locs hp114 hw => ?_)
            obtain ⟨hT, k116, hg145⟩ := hp114
            have hF := hF.tr k116 (by decide)
            have c146 := k116.gi kM_at0 (by decide) c33
            have c147 := k116.gi kM_at0 (by decide) c35
            rcases hg145 with ⟨rfl, ⟨x117, c118, rx117, tx117⟩, ⟨x119, c120, rx119, tx119⟩, ⟨x121, c122, rx121, tx121⟩⟩ | ⟨rfl, ⟨x123, c124, rx123, tx123⟩, ⟨x125, c126, rx125, tx125⟩, ⟨x127, c128, rx127, tx127⟩⟩ | ⟨rfl, ⟨x129, c130, rx129, tx129⟩, ⟨x131, c132, rx131, tx131⟩, ⟨x133, c134, rx133, tx133⟩, g135, g136⟩ | ⟨rfl, ⟨x137, c138, rx137, tx137⟩, ⟨x139, c140, rx139, tx139⟩, ⟨x141, c142, rx141, tx141⟩, g143, g144⟩
            · have ex117 : x117.toInt = f105_0_1.toInt := by rw [← c146.symm.trans c118]
              have ex121 : x121.toInt = (2 : Int) := by rw [show x121 = 2 from c122.symm.trans c147]; decide
              obtain ⟨x148, c149, rx148, tx148⟩ := hT.rda (lo := 0) (hi := 400) (i := 2) kM_at3 rfl rfl (by decide)
              obtain ⟨x150, c151, rx150, tx150⟩ := hT.rdi (lo := 0) (hi := 60) (k := 18) kM_at0 (by decide) rfl
              refine lv_if_ne (tgt := 163) hx hb dX12_compare_158 (by decide) (fun c => absurd (by decide) c) (fun _ => ?_)
              refine lv_iconst (v := 0) hx hb dX12_compare_161 (by decide) ?_
              exact tk_zret hC hr rfl hlocks hK ⟨hT, hF, (Or.inl ⟨rfl, ⟨f105_0_1, c146, (show 1 ≤ f105_0_1.toInt by omega), (show f105_0_1.toInt ≤ 400 by omega)⟩, ⟨x119, c120, (show 1 ≤ x119.toInt by omega), (show x119.toInt ≤ 3205 by omega)⟩, ⟨2, c147, (by decide), (by decide)⟩⟩)⟩ hw dX12_compare_162
            · have ex123 : x123.toInt = f105_0_1.toInt := by rw [← c146.symm.trans c124]
              have ex127 : x127.toInt = (2 : Int) := by rw [show x127 = 2 from c128.symm.trans c147]; decide
              obtain ⟨x152, c153, rx152, tx152⟩ := hT.rda (lo := 0) (hi := 400) (i := 2) kM_at3 rfl rfl (by decide)
              obtain ⟨x154, c155, rx154, tx154⟩ := hT.rdi (lo := 0) (hi := 60) (k := 18) kM_at0 (by decide) rfl
              refine lv_if_ne (tgt := 163) hx hb dX12_compare_158 (by decide) (fun c => absurd (by decide) c) (fun _ => ?_)
              refine lv_iconst (v := 0) hx hb dX12_compare_161 (by decide) ?_
              exact tk_zret hC hr rfl hlocks hK ⟨hT, hF, (Or.inl ⟨rfl, ⟨f105_0_1, c146, (show 1 ≤ f105_0_1.toInt by omega), (show f105_0_1.toInt ≤ 400 by omega)⟩, ⟨x125, c126, (show 1 ≤ x125.toInt by omega), (show x125.toInt ≤ 3205 by omega)⟩, ⟨2, c147, (by decide), (by decide)⟩⟩)⟩ hw dX12_compare_162
            · have ex129 : x129.toInt = f105_0_1.toInt := by rw [← c146.symm.trans c130]
              have ex131 : x131.toInt = (2 : Int) := by rw [show x131 = 2 from c132.symm.trans c147]; decide
              obtain ⟨x156, c157, rx156, tx156⟩ := hT.rda (lo := 0) (hi := 400) (i := 2) kM_at3 rfl rfl (by decide)
              have g135 : 3 * x156.toInt + 11 ≤ 3 * f105_3_2.toInt + 14 * (x133.toInt - x29.toInt) := by have q := g135; simp only [c36, c157, c30, c134] at q; omega
              have g136 : x29.toInt + 1 ≤ x133.toInt := by have q := g136; simp only [c30, c134] at q; omega
              refine lv_if_ne (tgt := 163) hx hb dX12_compare_158 (by decide) (fun _ => ?_) (fun c => absurd c (by decide))
              refine lv_aload_n hx hb dX12_compare_163 rfl (lv_at hl 1 rfl) ?_
              refine lv_bipush (v := 6) hx hb dX12_compare_164 (by decide) ?_
              refine lv_iload hx hb dX12_compare_166 (lv_at hl 0 rfl) ?_
              refine lv_iadd hx hb dX12_compare_168 ?_
              refine wk_top 9 (by decide) ?_
              refine lv_iconst (v := 0) hx hb dX12_compare_169 (by decide) ?_
              refine tk_Vv hC hK hw hT hA hE hSR kM_at0 (by decide) rfl (k_X12_puts_6 l adK adV dC dI cy ad B (by omega) (by omega) qr s1   9 (by decide) (by decide) 0 w115 H.size hT c147 x156 c157 (show 0 ≤ x156.toInt by omega) (show x156.toInt ≤ 400 by omega) (show x156.toInt ≤ 399 by omega)) (cwV 2 hC.2.2.2.2 gX12_compare_X12_puts rfl rfl rfl (by decide +kernel) ⟨Nat.le_of_ble_eq_true rfl, Nat.le_of_ble_eq_true rfl⟩) rfl hl.1 rfl (Nat.le_of_ble_eq_true rfl) dX12_compare_170 (fun w162 H locs hp161 hw => ?_)
              obtain ⟨hT, k163, hg167⟩ := hp161
              have hF := hF.tr k163 (by decide)
              have c168 := k163.gi kM_at0 (by decide) c146
              have c169 := k163.gi kM_at0 (by decide) c147
              have c170 := k163.gi kM_at0 (by decide) c134
              obtain ⟨⟨x164, c165, rx164, tx164⟩, g166⟩ := hg167
              have ex164 : x164.toInt = (2 : Int) := by rw [show x164 = 2 from c165.symm.trans c169]; decide
              obtain ⟨x171, c172, rx171, tx171⟩ := hT.rda (lo := 0) (hi := 400) (i := 2) kM_at3 rfl rfl (by decide)
              have g166 : x171.toInt = x156.toInt + 1 := by have q := g166; simp only [c157, c172] at q; omega
              refine lv_iconst (v := 1) hx hb dX12_compare_173 (by decide) ?_
              exact tk_zret hC hr rfl hlocks hK ⟨hT, hF, (Or.inr (Or.inr ⟨rfl, ⟨f105_0_1, c168, (show 1 ≤ f105_0_1.toInt by omega), (show f105_0_1.toInt ≤ 400 by omega)⟩, ⟨2, c169, (by decide), (by decide)⟩, ⟨x133, c170, (show 1 ≤ x133.toInt by omega), (show x133.toInt ≤ 60 by omega)⟩, (by simp only [cf2_, c172, cf1_, c170]; omega), (by simp only [cf1_, c170]; omega)⟩))⟩ hw dX12_compare_174
            · have ex137 : x137.toInt = f105_0_1.toInt := by rw [← c146.symm.trans c138]
              have ex139 : x139.toInt = (2 : Int) := by rw [show x139 = 2 from c140.symm.trans c147]; decide
              obtain ⟨x158, c159, rx158, tx158⟩ := hT.rda (lo := 0) (hi := 400) (i := 2) kM_at3 rfl rfl (by decide)
              have g143 : 3 * x158.toInt + 11 ≤ 3 * f105_3_2.toInt + 14 * (x141.toInt - x29.toInt) := by have q := g143; simp only [c36, c159, c30, c142] at q; omega
              have g144 : x29.toInt + 1 ≤ x141.toInt := by have q := g144; simp only [c30, c142] at q; omega
              refine lv_if_ne (tgt := 163) hx hb dX12_compare_158 (by decide) (fun _ => ?_) (fun c => absurd c (by decide))
              refine lv_aload_n hx hb dX12_compare_163 rfl (lv_at hl 1 rfl) ?_
              refine lv_bipush (v := 6) hx hb dX12_compare_164 (by decide) ?_
              refine lv_iload hx hb dX12_compare_166 (lv_at hl 0 rfl) ?_
              refine lv_iadd hx hb dX12_compare_168 ?_
              refine wk_top 9 (by decide) ?_
              refine lv_iconst (v := 0) hx hb dX12_compare_169 (by decide) ?_
              refine tk_Vv hC hK hw hT hA hE hSR kM_at0 (by decide) rfl (k_X12_puts_6 l adK adV dC dI cy ad B (by omega) (by omega) qr s1   9 (by decide) (by decide) 0 w115 H.size hT c147 x158 c159 (show 0 ≤ x158.toInt by omega) (show x158.toInt ≤ 400 by omega) (show x158.toInt ≤ 399 by omega)) (cwV 2 hC.2.2.2.2 gX12_compare_X12_puts rfl rfl rfl (by decide +kernel) ⟨Nat.le_of_ble_eq_true rfl, Nat.le_of_ble_eq_true rfl⟩) rfl hl.1 rfl (Nat.le_of_ble_eq_true rfl) dX12_compare_170 (fun w175 H locs hp174 hw => ?_)
              obtain ⟨hT, k176, hg180⟩ := hp174
              have hF := hF.tr k176 (by decide)
              have c181 := k176.gi kM_at0 (by decide) c146
              have c182 := k176.gi kM_at0 (by decide) c147
              have c183 := k176.gi kM_at0 (by decide) c142
              obtain ⟨⟨x177, c178, rx177, tx177⟩, g179⟩ := hg180
              have ex177 : x177.toInt = (2 : Int) := by rw [show x177 = 2 from c178.symm.trans c182]; decide
              obtain ⟨x184, c185, rx184, tx184⟩ := hT.rda (lo := 0) (hi := 400) (i := 2) kM_at3 rfl rfl (by decide)
              have g179 : x184.toInt = x158.toInt + 1 := by have q := g179; simp only [c159, c185] at q; omega
              refine lv_iconst (v := 1) hx hb dX12_compare_173 (by decide) ?_
              exact tk_zret hC hr rfl hlocks hK ⟨hT, hF, (Or.inr (Or.inr ⟨rfl, ⟨f105_0_1, c181, (show 1 ≤ f105_0_1.toInt by omega), (show f105_0_1.toInt ≤ 400 by omega)⟩, ⟨2, c182, (by decide), (by decide)⟩, ⟨x141, c183, (show 1 ≤ x141.toInt by omega), (show x141.toInt ≤ 60 by omega)⟩, (by simp only [cf2_, c185, cf1_, c183]; omega), (by simp only [cf1_, c183]; omega)⟩))⟩ hw dX12_compare_174
        · have c38 : v105_1.toInt = (61 : Int) := wk_eq.mp c38
          refine lv_iconst (v := 2) hx hb dX12_compare_139 (by decide) ?_
          refine lv_goto (tgt := 152) hx hb dX12_compare_140 (by decide) ?_
          refine lv_istore (lv' := [(4, .int 2), (0, .ref (ad 0)), (1, .int v105_1), (2, .int v105_2), (3, .int v105_3)]) hx hb dX12_compare_152 hl (by decide) rfl (fun ls hl => ?_)
          refine lv_aload_n hx hb dX12_compare_154 rfl (lv_at hl 1 rfl) ?_
          refine tk_Vi hC hK hw hT hA hE hSR kM_at0 (by decide) rfl (k_X12_sum_3 l adK adV dC dI cy ad B (by omega) (by omega) qr s1    w23 H.size hT c35 x29 c30 (show 0 ≤ x29.toInt by omega) (show x29.toInt ≤ 60 by omega) f105_3_2 c36 (show 0 ≤ f105_3_2.toInt by omega) (show f105_3_2.toInt ≤ 400 by omega) (show 3 * f105_3_2.toInt ≤ 14 * x29.toInt + 60 by omega) (show f105_3_2.toInt ≤ 300 by omega)) (cwV 0 hC.2.2.2.2 gX12_compare_X12_sum rfl rfl rfl (by decide +kernel) ⟨Nat.le_of_ble_eq_true rfl, Nat.le_of_ble_eq_true rfl⟩) rfl hl.1 rfl (Nat.le_of_ble_eq_true rfl) dX12_compare_155 (fun r186 w188 H locs hp187 hw => ?_)
          obtain ⟨hT, k189, hg218⟩ := hp187
          have hF := hF.tr k189 (by decide)
          have c219 := k189.gi kM_at0 (by decide) c33
          have c220 := k189.gi kM_at0 (by decide) c35
          rcases hg218 with ⟨rfl, ⟨x190, c191, rx190, tx190⟩, ⟨x192, c193, rx192, tx192⟩, ⟨x194, c195, rx194, tx194⟩⟩ | ⟨rfl, ⟨x196, c197, rx196, tx196⟩, ⟨x198, c199, rx198, tx198⟩, ⟨x200, c201, rx200, tx200⟩⟩ | ⟨rfl, ⟨x202, c203, rx202, tx202⟩, ⟨x204, c205, rx204, tx204⟩, ⟨x206, c207, rx206, tx206⟩, g208, g209⟩ | ⟨rfl, ⟨x210, c211, rx210, tx210⟩, ⟨x212, c213, rx212, tx212⟩, ⟨x214, c215, rx214, tx214⟩, g216, g217⟩
          · have ex190 : x190.toInt = f105_0_1.toInt := by rw [← c219.symm.trans c191]
            have ex194 : x194.toInt = (2 : Int) := by rw [show x194 = 2 from c195.symm.trans c220]; decide
            obtain ⟨x221, c222, rx221, tx221⟩ := hT.rda (lo := 0) (hi := 400) (i := 2) kM_at3 rfl rfl (by decide)
            obtain ⟨x223, c224, rx223, tx223⟩ := hT.rdi (lo := 0) (hi := 60) (k := 18) kM_at0 (by decide) rfl
            refine lv_if_ne (tgt := 163) hx hb dX12_compare_158 (by decide) (fun c => absurd (by decide) c) (fun _ => ?_)
            refine lv_iconst (v := 0) hx hb dX12_compare_161 (by decide) ?_
            exact tk_zret hC hr rfl hlocks hK ⟨hT, hF, (Or.inl ⟨rfl, ⟨f105_0_1, c219, (show 1 ≤ f105_0_1.toInt by omega), (show f105_0_1.toInt ≤ 400 by omega)⟩, ⟨x192, c193, (show 1 ≤ x192.toInt by omega), (show x192.toInt ≤ 3205 by omega)⟩, ⟨2, c220, (by decide), (by decide)⟩⟩)⟩ hw dX12_compare_162
          · have ex196 : x196.toInt = f105_0_1.toInt := by rw [← c219.symm.trans c197]
            have ex200 : x200.toInt = (2 : Int) := by rw [show x200 = 2 from c201.symm.trans c220]; decide
            obtain ⟨x225, c226, rx225, tx225⟩ := hT.rda (lo := 0) (hi := 400) (i := 2) kM_at3 rfl rfl (by decide)
            obtain ⟨x227, c228, rx227, tx227⟩ := hT.rdi (lo := 0) (hi := 60) (k := 18) kM_at0 (by decide) rfl
            refine lv_if_ne (tgt := 163) hx hb dX12_compare_158 (by decide) (fun c => absurd (by decide) c) (fun _ => ?_)
            refine lv_iconst (v := 0) hx hb dX12_compare_161 (by decide) ?_
            exact tk_zret hC hr rfl hlocks hK ⟨hT, hF, (Or.inl ⟨rfl, ⟨f105_0_1, c219, (show 1 ≤ f105_0_1.toInt by omega), (show f105_0_1.toInt ≤ 400 by omega)⟩, ⟨x198, c199, (show 1 ≤ x198.toInt by omega), (show x198.toInt ≤ 3205 by omega)⟩, ⟨2, c220, (by decide), (by decide)⟩⟩)⟩ hw dX12_compare_162
          · have ex202 : x202.toInt = f105_0_1.toInt := by rw [← c219.symm.trans c203]
            have ex204 : x204.toInt = (2 : Int) := by rw [show x204 = 2 from c205.symm.trans c220]; decide
            obtain ⟨x229, c230, rx229, tx229⟩ := hT.rda (lo := 0) (hi := 400) (i := 2) kM_at3 rfl rfl (by decide)
            have g208 : 3 * x229.toInt + 11 ≤ 3 * f105_3_2.toInt + 14 * (x206.toInt - x29.toInt) := by have q := g208; simp only [c36, c230, c30, c207] at q; omega
            have g209 : x29.toInt + 1 ≤ x206.toInt := by have q := g209; simp only [c30, c207] at q; omega
            refine lv_if_ne (tgt := 163) hx hb dX12_compare_158 (by decide) (fun _ => ?_) (fun c => absurd c (by decide))
            refine lv_aload_n hx hb dX12_compare_163 rfl (lv_at hl 1 rfl) ?_
            refine lv_bipush (v := 6) hx hb dX12_compare_164 (by decide) ?_
            refine lv_iload hx hb dX12_compare_166 (lv_at hl 0 rfl) ?_
            refine lv_iadd hx hb dX12_compare_168 ?_
            refine wk_top 8 (by decide) ?_
            refine lv_iconst (v := 0) hx hb dX12_compare_169 (by decide) ?_
            refine tk_Vv hC hK hw hT hA hE hSR kM_at0 (by decide) rfl (k_X12_puts_6 l adK adV dC dI cy ad B (by omega) (by omega) qr s1   8 (by decide) (by decide) 0 w188 H.size hT c220 x229 c230 (show 0 ≤ x229.toInt by omega) (show x229.toInt ≤ 400 by omega) (show x229.toInt ≤ 399 by omega)) (cwV 2 hC.2.2.2.2 gX12_compare_X12_puts rfl rfl rfl (by decide +kernel) ⟨Nat.le_of_ble_eq_true rfl, Nat.le_of_ble_eq_true rfl⟩) rfl hl.1 rfl (Nat.le_of_ble_eq_true rfl) dX12_compare_170 (fun w235 H locs hp234 hw => ?_)
            obtain ⟨hT, k236, hg240⟩ := hp234
            have hF := hF.tr k236 (by decide)
            have c241 := k236.gi kM_at0 (by decide) c219
            have c242 := k236.gi kM_at0 (by decide) c220
            have c243 := k236.gi kM_at0 (by decide) c207
            obtain ⟨⟨x237, c238, rx237, tx237⟩, g239⟩ := hg240
            have ex237 : x237.toInt = (2 : Int) := by rw [show x237 = 2 from c238.symm.trans c242]; decide
            obtain ⟨x244, c245, rx244, tx244⟩ := hT.rda (lo := 0) (hi := 400) (i := 2) kM_at3 rfl rfl (by decide)
            have g239 : x244.toInt = x229.toInt + 1 := by have q := g239; simp only [c230, c245] at q; omega
            refine lv_iconst (v := 1) hx hb dX12_compare_173 (by decide) ?_
            exact tk_zret hC hr rfl hlocks hK ⟨hT, hF, (Or.inr (Or.inr ⟨rfl, ⟨f105_0_1, c241, (show 1 ≤ f105_0_1.toInt by omega), (show f105_0_1.toInt ≤ 400 by omega)⟩, ⟨2, c242, (by decide), (by decide)⟩, ⟨x206, c243, (show 1 ≤ x206.toInt by omega), (show x206.toInt ≤ 60 by omega)⟩, (by simp only [cf2_, c245, cf1_, c243]; omega), (by simp only [cf1_, c243]; omega)⟩))⟩ hw dX12_compare_174
          · have ex210 : x210.toInt = f105_0_1.toInt := by rw [← c219.symm.trans c211]
            have ex212 : x212.toInt = (2 : Int) := by rw [show x212 = 2 from c213.symm.trans c220]; decide
            obtain ⟨x231, c232, rx231, tx231⟩ := hT.rda (lo := 0) (hi := 400) (i := 2) kM_at3 rfl rfl (by decide)
            have g216 : 3 * x231.toInt + 11 ≤ 3 * f105_3_2.toInt + 14 * (x214.toInt - x29.toInt) := by have q := g216; simp only [c36, c232, c30, c215] at q; omega
            have g217 : x29.toInt + 1 ≤ x214.toInt := by have q := g217; simp only [c30, c215] at q; omega
            refine lv_if_ne (tgt := 163) hx hb dX12_compare_158 (by decide) (fun _ => ?_) (fun c => absurd c (by decide))
            refine lv_aload_n hx hb dX12_compare_163 rfl (lv_at hl 1 rfl) ?_
            refine lv_bipush (v := 6) hx hb dX12_compare_164 (by decide) ?_
            refine lv_iload hx hb dX12_compare_166 (lv_at hl 0 rfl) ?_
            refine lv_iadd hx hb dX12_compare_168 ?_
            refine wk_top 8 (by decide) ?_
            refine lv_iconst (v := 0) hx hb dX12_compare_169 (by decide) ?_
            refine tk_Vv hC hK hw hT hA hE hSR kM_at0 (by decide) rfl (k_X12_puts_6 l adK adV dC dI cy ad B (by omega) (by omega) qr s1   8 (by decide) (by decide) 0 w188 H.size hT c220 x231 c232 (show 0 ≤ x231.toInt by omega) (show x231.toInt ≤ 400 by omega) (show x231.toInt ≤ 399 by omega)) (cwV 2 hC.2.2.2.2 gX12_compare_X12_puts rfl rfl rfl (by decide +kernel) ⟨Nat.le_of_ble_eq_true rfl, Nat.le_of_ble_eq_true rfl⟩) rfl hl.1 rfl (Nat.le_of_ble_eq_true rfl) dX12_compare_170 (fun w248 H locs hp247 hw => ?_)
            obtain ⟨hT, k249, hg253⟩ := hp247
            have hF := hF.tr k249 (by decide)
            have c254 := k249.gi kM_at0 (by decide) c219
            have c255 := k249.gi kM_at0 (by decide) c220
            have c256 := k249.gi kM_at0 (by decide) c215
            obtain ⟨⟨x250, c251, rx250, tx250⟩, g252⟩ := hg253
            have ex250 : x250.toInt = (2 : Int) := by rw [show x250 = 2 from c251.symm.trans c255]; decide
            obtain ⟨x257, c258, rx257, tx257⟩ := hT.rda (lo := 0) (hi := 400) (i := 2) kM_at3 rfl rfl (by decide)
            have g252 : x257.toInt = x231.toInt + 1 := by have q := g252; simp only [c232, c258] at q; omega
            refine lv_iconst (v := 1) hx hb dX12_compare_173 (by decide) ?_
            exact tk_zret hC hr rfl hlocks hK ⟨hT, hF, (Or.inr (Or.inr ⟨rfl, ⟨f105_0_1, c254, (show 1 ≤ f105_0_1.toInt by omega), (show f105_0_1.toInt ≤ 400 by omega)⟩, ⟨2, c255, (by decide), (by decide)⟩, ⟨x214, c256, (show 1 ≤ x214.toInt by omega), (show x214.toInt ≤ 60 by omega)⟩, (by simp only [cf2_, c258, cf1_, c256]; omega), (by simp only [cf1_, c256]; omega)⟩))⟩ hw dX12_compare_174
      · have c37 : v105_1.toInt = (60 : Int) := wk_eq.mp c37
        refine lv_iload_n hx hb dX12_compare_121 rfl (lv_at hl 3 rfl) ?_
        refine lv_if_eq (tgt := 129) hx hb dX12_compare_122 (by decide) (fun c259 => ?_) (fun c259 => ?_)
        · have c259 : v105_3.toInt = (0 : Int) := wk_eq.mp c259
          refine lv_iconst (v := 0) hx hb dX12_compare_129 (by decide) ?_
          refine lv_goto (tgt := 152) hx hb dX12_compare_130 (by decide) ?_
          refine lv_istore (lv' := [(4, .int 0), (0, .ref (ad 0)), (1, .int v105_1), (2, .int v105_2), (3, .int v105_3)]) hx hb dX12_compare_152 hl (by decide) rfl (fun ls hl => ?_)
          refine lv_aload_n hx hb dX12_compare_154 rfl (lv_at hl 1 rfl) ?_
          refine tk_Vi hC hK hw hT hA hE hSR kM_at0 (by decide) rfl (k_X12_sum_3 l adK adV dC dI cy ad B (by omega) (by omega) qr s1    w23 H.size hT c35 x29 c30 (show 0 ≤ x29.toInt by omega) (show x29.toInt ≤ 60 by omega) f105_3_2 c36 (show 0 ≤ f105_3_2.toInt by omega) (show f105_3_2.toInt ≤ 400 by omega) (show 3 * f105_3_2.toInt ≤ 14 * x29.toInt + 60 by omega) (show f105_3_2.toInt ≤ 300 by omega)) (cwV 0 hC.2.2.2.2 gX12_compare_X12_sum rfl rfl rfl (by decide +kernel) ⟨Nat.le_of_ble_eq_true rfl, Nat.le_of_ble_eq_true rfl⟩) rfl hl.1 rfl (Nat.le_of_ble_eq_true rfl) dX12_compare_155 (fun r260 w262 H locs hp261 hw => ?_)
          obtain ⟨hT, k263, hg292⟩ := hp261
          have hF := hF.tr k263 (by decide)
          have c293 := k263.gi kM_at0 (by decide) c33
          have c294 := k263.gi kM_at0 (by decide) c35
          rcases hg292 with ⟨rfl, ⟨x264, c265, rx264, tx264⟩, ⟨x266, c267, rx266, tx266⟩, ⟨x268, c269, rx268, tx268⟩⟩ | ⟨rfl, ⟨x270, c271, rx270, tx270⟩, ⟨x272, c273, rx272, tx272⟩, ⟨x274, c275, rx274, tx274⟩⟩ | ⟨rfl, ⟨x276, c277, rx276, tx276⟩, ⟨x278, c279, rx278, tx278⟩, ⟨x280, c281, rx280, tx280⟩, g282, g283⟩ | ⟨rfl, ⟨x284, c285, rx284, tx284⟩, ⟨x286, c287, rx286, tx286⟩, ⟨x288, c289, rx288, tx288⟩, g290, g291⟩
          · have ex264 : x264.toInt = f105_0_1.toInt := by rw [← c293.symm.trans c265]
            have ex268 : x268.toInt = (2 : Int) := by rw [show x268 = 2 from c269.symm.trans c294]; decide
            obtain ⟨x295, c296, rx295, tx295⟩ := hT.rda (lo := 0) (hi := 400) (i := 2) kM_at3 rfl rfl (by decide)
            obtain ⟨x297, c298, rx297, tx297⟩ := hT.rdi (lo := 0) (hi := 60) (k := 18) kM_at0 (by decide) rfl
            refine lv_if_ne (tgt := 163) hx hb dX12_compare_158 (by decide) (fun c => absurd (by decide) c) (fun _ => ?_)
            refine lv_iconst (v := 0) hx hb dX12_compare_161 (by decide) ?_
            exact tk_zret hC hr rfl hlocks hK ⟨hT, hF, (Or.inl ⟨rfl, ⟨f105_0_1, c293, (show 1 ≤ f105_0_1.toInt by omega), (show f105_0_1.toInt ≤ 400 by omega)⟩, ⟨x266, c267, (show 1 ≤ x266.toInt by omega), (show x266.toInt ≤ 3205 by omega)⟩, ⟨2, c294, (by decide), (by decide)⟩⟩)⟩ hw dX12_compare_162
          · have ex270 : x270.toInt = f105_0_1.toInt := by rw [← c293.symm.trans c271]
            have ex274 : x274.toInt = (2 : Int) := by rw [show x274 = 2 from c275.symm.trans c294]; decide
            obtain ⟨x299, c300, rx299, tx299⟩ := hT.rda (lo := 0) (hi := 400) (i := 2) kM_at3 rfl rfl (by decide)
            obtain ⟨x301, c302, rx301, tx301⟩ := hT.rdi (lo := 0) (hi := 60) (k := 18) kM_at0 (by decide) rfl
            refine lv_if_ne (tgt := 163) hx hb dX12_compare_158 (by decide) (fun c => absurd (by decide) c) (fun _ => ?_)
            refine lv_iconst (v := 0) hx hb dX12_compare_161 (by decide) ?_
            exact tk_zret hC hr rfl hlocks hK ⟨hT, hF, (Or.inl ⟨rfl, ⟨f105_0_1, c293, (show 1 ≤ f105_0_1.toInt by omega), (show f105_0_1.toInt ≤ 400 by omega)⟩, ⟨x272, c273, (show 1 ≤ x272.toInt by omega), (show x272.toInt ≤ 3205 by omega)⟩, ⟨2, c294, (by decide), (by decide)⟩⟩)⟩ hw dX12_compare_162
          · have ex276 : x276.toInt = f105_0_1.toInt := by rw [← c293.symm.trans c277]
            have ex278 : x278.toInt = (2 : Int) := by rw [show x278 = 2 from c279.symm.trans c294]; decide
            obtain ⟨x303, c304, rx303, tx303⟩ := hT.rda (lo := 0) (hi := 400) (i := 2) kM_at3 rfl rfl (by decide)
            have g282 : 3 * x303.toInt + 11 ≤ 3 * f105_3_2.toInt + 14 * (x280.toInt - x29.toInt) := by have q := g282; simp only [c36, c304, c30, c281] at q; omega
            have g283 : x29.toInt + 1 ≤ x280.toInt := by have q := g283; simp only [c30, c281] at q; omega
            refine lv_if_ne (tgt := 163) hx hb dX12_compare_158 (by decide) (fun _ => ?_) (fun c => absurd c (by decide))
            refine lv_aload_n hx hb dX12_compare_163 rfl (lv_at hl 1 rfl) ?_
            refine lv_bipush (v := 6) hx hb dX12_compare_164 (by decide) ?_
            refine lv_iload hx hb dX12_compare_166 (lv_at hl 0 rfl) ?_
            refine lv_iadd hx hb dX12_compare_168 ?_
            refine wk_top 6 (by decide) ?_
            refine lv_iconst (v := 0) hx hb dX12_compare_169 (by decide) ?_
            refine tk_Vv hC hK hw hT hA hE hSR kM_at0 (by decide) rfl (k_X12_puts_6 l adK adV dC dI cy ad B (by omega) (by omega) qr s1   6 (by decide) (by decide) 0 w262 H.size hT c294 x303 c304 (show 0 ≤ x303.toInt by omega) (show x303.toInt ≤ 400 by omega) (show x303.toInt ≤ 399 by omega)) (cwV 2 hC.2.2.2.2 gX12_compare_X12_puts rfl rfl rfl (by decide +kernel) ⟨Nat.le_of_ble_eq_true rfl, Nat.le_of_ble_eq_true rfl⟩) rfl hl.1 rfl (Nat.le_of_ble_eq_true rfl) dX12_compare_170 (fun w309 H locs hp308 hw => ?_)
            obtain ⟨hT, k310, hg314⟩ := hp308
            have hF := hF.tr k310 (by decide)
            have c315 := k310.gi kM_at0 (by decide) c293
            have c316 := k310.gi kM_at0 (by decide) c294
            have c317 := k310.gi kM_at0 (by decide) c281
            obtain ⟨⟨x311, c312, rx311, tx311⟩, g313⟩ := hg314
            have ex311 : x311.toInt = (2 : Int) := by rw [show x311 = 2 from c312.symm.trans c316]; decide
            obtain ⟨x318, c319, rx318, tx318⟩ := hT.rda (lo := 0) (hi := 400) (i := 2) kM_at3 rfl rfl (by decide)
            have g313 : x318.toInt = x303.toInt + 1 := by have q := g313; simp only [c304, c319] at q; omega
            refine lv_iconst (v := 1) hx hb dX12_compare_173 (by decide) ?_
            exact tk_zret hC hr rfl hlocks hK ⟨hT, hF, (Or.inr (Or.inr ⟨rfl, ⟨f105_0_1, c315, (show 1 ≤ f105_0_1.toInt by omega), (show f105_0_1.toInt ≤ 400 by omega)⟩, ⟨2, c316, (by decide), (by decide)⟩, ⟨x280, c317, (show 1 ≤ x280.toInt by omega), (show x280.toInt ≤ 60 by omega)⟩, (by simp only [cf2_, c319, cf1_, c317]; omega), (by simp only [cf1_, c317]; omega)⟩))⟩ hw dX12_compare_174
          · have ex284 : x284.toInt = f105_0_1.toInt := by rw [← c293.symm.trans c285]
            have ex286 : x286.toInt = (2 : Int) := by rw [show x286 = 2 from c287.symm.trans c294]; decide
            obtain ⟨x305, c306, rx305, tx305⟩ := hT.rda (lo := 0) (hi := 400) (i := 2) kM_at3 rfl rfl (by decide)
            have g290 : 3 * x305.toInt + 11 ≤ 3 * f105_3_2.toInt + 14 * (x288.toInt - x29.toInt) := by have q := g290; simp only [c36, c306, c30, c289] at q; omega
            have g291 : x29.toInt + 1 ≤ x288.toInt := by have q := g291; simp only [c30, c289] at q; omega
            refine lv_if_ne (tgt := 163) hx hb dX12_compare_158 (by decide) (fun _ => ?_) (fun c => absurd c (by decide))
            refine lv_aload_n hx hb dX12_compare_163 rfl (lv_at hl 1 rfl) ?_
            refine lv_bipush (v := 6) hx hb dX12_compare_164 (by decide) ?_
            refine lv_iload hx hb dX12_compare_166 (lv_at hl 0 rfl) ?_
            refine lv_iadd hx hb dX12_compare_168 ?_
            refine wk_top 6 (by decide) ?_
            refine lv_iconst (v := 0) hx hb dX12_compare_169 (by decide) ?_
            refine tk_Vv hC hK hw hT hA hE hSR kM_at0 (by decide) rfl (k_X12_puts_6 l adK adV dC dI cy ad B (by omega) (by omega) qr s1   6 (by decide) (by decide) 0 w262 H.size hT c294 x305 c306 (show 0 ≤ x305.toInt by omega) (show x305.toInt ≤ 400 by omega) (show x305.toInt ≤ 399 by omega)) (cwV 2 hC.2.2.2.2 gX12_compare_X12_puts rfl rfl rfl (by decide +kernel) ⟨Nat.le_of_ble_eq_true rfl, Nat.le_of_ble_eq_true rfl⟩) rfl hl.1 rfl (Nat.le_of_ble_eq_true rfl) dX12_compare_170 (fun w322 H locs hp321 hw => ?_)
            obtain ⟨hT, k323, hg327⟩ := hp321
            have hF := hF.tr k323 (by decide)
            have c328 := k323.gi kM_at0 (by decide) c293
            have c329 := k323.gi kM_at0 (by decide) c294
            have c330 := k323.gi kM_at0 (by decide) c289
            obtain ⟨⟨x324, c325, rx324, tx324⟩, g326⟩ := hg327
            have ex324 : x324.toInt = (2 : Int) := by rw [show x324 = 2 from c325.symm.trans c329]; decide
            obtain ⟨x331, c332, rx331, tx331⟩ := hT.rda (lo := 0) (hi := 400) (i := 2) kM_at3 rfl rfl (by decide)
            have g326 : x331.toInt = x305.toInt + 1 := by have q := g326; simp only [c306, c332] at q; omega
            refine lv_iconst (v := 1) hx hb dX12_compare_173 (by decide) ?_
            exact tk_zret hC hr rfl hlocks hK ⟨hT, hF, (Or.inr (Or.inr ⟨rfl, ⟨f105_0_1, c328, (show 1 ≤ f105_0_1.toInt by omega), (show f105_0_1.toInt ≤ 400 by omega)⟩, ⟨2, c329, (by decide), (by decide)⟩, ⟨x288, c330, (show 1 ≤ x288.toInt by omega), (show x288.toInt ≤ 60 by omega)⟩, (by simp only [cf2_, c332, cf1_, c330]; omega), (by simp only [cf1_, c330]; omega)⟩))⟩ hw dX12_compare_174
        · have c259 : ¬ v105_3.toInt = (0 : Int) := wk_eqF c259
          refine lv_iconst (v := 1) hx hb dX12_compare_125 (by decide) ?_
          refine lv_goto (tgt := 152) hx hb dX12_compare_126 (by decide) ?_
          refine lv_istore (lv' := [(4, .int 1), (0, .ref (ad 0)), (1, .int v105_1), (2, .int v105_2), (3, .int v105_3)]) hx hb dX12_compare_152 hl (by decide) rfl (fun ls hl => ?_)
          refine lv_aload_n hx hb dX12_compare_154 rfl (lv_at hl 1 rfl) ?_
          refine tk_Vi hC hK hw hT hA hE hSR kM_at0 (by decide) rfl (k_X12_sum_3 l adK adV dC dI cy ad B (by omega) (by omega) qr s1    w23 H.size hT c35 x29 c30 (show 0 ≤ x29.toInt by omega) (show x29.toInt ≤ 60 by omega) f105_3_2 c36 (show 0 ≤ f105_3_2.toInt by omega) (show f105_3_2.toInt ≤ 400 by omega) (show 3 * f105_3_2.toInt ≤ 14 * x29.toInt + 60 by omega) (show f105_3_2.toInt ≤ 300 by omega)) (cwV 0 hC.2.2.2.2 gX12_compare_X12_sum rfl rfl rfl (by decide +kernel) ⟨Nat.le_of_ble_eq_true rfl, Nat.le_of_ble_eq_true rfl⟩) rfl hl.1 rfl (Nat.le_of_ble_eq_true rfl) dX12_compare_155 (fun r333 w335 H locs hp334 hw => ?_)
          obtain ⟨hT, k336, hg365⟩ := hp334
          have hF := hF.tr k336 (by decide)
          have c366 := k336.gi kM_at0 (by decide) c33
          have c367 := k336.gi kM_at0 (by decide) c35
          rcases hg365 with ⟨rfl, ⟨x337, c338, rx337, tx337⟩, ⟨x339, c340, rx339, tx339⟩, ⟨x341, c342, rx341, tx341⟩⟩ | ⟨rfl, ⟨x343, c344, rx343, tx343⟩, ⟨x345, c346, rx345, tx345⟩, ⟨x347, c348, rx347, tx347⟩⟩ | ⟨rfl, ⟨x349, c350, rx349, tx349⟩, ⟨x351, c352, rx351, tx351⟩, ⟨x353, c354, rx353, tx353⟩, g355, g356⟩ | ⟨rfl, ⟨x357, c358, rx357, tx357⟩, ⟨x359, c360, rx359, tx359⟩, ⟨x361, c362, rx361, tx361⟩, g363, g364⟩
          · have ex337 : x337.toInt = f105_0_1.toInt := by rw [← c366.symm.trans c338]
            have ex341 : x341.toInt = (2 : Int) := by rw [show x341 = 2 from c342.symm.trans c367]; decide
            obtain ⟨x368, c369, rx368, tx368⟩ := hT.rda (lo := 0) (hi := 400) (i := 2) kM_at3 rfl rfl (by decide)
            obtain ⟨x370, c371, rx370, tx370⟩ := hT.rdi (lo := 0) (hi := 60) (k := 18) kM_at0 (by decide) rfl
            refine lv_if_ne (tgt := 163) hx hb dX12_compare_158 (by decide) (fun c => absurd (by decide) c) (fun _ => ?_)
            refine lv_iconst (v := 0) hx hb dX12_compare_161 (by decide) ?_
            exact tk_zret hC hr rfl hlocks hK ⟨hT, hF, (Or.inl ⟨rfl, ⟨f105_0_1, c366, (show 1 ≤ f105_0_1.toInt by omega), (show f105_0_1.toInt ≤ 400 by omega)⟩, ⟨x339, c340, (show 1 ≤ x339.toInt by omega), (show x339.toInt ≤ 3205 by omega)⟩, ⟨2, c367, (by decide), (by decide)⟩⟩)⟩ hw dX12_compare_162
          · have ex343 : x343.toInt = f105_0_1.toInt := by rw [← c366.symm.trans c344]
            have ex347 : x347.toInt = (2 : Int) := by rw [show x347 = 2 from c348.symm.trans c367]; decide
            obtain ⟨x372, c373, rx372, tx372⟩ := hT.rda (lo := 0) (hi := 400) (i := 2) kM_at3 rfl rfl (by decide)
            obtain ⟨x374, c375, rx374, tx374⟩ := hT.rdi (lo := 0) (hi := 60) (k := 18) kM_at0 (by decide) rfl
            refine lv_if_ne (tgt := 163) hx hb dX12_compare_158 (by decide) (fun c => absurd (by decide) c) (fun _ => ?_)
            refine lv_iconst (v := 0) hx hb dX12_compare_161 (by decide) ?_
            exact tk_zret hC hr rfl hlocks hK ⟨hT, hF, (Or.inl ⟨rfl, ⟨f105_0_1, c366, (show 1 ≤ f105_0_1.toInt by omega), (show f105_0_1.toInt ≤ 400 by omega)⟩, ⟨x345, c346, (show 1 ≤ x345.toInt by omega), (show x345.toInt ≤ 3205 by omega)⟩, ⟨2, c367, (by decide), (by decide)⟩⟩)⟩ hw dX12_compare_162
          · have ex349 : x349.toInt = f105_0_1.toInt := by rw [← c366.symm.trans c350]
            have ex351 : x351.toInt = (2 : Int) := by rw [show x351 = 2 from c352.symm.trans c367]; decide
            obtain ⟨x376, c377, rx376, tx376⟩ := hT.rda (lo := 0) (hi := 400) (i := 2) kM_at3 rfl rfl (by decide)
            have g355 : 3 * x376.toInt + 11 ≤ 3 * f105_3_2.toInt + 14 * (x353.toInt - x29.toInt) := by have q := g355; simp only [c36, c377, c30, c354] at q; omega
            have g356 : x29.toInt + 1 ≤ x353.toInt := by have q := g356; simp only [c30, c354] at q; omega
            refine lv_if_ne (tgt := 163) hx hb dX12_compare_158 (by decide) (fun _ => ?_) (fun c => absurd c (by decide))
            refine lv_aload_n hx hb dX12_compare_163 rfl (lv_at hl 1 rfl) ?_
            refine lv_bipush (v := 6) hx hb dX12_compare_164 (by decide) ?_
            refine lv_iload hx hb dX12_compare_166 (lv_at hl 0 rfl) ?_
            refine lv_iadd hx hb dX12_compare_168 ?_
            refine wk_top 7 (by decide) ?_
            refine lv_iconst (v := 0) hx hb dX12_compare_169 (by decide) ?_
            refine tk_Vv hC hK hw hT hA hE hSR kM_at0 (by decide) rfl (k_X12_puts_6 l adK adV dC dI cy ad B (by omega) (by omega) qr s1   7 (by decide) (by decide) 0 w335 H.size hT c367 x376 c377 (show 0 ≤ x376.toInt by omega) (show x376.toInt ≤ 400 by omega) (show x376.toInt ≤ 399 by omega)) (cwV 2 hC.2.2.2.2 gX12_compare_X12_puts rfl rfl rfl (by decide +kernel) ⟨Nat.le_of_ble_eq_true rfl, Nat.le_of_ble_eq_true rfl⟩) rfl hl.1 rfl (Nat.le_of_ble_eq_true rfl) dX12_compare_170 (fun w382 H locs hp381 hw => ?_)
            obtain ⟨hT, k383, hg387⟩ := hp381
            have hF := hF.tr k383 (by decide)
            have c388 := k383.gi kM_at0 (by decide) c366
            have c389 := k383.gi kM_at0 (by decide) c367
            have c390 := k383.gi kM_at0 (by decide) c354
            obtain ⟨⟨x384, c385, rx384, tx384⟩, g386⟩ := hg387
            have ex384 : x384.toInt = (2 : Int) := by rw [show x384 = 2 from c385.symm.trans c389]; decide
            obtain ⟨x391, c392, rx391, tx391⟩ := hT.rda (lo := 0) (hi := 400) (i := 2) kM_at3 rfl rfl (by decide)
            have g386 : x391.toInt = x376.toInt + 1 := by have q := g386; simp only [c377, c392] at q; omega
            refine lv_iconst (v := 1) hx hb dX12_compare_173 (by decide) ?_
            exact tk_zret hC hr rfl hlocks hK ⟨hT, hF, (Or.inr (Or.inr ⟨rfl, ⟨f105_0_1, c388, (show 1 ≤ f105_0_1.toInt by omega), (show f105_0_1.toInt ≤ 400 by omega)⟩, ⟨2, c389, (by decide), (by decide)⟩, ⟨x353, c390, (show 1 ≤ x353.toInt by omega), (show x353.toInt ≤ 60 by omega)⟩, (by simp only [cf2_, c392, cf1_, c390]; omega), (by simp only [cf1_, c390]; omega)⟩))⟩ hw dX12_compare_174
          · have ex357 : x357.toInt = f105_0_1.toInt := by rw [← c366.symm.trans c358]
            have ex359 : x359.toInt = (2 : Int) := by rw [show x359 = 2 from c360.symm.trans c367]; decide
            obtain ⟨x378, c379, rx378, tx378⟩ := hT.rda (lo := 0) (hi := 400) (i := 2) kM_at3 rfl rfl (by decide)
            have g363 : 3 * x378.toInt + 11 ≤ 3 * f105_3_2.toInt + 14 * (x361.toInt - x29.toInt) := by have q := g363; simp only [c36, c379, c30, c362] at q; omega
            have g364 : x29.toInt + 1 ≤ x361.toInt := by have q := g364; simp only [c30, c362] at q; omega
            refine lv_if_ne (tgt := 163) hx hb dX12_compare_158 (by decide) (fun _ => ?_) (fun c => absurd c (by decide))
            refine lv_aload_n hx hb dX12_compare_163 rfl (lv_at hl 1 rfl) ?_
            refine lv_bipush (v := 6) hx hb dX12_compare_164 (by decide) ?_
            refine lv_iload hx hb dX12_compare_166 (lv_at hl 0 rfl) ?_
            refine lv_iadd hx hb dX12_compare_168 ?_
            refine wk_top 7 (by decide) ?_
            refine lv_iconst (v := 0) hx hb dX12_compare_169 (by decide) ?_
            refine tk_Vv hC hK hw hT hA hE hSR kM_at0 (by decide) rfl (k_X12_puts_6 l adK adV dC dI cy ad B (by omega) (by omega) qr s1   7 (by decide) (by decide) 0 w335 H.size hT c367 x378 c379 (show 0 ≤ x378.toInt by omega) (show x378.toInt ≤ 400 by omega) (show x378.toInt ≤ 399 by omega)) (cwV 2 hC.2.2.2.2 gX12_compare_X12_puts rfl rfl rfl (by decide +kernel) ⟨Nat.le_of_ble_eq_true rfl, Nat.le_of_ble_eq_true rfl⟩) rfl hl.1 rfl (Nat.le_of_ble_eq_true rfl) dX12_compare_170 (fun w395 H locs hp394 hw => ?_)
            obtain ⟨hT, k396, hg400⟩ := hp394
            have hF := hF.tr k396 (by decide)
            have c401 := k396.gi kM_at0 (by decide) c366
            have c402 := k396.gi kM_at0 (by decide) c367
            have c403 := k396.gi kM_at0 (by decide) c362
            obtain ⟨⟨x397, c398, rx397, tx397⟩, g399⟩ := hg400
            have ex397 : x397.toInt = (2 : Int) := by rw [show x397 = 2 from c398.symm.trans c402]; decide
            obtain ⟨x404, c405, rx404, tx404⟩ := hT.rda (lo := 0) (hi := 400) (i := 2) kM_at3 rfl rfl (by decide)
            have g399 : x404.toInt = x378.toInt + 1 := by have q := g399; simp only [c379, c405] at q; omega
            refine lv_iconst (v := 1) hx hb dX12_compare_173 (by decide) ?_
            exact tk_zret hC hr rfl hlocks hK ⟨hT, hF, (Or.inr (Or.inr ⟨rfl, ⟨f105_0_1, c401, (show 1 ≤ f105_0_1.toInt by omega), (show f105_0_1.toInt ≤ 400 by omega)⟩, ⟨2, c402, (by decide), (by decide)⟩, ⟨x361, c403, (show 1 ≤ x361.toInt by omega), (show x361.toInt ≤ 60 by omega)⟩, (by simp only [cf2_, c405, cf1_, c403]; omega), (by simp only [cf1_, c403]; omega)⟩))⟩ hw dX12_compare_174
  have J89 : ∀ (v89_1 : Int32) (v89_2 : Int32) (f89_0_1 : Int32) (f89_0_14 : Int32) (f89_0_18 : Int32) (f89_3_2 : Int32) (H : Heap) (locs : List Loc) (ls : Array Slot) (w406 : va_W), 60 ≤ v89_1.toInt → v89_1.toInt ≤ 62 → 0 ≤ v89_2.toInt → v89_2.toInt ≤ 399 → 1 ≤ f89_0_1.toInt → f89_0_1.toInt ≤ 400 → 1 ≤ f89_0_14.toInt → f89_0_14.toInt ≤ 400 → 1 ≤ f89_0_18.toInt → f89_0_18.toInt ≤ 60 → 0 ≤ f89_3_2.toInt → f89_3_2.toInt ≤ 400 → Wd dC dI A s.heap H locs w406 → TW ksM ad cy B qr 12 w406 → FE ksM [(12, 14, 14), (12, 15, 15), (12, 16, 16), (12, 18, 18), (61, 0, 2400), (62, 0, 7)] w0 w406 → gi w406 0 1 = f89_0_1 → gi w406 0 14 = f89_0_14 → gi w406 0 17 = 2 → gi w406 0 18 = f89_0_18 → gi w406 3 2 = f89_3_2 → lv_has ls 5 [(0, .ref (ad 0)), (1, .int v89_1), (2, .int v89_2)] → W p l e ({ frames := 7, cells := 0, slots := 0, locals := 142 }) s m (List.toArray [.ref (ad 0)]) below meth c H locs 0 0 (MQ below (va_Qi (P_X12_compare_3 ad cy B qr s1  w0) (fun u : va_W => wpost dC dI cy A u) A) (List.toArray [.ref (ad 0)]) s 0 0 A) (F0 m 89 ls []) := by
    intro v89_1 v89_2 f89_0_1 f89_0_14 f89_0_18 f89_3_2 H locs ls w406 r407 t408 r409 t410 r411 t412 r414 t415 r418 t419 r421 t422 hw hT hF c413 c416 c417 c420 c423 hl
    refine lv_iconst (v := 0) hx hb dX12_compare_89 (by decide) ?_
    refine lv_istore_n (lv' := [(3, .int 0), (0, .ref (ad 0)), (1, .int v89_1), (2, .int v89_2)]) hx hb dX12_compare_90 rfl hl (by decide) rfl (fun ls hl => ?_)
    refine lv_iload_n hx hb dX12_compare_91 rfl (lv_at hl 0 rfl) ?_
    refine lv_if_eq (tgt := 105) hx hb dX12_compare_92 (by decide) (fun _ => ?_) (fun c => absurd (by decide) c)
    exact J105 v89_1 v89_2 0 f89_0_1 f89_0_14 f89_0_18 f89_3_2 H locs ls w406 (show 60 ≤ v89_1.toInt by omega) (show v89_1.toInt ≤ 62 by omega) (show 0 ≤ v89_2.toInt by omega) (show v89_2.toInt ≤ 399 by omega) (by decide) (by decide) (show 1 ≤ f89_0_1.toInt by omega) (show f89_0_1.toInt ≤ 400 by omega) (show 1 ≤ f89_0_14.toInt by omega) (show f89_0_14.toInt ≤ 400 by omega) (show 1 ≤ f89_0_18.toInt by omega) (show f89_0_18.toInt ≤ 60 by omega) (show 0 ≤ f89_3_2.toInt by omega) (show f89_3_2.toInt ≤ 400 by omega)  hw hT hF c413 c416 c417 c420 c423 (lv_sub hl [1, 2, 3, 0] rfl)
  have J44 : ∀ (v44_1 : Int32) (v44_2 : Int32) (f44_0_1 : Int32) (f44_0_14 : Int32) (f44_0_18 : Int32) (f44_3_2 : Int32) (H : Heap) (locs : List Loc) (ls : Array Slot) (w424 : va_W), 60 ≤ v44_1.toInt → v44_1.toInt ≤ 62 → 0 ≤ v44_2.toInt → v44_2.toInt ≤ 399 → 1 ≤ f44_0_1.toInt → f44_0_1.toInt ≤ 400 → 0 ≤ f44_0_14.toInt → f44_0_14.toInt ≤ 399 → 1 ≤ f44_0_18.toInt → f44_0_18.toInt ≤ 60 → 0 ≤ f44_3_2.toInt → f44_3_2.toInt ≤ 400 → Wd dC dI A s.heap H locs w424 → TW ksM ad cy B qr 12 w424 → FE ksM [(12, 14, 14), (12, 15, 15), (12, 16, 16), (12, 18, 18), (61, 0, 2400), (62, 0, 7)] w0 w424 → gi w424 0 1 = f44_0_1 → gi w424 0 14 = f44_0_14 → gi w424 0 17 = 2 → gi w424 0 18 = f44_0_18 → gi w424 3 2 = f44_3_2 → lv_has ls 5 [(0, .ref (ad 0)), (1, .int v44_1), (2, .int v44_2)] → W p l e ({ frames := 7, cells := 0, slots := 0, locals := 142 }) s m (List.toArray [.ref (ad 0)]) below meth c H locs 0 0 (MQ below (va_Qi (P_X12_compare_3 ad cy B qr s1  w0) (fun u : va_W => wpost dC dI cy A u) A) (List.toArray [.ref (ad 0)]) s 0 0 A) (F0 m 44 ls []) := by
    intro v44_1 v44_2 f44_0_1 f44_0_14 f44_0_18 f44_3_2 H locs ls w424 r425 t426 r427 t428 r429 t430 r432 t433 r436 t437 r439 t440 hw hT hF c431 c434 c435 c438 c441 hl
    refine lv_aload_n hx hb dX12_compare_44 rfl (lv_at hl 0 rfl) ?_
    refine lv_dup hx hb dX12_compare_45 rfl ?_
    refine tk_geti hC hK hw hT hinX12 kM_at0 (by decide) rfl 14 (by decide) (List.mem_of_getElem? (i := 1) rfl) rfl rfl dX12_compare_46 (fun x442 c443 rx442 tx442 => ?_)
    refine wk_top f44_0_14 (c443.symm.trans c434) ?_
    refine lv_iconst (v := 1) hx hb dX12_compare_49 (by decide) ?_
    refine lv_iadd hx hb dX12_compare_50 ?_
    refine lv_topi (fun x444 ex444 => ?_)
    have ex444 : x444.toInt = f44_0_14.toInt + (1 : Int) := by rw [ex444]; exact wk_add (show (-2147483648) ≤ f44_0_14.toInt + (1 : Int) by omega) (show f44_0_14.toInt + (1 : Int) ≤ 2147483647 by omega)
    refine tk_puti hC hK hw hT hinX12 tyX12_ok nmX12 kM_at0 (by decide) rfl rfl 14 (by decide) (List.mem_of_getElem? (i := 1) rfl) rfl rfl rfl rfl (show 0 ≤ x444.toInt by omega) (show x444.toInt ≤ 400 by omega) dX12_compare_51 (fun H locs w445 hw hT k447 c446 => ?_)
    have hF := hF.put kM_at0 (k := 14) (by decide) k447
    have c448 := k447.gi (Or.inr (by decide)) c431
    have c449 := k447.gi (Or.inr (by decide)) c435
    have c450 := k447.gi (Or.inr (by decide)) c438
    have c451 := k447.gi (Or.inr (by decide)) c441
    refine lv_iload_n hx hb dX12_compare_54 rfl (lv_at hl 1 rfl) ?_
    refine lv_bipush (v := 61) hx hb dX12_compare_55 (by decide) ?_
    refine lv_icmp_eq (tgt := 89) hx hb dX12_compare_57 (by decide) (fun c452 => ?_) (fun c452 => ?_)
    · have c452 : v44_1.toInt = (61 : Int) := wk_eq.mp c452
      exact J89 v44_1 v44_2 f44_0_1 x444 f44_0_18 f44_3_2 H locs ls w445 (show 60 ≤ v44_1.toInt by omega) (show v44_1.toInt ≤ 62 by omega) (show 0 ≤ v44_2.toInt by omega) (show v44_2.toInt ≤ 399 by omega) (show 1 ≤ f44_0_1.toInt by omega) (show f44_0_1.toInt ≤ 400 by omega) (show 1 ≤ x444.toInt by omega) (show x444.toInt ≤ 400 by omega) (show 1 ≤ f44_0_18.toInt by omega) (show f44_0_18.toInt ≤ 60 by omega) (show 0 ≤ f44_3_2.toInt by omega) (show f44_3_2.toInt ≤ 400 by omega)  hw hT hF c448 c446 c449 c450 c451 (lv_sub hl [0, 1, 2] rfl)
    · have c452 : ¬ v44_1.toInt = (61 : Int) := wk_eqF c452
      refine lv_aload_n hx hb dX12_compare_60 rfl (lv_at hl 0 rfl) ?_
      refine tk_geti hC hK hw hT hinX12 kM_at0 (by decide) rfl 14 (by decide) (List.mem_of_getElem? (i := 1) rfl) rfl rfl dX12_compare_61 (fun x453 c454 rx453 tx453 => ?_)
      refine wk_top x444 (c454.symm.trans c446) ?_
      refine lv_aload_n hx hb dX12_compare_64 rfl (lv_at hl 0 rfl) ?_
      refine tk_geti hC hK hw hT hinX12 kM_at0 (by decide) rfl 1 (by decide) (List.mem_of_getElem? (i := 2) rfl) rfl rfl dX12_compare_65 (fun x455 c456 rx455 tx455 => ?_)
      refine wk_top f44_0_1 (c456.symm.trans c448) ?_
      refine lv_icmp_ge (tgt := 89) hx hb dX12_compare_68 (by decide) (fun c457 => ?_) (fun c457 => ?_)
      · have c457 : f44_0_1.toInt ≤ x444.toInt := wk_le.mp c457
        exact J89 v44_1 v44_2 f44_0_1 x444 f44_0_18 f44_3_2 H locs ls w445 (show 60 ≤ v44_1.toInt by omega) (show v44_1.toInt ≤ 62 by omega) (show 0 ≤ v44_2.toInt by omega) (show v44_2.toInt ≤ 399 by omega) (show 1 ≤ f44_0_1.toInt by omega) (show f44_0_1.toInt ≤ 400 by omega) (show 1 ≤ x444.toInt by omega) (show x444.toInt ≤ 400 by omega) (show 1 ≤ f44_0_18.toInt by omega) (show f44_0_18.toInt ≤ 60 by omega) (show 0 ≤ f44_3_2.toInt by omega) (show f44_3_2.toInt ≤ 400 by omega)  hw hT hF c448 c446 c449 c450 c451 (lv_sub hl [0, 1, 2] rfl)
      · have c457 : x444.toInt < f44_0_1.toInt := wk_leF c457
        refine lv_aload_n hx hb dX12_compare_71 rfl (lv_at hl 0 rfl) ?_
        refine tk_getA hC hK hw hT hinX12 kM_at0 (by decide) rfl 0 (by decide) (List.mem_of_getElem? (i := 3) rfl) rfl rfl dX12_compare_72 ?_
        refine lv_aload_n hx hb dX12_compare_75 rfl (lv_at hl 0 rfl) ?_
        refine tk_geti hC hK hw hT hinX12 kM_at0 (by decide) rfl 14 (by decide) (List.mem_of_getElem? (i := 1) rfl) rfl rfl dX12_compare_76 (fun x458 c459 rx458 tx458 => ?_)
        refine wk_top x444 (c459.symm.trans c446) ?_
        refine tk_bald hC hK hw hT kM_at1 rfl rfl (show 0 ≤ x444.toInt by omega) (show x444.toInt < 400 by omega) dX12_compare_79 (fun x460 c461 rx460 tx460 => ?_)
        have c461 : gi w445 1 (1 * f44_0_14.toInt + 1).toNat = x460 := (congrArg (gi w445 1) (congrArg Int.toNat (show 1 * f44_0_14.toInt + 1 = x444.toInt by omega))).trans c461
        refine lv_bipush (v := 61) hx hb dX12_compare_80 (by decide) ?_
        refine lv_icmp_ne (tgt := 89) hx hb dX12_compare_82 (by decide) (fun c462 => ?_) (fun c462 => ?_)
        · have c462 : ¬ x460.toInt = (61 : Int) := wk_eqF c462
          exact J89 v44_1 v44_2 f44_0_1 x444 f44_0_18 f44_3_2 H locs ls w445 (show 60 ≤ v44_1.toInt by omega) (show v44_1.toInt ≤ 62 by omega) (show 0 ≤ v44_2.toInt by omega) (show v44_2.toInt ≤ 399 by omega) (show 1 ≤ f44_0_1.toInt by omega) (show f44_0_1.toInt ≤ 400 by omega) (show 1 ≤ x444.toInt by omega) (show x444.toInt ≤ 400 by omega) (show 1 ≤ f44_0_18.toInt by omega) (show f44_0_18.toInt ≤ 60 by omega) (show 0 ≤ f44_3_2.toInt by omega) (show f44_3_2.toInt ≤ 400 by omega)  hw hT hF c448 c446 c449 c450 c451 (lv_sub hl [0, 1, 2] rfl)
        · have c462 : x460.toInt = (61 : Int) := wk_eq.mp c462
          refine lv_iconst (v := 1) hx hb dX12_compare_85 (by decide) ?_
          refine lv_goto (tgt := 90) hx hb dX12_compare_86 (by decide) ?_
          refine lv_istore_n (lv' := [(3, .int 1), (0, .ref (ad 0)), (1, .int v44_1), (2, .int v44_2)]) hx hb dX12_compare_90 rfl hl (by decide) rfl (fun ls hl => ?_)
          refine lv_iload_n hx hb dX12_compare_91 rfl (lv_at hl 0 rfl) ?_
          refine lv_if_eq (tgt := 105) hx hb dX12_compare_92 (by decide) (fun c => absurd c (by decide)) (fun _ => ?_)
          refine lv_aload_n hx hb dX12_compare_95 rfl (lv_at hl 1 rfl) ?_
          refine lv_dup hx hb dX12_compare_96 rfl ?_
          refine tk_geti hC hK hw hT hinX12 kM_at0 (by decide) rfl 14 (by decide) (List.mem_of_getElem? (i := 1) rfl) rfl rfl dX12_compare_97 (fun x463 c464 rx463 tx463 => ?_)
          refine wk_top x444 (c464.symm.trans c446) ?_
          refine lv_iconst (v := 1) hx hb dX12_compare_100 (by decide) ?_
          refine lv_iadd hx hb dX12_compare_101 ?_
          refine lv_topi (fun x465 ex465 => ?_)
          have ex465 : x465.toInt = x444.toInt + (1 : Int) := by rw [ex465]; exact wk_add (show (-2147483648) ≤ x444.toInt + (1 : Int) by omega) (show x444.toInt + (1 : Int) ≤ 2147483647 by omega)
          refine tk_puti hC hK hw hT hinX12 tyX12_ok nmX12 kM_at0 (by decide) rfl rfl 14 (by decide) (List.mem_of_getElem? (i := 1) rfl) rfl rfl rfl rfl (show 0 ≤ x465.toInt by omega) (show x465.toInt ≤ 400 by omega) dX12_compare_102 (fun H locs w466 hw hT k468 c467 => ?_)
          have hF := hF.put kM_at0 (k := 14) (by decide) k468
          have c469 := k468.gi (Or.inr (by decide)) c448
          have c470 := k468.gi (Or.inr (by decide)) c449
          have c471 := k468.gi (Or.inr (by decide)) c450
          have c472 := k468.gi (Or.inr (by decide)) c451
          have c473 := k468.gi (Or.inl (tk_ne kM_at1 kM_at0 (by decide))) c461
          exact J105 v44_1 v44_2 1 f44_0_1 x465 f44_0_18 f44_3_2 H locs ls w466 (show 60 ≤ v44_1.toInt by omega) (show v44_1.toInt ≤ 62 by omega) (show 0 ≤ v44_2.toInt by omega) (show v44_2.toInt ≤ 399 by omega) (by decide) (by decide) (show 1 ≤ f44_0_1.toInt by omega) (show f44_0_1.toInt ≤ 400 by omega) (show 1 ≤ x465.toInt by omega) (show x465.toInt ≤ 400 by omega) (show 1 ≤ f44_0_18.toInt by omega) (show f44_0_18.toInt ≤ 60 by omega) (show 0 ≤ f44_3_2.toInt by omega) (show f44_3_2.toInt ≤ 400 by omega)  hw hT hF c469 c467 c470 c471 c472 (lv_sub hl [1, 2, 3, 0] rfl)
  refine lv_aload_n hx hb dX12_compare_0 rfl (lv_at hl 0 rfl) ?_
  refine tk_Vi hC hK hw hT hA hE hSR kM_at0 (by decide) rfl (k_X12_sum_3 l adK adV dC dI cy ad B (by omega) (by omega) qr s1    w0 s.heap.size hT cf0_ f1_ cf1_ (show 0 ≤ f1_.toInt by omega) (show f1_.toInt ≤ 60 by omega) f2_ cf2_ (show 0 ≤ f2_.toInt by omega) (show f2_.toInt ≤ 400 by omega) (show 3 * f2_.toInt ≤ 14 * f1_.toInt + 60 by omega) (show f2_.toInt ≤ 300 by omega)) (cwV 0 hC.2.2.2.2 gX12_compare_X12_sum rfl rfl rfl (by decide +kernel) ⟨Nat.le_of_ble_eq_true rfl, Nat.le_of_ble_eq_true rfl⟩) rfl hl.1 rfl (Nat.le_of_ble_eq_true rfl) dX12_compare_1 (fun r474 w476 H locs hp475 hw => ?_)
  obtain ⟨hT, k477, hg506⟩ := hp475
  have hF := hF.tr k477 (by decide)
  have c507 := k477.gi kM_at0 (by decide) cf0_
  rcases hg506 with ⟨rfl, ⟨x478, c479, rx478, tx478⟩, ⟨x480, c481, rx480, tx480⟩, ⟨x482, c483, rx482, tx482⟩⟩ | ⟨rfl, ⟨x484, c485, rx484, tx484⟩, ⟨x486, c487, rx486, tx486⟩, ⟨x488, c489, rx488, tx488⟩⟩ | ⟨rfl, ⟨x490, c491, rx490, tx490⟩, ⟨x492, c493, rx492, tx492⟩, ⟨x494, c495, rx494, tx494⟩, g496, g497⟩ | ⟨rfl, ⟨x498, c499, rx498, tx498⟩, ⟨x500, c501, rx500, tx500⟩, ⟨x502, c503, rx502, tx502⟩, g504, g505⟩
  · have ex482 : x482.toInt = (2 : Int) := by rw [show x482 = 2 from c483.symm.trans c507]; decide
    obtain ⟨x508, c509, rx508, tx508⟩ := hT.rda (lo := 0) (hi := 400) (i := 2) kM_at3 rfl rfl (by decide)
    obtain ⟨x510, c511, rx510, tx510⟩ := hT.rdi (lo := 0) (hi := 60) (k := 18) kM_at0 (by decide) rfl
    refine lv_if_ne (tgt := 9) hx hb dX12_compare_4 (by decide) (fun c => absurd (by decide) c) (fun _ => ?_)
    refine lv_iconst (v := 0) hx hb dX12_compare_7 (by decide) ?_
    exact tk_zret hC hr rfl hlocks hK ⟨hT, hF, (Or.inl ⟨rfl, ⟨x478, c479, (show 1 ≤ x478.toInt by omega), (show x478.toInt ≤ 400 by omega)⟩, ⟨x480, c481, (show 1 ≤ x480.toInt by omega), (show x480.toInt ≤ 3205 by omega)⟩, ⟨2, c507, (by decide), (by decide)⟩⟩)⟩ hw dX12_compare_8
  · have ex488 : x488.toInt = (2 : Int) := by rw [show x488 = 2 from c489.symm.trans c507]; decide
    obtain ⟨x512, c513, rx512, tx512⟩ := hT.rda (lo := 0) (hi := 400) (i := 2) kM_at3 rfl rfl (by decide)
    obtain ⟨x514, c515, rx514, tx514⟩ := hT.rdi (lo := 0) (hi := 60) (k := 18) kM_at0 (by decide) rfl
    refine lv_if_ne (tgt := 9) hx hb dX12_compare_4 (by decide) (fun c => absurd (by decide) c) (fun _ => ?_)
    refine lv_iconst (v := 0) hx hb dX12_compare_7 (by decide) ?_
    exact tk_zret hC hr rfl hlocks hK ⟨hT, hF, (Or.inr (Or.inl ⟨rfl, ⟨x484, c485, (show 0 ≤ x484.toInt by omega), (show x484.toInt ≤ 400 by omega)⟩, ⟨x486, c487, (show 1 ≤ x486.toInt by omega), (show x486.toInt ≤ 3205 by omega)⟩, ⟨2, c507, (by decide), (by decide)⟩⟩))⟩ hw dX12_compare_8
  · have ex492 : x492.toInt = (2 : Int) := by rw [show x492 = 2 from c493.symm.trans c507]; decide
    obtain ⟨x516, c517, rx516, tx516⟩ := hT.rda (lo := 0) (hi := 400) (i := 2) kM_at3 rfl rfl (by decide)
    have g496 : 3 * x516.toInt + 11 ≤ 3 * f2_.toInt + 14 * (x494.toInt - f1_.toInt) := by have q := g496; simp only [cf2_, c517, cf1_, c495] at q; omega
    have g497 : f1_.toInt + 1 ≤ x494.toInt := by have q := g497; simp only [cf1_, c495] at q; omega
    refine lv_if_ne (tgt := 9) hx hb dX12_compare_4 (by decide) (fun _ => ?_) (fun c => absurd c (by decide))
    refine lv_aload_n hx hb dX12_compare_9 rfl (lv_at hl 0 rfl) ?_
    obtain ⟨x520, c521, rx520, tx520⟩ := hT.rdi (lo := 0) (hi := 400) (k := 14) kM_at0 (by decide) rfl
    refine tk_Vi hC hK hw hT hA hE hSR kM_at0 (by decide) rfl (k_X12_see_1 l adK adV dC dI cy ad B (by omega) (by omega) qr s1    w476 H.size hT x520 c521 (show 0 ≤ x520.toInt by omega) (show x520.toInt ≤ 400 by omega)) (cwV 0 hC.2.2.2.2 gX12_compare_X12_see rfl rfl rfl (by decide +kernel) ⟨Nat.le_of_ble_eq_true rfl, Nat.le_of_ble_eq_true rfl⟩) rfl hl.1 rfl (Nat.le_of_ble_eq_true rfl) dX12_compare_10 (fun r522 w524 H locs hp523 hw => ?_)
    obtain ⟨hT, k525, hg542⟩ := hp523
    have hF := hF.tr k525 (by decide)
    have c543 := k525.gi kM_at0 (by decide) c507
    have c544 := k525.gi kM_at0 (by decide) c491
    have c545 := k525.gi kM_at0 (by decide) c495
    have c546 := k525.gi kM_at3 (by decide) c517
    rcases hg542 with ⟨g526, g527, ⟨x528, c529, rx528, tx528⟩, ⟨x530, c531, rx530, tx530⟩, g532, g533⟩ | ⟨rfl, ⟨x534, c535, rx534, tx534⟩, ⟨x536, c537, rx536, tx536⟩, g538⟩ | ⟨rfl, ⟨x539, c540, rx539, tx539⟩, g541⟩
    · have ex528 : x528.toInt = x490.toInt := by rw [← c544.symm.trans c529]
      have g532 : (gi w524 1 (x530.toInt).toNat).toInt ≠ 32 := by have q := g532; simp only [c531] at q; omega
      have g533 : (x530.toInt = x520.toInt ∨ (gi w476 1 (x520.toInt).toNat).toInt = 32) := by have q := g533; simp only [c521, c531] at q; omega
      refine lv_istore_n (lv' := [(1, .int r522), (0, .ref (ad 0))]) hx hb dX12_compare_13 rfl hl (by decide) rfl (fun ls hl => ?_)
      refine lv_aload_n hx hb dX12_compare_14 rfl (lv_at hl 1 rfl) ?_
      refine tk_geti hC hK hw hT hinX12 kM_at0 (by decide) rfl 14 (by decide) (List.mem_of_getElem? (i := 1) rfl) rfl rfl dX12_compare_15 (fun x549 c550 rx549 tx549 => ?_)
      refine wk_top x530 (c550.symm.trans c531) ?_
      refine lv_istore_n (lv' := [(2, .int x530), (1, .int r522), (0, .ref (ad 0))]) hx hb dX12_compare_18 rfl hl (by decide) rfl (fun ls hl => ?_)
      refine lv_iload_n hx hb dX12_compare_19 rfl (lv_at hl 1 rfl) ?_
      refine lv_bipush (v := 60) hx hb dX12_compare_20 (by decide) ?_
      refine lv_icmp_eq (tgt := 44) hx hb dX12_compare_22 (by decide) (fun c551 => ?_) (fun c551 => ?_)
      · have c551 : r522.toInt = (60 : Int) := wk_eq.mp c551
        exact J44 r522 x530 x490 x530 x494 x516 H locs ls w524 (show 60 ≤ r522.toInt by omega) (show r522.toInt ≤ 62 by omega) (show 0 ≤ x530.toInt by omega) (show x530.toInt ≤ 399 by omega) (show 1 ≤ x490.toInt by omega) (show x490.toInt ≤ 400 by omega) (show 0 ≤ x530.toInt by omega) (show x530.toInt ≤ 399 by omega) (show 1 ≤ x494.toInt by omega) (show x494.toInt ≤ 60 by omega) (show 0 ≤ x516.toInt by omega) (show x516.toInt ≤ 400 by omega)  hw hT hF c544 c531 c543 c545 c546 (lv_sub hl [2, 1, 0] rfl)
      · have c551 : ¬ r522.toInt = (60 : Int) := wk_eqF c551
        refine lv_iload_n hx hb dX12_compare_25 rfl (lv_at hl 1 rfl) ?_
        refine lv_bipush (v := 61) hx hb dX12_compare_26 (by decide) ?_
        refine lv_icmp_eq (tgt := 44) hx hb dX12_compare_28 (by decide) (fun c552 => ?_) (fun c552 => ?_)
        · have c552 : r522.toInt = (61 : Int) := wk_eq.mp c552
          exact J44 r522 x530 x490 x530 x494 x516 H locs ls w524 (show 60 ≤ r522.toInt by omega) (show r522.toInt ≤ 62 by omega) (show 0 ≤ x530.toInt by omega) (show x530.toInt ≤ 399 by omega) (show 1 ≤ x490.toInt by omega) (show x490.toInt ≤ 400 by omega) (show 0 ≤ x530.toInt by omega) (show x530.toInt ≤ 399 by omega) (show 1 ≤ x494.toInt by omega) (show x494.toInt ≤ 60 by omega) (show 0 ≤ x516.toInt by omega) (show x516.toInt ≤ 400 by omega)  hw hT hF c544 c531 c543 c545 c546 (lv_sub hl [2, 1, 0] rfl)
        · have c552 : ¬ r522.toInt = (61 : Int) := wk_eqF c552
          refine lv_iload_n hx hb dX12_compare_31 rfl (lv_at hl 1 rfl) ?_
          refine lv_bipush (v := 62) hx hb dX12_compare_32 (by decide) ?_
          refine lv_icmp_eq (tgt := 44) hx hb dX12_compare_34 (by decide) (fun c553 => ?_) (fun c553 => ?_)
          · have c553 : r522.toInt = (62 : Int) := wk_eq.mp c553
            exact J44 r522 x530 x490 x530 x494 x516 H locs ls w524 (show 60 ≤ r522.toInt by omega) (show r522.toInt ≤ 62 by omega) (show 0 ≤ x530.toInt by omega) (show x530.toInt ≤ 399 by omega) (show 1 ≤ x490.toInt by omega) (show x490.toInt ≤ 400 by omega) (show 0 ≤ x530.toInt by omega) (show x530.toInt ≤ 399 by omega) (show 1 ≤ x494.toInt by omega) (show x494.toInt ≤ 60 by omega) (show 0 ≤ x516.toInt by omega) (show x516.toInt ≤ 400 by omega)  hw hT hF c544 c531 c543 c545 c546 (lv_sub hl [2, 1, 0] rfl)
          · have c553 : ¬ r522.toInt = (62 : Int) := wk_eqF c553
            refine lv_aload_n hx hb dX12_compare_37 rfl (lv_at hl 2 rfl) ?_
            refine lv_iconst (v := 0) hx hb dX12_compare_38 (by decide) ?_
            refine lv_iload_n hx hb dX12_compare_39 rfl (lv_at hl 0 rfl) ?_
            refine tk_Vi hC hK hw hT hA hE hSR kM_at0 (by decide) rfl (k_X12_fails_1 l adK adV dC dI cy ad B (by omega) (by omega) qr s1   0 (by decide) (by decide) x530 (show 0 ≤ x530.toInt by omega) (show x530.toInt ≤ 400 by omega) w524 H.size hT ) (cwV 2 hC.2.2.2.2 gX12_compare_X12_fails rfl rfl rfl (by decide +kernel) ⟨Nat.le_of_ble_eq_true rfl, Nat.le_of_ble_eq_true rfl⟩) rfl hl.1 rfl (Nat.le_of_ble_eq_true rfl) dX12_compare_40 (fun r554 w556 H locs hp555 hw => ?_)
            obtain ⟨hT, k557, hg560⟩ := hp555
            have hF := hF.tr k557 (by decide)
            have c561 := k557.gi kM_at0 (by decide) c543
            have c562 := k557.gi kM_at0 (by decide) c544
            have c563 := k557.gi kM_at0 (by decide) c545
            have c564 := k557.gi kM_at3 (by decide) c546
            have c565 := k557.gi kM_at0 (by decide) c531
            obtain ⟨rfl, ⟨x558, c559, rx558, tx558⟩⟩ := hg560
            exact tk_zret hC hr rfl hlocks hK ⟨hT, hF, (Or.inl ⟨rfl, ⟨x490, c562, (show 1 ≤ x490.toInt by omega), (show x490.toInt ≤ 400 by omega)⟩, ⟨x558, c559, (show 1 ≤ x558.toInt by omega), (show x558.toInt ≤ 3205 by omega)⟩, ⟨2, c561, (by decide), (by decide)⟩⟩)⟩ hw dX12_compare_43
    · have ex534 : x534.toInt = x490.toInt := by rw [← c544.symm.trans c535]
      have g538 : (x536.toInt = x520.toInt ∨ (gi w476 1 (x520.toInt).toNat).toInt = 32) := by have q := g538; simp only [c521, c537] at q; omega
      refine lv_istore_n (lv' := [(1, .int (-1)), (0, .ref (ad 0))]) hx hb dX12_compare_13 rfl hl (by decide) rfl (fun ls hl => ?_)
      refine lv_aload_n hx hb dX12_compare_14 rfl (lv_at hl 1 rfl) ?_
      refine tk_geti hC hK hw hT hinX12 kM_at0 (by decide) rfl 14 (by decide) (List.mem_of_getElem? (i := 1) rfl) rfl rfl dX12_compare_15 (fun x566 c567 rx566 tx566 => ?_)
      refine wk_top x536 (c567.symm.trans c537) ?_
      refine lv_istore_n (lv' := [(2, .int x536), (1, .int (-1)), (0, .ref (ad 0))]) hx hb dX12_compare_18 rfl hl (by decide) rfl (fun ls hl => ?_)
      refine lv_iload_n hx hb dX12_compare_19 rfl (lv_at hl 1 rfl) ?_
      refine lv_bipush (v := 60) hx hb dX12_compare_20 (by decide) ?_
      refine lv_icmp_eq (tgt := 44) hx hb dX12_compare_22 (by decide) (fun c => absurd c (by decide)) (fun _ => ?_)
      refine lv_iload_n hx hb dX12_compare_25 rfl (lv_at hl 1 rfl) ?_
      refine lv_bipush (v := 61) hx hb dX12_compare_26 (by decide) ?_
      refine lv_icmp_eq (tgt := 44) hx hb dX12_compare_28 (by decide) (fun c => absurd c (by decide)) (fun _ => ?_)
      refine lv_iload_n hx hb dX12_compare_31 rfl (lv_at hl 1 rfl) ?_
      refine lv_bipush (v := 62) hx hb dX12_compare_32 (by decide) ?_
      refine lv_icmp_eq (tgt := 44) hx hb dX12_compare_34 (by decide) (fun c => absurd c (by decide)) (fun _ => ?_)
      refine lv_aload_n hx hb dX12_compare_37 rfl (lv_at hl 2 rfl) ?_
      refine lv_iconst (v := 0) hx hb dX12_compare_38 (by decide) ?_
      refine lv_iload_n hx hb dX12_compare_39 rfl (lv_at hl 0 rfl) ?_
      refine tk_Vi hC hK hw hT hA hE hSR kM_at0 (by decide) rfl (k_X12_fails_1 l adK adV dC dI cy ad B (by omega) (by omega) qr s1   0 (by decide) (by decide) x536 (show 0 ≤ x536.toInt by omega) (show x536.toInt ≤ 400 by omega) w524 H.size hT ) (cwV 2 hC.2.2.2.2 gX12_compare_X12_fails rfl rfl rfl (by decide +kernel) ⟨Nat.le_of_ble_eq_true rfl, Nat.le_of_ble_eq_true rfl⟩) rfl hl.1 rfl (Nat.le_of_ble_eq_true rfl) dX12_compare_40 (fun r568 w570 H locs hp569 hw => ?_)
      obtain ⟨hT, k571, hg574⟩ := hp569
      have hF := hF.tr k571 (by decide)
      have c575 := k571.gi kM_at0 (by decide) c543
      have c576 := k571.gi kM_at0 (by decide) c544
      have c577 := k571.gi kM_at0 (by decide) c545
      have c578 := k571.gi kM_at3 (by decide) c546
      have c579 := k571.gi kM_at0 (by decide) c537
      obtain ⟨rfl, ⟨x572, c573, rx572, tx572⟩⟩ := hg574
      exact tk_zret hC hr rfl hlocks hK ⟨hT, hF, (Or.inl ⟨rfl, ⟨x490, c576, (show 1 ≤ x490.toInt by omega), (show x490.toInt ≤ 400 by omega)⟩, ⟨x572, c573, (show 1 ≤ x572.toInt by omega), (show x572.toInt ≤ 3205 by omega)⟩, ⟨2, c575, (by decide), (by decide)⟩⟩)⟩ hw dX12_compare_43
    · have ex539 : x539.toInt = x490.toInt := by rw [← c544.symm.trans c540]
      obtain ⟨x547, c548, rx547, tx547⟩ := hT.rdi (lo := 0) (hi := 400) (k := 14) kM_at0 (by decide) rfl
      have g541 : (x547.toInt = x520.toInt ∨ (gi w476 1 (x520.toInt).toNat).toInt = 32) := by have q := g541; simp only [c521, c548] at q; omega
      refine lv_istore_n (lv' := [(1, .int (-1)), (0, .ref (ad 0))]) hx hb dX12_compare_13 rfl hl (by decide) rfl (fun ls hl => ?_)
      refine lv_aload_n hx hb dX12_compare_14 rfl (lv_at hl 1 rfl) ?_
      refine tk_geti hC hK hw hT hinX12 kM_at0 (by decide) rfl 14 (by decide) (List.mem_of_getElem? (i := 1) rfl) rfl rfl dX12_compare_15 (fun x580 c581 rx580 tx580 => ?_)
      refine wk_top x547 (c581.symm.trans c548) ?_
      refine lv_istore_n (lv' := [(2, .int x547), (1, .int (-1)), (0, .ref (ad 0))]) hx hb dX12_compare_18 rfl hl (by decide) rfl (fun ls hl => ?_)
      refine lv_iload_n hx hb dX12_compare_19 rfl (lv_at hl 1 rfl) ?_
      refine lv_bipush (v := 60) hx hb dX12_compare_20 (by decide) ?_
      refine lv_icmp_eq (tgt := 44) hx hb dX12_compare_22 (by decide) (fun c => absurd c (by decide)) (fun _ => ?_)
      refine lv_iload_n hx hb dX12_compare_25 rfl (lv_at hl 1 rfl) ?_
      refine lv_bipush (v := 61) hx hb dX12_compare_26 (by decide) ?_
      refine lv_icmp_eq (tgt := 44) hx hb dX12_compare_28 (by decide) (fun c => absurd c (by decide)) (fun _ => ?_)
      refine lv_iload_n hx hb dX12_compare_31 rfl (lv_at hl 1 rfl) ?_
      refine lv_bipush (v := 62) hx hb dX12_compare_32 (by decide) ?_
      refine lv_icmp_eq (tgt := 44) hx hb dX12_compare_34 (by decide) (fun c => absurd c (by decide)) (fun _ => ?_)
      refine lv_aload_n hx hb dX12_compare_37 rfl (lv_at hl 2 rfl) ?_
      refine lv_iconst (v := 0) hx hb dX12_compare_38 (by decide) ?_
      refine lv_iload_n hx hb dX12_compare_39 rfl (lv_at hl 0 rfl) ?_
      refine tk_Vi hC hK hw hT hA hE hSR kM_at0 (by decide) rfl (k_X12_fails_1 l adK adV dC dI cy ad B (by omega) (by omega) qr s1   0 (by decide) (by decide) x547 (show 0 ≤ x547.toInt by omega) (show x547.toInt ≤ 400 by omega) w524 H.size hT ) (cwV 2 hC.2.2.2.2 gX12_compare_X12_fails rfl rfl rfl (by decide +kernel) ⟨Nat.le_of_ble_eq_true rfl, Nat.le_of_ble_eq_true rfl⟩) rfl hl.1 rfl (Nat.le_of_ble_eq_true rfl) dX12_compare_40 (fun r582 w584 H locs hp583 hw => ?_)
      obtain ⟨hT, k585, hg588⟩ := hp583
      have hF := hF.tr k585 (by decide)
      have c589 := k585.gi kM_at0 (by decide) c543
      have c590 := k585.gi kM_at0 (by decide) c544
      have c591 := k585.gi kM_at0 (by decide) c545
      have c592 := k585.gi kM_at3 (by decide) c546
      have c593 := k585.gi kM_at0 (by decide) c548
      obtain ⟨rfl, ⟨x586, c587, rx586, tx586⟩⟩ := hg588
      exact tk_zret hC hr rfl hlocks hK ⟨hT, hF, (Or.inl ⟨rfl, ⟨x490, c590, (show 1 ≤ x490.toInt by omega), (show x490.toInt ≤ 400 by omega)⟩, ⟨x586, c587, (show 1 ≤ x586.toInt by omega), (show x586.toInt ≤ 3205 by omega)⟩, ⟨2, c589, (by decide), (by decide)⟩⟩)⟩ hw dX12_compare_43
  · have ex500 : x500.toInt = (2 : Int) := by rw [show x500 = 2 from c501.symm.trans c507]; decide
    obtain ⟨x518, c519, rx518, tx518⟩ := hT.rda (lo := 0) (hi := 400) (i := 2) kM_at3 rfl rfl (by decide)
    have g504 : 3 * x518.toInt + 11 ≤ 3 * f2_.toInt + 14 * (x502.toInt - f1_.toInt) := by have q := g504; simp only [cf2_, c519, cf1_, c503] at q; omega
    have g505 : f1_.toInt + 1 ≤ x502.toInt := by have q := g505; simp only [cf1_, c503] at q; omega
    refine lv_if_ne (tgt := 9) hx hb dX12_compare_4 (by decide) (fun _ => ?_) (fun c => absurd c (by decide))
    refine lv_aload_n hx hb dX12_compare_9 rfl (lv_at hl 0 rfl) ?_
    obtain ⟨x594, c595, rx594, tx594⟩ := hT.rdi (lo := 0) (hi := 400) (k := 14) kM_at0 (by decide) rfl
    refine tk_Vi hC hK hw hT hA hE hSR kM_at0 (by decide) rfl (k_X12_see_1 l adK adV dC dI cy ad B (by omega) (by omega) qr s1    w476 H.size hT x594 c595 (show 0 ≤ x594.toInt by omega) (show x594.toInt ≤ 400 by omega)) (cwV 0 hC.2.2.2.2 gX12_compare_X12_see rfl rfl rfl (by decide +kernel) ⟨Nat.le_of_ble_eq_true rfl, Nat.le_of_ble_eq_true rfl⟩) rfl hl.1 rfl (Nat.le_of_ble_eq_true rfl) dX12_compare_10 (fun r596 w598 H locs hp597 hw => ?_)
    obtain ⟨hT, k599, hg616⟩ := hp597
    have hF := hF.tr k599 (by decide)
    have c617 := k599.gi kM_at0 (by decide) c507
    have c618 := k599.gi kM_at0 (by decide) c499
    have c619 := k599.gi kM_at0 (by decide) c503
    have c620 := k599.gi kM_at3 (by decide) c519
    rcases hg616 with ⟨g600, g601, ⟨x602, c603, rx602, tx602⟩, ⟨x604, c605, rx604, tx604⟩, g606, g607⟩ | ⟨rfl, ⟨x608, c609, rx608, tx608⟩, ⟨x610, c611, rx610, tx610⟩, g612⟩ | ⟨rfl, ⟨x613, c614, rx613, tx613⟩, g615⟩
    · have ex602 : x602.toInt = x498.toInt := by rw [← c618.symm.trans c603]
      have g606 : (gi w598 1 (x604.toInt).toNat).toInt ≠ 32 := by have q := g606; simp only [c605] at q; omega
      have g607 : (x604.toInt = x594.toInt ∨ (gi w476 1 (x594.toInt).toNat).toInt = 32) := by have q := g607; simp only [c595, c605] at q; omega
      refine lv_istore_n (lv' := [(1, .int r596), (0, .ref (ad 0))]) hx hb dX12_compare_13 rfl hl (by decide) rfl (fun ls hl => ?_)
      refine lv_aload_n hx hb dX12_compare_14 rfl (lv_at hl 1 rfl) ?_
      refine tk_geti hC hK hw hT hinX12 kM_at0 (by decide) rfl 14 (by decide) (List.mem_of_getElem? (i := 1) rfl) rfl rfl dX12_compare_15 (fun x623 c624 rx623 tx623 => ?_)
      refine wk_top x604 (c624.symm.trans c605) ?_
      refine lv_istore_n (lv' := [(2, .int x604), (1, .int r596), (0, .ref (ad 0))]) hx hb dX12_compare_18 rfl hl (by decide) rfl (fun ls hl => ?_)
      refine lv_iload_n hx hb dX12_compare_19 rfl (lv_at hl 1 rfl) ?_
      refine lv_bipush (v := 60) hx hb dX12_compare_20 (by decide) ?_
      refine lv_icmp_eq (tgt := 44) hx hb dX12_compare_22 (by decide) (fun c625 => ?_) (fun c625 => ?_)
      · have c625 : r596.toInt = (60 : Int) := wk_eq.mp c625
        exact J44 r596 x604 x498 x604 x502 x518 H locs ls w598 (show 60 ≤ r596.toInt by omega) (show r596.toInt ≤ 62 by omega) (show 0 ≤ x604.toInt by omega) (show x604.toInt ≤ 399 by omega) (show 1 ≤ x498.toInt by omega) (show x498.toInt ≤ 400 by omega) (show 0 ≤ x604.toInt by omega) (show x604.toInt ≤ 399 by omega) (show 1 ≤ x502.toInt by omega) (show x502.toInt ≤ 60 by omega) (show 0 ≤ x518.toInt by omega) (show x518.toInt ≤ 400 by omega)  hw hT hF c618 c605 c617 c619 c620 (lv_sub hl [2, 1, 0] rfl)
      · have c625 : ¬ r596.toInt = (60 : Int) := wk_eqF c625
        refine lv_iload_n hx hb dX12_compare_25 rfl (lv_at hl 1 rfl) ?_
        refine lv_bipush (v := 61) hx hb dX12_compare_26 (by decide) ?_
        refine lv_icmp_eq (tgt := 44) hx hb dX12_compare_28 (by decide) (fun c626 => ?_) (fun c626 => ?_)
        · have c626 : r596.toInt = (61 : Int) := wk_eq.mp c626
          exact J44 r596 x604 x498 x604 x502 x518 H locs ls w598 (show 60 ≤ r596.toInt by omega) (show r596.toInt ≤ 62 by omega) (show 0 ≤ x604.toInt by omega) (show x604.toInt ≤ 399 by omega) (show 1 ≤ x498.toInt by omega) (show x498.toInt ≤ 400 by omega) (show 0 ≤ x604.toInt by omega) (show x604.toInt ≤ 399 by omega) (show 1 ≤ x502.toInt by omega) (show x502.toInt ≤ 60 by omega) (show 0 ≤ x518.toInt by omega) (show x518.toInt ≤ 400 by omega)  hw hT hF c618 c605 c617 c619 c620 (lv_sub hl [2, 1, 0] rfl)
        · have c626 : ¬ r596.toInt = (61 : Int) := wk_eqF c626
          refine lv_iload_n hx hb dX12_compare_31 rfl (lv_at hl 1 rfl) ?_
          refine lv_bipush (v := 62) hx hb dX12_compare_32 (by decide) ?_
          refine lv_icmp_eq (tgt := 44) hx hb dX12_compare_34 (by decide) (fun c627 => ?_) (fun c627 => ?_)
          · have c627 : r596.toInt = (62 : Int) := wk_eq.mp c627
            exact J44 r596 x604 x498 x604 x502 x518 H locs ls w598 (show 60 ≤ r596.toInt by omega) (show r596.toInt ≤ 62 by omega) (show 0 ≤ x604.toInt by omega) (show x604.toInt ≤ 399 by omega) (show 1 ≤ x498.toInt by omega) (show x498.toInt ≤ 400 by omega) (show 0 ≤ x604.toInt by omega) (show x604.toInt ≤ 399 by omega) (show 1 ≤ x502.toInt by omega) (show x502.toInt ≤ 60 by omega) (show 0 ≤ x518.toInt by omega) (show x518.toInt ≤ 400 by omega)  hw hT hF c618 c605 c617 c619 c620 (lv_sub hl [2, 1, 0] rfl)
          · have c627 : ¬ r596.toInt = (62 : Int) := wk_eqF c627
            refine lv_aload_n hx hb dX12_compare_37 rfl (lv_at hl 2 rfl) ?_
            refine lv_iconst (v := 0) hx hb dX12_compare_38 (by decide) ?_
            refine lv_iload_n hx hb dX12_compare_39 rfl (lv_at hl 0 rfl) ?_
            refine tk_Vi hC hK hw hT hA hE hSR kM_at0 (by decide) rfl (k_X12_fails_1 l adK adV dC dI cy ad B (by omega) (by omega) qr s1   0 (by decide) (by decide) x604 (show 0 ≤ x604.toInt by omega) (show x604.toInt ≤ 400 by omega) w598 H.size hT ) (cwV 2 hC.2.2.2.2 gX12_compare_X12_fails rfl rfl rfl (by decide +kernel) ⟨Nat.le_of_ble_eq_true rfl, Nat.le_of_ble_eq_true rfl⟩) rfl hl.1 rfl (Nat.le_of_ble_eq_true rfl) dX12_compare_40 (fun r628 w630 H locs hp629 hw => ?_)
            obtain ⟨hT, k631, hg634⟩ := hp629
            have hF := hF.tr k631 (by decide)
            have c635 := k631.gi kM_at0 (by decide) c617
            have c636 := k631.gi kM_at0 (by decide) c618
            have c637 := k631.gi kM_at0 (by decide) c619
            have c638 := k631.gi kM_at3 (by decide) c620
            have c639 := k631.gi kM_at0 (by decide) c605
            obtain ⟨rfl, ⟨x632, c633, rx632, tx632⟩⟩ := hg634
            exact tk_zret hC hr rfl hlocks hK ⟨hT, hF, (Or.inl ⟨rfl, ⟨x498, c636, (show 1 ≤ x498.toInt by omega), (show x498.toInt ≤ 400 by omega)⟩, ⟨x632, c633, (show 1 ≤ x632.toInt by omega), (show x632.toInt ≤ 3205 by omega)⟩, ⟨2, c635, (by decide), (by decide)⟩⟩)⟩ hw dX12_compare_43
    · have ex608 : x608.toInt = x498.toInt := by rw [← c618.symm.trans c609]
      have g612 : (x610.toInt = x594.toInt ∨ (gi w476 1 (x594.toInt).toNat).toInt = 32) := by have q := g612; simp only [c595, c611] at q; omega
      refine lv_istore_n (lv' := [(1, .int (-1)), (0, .ref (ad 0))]) hx hb dX12_compare_13 rfl hl (by decide) rfl (fun ls hl => ?_)
      refine lv_aload_n hx hb dX12_compare_14 rfl (lv_at hl 1 rfl) ?_
      refine tk_geti hC hK hw hT hinX12 kM_at0 (by decide) rfl 14 (by decide) (List.mem_of_getElem? (i := 1) rfl) rfl rfl dX12_compare_15 (fun x640 c641 rx640 tx640 => ?_)
      refine wk_top x610 (c641.symm.trans c611) ?_
      refine lv_istore_n (lv' := [(2, .int x610), (1, .int (-1)), (0, .ref (ad 0))]) hx hb dX12_compare_18 rfl hl (by decide) rfl (fun ls hl => ?_)
      refine lv_iload_n hx hb dX12_compare_19 rfl (lv_at hl 1 rfl) ?_
      refine lv_bipush (v := 60) hx hb dX12_compare_20 (by decide) ?_
      refine lv_icmp_eq (tgt := 44) hx hb dX12_compare_22 (by decide) (fun c => absurd c (by decide)) (fun _ => ?_)
      refine lv_iload_n hx hb dX12_compare_25 rfl (lv_at hl 1 rfl) ?_
      refine lv_bipush (v := 61) hx hb dX12_compare_26 (by decide) ?_
      refine lv_icmp_eq (tgt := 44) hx hb dX12_compare_28 (by decide) (fun c => absurd c (by decide)) (fun _ => ?_)
      refine lv_iload_n hx hb dX12_compare_31 rfl (lv_at hl 1 rfl) ?_
      refine lv_bipush (v := 62) hx hb dX12_compare_32 (by decide) ?_
      refine lv_icmp_eq (tgt := 44) hx hb dX12_compare_34 (by decide) (fun c => absurd c (by decide)) (fun _ => ?_)
      refine lv_aload_n hx hb dX12_compare_37 rfl (lv_at hl 2 rfl) ?_
      refine lv_iconst (v := 0) hx hb dX12_compare_38 (by decide) ?_
      refine lv_iload_n hx hb dX12_compare_39 rfl (lv_at hl 0 rfl) ?_
      refine tk_Vi hC hK hw hT hA hE hSR kM_at0 (by decide) rfl (k_X12_fails_1 l adK adV dC dI cy ad B (by omega) (by omega) qr s1   0 (by decide) (by decide) x610 (show 0 ≤ x610.toInt by omega) (show x610.toInt ≤ 400 by omega) w598 H.size hT ) (cwV 2 hC.2.2.2.2 gX12_compare_X12_fails rfl rfl rfl (by decide +kernel) ⟨Nat.le_of_ble_eq_true rfl, Nat.le_of_ble_eq_true rfl⟩) rfl hl.1 rfl (Nat.le_of_ble_eq_true rfl) dX12_compare_40 (fun r642 w644 H locs hp643 hw => ?_)
      obtain ⟨hT, k645, hg648⟩ := hp643
      have hF := hF.tr k645 (by decide)
      have c649 := k645.gi kM_at0 (by decide) c617
      have c650 := k645.gi kM_at0 (by decide) c618
      have c651 := k645.gi kM_at0 (by decide) c619
      have c652 := k645.gi kM_at3 (by decide) c620
      have c653 := k645.gi kM_at0 (by decide) c611
      obtain ⟨rfl, ⟨x646, c647, rx646, tx646⟩⟩ := hg648
      exact tk_zret hC hr rfl hlocks hK ⟨hT, hF, (Or.inl ⟨rfl, ⟨x498, c650, (show 1 ≤ x498.toInt by omega), (show x498.toInt ≤ 400 by omega)⟩, ⟨x646, c647, (show 1 ≤ x646.toInt by omega), (show x646.toInt ≤ 3205 by omega)⟩, ⟨2, c649, (by decide), (by decide)⟩⟩)⟩ hw dX12_compare_43
    · have ex613 : x613.toInt = x498.toInt := by rw [← c618.symm.trans c614]
      obtain ⟨x621, c622, rx621, tx621⟩ := hT.rdi (lo := 0) (hi := 400) (k := 14) kM_at0 (by decide) rfl
      have g615 : (x621.toInt = x594.toInt ∨ (gi w476 1 (x594.toInt).toNat).toInt = 32) := by have q := g615; simp only [c595, c622] at q; omega
      refine lv_istore_n (lv' := [(1, .int (-1)), (0, .ref (ad 0))]) hx hb dX12_compare_13 rfl hl (by decide) rfl (fun ls hl => ?_)
      refine lv_aload_n hx hb dX12_compare_14 rfl (lv_at hl 1 rfl) ?_
      refine tk_geti hC hK hw hT hinX12 kM_at0 (by decide) rfl 14 (by decide) (List.mem_of_getElem? (i := 1) rfl) rfl rfl dX12_compare_15 (fun x654 c655 rx654 tx654 => ?_)
      refine wk_top x621 (c655.symm.trans c622) ?_
      refine lv_istore_n (lv' := [(2, .int x621), (1, .int (-1)), (0, .ref (ad 0))]) hx hb dX12_compare_18 rfl hl (by decide) rfl (fun ls hl => ?_)
      refine lv_iload_n hx hb dX12_compare_19 rfl (lv_at hl 1 rfl) ?_
      refine lv_bipush (v := 60) hx hb dX12_compare_20 (by decide) ?_
      refine lv_icmp_eq (tgt := 44) hx hb dX12_compare_22 (by decide) (fun c => absurd c (by decide)) (fun _ => ?_)
      refine lv_iload_n hx hb dX12_compare_25 rfl (lv_at hl 1 rfl) ?_
      refine lv_bipush (v := 61) hx hb dX12_compare_26 (by decide) ?_
      refine lv_icmp_eq (tgt := 44) hx hb dX12_compare_28 (by decide) (fun c => absurd c (by decide)) (fun _ => ?_)
      refine lv_iload_n hx hb dX12_compare_31 rfl (lv_at hl 1 rfl) ?_
      refine lv_bipush (v := 62) hx hb dX12_compare_32 (by decide) ?_
      refine lv_icmp_eq (tgt := 44) hx hb dX12_compare_34 (by decide) (fun c => absurd c (by decide)) (fun _ => ?_)
      refine lv_aload_n hx hb dX12_compare_37 rfl (lv_at hl 2 rfl) ?_
      refine lv_iconst (v := 0) hx hb dX12_compare_38 (by decide) ?_
      refine lv_iload_n hx hb dX12_compare_39 rfl (lv_at hl 0 rfl) ?_
      refine tk_Vi hC hK hw hT hA hE hSR kM_at0 (by decide) rfl (k_X12_fails_1 l adK adV dC dI cy ad B (by omega) (by omega) qr s1   0 (by decide) (by decide) x621 (show 0 ≤ x621.toInt by omega) (show x621.toInt ≤ 400 by omega) w598 H.size hT ) (cwV 2 hC.2.2.2.2 gX12_compare_X12_fails rfl rfl rfl (by decide +kernel) ⟨Nat.le_of_ble_eq_true rfl, Nat.le_of_ble_eq_true rfl⟩) rfl hl.1 rfl (Nat.le_of_ble_eq_true rfl) dX12_compare_40 (fun r656 w658 H locs hp657 hw => ?_)
      obtain ⟨hT, k659, hg662⟩ := hp657
      have hF := hF.tr k659 (by decide)
      have c663 := k659.gi kM_at0 (by decide) c617
      have c664 := k659.gi kM_at0 (by decide) c618
      have c665 := k659.gi kM_at0 (by decide) c619
      have c666 := k659.gi kM_at3 (by decide) c620
      have c667 := k659.gi kM_at0 (by decide) c622
      obtain ⟨rfl, ⟨x660, c661, rx660, tx660⟩⟩ := hg662
      exact tk_zret hC hr rfl hlocks hK ⟨hT, hF, (Or.inr (Or.inl ⟨rfl, ⟨x498, c664, (show 0 ≤ x498.toInt by omega), (show x498.toInt ≤ 400 by omega)⟩, ⟨x660, c661, (show 1 ≤ x660.toInt by omega), (show x660.toInt ≤ 3205 by omega)⟩, ⟨2, c663, (by decide), (by decide)⟩⟩))⟩ hw dX12_compare_43
abbrev P_X12_fact_3 (ad : Nat → Nat) (cy : Nat → ClassId) (B : Int) (qr : Nat) (s1 : Int)  (w0 : va_W) : Int32 → va_W → Prop := fun r u => TW ksM ad cy B qr 12 u ∧ FE ksM [(12, 14, 14), (12, 15, 15), (12, 16, 16), (12, 18, 18), (12, 19, 19), (12, 22, 22), (61, 0, 2400), (62, 0, 7), (68, 0, 400)] w0 u ∧ ((r = 0 ∧ (∃ y : Int32, gi u 0 1 = y ∧ 1 ≤ y.toInt ∧ y.toInt ≤ 400) ∧ (∃ y : Int32, gi u 0 15 = y ∧ 1 ≤ y.toInt ∧ y.toInt ≤ 3205) ∧ (∃ y : Int32, gi u 0 17 = y ∧ 2 ≤ y.toInt ∧ y.toInt ≤ 2) ∧ (∃ y : Int32, gi u 0 22 = y ∧ 0 ≤ y.toInt ∧ y.toInt ≤ 399)) ∨ (r = 0 ∧ (∃ y : Int32, gi u 0 1 = y ∧ 0 ≤ y.toInt ∧ y.toInt ≤ 400) ∧ (∃ y : Int32, gi u 0 15 = y ∧ 1 ≤ y.toInt ∧ y.toInt ≤ 3205) ∧ (∃ y : Int32, gi u 0 17 = y ∧ 2 ≤ y.toInt ∧ y.toInt ≤ 2) ∧ (∃ y : Int32, gi u 0 22 = y ∧ 0 ≤ y.toInt ∧ y.toInt ≤ 399)) ∨ (r = 1 ∧ (∃ y : Int32, gi u 0 1 = y ∧ 1 ≤ y.toInt ∧ y.toInt ≤ 400) ∧ (∃ y : Int32, gi u 0 17 = y ∧ 2 ≤ y.toInt ∧ y.toInt ≤ 2) ∧ (∃ y : Int32, gi u 0 18 = y ∧ 1 ≤ y.toInt ∧ y.toInt ≤ 60) ∧ (∃ y : Int32, gi u 0 22 = y ∧ 0 ≤ y.toInt ∧ y.toInt ≤ 390) ∧ (3 * ((gi u 3 2).toInt + (gi u 0 22).toInt) + 3 ≤ 14 * (gi u 0 18).toInt) ∧ ((gi u 0 22).toInt + 3 ≤ (gi u 0 19).toInt + (gi u 0 18).toInt) ∧ ((gi w0 0 18).toInt + 3 ≤ (gi u 0 18).toInt) ∧ ((gi u 3 2).toInt ≤ 280) ∧ ((gi u 0 22).toInt ≤ 280)))
set_option maxHeartbeats 4000000 in
set_option maxRecDepth 100000 in
theorem k_X12_fact_3 (l : Launch) (adK adV : Nat → Nat) (dC : Nat → ClassId) (dI : Nat → Nat → Nat) (cy : Nat → ClassId) (ad : Nat → Nat) (B : Int) (hB0 : 100000 ≤ B) (hB1 : B ≤ 1073741824) (qr : Nat) (s1 : Int)   (w0 : va_W) (sz : Nat) (hT : TW ksM ad cy B qr 12 w0) (cf0_ : gi w0 0 17 = 2) (f1_ : Int32) (cf1_ : gi w0 0 18 = f1_) (rf1_ : 0 ≤ f1_.toInt) (tf1_ : f1_.toInt ≤ 60) (f2_ : Int32) (cf2_ : gi w0 0 19 = f2_) (rf2_ : (-100) ≤ f2_.toInt) (tf2_ : f2_.toInt ≤ 10) (f3_ : Int32) (cf3_ : gi w0 0 22 = f3_) (rf3_ : 0 ≤ f3_.toInt) (tf3_ : f3_.toInt ≤ 400) (f4_ : Int32) (cf4_ : gi w0 3 2 = f4_) (rf4_ : 0 ≤ f4_.toInt) (tf4_ : f4_.toInt ≤ 400) (pr0_ : 3 * (f4_.toInt + f3_.toInt) ≤ 14 * f1_.toInt) (pr1_ : f3_.toInt ≤ f2_.toInt + f1_.toInt) (pr2_ : f4_.toInt ≤ 280) (pr3_ : f3_.toInt ≤ 280) : Met l yX12_fact wsX12_fact ({ frames := 8, cells := 0, slots := 0, locals := 166 }) (va_Pc [.ref (ad 0)] (wpreS adK adV dC dI cy sz w0)) (va_Qi (P_X12_fact_3 ad cy B qr s1  w0) (fun u : va_W => wpost dC dI cy (va_A w0 sz) u) (va_A w0 sz)) 0 0 (va_A w0 sz) := by
  refine Met.ofW (cc := cX12_fact) (maxL := 3) (ret := (some .boolean)) (by decide) rfl ?_
  intro p e s m args below meth c s₁ Bk hml hv
  obtain ⟨rfl, ⟨hsz, hP, hK, hD0⟩, hE, hSR⟩ := hv
  have hx := Bk.exec
  have hb := Bk.bytes
  have hr := Bk.returns
  have hlocks := Bk.notSynchronized
  have hC : CallFix p m c cX12_fact 3 s _ wsX12_fact RX12 := ⟨hx, hb, hml, findClass_of_methodNamed Bk.named, atoms_spec (ws := wsX12_fact) Bk.pre⟩
  subst hsz
  have hD := hD0.self (sz := s.heap.size)
  generalize hAe : va_A w0 s.heap.size = A at hD hE ⊢
  have hA : ∀ q : Nat, s.heap.size ≤ q → A q := fun q h => by rw [← hAe]; exact Or.inr h
  have hw : Wd dC dI A s.heap s.heap [] w0 := ⟨hP, hD, va_S.rf⟩
  have hF : FE ksM [(12, 14, 14), (12, 15, 15), (12, 16, 16), (12, 18, 18), (12, 19, 19), (12, 22, 22), (61, 0, 2400), (62, 0, 7), (68, 0, 400)] w0 w0 := FE.rf
  have hl := lv_entry ([.ref (ad 0)]) (n := 3) (Nat.le_of_ble_eq_true rfl)
  rw [lg_entry_eq]
  generalize (lg_sl ([.ref (ad 0)]) ++ List.replicate (3 - (lg_sl ([.ref (ad 0)])).length) Slot.unset).toArray = ls at hl ⊢
  have hl : lv_has ls 3 [(0, .ref (ad 0))] := hl
  generalize hloc : ([] : List Loc) = locs at hw ⊢
  have hinX12 : ∀ w ∈ u_ws RX12 TX12 42, w ∈ wsX12_fact := fun _ h => List.mem_cons_of_mem _ (List.mem_append_right _ (h))
  have L2 : ∀ (n2 : Nat) (v2_1 : Int32) (f2_0_19 : Int32) (f2_0_22 : Int32) (H : Heap) (locs : List Loc) (ls : Array Slot) (w1 : va_W), 0 ≤ v2_1.toInt → v2_1.toInt ≤ 1 → 0 ≤ f1_.toInt → f1_.toInt ≤ 60 → (-100) ≤ f2_0_19.toInt → f2_0_19.toInt ≤ 10 → 0 ≤ f2_0_22.toInt → f2_0_22.toInt ≤ 390 → 0 ≤ f4_.toInt → f4_.toInt ≤ 280 → (f4_.toInt = f4_.toInt) → (f1_.toInt = f1_.toInt) → (f2_0_22.toInt + f2_.toInt = f3_.toInt + f2_0_19.toInt) → (f2_.toInt ≤ f2_0_19.toInt) → (f4_.toInt ≤ 280) → (f2_0_22.toInt ≤ 390) → (2 * (10 - f2_0_19.toInt) + v2_1.toInt).toNat < n2 → Wd dC dI A s.heap H locs w1 → TW ksM ad cy B qr 12 w1 → FE ksM [(12, 14, 14), (12, 15, 15), (12, 16, 16), (12, 18, 18), (12, 19, 19), (12, 22, 22), (61, 0, 2400), (62, 0, 7), (68, 0, 400)] w0 w1 → gi w1 0 17 = 2 → gi w1 0 18 = f1_ → gi w1 0 19 = f2_0_19 → gi w1 0 22 = f2_0_22 → gi w1 3 2 = f4_ → lv_has ls 3 [(0, .ref (ad 0)), (1, .int v2_1)] → W p l e ({ frames := 8, cells := 0, slots := 0, locals := 166 }) s m (List.toArray [.ref (ad 0)]) below meth c H locs 0 0 (MQ below (va_Qi (P_X12_fact_3 ad cy B qr s1  w0) (fun u : va_W => wpost dC dI cy A u) A) (List.toArray [.ref (ad 0)]) s 0 0 A) (F0 m 2 ls []) := by
    intro n2
    induction n2 with
    | zero => intro v2_1 f2_0_19 f2_0_22 H locs ls w1 r2 t3 r5 t6 r8 t9 r11 t12 r14 t15 hcr2_0 hcr2_1 hcr2_2 hcr2_3 hcr2_4 hcr2_5 hm2 hw hT hF c4 c7 c10 c13 c16 hl; omega
    | succ n2 ih2 =>
      intro v2_1 f2_0_19 f2_0_22 H locs ls w1 r2 t3 r5 t6 r8 t9 r11 t12 r14 t15 hcr2_0 hcr2_1 hcr2_2 hcr2_3 hcr2_4 hcr2_5 hm2 hw hT hF c4 c7 c10 c13 c16 hl
      have J72 : ∀ (v72_1 : Int32) (v72_2 : Int32) (f72_0_1 : Int32) (f72_0_19 : Int32) (f72_0_22 : Int32) (H : Heap) (locs : List Loc) (ls : Array Slot) (w17 : va_W), 0 ≤ v72_1.toInt → v72_1.toInt ≤ 1 → (-1) ≤ v72_2.toInt → v72_2.toInt ≤ 255 → 0 ≤ f72_0_1.toInt → f72_0_1.toInt ≤ 400 → 0 ≤ f1_.toInt → f1_.toInt ≤ 60 → (-100) ≤ f72_0_19.toInt → f72_0_19.toInt ≤ 10 → 0 ≤ f72_0_22.toInt → f72_0_22.toInt ≤ 390 → 0 ≤ f4_.toInt → f4_.toInt ≤ 280 → (f4_.toInt = f4_.toInt) → (f1_.toInt = f1_.toInt) → (f72_0_22.toInt + f2_.toInt = f3_.toInt + f72_0_19.toInt) → (f2_.toInt ≤ f72_0_19.toInt) → (f4_.toInt ≤ 280) → (f72_0_22.toInt ≤ 390) → Wd dC dI A s.heap H locs w17 → TW ksM ad cy B qr 12 w17 → FE ksM [(12, 14, 14), (12, 15, 15), (12, 16, 16), (12, 18, 18), (12, 19, 19), (12, 22, 22), (61, 0, 2400), (62, 0, 7), (68, 0, 400)] w0 w17 → gi w17 0 1 = f72_0_1 → gi w17 0 17 = 2 → gi w17 0 18 = f1_ → gi w17 0 19 = f72_0_19 → gi w17 0 22 = f72_0_22 → gi w17 3 2 = f4_ → lv_has ls 3 [(0, .ref (ad 0)), (1, .int v72_1), (2, .int v72_2)] → W p l e ({ frames := 8, cells := 0, slots := 0, locals := 166 }) s m (List.toArray [.ref (ad 0)]) below meth c H locs 0 0 (MQ below (va_Qi (P_X12_fact_3 ad cy B qr s1  w0) (fun u : va_W => wpost dC dI cy A u) A) (List.toArray [.ref (ad 0)]) s 0 0 A) (F0 m 72 ls []) := by
        intro v72_1 v72_2 f72_0_1 f72_0_19 f72_0_22 H locs ls w17 r18 t19 r20 t21 r22 t23 r26 t27 r29 t30 r32 t33 r35 t36 hcr72_0 hcr72_1 hcr72_2 hcr72_3 hcr72_4 hcr72_5 hw hT hF c24 c25 c28 c31 c34 c37 hl
        refine lv_goto (tgt := 2) hx hb dX12_fact_72 (by decide) ?_
        exact ih2 v72_1 f72_0_19 f72_0_22 H locs ls w17 (show 0 ≤ v72_1.toInt by omega) (show v72_1.toInt ≤ 1 by omega) (show 0 ≤ f1_.toInt by omega) (show f1_.toInt ≤ 60 by omega) (show (-100) ≤ f72_0_19.toInt by omega) (show f72_0_19.toInt ≤ 10 by omega) (show 0 ≤ f72_0_22.toInt by omega) (show f72_0_22.toInt ≤ 390 by omega) (show 0 ≤ f4_.toInt by omega) (show f4_.toInt ≤ 280 by omega) (show f4_.toInt = f4_.toInt by omega) (show f1_.toInt = f1_.toInt by omega) (show f72_0_22.toInt + f2_.toInt = f3_.toInt + f72_0_19.toInt by omega) (show f2_.toInt ≤ f72_0_19.toInt by omega) (show f4_.toInt ≤ 280 by omega) (show f72_0_22.toInt ≤ 390 by omega) (show (2 * (10 - f72_0_19.toInt) + v72_1.toInt).toNat < n2 by omega) hw hT hF c25 c28 c31 c34 c37 (lv_sub hl [0, 1] rfl)
      refine lv_iload_n hx hb dX12_fact_2 rfl (lv_at hl 1 rfl) ?_
      refine lv_if_eq (tgt := 75) hx hb dX12_fact_3 (by decide) (fun c38 => ?_) (fun c38 => ?_)
      · have c38 : v2_1.toInt = (0 : Int) := wk_eq.mp c38
        refine lv_aload_n hx hb dX12_fact_75 rfl (lv_at hl 0 rfl) ?_
        refine tk_Vi hC hK hw hT hA hE hSR kM_at0 (by decide) rfl (k_X12_compare_3 l adK adV dC dI cy ad B (by omega) (by omega) qr s1    w1 H.size hT c4 f1_ c7 (show 0 ≤ f1_.toInt by omega) (show f1_.toInt ≤ 60 by omega) f4_ c16 (show 0 ≤ f4_.toInt by omega) (show f4_.toInt ≤ 400 by omega) (show 3 * f4_.toInt ≤ 14 * f1_.toInt + 30 by omega) (show f4_.toInt ≤ 290 by omega)) (cwV 0 hC.2.2.2.2 gX12_fact_X12_compare rfl rfl rfl (by decide +kernel) ⟨Nat.le_of_ble_eq_true rfl, Nat.le_of_ble_eq_true rfl⟩) rfl hl.1 rfl (Nat.le_of_ble_eq_true rfl) dX12_fact_76 (fun r39 w41 H locs hp40 hw => ?_)
        obtain ⟨hT, k42, hg63⟩ := hp40
        have hF := hF.tr k42 (by decide)
        have c64 := k42.gi kM_at0 (by decide) c4
        have c65 := k42.gi kM_at0 (by decide) c10
        have c66 := k42.gi kM_at0 (by decide) c13
        rcases hg63 with ⟨rfl, ⟨x43, c44, rx43, tx43⟩, ⟨x45, c46, rx45, tx45⟩, ⟨x47, c48, rx47, tx47⟩⟩ | ⟨rfl, ⟨x49, c50, rx49, tx49⟩, ⟨x51, c52, rx51, tx51⟩, ⟨x53, c54, rx53, tx53⟩⟩ | ⟨rfl, ⟨x55, c56, rx55, tx55⟩, ⟨x57, c58, rx57, tx57⟩, ⟨x59, c60, rx59, tx59⟩, g61, g62⟩
        · have ex47 : x47.toInt = (2 : Int) := by rw [show x47 = 2 from c48.symm.trans c64]; decide
          obtain ⟨x67, c68, rx67, tx67⟩ := hT.rda (lo := 0) (hi := 400) (i := 2) kM_at3 rfl rfl (by decide)
          obtain ⟨x69, c70, rx69, tx69⟩ := hT.rdi (lo := 0) (hi := 60) (k := 18) kM_at0 (by decide) rfl
          exact tk_zret hC hr rfl hlocks hK ⟨hT, hF, (Or.inl ⟨rfl, ⟨x43, c44, (show 1 ≤ x43.toInt by omega), (show x43.toInt ≤ 400 by omega)⟩, ⟨x45, c46, (show 1 ≤ x45.toInt by omega), (show x45.toInt ≤ 3205 by omega)⟩, ⟨2, c64, (by decide), (by decide)⟩, ⟨f2_0_22, c66, (show 0 ≤ f2_0_22.toInt by omega), (show f2_0_22.toInt ≤ 399 by omega)⟩⟩)⟩ hw dX12_fact_79
        · have ex53 : x53.toInt = (2 : Int) := by rw [show x53 = 2 from c54.symm.trans c64]; decide
          obtain ⟨x71, c72, rx71, tx71⟩ := hT.rda (lo := 0) (hi := 400) (i := 2) kM_at3 rfl rfl (by decide)
          obtain ⟨x73, c74, rx73, tx73⟩ := hT.rdi (lo := 0) (hi := 60) (k := 18) kM_at0 (by decide) rfl
          exact tk_zret hC hr rfl hlocks hK ⟨hT, hF, (Or.inr (Or.inl ⟨rfl, ⟨x49, c50, (show 0 ≤ x49.toInt by omega), (show x49.toInt ≤ 400 by omega)⟩, ⟨x51, c52, (show 1 ≤ x51.toInt by omega), (show x51.toInt ≤ 3205 by omega)⟩, ⟨2, c64, (by decide), (by decide)⟩, ⟨f2_0_22, c66, (show 0 ≤ f2_0_22.toInt by omega), (show f2_0_22.toInt ≤ 399 by omega)⟩⟩))⟩ hw dX12_fact_79
        · have ex57 : x57.toInt = (2 : Int) := by rw [show x57 = 2 from c58.symm.trans c64]; decide
          obtain ⟨x75, c76, rx75, tx75⟩ := hT.rda (lo := 0) (hi := 400) (i := 2) kM_at3 rfl rfl (by decide)
          have g61 : 3 * x75.toInt + 33 ≤ 3 * f4_.toInt + 14 * (x59.toInt - f1_.toInt) := by have q := g61; simp only [c16, c76, c7, c60] at q; omega
          have g62 : f1_.toInt + 3 ≤ x59.toInt := by have q := g62; simp only [c7, c60] at q; omega
          exact tk_zret hC hr rfl hlocks hK ⟨hT, hF, (Or.inr (Or.inr ⟨rfl, ⟨x55, c56, (show 1 ≤ x55.toInt by omega), (show x55.toInt ≤ 400 by omega)⟩, ⟨2, c64, (by decide), (by decide)⟩, ⟨x59, c60, (show 1 ≤ x59.toInt by omega), (show x59.toInt ≤ 60 by omega)⟩, ⟨f2_0_22, c66, (show 0 ≤ f2_0_22.toInt by omega), (show f2_0_22.toInt ≤ 390 by omega)⟩, (by simp only [c76, c60, c66]; omega), (by simp only [c65, c60, c66]; omega), (by simp only [cf1_, c60]; omega), (by simp only [c76]; omega), (by simp only [c66]; omega)⟩))⟩ hw dX12_fact_79
      · have c38 : ¬ v2_1.toInt = (0 : Int) := wk_eqF c38
        refine lv_iconst (v := 0) hx hb dX12_fact_6 (by decide) ?_
        refine lv_istore_n (lv' := [(1, .int 0), (0, .ref (ad 0))]) hx hb dX12_fact_7 rfl hl (by decide) rfl (fun ls hl => ?_)
        refine lv_aload_n hx hb dX12_fact_8 rfl (lv_at hl 1 rfl) ?_
        obtain ⟨x77, c78, rx77, tx77⟩ := hT.rdi (lo := 0) (hi := 400) (k := 14) kM_at0 (by decide) rfl
        refine tk_Vi hC hK hw hT hA hE hSR kM_at0 (by decide) rfl (k_X12_see_1 l adK adV dC dI cy ad B (by omega) (by omega) qr s1    w1 H.size hT x77 c78 (show 0 ≤ x77.toInt by omega) (show x77.toInt ≤ 400 by omega)) (cwV 0 hC.2.2.2.2 gX12_fact_X12_see rfl rfl rfl (by decide +kernel) ⟨Nat.le_of_ble_eq_true rfl, Nat.le_of_ble_eq_true rfl⟩) rfl hl.1 rfl (Nat.le_of_ble_eq_true rfl) dX12_fact_9 (fun r79 w81 H locs hp80 hw => ?_)
        obtain ⟨hT, k82, hg99⟩ := hp80
        have hF := hF.tr k82 (by decide)
        have c100 := k82.gi kM_at0 (by decide) c4
        have c101 := k82.gi kM_at0 (by decide) c7
        have c102 := k82.gi kM_at0 (by decide) c10
        have c103 := k82.gi kM_at0 (by decide) c13
        have c104 := k82.gi kM_at3 (by decide) c16
        rcases hg99 with ⟨g83, g84, ⟨x85, c86, rx85, tx85⟩, ⟨x87, c88, rx87, tx87⟩, g89, g90⟩ | ⟨rfl, ⟨x91, c92, rx91, tx91⟩, ⟨x93, c94, rx93, tx93⟩, g95⟩ | ⟨rfl, ⟨x96, c97, rx96, tx96⟩, g98⟩
        · have g89 : (gi w81 1 (x87.toInt).toNat).toInt ≠ 32 := by have q := g89; simp only [c88] at q; omega
          have g90 : (x87.toInt = x77.toInt ∨ (gi w1 1 (x77.toInt).toNat).toInt = 32) := by have q := g90; simp only [c78, c88] at q; omega
          refine lv_istore_n (lv' := [(2, .int r79), (1, .int 0), (0, .ref (ad 0))]) hx hb dX12_fact_12 rfl hl (by decide) rfl (fun ls hl => ?_)
          refine lv_aload_n hx hb dX12_fact_13 rfl (lv_at hl 2 rfl) ?_
          refine lv_ldc2 (v := 7237492) hx hb hC.2.2.2.1 (hC.2.2.2.2 _ (List.mem_of_getElem? (i := 1) rfl)) dX12_fact_14 ?_
          refine tk_Vi hC hK hw hT hA hE hSR kM_at0 (by decide) rfl (k_X12_isWord_20 l adK adV dC dI cy ad B (by omega) (by omega) qr s1    w81 H.size hT x87 c88 (show 0 ≤ x87.toInt by omega) (show x87.toInt ≤ 400 by omega)) (cwV 1 hC.2.2.2.2 gX12_fact_X12_isWord rfl rfl rfl (by decide +kernel) ⟨Nat.le_of_ble_eq_true rfl, Nat.le_of_ble_eq_true rfl⟩) rfl hl.1 rfl (Nat.le_of_ble_eq_true rfl) dX12_fact_17 (fun r107 w109 H locs hp108 hw => ?_)
          obtain ⟨hT, k110, hg117⟩ := hp108
          have hF := hF.tr k110 (by decide)
          have c118 := k110.gi kM_at0 (by decide) c100
          have c119 := k110.gi kM_at0 (by decide) c101
          have c120 := k110.gi kM_at0 (by decide) c102
          have c121 := k110.gi kM_at0 (by decide) c103
          have c122 := k110.gi kM_at3 (by decide) c104
          have c123 := k110.gi kM_at0 (by decide) c86
          rcases hg117 with ⟨rfl, ⟨x111, c112, rx111, tx111⟩, g113⟩ | ⟨rfl, ⟨x114, c115, rx114, tx114⟩, g116⟩
          · have ex111 : x111.toInt = x85.toInt := by rw [← c123.symm.trans c112]
            obtain ⟨x124, c125, rx124, tx124⟩ := hT.rdi (lo := 0) (hi := 400) (k := 14) kM_at0 (by decide) rfl
            have g113 : (x124.toInt = x87.toInt ∨ (gi w81 1 (x87.toInt).toNat).toInt = 32) := by have q := g113; simp only [c88, c125] at q; omega
            refine lv_if_eq (tgt := 43) hx hb dX12_fact_20 (by decide) (fun _ => ?_) (fun c => absurd (by decide) c)
            refine lv_iload_n hx hb dX12_fact_43 rfl (lv_at hl 0 rfl) ?_
            refine lv_bipush (v := 91) hx hb dX12_fact_44 (by decide) ?_
            refine lv_icmp_ne (tgt := 72) hx hb dX12_fact_46 (by decide) (fun c128 => ?_) (fun c128 => ?_)
            · have c128 : ¬ r79.toInt = (91 : Int) := wk_eqF c128
              exact J72 0 r79 x85 f2_0_19 f2_0_22 H locs ls w109 (by decide) (by decide) (show (-1) ≤ r79.toInt by omega) (show r79.toInt ≤ 255 by omega) (show 0 ≤ x85.toInt by omega) (show x85.toInt ≤ 400 by omega) (show 0 ≤ f1_.toInt by omega) (show f1_.toInt ≤ 60 by omega) (show (-100) ≤ f2_0_19.toInt by omega) (show f2_0_19.toInt ≤ 10 by omega) (show 0 ≤ f2_0_22.toInt by omega) (show f2_0_22.toInt ≤ 390 by omega) (show 0 ≤ f4_.toInt by omega) (show f4_.toInt ≤ 280 by omega) (show f4_.toInt = f4_.toInt by omega) (show f1_.toInt = f1_.toInt by omega) (show f2_0_22.toInt + f2_.toInt = f3_.toInt + f2_0_19.toInt by omega) (show f2_.toInt ≤ f2_0_19.toInt by omega) (show f4_.toInt ≤ 280 by omega) (show f2_0_22.toInt ≤ 390 by omega)  hw hT hF c123 c118 c119 c120 c121 c122 (lv_sub hl [2, 1, 0] rfl)
            · have c128 : r79.toInt = (91 : Int) := wk_eq.mp c128
              refine lv_aload_n hx hb dX12_fact_49 rfl (lv_at hl 2 rfl) ?_
              refine lv_bipush (v := 91) hx hb dX12_fact_50 (by decide) ?_
              refine tk_Vi hC hK hw hT hA hE hSR kM_at0 (by decide) rfl (k_X12_opens_2 l adK adV dC dI cy ad B (by omega) (by omega) qr s1    w109 H.size hT f2_0_19 c120 (show (-100) ≤ f2_0_19.toInt by omega) (show f2_0_19.toInt ≤ 10 by omega) f2_0_22 c121 (show 0 ≤ f2_0_22.toInt by omega) (show f2_0_22.toInt ≤ 400 by omega) (show f2_0_22.toInt ≤ 399 by omega)) (cwV 1 hC.2.2.2.2 gX12_fact_X12_opens rfl rfl rfl (by decide +kernel) ⟨Nat.le_of_ble_eq_true rfl, Nat.le_of_ble_eq_true rfl⟩) rfl hl.1 rfl (Nat.le_of_ble_eq_true rfl) dX12_fact_52 (fun r129 w131 H locs hp130 hw => ?_)
              obtain ⟨hT, k132, hg145⟩ := hp130
              have hF := hF.tr k132 (by decide)
              have c146 := k132.gi kM_at0 (by decide) c118
              have c147 := k132.gi kM_at0 (by decide) c119
              have c148 := k132.gi kM_at3 (by decide) c122
              have c149 := k132.gi kM_at0 (by decide) c123
              have c150 := k132.gi kM_at0 (by decide) c125
              rcases hg145 with ⟨rfl, ⟨x133, c134, rx133, tx133⟩, ⟨x135, c136, rx135, tx135⟩, ⟨x137, c138, rx137, tx137⟩⟩ | ⟨rfl, ⟨x139, c140, rx139, tx139⟩, ⟨x141, c142, rx141, tx141⟩, g143, g144⟩
              · refine lv_if_ne (tgt := 60) hx hb dX12_fact_55 (by decide) (fun c => absurd (by decide) c) (fun _ => ?_)
                refine lv_iconst (v := 0) hx hb dX12_fact_58 (by decide) ?_
                exact tk_zret hC hr rfl hlocks hK ⟨hT, hF, (Or.inl ⟨rfl, ⟨x85, c149, (show 1 ≤ x85.toInt by omega), (show x85.toInt ≤ 400 by omega)⟩, ⟨x133, c134, (show 1 ≤ x133.toInt by omega), (show x133.toInt ≤ 3205 by omega)⟩, ⟨2, c146, (by decide), (by decide)⟩, ⟨x137, c138, (show 0 ≤ x137.toInt by omega), (show x137.toInt ≤ 399 by omega)⟩⟩)⟩ hw dX12_fact_59
              · have g143 : x141.toInt = f2_0_22.toInt + 1 := by have q := g143; simp only [c121, c142] at q; omega
                have g144 : x139.toInt = f2_0_19.toInt + 1 := by have q := g144; simp only [c120, c140] at q; omega
                refine lv_if_ne (tgt := 60) hx hb dX12_fact_55 (by decide) (fun _ => ?_) (fun c => absurd c (by decide))
                have g151 : x124.toInt ≤ 399 := by omega
                refine lv_aload_n hx hb dX12_fact_60 rfl (lv_at hl 2 rfl) ?_
                refine lv_dup hx hb dX12_fact_61 rfl ?_
                refine tk_geti hC hK hw hT hinX12 kM_at0 (by decide) rfl 14 (by decide) (List.mem_of_getElem? (i := 2) rfl) rfl rfl dX12_fact_62 (fun x152 c153 rx152 tx152 => ?_)
                refine wk_top x124 (c153.symm.trans c150) ?_
                refine lv_iconst (v := 1) hx hb dX12_fact_65 (by decide) ?_
                refine lv_iadd hx hb dX12_fact_66 ?_
                refine lv_topi (fun x154 ex154 => ?_)
                have ex154 : x154.toInt = x124.toInt + (1 : Int) := by rw [ex154]; exact wk_add (show (-2147483648) ≤ x124.toInt + (1 : Int) by omega) (show x124.toInt + (1 : Int) ≤ 2147483647 by omega)
                refine tk_puti hC hK hw hT hinX12 tyX12_ok nmX12 kM_at0 (by decide) rfl rfl 14 (by decide) (List.mem_of_getElem? (i := 2) rfl) rfl rfl rfl rfl (show 0 ≤ x154.toInt by omega) (show x154.toInt ≤ 400 by omega) dX12_fact_67 (fun H locs w155 hw hT k157 c156 => ?_)
                have hF := hF.put kM_at0 (k := 14) (by decide) k157
                have c158 := k157.gi (Or.inr (by decide)) c146
                have c159 := k157.gi (Or.inr (by decide)) c147
                have c160 := k157.gi (Or.inr (by decide)) c148
                have c161 := k157.gi (Or.inr (by decide)) c149
                have c162 := k157.gi (Or.inr (by decide)) c140
                have c163 := k157.gi (Or.inr (by decide)) c142
                refine lv_iconst (v := 1) hx hb dX12_fact_70 (by decide) ?_
                refine lv_istore_n (lv' := [(1, .int 1), (2, .int r79), (0, .ref (ad 0))]) hx hb dX12_fact_71 rfl hl (by decide) rfl (fun ls hl => ?_)
                exact J72 1 r79 x85 x139 x141 H locs ls w155 (by decide) (by decide) (show (-1) ≤ r79.toInt by omega) (show r79.toInt ≤ 255 by omega) (show 0 ≤ x85.toInt by omega) (show x85.toInt ≤ 400 by omega) (show 0 ≤ f1_.toInt by omega) (show f1_.toInt ≤ 60 by omega) (show (-100) ≤ x139.toInt by omega) (show x139.toInt ≤ 10 by omega) (show 0 ≤ x141.toInt by omega) (show x141.toInt ≤ 390 by omega) (show 0 ≤ f4_.toInt by omega) (show f4_.toInt ≤ 280 by omega) (show f4_.toInt = f4_.toInt by omega) (show f1_.toInt = f1_.toInt by omega) (show x141.toInt + f2_.toInt = f3_.toInt + x139.toInt by omega) (show f2_.toInt ≤ x139.toInt by omega) (show f4_.toInt ≤ 280 by omega) (show x141.toInt ≤ 390 by omega)  hw hT hF c161 c158 c159 c162 c163 c160 (lv_sub hl [2, 0, 1] rfl)
          · have ex114 : x114.toInt = x85.toInt := by rw [← c123.symm.trans c115]
            obtain ⟨x126, c127, rx126, tx126⟩ := hT.rdi (lo := 0) (hi := 400) (k := 14) kM_at0 (by decide) rfl
            have g116 : (x126.toInt = x87.toInt ∨ (gi w81 1 (x87.toInt).toNat).toInt = 32) := by have q := g116; simp only [c88, c127] at q; omega
            refine lv_if_eq (tgt := 43) hx hb dX12_fact_20 (by decide) (fun c => absurd c (by decide)) (fun _ => ?_)
            refine lv_aload_n hx hb dX12_fact_23 rfl (lv_at hl 2 rfl) ?_
            refine lv_bipush (v := 11) hx hb dX12_fact_24 (by decide) ?_
            refine tk_Vi hC hK hw hT hA hE hSR kM_at0 (by decide) rfl (k_X12_opens_1 l adK adV dC dI cy ad B (by omega) (by omega) qr s1    w109 H.size hT f2_0_19 c120 (show (-100) ≤ f2_0_19.toInt by omega) (show f2_0_19.toInt ≤ 10 by omega) f2_0_22 c121 (show 0 ≤ f2_0_22.toInt by omega) (show f2_0_22.toInt ≤ 400 by omega) (show f2_0_22.toInt ≤ 399 by omega)) (cwV 1 hC.2.2.2.2 gX12_fact_X12_opens rfl rfl rfl (by decide +kernel) ⟨Nat.le_of_ble_eq_true rfl, Nat.le_of_ble_eq_true rfl⟩) rfl hl.1 rfl (Nat.le_of_ble_eq_true rfl) dX12_fact_26 (fun r164 w166 H locs hp165 hw => ?_)
            obtain ⟨hT, k167, hg180⟩ := hp165
            have hF := hF.tr k167 (by decide)
            have c181 := k167.gi kM_at0 (by decide) c118
            have c182 := k167.gi kM_at0 (by decide) c119
            have c183 := k167.gi kM_at3 (by decide) c122
            have c184 := k167.gi kM_at0 (by decide) c123
            have c185 := k167.gi kM_at0 (by decide) c127
            rcases hg180 with ⟨rfl, ⟨x168, c169, rx168, tx168⟩, ⟨x170, c171, rx170, tx170⟩, ⟨x172, c173, rx172, tx172⟩⟩ | ⟨rfl, ⟨x174, c175, rx174, tx174⟩, ⟨x176, c177, rx176, tx176⟩, g178, g179⟩
            · refine lv_if_ne (tgt := 34) hx hb dX12_fact_29 (by decide) (fun c => absurd (by decide) c) (fun _ => ?_)
              refine lv_iconst (v := 0) hx hb dX12_fact_32 (by decide) ?_
              exact tk_zret hC hr rfl hlocks hK ⟨hT, hF, (Or.inl ⟨rfl, ⟨x85, c184, (show 1 ≤ x85.toInt by omega), (show x85.toInt ≤ 400 by omega)⟩, ⟨x168, c169, (show 1 ≤ x168.toInt by omega), (show x168.toInt ≤ 3205 by omega)⟩, ⟨2, c181, (by decide), (by decide)⟩, ⟨x172, c173, (show 0 ≤ x172.toInt by omega), (show x172.toInt ≤ 399 by omega)⟩⟩)⟩ hw dX12_fact_33
            · have g178 : x176.toInt = f2_0_22.toInt + 1 := by have q := g178; simp only [c121, c177] at q; omega
              have g179 : x174.toInt = f2_0_19.toInt + 1 := by have q := g179; simp only [c120, c175] at q; omega
              refine lv_if_ne (tgt := 34) hx hb dX12_fact_29 (by decide) (fun _ => ?_) (fun c => absurd c (by decide))
              refine lv_aload_n hx hb dX12_fact_34 rfl (lv_at hl 2 rfl) ?_
              refine tk_Vv hC hK hw hT hA hE hSR kM_at0 (by decide) rfl (k_X12_passWord_1 l adK adV dC dI cy ad B (by omega) (by omega) qr s1    w166 H.size hT ) (cwV 0 hC.2.2.2.2 gX12_fact_X12_passWord rfl rfl rfl (by decide +kernel) ⟨Nat.le_of_ble_eq_true rfl, Nat.le_of_ble_eq_true rfl⟩) rfl hl.1 rfl (Nat.le_of_ble_eq_true rfl) dX12_fact_35 (fun w188 H locs hp187 hw => ?_)
              obtain ⟨hT, k189, hg196⟩ := hp187
              have hF := hF.tr k189 (by decide)
              have c197 := k189.gi kM_at0 (by decide) c181
              have c198 := k189.gi kM_at0 (by decide) c182
              have c199 := k189.gi kM_at3 (by decide) c183
              have c200 := k189.gi kM_at0 (by decide) c184
              have c201 := k189.gi kM_at0 (by decide) c175
              have c202 := k189.gi kM_at0 (by decide) c177
              rcases hg196 with ⟨⟨x190, c191, rx190, tx190⟩, ⟨x192, c193, rx192, tx192⟩⟩ | ⟨x194, c195, rx194, tx194⟩
              · have ex190 : x190.toInt = x85.toInt := by rw [← c200.symm.trans c191]
                refine lv_iconst (v := 1) hx hb dX12_fact_38 (by decide) ?_
                refine lv_istore_n (lv' := [(1, .int 1), (2, .int r79), (0, .ref (ad 0))]) hx hb dX12_fact_39 rfl hl (by decide) rfl (fun ls hl => ?_)
                refine lv_goto (tgt := 72) hx hb dX12_fact_40 (by decide) ?_
                exact J72 1 r79 x85 x174 x176 H locs ls w188 (by decide) (by decide) (show (-1) ≤ r79.toInt by omega) (show r79.toInt ≤ 255 by omega) (show 0 ≤ x85.toInt by omega) (show x85.toInt ≤ 400 by omega) (show 0 ≤ f1_.toInt by omega) (show f1_.toInt ≤ 60 by omega) (show (-100) ≤ x174.toInt by omega) (show x174.toInt ≤ 10 by omega) (show 0 ≤ x176.toInt by omega) (show x176.toInt ≤ 390 by omega) (show 0 ≤ f4_.toInt by omega) (show f4_.toInt ≤ 280 by omega) (show f4_.toInt = f4_.toInt by omega) (show f1_.toInt = f1_.toInt by omega) (show x176.toInt + f2_.toInt = f3_.toInt + x174.toInt by omega) (show f2_.toInt ≤ x174.toInt by omega) (show f4_.toInt ≤ 280 by omega) (show x176.toInt ≤ 390 by omega)  hw hT hF c200 c197 c198 c201 c202 c199 (lv_sub hl [2, 0, 1] rfl)
              · have ex194 : x194.toInt = x85.toInt := by rw [← c200.symm.trans c195]
                refine lv_iconst (v := 1) hx hb dX12_fact_38 (by decide) ?_
                refine lv_istore_n (lv' := [(1, .int 1), (2, .int r79), (0, .ref (ad 0))]) hx hb dX12_fact_39 rfl hl (by decide) rfl (fun ls hl => ?_)
                refine lv_goto (tgt := 72) hx hb dX12_fact_40 (by decide) ?_
                exact J72 1 r79 x85 x174 x176 H locs ls w188 (by decide) (by decide) (show (-1) ≤ r79.toInt by omega) (show r79.toInt ≤ 255 by omega) (show 0 ≤ x85.toInt by omega) (show x85.toInt ≤ 400 by omega) (show 0 ≤ f1_.toInt by omega) (show f1_.toInt ≤ 60 by omega) (show (-100) ≤ x174.toInt by omega) (show x174.toInt ≤ 10 by omega) (show 0 ≤ x176.toInt by omega) (show x176.toInt ≤ 390 by omega) (show 0 ≤ f4_.toInt by omega) (show f4_.toInt ≤ 280 by omega) (show f4_.toInt = f4_.toInt by omega) (show f1_.toInt = f1_.toInt by omega) (show x176.toInt + f2_.toInt = f3_.toInt + x174.toInt by omega) (show f2_.toInt ≤ x174.toInt by omega) (show f4_.toInt ≤ 280 by omega) (show x176.toInt ≤ 390 by omega)  hw hT hF c200 c197 c198 c201 c202 c199 (lv_sub hl [2, 0, 1] rfl)
        · have g95 : (x93.toInt = x77.toInt ∨ (gi w1 1 (x77.toInt).toNat).toInt = 32) := by have q := g95; simp only [c78, c94] at q; omega
          refine lv_istore_n (lv' := [(2, .int (-1)), (1, .int 0), (0, .ref (ad 0))]) hx hb dX12_fact_12 rfl hl (by decide) rfl (fun ls hl => ?_)
          refine lv_aload_n hx hb dX12_fact_13 rfl (lv_at hl 2 rfl) ?_
          refine lv_ldc2 (v := 7237492) hx hb hC.2.2.2.1 (hC.2.2.2.2 _ (List.mem_of_getElem? (i := 1) rfl)) dX12_fact_14 ?_
          refine tk_Vi hC hK hw hT hA hE hSR kM_at0 (by decide) rfl (k_X12_isWord_20 l adK adV dC dI cy ad B (by omega) (by omega) qr s1    w81 H.size hT x93 c94 (show 0 ≤ x93.toInt by omega) (show x93.toInt ≤ 400 by omega)) (cwV 1 hC.2.2.2.2 gX12_fact_X12_isWord rfl rfl rfl (by decide +kernel) ⟨Nat.le_of_ble_eq_true rfl, Nat.le_of_ble_eq_true rfl⟩) rfl hl.1 rfl (Nat.le_of_ble_eq_true rfl) dX12_fact_17 (fun r203 w205 H locs hp204 hw => ?_)
          obtain ⟨hT, k206, hg213⟩ := hp204
          have hF := hF.tr k206 (by decide)
          have c214 := k206.gi kM_at0 (by decide) c100
          have c215 := k206.gi kM_at0 (by decide) c101
          have c216 := k206.gi kM_at0 (by decide) c102
          have c217 := k206.gi kM_at0 (by decide) c103
          have c218 := k206.gi kM_at3 (by decide) c104
          have c219 := k206.gi kM_at0 (by decide) c92
          rcases hg213 with ⟨rfl, ⟨x207, c208, rx207, tx207⟩, g209⟩ | ⟨rfl, ⟨x210, c211, rx210, tx210⟩, g212⟩
          · have ex207 : x207.toInt = x91.toInt := by rw [← c219.symm.trans c208]
            obtain ⟨x220, c221, rx220, tx220⟩ := hT.rdi (lo := 0) (hi := 400) (k := 14) kM_at0 (by decide) rfl
            have g209 : (x220.toInt = x93.toInt ∨ (gi w81 1 (x93.toInt).toNat).toInt = 32) := by have q := g209; simp only [c94, c221] at q; omega
            refine lv_if_eq (tgt := 43) hx hb dX12_fact_20 (by decide) (fun _ => ?_) (fun c => absurd (by decide) c)
            refine lv_iload_n hx hb dX12_fact_43 rfl (lv_at hl 0 rfl) ?_
            refine lv_bipush (v := 91) hx hb dX12_fact_44 (by decide) ?_
            refine lv_icmp_ne (tgt := 72) hx hb dX12_fact_46 (by decide) (fun _ => ?_) (fun c => absurd c (by decide))
            exact J72 0 (-1) x91 f2_0_19 f2_0_22 H locs ls w205 (by decide) (by decide) (by decide) (by decide) (show 0 ≤ x91.toInt by omega) (show x91.toInt ≤ 400 by omega) (show 0 ≤ f1_.toInt by omega) (show f1_.toInt ≤ 60 by omega) (show (-100) ≤ f2_0_19.toInt by omega) (show f2_0_19.toInt ≤ 10 by omega) (show 0 ≤ f2_0_22.toInt by omega) (show f2_0_22.toInt ≤ 390 by omega) (show 0 ≤ f4_.toInt by omega) (show f4_.toInt ≤ 280 by omega) (show f4_.toInt = f4_.toInt by omega) (show f1_.toInt = f1_.toInt by omega) (show f2_0_22.toInt + f2_.toInt = f3_.toInt + f2_0_19.toInt by omega) (show f2_.toInt ≤ f2_0_19.toInt by omega) (show f4_.toInt ≤ 280 by omega) (show f2_0_22.toInt ≤ 390 by omega)  hw hT hF c219 c214 c215 c216 c217 c218 (lv_sub hl [2, 1, 0] rfl)
          · have ex210 : x210.toInt = x91.toInt := by rw [← c219.symm.trans c211]
            obtain ⟨x222, c223, rx222, tx222⟩ := hT.rdi (lo := 0) (hi := 400) (k := 14) kM_at0 (by decide) rfl
            have g212 : (x222.toInt = x93.toInt ∨ (gi w81 1 (x93.toInt).toNat).toInt = 32) := by have q := g212; simp only [c94, c223] at q; omega
            refine lv_if_eq (tgt := 43) hx hb dX12_fact_20 (by decide) (fun c => absurd c (by decide)) (fun _ => ?_)
            refine lv_aload_n hx hb dX12_fact_23 rfl (lv_at hl 2 rfl) ?_
            refine lv_bipush (v := 11) hx hb dX12_fact_24 (by decide) ?_
            refine tk_Vi hC hK hw hT hA hE hSR kM_at0 (by decide) rfl (k_X12_opens_1 l adK adV dC dI cy ad B (by omega) (by omega) qr s1    w205 H.size hT f2_0_19 c216 (show (-100) ≤ f2_0_19.toInt by omega) (show f2_0_19.toInt ≤ 10 by omega) f2_0_22 c217 (show 0 ≤ f2_0_22.toInt by omega) (show f2_0_22.toInt ≤ 400 by omega) (show f2_0_22.toInt ≤ 399 by omega)) (cwV 1 hC.2.2.2.2 gX12_fact_X12_opens rfl rfl rfl (by decide +kernel) ⟨Nat.le_of_ble_eq_true rfl, Nat.le_of_ble_eq_true rfl⟩) rfl hl.1 rfl (Nat.le_of_ble_eq_true rfl) dX12_fact_26 (fun r224 w226 H locs hp225 hw => ?_)
            obtain ⟨hT, k227, hg240⟩ := hp225
            have hF := hF.tr k227 (by decide)
            have c241 := k227.gi kM_at0 (by decide) c214
            have c242 := k227.gi kM_at0 (by decide) c215
            have c243 := k227.gi kM_at3 (by decide) c218
            have c244 := k227.gi kM_at0 (by decide) c219
            have c245 := k227.gi kM_at0 (by decide) c223
            rcases hg240 with ⟨rfl, ⟨x228, c229, rx228, tx228⟩, ⟨x230, c231, rx230, tx230⟩, ⟨x232, c233, rx232, tx232⟩⟩ | ⟨rfl, ⟨x234, c235, rx234, tx234⟩, ⟨x236, c237, rx236, tx236⟩, g238, g239⟩
            · refine lv_if_ne (tgt := 34) hx hb dX12_fact_29 (by decide) (fun c => absurd (by decide) c) (fun _ => ?_)
              refine lv_iconst (v := 0) hx hb dX12_fact_32 (by decide) ?_
              exact tk_zret hC hr rfl hlocks hK ⟨hT, hF, (Or.inl ⟨rfl, ⟨x91, c244, (show 1 ≤ x91.toInt by omega), (show x91.toInt ≤ 400 by omega)⟩, ⟨x228, c229, (show 1 ≤ x228.toInt by omega), (show x228.toInt ≤ 3205 by omega)⟩, ⟨2, c241, (by decide), (by decide)⟩, ⟨x232, c233, (show 0 ≤ x232.toInt by omega), (show x232.toInt ≤ 399 by omega)⟩⟩)⟩ hw dX12_fact_33
            · have g238 : x236.toInt = f2_0_22.toInt + 1 := by have q := g238; simp only [c217, c237] at q; omega
              have g239 : x234.toInt = f2_0_19.toInt + 1 := by have q := g239; simp only [c216, c235] at q; omega
              refine lv_if_ne (tgt := 34) hx hb dX12_fact_29 (by decide) (fun _ => ?_) (fun c => absurd c (by decide))
              refine lv_aload_n hx hb dX12_fact_34 rfl (lv_at hl 2 rfl) ?_
              refine tk_Vv hC hK hw hT hA hE hSR kM_at0 (by decide) rfl (k_X12_passWord_1 l adK adV dC dI cy ad B (by omega) (by omega) qr s1    w226 H.size hT ) (cwV 0 hC.2.2.2.2 gX12_fact_X12_passWord rfl rfl rfl (by decide +kernel) ⟨Nat.le_of_ble_eq_true rfl, Nat.le_of_ble_eq_true rfl⟩) rfl hl.1 rfl (Nat.le_of_ble_eq_true rfl) dX12_fact_35 (fun w248 H locs hp247 hw => ?_)
              obtain ⟨hT, k249, hg256⟩ := hp247
              have hF := hF.tr k249 (by decide)
              have c257 := k249.gi kM_at0 (by decide) c241
              have c258 := k249.gi kM_at0 (by decide) c242
              have c259 := k249.gi kM_at3 (by decide) c243
              have c260 := k249.gi kM_at0 (by decide) c244
              have c261 := k249.gi kM_at0 (by decide) c235
              have c262 := k249.gi kM_at0 (by decide) c237
              rcases hg256 with ⟨⟨x250, c251, rx250, tx250⟩, ⟨x252, c253, rx252, tx252⟩⟩ | ⟨x254, c255, rx254, tx254⟩
              · have ex250 : x250.toInt = x91.toInt := by rw [← c260.symm.trans c251]
                refine lv_iconst (v := 1) hx hb dX12_fact_38 (by decide) ?_
                refine lv_istore_n (lv' := [(1, .int 1), (2, .int (-1)), (0, .ref (ad 0))]) hx hb dX12_fact_39 rfl hl (by decide) rfl (fun ls hl => ?_)
                refine lv_goto (tgt := 72) hx hb dX12_fact_40 (by decide) ?_
                exact J72 1 (-1) x91 x234 x236 H locs ls w248 (by decide) (by decide) (by decide) (by decide) (show 0 ≤ x91.toInt by omega) (show x91.toInt ≤ 400 by omega) (show 0 ≤ f1_.toInt by omega) (show f1_.toInt ≤ 60 by omega) (show (-100) ≤ x234.toInt by omega) (show x234.toInt ≤ 10 by omega) (show 0 ≤ x236.toInt by omega) (show x236.toInt ≤ 390 by omega) (show 0 ≤ f4_.toInt by omega) (show f4_.toInt ≤ 280 by omega) (show f4_.toInt = f4_.toInt by omega) (show f1_.toInt = f1_.toInt by omega) (show x236.toInt + f2_.toInt = f3_.toInt + x234.toInt by omega) (show f2_.toInt ≤ x234.toInt by omega) (show f4_.toInt ≤ 280 by omega) (show x236.toInt ≤ 390 by omega)  hw hT hF c260 c257 c258 c261 c262 c259 (lv_sub hl [2, 0, 1] rfl)
              · have ex254 : x254.toInt = x91.toInt := by rw [← c260.symm.trans c255]
                refine lv_iconst (v := 1) hx hb dX12_fact_38 (by decide) ?_
                refine lv_istore_n (lv' := [(1, .int 1), (2, .int (-1)), (0, .ref (ad 0))]) hx hb dX12_fact_39 rfl hl (by decide) rfl (fun ls hl => ?_)
                refine lv_goto (tgt := 72) hx hb dX12_fact_40 (by decide) ?_
                exact J72 1 (-1) x91 x234 x236 H locs ls w248 (by decide) (by decide) (by decide) (by decide) (show 0 ≤ x91.toInt by omega) (show x91.toInt ≤ 400 by omega) (show 0 ≤ f1_.toInt by omega) (show f1_.toInt ≤ 60 by omega) (show (-100) ≤ x234.toInt by omega) (show x234.toInt ≤ 10 by omega) (show 0 ≤ x236.toInt by omega) (show x236.toInt ≤ 390 by omega) (show 0 ≤ f4_.toInt by omega) (show f4_.toInt ≤ 280 by omega) (show f4_.toInt = f4_.toInt by omega) (show f1_.toInt = f1_.toInt by omega) (show x236.toInt + f2_.toInt = f3_.toInt + x234.toInt by omega) (show f2_.toInt ≤ x234.toInt by omega) (show f4_.toInt ≤ 280 by omega) (show x236.toInt ≤ 390 by omega)  hw hT hF c260 c257 c258 c261 c262 c259 (lv_sub hl [2, 0, 1] rfl)
        · obtain ⟨x105, c106, rx105, tx105⟩ := hT.rdi (lo := 0) (hi := 400) (k := 14) kM_at0 (by decide) rfl
          have g98 : (x105.toInt = x77.toInt ∨ (gi w1 1 (x77.toInt).toNat).toInt = 32) := by have q := g98; simp only [c78, c106] at q; omega
          refine lv_istore_n (lv' := [(2, .int (-1)), (1, .int 0), (0, .ref (ad 0))]) hx hb dX12_fact_12 rfl hl (by decide) rfl (fun ls hl => ?_)
          refine lv_aload_n hx hb dX12_fact_13 rfl (lv_at hl 2 rfl) ?_
          refine lv_ldc2 (v := 7237492) hx hb hC.2.2.2.1 (hC.2.2.2.2 _ (List.mem_of_getElem? (i := 1) rfl)) dX12_fact_14 ?_
          refine tk_Vi hC hK hw hT hA hE hSR kM_at0 (by decide) rfl (k_X12_isWord_20 l adK adV dC dI cy ad B (by omega) (by omega) qr s1    w81 H.size hT x105 c106 (show 0 ≤ x105.toInt by omega) (show x105.toInt ≤ 400 by omega)) (cwV 1 hC.2.2.2.2 gX12_fact_X12_isWord rfl rfl rfl (by decide +kernel) ⟨Nat.le_of_ble_eq_true rfl, Nat.le_of_ble_eq_true rfl⟩) rfl hl.1 rfl (Nat.le_of_ble_eq_true rfl) dX12_fact_17 (fun r263 w265 H locs hp264 hw => ?_)
          obtain ⟨hT, k266, hg273⟩ := hp264
          have hF := hF.tr k266 (by decide)
          have c274 := k266.gi kM_at0 (by decide) c100
          have c275 := k266.gi kM_at0 (by decide) c101
          have c276 := k266.gi kM_at0 (by decide) c102
          have c277 := k266.gi kM_at0 (by decide) c103
          have c278 := k266.gi kM_at3 (by decide) c104
          have c279 := k266.gi kM_at0 (by decide) c97
          rcases hg273 with ⟨rfl, ⟨x267, c268, rx267, tx267⟩, g269⟩ | ⟨rfl, ⟨x270, c271, rx270, tx270⟩, g272⟩
          · have ex267 : x267.toInt = x96.toInt := by rw [← c279.symm.trans c268]
            obtain ⟨x280, c281, rx280, tx280⟩ := hT.rdi (lo := 0) (hi := 400) (k := 14) kM_at0 (by decide) rfl
            have g269 : (x280.toInt = x105.toInt ∨ (gi w81 1 (x105.toInt).toNat).toInt = 32) := by have q := g269; simp only [c106, c281] at q; omega
            refine lv_if_eq (tgt := 43) hx hb dX12_fact_20 (by decide) (fun _ => ?_) (fun c => absurd (by decide) c)
            refine lv_iload_n hx hb dX12_fact_43 rfl (lv_at hl 0 rfl) ?_
            refine lv_bipush (v := 91) hx hb dX12_fact_44 (by decide) ?_
            refine lv_icmp_ne (tgt := 72) hx hb dX12_fact_46 (by decide) (fun _ => ?_) (fun c => absurd c (by decide))
            exact J72 0 (-1) x96 f2_0_19 f2_0_22 H locs ls w265 (by decide) (by decide) (by decide) (by decide) (show 0 ≤ x96.toInt by omega) (show x96.toInt ≤ 400 by omega) (show 0 ≤ f1_.toInt by omega) (show f1_.toInt ≤ 60 by omega) (show (-100) ≤ f2_0_19.toInt by omega) (show f2_0_19.toInt ≤ 10 by omega) (show 0 ≤ f2_0_22.toInt by omega) (show f2_0_22.toInt ≤ 390 by omega) (show 0 ≤ f4_.toInt by omega) (show f4_.toInt ≤ 280 by omega) (show f4_.toInt = f4_.toInt by omega) (show f1_.toInt = f1_.toInt by omega) (show f2_0_22.toInt + f2_.toInt = f3_.toInt + f2_0_19.toInt by omega) (show f2_.toInt ≤ f2_0_19.toInt by omega) (show f4_.toInt ≤ 280 by omega) (show f2_0_22.toInt ≤ 390 by omega)  hw hT hF c279 c274 c275 c276 c277 c278 (lv_sub hl [2, 1, 0] rfl)
          · have ex270 : x270.toInt = x96.toInt := by rw [← c279.symm.trans c271]
            obtain ⟨x282, c283, rx282, tx282⟩ := hT.rdi (lo := 0) (hi := 400) (k := 14) kM_at0 (by decide) rfl
            have g272 : (x282.toInt = x105.toInt ∨ (gi w81 1 (x105.toInt).toNat).toInt = 32) := by have q := g272; simp only [c106, c283] at q; omega
            refine lv_if_eq (tgt := 43) hx hb dX12_fact_20 (by decide) (fun c => absurd c (by decide)) (fun _ => ?_)
            refine lv_aload_n hx hb dX12_fact_23 rfl (lv_at hl 2 rfl) ?_
            refine lv_bipush (v := 11) hx hb dX12_fact_24 (by decide) ?_
            refine tk_Vi hC hK hw hT hA hE hSR kM_at0 (by decide) rfl (k_X12_opens_1 l adK adV dC dI cy ad B (by omega) (by omega) qr s1    w265 H.size hT f2_0_19 c276 (show (-100) ≤ f2_0_19.toInt by omega) (show f2_0_19.toInt ≤ 10 by omega) f2_0_22 c277 (show 0 ≤ f2_0_22.toInt by omega) (show f2_0_22.toInt ≤ 400 by omega) (show f2_0_22.toInt ≤ 399 by omega)) (cwV 1 hC.2.2.2.2 gX12_fact_X12_opens rfl rfl rfl (by decide +kernel) ⟨Nat.le_of_ble_eq_true rfl, Nat.le_of_ble_eq_true rfl⟩) rfl hl.1 rfl (Nat.le_of_ble_eq_true rfl) dX12_fact_26 (fun r284 w286 H locs hp285 hw => ?_)
            obtain ⟨hT, k287, hg300⟩ := hp285
            have hF := hF.tr k287 (by decide)
            have c301 := k287.gi kM_at0 (by decide) c274
            have c302 := k287.gi kM_at0 (by decide) c275
            have c303 := k287.gi kM_at3 (by decide) c278
            have c304 := k287.gi kM_at0 (by decide) c279
            have c305 := k287.gi kM_at0 (by decide) c283
            rcases hg300 with ⟨rfl, ⟨x288, c289, rx288, tx288⟩, ⟨x290, c291, rx290, tx290⟩, ⟨x292, c293, rx292, tx292⟩⟩ | ⟨rfl, ⟨x294, c295, rx294, tx294⟩, ⟨x296, c297, rx296, tx296⟩, g298, g299⟩
            · refine lv_if_ne (tgt := 34) hx hb dX12_fact_29 (by decide) (fun c => absurd (by decide) c) (fun _ => ?_)
              refine lv_iconst (v := 0) hx hb dX12_fact_32 (by decide) ?_
              exact tk_zret hC hr rfl hlocks hK ⟨hT, hF, (Or.inr (Or.inl ⟨rfl, ⟨x96, c304, (show 0 ≤ x96.toInt by omega), (show x96.toInt ≤ 400 by omega)⟩, ⟨x288, c289, (show 1 ≤ x288.toInt by omega), (show x288.toInt ≤ 3205 by omega)⟩, ⟨2, c301, (by decide), (by decide)⟩, ⟨x292, c293, (show 0 ≤ x292.toInt by omega), (show x292.toInt ≤ 399 by omega)⟩⟩))⟩ hw dX12_fact_33
            · have g298 : x296.toInt = f2_0_22.toInt + 1 := by have q := g298; simp only [c277, c297] at q; omega
              have g299 : x294.toInt = f2_0_19.toInt + 1 := by have q := g299; simp only [c276, c295] at q; omega
              refine lv_if_ne (tgt := 34) hx hb dX12_fact_29 (by decide) (fun _ => ?_) (fun c => absurd c (by decide))
              refine lv_aload_n hx hb dX12_fact_34 rfl (lv_at hl 2 rfl) ?_
              refine tk_Vv hC hK hw hT hA hE hSR kM_at0 (by decide) rfl (k_X12_passWord_1 l adK adV dC dI cy ad B (by omega) (by omega) qr s1    w286 H.size hT ) (cwV 0 hC.2.2.2.2 gX12_fact_X12_passWord rfl rfl rfl (by decide +kernel) ⟨Nat.le_of_ble_eq_true rfl, Nat.le_of_ble_eq_true rfl⟩) rfl hl.1 rfl (Nat.le_of_ble_eq_true rfl) dX12_fact_35 (fun w308 H locs hp307 hw => ?_)
              obtain ⟨hT, k309, hg316⟩ := hp307
              have hF := hF.tr k309 (by decide)
              have c317 := k309.gi kM_at0 (by decide) c301
              have c318 := k309.gi kM_at0 (by decide) c302
              have c319 := k309.gi kM_at3 (by decide) c303
              have c320 := k309.gi kM_at0 (by decide) c304
              have c321 := k309.gi kM_at0 (by decide) c295
              have c322 := k309.gi kM_at0 (by decide) c297
              rcases hg316 with ⟨⟨x310, c311, rx310, tx310⟩, ⟨x312, c313, rx312, tx312⟩⟩ | ⟨x314, c315, rx314, tx314⟩
              · have ex310 : x310.toInt = x96.toInt := by rw [← c320.symm.trans c311]
                refine lv_iconst (v := 1) hx hb dX12_fact_38 (by decide) ?_
                refine lv_istore_n (lv' := [(1, .int 1), (2, .int (-1)), (0, .ref (ad 0))]) hx hb dX12_fact_39 rfl hl (by decide) rfl (fun ls hl => ?_)
                refine lv_goto (tgt := 72) hx hb dX12_fact_40 (by decide) ?_
                exact J72 1 (-1) x96 x294 x296 H locs ls w308 (by decide) (by decide) (by decide) (by decide) (show 0 ≤ x96.toInt by omega) (show x96.toInt ≤ 400 by omega) (show 0 ≤ f1_.toInt by omega) (show f1_.toInt ≤ 60 by omega) (show (-100) ≤ x294.toInt by omega) (show x294.toInt ≤ 10 by omega) (show 0 ≤ x296.toInt by omega) (show x296.toInt ≤ 390 by omega) (show 0 ≤ f4_.toInt by omega) (show f4_.toInt ≤ 280 by omega) (show f4_.toInt = f4_.toInt by omega) (show f1_.toInt = f1_.toInt by omega) (show x296.toInt + f2_.toInt = f3_.toInt + x294.toInt by omega) (show f2_.toInt ≤ x294.toInt by omega) (show f4_.toInt ≤ 280 by omega) (show x296.toInt ≤ 390 by omega)  hw hT hF c320 c317 c318 c321 c322 c319 (lv_sub hl [2, 0, 1] rfl)
              · have ex314 : x314.toInt = x96.toInt := by rw [← c320.symm.trans c315]
                refine lv_iconst (v := 1) hx hb dX12_fact_38 (by decide) ?_
                refine lv_istore_n (lv' := [(1, .int 1), (2, .int (-1)), (0, .ref (ad 0))]) hx hb dX12_fact_39 rfl hl (by decide) rfl (fun ls hl => ?_)
                refine lv_goto (tgt := 72) hx hb dX12_fact_40 (by decide) ?_
                exact J72 1 (-1) x96 x294 x296 H locs ls w308 (by decide) (by decide) (by decide) (by decide) (show 0 ≤ x96.toInt by omega) (show x96.toInt ≤ 400 by omega) (show 0 ≤ f1_.toInt by omega) (show f1_.toInt ≤ 60 by omega) (show (-100) ≤ x294.toInt by omega) (show x294.toInt ≤ 10 by omega) (show 0 ≤ x296.toInt by omega) (show x296.toInt ≤ 390 by omega) (show 0 ≤ f4_.toInt by omega) (show f4_.toInt ≤ 280 by omega) (show f4_.toInt = f4_.toInt by omega) (show f1_.toInt = f1_.toInt by omega) (show x296.toInt + f2_.toInt = f3_.toInt + x294.toInt by omega) (show f2_.toInt ≤ x294.toInt by omega) (show f4_.toInt ≤ 280 by omega) (show x296.toInt ≤ 390 by omega)  hw hT hF c320 c317 c318 c321 c322 c319 (lv_sub hl [2, 0, 1] rfl)
  refine lv_iconst (v := 1) hx hb dX12_fact_0 (by decide) ?_
  refine lv_istore_n (lv' := [(1, .int 1), (0, .ref (ad 0))]) hx hb dX12_fact_1 rfl hl (by decide) rfl (fun ls hl => ?_)
  exact L2 ((2 * (10 - f2_.toInt) + (1 : Int)).toNat + 1) 1 f2_ f3_ s.heap locs ls w0 (by decide) (by decide) (show 0 ≤ f1_.toInt by omega) (show f1_.toInt ≤ 60 by omega) (show (-100) ≤ f2_.toInt by omega) (show f2_.toInt ≤ 10 by omega) (show 0 ≤ f3_.toInt by omega) (show f3_.toInt ≤ 390 by omega) (show 0 ≤ f4_.toInt by omega) (show f4_.toInt ≤ 280 by omega) (show f4_.toInt = f4_.toInt by omega) (show f1_.toInt = f1_.toInt by omega) (show f3_.toInt + f2_.toInt = f3_.toInt + f2_.toInt by omega) (show f2_.toInt ≤ f2_.toInt by omega) (show f4_.toInt ≤ 280 by omega) (show f3_.toInt ≤ 390 by omega) (Nat.lt_succ_self _) hw hT hF cf0_ cf1_ cf2_ cf3_ cf4_ (lv_sub hl [1, 0] rfl)
abbrev P_X12_settles_9 (ad : Nat → Nat) (cy : Nat → ClassId) (B : Int) (qr : Nat) (s1 : Int)  (w0 : va_W) : va_W → Prop := fun u => TW ksM ad cy B qr 12 u ∧ FE ksM [(12, 19, 19), (12, 22, 22), (61, 0, 2400), (62, 0, 7)] w0 u ∧ (((∃ y : Int32, gi u 0 17 = y ∧ 2 ≤ y.toInt ∧ y.toInt ≤ 2) ∧ (∃ y : Int32, gi u 0 19 = y ∧ (-60) ≤ y.toInt ∧ y.toInt ≤ 10) ∧ (∃ y : Int32, gi u 0 22 = y ∧ 0 ≤ y.toInt ∧ y.toInt ≤ 390) ∧ ((gi u 3 2).toInt + (gi u 0 22).toInt = (gi w0 3 2).toInt + (gi w0 0 22).toInt) ∧ ((gi u 0 22).toInt ≤ (gi w0 0 22).toInt) ∧ ((gi u 0 22).toInt + (gi w0 0 19).toInt ≤ (gi w0 0 22).toInt + (gi u 0 19).toInt) ∧ ((gi u 0 22).toInt ≤ (gi u 0 19).toInt + (gi w0 0 18).toInt) ∧ ((gi u 0 22).toInt ≤ 390) ∧ ((gi u 3 2).toInt ≤ 390)))
set_option maxHeartbeats 4000000 in
set_option maxRecDepth 100000 in
theorem k_X12_settles_9 (l : Launch) (adK adV : Nat → Nat) (dC : Nat → ClassId) (dI : Nat → Nat → Nat) (cy : Nat → ClassId) (ad : Nat → Nat) (B : Int) (hB0 : 100000 ≤ B) (hB1 : B ≤ 1073741824) (qr : Nat) (s1 : Int)   (w0 : va_W) (sz : Nat) (hT : TW ksM ad cy B qr 12 w0) (cf0_ : gi w0 0 17 = 2) (f1_ : Int32) (cf1_ : gi w0 0 18 = f1_) (rf1_ : 0 ≤ f1_.toInt) (tf1_ : f1_.toInt ≤ 60) (f2_ : Int32) (cf2_ : gi w0 0 19 = f2_) (rf2_ : (-100) ≤ f2_.toInt) (tf2_ : f2_.toInt ≤ 10) (f3_ : Int32) (cf3_ : gi w0 0 22 = f3_) (rf3_ : 0 ≤ f3_.toInt) (tf3_ : f3_.toInt ≤ 400) (f4_ : Int32) (cf4_ : gi w0 3 2 = f4_) (rf4_ : 0 ≤ f4_.toInt) (tf4_ : f4_.toInt ≤ 400) (pr0_ : f4_.toInt + f3_.toInt ≤ 390) (pr1_ : f3_.toInt ≤ f2_.toInt + f1_.toInt) (pr2_ : f4_.toInt ≤ 390) (pr3_ : f3_.toInt ≤ 390) : Met l yX12_settles wsX12_settles ({ frames := 2, cells := 0, slots := 0, locals := 34 }) (va_Pc [.ref (ad 0), .int 2] (wpreS adK adV dC dI cy sz w0)) (va_Qv (P_X12_settles_9 ad cy B qr s1  w0) (fun u : va_W => wpost dC dI cy (va_A w0 sz) u) (va_A w0 sz)) 0 0 (va_A w0 sz) := by
  refine Met.ofW (cc := cX12_settles) (maxL := 2) (ret := none) (by decide) rfl ?_
  intro p e s m args below meth c s₁ Bk hml hv
  obtain ⟨rfl, ⟨hsz, hP, hK, hD0⟩, hE, hSR⟩ := hv
  have hx := Bk.exec
  have hb := Bk.bytes
  have hr := Bk.returns
  have hlocks := Bk.notSynchronized
  have hC : CallFix p m c cX12_settles 2 s _ wsX12_settles RX12 := ⟨hx, hb, hml, findClass_of_methodNamed Bk.named, atoms_spec (ws := wsX12_settles) Bk.pre⟩
  subst hsz
  have hD := hD0.self (sz := s.heap.size)
  generalize hAe : va_A w0 s.heap.size = A at hD hE ⊢
  have hA : ∀ q : Nat, s.heap.size ≤ q → A q := fun q h => by rw [← hAe]; exact Or.inr h
  have hw : Wd dC dI A s.heap s.heap [] w0 := ⟨hP, hD, va_S.rf⟩
  have hF : FE ksM [(12, 19, 19), (12, 22, 22), (61, 0, 2400), (62, 0, 7)] w0 w0 := FE.rf
  have hl := lv_entry ([.ref (ad 0), .int 2]) (n := 2) (Nat.le_of_ble_eq_true rfl)
  rw [lg_entry_eq]
  generalize (lg_sl ([.ref (ad 0), .int 2]) ++ List.replicate (2 - (lg_sl ([.ref (ad 0), .int 2])).length) Slot.unset).toArray = ls at hl ⊢
  have hl : lv_has ls 2 [(0, .ref (ad 0)), (1, .int 2)] := hl
  generalize hloc : ([] : List Loc) = locs at hw ⊢
  have hinX12 : ∀ w ∈ u_ws RX12 TX12 42, w ∈ wsX12_settles := fun _ h => List.mem_cons_of_mem _ (List.mem_append_right _ (h))
  have J76 : ∀ (f76_0_19 : Int32) (f76_0_22 : Int32) (f76_3_2 : Int32) (H : Heap) (locs : List Loc) (ls : Array Slot) (w1 : va_W), 0 ≤ f1_.toInt → f1_.toInt ≤ 60 → (-60) ≤ f76_0_19.toInt → f76_0_19.toInt ≤ 10 → 0 ≤ f76_0_22.toInt → f76_0_22.toInt ≤ 390 → 0 ≤ f76_3_2.toInt → f76_3_2.toInt ≤ 390 → (f76_3_2.toInt + f76_0_22.toInt = f4_.toInt + f3_.toInt) → (f76_0_22.toInt ≤ f3_.toInt) → (f76_0_22.toInt + f2_.toInt ≤ f3_.toInt + f76_0_19.toInt) → (f76_0_22.toInt ≤ f76_0_19.toInt + f1_.toInt) → (f76_3_2.toInt ≤ 390) → (f76_0_22.toInt ≤ 390) → (-60 ≤ f76_0_19.toInt) → Wd dC dI A s.heap H locs w1 → TW ksM ad cy B qr 12 w1 → FE ksM [(12, 19, 19), (12, 22, 22), (61, 0, 2400), (62, 0, 7)] w0 w1 → gi w1 0 17 = 2 → gi w1 0 18 = f1_ → gi w1 0 19 = f76_0_19 → gi w1 0 22 = f76_0_22 → gi w1 3 2 = f76_3_2 → lv_has ls 2 [(0, .ref (ad 0)), (1, .int 2)] → W p l e ({ frames := 2, cells := 0, slots := 0, locals := 34 }) s m (List.toArray [.ref (ad 0), .int 2]) below meth c H locs 0 0 (MQ below (va_Qv (P_X12_settles_9 ad cy B qr s1  w0) (fun u : va_W => wpost dC dI cy A u) A) (List.toArray [.ref (ad 0), .int 2]) s 0 0 A) (F0 m 76 ls []) := by
    intro f76_0_19 f76_0_22 f76_3_2 H locs ls w1 r3 t4 r6 t7 r9 t10 r12 t13 hcr76_0 hcr76_1 hcr76_2 hcr76_3 hcr76_4 hcr76_5 hcr76_6 hw hT hF c2 c5 c8 c11 c14 hl
    exact tk_vret hC hr hlocks hK ⟨hT, hF, ⟨⟨2, c2, (by decide), (by decide)⟩, ⟨f76_0_19, c8, (show (-60) ≤ f76_0_19.toInt by omega), (show f76_0_19.toInt ≤ 10 by omega)⟩, ⟨f76_0_22, c11, (show 0 ≤ f76_0_22.toInt by omega), (show f76_0_22.toInt ≤ 390 by omega)⟩, (by simp only [cf4_, c14, cf3_, c11]; omega), (by simp only [cf3_, c11]; omega), (by simp only [cf2_, c8, cf3_, c11]; omega), (by simp only [c8, cf1_, c11]; omega), (by simp only [c11]; omega), (by simp only [c14]; omega)⟩⟩ hw dX12_settles_76
  have L0 : ∀ (n0 : Nat) (f0_0_19 : Int32) (f0_0_22 : Int32) (f0_3_2 : Int32) (H : Heap) (locs : List Loc) (ls : Array Slot) (w15 : va_W), 0 ≤ f1_.toInt → f1_.toInt ≤ 60 → (-60) ≤ f0_0_19.toInt → f0_0_19.toInt ≤ 10 → 0 ≤ f0_0_22.toInt → f0_0_22.toInt ≤ 390 → 0 ≤ f0_3_2.toInt → f0_3_2.toInt ≤ 390 → (f0_3_2.toInt + f0_0_22.toInt = f4_.toInt + f3_.toInt) → (f0_0_22.toInt ≤ f3_.toInt) → (f0_0_22.toInt + f2_.toInt ≤ f3_.toInt + f0_0_19.toInt) → (f0_0_22.toInt ≤ f0_0_19.toInt + f1_.toInt) → (f0_3_2.toInt ≤ 390) → (f0_0_22.toInt ≤ 390) → (-60 ≤ f0_0_19.toInt) → (f0_0_22.toInt - 0).toNat < n0 → Wd dC dI A s.heap H locs w15 → TW ksM ad cy B qr 12 w15 → FE ksM [(12, 19, 19), (12, 22, 22), (61, 0, 2400), (62, 0, 7)] w0 w15 → gi w15 0 17 = 2 → gi w15 0 18 = f1_ → gi w15 0 19 = f0_0_19 → gi w15 0 22 = f0_0_22 → gi w15 3 2 = f0_3_2 → lv_has ls 2 [(0, .ref (ad 0)), (1, .int 2)] → W p l e ({ frames := 2, cells := 0, slots := 0, locals := 34 }) s m (List.toArray [.ref (ad 0), .int 2]) below meth c H locs 0 0 (MQ below (va_Qv (P_X12_settles_9 ad cy B qr s1  w0) (fun u : va_W => wpost dC dI cy A u) A) (List.toArray [.ref (ad 0), .int 2]) s 0 0 A) (F0 m 0 ls []) := by
    intro n0
    induction n0 with
    | zero => intro f0_0_19 f0_0_22 f0_3_2 H locs ls w15 r17 t18 r20 t21 r23 t24 r26 t27 hcr0_0 hcr0_1 hcr0_2 hcr0_3 hcr0_4 hcr0_5 hcr0_6 hm0 hw hT hF c16 c19 c22 c25 c28 hl; omega
    | succ n0 ih0 =>
      intro f0_0_19 f0_0_22 f0_3_2 H locs ls w15 r17 t18 r20 t21 r23 t24 r26 t27 hcr0_0 hcr0_1 hcr0_2 hcr0_3 hcr0_4 hcr0_5 hcr0_6 hm0 hw hT hF c16 c19 c22 c25 c28 hl
      refine lv_aload_n hx hb dX12_settles_0 rfl (lv_at hl 0 rfl) ?_
      refine tk_geti hC hK hw hT hinX12 kM_at0 (by decide) rfl 22 (by decide) (List.mem_of_getElem? (i := 1) rfl) rfl rfl dX12_settles_1 (fun x29 c30 rx29 tx29 => ?_)
      refine wk_top f0_0_22 (c30.symm.trans c25) ?_
      refine lv_if_le (tgt := 76) hx hb dX12_settles_4 (by decide) (fun c31 => ?_) (fun c31 => ?_)
      · have c31 : f0_0_22.toInt ≤ (0 : Int) := wk_le.mp c31
        exact J76 f0_0_19 f0_0_22 f0_3_2 H locs ls w15 (show 0 ≤ f1_.toInt by omega) (show f1_.toInt ≤ 60 by omega) (show (-60) ≤ f0_0_19.toInt by omega) (show f0_0_19.toInt ≤ 10 by omega) (show 0 ≤ f0_0_22.toInt by omega) (show f0_0_22.toInt ≤ 390 by omega) (show 0 ≤ f0_3_2.toInt by omega) (show f0_3_2.toInt ≤ 390 by omega) (show f0_3_2.toInt + f0_0_22.toInt = f4_.toInt + f3_.toInt by omega) (show f0_0_22.toInt ≤ f3_.toInt by omega) (show f0_0_22.toInt + f2_.toInt ≤ f3_.toInt + f0_0_19.toInt by omega) (show f0_0_22.toInt ≤ f0_0_19.toInt + f1_.toInt by omega) (show f0_3_2.toInt ≤ 390 by omega) (show f0_0_22.toInt ≤ 390 by omega) (show -60 ≤ f0_0_19.toInt by omega)  hw hT hF c16 c19 c22 c25 c28 (lv_sub hl [0, 1] rfl)
      · have c31 : (0 : Int) < f0_0_22.toInt := wk_leF c31
        refine lv_aload_n hx hb dX12_settles_7 rfl (lv_at hl 0 rfl) ?_
        refine tk_getA hC hK hw hT hinX12 kM_at0 (by decide) rfl 21 (by decide) (List.mem_of_getElem? (i := 2) rfl) rfl rfl dX12_settles_8 ?_
        refine lv_aload_n hx hb dX12_settles_11 rfl (lv_at hl 0 rfl) ?_
        refine tk_geti hC hK hw hT hinX12 kM_at0 (by decide) rfl 22 (by decide) (List.mem_of_getElem? (i := 1) rfl) rfl rfl dX12_settles_12 (fun x32 c33 rx32 tx32 => ?_)
        refine wk_top f0_0_22 (c33.symm.trans c25) ?_
        refine lv_iconst (v := 1) hx hb dX12_settles_15 (by decide) ?_
        refine lv_isub hx hb dX12_settles_16 ?_
        refine lv_topi (fun x34 ex34 => ?_)
        have ex34 : x34.toInt = f0_0_22.toInt - (1 : Int) := by rw [ex34]; exact wk_sub (show (-2147483648) ≤ f0_0_22.toInt - (1 : Int) by omega) (show f0_0_22.toInt - (1 : Int) ≤ 2147483647 by omega)
        refine tk_iald hC hK hw hT kM_at9 rfl rfl (show 0 ≤ x34.toInt by omega) (show x34.toInt < 400 by omega) dX12_settles_17 (fun x35 c36 rx35 tx35 => ?_)
        refine tk_Si hC hK hw hT hA hE hSR (k_X12_strength_1 l adK adV dC dI cy ad B (by omega) (by omega) qr s1   x35 w15 H.size hT ) (va_cwS 1 hC.2.2.2.2 gX12_settles_X12_strength rfl rfl rfl (by decide +kernel) ⟨Nat.le_of_ble_eq_true rfl, Nat.le_of_ble_eq_true rfl⟩) rfl hl.1 rfl (Nat.le_of_ble_eq_true rfl) dX12_settles_18 (fun r37 w39 H locs hp38 hw => ?_)
        obtain ⟨rfl, hg43⟩ := hp38
        obtain ⟨g41, g42⟩ := hg43
        refine lv_iload_n hx hb dX12_settles_21 rfl (lv_at hl 1 rfl) ?_
        refine lv_icmp_lt (tgt := 76) hx hb dX12_settles_22 (by decide) (fun c44 => ?_) (fun c44 => ?_)
        · have c44 : r37.toInt < (2 : Int) := wk_lt.mp c44
          exact J76 f0_0_19 f0_0_22 f0_3_2 H locs ls w15 (show 0 ≤ f1_.toInt by omega) (show f1_.toInt ≤ 60 by omega) (show (-60) ≤ f0_0_19.toInt by omega) (show f0_0_19.toInt ≤ 10 by omega) (show 0 ≤ f0_0_22.toInt by omega) (show f0_0_22.toInt ≤ 390 by omega) (show 0 ≤ f0_3_2.toInt by omega) (show f0_3_2.toInt ≤ 390 by omega) (show f0_3_2.toInt + f0_0_22.toInt = f4_.toInt + f3_.toInt by omega) (show f0_0_22.toInt ≤ f3_.toInt by omega) (show f0_0_22.toInt + f2_.toInt ≤ f3_.toInt + f0_0_19.toInt by omega) (show f0_0_22.toInt ≤ f0_0_19.toInt + f1_.toInt by omega) (show f0_3_2.toInt ≤ 390 by omega) (show f0_0_22.toInt ≤ 390 by omega) (show -60 ≤ f0_0_19.toInt by omega)  hw hT hF c16 c19 c22 c25 c28 (lv_sub hl [0, 1] rfl)
        · have c44 : (2 : Int) ≤ r37.toInt := wk_ltF c44
          refine lv_aload_n hx hb dX12_settles_25 rfl (lv_at hl 0 rfl) ?_
          refine lv_dup hx hb dX12_settles_26 rfl ?_
          refine tk_geti hC hK hw hT hinX12 kM_at0 (by decide) rfl 22 (by decide) (List.mem_of_getElem? (i := 1) rfl) rfl rfl dX12_settles_27 (fun x45 c46 rx45 tx45 => ?_)
          refine wk_top f0_0_22 (c46.symm.trans c25) ?_
          refine lv_iconst (v := 1) hx hb dX12_settles_30 (by decide) ?_
          refine lv_isub hx hb dX12_settles_31 ?_
          refine lv_topi (fun x47 ex47 => ?_)
          have ex47 : x47.toInt = f0_0_22.toInt - (1 : Int) := by rw [ex47]; exact wk_sub (show (-2147483648) ≤ f0_0_22.toInt - (1 : Int) by omega) (show f0_0_22.toInt - (1 : Int) ≤ 2147483647 by omega)
          refine tk_puti hC hK hw hT hinX12 tyX12_ok nmX12 kM_at0 (by decide) rfl rfl 22 (by decide) (List.mem_of_getElem? (i := 1) rfl) rfl rfl rfl rfl (show 0 ≤ x47.toInt by omega) (show x47.toInt ≤ 400 by omega) dX12_settles_32 (fun H locs w48 hw hT k50 c49 => ?_)
          have hF := hF.put kM_at0 (k := 22) (by decide) k50
          have c51 := k50.gi (Or.inr (by decide)) c16
          have c52 := k50.gi (Or.inr (by decide)) c19
          have c53 := k50.gi (Or.inr (by decide)) c22
          have c54 := k50.gi (Or.inr (by decide)) c28
          refine lv_aload_n hx hb dX12_settles_35 rfl (lv_at hl 0 rfl) ?_
          refine lv_aload_n hx hb dX12_settles_36 rfl (lv_at hl 0 rfl) ?_
          refine tk_getA hC hK hw hT hinX12 kM_at0 (by decide) rfl 21 (by decide) (List.mem_of_getElem? (i := 2) rfl) rfl rfl dX12_settles_37 ?_
          refine lv_aload_n hx hb dX12_settles_40 rfl (lv_at hl 0 rfl) ?_
          refine tk_geti hC hK hw hT hinX12 kM_at0 (by decide) rfl 22 (by decide) (List.mem_of_getElem? (i := 1) rfl) rfl rfl dX12_settles_41 (fun x55 c56 rx55 tx55 => ?_)
          refine wk_top x47 (c56.symm.trans c49) ?_
          refine tk_iald hC hK hw hT kM_at9 rfl rfl (show 0 ≤ x47.toInt by omega) (show x47.toInt < 400 by omega) dX12_settles_44 (fun x57 c58 rx57 tx57 => ?_)
          refine lv_iconst (v := 0) hx hb dX12_settles_45 (by decide) ?_
          refine tk_Vv hC hK hw hT hA hE hSR kM_at0 (by decide) rfl (k_X12_puts_5 l adK adV dC dI cy ad B (by omega) (by omega) qr s1   x57 0 w48 H.size hT c51 f0_3_2 c54 (show 0 ≤ f0_3_2.toInt by omega) (show f0_3_2.toInt ≤ 400 by omega) (show f0_3_2.toInt ≤ 399 by omega)) (cwV 2 hC.2.2.2.2 gX12_settles_X12_puts rfl rfl rfl (by decide +kernel) ⟨Nat.le_of_ble_eq_true rfl, Nat.le_of_ble_eq_true rfl⟩) rfl hl.1 rfl (Nat.le_of_ble_eq_true rfl) dX12_settles_46 (fun w61 H locs hp60 hw => ?_)
          obtain ⟨hT, k62, hg66⟩ := hp60
          have hF := hF.tr k62 (by decide)
          have c67 := k62.gi kM_at0 (by decide) c51
          have c68 := k62.gi kM_at0 (by decide) c52
          have c69 := k62.gi kM_at0 (by decide) c53
          have c70 := k62.gi kM_at0 (by decide) c49
          obtain ⟨⟨x63, c64, rx63, tx63⟩, g65⟩ := hg66
          have ex63 : x63.toInt = (2 : Int) := by rw [show x63 = 2 from c64.symm.trans c67]; decide
          obtain ⟨x71, c72, rx71, tx71⟩ := hT.rda (lo := 0) (hi := 400) (i := 2) kM_at3 rfl rfl (by decide)
          have g65 : x71.toInt = f0_3_2.toInt + 1 := by have q := g65; simp only [c54, c72] at q; omega
          refine lv_aload_n hx hb dX12_settles_49 rfl (lv_at hl 0 rfl) ?_
          refine tk_getA hC hK hw hT hinX12 kM_at0 (by decide) rfl 21 (by decide) (List.mem_of_getElem? (i := 2) rfl) rfl rfl dX12_settles_50 ?_
          refine lv_aload_n hx hb dX12_settles_53 rfl (lv_at hl 0 rfl) ?_
          refine tk_geti hC hK hw hT hinX12 kM_at0 (by decide) rfl 22 (by decide) (List.mem_of_getElem? (i := 1) rfl) rfl rfl dX12_settles_54 (fun x73 c74 rx73 tx73 => ?_)
          refine wk_top x47 (c74.symm.trans c70) ?_
          refine tk_iald hC hK hw hT kM_at9 rfl rfl (show 0 ≤ x47.toInt by omega) (show x47.toInt < 400 by omega) dX12_settles_57 (fun x75 c76 rx75 tx75 => ?_)
          refine lv_bipush (v := 11) hx hb dX12_settles_58 (by decide) ?_
          refine lv_icmp_ne (tgt := 0) hx hb dX12_settles_60 (by decide) (fun c77 => ?_) (fun c77 => ?_)
          · have c77 : ¬ x75.toInt = (11 : Int) := wk_eqF c77
            exact ih0 f0_0_19 x47 x71 H locs ls w61 (show 0 ≤ f1_.toInt by omega) (show f1_.toInt ≤ 60 by omega) (show (-60) ≤ f0_0_19.toInt by omega) (show f0_0_19.toInt ≤ 10 by omega) (show 0 ≤ x47.toInt by omega) (show x47.toInt ≤ 390 by omega) (show 0 ≤ x71.toInt by omega) (show x71.toInt ≤ 390 by omega) (show x71.toInt + x47.toInt = f4_.toInt + f3_.toInt by omega) (show x47.toInt ≤ f3_.toInt by omega) (show x47.toInt + f2_.toInt ≤ f3_.toInt + f0_0_19.toInt by omega) (show x47.toInt ≤ f0_0_19.toInt + f1_.toInt by omega) (show x71.toInt ≤ 390 by omega) (show x47.toInt ≤ 390 by omega) (show -60 ≤ f0_0_19.toInt by omega) (show (x47.toInt - 0).toNat < n0 by omega) hw hT hF c67 c68 c69 c70 c72 (lv_sub hl [0, 1] rfl)
          · have c77 : x75.toInt = (11 : Int) := wk_eq.mp c77
            refine lv_aload_n hx hb dX12_settles_63 rfl (lv_at hl 0 rfl) ?_
            refine lv_dup hx hb dX12_settles_64 rfl ?_
            refine tk_geti hC hK hw hT hinX12 kM_at0 (by decide) rfl 19 (by decide) (List.mem_of_getElem? (i := 3) rfl) rfl rfl dX12_settles_65 (fun x78 c79 rx78 tx78 => ?_)
            refine wk_top f0_0_19 (c79.symm.trans c69) ?_
            refine lv_iconst (v := 1) hx hb dX12_settles_68 (by decide) ?_
            refine lv_isub hx hb dX12_settles_69 ?_
            refine lv_topi (fun x80 ex80 => ?_)
            have ex80 : x80.toInt = f0_0_19.toInt - (1 : Int) := by rw [ex80]; exact wk_sub (show (-2147483648) ≤ f0_0_19.toInt - (1 : Int) by omega) (show f0_0_19.toInt - (1 : Int) ≤ 2147483647 by omega)
            refine tk_puti hC hK hw hT hinX12 tyX12_ok nmX12 kM_at0 (by decide) rfl rfl 19 (by decide) (List.mem_of_getElem? (i := 3) rfl) rfl rfl rfl rfl (show (-100) ≤ x80.toInt by omega) (show x80.toInt ≤ 10 by omega) dX12_settles_70 (fun H locs w81 hw hT k83 c82 => ?_)
            have hF := hF.put kM_at0 (k := 19) (by decide) k83
            have c84 := k83.gi (Or.inr (by decide)) c67
            have c85 := k83.gi (Or.inr (by decide)) c68
            have c86 := k83.gi (Or.inr (by decide)) c70
            have c87 := k83.gi (Or.inr (by decide)) c72
            refine lv_goto (tgt := 0) hx hb dX12_settles_73 (by decide) ?_
            exact ih0 x80 x47 x71 H locs ls w81 (show 0 ≤ f1_.toInt by omega) (show f1_.toInt ≤ 60 by omega) (show (-60) ≤ x80.toInt by omega) (show x80.toInt ≤ 10 by omega) (show 0 ≤ x47.toInt by omega) (show x47.toInt ≤ 390 by omega) (show 0 ≤ x71.toInt by omega) (show x71.toInt ≤ 390 by omega) (show x71.toInt + x47.toInt = f4_.toInt + f3_.toInt by omega) (show x47.toInt ≤ f3_.toInt by omega) (show x47.toInt + f2_.toInt ≤ f3_.toInt + x80.toInt by omega) (show x47.toInt ≤ x80.toInt + f1_.toInt by omega) (show x71.toInt ≤ 390 by omega) (show x47.toInt ≤ 390 by omega) (show -60 ≤ x80.toInt by omega) (show (x47.toInt - 0).toNat < n0 by omega) hw hT hF c84 c85 c82 c86 c87 (lv_sub hl [0, 1] rfl)
  exact L0 ((f3_.toInt - 0).toNat + 1) f2_ f3_ f4_ s.heap locs ls w0 (show 0 ≤ f1_.toInt by omega) (show f1_.toInt ≤ 60 by omega) (show (-60) ≤ f2_.toInt by omega) (show f2_.toInt ≤ 10 by omega) (show 0 ≤ f3_.toInt by omega) (show f3_.toInt ≤ 390 by omega) (show 0 ≤ f4_.toInt by omega) (show f4_.toInt ≤ 390 by omega) (show f4_.toInt + f3_.toInt = f4_.toInt + f3_.toInt by omega) (show f3_.toInt ≤ f3_.toInt by omega) (show f3_.toInt + f2_.toInt ≤ f3_.toInt + f2_.toInt by omega) (show f3_.toInt ≤ f2_.toInt + f1_.toInt by omega) (show f4_.toInt ≤ 390 by omega) (show f3_.toInt ≤ 390 by omega) (show -60 ≤ f2_.toInt by omega) (Nat.lt_succ_self _) hw hT hF cf0_ cf1_ cf2_ cf3_ cf4_ (lv_sub hl [0, 1] rfl)
abbrev P_X12_puts_7 (ad : Nat → Nat) (cy : Nat → ClassId) (B : Int) (qr : Nat) (s1 : Int) (a1 : Int32) (a2 : Int32) (w0 : va_W) : va_W → Prop := fun u => TW ksM ad cy B qr 12 u ∧ FE ksM [(61, 0, 2400), (62, 0, 7)] w0 u ∧ (((∃ y : Int32, gi u 0 17 = y ∧ 3 ≤ y.toInt ∧ y.toInt ≤ 3) ∧ ((gi u 3 3).toInt = (gi w0 3 3).toInt + 1)))
set_option maxHeartbeats 4000000 in
set_option maxRecDepth 100000 in
theorem k_X12_puts_7 (l : Launch) (adK adV : Nat → Nat) (dC : Nat → ClassId) (dI : Nat → Nat → Nat) (cy : Nat → ClassId) (ad : Nat → Nat) (B : Int) (hB0 : 100000 ≤ B) (hB1 : B ≤ 1073741824) (qr : Nat) (s1 : Int)  (a1 : Int32) (a2 : Int32) (w0 : va_W) (sz : Nat) (hT : TW ksM ad cy B qr 12 w0) (cf0_ : gi w0 0 17 = 3) (f1_ : Int32) (cf1_ : gi w0 3 3 = f1_) (rf1_ : 0 ≤ f1_.toInt) (tf1_ : f1_.toInt ≤ 400) (pr0_ : f1_.toInt ≤ 399) : Met l yX12_puts wsX12_puts ({ frames := 1, cells := 0, slots := 0, locals := 12 }) (va_Pc [.ref (ad 0), .int a1, .int a2] (wpreS adK adV dC dI cy sz w0)) (va_Qv (P_X12_puts_7 ad cy B qr s1 a1 a2 w0) (fun u : va_W => wpost dC dI cy (va_A w0 sz) u) (va_A w0 sz)) 0 0 (va_A w0 sz) := by
  refine Met.ofW (cc := cX12_puts) (maxL := 3) (ret := none) (by decide) rfl ?_
  intro p e s m args below meth c s₁ Bk hml hv
  obtain ⟨rfl, ⟨hsz, hP, hK, hD0⟩, hE, hSR⟩ := hv
  have hx := Bk.exec
  have hb := Bk.bytes
  have hr := Bk.returns
  have hlocks := Bk.notSynchronized
  have hC : CallFix p m c cX12_puts 3 s _ wsX12_puts RX12 := ⟨hx, hb, hml, findClass_of_methodNamed Bk.named, atoms_spec (ws := wsX12_puts) Bk.pre⟩
  subst hsz
  have hD := hD0.self (sz := s.heap.size)
  generalize hAe : va_A w0 s.heap.size = A at hD hE ⊢
  have hA : ∀ q : Nat, s.heap.size ≤ q → A q := fun q h => by rw [← hAe]; exact Or.inr h
  have hw : Wd dC dI A s.heap s.heap [] w0 := ⟨hP, hD, va_S.rf⟩
  have hF : FE ksM [(61, 0, 2400), (62, 0, 7)] w0 w0 := FE.rf
  have hl := lv_entry ([.ref (ad 0), .int a1, .int a2]) (n := 3) (Nat.le_of_ble_eq_true rfl)
  rw [lg_entry_eq]
  generalize (lg_sl ([.ref (ad 0), .int a1, .int a2]) ++ List.replicate (3 - (lg_sl ([.ref (ad 0), .int a1, .int a2])).length) Slot.unset).toArray = ls at hl ⊢
  have hl : lv_has ls 3 [(0, .ref (ad 0)), (1, .int a1), (2, .int a2)] := hl
  generalize hloc : ([] : List Loc) = locs at hw ⊢
  have hinX12 : ∀ w ∈ u_ws RX12 TX12 42, w ∈ wsX12_puts := fun _ h => List.mem_cons_of_mem _ (List.mem_append_right _ (h))
  refine lv_aload_n hx hb dX12_puts_0 rfl (lv_at hl 0 rfl) ?_
  refine tk_getA hC hK hw hT hinX12 kM_at0 (by decide) rfl 3 (by decide) (List.mem_of_getElem? (i := 1) rfl) rfl rfl dX12_puts_1 ?_
  refine lv_sipush (v := 400) hx hb dX12_puts_4 (by decide) ?_
  refine lv_aload_n hx hb dX12_puts_7 rfl (lv_at hl 0 rfl) ?_
  refine tk_geti hC hK hw hT hinX12 kM_at0 (by decide) rfl 17 (by decide) (List.mem_of_getElem? (i := 2) rfl) rfl rfl dX12_puts_8 (fun x1 c2 rx1 tx1 => ?_)
  refine wk_top 3 (c2.symm.trans cf0_) ?_
  refine lv_imul hx hb dX12_puts_11 ?_
  refine wk_top 1200 (by decide) ?_
  refine lv_aload_n hx hb dX12_puts_12 rfl (lv_at hl 0 rfl) ?_
  refine tk_getA hC hK hw hT hinX12 kM_at0 (by decide) rfl 4 (by decide) (List.mem_of_getElem? (i := 3) rfl) rfl rfl dX12_puts_13 ?_
  refine lv_aload_n hx hb dX12_puts_16 rfl (lv_at hl 0 rfl) ?_
  refine tk_geti hC hK hw hT hinX12 kM_at0 (by decide) rfl 17 (by decide) (List.mem_of_getElem? (i := 2) rfl) rfl rfl dX12_puts_17 (fun x3 c4 rx3 tx3 => ?_)
  refine wk_top 3 (c4.symm.trans cf0_) ?_
  refine tk_iald hC hK hw hT kM_at3 rfl rfl (by decide) (by decide) dX12_puts_20 (fun x5 c6 rx5 tx5 => ?_)
  refine wk_top f1_ (c6.symm.trans cf1_) ?_
  refine lv_iadd hx hb dX12_puts_21 ?_
  refine lv_topi (fun x7 ex7 => ?_)
  have ex7 : x7.toInt = (1200 : Int) + f1_.toInt := by rw [ex7]; exact wk_add (show (-2147483648) ≤ (1200 : Int) + f1_.toInt by omega) (show (1200 : Int) + f1_.toInt ≤ 2147483647 by omega)
  refine lv_iload_n hx hb dX12_puts_22 rfl (lv_at hl 1 rfl) ?_
  refine lv_bipush (v := 16) hx hb dX12_puts_23 (by decide) ?_
  refine lv_iload_n hx hb dX12_puts_25 rfl (lv_at hl 2 rfl) ?_
  refine lv_imul hx hb dX12_puts_26 ?_
  have nx8 := wk_i32 a2
  refine lv_topi (fun x9 ex9 => ?_)
  refine lv_iadd hx hb dX12_puts_27 ?_
  have nx10 := wk_i32 a1
  have nx11 := wk_i32 x9
  refine lv_topi (fun x12 ex12 => ?_)
  refine tk_iast hC hK hw hT kM_at2 (by decide) rfl rfl (show 0 ≤ x7.toInt by omega) (show x7.toInt < 2400 by omega) (wk_i32 x12).1 (wk_i32 x12).2 dX12_puts_28 (fun H locs w13 hw hT k15 c14 => ?_)
  have hF := hF.put kM_at2 (inE_of (a := 0) (b := 2400) (by decide) (show 0 ≤ x7.toInt.toNat by omega) (show x7.toInt.toNat ≤ 2400 by omega)) k15
  have c16 := k15.gi (Or.inl (tk_ne kM_at0 kM_at2 (by decide))) cf0_
  have c17 := k15.gi (Or.inl (tk_ne kM_at3 kM_at2 (by decide))) cf1_
  refine lv_aload_n hx hb dX12_puts_29 rfl (lv_at hl 0 rfl) ?_
  refine tk_getA hC hK hw hT hinX12 kM_at0 (by decide) rfl 4 (by decide) (List.mem_of_getElem? (i := 3) rfl) rfl rfl dX12_puts_30 ?_
  refine lv_aload_n hx hb dX12_puts_33 rfl (lv_at hl 0 rfl) ?_
  refine tk_geti hC hK hw hT hinX12 kM_at0 (by decide) rfl 17 (by decide) (List.mem_of_getElem? (i := 2) rfl) rfl rfl dX12_puts_34 (fun x18 c19 rx18 tx18 => ?_)
  refine wk_top 3 (c19.symm.trans c16) ?_
  refine lv_dup2_11 hx hb dX12_puts_37 rfl rfl ?_
  refine tk_iald hC hK hw hT kM_at3 rfl rfl (by decide) (by decide) dX12_puts_38 (fun x20 c21 rx20 tx20 => ?_)
  refine wk_top f1_ (c21.symm.trans c17) ?_
  refine lv_iconst (v := 1) hx hb dX12_puts_39 (by decide) ?_
  refine lv_iadd hx hb dX12_puts_40 ?_
  refine lv_topi (fun x22 ex22 => ?_)
  have ex22 : x22.toInt = f1_.toInt + (1 : Int) := by rw [ex22]; exact wk_add (show (-2147483648) ≤ f1_.toInt + (1 : Int) by omega) (show f1_.toInt + (1 : Int) ≤ 2147483647 by omega)
  refine tk_iast hC hK hw hT kM_at3 (by decide) rfl rfl (by decide) (by decide) (show 0 ≤ x22.toInt by omega) (show x22.toInt ≤ 400 by omega) dX12_puts_41 (fun H locs w23 hw hT k25 c24 => ?_)
  have hF := hF.put kM_at3 (inE_of (a := 0) (b := 7) (by decide) (by decide) (by decide)) k25
  have c26 := k25.gi (Or.inl (tk_ne kM_at0 kM_at3 (by decide))) c16
  have c24 : gi w23 3 3 = x22 := c24
  exact tk_vret hC hr hlocks hK ⟨hT, hF, ⟨⟨3, c26, (by decide), (by decide)⟩, (by simp only [cf1_, c24]; omega)⟩⟩ hw dX12_puts_42
abbrev P_X12_settles_10 (ad : Nat → Nat) (cy : Nat → ClassId) (B : Int) (qr : Nat) (s1 : Int)  (w0 : va_W) : va_W → Prop := fun u => TW ksM ad cy B qr 12 u ∧ FE ksM [(12, 19, 19), (12, 22, 22), (61, 0, 2400), (62, 0, 7)] w0 u ∧ (((∃ y : Int32, gi u 0 17 = y ∧ 3 ≤ y.toInt ∧ y.toInt ≤ 3) ∧ (∃ y : Int32, gi u 0 19 = y ∧ (-60) ≤ y.toInt ∧ y.toInt ≤ 10) ∧ (∃ y : Int32, gi u 0 22 = y ∧ 0 ≤ y.toInt ∧ y.toInt ≤ 390) ∧ ((gi u 3 3).toInt + (gi u 0 22).toInt = (gi w0 3 3).toInt + (gi w0 0 22).toInt) ∧ ((gi u 0 22).toInt ≤ (gi w0 0 22).toInt) ∧ ((gi u 0 22).toInt + (gi w0 0 19).toInt ≤ (gi w0 0 22).toInt + (gi u 0 19).toInt) ∧ ((gi u 0 22).toInt ≤ (gi u 0 19).toInt + (gi w0 0 18).toInt) ∧ ((gi u 0 22).toInt ≤ 390) ∧ ((gi u 3 3).toInt ≤ 390)))
set_option maxHeartbeats 4000000 in
set_option maxRecDepth 100000 in
theorem k_X12_settles_10 (l : Launch) (adK adV : Nat → Nat) (dC : Nat → ClassId) (dI : Nat → Nat → Nat) (cy : Nat → ClassId) (ad : Nat → Nat) (B : Int) (hB0 : 100000 ≤ B) (hB1 : B ≤ 1073741824) (qr : Nat) (s1 : Int)   (w0 : va_W) (sz : Nat) (hT : TW ksM ad cy B qr 12 w0) (cf0_ : gi w0 0 17 = 3) (f1_ : Int32) (cf1_ : gi w0 0 18 = f1_) (rf1_ : 0 ≤ f1_.toInt) (tf1_ : f1_.toInt ≤ 60) (f2_ : Int32) (cf2_ : gi w0 0 19 = f2_) (rf2_ : (-100) ≤ f2_.toInt) (tf2_ : f2_.toInt ≤ 10) (f3_ : Int32) (cf3_ : gi w0 0 22 = f3_) (rf3_ : 0 ≤ f3_.toInt) (tf3_ : f3_.toInt ≤ 400) (f4_ : Int32) (cf4_ : gi w0 3 3 = f4_) (rf4_ : 0 ≤ f4_.toInt) (tf4_ : f4_.toInt ≤ 400) (pr0_ : f4_.toInt + f3_.toInt ≤ 390) (pr1_ : f3_.toInt ≤ f2_.toInt + f1_.toInt) (pr2_ : f4_.toInt ≤ 390) (pr3_ : f3_.toInt ≤ 390) : Met l yX12_settles wsX12_settles ({ frames := 2, cells := 0, slots := 0, locals := 34 }) (va_Pc [.ref (ad 0), .int 1] (wpreS adK adV dC dI cy sz w0)) (va_Qv (P_X12_settles_10 ad cy B qr s1  w0) (fun u : va_W => wpost dC dI cy (va_A w0 sz) u) (va_A w0 sz)) 0 0 (va_A w0 sz) := by
  refine Met.ofW (cc := cX12_settles) (maxL := 2) (ret := none) (by decide) rfl ?_
  intro p e s m args below meth c s₁ Bk hml hv
  obtain ⟨rfl, ⟨hsz, hP, hK, hD0⟩, hE, hSR⟩ := hv
  have hx := Bk.exec
  have hb := Bk.bytes
  have hr := Bk.returns
  have hlocks := Bk.notSynchronized
  have hC : CallFix p m c cX12_settles 2 s _ wsX12_settles RX12 := ⟨hx, hb, hml, findClass_of_methodNamed Bk.named, atoms_spec (ws := wsX12_settles) Bk.pre⟩
  subst hsz
  have hD := hD0.self (sz := s.heap.size)
  generalize hAe : va_A w0 s.heap.size = A at hD hE ⊢
  have hA : ∀ q : Nat, s.heap.size ≤ q → A q := fun q h => by rw [← hAe]; exact Or.inr h
  have hw : Wd dC dI A s.heap s.heap [] w0 := ⟨hP, hD, va_S.rf⟩
  have hF : FE ksM [(12, 19, 19), (12, 22, 22), (61, 0, 2400), (62, 0, 7)] w0 w0 := FE.rf
  have hl := lv_entry ([.ref (ad 0), .int 1]) (n := 2) (Nat.le_of_ble_eq_true rfl)
  rw [lg_entry_eq]
  generalize (lg_sl ([.ref (ad 0), .int 1]) ++ List.replicate (2 - (lg_sl ([.ref (ad 0), .int 1])).length) Slot.unset).toArray = ls at hl ⊢
  have hl : lv_has ls 2 [(0, .ref (ad 0)), (1, .int 1)] := hl
  generalize hloc : ([] : List Loc) = locs at hw ⊢
  have hinX12 : ∀ w ∈ u_ws RX12 TX12 42, w ∈ wsX12_settles := fun _ h => List.mem_cons_of_mem _ (List.mem_append_right _ (h))
  have J76 : ∀ (f76_0_19 : Int32) (f76_0_22 : Int32) (f76_3_3 : Int32) (H : Heap) (locs : List Loc) (ls : Array Slot) (w1 : va_W), 0 ≤ f1_.toInt → f1_.toInt ≤ 60 → (-60) ≤ f76_0_19.toInt → f76_0_19.toInt ≤ 10 → 0 ≤ f76_0_22.toInt → f76_0_22.toInt ≤ 390 → 0 ≤ f76_3_3.toInt → f76_3_3.toInt ≤ 390 → (f76_3_3.toInt + f76_0_22.toInt = f4_.toInt + f3_.toInt) → (f76_0_22.toInt ≤ f3_.toInt) → (f76_0_22.toInt + f2_.toInt ≤ f3_.toInt + f76_0_19.toInt) → (f76_0_22.toInt ≤ f76_0_19.toInt + f1_.toInt) → (f76_3_3.toInt ≤ 390) → (f76_0_22.toInt ≤ 390) → (-60 ≤ f76_0_19.toInt) → Wd dC dI A s.heap H locs w1 → TW ksM ad cy B qr 12 w1 → FE ksM [(12, 19, 19), (12, 22, 22), (61, 0, 2400), (62, 0, 7)] w0 w1 → gi w1 0 17 = 3 → gi w1 0 18 = f1_ → gi w1 0 19 = f76_0_19 → gi w1 0 22 = f76_0_22 → gi w1 3 3 = f76_3_3 → lv_has ls 2 [(0, .ref (ad 0)), (1, .int 1)] → W p l e ({ frames := 2, cells := 0, slots := 0, locals := 34 }) s m (List.toArray [.ref (ad 0), .int 1]) below meth c H locs 0 0 (MQ below (va_Qv (P_X12_settles_10 ad cy B qr s1  w0) (fun u : va_W => wpost dC dI cy A u) A) (List.toArray [.ref (ad 0), .int 1]) s 0 0 A) (F0 m 76 ls []) := by
    intro f76_0_19 f76_0_22 f76_3_3 H locs ls w1 r3 t4 r6 t7 r9 t10 r12 t13 hcr76_0 hcr76_1 hcr76_2 hcr76_3 hcr76_4 hcr76_5 hcr76_6 hw hT hF c2 c5 c8 c11 c14 hl
    exact tk_vret hC hr hlocks hK ⟨hT, hF, ⟨⟨3, c2, (by decide), (by decide)⟩, ⟨f76_0_19, c8, (show (-60) ≤ f76_0_19.toInt by omega), (show f76_0_19.toInt ≤ 10 by omega)⟩, ⟨f76_0_22, c11, (show 0 ≤ f76_0_22.toInt by omega), (show f76_0_22.toInt ≤ 390 by omega)⟩, (by simp only [cf4_, c14, cf3_, c11]; omega), (by simp only [cf3_, c11]; omega), (by simp only [cf2_, c8, cf3_, c11]; omega), (by simp only [c8, cf1_, c11]; omega), (by simp only [c11]; omega), (by simp only [c14]; omega)⟩⟩ hw dX12_settles_76
  have L0 : ∀ (n0 : Nat) (f0_0_19 : Int32) (f0_0_22 : Int32) (f0_3_3 : Int32) (H : Heap) (locs : List Loc) (ls : Array Slot) (w15 : va_W), 0 ≤ f1_.toInt → f1_.toInt ≤ 60 → (-60) ≤ f0_0_19.toInt → f0_0_19.toInt ≤ 10 → 0 ≤ f0_0_22.toInt → f0_0_22.toInt ≤ 390 → 0 ≤ f0_3_3.toInt → f0_3_3.toInt ≤ 390 → (f0_3_3.toInt + f0_0_22.toInt = f4_.toInt + f3_.toInt) → (f0_0_22.toInt ≤ f3_.toInt) → (f0_0_22.toInt + f2_.toInt ≤ f3_.toInt + f0_0_19.toInt) → (f0_0_22.toInt ≤ f0_0_19.toInt + f1_.toInt) → (f0_3_3.toInt ≤ 390) → (f0_0_22.toInt ≤ 390) → (-60 ≤ f0_0_19.toInt) → (f0_0_22.toInt - 0).toNat < n0 → Wd dC dI A s.heap H locs w15 → TW ksM ad cy B qr 12 w15 → FE ksM [(12, 19, 19), (12, 22, 22), (61, 0, 2400), (62, 0, 7)] w0 w15 → gi w15 0 17 = 3 → gi w15 0 18 = f1_ → gi w15 0 19 = f0_0_19 → gi w15 0 22 = f0_0_22 → gi w15 3 3 = f0_3_3 → lv_has ls 2 [(0, .ref (ad 0)), (1, .int 1)] → W p l e ({ frames := 2, cells := 0, slots := 0, locals := 34 }) s m (List.toArray [.ref (ad 0), .int 1]) below meth c H locs 0 0 (MQ below (va_Qv (P_X12_settles_10 ad cy B qr s1  w0) (fun u : va_W => wpost dC dI cy A u) A) (List.toArray [.ref (ad 0), .int 1]) s 0 0 A) (F0 m 0 ls []) := by
    intro n0
    induction n0 with
    | zero => intro f0_0_19 f0_0_22 f0_3_3 H locs ls w15 r17 t18 r20 t21 r23 t24 r26 t27 hcr0_0 hcr0_1 hcr0_2 hcr0_3 hcr0_4 hcr0_5 hcr0_6 hm0 hw hT hF c16 c19 c22 c25 c28 hl; omega
    | succ n0 ih0 =>
      intro f0_0_19 f0_0_22 f0_3_3 H locs ls w15 r17 t18 r20 t21 r23 t24 r26 t27 hcr0_0 hcr0_1 hcr0_2 hcr0_3 hcr0_4 hcr0_5 hcr0_6 hm0 hw hT hF c16 c19 c22 c25 c28 hl
      refine lv_aload_n hx hb dX12_settles_0 rfl (lv_at hl 0 rfl) ?_
      refine tk_geti hC hK hw hT hinX12 kM_at0 (by decide) rfl 22 (by decide) (List.mem_of_getElem? (i := 1) rfl) rfl rfl dX12_settles_1 (fun x29 c30 rx29 tx29 => ?_)
      refine wk_top f0_0_22 (c30.symm.trans c25) ?_
      refine lv_if_le (tgt := 76) hx hb dX12_settles_4 (by decide) (fun c31 => ?_) (fun c31 => ?_)
      · have c31 : f0_0_22.toInt ≤ (0 : Int) := wk_le.mp c31
        exact J76 f0_0_19 f0_0_22 f0_3_3 H locs ls w15 (show 0 ≤ f1_.toInt by omega) (show f1_.toInt ≤ 60 by omega) (show (-60) ≤ f0_0_19.toInt by omega) (show f0_0_19.toInt ≤ 10 by omega) (show 0 ≤ f0_0_22.toInt by omega) (show f0_0_22.toInt ≤ 390 by omega) (show 0 ≤ f0_3_3.toInt by omega) (show f0_3_3.toInt ≤ 390 by omega) (show f0_3_3.toInt + f0_0_22.toInt = f4_.toInt + f3_.toInt by omega) (show f0_0_22.toInt ≤ f3_.toInt by omega) (show f0_0_22.toInt + f2_.toInt ≤ f3_.toInt + f0_0_19.toInt by omega) (show f0_0_22.toInt ≤ f0_0_19.toInt + f1_.toInt by omega) (show f0_3_3.toInt ≤ 390 by omega) (show f0_0_22.toInt ≤ 390 by omega) (show -60 ≤ f0_0_19.toInt by omega)  hw hT hF c16 c19 c22 c25 c28 (lv_sub hl [0, 1] rfl)
      · have c31 : (0 : Int) < f0_0_22.toInt := wk_leF c31
        refine lv_aload_n hx hb dX12_settles_7 rfl (lv_at hl 0 rfl) ?_
        refine tk_getA hC hK hw hT hinX12 kM_at0 (by decide) rfl 21 (by decide) (List.mem_of_getElem? (i := 2) rfl) rfl rfl dX12_settles_8 ?_
        refine lv_aload_n hx hb dX12_settles_11 rfl (lv_at hl 0 rfl) ?_
        refine tk_geti hC hK hw hT hinX12 kM_at0 (by decide) rfl 22 (by decide) (List.mem_of_getElem? (i := 1) rfl) rfl rfl dX12_settles_12 (fun x32 c33 rx32 tx32 => ?_)
        refine wk_top f0_0_22 (c33.symm.trans c25) ?_
        refine lv_iconst (v := 1) hx hb dX12_settles_15 (by decide) ?_
        refine lv_isub hx hb dX12_settles_16 ?_
        refine lv_topi (fun x34 ex34 => ?_)
        have ex34 : x34.toInt = f0_0_22.toInt - (1 : Int) := by rw [ex34]; exact wk_sub (show (-2147483648) ≤ f0_0_22.toInt - (1 : Int) by omega) (show f0_0_22.toInt - (1 : Int) ≤ 2147483647 by omega)
        refine tk_iald hC hK hw hT kM_at9 rfl rfl (show 0 ≤ x34.toInt by omega) (show x34.toInt < 400 by omega) dX12_settles_17 (fun x35 c36 rx35 tx35 => ?_)
        refine tk_Si hC hK hw hT hA hE hSR (k_X12_strength_1 l adK adV dC dI cy ad B (by omega) (by omega) qr s1   x35 w15 H.size hT ) (va_cwS 1 hC.2.2.2.2 gX12_settles_X12_strength rfl rfl rfl (by decide +kernel) ⟨Nat.le_of_ble_eq_true rfl, Nat.le_of_ble_eq_true rfl⟩) rfl hl.1 rfl (Nat.le_of_ble_eq_true rfl) dX12_settles_18 (fun r37 w39 H locs hp38 hw => ?_)
        obtain ⟨rfl, hg43⟩ := hp38
        obtain ⟨g41, g42⟩ := hg43
        refine lv_iload_n hx hb dX12_settles_21 rfl (lv_at hl 1 rfl) ?_
        refine lv_icmp_lt (tgt := 76) hx hb dX12_settles_22 (by decide) (fun c44 => ?_) (fun c44 => ?_)
        · have c44 : r37.toInt < (1 : Int) := wk_lt.mp c44
          exact J76 f0_0_19 f0_0_22 f0_3_3 H locs ls w15 (show 0 ≤ f1_.toInt by omega) (show f1_.toInt ≤ 60 by omega) (show (-60) ≤ f0_0_19.toInt by omega) (show f0_0_19.toInt ≤ 10 by omega) (show 0 ≤ f0_0_22.toInt by omega) (show f0_0_22.toInt ≤ 390 by omega) (show 0 ≤ f0_3_3.toInt by omega) (show f0_3_3.toInt ≤ 390 by omega) (show f0_3_3.toInt + f0_0_22.toInt = f4_.toInt + f3_.toInt by omega) (show f0_0_22.toInt ≤ f3_.toInt by omega) (show f0_0_22.toInt + f2_.toInt ≤ f3_.toInt + f0_0_19.toInt by omega) (show f0_0_22.toInt ≤ f0_0_19.toInt + f1_.toInt by omega) (show f0_3_3.toInt ≤ 390 by omega) (show f0_0_22.toInt ≤ 390 by omega) (show -60 ≤ f0_0_19.toInt by omega)  hw hT hF c16 c19 c22 c25 c28 (lv_sub hl [0, 1] rfl)
        · have c44 : (1 : Int) ≤ r37.toInt := wk_ltF c44
          refine lv_aload_n hx hb dX12_settles_25 rfl (lv_at hl 0 rfl) ?_
          refine lv_dup hx hb dX12_settles_26 rfl ?_
          refine tk_geti hC hK hw hT hinX12 kM_at0 (by decide) rfl 22 (by decide) (List.mem_of_getElem? (i := 1) rfl) rfl rfl dX12_settles_27 (fun x45 c46 rx45 tx45 => ?_)
          refine wk_top f0_0_22 (c46.symm.trans c25) ?_
          refine lv_iconst (v := 1) hx hb dX12_settles_30 (by decide) ?_
          refine lv_isub hx hb dX12_settles_31 ?_
          refine lv_topi (fun x47 ex47 => ?_)
          have ex47 : x47.toInt = f0_0_22.toInt - (1 : Int) := by rw [ex47]; exact wk_sub (show (-2147483648) ≤ f0_0_22.toInt - (1 : Int) by omega) (show f0_0_22.toInt - (1 : Int) ≤ 2147483647 by omega)
          refine tk_puti hC hK hw hT hinX12 tyX12_ok nmX12 kM_at0 (by decide) rfl rfl 22 (by decide) (List.mem_of_getElem? (i := 1) rfl) rfl rfl rfl rfl (show 0 ≤ x47.toInt by omega) (show x47.toInt ≤ 400 by omega) dX12_settles_32 (fun H locs w48 hw hT k50 c49 => ?_)
          have hF := hF.put kM_at0 (k := 22) (by decide) k50
          have c51 := k50.gi (Or.inr (by decide)) c16
          have c52 := k50.gi (Or.inr (by decide)) c19
          have c53 := k50.gi (Or.inr (by decide)) c22
          have c54 := k50.gi (Or.inr (by decide)) c28
          refine lv_aload_n hx hb dX12_settles_35 rfl (lv_at hl 0 rfl) ?_
          refine lv_aload_n hx hb dX12_settles_36 rfl (lv_at hl 0 rfl) ?_
          refine tk_getA hC hK hw hT hinX12 kM_at0 (by decide) rfl 21 (by decide) (List.mem_of_getElem? (i := 2) rfl) rfl rfl dX12_settles_37 ?_
          refine lv_aload_n hx hb dX12_settles_40 rfl (lv_at hl 0 rfl) ?_
          refine tk_geti hC hK hw hT hinX12 kM_at0 (by decide) rfl 22 (by decide) (List.mem_of_getElem? (i := 1) rfl) rfl rfl dX12_settles_41 (fun x55 c56 rx55 tx55 => ?_)
          refine wk_top x47 (c56.symm.trans c49) ?_
          refine tk_iald hC hK hw hT kM_at9 rfl rfl (show 0 ≤ x47.toInt by omega) (show x47.toInt < 400 by omega) dX12_settles_44 (fun x57 c58 rx57 tx57 => ?_)
          refine lv_iconst (v := 0) hx hb dX12_settles_45 (by decide) ?_
          refine tk_Vv hC hK hw hT hA hE hSR kM_at0 (by decide) rfl (k_X12_puts_7 l adK adV dC dI cy ad B (by omega) (by omega) qr s1   x57 0 w48 H.size hT c51 f0_3_3 c54 (show 0 ≤ f0_3_3.toInt by omega) (show f0_3_3.toInt ≤ 400 by omega) (show f0_3_3.toInt ≤ 399 by omega)) (cwV 2 hC.2.2.2.2 gX12_settles_X12_puts rfl rfl rfl (by decide +kernel) ⟨Nat.le_of_ble_eq_true rfl, Nat.le_of_ble_eq_true rfl⟩) rfl hl.1 rfl (Nat.le_of_ble_eq_true rfl) dX12_settles_46 (fun w61 H locs hp60 hw => ?_)
          obtain ⟨hT, k62, hg66⟩ := hp60
          have hF := hF.tr k62 (by decide)
          have c67 := k62.gi kM_at0 (by decide) c51
          have c68 := k62.gi kM_at0 (by decide) c52
          have c69 := k62.gi kM_at0 (by decide) c53
          have c70 := k62.gi kM_at0 (by decide) c49
          obtain ⟨⟨x63, c64, rx63, tx63⟩, g65⟩ := hg66
          have ex63 : x63.toInt = (3 : Int) := by rw [show x63 = 3 from c64.symm.trans c67]; decide
          obtain ⟨x71, c72, rx71, tx71⟩ := hT.rda (lo := 0) (hi := 400) (i := 3) kM_at3 rfl rfl (by decide)
          have g65 : x71.toInt = f0_3_3.toInt + 1 := by have q := g65; simp only [c54, c72] at q; omega
          refine lv_aload_n hx hb dX12_settles_49 rfl (lv_at hl 0 rfl) ?_
          refine tk_getA hC hK hw hT hinX12 kM_at0 (by decide) rfl 21 (by decide) (List.mem_of_getElem? (i := 2) rfl) rfl rfl dX12_settles_50 ?_
          refine lv_aload_n hx hb dX12_settles_53 rfl (lv_at hl 0 rfl) ?_
          refine tk_geti hC hK hw hT hinX12 kM_at0 (by decide) rfl 22 (by decide) (List.mem_of_getElem? (i := 1) rfl) rfl rfl dX12_settles_54 (fun x73 c74 rx73 tx73 => ?_)
          refine wk_top x47 (c74.symm.trans c70) ?_
          refine tk_iald hC hK hw hT kM_at9 rfl rfl (show 0 ≤ x47.toInt by omega) (show x47.toInt < 400 by omega) dX12_settles_57 (fun x75 c76 rx75 tx75 => ?_)
          refine lv_bipush (v := 11) hx hb dX12_settles_58 (by decide) ?_
          refine lv_icmp_ne (tgt := 0) hx hb dX12_settles_60 (by decide) (fun c77 => ?_) (fun c77 => ?_)
          · have c77 : ¬ x75.toInt = (11 : Int) := wk_eqF c77
            exact ih0 f0_0_19 x47 x71 H locs ls w61 (show 0 ≤ f1_.toInt by omega) (show f1_.toInt ≤ 60 by omega) (show (-60) ≤ f0_0_19.toInt by omega) (show f0_0_19.toInt ≤ 10 by omega) (show 0 ≤ x47.toInt by omega) (show x47.toInt ≤ 390 by omega) (show 0 ≤ x71.toInt by omega) (show x71.toInt ≤ 390 by omega) (show x71.toInt + x47.toInt = f4_.toInt + f3_.toInt by omega) (show x47.toInt ≤ f3_.toInt by omega) (show x47.toInt + f2_.toInt ≤ f3_.toInt + f0_0_19.toInt by omega) (show x47.toInt ≤ f0_0_19.toInt + f1_.toInt by omega) (show x71.toInt ≤ 390 by omega) (show x47.toInt ≤ 390 by omega) (show -60 ≤ f0_0_19.toInt by omega) (show (x47.toInt - 0).toNat < n0 by omega) hw hT hF c67 c68 c69 c70 c72 (lv_sub hl [0, 1] rfl)
          · have c77 : x75.toInt = (11 : Int) := wk_eq.mp c77
            refine lv_aload_n hx hb dX12_settles_63 rfl (lv_at hl 0 rfl) ?_
            refine lv_dup hx hb dX12_settles_64 rfl ?_
            refine tk_geti hC hK hw hT hinX12 kM_at0 (by decide) rfl 19 (by decide) (List.mem_of_getElem? (i := 3) rfl) rfl rfl dX12_settles_65 (fun x78 c79 rx78 tx78 => ?_)
            refine wk_top f0_0_19 (c79.symm.trans c69) ?_
            refine lv_iconst (v := 1) hx hb dX12_settles_68 (by decide) ?_
            refine lv_isub hx hb dX12_settles_69 ?_
            refine lv_topi (fun x80 ex80 => ?_)
            have ex80 : x80.toInt = f0_0_19.toInt - (1 : Int) := by rw [ex80]; exact wk_sub (show (-2147483648) ≤ f0_0_19.toInt - (1 : Int) by omega) (show f0_0_19.toInt - (1 : Int) ≤ 2147483647 by omega)
            refine tk_puti hC hK hw hT hinX12 tyX12_ok nmX12 kM_at0 (by decide) rfl rfl 19 (by decide) (List.mem_of_getElem? (i := 3) rfl) rfl rfl rfl rfl (show (-100) ≤ x80.toInt by omega) (show x80.toInt ≤ 10 by omega) dX12_settles_70 (fun H locs w81 hw hT k83 c82 => ?_)
            have hF := hF.put kM_at0 (k := 19) (by decide) k83
            have c84 := k83.gi (Or.inr (by decide)) c67
            have c85 := k83.gi (Or.inr (by decide)) c68
            have c86 := k83.gi (Or.inr (by decide)) c70
            have c87 := k83.gi (Or.inr (by decide)) c72
            refine lv_goto (tgt := 0) hx hb dX12_settles_73 (by decide) ?_
            exact ih0 x80 x47 x71 H locs ls w81 (show 0 ≤ f1_.toInt by omega) (show f1_.toInt ≤ 60 by omega) (show (-60) ≤ x80.toInt by omega) (show x80.toInt ≤ 10 by omega) (show 0 ≤ x47.toInt by omega) (show x47.toInt ≤ 390 by omega) (show 0 ≤ x71.toInt by omega) (show x71.toInt ≤ 390 by omega) (show x71.toInt + x47.toInt = f4_.toInt + f3_.toInt by omega) (show x47.toInt ≤ f3_.toInt by omega) (show x47.toInt + f2_.toInt ≤ f3_.toInt + x80.toInt by omega) (show x47.toInt ≤ x80.toInt + f1_.toInt by omega) (show x71.toInt ≤ 390 by omega) (show x47.toInt ≤ 390 by omega) (show -60 ≤ x80.toInt by omega) (show (x47.toInt - 0).toNat < n0 by omega) hw hT hF c84 c85 c82 c86 c87 (lv_sub hl [0, 1] rfl)
  exact L0 ((f3_.toInt - 0).toNat + 1) f2_ f3_ f4_ s.heap locs ls w0 (show 0 ≤ f1_.toInt by omega) (show f1_.toInt ≤ 60 by omega) (show (-60) ≤ f2_.toInt by omega) (show f2_.toInt ≤ 10 by omega) (show 0 ≤ f3_.toInt by omega) (show f3_.toInt ≤ 390 by omega) (show 0 ≤ f4_.toInt by omega) (show f4_.toInt ≤ 390 by omega) (show f4_.toInt + f3_.toInt = f4_.toInt + f3_.toInt by omega) (show f3_.toInt ≤ f3_.toInt by omega) (show f3_.toInt + f2_.toInt ≤ f3_.toInt + f2_.toInt by omega) (show f3_.toInt ≤ f2_.toInt + f1_.toInt by omega) (show f4_.toInt ≤ 390 by omega) (show f3_.toInt ≤ 390 by omega) (show -60 ≤ f2_.toInt by omega) (Nat.lt_succ_self _) hw hT hF cf0_ cf1_ cf2_ cf3_ cf4_ (lv_sub hl [0, 1] rfl)
